/-! THE PURE SIDE: game and class agree in all that is asked -/
/-- the class remembers its changes -/
def HI (σ : St) : Prop := ∃ nxt cnt : Nat, nxt < 8 ∧ cnt ≤ 8 ∧ gI σ 120 1 = nI nxt ∧ gI σ 120 2 = nI cnt
theorem HI.cq {σ σ' : St} (h : HI σ) (u : Un cQ σ σ') : HI σ' := by
  obtain ⟨nxt, cnt, h1, h2, h3, h4⟩ := h
  have e : gI σ' 120 = gI σ 120 := u.I (by unfold cQ; omega)
  exact ⟨nxt, cnt, h1, h2, by rw [e]; exact h3, by rw [e]; exact h4⟩
theorem cntE_eq {τ : St} {f : Nat → Bool} : ∀ k, (∀ t, t < k → f t = decide (gI τ 1003 t ≠ 0)) → cntE τ k = nI (cntB f k)
  | 0, _ => rfl
  | k + 1, h => by
    rw [cntE, cntE_eq k (fun t ht => h t (by omega)), cntB, h k (by omega)]
    by_cases c : gI τ 1003 k = 0
    · rw [if_pos c, decide_eq_false (fun q => q c)]
      show nI (cntB f k) + nI 0 = _
      rw [nI_add]; rfl
    · rw [if_neg c, decide_eq_true c]
      exact nI_1 _
theorem asc_enc {l : List Nat} (h : ∀ x ∈ l, x < 10) : asc (enc [] l) := by
  intro i
  unfold enc
  rw [List.nil_append, List.getD_eq_getElem?_getD, List.getElem?_map]
  cases e : l[i]? with
  | none => exact (by decide : (0 : Nat) < 128)
  | some x =>
    have := h x (List.mem_of_getElem? e)
    show 48 + x < 128
    omega
theorem tB_enc {l : List Nat} {i x : Nat} (h : l[i]? = some x) : tB (enc [] l) i - 48 = nI x := by
  unfold tB enc
  rw [List.nil_append, List.getD_eq_getElem?_getD, List.getElem?_map, h]
  show nI (48 + x) - nI 48 = _
  rw [pk_sub (by omega), Nat.add_sub_cancel_left]
section
variable {so le q : Nat} {rd : Nat → Int32} {σ τ : St} {B : Nat}
theorem done_row (V : VQ rd (53 + 186 * q)) (hG : GX so le q rd τ) : ∀ k, k ≤ nS rd (53 + 186 * q) → doneA τ k = nI (msk k (fun s => decide (rd (53 + 186 * q + 6 + 30 * s + 3) = 1)))
  | 0, _ => rfl
  | k + 1, h => by
    have hn := V.n
    rw [doneA, done_row V hG k (by omega), (hG.2.2.2.2.2.2 k (by omega)).2.2.2.2.2.1, msk, shl1 k (by omega)]
    obtain ⟨x, e1, e2, e3⟩ := (V.s (show k < nS rd (53 + 186 * q) by omega)).2.2.2.1.get
    rw [e1]
    rcases (by omega : x = 0 ∨ x = 1) with rfl | rfl
    · rw [if_pos (show nI 0 = (0 : Int32) from rfl), if_neg (by decide)]
      exact or_nI _ 0
    · rw [if_neg (show ¬ nI 1 = (0 : Int32) by decide), if_pos (by decide), or_nI]
theorem gdone (V : VQ rd (53 + 186 * q)) (hQ : GQ so le q rd) (hG : GX so le q rd τ) : pf_X11_done 1000 τ = some (nI (dnM rd (53 + 186 * q))) := by
  rw [done_eq hG.1 hQ.2.2.1, done_row V hG _ (Nat.le_refl _)]
  rfl
theorem bro_row (V : VQ rd (53 + 186 * q)) (hG : GX so le q rd τ) : ∀ k, k ≤ nS rd (53 + 186 * q) → broA τ k = nI (msk k (cB rd (53 + 186 * q)))
  | 0, _ => rfl
  | k + 1, h => by
    have hn := V.n
    have hk : k < nS rd (53 + 186 * q) := by omega
    have vs := V.s hk
    rw [broA, bro_row V hG k (by omega), (hG.2.2.2.2.2.2 k hk).2.1, (hG.2.2.2.2.2.2 k hk).2.2.1, msk, shl1 k (by omega)]
    obtain ⟨x, e1, e2, e3⟩ := vs.2.1.1.get
    obtain ⟨y, f1, f2, f3⟩ := vs.2.2.1.1.get
    unfold cB
    rw [e3, f3, e1, f1]
    by_cases c : y = x
    · rw [if_pos (by rw [c]), if_pos (decide_eq_true c), or_nI]
    · rw [if_neg (fun h => c ((nI_eq (by omega) (by omega)).mp h)), if_neg (fun h => c (of_decide_eq_true h))]
      exact or_nI _ 0
theorem can_row {cF : Nat → Int32} {f : Nat → Bool} : ∀ k, k ≤ 6 → (∀ s, s < k → cF s = b2i (f s)) → canA cF k = nI (msk k f)
  | 0, _, _ => rfl
  | k + 1, h, hf => by
    rw [canA, can_row k (by omega) (fun s hs => hf s (by omega)), hf k (by omega), msk, shl1 k (by omega), if_b2]
    cases f k with
    | true => exact or_nI _ _
    | false => exact or_nI _ 0
theorem look_ok (V : VQ rd (53 + 186 * q)) (hQ : GQ so le q rd) (hG : GX so le q rd τ) (hS : ∀ i, i < 8 → 0 ≤ stk rd i ∧ stk rd i ≤ 50000000) (hst : ∀ i, i < 8 → rd (5 + i) = nI (Nn (rd (5 + i)))) : ∃ τ', lookF (nS rd (53 + 186 * q)) τ = some ((bpW (gl rd (53 + 186 * q)) (cnG rd q (stk rd) (dnM rd (53 + 186 * q))) (nS rd (53 + 186 * q)) 5 (dnM rd (53 + 186 * q))).map (enc []), τ') ∧ Sm τ τ' ∧ gI τ' 1000 7 = nI (mnR 100000 (rsW (gl rd (53 + 186 * q)) (cnG rd q (stk rd) (dnM rd (53 + 186 * q))) (cR rd (53 + 186 * q)) (nS rd (53 + 186 * q)) 5 (dnM rd (53 + 186 * q))) 0) ∧ ∀ x, x < 64 → (enW (gl rd (53 + 186 * q)) (cnG rd q (stk rd) (dnM rd (53 + 186 * q))) (nS rd (53 + 186 * q)) 5 (dnM rd (53 + 186 * q)) x → gI τ' 1003 x = 1) ∧ (¬ enW (gl rd (53 + 186 * q)) (cnG rd q (stk rd) (dnM rd (53 + 186 * q))) (nS rd (53 + 186 * q)) 5 (dnM rd (53 + 186 * q)) x → gI τ' 1003 x = 0) := by
  have hd := dnM_64 V
  have h4 := hQ.2.2.1
  have m : Sm τ (lookS τ) := (Sm.saf _ _).trans (Sm.row _ _ (Or.inl rfl))
  have hG' := hG.sm h4 m
  have hm := mis_le _ h4 _ hd
  obtain ⟨τ', e1, e2, e3, e4⟩ := goW_ok (d0 := dnM rd (53 + 186 * q)) V hQ hS 5 1002 (Or.inl rfl) [] (dnM rd (53 + 186 * q)) 0 none (lookS τ) 100000 hG' (dnM_pow rd _) (fun _ h => h) (by omega) (fun i hi => by
    rw [hG'.2.2.2.2.2.1 i hi, df_self, bh_0, hst i (by omega), ← iI_nat]; rfl) (by omega) (Nat.le_refl _) (by
    show gI (rowI (sI τ 1000 7 100000) 1003 (fun _ => 0)) 1000 7 = _
    rw [gI_rowNe _ _ (by decide), gI_at]; rfl)
  have e0 : ∀ x, gI (lookS τ) 1003 x = 0 := fun x => by
    show gI (rowI (sI τ 1000 7 100000) 1003 (fun _ => 0)) 1003 x = 0
    rw [gI_row]
  refine ⟨τ', ?_, m.trans e2, e3, fun x hx => ⟨(e4 x hx).1, fun h => ((e4 x hx).2 h).trans (e0 x)⟩⟩
  unfold lookF
  rw [gdone V hQ hG', bind_some]
  rw [bet_none] at e1
  exact e1
end
section
variable {so le : Nat} {rd : Nat → Int32} {σ τ : St} {B : Nat}
theorem ask_ok {K : St → St → Prop} (X : CX σ rd B) (h1 : Qn rd = 1) (hH : HI σ) (hQ : GQ so le 0 rd) (hG : GX so le 0 rd τ) (hK : ∀ σ' τ', CX σ' rd B → HI σ' → GX so le 0 rd τ' → K σ' τ') : AskOK (nS rd (53 + 186 * 0)) σ τ K := by
  have hq : 0 < Qn rd := by omega
  have V := X.V hq
  have hn := V.n
  have h4 := hQ.2.2.1
  have hd := dnM_64 V
  have hc4 : OKn (cnG rd 0 (stk rd) (dnM rd (53 + 186 * 0))) (nS rd (53 + 186 * 0)) := cnG_n hn.1
  have hm := mis_le _ h4 _ hd
  have hst : ∀ i, i < 8 → rd (5 + i) = nI (Nn (rd (5 + i))) := fun i hi => (X.stock hi).1
  obtain ⟨τ', e1, e2, e3, e4⟩ := look_ok V hQ hG X.S hst
  have hG' := hG.sm h4 e2
  have ecan : ∀ k, k < nS rd (53 + 186 * 0) → pf_X11_can 1000 (nI k) (nI (dnM rd (53 + 186 * 0))) 1002 τ' = some (b2i (cnG rd 0 (stk rd) (dnM rd (53 + 186 * 0)) (dnM rd (53 + 186 * 0)) k)) := fun k hk => can_eq V hQ hG' X.S hd hk (fun i hi => by rw [hG'.2.2.2.2.2.1 i hi, df_self, bh_0, hst i (by omega), ← iI_nat]; rfl)
  have hIP : ∀ {f : St → Option ((Nat ⊕ Int32) × St)} {r : Int32}, (∀ s, CX s rd B → ∃ s', f s = some (.inr r, s') ∧ Un cQ s s') → IaP (fun s => CX s rd B ∧ HI s) f r := fun hf s ⟨a, b⟩ => by
    obtain ⟨s', g1, g2⟩ := hf s a
    exact ⟨s', g1, a.cq g2, b.cq g2⟩
  refine ⟨fun s => CX s rd B ∧ HI s, nI (dnM rd (53 + 186 * 0)), fun k => b2i (cnG rd 0 (stk rd) (dnM rd (53 + 186 * 0)) (dnM rd (53 + 186 * 0)) k), _, τ', ⟨X, hH⟩, e1, gdone V hQ hG', fun G hg s ⟨Xs, _⟩ => ?_, fun s ⟨Xs, Hs⟩ => hK s τ' Xs Hs hG', ?_⟩
  · unfold IaQ
    rw [hg]
    obtain ⟨u1, u2, u3, u4⟩ := u_quest Xs hq
    refine ⟨fun k hk => ?_, fun i hi => ?_, ?_, u2, ?_, ?_, fun k hk => ⟨ecan k hk, ?_, ?_, ?_⟩⟩
    · have h16 : k < 64 := by
        have := Nat.pow_le_pow_right (n := 2) (by omega) h4
        omega
      exact ⟨_, u_holds Xs hq h16, hold_eq hQ hG' hk⟩
    · rw [hG'.2.2.2.2.2.1 i hi]; exact u_stock Xs (by omega)
    · rw [hG'.2.1]; exact u1
    · rw [bro_row V hG' _ (Nat.le_refl _)]; exact u3
    · rw [can_row (f := cnG rd 0 (stk rd) (dnM rd (53 + 186 * 0)) (dnM rd (53 + 186 * 0))) _ (by omega) (fun s _ => rfl)]; exact u4
    · rw [(hG'.2.2.2.2.2.2 k hk).2.2.1]; exact (u_step Xs hq hk).1
    · rw [(hG'.2.2.2.2.2.2 k hk).2.2.2.2.2.1]
      have h3 := (u_step Xs hq hk).2.1
      obtain ⟨x, f1, f2, f3⟩ := (V.s hk).2.2.2.1.get
      rw [f1] at h3 ⊢
      rcases (by omega : x = 0 ∨ x = 1) with rfl | rfl
      · exact h3
      · exact h3
    · refine ⟨_, (u_step Xs hq hk).2.2, ?_⟩
      have hle : hcd rd (53 + 186 * 0) (stk rd) k ≤ 5 := by
        unfold hcd
        split
        · exact hcode_le
        · omega
      have e := hcode_cn (S := stk rd) (s := k) hk
      have eb : (if nI (hcd rd (53 + 186 * 0) (stk rd) k) = 0 then (1 : Int32) else 0) = (if hcd rd (53 + 186 * 0) (stk rd) k = 0 then 1 else 0) := if_0 (by omega) _ _
      rw [eb]
      unfold cnG hcd
      show (if (if rd (53 + 186 * 0 + 1) = 0 then hcode rd (53 + 186 * 0) (stk rd) (dnM rd (53 + 186 * 0)) k else 1) = 0 then (1 : Int32) else 0) = b2i (decide (rd (53 + 186 * 0 + 1) = 0) && cnR rd (53 + 186 * 0) (stk rd) (dnM rd (53 + 186 * 0)) (dnM rd (53 + 186 * 0)) k)
      rw [e]
      by_cases c : rd (53 + 186 * 0 + 1) = 0
      · rw [if_pos c, decide_eq_true c, Bool.true_and]
        by_cases c2 : hcode rd (53 + 186 * 0) (stk rd) (dnM rd (53 + 186 * 0)) k = 0
        · rw [if_pos c2, decide_eq_true c2]; rfl
        · rw [if_neg c2, decide_eq_false c2]; rfl
      · rw [if_neg c, decide_eq_false c, Bool.false_and, if_neg (by decide)]; rfl
  · have eb := bpW_eq hc4 h4 5 (dnM rd (53 + 186 * 0)) hd (by omega) (g := gl rd (53 + 186 * 0))
    have er := rsW_eq hc4 h4 5 (dnM rd (53 + 186 * 0)) hd (by omega) (g := gl rd (53 + 186 * 0)) (w := cR rd (53 + 186 * 0))
    cases hp : posb rd (53 + 186 * 0) (stk rd) with
    | true =>
      obtain ⟨p1, p2, p3⟩ := posb_t V hp
      have ecn : cnG rd 0 (stk rd) (dnM rd (53 + 186 * 0)) = cnR rd (53 + 186 * 0) (stk rd) (dnM rd (53 + 186 * 0)) := by
        funext u k
        unfold cnG
        rw [decide_eq_true p1, Bool.true_and]
      rw [ecn] at eb er e3 e4 ⊢
      have hc : OKc (cnR rd (53 + 186 * 0) (stk rd) (dnM rd (53 + 186 * 0))) := cnR_ok hn.1
      rw [p2] at eb
      left
      have hps : ∀ j, j < plN rd (53 + 186 * 0) (stk rd) → stp (gl rd (53 + 186 * 0)) (cnR rd (53 + 186 * 0) (stk rd) (dnM rd (53 + 186 * 0))) (plS (gl rd (53 + 186 * 0)) (cnR rd (53 + 186 * 0) (stk rd) (dnM rd (53 + 186 * 0))) j (dnM rd (53 + 186 * 0))) < nS rd (53 + 186 * 0) := fun j hj => (plan_st V hp hj).2.2
      refine ⟨enc [] (plL (gl rd (53 + 186 * 0)) (cnR rd (53 + 186 * 0) (stk rd) (dnM rd (53 + 186 * 0))) (plN rd (53 + 186 * 0) (stk rd)) (dnM rd (53 + 186 * 0))), by rw [eb]; rfl, hG'.2.1.trans p1, asc_enc (fun x hx => ?_), hIP fun s Xs => ?_, hIP fun s Xs => ?_, hIP fun s Xs => ?_, hIP fun s Xs => ?_, fun s ⟨Xs, Hs⟩ => ?_, hIP fun s Xs => ?_, fun k hk => hIP fun s Xs => ?_⟩
      · obtain ⟨i, hi⟩ := List.mem_iff_getElem?.mp hx
        have hi2 : i < plN rd (53 + 186 * 0) (stk rd) := by
          have := (List.getElem?_eq_some_iff.mp hi).1
          rw [plL_len] at this
          exact this
        rw [plL_at _ i _ hi2] at hi
        have := hps i hi2
        have e := Option.some.inj hi
        omega
      · have := u_possible Xs hq
        rw [hp] at this
        exact this
      · have := u_planLength Xs hq
        rw [hp] at this
        rw [enc_len, plL_len, List.length_nil, Nat.zero_add]
        exact this
      · have := u_safest Xs hq
        rw [hp] at this
        have es : gI τ' 1000 7 = nI (sfN rd (53 + 186 * 0) (stk rd)) := by
          rw [e3, er]
          unfold sfN
          cases hs : gF (gl rd (53 + 186 * 0)) (cnR rd (53 + 186 * 0) (stk rd) (dnM rd (53 + 186 * 0))) (cR rd (53 + 186 * 0)) (dnM rd (53 + 186 * 0)) with
          | none => rw [gF_isSome hc hd hs] at p2; cases p2
          | some x =>
            have := sb_le V hd hs
            show nI (min 100000 (x + 0)) = nI x
            congr 1
            omega
        rw [es]
        exact this
      · have := u_state8 Xs h1
        rw [hp] at this
        exact this
      · obtain ⟨s', b1, b2⟩ := u_best Xs h1
        rw [hp] at b1
        exact ⟨s', b1, Xs.cq b2, Hs.cq b2⟩
      · rw [cntE_eq (f := fun t => decide (gI τ' 1003 t ≠ 0)) 64 (fun t _ => rfl)]
        refine u_endings Xs hq fun t ht => ?_
        rw [decide_eq_true_eq]
        obtain ⟨f1, f2⟩ := e4 t ht
        have f3 := enW_eq (by rw [← ecn]; exact hc4) h4 5 (dnM rd (53 + 186 * 0)) t hd (by omega) (g := gl rd (53 + 186 * 0)) (cn := cnR rd (53 + 186 * 0) (stk rd) (dnM rd (53 + 186 * 0)))
        unfold EnD
        constructor
        · intro h
          by_cases c : enW (gl rd (53 + 186 * 0)) (cnR rd (53 + 186 * 0) (stk rd) (dnM rd (53 + 186 * 0))) (nS rd (53 + 186 * 0)) 5 (dnM rd (53 + 186 * 0)) t
          · exact ⟨p1, f3.mp c⟩
          · exact absurd (f2 c) h
        · rintro ⟨_, h⟩
          rw [f1 (f3.mpr h)]
          decide
      · rw [enc_len, plL_len, List.length_nil, Nat.zero_add] at hk
        rw [tB_enc (plL_at _ k _ hk)]
        exact u_planStep Xs hq hp hk
    | false =>
      right
      refine ⟨?_, hIP fun s Xs => ?_, hIP fun s Xs => ?_, hIP fun s Xs => ?_, hIP fun s Xs => ?_, fun s ⟨Xs, Hs⟩ => ?_, hIP fun s Xs => ?_⟩
      · by_cases c : rd (53 + 186 * 0 + 1) = 0
        · right
          have ecn : cnG rd 0 (stk rd) (dnM rd (53 + 186 * 0)) = cnR rd (53 + 186 * 0) (stk rd) (dnM rd (53 + 186 * 0)) := by
            funext u k
            unfold cnG
            rw [decide_eq_true c, Bool.true_and]
          rw [ecn, posb_f hp c] at eb
          rw [ecn, eb]; rfl
        · left
          rw [hG'.2.1]; exact c
      · have := u_possible Xs hq
        rw [hp] at this
        exact this
      · have := u_planLength Xs hq
        rw [hp] at this
        exact this
      · have := u_safest Xs hq
        rw [hp] at this
        exact this
      · have := u_state8 Xs h1
        rw [hp] at this
        exact this
      · obtain ⟨s', b1, b2⟩ := u_best Xs h1
        rw [hp] at b1
        exact ⟨s', b1, Xs.cq b2, Hs.cq b2⟩
      · have : nI (cntB (fun _ => false) 64) = 0 := by
          have h0 : ∀ k, cntB (fun _ => false) k = 0 := by
            intro k
            induction k with
            | zero => rfl
            | succ k ih => rw [cntB, ih]; rfl
          rw [h0]; rfl
        rw [← this]
        refine u_endings Xs hq fun t ht => ⟨fun h => absurd h (by decide), fun ⟨a1, ⟨l, a2⟩, a3⟩ => ?_⟩
        obtain ⟨w, w1, _⟩ := gF_le (w := one) (cnR_ok hn.1) l _ t hd a2 a3
        rw [posb_f hp a1] at w1
        cases w1
end
