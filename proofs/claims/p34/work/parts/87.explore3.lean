theorem bit_msk6 {f : Nat → Bool} (h : ∀ k, f k = true → k < 6) (k : Nat) : (msk 6 f).testBit k = f k := by
  rw [msk_bit]
  cases e : f k with
  | false => simp
  | true => simp [h k e]
theorem omin_99 {A B : Option Nat} (hA : ∀ a, A = some a → a ≤ 99) (hB : ∀ a, B = some a → a ≤ 6) : (omin A (B.map (· + 1))).getD 99 = min (A.getD 99) (B.getD 99 + 1) := by
  cases A with
  | none =>
    cases B with
    | none => rfl
    | some b => have := hB b rfl; show b + 1 = min 99 (b + 1); omega
  | some a =>
    have := hA a rfl
    cases B with
    | none => show a = min a 100; omega
    | some b => rfl
/-- the values that explore leaves -/
def tgF (rd : Nat → Int32) (b : Nat) (S : Nat → Int) (d u : Nat) : Nat := (gF (gl rd b) (cnR rd b S d) one u).getD 99
theorem least_ok {s : St} {rd : Nat → Int32} {b u d : Nat} {S : Nat → Int} (hn : nS rd b ≤ 6) (hu : u < 64) (hg : gl rd b u = false) (hst : gI s 604 u = nI (msk 6 (cnR rd b S d u))) (hto : ∀ k, cnR rd b S d u k = true → gI s 605 (nx u k) = nI (tgF rd b S d (nx u k))) : pf_X7_leastToGo 602 (nI u) s = some (nI (tgF rd b S d u)) := by
  have hc := cnR_ok (S := S) (d := d) hn
  let f : Nat → Option Nat := fun k => if cnR rd b S d u k then (gF (gl rd b) (cnR rd b S d) one (nx u k)).map (· + 1) else none
  have hf : gF (gl rd b) (cnR rd b S d) one u = mins 6 f := gF_step hc hu hg
  have hB : ∀ k, cnR rd b S d u k = true → ∀ a, gF (gl rd b) (cnR rd b S d) one (nx u k) = some a → a ≤ 6 := fun k hk a ha => gF_le6 hc (nx_64 u hu k (hc u k hk).1) ha
  have hA : ∀ j a, mins j f = some a → a ≤ 99 := fun j a ha => by
    obtain ⟨k, _, h2⟩ := mins_at j a ha
    by_cases hk : cnR rd b S d u k = true
    · simp only [f, if_pos hk] at h2
      obtain ⟨m, e1, e2⟩ := Option.map_eq_some_iff.mp h2
      have := hB k hk m e1
      omega
    · simp only [f, if_neg hk] at h2; cases h2
  unfold pf_X7_leastToGo
  refine up_C (fun n i (v : Nat) => pf_X7_leastToGo_L5 s n 602 (nI u) (nI v) (nI i)) 6 (fun i v => v = (mins i f).getD 99) (fun r => r = some (nI (tgF rd b S d u))) ?_ ?_ FU 0 99 (Nat.zero_le _) rfl (lt_FU (by omega))
  · intro n v hv
    show pf_X7_leastToGo_L5 s (n + 1) 602 (nI u) (nI v) (nI 6) = _
    rw [pf_X7_leastToGo_L5, show (6 : Int32) = nI 6 from rfl, if_pos (nI_le (Nat.le_refl _) (by omega)), hv]
    unfold tgF
    rw [hf]
  · intro n i v hi hv
    refine Or.inr ?_
    show ∃ v', pf_X7_leastToGo_L5 s (n + 1) 602 (nI u) (nI v) (nI i) = pf_X7_leastToGo_L5 s n 602 (nI u) (nI v') (nI (i + 1)) ∧ v' = _
    have hm : msk 6 (cnR rd b S d u) < 64 := msk_64 _ (Nat.le_refl _)
    rw [pf_X7_leastToGo_L5, show (6 : Int32) = nI 6 from rfl, if_neg (nI_ge hi (by omega)), at_ok al604 hu, bind_some, hst, if_u (by omega) (by omega), bit_msk6 (fun k hk => (hc u k hk).1)]
    have hv99 : v ≤ 99 := by
      rw [hv]
      cases e : mins i f with
      | none => decide
      | some a => exact hA i a e
    cases hcn : cnR rd b S d u i with
    | false =>
      refine ⟨v, ?_, ?_⟩
      · rw [if_neg Bool.false_ne_true, pf_X7_leastToGo_b45, bnd_e, nI_1]
      · rw [mins, show f i = none by simp only [f, hcn]; rfl, omin_none]; exact hv
    | true =>
      have ht : tgF rd b S d (nx u i) ≤ 99 := by
        unfold tgF
        cases e : gF (gl rd b) (cnR rd b S d) one (nx u i) with
        | none => decide
        | some a => have := hB i hcn a e; show a ≤ 99; omega
      refine ⟨min v (tgF rd b S d (nx u i) + 1), ?_, ?_⟩
      · rw [if_pos rfl, nx_nI u i hi, at_ok al605 (nx_64 u hu i hi), bind_some, hto i hcn, nI_1, min7 _ _ (by omega) (by omega), bind_some, pf_X7_leastToGo_b45, bnd_e, nI_1]
      · rw [mins, show f i = (gF (gl rd b) (cnR rd b S d) one (nx u i)).map (· + 1) by simp only [f, hcn]; rfl, omin_99 (hA i) (hB i hcn), hv]
        rfl
def WS (rd : Nat → Int32) (b : Nat) (S : Nat → Int) (d : Nat) (op : Bool) (s : St) : Prop :=
  (∀ t, t < 64 → (gbit (gL s 602 3) t = true ↔ (op = true ∧ Rch (gl rd b) (cnR rd b S d) d t))) ∧
  (∀ u, u < 64 → (op = true ∧ Rch (gl rd b) (cnR rd b S d) d u ∧ gl rd b u = false → gI s 604 u = nI (msk 6 (cnR rd b S d u))) ∧ (¬ (op = true ∧ Rch (gl rd b) (cnR rd b S d) d u ∧ gl rd b u = false) → gI s 604 u = 0)) ∧
  (∀ u, u < 64 → (op = true ∧ Rch (gl rd b) (cnR rd b S d) d u → gI s 605 u = nI (tgF rd b S d u)) ∧ (¬ (op = true ∧ Rch (gl rd b) (cnR rd b S d) d u) → gI s 605 u = 99))
theorem WF.all {rd : Nat → Int32} {b : Nat} {S : Nat → Int} {d : Nat} {s : St} (hn : nS rd b ≤ 6) (hd : d < 64) (h : WF rd b S d (LL 64) s) : (∀ t, t < 64 → (gbit (gL s 602 3) t = true ↔ Rch (gl rd b) (cnR rd b S d) d t)) ∧ (∀ u, u < 64 → (Rch (gl rd b) (cnR rd b S d) d u ∧ gl rd b u = false → gI s 604 u = nI (msk 6 (cnR rd b S d u))) ∧ (¬ (Rch (gl rd b) (cnR rd b S d) d u ∧ gl rd b u = false) → gI s 604 u = 0)) := by
  have hc := cnR_ok (S := S) (d := d) hn
  refine ⟨fun t ht => ?_, fun u hu => ?_⟩
  · rw [h.1 t ht, Rch_iff]
    refine or_congr Iff.rfl ⟨fun ⟨u, j, a1, a2, a3, a4, a5⟩ => ⟨u, j, a2, a3, a4, a5⟩, fun ⟨u, j, a2, a3, a4, a5⟩ => ⟨u, j, ?_, a2, a3, a4, a5⟩⟩
    unfold LL
    rw [if_pos (Rch.lt hc hd a2)]; exact (hc u j a4).1
  · have := h.2.1 u hu
    unfold LL at this
    rw [if_pos hu] at this
    exact this
theorem measure_ok {σ : St} {a : Nat} {rd : Nat → Int32} {b d : Nat} {S : Nat → Int} (X : Wx σ a rd b S) (hd : d < 64) (hW : WF rd b S d (LL 64) σ) : ∃ σ', pf_X7_measureBackward 602 a σ = some σ' ∧ Un (fun i => i = 605) σ σ' ∧ WS rd b S d true σ' := by
  obtain ⟨ka, ha, v, hq, hS⟩ := id X
  have hn := v.n
  have hc := cnR_ok (S := S) (d := d) hn.1
  obtain ⟨w1, w2⟩ := WF.all hn.1 hd hW
  have w4 := hW.2.2.2
  unfold pf_X7_measureBackward
  refine dn_C (fun n i s => pf_X7_measureBackward_L3 n 602 a (nI i + (-1)) s) (fun i s => i ≤ 64 ∧ Un (fun q => q = 605) σ s ∧ ∀ u, u < 64 → (i ≤ u → Rch (gl rd b) (cnR rd b S d) d u → gI s 605 u = nI (tgF rd b S d u)) ∧ ((u < i ∨ ¬ Rch (gl rd b) (cnR rd b S d) d u) → gI s 605 u = 99)) (fun r => ∃ σ', r = some σ' ∧ Un (fun i => i = 605) σ σ' ∧ WS rd b S d true σ') ?_ ?_ FU 64 σ ⟨by omega, Un.refl _ _, fun u hu => ⟨fun q => by omega, fun _ => w4 u hu⟩⟩ (lt_FU (by omega))
  · intro n s ⟨_, h1, h2⟩
    refine ⟨s, ?_, h1, ?_, ?_, ?_⟩
    · show pf_X7_measureBackward_L3 (n + 1) 602 a (nI 0 + (-1)) s = some s
      rw [pf_X7_measureBackward_L3, if_pos (by decide)]
    · intro t ht
      rw [h1.L (show ¬ 602 = 605 by decide), w1 t ht]
      simp
    · intro u hu
      rw [h1.I (show ¬ 604 = 605 by decide)]
      have := w2 u hu
      simpa using this
    · intro u hu
      have := h2 u hu
      simpa using this
  · intro n i s ⟨h0, h1, h2⟩
    have hi : i < 64 := by omega
    have X' := X.un h1 (fun i q1 q2 q3 => by omega)
    have hq' := X'.2.2.2.1
    refine Or.inr ?_
    show ∃ s', pf_X7_measureBackward_L3 (n + 1) 602 a (nI (i + 1) + (-1)) s = pf_X7_measureBackward_L3 n 602 a (nI i + (-1)) s' ∧ _
    rw [pk_m1, pf_X7_measureBackward_L3, if_neg (nI_pos (by omega)), isR hi, bind_some, if_b, h1.L (show ¬ 602 = 605 by decide)]
    have fin : ∀ x : Nat, x = tgF rd b S d i → Rch (gl rd b) (cnR rd b S d) d i → ∃ s', pf_X7_measureBackward_b37 (pf_X7_measureBackward_L3 n) 602 a (nI i) (602 + 3) (nI i) (nI x) s = pf_X7_measureBackward_L3 n 602 a (nI i + (-1)) s' ∧ i ≤ 64 ∧ Un (fun q => q = 605) σ s' ∧ ∀ u, u < 64 → (i ≤ u → Rch (gl rd b) (cnR rd b S d) d u → gI s' 605 u = nI (tgF rd b S d u)) ∧ ((u < i ∨ ¬ Rch (gl rd b) (cnR rd b S d) d u) → gI s' 605 u = 99) := by
      intro x hx hr
      refine ⟨sI s 605 i (nI x), ?_, by omega, h1.trans (Un.sI _ _ rfl), fun u hu => ⟨fun q1 q2 => ?_, fun q1 => ?_⟩⟩
      · rw [pf_X7_measureBackward_b37, ckA al605 hi, nI_clamp (by omega), bnd_e, pf_X7_measureBackward_b38, bnd_e]
      · by_cases e : u = i
        · subst e; rw [gI_at, hx]
        · rw [gI_ns _ _ _ e]; exact (h2 u hu).1 (by omega) q2
      · have e : u ≠ i := fun e => by
          subst e
          rcases q1 with q1 | q1
          · omega
          · exact q1 hr
        rw [gI_ns _ _ _ e]
        refine (h2 u hu).2 ?_
        rcases q1 with q1 | q1
        · left; omega
        · right; exact q1
    cases hb : gbit (gL σ 602 3) i with
    | false =>
      rw [if_neg Bool.false_ne_true, pf_X7_measureBackward_b38, bnd_e]
      have hno : ¬ Rch (gl rd b) (cnR rd b S d) d i := fun q => by rw [(w1 i hi).mpr q] at hb; cases hb
      refine ⟨s, rfl, by omega, h1, fun u hu => ⟨fun q1 q2 => (h2 u hu).1 ?_ q2, fun q1 => (h2 u hu).2 ?_⟩⟩
      · have : u ≠ i := fun e => by subst e; exact hno q2
        omega
      · rcases q1 with q1 | q1
        · left; omega
        · right; exact q1
    | true =>
      have hr := (w1 i hi).mp hb
      rw [if_pos rfl, goalH hq' hi, bind_some, if_b]
      cases hg : gl rd b i with
      | true =>
        rw [if_pos rfl]
        exact fin 0 (by unfold tgF; rw [gF_goal hc hi hg]; rfl) hr
      | false =>
        rw [if_neg Bool.false_ne_true]
        have e4 : gI s 604 i = nI (msk 6 (cnR rd b S d i)) := by
          rw [h1.I (show ¬ 604 = 605 by decide)]
          exact (w2 i hi).1 ⟨hr, hg⟩
        rw [least_ok hn.1 hi hg e4 (fun k hk => (h2 _ (nx_64 i hi k (hc i k hk).1)).1 (by have := (nx_b i hi k (hc i k hk).1 (hc i k hk).2).1; omega) (hr.step hg hk)), bind_some]
        exact fin _ rfl hr
/-- the whole of explore -/
def posb (rd : Nat → Int32) (b : Nat) (S : Nat → Int) : Bool := decide (rd (b + 1) = 0) && (gF (gl rd b) (cnR rd b S (dnM rd b)) one (dnM rd b)).isSome
theorem explore_ok {σ : St} {a sp : Nat} {rd : Nat → Int32} {b : Nat} {S : Nat → Int} (X : Wx σ a rd b S) (hsp : sp < 602) (esp : alen sp = 8) (hst : ∀ i, i < 8 → gI σ sp i = iI (S i)) : ∃ σ', pf_X7_explore 602 a sp σ = some (if posb rd b S then 1 else 0, σ') ∧ Un (inR 602 4) σ σ' ∧ WS rd b S (dnM rd b) (decide (rd (b + 1) = 0)) σ' := by
  obtain ⟨ka, ha, v, hq, hS⟩ := id X
  have hn := v.n
  have hd := dnM_64 v
  have hc := cnR_ok (S := S) (d := dnM rd b) hn.1
  obtain ⟨σ2, f1, f2, f3⟩ := fill_ok 604 0 (sL σ 602 3 0)
  obtain ⟨σ3, g1, g2, g3⟩ := fill_ok 605 99 σ2
  rw [al604] at f3
  rw [al605] at g3
  have u3 : Un (inR 602 4) σ σ3 := Un.trans (Un.sL _ _ ⟨by omega, by omega⟩) (Un.trans (f2.mono fun i hi => ⟨by omega, by omega⟩) (g2.mono fun i hi => ⟨by omega, by omega⟩))
  have X3 := X.un u3 (fun i q1 q2 q3 => by have := q3.1; omega)
  have L3 : gL σ3 602 3 = 0 := by rw [g2.L (by decide), f2.L (by decide), gL_at]
  have e4 : ∀ u, u < 64 → gI σ3 604 u = 0 := fun u hu => by rw [g2.I (by decide)]; exact f3 u hu
  unfold pf_X7_explore
  rw [bnd_e, f1, bind_some, g1, bind_some, X3.2.2.2.1.2.1]
  by_cases hop : rd (b + 1) = 0
  · rw [if_pos hop]
    have es : ∀ i, i < 8 → gI σ3 sp i = iI (S i) := fun i hi => by rw [u3.I (fun q => by have := q.1; omega)]; exact hst i hi
    generalize hde : dnM rd b = d at hd hc ⊢
    refine up_C (fun n i s => pf_X7_explore_L33 pf_X7_explore_b66 n 602 a sp (nI i) s) 8 (fun i s => Un (fun q => q = 603) σ3 s ∧ ∀ k, k < i → gI s 603 (d * 8 + k) = iI (S k)) (fun r => ∃ σ', r = some (if posb rd b S then 1 else 0, σ') ∧ Un (inR 602 4) σ σ' ∧ WS rd b S d (decide (rd (b + 1) = 0)) σ') ?_ ?_ FU 0 σ3 (Nat.zero_le _) ⟨Un.refl _ _, fun k hk => absurd hk (Nat.not_lt_zero _)⟩ (lt_FU (by omega))
    · intro n s ⟨h1, h2⟩
      have Xs := X3.un h1 (fun i q1 q2 q3 => by omega)
      have ed : gI s a 2 = nI d := by rw [Xs.2.2.2.1.2.2.1, hde]
      show ∃ σ', pf_X7_explore_L33 pf_X7_explore_b66 (n + 1) 602 a sp (nI 8) s = _ ∧ _
      rw [pf_X7_explore_L33, show (8 : Int32) = nI 8 from rfl, if_pos (nI_le (Nat.le_refl _) (by omega)), pf_X7_explore_b66, ed, bnd_e]
      have us : Un (fun i => i = 602) s (sL s 602 3 (lshl 1 (nI d))) := Un.sL _ _ rfl
      have Xt := Xs.un us (fun i q1 q2 q3 => by omega)
      have w0 : WF rd b S d (LL 0) (sL s 602 3 (lshl 1 (nI d))) := by
        refine ⟨fun t ht => ?_, fun u hu => ⟨fun q => ?_, fun q => ?_⟩, fun t ht hb i hi => ?_, fun u hu => ?_⟩
        · rw [gL_at, gbit_one d hd t ht, decide_eq_true_eq]
          constructor
          · exact Or.inl
          · rintro (e | ⟨u, k, a1, _⟩)
            · exact e
            · unfold LL at a1
              rw [if_neg (Nat.not_lt_zero _)] at a1
              omega
        · rw [gI_sL, h1.I (by decide), e4 u hu]; rfl
        · rw [gI_sL, h1.I (by decide), e4 u hu]
        · rw [gL_at, gbit_one d hd t ht, decide_eq_true_eq] at hb
          subst hb
          rw [gI_sL, h2 i hi, df_self, bh_0]
        · rw [gI_sL, h1.I (by decide), g3 u hu]
      obtain ⟨s2, p1, p2, p3⟩ := goF Xt hd w0
      have X2 := Xt.un p2 (fun i q1 q2 q3 => by unfold wM at q3; omega)
      obtain ⟨s3, r1, r2, r3⟩ := measure_ok X2 hd p3
      have X3' := X2.un r2 (fun i q1 q2 q3 => by omega)
      have ed3 : gI s3 a 2 = nI d := by rw [X3'.2.2.2.1.2.2.1, hde]
      rw [p1, bind_some, r1, bind_some, ed3, at_ok al605 hd, bind_some, (r3.2.2 d hd).1 ⟨rfl, Rch.refl d⟩]
      refine ⟨s3, ?_, ?_, ?_⟩
      · unfold posb
        rw [hde, decide_eq_true hop, Bool.true_and]
        unfold tgF
        cases e : gF (gl rd b) (cnR rd b S d) one d with
        | none => rw [if_pos (by decide)]; rfl
        | some x =>
          have := gF_le6 hc hd e
          rw [show (99 : Int32) = nI 99 from rfl, if_neg (nI_ge (by show x < 99; omega) (by omega))]; rfl
      · refine Un.trans u3 (Un.trans (h1.mono fun i hi => ⟨by omega, by omega⟩) (Un.trans (us.mono fun i hi => ⟨by omega, by omega⟩) (Un.trans (p2.mono fun i hi => ?_) (r2.mono fun i hi => ⟨by omega, by omega⟩))))
        unfold wM at hi
        exact ⟨by omega, by omega⟩
      · rw [decide_eq_true hop]; exact r3
    · intro n i s hi ⟨h1, h2⟩
      have Xs := X3.un h1 (fun i q1 q2 q3 => by omega)
      have ed : gI s a 2 = nI d := by rw [Xs.2.2.2.1.2.2.1, hde]
      refine Or.inr ⟨sI s 603 (d * 8 + i) (iI (S i)), ?_, h1.trans (Un.sI _ _ rfl), fun k hk => ?_⟩
      · show pf_X7_explore_L33 pf_X7_explore_b66 (n + 1) 602 a sp (nI i) s = pf_X7_explore_L33 pf_X7_explore_b66 n 602 a sp (nI (i + 1)) _
        rw [pf_X7_explore_L33, show (8 : Int32) = nI 8 from rfl, if_neg (nI_ge hi (by omega)), at_ok esp hi, bind_some, ed, pk_mul, nI_add, put_ok al603 (by omega), bind_some, bnd_e, nI_1, h1.I (show ¬ sp = 603 by omega), es i hi]
      · by_cases e : k = i
        · subst e; rw [gI_at]
        · rw [gI_ns _ _ _ (by omega)]; exact h2 k (by omega)
  · rw [if_neg hop]
    refine ⟨σ3, ?_, u3, ?_, ?_, ?_⟩
    · unfold posb
      rw [decide_eq_false hop, Bool.false_and]; rfl
    · intro t ht
      rw [L3, gbit_0, decide_eq_false hop]; simp
    · intro u hu
      rw [e4 u hu, decide_eq_false hop]; simp
    · intro u hu
      rw [g3 u hu, decide_eq_false hop]; simp
