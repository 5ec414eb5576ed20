/-! THE PURE SIDE: the rows that go enumerates -/
def enc (t l : List Nat) : List Nat := t ++ l.map (48 + ·)
theorem enc_len (t l : List Nat) : (enc t l).length = t.length + l.length := by
  unfold enc
  rw [List.length_append, List.length_map]
theorem dec1 {k : Nat} (h : k < 10) : dec k = [48 + k] := by unfold dec; rw [if_pos h]
theorem enc_cons (t l : List Nat) {k : Nat} (h : k < 10) : enc (t ++ dec k) l = enc t (k :: l) := by
  unfold enc
  rw [dec1 h, List.append_assoc]; rfl
def mnR (s : Nat) (o : Option Nat) (r : Nat) : Nat := match o with
  | none => s
  | some v => min s (v + r)
theorem mnR_le (s : Nat) (o : Option Nat) (r : Nat) : mnR s o r ≤ s := by
  unfold mnR
  split <;> omega
theorem mnR_omin (s : Nat) (a b : Option Nat) (r : Nat) : mnR (mnR s a r) b r = mnR s (omin a b) r := by
  cases a <;> cases b <;> simp [mnR, omin]
  all_goals omega
theorem mnR_map (s : Nat) (a : Option Nat) (c r : Nat) : mnR s a (r + c) = mnR s (a.map (· + c)) r := by
  cases a with
  | none => rfl
  | some v => show min s (v + (r + c)) = min s (v + c + r); omega
theorem thenF_at (τ : St) (b k : Nat) : ∀ i, i < 3 → thenF τ b k i = gI τ b i + (gI τ (1005 + 4 * k + 3) i - gI τ (1005 + 4 * k + 1) i) := by
  intro i hi
  unfold thenF
  dsimp only
  rcases (by omega : i = 0 ∨ i = 1 ∨ i = 2) with rfl | rfl | rfl
  · rw [upd_n (by decide), upd_n (by decide), upd_y rfl]
  · rw [upd_n (by decide), upd_y rfl, upd_n (by decide)]
  · rw [upd_y rfl, upd_n (by decide), upd_n (by decide)]
section
variable {so le q : Nat} {rd : Nat → Int32} {S : Nat → Int} {d0 : Nat}
/-- what a deeper row of go is to do -/
def GoS (so le q : Nat) (rd : Nat → Int32) (S : Nat → Int) (d0 d : Nat) (b : Nat) (rec : List Nat → Int32 → Int32 → Option (List Nat) → St → GoR) : Prop := ∀ (t : List Nat) (u r : Nat) (pl : Option (List Nat)) (τ : St) (s : Nat), GX so le q rd τ → u < 2 ^ nS rd (53 + 186 * q) → (∀ k, d0.testBit k = true → u.testBit k = true) → mis (nS rd (53 + 186 * q)) u < d → (∀ i, i < 3 → gI τ b i = iI (bh rd (53 + 186 * q) S (df u d0) i)) → r + 100 * d ≤ 1000 → s ≤ 100000 → gI τ 1000 7 = nI s → ∃ τ', rec t (nI u) (nI r) pl τ = some (bet pl ((bpW (gl rd (53 + 186 * q)) (cnG rd q S d0) (nS rd (53 + 186 * q)) d u).map (enc t)), τ') ∧ Sm τ τ' ∧ gI τ' 1000 7 = nI (mnR s (rsW (gl rd (53 + 186 * q)) (cnG rd q S d0) (cR rd (53 + 186 * q)) (nS rd (53 + 186 * q)) d u) r) ∧ ∀ x, x < 64 → (enW (gl rd (53 + 186 * q)) (cnG rd q S d0) (nS rd (53 + 186 * q)) d u x → gI τ' 1003 x = 1) ∧ (¬ enW (gl rd (53 + 186 * q)) (cnG rd q S d0) (nS rd (53 + 186 * q)) d u x → gI τ' 1003 x = gI τ 1003 x)
theorem goL_ok (V : VQ rd (53 + 186 * q)) (hQ : GQ so le q rd) (hS : ∀ i, i < 8 → 0 ≤ S i ∧ S i ≤ 50000000) {d b : Nat} {rec : List Nat → Int32 → Int32 → Option (List Nat) → St → GoR} (hrec : GoS so le q rd S d0 d 1100 rec) (hb : b = 1002 ∨ b = 1100) {t : List Nat} {u r : Nat} (hu2 : u < 2 ^ nS rd (53 + 186 * q)) (hsub : ∀ k, d0.testBit k = true → u.testBit k = true) (hm : mis (nS rd (53 + 186 * q)) u < d + 1) (hr : r + 100 * (d + 1) ≤ 1000) : ∀ (j k : Nat), k + j = nS rd (53 + 186 * q) → ∀ (pl : Option (List Nat)) (τ : St) (s : Nat), GX so le q rd τ → (∀ i, i < 3 → gI τ b i = iI (bh rd (53 + 186 * q) S (df u d0) i)) → s ≤ 100000 → gI τ 1000 7 = nI s → ∃ τ', goL rec t (nI u) b (nI r) j k pl τ = some (bet pl ((bpJ (fun x => if cnG rd q S d0 u x then (bpW (gl rd (53 + 186 * q)) (cnG rd q S d0) (nS rd (53 + 186 * q)) d (nx u x)).map (x :: ·) else none) j k).map (enc t)), τ') ∧ Sm τ τ' ∧ gI τ' 1000 7 = nI (mnR s (omJ (fun x => if cnG rd q S d0 u x then (rsW (gl rd (53 + 186 * q)) (cnG rd q S d0) (cR rd (53 + 186 * q)) (nS rd (53 + 186 * q)) d (nx u x)).map (· + cR rd (53 + 186 * q) x) else none) j k) r) ∧ ∀ x, x < 64 → ((∃ y, k ≤ y ∧ y < k + j ∧ cnG rd q S d0 u y = true ∧ enW (gl rd (53 + 186 * q)) (cnG rd q S d0) (nS rd (53 + 186 * q)) d (nx u y) x) → gI τ' 1003 x = 1) ∧ (¬ (∃ y, k ≤ y ∧ y < k + j ∧ cnG rd q S d0 u y = true ∧ enW (gl rd (53 + 186 * q)) (cnG rd q S d0) (nS rd (53 + 186 * q)) d (nx u y) x) → gI τ' 1003 x = gI τ 1003 x) := by
  have hn := V.n
  have h4 := hQ.2.2.1
  have hu := p16 hu2 h4
  intro j
  induction j with
  | zero =>
    intro k hk pl τ s hG hz hs h7
    exact ⟨τ, rfl, Sm.refl _, h7, fun x hx => ⟨fun ⟨y, a1, a2, _⟩ => by omega, fun _ => rfl⟩⟩
  | succ j ih =>
    intro k hk pl τ s hG hz hs h7
    have hkn : k < nS rd (53 + 186 * q) := by omega
    have ec := can_eq V hQ hG hS (b := b) hu hkn hz
    show ∃ τ', ((pf_X11_can 1000 (nI k) (nI u) b τ).bind fun c => if c = 0 then goL rec t (nI u) b (nI r) j (k + 1) pl τ else (rec (t ++ dec k) (nI u ||| ishl 1 (nI k)) (nI r + gI τ (1005 + 4 * k) 0) pl (rowI τ 1100 (thenF τ b k))).bind fun r1 => goL rec t (nI u) b (nI r) j (k + 1) r1.1 (rowI r1.2 1100 (gI τ 1100))) = _ ∧ _
    rw [ec, bind_some, if_b2, bpJ, omJ]
    cases c : cnG rd q S d0 u k with
    | false =>
      simp only [c, Bool.false_eq_true, if_false]
      obtain ⟨τ', e1, e2, e3, e4⟩ := ih (k + 1) (by omega) pl τ s hG hz hs h7
      refine ⟨τ', by rw [e1, bet_none], e2, by rw [e3]; rfl, fun x hx => ⟨fun ⟨y, a1, a2, a3, a4⟩ => (e4 x hx).1 ⟨y, ?_, by omega, a3, a4⟩, fun h => (e4 x hx).2 (fun ⟨y, a1, a2, a3, a4⟩ => h ⟨y, by omega, by omega, a3, a4⟩)⟩⟩
      by_cases cy : y = k
      · subst cy; rw [c] at a3; exact absurd a3 (by decide)
      · omega
    | true =>
      simp only [c, if_true]
      obtain ⟨c1, c2⟩ := cnG_n (S := S) (d := d0) hn.1 u k c
      have hd0 : d0.testBit k = false := by
        cases e : d0.testBit k with
        | false => rfl
        | true => rw [hsub k e] at c2; exact absurd c2 (by decide)
      have hmis := mis_nx _ h4 u hu k hkn c2
      obtain ⟨g1, g2, g3, g4, g5, g6, g7⟩ := id hG
      obtain ⟨s0, s1, s2, s3, s4, s5, s6⟩ := g7 k hkn
      have m1 : Sm τ (rowI τ 1100 (thenF τ b k)) := Sm.row _ _ (Or.inr rfl)
      have hcR := V.cR hkn
      have hcR2 := hcR.2
      simp only [_root_.id] at hcR2
      obtain ⟨τ2, e1, e2, e3, e4⟩ := hrec (t ++ dec k) (nx u k) (r + cR rd (53 + 186 * q) k) pl (rowI τ 1100 (thenF τ b k)) s (hG.sm h4 m1) (nx_pow hu2 hkn) (fun x hx => by rw [nx_bit, hsub x hx]; rfl) (by omega) (fun i hi => by
        have hcU := (V.cU hkn (show i < 8 by omega)).1
        have hcG := (V.cG hkn (show i < 8 by omega)).1
        rw [gI_row, thenF_at τ b k i hi, hz i hi, (s6 i hi).1, (s6 i hi).2.2, hcU, hcG, ← iI_nat, ← iI_nat, iI_sub, iI_add, df_nx (by omega) hd0, bh_nx (by rw [df_bit, c2]; simp) hkn]
        congr 1
        omega) (by omega) hs (by rw [gI_rowNe _ _ (by decide)]; exact h7)
      rw [nx_nI u k (by omega), s0, hcR.1, nI_add, e1, bind_some]
      have m3 : Sm τ (rowI τ2 1100 (gI τ 1100)) := (m1.trans e2).trans (Sm.row _ _ (Or.inr rfl))
      have hle := mnR_le s (rsW (gl rd (53 + 186 * q)) (cnG rd q S d0) (cR rd (53 + 186 * q)) (nS rd (53 + 186 * q)) d (nx u k)) (r + cR rd (53 + 186 * q) k)
      obtain ⟨τ', f1, f2, f3, f4⟩ := ih (k + 1) (by omega) (bet pl ((bpW (gl rd (53 + 186 * q)) (cnG rd q S d0) (nS rd (53 + 186 * q)) d (nx u k)).map (enc (t ++ dec k)))) (rowI τ2 1100 (gI τ 1100)) (mnR s (rsW (gl rd (53 + 186 * q)) (cnG rd q S d0) (cR rd (53 + 186 * q)) (nS rd (53 + 186 * q)) d (nx u k)) (r + cR rd (53 + 186 * q) k)) (hG.sm h4 m3) (fun i hi => by
        rcases hb with rfl | rfl
        · rw [m3.1 1002 (by decide) (by decide) (by decide)]; exact hz i hi
        · rw [gI_row]; exact hz i hi) (by omega) (by rw [gI_rowNe _ _ (by decide)]; exact e3)
      refine ⟨τ', ?_, m3.trans f2, ?_, fun x hx => ?_⟩
      · show goL rec t (nI u) b (nI r) j (k + 1) _ _ = _
        rw [f1, bet_assoc]
        congr 3
        rw [← bet_map (enc_len t), Option.map_map]
        congr 2
        funext l
        exact enc_cons t l (by omega)
      · rw [f3, mnR_map, mnR_omin]
      · have e5 : gI (rowI τ2 1100 (gI τ 1100)) 1003 x = gI τ2 1003 x := by rw [gI_rowNe _ _ (by decide)]
        have e6 : gI (rowI τ 1100 (thenF τ b k)) 1003 x = gI τ 1003 x := by rw [gI_rowNe _ _ (by decide)]
        obtain ⟨f5, f6⟩ := f4 x hx
        obtain ⟨e7, e8⟩ := e4 x hx
        rw [e5] at f6
        rw [e6] at e8
        constructor
        · rintro ⟨y, a1, a2, a3, a4⟩
          by_cases c9 : ∃ y, k + 1 ≤ y ∧ y < k + 1 + j ∧ cnG rd q S d0 u y = true ∧ enW (gl rd (53 + 186 * q)) (cnG rd q S d0) (nS rd (53 + 186 * q)) d (nx u y) x
          · exact f5 c9
          · rw [f6 c9]
            by_cases cy : y = k
            · subst cy; exact e7 a4
            · exact absurd ⟨y, by omega, by omega, a3, a4⟩ c9
        · intro h
          rw [f6 (fun ⟨y, a1, a2, a3, a4⟩ => h ⟨y, by omega, by omega, a3, a4⟩)]
          exact e8 (fun a4 => h ⟨k, Nat.le_refl _, by omega, c, a4⟩)
theorem goW_ok (V : VQ rd (53 + 186 * q)) (hQ : GQ so le q rd) (hS : ∀ i, i < 8 → 0 ≤ S i ∧ S i ≤ 50000000) : ∀ (d b : Nat), (b = 1002 ∨ b = 1100) → GoS so le q rd S d0 d b (fun t set risk pl τ => goW (nS rd (53 + 186 * q)) d t set b risk pl τ)
  | 0, b, _ => fun _ _ _ _ _ _ _ _ _ h => absurd h (Nat.not_lt_zero _)
  | d + 1, b, hb => by
    intro t u r pl τ s hG hu2 hsub hm hz hr hs h7
    have hu := p16 hu2 hQ.2.2.1
    have ih := goW_ok V hQ hS d 1100 (Or.inr rfl)
    show ∃ τ', ((pf_X11_holds 1000 (nI u) τ).bind fun r1 => if r1 = 0 then goL (fun t set risk pl σ => goW (nS rd (53 + 186 * q)) d t set 1100 risk pl σ) t (nI u) b (nI r) (nS rd (53 + 186 * q)) 0 pl τ else ckI (nI u) 64 (some (goS pl t, sI (sI τ 1000 7 (minI (gI τ 1000 7) (nI r))) 1003 (nI u).toNatClampNeg 1))) = _ ∧ _
    rw [hold_eq hQ hG hu2, bind_some, if_b2, bpW, rsW]
    cases c : gl rd (53 + 186 * q) u with
    | false =>
      simp only [Bool.false_eq_true, if_false]
      obtain ⟨τ', e1, e2, e3, e4⟩ := goL_ok V hQ hS ih hb hu2 hsub hm hr (nS rd (53 + 186 * q)) 0 (Nat.zero_add _) pl τ s hG hz hs h7
      refine ⟨τ', e1, e2, e3, fun x hx => ?_⟩
      obtain ⟨e5, e6⟩ := e4 x hx
      rw [enW, c]
      refine ⟨fun h => ?_, fun h => ?_⟩
      · rcases h with ⟨h1, _⟩ | ⟨_, y, h1, h2, h3⟩
        · exact absurd h1 (by decide)
        · exact e5 ⟨y, Nat.zero_le _, by omega, h2, h3⟩
      · exact e6 fun ⟨y, h0, h1, h2, h3⟩ => h (Or.inr ⟨rfl, y, by omega, h2, h3⟩)
    | true =>
      simp only [if_true]
      rw [ckI_nI hu (by omega), nI_clamp (by omega), h7]
      have hmin : minI (nI s) (nI r) = nI (min s r) := by
        unfold minI
        by_cases c2 : r < s
        · rw [if_pos (show nI s > nI r from nI_lt c2 (by omega)), Nat.min_eq_right (by omega)]
        · rw [if_neg (show ¬ nI s > nI r from nI_nlt (by omega) (by omega)), Nat.min_eq_left (by omega)]
      rw [hmin]
      refine ⟨sI (sI τ 1000 7 (nI (min s r))) 1003 u 1, ?_, (Sm.saf τ (nI (min s r))).trans (Sm.row _ _ (Or.inl rfl)), ?_, fun x hx => ?_⟩
      · show some (goS pl t, _) = some (goS pl (enc t []), _)
        unfold enc
        rw [List.map_nil, List.append_nil]
      · rw [gI_ne _ _ _ _ (by decide), gI_at]
        show nI (min s r) = nI (min s (0 + r))
        rw [Nat.zero_add]
      · rw [enW, c]
        refine ⟨fun h => ?_, fun h => ?_⟩
        · rcases h with ⟨_, rfl⟩ | ⟨h1, _⟩
          · exact gI_at _ _ _ _
          · exact absurd h1 (by decide)
        · rw [gI_ns _ _ _ (fun e => h (Or.inl ⟨rfl, e⟩)), gI_ne _ _ _ _ (by decide)]
end
