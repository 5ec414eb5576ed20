/-! THE PURE SIDE: the game stands for a row; what can be tried in it -/
theorem p16 {u n : Nat} (h : u < 2 ^ n) (hn : n ≤ 4) : u < 64 := by
  have := Nat.pow_le_pow_right (n := 2) (by omega) hn
  omega
theorem FU4 : FU = 999995 + 1 + 1 + 1 + 1 + 1 := rfl
/-- the game's step at the place a, the row's numbers at c -/
def GS (τ : St) (a : Nat) (rd : Nat → Int32) (c : Nat) : Prop := gI τ a 0 = rd c ∧ gI τ a 1 = rd (c + 1) ∧ gI τ a 2 = rd (c + 2) ∧ gI τ a 3 = rd (c + 4) ∧ gI τ a 4 = rd (c + 5) ∧ gI τ a 5 = rd (c + 3) ∧ ∀ i, i < 3 → gI τ (a + 1) i = rd (c + 6 + i) ∧ gI τ (a + 2) i = rd (c + 14 + i) ∧ gI τ (a + 3) i = rd (c + 22 + i)
def GX (so le q : Nat) (rd : Nat → Int32) (τ : St) : Prop := gI τ 1001 2 = nI (nS rd (53 + 186 * q)) ∧ gI τ 1000 3 = rd (53 + 186 * q + 1) ∧ gI τ 1000 5 = nI so ∧ gI τ 1000 4 = nI le ∧ gI τ 1000 2 = rd 1 ∧ (∀ i, i < 3 → gI τ 1002 i = rd (5 + i)) ∧ ∀ k, k < nS rd (53 + 186 * q) → GS τ (1005 + 4 * k) rd (53 + 186 * q + 6 + 30 * k)
/-- what the row is like: at most four steps, three items, the law's goal and reward -/
def GQ (so le q : Nat) (rd : Nat → Int32) : Prop := so < 3 ∧ le < 2 ^ 31 ∧ nS rd (53 + 186 * q) ≤ 4 ∧ (∀ u, u < 2 ^ nS rd (53 + 186 * q) → gl rd (53 + 186 * q) u = goalB so le u) ∧ (∀ k, k < nS rd (53 + 186 * q) → ∀ i, 3 ≤ i → i < 8 → cU rd (53 + 186 * q) k i = 0 ∧ cN rd (53 + 186 * q) k i = 0 ∧ cG rd (53 + 186 * q) k i = 0) ∧ rd (53 + 186 * q + 2) = nI 1 ∧ rd (53 + 186 * q + 3) = nI 7 ∧ ∀ k, k < nS rd (53 + 186 * q) → ∀ i, i < 3 → cG rd (53 + 186 * q) k i ≤ 2
/-- what the looking leaves as it is -/
def Sm (τ τ' : St) : Prop := (∀ i, i ≠ 1000 → i ≠ 1003 → i ≠ 1100 → gI τ' i = gI τ i) ∧ ∀ k, k ≠ 7 → gI τ' 1000 k = gI τ 1000 k
theorem Sm.refl (τ : St) : Sm τ τ := ⟨fun _ _ _ _ => rfl, fun _ _ => rfl⟩
theorem Sm.trans {a b c : St} (h : Sm a b) (h2 : Sm b c) : Sm a c := ⟨fun i h0 h3 h1 => (h2.1 i h0 h3 h1).trans (h.1 i h0 h3 h1), fun k hk => (h2.2 k hk).trans (h.2 k hk)⟩
theorem Sm.row (τ : St) {i : Nat} (f : Nat → Int32) (h : i = 1003 ∨ i = 1100) : Sm τ (rowI τ i f) := ⟨fun j h0 h3 h1 => gI_rowNe _ _ (by omega), fun k _ => by rw [gI_rowNe _ _ (by omega)]⟩
theorem Sm.saf (τ : St) (v : Int32) : Sm τ (sI τ 1000 7 v) := ⟨fun i h0 _ _ => gI_nf _ _ _ h0, fun k hk => gI_ns _ _ _ hk⟩
theorem GX.sm {so le q : Nat} {rd : Nat → Int32} {τ τ' : St} (h4 : nS rd (53 + 186 * q) ≤ 4) (h : GX so le q rd τ) (s : Sm τ τ') : GX so le q rd τ' := by
  obtain ⟨a1, a2, a3, a4, a5, a6, a7⟩ := h
  refine ⟨by rw [s.1 1001 (by decide) (by decide) (by decide)]; exact a1, by rw [s.2 3 (by decide)]; exact a2, by rw [s.2 5 (by decide)]; exact a3, by rw [s.2 4 (by decide)]; exact a4, by rw [s.2 2 (by decide)]; exact a5, fun i hi => by rw [s.1 1002 (by decide) (by decide) (by decide)]; exact a6 i hi, fun k hk => ?_⟩
  unfold GS
  rw [s.1 (1005 + 4 * k) (by omega) (by omega) (by omega), s.1 (1005 + 4 * k + 1) (by omega) (by omega) (by omega), s.1 (1005 + 4 * k + 2) (by omega) (by omega) (by omega), s.1 (1005 + 4 * k + 3) (by omega) (by omega) (by omega)]
  exact a7 k hk
def okJ (Z : Nat → Int) (U N : Nat → Nat) : Nat → Nat → Bool
  | 0, _ => true
  | j + 1, k => (decide ((U k : Int) ≤ Z k) && decide ((N k : Int) ≤ Z k)) && okJ Z U N j (k + 1)
theorem okJ_iff {Z : Nat → Int} {U N : Nat → Nat} : ∀ j k, okJ Z U N j k = true ↔ ∀ i, k ≤ i → i < k + j → (U i : Int) ≤ Z i ∧ (N i : Int) ≤ Z i
  | 0, k => ⟨fun _ i h1 h2 => by omega, fun _ => rfl⟩
  | j + 1, k => by
    rw [okJ, Bool.and_eq_true, Bool.and_eq_true, decide_eq_true_eq, decide_eq_true_eq, okJ_iff j (k + 1)]
    constructor
    · rintro ⟨h1, h2⟩ i h3 h4
      by_cases c : i = k
      · subst c; exact h1
      · exact h2 i (by omega) (by omega)
    · intro h
      exact ⟨h k (Nat.le_refl _) (by omega), fun i h1 h2 => h i (by omega) (by omega)⟩
theorem can_L0 {τ : St} {v3 v4 : Nat} : ∀ j k f, k + j = 3 → j < f → pf_X11_can_L63 τ f v3 v4 0 (nI k) = some 0
  | 0, k, f, hk, hf => by
    obtain ⟨f, rfl⟩ : ∃ g, f = g + 1 := ⟨f - 1, by omega⟩
    obtain rfl : k = 3 := by omega
    rw [pf_X11_can_L63, if_pos (show (3 : Int32) ≤ nI 3 from Int32.le_refl _), ckZ_0]
  | j + 1, k, f, hk, hf => by
    obtain ⟨f, rfl⟩ : ∃ g, f = g + 1 := ⟨f - 1, by omega⟩
    rw [pf_X11_can_L63, if_neg (show ¬ (3 : Int32) ≤ nI k from nI_ge (b := 3) (by omega) (by omega)), if_pos rfl]
    unfold pf_X11_can_b104 pf_X11_can_b105
    rw [bnd_e, nI_1]
    exact can_L0 j (k + 1) f (by omega) (by omega)
theorem can_L1 {τ : St} {v3 v4 : Nat} {Z : Nat → Int} {U N : Nat → Nat} (hZ : ∀ i, i < 3 → gI τ v3 i = iI (Z i) ∧ -100000000 ≤ Z i ∧ Z i ≤ 100000000) (hU : ∀ i, i < 3 → gI τ (v4 + 1) i = nI (U i) ∧ _root_.id (U i ≤ 99)) (hN : ∀ i, i < 3 → gI τ (v4 + 2) i = nI (N i) ∧ _root_.id (N i ≤ 99)) : ∀ j k f, k + j = 3 → j < f → pf_X11_can_L63 τ f v3 v4 1 (nI k) = some (b2i (okJ Z U N j k))
  | 0, k, f, hk, hf => by
    obtain ⟨f, rfl⟩ : ∃ g, f = g + 1 := ⟨f - 1, by omega⟩
    obtain rfl : k = 3 := by omega
    rw [pf_X11_can_L63, if_pos (show (3 : Int32) ≤ nI 3 from Int32.le_refl _), ckZ_1]
    rfl
  | j + 1, k, f, hk, hf => by
    obtain ⟨f, rfl⟩ : ∃ g, f = g + 1 := ⟨f - 1, by omega⟩
    obtain ⟨z1, z2, z3⟩ := hZ k (by omega)
    obtain ⟨u1, u2⟩ := hU k (by omega)
    obtain ⟨n1, n2⟩ := hN k (by omega)
    simp only [_root_.id] at u2 n2
    rw [pf_X11_can_L63, if_neg (show ¬ (3 : Int32) ≤ nI k from nI_ge (b := 3) (by omega) (by omega)), if_neg (show ¬ (1 : Int32) = 0 by decide), ckI_nI (by omega) (by omega), ckI_nI (by omega) (by omega), ckI_nI (by omega) (by omega), nI_clamp (by omega), z1, u1, n1, max7 _ _ (by omega) (by omega), bind_some, okJ, ← iI_nat]
    have hl := iI_lt (a := Z k) (b := ((max (U k) (N k) : Nat) : Int)) (by omega) (by omega) (by omega) (by omega)
    unfold pf_X11_can_b104 pf_X11_can_b105
    by_cases c : Z k < ((max (U k) (N k) : Nat) : Int)
    · rw [if_pos (by rw [hl]; exact c), bnd_e, nI_1, can_L0 j (k + 1) f (by omega) (by omega)]
      have : (decide ((U k : Int) ≤ Z k) && decide ((N k : Int) ≤ Z k)) = false := by
        cases e : (decide ((U k : Int) ≤ Z k) && decide ((N k : Int) ≤ Z k)) with
        | false => rfl
        | true =>
          rw [Bool.and_eq_true, decide_eq_true_eq, decide_eq_true_eq] at e
          omega
      rw [this]; rfl
    · rw [if_neg (by rw [hl]; exact c), bnd_e, nI_1, can_L1 hZ hU hN j (k + 1) f (by omega) (by omega), decide_eq_true (show (U k : Int) ≤ Z k by omega), decide_eq_true (show (N k : Int) ≤ Z k by omega)]; rfl
/-- what can be tried in the game -/
def cnG (rd : Nat → Int32) (q : Nat) (S : Nat → Int) (d u k : Nat) : Bool := decide (rd (53 + 186 * q + 1) = 0) && cnR rd (53 + 186 * q) S d u k
theorem cnG_n {rd : Nat → Int32} {q : Nat} {S : Nat → Int} {d : Nat} (hn : nS rd (53 + 186 * q) ≤ 6) : OKn (cnG rd q S d) (nS rd (53 + 186 * q)) := by
  intro u s h
  unfold cnG at h
  rw [Bool.and_eq_true] at h
  exact ⟨(cnR_s h.2).1, (cnR_ok hn u s h.2).2⟩
section
variable {so le q : Nat} {rd : Nat → Int32} {τ : St}
theorem can_eq (V : VQ rd (53 + 186 * q)) (hQ : GQ so le q rd) (hG : GX so le q rd τ) {S : Nat → Int} (hS : ∀ i, i < 8 → 0 ≤ S i ∧ S i ≤ 50000000) {b d u k : Nat} (hu : u < 64) (hk : k < nS rd (53 + 186 * q)) (hb : ∀ i, i < 3 → gI τ b i = iI (bh rd (53 + 186 * q) S (df u d) i)) : pf_X11_can 1000 (nI k) (nI u) b τ = some (b2i (cnG rd q S d u k)) := by
  obtain ⟨g1, g2, g3, g4, g5, g6, g7⟩ := hG
  obtain ⟨-, -, h4, -, h0, -, -, -⟩ := hQ
  have hn := V.n
  obtain ⟨s0, s1, s2, s3, s4, s5, s6⟩ := g7 k hk
  have vs := V.s hk
  have cA1 := V.cA hk
  have ha := cA1.2
  simp only [_root_.id] at ha
  have hlim : rd (53 + 186 * q + 6 + 30 * k + 1) = nI (Nn (rd (53 + 186 * q + 6 + 30 * k + 1))) ∧ Nn (rd (53 + 186 * q + 6 + 30 * k + 1)) ≤ 9 := vs.2.1.1
  have hfl : rd (53 + 186 * q + 6 + 30 * k + 2) = nI (Nn (rd (53 + 186 * q + 6 + 30 * k + 2))) ∧ Nn (rd (53 + 186 * q + 6 + 30 * k + 2)) ≤ 9 := vs.2.2.1.1
  have hfl2 : Nn (rd (53 + 186 * q + 6 + 30 * k + 2)) ≤ Nn (rd (53 + 186 * q + 6 + 30 * k + 1)) := vs.2.2.1.2
  have L0 : pf_X11_can_L63 τ FU b (1005 + 4 * k) 0 0 = some 0 := can_L0 3 0 FU rfl (by rw [FU4]; omega)
  have hbb : ∀ i, i < 8 → -100000000 ≤ bh rd (53 + 186 * q) S (df u d) i ∧ bh rd (53 + 186 * q) S (df u d) i ≤ 100000000 := fun i hi => by
    have h1 := bh_bound (m := df u d) (S := S) V hi
    have h2 := hS i hi
    omega
  have L1 : pf_X11_can_L63 τ FU b (1005 + 4 * k) 1 0 = some (b2i (okJ (bh rd (53 + 186 * q) S (df u d)) (cU rd (53 + 186 * q) k) (cN rd (53 + 186 * q) k) 3 0)) := can_L1 (fun i hi => ⟨hb i hi, hbb i (by omega)⟩) (fun i hi => ⟨(s6 i hi).1.trans (V.cU hk (by omega)).1, (V.cU hk (by omega)).2⟩) (fun i hi => ⟨(s6 i hi).2.1.trans (V.cN hk (by omega)).1, (V.cN hk (by omega)).2⟩) 3 0 FU rfl (by rw [FU4]; omega)
  have eL : okJ (bh rd (53 + 186 * q) S (df u d)) (cU rd (53 + 186 * q) k) (cN rd (53 + 186 * q) k) 3 0 = allI rd (53 + 186 * q) (bh rd (53 + 186 * q) S (df u d)) k := by
    have e1 := okJ_iff (Z := bh rd (53 + 186 * q) S (df u d)) (U := cU rd (53 + 186 * q) k) (N := cN rd (53 + 186 * q) k) 3 0
    have e2 := allI_iff (rd := rd) (b := 53 + 186 * q) (Z := bh rd (53 + 186 * q) S (df u d)) (s := k)
    have key : ∀ i, 3 ≤ i → i < 8 → 0 ≤ bh rd (53 + 186 * q) S (df u d) i := fun i h1 h2 => by
      have : ∀ j, j ≤ nS rd (53 + 186 * q) → bhs rd (53 + 186 * q) (df u d) i j = 0 := by
        intro j
        induction j with
        | zero => intro _; rfl
        | succ j ih =>
          intro hj
          obtain ⟨z1, z2, z3⟩ := h0 j (by omega) i h1 h2
          rw [bhs, ih (by omega), z1, z3]; simp
      unfold bh
      rw [this _ (Nat.le_refl _)]
      have := hS i h2
      omega
    cases ea : allI rd (53 + 186 * q) (bh rd (53 + 186 * q) S (df u d)) k with
    | true => exact e1.mpr fun i _ h2 => e2.mp ea i (by omega)
    | false =>
      cases eo : okJ (bh rd (53 + 186 * q) S (df u d)) (cU rd (53 + 186 * q) k) (cN rd (53 + 186 * q) k) 3 0 with
      | false => rfl
      | true =>
        have : allI rd (53 + 186 * q) (bh rd (53 + 186 * q) S (df u d)) k = true := e2.mpr fun i hi => by
          by_cases c : i < 3
          · exact e1.mp eo i (Nat.zero_le _) (by omega)
          · obtain ⟨z1, z2, z3⟩ := h0 k hk i (by omega) hi
            have := key i (by omega) hi
            rw [z1, z2]
            exact ⟨this, this⟩
        rw [ea] at this
        exact absurd this (by decide)
  rw [eL] at L1
  unfold pf_X11_can pf_X11_can_b57 pf_X11_can_b58 cnG cnR
  rw [g1, nI_clamp (by omega), ckI_nI (by omega) (by omega), g2, ishr_nI u hu k (by omega), if_b2, nI_clamp (by omega), s1, s2, hlim.1, hfl.1, s3, cA1.1, df_nI _ ha u hu, if_0 (by have := df_64 (cA rd (53 + 186 * q) k) u; omega), L0, L1, decide_eq_true hk, Bool.true_and]
  by_cases c0 : rd (53 + 186 * q + 1) = 0
  · rw [if_pos c0, decide_eq_true c0, Bool.true_and]
    unfold hcode
    cases c1 : u.testBit k with
    | true => rfl
    | false =>
      rw [if_neg Bool.false_ne_true, if_neg Bool.false_ne_true]
      by_cases c2 : Nn (rd (53 + 186 * q + 6 + 30 * k + 2)) = Nn (rd (53 + 186 * q + 6 + 30 * k + 1))
      · have cb : cB rd (53 + 186 * q) k = true := decide_eq_true c2
        rw [if_pos (nI_le (by omega) (by omega)), if_pos cb]; rfl
      · have cb : ¬ cB rd (53 + 186 * q) k = true := fun h => c2 (of_decide_eq_true h)
        rw [if_neg (nI_ge (by omega) (by omega)), if_neg cb]
        by_cases c3 : df (cA rd (53 + 186 * q) k) u = 0
        · rw [if_pos c3, if_neg (fun h => h c3)]
          cases allI rd (53 + 186 * q) (bh rd (53 + 186 * q) S (df u d)) k <;> rfl
        · rw [if_neg c3, if_pos c3]; rfl
  · rw [if_neg c0, decide_eq_false c0, Bool.false_and]; rfl
theorem hold_eq (hQ : GQ so le q rd) (hG : GX so le q rd τ) {u : Nat} (hu : u < 2 ^ nS rd (53 + 186 * q)) : pf_X11_holds 1000 (nI u) τ = some (b2i (gl rd (53 + 186 * q) u)) := by
  rw [holds_eq hG.2.2.1 hG.2.2.2.1 hQ.1 hQ.2.1 (p16 hu hQ.2.2.1), hQ.2.2.2.1 u hu]
  rfl
end
