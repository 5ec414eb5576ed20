/-! GOALS: a code more of the reference -/
def goS (τ : St) (n : Nat) (a b : Int32) : St := sI (sI (sI τ 611 (2769 + 2 * n) a) 611 (2769 + 2 * n + 1) b) 611 4 (nI (n + 1))
theorem goM {τ : St} {n : Nat} (e : gI τ 611 4 = nI n) (hn : n < 800) (a b : Int32) : pf_X11_goals 609 a b τ = some (goS τ n a b) := by
  unfold pf_X11_goals
  rw [show ckI (4 : Int32) (alen (609 + 2)) _ = _ from ckA (n := 4) al611 (by omega), show gI τ (609 + 2) (4 : Int32).toNatClampNeg = nI n from e, show (2769 : Int32) = nI 2769 from rfl, show (2 : Int32) = nI 2 from rfl, pk_mul, nI_add, bnd_e, ckA (show alen (609 + 2) = 4370 from al611) (by omega), nI_clamp (by omega), bnd_e, nI_1, ckA (show alen (609 + 2) = 4370 from al611) (by omega), nI_clamp (by omega), bnd_e]
  rw [show ckI (4 : Int32) (alen (609 + 2)) _ = _ from ckA (n := 4) al611 (by omega), show ckI (4 : Int32) (alen (609 + 2)) _ = _ from ckA (n := 4) al611 (by omega), bnd_e]
  have e3 : gI (sI (sI τ (609 + 2) (2769 + 2 * n) a) (609 + 2) (2769 + 2 * n + 1) b) (609 + 2) (4 : Int32).toNatClampNeg = nI n := by
    show gI (sI (sI τ 611 (2769 + 2 * n) a) 611 (2769 + 2 * n + 1) b) 611 4 = nI n
    rw [gI_ns _ _ _ (by omega), gI_ns _ _ _ (by omega)]; exact e
  rw [e3, nI_1]; rfl
theorem goS_M {τ : St} {n : Nat} (a b : Int32) : MU (fun i => i = 611) (fun _ => False) τ (goS τ n a b) := by
  unfold goS
  exact MU.trans (A := fun i => i = 611) (B := fun _ => False) (MU.arr (p := 611) _ _ rfl (by decide)) (MU.trans (A := fun i => i = 611) (B := fun _ => False) (MU.arr (p := 611) _ _ rfl (by decide)) (MU.arr (p := 611) _ _ rfl (by decide)))
def Kg (τ τ' : St) (n : Nat) : Prop := ∀ j, 2769 ≤ j → j < 2769 + 2 * n → gI τ' 611 j = gI τ 611 j
theorem Kg.trans {τ τ' τ'' : St} {n n' : Nat} (h : Kg τ τ' n) (h' : Kg τ' τ'' n') (hn : n ≤ n') : Kg τ τ'' n := fun j h1 h2 => (h' j h1 (by omega)).trans (h j h1 h2)
theorem Kg.eq {τ τ' : St} (n : Nat) (h : gI τ' 611 = gI τ 611) : Kg τ τ' n := fun j _ _ => by rw [h]
theorem goS_at {τ : St} {n : Nat} (a b : Int32) : gI (goS τ n a b) 611 (2769 + 2 * n) = a ∧ gI (goS τ n a b) 611 (2769 + 2 * n + 1) = b ∧ gI (goS τ n a b) 611 4 = nI (n + 1) ∧ Kg τ (goS τ n a b) n := by
  unfold goS
  refine ⟨?_, ?_, gI_at _ _ _ _, fun j h1 h2 => ?_⟩
  · rw [gI_ns _ _ _ (by omega), gI_ns _ _ _ (by omega), gI_at]
  · rw [gI_ns _ _ _ (by omega), gI_at]
  · rw [gI_ns _ _ _ (by omega), gI_ns _ _ _ (by omega), gI_ns _ _ _ (by omega)]
theorem goS_out {τ : St} {n : Nat} (a b : Int32) {j : Nat} (hn : n < 800) (hj : ¬ (j = 4 ∨ (2769 ≤ j ∧ j < 4370))) : gI (goS τ n a b) 611 j = gI τ 611 j := by
  unfold goS
  rw [gI_ns _ _ _ (by omega), gI_ns _ _ _ (by omega), gI_ns _ _ _ (by omega)]
/-- one code worked off behind what stands -/
theorem evG_go {τ : St} {u n n0 : Nat} {a b : Nat} {st st' st'' : List Bool} (hn : n0 ≤ n) (ha : a < 2 ^ 31) (hb : b < 2 ^ 31) (h : evG (gI τ 611) u (n - n0) n0 st = some st') (hs : stG u a b st' = some st'') : evG (gI (goS τ n (nI a) (nI b)) 611) u (n + 1 - n0) n0 st = some st'' := by
  obtain ⟨e1, e2, _, e4⟩ := goS_at (τ := τ) (n := n) (nI a) (nI b)
  rw [show n + 1 - n0 = (n - n0) + 1 by omega, evG_app, evG_congr (rd := gI τ 611) (n - n0) n0 st (fun j h1 h2 => e4 j (by omega) (by omega)), h]
  show evG (gI (goS τ n (nI a) (nI b)) 611) u 1 (n0 + (n - n0)) st' = _
  rw [show n0 + (n - n0) = n by omega, evG, e1, e2, Nn_nI ha, Nn_nI hb, hs]
  rfl
/-- a step as a goal: the class's bits -/
theorem swC_bit : ∀ s, s < 6 → ∀ u, u < 64 → gbit (swC.getD s 0) u = u.testBit s := by decide +kernel
/-- numbers of the class that are read without a bound of their own -/
theorem number6 {T : Nat → Int32} {L N k : Nat} {σ : St} (h : CP σ T L N k) : pf_X6_number 595 0 1000000 σ = some (if tkd T L k = 0 then (nI (nvl T L k), sI σ 595 4 (nI (k + 1))) else (nI 0, erS σ (-2) (tst T L k))) := by
  have n8 := h.N8
  have hk := h.2.1
  unfold pf_X6_number
  rw [start_ok h, bind_some, ahead_ok h, bind_some]
  by_cases c : tkd T L k = 0
  · have e8 : gI σ 598 k = nI (nvl T L k) := (h.1.1.2 k (by omega)).2.2 c
    have hv : nvl T L k ≤ 1000000 := cvl_le T (tst T L k) (re T L (tst T L k) - tst T L k)
    rw [if_pos (by rw [c]), if_pos c, h.2.2.1, show pf_X10_at (595 + 3) (nI k) σ = _ from at_ok al598 (by omega), bind_some, show gI σ (595 + 3) k = _ from e8, nI_1, bnd_e, if_neg (nI_pos (by omega)), show (1000000 : Int32) = nI 1000000 from rfl, if_pos (nI_le hv (by omega))]
  · rw [if_neg (fun e => c (Option.some.inj e)), if_neg c, fail_ok h, bind_some]
    rfl
