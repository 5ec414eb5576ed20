/-! LOAD: the other statements, both readers -/
theorem shl1_8 : ∀ s, s < 8 → ishl 1 (nI s) = nI (1 <<< s) := by decide +kernel
theorem ishr_8 : ∀ u, u < 256 → ∀ k, k < 8 → ishr (nI u) (nI k) &&& 1 = b2i (u.testBit k) := by decide +kernel
theorem LR.sd {σ σ' : St} {rd rd' : Nat → Int32} {q : Nat} (h : LR σ rd q) (hu : ∀ i, 63 ≤ i → i < 66 + 9 * q → gI σ' i = gI σ i ∧ gL σ' i = gL σ i) (h61 : ∀ k, k ≠ 3 → gI σ' 61 k = gI σ 61 k) (h3 : gI σ' 61 3 = rd' 1) (hs : ∀ i, i < 8 → gI σ' 62 i = rd' (5 + i) ∧ Is (rd' (5 + i)) 999) (h5 : gI σ' 594 5 = gI σ 594 5) (hr : ∀ j, j ≠ 1 → ¬ (5 ≤ j ∧ j < 13) → (j < 53 + 186 * q ∨ (1169 ≤ j ∧ j < 2769 + 2 * Nn (rd 4))) → rd' j = rd j) : LR σ' rd' q := by
  obtain ⟨a1, a2, a3, a4, a5, a6, a7, a8, a9, a10, a11, a12, a13⟩ := h
  have e65 : gI σ' 65 = gI σ 65 := (hu 65 (by omega) (by omega)).1
  have r4 : rd' 4 = rd 4 := hr 4 (by omega) (by omega) (by omega)
  refine ⟨a1, by rw [h61 5 (by omega)]; exact a2, by rw [hr 0 (by omega) (by omega) (by omega)]; exact a3, by rw [h61 2 (by omega)]; exact a4, by rw [hr 2 (by omega) (by omega) (by omega)]; exact a5, h3, hs, by rw [r4]; exact a8, fun q' hq' => (a9 q' hq').cg (fun i x1 x2 => hu i (by omega) (by omega)) (fun k x1 x2 => hr k (by omega) (by omega) (by omega)) (fun k x1 x2 => hr k (by omega) (by omega) (by omega)) (by rw [r4]; exact Nat.le_refl _), ?_, by rw [hr 3 (by omega) (by omega) (by omega)]; exact a11, a12.cong (hr 3 (by omega) (by omega) (by omega)) a11.2 (fun k x1 x2 => hr k (by omega) (by omega) (by omega)), by rw [h5, hr 3 (by omega) (by omega) (by omega)]; exact a13⟩
  have : RW1 σ' 61 rd := by
    unfold RW1 at *
    rw [h61 7 (by omega), e65]; exact a10
  exact this.cg (hr 3 (by omega) (by omega) (by omega)) a11.2 (fun k x1 x2 => hr k (by omega) (by omega) (by omega))
def F8 (f : Int32 × Int32 × Int32) : Prop := ∃ m, m < 256 ∧ f.1 = nI m
section
variable {T : Nat → Int32} {L N : Nat}
theorem stkL_ok {σ : St} {k : Nat} (h : CP σ T L N k) (hk : tkd T L k ≠ 0) (n j : Nat) (h0 : 0 < j) (hj : j < 2 ^ 31) : pf_X4_readStock_L9 pf_X4_readStock_b114 (n + 1) 594 61 (nI j) σ = pf_X4_readStock_b114 594 σ := by
  rw [pf_X4_readStock_L9]
  by_cases q : (800 : Int32) ≤ nI j
  · rw [if_pos q]
  · rw [if_neg q, if_neg (nI_ne0 h0 hj), show 594 + 1 = 595 from rfl, ahead_ok h, bind_some, if_neg (fun e => hk (Option.some.inj e))]
theorem skip_ok {σ : St} {k : Nat} (h : CP σ T L N k) : pf_X6_skip 595 σ = some (sI σ 595 4 (nI (k + 1))) := by
  unfold pf_X6_skip
  rw [h.2.2.1, nI_1, bnd_e]
end
