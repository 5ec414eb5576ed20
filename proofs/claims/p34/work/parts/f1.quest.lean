/-! LOAD: a whole quest, both readers -/
theorem msk_z {f : Nat → Bool} : ∀ n, (∀ k, k < n → f k = false) → msk n f = 0
  | 0, _ => rfl
  | n + 1, h => by rw [msk, msk_z n (fun k hk => h k (by omega)), h n (by omega), if_neg Bool.false_ne_true]; rfl
/-- one quest more -/
theorem LR.inc {σ σ' : St} {rd rd' : Nat → Int32} {q : Nat} (h : LR σ rd q) (hq : q < 6) (hu : ∀ i, 62 ≤ i → (i < 66 + 9 * q ∨ i = 594) → gI σ' i = gI σ i ∧ gL σ' i = gL σ i) (h61 : ∀ k, k ≠ 5 → gI σ' 61 k = gI σ 61 k) (h5 : gI σ' 61 5 = nI (q + 1)) (hr : ∀ j, j ≠ 0 → j ≠ 4 → (j < 53 + 186 * q ∨ (1169 ≤ j ∧ j < 2769 + 2 * Nn (rd 4))) → rd' j = rd j) (h0 : rd' 0 = nI (q + 1)) (h4 : Is (rd' 4) 800) (h44 : Nn (rd 4) ≤ Nn (rd' 4)) (new : LQ σ' rd' q) : LR σ' rd' (q + 1) := by
  obtain ⟨a1, a2, a3, a4, a5, a6, a7, a8, a9, a10, a11, a12, a13⟩ := h
  have e62 : gI σ' 62 = gI σ 62 := (hu 62 (by omega) (by omega)).1
  have e65 : gI σ' 65 = gI σ 65 := (hu 65 (by omega) (by omega)).1
  refine ⟨by omega, h5, h0, by rw [h61 2 (by omega)]; exact a4, by rw [hr 2 (by omega) (by omega) (by omega)]; exact a5, by rw [h61 3 (by omega), hr 1 (by omega) (by omega) (by omega)]; exact a6, fun i hi => by rw [e62, hr (5 + i) (by omega) (by omega) (by omega)]; exact a7 i hi, h4, fun q' hq' => ?_, ?_, by rw [hr 3 (by omega) (by omega) (by omega)]; exact a11, a12.cong (hr 3 (by omega) (by omega) (by omega)) a11.2 (fun k x1 x2 => hr k (by omega) (by omega) (by omega)), by rw [(hu 594 (by omega) (Or.inr rfl)).1, hr 3 (by omega) (by omega) (by omega)]; exact a13⟩
  · by_cases c : q' = q
    · subst c; exact new
    · exact (a9 q' (by omega)).cg (fun i x1 x2 => hu i (by omega) (by omega)) (fun k x1 x2 => hr k (by omega) (by omega) (by omega)) (fun k x1 x2 => hr k (by omega) (by omega) (by omega)) h44
  · have : RW1 σ' 61 rd := by
      unfold RW1 at *
      rw [h61 7 (by omega), e65]; exact a10
    exact this.cg (hr 3 (by omega) (by omega) (by omega)) a11.2 (fun k x1 x2 => hr k (by omega) (by omega) (by omega))
section
variable {T : Nat → Int32} {L N : Nat}
end
