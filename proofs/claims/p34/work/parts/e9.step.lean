/-! LOAD: a step, both readers -/
section
variable {T : Nat → Int32} {L N : Nat}
theorem tk_y {σ : St} {k : Nat} (h : CP σ T L N k) {i : Nat} (c : tkd T L k = i) : pf_X6_take 595 (some i) σ = some (1, sI σ 595 4 (nI (k + 1))) := by
  rw [take_ok h, if_pos c, decide_eq_true c]; rfl
theorem tk_n {σ : St} {k : Nat} (h : CP σ T L N k) {i : Nat} (c : tkd T L k ≠ i) : pf_X6_take 595 (some i) σ = some (0, σ) := by
  rw [take_ok h, if_neg c, decide_eq_false c]; rfl
theorem beg_ok (t : Nat) (σ : St) : pf_X5_beginsPart t σ = some (if 11 ≤ t ∧ t ≤ 15 then 1 else 0) := by
  unfold pf_X5_beginsPart
  simp only [Option.some.injEq]
  repeat' split
  all_goals first | rfl | omega
end
