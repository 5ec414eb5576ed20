/-! QUESTIONS that read fields: the two sides agree -/
section
variable {σ τ : St} {rd : Nat → Int32} {B : Nat}
theorem i10 {α : Type} (A B : α) : (if (1 : Int32) = 0 then A else B) = B := if_neg (by decide)
theorem i00 {α : Type} (A B : α) : (if (0 : Int32) = 0 then A else B) = A := if_pos rfl
theorem inK (n : Nat) (v : Int32) (hn : n < 2 ^ 30) : decide (¬ v < 0 ∧ ¬ nI n < v) = decide (¬ v < 0 ∧ ¬ nI (n + 1) ≤ v) := by
  apply decide_eq_decide.mpr
  refine and_congr Iff.rfl (not_congr ?_)
  rw [← iI_nat, ← iI_nat, Int32.lt_iff_toInt_lt, Int32.le_iff_toInt_le, iI_toInt (by omega) (by omega), iI_toInt (by omega) (by omega)]
  omega
theorem isDoneH {a b s : Nat} (V : VQ rd b) (hr : RQ σ a rd b) (hs : s < nS rd b) : pf_X3_isDone a (nI s) σ = some (if decide (rd (b + 6 + 30 * s + 3) = 1) then 1 else 0) := by
  have hn := V.n
  have hd := dnM_64 V
  unfold pf_X3_isDone
  rw [hr.2.2.1, if_u (by omega) (by omega)]
  have hbit : (dnM rd b).testBit s = decide (rd (b + 6 + 30 * s + 3) = 1) := by
    unfold dnM
    rw [msk_bit, show decide (s < Nn (rd b)) = true from decide_eq_true hs, Bool.true_and]
  rw [hbit]
  cases decide (rd (b + 6 + 30 * s + 3) = 1) <;> rfl
end
