/-! THE REFERENCE'S READER: its first readings, by tokens -/
def bL : Nat → Prop := fun k => 16 ≤ k ∧ k ≤ 20
section
variable {T : Nat → Int32} {L k : Nat} {τ : St}
theorem ru_0i (p : Nat) : ru T L 0 (ru T L 0 p) = ru T L 0 p := ru_uniq (Nat.le_refl _) (fun i a b => by omega) (ru_spec (T := T) (L := L) 0 p).2.2.1
end
