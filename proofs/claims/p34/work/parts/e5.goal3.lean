/-! GOALS: goals joined, both readers -/
section
variable {T : Nat → Int32} {L N S : Nat}
theorem GV.or {a b : Int64} (ha : GV a S) (hb : GV b S) : GV (a ||| b) S := ⟨by rw [gbit_or, ha.1, hb.1]; rfl, fun u hu => by rw [gbit_or, gbit_or, ha.2 u hu, hb.2 u hu]⟩
theorem GV.and {a b : Int64} (ha : GV a S) (hb : GV b S) : GV (a &&& b) S := ⟨by rw [gbit_and, ha.1, hb.1]; rfl, fun u hu => by rw [gbit_and, gbit_and, ha.2 u hu, hb.2 u hu]⟩
theorem GV.z : GV 0 S := ⟨gbit_0 0, fun u hu => by rw [gbit_0, gbit_0]⟩
/-- what stands on the pile between two goals -/
def cxL (b : Bool) (any all : Int64) (u : Nat) : List Bool := if b = true then [gbit all u, gbit any u] else [gbit all u]
def pb (b : Bool) : Nat := if b = true then 1 else 0
theorem readGoal_e {σ : St} {c : Int32} {o : Nat} (v2 : Int32) (h : CE σ c o) : ∃ r σ', pf_X0_readGoal 8 599 595 v2 0 σ = some (r, σ') ∧ CE σ' c o ∧ Un (fun i => i = 595) σ σ' := by
  obtain ⟨r, σ', g1, g2, g3⟩ := single_e (pf_X0_readGoal 7) v2 0 h
  refine ⟨0 ||| r, σ', ?_, g2, g3⟩
  show pf_X0_readGoal_B (pf_X0_readGoal 7) 599 595 v2 0 σ = _
  unfold pf_X0_readGoal_B
  rw [g1, bnd2_some]
  exact goalL_e (pf_X0_readGoal 7) v2 0 0 r 0 999999 g2 (by omega)
end
