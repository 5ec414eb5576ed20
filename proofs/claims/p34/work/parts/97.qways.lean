/-! QUESTIONS of ways: the two sides agree -/
/-- what the class's questions write: the draft, the ways, the meter -/
def cQ : Nat → Prop := fun i => (61 ≤ i ∧ i < 120) ∨ (602 ≤ i ∧ i < 609)
theorem ck_b {α : Type} (c : Bool) (x : Option α) : ckZ (if c = true then 1 else 0) x = x := by cases c <;> rfl
section
variable {σ τ : St} {rd : Nat → Int32} {B : Nat}
theorem CX.cq {σ' : St} (X : CX σ rd B) (h : Un cQ σ σ') : CX σ' rd B := X.un h (fun i h1 h2 h3 => by unfold cQ at h3; omega)
theorem CX.ex {q : Nat} (X : CX σ rd B) (hq : q < Qn rd) : ∃ σ', pf_X7_explore 602 (7 + 9 * q) 3 σ = some (if posb rd (53 + 186 * q) (stk rd) then 1 else 0, σ') ∧ Un cQ σ σ' ∧ Un (inR 602 4) σ σ' ∧ Wy σ' (7 + 9 * q) rd (53 + 186 * q) (stk rd) ∧ CX σ' rd B := by
  have W := X.W hq
  obtain ⟨σ', g1, g2, g3⟩ := explore_ok W (by decide) al3 X.st
  have u : Un cQ σ σ' := g2.mono fun i hi => by have h1 := hi.1; have h2 := hi.2; unfold cQ; omega
  exact ⟨σ', g1, u, g2, ⟨(X.cq u).W hq, g3⟩, X.cq u⟩
end
