section
variable {σ τ : St} {rd : Nat → Int32} {B : Nat}
def pA : Nat → Prop := fun i => i = 617
end
