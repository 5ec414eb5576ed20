/-! THE REFERENCE: its row, its small questions -/
def b2i (b : Bool) : Int32 := if b then 1 else 0
theorem if_b2 {α : Type} (c : Bool) (A B : α) : (if b2i c = 0 then A else B) = if c = true then B else A := by cases c <;> rfl
theorem if_b1 {α : Type} (c : Bool) (A B : α) : (if b2i c = 1 then A else B) = if c = true then A else B := by cases c <;> rfl
theorem ckZ_b {α : Type} (c : Bool) (x : Option α) : ckZ (b2i c) x = x := by cases c <;> rfl
section
variable {τ : St} {rd : Nat → Int32} {q s : Nat}
theorem dn_step (v : VQ rd (53 + 186 * q)) (hs : s < nS rd (53 + 186 * q)) : rd (53 + 186 * q + 6 + 30 * s + 3) = b2i (decide (rd (53 + 186 * q + 6 + 30 * s + 3) = 1)) := by
  obtain ⟨-, -, -, d1, -⟩ := v.s hs
  obtain ⟨n, e, hn, -⟩ := d1.get
  rw [e]
  rcases (by omega : n = 0 ∨ n = 1) with rfl | rfl <;> rfl
theorem shl_b2 : ∀ s, s < 6 → ∀ b : Bool, ishl (b2i b) (nI s) = nI (if b then 1 <<< s else 0) := by decide +kernel
def bkM (rd : Nat → Int32) (b : Nat) : Nat := msk (nS rd b) (cB rd b)
def flS (rd : Nat → Int32) (b : Nat) : Nat → Nat
  | 0 => 0
  | k + 1 => flS rd b k + Nn (rd (b + 6 + 30 * k + 2))
theorem flS_le {b : Nat} (v : VQ rd b) : ∀ k, k ≤ nS rd b → flS rd b k ≤ 9 * k
  | 0, _ => Nat.le_refl _
  | k + 1, h => by
    have := flS_le v k (by omega)
    have := (v.s (show k < nS rd b by omega)).2.2.1.1.2
    rw [flS]; omega
end
