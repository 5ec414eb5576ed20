/-! THE REFERENCE: its row, its small questions -/
theorem al612 : alen 612 = 801 := by decide +kernel
theorem al613 : alen 613 = 8 := by decide +kernel
theorem al614 : alen 614 = 64 := by decide +kernel
theorem al615 : alen 615 = 64 := by decide +kernel
theorem al616 : alen 616 = 6 := by decide +kernel
theorem al617 : alen 617 = 801 := by decide +kernel
theorem al618 : alen 618 = 800 := by decide +kernel
theorem al619 : alen 619 = 64 := by decide +kernel
def b2i (b : Bool) : Int32 := if b then 1 else 0
theorem if_b2 {α : Type} (c : Bool) (A B : α) : (if b2i c = 0 then A else B) = if c = true then B else A := by cases c <;> rfl
theorem if_b1 {α : Type} (c : Bool) (A B : α) : (if b2i c = 1 then A else B) = if c = true then A else B := by cases c <;> rfl
theorem ckZ_b {α : Type} (c : Bool) (x : Option α) : ckZ (b2i c) x = x := by cases c <;> rfl
/-- the reference alone has changed: places A, and slots B of its object -/
def MU (A B : Nat → Prop) (σ σ' : St) : Prop := Un (fun i => i = 609 ∨ A i) σ σ' ∧ ∀ k, ¬ B k → gI σ' 609 k = gI σ 609 k
theorem MU.refl (A B : Nat → Prop) (σ : St) : MU A B σ σ := ⟨Un.refl _ _, fun _ _ => rfl⟩
theorem MU.trans {A B : Nat → Prop} {σ σ' σ'' : St} (h : MU A B σ σ') (h' : MU A B σ' σ'') : MU A B σ σ'' := ⟨h.1.trans h'.1, fun k hk => (h'.2 k hk).trans (h.2 k hk)⟩
theorem MU.mono {A B A' B' : Nat → Prop} {σ σ' : St} (h : MU A B σ σ') (ha : ∀ i, A i → A' i) (hb : ∀ i, B i → B' i) : MU A' B' σ σ' := ⟨h.1.mono fun i hi => hi.elim Or.inl (fun q => Or.inr (ha i q)), fun k hk => h.2 k (fun q => hk (hb k q))⟩
theorem MU.I {A B : Nat → Prop} {σ σ' : St} (h : MU A B σ σ') {i : Nat} (h1 : i ≠ 609) (h2 : ¬ A i) : gI σ' i = gI σ i := h.1.I (fun q => q.elim h1 h2)
theorem MU.F {A B : Nat → Prop} {σ σ' : St} (h : MU A B σ σ') {k : Nat} (hk : ¬ B k) : gI σ' 609 k = gI σ 609 k := h.2 k hk
theorem MU.arr {A B : Nat → Prop} {σ : St} {p : Nat} (k : Nat) (v : Int32) (h : A p) (h2 : p ≠ 609) : MU A B σ (sI σ p k v) := ⟨Un.sI _ _ (Or.inr h), fun j _ => by rw [gI_ne _ _ _ _ (Ne.symm h2)]⟩
theorem MU.fld {A B : Nat → Prop} {σ : St} (k : Nat) (v : Int32) (h : B k) : MU A B σ (sI σ 609 k v) := ⟨Un.sI _ _ (Or.inl rfl), fun j hj => gI_ns _ _ _ (fun e => hj (e ▸ h))⟩
section
variable {τ : St} {rd : Nat → Int32} {q s : Nat}
theorem dn_step (v : VQ rd (53 + 186 * q)) (hs : s < nS rd (53 + 186 * q)) : rd (53 + 186 * q + 6 + 30 * s + 3) = b2i (decide (rd (53 + 186 * q + 6 + 30 * s + 3) = 1)) := by
  obtain ⟨-, -, -, d1, -⟩ := v.s hs
  obtain ⟨n, e, hn, -⟩ := d1.get
  rw [e]
  rcases (by omega : n = 0 ∨ n = 1) with rfl | rfl <;> rfl
theorem shl_b2 : ∀ s, s < 6 → ∀ b : Bool, ishl (b2i b) (nI s) = nI (if b then 1 <<< s else 0) := by decide +kernel
def bkM (rd : Nat → Int32) (b : Nat) : Nat := msk (nS rd b) (cB rd b)
def flS (rd : Nat → Int32) (b : Nat) : Nat → Nat
  | 0 => 0
  | k + 1 => flS rd b k + Nn (rd (b + 6 + 30 * k + 2))
theorem flS_le {b : Nat} (v : VQ rd b) : ∀ k, k ≤ nS rd b → flS rd b k ≤ 9 * k
  | 0, _ => Nat.le_refl _
  | k + 1, h => by
    have := flS_le v k (by omega)
    have := (v.s (show k < nS rd b by omega)).2.2.1.1.2
    rw [flS]; omega
end
