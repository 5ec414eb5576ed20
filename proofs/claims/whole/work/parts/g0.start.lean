/-! THE START: the world as it is made -/
theorem z0_R (r : Nat) : RW σ0 r = fun _ => 0 := by
  funext k
  unfold RW
  by_cases c : k < 4370
  · rw [if_pos c, z0_Ir (show 10 < kd 610 by decide +kernel)]
  · rw [if_neg c]
theorem start_I {i k : Nat} (h : ¬ ((kd i = 9 ∧ k = 2) ∨ (kd i = 5 ∧ k = 6) ∨ (kd i = 10 ∧ k = 18))) : gI σ0 i k = 0 := by
  show (if (kd i = 9 ∧ k = 2) ∨ (kd i = 5 ∧ k = 6) ∨ (kd i = 10 ∧ k = 18) then (-1 : Int32) else 0) = 0
  rw [if_neg h]
theorem Inv.start : Inv 0 σ0 := by
  have k2 : kd 2 = 2 := kd2
  have k3 : kd 3 = 11 := by decide +kernel
  have k0 : kd 0 = 9 := by decide +kernel
  have k9 : kd 609 = 10 := by decide +kernel
  have k12 : kd 120 = 1 := by decide +kernel
  have I0 : ∀ B, Is (0 : Int32) B := fun B => ⟨rfl, Nat.zero_le _⟩
  have N0 : Nn (0 : Int32) = 0 := rfl
  refine ⟨⟨0, by omega, start_I (by omega), start_I (by omega), fun k hk => absurd hk (Nat.not_lt_zero _), ?_⟩, 0, 0, 0, by omega, by omega, by omega, start_I (by omega), start_I (by omega), start_I (by omega), start_I (by omega), ?_, ?_, fun j hj => absurd hj (Nat.not_lt_zero _)⟩
  · show (if (kd 0 = 9 ∧ 2 = 2) ∨ (kd 0 = 5 ∧ 2 = 6) ∨ (kd 0 = 10 ∧ 2 = 18) then (-1 : Int32) else 0) = (if (kd 609 = 9 ∧ 18 = 2) ∨ (kd 609 = 5 ∧ 18 = 6) ∨ (kd 609 = 10 ∧ 18 = 18) then (-1 : Int32) else 0)
    rw [if_pos (Or.inl ⟨k0, rfl⟩), if_pos (Or.inr (Or.inr ⟨k9, rfl⟩))]
  · rw [z0_R]
    refine ⟨start_I (by omega), start_I (by omega), start_I (by omega), fun i hi => (show gI σ0 3 i = 0 from start_I (by omega)), fun k hk => ?_, fun q hq => ?_, Or.inl ⟨start_I (by omega), rfl, rfl⟩⟩
    · exact absurd (show k < 0 from hk) (Nat.not_lt_zero _)
    · exact absurd (show q < 0 from hq) (Nat.not_lt_zero _)
  · rw [z0_R]
    refine ⟨I0 _, I0 _, I0 _, I0 _, fun i _ => I0 _, fun k hk => ?_, fun q hq => ?_, ⟨fun k hk => ?_, fun hk => ?_⟩⟩
    · exact absurd (show k < 0 from hk) (Nat.not_lt_zero _)
    · exact absurd (show q < 0 from hq) (Nat.not_lt_zero _)
    · exact absurd (show k < 0 from hk) (Nat.not_lt_zero _)
    · exact absurd (show 0 < 0 from hk) (Nat.not_lt_zero _)
/-! what a call of the class may throw -/
def KW {α : Type} (S : Nat → Bool) (o : Option ((Nat ⊕ α) × St)) : Prop := ∀ k σ', o = some (.inl k, σ') → S k = true
def KP {α : Type} (S : Nat → Bool) (o : Option (Nat ⊕ α)) : Prop := ∀ k, o = some (.inl k) → S k = true
section
variable {α β γ : Type} {S : Nat → Bool}
theorem KW.r (x : α) (σ : St) : KW (α := α) S (some (.inr x, σ)) := fun k σ' h => by cases h
theorem KW.l {c : Nat} (h : S c = true) (σ : St) : KW (α := α) S (some (.inl c, σ)) := fun k σ' e => by cases e; exact h
theorem KW.n : KW (α := α) S none := fun k σ' h => by cases h
theorem KW.bind {o : Option β} {f : β → Option ((Nat ⊕ α) × St)} (h : ∀ a, KW S (f a)) : KW S (o.bind f) := fun k σ' e => by
  obtain ⟨a, h1, h2⟩ := bind_el e
  exact h a k σ' h2
theorem KW.bnd2 {o : Option (β × γ)} {f : β → γ → Option ((Nat ⊕ α) × St)} (h : ∀ a b, KW S (f a b)) : KW S (bnd2 o f) := fun k σ' e => by
  obtain ⟨a, b, h1, h2⟩ := bnd2_el e
  exact h a b k σ' h2
theorem KW.bnd {x : β} {f : β → Option ((Nat ⊕ α) × St)} (h : ∀ a, KW S (f a)) : KW S (bnd x f) := h x
theorem KW.ite {c : Prop} [Decidable c] {a b : Option ((Nat ⊕ α) × St)} (h1 : KW S a) (h2 : KW S b) : KW S (if c then a else b) := by
  by_cases q : c
  · rw [if_pos q]; exact h1
  · rw [if_neg q]; exact h2
theorem KW.ckK {k i : Nat} {x : Option ((Nat ⊕ α) × St)} (h : KW S x) : KW S (ckK k i x) := KW.ite h KW.n
theorem KW.ckI {j : Int32} {n : Nat} {x : Option ((Nat ⊕ α) × St)} (h : KW S x) : KW S (ckI j n x) := KW.ite KW.n h
theorem KW.ckZ {y : Int32} {x : Option ((Nat ⊕ α) × St)} (h : KW S x) : KW S (ckZ y x) := KW.ite h KW.n
theorem KW.ckN {y : Int32} {x : Option ((Nat ⊕ α) × St)} (h : KW S x) : KW S (ckN y x) := KW.ite KW.n h
theorem KW.bx {σ : St} {o : Option (Nat ⊕ β)} {f : β → Option ((Nat ⊕ α) × St)} (h0 : KP S o) (h : ∀ a, KW S (f a)) : KW S (bndX0W σ o f) := fun k σ' e => by
  unfold bndX0W at e
  split at e
  · cases e
  · rename_i k0
    cases e
    exact h0 _ rfl
  · exact h _ k σ' e
theorem KP.r (x : α) : KP (α := α) S (some (.inr x)) := fun k h => by cases h
theorem KP.l {c : Nat} (h : S c = true) : KP (α := α) S (some (.inl c)) := fun k e => by cases e; exact h
theorem KP.n : KP (α := α) S none := fun k h => by cases h
theorem KP.bind {o : Option β} {f : β → Option (Nat ⊕ α)} (h : ∀ a, KP S (f a)) : KP S (o.bind f) := fun k e => by
  obtain ⟨a, h1, h2⟩ := bind_el e
  exact h a k h2
theorem KP.ite {c : Prop} [Decidable c] {a b : Option (Nat ⊕ α)} (h1 : KP S a) (h2 : KP S b) : KP S (if c then a else b) := by
  by_cases q : c
  · rw [if_pos q]; exact h1
  · rw [if_neg q]; exact h2
theorem KP.bnd {x : β} {f : β → Option (Nat ⊕ α)} (h : ∀ a, KP S (f a)) : KP S (bnd x f) := h x
theorem KP.ckK {k i : Nat} {x : Option (Nat ⊕ α)} (h : KP S x) : KP S (ckK k i x) := KP.ite h KP.n
theorem KP.ckI {j : Int32} {n : Nat} {x : Option (Nat ⊕ α)} (h : KP S x) : KP S (ckI j n x) := KP.ite KP.n h
theorem KP.ckZ {y : Int32} {x : Option (Nat ⊕ α)} (h : KP S x) : KP S (ckZ y x) := KP.ite h KP.n
theorem KP.bx {o : Option (Nat ⊕ β)} {f : β → Option (Nat ⊕ α)} (h0 : KP S o) (h : ∀ a, KP S (f a)) : KP S (bndX0 o f) := fun k e => by
  unfold bndX0 at e
  split at e
  · cases e
  · rename_i k0
    cases e
    exact h0 _ rfl
  · exact h _ k e
end
theorem KW.ckD {α : Type} {S : Nat → Bool} {u : UInt64} {x : Option ((Nat ⊕ α) × St)} (h : KW S x) : KW S (ckD u x) := KW.ite h KW.n
/-! each of the calls -/
theorem K_questAt (v0 : Nat) (v1 : Int32) (σ : St) {S : Nat → Bool} (h2 : S 2 = true) : KP S (pf_X10_questAt v0 v1 σ) := by
  unfold pf_X10_questAt pf_X10_questAt_b21
  exact KP.ite (KP.l h2) (KP.ite (KP.l h2) (KP.ite (KP.ckI (KP.r _)) (KP.l h2)))
theorem K_questWithStep (v0 : Nat) (v1 v2 : Int32) (σ : St) {S : Nat → Bool} (h2 : S 2 = true) : KP S (pf_X10_questWithStep v0 v1 v2 σ) := by
  unfold pf_X10_questWithStep pf_X10_questWithStep_b18
  exact KP.bx (K_questAt _ _ _ h2) fun r => KP.ckK (KP.ite (KP.l h2) (KP.ite (KP.r _) (KP.l h2)))
theorem K_checkItem (v0 : Int32) (σ : St) {S : Nat → Bool} (h2 : S 2 = true) : KP S (pf_X10_checkItem v0 σ) := by
  unfold pf_X10_checkItem pf_X10_checkItem_b10
  exact KP.ite (KP.l h2) (KP.ite (KP.r _) (KP.l h2))
theorem K_checkChange (v0 : Int32) (σ : St) {S : Nat → Bool} (h1 : S 1 = true) : KP S (pf_X10_checkChange v0 σ) := by
  unfold pf_X10_checkChange pf_X10_checkChange_b12
  exact KP.ite (KP.l h1) (KP.ite (KP.r _) (KP.l h1))
theorem K_chanceL (v0 v2 : Nat) {S : Nat → Bool} : ∀ n v3 v5 v6 v7 σ, KW S (pf_X10_chance_L47 pf_X10_chance_b100 n v0 v2 v3 v5 v6 v7 σ)
  | 0, _, _, _, _, _ => KW.n
  | n + 1, v3, v5, v6, v7, σ => by
    rw [pf_X10_chance_L47]
    refine KW.ite ?_ (KW.bind fun _ => KW.bind fun _ => KW.ckD (KW.ckD (KW.bnd fun _ => KW.bnd fun _ => KW.bnd fun _ => K_chanceL v0 v2 n _ _ _ _ _)))
    unfold pf_X10_chance_b100
    exact KW.r _ _
theorem K_playL (v0 v2 : Nat) {S : Nat → Bool} : ∀ n v3 σ, KW S (pf_X10_play_L19 n v0 v2 v3 σ)
  | 0, _, _ => KW.n
  | n + 1, v3, σ => by
    rw [pf_X10_play_L19]
    exact KW.ite (KW.r _ _) (KW.bnd2 fun _ _ => KW.ite (KW.r _ _) (KW.bind fun _ => KW.bnd2 fun _ _ => KW.bnd fun _ => K_playL v0 v2 n _ _))
theorem K_stateL (v0 : Nat) {S : Nat → Bool} : ∀ n v1 v2 v3 σ, KW S (pf_X10_state_L62 n v0 v1 v2 v3 σ)
  | 0, _, _, _, _ => KW.n
  | n + 1, v1, v2, v3, σ => by
    rw [pf_X10_state_L62]
    exact KW.ite (KW.r _ _) (KW.ite (KW.r _ _) (KW.ckI (KW.bnd2 fun _ _ => KW.bnd fun _ => KW.bnd fun _ => K_stateL v0 n _ _ _ _)))
theorem K_lackingL (v0 v3 : Nat) (v2 : Int32) {S : Nat → Bool} : ∀ n v4 v5 v6 σ, KW S (pf_X10_lacking_L33 n v0 v2 v3 v4 v5 v6 σ)
  | 0, _, _, _, _ => KW.n
  | n + 1, v4, v5, v6, σ => by
    have b80 : ∀ a b c d, KW S (pf_X10_lacking_b80 (pf_X10_lacking_L33 n) v0 v2 v3 a b c d) := fun a b c d => by
      unfold pf_X10_lacking_b80
      exact KW.bnd fun _ => K_lackingL v0 v3 v2 n _ _ _ _
    rw [pf_X10_lacking_L33]
    exact KW.ite (KW.r _ _) (KW.ite (KW.r _ _) (KW.bnd fun _ => KW.bnd2 fun _ _ => KW.ite (KW.bnd fun _ => b80 _ _ _ _) (b80 _ _ _ _)))
theorem K_load (v1 : Int32) (σ : St) : KW (fun k => decide (k = 1)) (pf_X10_load 0 v1 σ) := by
  unfold pf_X10_load pf_X10_load_b12
  repeat' first | exact KW.r _ _ | exact KW.l rfl _ | refine KW.bx (K_questAt _ _ _ rfl) fun _ => ?_ | refine KW.bx (K_questWithStep _ _ _ _ rfl) fun _ => ?_ | refine KW.bx (K_checkItem _ _ rfl) fun _ => ?_ | refine KW.bx (K_checkChange _ _ rfl) fun _ => ?_ | refine KW.ckK ?_ | refine KW.ckZ ?_ | refine KW.ckI ?_ | refine KW.ite ?_ ?_ | refine KW.bind fun _ => ?_ | refine KW.bnd2 fun _ _ => ?_ | refine KW.bnd fun _ => ?_
theorem K_state (v1 : Int32) (σ : St) : KW (fun k => decide (k = 1)) (pf_X10_state 0 v1 σ) := by
  unfold pf_X10_state pf_X10_state_b10
  repeat' first | exact K_stateL _ _ _ _ _ _ | exact KW.r _ _ | exact KW.l rfl _ | refine KW.bx (K_questAt _ _ _ rfl) fun _ => ?_ | refine KW.bx (K_questWithStep _ _ _ _ rfl) fun _ => ?_ | refine KW.bx (K_checkItem _ _ rfl) fun _ => ?_ | refine KW.bx (K_checkChange _ _ rfl) fun _ => ?_ | refine KW.ckK ?_ | refine KW.ckZ ?_ | refine KW.ckI ?_ | refine KW.ite ?_ ?_ | refine KW.bind fun _ => ?_ | refine KW.bnd2 fun _ _ => ?_ | refine KW.bnd fun _ => ?_
theorem K_stock (v1 : Int32) (σ : St) : KP (fun k => decide (k = 2)) (pf_X10_stock 0 v1 σ) := by
  unfold pf_X10_stock
  repeat' first | exact KP.r _ | exact KP.l rfl | refine KP.bx (K_questAt _ _ _ rfl) fun _ => ?_ | refine KP.bx (K_questWithStep _ _ _ _ rfl) fun _ => ?_ | refine KP.bx (K_checkItem _ _ rfl) fun _ => ?_ | refine KP.ckK ?_ | refine KP.ckZ ?_ | refine KP.ckI ?_ | refine KP.ite ?_ ?_ | refine KP.bind fun _ => ?_ | refine KP.bnd fun _ => ?_
theorem K_quest (v1 v2 : Int32) (σ : St) : KP (fun k => decide (k = 2) || decide (k = 1)) (pf_X10_quest 0 v1 v2 σ) := by
  unfold pf_X10_quest
  repeat' first | exact KP.r _ | exact KP.l rfl | refine KP.bx (K_questAt _ _ _ rfl) fun _ => ?_ | refine KP.bx (K_questWithStep _ _ _ _ rfl) fun _ => ?_ | refine KP.bx (K_checkItem _ _ rfl) fun _ => ?_ | refine KP.ckK ?_ | refine KP.ckZ ?_ | refine KP.ckI ?_ | refine KP.ite ?_ ?_ | refine KP.bind fun _ => ?_ | refine KP.bnd fun _ => ?_
theorem K_step (v1 v2 v3 : Int32) (σ : St) : KP (fun k => decide (k = 2) || decide (k = 1)) (pf_X10_step 0 v1 v2 v3 σ) := by
  unfold pf_X10_step
  repeat' first | exact KP.r _ | exact KP.l rfl | refine KP.bx (K_questAt _ _ _ rfl) fun _ => ?_ | refine KP.bx (K_questWithStep _ _ _ _ rfl) fun _ => ?_ | refine KP.bx (K_checkItem _ _ rfl) fun _ => ?_ | refine KP.ckK ?_ | refine KP.ckZ ?_ | refine KP.ckI ?_ | refine KP.ite ?_ ?_ | refine KP.bind fun _ => ?_ | refine KP.bnd fun _ => ?_
theorem K_amount (v1 v2 v3 v4 : Int32) (σ : St) : KP (fun k => decide (k = 2) || decide (k = 1)) (pf_X10_amount 0 v1 v2 v3 v4 σ) := by
  unfold pf_X10_amount
  repeat' first | exact KP.r _ | exact KP.l rfl | refine KP.bx (K_questAt _ _ _ rfl) fun _ => ?_ | refine KP.bx (K_questWithStep _ _ _ _ rfl) fun _ => ?_ | refine KP.bx (K_checkItem _ _ rfl) fun _ => ?_ | refine KP.ckK ?_ | refine KP.ckZ ?_ | refine KP.ckI ?_ | refine KP.ite ?_ ?_ | refine KP.bind fun _ => ?_ | refine KP.bnd fun _ => ?_
theorem K_why (v1 v2 : Int32) (σ : St) : KP (fun k => decide (k = 2)) (pf_X10_why 0 v1 v2 σ) := by
  unfold pf_X10_why
  repeat' first | exact KP.r _ | exact KP.l rfl | refine KP.bx (K_questAt _ _ _ rfl) fun _ => ?_ | refine KP.bx (K_questWithStep _ _ _ _ rfl) fun _ => ?_ | refine KP.bx (K_checkItem _ _ rfl) fun _ => ?_ | refine KP.ckK ?_ | refine KP.ckZ ?_ | refine KP.ckI ?_ | refine KP.ite ?_ ?_ | refine KP.bind fun _ => ?_ | refine KP.bnd fun _ => ?_
theorem K_holds (v1 v2 : Int32) (σ : St) : KP (fun k => decide (k = 2) || decide (k = 1)) (pf_X10_holds 0 v1 v2 σ) := by
  unfold pf_X10_holds pf_X10_holds_b16
  repeat' first | exact KP.r _ | exact KP.l rfl | refine KP.bx (K_questAt _ _ _ rfl) fun _ => ?_ | refine KP.bx (K_questWithStep _ _ _ _ rfl) fun _ => ?_ | refine KP.bx (K_checkItem _ _ rfl) fun _ => ?_ | refine KP.ckK ?_ | refine KP.ckZ ?_ | refine KP.ckI ?_ | refine KP.ite ?_ ?_ | refine KP.bind fun _ => ?_ | refine KP.bnd fun _ => ?_
theorem K_possible (v1 : Int32) (σ : St) : KW (fun k => decide (k = 2)) (pf_X10_possible 0 v1 σ) := by
  unfold pf_X10_possible
  repeat' first | exact KW.r _ _ | exact KW.l rfl _ | refine KW.bx (K_questAt _ _ _ rfl) fun _ => ?_ | refine KW.bx (K_questWithStep _ _ _ _ rfl) fun _ => ?_ | refine KW.bx (K_checkItem _ _ rfl) fun _ => ?_ | refine KW.bx (K_checkChange _ _ rfl) fun _ => ?_ | refine KW.ckK ?_ | refine KW.ckZ ?_ | refine KW.ckI ?_ | refine KW.ite ?_ ?_ | refine KW.bind fun _ => ?_ | refine KW.bnd2 fun _ _ => ?_ | refine KW.bnd fun _ => ?_
theorem K_planLength (v1 : Int32) (σ : St) : KW (fun k => decide (k = 2)) (pf_X10_planLength 0 v1 σ) := by
  unfold pf_X10_planLength
  repeat' first | exact KW.r _ _ | exact KW.l rfl _ | refine KW.bx (K_questAt _ _ _ rfl) fun _ => ?_ | refine KW.bx (K_questWithStep _ _ _ _ rfl) fun _ => ?_ | refine KW.bx (K_checkItem _ _ rfl) fun _ => ?_ | refine KW.bx (K_checkChange _ _ rfl) fun _ => ?_ | refine KW.ckK ?_ | refine KW.ckZ ?_ | refine KW.ckI ?_ | refine KW.ite ?_ ?_ | refine KW.bind fun _ => ?_ | refine KW.bnd2 fun _ _ => ?_ | refine KW.bnd fun _ => ?_
theorem K_planStep (v1 v2 : Int32) (σ : St) : KW (fun k => decide (k = 2) || decide (k = 4)) (pf_X10_planStep 0 v1 v2 σ) := by
  unfold pf_X10_planStep pf_X10_planStep_b38
  repeat' first | exact KW.r _ _ | exact KW.l rfl _ | refine KW.bx (K_questAt _ _ _ rfl) fun _ => ?_ | refine KW.bx (K_questWithStep _ _ _ _ rfl) fun _ => ?_ | refine KW.bx (K_checkItem _ _ rfl) fun _ => ?_ | refine KW.bx (K_checkChange _ _ rfl) fun _ => ?_ | refine KW.ckK ?_ | refine KW.ckZ ?_ | refine KW.ckI ?_ | refine KW.ite ?_ ?_ | refine KW.bind fun _ => ?_ | refine KW.bnd2 fun _ _ => ?_ | refine KW.bnd fun _ => ?_
theorem K_safest (v1 : Int32) (σ : St) : KW (fun k => decide (k = 2)) (pf_X10_safest 0 v1 σ) := by
  unfold pf_X10_safest
  repeat' first | exact KW.r _ _ | exact KW.l rfl _ | refine KW.bx (K_questAt _ _ _ rfl) fun _ => ?_ | refine KW.bx (K_questWithStep _ _ _ _ rfl) fun _ => ?_ | refine KW.bx (K_checkItem _ _ rfl) fun _ => ?_ | refine KW.bx (K_checkChange _ _ rfl) fun _ => ?_ | refine KW.ckK ?_ | refine KW.ckZ ?_ | refine KW.ckI ?_ | refine KW.ite ?_ ?_ | refine KW.bind fun _ => ?_ | refine KW.bnd2 fun _ _ => ?_ | refine KW.bnd fun _ => ?_
theorem K_endings (v1 : Int32) (σ : St) : KW (fun k => decide (k = 2)) (pf_X10_endings 0 v1 σ) := by
  unfold pf_X10_endings
  repeat' first | exact KW.r _ _ | exact KW.l rfl _ | refine KW.bx (K_questAt _ _ _ rfl) fun _ => ?_ | refine KW.bx (K_questWithStep _ _ _ _ rfl) fun _ => ?_ | refine KW.bx (K_checkItem _ _ rfl) fun _ => ?_ | refine KW.bx (K_checkChange _ _ rfl) fun _ => ?_ | refine KW.ckK ?_ | refine KW.ckZ ?_ | refine KW.ckI ?_ | refine KW.ite ?_ ?_ | refine KW.bind fun _ => ?_ | refine KW.bnd2 fun _ _ => ?_ | refine KW.bnd fun _ => ?_
theorem K_lacking (v1 v2 : Int32) (σ : St) : KW (fun k => decide (k = 2)) (pf_X10_lacking 0 v1 v2 σ) := by
  unfold pf_X10_lacking
  repeat' first | exact K_lackingL _ _ _ _ _ _ _ _ | exact KW.r _ _ | exact KW.l rfl _ | refine KW.bx (K_questAt _ _ _ rfl) fun _ => ?_ | refine KW.bx (K_questWithStep _ _ _ _ rfl) fun _ => ?_ | refine KW.bx (K_checkItem _ _ rfl) fun _ => ?_ | refine KW.bx (K_checkChange _ _ rfl) fun _ => ?_ | refine KW.ckK ?_ | refine KW.ckZ ?_ | refine KW.ckI ?_ | refine KW.ite ?_ ?_ | refine KW.bind fun _ => ?_ | refine KW.bnd2 fun _ _ => ?_ | refine KW.bnd fun _ => ?_
theorem K_worth (v1 : Int32) (σ : St) : KW (fun k => decide (k = 2)) (pf_X10_worth 0 v1 σ) := by
  unfold pf_X10_worth
  repeat' first | exact KW.r _ _ | exact KW.l rfl _ | refine KW.bx (K_questAt _ _ _ rfl) fun _ => ?_ | refine KW.bx (K_questWithStep _ _ _ _ rfl) fun _ => ?_ | refine KW.bx (K_checkItem _ _ rfl) fun _ => ?_ | refine KW.bx (K_checkChange _ _ rfl) fun _ => ?_ | refine KW.ckK ?_ | refine KW.ckZ ?_ | refine KW.ckI ?_ | refine KW.ite ?_ ?_ | refine KW.bind fun _ => ?_ | refine KW.bnd2 fun _ _ => ?_ | refine KW.bnd fun _ => ?_
theorem K_chance (v1 : Int32) (σ : St) : KW (fun k => decide (k = 2)) (pf_X10_chance 0 v1 σ) := by
  unfold pf_X10_chance
  repeat' first | exact K_chanceL _ _ _ _ _ _ _ _ | exact KW.r _ _ | exact KW.l rfl _ | refine KW.bx (K_questAt _ _ _ rfl) fun _ => ?_ | refine KW.bx (K_questWithStep _ _ _ _ rfl) fun _ => ?_ | refine KW.bx (K_checkItem _ _ rfl) fun _ => ?_ | refine KW.bx (K_checkChange _ _ rfl) fun _ => ?_ | refine KW.ckK ?_ | refine KW.ckZ ?_ | refine KW.ckI ?_ | refine KW.ite ?_ ?_ | refine KW.bind fun _ => ?_ | refine KW.bnd2 fun _ _ => ?_ | refine KW.bnd fun _ => ?_
theorem K_tell (v1 v2 : Int32) (σ : St) : KW (fun k => decide (k = 1) || decide (k = 3)) (pf_X10_tell 0 v1 v2 σ) := by
  unfold pf_X10_tell pf_X10_tell_b20
  repeat' first | exact KW.r _ _ | exact KW.l rfl _ | refine KW.bx (K_questAt _ _ _ rfl) fun _ => ?_ | refine KW.bx (K_questWithStep _ _ _ _ rfl) fun _ => ?_ | refine KW.bx (K_checkItem _ _ rfl) fun _ => ?_ | refine KW.bx (K_checkChange _ _ rfl) fun _ => ?_ | refine KW.ckK ?_ | refine KW.ckZ ?_ | refine KW.ckI ?_ | refine KW.ite ?_ ?_ | refine KW.bind fun _ => ?_ | refine KW.bnd2 fun _ _ => ?_ | refine KW.bnd fun _ => ?_
theorem K_attempt (v1 v2 : Int32) (σ : St) : KW (fun k => decide (k = 2) || decide (k = 3)) (pf_X10_attempt 0 v1 v2 σ) := by
  unfold pf_X10_attempt
  repeat' first | exact KW.r _ _ | exact KW.l rfl _ | refine KW.bx (K_questAt _ _ _ rfl) fun _ => ?_ | refine KW.bx (K_questWithStep _ _ _ _ rfl) fun _ => ?_ | refine KW.bx (K_checkItem _ _ rfl) fun _ => ?_ | refine KW.bx (K_checkChange _ _ rfl) fun _ => ?_ | refine KW.ckK ?_ | refine KW.ckZ ?_ | refine KW.ckI ?_ | refine KW.ite ?_ ?_ | refine KW.bind fun _ => ?_ | refine KW.bnd2 fun _ _ => ?_ | refine KW.bnd fun _ => ?_
theorem K_play (v1 : Int32) (σ : St) : KW (fun k => decide (k = 2)) (pf_X10_play 0 v1 σ) := by
  unfold pf_X10_play
  repeat' first | exact K_playL _ _ _ _ _ | exact KW.r _ _ | exact KW.l rfl _ | refine KW.bx (K_questAt _ _ _ rfl) fun _ => ?_ | refine KW.bx (K_questWithStep _ _ _ _ rfl) fun _ => ?_ | refine KW.bx (K_checkItem _ _ rfl) fun _ => ?_ | refine KW.bx (K_checkChange _ _ rfl) fun _ => ?_ | refine KW.ckK ?_ | refine KW.ckZ ?_ | refine KW.ckI ?_ | refine KW.ite ?_ ?_ | refine KW.bind fun _ => ?_ | refine KW.bnd2 fun _ _ => ?_ | refine KW.bnd fun _ => ?_
theorem K_add (v1 v2 : Int32) (σ : St) : KW (fun k => decide (k = 2) || decide (k = 1) || decide (k = 3)) (pf_X10_add 0 v1 v2 σ) := by
  unfold pf_X10_add
  repeat' first | exact KW.r _ _ | exact KW.l rfl _ | refine KW.bx (K_questAt _ _ _ rfl) fun _ => ?_ | refine KW.bx (K_questWithStep _ _ _ _ rfl) fun _ => ?_ | refine KW.bx (K_checkItem _ _ rfl) fun _ => ?_ | refine KW.bx (K_checkChange _ _ rfl) fun _ => ?_ | refine KW.ckK ?_ | refine KW.ckZ ?_ | refine KW.ckI ?_ | refine KW.ite ?_ ?_ | refine KW.bind fun _ => ?_ | refine KW.bnd2 fun _ _ => ?_ | refine KW.bnd fun _ => ?_
theorem K_spend (v1 v2 : Int32) (σ : St) : KW (fun k => decide (k = 2) || decide (k = 1) || decide (k = 3)) (pf_X10_spend 0 v1 v2 σ) := by
  unfold pf_X10_spend
  repeat' first | exact KW.r _ _ | exact KW.l rfl _ | refine KW.bx (K_questAt _ _ _ rfl) fun _ => ?_ | refine KW.bx (K_questWithStep _ _ _ _ rfl) fun _ => ?_ | refine KW.bx (K_checkItem _ _ rfl) fun _ => ?_ | refine KW.bx (K_checkChange _ _ rfl) fun _ => ?_ | refine KW.ckK ?_ | refine KW.ckZ ?_ | refine KW.ckI ?_ | refine KW.ite ?_ ?_ | refine KW.bind fun _ => ?_ | refine KW.bnd2 fun _ _ => ?_ | refine KW.bnd fun _ => ?_
theorem K_mend (v1 v2 : Int32) (σ : St) : KW (fun k => decide (k = 2)) (pf_X10_mend 0 v1 v2 σ) := by
  unfold pf_X10_mend
  repeat' first | exact KW.r _ _ | exact KW.l rfl _ | refine KW.bx (K_questAt _ _ _ rfl) fun _ => ?_ | refine KW.bx (K_questWithStep _ _ _ _ rfl) fun _ => ?_ | refine KW.bx (K_checkItem _ _ rfl) fun _ => ?_ | refine KW.bx (K_checkChange _ _ rfl) fun _ => ?_ | refine KW.ckK ?_ | refine KW.ckZ ?_ | refine KW.ckI ?_ | refine KW.ite ?_ ?_ | refine KW.bind fun _ => ?_ | refine KW.bnd2 fun _ _ => ?_ | refine KW.bnd fun _ => ?_
theorem K_giveUp (v1 : Int32) (σ : St) : KW (fun k => decide (k = 2) || decide (k = 3)) (pf_X10_giveUp 0 v1 σ) := by
  unfold pf_X10_giveUp
  repeat' first | exact KW.r _ _ | exact KW.l rfl _ | refine KW.bx (K_questAt _ _ _ rfl) fun _ => ?_ | refine KW.bx (K_questWithStep _ _ _ _ rfl) fun _ => ?_ | refine KW.bx (K_checkItem _ _ rfl) fun _ => ?_ | refine KW.bx (K_checkChange _ _ rfl) fun _ => ?_ | refine KW.ckK ?_ | refine KW.ckZ ?_ | refine KW.ckI ?_ | refine KW.ite ?_ ?_ | refine KW.bind fun _ => ?_ | refine KW.bnd2 fun _ _ => ?_ | refine KW.bnd fun _ => ?_
theorem K_reopen (v1 : Int32) (σ : St) : KW (fun k => decide (k = 2)) (pf_X10_reopen 0 v1 σ) := by
  unfold pf_X10_reopen
  repeat' first | exact KW.r _ _ | exact KW.l rfl _ | refine KW.bx (K_questAt _ _ _ rfl) fun _ => ?_ | refine KW.bx (K_questWithStep _ _ _ _ rfl) fun _ => ?_ | refine KW.bx (K_checkItem _ _ rfl) fun _ => ?_ | refine KW.bx (K_checkChange _ _ rfl) fun _ => ?_ | refine KW.ckK ?_ | refine KW.ckZ ?_ | refine KW.ckI ?_ | refine KW.ite ?_ ?_ | refine KW.bind fun _ => ?_ | refine KW.bnd2 fun _ _ => ?_ | refine KW.bnd fun _ => ?_
