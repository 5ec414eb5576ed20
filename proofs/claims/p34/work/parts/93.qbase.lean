/-! QUESTIONS: what both sides check first -/
def qB : Nat → Prop := fun k => k = 0 ∨ k = 9 ∨ k = 11
theorem qB3 : ¬ qB 3 := by unfold qB; omega
/-- the class side: its ledger stands for the row -/
def CX (σ : St) (rd : Nat → Int32) (B : Nat) : Prop := RLd σ 2 rd ∧ VR B rd ∧ B ≤ 50000000
def Qn (rd : Nat → Int32) : Nat := Nn (rd 0)
section
variable {σ τ : St} {rd : Nat → Int32} {B : Nat}
theorem CX.q0 (X : CX σ rd B) : rd 0 = nI (Qn rd) ∧ Qn rd ≤ 6 := ⟨X.2.1.1.1, X.2.1.1.2⟩
theorem CX.V (X : CX σ rd B) {q : Nat} (h : q < Qn rd) : VQ rd (53 + 186 * q) := (X.2.1.2.2.2.2.2.2.1 q h).1
theorem CX.O (X : CX σ rd B) {q : Nat} (h : q < Qn rd) : VO rd (53 + 186 * q) := (X.2.1.2.2.2.2.2.2.1 q h).2
theorem CX.stock (X : CX σ rd B) {i : Nat} (h : i < 8) : rd (5 + i) = nI (Nn (rd (5 + i))) ∧ Nn (rd (5 + i)) ≤ B := X.2.1.2.2.2.2.1 i h
theorem CX.S (X : CX σ rd B) : ∀ i, i < 8 → 0 ≤ stk rd i ∧ stk rd i ≤ 50000000 := fun i hi => by
  have h1 := (X.stock hi).2
  have h2 := X.2.2
  unfold stk
  omega
theorem kd7 : ∀ q, q < 6 → kd (7 + 9 * q) = 3 := by decide +kernel
theorem CX.W (X : CX σ rd B) {q : Nat} (h : q < Qn rd) : Wx σ (7 + 9 * q) rd (53 + 186 * q) (stk rd) := by
  have hq := X.q0.2
  refine ⟨kd7 q (by omega), by omega, X.V h, ?_, X.S⟩
  have := X.1.2.2.2.2.2.1 q h
  rw [show 2 + 5 + 9 * q = 7 + 9 * q by omega] at this
  exact this
theorem CX.st (X : CX σ rd B) : ∀ i, i < 8 → gI σ 3 i = iI (stk rd i) := fun i hi => by
  rw [show gI σ 3 i = rd (5 + i) from X.1.2.2.2.1 i hi, (X.stock hi).1]
  unfold stk
  rw [iI_nat]
theorem al3 : alen 3 = 8 := by decide +kernel
theorem al5 : alen 5 = 6 := by decide +kernel
theorem CX.un {M : Nat → Prop} {σ' : St} (X : CX σ rd B) (h : Un M σ σ') (hm : ∀ i, 2 ≤ i → i < 61 → ¬ M i) : CX σ' rd B := ⟨X.1.un X.q0.2 h (fun i h1 h2 => hm i h1 (by omega)), X.2⟩
theorem qAt_no {v : Int32} (X : CX σ rd B) (h : v < 0 ∨ nI (Qn rd) ≤ v) : pf_X10_questAt 0 v σ = some (.inl 2) := by
  unfold pf_X10_questAt pf_X10_questAt_b21
  rw [show gI σ (0 + 2) 5 = nI (Qn rd) from X.1.1.trans X.q0.1]
  rcases h with h | h
  · rw [if_pos h]
  · by_cases h1 : v < 0
    · rw [if_pos h1]
    · rw [if_neg h1, if_pos h]
theorem qAt_yes {q : Nat} (X : CX σ rd B) (h : q < Qn rd) : pf_X10_questAt 0 (nI q) σ = some (.inr (7 + 9 * q)) := by
  have hq := X.q0.2
  unfold pf_X10_questAt
  rw [show gI σ (0 + 2) 5 = nI (Qn rd) from X.1.1.trans X.q0.1, if_neg (nI_pos (by omega)), if_neg (nI_ge h (by omega)), show (6 : Int32) = nI 6 from rfl, if_pos (nI_lt (by omega) (by omega)), ckA al5 (by omega), nI_clamp (by omega), show 0 + 2 + 3 + 2 + 9 * q = 7 + 9 * q by omega]
theorem bX0_r {α β : Type} (v : α) (f : α → Option (Nat ⊕ β)) : bndX0 (some (.inr v)) f = f v := rfl
theorem bX0_l {α β : Type} (k : Nat) (f : α → Option (Nat ⊕ β)) : bndX0 (some (.inl k)) f = some (.inl k) := rfl
theorem bXW_r {α β : Type} (σ : St) (v : α) (f : α → Option ((Nat ⊕ β) × St)) : bndX0W σ (some (.inr v)) f = f v := rfl
theorem bXW_l {α β : Type} (σ : St) (k : Nat) (f : α → Option ((Nat ⊕ β) × St)) : bndX0W σ (some (.inl k)) f = some (.inl k, σ) := rfl
theorem qWS_no {q : Nat} {v : Int32} (X : CX σ rd B) (h : q < Qn rd) (hv : v < 0 ∨ nI (nS rd (53 + 186 * q)) ≤ v) : pf_X10_questWithStep 0 (nI q) v σ = some (.inl 2) := by
  unfold pf_X10_questWithStep
  rw [qAt_yes X h, bX0_r, ckK_eq (kd7 q (by have := X.q0.2; omega)), (X.W h).2.2.2.1.1, (X.V h).e0]
  unfold pf_X10_questWithStep_b18
  by_cases h1 : v < 0
  · rw [if_pos h1]
  · rw [if_neg h1, if_neg]
    rcases hv with q | q
    · exact absurd q h1
    · exact Int32.not_lt.mpr q
theorem qWS_yes {q s : Nat} (X : CX σ rd B) (h : q < Qn rd) (hs : s < nS rd (53 + 186 * q)) : pf_X10_questWithStep 0 (nI q) (nI s) σ = some (.inr (7 + 9 * q)) := by
  have hn := (X.V h).n
  unfold pf_X10_questWithStep
  rw [qAt_yes X h, bX0_r, ckK_eq (kd7 q (by have := X.q0.2; omega)), (X.W h).2.2.2.1.1, (X.V h).e0, if_neg (nI_pos (by omega)), if_pos (nI_lt hs (by omega))]
theorem qWS_q {v w : Int32} (X : CX σ rd B) (h : v < 0 ∨ nI (Qn rd) ≤ v) : pf_X10_questWithStep 0 v w σ = some (.inl 2) := by
  unfold pf_X10_questWithStep
  rw [qAt_no X h, bX0_l]
theorem cIt_no {v : Int32} (h : v < 0 ∨ nI 8 ≤ v) : pf_X10_checkItem v σ = some (.inl 2) := by
  unfold pf_X10_checkItem pf_X10_checkItem_b10
  by_cases h1 : v < 0
  · rw [if_pos h1]
  · rw [if_neg h1, if_neg]
    rcases h with q | q
    · exact absurd q h1
    · exact Int32.not_lt.mpr q
theorem cIt_yes {i : Nat} (h : i < 8) : pf_X10_checkItem (nI i) σ = some (.inr ()) := by
  unfold pf_X10_checkItem
  rw [if_neg (nI_pos (by omega)), show (8 : Int32) = nI 8 from rfl, if_pos (nI_lt h (by omega))]
/-! the reference's checks -/
theorem in_yes {n j : Nat} (hj : j < n) (hn : n < 2 ^ 31) : decide (¬ nI j < 0 ∧ ¬ nI n ≤ nI j) = true := decide_eq_true ⟨nI_pos (by omega), nI_ge hj hn⟩
theorem in_no {n : Nat} {v : Int32} (h : v < 0 ∨ nI n ≤ v) : decide (¬ v < 0 ∧ ¬ nI n ≤ v) = false := decide_eq_false (fun q => h.elim q.1 q.2)
theorem in7 (v : Int32) : decide (¬ v < 0 ∧ ¬ 7 < v) = decide (¬ v < 0 ∧ ¬ nI 8 ≤ v) := by
  apply decide_eq_decide.mpr
  refine and_congr Iff.rfl (not_congr ?_)
  rw [show (7 : Int32) = iI 7 from rfl, show nI 8 = iI 8 from rfl, Int32.lt_iff_toInt_lt, Int32.le_iff_toInt_le, iI_toInt (by omega) (by omega), iI_toInt (by omega) (by omega)]
  omega
/-- the answers agree: a value, or the exception with the law's number for it -/
def Agr (f : Nat → Int32) (A : Nat ⊕ Int32) (b t : Int32) : Prop := match A with
  | .inr x => t = 0 ∧ b = x
  | .inl k => t = f k
end
/-- 0 to n, or out of it -/
theorem v_cases (v : Int32) {n : Nat} (hn : n < 2 ^ 31) : (v < 0 ∨ nI n ≤ v) ∨ ∃ j, j < n ∧ v = nI j := by
  rcases pk_ix v hn with h | h | h
  · exact Or.inl (Or.inl h)
  · exact Or.inl (Or.inr h)
  · exact Or.inr h
