/-! CALLS that ask -/
theorem BB_1 {c : Nat} (h : c < 512) : BB (c + 1) = BB c + 1000 ∧ BB (c + 1) ≤ 1513000 ∧ 1000000 ≤ BB (c + 1) := by unfold BB; omega
section
variable {c : Nat} {σ : St}
/-! CALLS that change -/
theorem cQ_nw {σ σ' : St} (h : Un cQ σ σ') : Un nwM σ σ' := h.mono fun i hi => Or.inr hi
theorem VR.stk1 {B B' i s : Nat} {rd : Nat → Int32} (h : VR B rd) (hB : B ≤ B') (hi : i < 8) (hs : s ≤ B') (hb : B' < 2 ^ 31) : VR B' (up rd (5 + i) (nI s)) := h.st (fun k a1 a2 => up_ne _ _ (by omega)) fun k hk => by
  by_cases e : k = i
  · subst e; rw [up_at]; exact Is.of hs hb
  · rw [up_ne _ _ (by omega)]; exact (h.2.2.2.2.1 k hk).mono hB
theorem RLd.stk1 {σ : St} {B i s : Nat} {rd : Nat → Int32} (v : VR B rd) (h : RLd σ 2 rd) (hi : i < 8) : RLd (sI σ 3 i (nI s)) 2 (up rd (5 + i) (nI s)) := RLd.st v h (Un.sI _ _ rfl) (fun k a1 a2 => up_ne _ _ (by omega)) fun k hk => by
  by_cases e : k = i
  · subst e; rw [up_at]; exact gI_at _ _ _ _
  · rw [up_ne _ _ (by omega)]
    show gI (sI σ 3 i (nI s)) 3 k = _
    rw [gI_ns _ _ _ e]; exact h.2.2.2.1 k hk
def fA (k : Nat) : Int32 := if k = 2 then 1 else if k = 1 then 2 else 3
theorem am_cases (v : Int32) : (v < 1 ∨ nI 1000 ≤ v) ∨ ∃ m, 1 ≤ m ∧ m ≤ 999 ∧ v = nI m := by
  rcases v_cases v (n := 1000) (by omega) with h | ⟨m, hm, rfl⟩
  · left
    rcases h with h | h
    · left
      rw [Int32.lt_iff_toInt_lt] at h ⊢
      have e1 : (1 : Int32).toInt = 1 := by decide
      have e0 : (0 : Int32).toInt = 0 := by decide
      omega
    · exact Or.inr h
  · rcases (by omega : m = 0 ∨ 1 ≤ m) with rfl | h
    · left; left; decide
    · exact Or.inr ⟨m, h, by omega, rfl⟩
theorem am_no {v : Int32} (h : v < 1 ∨ nI 1000 ≤ v) : decide (¬ v < 1 ∧ ¬ 999 < v) = false := by
  apply decide_eq_false
  intro q
  rcases h with h | h
  · exact q.1 h
  · apply q.2
    rw [Int32.le_iff_toInt_le, nI_toInt (by omega)] at h
    rw [Int32.lt_iff_toInt_lt]
    have e1 : (999 : Int32).toInt = 999 := by decide
    omega
theorem am_yes {m : Nat} (h1 : 1 ≤ m) (h2 : m ≤ 999) : decide (¬ nI m < 1 ∧ ¬ 999 < nI m) = true := decide_eq_true ⟨nI_nlt h1 (by omega), show ¬ nI 999 < nI m from nI_nlt (a := 999) (b := m) h2 (by omega)⟩
end
