/-! QUESTIONS state and progress -/
def shr (rd : Nat → Int32) (q w : Nat) : Nat :=
  if w = 1 then nS rd (53 + 186 * q)
  else if w = 2 then (if rd (53 + 186 * q + 1) = 1 then 1 else 0)
  else if w = 3 then (if rd (53 + 186 * q + 1) = 2 then 1 else 0)
  else if w = 4 then pop6 (dnM rd (53 + 186 * q))
  else if w = 5 then flS rd (53 + 186 * q) (nS rd (53 + 186 * q))
  else (if posb rd (53 + 186 * q) (stk rd) then 1 else 0)
def cnS (rd : Nat → Int32) (w : Nat) : Nat → Nat
  | 0 => 0
  | k + 1 => cnS rd w k + shr rd k w
section
variable {σ τ : St} {rd : Nat → Int32} {B : Nat}
theorem shr_le (X : CX σ rd B) {q : Nat} (hq : q < Qn rd) (w : Nat) : shr rd q w ≤ 54 := by
  have V := X.V hq
  have hn := V.n
  have h2 := pop6_le _ (dnM_64 V)
  have h3 := flS_le V (nS rd (53 + 186 * q)) (Nat.le_refl _)
  unfold shr
  repeat' split
  all_goals omega
theorem cnS_le (X : CX σ rd B) (w : Nat) : ∀ k, k ≤ Qn rd → cnS rd w k ≤ 54 * k
  | 0, _ => Nat.le_refl _
  | k + 1, h => by
    have := cnS_le X w k (by omega)
    have := shr_le X (show k < Qn rd by omega) w
    rw [cnS]; omega
theorem shareC (X : CX σ rd B) {q : Nat} (hq : q < Qn rd) {w : Nat} (h1 : 1 ≤ w) (h9 : w < 9) : ∃ σ', pf_X10_shareOf 0 (7 + 9 * q) (nI w) σ = some (nI (shr rd q w), σ') ∧ Un cQ σ σ' := by
  have V := X.V hq
  have W := X.W hq
  have hr := W.2.2.2.1
  have q0 := X.q0
  unfold pf_X10_shareOf shr
  rcases (by omega : w = 1 ∨ w = 2 ∨ w = 3 ∨ w = 4 ∨ w = 5 ∨ 6 ≤ w) with rfl | rfl | rfl | rfl | rfl | hw
  · rw [if_pos (show nI 1 = (1 : Int32) from rfl), hr.1, V.e0]
    exact ⟨σ, rfl, Un.refl _ _⟩
  · rw [if_neg (show ¬ nI 2 = (1 : Int32) by decide), if_pos (show nI 2 = (2 : Int32) from rfl), hr.2.1]
    by_cases c : rd (53 + 186 * q + 1) = 1
    · rw [if_pos c]
      simp only [c]
      exact ⟨σ, rfl, Un.refl _ _⟩
    · rw [if_neg c]
      refine ⟨σ, ?_, Un.refl _ _⟩
      simp [c]; rfl
  · rw [if_neg (show ¬ nI 3 = (1 : Int32) by decide), if_neg (show ¬ nI 3 = (2 : Int32) by decide), if_pos (show nI 3 = (3 : Int32) from rfl), hr.2.1]
    by_cases c : rd (53 + 186 * q + 1) = 2
    · rw [if_pos c]
      simp only [c]
      exact ⟨σ, rfl, Un.refl _ _⟩
    · rw [if_neg c]
      refine ⟨σ, ?_, Un.refl _ _⟩
      simp [c]; rfl
  · rw [if_neg (show ¬ nI 4 = (1 : Int32) by decide), if_neg (show ¬ nI 4 = (2 : Int32) by decide), if_neg (show ¬ nI 4 = (3 : Int32) by decide), if_pos (show nI 4 = (4 : Int32) from rfl), hr.2.2.1, bc32 _ (dnM_64 V), bind_some]
    exact ⟨σ, rfl, Un.refl _ _⟩
  · rw [if_neg (show ¬ nI 5 = (1 : Int32) by decide), if_neg (show ¬ nI 5 = (2 : Int32) by decide), if_neg (show ¬ nI 5 = (3 : Int32) by decide), if_neg (show ¬ nI 5 = (4 : Int32) by decide), if_pos (show nI 5 = (5 : Int32) from rfl), failsH (kd7 q (by omega)) V hr, bind_some]
    exact ⟨σ, rfl, Un.refl _ _⟩
  · obtain ⟨σ2, c1, c2, _, _, _⟩ := X.ex hq
    have ne : ∀ k, k < 6 → ¬ nI w = nI k := fun k hk => by rw [nI_eq (by omega) (by omega)]; omega
    rw [if_neg (show ¬ nI w = (1 : Int32) from ne 1 (by omega)), if_neg (show ¬ nI w = (2 : Int32) from ne 2 (by omega)), if_neg (show ¬ nI w = (3 : Int32) from ne 3 (by omega)), if_neg (show ¬ nI w = (4 : Int32) from ne 4 (by omega)), if_neg (show ¬ nI w = (5 : Int32) from ne 5 (by omega)), show pf_X7_explore (0 + 602) (7 + 9 * q) (0 + 2 + 1) σ = _ from c1, bnd2_some, if_b, if_neg (show ¬ w = 1 by omega), if_neg (show ¬ w = 2 by omega), if_neg (show ¬ w = 3 by omega), if_neg (show ¬ w = 4 by omega), if_neg (show ¬ w = 5 by omega)]
    cases posb rd (53 + 186 * q) (stk rd) with
    | true => exact ⟨σ2, rfl, c2⟩
    | false => exact ⟨σ2, rfl, c2⟩
theorem countC (X : CX σ rd B) {w : Nat} (h1 : 1 ≤ w) (h9 : w < 9) : ∃ σ', pf_X10_state_L62 FU 0 (nI w) 0 0 σ = some (.inr (nI (cnS rd w (Qn rd))), σ') ∧ Un cQ σ σ' := by
  have q0 := X.q0
  refine up_C (fun n i (s : Nat × St) => pf_X10_state_L62 n 0 (nI w) (nI s.1) (nI i) s.2) (Qn rd) (fun i s => s.1 = cnS rd w i ∧ Un cQ σ s.2) (fun r => ∃ σ', r = some (.inr (nI (cnS rd w (Qn rd))), σ') ∧ Un cQ σ σ') ?_ ?_ FU 0 (0, σ) (Nat.zero_le _) ⟨rfl, Un.refl _ _⟩ (lt_FU (by omega))
  · rintro n ⟨x, s⟩ ⟨a1, a2⟩
    have a1' : x = _ := a1
    have Xs := X.cq a2
    refine ⟨s, ?_, a2⟩
    show pf_X10_state_L62 (n + 1) 0 (nI w) (nI x) (nI (Qn rd)) s = _
    rw [pf_X10_state_L62, show gI s (0 + 2) 5 = nI (Qn rd) from Xs.1.1.trans q0.1, if_pos (nI_le (Nat.le_refl _) (by omega)), a1']
  · rintro n i ⟨x, s⟩ hi ⟨a1, a2⟩
    have a1' : x = _ := a1
    have Xs := X.cq a2
    obtain ⟨s2, g1, g2⟩ := shareC Xs hi h1 h9
    right
    refine ⟨(x + shr rd i w, s2), ?_, by rw [a1']; rfl, a2.trans g2⟩
    show pf_X10_state_L62 (n + 1) 0 (nI w) (nI x) (nI i) s = pf_X10_state_L62 n 0 (nI w) (nI (x + shr rd i w)) (nI (i + 1)) s2
    rw [pf_X10_state_L62, show gI s (0 + 2) 5 = nI (Qn rd) from Xs.1.1.trans q0.1, if_neg (nI_ge hi (by omega)), show (6 : Int32) = nI 6 from rfl, if_neg (nI_ge (by omega) (by omega)), ckA al5 (by omega), nI_clamp (by omega), show 0 + 2 + 3 + 2 + 9 * i = 7 + 9 * i by omega, g1, bnd2_some, bnd_e, bnd_e, nI_1, nI_add]
/-- what state tells -/
def stV (rd : Nat → Int32) (w : Nat) : Int32 := if w = 0 then rd 0 else if w = 6 then rd 2 else if w = 7 then rd 1 else nI (cnS rd w (Qn rd))
theorem stateC (X : CX σ rd B) {w : Nat} (h9 : w < 9) : ∃ σ', pf_X10_state 0 (nI w) σ = some (.inr (stV rd w), σ') ∧ Un cQ σ σ' := by
  unfold pf_X10_state stV
  rw [if_neg (nI_pos (by omega)), show (8 : Int32) = nI 8 from rfl, if_pos (nI_le (by omega) (by omega))]
  have e : ∀ k, k < 9 → (nI w = nI k) = (w = k) := fun k hk => by rw [nI_eq (by omega) (by omega)]
  by_cases c0 : w = 0
  · rw [if_pos (show nI w = (0 : Int32) from by rw [c0]; rfl), if_pos c0]
    exact ⟨σ, by rw [show gI σ (0 + 2) 5 = rd 0 from X.1.1], Un.refl _ _⟩
  · rw [if_neg (show ¬ nI w = (0 : Int32) from fun q => c0 ((e 0 (by omega)).mp q)), if_neg c0]
    by_cases c6 : w = 6
    · rw [if_pos (show nI w = (6 : Int32) from by rw [c6]; rfl), if_pos c6]
      exact ⟨σ, by rw [show gI σ (0 + 2) 2 = rd 2 from X.1.2.1], Un.refl _ _⟩
    · rw [if_neg (show ¬ nI w = (6 : Int32) from fun q => c6 ((e 6 (by omega)).mp q)), if_neg c6]
      by_cases c7 : w = 7
      · rw [if_pos (show nI w = (7 : Int32) from by rw [c7]; rfl), if_pos c7]
        exact ⟨σ, by rw [show gI σ (0 + 2) 3 = rd 1 from X.1.2.2.1], Un.refl _ _⟩
      · rw [if_neg (show ¬ nI w = (7 : Int32) from fun q => c7 ((e 7 (by omega)).mp q)), if_neg c7]
        exact countC X (by omega) h9
def AgrF (A : Nat ⊕ UInt32) (b : UInt32) : Prop := A = .inr b
theorem cn1 (X : CX σ rd B) : ∀ k, k ≤ Qn rd → k ≤ cnS rd 1 k ∧ cnS rd 1 k ≤ 6 * k
  | 0, _ => ⟨Nat.le_refl _, Nat.le_refl _⟩
  | k + 1, h => by
    have ih := cn1 X k (by omega)
    have hn := (X.V (show k < Qn rd by omega)).n
    have e : shr rd k 1 = nS rd (53 + 186 * k) := rfl
    rw [cnS, e]; omega
theorem cn4 (X : CX σ rd B) : ∀ k, k ≤ Qn rd → cnS rd 4 k ≤ 6 * k
  | 0, _ => Nat.le_refl _
  | k + 1, h => by
    have ih := cn4 X k (by omega)
    have hn := pop6_le _ (dnM_64 (X.V (show k < Qn rd by omega)))
    have e : shr rd k 4 = pop6 (dnM rd (53 + 186 * k)) := rfl
    rw [cnS, e]; omega
theorem bXWs_r {α β : Type} (v : α) (σ : St) (f : α → St → Option ((Nat ⊕ β) × St)) : bndXW (some (.inr v, σ)) f = f v σ := rfl
end
