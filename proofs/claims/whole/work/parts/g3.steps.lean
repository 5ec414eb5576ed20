/-! THE LAW: one call of each kind -/
theorem prD_all : (List.range (37 * 37)).all (fun r => decide (r / 37 = 0) || decide (FP.f2d (prW r) &&& 0x7fffffffffffffff ≤ 0x7ff0000000000000)) = true := by decide +kernel
theorem prD {a b : Nat} (ha : a ≤ 36) (hb : b ≤ 36) (h0 : 0 < b) : vf_n64 (FP.f2d (FP.fdiv (FP.i2f (nI a)) (FP.i2f (nI b)))) := by
  have h := List.all_eq_true.mp prD_all (b * 37 + a) (List.mem_range.mpr (by omega))
  have e1 : (b * 37 + a) % 37 = a := by omega
  have e2 : (b * 37 + a) / 37 = b := by omega
  rw [Bool.or_eq_true, decide_eq_true_eq, decide_eq_true_eq] at h
  unfold prW at h
  rw [e1, e2] at h
  rcases h with h | h
  · omega
  · exact h
theorem fc0D : vf_n64 (FP.f2d FP.fconst0) := by
  show _ ≤ _
  decide
section
variable {σ τ : St} {rd : Nat → Int32} {B : Nat}
theorem ag_progress2 (X : CX σ rd B) (h : MR τ rd) : ∃ (x : UInt32) (σ' τ' : St), pf_X10_progress 0 σ = some (.inr x, σ') ∧ Un cQ σ σ' ∧ pf_X11_progress 609 τ = some (x, τ') ∧ MU qA qB τ τ' ∧ vf_n64 (FP.f2d x) := by
  obtain ⟨h1, h0, u1⟩ := thr0 h
  have q0 := X.q0
  obtain ⟨σ1, c1, c2⟩ := stateC X (w := 1) (by omega)
  have X1 := X.cq c2
  obtain ⟨σ2, c3, c4⟩ := stateC X1 (w := 4) (by omega)
  obtain ⟨τ1, g1, g2⟩ := countM X h1 (w := 1) (by omega) (by omega)
  have h2 := h1.mu g2 qA610 qI3
  obtain ⟨τ2, g3, g4⟩ := countM X h2 (w := 4) (by omega) (by omega)
  have h3 := h2.mu g4 qA610 qI3
  obtain ⟨τ3, g5, g6⟩ := countM X h3 (w := 1) (by omega) (by omega)
  have k1 := cn1 X (Qn rd) (Nat.le_refl _)
  have k4 := cn4 X (Qn rd) (Nat.le_refl _)
  have e1 : stV rd 1 = nI (cnS rd 1 (Qn rd)) := rfl
  have e4 : stV rd 4 = nI (cnS rd 4 (Qn rd)) := rfl
  unfold pf_X10_progress pf_X11_progress pf_X11_progress_b30
  rw [bnd_e, show pf_X10_state 0 1 σ = _ from c1, bXWs_r, e1, show pf_X11_counted 609 1 _ = _ from g1, bnd2_some, if_0 (by omega)]
  by_cases z : cnS rd 1 (Qn rd) = 0
  · rw [z, if_neg (by decide), if_pos rfl]
    exact ⟨_, _, _, rfl, c2, rfl, u1.trans g2.qq, fc0D⟩
  · rw [if_neg z, show (0 : Int32) = nI 0 from rfl, if_pos (nI_lt (by omega) (by omega)), show pf_X10_state 0 4 σ1 = _ from c3, bXWs_r, e4, show pf_X11_counted 609 4 _ = _ from g3, bnd2_some, show pf_X11_counted 609 1 _ = _ from g5, bnd2_some, ckF_pr (by omega) (by omega) (by omega), ckF_pr (by omega) (by omega) (by omega)]
    exact ⟨_, _, _, rfl, c2.trans c4, rfl, ((u1.trans g2.qq).trans g4.qq).trans g6.qq, prD (by omega) (by omega) (by omega)⟩
end
theorem Un.sD {M : Nat → Prop} {σ : St} {p : Nat} (k : Nat) (v : UInt64) (h : M p) : Un M σ (sD σ p k v) := fun i hi => ⟨rfl, rfl, rfl, va_up_ne _ _ (fun e : i = p => hi (e ▸ h))⟩
theorem gD_at (σ : St) (p k : Nat) (v : UInt64) : gD (sD σ p k v) p k = v := by simp [gD, sD, va_up]
section
variable {c : Nat} {σ : St}
theorem op_progress2 (hc : c < 512) (I : Inv c σ) : ∃ (x : UInt32) (σ1 : St), pf_X10_progress 0 σ = some (.inr x, σ1) ∧ vf_n64 (FP.f2d x) ∧ ∀ σ2, Un oA σ1 σ2 → ∃ b σ3, pf_X11_progress 609 σ2 = some (b, σ3) ∧ b = x ∧ IL c σ2 σ3 := by
  obtain ⟨A, σ1, g1, g2⟩ := qry1 (P := fun A b _ => A = Sum.inr b ∧ vf_n64 (FP.f2d b)) (cl := pf_X10_progress 0 σ) (ml := fun τ => pf_X11_progress 609 τ) hc I fun rd τ X hB M => by
    obtain ⟨x, σ', τ', h1, h2, h3, h4, h5⟩ := ag_progress2 X M
    exact ⟨.inr x, x, σ', τ', h1, h2, h3, h4, rfl, h5⟩
  obtain ⟨b0, _, _, ⟨e0, l0⟩, _⟩ := g2 σ1 (Un.refl _ _)
  subst e0
  refine ⟨b0, σ1, g1, l0, fun σ2 u => ?_⟩
  obtain ⟨b, σ3, k1, ⟨k2, _⟩, k3⟩ := g2 σ2 u
  cases k2
  exact ⟨_, σ3, k1, rfl, k3⟩
end
