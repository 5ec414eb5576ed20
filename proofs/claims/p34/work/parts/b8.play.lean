/-! TRIES, attempt, play -/
def tryR (rd : Nat → Int32) (q s : Nat) : Nat → Int32 := if drV rd < rd (cP q s) then fal (drR rd) q s else suc (drR rd) q s
def tryV (rd : Nat → Int32) (q s : Nat) : Int32 := if drV rd < rd (cP q s) then (if stl (flB (drR rd) q s) (53 + 186 * q) then 0 else 3) else (if sucH (drR rd) q s then 2 else 1)
theorem Tr.dr {B q s : Nat} {rd : Nat → Int32} (v : VR B rd) (hq : q < Nn (rd 0)) (t : Tr rd q s) : Tr (drR rd) q s := by
  have n0 := v.n0
  have hn := ((v.2.2.2.2.2.2.1 q hq).1).n
  have e : ∀ k, (k = 0 ∨ (2 < k ∧ k < 13) ∨ 53 ≤ k) → drR rd k = rd k := fun k hk => drR_out rd v.2.1.2 hk
  obtain ⟨t1, t2, t3, t4, t5⟩ := t
  refine ⟨by rw [e _ (by omega)]; exact t1, ?_, fun i hi => ?_, ?_, ?_⟩
  · unfold nS; rw [e _ (by omega)]; exact t2
  · have := t3 i hi
    unfold cU at *
    rw [e _ (by omega), e _ (by omega)]; exact this
  · unfold cB at *
    rw [e _ (by omega), e _ (by omega)]; exact t4
  · rw [dnM_cong hn.1 (fun k a1 a2 => e k (by omega))]; exact t5
theorem Tr.of {B q s : Nat} {rd : Nat → Int32} (v : VR B rd) (hq : q < Nn (rd 0)) (h0 : rd (53 + 186 * q + 1) = 0) (hs : s < nS rd (53 + 186 * q)) (hc : hcode rd (53 + 186 * q) (stk rd) (dnM rd (53 + 186 * q)) s = 0) : Tr rd q s := by
  unfold hcode at hc
  by_cases c1 : (dnM rd (53 + 186 * q)).testBit s = true
  · rw [if_pos c1] at hc; omega
  · rw [if_neg c1] at hc
    by_cases c2 : cB rd (53 + 186 * q) s = true
    · rw [if_pos c2] at hc; omega
    · rw [if_neg c2] at hc
      by_cases c3 : df (cA rd (53 + 186 * q) s) (dnM rd (53 + 186 * q)) ≠ 0
      · rw [if_pos c3] at hc; omega
      · rw [if_neg c3] at hc
        by_cases c4 : allI rd (53 + 186 * q) (stk rd) s = true
        · refine ⟨h0, hs, fun i hi => ?_, by simpa using c2, by simpa using c1⟩
          have := (allI_iff.mp c4 i hi).1
          unfold stk at this
          omega
        · rw [if_neg c4] at hc; omega
section
variable {σ : St} {B q s : Nat} {rd : Nat → Int32}
theorem tryC (v : VR B rd) (hB : B + 198 ≤ 50000000) (hq : q < Nn (rd 0)) (t : Tr rd q s) (h : RLd σ 2 rd) : ∃ σ', pf_X2_tryStep 2 (7 + 9 * q) (nI s) σ = some (tryV rd q s, σ') ∧ Un (inR 2 59) σ σ' ∧ RLd σ' 2 (tryR rd q s) := by
  have n0 := v.n0
  have V := (v.2.2.2.2.2.2.1 q hq).1
  have hn := V.n
  have ka := kd7 q (by omega)
  have t' := t.dr v hq
  have v' := drVR v
  have e0 : drR rd 0 = rd 0 := drR_out rd v.2.1.2 (by omega)
  have hq' : q < Nn (drR rd 0) := by rw [e0]; exact hq
  have ea : 2 + 5 + 9 * q = 7 + 9 * q := by omega
  have hs6 : s < 6 := by have := t.2.1; omega
  obtain ⟨σ1, g1, g2, g3⟩ := drC kd2 v h
  have R1 : RQ σ1 (7 + 9 * q) (drR rd) (53 + 186 * q) := by rw [← ea]; exact g3.2.2.2.2.2.1 q hq'
  have u1 : Un (inR 2 59) σ σ1 := g2.mono fun i hi => ⟨by omega, by omega⟩
  have mono : ∀ σ', Un (fun i => i = 2 + 1 ∨ inR (2 + 5 + 9 * q) 9 i) σ1 σ' → Un (inR 2 59) σ σ' := fun σ' u => u1.trans (u.mono fun i hi => hi.elim (fun e => ⟨by omega, by omega⟩) (fun e => by have := e.1; have := e.2; exact ⟨by omega, by omega⟩))
  unfold pf_X2_tryStep
  rw [g1, bnd2_some, at_ok (af_X3_risk ka) hs6, bind_some, (R1.b t'.2.1).1, show drR rd (53 + 186 * q + 6 + 30 * s) = rd (cP q s) from drR_out rd v.2.1.2 (by omega)]
  unfold tryV tryR
  by_cases c : drV rd < rd (cP q s)
  · rw [if_pos c, if_pos c, if_pos c]
    obtain ⟨σ2, k1, k2, k3⟩ := failC v' (by omega) hq' t' g3
    rw [k1, bind_some]
    have hv := fal_V v' (by omega) hq' t'
    have x5 := (flB_V v' (by omega) hq' t').2.2.2
    have e00 : fal (drR rd) q s 0 = rd 0 := by
      unfold fal
      split
      · rw [x5.2 0 (by omega)]; exact e0
      · rw [up_ne _ _ (by omega), x5.2 0 (by omega)]; exact e0
    have es : gI σ2 (7 + 9 * q) 1 = fal (drR rd) q s (53 + 186 * q + 1) := by rw [← ea]; exact (k3.2.2.2.2.2.1 q (by rw [e00]; exact hq)).2.1
    rw [es]
    refine ⟨σ2, ?_, mono _ k2, k3⟩
    unfold fal
    cases hst : stl (flB (drR rd) q s) (53 + 186 * q) with
    | true =>
      rw [if_pos rfl, if_pos rfl, x5.1 _ (by omega), show flA (drR rd) q s (53 + 186 * q + 1) = 0 from (up_ne _ _ (by unfold cP; omega)).trans t'.1, if_neg (by decide)]
    | false =>
      rw [if_neg Bool.false_ne_true, if_neg Bool.false_ne_true, up_at, if_pos (show nI 2 = (2 : Int32) from rfl)]
  · rw [if_neg c, if_neg c, if_neg c]
    obtain ⟨σ2, k1, k2, k3⟩ := sucC kd2 v' hB hq' (by rw [ea]; exact ka) t'.2.1 t'.2.2.1 g3
    rw [ea] at k1
    rw [k1, bind_some]
    have V3 := (sucD_V v' hB hq' t'.2.1 t'.2.2.1).1
    have ed0 : sucD (drR rd) q s 0 = rd 0 := (sucD_out _ (by omega) (by unfold cP; omega)).trans e0
    have hit := (V3.2.2.2.2.2.2.1 q (by rw [ed0]; exact hq)).1.2.2.1.2
    have e00 : suc (drR rd) q s 0 = rd 0 := by
      unfold suc sucE
      split
      · rw [up_ne _ _ (by omega), up_ne _ _ (by omega)]; exact ed0
      · exact ed0
    have es : gI σ2 (7 + 9 * q) 1 = suc (drR rd) q s (53 + 186 * q + 1) := by rw [← ea]; exact (k3.2.2.2.2.2.1 q (by rw [e00]; exact hq)).2.1
    rw [es]
    refine ⟨σ2, ?_, mono _ k2, k3⟩
    unfold suc
    cases hst : sucH (drR rd) q s with
    | true =>
      rw [if_pos rfl, if_pos rfl]
      unfold sucE
      rw [up_ne _ _ (by omega), up_at, if_pos (show nI 1 = (1 : Int32) from rfl)]
    | false =>
      rw [if_neg Bool.false_ne_true, if_neg Bool.false_ne_true, sucD_out _ (by omega) (by unfold cP; omega), t'.1, if_neg (by decide)]
theorem tryVR (v : VR B rd) (hB : B + 198 ≤ 50000000) (hq : q < Nn (rd 0)) (t : Tr rd q s) : VR (B + 198) (tryR rd q s) := by
  have t' := t.dr v hq
  have v' := drVR v
  have hq' : q < Nn (drR rd 0) := by rw [drR_out rd v.2.1.2 (by omega)]; exact hq
  unfold tryR
  split
  · exact (fal_V v' (by omega) hq' t').mono (by omega)
  · exact (suc_V v' hB hq' t'.2.1 t'.2.2.1).1
end
section
variable {c : Nat} {σ : St}
end
