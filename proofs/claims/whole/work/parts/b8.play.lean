/-! TRIES, attempt, play -/
def tryR (rd : Nat → Int32) (q s : Nat) : Nat → Int32 := if drV rd < rd (cP q s) then fal (drR rd) q s else suc (drR rd) q s
def tryV (rd : Nat → Int32) (q s : Nat) : Int32 := if drV rd < rd (cP q s) then (if stl (flB (drR rd) q s) (53 + 186 * q) then 0 else 3) else (if sucH (drR rd) q s then 2 else 1)
theorem Tr.dr {B q s : Nat} {rd : Nat → Int32} (v : VR B rd) (hq : q < Nn (rd 0)) (t : Tr rd q s) : Tr (drR rd) q s := by
  have n0 := v.n0
  have hn := ((v.2.2.2.2.2.2.1 q hq).1).n
  have e : ∀ k, (k = 0 ∨ (2 < k ∧ k < 13) ∨ 53 ≤ k) → drR rd k = rd k := fun k hk => drR_out rd v.2.1.2 hk
  obtain ⟨t1, t2, t3, t4, t5⟩ := t
  refine ⟨by rw [e _ (by omega)]; exact t1, ?_, fun i hi => ?_, ?_, ?_⟩
  · unfold nS; rw [e _ (by omega)]; exact t2
  · have := t3 i hi
    unfold cU at *
    rw [e _ (by omega), e _ (by omega)]; exact this
  · unfold cB at *
    rw [e _ (by omega), e _ (by omega)]; exact t4
  · rw [dnM_cong hn.1 (fun k a1 a2 => e k (by omega))]; exact t5
theorem Tr.of {B q s : Nat} {rd : Nat → Int32} (v : VR B rd) (hq : q < Nn (rd 0)) (h0 : rd (53 + 186 * q + 1) = 0) (hs : s < nS rd (53 + 186 * q)) (hc : hcode rd (53 + 186 * q) (stk rd) (dnM rd (53 + 186 * q)) s = 0) : Tr rd q s := by
  unfold hcode at hc
  by_cases c1 : (dnM rd (53 + 186 * q)).testBit s = true
  · rw [if_pos c1] at hc; omega
  · rw [if_neg c1] at hc
    by_cases c2 : cB rd (53 + 186 * q) s = true
    · rw [if_pos c2] at hc; omega
    · rw [if_neg c2] at hc
      by_cases c3 : df (cA rd (53 + 186 * q) s) (dnM rd (53 + 186 * q)) ≠ 0
      · rw [if_pos c3] at hc; omega
      · rw [if_neg c3] at hc
        by_cases c4 : allI rd (53 + 186 * q) (stk rd) s = true
        · refine ⟨h0, hs, fun i hi => ?_, by simpa using c2, by simpa using c1⟩
          have := (allI_iff.mp c4 i hi).1
          unfold stk at this
          omega
        · rw [if_neg c4] at hc; omega
section
variable {σ : St} {B q s : Nat} {rd : Nat → Int32}
theorem tryC (v : VR B rd) (hB : B + 198 ≤ 50000000) (hq : q < Nn (rd 0)) (t : Tr rd q s) (h : RLd σ 2 rd) : ∃ σ', pf_X2_tryStep 2 (7 + 9 * q) (nI s) σ = some (tryV rd q s, σ') ∧ Un (inR 2 59) σ σ' ∧ RLd σ' 2 (tryR rd q s) := by
  have n0 := v.n0
  have V := (v.2.2.2.2.2.2.1 q hq).1
  have hn := V.n
  have ka := kd7 q (by omega)
  have t' := t.dr v hq
  have v' := drVR v
  have e0 : drR rd 0 = rd 0 := drR_out rd v.2.1.2 (by omega)
  have hq' : q < Nn (drR rd 0) := by rw [e0]; exact hq
  have ea : 2 + 5 + 9 * q = 7 + 9 * q := by omega
  have hs6 : s < 6 := by have := t.2.1; omega
  obtain ⟨σ1, g1, g2, g3⟩ := drC kd2 v h
  have R1 : RQ σ1 (7 + 9 * q) (drR rd) (53 + 186 * q) := by rw [← ea]; exact g3.2.2.2.2.2.1 q hq'
  have u1 : Un (inR 2 59) σ σ1 := g2.mono fun i hi => ⟨by omega, by omega⟩
  have mono : ∀ σ', Un (fun i => i = 2 + 1 ∨ inR (2 + 5 + 9 * q) 9 i) σ1 σ' → Un (inR 2 59) σ σ' := fun σ' u => u1.trans (u.mono fun i hi => hi.elim (fun e => ⟨by omega, by omega⟩) (fun e => by have := e.1; have := e.2; exact ⟨by omega, by omega⟩))
  unfold pf_X2_tryStep
  rw [g1, bnd2_some, at_ok (af_X3_risk ka) hs6, bind_some, (R1.b t'.2.1).1, show drR rd (53 + 186 * q + 6 + 30 * s) = rd (cP q s) from drR_out rd v.2.1.2 (by omega)]
  unfold tryV tryR
  by_cases c : drV rd < rd (cP q s)
  · rw [if_pos c, if_pos c, if_pos c]
    obtain ⟨σ2, k1, k2, k3⟩ := failC v' (by omega) hq' t' g3
    rw [k1, bind_some]
    have hv := fal_V v' (by omega) hq' t'
    have x5 := (flB_V v' (by omega) hq' t').2.2.2
    have e00 : fal (drR rd) q s 0 = rd 0 := by
      unfold fal
      split
      · rw [x5.2 0 (by omega)]; exact e0
      · rw [up_ne _ _ (by omega), x5.2 0 (by omega)]; exact e0
    have es : gI σ2 (7 + 9 * q) 1 = fal (drR rd) q s (53 + 186 * q + 1) := by rw [← ea]; exact (k3.2.2.2.2.2.1 q (by rw [e00]; exact hq)).2.1
    rw [es]
    refine ⟨σ2, ?_, mono _ k2, k3⟩
    unfold fal
    cases hst : stl (flB (drR rd) q s) (53 + 186 * q) with
    | true =>
      rw [if_pos rfl, if_pos rfl, x5.1 _ (by omega), show flA (drR rd) q s (53 + 186 * q + 1) = 0 from (up_ne _ _ (by unfold cP; omega)).trans t'.1, if_neg (by decide)]
    | false =>
      rw [if_neg Bool.false_ne_true, if_neg Bool.false_ne_true, up_at, if_pos (show nI 2 = (2 : Int32) from rfl)]
  · rw [if_neg c, if_neg c, if_neg c]
    obtain ⟨σ2, k1, k2, k3⟩ := sucC kd2 v' hB hq' (by rw [ea]; exact ka) t'.2.1 t'.2.2.1 g3
    rw [ea] at k1
    rw [k1, bind_some]
    have V3 := (sucD_V v' hB hq' t'.2.1 t'.2.2.1).1
    have ed0 : sucD (drR rd) q s 0 = rd 0 := (sucD_out _ (by omega) (by unfold cP; omega)).trans e0
    have hit := (V3.2.2.2.2.2.2.1 q (by rw [ed0]; exact hq)).1.2.2.1.2
    have e00 : suc (drR rd) q s 0 = rd 0 := by
      unfold suc sucE
      split
      · rw [up_ne _ _ (by omega), up_ne _ _ (by omega)]; exact ed0
      · exact ed0
    have es : gI σ2 (7 + 9 * q) 1 = suc (drR rd) q s (53 + 186 * q + 1) := by rw [← ea]; exact (k3.2.2.2.2.2.1 q (by rw [e00]; exact hq)).2.1
    rw [es]
    refine ⟨σ2, ?_, mono _ k2, k3⟩
    unfold suc
    cases hst : sucH (drR rd) q s with
    | true =>
      rw [if_pos rfl, if_pos rfl]
      unfold sucE
      rw [up_ne _ _ (by omega), up_at, if_pos (show nI 1 = (1 : Int32) from rfl)]
    | false =>
      rw [if_neg Bool.false_ne_true, if_neg Bool.false_ne_true, sucD_out _ (by omega) (by unfold cP; omega), t'.1, if_neg (by decide)]
theorem tryM {r : Nat} {τ0 τ : St} (hr : r < 9) (h3 : gI τ0 609 3 = nI r) (h : Wr r τ0 τ rd) (v : VR B rd) (hB : B + 198 ≤ 50000000) (hq : q < Nn (rd 0)) (t : Tr rd q s) : ∃ τ', pf_X11_tries 609 (nI q) (nI s) τ = some (tryV rd q s, τ') ∧ Wr r τ0 τ' (tryR rd q s) := by
  have n0 := v.n0
  have V := (v.2.2.2.2.2.2.1 q hq).1
  have hn := V.n
  have t' := t.dr v hq
  have v' := drVR v
  have hq' : q < Nn (drR rd 0) := by rw [drR_out rd v.2.1.2 (by omega)]; exact hq
  have hs6 : s < 6 := by have := t.2.1; omega
  obtain ⟨τ1, g1, g2⟩ := drM v hr h3 h
  unfold pf_X11_tries tryV tryR
  rw [g1, bnd2_some, oS0 (g2.M hr h3) (by omega) hs6, bind_some, show drR rd (53 + 186 * q + 6 + 30 * s) = rd (cP q s) from drR_out rd v.2.1.2 (by omega)]
  by_cases c : drV rd < rd (cP q s)
  · rw [if_pos c, if_pos c, if_pos c]
    exact failM hr h3 g2 v' (by omega) hq' t'
  · rw [if_neg c, if_neg c, if_neg c]
    exact sucM hr h3 g2 v' hB hq' t'.2.1 t'.2.2.1
theorem tryVR (v : VR B rd) (hB : B + 198 ≤ 50000000) (hq : q < Nn (rd 0)) (t : Tr rd q s) : VR (B + 198) (tryR rd q s) := by
  have t' := t.dr v hq
  have v' := drVR v
  have hq' : q < Nn (drR rd 0) := by rw [drR_out rd v.2.1.2 (by omega)]; exact hq
  unfold tryR
  split
  · exact (fal_V v' (by omega) hq' t').mono (by omega)
  · exact (suc_V v' hB hq' t'.2.1 t'.2.2.1).1
end
section
variable {c : Nat} {σ : St}
theorem op_attempt (hc : c < 512) (I : Inv c σ) (v w : Int32) : ∃ A σ1, pf_X10_attempt 0 v w σ = some (A, σ1) ∧ ∀ σ2, Un oA σ1 σ2 → ∃ b σ3, pf_X11_attempt 609 v w σ2 = some (b, σ3) ∧ Agr fQ A b (gI σ3 609 0) ∧ IL c σ2 σ3 := by
  obtain ⟨hb1, hb2, hb3⟩ := BB_1 hc
  obtain ⟨r, nxt, σa, r1, r2, r3, r4, r5, k1, k2, k3, kk⟩ := chg I
  have X : CX σ (RW σ r) (BB c) := ⟨r4, r5, by omega⟩
  have q0 := X.q0
  unfold pf_X10_attempt pf_X11_attempt
  simp only [bnd_e]
  rcases v_cases v (n := Qn (RW σ r)) (by omega) with hv | ⟨q, hq, rfl⟩
  · rw [qWS_q X hv, bXW_l]
    refine ⟨_, σ, rfl, fun σ2 u => ?_⟩
    obtain ⟨h1, h0, u1⟩ := ref0 (c := c) r1 r3 rfl rfl u
    rw [isSt_q h1 q0.1 q0.2 h0 hv, bnd2_some, i00]
    exact ⟨_, _, rfl, gI_at _ _ _ _, I.no (Un.refl _ _) u (u1.trans (MU.fld _ _ (Or.inl rfl)))⟩
  · have V := X.V hq
    have hn := V.n
    have hq6 : q < 6 := by omega
    have W := X.W hq
    rcases v_cases w (n := nS (RW σ r) (53 + 186 * q)) (by omega) with hv | ⟨s, hs, rfl⟩
    · rw [qWS_no X hq hv, bXW_l]
      refine ⟨_, σ, rfl, fun σ2 u => ?_⟩
      obtain ⟨h1, h0, u1⟩ := ref0 (c := c) r1 r3 rfl rfl u
      rw [isSt_no h1 q0.1 q0.2 h0 hq V hv, bnd2_some, i00]
      exact ⟨_, _, rfl, gI_at _ _ _ _, I.no (Un.refl _ _) u (u1.trans (MU.fld _ _ (Or.inl rfl)))⟩
    · rw [qWS_yes X hq hs, bXW_r, ckK_eq (kd7 q hq6), show pf_X3_hindrance (7 + 9 * q) (nI s) (0 + 2 + 1) σ = _ from hindH W al3 X.st hs, bind_some]
      have ty64 : tyM (RW σ r) (53 + 186 * q) (stk (RW σ r)) < 64 := msk_64 _ hn.1
      have tyb : (tyM (RW σ r) (53 + 186 * q) (stk (RW σ r))).testBit s = decide (hcd (RW σ r) (53 + 186 * q) (stk (RW σ r)) s = 0) := by
        unfold tyM hcd
        rw [msk_bit, decide_eq_true hs, Bool.true_and, hcode_cn hs]
        by_cases c0 : RW σ r (53 + 186 * q + 1) = 0
        · rw [decide_eq_true c0, if_pos c0, Bool.true_and]
        · rw [decide_eq_false c0, if_neg c0, Bool.false_and]; rfl
      have h5 : hcd (RW σ r) (53 + 186 * q) (stk (RW σ r)) s ≤ 5 := by
        unfold hcd
        split
        · exact hcode_le
        · omega
      rw [if_0 (by omega)]
      by_cases c0 : hcd (RW σ r) (53 + 186 * q) (stk (RW σ r)) s = 0
      · have t : Tr (RW σ r) q s := by
          unfold hcd at c0
          by_cases c1 : RW σ r (53 + 186 * q + 1) = 0
          · rw [if_pos c1] at c0; exact Tr.of r5 hq c1 hs c0
          · rw [if_neg c1] at c0; omega
        obtain ⟨σ1, g1, g2, g3⟩ := tryC r5 (by omega) hq t k3
        rw [if_pos c0, show pf_X1_remember (0 + 120) (0 + 2) σ = _ from k1, bind_some, show pf_X2_tryStep (0 + 2) (7 + 9 * q) (nI s) σa = _ from g1, bnd2_some]
        refine ⟨_, σ1, rfl, fun σ2 u => ?_⟩
        have un : Un nwM σa σ1 := g2.mono fun i hi => Or.inl ⟨hi.1, by have := hi.2; omega⟩
        have av : VR (BB (c + 1)) (tryR (RW σ r) q s) := (tryVR r5 (by omega) hq t).mono (by omega)
        have e9 : ∀ j, j = 609 ∨ j = 610 → gI σ1 j = gI σ j := fun j hj => by rw [g2.I (fun e => by have := e.2; omega), k2.I (by unfold rmM; omega)]
        obtain ⟨h1, h0, u1⟩ := ref0 (c := c) r1 r3 (e9 610 (by omega)) (e9 609 (by omega)) u
        obtain ⟨τ1, t1, t2⟩ := triedM X h1 hq
        obtain ⟨τa, a1, a2, a3, a4, a5⟩ := kk _ _ un g3 av σ2 u _ (u1.trans t2.qq)
        have w0 : Wr ((r + 1) % 9) τa τa (RW σ r) := by have := Wr.q (r := (r + 1) % 9) (MU.refl qA qI τa); rw [a3] at this; exact this
        obtain ⟨τ3, p1, p2⟩ := tryM (by omega) a2 w0 r5 (by omega) hq t
        have h01 : gI τ1 609 0 = 0 := t2.t0.trans h0
        rw [isSt_yes h1 q0.1 q0.2 h0 hq V hs, bnd2_some, i10, t1, bnd2_some, ishr_nI _ ty64 _ (by omega), if_b1, tyb, decide_eq_true c0, if_pos rfl]
        unfold pf_X11_attempt_b33
        rw [show pf_X11_right 609 1 2 τ1 = _ from right_t h01, bnd2_some, i10, a1, bind_some, p1, bnd2_some]
        exact ⟨_, _, rfl, ⟨p2.t.trans (a4.trans h01), rfl⟩, a5 _ p2⟩
      · rw [if_neg c0]
        refine ⟨_, σ, rfl, fun σ2 u => ?_⟩
        obtain ⟨h1, h0, u1⟩ := ref0 (c := c) r1 r3 rfl rfl u
        obtain ⟨τ1, t1, t2⟩ := triedM X h1 hq
        have h01 : gI τ1 609 0 = 0 := t2.t0.trans h0
        rw [isSt_yes h1 q0.1 q0.2 h0 hq V hs, bnd2_some, i10, t1, bnd2_some, ishr_nI _ ty64 _ (by omega), if_b1, tyb, decide_eq_false c0, if_neg Bool.false_ne_true]
        unfold pf_X11_attempt_b33
        rw [show pf_X11_right 609 0 2 τ1 = _ from right_f h01 (by decide), bnd2_some, i00]
        exact ⟨_, _, rfl, gI_at _ _ _ _, I.no (Un.refl _ _) u ((u1.trans t2.qq).trans (MU.fld _ _ (Or.inl rfl)))⟩
end
