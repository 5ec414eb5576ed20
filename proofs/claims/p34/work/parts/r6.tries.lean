/-! THE PURE SIDE: the game's try against the class's -/
section
variable {so le q s : Nat} {rd rd' : Nat → Int32} {τ τ' : St} {B : Nat}
theorem GQ.to (V : VQ rd (53 + 186 * q)) (hq : q < 6) (hQ : GQ so le q rd) (h0 : ∀ j, j < 6 → j ≠ 1 → rd' (53 + 186 * q + j) = rd (53 + 186 * q + j)) (hs : ∀ s, s < 6 → ∀ j, j < 30 → j ≠ 2 → j ≠ 3 → rd' (53 + 186 * q + 6 + 30 * s + j) = rd (53 + 186 * q + 6 + 30 * s + j)) (hg : ∀ k, 2769 ≤ k → k < 4370 → rd' k = rd k) : GQ so le q rd' := by
  have hn := V.n
  obtain ⟨a1, a2, a3, a4, a5, a6, a7, a8⟩ := hQ
  have e0 : rd' (53 + 186 * q) = rd (53 + 186 * q) := h0 0 (by omega) (by omega)
  have en : nS rd' (53 + 186 * q) = nS rd (53 + 186 * q) := by unfold nS; rw [e0]
  have eg := (V.2.2.2.2.1.cong e0 (h0 4 (by omega) (by omega)) (h0 5 (by omega) (by omega)) hg).2
  have ec : ∀ k, k < nS rd (53 + 186 * q) → ∀ i, i < 8 → cU rd' (53 + 186 * q) k i = cU rd (53 + 186 * q) k i ∧ cN rd' (53 + 186 * q) k i = cN rd (53 + 186 * q) k i ∧ cG rd' (53 + 186 * q) k i = cG rd (53 + 186 * q) k i := fun k hk i hi => by
    unfold cU cN cG
    have e := hs k (by omega)
    rw [show 53 + 186 * q + 6 + 30 * k + 6 + i = 53 + 186 * q + 6 + 30 * k + (6 + i) by omega, show 53 + 186 * q + 6 + 30 * k + 14 + i = 53 + 186 * q + 6 + 30 * k + (14 + i) by omega, show 53 + 186 * q + 6 + 30 * k + 22 + i = 53 + 186 * q + 6 + 30 * k + (22 + i) by omega, e (6 + i) (by omega) (by omega) (by omega), e (14 + i) (by omega) (by omega) (by omega), e (22 + i) (by omega) (by omega) (by omega)]
    exact ⟨rfl, rfl, rfl⟩
  refine ⟨a1, a2, by rw [en]; exact a3, fun u hu => by rw [eg u]; rw [en] at hu; exact a4 u hu, ?_, by rw [h0 2 (by omega) (by omega)]; exact a6, by rw [h0 3 (by omega) (by omega)]; exact a7, ?_⟩
  · rw [en]
    intro k hk i h1 h2
    obtain ⟨f1, f2, f3⟩ := ec k hk i h2
    rw [f1, f2, f3]
    exact a5 k hk i h1 h2
  · rw [en]
    intro k hk i hi
    rw [(ec k hk i (by omega)).2.2]
    exact a8 k hk i hi
/-- stocks alone -/
theorem GX.stk (hG : GX so le q rd τ) (e : ∀ i, i ≠ 1002 → gI τ' i = gI τ i) (h : ∀ i, i < 3 → gI τ' 1002 i = rd' (5 + i)) (hr : ∀ k, (k < 5 ∨ 13 ≤ k) → rd' k = rd k) : GX so le q rd' τ' := by
  obtain ⟨a1, a2, a3, a4, a5, a6, a7⟩ := hG
  have en : nS rd' (53 + 186 * q) = nS rd (53 + 186 * q) := by unfold nS; rw [hr _ (by omega)]
  refine ⟨by rw [e 1001 (by decide), en]; exact a1, by rw [e 1000 (by decide), hr _ (by omega)]; exact a2, by rw [e 1000 (by decide)]; exact a3, by rw [e 1000 (by decide)]; exact a4, by rw [e 1000 (by decide), hr _ (by omega)]; exact a5, h, ?_⟩
  rw [en]
  intro k hk
  unfold GS
  rw [e _ (by omega), e _ (by omega), e _ (by omega), e _ (by omega), hr _ (by omega), hr _ (by omega), hr _ (by omega), hr _ (by omega), hr _ (by omega), hr _ (by omega)]
  obtain ⟨s0, s1, s2, s3, s4, s5, s6⟩ := a7 k hk
  exact ⟨s0, s1, s2, s3, s4, s5, fun i hi => by rw [hr _ (by omega), hr _ (by omega), hr _ (by omega)]; exact s6 i hi⟩
theorem GX.upF (hG : GX so le q rd τ) {v : Int32} : GX so le q (up rd (53 + 186 * q + 6 + 30 * s + 2) v) (sI τ (1005 + 4 * s) 2 v) := by
  obtain ⟨a1, a2, a3, a4, a5, a6, a7⟩ := hG
  have en : nS (up rd (53 + 186 * q + 6 + 30 * s + 2) v) (53 + 186 * q) = nS rd (53 + 186 * q) := by unfold nS; rw [up_ne _ _ (by omega)]
  have ei : ∀ i, i ≠ 1005 + 4 * s → gI (sI τ (1005 + 4 * s) 2 v) i = gI τ i := fun i hi => gI_nf _ _ _ hi
  refine ⟨by rw [ei 1001 (by omega), en]; exact a1, by rw [ei 1000 (by omega), up_ne _ _ (by omega)]; exact a2, by rw [ei 1000 (by omega)]; exact a3, by rw [ei 1000 (by omega)]; exact a4, by rw [ei 1000 (by omega), up_ne _ _ (by omega)]; exact a5, fun i hi => by rw [ei 1002 (by omega), up_ne _ _ (by omega)]; exact a6 i hi, ?_⟩
  rw [en]
  intro k hk
  obtain ⟨s0, s1, s2, s3, s4, s5, s6⟩ := a7 k hk
  unfold GS
  rw [ei (1005 + 4 * k + 1) (by omega), ei (1005 + 4 * k + 2) (by omega), ei (1005 + 4 * k + 3) (by omega), up_ne (j := 53 + 186 * q + 6 + 30 * k) _ _ (by omega), up_ne (j := 53 + 186 * q + 6 + 30 * k + 1) _ _ (by omega), up_ne (j := 53 + 186 * q + 6 + 30 * k + 4) _ _ (by omega), up_ne (j := 53 + 186 * q + 6 + 30 * k + 5) _ _ (by omega), up_ne (j := 53 + 186 * q + 6 + 30 * k + 3) _ _ (by omega)]
  have s6' : ∀ i, i < 3 → gI τ (1005 + 4 * k + 1) i = up rd (53 + 186 * q + 6 + 30 * s + 2) v (53 + 186 * q + 6 + 30 * k + 6 + i) ∧ gI τ (1005 + 4 * k + 2) i = up rd (53 + 186 * q + 6 + 30 * s + 2) v (53 + 186 * q + 6 + 30 * k + 14 + i) ∧ gI τ (1005 + 4 * k + 3) i = up rd (53 + 186 * q + 6 + 30 * s + 2) v (53 + 186 * q + 6 + 30 * k + 22 + i) := fun i hi => by
    rw [up_ne _ _ (by omega), up_ne _ _ (by omega), up_ne _ _ (by omega)]; exact s6 i hi
  by_cases c : k = s
  · subst c
    rw [gI_ns _ _ _ (show (0 : Nat) ≠ 2 by decide), gI_ns _ _ _ (show (1 : Nat) ≠ 2 by decide), gI_at, gI_ns _ _ _ (show (3 : Nat) ≠ 2 by decide), gI_ns _ _ _ (show (4 : Nat) ≠ 2 by decide), gI_ns _ _ _ (show (5 : Nat) ≠ 2 by decide), up_at]
    exact ⟨s0, s1, rfl, s3, s4, s5, s6'⟩
  · rw [ei (1005 + 4 * k) (by omega), up_ne (j := 53 + 186 * q + 6 + 30 * k + 2) _ _ (by omega)]
    exact ⟨s0, s1, s2, s3, s4, s5, s6'⟩
theorem GX.upD (hG : GX so le q rd τ) {v : Int32} : GX so le q (up rd (53 + 186 * q + 6 + 30 * s + 3) v) (sI τ (1005 + 4 * s) 5 v) := by
  obtain ⟨a1, a2, a3, a4, a5, a6, a7⟩ := hG
  have en : nS (up rd (53 + 186 * q + 6 + 30 * s + 3) v) (53 + 186 * q) = nS rd (53 + 186 * q) := by unfold nS; rw [up_ne _ _ (by omega)]
  have ei : ∀ i, i ≠ 1005 + 4 * s → gI (sI τ (1005 + 4 * s) 5 v) i = gI τ i := fun i hi => gI_nf _ _ _ hi
  refine ⟨by rw [ei 1001 (by omega), en]; exact a1, by rw [ei 1000 (by omega), up_ne _ _ (by omega)]; exact a2, by rw [ei 1000 (by omega)]; exact a3, by rw [ei 1000 (by omega)]; exact a4, by rw [ei 1000 (by omega), up_ne _ _ (by omega)]; exact a5, fun i hi => by rw [ei 1002 (by omega), up_ne _ _ (by omega)]; exact a6 i hi, ?_⟩
  rw [en]
  intro k hk
  obtain ⟨s0, s1, s2, s3, s4, s5, s6⟩ := a7 k hk
  unfold GS
  rw [ei (1005 + 4 * k + 1) (by omega), ei (1005 + 4 * k + 2) (by omega), ei (1005 + 4 * k + 3) (by omega), up_ne (j := 53 + 186 * q + 6 + 30 * k) _ _ (by omega), up_ne (j := 53 + 186 * q + 6 + 30 * k + 1) _ _ (by omega), up_ne (j := 53 + 186 * q + 6 + 30 * k + 4) _ _ (by omega), up_ne (j := 53 + 186 * q + 6 + 30 * k + 5) _ _ (by omega), up_ne (j := 53 + 186 * q + 6 + 30 * k + 2) _ _ (by omega)]
  have s6' : ∀ i, i < 3 → gI τ (1005 + 4 * k + 1) i = up rd (53 + 186 * q + 6 + 30 * s + 3) v (53 + 186 * q + 6 + 30 * k + 6 + i) ∧ gI τ (1005 + 4 * k + 2) i = up rd (53 + 186 * q + 6 + 30 * s + 3) v (53 + 186 * q + 6 + 30 * k + 14 + i) ∧ gI τ (1005 + 4 * k + 3) i = up rd (53 + 186 * q + 6 + 30 * s + 3) v (53 + 186 * q + 6 + 30 * k + 22 + i) := fun i hi => by
    rw [up_ne _ _ (by omega), up_ne _ _ (by omega), up_ne _ _ (by omega)]; exact s6 i hi
  by_cases c : k = s
  · subst c
    rw [gI_ns _ _ _ (show (0 : Nat) ≠ 5 by decide), gI_ns _ _ _ (show (1 : Nat) ≠ 5 by decide), gI_ns _ _ _ (show (2 : Nat) ≠ 5 by decide), gI_ns _ _ _ (show (3 : Nat) ≠ 5 by decide), gI_ns _ _ _ (show (4 : Nat) ≠ 5 by decide), gI_at, up_at]
    exact ⟨s0, s1, s2, s3, s4, rfl, s6'⟩
  · rw [ei (1005 + 4 * k) (by omega), up_ne (j := 53 + 186 * q + 6 + 30 * k + 3) _ _ (by omega)]
    exact ⟨s0, s1, s2, s3, s4, s5, s6'⟩
theorem GX.upT (hG : GX so le q rd τ) {v : Int32} : GX so le q (up rd (53 + 186 * q + 1) v) (sI τ 1000 3 v) := by
  obtain ⟨a1, a2, a3, a4, a5, a6, a7⟩ := hG
  have en : nS (up rd (53 + 186 * q + 1) v) (53 + 186 * q) = nS rd (53 + 186 * q) := by unfold nS; rw [up_ne _ _ (by omega)]
  have ei : ∀ i, i ≠ 1000 → gI (sI τ 1000 3 v) i = gI τ i := fun i hi => gI_nf _ _ _ hi
  refine ⟨by rw [ei 1001 (by omega), en]; exact a1, by rw [gI_at, up_at], by rw [gI_ns _ _ _ (by decide)]; exact a3, by rw [gI_ns _ _ _ (by decide)]; exact a4, by rw [gI_ns _ _ _ (by decide), up_ne _ _ (by omega)]; exact a5, fun i hi => by rw [ei 1002 (by omega), up_ne _ _ (by omega)]; exact a6 i hi, ?_⟩
  rw [en]
  intro k hk
  obtain ⟨s0, s1, s2, s3, s4, s5, s6⟩ := a7 k hk
  unfold GS
  rw [ei _ (by omega), ei _ (by omega), ei _ (by omega), ei _ (by omega), up_ne _ _ (by omega), up_ne _ _ (by omega), up_ne _ _ (by omega), up_ne _ _ (by omega), up_ne _ _ (by omega), up_ne _ _ (by omega)]
  exact ⟨s0, s1, s2, s3, s4, s5, fun i hi => by rw [up_ne _ _ (by omega), up_ne _ _ (by omega), up_ne _ _ (by omega)]; exact s6 i hi⟩
/-- only the seed, the queue and the like change -/
theorem GX.cg (hG : GX so le q rd τ) (hr : ∀ k, (k = 1 ∨ (5 ≤ k ∧ k < 13) ∨ 53 ≤ k) → rd' k = rd k) : GX so le q rd' τ := by
  obtain ⟨a1, a2, a3, a4, a5, a6, a7⟩ := hG
  have en : nS rd' (53 + 186 * q) = nS rd (53 + 186 * q) := by unfold nS; rw [hr _ (by omega)]
  refine ⟨by rw [en]; exact a1, by rw [hr _ (by omega)]; exact a2, a3, a4, by rw [hr _ (by omega)]; exact a5, fun i hi => by rw [hr _ (by omega)]; exact a6 i hi, ?_⟩
  rw [en]
  intro k hk
  unfold GS
  rw [hr _ (by omega), hr _ (by omega), hr _ (by omega), hr _ (by omega), hr _ (by omega), hr _ (by omega)]
  obtain ⟨s0, s1, s2, s3, s4, s5, s6⟩ := a7 k hk
  exact ⟨s0, s1, s2, s3, s4, s5, fun i hi => by rw [hr _ (by omega), hr _ (by omega), hr _ (by omega)]; exact s6 i hi⟩
theorem GX.seed (hG : GX so le q rd τ) {v : Int32} : GX so le q (up rd 1 v) (sI τ 1000 2 v) := by
  obtain ⟨a1, a2, a3, a4, a5, a6, a7⟩ := hG
  have en : nS (up rd 1 v) (53 + 186 * q) = nS rd (53 + 186 * q) := by unfold nS; rw [up_ne _ _ (by omega)]
  have ei : ∀ i, i ≠ 1000 → gI (sI τ 1000 2 v) i = gI τ i := fun i hi => gI_nf _ _ _ hi
  refine ⟨by rw [ei 1001 (by omega), en]; exact a1, by rw [gI_ns _ _ _ (by decide), up_ne _ _ (by omega)]; exact a2, by rw [gI_ns _ _ _ (by decide)]; exact a3, by rw [gI_ns _ _ _ (by decide)]; exact a4, by rw [gI_at, up_at], fun i hi => by rw [ei 1002 (by omega), up_ne _ _ (by omega)]; exact a6 i hi, ?_⟩
  rw [en]
  intro k hk
  obtain ⟨s0, s1, s2, s3, s4, s5, s6⟩ := a7 k hk
  unfold GS
  rw [ei _ (by omega), ei _ (by omega), ei _ (by omega), ei _ (by omega), up_ne _ _ (by omega), up_ne _ _ (by omega), up_ne _ _ (by omega), up_ne _ _ (by omega), up_ne _ _ (by omega), up_ne _ _ (by omega)]
  exact ⟨s0, s1, s2, s3, s4, s5, fun i hi => by rw [up_ne _ _ (by omega), up_ne _ _ (by omega), up_ne _ _ (by omega)]; exact s6 i hi⟩
theorem tk_fl {c : Nat} (hc : 13 ≤ c) (v : Int32) : tkR (up rd (c + 2) v) c = up (tkR rd c) (c + 2) v := by
  funext k
  unfold tkR pk
  by_cases h : 5 ≤ k ∧ k < 5 + 8
  · rw [if_pos h, up_ne _ _ (by omega), if_pos h]
    unfold tkf
    rw [up_ne _ _ (by omega), up_ne _ _ (by omega)]
  · rw [if_neg h]
    by_cases c2 : k = c + 2
    · subst c2; rw [up_at, up_at]
    · rw [up_ne _ _ c2, up_ne _ _ c2, if_neg h]
/-- the game's try, behind its draw -/
theorem gtry (v : VR B rd) (hB : B + 198 ≤ 50000000) (hq : q < Nn (rd 0)) (hQ : GQ so le q rd) (t : Tr rd q s) (hG : GX so le q (drR rd) τ) : ∃ τ2, pf_X11_attempt_b71 1000 (1005 + 4 * s) (drV rd) τ = some (tryV rd q s, τ2) ∧ GX so le q (tryR rd q s) τ2 := by
  have n0 := v.n0
  have V := (v.2.2.2.2.2.2.1 q hq).1
  have hn := V.n
  have t' := t.dr v hq
  have v' := drVR v
  have e0 : drR rd 0 = rd 0 := drR_out rd v.2.1.2 (by omega)
  have hq' : q < Nn (drR rd 0) := by rw [e0]; exact hq
  have V' := (v'.2.2.2.2.2.2.1 q hq').1
  have hc : cP q s = 53 + 186 * q + 6 + 30 * s := rfl
  have hs := t'.2.1
  have hn' := V'.n
  have hQ' : GQ so le q (drR rd) := hQ.to V (by omega) (fun j h1 h2 => drR_out rd v.2.1.2 (by omega)) (fun s h1 j h2 h3 h4 => drR_out rd v.2.1.2 (by omega)) (fun k h1 h2 => drR_out rd v.2.1.2 (by omega))
  have er : gI τ (1005 + 4 * s) 0 = rd (cP q s) := (hG.2.2.2.2.2.2 s hs).1.trans (drR_out rd v.2.1.2 (by omega))
  have e4 : gI τ (1005 + 4 * s) 4 = drR rd (cP q s + 5) := (hG.2.2.2.2.2.2 s hs).2.2.2.2.1
  obtain ⟨x5, x51, x52, x53⟩ := (V'.s hs).2.2.2.2.2.1.get
  rw [show drR rd (53 + 186 * q + 6 + 30 * s + 5) = drR rd (cP q s + 5) from rfl] at x51 x53
  -- what is used is taken
  have take : ∀ {K : Nat → Nat → Int32 → St → Option (Int32 × St)} (v5 : Int32), ∃ τ', pf_X11_attempt_L102 K FU 1000 (1005 + 4 * s) v5 0 τ = K 1000 (1005 + 4 * s) v5 τ' ∧ (∀ i, i ≠ 1002 → gI τ' i = gI τ i) ∧ GX so le q (tkR (drR rd) (cP q s)) τ' := fun {K} v5 => by
    obtain ⟨τ', f1, f2, f3⟩ := att_take (K := K) (a := 1005 + 4 * s) (by omega) (v5 := v5) 3 0 FU τ rfl (by rw [FU4]; omega)
    refine ⟨τ', f1, f2, hG.stk f2 (fun i hi => ?_) (fun k hk => tkR_out _ _ hk)⟩
    rw [f3 i, if_pos ⟨Nat.zero_le _, hi⟩, hG.2.2.2.2.2.1 i hi, ((hG.2.2.2.2.2.2 s hs).2.2.2.2.2.2 i hi).1]
    unfold tkR
    rw [pkI_in _ _ (by omega)]
    rfl
  unfold pf_X11_attempt_b71 tryV tryR
  rw [er]
  by_cases c : drV rd < rd (cP q s)
  · rw [if_pos c, if_pos c, if_pos c]
    obtain ⟨w1, w2, w3, w4, w5⟩ := flB_V v' (by omega) hq' t'
    have hA : ∀ k, k ≠ cP q s + 2 → flA (drR rd) q s k = drR rd k := fun k hk => up_ne _ _ hk
    have hQB : GQ so le q (flB (drR rd) q s) := hQ'.to V' (by omega) (fun j h1 h2 => by rw [w4 _ (by omega), hA _ (by omega)]) (fun s' h1 j h2 h3 h4 => by rw [w4 _ (by omega), hA _ (by omega)]) (fun k h1 h2 => by rw [w4 _ (by omega), hA _ (by omega)])
    have fin : ∀ τB, GX so le q (flB (drR rd) q s) (sI τB (1005 + 4 * s) 2 (gI τB (1005 + 4 * s) 2 + 1)) → ∃ τ2, pf_X11_attempt_b131 1000 (1005 + 4 * s) 0 τB = some ((if stl (flB (drR rd) q s) (53 + 186 * q) then 0 else 3 : Int32), τ2) ∧ GX so le q (fal (drR rd) q s) τ2 := fun τB hGB => by
      unfold pf_X11_attempt_b131
      rw [if_pos rfl, bnd_e]
      have e := att_set w2 hQB hGB (K := pf_X11_attempt_b260) (nS (flB (drR rd) q s) (53 + 186 * q)) 0 FU (Nat.zero_add _) (by have := w2.n; rw [FU4]; omega)
      have e' : pf_X11_attempt_L220 pf_X11_attempt_b260 FU 1000 0 0 (sI τB (1005 + 4 * s) 2 (gI τB (1005 + 4 * s) 2 + 1)) = _ := e
      rw [e']
      unfold pf_X11_attempt_b260 fal
      rw [hold_eq hQB hGB (msk_lt _ _), bind_some, if_b2, set_stl w2]
      cases stl (flB (drR rd) q s) (53 + 186 * q) with
      | true => exact ⟨_, rfl, hGB⟩
      | false => exact ⟨_, rfl, hGB.upT⟩
    unfold pf_X11_attempt_b85
    rw [if_pos rfl, e4, x51]
    rcases (by omega : x5 = 0 ∨ x5 = 1) with rfl | rfl
    · rw [if_pos (show nI 0 = (0 : Int32) from rfl)]
      refine fin τ ?_
      have eB : flB (drR rd) q s = flA (drR rd) q s := if_neg (by rw [x51]; decide)
      rw [eB]
      unfold flA
      rw [(hG.2.2.2.2.2.2 s hs).2.2.1]
      exact hG.upF
    · rw [if_neg (show ¬ nI 1 = (0 : Int32) by decide)]
      unfold pf_X11_attempt_b99
      obtain ⟨τ', f1, f2, f3⟩ := take (K := pf_X11_attempt_b131) 0
      rw [f1]
      refine fin τ' ?_
      have eB : flB (drR rd) q s = tkR (flA (drR rd) q s) (cP q s) := if_pos (by rw [x51]; rfl)
      rw [eB]
      unfold flA
      rw [tk_fl (by omega), f2 _ (by omega), (hG.2.2.2.2.2.2 s hs).2.2.1]
      exact f3.upF
  · rw [if_neg c, if_neg c, if_neg c]
    obtain ⟨x1, x2, V2, x4⟩ := sucD_V v' hB hq' hs t'.2.2.1
    have ed0 : sucD (drR rd) q s 0 = rd 0 := (sucD_out _ (by omega) (by omega)).trans e0
    have VD := (x1.2.2.2.2.2.2.1 q (by rw [ed0]; exact hq)).1
    have hD : ∀ k, (k < 5 ∨ 13 ≤ k) → k ≠ cP q s + 3 → sucD (drR rd) q s k = drR rd k := fun k h1 h2 => sucD_out _ h1 h2
    have hQD : GQ so le q (sucD (drR rd) q s) := hQ'.to V' (by omega) (fun j h1 h2 => hD _ (by omega) (by omega)) (fun s' h1 j h2 h3 h4 => hD _ (by omega) (by omega)) (fun k h1 h2 => hD _ (by omega) (by omega))
    unfold pf_X11_attempt_b85
    rw [if_neg (by decide)]
    unfold pf_X11_attempt_b99
    obtain ⟨τ', f1, f2, f3⟩ := take (K := pf_X11_attempt_b131) 1
    rw [f1]
    unfold pf_X11_attempt_b131
    rw [if_neg (by decide)]
    obtain ⟨τ3, g1, g2, g3⟩ := att_give (K := pf_X11_attempt_b168) (a := 1005 + 4 * s) (by omega) 3 0 FU τ' rfl (by rw [FU4]; omega)
    rw [show pf_X11_attempt_L139 pf_X11_attempt_b168 FU 1000 (1005 + 4 * s) 0 τ' = _ from g1]
    have hs3 : s < nS (tkR (drR rd) (cP q s)) (53 + 186 * q) := by
      show s < Nn (tkR (drR rd) (cP q s) (53 + 186 * q))
      rw [tkR_out _ _ (by omega)]; exact hs
    have hG3 : GX so le q (gvR (tkR (drR rd) (cP q s)) (cP q s)) τ3 := f3.stk g2 (fun i hi => by
      rw [g3 i, if_pos ⟨Nat.zero_le _, hi⟩, f3.2.2.2.2.2.1 i hi, ((f3.2.2.2.2.2.2 s hs3).2.2.2.2.2.2 i hi).2.2]
      unfold gvR
      rw [pkI_in _ _ (by omega)]
      rfl) (fun k hk => gvR_out _ _ hk)
    have hGD : GX so le q (sucD (drR rd) q s) (sI τ3 (1005 + 4 * s) 5 1) := hG3.upD
    unfold pf_X11_attempt_b168
    rw [bnd_e, gdone VD hQD hGD, bind_some, hold_eq hQD hGD (dnM_pow _ _), bind_some, if_b2]
    unfold suc
    rw [show gl (sucD (drR rd) q s) (53 + 186 * q) (dnM (sucD (drR rd) q s) (53 + 186 * q)) = sucH (drR rd) q s from rfl]
    cases sucH (drR rd) q s with
    | false => exact ⟨_, rfl, hGD⟩
    | true =>
      refine ⟨_, rfl, ?_⟩
      rw [if_pos rfl]
      have eit : sucD (drR rd) q s (53 + 186 * q + 2) = nI 1 := hQD.2.2.2.2.2.1
      have eam : sucD (drR rd) q s (53 + 186 * q + 3) = nI 7 := hQD.2.2.2.2.2.2.1
      unfold sucE
      rw [eit, eam, show Nn (nI 1) = 1 from rfl]
      have hT := hGD.upT (v := nI 1)
      refine hT.stk (fun i hi => gI_nf _ _ _ hi) (fun i hi => ?_) (fun k hk => up_ne _ _ (by omega))
      show gI (sI (sI (sI τ3 (1005 + 4 * s) 5 1) 1000 3 (nI 1)) 1002 1 (gI (sI (sI τ3 (1005 + 4 * s) 5 1) 1000 3 (nI 1)) 1002 1 + 7)) 1002 i = _
      by_cases ci : i = 1
      · subst ci
        rw [gI_at, up_at, hT.2.2.2.2.2.1 1 (by omega), up_ne _ _ (by omega)]; rfl
      · rw [gI_ns _ _ _ ci, up_ne _ _ (by omega)]
        exact hT.2.2.2.2.2.1 i hi
end
