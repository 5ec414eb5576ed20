/-! CALLS that change: mend, giveUp, reopen, tell, undo -/
theorem VQ.upS {rd : Nat → Int32} {q s x : Nat} {v : Int32} (V : VQ rd (53 + 186 * q)) (hq : q < 6) (hs : s < nS rd (53 + 186 * q)) (hx : x < 30) (hv : VS (up rd (53 + 186 * q + 6 + 30 * s + x) v) (53 + 186 * q + 6 + 30 * s) s) : VQ (up rd (53 + 186 * q + 6 + 30 * s + x) v) (53 + 186 * q) ∧ ∀ u, gl (up rd (53 + 186 * q + 6 + 30 * s + x) v) (53 + 186 * q) u = gl rd (53 + 186 * q) u := by
  have hn := V.n
  obtain ⟨h1, h2, h3, h4, h5, h6⟩ := V
  have ne : ∀ j, j < 6 → up rd (53 + 186 * q + 6 + 30 * s + x) v (53 + 186 * q + j) = rd (53 + 186 * q + j) := fun j hj => up_ne _ _ (by omega)
  have g := h5.cong (rd' := up rd (53 + 186 * q + 6 + 30 * s + x) v) (ne 0 (by omega)) (ne 4 (by omega)) (ne 5 (by omega)) (fun k a1 a2 => up_ne _ _ (by omega))
  refine ⟨?_, g.2⟩
  unfold VQ
  rw [show up rd (53 + 186 * q + 6 + 30 * s + x) v (53 + 186 * q) = rd (53 + 186 * q) from ne 0 (by omega), ne 1 (by omega), ne 2 (by omega), ne 3 (by omega)]
  refine ⟨h1, h2, h3, h4, g.1, fun t ht => ?_⟩
  by_cases e : t = s
  · subst e; exact hv
  · exact (h6 t ht).cong fun k a1 a2 => up_ne _ _ (by omega)
theorem dnM.upS {rd : Nat → Int32} {q s x : Nat} {v : Int32} (hx : x < 30) (hx3 : x ≠ 3) : dnM (up rd (53 + 186 * q + 6 + 30 * s + x) v) (53 + 186 * q) = dnM rd (53 + 186 * q) := by
  unfold dnM
  rw [up_ne _ _ (show 53 + 186 * q ≠ 53 + 186 * q + 6 + 30 * s + x by omega)]
  exact msk_congr _ fun t ht => by rw [up_ne _ _ (by omega)]
/-- a cell of a step of the class -/
theorem RQ.upF {σ : St} {rd : Nat → Int32} {q s : Nat} {v : Int32} (V : VQ rd (53 + 186 * q)) (hq : q < 6) (hs : s < nS rd (53 + 186 * q)) (h : RQ σ (7 + 9 * q) rd (53 + 186 * q)) (hg : ∀ u, gl (up rd (53 + 186 * q + 6 + 30 * s + 2) v) (53 + 186 * q) u = gl rd (53 + 186 * q) u) : RQ (sI σ (7 + 9 * q + 3) s v) (7 + 9 * q) (up rd (53 + 186 * q + 6 + 30 * s + 2) v) (53 + 186 * q) := by
  have hn := V.n
  obtain ⟨q0, q1, q2, q3, q4, q5, q6⟩ := h
  have ne : ∀ j, j < 6 → up rd (53 + 186 * q + 6 + 30 * s + 2) v (53 + 186 * q + j) = rd (53 + 186 * q + j) := fun j hj => up_ne _ _ (by omega)
  have e0 : gI (sI σ (7 + 9 * q + 3) s v) (7 + 9 * q) = gI σ (7 + 9 * q) := gI_nf _ _ _ (by omega)
  refine ⟨by rw [e0, show up rd (53 + 186 * q + 6 + 30 * s + 2) v (53 + 186 * q) = rd (53 + 186 * q) from ne 0 (by omega)]; exact q0, by rw [e0, ne 1 (by omega)]; exact q1, by rw [e0, dnM.upS (by omega) (by omega)]; exact q2, by rw [e0, ne 2 (by omega)]; exact q3, by rw [e0, ne 3 (by omega)]; exact q4, fun u hu => by rw [gL_sI, hg]; exact q5 u hu, fun t ht => ?_⟩
  rw [show up rd (53 + 186 * q + 6 + 30 * s + 2) v (53 + 186 * q) = rd (53 + 186 * q) from ne 0 (by omega)] at ht
  have ht' : t < nS rd (53 + 186 * q) := ht
  obtain ⟨r1, r2, r3, r4, r5, r6⟩ := q6 t ht
  have gn : ∀ j, j ≠ 3 → gI (sI σ (7 + 9 * q + 3) s v) (7 + 9 * q + j) = gI σ (7 + 9 * q + j) := fun j hj => gI_nf _ _ _ (by omega)
  refine ⟨by rw [gn 1 (by omega), up_ne _ _ (by omega)]; exact r1, by rw [gn 2 (by omega), up_ne _ _ (by omega)]; exact r2, ?_, by rw [gn 4 (by omega), up_ne _ _ (by omega)]; exact r4, by rw [gn 5 (by omega), up_ne _ _ (by omega)]; exact r5, fun i hi => ?_⟩
  · by_cases e : t = s
    · subst e; rw [gI_at, up_at]
    · rw [gI_ns _ _ _ e, up_ne _ _ (by omega)]; exact r3
  · obtain ⟨t1, t2, t3⟩ := r6 i hi
    exact ⟨by rw [gn 6 (by omega), up_ne _ _ (by omega)]; exact t1, by rw [gn 7 (by omega), up_ne _ _ (by omega)]; exact t2, by rw [gn 8 (by omega), up_ne _ _ (by omega)]; exact t3⟩
/-- status alone -/
theorem VQ.upT {rd : Nat → Int32} {q v : Nat} (V : VQ rd (53 + 186 * q)) (hq : q < 6) (hv : v ≤ 2) : VQ (up rd (53 + 186 * q + 1) (nI v)) (53 + 186 * q) ∧ (∀ u, gl (up rd (53 + 186 * q + 1) (nI v)) (53 + 186 * q) u = gl rd (53 + 186 * q) u) ∧ dnM (up rd (53 + 186 * q + 1) (nI v)) (53 + 186 * q) = dnM rd (53 + 186 * q) := by
  have hn := V.n
  obtain ⟨h1, h2, h3, h4, h5, h6⟩ := V
  have ne : ∀ j, j ≠ 53 + 186 * q + 1 → up rd (53 + 186 * q + 1) (nI v) j = rd j := fun j hj => up_ne _ _ hj
  have g := h5.cong (rd' := up rd (53 + 186 * q + 1) (nI v)) (ne _ (by omega)) (ne _ (by omega)) (ne _ (by omega)) (fun k a1 a2 => ne _ (by omega))
  refine ⟨?_, g.2, ?_⟩
  · unfold VQ
    rw [ne _ (show 53 + 186 * q ≠ _ by omega), up_at, ne _ (show 53 + 186 * q + 2 ≠ _ by omega), ne _ (show 53 + 186 * q + 3 ≠ _ by omega)]
    exact ⟨h1, Is.of hv (by omega), h3, h4, g.1, fun t ht => (h6 t ht).cong fun k a1 a2 => ne _ (by omega)⟩
  · unfold dnM
    rw [ne _ (show 53 + 186 * q ≠ _ by omega)]
    exact msk_congr _ fun t ht => by rw [ne _ (by omega)]
theorem RQ.upT {σ : St} {rd : Nat → Int32} {q v : Nat} (V : VQ rd (53 + 186 * q)) (hq : q < 6) (hv : v ≤ 2) (h : RQ σ (7 + 9 * q) rd (53 + 186 * q)) : RQ (sI σ (7 + 9 * q) 1 (nI v)) (7 + 9 * q) (up rd (53 + 186 * q + 1) (nI v)) (53 + 186 * q) := by
  have hn := V.n
  obtain ⟨_, g2, g3⟩ := V.upT hq hv
  obtain ⟨q0, q1, q2, q3, q4, q5, q6⟩ := h
  have ne : ∀ j, j ≠ 53 + 186 * q + 1 → up rd (53 + 186 * q + 1) (nI v) j = rd j := fun j hj => up_ne _ _ hj
  refine ⟨by rw [gI_ns _ _ _ (by decide), ne _ (show 53 + 186 * q ≠ _ by omega)]; exact q0, by rw [gI_at, up_at], by rw [gI_ns _ _ _ (by decide), g3]; exact q2, by rw [gI_ns _ _ _ (by decide), ne _ (show 53 + 186 * q + 2 ≠ _ by omega)]; exact q3, by rw [gI_ns _ _ _ (by decide), ne _ (show 53 + 186 * q + 3 ≠ _ by omega)]; exact q4, fun u hu => by rw [gL_sI, g2]; exact q5 u hu, fun t ht => ?_⟩
  rw [ne _ (show 53 + 186 * q ≠ _ by omega)] at ht
  obtain ⟨r1, r2, r3, r4, r5, r6⟩ := q6 t ht
  have gn : ∀ j, j ≠ 0 → gI (sI σ (7 + 9 * q) 1 (nI v)) (7 + 9 * q + j) = gI σ (7 + 9 * q + j) := fun j hj => gI_nf _ _ _ (by omega)
  refine ⟨by rw [gn 1 (by omega), ne _ (by omega)]; exact r1, by rw [gn 2 (by omega), ne _ (by omega)]; exact r2, by rw [gn 3 (by omega), ne _ (by omega)]; exact r3, by rw [gn 4 (by omega), ne _ (by omega)]; exact r4, by rw [gn 5 (by omega), ne _ (by omega)]; exact r5, fun i hi => ?_⟩
  obtain ⟨t1, t2, t3⟩ := r6 i hi
  exact ⟨by rw [gn 6 (by omega), ne _ (by omega)]; exact t1, by rw [gn 7 (by omega), ne _ (by omega)]; exact t2, by rw [gn 8 (by omega), ne _ (by omega)]; exact t3⟩
section
variable {c : Nat} {σ : St}
/-- the ledger behind the change of a quest -/
theorem RLd.q7 {σ σ' : St} {B q : Nat} {rd rd' : Nat → Int32} (v : VR B rd) (hq : q < Nn (rd 0)) (h : RLd σ 2 rd) (u : Un (inR (7 + 9 * q) 9) σ σ') (he : ∀ k, (k < 53 + 186 * q ∨ 53 + 186 * q + 186 ≤ k) → k < 4370 → rd' k = rd k) (hr : RQ σ' (7 + 9 * q) rd' (53 + 186 * q)) : RLd σ' 2 rd' := RLd.qu v hq h (by rw [show 2 + 5 + 9 * q = 7 + 9 * q by omega]; exact u) he (by rw [show 2 + 5 + 9 * q = 7 + 9 * q by omega]; exact hr)
theorem op_mend (hc : c < 512) (I : Inv c σ) (v w : Int32) : ∃ A σ1, pf_X10_mend 0 v w σ = some (A, σ1) ∧ ∀ σ2, Un oA σ1 σ2 → ∃ b σ3, pf_X11_mend 609 v w σ2 = some (b, σ3) ∧ Agr fQ A b (gI σ3 609 0) ∧ IL c σ2 σ3 := by
  obtain ⟨hb1, hb2, hb3⟩ := BB_1 hc
  obtain ⟨r, nxt, σa, r1, r2, r3, r4, r5, k1, k2, k3, kk⟩ := chg I
  have X : CX σ (RW σ r) (BB c) := ⟨r4, r5, by omega⟩
  have Xa : CX σa (RW σ r) (BB c) := ⟨k3, r5, by omega⟩
  have q0 := X.q0
  unfold pf_X10_mend pf_X11_mend
  simp only [bnd_e]
  rcases v_cases v (n := Qn (RW σ r)) (by omega) with hv | ⟨q, hq, rfl⟩
  · rw [qWS_q X hv, bXW_l]
    refine ⟨_, σ, rfl, fun σ2 u => ?_⟩
    obtain ⟨h1, h0, u1⟩ := ref0 (c := c) r1 r3 rfl rfl u
    rw [isSt_q h1 q0.1 q0.2 h0 hv, bnd2_some, i00]
    exact ⟨_, _, rfl, gI_at _ _ _ _, I.no (Un.refl _ _) u (u1.trans (MU.fld _ _ (Or.inl rfl)))⟩
  · have V := X.V hq
    have O := X.O hq
    have hn := V.n
    have hq6 : q < 6 := by omega
    have W := X.W hq
    have hr := W.2.2.2.1
    have hra := (Xa.W hq).2.2.2.1
    rcases v_cases w (n := nS (RW σ r) (53 + 186 * q)) (by omega) with hv | ⟨s, hs, rfl⟩
    · rw [qWS_no X hq hv, bXW_l]
      refine ⟨_, σ, rfl, fun σ2 u => ?_⟩
      obtain ⟨h1, h0, u1⟩ := ref0 (c := c) r1 r3 rfl rfl u
      rw [isSt_no h1 q0.1 q0.2 h0 hq V hv, bnd2_some, i00]
      exact ⟨_, _, rfl, gI_at _ _ _ _, I.no (Un.refl _ _) u (u1.trans (MU.fld _ _ (Or.inl rfl)))⟩
    · rw [qWS_yes X hq hs, bXW_r, ckK_eq (kd7 q hq6)]
      have vs := V.s hs
      have er := (hra.b hs).2.2.1
      have hvs : VS (up (RW σ r) (53 + 186 * q + 6 + 30 * s + 2) 0) (53 + 186 * q + 6 + 30 * s) s := by
        obtain ⟨a1, a2, a3, a4, a5, a6, a7⟩ := vs
        unfold VS
        rw [up_at, up_ne _ _ (show 53 + 186 * q + 6 + 30 * s ≠ _ by omega), up_ne _ _ (show 53 + 186 * q + 6 + 30 * s + 1 ≠ _ by omega), up_ne _ _ (show 53 + 186 * q + 6 + 30 * s + 3 ≠ _ by omega), up_ne _ _ (show 53 + 186 * q + 6 + 30 * s + 4 ≠ _ by omega), up_ne _ _ (show 53 + 186 * q + 6 + 30 * s + 5 ≠ _ by omega)]
        exact ⟨a1, a2, ⟨Is.of (n := 0) (by omega) (by omega), Nat.zero_le _⟩, a4, a5, a6, fun i hi => by rw [up_ne _ _ (by omega)]; exact a7 i hi⟩
      obtain ⟨v1, v2⟩ := V.upS (x := 2) hq6 hs (by omega) hvs
      have av : VR (BB (c + 1)) (up (RW σ r) (53 + 186 * q + 6 + 30 * s + 2) 0) := r5.qu (by omega) hq (fun k a1 a2 => up_ne _ _ (by omega)) ⟨v1, fun e => by
        rw [v2, dnM.upS (by omega) (by omega)]
        exact O (by rw [up_ne _ _ (by omega)] at e; exact e)⟩
      have a1 : RLd (sI σa (7 + 9 * q + 3) s 0) 2 (up (RW σ r) (53 + 186 * q + 6 + 30 * s + 2) 0) := RLd.q7 r5 hq k3 (Un.sI _ _ ⟨by omega, by omega⟩) (fun k a1 a2 => up_ne _ _ (by omega)) (hra.upF V hq6 hs v2)
      have un : Un nwM σa (sI σa (7 + 9 * q + 3) s 0) := Un.sI _ _ (Or.inl ⟨by omega, by omega⟩)
      rw [show pf_X1_remember (0 + 120) (0 + 2) σ = _ from k1, bind_some, at_ok (af_X3_fails (kd7 q hq6)) (by omega), bind_some, put_ok (af_X3_fails (kd7 q hq6)) (by omega), bind_some, er]
      refine ⟨_, _, rfl, fun σ2 u => ?_⟩
      have e9 : ∀ j, j = 609 ∨ j = 610 → gI (sI σa (7 + 9 * q + 3) s 0) j = gI σ j := fun j hj => by rw [gI_nf _ _ _ (by omega), k2.I (by unfold rmM; omega)]
      obtain ⟨h1, h0, u1⟩ := ref0 (c := c) r1 r3 (e9 610 (by omega)) (e9 609 (by omega)) u
      obtain ⟨τa, t1, t2, t3, t4, t5⟩ := kk _ _ un a1 av σ2 u _ u1
      have M := MR_of (σ := τa) (r := (r + 1) % 9) (by omega) t2
      rw [t3] at M
      have w0 : Wr ((r + 1) % 9) τa τa (RW σ r) := by have := Wr.q (r := (r + 1) % 9) (MU.refl qA qI τa); rw [t3] at this; exact this
      obtain ⟨τ3, p1, p2⟩ := putSR (w := 2) 0 (by omega) t2 w0 hq6 (show s < 6 by omega) (by omega)
      rw [isSt_yes h1 q0.1 q0.2 h0 hq V hs, bnd2_some, i10, t1, bind_some, oS2 M hq6 (by omega), bind_some, show pf_X11_putStep 609 (nI q) (nI s) 2 0 τa = _ from p1, bind_some]
      exact ⟨_, _, rfl, ⟨p2.t.trans (t4.trans h0), rfl⟩, t5 _ p2⟩
theorem op_giveUp (hc : c < 512) (I : Inv c σ) (v : Int32) : ∃ A σ1, pf_X10_giveUp 0 v σ = some (A, σ1) ∧ ∀ σ2, Un oA σ1 σ2 → ∃ b σ3, pf_X11_giveUp 609 v σ2 = some (b, σ3) ∧ Agr fQ A b (gI σ3 609 0) ∧ IL c σ2 σ3 := by
  obtain ⟨hb1, hb2, hb3⟩ := BB_1 hc
  obtain ⟨r, nxt, σa, r1, r2, r3, r4, r5, k1, k2, k3, kk⟩ := chg I
  have X : CX σ (RW σ r) (BB c) := ⟨r4, r5, by omega⟩
  have Xa : CX σa (RW σ r) (BB c) := ⟨k3, r5, by omega⟩
  have q0 := X.q0
  unfold pf_X10_giveUp pf_X11_giveUp
  simp only [bnd_e]
  rcases v_cases v (n := Qn (RW σ r)) (by omega) with hv | ⟨q, hq, rfl⟩
  · rw [qAt_no X hv, bXW_l]
    refine ⟨_, σ, rfl, fun σ2 u => ?_⟩
    obtain ⟨h1, h0, u1⟩ := ref0 (c := c) r1 r3 rfl rfl u
    rw [isQ_no h1 q0.1 q0.2 h0 hv, bnd2_some, i00]
    exact ⟨_, _, rfl, gI_at _ _ _ _, I.no (Un.refl _ _) u (u1.trans (MU.fld _ _ (Or.inl rfl)))⟩
  · have V := X.V hq
    have O := X.O hq
    have hn := V.n
    have hq6 : q < 6 := by omega
    have W := X.W hq
    have hr := W.2.2.2.1
    have hra := (Xa.W hq).2.2.2.1
    rw [qAt_yes X hq, bXW_r, ckK_eq (kd7 q hq6)]
    rw [hr.2.1]
    by_cases c0 : RW σ r (53 + 186 * q + 1) = 0
    · obtain ⟨v1, v2, v3⟩ := V.upT (v := 2) hq6 (by omega)
      have av : VR (BB (c + 1)) (up (RW σ r) (53 + 186 * q + 1) (nI 2)) := r5.qu (by omega) hq (fun k a1 a2 => up_ne _ _ (by omega)) ⟨v1, fun e => by
        rw [up_at] at e; exact absurd e (by decide)⟩
      have a1 : RLd (sI σa (7 + 9 * q) 1 (nI 2)) 2 (up (RW σ r) (53 + 186 * q + 1) (nI 2)) := RLd.q7 r5 hq k3 (Un.sI _ _ ⟨by omega, by omega⟩) (fun k a1 a2 => up_ne _ _ (by omega)) (hra.upT V hq6 (by omega))
      have un : Un nwM σa (sI σa (7 + 9 * q) 1 (nI 2)) := Un.sI _ _ (Or.inl ⟨by omega, by omega⟩)
      rw [if_pos c0, show pf_X1_remember (0 + 120) (0 + 2) σ = _ from k1, bind_some, show gI (sI σa (7 + 9 * q) 1 2) (7 + 9 * q) 2 = nI (dnM (RW σ r) (53 + 186 * q)) from by rw [gI_ns _ _ _ (by decide)]; exact hra.2.2.1]
      refine ⟨_, sI σa (7 + 9 * q) 1 (nI 2), rfl, fun σ2 u => ?_⟩
      have e9 : ∀ j, j = 609 ∨ j = 610 → gI (sI σa (7 + 9 * q) 1 (nI 2)) j = gI σ j := fun j hj => by rw [gI_nf _ _ _ (by omega), k2.I (by unfold rmM; omega)]
      obtain ⟨h1, h0, u1⟩ := ref0 (c := c) r1 r3 (e9 610 (by omega)) (e9 609 (by omega)) u
      obtain ⟨τa, t1, t2, t3, t4, t5⟩ := kk _ _ un a1 av σ2 u _ u1
      have w0 : Wr ((r + 1) % 9) τa τa (RW σ r) := by have := Wr.q (r := (r + 1) % 9) (MU.refl qA qI τa); rw [t3] at this; exact this
      obtain ⟨τ3, p1, p2⟩ := putQR (w := 1) (nI 2) (by omega) t2 w0 hq6 (by omega)
      rw [isQ_yes h1 q0.1 q0.2 h0 hq, bnd2_some, i10, openM h1 hq6, bind_some, decide_eq_true c0, right_t h0, bnd2_some, i10, t1, bind_some, show pf_X11_putQuest 609 (nI q) 1 2 τa = _ from p1, bind_some, doneM (p2.M (by omega) t2) hq6 v1, bind_some, v3]
      exact ⟨_, _, rfl, ⟨p2.t.trans (t4.trans h0), rfl⟩, t5 _ p2⟩
    · rw [if_neg c0]
      refine ⟨_, σ, rfl, fun σ2 u => ?_⟩
      obtain ⟨h1, h0, u1⟩ := ref0 (c := c) r1 r3 rfl rfl u
      rw [isQ_yes h1 q0.1 q0.2 h0 hq, bnd2_some, i10, openM h1 hq6, bind_some, decide_eq_false c0, right_f h0 (by decide), bnd2_some, i00]
      exact ⟨_, _, rfl, gI_at _ _ _ _, I.no (Un.refl _ _) u (u1.trans (MU.fld _ _ (Or.inl rfl)))⟩
end
