/-! LOAD: the call in the form of all calls -/
theorem Inv.chg2 {c r nxt cnt : Nat} {σ σ3 : St} {rd' : Nat → Int32} (h1 : r < 9) (h2 : nxt < 8) (h3 : cnt ≤ 8) (h9 : VR (BB c) (RW σ r)) (h10 : Hist σ c r nxt cnt)
    (uh : ∀ i, 122 ≤ i → i < 594 → ¬ (122 + 59 * nxt ≤ i ∧ i < 122 + 59 * nxt + 59) → gI σ3 i = gI σ i ∧ gL σ3 i = gL σ i)
    (a1 : RLd σ3 2 rd') (a2 : RLd σ3 (122 + 59 * nxt) (RW σ r)) (a3 : gI σ3 120 1 = nI ((nxt + 1) % 8)) (a4 : gI σ3 120 2 = nI (min (cnt + 1) 8)) (av : VR (BB (c + 1)) rd')
    (b1 : gI σ3 609 3 = nI ((r + 1) % 9)) (b2 : gI σ3 609 4 = nI (min (cnt + 1) 8)) (b3 : RW σ3 ((r + 1) % 9) = rd') (b4 : ∀ q, q < 9 → q ≠ (r + 1) % 9 → RW σ3 q = RW σ q) (hb : Buf σ3) : Inv (c + 1) σ3 := by
  refine ⟨hb, (r + 1) % 9, (nxt + 1) % 8, min (cnt + 1) 8, by omega, by omega, by omega, b1, b2, a3, a4, by rw [b3]; exact a1, by rw [b3]; exact av, ?_⟩
  intro j hj
  rcases j with _ | j
  · obtain ⟨e1, e2, e3⟩ := hist_0 h1 h2
    rw [e1, e2, b4 r h1 e3]
    exact ⟨a2, h9.mono (by unfold BB; omega)⟩
  · obtain ⟨e1, e2, e3, e4, e5⟩ := hist_step h1 h2 h3 hj
    have hbb := hpl_b nxt j
    rw [e1, e2, b4 _ (hro_b r j) e3]
    obtain ⟨g1, g2⟩ := h10 j e5
    refine ⟨g1.cong g2.n0 fun i q1 q2 => uh i (by omega) (by omega) ?_, g2.mono (by unfold BB; omega)⟩
    unfold hpl at q1 q2 hbb
    omega
theorem LW.trans {σ σ' σ'' : St} (h : LW σ σ') (h' : LW σ' σ'') : LW σ σ'' := ⟨h'.1.trans h.1, h'.2.trans h.2⟩
theorem lwS (τ : St) {n : Nat} {τ' : St} (h : MU (fun i => i = 611) bR (rSt τ n) τ') : LW τ τ' := LW.trans (σ' := rSt τ n) ⟨rfl, rfl⟩ (h.LW (by decide) (by decide))
theorem op_load {c : Nat} {σ : St} (hc : c < 512) (I : Inv c σ) (v : Int32) : ∃ A σ1, pf_X10_load 0 v σ = some (A, σ1) ∧ ∀ σ2, Un oA σ1 σ2 → ∃ b σ3, pf_X11_load 609 v σ2 = some (b, σ3) ∧ Agr fS A b (gI σ3 609 0) ∧ IL c σ2 σ3 := by
  obtain ⟨hbuf, r, nxt, cnt, h1, h2, h3, h4, h5, h6, h7, h8, h9, h10⟩ := id I
  obtain ⟨fed, f1, f2, f3, f4, f5⟩ := hbuf
  unfold pf_X10_load pf_X11_load
  rw [f2]
  rcases v_cases v (n := fed + 1) (by omega) with hv | ⟨n, hn, rfl⟩
  · have nle : ¬ v < 0 → ¬ v ≤ nI fed := fun h q => by
      have h2 := hv.resolve_left h
      rw [Int32.le_iff_toInt_le, nI_toInt (by omega)] at q h2
      omega
    have cl : (if v < 0 then pf_X10_load_b12 σ else if v ≤ nI fed then bnd (sI σ 0 1 0) fun σ_1 => bnd2 (pf_X4_read (0 + 594) (0 + 1) v (0 + 61) σ_1) fun r_2 σ_2 => (pf_X4_offsetOfError (0 + 594) σ_2).bind fun r_3 => bnd (sI σ_2 0 2 r_3) fun σ_4 => if r_2 = 0 then (pf_X1_remember (0 + 120) (0 + 2) σ_4).bind fun σ_5 => (pf_X2_copyFrom (0 + 2) (0 + 61) σ_5).bind fun σ_6 => some (Sum.inr (gI σ_6 (0 + 2) 5), σ_6) else some (Sum.inr r_2, σ_4) else pf_X10_load_b12 σ) = some (Sum.inl 1, σ) := by
      by_cases q : v < 0
      · rw [if_pos q]; rfl
      · rw [if_neg q, if_neg (nle q)]; rfl
    rw [cl]
    refine ⟨_, σ, rfl, fun σ2 u => ?_⟩
    have e14 : gI (sI σ2 609 0 0) 609 14 = nI fed := by rw [gI_ns _ _ _ (by decide), u.I (by unfold oA; omega)]; exact f3
    have no : ¬ (¬ v < 0 ∧ ¬ nI fed < v) := fun q => by
      have := nle q.1
      rw [Int32.le_iff_toInt_le] at this
      have q2 := q.2
      rw [Int32.lt_iff_toInt_lt] at q2
      omega
    rw [bnd_e, e14, isIn_ok, bind_some, decide_eq_false no, right_f (gI_at _ _ _ _) (by decide), bnd2_some, i00]
    exact ⟨_, _, rfl, gI_at _ _ _ _, I.no (Un.refl _ _) u ((MU.fld _ _ (Or.inl rfl)).trans (MU.fld _ _ (Or.inl rfl)))⟩
  · have hb8 : TB8 (gI σ 1) n := fun k hk => by
      obtain ⟨x1, x2⟩ := f4 k (by omega)
      rw [x1]; exact x2
    have tx : TX (sI σ 0 1 0) (gI σ 1) n := ⟨by omega, fun k hk => by rw [gI_ne _ _ _ _ (by decide)]⟩
    have rp : ∀ τ, gI τ 618 = gI σ 618 → RP (rSt τ n) (gI σ 1) n 0 ∧ gI (rSt τ n) 609 17 = 0 ∧ gI (rSt τ n) 609 18 = -1 := fun τ e => rSt_RP (by omega) fun k hk => by rw [e]; exact (f4 k (by omega)).1.symm
    obtain ⟨rp1, rp2, rp3⟩ := rp σ rfl
    obtain ⟨σr, τ0, c0, z1, z2, z3, z4⟩ := readJ hb8 tx rp1 rp2 rp3
    rw [if_neg (nI_pos (by omega)), if_pos (nI_le (show n ≤ fed by omega) (by omega)), bnd_e, show pf_X4_read (0 + 594) (0 + 1) (nI n) (0 + 61) (sI σ 0 1 0) = _ from z1, bnd2_some, show pf_X4_offsetOfError (0 + 594) σr = some (gI σr 595 6) from rfl, bind_some, bnd_e]
    generalize hσ4 : sI σr 0 2 (gI σr 595 6) = σ4
    have LM0 : ∀ i, i ≤ 60 ∨ (120 ≤ i ∧ i < 594) ∨ 602 ≤ i → ¬ LM i := fun i hi q => by unfold LM at q; omega
    have ur : ∀ i, 0 < i → (i ≤ 60 ∨ (120 ≤ i ∧ i < 594) ∨ 602 ≤ i) → gI σ4 i = gI σ i ∧ gL σ4 i = gL σ i := fun i h0 hi => by
      rw [← hσ4]
      exact ⟨by rw [gI_nf _ _ _ (by omega), z2.I (LM0 i hi), gI_nf _ _ _ (by omega)], by
        show gL σr i = gL σ i
        rw [z2.L (LM0 i hi)]; rfl⟩
    have u01 : gI σ4 0 1 = 0 := by rw [← hσ4, gI_ns _ _ _ (by decide), z2.I (LM0 0 (by omega)), gI_at]
    have u02 : gI σ4 0 2 = gI σr 595 6 := by rw [← hσ4, gI_at]
    -- the reference up to its reading
    have start : ∀ σ2 : St, gI σ2 609 = gI σ 609 → (bnd (sI σ2 609 0 0) fun σ_1 => (pf_X11_isIn (nI n) 0 (gI σ_1 609 14) σ_1).bind fun r_2 => bnd2 (pf_X11_right 609 r_2 1 σ_1) fun r_3 σ_3 => if r_3 = 0 then some ((0 : Int32), σ_3) else bnd (sI σ_3 609 15 (nI n)) fun σ_4 => bnd (sI σ_4 609 16 0) fun σ_5 => bnd (sI σ_5 609 14 0) fun σ_6 => bnd (sI σ_6 609 17 0) fun σ_7 => bnd (sI σ_7 609 18 (-1)) fun σ_8 => bnd2 (pf_X11_readsLedger 609 σ_8) fun r_9 σ_9 => if r_9 = 0 then some (gI σ_9 609 17, σ_9) else (pf_X11_change 609 σ_9).bind fun σ_10 => pf_X11_load_L67 pf_X11_load_b91 FU 609 0 σ_10) = bnd2 (pf_X11_readsLedger 609 (rSt σ2 n)) fun r_9 σ_9 => if r_9 = 0 then some (gI σ_9 609 17, σ_9) else (pf_X11_change 609 σ_9).bind fun σ_10 => pf_X11_load_L67 pf_X11_load_b91 FU 609 0 σ_10 := fun σ2 e => by
      have e14 : gI (sI σ2 609 0 0) 609 14 = nI fed := by rw [gI_ns _ _ _ (by decide), e]; exact f3
      rw [bnd_e, e14, isIn_ok, bind_some, decide_eq_true (⟨nI_pos (by omega), nI_nlt (show n ≤ fed by omega) (by omega)⟩ : ¬ nI n < 0 ∧ ¬ nI fed < nI n), right_t (gI_at _ _ _ _), bnd2_some, i10]
      unfold rSt
      simp only [bnd_e]
    have k618 : ∀ {σ1 σ2 : St}, Un oA σ1 σ2 → gI σ1 618 = gI σ 618 → gI σ2 618 = gI σ 618 := fun u e => by rw [u.I (by unfold oA; omega)]; exact e
    have det : ∀ {σ' : St} {c' : Int32}, pf_X4_read 594 1 (nI n) 61 (sI σ 0 1 0) = some (c', σ') → c' = c0 ∧ σ' = σr := fun h => by
      rw [z1] at h
      have h2 := Option.some.inj h
      exact ⟨(congrArg Prod.fst h2).symm, (congrArg Prod.snd h2).symm⟩
    have bRn : ∀ k, k < 16 → ¬ bR k := fun k hk q => by
      have : 16 ≤ k := q.1
      omega
    rcases z4 with ⟨y1, y2, y3, y4, q0, y5⟩ | ⟨y1, y2, y3, y4⟩
    · subst y2
      have hR4 : RLd σ4 2 (RW σ r) := h8.cong h9.n0 fun i a1 a2 => ur i (by omega) (by omega)
      obtain ⟨σ5, g1, g2, g3, g4, g5⟩ := remC (nxt := nxt) (cnt := cnt) hR4 h9 h2 h3 (by rw [(ur 120 (by omega) (by omega)).1]; exact h6) (by rw [(ur 120 (by omega) (by omega)).1]; exact h7)
      have up5 : ∀ {rd : Nat → Int32} {q : Nat}, LR σr rd q → RLd σ5 61 rd ∧ VR (BB (c + 1)) rd := fun {rd q} h => by
        have v := h.VR (B := BB (c + 1)) (by unfold BB; omega)
        refine ⟨h.RLd.cong v.n0 fun i a1 a2 => ⟨?_, ?_⟩, v⟩
        · rw [g2.I (by unfold rmM; omega), ← hσ4, gI_nf _ _ _ (by omega)]
        · rw [g2.L (by unfold rmM; omega), ← hσ4]; rfl
      obtain ⟨p1, p2⟩ := up5 y5
      obtain ⟨σ6, d1, d2, d3⟩ := lcp kd2 kd61 (by omega) p2.1 p2.2.1 p2.2.2.1 p2.vn p1
      rw [if_pos rfl, show pf_X1_remember (0 + 120) (0 + 2) σ4 = _ from g1, bind_some, show pf_X2_copyFrom (0 + 2) (0 + 61) σ5 = _ from d1, bind_some]
      refine ⟨_, σ6, rfl, fun σ2 u => ?_⟩
      have c6 : ∀ i, (i = 0 ∨ 61 ≤ i) → gI σ6 i = gI σ5 i ∧ gL σ6 i = gL σ5 i := fun i hi => ⟨d2.I (fun q => by have := q.1; have := q.2; omega), d2.L (fun q => by have := q.1; have := q.2; omega)⟩
      have c5 : ∀ i, ¬ rmM nxt i → gI σ5 i = gI σ4 i ∧ gL σ5 i = gL σ4 i := fun i hi => ⟨g2.I hi, g2.L hi⟩
      have hi6 : ∀ i, 602 ≤ i → gI σ6 i = gI σ i ∧ gL σ6 i = gL σ i := fun i hi => by
        rw [(c6 i (by omega)).1, (c6 i (by omega)).2, (c5 i (by unfold rmM; omega)).1, (c5 i (by unfold rmM; omega)).2]
        exact ur i (by omega) (by omega)
      have e609 : gI σ2 609 = gI σ 609 := by rw [u.I (by unfold oA; omega)]; exact (hi6 609 (by omega)).1
      obtain ⟨w1, w2, w3⟩ := rp σ2 (k618 u (hi6 618 (by omega)).1)
      obtain ⟨σ', τ', c', x1, x2, x3, x4⟩ := readJ hb8 tx w1 w2 w3
      obtain ⟨ec, es⟩ := det x1
      subst es
      rcases x4 with ⟨v1, v2, v3, v4, q, v5⟩ | ⟨v1, v2, v3, v4⟩
      · obtain ⟨p1', p2'⟩ := up5 v5.rr
        obtain ⟨σ6', d1', d2', d3'⟩ := lcp kd2 kd61 (by omega) p2'.1 p2'.2.1 p2'.2.2.1 p2'.vn p1'
        have e6 : σ6' = σ6 := by
          rw [d1] at d1'
          exact (Option.some.inj d1').symm
        subst e6
        have fr : ∀ k, k < 14 → k ≠ 0 → gI τ' 609 k = gI σ 609 k := fun k hk hk0 => by
          rw [x3.F (bRn k (by omega))]
          unfold rSt
          rw [gI_ns _ _ _ (by omega), gI_ns _ _ _ (by omega), gI_ns _ _ _ (by omega), gI_ns _ _ _ (by omega), gI_ns _ _ _ (by omega), gI_ns _ _ _ hk0, e609]
        have f0 : gI τ' 609 0 = 0 := by
          rw [x3.F (bRn 0 (by omega))]
          unfold rSt
          rw [gI_ns _ _ _ (by omega), gI_ns _ _ _ (by omega), gI_ns _ _ _ (by omega), gI_ns _ _ _ (by omega), gI_ns _ _ _ (by omega), gI_at]
        have f14 : gI τ' 609 14 = 0 := by
          rw [x3.F (bRn 14 (by omega))]
          unfold rSt
          rw [gI_ns _ _ _ (by omega), gI_ns _ _ _ (by omega), gI_at]
        obtain ⟨τa, m1, m2, m3, m4, m5, m6⟩ := chgM h1 h3 (by rw [fr 3 (by omega) (by omega)]; exact h4) (by rw [fr 4 (by omega) (by omega)]; exact h5)
        obtain ⟨τ3, l1, l2⟩ := loadM (r := (r + 1) % 9) (τ0 := τa) (τ := τa) (by omega) m3 (Wr.q (MU.refl _ _ _)) pf_X11_load_b91
        have e611 : gI τa 611 = gI τ' 611 := m2.I (by decide) (by decide)
        have erd : (fun k => if k < 4370 then gI τa 611 k else 0) = rrw τ' := by
          funext k
          unfold rrw
          rw [e611]
        rw [erd] at l2
        have M := l2.M (by omega) m3
        rw [start σ2 e609, v1, bnd2_some, i10, m1, bind_some, l1]
        unfold pf_X11_load_b91
        rw [show pf_X11_get 609 0 τ3 = _ from get_ok (k := 0) M (by omega), bind_some]
        -- places of the class at the end
        have lo : ∀ i, i < 609 → gI τ3 i = gI σ6' i ∧ gL τ3 i = gL σ6' i := fun i hi => by
          have a : ¬ (i = 609 ∨ (qA i ∨ i = 610)) := by unfold qA; omega
          refine ⟨?_, ?_⟩
          · rw [l2.1.1.I a, m2.1.I (by omega), x3.1.I (by omega), rSt_ne _ _ (by omega), u.I (by unfold oA; omega)]
          · rw [l2.1.1.L a, m2.1.L (by omega), x3.1.L (by omega), show gL (rSt σ2 n) i = gL σ2 i from rfl, u.L (by unfold oA; omega)]
        refine ⟨_, τ3, rfl, ⟨?_, ?_⟩, ?_⟩
        · rw [l2.t, m2.F (by omega)]; exact f0
        · rw [d3'.1]
        · have qIn : ∀ k, k ≠ 9 → k ≠ 11 → gI τ3 609 k = gI τa 609 k := fun k a b => l2.1.F (by unfold qI; omega)
          refine ⟨Inv.chg2 h1 h2 h3 h9 h10 (fun i a1 a2 a3 => ?_) (d3'.cong p2'.n0 fun i a1 a2 => lo i (by omega)) ?_ ?_ ?_ p2' (l2.n.trans m3) ?_ l2.2.1 (fun q a1 a2 => ?_) ?_, lwS σ2 x3 |>.trans (m2.LW (by omega) (by omega)) |>.trans (l2.1.LW (by unfold qA; omega) (by unfold qA; omega))⟩
          · obtain ⟨o1, o2⟩ := lo i (by omega)
            rw [o1, o2, (c6 i (by omega)).1, (c6 i (by omega)).2, (c5 i (by unfold rmM; omega)).1, (c5 i (by unfold rmM; omega)).2]
            exact ur i (by omega) (by omega)
          · exact g3.cong h9.n0 fun i a1 a2 => by
              obtain ⟨o1, o2⟩ := lo i (by omega)
              rw [o1, o2]
              exact c6 i (by omega)
          · rw [(lo 120 (by omega)).1, (c6 120 (by omega)).1]; exact g4
          · rw [(lo 120 (by omega)).1, (c6 120 (by omega)).1]; exact g5
          · rw [qIn 4 (by omega) (by omega)]; exact m4
          · rw [l2.2.2 q a1 a2, m6 q a1 a2]
            exact RW_I q (by rw [x3.I (by omega) (by omega), rSt_ne _ _ (by omega), u.I (by unfold oA; omega)]; exact (hi6 610 (by omega)).1)
          · have k0 : gI τ3 0 = gI σ4 0 := by rw [(lo 0 (by omega)).1, (c6 0 (by omega)).1, (c5 0 (by unfold rmM; omega)).1]
            refine ⟨0, by omega, by rw [k0]; exact u01, by rw [qIn 14 (by omega) (by omega), m2.F (by omega)]; exact f14, fun k hk => absurd hk (Nat.not_lt_zero _), ?_⟩
            rw [k0, u02, qIn 18 (by omega) (by omega), m2.F (by omega), y3, v4]
      · exact absurd ec v2
    · rw [if_neg y2]
      refine ⟨_, σ4, rfl, fun σ2 u => ?_⟩
      have e609 : gI σ2 609 = gI σ 609 := by rw [u.I (by unfold oA; omega)]; exact (ur 609 (by omega) (by omega)).1
      obtain ⟨w1, w2, w3⟩ := rp σ2 (k618 u (ur 618 (by omega) (by omega)).1)
      obtain ⟨σ', τ', c', x1, x2, x3, x4⟩ := readJ hb8 tx w1 w2 w3
      obtain ⟨ec, es⟩ := det x1
      subst es
      rcases x4 with ⟨v1, v2, v3, v4, q, v5⟩ | ⟨v1, v2, v3, v4⟩
      · exact absurd (ec.symm.trans v2) y2
      · rw [start σ2 e609, v1, bnd2_some, i00]
        have fr : ∀ k, k < 14 → k ≠ 0 → gI τ' 609 k = gI σ 609 k := fun k hk hk0 => by
          rw [x3.F (bRn k (by omega))]
          unfold rSt
          rw [gI_ns _ _ _ (by omega), gI_ns _ _ _ (by omega), gI_ns _ _ _ (by omega), gI_ns _ _ _ (by omega), gI_ns _ _ _ (by omega), gI_ns _ _ _ hk0, e609]
        have f0 : gI τ' 609 0 = 0 := by
          rw [x3.F (bRn 0 (by omega))]
          unfold rSt
          rw [gI_ns _ _ _ (by omega), gI_ns _ _ _ (by omega), gI_ns _ _ _ (by omega), gI_ns _ _ _ (by omega), gI_ns _ _ _ (by omega), gI_at]
        have f14 : gI τ' 609 14 = 0 := by
          rw [x3.F (bRn 14 (by omega))]
          unfold rSt
          rw [gI_ns _ _ _ (by omega), gI_ns _ _ _ (by omega), gI_at]
        have lo : ∀ i, i ≠ 609 → i ≠ 611 → ¬ oA i → gI τ' i = gI σ4 i ∧ gL τ' i = gL σ4 i := fun i a1 a2 a3 => by
          refine ⟨?_, ?_⟩
          · rw [x3.1.I (by omega), rSt_ne _ _ a1, u.I a3]
          · rw [x3.1.L (by omega), show gL (rSt σ2 n) i = gL σ2 i from rfl, u.L a3]
        refine ⟨_, τ', rfl, ⟨f0, by rw [v3, ec]⟩, I.buf (fun i hi => ?_) (fun k hk => fr k (by omega) (by omega)) ⟨0, by omega, ?_, f14, fun k hk => absurd hk (Nat.not_lt_zero _), ?_⟩, lwS σ2 x3⟩
        · obtain ⟨o1, o2⟩ := lo i (by omega) (by omega) (by unfold oA; omega)
          rw [o1, o2]
          exact ur i (by omega) (by omega)
        · rw [(lo 0 (by omega) (by omega) (by unfold oA; omega)).1]; exact u01
        · rw [(lo 0 (by omega) (by omega) (by unfold oA; omega)).1, u02, v4]
