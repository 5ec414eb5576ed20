/-! LOAD: a step, both readers -/
section
variable {T : Nat → Int32} {L N : Nat}
theorem Oc.bs {σ τ : St} {cl : Option St} {ml : Option (Int32 × St)} {P : St → St → Prop} (h : Oc σ τ cl ml P) : Oc σ τ (cl.bind fun σ_9 => some σ_9) (bnd2 ml fun r_1 σ_1 => ckZ r_1 <| some (r_1, σ_1)) P := by
  obtain ⟨σ', τ', z1, z2, z3, z4⟩ := h
  refine ⟨σ', τ', by rw [z1, bind_some], z2, z3, ?_⟩
  rcases z4 with ⟨z5, z6⟩ | ⟨z5, z6⟩
  · exact Or.inl ⟨by rw [z5, bnd2_some, ckZ_1], z6⟩
  · exact Or.inr ⟨by rw [z5, bnd2_some, ckZ_0], z6⟩
/-- a step is told to be costly -/
theorem JQ.co {σ τ : St} {k q S P : Nat} {f : Int32 × Int32 × Int32} (h : JQ T L N σ τ k q S P f) (hS : S < 6) : JQ T L N (sI σ (66 + 9 * q + 5) S 1) (sI τ 611 (53 + 186 * q + 6 + 30 * S + 5) 1) k q S P f := by
  obtain ⟨c, m, r, fl, nk⟩ := h
  obtain ⟨h1, h2, h3, h4, h5, h6, h7⟩ := id r
  have eu : ∀ p, p ≠ 66 + 9 * q + 5 → gI (sI σ (66 + 9 * q + 5) S 1) p = gI σ p := fun p hp => gI_nf _ _ _ hp
  have er : ∀ j, j ≠ 53 + 186 * q + 6 + 30 * S + 5 → gI (sI τ 611 (53 + 186 * q + 6 + 30 * S + 5) 1) 611 j = gI τ 611 j := fun j hj => gI_ns _ _ _ hj
  refine ⟨c.w _ _ (by omega), m.w _ _, r.wr h2 (fun p x1 x2 => ⟨eu p (by omega), rfl⟩) (fun j x1 x2 => er j (by omega)) ⟨fun s hs => ?_, fun s hs => (h4.2 s hs).cg (by rw [eu _ (by omega)]) (by rw [eu _ (by omega)]) (er _ (by omega)) (er _ (by omega))⟩ ?_ (by rw [gI_ne _ _ _ _ (by decide)]; exact h6), ?_, by rw [er 4 (by omega)]; exact nk⟩
  · by_cases es : s = S
    · subst es
      obtain ⟨p1, p2, p3, p4, p5, p6, p7, p8, p9⟩ := h4.1 s hs
      unfold PS
      rw [eu (66 + 9 * q + 3) (by omega), gI_at, eu (66 + 9 * q + 4) (by omega), er _ (by omega), er _ (by omega), gI_at, er _ (by omega)]
      refine ⟨p1, p2, p3, p4, p5, p6, rfl, Is.of (n := 1) (by omega) (by omega), fun t' ht' i' hi' => ?_⟩
      rw [er _ (by omega), eu _ (by omega)]; exact p9 t' ht' i' hi'
    · refine (h4.1 s hs).cg (fun p j x1 x2 x3 x4 => ?_) (fun j x1 x2 => er j (by omega))
      by_cases e2 : p = 66 + 9 * q + 5
      · subst e2
        rw [gI_ns _ _ _ (by omega)]
      · rw [eu p e2]
  · unfold HQ
    rw [eu _ (by omega), er _ (by omega), er _ (by omega), er _ (by omega)]
    exact h5
  · exact fl.tk (M := fun p => p = 66 + 9 * q + 5) (A := fun p => p = 611) (B := fun _ => False) (Un.sI _ _ rfl) (by omega) (MU.arr (p := 611) _ _ rfl (by decide)) ⟨fun q => q, fun q => q, fun q => q⟩
theorem JQ.m {σ τ τ' : St} {k q S P : Nat} {f : Int32 × Int32 × Int32} (h : JQ T L N σ τ k q S P f) (m : MP τ' T L k) (w : MU noA bL τ τ') : JQ T L N σ τ' k q S P f := h.tk h.1 m (Nat.le_refl _) (Un.refl _ _) w
theorem mtk {i w : Nat} (hw : wdP i w = true) {τ : St} {k : Nat} (h : MP τ T L k) (c : tkd T L k = i) : ∃ τ', pf_X11_takes 609 w τ = some (1, τ') ∧ MU noA bL τ τ' ∧ MP τ' T L (k + 1) := by
  obtain ⟨τ', g1, g2, g3, g4⟩ := mtakes hw h
  rw [if_pos c] at g3
  exact ⟨τ', by rw [g1, decide_eq_true c]; rfl, g2, g3⟩
theorem mtn {i w : Nat} (hw : wdP i w = true) {τ : St} {k : Nat} (h : MP τ T L k) (c : tkd T L k ≠ i) : ∃ τ', pf_X11_takes 609 w τ = some (0, τ') ∧ MU noA bL τ τ' ∧ MP τ' T L k ∧ gI τ' 609 16 = nI (tst T L k) := by
  obtain ⟨τ', g1, g2, g3, g4⟩ := mtakes hw h
  rw [if_neg c] at g3
  exact ⟨τ', by rw [g1, decide_eq_false c]; rfl, g2, g3, g4 c⟩
theorem tk_y {σ : St} {k : Nat} (h : CP σ T L N k) {i : Nat} (c : tkd T L k = i) : pf_X6_take 595 (some i) σ = some (1, sI σ 595 4 (nI (k + 1))) := by
  rw [take_ok h, if_pos c, decide_eq_true c]; rfl
theorem tk_n {σ : St} {k : Nat} (h : CP σ T L N k) {i : Nat} (c : tkd T L k ≠ i) : pf_X6_take 595 (some i) σ = some (0, σ) := by
  rw [take_ok h, if_neg c, decide_eq_false c]; rfl
theorem wd5 : wdP 11 38 = true ∧ wdP 12 39 = true ∧ wdP 13 40 = true ∧ wdP 14 41 = true ∧ wdP 15 42 = true := by decide +kernel
theorem partJ (hb : TB8 T L) {q S P : Nat} {f : Int32 × Int32 × Int32} (hS : S < 6) {σ τ : St} {k : Nat} (J : JQ T L N σ τ k q S P f) (hk : 11 ≤ tkd T L k ∧ tkd T L k ≤ 15) : Oc σ τ (pf_X4_readPart 594 (66 + 9 * q) (nI S) σ) (pf_X11_readsPart 609 (nI (53 + 186 * q + 6 + 30 * S)) τ) (fun σ' τ' => ∃ k', k < k' ∧ JQ T L N σ' τ' k' q S P f) := by
  obtain ⟨j1, j2, j3, j4, j5⟩ := id J
  have n8 := j1.N8
  have hq := j3.1
  have k1 := j1.k1 (by omega)
  have c1 := j1.next k1
  obtain ⟨w1, w2, w3, w4, w5⟩ := wd5
  have u1 : Un LM σ (sI σ 595 4 (nI (k + 1))) := LM.s 4 _ (by unfold LM; omega)
  unfold pf_X4_readPart pf_X11_readsPart
  rw [show 594 + 1 = 595 from rfl, start_ok j1, bind_some]
  by_cases t1 : tkd T L k = 11
  · obtain ⟨τ1, a1, a2, a3⟩ := mtk w1 j2 t1
    rw [tk_y j1 t1, bnd2_some, i10, a1, bnd2_some, i10, show (6 : Int32) = nI 6 from rfl, nI_add]
    have h := (amountsJ hb (t := 0) hS (by omega) N FU FU _ _ (k + 1) 0 (by omega) (lt_FU (by omega)) (lt_FU (by omega)) (J.tk c1 a3 (by omega) (Un.sI _ _ rfl) a2) (by omega) (Or.inl rfl)).bs
    exact h.sh u1 a2.bR (fun σ' τ' ⟨k', y1, y2⟩ => ⟨k', by omega, y2⟩)
  obtain ⟨τ1, a1, a2, a3, a4⟩ := mtn w1 j2 t1
  rw [tk_n j1 t1, bnd2_some, i00, a1, bnd2_some, i00]
  by_cases t2 : tkd T L k = 12
  · obtain ⟨τ2, b1, b2, b3⟩ := mtk w2 a3 t2
    have m2 := a2.trans b2
    rw [tk_y j1 t2, bnd2_some, i10, b1, bnd2_some, i10, show (14 : Int32) = nI 14 from rfl, nI_add]
    have h := (amountsJ hb (t := 1) hS (by omega) N FU FU _ _ (k + 1) 0 (by omega) (lt_FU (by omega)) (lt_FU (by omega)) (J.tk c1 b3 (by omega) (Un.sI _ _ rfl) m2) (by omega) (Or.inl rfl)).bs
    exact h.sh u1 m2.bR (fun σ' τ' ⟨k', y1, y2⟩ => ⟨k', by omega, y2⟩)
  obtain ⟨τ2, b1, b2, b3, b4⟩ := mtn w2 a3 t2
  rw [tk_n j1 t2, bnd2_some, i00, b1, bnd2_some, i00]
  by_cases t3 : tkd T L k = 13
  · obtain ⟨τ3, d1, d2, d3⟩ := mtk w3 b3 t3
    have m2 := a2.trans (b2.trans d2)
    rw [tk_y j1 t3, bnd2_some, i10, d1, bnd2_some, i10, show (22 : Int32) = nI 22 from rfl, nI_add]
    have h := (amountsJ hb (t := 2) hS (by omega) N FU FU _ _ (k + 1) 0 (by omega) (lt_FU (by omega)) (lt_FU (by omega)) (J.tk c1 d3 (by omega) (Un.sI _ _ rfl) m2) (by omega) (Or.inl rfl)).bs
    exact h.sh u1 m2.bR (fun σ' τ' ⟨k', y1, y2⟩ => ⟨k', by omega, y2⟩)
  obtain ⟨τ3, d1, d2, d3, d4⟩ := mtn w3 b3 t3
  rw [tk_n j1 t3, bnd2_some, i00, d1, bnd2_some, i00]
  by_cases t4 : tkd T L k = 14
  · obtain ⟨τ4, e1, e2, e3⟩ := mtk w4 d3 t4
    have m2 := a2.trans (b2.trans (d2.trans e2))
    rw [tk_y j1 t4, bnd2_some, i10, e1, bnd2_some, i10]
    have h := (afterJ hb hS N FU FU _ _ (k + 1) 0 (by omega) (lt_FU (by omega)) (lt_FU (by omega)) (J.tk c1 e3 (by omega) (Un.sI _ _ rfl) m2) (by omega) (Or.inl rfl)).bs
    exact h.sh u1 m2.bR (fun σ' τ' ⟨k', y1, y2⟩ => ⟨k', by omega, y2⟩)
  obtain ⟨τ4, e1, e2, e3, e4⟩ := mtn w4 d3 t4
  have t5 : tkd T L k = 15 := by omega
  obtain ⟨τ5, g1, g2, g3⟩ := mtk w5 e3 t5
  have m5 := a2.trans (b2.trans (d2.trans (e2.trans g2)))
  have r5 : gI τ5 611 = gI τ 611 := m5.I (by decide) (fun q => q)
  obtain ⟨_, _, _, _, _, _, x1, x2, _⟩ := j3.2.2.2.1.1 S hS
  obtain ⟨x, ex, hx, _⟩ := x2.get
  have al : alen (66 + 9 * q + 5) = 6 := af_X3_costly (kd66 q hq)
  have ck : ∀ {α : Type} (y : Option α), ckI (nI (53 + 186 * q + 6 + 30 * S + 5)) (alen (609 + 2)) y = y := fun y => ckA (show alen (609 + 2) = 4370 from al611) (by omega)
  have J5 := J.tk c1 g3 (by omega) (Un.sI _ _ rfl) m5
  rw [tk_n j1 t4, bnd2_some, i00, e1, bnd2_some, i00, e4, bnd_e, g1, bnd2_some, i10, expect_ok j1, if_pos t5, bind_some, at_ok al hS, bind_some, gI_ne _ _ _ _ (by omega), x1, ex, show (5 : Int32) = nI 5 from rfl, nI_add, ck, nI_clamp (by omega), show gI τ5 (609 + 2) (53 + 186 * q + 6 + 30 * S + 5) = nI x by rw [show 609 + 2 = 611 from rfl, r5, ex]]
  by_cases c : x = 1
  · obtain ⟨f1, f2, f3⟩ := mfails g3.2.1 (c := -2) (by decide) (tst T L k)
    have ce : CE (erS (sI σ 595 4 (nI (k + 1))) (-2) (tst T L k)) (-2) (tst T L k) := erS_CE _ (by decide) _
    rw [if_pos (by rw [c]; rfl), if_pos (by rw [c]; rfl), fail_ok c1, bind_some]
    unfold pf_X4_readPart_b140 pf_X11_readsPart_b100
    obtain ⟨σ', p1, p2, p3⟩ := ce.put (p := 66 + 9 * q + 5) (by unfold LM; omega) (by omega) (nI S) 1
    rw [p1, bind_some, f1, bnd2_some, ckZ_0]
    exact Oc.bad (Q.id p2) rfl f2 (u1.trans ((LM.r (erS_un _ _ _)).trans p3)) (m5.bR.trans f3.bR)
  · rw [if_neg (show ¬ nI x = (1 : Int32) from fun e => c ((nI_eq (b := 1) (by omega) (by omega)).mp e)), if_neg (show ¬ nI x = (1 : Int32) from fun e => c ((nI_eq (b := 1) (by omega) (by omega)).mp e)), ck, bnd_e]
    unfold pf_X4_readPart_b140
    rw [put_ok al hS, bind_some]
    exact ⟨_, _, rfl, u1.trans (LM.s _ _ (by unfold LM; omega)), m5.bR.trans (MU.arr (p := 611) _ _ rfl (by decide)), Or.inl ⟨rfl, k + 1, by omega, J5.co hS⟩⟩
theorem beg_ok (t : Nat) (σ : St) : pf_X5_beginsPart t σ = some (if 11 ≤ t ∧ t ≤ 15 then 1 else 0) := by
  unfold pf_X5_beginsPart
  simp only [Option.some.injEq]
  repeat' split
  all_goals first | rfl | omega
theorem wd_let {i w k : Nat} (hw : wdP i w = true) (hL : tst T L k ≤ L) (c : tkd T L k = i) : tst T L k < L ∧ ck (T (tst T L k)) = 2 := by
  have e := (word_iff hw hL).mp c
  have h2 : 2 ≤ stL.getD w 0 := by
    unfold wdP at hw
    simp only [Bool.and_eq_true, decide_eq_true_eq] at hw
    rw [← hw.2]
    exact (wd_ck i (by omega) hw.1.1.1).1
  have h1 := (isW_iff.mp e).1
  exact (ru_spec (T := T) (L := L) 2 (tst T L k)).2.1 (tst T L k) (Nat.le_refl _) (by omega)
/-- a step is read -/
theorem JQ.st {σ τ : St} {k q S : Nat} {f : Int32 × Int32 × Int32} (h : JQ T L N σ τ k q S (S + 1) f) (hS : S < 6) : QR (sI σ (66 + 9 * q) 0 (nI (S + 1))) (sI τ 609 22 (nI (S + 1))) q (S + 1) (S + 1) := by
  obtain ⟨c, m, r, fl, nk⟩ := h
  obtain ⟨h1, h2, h3, h4, h5, h6, h7⟩ := id r
  have eu : ∀ p, p ≠ 66 + 9 * q → gI (sI σ (66 + 9 * q) 0 (nI (S + 1))) p = gI σ p := fun p hp => gI_nf _ _ _ hp
  have er : gI (sI τ 609 22 (nI (S + 1))) 611 = gI τ 611 := gI_nf _ _ _ (by decide)
  refine r.wr (by omega) (fun p x1 x2 => ⟨eu p (by omega), rfl⟩) (fun j x1 x2 => by rw [er]) ?_ ?_ (gI_at _ _ _ _)
  · rw [er]
    exact ⟨fun s hs => (h4.1 s hs).cg (fun p j x1 x2 x3 x4 => by rw [eu p (by omega)]) (fun _ _ _ => rfl), fun s hs => (h4.2 s hs).cg (by rw [eu _ (by omega)]) (by rw [eu _ (by omega)]) rfl rfl⟩
  · rw [er]
    obtain ⟨p1, p2, p3, p4, p5, p6, p7, p8⟩ := h5
    unfold HQ
    rw [gI_at, gI_ns _ _ _ (by decide), gI_ns _ _ _ (by decide), gI_ns _ _ _ (by decide), gI_ns _ _ _ (by decide)]
    exact ⟨rfl, p2, p3, p4, p5, p6, p7, p8⟩
theorem stepbJ {q S : Nat} {f : Int32 × Int32 × Int32} (hS : S < 6) {σ τ : St} {k : Nat} (J : JQ T L N σ τ k q S (S + 1) f) : Oc σ τ (pf_X4_readStep_b108 594 (66 + 9 * q) σ) (pf_X11_readsStep_b98 609 τ) (fun σ' τ' => ∃ k', k < k' ∧ JQ T L N σ' τ' k' q (S + 1) (S + 1) f) := by
  obtain ⟨j1, j2, j3, j4, j5⟩ := id J
  have hq := j3.1
  have h0 := j3.2.2.2.2.1.1
  have h22 := j3.2.2.2.2.2.1
  have m1 : MP (sI τ 609 22 (nI (S + 1))) T L k := by
    obtain ⟨⟨p, h1, h2⟩, h3, h4⟩ := j2
    exact ⟨⟨p, ⟨h1.1, h1.2.1, by rw [gI_ns _ _ _ (by decide)]; exact h1.2.2.1, by rw [gI_ns _ _ _ (by decide)]; exact h1.2.2.2.1, fun j hj => by rw [gI_ne _ _ _ _ (by decide)]; exact h1.2.2.2.2 j hj⟩, h2⟩, by rw [gI_ns _ _ _ (by decide)]; exact h3, by rw [gI_ns _ _ _ (by decide)]; exact h4⟩
  have w1 : MU (fun i => i = 611) bR τ (sI τ 609 22 (nI (S + 1))) := MU.fld _ _ (show 16 ≤ 22 ∧ 22 ≤ 25 by omega)
  obtain ⟨τ2, g1, g2, g3, g4⟩ := msign (i := 24) (c := 59) (by omega) (by omega) rfl (by decide) m1
  unfold pf_X4_readStep_b108 pf_X11_readsStep_b98
  rw [show 594 + 1 = 595 from rfl, expect_ok j1, bind_some, bnd_e, h22, nI_1, bnd_e, g1, bnd2_some, ckZ_b]
  by_cases c : tkd T L k = 24
  · have k1 := j1.k1 (by omega)
    rw [if_pos c, decide_eq_true c, gI_ne _ _ _ _ (by omega), h0, nI_1]
    have qr := J.st hS
    refine ⟨_, τ2, rfl, (LM.s 4 _ (by unfold LM; omega)).trans (LM.s _ _ (by unfold LM; omega)), w1.trans g2.bR, Or.inl ⟨rfl, k + 1, by omega, (j1.next k1).w _ _ (by omega), g3 c, ?_, ?_, ?_⟩⟩
    · have e : ∀ (s : St), Un (fun i => i = 595) (sI s (66 + 9 * q) 0 (nI (S + 1))) (sI (sI s 595 4 (nI (k + 1))) (66 + 9 * q) 0 (nI (S + 1))) := fun s i hi => ⟨by
        funext b
        by_cases x : i = 66 + 9 * q
        · subst x
          by_cases y : b = 0
          · subst y; rw [gI_at, gI_at]
          · rw [gI_ns _ _ _ y, gI_ns _ _ _ y, gI_ne _ _ _ _ hi]
        · rw [gI_ne _ _ _ _ x, gI_ne _ _ _ _ x, gI_ne _ _ _ _ hi], rfl, rfl, rfl⟩
      exact qr.tk (e σ) g2
    · exact j4.tk (M := fun i => i = 595 ∨ i = 66 + 9 * q) (A := fun i => i = 611) (B := fun k => 16 ≤ k ∧ k ≤ 22) (Un.trans (Un.sI _ _ (Or.inl rfl)) (Un.sI _ _ (Or.inr rfl))) (by omega) (MU.trans (MU.fld _ _ (by omega)) (g2.mono (fun _ q => q.elim) (fun k q => by unfold bL at q; omega))) ⟨by omega, by omega, by omega⟩
    · rw [g2.I (by decide) (fun q => q), gI_ne _ _ _ _ (by decide)]; omega
  · have ce : CE (erS σ (-2) (tst T L k)) (-2) (tst T L k) := erS_CE _ (by decide) _
    rw [if_neg c, decide_eq_false c]
    exact Oc.bad ⟨_, rfl, ce.un (M := fun i => i = 66 + 9 * q) (Un.sI _ _ rfl) (by omega), LM.s _ _ (by unfold LM; omega)⟩ rfl (g4 c) (LM.r (erS_un _ _ _)) (w1.trans g2.bR)
theorem stepLJ (hb : TB8 T L) {q S : Nat} {f : Int32 × Int32 × Int32} (hS : S < 6) : ∀ m fc fm σ τ k j, N - k ≤ m → m < fc → m < fm → JQ T L N σ τ k q S (S + 1) f → j ≤ k → Oc σ τ (pf_X4_readStep_L76 pf_X4_readStep_b108 fc 594 (66 + 9 * q) (nI S) (nI j) σ) (pf_X11_readsStep_L78 pf_X11_readsStep_b98 fm 609 (nI (53 + 186 * q + 6 + 30 * S)) τ) (fun σ' τ' => ∃ k', k < k' ∧ JQ T L N σ' τ' k' q (S + 1) (S + 1) f) := by
  intro m
  induction m using Nat.strongRecOn with
  | ind m ih =>
  intro fc fm σ τ k j h1 h2 h3 J hj
  obtain ⟨fc, rfl⟩ : ∃ x, fc = x + 1 := ⟨fc - 1, by omega⟩
  obtain ⟨fm, rfl⟩ : ∃ x, fm = x + 1 := ⟨fm - 1, by omega⟩
  obtain ⟨j1, j2, j3, j4, j5⟩ := id J
  have n8 := j1.N8
  have hkN := j1.2.1
  have hq := j3.1
  have hL := j1.le
  obtain ⟨w1, w2, w3, w4, w5⟩ := wd5
  obtain ⟨τ1, a1, a2, a3, a4, a5⟩ := mhere j2
  have J1 := J.m a3 a2
  have ht := tkd_lt (T := T) (L := L) k
  rw [pf_X4_readStep_L76, pf_X11_readsStep_L78, a1, bnd2_some, isL_ok, bind_some, if_b2]
  by_cases cp : 11 ≤ tkd T L k ∧ tkd T L k ≤ 15
  · have k1 := j1.k1 (by omega)
    have lt : tst T L k < L ∧ ck (T (tst T L k)) = 2 := by
      rcases (by omega : tkd T L k = 11 ∨ tkd T L k = 12 ∨ tkd T L k = 13 ∨ tkd T L k = 14 ∨ tkd T L k = 15) with c | c | c | c | c
      · exact wd_let w1 hL c
      · exact wd_let w2 hL c
      · exact wd_let w3 hL c
      · exact wd_let w4 hL c
      · exact wd_let w5 hL c
    rw [show (800 : Int32) = nI 800 from rfl, if_neg (nI_ge (show j < 800 by omega) (by omega)), show 594 + 1 = 595 from rfl, ahead_ok j1, bind_some, ckT_some ht, beg_ok, bind_some, if_pos cp, i10, if_pos lt.1, decide_eq_true lt.2, if_pos rfl]
    obtain ⟨σ2, τ2, z1, z2, z3, z4⟩ := partJ hb hS J1 cp
    rw [z1, bind_some, nI_1, bnd_e]
    rcases z4 with ⟨z5, k', z6, z7⟩ | ⟨z5, c, o, z6, z7⟩
    · rw [z5, bnd2_some, i10]
      refine (ih (m - 1) (by omega) fc fm σ2 τ2 k' (j + 1) (by omega) (by omega) (by omega) z7 (by omega)).sh z2 (a2.bR.trans z3) ?_
      rintro σ' τ' ⟨k2, y1, y2⟩
      exact ⟨k2, by omega, y2⟩
    · obtain ⟨fc, rfl⟩ : ∃ x, fc = x + 1 := ⟨fc - 1, by omega⟩
      rw [z5, bnd2_some, i00]
      exact Oc.bad (stepL_e (by unfold LM; omega) (by omega) (nI S) fc (j + 1) z6) rfl z7 z2 (a2.bR.trans z3)
  · have cl : (if (800 : Int32) ≤ nI j then pf_X4_readStep_b108 594 (66 + 9 * q) σ else (pf_X6_ahead (594 + 1) σ).bind fun r_1 => ckT r_1 fun t2 => (pf_X5_beginsPart t2 σ).bind fun r_3 => if r_3 = 0 then pf_X4_readStep_b108 594 (66 + 9 * q) σ else (pf_X4_readPart 594 (66 + 9 * q) (nI S) σ).bind fun σ_4 => bnd (nI j + 1) fun v3_5 => pf_X4_readStep_L76 pf_X4_readStep_b108 fc 594 (66 + 9 * q) (nI S) v3_5 σ_4) = pf_X4_readStep_b108 594 (66 + 9 * q) σ := by
      by_cases q8 : (800 : Int32) ≤ nI j
      · rw [if_pos q8]
      · rw [if_neg q8, show 594 + 1 = 595 from rfl, ahead_ok j1, bind_some, ckT_some ht, beg_ok, bind_some, if_neg cp, i00]
    rw [cl]
    by_cases lt : tst T L k < L ∧ ck (T (tst T L k)) = 2
    · rw [if_pos lt.1, decide_eq_true lt.2, if_pos rfl]
      obtain ⟨τ2, b1, b2, b3, b4⟩ := mtn w1 a3 (show tkd T L k ≠ 11 by omega)
      obtain ⟨τ3, c1, c2, c3, c4⟩ := mtn w2 b3 (show tkd T L k ≠ 12 by omega)
      obtain ⟨τ4, d1, d2, d3, d4⟩ := mtn w3 c3 (show tkd T L k ≠ 13 by omega)
      obtain ⟨τ5, e1, e2, e3, e4⟩ := mtn w4 d3 (show tkd T L k ≠ 14 by omega)
      obtain ⟨τ6, f1, f2, f3, f4⟩ := mtn w5 e3 (show tkd T L k ≠ 15 by omega)
      obtain ⟨g1, g2, g3⟩ := mfails f3.2.1 (c := -2) (by decide) (tst T L k)
      have c24 : tkd T L k ≠ 24 := fun c => by
        have := ((sign_iff (T := T) (k := k) (i := 24) (c := 59) (by omega) (by omega) rfl hL).mp c).2
        have h2 := lt.2
        rw [this] at h2
        exact absurd h2 (by decide)
      unfold pf_X11_readsPart pf_X11_readsPart_b100
      rw [b1, bnd2_some, i00, c1, bnd2_some, i00, d1, bnd2_some, i00, e1, bnd2_some, i00, e4, bnd_e, f1, bnd2_some, i00, g1, bnd2_some, ckZ_0, bnd2_some, i00]
      unfold pf_X4_readStep_b108
      rw [show 594 + 1 = 595 from rfl, expect_ok j1, if_neg c24, bind_some, bnd_e]
      have ce : CE (erS σ (-2) (tst T L k)) (-2) (tst T L k) := erS_CE _ (by decide) _
      exact Oc.bad ⟨_, rfl, ce.un (M := fun i => i = 66 + 9 * q) (Un.sI _ _ rfl) (by omega), LM.s _ _ (by unfold LM; omega)⟩ rfl g2 (LM.r (erS_un _ _ _)) ((a2.trans (b2.trans (c2.trans (d2.trans (e2.trans (f2.trans g3)))))).bR)
    · have nl : ¬ ck (if tst T L k < L then T (tst T L k) else (-1 : Int32)) = 2 := by
        by_cases y : tst T L k < L
        · rw [if_pos y]; exact fun e => lt ⟨y, e⟩
        · rw [if_neg y]; decide
      rw [decide_eq_false nl, if_neg Bool.false_ne_true]
      exact (stepbJ hS J1).sh (Un.refl _ _) a2.bR (fun _ _ h => h)
end
