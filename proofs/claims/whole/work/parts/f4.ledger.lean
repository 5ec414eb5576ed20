/-! LOAD: the worth; the ledger as a whole; both readers -/
theorem LR.wo {σ σ' : St} {rd rd' : Nat → Int32} {q : Nat} (h : LR σ rd q) (hu : ∀ i, 62 ≤ i → i < 66 + 9 * q → i ≠ 65 → gI σ' i = gI σ i ∧ gL σ' i = gL σ i) (h61 : ∀ k, k ≠ 7 → gI σ' 61 k = gI σ 61 k) (hr : ∀ j, j ≠ 3 → ¬ (1169 ≤ j ∧ j < 2769) → (j < 53 + 186 * q ∨ (2769 ≤ j ∧ j < 2769 + 2 * Nn (rd 4))) → rd' j = rd j) (w1 : RW1 σ' 61 rd') (w2 : Is (rd' 3) 800) (w3 : VWo rd') (w4 : gI σ' 594 5 = 0 → rd' 3 = 0) : LR σ' rd' q := by
  obtain ⟨a1, a2, a3, a4, a5, a6, a7, a8, a9, a10, a11, a12, a13⟩ := h
  have r4 : rd' 4 = rd 4 := hr 4 (by omega) (by omega) (by omega)
  have e62 : gI σ' 62 = gI σ 62 := (hu 62 (by omega) (by omega) (by omega)).1
  exact ⟨a1, by rw [h61 5 (by omega)]; exact a2, by rw [hr 0 (by omega) (by omega) (by omega)]; exact a3, by rw [h61 2 (by omega)]; exact a4, by rw [hr 2 (by omega) (by omega) (by omega)]; exact a5, by rw [h61 3 (by omega), hr 1 (by omega) (by omega) (by omega)]; exact a6, fun i hi => by rw [e62, hr (5 + i) (by omega) (by omega) (by omega)]; exact a7 i hi, by rw [r4]; exact a8, fun q' hq' => (a9 q' hq').cg (fun i x1 x2 => hu i (by omega) (by omega) (by omega)) (fun k x1 x2 => hr k (by omega) (by omega) (by omega)) (fun k x1 x2 => hr k (by omega) (by omega) (by omega)) (by rw [r4]; exact Nat.le_refl _), w1, w2, w3, w4⟩
section
variable {T : Nat → Int32} {L N : Nat}
noncomputable def wrthM (τ : St) : Option (Int32 × St) := bnd (sI τ 609 24 1) fun σ_3 => bnd (sI σ_3 609 21 0) fun σ_4 => bnd2 (pf_X11_readsSum 8 609 σ_4) fun r_5 σ_5 => ckZ (r_5) <| some (r_5, σ_5)
theorem wrthJ (hb : TB8 T L) {q : Nat} {f : Int32 × Int32 × Int32} {σ τ0 τ : St} {k : Nat} (J : LZ T L N σ τ0 k q f) (hf : F8 f) (hw : f.2.2 = 0) (u0 : MU noA bL τ0 τ) (m : MP τ T L (k + 1)) (hk : tkd T L k = 7) : Oc σ τ0 (pf_X4_readWorth 594 61 σ) (wsg (wrthM τ)) (Pst T L N k) := by
  obtain ⟨j1, j2, j3, j4, j5, j6⟩ := id J
  have n8 := j1.N8
  have k1 := j1.k1 (by omega)
  have r0 : gI τ 611 = gI τ0 611 := u0.I (by decide) (fun q => q)
  have row3 : gI τ0 611 3 = 0 := j3.2.2.2.2.2.2.2.2.2.2.2.2 (by rw [j4.2.2.2.2.1, hw])
  unfold pf_X4_readWorth wrthM
  rw [show 594 + 1 = 595 from rfl, show 594 + 7 = 601 from rfl, skip_ok j1, bind_some, bnd_e, bnd_e, bnd_e]
  have l1 : Un LM σ (sI (sI σ 595 4 (nI (k + 1))) 61 7 0) := (LM.s 4 _ (by unfold LM; omega)).trans (LM.s _ _ (by unfold LM; omega))
  have w1 : MU (fun i => i = 611) bR τ0 (sI (sI τ 609 24 1) 609 21 0) := u0.bR.trans (MU.trans (MU.fld _ _ (show 16 ≤ 24 ∧ 24 ≤ 25 by omega)) (MU.fld _ _ (show 16 ≤ 21 ∧ 21 ≤ 25 by omega)))
  have J1 : JS T L N (sI (sI σ 595 4 (nI (k + 1))) 61 7 0) (sI (sI τ 609 24 1) 609 21 0) (k + 1) 0 0 := ⟨(j1.next k1).w _ _ (by omega), (m.f 1 (by omega)).f 0 (by omega), ⟨gI_at _ _ _ _, by rw [gI_ne _ _ _ _ (by decide), gI_ne _ _ _ _ (by decide), r0]; exact row3, fun j hj => absurd hj (Nat.not_lt_zero _)⟩, Nat.zero_le _, gI_at _ _ _ _⟩
  obtain ⟨σ2, τ2, a1, a2, a3, a4⟩ := sumOJ hb 4 0 rfl 8 8 (by omega) (by omega) _ _ _ _ 0 J1 (by omega)
  rw [show pf_X9_readSum 8 601 595 61 0 (sI (sI σ 595 4 (nI (k + 1))) 61 7 0) = _ from a1, bind_some]
  have l2 : Un LM σ σ2 := l1.trans (a2.1.mono fun i hi => by unfold LM; omega)
  have w2 : MU (fun i => i = 611) bR τ0 τ2 := w1.trans (a3.1.mono (fun _ q => q) (fun k q => by unfold bS at q; show 16 ≤ k ∧ k ≤ 25; omega))
  rcases a4 with ⟨s1, k', n', s2, s3, s4, s5, s6, s7⟩ | ⟨s1, c, o, s2, s3⟩
  · obtain ⟨c1, c2, c3, c4, c5⟩ := id s4
    have hk' := c1.2.1
    obtain ⟨τ3, t1, t2, t3, t4⟩ := msign (i := 24) (c := 59) (by omega) (by omega) rfl (by decide) c2
    unfold wsg
    rw [expect_ok c1, bind_some, bnd_e, s1, bnd2_some, ckZ_1, bnd2_some, i10, t1]
    by_cases c24 : tkd T L k' = 24
    · have k2 := c1.k1 (by omega)
      rw [if_pos c24, decide_eq_true c24]
      have n0 : 0 < n' := by
        rcases Nat.eq_zero_or_pos n' with x | x
        · subst x
          rw [hW] at s5
          cases s5
        · exact x
      have r3 : gI τ3 611 = gI τ2 611 := t2.I (by decide) (fun q => q)
      have rr : ∀ j, j ≠ 3 → ¬ (1169 ≤ j ∧ j < 2769) → gI τ3 611 j = gI τ0 611 j := fun j y1 y2 => by
        rw [r3, a3.2 j (by omega), gI_ne _ _ _ _ (by decide), gI_ne _ _ _ _ (by decide), r0]
      have e3 : gI τ3 611 3 = nI n' := by rw [r3]; exact c3.2.1
      have N3 : Nn (gI τ3 611 3) = n' := by rw [e3, Nn_nI (by omega)]
      generalize hσ3 : sI (sI σ2 595 4 (nI (k' + 1))) 594 5 1 = σ3
      have us : ∀ p, p ≠ 61 → p ≠ 65 → p ≠ 594 → p ≠ 595 → gI σ3 p = gI σ p := fun p y1 y2 y3 y4 => by
        rw [← hσ3, gI_nf _ _ _ y3, gI_nf _ _ _ y4, a2.1.I (by omega), gI_nf _ _ _ y1, gI_nf _ _ _ y4]
      have ul : ∀ p, p ≠ 61 → p ≠ 65 → p ≠ 595 → gL σ3 p = gL σ p := fun p y1 y2 y4 => by
        rw [← hσ3, show gL (sI (sI σ2 595 4 (nI (k' + 1))) 594 5 1) p = gL σ2 p from rfl, a2.1.L (by omega)]
        rfl
      have u2 : ∀ p, p ≠ 594 → p ≠ 595 → gI σ3 p = gI σ2 p := fun p y1 y2 => by
        rw [← hσ3, gI_nf _ _ _ y1, gI_nf _ _ _ y2]
      have u61 : ∀ j, j ≠ 7 → gI σ3 61 j = gI σ 61 j := fun j y => by
        rw [u2 61 (by omega) (by omega), a2.2 j y, gI_ns _ _ _ y, gI_ne _ _ _ _ (by omega)]
      have u594 : ∀ j, j ≠ 5 → gI σ3 594 j = gI σ 594 j := fun j y => by
        rw [← hσ3, gI_ns _ _ _ y, gI_ne _ _ _ _ (by omega), a2.1.I (by omega), gI_ne _ _ _ _ (by omega), gI_ne _ _ _ _ (by omega)]
      have u5 : gI σ3 594 5 = 1 := by rw [← hσ3, gI_at]
      have q6 := j3.1
      have wd : ∀ j, j < n' → gI σ3 65 j = encW (gI τ3 611 (1169 + 2 * j)) (gI τ3 611 (1169 + 2 * j + 1)) ∧ VWc (gI τ3 611) j := fun j hj => by
        rw [u2 65 (by omega) (by omega), r3]
        exact c3.2.2 j hj
      have lr : LR σ3 (gI τ3 611) q := j3.wo (fun p y1 y2 y3 => ⟨us p (by omega) (by omega) (by omega) (by omega), ul p (by omega) (by omega) (by omega)⟩) u61 (fun j y1 y2 _ => rr j y1 y2) (by
        unfold RW1
        rw [N3, if_neg (by omega), u2 61 (by omega) (by omega), e3]
        exact ⟨c3.1, fun j hj => (wd j hj).1⟩) (by rw [e3]; exact Is.of (by omega) (by omega)) (by
        unfold VWo
        rw [N3]
        refine ⟨fun j hj => (wd j hj).2, fun _ => ?_⟩
        have := s5
        rw [Nat.sub_zero] at this
        rw [r3]; exact this) (fun e => by rw [u5] at e; exact absurd e (by decide))
      have ff : ∀ j, 22 ≤ j → j ≠ 24 → gI τ3 609 j = gI τ0 609 j := fun j y1 y2 => by
        rw [t2.F (by unfold bL; omega), a3.1.F (by unfold bS; omega), gI_ns _ _ _ (by omega), gI_ns _ _ _ y2, u0.F (by unfold bL; omega)]
      have f24 : gI τ3 609 24 = 1 := by
        rw [t2.F (by unfold bL; omega), a3.1.F (by unfold bS; omega), gI_ns _ _ _ (by omega), gI_at]
      refine ⟨σ3, τ3, rfl, ?_, w2.trans t2.bR, Or.inl ⟨rfl, k' + 1, q, (f.1, f.2.1, 1), by omega, ⟨?_, t3 c24, lr, ⟨by rw [u594 3 (by omega)]; exact j4.1, by rw [ff 25 (by omega) (by omega)]; exact j4.2.1, by rw [u594 4 (by omega)]; exact j4.2.2.1, by rw [ff 23 (by omega) (by omega)]; exact j4.2.2.2.1, u5, f24⟩, by rw [rr 4 (by omega) (by omega)]; omega, fun j y1 y2 => by rw [rr j (by omega) (by omega)]; exact j6 j y1 y2⟩, hf⟩⟩
      · rw [← hσ3]
        exact l2.trans ((LM.s 4 _ (by unfold LM; omega)).trans (LM.s _ _ (by unfold LM; omega)))
      · rw [← hσ3]
        exact (c1.next k2).w _ _ (by omega)
    · rw [if_neg c24, decide_eq_false c24]
      have ce : CE (erS σ2 (-2) (tst T L k')) (-2) (tst T L k') := erS_CE _ (by decide) _
      exact Oc.bad ⟨_, rfl, ce.un (M := fun i => i = 594) (Un.sI _ _ rfl) (by omega), LM.s _ _ (by unfold LM; omega)⟩ rfl (t4 c24) (l2.trans (LM.r (erS_un _ _ _))) (w2.trans t2.bR)
  · unfold wsg
    rw [expect_e s2 (by omega), bind_some, bnd_e, s1, bnd2_some, ckZ_0, bnd2_some, i00]
    exact Oc.bad ⟨_, rfl, s2.un (M := fun i => i = 594) (Un.sI _ _ rfl) (by omega), LM.s _ _ (by unfold LM; omega)⟩ rfl s3 l2 w2
theorem b121_eq (K : Nat → St → Option (Int32 × St)) (ml : Option (Int32 × St)) : (bnd2 ml fun r_5 σ_5 => pf_X11_readsLedger_b121 K 609 r_5 σ_5) = bnd2 (wsg ml) fun r_1 σ_1 => if r_1 = 0 then some ((0 : Int32), σ_1) else K 609 σ_1 := by
  cases ml with
  | none => rfl
  | some p =>
    obtain ⟨r, s⟩ := p
    unfold wsg pf_X11_readsLedger_b121
    rw [bnd2_some, bnd2_some]
    by_cases c : r = 0
    · rw [if_pos c, if_pos c, bnd2_some, i00]
    · rw [if_neg c, if_neg c]
/-- what comes of the statements from one on -/
def Oll (T : Nat → Int32) (L N : Nat) (σ τ : St) (cl : Option (Int32 × St)) (ml : Option (Int32 × St)) : Prop := ∃ σ' τ' c, cl = some (c, σ') ∧ Un LM σ σ' ∧ MU (fun i => i = 611) bR τ τ' ∧ ((ml = some (1, τ') ∧ c = 0 ∧ ∃ k' q' f', LZ T L N σ' τ' k' q' f') ∨ (ml = some (0, τ') ∧ ∃ o, CE σ' c o ∧ ME τ' c o))
theorem Oll.cont {σ τ : St} {k fc fm j : Nat} {cl : Option St} {ml : Option (Int32 × St)} (h : Oc σ τ cl (wsg ml) (Pst T L N k)) (hfc : 0 < fc) (ih : ∀ σ' τ' k' q' f', k < k' → LZ T L N σ' τ' k' q' f' → F8 f' → Oll T L N σ' τ' (pf_X4_read_L37 pf_X4_read_b164 fc 594 61 (nI (j + 1)) σ') (pf_X11_readsLedger_L69 fm 609 τ')) : Oll T L N σ τ (cl.bind fun σ_1 => pf_X4_read_b158 (pf_X4_read_L37 pf_X4_read_b164 fc) 594 61 (nI j) σ_1) (bnd2 ml fun r_5 σ_5 => pf_X11_readsLedger_b121 (pf_X11_readsLedger_L69 fm) 609 r_5 σ_5) := by
  obtain ⟨σ1, τ1, z1, z2, z3, z4⟩ := h
  rw [b121_eq, z1, bind_some]
  unfold pf_X4_read_b158
  rw [nI_1, bnd_e]
  rcases z4 with ⟨z5, k', q', f', z6, z7, z8⟩ | ⟨z5, c, o, z6, z7⟩
  · rw [z5, bnd2_some, i10]
    obtain ⟨σ', τ', c, y1, y2, y3, y4⟩ := ih σ1 τ1 k' q' f' z6 z7 z8
    exact ⟨σ', τ', c, y1, z2.trans y2, z3.trans y3, y4⟩
  · obtain ⟨fc, rfl⟩ : ∃ x, fc = x + 1 := ⟨fc - 1, by omega⟩
    rw [z5, bnd2_some, i00]
    exact ⟨σ1, τ1, c, readL_e fc (j + 1) z6, z2, z3, Or.inr ⟨rfl, o, z6, z7⟩⟩
theorem ledgerLJ (hb : TB8 T L) : ∀ m fc fm σ τ k q f j, N - k ≤ m → m < fc → m < fm → LZ T L N σ τ k q f → F8 f → j ≤ k → Oll T L N σ τ (pf_X4_read_L37 pf_X4_read_b164 fc 594 61 (nI j) σ) (pf_X11_readsLedger_L69 fm 609 τ) := by
  intro m
  induction m using Nat.strongRecOn with
  | ind m ih =>
  intro fc fm σ τ k q f j h1 h2 h3 J hf hj
  obtain ⟨fc, rfl⟩ : ∃ x, fc = x + 1 := ⟨fc - 1, by omega⟩
  obtain ⟨fm, rfl⟩ : ∃ x, fm = x + 1 := ⟨fm - 1, by omega⟩
  obtain ⟨j1, j2, j3, j4, j5, j6⟩ := id J
  have n8 := j1.N8
  have hkN := j1.2.1
  have hL := j1.le
  obtain ⟨τ1, a1, a2, a3, a4, a5⟩ := mhere j2
  rw [pf_X11_readsLedger_L69, a1, bnd2_some]
  by_cases kN : k < N
  · have lt := j1.lt.mpr kN
    have nm : ¬ (if tst T L k < L then T (tst T L k) else (-1 : Int32)) = -1 := by
      rw [if_pos lt]
      intro e
      have := (hb _ lt)
      rw [e] at this
      exact absurd this.1 (by decide)
    rw [if_neg nm, a4, bnd_e]
    rw [pf_X4_read_L37, show (800 : Int32) = nI 800 from rfl, if_neg (nI_ge (show j < 800 by omega) (by omega)), show 594 + 1 = 595 from rfl, goOn_ok j1, bind_some, decide_eq_true kN, if_b2, if_pos rfl, ahead_ok j1, bind_some]
    have go : ∀ σ' τ' k' q' f', k < k' → LZ T L N σ' τ' k' q' f' → F8 f' → Oll T L N σ' τ' (pf_X4_read_L37 pf_X4_read_b164 fc 594 61 (nI (j + 1)) σ') (pf_X11_readsLedger_L69 fm 609 τ') := fun σ' τ' k' q' f' y1 y2 y3 => ih (m - 1) (by omega) fc fm σ' τ' k' q' f' (j + 1) (by have := y2.1.2.1; omega) (by omega) (by omega) y2 y3 (by omega)
    have bad : ∀ {τ2 : St}, MU noA bL τ τ2 → MP τ2 T L k → ∀ ml : Option (Int32 × St), ml = (bnd2 (pf_X11_fails 609 (-2) (nI (tst T L k)) τ2) fun r_1 σ_1 => ckZ (r_1) <| some (r_1, σ_1)) → Oc σ τ ((pf_X6_start 595 σ).bind fun r_2 => pf_X6_fail 595 (-2) r_2 σ) (wsg ml) (Pst T L N k) := fun {τ2} u2 m2 ml e => by
      obtain ⟨f1, f2, f3⟩ := mfails m2.2.1 (c := -2) (by decide) (tst T L k)
      unfold wsg
      rw [e, f1, bnd2_some, ckZ_0, bnd2_some, i00, start_ok j1, bind_some, fail_ok j1]
      exact Oc.bad (Q.id (erS_CE σ (by decide) _)) rfl f2 (LM.r (erS_un _ _ _)) (u2.trans f3).bR
    have badc : ((pf_X6_start 595 σ).bind fun r_2 => (pf_X6_fail 595 (-2) r_2 σ).bind fun σ_3 => pf_X4_read_b158 (pf_X4_read_L37 pf_X4_read_b164 fc) 594 61 (nI j) σ_3) = (((pf_X6_start 595 σ).bind fun r_2 => pf_X6_fail 595 (-2) r_2 σ).bind fun σ_3 => pf_X4_read_b158 (pf_X4_read_L37 pf_X4_read_b164 fc) 594 61 (nI j) σ_3) := by
      rw [start_ok j1, bind_some, bind_some]
    by_cases t5 : tkd T L k = 5
    · obtain ⟨τ2, b1, b2, b3⟩ := mtk (i := 5) (w := 48) (by decide +kernel) a3 t5
      rw [b1, bnd2_some, i10, if_pos (by rw [t5])]
      exact Oll.cont (stockJ hb J hf (a2.trans b2) b3 t5) (by omega) go
    obtain ⟨τ2, b1, b2, b3, b4⟩ := mtn (i := 5) (w := 48) (by decide +kernel) a3 t5
    rw [b1, bnd2_some, i00, if_neg (fun e => t5 (Option.some.inj e))]
    by_cases t8 : tkd T L k = 8
    · obtain ⟨τ3, d1, d2, d3⟩ := mtk (i := 8) (w := 34) (by decide +kernel) b3 t8
      rw [d1, bnd2_some, i10, if_neg (fun e => by have := Option.some.inj e; omega)]
      unfold pf_X4_read_b103 pf_X4_read_b126
      rw [if_neg (fun e => by have := Option.some.inj e; omega), if_pos (by rw [t8])]
      refine Oll.cont ?_ (by omega) go
      exact (questJ hb J (a2.trans (b2.trans d2)) d3 t8).sh (Un.refl _ _) (MU.refl _ _ _) (fun σ' τ' ⟨k', y1, y2⟩ => ⟨k', _, _, y1, y2, hf⟩)
    obtain ⟨τ3, d1, d2, d3, d4⟩ := mtn (i := 8) (w := 34) (by decide +kernel) b3 t8
    have u3 := a2.trans (b2.trans d2)
    rw [d1, bnd2_some, i00]
    by_cases t6 : tkd T L k = 6
    · obtain ⟨τ4, e1, e2, e3⟩ := mtk (i := 6) (w := 45) (by decide +kernel) d3 t6
      have u4 := u3.trans e2
      have eR : pf_X11_readsOnce 609 (nI (tst T L k)) τ3 = if gI τ4 609 23 = 0 then seedM τ4 else (bnd2 (pf_X11_fails 609 (-2) (nI (tst T L k)) τ4) fun r_1 σ_1 => ckZ (r_1) <| some (r_1, σ_1)) := by
        unfold pf_X11_readsOnce seedM
        rw [e1, bnd2_some, i10]
      have e23 : gI τ4 609 23 = f.2.1 := by rw [u4.F (by unfold bL; omega)]; exact j4.2.2.2.1
      rw [if_pos (by rw [t6]), j4.2.2.1, eR, e23]
      by_cases fl : f.2.1 = 0
      · rw [if_pos fl, if_pos fl]
        exact Oll.cont (seedJ hb J hf u4 e3 t6) (by omega) go
      · rw [if_neg fl, if_neg fl]
        unfold pf_X4_read_b103 pf_X4_read_b126
        rw [if_neg (fun e => by have := Option.some.inj e; omega), if_neg (fun e => t8 (Option.some.inj e)), show 594 + 1 = 595 from rfl, badc]
        have e17 : MP τ4 T L (k + 1) := e3
        refine Oll.cont ?_ (by omega) go
        obtain ⟨f1, f2, f3⟩ := mfails e3.2.1 (c := -2) (by decide) (tst T L k)
        unfold wsg
        rw [f1, bnd2_some, ckZ_0, bnd2_some, i00, start_ok j1, bind_some, fail_ok j1]
        exact Oc.bad (Q.id (erS_CE σ (by decide) _)) rfl f2 (LM.r (erS_un _ _ _)) (u4.trans f3).bR
    obtain ⟨τ4, e1, e2, e3, e4⟩ := mtn (i := 6) (w := 45) (by decide +kernel) d3 t6
    have u4 := u3.trans e2
    rw [if_neg (fun e => t6 (Option.some.inj e))]
    unfold pf_X4_read_b103 pf_X4_read_b126
    by_cases t7 : tkd T L k = 7
    · obtain ⟨τ5, g1, g2, g3⟩ := mtk (i := 7) (w := 46) (by decide +kernel) e3 t7
      have u5 := u4.trans g2
      have eR : pf_X11_readsOnce 609 (nI (tst T L k)) τ3 = if gI τ5 609 24 = 0 then wrthM τ5 else (bnd2 (pf_X11_fails 609 (-2) (nI (tst T L k)) τ5) fun r_1 σ_1 => ckZ (r_1) <| some (r_1, σ_1)) := by
        unfold pf_X11_readsOnce wrthM pf_X11_readsOnce_b72
        rw [e1, bnd2_some, i00, g1, bnd2_some, i10]
      have e24 : gI τ5 609 24 = f.2.2 := by rw [u5.F (by unfold bL; omega)]; exact j4.2.2.2.2.2
      rw [if_pos (by rw [t7]), j4.2.2.2.2.1, eR, e24]
      by_cases fl : f.2.2 = 0
      · rw [if_pos fl, if_pos fl]
        exact Oll.cont (wrthJ hb J hf fl u5 g3 t7) (by omega) go
      · rw [if_neg fl, if_neg fl, if_neg (fun e => t8 (Option.some.inj e)), show 594 + 1 = 595 from rfl, badc]
        refine Oll.cont ?_ (by omega) go
        obtain ⟨f1, f2, f3⟩ := mfails g3.2.1 (c := -2) (by decide) (tst T L k)
        unfold wsg
        rw [f1, bnd2_some, ckZ_0, bnd2_some, i00, start_ok j1, bind_some, fail_ok j1]
        exact Oc.bad (Q.id (erS_CE σ (by decide) _)) rfl f2 (LM.r (erS_un _ _ _)) (u5.trans f3).bR
    · obtain ⟨τ5, g1, g2, g3, g4⟩ := mtn (i := 7) (w := 46) (by decide +kernel) e3 t7
      rw [if_neg (fun e => t7 (Option.some.inj e)), if_neg (fun e => t8 (Option.some.inj e)), show 594 + 1 = 595 from rfl, badc]
      refine Oll.cont (bad (u4.trans g2) g3 _ ?_) (by omega) go
      unfold pf_X11_readsOnce pf_X11_readsOnce_b72
      rw [e1, bnd2_some, i00, g1, bnd2_some, i00]
  · have ek : k = N := by omega
    have em : (if tst T L k < L then T (tst T L k) else (-1 : Int32)) = -1 := if_neg (fun y => kN (j1.lt.mp y))
    have cl : pf_X4_read_L37 pf_X4_read_b164 (fc + 1) 594 61 (nI j) σ = some (0, σ) := by
      rw [pf_X4_read_L37]
      have e : pf_X4_read_b164 594 σ = some (0, σ) := by
        unfold pf_X4_read_b164
        rw [show 594 + 1 = 595 from rfl, j1.2.2.2.1]
      by_cases q8 : (800 : Int32) ≤ nI j
      · rw [if_pos q8, e]
      · rw [if_neg q8, show 594 + 1 = 595 from rfl, goOn_ok j1, bind_some, decide_eq_false kN, if_b2, if_neg Bool.false_ne_true, e]
    rw [if_pos em, cl]
    exact ⟨σ, τ1, 0, rfl, Un.refl _ _, a2.bR, Or.inl ⟨rfl, rfl, k, q, f, J.tk j1 a3 (Nat.le_refl _) (Un.refl _ _) a2⟩⟩
end
