/-! LOAD: quests from their first word on, both readers -/
section
variable {T : Nat → Int32} {L N : Nat}
theorem questLoopJ (hb : TB8 T L) {q : Nat} {f : Int32 × Int32 × Int32} : ∀ m fc fm σ τ k S, N - k ≤ m → m + 2 < fc → m < fm → JQ T L N σ τ k q S S f → Oc σ τ (pf_X4_readQuest_L91 pf_X4_readQuest_b128 fc 594 61 (66 + 9 * q) (nI S) σ) (wsg (pf_X11_readsQuest_L107 pf_X11_readsQuest_b141 fm 609 (nI (53 + 186 * q)) (nI (tst T L k)) τ)) (fun σ' τ' => ∃ k', k < k' ∧ LZ T L N σ' τ' k' (q + 1) f) := by
  intro m
  induction m using Nat.strongRecOn with
  | ind m ih =>
  intro fc fm σ τ k S h1 h2 h3 J
  obtain ⟨fc, rfl⟩ : ∃ x, fc = x + 1 := ⟨fc - 1, by omega⟩
  obtain ⟨fm, rfl⟩ : ∃ x, fm = x + 1 := ⟨fm - 1, by omega⟩
  obtain ⟨j1, j2, j3, j4, j5⟩ := id J
  have n8 := j1.N8
  have hkN := j1.2.1
  have hq := j3.1
  have hS6 := j3.2.1
  have ha : 66 ≤ 66 + 9 * q ∧ 66 + 9 * q < 112 := by omega
  rw [pf_X4_readQuest_L91, pf_X11_readsQuest_L107, show (800 : Int32) = nI 800 from rfl, if_neg (nI_ge (show S < 800 by omega) (by omega))]
  by_cases c9 : tkd T L k = 9
  · have k1 := j1.k1 (by omega)
    obtain ⟨τ1, a1, a2, a3⟩ := mtk (i := 9) (w := 43) (by decide +kernel) j2 c9
    have cl : (if nI S = 0 then pf_X4_readQuest_b117 (pf_X4_readQuest_L91 pf_X4_readQuest_b128 fc) 594 61 (66 + 9 * q) (nI S) σ else (pf_X6_ahead (594 + 1) σ).bind fun r_1 => if (r_1 : Option Nat) = some 9 then pf_X4_readQuest_b117 (pf_X4_readQuest_L91 pf_X4_readQuest_b128 fc) 594 61 (66 + 9 * q) (nI S) σ else pf_X4_readQuest_b128 594 61 (66 + 9 * q) σ) = pf_X4_readQuest_b117 (pf_X4_readQuest_L91 pf_X4_readQuest_b128 fc) 594 61 (66 + 9 * q) (nI S) σ := by
      by_cases s0 : nI S = 0
      · rw [if_pos s0]
      · rw [if_neg s0, show 594 + 1 = 595 from rfl, ahead_ok j1, bind_some, if_pos (by rw [c9])]
    rw [cl, a1, bnd2_some, i10]
    unfold pf_X4_readQuest_b117
    obtain ⟨σ2, τ2, z1, z2, z3, z4⟩ := stepJ hb J a2 a3 c9
    rw [z1, bind_some, nI_1, bnd_e]
    rcases z4 with ⟨z5, hS, k', z6, z7⟩ | ⟨z5, c, o, z6, z7⟩
    · obtain ⟨τ3, b1, b2, b3, b4, b5⟩ := mhere z7.2.1
      rw [z5, bnd2_some, i10, b1, bnd2_some, b4, bnd_e]
      refine (ih (m - 1) (by omega) fc fm σ2 τ3 k' (S + 1) (by omega) (by omega) (by omega) (z7.m b3 b2)).sh z2 (z3.trans b2.bR) ?_
      rintro σ' τ' ⟨k2, y1, y2⟩
      exact ⟨k2, by omega, y2⟩
    · obtain ⟨fc, rfl⟩ : ∃ x, fc = x + 2 := ⟨fc - 2, by omega⟩
      unfold wsg
      rw [z5, bnd2_some, i00, bnd2_some, i00]
      exact Oc.bad (questL_e ha fc (S + 1) (by omega) z6) rfl z7 z2 z3
  · obtain ⟨τ1, a1, a2, a3, a4⟩ := mtn (i := 9) (w := 43) (by decide +kernel) j2 c9
    rw [a1, bnd2_some, i00]
    have J1 := J.m a3 a2
    by_cases s0 : S = 0
    · subst s0
      obtain ⟨f1, f2, f3⟩ := mfails a3.2.1 (c := -2) (by decide) (tst T L k)
      have ce : CE (erS σ (-2) (tst T L k)) (-2) (tst T L k) := erS_CE _ (by decide) _
      have st : Q (erS σ (-2) (tst T L k)) (-2) (tst T L k) (pf_X4_readStep 594 (66 + 9 * q) σ) := by
        unfold pf_X4_readStep
        obtain ⟨σ', g1, g2, g3⟩ := ce.put (p := 66 + 9 * q + 1) (by unfold LM; omega) (by omega) (nI 0) 0
        rw [bnd_e, j3.2.2.2.2.1.1, if_pos (by decide), show 594 + 1 = 595 from rfl, expect_ok j1, if_neg c9, bind_some, number_e ce, bnd2_some, g1, bind_some]
        exact (step2_e ha (nI 0) g2).tr g3
      obtain ⟨σ2, g1, g2, g3⟩ := st
      obtain ⟨fc, rfl⟩ : ∃ x, fc = x + 2 := ⟨fc - 2, by omega⟩
      unfold pf_X11_readsQuest_b141 pf_X11_readsQuest_b158 wsg pf_X4_readQuest_b117
      rw [if_pos (show nI 0 = (0 : Int32) from rfl), J1.2.2.1.2.2.2.2.2.1, if_pos (show nI 0 = (0 : Int32) from rfl), f1, bnd2_some, ckZ_0, bnd2_some, i00, g1, bind_some, nI_1, bnd_e]
      exact Oc.bad (questL_e ha fc (0 + 1) (by omega) g2) rfl f2 ((LM.r (erS_un _ _ _)).trans g3) (a2.trans f3).bR
    · rw [if_neg (nI_ne0 (by omega) (by omega)), show 594 + 1 = 595 from rfl, ahead_ok j1, bind_some, if_neg (fun e => c9 (Option.some.inj e))]
      exact (goalEndJ hb (by omega) J1 c9).sh (Un.refl _ _) a2.bR (fun _ _ h => h)
theorem QR.new {σ σ' τ τ' : St} {q : Nat} (hq : q < 6) (h : LR σ (gI τ 611) q) (z : ∀ j, 53 + 186 * q ≤ j → j < 1169 → gI τ 611 j = 0) (hu : ∀ i, 61 ≤ i → (i < 66 + 9 * q ∨ i = 594) → gI σ' i = gI σ i ∧ gL σ' i = gL σ i) (he : ∀ j, j ≠ 53 + 186 * q + 2 → j ≠ 53 + 186 * q + 3 → gI τ' 611 j = gI τ 611 j) (c0 : gI σ' (66 + 9 * q) 0 = 0) (c1 : gI σ' (66 + 9 * q) 1 = 0) (c2 : gI σ' (66 + 9 * q) 2 = 0) (cz : ∀ t, 3 ≤ t → t < 9 → ∀ k, k < alen (66 + 9 * q + t) → gI σ' (66 + 9 * q + t) k = 0) (e3 : gI σ' (66 + 9 * q) 3 = gI τ' 611 (53 + 186 * q + 2)) (i3 : Is (gI τ' 611 (53 + 186 * q + 2)) 7) (e4 : gI σ' (66 + 9 * q) 4 = gI τ' 611 (53 + 186 * q + 3)) (i4 : Is (gI τ' 611 (53 + 186 * q + 3)) 99) (h22 : gI τ' 609 22 = nI 0) : QR σ' τ' q 0 0 := by
  have kq := kd66 q hq
  have zz : ∀ j, 53 + 186 * q ≤ j → j < 1169 → j ≠ 53 + 186 * q + 2 → j ≠ 53 + 186 * q + 3 → gI τ' 611 j = 0 := fun j x1 x2 x3 x4 => by rw [he j x3 x4]; exact z j x1 x2
  have I0 : ∀ B, Is (0 : Int32) B := fun B => ⟨rfl, Nat.zero_le _⟩
  have r4 := he 4 (by omega) (by omega)
  refine ⟨hq, by omega, h.cg hu (fun j x1 x2 => he j (by omega) (by omega)) (by rw [r4]; exact h.2.2.2.2.2.2.2.1) (by rw [r4]; exact Nat.le_refl _), ⟨fun s hs => ⟨cz 3 (by omega) (by omega) s (by rw [af_X3_fails kq]; exact hs), zz _ (by omega) (by omega) (by omega) (by omega), zz _ (by omega) (by omega) (by omega) (by omega), ?_, ?_, ?_, ?_, ?_, fun t ht i hi => ?_⟩, fun s hs => absurd hs (Nat.not_lt_zero _)⟩, ⟨c0, c1, c2, zz _ (by omega) (by omega) (by omega) (by omega), e3, i3, e4, i4⟩, h22, fun j x1 x2 => zz j (by omega) x2 (by omega) (by omega)⟩
  · rw [cz 4 (by omega) (by omega) s (by rw [af_X3_ahead kq]; exact hs), zz _ (by omega) (by omega) (by omega) (by omega)]
  · rw [zz _ (by omega) (by omega) (by omega) (by omega)]; exact I0 _
  · rw [zz _ (by omega) (by omega) (by omega) (by omega)]; exact Nat.two_pow_pos s
  · rw [cz 5 (by omega) (by omega) s (by rw [af_X3_costly kq]; exact hs), zz _ (by omega) (by omega) (by omega) (by omega)]
  · rw [zz _ (by omega) (by omega) (by omega) (by omega)]; exact I0 _
  · rw [zz _ (by omega) (by omega) (by omega) (by omega)]
    refine ⟨?_, I0 _⟩
    have := cz (6 + t) (by omega) (by omega) (s * 8 + i) (by rw [show 66 + 9 * q + (6 + t) = 66 + 9 * q + 6 + t by omega, al_am hq ht]; omega)
    rw [show 66 + 9 * q + (6 + t) = 66 + 9 * q + 6 + t by omega] at this
    exact this
theorem questJ (hb : TB8 T L) {q : Nat} {f : Int32 × Int32 × Int32} {σ τ0 τ : St} {k : Nat} (J : LZ T L N σ τ0 k q f) (u0 : MU noA bL τ0 τ) (m : MP τ T L (k + 1)) (hk : tkd T L k = 8) : Oc σ τ0 (pf_X4_readQuest 594 61 σ) (wsg (pf_X11_readsQuest 609 (nI (tst T L k)) τ)) (fun σ' τ' => ∃ k', k < k' ∧ LZ T L N σ' τ' k' (q + 1) f) := by
  obtain ⟨j1, j2, j3, j4, j5, j6⟩ := J
  have n8 := j1.N8
  have hkN := j1.2.1
  have k1 := j1.k1 (by omega)
  have q6 := j3.1
  have r0 : gI τ 611 = gI τ0 611 := u0.I (by decide) (fun q => q)
  have ck : ∀ {α : Type} (j : Nat) (y : Option α), j < 4370 → ckI (nI j) (alen (609 + 2)) y = y := fun j y h => ckA (show alen (609 + 2) = 4370 from al611) h
  have ck0 : ∀ {α : Type} (y : Option α), ckI (0 : Int32) (alen (609 + 2)) y = y := fun y => ck 0 y (by omega)
  unfold pf_X4_readQuest pf_X11_readsQuest
  rw [bnd_e, j3.2.1, if_neg (nI_pos (by omega)), ck0, show (0 : Int32).toNatClampNeg = 0 from rfl, show gI τ (609 + 2) 0 = nI q by rw [show 609 + 2 = 611 from rfl, r0]; exact j3.2.2.1, show (6 : Int32) = nI 6 from rfl]
  by_cases e6 : q = 6
  · subst e6
    obtain ⟨f1, f2, f3⟩ := mfails m.2.1 (c := -5) (by decide) (tst T L k)
    unfold pf_X4_readQuest_b15 wsg
    rw [if_neg (nI_nlt (Nat.le_refl _) (by omega)), if_pos rfl, show 594 + 1 = 595 from rfl, start_ok j1, bind_some, fail_ok j1, bind_some, f1, bnd2_some, ckZ_0, bnd2_some, i00]
    exact Oc.bad (Q.id (erS_CE σ (by decide) _)) rfl f2 (LM.r (erS_un _ _ _)) (u0.trans f3).bR
  have hq : q < 6 := by omega
  have ha : 66 ≤ 66 + 9 * q ∧ 66 + 9 * q < 112 := by omega
  obtain ⟨σ1, g1, g2, g3, g4, g5, g6⟩ := clearQ (a := 66 + 9 * q) σ
  have c1 : CP σ1 T L N k := j1.un g2 ⟨by omega, by omega, by omega, by omega⟩
  have c2 := c1.next k1
  have sk : pf_X6_skip 595 σ1 = some (sI σ1 595 4 (nI (k + 1))) := by
    unfold pf_X6_skip
    rw [c1.2.2.1, nI_1, bnd_e]
  have l1 : Un LM σ (sI σ1 595 4 (nI (k + 1))) := (g2.mono fun i hi => by unfold LM; omega).trans (LM.s 4 _ (by unfold LM; omega))
  rw [if_pos (nI_lt hq (by omega)), if_neg (show ¬ nI q = nI 6 by rw [nI_eq (by omega) (by omega)]; exact e6), show ckI (nI q) (alen (61 + 3)) _ = _ from ckA (n := q) (show alen 64 = 6 by decide +kernel) hq, nI_clamp (by omega), show 61 + 3 + 2 + 9 * q = 66 + 9 * q by omega, g1, bind_some, show 594 + 1 = 595 from rfl, sk, bind_some, ck0, show (53 : Int32) = nI 53 from rfl, show (186 : Int32) = nI 186 from rfl, pk_mul, nI_add, bnd_e]
  have after : ∀ {s : St} {c : Int32} {o : Nat}, CE s c o → Q s c o (bnd2 (pf_X6_number 595 0 99 s) fun r_7 σ_7 => bnd (sI σ_7 (66 + 9 * q) 4 r_7) fun σ_8 => (pf_X6_expect 595 (some 24) σ_8).bind fun σ_9 => pf_X4_readQuest_L91 pf_X4_readQuest_b128 FU 594 61 (66 + 9 * q) 0 σ_9) := fun {s c o} h => by
    have ce : CE (sI s (66 + 9 * q) 4 0) c o := h.un (M := fun i => i = 66 + 9 * q) (Un.sI _ _ rfl) (by omega)
    rw [number_e h, bnd2_some, bnd_e, expect_e ce (by omega), bind_some]
    exact (questL_e ha 999998 0 (by omega) ce).tr (LM.s _ _ (by unfold LM; omega))
  obtain ⟨τ1, m1, mm⟩ := numJ hb c2 m (lo := 0) (hi := 7) (by omega) (by omega)
  rcases mm with ⟨v, v0, v7, d0, k2, a1, a2, a3, a4, a5, a6⟩ | ⟨σ3, c, a1, e2, e4, a3, a4⟩
  · have c3 : CP (sI (sI (sI σ1 595 4 (nI (k + 1))) 595 4 (nI (k + 1 + 1))) (66 + 9 * q) 3 (nI v)) T L N (k + 1 + 1) := a2.w _ _ (by omega)
    have m3 : MP (sI τ1 611 (53 + 186 * q + 2) (nI v)) T L (k + 1 + 1) := a4.w _ _
    have l3 : Un LM σ (sI (sI (sI σ1 595 4 (nI (k + 1))) 595 4 (nI (k + 1 + 1))) (66 + 9 * q) 3 (nI v)) := l1.trans ((LM.s 4 _ (by unfold LM; omega)).trans (LM.s _ _ (by unfold LM; omega)))
    have w3 : MU (fun i => i = 611) bR τ0 (sI τ1 611 (53 + 186 * q + 2) (nI v)) := u0.bR.trans (m1.bR.trans (MU.arr (p := 611) _ _ rfl (by decide)))
    rw [show pf_X6_number 595 0 7 (sI σ1 595 4 (nI (k + 1))) = _ from a1, bnd2_some, bnd_e, show pf_X11_reads 609 0 7 τ = _ from a3, bnd2_some, i10, show (2 : Int32) = nI 2 from rfl, nI_add, ck _ _ (by omega), nI_clamp (by omega), a5, bnd_e]
    obtain ⟨τ2, n1, nn⟩ := numJ hb c3 m3 (lo := 0) (hi := 99) (by omega) (by omega)
    rcases nn with ⟨w, w0, w9, f0, k3, b1, b2, b3, b4, b5, b6⟩ | ⟨σ3, c, b1, e2, e4, b3, b4⟩
    · generalize hσ4 : sI (sI (sI (sI (sI σ1 595 4 (nI (k + 1))) 595 4 (nI (k + 1 + 1))) (66 + 9 * q) 3 (nI v)) 595 4 (nI (k + 1 + 1 + 1))) (66 + 9 * q) 4 (nI w) = σ4
      have c4 : CP σ4 T L N (k + 1 + 1 + 1) := by rw [← hσ4]; exact b2.w _ _ (by omega)
      have m4 : MP (sI τ2 611 (53 + 186 * q + 3) (nI w)) T L (k + 1 + 1 + 1) := b4.w _ _
      obtain ⟨τ3, t1, t2, t3, t4⟩ := msign (i := 24) (c := 59) (by omega) (by omega) rfl (by decide) m4
      have l4 : Un LM σ σ4 := by rw [← hσ4]; exact l3.trans ((LM.s 4 _ (by unfold LM; omega)).trans (LM.s _ _ (by unfold LM; omega)))
      have w4 : MU (fun i => i = 611) bR τ0 τ3 := w3.trans (n1.bR.trans (MU.trans (MU.arr (p := 611) _ _ rfl (by decide)) t2.bR))
      rw [show pf_X6_number 595 0 99 (sI (sI (sI σ1 595 4 (nI (k + 1))) 595 4 (nI (k + 1 + 1))) (66 + 9 * q) 3 (nI v)) = _ from b1, bnd2_some, bnd_e, hσ4, expect_ok c4, bind_some, show pf_X11_reads 609 0 99 (sI τ1 (609 + 2) (53 + 186 * q + 2) (nI v)) = _ from b3, bnd2_some, i10, show (3 : Int32) = nI 3 from rfl, nI_add, ck _ _ (by omega), nI_clamp (by omega), b5, bnd_e, show pf_X11_sign 609 59 (sI τ2 (609 + 2) (53 + 186 * q + 3) (nI w)) = _ from t1, bnd2_some, if_b2]
      by_cases c24 : tkd T L (k + 1 + 1 + 1) = 24
      · have k4 := c4.k1 (by omega)
        have c5 := c4.next k4
        have m5 : MP (sI τ3 609 22 0) T L (k + 1 + 1 + 1 + 1) := by
          obtain ⟨⟨p, h1, h2⟩, h3, h4⟩ := t3 c24
          exact ⟨⟨p, ⟨h1.1, h1.2.1, by rw [gI_ns _ _ _ (by decide)]; exact h1.2.2.1, by rw [gI_ns _ _ _ (by decide)]; exact h1.2.2.2.1, fun j hj => by rw [gI_ne _ _ _ _ (by decide)]; exact h1.2.2.2.2 j hj⟩, h2⟩, by rw [gI_ns _ _ _ (by decide)]; exact h3, by rw [gI_ns _ _ _ (by decide)]; exact h4⟩
        obtain ⟨τ4, x1, x2, x3, x4, x5⟩ := mhere m5
        rw [if_pos c24, decide_eq_true c24, if_pos rfl, bnd_e, x1, bnd2_some, x4, bnd_e]
        have r4 : ∀ j, j ≠ 53 + 186 * q + 2 → j ≠ 53 + 186 * q + 3 → gI τ4 611 j = gI τ0 611 j := fun j y1 y2 => by
          rw [x2.I (by decide) (fun q => q), gI_ne _ _ _ _ (by decide), t2.I (by decide) (fun q => q), gI_ns _ _ _ y2, n1.I (by decide) (fun q => q), gI_ns _ _ _ y1, m1.I (by decide) (fun q => q), r0]
        have r42 : gI τ4 611 (53 + 186 * q + 2) = nI v := by
          rw [x2.I (by decide) (fun q => q), gI_ne _ _ _ _ (by decide), t2.I (by decide) (fun q => q), gI_ns _ _ _ (by omega), n1.I (by decide) (fun q => q), gI_at]
        have r43 : gI τ4 611 (53 + 186 * q + 3) = nI w := by
          rw [x2.I (by decide) (fun q => q), gI_ne _ _ _ _ (by decide), t2.I (by decide) (fun q => q), gI_at]
        have us : ∀ i, i ≠ 66 + 9 * q → i ≠ 595 → gI (sI σ4 595 4 (nI (k + 1 + 1 + 1 + 1))) i = gI σ1 i := fun i y1 y2 => by
          rw [gI_nf _ _ _ y2, ← hσ4, gI_nf _ _ _ y1, gI_nf _ _ _ y2, gI_nf _ _ _ y1, gI_nf _ _ _ y2, gI_nf _ _ _ y2]
        have ua : ∀ j, j ≠ 3 → j ≠ 4 → gI (sI σ4 595 4 (nI (k + 1 + 1 + 1 + 1))) (66 + 9 * q) j = gI σ1 (66 + 9 * q) j := fun j y1 y2 => by
          rw [gI_ne _ _ _ _ (by omega), ← hσ4, gI_ns _ _ _ y2, gI_ne _ _ _ _ (by omega), gI_ns _ _ _ y1, gI_ne _ _ _ _ (by omega), gI_ne _ _ _ _ (by omega)]
        have ua3 : gI (sI σ4 595 4 (nI (k + 1 + 1 + 1 + 1))) (66 + 9 * q) 3 = nI v := by
          rw [gI_ne _ _ _ _ (by omega), ← hσ4, gI_ns _ _ _ (by decide), gI_ne _ _ _ _ (by omega), gI_at]
        have ua4 : gI (sI σ4 595 4 (nI (k + 1 + 1 + 1 + 1))) (66 + 9 * q) 4 = nI w := by
          rw [gI_ne _ _ _ _ (by omega), ← hσ4, gI_at]
        have ul : ∀ i, gL (sI σ4 595 4 (nI (k + 1 + 1 + 1 + 1))) i = gL σ1 i := fun i => by rw [← hσ4]; rfl
        have qr : QR (sI σ4 595 4 (nI (k + 1 + 1 + 1 + 1))) τ4 q 0 0 := QR.new hq j3 j6 (fun i y1 y2 => ⟨by rw [us i (by omega) (by omega), g2.I (by omega)], by rw [ul, g2.L (by omega)]⟩) r4 (by rw [ua 0 (by decide) (by decide)]; exact g3) (by rw [ua 1 (by decide) (by decide)]; exact g4) (by rw [ua 2 (by decide) (by decide)]; exact g5) (fun t y1 y2 j y3 => by rw [us _ (by omega) (by omega)]; exact g6 t y1 y2 j y3) (by rw [ua3, r42]) (by rw [r42]; exact Is.of v7 (by omega)) (by rw [ua4, r43]) (by rw [r43]; exact Is.of w9 (by omega)) ((x2.F (by unfold bL; omega)).trans (gI_at _ _ _ _))
        have fl : FL (sI σ4 595 4 (nI (k + 1 + 1 + 1 + 1))) τ4 f := by
          obtain ⟨y1, y2, y3, y4, y5, y6⟩ := j4
          have ff : ∀ j, j = 23 ∨ j = 24 ∨ j = 25 → gI τ4 609 j = gI τ0 609 j := fun j hj => by
            rw [x2.F (by unfold bL; omega), gI_ns _ _ _ (by omega), t2.F (by unfold bL; omega), gI_ne _ _ _ _ (by decide), n1.F (by unfold bL; omega), gI_ne _ _ _ _ (by decide), m1.F (by unfold bL; omega), u0.F (by unfold bL; omega)]
          unfold FL
          rw [us 594 (by omega) (by omega), g2.I (by omega), ff 25 (by omega), ff 23 (by omega), ff 24 (by omega)]
          exact ⟨y1, y2, y3, y4, y5, y6⟩
        refine (questLoopJ hb N FU FU _ τ4 (k + 1 + 1 + 1 + 1) 0 (by omega) (lt_FU (by omega)) (lt_FU (by omega)) ⟨c5, x3, qr, fl, by rw [r4 4 (by omega) (by omega)]; omega⟩).sh (l4.trans (LM.s 4 _ (by unfold LM; omega))) (w4.trans (MU.trans (MU.fld _ _ (show 16 ≤ 22 ∧ 22 ≤ 25 by omega)) x2.bR)) ?_
        rintro σ' τ' ⟨k', y1, y2⟩
        exact ⟨k', by omega, y2⟩
      · rw [if_neg c24, decide_eq_false c24, if_neg Bool.false_ne_true]
        unfold wsg
        rw [bnd2_some, i00]
        exact Oc.bad (questL_e ha 999998 0 (by omega) (erS_CE σ4 (by decide) (tst T L (k + 1 + 1 + 1)))) rfl (t4 c24) (l4.trans (LM.r (erS_un _ _ _))) w4
    · have ce : CE (sI σ3 (66 + 9 * q) 4 (nI 0)) c (tst T L (k + 1 + 1)) := e2.un (M := fun i => i = 66 + 9 * q) (Un.sI _ _ rfl) (by omega)
      unfold wsg
      rw [show pf_X6_number 595 0 99 (sI (sI (sI σ1 595 4 (nI (k + 1))) 595 4 (nI (k + 1 + 1))) (66 + 9 * q) 3 (nI v)) = _ from b1, bnd2_some, bnd_e, expect_e ce (by omega), bind_some, show pf_X11_reads 609 0 99 (sI τ1 (609 + 2) (53 + 186 * q + 2) (nI v)) = _ from b3, bnd2_some, i00, bnd2_some, i00]
      exact Oc.bad (questL_e ha 999998 0 (by omega) ce) rfl b4 (l3.trans ((LM.r e4).trans (LM.s _ _ (by unfold LM; omega)))) (w3.trans n1.bR)
  · have ce : CE (sI σ3 (66 + 9 * q) 3 (nI 0)) c (tst T L (k + 1)) := e2.un (M := fun i => i = 66 + 9 * q) (Un.sI _ _ rfl) (by omega)
    unfold wsg
    rw [show pf_X6_number 595 0 7 (sI σ1 595 4 (nI (k + 1))) = _ from a1, bnd2_some, bnd_e, show pf_X11_reads 609 0 7 τ = _ from a3, bnd2_some, i00, bnd2_some, i00]
    exact Oc.bad (after ce) rfl a4 (l1.trans ((LM.r e4).trans (LM.s _ _ (by unfold LM; omega)))) (u0.trans m1).bR
end
