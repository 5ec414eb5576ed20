/-! LOAD: parts of a step, both readers -/
section
variable {T : Nat → Int32} {L N : Nat}
theorem amL_ok {σ : St} {k : Nat} (h : CP σ T L N k) (hk : tkd T L k ≠ 0) (p : Nat) (v2 : Int32) (n j : Nat) (h0 : 0 < j) (hj : j < 2 ^ 31) : pf_X4_readAmounts_L2 (n + 1) 594 p v2 (nI j) σ = some σ := by
  rw [pf_X4_readAmounts_L2]
  by_cases q : (800 : Int32) ≤ nI j
  · rw [if_pos q]
  · rw [if_neg q, if_neg (nI_ne0 h0 hj), show 594 + 1 = 595 from rfl, ahead_ok h, bind_some, if_neg (fun e => hk (Option.some.inj e))]
theorem ahL_ok {σ : St} {k : Nat} (h : CP σ T L N k) (hk : tkd T L k ≠ 0) (p : Nat) (v2 : Int32) (n j : Nat) (h0 : 0 < j) (hj : j < 2 ^ 31) : pf_X4_readAhead_L2 (n + 1) 594 p v2 (nI j) σ = some σ := by
  rw [pf_X4_readAhead_L2]
  by_cases q : (800 : Int32) ≤ nI j
  · rw [if_pos q]
  · rw [if_neg q, if_neg (nI_ne0 h0 hj), show 594 + 1 = 595 from rfl, ahead_ok h, bind_some, if_neg (fun e => hk (Option.some.inj e))]
theorem al_am {q t : Nat} (hq : q < 6) (ht : t < 3) : alen (66 + 9 * q + 6 + t) = 48 := by
  rcases (by omega : t = 0 ∨ t = 1 ∨ t = 2) with rfl | rfl | rfl
  · exact af_X3_uses (kd66 q hq)
  · exact af_X3_needs (kd66 q hq)
  · exact af_X3_gives (kd66 q hq)
/-- an amount more -/
theorem JQ.am {σ τ : St} {k q S P t i v : Nat} {f : Int32 × Int32 × Int32} (h : JQ T L N σ τ k q S P f) (hS : S < 6) (ht : t < 3) (hi : i < 8) (hv : v ≤ 99) : JQ T L N (sI σ (66 + 9 * q + 6 + t) (S * 8 + i) (nI v)) (sI τ 611 (53 + 186 * q + 6 + 30 * S + 6 + 8 * t + i) (nI v)) k q S P f := by
  obtain ⟨c, m, r, fl, nk⟩ := h
  obtain ⟨h1, h2, h3, h4, h5, h6, h7⟩ := id r
  have eu : ∀ p, p ≠ 66 + 9 * q + 6 + t → gI (sI σ (66 + 9 * q + 6 + t) (S * 8 + i) (nI v)) p = gI σ p := fun p hp => gI_nf _ _ _ hp
  have er : ∀ j, j ≠ 53 + 186 * q + 6 + 30 * S + 6 + 8 * t + i → gI (sI τ 611 (53 + 186 * q + 6 + 30 * S + 6 + 8 * t + i) (nI v)) 611 j = gI τ 611 j := fun j hj => gI_ns _ _ _ hj
  refine ⟨c.w _ _ (by omega), m.w _ _, r.wr h2 (fun p x1 x2 => ⟨eu p (by omega), rfl⟩) (fun j x1 x2 => er j (by omega)) ⟨fun s hs => ?_, fun s hs => (h4.2 s hs).cg (by rw [eu _ (by omega)]) (by rw [eu _ (by omega)]) (er _ (by rcases (by omega : t = 0 ∨ t = 1 ∨ t = 2) with rfl | rfl | rfl <;> omega)) (er _ (by rcases (by omega : t = 0 ∨ t = 1 ∨ t = 2) with rfl | rfl | rfl <;> omega))⟩ ?_ (by rw [gI_ne _ _ _ _ (by decide)]; exact h6), ?_, by rw [er 4 (by omega)]; exact nk⟩
  · by_cases es : s = S
    · subst es
      obtain ⟨p1, p2, p3, p4, p5, p6, p7, p8, p9⟩ := h4.1 s hs
      unfold PS
      rw [eu (66 + 9 * q + 3) (by omega), eu (66 + 9 * q + 4) (by omega), eu (66 + 9 * q + 5) (by omega), er _ (by omega), er _ (by omega), er _ (by omega), er _ (by omega)]
      refine ⟨p1, p2, p3, p4, p5, p6, p7, p8, fun t' ht' i' hi' => ?_⟩
      by_cases e1 : t' = t ∧ i' = i
      · obtain ⟨rfl, rfl⟩ := e1
        rw [gI_at, gI_at]
        exact ⟨rfl, Is.of hv (by omega)⟩
      · rw [er _ (by omega)]
        by_cases e2 : t' = t
        · subst e2
          rw [gI_ns _ _ _ (by omega)]; exact p9 t' ht' i' hi'
        · rw [eu _ (by omega)]; exact p9 t' ht' i' hi'
    · refine (h4.1 s hs).cg (fun p j x1 x2 x3 x4 => ?_) (fun j x1 x2 => er j (by omega))
      by_cases e2 : p = 66 + 9 * q + 6 + t
      · subst e2
        rw [gI_ns _ _ _ (by omega)]
      · rw [eu p e2]
  · unfold HQ
    rw [eu _ (by omega), er _ (by omega), er _ (by omega), er _ (by omega)]
    exact h5
  · exact fl.tk (M := fun p => p = 66 + 9 * q + 6 + t) (A := fun p => p = 611) (B := fun _ => False) (Un.sI _ _ rfl) (by omega) (MU.arr (p := 611) _ _ rfl (by decide)) ⟨fun q => q, fun q => q, fun q => q⟩
theorem amountsJ (hb : TB8 T L) {q S P t : Nat} {f : Int32 × Int32 × Int32} (hS : S < 6) (ht : t < 3) : ∀ m fc fm σ τ k j, N - k ≤ m → m + 1 < fc → m < fm → JQ T L N σ τ k q S P f → j ≤ k → (j = 0 ∨ tkd T L k = 0) → Oc σ τ (pf_X4_readAmounts_L2 fc 594 (66 + 9 * q + 6 + t) (nI S) (nI j) σ) (pf_X11_readsAmounts_L0 pf_X11_readsAmounts_b28 fm 609 (nI (53 + 186 * q + 6 + 30 * S + 6 + 8 * t)) τ) (fun σ' τ' => ∃ k', k < k' ∧ JQ T L N σ' τ' k' q S P f) := by
  intro m
  induction m using Nat.strongRecOn with
  | ind m ih =>
  intro fc fm σ τ k j h1 h2 h3 J hj hjk
  obtain ⟨fc, rfl⟩ : ∃ x, fc = x + 1 := ⟨fc - 1, by omega⟩
  obtain ⟨fm, rfl⟩ : ∃ x, fm = x + 1 := ⟨fm - 1, by omega⟩
  obtain ⟨j1, j2, j3, j4, j5⟩ := id J
  have n8 := j1.N8
  have hkN := j1.2.1
  have hq := j3.1
  have j800 : j < 800 := by
    rcases hjk with x | x
    · omega
    · have := j1.k1 (by omega); omega
  have cl : pf_X4_readAmounts_L2 (fc + 1) 594 (66 + 9 * q + 6 + t) (nI S) (nI j) σ = pf_X4_readAmounts_b26 (pf_X4_readAmounts_L2 fc) 594 (66 + 9 * q + 6 + t) (nI S) (nI j) σ := by
    rw [pf_X4_readAmounts_L2, show (800 : Int32) = nI 800 from rfl, if_neg (nI_ge j800 (by omega))]
    by_cases j0 : j = 0
    · rw [if_pos (by rw [j0]; rfl)]
    · rw [if_neg (nI_ne0 (by omega) (by omega)), show 594 + 1 = 595 from rfl, ahead_ok j1, bind_some, if_pos (by rw [hjk.resolve_left j0])]
  obtain ⟨fc, rfl⟩ : ∃ x, fc = x + 1 := ⟨fc - 1, by omega⟩
  have hp : LM (66 + 9 * q + 6 + t) := by unfold LM; omega
  obtain ⟨τ1, m2, mm⟩ := numJ hb j1 j2 (lo := 0) (hi := 7) (by omega) (by omega)
  have r1 : gI τ1 611 = gI τ 611 := m2.I (by decide) (fun q => q)
  rw [cl, pf_X11_readsAmounts_L0]
  unfold pf_X4_readAmounts_b26
  rw [show 594 + 1 = 595 from rfl, start_ok j1, bind_some]
  rcases mm with ⟨i, i0, i7, c0, k1, a1, a2, a3, a4, a5, a6⟩ | ⟨σ3, c, a1, e2, e4, a3, a4⟩
  · have J1 : JQ T L N (sI σ 595 4 (nI (k + 1))) τ1 (k + 1) q S P f := J.tk a2 a4 (by omega) (Un.sI _ _ rfl) m2
    obtain ⟨x1, x2⟩ := ((j3.2.2.2.1.1 S hS).2.2.2.2.2.2.2.2 t ht i (by omega))
    obtain ⟨x, ex, hx, _⟩ := x2.get
    rw [show pf_X6_number 595 0 7 σ = _ from a1, bnd2_some, show pf_X11_reads 609 0 7 τ = _ from a3, bnd2_some, if_neg (show ¬ (1 : Int32) = 0 by decide), show (8 : Int32) = nI 8 from rfl, pk_mul, nI_add, bnd_e, at_ok (al_am hq ht) (by omega), bind_some, gI_ne _ _ _ _ (by omega), x1, ex, a5, bnd_e, nI_add, ckA (show alen (609 + 2) = 4370 from al611) (by omega), nI_clamp (by omega), show gI τ1 (609 + 2) (53 + 186 * q + 6 + 30 * S + 6 + 8 * t + i) = nI x by rw [show 609 + 2 = 611 from rfl, r1, ex]]
    by_cases x0 : x = 0
    · rw [if_pos (show nI x ≤ 0 by rw [x0]; decide), if_pos (show nI x ≤ 0 by rw [x0]; decide)]
      unfold pf_X4_readAmounts_b72
      rw [show 594 + 1 = 595 from rfl]
      obtain ⟨τ2, n2, nn⟩ := numJ hb J1.1 J1.2.1 (lo := 1) (hi := 99) (by omega) (by omega)
      have r2 : gI τ2 611 = gI τ 611 := (n2.I (by decide) (fun q => q)).trans r1
      rcases nn with ⟨v, v1, v9, d0, k2, b1, b2, b3, b4, b5, b6⟩ | ⟨σ3, c, b1, e2, e4, b3, b4⟩
      · have J2 : JQ T L N (sI (sI σ 595 4 (nI (k + 1))) 595 4 (nI (k + 1 + 1))) τ2 (k + 1 + 1) q S P f := J1.tk b2 b4 (by omega) (Un.sI _ _ rfl) n2
        have J3 := J2.am hS ht (show i < 8 by omega) (show v ≤ 99 by omega)
        rw [show pf_X6_number 595 1 99 (sI σ 595 4 (nI (k + 1))) = _ from b1, bnd2_some, show pf_X11_reads 609 1 99 τ1 = _ from b3, bnd2_some, if_neg (show ¬ (1 : Int32) = 0 by decide), put_ok (al_am hq ht) (by omega), bind_some, nI_1, bnd_e, ckA (show alen (609 + 2) = 4370 from al611) (by omega), bnd_e, show gI τ2 609 19 = nI v from b5]
        obtain ⟨τ4, o1, o2, o3⟩ := mmore J3.2.1
        have J4 := J3.tk J3.1 o3 (Nat.le_refl _) (Un.refl _ _) o2
        rw [show pf_X11_more 609 (sI τ2 (609 + 2) (53 + 186 * q + 6 + 30 * S + 6 + 8 * t + i) (nI v)) = _ from o1, bnd2_some, if_b2]
        have uu : Un LM σ (sI (sI (sI σ 595 4 (nI (k + 1))) 595 4 (nI (k + 1 + 1))) (66 + 9 * q + 6 + t) (S * 8 + i) (nI v)) := (LM.s 4 _ (by unfold LM; omega)).trans ((LM.s 4 _ (by unfold LM; omega)).trans (LM.s _ _ hp))
        have ww : MU (fun i => i = 611) bR τ τ4 := m2.bR.trans (n2.bR.trans (MU.trans (MU.arr (p := 611) _ _ rfl (by decide)) o2.bR))
        by_cases c2 : tkd T L (k + 1 + 1) = 0
        · rw [decide_eq_true c2, if_pos rfl]
          refine (ih (m - 2) (by omega) (fc + 1) fm _ τ4 (k + 1 + 1) (j + 1) (by omega) (by omega) (by omega) J4 (by omega) (Or.inr c2)).sh uu ww ?_
          rintro σ' τ' ⟨k', y1, y2⟩
          exact ⟨k', by omega, y2⟩
        · rw [decide_eq_false c2, if_neg Bool.false_ne_true, amL_ok J4.1 c2 _ _ fc (j + 1) (by omega) (by omega)]
          exact ⟨_, τ4, rfl, uu, ww, Or.inl ⟨rfl, k + 1 + 1, by omega, J4⟩⟩
      · obtain ⟨σ4, g1, g2, g3⟩ := e2.put hp (by omega) (nI (S * 8 + i)) (nI 1)
        rw [show pf_X6_number 595 1 99 (sI σ 595 4 (nI (k + 1))) = _ from b1, bnd2_some, g1, bind_some, nI_1, bnd_e, amL_e _ _ fc (j + 1) g2 (by omega) (by omega), show pf_X11_reads 609 1 99 τ1 = _ from b3, bnd2_some, if_pos rfl]
        exact Oc.bad (Q.id g2) rfl b4 ((LM.s 4 _ (by unfold LM; omega)).trans ((LM.r e4).trans g3)) (m2.bR.trans n2.bR)
    · have nx : ¬ nI x ≤ (0 : Int32) := nI_ge (show 0 < x by omega) (by omega)
      obtain ⟨f1, f2, f3⟩ := mfails a4.2.1 (c := -4) (by decide) (tst T L k)
      rw [if_neg nx, if_neg nx, fail_ok J1.1, bind_some]
      unfold pf_X11_readsAmounts_b28
      rw [a6, f1, bnd2_some, ckZ_0]
      exact Oc.bad (am72_e hp (by omega) (nI S) (nI (S * 8 + i)) fc j (erS_CE (sI σ 595 4 (nI (k + 1))) (by decide) (tst T L k)) (by omega)) rfl f2 ((LM.s 4 _ (by unfold LM; omega)).trans (LM.r (erS_un _ _ _))) (m2.bR.trans f3.bR)
  · obtain ⟨r, hr⟩ := at_tot (66 + 9 * q + 6 + t) (nI S * 8 + nI 0) σ3
    rw [show pf_X6_number 595 0 7 σ = _ from a1, bnd2_some, bnd_e, hr, bind_some, show pf_X11_reads 609 0 7 τ = _ from a3, bnd2_some, if_pos rfl]
    have qq := am72_e hp (by omega) (nI S) (nI S * 8 + nI 0) fc j e2 (by omega)
    refine Oc.bad (σ2 := σ3) (c := c) ?_ rfl a4 (LM.r e4) m2.bR
    by_cases r0 : r ≤ 0
    · rw [if_pos r0]; exact qq
    · rw [if_neg r0, fail_e e2, bind_some]; exact qq
/-- an earlier step more -/
theorem JQ.ah {σ τ : St} {k q S P x : Nat} {f : Int32 × Int32 × Int32} (h : JQ T L N σ τ k q S P f) (hS : S < 6) (hx : x < 2 ^ S) (hx2 : x ≤ 63) : JQ T L N (sI σ (66 + 9 * q + 4) S (nI x)) (sI τ 611 (53 + 186 * q + 6 + 30 * S + 4) (nI x)) k q S P f := by
  obtain ⟨c, m, r, fl, nk⟩ := h
  obtain ⟨h1, h2, h3, h4, h5, h6, h7⟩ := id r
  have eu : ∀ p, p ≠ 66 + 9 * q + 4 → gI (sI σ (66 + 9 * q + 4) S (nI x)) p = gI σ p := fun p hp => gI_nf _ _ _ hp
  have er : ∀ j, j ≠ 53 + 186 * q + 6 + 30 * S + 4 → gI (sI τ 611 (53 + 186 * q + 6 + 30 * S + 4) (nI x)) 611 j = gI τ 611 j := fun j hj => gI_ns _ _ _ hj
  refine ⟨c.w _ _ (by omega), m.w _ _, r.wr h2 (fun p x1 x2 => ⟨eu p (by omega), rfl⟩) (fun j x1 x2 => er j (by omega)) ⟨fun s hs => ?_, fun s hs => (h4.2 s hs).cg (by rw [eu _ (by omega)]) (by rw [eu _ (by omega)]) (er _ (by omega)) (er _ (by omega))⟩ ?_ (by rw [gI_ne _ _ _ _ (by decide)]; exact h6), ?_, by rw [er 4 (by omega)]; exact nk⟩
  · by_cases es : s = S
    · subst es
      obtain ⟨p1, p2, p3, p4, p5, p6, p7, p8, p9⟩ := h4.1 s hs
      unfold PS
      rw [eu (66 + 9 * q + 3) (by omega), gI_at, eu (66 + 9 * q + 5) (by omega), er _ (by omega), er _ (by omega), gI_at, er _ (by omega)]
      refine ⟨p1, p2, p3, rfl, Is.of hx2 (by omega), by rw [Nn_nI (by omega)]; exact hx, p7, p8, fun t' ht' i' hi' => ?_⟩
      rw [er _ (by omega), eu _ (by omega)]; exact p9 t' ht' i' hi'
    · refine (h4.1 s hs).cg (fun p j x1 x2 x3 x4 => ?_) (fun j x1 x2 => er j (by omega))
      by_cases e2 : p = 66 + 9 * q + 4
      · subst e2
        rw [gI_ns _ _ _ (by omega)]
      · rw [eu p e2]
  · unfold HQ
    rw [eu _ (by omega), er _ (by omega), er _ (by omega), er _ (by omega)]
    exact h5
  · exact fl.tk (M := fun p => p = 66 + 9 * q + 4) (A := fun p => p = 611) (B := fun _ => False) (Un.sI _ _ rfl) (by omega) (MU.arr (p := 611) _ _ rfl (by decide)) ⟨fun q => q, fun q => q, fun q => q⟩
theorem afterJ (hb : TB8 T L) {q S P : Nat} {f : Int32 × Int32 × Int32} (hS : S < 6) : ∀ m fc fm σ τ k j, N - k ≤ m → m + 1 < fc → m < fm → JQ T L N σ τ k q S P f → j ≤ k → (j = 0 ∨ tkd T L k = 0) → Oc σ τ (pf_X4_readAhead_L2 fc 594 (66 + 9 * q + 4) (nI S) (nI j) σ) (pf_X11_readsAfter_L0 pf_X11_readsAfter_b35 fm 609 (nI (53 + 186 * q + 6 + 30 * S)) τ) (fun σ' τ' => ∃ k', k < k' ∧ JQ T L N σ' τ' k' q S P f) := by
  intro m
  induction m using Nat.strongRecOn with
  | ind m ih =>
  intro fc fm σ τ k j h1 h2 h3 J hj hjk
  obtain ⟨fc, rfl⟩ : ∃ x, fc = x + 1 := ⟨fc - 1, by omega⟩
  obtain ⟨fm, rfl⟩ : ∃ x, fm = x + 1 := ⟨fm - 1, by omega⟩
  obtain ⟨j1, j2, j3, j4, j5⟩ := id J
  have n8 := j1.N8
  have hkN := j1.2.1
  have hq := j3.1
  have h22 := j3.2.2.2.2.2.1
  have j800 : j < 800 := by
    rcases hjk with x | x
    · omega
    · have := j1.k1 (by omega); omega
  have cl : pf_X4_readAhead_L2 (fc + 1) 594 (66 + 9 * q + 4) (nI S) (nI j) σ = pf_X4_readAhead_b26 (pf_X4_readAhead_L2 fc) 594 (66 + 9 * q + 4) (nI S) (nI j) σ := by
    rw [pf_X4_readAhead_L2, show (800 : Int32) = nI 800 from rfl, if_neg (nI_ge j800 (by omega))]
    by_cases j0 : j = 0
    · rw [if_pos (by rw [j0]; rfl)]
    · rw [if_neg (nI_ne0 (by omega) (by omega)), show 594 + 1 = 595 from rfl, ahead_ok j1, bind_some, if_pos (by rw [hjk.resolve_left j0])]
  obtain ⟨fc, rfl⟩ : ∃ x, fc = x + 1 := ⟨fc - 1, by omega⟩
  have hp : LM (66 + 9 * q + 4) := by unfold LM; omega
  have al : alen (66 + 9 * q + 4) = 6 := af_X3_ahead (kd66 q hq)
  obtain ⟨τ1, m2, mm⟩ := numA hb (S := S) (by omega) j1 j2
  have r1 : gI τ1 611 = gI τ 611 := m2.I (by decide) (fun q => q)
  rw [cl, pf_X11_readsAfter_L0]
  unfold pf_X4_readAhead_b26
  rw [show 594 + 1 = 595 from rfl, start_ok j1, bind_some, h22]
  rcases mm with ⟨i, i7, c0, k1, a1, a2, a3, a4, a5, a6⟩ | ⟨σ3, c, a1, e2, e4, a3, a4⟩
  · have J1 : JQ T L N (sI σ 595 4 (nI (k + 1))) τ1 (k + 1) q S P f := J.tk a2 a4 (by omega) (Un.sI _ _ rfl) m2
    obtain ⟨_, _, _, x1, x2, x3, _⟩ := j3.2.2.2.1.1 S hS
    obtain ⟨x, ex, hx, ex2⟩ := x2.get
    rw [ex2] at x3
    have e4' : gI τ1 (609 + 2) (53 + 186 * q + 6 + 30 * S + 4) = nI x := by rw [show 609 + 2 = 611 from rfl, r1, ex]
    have ck : ∀ {α : Type} (y : Option α), ckI (nI (53 + 186 * q + 6 + 30 * S + 4)) (alen (609 + 2)) y = y := fun y => ckA (show alen (609 + 2) = 4370 from al611) (by omega)
    rw [a1, bnd2_some, a3, bnd2_some, if_neg (show ¬ (1 : Int32) = 0 by decide), at_ok al hS, bind_some, gI_ne _ _ _ _ (by omega), x1, ex, if_u (by omega) (by omega), show (4 : Int32) = nI 4 from rfl, nI_add, ck, nI_clamp (by omega), e4', a5, ishr_nI x (by omega) i (by omega), if_b1]
    by_cases xb : x.testBit i = true
    · obtain ⟨f1, f2, f3⟩ := mfails a4.2.1 (c := -4) (by decide) (tst T L k)
      rw [if_pos xb, if_pos xb, fail_ok J1.1, bind_some]
      unfold pf_X11_readsAfter_b35
      rw [a6, f1, bnd2_some, ckZ_0]
      exact Oc.bad (ah72_e hp (by omega) (nI S) (nI i) fc j (erS_CE (sI σ 595 4 (nI (k + 1))) (by decide) (tst T L k)) (by omega)) rfl f2 ((LM.s 4 _ (by unfold LM; omega)).trans (LM.r (erS_un _ _ _))) (m2.bR.trans f3.bR)
    · have hy : x ||| 1 <<< i < 2 ^ S := Nat.or_lt_two_pow x3 (by rw [Nat.one_shiftLeft]; exact Nat.pow_lt_pow_right (by omega) i7)
      have h64 : (2 : Nat) ^ S ≤ 64 := by
        have := Nat.pow_le_pow_right (n := 2) (by omega) (show S ≤ 6 by omega)
        omega
      have J2 := J1.ah hS hy (by omega)
      rw [if_neg xb, if_neg xb, ck, ck, shl1 i (by omega), or_nI, bnd_e]
      unfold pf_X4_readAhead_b72
      rw [at_ok al hS, bind_some, gI_ne _ _ _ _ (by omega), x1, ex, shl1 i (by omega), or_nI, put_ok al hS, bind_some, nI_1, bnd_e]
      obtain ⟨τ4, o1, o2, o3⟩ := mmore J2.2.1
      have J4 := J2.tk J2.1 o3 (Nat.le_refl _) (Un.refl _ _) o2
      rw [show pf_X11_more 609 (sI τ1 (609 + 2) (53 + 186 * q + 6 + 30 * S + 4) (nI (x ||| 1 <<< i))) = _ from o1, bnd2_some, if_b2]
      have uu : Un LM σ (sI (sI σ 595 4 (nI (k + 1))) (66 + 9 * q + 4) S (nI (x ||| 1 <<< i))) := (LM.s 4 _ (by unfold LM; omega)).trans (LM.s _ _ hp)
      have ww : MU (fun i => i = 611) bR τ τ4 := m2.bR.trans (MU.trans (MU.arr (p := 611) _ _ rfl (by decide)) o2.bR)
      by_cases c2 : tkd T L (k + 1) = 0
      · rw [decide_eq_true c2, if_pos rfl]
        refine (ih (m - 1) (by omega) (fc + 1) fm _ τ4 (k + 1) (j + 1) (by omega) (by omega) (by omega) J4 (by omega) (Or.inr c2)).sh uu ww ?_
        rintro σ' τ' ⟨k', y1, y2⟩
        exact ⟨k', by omega, y2⟩
      · rw [decide_eq_false c2, if_neg Bool.false_ne_true, ahL_ok J4.1 c2 _ _ fc (j + 1) (by omega) (by omega)]
        exact ⟨_, τ4, rfl, uu, ww, Or.inl ⟨rfl, k + 1, by omega, J4⟩⟩
  · obtain ⟨r, hr⟩ := at_tot (66 + 9 * q + 4) (nI S) σ3
    rw [a1, bnd2_some, hr, bind_some, a3, bnd2_some, if_pos rfl]
    have qq := ah72_e hp (by omega) (nI S) 0 fc j e2 (by omega)
    refine Oc.bad (σ2 := σ3) (c := c) ?_ rfl a4 (LM.r e4) m2.bR
    by_cases r0 : iushr r 0 &&& 1 = 0
    · rw [if_pos r0]; exact qq
    · rw [if_neg r0, fail_e e2, bind_some]; exact qq
end
