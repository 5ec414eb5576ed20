/-! LOAD: a whole step; a quest begins; both readers -/
section
variable {T : Nat → Int32} {L N : Nat}
theorem JQ.ri {σ τ : St} {k q S v : Nat} {f : Int32 × Int32 × Int32} (h : JQ T L N σ τ k q S S f) (hS : S < 6) : JQ T L N (sI σ (66 + 9 * q + 1) S (nI v)) (sI τ 611 (53 + 186 * q + 6 + 30 * S) (nI v)) k q S S f := by
  obtain ⟨c, m, r, fl, nk⟩ := h
  obtain ⟨h1, h2, h3, h4, h5, h6, h7⟩ := id r
  have eu : ∀ p, p ≠ 66 + 9 * q + 1 → gI (sI σ (66 + 9 * q + 1) S (nI v)) p = gI σ p := fun p hp => gI_nf _ _ _ hp
  have er : ∀ j, j ≠ 53 + 186 * q + 6 + 30 * S → gI (sI τ 611 (53 + 186 * q + 6 + 30 * S) (nI v)) 611 j = gI τ 611 j := fun j hj => gI_ns _ _ _ hj
  refine ⟨c.w _ _ (by omega), m.w _ _, r.wr h2 (fun p x1 x2 => ⟨eu p (by omega), rfl⟩) (fun j x1 x2 => er j (by omega)) ⟨fun s hs => (h4.1 s hs).cg (fun p j x1 x2 x3 x4 => by rw [eu p (by omega)]) (fun j x1 x2 => er j (by omega)), fun s hs => (h4.2 s hs).cg (gI_ns _ _ _ (by omega)) (by rw [eu _ (by omega)]) (er _ (by omega)) (er _ (by omega))⟩ ?_ (by rw [gI_ne _ _ _ _ (by decide)]; exact h6), ?_, by rw [er 4 (by omega)]; exact nk⟩
  · unfold HQ
    rw [eu _ (by omega), er _ (by omega), er _ (by omega), er _ (by omega)]
    exact h5
  · exact fl.tk (M := fun p => p = 66 + 9 * q + 1) (A := fun p => p = 611) (B := fun _ => False) (Un.sI _ _ rfl) (by omega) (MU.arr (p := 611) _ _ rfl (by decide)) ⟨fun q => q, fun q => q, fun q => q⟩
theorem JQ.li {σ τ : St} {k q S v : Nat} {f : Int32 × Int32 × Int32} (h : JQ T L N σ τ k q S S f) (hS : S < 6) (hv1 : 1 ≤ v) (hv9 : v ≤ 9) (e1 : gI σ (66 + 9 * q + 1) S = gI τ 611 (53 + 186 * q + 6 + 30 * S)) (e2 : Is (gI τ 611 (53 + 186 * q + 6 + 30 * S)) 100) : JQ T L N (sI σ (66 + 9 * q + 2) S (nI v)) (sI τ 611 (53 + 186 * q + 6 + 30 * S + 1) (nI v)) k q S (S + 1) f := by
  obtain ⟨c, m, r, fl, nk⟩ := h
  obtain ⟨h1, h2, h3, h4, h5, h6, h7⟩ := id r
  have eu : ∀ p, p ≠ 66 + 9 * q + 2 → gI (sI σ (66 + 9 * q + 2) S (nI v)) p = gI σ p := fun p hp => gI_nf _ _ _ hp
  have er : ∀ j, j ≠ 53 + 186 * q + 6 + 30 * S + 1 → gI (sI τ 611 (53 + 186 * q + 6 + 30 * S + 1) (nI v)) 611 j = gI τ 611 j := fun j hj => gI_ns _ _ _ hj
  refine ⟨c.w _ _ (by omega), m.w _ _, r.wr h2 (fun p x1 x2 => ⟨eu p (by omega), rfl⟩) (fun j x1 x2 => er j (by omega)) ⟨fun s hs => (h4.1 s hs).cg (fun p j x1 x2 x3 x4 => by rw [eu p (by omega)]) (fun j x1 x2 => er j (by omega)), fun s hs => ?_⟩ ?_ (by rw [gI_ne _ _ _ _ (by decide)]; exact h6), ?_, by rw [er 4 (by omega)]; exact nk⟩
  · by_cases es : s = S
    · subst es
      unfold PF
      rw [eu (66 + 9 * q + 1) (by omega), gI_at, er _ (by omega), gI_at]
      exact ⟨e1, rfl, e2, Is.of hv9 (by omega), by rw [Nn_nI (by omega)]; exact hv1⟩
    · exact (h4.2 s (by omega)).cg (by rw [eu _ (by omega)]) (gI_ns _ _ _ es) (er _ (by omega)) (er _ (by omega))
  · unfold HQ
    rw [eu _ (by omega), er _ (by omega), er _ (by omega), er _ (by omega)]
    exact h5
  · exact fl.tk (M := fun p => p = 66 + 9 * q + 2) (A := fun p => p = 611) (B := fun _ => False) (Un.sI _ _ rfl) (by omega) (MU.arr (p := 611) _ _ rfl (by decide)) ⟨fun q => q, fun q => q, fun q => q⟩
theorem stepJ (hb : TB8 T L) {q S : Nat} {f : Int32 × Int32 × Int32} {σ τ0 τ : St} {k : Nat} (J0 : JQ T L N σ τ0 k q S S f) (u0 : MU noA bL τ0 τ) (m : MP τ T L (k + 1)) (hk : tkd T L k = 9) : Oc σ τ0 (pf_X4_readStep 594 (66 + 9 * q) σ) (pf_X11_readsStep 609 (nI (53 + 186 * q)) (nI (tst T L k)) τ) (fun σ' τ' => S < 6 ∧ ∃ k', k < k' ∧ JQ T L N σ' τ' k' q (S + 1) (S + 1) f) := by
  obtain ⟨j1, j2, j3, j4, j5⟩ := id J0
  have n8 := j1.N8
  have hkN := j1.2.1
  have hq := j3.1
  have hS6 := j3.2.1
  have h0 := j3.2.2.2.2.1.1
  have h22 : gI τ 609 22 = nI S := (u0.F (by unfold bL; omega)).trans j3.2.2.2.2.2.1
  have k1 := j1.k1 (by omega)
  have ha : 66 ≤ 66 + 9 * q ∧ 66 + 9 * q < 112 := by omega
  have al1' : alen (66 + 9 * q + 1) = 6 := af_X3_risk (kd66 q hq)
  have al2' : alen (66 + 9 * q + 2) = 6 := af_X3_limit (kd66 q hq)
  unfold pf_X4_readStep pf_X11_readsStep
  rw [bnd_e, h0, h22]
  by_cases s6 : S = 6
  · subst s6
    obtain ⟨f1, f2, f3⟩ := mfails m.2.1 (c := -5) (by decide) (tst T L k)
    rw [show (6 : Int32) = nI 6 from rfl, if_neg (nI_nlt (Nat.le_refl _) (by omega)), if_pos rfl, show 594 + 1 = 595 from rfl, start_ok j1, bind_some, fail_ok j1, bind_some, f1, bnd2_some, ckZ_0]
    exact Oc.bad (Q.id (erS_CE σ (by decide) _)) rfl f2 (LM.r (erS_un _ _ _)) (u0.trans f3).bR
  have hS : S < 6 := by omega
  have J1 : JQ T L N (sI σ 595 4 (nI (k + 1))) τ (k + 1) q S S f := J0.tk (j1.next k1) m (by omega) (Un.sI _ _ rfl) u0
  have ck : ∀ {α : Type} (j : Nat) (y : Option α), j < 4370 → ckI (nI j) (alen (609 + 2)) y = y := fun j y h => ckA (show alen (609 + 2) = 4370 from al611) h
  rw [show (6 : Int32) = nI 6 from rfl, if_pos (nI_lt hS (by omega)), if_neg (show ¬ nI S = nI 6 by rw [nI_eq (by omega) (by omega)]; exact s6), show 594 + 1 = 595 from rfl, expect_ok j1, if_pos hk, bind_some, show (30 : Int32) = nI 30 from rfl, pk_mul, nI_add, nI_add, bnd_e]
  obtain ⟨τ1, m1, mm⟩ := numJ hb J1.1 J1.2.1 (lo := 0) (hi := 100) (by omega) (by omega)
  rcases mm with ⟨v, v0, v1, d0, k2, a1, a2, a3, a4, a5, a6⟩ | ⟨σ3, c, a1, e2, e4, a3, a4⟩
  · have J2 := J1.tk a2 a4 (by omega) (Un.sI _ _ rfl) m1
    have J3 := J2.ri (v := v) hS
    have e1 : gI (sI (sI (sI σ 595 4 (nI (k + 1))) 595 4 (nI (k + 1 + 1))) (66 + 9 * q + 1) S (nI v)) (66 + 9 * q + 1) S = gI (sI τ1 611 (53 + 186 * q + 6 + 30 * S) (nI v)) 611 (53 + 186 * q + 6 + 30 * S) := by rw [gI_at, gI_at]
    have e2 : Is (gI (sI τ1 611 (53 + 186 * q + 6 + 30 * S) (nI v)) 611 (53 + 186 * q + 6 + 30 * S)) 100 := by rw [gI_at]; exact Is.of v1 (by omega)
    rw [show pf_X6_number 595 0 100 (sI σ 595 4 (nI (k + 1))) = _ from a1, bnd2_some, put_ok al1' hS, bind_some, show pf_X11_reads 609 0 100 τ = _ from a3, bnd2_some, i10, show nI (53 + 186 * q + 6 + 30 * S) + 0 = nI (53 + 186 * q + 6 + 30 * S) from nI_add _ 0, ck _ _ (by omega), nI_clamp (by omega), bnd_e, a5]
    obtain ⟨τ2, n1, nn⟩ := numJ hb J3.1 J3.2.1 (lo := 1) (hi := 9) (by omega) (by omega)
    have uu : Un LM σ (sI (sI (sI σ 595 4 (nI (k + 1))) 595 4 (nI (k + 1 + 1))) (66 + 9 * q + 1) S (nI v)) := (LM.s 4 _ (by unfold LM; omega)).trans ((LM.s 4 _ (by unfold LM; omega)).trans (LM.s _ _ (by unfold LM; omega)))
    have ww : MU (fun i => i = 611) bR τ0 τ2 := u0.bR.trans (m1.bR.trans (MU.trans (MU.arr (p := 611) _ _ rfl (by decide)) n1.bR))
    rcases nn with ⟨w, w1, w9, f0, k3, b1, b2, b3, b4, b5, b6⟩ | ⟨σ3, c, b1, e2', e4, b3, b4⟩
    · have J4 := J3.tk b2 b4 (by omega) (Un.sI _ _ rfl) n1
      have J5 := J4.li (v := w) hS w1 w9 (by rw [gI_ne _ _ _ _ (by omega), n1.I (by decide) (fun q => q)]; exact e1) (by rw [n1.I (by decide) (fun q => q)]; exact e2)
      have := stepLJ hb hS N FU FU _ _ (k + 1 + 1 + 1) 0 (by omega) (lt_FU (by omega)) (lt_FU (by omega)) J5 (by omega)
      rw [show pf_X6_number 595 1 9 (sI (sI (sI σ 595 4 (nI (k + 1))) 595 4 (nI (k + 1 + 1))) (66 + 9 * q + 1) S (nI v)) = _ from b1, bnd2_some, put_ok al2' hS, bind_some, show pf_X11_reads 609 1 9 (sI τ1 (609 + 2) (53 + 186 * q + 6 + 30 * S) (nI v)) = _ from b3, bnd2_some, i10, nI_1, ck _ _ (by omega), nI_clamp (by omega), bnd_e, b5]
      refine this.sh (uu.trans ((LM.s 4 _ (by unfold LM; omega)).trans (LM.s _ _ (by unfold LM; omega)))) (ww.trans (MU.arr (p := 611) _ _ rfl (by decide))) ?_
      rintro σ' τ' ⟨k', y1, y2⟩
      exact ⟨hS, k', by omega, y2⟩
    · obtain ⟨σ4, g1, g2, g3⟩ := e2'.put (p := 66 + 9 * q + 2) (by unfold LM; omega) (by omega) (nI S) (nI 1)
      rw [show pf_X6_number 595 1 9 (sI (sI (sI σ 595 4 (nI (k + 1))) 595 4 (nI (k + 1 + 1))) (66 + 9 * q + 1) S (nI v)) = _ from b1, bnd2_some, g1, bind_some, show pf_X11_reads 609 1 9 (sI τ1 (609 + 2) (53 + 186 * q + 6 + 30 * S) (nI v)) = _ from b3, bnd2_some]
      exact Oc.bad (stepL_e (by unfold LM; omega) (by omega) (nI S) 999999 0 g2) (i00 _ _) b4 (uu.trans ((LM.r e4).trans g3)) ww
  · obtain ⟨σ4, g1, g2, g3⟩ := e2.put (p := 66 + 9 * q + 1) (by unfold LM; omega) (by omega) (nI S) (nI 0)
    rw [show pf_X6_number 595 0 100 (sI σ 595 4 (nI (k + 1))) = _ from a1, bnd2_some, g1, bind_some, show pf_X11_reads 609 0 100 τ = _ from a3, bnd2_some, i00]
    exact Oc.bad (step2_e ha (nI S) g2) rfl a4 ((LM.s 4 _ (by unfold LM; omega)).trans ((LM.r e4).trans g3)) (u0.trans m1).bR
/-- a quest is cleared -/
theorem clearQ {a : Nat} (σ : St) : ∃ σ', pf_X3_clear a σ = some σ' ∧ Un (fun i => a ≤ i ∧ i < a + 9) σ σ' ∧ gI σ' a 0 = 0 ∧ gI σ' a 1 = 0 ∧ gI σ' a 2 = 0 ∧ ∀ t, 3 ≤ t → t < 9 → ∀ k, k < alen (a + t) → gI σ' (a + t) k = 0 := by
  unfold pf_X3_clear pf_X3_beginAnew
  rw [bnd_e, bnd_e, bnd_e]
  generalize h0 : sI (sI (sI σ a 0 0) a 1 0) a 2 0 = σ0
  have u0 : Un (fun i => a ≤ i ∧ i < a + 9) σ σ0 := by
    rw [← h0]
    exact (Un.sI _ _ (by omega)).trans ((Un.sI _ _ (by omega)).trans (Un.sI _ _ (by omega)))
  have z0 : gI σ0 a 0 = 0 := by rw [← h0, gI_ns _ _ _ (by decide), gI_ns _ _ _ (by decide), gI_at]
  have z1 : gI σ0 a 1 = 0 := by rw [← h0, gI_ns _ _ _ (by decide), gI_at]
  have z2 : gI σ0 a 2 = 0 := by rw [← h0, gI_at]
  obtain ⟨σ3, a3, b3, c3⟩ := fill_ok (a + 3) 0 σ0
  obtain ⟨σ4, a4, b4, c4⟩ := fill_ok (a + 4) 0 σ3
  obtain ⟨σ5, a5, b5, c5⟩ := fill_ok (a + 5) 0 σ4
  obtain ⟨σ6, a6, b6, c6⟩ := fill_ok (a + 6) 0 σ5
  obtain ⟨σ7, a7, b7, c7⟩ := fill_ok (a + 7) 0 σ6
  obtain ⟨σ8, a8, b8, c8⟩ := fill_ok (a + 8) 0 σ7
  rw [a3, bind_some, bind_some, a4, bind_some, a5, bind_some, a6, bind_some, a7, bind_some, a8, bind_some]
  have M : ∀ {p : Nat} {s s' : St}, a ≤ p → p < a + 9 → Un (fun i => i = p) s s' → Un (fun i => a ≤ i ∧ i < a + 9) s s' := fun h1 h2 u => u.mono fun i hi => by omega
  have e : ∀ p, p ≠ a + 3 → p ≠ a + 4 → p ≠ a + 5 → p ≠ a + 6 → p ≠ a + 7 → p ≠ a + 8 → gI σ8 p = gI σ0 p := fun p h3 h4 h5 h6 h7 h8 => by rw [b8.I h8, b7.I h7, b6.I h6, b5.I h5, b4.I h4, b3.I h3]
  refine ⟨σ8, rfl, u0.trans ((M (by omega) (by omega) b3).trans ((M (by omega) (by omega) b4).trans ((M (by omega) (by omega) b5).trans ((M (by omega) (by omega) b6).trans ((M (by omega) (by omega) b7).trans (M (by omega) (by omega) b8)))))), by rw [e a (by omega) (by omega) (by omega) (by omega) (by omega) (by omega)]; exact z0, by rw [e a (by omega) (by omega) (by omega) (by omega) (by omega) (by omega)]; exact z1, by rw [e a (by omega) (by omega) (by omega) (by omega) (by omega) (by omega)]; exact z2, fun t t1 t2 k hk => ?_⟩
  rcases (by omega : t = 3 ∨ t = 4 ∨ t = 5 ∨ t = 6 ∨ t = 7 ∨ t = 8) with rfl | rfl | rfl | rfl | rfl | rfl
  · rw [b8.I (by omega), b7.I (by omega), b6.I (by omega), b5.I (by omega), b4.I (by omega)]; exact c3 k hk
  · rw [b8.I (by omega), b7.I (by omega), b6.I (by omega), b5.I (by omega)]; exact c4 k hk
  · rw [b8.I (by omega), b7.I (by omega), b6.I (by omega)]; exact c5 k hk
  · rw [b8.I (by omega), b7.I (by omega)]; exact c6 k hk
  · rw [b8.I (by omega)]; exact c7 k hk
  · exact c8 k hk
end
