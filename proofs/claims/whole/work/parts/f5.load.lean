/-! LOAD: the whole call -/
theorem kd61 : kd 61 = 2 := by decide +kernel
theorem LR.RLd {σ : St} {rd : Nat → Int32} {q : Nat} (h : LR σ rd q) : RLd σ 61 rd := by
  obtain ⟨a1, a2, a3, a4, a5, a6, a7, a8, a9, a10, a11, a12, a13⟩ := h
  have N0 : Nn (rd 0) = q := by rw [a3, Nn_nI (by omega)]
  have N2 : Nn (rd 2) = 0 := by rw [a5]; rfl
  refine ⟨by rw [a2, a3], by rw [a4, a5], a6, fun i hi => (a7 i hi).1, fun k hk => ?_, fun q' hq' => ?_, Or.inr a10⟩
  · rw [N2] at hk; exact absurd hk (Nat.not_lt_zero _)
  · rw [N0] at hq'; exact (a9 q' hq').1
theorem LR.VR {σ : St} {rd : Nat → Int32} {q B : Nat} (h : LR σ rd q) (hB : 999 ≤ B) : VR B rd := by
  obtain ⟨a1, a2, a3, a4, a5, a6, a7, a8, a9, a10, a11, a12, a13⟩ := h
  have N0 : Nn (rd 0) = q := by rw [a3, Nn_nI (by omega)]
  have N2 : Nn (rd 2) = 0 := by rw [a5]; rfl
  refine ⟨by rw [a3]; exact Is.of a1 (by omega), by rw [a5]; exact Is.of (n := 0) (by omega) (by omega), a11, a8, fun i hi => (a7 i hi).2.mono hB, fun k hk => ?_, fun q' hq' => ?_, a12⟩
  · rw [N2] at hk; exact absurd hk (Nat.not_lt_zero _)
  · rw [N0] at hq'; exact ⟨(a9 q' hq').2.1, (a9 q' hq').2.2.1⟩
def rrw (τ : St) : Nat → Int32 := fun k => if k < 4370 then gI τ 611 k else 0
theorem LR.rr {σ τ : St} {q : Nat} (h : LR σ (gI τ 611) q) : LR σ (rrw τ) q := by
  have i4 := h.2.2.2.2.2.2.2.1
  have q6 := h.1
  have n4 := i4.2
  have e : ∀ j, j < 4370 → rrw τ j = gI τ 611 j := fun j hj => if_pos hj
  exact h.cg (fun i _ _ => ⟨rfl, rfl⟩) (fun j _ x => e j (by omega)) (by rw [e 4 (by omega)]; exact i4) (by rw [e 4 (by omega)]; exact Nat.le_refl _)
/-- the reference before it reads -/
def rSt (τ : St) (n : Nat) : St := sI (sI (sI (sI (sI (sI τ 609 0 0) 609 15 (nI n)) 609 16 0) 609 14 0) 609 17 0) 609 18 (-1)
section
variable {T : Nat → Int32} {L : Nat}
theorem rSt_ne (τ : St) (n : Nat) {i : Nat} (hi : i ≠ 609) : gI (rSt τ n) i = gI τ i := by
  unfold rSt
  rw [gI_nf _ _ _ hi, gI_nf _ _ _ hi, gI_nf _ _ _ hi, gI_nf _ _ _ hi, gI_nf _ _ _ hi, gI_nf _ _ _ hi]
theorem rSt_RP {τ : St} (h8 : L ≤ 800) (h : ∀ k, k < L → gI τ 618 k = T k) : RP (rSt τ L) T L 0 ∧ gI (rSt τ L) 609 17 = 0 ∧ gI (rSt τ L) 609 18 = -1 := by
  refine ⟨⟨h8, Nat.zero_le _, ?_, ?_, fun k hk => by rw [rSt_ne _ _ (by decide)]; exact h k hk⟩, ?_, gI_at _ _ _ _⟩
  · unfold rSt
    rw [gI_ns _ _ _ (by decide), gI_ns _ _ _ (by decide), gI_ns _ _ _ (by decide), gI_ns _ _ _ (by decide), gI_at]
  · unfold rSt
    rw [gI_ns _ _ _ (by decide), gI_ns _ _ _ (by decide), gI_ns _ _ _ (by decide), gI_at]; rfl
  · unfold rSt
    rw [gI_ns _ _ _ (by decide), gI_at]
/-- whole readings: both readers agree -/
theorem readJ (hb : TB8 T L) {σ τ : St} (tx : TX σ T L) (rp : RP τ T L 0) (h17 : gI τ 609 17 = 0) (h18 : gI τ 609 18 = -1) : ∃ σ' τ' c, pf_X4_read 594 1 (nI L) 61 σ = some (c, σ') ∧ Un LM σ σ' ∧ MU (fun i => i = 611) bR τ τ' ∧ ((pf_X11_readsLedger 609 τ = some (1, τ') ∧ c = 0 ∧ gI σ' 595 6 = -1 ∧ gI τ' 609 18 = -1 ∧ ∃ q, LR σ' (gI τ' 611) q) ∨ (pf_X11_readsLedger 609 τ = some (0, τ') ∧ c ≠ 0 ∧ gI τ' 609 17 = c ∧ gI σ' 595 6 = gI τ' 609 18)) := by
  obtain ⟨σ1, N, s1, s2, s3, s4, s5, s6⟩ := scan_ok tx hb
  obtain ⟨σ2, b1, b2, b3, b4, b5, b6, b7, b8, b9, b10, b11⟩ := beginC σ1
  obtain ⟨τ1, c1, c2, c3⟩ := clearM τ pf_X11_readsLedger_b22
  have n8 : N ≤ 800 := by have := s3.2.2.2; have := tx.1; omega
  have uLM : Un LM σ σ2 := (s2.mono fun i hi => by unfold scM at hi; unfold LM; omega).trans (b2.mono fun i hi => by unfold LM; omega)
  have cp : CP σ2 T L N 0 := ⟨s3.un b2 (by rw [b2.I (by omega)]) ⟨by omega, by omega, by omega⟩, Nat.zero_le _, by rw [b2.I (by omega)]; exact s4, by rw [b2.I (by omega)]; exact s5, by rw [b2.I (by omega)]; exact s6, tx.1⟩
  unfold pf_X4_read pf_X11_readsLedger
  rw [show 594 + 1 = 595 from rfl, s1, bind_some, b1, bind_some, expect_ok cp, bind_some, c1]
  unfold pf_X11_readsLedger_b22
  rw [bnd_e, bnd_e, bnd_e]
  have mp : MP (sI (sI (sI τ1 609 25 0) 609 23 0) 609 24 0) T L 0 := by
    have m0 : MP τ1 T L 0 := by
      refine MP.fm (τ := τ) ⟨⟨0, rp, rfl⟩, h17, h18⟩ c2
    exact ((m0.f 0 (by omega)).f 0 (by omega)).f 0 (by omega)
  have w1 : MU (fun i => i = 611) bR τ (sI (sI (sI τ1 609 25 0) 609 23 0) 609 24 0) := (c2.mono (fun _ q => q) (fun k q => q.elim)).trans (MU.trans (MU.fld _ _ (show 16 ≤ 25 ∧ 25 ≤ 25 by omega)) (MU.trans (MU.fld _ _ (show 16 ≤ 23 ∧ 23 ≤ 25 by omega)) (MU.fld _ _ (show 16 ≤ 24 ∧ 24 ≤ 25 by omega))))
  generalize hτ2 : sI (sI (sI τ1 609 25 0) 609 23 0) 609 24 0 = τ2 at *
  have row : ∀ k, k < 4370 → gI τ2 611 k = 0 := fun k hk => by
    rw [← hτ2, gI_ne _ _ _ _ (by decide), gI_ne _ _ _ _ (by decide), gI_ne _ _ _ _ (by decide)]; exact c3 k hk
  have f25 : gI τ2 609 25 = 0 := by rw [← hτ2, gI_ns _ _ _ (by decide), gI_ns _ _ _ (by decide), gI_at]
  have f23 : gI τ2 609 23 = 0 := by rw [← hτ2, gI_ns _ _ _ (by decide), gI_at]
  have f24 : gI τ2 609 24 = 0 := by rw [← hτ2, gI_at]
  have er : ∀ {τ3 : St} {σ3 : St} {c : Int32} {o : Nat} (cl : Option (Int32 × St)) (ml : Option (Int32 × St)), CE σ3 c o → ME τ3 c o → Un LM σ σ3 → MU (fun i => i = 611) bR τ τ3 → cl = some (c, σ3) → ml = some (0, τ3) → ∃ σ' τ' c, cl = some (c, σ') ∧ Un LM σ σ' ∧ MU (fun i => i = 611) bR τ τ' ∧ ((ml = some (1, τ') ∧ c = 0 ∧ gI σ' 595 6 = -1 ∧ gI τ' 609 18 = -1 ∧ ∃ q, LR σ' (gI τ' 611) q) ∨ (ml = some (0, τ') ∧ c ≠ 0 ∧ gI τ' 609 17 = c ∧ gI σ' 595 6 = gI τ' 609 18)) := fun {τ3 σ3 c o} cl ml y1 y2 y3 y4 y5 y6 => ⟨σ3, τ3, c, y5, y3, y4, Or.inr ⟨y6, y1.2.1, y2.1, by rw [y1.2.2, y2.2.2]⟩⟩
  by_cases t4 : tkd T L 0 = 4
  · obtain ⟨τ3, d1, d2, d3⟩ := mtk (i := 4) (w := 47) (by decide +kernel) mp t4
    have k1 := cp.k1 (by omega)
    have cp1 := cp.next k1
    obtain ⟨τ4, e1, e2, e3, e4⟩ := msign (i := 24) (c := 59) (by omega) (by omega) rfl (by decide) d3
    rw [if_pos t4, expect_ok cp1, bind_some, d1, bnd2_some, i10, e1, bnd2_some, if_b2]
    by_cases c24 : tkd T L (0 + 1) = 24
    · have k2 := cp1.k1 (by omega)
      have cp2 := cp1.next k2
      rw [if_pos c24, decide_eq_true c24, if_pos rfl]
      have u4 := d2.trans e2
      have r4 : gI τ4 611 = gI τ2 611 := u4.I (by decide) (fun q => q)
      generalize hσ3 : sI (sI σ2 595 4 (nI (0 + 1))) 595 4 (nI (0 + 1 + 1)) = σ3 at *
      have us : ∀ p, p ≠ 595 → gI σ3 p = gI σ2 p := fun p y => by rw [← hσ3, gI_nf _ _ _ y, gI_nf _ _ _ y]
      have I0 : ∀ B, Is (0 : Int32) B := fun B => ⟨rfl, Nat.zero_le _⟩
      have lr : LR σ3 (gI τ4 611) 0 := by
        rw [r4]
        have N3 : Nn (gI τ2 611 3) = 0 := by rw [row 3 (by omega)]; rfl
        refine ⟨by omega, by rw [us 61 (by omega)]; exact b5, row 0 (by omega), by rw [us 61 (by omega)]; exact b3, row 2 (by omega), by rw [us 61 (by omega), row 1 (by omega)]; exact b4, fun i hi => by rw [us 62 (by omega), row (5 + i) (by omega)]; exact ⟨b7 i hi, I0 _⟩, by rw [row 4 (by omega)]; exact I0 _, fun q' hq' => absurd hq' (Nat.not_lt_zero _), ?_, by rw [row 3 (by omega)]; exact I0 _, ⟨fun k hk => ?_, fun hk => ?_⟩, fun _ => row 3 (by omega)⟩
        · unfold RW1
          rw [N3, if_pos rfl, us 61 (by omega), us (61 + 4) (by omega)]
          exact ⟨b6, b8⟩
        · rw [N3] at hk; exact absurd hk (Nat.not_lt_zero _)
        · rw [N3] at hk; exact absurd hk (Nat.not_lt_zero _)
      have lz : LZ T L N σ3 τ4 (0 + 1 + 1) 0 (0, 0, 0) := ⟨cp2, e3 c24, lr, ⟨by rw [us 594 (by omega)]; exact b9, (u4.F (by unfold bL; omega)).trans f25, by rw [us 594 (by omega)]; exact b10, (u4.F (by unfold bL; omega)).trans f23, by rw [us 594 (by omega)]; exact b11, (u4.F (by unfold bL; omega)).trans f24⟩, by rw [r4, row 4 (by omega)]; exact Nat.zero_le _, fun j y1 y2 => by rw [r4]; exact row j (by omega)⟩
      obtain ⟨σ', τ', c, z1, z2, z3, z4⟩ := ledgerLJ hb N FU FU σ3 τ4 (0 + 1 + 1) 0 (0, 0, 0) 0 (by omega) (lt_FU (by omega)) (lt_FU (by omega)) lz ⟨0, by omega, rfl⟩ (by omega)
      refine ⟨σ', τ', c, z1, ?_, w1.trans (u4.bR.trans z3), ?_⟩
      · refine uLM.trans (Un.trans ?_ z2)
        rw [← hσ3]
        exact (LM.s 4 _ (by unfold LM; omega)).trans (LM.s 4 _ (by unfold LM; omega))
      · rcases z4 with ⟨z5, z6, k', q', f', z7⟩ | ⟨z5, o, z6, z7⟩
        · exact Or.inl ⟨z5, z6, z7.1.2.2.2.2.1, z7.2.1.2.2, q', z7.2.2.1⟩
        · exact Or.inr ⟨z5, z6.2.1, z7.1, by rw [z6.2.2, z7.2.2]⟩
    · rw [if_neg c24, decide_eq_false c24, if_neg Bool.false_ne_true]
      exact er _ _ (erS_CE _ (by decide) _) (e4 c24) (uLM.trans ((LM.s 4 _ (by unfold LM; omega)).trans (LM.r (erS_un _ _ _)))) (w1.trans (d2.trans e2).bR) (readL_e 999999 0 (erS_CE _ (by decide) _)) rfl
  · obtain ⟨τ3, d1, d2, d3, d4⟩ := mtn (i := 4) (w := 47) (by decide +kernel) mp t4
    obtain ⟨f1, f2, f3⟩ := mfails d3.2.1 (c := -2) (by decide) (tst T L 0)
    have ce : CE (erS σ2 (-2) (tst T L 0)) (-2) (tst T L 0) := erS_CE _ (by decide) _
    rw [if_neg t4, expect_e ce (by omega), bind_some, d1, bnd2_some, i00, d4, f1, bnd2_some, ckZ_0]
    exact er _ _ ce f2 (uLM.trans (LM.r (erS_un _ _ _))) (w1.trans (d2.trans f3).bR) (readL_e 999999 0 ce) rfl
end
