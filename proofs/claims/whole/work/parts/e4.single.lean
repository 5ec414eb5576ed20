/-! GOALS: a single goal, both readers -/
section
variable {T : Nat → Int32} {L N S : Nat}
theorem Ogg.sh {σ σ2 τ τ2 : St} {k k2 n d : Nat} {cl : Option (Int64 × St)} {ml : Option (Int32 × St)} (h : Ogg T L N S σ2 τ2 k2 n d cl ml) (a : FCg d σ σ2) (b : FMg τ τ2) (e : gI τ2 611 = gI τ 611) (hk : k ≤ k2) : Ogg T L N S σ τ k n d cl ml := by
  obtain ⟨g, σ', τ', z1, z2, z3, z4⟩ := h
  refine ⟨g, σ', τ', z1, a.trans z2, b.trans z3, ?_⟩
  rcases z4 with ⟨z5, z6, k', n', z7, z8, z9, z10, z11⟩ | z5
  · exact Or.inl ⟨z5, z6, k', n', by omega, z8, z9, (Kg.eq n e).trans z10 (Nat.le_refl _), by omega⟩
  · exact Or.inr z5
theorem JG.q {σ σ' τ τ' : St} {k k' n d : Nat} (J : JG T L N S σ τ k n d) (c : CP σ' T L N k') (m : MP τ' T L k') (hk : k ≤ k') (u : MU noA bL τ τ') : JG T L N S σ' τ' k' n d := ⟨c, m, by rw [u.I (by decide) (fun q => q)]; exact J.2.2.1, by have := J.2.2.2.1; omega, (u.F (by unfold bL; omega)).trans J.2.2.2.2.1, (u.F (by unfold bL; omega)).trans J.2.2.2.2.2⟩
theorem CP.k1 {σ : St} {k : Nat} (h : CP σ T L N k) (c : tkd T L k ≠ 1) : k < N := h.lt.mp (by
  have h1 : tst T L k ≠ L := fun e => c ((tkd_1 h.le).mpr e)
  have h2 := h.le
  omega)
theorem singleJ (hb : TB8 T L) {rcC : Nat → Nat → Int32 → Int32 → St → Option (Int64 × St)} {rcM : Nat → St → Option (Int32 × St)} {d : Nat} (hd : d ≤ 4) (hS1 : 1 ≤ S) (hS6 : S ≤ 6) (H : d < 4 → ∀ σ τ k n, JG T L N S σ τ k n (d + 1) → Ogg T L N S σ τ k n (d + 1) (rcC 599 595 (nI S) (nI (d + 1)) σ) (rcM 609 τ)) {σ τ : St} {k n : Nat} (J : JG T L N S σ τ k n d) : Ogg T L N S σ τ k n d (pf_X0_readSingle rcC 599 595 (nI S) (nI d) σ) (pf_X11_readsSingle rcM 609 τ) := by
  obtain ⟨j1, j2, j3, j4, j5, j6⟩ := id J
  have n8 := j1.N8
  have hkN := j1.2.1
  have hL := j1.le
  obtain ⟨τ1, g1, g2, g3, g4, g5⟩ := mhere j2
  have r1 : gI τ1 611 = gI τ 611 := g2.I (by decide) (fun q => q)
  have e21 : gI τ1 609 21 = nI d := (g2.F (by unfold bL; omega)).trans j5
  have si := sign_iff (k := k) (i := 26) (c := 40) (by omega) (by omega) rfl hL
  unfold pf_X0_readSingle pf_X11_readsSingle
  rw [ahead_ok j1, bind_some, g1, bnd2_some]
  by_cases c26 : tkd T L k = 26
  · obtain ⟨y1, y2⟩ := si.mp c26
    have er1 : (if tst T L k < L then T (tst T L k) else (-1 : Int32)) = 40 := by rw [if_pos y1]; exact y2
    obtain ⟨τ2, o1, o2, o3⟩ := mopens g3 c26 hd e21
    have k1 := j1.lt.mp y1
    have f2 : FMg τ τ2 := (FMg.l g2).trans (FMg.q o1 o2)
    have r2 : gI τ2 611 = gI τ 611 := o2.trans r1
    rw [c26, if_neg (show ¬ (some 26 : Option Nat) = some 0 by decide), if_pos er1]
    unfold pf_X0_readGroup
    rw [open_ok j1 (by omega), if_pos c26]
    rcases o3 with ⟨d4, q1, q2, q3⟩ | ⟨d4, q1, q2⟩
    · rw [if_pos d4, bnd2_some, if_neg (show ¬ (1 : Int32) = 0 by decide), q1, bnd2_some, if_neg (show ¬ (1 : Int32) = 0 by decide)]
      obtain ⟨σ2, s1, s2, s3, s4⟩ := init_ok rcC (pf_X0_readGroup_b45 rcC) (d := d) (by omega) (nI S) 1 1 (sI σ 595 4 (nI (k + 1)))
      rw [s1]
      have J2 : JG T L N S σ2 τ2 (k + 1) n (d + 1) := ⟨(j1.next k1).un s2 ⟨by decide, by decide, by decide, by decide⟩, q2, by rw [r2]; exact j3, by omega, q3, by rw [f2.F22]; exact j6⟩
      obtain ⟨g, σ3, τ3, a1, a2, a3, a4⟩ := H d4 _ _ _ _ J2
      obtain ⟨σ4, b1, b2, b3, b4⟩ := tally_ok g (show d ≤ 3 by omega) (s3.fc a2)
      unfold pf_X0_readGroup_b45
      rw [nI_1, a1, bnd2_some, b1, bind_some, show FU = 999999 + 1 from rfl, pf_X0_readGroup_L62, if_pos (show (1 : Int32) ≤ 1 by decide)]
      have fc : FCg d σ σ4 := (FCg.s σ 4 _).trans ((FCg.t s2 s4).trans (a2.dn.trans (FCg.t b2 b4)))
      have fm : FMg τ τ3 := f2.trans a3
      rcases a4 with ⟨m1, gv, k', n', x1, x2, x3, x4, x5⟩ | ⟨m1, c', o', x1, x2⟩
      · rw [m1, bnd2_some, if_neg (show ¬ (1 : Int32) = 0 by decide)]
        obtain ⟨i1, i2, i3, i4, i5, i6⟩ := id x2
        have i1' : CP σ4 T L N k' := i1.un b2 ⟨by decide, by decide, by decide, by decide⟩
        obtain ⟨τ4, t1, t2, t3⟩ := mcloses i2 i5
        have gb : ∀ u, u < 64 → gbit (gL σ4 600 (7 * d + 1)) u = gbit g u := fun u hu => by
          rw [b3 1 (by omega) u hu]
          show decide (1 ≤ 0 + (gbit g u).toNat) = gbit g u
          cases gbit g u
          · rfl
          · rfl
        unfold pf_X0_readGroup_b99
        rw [expect_ok i1', bind_some]
        have kp : Kg τ τ3 n := (Kg.eq n r2).trans x4 (Nat.le_refl _)
        rcases t3 with ⟨t4, t5, t6, t7⟩ | ⟨t4, t5, t6⟩
        · have k2 := i1'.k1 (by omega)
          rw [if_pos t4, show pf_X0_tallied 599 (nI d) 1 (sI σ4 595 4 (nI (k' + 1))) = _ from tallied_ok (i := 1) (by omega) (by omega), bind_some, bnd2_some, t5, bnd2_some, if_neg (show ¬ (1 : Int32) = 0 by decide)]
          refine ⟨gL σ4 600 (7 * d + 1), _, τ4, rfl, fc.trans (FCg.s σ4 4 _), fm.trans (FMg.q t1 t2), Or.inl ⟨rfl, ⟨by rw [gb 0 (by omega)]; exact gv.1, fun u hu => by rw [gb u hu, gb _ (by have := Nat.mod_le u (2 ^ S); omega)]; exact gv.2 u hu⟩, k' + 1, n', by omega, ⟨i1'.next k2, t6, by rw [t2]; exact i3, by omega, t7, by rw [t1.1.F (by unfold bS; omega)]; exact i6⟩, ?_, kp.trans (Kg.eq n t2) (Nat.le_refl _), by omega⟩⟩
          exact (x3.kg (Kg.eq n' t2) (Nat.le_refl _)).cg fun u hu => by
            show [gbit (gL σ4 600 (7 * d + 1)) u] = [gbit g u]
            rw [gb u hu]
        · obtain ⟨r, hr⟩ := tallied_tot (nI d) 1 (erS σ4 (-2) (tst T L k'))
          rw [if_neg t4, hr, bind_some, bnd2_some, t5, bnd2_some, if_pos rfl]
          exact ⟨r, _, τ4, rfl, fc.trans (FCg.r (erS_un _ _ _)), fm.trans (FMg.q t1 t2), Or.inr ⟨rfl, _, _, erS_CE σ4 (by decide) _, t6⟩⟩
      · have ce : CE σ4 c' o' := x1.un b2 (by decide)
        obtain ⟨r, hr⟩ := group99_e rcC (nI d) 1 ce
        rw [m1, bnd2_some, if_pos rfl, hr, bnd2_some]
        exact ⟨r, σ4, τ3, rfl, fc, fm, Or.inr ⟨rfl, c', o', ce, x2⟩⟩
    · rw [if_neg (show ¬ d < 4 by omega), bnd2_some, if_pos rfl, bnd2_some, q1, bnd2_some, if_pos rfl]
      exact ⟨0, _, τ2, rfl, (FCg.r (erS_un _ _ _)).trans (FCg.s _ 4 _), f2, Or.inr ⟨rfl, _, _, (erS_CE σ (by decide) _).s 4 _ (by decide) (by decide), q2⟩⟩
  · have er1 : ¬ (if tst T L k < L then T (tst T L k) else (-1 : Int32)) = 40 := fun e => by
      by_cases y : tst T L k < L
      · rw [if_pos y] at e; exact c26 (si.mpr ⟨y, e⟩)
      · rw [if_neg y] at e; exact absurd e (by decide)
    rw [if_neg er1]
    obtain ⟨τ2, p1, p2, p3, p4⟩ := mdig hb g3
    rw [p1, bnd2_some, if_b2]
    have u2 : MU noA bL τ τ2 := g2.trans p2
    by_cases c0 : tkd T L k = 0
    · obtain ⟨p5, p6, rv, p7, p8, p9, p10⟩ := p3 c0
      have k1 := j1.k1 (by omega)
      have c1 := j1.next k1
      obtain ⟨τ3, t1, t2, t3, t4⟩ := mtakes (i := 18) (w := 35) (by decide +kernel) p5
      have u3 : MU noA bL τ τ3 := u2.trans t2
      have r3 : gI τ3 611 = gI τ 611 := u3.I (by decide) (fun q => q)
      generalize hnv : nvl T L k = nv at *
      rw [if_pos (show (some (tkd T L k) : Option Nat) = some 0 by rw [c0]), start_ok j1, bind_some, number6 j1, if_pos c0, hnv, bnd2_some, take_ok c1 18, bnd2_some, if_b2, decide_eq_true c0, if_pos rfl, p7, bnd_e, p6, bnd_e, t1, bnd2_some, if_b2]
      by_cases c18 : tkd T L (k + 1) = 18
      · have k2 := c1.k1 (by omega)
        have c2 := c1.next k2
        rw [if_pos c18] at t3
        rw [decide_eq_true c18, if_pos rfl, if_pos rfl, if_pos c18, isIn_ok, bind_some, if_b2, show (1 : Int32) = nI 1 from rfl, show (6 : Int32) = nI 6 from rfl]
        have J3 : JG T L N S (sI (sI σ 595 4 (nI (k + 1))) 595 4 (nI (k + 1 + 1))) τ3 (k + 1 + 1) n d := J.q c2 t3 (by omega) u3
        have fc : FCg d σ (sI (sI σ 595 4 (nI (k + 1))) 595 4 (nI (k + 1 + 1))) := (FCg.s σ 4 _).trans (FCg.s _ 4 _)
        by_cases hr : 1 ≤ nv ∧ nv ≤ 6
        · have erv : rv = nv := by omega
          subst erv
          rw [if_neg (nI_nlt hr.1 (by omega)), if_pos (nI_le hr.2 (by omega)), decide_eq_true (show ¬ nI rv < nI 1 ∧ ¬ nI 6 < nI rv from ⟨nI_nlt hr.1 (by omega), nI_nlt hr.2 (by omega)⟩), if_pos rfl]
          have := (severalJ (rcC := rcC) (rcM := rcM) hd hr.1 hr.2 H J3).sh fc (FMg.l u3) r3 (show k ≤ k + 1 + 1 by omega)
          unfold pf_X0_readSingle_b66
          obtain ⟨g, σ', τ', z1, z2, z3, z4⟩ := this
          refine ⟨g, σ', τ', ?_, z2, z3, ?_⟩
          · rw [show (800 : Int32) = nI 800 from rfl, z1, bnd2_some]
          · rcases z4 with ⟨z5, z6⟩ | ⟨z5, z6⟩
            · exact Or.inl ⟨by rw [z5, bnd2_some, ckZ_1], z6⟩
            · exact Or.inr ⟨by rw [z5, bnd2_some, ckZ_0], z6⟩
        · have b58 : ∃ σ', pf_X0_readSingle_b58 rcC 599 595 (nI S) (nI d) (nI (tst T L k)) (nI nv) (sI (sI σ 595 4 (nI (k + 1))) 595 4 (nI (k + 1 + 1))) = some (0, σ') ∧ CE σ' (-3) (tst T L k) ∧ Un (fun i => i = 595) (sI (sI σ 595 4 (nI (k + 1))) 595 4 (nI (k + 1 + 1))) σ' := by
            obtain ⟨σ', w1, w2, w3⟩ := open_e (erS_CE (sI (sI σ 595 4 (nI (k + 1))) 595 4 (nI (k + 1 + 1))) (c := -3) (by decide) (tst T L k)) (nI d)
            refine ⟨σ', ?_, w2, (erS_un _ _ _).trans w3⟩
            unfold pf_X0_readSingle_b58 pf_X0_readSingle_b66 pf_X0_readGroup
            rw [fail_ok c2, bind_some, w1, bnd2_some, if_pos rfl, bnd2_some]
          obtain ⟨σ', w1, w2, w3⟩ := b58
          obtain ⟨f1, f4, f3⟩ := mfails t3.2.1 (c := -3) (by decide) (tst T L k)
          have bad : ¬ (¬ nI rv < nI 1 ∧ ¬ nI 6 < nI rv) := fun q => by
            apply hr
            by_cases x1 : rv < 1
            · exact absurd (nI_lt x1 (by omega)) q.1
            · by_cases x2 : 6 < rv
              · exact absurd (nI_lt x2 (by omega)) q.2
              · omega
          rw [decide_eq_false bad, if_neg Bool.false_ne_true, f1, bnd2_some, ckZ_0]
          refine ⟨0, σ', _, ?_, fc.trans (FCg.r w3), (FMg.l u3).trans (FMg.l f3), Or.inr ⟨rfl, _, _, w2, f4⟩⟩
          by_cases x1 : nv < 1
          · rw [if_pos (nI_lt x1 (by omega)), w1]
          · rw [if_neg (nI_nlt (by omega) (by omega)), if_neg (nI_ge (show 6 < nv by omega) (by omega)), w1]
      · rw [if_neg c18] at t3
        rw [decide_eq_false c18, if_neg Bool.false_ne_true, if_neg Bool.false_ne_true, if_neg c18, isIn_ok, bind_some, if_b2, u3.F (show ¬ bL 22 by unfold bL; omega), j6, show (1 : Int32) = nI 1 from rfl, pk_sub (by omega), if_neg (nI_pos (by omega))]
        have J3 : JG T L N S (sI σ 595 4 (nI (k + 1))) τ3 (k + 1) n d := J.q c1 t3 (by omega) u3
        by_cases hr : nv < S
        · have erv : rv = nv := by omega
          subst erv
          rw [if_neg (nI_ge hr (by omega)), show (6 : Int32) = nI 6 from rfl, if_pos (nI_lt (show rv < 6 by omega) (by omega)), ckI_nI (by omega) (by omega), nI_clamp (by omega), decide_eq_true (show ¬ nI rv < 0 ∧ ¬ nI (S - 1) < nI rv from ⟨nI_pos (by omega), nI_nlt (by omega) (by omega)⟩), if_pos rfl, goM J3.2.2.1 (by omega), bind_some]
          have gb := swC_bit rv (by omega)
          refine ⟨swC.getD rv 0, _, goS τ3 n 0 (nI rv), rfl, FCg.s σ 4 _, (FMg.l u3).trans (FMg.g (by omega) _ _), Or.inl ⟨rfl, ⟨by rw [gb 0 (by omega), Nat.zero_testBit], fun u hu => ?_⟩, k + 1, n + 1, by omega, J3.emit (by omega) 0 (nI rv), ?_, (Kg.eq n r3).trans (goS_at _ _).2.2.2 (Nat.le_refl _), by omega⟩⟩
          · rw [gb _ (by have := Nat.mod_le u (2 ^ S); omega), gb u hu, Nat.testBit_mod_two_pow, decide_eq_true hr]
            simp
          · exact (EV.nil τ3 n).go (a := 0) (b := rv) (by omega) (by omega) (fun _ => by omega) fun u hu st => by
              unfold stG
              rw [if_pos rfl, gb u hu]; rfl
        · have bad : ¬ (¬ nI rv < 0 ∧ ¬ nI (S - 1) < nI rv) := fun q => by
            apply hr
            by_cases x2 : S - 1 < rv
            · exact absurd (nI_lt x2 (by omega)) q.2
            · omega
          obtain ⟨f1, f4, f3⟩ := mfails t3.2.1 (c := -3) (by decide) (tst T L k)
          rw [if_pos (nI_le (show S ≤ nv by omega) (by omega)), decide_eq_false bad, if_neg Bool.false_ne_true, f1, bnd2_some, ckZ_0]
          unfold pf_X0_readSingle_b99
          rw [fail_ok c1, bind_some]
          exact ⟨0, _, _, rfl, (FCg.s σ 4 _).trans (FCg.r (erS_un _ _ _)), (FMg.l u3).trans (FMg.l f3), Or.inr ⟨rfl, _, _, erS_CE _ (by decide) _, f4⟩⟩
    · rw [if_neg (fun e => c0 (Option.some.inj e)), decide_eq_false c0, if_neg Bool.false_ne_true]
      unfold pf_X0_readGroup
      rw [open_ok j1 (by omega), if_neg c26, bnd2_some, if_pos rfl, bnd2_some]
      exact ⟨0, _, τ2, rfl, (FCg.r (erS_un _ _ _)).trans (FCg.s _ 4 _), FMg.l u2, Or.inr ⟨rfl, _, _, (erS_CE σ (by decide) _).s 4 _ (by decide) (by decide), p4 c0⟩⟩
end
