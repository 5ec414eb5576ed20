/-! LOAD: a whole quest, both readers -/
theorem msk_z {f : Nat → Bool} : ∀ n, (∀ k, k < n → f k = false) → msk n f = 0
  | 0, _ => rfl
  | n + 1, h => by rw [msk, msk_z n (fun k hk => h k (by omega)), h n (by omega), if_neg Bool.false_ne_true]; rfl
theorem LQ.of {σ τ : St} {q S n n' : Nat} {g : Int64} (hS1 : 1 ≤ S) (hS6 : S ≤ 6) (p : PQ σ (gI τ 611) (66 + 9 * q) (53 + 186 * q) S) (hq : HQ σ (gI τ 611) (66 + 9 * q) (53 + 186 * q) S) (r0 : gI τ 611 (53 + 186 * q) = nI S) (r4 : gI τ 611 (53 + 186 * q + 4) = nI n) (r5 : gI τ 611 (53 + 186 * q + 5) = nI n') (hn8 : n' ≤ 800) (ev : EV τ n n' (fun u => [gbit g u])) (gv : GV g S) (hg : gL σ (66 + 9 * q) 5 = g) (h44 : n' ≤ Nn (gI τ 611 4)) : LQ σ (gI τ 611) q := by
  obtain ⟨p1, p2⟩ := p
  obtain ⟨h0, h1, h2, r1, h3, i3, h4, i4⟩ := hq
  obtain ⟨e0, e1, e2⟩ := ev
  have N0 : Nn (gI τ 611 (53 + 186 * q)) = S := by rw [r0, Nn_nI (by omega)]
  have N4 : Nn (gI τ 611 (53 + 186 * q + 4)) = n := by rw [r4, Nn_nI (by omega)]
  have N5 : Nn (gI τ 611 (53 + 186 * q + 5)) = n' := by rw [r5, Nn_nI (by omega)]
  have hgl : ∀ u, u < 64 → gl (gI τ 611) (53 + 186 * q) u = gbit g u := fun u hu => by
    unfold gl
    rw [N4, N5, e1 u hu]
    show decide (some ([gbit g u] ++ []) = some [true]) = gbit g u
    cases gbit g u <;> rfl
  have dn : dnM (gI τ 611) (53 + 186 * q) = 0 := by
    unfold dnM
    refine msk_z _ fun s hs => ?_
    rw [N0] at hs
    rw [(p1 s (by omega)).2.2.1]
    rfl
  refine ⟨⟨by rw [r0]; exact h0, by rw [r1]; exact h1, by rw [dn]; exact h2, h3, h4, fun u hu => by rw [hgl u hu, hg], fun s hs => ?_⟩, ⟨⟨by rw [r0]; exact Is.of hS6 (by omega), by rw [N0]; exact hS1⟩, by rw [r1]; exact Is.of (n := 0) (by omega) (by omega), i3, i4, ⟨by rw [r4]; exact Is.of (by omega) (by omega), by rw [r5]; exact Is.of hn8 (by omega), by rw [N4, N5]; exact e0, fun u hu => ⟨gbit g u, by rw [N4, N5, e1 u hu]; rfl⟩, fun k x1 x2 => e2 k (by rw [N4] at x1; exact x1) (by rw [N5] at x2; exact x2), by rw [hgl 0 (by omega)]; exact gv.1, fun u hu => by rw [N0, hgl u hu, hgl _ (by have := Nat.mod_le u (2 ^ S); omega)]; exact gv.2 u hu⟩, fun s hs => ?_⟩, fun _ => by rw [dn, hgl 0 (by omega)]; exact gv.1, by rw [N5]; exact h44⟩
  · rw [N0] at hs
    obtain ⟨q1, q2, q3, q4, q5, q6, q7, q8, q9⟩ := p1 s (by omega)
    obtain ⟨f1, f2, f3, f4, f5⟩ := p2 s hs
    refine ⟨f1, f2, by rw [q1]; exact q2.symm, q4, q7, fun i hi => ?_⟩
    have a0 := (q9 0 (by omega) i hi).1
    have a1 := (q9 1 (by omega) i hi).1
    have a2 := (q9 2 (by omega) i hi).1
    rw [show 53 + 186 * q + 6 + 30 * s + 6 + 8 * 1 + i = 53 + 186 * q + 6 + 30 * s + 14 + i by omega] at a1
    rw [show 53 + 186 * q + 6 + 30 * s + 6 + 8 * 2 + i = 53 + 186 * q + 6 + 30 * s + 22 + i by omega] at a2
    exact ⟨a0, a1, a2⟩
  · rw [N0] at hs
    obtain ⟨q1, q2, q3, q4, q5, q6, q7, q8, q9⟩ := p1 s (by omega)
    obtain ⟨f1, f2, f3, f4, f5⟩ := p2 s hs
    refine ⟨f3, ⟨f4, f5⟩, ⟨by rw [q2]; exact Is.of (n := 0) (by omega) (by omega), by rw [q2]; exact Nat.zero_le _⟩, by rw [q3]; exact Is.of (n := 0) (by omega) (by omega), ⟨q5, q6⟩, q8, fun i hi => ?_⟩
    have := (q9 (i / 8) (by omega) (i % 8) (by omega)).2
    rw [show 53 + 186 * q + 6 + 30 * s + 6 + 8 * (i / 8) + i % 8 = 53 + 186 * q + 6 + 30 * s + 6 + i by omega] at this
    exact this
/-- one quest more -/
theorem LR.inc {σ σ' : St} {rd rd' : Nat → Int32} {q : Nat} (h : LR σ rd q) (hq : q < 6) (hu : ∀ i, 62 ≤ i → (i < 66 + 9 * q ∨ i = 594) → gI σ' i = gI σ i ∧ gL σ' i = gL σ i) (h61 : ∀ k, k ≠ 5 → gI σ' 61 k = gI σ 61 k) (h5 : gI σ' 61 5 = nI (q + 1)) (hr : ∀ j, j ≠ 0 → j ≠ 4 → (j < 53 + 186 * q ∨ (1169 ≤ j ∧ j < 2769 + 2 * Nn (rd 4))) → rd' j = rd j) (h0 : rd' 0 = nI (q + 1)) (h4 : Is (rd' 4) 800) (h44 : Nn (rd 4) ≤ Nn (rd' 4)) (new : LQ σ' rd' q) : LR σ' rd' (q + 1) := by
  obtain ⟨a1, a2, a3, a4, a5, a6, a7, a8, a9, a10, a11, a12, a13⟩ := h
  have e62 : gI σ' 62 = gI σ 62 := (hu 62 (by omega) (by omega)).1
  have e65 : gI σ' 65 = gI σ 65 := (hu 65 (by omega) (by omega)).1
  refine ⟨by omega, h5, h0, by rw [h61 2 (by omega)]; exact a4, by rw [hr 2 (by omega) (by omega) (by omega)]; exact a5, by rw [h61 3 (by omega), hr 1 (by omega) (by omega) (by omega)]; exact a6, fun i hi => by rw [e62, hr (5 + i) (by omega) (by omega) (by omega)]; exact a7 i hi, h4, fun q' hq' => ?_, ?_, by rw [hr 3 (by omega) (by omega) (by omega)]; exact a11, a12.cong (hr 3 (by omega) (by omega) (by omega)) a11.2 (fun k x1 x2 => hr k (by omega) (by omega) (by omega)), by rw [(hu 594 (by omega) (Or.inr rfl)).1, hr 3 (by omega) (by omega) (by omega)]; exact a13⟩
  · by_cases c : q' = q
    · subst c; exact new
    · exact (a9 q' (by omega)).cg (fun i x1 x2 => hu i (by omega) (by omega)) (fun k x1 x2 => hr k (by omega) (by omega) (by omega)) (fun k x1 x2 => hr k (by omega) (by omega) (by omega)) h44
  · have : RW1 σ' 61 rd := by
      unfold RW1 at *
      rw [h61 7 (by omega), e65]; exact a10
    exact this.cg (hr 3 (by omega) (by omega) (by omega)) a11.2 (fun k x1 x2 => hr k (by omega) (by omega) (by omega))
section
variable {T : Nat → Int32} {L N : Nat}
/-- between two statements -/
def LZ (T : Nat → Int32) (L N : Nat) (σ τ : St) (k q : Nat) (f : Int32 × Int32 × Int32) : Prop := CP σ T L N k ∧ MP τ T L k ∧ LR σ (gI τ 611) q ∧ FL σ τ f ∧ Nn (gI τ 611 4) ≤ k ∧ ∀ j, 53 + 186 * q ≤ j → j < 1169 → gI τ 611 j = 0
/-- a statement of the reference and its semicolon -/
noncomputable def wsg (ml : Option (Int32 × St)) : Option (Int32 × St) := bnd2 ml fun r_0 σ_0 => if r_0 = 0 then some ((0 : Int32), σ_0) else pf_X11_sign 609 59 σ_0
theorem FMg.bR {τ τ' : St} (h : FMg τ τ') : MU (fun i => i = 611) bR τ τ' := h.1.mono (fun _ q => q) (fun k q => by unfold bS at q; show 16 ≤ k ∧ k ≤ 25; omega)
theorem goalEndJ (hb : TB8 T L) {q S : Nat} {f : Int32 × Int32 × Int32} (hS1 : 1 ≤ S) {σ τ : St} {k : Nat} (J : JQ T L N σ τ k q S S f) (c9 : tkd T L k ≠ 9) : Oc σ τ (pf_X4_readQuest_b128 594 61 (66 + 9 * q) σ) (wsg (pf_X11_readsQuest_b141 609 (nI (53 + 186 * q)) (nI (tst T L k)) τ)) (fun σ' τ' => ∃ k', k < k' ∧ LZ T L N σ' τ' k' (q + 1) f) := by
  obtain ⟨j1, j2, j3, j4, j5⟩ := id J
  obtain ⟨hq, hS6, h3, h4, h5, h22, h7⟩ := id j3
  have n8 := j1.N8
  have hkN := j1.2.1
  have i4 := h3.2.2.2.2.2.2.2.1
  have ha : 66 ≤ 66 + 9 * q ∧ 66 + 9 * q < 112 := by omega
  have ck : ∀ {α : Type} (j : Nat) (y : Option α), j < 4370 → ckI (nI j) (alen (609 + 2)) y = y := fun j y h => ckA (show alen (609 + 2) = 4370 from al611) h
  have ck4 : ∀ {α : Type} (y : Option α), ckI (4 : Int32) (alen (609 + 2)) y = y := fun y => ck 4 y (by omega)
  have ck0 : ∀ {α : Type} (y : Option α), ckI (0 : Int32) (alen (609 + 2)) y = y := fun y => ck 0 y (by omega)
  unfold pf_X11_readsQuest_b141
  rw [h22, if_neg (show ¬ nI S = (0 : Int32) from nI_ne0 (by omega) (by omega))]
  by_cases c10 : tkd T L k = 10
  · have k1 := j1.k1 (by omega)
    obtain ⟨τ1, a1, a2, a3⟩ := mtk (i := 10) (w := 44) (by decide +kernel) j2 c10
    have r1 : gI τ1 611 = gI τ 611 := a2.I (by decide) (fun q => q)
    obtain ⟨n, en, hn, en2⟩ := i4.get
    rw [en2] at j5
    -- the reference up to its goal
    rw [a1, bnd2_some, i10, show nI (53 + 186 * q) + 0 = nI (53 + 186 * q) from nI_add _ 0, ck _ _ (by omega), nI_clamp (by omega), bnd_e, show gI τ1 609 22 = nI S from (a2.F (by unfold bL; omega)).trans h22, ck4, show (4 : Int32).toNatClampNeg = 4 from rfl, show (4 : Int32) = nI 4 from rfl, nI_add, ck _ _ (by omega), nI_clamp (by omega), bnd_e, gI_ns _ _ _ (by omega), show gI τ1 (609 + 2) 4 = nI n by rw [show 609 + 2 = 611 from rfl, r1]; exact en, bnd_e]
    generalize hτ2 : sI (sI (sI τ1 (609 + 2) (53 + 186 * q) (nI S)) (609 + 2) (53 + 186 * q + 4) (nI n)) 609 21 0 = τ2
    have e2 : ∀ j, j ≠ 53 + 186 * q → j ≠ 53 + 186 * q + 4 → gI τ2 611 j = gI τ 611 j := fun j x1 x2 => by
      rw [← hτ2, gI_ne _ _ _ _ (by decide), gI_ns _ _ _ x2, gI_ns _ _ _ x1, r1]
    have e2b : gI τ2 611 (53 + 186 * q) = nI S := by rw [← hτ2, gI_ne _ _ _ _ (by decide), gI_ns _ _ _ (by omega), gI_at]
    have e2c : gI τ2 611 (53 + 186 * q + 4) = nI n := by rw [← hτ2, gI_ne _ _ _ _ (by decide), gI_at]
    have f2 : ∀ j, j ≠ 21 → gI τ2 609 j = gI τ1 609 j := fun j x => by rw [← hτ2, gI_ns _ _ _ x, gI_ne _ _ _ _ (by decide), gI_ne _ _ _ _ (by decide)]
    have f21 : gI τ2 609 21 = nI 0 := by rw [← hτ2, gI_at]; rfl
    have m2 : MP τ2 T L (k + 1) := by
      obtain ⟨⟨p, b1, b2⟩, b3, b4⟩ := a3
      exact ⟨⟨p, ⟨b1.1, b1.2.1, by rw [f2 15 (by decide)]; exact b1.2.2.1, by rw [f2 16 (by decide)]; exact b1.2.2.2.1, fun j hj => by rw [← hτ2, gI_ne _ _ _ _ (by decide), gI_ne _ _ _ _ (by decide), gI_ne _ _ _ _ (by decide)]; exact b1.2.2.2.2 j hj⟩, b2⟩, by rw [f2 17 (by decide)]; exact b3, by rw [f2 18 (by decide)]; exact b4⟩
    have w2 : MU (fun i => i = 611) (fun k => k = 21) τ1 τ2 := by
      rw [← hτ2]
      exact MU.trans (A := fun i => i = 611) (B := fun k => k = 21) (MU.arr (p := 611) _ _ rfl (by decide)) (MU.trans (MU.arr (p := 611) _ _ rfl (by decide)) (MU.fld _ _ rfl))
    have w2b : MU (fun i => i = 611) bR τ τ2 := a2.bR.trans (w2.mono (fun _ q => q) (fun k q => by subst q; show 16 ≤ 21 ∧ 21 ≤ 25; omega))
    have JG1 : JG T L N S (sI σ 595 4 (nI (k + 1))) τ2 (k + 1) n 0 := ⟨j1.next k1, m2, by rw [e2 4 (by omega) (by omega)]; exact en, by omega, f21, by rw [f2 22 (by decide)]; exact (a2.F (by unfold bL; omega)).trans h22⟩
    obtain ⟨g, σ3, τ3, g1, g2, g3, g4⟩ := goalOJ hb hS1 hS6 4 0 rfl 8 8 (by omega) (by omega) _ _ _ _ JG1
    unfold pf_X4_readQuest_b128
    rw [show 594 + 1 = 595 from rfl, show 594 + 5 = 599 from rfl, expect_ok j1, if_pos c10, bind_some, gI_ne _ _ _ _ (by omega), h5.1, show pf_X0_readGoal 8 599 595 (nI S) 0 (sI σ 595 4 (nI (k + 1))) = _ from g1, bnd2_some, bnd_e]
    have lg : Un LM σ σ3 := (LM.s 4 _ (by unfold LM; omega)).trans (g2.1.mono fun i hi => by unfold LM; omega)
    have lg2 : Un LM σ (sL σ3 (66 + 9 * q) 5 g) := lg.trans (Un.sL _ _ (by unfold LM; omega))
    rcases g4 with ⟨s1, gv, k', n', s2, s3, s4, s5, s6⟩ | ⟨s1, c, o, s2, s3⟩
    · obtain ⟨c1, c2, c3, c4, c5, c6⟩ := id s3
      have hk' := c1.2.1
      have en0 := s4.1
      have cp : CP (sL σ3 (66 + 9 * q) 5 g) T L N k' := c1.un (M := fun i => i = 66 + 9 * q) (Un.sL _ _ rfl) ⟨by omega, by omega, by omega, by omega⟩
      rw [expect_ok cp, bind_some, s1, bnd2_some, i10, ck 4 _ (by omega), show gI τ3 (609 + 2) 4 = nI n' from c3, show (5 : Int32) = nI 5 from rfl, nI_add, ck _ _ (by omega), nI_clamp (by omega), bnd_e, bnd_e, ck0, ck0, show (0 : Int32).toNatClampNeg = 0 from rfl, gI_ns _ _ _ (by omega), show gI τ3 (609 + 2) 0 = nI q by rw [show 609 + 2 = 611 from rfl, g3.2 0 (by omega), e2 0 (by omega) (by omega)]; exact h3.2.2.1, nI_1, bnd_e]
      generalize hτ4 : sI (sI τ3 (609 + 2) (53 + 186 * q + 5) (nI n')) (609 + 2) 0 (nI (q + 1)) = τ4
      have e4 : ∀ j, j ≠ 53 + 186 * q + 5 → j ≠ 0 → gI τ4 611 j = gI τ3 611 j := fun j x1 x2 => by rw [← hτ4, gI_ns _ _ _ x2, gI_ns _ _ _ x1]
      have e4b : gI τ4 611 (53 + 186 * q + 5) = nI n' := by rw [← hτ4, gI_ns _ _ _ (by omega), gI_at]
      have e4c : gI τ4 611 0 = nI (q + 1) := by rw [← hτ4, gI_at]
      have w4 : MU (fun i => i = 611) (fun _ => False) τ3 τ4 := by
        rw [← hτ4]
        exact MU.trans (A := fun i => i = 611) (B := fun _ => False) (MU.arr (p := 611) _ _ rfl (by decide)) (MU.arr (p := 611) _ _ rfl (by decide))
      have m4 : MP τ4 T L k' := c2.fm w4
      obtain ⟨τ5, t1, t2, t3, t4⟩ := msign (i := 24) (c := 59) (by omega) (by omega) rfl (by decide) m4
      have r5 : gI τ5 611 = gI τ4 611 := t2.I (by decide) (fun q => q)
      have wall : MU (fun i => i = 611) bR τ τ5 := w2b.trans (g3.bR.trans ((w4.mono (fun _ q => q) (fun k q => q.elim)).trans t2.bR))
      unfold wsg
      rw [bnd2_some, i10, t1]
      -- the row at the end against the row at the beginning
      have row : ∀ j, j ≠ 0 → j ≠ 4 → j ≠ 53 + 186 * q → j ≠ 53 + 186 * q + 4 → j ≠ 53 + 186 * q + 5 → j < 2769 + 2 * n → gI τ5 611 j = gI τ 611 j := fun j x1 x2 x3 x4 x5 x6 => by
        rw [r5, e4 j x5 x1]
        by_cases y : 2769 ≤ j
        · rw [s5 j y (by omega), e2 j x3 x4]
        · rw [g3.2 j (by omega), e2 j x3 x4]
      have row4 : gI τ5 611 4 = nI n' := by rw [r5, e4 4 (by omega) (by omega)]; exact c3
      by_cases c24 : tkd T L k' = 24
      · have k2 := c1.k1 (by omega)
        rw [if_pos c24, decide_eq_true c24, gI_ne _ _ _ _ (by omega)]
        have e61 : gI (sL σ3 (66 + 9 * q) 5 g) 61 5 = nI q := by
          rw [show gI (sL σ3 (66 + 9 * q) 5 g) 61 = gI σ3 61 from rfl, g2.1.I (by omega), gI_ne _ _ _ _ (by omega)]
          exact h3.2.1
        rw [e61, nI_1]
        generalize hσ5 : sI (sI (sL σ3 (66 + 9 * q) 5 g) 595 4 (nI (k' + 1))) 61 5 (nI (q + 1)) = σ5
        have us : ∀ i, i ≠ 61 → i ≠ 595 → i ≠ 600 → gI σ5 i = gI σ i := fun i x1 x2 x3 => by
          rw [← hσ5, gI_nf _ _ _ x1, gI_nf _ _ _ x2, show gI (sL σ3 (66 + 9 * q) 5 g) i = gI σ3 i from rfl, g2.1.I (by omega), gI_nf _ _ _ x2]
        have ul : ∀ i, i ≠ 66 + 9 * q → i ≠ 595 → i ≠ 600 → gL σ5 i = gL σ i := fun i x1 x2 x3 => by
          rw [← hσ5, show gL (sI (sI (sL σ3 (66 + 9 * q) 5 g) 595 4 (nI (k' + 1))) 61 5 (nI (q + 1))) i = gL (sL σ3 (66 + 9 * q) 5 g) i from rfl, (Un.sL (M := fun i => i = 66 + 9 * q) (σ := σ3) 5 g rfl).L x1, g2.1.L (by omega)]
          rfl
        have ulq : gL σ5 (66 + 9 * q) 5 = g := by
          rw [← hσ5, show gL (sI (sI (sL σ3 (66 + 9 * q) 5 g) 595 4 (nI (k' + 1))) 61 5 (nI (q + 1))) (66 + 9 * q) 5 = gL (sL σ3 (66 + 9 * q) 5 g) (66 + 9 * q) 5 from rfl, gL_sL, if_pos rfl, if_pos rfl]
        have u61 : ∀ k, k ≠ 5 → gI σ5 61 k = gI σ 61 k := fun k x => by
          rw [← hσ5, gI_ns _ _ _ x, gI_ne _ _ _ _ (by omega), show gI (sL σ3 (66 + 9 * q) 5 g) 61 = gI σ3 61 from rfl, g2.1.I (by omega), gI_ne _ _ _ _ (by omega)]
        have u615 : gI σ5 61 5 = nI (q + 1) := by rw [← hσ5, gI_at]
        refine ⟨σ5, τ5, rfl, ?_, wall, Or.inl ⟨rfl, k' + 1, by omega, ?_, t3 c24, ?_, ?_, ?_, fun j x1 x2 => ?_⟩⟩
        · rw [← hσ5]
          exact lg2.trans ((LM.s 4 _ (by unfold LM; omega)).trans (LM.s _ _ (by unfold LM; omega)))
        · rw [← hσ5]
          exact (cp.next k2).w _ _ (by omega)
        · have pq : PQ σ5 (gI τ5 611) (66 + 9 * q) (53 + 186 * q) S := ⟨fun s hs => (h4.1 s hs).cg (fun p j x1 x2 x3 x4 => by rw [us p (by omega) (by omega) (by omega)]) (fun j x1 x2 => row j (by omega) (by omega) (by omega) (by omega) (by omega) (by omega)), fun s hs => (h4.2 s hs).cg (by rw [us _ (by omega) (by omega) (by omega)]) (by rw [us _ (by omega) (by omega) (by omega)]) (row _ (by omega) (by omega) (by omega) (by omega) (by omega) (by omega)) (row _ (by omega) (by omega) (by omega) (by omega) (by omega) (by omega))⟩
          have hq5 : HQ σ5 (gI τ5 611) (66 + 9 * q) (53 + 186 * q) S := by
            unfold HQ
            rw [us (66 + 9 * q) (by omega) (by omega) (by omega), row (53 + 186 * q + 1) (by omega) (by omega) (by omega) (by omega) (by omega) (by omega), row (53 + 186 * q + 2) (by omega) (by omega) (by omega) (by omega) (by omega) (by omega), row (53 + 186 * q + 3) (by omega) (by omega) (by omega) (by omega) (by omega) (by omega)]
            exact h5
          have ev5 : EV τ5 n n' (fun u => [gbit g u]) := s4.kg (m := n') (fun j x1 x2 => by rw [r5, e4 j (by omega) (by omega)]) (Nat.le_refl _)
          refine h3.inc hq (fun i x1 x2 => ⟨us i (by omega) (by omega) (by omega), ul i (by omega) (by omega) (by omega)⟩) u61 u615 (fun j x1 x2 x3 => ?_) (by rw [r5]; exact e4c) (by rw [row4]; exact Is.of (by omega) (by omega)) (by rw [row4, Nn_nI (by omega), en2]; exact en0) (LQ.of hS1 hS6 pq hq5 ?_ ?_ (by rw [r5]; exact e4b) (by omega) ev5 gv ulq (by rw [row4, Nn_nI (by omega)]; exact Nat.le_refl _))
          · rw [en2] at x3
            exact row j x1 x2 (by omega) (by omega) (by omega) (by omega)
          · rw [r5, e4 _ (by omega) (by omega), g3.2 _ (by omega)]; exact e2b
          · rw [r5, e4 _ (by omega) (by omega), g3.2 _ (by omega)]; exact e2c
        · have fl1 : FL σ5 τ5 f := by
            obtain ⟨y1, y2, y3, y4, y5, y6⟩ := j4
            have ff : ∀ j, j = 23 ∨ j = 24 ∨ j = 25 → gI τ5 609 j = gI τ 609 j := fun j hj => by
              rw [t2.F (by unfold bL; omega), w4.F (fun q => q), g3.1.F (by unfold bS; omega), f2 j (by omega), a2.F (by unfold bL; omega)]
            unfold FL
            rw [us 594 (by omega) (by omega) (by omega), ff 25 (by omega), ff 23 (by omega), ff 24 (by omega)]
            exact ⟨y1, y2, y3, y4, y5, y6⟩
          exact fl1
        · rw [row4, Nn_nI (by omega)]; omega
        · rw [row j (by omega) (by omega) (by omega) (by omega) (by omega) (by omega)]
          exact h7 j (by omega) x2
      · rw [if_neg c24, decide_eq_false c24]
        have ce : CE (erS (sL σ3 (66 + 9 * q) 5 g) (-2) (tst T L k')) (-2) (tst T L k') := erS_CE _ (by decide) _
        exact Oc.bad ⟨_, rfl, ce.un (M := fun i => i = 61) (Un.sI _ _ rfl) (by omega), LM.s _ _ (by unfold LM; omega)⟩ rfl (t4 c24) (lg2.trans (LM.r (erS_un _ _ _))) wall
    · have ce : CE (sL σ3 (66 + 9 * q) 5 g) c o := s2.un (M := fun i => i = 66 + 9 * q) (Un.sL _ _ rfl) (by omega)
      unfold wsg
      rw [expect_e ce (by omega), bind_some, bnd_e, s1, bnd2_some, i00, bnd2_some, i00]
      exact Oc.bad ⟨_, rfl, ce.un (M := fun i => i = 61) (Un.sI _ _ rfl) (by omega), LM.s _ _ (by unfold LM; omega)⟩ rfl s3 lg2 (w2b.trans g3.bR)
  · obtain ⟨τ1, a1, a2, a3, a4⟩ := mtn (i := 10) (w := 44) (by decide +kernel) j2 c10
    obtain ⟨f1, f2, f3⟩ := mfails a3.2.1 (c := -2) (by decide) (tst T L k)
    have ce : CE (erS σ (-2) (tst T L k)) (-2) (tst T L k) := erS_CE _ (by decide) _
    obtain ⟨r, σ1, g1, g2, g3⟩ := readGoal_e (gI (erS σ (-2) (tst T L k)) (66 + 9 * q) 0) ce
    unfold pf_X4_readQuest_b128 pf_X11_readsQuest_b158 wsg
    rw [show 594 + 1 = 595 from rfl, show 594 + 5 = 599 from rfl, expect_ok j1, if_neg c10, bind_some, g1, bnd2_some, bnd_e, a1, bnd2_some, i00, f1, bnd2_some, ckZ_0, bnd2_some, i00]
    have ce2 : CE (sL σ1 (66 + 9 * q) 5 r) (-2) (tst T L k) := g2.un (M := fun i => i = 66 + 9 * q) (Un.sL _ _ rfl) (by omega)
    rw [expect_e ce2 (by omega), bind_some, bnd_e]
    exact Oc.bad ⟨_, rfl, ce2.un (M := fun i => i = 61) (Un.sI _ _ rfl) (by omega), LM.s _ _ (by unfold LM; omega)⟩ rfl f2 ((LM.r (erS_un _ _ _)).trans ((LM.r g3).trans (Un.sL _ _ (by unfold LM; omega)))) (a2.trans f3).bR
end
