/-! LOAD: the other statements, both readers -/
theorem shl1_8 : ∀ s, s < 8 → ishl 1 (nI s) = nI (1 <<< s) := by decide +kernel
theorem ishr_8 : ∀ u, u < 256 → ∀ k, k < 8 → ishr (nI u) (nI k) &&& 1 = b2i (u.testBit k) := by decide +kernel
theorem LR.sd {σ σ' : St} {rd rd' : Nat → Int32} {q : Nat} (h : LR σ rd q) (hu : ∀ i, 63 ≤ i → i < 66 + 9 * q → gI σ' i = gI σ i ∧ gL σ' i = gL σ i) (h61 : ∀ k, k ≠ 3 → gI σ' 61 k = gI σ 61 k) (h3 : gI σ' 61 3 = rd' 1) (hs : ∀ i, i < 8 → gI σ' 62 i = rd' (5 + i) ∧ Is (rd' (5 + i)) 999) (h5 : gI σ' 594 5 = gI σ 594 5) (hr : ∀ j, j ≠ 1 → ¬ (5 ≤ j ∧ j < 13) → (j < 53 + 186 * q ∨ (1169 ≤ j ∧ j < 2769 + 2 * Nn (rd 4))) → rd' j = rd j) : LR σ' rd' q := by
  obtain ⟨a1, a2, a3, a4, a5, a6, a7, a8, a9, a10, a11, a12, a13⟩ := h
  have e65 : gI σ' 65 = gI σ 65 := (hu 65 (by omega) (by omega)).1
  have r4 : rd' 4 = rd 4 := hr 4 (by omega) (by omega) (by omega)
  refine ⟨a1, by rw [h61 5 (by omega)]; exact a2, by rw [hr 0 (by omega) (by omega) (by omega)]; exact a3, by rw [h61 2 (by omega)]; exact a4, by rw [hr 2 (by omega) (by omega) (by omega)]; exact a5, h3, hs, by rw [r4]; exact a8, fun q' hq' => (a9 q' hq').cg (fun i x1 x2 => hu i (by omega) (by omega)) (fun k x1 x2 => hr k (by omega) (by omega) (by omega)) (fun k x1 x2 => hr k (by omega) (by omega) (by omega)) (by rw [r4]; exact Nat.le_refl _), ?_, by rw [hr 3 (by omega) (by omega) (by omega)]; exact a11, a12.cong (hr 3 (by omega) (by omega) (by omega)) a11.2 (fun k x1 x2 => hr k (by omega) (by omega) (by omega)), by rw [h5, hr 3 (by omega) (by omega) (by omega)]; exact a13⟩
  have : RW1 σ' 61 rd := by
    unfold RW1 at *
    rw [h61 7 (by omega), e65]; exact a10
  exact this.cg (hr 3 (by omega) (by omega) (by omega)) a11.2 (fun k x1 x2 => hr k (by omega) (by omega) (by omega))
def F8 (f : Int32 × Int32 × Int32) : Prop := ∃ m, m < 256 ∧ f.1 = nI m
section
variable {T : Nat → Int32} {L N : Nat}
def Pst (T : Nat → Int32) (L N k : Nat) (σ' τ' : St) : Prop := ∃ k' q' f', k < k' ∧ LZ T L N σ' τ' k' q' f' ∧ F8 f'
theorem LZ.tk {σ σ' τ τ' : St} {k k' q : Nat} {f : Int32 × Int32 × Int32} (h : LZ T L N σ τ k q f) (c : CP σ' T L N k') (m : MP τ' T L k') (hk : k ≤ k') (u : Un (fun i => i = 595) σ σ') (w : MU noA bL τ τ') : LZ T L N σ' τ' k' q f := by
  have e : gI τ' 611 = gI τ 611 := w.I (by decide) (fun q => q)
  have hL := h.2.2.1
  have hq := hL.1
  refine ⟨c, m, ?_, h.2.2.2.1.tk u (by decide) w ⟨by unfold bL; omega, by unfold bL; omega, by unfold bL; omega⟩, by rw [e]; have := h.2.2.2.2.1; omega, by rw [e]; exact h.2.2.2.2.2⟩
  rw [e]
  exact hL.cg (fun i x1 x2 => ⟨u.I (by omega), u.L (by omega)⟩) (fun j _ _ => rfl) hL.2.2.2.2.2.2.2.1 (Nat.le_refl _)
/-- the semicolon of a statement -/
theorem semiJ {σ τ : St} {k q : Nat} {f : Int32 × Int32 × Int32} (J : LZ T L N σ τ k q f) : ∃ σ' τ', pf_X6_expect 595 (some 24) σ = some σ' ∧ Un (fun i => i = 595) σ σ' ∧ MU noA bL τ τ' ∧ ((pf_X11_sign 609 59 τ = some (1, τ') ∧ LZ T L N σ' τ' (k + 1) q f) ∨ (pf_X11_sign 609 59 τ = some (0, τ') ∧ ∃ c o, CE σ' c o ∧ ME τ' c o)) := by
  obtain ⟨τ1, t1, t2, t3, t4⟩ := msign (i := 24) (c := 59) (by omega) (by omega) rfl (by decide) J.2.1
  rw [expect_ok J.1]
  by_cases c24 : tkd T L k = 24
  · have k1 := J.1.k1 (by omega)
    rw [if_pos c24]
    exact ⟨_, τ1, rfl, Un.sI _ _ rfl, t2, Or.inl ⟨by rw [t1, decide_eq_true c24]; rfl, J.tk (J.1.next k1) (t3 c24) (by omega) (Un.sI _ _ rfl) t2⟩⟩
  · rw [if_neg c24]
    exact ⟨_, τ1, rfl, erS_un _ _ _, t2, Or.inr ⟨by rw [t1, decide_eq_false c24]; rfl, -2, tst T L k, erS_CE σ (by decide) _, t4 c24⟩⟩
theorem stkL_ok {σ : St} {k : Nat} (h : CP σ T L N k) (hk : tkd T L k ≠ 0) (n j : Nat) (h0 : 0 < j) (hj : j < 2 ^ 31) : pf_X4_readStock_L9 pf_X4_readStock_b114 (n + 1) 594 61 (nI j) σ = pf_X4_readStock_b114 594 σ := by
  rw [pf_X4_readStock_L9]
  by_cases q : (800 : Int32) ≤ nI j
  · rw [if_pos q]
  · rw [if_neg q, if_neg (nI_ne0 h0 hj), show 594 + 1 = 595 from rfl, ahead_ok h, bind_some, if_neg (fun e => hk (Option.some.inj e))]
theorem stockLJ (hb : TB8 T L) : ∀ m fc fm σ τ k q f j, N - k ≤ m → m + 1 < fc → m < fm → LZ T L N σ τ k q f → F8 f → j ≤ k → (j = 0 ∨ tkd T L k = 0) → Oc σ τ (pf_X4_readStock_L9 pf_X4_readStock_b114 fc 594 61 (nI j) σ) (wsg (pf_X11_readsStock_L0 pf_X11_readsStock_b29 fm 609 τ)) (Pst T L N k) := by
  intro m
  induction m using Nat.strongRecOn with
  | ind m ih =>
  intro fc fm σ τ k q f j h1 h2 h3 J hf hj hjk
  obtain ⟨fc, rfl⟩ : ∃ x, fc = x + 1 := ⟨fc - 1, by omega⟩
  obtain ⟨fm, rfl⟩ : ∃ x, fm = x + 1 := ⟨fm - 1, by omega⟩
  obtain ⟨j1, j2, j3, j4, j5, j6⟩ := id J
  obtain ⟨mk, hm, em⟩ := hf
  have n8 := j1.N8
  have hkN := j1.2.1
  have j800 : j < 800 := by
    rcases hjk with x | x
    · omega
    · have := j1.k1 (by omega); omega
  have cl : pf_X4_readStock_L9 pf_X4_readStock_b114 (fc + 1) 594 61 (nI j) σ = pf_X4_readStock_b33 (pf_X4_readStock_L9 pf_X4_readStock_b114 fc) 594 61 (nI j) σ := by
    rw [pf_X4_readStock_L9, show (800 : Int32) = nI 800 from rfl, if_neg (nI_ge j800 (by omega))]
    by_cases j0 : j = 0
    · rw [if_pos (by rw [j0]; rfl)]
    · rw [if_neg (nI_ne0 (by omega) (by omega)), show 594 + 1 = 595 from rfl, ahead_ok j1, bind_some, if_pos (by rw [hjk.resolve_left j0])]
  obtain ⟨fc, rfl⟩ : ∃ x, fc = x + 1 := ⟨fc - 1, by omega⟩
  rw [cl, pf_X11_readsStock_L0]
  unfold pf_X4_readStock_b33
  rw [show 594 + 1 = 595 from rfl, start_ok j1, bind_some]
  obtain ⟨τ1, m1, mm⟩ := numJ hb j1 j2 (lo := 0) (hi := 7) (by omega) (by omega)
  have r1 : gI τ1 611 = gI τ 611 := m1.I (by decide) (fun q => q)
  have e25 : gI τ1 609 25 = nI mk := by rw [m1.F (by unfold bL; omega), j4.2.1, em]
  rcases mm with ⟨i, i0, i7, d0, k1, a1, a2, a3, a4, a5, a6⟩ | ⟨σ3, c, a1, e2, e4, a3, a4⟩
  · have e3 : gI (sI σ 595 4 (nI (k + 1))) 594 3 = nI mk := by rw [gI_ne _ _ _ _ (by omega), j4.1, em]
    rw [show pf_X6_number 595 0 7 σ = _ from a1, bnd2_some, show pf_X11_reads 609 0 7 τ = _ from a3, bnd2_some, i10, e3, if_u (by omega) (by omega), a5, bnd_e, e25, ishr_8 mk hm i (by omega), if_b1]
    by_cases xb : mk.testBit i = true
    · obtain ⟨f1, f2, f3⟩ := mfails a4.2.1 (c := -4) (by decide) (tst T L k)
      unfold pf_X11_readsStock_b29 wsg
      rw [if_pos xb, if_pos xb, fail_ok a2, bind_some, a6, f1, bnd2_some, ckZ_0, bnd2_some, i00]
      exact Oc.bad (stock75_e (nI i) fc j (by omega) (erS_CE (sI σ 595 4 (nI (k + 1))) (by decide) (tst T L k))) rfl f2 ((LM.s 4 _ (by unfold LM; omega)).trans (LM.r (erS_un _ _ _))) (m1.trans f3).bR
    · rw [if_neg xb, if_neg xb, shl1_8 i (by omega), or_nI, bnd_e]
      unfold pf_X4_readStock_b75
      rw [e3, shl1_8 i (by omega), or_nI, bnd_e, show 594 + 1 = 595 from rfl, show 61 + 1 = 62 from rfl]
      have hy : mk ||| 1 <<< i < 256 := Nat.or_lt_two_pow (n := 8) hm (by rw [Nat.one_shiftLeft]; exact Nat.pow_lt_pow_right (by omega) (by omega))
      generalize hmk : mk ||| 1 <<< i = mk' at *
      have c2 : CP (sI (sI σ 595 4 (nI (k + 1))) 594 3 (nI mk')) T L N (k + 1) := a2.w _ _ (by omega)
      have m2 : MP (sI τ1 609 25 (nI mk')) T L (k + 1) := by
        obtain ⟨⟨p, h1, h2⟩, h3, h4⟩ := a4
        exact ⟨⟨p, ⟨h1.1, h1.2.1, by rw [gI_ns _ _ _ (by decide)]; exact h1.2.2.1, by rw [gI_ns _ _ _ (by decide)]; exact h1.2.2.2.1, fun j hj => by rw [gI_ne _ _ _ _ (by decide)]; exact h1.2.2.2.2 j hj⟩, h2⟩, by rw [gI_ns _ _ _ (by decide)]; exact h3, by rw [gI_ns _ _ _ (by decide)]; exact h4⟩
      have l2 : Un LM σ (sI (sI σ 595 4 (nI (k + 1))) 594 3 (nI mk')) := (LM.s 4 _ (by unfold LM; omega)).trans (LM.s _ _ (by unfold LM; omega))
      have w2 : MU (fun i => i = 611) bR τ (sI τ1 609 25 (nI mk')) := m1.bR.trans (MU.fld _ _ (show 16 ≤ 25 ∧ 25 ≤ 25 by omega))
      obtain ⟨τ2, n1, nn⟩ := numJ hb c2 m2 (lo := 0) (hi := 999) (by omega) (by omega)
      rcases nn with ⟨v, v0, v9, f0, k2, b1, b2, b3, b4, b5, b6⟩ | ⟨σ3, c, b1, e2, e4, b3, b4⟩
      · have c3 : CP (sI (sI (sI (sI σ 595 4 (nI (k + 1))) 594 3 (nI mk')) 595 4 (nI (k + 1 + 1))) 62 i (nI v)) T L N (k + 1 + 1) := b2.w _ _ (by omega)
        have m3 : MP (sI τ2 611 (5 + i) (nI v)) T L (k + 1 + 1) := b4.w _ _
        obtain ⟨τ4, o1, o2, o3⟩ := mmore m3
        rw [show pf_X6_number 595 0 999 (sI (sI σ 595 4 (nI (k + 1))) 594 3 (nI mk')) = _ from b1, bnd2_some, put_ok al62 (by omega), bind_some, nI_1, bnd_e, show pf_X11_reads 609 0 999 (sI τ1 609 25 (nI mk')) = _ from b3, bnd2_some, i10, show (5 : Int32) = nI 5 from rfl, nI_add, ckA (show alen (609 + 2) = 4370 from al611) (by omega), nI_clamp (by omega), b5, bnd_e, show pf_X11_more 609 (sI τ2 (609 + 2) (5 + i) (nI v)) = _ from o1, bnd2_some, if_b2]
        generalize hσ3 : sI (sI (sI (sI σ 595 4 (nI (k + 1))) 594 3 (nI mk')) 595 4 (nI (k + 1 + 1))) 62 i (nI v) = σ3 at *
        have us : ∀ p, p ≠ 62 → p ≠ 594 → p ≠ 595 → gI σ3 p = gI σ p := fun p y1 y2 y3 => by
          rw [← hσ3, gI_nf _ _ _ y1, gI_nf _ _ _ y3, gI_nf _ _ _ y2, gI_nf _ _ _ y3]
        have u594 : ∀ j, j ≠ 3 → gI σ3 594 j = gI σ 594 j := fun j y => by
          rw [← hσ3, gI_ne _ _ _ _ (by omega), gI_ne _ _ _ _ (by omega), gI_ns _ _ _ y, gI_ne _ _ _ _ (by omega)]
        have u3 : gI σ3 594 3 = nI mk' := by rw [← hσ3, gI_ne _ _ _ _ (by omega), gI_ne _ _ _ _ (by omega), gI_at]
        have u62 : ∀ j, gI σ3 62 j = if j = i then nI v else gI σ 62 j := fun j => by
          by_cases y : j = i
          · subst y; rw [if_pos rfl, ← hσ3, gI_at]
          · rw [if_neg y, ← hσ3, gI_ns _ _ _ y, gI_ne _ _ _ _ (by omega), gI_ne _ _ _ _ (by omega), gI_ne _ _ _ _ (by omega)]
        have rr : ∀ j, j ≠ 5 + i → gI τ4 611 j = gI τ 611 j := fun j y => by
          rw [o2.I (by decide) (fun q => q), gI_ns _ _ _ y, n1.I (by decide) (fun q => q), gI_ne _ _ _ _ (by decide), r1]
        have rri : gI τ4 611 (5 + i) = nI v := by rw [o2.I (by decide) (fun q => q), gI_at]
        have ff : ∀ j, 21 ≤ j → j ≠ 25 → gI τ4 609 j = gI τ 609 j := fun j y1 y2 => by
          rw [o2.F (by unfold bL; omega), gI_ne _ _ _ _ (by decide), n1.F (by unfold bL; omega), gI_ns _ _ _ y2, m1.F (by unfold bL; omega)]
        have f25 : gI τ4 609 25 = nI mk' := by
          rw [o2.F (by unfold bL; omega), gI_ne _ _ _ _ (by decide), n1.F (by unfold bL; omega), gI_at]
        have q6 := j3.1
        have lr : LR σ3 (gI τ4 611) q := j3.sd (fun p y1 y2 => ⟨us p (by omega) (by omega) (by omega), by rw [← hσ3]; rfl⟩) (fun j _ => by rw [us 61 (by omega) (by omega) (by omega)]) (by rw [us 61 (by omega) (by omega) (by omega), rr 1 (by omega)]; exact j3.2.2.2.2.2.1) (fun j hj => by
          rw [u62]
          by_cases y : j = i
          · subst y; rw [if_pos rfl, rri]; exact ⟨rfl, Is.of v9 (by omega)⟩
          · rw [if_neg y, rr _ (by omega)]; exact j3.2.2.2.2.2.2.1 j hj) (u594 5 (by omega)) (fun j y1 y2 y3 => rr j (by omega))
        have Jn : LZ T L N σ3 τ4 (k + 1 + 1) q (nI mk', f.2) := ⟨c3, o3, lr, ⟨u3, f25, by rw [u594 4 (by omega)]; exact j4.2.2.1, by rw [ff 23 (by omega) (by omega)]; exact j4.2.2.2.1, by rw [u594 5 (by omega)]; exact j4.2.2.2.2.1, by rw [ff 24 (by omega) (by omega)]; exact j4.2.2.2.2.2⟩, by rw [rr 4 (by omega)]; omega, fun j y1 y2 => by rw [rr j (by omega)]; exact j6 j y1 y2⟩
        have l3 : Un LM σ σ3 := by
          rw [← hσ3]
          exact l2.trans ((LM.s 4 _ (by unfold LM; omega)).trans (LM.s _ _ (by unfold LM; omega)))
        have w3 : MU (fun i => i = 611) bR τ τ4 := w2.trans (n1.bR.trans (MU.trans (MU.arr (p := 611) _ _ rfl (by decide)) o2.bR))
        by_cases c2 : tkd T L (k + 1 + 1) = 0
        · rw [decide_eq_true c2, if_pos rfl]
          refine (ih (m - 2) (by omega) (fc + 1) fm σ3 τ4 (k + 1 + 1) q (nI mk', f.2) (j + 1) (by omega) (by omega) (by omega) Jn ⟨mk', hy, rfl⟩ (by omega) (Or.inr c2)).sh l3 w3 ?_
          rintro σ' τ' ⟨k', q', f', y1, y2⟩
          exact ⟨k', q', f', by omega, y2⟩
        · rw [decide_eq_false c2, if_neg Bool.false_ne_true, stkL_ok c3 c2 fc (j + 1) (by omega) (by omega)]
          obtain ⟨σ', τ', z1, z2, z3, z4⟩ := semiJ Jn
          unfold pf_X4_readStock_b114 wsg
          rw [show 594 + 1 = 595 from rfl, z1, bind_some, bnd2_some, i10]
          refine ⟨σ', τ', rfl, l3.trans (LM.r z2), w3.trans z3.bR, ?_⟩
          rcases z4 with ⟨z5, z6⟩ | z5
          · exact Or.inl ⟨z5, _, _, _, by omega, z6, mk', hy, rfl⟩
          · exact Or.inr z5
      · obtain ⟨σ4, g1, g2, g3⟩ := e2.put (p := 62) (by unfold LM; omega) (by omega) (nI i) (nI 0)
        unfold wsg
        rw [show pf_X6_number 595 0 999 (sI (sI σ 595 4 (nI (k + 1))) 594 3 (nI mk')) = _ from b1, bnd2_some, g1, bind_some, nI_1, bnd_e, stockL_e fc (j + 1) (by omega) (by omega) g2, show pf_X11_reads 609 0 999 (sI τ1 609 25 (nI mk')) = _ from b3, bnd2_some, i00, bnd2_some, i00]
        exact Oc.bad (Q.id g2) rfl b4 (l2.trans ((LM.r e4).trans g3)) (w2.trans n1.bR)
  · unfold wsg
    rw [show pf_X6_number 595 0 7 σ = _ from a1, bnd2_some, show pf_X11_reads 609 0 7 τ = _ from a3, bnd2_some, i00, bnd2_some, i00]
    have qq := stock75_e (nI 0) fc j (by omega) e2
    refine Oc.bad (σ2 := σ3) (c := c) ?_ rfl a4 (LM.r e4) m1.bR
    by_cases r0 : iushr (gI σ3 594 3) (nI 0) &&& 1 = 0
    · rw [if_pos r0]; exact qq
    · rw [if_neg r0, fail_e e2, bind_some]; exact qq
theorem skip_ok {σ : St} {k : Nat} (h : CP σ T L N k) : pf_X6_skip 595 σ = some (sI σ 595 4 (nI (k + 1))) := by
  unfold pf_X6_skip
  rw [h.2.2.1, nI_1, bnd_e]
theorem stockJ (hb : TB8 T L) {q : Nat} {f : Int32 × Int32 × Int32} {σ τ0 τ : St} {k : Nat} (J : LZ T L N σ τ0 k q f) (hf : F8 f) (u0 : MU noA bL τ0 τ) (m : MP τ T L (k + 1)) (hk : tkd T L k = 5) : Oc σ τ0 (pf_X4_readStock 594 61 σ) (wsg (pf_X11_readsStock 609 τ)) (Pst T L N k) := by
  have k1 := J.1.k1 (by omega)
  have n8 := J.1.N8
  unfold pf_X4_readStock pf_X11_readsStock
  rw [show 594 + 1 = 595 from rfl, skip_ok J.1, bind_some]
  refine (stockLJ hb N FU FU _ τ (k + 1) q f 0 (by omega) (lt_FU (by omega)) (lt_FU (by omega)) (J.tk (J.1.next k1) m (by omega) (Un.sI _ _ rfl) u0) hf (by omega) (Or.inl rfl)).sh (LM.s 4 _ (by unfold LM; omega)) u0.bR ?_
  rintro σ' τ' ⟨k', q', f', y1, y2⟩
  exact ⟨k', q', f', by omega, y2⟩
/-- the seed; what the reference does behind its word -/
noncomputable def seedM (τ : St) : Option (Int32 × St) := bnd (sI τ 609 23 1) fun σ_6 => bnd2 (pf_X11_reads 609 0 9999 σ_6) fun r_7 σ_7 => if r_7 = 0 then some ((0 : Int32), σ_7) else (ckI (1) (alen (609 + 2)) <| bnd (sI σ_7 (609 + 2) (1 : Int32).toNatClampNeg (gI σ_7 609 19)) fun σ_9 => some ((1 : Int32), σ_9))
theorem MP.f {τ : St} {k : Nat} (h : MP τ T L k) {j : Nat} (v : Int32) (hj : 21 ≤ j) : MP (sI τ 609 j v) T L k := by
  obtain ⟨⟨p, h1, h2⟩, h3, h4⟩ := h
  exact ⟨⟨p, ⟨h1.1, h1.2.1, by rw [gI_ns _ _ _ (by omega)]; exact h1.2.2.1, by rw [gI_ns _ _ _ (by omega)]; exact h1.2.2.2.1, fun j hj => by rw [gI_ne _ _ _ _ (by decide)]; exact h1.2.2.2.2 j hj⟩, h2⟩, by rw [gI_ns _ _ _ (by omega)]; exact h3, by rw [gI_ns _ _ _ (by omega)]; exact h4⟩
theorem seedJ (hb : TB8 T L) {q : Nat} {f : Int32 × Int32 × Int32} {σ τ0 τ : St} {k : Nat} (J : LZ T L N σ τ0 k q f) (hf : F8 f) (u0 : MU noA bL τ0 τ) (m : MP τ T L (k + 1)) (hk : tkd T L k = 6) : Oc σ τ0 (pf_X4_readSeed 594 61 σ) (wsg (seedM τ)) (Pst T L N k) := by
  obtain ⟨j1, j2, j3, j4, j5, j6⟩ := id J
  have n8 := j1.N8
  have k1 := j1.k1 (by omega)
  have r0 : gI τ 611 = gI τ0 611 := u0.I (by decide) (fun q => q)
  unfold pf_X4_readSeed seedM
  rw [show 594 + 1 = 595 from rfl, skip_ok j1, bind_some, bnd_e]
  have c1 := j1.next k1
  have m1 : MP (sI τ 609 23 1) T L (k + 1) := m.f 1 (by omega)
  have w1 : MU (fun i => i = 611) bR τ0 (sI τ 609 23 1) := u0.bR.trans (MU.fld _ _ (show 16 ≤ 23 ∧ 23 ≤ 25 by omega))
  obtain ⟨τ1, n1, nn⟩ := numJ hb c1 m1 (lo := 0) (hi := 9999) (by omega) (by omega)
  rcases nn with ⟨v, v0, v9, d0, k2, a1, a2, a3, a4, a5, a6⟩ | ⟨σ3, c, a1, e2, e4, a3, a4⟩
  · rw [show pf_X6_number 595 0 9999 (sI σ 595 4 (nI (k + 1))) = _ from a1, bnd2_some, bnd_e, show pf_X11_reads 609 0 9999 (sI τ 609 23 1) = _ from a3, bnd2_some, i10, show ckI (1 : Int32) (alen (609 + 2)) _ = _ from ckA (n := 1) (show alen (609 + 2) = 4370 from al611) (by omega), show (1 : Int32).toNatClampNeg = 1 from rfl, a5, bnd_e]
    have c3 : CP (sI (sI (sI σ 595 4 (nI (k + 1))) 595 4 (nI (k + 1 + 1))) 61 3 (nI v)) T L N (k + 1 + 1) := a2.w _ _ (by omega)
    have m3 : MP (sI τ1 611 1 (nI v)) T L (k + 1 + 1) := a4.w _ _
    generalize hσ3 : sI (sI (sI σ 595 4 (nI (k + 1))) 595 4 (nI (k + 1 + 1))) 61 3 (nI v) = σ3 at *
    have us : ∀ p, p ≠ 61 → p ≠ 595 → gI σ3 p = gI σ p := fun p y1 y3 => by
      rw [← hσ3, gI_nf _ _ _ y1, gI_nf _ _ _ y3, gI_nf _ _ _ y3]
    have u61 : ∀ j, j ≠ 3 → gI σ3 61 j = gI σ 61 j := fun j y => by
      rw [← hσ3, gI_ns _ _ _ y, gI_ne _ _ _ _ (by omega), gI_ne _ _ _ _ (by omega)]
    have u613 : gI σ3 61 3 = nI v := by rw [← hσ3, gI_at]
    have rr : ∀ j, j ≠ 1 → gI (sI τ1 611 1 (nI v)) 611 j = gI τ0 611 j := fun j y => by
      rw [gI_ns _ _ _ y, n1.I (by decide) (fun q => q), gI_ne _ _ _ _ (by decide), r0]
    have ff : ∀ j, 21 ≤ j → j ≠ 23 → gI (sI τ1 611 1 (nI v)) 609 j = gI τ0 609 j := fun j y1 y2 => by
      rw [gI_ne _ _ _ _ (by decide), n1.F (by unfold bL; omega), gI_ns _ _ _ y2, u0.F (by unfold bL; omega)]
    have f23 : gI (sI τ1 611 1 (nI v)) 609 23 = 1 := by
      rw [gI_ne _ _ _ _ (by decide), n1.F (by unfold bL; omega), gI_at]
    have q6 := j3.1
    have lr : LR σ3 (gI (sI τ1 611 1 (nI v)) 611) q := j3.sd (fun p y1 y2 => ⟨us p (by omega) (by omega), by rw [← hσ3]; rfl⟩) u61 (by rw [u613, gI_at]) (fun j hj => by rw [us 62 (by omega) (by omega), rr _ (by omega)]; exact j3.2.2.2.2.2.2.1 j hj) (by rw [us 594 (by omega) (by omega)]) (fun j y1 y2 y3 => rr j y1)
    have l3 : Un LM σ σ3 := by
      rw [← hσ3]
      exact (LM.s 4 _ (by unfold LM; omega)).trans ((LM.s 4 _ (by unfold LM; omega)).trans (LM.s _ _ (by unfold LM; omega)))
    have w3 : MU (fun i => i = 611) bR τ0 (sI τ1 611 1 (nI v)) := w1.trans (n1.bR.trans (MU.arr (p := 611) _ _ rfl (by decide)))
    obtain ⟨τ4, t1, t2, t3, t4⟩ := msign (i := 24) (c := 59) (by omega) (by omega) rfl (by decide) m3
    unfold wsg
    rw [expect_ok c3, bind_some, bnd_e, bnd2_some, i10, show pf_X11_sign 609 59 (sI τ1 (609 + 2) 1 (nI v)) = _ from t1]
    by_cases c24 : tkd T L (k + 1 + 1) = 24
    · have k3 := c3.k1 (by omega)
      rw [if_pos c24, decide_eq_true c24]
      refine ⟨_, τ4, rfl, l3.trans ((LM.s 4 _ (by unfold LM; omega)).trans (LM.s _ _ (by unfold LM; omega))), w3.trans t2.bR, Or.inl ⟨rfl, k + 1 + 1 + 1, q, (f.1, 1, f.2.2), by omega, ⟨(c3.next k3).w _ _ (by omega), t3 c24, ?_, ?_, ?_, ?_⟩, hf⟩⟩
      · rw [t2.I (by decide) (fun q => q)]
        exact lr.sd (fun p y1 y2 => ⟨by rw [gI_nf _ _ _ (by omega), gI_nf _ _ _ (by omega)], rfl⟩) (fun j _ => by rw [gI_ne _ _ _ _ (by omega), gI_ne _ _ _ _ (by omega)]) (by rw [gI_ne _ _ _ _ (by omega), gI_ne _ _ _ _ (by omega)]; exact lr.2.2.2.2.2.1) (fun j hj => by rw [gI_ne _ _ _ _ (by omega), gI_ne _ _ _ _ (by omega)]; exact lr.2.2.2.2.2.2.1 j hj) (by rw [gI_ns _ _ _ (by omega), gI_ne _ _ _ _ (by omega)]) (fun j _ _ _ => rfl)
      · have fx : ∀ j, 21 ≤ j → gI τ4 609 j = gI (sI τ1 611 1 (nI v)) 609 j := fun j y => t2.F (by unfold bL; omega)
        have u594 : ∀ j, j ≠ 4 → gI (sI (sI σ3 595 4 (nI (k + 1 + 1 + 1))) 594 4 1) 594 j = gI σ 594 j := fun j y => by
          rw [gI_ns _ _ _ y, gI_ne _ _ _ _ (by omega), us 594 (by omega) (by omega)]
        exact ⟨by rw [u594 3 (by omega)]; exact j4.1, by rw [fx 25 (by omega), ff 25 (by omega) (by omega)]; exact j4.2.1, gI_at _ _ _ _, by rw [fx 23 (by omega)]; exact f23, by rw [u594 5 (by omega)]; exact j4.2.2.2.2.1, by rw [fx 24 (by omega), ff 24 (by omega) (by omega)]; exact j4.2.2.2.2.2⟩
      · rw [t2.I (by decide) (fun q => q), rr 4 (by omega)]; omega
      · intro j y1 y2
        rw [t2.I (by decide) (fun q => q), rr j (by omega)]; exact j6 j y1 y2
    · rw [if_neg c24, decide_eq_false c24]
      have ce : CE (erS σ3 (-2) (tst T L (k + 1 + 1))) (-2) (tst T L (k + 1 + 1)) := erS_CE _ (by decide) _
      exact Oc.bad ⟨_, rfl, ce.un (M := fun i => i = 594) (Un.sI _ _ rfl) (by omega), LM.s _ _ (by unfold LM; omega)⟩ rfl (t4 c24) (l3.trans (LM.r (erS_un _ _ _))) (w3.trans t2.bR)
  · have ce : CE (sI σ3 61 3 (nI 0)) c (tst T L (k + 1)) := e2.un (M := fun i => i = 61) (Un.sI _ _ rfl) (by omega)
    unfold wsg
    rw [show pf_X6_number 595 0 9999 (sI σ 595 4 (nI (k + 1))) = _ from a1, bnd2_some, bnd_e, expect_e ce (by omega), bind_some, bnd_e, show pf_X11_reads 609 0 9999 (sI τ 609 23 1) = _ from a3, bnd2_some, i00, bnd2_some, i00]
    exact Oc.bad ⟨_, rfl, ce.un (M := fun i => i = 594) (Un.sI _ _ rfl) (by omega), LM.s _ _ (by unfold LM; omega)⟩ rfl a4 ((LM.s 4 _ (by unfold LM; omega)).trans ((LM.r e4).trans (LM.s _ _ (by unfold LM; omega)))) (w1.trans n1.bR)
end
