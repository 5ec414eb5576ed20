/-! SUMS: a factor, both readers -/
section
variable {T : Nat → Int32} {L N : Nat}
def JS (T : Nat → Int32) (L N : Nat) (σ τ : St) (k n d : Nat) : Prop := CP σ T L N k ∧ MP τ T L k ∧ WD σ τ n ∧ n ≤ k ∧ gI τ 609 21 = nI d
def Okk (T : Nat → Int32) (L N : Nat) (τ : St) (k n d h : Nat) (σ' τ' : St) : Prop := ∃ k' n', k < k' ∧ n ≤ n' ∧ JS T L N σ' τ' k' n' d ∧ hW (gI τ' 611) (n' - n) n h = some (h + 1) ∧ Kp τ τ' n ∧ n' + k ≤ n + k'
def Ott (T : Nat → Int32) (L N : Nat) (σ τ : St) (k n d h : Nat) (cl : Option St) (ml : Option (Int32 × St)) : Prop := ∃ σ' τ', cl = some σ' ∧ FC σ σ' ∧ FM τ τ' ∧ ((ml = some (1, τ') ∧ Okk T L N τ k n d h σ' τ') ∨ (ml = some (0, τ') ∧ ∃ c o, CE σ' c o ∧ ME τ' c o))
theorem isV_t : ∀ t, t < 32 → (if (0 : Int32) ≤ tkC.getD t 0 then (0 : Int32) else if tkC.getD t 0 < (-6) then 0 else 1) = if t = 19 ∨ t = 20 ∨ t = 21 ∨ t = 22 ∨ t = 23 ∨ t = 8 then 1 else 0 := by decide +kernel
theorem isV_ok {t : Nat} (ht : t < 32) (σ : St) : pf_X5_isVariable t σ = some (if t = 19 ∨ t = 20 ∨ t = 21 ∨ t = 22 ∨ t = 23 ∨ t = 8 then 1 else 0) := by
  rw [← isV_t t ht]
  unfold pf_X5_isVariable
  repeat' split
  all_goals first | rfl | contradiction
theorem vtk_C : ∀ v, v < 6 → tkC.getD (vtk v) 0 = encW 1 (nI v) ∧ (vtk v = 19 ∨ vtk v = 20 ∨ vtk v = 21 ∨ vtk v = 22 ∨ vtk v = 23 ∨ vtk v = 8) ∧ vtk v ≠ 0 ∧ vtk v ≠ 26 ∧ vtk v ≠ 1 := by decide +kernel
theorem vtk_of {t : Nat} (h : t = 19 ∨ t = 20 ∨ t = 21 ∨ t = 22 ∨ t = 23 ∨ t = 8) : ∃ v, v < 6 ∧ t = vtk v := by
  rcases h with rfl | rfl | rfl | rfl | rfl | rfl
  · exact ⟨0, by omega, rfl⟩
  · exact ⟨1, by omega, rfl⟩
  · exact ⟨2, by omega, rfl⟩
  · exact ⟨3, by omega, rfl⟩
  · exact ⟨4, by omega, rfl⟩
  · exact ⟨5, by omega, rfl⟩
theorem appC_U {σ : St} {n : Nat} (v : Int32) : Un (fun i => i = 61 ∨ i = 65) σ (sI (sI σ 65 n v) 61 7 (nI (n + 1))) := Un.trans (M := fun i => i = 61 ∨ i = 65) (Un.sI _ _ (Or.inr rfl)) (Un.sI _ _ (Or.inl rfl))
theorem MP.fm {τ τ' : St} {k : Nat} (h : MP τ T L k) (u : MU (fun i => i = 611) (fun _ => False) τ τ') : MP τ' T L k := by
  obtain ⟨⟨p, h1, h2⟩, h3, h4⟩ := h
  exact ⟨⟨p, ⟨h1.1, h1.2.1, by rw [u.F (fun q => q)]; exact h1.2.2.1, by rw [u.F (fun q => q)]; exact h1.2.2.2.1, fun j hj => by rw [u.I (by decide) (by decide)]; exact h1.2.2.2.2 j hj⟩, h2⟩, by rw [u.F (fun q => q)]; exact h3, by rw [u.F (fun q => q)]; exact h4⟩
theorem emS_M {τ : St} {n : Nat} (a b : Int32) : MU (fun i => i = 611) (fun _ => False) τ (emS τ n a b) := by
  unfold emS
  exact MU.trans (A := fun i => i = 611) (B := fun _ => False) (MU.arr (p := 611) _ _ rfl (by decide)) (MU.trans (A := fun i => i = 611) (B := fun _ => False) (MU.arr (p := 611) _ _ rfl (by decide)) (MU.arr (p := 611) _ _ rfl (by decide)))
/-- a code more on both sides -/
theorem JS.emit {σ τ : St} {k n d : Nat} (J : JS T L N σ τ k n d) (hn : n < k) (hk : k ≤ 800) {a b : Int32} (hv : Is a 5 ∧ (a = 0 → Is b 9999) ∧ (a = 1 → Is b 5)) : JS T L N (sI (sI σ 65 n (encW a b)) 61 7 (nI (n + 1))) (emS τ n a b) k (n + 1) d := by
  obtain ⟨j1, j2, j3, j4, j5⟩ := J
  exact ⟨j1.un (appC_U _) ⟨by decide, by decide, by decide, by decide⟩, j2.fm (emS_M a b), j3.add hv, hn, by rw [(emS_M a b).F (fun q => q)]; exact j5⟩
theorem Kp.trans {τ τ' τ'' : St} {n n' : Nat} (h : Kp τ τ' n) (h' : Kp τ' τ'' n') (hn : n ≤ n') : Kp τ τ'' n := fun j h1 h2 => (h' j h1 (by omega)).trans (h j h1 h2)
theorem Kp.eq {τ τ' : St} (n : Nat) (h : gI τ' 611 = gI τ 611) : Kp τ τ' n := fun j _ _ => by rw [h]
/-- one push -/
theorem hW_1 {τ : St} {n h : Nat} {a b : Int32} (ha : Nn a ≤ 1) (hh : h + 1 ≤ 11) : hW (gI (emS τ n a b) 611) (n + 1 - n) n h = some (h + 1) := by
  rw [show n + 1 - n = 1 by omega, hW, (emS_at a b).1, if_pos ha, if_pos hh, hW]
theorem factorJ (hb : TB8 T L) {rcC : Nat → Nat → Nat → Int32 → St → Option St} {rcM : Nat → St → Option (Int32 × St)} {d : Nat} (hd : d ≤ 4) (H : d < 4 → ∀ σ τ k n h, JS T L N σ τ k n (d + 1) → h ≤ 2 * (d + 1) → Ott T L N σ τ k n (d + 1) h (rcC 601 595 61 (nI (d + 1)) σ) (rcM 609 τ)) {σ τ : St} {k n h : Nat} (J : JS T L N σ τ k n d) (hh : h ≤ 2 * d + 2) : Ott T L N σ τ k n d h (pf_X9_readFactor rcC 601 595 61 (nI d) σ) (pf_X11_readsFactor rcM 609 τ) := by
  obtain ⟨j1, j2, j3, j4, j5⟩ := id J
  have hL := j1.le
  have n8 := j1.N8
  have hkN := j1.2.1
  have ht := tkd_lt (T := T) (L := L) k
  obtain ⟨τ1, g1, g2, g3, g4, g5⟩ := mhere j2
  have r1 : gI τ1 611 = gI τ 611 := g2.I (by decide) (fun q => q)
  have e21 : gI τ1 609 21 = nI d := (g2.F (by unfold bL; omega)).trans j5
  have w1 : WD σ τ1 n := j3.to rfl rfl r1
  have ltN : tkd T L k ≠ 1 → k < N := fun q => j1.lt.mp (by
    have h1 : tst T L k ≠ L := fun e => q ((tkd_1 hL).mpr e)
    omega)
  have si := sign_iff (k := k) (i := 26) (c := 40) (by omega) (by omega) rfl hL
  unfold pf_X9_readFactor pf_X11_readsFactor
  rw [ahead_ok j1, bind_some, g1, bnd2_some]
  by_cases c26 : tkd T L k = 26
  · obtain ⟨y1, y2⟩ := si.mp c26
    have er1 : (if tst T L k < L then T (tst T L k) else (-1 : Int32)) = 40 := by rw [if_pos y1]; exact y2
    rw [c26, if_neg (show ¬ (some 26 : Option Nat) = some 0 by decide), ckT_some (by omega), isV_ok (by omega), bind_some, if_pos (show (if (26 : Nat) = 19 ∨ 26 = 20 ∨ 26 = 21 ∨ 26 = 22 ∨ 26 = 23 ∨ 26 = 8 then (1 : Int32) else 0) = 0 by decide), open_ok j1 (by omega), if_pos c26, if_pos er1]
    obtain ⟨τ2, o1, o2, o3⟩ := mopens g3 c26 hd e21
    have r2 : gI τ2 611 = gI τ 611 := o2.trans r1
    have f2 : FM τ τ2 := (FM.l g2).trans o1
    rcases o3 with ⟨d4, q1, q2, q3⟩ | ⟨d4, q1, q2⟩
    · rw [if_pos d4, bnd2_some, if_neg (by decide), q1, bnd2_some, if_neg (by decide), nI_1]
      have k1 := ltN (by omega)
      have J2 : JS T L N (sI σ 595 4 (nI (k + 1))) τ2 (k + 1) n (d + 1) := ⟨j1.next k1, q2, j3.to (by rw [gI_ne _ _ _ _ (by omega)]) (by rw [gI_nf _ _ _ (by omega)]) r2, by omega, q3⟩
      obtain ⟨σ3, τ3, a1, a2, a3, a4⟩ := H d4 _ _ _ _ h J2 (by omega)
      rw [a1, bind_some]
      rcases a4 with ⟨m1, k', n', b1, b2, b3, b4, b5, b6⟩ | ⟨m1, c, o, b1, b2⟩
      · rw [m1, bnd2_some, if_neg (by decide)]
        obtain ⟨x1, x2, x3, x4, x5⟩ := id b3
        obtain ⟨τ4, s1, s2, s3⟩ := mcloses x2 x5
        rw [expect_ok x1, bind_some]
        have fc : FC σ σ3 := (FC.s σ 4 _).trans a2
        have fm : FM τ τ4 := f2.trans (a3.trans s1)
        rcases s3 with ⟨t1, t2, t3, t4⟩ | ⟨t1, t2, t3⟩
        · rw [if_pos t1, t2, bnd2_some, if_neg (by decide)]
          have x6 : k' < N := x1.lt.mp (by
            have h1 : tst T L k' ≠ L := fun e => absurd ((tkd_1 x1.le).mpr e) (by omega)
            have h2 := x1.le
            omega)
          refine ⟨_, τ4, rfl, fc.trans (FC.s σ3 4 _), fm, Or.inl ⟨rfl, k' + 1, n', by omega, b2, ⟨x1.next x6, t3, x3.to (by rw [gI_ne _ _ _ _ (by omega)]) (by rw [gI_nf _ _ _ (by omega)]) s2, by omega, t4⟩, ?_, ?_, by omega⟩⟩
          · rw [s2]; exact b4
          · exact (Kp.eq n r2).trans (b5.trans (Kp.eq n s2) (Nat.le_refl _)) (Nat.le_refl _)
        · rw [if_neg t1, t2, bnd2_some, if_pos rfl]
          exact ⟨_, τ4, rfl, fc.trans (FC.r (erS_un _ _ _)), fm, Or.inr ⟨rfl, _, _, erS_CE σ3 (by decide) _, t3⟩⟩
      · rw [m1, bnd2_some, if_pos rfl, expect_e b1 (by omega), bind_some]
        exact ⟨σ3, τ3, rfl, (FC.s σ 4 _).trans a2, f2.trans a3, Or.inr ⟨rfl, c, o, b1, b2⟩⟩
    · rw [if_neg (show ¬ d < 4 by omega), bnd2_some, if_pos rfl, q1, bnd2_some, if_pos rfl]
      exact ⟨_, τ2, rfl, (FC.r (erS_un _ _ _)).trans (FC.s _ 4 _), f2, Or.inr ⟨rfl, _, _, (erS_CE σ (by decide) _).s 4 _ (by decide) (by decide), q2⟩⟩
  · have er1 : ¬ (if tst T L k < L then T (tst T L k) else (-1 : Int32)) = 40 := fun e => by
      by_cases y : tst T L k < L
      · rw [if_pos y] at e; exact c26 (si.mpr ⟨y, e⟩)
      · rw [if_neg y] at e; exact absurd e (by decide)
    rw [if_neg er1]
    obtain ⟨τ2, o1, o2, o3⟩ := mmore g3
    have r2 : gI τ2 611 = gI τ 611 := (o2.I (by decide) (fun q => q)).trans r1
    have e21' : gI τ2 609 21 = nI d := (o2.F (by unfold bL; omega)).trans e21
    have f2 : FM τ τ2 := (FM.l g2).trans (FM.l o2)
    rw [o1, bnd2_some, if_b2]
    by_cases c0 : tkd T L k = 0
    · have k1 := ltN (by omega)
      rw [if_pos (by rw [c0]), decide_eq_true c0, if_pos rfl]
      obtain ⟨τ3, p1, p2, p3, p4⟩ := mreads hb o3 (lo := 0) (hi := 9999) (by omega) (by omega)
      have r3 : gI τ3 611 = gI τ 611 := (p2.I (by decide) (fun q => q)).trans r2
      have f3 : FM τ τ3 := f2.trans (FM.l p2)
      rw [show pf_X6_number 595 0 9999 σ = _ from number_ok j1 (lo := 0) (hi := 9999) (by omega) (by omega), if_pos c0, show pf_X11_reads 609 0 9999 τ2 = _ from p1]
      by_cases cv : 0 ≤ nvl T L k ∧ nvl T L k ≤ 9999
      · obtain ⟨p5, p6, p7⟩ := p3 ⟨c0, cv⟩
        rw [if_pos cv, bnd2_some, bnd2_some, if_b2, decide_eq_true (⟨c0, cv⟩ : tkd T L k = 0 ∧ 0 ≤ nvl T L k ∧ nvl T L k ≤ 9999), if_pos rfl, p7]
        have J3 : JS T L N (sI σ 595 4 (nI (k + 1))) τ3 (k + 1) n d := ⟨j1.next k1, p5, j3.to (by rw [gI_ne _ _ _ _ (by omega)]) (by rw [gI_nf _ _ _ (by omega)]) r3, by omega, (p2.F (by unfold bL; omega)).trans e21'⟩
        have J4 := J3.emit (a := 0) (b := nI (nvl T L k)) (by omega) (by omega) ⟨Is.of (n := 0) (by omega) (by omega), fun _ => Is.of cv.2 (by omega), fun q => absurd q (by decide)⟩
        rw [appC J3.2.2.1.1 (by omega), bind_some, emM J3.2.2.1.2.1 (by omega), bind_some]
        exact ⟨_, _, rfl, (FC.s σ 4 _).trans (appC_F _), f3.trans (emS_F (by omega) _ _), Or.inl ⟨rfl, k + 1, n + 1, by omega, by omega, J4, hW_1 (by decide) (by omega), (Kp.eq n r3).trans (emS_at _ _).2.2.2 (Nat.le_refl _), by omega⟩⟩
      · have pe := p4 (fun q => cv q.2)
        rw [if_pos c0] at pe
        rw [if_neg cv, bnd2_some, bnd2_some, if_b2, decide_eq_false (fun q : tkd T L k = 0 ∧ 0 ≤ nvl T L k ∧ nvl T L k ≤ 9999 => cv q.2), if_neg Bool.false_ne_true]
        have ew : gI (erS (sI σ 595 4 (nI (k + 1))) (-3) (tst T L k)) 61 7 = nI n := by
          unfold erS
          rw [gI_ne _ _ _ _ (by omega), gI_ne _ _ _ _ (by omega), gI_ne _ _ _ _ (by omega)]; exact j3.1
        rw [appC ew (by omega), bind_some]
        exact ⟨_, τ3, rfl, (FC.s σ 4 _).trans ((FC.r (erS_un _ _ _)).trans (appC_F _)), f3, Or.inr ⟨rfl, _, _, (erS_CE _ (by decide) _).un (appC_U _) (by decide), pe⟩⟩
    · rw [if_neg (fun e => c0 (Option.some.inj e)), decide_eq_false c0, if_neg Bool.false_ne_true, ckT_some ht]
      rcases mvariable o3 with ⟨v, τ3, v6, hv, p1, p2, p3⟩ | ⟨hv, τ3, p1, p2, p3, p4⟩
      · obtain ⟨z1, z2, z3, z4, z5⟩ := vtk_C v v6
        have k1 := ltN (by rw [hv]; exact z5)
        have r3 : gI τ3 611 = gI τ 611 := (p2.I (by decide) (fun q => q)).trans r2
        have f3 : FM τ τ3 := f2.trans (FM.l p2)
        have iv : pf_X5_isVariable (tkd T L k) σ = some 1 := by rw [isV_ok ht, if_pos (by rw [hv]; exact z2)]
        rw [iv, bind_some, if_neg (show ¬ (1 : Int32) = 0 by decide), ckT_some ht, p1, bnd2_some, if_neg (show ¬ nI v = -1 from fun e => by
          have : ∀ v, v < 6 → nI v ≠ -1 := by decide +kernel
          exact this v v6 e), hv, z1]
        rw [appC j3.1 (by omega), bind_some]
        have J3 : JS T L N (sI σ 595 4 (nI (k + 1))) τ3 (k + 1) n d := ⟨j1.next k1, p3, j3.to (by rw [gI_ne _ _ _ _ (by omega)]) (by rw [gI_nf _ _ _ (by omega)]) r3, by omega, (p2.F (by unfold bL; omega)).trans e21'⟩
        have J4 := J3.emit (a := 1) (b := nI v) (by omega) (by omega) ⟨Is.of (n := 1) (by omega) (by omega), fun q => absurd q (by decide), fun _ => Is.of (show v ≤ 5 by omega) (by omega)⟩
        rw [show pf_X11_emits 609 1 (nI v) τ3 = _ from emM J3.2.2.1.2.1 (by omega) 1 (nI v), bind_some]
        have ex : pf_X6_skip 595 (sI (sI σ 65 n (encW 1 (nI v))) 61 7 (nI (n + 1))) = some (sI (sI (sI σ 65 n (encW 1 (nI v))) 61 7 (nI (n + 1))) 595 4 (nI (k + 1))) := by
          unfold pf_X6_skip
          rw [gI_ne _ _ _ _ (by omega), gI_ne _ _ _ _ (by omega), j1.2.2.1, nI_1, bnd_e]
        rw [ex, bind_some]
        have J5 : JS T L N (sI (sI (sI σ 65 n (encW 1 (nI v))) 61 7 (nI (n + 1))) 595 4 (nI (k + 1))) (emS τ3 n 1 (nI v)) (k + 1) (n + 1) d := by
          obtain ⟨i1, i2, i3, i4, i5⟩ := J4
          have c1 : CP (sI (sI σ 65 n (encW 1 (nI v))) 61 7 (nI (n + 1))) T L N k := j1.un (appC_U _) ⟨by decide, by decide, by decide, by decide⟩
          refine ⟨c1.next k1, i2, i3.to ?_ ?_ rfl, i4, i5⟩
          · rw [gI_ne _ _ _ _ (by omega), gI_at, gI_at]
          · funext j
            simp [gI_sI]
        exact ⟨_, _, rfl, (appC_F _).trans (FC.s _ 4 _), f3.trans (emS_F (by omega) _ _), Or.inl ⟨rfl, k + 1, n + 1, by omega, by omega, J5, hW_1 (by decide) (by omega), (Kp.eq n r3).trans (emS_at _ _).2.2.2 (Nat.le_refl _), by omega⟩⟩
      · have nv : ¬ (tkd T L k = 19 ∨ tkd T L k = 20 ∨ tkd T L k = 21 ∨ tkd T L k = 22 ∨ tkd T L k = 23 ∨ tkd T L k = 8) := fun q => by
          obtain ⟨v, v6, e⟩ := vtk_of q
          exact hv v v6 e
        obtain ⟨m1, m2, m3⟩ := mfails p3.2.1 (c := -2) (by decide) (tst T L k)
        have iv : pf_X5_isVariable (tkd T L k) σ = some 0 := by rw [isV_ok ht, if_neg nv]
        rw [iv, bind_some, if_pos rfl, open_ok j1 (by omega), if_neg c26, bnd2_some, if_pos rfl, p1, bnd2_some, if_pos rfl, p4, m1, bnd2_some, ckZ_0]
        exact ⟨_, _, rfl, (FC.r (erS_un _ _ _)).trans (FC.s _ 4 _), f2.trans ((FM.l p2).trans (FM.l m3)), Or.inr ⟨rfl, _, _, (erS_CE σ (by decide) _).s 4 _ (by decide) (by decide), m2⟩⟩
end
