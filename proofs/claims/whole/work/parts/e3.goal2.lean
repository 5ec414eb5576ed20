/-! GOALS: several in parentheses, both readers -/
theorem EV.cg {τ : St} {n0 n : Nat} {l l' : Nat → List Bool} (h : EV τ n0 n l) (e : ∀ u, u < 64 → l' u = l u) : EV τ n0 n l' := ⟨h.1, fun u hu st => by rw [e u hu]; exact h.2.1 u hu st, h.2.2⟩
section
variable {T : Nat → Int32} {L N S : Nat}
def Osv (T : Nat → Int32) (L N S : Nat) (σ τ : St) (k0 n0 k d : Nat) (cl : Option (Int64 × St)) (ml : Option (Int32 × St)) : Prop := ∃ g σ' τ', cl = some (g, σ') ∧ FCg d σ σ' ∧ FMg τ τ' ∧ ((ml = some (1, τ') ∧ GV g S ∧ ∃ k' n', k < k' ∧ JG T L N S σ' τ' k' n' d ∧ EV τ' n0 n' (fun u => [gbit g u]) ∧ Kg τ τ' n0 ∧ n' + k0 ≤ n0 + k') ∨ (ml = some (0, τ') ∧ ∃ c o, CE σ' c o ∧ ME τ' c o))
noncomputable def hereK (rcM : Nat → St → Option (Int32 × St)) (fm v many : Nat) (τ : St) : Option (Int32 × St) :=
  bnd2 (pf_X11_here 609 τ) fun r τ3 => if r = 44 then pf_X11_readsSeveral_L11 rcM (pf_X11_readsSeveral_b46 rcM) fm 609 (nI v) (nI many) τ3 else pf_X11_readsSeveral_b46 rcM 609 (nI v) (nI many) τ3
theorem sev_end {rcC : Nat → Nat → Int32 → Int32 → St → Option (Int64 × St)} {rcM : Nat → St → Option (Int32 × St)} {d v : Nat} (hd : d ≤ 3) (hv1 : 1 ≤ v) (hv6 : v ≤ 6) {k0 n0 : Nat} (hnk : n0 ≤ k0) {σ τ : St} {k n many : Nat} {l : Nat → List Bool} (J : JG T L N S σ τ k n (d + 1)) (hm1 : 1 ≤ many) (hmk : many < k) (tl : TL σ d (fun u => (l u).count true)) (ev : EV τ n0 n l) (ll : ∀ u, u < 64 → (l u).length = many) (l0 : (l 0).count true = 0) (lS : ∀ u, u < 64 → l (u % 2 ^ S) = l u) (hb : n + k0 + 1 ≤ n0 + k) : Osv T L N S σ τ k0 n0 k d (pf_X0_readGroup_b99 rcC 599 595 (nI d) (nI v) σ) (pf_X11_readsSeveral_b46 rcM 609 (nI v) (nI many) τ) := by
  have n8 := J.1.N8
  have hkN := J.1.2.1
  have en0 := ev.1
  have J2 := J.emit (by omega) (3 : Int32) (nI (1000 * v + many))
  obtain ⟨i1, i2, i3, i4, i5, i6⟩ := id J2
  have ev2 : EV (goS τ n (nI 3) (nI (1000 * v + many))) n0 (n + 1) (fun u => [decide (v ≤ (l u).count true)]) := ev.go (by omega) (by omega) (fun q => by omega) fun u hu st => by
    have h1 : (1000 * v + many) % 1000 = many := by omega
    have h2 : (1000 * v + many) / 1000 = v := by omega
    unfold stG
    rw [if_neg (by omega), if_pos rfl, h1, h2, if_pos ⟨hm1, by rw [List.length_append, ll u hu]; omega⟩]
    rw [show (l u ++ st).take many = l u from by rw [← ll u hu, List.take_left], show (l u ++ st).drop many = st from by rw [← ll u hu, List.drop_left]]
    rfl
  obtain ⟨τ3, s1, s2, s3⟩ := mcloses i2 i5
  have gb : ∀ u, u < 64 → gbit (gL σ 600 (7 * d + v)) u = decide (v ≤ (l u).count true) := fun u hu => tl v hv6 u hu
  have gv : GV (gL σ 600 (7 * d + v)) S := ⟨by rw [gb 0 (by omega), l0, decide_eq_false (by omega)], fun u hu => by rw [gb u hu, gb _ (by have := Nat.mod_le u (2 ^ S); omega), lS u hu]⟩
  unfold pf_X0_readGroup_b99 pf_X11_readsSeveral_b46
  rw [expect_ok i1, bind_some, show (1000 : Int32) = nI 1000 from rfl, pk_mul, nI_add, goM J.2.2.1 (by omega), bind_some]
  have fm : FMg τ τ3 := (FMg.g (by omega) _ _).trans (FMg.q s1 s2)
  rcases s3 with ⟨t1, t2, t3, t4⟩ | ⟨t1, t2, t3⟩
  · have x6 : k < N := i1.lt.mp (by
      have h1 : tst T L k ≠ L := fun e => absurd ((tkd_1 i1.le).mpr e) (by omega)
      have h2 := i1.le
      omega)
    rw [if_pos t1, tallied_ok hd hv6, bind_some, show pf_X11_closes 609 (goS τ n 3 (nI (1000 * v + many))) = _ from t2, bnd2_some, ckZ_1]
    refine ⟨gL σ 600 (7 * d + v), _, τ3, ?_, FCg.s σ 4 _, fm, Or.inl ⟨rfl, gv, k + 1, n + 1, by omega, ⟨i1.next x6, t3, by rw [s2]; exact i3, by omega, t4, by rw [s1.1.F (by unfold bS; omega)]; exact i6⟩, ?_, ?_, by omega⟩⟩
    · rfl
    · exact EV.cg (l := fun u => [decide (v ≤ (l u).count true)]) (ev2.kg (Kg.eq (n + 1) s2) (Nat.le_refl _)) fun u hu => by
        show [gbit (gL σ 600 (7 * d + v)) u] = _
        rw [gb u hu]
    · exact (show Kg τ (goS τ n (nI 3) (nI (1000 * v + many))) n0 from fun j a b => (goS_at _ _).2.2.2 j a (by omega)).trans (Kg.eq n0 s2) (Nat.le_refl _)
  · obtain ⟨r, hr⟩ := tallied_tot (nI d) (nI v) (erS σ (-2) (tst T L k))
    rw [if_neg t1, hr, bind_some, show pf_X11_closes 609 (goS τ n 3 (nI (1000 * v + many))) = _ from t2, bnd2_some, ckZ_0]
    exact ⟨r, _, τ3, rfl, FCg.r (erS_un _ _ _), fm, Or.inr ⟨rfl, _, _, erS_CE σ (by decide) _, t3⟩⟩
theorem sev_loop {rcC : Nat → Nat → Int32 → Int32 → St → Option (Int64 × St)} {rcM : Nat → St → Option (Int32 × St)} {d v : Nat} (hd : d ≤ 3) (hv1 : 1 ≤ v) (hv6 : v ≤ 6) (H : ∀ σ τ k n, JG T L N S σ τ k n (d + 1) → Ogg T L N S σ τ k n (d + 1) (rcC 599 595 (nI S) (nI (d + 1)) σ) (rcM 609 τ)) {k0 n0 : Nat} (hnk : n0 ≤ k0) : ∀ m fc fm σ τ k n many l, N - k ≤ m → m < fc → m < fm → JG T L N S σ τ k n (d + 1) → 1 ≤ many → many < k → TL σ d (fun u => (l u).count true) → EV τ n0 n l → (∀ u, u < 64 → (l u).length = many) → (l 0).count true = 0 → (∀ u, u < 64 → l (u % 2 ^ S) = l u) → n + k0 + 1 ≤ n0 + k → Osv T L N S σ τ k0 n0 k d (pf_X0_readGroup_L62 rcC (pf_X0_readGroup_b99 rcC) fc 599 595 (nI S) (nI d) (nI v) (nI 800) (nI many) σ) (hereK rcM fm v many τ) := by
  intro m
  induction m with
  | zero =>
    intro fc fm σ τ k n many l h1 h2 h3 J hm1 hmk tl ev ll l0 lS hb
    obtain ⟨fc, rfl⟩ : ∃ x, fc = x + 1 := ⟨fc - 1, by omega⟩
    have n8 := J.1.N8
    have hkN := J.1.2.1
    obtain ⟨τ1, g1, g2, g3, g4, g5⟩ := mhere J.2.1
    have r1 : gI τ1 611 = gI τ 611 := g2.I (by decide) (fun q => q)
    have si := sign_iff (k := k) (i := 25) (c := 44) (by omega) (by omega) rfl J.1.le
    have c25 : tkd T L k ≠ 25 := fun c => by
      have := J.1.lt.mp (si.mp c).1
      omega
    have e44 : ¬ (if tst T L k < L then T (tst T L k) else (-1 : Int32)) = 44 := fun e => by
      by_cases y : tst T L k < L
      · rw [if_pos y] at e; exact c25 (si.mpr ⟨y, e⟩)
      · rw [if_neg y] at e; exact absurd e (by decide)
    unfold hereK
    rw [pf_X0_readGroup_L62, if_neg (nI_ge (show many < 800 by omega) (by omega)), take_ok J.1, if_neg c25, decide_eq_false c25, bnd2_some, if_b2, if_neg Bool.false_ne_true, g1, bnd2_some, if_neg e44]
    have J1 : JG T L N S σ τ1 k n (d + 1) := ⟨J.1, g3, by rw [r1]; exact J.2.2.1, J.2.2.2.1, (g2.F (by unfold bL; omega)).trans J.2.2.2.2.1, (g2.F (by unfold bL; omega)).trans J.2.2.2.2.2⟩
    obtain ⟨g, σ', τ', z1, z2, z3, z4⟩ := sev_end (rcC := rcC) (rcM := rcM) hd hv1 hv6 hnk J1 hm1 hmk tl (ev.kg (Kg.eq n r1) (Nat.le_refl _)) ll l0 lS hb
    refine ⟨g, σ', τ', z1, z2, (FMg.l g2).trans z3, ?_⟩
    rcases z4 with ⟨z5, z6, k', n', z7, z8, z9, z10, z11⟩ | z5
    · exact Or.inl ⟨z5, z6, k', n', z7, z8, z9, (Kg.eq n0 r1).trans z10 (Nat.le_refl _), z11⟩
    · exact Or.inr z5
  | succ m ih =>
    intro fc fm σ τ k n many l h1 h2 h3 J hm1 hmk tl ev ll l0 lS hb
    obtain ⟨fc, rfl⟩ : ∃ x, fc = x + 1 := ⟨fc - 1, by omega⟩
    obtain ⟨fm, rfl⟩ : ∃ x, fm = x + 1 := ⟨fm - 1, by omega⟩
    have n8 := J.1.N8
    have hkN := J.1.2.1
    obtain ⟨τ1, g1, g2, g3, g4, g5⟩ := mhere J.2.1
    have r1 : gI τ1 611 = gI τ 611 := g2.I (by decide) (fun q => q)
    have si := sign_iff (k := k) (i := 25) (c := 44) (by omega) (by omega) rfl J.1.le
    unfold hereK
    rw [pf_X0_readGroup_L62, if_neg (nI_ge (show many < 800 by omega) (by omega)), take_ok J.1, g1, bnd2_some, bnd2_some, if_b2]
    by_cases c25 : tkd T L k = 25
    · obtain ⟨y1, y2⟩ := si.mp c25
      have k1 := J.1.lt.mp y1
      rw [if_pos c25, decide_eq_true c25, if_pos rfl, if_pos (show (if tst T L k < L then T (tst T L k) else (-1 : Int32)) = 44 by rw [if_pos y1]; exact y2)]
      rw [pf_X11_readsSeveral_L11, if_neg (show ¬ nI many ≤ (0 : Int32) from nI_ge (show 0 < many by omega) (by omega)), g4, nI_1, bnd_e]
      unfold pf_X11_readsSeveral_b25
      have Jn : JG T L N S (sI σ 595 4 (nI (k + 1))) (sI τ1 609 16 (nI (tst T L k + 1))) (k + 1) n (d + 1) := ⟨J.1.next k1, ⟨⟨tst T L k + 1, g5.to (by omega), sign_next y1 y2 (by decide)⟩, by rw [gI_ns _ _ _ (by decide)]; exact g3.2.1, by rw [gI_ns _ _ _ (by decide)]; exact g3.2.2⟩, by rw [gI_ne _ _ _ _ (by decide), r1]; exact J.2.2.1, by have := J.2.2.2.1; omega, by rw [gI_ns _ _ _ (by decide)]; exact (g2.F (by unfold bL; omega)).trans J.2.2.2.2.1, by rw [gI_ns _ _ _ (by decide)]; exact (g2.F (by unfold bL; omega)).trans J.2.2.2.2.2⟩
      have r2 : gI (sI τ1 609 16 (nI (tst T L k + 1))) 611 = gI τ 611 := by rw [gI_nf _ _ _ (by omega)]; exact r1
      have f2 : FMg τ (sI τ1 609 16 (nI (tst T L k + 1))) := (FMg.l g2).trans (FMg.f _ _ (by unfold bS; omega))
      have tl1 : TL (sI σ 595 4 (nI (k + 1))) d (fun u => (l u).count true) := tl.un (M := fun i => i = 595) (Un.sI _ _ rfl) (by decide)
      obtain ⟨g, σ2, τ2, a1, a2, a3, a4⟩ := H _ _ _ _ Jn
      rw [nI_1, a1, bnd2_some]
      have tl2 := tl1.fc a2
      obtain ⟨σ3, b1, b2, b3, b4⟩ := tally_ok g hd tl2
      rw [b1, bind_some, nI_1, bnd_e]
      have fc3 : FCg d σ σ3 := (FCg.s σ 4 _).trans (a2.dn.trans (FCg.t b2 b4))
      have fm3 : FMg τ τ2 := f2.trans a3
      rcases a4 with ⟨q1, q2, k', n', q3, q4, q5, q6, q7⟩ | ⟨q1, c', o', q2, q3⟩
      · rw [q1, bnd2_some, if_neg (show ¬ (1 : Int32) = 0 by decide), bnd_e]
        have J3 : JG T L N S σ3 τ2 k' n' (d + 1) := ⟨q4.1.un b2 ⟨by decide, by decide, by decide, by decide⟩, q4.2⟩
        have kp : Kg τ τ2 n := (Kg.eq n r2).trans q6 (Nat.le_refl _)
        have ev3 : EV τ2 n0 n' (fun u => gbit g u :: l u) := (ev.kg kp (Nat.le_refl _)).cat q5
        have hk' := q4.1.2.1
        obtain ⟨gg, σ', τ', z1, z2, z3, z4⟩ := ih fc fm σ3 τ2 k' n' (many + 1) (fun u => gbit g u :: l u) (by omega) (by omega) (by omega) J3 (by omega) (by omega) (b3.cg fun u hu => by
          show (gbit g u :: l u).count true = (l u).count true + (gbit g u).toNat
          cases gbit g u
          · simp
          · simp) ev3 (fun u hu => by rw [List.length_cons, ll u hu]) (by
          show (gbit g 0 :: l 0).count true = 0
          rw [q2.1]; simpa using l0) (fun u hu => by
          show gbit g (u % 2 ^ S) :: l (u % 2 ^ S) = gbit g u :: l u
          rw [q2.2 u hu, lS u hu]) (by omega)
        refine ⟨gg, σ', τ', z1, fc3.trans z2, fm3.trans z3, ?_⟩
        rcases z4 with ⟨z5, z6, k2, n2, z7, z8, z9, z10, z11⟩ | z5
        · exact Or.inl ⟨z5, z6, k2, n2, by omega, z8, z9, fun j x y => (z10 j x y).trans (kp j x (by have := ev.1; omega)), z11⟩
        · exact Or.inr z5
      · obtain ⟨fc, rfl⟩ : ∃ x, fc = x + 1 := ⟨fc - 1, by omega⟩
        have ce : CE σ3 c' o' := q2.un b2 (by decide)
        obtain ⟨r, hr⟩ := group62_e rcC (nI S) (nI d) (nI v) (nI 800) (nI (many + 1)) fc ce
        rw [hr, q1, bnd2_some, if_pos rfl]
        exact ⟨r, σ3, τ2, rfl, fc3, fm3, Or.inr ⟨rfl, c', o', ce, q3⟩⟩
    · have e44 : ¬ (if tst T L k < L then T (tst T L k) else (-1 : Int32)) = 44 := fun e => by
        by_cases y : tst T L k < L
        · rw [if_pos y] at e; exact c25 (si.mpr ⟨y, e⟩)
        · rw [if_neg y] at e; exact absurd e (by decide)
      rw [if_neg c25, decide_eq_false c25, if_neg Bool.false_ne_true, if_neg e44]
      have J1 : JG T L N S σ τ1 k n (d + 1) := ⟨J.1, g3, by rw [r1]; exact J.2.2.1, J.2.2.2.1, (g2.F (by unfold bL; omega)).trans J.2.2.2.2.1, (g2.F (by unfold bL; omega)).trans J.2.2.2.2.2⟩
      obtain ⟨g, σ', τ', z1, z2, z3, z4⟩ := sev_end (rcC := rcC) (rcM := rcM) hd hv1 hv6 hnk J1 hm1 hmk tl (ev.kg (Kg.eq n r1) (Nat.le_refl _)) ll l0 lS hb
      refine ⟨g, σ', τ', z1, z2, (FMg.l g2).trans z3, ?_⟩
      rcases z4 with ⟨z5, z6, k', n', z7, z8, z9, z10, z11⟩ | z5
      · exact Or.inl ⟨z5, z6, k', n', z7, z8, z9, (Kg.eq n0 r1).trans z10 (Nat.le_refl _), z11⟩
      · exact Or.inr z5
/-- so many of several: both readers from the parenthesis on -/
theorem severalJ {rcC : Nat → Nat → Int32 → Int32 → St → Option (Int64 × St)} {rcM : Nat → St → Option (Int32 × St)} {d v : Nat} (hd : d ≤ 4) (hv1 : 1 ≤ v) (hv6 : v ≤ 6) (H : d < 4 → ∀ σ τ k n, JG T L N S σ τ k n (d + 1) → Ogg T L N S σ τ k n (d + 1) (rcC 599 595 (nI S) (nI (d + 1)) σ) (rcM 609 τ)) {σ τ : St} {k n : Nat} (J : JG T L N S σ τ k n d) : Ogg T L N S σ τ k n d (pf_X0_readGroup rcC 599 595 (nI S) (nI d) (nI v) (nI 800) σ) (pf_X11_readsSeveral rcM 609 (nI v) τ) := by
  obtain ⟨j1, j2, j3, j4, j5, j6⟩ := id J
  have n8 := j1.N8
  have hkN := j1.2.1
  unfold pf_X0_readGroup pf_X11_readsSeveral
  rw [open_ok j1 (by omega)]
  by_cases c26 : tkd T L k = 26
  · obtain ⟨τ1, o1, o2, o3⟩ := mopens j2 c26 hd j5
    rw [if_pos c26]
    rcases o3 with ⟨d4, q1, q2, q3⟩ | ⟨d4, q1, q2⟩
    · rw [if_pos d4, bnd2_some, if_neg (show ¬ (1 : Int32) = 0 by decide), q1, bnd2_some, if_neg (show ¬ (1 : Int32) = 0 by decide)]
      have k1 : k < N := j1.lt.mp (by
        have h1 : tst T L k ≠ L := fun e => absurd ((tkd_1 j1.le).mpr e) (by omega)
        have h2 := j1.le
        omega)
      obtain ⟨σ2, s1, s2, s3, s4⟩ := init_ok rcC (pf_X0_readGroup_b45 rcC) (d := d) (by omega) (nI S) (nI v) (nI 800) (sI σ 595 4 (nI (k + 1)))
      rw [s1]
      have J2 : JG T L N S σ2 τ1 (k + 1) n (d + 1) := ⟨(j1.next k1).un s2 ⟨by decide, by decide, by decide, by decide⟩, q2, by rw [o2]; exact j3, by omega, q3, by rw [o1.1.F (by unfold bS; omega)]; exact j6⟩
      obtain ⟨g, σ3, τ3, a1, a2, a3, a4⟩ := H d4 _ _ _ _ J2
      have tl3 := s3.fc a2
      obtain ⟨σ4, b1, b2, b3, b4⟩ := tally_ok g (show d ≤ 3 by omega) tl3
      unfold pf_X0_readGroup_b45
      rw [nI_1, a1, bnd2_some, b1, bind_some, show pf_X11_readsSeveral_L11 rcM (pf_X11_readsSeveral_b46 rcM) FU 609 (nI v) 0 τ1 = _ from by rw [show FU = 999999 + 1 from rfl, pf_X11_readsSeveral_L11, if_pos (by decide)]]
      unfold pf_X11_readsSeveral_b25
      have fc : FCg d σ σ4 := (FCg.s σ 4 _).trans ((FCg.t s2 s4).trans (a2.dn.trans (FCg.t b2 b4)))
      have fm : FMg τ τ3 := (FMg.q o1 o2).trans a3
      rcases a4 with ⟨m1, gv, k', n', x1, x2, x3, x4, x5⟩ | ⟨m1, c', o', x1, x2⟩
      · rw [m1, bnd2_some, if_neg (show ¬ (1 : Int32) = 0 by decide), bnd_e]
        have J4 : JG T L N S σ4 τ3 k' n' (d + 1) := ⟨x2.1.un b2 ⟨by decide, by decide, by decide, by decide⟩, x2.2⟩
        obtain ⟨gg, σ', τ', z1, z2, z3, z4⟩ := sev_loop (rcC := rcC) (rcM := rcM) (show d ≤ 3 by omega) hv1 hv6 (H d4) j4 N FU 999999 σ4 τ3 k' n' 1 (fun u => [gbit g u]) (by omega) (lt_FU (by omega)) (by omega) J4 (by omega) (by omega) (b3.cg fun u hu => by
          show [gbit g u].count true = 0 + (gbit g u).toNat
          cases gbit g u
          · rfl
          · rfl) x3 (fun u _ => rfl) (by
          show [gbit g 0].count true = 0
          rw [gv.1]; rfl) (fun u hu => by
          show [gbit g (u % 2 ^ S)] = [gbit g u]
          rw [gv.2 u hu]) (by omega)
        refine ⟨gg, σ', τ', z1, fc.trans z2, fm.trans z3, ?_⟩
        have kp : Kg τ τ3 n := (Kg.eq n o2).trans x4 (Nat.le_refl _)
        rcases z4 with ⟨z5, z6, k2, n2, z7, z8, z9, z10, z11⟩ | ⟨z5, z6⟩
        · exact Or.inl ⟨z5, z6, k2, n2, by omega, z8, z9, kp.trans z10 (Nat.le_refl _), z11⟩
        · exact Or.inr ⟨z5, z6⟩
      · have ce : CE σ4 c' o' := x1.un b2 (by decide)
        obtain ⟨r, hr⟩ := group62_e rcC (nI S) (nI d) (nI v) (nI 800) 1 999999 ce
        rw [m1, bnd2_some, if_pos rfl]
        exact ⟨r, σ4, τ3, hr, fc, fm, Or.inr ⟨rfl, c', o', ce, x2⟩⟩
    · rw [if_neg (show ¬ d < 4 by omega), bnd2_some, if_pos rfl, q1, bnd2_some, if_pos rfl]
      exact ⟨0, _, τ1, rfl, (FCg.r (erS_un _ _ _)).trans (FCg.s _ 4 _), FMg.q o1 o2, Or.inr ⟨rfl, _, _, (erS_CE σ (by decide) _).s 4 _ (by decide) (by decide), q2⟩⟩
  · obtain ⟨τ1, o1, o2, o3⟩ := mopens_n j2 c26
    rw [if_neg c26, bnd2_some, if_pos rfl, o1, bnd2_some, if_pos rfl]
    exact ⟨0, _, τ1, rfl, (FCg.r (erS_un _ _ _)).trans (FCg.s _ 4 _), FMg.l o2, Or.inr ⟨rfl, _, _, (erS_CE σ (by decide) _).s 4 _ (by decide) (by decide), o3⟩⟩
end
