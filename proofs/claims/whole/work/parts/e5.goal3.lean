/-! GOALS: goals joined, both readers -/
section
variable {T : Nat → Int32} {L N S : Nat}
theorem GV.or {a b : Int64} (ha : GV a S) (hb : GV b S) : GV (a ||| b) S := ⟨by rw [gbit_or, ha.1, hb.1]; rfl, fun u hu => by rw [gbit_or, gbit_or, ha.2 u hu, hb.2 u hu]⟩
theorem GV.and {a b : Int64} (ha : GV a S) (hb : GV b S) : GV (a &&& b) S := ⟨by rw [gbit_and, ha.1, hb.1]; rfl, fun u hu => by rw [gbit_and, gbit_and, ha.2 u hu, hb.2 u hu]⟩
theorem GV.z : GV 0 S := ⟨gbit_0 0, fun u hu => by rw [gbit_0, gbit_0]⟩
/-- what stands on the pile between two goals -/
def cxL (b : Bool) (any all : Int64) (u : Nat) : List Bool := if b = true then [gbit all u, gbit any u] else [gbit all u]
noncomputable def goK (rcM : Nat → St → Option (Int32 × St)) (b : Bool) (fa fg : Nat) (τ : St) : Option (Int32 × St) :=
  bnd2 (pf_X11_readsAll_L9 rcM fa 609 τ) fun r τ1 => if r = 0 then some (0, τ1) else if b = true then (pf_X11_goals 609 2 0 τ1).bind fun τ2 => pf_X11_readsGoal_L9 rcM fg 609 τ2 else pf_X11_readsGoal_L9 rcM fg 609 τ1
def pb (b : Bool) : Nat := if b = true then 1 else 0
theorem goalLJ (hb : TB8 T L) {rcC : Nat → Nat → Int32 → Int32 → St → Option (Int64 × St)} {rcM : Nat → St → Option (Int32 × St)} {d : Nat} (hd : d ≤ 4) (hS1 : 1 ≤ S) (hS6 : S ≤ 6) (H : d < 4 → ∀ σ τ k n, JG T L N S σ τ k n (d + 1) → Ogg T L N S σ τ k n (d + 1) (rcC 599 595 (nI S) (nI (d + 1)) σ) (rcM 609 τ)) {k0 n0 : Nat} (hnk : n0 ≤ k0) : ∀ m fc fa fg σ τ k n j b any all, m ≤ 800 → N - k ≤ m → m < fc → m < fa → m < fg → JG T L N S σ τ k n d → j < k → EV τ n0 n (cxL b any all) → GV any S → GV all S → (b = false → any = 0) → n + pb b + k0 ≤ n0 + k → ∃ g σ' τ', pf_X0_readGoal_L15 rcC (pf_X0_readGoal_b77 rcC) (pf_X0_readGoal_b89 rcC) fc 599 595 (nI S) (nI d) any all (nI j) σ = some (g, σ') ∧ FCg d σ σ' ∧ FMg τ τ' ∧ ((goK rcM b fa fg τ = some (1, τ') ∧ GV g S ∧ ∃ k' n', k ≤ k' ∧ JG T L N S σ' τ' k' n' d ∧ EV τ' n0 n' (fun u => [gbit g u]) ∧ Kg τ τ' n0 ∧ n' + k0 ≤ n0 + k') ∨ (goK rcM b fa fg τ = some (0, τ') ∧ ∃ c o, CE σ' c o ∧ ME τ' c o)) := by
  intro m
  induction m using Nat.strongRecOn with
  | ind m ih =>
  intro fc fa fg σ τ k n j b any all h8 h1 h2 h3 h4 J hj ev gva gvl hany hn
  obtain ⟨fc, rfl⟩ : ∃ x, fc = x + 1 := ⟨fc - 1, by omega⟩
  obtain ⟨fa, rfl⟩ : ∃ x, fa = x + 1 := ⟨fa - 1, by omega⟩
  obtain ⟨fg, rfl⟩ : ∃ x, fg = x + 1 := ⟨fg - 1, by omega⟩
  obtain ⟨j1, j2, j3, j4, j5, j6⟩ := id J
  have n8 := j1.N8
  have hkN := j1.2.1
  have hp : pb b ≤ 1 := by unfold pb; split <;> omega
  have en0 := ev.1
  obtain ⟨τ1, g1, g2, g3, g4⟩ := mtakes (i := 17) (w := 36) (by decide +kernel) j2
  have r1 : gI τ1 611 = gI τ 611 := g2.I (by decide) (fun q => q)
  rw [pf_X0_readGoal_L15, show (800 : Int32) = nI 800 from rfl, if_neg (nI_ge (show j < 800 by omega) (by omega)), take_ok j1 17, bnd2_some, if_b2]
  by_cases c17 : tkd T L k = 17
  · have k1 := j1.k1 (by omega)
    rw [if_pos c17] at g3
    rw [decide_eq_true c17, if_pos rfl, if_pos c17]
    have J1 : JG T L N S (sI σ 595 4 (nI (k + 1))) τ1 (k + 1) n d := J.q (j1.next k1) g3 (by omega) g2
    obtain ⟨r, σ3, τ3, a1, a2, a3, a4⟩ := singleJ hb hd hS1 hS6 H J1
    rw [a1, bnd2_some, bnd_e]
    unfold pf_X0_readGoal_b83
    rw [nI_1, bnd_e]
    have fc3 : FCg d σ σ3 := (FCg.s σ 4 _).trans a2
    have fm3 : FMg τ τ3 := (FMg.l g2).trans a3
    rcases a4 with ⟨m1, gv, k', n', x1, x2, x3, x4, x5⟩ | ⟨m1, c', o', x1, x2⟩
    · have hk' := x2.1.2.1
      have e : goK rcM b (fa + 1) (fg + 1) τ = goK rcM b fa (fg + 1) (goS τ3 n' 1 0) := by
        unfold goK
        rw [pf_X11_readsAll_L9, g1, bnd2_some, if_b2, decide_eq_true c17, if_pos rfl, m1, bnd2_some, if_neg (show ¬ (1 : Int32) = 0 by decide), goM x2.2.2.1 (by omega), bind_some]
      have kp : Kg τ τ3 n := (Kg.eq n r1).trans x4 (Nat.le_refl _)
      have ev3 : EV τ3 n0 n' (fun u => [gbit r u] ++ cxL b any all u) := (ev.kg kp (Nat.le_refl _)).cat x3
      have ev4 : EV (goS τ3 n' (nI 1) (nI 0)) n0 (n' + 1) (cxL b any (all &&& r)) := ev3.go (by omega) (by omega) (fun q => by omega) fun u hu st => by
        unfold stG cxL
        rw [if_neg (by decide), if_neg (by decide), gbit_and]
        cases b
        · simp
        · simp
      obtain ⟨gg, σ', τ', z1, z2, z3, z4⟩ := ih (m - 1) (by omega) fc fa (fg + 1) σ3 (goS τ3 n' 1 0) k' (n' + 1) (j + 1) b any (all &&& r) (by omega) (by omega) (by omega) (by omega) (by omega) (x2.emit (by omega) 1 0) (by omega) ev4 gva (gvl.and gv) hany (by omega)
      rw [e]
      refine ⟨gg, σ', τ', z1, fc3.trans z2, fm3.trans ((FMg.g (by omega) _ _).trans z3), ?_⟩
      rcases z4 with ⟨z5, z6, k2, n2, z7, z8, z9, z10, z11⟩ | z5
      · exact Or.inl ⟨z5, z6, k2, n2, by omega, z8, z9, fun i y1 y2 => (z10 i y1 y2).trans (((goS_at (τ := τ3) (n := n') 1 0).2.2.2 i y1 (by have := x3.1; omega)).trans (kp i y1 (by omega))), z11⟩
      · exact Or.inr z5
    · have e : goK rcM b (fa + 1) (fg + 1) τ = some (0, τ3) := by
        unfold goK
        rw [pf_X11_readsAll_L9, g1, bnd2_some, if_b2, decide_eq_true c17, if_pos rfl, m1, bnd2_some, if_pos rfl, bnd2_some, if_pos rfl]
      obtain ⟨fc, rfl⟩ : ∃ x, fc = x + 1 := ⟨fc - 1, by omega⟩
      rw [goalL_e rcC (nI S) (nI d) any (all &&& r) (j + 1) fc x1 (by omega)]
      exact ⟨_, σ3, τ3, rfl, fc3, fm3, Or.inr ⟨e, c', o', x1, x2⟩⟩
  · rw [if_neg c17] at g3
    rw [decide_eq_false c17, if_neg Bool.false_ne_true, if_neg c17, take_ok j1 16, bnd2_some, if_b2]
    obtain ⟨τ2, n2, e2, hn2, J2, ev2, fm2, kp2⟩ : ∃ τ2 n2, goK rcM b (fa + 1) (fg + 1) τ = pf_X11_readsGoal_L9 rcM (fg + 1) 609 τ2 ∧ n2 = n + pb b ∧ JG T L N S σ τ2 k n2 d ∧ EV τ2 n0 n2 (fun u => [gbit (any ||| all) u]) ∧ FMg τ τ2 ∧ Kg τ τ2 n := by
      have J1 : JG T L N S σ τ1 k n d := J.q j1 g3 (by omega) g2
      have ev1 := ev.kg (Kg.eq n r1) (Nat.le_refl _)
      cases b with
      | false =>
        refine ⟨τ1, n, ?_, rfl, J1, ?_, FMg.l g2, Kg.eq n r1⟩
        · unfold goK
          rw [pf_X11_readsAll_L9, g1, bnd2_some, if_b2, decide_eq_false c17, if_neg Bool.false_ne_true, bnd2_some, if_neg (show ¬ (1 : Int32) = 0 by decide), if_neg Bool.false_ne_true]
        · rw [hany rfl]
          exact ev1.cg fun u hu => by
            show [gbit (0 ||| all) u] = [gbit all u]
            rw [gbit_or, gbit_0, Bool.false_or]
      | true =>
        have hn' : n < k := by
          have : pb true = 1 := rfl
          omega
        refine ⟨goS τ1 n 2 0, n + 1, ?_, rfl, J1.emit hn' 2 0, ?_, (FMg.l g2).trans (FMg.g (by omega) _ _), (Kg.eq n r1).trans (goS_at _ _).2.2.2 (Nat.le_refl _)⟩
        · unfold goK
          rw [pf_X11_readsAll_L9, g1, bnd2_some, if_b2, decide_eq_false c17, if_neg Bool.false_ne_true, bnd2_some, if_neg (show ¬ (1 : Int32) = 0 by decide), if_pos rfl, goM J1.2.2.1 (by omega), bind_some]
        · exact ev1.go (a := 2) (b := 0) (by omega) (by omega) (fun q => by omega) fun u hu st => by
            unfold stG cxL
            rw [if_neg (by decide), if_neg (by decide), gbit_or]
            simp
    rw [e2]
    obtain ⟨i1, i2, i3, i4, i5, i6⟩ := id J2
    obtain ⟨τ3, t1, t2, t3, t4⟩ := mtakes (i := 16) (w := 37) (by decide +kernel) i2
    have r3 : gI τ3 611 = gI τ2 611 := t2.I (by decide) (fun q => q)
    have fm3 : FMg τ τ3 := fm2.trans (FMg.l t2)
    have kp3 : Kg τ τ3 n := kp2.trans (Kg.eq n r3) (Nat.le_refl _)
    rw [pf_X11_readsGoal_L9, t1, bnd2_some, if_b2]
    by_cases c16 : tkd T L k = 16
    · have k1 := j1.k1 (by omega)
      rw [if_pos c16] at t3
      rw [decide_eq_true c16, if_pos rfl, if_pos c16, if_pos rfl, bnd_e]
      have J3 : JG T L N S (sI σ 595 4 (nI (k + 1))) τ3 (k + 1) n2 d := J2.q (j1.next k1) t3 (by omega) t2
      obtain ⟨r, σ4, τ4, a1, a2, a3, a4⟩ := singleJ hb hd hS1 hS6 H J3
      rw [a1, bnd2_some]
      unfold pf_X0_readGoal_b83
      rw [nI_1, bnd_e]
      have fc4 : FCg d σ σ4 := (FCg.s σ 4 _).trans a2
      have fm4 : FMg τ τ4 := fm3.trans a3
      rcases a4 with ⟨m1, gv, k', n', x1, x2, x3, x4, x5⟩ | ⟨m1, c', o', x1, x2⟩
      · have hk' := x2.1.2.1
        have e : (bnd2 (pf_X11_readsAll rcM 609 τ3) fun r_2 σ_2 => if r_2 = 0 then some ((0 : Int32), σ_2) else (pf_X11_goals 609 2 0 σ_2).bind fun σ_3 => pf_X11_readsGoal_L9 rcM fg 609 σ_3) = goK rcM true FU fg τ4 := by
          unfold goK pf_X11_readsAll
          rw [m1, bnd2_some, if_neg (show ¬ (1 : Int32) = 0 by decide)]
          rfl
        have ev4 : EV τ4 n0 n' (cxL true (any ||| all) r) := (ev2.kg ((Kg.eq n2 r3).trans x4 (Nat.le_refl _)) (Nat.le_refl _)).cat x3
        obtain ⟨gg, σ', τ', z1, z2, z3, z4⟩ := ih (m - 1) (by omega) fc FU fg σ4 τ4 k' n' (j + 1) true (any ||| all) r (by omega) (by omega) (by omega) (lt_FU (by omega)) (by omega) x2 (by omega) ev4 (gva.or gvl) gv (fun q => by cases q) (by
          have : pb true = 1 := rfl
          omega)
        rw [e]
        refine ⟨gg, σ', τ', z1, fc4.trans z2, fm4.trans z3, ?_⟩
        rcases z4 with ⟨z5, z6, k2, n3, z7, z8, z9, z10, z11⟩ | z5
        · exact Or.inl ⟨z5, z6, k2, n3, by omega, z8, z9, fun i y1 y2 => (z10 i y1 y2).trans ((x4 i y1 (by omega)).trans (kp3 i y1 (by omega))), z11⟩
        · exact Or.inr z5
      · obtain ⟨fc, rfl⟩ : ∃ x, fc = x + 1 := ⟨fc - 1, by omega⟩
        rw [goalL_e rcC (nI S) (nI d) (any ||| all) r (j + 1) fc x1 (by omega)]
        refine ⟨_, σ4, τ4, rfl, fc4, fm4, Or.inr ⟨?_, c', o', x1, x2⟩⟩
        unfold pf_X11_readsAll
        rw [m1, bnd2_some, if_pos rfl, bnd2_some, if_pos rfl]
    · rw [if_neg c16] at t3
      rw [decide_eq_false c16, if_neg Bool.false_ne_true, if_neg c16, if_neg Bool.false_ne_true]
      unfold pf_X0_readGoal_b77
      exact ⟨_, σ, τ3, rfl, FCg.refl _ _, fm3, Or.inl ⟨rfl, gva.or gvl, k, n2, Nat.le_refl _, J2.q j1 t3 (by omega) t2, ev2.kg (Kg.eq n2 r3) (Nat.le_refl _), fun i y1 y2 => kp3 i y1 (by omega), by omega⟩⟩
theorem goalWJ (hb : TB8 T L) {rcC : Nat → Nat → Int32 → Int32 → St → Option (Int64 × St)} {rcM : Nat → St → Option (Int32 × St)} {d : Nat} (hd : d ≤ 4) (hS1 : 1 ≤ S) (hS6 : S ≤ 6) (H : d < 4 → ∀ σ τ k n, JG T L N S σ τ k n (d + 1) → Ogg T L N S σ τ k n (d + 1) (rcC 599 595 (nI S) (nI (d + 1)) σ) (rcM 609 τ)) {σ τ : St} {k n : Nat} (J : JG T L N S σ τ k n d) : Ogg T L N S σ τ k n d (pf_X0_readGoal_B rcC 599 595 (nI S) (nI d) σ) (pf_X11_readsGoal_B rcM 609 τ) := by
  have n8 := J.1.N8
  obtain ⟨r, σ1, τ1, a1, a2, a3, a4⟩ := singleJ hb hd hS1 hS6 H J
  unfold pf_X0_readGoal_B
  rw [a1, bnd2_some]
  rcases a4 with ⟨m1, gv, k', n', x1, x2, x3, x4, x5⟩ | ⟨m1, c', o', x1, x2⟩
  · have e : pf_X11_readsGoal_B rcM 609 τ = goK rcM false FU FU τ1 := by
      unfold goK pf_X11_readsGoal_B pf_X11_readsAll
      rw [m1, bnd2_some, if_neg (show ¬ (1 : Int32) = 0 by decide)]
      rfl
    obtain ⟨gg, σ', τ', z1, z2, z3, z4⟩ := goalLJ hb hd hS1 hS6 H J.2.2.2.1 N FU FU FU σ1 τ1 k' n' 0 false 0 r n8 (by omega) (lt_FU (by omega)) (lt_FU (by omega)) (lt_FU (by omega)) x2 (by omega) x3 GV.z gv (fun _ => rfl) (by
      have : pb false = 0 := rfl
      omega)
    rw [e]
    refine ⟨gg, σ', τ', z1, a2.trans z2, a3.trans z3, ?_⟩
    rcases z4 with ⟨z5, z6, k2, n3, z7, z8, z9, z10, z11⟩ | z5
    · exact Or.inl ⟨z5, z6, k2, n3, by omega, z8, z9, x4.trans z10 (Nat.le_refl _), z11⟩
    · exact Or.inr z5
  · unfold pf_X11_readsGoal_B pf_X11_readsAll
    rw [m1, bnd2_some, if_pos rfl, bnd2_some, if_pos rfl]
    refine ⟨0 ||| r, σ1, τ1, ?_, a2, a3, Or.inr ⟨rfl, c', o', x1, x2⟩⟩
    exact goalL_e rcC (nI S) (nI d) 0 r 0 999999 x1 (by omega)
/-- whole goals: both readers agree -/
theorem goalOJ (hb : TB8 T L) (hS1 : 1 ≤ S) (hS6 : S ≤ 6) : ∀ e d, d + e = 4 → ∀ f g, e < f → e < g → ∀ σ τ k n, JG T L N S σ τ k n d → Ogg T L N S σ τ k n d (pf_X0_readGoal f 599 595 (nI S) (nI d) σ) (pf_X11_readsGoal g 609 τ) := by
  intro e
  induction e with
  | zero =>
    intro d hd f g hf hg σ τ k n J
    obtain ⟨f, rfl⟩ : ∃ x, f = x + 1 := ⟨f - 1, by omega⟩
    obtain ⟨g, rfl⟩ : ∃ x, g = x + 1 := ⟨g - 1, by omega⟩
    exact goalWJ hb (by omega) hS1 hS6 (fun q => by omega) J
  | succ e ih =>
    intro d hd f g hf hg σ τ k n J
    obtain ⟨f, rfl⟩ : ∃ x, f = x + 1 := ⟨f - 1, by omega⟩
    obtain ⟨g, rfl⟩ : ∃ x, g = x + 1 := ⟨g - 1, by omega⟩
    exact goalWJ hb (by omega) hS1 hS6 (fun q => ih (d + 1) (by omega) f g (by omega) (by omega)) J
theorem readGoal_e {σ : St} {c : Int32} {o : Nat} (v2 : Int32) (h : CE σ c o) : ∃ r σ', pf_X0_readGoal 8 599 595 v2 0 σ = some (r, σ') ∧ CE σ' c o ∧ Un (fun i => i = 595) σ σ' := by
  obtain ⟨r, σ', g1, g2, g3⟩ := single_e (pf_X0_readGoal 7) v2 0 h
  refine ⟨0 ||| r, σ', ?_, g2, g3⟩
  show pf_X0_readGoal_B (pf_X0_readGoal 7) 599 595 v2 0 σ = _
  unfold pf_X0_readGoal_B
  rw [g1, bnd2_some]
  exact goalL_e (pf_X0_readGoal 7) v2 0 0 r 0 999999 g2 (by omega)
end
