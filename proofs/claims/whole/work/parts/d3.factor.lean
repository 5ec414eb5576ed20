/-! SUMS: a factor -/
section
variable {T : Nat → Int32} {L k : Nat} {τ : St}
def vtk (v : Nat) : Nat := [19, 20, 21, 22, 23, 8].getD v 0
theorem mvariable (h : MP τ T L k) : (∃ v τ', v < 6 ∧ tkd T L k = vtk v ∧ pf_X11_variable 609 τ = some (nI v, τ') ∧ MU noA bL τ τ' ∧ MP τ' T L (k + 1)) ∨ ((∀ v, v < 6 → tkd T L k ≠ vtk v) ∧ ∃ τ', pf_X11_variable 609 τ = some (-1, τ') ∧ MU noA bL τ τ' ∧ MP τ' T L k ∧ gI τ' 609 16 = nI (tst T L k)) := by
  have W := wd_all
  obtain ⟨τ1, a1, a2, a3, a4⟩ := mtakes (i := 19) (w := 29) (by decide +kernel) h
  unfold pf_X11_variable
  rw [a1, bnd2_some, if_b2]
  by_cases x1 : tkd T L k = 19
  · rw [if_pos x1] at a3
    rw [decide_eq_true x1, if_pos rfl]
    exact Or.inl ⟨0, τ1, by omega, x1, rfl, a2, a3⟩
  rw [if_neg x1] at a3
  rw [decide_eq_false x1, if_neg Bool.false_ne_true]
  obtain ⟨τ2, b1, b2, b3, b4⟩ := mtakes (i := 20) (w := 30) (by decide +kernel) a3
  rw [b1, bnd2_some, if_b2]
  by_cases x2 : tkd T L k = 20
  · rw [if_pos x2] at b3
    rw [decide_eq_true x2, if_pos rfl]
    exact Or.inl ⟨1, τ2, by omega, x2, rfl, a2.trans b2, b3⟩
  rw [if_neg x2] at b3
  rw [decide_eq_false x2, if_neg Bool.false_ne_true]
  obtain ⟨τ3, c1, c2, c3, c4⟩ := mtakes (i := 21) (w := 31) (by decide +kernel) b3
  rw [c1, bnd2_some, if_b2]
  by_cases x3 : tkd T L k = 21
  · rw [if_pos x3] at c3
    rw [decide_eq_true x3, if_pos rfl]
    exact Or.inl ⟨2, τ3, by omega, x3, rfl, a2.trans (b2.trans c2), c3⟩
  rw [if_neg x3] at c3
  rw [decide_eq_false x3, if_neg Bool.false_ne_true]
  obtain ⟨τ4, d1, d2, d3, d4⟩ := mtakes (i := 22) (w := 32) (by decide +kernel) c3
  rw [d1, bnd2_some, if_b2]
  by_cases x4 : tkd T L k = 22
  · rw [if_pos x4] at d3
    rw [decide_eq_true x4, if_pos rfl]
    exact Or.inl ⟨3, τ4, by omega, x4, rfl, a2.trans (b2.trans (c2.trans d2)), d3⟩
  rw [if_neg x4] at d3
  rw [decide_eq_false x4, if_neg Bool.false_ne_true]
  obtain ⟨τ5, e1, e2, e3, e4⟩ := mtakes (i := 23) (w := 33) (by decide +kernel) d3
  rw [e1, bnd2_some, if_b2]
  by_cases x5 : tkd T L k = 23
  · rw [if_pos x5] at e3
    rw [decide_eq_true x5, if_pos rfl]
    exact Or.inl ⟨4, τ5, by omega, x5, rfl, a2.trans (b2.trans (c2.trans (d2.trans e2))), e3⟩
  rw [if_neg x5] at e3
  rw [decide_eq_false x5, if_neg Bool.false_ne_true]
  obtain ⟨τ6, f1, f2, f3, f4⟩ := mtakes (i := 8) (w := 34) (by decide +kernel) e3
  rw [f1, bnd2_some, if_b2]
  by_cases x6 : tkd T L k = 8
  · rw [if_pos x6] at f3
    rw [decide_eq_true x6, if_pos rfl]
    exact Or.inl ⟨5, τ6, by omega, x6, rfl, a2.trans (b2.trans (c2.trans (d2.trans (e2.trans f2)))), f3⟩
  rw [if_neg x6] at f3
  rw [decide_eq_false x6, if_neg Bool.false_ne_true]
  refine Or.inr ⟨fun v hv => ?_, τ6, rfl, a2.trans (b2.trans (c2.trans (d2.trans (e2.trans f2)))), f3, f4 x6⟩
  rcases (by omega : v = 0 ∨ v = 1 ∨ v = 2 ∨ v = 3 ∨ v = 4 ∨ v = 5) with rfl | rfl | rfl | rfl | rfl | rfl
  · exact x1
  · exact x2
  · exact x3
  · exact x4
  · exact x5
  · exact x6
theorem mopens (h : MP τ T L k) (hk : tkd T L k = 26) {d : Nat} (hd : d ≤ 4) (e : gI τ 609 21 = nI d) : ∃ τ', FM τ τ' ∧ gI τ' 611 = gI τ 611 ∧ ((d < 4 ∧ pf_X11_opens 609 τ = some (1, τ') ∧ MP τ' T L (k + 1) ∧ gI τ' 609 21 = nI (d + 1)) ∨ (d = 4 ∧ pf_X11_opens 609 τ = some (0, τ') ∧ ME τ' (-6) (tst T L k))) := by
  have hL := h.le
  obtain ⟨y1, y2⟩ := (sign_iff (k := k) (i := 26) (c := 40) (by omega) (by omega) rfl hL).mp hk
  obtain ⟨τ1, g1, g2, g3, g4, g5⟩ := mhere h
  have e1 : gI τ1 609 21 = nI d := (g2.F (by unfold bL; omega)).trans e
  have r1 : gI τ1 611 = gI τ 611 := g2.I (by decide) (fun q => q)
  unfold pf_X11_opens
  rw [g1, bnd2_some, if_pos (by rw [if_pos y1]; exact y2), e1, show (4 : Int32) = nI 4 from rfl]
  by_cases c : d = 4
  · obtain ⟨f1, f2, f3⟩ := mfails g3.2.1 (c := -6) (by decide) (tst T L k)
    rw [if_pos (by rw [c]), g4, f1, bnd2_some, ckZ_0]
    exact ⟨_, (FM.l g2).trans (FM.l f3), by rw [f3.I (by decide) (fun q => q)]; exact r1, Or.inr ⟨c, rfl, f2⟩⟩
  · rw [if_neg (by rw [nI_eq (by omega) (by omega)]; exact c), nI_1, bnd_e, gI_ns _ _ _ (by decide), g4, nI_1, bnd_e]
    refine ⟨_, (FM.l g2).trans ((FM.f _ _ (by unfold bS; omega)).trans (FM.f _ _ (by unfold bS; omega))), by rw [gI_nf _ _ _ (by decide), gI_nf _ _ _ (by decide)]; exact r1, Or.inl ⟨by omega, rfl, ⟨⟨tst T L k + 1, ?_, sign_next y1 y2 (by decide)⟩, ?_, ?_⟩, ?_⟩⟩
    · exact ⟨g5.1, by omega, by rw [gI_ns _ _ _ (by decide), gI_ns _ _ _ (by decide)]; exact g5.2.2.1, gI_at _ _ _ _, fun j hj => by rw [gI_ne _ _ _ _ (by omega), gI_ne _ _ _ _ (by omega)]; exact g5.2.2.2.2 j hj⟩
    · rw [gI_ns _ _ _ (by decide), gI_ns _ _ _ (by decide)]; exact g3.2.1
    · rw [gI_ns _ _ _ (by decide), gI_ns _ _ _ (by decide)]; exact g3.2.2
    · rw [gI_ns _ _ _ (by decide), gI_at]
theorem mcloses (h : MP τ T L k) {d : Nat} (e : gI τ 609 21 = nI (d + 1)) : ∃ τ', FM τ τ' ∧ gI τ' 611 = gI τ 611 ∧ ((tkd T L k = 27 ∧ pf_X11_closes 609 τ = some (1, τ') ∧ MP τ' T L (k + 1) ∧ gI τ' 609 21 = nI d) ∨ (tkd T L k ≠ 27 ∧ pf_X11_closes 609 τ = some (0, τ') ∧ ME τ' (-2) (tst T L k))) := by
  obtain ⟨τ1, g1, g2, g3, g4⟩ := msign (i := 27) (c := 41) (by omega) (by omega) rfl (by decide) h
  have e1 : gI τ1 609 21 = nI (d + 1) := (g2.F (by unfold bL; omega)).trans e
  have r1 : gI τ1 611 = gI τ 611 := g2.I (by decide) (fun q => q)
  unfold pf_X11_closes
  rw [g1, bnd2_some, if_b2]
  by_cases c : tkd T L k = 27
  · obtain ⟨⟨p, m1, m2⟩, m3, m4⟩ := g3 c
    rw [decide_eq_true c, if_pos rfl, e1, show (1 : Int32) = nI 1 from rfl, pk_sub (by omega), bnd_e, show d + 1 - 1 = d by omega]
    refine ⟨_, (FM.l g2).trans (FM.f _ _ (by unfold bS; omega)), by rw [gI_nf _ _ _ (by decide)]; exact r1, Or.inl ⟨c, rfl, ⟨⟨p, ⟨m1.1, m1.2.1, by rw [gI_ns _ _ _ (by decide)]; exact m1.2.2.1, by rw [gI_ns _ _ _ (by decide)]; exact m1.2.2.2.1, fun j hj => by rw [gI_ne _ _ _ _ (by omega)]; exact m1.2.2.2.2 j hj⟩, m2⟩, by rw [gI_ns _ _ _ (by decide)]; exact m3, by rw [gI_ns _ _ _ (by decide)]; exact m4⟩, gI_at _ _ _ _⟩⟩
  · rw [decide_eq_false c, if_neg Bool.false_ne_true]
    exact ⟨τ1, FM.l g2, r1, Or.inr ⟨c, rfl, g4 c⟩⟩
end
