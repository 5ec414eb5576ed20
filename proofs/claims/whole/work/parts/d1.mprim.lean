/-! THE REFERENCE'S READER: its first readings, by tokens -/
def bL : Nat → Prop := fun k => 16 ≤ k ∧ k ≤ 20
section
variable {T : Nat → Int32} {L k : Nat} {τ : St}
def MP (τ : St) (T : Nat → Int32) (L k : Nat) : Prop := (∃ p, RP τ T L p ∧ ru T L 0 p = tst T L k) ∧ gI τ 609 17 = 0 ∧ gI τ 609 18 = -1
def ME (τ : St) (c : Int32) (o : Nat) : Prop := gI τ 609 17 = c ∧ c ≠ 0 ∧ gI τ 609 18 = nI o
theorem MP.le (h : MP τ T L k) : tst T L k ≤ L := by
  obtain ⟨⟨p, h1, h2⟩, _⟩ := h
  rw [← h2]
  exact (ru_spec (T := T) (L := L) 0 p).2.2.2 h1.2.1
theorem MP.mk {p : Nat} (h : RP τ T L p) (e : ru T L 0 p = tst T L k) (h7 : gI τ 609 17 = 0) (h8 : gI τ 609 18 = -1) : MP τ T L k := ⟨⟨p, h, e⟩, h7, h8⟩
theorem ru_0i (p : Nat) : ru T L 0 (ru T L 0 p) = ru T L 0 p := ru_uniq (Nat.le_refl _) (fun i a b => by omega) (ru_spec (T := T) (L := L) 0 p).2.2.1
theorem b16_bL (j : Nat) (q : b16 j) : bL j := by unfold b16 at q; unfold bL; omega
theorem MU.wd {τ' : St} (h : MU noA b16 τ τ') : MU noA bL τ τ' := h.mono (fun _ q => q) b16_bL
theorem b16_n {j : Nat} (h : j ≠ 16) : ¬ b16 j := h
def erM (τ : St) (c : Int32) (o : Nat) : St := sI (sI τ 609 17 c) 609 18 (nI o)
theorem mfails (h7 : gI τ 609 17 = 0) {c : Int32} (hc : c ≠ 0) (o : Nat) : pf_X11_fails 609 c (nI o) τ = some (0, erM τ c o) ∧ ME (erM τ c o) c o ∧ MU noA bL τ (erM τ c o) := by
  refine ⟨?_, ⟨by unfold erM; rw [gI_ns _ _ _ (by decide), gI_at], hc, gI_at _ _ _ _⟩, (MU.fld _ _ (by unfold bL; omega)).trans (MU.fld _ _ (by unfold bL; omega))⟩
  unfold pf_X11_fails
  rw [h7, if_pos rfl]; rfl
theorem mhere (h : MP τ T L k) : ∃ τ', pf_X11_here 609 τ = some (if tst T L k < L then T (tst T L k) else -1, τ') ∧ MU noA bL τ τ' ∧ MP τ' T L k ∧ gI τ' 609 16 = nI (tst T L k) ∧ RP τ' T L (tst T L k) := by
  obtain ⟨⟨p, h1, h2⟩, h7, h8⟩ := h
  obtain ⟨τ', g1, g2, g3⟩ := here_ok h1
  rw [h2] at g1 g3
  exact ⟨τ', g1, g2.wd, ⟨⟨_, g3, by rw [← h2]; exact ru_0i p⟩, (g2.F (b16_n (by decide))).trans h7, (g2.F (b16_n (by decide))).trans h8⟩, g3.2.2.2.1, g3⟩
theorem mtakes {i w : Nat} (hw : wdP i w = true) (h : MP τ T L k) : ∃ τ', pf_X11_takes 609 w τ = some (b2i (decide (tkd T L k = i)), τ') ∧ MU noA bL τ τ' ∧ MP τ' T L (if tkd T L k = i then k + 1 else k) ∧ (tkd T L k ≠ i → gI τ' 609 16 = nI (tst T L k)) := by
  have hL := h.le
  have wi := word_iff hw hL
  obtain ⟨⟨p, h1, h2⟩, h7, h8⟩ := h
  obtain ⟨τ', g1, g2, g3⟩ := takes_ok (w := w) h1
  rw [h2] at g1 g3
  refine ⟨τ', ?_, g2.wd, ⟨?_, (g2.F (b16_n (by decide))).trans h7, (g2.F (b16_n (by decide))).trans h8⟩, fun q => ?_⟩
  · rw [g1]
    cases e : isW T L w (tst T L k) with
    | true => rw [decide_eq_true (wi.mpr e)]
    | false => rw [decide_eq_false (fun q => by rw [wi.mp q] at e; cases e)]
  · by_cases c : tkd T L k = i
    · have e := wi.mp c
      rw [e, if_pos rfl] at g3
      rw [if_pos c]
      have h4 : 2 ≤ stL.getD w 0 := by
        unfold wdP at hw
        simp only [Bool.and_eq_true, decide_eq_true_eq] at hw
        rw [← hw.2]
        exact (wd_ck i (by omega) hw.1.1.1).1
      exact ⟨_, g3, (word_next (by omega) e).1⟩
    · have e : isW T L w (tst T L k) = false := by
        cases e : isW T L w (tst T L k) with
        | false => rfl
        | true => exact absurd (wi.mpr e) c
      rw [e, if_neg Bool.false_ne_true] at g3
      rw [if_neg c]
      exact ⟨_, g3, by rw [← h2]; exact ru_0i p⟩
  · have e : isW T L w (tst T L k) = false := by
      cases e : isW T L w (tst T L k) with
      | false => rfl
      | true => exact absurd (wi.mpr e) q
    rw [e, if_neg Bool.false_ne_true] at g3
    exact g3.2.2.2.1
theorem msign {i : Nat} {c : Int32} (h24 : 24 ≤ i) (hi : i < 32) (hc : (stB.getD (tkS.getD i 0) []).getD 0 0 = c) (hm : c ≠ -1) (h : MP τ T L k) : ∃ τ', pf_X11_sign 609 c τ = some (b2i (decide (tkd T L k = i)), τ') ∧ MU noA bL τ τ' ∧ (tkd T L k = i → MP τ' T L (k + 1)) ∧ (tkd T L k ≠ i → ME τ' (-2) (tst T L k)) := by
  have hL := h.le
  have si := sign_iff (k := k) h24 hi hc hL
  obtain ⟨τ1, g1, g2, g3, g4, g5⟩ := mhere h
  have s2 := (sg_ck i hi h24).2
  rw [hc] at s2
  unfold pf_X11_sign
  rw [g1, bnd2_some]
  by_cases x : tkd T L k = i
  · obtain ⟨y1, y2⟩ := si.mp x
    rw [if_pos (by rw [if_pos y1]; exact y2), g4, nI_1, bnd_e, decide_eq_true x]
    refine ⟨_, rfl, g2.trans (MU.fld _ _ (by unfold bL; omega)), fun _ => ⟨⟨tst T L k + 1, g5.to (by omega), sign_next y1 y2 s2⟩, by rw [gI_ns _ _ _ (by decide)]; exact g3.2.1, by rw [gI_ns _ _ _ (by decide)]; exact g3.2.2⟩, fun q => absurd x q⟩
  · obtain ⟨f1, f2, f3⟩ := mfails g3.2.1 (c := -2) (by decide) (tst T L k)
    rw [if_neg (fun e => by
      by_cases y : tst T L k < L
      · rw [if_pos y] at e
        exact x (si.mpr ⟨y, e⟩)
      · rw [if_neg y] at e
        exact hm e.symm), g4, f1, bnd2_some, ckZ_0, decide_eq_false x]
    exact ⟨_, rfl, g2.trans f3, fun q => absurd q x, fun _ => f2⟩
theorem mmore (h : MP τ T L k) : ∃ τ', pf_X11_more 609 τ = some (b2i (decide (tkd T L k = 0)), τ') ∧ MU noA bL τ τ' ∧ MP τ' T L k := by
  have hL := h.le
  have z := tkd_0 (T := T) (k := k) hL
  obtain ⟨τ1, g1, g2, g3, g4, g5⟩ := mhere h
  unfold pf_X11_more
  rw [g1, bnd2_some, isD_ok, bind_some, ckZ_b]
  refine ⟨τ1, ?_, g2, g3⟩
  by_cases y : tst T L k < L
  · rw [if_pos y]
    by_cases c : ck (T (tst T L k)) = 1
    · rw [decide_eq_true c, decide_eq_true (z.mpr ⟨y, c⟩)]
    · rw [decide_eq_false c, decide_eq_false (fun q => c (z.mp q).2)]
  · rw [if_neg y, decide_eq_false (fun q => y (z.mp q).1), decide_eq_false (by decide)]
theorem mdigits (hb : TB8 T L) (h : MP τ T L k) : ∃ τ', pf_X11_digits 609 τ = some (b2i (decide (tkd T L k = 0)), τ') ∧ MU noA bL τ τ' ∧ (tkd T L k = 0 → MP τ' T L (k + 1) ∧ gI τ' 609 20 = nI (tst T L k) ∧ gI τ' 609 19 = nI (rvl T (tst T L k) (re T L (tst T L k) - tst T L k))) ∧ (tkd T L k ≠ 0 → ME τ' (-2) (tst T L k)) := by
  have hL := h.le
  have z := tkd_0 (T := T) (k := k) hL
  obtain ⟨τ1, g1, g2, g3, g4, g5⟩ := mhere h
  unfold pf_X11_digits
  rw [g1, bnd2_some, isD_ok, bind_some, if_b2]
  by_cases c : tkd T L k = 0
  · obtain ⟨y1, y2⟩ := z.mp c
    rw [if_pos y1, decide_eq_true y2, if_pos rfl, g4, bnd_e, bnd_e]
    have h0 : RP (sI (sI τ1 609 20 (nI (tst T L k))) 609 19 0) T L (tst T L k) := ⟨g5.1, g5.2.1, by rw [gI_ns _ _ _ (by decide), gI_ns _ _ _ (by decide)]; exact g5.2.2.1, by rw [gI_ns _ _ _ (by decide), gI_ns _ _ _ (by decide)]; exact g4, fun j hj => by rw [gI_ne _ _ _ _ (by omega), gI_ne _ _ _ _ (by omega)]; exact g5.2.2.2.2 j hj⟩
    obtain ⟨τ2, d1, d2, d3, d4⟩ := digL_ok h0 hb (gI_at _ _ _ _)
    rw [num_next y1 y2] at d3 d4
    have nb : ∀ j, j ≠ 16 → j ≠ 19 → gI τ2 609 j = gI (sI (sI τ1 609 20 (nI (tst T L k))) 609 19 0) 609 j := fun j a b => d2.F (by omega)
    rw [d1, decide_eq_true c]
    refine ⟨τ2, rfl, g2.trans ((MU.fld (B := bL) _ _ (by unfold bL; omega)).trans ((MU.fld (B := bL) _ _ (by unfold bL; omega)).trans (d2.mono (fun _ q => q) (fun j q => by unfold bL; omega)))), fun _ => ⟨⟨⟨_, d3, rfl⟩, ?_, ?_⟩, ?_, d4⟩, fun q => absurd c q⟩
    · rw [nb 17 (by decide) (by decide), gI_ns _ _ _ (by decide), gI_ns _ _ _ (by decide)]; exact g3.2.1
    · rw [nb 18 (by decide) (by decide), gI_ns _ _ _ (by decide), gI_ns _ _ _ (by decide)]; exact g3.2.2
    · rw [nb 20 (by decide) (by decide), gI_ns _ _ _ (by decide), gI_at]
  · obtain ⟨f1, f2, f3⟩ := mfails g3.2.1 (c := -2) (by decide) (tst T L k)
    have : ¬ ck (if tst T L k < L then T (tst T L k) else -1) = 1 := by
      by_cases y : tst T L k < L
      · rw [if_pos y]; exact fun e => c (z.mpr ⟨y, e⟩)
      · rw [if_neg y]; decide
    rw [decide_eq_false this, if_neg Bool.false_ne_true, g4, f1, bnd2_some, ckZ_0, decide_eq_false c]
    exact ⟨_, rfl, g2.trans f3, fun q => absurd q c, fun _ => f2⟩
theorem mreads (hb : TB8 T L) (h : MP τ T L k) {lo hi : Nat} (hlo : lo ≤ 100000) (hh : hi ≤ 100000) : ∃ τ', pf_X11_reads 609 (nI lo) (nI hi) τ = some (b2i (decide (tkd T L k = 0 ∧ lo ≤ nvl T L k ∧ nvl T L k ≤ hi)), τ') ∧ MU noA bL τ τ' ∧ ((tkd T L k = 0 ∧ lo ≤ nvl T L k ∧ nvl T L k ≤ hi) → MP τ' T L (k + 1) ∧ gI τ' 609 20 = nI (tst T L k) ∧ gI τ' 609 19 = nI (nvl T L k)) ∧ (¬ (tkd T L k = 0 ∧ lo ≤ nvl T L k ∧ nvl T L k ≤ hi) → ME τ' (if tkd T L k = 0 then -3 else -2) (tst T L k)) := by
  have hL := h.le
  have z := tkd_0 (T := T) (k := k) hL
  obtain ⟨τ1, g1, g2, g3, g4⟩ := mdigits hb h
  unfold pf_X11_reads
  rw [g1, bnd2_some, if_b2]
  by_cases c : tkd T L k = 0
  · obtain ⟨a1, a2, a3⟩ := g3 c
    obtain ⟨y1, y2⟩ := z.mp c
    obtain ⟨r1, r2, r3, r4, r5⟩ := re_spec (T := T) y1
    have vl := cr_vl (T := T) (a := tst T L k) (re T L (tst T L k) - tst T L k) (fun j hj => (dig_m (hb _ (by omega)) (by rw [r3 _ (by omega) (by omega)]; exact y2)).2)
    obtain ⟨vl1, vl2⟩ := vl
    have hv : nvl T L k = cvl T (tst T L k) (re T L (tst T L k) - tst T L k) := rfl
    generalize rvl T (tst T L k) (re T L (tst T L k) - tst T L k) = rv at *
    rw [← hv] at vl1
    rw [decide_eq_true c, if_pos rfl, a3]
    unfold pf_X11_isIn
    have bad : ¬ (lo ≤ nvl T L k ∧ nvl T L k ≤ hi) → ∃ τ', (bnd2 (pf_X11_fails 609 (-3) (gI τ1 609 20) τ1) fun r_3 σ_3 => if r_3 = 0 then some ((0 : Int32), σ_3) else some ((1 : Int32), σ_3)) = some (b2i (decide (tkd T L k = 0 ∧ lo ≤ nvl T L k ∧ nvl T L k ≤ hi)), τ') ∧ MU noA bL τ τ' ∧ ((tkd T L k = 0 ∧ lo ≤ nvl T L k ∧ nvl T L k ≤ hi) → MP τ' T L (k + 1) ∧ gI τ' 609 20 = nI (tst T L k) ∧ gI τ' 609 19 = nI (nvl T L k)) ∧ (¬ (tkd T L k = 0 ∧ lo ≤ nvl T L k ∧ nvl T L k ≤ hi) → ME τ' (if tkd T L k = 0 then -3 else -2) (tst T L k)) := fun q => by
      obtain ⟨f1, f2, f3⟩ := mfails a1.2.1 (c := -3) (by decide) (tst T L k)
      rw [a2, f1, bnd2_some, if_pos rfl, decide_eq_false (fun e => q e.2)]
      exact ⟨_, rfl, g2.trans f3, fun e => absurd e.2 q, fun _ => by rw [if_pos c]; exact f2⟩
    by_cases c1 : rv < lo
    · rw [if_pos (nI_lt c1 (by omega)), bind_some, if_pos rfl]
      exact bad (fun q => by omega)
    · rw [if_neg (nI_nlt (by omega) (by omega))]
      by_cases c2 : hi < rv
      · rw [if_pos (nI_lt c2 (by omega)), bind_some, if_pos rfl]
        exact bad (fun q => by omega)
      · rw [if_neg (nI_nlt (by omega) (by omega)), bind_some, if_neg (by decide)]
        have e : nvl T L k = rv := by omega
        have ok : tkd T L k = 0 ∧ lo ≤ nvl T L k ∧ nvl T L k ≤ hi := ⟨c, by omega, by omega⟩
        rw [decide_eq_true ok]
        exact ⟨τ1, rfl, g2, fun _ => ⟨a1, a2, by rw [e]; exact a3⟩, fun q => absurd ok q⟩
  · rw [decide_eq_false c, if_neg Bool.false_ne_true, decide_eq_false (fun q => c q.1)]
    exact ⟨τ1, rfl, g2, fun q => absurd q.1 c, fun _ => by rw [if_neg c]; exact g4 c⟩
end
