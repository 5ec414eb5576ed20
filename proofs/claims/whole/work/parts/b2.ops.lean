/-! CALLS that ask -/
theorem BB_1 {c : Nat} (h : c < 512) : BB (c + 1) = BB c + 1000 ∧ BB (c + 1) ≤ 1513000 ∧ 1000000 ≤ BB (c + 1) := by unfold BB; omega
theorem qry1 {c : Nat} {σ : St} (hc : c < 512) (I : Inv c σ) {α β : Type} {P : α → β → Int32 → Prop} {cl : Option (α × St)} {ml : St → Option (β × St)} (ag : ∀ rd τ, CX σ rd (BB c) → BB c ≤ 40000000 → MR τ rd → ∃ A b σ' τ', cl = some (A, σ') ∧ Un cQ σ σ' ∧ ml τ = some (b, τ') ∧ MU qA qB τ τ' ∧ P A b (gI τ' 609 0)) : ∃ A σ1, cl = some (A, σ1) ∧ ∀ σ2, Un oA σ1 σ2 → ∃ b σ3, ml σ2 = some (b, σ3) ∧ P A b (gI σ3 609 0) ∧ IL c σ2 σ3 := by
  obtain ⟨rd, X, _, M, hB⟩ := I.both (σ1 := σ) (σ2 := σ) (by omega) (Un.refl _ _) (Un.refl _ _)
  obtain ⟨A, b, σ1, τ', e1, e2, _, _, _⟩ := ag rd σ X hB M
  refine ⟨A, σ1, e1, fun σ2 u => ?_⟩
  obtain ⟨rd', X', _, M', _⟩ := I.both (by omega) e2 u
  obtain ⟨A', b', σ1', σ3, f1, f2, f3, f4, f5⟩ := ag rd' σ2 X' hB M'
  rw [e1] at f1
  cases f1
  exact ⟨b', σ3, f3, f5, I.no e2 u f4⟩
theorem qry0 {c : Nat} {σ : St} (hc : c < 512) (I : Inv c σ) {α β : Type} {P : α → β → Int32 → Prop} {cl : Option α} {ml : St → Option (β × St)} (ag : ∀ rd τ, CX σ rd (BB c) → MR τ rd → ∃ A b τ', cl = some A ∧ ml τ = some (b, τ') ∧ MU qA qB τ τ' ∧ P A b (gI τ' 609 0)) : ∃ A, cl = some A ∧ ∀ σ2, Un oA σ σ2 → ∃ b σ3, ml σ2 = some (b, σ3) ∧ P A b (gI σ3 609 0) ∧ IL c σ2 σ3 := by
  obtain ⟨rd, X, _, M, hB⟩ := I.both (σ1 := σ) (σ2 := σ) (by omega) (Un.refl _ _) (Un.refl _ _)
  obtain ⟨A, b, τ', e1, _, _, _⟩ := ag rd σ X M
  refine ⟨A, e1, fun σ2 u => ?_⟩
  obtain ⟨rd', X', _, M', _⟩ := I.both (by omega) (Un.refl _ _) u
  obtain ⟨A', b', σ3, f1, f3, f4, f5⟩ := ag rd' σ2 X' M'
  rw [e1] at f1
  cases f1
  exact ⟨b', σ3, f3, f5, I.no (Un.refl _ _) u f4⟩
section
variable {c : Nat} {σ : St}
/-! CALLS that change -/
theorem cQ_nw {σ σ' : St} (h : Un cQ σ σ') : Un nwM σ σ' := h.mono fun i hi => Or.inr hi
theorem VR.stk1 {B B' i s : Nat} {rd : Nat → Int32} (h : VR B rd) (hB : B ≤ B') (hi : i < 8) (hs : s ≤ B') (hb : B' < 2 ^ 31) : VR B' (up rd (5 + i) (nI s)) := h.st (fun k a1 a2 => up_ne _ _ (by omega)) fun k hk => by
  by_cases e : k = i
  · subst e; rw [up_at]; exact Is.of hs hb
  · rw [up_ne _ _ (by omega)]; exact (h.2.2.2.2.1 k hk).mono hB
theorem RLd.stk1 {σ : St} {B i s : Nat} {rd : Nat → Int32} (v : VR B rd) (h : RLd σ 2 rd) (hi : i < 8) : RLd (sI σ 3 i (nI s)) 2 (up rd (5 + i) (nI s)) := RLd.st v h (Un.sI _ _ rfl) (fun k a1 a2 => up_ne _ _ (by omega)) fun k hk => by
  by_cases e : k = i
  · subst e; rw [up_at]; exact gI_at _ _ _ _
  · rw [up_ne _ _ (by omega)]
    show gI (sI σ 3 i (nI s)) 3 k = _
    rw [gI_ns _ _ _ e]; exact h.2.2.2.1 k hk
def fA (k : Nat) : Int32 := if k = 2 then 1 else if k = 1 then 2 else 3
theorem cCh_no {v : Int32} {σ : St} (h : v < 1 ∨ nI 1000 ≤ v) : pf_X10_checkChange v σ = some (.inl 1) := by
  unfold pf_X10_checkChange pf_X10_checkChange_b12
  by_cases h1 : v < 1
  · rw [if_pos h1]
  · rw [if_neg h1, if_neg]
    have h2 := h.elim (fun q => absurd q h1) id
    intro h3
    rw [Int32.le_iff_toInt_le] at h2 h3
    rw [nI_toInt (by omega)] at h2
    have e1 : (999 : Int32).toInt = 999 := by decide
    omega
theorem cCh_yes {m : Nat} {σ : St} (h1 : 1 ≤ m) (h2 : m ≤ 999) : pf_X10_checkChange (nI m) σ = some (.inr ()) := by
  unfold pf_X10_checkChange
  rw [show (1 : Int32) = nI 1 from rfl, if_neg (nI_nlt h1 (by omega)), show (999 : Int32) = nI 999 from rfl, if_pos (nI_le h2 (by omega))]
theorem am_cases (v : Int32) : (v < 1 ∨ nI 1000 ≤ v) ∨ ∃ m, 1 ≤ m ∧ m ≤ 999 ∧ v = nI m := by
  rcases v_cases v (n := 1000) (by omega) with h | ⟨m, hm, rfl⟩
  · left
    rcases h with h | h
    · left
      rw [Int32.lt_iff_toInt_lt] at h ⊢
      have e1 : (1 : Int32).toInt = 1 := by decide
      have e0 : (0 : Int32).toInt = 0 := by decide
      omega
    · exact Or.inr h
  · rcases (by omega : m = 0 ∨ 1 ≤ m) with rfl | h
    · left; left; decide
    · exact Or.inr ⟨m, h, by omega, rfl⟩
theorem am_no {v : Int32} (h : v < 1 ∨ nI 1000 ≤ v) : decide (¬ v < 1 ∧ ¬ 999 < v) = false := by
  apply decide_eq_false
  intro q
  rcases h with h | h
  · exact q.1 h
  · apply q.2
    rw [Int32.le_iff_toInt_le, nI_toInt (by omega)] at h
    rw [Int32.lt_iff_toInt_lt]
    have e1 : (999 : Int32).toInt = 999 := by decide
    omega
theorem am_yes {m : Nat} (h1 : 1 ≤ m) (h2 : m ≤ 999) : decide (¬ nI m < 1 ∧ ¬ 999 < nI m) = true := decide_eq_true ⟨nI_nlt h1 (by omega), show ¬ nI 999 < nI m from nI_nlt (a := 999) (b := m) h2 (by omega)⟩
/-- the reference before a change: thrown is 0, its row stands -/
theorem ref0 {c r : Nat} {σ σ1 σ2 : St} (hr : r < 9) (h3 : gI σ 609 3 = nI r) (e610 : gI σ1 610 = gI σ 610) (e609 : gI σ1 609 = gI σ 609) (u : Un oA σ1 σ2) : MR (sI σ2 609 0 0) (RW σ r) ∧ gI (sI σ2 609 0 0) 609 0 = 0 ∧ MU qA qB σ2 (sI σ2 609 0 0) := by
  have h := MR_of (σ := σ2) hr (by rw [u.I (by unfold oA; omega), e609]; exact h3)
  rw [RW_I r (show gI σ2 610 = gI σ 610 by rw [u.I (by unfold oA; omega), e610])] at h
  exact thr0 h
theorem op_add (hc : c < 512) (I : Inv c σ) (v w : Int32) : ∃ A σ1, pf_X10_add 0 v w σ = some (A, σ1) ∧ ∀ σ2, Un oA σ1 σ2 → ∃ b σ3, pf_X11_add 609 v w σ2 = some (b, σ3) ∧ Agr fA A b (gI σ3 609 0) ∧ IL c σ2 σ3 := by
  have hBB := BB_le (show c ≤ 512 by omega)
  obtain ⟨hb1, hb2, hb3⟩ := BB_1 hc
  obtain ⟨r, nxt, σa, r1, r2, r3, r4, r5, k1, k2, k3, kk⟩ := chg I
  unfold pf_X10_add pf_X11_add
  simp only [bnd_e]
  rcases v_cases v (n := 8) (by omega) with hv | ⟨i, hi, rfl⟩
  · rw [cIt_no hv, bXW_l]
    refine ⟨_, σ, rfl, fun σ2 u => ?_⟩
    obtain ⟨h1, h0, u1⟩ := ref0 (c := c) r1 r3 rfl rfl u
    rw [isIt_no h0 hv, bnd2_some, i00]
    exact ⟨_, _, rfl, gI_at _ _ _ _, I.no (Un.refl _ _) u (u1.trans (MU.fld _ _ (Or.inl rfl)))⟩
  · rw [cIt_yes hi, bXW_r]
    rcases am_cases w with hw | ⟨m, m1, m2, rfl⟩
    · rw [cCh_no hw, bXW_l]
      refine ⟨_, σ, rfl, fun σ2 u => ?_⟩
      obtain ⟨h1, h0, u1⟩ := ref0 (c := c) r1 r3 rfl rfl u
      rw [isIt_yes h0 hi, bnd2_some, i10, isIn_ok, bind_some, am_no hw, right_f h0 (by decide), bnd2_some, i00]
      exact ⟨_, _, rfl, gI_at _ _ _ _, I.no (Un.refl _ _) u (u1.trans (MU.fld _ _ (Or.inl rfl)))⟩
    · obtain ⟨s, es, hs, _⟩ := (r5.2.2.2.2.1 i hi).get
      have eg : gI σ 3 i = nI s := (r4.2.2.2.1 i hi).trans es
      rw [cCh_yes m1 m2, bXW_r, show pf_X10_at (0 + 2 + 1) (nI i) σ = _ from at_ok al3 hi, bind_some, show gI σ (0 + 2 + 1) i = nI s from eg, nI_add]
      by_cases c1 : s + m ≤ 1000000
      · rw [show (1000000 : Int32) = nI 1000000 from rfl, if_pos (nI_le c1 (by omega)), show pf_X1_remember (0 + 120) (0 + 2) σ = _ from k1, bind_some, show pf_X10_put (0 + 2 + 1) (nI i) (nI (s + m)) σa = _ from put_ok al3 hi, bind_some]
        refine ⟨_, _, rfl, fun σ2 u => ?_⟩
        have un : Un nwM σa (sI σa 3 i (nI (s + m))) := Un.sI _ _ (Or.inl ⟨by omega, by omega⟩)
        have a1 := RLd.stk1 (s := s + m) r5 k3 hi
        have av : VR (BB (c + 1)) (up (RW σ r) (5 + i) (nI (s + m))) := r5.stk1 (by omega) hi (by omega) (by omega)
        have e9 : ∀ j, j = 609 ∨ j = 610 → gI (sI σa 3 i (nI (s + m))) j = gI σ j := fun j hj => by rw [gI_nf _ _ _ (by omega), k2.I (by unfold rmM; omega)]
        obtain ⟨h1, h0, u1⟩ := ref0 (c := c) r1 r3 (e9 610 (by omega)) (e9 609 (by omega)) u
        obtain ⟨τa, t1, t2, t3, t4, t5⟩ := kk _ _ un a1 av σ2 u _ u1
        have M := MR_of (σ := τa) (r := (r + 1) % 9) (by omega) t2
        rw [t3] at M
        obtain ⟨τ3, p1, p2⟩ := putW (k := 5 + i) (nI (s + m)) (by omega) t2 (by omega)
        rw [t3] at p2
        rw [isIt_yes h0 hi, bnd2_some, i10, isIn_ok, bind_some, am_yes m1 m2, right_t h0, bnd2_some, i10, show (5 : Int32) = nI 5 from rfl, nI_add, get_ok h1 (by omega), bind_some, es, nI_add, if_neg (nI_nlt c1 (by omega))]
        unfold pf_X11_add_b49
        rw [show pf_X11_right 609 1 3 _ = _ from right_t h0, bnd2_some, i10, t1, bind_some, show (5 : Int32) = nI 5 from rfl, nI_add, get_ok M (by omega), bind_some, es, nI_add, p1, bind_some, get_ok (p2.M (by omega) t2) (by omega), bind_some, up_at]
        exact ⟨_, _, rfl, ⟨p2.t.trans (t4.trans h0), rfl⟩, t5 _ p2⟩
      · rw [show (1000000 : Int32) = nI 1000000 from rfl, if_neg (nI_ge (by omega) (by omega))]
        refine ⟨_, σ, rfl, fun σ2 u => ?_⟩
        obtain ⟨h1, h0, u1⟩ := ref0 (c := c) r1 r3 rfl rfl u
        rw [isIt_yes h0 hi, bnd2_some, i10, isIn_ok, bind_some, am_yes m1 m2, right_t h0, bnd2_some, i10, show (5 : Int32) = nI 5 from rfl, nI_add, get_ok h1 (by omega), bind_some, es, nI_add, if_pos (nI_lt (by omega) (by omega))]
        unfold pf_X11_add_b49
        rw [show pf_X11_right 609 0 3 _ = _ from right_f h0 (by decide), bnd2_some, i00]
        exact ⟨_, _, rfl, gI_at _ _ _ _, I.no (Un.refl _ _) u (u1.trans (MU.fld _ _ (Or.inl rfl)))⟩
theorem op_spend (hc : c < 512) (I : Inv c σ) (v w : Int32) : ∃ A σ1, pf_X10_spend 0 v w σ = some (A, σ1) ∧ ∀ σ2, Un oA σ1 σ2 → ∃ b σ3, pf_X11_spend 609 v w σ2 = some (b, σ3) ∧ Agr fA A b (gI σ3 609 0) ∧ IL c σ2 σ3 := by
  have hBB := BB_le (show c ≤ 512 by omega)
  obtain ⟨hb1, hb2, hb3⟩ := BB_1 hc
  obtain ⟨r, nxt, σa, r1, r2, r3, r4, r5, k1, k2, k3, kk⟩ := chg I
  unfold pf_X10_spend pf_X11_spend
  simp only [bnd_e]
  rcases v_cases v (n := 8) (by omega) with hv | ⟨i, hi, rfl⟩
  · rw [cIt_no hv, bXW_l]
    refine ⟨_, σ, rfl, fun σ2 u => ?_⟩
    obtain ⟨h1, h0, u1⟩ := ref0 (c := c) r1 r3 rfl rfl u
    rw [isIt_no h0 hv, bnd2_some, i00]
    exact ⟨_, _, rfl, gI_at _ _ _ _, I.no (Un.refl _ _) u (u1.trans (MU.fld _ _ (Or.inl rfl)))⟩
  · rw [cIt_yes hi, bXW_r]
    rcases am_cases w with hw | ⟨m, m1, m2, rfl⟩
    · rw [cCh_no hw, bXW_l]
      refine ⟨_, σ, rfl, fun σ2 u => ?_⟩
      obtain ⟨h1, h0, u1⟩ := ref0 (c := c) r1 r3 rfl rfl u
      rw [isIt_yes h0 hi, bnd2_some, i10, isIn_ok, bind_some, am_no hw, right_f h0 (by decide), bnd2_some, i00]
      exact ⟨_, _, rfl, gI_at _ _ _ _, I.no (Un.refl _ _) u (u1.trans (MU.fld _ _ (Or.inl rfl)))⟩
    · obtain ⟨s, es, hs, _⟩ := (r5.2.2.2.2.1 i hi).get
      have eg : gI σ 3 i = nI s := (r4.2.2.2.1 i hi).trans es
      rw [cCh_yes m1 m2, bXW_r, show pf_X10_at (0 + 2 + 1) (nI i) σ = _ from at_ok al3 hi, bind_some, show gI σ (0 + 2 + 1) i = nI s from eg]
      by_cases c1 : m ≤ s
      · rw [pk_sub c1, if_pos (nI_pos' (by omega)), show pf_X1_remember (0 + 120) (0 + 2) σ = _ from k1, bind_some, show pf_X10_put (0 + 2 + 1) (nI i) (nI (s - m)) σa = _ from put_ok al3 hi, bind_some]
        refine ⟨_, _, rfl, fun σ2 u => ?_⟩
        have un : Un nwM σa (sI σa 3 i (nI (s - m))) := Un.sI _ _ (Or.inl ⟨by omega, by omega⟩)
        have a1 := RLd.stk1 (s := s - m) r5 k3 hi
        have av : VR (BB (c + 1)) (up (RW σ r) (5 + i) (nI (s - m))) := r5.stk1 (by omega) hi (by omega) (by omega)
        have e9 : ∀ j, j = 609 ∨ j = 610 → gI (sI σa 3 i (nI (s - m))) j = gI σ j := fun j hj => by rw [gI_nf _ _ _ (by omega), k2.I (by unfold rmM; omega)]
        obtain ⟨h1, h0, u1⟩ := ref0 (c := c) r1 r3 (e9 610 (by omega)) (e9 609 (by omega)) u
        obtain ⟨τa, t1, t2, t3, t4, t5⟩ := kk _ _ un a1 av σ2 u _ u1
        have M := MR_of (σ := τa) (r := (r + 1) % 9) (by omega) t2
        rw [t3] at M
        obtain ⟨τ3, p1, p2⟩ := putW (k := 5 + i) (nI (s - m)) (by omega) t2 (by omega)
        rw [t3] at p2
        rw [isIt_yes h0 hi, bnd2_some, i10, isIn_ok, bind_some, am_yes m1 m2, right_t h0, bnd2_some, i10, show (5 : Int32) = nI 5 from rfl, nI_add, get_ok h1 (by omega), bind_some, es, if_neg (nI_nlt c1 (by omega))]
        unfold pf_X11_spend_b46
        rw [show pf_X11_right 609 1 3 _ = _ from right_t h0, bnd2_some, i10, t1, bind_some, show (5 : Int32) = nI 5 from rfl, nI_add, get_ok M (by omega), bind_some, es, pk_sub c1, p1, bind_some, get_ok (p2.M (by omega) t2) (by omega), bind_some, up_at]
        exact ⟨_, _, rfl, ⟨p2.t.trans (t4.trans h0), rfl⟩, t5 _ p2⟩
      · rw [if_neg (show ¬ (0 : Int32) ≤ nI s - nI m from Int32.not_le.mpr (pk_sneg (by omega) (by omega)))]
        refine ⟨_, σ, rfl, fun σ2 u => ?_⟩
        obtain ⟨h1, h0, u1⟩ := ref0 (c := c) r1 r3 rfl rfl u
        rw [isIt_yes h0 hi, bnd2_some, i10, isIn_ok, bind_some, am_yes m1 m2, right_t h0, bnd2_some, i10, show (5 : Int32) = nI 5 from rfl, nI_add, get_ok h1 (by omega), bind_some, es, if_pos (nI_lt (by omega) (by omega))]
        unfold pf_X11_spend_b46
        rw [show pf_X11_right 609 0 3 _ = _ from right_f h0 (by decide), bnd2_some, i00]
        exact ⟨_, _, rfl, gI_at _ _ _ _, I.no (Un.refl _ _) u (u1.trans (MU.fld _ _ (Or.inl rfl)))⟩
end
