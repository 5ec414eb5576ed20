/-! QUESTION lacking -/
def Sm (rd : Nat → Int32) (i m : Nat) : Nat → Int := fun k => stk rd k + (if k = i then (m : Int) else 0)
theorem posb_mono {rd : Nat → Int32} {b i m m' : Nat} (V : VQ rd b) (h : m ≤ m') (hp : posb rd b (Sm rd i m) = true) : posb rd b (Sm rd i m') = true := by
  obtain ⟨h0, h1, _⟩ := posb_t V hp
  have hn := V.n
  have := gF_mono (w := one) (cnR_ok (S := Sm rd i m) (d := dnM rd b) hn.1) (cnR_ok (S := Sm rd i m') (d := dnM rd b) hn.1) (cnR_mono (S := Sm rd i m) (S' := Sm rd i m') (fun k _ => by unfold Sm; split <;> omega)) (dnM_64 V) (by rw [h1]; exact fun e => by cases e)
  unfold posb
  rw [decide_eq_true h0, Bool.true_and]
  cases e : gF (gl rd b) (cnR rd b (Sm rd i m') (dnM rd b)) one (dnM rd b) with
  | none => exact absurd e this
  | some x => rfl
theorem al62 : alen 62 = 8 := by decide +kernel
section
variable {σ τ : St} {rd : Nat → Int32} {B : Nat}
theorem hasMore {q i m : Nat} (X : CX σ rd B) (hB : B ≤ 40000000) (hq : q < Qn rd) (hi : i < 8) (hm : m ≤ 99) : ∃ σ', pf_X10_hasWayWithMore 0 (7 + 9 * q) (nI i) (nI m) σ = some (if posb rd (53 + 186 * q) (Sm rd i m) then 1 else 0, σ') ∧ Un cQ σ σ' ∧ CX σ' rd B := by
  have q0 := X.q0
  unfold pf_X10_hasWayWithMore
  refine up_C (fun n k s => pf_X10_hasWayWithMore_L3 pf_X10_hasWayWithMore_b52 n 0 (7 + 9 * q) (nI i) (nI m) (nI k) s) 8 (fun k s => Un (fun j => j = 62) σ s ∧ ∀ j, j < k → gI s 62 j = iI (Sm rd i m j)) (fun r => ∃ σ', r = some (if posb rd (53 + 186 * q) (Sm rd i m) then 1 else 0, σ') ∧ Un cQ σ σ' ∧ CX σ' rd B) ?_ ?_ FU 0 σ (Nat.zero_le _) ⟨Un.refl _ _, fun k hk => absurd hk (Nat.not_lt_zero _)⟩ (lt_FU (by omega))
  · intro n s ⟨h1, h2⟩
    have u1 : Un cQ σ s := h1.mono fun j hj => by unfold cQ; omega
    have Xs := X.cq u1
    have W := Xs.W hq
    have W' : Wx s (7 + 9 * q) rd (53 + 186 * q) (Sm rd i m) := ⟨W.1, W.2.1, W.2.2.1, W.2.2.2.1, fun k hk => by
      have := X.stock hk
      unfold Sm stk
      split <;> omega⟩
    obtain ⟨s', g1, g2, g3⟩ := explore_ok W' (by decide) al62 h2
    have u2 : Un cQ s s' := g2.mono fun j hj => by have a1 := hj.1; have a2 := hj.2; unfold cQ; omega
    refine ⟨s', ?_, u1.trans u2, Xs.cq u2⟩
    show pf_X10_hasWayWithMore_L3 pf_X10_hasWayWithMore_b52 (n + 1) 0 (7 + 9 * q) (nI i) (nI m) (nI 8) s = _
    rw [pf_X10_hasWayWithMore_L3, show (8 : Int32) = nI 8 from rfl, if_pos (nI_le (Nat.le_refl _) (by omega)), pf_X10_hasWayWithMore_b52, show pf_X7_explore (0 + 602) (7 + 9 * q) (0 + 61 + 1) s = _ from g1, bnd2_some, ck_b]
  · intro n k s hk ⟨h1, h2⟩
    have e3 : gI s 3 k = iI (stk rd k) := by rw [h1.I (by decide)]; exact X.st k hk
    refine Or.inr ⟨sI s 62 k (iI (Sm rd i m k)), ?_, h1.trans (Un.sI _ _ rfl), fun j hj => ?_⟩
    · show pf_X10_hasWayWithMore_L3 pf_X10_hasWayWithMore_b52 (n + 1) 0 (7 + 9 * q) (nI i) (nI m) (nI k) s = pf_X10_hasWayWithMore_L3 pf_X10_hasWayWithMore_b52 n 0 (7 + 9 * q) (nI i) (nI m) (nI (k + 1)) _
      rw [pf_X10_hasWayWithMore_L3, show (8 : Int32) = nI 8 from rfl, if_neg (nI_ge hk (by omega)), show pf_X10_at (0 + 2 + 1) (nI k) s = _ from at_ok al3 hk, bind_some, show gI s (0 + 2 + 1) k = _ from e3]
      unfold pf_X10_hasWayWithMore_b42 Sm
      by_cases e : k = i
      · rw [if_pos (by rw [e]), if_pos e, show pf_X10_put (0 + 61 + 1) (nI k) _ s = _ from put_ok al62 hk, bind_some, bnd_e, nI_1, ← iI_nat m, iI_add]
      · rw [if_neg (by rw [nI_eq (by omega) (by omega)]; exact e), if_neg e, show pf_X10_put (0 + 61 + 1) (nI k) _ s = _ from put_ok al62 hk, bind_some, bnd_e, nI_1, show (0 : Int32) = iI 0 from rfl, iI_add]
    · by_cases e : j = k
      · subst e; rw [gI_at]
      · rw [gI_ns _ _ _ e]; exact h2 j (by omega)
theorem div2 {a b : Nat} (h : a + b < 2 ^ 31) : (nI a + nI b) / 2 = nI ((a + b) / 2) := by
  rw [nI_add]
  exact pk_div (d := 2) h (by omega) (by omega)
/-- the least amount that is enough -/
theorem lackC {q i : Nat} (X : CX σ rd B) (hB : B ≤ 40000000) (hq : q < Qn rd) (hi : i < 8) (h99 : posb rd (53 + 186 * q) (Sm rd i 99) = true) : ∃ (x : Nat) (σ' : St), x ≤ 99 ∧ posb rd (53 + 186 * q) (Sm rd i x) = true ∧ (∀ m, m < x → posb rd (53 + 186 * q) (Sm rd i m) = false) ∧ pf_X10_lacking_L33 FU 0 (nI i) (7 + 9 * q) 0 99 0 σ = some (.inr (nI x), σ') ∧ Un cQ σ σ' := by
  have V := X.V hq
  refine up_C (fun n r (s : (Nat × Nat) × St) => pf_X10_lacking_L33 n 0 (nI i) (7 + 9 * q) (nI s.1.1) (nI s.1.2) (nI r) s.2) 99 (fun r s => s.1.1 ≤ s.1.2 ∧ s.1.2 ≤ 99 ∧ s.1.2 - s.1.1 + r ≤ 99 ∧ posb rd (53 + 186 * q) (Sm rd i s.1.2) = true ∧ (∀ m, m < s.1.1 → posb rd (53 + 186 * q) (Sm rd i m) = false) ∧ Un cQ σ s.2 ∧ CX s.2 rd B) (fun r => ∃ (x : Nat) (σ' : St), x ≤ 99 ∧ posb rd (53 + 186 * q) (Sm rd i x) = true ∧ (∀ m, m < x → posb rd (53 + 186 * q) (Sm rd i m) = false) ∧ r = some (.inr (nI x), σ') ∧ Un cQ σ σ') ?_ ?_ FU 0 ((0, 99), σ) (Nat.zero_le _) ⟨Nat.zero_le _, Nat.le_refl _, Nat.le_refl _, h99, fun m hm => absurd hm (Nat.not_lt_zero _), Un.refl _ _, X⟩ (lt_FU (by omega))
  · rintro n ⟨⟨l, e⟩, s⟩ ⟨h1, h2, h3, h4, h5, h6, h7⟩
    have h1' : l ≤ e := h1
    have h3' : e - l + 99 ≤ 99 := h3
    have : l = e := by omega
    subst this
    refine ⟨l, s, h2, h4, h5, ?_, h6⟩
    show pf_X10_lacking_L33 (n + 1) 0 (nI i) (7 + 9 * q) (nI l) (nI l) (nI 99) s = _
    rw [pf_X10_lacking_L33, show (99 : Int32) = nI 99 from rfl, if_pos (nI_le (Nat.le_refl _) (by omega))]
  · rintro n r ⟨⟨l, e⟩, s⟩ hr ⟨h1, h2, h3, h4, h5, h6, h7⟩
    have h1' : l ≤ e := h1
    have h2' : e ≤ 99 := h2
    have h3' : e - l + r ≤ 99 := h3
    show (∃ (x : Nat) (σ' : St), x ≤ 99 ∧ _ ∧ _ ∧ pf_X10_lacking_L33 (n + 1) 0 (nI i) (7 + 9 * q) (nI l) (nI e) (nI r) s = some (.inr (nI x), σ') ∧ _) ∨ ∃ s' : (Nat × Nat) × St, pf_X10_lacking_L33 (n + 1) 0 (nI i) (7 + 9 * q) (nI l) (nI e) (nI r) s = pf_X10_lacking_L33 n 0 (nI i) (7 + 9 * q) (nI s'.1.1) (nI s'.1.2) (nI (r + 1)) s'.2 ∧ _
    rw [pf_X10_lacking_L33, show (99 : Int32) = nI 99 from rfl, if_neg (nI_ge hr (by omega))]
    by_cases c : e ≤ l
    · left
      have : l = e := by omega
      subst this
      rw [if_pos (nI_le (Nat.le_refl _) (by omega))]
      exact ⟨l, s, h2, h4, h5, rfl, h6⟩
    · right
      rw [if_neg (nI_ge (by omega) (by omega)), div2 (by omega), bnd_e]
      obtain ⟨s2, g1, g2, g3⟩ := hasMore h7 hB hq hi (m := (l + e) / 2) (by omega)
      rw [g1, bnd2_some, if_b]
      cases hp : posb rd (53 + 186 * q) (Sm rd i ((l + e) / 2)) with
      | false =>
        rw [if_neg Bool.false_ne_true, bnd_e, pf_X10_lacking_b80, bnd_e, nI_1, nI_1]
        refine ⟨(((l + e) / 2 + 1, e), s2), rfl, ?_, h2, ?_, h4, fun m hm => ?_, h6.trans g2, g3⟩
        · show (l + e) / 2 + 1 ≤ e; omega
        · show e - ((l + e) / 2 + 1) + (r + 1) ≤ 99; omega
        · have hm' : m < (l + e) / 2 + 1 := hm
          cases hp2 : posb rd (53 + 186 * q) (Sm rd i m) with
          | false => rfl
          | true => rw [posb_mono V (show m ≤ (l + e) / 2 by omega) hp2] at hp; cases hp
      | true =>
        rw [if_pos rfl, pf_X10_lacking_b80, bnd_e, nI_1]
        refine ⟨((l, (l + e) / 2), s2), rfl, ?_, ?_, ?_, hp, h5, h6.trans g2, g3⟩
        · show l ≤ (l + e) / 2; omega
        · show (l + e) / 2 ≤ 99; omega
        · show (l + e) / 2 - l + (r + 1) ≤ 99; omega
theorem lackM {q i : Nat} (X : CX σ rd B) (hB : B ≤ 40000000) (h : MR τ rd) (hq : q < Qn rd) (hi : i < 8) : ∃ τ', ((∃ x, x ≤ 99 ∧ posb rd (53 + 186 * q) (Sm rd i x) = true ∧ (∀ m, m < x → posb rd (53 + 186 * q) (Sm rd i m) = false) ∧ pf_X11_lacking_L25 FU 609 (nI q) (nI i) 0 τ = some (nI x, τ')) ∨ ((∀ m, m ≤ 99 → posb rd (53 + 186 * q) (Sm rd i m) = false) ∧ pf_X11_lacking_L25 FU 609 (nI q) (nI i) 0 τ = some (-1, τ'))) ∧ MU qA qI τ τ' := by
  have q0 := X.q0
  refine up_C (fun n r s => pf_X11_lacking_L25 n 609 (nI q) (nI i) (nI r) s) 100 (fun r s => MU qA qI τ s ∧ ∀ m, m < r → posb rd (53 + 186 * q) (Sm rd i m) = false) (fun r => ∃ τ', ((∃ x, x ≤ 99 ∧ posb rd (53 + 186 * q) (Sm rd i x) = true ∧ (∀ m, m < x → posb rd (53 + 186 * q) (Sm rd i m) = false) ∧ r = some (nI x, τ')) ∨ ((∀ m, m ≤ 99 → posb rd (53 + 186 * q) (Sm rd i m) = false) ∧ r = some (-1, τ'))) ∧ MU qA qI τ τ') ?_ ?_ FU 0 τ (Nat.zero_le _) ⟨MU.refl _ _ _, fun m hm => absurd hm (Nat.not_lt_zero _)⟩ (lt_FU (by omega))
  · intro n s ⟨h1, h2⟩
    refine ⟨s, Or.inr ⟨fun m hm => h2 m (by omega), ?_⟩, h1⟩
    show pf_X11_lacking_L25 (n + 1) 609 (nI q) (nI i) (nI 100) s = _
    rw [pf_X11_lacking_L25, if_pos (by decide)]
  · intro n r s hr ⟨h1, h2⟩
    show (∃ τ', (_ ∨ _) ∧ _) ∨ ∃ s', pf_X11_lacking_L25 (n + 1) 609 (nI q) (nI i) (nI r) s = pf_X11_lacking_L25 n 609 (nI q) (nI i) (nI (r + 1)) s' ∧ _
    have hs := h.mu h1 qA610 qI3
    obtain ⟨s1, g1, g2, g3⟩ := asIt X hs
    have hs1 := hs.mu g2 qA610 qI3
    have u2 : MU qA qI s1 (sI s1 613 i (iI (Sm rd i r i))) := MU.arr _ _ (by unfold qA; omega) (by decide)
    have by2 : BY (sI s1 613 i (iI (Sm rd i r i))) (Sm rd i r) := fun k hk => by
      by_cases e : k = i
      · subst e; rw [gI_at]
      · rw [gI_ns _ _ _ e, g3 k hk]
        unfold Sm
        rw [if_neg e, Int.add_zero]
    have M2 : Mx (sI s1 613 i (iI (Sm rd i r i))) rd q (Sm rd i r) := ⟨hs1.mu u2 qA610 qI3, by omega, X.V hq, by2, fun k hk => by
      have := X.stock hk
      unfold Sm stk
      split <;> omega⟩
    obtain ⟨s3, k1, k2, k3⟩ := ways_ok M2
    have u3 := (h1.trans g2).trans (u2.trans (wyq k2))
    have es : gI s1 613 i + nI r = iI (Sm rd i r i) := by
      rw [g3 i hi, ← iI_nat r, iI_add]
      unfold Sm
      rw [if_pos rfl]
    rw [show pf_X11_lacking_L25 (n + 1) 609 (nI q) (nI i) (nI r) s = (if posb rd (53 + 186 * q) (Sm rd i r) = true then some (nI r, s3) else pf_X11_lacking_L25 n 609 (nI q) (nI i) (nI (r + 1)) s3) from by
      rw [pf_X11_lacking_L25, show (99 : Int32) = nI 99 from rfl, if_neg (nI_nlt (by omega) (by omega)), g1, bind_some, ckA al613 hi, ckA al613 hi, nI_clamp (by omega), bnd_e, show gI s1 (609 + 4) i + nI r = _ from es, show pf_X11_ways 609 (nI q) (sI s1 (609 + 4) i (iI (Sm rd i r i))) = _ from k1, bnd2_some, if_b2, bnd_e, nI_1]]
    cases hp : posb rd (53 + 186 * q) (Sm rd i r) with
    | true =>
      left
      rw [if_pos rfl]
      exact ⟨s3, Or.inl ⟨r, by omega, hp, h2, rfl⟩, u3⟩
    | false =>
      right
      rw [if_neg Bool.false_ne_true]
      refine ⟨s3, rfl, u3, fun m hm => ?_⟩
      by_cases e : m = r
      · subst e; exact hp
      · exact h2 m (by omega)
theorem ag_lacking (X : CX σ rd B) (hB : B ≤ 40000000) (h : MR τ rd) (v w : Int32) : ∃ A b σ' τ', pf_X10_lacking 0 v w σ = some (A, σ') ∧ Un cQ σ σ' ∧ pf_X11_lacking 609 v w τ = some (b, τ') ∧ MU qA qB τ τ' ∧ Agr fQ A b (gI τ' 609 0) := by
  obtain ⟨h1, h0, u1⟩ := thr0 h
  have q0 := X.q0
  unfold pf_X10_lacking pf_X11_lacking
  rw [bnd_e]
  rcases v_cases v (n := Qn rd) (by omega) with hv | ⟨q, hq, rfl⟩
  · rw [qAt_no X hv, bXW_l, isQ_no h1 q0.1 q0.2 h0 hv, bnd2_some, i00]
    exact ⟨_, _, _, _, rfl, Un.refl _ _, rfl, u1.trans (MU.fld _ _ (Or.inl rfl)), gI_at _ _ _ _⟩
  · rw [qAt_yes X hq, bXW_r, ckK_eq (kd7 q (by omega)), isQ_yes h1 q0.1 q0.2 h0 hq, bnd2_some, i10]
    rcases v_cases w (n := 8) (by omega) with hw | ⟨i, hi, rfl⟩
    · rw [cIt_no hw, bXW_l, isIt_no h0 hw, bnd2_some, i00]
      exact ⟨_, _, _, _, rfl, Un.refl _ _, rfl, u1.trans (MU.fld _ _ (Or.inl rfl)), gI_at _ _ _ _⟩
    · rw [cIt_yes hi, bXW_r, isIt_yes h0 hi, bnd2_some, i10]
      obtain ⟨σ2, c1, c2, c3⟩ := hasMore X hB hq hi (m := 99) (by omega)
      obtain ⟨τ2, g1, g2⟩ := lackM X hB h1 hq hi
      rw [show pf_X10_hasWayWithMore 0 (7 + 9 * q) (nI i) 99 σ = _ from c1, bnd2_some, if_b]
      cases hp : posb rd (53 + 186 * q) (Sm rd i 99) with
      | false =>
        rw [if_neg Bool.false_ne_true]
        rcases g1 with ⟨x, x1, x2, x3, x4⟩ | ⟨x1, x2⟩
        · rw [posb_mono (X.V hq) x1 x2] at hp; cases hp
        · rw [x2]
          exact ⟨_, _, _, _, rfl, c2, rfl, u1.trans g2.qq, g2.t0.trans h0, rfl⟩
      | true =>
        obtain ⟨x, σ3, y1, y2, y3, y4, y5⟩ := lackC c3 hB hq hi hp
        rw [if_pos rfl, y4]
        rcases g1 with ⟨x', x1, x2, x3, x4⟩ | ⟨x1, x2⟩
        · rw [x4]
          refine ⟨_, _, _, _, rfl, c2.trans y5, rfl, u1.trans g2.qq, g2.t0.trans h0, ?_⟩
          have : x' = x := by
            rcases Nat.lt_trichotomy x x' with q | q | q
            · rw [x3 x q] at y2; cases y2
            · exact q.symm
            · rw [y3 x' q] at x2; cases x2
          rw [this]
        · rw [x1 99 (Nat.le_refl _)] at hp; cases hp
end
