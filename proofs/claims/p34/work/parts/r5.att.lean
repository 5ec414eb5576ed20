/-! THE PURE SIDE: the game's tries -/
theorem att_take {K : Nat → Nat → Int32 → St → Option (Int32 × St)} {a : Nat} (ha : 1005 ≤ a) {v5 : Int32} : ∀ (j k f : Nat) (τ : St), k + j = 3 → j < f → ∃ τ', pf_X11_attempt_L102 K f 1000 a v5 (nI k) τ = K 1000 a v5 τ' ∧ (∀ i, i ≠ 1002 → gI τ' i = gI τ i) ∧ ∀ i, gI τ' 1002 i = if k ≤ i ∧ i < 3 then gI τ 1002 i - gI τ (a + 1) i else gI τ 1002 i
  | 0, k, f, τ, hk, hf => by
    obtain ⟨f, rfl⟩ : ∃ g, f = g + 1 := ⟨f - 1, by omega⟩
    obtain rfl : k = 3 := by omega
    refine ⟨τ, ?_, fun _ _ => rfl, fun i => (if_neg (by omega)).symm⟩
    rw [pf_X11_attempt_L102, if_pos (show (3 : Int32) ≤ nI 3 from Int32.le_refl _)]
  | j + 1, k, f, τ, hk, hf => by
    obtain ⟨f, rfl⟩ : ∃ g, f = g + 1 := ⟨f - 1, by omega⟩
    obtain ⟨τ', e1, e2, e3⟩ := att_take (K := K) ha (v5 := v5) j (k + 1) f (sI τ 1002 k (gI τ 1002 k - gI τ (a + 1) k)) (by omega) (by omega)
    refine ⟨τ', ?_, fun i hi => by rw [e2 i hi, gI_nf _ _ _ hi], fun i => ?_⟩
    · rw [pf_X11_attempt_L102, if_neg (show ¬ (3 : Int32) ≤ nI k from nI_ge (b := 3) (by omega) (by omega)), ckI_nI (by omega) (by omega), ckI_nI (by omega) (by omega), ckI_nI (by omega) (by omega), nI_clamp (by omega), bnd_e, bnd_e, nI_1]
      exact e1
    · rw [e3 i, gI_nf (a := a + 1) _ _ _ (by omega)]
      by_cases c : i = k
      · subst c
        rw [if_neg (by omega), if_pos (by omega), gI_at]
      · rw [gI_ns _ _ _ c]
        by_cases c2 : k + 1 ≤ i ∧ i < 3
        · rw [if_pos c2, if_pos (by omega)]
        · rw [if_neg c2, if_neg (by omega)]
theorem att_give {K : Nat → Nat → St → Option (Int32 × St)} {a : Nat} (ha : 1005 ≤ a) : ∀ (j k f : Nat) (τ : St), k + j = 3 → j < f → ∃ τ', pf_X11_attempt_L139 K f 1000 a (nI k) τ = K 1000 a τ' ∧ (∀ i, i ≠ 1002 → gI τ' i = gI τ i) ∧ ∀ i, gI τ' 1002 i = if k ≤ i ∧ i < 3 then gI τ 1002 i + gI τ (a + 3) i else gI τ 1002 i
  | 0, k, f, τ, hk, hf => by
    obtain ⟨f, rfl⟩ : ∃ g, f = g + 1 := ⟨f - 1, by omega⟩
    obtain rfl : k = 3 := by omega
    refine ⟨τ, ?_, fun _ _ => rfl, fun i => (if_neg (by omega)).symm⟩
    rw [pf_X11_attempt_L139, if_pos (show (3 : Int32) ≤ nI 3 from Int32.le_refl _)]
  | j + 1, k, f, τ, hk, hf => by
    obtain ⟨f, rfl⟩ : ∃ g, f = g + 1 := ⟨f - 1, by omega⟩
    obtain ⟨τ', e1, e2, e3⟩ := att_give (K := K) ha j (k + 1) f (sI τ 1002 k (gI τ 1002 k + gI τ (a + 3) k)) (by omega) (by omega)
    refine ⟨τ', ?_, fun i hi => by rw [e2 i hi, gI_nf _ _ _ hi], fun i => ?_⟩
    · rw [pf_X11_attempt_L139, if_neg (show ¬ (3 : Int32) ≤ nI k from nI_ge (b := 3) (by omega) (by omega)), ckI_nI (by omega) (by omega), ckI_nI (by omega) (by omega), ckI_nI (by omega) (by omega), nI_clamp (by omega), bnd_e, bnd_e, nI_1]
      exact e1
    · rw [e3 i, gI_nf (a := a + 3) _ _ _ (by omega)]
      by_cases c : i = k
      · subst c
        rw [if_neg (by omega), if_pos (by omega), gI_at]
      · rw [gI_ns _ _ _ c]
        by_cases c2 : k + 1 ≤ i ∧ i < 3
        · rw [if_pos c2, if_pos (by omega)]
        · rw [if_neg c2, if_neg (by omega)]
/-! the steps that can still be -/
def allJ (p : Nat → Bool) : Nat → Nat → Bool
  | 0, _ => true
  | j + 1, a => p a && allJ p j (a + 1)
theorem allJ_iff {p : Nat → Bool} : ∀ j a, allJ p j a = true ↔ ∀ x, a ≤ x → x < a + j → p x = true
  | 0, a => ⟨fun _ x h1 h2 => by omega, fun _ => rfl⟩
  | j + 1, a => by
    rw [allJ, Bool.and_eq_true, allJ_iff j (a + 1)]
    constructor
    · rintro ⟨h1, h2⟩ x h3 h4
      by_cases c : x = a
      · subst c; exact h1
      · exact h2 x (by omega) (by omega)
    · intro h
      exact ⟨h a (Nat.le_refl _) (by omega), fun x h1 h2 => h x (by omega) (by omega)⟩
theorem csb_L {rc : Nat → Int32 → St → Option Int32} {τ : St} {v2 k A : Nat} {cs : Nat → Bool} (hA : gI τ v2 3 = nI A) (hA6 : A < 64) (hk : k ≤ 6) (hrc : ∀ x, x < k → rc 1000 (nI x) τ = some (b2i (cs x))) : ∀ j a f, a + j = k → j + 1 < f → pf_X11_canStillBe_L41 rc τ f 1000 (nI k) v2 0 (nI a) = some 0 ∧ pf_X11_canStillBe_L41 rc τ f 1000 (nI k) v2 1 (nI a) = some (b2i (allJ (fun x => !A.testBit x || cs x) j a))
  | 0, a, f, ha, hf => by
    obtain ⟨f, rfl⟩ : ∃ g, f = g + 1 := ⟨f - 1, by omega⟩
    obtain rfl : a = k := by omega
    rw [pf_X11_canStillBe_L41, if_pos (Int32.le_refl _), ckZ_0, pf_X11_canStillBe_L41, if_pos (Int32.le_refl _), ckZ_1]
    exact ⟨rfl, rfl⟩
  | j + 1, a, f, ha, hf => by
    obtain ⟨f, rfl⟩ : ∃ g, f = g + 1 := ⟨f - 1, by omega⟩
    obtain ⟨e1, e2⟩ := csb_L hA hA6 hk hrc j (a + 1) f (by omega) (by omega)
    refine ⟨by rw [pf_X11_canStillBe_L41, if_neg (nI_ge (by omega) (by omega)), if_pos rfl, ckZ_0], ?_⟩
    rw [pf_X11_canStillBe_L41, if_neg (nI_ge (by omega) (by omega)), if_neg (show ¬ (1 : Int32) = 0 by decide), hA, ishr_nI A hA6 a (by omega), if_b1, hrc a (by omega), bind_some, allJ]
    unfold pf_X11_canStillBe_b71
    rw [bnd_e, bnd_e, nI_1]
    cases A.testBit a with
    | false =>
      rw [if_neg Bool.false_ne_true]
      simpa using e2
    | true =>
      rw [if_pos rfl]
      cases cs a with
      | false =>
        show pf_X11_canStillBe_L41 rc τ f 1000 (nI k) v2 0 (nI (a + 1)) = _
        rw [e1]; rfl
      | true =>
        show pf_X11_canStillBe_L41 rc τ f 1000 (nI k) v2 1 (nI (a + 1)) = _
        rw [e2]; rfl
section
variable {so le q : Nat} {rd : Nat → Int32} {τ : St}
theorem csb_ok (V : VQ rd (53 + 186 * q)) (hQ : GQ so le q rd) (hG : GX so le q rd τ) : ∀ d k, k < d → k < nS rd (53 + 186 * q) → pf_X11_canStillBe d 1000 (nI k) τ = some (b2i (!dcn rd (53 + 186 * q) k (ddM rd (53 + 186 * q) k)))
  | 0, k, h, _ => absurd h (Nat.not_lt_zero _)
  | d + 1, k, hd, hk => by
    have hn := V.n
    have h4 := hQ.2.2.1
    have vs := V.s hk
    obtain ⟨s0, s1, s2, s3, s4, s5, s6⟩ := hG.2.2.2.2.2.2 k hk
    have cA1 := V.cA hk
    have ha := cA1.2
    simp only [_root_.id] at ha
    have hlim : rd (53 + 186 * q + 6 + 30 * k + 1) = nI (Nn (rd (53 + 186 * q + 6 + 30 * k + 1))) ∧ Nn (rd (53 + 186 * q + 6 + 30 * k + 1)) ≤ 9 := vs.2.1.1
    have hfl : rd (53 + 186 * q + 6 + 30 * k + 2) = nI (Nn (rd (53 + 186 * q + 6 + 30 * k + 2))) ∧ Nn (rd (53 + 186 * q + 6 + 30 * k + 2)) ≤ 9 := vs.2.2.1.1
    have hfl2 : Nn (rd (53 + 186 * q + 6 + 30 * k + 2)) ≤ Nn (rd (53 + 186 * q + 6 + 30 * k + 1)) := vs.2.2.1.2
    obtain ⟨L0, L1⟩ := csb_L (rc := pf_X11_canStillBe d) (τ := τ) (v2 := 1005 + 4 * k) (k := k) (A := cA rd (53 + 186 * q) k) (cs := fun x => !dcn rd (53 + 186 * q) x (ddM rd (53 + 186 * q) x)) (s3.trans cA1.1) ha (by omega) (fun x hx => csb_ok V hQ hG d x (by omega) (by omega)) k 0 FU (Nat.zero_add _) (by rw [FU4]; omega)
    have eall : allJ (fun x => !(cA rd (53 + 186 * q) k).testBit x || !dcn rd (53 + 186 * q) x (ddM rd (53 + 186 * q) x)) k 0 = decide (cA rd (53 + 186 * q) k &&& ddM rd (53 + 186 * q) k = 0) := by
      have e1 := allJ_iff (p := fun x => !(cA rd (53 + 186 * q) k).testBit x || !dcn rd (53 + 186 * q) x (ddM rd (53 + 186 * q) x)) k 0
      have e2 : (∀ x, 0 ≤ x → x < 0 + k → (!(cA rd (53 + 186 * q) k).testBit x || !dcn rd (53 + 186 * q) x (ddM rd (53 + 186 * q) x)) = true) ↔ cA rd (53 + 186 * q) k &&& ddM rd (53 + 186 * q) k = 0 := by
        constructor
        · intro h
          apply Nat.eq_of_testBit_eq
          intro x
          rw [Nat.testBit_and, dd_bit, Nat.zero_testBit]
          by_cases c : x < k
          · have := h x (Nat.zero_le _) (by omega)
            rw [decide_eq_true c, Bool.true_and]
            revert this
            cases (cA rd (53 + 186 * q) k).testBit x <;> cases dcn rd (53 + 186 * q) x (ddM rd (53 + 186 * q) x) <;> simp
          · rw [decide_eq_false c]; simp
        · intro h x _ hx
          have := congrArg (fun m => m.testBit x) h
          simp only [Nat.testBit_and, dd_bit, Nat.zero_testBit] at this
          rw [decide_eq_true (show x < k by omega), Bool.true_and] at this
          revert this
          cases (cA rd (53 + 186 * q) k).testBit x <;> cases dcn rd (53 + 186 * q) x (ddM rd (53 + 186 * q) x) <;> simp
      rw [e2] at e1
      cases ed : decide (cA rd (53 + 186 * q) k &&& ddM rd (53 + 186 * q) k = 0) with
      | true => exact e1.mpr (of_decide_eq_true ed)
      | false =>
        cases ea : allJ (fun x => !(cA rd (53 + 186 * q) k).testBit x || !dcn rd (53 + 186 * q) x (ddM rd (53 + 186 * q) x)) k 0 with
        | false => rfl
        | true => exact absurd (e1.mp ea) (of_decide_eq_false ed)
    rw [eall] at L1
    show pf_X11_canStillBe_B (pf_X11_canStillBe d) 1000 (nI k) τ = _
    unfold pf_X11_canStillBe_B pf_X11_canStillBe_b37
    rw [hG.1, nI_clamp (by omega), ckI_nI (by omega) (by omega), nI_clamp (by omega), s5, s1, s2, hlim.1, hfl.1]
    have L0' : pf_X11_canStillBe_L41 (pf_X11_canStillBe d) τ FU 1000 (nI k) (1005 + 4 * k) 0 0 = some 0 := L0
    have L1' : pf_X11_canStillBe_L41 (pf_X11_canStillBe d) τ FU 1000 (nI k) (1005 + 4 * k) 1 0 = _ := L1
    rw [L0', L1']
    unfold dcn
    obtain ⟨x, e1, e2, e3⟩ := vs.2.2.2.1.get
    rw [e1]
    rcases (by omega : x = 0 ∨ x = 1) with rfl | rfl
    · rw [if_pos (show nI 0 = (0 : Int32) from rfl), decide_eq_false (show ¬ nI 0 = (1 : Int32) by decide)]
      by_cases c2 : Nn (rd (53 + 186 * q + 6 + 30 * k + 2)) = Nn (rd (53 + 186 * q + 6 + 30 * k + 1))
      · have cb : cB rd (53 + 186 * q) k = true := decide_eq_true c2
        rw [if_pos (nI_le (by omega) (by omega)), cb]; rfl
      · have cb : cB rd (53 + 186 * q) k = false := decide_eq_false c2
        rw [if_neg (nI_ge (by omega) (by omega)), cb]
        by_cases c3 : cA rd (53 + 186 * q) k &&& ddM rd (53 + 186 * q) k = 0
        · rw [decide_eq_true c3, decide_eq_false (fun h => h c3)]; rfl
        · rw [decide_eq_false c3, decide_eq_true c3]; rfl
    · rw [if_neg (show ¬ nI 1 = (0 : Int32) by decide), decide_eq_true (show nI 1 = (1 : Int32) from rfl)]; rfl
theorem nb63 : ∀ m, m < 64 → ∀ i, i < 6 → (63 - m).testBit i = !m.testBit i := by decide +kernel
theorem att_set (V : VQ rd (53 + 186 * q)) (hQ : GQ so le q rd) (hG : GX so le q rd τ) {K : Nat → Int32 → St → Option (Int32 × St)} : ∀ j k f, k + j = nS rd (53 + 186 * q) → j < f → pf_X11_attempt_L220 K f 1000 (nI (msk k (fun s => !dcn rd (53 + 186 * q) s (ddM rd (53 + 186 * q) s)))) (nI k) τ = K 1000 (nI (msk (nS rd (53 + 186 * q)) (fun s => !dcn rd (53 + 186 * q) s (ddM rd (53 + 186 * q) s)))) τ
  | 0, k, f, hk, hf => by
    have hn := V.n
    obtain ⟨f, rfl⟩ : ∃ g, f = g + 1 := ⟨f - 1, by omega⟩
    obtain rfl : k = nS rd (53 + 186 * q) := by omega
    rw [pf_X11_attempt_L220, hG.1, if_pos (Int32.le_refl _)]
  | j + 1, k, f, hk, hf => by
    have hn := V.n
    obtain ⟨f, rfl⟩ : ∃ g, f = g + 1 := ⟨f - 1, by omega⟩
    have ih := att_set V hQ hG (K := K) j (k + 1) f (by omega) (by omega)
    rw [pf_X11_attempt_L220, hG.1, if_neg (nI_ge (by omega) (by omega)), csb_ok V hQ hG 8 k (by omega) (by omega), bind_some, if_b2]
    unfold pf_X11_attempt_b251
    rw [bnd_e, bnd_e, bnd_e, bnd_e, nI_1, ← ih, msk, shl1 k (by omega)]
    cases dcn rd (53 + 186 * q) k (ddM rd (53 + 186 * q) k) with
    | true =>
      show pf_X11_attempt_L220 K f 1000 (nI _ ||| nI 0) (nI (k + 1)) τ = _
      rw [or_nI]; rfl
    | false =>
      show pf_X11_attempt_L220 K f 1000 (nI _ ||| nI (1 <<< k)) (nI (k + 1)) τ = _
      rw [or_nI]; rfl
theorem set_stl (V : VQ rd (53 + 186 * q)) : gl rd (53 + 186 * q) (msk (nS rd (53 + 186 * q)) (fun s => !dcn rd (53 + 186 * q) s (ddM rd (53 + 186 * q) s))) = stl rd (53 + 186 * q) := by
  rw [← stl_eq V]
  congr 1
  have hn := V.n
  apply Nat.eq_of_testBit_eq
  intro i
  rw [msk_bit, Nat.testBit_mod_two_pow]
  by_cases c : i < nS rd (53 + 186 * q)
  · rw [decide_eq_true c, Bool.true_and, Bool.true_and, nb63 _ (dd_64 hn.1) i (by omega), dd_bit, decide_eq_true c, Bool.true_and]
  · rw [decide_eq_false c, Bool.false_and, Bool.false_and]
end
