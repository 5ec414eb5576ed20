/-! THE PURE SIDE: the class reads a step's parts -/
def amT (rv : Nat → Nat) : Nat → Nat → List Nat
  | 0, _ => []
  | j + 1, i => amR rv i ++ amT rv j (i + 1)
theorem amS_T (rv : Nat → Nat) : amS rv 3 = amT rv 3 0 := by
  simp [amS, amT]
theorem nD_32 (s : List Nat) : nD (32 :: s) := nD_c (by decide +kernel)
theorem nL_32 (s : List Nat) : nL (32 :: s) := nL_c (by decide +kernel)
theorem nD_am {rv : Nat → Nat} {s : List Nat} (hs : nD s) : ∀ j i, nD (amT rv j i ++ s)
  | 0, _ => hs
  | j + 1, i => by
    rw [amT]
    unfold amR
    by_cases c : rv i = 0
    · rw [if_pos c, List.nil_append]; exact nD_am hs j (i + 1)
    · rw [if_neg c]; exact nD_32 _
theorem am_cons {rv : Nat → Nat} {i : Nat} (h : ¬ rv i = 0) (x : List Nat) : amR rv i ++ x = 32 :: (dec i ++ 32 :: (dec (rv i) ++ x)) := by
  unfold amR
  rw [if_neg h]
  simp
theorem kd66' : kd 66 = 3 := by decide +kernel
section
variable {t s : List Nat}
theorem am_loop {p st : Nat} {rv : Nat → Nat} (he : alen p = 48) (hp : p < 595) (hst : st < 6) (hrv : ∀ i, rv i ≤ 99) (hnd : nD s) {i0 : Nat} {s' : List Nat} (hs : Tok t s i0 s') (hi0 : i0 ≠ 0) : ∀ (j i : Nat), i + j = 3 → ∀ (f c : Nat) (σ : St), RP t σ (amT rv j i ++ s) → j + 1 < f → c + j ≤ 700 → (0 < c ∨ amT rv j i ≠ []) → (∀ x, i ≤ x → x < 3 → gI σ p (st * 8 + x) = 0) → ∃ σ', pf_X4_readAmounts_L2 f 594 p (nI st) (nI c) σ = some σ' ∧ RP t σ' s ∧ Un (fun q => q = 595 ∨ q = p) σ σ' ∧ ∀ x, gI σ' p x = if st * 8 + i ≤ x ∧ x < st * 8 + 3 then nI (rv (x - st * 8)) else gI σ p x := by
  intro j
  induction j with
  | zero =>
    intro i hi f c σ hR hf hc h0 hz
    obtain ⟨f, rfl⟩ : ∃ g, f = g + 1 := ⟨f - 1, by omega⟩
    have hc0 : 0 < c := by
      rcases h0 with h0 | h0
      · exact h0
      · exact absurd rfl h0
    have hR' : RP t σ s := hR
    refine ⟨σ, ?_, hR', Un.refl _ _, fun x => (if_neg (by omega)).symm⟩
    rw [pf_X4_readAmounts_L2, if_neg (show ¬ (800 : Int32) ≤ nI c from nI_ge (b := 800) (by omega) (by omega)), if_neg (nI_ne0 hc0 (by omega)), show pf_X6_ahead (594 + 1) σ = _ from rp_ahead hR' hs, bind_some, if_neg (fun e => hi0 (Option.some.inj e))]
  | succ j ih =>
    intro i hi f c σ hR hf hc h0 hz
    by_cases c0 : rv i = 0
    · have e : amT rv (j + 1) i = amT rv j (i + 1) := by
        rw [amT]
        unfold amR
        rw [if_pos c0]; rfl
      rw [e] at hR h0
      obtain ⟨σ', e1, e2, e3, e4⟩ := ih (i + 1) (by omega) f c σ hR (by omega) (by omega) h0 (fun x a1 a2 => hz x (by omega) a2)
      refine ⟨σ', e1, e2, e3, fun x => ?_⟩
      rw [e4 x]
      by_cases c1 : x = st * 8 + i
      · subst c1
        rw [if_neg (by omega), if_pos (by omega), hz i (Nat.le_refl _) (by omega), Nat.add_sub_cancel_left, c0]; rfl
      · by_cases c2 : st * 8 + (i + 1) ≤ x ∧ x < st * 8 + 3
        · rw [if_pos c2, if_pos (by omega)]
        · rw [if_neg c2, if_neg (by omega)]
    · obtain ⟨f, rfl⟩ : ∃ g, f = g + 1 := ⟨f - 1, by omega⟩
      rw [amT, List.append_assoc, am_cons c0] at hR
      have T1 : Tnm t (32 :: (dec i ++ 32 :: (dec (rv i) ++ (amT rv j (i + 1) ++ s)))) i (32 :: (dec (rv i) ++ (amT rv j (i + 1) ++ s))) := (tnm_dec (by omega) (nD_32 _)).sp
      have hrvi := hrv i
      have T2 : Tnm t (32 :: (dec (rv i) ++ (amT rv j (i + 1) ++ s))) (rv i) (amT rv j (i + 1) ++ s) := (tnm_dec (by omega) (nD_am hnd j (i + 1))).sp
      obtain ⟨r0, hr0⟩ := rp_start hR
      obtain ⟨v1, g1, R1⟩ := rp_number hR T1 (lo := 0) (hi := 7) (Nat.zero_le _) (by omega) (by omega)
      obtain ⟨v2, g2, R2⟩ := rp_number R1 T2 (lo := 1) (hi := 99) (by omega) (hrv i) (by omega)
      have hz0 : gI (sI σ 595 4 v1) p (st * 8 + i) = 0 := by rw [gI_ne _ _ _ _ (by omega)]; exact hz i (Nat.le_refl _) (by omega)
      have R3 : RP t (sI (sI (sI σ 595 4 v1) 595 4 v2) p (st * 8 + i) (nI (rv i))) (amT rv j (i + 1) ++ s) := R2.w _ _ (Or.inl hp)
      obtain ⟨σ', e1, e2, e3, e4⟩ := ih (i + 1) (by omega) f (c + 1) _ R3 (by omega) (by omega) (Or.inl (by omega)) (fun x a1 a2 => by
        rw [gI_ns _ _ _ (by omega), gI_ne _ _ _ _ (by omega), gI_ne _ _ _ _ (by omega)]; exact hz x (by omega) a2)
      have hb : pf_X4_readAmounts_b26 (pf_X4_readAmounts_L2 f) 594 p (nI st) (nI c) σ = some σ' := by
        unfold pf_X4_readAmounts_b26
        rw [show pf_X6_start (594 + 1) σ = _ from hr0, bind_some, show pf_X6_number (594 + 1) 0 7 σ = _ from g1, bnd2_some, show (8 : Int32) = nI 8 from rfl, pk_mul, nI_add, bnd_e, at_ok he (by omega), bind_some, hz0, if_pos (Int32.le_refl _)]
        unfold pf_X4_readAmounts_b72
        rw [show pf_X6_number (594 + 1) 1 99 (sI σ 595 4 v1) = _ from g2, bnd2_some, put_ok he (by omega), bind_some, bnd_e, nI_1]
        exact e1
      refine ⟨σ', ?_, e2, (Un.sI _ _ (Or.inl rfl)).trans ((Un.sI _ _ (Or.inl rfl)).trans ((Un.sI _ _ (Or.inr rfl)).trans e3)), fun x => ?_⟩
      · rw [pf_X4_readAmounts_L2, if_neg (show ¬ (800 : Int32) ≤ nI c from nI_ge (b := 800) (by omega) (by omega))]
        by_cases cc : c = 0
        · rw [if_pos (by rw [cc]; rfl)]; exact hb
        · rw [if_neg (nI_ne0 (by omega) (by omega)), show pf_X6_ahead (594 + 1) σ = _ from rp_ahead hR T1.tok, bind_some, if_pos rfl]; exact hb
      · rw [e4 x]
        by_cases c1 : x = st * 8 + i
        · subst c1
          rw [if_neg (by omega), if_pos (by omega), gI_at, Nat.add_sub_cancel_left]
        · rw [gI_ns _ _ _ c1, gI_ne _ _ _ _ (by omega), gI_ne _ _ _ _ (by omega)]
          by_cases c2 : st * 8 + (i + 1) ≤ x ∧ x < st * 8 + 3
          · rw [if_pos c2, if_pos (by omega)]
          · rw [if_neg c2, if_neg (by omega)]
/-- the words of the three kinds -/
theorem wd_am : ∀ kk, kk < 3 → cT (36 + kk) = cT (tkS.getD (11 + kk) 0) := by decide +kernel
theorem am_none {rv : Nat → Nat} (h : (amS rv 3).length = 0) : ∀ i, i < 3 → rv i = 0 := by
  intro i hi
  cases e : rv i with
  | zero => rfl
  | succ n =>
    exfalso
    have hl : ∀ k, rv k ≠ 0 → 0 < (amR rv k).length := fun k hk => by
      unfold amR
      rw [if_neg hk]; simp
    have h3 := hl i (by rw [e]; omega)
    simp only [amS, List.length_append, List.length_nil] at h
    rcases (by omega : i = 0 ∨ i = 1 ∨ i = 2) with rfl | rfl | rfl <;> omega
/-- a part of amounts, if it stands there -/
theorem part_am {K : Nat → Nat → St → Option St} {kk st : Nat} {rv : Nat → Nat} (hk : kk < 3) (hst : st < 6) (hrv : ∀ i, rv i ≤ 99) (hnd : nD s) {i0 : Nat} {s' : List Nat} (hs : Tok t s i0 s') (hi0 : i0 ≠ 0) {f c : Nat} {σ : St} (hR : RP t σ (amW (cT (36 + kk)) rv ++ s)) (hf : f + c = 1000000) (hc : c ≤ 100) (hz : ∀ x, x < 3 → gI σ (66 + 6 + kk) (st * 8 + x) = 0) : ∃ σ' f' c', pf_X4_readStep_L76 K f 594 66 (nI st) (nI c) σ = pf_X4_readStep_L76 K f' 594 66 (nI st) (nI c') σ' ∧ f' + c' = 1000000 ∧ c' ≤ c + 1 ∧ RP t σ' s ∧ Un (fun q => q = 595 ∨ q = 66 + 6 + kk) σ σ' ∧ ∀ x, gI σ' (66 + 6 + kk) x = if st * 8 ≤ x ∧ x < st * 8 + 3 then nI (rv (x - st * 8)) else gI σ (66 + 6 + kk) x := by
  unfold amW at hR
  by_cases c0 : (amS rv 3).length = 0
  · rw [if_pos c0] at hR
    refine ⟨σ, f, c, rfl, hf, by omega, hR, Un.refl _ _, fun x => ?_⟩
    by_cases c1 : st * 8 ≤ x ∧ x < st * 8 + 3
    · rw [if_pos c1, am_none c0 _ (by omega)]
      have := hz (x - st * 8) (by omega)
      rw [show st * 8 + (x - st * 8) = x by omega] at this
      exact this
    · rw [if_neg c1]
  · rw [if_neg c0, wd_am kk hk, amS_T] at hR
    have hT : Tok t (32 :: (cT (tkS.getD (11 + kk) 0) ++ (amT rv 3 0 ++ s))) (11 + kk) (amT rv 3 0 ++ s) := (tok_word (by omega) (by omega) (by
      have : ∀ j i, amT rv j i ≠ [] → nL (amT rv j i ++ s) := by
        intro j
        induction j with
        | zero => intro i h; exact absurd rfl h
        | succ j ih =>
          intro i h
          rw [amT] at h ⊢
          unfold amR at h ⊢
          by_cases c : rv i = 0
          · rw [if_pos c, List.nil_append] at h ⊢; exact ih _ h
          · rw [if_neg c]; exact nL_32 _
      refine this 3 0 (fun q => c0 ?_)
      rw [amS_T, q]; rfl)).sp
    have hR' : RP t σ (32 :: (cT (tkS.getD (11 + kk) 0) ++ (amT rv 3 0 ++ s))) := by
      simpa using hR
    obtain ⟨f, rfl⟩ : ∃ g, f = g + 1 := ⟨f - 1, by omega⟩
    obtain ⟨r0, hr0⟩ := rp_start hR'
    obtain ⟨v1, g1, R1⟩ := rp_take hR' hT (by omega)
    have he : alen (66 + 6 + kk) = 48 := al_am (q := 0) (by omega) hk
    obtain ⟨σ', e1, e2, e3, e4⟩ := am_loop he (by omega) hst hrv hnd hs hi0 3 0 rfl FU 0 _ R1 (by rw [FU4]; omega) (by omega) (Or.inr (fun q => c0 (by rw [amS_T, q]; rfl))) (fun x _ a2 => by rw [gI_ne _ _ _ _ (by omega)]; exact hz x a2)
    have hp : pf_X4_readPart 594 66 (nI st) σ = some σ' := by
      unfold pf_X4_readPart
      rw [show pf_X6_start (594 + 1) σ = _ from hr0, bind_some]
      have e1' : pf_X4_readAmounts 594 (66 + 6 + kk) (nI st) (sI σ 595 4 v1) = some σ' := e1
      rcases (by omega : kk = 0 ∨ kk = 1 ∨ kk = 2) with rfl | rfl | rfl
      · rw [show pf_X6_take (594 + 1) (some 11) σ = _ from g1, bnd2_some, i10, show pf_X4_readAmounts 594 (66 + 6) (nI st) (sI σ 595 4 v1) = _ from e1', bind_some]
      · rw [show pf_X6_take (594 + 1) (some 11) σ = _ from rp_no hR' hT (by omega), bnd2_some, i00, show pf_X6_take (594 + 1) (some 12) σ = _ from g1, bnd2_some, i10, show pf_X4_readAmounts 594 (66 + 7) (nI st) (sI σ 595 4 v1) = _ from e1', bind_some]
      · rw [show pf_X6_take (594 + 1) (some 11) σ = _ from rp_no hR' hT (by omega), bnd2_some, i00, show pf_X6_take (594 + 1) (some 12) σ = _ from rp_no hR' hT (by omega), bnd2_some, i00, show pf_X6_take (594 + 1) (some 13) σ = _ from g1, bnd2_some, i10, show pf_X4_readAmounts 594 (66 + 8) (nI st) (sI σ 595 4 v1) = _ from e1', bind_some]
    refine ⟨σ', f, c + 1, ?_, by omega, Nat.le_refl _, e2, (Un.sI _ _ (Or.inl rfl)).trans e3, fun x => ?_⟩
    · rw [pf_X4_readStep_L76, if_neg (show ¬ (800 : Int32) ≤ nI c from nI_ge (b := 800) (by omega) (by omega)), show pf_X6_ahead (594 + 1) σ = _ from rp_ahead hR' hT, bind_some, ckT_some (by omega), beg_ok, bind_some, if_pos (show 11 ≤ 11 + kk ∧ 11 + kk ≤ 15 by omega), i10, hp, bind_some, bnd_e, nI_1]
    · rw [e4 x, gI_ne _ _ _ _ (by omega)]
      rfl
/-! the steps ahead -/
def afT (m : Nat) : Nat → Nat → List Nat
  | 0, _ => []
  | j + 1, a => (if m.testBit a then 32 :: dec a else []) ++ afT m j (a + 1)
theorem nD_af {m : Nat} (hs : nD s) : ∀ j i, nD (afT m j i ++ s)
  | 0, _ => hs
  | j + 1, i => by
    rw [afT]
    by_cases c : m.testBit i = true
    · rw [if_pos c]; exact nD_32 _
    · rw [if_neg c, List.nil_append]; exact nD_af hs j (i + 1)
theorem af_loop {st m : Nat} (hst : st < 6) (hm : m < 64) (hnd : nD s) {i0 : Nat} {s' : List Nat} (hs : Tok t s i0 s') (hi0 : i0 ≠ 0) : ∀ (j i : Nat), i + j = st → ∀ (f c : Nat) (σ : St), RP t σ (afT m j i ++ s) → j + 1 < f → c + j ≤ 700 → (0 < c ∨ afT m j i ≠ []) → gI σ (66 + 4) st = nI (msk i m.testBit) → ∃ σ', pf_X4_readAhead_L2 f 594 (66 + 4) (nI st) (nI c) σ = some σ' ∧ RP t σ' s ∧ Un (fun q => q = 595 ∨ q = 66 + 4) σ σ' ∧ gI σ' (66 + 4) st = nI (msk st m.testBit) ∧ ∀ x, x ≠ st → gI σ' (66 + 4) x = gI σ (66 + 4) x := by
  have he : alen (66 + 4) = 6 := af_X3_ahead kd66'
  intro j
  induction j with
  | zero =>
    intro i hi f c σ hR hf hc h0 hz
    obtain ⟨f, rfl⟩ : ∃ g, f = g + 1 := ⟨f - 1, by omega⟩
    have hc0 : 0 < c := by
      rcases h0 with h0 | h0
      · exact h0
      · exact absurd rfl h0
    have hR' : RP t σ s := hR
    obtain rfl : i = st := by omega
    refine ⟨σ, ?_, hR', Un.refl _ _, hz, fun x _ => rfl⟩
    rw [pf_X4_readAhead_L2, if_neg (show ¬ (800 : Int32) ≤ nI c from nI_ge (b := 800) (by omega) (by omega)), if_neg (nI_ne0 hc0 (by omega)), show pf_X6_ahead (594 + 1) σ = _ from rp_ahead hR' hs, bind_some, if_neg (fun e => hi0 (Option.some.inj e))]
  | succ j ih =>
    intro i hi f c σ hR hf hc h0 hz
    by_cases c0 : m.testBit i = true
    · obtain ⟨f, rfl⟩ : ∃ g, f = g + 1 := ⟨f - 1, by omega⟩
      have hR' : RP t σ (32 :: (dec i ++ (afT m j (i + 1) ++ s))) := by
        rw [afT, if_pos c0] at hR
        simpa using hR
      have T1 : Tnm t (32 :: (dec i ++ (afT m j (i + 1) ++ s))) i (afT m j (i + 1) ++ s) := (tnm_dec (by omega) (nD_af hnd j (i + 1))).sp
      obtain ⟨r0, hr0⟩ := rp_start hR'
      obtain ⟨v1, g1, R1⟩ := rp_number hR' T1 (lo := 0) (hi := st - 1) (Nat.zero_le _) (by omega) (by omega)
      have hz1 : gI (sI σ 595 4 v1) (66 + 4) st = nI (msk i m.testBit) := by rw [gI_ne _ _ _ _ (by omega)]; exact hz
      have h64 : msk i m.testBit < 64 := msk_64 _ (by omega)
      have hmb : (msk i m.testBit).testBit i = false := by rw [msk_bit]; simp
      have hms : msk i m.testBit ||| 1 <<< i = msk (i + 1) m.testBit := by rw [msk, if_pos c0]
      obtain ⟨σ', e1, e2, e3, e4, e5⟩ := ih (i + 1) (by omega) f (c + 1) (sI (sI σ 595 4 v1) (66 + 4) st (nI (msk (i + 1) m.testBit))) (R1.w _ _ (by omega)) (by omega) (by omega) (Or.inl (by omega)) (gI_at _ _ _ _)
      have hb : pf_X4_readAhead_b26 (pf_X4_readAhead_L2 f) 594 (66 + 4) (nI st) (nI c) σ = some σ' := by
        unfold pf_X4_readAhead_b26
        rw [show pf_X6_start (594 + 1) σ = _ from hr0, bind_some, show (1 : Int32) = nI 1 from rfl, pk_sub (by omega), show pf_X6_number (594 + 1) 0 (nI (st - 1)) σ = _ from g1, bnd2_some, at_ok he hst, bind_some, hz1, show (iushr (nI (msk i m.testBit)) (nI i) &&& nI 1) = (iushr (nI (msk i m.testBit)) (nI i) &&& 1) from rfl, if_u (by omega) (by omega), hmb, if_neg Bool.false_ne_true]
        unfold pf_X4_readAhead_b72
        rw [at_ok he hst, bind_some, hz1, shl1 i (by omega), or_nI, hms, put_ok he hst, bind_some, bnd_e, nI_1]
        exact e1
      refine ⟨σ', ?_, e2, (Un.sI _ _ (Or.inl rfl)).trans ((Un.sI _ _ (Or.inr rfl)).trans e3), e4, fun x hx => ?_⟩
      · rw [pf_X4_readAhead_L2, if_neg (show ¬ (800 : Int32) ≤ nI c from nI_ge (b := 800) (by omega) (by omega))]
        by_cases cc : c = 0
        · rw [if_pos (by rw [cc]; rfl)]; exact hb
        · rw [if_neg (nI_ne0 (by omega) (by omega)), show pf_X6_ahead (594 + 1) σ = _ from rp_ahead hR' T1.tok, bind_some, if_pos rfl]; exact hb
      · rw [e5 x hx, gI_ns _ _ _ hx, gI_ne _ _ _ _ (by omega)]
    · have e : afT m (j + 1) i = afT m j (i + 1) := by
        rw [afT, if_neg c0]; rfl
      rw [e] at hR h0
      have hms : msk i m.testBit = msk (i + 1) m.testBit := by rw [msk, if_neg c0, Nat.or_zero]
      rw [hms] at hz
      exact ih (i + 1) (by omega) f c σ hR (by omega) (by omega) h0 hz
def afW (m k : Nat) : List Nat := if m = 0 then [] else cT 39 ++ afT m k 0
theorem msk_self {m k : Nat} (h : m < 2 ^ k) : msk k m.testBit = m := by
  apply Nat.eq_of_testBit_eq
  intro i
  rw [msk_bit]
  by_cases c : i < k
  · rw [decide_eq_true c, Bool.true_and]
  · rw [decide_eq_false c, Bool.false_and, Nat.testBit_lt_two_pow (Nat.lt_of_lt_of_le h (Nat.pow_le_pow_right (by omega) (by omega)))]
theorem cT39 : cT 39 = 32 :: cT (tkS.getD 14 0) := by decide +kernel
theorem af_some {m : Nat} : ∀ j i, afT m j i = [] → ∀ x, i ≤ x → x < i + j → m.testBit x = false
  | 0, i, _, x, h1, h2 => by omega
  | j + 1, i, h, x, h1, h2 => by
    rw [afT] at h
    have h3 := List.append_eq_nil_iff.mp h
    by_cases c : x = i
    · subst c
      cases e : m.testBit x with
      | false => rfl
      | true =>
        rw [e, if_pos rfl] at h3
        exact absurd h3.1 (by simp)
    · exact af_some j (i + 1) h3.2 x (by omega) (by omega)
theorem part_af {K : Nat → Nat → St → Option St} {st m : Nat} (hst : st < 6) (hm : m < 2 ^ st) (hnd : nD s) {i0 : Nat} {s' : List Nat} (hs : Tok t s i0 s') (hi0 : i0 ≠ 0) {f c : Nat} {σ : St} (hR : RP t σ (afW m st ++ s)) (hf : f + c = 1000000) (hc : c ≤ 100) (hz : gI σ (66 + 4) st = 0) : ∃ σ' f' c', pf_X4_readStep_L76 K f 594 66 (nI st) (nI c) σ = pf_X4_readStep_L76 K f' 594 66 (nI st) (nI c') σ' ∧ f' + c' = 1000000 ∧ c' ≤ c + 1 ∧ RP t σ' s ∧ Un (fun q => q = 595 ∨ q = 66 + 4) σ σ' ∧ gI σ' (66 + 4) st = nI m ∧ ∀ x, x ≠ st → gI σ' (66 + 4) x = gI σ (66 + 4) x := by
  have hm64 : m < 64 := Nat.lt_of_lt_of_le hm (by
    have := Nat.pow_le_pow_right (n := 2) (by omega) (show st ≤ 6 by omega)
    omega)
  unfold afW at hR
  by_cases c0 : m = 0
  · rw [if_pos c0] at hR
    exact ⟨σ, f, c, rfl, hf, by omega, hR, Un.refl _ _, by rw [hz, c0]; rfl, fun _ _ => rfl⟩
  · rw [if_neg c0, cT39] at hR
    have hne : afT m st 0 ≠ [] := fun q => c0 (by
      have := af_some st 0 q
      rw [← msk_self hm]
      apply Nat.eq_of_testBit_eq
      intro i
      rw [msk_bit, Nat.zero_testBit]
      by_cases c : i < st
      · rw [this i (Nat.zero_le _) (by omega)]; simp
      · rw [decide_eq_false c]; rfl)
    have hT : Tok t (32 :: (cT (tkS.getD 14 0) ++ (afT m st 0 ++ s))) 14 (afT m st 0 ++ s) := (tok_word (by omega) (by omega) (by
      have : ∀ j i, afT m j i ≠ [] → nL (afT m j i ++ s) := by
        intro j
        induction j with
        | zero => intro i h; exact absurd rfl h
        | succ j ih =>
          intro i h
          rw [afT] at h ⊢
          by_cases c : m.testBit i = true
          · rw [if_pos c]; exact nL_32 _
          · rw [if_neg c, List.nil_append] at h ⊢; exact ih _ h
      exact this st 0 hne)).sp
    have hR' : RP t σ (32 :: (cT (tkS.getD 14 0) ++ (afT m st 0 ++ s))) := by
      simpa using hR
    obtain ⟨f, rfl⟩ : ∃ g, f = g + 1 := ⟨f - 1, by omega⟩
    obtain ⟨r0, hr0⟩ := rp_start hR'
    obtain ⟨v1, g1, R1⟩ := rp_take hR' hT (by omega)
    obtain ⟨σ', e1, e2, e3, e4, e5⟩ := af_loop hst hm64 hnd hs hi0 st 0 (Nat.zero_add _) FU 0 _ R1 (by rw [FU4]; omega) (by omega) (Or.inr hne) (by rw [gI_ne _ _ _ _ (by omega)]; exact hz)
    have hp : pf_X4_readPart 594 66 (nI st) σ = some σ' := by
      unfold pf_X4_readPart
      rw [show pf_X6_start (594 + 1) σ = _ from hr0, bind_some, show pf_X6_take (594 + 1) (some 11) σ = _ from rp_no hR' hT (by omega), bnd2_some, i00, show pf_X6_take (594 + 1) (some 12) σ = _ from rp_no hR' hT (by omega), bnd2_some, i00, show pf_X6_take (594 + 1) (some 13) σ = _ from rp_no hR' hT (by omega), bnd2_some, i00, show pf_X6_take (594 + 1) (some 14) σ = _ from g1, bnd2_some, i10, show pf_X4_readAhead 594 (66 + 4) (nI st) (sI σ 595 4 v1) = _ from e1, bind_some]
    refine ⟨σ', f, c + 1, ?_, by omega, Nat.le_refl _, e2, (Un.sI _ _ (Or.inl rfl)).trans e3, by rw [e4, msk_self hm], fun x hx => by rw [e5 x hx, gI_ne _ _ _ _ (by omega)]⟩
    rw [pf_X4_readStep_L76, if_neg (show ¬ (800 : Int32) ≤ nI c from nI_ge (b := 800) (by omega) (by omega)), show pf_X6_ahead (594 + 1) σ = _ from rp_ahead hR' hT, bind_some, ckT_some (by omega), beg_ok, bind_some, if_pos (show 11 ≤ 14 ∧ 14 ≤ 15 by omega), i10, hp, bind_some, bnd_e, nI_1]
/-- the step's end: costly or not -/
theorem cT40 : cT 40 = 32 :: (cT (tkS.getD 15 0) ++ [59]) ∧ cT 41 = [59] := by decide +kernel
theorem tok59 : Tok t (59 :: s) 24 s := tok_sgn (by omega) (by omega) (by decide +kernel) (by decide +kernel)
theorem nL_59 (s : List Nat) : nL (59 :: s) := nL_c (by decide +kernel)
theorem nD_59 (s : List Nat) : nD (59 :: s) := nD_c (by decide +kernel)
def coW (b : Bool) : List Nat := if b then cT 40 else cT 41
theorem part_co {st : Nat} {b : Bool} (hst : st < 6) {f c : Nat} {σ : St} (hR : RP t σ (coW b ++ s)) (hf : f + c = 1000000) (hc : c ≤ 100) (hz : gI σ (66 + 5) st = 0) : ∃ σ', pf_X4_readStep_L76 pf_X4_readStep_b108 f 594 66 (nI st) (nI c) σ = some σ' ∧ RP t σ' s ∧ Un (fun q => q = 595 ∨ q = 66 ∨ q = 66 + 5) σ σ' ∧ gI σ' 66 0 = gI σ 66 0 + 1 ∧ (∀ x, x ≠ 0 → gI σ' 66 x = gI σ 66 x) ∧ gI σ' (66 + 5) st = (if b then 1 else 0) ∧ ∀ x, x ≠ st → gI σ' (66 + 5) x = gI σ (66 + 5) x := by
  have he : alen (66 + 5) = 6 := af_X3_costly kd66'
  have fin : ∀ (f c : Nat) (σ : St), 0 < f → c ≤ 700 → RP t σ (59 :: s) → ∃ v, pf_X4_readStep_L76 pf_X4_readStep_b108 f 594 66 (nI st) (nI c) σ = some (sI (sI σ 595 4 v) 66 0 (gI σ 66 0 + 1)) ∧ RP t (sI (sI σ 595 4 v) 66 0 (gI σ 66 0 + 1)) s := fun f c σ hf hc hR => by
    obtain ⟨f, rfl⟩ : ∃ g, f = g + 1 := ⟨f - 1, by omega⟩
    obtain ⟨v, g1, R1⟩ := rp_expect hR tok59 (by omega)
    refine ⟨v, ?_, R1.w _ _ (by omega)⟩
    rw [pf_X4_readStep_L76, if_neg (show ¬ (800 : Int32) ≤ nI c from nI_ge (b := 800) (by omega) (by omega)), show pf_X6_ahead (594 + 1) σ = _ from rp_ahead hR tok59, bind_some, ckT_some (by omega), beg_ok, bind_some, if_neg (show ¬ (11 ≤ 24 ∧ 24 ≤ 15) by omega), i00]
    unfold pf_X4_readStep_b108
    rw [show pf_X6_expect (594 + 1) (some 24) σ = _ from g1, bind_some, bnd_e, gI_ne _ _ _ _ (by omega)]
  unfold coW at hR
  cases b with
  | false =>
    rw [if_neg Bool.false_ne_true, cT40.2] at hR
    obtain ⟨v, g1, R1⟩ := fin f c σ (by omega) (by omega) hR
    refine ⟨_, g1, R1, (Un.sI _ _ (Or.inl rfl)).trans (Un.sI _ _ (Or.inr (Or.inl rfl))), gI_at _ _ _ _, fun x hx => by rw [gI_ns _ _ _ hx, gI_ne _ _ _ _ (by omega)], ?_, fun x _ => by rw [gI_ne _ _ _ _ (by omega), gI_ne _ _ _ _ (by omega)]⟩
    rw [gI_ne _ _ _ _ (by omega), gI_ne _ _ _ _ (by omega), hz]; rfl
  | true =>
    rw [if_pos rfl, cT40.1] at hR
    have hR' : RP t σ (32 :: (cT (tkS.getD 15 0) ++ 59 :: s)) := by simpa using hR
    have hT : Tok t (32 :: (cT (tkS.getD 15 0) ++ 59 :: s)) 15 (59 :: s) := (tok_word (by omega) (by omega) (nL_59 _)).sp
    obtain ⟨f, rfl⟩ : ∃ g, f = g + 1 := ⟨f - 1, by omega⟩
    obtain ⟨r0, hr0⟩ := rp_start hR'
    obtain ⟨v1, g1, R1⟩ := rp_expect hR' hT (by omega)
    have hz1 : gI (sI σ 595 4 v1) (66 + 5) st = 0 := by rw [gI_ne _ _ _ _ (by omega)]; exact hz
    have hp : pf_X4_readPart 594 66 (nI st) σ = some (sI (sI σ 595 4 v1) (66 + 5) st 1) := by
      unfold pf_X4_readPart
      rw [show pf_X6_start (594 + 1) σ = _ from hr0, bind_some, show pf_X6_take (594 + 1) (some 11) σ = _ from rp_no hR' hT (by omega), bnd2_some, i00, show pf_X6_take (594 + 1) (some 12) σ = _ from rp_no hR' hT (by omega), bnd2_some, i00, show pf_X6_take (594 + 1) (some 13) σ = _ from rp_no hR' hT (by omega), bnd2_some, i00, show pf_X6_take (594 + 1) (some 14) σ = _ from rp_no hR' hT (by omega), bnd2_some, i00, show pf_X6_expect (594 + 1) (some 15) σ = _ from g1, bind_some, at_ok he hst, bind_some, hz1, if_neg (by decide)]
      unfold pf_X4_readPart_b140
      rw [put_ok he hst, bind_some]
    obtain ⟨v, g2, R2⟩ := fin f (c + 1) (sI (sI σ 595 4 v1) (66 + 5) st 1) (by omega) (by omega) (R1.w _ _ (by omega))
    refine ⟨_, ?_, R2, (Un.sI _ _ (Or.inl rfl)).trans ((Un.sI _ _ (Or.inr (Or.inr rfl))).trans ((Un.sI _ _ (Or.inl rfl)).trans (Un.sI _ _ (Or.inr (Or.inl rfl))))), ?_, fun x hx => ?_, ?_, fun x hx => ?_⟩
    · rw [pf_X4_readStep_L76, if_neg (show ¬ (800 : Int32) ≤ nI c from nI_ge (b := 800) (by omega) (by omega)), show pf_X6_ahead (594 + 1) σ = _ from rp_ahead hR' hT, bind_some, ckT_some (by omega), beg_ok, bind_some, if_pos (show 11 ≤ 15 ∧ 15 ≤ 15 by omega), i10, hp, bind_some, bnd_e, nI_1]
      exact g2
    · rw [gI_at, gI_ne _ _ _ _ (by omega), gI_ne _ _ _ _ (by omega)]
    · rw [gI_ns _ _ _ hx, gI_ne _ _ _ _ (by omega), gI_ne _ _ _ _ (by omega), gI_ne _ _ _ _ (by omega)]
    · rw [gI_ne _ _ _ _ (by omega), gI_ne _ _ _ _ (by omega), gI_at, if_pos rfl]
    · rw [gI_ne _ _ _ _ (by omega), gI_ne _ _ _ _ (by omega), gI_ns _ _ _ hx, gI_ne _ _ _ _ (by omega)]
end
