/-! THE PURE SIDE: the class reads the law's text -/
def skT (f : Nat → Nat) : Nat → Nat → List Nat
  | 0, _ => []
  | j + 1, i => 32 :: (dec i ++ 32 :: (dec (f i) ++ skT f j (i + 1)))
/-- the quest's words -/
def quW (D : GD) (so le n : Nat) : List Nat := cT (tkS.getD 8 0) ++ 32 :: (dec 1 ++ 32 :: (dec 7 ++ 59 :: (stR D n 0 ++ (cT 42 ++ (gW2 so le n ++ [59])))))
def lwW (D : GD) (sd so le n : Nat) (sk : Nat → Nat) : List Nat := cT (tkS.getD 4 0) ++ 59 :: (cT (tkS.getD 6 0) ++ 32 :: (dec sd ++ 59 :: (cT (tkS.getD 5 0) ++ (skT sk 3 0 ++ 59 :: quW D so le n))))
theorem mk8 : ∀ i, i < 8 → (2 ^ i - 1).testBit i = false ∧ (2 ^ i - 1) ||| (1 <<< i) = 2 ^ (i + 1) - 1 ∧ 2 ^ i - 1 < 256 := by decide +kernel
section
variable {t s : List Nat} {D : GD}
theorem nD_sk {f : Nat → Nat} : ∀ j i, nD (skT f j i ++ 59 :: s)
  | 0, _ => nD_59 _
  | _ + 1, _ => nD_32 _
theorem stk_loop {f : Nat → Nat} (hf : ∀ i, f i ≤ 999) : ∀ (j i fu : Nat) (σ : St), i + j = 3 → RP t σ (skT f j i ++ 59 :: s) → fu + i = 1000000 → (0 < i ∨ 0 < j) → gI σ 594 3 = nI (2 ^ i - 1) → ∃ σ', pf_X4_readStock_L9 pf_X4_readStock_b114 fu 594 61 (nI i) σ = some σ' ∧ RP t σ' s ∧ Un (fun q => q = 594 ∨ q = 595 ∨ q = 62) σ σ' ∧ (∀ k, k ≠ 3 → gI σ' 594 k = gI σ 594 k) ∧ ∀ x, gI σ' 62 x = if i ≤ x ∧ x < 3 then nI (f x) else gI σ 62 x := by
  have he : alen (61 + 1) = 8 := af_X2_stock (by decide +kernel)
  intro j
  induction j with
  | zero =>
    intro i fu σ hi hR hf2 h0 hm
    obtain ⟨fu, rfl⟩ : ∃ g, fu = g + 1 := ⟨fu - 1, by omega⟩
    have hR' : RP t σ (59 :: s) := hR
    obtain ⟨v, g1, R1⟩ := rp_expect hR' tok59 (by omega)
    refine ⟨_, ?_, R1, Un.sI _ _ (Or.inr (Or.inl rfl)), fun k hk => by rw [gI_ne _ _ _ _ (by omega)], fun x => by rw [gI_ne _ _ _ _ (by omega), if_neg (by omega)]⟩
    rw [pf_X4_readStock_L9, if_neg (show ¬ (800 : Int32) ≤ nI i from nI_ge (b := 800) (by omega) (by omega)), if_neg (nI_ne0 (by omega) (by omega)), show pf_X6_ahead (594 + 1) σ = _ from rp_ahead hR' tok59, bind_some, if_neg (by decide)]
    unfold pf_X4_readStock_b114
    rw [show pf_X6_expect (594 + 1) (some 24) σ = _ from g1, bind_some]
  | succ j ih =>
    intro i fu σ hi hR hf2 h0 hm
    obtain ⟨fu, rfl⟩ : ∃ g, fu = g + 1 := ⟨fu - 1, by omega⟩
    have hR' : RP t σ (32 :: (dec i ++ 32 :: (dec (f i) ++ (skT f j (i + 1) ++ 59 :: s)))) := by
      rw [skT] at hR
      simpa using hR
    have hfi := hf i
    obtain ⟨m1, m2, m3⟩ := mk8 i (by omega)
    have T1 : Tnm t (32 :: (dec i ++ 32 :: (dec (f i) ++ (skT f j (i + 1) ++ 59 :: s)))) i _ := (tnm_dec (by omega) (nD_32 _)).sp
    obtain ⟨r0, hr0⟩ := rp_start hR'
    obtain ⟨v1, g1, R1⟩ := rp_number hR' T1 (lo := 0) (hi := 7) (Nat.zero_le _) (by omega) (by omega)
    have R2 := R1.w (p := 594) 3 (nI (2 ^ (i + 1) - 1)) (by omega)
    obtain ⟨v3, g3, R3⟩ := rp_number R2 (tnm_dec (by omega) (nD_sk j (i + 1))).sp (lo := 0) (hi := 999) (Nat.zero_le _) hfi (by omega)
    have R4 := R3.w (p := 61 + 1) i (nI (f i)) (by omega)
    have hm1 : gI (sI σ 595 4 v1) 594 3 = nI (2 ^ i - 1) := by rw [gI_ne _ _ _ _ (by omega)]; exact hm
    obtain ⟨σ', e1, e2, e3, e4, e5⟩ := ih (i + 1) fu _ (by omega) R4 (by omega) (Or.inl (by omega)) (by rw [gI_ne _ _ _ _ (by omega), gI_ne _ _ _ _ (by omega), gI_at])
    have hb : pf_X4_readStock_b33 (pf_X4_readStock_L9 pf_X4_readStock_b114 fu) 594 61 (nI i) σ = some σ' := by
      unfold pf_X4_readStock_b33
      rw [show pf_X6_start (594 + 1) σ = _ from hr0, bind_some, show pf_X6_number (594 + 1) 0 7 σ = _ from g1, bnd2_some, hm1, if_u (by omega) (by omega), m1, if_neg Bool.false_ne_true]
      unfold pf_X4_readStock_b75
      rw [hm1, shl1 i (by omega), or_nI, m2, bnd_e, show pf_X6_number (594 + 1) 0 999 _ = _ from g3, bnd2_some, put_ok he (by omega), bind_some, bnd_e, nI_1]
      exact e1
    refine ⟨σ', ?_, e2, (Un.sI _ _ (Or.inr (Or.inl rfl))).trans ((Un.sI _ _ (Or.inl rfl)).trans ((Un.sI _ _ (Or.inr (Or.inl rfl))).trans ((Un.sI _ _ (Or.inr (Or.inr rfl))).trans e3))), fun k hk => by rw [e4 k hk, gI_ne _ _ _ _ (by omega), gI_ne _ _ _ _ (by omega), gI_ns _ _ _ hk, gI_ne _ _ _ _ (by omega)], fun x => ?_⟩
    · rw [pf_X4_readStock_L9, if_neg (show ¬ (800 : Int32) ≤ nI i from nI_ge (b := 800) (by omega) (by omega))]
      by_cases c : i = 0
      · rw [if_pos (by rw [c]; rfl)]; exact hb
      · rw [if_neg (nI_ne0 (by omega) (by omega)), show pf_X6_ahead (594 + 1) σ = _ from rp_ahead hR' T1.tok, bind_some, if_pos rfl]; exact hb
    · rw [e5 x]
      by_cases c : x = i
      · subst c
        rw [if_neg (by omega), if_pos (by omega)]
        exact gI_at _ _ _ _
      · have : gI (sI (sI (sI (sI σ 595 4 v1) 594 3 (nI (2 ^ (i + 1) - 1))) 595 4 v3) (61 + 1) i (nI (f i))) 62 x = gI σ 62 x := by
          rw [show (62 : Nat) = 61 + 1 from rfl, gI_ns _ _ _ c, gI_ne _ _ _ _ (by omega), gI_ne _ _ _ _ (by omega), gI_ne _ _ _ _ (by omega)]
        rw [this]
        by_cases c2 : i + 1 ≤ x ∧ x < 3
        · rw [if_pos c2, if_pos (by omega)]
        · rw [if_neg c2, if_neg (by omega)]
theorem quest_ok {so le n : Nat} (hD : D.ok) (hso : so < 3) (hle : 1 ≤ le ∧ le ≤ n) (hn : 3 ≤ n ∧ n ≤ 6) {σ : St} (hR : RP t σ (quW D so le n)) (h5 : gI σ 61 5 = 0) : ∃ σ', pf_X4_readQuest 594 61 σ = some σ' ∧ RP t σ' [] ∧ Un (fun q => q = 595 ∨ q = 600 ∨ q = 61 ∨ (66 ≤ q ∧ q < 75)) σ σ' ∧ gI σ' 61 5 = 1 ∧ (∀ k, k ≠ 5 → gI σ' 61 k = gI σ 61 k) ∧ DQ D n σ' ∧ ∀ u, u < 64 → gbit (gL σ' 66 5) u = gcl so le n u := by
  have al63 : alen (61 + 3) = 6 := af_X2_quests (by decide +kernel)
  obtain ⟨σ1, e1, u1, c0, c1, c2, c3⟩ := clearQ (a := 66) σ
  have R1 : RP t σ1 (quW D so le n) := hR.un u1 ⟨by omega, by omega, by omega, by omega⟩
  unfold quW at R1
  obtain ⟨v2, g2, R2⟩ := rp_skip R1 (tok_word (by omega) (by omega) (nL_32 _)) (by omega)
  obtain ⟨v3, g3, R3⟩ := rp_number R2 (tnm_dec (by omega) (nD_32 _)).sp (lo := 0) (hi := 7) (by omega) (by omega) (by omega)
  have R4 := R3.w (p := 66) 3 (nI 1) (by omega)
  obtain ⟨v5, g5, R5⟩ := rp_number R4 (tnm_dec (by omega) (nD_59 _)).sp (lo := 0) (hi := 99) (by omega) (by omega) (by omega)
  have R6 := R5.w (p := 66) 4 (nI 7) (by omega)
  obtain ⟨v7, g7, R7⟩ := rp_expect R6 tok59 (by omega)
  generalize hσ7 : sI (sI (sI (sI (sI (sI σ1 595 4 v2) 595 4 v3) 66 3 (nI 1)) 595 4 v5) 66 4 (nI 7)) 595 4 v7 = σ7 at R7
  have k7 : ∀ p, p ≠ 595 → p ≠ 66 → gI σ7 p = gI σ1 p := fun p a1 a2 => by
    rw [← hσ7, gI_nf _ _ _ a1, gI_nf _ _ _ a2, gI_nf _ _ _ a1, gI_nf _ _ _ a2, gI_nf _ _ _ a1, gI_nf _ _ _ a1]
  have k66 : ∀ x, x ≠ 3 → x ≠ 4 → gI σ7 66 x = gI σ1 66 x := fun x a1 a2 => by
    rw [← hσ7, gI_ne _ _ _ _ (by omega), gI_ns _ _ _ a2, gI_ne _ _ _ _ (by omega), gI_ns _ _ _ a1, gI_ne _ _ _ _ (by omega), gI_ne _ _ _ _ (by omega)]
  have u7 : Un (fun q => q = 595 ∨ q = 600 ∨ q = 61 ∨ (66 ≤ q ∧ q < 75)) σ σ7 := by
    rw [← hσ7]
    exact (u1.mono fun i hi => by omega).trans ((Un.sI _ _ (Or.inl rfl)).trans ((Un.sI _ _ (Or.inl rfl)).trans ((Un.sI _ _ (by omega)).trans ((Un.sI _ _ (Or.inl rfl)).trans ((Un.sI _ _ (by omega)).trans (Un.sI _ _ (Or.inl rfl)))))))
  have Q7 : DQ D 0 σ7 := by
    refine ⟨by rw [k66 0 (by omega) (by omega)]; exact c0, by rw [k66 1 (by omega) (by omega)]; exact c1, by rw [k66 2 (by omega) (by omega)]; exact c2, ?_, ?_, fun x hx => ?_, fun x hx => absurd hx (Nat.not_lt_zero _), fun x hx => ?_, fun x hx => ?_, fun kk hkk x hx i hi => ?_⟩
    · rw [← hσ7, gI_ne _ _ _ _ (by omega), gI_ns _ _ _ (by omega), gI_ne _ _ _ _ (by omega), gI_at]
    · rw [← hσ7, gI_ne _ _ _ _ (by omega), gI_at]
    · rw [k7 _ (by omega) (by omega)]; exact c3 3 (by omega) (by omega) x (by rw [af_X3_fails kd66']; exact hx)
    · rw [k7 _ (by omega) (by omega), if_neg (by omega)]; exact c3 4 (by omega) (by omega) x (by rw [af_X3_ahead kd66']; exact hx)
    · rw [k7 _ (by omega) (by omega), if_neg (Nat.not_lt_zero _)]; exact c3 5 (by omega) (by omega) x (by rw [af_X3_costly kd66']; exact hx)
    · rw [k7 _ (by omega) (by omega), if_neg (by omega)]
      have := c3 (6 + kk) (by omega) (by omega) (x * 8 + i) (by
        have := al_am (q := 0) (t := kk) (by omega) hkk
        rw [show 66 + (6 + kk) = 66 + 9 * 0 + 6 + kk by omega, this]
        omega)
      rw [show 66 + (6 + kk) = 66 + 6 + kk by omega] at this
      exact this
  have hgoal : ∃ s', Tok t (cT 42 ++ (gW2 so le n ++ [59])) 10 (32 :: (gW2 so le n ++ [59])) ∧ s' = ([] : List Nat) := ⟨[], by
    rw [cT43.2.2.2.2]
    have := tok_word (t := t) (i := 10) (s := 32 :: (gW2 so le n ++ [59])) (by omega) (by omega) (nL_32 _)
    simpa using this, rfl⟩
  obtain ⟨_, tg, _⟩ := hgoal
  obtain ⟨σ8, e8, R8, u8, Q8⟩ := steps_ok (K := pf_X4_readQuest_b128) hD hn.2 (by omega) tg (by omega) n 0 FU σ7 (Nat.zero_add _) R7 Q7 rfl
  obtain ⟨v9, g9, R9⟩ := rp_expect R8 tg (by omega)
  obtain ⟨g, σA, eA, RA, uA, bA⟩ := goal_ok hso hle hn R9.sp
  have RB : RP t (sL σA 66 5 g) (59 :: []) := RA.un (Un.sL (M := fun i => i = 66) _ _ rfl) ⟨by omega, by omega, by omega, by omega⟩
  obtain ⟨vC, gC, RC⟩ := rp_expect RB tok59 (by omega)
  have uA2 : Un (fun q => q = 595 ∨ q = 600 ∨ q = 61 ∨ (66 ≤ q ∧ q < 75)) σ σA := u7.trans ((u8.mono fun i hi => by omega).trans ((Un.sI _ _ (Or.inl rfl)).trans (uA.mono fun i hi => by omega)))
  have k61 : ∀ x, gI σA 61 x = gI σ 61 x := fun x => by
    rw [uA.I (by omega), gI_ne _ _ _ _ (by omega), u8.I (by omega), k7 _ (by omega) (by omega), u1.I (by omega)]
  have QA : DQ D n σA := (Q8.un (Un.sI (M := fun i => i = 595) 4 v9 rfl) (fun i a1 a2 => by omega)).un uA (fun i a1 a2 => by omega)
  have e5C : gI (sI (sL σA 66 5 g) 595 4 vC) 61 5 = 0 := by
    rw [gI_ne _ _ _ _ (by omega)]
    show gI σA 61 5 = 0
    rw [k61]; exact h5
  refine ⟨sI (sI (sL σA 66 5 g) 595 4 vC) 61 5 (0 + 1), ?_, RC.w _ _ (by omega), uA2.trans ((Un.sL _ _ (by omega)).trans ((Un.sI _ _ (Or.inl rfl)).trans (Un.sI _ _ (by omega)))), by rw [gI_at]; rfl, fun k hk => ?_, ?_, fun u hu => ?_⟩
  · unfold pf_X4_readQuest
    rw [h5, bnd_e, if_neg (by decide), if_pos (by decide), show ckI (0 : Int32) (alen (61 + 3)) _ = _ from ckA (n := 0) al63 (by omega), show 61 + 3 + 2 + 9 * (0 : Int32).toNatClampNeg = 66 from rfl, e1, bind_some, show pf_X6_skip (594 + 1) σ1 = _ from g2, bind_some, show pf_X6_number (594 + 1) 0 7 _ = _ from g3, bnd2_some, bnd_e, show pf_X6_number (594 + 1) 0 99 _ = _ from g5, bnd2_some, bnd_e, show pf_X6_expect (594 + 1) (some 24) _ = _ from g7, bind_some, hσ7]
    refine Eq.trans e8 ?_
    unfold pf_X4_readQuest_b128
    rw [show pf_X6_expect (594 + 1) (some 10) σ8 = _ from g9, bind_some, gI_ne _ _ _ _ (by omega), Q8.1, show pf_X0_readGoal 8 (594 + 5) (594 + 1) (nI n) 0 _ = _ from eA, bnd2_some, bnd_e, show pf_X6_expect (594 + 1) (some 24) _ = _ from gC, bind_some, e5C, bnd_e]
  · rw [gI_ns _ _ _ hk, gI_ne _ _ _ _ (by omega)]
    exact k61 k
  · refine DQ.un (M := fun i => i = 595 ∨ i = 61) (σ := sL σA 66 5 g) ?_ ((Un.sI _ _ (Or.inl rfl)).trans (Un.sI _ _ (Or.inr rfl))) (fun i a1 a2 => by omega)
    exact QA
  · rw [gL_sI, gL_sI, gL_at]
    exact bA u hu
/-- the whole text -/
theorem read_ok {sd so le n : Nat} {sk : Nat → Nat} (hD : D.ok) (hso : so < 3) (hle : 1 ≤ le ∧ le ≤ n) (hn : 3 ≤ n ∧ n ≤ 6) (hsd : sd ≤ 9999) (hsk : ∀ i, sk i ≤ 999) (ht : t = lwW D sd so le n sk) (hL : t.length ≤ 800) (hasc : asc t) {σ : St} (hT : ∀ k, k < t.length → gI σ 1 k = tB t k) : ∃ σ', pf_X4_read 594 1 (nI t.length) 61 σ = some (0, σ') ∧ Un (fun q => (594 ≤ q ∧ q ≤ 598) ∨ q = 600 ∨ q = 61 ∨ q = 62 ∨ q = 65 ∨ (66 ≤ q ∧ q < 75)) σ σ' ∧ gI σ' 61 5 = 1 ∧ gI σ' 61 2 = 0 ∧ gI σ' 61 3 = nI sd ∧ gI σ' 61 7 = 1 ∧ gI σ' 65 0 = -5 ∧ (∀ x, x < 8 → gI σ' 62 x = if x < 3 then nI (sk x) else 0) ∧ DQ D n σ' ∧ ∀ u, u < 64 → gbit (gL σ' 66 5) u = gcl so le n u := by
  have he : alen (61 + 1) = 8 := af_X2_stock (by decide +kernel)
  have hTX : TX σ (tB t) t.length := ⟨hL, hT⟩
  have hTB : TB8 (tB t) t.length := fun k hk => by
    unfold tB
    exact Is.of (by have := hasc k; omega) (by omega)
  obtain ⟨σ1, N, e1, u1, S1, c4, c5, c6⟩ := scan_ok hTX hTB
  have R1 : RP t σ1 t := ⟨N, 0, ⟨S1, Nat.zero_le _, by rw [c4]; rfl, c5, c6, hL⟩, RT.start t⟩
  -- the draft is cleared
  obtain ⟨σ2, e2, u2, z2⟩ := fill_ok (61 + 1) 0 σ1
  have hbeg : ∃ σB, pf_X4_begin 594 61 σ1 = some σB ∧ Un (fun q => q = 594 ∨ q = 61 ∨ q = 62 ∨ q = 65) σ1 σB ∧ gI σB 61 2 = 0 ∧ gI σB 61 5 = 0 ∧ gI σB 61 7 = 1 ∧ gI σB 65 0 = -5 ∧ (∀ x, x < 8 → gI σB 62 x = 0) ∧ gI σB 594 3 = 0 ∧ gI σB 594 4 = 0 := by
    unfold pf_X4_begin pf_X2_clear
    rw [e2, bind_some, bnd_e, bnd_e, bnd_e, bnd_e, bind_some, appC (σ := sI (sI (sI (sI σ2 61 2 0) 61 3 0) 61 5 0) 61 7 0) (n := 0) (gI_at _ _ _ _) (by omega), bind_some, bnd_e, bnd_e, bnd_e]
    refine ⟨_, rfl, (u2.mono fun i hi => by omega).trans ((Un.sI _ _ (by omega)).trans ((Un.sI _ _ (by omega)).trans ((Un.sI _ _ (by omega)).trans ((Un.sI _ _ (by omega)).trans ((Un.sI _ _ (by omega)).trans ((Un.sI _ _ (by omega)).trans ((Un.sI _ _ (by omega)).trans ((Un.sI _ _ (by omega)).trans (Un.sI _ _ (by omega)))))))))), ?_, ?_, ?_, ?_, fun x hx => ?_, ?_, ?_⟩
    · rw [gI_ne _ _ _ _ (by omega), gI_ne _ _ _ _ (by omega), gI_ne _ _ _ _ (by omega), gI_ns _ _ _ (by omega), gI_ne _ _ _ _ (by omega), gI_ns _ _ _ (by omega), gI_ns _ _ _ (by omega), gI_ns _ _ _ (by omega), gI_at]
    · rw [gI_ne _ _ _ _ (by omega), gI_ne _ _ _ _ (by omega), gI_ne _ _ _ _ (by omega), gI_ns _ _ _ (by omega), gI_ne _ _ _ _ (by omega), gI_ns _ _ _ (by omega), gI_at]
    · rw [gI_ne _ _ _ _ (by omega), gI_ne _ _ _ _ (by omega), gI_ne _ _ _ _ (by omega), gI_at]; rfl
    · rw [gI_ne _ _ _ _ (by omega), gI_ne _ _ _ _ (by omega), gI_ne _ _ _ _ (by omega), gI_ne _ _ _ _ (by omega), gI_at]
    · rw [gI_ne _ _ _ _ (by omega), gI_ne _ _ _ _ (by omega), gI_ne _ _ _ _ (by omega), gI_ne _ _ _ _ (by omega), gI_ne _ _ _ _ (by omega), gI_ne _ _ _ _ (by omega), gI_ne _ _ _ _ (by omega), gI_ne _ _ _ _ (by omega), gI_ne _ _ _ _ (by omega)]
      exact z2 x (by rw [he]; exact hx)
    · rw [gI_ns _ _ _ (by omega), gI_ns _ _ _ (by omega), gI_at]
    · rw [gI_ns _ _ _ (by omega), gI_at]
  obtain ⟨σB, eB, uB, b2, b5, b7, b65, b62, b3, b4⟩ := hbeg
  have RB : RP t σB (lwW D sd so le n sk) := by
    have := R1.un uB ⟨by omega, by omega, by omega, by omega⟩
    rw [← ht]; exact this
  unfold lwW at RB
  obtain ⟨vC, gC, RC⟩ := rp_expect RB (tok_word (by omega) (by omega) (nL_59 _)) (by omega)
  obtain ⟨vD, gD, RD⟩ := rp_expect RC tok59 (by omega)
  -- seed
  have tS : Tok t (cT (tkS.getD 6 0) ++ 32 :: (dec sd ++ 59 :: (cT (tkS.getD 5 0) ++ (skT sk 3 0 ++ 59 :: quW D so le n)))) 6 _ := tok_word (by omega) (by omega) (nL_32 _)
  obtain ⟨vE, gE, RE⟩ := rp_skip RD tS (by omega)
  obtain ⟨vF, gF, RF⟩ := rp_number RE (tnm_dec (by omega) (nD_59 _)).sp (lo := 0) (hi := 9999) (Nat.zero_le _) hsd (by omega)
  have RG := RF.w (p := 61) 3 (nI sd) (by omega)
  obtain ⟨vH, gH, RH⟩ := rp_expect RG tok59 (by omega)
  have RI := RH.w (p := 594) 4 1 (by omega)
  generalize hσI : sI (sI (sI (sI (sI (sI (sI σB 595 4 vC) 595 4 vD) 595 4 vE) 595 4 vF) 61 3 (nI sd)) 595 4 vH) 594 4 1 = σI at RI
  have hseed : pf_X4_readSeed 594 61 (sI (sI σB 595 4 vC) 595 4 vD) = some σI := by
    unfold pf_X4_readSeed
    rw [show pf_X6_skip (594 + 1) _ = _ from gE, bind_some, show pf_X6_number (594 + 1) 0 9999 _ = _ from gF, bnd2_some, bnd_e, show pf_X6_expect (594 + 1) (some 24) _ = _ from gH, bind_some, bnd_e, hσI]
  have kI : ∀ p, p ≠ 595 → p ≠ 61 → p ≠ 594 → gI σI p = gI σB p := fun p a1 a2 a3 => by
    rw [← hσI, gI_nf _ _ _ a3, gI_nf _ _ _ a1, gI_nf _ _ _ a2, gI_nf _ _ _ a1, gI_nf _ _ _ a1, gI_nf _ _ _ a1, gI_nf _ _ _ a1]
  have k61 : ∀ x, gI σI 61 x = if x = 3 then nI sd else gI σB 61 x := fun x => by
    rw [← hσI, gI_ne _ _ _ _ (by omega), gI_ne _ _ _ _ (by omega), gI_sI, if_pos rfl, gI_ne _ _ _ _ (by omega), gI_ne _ _ _ _ (by omega), gI_ne _ _ _ _ (by omega), gI_ne _ _ _ _ (by omega)]
  have k594 : gI σI 594 3 = 0 := by
    rw [← hσI, gI_ns _ _ _ (by omega), gI_ne _ _ _ _ (by omega), gI_ne _ _ _ _ (by omega), gI_ne _ _ _ _ (by omega), gI_ne _ _ _ _ (by omega), gI_ne _ _ _ _ (by omega), gI_ne _ _ _ _ (by omega)]
    exact b3
  have uI : Un (fun q => (594 ≤ q ∧ q ≤ 598) ∨ q = 600 ∨ q = 61 ∨ q = 62 ∨ q = 65 ∨ (66 ≤ q ∧ q < 75)) σ σI := by
    rw [← hσI]
    refine (u1.mono fun i hi => by unfold scM at hi; omega).trans ((uB.mono fun i hi => by omega).trans ?_)
    exact (Un.sI _ _ (by omega)).trans ((Un.sI _ _ (by omega)).trans ((Un.sI _ _ (by omega)).trans ((Un.sI _ _ (by omega)).trans ((Un.sI _ _ (by omega)).trans ((Un.sI _ _ (by omega)).trans (Un.sI _ _ (by omega)))))))
  -- stock
  have tT : Tok t (cT (tkS.getD 5 0) ++ (skT sk 3 0 ++ 59 :: quW D so le n)) 5 (skT sk 3 0 ++ 59 :: quW D so le n) := tok_word (by omega) (by omega) (nL_32 _)
  obtain ⟨vJ, gJ, RJ⟩ := rp_skip RI tT (by omega)
  obtain ⟨σK, eK, RK, uK, fK, sK⟩ := stk_loop (t := t) hsk 3 0 FU _ rfl RJ rfl (Or.inr (by omega)) (by rw [gI_ne _ _ _ _ (by omega), k594]; rfl)
  have hstock : pf_X4_readStock 594 61 σI = some σK := by
    unfold pf_X4_readStock
    rw [show pf_X6_skip (594 + 1) σI = _ from gJ, bind_some]
    exact eK
  have K61 : ∀ x, gI σK 61 x = if x = 3 then nI sd else gI σB 61 x := fun x => by
    rw [uK.I (by omega), gI_ne _ _ _ _ (by omega)]
    exact k61 x
  -- quest
  have tQ : Tok t (quW D so le n) 8 (32 :: (dec 1 ++ 32 :: (dec 7 ++ 59 :: (stR D n 0 ++ (cT 42 ++ (gW2 so le n ++ [59])))))) := by
    unfold quW
    exact tok_word (by omega) (by omega) (nL_32 _)
  obtain ⟨σL, eL, RL1, uL, q5, qk, qD, qg⟩ := quest_ok hD hso hle hn RK (by rw [K61, if_neg (by omega)]; exact b5)
  obtain ⟨end1, end2⟩ := rp_end RL1
  refine ⟨σL, ?_, uI.trans ((Un.sI _ _ (by omega)).trans ((uK.mono fun i hi => by omega).trans (uL.mono fun i hi => by omega))), q5, ?_, ?_, ?_, ?_, fun x hx => ?_, qD, qg⟩
  · unfold pf_X4_read
    rw [show pf_X6_scan (594 + 1) 1 (nI t.length) σ = _ from e1, bind_some, eB, bind_some, show pf_X6_expect (594 + 1) (some 4) σB = _ from gC, bind_some, show pf_X6_expect (594 + 1) (some 24) _ = _ from gD, bind_some, FU4, pf_X4_read_L37, if_neg (by decide), show pf_X6_goOn (594 + 1) _ = _ from rp_goOn RD tS (by omega), bind_some, i10, show pf_X6_ahead (594 + 1) _ = _ from rp_ahead RD tS, bind_some, if_neg (by decide), if_pos rfl, show gI (sI (sI σB 595 4 vC) 595 4 vD) 594 4 = 0 from by rw [gI_ne _ _ _ _ (by omega), gI_ne _ _ _ _ (by omega)]; exact b4, if_pos rfl, hseed, bind_some]
    unfold pf_X4_read_b158
    rw [bnd_e, pf_X4_read_L37, if_neg (by decide), show pf_X6_goOn (594 + 1) _ = _ from rp_goOn RI tT (by omega), bind_some, i10, show pf_X6_ahead (594 + 1) _ = _ from rp_ahead RI tT, bind_some, if_pos rfl, hstock, bind_some]
    unfold pf_X4_read_b158
    rw [bnd_e, pf_X4_read_L37, if_neg (by decide), show pf_X6_goOn (594 + 1) _ = _ from rp_goOn RK tQ (by omega), bind_some, i10, show pf_X6_ahead (594 + 1) _ = _ from rp_ahead RK tQ, bind_some, if_neg (by decide), if_neg (by decide)]
    unfold pf_X4_read_b103
    rw [if_neg (by decide)]
    unfold pf_X4_read_b126
    rw [if_pos rfl, eL, bind_some]
    unfold pf_X4_read_b158
    rw [bnd_e, pf_X4_read_L37, if_neg (by decide), show pf_X6_goOn (594 + 1) σL = _ from end1, bind_some, i00]
    unfold pf_X4_read_b164
    rw [show gI σL (594 + 1) 5 = 0 from end2]
  · rw [qk 2 (by omega), K61, if_neg (by omega)]; exact b2
  · rw [qk 3 (by omega), K61, if_pos rfl]
  · rw [qk 7 (by omega), K61, if_neg (by omega)]; exact b7
  · rw [uL.I (by omega), uK.I (by omega), gI_ne _ _ _ _ (by omega), kI _ (by omega) (by omega) (by omega)]
    exact b65
  · rw [uL.I (by omega), sK x]
    by_cases c : x < 3
    · rw [if_pos ⟨Nat.zero_le _, c⟩, if_pos c]
    · rw [if_neg (by omega), if_neg c, gI_ne _ _ _ _ (by omega), kI _ (by omega) (by omega) (by omega)]
      exact b62 x hx
end
