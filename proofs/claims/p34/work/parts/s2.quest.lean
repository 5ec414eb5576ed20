/-! THE PURE SIDE: the class reads steps, a goal, a quest -/
/-- a step's words -/
def sxW (k ri li : Nat) (us nd gv : Nat → Nat) (af : Nat) (co : Bool) : List Nat := cT 35 ++ dec ri ++ [32] ++ dec li ++ amW (cT 36) us ++ amW (cT 37) nd ++ amW (cT 38) gv ++ afW af k ++ coW co
/-- the numbers of a game, step by step -/
abbrev GD : Type := (Nat → Nat) × (Nat → Nat) × (Nat → Nat → Nat → Nat) × (Nat → Nat) × (Nat → Bool)
def GD.ri (D : GD) : Nat → Nat := D.1
def GD.li (D : GD) : Nat → Nat := D.2.1
def GD.am (D : GD) : Nat → Nat → Nat → Nat := D.2.2.1
def GD.af (D : GD) : Nat → Nat := D.2.2.2.1
def GD.co (D : GD) : Nat → Bool := D.2.2.2.2
def GD.ok (D : GD) : Prop := ∀ k, D.ri k ≤ 100 ∧ (1 ≤ D.li k ∧ D.li k ≤ 9) ∧ (∀ kk i, D.am kk k i ≤ 99) ∧ D.af k < 2 ^ k
def stX (D : GD) (k : Nat) : List Nat := sxW k (D.ri k) (D.li k) (D.am 0 k) (D.am 1 k) (D.am 2 k) (D.af k) (D.co k)
def stR (D : GD) : Nat → Nat → List Nat
  | 0, _ => []
  | j + 1, k => stX D k ++ stR D j (k + 1)
/-- the draft's first quest, k steps far -/
def DQ (D : GD) (k : Nat) (σ : St) : Prop := gI σ 66 0 = nI k ∧ gI σ 66 1 = 0 ∧ gI σ 66 2 = 0 ∧ gI σ 66 3 = nI 1 ∧ gI σ 66 4 = nI 7 ∧ (∀ s, s < 6 → gI σ (66 + 3) s = 0) ∧ (∀ s, s < k → gI σ (66 + 1) s = nI (D.ri s) ∧ gI σ (66 + 2) s = nI (D.li s)) ∧ (∀ s, s < 6 → gI σ (66 + 4) s = if s < k then nI (D.af s) else 0) ∧ (∀ s, s < 6 → gI σ (66 + 5) s = if s < k then (if D.co s then 1 else 0) else 0) ∧ ∀ kk, kk < 3 → ∀ s, s < 6 → ∀ i, i < 8 → gI σ (66 + 6 + kk) (s * 8 + i) = if s < k ∧ i < 3 then nI (D.am kk s i) else 0
theorem DQ.un {D : GD} {k : Nat} {σ σ' : St} {M : Nat → Prop} (h : DQ D k σ) (u : Un M σ σ') (m : ∀ i, 66 ≤ i → i < 75 → ¬ M i) : DQ D k σ' := by
  have e : ∀ j, j < 9 → gI σ' (66 + j) = gI σ (66 + j) := fun j hj => u.I (m _ (by omega) (by omega))
  have e0 : gI σ' 66 = gI σ 66 := e 0 (by omega)
  obtain ⟨h0, h1, h2, h3, h4, h5, h6, h7, h8, h9⟩ := h
  refine ⟨by rw [e0]; exact h0, by rw [e0]; exact h1, by rw [e0]; exact h2, by rw [e0]; exact h3, by rw [e0]; exact h4, by rw [e 3 (by omega)]; exact h5, by rw [e 1 (by omega), e 2 (by omega)]; exact h6, by rw [e 4 (by omega)]; exact h7, by rw [e 5 (by omega)]; exact h8, fun kk hk => ?_⟩
  have := e (6 + kk) (by omega)
  rw [show 66 + (6 + kk) = 66 + 6 + kk by omega] at this
  rw [this]
  exact h9 kk hk
theorem wd35 : cT 35 = cT (tkS.getD 9 0) ++ [32] := by decide +kernel
section
variable {t s : List Nat} {D : GD}
theorem tok_am {rv : Nat → Nat} {kk : Nat} (hk : kk < 3) (h : ¬ (amS rv 3).length = 0) : ∃ s', Tok t (amW (cT (36 + kk)) rv ++ s) (11 + kk) s' := by
  unfold amW
  rw [if_neg h, wd_am kk hk]
  have hnl : nL (amS rv 3 ++ s) := by
    have : ∀ j i, amT rv j i ≠ [] → nL (amT rv j i ++ s) := by
      intro j
      induction j with
      | zero => intro i h; exact absurd rfl h
      | succ j ih =>
        intro i h
        rw [amT] at h ⊢
        unfold amR at h ⊢
        by_cases c : rv i = 0
        · rw [if_pos c, List.nil_append] at h ⊢; exact ih _ h
        · rw [if_neg c]; exact nL_32 _
    rw [amS_T]
    refine this 3 0 (fun q => h ?_)
    rw [amS_T, q]; rfl
  refine ⟨amS rv 3 ++ s, ?_⟩
  have := (tok_word (t := t) (i := 11 + kk) (s := amS rv 3 ++ s) (by omega) (by omega) hnl).sp
  simpa using this
theorem tok_af {m k : Nat} (hm : m < 2 ^ k) (h : ¬ m = 0) : ∃ s', Tok t (afW m k ++ s) 14 s' := by
  unfold afW
  rw [if_neg h, cT39]
  have hne : afT m k 0 ≠ [] := fun q => h (by
    have := af_some k 0 q
    rw [← msk_self hm]
    apply Nat.eq_of_testBit_eq
    intro i
    rw [msk_bit, Nat.zero_testBit]
    by_cases c : i < k
    · rw [this i (Nat.zero_le _) (by omega)]; simp
    · rw [decide_eq_false c]; rfl)
  have hnl : nL (afT m k 0 ++ s) := by
    have : ∀ j i, afT m j i ≠ [] → nL (afT m j i ++ s) := by
      intro j
      induction j with
      | zero => intro i h; exact absurd rfl h
      | succ j ih =>
        intro i h
        rw [afT] at h ⊢
        by_cases c : m.testBit i = true
        · rw [if_pos c]; exact nL_32 _
        · rw [if_neg c, List.nil_append] at h ⊢; exact ih _ h
    exact this k 0 hne
  refine ⟨afT m k 0 ++ s, ?_⟩
  have := (tok_word (t := t) (i := 14) (s := afT m k 0 ++ s) (by omega) (by omega) hnl).sp
  simpa using this
theorem tok_co (b : Bool) : ∃ i s', Tok t (coW b ++ s) i s' ∧ i ≠ 0 := by
  unfold coW
  cases b with
  | false => exact ⟨24, s, by rw [if_neg Bool.false_ne_true, cT40.2]; exact tok59, by omega⟩
  | true =>
    refine ⟨15, 59 :: s, ?_, by omega⟩
    rw [if_pos rfl, cT40.1]
    have := (tok_word (t := t) (i := 15) (s := 59 :: s) (by omega) (by omega) (nL_59 _)).sp
    simpa using this
theorem nD_co (b : Bool) : nD (coW b ++ s) := by
  unfold coW
  cases b with
  | false => rw [if_neg Bool.false_ne_true, cT40.2]; exact nD_59 _
  | true => rw [if_pos rfl, cT40.1]; exact nD_32 _
theorem nD_afW {m k : Nat} (h : nD s) : nD (afW m k ++ s) := by
  unfold afW
  by_cases c : m = 0
  · rw [if_pos c]; exact h
  · rw [if_neg c, cT39]; exact nD_32 _
theorem nD_amW {w : List Nat} {rv : Nat → Nat} (h : nD s) : nD (amW w rv ++ s) := by
  unfold amW
  by_cases c : (amS rv 3).length = 0
  · rw [if_pos c]; exact h
  · rw [if_neg c]; exact nD_32 _
/-- what comes next is no number -/
def NN (t s : List Nat) : Prop := ∃ i s', Tok t s i s' ∧ i ≠ 0
theorem NN.af {m k : Nat} (hm : m < 2 ^ k) (h : NN t s) : NN t (afW m k ++ s) := by
  by_cases c : m = 0
  · unfold afW
    rw [if_pos c]; exact h
  · obtain ⟨s', h'⟩ := tok_af (t := t) (s := s) hm c
    exact ⟨14, s', h', by omega⟩
theorem NN.am {rv : Nat → Nat} {kk : Nat} (hk : kk < 3) (h : NN t s) : NN t (amW (cT (36 + kk)) rv ++ s) := by
  by_cases c : (amS rv 3).length = 0
  · unfold amW
    rw [if_pos c]; exact h
  · obtain ⟨s', h'⟩ := tok_am (t := t) (s := s) hk c
    exact ⟨11 + kk, s', h', by omega⟩
theorem NN.co (b : Bool) : NN t (coW b ++ s) := tok_co b
theorem step_ok {k : Nat} (hD : D.ok) (hk : k < 6) {σ : St} (hR : RP t σ (stX D k ++ s)) (hQ : DQ D k σ) : ∃ σ', pf_X4_readStep 594 66 σ = some σ' ∧ RP t σ' s ∧ Un (fun q => q = 595 ∨ (66 ≤ q ∧ q < 75)) σ σ' ∧ DQ D (k + 1) σ' := by
  obtain ⟨d1, d2, d3, d4⟩ := hD k
  obtain ⟨h0, h1, h2, h3, h4, h5, h6, h7, h8, h9⟩ := hQ
  have hR' : RP t σ (cT (tkS.getD 9 0) ++ 32 :: (dec (D.ri k) ++ 32 :: (dec (D.li k) ++ (amW (cT (36 + 0)) (D.am 0 k) ++ (amW (cT (36 + 1)) (D.am 1 k) ++ (amW (cT (36 + 2)) (D.am 2 k) ++ (afW (D.af k) k ++ (coW (D.co k) ++ s)))))))) := by
    unfold stX sxW at hR
    rw [wd35] at hR
    simpa using hR
  have nd0 : nD (coW (D.co k) ++ s) := nD_co _
  have nd1 : nD (afW (D.af k) k ++ (coW (D.co k) ++ s)) := nD_afW nd0
  have nd2 : nD (amW (cT (36 + 2)) (D.am 2 k) ++ (afW (D.af k) k ++ (coW (D.co k) ++ s))) := nD_amW nd1
  have nd3 : nD (amW (cT (36 + 1)) (D.am 1 k) ++ (amW (cT (36 + 2)) (D.am 2 k) ++ (afW (D.af k) k ++ (coW (D.co k) ++ s)))) := nD_amW nd2
  have nd4 : nD (amW (cT (36 + 0)) (D.am 0 k) ++ (amW (cT (36 + 1)) (D.am 1 k) ++ (amW (cT (36 + 2)) (D.am 2 k) ++ (afW (D.af k) k ++ (coW (D.co k) ++ s))))) := nD_amW nd3
  have nn0 : NN t (coW (D.co k) ++ s) := NN.co _
  have nn1 := nn0.af (m := D.af k) (k := k) d4
  have nn2 := nn1.am (rv := D.am 2 k) (kk := 2) (by omega)
  have nn3 := nn2.am (rv := D.am 1 k) (kk := 1) (by omega)
  obtain ⟨v1, g1, R1⟩ := rp_expect hR' (tok_word (by omega) (by omega) (nL_32 _)) (by omega)
  obtain ⟨v2, g2, R2⟩ := rp_number R1 (tnm_dec (by omega) (nD_32 _)).sp (lo := 0) (hi := 100) (Nat.zero_le _) d1 (by omega)
  have R3 := R2.w (p := 66 + 1) k (nI (D.ri k)) (by omega)
  obtain ⟨v4, g4, R4⟩ := rp_number R3 (tnm_dec (by omega) nd4).sp (lo := 1) (hi := 9) d2.1 d2.2 (by omega)
  have R5 := R4.w (p := 66 + 2) k (nI (D.li k)) (by omega)
  generalize hσ5 : sI (sI (sI (sI (sI σ 595 4 v1) 595 4 v2) (66 + 1) k (nI (D.ri k))) 595 4 v4) (66 + 2) k (nI (D.li k)) = σ5 at R5
  have u5 : Un (fun q => q = 595 ∨ (66 ≤ q ∧ q < 75)) σ σ5 := by
    rw [← hσ5]
    exact (Un.sI _ _ (Or.inl rfl)).trans ((Un.sI _ _ (Or.inl rfl)).trans ((Un.sI _ _ (Or.inr (by omega))).trans ((Un.sI _ _ (Or.inl rfl)).trans (Un.sI _ _ (Or.inr (by omega))))))
  have k5 : ∀ p, p ≠ 595 → p ≠ 66 + 1 → p ≠ 66 + 2 → gI σ5 p = gI σ p := fun p a1 a2 a3 => by
    rw [← hσ5, gI_nf _ _ _ a3, gI_nf _ _ _ a1, gI_nf _ _ _ a2, gI_nf _ _ _ a1, gI_nf _ _ _ a1]
  have k51 : ∀ x, gI σ5 (66 + 1) x = if x = k then nI (D.ri k) else gI σ (66 + 1) x := fun x => by
    rw [← hσ5, gI_ne _ _ _ _ (by omega), gI_ne _ _ _ _ (by omega), gI_sI, if_pos rfl]
    by_cases c : x = k
    · rw [if_pos c, if_pos c]
    · rw [if_neg c, if_neg c, gI_ne _ _ _ _ (by omega), gI_ne _ _ _ _ (by omega)]
  have k52 : ∀ x, gI σ5 (66 + 2) x = if x = k then nI (D.li k) else gI σ (66 + 2) x := fun x => by
    rw [← hσ5, gI_sI, if_pos rfl]
    by_cases c : x = k
    · rw [if_pos c, if_pos c]
    · rw [if_neg c, if_neg c, gI_ne _ _ _ _ (by omega), gI_ne _ _ _ _ (by omega), gI_ne _ _ _ _ (by omega), gI_ne _ _ _ _ (by omega)]
  have z : ∀ kk, kk < 3 → ∀ x, x < 3 → gI σ (66 + 6 + kk) (k * 8 + x) = 0 := fun kk hkk x hx => (h9 kk hkk k hk x (by omega)).trans (if_neg (by omega))
  obtain ⟨i3, s3, t3, n3⟩ := nn3
  obtain ⟨σ6, f6, c6, e6, a6, b6, R6, u6, w6⟩ := part_am (K := pf_X4_readStep_b108) (kk := 0) (by omega) hk (d3 0) nd3 t3 n3 (f := FU) (c := 0) R5 rfl (by omega) (fun x hx => by rw [k5 _ (by omega) (by omega) (by omega)]; exact z 0 (by omega) x hx)
  obtain ⟨i2, s2, t2, n2⟩ := nn2
  obtain ⟨σ7, f7, c7, e7, a7, b7, R7, u7, w7⟩ := part_am (K := pf_X4_readStep_b108) (kk := 1) (by omega) hk (d3 1) nd2 t2 n2 R6 a6 (by omega) (fun x hx => by rw [u6.I (by omega), k5 _ (by omega) (by omega) (by omega)]; exact z 1 (by omega) x hx)
  obtain ⟨i1, s1, t1, n1⟩ := nn1
  obtain ⟨σ8, f8, c8, e8, a8, b8, R8, u8, w8⟩ := part_am (K := pf_X4_readStep_b108) (kk := 2) (by omega) hk (d3 2) nd1 t1 n1 R7 a7 (by omega) (fun x hx => by rw [u7.I (by omega), u6.I (by omega), k5 _ (by omega) (by omega) (by omega)]; exact z 2 (by omega) x hx)
  obtain ⟨i0, s0, t0, n0⟩ := nn0
  obtain ⟨σ9, f9, c9, e9, a9, b9, R9, u9, w9, x9⟩ := part_af (K := pf_X4_readStep_b108) hk d4 nd0 t0 n0 R8 a8 (by omega) (by rw [u8.I (by omega), u7.I (by omega), u6.I (by omega), k5 _ (by omega) (by omega) (by omega), h7 k hk, if_neg (by omega)])
  obtain ⟨σA, eA, RA, uA, wA, xA, yA, zA⟩ := part_co hk R9 a9 (by omega) (by rw [u9.I (by omega), u8.I (by omega), u7.I (by omega), u6.I (by omega), k5 _ (by omega) (by omega) (by omega), h8 k hk, if_neg (by omega)])
  have hu : Un (fun q => q = 595 ∨ (66 ≤ q ∧ q < 75)) σ σA := u5.trans ((u6.mono fun i hi => by omega).trans ((u7.mono fun i hi => by omega).trans ((u8.mono fun i hi => by omega).trans ((u9.mono fun i hi => by omega).trans (uA.mono fun i hi => by omega)))))
  have back : ∀ p, p ≠ 595 → p ≠ 66 → p ≠ 66 + 5 → p ≠ 66 + 4 → p ≠ 66 + 6 + 0 → p ≠ 66 + 6 + 1 → p ≠ 66 + 6 + 2 → gI σA p = gI σ5 p := fun p q0 q1 q2 q3 q4 q5 q6 => by
    rw [uA.I (by omega), u9.I (by omega), u8.I (by omega), u7.I (by omega), u6.I (by omega)]
  have e66 : ∀ x, x ≠ 0 → gI σA 66 x = gI σ 66 x := fun x hx => by
    rw [xA x hx, u9.I (by omega), u8.I (by omega), u7.I (by omega), u6.I (by omega), k5 _ (by omega) (by omega) (by omega)]
  refine ⟨σA, ?_, RA, hu, ⟨?_, by rw [e66 1 (by omega)]; exact h1, by rw [e66 2 (by omega)]; exact h2, by rw [e66 3 (by omega)]; exact h3, by rw [e66 4 (by omega)]; exact h4, fun x hx => ?_, fun x hx => ⟨?_, ?_⟩, fun x hx => ?_, fun x hx => ?_, fun kk hkk x hx i hi => ?_⟩⟩
  · unfold pf_X4_readStep
    rw [h0, bnd_e, if_pos (show nI k < (6 : Int32) from nI_lt (b := 6) hk (by omega)), show pf_X6_expect (594 + 1) (some 9) σ = _ from g1, bind_some, show pf_X6_number (594 + 1) 0 100 _ = _ from g2, bnd2_some, put_ok (af_X3_risk kd66') hk, bind_some, show pf_X6_number (594 + 1) 1 9 _ = _ from g4, bnd2_some, put_ok (af_X3_limit kd66') hk, bind_some, hσ5]
    exact (e6.trans (e7.trans (e8.trans (e9.trans eA))))
  · rw [wA, u9.I (by omega), u8.I (by omega), u7.I (by omega), u6.I (by omega), k5 _ (by omega) (by omega) (by omega), h0, nI_1]
  · rw [back _ (by omega) (by omega) (by omega) (by omega) (by omega) (by omega) (by omega), k5 _ (by omega) (by omega) (by omega)]
    exact h5 x hx
  · rw [back _ (by omega) (by omega) (by omega) (by omega) (by omega) (by omega) (by omega), k51 x]
    by_cases c : x = k
    · rw [if_pos c, c]
    · rw [if_neg c]; exact (h6 x (by omega)).1
  · rw [back _ (by omega) (by omega) (by omega) (by omega) (by omega) (by omega) (by omega), k52 x]
    by_cases c : x = k
    · rw [if_pos c, c]
    · rw [if_neg c]; exact (h6 x (by omega)).2
  · rw [uA.I (show ¬ (66 + 4 = 595 ∨ 66 + 4 = 66 ∨ 66 + 4 = 66 + 5) by omega)]
    by_cases c : x = k
    · rw [c, w9, if_pos (by omega)]
    · rw [x9 x c, u8.I (by omega), u7.I (by omega), u6.I (by omega), k5 _ (by omega) (by omega) (by omega), h7 x hx]
      by_cases c2 : x < k
      · rw [if_pos c2, if_pos (by omega)]
      · rw [if_neg c2, if_neg (by omega)]
  · by_cases c : x = k
    · rw [c, yA, if_pos (show k < k + 1 by omega)]
    · rw [zA x c, u9.I (by omega), u8.I (by omega), u7.I (by omega), u6.I (by omega), k5 _ (by omega) (by omega) (by omega), h8 x hx]
      by_cases c2 : x < k
      · rw [if_pos c2, if_pos (show x < k + 1 by omega)]
      · rw [if_neg c2, if_neg (show ¬ x < k + 1 by omega)]
  · rw [uA.I (by omega), u9.I (by omega)]
    have h9' := h9 kk hkk x hx i hi
    have key : ∀ τ : St, (∀ y, gI τ (66 + 6 + kk) y = if k * 8 ≤ y ∧ y < k * 8 + 3 then nI (D.am kk k (y - k * 8)) else gI σ (66 + 6 + kk) y) → gI τ (66 + 6 + kk) (x * 8 + i) = if x < k + 1 ∧ i < 3 then nI (D.am kk x i) else 0 := fun τ hτ => by
      rw [hτ]
      by_cases c : k * 8 ≤ x * 8 + i ∧ x * 8 + i < k * 8 + 3
      · obtain rfl : x = k := by omega
        rw [if_pos c, if_pos (by omega), Nat.add_sub_cancel_left]
      · rw [if_neg c, h9']
        by_cases c2 : x < k ∧ i < 3
        · rw [if_pos c2, if_pos (by omega)]
        · rw [if_neg c2, if_neg (by omega)]
    rcases (by omega : kk = 0 ∨ kk = 1 ∨ kk = 2) with rfl | rfl | rfl
    · rw [u8.I (by omega), u7.I (by omega)]
      exact key σ6 (fun y => by rw [w6 y, k5 _ (by omega) (by omega) (by omega)])
    · rw [u8.I (by omega)]
      exact key σ7 (fun y => by rw [w7 y, u6.I (by omega), k5 _ (by omega) (by omega) (by omega)])
    · exact key σ8 (fun y => by rw [w8 y, u7.I (by omega), u6.I (by omega), k5 _ (by omega) (by omega) (by omega)])
/-- all steps -/
theorem steps_ok {K : Nat → Nat → Nat → St → Option St} {n : Nat} (hD : D.ok) (hn : n ≤ 6) (h0 : 0 < n) {i0 : Nat} {s' : List Nat} (hs : Tok t s i0 s') (hi0 : i0 ≠ 9) : ∀ (j k f : Nat) (σ : St), k + j = n → RP t σ (stR D j k ++ s) → DQ D k σ → f + k = 1000000 → ∃ σ', pf_X4_readQuest_L91 K f 594 61 66 (nI k) σ = K 594 61 66 σ' ∧ RP t σ' s ∧ Un (fun q => q = 595 ∨ (66 ≤ q ∧ q < 75)) σ σ' ∧ DQ D n σ' := by
  intro j
  induction j with
  | zero =>
    intro k f σ hk hR hQ hf
    obtain ⟨f, rfl⟩ : ∃ g, f = g + 1 := ⟨f - 1, by omega⟩
    obtain rfl : k = n := by omega
    have hR' : RP t σ s := hR
    refine ⟨σ, ?_, hR', Un.refl _ _, hQ⟩
    rw [pf_X4_readQuest_L91, if_neg (show ¬ (800 : Int32) ≤ nI k from nI_ge (b := 800) (by omega) (by omega)), if_neg (nI_ne0 h0 (by omega)), show pf_X6_ahead (594 + 1) σ = _ from rp_ahead hR' hs, bind_some, if_neg (fun e => hi0 (Option.some.inj e))]
  | succ j ih =>
    intro k f σ hk hR hQ hf
    obtain ⟨f, rfl⟩ : ∃ g, f = g + 1 := ⟨f - 1, by omega⟩
    rw [stR, List.append_assoc] at hR
    obtain ⟨σ1, e1, R1, u1, Q1⟩ := step_ok hD (by omega) hR hQ
    obtain ⟨σ', e2, R2, u2, Q2⟩ := ih (k + 1) f σ1 (by omega) R1 Q1 (by omega)
    have hb : pf_X4_readQuest_b117 (pf_X4_readQuest_L91 K f) 594 61 66 (nI k) σ = K 594 61 66 σ' := by
      unfold pf_X4_readQuest_b117
      rw [e1, bind_some, bnd_e, nI_1]
      exact e2
    refine ⟨σ', ?_, R2, u1.trans u2, Q2⟩
    rw [pf_X4_readQuest_L91, if_neg (show ¬ (800 : Int32) ≤ nI k from nI_ge (b := 800) (by omega) (by omega))]
    by_cases c : k = 0
    · rw [if_pos (by rw [c]; rfl)]; exact hb
    · have hT : ∃ s2, Tok t (stX D k ++ (stR D j (k + 1) ++ s)) 9 s2 := by
        unfold stX sxW
        rw [wd35]
        exact ⟨_, by simpa using tok_word (t := t) (i := 9) (by omega) (by omega) (nL_32 _)⟩
      obtain ⟨s2, hT⟩ := hT
      rw [if_neg (nI_ne0 (by omega) (by omega)), show pf_X6_ahead (594 + 1) σ = _ from rp_ahead hR hT, bind_some, if_pos rfl]
      exact hb
/-! a goal -/
theorem swC_bit : ∀ x, x < 6 → ∀ u, u < 64 → gbit (swC.getD x 0) u = u.testBit x := by decide +kernel
theorem rp_number6 {x : Nat} {s0 : List Nat} {σ : St} (hR : RP t σ s0) (hT : Tnm t s0 x s) : ∃ v, pf_X6_number 595 0 1000000 σ = some (nI x, sI σ 595 4 v) ∧ RP t (sI σ 595 4 v) s := by
  obtain ⟨N, k, h1, h2⟩ := id hR
  obtain ⟨a1, a2, a3⟩ := hT k h2
  have hk : k < N := h1.tl (by rw [a1]; decide)
  have n8 := h1.N8
  have e8 : gI σ 598 k = nI (nvl (tB t) t.length k) := (h1.1.1.2 k (by omega)).2.2 a1
  have hv : nvl (tB t) t.length k ≤ 1000000 := cvl_le (tB t) (tst (tB t) t.length k) (re (tB t) t.length (tst (tB t) t.length k) - tst (tB t) t.length k)
  rw [a2] at e8 hv
  refine ⟨nI (k + 1), ?_, rp_adv h1 h2 hT.tok (by decide)⟩
  unfold pf_X6_number
  rw [start_ok h1, bind_some, ahead_ok h1, bind_some, if_pos (by rw [a1]), h1.2.2.1, show pf_X10_at (595 + 3) (nI k) σ = _ from at_ok al598 (by omega), bind_some, show gI σ (595 + 3) k = _ from e8, nI_1, bnd_e, if_neg (nI_pos (by omega)), if_pos (show nI x ≤ (1000000 : Int32) from nI_le (b := 1000000) hv (by omega))]
theorem single_ok {rc : Nat → Nat → Int32 → Int32 → St → Option (Int64 × St)} {n x : Nat} (hx : x < n) (hn : n ≤ 6) {s0 : List Nat} {σ : St} (hR : RP t σ s0) (hT : Tnm t s0 x s) {i0 : Nat} {s' : List Nat} (hs : Tok t s i0 s') (hi0 : i0 ≠ 18) (v3 : Int32) : ∃ v, pf_X0_readSingle rc 599 595 (nI n) v3 σ = some (swC.getD x 0, sI σ 595 4 v) ∧ RP t (sI σ 595 4 v) s := by
  obtain ⟨r0, hr0⟩ := rp_start hR
  obtain ⟨v, g1, R1⟩ := rp_number6 hR hT
  refine ⟨v, ?_, R1⟩
  unfold pf_X0_readSingle
  rw [rp_ahead hR hT.tok, bind_some, if_pos rfl, hr0, bind_some, g1, bnd2_some, rp_no R1 hs hi0, bnd2_some, i00, if_neg (nI_pos (by omega)), if_neg (nI_ge hx (by omega)), if_pos (show nI x < (6 : Int32) from nI_lt (b := 6) (by omega) (by omega)), show ckI (nI x) 6 _ = _ from ckI_nI (by omega) (by omega), nI_clamp (by omega)]
/-- a goal's end -/
theorem goalE {rc : Nat → Nat → Int32 → Int32 → St → Option (Int64 × St)} {σ : St} (hR : RP t σ s) {i0 : Nat} {s' : List Nat} (hs : Tok t s i0 s') (h17 : i0 ≠ 17) (h16 : i0 ≠ 16) (v2 v3 : Int32) (v4 v6 : Int64) {f c : Nat} (hf : 0 < f) (hc : c ≤ 700) : pf_X0_readGoal_L15 rc (pf_X0_readGoal_b77 rc) (pf_X0_readGoal_b89 rc) f 599 595 v2 v3 v4 v6 (nI c) σ = some (v4 ||| v6, σ) := by
  obtain ⟨f, rfl⟩ : ∃ g, f = g + 1 := ⟨f - 1, by omega⟩
  rw [pf_X0_readGoal_L15, if_neg (show ¬ (800 : Int32) ≤ nI c from nI_ge (b := 800) (by omega) (by omega)), rp_no hR hs h17, bnd2_some, i00, rp_no hR hs h16, bnd2_some, i00]
  rfl
/-- a goal that is a step -/
theorem goal1 {d n x : Nat} (hx : x < n) (hn : n ≤ 6) {s0 : List Nat} {σ : St} (hR : RP t σ s0) (hT : Tnm t s0 x s) {i0 : Nat} {s' : List Nat} (hs : Tok t s i0 s') (hi0 : i0 ≠ 18) (h17 : i0 ≠ 17) (h16 : i0 ≠ 16) (v3 : Int32) : ∃ v, pf_X0_readGoal (d + 1) 599 595 (nI n) v3 σ = some (0 ||| swC.getD x 0, sI σ 595 4 v) ∧ RP t (sI σ 595 4 v) s := by
  obtain ⟨v, g1, R1⟩ := single_ok (rc := pf_X0_readGoal d) hx hn hR hT hs hi0 v3
  refine ⟨v, ?_, R1⟩
  show pf_X0_readGoal_B (pf_X0_readGoal d) 599 595 (nI n) v3 σ = _
  unfold pf_X0_readGoal_B
  rw [g1, bnd2_some]
  exact goalE (c := 0) R1 hs h17 h16 _ _ _ _ (by rw [FU4]; omega) (by omega)
def alT : Nat → Nat → List Nat
  | 0, _ => []
  | j + 1, k => 44 :: (dec k ++ alT j (k + 1))
theorem tok44 : Tok t (44 :: s) 25 s := tok_sgn (by omega) (by omega) (by decide +kernel) (by decide +kernel)
theorem tok41 : Tok t (41 :: s) 27 s := tok_sgn (by omega) (by omega) (by decide +kernel) (by decide +kernel)
theorem tok40 : Tok t (40 :: s) 26 s := tok_sgn (by omega) (by omega) (by decide +kernel) (by decide +kernel)
theorem nD_al : ∀ j k, nD (alT j k ++ 41 :: s)
  | 0, _ => nD_c (by decide +kernel)
  | _ + 1, _ => nD_c (by decide +kernel)
theorem tk_al : ∀ j k, ∃ i s', Tok t (alT j k ++ 41 :: s) i s' ∧ i ≠ 18 ∧ i ≠ 17 ∧ i ≠ 16
  | 0, _ => ⟨27, s, tok41, by decide, by decide, by decide⟩
  | j + 1, k => ⟨25, _, tok44, by decide, by decide, by decide⟩
/-- so many of the first k steps -/
theorem group_ok {d n w : Nat} (hw : 1 ≤ w ∧ w ≤ 6) (hn : n ≤ 6) : ∀ (j k f : Nat) (σ : St), k + j = n → RP t σ (alT j k ++ 41 :: s) → TL σ 0 (fun u => cntB (fun x => u.testBit x) k) → 0 < k → f + k = 1000001 → ∃ g σ', pf_X0_readGroup_L62 (pf_X0_readGoal (d + 1)) (pf_X0_readGroup_b99 (pf_X0_readGoal (d + 1))) f 599 595 (nI n) 0 (nI w) 800 (nI k) σ = some (g, σ') ∧ RP t σ' s ∧ Un (fun q => q = 595 ∨ q = 600) σ σ' ∧ ∀ u, u < 64 → gbit g u = decide (w ≤ cntB (fun x => u.testBit x) n) := by
  intro j
  induction j with
  | zero =>
    intro k f σ hk hR hT h0 hf
    obtain ⟨f, rfl⟩ : ∃ g, f = g + 1 := ⟨f - 1, by omega⟩
    obtain rfl : k = n := by omega
    have hR' : RP t σ (41 :: s) := hR
    obtain ⟨v, g1, R1⟩ := rp_expect hR' tok41 (by omega)
    refine ⟨gL σ 600 w, sI σ 595 4 v, ?_, R1, Un.sI _ _ (Or.inl rfl), fun u hu => ?_⟩
    · rw [pf_X0_readGroup_L62, if_neg (show ¬ (800 : Int32) ≤ nI k from nI_ge (b := 800) (by omega) (by omega)), rp_no hR' tok41 (by omega), bnd2_some, i00]
      unfold pf_X0_readGroup_b99
      rw [g1, bind_some, show pf_X0_tallied 599 0 (nI w) (sI σ 595 4 v) = _ from tallied_ok (d := 0) (by omega) hw.2, bind_some, gL_sI]
      rw [show 7 * 0 + w = w by omega]
    · have := hT w hw.2 u hu
      rw [show 7 * 0 + w = w by omega] at this
      exact this
  | succ j ih =>
    intro k f σ hk hR hT h0 hf
    obtain ⟨f, rfl⟩ : ∃ g, f = g + 1 := ⟨f - 1, by omega⟩
    have hR' : RP t σ (44 :: (dec k ++ (alT j (k + 1) ++ 41 :: s))) := by
      rw [alT] at hR
      simpa using hR
    obtain ⟨v, g1, R1⟩ := rp_take hR' tok44 (by omega)
    obtain ⟨i0, s', t0, n1, n2, n3⟩ := tk_al (t := t) (s := s) j (k + 1)
    obtain ⟨v2, g2, R2⟩ := goal1 (d := d) (x := k) (n := n) (by omega) hn R1 (tnm_dec (by omega) (nD_al j (k + 1))) t0 n1 n2 n3 (0 + 1)
    have hT2 : TL (sI (sI σ 595 4 v) 595 4 v2) 0 (fun u => cntB (fun x => u.testBit x) k) := fun i hi u hu => by
      rw [gL_sI, gL_sI]; exact hT i hi u hu
    obtain ⟨σ3, e1, u3, T3, _⟩ := tally_ok (0 ||| swC.getD k 0) (by omega) hT2
    have T3' : TL σ3 0 (fun u => cntB (fun x => u.testBit x) (k + 1)) := T3.cg fun u hu => by
      show cntB (fun x => u.testBit x) k + (u.testBit k).toNat = _
      rw [gbit_or, gbit_0, Bool.false_or, swC_bit k (by omega) u hu]
    have R3 : RP t σ3 (alT j (k + 1) ++ 41 :: s) := R2.un u3 ⟨by omega, by omega, by omega, by omega⟩
    obtain ⟨g, σ', e4, R4, u4, b4⟩ := ih (k + 1) f σ3 (by omega) R3 T3' (by omega) (by omega)
    refine ⟨g, σ', ?_, R4, (Un.sI _ _ (Or.inl rfl)).trans ((Un.sI _ _ (Or.inl rfl)).trans ((u3.mono fun i hi => Or.inr hi).trans u4)), b4⟩
    rw [pf_X0_readGroup_L62, if_neg (show ¬ (800 : Int32) ≤ nI k from nI_ge (b := 800) (by omega) (by omega)), g1, bnd2_some, i10, g2, bnd2_some, show pf_X0_tally 599 0 _ _ = _ from e1, bind_some, bnd_e, nI_1]
    exact e4
/-- the goal's words -/
def gW2 (so le n : Nat) : List Nat := if so = 0 then dec le ++ cT 43 ++ (dec 0 ++ alT (n - 1) 1) ++ cT 44 else if so = 1 then cT 45 else cT 46
def gcl (so le n u : Nat) : Bool := if so = 0 then decide (le ≤ cntB (fun x => u.testBit x) n) else if so = 1 then (u.testBit 0 || (u.testBit 1 && u.testBit 2)) else (u.testBit 0 && u.testBit 1)
theorem cT43 : cT 43 = 32 :: (cT (tkS.getD 18 0) ++ [32, 40]) ∧ cT 44 = [41] ∧ cT 45 = dec 0 ++ 32 :: (cT (tkS.getD 16 0) ++ 32 :: (dec 1 ++ 32 :: (cT (tkS.getD 17 0) ++ 32 :: dec 2))) ∧ cT 46 = dec 0 ++ 32 :: (cT (tkS.getD 17 0) ++ 32 :: dec 1) ∧ cT 42 = cT (tkS.getD 10 0) ++ [32] := by decide +kernel
theorem goal_ok {so le n : Nat} (hso : so < 3) (hle : 1 ≤ le ∧ le ≤ n) (hn : 3 ≤ n ∧ n ≤ 6) {σ : St} (hR : RP t σ (gW2 so le n ++ 59 :: s)) : ∃ g σ', pf_X0_readGoal 8 599 595 (nI n) 0 σ = some (g, σ') ∧ RP t σ' (59 :: s) ∧ Un (fun q => q = 595 ∨ q = 600) σ σ' ∧ ∀ u, u < 64 → gbit g u = gcl so le n u := by
  show ∃ g σ', pf_X0_readGoal_B (pf_X0_readGoal 7) 599 595 (nI n) 0 σ = some (g, σ') ∧ _
  unfold pf_X0_readGoal_B
  unfold gW2 at hR
  rcases (by omega : so = 0 ∨ so = 1 ∨ so = 2) with rfl | rfl | rfl
  · rw [if_pos rfl, cT43.1, cT43.2.1] at hR
    have hR' : RP t σ (dec le ++ 32 :: (cT (tkS.getD 18 0) ++ 32 :: 40 :: (dec 0 ++ (alT (n - 1) 1 ++ 41 :: 59 :: s)))) := by simpa using hR
    have hT0 : Tnm t (dec le ++ 32 :: (cT (tkS.getD 18 0) ++ 32 :: 40 :: (dec 0 ++ (alT (n - 1) 1 ++ 41 :: 59 :: s)))) le _ := tnm_dec (by omega) (nD_32 _)
    obtain ⟨r0, hr0⟩ := rp_start hR'
    obtain ⟨v1, g1, R1⟩ := rp_number6 hR' hT0
    obtain ⟨v2, g2, R2⟩ := rp_take R1 (tok_word (by omega) (by omega) (nL_32 _)).sp (by omega)
    obtain ⟨v3, g3, R3⟩ := rp_open R2 tok40.sp (d := 0) (by omega)
    obtain ⟨σ4, e4, u4, T4, _⟩ := init_ok (pf_X0_readGoal 7) (pf_X0_readGroup_b45 (pf_X0_readGoal 7)) (d := 0) (by omega) (nI n) (nI le) 800 (sI (sI (sI σ 595 4 v1) 595 4 v2) 595 4 v3)
    have R4 := R3.un u4 ⟨by omega, by omega, by omega, by omega⟩
    obtain ⟨i0, s', t0, n1, n2, n3⟩ := tk_al (t := t) (s := 59 :: s) (n - 1) 1
    obtain ⟨v5, g5, R5⟩ := goal1 (d := 6) (x := 0) (n := n) (by omega) hn.2 R4 (tnm_dec (by omega) (nD_al (n - 1) 1)) t0 n1 n2 n3 (0 + 1)
    have hT5 : TL (sI σ4 595 4 v5) 0 (fun _ => 0) := fun i hi u hu => by
      rw [gL_sI]; exact T4 i hi u hu
    obtain ⟨σ6, e6, u6, T6, _⟩ := tally_ok (0 ||| swC.getD 0 0) (by omega) hT5
    have T6' : TL σ6 0 (fun u => cntB (fun x => u.testBit x) 1) := T6.cg fun u hu => by
      show 0 + (u.testBit 0).toNat = _
      rw [gbit_or, gbit_0, Bool.false_or, swC_bit 0 (by omega) u hu]
    have R6 := R5.un u6 ⟨by omega, by omega, by omega, by omega⟩
    obtain ⟨g, σ', e7, R7, u7, b7⟩ := group_ok (d := 6) (n := n) (w := le) (by omega) hn.2 (n - 1) 1 FU σ6 (by omega) R6 T6' (by omega) (by rw [FU4])
    have hs : pf_X0_readSingle (pf_X0_readGoal 7) 599 595 (nI n) 0 σ = some (g, σ') := by
      unfold pf_X0_readSingle
      rw [rp_ahead hR' hT0.tok, bind_some, if_pos rfl, hr0, bind_some, g1, bnd2_some, g2, bnd2_some, i10, if_neg (show ¬ nI le < (1 : Int32) from nI_nlt (a := le) (b := 1) (by omega) (by omega)), if_pos (show nI le ≤ (6 : Int32) from nI_le (b := 6) (by omega) (by omega))]
      unfold pf_X0_readSingle_b66 pf_X0_readGroup
      rw [show pf_X6_open 595 0 _ = _ from g3, bnd2_some, i10, show pf_X0_readGroup_L13 (pf_X0_readGoal 7) (pf_X0_readGroup_b45 (pf_X0_readGoal 7)) FU 599 595 (nI n) 0 (nI le) 800 0 _ = _ from e4]
      unfold pf_X0_readGroup_b45
      rw [show pf_X0_readGoal 7 599 595 (nI n) (nI 0 + 1) σ4 = _ from g5, bnd2_some, show pf_X0_tally 599 (nI 0) _ _ = _ from e6, bind_some, show pf_X0_readGroup_L62 (pf_X0_readGoal 7) (pf_X0_readGroup_b99 (pf_X0_readGoal 7)) FU 599 595 (nI n) (nI 0) (nI le) 800 1 σ6 = _ from e7, bnd2_some]
    rw [hs, bnd2_some]
    refine ⟨_, _, goalE (c := 0) R7 tok59 (by omega) (by omega) _ _ _ _ (by rw [FU4]; omega) (by omega), R7, ?_, fun u hu => ?_⟩
    · exact (Un.sI _ _ (Or.inl rfl)).trans ((Un.sI _ _ (Or.inl rfl)).trans ((Un.sI _ _ (Or.inl rfl)).trans ((u4.mono fun i hi => Or.inr hi).trans ((Un.sI _ _ (Or.inl rfl)).trans ((u6.mono fun i hi => Or.inr hi).trans u7)))))
    · rw [gbit_or, gbit_0, Bool.false_or, b7 u hu]; rfl
  · rw [if_neg (by omega), if_pos rfl, cT43.2.2.1] at hR
    have hR' : RP t σ (dec 0 ++ 32 :: (cT (tkS.getD 16 0) ++ 32 :: (dec 1 ++ 32 :: (cT (tkS.getD 17 0) ++ 32 :: (dec 2 ++ 59 :: s))))) := by simpa using hR
    have t16 : Tok t (32 :: (cT (tkS.getD 16 0) ++ 32 :: (dec 1 ++ 32 :: (cT (tkS.getD 17 0) ++ 32 :: (dec 2 ++ 59 :: s))))) 16 _ := (tok_word (by omega) (by omega) (nL_32 _)).sp
    have t17 : Tok t (32 :: (cT (tkS.getD 17 0) ++ 32 :: (dec 2 ++ 59 :: s))) 17 _ := (tok_word (by omega) (by omega) (nL_32 _)).sp
    obtain ⟨v1, g1, R1⟩ := single_ok (rc := pf_X0_readGoal 7) (x := 0) (n := n) (by omega) hn.2 hR' (tnm_dec (by omega) (nD_32 _)) t16 (by omega) 0
    obtain ⟨v2, g2, R2⟩ := rp_take R1 t16 (by omega)
    obtain ⟨v3, g3, R3⟩ := single_ok (rc := pf_X0_readGoal 7) (x := 1) (n := n) (by omega) hn.2 R2 (tnm_dec (by omega) (nD_32 _)).sp t17 (by omega) 0
    obtain ⟨v4, g4, R4⟩ := rp_take R3 t17 (by omega)
    obtain ⟨v5, g5, R5⟩ := single_ok (rc := pf_X0_readGoal 7) (x := 2) (n := n) (by omega) hn.2 R4 (tnm_dec (by omega) (nD_59 _)).sp tok59 (by omega) 0
    rw [g1, bnd2_some, FU4, pf_X0_readGoal_L15, if_neg (by decide), rp_no R1 t16 (by omega), bnd2_some, i00, g2, bnd2_some, i10, bnd_e, g3, bnd2_some]
    unfold pf_X0_readGoal_b83
    rw [bnd_e, pf_X0_readGoal_L15, if_neg (by decide), g4, bnd2_some, i10, g5, bnd2_some, bnd_e]
    unfold pf_X0_readGoal_b83
    rw [bnd_e]
    refine ⟨_, _, goalE (c := 2) R5 tok59 (by omega) (by omega) _ _ _ _ (by omega) (by omega), R5, ?_, fun u hu => ?_⟩
    · exact (Un.sI _ _ (Or.inl rfl)).trans ((Un.sI _ _ (Or.inl rfl)).trans ((Un.sI _ _ (Or.inl rfl)).trans ((Un.sI _ _ (Or.inl rfl)).trans (Un.sI _ _ (Or.inl rfl)))))
    · rw [gbit_or, gbit_or, gbit_0, Bool.false_or, gbit_and, swC_bit 0 (by omega) u hu, swC_bit 1 (by omega) u hu, swC_bit 2 (by omega) u hu]; rfl
  · rw [if_neg (by omega), if_neg (by omega), cT43.2.2.2.1] at hR
    have hR' : RP t σ (dec 0 ++ 32 :: (cT (tkS.getD 17 0) ++ 32 :: (dec 1 ++ 59 :: s))) := by simpa using hR
    have t17 : Tok t (32 :: (cT (tkS.getD 17 0) ++ 32 :: (dec 1 ++ 59 :: s))) 17 _ := (tok_word (by omega) (by omega) (nL_32 _)).sp
    obtain ⟨v1, g1, R1⟩ := single_ok (rc := pf_X0_readGoal 7) (x := 0) (n := n) (by omega) hn.2 hR' (tnm_dec (by omega) (nD_32 _)) t17 (by omega) 0
    obtain ⟨v4, g4, R4⟩ := rp_take R1 t17 (by omega)
    obtain ⟨v5, g5, R5⟩ := single_ok (rc := pf_X0_readGoal 7) (x := 1) (n := n) (by omega) hn.2 R4 (tnm_dec (by omega) (nD_59 _)).sp tok59 (by omega) 0
    rw [g1, bnd2_some, FU4, pf_X0_readGoal_L15, if_neg (by decide), g4, bnd2_some, i10, g5, bnd2_some, bnd_e]
    unfold pf_X0_readGoal_b83
    rw [bnd_e]
    refine ⟨_, _, goalE (c := 1) R5 tok59 (by omega) (by omega) _ _ _ _ (by omega) (by omega), R5, ?_, fun u hu => ?_⟩
    · exact (Un.sI _ _ (Or.inl rfl)).trans ((Un.sI _ _ (Or.inl rfl)).trans (Un.sI _ _ (Or.inl rfl)))
    · rw [gbit_or, gbit_0, Bool.false_or, gbit_and, swC_bit 0 (by omega) u hu, swC_bit 1 (by omega) u hu]; rfl
end
