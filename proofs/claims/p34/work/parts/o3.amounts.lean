theorem m_7_6 : Cond.classLink RL 40 "java/lang/StringBuilder" ∈ TB := mem_t7 6 (by decide +kernel)
theorem m_7_7 : Cond.methodLink RL 42 yJ4_init_da8c8 ∈ TB := mem_t7 7 (by decide +kernel)
theorem m_7_8 : Cond.methodLink RL 43 yJ4_append_cf468 ∈ TB := mem_t7 8 (by decide +kernel)
theorem m_7_9 : Cond.instanceMethod yJ4_append_cf468 ∈ TB := mem_t7 9 (by decide +kernel)
theorem m_7_10 : Cond.selects RJ4 yJ4_append_cf468 yJ4_append_cf468 ∈ TB := mem_t7 10 (by decide +kernel)
theorem m_7_11 : Cond.code yJ4_append_cf468 cJ4_append_cf468 2 (some (.object "java/lang/StringBuilder")) ∈ TB := mem_t7 11 (by decide +kernel)
theorem m_7_21 : Cond.methodLink RL 46 yJ4_append_bf812 ∈ TB := mem_t7 21 (by decide +kernel)
theorem m_7_22 : Cond.methodLink RL 49 yJ4_length_8abf5 ∈ TB := mem_t7 22 (by decide +kernel)
theorem m_7_25 : Cond.methodLink RL 54 yJ4_append_15ec4 ∈ TB := mem_t7 25 (by decide +kernel)
theorem m_7_26 : Cond.methodLink RL 57 yJ4_append_533cd ∈ TB := mem_t7 26 (by decide +kernel)
theorem m_7_27 : Cond.instanceMethod yJ4_append_533cd ∈ TB := mem_t7 27 (by decide +kernel)
theorem m_7_28 : Cond.selects RJ4 yJ4_append_533cd yJ4_append_533cd ∈ TB := mem_t7 28 (by decide +kernel)
theorem m_7_29 : Cond.code yJ4_append_533cd cJ4_append_533cd 2 (some (.object "java/lang/StringBuilder")) ∈ TB := mem_t7 29 (by decide +kernel)
theorem m_7_108 : Cond.methodLink RL 60 yJ4_toString_0e30d ∈ TB := mem_t7 108 (by decide +kernel)
theorem m_7_174 : Cond.selects RJ4 yJ4_length_8abf5 yJ4_length_8abf5 ∈ TB := mem_t7 174 (by decide +kernel)
theorem mv_J4_append_533cd : MV yJ4_append_533cd cJ4_append_533cd 2 (some (.object "java/lang/StringBuilder")) 1 := ⟨m_7_29, by decide +kernel, m_1_6, ⟨by decide +kernel, by decide +kernel, by decide +kernel⟩, by decide⟩
theorem mv_J4_append_cf468 : MV yJ4_append_cf468 cJ4_append_cf468 2 (some (.object "java/lang/StringBuilder")) 1 := ⟨m_7_11, by decide +kernel, m_1_6, ⟨by decide +kernel, by decide +kernel, by decide +kernel⟩, by decide⟩
/-! AMOUNTS of a step, as the law writes them -/
def amR (rv : Nat → Nat) (k : Nat) : List Nat := if rv k = 0 then [] else [32] ++ dec k ++ [32] ++ dec (rv k)
def amS (rv : Nat → Nat) : Nat → List Nat
  | 0 => []
  | k + 1 => amS rv k ++ amR rv k
def amW (word : List Nat) (rv : Nat → Nat) : List Nat := if (amS rv 3).length = 0 then [] else [32] ++ word ++ amS rv 3
theorem amR_len {rv : Nat → Nat} {k : Nat} (hk : k < 10) : (amR rv k).length ≤ 7 := by
  unfold amR
  split
  · exact Nat.zero_le _
  · have h1 := (dec_len (rv k)).2
    have h2 : (dec k).length = 1 := by unfold dec; rw [if_pos hk]; rfl
    simp only [List.length_append, List.length_cons, List.length_nil, h2]
    omega
theorem amS_len {rv : Nat → Nat} : ∀ k, k ≤ 10 → (amS rv k).length ≤ 7 * k
  | 0, _ => Nat.le_refl _
  | k + 1, hk => by
    have h1 := amS_len (rv := rv) k (by omega)
    have h2 := amR_len (rv := rv) (k := k) (by omega)
    unfold amS
    rw [List.length_append]
    omega
theorem asc1 {x : Nat} (h : x < 128) : asc [x] := fun i => by
  rw [List.getD_eq_getElem?_getD]
  cases i with
  | zero => exact h
  | succ i => exact Nat.zero_lt_succ _
theorem asc0 : asc [] := fun i => by
  rw [List.getD_eq_getElem?_getD]
  exact Nat.zero_lt_succ _
theorem amR_asc {rv : Nat → Nat} {k : Nat} (hk : k < 10) (h : rv k < 10000) : asc (amR rv k) := by
  unfold amR
  split
  · exact asc0
  · exact asc_app (asc_app (asc_app (asc1 (by decide)) (dec_asc (by omega))) (asc1 (by decide))) (dec_asc h)
theorem amS_asc {rv : Nat → Nat} (h : ∀ k, rv k < 10000) : ∀ k, k ≤ 10 → asc (amS rv k)
  | 0, _ => asc0
  | k + 1, hk => by
    unfold amS
    exact asc_app (amS_asc h k (by omega)) (amR_asc (by omega) (h k))
set_option maxHeartbeats 8000000 in
theorem ch_amounts {G : Gt} {l : Launch} {wa wb r sz : Nat} {word : List Nat} {f : Nat → Int32} {rv : Nat → Nat} (hG : AllA G) (hwd : asc word) (hwl : word.length ≤ 20) (hrv : ∀ k, rv k < 10000) (hf : ∀ i, i < 3 → f i = nI (rv i)) : CtH G l yL_amounts cL_amounts 4 (some (.object "java/lang/String")) 9 40 4000 [.ref wa, .ref r] sz (fun _ => False) (fun U => SF wa wb word U U.heap ∧ va_at (gDD G) vwCl (r, .inl (gty G 0, 3, .inl f)) U.heap ∧ EnvD G U) (fun ov H => ∃ a, ov = some (.ref a) ∧ ((a = gsK G 29 ∧ amW word rv = []) ∨ ∃ w, sz ≤ a ∧ sz ≤ w ∧ ST G a w (amW word rv) H)) := by
  refine met_Ha (by decide +kernel) (Nat.le_of_ble_eq_true rfl) rfl (Or.inl ⟨_, rfl⟩) ?_
  intro p e s m args below meth c Q ls X hnm hsz hP hr hl
  have hx := X.1.1
  have hb := X.1.2.1
  have hgz : gz G ≤ sz := by rw [← hsz]; exact X.2.1.2.1
  have hA : ∀ q, q < s.heap.size → frA (fun _ => False) sz q → gA G q := fun q h8 h9 => hG q (by simp only [frA, false_or] at h9; omega)
  have hS : va_S (frA (fun _ => False) sz) s.heap s.heap [] := va_S.rf
  have hl : lv_has ls 4 [(0, .ref wa), (1, .ref r)] := hl
  obtain ⟨g0, fr, hD⟩ := hP
  generalize hmc : 40 = mc1 at X hr
  generalize hms : 4000 = ms1 at X hr
  have hwr : wa < s.heap.size ∧ wb < s.heap.size ∧ r < s.heap.size := ⟨g0.lt.1, g0.lt.2, fr.lt⟩
  have hend : ∀ (b v : Nat) (H : Heap) (locs : List Loc) (cells slots : Nat) (ls : Array Slot), sz ≤ b → sz ≤ v → b ≠ v → SF wa wb word s H → SBs G b v (amS rv 3) H → va_S (frA (fun _ => False) sz) s.heap H locs → cells ≤ 14 → slots ≤ 20 + 900 → lv_has ls 4 [(0, .ref wa), (1, .ref r), (2, .ref b)] → W p l e (rmC 9 mc1 ms1) s m args below meth c H locs cells slots Q (F0 m 49 ls []) := by
    intro b v H locs cells slots ls hb1 hv1 hbv g0 hsb hS hc hs hl
    have hal := amS_len (rv := rv) 3 (by decide)
    have haa := amS_asc hrv 3 (by decide)
    refine lv_aload_n hx hb dL_amounts_49 rfl (lv_at hl 2 rfl) ?_
    refine callP_R (As := []) X hS hA (Mv.h fun K => va_at (gDD G) vwCl (b, .inr (13, [.ref v, .int 0, .int 0, .int (nI (amS rv 3).length)])) K) (fun U hU hv => by rw [hU]; exact hsb.obj) (p_recv X hsb.obj (r := (RJ4, TJ4, 4)) rfl) m_7_22 m_4_112 m_7_174 mv_J4_length_8abf5 (cp_SBlen (v := v) (n := (amS rv 3).length)) (by decide) rfl rfl (Nat.le_of_ble_eq_true rfl) hl.1 dL_amounts_50 (c_R (by omega)) (s_R (by omega)) ?_
    refine lv_if_ne (tgt := 61) hx hb dL_amounts_53 (by decide) (fun hne => ?_) (fun heq => ?_)
    rotate_left
    · have h0 : (amS rv 3).length = 0 := by
        by_cases c : (amS rv 3).length = 0
        · exact c
        · exact absurd heq (nI_ne0 (by omega) (by omega))
      refine p_ldcS (k := 29) X (by decide) rfl rfl dL_amounts_56 ?_
      refine lv_goto (tgt := 84) hx hb dL_amounts_58 (by decide) ?_
      exact hr _ _ _ _ _ _ _ dL_amounts_84 ⟨_, rfl, Or.inl ⟨rfl, if_pos h0⟩⟩ hS (by omega) (by omega)
    · have h0 : ¬ (amS rv 3).length = 0 := fun q => hne (by rw [q]; rfl)
      have hw2 : amW word rv = [32] ++ word ++ amS rv 3 := if_neg h0
      refine p_new (ci := 13) (fs := [.null, .int 0, .int 0, .int 0]) X inTB_SB tyJ4 tyJ4_ok rfl (by decide +kernel) m_7_6 m_3_171 m_1_6 (c_R (by omega)) (s_R (by omega)) dL_amounts_61 fun H2 nH2 zH2 oH2 => ?_
      have lq1_g0_0 := g0.lt.1
      have lq1_g0_1 := g0.lt.2
      have lq1_hsb_0 := hsb.lt.1
      have lq1_hsb_1 := hsb.lt.2
      have lq1_0 := hS.1
      replace g0 := g0.kept (oH2 _ lq1_g0_0) (oH2 _ lq1_g0_1)
      replace hsb := hsb.kept (oH2 _ lq1_hsb_0) (oH2 _ lq1_hsb_1)
      replace hS := hS.new zH2 oH2
      clear oH2
      generalize hq_q1 : Array.size H = q1 at nH2 zH2 lq1_0 lq1_g0_0 lq1_g0_1 lq1_hsb_0 lq1_hsb_1 ⊢
      have fo3 : va_at (gDD G) vwCl (q1, .inr (13, [.null, .int 0, .int 0, .int 0])) H2 := nH2
      clear nH2
      refine lv_dup hx hb dL_amounts_64 rfl ?_
      refine callH_I (As := []) X hS hA (Mv.h _) (fun U hU hv => by rw [hU]; exact fo3) (fun q h9 => by simp only [frA, false_or] at h9 ⊢; have := hS.1; omega) m_7_7 m_3_173 mv_J4_init_da8c8 rfl (ch_SBinit hG (by omega)) (by decide) rfl rfl (Nat.le_of_ble_eq_true rfl) hl.1 dL_amounts_65 (c_R (by omega)) (s_R (by omega)) fun vH4 H4 locs qH4 zH4 oH4 hS2 => ?_
      have lH4_g0_0 := g0.lt.1
      have lH4_g0_1 := g0.lt.2
      have lH4_hsb_0 := hsb.lt.1
      have lH4_hsb_1 := hsb.lt.2
      have lH4_fo3_0 := fo3.lt
      have lH4_0 := hS.1
      replace g0 := g0.kept (oH4 _ lH4_g0_0 (fun h9 => by first | exact h9.elim | omega | (dsimp only at h9; omega))) (oH4 _ lH4_g0_1 (fun h9 => by first | exact h9.elim | omega | (dsimp only at h9; omega)))
      replace hsb := hsb.kept (oH4 _ lH4_hsb_0 (fun h9 => by first | exact h9.elim | omega | (dsimp only at h9; omega))) (oH4 _ lH4_hsb_1 (fun h9 => by first | exact h9.elim | omega | (dsimp only at h9; omega)))
      replace hS := hS2; clear hS2 oH4
      clear fo3
      obtain ⟨rfl, v2, hv2, h1, h1b⟩ := qH4
      have hs2 : SBs G q1 v2 [] _ := ⟨_, _, ⟨h1, h1b⟩, (fun i hi => absurd hi (Nat.not_lt_zero i)), bfit0, Nat.zero_le _, (by decide)⟩
      have hz0 : ([] : List Nat).length = 0 := rfl
      refine p_ldcS (k := 30) X (by decide) rfl rfl dL_amounts_68 ?_
      have hk0 := sf_const X hS hA (k := 30) (by decide)
      have hk1 : (cT 30).length = 1 := rfl
      have hk2 := sf_const X (va_S.rf (A := frA (fun _ => False) sz)) (fun q h8 h9 => hA q h8 h9) (k := 30) (by decide)
      have hk3 : gsK G 30 < s.heap.size ∧ gsV G 30 < s.heap.size := hk2.lt
      refine callH_V (As := [.ref (gsK G 30)]) X hS hA (Mv.and (Mv.h fun K => SBs G q1 v2 [] K) SF.mv) (fun U hU hv => by rw [hU]; exact ⟨hs2, hk0.moved hv⟩) (fun q h9 => by simp only [frA, false_or] at h9 ⊢; have := hS.1; omega) (p_recv X hs2.obj (r := (RJ4, TJ4, 4)) rfl) m_7_25 m_3_202 m_3_203 mv_J4_append_15ec4 (ch_app (t := []) (u := cT 30) (v := v2) (bt := gsV G 30) hG (by omega) (by omega) (cT_asc (by decide)) (by omega) (by omega) (by omega) (by omega) (by omega) (by omega)) (by decide) rfl rfl (Nat.le_of_ble_eq_true rfl) hl.1 dL_amounts_70 (c_R (by omega)) (s_R (by omega)) fun vH5 H5 locs qH5 zH5 oH5 hS2 => ?_
      have lH5_g0_0 := g0.lt.1
      have lH5_g0_1 := g0.lt.2
      have lH5_hsb_0 := hsb.lt.1
      have lH5_hsb_1 := hsb.lt.2
      have lH5_hs2_0 := hs2.lt.1
      have lH5_hs2_1 := hs2.lt.2
      have lH5_0 := hS.1
      replace g0 := g0.kept (oH5 _ lH5_g0_0 (fun h9 => by first | exact h9.elim | omega | (dsimp only at h9; omega))) (oH5 _ lH5_g0_1 (fun h9 => by first | exact h9.elim | omega | (dsimp only at h9; omega)))
      replace hsb := hsb.kept (oH5 _ lH5_hsb_0 (fun h9 => by first | exact h9.elim | omega | (dsimp only at h9; omega))) (oH5 _ lH5_hsb_1 (fun h9 => by first | exact h9.elim | omega | (dsimp only at h9; omega)))
      replace hS := hS2; clear hS2 oH5
      clear hs2
      obtain ⟨rfl, v3, hv3, hs2⟩ := qH5
      rw [List.nil_append, show cT 30 = [32] from rfl] at hs2
      have hz1 : ([32] : List Nat).length = 1 := rfl
      refine lv_aload_n hx hb dL_amounts_73 rfl (lv_at hl 0 rfl) ?_
      refine callH_V (As := [.ref wa]) X hS hA (Mv.and (Mv.h fun K => SBs G q1 v3 [32] K) SF.mv) (fun U hU hv => by rw [hU]; exact ⟨hs2, g0.moved hv⟩) (fun q h9 => by simp only [frA, false_or] at h9 ⊢; have := hS.1; omega) (p_recv X hs2.obj (r := (RJ4, TJ4, 4)) rfl) m_7_25 m_3_202 m_3_203 mv_J4_append_15ec4 (ch_app (t := [32]) (u := word) (v := v3) (bt := wb) hG (by omega) (by omega) hwd (by omega) (by omega) (by omega) (by omega) (by omega) (by omega)) (by decide) rfl rfl (Nat.le_of_ble_eq_true rfl) hl.1 dL_amounts_74 (c_R (by omega)) (s_R (by omega)) fun vH6 H6 locs qH6 zH6 oH6 hS2 => ?_
      have lH6_g0_0 := g0.lt.1
      have lH6_g0_1 := g0.lt.2
      have lH6_hsb_0 := hsb.lt.1
      have lH6_hsb_1 := hsb.lt.2
      have lH6_hs2_0 := hs2.lt.1
      have lH6_hs2_1 := hs2.lt.2
      have lH6_0 := hS.1
      replace g0 := g0.kept (oH6 _ lH6_g0_0 (fun h9 => by first | exact h9.elim | omega | (dsimp only at h9; omega))) (oH6 _ lH6_g0_1 (fun h9 => by first | exact h9.elim | omega | (dsimp only at h9; omega)))
      replace hsb := hsb.kept (oH6 _ lH6_hsb_0 (fun h9 => by first | exact h9.elim | omega | (dsimp only at h9; omega))) (oH6 _ lH6_hsb_1 (fun h9 => by first | exact h9.elim | omega | (dsimp only at h9; omega)))
      replace hS := hS2; clear hS2 oH6
      clear hs2
      obtain ⟨rfl, v4, hv4, hs2⟩ := qH6
      have hz2 : ([32] ++ word).length = 1 + word.length := by rw [List.length_append]; rfl
      refine lv_aload_n hx hb dL_amounts_77 rfl (lv_at hl 2 rfl) ?_
      refine callH_V (As := [.ref b]) X hS hA (Mv.and (Mv.h fun K => SBs G q1 v4 ([32] ++ word) K) (Mv.h fun K => SBs G b v (amS rv 3) K)) (fun U hU hv => by rw [hU]; exact ⟨hs2, hsb⟩) (fun q h9 => by simp only [frA, false_or] at h9 ⊢; have := hS.1; omega) (p_recv X hs2.obj (r := (RJ4, TJ4, 4)) rfl) m_7_26 m_7_27 m_7_28 mv_J4_append_533cd (ch_appO (t := [32] ++ word) (u := amS rv 3) (v := v4) (v2 := v) hG (by omega) (by omega) haa (by omega) (by omega) (by omega) (by omega) (by omega) (by omega)) (by decide) rfl rfl (Nat.le_of_ble_eq_true rfl) hl.1 dL_amounts_78 (c_R (by omega)) (s_R (by omega)) fun vH7 H7 locs qH7 zH7 oH7 hS2 => ?_
      have lH7_g0_0 := g0.lt.1
      have lH7_g0_1 := g0.lt.2
      have lH7_hsb_0 := hsb.lt.1
      have lH7_hsb_1 := hsb.lt.2
      have lH7_hs2_0 := hs2.lt.1
      have lH7_hs2_1 := hs2.lt.2
      have lH7_0 := hS.1
      replace g0 := g0.kept (oH7 _ lH7_g0_0 (fun h9 => by first | exact h9.elim | omega | (dsimp only at h9; omega))) (oH7 _ lH7_g0_1 (fun h9 => by first | exact h9.elim | omega | (dsimp only at h9; omega)))
      replace hsb := hsb.kept (oH7 _ lH7_hsb_0 (fun h9 => by first | exact h9.elim | omega | (dsimp only at h9; omega))) (oH7 _ lH7_hsb_1 (fun h9 => by first | exact h9.elim | omega | (dsimp only at h9; omega)))
      replace hS := hS2; clear hS2 oH7
      clear hs2
      obtain ⟨rfl, v5, hv5, hs2⟩ := qH7
      have hz3 : ([32] ++ word ++ amS rv 3).length = 1 + word.length + (amS rv 3).length := by rw [List.length_append, hz2]
      refine callH_V (As := []) X hS hA (Mv.h _) (fun U hU hv => by rw [hU]; exact hs2) (fun q h9 => by simp only [frA, false_or] at h9 ⊢; have := hS.1; omega) (p_recv X hs2.obj (r := (RJ4, TJ4, 4)) rfl) m_7_108 m_4_91 m_4_92 mv_J4_toString_0e30d (ch_toString (t := [32] ++ word ++ amS rv 3) (v := v5) hG (by omega)) (by decide) rfl rfl (Nat.le_of_ble_eq_true rfl) hl.1 dL_amounts_81 (c_R (by omega)) (s_R (by omega)) fun vH8 H8 locs qH8 zH8 oH8 hS2 => ?_
      have lH8_g0_0 := g0.lt.1
      have lH8_g0_1 := g0.lt.2
      have lH8_hsb_0 := hsb.lt.1
      have lH8_hsb_1 := hsb.lt.2
      have lH8_hs2_0 := hs2.lt.1
      have lH8_hs2_1 := hs2.lt.2
      have lH8_0 := hS.1
      replace g0 := g0.kept (oH8 _ lH8_g0_0 (fun h9 => by first | exact h9.elim | omega | (dsimp only at h9; omega))) (oH8 _ lH8_g0_1 (fun h9 => by first | exact h9.elim | omega | (dsimp only at h9; omega)))
      replace hsb := hsb.kept (oH8 _ lH8_hsb_0 (fun h9 => by first | exact h9.elim | omega | (dsimp only at h9; omega))) (oH8 _ lH8_hsb_1 (fun h9 => by first | exact h9.elim | omega | (dsimp only at h9; omega)))
      replace hS := hS2; clear hS2 oH8
      clear hs2
      obtain ⟨a6, b6, rfl, ha6, hb6, hst⟩ := qH8
      exact hr _ _ _ _ _ _ _ dL_amounts_84 ⟨_, rfl, Or.inr ⟨b6, by omega, by omega, by rw [hw2]; exact hst⟩⟩ hS (by omega) (by omega)
  have loop : ∀ (j k : Nat), k + j = 3 → ∀ (b v : Nat) (H : Heap) (locs : List Loc) (cells slots : Nat) (ls : Array Slot), sz ≤ b → sz ≤ v → b ≠ v → SF wa wb word s H → va_at (gDD G) vwCl (r, .inl (gty G 0, 3, .inl f)) H → SBs G b v (amS rv k) H → va_S (frA (fun _ => False) sz) s.heap H locs → cells ≤ 2 + 4 * k → slots ≤ 20 + 300 * k → lv_has ls 4 [(0, .ref wa), (1, .ref r), (2, .ref b), (3, .int (nI k))] → W p l e (rmC 9 mc1 ms1) s m args below meth c H locs cells slots Q (F0 m 10 ls []) := by
    intro j
    induction j with
    | zero =>
      intro k hk b v H locs cells slots ls hb1 hv1 hbv g0 fr hsb hS hc hs hl
      obtain rfl : k = 3 := by omega
      refine lv_iload_n hx hb dL_amounts_10 rfl (lv_at hl 3 rfl) ?_
      refine lv_iconst (v := 3) hx hb dL_amounts_11 (by decide) ?_
      refine lv_icmp_ge (tgt := 49) hx hb dL_amounts_12 (by decide) (fun _ => ?_) (fun hc => absurd (by decide +kernel) hc)
      exact hend b v H locs cells slots ls hb1 hv1 hbv g0 hsb hS (by omega) (by omega) (lv_sub hl [0, 1, 2] rfl)
    | succ j ih =>
      intro k hk b v H locs cells slots ls hb1 hv1 hbv g0 fr hsb hS hc hs hl
      have hk3 : k < 3 := by omega
      have hal := amS_len (rv := rv) k (by omega)
      refine lv_iload_n hx hb dL_amounts_10 rfl (lv_at hl 3 rfl) ?_
      refine lv_iconst (v := 3) hx hb dL_amounts_11 (by decide) ?_
      refine lv_icmp_ge (tgt := 49) hx hb dL_amounts_12 (by decide) (fun hc => absurd hc (by rw [show (3 : Int32) = nI 3 from rfl]; exact nI_ge hk3 (by decide))) (fun _ => ?_)
      refine lv_aload_n hx hb dL_amounts_15 rfl (lv_at hl 1 rfl) ?_
      refine lv_iload_n hx hb dL_amounts_16 rfl (lv_at hl 3 rfl) ?_
      refine p_iald (t := 0) X fr rfl (nI_in hk3 (by decide)) dL_amounts_17 ?_
      refine lv_to (y := nI (rv k)) (by rw [nI_clamp (by omega)]; exact hf k hk3) ?_
      have hrk := hrv k
      refine lv_if_le (tgt := 43) hx hb dL_amounts_18 (by decide) (fun hle => ?_) (fun hgt => ?_)
      · have h0 : rv k = 0 := by
          by_cases c : rv k = 0
          · exact c
          · exact absurd hle (nI_nle (by omega) (by omega))
        have he : amS rv (k + 1) = amS rv k := by
          show amS rv k ++ amR rv k = _
          unfold amR
          rw [if_pos h0, List.append_nil]
        refine lv_iinc (lv' := [(3, .int (nI (k + 1))), (0, .ref wa), (1, .ref r), (2, .ref b)]) (k := 3) hx hb dL_amounts_43 hl rfl (nI_1 k) (by decide) rfl ?_
        clear hl; intro ls hl
        refine lv_goto (tgt := 10) hx hb dL_amounts_46 (by decide) ?_
        exact ih (k + 1) (by omega) b v H locs cells slots ls hb1 hv1 hbv g0 fr (by rw [he]; exact hsb) hS (by omega) (by omega) (lv_sub hl [1, 2, 3, 0] rfl)
      · have h0 : ¬ rv k = 0 := fun q => hgt (by rw [q]; exact Int32.le_refl _)
        have he : amS rv (k + 1) = amS rv k ++ [32] ++ dec k ++ [32] ++ dec (rv k) := by
          show amS rv k ++ amR rv k = _
          unfold amR
          rw [if_neg h0]
          simp only [List.append_assoc]
        have hd1 : (dec k).length = 1 := by unfold dec; rw [if_pos (by omega)]; rfl
        have hd2 := (dec_len (rv k)).2
        have hL1 : (amS rv k ++ [32]).length = (amS rv k).length + 1 := List.length_append
        have hL2 : (amS rv k ++ [32] ++ dec k).length = (amS rv k).length + 2 := by rw [List.length_append, hL1, hd1]
        have hL3 : (amS rv k ++ [32] ++ dec k ++ [32]).length = (amS rv k).length + 3 := by rw [List.length_append, hL2]; rfl
        refine lv_aload_n hx hb dL_amounts_21 rfl (lv_at hl 2 rfl) ?_
        refine lv_bipush (v := 32) hx hb dL_amounts_22 (by decide) ?_
        refine lv_to (y := nI 32) rfl ?_
        refine callH_V (As := [.int (nI 32)]) X hS hA (Mv.h _) (fun U hU hv => by rw [hU]; exact hsb) (fun q h9 => by simp only [frA, false_or] at h9 ⊢; have := hS.1; omega) (p_recv X hsb.obj (r := (RJ4, TJ4, 4)) rfl) m_7_8 m_7_9 m_7_10 mv_J4_append_cf468 (ch_appC (t := amS rv k) (v := v) (x := 32) hG (by omega) (by omega) (by decide) (by omega) (by omega)) (by decide) rfl rfl (Nat.le_of_ble_eq_true rfl) hl.1 dL_amounts_24 (c_R (by omega)) (s_R (by omega)) fun vH1 H1 locs qH1 zH1 oH1 hS2 => ?_
        have lH1_g0_0 := g0.lt.1
        have lH1_g0_1 := g0.lt.2
        have lH1_fr_0 := fr.lt
        have lH1_hsb_0 := hsb.lt.1
        have lH1_hsb_1 := hsb.lt.2
        have lH1_0 := hS.1
        replace g0 := g0.kept (oH1 _ lH1_g0_0 (fun h9 => by first | exact h9.elim | omega | (dsimp only at h9; omega))) (oH1 _ lH1_g0_1 (fun h9 => by first | exact h9.elim | omega | (dsimp only at h9; omega)))
        replace fr := fr.kept (oH1 _ lH1_fr_0 (fun h9 => by first | exact h9.elim | omega | (dsimp only at h9; omega)))
        replace hS := hS2; clear hS2 oH1
        clear hsb
        obtain ⟨rfl, w1, hw1, hsb⟩ := qH1
        refine lv_iload_n hx hb dL_amounts_27 rfl (lv_at hl 3 rfl) ?_
        refine callH_V (As := [.int (nI k)]) X hS hA (Mv.and (Mv.h fun K => SBs G b w1 (amS rv k ++ [32]) K) EnvD.mv) (fun U hU hv => ⟨by rw [hU]; exact hsb, hD.to hS hA hU hv⟩) (fun q h9 => by simp only [frA, false_or] at h9 ⊢; have := hS.1; omega) (p_recv X hsb.obj (r := (RJ4, TJ4, 4)) rfl) m_7_21 m_4_66 m_4_67 mv_J4_append_bf812 (ch_appI (t := amS rv k ++ [32]) (v := w1) (n := k) hG (by omega) (by omega) (by omega) (by omega) (by omega)) (by decide) rfl rfl (Nat.le_of_ble_eq_true rfl) hl.1 dL_amounts_28 (c_R (by omega)) (s_R (by omega)) fun vH2 H2 locs qH2 zH2 oH2 hS2 => ?_
        have lH2_g0_0 := g0.lt.1
        have lH2_g0_1 := g0.lt.2
        have lH2_fr_0 := fr.lt
        have lH2_hsb_0 := hsb.lt.1
        have lH2_hsb_1 := hsb.lt.2
        have lH2_0 := hS.1
        replace g0 := g0.kept (oH2 _ lH2_g0_0 (fun h9 => by first | exact h9.elim | omega | (dsimp only at h9; omega))) (oH2 _ lH2_g0_1 (fun h9 => by first | exact h9.elim | omega | (dsimp only at h9; omega)))
        replace fr := fr.kept (oH2 _ lH2_fr_0 (fun h9 => by first | exact h9.elim | omega | (dsimp only at h9; omega)))
        replace hS := hS2; clear hS2 oH2
        clear hsb
        obtain ⟨rfl, w2, hw2, hsb⟩ := qH2
        refine lv_bipush (v := 32) hx hb dL_amounts_31 (by decide) ?_
        refine lv_to (y := nI 32) rfl ?_
        refine callH_V (As := [.int (nI 32)]) X hS hA (Mv.h _) (fun U hU hv => by rw [hU]; exact hsb) (fun q h9 => by simp only [frA, false_or] at h9 ⊢; have := hS.1; omega) (p_recv X hsb.obj (r := (RJ4, TJ4, 4)) rfl) m_7_8 m_7_9 m_7_10 mv_J4_append_cf468 (ch_appC (t := amS rv k ++ [32] ++ dec k) (v := w2) (x := 32) hG (by omega) (by omega) (by decide) (by omega) (by omega)) (by decide) rfl rfl (Nat.le_of_ble_eq_true rfl) hl.1 dL_amounts_33 (c_R (by omega)) (s_R (by omega)) fun vH3 H3 locs qH3 zH3 oH3 hS2 => ?_
        have lH3_g0_0 := g0.lt.1
        have lH3_g0_1 := g0.lt.2
        have lH3_fr_0 := fr.lt
        have lH3_hsb_0 := hsb.lt.1
        have lH3_hsb_1 := hsb.lt.2
        have lH3_0 := hS.1
        replace g0 := g0.kept (oH3 _ lH3_g0_0 (fun h9 => by first | exact h9.elim | omega | (dsimp only at h9; omega))) (oH3 _ lH3_g0_1 (fun h9 => by first | exact h9.elim | omega | (dsimp only at h9; omega)))
        replace fr := fr.kept (oH3 _ lH3_fr_0 (fun h9 => by first | exact h9.elim | omega | (dsimp only at h9; omega)))
        replace hS := hS2; clear hS2 oH3
        clear hsb
        obtain ⟨rfl, w3, hw3, hsb⟩ := qH3
        refine lv_aload_n hx hb dL_amounts_36 rfl (lv_at hl 1 rfl) ?_
        refine lv_iload_n hx hb dL_amounts_37 rfl (lv_at hl 3 rfl) ?_
        refine p_iald (t := 0) X fr rfl (nI_in hk3 (by decide)) dL_amounts_38 ?_
        refine lv_to (y := nI (rv k)) (by rw [nI_clamp (by omega)]; exact hf k hk3) ?_
        refine callH_V (As := [.int (nI (rv k))]) X hS hA (Mv.and (Mv.h fun K => SBs G b w3 (amS rv k ++ [32] ++ dec k ++ [32]) K) EnvD.mv) (fun U hU hv => ⟨by rw [hU]; exact hsb, hD.to hS hA hU hv⟩) (fun q h9 => by simp only [frA, false_or] at h9 ⊢; have := hS.1; omega) (p_recv X hsb.obj (r := (RJ4, TJ4, 4)) rfl) m_7_21 m_4_66 m_4_67 mv_J4_append_bf812 (ch_appI (t := amS rv k ++ [32] ++ dec k ++ [32]) (v := w3) (n := rv k) hG (by omega) (by omega) (hrk) (by omega) (by omega)) (by decide) rfl rfl (Nat.le_of_ble_eq_true rfl) hl.1 dL_amounts_39 (c_R (by omega)) (s_R (by omega)) fun vH4 H4 locs qH4 zH4 oH4 hS2 => ?_
        have lH4_g0_0 := g0.lt.1
        have lH4_g0_1 := g0.lt.2
        have lH4_fr_0 := fr.lt
        have lH4_hsb_0 := hsb.lt.1
        have lH4_hsb_1 := hsb.lt.2
        have lH4_0 := hS.1
        replace g0 := g0.kept (oH4 _ lH4_g0_0 (fun h9 => by first | exact h9.elim | omega | (dsimp only at h9; omega))) (oH4 _ lH4_g0_1 (fun h9 => by first | exact h9.elim | omega | (dsimp only at h9; omega)))
        replace fr := fr.kept (oH4 _ lH4_fr_0 (fun h9 => by first | exact h9.elim | omega | (dsimp only at h9; omega)))
        replace hS := hS2; clear hS2 oH4
        clear hsb
        obtain ⟨rfl, w4, hw4, hsb⟩ := qH4
        refine lv_pop hx hb dL_amounts_42 rfl ?_
        refine lv_iinc (lv' := [(3, .int (nI (k + 1))), (0, .ref wa), (1, .ref r), (2, .ref b)]) (k := 3) hx hb dL_amounts_43 hl rfl (nI_1 k) (by decide) rfl ?_
        clear hl; intro ls hl
        refine lv_goto (tgt := 10) hx hb dL_amounts_46 (by decide) ?_
        exact ih (k + 1) (by omega) b w4 _ _ _ _ ls hb1 (by omega) (by omega) g0 fr (by rw [he]; exact hsb) hS (by omega) (by omega) (lv_sub hl [1, 2, 3, 0] rfl)
  refine p_new (ci := 13) (fs := [.null, .int 0, .int 0, .int 0]) X inTB_SB tyJ4 tyJ4_ok rfl (by decide +kernel) m_7_6 m_3_171 m_1_6 (c_R (by omega)) (s_R (by omega)) dL_amounts_0 fun H2 nH2 zH2 oH2 => ?_
  have lq1_g0_0 := g0.lt.1
  have lq1_g0_1 := g0.lt.2
  have lq1_fr_0 := fr.lt
  have lq1_0 := hS.1
  replace g0 := g0.kept (oH2 _ lq1_g0_0) (oH2 _ lq1_g0_1)
  replace fr := fr.kept (oH2 _ lq1_fr_0)
  replace hS := hS.new zH2 oH2
  clear oH2
  generalize hq_q1 : Array.size s.heap = q1 at nH2 zH2 lq1_0 lq1_g0_0 lq1_g0_1 lq1_fr_0 ⊢
  have fo3 : va_at (gDD G) vwCl (q1, .inr (13, [.null, .int 0, .int 0, .int 0])) H2 := nH2
  clear nH2
  refine lv_dup hx hb dL_amounts_3 rfl ?_
  refine callH_I (As := []) X hS hA (Mv.h _) (fun U hU hv => by rw [hU]; exact fo3) (fun q h9 => by simp only [frA, false_or] at h9 ⊢; have := hS.1; omega) m_7_7 m_3_173 mv_J4_init_da8c8 rfl (ch_SBinit hG (by omega)) (by decide) rfl rfl (Nat.le_of_ble_eq_true rfl) hl.1 dL_amounts_4 (c_R (by omega)) (s_R (by omega)) fun vH4 H4 locs qH4 zH4 oH4 hS2 => ?_
  have lH4_g0_0 := g0.lt.1
  have lH4_g0_1 := g0.lt.2
  have lH4_fr_0 := fr.lt
  have lH4_fo3_0 := fo3.lt
  have lH4_0 := hS.1
  replace g0 := g0.kept (oH4 _ lH4_g0_0 (fun h9 => by first | exact h9.elim | omega | (dsimp only at h9; omega))) (oH4 _ lH4_g0_1 (fun h9 => by first | exact h9.elim | omega | (dsimp only at h9; omega)))
  replace fr := fr.kept (oH4 _ lH4_fr_0 (fun h9 => by first | exact h9.elim | omega | (dsimp only at h9; omega)))
  replace hS := hS2; clear hS2 oH4
  clear fo3
  obtain ⟨rfl, v2, hv2, h1, h1b⟩ := qH4
  have hs2 : SBs G q1 v2 [] _ := ⟨_, _, ⟨h1, h1b⟩, (fun i hi => absurd hi (Nat.not_lt_zero i)), bfit0, Nat.zero_le _, (by decide)⟩
  refine lv_astore_n (lv' := [(2, .ref q1), (0, .ref wa), (1, .ref r)]) hx hb dL_amounts_7 rfl hl (by decide) rfl ?_
  clear hl; intro ls hl
  refine lv_iconst (v := 0) hx hb dL_amounts_8 (by decide) ?_
  refine lv_istore_n (lv' := [(3, .int 0), (2, .ref q1), (0, .ref wa), (1, .ref r)]) hx hb dL_amounts_9 rfl hl (by decide) rfl ?_
  clear hl; intro ls hl
  exact loop 3 0 rfl q1 v2 _ _ _ _ ls (by omega) (by omega) (by omega) g0 fr hs2 hS (by omega) (by omega) (lv_sub hl [2, 3, 1, 0] rfl)
