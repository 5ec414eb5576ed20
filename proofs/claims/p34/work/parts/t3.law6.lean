theorem m_7_3 : Cond.methodLink RL 137 yL_amounts ∈ TB := mem_t7 3 (by decide +kernel)
theorem m_7_4 : Cond.static yL_amounts ∈ TB := mem_t7 4 (by decide +kernel)
theorem m_7_5 : Cond.code yL_amounts cL_amounts 4 (some (.object "java/lang/String")) ∈ TB := mem_t7 5 (by decide +kernel)
theorem mv_L_amounts : MV yL_amounts cL_amounts 4 (some (.object "java/lang/String")) 2 := ⟨m_7_5, by decide +kernel, m_1_0, ⟨by decide +kernel, by decide +kernel, by decide +kernel⟩, by decide⟩
/-! THE LAW: a step is told -/
theorem amW_asc {word : List Nat} {rv : Nat → Nat} (hw : asc word) (h : ∀ k, rv k < 10000) : asc (amW word rv) := by
  unfold amW
  split
  · exact asc0
  · exact asc_app (asc_app (asc1 (by decide)) hw) (amS_asc h 3 (by decide))
theorem amW_len {word : List Nat} {rv : Nat → Nat} (hw : word.length ≤ 5) : (amW word rv).length ≤ 27 := by
  have := amS_len (rv := rv) 3 (by decide)
  unfold amW
  split
  · simp
  · simp only [List.length_append, List.length_cons, List.length_nil]
    omega
theorem amC_le (c : Int32) (kk i : Nat) : amC c kk i ≤ 2 := by
  unfold amC
  split
  · have := bN_lt (ishr c (nI (13 + 2 * i))) (n := 3) (by decide); omega
  split
  · split <;> omega
  split
  · split <;> omega
  · omega
theorem riC_le (c : Int32) : riC c ≤ 75 := by
  have := bN_lt c (n := 4) (by decide)
  unfold riC; omega
theorem liC_le (c : Int32) : 1 ≤ liC c ∧ liC c ≤ 2 := by
  have := b1_lt c 4
  unfold liC; omega
/-- a step's words, piece by piece -/
def E1 (T : List Nat) (cc : Int32) : List Nat := T ++ cT 35 ++ dec (riC cc) ++ [32] ++ dec (liC cc)
def E2 (T : List Nat) (cc : Int32) : List Nat := E1 T cc ++ amW (cT 36) (amC cc 0)
def E3 (T : List Nat) (cc : Int32) : List Nat := E2 T cc ++ amW (cT 37) (amC cc 1)
def E4 (T : List Nat) (cc : Int32) : List Nat := E3 T cc ++ amW (cT 38) (amC cc 2)
def E5 (T : List Nat) (cc : Int32) (k : Nat) : List Nat := if afC cc k = 0 then E4 T cc else E4 T cc ++ cT 39
def afS (m : Nat) : Nat → List Nat
  | 0 => []
  | a + 1 => afS m a ++ (if m.testBit a then [32] ++ dec a else [])
theorem s9 {a S x y z D : Nat} (hD : 4000 ≤ D) (h : x ≤ S + D * a) (h1 : y ≤ x + 2000) (h2 : z ≤ y + 2000) : z ≤ S + D * (a + 1) := by rw [Nat.mul_succ]; omega
theorem afS_y {T : List Nat} {m a : Nat} (h : m.testBit a = true) : T ++ afS m (a + 1) = T ++ afS m a ++ [32] ++ dec a := by
  rw [afS, if_pos h, List.append_assoc, List.append_assoc]
theorem afS_n {T : List Nat} {m a : Nat} (h : ¬ m.testBit a = true) : T ++ afS m (a + 1) = T ++ afS m a := by
  rw [afS, if_neg h, List.append_nil]
theorem afS_len (m : Nat) : ∀ a, a ≤ 9 → (afS m a).length ≤ 5 * a
  | 0, _ => Nat.le_refl _
  | a + 1, h => by
    have h1 := afS_len m a (by omega)
    have h2 := (dec_len a).2
    rw [afS, List.length_append]
    split
    · simp only [List.length_append, List.length_cons, List.length_nil]; omega
    · simp only [List.length_nil]; omega
theorem afS_asc (m : Nat) : ∀ a, a ≤ 9 → asc (afS m a)
  | 0, _ => asc0
  | a + 1, h => by
    rw [afS]
    refine asc_app (afS_asc m a (by omega)) ?_
    split
    · exact asc_app (asc1 (by decide)) (dec_asc (by omega))
    · exact asc0
theorem E_len {T : List Nat} {cc : Int32} {k : Nat} : (E1 T cc).length ≤ T.length + 14 ∧ (E2 T cc).length ≤ T.length + 41 ∧ (E3 T cc).length ≤ T.length + 68 ∧ (E4 T cc).length ≤ T.length + 95 ∧ (E5 T cc k).length ≤ T.length + 101 := by
  have h1 := (dec_len (riC cc)).2
  have h2 := (dec_len (liC cc)).2
  have a0 := amW_len (word := cT 36) (rv := amC cc 0) (by decide)
  have a1 := amW_len (word := cT 37) (rv := amC cc 1) (by decide)
  have a2 := amW_len (word := cT 38) (rv := amC cc 2) (by decide)
  have e1 : (E1 T cc).length ≤ T.length + 14 := by
    unfold E1
    simp only [List.length_append, List.length_cons, List.length_nil, show (cT 35).length = 5 from rfl]
    omega
  have e2 : (E2 T cc).length ≤ T.length + 41 := by unfold E2; rw [List.length_append]; omega
  have e3 : (E3 T cc).length ≤ T.length + 68 := by unfold E3; rw [List.length_append]; omega
  have e4 : (E4 T cc).length ≤ T.length + 95 := by unfold E4; rw [List.length_append]; omega
  refine ⟨e1, e2, e3, e4, ?_⟩
  unfold E5
  split
  · omega
  · rw [List.length_append, show (cT 39).length = 6 from rfl]; omega
theorem afC_lt (cc : Int32) (k : Nat) : afC cc k < 2 ^ k := msk_lt _ _
set_option maxHeartbeats 4000000 in
theorem law_E {G : Gt} {l : Launch} {p : Program} {e : Env} {R : Room} {s : State} {m : MethodId} {args : Array Value} {below : List Frame} {meth : Method} {c : Code} {Q : State → Prop} {b N e0 : Nat} {A : Nat → Prop} {xs : Nat → Int32} 
    (X : Cx G p R s m args c 0 0 cL_law 12 RL 40) (hG : AllA G) (hgz : gz G ≤ s.heap.size) (hA : ∀ q, q < s.heap.size → A q → gA G q) (hAn : ∀ q, s.heap.size ≤ q → A q) (hD : EnvD G s) (hE : EnvL G e0 s) (hxs : va_T .int b N (fun k => .int (xs k)) (gA G) s s.heap) (hN : N < 2 ^ 31) (hnm : meth.name ≠ "<init>") 
    {q sb b4 k C0 S0 sa u n g v cells slots : Nat} {cc : Int32} {T : List Nat} {fu fn fg : Nat → Int32} {H : Heap} {locs : List Loc} {ls : Array Slot} (hk9 : k < 9) (hsb1 : s.heap.size ≤ sb) (hv1 : s.heap.size ≤ v) (hbv : sb ≠ v) (hsa : sa ≠ sb ∧ sa ≠ v) (hun : u ≠ sb ∧ u ≠ v) (hnn : n ≠ sb ∧ n ≠ v) (hgg : g ≠ sb ∧ g ≠ v) (hT : T.length ≤ 700) (e1 : ∀ x, x < 3 → fu x = nI (amC cc 0 x)) (e2 : ∀ x, x < 3 → fn x = nI (amC cc 1 x)) (e3 : ∀ x, x < 3 → fg x = nI (amC cc 2 x)) (hCc : C0 + 200 ≤ R.cells) (hCs : S0 + 40000 ≤ R.slots) (hc : cells ≤ C0) (hs : slots ≤ S0) (hS : va_S A s.heap H locs) (f0b : va_at (gDD G) vwCl (sa, .inr (11, [.int (nI (riC cc)), .int (nI (liC cc)), .int 0, .int (nI (afC cc k)), .int ((if coC cc then 1 else 0)), .int 0, .ref u, .ref n, .ref g])) H) (a1b : va_at (gDD G) vwCl (u, .inl (gty G 0, 3, .inl fu)) H) (a2b : va_at (gDD G) vwCl (n, .inl (gty G 0, 3, .inl fn)) H) (a3b : va_at (gDD G) vwCl (g, .inl (gty G 0, 3, .inl fg)) H) (hsb : SBs G sb v T H)
    (hK : ∀ (H1 : Heap) (locs1 : List Loc) (cells1 slots1 : Nat) (ls : Array Slot), SBx G s.heap.size sb v (E5 T cc k) H H1 → va_S A s.heap H1 locs1 → cells1 ≤ C0 + 150 → slots1 ≤ S0 + 30000 → lv_has ls 12 [(6, .ref sa), (5, .int (nI k)), (4, .ref b4), (0, .ref b), (1, .ref q), (2, .int (nI (maN N xs))), (3, .ref sb)] → W p l e R s m args below meth c H1 locs1 cells1 slots1 Q (F0 m 501 ls []))
    (hl : lv_has ls 12 [(6, .ref sa), (5, .int (nI k)), (4, .ref b4), (0, .ref b), (1, .ref q), (2, .int (nI (maN N xs))), (3, .ref sb)]) : W p l e R s m args below meth c H locs cells slots Q (F0 m 419 ls []) := by
  have hx := X.1.1
  have hb := X.1.2.1
  obtain ⟨L1, L2, L3, L4, L5⟩ := E_len (T := T) (cc := cc) (k := k)
  have hri := riC_le cc
  have hli := liC_le cc
  have hd1 := (dec_len (riC cc)).2
  have hd2 := (dec_len (liC cc)).2
  have am9 : ∀ kk i, amC cc kk i < 10000 := fun kk i => by have := amC_le cc kk i; omega
  have hz35 : (cT 35).length = 5 := rfl
  have hz39 : (cT 39).length = 6 := rfl
  have hM1 : (T ++ cT 35).length = T.length + 5 := by rw [List.length_append]; rfl
  have hM2 : (T ++ cT 35 ++ dec (riC cc)).length = T.length + 5 + (dec (riC cc)).length := by rw [List.length_append, hM1]
  have hM3 : (T ++ cT 35 ++ dec (riC cc) ++ [32]).length = T.length + 5 + (dec (riC cc)).length + 1 := by rw [List.length_append, hM2]; rfl
  have hex := hx
  have hx : SBx G s.heap.size sb v (T) H H := SBx.of hsb hv1 hbv
  refine lv_aload_n hex hb dL_law_419 rfl (lv_at hl 6 rfl) ?_
  refine p_ldcS (k := 35) X (by decide) rfl rfl dL_law_420 ?_
  refine ap_K (k := 35) X hG hgz hA hAn hS hsb1 (by decide) (by omega) hx m_7_25 (by decide) (Nat.le_of_ble_eq_true rfl) hl.1 dL_law_422 (by omega) (by omega) fun H1 locs cells slots hcH1 hsH1 zH1 hx hS => ?_
  refine lv_aload hex hb dL_law_425 (lv_at hl 0 rfl) ?_
  have f0 := hx.at f0b hsa.1 hsa.2
  refine p_getN (T := TX12) (N := 9) (k := 0) X f0 inTB_X12 rfl (by decide) m_5_117 rfl dL_law_427 ?_
  refine ap_I (n := riC cc) X hG hgz hA hAn hD hS hsb1 (by omega) (by omega) hx m_7_21 (by decide) (Nat.le_of_ble_eq_true rfl) hl.1 dL_law_430 (by omega) (by omega) fun H2 locs cells slots hcH2 hsH2 zH2 hx hS => ?_
  refine lv_bipush (v := 32) hex hb dL_law_433 (by decide) ?_
  refine lv_to (y := nI 32) rfl ?_
  refine ap_C (x := 32) X hG hgz hA hAn hS hsb1 (by decide) (by omega) hx m_7_8 (by decide) (Nat.le_of_ble_eq_true rfl) hl.1 dL_law_435 (by omega) (by omega) fun H3 locs cells slots hcH3 hsH3 zH3 hx hS => ?_
  refine lv_aload hex hb dL_law_438 (lv_at hl 0 rfl) ?_
  have f0 := hx.at f0b hsa.1 hsa.2
  refine p_getN (T := TX12) (N := 9) (k := 1) X f0 inTB_X12 rfl (by decide) m_5_119 rfl dL_law_440 ?_
  refine ap_I (n := liC cc) X hG hgz hA hAn hD hS hsb1 (by omega) (by omega) hx m_7_21 (by decide) (Nat.le_of_ble_eq_true rfl) hl.1 dL_law_443 (by omega) (by omega) fun H4 locs cells slots hcH4 hsH4 zH4 hx hS => ?_
  replace hx : SBx G s.heap.size sb v (E1 T cc) H H4 := hx
  refine p_ldcS (k := 36) X (by decide) rfl rfl dL_law_446 ?_
  refine lv_aload hex hb dL_law_448 (lv_at hl 0 rfl) ?_
  have f0 := hx.at f0b hsa.1 hsa.2
  refine p_getN (T := TX12) (N := 9) (k := 6) X f0 inTB_X12 rfl (by decide) m_5_128 rfl dL_law_450 ?_
  have a1 := hx.at a1b hun.1 hun.2
  refine ap_AM (k := 36) (rv := amC cc 0) X hG hgz hA hAn hD hS hsb1 (by decide) (by decide) (am9 0) e1 a1 (by omega) (amW_len (by decide)) (amW_asc (cT_asc (by decide)) (am9 0)) hx m_7_3 m_7_4 mv_L_amounts m_7_25 (Nat.le_of_ble_eq_true rfl) (Nat.le_of_ble_eq_true rfl) hl.1 dL_law_453 dL_law_456 (by omega) (by omega) fun H5 locs cells slots hcH5 hsH5 zH5 hx hS => ?_
  replace hx : SBx G s.heap.size sb v (E2 T cc) H H5 := hx
  refine p_ldcS (k := 37) X (by decide) rfl rfl dL_law_459 ?_
  refine lv_aload hex hb dL_law_461 (lv_at hl 0 rfl) ?_
  have f0 := hx.at f0b hsa.1 hsa.2
  refine p_getN (T := TX12) (N := 9) (k := 7) X f0 inTB_X12 rfl (by decide) m_5_131 rfl dL_law_463 ?_
  have a2 := hx.at a2b hnn.1 hnn.2
  refine ap_AM (k := 37) (rv := amC cc 1) X hG hgz hA hAn hD hS hsb1 (by decide) (by decide) (am9 1) e2 a2 (by omega) (amW_len (by decide)) (amW_asc (cT_asc (by decide)) (am9 1)) hx m_7_3 m_7_4 mv_L_amounts m_7_25 (Nat.le_of_ble_eq_true rfl) (Nat.le_of_ble_eq_true rfl) hl.1 dL_law_466 dL_law_469 (by omega) (by omega) fun H6 locs cells slots hcH6 hsH6 zH6 hx hS => ?_
  replace hx : SBx G s.heap.size sb v (E3 T cc) H H6 := hx
  refine p_ldcS (k := 38) X (by decide) rfl rfl dL_law_472 ?_
  refine lv_aload hex hb dL_law_474 (lv_at hl 0 rfl) ?_
  have f0 := hx.at f0b hsa.1 hsa.2
  refine p_getN (T := TX12) (N := 9) (k := 8) X f0 inTB_X12 rfl (by decide) m_5_134 rfl dL_law_476 ?_
  have a3 := hx.at a3b hgg.1 hgg.2
  refine ap_AM (k := 38) (rv := amC cc 2) X hG hgz hA hAn hD hS hsb1 (by decide) (by decide) (am9 2) e3 a3 (by omega) (amW_len (by decide)) (amW_asc (cT_asc (by decide)) (am9 2)) hx m_7_3 m_7_4 mv_L_amounts m_7_25 (Nat.le_of_ble_eq_true rfl) (Nat.le_of_ble_eq_true rfl) hl.1 dL_law_479 dL_law_482 (by omega) (by omega) fun H7 locs cells slots hcH7 hsH7 zH7 hx hS => ?_
  replace hx : SBx G s.heap.size sb v (E4 T cc) H H7 := hx
  refine lv_pop hex hb dL_law_485 rfl ?_
  refine lv_aload hex hb dL_law_486 (lv_at hl 0 rfl) ?_
  have f0 := hx.at f0b hsa.1 hsa.2
  refine p_getN (T := TX12) (N := 9) (k := 3) X f0 inTB_X12 rfl (by decide) m_5_122 rfl dL_law_488 ?_
  by_cases c9 : afC cc k = 0
  · skip
    have e50 : E5 T cc k = E4 T cc := by unfold E5; rw [if_pos c9]
    refine lv_if_eq (tgt := 501) hex hb dL_law_491 (by decide) (fun _ => ?_) (fun hc => absurd (by rw [c9]; rfl) hc)
    exact hK _ _ _ _ ls (by rw [e50]; exact hx) hS (by omega) (by omega) (lv_sub hl [0, 1, 2, 3, 4, 5, 6] rfl)
  · skip
    have e50 : E5 T cc k = E4 T cc ++ cT 39 := by unfold E5; rw [if_neg c9]
    have hm9 := afC_lt cc k
    have h2k : (2 : Nat) ^ k ≤ 2 ^ 9 := Nat.pow_le_pow_right (by omega) (by omega)
    refine lv_if_eq (tgt := 501) hex hb dL_law_491 (by decide) (fun hc => absurd hc (fun q => c9 ((nI_eq (b := 0) (by omega) (by omega)).mp q))) (fun _ => ?_)
    refine lv_aload_n hex hb dL_law_494 rfl (lv_at hl 6 rfl) ?_
    refine p_ldcS (k := 39) X (by decide) rfl rfl dL_law_495 ?_
    refine ap_K (k := 39) X hG hgz hA hAn hS hsb1 (by decide) (by omega) hx m_7_25 (by decide) (Nat.le_of_ble_eq_true rfl) hl.1 dL_law_497 (by omega) (by omega) fun H8 locs cells slots hcH8 hsH8 zH8 hx hS => ?_
    refine lv_pop hex hb dL_law_500 rfl ?_
    exact hK _ _ _ _ ls (by rw [e50]; exact hx) hS (by omega) (by omega) (lv_sub hl [0, 1, 2, 3, 4, 5, 6] rfl)
set_option maxRecDepth 4000 in
set_option maxHeartbeats 4000000 in
theorem law_F {G : Gt} {l : Launch} {p : Program} {e : Env} {R : Room} {s : State} {m : MethodId} {args : Array Value} {below : List Frame} {meth : Method} {c : Code} {Q : State → Prop} {b N e0 : Nat} {A : Nat → Prop} {xs : Nat → Int32} 
    (X : Cx G p R s m args c 0 0 cL_law 12 RL 40) (hG : AllA G) (hgz : gz G ≤ s.heap.size) (hA : ∀ q, q < s.heap.size → A q → gA G q) (hAn : ∀ q, s.heap.size ≤ q → A q) (hD : EnvD G s) (hE : EnvL G e0 s) (hxs : va_T .int b N (fun k => .int (xs k)) (gA G) s s.heap) (hN : N < 2 ^ 31) (hnm : meth.name ≠ "<init>") 
    {q sb b4 k C0 S0 sa u n g v : Nat} {cc : Int32} {T : List Nat} {H0 : Heap} {D : Nat} (hD4 : 4000 ≤ D) (hk9 : k < 6) (hsb1 : s.heap.size ≤ sb) (hsa : sa ≠ sb ∧ sa ≠ v) (hT : T.length ≤ 900) (hCc : C0 + 20 ≤ R.cells) (hCs : S0 + D * 6 ≤ R.slots) (f0b : va_at (gDD G) vwCl (sa, .inr (11, [.int (nI (riC cc)), .int (nI (liC cc)), .int 0, .int (nI (afC cc k)), .int ((if coC cc then 1 else 0)), .int 0, .ref u, .ref n, .ref g])) H0)
    (hK : ∀ (H1 : Heap) (locs1 : List Loc) (cells1 slots1 : Nat) (ls : Array Slot), SBx G s.heap.size sb v (T ++ afS (afC cc k) k) H0 H1 → va_S A s.heap H1 locs1 → cells1 ≤ C0 + 2 * k → slots1 ≤ S0 + D * k → lv_has ls 12 [(8, .int (nI k)), (6, .ref sa), (5, .int (nI k)), (4, .ref b4), (0, .ref b), (1, .ref q), (2, .int (nI (maN N xs))), (3, .ref sb)] → W p l e R s m args below meth c H1 locs1 cells1 slots1 Q (F0 m 543 ls [])) :
    ∀ (j a : Nat), a + j = k → ∀ (H : Heap) (locs : List Loc) (cells slots : Nat) (ls : Array Slot), SBx G s.heap.size sb v (T ++ afS (afC cc k) a) H0 H → va_S A s.heap H locs → cells ≤ C0 + 2 * a → slots ≤ S0 + D * a → lv_has ls 12 [(8, .int (nI a)), (6, .ref sa), (5, .int (nI k)), (4, .ref b4), (0, .ref b), (1, .ref q), (2, .int (nI (maN N xs))), (3, .ref sb)] → W p l e R s m args below meth c H locs cells slots Q (F0 m 504 ls []) := by
  have hex := X.1.1
  have hb := X.1.2.1
  have hm9 := afC_lt cc k
  have h2k : (2 : Nat) ^ k ≤ 2 ^ 6 := Nat.pow_le_pow_right (by omega) (by omega)
  intro j
  induction j with
  | zero =>
    intro a ha H locs cells slots ls hx hS hc hs hl
    obtain rfl : a = k := by omega
    refine lv_iload hex hb dL_law_504 (lv_at hl 0 rfl) ?_
    refine lv_iload hex hb dL_law_506 (lv_at hl 2 rfl) ?_
    refine lv_icmp_ge (tgt := 543) hex hb dL_law_508 (by decide) (fun _ => ?_) (fun hc => absurd (Int32.le_refl _) hc)
    exact hK _ _ _ _ ls hx hS hc hs (lv_sub hl [0, 1, 2, 3, 4, 5, 6, 7] rfl)
  | succ j ih =>
    intro a ha H locs cells slots ls hx hS hc hs hl
    have hDa : D * (a + 1) ≤ D * 6 := Nat.mul_le_mul_left _ (by omega)
    have hDs : D * (a + 1) = D * a + D := Nat.mul_succ _ _
    have hal := afS_len (afC cc k) a (by omega)
    have hda := (dec_len a).2
    have hM0 : (T ++ afS (afC cc k) a).length = T.length + (afS (afC cc k) a).length := List.length_append
    have hM1 : (T ++ afS (afC cc k) a ++ [32]).length = T.length + (afS (afC cc k) a).length + 1 := by rw [List.length_append, hM0]; rfl
    refine lv_iload hex hb dL_law_504 (lv_at hl 0 rfl) ?_
    refine lv_iload hex hb dL_law_506 (lv_at hl 2 rfl) ?_
    refine lv_icmp_ge (tgt := 543) hex hb dL_law_508 (by decide) (fun hc => absurd hc (nI_ge (by omega) (by omega))) (fun _ => ?_)
    refine lv_aload hex hb dL_law_511 (lv_at hl 1 rfl) ?_
    have f0 := hx.at f0b hsa.1 hsa.2
    refine p_getN (T := TX12) (N := 9) (k := 3) X f0 inTB_X12 rfl (by decide) m_5_122 rfl dL_law_513 ?_
    refine lv_iload hex hb dL_law_516 (lv_at hl 0 rfl) ?_
    refine w_ishr hex hb dL_law_518 ?_
    refine lv_iconst (v := 1) hex hb dL_law_519 (by decide) ?_
    refine lv_iand hex hb dL_law_520 ?_
    refine lv_to (y := b2i ((afC cc k).testBit a)) (ishr_nI _ (by omega) a (by omega)) ?_
    refine lv_iconst (v := 1) hex hb dL_law_521 (by decide) ?_
    by_cases cb : (afC cc k).testBit a = true
    · skip
      refine lv_icmp_ne (tgt := 537) hex hb dL_law_522 (by decide) (fun hc => absurd (by rw [cb]; rfl) hc) (fun _ => ?_)
      refine lv_aload_n hex hb dL_law_525 rfl (lv_at hl 7 rfl) ?_
      refine lv_bipush (v := 32) hex hb dL_law_526 (by decide) ?_
      refine lv_to (y := nI 32) rfl ?_
      refine ap_C (x := 32) X hG hgz hA hAn hS hsb1 (by decide) (by omega) hx m_7_8 (by decide) (Nat.le_of_ble_eq_true rfl) hl.1 dL_law_528 (by omega) (by omega) fun H1 locs cells slots hcH1 hsH1 zH1 hx hS => ?_
      refine lv_iload hex hb dL_law_531 (lv_at hl 0 rfl) ?_
      refine ap_I (n := a) X hG hgz hA hAn hD hS hsb1 (by omega) (by omega) hx m_7_21 (by decide) (Nat.le_of_ble_eq_true rfl) hl.1 dL_law_533 (by omega) (by omega) fun H2 locs cells slots hcH2 hsH2 zH2 hx hS => ?_
      refine lv_pop hex hb dL_law_536 rfl ?_
      refine lv_iinc (lv' := [(8, .int (nI (a + 1))), (6, .ref sa), (5, .int (nI k)), (4, .ref b4), (0, .ref b), (1, .ref q), (2, .int (nI (maN N xs))), (3, .ref sb)]) (k := 0) hex hb dL_law_537 hl rfl (nI_1 a) (by decide) rfl ?_
      clear hl; intro ls hl
      refine lv_goto (tgt := 504) hex hb dL_law_540 (by decide) ?_
      have hs9 : slots ≤ S0 + D * (a + 1) := s9 hD4 hs hsH1 hsH2
      have hx9 : SBx G s.heap.size sb v (T ++ afS (afC cc k) (a + 1)) H0 H2 := by rw [afS_y cb]; exact hx
      exact ih (a + 1) (by omega) _ _ _ _ ls hx9 hS (by omega) hs9 (lv_sub hl [0, 1, 2, 3, 4, 5, 6, 7] rfl)
    · skip
      refine lv_icmp_ne (tgt := 537) hex hb dL_law_522 (by decide) (fun _ => ?_) (fun hc => absurd hc (by rw [show (afC cc k).testBit a = false by simpa using cb]; decide))
      refine lv_iinc (lv' := [(8, .int (nI (a + 1))), (6, .ref sa), (5, .int (nI k)), (4, .ref b4), (0, .ref b), (1, .ref q), (2, .int (nI (maN N xs))), (3, .ref sb)]) (k := 0) hex hb dL_law_537 hl rfl (nI_1 a) (by decide) rfl ?_
      clear hl; intro ls hl
      refine lv_goto (tgt := 504) hex hb dL_law_540 (by decide) ?_
      have hs9 : slots ≤ S0 + D * (a + 1) := Nat.le_trans hs (by omega)
      have hx9 : SBx G s.heap.size sb v (T ++ afS (afC cc k) (a + 1)) H0 H := by rw [afS_n cb]; exact hx
      exact ih (a + 1) (by omega) _ _ _ _ ls hx9 hS (by omega) hs9 (lv_sub hl [0, 1, 2, 3, 4, 5, 6, 7] rfl)
/-- the list of the steps, told -/
def alS : Nat → List Nat
  | 0 => cT 34
  | k + 1 => if k = 0 then alS k else alS k ++ [44] ++ dec k
theorem alS_len : ∀ k, k ≤ 9 → (alS k).length ≤ 1 + 5 * k
  | 0, _ => by show (cT 34).length ≤ 1; decide
  | k + 1, h => by
    have h1 := alS_len k (by omega)
    have h2 := (dec_len k).2
    rw [alS]
    split
    · omega
    · simp only [List.length_append, List.length_cons, List.length_nil]; omega
theorem alS_asc : ∀ k, k ≤ 9 → asc (alS k)
  | 0, _ => cT_asc (by decide)
  | k + 1, h => by
    rw [alS]
    split
    · exact alS_asc k (by omega)
    · exact asc_app (asc_app (alS_asc k (by omega)) (asc1 (by decide))) (dec_asc (by omega))
set_option maxHeartbeats 4000000 in
theorem law_G {G : Gt} {l : Launch} {p : Program} {e : Env} {R : Room} {s : State} {m : MethodId} {args : Array Value} {below : List Frame} {meth : Method} {c : Code} {Q : State → Prop} {b N e0 : Nat} {A : Nat → Prop} {xs : Nat → Int32} 
    (X : Cx G p R s m args c 0 0 cL_law 12 RL 40) (hG : AllA G) (hgz : gz G ≤ s.heap.size) (hA : ∀ q, q < s.heap.size → A q → gA G q) (hAn : ∀ q, s.heap.size ≤ q → A q) (hD : EnvD G s) (hE : EnvL G e0 s) (hxs : va_T .int b N (fun k => .int (xs k)) (gA G) s s.heap) (hN : N < 2 ^ 31) (hnm : meth.name ≠ "<init>") 
    {q sb b4 k C0 S0 sa u n g v v4 cells slots : Nat} {cc : Int32} {T : List Nat} {H0 H : Heap} {locs : List Loc} {ls : Array Slot} (hk9 : k < 6) (hsb1 : s.heap.size ≤ sb) (hb41 : s.heap.size ≤ b4) (hsa : sa ≠ sb ∧ sa ≠ v) (hb4 : b4 ≠ sb ∧ b4 ≠ v) (hv4 : v4 ≠ sb ∧ v4 ≠ v) (hv41 : s.heap.size ≤ v4) (hbv4 : b4 ≠ v4) (hT : T.length ≤ 900) (hCc : C0 + 20 ≤ R.cells) (hCs : S0 + 30000 ≤ R.slots) (hc : cells ≤ C0) (hs : slots ≤ S0) (hS : va_S A s.heap H locs) (f0b : va_at (gDD G) vwCl (sa, .inr (11, [.int (nI (riC cc)), .int (nI (liC cc)), .int 0, .int (nI (afC cc k)), .int ((if coC cc then 1 else 0)), .int 0, .ref u, .ref n, .ref g])) H0) (hsb4 : SBs G b4 v4 (alS k) H0) (hx : SBx G s.heap.size sb v (T) H0 H)
    (hK : ∀ (Hm H1 : Heap) (locs1 : List Loc) (cells1 slots1 : Nat) (ls : Array Slot), SBx G s.heap.size sb v (T ++ coW (coC cc)) H0 Hm → SBx G s.heap.size b4 v4 (alS (k + 1)) Hm H1 → va_S A s.heap H1 locs1 → cells1 ≤ C0 + 10 → slots1 ≤ S0 + 10000 → lv_has ls 12 [(5, .int (nI (k + 1))), (4, .ref b4), (0, .ref b), (1, .ref q), (2, .int (nI (maN N xs))), (3, .ref sb)] → W p l e R s m args below meth c H1 locs1 cells1 slots1 Q (F0 m 187 ls []))
    (hl : lv_has ls 12 [(8, .int (nI k)), (6, .ref sa), (5, .int (nI k)), (4, .ref b4), (0, .ref b), (1, .ref q), (2, .int (nI (maN N xs))), (3, .ref sb)]) : W p l e R s m args below meth c H locs cells slots Q (F0 m 543 ls []) := by
  have hex := X.1.1
  have hb := X.1.2.1
  have hz40 : (cT 40).length = 8 := rfl
  have hz41 : (cT 41).length = 1 := rfl
  have hal := alS_len k (by omega)
  have hdk := (dec_len k).2
  have hM1 : (alS k ++ [44]).length = (alS k).length + 1 := List.length_append
  have hlt4 := hsb4.lt
  have m563 : ∀ (Hm : Heap) (locs : List Loc) (cells slots : Nat) (ls : Array Slot), cells ≤ C0 + 2 → slots ≤ S0 + 3000 → SBx G s.heap.size sb v (T ++ coW (coC cc)) H0 Hm → va_S A s.heap Hm locs → lv_has ls 12 [(8, .int (nI k)), (6, .ref sa), (5, .int (nI k)), (4, .ref b4), (0, .ref b), (1, .ref q), (2, .int (nI (maN N xs))), (3, .ref sb)] → W p l e R s m args below meth c Hm locs cells slots Q (F0 m 563 ls []) := by
    clear hS hx hl hc hs
    intro Hm locs cells slots ls hc hs hx hS hl
    have hsb4m : SBs G b4 v4 (alS k) Hm := hsb4.kept (hx.1.2 _ hlt4.1 (fun q => q.elim hb4.1 hb4.2)) (hx.1.2 _ hlt4.2 (fun q => q.elim hv4.1 hv4.2))
    have hy : SBx G s.heap.size b4 v4 (alS k) Hm Hm := SBx.of hsb4m hv41 hbv4
    refine lv_iload hex hb dL_law_563 (lv_at hl 2 rfl) ?_
    by_cases ck0 : k = 0
    · skip
      have hle0 : nI k ≤ 0 := by rw [ck0]; decide
      refine lv_if_le (tgt := 581) hex hb dL_law_565 (by decide) (fun _ => ?_) (fun hc => absurd hle0 hc)
      refine lv_iinc (lv' := [(5, .int (nI (k + 1))), (8, .int (nI k)), (6, .ref sa), (4, .ref b4), (0, .ref b), (1, .ref q), (2, .int (nI (maN N xs))), (3, .ref sb)]) (k := 2) hex hb dL_law_581 hl rfl (nI_1 k) (by decide) rfl ?_
      clear hl; intro ls hl
      refine lv_goto (tgt := 187) hex hb dL_law_584 (by decide) ?_
      exact hK _ _ _ _ _ ls hx (by rw [alS, if_pos ck0]; exact hy) hS (by omega) (by omega) (lv_sub hl [0, 3, 4, 5, 6, 7] rfl)
    · skip
      have hgt0 : ¬ nI k ≤ 0 := nI_ge (a := 0) (by omega) (by omega)
      refine lv_if_le (tgt := 581) hex hb dL_law_565 (by decide) (fun hc => absurd hc hgt0) (fun _ => ?_)
      refine lv_aload hex hb dL_law_568 (lv_at hl 3 rfl) ?_
      refine lv_bipush (v := 44) hex hb dL_law_570 (by decide) ?_
      refine lv_to (y := nI 44) rfl ?_
      refine ap_C (x := 44) X hG hgz hA hAn hS hb41 (by decide) (by omega) hy m_7_8 (by decide) (Nat.le_of_ble_eq_true rfl) hl.1 dL_law_572 (by omega) (by omega) fun H1 locs cells slots hcH1 hsH1 zH1 hy hS => ?_
      refine lv_iload hex hb dL_law_575 (lv_at hl 2 rfl) ?_
      refine ap_I (n := k) X hG hgz hA hAn hD hS hb41 (by omega) (by omega) hy m_7_21 (by decide) (Nat.le_of_ble_eq_true rfl) hl.1 dL_law_577 (by omega) (by omega) fun H2 locs cells slots hcH2 hsH2 zH2 hy hS => ?_
      refine lv_pop hex hb dL_law_580 rfl ?_
      refine lv_iinc (lv' := [(5, .int (nI (k + 1))), (8, .int (nI k)), (6, .ref sa), (4, .ref b4), (0, .ref b), (1, .ref q), (2, .int (nI (maN N xs))), (3, .ref sb)]) (k := 2) hex hb dL_law_581 hl rfl (nI_1 k) (by decide) rfl ?_
      clear hl; intro ls hl
      refine lv_goto (tgt := 187) hex hb dL_law_584 (by decide) ?_
      exact hK _ _ _ _ _ ls hx (by rw [alS, if_neg ck0]; exact hy) hS (by omega) (by omega) (lv_sub hl [0, 3, 4, 5, 6, 7] rfl)
  refine lv_aload_n hex hb dL_law_543 rfl (lv_at hl 7 rfl) ?_
  refine lv_aload hex hb dL_law_544 (lv_at hl 1 rfl) ?_
  have f0 := hx.at f0b hsa.1 hsa.2
  refine p_getN (T := TX12) (N := 9) (k := 4) X f0 inTB_X12 rfl (by decide) m_5_124 rfl dL_law_546 ?_
  cases hco : coC cc with
  | false =>
    refine lv_if_eq (tgt := 557) hex hb dL_law_549 (by decide) (fun _ => ?_) (fun hc => absurd rfl hc)
    refine p_ldcS (k := 41) X (by decide) rfl rfl dL_law_557 ?_
    refine ap_K (k := 41) X hG hgz hA hAn hS hsb1 (by decide) (by omega) hx m_7_25 (by decide) (Nat.le_of_ble_eq_true rfl) hl.1 dL_law_559 (by omega) (by omega) fun H1 locs cells slots hcH1 hsH1 zH1 hx hS => ?_
    refine lv_pop hex hb dL_law_562 rfl ?_
    exact m563 _ _ _ _ ls (by omega) (by omega) (by rw [hco]; exact hx) hS hl
  | true =>
    refine lv_if_eq (tgt := 557) hex hb dL_law_549 (by decide) (fun hc => absurd hc (by decide)) (fun _ => ?_)
    refine p_ldcS (k := 40) X (by decide) rfl rfl dL_law_552 ?_
    refine lv_goto (tgt := 559) hex hb dL_law_554 (by decide) ?_
    refine ap_K (k := 40) X hG hgz hA hAn hS hsb1 (by decide) (by omega) hx m_7_25 (by decide) (Nat.le_of_ble_eq_true rfl) hl.1 dL_law_559 (by omega) (by omega) fun H1 locs cells slots hcH1 hsH1 zH1 hx hS => ?_
    refine lv_pop hex hb dL_law_562 rfl ?_
    exact m563 _ _ _ _ ls (by omega) (by omega) (by rw [hco]; exact hx) hS hl
