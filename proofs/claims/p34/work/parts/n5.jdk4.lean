theorem m_4_78 : Cond.fieldLink RJ6 83 "java/lang/Integer" "DigitOnes" "[B" ∈ TB := mem_t4 78 (by decide +kernel)
theorem m_4_80 : Cond.fieldLink RJ6 87 "java/lang/Integer" "DigitTens" "[B" ∈ TB := mem_t4 80 (by decide +kernel)
/-! STRINGBUILDER takes letters and numbers -/
theorem va_T.at {G : Gt} {ty : FieldType} {t N : Nat} {f : Nat → Value} {s : State} {H : Heap} {A : Nat → Prop} {locs : List Loc} (h : va_T ty t N f (gA G) s s.heap) (hS : va_S A s.heap H locs) (hA : ∀ q, q < s.heap.size → A q → gA G q) : va_T ty t N f (fun _ => False) s H := by
  obtain ⟨cell, h1, h2, h3, h4, h5, h6, h7⟩ := h
  have hlt := (Array.getElem?_eq_some_iff.mp h1).1
  exact ⟨cell, (hS.2.1 t hlt (fun q => h7 (hA t hlt q))).trans h1, h2, h3, h4, h5, h6, fun q => q⟩
/-- the tables of digits -/
def EnvD (G : Gt) (U : State) : Prop := ∃ d1 d2, va_Z "java/lang/Integer" "DigitOnes" "[B" (.ref d1) (gA G) U U.heap ∧ va_T .byte d1 100 (fun k => .int (nI (48 + k % 10))) (gA G) U U.heap ∧ va_Z "java/lang/Integer" "DigitTens" "[B" (.ref d2) (gA G) U U.heap ∧ va_T .byte d2 100 (fun k => .int (nI (48 + k / 10))) (gA G) U U.heap
theorem EnvD.mv {G : Gt} : Mv (EnvD G) := fun U V hv hh q => by
  obtain ⟨d1, d2, h1, h2, h3, h4⟩ := q
  refine ⟨d1, d2, ?_, ?_, ?_, ?_⟩ <;> rw [hh]
  · exact h1.moved hv
  · exact va_T.moved hv h2
  · exact h3.moved hv
  · exact va_T.moved hv h4
theorem EnvD.to {G : Gt} {s U : State} {H : Heap} {A : Nat → Prop} {locs : List Loc} (h : EnvD G s) (hS : va_S A s.heap H locs) (hA : ∀ q, q < s.heap.size → A q → gA G q) (hU : U.heap = H) (hv : s.vm.Alike U.vm) : EnvD G U := by
  obtain ⟨d1, d2, h1, h2, h3, h4⟩ := h
  have hq : ∀ a : Nat, a < s.heap.size → ¬ gA G a → H[a]? = s.heap[a]? := fun a h8 h9 => hS.2.1 a h8 (fun q => h9 (hA a h8 q))
  refine ⟨d1, d2, ?_, ?_, ?_, ?_⟩ <;> rw [hU]
  · exact (h1.kept hq).moved hv
  · exact va_T.moved hv (h2.kept hq)
  · exact (h3.kept hq).moved hv
  · exact va_T.moved hv (h4.kept hq)
theorem ngt {n k : Nat} {x : Int32} (hx : x.toInt = -(k : Int)) (hn : n < 2 ^ 31) (h : n < k) : -(nI n) > x := by
  show x < -(nI n)
  rw [Int32.lt_iff_toInt_lt, hx, Int32.toInt_neg, nI_toInt hn, Int.bmod_eq_of_le (by omega) (by omega)]
  omega
theorem nngt {n k : Nat} {x : Int32} (hx : x.toInt = -(k : Int)) (hn : n < 2 ^ 31) (h : k ≤ n) : ¬ -(nI n) > x := by
  show ¬ x < -(nI n)
  rw [Int32.lt_iff_toInt_lt, hx, Int32.toInt_neg, nI_toInt hn, Int.bmod_eq_of_le (by omega) (by omega)]
  omega
theorem nle {n k : Nat} {x : Int32} (hx : x.toInt = -(k : Int)) (hn : n < 2 ^ 31) (h : k ≤ n) : -(nI n) ≤ x := by
  rw [Int32.le_iff_toInt_le, hx, Int32.toInt_neg, nI_toInt hn, Int.bmod_eq_of_le (by omega) (by omega)]
  omega
theorem nnle {n k : Nat} {x : Int32} (hx : x.toInt = -(k : Int)) (hn : n < 2 ^ 31) (h : n < k) : ¬ -(nI n) ≤ x := by
  rw [Int32.le_iff_toInt_le, hx, Int32.toInt_neg, nI_toInt hn, Int.bmod_eq_of_le (by omega) (by omega)]
  omega
theorem nge {n k : Nat} {x : Int32} (hx : x.toInt = -(k : Int)) (hn : n < 2 ^ 31) (h : n ≤ k) : -(nI n) ≥ x := by
  show x ≤ -(nI n)
  rw [Int32.le_iff_toInt_le, hx, Int32.toInt_neg, nI_toInt hn, Int.bmod_eq_of_le (by omega) (by omega)]
  omega
theorem nnge {n k : Nat} {x : Int32} (hx : x.toInt = -(k : Int)) (hn : n < 2 ^ 31) (h : k < n) : ¬ -(nI n) ≥ x := by
  show ¬ x ≤ -(nI n)
  rw [Int32.le_iff_toInt_le, hx, Int32.toInt_neg, nI_toInt hn, Int.bmod_eq_of_le (by omega) (by omega)]
  omega
theorem ndiv {n : Nat} (hn : n < 2 ^ 31) : -(nI n) / 100 = -(nI (n / 100)) := by
  apply Int32.toInt_inj.mp
  rw [Int32.toInt_div, Int32.toInt_neg, Int32.toInt_neg, nI_toInt hn, nI_toInt (by omega), Int.bmod_eq_of_le (n := -(n : Int)) (by omega) (by omega), show (100 : Int32).toInt = 100 from by decide, Int.neg_tdiv, Int.tdiv_eq_ediv_of_nonneg (by omega)]
  rw [show ((n / 100 : Nat) : Int) = (n : Int) / 100 from by omega]
theorem nrem {n : Nat} (hn : n < 2 ^ 31) : -(nI (n / 100)) * 100 - -(nI n) = nI (n % 100) := by
  have h : n = 100 * (n / 100) + n % 100 := by omega
  have e : nI n = nI (n / 100) * 100 + nI (n % 100) := by
    rw [show (100 : Int32) = nI 100 from rfl]
    show Int32.ofNat n = Int32.ofNat (n / 100) * Int32.ofNat 100 + Int32.ofNat (n % 100)
    rw [← Int32.ofNat_mul, ← Int32.ofNat_add]
    congr 1
    omega
  rw [e]
  generalize nI (n / 100) = x
  generalize nI (n % 100) = y
  grind
theorem nneg (x : Int32) : - -x = x := Int32.neg_neg
theorem nI_dec {e : Nat} (h : 0 < e) : nI e + Int32.ofInt (-1) = nI (e - 1) := by
  obtain ⟨k, rfl⟩ : ∃ k, e = k + 1 := ⟨e - 1, by omega⟩
  rw [nI_succ, Nat.add_sub_cancel, show Int32.ofInt (-1) = -1 from by decide]
  generalize nI k = x
  grind
theorem nar_dig {n : Nat} (h : n < 128) : vp_nar .byte (nI n) = nI n := (ch_all n h).2.2.2
/-- a number below 10000, as letters -/
def dec (n : Nat) : List Nat := if n < 10 then [48 + n] else if n < 100 then [48 + n / 10, 48 + n % 10] else if n < 1000 then [48 + n / 100, 48 + n % 100 / 10, 48 + n % 100 % 10] else [48 + n / 100 / 10, 48 + n / 100 % 10, 48 + n % 100 / 10, 48 + n % 100 % 10]
theorem dec_asc {n : Nat} (h : n < 10000) : asc (dec n) := by
  intro i
  unfold dec
  split
  · rcases i with _ | i <;> simp <;> omega
  split
  · rcases i with _ | _ | i <;> simp <;> omega
  split
  · rcases i with _ | _ | _ | i <;> simp <;> omega
  · rcases i with _ | _ | _ | _ | i <;> simp <;> omega
theorem dec_len (n : Nat) : 0 < (dec n).length ∧ (dec n).length ≤ 4 := by
  unfold dec
  split
  · exact ⟨by show 0 < 1; decide, by show 1 ≤ 4; decide⟩
  split
  · exact ⟨by show 0 < 2; decide, by show 2 ≤ 4; decide⟩
  split
  · exact ⟨by show 0 < 3; decide, by show 3 ≤ 4; decide⟩
  · exact ⟨by show 0 < 4; decide, by show 4 ≤ 4; decide⟩
set_option maxHeartbeats 2000000 in
theorem cp_size1 {G : Gt} {l : Launch} {n : Nat} (h : n < 10) {Pf : State → Prop} : CtP G l yJ6_stringSize_0f7a4 cJ6_stringSize_0f7a4 4 (some .int) 1 [.int (nI n)] Pf (some (.int (nI 1))) := by
  refine met_P (by decide +kernel) (Nat.le_of_ble_eq_true rfl) ⟨.int, rfl, rfl⟩ ?_
  intro p e s m args below meth c Q ls X hP hr hl
  have hx := X.1.1
  have hb := X.1.2.1
  have hA : ∀ q, q < s.heap.size → (fun _ : Nat => False) q → gA G q := fun q _ h9 => h9.elim
  have hS : va_S (fun _ => False) s.heap s.heap [] := va_S.rf
  have hl : lv_has ls 4 [(0, .int (nI n))] := hl
  refine lv_iconst (v := 1) hx hb dJ6_stringSize_0f7a4_0 (by decide) ?_
  refine lv_istore_n (lv' := [(1, .int 1), (0, .int (nI n))]) hx hb dJ6_stringSize_0f7a4_1 rfl hl (by decide) rfl ?_
  clear hl; intro ls hl
  refine lv_iload_n hx hb dJ6_stringSize_0f7a4_2 rfl (lv_at hl 1 rfl) ?_
  refine lv_if_lt (tgt := 11) hx hb dJ6_stringSize_0f7a4_3 (by decide) (fun hc => absurd hc (nI_pos (by omega))) (fun _ => ?_)
  refine lv_iconst (v := 0) hx hb dJ6_stringSize_0f7a4_6 (by decide) ?_
  refine lv_istore_n (lv' := [(1, .int 0), (0, .int (nI n))]) hx hb dJ6_stringSize_0f7a4_7 rfl hl (by decide) rfl ?_
  clear hl; intro ls hl
  refine lv_iload_n hx hb dJ6_stringSize_0f7a4_8 rfl (lv_at hl 1 rfl) ?_
  refine lv_ineg hx hb dJ6_stringSize_0f7a4_9 ?_
  refine lv_istore_n (lv' := [(0, .int (-(nI n))), (1, .int 0)]) hx hb dJ6_stringSize_0f7a4_10 rfl hl (by decide) rfl ?_
  clear hl; intro ls hl
  refine lv_bipush (v := (-10)) hx hb dJ6_stringSize_0f7a4_11 (by decide) ?_
  refine lv_istore_n (lv' := [(2, .int ((-10))), (0, .int (-(nI n))), (1, .int 0)]) hx hb dJ6_stringSize_0f7a4_13 rfl hl (by decide) rfl ?_
  clear hl; intro ls hl
  refine lv_iconst (v := 1) hx hb dJ6_stringSize_0f7a4_14 (by decide) ?_
  refine lv_istore_n (lv' := [(3, .int 1), (2, .int ((-10))), (0, .int (-(nI n))), (1, .int 0)]) hx hb dJ6_stringSize_0f7a4_15 rfl hl (by decide) rfl ?_
  clear hl; intro ls hl
  refine lv_iload_n hx hb dJ6_stringSize_0f7a4_16 rfl (lv_at hl 0 rfl) ?_
  refine lv_bipush (v := 10) hx hb dJ6_stringSize_0f7a4_17 (by decide) ?_
  refine lv_icmp_ge (tgt := 42) hx hb dJ6_stringSize_0f7a4_19 (by decide) (fun hc => absurd hc (by decide)) (fun _ => ?_)
  refine lv_iload_n hx hb dJ6_stringSize_0f7a4_22 rfl (lv_at hl 2 rfl) ?_
  refine lv_iload_n hx hb dJ6_stringSize_0f7a4_23 rfl (lv_at hl 1 rfl) ?_
  refine lv_icmp_le (tgt := 31) hx hb dJ6_stringSize_0f7a4_24 (by decide) (fun hc => absurd hc (nnle (k := 10) (by decide +kernel) (by omega) (by omega))) (fun _ => ?_)
  refine lv_iload_n hx hb dJ6_stringSize_0f7a4_27 rfl (lv_at hl 0 rfl) ?_
  refine lv_iload_n hx hb dJ6_stringSize_0f7a4_28 rfl (lv_at hl 3 rfl) ?_
  refine lv_iadd hx hb dJ6_stringSize_0f7a4_29 ?_
  refine lv_to (y := nI 1) (by decide +kernel) ?_
  exact hr _ _ dJ6_stringSize_0f7a4_30
set_option maxHeartbeats 2000000 in
theorem cp_size2 {G : Gt} {l : Launch} {n : Nat} (h : 10 ≤ n ∧ n < 100) {Pf : State → Prop} : CtP G l yJ6_stringSize_0f7a4 cJ6_stringSize_0f7a4 4 (some .int) 1 [.int (nI n)] Pf (some (.int (nI 2))) := by
  refine met_P (by decide +kernel) (Nat.le_of_ble_eq_true rfl) ⟨.int, rfl, rfl⟩ ?_
  intro p e s m args below meth c Q ls X hP hr hl
  have hx := X.1.1
  have hb := X.1.2.1
  have hA : ∀ q, q < s.heap.size → (fun _ : Nat => False) q → gA G q := fun q _ h9 => h9.elim
  have hS : va_S (fun _ => False) s.heap s.heap [] := va_S.rf
  have hl : lv_has ls 4 [(0, .int (nI n))] := hl
  refine lv_iconst (v := 1) hx hb dJ6_stringSize_0f7a4_0 (by decide) ?_
  refine lv_istore_n (lv' := [(1, .int 1), (0, .int (nI n))]) hx hb dJ6_stringSize_0f7a4_1 rfl hl (by decide) rfl ?_
  clear hl; intro ls hl
  refine lv_iload_n hx hb dJ6_stringSize_0f7a4_2 rfl (lv_at hl 1 rfl) ?_
  refine lv_if_lt (tgt := 11) hx hb dJ6_stringSize_0f7a4_3 (by decide) (fun hc => absurd hc (nI_pos (by omega))) (fun _ => ?_)
  refine lv_iconst (v := 0) hx hb dJ6_stringSize_0f7a4_6 (by decide) ?_
  refine lv_istore_n (lv' := [(1, .int 0), (0, .int (nI n))]) hx hb dJ6_stringSize_0f7a4_7 rfl hl (by decide) rfl ?_
  clear hl; intro ls hl
  refine lv_iload_n hx hb dJ6_stringSize_0f7a4_8 rfl (lv_at hl 1 rfl) ?_
  refine lv_ineg hx hb dJ6_stringSize_0f7a4_9 ?_
  refine lv_istore_n (lv' := [(0, .int (-(nI n))), (1, .int 0)]) hx hb dJ6_stringSize_0f7a4_10 rfl hl (by decide) rfl ?_
  clear hl; intro ls hl
  refine lv_bipush (v := (-10)) hx hb dJ6_stringSize_0f7a4_11 (by decide) ?_
  refine lv_istore_n (lv' := [(2, .int ((-10))), (0, .int (-(nI n))), (1, .int 0)]) hx hb dJ6_stringSize_0f7a4_13 rfl hl (by decide) rfl ?_
  clear hl; intro ls hl
  refine lv_iconst (v := 1) hx hb dJ6_stringSize_0f7a4_14 (by decide) ?_
  refine lv_istore_n (lv' := [(3, .int 1), (2, .int ((-10))), (0, .int (-(nI n))), (1, .int 0)]) hx hb dJ6_stringSize_0f7a4_15 rfl hl (by decide) rfl ?_
  clear hl; intro ls hl
  refine lv_iload_n hx hb dJ6_stringSize_0f7a4_16 rfl (lv_at hl 0 rfl) ?_
  refine lv_bipush (v := 10) hx hb dJ6_stringSize_0f7a4_17 (by decide) ?_
  refine lv_icmp_ge (tgt := 42) hx hb dJ6_stringSize_0f7a4_19 (by decide) (fun hc => absurd hc (by decide)) (fun _ => ?_)
  refine lv_iload_n hx hb dJ6_stringSize_0f7a4_22 rfl (lv_at hl 2 rfl) ?_
  refine lv_iload_n hx hb dJ6_stringSize_0f7a4_23 rfl (lv_at hl 1 rfl) ?_
  refine lv_icmp_le (tgt := 31) hx hb dJ6_stringSize_0f7a4_24 (by decide) (fun _ => ?_) (fun hc => absurd (nle (k := 10) (by decide +kernel) (by omega) (by omega)) hc)
  refine lv_bipush (v := 10) hx hb dJ6_stringSize_0f7a4_31 (by decide) ?_
  refine lv_iload_n hx hb dJ6_stringSize_0f7a4_33 rfl (lv_at hl 1 rfl) ?_
  refine lv_imul hx hb dJ6_stringSize_0f7a4_34 ?_
  refine lv_to (y := (-100)) (by decide +kernel) ?_
  refine lv_istore_n (lv' := [(2, .int ((-100))), (3, .int 1), (0, .int (-(nI n))), (1, .int 0)]) hx hb dJ6_stringSize_0f7a4_35 rfl hl (by decide) rfl ?_
  clear hl; intro ls hl
  refine lv_iinc (lv' := [(3, .int 2), (2, .int ((-100))), (0, .int (-(nI n))), (1, .int 0)]) (k := 1) hx hb dJ6_stringSize_0f7a4_36 hl rfl (by decide +kernel) (by decide) rfl ?_
  clear hl; intro ls hl
  refine lv_goto (tgt := 16) hx hb dJ6_stringSize_0f7a4_39 (by decide) ?_
  refine lv_iload_n hx hb dJ6_stringSize_0f7a4_16 rfl (lv_at hl 0 rfl) ?_
  refine lv_bipush (v := 10) hx hb dJ6_stringSize_0f7a4_17 (by decide) ?_
  refine lv_icmp_ge (tgt := 42) hx hb dJ6_stringSize_0f7a4_19 (by decide) (fun hc => absurd hc (by decide)) (fun _ => ?_)
  refine lv_iload_n hx hb dJ6_stringSize_0f7a4_22 rfl (lv_at hl 2 rfl) ?_
  refine lv_iload_n hx hb dJ6_stringSize_0f7a4_23 rfl (lv_at hl 1 rfl) ?_
  refine lv_icmp_le (tgt := 31) hx hb dJ6_stringSize_0f7a4_24 (by decide) (fun hc => absurd hc (nnle (k := 100) (by decide +kernel) (by omega) (by omega))) (fun _ => ?_)
  refine lv_iload_n hx hb dJ6_stringSize_0f7a4_27 rfl (lv_at hl 0 rfl) ?_
  refine lv_iload_n hx hb dJ6_stringSize_0f7a4_28 rfl (lv_at hl 3 rfl) ?_
  refine lv_iadd hx hb dJ6_stringSize_0f7a4_29 ?_
  refine lv_to (y := nI 2) (by decide +kernel) ?_
  exact hr _ _ dJ6_stringSize_0f7a4_30
set_option maxHeartbeats 2000000 in
theorem cp_size3 {G : Gt} {l : Launch} {n : Nat} (h : 100 ≤ n ∧ n < 1000) {Pf : State → Prop} : CtP G l yJ6_stringSize_0f7a4 cJ6_stringSize_0f7a4 4 (some .int) 1 [.int (nI n)] Pf (some (.int (nI 3))) := by
  refine met_P (by decide +kernel) (Nat.le_of_ble_eq_true rfl) ⟨.int, rfl, rfl⟩ ?_
  intro p e s m args below meth c Q ls X hP hr hl
  have hx := X.1.1
  have hb := X.1.2.1
  have hA : ∀ q, q < s.heap.size → (fun _ : Nat => False) q → gA G q := fun q _ h9 => h9.elim
  have hS : va_S (fun _ => False) s.heap s.heap [] := va_S.rf
  have hl : lv_has ls 4 [(0, .int (nI n))] := hl
  refine lv_iconst (v := 1) hx hb dJ6_stringSize_0f7a4_0 (by decide) ?_
  refine lv_istore_n (lv' := [(1, .int 1), (0, .int (nI n))]) hx hb dJ6_stringSize_0f7a4_1 rfl hl (by decide) rfl ?_
  clear hl; intro ls hl
  refine lv_iload_n hx hb dJ6_stringSize_0f7a4_2 rfl (lv_at hl 1 rfl) ?_
  refine lv_if_lt (tgt := 11) hx hb dJ6_stringSize_0f7a4_3 (by decide) (fun hc => absurd hc (nI_pos (by omega))) (fun _ => ?_)
  refine lv_iconst (v := 0) hx hb dJ6_stringSize_0f7a4_6 (by decide) ?_
  refine lv_istore_n (lv' := [(1, .int 0), (0, .int (nI n))]) hx hb dJ6_stringSize_0f7a4_7 rfl hl (by decide) rfl ?_
  clear hl; intro ls hl
  refine lv_iload_n hx hb dJ6_stringSize_0f7a4_8 rfl (lv_at hl 1 rfl) ?_
  refine lv_ineg hx hb dJ6_stringSize_0f7a4_9 ?_
  refine lv_istore_n (lv' := [(0, .int (-(nI n))), (1, .int 0)]) hx hb dJ6_stringSize_0f7a4_10 rfl hl (by decide) rfl ?_
  clear hl; intro ls hl
  refine lv_bipush (v := (-10)) hx hb dJ6_stringSize_0f7a4_11 (by decide) ?_
  refine lv_istore_n (lv' := [(2, .int ((-10))), (0, .int (-(nI n))), (1, .int 0)]) hx hb dJ6_stringSize_0f7a4_13 rfl hl (by decide) rfl ?_
  clear hl; intro ls hl
  refine lv_iconst (v := 1) hx hb dJ6_stringSize_0f7a4_14 (by decide) ?_
  refine lv_istore_n (lv' := [(3, .int 1), (2, .int ((-10))), (0, .int (-(nI n))), (1, .int 0)]) hx hb dJ6_stringSize_0f7a4_15 rfl hl (by decide) rfl ?_
  clear hl; intro ls hl
  refine lv_iload_n hx hb dJ6_stringSize_0f7a4_16 rfl (lv_at hl 0 rfl) ?_
  refine lv_bipush (v := 10) hx hb dJ6_stringSize_0f7a4_17 (by decide) ?_
  refine lv_icmp_ge (tgt := 42) hx hb dJ6_stringSize_0f7a4_19 (by decide) (fun hc => absurd hc (by decide)) (fun _ => ?_)
  refine lv_iload_n hx hb dJ6_stringSize_0f7a4_22 rfl (lv_at hl 2 rfl) ?_
  refine lv_iload_n hx hb dJ6_stringSize_0f7a4_23 rfl (lv_at hl 1 rfl) ?_
  refine lv_icmp_le (tgt := 31) hx hb dJ6_stringSize_0f7a4_24 (by decide) (fun _ => ?_) (fun hc => absurd (nle (k := 10) (by decide +kernel) (by omega) (by omega)) hc)
  refine lv_bipush (v := 10) hx hb dJ6_stringSize_0f7a4_31 (by decide) ?_
  refine lv_iload_n hx hb dJ6_stringSize_0f7a4_33 rfl (lv_at hl 1 rfl) ?_
  refine lv_imul hx hb dJ6_stringSize_0f7a4_34 ?_
  refine lv_to (y := (-100)) (by decide +kernel) ?_
  refine lv_istore_n (lv' := [(2, .int ((-100))), (3, .int 1), (0, .int (-(nI n))), (1, .int 0)]) hx hb dJ6_stringSize_0f7a4_35 rfl hl (by decide) rfl ?_
  clear hl; intro ls hl
  refine lv_iinc (lv' := [(3, .int 2), (2, .int ((-100))), (0, .int (-(nI n))), (1, .int 0)]) (k := 1) hx hb dJ6_stringSize_0f7a4_36 hl rfl (by decide +kernel) (by decide) rfl ?_
  clear hl; intro ls hl
  refine lv_goto (tgt := 16) hx hb dJ6_stringSize_0f7a4_39 (by decide) ?_
  refine lv_iload_n hx hb dJ6_stringSize_0f7a4_16 rfl (lv_at hl 0 rfl) ?_
  refine lv_bipush (v := 10) hx hb dJ6_stringSize_0f7a4_17 (by decide) ?_
  refine lv_icmp_ge (tgt := 42) hx hb dJ6_stringSize_0f7a4_19 (by decide) (fun hc => absurd hc (by decide)) (fun _ => ?_)
  refine lv_iload_n hx hb dJ6_stringSize_0f7a4_22 rfl (lv_at hl 2 rfl) ?_
  refine lv_iload_n hx hb dJ6_stringSize_0f7a4_23 rfl (lv_at hl 1 rfl) ?_
  refine lv_icmp_le (tgt := 31) hx hb dJ6_stringSize_0f7a4_24 (by decide) (fun _ => ?_) (fun hc => absurd (nle (k := 100) (by decide +kernel) (by omega) (by omega)) hc)
  refine lv_bipush (v := 10) hx hb dJ6_stringSize_0f7a4_31 (by decide) ?_
  refine lv_iload_n hx hb dJ6_stringSize_0f7a4_33 rfl (lv_at hl 1 rfl) ?_
  refine lv_imul hx hb dJ6_stringSize_0f7a4_34 ?_
  refine lv_to (y := (-1000)) (by decide +kernel) ?_
  refine lv_istore_n (lv' := [(2, .int ((-1000))), (3, .int 2), (0, .int (-(nI n))), (1, .int 0)]) hx hb dJ6_stringSize_0f7a4_35 rfl hl (by decide) rfl ?_
  clear hl; intro ls hl
  refine lv_iinc (lv' := [(3, .int 3), (2, .int ((-1000))), (0, .int (-(nI n))), (1, .int 0)]) (k := 1) hx hb dJ6_stringSize_0f7a4_36 hl rfl (by decide +kernel) (by decide) rfl ?_
  clear hl; intro ls hl
  refine lv_goto (tgt := 16) hx hb dJ6_stringSize_0f7a4_39 (by decide) ?_
  refine lv_iload_n hx hb dJ6_stringSize_0f7a4_16 rfl (lv_at hl 0 rfl) ?_
  refine lv_bipush (v := 10) hx hb dJ6_stringSize_0f7a4_17 (by decide) ?_
  refine lv_icmp_ge (tgt := 42) hx hb dJ6_stringSize_0f7a4_19 (by decide) (fun hc => absurd hc (by decide)) (fun _ => ?_)
  refine lv_iload_n hx hb dJ6_stringSize_0f7a4_22 rfl (lv_at hl 2 rfl) ?_
  refine lv_iload_n hx hb dJ6_stringSize_0f7a4_23 rfl (lv_at hl 1 rfl) ?_
  refine lv_icmp_le (tgt := 31) hx hb dJ6_stringSize_0f7a4_24 (by decide) (fun hc => absurd hc (nnle (k := 1000) (by decide +kernel) (by omega) (by omega))) (fun _ => ?_)
  refine lv_iload_n hx hb dJ6_stringSize_0f7a4_27 rfl (lv_at hl 0 rfl) ?_
  refine lv_iload_n hx hb dJ6_stringSize_0f7a4_28 rfl (lv_at hl 3 rfl) ?_
  refine lv_iadd hx hb dJ6_stringSize_0f7a4_29 ?_
  refine lv_to (y := nI 3) (by decide +kernel) ?_
  exact hr _ _ dJ6_stringSize_0f7a4_30
set_option maxHeartbeats 2000000 in
theorem cp_size4 {G : Gt} {l : Launch} {n : Nat} (h : 1000 ≤ n ∧ n < 10000) {Pf : State → Prop} : CtP G l yJ6_stringSize_0f7a4 cJ6_stringSize_0f7a4 4 (some .int) 1 [.int (nI n)] Pf (some (.int (nI 4))) := by
  refine met_P (by decide +kernel) (Nat.le_of_ble_eq_true rfl) ⟨.int, rfl, rfl⟩ ?_
  intro p e s m args below meth c Q ls X hP hr hl
  have hx := X.1.1
  have hb := X.1.2.1
  have hA : ∀ q, q < s.heap.size → (fun _ : Nat => False) q → gA G q := fun q _ h9 => h9.elim
  have hS : va_S (fun _ => False) s.heap s.heap [] := va_S.rf
  have hl : lv_has ls 4 [(0, .int (nI n))] := hl
  refine lv_iconst (v := 1) hx hb dJ6_stringSize_0f7a4_0 (by decide) ?_
  refine lv_istore_n (lv' := [(1, .int 1), (0, .int (nI n))]) hx hb dJ6_stringSize_0f7a4_1 rfl hl (by decide) rfl ?_
  clear hl; intro ls hl
  refine lv_iload_n hx hb dJ6_stringSize_0f7a4_2 rfl (lv_at hl 1 rfl) ?_
  refine lv_if_lt (tgt := 11) hx hb dJ6_stringSize_0f7a4_3 (by decide) (fun hc => absurd hc (nI_pos (by omega))) (fun _ => ?_)
  refine lv_iconst (v := 0) hx hb dJ6_stringSize_0f7a4_6 (by decide) ?_
  refine lv_istore_n (lv' := [(1, .int 0), (0, .int (nI n))]) hx hb dJ6_stringSize_0f7a4_7 rfl hl (by decide) rfl ?_
  clear hl; intro ls hl
  refine lv_iload_n hx hb dJ6_stringSize_0f7a4_8 rfl (lv_at hl 1 rfl) ?_
  refine lv_ineg hx hb dJ6_stringSize_0f7a4_9 ?_
  refine lv_istore_n (lv' := [(0, .int (-(nI n))), (1, .int 0)]) hx hb dJ6_stringSize_0f7a4_10 rfl hl (by decide) rfl ?_
  clear hl; intro ls hl
  refine lv_bipush (v := (-10)) hx hb dJ6_stringSize_0f7a4_11 (by decide) ?_
  refine lv_istore_n (lv' := [(2, .int ((-10))), (0, .int (-(nI n))), (1, .int 0)]) hx hb dJ6_stringSize_0f7a4_13 rfl hl (by decide) rfl ?_
  clear hl; intro ls hl
  refine lv_iconst (v := 1) hx hb dJ6_stringSize_0f7a4_14 (by decide) ?_
  refine lv_istore_n (lv' := [(3, .int 1), (2, .int ((-10))), (0, .int (-(nI n))), (1, .int 0)]) hx hb dJ6_stringSize_0f7a4_15 rfl hl (by decide) rfl ?_
  clear hl; intro ls hl
  refine lv_iload_n hx hb dJ6_stringSize_0f7a4_16 rfl (lv_at hl 0 rfl) ?_
  refine lv_bipush (v := 10) hx hb dJ6_stringSize_0f7a4_17 (by decide) ?_
  refine lv_icmp_ge (tgt := 42) hx hb dJ6_stringSize_0f7a4_19 (by decide) (fun hc => absurd hc (by decide)) (fun _ => ?_)
  refine lv_iload_n hx hb dJ6_stringSize_0f7a4_22 rfl (lv_at hl 2 rfl) ?_
  refine lv_iload_n hx hb dJ6_stringSize_0f7a4_23 rfl (lv_at hl 1 rfl) ?_
  refine lv_icmp_le (tgt := 31) hx hb dJ6_stringSize_0f7a4_24 (by decide) (fun _ => ?_) (fun hc => absurd (nle (k := 10) (by decide +kernel) (by omega) (by omega)) hc)
  refine lv_bipush (v := 10) hx hb dJ6_stringSize_0f7a4_31 (by decide) ?_
  refine lv_iload_n hx hb dJ6_stringSize_0f7a4_33 rfl (lv_at hl 1 rfl) ?_
  refine lv_imul hx hb dJ6_stringSize_0f7a4_34 ?_
  refine lv_to (y := (-100)) (by decide +kernel) ?_
  refine lv_istore_n (lv' := [(2, .int ((-100))), (3, .int 1), (0, .int (-(nI n))), (1, .int 0)]) hx hb dJ6_stringSize_0f7a4_35 rfl hl (by decide) rfl ?_
  clear hl; intro ls hl
  refine lv_iinc (lv' := [(3, .int 2), (2, .int ((-100))), (0, .int (-(nI n))), (1, .int 0)]) (k := 1) hx hb dJ6_stringSize_0f7a4_36 hl rfl (by decide +kernel) (by decide) rfl ?_
  clear hl; intro ls hl
  refine lv_goto (tgt := 16) hx hb dJ6_stringSize_0f7a4_39 (by decide) ?_
  refine lv_iload_n hx hb dJ6_stringSize_0f7a4_16 rfl (lv_at hl 0 rfl) ?_
  refine lv_bipush (v := 10) hx hb dJ6_stringSize_0f7a4_17 (by decide) ?_
  refine lv_icmp_ge (tgt := 42) hx hb dJ6_stringSize_0f7a4_19 (by decide) (fun hc => absurd hc (by decide)) (fun _ => ?_)
  refine lv_iload_n hx hb dJ6_stringSize_0f7a4_22 rfl (lv_at hl 2 rfl) ?_
  refine lv_iload_n hx hb dJ6_stringSize_0f7a4_23 rfl (lv_at hl 1 rfl) ?_
  refine lv_icmp_le (tgt := 31) hx hb dJ6_stringSize_0f7a4_24 (by decide) (fun _ => ?_) (fun hc => absurd (nle (k := 100) (by decide +kernel) (by omega) (by omega)) hc)
  refine lv_bipush (v := 10) hx hb dJ6_stringSize_0f7a4_31 (by decide) ?_
  refine lv_iload_n hx hb dJ6_stringSize_0f7a4_33 rfl (lv_at hl 1 rfl) ?_
  refine lv_imul hx hb dJ6_stringSize_0f7a4_34 ?_
  refine lv_to (y := (-1000)) (by decide +kernel) ?_
  refine lv_istore_n (lv' := [(2, .int ((-1000))), (3, .int 2), (0, .int (-(nI n))), (1, .int 0)]) hx hb dJ6_stringSize_0f7a4_35 rfl hl (by decide) rfl ?_
  clear hl; intro ls hl
  refine lv_iinc (lv' := [(3, .int 3), (2, .int ((-1000))), (0, .int (-(nI n))), (1, .int 0)]) (k := 1) hx hb dJ6_stringSize_0f7a4_36 hl rfl (by decide +kernel) (by decide) rfl ?_
  clear hl; intro ls hl
  refine lv_goto (tgt := 16) hx hb dJ6_stringSize_0f7a4_39 (by decide) ?_
  refine lv_iload_n hx hb dJ6_stringSize_0f7a4_16 rfl (lv_at hl 0 rfl) ?_
  refine lv_bipush (v := 10) hx hb dJ6_stringSize_0f7a4_17 (by decide) ?_
  refine lv_icmp_ge (tgt := 42) hx hb dJ6_stringSize_0f7a4_19 (by decide) (fun hc => absurd hc (by decide)) (fun _ => ?_)
  refine lv_iload_n hx hb dJ6_stringSize_0f7a4_22 rfl (lv_at hl 2 rfl) ?_
  refine lv_iload_n hx hb dJ6_stringSize_0f7a4_23 rfl (lv_at hl 1 rfl) ?_
  refine lv_icmp_le (tgt := 31) hx hb dJ6_stringSize_0f7a4_24 (by decide) (fun _ => ?_) (fun hc => absurd (nle (k := 1000) (by decide +kernel) (by omega) (by omega)) hc)
  refine lv_bipush (v := 10) hx hb dJ6_stringSize_0f7a4_31 (by decide) ?_
  refine lv_iload_n hx hb dJ6_stringSize_0f7a4_33 rfl (lv_at hl 1 rfl) ?_
  refine lv_imul hx hb dJ6_stringSize_0f7a4_34 ?_
  refine lv_to (y := (-10000)) (by decide +kernel) ?_
  refine lv_istore_n (lv' := [(2, .int ((-10000))), (3, .int 3), (0, .int (-(nI n))), (1, .int 0)]) hx hb dJ6_stringSize_0f7a4_35 rfl hl (by decide) rfl ?_
  clear hl; intro ls hl
  refine lv_iinc (lv' := [(3, .int 4), (2, .int ((-10000))), (0, .int (-(nI n))), (1, .int 0)]) (k := 1) hx hb dJ6_stringSize_0f7a4_36 hl rfl (by decide +kernel) (by decide) rfl ?_
  clear hl; intro ls hl
  refine lv_goto (tgt := 16) hx hb dJ6_stringSize_0f7a4_39 (by decide) ?_
  refine lv_iload_n hx hb dJ6_stringSize_0f7a4_16 rfl (lv_at hl 0 rfl) ?_
  refine lv_bipush (v := 10) hx hb dJ6_stringSize_0f7a4_17 (by decide) ?_
  refine lv_icmp_ge (tgt := 42) hx hb dJ6_stringSize_0f7a4_19 (by decide) (fun hc => absurd hc (by decide)) (fun _ => ?_)
  refine lv_iload_n hx hb dJ6_stringSize_0f7a4_22 rfl (lv_at hl 2 rfl) ?_
  refine lv_iload_n hx hb dJ6_stringSize_0f7a4_23 rfl (lv_at hl 1 rfl) ?_
  refine lv_icmp_le (tgt := 31) hx hb dJ6_stringSize_0f7a4_24 (by decide) (fun hc => absurd hc (nnle (k := 10000) (by decide +kernel) (by omega) (by omega))) (fun _ => ?_)
  refine lv_iload_n hx hb dJ6_stringSize_0f7a4_27 rfl (lv_at hl 0 rfl) ?_
  refine lv_iload_n hx hb dJ6_stringSize_0f7a4_28 rfl (lv_at hl 3 rfl) ?_
  refine lv_iadd hx hb dJ6_stringSize_0f7a4_29 ?_
  refine lv_to (y := nI 4) (by decide +kernel) ?_
  exact hr _ _ dJ6_stringSize_0f7a4_30
theorem cp_size {G : Gt} {l : Launch} {n : Nat} (h : n < 10000) {Pf : State → Prop} : CtP G l yJ6_stringSize_0f7a4 cJ6_stringSize_0f7a4 4 (some .int) 1 [.int (nI n)] Pf (some (.int (nI (dec n).length))) := by
  unfold dec
  split
  · exact cp_size1 (by omega)
  split
  · exact cp_size2 (by omega)
  split
  · exact cp_size3 (by omega)
  · exact cp_size4 (by omega)
theorem upd_y {f : Nat → Int32} {k j : Nat} {x : Int32} (h : j = k) : upd f k x j = x := by
  unfold upd
  rw [if_pos h]
theorem upd_n {f : Nat → Int32} {k j : Nat} {x : Int32} (h : j ≠ k) : upd f k x j = f j := by
  unfold upd
  rw [if_neg h]
theorem bfit.put {f : Nat → Int32} (h : bfit f) {k c : Nat} (hc : c < 128) : bfit (upd f k (nI c)) := fun i => by
  unfold upd
  split
  · exact (ch_all c hc).2.2.1
  · exact h i
set_option maxHeartbeats 2000000 in
theorem ch_chars1 {G : Gt} {l : Launch} {v cap ei n sz : Nat} {f : Nat → Int32} (hG : AllA G) (hgv : gz G ≤ v) (hf : bfit f) (he : 1 ≤ ei) (hec : ei ≤ cap) (hc : cap < 2 ^ 30) (h : n < 10) : CtH G l yJ6_getChars_ba4f3 cJ6_getChars_ba4f3 7 (some .int) 1 0 (0) [.int (nI n), .int (nI ei), .ref v] sz (fun q => q = v) (fun U => va_at (gDD G) vwCl (v, .inl (gty G 7, cap, .inl f)) U.heap ∧ EnvD G U) (fun ov H => ov = some (.int (nI (ei - (dec n).length))) ∧ ∃ f1, va_at (gDD G) vwCl (v, .inl (gty G 7, cap, .inl f1)) H ∧ (∀ i, i < ei - (dec n).length → f1 i = f i) ∧ (∀ i, i < (dec n).length → f1 (ei - (dec n).length + i) = tB (dec n) i) ∧ bfit f1) := by
  refine met_H (by decide +kernel) (Nat.le_of_ble_eq_true rfl) .ireturn (Or.inr (Or.inl ⟨.int, nI (ei - 1), rfl, rfl, rfl, rfl⟩)) ?_
  intro p e s m args below meth c Q ls X hnm hsz hP hr hl
  have hx := X.1.1
  have hb := X.1.2.1
  have hgz : gz G ≤ sz := by rw [← hsz]; exact X.2.1.2.1
  have hA : ∀ q, q < s.heap.size → frA (fun q => q = v) sz q → gA G q := fun q h8 h9 => hG q (by simp only [frA, false_or] at h9; omega)
  have hS : va_S (frA (fun q => q = v) sz) s.heap s.heap [] := va_S.rf
  have hl : lv_has ls 7 [(0, .int (nI n)), (1, .int (nI ei)), (2, .ref v)] := hl
  obtain ⟨f1, d1, d2, hZ1, hT1, hZ2, hT2⟩ := hP
  refine lv_iload_n hx hb dJ6_getChars_ba4f3_0 rfl (lv_at hl 1 rfl) ?_
  refine lv_istore (lv' := [(5, .int (nI ei)), (0, .int (nI n)), (1, .int (nI ei)), (2, .ref v)]) hx hb dJ6_getChars_ba4f3_1 hl (by decide) rfl ?_
  clear hl; intro ls hl
  refine lv_iload_n hx hb dJ6_getChars_ba4f3_3 rfl (lv_at hl 1 rfl) ?_
  refine lv_if_ge (tgt := 11) hx hb dJ6_getChars_ba4f3_4 (by decide) (fun _ => ?_) (fun hc => absurd (nI_pos' (by omega)) hc)
  refine lv_iconst (v := 0) hx hb dJ6_getChars_ba4f3_11 (by decide) ?_
  refine lv_istore (lv' := [(6, .int 0), (5, .int (nI ei)), (0, .int (nI n)), (1, .int (nI ei)), (2, .ref v)]) hx hb dJ6_getChars_ba4f3_12 hl (by decide) rfl ?_
  clear hl; intro ls hl
  refine lv_iload hx hb dJ6_getChars_ba4f3_14 (lv_at hl 0 rfl) ?_
  refine lv_if_ne (tgt := 22) hx hb dJ6_getChars_ba4f3_16 (by decide) (fun hc => absurd rfl hc) (fun _ => ?_)
  refine lv_iload_n hx hb dJ6_getChars_ba4f3_19 rfl (lv_at hl 2 rfl) ?_
  refine lv_ineg hx hb dJ6_getChars_ba4f3_20 ?_
  refine lv_istore_n (lv' := [(0, .int (-(nI n))), (6, .int 0), (5, .int (nI ei)), (1, .int (nI ei)), (2, .ref v)]) hx hb dJ6_getChars_ba4f3_21 rfl hl (by decide) rfl ?_
  clear hl; intro ls hl
  refine lv_iload_n hx hb dJ6_getChars_ba4f3_22 rfl (lv_at hl 0 rfl) ?_
  refine lv_bipush (v := (-100)) hx hb dJ6_getChars_ba4f3_23 (by decide) ?_
  refine lv_icmp_gt (tgt := 72) hx hb dJ6_getChars_ba4f3_25 (by decide) (fun _ => ?_) (fun hc => absurd (ngt (k := 100) (by decide +kernel) (by omega) (by omega)) hc)
  refine lv_aload_n hx hb dJ6_getChars_ba4f3_72 rfl (lv_at hl 4 rfl) ?_
  refine lv_iinc (lv' := [(5, .int (nI (ei - 1))), (0, .int (-(nI n))), (6, .int 0), (1, .int (nI ei)), (2, .ref v)]) (k := 2) hx hb dJ6_getChars_ba4f3_73 hl rfl (by first | exact nI_dec (by omega) | (rw [nI_dec (by omega)]; congr 1)) (by decide) rfl ?_
  clear hl; intro ls hl
  refine lv_iload hx hb dJ6_getChars_ba4f3_76 (lv_at hl 0 rfl) ?_
  refine p_gets X hZ1 hS hA m_4_78 dJ6_getChars_ba4f3_78 ?_
  refine lv_iload_n hx hb dJ6_getChars_ba4f3_81 rfl (lv_at hl 1 rfl) ?_
  refine lv_ineg hx hb dJ6_getChars_ba4f3_82 ?_
  refine lv_to (y := nI n) (nneg _) ?_
  refine s_bald (f := (fun k => nI (48 + k % 10))) X (va_T.at hT1 hS hA) (by omega) (by omega) dJ6_getChars_ba4f3_83 ?_
  refine lv_to (y := nI (48 + n)) (by show nI (48 + n % 10) = _; rw [show n % 10 = n from by omega]) ?_
  refine p_bast (t := 7) X f1 rfl (nI_in (by omega) (by omega)) dJ6_getChars_ba4f3_84 fun H1 kH1 nH1 zH1 oH1 => ?_
  replace hS := hS.put (k := kH1) zH1 oH1 (Or.inl rfl)
  replace f1 : va_at (gDD G) vwCl (v, .inl (gty G 7, cap, .inl (upd f (ei - 1) (nI (48 + n))))) H1 := by rw [nI_clamp (by omega), nar_dig (by omega)] at nH1; exact nH1
  clear zH1 oH1 nH1
  refine lv_iload_n hx hb dJ6_getChars_ba4f3_85 rfl (lv_at hl 1 rfl) ?_
  refine lv_bipush (v := (-9)) hx hb dJ6_getChars_ba4f3_86 (by decide) ?_
  refine lv_icmp_ge (tgt := 104) hx hb dJ6_getChars_ba4f3_88 (by decide) (fun _ => ?_) (fun hc => absurd (nge (k := 9) (by decide +kernel) (by omega) (by omega)) hc)
  refine lv_iload hx hb dJ6_getChars_ba4f3_104 (lv_at hl 2 rfl) ?_
  refine lv_if_eq (tgt := 118) hx hb dJ6_getChars_ba4f3_106 (by decide) (fun _ => ?_) (fun hc => absurd rfl hc)
  refine lv_iload hx hb dJ6_getChars_ba4f3_118 (lv_at hl 0 rfl) ?_
  have hd : dec n = [48 + n] := by unfold dec; rw [if_pos (by omega)]
  have hlen : (dec n).length = 1 := by rw [hd]; rfl
  have hq : ∀ i, i < 1 → (upd f (ei - 1) (nI (48 + n))) (ei - 1 + i) = tB (dec n) i := by
    intro i hi
    rw [hd]
    rcases (by omega : i = 0) with rfl
    · exact upd_y (by omega)
  exact hr _ _ _ _ _ _ dJ6_getChars_ba4f3_120 ⟨by rw [hlen], _, f1, fun i hi => by rw [hlen] at hi; exact upd_n (by omega), fun i hi => by rw [hlen] at hi ⊢; exact hq i hi, by repeat (first | exact hf | refine bfit.put ?_ (by omega))⟩ hS (by omega) (by omega)
set_option maxHeartbeats 2000000 in
theorem ch_chars2 {G : Gt} {l : Launch} {v cap ei n sz : Nat} {f : Nat → Int32} (hG : AllA G) (hgv : gz G ≤ v) (hf : bfit f) (he : 2 ≤ ei) (hec : ei ≤ cap) (hc : cap < 2 ^ 30) (h : 10 ≤ n ∧ n < 100) : CtH G l yJ6_getChars_ba4f3 cJ6_getChars_ba4f3 7 (some .int) 1 0 (0) [.int (nI n), .int (nI ei), .ref v] sz (fun q => q = v) (fun U => va_at (gDD G) vwCl (v, .inl (gty G 7, cap, .inl f)) U.heap ∧ EnvD G U) (fun ov H => ov = some (.int (nI (ei - (dec n).length))) ∧ ∃ f1, va_at (gDD G) vwCl (v, .inl (gty G 7, cap, .inl f1)) H ∧ (∀ i, i < ei - (dec n).length → f1 i = f i) ∧ (∀ i, i < (dec n).length → f1 (ei - (dec n).length + i) = tB (dec n) i) ∧ bfit f1) := by
  refine met_H (by decide +kernel) (Nat.le_of_ble_eq_true rfl) .ireturn (Or.inr (Or.inl ⟨.int, nI (ei - 2), rfl, rfl, rfl, rfl⟩)) ?_
  intro p e s m args below meth c Q ls X hnm hsz hP hr hl
  have hx := X.1.1
  have hb := X.1.2.1
  have hgz : gz G ≤ sz := by rw [← hsz]; exact X.2.1.2.1
  have hA : ∀ q, q < s.heap.size → frA (fun q => q = v) sz q → gA G q := fun q h8 h9 => hG q (by simp only [frA, false_or] at h9; omega)
  have hS : va_S (frA (fun q => q = v) sz) s.heap s.heap [] := va_S.rf
  have hl : lv_has ls 7 [(0, .int (nI n)), (1, .int (nI ei)), (2, .ref v)] := hl
  obtain ⟨f1, d1, d2, hZ1, hT1, hZ2, hT2⟩ := hP
  refine lv_iload_n hx hb dJ6_getChars_ba4f3_0 rfl (lv_at hl 1 rfl) ?_
  refine lv_istore (lv' := [(5, .int (nI ei)), (0, .int (nI n)), (1, .int (nI ei)), (2, .ref v)]) hx hb dJ6_getChars_ba4f3_1 hl (by decide) rfl ?_
  clear hl; intro ls hl
  refine lv_iload_n hx hb dJ6_getChars_ba4f3_3 rfl (lv_at hl 1 rfl) ?_
  refine lv_if_ge (tgt := 11) hx hb dJ6_getChars_ba4f3_4 (by decide) (fun _ => ?_) (fun hc => absurd (nI_pos' (by omega)) hc)
  refine lv_iconst (v := 0) hx hb dJ6_getChars_ba4f3_11 (by decide) ?_
  refine lv_istore (lv' := [(6, .int 0), (5, .int (nI ei)), (0, .int (nI n)), (1, .int (nI ei)), (2, .ref v)]) hx hb dJ6_getChars_ba4f3_12 hl (by decide) rfl ?_
  clear hl; intro ls hl
  refine lv_iload hx hb dJ6_getChars_ba4f3_14 (lv_at hl 0 rfl) ?_
  refine lv_if_ne (tgt := 22) hx hb dJ6_getChars_ba4f3_16 (by decide) (fun hc => absurd rfl hc) (fun _ => ?_)
  refine lv_iload_n hx hb dJ6_getChars_ba4f3_19 rfl (lv_at hl 2 rfl) ?_
  refine lv_ineg hx hb dJ6_getChars_ba4f3_20 ?_
  refine lv_istore_n (lv' := [(0, .int (-(nI n))), (6, .int 0), (5, .int (nI ei)), (1, .int (nI ei)), (2, .ref v)]) hx hb dJ6_getChars_ba4f3_21 rfl hl (by decide) rfl ?_
  clear hl; intro ls hl
  refine lv_iload_n hx hb dJ6_getChars_ba4f3_22 rfl (lv_at hl 0 rfl) ?_
  refine lv_bipush (v := (-100)) hx hb dJ6_getChars_ba4f3_23 (by decide) ?_
  refine lv_icmp_gt (tgt := 72) hx hb dJ6_getChars_ba4f3_25 (by decide) (fun _ => ?_) (fun hc => absurd (ngt (k := 100) (by decide +kernel) (by omega) (by omega)) hc)
  refine lv_aload_n hx hb dJ6_getChars_ba4f3_72 rfl (lv_at hl 4 rfl) ?_
  refine lv_iinc (lv' := [(5, .int (nI (ei - 1))), (0, .int (-(nI n))), (6, .int 0), (1, .int (nI ei)), (2, .ref v)]) (k := 2) hx hb dJ6_getChars_ba4f3_73 hl rfl (by first | exact nI_dec (by omega) | (rw [nI_dec (by omega)]; congr 1)) (by decide) rfl ?_
  clear hl; intro ls hl
  refine lv_iload hx hb dJ6_getChars_ba4f3_76 (lv_at hl 0 rfl) ?_
  refine p_gets X hZ1 hS hA m_4_78 dJ6_getChars_ba4f3_78 ?_
  refine lv_iload_n hx hb dJ6_getChars_ba4f3_81 rfl (lv_at hl 1 rfl) ?_
  refine lv_ineg hx hb dJ6_getChars_ba4f3_82 ?_
  refine lv_to (y := nI n) (nneg _) ?_
  refine s_bald (f := (fun k => nI (48 + k % 10))) X (va_T.at hT1 hS hA) (by omega) (by omega) dJ6_getChars_ba4f3_83 ?_
  refine lv_to (y := nI (48 + n % 10)) rfl ?_
  refine p_bast (t := 7) X f1 rfl (nI_in (by omega) (by omega)) dJ6_getChars_ba4f3_84 fun H1 kH1 nH1 zH1 oH1 => ?_
  replace hS := hS.put (k := kH1) zH1 oH1 (Or.inl rfl)
  replace f1 : va_at (gDD G) vwCl (v, .inl (gty G 7, cap, .inl (upd f (ei - 1) (nI (48 + n % 10))))) H1 := by rw [nI_clamp (by omega), nar_dig (by omega)] at nH1; exact nH1
  clear zH1 oH1 nH1
  refine lv_iload_n hx hb dJ6_getChars_ba4f3_85 rfl (lv_at hl 1 rfl) ?_
  refine lv_bipush (v := (-9)) hx hb dJ6_getChars_ba4f3_86 (by decide) ?_
  refine lv_icmp_ge (tgt := 104) hx hb dJ6_getChars_ba4f3_88 (by decide) (fun hc => absurd hc (nnge (k := 9) (by decide +kernel) (by omega) (by omega))) (fun _ => ?_)
  refine lv_aload_n hx hb dJ6_getChars_ba4f3_91 rfl (lv_at hl 4 rfl) ?_
  refine lv_iinc (lv' := [(5, .int (nI (ei - 2))), (0, .int (-(nI n))), (6, .int 0), (1, .int (nI ei)), (2, .ref v)]) (k := 0) hx hb dJ6_getChars_ba4f3_92 hl rfl ((nI_dec (by omega)).trans (by rw [show ei - 1 - 1 = ei - 2 from by omega])) (by decide) rfl ?_
  clear hl; intro ls hl
  refine lv_iload hx hb dJ6_getChars_ba4f3_95 (lv_at hl 0 rfl) ?_
  refine p_gets X hZ2 hS hA m_4_80 dJ6_getChars_ba4f3_97 ?_
  refine lv_iload_n hx hb dJ6_getChars_ba4f3_100 rfl (lv_at hl 1 rfl) ?_
  refine lv_ineg hx hb dJ6_getChars_ba4f3_101 ?_
  refine lv_to (y := nI n) (nneg _) ?_
  refine s_bald (f := (fun k => nI (48 + k / 10))) X (va_T.at hT2 hS hA) (by omega) (by omega) dJ6_getChars_ba4f3_102 ?_
  refine lv_to (y := nI (48 + n / 10)) rfl ?_
  refine p_bast (t := 7) X f1 rfl (nI_in (by omega) (by omega)) dJ6_getChars_ba4f3_103 fun H2 kH2 nH2 zH2 oH2 => ?_
  replace hS := hS.put (k := kH2) zH2 oH2 (Or.inl rfl)
  replace f1 : va_at (gDD G) vwCl (v, .inl (gty G 7, cap, .inl (upd (upd f (ei - 1) (nI (48 + n % 10))) (ei - 2) (nI (48 + n / 10))))) H2 := by rw [nI_clamp (by omega), nar_dig (by omega)] at nH2; exact nH2
  clear zH2 oH2 nH2
  refine lv_iload hx hb dJ6_getChars_ba4f3_104 (lv_at hl 2 rfl) ?_
  refine lv_if_eq (tgt := 118) hx hb dJ6_getChars_ba4f3_106 (by decide) (fun _ => ?_) (fun hc => absurd rfl hc)
  refine lv_iload hx hb dJ6_getChars_ba4f3_118 (lv_at hl 0 rfl) ?_
  have hd : dec n = [48 + n / 10, 48 + n % 10] := by unfold dec; rw [if_neg (by omega), if_pos (by omega)]
  have hlen : (dec n).length = 2 := by rw [hd]; rfl
  have hq : ∀ i, i < 2 → (upd (upd f (ei - 1) (nI (48 + n % 10))) (ei - 2) (nI (48 + n / 10))) (ei - 2 + i) = tB (dec n) i := by
    intro i hi
    rw [hd]
    rcases (by omega : i = 0 ∨ i = 1) with rfl | rfl
    · exact upd_y (by omega)
    · exact (upd_n (by omega)).trans (upd_y (by omega))
  exact hr _ _ _ _ _ _ dJ6_getChars_ba4f3_120 ⟨by rw [hlen], _, f1, fun i hi => by rw [hlen] at hi; exact (upd_n (by omega)).trans (upd_n (by omega)), fun i hi => by rw [hlen] at hi ⊢; exact hq i hi, by repeat (first | exact hf | refine bfit.put ?_ (by omega))⟩ hS (by omega) (by omega)
set_option maxHeartbeats 2000000 in
theorem ch_chars3 {G : Gt} {l : Launch} {v cap ei n sz : Nat} {f : Nat → Int32} (hG : AllA G) (hgv : gz G ≤ v) (hf : bfit f) (he : 3 ≤ ei) (hec : ei ≤ cap) (hc : cap < 2 ^ 30) (h : 100 ≤ n ∧ n < 1000) : CtH G l yJ6_getChars_ba4f3 cJ6_getChars_ba4f3 7 (some .int) 1 0 (0) [.int (nI n), .int (nI ei), .ref v] sz (fun q => q = v) (fun U => va_at (gDD G) vwCl (v, .inl (gty G 7, cap, .inl f)) U.heap ∧ EnvD G U) (fun ov H => ov = some (.int (nI (ei - (dec n).length))) ∧ ∃ f1, va_at (gDD G) vwCl (v, .inl (gty G 7, cap, .inl f1)) H ∧ (∀ i, i < ei - (dec n).length → f1 i = f i) ∧ (∀ i, i < (dec n).length → f1 (ei - (dec n).length + i) = tB (dec n) i) ∧ bfit f1) := by
  refine met_H (by decide +kernel) (Nat.le_of_ble_eq_true rfl) .ireturn (Or.inr (Or.inl ⟨.int, nI (ei - 3), rfl, rfl, rfl, rfl⟩)) ?_
  intro p e s m args below meth c Q ls X hnm hsz hP hr hl
  have hx := X.1.1
  have hb := X.1.2.1
  have hgz : gz G ≤ sz := by rw [← hsz]; exact X.2.1.2.1
  have hA : ∀ q, q < s.heap.size → frA (fun q => q = v) sz q → gA G q := fun q h8 h9 => hG q (by simp only [frA, false_or] at h9; omega)
  have hS : va_S (frA (fun q => q = v) sz) s.heap s.heap [] := va_S.rf
  have hl : lv_has ls 7 [(0, .int (nI n)), (1, .int (nI ei)), (2, .ref v)] := hl
  obtain ⟨f1, d1, d2, hZ1, hT1, hZ2, hT2⟩ := hP
  refine lv_iload_n hx hb dJ6_getChars_ba4f3_0 rfl (lv_at hl 1 rfl) ?_
  refine lv_istore (lv' := [(5, .int (nI ei)), (0, .int (nI n)), (1, .int (nI ei)), (2, .ref v)]) hx hb dJ6_getChars_ba4f3_1 hl (by decide) rfl ?_
  clear hl; intro ls hl
  refine lv_iload_n hx hb dJ6_getChars_ba4f3_3 rfl (lv_at hl 1 rfl) ?_
  refine lv_if_ge (tgt := 11) hx hb dJ6_getChars_ba4f3_4 (by decide) (fun _ => ?_) (fun hc => absurd (nI_pos' (by omega)) hc)
  refine lv_iconst (v := 0) hx hb dJ6_getChars_ba4f3_11 (by decide) ?_
  refine lv_istore (lv' := [(6, .int 0), (5, .int (nI ei)), (0, .int (nI n)), (1, .int (nI ei)), (2, .ref v)]) hx hb dJ6_getChars_ba4f3_12 hl (by decide) rfl ?_
  clear hl; intro ls hl
  refine lv_iload hx hb dJ6_getChars_ba4f3_14 (lv_at hl 0 rfl) ?_
  refine lv_if_ne (tgt := 22) hx hb dJ6_getChars_ba4f3_16 (by decide) (fun hc => absurd rfl hc) (fun _ => ?_)
  refine lv_iload_n hx hb dJ6_getChars_ba4f3_19 rfl (lv_at hl 2 rfl) ?_
  refine lv_ineg hx hb dJ6_getChars_ba4f3_20 ?_
  refine lv_istore_n (lv' := [(0, .int (-(nI n))), (6, .int 0), (5, .int (nI ei)), (1, .int (nI ei)), (2, .ref v)]) hx hb dJ6_getChars_ba4f3_21 rfl hl (by decide) rfl ?_
  clear hl; intro ls hl
  refine lv_iload_n hx hb dJ6_getChars_ba4f3_22 rfl (lv_at hl 0 rfl) ?_
  refine lv_bipush (v := (-100)) hx hb dJ6_getChars_ba4f3_23 (by decide) ?_
  refine lv_icmp_gt (tgt := 72) hx hb dJ6_getChars_ba4f3_25 (by decide) (fun hc => absurd hc (nngt (k := 100) (by decide +kernel) (by omega) (by omega))) (fun _ => ?_)
  refine lv_iload_n hx hb dJ6_getChars_ba4f3_28 rfl (lv_at hl 0 rfl) ?_
  refine lv_bipush (v := 100) hx hb dJ6_getChars_ba4f3_29 (by decide) ?_
  refine lv_idiv hx hb dJ6_getChars_ba4f3_31 (by decide) ?_
  refine lv_to (y := -(nI (n / 100))) (ndiv (by omega)) ?_
  refine lv_istore_n (lv' := [(3, .int (-(nI (n / 100)))), (0, .int (-(nI n))), (6, .int 0), (5, .int (nI ei)), (1, .int (nI ei)), (2, .ref v)]) hx hb dJ6_getChars_ba4f3_32 rfl hl (by decide) rfl ?_
  clear hl; intro ls hl
  refine lv_iload_n hx hb dJ6_getChars_ba4f3_33 rfl (lv_at hl 0 rfl) ?_
  refine lv_bipush (v := 100) hx hb dJ6_getChars_ba4f3_34 (by decide) ?_
  refine lv_imul hx hb dJ6_getChars_ba4f3_36 ?_
  refine lv_iload_n hx hb dJ6_getChars_ba4f3_37 rfl (lv_at hl 1 rfl) ?_
  refine lv_isub hx hb dJ6_getChars_ba4f3_38 ?_
  refine lv_to (y := nI (n % 100)) (nrem (by omega)) ?_
  refine lv_istore (lv' := [(4, .int (nI (n % 100))), (3, .int (-(nI (n / 100)))), (0, .int (-(nI n))), (6, .int 0), (5, .int (nI ei)), (1, .int (nI ei)), (2, .ref v)]) hx hb dJ6_getChars_ba4f3_39 hl (by decide) rfl ?_
  clear hl; intro ls hl
  refine lv_iload_n hx hb dJ6_getChars_ba4f3_41 rfl (lv_at hl 1 rfl) ?_
  refine lv_istore_n (lv' := [(0, .int (-(nI (n / 100)))), (4, .int (nI (n % 100))), (3, .int (-(nI (n / 100)))), (6, .int 0), (5, .int (nI ei)), (1, .int (nI ei)), (2, .ref v)]) hx hb dJ6_getChars_ba4f3_42 rfl hl (by decide) rfl ?_
  clear hl; intro ls hl
  refine lv_aload_n hx hb dJ6_getChars_ba4f3_43 rfl (lv_at hl 6 rfl) ?_
  refine lv_iinc (lv' := [(5, .int (nI (ei - 1))), (0, .int (-(nI (n / 100)))), (4, .int (nI (n % 100))), (3, .int (-(nI (n / 100)))), (6, .int 0), (1, .int (nI ei)), (2, .ref v)]) (k := 4) hx hb dJ6_getChars_ba4f3_44 hl rfl (by first | exact nI_dec (by omega) | (rw [nI_dec (by omega)]; congr 1)) (by decide) rfl ?_
  clear hl; intro ls hl
  refine lv_iload hx hb dJ6_getChars_ba4f3_47 (lv_at hl 0 rfl) ?_
  refine p_gets X hZ1 hS hA m_4_78 dJ6_getChars_ba4f3_49 ?_
  refine lv_iload hx hb dJ6_getChars_ba4f3_52 (lv_at hl 2 rfl) ?_
  refine s_bald (f := (fun k => nI (48 + k % 10))) X (va_T.at hT1 hS hA) (by omega) (by omega) dJ6_getChars_ba4f3_54 ?_
  refine lv_to (y := nI (48 + n % 100 % 10)) rfl ?_
  refine p_bast (t := 7) X f1 rfl (nI_in (by omega) (by omega)) dJ6_getChars_ba4f3_55 fun H1 kH1 nH1 zH1 oH1 => ?_
  replace hS := hS.put (k := kH1) zH1 oH1 (Or.inl rfl)
  replace f1 : va_at (gDD G) vwCl (v, .inl (gty G 7, cap, .inl (upd f (ei - 1) (nI (48 + n % 100 % 10))))) H1 := by rw [nI_clamp (by omega), nar_dig (by omega)] at nH1; exact nH1
  clear zH1 oH1 nH1
  refine lv_aload_n hx hb dJ6_getChars_ba4f3_56 rfl (lv_at hl 6 rfl) ?_
  refine lv_iinc (lv' := [(5, .int (nI (ei - 2))), (0, .int (-(nI (n / 100)))), (4, .int (nI (n % 100))), (3, .int (-(nI (n / 100)))), (6, .int 0), (1, .int (nI ei)), (2, .ref v)]) (k := 0) hx hb dJ6_getChars_ba4f3_57 hl rfl ((nI_dec (by omega)).trans (by rw [show ei - 1 - 1 = ei - 2 from by omega])) (by decide) rfl ?_
  clear hl; intro ls hl
  refine lv_iload hx hb dJ6_getChars_ba4f3_60 (lv_at hl 0 rfl) ?_
  refine p_gets X hZ2 hS hA m_4_80 dJ6_getChars_ba4f3_62 ?_
  refine lv_iload hx hb dJ6_getChars_ba4f3_65 (lv_at hl 2 rfl) ?_
  refine s_bald (f := (fun k => nI (48 + k / 10))) X (va_T.at hT2 hS hA) (by omega) (by omega) dJ6_getChars_ba4f3_67 ?_
  refine lv_to (y := nI (48 + n % 100 / 10)) rfl ?_
  refine p_bast (t := 7) X f1 rfl (nI_in (by omega) (by omega)) dJ6_getChars_ba4f3_68 fun H2 kH2 nH2 zH2 oH2 => ?_
  replace hS := hS.put (k := kH2) zH2 oH2 (Or.inl rfl)
  replace f1 : va_at (gDD G) vwCl (v, .inl (gty G 7, cap, .inl (upd (upd f (ei - 1) (nI (48 + n % 100 % 10))) (ei - 2) (nI (48 + n % 100 / 10))))) H2 := by rw [nI_clamp (by omega), nar_dig (by omega)] at nH2; exact nH2
  clear zH2 oH2 nH2
  refine lv_goto (tgt := 22) hx hb dJ6_getChars_ba4f3_69 (by decide) ?_
  refine lv_iload_n hx hb dJ6_getChars_ba4f3_22 rfl (lv_at hl 1 rfl) ?_
  refine lv_bipush (v := (-100)) hx hb dJ6_getChars_ba4f3_23 (by decide) ?_
  refine lv_icmp_gt (tgt := 72) hx hb dJ6_getChars_ba4f3_25 (by decide) (fun _ => ?_) (fun hc => absurd (ngt (k := 100) (by decide +kernel) (by omega) (by omega)) hc)
  refine lv_aload_n hx hb dJ6_getChars_ba4f3_72 rfl (lv_at hl 6 rfl) ?_
  refine lv_iinc (lv' := [(5, .int (nI (ei - 3))), (0, .int (-(nI (n / 100)))), (4, .int (nI (n % 100))), (3, .int (-(nI (n / 100)))), (6, .int 0), (1, .int (nI ei)), (2, .ref v)]) (k := 0) hx hb dJ6_getChars_ba4f3_73 hl rfl ((nI_dec (by omega)).trans (by rw [show ei - 2 - 1 = ei - 3 from by omega])) (by decide) rfl ?_
  clear hl; intro ls hl
  refine lv_iload hx hb dJ6_getChars_ba4f3_76 (lv_at hl 0 rfl) ?_
  refine p_gets X hZ1 hS hA m_4_78 dJ6_getChars_ba4f3_78 ?_
  refine lv_iload_n hx hb dJ6_getChars_ba4f3_81 rfl (lv_at hl 1 rfl) ?_
  refine lv_ineg hx hb dJ6_getChars_ba4f3_82 ?_
  refine lv_to (y := nI (n / 100)) (nneg _) ?_
  refine s_bald (f := (fun k => nI (48 + k % 10))) X (va_T.at hT1 hS hA) (by omega) (by omega) dJ6_getChars_ba4f3_83 ?_
  refine lv_to (y := nI (48 + n / 100)) (by show nI (48 + n / 100 % 10) = _; rw [show n / 100 % 10 = n / 100 from by omega]) ?_
  refine p_bast (t := 7) X f1 rfl (nI_in (by omega) (by omega)) dJ6_getChars_ba4f3_84 fun H3 kH3 nH3 zH3 oH3 => ?_
  replace hS := hS.put (k := kH3) zH3 oH3 (Or.inl rfl)
  replace f1 : va_at (gDD G) vwCl (v, .inl (gty G 7, cap, .inl (upd (upd (upd f (ei - 1) (nI (48 + n % 100 % 10))) (ei - 2) (nI (48 + n % 100 / 10))) (ei - 3) (nI (48 + n / 100))))) H3 := by rw [nI_clamp (by omega), nar_dig (by omega)] at nH3; exact nH3
  clear zH3 oH3 nH3
  refine lv_iload_n hx hb dJ6_getChars_ba4f3_85 rfl (lv_at hl 1 rfl) ?_
  refine lv_bipush (v := (-9)) hx hb dJ6_getChars_ba4f3_86 (by decide) ?_
  refine lv_icmp_ge (tgt := 104) hx hb dJ6_getChars_ba4f3_88 (by decide) (fun _ => ?_) (fun hc => absurd (nge (k := 9) (by decide +kernel) (by omega) (by omega)) hc)
  refine lv_iload hx hb dJ6_getChars_ba4f3_104 (lv_at hl 4 rfl) ?_
  refine lv_if_eq (tgt := 118) hx hb dJ6_getChars_ba4f3_106 (by decide) (fun _ => ?_) (fun hc => absurd rfl hc)
  refine lv_iload hx hb dJ6_getChars_ba4f3_118 (lv_at hl 0 rfl) ?_
  have hd : dec n = [48 + n / 100, 48 + n % 100 / 10, 48 + n % 100 % 10] := by unfold dec; rw [if_neg (by omega), if_neg (by omega), if_pos (by omega)]
  have hlen : (dec n).length = 3 := by rw [hd]; rfl
  have hq : ∀ i, i < 3 → (upd (upd (upd f (ei - 1) (nI (48 + n % 100 % 10))) (ei - 2) (nI (48 + n % 100 / 10))) (ei - 3) (nI (48 + n / 100))) (ei - 3 + i) = tB (dec n) i := by
    intro i hi
    rw [hd]
    rcases (by omega : i = 0 ∨ i = 1 ∨ i = 2) with rfl | rfl | rfl
    · exact upd_y (by omega)
    · exact (upd_n (by omega)).trans (upd_y (by omega))
    · exact (upd_n (by omega)).trans ((upd_n (by omega)).trans (upd_y (by omega)))
  exact hr _ _ _ _ _ _ dJ6_getChars_ba4f3_120 ⟨by rw [hlen], _, f1, fun i hi => by rw [hlen] at hi; exact (upd_n (by omega)).trans ((upd_n (by omega)).trans (upd_n (by omega))), fun i hi => by rw [hlen] at hi ⊢; exact hq i hi, by repeat (first | exact hf | refine bfit.put ?_ (by omega))⟩ hS (by omega) (by omega)
set_option maxHeartbeats 2000000 in
theorem ch_chars4 {G : Gt} {l : Launch} {v cap ei n sz : Nat} {f : Nat → Int32} (hG : AllA G) (hgv : gz G ≤ v) (hf : bfit f) (he : 4 ≤ ei) (hec : ei ≤ cap) (hc : cap < 2 ^ 30) (h : 1000 ≤ n ∧ n < 10000) : CtH G l yJ6_getChars_ba4f3 cJ6_getChars_ba4f3 7 (some .int) 1 0 (0) [.int (nI n), .int (nI ei), .ref v] sz (fun q => q = v) (fun U => va_at (gDD G) vwCl (v, .inl (gty G 7, cap, .inl f)) U.heap ∧ EnvD G U) (fun ov H => ov = some (.int (nI (ei - (dec n).length))) ∧ ∃ f1, va_at (gDD G) vwCl (v, .inl (gty G 7, cap, .inl f1)) H ∧ (∀ i, i < ei - (dec n).length → f1 i = f i) ∧ (∀ i, i < (dec n).length → f1 (ei - (dec n).length + i) = tB (dec n) i) ∧ bfit f1) := by
  refine met_H (by decide +kernel) (Nat.le_of_ble_eq_true rfl) .ireturn (Or.inr (Or.inl ⟨.int, nI (ei - 4), rfl, rfl, rfl, rfl⟩)) ?_
  intro p e s m args below meth c Q ls X hnm hsz hP hr hl
  have hx := X.1.1
  have hb := X.1.2.1
  have hgz : gz G ≤ sz := by rw [← hsz]; exact X.2.1.2.1
  have hA : ∀ q, q < s.heap.size → frA (fun q => q = v) sz q → gA G q := fun q h8 h9 => hG q (by simp only [frA, false_or] at h9; omega)
  have hS : va_S (frA (fun q => q = v) sz) s.heap s.heap [] := va_S.rf
  have hl : lv_has ls 7 [(0, .int (nI n)), (1, .int (nI ei)), (2, .ref v)] := hl
  obtain ⟨f1, d1, d2, hZ1, hT1, hZ2, hT2⟩ := hP
  refine lv_iload_n hx hb dJ6_getChars_ba4f3_0 rfl (lv_at hl 1 rfl) ?_
  refine lv_istore (lv' := [(5, .int (nI ei)), (0, .int (nI n)), (1, .int (nI ei)), (2, .ref v)]) hx hb dJ6_getChars_ba4f3_1 hl (by decide) rfl ?_
  clear hl; intro ls hl
  refine lv_iload_n hx hb dJ6_getChars_ba4f3_3 rfl (lv_at hl 1 rfl) ?_
  refine lv_if_ge (tgt := 11) hx hb dJ6_getChars_ba4f3_4 (by decide) (fun _ => ?_) (fun hc => absurd (nI_pos' (by omega)) hc)
  refine lv_iconst (v := 0) hx hb dJ6_getChars_ba4f3_11 (by decide) ?_
  refine lv_istore (lv' := [(6, .int 0), (5, .int (nI ei)), (0, .int (nI n)), (1, .int (nI ei)), (2, .ref v)]) hx hb dJ6_getChars_ba4f3_12 hl (by decide) rfl ?_
  clear hl; intro ls hl
  refine lv_iload hx hb dJ6_getChars_ba4f3_14 (lv_at hl 0 rfl) ?_
  refine lv_if_ne (tgt := 22) hx hb dJ6_getChars_ba4f3_16 (by decide) (fun hc => absurd rfl hc) (fun _ => ?_)
  refine lv_iload_n hx hb dJ6_getChars_ba4f3_19 rfl (lv_at hl 2 rfl) ?_
  refine lv_ineg hx hb dJ6_getChars_ba4f3_20 ?_
  refine lv_istore_n (lv' := [(0, .int (-(nI n))), (6, .int 0), (5, .int (nI ei)), (1, .int (nI ei)), (2, .ref v)]) hx hb dJ6_getChars_ba4f3_21 rfl hl (by decide) rfl ?_
  clear hl; intro ls hl
  refine lv_iload_n hx hb dJ6_getChars_ba4f3_22 rfl (lv_at hl 0 rfl) ?_
  refine lv_bipush (v := (-100)) hx hb dJ6_getChars_ba4f3_23 (by decide) ?_
  refine lv_icmp_gt (tgt := 72) hx hb dJ6_getChars_ba4f3_25 (by decide) (fun hc => absurd hc (nngt (k := 100) (by decide +kernel) (by omega) (by omega))) (fun _ => ?_)
  refine lv_iload_n hx hb dJ6_getChars_ba4f3_28 rfl (lv_at hl 0 rfl) ?_
  refine lv_bipush (v := 100) hx hb dJ6_getChars_ba4f3_29 (by decide) ?_
  refine lv_idiv hx hb dJ6_getChars_ba4f3_31 (by decide) ?_
  refine lv_to (y := -(nI (n / 100))) (ndiv (by omega)) ?_
  refine lv_istore_n (lv' := [(3, .int (-(nI (n / 100)))), (0, .int (-(nI n))), (6, .int 0), (5, .int (nI ei)), (1, .int (nI ei)), (2, .ref v)]) hx hb dJ6_getChars_ba4f3_32 rfl hl (by decide) rfl ?_
  clear hl; intro ls hl
  refine lv_iload_n hx hb dJ6_getChars_ba4f3_33 rfl (lv_at hl 0 rfl) ?_
  refine lv_bipush (v := 100) hx hb dJ6_getChars_ba4f3_34 (by decide) ?_
  refine lv_imul hx hb dJ6_getChars_ba4f3_36 ?_
  refine lv_iload_n hx hb dJ6_getChars_ba4f3_37 rfl (lv_at hl 1 rfl) ?_
  refine lv_isub hx hb dJ6_getChars_ba4f3_38 ?_
  refine lv_to (y := nI (n % 100)) (nrem (by omega)) ?_
  refine lv_istore (lv' := [(4, .int (nI (n % 100))), (3, .int (-(nI (n / 100)))), (0, .int (-(nI n))), (6, .int 0), (5, .int (nI ei)), (1, .int (nI ei)), (2, .ref v)]) hx hb dJ6_getChars_ba4f3_39 hl (by decide) rfl ?_
  clear hl; intro ls hl
  refine lv_iload_n hx hb dJ6_getChars_ba4f3_41 rfl (lv_at hl 1 rfl) ?_
  refine lv_istore_n (lv' := [(0, .int (-(nI (n / 100)))), (4, .int (nI (n % 100))), (3, .int (-(nI (n / 100)))), (6, .int 0), (5, .int (nI ei)), (1, .int (nI ei)), (2, .ref v)]) hx hb dJ6_getChars_ba4f3_42 rfl hl (by decide) rfl ?_
  clear hl; intro ls hl
  refine lv_aload_n hx hb dJ6_getChars_ba4f3_43 rfl (lv_at hl 6 rfl) ?_
  refine lv_iinc (lv' := [(5, .int (nI (ei - 1))), (0, .int (-(nI (n / 100)))), (4, .int (nI (n % 100))), (3, .int (-(nI (n / 100)))), (6, .int 0), (1, .int (nI ei)), (2, .ref v)]) (k := 4) hx hb dJ6_getChars_ba4f3_44 hl rfl (by first | exact nI_dec (by omega) | (rw [nI_dec (by omega)]; congr 1)) (by decide) rfl ?_
  clear hl; intro ls hl
  refine lv_iload hx hb dJ6_getChars_ba4f3_47 (lv_at hl 0 rfl) ?_
  refine p_gets X hZ1 hS hA m_4_78 dJ6_getChars_ba4f3_49 ?_
  refine lv_iload hx hb dJ6_getChars_ba4f3_52 (lv_at hl 2 rfl) ?_
  refine s_bald (f := (fun k => nI (48 + k % 10))) X (va_T.at hT1 hS hA) (by omega) (by omega) dJ6_getChars_ba4f3_54 ?_
  refine lv_to (y := nI (48 + n % 100 % 10)) rfl ?_
  refine p_bast (t := 7) X f1 rfl (nI_in (by omega) (by omega)) dJ6_getChars_ba4f3_55 fun H1 kH1 nH1 zH1 oH1 => ?_
  replace hS := hS.put (k := kH1) zH1 oH1 (Or.inl rfl)
  replace f1 : va_at (gDD G) vwCl (v, .inl (gty G 7, cap, .inl (upd f (ei - 1) (nI (48 + n % 100 % 10))))) H1 := by rw [nI_clamp (by omega), nar_dig (by omega)] at nH1; exact nH1
  clear zH1 oH1 nH1
  refine lv_aload_n hx hb dJ6_getChars_ba4f3_56 rfl (lv_at hl 6 rfl) ?_
  refine lv_iinc (lv' := [(5, .int (nI (ei - 2))), (0, .int (-(nI (n / 100)))), (4, .int (nI (n % 100))), (3, .int (-(nI (n / 100)))), (6, .int 0), (1, .int (nI ei)), (2, .ref v)]) (k := 0) hx hb dJ6_getChars_ba4f3_57 hl rfl ((nI_dec (by omega)).trans (by rw [show ei - 1 - 1 = ei - 2 from by omega])) (by decide) rfl ?_
  clear hl; intro ls hl
  refine lv_iload hx hb dJ6_getChars_ba4f3_60 (lv_at hl 0 rfl) ?_
  refine p_gets X hZ2 hS hA m_4_80 dJ6_getChars_ba4f3_62 ?_
  refine lv_iload hx hb dJ6_getChars_ba4f3_65 (lv_at hl 2 rfl) ?_
  refine s_bald (f := (fun k => nI (48 + k / 10))) X (va_T.at hT2 hS hA) (by omega) (by omega) dJ6_getChars_ba4f3_67 ?_
  refine lv_to (y := nI (48 + n % 100 / 10)) rfl ?_
  refine p_bast (t := 7) X f1 rfl (nI_in (by omega) (by omega)) dJ6_getChars_ba4f3_68 fun H2 kH2 nH2 zH2 oH2 => ?_
  replace hS := hS.put (k := kH2) zH2 oH2 (Or.inl rfl)
  replace f1 : va_at (gDD G) vwCl (v, .inl (gty G 7, cap, .inl (upd (upd f (ei - 1) (nI (48 + n % 100 % 10))) (ei - 2) (nI (48 + n % 100 / 10))))) H2 := by rw [nI_clamp (by omega), nar_dig (by omega)] at nH2; exact nH2
  clear zH2 oH2 nH2
  refine lv_goto (tgt := 22) hx hb dJ6_getChars_ba4f3_69 (by decide) ?_
  refine lv_iload_n hx hb dJ6_getChars_ba4f3_22 rfl (lv_at hl 1 rfl) ?_
  refine lv_bipush (v := (-100)) hx hb dJ6_getChars_ba4f3_23 (by decide) ?_
  refine lv_icmp_gt (tgt := 72) hx hb dJ6_getChars_ba4f3_25 (by decide) (fun _ => ?_) (fun hc => absurd (ngt (k := 100) (by decide +kernel) (by omega) (by omega)) hc)
  refine lv_aload_n hx hb dJ6_getChars_ba4f3_72 rfl (lv_at hl 6 rfl) ?_
  refine lv_iinc (lv' := [(5, .int (nI (ei - 3))), (0, .int (-(nI (n / 100)))), (4, .int (nI (n % 100))), (3, .int (-(nI (n / 100)))), (6, .int 0), (1, .int (nI ei)), (2, .ref v)]) (k := 0) hx hb dJ6_getChars_ba4f3_73 hl rfl ((nI_dec (by omega)).trans (by rw [show ei - 2 - 1 = ei - 3 from by omega])) (by decide) rfl ?_
  clear hl; intro ls hl
  refine lv_iload hx hb dJ6_getChars_ba4f3_76 (lv_at hl 0 rfl) ?_
  refine p_gets X hZ1 hS hA m_4_78 dJ6_getChars_ba4f3_78 ?_
  refine lv_iload_n hx hb dJ6_getChars_ba4f3_81 rfl (lv_at hl 1 rfl) ?_
  refine lv_ineg hx hb dJ6_getChars_ba4f3_82 ?_
  refine lv_to (y := nI (n / 100)) (nneg _) ?_
  refine s_bald (f := (fun k => nI (48 + k % 10))) X (va_T.at hT1 hS hA) (by omega) (by omega) dJ6_getChars_ba4f3_83 ?_
  refine lv_to (y := nI (48 + n / 100 % 10)) rfl ?_
  refine p_bast (t := 7) X f1 rfl (nI_in (by omega) (by omega)) dJ6_getChars_ba4f3_84 fun H3 kH3 nH3 zH3 oH3 => ?_
  replace hS := hS.put (k := kH3) zH3 oH3 (Or.inl rfl)
  replace f1 : va_at (gDD G) vwCl (v, .inl (gty G 7, cap, .inl (upd (upd (upd f (ei - 1) (nI (48 + n % 100 % 10))) (ei - 2) (nI (48 + n % 100 / 10))) (ei - 3) (nI (48 + n / 100 % 10))))) H3 := by rw [nI_clamp (by omega), nar_dig (by omega)] at nH3; exact nH3
  clear zH3 oH3 nH3
  refine lv_iload_n hx hb dJ6_getChars_ba4f3_85 rfl (lv_at hl 1 rfl) ?_
  refine lv_bipush (v := (-9)) hx hb dJ6_getChars_ba4f3_86 (by decide) ?_
  refine lv_icmp_ge (tgt := 104) hx hb dJ6_getChars_ba4f3_88 (by decide) (fun hc => absurd hc (nnge (k := 9) (by decide +kernel) (by omega) (by omega))) (fun _ => ?_)
  refine lv_aload_n hx hb dJ6_getChars_ba4f3_91 rfl (lv_at hl 6 rfl) ?_
  refine lv_iinc (lv' := [(5, .int (nI (ei - 4))), (0, .int (-(nI (n / 100)))), (4, .int (nI (n % 100))), (3, .int (-(nI (n / 100)))), (6, .int 0), (1, .int (nI ei)), (2, .ref v)]) (k := 0) hx hb dJ6_getChars_ba4f3_92 hl rfl ((nI_dec (by omega)).trans (by rw [show ei - 3 - 1 = ei - 4 from by omega])) (by decide) rfl ?_
  clear hl; intro ls hl
  refine lv_iload hx hb dJ6_getChars_ba4f3_95 (lv_at hl 0 rfl) ?_
  refine p_gets X hZ2 hS hA m_4_80 dJ6_getChars_ba4f3_97 ?_
  refine lv_iload_n hx hb dJ6_getChars_ba4f3_100 rfl (lv_at hl 1 rfl) ?_
  refine lv_ineg hx hb dJ6_getChars_ba4f3_101 ?_
  refine lv_to (y := nI (n / 100)) (nneg _) ?_
  refine s_bald (f := (fun k => nI (48 + k / 10))) X (va_T.at hT2 hS hA) (by omega) (by omega) dJ6_getChars_ba4f3_102 ?_
  refine lv_to (y := nI (48 + n / 100 / 10)) rfl ?_
  refine p_bast (t := 7) X f1 rfl (nI_in (by omega) (by omega)) dJ6_getChars_ba4f3_103 fun H4 kH4 nH4 zH4 oH4 => ?_
  replace hS := hS.put (k := kH4) zH4 oH4 (Or.inl rfl)
  replace f1 : va_at (gDD G) vwCl (v, .inl (gty G 7, cap, .inl (upd (upd (upd (upd f (ei - 1) (nI (48 + n % 100 % 10))) (ei - 2) (nI (48 + n % 100 / 10))) (ei - 3) (nI (48 + n / 100 % 10))) (ei - 4) (nI (48 + n / 100 / 10))))) H4 := by rw [nI_clamp (by omega), nar_dig (by omega)] at nH4; exact nH4
  clear zH4 oH4 nH4
  refine lv_iload hx hb dJ6_getChars_ba4f3_104 (lv_at hl 4 rfl) ?_
  refine lv_if_eq (tgt := 118) hx hb dJ6_getChars_ba4f3_106 (by decide) (fun _ => ?_) (fun hc => absurd rfl hc)
  refine lv_iload hx hb dJ6_getChars_ba4f3_118 (lv_at hl 0 rfl) ?_
  have hd : dec n = [48 + n / 100 / 10, 48 + n / 100 % 10, 48 + n % 100 / 10, 48 + n % 100 % 10] := by unfold dec; rw [if_neg (by omega), if_neg (by omega), if_neg (by omega)]
  have hlen : (dec n).length = 4 := by rw [hd]; rfl
  have hq : ∀ i, i < 4 → (upd (upd (upd (upd f (ei - 1) (nI (48 + n % 100 % 10))) (ei - 2) (nI (48 + n % 100 / 10))) (ei - 3) (nI (48 + n / 100 % 10))) (ei - 4) (nI (48 + n / 100 / 10))) (ei - 4 + i) = tB (dec n) i := by
    intro i hi
    rw [hd]
    rcases (by omega : i = 0 ∨ i = 1 ∨ i = 2 ∨ i = 3) with rfl | rfl | rfl | rfl
    · exact upd_y (by omega)
    · exact (upd_n (by omega)).trans (upd_y (by omega))
    · exact (upd_n (by omega)).trans ((upd_n (by omega)).trans (upd_y (by omega)))
    · exact (upd_n (by omega)).trans ((upd_n (by omega)).trans ((upd_n (by omega)).trans (upd_y (by omega))))
  exact hr _ _ _ _ _ _ dJ6_getChars_ba4f3_120 ⟨by rw [hlen], _, f1, fun i hi => by rw [hlen] at hi; exact (upd_n (by omega)).trans ((upd_n (by omega)).trans ((upd_n (by omega)).trans (upd_n (by omega)))), fun i hi => by rw [hlen] at hi ⊢; exact hq i hi, by repeat (first | exact hf | refine bfit.put ?_ (by omega))⟩ hS (by omega) (by omega)
