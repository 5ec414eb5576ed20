/-! ArrayList: get, size -/
theorem m_1_4 : Cond.initialized RJx4a65c ∈ TB := mem_t1 4 (by decide +kernel)
theorem m_1_34 : Cond.initialized RJ15 ∈ TB := mem_t1 34 (by decide +kernel)
theorem m_3_50 : Cond.fieldLink RJx4a65c 9 "java/util/ArrayList" "elementData" "[Ljava/lang/Object;" ∈ TB := mem_t3 50 (by decide +kernel)
theorem m_3_51 : Cond.fieldLink RJx4a65c 48 "java/util/ArrayList" "size" "I" ∈ TB := mem_t3 51 (by decide +kernel)
theorem m_3_101 : Cond.instanceMethod yJx4a65c_get_915e3 ∈ TB := mem_t3 101 (by decide +kernel)
theorem m_3_102 : Cond.selects RJx4a65c yJx4a65c_get_915e3 yJx4a65c_get_915e3 ∈ TB := mem_t3 102 (by decide +kernel)
theorem m_3_103 : Cond.code yJx4a65c_get_915e3 cJx4a65c_get_915e3 2 (some (.object "java/lang/Object")) ∈ TB := mem_t3 103 (by decide +kernel)
theorem m_3_104 : Cond.methodLink RJx4a65c 118 yJ15_checkIndex_7cf53 ∈ TB := mem_t3 104 (by decide +kernel)
theorem m_3_105 : Cond.static yJ15_checkIndex_7cf53 ∈ TB := mem_t3 105 (by decide +kernel)
theorem m_3_106 : Cond.code yJ15_checkIndex_7cf53 cJ15_checkIndex_7cf53 2 (some .int) ∈ TB := mem_t3 106 (by decide +kernel)
theorem m_3_107 : Cond.methodLink RJ15 105 yJ3_checkIndex_8e157 ∈ TB := mem_t3 107 (by decide +kernel)
theorem m_3_110 : Cond.methodLink RJx4a65c 123 yJx4a65c_elementData_915e3 ∈ TB := mem_t3 110 (by decide +kernel)
theorem m_3_111 : Cond.instanceMethod yJx4a65c_elementData_915e3 ∈ TB := mem_t3 111 (by decide +kernel)
theorem m_3_112 : Cond.selects RJx4a65c yJx4a65c_elementData_915e3 yJx4a65c_elementData_915e3 ∈ TB := mem_t3 112 (by decide +kernel)
theorem m_3_113 : Cond.code yJx4a65c_elementData_915e3 cJx4a65c_elementData_915e3 2 (some (.object "java/lang/Object")) ∈ TB := mem_t3 113 (by decide +kernel)
theorem m_3_120 : Cond.instanceMethod yJx4a65c_size_8abf5 ∈ TB := mem_t3 120 (by decide +kernel)
theorem m_3_121 : Cond.selects RJx4a65c yJx4a65c_size_8abf5 yJx4a65c_size_8abf5 ∈ TB := mem_t3 121 (by decide +kernel)
theorem m_3_122 : Cond.code yJx4a65c_size_8abf5 cJx4a65c_size_8abf5 1 (some .int) ∈ TB := mem_t3 122 (by decide +kernel)
theorem mv_J15_checkIndex_7cf53 : MV yJ15_checkIndex_7cf53 cJ15_checkIndex_7cf53 2 (some .int) 2 := ⟨m_3_106, by decide +kernel, m_1_34, ⟨by decide +kernel, by decide +kernel, by decide +kernel⟩, by decide⟩
theorem mv_Jx4a65c_elementData_915e3 : MV yJx4a65c_elementData_915e3 cJx4a65c_elementData_915e3 2 (some (.object "java/lang/Object")) 1 := ⟨m_3_113, by decide +kernel, m_1_4, ⟨by decide +kernel, by decide +kernel, by decide +kernel⟩, by decide⟩
theorem mv_Jx4a65c_size_8abf5 : MV yJx4a65c_size_8abf5 cJx4a65c_size_8abf5 1 (some .int) 0 := ⟨m_3_122, by decide +kernel, m_1_4, ⟨by decide +kernel, by decide +kernel, by decide +kernel⟩, by decide⟩
theorem mv_Jx4a65c_get_915e3 : MV yJx4a65c_get_915e3 cJx4a65c_get_915e3 2 (some (.object "java/lang/Object")) 1 := ⟨m_3_103, by decide +kernel, m_1_4, ⟨by decide +kernel, by decide +kernel, by decide +kernel⟩, by decide⟩
theorem cp_J3_checkIndex {G : Gt} {l : Launch} {i n : Int32} {v : Value} (hv : v = .null ∨ ∃ a, v = .ref a) (h0 : ¬ i < 0) (h1 : i < n) {Pf : State → Prop} : CtP G l yJ3_checkIndex_8e157 cJ3_checkIndex_8e157 3 (some .int) 2 [.int i, .int n, v] Pf (some (.int i)) := by
  refine met_P (by decide +kernel) (by rcases hv with rfl | ⟨a, rfl⟩ <;> exact Nat.le_of_ble_eq_true rfl) ⟨.int, rfl, rfl⟩ ?_
  intro p e s m args below meth c Q ls X hP hr hl
  have hx := X.1.1
  have hb := X.1.2.1
  have hl : lv_has ls 3 [(0, .int i), (1, .int n), (2, v)] := hl
  refine lv_iload_n hx hb dJ3_checkIndex_8e157_0 rfl (lv_at hl 0 rfl) ?_
  refine lv_if_lt (tgt := 9) hx hb dJ3_checkIndex_8e157_1 (by decide) (fun hc => absurd hc h0) (fun _ => ?_)
  refine lv_iload_n hx hb dJ3_checkIndex_8e157_4 rfl (lv_at hl 0 rfl) ?_
  refine lv_iload_n hx hb dJ3_checkIndex_8e157_5 rfl (lv_at hl 1 rfl) ?_
  refine lv_icmp_lt (tgt := 16) hx hb dJ3_checkIndex_8e157_6 (by decide) (fun _ => ?_) (fun hc => absurd h1 hc)
  refine lv_iload_n hx hb dJ3_checkIndex_8e157_16 rfl (lv_at hl 0 rfl) ?_
  exact hr _ _ dJ3_checkIndex_8e157_17
theorem cp_J15_checkIndex {G : Gt} {l : Launch} {i n : Int32} (h0 : ¬ i < 0) (h1 : i < n) {Pf : State → Prop} : CtP G l yJ15_checkIndex_7cf53 cJ15_checkIndex_7cf53 2 (some .int) 3 [.int i, .int n] Pf (some (.int i)) := by
  refine met_P (by decide +kernel) (Nat.le_of_ble_eq_true rfl) ⟨.int, rfl, rfl⟩ ?_
  intro p e s m args below meth c Q ls X hP hr hl
  have hx := X.1.1
  have hb := X.1.2.1
  have hl : lv_has ls 2 [(0, .int i), (1, .int n)] := hl
  refine lv_iload_n hx hb dJ15_checkIndex_7cf53_0 rfl (lv_at hl 0 rfl) ?_
  refine lv_iload_n hx hb dJ15_checkIndex_7cf53_1 rfl (lv_at hl 1 rfl) ?_
  refine lv_null hx hb dJ15_checkIndex_7cf53_2 ?_
  refine callP_S (Pf := fun _ => True) (A := fun _ => False) X va_S.rf (fun _ _ h9 => h9.elim) (Mv.h fun _ => True) (fun _ _ _ => trivial) m_3_107 m_3_108 mv_J3_checkIndex_8e157 (cp_J3_checkIndex (Or.inl rfl) h0 h1) (by decide) rfl rfl (Nat.le_of_ble_eq_true rfl) hl.1 dJ15_checkIndex_7cf53_3 (Nat.le_refl _) (Nat.le_refl _) ?_
  exact hr _ _ dJ15_checkIndex_7cf53_6
theorem cp_al_size {G : Gt} {l : Launch} {a d : Nat} {mc n : Int32} : CtP G l yJx4a65c_size_8abf5 cJx4a65c_size_8abf5 1 (some .int) 2 [.ref a] (fun U => va_at (gDD G) vwCl (a, .inr (12, [.int mc, .ref d, .int n])) U.heap) (some (.int n)) := by
  refine met_P (by decide +kernel) (Nat.le_of_ble_eq_true rfl) ⟨.int, rfl, rfl⟩ ?_
  intro p e s m args below meth c Q ls X hP hr hl
  have hx := X.1.1
  have hb := X.1.2.1
  have hl : lv_has ls 1 [(0, .ref a)] := hl
  refine lv_aload_n hx hb dJx4a65c_size_8abf5_0 rfl (lv_at hl 0 rfl) ?_
  refine p_get (T := TJx4a65c) (N := 3) (k := 2) X hP inTB_AL rfl (by decide) m_3_51 rfl dJx4a65c_size_8abf5_1 ?_
  exact hr _ _ dJx4a65c_size_8abf5_4
theorem cp_al_el {G : Gt} {l : Launch} {a d N i r : Nat} {mc n : Int32} {f : Nat → Option Nat} (hi : i < N) (hN : N < 2 ^ 31) (hf : f i = some r) : CtP G l yJx4a65c_elementData_915e3 cJx4a65c_elementData_915e3 2 (some (.object "java/lang/Object")) 2 [.ref a, .int (nI i)] (fun U => va_at (gDD G) vwCl (a, .inr (12, [.int mc, .ref d, .int n])) U.heap ∧ va_at (gDD G) vwCl (d, .inl (gty G 8, N, .inr (.inr (.inr (.inr f))))) U.heap) (some (.ref r)) := by
  refine met_Pa (by decide +kernel) (Nat.le_of_ble_eq_true rfl) rfl (Or.inl ⟨_, rfl⟩) (Or.inr ⟨_, rfl⟩) ?_
  intro p e s m args below meth c Q ls X hP hr hl
  have hx := X.1.1
  have hb := X.1.2.1
  have hl : lv_has ls 2 [(0, .ref a), (1, .int (nI i))] := hl
  refine lv_aload_n hx hb dJx4a65c_elementData_915e3_0 rfl (lv_at hl 0 rfl) ?_
  refine p_get (T := TJx4a65c) (N := 3) (k := 1) X hP.1 inTB_AL rfl (by decide) m_3_50 rfl dJx4a65c_elementData_915e3_1 ?_
  refine lv_iload_n hx hb dJx4a65c_elementData_915e3_4 rfl (lv_at hl 1 rfl) ?_
  refine va_aldq X.1.1 X.1.2.1 X.2.1.1 (P1 hP.2) 0 8 rfl rfl (vp_in_nI hi hN) dJx4a65c_elementData_915e3_5 ?_
  rw [nI_clamp (by omega), hf]
  exact hr _ _ dJx4a65c_elementData_915e3_6
theorem cp_al_get {G : Gt} {l : Launch} {a d N i r : Nat} {mc : Int32} {n : Nat} {f : Nat → Option Nat} (hn : i < n) (hnN : n ≤ N) (hN : N < 2 ^ 31) (hf : f i = some r) : CtP G l yJx4a65c_get_915e3 cJx4a65c_get_915e3 2 (some (.object "java/lang/Object")) 4 [.ref a, .int (nI i)] (fun U => va_at (gDD G) vwCl (a, .inr (12, [.int mc, .ref d, .int (nI n)])) U.heap ∧ va_at (gDD G) vwCl (d, .inl (gty G 8, N, .inr (.inr (.inr (.inr f))))) U.heap) (some (.ref r)) := by
  refine met_Pa (by decide +kernel) (Nat.le_of_ble_eq_true rfl) rfl (Or.inl ⟨_, rfl⟩) (Or.inr ⟨_, rfl⟩) ?_
  intro p e s m args below meth c Q ls X hP hr hl
  have hx := X.1.1
  have hb := X.1.2.1
  have hl : lv_has ls 2 [(0, .ref a), (1, .int (nI i))] := hl
  refine lv_iload_n hx hb dJx4a65c_get_915e3_0 rfl (lv_at hl 1 rfl) ?_
  refine lv_aload_n hx hb dJx4a65c_get_915e3_1 rfl (lv_at hl 0 rfl) ?_
  refine p_get (T := TJx4a65c) (N := 3) (k := 2) X hP.1 inTB_AL rfl (by decide) m_3_51 rfl dJx4a65c_get_915e3_2 ?_
  refine callP_S (Pf := fun _ => True) (A := fun _ => False) X va_S.rf (fun _ _ h9 => h9.elim) (Mv.h fun _ => True) (fun _ _ _ => trivial) m_3_104 m_3_105 mv_J15_checkIndex_7cf53 (cp_J15_checkIndex (nI_pos (by omega)) (nI_lt hn (by omega))) (by decide) rfl rfl (Nat.le_of_ble_eq_true rfl) hl.1 dJx4a65c_get_915e3_5 (Nat.le_refl _) (Nat.le_refl _) ?_
  refine lv_pop hx hb dJx4a65c_get_915e3_8 rfl ?_
  refine lv_aload_n hx hb dJx4a65c_get_915e3_9 rfl (lv_at hl 0 rfl) ?_
  refine lv_iload_n hx hb dJx4a65c_get_915e3_10 rfl (lv_at hl 1 rfl) ?_
  refine callP_V (r := (RJx4a65c, TJx4a65c, 3)) (A := fun _ => False) X va_S.rf (fun _ _ h9 => h9.elim) (Mv.h fun H => va_at (gDD G) vwCl (a, .inr (12, [.int mc, .ref d, .int (nI n)])) H ∧ va_at (gDD G) vwCl (d, .inl (gty G 8, N, .inr (.inr (.inr (.inr f))))) H) (fun U hU _ => by rw [hU]; exact hP) hP.1 rfl m_3_110 m_3_111 m_3_112 mv_Jx4a65c_elementData_915e3 (cp_al_el (Nat.lt_of_lt_of_le hn hnN) hN hf) (by decide) rfl rfl (Nat.le_of_ble_eq_true rfl) hl.1 dJx4a65c_get_915e3_11 (Nat.le_refl _) (Nat.le_refl _) ?_
  exact hr _ _ dJx4a65c_get_915e3_14
section
variable {G : Gm} {p : Program} {l : Launch} {e : Env} {R : Room} {s : State} {m : MethodId} {args : Array Value} {below : List Frame} {meth : Method} {c : Code} {H : Heap} {locs : List Loc} {cells slots : Nat} {Q : State → Prop}
variable {cc : ByteArray} {nL h : Nat} {own : String} {pc : Nat} {ls : Array Slot} {rest st0 : List Value} {σ : St}
theorem rg_lsize {i idx : Nat} (X : Cx (gB G) p R s m args c cells slots cc nL own h) (hW : PG G σ H ∧ va_S (AG G) s.heap H locs) (hi : kv G i = 21) (lk : Cond.methodLink own idx yJx4a65c_size_8abf5 ∈ TB) (hh : 2 < h) (hst : st0 = .ref (ga G i) :: rest) (hcat : (rest.map fun v => v.category).sum ≤ 8) (hls : ls.size = nL) (hd : decode cc pc = .ok (.invokevirtual idx, 3))
    (kk : W p l e R s m args below meth c H locs cells slots Q (F0 m (pc + 3) ls (.int (gI σ 1001 2) :: rest))) : W p l e R s m args below meth c H locs cells slots Q (F0 m pc ls st0) := by
  have hi1 : i = 1001 := by
    have := kv_kg hi (by decide)
    unfold kg at this
    repeat' split at this
    all_goals omega
  subst hi1
  exact callP_V (r := (RJx4a65c, TJx4a65c, 3)) X hW.2 (fun q _ hq => by obtain ⟨i, hi, rfl⟩ := hq; exact hW.1.2.2.2.2 i hi) (Mv.h fun H => va_at (gDD (gB G)) vwCl (ga G 1001, .inr (12, [.int (gI σ 1001 0), .ref (ga G 1004), .int (gI σ 1001 2)])) H) (fun U hU _ => by rw [hU]; exact hW.1.a21 hi) (hW.1.a21 hi) rfl lk m_3_120 m_3_121 mv_Jx4a65c_size_8abf5 cp_al_size hh hst rfl hcat hls hd X.2.2.2.2.1 X.2.2.2.2.2 kk
theorem rg_lget {i idx : Nat} {j : Int32} (X : Cx (gB G) p R s m args c cells slots cc nL own h) (hW : PG G σ H ∧ va_S (AG G) s.heap H locs) (hi : kv G i = 21) (hj : vp_in j (gI σ 1001 2).toNatClampNeg) (lk : Cond.methodLink own idx yJx4a65c_get_915e3 ∈ TB) (hh : 4 < h) (hst : st0 = .int j :: .ref (ga G i) :: rest) (hcat : (rest.map fun v => v.category).sum ≤ 8) (hls : ls.size = nL) (hd : decode cc pc = .ok (.invokevirtual idx, 3))
    (kk : W p l e R s m args below meth c H locs cells slots Q (F0 m (pc + 3) ls (.ref (ga G (1005 + 4 * j.toNatClampNeg)) :: rest))) : W p l e R s m args below meth c H locs cells slots Q (F0 m pc ls st0) := by
  have hi1 : i = 1001 := by
    have := kv_kg hi (by decide)
    unfold kg at this
    repeat' split at this
    all_goals omega
  subst hi1
  rw [hW.1.size] at hj
  have h4 := hW.1.2.2.1
  obtain ⟨k, hk, rfl⟩ := vp_in_of hj (by omega)
  rw [nI_clamp (by omega)] at kk
  have f1 := hW.1.a21 hi
  rw [hW.1.2.1] at f1
  have f2 := hW.1.a24 (kv_1004 G)
  exact callP_V (r := (RJx4a65c, TJx4a65c, 3)) (As := [.int (nI k)]) (ov := some (.ref (ga G (1005 + 4 * k)))) X hW.2 (fun q _ hq => by obtain ⟨i, hi, rfl⟩ := hq; exact hW.1.2.2.2.2 i hi) (Mv.h fun H => va_at (gDD (gB G)) vwCl (ga G 1001, .inr (12, [.int (gI σ 1001 0), .ref (ga G 1004), .int (nI (gn G))])) H ∧ va_at (gDD (gB G)) vwCl (ga G 1004, .inl (gty (gB G) 8, 10, .inr (.inr (.inr (.inr (fun k => if k < gn G then some (ga G (1005 + 4 * k)) else none)))))) H) (fun U hU _ => by rw [hU]; exact ⟨f1, f2⟩) f1 rfl lk m_3_101 m_3_102 mv_Jx4a65c_get_915e3 (cp_al_get hk (by omega) (by omega) (if_pos hk)) hh hst rfl hcat hls hd X.2.2.2.2.1 X.2.2.2.2.2 kk
end
