theorem m_1_139 : Cond.arrayClass (newarray.typeOf .int) ∈ TB := mem_t1 139 (by decide +kernel)
theorem m_3_35 : Cond.methodLink RX11 1 objectInit ∈ TB := mem_t3 35 (by decide +kernel)
theorem m_3_36 : Cond.classLink RX11 7 "java/util/ArrayList" ∈ TB := mem_t3 36 (by decide +kernel)
theorem m_3_37 : Cond.instantiable "java/util/ArrayList" 3 ∈ TB := mem_t3 37 (by decide +kernel)
theorem m_3_38 : Cond.methodLink RX11 9 yJx4a65c_init_da8c8 ∈ TB := mem_t3 38 (by decide +kernel)
theorem m_3_39 : Cond.instanceMethod yJx4a65c_init_da8c8 ∈ TB := mem_t3 39 (by decide +kernel)
theorem m_3_40 : Cond.code yJx4a65c_init_da8c8 cJx4a65c_init_da8c8 1 none ∈ TB := mem_t3 40 (by decide +kernel)
theorem m_3_95 : Cond.arrayClass (newarray.typeOf .boolean) ∈ TB := mem_t3 95 (by decide +kernel)
theorem m_5_115 : Cond.methodLink RX12 1 objectInit ∈ TB := mem_t5 115 (by decide +kernel)
theorem m_5_126 : Cond.fieldLink RX12 7 "QuestLedgerLaw$Step" "uses" "[I" ∈ TB := mem_t5 126 (by decide +kernel)
theorem m_5_129 : Cond.fieldLink RX12 13 "QuestLedgerLaw$Step" "needs" "[I" ∈ TB := mem_t5 129 (by decide +kernel)
theorem m_5_132 : Cond.fieldLink RX12 16 "QuestLedgerLaw$Step" "gives" "[I" ∈ TB := mem_t5 132 (by decide +kernel)
theorem m_5_160 : Cond.constant RL 7 2147483647 ∈ TB := mem_t5 160 (by decide +kernel)
theorem mv_Jx4a65c_init_da8c8 : MV yJx4a65c_init_da8c8 cJx4a65c_init_da8c8 1 none 0 := ⟨m_3_40, by decide +kernel, m_1_4, ⟨by decide +kernel, by decide +kernel, by decide +kernel⟩, by decide⟩
/-! WHAT IS MADE AT THE START: steps, the game; cell, bound -/
set_option maxHeartbeats 2000000 in
theorem ch_Step {G : Gt} {l : Launch} {a sz : Nat} (hG : AllA G) (hga : gz G ≤ a) : CtH G l yX12_init cX12_init 1 none 2 3 (9) [.ref a] sz (fun q => q = a) (fun U => va_at (gDD G) vwCl (a, .inr (11, [.int 0, .int 0, .int 0, .int 0, .int 0, .int 0, .null, .null, .null])) U.heap) (fun ov H => ov = none ∧ ∃ u n g, sz ≤ u ∧ u < n ∧ n < g ∧ va_at (gDD G) vwCl (a, .inr (11, [.int 0, .int 0, .int 0, .int 0, .int 0, .int 0, .ref u, .ref n, .ref g])) H ∧ va_at (gDD G) vwCl (u, .inl (gty G 0, 3, .inl (fun _ => 0))) H ∧ va_at (gDD G) vwCl (n, .inl (gty G 0, 3, .inl (fun _ => 0))) H ∧ va_at (gDD G) vwCl (g, .inl (gty G 0, 3, .inl (fun _ => 0))) H) := by
  refine met_H (by decide +kernel) (Nat.le_of_ble_eq_true rfl) .return_ (Or.inl ⟨rfl, rfl, rfl⟩) ?_
  intro p e s m args below meth c Q ls X hnm hsz hP hr hl
  have hx := X.1.1
  have hb := X.1.2.1
  have hgz : gz G ≤ sz := by rw [← hsz]; exact X.2.1.2.1
  have hA : ∀ q, q < s.heap.size → frA (fun q => q = a) sz q → gA G q := fun q h8 h9 => hG q (by simp only [frA, false_or] at h9; omega)
  have hS : va_S (frA (fun q => q = a) sz) s.heap s.heap [] := va_S.rf
  have hl : lv_has ls 1 [(0, .ref a)] := hl
  have f0 := hP
  refine lv_aload_n hx hb dX12_init_0 rfl (lv_at hl 0 rfl) ?_
  refine p_obj X m_5_115 (by decide) (Nat.le_of_ble_eq_true rfl) hl.1 dX12_init_1 ?_
  refine lv_aload_n hx hb dX12_init_4 rfl (lv_at hl 0 rfl) ?_
  refine lv_iconst (v := 3) hx hb dX12_init_5 (by decide) ?_
  refine p_newa (atype := .int) (ty := .int) (t := 0) (N := 3) (a0 := (3, .inl (fun _ => 0))) X m_1_139 rfl rfl (fun _ h => by cases h) rfl (by decide +kernel) (by decide +kernel) (Nat.le_of_ble_eq_true rfl) (by show _ ≤ _; simp only [rmC]; omega) (by show _ ≤ _; simp only [rmC]; omega) dX12_init_6 fun H2 nH2 zH2 oH2 => ?_
  have lq1_f0_0 := f0.lt
  have lq1_0 := hS.1
  replace f0 := f0.kept (oH2 _ lq1_f0_0)
  replace hS := hS.new zH2 oH2
  clear oH2
  generalize hq_q1 : Array.size s.heap = q1 at nH2 zH2 lq1_0 lq1_f0_0 ⊢
  have fa3 : va_at (gDD G) vwCl (q1, .inl (gty G 0, 3, .inl (fun _ => 0))) H2 := nH2
  clear nH2
  refine p_put (T := TX12) (N := 9) (k := 6) (ty := .array .int) X f0 inTB_X12 tyX12 tyX12_ok nmX12 rfl (by decide) m_5_126 (fun _ => ⟨hnm, rfl⟩) (by decide +kernel) rfl rfl (Nat.le_of_ble_eq_true rfl) dX12_init_8 fun H4 kH4 nH4 zH4 oH4 => ?_
  replace fa3 := fa3.kept (oH4 _ (by omega))
  replace hS := hS.put (k := kH4) zH4 oH4 (Or.inl rfl)
  replace f0 : va_at (gDD G) vwCl (a, .inr (11, [.int 0, .int 0, .int 0, .int 0, .int 0, .int 0, .ref q1, .null, .null])) H4 := nH4
  clear zH4 oH4
  refine lv_aload_n hx hb dX12_init_11 rfl (lv_at hl 0 rfl) ?_
  refine lv_iconst (v := 3) hx hb dX12_init_12 (by decide) ?_
  refine p_newa (atype := .int) (ty := .int) (t := 0) (N := 3) (a0 := (3, .inl (fun _ => 0))) X m_1_139 rfl rfl (fun _ h => by cases h) rfl (by decide +kernel) (by decide +kernel) (Nat.le_of_ble_eq_true rfl) (by show _ ≤ _; simp only [rmC]; omega) (by show _ ≤ _; simp only [rmC]; omega) dX12_init_13 fun H6 nH6 zH6 oH6 => ?_
  have lq5_f0_0 := f0.lt
  have lq5_fa3_0 := fa3.lt
  have lq5_0 := hS.1
  replace f0 := f0.kept (oH6 _ lq5_f0_0)
  replace fa3 := fa3.kept (oH6 _ lq5_fa3_0)
  replace hS := hS.new zH6 oH6
  clear oH6
  generalize hq_q5 : Array.size H4 = q5 at nH6 zH6 lq5_0 lq5_f0_0 lq5_fa3_0 ⊢
  have fa7 : va_at (gDD G) vwCl (q5, .inl (gty G 0, 3, .inl (fun _ => 0))) H6 := nH6
  clear nH6
  refine p_put (T := TX12) (N := 9) (k := 7) (ty := .array .int) X f0 inTB_X12 tyX12 tyX12_ok nmX12 rfl (by decide) m_5_129 (fun _ => ⟨hnm, rfl⟩) (by decide +kernel) rfl rfl (Nat.le_of_ble_eq_true rfl) dX12_init_15 fun H8 kH8 nH8 zH8 oH8 => ?_
  replace fa3 := fa3.kept (oH8 _ (by omega))
  replace fa7 := fa7.kept (oH8 _ (by omega))
  replace hS := hS.put (k := kH8) zH8 oH8 (Or.inl rfl)
  replace f0 : va_at (gDD G) vwCl (a, .inr (11, [.int 0, .int 0, .int 0, .int 0, .int 0, .int 0, .ref q1, .ref q5, .null])) H8 := nH8
  clear zH8 oH8
  refine lv_aload_n hx hb dX12_init_18 rfl (lv_at hl 0 rfl) ?_
  refine lv_iconst (v := 3) hx hb dX12_init_19 (by decide) ?_
  refine p_newa (atype := .int) (ty := .int) (t := 0) (N := 3) (a0 := (3, .inl (fun _ => 0))) X m_1_139 rfl rfl (fun _ h => by cases h) rfl (by decide +kernel) (by decide +kernel) (Nat.le_of_ble_eq_true rfl) (by show _ ≤ _; simp only [rmC]; omega) (by show _ ≤ _; simp only [rmC]; omega) dX12_init_20 fun H10 nH10 zH10 oH10 => ?_
  have lq9_f0_0 := f0.lt
  have lq9_fa3_0 := fa3.lt
  have lq9_fa7_0 := fa7.lt
  have lq9_0 := hS.1
  replace f0 := f0.kept (oH10 _ lq9_f0_0)
  replace fa3 := fa3.kept (oH10 _ lq9_fa3_0)
  replace fa7 := fa7.kept (oH10 _ lq9_fa7_0)
  replace hS := hS.new zH10 oH10
  clear oH10
  generalize hq_q9 : Array.size H8 = q9 at nH10 zH10 lq9_0 lq9_f0_0 lq9_fa3_0 lq9_fa7_0 ⊢
  have fa11 : va_at (gDD G) vwCl (q9, .inl (gty G 0, 3, .inl (fun _ => 0))) H10 := nH10
  clear nH10
  refine p_put (T := TX12) (N := 9) (k := 8) (ty := .array .int) X f0 inTB_X12 tyX12 tyX12_ok nmX12 rfl (by decide) m_5_132 (fun _ => ⟨hnm, rfl⟩) (by decide +kernel) rfl rfl (Nat.le_of_ble_eq_true rfl) dX12_init_22 fun H12 kH12 nH12 zH12 oH12 => ?_
  replace fa3 := fa3.kept (oH12 _ (by omega))
  replace fa7 := fa7.kept (oH12 _ (by omega))
  replace fa11 := fa11.kept (oH12 _ (by omega))
  replace hS := hS.put (k := kH12) zH12 oH12 (Or.inl rfl)
  replace f0 : va_at (gDD G) vwCl (a, .inr (11, [.int 0, .int 0, .int 0, .int 0, .int 0, .int 0, .ref q1, .ref q5, .ref q9])) H12 := nH12
  clear zH12 oH12
  exact hr _ _ _ _ _ _ dX12_init_25 ⟨rfl, q1, q5, q9, by omega, by omega, by omega, f0, fa3, fa7, fa11⟩ hS (by omega) (by omega)
set_option maxHeartbeats 2000000 in
theorem ch_Game {G : Gt} {l : Launch} {a e0 sz : Nat} (hG : AllA G) (hga : gz G ≤ a) : CtH G l yX11_init cX11_init 1 none 5 3 (70) [.ref a] sz (fun q => q = a) (fun U => va_at (gDD G) vwCl (a, .inr (10, [.null, .null, .int 0, .int 0, .int 0, .int 0, .null, .int 0, .null])) U.heap ∧ EnvL G e0 U) (fun ov H => ov = none ∧ ∃ st k en, sz ≤ st ∧ st < k ∧ k < en ∧ va_at (gDD G) vwCl (a, .inr (10, [.ref st, .ref k, .int 0, .int 0, .int 0, .int 0, .null, .int 0, .ref en])) H ∧ va_at (gDD G) vwCl (st, .inr (12, [.int 0, .ref e0, .int 0])) H ∧ va_at (gDD G) vwCl (k, .inl (gty G 0, 3, .inl (fun _ => 0))) H ∧ va_at (gDD G) vwCl (en, .inl (gty G 2, 64, .inl (fun _ => 0))) H) := by
  refine met_H (by decide +kernel) (Nat.le_of_ble_eq_true rfl) .return_ (Or.inl ⟨rfl, rfl, rfl⟩) ?_
  intro p e s m args below meth c Q ls X hnm hsz hP hr hl
  have hx := X.1.1
  have hb := X.1.2.1
  have hgz : gz G ≤ sz := by rw [← hsz]; exact X.2.1.2.1
  have hA : ∀ q, q < s.heap.size → frA (fun q => q = a) sz q → gA G q := fun q h8 h9 => hG q (by simp only [frA, false_or] at h9; omega)
  have hS : va_S (frA (fun q => q = a) sz) s.heap s.heap [] := va_S.rf
  have hl : lv_has ls 1 [(0, .ref a)] := hl
  obtain ⟨f0, hE⟩ := hP
  refine lv_aload_n hx hb dX11_init_0 rfl (lv_at hl 0 rfl) ?_
  refine p_obj X m_3_35 (by decide) (Nat.le_of_ble_eq_true rfl) hl.1 dX11_init_1 ?_
  refine lv_aload_n hx hb dX11_init_4 rfl (lv_at hl 0 rfl) ?_
  refine p_new (ci := 12) (fs := [.int 0, .null, .int 0]) X inTB_AL tyJx4a65c tyJx4a65c_ok rfl (by decide +kernel) m_3_36 m_3_37 m_1_4 (by show _ ≤ _; simp only [rmC]; omega) (by show _ ≤ _; simp only [rmC]; omega) dX11_init_5 fun H2 nH2 zH2 oH2 => ?_
  have lq1_f0_0 := f0.lt
  have lq1_0 := hS.1
  replace f0 := f0.kept (oH2 _ lq1_f0_0)
  replace hS := hS.new zH2 oH2
  clear oH2
  generalize hq_q1 : Array.size s.heap = q1 at nH2 zH2 lq1_0 lq1_f0_0 ⊢
  have fo3 : va_at (gDD G) vwCl (q1, .inr (12, [.int 0, .null, .int 0])) H2 := nH2
  clear nH2
  refine lv_dup hx hb dX11_init_8 rfl ?_
  refine callH_I (As := []) X hS hA (Mv.and (Mv.h _) EnvL.mv) (fun U hU hv => ⟨by rw [hU]; exact fo3, hE.to hS hA hU hv⟩) (fun q h9 => by simp only [frA, false_or] at h9 ⊢; have := hS.1; omega) m_3_38 m_3_39 mv_Jx4a65c_init_da8c8 rfl (ch_ALinit (e0 := e0) hG (by omega)) (by decide) rfl rfl (Nat.le_of_ble_eq_true rfl) hl.1 dX11_init_9 (by show _ ≤ _; simp only [rmC]; omega) (by show _ ≤ _; simp only [rmC]; omega) fun vH4 H4 locs qH4 zH4 oH4 hS2 => ?_
  have lH4_f0_0 := f0.lt
  have lH4_fo3_0 := fo3.lt
  have lH4_0 := hS.1
  replace f0 := f0.kept (oH4 _ lH4_f0_0 (fun h9 => by first | exact h9.elim | omega | (dsimp only at h9; omega)))
  replace hS := hS2; clear hS2 oH4
  clear fo3
  obtain ⟨rfl, h0⟩ := qH4
  refine p_put (T := TX11) (N := 9) (k := 0) (ty := .object "java/util/ArrayList") X f0 inTB_X11 tyX11 tyX11_ok nmX11 rfl (by decide) m_3_62 (fun _ => ⟨hnm, rfl⟩) (by decide +kernel) rfl rfl (Nat.le_of_ble_eq_true rfl) dX11_init_12 fun H5 kH5 nH5 zH5 oH5 => ?_
  replace h0 := h0.kept (oH5 _ (by omega))
  replace hS := hS.put (k := kH5) zH5 oH5 (Or.inl rfl)
  replace f0 : va_at (gDD G) vwCl (a, .inr (10, [.ref q1, .null, .int 0, .int 0, .int 0, .int 0, .null, .int 0, .null])) H5 := nH5
  clear zH5 oH5
  refine lv_aload_n hx hb dX11_init_15 rfl (lv_at hl 0 rfl) ?_
  refine lv_iconst (v := 3) hx hb dX11_init_16 (by decide) ?_
  refine p_newa (atype := .int) (ty := .int) (t := 0) (N := 3) (a0 := (3, .inl (fun _ => 0))) X m_1_139 rfl rfl (fun _ h => by cases h) rfl (by decide +kernel) (by decide +kernel) (Nat.le_of_ble_eq_true rfl) (by show _ ≤ _; simp only [rmC]; omega) (by show _ ≤ _; simp only [rmC]; omega) dX11_init_17 fun H7 nH7 zH7 oH7 => ?_
  have lq6_f0_0 := f0.lt
  have lq6_h0_0 := h0.lt
  have lq6_0 := hS.1
  replace f0 := f0.kept (oH7 _ lq6_f0_0)
  replace h0 := h0.kept (oH7 _ lq6_h0_0)
  replace hS := hS.new zH7 oH7
  clear oH7
  generalize hq_q6 : Array.size H5 = q6 at nH7 zH7 lq6_0 lq6_f0_0 lq6_h0_0 ⊢
  have fa8 : va_at (gDD G) vwCl (q6, .inl (gty G 0, 3, .inl (fun _ => 0))) H7 := nH7
  clear nH7
  refine p_put (T := TX11) (N := 9) (k := 1) (ty := .array .int) X f0 inTB_X11 tyX11 tyX11_ok nmX11 rfl (by decide) m_3_64 (fun _ => ⟨hnm, rfl⟩) (by decide +kernel) rfl rfl (Nat.le_of_ble_eq_true rfl) dX11_init_19 fun H9 kH9 nH9 zH9 oH9 => ?_
  replace h0 := h0.kept (oH9 _ (by omega))
  replace fa8 := fa8.kept (oH9 _ (by omega))
  replace hS := hS.put (k := kH9) zH9 oH9 (Or.inl rfl)
  replace f0 : va_at (gDD G) vwCl (a, .inr (10, [.ref q1, .ref q6, .int 0, .int 0, .int 0, .int 0, .null, .int 0, .null])) H9 := nH9
  clear zH9 oH9
  refine lv_aload_n hx hb dX11_init_22 rfl (lv_at hl 0 rfl) ?_
  refine lv_bipush (v := 64) hx hb dX11_init_23 (by decide) ?_
  refine p_newa (atype := .boolean) (ty := .boolean) (t := 2) (N := 64) (a0 := (64, .inl (fun _ => 0))) X m_3_95 rfl rfl (fun _ h => by cases h) rfl (by decide +kernel) (by decide +kernel) (Nat.le_of_ble_eq_true rfl) (by show _ ≤ _; simp only [rmC]; omega) (by show _ ≤ _; simp only [rmC]; omega) dX11_init_25 fun H11 nH11 zH11 oH11 => ?_
  have lq10_f0_0 := f0.lt
  have lq10_h0_0 := h0.lt
  have lq10_fa8_0 := fa8.lt
  have lq10_0 := hS.1
  replace f0 := f0.kept (oH11 _ lq10_f0_0)
  replace h0 := h0.kept (oH11 _ lq10_h0_0)
  replace fa8 := fa8.kept (oH11 _ lq10_fa8_0)
  replace hS := hS.new zH11 oH11
  clear oH11
  generalize hq_q10 : Array.size H9 = q10 at nH11 zH11 lq10_0 lq10_f0_0 lq10_h0_0 lq10_fa8_0 ⊢
  have fa12 : va_at (gDD G) vwCl (q10, .inl (gty G 2, 64, .inl (fun _ => 0))) H11 := nH11
  clear nH11
  refine p_put (T := TX11) (N := 9) (k := 8) (ty := .array .boolean) X f0 inTB_X11 tyX11 tyX11_ok nmX11 rfl (by decide) m_3_75 (fun _ => ⟨hnm, rfl⟩) (by decide +kernel) rfl rfl (Nat.le_of_ble_eq_true rfl) dX11_init_27 fun H13 kH13 nH13 zH13 oH13 => ?_
  replace h0 := h0.kept (oH13 _ (by omega))
  replace fa8 := fa8.kept (oH13 _ (by omega))
  replace fa12 := fa12.kept (oH13 _ (by omega))
  replace hS := hS.put (k := kH13) zH13 oH13 (Or.inl rfl)
  replace f0 : va_at (gDD G) vwCl (a, .inr (10, [.ref q1, .ref q6, .int 0, .int 0, .int 0, .int 0, .null, .int 0, .ref q10])) H13 := nH13
  clear zH13 oH13
  exact hr _ _ _ _ _ _ dX11_init_30 ⟨rfl, q1, q6, q10, by omega, by omega, by omega, f0, h0, fa8, fa12⟩ hS (by omega) (by omega)
section
variable {G : Gt} {p : Program} {l : Launch} {e : Env} {R : Room} {s : State} {m : MethodId} {args : Array Value} {below : List Frame} {meth : Method} {c : Code} {H : Heap} {locs : List Loc} {cells slots cells0 slots0 : Nat} {Q : State → Prop}
variable {cc : ByteArray} {nL h b : Nat} {own : String} {pc : Nat} {ls : Array Slot} {rest : List Value}
theorem s_iald {N i : Nat} {f : Nat → Int32} (X : Cx G p R s m args c cells0 slots0 cc nL own h) (hE : va_T .int b N (fun k => .int (f k)) (fun _ => False) s H) (hi : i < N) (hN : N < 2 ^ 31) (hd : decode cc pc = .ok (.iaload, 1))
    (kk : W p l e R s m args below meth c H locs cells slots Q (F0 m (pc + 1) ls (.int (f i) :: rest))) : W p l e R s m args below meth c H locs cells slots Q (F0 m pc ls (.int (nI i) :: .ref b :: rest)) := by
  obtain ⟨cell, h1, h2, h3, h4, h5, h6, h7⟩ := hE
  have ec : (nI i).toNatClampNeg = i := nI_clamp (by omega)
  refine W.iald (v := .int (f i)) X.1.1 X.1.2.1 h1 h2 h3 ?_ ?_ rfl rfl hd kk
  · rw [ec]
    rintro (q | q)
    · exact nI_pos (by omega) q
    · omega
  · rw [ec]; exact h6 i hi
end
set_option maxHeartbeats 2000000 in
theorem cp_cell0 {G : Gt} {l : Launch} {b k N : Nat} {f : Nat → Int32} (hk : k < N) (hN : N < 2 ^ 31) (hk2 : k < 2 ^ 31) : CtP G l yL_cell cL_cell 2 (some .int) 1 [.ref b, .int (nI k)] (fun U => va_T .int b N (fun k => .int (f k)) (fun _ => False) U U.heap) (some (.int (f k))) := by
  refine met_P (by decide +kernel) (Nat.le_of_ble_eq_true rfl) ⟨.int, rfl, rfl⟩ ?_
  intro p e s m args below meth c Q ls X hP hr hl
  have hx := X.1.1
  have hb := X.1.2.1
  have hA : ∀ q, q < s.heap.size → (fun _ : Nat => False) q → gA G q := fun q _ h9 => h9.elim
  have hS : va_S (fun _ => False) s.heap s.heap [] := va_S.rf
  have hl : lv_has ls 2 [(0, .ref b), (1, .int (nI k))] := hl
  refine lv_iload_n hx hb dL_cell_0 rfl (lv_at hl 1 rfl) ?_
  refine lv_aload_n hx hb dL_cell_1 rfl (lv_at hl 0 rfl) ?_
  refine s_alen X hP dL_cell_2 ?_
  refine lv_icmp_ge (tgt := 12) hx hb dL_cell_3 (by decide) (fun hc => absurd hc (nI_ge hk (by omega))) (fun _ => ?_)
  refine lv_aload_n hx hb dL_cell_6 rfl (lv_at hl 0 rfl) ?_
  refine lv_iload_n hx hb dL_cell_7 rfl (lv_at hl 1 rfl) ?_
  refine s_iald (f := f) X hP hk (by omega) dL_cell_8 ?_
  refine lv_goto (tgt := 13) hx hb dL_cell_9 (by decide) ?_
  exact hr _ _ dL_cell_13
set_option maxHeartbeats 2000000 in
theorem cp_cell1 {G : Gt} {l : Launch} {b k N : Nat} {f : Nat → Int32} (hk : N ≤ k) (hN : N < 2 ^ 31) (hk2 : k < 2 ^ 31) : CtP G l yL_cell cL_cell 2 (some .int) 1 [.ref b, .int (nI k)] (fun U => va_T .int b N (fun k => .int (f k)) (fun _ => False) U U.heap) (some (.int 0)) := by
  refine met_P (by decide +kernel) (Nat.le_of_ble_eq_true rfl) ⟨.int, rfl, rfl⟩ ?_
  intro p e s m args below meth c Q ls X hP hr hl
  have hx := X.1.1
  have hb := X.1.2.1
  have hA : ∀ q, q < s.heap.size → (fun _ : Nat => False) q → gA G q := fun q _ h9 => h9.elim
  have hS : va_S (fun _ => False) s.heap s.heap [] := va_S.rf
  have hl : lv_has ls 2 [(0, .ref b), (1, .int (nI k))] := hl
  refine lv_iload_n hx hb dL_cell_0 rfl (lv_at hl 1 rfl) ?_
  refine lv_aload_n hx hb dL_cell_1 rfl (lv_at hl 0 rfl) ?_
  refine s_alen X hP dL_cell_2 ?_
  refine lv_icmp_ge (tgt := 12) hx hb dL_cell_3 (by decide) (fun _ => ?_) (fun hc => absurd (nI_le hk (by omega)) hc)
  refine lv_iconst (v := 0) hx hb dL_cell_12 (by decide) ?_
  exact hr _ _ dL_cell_13
/-- the script's k-th int -/
def cellF (N : Nat) (f : Nat → Int32) (k : Nat) : Int32 := if k < N then f k else 0
theorem cp_cell {G : Gt} {l : Launch} {b k N : Nat} {f : Nat → Int32} (hN : N < 2 ^ 31) (hk2 : k < 2 ^ 31) : CtP G l yL_cell cL_cell 2 (some .int) 1 [.ref b, .int (nI k)] (fun U => va_T .int b N (fun k => .int (f k)) (fun _ => False) U U.heap) (some (.int (cellF N f k))) := by
  unfold cellF
  by_cases c : k < N
  · rw [if_pos c]; exact cp_cell0 c hN hk2
  · rw [if_neg c]; exact cp_cell1 (by omega) hN hk2
set_option maxHeartbeats 2000000 in
theorem cp_bound {G : Gt} {l : Launch} {v n : Int32} (hn : ¬ n = 0) {Pf : State → Prop} : CtP G l yL_bound cL_bound 2 (some .int) 1 [.int v, .int n] Pf (some (.int (irem (v &&& 2147483647) n))) := by
  refine met_P (by decide +kernel) (Nat.le_of_ble_eq_true rfl) ⟨.int, rfl, rfl⟩ ?_
  intro p e s m args below meth c Q ls X hP hr hl
  have hx := X.1.1
  have hb := X.1.2.1
  have hA : ∀ q, q < s.heap.size → (fun _ : Nat => False) q → gA G q := fun q _ h9 => h9.elim
  have hS : va_S (fun _ => False) s.heap s.heap [] := va_S.rf
  have hl : lv_has ls 2 [(0, .int v), (1, .int n)] := hl
  refine lv_iload_n hx hb dL_bound_0 rfl (lv_at hl 0 rfl) ?_
  refine lv_ldc (v := 2147483647) hx hb X.1.2.2.2.1 (X.1.2.2.2.2 _ m_5_160) dL_bound_1 ?_
  refine lv_iand hx hb dL_bound_3 ?_
  refine lv_iload_n hx hb dL_bound_4 rfl (lv_at hl 1 rfl) ?_
  refine lv_irem hx hb dL_bound_5 hn ?_
  exact hr _ _ dL_bound_6
