theorem m_1_5 : Cond.initialized RJ5 ∈ TB := mem_t1 5 (by decide +kernel)
theorem m_3_175 : Cond.methodLink RJ4 1 yJ5_init_d00df ∈ TB := mem_t3 175 (by decide +kernel)
theorem m_3_176 : Cond.instanceMethod yJ5_init_d00df ∈ TB := mem_t3 176 (by decide +kernel)
theorem m_3_177 : Cond.code yJ5_init_d00df cJ5_init_d00df 2 none ∈ TB := mem_t3 177 (by decide +kernel)
theorem m_3_178 : Cond.methodLink RJ5 3 objectInit ∈ TB := mem_t3 178 (by decide +kernel)
theorem m_3_179 : Cond.fieldLink RJ5 18 "java/lang/String" "COMPACT_STRINGS" "Z" ∈ TB := mem_t3 179 (by decide +kernel)
theorem m_3_187 : Cond.fieldLink RJ5 15 "java/lang/AbstractStringBuilder" "value" "[B" ∈ TB := mem_t3 187 (by decide +kernel)
theorem m_3_188 : Cond.fieldLink RJ5 22 "java/lang/AbstractStringBuilder" "coder" "B" ∈ TB := mem_t3 188 (by decide +kernel)
theorem m_3_200 : Cond.arrayClass (newarray.typeOf .byte) ∈ TB := mem_t3 200 (by decide +kernel)
theorem mv_J5_init_d00df : MV yJ5_init_d00df cJ5_init_d00df 2 none 1 := ⟨m_3_177, by decide +kernel, m_1_5, ⟨by decide +kernel, by decide +kernel, by decide +kernel⟩, by decide⟩
/-! STRINGBUILDER -/
def AllA (G : Gt) : Prop := ∀ q, gz G ≤ q → gA G q
theorem va_S.wide {A B : Nat → Prop} {H0 H : Heap} {locs : List Loc} (h : va_S A H0 H locs) (hA : ∀ q, q < H0.size → A q → B q) : va_S (fun q => B q ∨ A q) H0 H locs := ⟨h.1, fun q h1 h2 => h.2.1 q h1 (fun h3 => h2 (Or.inr h3)), fun l hl => Or.inr (h.2.2 l hl)⟩
section
variable {p : Program} {l : Launch} {e : Env} {R : Room} {s : State} {m : MethodId} {args : Array Value} {below : List Frame} {meth : Method} {c : Code} {H : Heap} {locs : List Loc} {cells slots : Nat} {Q : State → Prop} {pc : Nat} {ls : Array Slot} {rest : List Value}
theorem lv_to {x y : Int32} (h : x = y) (k : W p l e R s m args below meth c H locs cells slots Q (F0 m pc ls (.int y :: rest))) : W p l e R s m args below meth c H locs cells slots Q (F0 m pc ls (.int x :: rest)) := by rw [h]; exact k
/-- a static that nobody writes -/
theorem p_gets {G : Gt} {cc : ByteArray} {nL h cells0 slots0 index : Nat} {own C nm dd : String} {v : Value} {A : Nat → Prop} (X : Cx G p R s m args c cells0 slots0 cc nL own h) (hZ : va_Z C nm dd v (gA G) s s.heap) (hS : va_S A s.heap H locs) (hA : ∀ q, q < s.heap.size → A q → gA G q) (hl : Cond.fieldLink own index C nm dd ∈ TB) (hd : decode cc pc = .ok (.getstatic index, 3))
    (kk : W p l e R s m args below meth c H locs cells slots Q (F0 m (pc + 3) ls (v :: rest))) : W p l e R s m args below meth c H locs cells slots Q (F0 m pc ls rest) := by
  obtain ⟨cf, kf, fi, f, a, cell, h1, h2, h3, h4, h5, h6, h7, h8⟩ := hZ
  have hlt := (Array.getElem?_eq_some_iff.mp h5).1
  exact W.gets X.1.1 X.1.2.1 X.1.2.2.2.1 (X.1.2.2.2.2 _ hl) h1 h2 h3 h4 (by rw [hS.2.1 a hlt (fun q => h8 (hA a hlt q))]; exact h5) (fun e => by rw [e] at h6; cases h6) h7 rfl hd kk
end
set_option maxHeartbeats 2000000 in
theorem ch_ASBinit {G : Gt} {l : Launch} {b sz : Nat} (hG : AllA G) (hgb : gz G ≤ b) : CtH G l yJ5_init_d00df cJ5_init_d00df 2 none 2 1 16 [.ref b, .int 16] sz (fun q => q = b) (fun U => va_at (gDD G) vwCl (b, .inr (13, [.null, .int 0, .int 0, .int 0])) U.heap) (fun ov H => ov = none ∧ ∃ v, sz ≤ v ∧ va_at (gDD G) vwCl (b, .inr (13, [.ref v, .int 0, .int 0, .int 0])) H ∧ va_at (gDD G) vwCl (v, .inl (gty G 7, 16, .inl (fun _ => 0))) H) := by
  refine met_H (by decide +kernel) (Nat.le_of_ble_eq_true rfl) .return_ (Or.inl ⟨rfl, rfl, rfl⟩) ?_
  intro p e s m args below meth c Q ls X hnm hsz hP hr hl
  have hx := X.1.1
  have hb := X.1.2.1
  have hgz : gz G ≤ sz := by rw [← hsz]; exact X.2.1.2.1
  have hA : ∀ q, q < s.heap.size → frA (fun q => q = b) sz q → gA G q := fun q h8 h9 => hG q (by simp only [frA, false_or] at h9; omega)
  have hS : va_S (frA (fun q => q = b) sz) s.heap s.heap [] := va_S.rf
  have hl : lv_has ls 2 [(0, .ref b), (1, .int 16)] := hl
  have f0 := hP
  refine lv_aload_n hx hb dJ5_init_d00df_0 rfl (lv_at hl 0 rfl) ?_
  refine p_obj X m_3_178 (by decide) (Nat.le_of_ble_eq_true rfl) hl.1 dJ5_init_d00df_1 ?_
  refine p_gets X X.tE.2.2.2.2.2.2.1 hS hA m_3_179 dJ5_init_d00df_4 ?_
  refine lv_if_eq (tgt := 25) hx hb dJ5_init_d00df_7 (by decide) (fun hc => absurd hc (by decide)) (fun _ => ?_)
  refine lv_aload_n hx hb dJ5_init_d00df_10 rfl (lv_at hl 0 rfl) ?_
  refine lv_iload_n hx hb dJ5_init_d00df_11 rfl (lv_at hl 1 rfl) ?_
  refine p_newa (atype := .byte) (ty := .byte) (t := 7) (N := 16) (a0 := (16, .inl (fun _ => 0))) X m_3_200 rfl rfl (fun _ h => by cases h) rfl (by decide +kernel) (by decide +kernel) (Nat.le_of_ble_eq_true rfl) (by show _ ≤ _; simp only [rmC]; omega) (by show _ ≤ _; simp only [rmC]; omega) dJ5_init_d00df_12 fun H2 nH2 zH2 oH2 => ?_
  have lq1_f0_0 := f0.lt
  have lq1_0 := hS.1
  replace f0 := f0.kept (oH2 _ lq1_f0_0)
  replace hS := hS.new zH2 oH2
  clear oH2
  generalize hq_q1 : Array.size _ = q1 at nH2 zH2 lq1_0 lq1_f0_0 ⊢
  have fa3 : va_at (gDD G) vwCl (q1, .inl (gty G 7, 16, .inl (fun _ => 0))) H2 := nH2
  clear nH2
  refine p_put (T := TJ4) (N := 4) (k := 0) (ty := .array .byte) X f0 inTB_SB tyJ4 tyJ4_ok nmJ4 rfl (by decide) m_3_187 (fun hq => by cases hq) (by decide +kernel) rfl rfl (Nat.le_of_ble_eq_true rfl) dJ5_init_d00df_14 fun H4 kH4 nH4 zH4 oH4 => ?_
  replace fa3 := fa3.kept (oH4 _ (by omega))
  replace hS := hS.put (k := kH4) zH4 oH4 (Or.inl rfl)
  replace f0 : va_at (gDD G) vwCl (b, .inr (13, [.ref q1, .int 0, .int 0, .int 0])) H4 := nH4
  clear zH4 oH4
  refine lv_aload_n hx hb dJ5_init_d00df_17 rfl (lv_at hl 0 rfl) ?_
  refine lv_iconst (v := 0) hx hb dJ5_init_d00df_18 (by decide) ?_
  refine p_put (T := TJ4) (N := 4) (k := 1) (ty := .byte) X f0 inTB_SB tyJ4 tyJ4_ok nmJ4 rfl (by decide) m_3_188 (fun hq => by cases hq) (by decide +kernel) rfl rfl (Nat.le_of_ble_eq_true rfl) dJ5_init_d00df_19 fun H5 kH5 nH5 zH5 oH5 => ?_
  replace fa3 := fa3.kept (oH5 _ (by omega))
  replace hS := hS.put (k := kH5) zH5 oH5 (Or.inl rfl)
  replace f0 : va_at (gDD G) vwCl (b, .inr (13, [.ref q1, .int 0, .int 0, .int 0])) H5 := nH5
  clear zH5 oH5
  refine lv_goto (tgt := 38) hx hb dJ5_init_d00df_22 (by decide) ?_
  exact hr _ _ _ _ _ _ dJ5_init_d00df_38 ⟨rfl, _, by omega, f0, fa3⟩ hS (by omega) (by omega)
set_option maxHeartbeats 2000000 in
theorem ch_SBinit {G : Gt} {l : Launch} {b sz : Nat} (hG : AllA G) (hgb : gz G ≤ b) : CtH G l yJ4_init_da8c8 cJ4_init_da8c8 1 none 3 1 16 [.ref b] sz (fun q => q = b) (fun U => va_at (gDD G) vwCl (b, .inr (13, [.null, .int 0, .int 0, .int 0])) U.heap) (fun ov H => ov = none ∧ ∃ v, sz ≤ v ∧ va_at (gDD G) vwCl (b, .inr (13, [.ref v, .int 0, .int 0, .int 0])) H ∧ va_at (gDD G) vwCl (v, .inl (gty G 7, 16, .inl (fun _ => 0))) H) := by
  refine met_H (by decide +kernel) (Nat.le_of_ble_eq_true rfl) .return_ (Or.inl ⟨rfl, rfl, rfl⟩) ?_
  intro p e s m args below meth c Q ls X hnm hsz hP hr hl
  have hx := X.1.1
  have hb := X.1.2.1
  have hgz : gz G ≤ sz := by rw [← hsz]; exact X.2.1.2.1
  have hA : ∀ q, q < s.heap.size → frA (fun q => q = b) sz q → gA G q := fun q h8 h9 => hG q (by simp only [frA, false_or] at h9; omega)
  have hS : va_S (frA (fun q => q = b) sz) s.heap s.heap [] := va_S.rf
  have hl : lv_has ls 1 [(0, .ref b)] := hl
  have f0 := hP
  refine lv_aload_n hx hb dJ4_init_da8c8_0 rfl (lv_at hl 0 rfl) ?_
  refine lv_bipush (v := 16) hx hb dJ4_init_da8c8_1 (by decide) ?_
  refine callH_I (As := [.int 16]) X hS hA (Mv.h _) (fun U hU hv => by rw [hU]; exact f0) (fun q h9 => by simp only [frA, false_or] at h9 ⊢; have := hS.1; omega) m_3_175 m_3_176 mv_J5_init_d00df rfl (ch_ASBinit hG hgb) (by decide) rfl rfl (Nat.le_of_ble_eq_true rfl) hl.1 dJ4_init_da8c8_3 (by show _ ≤ _; simp only [rmC]; omega) (by show _ ≤ _; simp only [rmC]; omega) fun vH1 H1 locs qH1 zH1 oH1 hS2 => ?_
  have lH1_f0_0 := f0.lt
  have lH1_0 := hS.1
  replace hS := hS2; clear hS2 oH1
  clear f0
  obtain ⟨rfl, v, g1, g2, g3⟩ := qH1
  exact hr _ _ _ _ _ _ dJ4_init_da8c8_6 ⟨rfl, v, by omega, g2, g3⟩ hS (by omega) (by omega)
