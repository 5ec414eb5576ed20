/-! TEXTS that are read -/
/-- letters below 128 -/
def asc (t : List Nat) : Prop := ∀ i, t.getD i 0 < 128
theorem ch_all : ∀ n, n < 128 → ((nI n &&& 255).toUInt32 % 65536).toInt32 = nI n ∧ narrow .char (.int (nI n)) = .int (nI n) ∧ fits .byte (.int (nI n)) = true ∧ vp_nar .byte (nI n) = nI n := by decide +kernel
theorem cp_coder {G : Gt} {l : Launch} {a b : Nat} {t : List Nat} : CtP G l yJ0_coder_7d493 cJ0_coder_7d493 1 (some .byte) 1 [.ref a] (fun U => SF a b t U U.heap) (some (.int 0)) := by
  refine met_P (by decide +kernel) (Nat.le_of_ble_eq_true rfl) ⟨_, rfl, by decide⟩ ?_
  intro p e s m args below meth c Q ls X hP hr hl
  have hx := X.1.1
  have hb := X.1.2.1
  have hl : lv_has ls 1 [(0, .ref a)] := hl
  refine va_gets hx hb X.tE.2.2.2.2.2.2.1 va_S.rf X.1.2.2.2.1 (X.1.2.2.2.2 _ m_3_160) (fun _ h9 => h9) dJ0_coder_7d493_0 ?_
  refine lv_if_eq (tgt := 13) hx hb dJ0_coder_7d493_3 (by decide) (fun hc => absurd hc (by decide)) (fun _ => ?_)
  refine lv_aload_n hx hb dJ0_coder_7d493_6 rfl (lv_at hl 0 rfl) ?_
  refine s_get X hP.2.1 m_4_140 dJ0_coder_7d493_7 ?_
  refine lv_goto (tgt := 14) hx hb dJ0_coder_7d493_10 (by decide) ?_
  exact hr _ _ dJ0_coder_7d493_14
theorem cp_isLatin1 {G : Gt} {l : Launch} {a b : Nat} {t : List Nat} : CtP G l yJ0_isLatin1_aae02 cJ0_isLatin1_aae02 1 (some .boolean) 1 [.ref a] (fun U => SF a b t U U.heap) (some (.int 1)) := by
  refine met_P (by decide +kernel) (Nat.le_of_ble_eq_true rfl) ⟨_, rfl, by decide⟩ ?_
  intro p e s m args below meth c Q ls X hP hr hl
  have hx := X.1.1
  have hb := X.1.2.1
  have hl : lv_has ls 1 [(0, .ref a)] := hl
  refine va_gets hx hb X.tE.2.2.2.2.2.2.1 va_S.rf X.1.2.2.2.1 (X.1.2.2.2.2 _ m_3_160) (fun _ h9 => h9) dJ0_isLatin1_aae02_0 ?_
  refine lv_if_eq (tgt := 17) hx hb dJ0_isLatin1_aae02_3 (by decide) (fun hc => absurd hc (by decide)) (fun _ => ?_)
  refine lv_aload_n hx hb dJ0_isLatin1_aae02_6 rfl (lv_at hl 0 rfl) ?_
  refine s_get X hP.2.1 m_4_140 dJ0_isLatin1_aae02_7 ?_
  refine lv_if_ne (tgt := 17) hx hb dJ0_isLatin1_aae02_10 (by decide) (fun hc => absurd rfl hc) (fun _ => ?_)
  refine lv_iconst (v := 1) hx hb dJ0_isLatin1_aae02_13 (by decide) ?_
  refine lv_goto (tgt := 18) hx hb dJ0_isLatin1_aae02_14 (by decide) ?_
  exact hr _ _ dJ0_isLatin1_aae02_18
theorem cp_length {G : Gt} {l : Launch} {a b : Nat} {t : List Nat} : CtP G l yJ0_length_8abf5 cJ0_length_8abf5 1 (some .int) 2 [.ref a] (fun U => SF a b t U U.heap) (some (.int (nI t.length))) := by
  refine met_P (by decide +kernel) (Nat.le_of_ble_eq_true rfl) ⟨.int, rfl, rfl⟩ ?_
  intro p e s m args below meth c Q ls X hP hr hl
  have hx := X.1.1
  have hb := X.1.2.1
  have hl : lv_has ls 1 [(0, .ref a)] := hl
  refine lv_aload_n hx hb dJ0_length_8abf5_0 rfl (lv_at hl 0 rfl) ?_
  refine s_get X hP.2.2.1 m_4_139 dJ0_length_8abf5_1 ?_
  refine s_alen X hP.2.2.2 dJ0_length_8abf5_4 ?_
  refine lv_aload_n hx hb dJ0_length_8abf5_5 rfl (lv_at hl 0 rfl) ?_
  refine callP_R (A := fun _ => False) X va_S.rf (fun _ _ h9 => h9.elim) SF.mv (fun U hU hv => by rw [hU]; exact hP.moved hv) (by obtain ⟨cell, h1, h2, h3, -⟩ := hP.1; exact ⟨cell, h1, h2, h3⟩) m_3_156 m_3_157 m_3_158 mv_J0_coder_7d493 cp_coder (by decide) rfl rfl (Nat.le_of_ble_eq_true rfl) hl.1 dJ0_length_8abf5_6 (Nat.le_refl _) (Nat.le_refl _) ?_
  refine lv_ishr hx hb dJ0_length_8abf5_9 ?_
  rw [shr0]
  exact hr _ _ dJ0_length_8abf5_10
theorem met_Pv {G : Gt} {l : Launch} {y : MethodName} {cc : ByteArray} {maxL : Nat} {ret : Option FieldType} {h : Nat} {av : List Value} {Pf : State → Prop} (hy : plainFor y = true) (hlen : (lg_sl av).length ≤ maxL) (hret : ret = none)
    (body : ∀ (p : Program) (e : Env) (s : State) (m : MethodId) (args : Array Value) (below : List Frame) (meth : Method) (c : Code) (Q : State → Prop) (ls : Array Slot), Cx G p (rmH h) s m args c 0 0 cc maxL y.cls h → Pf s → (∀ (pc : Nat) (ls : Array Slot), decode cc pc = .ok (.return_, 1) → W p l e (rmH h) s m args below meth c s.heap [] 0 0 Q (F0 m pc ls [])) → lv_has ls maxL (lv_args 0 av) → W p l e (rmH h) s m args below meth c s.heap [] 0 0 Q (F0 m 0 ls [])) :
    CtP G l y cc maxL ret h av Pf none := by
  refine va_MetF (cc := cc) (maxL := maxL) (ret := ret) hy rfl ?_
  intro p e s m args below meth c s₁ B hml hv
  obtain ⟨rfl, htb, hE, hP⟩ := hv
  have X : Cx G p (rmH h) s m av.toArray c 0 0 cc maxL y.cls h := ⟨⟨B.exec, B.bytes, hml, findClass_of_methodNamed B.named, TB_warm (State.WarmedH.refl s) htb⟩, hE, Nat.le_refl _, Nat.le_refl _, Nat.le_refl _, Nat.le_refl _⟩
  have hl := lv_entry av (n := maxL) hlen
  rw [lg_entry_eq]
  generalize (lg_sl av ++ List.replicate (maxL - (lg_sl av).length) Slot.unset).toArray = ls at hl ⊢
  have hlocks := B.notSynchronized
  refine body p e s m av.toArray below meth c _ ls X hP ?_ hl
  intro pc ls1 hd
  exact W.vret X.1.1 X.1.2.1 (B.returns.trans hret) (fun t ht hw => ⟨rfl, ht⟩) (fun _ h9 => by cases h9) hd hlocks
theorem cp_J0_checkIndex {G : Gt} {l : Launch} {i n : Int32} (h0 : ¬ i < 0) (h1 : i < n) {Pf : State → Prop} : CtP G l yJ0_checkIndex_df160 cJ0_checkIndex_df160 2 none 3 [.int i, .int n] Pf none := by
  refine met_Pv (by decide +kernel) (Nat.le_of_ble_eq_true rfl) rfl ?_
  intro p e s m args below meth c Q ls X hP hr hl
  have hx := X.1.1
  have hb := X.1.2.1
  have hl : lv_has ls 2 [(0, .int i), (1, .int n)] := hl
  refine lv_iload_n hx hb dJ0_checkIndex_df160_0 rfl (lv_at hl 0 rfl) ?_
  refine lv_iload_n hx hb dJ0_checkIndex_df160_1 rfl (lv_at hl 1 rfl) ?_
  rcases X.tE.2.2.2.2.2.2.2.1 with hz | ⟨t, hz⟩
  · refine va_gets hx hb hz va_S.rf X.1.2.2.2.1 (X.1.2.2.2.2 _ m_4_16) (fun _ h9 => h9) dJ0_checkIndex_df160_2 ?_
    refine callP_S (Pf := fun _ => True) (A := fun _ => False) X va_S.rf (fun _ _ h9 => h9.elim) Mv.true (fun _ _ _ => trivial) m_5_55 m_3_108 mv_J3_checkIndex_8e157 (cp_J3_checkIndex (Or.inl rfl) h0 h1) (by decide) rfl rfl (Nat.le_of_ble_eq_true rfl) hl.1 dJ0_checkIndex_df160_5 (Nat.le_refl _) (Nat.le_refl _) ?_
    refine lv_pop hx hb dJ0_checkIndex_df160_8 rfl ?_
    exact hr _ _ dJ0_checkIndex_df160_9
  · refine va_gets hx hb hz va_S.rf X.1.2.2.2.1 (X.1.2.2.2.2 _ m_4_16) (fun _ h9 => h9) dJ0_checkIndex_df160_2 ?_
    refine callP_S (Pf := fun _ => True) (A := fun _ => False) X va_S.rf (fun _ _ h9 => h9.elim) Mv.true (fun _ _ _ => trivial) m_5_55 m_3_108 mv_J3_checkIndex_8e157 (cp_J3_checkIndex (Or.inr ⟨_, rfl⟩) h0 h1) (by decide) rfl rfl (Nat.le_of_ble_eq_true rfl) hl.1 dJ0_checkIndex_df160_5 (Nat.le_refl _) (Nat.le_refl _) ?_
    refine lv_pop hx hb dJ0_checkIndex_df160_8 rfl ?_
    exact hr _ _ dJ0_checkIndex_df160_9
theorem cp_charAt1 {G : Gt} {l : Launch} {b i : Nat} {t : List Nat} (ha : asc t) (hi : i < t.length) (hn : t.length < 2 ^ 31) : CtP G l yJ1_charAt_3b067 cJ1_charAt_3b067 2 (some .char) 4 [.ref b, .int (nI i)] (fun U => va_T .byte b t.length (fun k => .int (tB t k)) (fun _ => False) U U.heap) (some (.int (tB t i))) := by
  obtain ⟨hc1, hc2, -⟩ := ch_all _ (ha i)
  refine met_P (by decide +kernel) (Nat.le_of_ble_eq_true rfl) ⟨_, rfl, hc2⟩ ?_
  intro p e s m args below meth c Q ls X hP hr hl
  have hx := X.1.1
  have hb := X.1.2.1
  have hl : lv_has ls 2 [(0, .ref b), (1, .int (nI i))] := hl
  refine lv_iload_n hx hb dJ1_charAt_3b067_0 rfl (lv_at hl 1 rfl) ?_
  refine lv_aload_n hx hb dJ1_charAt_3b067_1 rfl (lv_at hl 0 rfl) ?_
  refine s_alen X hP dJ1_charAt_3b067_2 ?_
  refine callP_S (Pf := fun _ => True) (A := fun _ => False) X va_S.rf (fun _ _ h9 => h9.elim) Mv.true (fun _ _ _ => trivial) m_5_52 m_5_53 mv_J0_checkIndex_df160 (cp_J0_checkIndex (nI_pos (by omega)) (nI_lt hi hn)) (by decide) rfl rfl (Nat.le_of_ble_eq_true rfl) hl.1 dJ1_charAt_3b067_3 (Nat.le_refl _) (Nat.le_refl _) ?_
  refine lv_aload_n hx hb dJ1_charAt_3b067_6 rfl (lv_at hl 0 rfl) ?_
  refine lv_iload_n hx hb dJ1_charAt_3b067_7 rfl (lv_at hl 1 rfl) ?_
  refine s_bald (f := tB t) X hP hi hn dJ1_charAt_3b067_8 ?_
  refine lv_sipush (v := 255) hx hb dJ1_charAt_3b067_9 (by decide) ?_
  refine lv_iand hx hb dJ1_charAt_3b067_12 ?_
  refine lv_i2c hx hb dJ1_charAt_3b067_13 hc1 ?_
  exact hr _ _ dJ1_charAt_3b067_14
theorem cp_charAt {G : Gt} {l : Launch} {a b i : Nat} {t : List Nat} (ha : asc t) (hi : i < t.length) (hn : t.length < 2 ^ 31) : CtP G l yJ0_charAt_5068e cJ0_charAt_5068e 2 (some .char) 5 [.ref a, .int (nI i)] (fun U => SF a b t U U.heap) (some (.int (tB t i))) := by
  obtain ⟨hc1, hc2, -⟩ := ch_all _ (ha i)
  refine met_P (by decide +kernel) (Nat.le_of_ble_eq_true rfl) ⟨_, rfl, hc2⟩ ?_
  intro p e s m args below meth c Q ls X hP hr hl
  have hx := X.1.1
  have hb := X.1.2.1
  have hl : lv_has ls 2 [(0, .ref a), (1, .int (nI i))] := hl
  refine lv_aload_n hx hb dJ0_charAt_5068e_0 rfl (lv_at hl 0 rfl) ?_
  refine callP_R (A := fun _ => False) X va_S.rf (fun _ _ h9 => h9.elim) SF.mv (fun U hU hv => by rw [hU]; exact hP.moved hv) (by obtain ⟨cell, h1, h2, h3, -⟩ := hP.1; exact ⟨cell, h1, h2, h3⟩) m_5_45 m_5_46 m_5_47 mv_J0_isLatin1_aae02 cp_isLatin1 (by decide) rfl rfl (Nat.le_of_ble_eq_true rfl) hl.1 dJ0_charAt_5068e_1 (Nat.le_refl _) (Nat.le_refl _) ?_
  refine lv_if_eq (tgt := 16) hx hb dJ0_charAt_5068e_4 (by decide) (fun hc => absurd hc (by decide)) (fun _ => ?_)
  refine lv_aload_n hx hb dJ0_charAt_5068e_7 rfl (lv_at hl 0 rfl) ?_
  refine s_get X hP.2.2.1 m_4_139 dJ0_charAt_5068e_8 ?_
  refine lv_iload_n hx hb dJ0_charAt_5068e_11 rfl (lv_at hl 1 rfl) ?_
  refine callP_S (Pf := fun U => va_T .byte b t.length (fun k => .int (tB t k)) (fun _ => False) U U.heap) (A := fun _ => False) X va_S.rf (fun _ _ h9 => h9.elim) (fun U V hv hh q => by show va_T _ _ _ _ _ V V.heap; rw [hh]; exact va_T.moved hv q) (fun U hU hv => by rw [hU]; exact hP.2.2.2.moved hv) m_5_49 m_5_50 mv_J1_charAt_3b067 (cp_charAt1 ha hi hn) (by decide) rfl rfl (Nat.le_of_ble_eq_true rfl) hl.1 dJ0_charAt_5068e_12 (Nat.le_refl _) (Nat.le_refl _) ?_
  exact hr _ _ dJ0_charAt_5068e_15
section
variable {G : Gt} {p : Program} {l : Launch} {e : Env} {R : Room} {s : State} {m : MethodId} {args : Array Value} {below : List Frame} {meth : Method} {c : Code} {H : Heap} {locs : List Loc} {cells slots cells0 slots0 : Nat} {Q : State → Prop}
variable {cc : ByteArray} {nL h idx : Nat} {own : String} {pc : Nat} {ls : Array Slot} {rest : List Value}
theorem p_copyT {b0 n0 a n1 : Nat} {f g : Nat → Int32} {sp dp n : Nat} (X : Cx G p R s m args c cells0 slots0 cc nL own h) (hX : va_T .byte b0 n0 (fun j => .int (f j)) (fun _ => False) s H) (hf : va_at (gDD G) vwCl (a, .inl (gty G 7, n1, .inl g)) H) (h4 : sp + n ≤ n0) (h5 : dp + n ≤ n1) (hn0 : n0 < 2 ^ 31) (hn1 : n1 < 2 ^ 31) (hfit : ∀ i : Nat, i < n → fits .byte (.int (f (sp + i))) = true) (lk : Cond.methodLink own idx arraycopyName ∈ TB) (hh : 1 ≤ h) (hcat : (rest.map fun v => v.category).sum ≤ 8) (hls : ls.size = nL) (hd : decode cc pc = .ok (.invokestatic idx, 3))
    (kk : ∀ (H1 : Heap) (L : List Loc), va_at (gDD G) vwCl (a, .inl (gty G 7, n1, .inl (va_cpy f g sp dp n))) H1 → H1.size = H.size → (∀ q : Nat, q ≠ a → H1[q]? = H[q]?) → (∀ x ∈ L, x.base = a) → W p l e R s m args below meth c H1 (locs ++ L) cells slots Q (F0 m (pc + 3) ls rest)) : W p l e R s m args below meth c H locs cells slots Q (F0 m pc ls (.int (nI n) :: .int (nI dp) :: .ref a :: .int (nI sp) :: .ref b0 :: rest)) := by
  have hts := X.1.2.2.2.2
  have cn : ∀ k, k < 2 ^ 31 → (nI k).toNatClampNeg = k := fun k hk => nI_clamp hk
  have ti : ∀ k, k < 2 ^ 31 → (nI k).toInt = (k : Int) := fun k hk => nI_toInt hk
  intro T hT X1
  obtain ⟨scr, hs1, hs2, hs3, hs4, hs4', hs5, hs7⟩ := hX
  have hc1 : H[a]? = some (vp_cell (gty G 7) (n1, .inl g)) := hf
  obtain ⟨hs6, k0, hk0, cm0, hkk0⟩ := hs2
  obtain ⟨-, k1, hk1, cm1, hkk1⟩ := (X.2.1.1.2 7 _ rfl).1 n1 (fun j => .int (g j))
  obtain ⟨vm', X', step⟩ := X1.arraycopy X.1.1 X.1.2.2.2.1 (hts _ lk) (hts _ acNat) (hts _ acSta) (hts _ acIni) (src := b0) (dst := a) (cs := scr) (cd := vp_cell (gty G 7) (n1, .inl g)) (srcPos := nI sp) (destPos := nI dp) (n := nI n) (by rw [hT]; exact hs1) (by rw [hT]; exact hc1)
    hs6 (fun _ h => by cases h) hs3 (fun h => by cases h) hk0 hk1 hkk0 hkk1 (by simp [refKind]) (nI_pos (by omega)) (nI_pos (by omega)) (nI_pos (by omega))
    (by rw [ti sp (by omega), ti n (by omega)]; omega)
    (by rw [ti dp (by omega), ti n (by omega)]; show ¬ _ > ((arrV (gty G 7) n1 (fun j => .int (g j))).slots.size : Int); rw [arrV_size]; omega)
    (fun vm₁ _ i hi => by
      rw [cn n (by omega)] at hi
      have e : scr.slots.getD ((nI sp).toNatClampNeg + i) .null = .int (f (sp + i)) := by
        rw [cn sp (by omega), Array.getD_eq_getD_getElem?, hs5 _ (by omega)]
        rfl
      refine ⟨?_, ?_⟩
      · rw [e]
        exact hfit i hi
      · rw [e]
        exact trivial)
    (g := F0 m pc ls (.int (nI n) :: .int (nI dp) :: .ref a :: .int (nI sp) :: .ref b0 :: rest)) rfl (by rw [X.1.2.2.1]; exact hls) (rest := rest) rfl (by rw [X.1.2.1]; exact hd) (Nat.le_trans hh X.2.2.1) (by
      have h1 := X.2.2.2.1
      have h2 : nativeFrameWords "java/lang/System" "arraycopy" 5 ≤ 21 := by decide +kernel
      show 2 * 0 + _ + _ ≤ _
      omega)
  have e1 : copied scr (vp_cell (gty G 7) (n1, .inl g)) (nI sp) (nI dp) (nI n) = vp_cell (gty G 7) (n1, .inl (va_cpy f g sp dp n)) := by
    have : copied scr (vp_cell (gty G 7) (n1, .inl g)) (nI sp) (nI dp) (nI n) = vp_cell (gty G 7) (n1, .inl (va_cpy f g (nI sp).toNatClampNeg (nI dp).toNatClampNeg (nI n).toNatClampNeg)) := va_copiedX (fun z => .int z) scr (gty G 7) f g hs5 (by rw [cn sp (by omega), cn n (by omega)]; omega)
    rw [cn sp (by omega), cn dp (by omega), cn n (by omega)] at this
    exact this
  rw [e1] at X' step
  have hl : a < H.size := (Array.getElem?_eq_some_iff.mp hc1).1
  have hheap : ((T.setVm vm').setCell a (vp_cell (gty G 7) (n1, .inl (va_cpy f g sp dp n)))).heap = H.setIfInBounds a (vp_cell (gty G 7) (n1, .inl (va_cpy f g sp dp n))) := by rw [← hT]; rfl
  have oq : ∀ q : Nat, q ≠ a → (H.setIfInBounds a (vp_cell (gty G 7) (n1, .inl (va_cpy f g sp dp n))))[q]? = H[q]? := fun q hq => by simp [Array.getElem?_setIfInBounds, Ne.symm hq]
  obtain ⟨t, a1, b1⟩ := kk _ _ (show (H.setIfInBounds a _)[a]? = some _ by simp [Array.getElem?_setIfInBounds, hl]) (by simp) oq (fun x hx => by
    obtain ⟨z, -, hz⟩ := List.mem_map.mp hx
    rw [← hz]) _ hheap X'
  exact ⟨t, step t a1, b1⟩
end
