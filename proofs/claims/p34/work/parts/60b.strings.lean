section
variable {G : Gt} {p : Program} {l : Launch} {e : Env} {R : Room} {s : State} {m : MethodId} {args : Array Value} {below : List Frame} {meth : Method} {c : Code} {H : Heap} {locs : List Loc} {cells slots : Nat} {Q : State → Prop}
variable {cc bytes : ByteArray} {nL h h2 maxL n idx : Nat} {own : String} {pc : Nat} {ls : Array Slot} {rest st0 : List Value} {σ σ' : St} {y : MethodName} {ret : Option FieldType} {As : List Value}
theorem Cx.tE (X : Cx G p R s m args c cells slots cc nL own h) : EnvT G s s.heap := X.2.1.2.2
theorem tE5 {k : Nat} (X : Cx G p R s m args c cells slots cc nL own h) (hk : k < 48) : va_O "java/lang/String" (gsK G k) (gA G) s s.heap ∧ va_OF "java/lang/String" "coder" "B" (.int 0) (gsK G k) (gA G) s s.heap ∧ va_OF "java/lang/String" "value" "[B" (.ref (gsV G k)) (gsK G k) (gA G) s s.heap ∧ va_T .byte (gsV G k) (stL.getD k 0) (fun j => .int ((stB.getD k []).getD j 0)) (gA G) s s.heap := (X.tE.2.2.2.2.1 k hk).1 0 (by decide)
theorem pK_of {k : Nat} (X : Cx G p R s m args c cells slots cc nL own h) (hW : GW G σ s H locs) (hk : k < 48) : PreV s H "java/lang/String" (gsK G k) (va_Pc (.ref (gsK G k) :: As) (GP G σ)) As :=
  ⟨GP_blind _ _, vk_recv (i := 0) (X.tE.2.2.2.2.1 k hk) (by decide) hW.2, fun U hU hw => ⟨rfl, X.env hW hU hw⟩⟩
theorem call_K1 {v : Value} {k : Nat} (X : Cx G p R s m args c cells slots cc nL own h) (hW : GW G σ s H locs) (hk : k < 48) (lk : Cond.methodLink own idx y ∈ TB) (hin : Cond.instanceMethod y ∈ TB) (hse : Cond.selects "java/lang/String" y y ∈ TB) (mv : MV y bytes maxL ret n) (hM : Ct G l y bytes maxL ret h2 (.ref (gsK G k) :: As) σ (some v) σ') (hh : h2 < h) (hst : st0 = As.reverse ++ .ref (gsK G k) :: rest) (hn : As.length = n) (hcat : (rest.map fun v => v.category).sum ≤ 8) (hls : ls.size = nL) (hd : decode cc pc = .ok (.invokevirtual idx, 3))
    (kk : ∀ (H1 : Heap) (locs1 : List Loc), GW G σ' s H1 locs1 → W p l e R s m args below meth c H1 locs1 cells slots Q (F0 m (pc + 3) ls (v :: rest))) : W p l e R s m args below meth c H locs cells slots Q (F0 m pc ls st0) :=
  g_back X hW (va_runV X.1 hM ⟨cB_of X lk mv hh, X.1.2.2.2.2 _ hin, X.1.2.2.2.2 _ hse⟩ (pK_of X hW hk) rfl hn hls hst (lv_room (ls := ls) (rest := rest) (pc := pc) (m := m) hcat) hd ⟨X.2.2.2.2.1, X.2.2.2.2.2⟩) kk
end
theorem shr0 (x : Int32) : x >>> ((0 : Int32) &&& 31) = x := Int32.toInt_inj.mp (by rw [pk_shr x _ 0 (by decide)]; simp)
theorem c_J0_coder {G : Gt} {l : Launch} {k : Nat} (hk : k < 48) {σ : St} : Ct G l yJ0_coder_7d493 cJ0_coder_7d493 1 (some .byte) 2 [.ref (gsK G k)] σ (some (.int 0)) σ := by
  refine met_n (by decide +kernel) (Nat.le_of_ble_eq_true rfl) ⟨_, rfl, by decide⟩ ?_
  intro p e s m args below meth c Q ls X hW hret hl
  have hx := X.1.1
  have hb := X.1.2.1
  have hl : lv_has ls 1 [(0, .ref (gsK G k))] := hl
  refine va_gets hx hb X.tE.2.2.2.2.2.2.1 hW.2 X.1.2.2.2.1 (X.1.2.2.2.2 _ m_3_160) (fun _ h9 => h9) dJ0_coder_7d493_0 ?_
  refine lv_if_eq (tgt := 13) hx hb dJ0_coder_7d493_3 (by decide) (fun hc => absurd hc (by decide)) (fun _ => ?_)
  refine lv_aload_n hx hb dJ0_coder_7d493_6 rfl (lv_at hl 0 rfl) ?_
  refine vk_getf hx hb (tE5 X hk).2.1 hW.2 X.1.2.2.2.1 (X.1.2.2.2.2 _ m_4_140) (fun _ h9 => h9) dJ0_coder_7d493_7 ?_
  refine lv_goto (tgt := 14) hx hb dJ0_coder_7d493_10 (by decide) ?_
  exact hret _ _ _ _ dJ0_coder_7d493_14 hW
theorem c_J0_isLatin1 {G : Gt} {l : Launch} {k : Nat} (hk : k < 48) {σ : St} : Ct G l yJ0_isLatin1_aae02 cJ0_isLatin1_aae02 1 (some .boolean) 2 [.ref (gsK G k)] σ (some (.int 1)) σ := by
  refine met_z (by decide +kernel) (Nat.le_of_ble_eq_true rfl) rfl ?_
  intro p e s m args below meth c Q ls X hW hret hl
  have hx := X.1.1
  have hb := X.1.2.1
  have hl : lv_has ls 1 [(0, .ref (gsK G k))] := hl
  refine va_gets hx hb X.tE.2.2.2.2.2.2.1 hW.2 X.1.2.2.2.1 (X.1.2.2.2.2 _ m_3_160) (fun _ h9 => h9) dJ0_isLatin1_aae02_0 ?_
  refine lv_if_eq (tgt := 17) hx hb dJ0_isLatin1_aae02_3 (by decide) (fun hc => absurd hc (by decide)) (fun _ => ?_)
  refine lv_aload_n hx hb dJ0_isLatin1_aae02_6 rfl (lv_at hl 0 rfl) ?_
  refine vk_getf hx hb (tE5 X hk).2.1 hW.2 X.1.2.2.2.1 (X.1.2.2.2.2 _ m_4_140) (fun _ h9 => h9) dJ0_isLatin1_aae02_7 ?_
  refine lv_if_ne (tgt := 17) hx hb dJ0_isLatin1_aae02_10 (by decide) (fun hc => absurd rfl hc) (fun _ => ?_)
  refine lv_iconst (v := 1) hx hb dJ0_isLatin1_aae02_13 (by decide) ?_
  refine lv_goto (tgt := 18) hx hb dJ0_isLatin1_aae02_14 (by decide) ?_
  exact hret _ _ _ _ dJ0_isLatin1_aae02_18 (Or.inr rfl) hW
theorem c_J0_length {G : Gt} {l : Launch} {k : Nat} (hk : k < 48) {σ : St} : Ct G l yJ0_length_8abf5 cJ0_length_8abf5 1 (some .int) 6 [.ref (gsK G k)] σ (some (.int (nI (stL.getD k 0)))) σ := by
  refine met_i (by decide +kernel) (Nat.le_of_ble_eq_true rfl) rfl ?_
  intro p e s m args below meth c Q ls X hW hret hl
  have hx := X.1.1
  have hb := X.1.2.1
  have hl : lv_has ls 1 [(0, .ref (gsK G k))] := hl
  refine lv_aload_n hx hb dJ0_length_8abf5_0 rfl (lv_at hl 0 rfl) ?_
  refine vk_getf hx hb (tE5 X hk).2.2.1 hW.2 X.1.2.2.2.1 (X.1.2.2.2.2 _ m_4_139) (fun _ h9 => h9) dJ0_length_8abf5_1 ?_
  refine va_tlen hx hb (tE5 X hk).2.2.2 hW.2 rfl dJ0_length_8abf5_4 ?_
  refine lv_aload_n hx hb dJ0_length_8abf5_5 rfl (lv_at hl 0 rfl) ?_
  refine call_K1 X hW hk m_3_156 m_3_157 m_3_158 mv_J0_coder_7d493 (c_J0_coder hk) (by decide) rfl rfl (Nat.le_of_ble_eq_true rfl) hl.1 dJ0_length_8abf5_6 ?_
  clear hW; intro H locs hW
  refine lv_ishr hx hb dJ0_length_8abf5_9 ?_
  rw [shr0]
  exact hret _ _ _ _ dJ0_length_8abf5_10 hW
theorem c_J3_checkIndex {G : Gt} {l : Launch} {i n : Int32} {v : Value} (hv : v = .null ∨ ∃ a, v = .ref a) (h0 : ¬ i < 0) (h1 : i < n) {σ : St} : Ct G l yJ3_checkIndex_8e157 cJ3_checkIndex_8e157 3 (some .int) 2 [.int i, .int n, v] σ (some (.int i)) σ := by
  refine met_i (by decide +kernel) (by rcases hv with rfl | ⟨a, rfl⟩ <;> exact Nat.le_of_ble_eq_true rfl) rfl ?_
  intro p e s m args below meth c Q ls X hW hret hl
  have hx := X.1.1
  have hb := X.1.2.1
  have hl : lv_has ls 3 [(0, .int i), (1, .int n), (2, v)] := hl
  refine lv_iload_n hx hb dJ3_checkIndex_8e157_0 rfl (lv_at hl 0 rfl) ?_
  refine lv_if_lt (tgt := 9) hx hb dJ3_checkIndex_8e157_1 (by decide) (fun hc => absurd hc h0) (fun _ => ?_)
  refine lv_iload_n hx hb dJ3_checkIndex_8e157_4 rfl (lv_at hl 0 rfl) ?_
  refine lv_iload_n hx hb dJ3_checkIndex_8e157_5 rfl (lv_at hl 1 rfl) ?_
  refine lv_icmp_lt (tgt := 16) hx hb dJ3_checkIndex_8e157_6 (by decide) (fun _ => ?_) (fun hc => absurd h1 hc)
  refine lv_iload_n hx hb dJ3_checkIndex_8e157_16 rfl (lv_at hl 0 rfl) ?_
  exact hret _ _ _ _ dJ3_checkIndex_8e157_17 hW
theorem c_J0_checkIndex {G : Gt} {l : Launch} {i n : Int32} (h0 : ¬ i < 0) (h1 : i < n) {σ : St} : Ct G l yJ0_checkIndex_df160 cJ0_checkIndex_df160 2 none 3 [.int i, .int n] σ none σ := by
  refine met_v (by decide +kernel) (Nat.le_of_ble_eq_true rfl) rfl ?_
  intro p e s m args below meth c Q ls X hW hret hl
  have hx := X.1.1
  have hb := X.1.2.1
  have hl : lv_has ls 2 [(0, .int i), (1, .int n)] := hl
  refine lv_iload_n hx hb dJ0_checkIndex_df160_0 rfl (lv_at hl 0 rfl) ?_
  refine lv_iload_n hx hb dJ0_checkIndex_df160_1 rfl (lv_at hl 1 rfl) ?_
  rcases X.tE.2.2.2.2.2.2.2.1 with hz | ⟨t, hz⟩
  · refine va_gets hx hb hz hW.2 X.1.2.2.2.1 (X.1.2.2.2.2 _ m_4_16) (fun _ h9 => h9) dJ0_checkIndex_df160_2 ?_
    refine call_S1 X hW m_5_55 m_3_108 mv_J3_checkIndex_8e157 (c_J3_checkIndex (Or.inl rfl) h0 h1) (by decide) rfl rfl (Nat.le_of_ble_eq_true rfl) hl.1 dJ0_checkIndex_df160_5 ?_
    clear hW; intro H locs hW
    refine lv_pop hx hb dJ0_checkIndex_df160_8 rfl ?_
    exact hret _ _ _ _ dJ0_checkIndex_df160_9 hW
  · refine va_gets hx hb hz hW.2 X.1.2.2.2.1 (X.1.2.2.2.2 _ m_4_16) (fun _ h9 => h9) dJ0_checkIndex_df160_2 ?_
    refine call_S1 X hW m_5_55 m_3_108 mv_J3_checkIndex_8e157 (c_J3_checkIndex (Or.inr ⟨_, rfl⟩) h0 h1) (by decide) rfl rfl (Nat.le_of_ble_eq_true rfl) hl.1 dJ0_checkIndex_df160_5 ?_
    clear hW; intro H locs hW
    refine lv_pop hx hb dJ0_checkIndex_df160_8 rfl ?_
    exact hret _ _ _ _ dJ0_checkIndex_df160_9 hW
theorem st_all : ∀ k, k < 48 → stL.getD k 0 < 2 ^ 31 ∧ ∀ j, j < stL.getD k 0 → (((stB.getD k []).getD j 0 &&& 255).toUInt32 % 65536).toInt32 = (stB.getD k []).getD j 0 ∧ narrow .char (.int ((stB.getD k []).getD j 0)) = .int ((stB.getD k []).getD j 0) := by decide +kernel
theorem vp_i {j : Int32} {n : Nat} (hn : n < 2 ^ 31) (h : vp_in j n) : ¬ j < 0 ∧ j < nI n := by
  obtain ⟨i, hi, rfl⟩ := vp_in_of h hn
  exact ⟨nI_pos (by omega), nI_lt hi hn⟩
theorem c_J1_charAt {G : Gt} {l : Launch} {k : Nat} {j : Int32} (hk : k < 48) (hj : vp_in j (stL.getD k 0)) {σ : St} : Ct G l yJ1_charAt_3b067 cJ1_charAt_3b067 2 (some .char) 4 [.ref (gsV G k), .int j] σ (some (.int ((stB.getD k []).getD j.toNatClampNeg 0))) σ := by
  obtain ⟨hL, hS⟩ := st_all k hk
  obtain ⟨hc1, hc2⟩ := hS _ (vp_lt hj)
  refine met_n (by decide +kernel) (Nat.le_of_ble_eq_true rfl) ⟨_, rfl, hc2⟩ ?_
  intro p e s m args below meth c Q ls X hW hret hl
  have hx := X.1.1
  have hb := X.1.2.1
  have hl : lv_has ls 2 [(0, .ref (gsV G k)), (1, .int j)] := hl
  refine lv_iload_n hx hb dJ1_charAt_3b067_0 rfl (lv_at hl 1 rfl) ?_
  refine lv_aload_n hx hb dJ1_charAt_3b067_1 rfl (lv_at hl 0 rfl) ?_
  refine va_tlen hx hb (tE5 X hk).2.2.2 hW.2 rfl dJ1_charAt_3b067_2 ?_
  refine call_S0 X hW m_5_52 m_5_53 mv_J0_checkIndex_df160 (c_J0_checkIndex (vp_i hL hj).1 (vp_i hL hj).2) (by decide) rfl rfl (Nat.le_of_ble_eq_true rfl) hl.1 dJ1_charAt_3b067_3 ?_
  clear hW; intro H locs hW
  refine lv_aload_n hx hb dJ1_charAt_3b067_6 rfl (lv_at hl 0 rfl) ?_
  refine lv_iload_n hx hb dJ1_charAt_3b067_7 rfl (lv_at hl 1 rfl) ?_
  refine va_tb hx hb (tE5 X hk).2.2.2 hW.2 hj rfl dJ1_charAt_3b067_8 ?_
  refine lv_sipush (v := 255) hx hb dJ1_charAt_3b067_9 (by decide) ?_
  refine lv_iand hx hb dJ1_charAt_3b067_12 ?_
  refine lv_i2c hx hb dJ1_charAt_3b067_13 hc1 ?_
  exact hret _ _ _ _ dJ1_charAt_3b067_14 hW
theorem c_J0_charAt {G : Gt} {l : Launch} {k : Nat} {j : Int32} (hk : k < 48) (hj : vp_in j (stL.getD k 0)) {σ : St} : Ct G l yJ0_charAt_5068e cJ0_charAt_5068e 2 (some .char) 8 [.ref (gsK G k), .int j] σ (some (.int ((stB.getD k []).getD j.toNatClampNeg 0))) σ := by
  obtain ⟨hL, hS⟩ := st_all k hk
  obtain ⟨hc1, hc2⟩ := hS _ (vp_lt hj)
  refine met_n (by decide +kernel) (Nat.le_of_ble_eq_true rfl) ⟨_, rfl, hc2⟩ ?_
  intro p e s m args below meth c Q ls X hW hret hl
  have hx := X.1.1
  have hb := X.1.2.1
  have hl : lv_has ls 2 [(0, .ref (gsK G k)), (1, .int j)] := hl
  refine lv_aload_n hx hb dJ0_charAt_5068e_0 rfl (lv_at hl 0 rfl) ?_
  refine call_K1 X hW hk m_5_45 m_5_46 m_5_47 mv_J0_isLatin1_aae02 (c_J0_isLatin1 hk) (by decide) rfl rfl (Nat.le_of_ble_eq_true rfl) hl.1 dJ0_charAt_5068e_1 ?_
  clear hW; intro H locs hW
  refine lv_if_eq (tgt := 16) hx hb dJ0_charAt_5068e_4 (by decide) (fun hc => absurd hc (by decide)) (fun _ => ?_)
  refine lv_aload_n hx hb dJ0_charAt_5068e_7 rfl (lv_at hl 0 rfl) ?_
  refine vk_getf hx hb (tE5 X hk).2.2.1 hW.2 X.1.2.2.2.1 (X.1.2.2.2.2 _ m_4_139) (fun _ h9 => h9) dJ0_charAt_5068e_8 ?_
  refine lv_iload_n hx hb dJ0_charAt_5068e_11 rfl (lv_at hl 1 rfl) ?_
  refine call_S1 X hW m_5_49 m_5_50 mv_J1_charAt_3b067 (c_J1_charAt hk hj) (by decide) rfl rfl (Nat.le_of_ble_eq_true rfl) hl.1 dJ0_charAt_5068e_12 ?_
  clear hW; intro H locs hW
  exact hret _ _ _ _ dJ0_charAt_5068e_15 hW
section
variable {G : Gt} {p : Program} {l : Launch} {e : Env} {R : Room} {s : State} {m : MethodId} {args : Array Value} {below : List Frame} {meth : Method} {c : Code} {H : Heap} {locs : List Loc} {cells slots : Nat} {Q : State → Prop}
variable {cc bytes : ByteArray} {nL h h2 maxL n idx : Nat} {own : String} {pc : Nat} {ls : Array Slot} {rest st0 : List Value} {σ σ' : St}
theorem r_slen {k : Nat} (X : Cx G p R s m args c cells slots cc nL own h) (hW : GW G σ s H locs) (hk : k < 48) (lk : Cond.methodLink own idx yJ0_length_8abf5 ∈ TB) (hcat : (rest.map fun v => v.category).sum ≤ 8) (hls : ls.size = nL) (hh : 6 < h) (hd : decode cc pc = .ok (.invokevirtual idx, 3))
    (kk : ∀ (H1 : Heap) (locs1 : List Loc), GW G σ s H1 locs1 → W p l e R s m args below meth c H1 locs1 cells slots Q (F0 m (pc + 3) ls (.int (nI (stL.getD k 0)) :: rest))) : W p l e R s m args below meth c H locs cells slots Q (F0 m pc ls (.ref (gsK G k) :: rest)) := call_K1 X hW hk lk m_3_153 m_3_154 mv_J0_length_8abf5 (c_J0_length hk) hh rfl rfl hcat hls hd kk
theorem r_schar {k : Nat} {j : Int32} (X : Cx G p R s m args c cells slots cc nL own h) (hW : GW G σ s H locs) (hk : k < 48) (hj : vp_in j (stL.getD k 0)) (lk : Cond.methodLink own idx yJ0_charAt_5068e ∈ TB) (hcat : (rest.map fun v => v.category).sum ≤ 8) (hls : ls.size = nL) (hh : 8 < h) (hd : decode cc pc = .ok (.invokevirtual idx, 3))
    (kk : ∀ (H1 : Heap) (locs1 : List Loc), GW G σ s H1 locs1 → W p l e R s m args below meth c H1 locs1 cells slots Q (F0 m (pc + 3) ls (.int ((stB.getD k []).getD j.toNatClampNeg 0) :: rest))) : W p l e R s m args below meth c H locs cells slots Q (F0 m pc ls (.int j :: .ref (gsK G k) :: rest)) := call_K1 X hW hk lk m_5_42 m_5_43 mv_J0_charAt_5068e (c_J0_charAt hk hj) hh rfl rfl hcat hls hd kk
end
