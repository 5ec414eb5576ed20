theorem m_1_6 : Cond.initialized RJ4 ∈ TB := mem_t1 6 (by decide +kernel)
theorem m_1_9 : Cond.initialized RJ8 ∈ TB := mem_t1 9 (by decide +kernel)
theorem m_3_190 : Cond.fieldLink RJ5 79 "java/lang/AbstractStringBuilder" "count" "I" ∈ TB := mem_t3 190 (by decide +kernel)
theorem m_3_199 : Cond.superclass RJ4 RJ5 ∈ TB := mem_t3 199 (by decide +kernel)
theorem m_3_202 : Cond.instanceMethod yJ4_append_15ec4 ∈ TB := mem_t3 202 (by decide +kernel)
theorem m_3_203 : Cond.selects RJ4 yJ4_append_15ec4 yJ4_append_15ec4 ∈ TB := mem_t3 203 (by decide +kernel)
theorem m_3_204 : Cond.code yJ4_append_15ec4 cJ4_append_15ec4 2 (some (.object "java/lang/StringBuilder")) ∈ TB := mem_t3 204 (by decide +kernel)
theorem m_3_205 : Cond.methodLink RJ4 29 yJ5_append_cf1ce ∈ TB := mem_t3 205 (by decide +kernel)
theorem m_3_206 : Cond.instanceMethod yJ5_append_cf1ce ∈ TB := mem_t3 206 (by decide +kernel)
theorem m_3_207 : Cond.code yJ5_append_cf1ce cJ5_append_cf1ce 3 (some (.object "java/lang/AbstractStringBuilder")) ∈ TB := mem_t3 207 (by decide +kernel)
theorem m_3_212 : Cond.methodLink RJ5 100 yJ5_ensureCapacityInternal_d00df ∈ TB := mem_t3 212 (by decide +kernel)
theorem m_3_213 : Cond.privateMethod yJ5_ensureCapacityInternal_d00df ∈ TB := mem_t3 213 (by decide +kernel)
theorem m_3_214 : Cond.instanceMethod yJ5_ensureCapacityInternal_d00df ∈ TB := mem_t3 214 (by decide +kernel)
theorem m_3_215 : Cond.code yJ5_ensureCapacityInternal_d00df cJ5_ensureCapacityInternal_d00df 3 none ∈ TB := mem_t3 215 (by decide +kernel)
theorem m_3_216 : Cond.methodLink RJ5 104 yJ5_newCapacity_0f7a4 ∈ TB := mem_t3 216 (by decide +kernel)
theorem m_3_217 : Cond.privateMethod yJ5_newCapacity_0f7a4 ∈ TB := mem_t3 217 (by decide +kernel)
theorem m_3_218 : Cond.instanceMethod yJ5_newCapacity_0f7a4 ∈ TB := mem_t3 218 (by decide +kernel)
theorem m_3_219 : Cond.code yJ5_newCapacity_0f7a4 cJ5_newCapacity_0f7a4 6 (some .int) ∈ TB := mem_t3 219 (by decide +kernel)
theorem m_3_220 : Cond.methodLink RJ5 114 yJ8_newLength_cabcc ∈ TB := mem_t3 220 (by decide +kernel)
theorem m_3_221 : Cond.static yJ8_newLength_cabcc ∈ TB := mem_t3 221 (by decide +kernel)
theorem m_3_222 : Cond.code yJ8_newLength_cabcc cJ8_newLength_cabcc 4 (some .int) ∈ TB := mem_t3 222 (by decide +kernel)
theorem m_3_223 : Cond.methodLink RJ8 194 yJ9_max_7cf53 ∈ TB := mem_t3 223 (by decide +kernel)
theorem m_3_224 : Cond.constant RJ8 200 2147483639 ∈ TB := mem_t3 224 (by decide +kernel)
theorem m_3_228 : Cond.constant RJ5 39 2147483647 ∈ TB := mem_t3 228 (by decide +kernel)
theorem m_3_229 : Cond.methodLink RJ5 108 yJ7_copyOf_9075b ∈ TB := mem_t3 229 (by decide +kernel)
theorem m_3_230 : Cond.static yJ7_copyOf_9075b ∈ TB := mem_t3 230 (by decide +kernel)
theorem m_3_231 : Cond.code yJ7_copyOf_9075b cJ7_copyOf_9075b 3 (some (.array .byte)) ∈ TB := mem_t3 231 (by decide +kernel)
theorem m_3_237 : Cond.methodLink RJ7 304 yJ9_min_7cf53 ∈ TB := mem_t3 237 (by decide +kernel)
theorem m_3_238 : Cond.methodLink RJ7 150 arraycopyName ∈ TB := mem_t3 238 (by decide +kernel)
theorem m_4_2 : Cond.selects RJ4 yJ5_isLatin1_aae02 yJ5_isLatin1_aae02 ∈ TB := mem_t4 2 (by decide +kernel)
theorem m_4_30 : Cond.methodLink RJ5 32 yJ0_length_8abf5 ∈ TB := mem_t4 30 (by decide +kernel)
theorem m_4_31 : Cond.methodLink RJ5 208 yJ5_putStringAt_47b60 ∈ TB := mem_t4 31 (by decide +kernel)
theorem m_4_32 : Cond.privateMethod yJ5_putStringAt_47b60 ∈ TB := mem_t4 32 (by decide +kernel)
theorem m_4_33 : Cond.instanceMethod yJ5_putStringAt_47b60 ∈ TB := mem_t4 33 (by decide +kernel)
theorem m_4_34 : Cond.code yJ5_putStringAt_47b60 cJ5_putStringAt_47b60 3 none ∈ TB := mem_t4 34 (by decide +kernel)
theorem m_4_35 : Cond.methodLink RJ5 397 yJ5_inflateIfNeededFor_a7421 ∈ TB := mem_t4 35 (by decide +kernel)
theorem m_4_36 : Cond.privateMethod yJ5_inflateIfNeededFor_a7421 ∈ TB := mem_t4 36 (by decide +kernel)
theorem m_4_37 : Cond.instanceMethod yJ5_inflateIfNeededFor_a7421 ∈ TB := mem_t4 37 (by decide +kernel)
theorem m_4_38 : Cond.code yJ5_inflateIfNeededFor_a7421 cJ5_inflateIfNeededFor_a7421 2 none ∈ TB := mem_t4 38 (by decide +kernel)
theorem m_4_39 : Cond.methodLink RJ5 40 yJ0_coder_7d493 ∈ TB := mem_t4 39 (by decide +kernel)
theorem m_4_59 : Cond.methodLink RJ5 399 yJ0_getBytes_840e7 ∈ TB := mem_t4 59 (by decide +kernel)
theorem m_4_60 : Cond.instanceMethod yJ0_getBytes_840e7 ∈ TB := mem_t4 60 (by decide +kernel)
theorem m_4_61 : Cond.selects RJ0 yJ0_getBytes_840e7 yJ0_getBytes_840e7 ∈ TB := mem_t4 61 (by decide +kernel)
theorem m_4_62 : Cond.code yJ0_getBytes_840e7 cJ0_getBytes_840e7 4 none ∈ TB := mem_t4 62 (by decide +kernel)
theorem m_4_63 : Cond.methodLink RJ0 212 arraycopyName ∈ TB := mem_t4 63 (by decide +kernel)
theorem m_7_107 : Cond.methodLink RJ4 23 yJ4_append_15ec4 ∈ TB := mem_t7 107 (by decide +kernel)
theorem m_7_165 : Cond.sameMethod RJ5 RJ5 "append" "(Ljava/lang/String;)Ljava/lang/AbstractStringBuilder;" ∈ TB := mem_t7 165 (by decide +kernel)
theorem mv_J8_newLength_cabcc : MV yJ8_newLength_cabcc cJ8_newLength_cabcc 4 (some .int) 3 := ⟨m_3_222, by decide +kernel, m_1_9, ⟨by decide +kernel, by decide +kernel, by decide +kernel⟩, by decide⟩
theorem mv_J5_newCapacity_0f7a4 : MV yJ5_newCapacity_0f7a4 cJ5_newCapacity_0f7a4 6 (some .int) 1 := ⟨m_3_219, by decide +kernel, m_1_5, ⟨by decide +kernel, by decide +kernel, by decide +kernel⟩, by decide⟩
theorem mv_J7_copyOf_9075b : MV yJ7_copyOf_9075b cJ7_copyOf_9075b 3 (some (.array .byte)) 2 := ⟨m_3_231, by decide +kernel, m_1_11, ⟨by decide +kernel, by decide +kernel, by decide +kernel⟩, by decide⟩
theorem mv_J5_inflateIfNeededFor_a7421 : MV yJ5_inflateIfNeededFor_a7421 cJ5_inflateIfNeededFor_a7421 2 none 1 := ⟨m_4_38, by decide +kernel, m_1_5, ⟨by decide +kernel, by decide +kernel, by decide +kernel⟩, by decide⟩
theorem mv_J0_getBytes_840e7 : MV yJ0_getBytes_840e7 cJ0_getBytes_840e7 4 none 3 := ⟨m_4_62, by decide +kernel, m_1_7, ⟨by decide +kernel, by decide +kernel, by decide +kernel⟩, by decide⟩
theorem mv_J5_ensureCapacityInternal_d00df : MV yJ5_ensureCapacityInternal_d00df cJ5_ensureCapacityInternal_d00df 3 none 1 := ⟨m_3_215, by decide +kernel, m_1_5, ⟨by decide +kernel, by decide +kernel, by decide +kernel⟩, by decide⟩
theorem mv_J5_putStringAt_47b60 : MV yJ5_putStringAt_47b60 cJ5_putStringAt_47b60 3 none 2 := ⟨m_4_34, by decide +kernel, m_1_5, ⟨by decide +kernel, by decide +kernel, by decide +kernel⟩, by decide⟩
theorem mv_J5_append_cf1ce : MV yJ5_append_cf1ce cJ5_append_cf1ce 3 (some (.object "java/lang/AbstractStringBuilder")) 1 := ⟨m_3_207, by decide +kernel, m_1_5, ⟨by decide +kernel, by decide +kernel, by decide +kernel⟩, by decide⟩
theorem mv_J4_append_15ec4 : MV yJ4_append_15ec4 cJ4_append_15ec4 2 (some (.object "java/lang/StringBuilder")) 1 := ⟨m_3_204, by decide +kernel, m_1_6, ⟨by decide +kernel, by decide +kernel, by decide +kernel⟩, by decide⟩
theorem sl_RJ4_J5_newCapacity_0f7a4 : Slc RJ4 yJ5_newCapacity_0f7a4 yJ5_newCapacity_0f7a4 1 := ⟨Or.inr ⟨rfl, m_3_217⟩, ⟨_, _, _, m_4_2, rfl⟩, ⟨_, _, _, m_4_2, rfl⟩, Or.inr ⟨m_3_218, _, _, _, m_3_219⟩, m_3_218, ⟨by decide +kernel, by decide +kernel⟩, by decide +kernel⟩
theorem sl_RJ4_J5_inflateIfNeededFor_a7421 : Slc RJ4 yJ5_inflateIfNeededFor_a7421 yJ5_inflateIfNeededFor_a7421 1 := ⟨Or.inr ⟨rfl, m_4_36⟩, ⟨_, _, _, m_4_2, rfl⟩, ⟨_, _, _, m_4_2, rfl⟩, Or.inr ⟨m_4_37, _, _, _, m_4_38⟩, m_4_37, ⟨by decide +kernel, by decide +kernel⟩, by decide +kernel⟩
theorem sl_RJ4_J5_ensureCapacityInternal_d00df : Slc RJ4 yJ5_ensureCapacityInternal_d00df yJ5_ensureCapacityInternal_d00df 1 := ⟨Or.inr ⟨rfl, m_3_213⟩, ⟨_, _, _, m_4_2, rfl⟩, ⟨_, _, _, m_4_2, rfl⟩, Or.inr ⟨m_3_214, _, _, _, m_3_215⟩, m_3_214, ⟨by decide +kernel, by decide +kernel⟩, by decide +kernel⟩
theorem sl_RJ4_J5_putStringAt_47b60 : Slc RJ4 yJ5_putStringAt_47b60 yJ5_putStringAt_47b60 2 := ⟨Or.inr ⟨rfl, m_4_32⟩, ⟨_, _, _, m_4_2, rfl⟩, ⟨_, _, _, m_4_2, rfl⟩, Or.inr ⟨m_4_33, _, _, _, m_4_34⟩, m_4_33, ⟨by decide +kernel, by decide +kernel⟩, by decide +kernel⟩
theorem su_RJ4_J5_append_cf1ce : Sup RJ4 yJ5_append_cf1ce 1 := ⟨m_7_165, m_3_199, m_3_206, by decide +kernel, by decide +kernel⟩
/-! STRINGBUILDER grows and takes texts -/
theorem va_S.puts {A : Nat → Prop} {H0 H H1 : Heap} {locs L : List Loc} {a : Nat} (h : va_S A H0 H locs) (z : H1.size = H.size) (oq : ∀ q : Nat, q ≠ a → H1[q]? = H[q]?) (hL : ∀ x ∈ L, x.base = a) (ha : A a) : va_S A H0 H1 (locs ++ L) := ⟨by rw [z]; exact h.1, fun q h1 h2 => by rw [oq q (fun e => h2 (by rw [e]; exact ha))]; exact h.2.1 q h1 h2, fun x hx => by
  rcases List.mem_append.mp hx with h3 | h3
  · exact h.2.2 x h3
  · rw [hL x h3]; exact ha⟩
theorem ishr0 (x : Int32) : ishr x 0 = x := shr0 x
theorem ishl0 (x : Int32) : ishl x 0 = x := by
  show x <<< ((0 : Int32) &&& 31) = x
  rw [show ((0 : Int32) &&& 31) = 0 from by decide]
  apply Int32.toBitVec_inj.mp
  simp [Int32.toBitVec_shiftLeft]
theorem nI_subI {a b : Nat} (ha : a < 2 ^ 31) (hb : b < 2 ^ 31) : (nI a - nI b).toInt = (a : Int) - b := by
  rw [Int32.toInt_sub, nI_toInt ha, nI_toInt hb]
  exact Int.bmod_eq_of_le (by omega) (by omega)
theorem nI_sub {a b : Nat} (h : b ≤ a) (ha : a < 2 ^ 31) : nI a - nI b = nI (a - b) := by
  apply Int32.toInt_inj.mp
  rw [nI_subI ha (by omega), nI_toInt (by omega)]
  omega
theorem nI_subLe {a b : Nat} (h : a ≤ b) (hb : b < 2 ^ 31) : nI a - nI b ≤ 0 := by
  rw [Int32.le_iff_toInt_le, nI_subI (by omega) hb]
  show _ ≤ (0 : Int)
  omega
theorem nI_subGt {a b : Nat} (h : b < a) (ha : a < 2 ^ 31) : ¬ nI a - nI b ≤ 0 := by
  rw [Int32.le_iff_toInt_le, nI_subI ha (by omega)]
  show ¬ _ ≤ (0 : Int)
  omega
def bfit (f : Nat → Int32) : Prop := ∀ i, fits .byte (.int (f i)) = true
def agr (f : Nat → Int32) (t : List Nat) : Prop := ∀ i, i < t.length → f i = tB t i
theorem bfit0 : bfit fun _ => 0 := fun _ => rfl
theorem bfit.cpy {f g : Nat → Int32} (hf : bfit f) (hg : bfit g) (sp dp n : Nat) : bfit (va_cpy f g sp dp n) := fun i => by
  unfold va_cpy
  split
  · exact hf _
  · exact hg _
theorem bfit.tB {t : List Nat} (h : asc t) : bfit (tB t) := fun i => (ch_all _ (h i)).2.2.1
theorem cpy_old {f g : Nat → Int32} {sp dp n i : Nat} (h : i < dp ∨ dp + n ≤ i) : va_cpy f g sp dp n i = g i := if_neg (by omega)
theorem cpy_new {f g : Nat → Int32} {sp dp n i : Nat} (h : dp ≤ i ∧ i < dp + n) : va_cpy f g sp dp n i = f (sp + (i - dp)) := if_pos h
theorem agr.app {f : Nat → Int32} {t u : List Nat} (h : agr f t) : agr (va_cpy (tB u) f 0 t.length u.length) (t ++ u) := fun i hi => by
  rw [List.length_append] at hi
  by_cases c : i < t.length
  · rw [cpy_old (Or.inl c), h i c]
    unfold tB
    rw [List.getD_eq_getElem?_getD, List.getD_eq_getElem?_getD, List.getElem?_append_left c]
  · rw [cpy_new ⟨by omega, by omega⟩]
    unfold tB
    rw [List.getD_eq_getElem?_getD, List.getD_eq_getElem?_getD, List.getElem?_append_right (by omega), Nat.zero_add]
abbrev SBc (G : Gt) (b v cap n : Nat) (f : Nat → Int32) (H : Heap) : Prop := va_at (gDD G) vwCl (b, .inr (13, [.ref v, .int 0, .int 0, .int (nI n)])) H ∧ va_at (gDD G) vwCl (v, .inl (gty G 7, cap, .inl f)) H
/-- a StringBuilder b that holds the text t, its bytes at v -/
def SBs (G : Gt) (b v : Nat) (t : List Nat) (H : Heap) : Prop := ∃ f cap, SBc G b v cap t.length f H ∧ agr f t ∧ bfit f ∧ t.length ≤ cap ∧ cap ≤ 2 * t.length + 64
theorem SBs.kept {G : Gt} {b v : Nat} {t : List Nat} {H H1 : Heap} (h : SBs G b v t H) (hb : H1[b]? = H[b]?) (hv : H1[v]? = H[v]?) : SBs G b v t H1 := by
  obtain ⟨f, cap, ⟨h1, h2⟩, h3⟩ := h
  exact ⟨f, cap, ⟨h1.kept hb, h2.kept hv⟩, h3⟩
theorem SBs.obj {G : Gt} {b v : Nat} {t : List Nat} {H : Heap} (h : SBs G b v t H) : va_at (gDD G) vwCl (b, .inr (13, [.ref v, .int 0, .int 0, .int (nI t.length)])) H := by
  obtain ⟨f, cap, ⟨h1, h2⟩, h3⟩ := h
  exact h1
theorem SBs.lt {G : Gt} {b v : Nat} {t : List Nat} {H : Heap} (h : SBs G b v t H) : b < H.size ∧ v < H.size := by
  obtain ⟨f, cap, ⟨h1, h2⟩, h3⟩ := h
  exact ⟨h1.lt, h2.lt⟩
theorem met_Ha {G : Gt} {l : Launch} {cc : ByteArray} {h maxL sz mc ms : Nat} {y : MethodName} {ret : Option FieldType} {av : List Value} {Pf : State → Prop} {Qf : Option Value → Heap → Prop} {fr : Nat → Prop} (hy : plainFor y = true) (hlen : (lg_sl av).length ≤ maxL) {rt : FieldType} (hret : ret = some rt) (hrt : (∃ n, rt = .object n) ∨ ∃ t, rt = .array t)
    (body : ∀ (p : Program) (e : Env) (s : State) (m : MethodId) (args : Array Value) (below : List Frame) (meth : Method) (c : Code) (Q : State → Prop) (ls : Array Slot), Cx G p (rmC h mc ms) s m args c 0 0 cc maxL y.cls h → meth.name = y.name → s.heap.size = sz → Pf s → (∀ w : Nat, R_H p l e (rmC h mc ms) s m args below meth c cc Q (frA fr sz) mc ms Qf .areturn (some (.ref w))) → lv_has ls maxL (lv_args 0 av) → W p l e (rmC h mc ms) s m args below meth c s.heap [] 0 0 Q (F0 m 0 ls [])) :
    CtH G l y cc maxL ret h mc ms av sz fr Pf Qf := by
  refine va_MetF (cc := cc) (maxL := maxL) (ret := ret) hy rfl ?_
  intro p e s m args below meth c s₁ B hml hv
  obtain ⟨rfl, htb, hE, hz, hP⟩ := hv
  have X : Cx G p (rmC h mc ms) s m av.toArray c 0 0 cc maxL y.cls h := ⟨⟨B.exec, B.bytes, hml, findClass_of_methodNamed B.named, TB_warm (State.WarmedH.refl s) htb⟩, hE, Nat.le_refl _, Nat.le_refl _, Nat.zero_le _, Nat.zero_le _⟩
  have hl := lv_entry av (n := maxL) hlen
  rw [lg_entry_eq]
  generalize (lg_sl av ++ List.replicate (maxL - (lg_sl av).length) Slot.unset).toArray = ls at hl ⊢
  have hlocks := B.notSynchronized
  refine body p e s m av.toArray below meth c _ ls X (name_of_methodNamed B.named B.method).1 hz hP ?_ hl
  intro w pc H locs ls1 cells slots hd hq hS hc hs
  refine W.widen hc hs ?_
  exact W.aret X.1.1 X.1.2.1 (B.returns.trans hret) hrt (Or.inr ⟨_, rfl⟩) (fun t ht hw => ⟨_, rfl, by rw [ht]; exact hq, hS.F ht⟩) hS.2.2 hd hlocks

set_option maxHeartbeats 2000000 in
theorem cp_max_0 {G : Gt} {l : Launch} {a b : Nat} (hab : b ≤ a) (ha2 : a < 2 ^ 31) (hb2 : b < 2 ^ 31) {Pf : State → Prop} : CtP G l yJ9_max_7cf53 cJ9_max_7cf53 2 (some .int) 1 [.int (nI a), .int (nI b)] Pf (some (.int (nI a))) := by
  refine met_P (by decide +kernel) (Nat.le_of_ble_eq_true rfl) ⟨.int, rfl, rfl⟩ ?_
  intro p e s m args below meth c Q ls X hP hr hl
  have hx := X.1.1
  have hb := X.1.2.1
  have hA : ∀ q, q < s.heap.size → (fun _ : Nat => False) q → gA G q := fun q _ h9 => h9.elim
  have hS : va_S (fun _ => False) s.heap s.heap [] := va_S.rf
  have hl : lv_has ls 2 [(0, .int (nI a)), (1, .int (nI b))] := hl
  refine lv_iload_n hx hb dJ9_max_7cf53_0 rfl (lv_at hl 0 rfl) ?_
  refine lv_iload_n hx hb dJ9_max_7cf53_1 rfl (lv_at hl 1 rfl) ?_
  refine lv_icmp_lt (tgt := 9) hx hb dJ9_max_7cf53_2 (by decide) (fun hc => absurd hc (nI_nlt (by omega) ha2)) (fun _ => ?_)
  refine lv_iload_n hx hb dJ9_max_7cf53_5 rfl (lv_at hl 0 rfl) ?_
  refine lv_goto (tgt := 10) hx hb dJ9_max_7cf53_6 (by decide) ?_
  exact hr _ _ dJ9_max_7cf53_10
set_option maxHeartbeats 2000000 in
theorem cp_max_1 {G : Gt} {l : Launch} {a b : Nat} (hab : a < b) (ha2 : a < 2 ^ 31) (hb2 : b < 2 ^ 31) {Pf : State → Prop} : CtP G l yJ9_max_7cf53 cJ9_max_7cf53 2 (some .int) 1 [.int (nI a), .int (nI b)] Pf (some (.int (nI b))) := by
  refine met_P (by decide +kernel) (Nat.le_of_ble_eq_true rfl) ⟨.int, rfl, rfl⟩ ?_
  intro p e s m args below meth c Q ls X hP hr hl
  have hx := X.1.1
  have hb := X.1.2.1
  have hA : ∀ q, q < s.heap.size → (fun _ : Nat => False) q → gA G q := fun q _ h9 => h9.elim
  have hS : va_S (fun _ => False) s.heap s.heap [] := va_S.rf
  have hl : lv_has ls 2 [(0, .int (nI a)), (1, .int (nI b))] := hl
  refine lv_iload_n hx hb dJ9_max_7cf53_0 rfl (lv_at hl 0 rfl) ?_
  refine lv_iload_n hx hb dJ9_max_7cf53_1 rfl (lv_at hl 1 rfl) ?_
  refine lv_icmp_lt (tgt := 9) hx hb dJ9_max_7cf53_2 (by decide) (fun _ => ?_) (fun hc => absurd (nI_lt (by omega) hb2) hc)
  refine lv_iload_n hx hb dJ9_max_7cf53_9 rfl (lv_at hl 1 rfl) ?_
  exact hr _ _ dJ9_max_7cf53_10
theorem cp_max {G : Gt} {l : Launch} {a b : Nat} (ha2 : a < 2 ^ 31) (hb2 : b < 2 ^ 31) {Pf : State → Prop} : CtP G l yJ9_max_7cf53 cJ9_max_7cf53 2 (some .int) 1 [.int (nI a), .int (nI b)] Pf (some (.int (nI (max a b)))) := by
  by_cases c : a < b
  · rw [show max a b = b from by omega]; exact cp_max_1 c ha2 hb2
  · rw [show max a b = a from by omega]; exact cp_max_0 (by omega) ha2 hb2
theorem nI_gt {a b : Nat} (h : b < a) (ha : a < 2 ^ 31) : nI a > nI b := nI_lt h ha
theorem nI_ngt {a b : Nat} (h : a ≤ b) (hb : b < 2 ^ 31) : ¬ nI a > nI b := nI_nlt h hb
set_option maxHeartbeats 2000000 in
theorem cp_min_0 {G : Gt} {l : Launch} {a b : Nat} (hab : a ≤ b) (ha2 : a < 2 ^ 31) (hb2 : b < 2 ^ 31) {Pf : State → Prop} : CtP G l yJ9_min_7cf53 cJ9_min_7cf53 2 (some .int) 1 [.int (nI a), .int (nI b)] Pf (some (.int (nI a))) := by
  refine met_P (by decide +kernel) (Nat.le_of_ble_eq_true rfl) ⟨.int, rfl, rfl⟩ ?_
  intro p e s m args below meth c Q ls X hP hr hl
  have hx := X.1.1
  have hb := X.1.2.1
  have hA : ∀ q, q < s.heap.size → (fun _ : Nat => False) q → gA G q := fun q _ h9 => h9.elim
  have hS : va_S (fun _ => False) s.heap s.heap [] := va_S.rf
  have hl : lv_has ls 2 [(0, .int (nI a)), (1, .int (nI b))] := hl
  refine lv_iload_n hx hb dJ9_min_7cf53_0 rfl (lv_at hl 0 rfl) ?_
  refine lv_iload_n hx hb dJ9_min_7cf53_1 rfl (lv_at hl 1 rfl) ?_
  refine lv_icmp_gt (tgt := 9) hx hb dJ9_min_7cf53_2 (by decide) (fun hc => absurd hc (nI_ngt (by omega) hb2)) (fun _ => ?_)
  refine lv_iload_n hx hb dJ9_min_7cf53_5 rfl (lv_at hl 0 rfl) ?_
  refine lv_goto (tgt := 10) hx hb dJ9_min_7cf53_6 (by decide) ?_
  exact hr _ _ dJ9_min_7cf53_10
set_option maxHeartbeats 2000000 in
theorem cp_min_1 {G : Gt} {l : Launch} {a b : Nat} (hab : b < a) (ha2 : a < 2 ^ 31) (hb2 : b < 2 ^ 31) {Pf : State → Prop} : CtP G l yJ9_min_7cf53 cJ9_min_7cf53 2 (some .int) 1 [.int (nI a), .int (nI b)] Pf (some (.int (nI b))) := by
  refine met_P (by decide +kernel) (Nat.le_of_ble_eq_true rfl) ⟨.int, rfl, rfl⟩ ?_
  intro p e s m args below meth c Q ls X hP hr hl
  have hx := X.1.1
  have hb := X.1.2.1
  have hA : ∀ q, q < s.heap.size → (fun _ : Nat => False) q → gA G q := fun q _ h9 => h9.elim
  have hS : va_S (fun _ => False) s.heap s.heap [] := va_S.rf
  have hl : lv_has ls 2 [(0, .int (nI a)), (1, .int (nI b))] := hl
  refine lv_iload_n hx hb dJ9_min_7cf53_0 rfl (lv_at hl 0 rfl) ?_
  refine lv_iload_n hx hb dJ9_min_7cf53_1 rfl (lv_at hl 1 rfl) ?_
  refine lv_icmp_gt (tgt := 9) hx hb dJ9_min_7cf53_2 (by decide) (fun _ => ?_) (fun hc => absurd (nI_gt (by omega) ha2) hc)
  refine lv_iload_n hx hb dJ9_min_7cf53_9 rfl (lv_at hl 1 rfl) ?_
  exact hr _ _ dJ9_min_7cf53_10
theorem cp_min {G : Gt} {l : Launch} {a b : Nat} (ha2 : a < 2 ^ 31) (hb2 : b < 2 ^ 31) {Pf : State → Prop} : CtP G l yJ9_min_7cf53 cJ9_min_7cf53 2 (some .int) 1 [.int (nI a), .int (nI b)] Pf (some (.int (nI (min a b)))) := by
  by_cases c : b < a
  · rw [show min a b = b from by omega]; exact cp_min_1 c ha2 hb2
  · rw [show min a b = a from by omega]; exact cp_min_0 (by omega) ha2 hb2
set_option maxHeartbeats 2000000 in
theorem cp_newLength {G : Gt} {l : Launch} {a b c0 : Nat} (h : a + max b c0 < 2147483639) (hp : 0 < a + max b c0) {Pf : State → Prop} : CtP G l yJ8_newLength_cabcc cJ8_newLength_cabcc 4 (some .int) 2 [.int (nI a), .int (nI b), .int (nI c0)] Pf (some (.int (nI (a + max b c0)))) := by
  refine met_P (by decide +kernel) (Nat.le_of_ble_eq_true rfl) ⟨.int, rfl, rfl⟩ ?_
  intro p e s m args below meth c Q ls X hP hr hl
  have hx := X.1.1
  have hb := X.1.2.1
  have hA : ∀ q, q < s.heap.size → (fun _ : Nat => False) q → gA G q := fun q _ h9 => h9.elim
  have hS : va_S (fun _ => False) s.heap s.heap [] := va_S.rf
  have hl : lv_has ls 4 [(0, .int (nI a)), (1, .int (nI b)), (2, .int (nI c0))] := hl
  refine lv_iload_n hx hb dJ8_newLength_cabcc_0 rfl (lv_at hl 0 rfl) ?_
  refine lv_iload_n hx hb dJ8_newLength_cabcc_1 rfl (lv_at hl 1 rfl) ?_
  refine lv_iload_n hx hb dJ8_newLength_cabcc_2 rfl (lv_at hl 2 rfl) ?_
  refine callP_S (As := [.int (nI b), .int (nI c0)]) X hS hA (Mv.true) (fun U hU hv => trivial) m_3_223 m_2_212 mv_J9_max_7cf53 (cp_max (Pf := fun _ => True) (by omega) (by omega)) (by decide) rfl rfl (Nat.le_of_ble_eq_true rfl) hl.1 dJ8_newLength_cabcc_3 (Nat.le_refl _) (Nat.le_refl _) ?_
  refine lv_iadd hx hb dJ8_newLength_cabcc_6 ?_
  refine lv_to (y := nI (a + max b c0)) (nI_add _ _) ?_
  refine lv_istore_n (lv' := [(3, .int (nI (a + max b c0))), (0, .int (nI a)), (1, .int (nI b)), (2, .int (nI c0))]) hx hb dJ8_newLength_cabcc_7 rfl hl (by decide) rfl ?_
  clear hl; intro ls hl
  refine lv_iconst (v := 0) hx hb dJ8_newLength_cabcc_8 (by decide) ?_
  refine lv_iload_n hx hb dJ8_newLength_cabcc_9 rfl (lv_at hl 0 rfl) ?_
  refine lv_icmp_ge (tgt := 21) hx hb dJ8_newLength_cabcc_10 (by decide) (fun hc => absurd hc (by rw [show (0 : Int32) = nI 0 from rfl]; exact nI_ge (by omega) (by omega))) (fun _ => ?_)
  refine lv_iload_n hx hb dJ8_newLength_cabcc_13 rfl (lv_at hl 0 rfl) ?_
  refine lv_ldc (v := 2147483639) hx hb X.1.2.2.2.1 (X.1.2.2.2.2 _ m_3_224) dJ8_newLength_cabcc_14 ?_
  refine lv_icmp_gt (tgt := 21) hx hb dJ8_newLength_cabcc_16 (by decide) (fun hc => absurd hc (nI_ngt (b := 2147483639) (by omega) (by omega))) (fun _ => ?_)
  refine lv_iload_n hx hb dJ8_newLength_cabcc_19 rfl (lv_at hl 0 rfl) ?_
  exact hr _ _ dJ8_newLength_cabcc_20
set_option maxHeartbeats 2000000 in
theorem cp_newCapacity {G : Gt} {l : Launch} {b v cap n m0 : Nat} {f : Nat → Int32} (h : cap < m0) (hm : m0 < 2 ^ 29) : CtP G l yJ5_newCapacity_0f7a4 cJ5_newCapacity_0f7a4 6 (some .int) 3 [.ref b, .int (nI m0)] (fun U => SBc G b v cap n f U.heap) (some (.int (nI (cap + max (m0 - cap) (cap + 2))))) := by
  refine met_P (by decide +kernel) (Nat.le_of_ble_eq_true rfl) ⟨.int, rfl, rfl⟩ ?_
  intro p e s m args below meth c Q ls X hP hr hl
  have hx := X.1.1
  have hb := X.1.2.1
  have hA : ∀ q, q < s.heap.size → (fun _ : Nat => False) q → gA G q := fun q _ h9 => h9.elim
  have hS : va_S (fun _ => False) s.heap s.heap [] := va_S.rf
  have hl : lv_has ls 6 [(0, .ref b), (1, .int (nI m0))] := hl
  obtain ⟨f0, f1⟩ := hP
  refine lv_aload_n hx hb dJ5_newCapacity_0f7a4_0 rfl (lv_at hl 0 rfl) ?_
  refine p_get (T := TJ4) (N := 4) (k := 0) X f0 inTB_SB rfl (by decide) m_3_187 rfl dJ5_newCapacity_0f7a4_1 ?_
  refine p_alen (t := 7) X f1 rfl dJ5_newCapacity_0f7a4_4 ?_
  refine lv_istore_n (lv' := [(2, .int (nI cap)), (0, .ref b), (1, .int (nI m0))]) hx hb dJ5_newCapacity_0f7a4_5 rfl hl (by decide) rfl ?_
  clear hl; intro ls hl
  refine lv_iload_n hx hb dJ5_newCapacity_0f7a4_6 rfl (lv_at hl 2 rfl) ?_
  refine lv_aload_n hx hb dJ5_newCapacity_0f7a4_7 rfl (lv_at hl 1 rfl) ?_
  refine p_get (T := TJ4) (N := 4) (k := 1) X f0 inTB_SB rfl (by decide) m_3_188 rfl dJ5_newCapacity_0f7a4_8 ?_
  refine w_ishl hx hb dJ5_newCapacity_0f7a4_11 ?_
  refine lv_to (y := nI m0) (ishl0 _) ?_
  refine lv_istore_n (lv' := [(3, .int (nI m0)), (2, .int (nI cap)), (0, .ref b), (1, .int (nI m0))]) hx hb dJ5_newCapacity_0f7a4_12 rfl hl (by decide) rfl ?_
  clear hl; intro ls hl
  refine lv_iload_n hx hb dJ5_newCapacity_0f7a4_13 rfl (lv_at hl 0 rfl) ?_
  refine lv_iload_n hx hb dJ5_newCapacity_0f7a4_14 rfl (lv_at hl 1 rfl) ?_
  refine lv_isub hx hb dJ5_newCapacity_0f7a4_15 ?_
  refine lv_to (y := nI (m0 - cap)) (nI_sub (by omega) (by omega)) ?_
  refine lv_istore (lv' := [(4, .int (nI (m0 - cap))), (3, .int (nI m0)), (2, .int (nI cap)), (0, .ref b), (1, .int (nI m0))]) hx hb dJ5_newCapacity_0f7a4_16 hl (by decide) rfl ?_
  clear hl; intro ls hl
  refine lv_iload_n hx hb dJ5_newCapacity_0f7a4_18 rfl (lv_at hl 2 rfl) ?_
  refine lv_iload hx hb dJ5_newCapacity_0f7a4_19 (lv_at hl 0 rfl) ?_
  refine lv_iload_n hx hb dJ5_newCapacity_0f7a4_21 rfl (lv_at hl 2 rfl) ?_
  refine lv_iconst (v := 2) hx hb dJ5_newCapacity_0f7a4_22 (by decide) ?_
  refine lv_aload_n hx hb dJ5_newCapacity_0f7a4_23 rfl (lv_at hl 3 rfl) ?_
  refine p_get (T := TJ4) (N := 4) (k := 1) X f0 inTB_SB rfl (by decide) m_3_188 rfl dJ5_newCapacity_0f7a4_24 ?_
  refine w_ishl hx hb dJ5_newCapacity_0f7a4_27 ?_
  refine lv_to (y := 2) (by decide +kernel) ?_
  refine lv_iadd hx hb dJ5_newCapacity_0f7a4_28 ?_
  refine lv_to (y := nI (cap + 2)) (nI_add cap 2) ?_
  refine callP_S (As := [.int (nI cap), .int (nI (m0 - cap)), .int (nI (cap + 2))]) X hS hA (Mv.true) (fun U hU hv => trivial) m_3_220 m_3_221 mv_J8_newLength_cabcc (cp_newLength (Pf := fun _ => True) (by omega) (by omega)) (by decide) rfl rfl (Nat.le_of_ble_eq_true rfl) hl.1 dJ5_newCapacity_0f7a4_29 (Nat.le_refl _) (Nat.le_refl _) ?_
  refine lv_istore (lv' := [(5, .int (nI (cap + max (m0 - cap) (cap + 2)))), (4, .int (nI (m0 - cap))), (3, .int (nI m0)), (2, .int (nI cap)), (0, .ref b), (1, .int (nI m0))]) hx hb dJ5_newCapacity_0f7a4_32 hl (by decide) rfl ?_
  clear hl; intro ls hl
  refine lv_iload hx hb dJ5_newCapacity_0f7a4_34 (lv_at hl 0 rfl) ?_
  refine lv_ldc (v := 2147483647) hx hb X.1.2.2.2.1 (X.1.2.2.2.2 _ m_3_228) dJ5_newCapacity_0f7a4_36 ?_
  refine lv_icmp_ne (tgt := 51) hx hb dJ5_newCapacity_0f7a4_38 (by decide) (fun _ => ?_) (fun hc => absurd hc (fun h9 => by rw [show (2147483647 : Int32) = nI 2147483647 from rfl, nI_eq (by omega) (by omega)] at h9; omega))
  refine lv_iload hx hb dJ5_newCapacity_0f7a4_51 (lv_at hl 0 rfl) ?_
  refine lv_aload_n hx hb dJ5_newCapacity_0f7a4_53 rfl (lv_at hl 4 rfl) ?_
  refine p_get (T := TJ4) (N := 4) (k := 1) X f0 inTB_SB rfl (by decide) m_3_188 rfl dJ5_newCapacity_0f7a4_54 ?_
  refine w_ishr hx hb dJ5_newCapacity_0f7a4_57 ?_
  refine lv_to (y := nI (cap + max (m0 - cap) (cap + 2))) (ishr0 _) ?_
  exact hr _ _ dJ5_newCapacity_0f7a4_58
set_option maxHeartbeats 2000000 in
theorem ch_copyOf {G : Gt} {l : Launch} {v cap k sz : Nat} {f : Nat → Int32} (hG : AllA G) (hf : bfit f) (h : cap < k) (hk : k < 2 ^ 29) : CtH G l yJ7_copyOf_9075b cJ7_copyOf_9075b 3 (some (.array .byte)) 2 1 (k) [.ref v, .int (nI k)] sz (fun _ => False) (fun U => va_at (gDD G) vwCl (v, .inl (gty G 7, cap, .inl f)) U.heap) (fun ov H => ∃ w, ov = some (.ref w) ∧ sz ≤ w ∧ va_at (gDD G) vwCl (w, .inl (gty G 7, k, .inl (va_cpy f (fun _ => 0) 0 0 cap))) H) := by
  refine met_Ha (by decide +kernel) (Nat.le_of_ble_eq_true rfl) rfl (Or.inr ⟨_, rfl⟩) ?_
  intro p e s m args below meth c Q ls X hnm hsz hP hr hl
  have hx := X.1.1
  have hb := X.1.2.1
  have hgz : gz G ≤ sz := by rw [← hsz]; exact X.2.1.2.1
  have hA : ∀ q, q < s.heap.size → frA (fun _ => False) sz q → gA G q := fun q h8 h9 => hG q (by simp only [frA, false_or] at h9; omega)
  have hS : va_S (frA (fun _ => False) sz) s.heap s.heap [] := va_S.rf
  have hl : lv_has ls 3 [(0, .ref v), (1, .int (nI k))] := hl
  have f1 := hP
  refine lv_iload_n hx hb dJ7_copyOf_9075b_0 rfl (lv_at hl 1 rfl) ?_
  refine lv_aload_n hx hb dJ7_copyOf_9075b_1 rfl (lv_at hl 0 rfl) ?_
  refine p_alen (t := 7) X f1 rfl dJ7_copyOf_9075b_2 ?_
  refine lv_icmp_ne (tgt := 14) hx hb dJ7_copyOf_9075b_3 (by decide) (fun _ => ?_) (fun hc => absurd hc (fun h9 => by rw [nI_eq (by omega) (by omega)] at h9; omega))
  refine lv_iload_n hx hb dJ7_copyOf_9075b_14 rfl (lv_at hl 1 rfl) ?_
  refine p_newa (atype := .byte) (ty := .byte) (t := 7) (N := k) (a0 := (k, .inl (fun _ => 0))) X m_3_200 rfl rfl (fun _ h => by cases h) rfl (nI_pos (by omega)) (nI_clamp (by omega)) (by show _ * 1 ≤ _; omega) (by show _ ≤ _; simp only [rmC]; omega) (by show _ ≤ _; simp only [rmC]; omega) dJ7_copyOf_9075b_15 fun H2 nH2 zH2 oH2 => ?_
  have lq1_f1_0 := f1.lt
  have lq1_0 := hS.1
  replace f1 := f1.kept (oH2 _ lq1_f1_0)
  replace hS := hS.new zH2 oH2
  clear oH2
  generalize hq_q1 : Array.size _ = q1 at nH2 zH2 lq1_0 lq1_f1_0 ⊢
  have fa3 : va_at (gDD G) vwCl (q1, .inl (gty G 7, k, .inl (fun _ => 0))) H2 := nH2
  clear nH2
  refine lv_astore_n (lv' := [(2, .ref q1), (0, .ref v), (1, .int (nI k))]) hx hb dJ7_copyOf_9075b_17 rfl hl (by decide) rfl ?_
  clear hl; intro ls hl
  refine lv_aload_n hx hb dJ7_copyOf_9075b_18 rfl (lv_at hl 1 rfl) ?_
  refine lv_iconst (v := 0) hx hb dJ7_copyOf_9075b_19 (by decide) ?_
  refine lv_aload_n hx hb dJ7_copyOf_9075b_20 rfl (lv_at hl 0 rfl) ?_
  refine lv_iconst (v := 0) hx hb dJ7_copyOf_9075b_21 (by decide) ?_
  refine lv_aload_n hx hb dJ7_copyOf_9075b_22 rfl (lv_at hl 1 rfl) ?_
  refine p_alen (t := 7) X f1 rfl dJ7_copyOf_9075b_23 ?_
  refine lv_iload_n hx hb dJ7_copyOf_9075b_24 rfl (lv_at hl 2 rfl) ?_
  refine callP_S (As := [.int (nI cap), .int (nI k)]) X hS hA (Mv.true) (fun U hU hv => trivial) m_3_237 m_2_227 mv_J9_min_7cf53 (cp_min (Pf := fun _ => True) (by omega) (by omega)) (by decide) rfl rfl (Nat.le_of_ble_eq_true rfl) hl.1 dJ7_copyOf_9075b_25 (by show _ ≤ _; simp only [rmC]; omega) (by show _ ≤ _; simp only [rmC]; omega) ?_
  refine lv_to (y := nI cap) (by rw [show min cap k = cap from by omega]) ?_
  refine p_copyT (sp := 0) (dp := 0) (n := cap) X (va_T_of X.2.1.1 f1) fa3 (by omega) (by omega) (by omega) (by omega) (fun i _ => hf _) m_3_238 (by decide) (Nat.le_of_ble_eq_true rfl) hl.1 dJ7_copyOf_9075b_28 fun H4 LH4 nH4 zH4 oH4 xH4 => ?_
  replace f1 := f1.kept (oH4 _ (by omega))
  replace hS := va_S.puts hS zH4 oH4 xH4 (Or.inr (by omega))
  replace fa3 : va_at (gDD G) vwCl (q1, .inl (gty G 7, k, .inl (va_cpy f (fun _ => 0) 0 0 cap))) H4 := nH4
  clear zH4 oH4
  refine lv_aload_n hx hb dJ7_copyOf_9075b_31 rfl (lv_at hl 0 rfl) ?_
  exact hr _ _ _ _ _ _ _ dJ7_copyOf_9075b_32 ⟨_, rfl, by omega, fa3⟩ hS (by omega) (by omega)
set_option maxHeartbeats 2000000 in
theorem ch_ensA {G : Gt} {l : Launch} {b v cap n m0 sz : Nat} {f : Nat → Int32} (hG : AllA G) (hgb : gz G ≤ b) (hgv : gz G ≤ v) (hf : bfit f) (hm : m0 < 2 ^ 28) (hc : cap < 2 ^ 28) (h : m0 ≤ cap) : CtH G l yJ5_ensureCapacityInternal_d00df cJ5_ensureCapacityInternal_d00df 3 none 4 1 (2 * m0) [.ref b, .int (nI m0)] sz (fun q => q = b ∨ q = v) (fun U => SBc G b v cap n f U.heap) (fun ov H => ov = none ∧ ∃ v1 cap1 f1, SBc G b v1 cap1 n f1 H ∧ (v1 = v ∨ sz ≤ v1) ∧ m0 ≤ cap1 ∧ cap1 ≤ max cap (2 * m0) ∧ (∀ i, i < cap → f1 i = f i) ∧ bfit f1) := by
  refine met_H (by decide +kernel) (Nat.le_of_ble_eq_true rfl) .return_ (Or.inl ⟨rfl, rfl, rfl⟩) ?_
  intro p e s m args below meth c Q ls X hnm hsz hP hr hl
  have hx := X.1.1
  have hb := X.1.2.1
  have hgz : gz G ≤ sz := by rw [← hsz]; exact X.2.1.2.1
  have hA : ∀ q, q < s.heap.size → frA (fun q => q = b ∨ q = v) sz q → gA G q := fun q h8 h9 => hG q (by simp only [frA, false_or] at h9; omega)
  have hS : va_S (frA (fun q => q = b ∨ q = v) sz) s.heap s.heap [] := va_S.rf
  have hl : lv_has ls 3 [(0, .ref b), (1, .int (nI m0))] := hl
  obtain ⟨f0, f1⟩ := hP
  refine lv_aload_n hx hb dJ5_ensureCapacityInternal_d00df_0 rfl (lv_at hl 0 rfl) ?_
  refine p_get (T := TJ4) (N := 4) (k := 0) X f0 inTB_SB rfl (by decide) m_3_187 rfl dJ5_ensureCapacityInternal_d00df_1 ?_
  refine p_alen (t := 7) X f1 rfl dJ5_ensureCapacityInternal_d00df_4 ?_
  refine lv_aload_n hx hb dJ5_ensureCapacityInternal_d00df_5 rfl (lv_at hl 0 rfl) ?_
  refine p_get (T := TJ4) (N := 4) (k := 1) X f0 inTB_SB rfl (by decide) m_3_188 rfl dJ5_ensureCapacityInternal_d00df_6 ?_
  refine w_ishr hx hb dJ5_ensureCapacityInternal_d00df_9 ?_
  refine lv_to (y := nI cap) (ishr0 _) ?_
  refine lv_istore_n (lv' := [(2, .int (nI cap)), (0, .ref b), (1, .int (nI m0))]) hx hb dJ5_ensureCapacityInternal_d00df_10 rfl hl (by decide) rfl ?_
  clear hl; intro ls hl
  refine lv_iload_n hx hb dJ5_ensureCapacityInternal_d00df_11 rfl (lv_at hl 2 rfl) ?_
  refine lv_iload_n hx hb dJ5_ensureCapacityInternal_d00df_12 rfl (lv_at hl 0 rfl) ?_
  refine lv_isub hx hb dJ5_ensureCapacityInternal_d00df_13 ?_
  refine lv_if_le (tgt := 38) hx hb dJ5_ensureCapacityInternal_d00df_14 (by decide) (fun _ => ?_) (fun hc => absurd (nI_subLe (by omega) (by omega)) hc)
  exact hr _ _ _ _ _ _ dJ5_ensureCapacityInternal_d00df_38 ⟨rfl, v, cap, f, ⟨f0, f1⟩, Or.inl rfl, by omega, by omega, fun _ _ => rfl, hf⟩ hS (by omega) (by omega)
set_option maxHeartbeats 2000000 in
theorem ch_ensB {G : Gt} {l : Launch} {b v cap n m0 sz : Nat} {f : Nat → Int32} (hG : AllA G) (hgb : gz G ≤ b) (hgv : gz G ≤ v) (hf : bfit f) (hm : m0 < 2 ^ 28) (hc : cap < 2 ^ 28) (h : cap < m0) : CtH G l yJ5_ensureCapacityInternal_d00df cJ5_ensureCapacityInternal_d00df 3 none 4 1 (2 * m0) [.ref b, .int (nI m0)] sz (fun q => q = b ∨ q = v) (fun U => SBc G b v cap n f U.heap) (fun ov H => ov = none ∧ ∃ v1 cap1 f1, SBc G b v1 cap1 n f1 H ∧ (v1 = v ∨ sz ≤ v1) ∧ m0 ≤ cap1 ∧ cap1 ≤ max cap (2 * m0) ∧ (∀ i, i < cap → f1 i = f i) ∧ bfit f1) := by
  refine met_H (by decide +kernel) (Nat.le_of_ble_eq_true rfl) .return_ (Or.inl ⟨rfl, rfl, rfl⟩) ?_
  intro p e s m args below meth c Q ls X hnm hsz hP hr hl
  have hx := X.1.1
  have hb := X.1.2.1
  have hgz : gz G ≤ sz := by rw [← hsz]; exact X.2.1.2.1
  have hA : ∀ q, q < s.heap.size → frA (fun q => q = b ∨ q = v) sz q → gA G q := fun q h8 h9 => hG q (by simp only [frA, false_or] at h9; omega)
  have hS : va_S (frA (fun q => q = b ∨ q = v) sz) s.heap s.heap [] := va_S.rf
  have hl : lv_has ls 3 [(0, .ref b), (1, .int (nI m0))] := hl
  obtain ⟨f0, f1⟩ := hP
  refine lv_aload_n hx hb dJ5_ensureCapacityInternal_d00df_0 rfl (lv_at hl 0 rfl) ?_
  refine p_get (T := TJ4) (N := 4) (k := 0) X f0 inTB_SB rfl (by decide) m_3_187 rfl dJ5_ensureCapacityInternal_d00df_1 ?_
  refine p_alen (t := 7) X f1 rfl dJ5_ensureCapacityInternal_d00df_4 ?_
  refine lv_aload_n hx hb dJ5_ensureCapacityInternal_d00df_5 rfl (lv_at hl 0 rfl) ?_
  refine p_get (T := TJ4) (N := 4) (k := 1) X f0 inTB_SB rfl (by decide) m_3_188 rfl dJ5_ensureCapacityInternal_d00df_6 ?_
  refine w_ishr hx hb dJ5_ensureCapacityInternal_d00df_9 ?_
  refine lv_to (y := nI cap) (ishr0 _) ?_
  refine lv_istore_n (lv' := [(2, .int (nI cap)), (0, .ref b), (1, .int (nI m0))]) hx hb dJ5_ensureCapacityInternal_d00df_10 rfl hl (by decide) rfl ?_
  clear hl; intro ls hl
  refine lv_iload_n hx hb dJ5_ensureCapacityInternal_d00df_11 rfl (lv_at hl 2 rfl) ?_
  refine lv_iload_n hx hb dJ5_ensureCapacityInternal_d00df_12 rfl (lv_at hl 0 rfl) ?_
  refine lv_isub hx hb dJ5_ensureCapacityInternal_d00df_13 ?_
  refine lv_if_le (tgt := 38) hx hb dJ5_ensureCapacityInternal_d00df_14 (by decide) (fun hc => absurd hc (nI_subGt (by omega) (by omega))) (fun _ => ?_)
  refine lv_aload_n hx hb dJ5_ensureCapacityInternal_d00df_17 rfl (lv_at hl 1 rfl) ?_
  refine lv_aload_n hx hb dJ5_ensureCapacityInternal_d00df_18 rfl (lv_at hl 1 rfl) ?_
  refine p_get (T := TJ4) (N := 4) (k := 0) X f0 inTB_SB rfl (by decide) m_3_187 rfl dJ5_ensureCapacityInternal_d00df_19 ?_
  refine lv_aload_n hx hb dJ5_ensureCapacityInternal_d00df_22 rfl (lv_at hl 1 rfl) ?_
  refine lv_iload_n hx hb dJ5_ensureCapacityInternal_d00df_23 rfl (lv_at hl 2 rfl) ?_
  refine callP_X (As := [.int (nI m0)]) X hS hA (Mv.h _) (fun U hU hv => by rw [hU]; exact ⟨f0, f1⟩) (p_recv X f0 (r := (RJ4, TJ4, 4)) rfl) m_3_216 sl_RJ4_J5_newCapacity_0f7a4 mv_J5_newCapacity_0f7a4 (by decide) (cp_newCapacity (f := f) (n := n) (v := v) (cap := cap) h (by omega)) (by decide) rfl (Nat.le_of_ble_eq_true rfl) hl.1 dJ5_ensureCapacityInternal_d00df_24 (by show _ ≤ _; simp only [rmC]; omega) (by show _ ≤ _; simp only [rmC]; omega) ?_
  refine lv_aload_n hx hb dJ5_ensureCapacityInternal_d00df_27 rfl (lv_at hl 1 rfl) ?_
  refine p_get (T := TJ4) (N := 4) (k := 1) X f0 inTB_SB rfl (by decide) m_3_188 rfl dJ5_ensureCapacityInternal_d00df_28 ?_
  refine w_ishl hx hb dJ5_ensureCapacityInternal_d00df_31 ?_
  refine lv_to (y := nI (cap + max (m0 - cap) (cap + 2))) (ishl0 _) ?_
  refine callH_S (As := [.ref v, .int (nI (cap + max (m0 - cap) (cap + 2)))]) X hS hA (Mv.h _) (fun U hU hv => by rw [hU]; exact f1) (fun q h9 => by simp only [frA, false_or] at h9 ⊢; have := hS.1; omega) m_3_229 m_3_230 mv_J7_copyOf_9075b (ch_copyOf hG hf (by omega) (by omega)) (by decide) rfl rfl (Nat.le_of_ble_eq_true rfl) hl.1 dJ5_ensureCapacityInternal_d00df_32 (by show _ ≤ _; simp only [rmC]; omega) (by show _ ≤ _; simp only [rmC]; omega) fun vH1 H1 locs qH1 zH1 oH1 hS2 => ?_
  have lH1_f0_0 := f0.lt
  have lH1_f1_0 := f1.lt
  have lH1_0 := hS.1
  replace f0 := f0.kept (oH1 _ lH1_f0_0 (fun h9 => by first | exact h9.elim | omega | (dsimp only at h9; omega)))
  replace f1 := f1.kept (oH1 _ lH1_f1_0 (fun h9 => by first | exact h9.elim | omega | (dsimp only at h9; omega)))
  replace hS := hS2; clear hS2 oH1
  obtain ⟨w, rfl, hw1, g1⟩ := qH1
  refine p_put (T := TJ4) (N := 4) (k := 0) (ty := .array .byte) X f0 inTB_SB tyJ4 tyJ4_ok nmJ4 rfl (by decide) m_3_187 (fun hq => by cases hq) (by decide +kernel) rfl rfl (Nat.le_of_ble_eq_true rfl) dJ5_ensureCapacityInternal_d00df_35 fun H2 kH2 nH2 zH2 oH2 => ?_
  replace g1 := g1.kept (oH2 _ (by omega))
  replace hS := hS.put (k := kH2) zH2 oH2 (Or.inl (Or.inl rfl))
  replace f0 : va_at (gDD G) vwCl (b, .inr (13, [.ref w, .int 0, .int 0, .int (nI n)])) H2 := nH2
  clear zH2 oH2
  exact hr _ _ _ _ _ _ dJ5_ensureCapacityInternal_d00df_38 ⟨rfl, w, _, _, ⟨f0, g1⟩, Or.inr (by omega), by omega, by omega, fun i hi => by rw [cpy_new ⟨by omega, by omega⟩]; simp, hf.cpy bfit0 _ _ _⟩ hS (by omega) (by omega)
theorem ch_ens {G : Gt} {l : Launch} {b v cap n m0 sz : Nat} {f : Nat → Int32} (hG : AllA G) (hgb : gz G ≤ b) (hgv : gz G ≤ v) (hf : bfit f) (hm : m0 < 2 ^ 28) (hc : cap < 2 ^ 28) : CtH G l yJ5_ensureCapacityInternal_d00df cJ5_ensureCapacityInternal_d00df 3 none 4 1 (2 * m0) [.ref b, .int (nI m0)] sz (fun q => q = b ∨ q = v) (fun U => SBc G b v cap n f U.heap) (fun ov H => ov = none ∧ ∃ v1 cap1 f1, SBc G b v1 cap1 n f1 H ∧ (v1 = v ∨ sz ≤ v1) ∧ m0 ≤ cap1 ∧ cap1 ≤ max cap (2 * m0) ∧ (∀ i, i < cap → f1 i = f i) ∧ bfit f1) := by
  by_cases h : m0 ≤ cap
  · exact ch_ensA hG hgb hgv hf hm hc h
  · exact ch_ensB hG hgb hgv hf hm hc (by omega)
set_option maxHeartbeats 2000000 in
theorem cp_inflateIf {G : Gt} {l : Launch} {b v n a bt : Nat} {u : List Nat} : CtP G l yJ5_inflateIfNeededFor_a7421 cJ5_inflateIfNeededFor_a7421 2 none 2 [.ref b, .ref a] (fun U => va_at (gDD G) vwCl (b, .inr (13, [.ref v, .int 0, .int 0, .int (nI n)])) U.heap ∧ SF a bt u U U.heap) none := by
  refine met_Pv (by decide +kernel) (Nat.le_of_ble_eq_true rfl) rfl ?_
  intro p e s m args below meth c Q ls X hP hr hl
  have hx := X.1.1
  have hb := X.1.2.1
  have hA : ∀ q, q < s.heap.size → (fun _ : Nat => False) q → gA G q := fun q _ h9 => h9.elim
  have hS : va_S (fun _ => False) s.heap s.heap [] := va_S.rf
  have hl : lv_has ls 2 [(0, .ref b), (1, .ref a)] := hl
  obtain ⟨f0, g0⟩ := hP
  refine p_gets X X.tE.2.2.2.2.2.2.1 hS hA m_3_179 dJ5_inflateIfNeededFor_a7421_0 ?_
  refine lv_if_eq (tgt := 21) hx hb dJ5_inflateIfNeededFor_a7421_3 (by decide) (fun hc => absurd hc (by decide)) (fun _ => ?_)
  refine lv_aload_n hx hb dJ5_inflateIfNeededFor_a7421_6 rfl (lv_at hl 0 rfl) ?_
  refine p_get (T := TJ4) (N := 4) (k := 1) X f0 inTB_SB rfl (by decide) m_3_188 rfl dJ5_inflateIfNeededFor_a7421_7 ?_
  refine lv_aload_n hx hb dJ5_inflateIfNeededFor_a7421_10 rfl (lv_at hl 1 rfl) ?_
  refine callP_R (As := []) X hS hA (SF.mv) (fun U hU hv => by rw [hU]; exact g0.moved hv) (by obtain ⟨cell, h1, h2, h3, -⟩ := g0.1; exact ⟨cell, h1, h2, h3⟩) m_4_39 m_3_157 m_3_158 mv_J0_coder_7d493 (cp_coder (t := u) (b := bt)) (by decide) rfl rfl (Nat.le_of_ble_eq_true rfl) hl.1 dJ5_inflateIfNeededFor_a7421_11 (Nat.le_refl _) (Nat.le_refl _) ?_
  refine lv_icmp_eq (tgt := 21) hx hb dJ5_inflateIfNeededFor_a7421_14 (by decide) (fun _ => ?_) (fun hc => absurd rfl hc)
  exact hr _ _ dJ5_inflateIfNeededFor_a7421_21
set_option maxHeartbeats 2000000 in
theorem ch_getBytes {G : Gt} {l : Launch} {v cap a bt dp sz : Nat} {f : Nat → Int32} {u : List Nat} (hG : AllA G) (hgv : gz G ≤ v) (hu : asc u) (h : dp + u.length ≤ cap) (hc : cap < 2 ^ 30) (hva : v ≠ a) (hvb : v ≠ bt) : CtH G l yJ0_getBytes_840e7 cJ0_getBytes_840e7 4 none 2 0 (0) [.ref a, .ref v, .int (nI dp), .int 0] sz (fun q => q = v) (fun U => va_at (gDD G) vwCl (v, .inl (gty G 7, cap, .inl f)) U.heap ∧ SF a bt u U U.heap) (fun ov H => ov = none ∧ va_at (gDD G) vwCl (v, .inl (gty G 7, cap, .inl (va_cpy (tB u) f 0 dp u.length))) H) := by
  refine met_H (by decide +kernel) (Nat.le_of_ble_eq_true rfl) .return_ (Or.inl ⟨rfl, rfl, rfl⟩) ?_
  intro p e s m args below meth c Q ls X hnm hsz hP hr hl
  have hx := X.1.1
  have hb := X.1.2.1
  have hgz : gz G ≤ sz := by rw [← hsz]; exact X.2.1.2.1
  have hA : ∀ q, q < s.heap.size → frA (fun q => q = v) sz q → gA G q := fun q h8 h9 => hG q (by simp only [frA, false_or] at h9; omega)
  have hS : va_S (frA (fun q => q = v) sz) s.heap s.heap [] := va_S.rf
  have hl : lv_has ls 4 [(0, .ref a), (1, .ref v), (2, .int (nI dp)), (3, .int 0)] := hl
  obtain ⟨f1, g0⟩ := hP
  refine lv_aload_n hx hb dJ0_getBytes_840e7_0 rfl (lv_at hl 0 rfl) ?_
  refine callP_R (As := []) X hS hA (SF.mv) (fun U hU hv => by rw [hU]; exact g0.moved hv) (by obtain ⟨cell, h1, h2, h3, -⟩ := g0.1; exact ⟨cell, h1, h2, h3⟩) m_3_156 m_3_157 m_3_158 mv_J0_coder_7d493 (cp_coder (t := u) (b := bt)) (by decide) rfl rfl (Nat.le_of_ble_eq_true rfl) hl.1 dJ0_getBytes_840e7_1 (by show _ ≤ _; simp only [rmC]; omega) (by show _ ≤ _; simp only [rmC]; omega) ?_
  refine lv_iload_n hx hb dJ0_getBytes_840e7_4 rfl (lv_at hl 3 rfl) ?_
  refine lv_icmp_ne (tgt := 28) hx hb dJ0_getBytes_840e7_5 (by decide) (fun hc => absurd rfl hc) (fun _ => ?_)
  refine lv_aload_n hx hb dJ0_getBytes_840e7_8 rfl (lv_at hl 0 rfl) ?_
  refine s_get X g0.2.2.1 m_4_139 dJ0_getBytes_840e7_9 ?_
  refine lv_iconst (v := 0) hx hb dJ0_getBytes_840e7_12 (by decide) ?_
  refine lv_aload_n hx hb dJ0_getBytes_840e7_13 rfl (lv_at hl 1 rfl) ?_
  refine lv_iload_n hx hb dJ0_getBytes_840e7_14 rfl (lv_at hl 2 rfl) ?_
  refine lv_iload_n hx hb dJ0_getBytes_840e7_15 rfl (lv_at hl 3 rfl) ?_
  refine w_ishl hx hb dJ0_getBytes_840e7_16 ?_
  refine lv_to (y := nI dp) (ishl0 _) ?_
  refine lv_aload_n hx hb dJ0_getBytes_840e7_17 rfl (lv_at hl 0 rfl) ?_
  refine s_get X g0.2.2.1 m_4_139 dJ0_getBytes_840e7_18 ?_
  refine s_alen X g0.2.2.2 dJ0_getBytes_840e7_21 ?_
  refine p_copyT (sp := 0) (dp := dp) (n := (u.length)) X g0.2.2.2 f1 (by omega) (by omega) (by omega) (by omega) (fun i _ => (bfit.tB hu) _) m_4_63 (by decide) (Nat.le_of_ble_eq_true rfl) hl.1 dJ0_getBytes_840e7_22 fun H1 LH1 nH1 zH1 oH1 xH1 => ?_
  replace g0 := g0.kept (oH1 _ (by omega)) (oH1 _ (by omega))
  replace hS := va_S.puts hS zH1 oH1 xH1 (Or.inl rfl)
  replace f1 : va_at (gDD G) vwCl (v, .inl (gty G 7, cap, .inl (va_cpy (tB u) f 0 dp (u.length)))) H1 := nH1
  clear zH1 oH1
  refine lv_goto (tgt := 43) hx hb dJ0_getBytes_840e7_25 (by decide) ?_
  exact hr _ _ _ _ _ _ dJ0_getBytes_840e7_43 ⟨rfl, f1⟩ hS (by omega) (by omega)
set_option maxHeartbeats 2000000 in
theorem ch_putString {G : Gt} {l : Launch} {b v cap n a bt dp sz : Nat} {f : Nat → Int32} {u : List Nat} (hG : AllA G) (hgb : gz G ≤ b) (hgv : gz G ≤ v) (hu : asc u) (h : dp + u.length ≤ cap) (hc : cap < 2 ^ 30) (hbv : b ≠ v) (hva : v ≠ a) (hvb : v ≠ bt) : CtH G l yJ5_putStringAt_47b60 cJ5_putStringAt_47b60 3 none 3 0 (0) [.ref b, .int (nI dp), .ref a] sz (fun q => q = v) (fun U => SBc G b v cap n f U.heap ∧ SF a bt u U U.heap) (fun ov H => ov = none ∧ SBc G b v cap n (va_cpy (tB u) f 0 dp u.length) H) := by
  refine met_H (by decide +kernel) (Nat.le_of_ble_eq_true rfl) .return_ (Or.inl ⟨rfl, rfl, rfl⟩) ?_
  intro p e s m args below meth c Q ls X hnm hsz hP hr hl
  have hx := X.1.1
  have hb := X.1.2.1
  have hgz : gz G ≤ sz := by rw [← hsz]; exact X.2.1.2.1
  have hA : ∀ q, q < s.heap.size → frA (fun q => q = v) sz q → gA G q := fun q h8 h9 => hG q (by simp only [frA, false_or] at h9; omega)
  have hS : va_S (frA (fun q => q = v) sz) s.heap s.heap [] := va_S.rf
  have hl : lv_has ls 3 [(0, .ref b), (1, .int (nI dp)), (2, .ref a)] := hl
  obtain ⟨⟨f0, f1⟩, g0⟩ := hP
  refine lv_aload_n hx hb dJ5_putStringAt_47b60_0 rfl (lv_at hl 0 rfl) ?_
  refine lv_aload_n hx hb dJ5_putStringAt_47b60_1 rfl (lv_at hl 2 rfl) ?_
  refine callP_X (As := [.ref a]) X hS hA (Mv.and (Mv.h fun K => va_at (gDD G) vwCl (b, .inr (13, [.ref v, .int 0, .int 0, .int (nI n)])) K) SF.mv) (fun U hU hv => by rw [hU]; exact ⟨f0, g0.moved hv⟩) (p_recv X f0 (r := (RJ4, TJ4, 4)) rfl) m_4_35 sl_RJ4_J5_inflateIfNeededFor_a7421 mv_J5_inflateIfNeededFor_a7421 (by decide) (cp_inflateIf (v := v) (n := n) (u := u) (bt := bt)) (by decide) rfl (Nat.le_of_ble_eq_true rfl) hl.1 dJ5_putStringAt_47b60_2 (by show _ ≤ _; simp only [rmC]; omega) (by show _ ≤ _; simp only [rmC]; omega) ?_
  refine lv_aload_n hx hb dJ5_putStringAt_47b60_5 rfl (lv_at hl 2 rfl) ?_
  refine lv_aload_n hx hb dJ5_putStringAt_47b60_6 rfl (lv_at hl 0 rfl) ?_
  refine p_get (T := TJ4) (N := 4) (k := 0) X f0 inTB_SB rfl (by decide) m_3_187 rfl dJ5_putStringAt_47b60_7 ?_
  refine lv_iload_n hx hb dJ5_putStringAt_47b60_10 rfl (lv_at hl 1 rfl) ?_
  refine lv_aload_n hx hb dJ5_putStringAt_47b60_11 rfl (lv_at hl 0 rfl) ?_
  refine p_get (T := TJ4) (N := 4) (k := 1) X f0 inTB_SB rfl (by decide) m_3_188 rfl dJ5_putStringAt_47b60_12 ?_
  refine callH_V (As := [.ref v, .int (nI dp), .int 0]) X hS hA (Mv.and (Mv.h fun K => va_at (gDD G) vwCl (v, .inl (gty G 7, cap, .inl f)) K) SF.mv) (fun U hU hv => by rw [hU]; exact ⟨f1, g0.moved hv⟩) (fun q h9 => by simp only [frA, false_or] at h9 ⊢; have := hS.1; omega) (by obtain ⟨cell, h1, h2, h3, -⟩ := g0.1; exact ⟨cell, h1, h2, h3⟩) m_4_59 m_4_60 m_4_61 mv_J0_getBytes_840e7 (ch_getBytes hG hgv hu h hc (f := f) (cap := cap) (u := u) (bt := bt) hva hvb) (by decide) rfl rfl (Nat.le_of_ble_eq_true rfl) hl.1 dJ5_putStringAt_47b60_15 (by show _ ≤ _; simp only [rmC]; omega) (by show _ ≤ _; simp only [rmC]; omega) fun vH1 H1 locs qH1 zH1 oH1 hS2 => ?_
  have lH1_f0_0 := f0.lt
  have lH1_f1_0 := f1.lt
  have lH1_g0_0 := g0.lt.1
  have lH1_g0_1 := g0.lt.2
  have lH1_0 := hS.1
  replace f0 := f0.kept (oH1 _ lH1_f0_0 (fun h9 => by first | exact h9.elim | omega | (dsimp only at h9; omega)))
  replace g0 := g0.kept (oH1 _ lH1_g0_0 (fun h9 => by first | exact h9.elim | omega | (dsimp only at h9; omega))) (oH1 _ lH1_g0_1 (fun h9 => by first | exact h9.elim | omega | (dsimp only at h9; omega)))
  replace hS := hS2; clear hS2 oH1
  clear f1
  obtain ⟨rfl, g1⟩ := qH1
  exact hr _ _ _ _ _ _ dJ5_putStringAt_47b60_18 ⟨rfl, f0, g1⟩ hS (by omega) (by omega)
set_option maxHeartbeats 2000000 in
theorem ch_ASBapp {G : Gt} {l : Launch} {b v a bt sz : Nat} {t u : List Nat} (hG : AllA G) (hgb : gz G ≤ b) (hgv : gz G ≤ v) (hu : asc u) (h : t.length + u.length < 2 ^ 26) (hbv : b ≠ v) (hba : b ≠ a) (hbb : b ≠ bt) (hva : v ≠ a) (hvb : v ≠ bt) : CtH G l yJ5_append_cf1ce cJ5_append_cf1ce 3 (some (.object "java/lang/AbstractStringBuilder")) 5 1 (2 * (t.length + u.length)) [.ref b, .ref a] sz (fun q => q = b ∨ q = v) (fun U => SBs G b v t U.heap ∧ SF a bt u U U.heap) (fun ov H => ov = some (.ref b) ∧ ∃ w, (w = v ∨ sz ≤ w) ∧ SBs G b w (t ++ u) H) := by
  refine met_H (by decide +kernel) (Nat.le_of_ble_eq_true rfl) .areturn (Or.inr (Or.inr ⟨_, .ref b, rfl, Or.inl ⟨_, rfl⟩, Or.inr ⟨_, rfl⟩, rfl, rfl⟩)) ?_
  intro p e s m args below meth c Q ls X hnm hsz hP hr hl
  have hx := X.1.1
  have hb := X.1.2.1
  have hgz : gz G ≤ sz := by rw [← hsz]; exact X.2.1.2.1
  have hA : ∀ q, q < s.heap.size → frA (fun q => q = b ∨ q = v) sz q → gA G q := fun q h8 h9 => hG q (by simp only [frA, false_or] at h9; omega)
  have hS : va_S (frA (fun q => q = b ∨ q = v) sz) s.heap s.heap [] := va_S.rf
  have hl : lv_has ls 3 [(0, .ref b), (1, .ref a)] := hl
  obtain ⟨⟨f, cap, ⟨f0, f1⟩, hag, hf, hl1, hl2⟩, g0⟩ := hP
  refine lv_aload_n hx hb dJ5_append_cf1ce_0 rfl (lv_at hl 1 rfl) ?_
  refine lv_ifnonnull (tgt := 9) hx hb dJ5_append_cf1ce_1 (by decide) ?_
  refine lv_aload_n hx hb dJ5_append_cf1ce_9 rfl (lv_at hl 1 rfl) ?_
  refine callP_R (As := []) X hS hA (SF.mv) (fun U hU hv => by rw [hU]; exact g0.moved hv) (by obtain ⟨cell, h1, h2, h3, -⟩ := g0.1; exact ⟨cell, h1, h2, h3⟩) m_4_30 m_3_153 m_3_154 mv_J0_length_8abf5 (cp_length (t := u) (b := bt)) (by decide) rfl rfl (Nat.le_of_ble_eq_true rfl) hl.1 dJ5_append_cf1ce_10 (by show _ ≤ _; simp only [rmC]; omega) (by show _ ≤ _; simp only [rmC]; omega) ?_
  refine lv_istore_n (lv' := [(2, .int (nI u.length)), (0, .ref b), (1, .ref a)]) hx hb dJ5_append_cf1ce_13 rfl hl (by decide) rfl ?_
  clear hl; intro ls hl
  refine lv_aload_n hx hb dJ5_append_cf1ce_14 rfl (lv_at hl 1 rfl) ?_
  refine lv_aload_n hx hb dJ5_append_cf1ce_15 rfl (lv_at hl 1 rfl) ?_
  refine p_get (T := TJ4) (N := 4) (k := 3) X f0 inTB_SB rfl (by decide) m_3_190 rfl dJ5_append_cf1ce_16 ?_
  refine lv_iload_n hx hb dJ5_append_cf1ce_19 rfl (lv_at hl 0 rfl) ?_
  refine lv_iadd hx hb dJ5_append_cf1ce_20 ?_
  refine lv_to (y := nI (t.length + u.length)) (nI_add _ _) ?_
  refine callH_X (As := [.int (nI (t.length + u.length))]) X hS hA (Mv.h _) (fun U hU hv => by rw [hU]; exact ⟨f0, f1⟩) (fun q h9 => by simp only [frA, false_or] at h9 ⊢; have := hS.1; omega) (p_recv X f0 (r := (RJ4, TJ4, 4)) rfl) m_3_212 sl_RJ4_J5_ensureCapacityInternal_d00df mv_J5_ensureCapacityInternal_d00df (by decide) (ch_ens (n := t.length) hG hgb hgv hf (by omega) (by omega)) (by decide) rfl (Nat.le_of_ble_eq_true rfl) hl.1 dJ5_append_cf1ce_21 (by show _ ≤ _; simp only [rmC]; omega) (by show _ ≤ _; simp only [rmC]; omega) fun vH1 H1 locs qH1 zH1 oH1 hS2 => ?_
  have lH1_f0_0 := f0.lt
  have lH1_f1_0 := f1.lt
  have lH1_g0_0 := g0.lt.1
  have lH1_g0_1 := g0.lt.2
  have lH1_0 := hS.1
  replace g0 := g0.kept (oH1 _ lH1_g0_0 (fun h9 => by first | exact h9.elim | omega | (dsimp only at h9; omega))) (oH1 _ lH1_g0_1 (fun h9 => by first | exact h9.elim | omega | (dsimp only at h9; omega)))
  replace hS := hS2; clear hS2 oH1
  clear f0
  clear f1
  obtain ⟨rfl, w, cap1, f9, ⟨f0, f1⟩, hw, hk1, hk2, hk3, hk4⟩ := qH1
  have hbw : b ≠ w := by have := f0.lt; omega
  have hgw : gz G ≤ w := by omega
  refine lv_aload_n hx hb dJ5_append_cf1ce_24 rfl (lv_at hl 1 rfl) ?_
  refine lv_aload_n hx hb dJ5_append_cf1ce_25 rfl (lv_at hl 1 rfl) ?_
  refine p_get (T := TJ4) (N := 4) (k := 3) X f0 inTB_SB rfl (by decide) m_3_190 rfl dJ5_append_cf1ce_26 ?_
  refine lv_aload_n hx hb dJ5_append_cf1ce_29 rfl (lv_at hl 2 rfl) ?_
  refine callH_X (As := [.int (nI (t.length)), .ref a]) X hS hA (Mv.and (Mv.h fun K => SBc G b w cap1 t.length f9 K) SF.mv) (fun U hU hv => by rw [hU]; exact ⟨⟨f0, f1⟩, g0.moved hv⟩) (fun q h9 => by simp only [frA, false_or] at h9 ⊢; have := hS.1; omega) (p_recv X f0 (r := (RJ4, TJ4, 4)) rfl) m_4_31 sl_RJ4_J5_putStringAt_47b60 mv_J5_putStringAt_47b60 (by decide) (ch_putString (f := f9) (cap := cap1) (n := t.length) (u := u) (bt := bt) hG hgb hgw hu (by omega) (by omega) hbw (by omega) (by omega)) (by decide) rfl (Nat.le_of_ble_eq_true rfl) hl.1 dJ5_append_cf1ce_30 (by show _ ≤ _; simp only [rmC]; omega) (by show _ ≤ _; simp only [rmC]; omega) fun vH2 H2 locs qH2 zH2 oH2 hS2 => ?_
  have lH2_g0_0 := g0.lt.1
  have lH2_g0_1 := g0.lt.2
  have lH2_f0_0 := f0.lt
  have lH2_f1_0 := f1.lt
  have lH2_0 := hS.1
  replace g0 := g0.kept (oH2 _ lH2_g0_0 (fun h9 => by first | exact h9.elim | omega | (dsimp only at h9; omega))) (oH2 _ lH2_g0_1 (fun h9 => by first | exact h9.elim | omega | (dsimp only at h9; omega)))
  replace hS := hS2; clear hS2 oH2
  clear f0
  clear f1
  obtain ⟨rfl, f0, f1⟩ := qH2
  refine lv_aload_n hx hb dJ5_append_cf1ce_33 rfl (lv_at hl 1 rfl) ?_
  refine lv_dup hx hb dJ5_append_cf1ce_34 rfl ?_
  refine p_get (T := TJ4) (N := 4) (k := 3) X f0 inTB_SB rfl (by decide) m_3_190 rfl dJ5_append_cf1ce_35 ?_
  refine lv_iload_n hx hb dJ5_append_cf1ce_38 rfl (lv_at hl 0 rfl) ?_
  refine lv_iadd hx hb dJ5_append_cf1ce_39 ?_
  refine lv_to (y := nI (t.length + u.length)) (nI_add _ _) ?_
  refine p_put (T := TJ4) (N := 4) (k := 3) (ty := .int) X f0 inTB_SB tyJ4 tyJ4_ok nmJ4 rfl (by decide) m_3_190 (fun hq => by cases hq) (by decide +kernel) rfl rfl (Nat.le_of_ble_eq_true rfl) dJ5_append_cf1ce_40 fun H3 kH3 nH3 zH3 oH3 => ?_
  replace g0 := g0.kept (oH3 _ (by omega)) (oH3 _ (by omega))
  replace f1 := f1.kept (oH3 _ (by omega))
  replace hS := hS.put (k := kH3) zH3 oH3 (Or.inl (Or.inl rfl))
  replace f0 : va_at (gDD G) vwCl (b, .inr (13, [.ref w, .int 0, .int 0, .int (nI (t.length + u.length))])) H3 := nH3
  clear zH3 oH3
  refine lv_aload_n hx hb dJ5_append_cf1ce_43 rfl (lv_at hl 1 rfl) ?_
  exact hr _ _ _ _ _ _ dJ5_append_cf1ce_44 ⟨rfl, w, by omega, _, cap1, ⟨by rw [List.length_append]; exact f0, f1⟩, agr.app (fun i hi => (hk3 i (by omega)).trans (hag i hi)), (bfit.tB hu).cpy hk4 _ _ _, by rw [List.length_append]; omega, by rw [List.length_append]; omega⟩ hS (by omega) (by omega)
set_option maxHeartbeats 2000000 in
theorem ch_app {G : Gt} {l : Launch} {b v a bt sz : Nat} {t u : List Nat} (hG : AllA G) (hgb : gz G ≤ b) (hgv : gz G ≤ v) (hu : asc u) (h : t.length + u.length < 2 ^ 26) (hbv : b ≠ v) (hba : b ≠ a) (hbb : b ≠ bt) (hva : v ≠ a) (hvb : v ≠ bt) : CtH G l yJ4_append_15ec4 cJ4_append_15ec4 2 (some (.object "java/lang/StringBuilder")) 6 1 (2 * (t.length + u.length)) [.ref b, .ref a] sz (fun q => q = b ∨ q = v) (fun U => SBs G b v t U.heap ∧ SF a bt u U U.heap) (fun ov H => ov = some (.ref b) ∧ ∃ w, (w = v ∨ sz ≤ w) ∧ SBs G b w (t ++ u) H) := by
  refine met_H (by decide +kernel) (Nat.le_of_ble_eq_true rfl) .areturn (Or.inr (Or.inr ⟨_, .ref b, rfl, Or.inl ⟨_, rfl⟩, Or.inr ⟨_, rfl⟩, rfl, rfl⟩)) ?_
  intro p e s m args below meth c Q ls X hnm hsz hP hr hl
  have hx := X.1.1
  have hb := X.1.2.1
  have hgz : gz G ≤ sz := by rw [← hsz]; exact X.2.1.2.1
  have hA : ∀ q, q < s.heap.size → frA (fun q => q = b ∨ q = v) sz q → gA G q := fun q h8 h9 => hG q (by simp only [frA, false_or] at h9; omega)
  have hS : va_S (frA (fun q => q = b ∨ q = v) sz) s.heap s.heap [] := va_S.rf
  have hl : lv_has ls 2 [(0, .ref b), (1, .ref a)] := hl
  obtain ⟨f0, g0⟩ := hP
  refine lv_aload_n hx hb dJ4_append_15ec4_0 rfl (lv_at hl 0 rfl) ?_
  refine lv_aload_n hx hb dJ4_append_15ec4_1 rfl (lv_at hl 1 rfl) ?_
  refine callH_U (As := [.ref a]) X hS hA (Mv.and (Mv.h fun K => SBs G b v t K) SF.mv) (fun U hU hv => by rw [hU]; exact ⟨f0, g0.moved hv⟩) (fun q h9 => by simp only [frA, false_or] at h9 ⊢; have := hS.1; omega) f0.obj rfl m_3_205 su_RJ4_J5_append_cf1ce mv_J5_append_cf1ce (by decide) (ch_ASBapp (t := t) (u := u) (v := v) (bt := bt) hG hgb hgv hu h hbv hba hbb hva hvb) (by decide) rfl rfl (Nat.le_of_ble_eq_true rfl) hl.1 dJ4_append_15ec4_2 (by show _ ≤ _; simp only [rmC]; omega) (by show _ ≤ _; simp only [rmC]; omega) fun vH1 H1 locs qH1 zH1 oH1 hS2 => ?_
  have lH1_f0_0 := f0.lt.1
  have lH1_f0_1 := f0.lt.2
  have lH1_g0_0 := g0.lt.1
  have lH1_g0_1 := g0.lt.2
  have lH1_0 := hS.1
  replace g0 := g0.kept (oH1 _ lH1_g0_0 (fun h9 => by first | exact h9.elim | omega | (dsimp only at h9; omega))) (oH1 _ lH1_g0_1 (fun h9 => by first | exact h9.elim | omega | (dsimp only at h9; omega)))
  replace hS := hS2; clear hS2 oH1
  clear f0
  obtain ⟨rfl, w, hw, f0⟩ := qH1
  refine lv_pop hx hb dJ4_append_15ec4_5 rfl ?_
  refine lv_aload_n hx hb dJ4_append_15ec4_6 rfl (lv_at hl 0 rfl) ?_
  exact hr _ _ _ _ _ _ dJ4_append_15ec4_7 ⟨rfl, w, by omega, f0⟩ hS (by omega) (by omega)
set_option maxHeartbeats 2000000 in
theorem ch_appB {G : Gt} {l : Launch} {b v a bt sz : Nat} {t u : List Nat} (hG : AllA G) (hgb : gz G ≤ b) (hgv : gz G ≤ v) (hu : asc u) (h : t.length + u.length < 2 ^ 26) (hbv : b ≠ v) (hba : b ≠ a) (hbb : b ≠ bt) (hva : v ≠ a) (hvb : v ≠ bt) : CtH G l yJ4_append_cf1ce cJ4_append_cf1ce 2 (some (.object "java/lang/AbstractStringBuilder")) 7 1 (2 * (t.length + u.length)) [.ref b, .ref a] sz (fun q => q = b ∨ q = v) (fun U => SBs G b v t U.heap ∧ SF a bt u U U.heap) (fun ov H => ov = some (.ref b) ∧ ∃ w, (w = v ∨ sz ≤ w) ∧ SBs G b w (t ++ u) H) := by
  refine met_H (by decide +kernel) (Nat.le_of_ble_eq_true rfl) .areturn (Or.inr (Or.inr ⟨_, .ref b, rfl, Or.inl ⟨_, rfl⟩, Or.inr ⟨_, rfl⟩, rfl, rfl⟩)) ?_
  intro p e s m args below meth c Q ls X hnm hsz hP hr hl
  have hx := X.1.1
  have hb := X.1.2.1
  have hgz : gz G ≤ sz := by rw [← hsz]; exact X.2.1.2.1
  have hA : ∀ q, q < s.heap.size → frA (fun q => q = b ∨ q = v) sz q → gA G q := fun q h8 h9 => hG q (by simp only [frA, false_or] at h9; omega)
  have hS : va_S (frA (fun q => q = b ∨ q = v) sz) s.heap s.heap [] := va_S.rf
  have hl : lv_has ls 2 [(0, .ref b), (1, .ref a)] := hl
  obtain ⟨f0, g0⟩ := hP
  refine lv_aload_n hx hb dJ4_append_cf1ce_0 rfl (lv_at hl 0 rfl) ?_
  refine lv_aload_n hx hb dJ4_append_cf1ce_1 rfl (lv_at hl 1 rfl) ?_
  refine callH_V (As := [.ref a]) X hS hA (Mv.and (Mv.h fun K => SBs G b v t K) SF.mv) (fun U hU hv => by rw [hU]; exact ⟨f0, g0.moved hv⟩) (fun q h9 => by simp only [frA, false_or] at h9 ⊢; have := hS.1; omega) (p_recv X f0.obj (r := (RJ4, TJ4, 4)) rfl) m_7_107 m_3_202 m_3_203 mv_J4_append_15ec4 (ch_app (t := t) (u := u) (v := v) (bt := bt) hG hgb hgv hu h hbv hba hbb hva hvb) (by decide) rfl rfl (Nat.le_of_ble_eq_true rfl) hl.1 dJ4_append_cf1ce_2 (by show _ ≤ _; simp only [rmC]; omega) (by show _ ≤ _; simp only [rmC]; omega) fun vH1 H1 locs qH1 zH1 oH1 hS2 => ?_
  have lH1_f0_0 := f0.lt.1
  have lH1_f0_1 := f0.lt.2
  have lH1_g0_0 := g0.lt.1
  have lH1_g0_1 := g0.lt.2
  have lH1_0 := hS.1
  replace g0 := g0.kept (oH1 _ lH1_g0_0 (fun h9 => by first | exact h9.elim | omega | (dsimp only at h9; omega))) (oH1 _ lH1_g0_1 (fun h9 => by first | exact h9.elim | omega | (dsimp only at h9; omega)))
  replace hS := hS2; clear hS2 oH1
  clear f0
  obtain ⟨rfl, w, hw, f0⟩ := qH1
  exact hr _ _ _ _ _ _ dJ4_append_cf1ce_5 ⟨rfl, w, by omega, f0⟩ hS (by omega) (by omega)
