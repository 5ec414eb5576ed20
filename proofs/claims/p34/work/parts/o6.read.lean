theorem m_1_0 : Cond.initialized RL ∈ TB := mem_t1 0 (by decide +kernel)
theorem m_2_235 : Cond.castable (exN 3) (exN 3) ∈ TB := mem_t2 235 (by decide +kernel)
theorem m_5_164 : Cond.methodLink RL 24 yL_feeds ∈ TB := mem_t5 164 (by decide +kernel)
theorem m_5_165 : Cond.static yL_feeds ∈ TB := mem_t5 165 (by decide +kernel)
theorem m_5_166 : Cond.code yL_feeds cL_feeds 6 (some .int) ∈ TB := mem_t5 166 (by decide +kernel)
theorem m_5_178 : Cond.methodLink RL 30 yX10_load ∈ TB := mem_t5 178 (by decide +kernel)
theorem m_5_179 : Cond.instanceMethod yX10_load ∈ TB := mem_t5 179 (by decide +kernel)
theorem m_5_180 : Cond.selects RX10 yX10_load yX10_load ∈ TB := mem_t5 180 (by decide +kernel)
theorem m_5_181 : Cond.code yX10_load cX10_load 3 (some .int) ∈ TB := mem_t5 181 (by decide +kernel)
theorem m_6_209 : Cond.classLink RL 38 (exN 3) ∈ TB := mem_t6 209 (by decide +kernel)
theorem m_6_210 : Cond.methodLink RL 34 yX10_attempt ∈ TB := mem_t6 210 (by decide +kernel)
theorem m_6_211 : Cond.instanceMethod yX10_attempt ∈ TB := mem_t6 211 (by decide +kernel)
theorem m_6_212 : Cond.selects RX10 yX10_attempt yX10_attempt ∈ TB := mem_t6 212 (by decide +kernel)
theorem m_6_213 : Cond.code yX10_attempt cX10_attempt 4 (some .int) ∈ TB := mem_t6 213 (by decide +kernel)
theorem mv_L_feeds : MV yL_feeds cL_feeds 6 (some .int) 2 := ⟨m_5_166, by decide +kernel, m_1_0, ⟨by decide +kernel, by decide +kernel, by decide +kernel⟩, by decide⟩
theorem mv_X10_load : MV yX10_load cX10_load 3 (some .int) 1 := ⟨m_5_181, by decide +kernel, m_1_18, ⟨by decide +kernel, by decide +kernel, by decide +kernel⟩, by decide⟩
theorem mv_X10_attempt : MV yX10_attempt cX10_attempt 4 (some .int) 2 := ⟨m_6_213, by decide +kernel, m_1_18, ⟨by decide +kernel, by decide +kernel, by decide +kernel⟩, by decide⟩
/-! READ and TRIES -/
set_option maxHeartbeats 4000000 in
theorem ch_read {G : Gt} {l : Launch} {z a bt sz : Nat} {t : List Nat} {σ σ1 σ2 : St} {r r2 : Int32} {J : Nat} (hG : AllA G) (hgz0 : gz G ≤ z) (ht : asc t) (htl : t.length < 2 ^ 20) (hf : feedF t J 0 0 σ = some (r, σ1)) (hr0 : r ≥ 0) (hld : pf_X10_load 0 (nI t.length) σ1 = some (.inr r2, σ2)) (hab : (a < z ∨ z + 609 ≤ a) ∧ (bt < z ∨ z + 609 ≤ bt)) : CtH G l yL_read cL_read 2 (some .int) 33 J (5 * J) [.ref z, .ref a] sz (zA z) (fun U => CQ G z σ U.heap ∧ SF a bt t U U.heap) (fun ov H => ov = some (.int r2) ∧ CQ G z σ2 H) := by
  refine met_H (by decide +kernel) (Nat.le_of_ble_eq_true rfl) .ireturn (Or.inr (Or.inl ⟨.int, r2, rfl, rfl, rfl, rfl⟩)) ?_
  intro p e s m args below meth c Q ls X hnm hsz hP hr hl
  have hx := X.1.1
  have hb := X.1.2.1
  have hgz : gz G ≤ sz := by rw [← hsz]; exact X.2.1.2.1
  have hA : ∀ q, q < s.heap.size → frA (zA z) sz q → gA G q := fun q h8 h9 => hG q (by simp only [frA, zA] at h9; omega)
  have hzz : ∀ q, z ≤ q ∧ q < z + 609 → gA G q := fun q h9 => hG q (by omega)
  have hzA : ∀ q, z ≤ q ∧ q < z + 609 → frA (zA z) sz q := fun q h9 => Or.inl h9
  have hS : va_S (frA (zA z) sz) s.heap s.heap [] := va_S.rf
  have hl : lv_has ls 2 [(0, .ref z), (1, .ref a)] := hl
  obtain ⟨hP, g0⟩ := hP
  have hab0 := hab
  obtain ⟨hab1, hab2⟩ := hab
  generalize hmc : J = mc1 at X hr
  generalize hms : 5 * mc1 = ms1 at X hr
  refine lv_aload_n hx hb dL_read_0 rfl (lv_at hl 0 rfl) ?_
  refine lv_aload_n hx hb dL_read_1 rfl (lv_at hl 1 rfl) ?_
  refine callH_S (As := [.ref z, .ref a]) X hS hA (Mv.and (Mv.h fun H => CQ G z σ H) SF.mv) (fun U hU hv => by rw [hU]; exact ⟨hP, g0.moved hv⟩) (fun q h9 => by simp only [frA, zA] at h9 ⊢; have := hS.1; omega) m_5_164 m_5_165 mv_L_feeds (ch_feeds (t := t) (bt := bt) hG hgz0 ht htl hf hab0) (by decide) rfl rfl (Nat.le_of_ble_eq_true rfl) hl.1 dL_read_2 (c_R (by rw [hmc]; exact Nat.le_of_eq (Nat.zero_add _))) (s_R (by rw [← hms, hmc]; exact Nat.le_of_eq (Nat.zero_add _))) fun ov1 H1 locs qH zH oH hS2 => ?_
  have hpl := g0.lt
  obtain ⟨rfl, hP1⟩ := qH
  replace g0 := g0.kept (oH _ hpl.1 (fun h9 => by simp only [zA] at h9; omega)) (oH _ hpl.2 (fun h9 => by simp only [zA] at h9; omega))
  refine lv_if_ge (tgt := 13) hx hb dL_read_5 (by decide) (fun _ => ?_) (fun hc => absurd hr0 hc)
  replace hS := hS2
  refine lv_aload_n hx hb dL_read_13 rfl (lv_at hl 0 rfl) ?_
  refine lv_aload_n hx hb dL_read_14 rfl (lv_at hl 1 rfl) ?_
  refine callP_R (As := []) X hS hA (SF.mv) (fun U hU hv => by rw [hU]; exact g0.moved hv) (by obtain ⟨cell, h1, h2, h3, -⟩ := g0.1; exact ⟨cell, h1, h2, h3⟩) m_5_167 m_3_153 m_3_154 mv_J0_length_8abf5 (cp_length (t := t) (b := bt)) (by decide) rfl rfl (Nat.le_of_ble_eq_true rfl) hl.1 dL_read_15 (c_R (by rw [hmc]; exact Nat.le_of_eq (Nat.zero_add _))) (s_R (by rw [← hms, hmc]; exact Nat.le_of_eq (Nat.zero_add _))) ?_
  refine callC_V (b := 0) (z := z) (σ := σ1) (As := [.int (nI t.length)]) X hS hA hzz hzA hP1 (C := RX10) (kC_X10 kd_0) m_5_178 m_5_179 m_5_180 mv_X10_load (c_X10_load (G := subG G z) (v0 := 0) kd_0 hld) (by decide) rfl rfl (Nat.le_of_ble_eq_true rfl) hl.1 dL_read_18 (c_R (by rw [hmc]; exact Nat.le_of_eq (Nat.zero_add _))) (s_R (by rw [← hms, hmc]; exact Nat.le_of_eq (Nat.zero_add _))) fun H2 locs2 hP2 z2 o2 hS3 => ?_
  exact hr _ _ _ _ _ _ dL_read_21 ⟨rfl, hP2⟩ hS3 (by rw [hmc]; exact Nat.le_of_eq (Nat.zero_add _)) (by rw [← hms, hmc]; exact Nat.le_of_eq (Nat.zero_add _))
/-- a contract of a method that catches: one exception may be left behind -/
def CtZ (G : Gt) (l : Launch) (y : MethodName) (cc : ByteArray) (maxL : Nat) (hh : List (Nat × Nat × Nat × Nat)) (h : Nat) (av : List Value) (sz : Nat) (fr : Nat → Prop) (Pf : State → Prop) (r : Int32) (Qf : Heap → Prop) : Prop :=
  l.stackTraces = false → Met l y [.codeWith y cc maxL (some .int) hh] (rmC h 1 6) (va_Pc av (Pre0 G (fun U => U.heap.size = sz ∧ Pf U))) (fun _ st oc t => ∃ ov, oc = .returned ov ∧ (ov = some (.int r) ∧ Qf t.heap) ∧ va_F (frA fr sz) st t) 1 6 (frA fr sz)
theorem metZ_ofH {l : Launch} {y : MethodName} {ws ws' : List Cond} {rm : Room} {Pc : Array Value → State → Prop} {Qc : Array Value → State → Outcome → State → Prop} {mc ms : Nat} {free : Addr → Prop} {cc : ByteArray} {maxL : Nat} {ret : Option FieldType} {hh : List (Nat × Nat × Nat × Nat)}
    (hy : plainName y.cls = true) (hw : ws = Cond.codeWith y cc maxL ret hh :: ws')
    (body : ∀ p e s m args below meth c s₁, BodyLoose p l y (headSpec ws rm) cc maxL ret e s m args below meth c s₁ → c.maxLocals = maxL → c.exceptionTable.toList = tableOf hh → Pc args s →
      W p l e (headSpec ws rm).room s m args below meth c s.heap [] 0 0 (MQ below Qc args s mc ms free) (entryFrame m args maxL)) : Met l y ws rm Pc Qc mc ms free := by
  refine MetFree.of_bodyS (code := cc) (maxLocals := maxL) (ret := ret) hy ?_ ?_
  · intro args s m h hn
    obtain ⟨m9, meth, c, hn9, h1, h2, h3, h4, -, h5, h6, -⟩ := Cond.codeWith_spec (atoms_spec (ws := ws) h _ (by rw [hw]; exact List.mem_cons_self))
    cases hn.symm.trans hn9
    exact ⟨meth, c, h1, h2, h3, h4, h5, h6⟩
  · intro p e s m args below meth c s₁ B hml hP _
    have hh0 : s₁.heap = s.heap := by rw [B.state]; rfl
    obtain ⟨t, a1, o, b1, b2, b3⟩ := body p e s m args below meth c s₁ B hml (vx_table (x := y) B (atoms_spec (ws := ws) B.pre _ (by rw [hw]; exact List.mem_cons_self))) hP s₁ hh0 (Stand.of_body B)
    exact ⟨t, o, a1, b1, b2, ⟨b3.1, b3.2⟩⟩
theorem met_Z {G : Gt} {l : Launch} {y : MethodName} {cc : ByteArray} {maxL : Nat} {h : Nat} {av : List Value} {hh : List (Nat × Nat × Nat × Nat)} {r : Int32} {sz : Nat} {fr : Nat → Prop} {Pf : State → Prop} {Qf : Heap → Prop} (hy : plainName y.cls = true) (hlen : (lg_sl av).length ≤ maxL)
    (body : ∀ (p : Program) (e : Env) (s : State) (m : MethodId) (args : Array Value) (below : List Frame) (meth : Method) (c : Code) (Q : State → Prop) (ls : Array Slot), l.stackTraces = false → c.exceptionTable.toList = tableOf hh → Cx G p (rmC h 1 6) s m args c 0 0 cc maxL y.cls h → s.heap.size = sz → Pf s → (∀ (pc : Nat) (H : Heap) (locs : List Loc) (ls : Array Slot) (cells slots : Nat), decode cc pc = .ok (.ireturn, 1) → Qf H → va_S (frA fr sz) s.heap H locs → cells ≤ 1 → slots ≤ 6 → W p l e (rmC h 1 6) s m args below meth c H locs cells slots Q (F0 m pc ls [.int r])) → lv_has ls maxL (lv_args 0 av) → W p l e (rmC h 1 6) s m args below meth c s.heap [] 0 0 Q (F0 m 0 ls [])) :
    CtZ G l y cc maxL hh h av sz fr Pf r Qf := by
  intro hfl
  refine metZ_ofH (cc := cc) (maxL := maxL) (ret := some .int) (hh := hh) hy rfl ?_
  intro p e s m args below meth c s₁ B hml htab hv
  obtain ⟨ha, htb, hE, hz, hP⟩ := hv
  have X : Cx G p (rmC h 1 6) s m args c 0 0 cc maxL y.cls h := ⟨⟨B.exec, B.bytes, hml, findClass_of_methodNamed B.named, TB_warm (State.WarmedH.refl s) htb⟩, hE, Nat.le_refl _, Nat.le_refl _, Nat.zero_le _, Nat.zero_le _⟩
  subst ha
  have hl := lv_entry av (n := maxL) hlen
  rw [lg_entry_eq]
  generalize (lg_sl av ++ List.replicate (maxL - (lg_sl av).length) Slot.unset).toArray = ls at hl ⊢
  have hlocks := B.notSynchronized
  refine body p e s m av.toArray below meth c _ ls hfl htab X hz hP ?_ hl
  intro pc H locs ls1 cells slots hd hq hS hc hs
  exact W.widen hc hs (W.iret X.1.1 X.1.2.1 B.returns (fun t ht hw => ⟨_, rfl, ⟨rfl, by rw [ht]; exact hq⟩, hS.F ht⟩) hS.2.2 hd hlocks)
section
variable {G : Gt} {p : Program} {l : Launch} {e : Env} {R : Room} {s : State} {m : MethodId} {args : Array Value} {below : List Frame} {meth : Method} {c : Code} {H : Heap} {locs : List Loc} {cells slots : Nat} {Q : State → Prop}
variable {cc bytes : ByteArray} {nL h h2 maxL n idx cells0 slots0 b z k : Nat} {own C : String} {pc : Nat} {ls : Array Slot} {rest st0 : List Value} {y : MethodName} {ret : Option FieldType} {As : List Value} {A : Nat → Prop} {σ σ' : St}
/-- a method of the class throws, and is caught here -/
theorem tcallC_V (X : Cx G p R s m args c cells0 slots0 cc nL own h) (hS : va_S A s.heap H locs) (hA : ∀ q, q < s.heap.size → A q → gA G q) (hz : ∀ q, z ≤ q ∧ q < z + 609 → gA G q) (hzA : ∀ q, z ≤ q ∧ q < z + 609 → A q) (hP : CQ G z σ H) (hk : kC b C) (lk : Cond.methodLink own idx y ∈ TB) (hin : Cond.instanceMethod y ∈ TB) (hse : Cond.selects C y y ∈ TB) (mv : MV y bytes maxL ret n) (hM : CtT (subG G z) l y bytes maxL ret h2 (.ref (z + b) :: As) σ k σ') (hfl : l.stackTraces = false) (hh : h2 < h) (hst : st0 = As.reverse ++ .ref (z + b) :: rest) (hn : As.length = n) (hcat : (rest.map fun v => v.category).sum ≤ 8) (hls : ls.size = nL) (hd : decode cc pc = .ok (.invokevirtual idx, 3)) (hc1 : cells + 1 ≤ R.cells) (hc2 : slots + 6 ≤ R.slots)
    (kk : ∀ (H1 : Heap) (locs1 : List Loc) (q : Addr) (ce : Cell), CQ G z σ' H1 → va_S A s.heap H1 locs1 → H1[q]? = some ce → ce.vm = .none → s.vm.findClass (exN k) = some ce.cls → vx_W p l e R s m args below meth c H1 locs1 (cells + 1) (slots + 6) Q (F0 m pc ls rest) q) : W p l e R s m args below meth c H locs cells slots Q (F0 m pc ls st0) := by
  have hr : vx_Run p l e R s m args below meth c H locs cells slots 1 6 (F0 m pc ls st0) rest (fun _ _ _ => False) (fun E st t => E = exN k ∧ va_P (gDD (subG G z)) vwCl (wl (subG G z) σ') t.heap ∧ va_F (gA (subG G z)) st t) (gA (subG G z)) := vx_runV X.1 (hM hfl) ⟨cBT_of X lk mv hh, X.1.2.2.2.2 _ hin, X.1.2.2.2.2 _ hse⟩ ⟨GP_blind _ _, cl_recv X hP hk, cl_pre X hS hA hz hP⟩ rfl hn hls hst (lv_room (ls := ls) (rest := rest) (pc := pc) (m := m) hcat) hd ⟨hc1, hc2⟩
  intro T hT X1
  rcases hr T hT X1 with ⟨v, st₀, t, T', L, h0, X', hL, e1, e2, hv, st⟩ | ⟨q, st₀, t, T', L, E, ce, h0, X', hL, e1, e2, ⟨hE, hP2, hz2, hk2⟩, hce, hcv, hcl, st⟩
  · exact hv.elim
  · rw [h0] at hz2 hk2
    subst hE
    have hz1 : H.size ≤ T'.heap.size := by rw [e1]; exact hz2
    obtain ⟨t2, a1, b1⟩ := kk T'.heap (locs ++ L) q ce ⟨by rw [e1]; exact hP2, Nat.le_trans hP.2 hz1⟩ ⟨Nat.le_trans hS.1 hz1, fun q h1 h2 => by rw [e1, hk2 q (Nat.lt_of_lt_of_le h1 hS.1) (fun h3 => h2 (hzA q h3))]; exact hS.2.1 q h1 h2, fun q hq => by
      rcases List.mem_append.mp hq with h | h
      · exact hS.2.2 q h
      · exact hzA _ (hL q h)⟩ (by rw [e1]; exact hce) hcv hcl T' rfl X'
    exact ⟨t2, st.trans a1, b1⟩
end
set_option maxHeartbeats 4000000 in
theorem cz_tries0 {G : Gt} {l : Launch} {z sz : Nat} {step : Int32} {σ σ1 : St} {r : Int32} (hf : pf_X10_attempt 0 0 step σ = some (.inr r, σ1)) (hG : AllA G) (hgz0 : gz G ≤ z) : CtZ G l yL_tries cL_tries 3 [(0, 6, 7, 38)] 11 [.ref z, .int step] sz (zA z) (fun U => CQ G z σ U.heap) r (fun H => CQ G z σ1 H) := by
  refine met_Z (by decide +kernel) (Nat.le_of_ble_eq_true rfl) ?_
  intro p e s m args below meth c Q ls hfl htab X hsz hP hr hl
  have hx := X.1.1
  have hb := X.1.2.1
  have hgz : gz G ≤ sz := by rw [← hsz]; exact X.2.1.2.1
  have hA : ∀ q, q < s.heap.size → frA (zA z) sz q → gA G q := fun q h8 h9 => hG q (by simp only [frA, zA] at h9; omega)
  have hzz : ∀ q, z ≤ q ∧ q < z + 609 → gA G q := fun q h9 => hG q (by omega)
  have hzA : ∀ q, z ≤ q ∧ q < z + 609 → frA (zA z) sz q := fun q h9 => Or.inl h9
  have hS : va_S (frA (zA z) sz) s.heap s.heap [] := va_S.rf
  have hl : lv_has ls 3 [(0, .ref z), (1, .int step)] := hl
  refine lv_aload_n hx hb dL_tries_0 rfl (lv_at hl 0 rfl) ?_
  refine lv_iconst (v := 0) hx hb dL_tries_1 (by decide) ?_
  refine lv_iload_n hx hb dL_tries_2 rfl (lv_at hl 1 rfl) ?_
  refine callC_V (b := 0) (z := z) (σ := σ) (As := [.int 0, .int step]) X hS hA hzz hzA hP (C := RX10) (kC_X10 kd_0) m_6_210 m_6_211 m_6_212 mv_X10_attempt (c_X10_attempt (G := subG G z) (v0 := 0) kd_0 hf) (by decide) rfl rfl (Nat.le_of_ble_eq_true rfl) hl.1 dL_tries_3 (Nat.zero_le _) (Nat.zero_le _) fun H2 locs2 hP2 z2 o2 hS3 => ?_
  exact hr _ _ _ _ _ _ dL_tries_6 hP2 hS3 (Nat.zero_le _) (Nat.zero_le _)
set_option maxHeartbeats 4000000 in
theorem cz_tries1 {G : Gt} {l : Launch} {z sz : Nat} {step : Int32} {σ σ1 : St} (hf : pf_X10_attempt 0 0 step σ = some (.inl 3, σ1)) (hG : AllA G) (hgz0 : gz G ≤ z) : CtZ G l yL_tries cL_tries 3 [(0, 6, 7, 38)] 11 [.ref z, .int step] sz (zA z) (fun U => CQ G z σ U.heap) (-1001) (fun H => CQ G z σ1 H) := by
  refine met_Z (by decide +kernel) (Nat.le_of_ble_eq_true rfl) ?_
  intro p e s m args below meth c Q ls hfl htab X hsz hP hr hl
  have hx := X.1.1
  have hb := X.1.2.1
  have hgz : gz G ≤ sz := by rw [← hsz]; exact X.2.1.2.1
  have hA : ∀ q, q < s.heap.size → frA (zA z) sz q → gA G q := fun q h8 h9 => hG q (by simp only [frA, zA] at h9; omega)
  have hzz : ∀ q, z ≤ q ∧ q < z + 609 → gA G q := fun q h9 => hG q (by omega)
  have hzA : ∀ q, z ≤ q ∧ q < z + 609 → frA (zA z) sz q := fun q h9 => Or.inl h9
  have hS : va_S (frA (zA z) sz) s.heap s.heap [] := va_S.rf
  have hl : lv_has ls 3 [(0, .ref z), (1, .int step)] := hl
  refine lv_aload_n hx hb dL_tries_0 rfl (lv_at hl 0 rfl) ?_
  refine lv_iconst (v := 0) hx hb dL_tries_1 (by decide) ?_
  refine lv_iload_n hx hb dL_tries_2 rfl (lv_at hl 1 rfl) ?_
  refine tcallC_V (b := 0) (z := z) (σ := σ) (As := [.int 0, .int step]) X hS hA hzz hzA hP (C := RX10) (kC_X10 kd_0) m_6_210 m_6_211 m_6_212 mv_X10_attempt (x_X10_attempt (G := subG G z) (v0 := 0) kd_0 hf) hfl (by decide) rfl rfl (Nat.le_of_ble_eq_true rfl) hl.1 dL_tries_3 (Nat.le_refl _) (Nat.le_refl _) fun H2 locs2 q ce hP2 hS3 hq hv hcl => ?_
  refine vx_catch (own := RL) (E := exN 3) (name := exN 3) X.1.2.2.2.1 [] ⟨0, 6, 7, 38⟩ [] (htab.trans rfl) (fun z hz => absurd hz List.not_mem_nil) rfl (by decide) (X.1.2.2.2.2 _ m_6_209) (X.1.2.2.2.2 _ m_2_235) hq hv hcl ?_
  refine lv_astore_n (lv' := [(2, .ref q), (0, .ref z), (1, .int step)]) hx hb dL_tries_7 rfl hl (by decide) rfl ?_
  intro ls2 hl2
  refine lv_sipush (v := -1001) hx hb dL_tries_8 (by decide) ?_
  exact hr _ _ _ _ _ _ dL_tries_11 hP2 hS3 (Nat.le_refl _) (Nat.le_refl _)
