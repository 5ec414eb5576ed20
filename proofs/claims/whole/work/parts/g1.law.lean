/-! THE LAW: rows of its helpers -/
/-- a helper's contract: it returns; it may leave one exception behind -/
def CtL (G : Gt) (l : Launch) (y : MethodName) (cc : ByteArray) (maxL : Nat) (hh : List (Nat × Nat × Nat × Nat)) (h : Nat) (av : List Value) (σ : St) (r : Int32) (σ' : St) : Prop :=
  l.stackTraces = false → Met l y [.codeWith y cc maxL (some .int) hh] (rmT h) (va_Pc av (GP G σ)) (Qx G (some (.int r)) σ') 1 6 (gA G)
theorem Met.ofH {l : Launch} {y : MethodName} {ws ws' : List Cond} {rm : Room} {Pc : Array Value → State → Prop} {Qc : Array Value → State → Outcome → State → Prop} {mc ms : Nat} {free : Addr → Prop} {cc : ByteArray} {maxL : Nat} {ret : Option FieldType} {hh : List (Nat × Nat × Nat × Nat)}
    (hy : plainName y.cls = true) (hw : ws = Cond.codeWith y cc maxL ret hh :: ws')
    (body : ∀ p e s m args below meth c s₁, BodyLoose p l y (headSpec ws rm) cc maxL ret e s m args below meth c s₁ → c.maxLocals = maxL → c.exceptionTable.toList = tableOf hh → Pc args s →
      W p l e (headSpec ws rm).room s m args below meth c s.heap [] 0 0 (MQ below Qc args s mc ms free) (entryFrame m args maxL)) : Met l y ws rm Pc Qc mc ms free := by
  refine MetFree.of_bodyS (code := cc) (maxLocals := maxL) (ret := ret) hy ?_ ?_
  · intro args s m h hn
    obtain ⟨m9, meth, c, hn9, h1, h2, h3, h4, -, h5, h6, -⟩ := Cond.codeWith_spec (atoms_spec (ws := ws) h _ (by rw [hw]; exact List.mem_cons_self))
    cases hn.symm.trans hn9
    exact ⟨meth, c, h1, h2, h3, h4, h5, h6⟩
  · intro p e s m args below meth c s₁ B hml hP _
    have hh0 : s₁.heap = s.heap := by rw [B.state]; rfl
    obtain ⟨t, a1, o, b1, b2, b3⟩ := body p e s m args below meth c s₁ B hml (vx_table (x := y) B (atoms_spec (ws := ws) B.pre _ (by rw [hw]; exact List.mem_cons_self))) hP s₁ hh0 (Stand.of_body B)
    exact ⟨t, o, a1, b1, b2, ⟨b3.1, b3.2⟩⟩
section
variable {G : Gt} {l : Launch} {y : MethodName} {cc : ByteArray} {maxL : Nat} {h : Nat} {av : List Value} {σ σ' : St} {hh : List (Nat × Nat × Nat × Nat)} {r : Int32}
theorem met_L (hy : plainName y.cls = true) (hlen : (lg_sl av).length ≤ maxL)
    (body : ∀ (p : Program) (e : Env) (s : State) (m : MethodId) (args : Array Value) (below : List Frame) (meth : Method) (c : Code) (Q : State → Prop) (ls : Array Slot), l.stackTraces = false → c.exceptionTable.toList = tableOf hh → Cx G p (rmT h) s m args c 0 0 cc maxL y.cls h → Cx G p (rmT h) s m args c 1 6 cc maxL y.cls h → GW G σ s s.heap [] → (∀ cells slots, cells ≤ 1 → slots ≤ 6 → R_I G p l e (rmT h) s m args below meth c cells slots Q cc r σ') → lv_has ls maxL (lv_args 0 av) → W p l e (rmT h) s m args below meth c s.heap [] 0 0 Q (F0 m 0 ls [])) :
    CtL G l y cc maxL hh h av σ r σ' := by
  intro hfl
  refine Met.ofH (cc := cc) (maxL := maxL) (ret := some .int) (hh := hh) hy rfl ?_
  intro p e s m args below meth c s₁ B hml htab hv
  obtain ⟨ha, htb, hE, hP⟩ := hv
  have X : Cx G p (rmT h) s m args c 0 0 cc maxL y.cls h := ⟨⟨B.exec, B.bytes, hml, findClass_of_methodNamed B.named, TB_warm (State.WarmedH.refl s) htb⟩, hE, Nat.le_refl _, Nat.le_refl _, Nat.zero_le _, Nat.zero_le _⟩
  have X1 : Cx G p (rmT h) s m args c 1 6 cc maxL y.cls h := ⟨X.1, hE, Nat.le_refl _, Nat.le_refl _, Nat.le_refl _, Nat.le_refl _⟩
  have hW : GW G σ s s.heap [] := ⟨hP, va_S.rf⟩
  subst ha
  have hl := lv_entry av (n := maxL) hlen
  rw [lg_entry_eq]
  generalize (lg_sl av ++ List.replicate (maxL - (lg_sl av).length) Slot.unset).toArray = ls at hl ⊢
  have hlocks := B.notSynchronized
  refine body p e s m av.toArray below meth c _ ls hfl htab X X1 hW ?_ hl
  intro cells slots hc hs pc H locs ls1 hd hW1
  exact W.widen hc hs (W.iret X.1.1 X.1.2.1 B.returns (fun t ht hw => ⟨rfl, by rw [ht]; exact hW1.1, hW1.2.F ht⟩) hW1.2.2.2 hd hlocks)
end
section
variable {G : Gt} {p : Program} {l : Launch} {e : Env} {R : Room} {s : State} {m : MethodId} {args : Array Value} {below : List Frame} {meth : Method} {c : Code} {H : Heap} {locs : List Loc} {cells slots : Nat} {Q : State → Prop}
variable {cc bytes : ByteArray} {nL h h2 maxL n idx : Nat} {own C : String} {pc : Nat} {ls : Array Slot} {rest st0 : List Value} {σ σ' : St} {y : MethodName} {ret : Option FieldType} {As : List Value} {b k : Nat}
/-- a call that throws, caught here -/
theorem tcall_VC (X : Cx G p R s m args c cells slots cc nL own h) (hW : GW G σ s H locs) (hk : kC b C) (lk : Cond.methodLink own idx y ∈ TB) (hin : Cond.instanceMethod y ∈ TB) (hse : Cond.selects C y y ∈ TB) (mv : MV y bytes maxL ret n) (hM : CtT G l y bytes maxL ret h2 (.ref (gz G + b) :: As) σ k σ') (hfl : l.stackTraces = false) (hh : h2 < h) (hst : st0 = As.reverse ++ .ref (gz G + b) :: rest) (hn : As.length = n) (hcat : (rest.map fun v => v.category).sum ≤ 8) (hls : ls.size = nL) (hd : decode cc pc = .ok (.invokevirtual idx, 3)) (hc1 : cells + 1 ≤ R.cells) (hc2 : slots + 6 ≤ R.slots)
    (kk : ∀ (H1 : Heap) (locs1 : List Loc) (q : Addr) (ce : Cell), GW G σ' s H1 locs1 → H1[q]? = some ce → ce.vm = .none → s.vm.findClass (exN k) = some ce.cls → vx_W p l e R s m args below meth c H1 locs1 (cells + 1) (slots + 6) Q (F0 m pc ls rest) q) : W p l e R s m args below meth c H locs cells slots Q (F0 m pc ls st0) := by
  have hr : vx_Run p l e R s m args below meth c H locs cells slots 1 6 (F0 m pc ls st0) rest (fun _ _ _ => False) (fun E st t => E = exN k ∧ va_P (gDD G) vwCl (wl G σ') t.heap ∧ va_F (gA G) st t) (gA G) := vx_runV X.1 (hM hfl) ⟨cBT_of X lk mv hh, X.1.2.2.2.2 _ hin, X.1.2.2.2.2 _ hse⟩ (pV_of X hW hk) rfl hn hls hst (lv_room (ls := ls) (rest := rest) (pc := pc) (m := m) hcat) hd ⟨hc1, hc2⟩
  intro T hT X1
  rcases hr T hT X1 with ⟨v, st₀, t, T', L, h0, X', hL, e1, e2, hv, st⟩ | ⟨q, st₀, t, T', L, E, ce, h0, X', hL, e1, e2, ⟨hE, hP, hz, hk⟩, hce, hcv, hcl, st⟩
  · exact hv.elim
  · rw [h0] at hz hk
    subst hE
    obtain ⟨hP0, hS⟩ := hW
    obtain ⟨t2, a1, b1⟩ := kk T'.heap (locs ++ L) q ce ⟨by rw [e1]; exact hP, Nat.le_trans hS.1 (by rw [e1]; exact hz), fun q h1 h2 => by rw [e1, hk q (Nat.lt_of_lt_of_le h1 hS.1) h2]; exact hS.2.1 q h1 h2, fun q hq => by
      rcases List.mem_append.mp hq with h | h
      · exact hS.2.2 q h
      · exact hL q h⟩ (by rw [e1]; exact hce) hcv hcl T' rfl X'
    exact ⟨t2, st.trans a1, b1⟩
/-- what the tables say of a helper -/
def ML (y : MethodName) (cc : ByteArray) (maxL : Nat) (hh : List (Nat × Nat × Nat × Nat)) (n : Nat) : Prop := Cond.codeWith y cc maxL (some .int) hh ∈ TB ∧ goodWord (.codeWith y cc maxL (some .int) hh) = true ∧ Cond.initialized y.cls ∈ TB ∧ (y.cls ≠ "java/lang/invoke/MethodHandle" ∧ y.cls ≠ "java/lang/invoke/VarHandle" ∧ (parseMethodDescriptor y.desc).map (fun d => d.parameters.length) = some n) ∧ maxL ≤ 21
/-- the law calls a helper -/
theorem call_SL {hh : List (Nat × Nat × Nat × Nat)} {r : Int32} (X : Cx G p R s m args c cells slots cc nL own h) (hW : GW G σ s H locs) (lk : Cond.methodLink own idx y ∈ TB) (hsta : Cond.static y ∈ TB) (mv : ML y bytes maxL hh n) (hM : CtL G l y bytes maxL hh h2 As σ r σ') (hfl : l.stackTraces = false) (hlt : h2 < h) (hst : st0 = As.reverse ++ rest) (hn : As.length = n) (hcat : (rest.map fun v => v.category).sum ≤ 8) (hls : ls.size = nL) (hd : decode cc pc = .ok (.invokestatic idx, 3)) (hc1 : cells + 1 ≤ R.cells) (hc2 : slots + 6 ≤ R.slots)
    (kk : ∀ (H1 : Heap) (locs1 : List Loc), GW G σ' s H1 locs1 → W p l e R s m args below meth c H1 locs1 (cells + 1) (slots + 6) Q (F0 m (pc + 3) ls (.int r :: rest))) : W p l e R s m args below meth c H locs cells slots Q (F0 m pc ls st0) := by
  obtain ⟨m1, m2, m3, m4, m5⟩ := mv
  have hts := X.1.2.2.2.2
  have good : GoodIn TB [.codeWith y bytes maxL (some .int) hh] := by
    intro w hw
    rw [List.mem_singleton] at hw
    subst hw
    exact ⟨m1, good_of_word m2⟩
  have cw : vx_CSW R s args own idx y bytes maxL (some .int) hh [.codeWith y bytes maxL (some .int) hh] (rmT h2) 1 6 n := by
    refine ⟨⟨rfl, rfl, by show h2 + 1 ≤ R.frames; have := X.2.2.1; omega, by show 8 + (maxL + 11) + 40 * h2 ≤ R.locals; have := X.2.2.2.1; omega, pay_in hts good, List.mem_cons_self⟩, hts _ m1, hts _ m3, ⟨m4.1, m4.2.1⟩, fun sig h => ?_, hts _ lk, hts _ hsta⟩
    have h2 := m4.2.2
    rw [h] at h2
    exact (Option.some.inj h2).symm
  have hr : va_Run p l e R s m args below meth c H locs cells slots 1 6 (F0 m pc ls st0) rest (Qx G (some (.int r)) σ' As.toArray) (gA G) := vx_runSW X.1 (hM hfl) cw (pS_of X hW) (g := F0 m pc ls st0) rfl hn hls hst (lv_room (ls := ls) (rest := rest) (pc := pc) (m := m) hcat) hd ⟨hc1, hc2⟩
  intro T hT X1
  obtain ⟨v, st₀, t, T', L, h0, X', hL, e1, e2, ⟨hv, hP, hz, hk⟩, st⟩ := hr T hT X1
  cases hv
  rw [h0] at hz hk
  obtain ⟨hP0, hS⟩ := hW
  obtain ⟨t2, a1, b1⟩ := kk T'.heap (locs ++ L) ⟨by rw [e1]; exact hP, Nat.le_trans hS.1 (by rw [e1]; exact hz), fun q h1 h2 => by rw [e1, hk q (Nat.lt_of_lt_of_le h1 hS.1) h2]; exact hS.2.1 q h1 h2, fun q hq => by
      rcases List.mem_append.mp hq with h | h
      · exact hS.2.2 q h
      · exact hL q h⟩ T' rfl X'
  exact ⟨t2, st t2 a1, b1⟩
end
