/-! CALLS whose named method is not the one that runs: private methods of a superclass, overridden ones, super.m(..) -/
def Slc (C : String) (y1 y : MethodName) (n : Nat) : Prop := (Cond.selects C y1 y ∈ TB ∨ (y1 = y ∧ Cond.privateMethod y ∈ TB)) ∧ (∃ C' z z', Cond.selects C' z z' ∈ TB ∧ z'.cls = y1.cls) ∧ (∃ C' z z', Cond.selects C' z z' ∈ TB ∧ z'.cls = y.cls) ∧ (Cond.declares y1 ∈ TB ∨ (Cond.instanceMethod y1 ∈ TB ∧ ∃ b k r, Cond.code y1 b k r ∈ TB)) ∧ Cond.instanceMethod y ∈ TB ∧ (y1.cls ≠ "java/lang/invoke/MethodHandle" ∧ y1.cls ≠ "java/lang/invoke/VarHandle") ∧ (parseMethodDescriptor y1.desc).map (fun d => d.parameters.length) = some n
section CXX
variable {p : Program} {l : Launch} {e : Env} {R : Room} {s : State} {m : MethodId} {args : Array Value} {below : List Frame} {meth : Method} {c : Code}
theorem cx_named {y1 : MethodName} (hts : ∀ w ∈ TB, w.before args s = true) (h : Cond.declares y1 ∈ TB ∨ (Cond.instanceMethod y1 ∈ TB ∧ ∃ b k r, Cond.code y1 b k r ∈ TB)) : ∃ r0 r, s.methodNamed? y1 = some r0 ∧ s.vm.method? r0 = some r ∧ r.isStatic = false ∧ parseMethodDescriptor y1.desc = some r.sig := by
  rcases h with h | ⟨h, b, k, r, hc⟩
  · exact Cond.declares_spec (hts _ h)
  · obtain ⟨mk, methM, hnamed, hmethM, hstM, -⟩ := Cond.instanceMethod_spec (hts _ h)
    obtain ⟨methM', cM, hmethM', -, -, -, -, -, -, hsigM⟩ := Cond.code_spec hnamed (hts _ hc)
    cases hmethM.symm.trans hmethM'
    exact ⟨mk, methM, hnamed, hmethM, hstM, hsigM⟩
theorem cx_class {y : MethodName} {r0 : MethodId} (hts : ∀ w ∈ TB, w.before args s = true) (hn : s.methodNamed? y = some r0) (h : ∃ C' z z', Cond.selects C' z z' ∈ TB ∧ z'.cls = y.cls) : ∃ k, s.vm.classes[r0.cls]? = some k ∧ k.isInterface = false := by
  obtain ⟨C', z, z', h1, h2⟩ := h
  obtain ⟨-, -, m', -, -, q3, -, kr, hkr, hkri⟩ := Cond.selects_spec (hts _ h1)
  have e1 := findClass_of_methodNamed q3
  rw [h2, findClass_of_methodNamed hn] at e1
  exact ⟨kr, by rw [show r0.cls = m'.cls from Option.some.inj e1]; exact hkr, hkri⟩
theorem cx_call {T : State} {locs : List Loc} {cells slots : Nat} (X : Stand p l e R s m args below meth c T locs cells slots) (hexec : p.tables.exec = Jvm.exec) {own C : String} {index : Nat} {y1 y : MethodName}
    (hown : s.vm.findClass own = some m.cls) (hts : ∀ w ∈ TB, w.before args s = true) (hlink : (Cond.methodLink own index y1).before args s = true) {argsL rest : List Value} (hs : Slc C y1 y argsL.length)
    {W : Nat} {Pre : Pt → Array Value → Prop} {Post : Pt → Array Value → Option Value → Pt → Prop} (hK : Back l R p e below s args y 3 W Pre Post)
    {b : Addr} {cellB : Cell} (hcell : T.heap[b]? = some cellB) (hobj : cellB.vm.isStatics = false) (hcls : s.vm.findClass C = some cellB.cls)
    {g : JFrame} (hg : g.method = m) (hsize : g.locals.size = c.maxLocals)
    (hstack : g.stack = argsL.reverse ++ .ref b :: rest) (hW : 2 * g.monitorRoom + (rest.map fun v => v.category).sum ≤ W) (hdg : decode c.code g.pc = .ok (.invokevirtual index, 3))
    (hpre : ∀ vm₁, s.WarmedH vm₁ → Pre ⟨T.setVm vm₁, locs, cells, slots⟩ (Value.ref b :: argsL).toArray) :
    ∃ (v : Option Value) (vm₁ : Vm) (B : Pt), s.WarmedH vm₁ ∧ Stand p l e R s m args below meth c B.U B.locs B.cells B.slots ∧ Post ⟨T.setVm vm₁, locs, cells, slots⟩ (Value.ref b :: argsL).toArray v B ∧
      ∀ target, Steps p.tables e below (B.U.setTop { g with pc := g.pc + 3, stack := v.toList ++ rest }) target → Steps p.tables e below (T.setTop g) target := by
  obtain ⟨hsel, hc1, hc2, hd1, hin, hy1, hlen⟩ := hs
  obtain ⟨r0, r, hn1, hm1, hst1, hsig⟩ := cx_named hts hd1
  obtain ⟨mk, methM, hnamed, hmethM, hstM, habM⟩ := Cond.instanceMethod_spec (hts _ hin)
  obtain ⟨kr, hkr, hkri⟩ := cx_class hts hn1 hc1
  obtain ⟨kP, hkP, hkPi⟩ := cx_class hts hnamed hc2
  have hselP : selectMethod e.platform s.vm cellB.cls r0 = .method mk := by
    rcases hsel with h | ⟨rfl, h⟩
    · obtain ⟨c2, r2, m2, q1, q2, q3, q4, -⟩ := Cond.selects_spec (hts _ h)
      cases hcls.symm.trans q1
      cases (State.methodFound?_of_named hn1 hy1).symm.trans q2
      cases hnamed.symm.trans q3
      rw [Launch.admits_selectMethod X.admits]
      exact q4
    · cases hn1.symm.trans hnamed
      exact selectMethod_private hmethM (Cond.privateMethod_at (hts _ h) r0 methM hnamed hmethM)
  have hl2 : argsL.length = r.sig.parameters.length := by
    rw [hsig] at hlen
    exact (Option.some.inj hlen).symm
  obtain ⟨vm₁, X₁, hstep₁⟩ := X.invokevirtual hexec hown hlink hn1 hm1 hst1 hkr hkri hy1 (a := b) (cell := cellB) hcell
    (fun z h => by rw [h] at hobj; cases hobj) hselP hmethM habM hkP hkPi (g := g) hg (argsL := argsL) (rest := rest) hl2 hstack hdg
  obtain ⟨v, B, X', hpost, hsteps⟩ := hK m meth c ⟨T.setVm vm₁, locs, cells, slots⟩ { g with stack := rest } (.invokevirtual index) mk (Value.ref b :: argsL).toArray X₁ hg hsize hdg hW (X₁.named hnamed) (hpre vm₁ X₁.warmed)
  exact ⟨v, vm₁, B, X₁.warmed, X', hpost, fun target h => hstep₁ _ fun acts => by rw [doInvoke_state]; exact hsteps.trans h⟩
variable {H : Heap} {locs : List Loc} {cells slots : Nat}
theorem cx_run {y1 y : MethodName} {bytes cc : ByteArray} {maxL nL mc ms index : Nat} {ret : Option FieldType} {rm : Room} {Pc : Array Value → State → Prop} {Qc : Array Value → State → Outcome → State → Prop} {free : Addr → Prop} {own C : String} {b : Addr} {As rest : List Value} {g : JFrame} {n h2 : Nat}
    (S : CallFix p m c cc nL s args TB own) (hrm : rm = rmC h2 mc ms) (hM : Met l y [.code y bytes maxL ret] rm Pc Qc mc ms free) (hlink : Cond.methodLink own index y1 ∈ TB) (hs : Slc C y1 y As.length) (mv : MV y bytes maxL ret n) (hR : h2 + 1 ≤ R.frames ∧ 8 + (maxL + 11) + 40 * h2 ≤ R.locals) (hp : PreV s H C b Pc As)
    (hg : g.method = m) (hsize : g.locals.size = nL) (hstack : g.stack = As.reverse ++ .ref b :: rest) (hW : 2 * g.monitorRoom + (rest.map fun v => v.category).sum ≤ 8) (hdg : decode cc g.pc = .ok (.invokevirtual index, 3)) (hf : cells + mc ≤ R.cells ∧ slots + ms ≤ R.slots) :
    va_Run p l e R s m args below meth c H locs cells slots mc ms g rest (Qc (Value.ref b :: As).toArray) free := by
  obtain ⟨m1, m2, m3, -, -⟩ := mv
  obtain ⟨hx, hb, hml, ho, hts⟩ := S
  subst hrm
  have hini := hts _ m3
  have hK : Back l R p e below s args y 3 8 (PreOf R mc ms Pc) (PostOf Qc mc ms free) := back_of (bytes := bytes) (maxL := maxL) (ret := ret) hM hp.1 rfl rfl (by show h2 + 1 ≤ _; exact hR.1) (by show 8 + (maxL + 11) + 40 * h2 ≤ _; exact hR.2) (pay_in hts (mV_good m1 m2)) List.mem_cons_self (fun a' U hW => word_at hW (Or.inl (by first | rfl | simp [Cond.onTables, Cond.keeps, Cond.steady])) hini)
  obtain ⟨-, ⟨cellB, hcB, hoB, hclB⟩, hPc⟩ := hp
  intro T hT X
  obtain ⟨v, vm₁, ⟨U', l2, c2, s2⟩, hW₁, X', ⟨g', mk, t, L, e1, e2, hq, h1, hL, h2', h3⟩, st⟩ := cx_call X hx ho hts (hts _ hlink) hs hK (by rw [hT]; exact hcB) hoB hclB hg (hsize.trans hml.symm) (rest := rest) hstack hW (by rw [hb]; exact hdg)
    (fun vm₁ hW₁ => ⟨hf.1, hf.2, hPc (T.setVm vm₁) hT hW₁⟩)
  dsimp only [Pt.U, Pt.locs, Pt.cells, Pt.slots] at X' e1 e2 h1 h2' h3 st
  subst h1; subst h2'; subst h3
  exact ⟨v, (T.setVm vm₁).calling g' mk (Value.ref b :: As).toArray, t, U', L, hT, X', hL, e1, e2, hq, st⟩
end CXX
section CXR
variable {G : Gt} {p : Program} {l : Launch} {e : Env} {R : Room} {s : State} {m : MethodId} {args : Array Value} {below : List Frame} {meth : Method} {c : Code} {H : Heap} {locs : List Loc} {cells slots : Nat} {Q : State → Prop}
variable {cc bytes : ByteArray} {nL h h2 maxL n idx cells0 slots0 b mc ms : Nat} {own C : String} {pc : Nat} {ls : Array Slot} {rest st0 : List Value} {y1 y : MethodName} {ret : Option FieldType} {As : List Value} {ov : Option Value} {Pf : State → Prop} {Qf : Option Value → Heap → Prop} {fr A : Nat → Prop}
theorem cx_room (X : Cx G p R s m args c cells0 slots0 cc nL own h) (hn : maxL ≤ 12) (hh : h2 < h) : h2 + 1 ≤ R.frames ∧ 8 + (maxL + 11) + 40 * h2 ≤ R.locals := by
  obtain ⟨-, -, hf, hlo, -⟩ := X
  omega
theorem callP_X (X : Cx G p R s m args c cells0 slots0 cc nL own h) (hS : va_S A s.heap H locs) (hA : ∀ q, q < s.heap.size → A q → gA G q) (hM0 : Mv Pf) (hPf : ∀ U : State, U.heap = H → s.vm.Alike U.vm → Pf U) (hv : ∃ cell : Cell, H[b]? = some cell ∧ cell.vm.isStatics = false ∧ s.vm.findClass C = some cell.cls) (lk : Cond.methodLink own idx y1 ∈ TB) (hs0 : Slc C y1 y As.length) (mv : MV y bytes maxL ret n) (hn : maxL ≤ 12) (hM : CtP G l y bytes maxL ret h2 (.ref b :: As) Pf ov) (hh : h2 < h) (hst : st0 = As.reverse ++ .ref b :: rest) (hcat : (rest.map fun v => v.category).sum ≤ 8) (hls : ls.size = nL) (hd : decode cc pc = .ok (.invokevirtual idx, 3)) (hc : cells ≤ R.cells) (hs : slots ≤ R.slots)
    (kk : W p l e R s m args below meth c H locs cells slots Q (F0 m (pc + 3) ls (ov.toList ++ rest))) : W p l e R s m args below meth c H locs cells slots Q (F0 m pc ls st0) :=
  r_back (a := (.ref b :: As).toArray) (cx_run (h2 := h2) X.1 rfl hM lk hs0 mv (cx_room X hn hh) ⟨Pre0_blind _ _ hM0, hv, pR_of X hS hA hPf⟩ rfl hls hst (lv_room (ls := ls) (rest := rest) (pc := pc) (m := m) hcat) hd ⟨hc, hs⟩) kk
theorem callH_X (X : Cx G p R s m args c cells0 slots0 cc nL own h) (hS : va_S A s.heap H locs) (hA : ∀ q, q < s.heap.size → A q → gA G q) (hM0 : Mv Pf) (hPf : ∀ U : State, U.heap = H → s.vm.Alike U.vm → Pf U) (hfr : ∀ q, frA fr H.size q → A q) (hv : ∃ cell : Cell, H[b]? = some cell ∧ cell.vm.isStatics = false ∧ s.vm.findClass C = some cell.cls) (lk : Cond.methodLink own idx y1 ∈ TB) (hs0 : Slc C y1 y As.length) (mv : MV y bytes maxL ret n) (hn : maxL ≤ 12) (hM : CtH G l y bytes maxL ret h2 mc ms (.ref b :: As) H.size fr Pf Qf) (hh : h2 < h) (hst : st0 = As.reverse ++ .ref b :: rest) (hcat : (rest.map fun v => v.category).sum ≤ 8) (hls : ls.size = nL) (hd : decode cc pc = .ok (.invokevirtual idx, 3)) (hc : cells + mc ≤ R.cells) (hs : slots + ms ≤ R.slots)
    (kk : ∀ (ov : Option Value) (H1 : Heap) (locs1 : List Loc), Qf ov H1 → H.size ≤ H1.size → (∀ q : Nat, q < H.size → ¬ fr q → H1[q]? = H[q]?) → va_S A s.heap H1 locs1 → W p l e R s m args below meth c H1 locs1 (cells + mc) (slots + ms) Q (F0 m (pc + 3) ls (ov.toList ++ rest))) : W p l e R s m args below meth c H locs cells slots Q (F0 m pc ls st0) :=
  h_back (a := (.ref b :: As).toArray) hS hfr (cx_run (h2 := h2) X.1 rfl hM lk hs0 mv (cx_room X hn hh) ⟨Pre0_blind _ _ (Mv.and (Mv.h fun K => K.size = H.size) hM0), hv, pH_of X hS hA hPf⟩ rfl hls hst (lv_room (ls := ls) (rest := rest) (pc := pc) (m := m) hcat) hd ⟨hc, hs⟩) kk
/-- super.m(..) of the superclass y.cls of own -/
def Sup (own : String) (y : MethodName) (n : Nat) : Prop := Cond.sameMethod y.cls y.cls y.name y.desc ∈ TB ∧ Cond.superclass own y.cls ∈ TB ∧ Cond.instanceMethod y ∈ TB ∧ y.name ≠ "<init>" ∧ (parseMethodDescriptor y.desc).map (fun d => d.parameters.length) = some n
theorem sup_cw (X : Cx G p R s m args c cells0 slots0 cc nL own h) (lk : Cond.methodLink own idx y ∈ TB) (hs0 : Sup own y n) (mv : MV y bytes maxL ret n) (hn : maxL ≤ 12) (hh : h2 < h) : va_CS R s args own idx y bytes maxL ret [.code y bytes maxL ret] (rmC h2 mc ms) mc ms n := by
  obtain ⟨s1, s2, s3, s4, s5⟩ := hs0
  obtain ⟨m1, m2, m3, -, -⟩ := mv
  have hts := X.1.2.2.2.2
  obtain ⟨r1, r2⟩ := cx_room X hn hh
  refine ⟨⟨rfl, rfl, r1, r2, pay_in hts (mV_good m1 m2), List.mem_cons_self⟩, hts _ lk, hts _ s1, hts _ s2, hts _ s3, hts _ m3, hts _ m1, s4, fun sig hq => ?_⟩
  rw [hq] at s5
  exact (Option.some.inj s5).symm
theorem callP_U {ci : Nat} {fs : List Value} {r : vw_C} (X : Cx G p R s m args c cells0 slots0 cc nL own h) (hS : va_S A s.heap H locs) (hA : ∀ q, q < s.heap.size → A q → gA G q) (hM0 : Mv Pf) (hPf : ∀ U : State, U.heap = H → s.vm.Alike U.vm → Pf U) (hf : va_at (gDD G) vwCl (b, .inr (ci, fs)) H) (hcl : vwCl[ci]? = some r) (lk : Cond.methodLink own idx y ∈ TB) (hs0 : Sup own y n) (mv : MV y bytes maxL ret n) (hn : maxL ≤ 12) (hM : CtP G l y bytes maxL ret h2 (.ref b :: As) Pf ov) (hh : h2 < h) (hst : st0 = As.reverse ++ .ref b :: rest) (hna : As.length = n) (hcat : (rest.map fun v => v.category).sum ≤ 8) (hls : ls.size = nL) (hd : decode cc pc = .ok (.invokespecial idx, 3)) (hc : cells ≤ R.cells) (hs : slots ≤ R.slots)
    (kk : W p l e R s m args below meth c H locs cells slots Q (F0 m (pc + 3) ls (ov.toList ++ rest))) : W p l e R s m args below meth c H locs cells slots Q (F0 m pc ls st0) := by
  obtain ⟨-, hfc, hk⟩ := X.2.1.1.1 ci r hcl
  exact r_back (a := (.ref b :: As).toArray) (va_runSU ⟨hfc, hk⟩ X.1 hM (sup_cw X lk hs0 mv hn hh) ⟨Pre0_blind _ _ hM0, p_recv X hf hcl, pR_of X hS hA hPf⟩ rfl hna hls hst (lv_room (ls := ls) (rest := rest) (pc := pc) (m := m) hcat) hd ⟨hc, hs⟩) kk
theorem callH_U {ci : Nat} {fs : List Value} {r : vw_C} (X : Cx G p R s m args c cells0 slots0 cc nL own h) (hS : va_S A s.heap H locs) (hA : ∀ q, q < s.heap.size → A q → gA G q) (hM0 : Mv Pf) (hPf : ∀ U : State, U.heap = H → s.vm.Alike U.vm → Pf U) (hfr : ∀ q, frA fr H.size q → A q) (hf : va_at (gDD G) vwCl (b, .inr (ci, fs)) H) (hcl : vwCl[ci]? = some r) (lk : Cond.methodLink own idx y ∈ TB) (hs0 : Sup own y n) (mv : MV y bytes maxL ret n) (hn : maxL ≤ 12) (hM : CtH G l y bytes maxL ret h2 mc ms (.ref b :: As) H.size fr Pf Qf) (hh : h2 < h) (hst : st0 = As.reverse ++ .ref b :: rest) (hna : As.length = n) (hcat : (rest.map fun v => v.category).sum ≤ 8) (hls : ls.size = nL) (hd : decode cc pc = .ok (.invokespecial idx, 3)) (hc : cells + mc ≤ R.cells) (hs : slots + ms ≤ R.slots)
    (kk : ∀ (ov : Option Value) (H1 : Heap) (locs1 : List Loc), Qf ov H1 → H.size ≤ H1.size → (∀ q : Nat, q < H.size → ¬ fr q → H1[q]? = H[q]?) → va_S A s.heap H1 locs1 → W p l e R s m args below meth c H1 locs1 (cells + mc) (slots + ms) Q (F0 m (pc + 3) ls (ov.toList ++ rest))) : W p l e R s m args below meth c H locs cells slots Q (F0 m pc ls st0) := by
  obtain ⟨-, hfc, hk⟩ := X.2.1.1.1 ci r hcl
  exact h_back (a := (.ref b :: As).toArray) hS hfr (va_runSU ⟨hfc, hk⟩ X.1 hM (sup_cw X lk hs0 mv hn hh) ⟨Pre0_blind _ _ (Mv.and (Mv.h fun K => K.size = H.size) hM0), p_recv X hf hcl, pH_of X hS hA hPf⟩ rfl hna hls hst (lv_room (ls := ls) (rest := rest) (pc := pc) (m := m) hcat) hd ⟨hc, hs⟩) kk
end CXR
