/-! METHODS THAT MAKE AND CHANGE CELLS, by contract: which old cells may change, what holds afterwards -/
theorem va_S.new {A : Nat → Prop} {H0 H H1 : Heap} {locs : List Loc} (h : va_S A H0 H locs) (z : H1.size = H.size + 1) (o : ∀ q : Nat, q < H.size → H1[q]? = H[q]?) : va_S A H0 H1 locs := ⟨by have := h.1; omega, fun q h1 h2 => (o q (Nat.lt_of_lt_of_le h1 h.1)).trans (h.2.1 q h1 h2), h.2.2⟩
def frA (fr : Nat → Prop) (sz : Nat) : Nat → Prop := fun q => fr q ∨ sz ≤ q
def CtH (G : Gt) (l : Launch) (y : MethodName) (cc : ByteArray) (maxL : Nat) (ret : Option FieldType) (h mc ms : Nat) (av : List Value) (sz : Nat) (fr : Nat → Prop) (Pf : State → Prop) (Qf : Option Value → Heap → Prop) : Prop :=
  Met l y [.code y cc maxL ret] (rmC h mc ms) (va_Pc av (Pre0 G (fun U => U.heap.size = sz ∧ Pf U))) (fun _ st oc t => ∃ ov, oc = .returned ov ∧ Qf ov t.heap ∧ va_F (frA fr sz) st t) mc ms (frA fr sz)
theorem Mv.and {P Q : State → Prop} (h1 : Mv P) (h2 : Mv Q) : Mv fun U => P U ∧ Q U := fun U V a b q => ⟨h1 U V a b q.1, h2 U V a b q.2⟩
theorem Mv.true : Mv fun _ => True := fun _ _ _ _ _ => trivial
/-! texts: a string's cell and its bytes -/
def tB (t : List Nat) (i : Nat) : Int32 := nI (t.getD i 0)
/-- the text t at the cell a, its bytes at the cell b -/
def SF (a b : Nat) (t : List Nat) (U : State) (H : Heap) : Prop := va_O "java/lang/String" a (fun _ => False) U H ∧ va_OF "java/lang/String" "coder" "B" (.int 0) a (fun _ => False) U H ∧ va_OF "java/lang/String" "value" "[B" (.ref b) a (fun _ => False) U H ∧ va_T .byte b t.length (fun k => .int (tB t k)) (fun _ => False) U H
theorem SF.moved {a b : Nat} {t : List Nat} {u U : State} {H : Heap} (hv : u.vm.Alike U.vm) (h : SF a b t u H) : SF a b t U H := ⟨h.1.moved hv, h.2.1.moved hv, h.2.2.1.moved hv, h.2.2.2.moved hv⟩
theorem SF.lt {a b : Nat} {t : List Nat} {U : State} {H : Heap} (h : SF a b t U H) : a < H.size ∧ b < H.size := by
  obtain ⟨⟨c1, h1, -⟩, -, -, ⟨c2, h2, -⟩⟩ := h
  exact ⟨(Array.getElem?_eq_some_iff.mp h1).1, (Array.getElem?_eq_some_iff.mp h2).1⟩
theorem SF.kept {a b : Nat} {t : List Nat} {U : State} {H H1 : Heap} (h : SF a b t U H) (ha : H1[a]? = H[a]?) (hb : H1[b]? = H[b]?) : SF a b t U H1 := by
  obtain ⟨⟨c1, a1, a2⟩, ⟨p1, p2, p3, p4, c2, b1, b2, b3, b4⟩, ⟨q1, q2, q3, q4, c3, d1, d2, d3, d4⟩, ⟨c4, e1, e2⟩⟩ := h
  exact ⟨⟨c1, ha.trans a1, a2⟩, ⟨p1, p2, p3, p4, c2, b1, b2, ha.trans b3, b4⟩, ⟨q1, q2, q3, q4, c3, d1, d2, ha.trans d3, d4⟩, ⟨c4, hb.trans e1, e2⟩⟩
theorem SF.mv {a b : Nat} {t : List Nat} : Mv fun U => SF a b t U U.heap := fun U V hv hh q => by
  show SF a b t V V.heap
  rw [hh]; exact q.moved hv
/-- a text that was made -/
def ST (G : Gt) (a b : Nat) (t : List Nat) (H : Heap) : Prop := ∃ h z, va_at (gDD G) vwCl (a, .inr (14, [.ref b, .int 0, .int h, .int z])) H ∧ va_at (gDD G) vwCl (b, .inl (gty G 7, t.length, .inl (tB t))) H
theorem ST.kept {G : Gt} {a b : Nat} {t : List Nat} {H H1 : Heap} (h : ST G a b t H) (ha : H1[a]? = H[a]?) (hb : H1[b]? = H[b]?) : ST G a b t H1 := by
  obtain ⟨x, z, h1, h2⟩ := h
  exact ⟨x, z, h1.kept ha, h2.kept hb⟩
theorem ST.lt {G : Gt} {a b : Nat} {t : List Nat} {H : Heap} (h : ST G a b t H) : a < H.size ∧ b < H.size := by
  obtain ⟨x, z, h1, h2⟩ := h
  exact ⟨h1.lt, h2.lt⟩
theorem va_T_of {G : Gt} {s : State} {H : Heap} {b n : Nat} {f : Nat → Int32} (hK : va_K (gDD G) vwCl (tysG G) s) (h : va_at (gDD G) vwCl (b, .inl (gty G 7, n, .inl f)) H) : va_T .byte b n (fun k => .int (f k)) (fun _ => False) s H := by
  have h1 : H[b]? = some (vp_cell (gty G 7) (n, .inl f)) := h
  refine ⟨_, h1, (hK.2 7 _ rfl).1 n (fun j => .int (f j)), (fun q => by cases q), ?_, ?_, (fun j hj => ?_), fun q => q⟩
  · rw [vp_cell_i, arrV_size]; exact Nat.le_refl _
  · rw [vp_cell_i, arrV_size]
  · rw [vp_cell_i]; exact arrV_read _ _ hj
theorem ST.SF {G : Gt} {a b : Nat} {t : List Nat} {s : State} {H : Heap} (hK : va_K (gDD G) vwCl (tysG G) s) (hts : ∀ w ∈ TB, w.before #[] s = true) (h : ST G a b t H) : SF a b t s H := by
  obtain ⟨x, z, h1, h2⟩ := h
  obtain ⟨r, g1, cell, q1, q2, q3, q4⟩ := h1
  have hr : r = (RJ0, TJ0, 4) := Option.some.inj (g1.symm.trans rfl)
  subst hr
  obtain ⟨hS, hfc, kC, hkC, hkind⟩ := hK.1 14 (RJ0, TJ0, 4) rfl
  have fld : ∀ k, k < 4 → va_OF (TJ0 k).1 (TJ0 k).2.1 (TJ0 k).2.2.1 (vp_V [.ref b, .int 0, .int x, .int z] k) a (fun _ => False) s H := fun k hk => by
    obtain ⟨cf, kf, fi, f, hi, hsl⟩ := hS k hk
    exact ⟨cf, kf, fi, f, cell, hi, (u_facts hfc hkC (u_lays hts inTB_ST hk) hi).1, q1, (by rw [q3]; exact fun h => by cases h), (by rw [hsl]; exact q4 k hk), fun q => q⟩
  exact ⟨⟨cell, q1, (by rw [q3]; rfl), (by rw [q2]; exact hfc), fun q => q⟩, fld 1 (by decide), fld 0 (by decide), va_T_of hK h2⟩
section HR
variable {G : Gt} {p : Program} {l : Launch} {e : Env} {R : Room} {s : State} {m : MethodId} {args : Array Value} {below : List Frame} {meth : Method} {c : Code} {H : Heap} {locs : List Loc} {cells slots : Nat} {Q : State → Prop}
variable {cc bytes : ByteArray} {nL h h2 maxL n idx cells0 slots0 a b sz mc ms : Nat} {own host C : String} {pc : Nat} {ls : Array Slot} {rest st0 : List Value} {y : MethodName} {ret : Option FieldType} {As av : List Value} {ov : Option Value} {Pf : State → Prop} {Qf : Option Value → Heap → Prop} {fr A : Nat → Prop} {t : List Nat}
theorem s_get {o nm d : String} {v : Value} (X : Cx G p R s m args c cells0 slots0 cc nL own h) (hE : va_OF o nm d v a (fun _ => False) s H) (hl : Cond.fieldLink own idx o nm d ∈ TB) (hd : decode cc pc = .ok (.getfield idx, 3))
    (kk : W p l e R s m args below meth c H locs cells slots Q (F0 m (pc + 3) ls (v :: rest))) : W p l e R s m args below meth c H locs cells slots Q (F0 m pc ls (.ref a :: rest)) := by
  obtain ⟨cf, k, fi, f, cell, h1, h2, h3, h4, h5, h6⟩ := hE
  exact W.getf X.1.1 X.1.2.1 X.1.2.2.2.1 (X.1.2.2.2.2 _ hl) h1 h2 h3 h4 (v := v) h5 rfl rfl hd kk
theorem s_alen {ty : FieldType} {N : Nat} {f : Nat → Value} (X : Cx G p R s m args c cells0 slots0 cc nL own h) (hE : va_T ty b N f (fun _ => False) s H) (hd : decode cc pc = .ok (.arraylength, 1))
    (kk : W p l e R s m args below meth c H locs cells slots Q (F0 m (pc + 1) ls (.int (nI N) :: rest))) : W p l e R s m args below meth c H locs cells slots Q (F0 m pc ls (.ref b :: rest)) := by
  obtain ⟨cell, h1, h2, h3, h4, h5, h6, h7⟩ := hE
  exact W.alen (n := nI N) X.1.1 X.1.2.1 h1 h2 (by rw [h5]; rfl) rfl rfl hd kk
theorem s_bald {N i : Nat} {f : Nat → Int32} (X : Cx G p R s m args c cells0 slots0 cc nL own h) (hE : va_T .byte b N (fun k => .int (f k)) (fun _ => False) s H) (hi : i < N) (hN : N < 2 ^ 31) (hd : decode cc pc = .ok (.baload, 1))
    (kk : W p l e R s m args below meth c H locs cells slots Q (F0 m (pc + 1) ls (.int (f i) :: rest))) : W p l e R s m args below meth c H locs cells slots Q (F0 m pc ls (.int (nI i) :: .ref b :: rest)) := by
  obtain ⟨cell, h1, h2, h3, h4, h5, h6, h7⟩ := hE
  have ec : (nI i).toNatClampNeg = i := nI_clamp (by omega)
  refine W.bald (v := .int (f i)) X.1.1 X.1.2.1 h1 h2 h3 ?_ ?_ rfl rfl hd kk
  · rw [ec]
    rintro (q | q)
    · exact nI_pos (by omega) q
    · omega
  · rw [ec]; exact h6 i hi
theorem callP_R (X : Cx G p R s m args c cells0 slots0 cc nL own h) (hS : va_S A s.heap H locs) (hA : ∀ q, q < s.heap.size → A q → gA G q) (hM0 : Mv Pf) (hPf : ∀ U : State, U.heap = H → s.vm.Alike U.vm → Pf U) (hv : ∃ cell : Cell, H[b]? = some cell ∧ cell.vm.isStatics = false ∧ s.vm.findClass C = some cell.cls) (lk : Cond.methodLink own idx y ∈ TB) (hin : Cond.instanceMethod y ∈ TB) (hse : Cond.selects C y y ∈ TB) (mv : MV y bytes maxL ret n) (hM : CtP G l y bytes maxL ret h2 (.ref b :: As) Pf ov) (hh : h2 < h) (hst : st0 = As.reverse ++ .ref b :: rest) (hn : As.length = n) (hcat : (rest.map fun v => v.category).sum ≤ 8) (hls : ls.size = nL) (hd : decode cc pc = .ok (.invokevirtual idx, 3)) (hc : cells ≤ R.cells) (hs : slots ≤ R.slots)
    (kk : W p l e R s m args below meth c H locs cells slots Q (F0 m (pc + 3) ls (ov.toList ++ rest))) : W p l e R s m args below meth c H locs cells slots Q (F0 m pc ls st0) :=
  r_back (a := (.ref b :: As).toArray) (va_runV X.1 hM ⟨cB_of X lk mv hh, X.1.2.2.2.2 _ hin, X.1.2.2.2.2 _ hse⟩ ⟨Pre0_blind _ _ hM0, hv, pR_of X hS hA hPf⟩ rfl hn hls hst (lv_room (ls := ls) (rest := rest) (pc := pc) (m := m) hcat) hd ⟨hc, hs⟩) kk
/-- behind a call that makes or changes cells -/
theorem h_back {a : Array Value} (hS : va_S A s.heap H locs) (hfr : ∀ q, frA fr H.size q → A q) (hr : va_Run p l e R s m args below meth c H locs cells slots mc ms (F0 m pc ls st0) rest (fun st oc t => ∃ ov, oc = .returned ov ∧ Qf ov t.heap ∧ va_F (frA fr H.size) st t) (frA fr H.size))
    (kk : ∀ (ov : Option Value) (H1 : Heap) (locs1 : List Loc), Qf ov H1 → H.size ≤ H1.size → (∀ q : Nat, q < H.size → ¬ fr q → H1[q]? = H[q]?) → va_S A s.heap H1 locs1 → W p l e R s m args below meth c H1 locs1 (cells + mc) (slots + ms) Q (F0 m (pc + 3) ls (ov.toList ++ rest))) : W p l e R s m args below meth c H locs cells slots Q (F0 m pc ls st0) := by
  intro T hT X1
  obtain ⟨v, st₀, t, T', L, h0, X', hL, e1, e2, ⟨ov, hv, hq, hz, hk⟩, st⟩ := hr T hT X1
  cases hv
  rw [h0] at hz hk
  obtain ⟨t2, a1, b1⟩ := kk v T'.heap (locs ++ L) (by rw [e1]; exact hq) (by rw [e1]; exact hz) (fun q h1 h2 => by rw [e1]; exact hk q h1 (fun h3 => h3.elim h2 (fun h4 => by omega))) ⟨Nat.le_trans hS.1 (by rw [e1]; exact hz), fun q h1 h2 => by rw [e1, hk q (Nat.lt_of_lt_of_le h1 hS.1) (fun h3 => h2 (hfr q h3))]; exact hS.2.1 q h1 h2, fun q hq => by
      rcases List.mem_append.mp hq with h | h
      · exact hS.2.2 q h
      · exact hfr _ (hL q h)⟩ T' rfl X'
  exact ⟨t2, st t2 a1, b1⟩
theorem cC_of (X : Cx G p R s m args c cells0 slots0 cc nL own h) (lk : Cond.methodLink own idx y ∈ TB) (mv : MV y bytes maxL ret n) (hh : h2 < h) : CallB R s args own idx y bytes maxL ret [.code y bytes maxL ret] (rmC h2 mc ms) mc ms n := by
  obtain ⟨h1, h2', h3, h4, h5⟩ := mv
  obtain ⟨⟨-, -, -, -, hts⟩, -, hf, hlo, -⟩ := X
  exact callB_of n hts (mV_good h1 h2') rfl rfl rfl (hts _ h3) (hts _ lk) h4 ⟨by show h2 + 1 ≤ R.frames; omega, by show 8 + (maxL + 11) + 40 * h2 ≤ R.locals; omega⟩
theorem pH_of (X : Cx G p R s m args c cells0 slots0 cc nL own h) (hS : va_S A s.heap H locs) (hA : ∀ q, q < s.heap.size → A q → gA G q) (hPf : ∀ U : State, U.heap = H → s.vm.Alike U.vm → Pf U) : ∀ U : State, U.heap = H → s.WarmedH U.vm → va_Pc As (Pre0 G (fun U => U.heap.size = H.size ∧ Pf U)) As.toArray U := fun U hU hw => ⟨rfl, (X.envA hS hA hU hw).1, (X.envA hS hA hU hw).2, by rw [hU], hPf U hU hw.alike⟩
theorem callH_V (X : Cx G p R s m args c cells0 slots0 cc nL own h) (hS : va_S A s.heap H locs) (hA : ∀ q, q < s.heap.size → A q → gA G q) (hM0 : Mv Pf) (hPf : ∀ U : State, U.heap = H → s.vm.Alike U.vm → Pf U) (hfr : ∀ q, frA fr H.size q → A q) (hv : ∃ cell : Cell, H[b]? = some cell ∧ cell.vm.isStatics = false ∧ s.vm.findClass C = some cell.cls) (lk : Cond.methodLink own idx y ∈ TB) (hin : Cond.instanceMethod y ∈ TB) (hse : Cond.selects C y y ∈ TB) (mv : MV y bytes maxL ret n) (hM : CtH G l y bytes maxL ret h2 mc ms (.ref b :: As) H.size fr Pf Qf) (hh : h2 < h) (hst : st0 = As.reverse ++ .ref b :: rest) (hn : As.length = n) (hcat : (rest.map fun v => v.category).sum ≤ 8) (hls : ls.size = nL) (hd : decode cc pc = .ok (.invokevirtual idx, 3)) (hc : cells + mc ≤ R.cells) (hs : slots + ms ≤ R.slots)
    (kk : ∀ (ov : Option Value) (H1 : Heap) (locs1 : List Loc), Qf ov H1 → H.size ≤ H1.size → (∀ q : Nat, q < H.size → ¬ fr q → H1[q]? = H[q]?) → va_S A s.heap H1 locs1 → W p l e R s m args below meth c H1 locs1 (cells + mc) (slots + ms) Q (F0 m (pc + 3) ls (ov.toList ++ rest))) : W p l e R s m args below meth c H locs cells slots Q (F0 m pc ls st0) :=
  h_back (a := (.ref b :: As).toArray) hS hfr (va_runV X.1 hM ⟨cC_of X lk mv hh, X.1.2.2.2.2 _ hin, X.1.2.2.2.2 _ hse⟩ ⟨Pre0_blind _ _ (Mv.and (Mv.h fun K => K.size = H.size) hM0), hv, pH_of X hS hA hPf⟩ rfl hn hls hst (lv_room (ls := ls) (rest := rest) (pc := pc) (m := m) hcat) hd ⟨hc, hs⟩) kk
theorem callH_S (X : Cx G p R s m args c cells0 slots0 cc nL own h) (hS : va_S A s.heap H locs) (hA : ∀ q, q < s.heap.size → A q → gA G q) (hM0 : Mv Pf) (hPf : ∀ U : State, U.heap = H → s.vm.Alike U.vm → Pf U) (hfr : ∀ q, frA fr H.size q → A q) (lk : Cond.methodLink own idx y ∈ TB) (hsta : Cond.static y ∈ TB) (mv : MV y bytes maxL ret n) (hM : CtH G l y bytes maxL ret h2 mc ms As H.size fr Pf Qf) (hh : h2 < h) (hst : st0 = As.reverse ++ rest) (hn : As.length = n) (hcat : (rest.map fun v => v.category).sum ≤ 8) (hls : ls.size = nL) (hd : decode cc pc = .ok (.invokestatic idx, 3)) (hc : cells + mc ≤ R.cells) (hs : slots + ms ≤ R.slots)
    (kk : ∀ (ov : Option Value) (H1 : Heap) (locs1 : List Loc), Qf ov H1 → H.size ≤ H1.size → (∀ q : Nat, q < H.size → ¬ fr q → H1[q]? = H[q]?) → va_S A s.heap H1 locs1 → W p l e R s m args below meth c H1 locs1 (cells + mc) (slots + ms) Q (F0 m (pc + 3) ls (ov.toList ++ rest))) : W p l e R s m args below meth c H locs cells slots Q (F0 m pc ls st0) :=
  h_back (a := As.toArray) hS hfr (va_runS X.1 hM ⟨cC_of X lk mv hh, X.1.2.2.2.2 _ hsta⟩ ⟨Pre0_blind _ _ (Mv.and (Mv.h fun K => K.size = H.size) hM0), pH_of X hS hA hPf⟩ rfl hn hls hst (lv_room (ls := ls) (rest := rest) (pc := pc) (m := m) hcat) hd ⟨hc, hs⟩) kk
theorem callH_I (X : Cx G p R s m args c cells0 slots0 cc nL own h) (hS : va_S A s.heap H locs) (hA : ∀ q, q < s.heap.size → A q → gA G q) (hM0 : Mv Pf) (hPf : ∀ U : State, U.heap = H → s.vm.Alike U.vm → Pf U) (hfr : ∀ q, frA fr H.size q → A q) (lk : Cond.methodLink own idx y ∈ TB) (hin : Cond.instanceMethod y ∈ TB) (mv : MV y bytes maxL none n) (hy : y.name = "<init>") (hM : CtH G l y bytes maxL none h2 mc ms (.ref b :: As) H.size fr Pf Qf) (hh : h2 < h) (hst : st0 = As.reverse ++ .ref b :: rest) (hn : As.length = n) (hcat : (rest.map fun v => v.category).sum ≤ 8) (hls : ls.size = nL) (hd : decode cc pc = .ok (.invokespecial idx, 3)) (hc : cells + mc ≤ R.cells) (hs : slots + ms ≤ R.slots)
    (kk : ∀ (ov : Option Value) (H1 : Heap) (locs1 : List Loc), Qf ov H1 → H.size ≤ H1.size → (∀ q : Nat, q < H.size → ¬ fr q → H1[q]? = H[q]?) → va_S A s.heap H1 locs1 → W p l e R s m args below meth c H1 locs1 (cells + mc) (slots + ms) Q (F0 m (pc + 3) ls (ov.toList ++ rest))) : W p l e R s m args below meth c H locs cells slots Q (F0 m pc ls st0) :=
  h_back (a := (.ref b :: As).toArray) hS hfr (va_runI X.1 hM ⟨cC_of X lk mv hh, hy, X.1.2.2.2.2 _ hin⟩ ⟨Pre0_blind _ _ (Mv.and (Mv.h fun K => K.size = H.size) hM0), pH_of (As := .ref b :: As) X hS hA hPf⟩ rfl hn hls hst (lv_room (ls := ls) (rest := rest) (pc := pc) (m := m) hcat) hd ⟨hc, hs⟩) kk
theorem p_obj (X : Cx G p R s m args c cells0 slots0 cc nL own h) (lk : Cond.methodLink own idx objectInit ∈ TB) (hh : 1 ≤ h) (hcat : (rest.map fun v => v.category).sum ≤ 8) (hls : ls.size = nL) (hd : decode cc pc = .ok (.invokespecial idx, 3)) {x : Nat}
    (kk : W p l e R s m args below meth c H locs cells slots Q (F0 m (pc + 3) ls rest)) : W p l e R s m args below meth c H locs cells slots Q (F0 m pc ls (.ref x :: rest)) := by
  have hts := X.1.2.2.2.2
  refine W.objInit X.1.1 X.1.2.1 X.1.2.2.2.1 (hts _ lk) (hts _ oi_in) (hts _ oi_code) rfl (by rw [X.1.2.2.1]; exact hls) rfl hd (Nat.le_trans hh X.2.2.1) ?_ kk
  have h1 := lv_room (ls := ls) (rest := rest) (pc := pc) (m := m) hcat
  have h2 := X.2.2.2.1
  show 2 * (F0 m pc ls (.ref x :: rest)).monitorRoom + _ + 12 ≤ R.locals
  have h3 : 2 * (F0 m pc ls (.ref x :: rest)).monitorRoom + (rest.map fun v => v.category).sum ≤ 8 := h1
  omega
/-- how a method ends: its answer, what holds then, its room -/
def R_H (p : Program) (l : Launch) (e : Env) (R : Room) (s : State) (m : MethodId) (args : Array Value) (below : List Frame) (meth : Method) (c : Code) (cc : ByteArray) (Q : State → Prop) (A : Nat → Prop) (mc ms : Nat) (Qf : Option Value → Heap → Prop) (ins : Instr) (ov : Option Value) : Prop :=
  ∀ (pc : Nat) (H : Heap) (locs : List Loc) (ls : Array Slot) (cells slots : Nat), decode cc pc = .ok (ins, 1) → Qf ov H → va_S A s.heap H locs → cells ≤ mc → slots ≤ ms → W p l e R s m args below meth c H locs cells slots Q (F0 m pc ls ov.toList)
theorem met_H (hy : plainFor y = true) (hlen : (lg_sl av).length ≤ maxL) (ins : Instr)
    (hend : (ret = none ∧ ins = .return_ ∧ ov = none) ∨ (∃ (ty : FieldType) (r : Int32), ret = some ty ∧ ins = .ireturn ∧ ov = some (.int r) ∧ narrow ty (.int r) = .int r) ∨ (∃ (rt : FieldType) (v : Value), ret = some rt ∧ ((∃ n, rt = .object n) ∨ ∃ t, rt = .array t) ∧ (v = .null ∨ ∃ a, v = .ref a) ∧ ins = .areturn ∧ ov = some v))
    (body : ∀ (p : Program) (e : Env) (s : State) (m : MethodId) (args : Array Value) (below : List Frame) (meth : Method) (c : Code) (Q : State → Prop) (ls : Array Slot), Cx G p (rmC h mc ms) s m args c 0 0 cc maxL y.cls h → meth.name = y.name → s.heap.size = sz → Pf s → R_H p l e (rmC h mc ms) s m args below meth c cc Q (frA fr sz) mc ms Qf ins ov → lv_has ls maxL (lv_args 0 av) → W p l e (rmC h mc ms) s m args below meth c s.heap [] 0 0 Q (F0 m 0 ls [])) :
    CtH G l y cc maxL ret h mc ms av sz fr Pf Qf := by
  refine va_MetF (cc := cc) (maxL := maxL) (ret := ret) hy rfl ?_
  intro p e s m args below meth c s₁ B hml hv
  obtain ⟨rfl, htb, hE, hz, hP⟩ := hv
  have X : Cx G p (rmC h mc ms) s m av.toArray c 0 0 cc maxL y.cls h := ⟨⟨B.exec, B.bytes, hml, findClass_of_methodNamed B.named, TB_warm (State.WarmedH.refl s) htb⟩, hE, Nat.le_refl _, Nat.le_refl _, Nat.zero_le _, Nat.zero_le _⟩
  have hl := lv_entry av (n := maxL) hlen
  rw [lg_entry_eq]
  generalize (lg_sl av ++ List.replicate (maxL - (lg_sl av).length) Slot.unset).toArray = ls at hl ⊢
  have hlocks := B.notSynchronized
  refine body p e s m av.toArray below meth c _ ls X (name_of_methodNamed B.named B.method).1 hz hP ?_ hl
  intro pc H locs ls1 cells slots hd hq hS hc hs
  refine W.widen hc hs ?_
  rcases hend with ⟨hr, rfl, rfl⟩ | ⟨ty, r, hr, rfl, rfl, hnr⟩ | ⟨rt, v, hr, hrt, hvv, rfl, rfl⟩
  · exact W.vret X.1.1 X.1.2.1 (B.returns.trans hr) (fun t ht hw => ⟨none, rfl, by rw [ht]; exact hq, hS.F ht⟩) hS.2.2 hd hlocks
  · exact W.zret X.1.1 X.1.2.1 (B.returns.trans hr) hnr (fun t ht hw => ⟨_, rfl, by rw [ht]; exact hq, hS.F ht⟩) hS.2.2 hd hlocks
  · exact W.aret X.1.1 X.1.2.1 (B.returns.trans hr) hrt hvv (fun t ht hw => ⟨_, rfl, by rw [ht]; exact hq, hS.F ht⟩) hS.2.2 hd hlocks
end HR
