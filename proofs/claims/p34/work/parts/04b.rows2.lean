theorem mem_t0 {w : Cond} (i : Nat) (h : (decide ((k2_sels lw_privs)[i]? = some w) && tg w) = true) : w ∈ TB := by
  rw [Bool.and_eq_true, decide_eq_true_eq] at h
  exact List.mem_filter.mpr ⟨List.mem_append_left _ (List.mem_of_getElem? h.1), h.2⟩
theorem mem_t1 {w : Cond} (i : Nat) (h : (decide (tables_1_1[i]? = some w) && tg w) = true) : w ∈ TB := by
  rw [Bool.and_eq_true, decide_eq_true_eq] at h
  exact List.mem_filter.mpr ⟨List.mem_append_right _ (List.mem_append_left _ (List.mem_of_getElem? h.1)), h.2⟩
theorem mem_t2 {w : Cond} (i : Nat) (h : (decide (tables_1_2[i]? = some w) && tg w) = true) : w ∈ TB := by
  rw [Bool.and_eq_true, decide_eq_true_eq] at h
  exact List.mem_filter.mpr ⟨List.mem_append_right _ (List.mem_append_right _ (List.mem_append_left _ (List.mem_of_getElem? h.1))), h.2⟩
theorem mem_t3 {w : Cond} (i : Nat) (h : (decide (tables_1_3[i]? = some w) && tg w) = true) : w ∈ TB := by
  rw [Bool.and_eq_true, decide_eq_true_eq] at h
  exact List.mem_filter.mpr ⟨List.mem_append_right _ (List.mem_append_right _ (List.mem_append_right _ (List.mem_append_left _ (List.mem_of_getElem? h.1)))), h.2⟩
theorem mem_t4 {w : Cond} (i : Nat) (h : (decide (tables_1_4[i]? = some w) && tg w) = true) : w ∈ TB := by
  rw [Bool.and_eq_true, decide_eq_true_eq] at h
  exact List.mem_filter.mpr ⟨List.mem_append_right _ (List.mem_append_right _ (List.mem_append_right _ (List.mem_append_right _ (List.mem_append_left _ (List.mem_of_getElem? h.1))))), h.2⟩
theorem mem_t5 {w : Cond} (i : Nat) (h : (decide (tables_1_5[i]? = some w) && tg w) = true) : w ∈ TB := by
  rw [Bool.and_eq_true, decide_eq_true_eq] at h
  exact List.mem_filter.mpr ⟨List.mem_append_right _ (List.mem_append_right _ (List.mem_append_right _ (List.mem_append_right _ (List.mem_append_right _ (List.mem_append_left _ (List.mem_of_getElem? h.1)))))), h.2⟩
theorem mem_t6 {w : Cond} (i : Nat) (h : (decide (tables_1_6[i]? = some w) && tg w) = true) : w ∈ TB := by
  rw [Bool.and_eq_true, decide_eq_true_eq] at h
  exact List.mem_filter.mpr ⟨List.mem_append_right _ (List.mem_append_right _ (List.mem_append_right _ (List.mem_append_right _ (List.mem_append_right _ (List.mem_append_right _ (List.mem_append_left _ (List.mem_of_getElem? h.1))))))), h.2⟩
theorem mem_t7 {w : Cond} (i : Nat) (h : (decide (tables_1_7[i]? = some w) && tg w) = true) : w ∈ TB := by
  rw [Bool.and_eq_true, decide_eq_true_eq] at h
  exact List.mem_filter.mpr ⟨List.mem_append_right _ (List.mem_append_right _ (List.mem_append_right _ (List.mem_append_right _ (List.mem_append_right _ (List.mem_append_right _ (List.mem_append_right _ (List.mem_append_left _ (List.mem_of_getElem? h.1)))))))), h.2⟩
theorem mem_t8 {w : Cond} (i : Nat) (h : (decide (tables_1_8[i]? = some w) && tg w) = true) : w ∈ TB := by
  rw [Bool.and_eq_true, decide_eq_true_eq] at h
  exact List.mem_filter.mpr ⟨List.mem_append_right _ (List.mem_append_right _ (List.mem_append_right _ (List.mem_append_right _ (List.mem_append_right _ (List.mem_append_right _ (List.mem_append_right _ (List.mem_append_right _ (List.mem_of_getElem? h.1)))))))), h.2⟩
def ckK {α : Type} (k i : Nat) (x : Option α) : Option α := if kd i = k then x else none
theorem ckK_el {α : Type} {k i : Nat} {x : Option α} {r : α} (h : ckK k i x = some r) : kd i = k ∧ x = some r := by
  unfold ckK at h
  by_cases hc : kd i = k
  · rw [if_pos hc] at h; exact ⟨hc, h⟩
  · rw [if_neg hc] at h; cases h
def hRec (B K : Nat) : Nat → Nat
  | 0 => B
  | d + 1 => hRec B K d + K
theorem hRec_le (B K : Nat) : ∀ d, B ≤ hRec B K d
  | 0 => Nat.le_refl _
  | d + 1 => Nat.le_trans (hRec_le B K d) (Nat.le_add_right _ _)
/-! answers that may be an exception: .inl its number, .inr the value -/
def bndXW {α β : Type} (o : Option ((Nat ⊕ α) × St)) (f : α → St → Option ((Nat ⊕ β) × St)) : Option ((Nat ⊕ β) × St) := match o with
  | none => none
  | some (.inl k, σ) => some (.inl k, σ)
  | some (.inr v, σ) => f v σ
def bndX0W {α β : Type} (σ : St) (o : Option (Nat ⊕ α)) (f : α → Option ((Nat ⊕ β) × St)) : Option ((Nat ⊕ β) × St) := match o with
  | none => none
  | some (.inl k) => some (.inl k, σ)
  | some (.inr v) => f v
def bndX0 {α β : Type} (o : Option (Nat ⊕ α)) (f : α → Option (Nat ⊕ β)) : Option (Nat ⊕ β) := match o with
  | none => none
  | some (.inl k) => some (.inl k)
  | some (.inr v) => f v
theorem bndXW_n {α β : Type} {o : Option ((Nat ⊕ α) × St)} {f : α → St → Option ((Nat ⊕ β) × St)} {r : β} {σ' : St} (h : bndXW o f = some (.inr r, σ')) : ∃ v σ1, o = some (.inr v, σ1) ∧ f v σ1 = some (.inr r, σ') := by
  rcases o with _ | ⟨k | v, σ⟩
  · cases h
  · cases h
  · exact ⟨v, σ, rfl, h⟩
theorem bndXW_t {α β : Type} {o : Option ((Nat ⊕ α) × St)} {f : α → St → Option ((Nat ⊕ β) × St)} {r : Nat} {σ' : St} (h : bndXW o f = some (.inl r, σ')) : o = some (.inl r, σ') ∨ ∃ v σ1, o = some (.inr v, σ1) ∧ f v σ1 = some (.inl r, σ') := by
  rcases o with _ | ⟨k | v, σ⟩
  · cases h
  · cases h; exact Or.inl rfl
  · exact Or.inr ⟨v, σ, rfl, h⟩
theorem bndX0W_n {α β : Type} {σ : St} {o : Option (Nat ⊕ α)} {f : α → Option ((Nat ⊕ β) × St)} {r : β} {σ' : St} (h : bndX0W σ o f = some (.inr r, σ')) : ∃ v, o = some (.inr v) ∧ f v = some (.inr r, σ') := by
  rcases o with _ | k | v
  · cases h
  · cases h
  · exact ⟨v, rfl, h⟩
theorem bndX0W_t {α β : Type} {σ : St} {o : Option (Nat ⊕ α)} {f : α → Option ((Nat ⊕ β) × St)} {r : Nat} {σ' : St} (h : bndX0W σ o f = some (.inl r, σ')) : (o = some (.inl r) ∧ σ = σ') ∨ ∃ v, o = some (.inr v) ∧ f v = some (.inl r, σ') := by
  rcases o with _ | k | v
  · cases h
  · cases h; exact Or.inl ⟨rfl, rfl⟩
  · exact Or.inr ⟨v, rfl, h⟩
theorem bndX0_n {α β : Type} {o : Option (Nat ⊕ α)} {f : α → Option (Nat ⊕ β)} {r : β} (h : bndX0 o f = some (.inr r)) : ∃ v, o = some (.inr v) ∧ f v = some (.inr r) := by
  rcases o with _ | k | v
  · cases h
  · cases h
  · exact ⟨v, rfl, h⟩
theorem bndX0_t {α β : Type} {o : Option (Nat ⊕ α)} {f : α → Option (Nat ⊕ β)} {r : Nat} (h : bndX0 o f = some (.inl r)) : o = some (.inl r) ∨ ∃ v, o = some (.inr v) ∧ f v = some (.inl r) := by
  rcases o with _ | k | v
  · cases h
  · cases h; exact Or.inl rfl
  · exact Or.inr ⟨v, rfl, h⟩
theorem xr_el {α : Type} {x r : α} {σ σ' : St} (h : some ((.inr x : Nat ⊕ α), σ) = some (.inr r, σ')) : some (x, σ) = some (r, σ') := by cases h; rfl
theorem xr_el0 {α : Type} {x r : α} (h : some (.inr x : Nat ⊕ α) = some (.inr r)) : some x = some r := by cases h; rfl
theorem xv_el {σ σ' : St} (h : some ((.inr () : Nat ⊕ Unit), σ) = some (.inr (), σ')) : some σ = some σ' := by cases h; rfl
def exA : List String := ["java/lang/RuntimeException", "java/lang/Exception"]
theorem exN_fit (k : Nat) : Bundle.fit (exN k) = true := by unfold exN; split <;> decide +kernel
theorem exA_fit : ∀ n ∈ exA, Bundle.fit n = true := by decide +kernel
def exW (own : String) (ik ic k : Nat) : Prop := Cond.classLink own ik (exN k) ∈ TB ∧ Cond.initialized (exN k) ∈ TB ∧ ∀ w ∈ vx_at0 own ic (exN k) exA, w ∈ TB
theorem tg_ot {w : Cond} (h : w ∈ TB) : vx_ot w = true := by
  have h2 := (List.mem_filter.mp h).2
  unfold tg at h2
  unfold vx_ot
  rw [Bool.or_eq_true, Bool.or_eq_true] at h2
  rw [Bool.or_eq_true]
  rcases h2 with (h2 | h2) | h2
  · exact Or.inr h2
  · rw [Bool.and_eq_true] at h2; exact Or.inl h2.1
  · cases w <;> first | (simp only [isCst] at h2; exact absurd h2 (by decide)) | exact Or.inl rfl
def rmT (h : Nat) : Room := { frames := h, cells := 1, slots := 6, locals := 40 * h }
/-- a method's contract where it throws: the exception's number, and the state -/
def CtT (G : Gt) (l : Launch) (y : MethodName) (cc : ByteArray) (maxL : Nat) (ret : Option FieldType) (h : Nat) (av : List Value) (σ : St) (k : Nat) (σ' : St) : Prop :=
  l.stackTraces = false → vx_Met l y [.code y cc maxL ret] (rmT h) (va_Pc av (GP G σ)) (fun _ _ _ _ => False) (fun E st t => E = exN k ∧ va_P (gDD G) vwCl (wl G σ') t.heap ∧ va_F (gA G) st t) 1 6 (gA G)
def R_P (G : Gt) (p : Program) (l : Launch) (e : Env) (R : Room) (s : State) (m : MethodId) (args : Array Value) (below : List Frame) (meth : Method) (c : Code) (cells slots : Nat) (Q : State → Prop) (k : Nat) (σ' : St) : Prop :=
  l.stackTraces = false ∧ cells + 1 ≤ R.cells ∧ slots + 6 ≤ R.slots ∧ ∀ (pc : Nat) (H : Heap) (locs : List Loc) (ls : Array Slot) (rest : List Value) (q : Addr) (ce : Cell), GW G σ' s H locs → H[q]? = some ce → ce.vm = .none → s.vm.findClass (exN k) = some ce.cls → vx_W p l e R s m args below meth c H locs (cells + 1) (slots + 6) Q (F0 m pc ls rest) q
def R_X (G : Gt) (p : Program) (l : Launch) (e : Env) (R : Room) (s : State) (m : MethodId) (args : Array Value) (below : List Frame) (meth : Method) (c : Code) (cells slots : Nat) (Q : State → Prop) (cc : ByteArray) (nL : Nat) (own : String) (k : Nat) (σ' : St) : Prop :=
  ∀ (pc ik ic : Nat) (H : Heap) (locs : List Loc) (ls : Array Slot) (rest : List Value), decode cc pc = .ok (.new ik, 3) → decode cc (pc + 3) = .ok (.dup, 1) → decode cc (pc + 4) = .ok (.invokespecial ic, 3) → decode cc (pc + 7) = .ok (.athrow, 1) → exW own ik ic k → GW G σ' s H locs → (rest.map fun v => v.category).sum ≤ 8 → ls.size = nL → W p l e R s m args below meth c H locs cells slots Q (F0 m pc ls rest)
section XT
variable {G : Gt} {p : Program} {l : Launch} {e : Env} {R : Room} {s : State} {m : MethodId} {args : Array Value} {below : List Frame} {meth : Method} {c : Code} {H : Heap} {locs : List Loc} {cells slots : Nat} {Q : State → Prop}
variable {cc bytes : ByteArray} {nL h h2 maxL n idx ik ic : Nat} {own host C : String} {pc : Nat} {ls : Array Slot} {rest st0 : List Value} {σ σ' : St} {y : MethodName} {ret : Option FieldType} {As av : List Value} {b k k2 : Nat}
theorem thr_end {α : Type} (hr : R_X G p l e R s m args below meth c cells slots Q cc nL own k σ') (h : some ((.inl k2 : Nat ⊕ α), σ) = some (.inl k, σ')) (d0 : decode cc pc = .ok (.new ik, 3)) (d3 : decode cc (pc + 3) = .ok (.dup, 1)) (d4 : decode cc (pc + 4) = .ok (.invokespecial ic, 3)) (d7 : decode cc (pc + 7) = .ok (.athrow, 1)) (hw : exW own ik ic k2) (hW : GW G σ s H locs) (hcat : (rest.map fun v => v.category).sum ≤ 8) (hls : ls.size = nL) : W p l e R s m args below meth c H locs cells slots Q (F0 m pc ls rest) := by cases h; exact hr _ _ _ _ _ _ _ d0 d3 d4 d7 hw hW hcat hls
theorem thr_end0 {α : Type} (hr : R_X G p l e R s m args below meth c cells slots Q cc nL own k σ) (h : some (.inl k2 : Nat ⊕ α) = some (.inl k)) (d0 : decode cc pc = .ok (.new ik, 3)) (d3 : decode cc (pc + 3) = .ok (.dup, 1)) (d4 : decode cc (pc + 4) = .ok (.invokespecial ic, 3)) (d7 : decode cc (pc + 7) = .ok (.athrow, 1)) (hw : exW own ik ic k2) (hW : GW G σ s H locs) (hcat : (rest.map fun v => v.category).sum ≤ 8) (hls : ls.size = nL) : W p l e R s m args below meth c H locs cells slots Q (F0 m pc ls rest) := by cases h; exact hr _ _ _ _ _ _ _ d0 d3 d4 d7 hw hW hcat hls
theorem met_t (hy : plainName y.cls = true) (hlen : (lg_sl av).length ≤ maxL) (h7 : 7 ≤ h)
    (body : ∀ (p : Program) (e : Env) (s : State) (m : MethodId) (args : Array Value) (below : List Frame) (meth : Method) (c : Code) (Q : State → Prop) (ls : Array Slot), Cx G p (rmT h) s m args c 0 0 cc maxL y.cls h → GW G σ s s.heap [] → R_X G p l e (rmT h) s m args below meth c 0 0 Q cc maxL y.cls k σ' → R_P G p l e (rmT h) s m args below meth c 0 0 Q k σ' → lv_has ls maxL (lv_args 0 av) → W p l e (rmT h) s m args below meth c s.heap [] 0 0 Q (F0 m 0 ls [])) :
    CtT G l y cc maxL ret h av σ k σ' := by
  intro hfl
  refine vx_ofW (cc := cc) (maxL := maxL) (ret := ret) hy rfl ?_
  intro p e s m args below meth c s₁ B hml hex hv
  obtain ⟨ha, htb, hE, hP⟩ := hv
  have X : Cx G p (rmT h) s m args c 0 0 cc maxL y.cls h := ⟨⟨B.exec, B.bytes, hml, findClass_of_methodNamed B.named, TB_warm (State.WarmedH.refl s) htb⟩, hE, Nat.le_refl _, Nat.le_refl _, Nat.zero_le _, Nat.zero_le _⟩
  have hW : GW G σ s s.heap [] := ⟨hP, va_S.rf⟩
  subst ha
  have hl := lv_entry av (n := maxL) hlen
  rw [lg_entry_eq]
  generalize (lg_sl av ++ List.replicate (maxL - (lg_sl av).length) Slot.unset).toArray = ls at hl ⊢
  have hlocks := B.notSynchronized
  have hend : ∀ (H : Heap) (locs : List Loc) (t : State), GW G σ' s H locs → H.size ≤ t.heap.size → (∀ q : Nat, q < H.size → t.heap[q]? = H[q]?) → va_P (gDD G) vwCl (wl G σ') t.heap ∧ va_F (gA G) s t := by
    intro H locs t hW1 h1 h2
    exact ⟨hW1.1.kept fun k q hk => h2 q.1 (hW1.1 k q hk).lt, Nat.le_trans hW1.2.1 h1, fun q h3 h4 => (h2 q (Nat.lt_of_lt_of_le h3 hW1.2.1)).trans (hW1.2.2.1 q h3 h4)⟩
  refine body p e s m av.toArray below meth c _ ls X hW ?_ ⟨hfl, Nat.le_refl _, Nat.le_refl _, ?_⟩ hl
  · intro pc ik ic H locs ls1 rest d0 d3 d4 d7 hw hW1 hcat hls
    refine vx_throw0 (cls := exN k) (names := exA) X.1.1 X.1.2.1 hfl X.1.2.2.2.1 (exN_fit k) exA_fit (X.1.2.2.2.2 _ hw.1) (X.1.2.2.2.2 _ hw.2.1) (fun w hh => X.1.2.2.2.2 _ (hw.2.2 w hh)) ?_ hE.2.2.2.2.2.2.2.2.2.2.1 hE.2.2.2.2.2.2.2.2.2.2.2.1 hW1.2 (hls.trans hml.symm) d0 d3 d4 d7 (fun x hh => (hex x hh).elim) (by show 2 + 3 < h; omega) (by show _ + (13 * (2 + 1) + 42) ≤ 40 * h; omega) (Nat.le_refl _) (Nat.le_refl _) hlocks ?_ hW1.2.2.2 (Nat.le_refl _) (Nat.le_refl _)
    · intro w hh
      rcases List.mem_cons.mp hh with rfl | hh
      · exact tg_ot hw.1
      · rcases List.mem_cons.mp hh with rfl | hh
        · exact tg_ot hw.2.1
        · exact tg_ot (hw.2.2 w hh)
    · intro t _ h1 h2
      exact ⟨rfl, hend H locs t hW1 h1 h2⟩
  · intro pc H locs ls1 rest q ce hW1 hce hcv hcl
    refine vx_out (fun x hh => (hex x hh).elim) hlocks hce hcv hcl ?_ hW1.2.2.2 (Nat.le_refl _) (Nat.le_refl _)
    intro t ht _
    exact ⟨rfl, hend H locs t hW1 (by rw [ht]; exact Nat.le_refl _) (fun q _ => by rw [ht])⟩
theorem cBT_of (X : Cx G p R s m args c cells slots cc nL own h) (lk : Cond.methodLink own idx y ∈ TB) (mv : MV y bytes maxL ret n) (hh : h2 < h) : CallB R s args own idx y bytes maxL ret [.code y bytes maxL ret] (rmT h2) 1 6 n := by
  obtain ⟨h1, h2', h3, h4, h5⟩ := mv
  obtain ⟨⟨-, -, -, -, hts⟩, -, hf, hlo, -⟩ := X
  exact callB_of n hts (mV_good h1 h2') rfl rfl rfl (hts _ h3) (hts _ lk) h4 ⟨by show h2 + 1 ≤ R.frames; omega, by show 8 + (maxL + 11) + 40 * h2 ≤ R.locals; omega⟩
theorem t_back (X : Cx G p R s m args c cells slots cc nL own h) (hW : GW G σ s H locs) (hr : vx_Run p l e R s m args below meth c H locs cells slots 1 6 (F0 m pc ls st0) rest (fun _ _ _ => False) (fun E st t => E = exN k ∧ va_P (gDD G) vwCl (wl G σ') t.heap ∧ va_F (gA G) st t) (gA G)) (hpr : R_P G p l e R s m args below meth c cells slots Q k σ') : W p l e R s m args below meth c H locs cells slots Q (F0 m pc ls st0) := by
  intro T hT X1
  rcases hr T hT X1 with ⟨v, st₀, t, T', L, h0, X', hL, e1, e2, hv, st⟩ | ⟨q, st₀, t, T', L, E, ce, h0, X', hL, e1, e2, ⟨hE, hP, hz, hk⟩, hce, hcv, hcl, st⟩
  · exact hv.elim
  · rw [h0] at hz hk
    subst hE
    obtain ⟨hP0, hS⟩ := hW
    obtain ⟨t2, a1, b1⟩ := hpr.2.2.2 pc T'.heap (locs ++ L) ls rest q ce ⟨by rw [e1]; exact hP, Nat.le_trans hS.1 (by rw [e1]; exact hz), fun q h1 h2 => by rw [e1, hk q (Nat.lt_of_lt_of_le h1 hS.1) h2]; exact hS.2.1 q h1 h2, fun q hq => by
      rcases List.mem_append.mp hq with h | h
      · exact hS.2.2 q h
      · exact hL q h⟩ (by rw [e1]; exact hce) hcv hcl T' rfl X'
    exact ⟨t2, st.trans a1, b1⟩
theorem tcall_V (X : Cx G p R s m args c cells slots cc nL own h) (hW : GW G σ s H locs) (hk : kC b C) (lk : Cond.methodLink own idx y ∈ TB) (hin : Cond.instanceMethod y ∈ TB) (hse : Cond.selects C y y ∈ TB) (mv : MV y bytes maxL ret n) (hM : CtT G l y bytes maxL ret h2 (.ref (gz G + b) :: As) σ k σ') (hh : h2 < h) (hst : st0 = As.reverse ++ .ref (gz G + b) :: rest) (hn : As.length = n) (hcat : (rest.map fun v => v.category).sum ≤ 8) (hls : ls.size = nL) (hd : decode cc pc = .ok (.invokevirtual idx, 3)) (hpr : R_P G p l e R s m args below meth c cells slots Q k σ') : W p l e R s m args below meth c H locs cells slots Q (F0 m pc ls st0) :=
  t_back X hW (vx_runV X.1 (hM hpr.1) ⟨cBT_of X lk mv hh, X.1.2.2.2.2 _ hin, X.1.2.2.2.2 _ hse⟩ (pV_of X hW hk) rfl hn hls hst (lv_room (ls := ls) (rest := rest) (pc := pc) (m := m) hcat) hd ⟨hpr.2.1, hpr.2.2.1⟩) hpr
theorem tcall_S (X : Cx G p R s m args c cells slots cc nL own h) (hW : GW G σ s H locs) (lk : Cond.methodLink own idx y ∈ TB) (hsta : Cond.static y ∈ TB) (mv : MV y bytes maxL ret n) (hM : CtT G l y bytes maxL ret h2 As σ k σ') (hh : h2 < h) (hst : st0 = As.reverse ++ rest) (hn : As.length = n) (hcat : (rest.map fun v => v.category).sum ≤ 8) (hls : ls.size = nL) (hd : decode cc pc = .ok (.invokestatic idx, 3)) (hpr : R_P G p l e R s m args below meth c cells slots Q k σ') : W p l e R s m args below meth c H locs cells slots Q (F0 m pc ls st0) :=
  t_back X hW (vx_runS X.1 (hM hpr.1) ⟨cBT_of X lk mv hh, X.1.2.2.2.2 _ hsta⟩ (pS_of X hW) rfl hn hls hst (lv_room (ls := ls) (rest := rest) (pc := pc) (m := m) hcat) hd ⟨hpr.2.1, hpr.2.2.1⟩) hpr
end XT
section RX
variable {G : Gt} {p : Program} {l : Launch} {e : Env} {R : Room} {s : State} {m : MethodId} {args : Array Value} {below : List Frame} {meth : Method} {c : Code} {H : Heap} {locs : List Loc} {cells slots : Nat} {Q : State → Prop}
variable {cc bytes : ByteArray} {nL h h2 maxL n idx : Nat} {own host C : String} {pc : Nat} {ls : Array Slot} {rest st0 : List Value} {σ σ' : St} {y : MethodName} {ret : Option FieldType} {As : List Value}
theorem w_ishl (hx : p.tables.exec = Jvm.exec) (hb : c.code = cc) {x y : Int32} (hd : decode cc pc = .ok (.ishl, 1)) (k : W p l e R s m args below meth c H locs cells slots Q (F0 m (pc + 1) ls (.int (ishl x y) :: rest))) : W p l e R s m args below meth c H locs cells slots Q (F0 m pc ls (.int y :: .int x :: rest)) := lv_ishl hx hb hd k
theorem w_ishr (hx : p.tables.exec = Jvm.exec) (hb : c.code = cc) {x y : Int32} (hd : decode cc pc = .ok (.ishr, 1)) (k : W p l e R s m args below meth c H locs cells slots Q (F0 m (pc + 1) ls (.int (ishr x y) :: rest))) : W p l e R s m args below meth c H locs cells slots Q (F0 m pc ls (.int y :: .int x :: rest)) := lv_ishr hx hb hd k
theorem w_iushr (hx : p.tables.exec = Jvm.exec) (hb : c.code = cc) {x y : Int32} (hd : decode cc pc = .ok (.iushr, 1)) (k : W p l e R s m args below meth c H locs cells slots Q (F0 m (pc + 1) ls (.int (iushr x y) :: rest))) : W p l e R s m args below meth c H locs cells slots Q (F0 m pc ls (.int y :: .int x :: rest)) := lv_iushr hx hb hd rfl k
theorem w_lushr (hx : p.tables.exec = Jvm.exec) (hb : c.code = cc) {x : Int64} {y : Int32} (hd : decode cc pc = .ok (.lushr, 1)) (k : W p l e R s m args below meth c H locs cells slots Q (F0 m (pc + 1) ls (.long (lushr x y) :: rest))) : W p l e R s m args below meth c H locs cells slots Q (F0 m pc ls (.int y :: .long x :: rest)) := lv_lushr hx hb hd rfl k
theorem w_lshl (hx : p.tables.exec = Jvm.exec) (hb : c.code = cc) {x : Int64} {y : Int32} (hd : decode cc pc = .ok (.lshl, 1)) (k : W p l e R s m args below meth c H locs cells slots Q (F0 m (pc + 1) ls (.long (lshl x y) :: rest))) : W p l e R s m args below meth c H locs cells slots Q (F0 m pc ls (.int y :: .long x :: rest)) := lv_lshl hx hb hd rfl k
theorem w_irem (hx : p.tables.exec = Jvm.exec) (hb : c.code = cc) {x y : Int32} (hd : decode cc pc = .ok (.irem, 1)) (hn : ¬ y = 0) (k : W p l e R s m args below meth c H locs cells slots Q (F0 m (pc + 1) ls (.int (irem x y) :: rest))) : W p l e R s m args below meth c H locs cells slots Q (F0 m pc ls (.int y :: .int x :: rest)) := lv_irem hx hb hd hn k
theorem lcmp_lt {x y : Int64} : lg_cmp x y < 0 ↔ x < y := by
  unfold lg_cmp
  by_cases h1 : x > y
  · rw [if_pos h1]; exact ⟨fun q => absurd q (by decide), fun q => absurd (Int64.lt_trans q h1) Int64.lt_irrefl⟩
  · rw [if_neg h1]
    by_cases h2 : x = y
    · rw [if_pos h2]; subst h2; exact ⟨fun q => absurd q (by decide), fun q => absurd q Int64.lt_irrefl⟩
    · rw [if_neg h2]
      refine ⟨fun _ => ?_, fun _ => by decide⟩
      rw [Int64.lt_iff_toInt_lt]
      have h3 : ¬ y.toInt < x.toInt := fun q => h1 (Int64.lt_iff_toInt_lt.mpr q)
      have h4 : ¬ x.toInt = y.toInt := fun q => h2 (Int64.toInt_inj.mp q)
      omega
theorem lcmp_ge {x y : Int64} : 0 ≤ lg_cmp x y ↔ y ≤ x := by
  constructor
  · intro q
    have h1 : ¬ x < y := fun z => absurd (lcmp_lt.mpr z) (Int32.not_lt.mpr q)
    exact Int64.not_lt.mp h1
  · intro q
    exact Int32.not_lt.mp fun z => absurd (lcmp_lt.mp z) (Int64.not_lt.mpr q)
theorem lcmp_le {x y : Int64} : lg_cmp x y ≤ 0 ↔ x ≤ y := by
  constructor
  · intro q
    have h1 : ¬ y < x := fun z => absurd (lcmp_gt.mpr z) (Int32.not_lt.mpr q)
    exact Int64.not_lt.mp h1
  · intro q
    exact Int32.not_lt.mp fun z => absurd (lcmp_gt.mp z) (Int64.not_lt.mpr q)
theorem i_ofInt (x : Int32) : Int32.ofInt x.toInt = x := by simp
theorem tb_out {x : Int32} {lo hi : Int} {loN n : Nat} (hlo : lo = (loN : Int)) (hh : hi = (loN : Int) + n - 1) (h : ∀ k, k < n → ¬ x = Int32.ofNat (loN + k)) : x.toInt < lo ∨ hi < x.toInt := by
  subst hlo; subst hh
  by_cases h1 : x.toInt < (loN : Int)
  · exact Or.inl h1
  · by_cases h2 : (loN : Int) + n - 1 < x.toInt
    · exact Or.inr h2
    · refine absurd ?_ (h (x.toInt.toNat - loN) (by omega))
      have e : loN + (x.toInt.toNat - loN) = x.toInt.toNat := by omega
      rw [e]
      have e2 : ((x.toInt.toNat : Nat) : Int) = x.toInt := by omega
      have hb : x.toInt.toNat < 2 ^ 31 := by
        have := x.toInt_lt
        omega
      exact Int32.toInt_inj.mp (by rw [show Int32.ofNat x.toInt.toNat = nI x.toInt.toNat from rfl, nI_toInt hb]; exact e2.symm)
theorem i_ne {x : Int32} {k : Int} (h : ¬ x = Int32.ofInt k) : ¬ x.toInt = k := fun q => h (by rw [← q]; exact (i_ofInt x).symm)
theorem i_ne2 {x : Int32} {k : Int} (h : ¬ x = Int32.ofInt k) : ¬ k = x.toInt := fun q => i_ne h q.symm
/-! statics, tokens -/
theorem r_gtok {k : Nat} (X : Cx G p R s m args c cells slots cc nL own h) (hW : GW G σ s H locs) (hk : k < 32) (hl : Cond.fieldLink own idx "QuestLedger$Token" (tkN.getD k "") "LQuestLedger$Token;" ∈ TB) (hd : decode cc pc = .ok (.getstatic idx, 3))
    (kk : W p l e R s m args below meth c H locs cells slots Q (F0 m (pc + 3) ls (va_re (gad G) (some k) :: rest))) : W p l e R s m args below meth c H locs cells slots Q (F0 m pc ls rest) := va_gets X.1.1 X.1.2.1 (X.2.1.2.2.1 k hk).1 hW.2 X.1.2.2.2.1 (X.1.2.2.2.2 _ hl) (fun _ h9 => h9) hd kk
theorem r_gtk (X : Cx G p R s m args c cells slots cc nL own h) (hW : GW G σ s H locs) (hl : Cond.fieldLink own idx "QuestLedger" "TOKENS" "[LQuestLedger$Token;" ∈ TB) (hd : decode cc pc = .ok (.getstatic idx, 3))
    (kk : W p l e R s m args below meth c H locs cells slots Q (F0 m (pc + 3) ls (.ref (gsA G 0) :: rest))) : W p l e R s m args below meth c H locs cells slots Q (F0 m pc ls rest) := va_gets X.1.1 X.1.2.1 X.2.1.2.2.2.2.1.1 hW.2 X.1.2.2.2.1 (X.1.2.2.2.2 _ hl) (fun _ h9 => h9) hd kk
theorem r_gtkN (X : Cx G p R s m args c cells slots cc nL own h) (hW : GW G σ s H locs) (hl : Cond.fieldLinkNest own idx "QuestLedger" "TOKENS" "[LQuestLedger$Token;" host ∈ TB) (hd : decode cc pc = .ok (.getstatic idx, 3))
    (kk : W p l e R s m args below meth c H locs cells slots Q (F0 m (pc + 3) ls (.ref (gsA G 0) :: rest))) : W p l e R s m args below meth c H locs cells slots Q (F0 m pc ls rest) := va_getsN X.1.1 X.1.2.1 X.2.1.2.2.2.2.1.1 hW.2 X.1.2.2.2.1 (X.1.2.2.2.2 _ hl) (fun _ h9 => h9) hd kk
theorem r_gswN (X : Cx G p R s m args c cells slots cc nL own h) (hW : GW G σ s H locs) (hl : Cond.fieldLinkNest own idx "QuestLedger" "SETS_WITH" "[J" host ∈ TB) (hd : decode cc pc = .ok (.getstatic idx, 3))
    (kk : W p l e R s m args below meth c H locs cells slots Q (F0 m (pc + 3) ls (.ref (gsA G 1) :: rest))) : W p l e R s m args below meth c H locs cells slots Q (F0 m pc ls rest) := va_getsN X.1.1 X.1.2.1 X.2.1.2.2.2.2.2.1.1 hW.2 X.1.2.2.2.1 (X.1.2.2.2.2 _ hl) (fun _ h9 => h9) hd kk
theorem r_tk {j : Int32} (X : Cx G p R s m args c cells slots cc nL own h) (hW : GW G σ s H locs) (hin : vp_in j 32) (hd : decode cc pc = .ok (.aaload, 1))
    (kk : W p l e R s m args below meth c H locs cells slots Q (F0 m (pc + 1) ls (va_re (gad G) (some j.toNatClampNeg) :: rest))) : W p l e R s m args below meth c H locs cells slots Q (F0 m pc ls (.int j :: .ref (gsA G 0) :: rest)) := vb_tq X.1.1 X.1.2.1 X.2.1.2.2.2.2.1.2 hW.2 hin rfl hd kk
theorem r_sw {j : Int32} (X : Cx G p R s m args c cells slots cc nL own h) (hW : GW G σ s H locs) (hin : vp_in j 6) (hd : decode cc pc = .ok (.laload, 1))
    (kk : W p l e R s m args below meth c H locs cells slots Q (F0 m (pc + 1) ls (.long (swC.getD j.toNatClampNeg 0) :: rest))) : W p l e R s m args below meth c H locs cells slots Q (F0 m pc ls (.int j :: .ref (gsA G 1) :: rest)) := va_tl X.1.1 X.1.2.1 X.2.1.2.2.2.2.2.1.2 hW.2 hin rfl hd kk
theorem r_tklen (X : Cx G p R s m args c cells slots cc nL own h) (hW : GW G σ s H locs) (hd : decode cc pc = .ok (.arraylength, 1))
    (kk : W p l e R s m args below meth c H locs cells slots Q (F0 m (pc + 1) ls (.int 32 :: rest))) : W p l e R s m args below meth c H locs cells slots Q (F0 m pc ls (.ref (gsA G 0) :: rest)) := va_tlen X.1.1 X.1.2.1 X.2.1.2.2.2.2.1.2 hW.2 (by decide) hd kk
theorem r_swlen (X : Cx G p R s m args c cells slots cc nL own h) (hW : GW G σ s H locs) (hd : decode cc pc = .ok (.arraylength, 1))
    (kk : W p l e R s m args below meth c H locs cells slots Q (F0 m (pc + 1) ls (.int 6 :: rest))) : W p l e R s m args below meth c H locs cells slots Q (F0 m pc ls (.ref (gsA G 1) :: rest)) := va_tlen X.1.1 X.1.2.1 X.2.1.2.2.2.2.2.1.2 hW.2 (by decide) hd kk
theorem r_tokCode {k : Nat} (X : Cx G p R s m args c cells slots cc nL own h) (hW : GW G σ s H locs) (hk : k < 32) (hl : Cond.fieldLink own idx "QuestLedger$Token" "code" "I" ∈ TB) (hd : decode cc pc = .ok (.getfield idx, 3))
    (kk : W p l e R s m args below meth c H locs cells slots Q (F0 m (pc + 3) ls (.int (tkC.getD k 0) :: rest))) : W p l e R s m args below meth c H locs cells slots Q (F0 m pc ls (.ref (gad G k) :: rest)) := vk_getf X.1.1 X.1.2.1 (X.2.1.2.2.1 k hk).2.2.1 hW.2 X.1.2.2.2.1 (X.1.2.2.2.2 _ hl) (fun _ h9 => h9) hd kk
theorem r_tokCodeT {k : Nat} {w : Option Nat} (X : Cx G p R s m args c cells slots cc nL own h) (hW : GW G σ s H locs) (et : w = some k) (hk : k < 32) (hl : Cond.fieldLink own idx "QuestLedger$Token" "code" "I" ∈ TB) (hd : decode cc pc = .ok (.getfield idx, 3))
    (kk : W p l e R s m args below meth c H locs cells slots Q (F0 m (pc + 3) ls (.int (tkC.getD k 0) :: rest))) : W p l e R s m args below meth c H locs cells slots Q (F0 m pc ls (va_re (gad G) w :: rest)) := by
  subst et
  exact r_tokCode X hW hk hl hd kk
theorem r_tokText {k : Nat} (X : Cx G p R s m args c cells slots cc nL own h) (hW : GW G σ s H locs) (hk : k < 32) (hl : Cond.fieldLink own idx "QuestLedger$Token" "text" "Ljava/lang/String;" ∈ TB) (hd : decode cc pc = .ok (.getfield idx, 3))
    (kk : W p l e R s m args below meth c H locs cells slots Q (F0 m (pc + 3) ls (.ref (gsK G (tkS.getD k 0)) :: rest))) : W p l e R s m args below meth c H locs cells slots Q (F0 m pc ls (.ref (gad G k) :: rest)) := vk_getf X.1.1 X.1.2.1 (X.2.1.2.2.1 k hk).2.2.2 hW.2 X.1.2.2.2.1 (X.1.2.2.2.2 _ hl) (fun _ h9 => h9) hd kk
theorem tkS_lt (k : Nat) : tkS.getD k 0 < 48 := by
  rcases Nat.lt_or_ge k 32 with q | q
  · exact co_dec (N := 32) (P := fun k => tkS.getD k 0 < 48) (by decide +kernel) q
  · have e : tkS.length = 32 := by decide +kernel
    rw [List.getD_eq_getElem?_getD, List.getElem?_eq_none (by omega)]
    decide
theorem r_ldcS {k : Nat} {tx : String} (X : Cx G p R s m args c cells slots cc nL own h) (hW : GW G σ s H locs) (hk : k < 48) (ho : stO.getD k "" = own) (hi : stK.getD k 0 = idx) (hd : decode cc pc = .ok (.ldc idx, 2))
    (kk : W p l e R s m args below meth c H locs cells slots Q (F0 m (pc + 2) ls (.ref (gsK G k) :: rest))) : W p l e R s m args below meth c H locs cells slots Q (F0 m pc ls rest) := by
  have h6 := X.2.1.2.2.2.2.2.2.2.1 k hk
  rw [ho, hi] at h6
  exact va_ldcS X.1.1 X.1.2.1 X.1.2.2.2.1 h6 hd kk
theorem r_tast {i k : Nat} {j : Int32} {v : Option Nat} (X : Cx G p R s m args c cells slots cc nL own h) (hW : GW G σ s H locs) (hi : kd i = 15) (et : v = some k) (hk : k < 32) (hin : vp_in j (alen i)) (hd : decode cc pc = .ok (.aastore, 1))
    (kk : ∀ (H1 : Heap) (locs1 : List Loc), GW G (sK σ i j.toNatClampNeg (some k)) s H1 locs1 → W p l e R s m args below meth c H1 locs1 cells slots Q (F0 m (pc + 1) ls rest)) : W p l e R s m args below meth c H locs cells slots Q (F0 m pc ls (va_re (gad G) v :: .int j :: .ref (gz G + i) :: rest)) := by
  subst et
  obtain ⟨cell, g1, g2, g3, -⟩ := ((X.2.1.2.2.1 k hk).2.1).kept hW.2.2.1
  have hany : va_Any "QuestLedger$Token" s H (gad G k) := by
    obtain ⟨kC, hkC, -⟩ := Vm.findClass_spec g3
    exact ⟨cell, g1, g2, ⟨kC, hkC⟩, fun comp hc => by cases g3.symm.trans hc; exact va_asg _ _⟩
  refine va_astqM (v := gad G k) X.1.1 X.1.2.1 X.2.1.1 hW.1 (wl_D G σ) hW.2 i 4 (wl_ct G (by rw [hi]; decide) (ct_15 G σ hi)) rfl hany hin hd (fun H1 locs1 hP hD hS => kk H1 locs1 ⟨?_, hS⟩)
  rw [wl_set G (σ' := sK σ i j.toNatClampNeg (some k)) ?_ (fun j hj => ct_sK G hj)] at hP
  · exact hP
  · rw [ct_15 G _ hi]
    refine congrArg (fun f => (Sum.inl (gty G 4, alen i, Sum.inr (Sum.inr (Sum.inr (Sum.inr f)))) : va_E)) ?_
    funext q
    by_cases hq : q = j.toNatClampNeg
    · subst hq; simp [gK_sK, va_up]
    · simp [gK_sK, va_up, hq]
theorem r_acmp_eq (X : Cx G p R s m args c cells slots cc nL own h) (hx : p.tables.exec = Jvm.exec) (hb : c.code = cc) {a b : Option Nat} {off : Int} {tgt : Nat} (hd : decode cc pc = .ok (.if_acmp .eq off, 3)) (ht : (pc : Int) + off = (tgt : Int))
    (kt : a = b → W p l e R s m args below meth c H locs cells slots Q (F0 m tgt ls rest)) (kf : ¬ a = b → W p l e R s m args below meth c H locs cells slots Q (F0 m (pc + 3) ls rest)) : W p l e R s m args below meth c H locs cells slots Q (F0 m pc ls (va_re (gad G) b :: va_re (gad G) a :: rest)) := by
  refine lv_acmp_eq (rx := a.map (gad G)) (ry := b.map (gad G)) hx hb hd ht (fun q => kt ?_) (fun q => kf fun z => q (by rw [z]))
  cases a <;> cases b <;> simp at q ⊢
  exact X.2.1.2.2.2.1 _ _ q
theorem r_acmp_ne (X : Cx G p R s m args c cells slots cc nL own h) (hx : p.tables.exec = Jvm.exec) (hb : c.code = cc) {a b : Option Nat} {off : Int} {tgt : Nat} (hd : decode cc pc = .ok (.if_acmp .ne off, 3)) (ht : (pc : Int) + off = (tgt : Int))
    (kt : ¬ a = b → W p l e R s m args below meth c H locs cells slots Q (F0 m tgt ls rest)) (kf : a = b → W p l e R s m args below meth c H locs cells slots Q (F0 m (pc + 3) ls rest)) : W p l e R s m args below meth c H locs cells slots Q (F0 m pc ls (va_re (gad G) b :: va_re (gad G) a :: rest)) := by
  refine lv_acmp_ne (rx := a.map (gad G)) (ry := b.map (gad G)) hx hb hd ht (fun q => kt fun z => q (by rw [z])) (fun q => kf ?_)
  cases a <;> cases b <;> simp at q ⊢
  exact X.2.1.2.2.2.1 _ _ q
theorem pT_of {k : Nat} (X : Cx G p R s m args c cells slots cc nL own h) (hW : GW G σ s H locs) (hk : k < 32) : PreV s H "QuestLedger$Token" (gad G k) (va_Pc (.ref (gad G k) :: As) (GP G σ)) As := by
  obtain ⟨cell, g1, g2, g3, -⟩ := ((X.2.1.2.2.1 k hk).2.1).kept hW.2.2.1
  exact ⟨GP_blind _ _, ⟨cell, g1, g2, g3⟩, fun U hU hw => ⟨rfl, X.env hW hU hw⟩⟩
theorem call_T1 {v : Value} {w : Option Nat} {k : Nat} (X : Cx G p R s m args c cells slots cc nL own h) (hW : GW G σ s H locs) (et : w = some k) (hk : k < 32) (lk : Cond.methodLink own idx y ∈ TB) (hin : Cond.instanceMethod y ∈ TB) (hse : Cond.selects "QuestLedger$Token" y y ∈ TB) (mv : MV y bytes maxL ret n) (hM : Ct G l y bytes maxL ret h2 (.ref (gad G k) :: As) σ (some v) σ') (hh : h2 < h) (hst : st0 = As.reverse ++ va_re (gad G) w :: rest) (hn : As.length = n) (hcat : (rest.map fun v => v.category).sum ≤ 8) (hls : ls.size = nL) (hd : decode cc pc = .ok (.invokevirtual idx, 3))
    (kk : ∀ (H1 : Heap) (locs1 : List Loc), GW G σ' s H1 locs1 → W p l e R s m args below meth c H1 locs1 cells slots Q (F0 m (pc + 3) ls (v :: rest))) : W p l e R s m args below meth c H locs cells slots Q (F0 m pc ls st0) := by
  subst et
  exact g_back X hW (va_runV X.1 hM ⟨cB_of X lk mv hh, X.1.2.2.2.2 _ hin, X.1.2.2.2.2 _ hse⟩ (pT_of X hW hk) rfl hn hls hst (lv_room (ls := ls) (rest := rest) (pc := pc) (m := m) hcat) hd ⟨X.2.2.2.2.1, X.2.2.2.2.2⟩) kk
theorem acNat : Cond.native arraycopyName ∈ TB := by decide +kernel
theorem acSta : Cond.static arraycopyName ∈ TB := by decide +kernel
theorem acIni : Cond.initialized "java/lang/System" ∈ TB := by decide +kernel
theorem r_copy {a b : Nat} {sp dp n : Int32} (X : Cx G p R s m args c cells slots cc nL own h) (hW : GW G σ s H locs) (ha : kd a = 11) (hb : kd b = 11) (hc : cpC sp dp n a b) (lk : Cond.methodLink own idx arraycopyName ∈ TB) (hd : decode cc pc = .ok (.invokestatic idx, 3)) (hh : 1 ≤ h) (hcat : (rest.map fun v => v.category).sum ≤ 8) (hls : ls.size = nL)
    (kk : ∀ (H1 : Heap) (locs1 : List Loc), GW G (cpI σ a sp b dp n) s H1 locs1 → W p l e R s m args below meth c H1 locs1 cells slots Q (F0 m (pc + 3) ls rest)) : W p l e R s m args below meth c H locs cells slots Q (F0 m pc ls (.int n :: .int dp :: .ref (gz G + b) :: .int sp :: .ref (gz G + a) :: rest)) := by
  obtain ⟨h1, h2, h3, h4, h5⟩ := hc
  have hf := X.2.2.1
  have hlo := X.2.2.2.1
  refine va_copyi X.1.1 X.1.2.1 (X.1.2.2.1.trans hls.symm) X.1.2.2.2.1 (X.1.2.2.2.2 _ lk) (X.1.2.2.2.2 _ acNat) (X.1.2.2.2.2 _ acSta) (X.1.2.2.2.2 _ acIni) X.2.1.1 hW.1 (wl_D G σ) hW.2 a b 0 0 (wl_ct G (by rw [ha]; decide) (ct_11 G σ ha)) (wl_ct G (by rw [hb]; decide) (ct_11 G σ hb)) rfl rfl rfl h1 h2 h3 h4 h5 (fun _ _ => rfl) (Nat.le_trans hh hf) ?_ hd (fun H1 locs1 hP hD hS => kk H1 locs1 ⟨?_, hS⟩)
  · have : nativeFrameWords "java/lang/System" "arraycopy" 5 ≤ 21 := by decide +kernel
    omega
  · rw [wl_set G (σ' := cpI σ a sp b dp n) (by rw [ct_11 G _ hb]; unfold cpI; rw [gI_row]) (fun j hj => ct_row G hj)] at hP
    exact hP
end RX
