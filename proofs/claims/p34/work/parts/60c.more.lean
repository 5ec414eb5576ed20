section
variable {p : Program} {l : Launch} {e : Env} {R : Room} {s : State} {m : MethodId} {args : Array Value} {below : List Frame} {meth : Method} {c : Code} {H : Heap} {locs : List Loc} {cells slots : Nat} {Q : State → Prop}
variable {cc : ByteArray} {pc : Nat} {ls : Array Slot} {rest : List Value}
theorem lv_astoreT (hx : p.tables.exec = Jvm.exec) (hb : c.code = cc) {i nL : Nat} {ad : Nat → Nat} {x : Option Nat} {lv lv' : List (Nat × Value)} (hdg : decode cc pc = .ok (.astore i, 2)) (hh : lv_has ls nL lv) (hn : i < nL) (hl : (i, va_re ad x) :: lv.filter (fun q => !(q.1 == i) && !(q.1 + 1 == i && q.2.category == 2)) = lv')
    (kk : ∀ ls' : Array Slot, lv_has ls' nL lv' → W p l e R s m args below meth c H locs cells slots Q (F0 m (pc + 2) ls' rest)) : W p l e R s m args below meth c H locs cells slots Q (F0 m pc ls (va_re ad x :: rest)) := by
  cases x with
  | none => exact lv_astoreN hx hb hdg hh hn hl kk
  | some x => exact lv_astore hx hb hdg hh hn hl kk
end
section
variable {G : Gt} {p : Program} {l : Launch} {e : Env} {R : Room} {s : State} {m : MethodId} {args : Array Value} {below : List Frame} {meth : Method} {c : Code} {H : Heap} {locs : List Loc} {cells slots : Nat} {Q : State → Prop}
variable {cc : ByteArray} {nL h idx : Nat} {own : String} {pc : Nat} {ls : Array Slot} {rest : List Value} {σ σ' : St}
theorem r_ldcSW {k : Nat} (X : Cx G p R s m args c cells slots cc nL own h) (hW : GW G σ s H locs) (hk : k < 48) (ho : stO.getD k "" = own) (hi : stK.getD k 0 = idx) (hd : decode cc pc = .ok (.ldc_w idx, 3))
    (kk : W p l e R s m args below meth c H locs cells slots Q (F0 m (pc + 3) ls (.ref (gsK G k) :: rest))) : W p l e R s m args below meth c H locs cells slots Q (F0 m pc ls rest) := by
  have h6 := X.2.1.2.2.2.2.2.2.2.1 k hk
  rw [ho, hi] at h6
  intro T hT X1
  obtain ⟨t, a1, b1⟩ := kk T hT X1
  exact ⟨t, X1.ldcStringW X.1.1 (own := own) (text := stT.getD k "") (index := idx) (a := gsK G k) X.1.2.2.2.1 h6.1 h6.2 (g := F0 m pc ls rest) rfl (by rw [X.1.2.1]; exact hd) t a1, b1⟩
theorem nm_d {α : Type} {x : UInt64} {f : UInt64 → α} {r : α} (h : bnd x f = r) (k : ∀ y : UInt64, f y = r → W p l e R s m args below meth c H locs cells slots Q (F0 m pc ls (.double y :: rest))) : W p l e R s m args below meth c H locs cells slots Q (F0 m pc ls (.double x :: rest)) := k x h
def R_D (G : Gt) (p : Program) (l : Launch) (e : Env) (R : Room) (s : State) (m : MethodId) (args : Array Value) (below : List Frame) (meth : Method) (c : Code) (cells slots : Nat) (Q : State → Prop) (cc : ByteArray) (r : UInt64) (σ' : St) : Prop :=
  ∀ (pc : Nat) (H : Heap) (locs : List Loc) (ls : Array Slot), decode cc pc = .ok (.dreturn, 1) → GW G σ' s H locs → W p l e R s m args below meth c H locs cells slots Q (F0 m pc ls [.double r])
def R_F (G : Gt) (p : Program) (l : Launch) (e : Env) (R : Room) (s : State) (m : MethodId) (args : Array Value) (below : List Frame) (meth : Method) (c : Code) (cells slots : Nat) (Q : State → Prop) (cc : ByteArray) (r : UInt32) (σ' : St) : Prop :=
  ∀ (pc : Nat) (H : Heap) (locs : List Loc) (ls : Array Slot), decode cc pc = .ok (.freturn, 1) → GW G σ' s H locs → W p l e R s m args below meth c H locs cells slots Q (F0 m pc ls [.float r])
theorem rd_end {x r : UInt64} (hr : R_D G p l e R s m args below meth c cells slots Q cc r σ') (h : some (x, σ) = some (r, σ')) (hd : decode cc pc = .ok (.dreturn, 1)) (hW : GW G σ s H locs) : W p l e R s m args below meth c H locs cells slots Q (F0 m pc ls [.double x]) := by cases h; exact hr _ _ _ _ hd hW
theorem rf_end {x r : UInt32} (hr : R_F G p l e R s m args below meth c cells slots Q cc r σ') (h : some (x, σ) = some (r, σ')) (hd : decode cc pc = .ok (.freturn, 1)) (hW : GW G σ s H locs) : W p l e R s m args below meth c H locs cells slots Q (F0 m pc ls [.float x]) := by cases h; exact hr _ _ _ _ hd hW
end
section
variable {G : Gt} {l : Launch} {y : MethodName} {cc : ByteArray} {maxL : Nat} {ret : Option FieldType} {h : Nat} {av : List Value} {σ σ' : St}
theorem met_d {r : UInt64} (hy : plainFor y = true) (hlen : (lg_sl av).length ≤ maxL) (hret : ret = some .double)
    (body : ∀ (p : Program) (e : Env) (s : State) (m : MethodId) (args : Array Value) (below : List Frame) (meth : Method) (c : Code) (Q : State → Prop) (ls : Array Slot), Cx G p (rmH h) s m args c 0 0 cc maxL y.cls h → GW G σ s s.heap [] → R_D G p l e (rmH h) s m args below meth c 0 0 Q cc r σ' → lv_has ls maxL (lv_args 0 av) → W p l e (rmH h) s m args below meth c s.heap [] 0 0 Q (F0 m 0 ls [])) :
    Ct G l y cc maxL ret h av σ (some (.double r)) σ' := by
  refine va_MetF (cc := cc) (maxL := maxL) (ret := ret) hy rfl ?_
  intro p e s m args below meth c s₁ B hml hv
  obtain ⟨X, hW, rfl⟩ := met_cx B hml hv
  have hl := lv_entry av (n := maxL) hlen
  rw [lg_entry_eq]
  generalize (lg_sl av ++ List.replicate (maxL - (lg_sl av).length) Slot.unset).toArray = ls at hl ⊢
  have hlocks := B.notSynchronized
  refine body p e s m av.toArray below meth c _ ls X hW ?_ hl
  intro pc H locs ls1 hd hW1
  exact W.dret X.1.1 X.1.2.1 (B.returns.trans hret) (fun t ht hw => ⟨rfl, by rw [ht]; exact hW1.1, hW1.2.F ht⟩) hW1.2.2.2 hd hlocks
theorem met_f {r : UInt32} (hy : plainFor y = true) (hlen : (lg_sl av).length ≤ maxL) (hret : ret = some .float)
    (body : ∀ (p : Program) (e : Env) (s : State) (m : MethodId) (args : Array Value) (below : List Frame) (meth : Method) (c : Code) (Q : State → Prop) (ls : Array Slot), Cx G p (rmH h) s m args c 0 0 cc maxL y.cls h → GW G σ s s.heap [] → R_F G p l e (rmH h) s m args below meth c 0 0 Q cc r σ' → lv_has ls maxL (lv_args 0 av) → W p l e (rmH h) s m args below meth c s.heap [] 0 0 Q (F0 m 0 ls [])) :
    Ct G l y cc maxL ret h av σ (some (.float r)) σ' := by
  refine va_MetF (cc := cc) (maxL := maxL) (ret := ret) hy rfl ?_
  intro p e s m args below meth c s₁ B hml hv
  obtain ⟨X, hW, rfl⟩ := met_cx B hml hv
  have hl := lv_entry av (n := maxL) hlen
  rw [lg_entry_eq]
  generalize (lg_sl av ++ List.replicate (maxL - (lg_sl av).length) Slot.unset).toArray = ls at hl ⊢
  have hlocks := B.notSynchronized
  refine body p e s m av.toArray below meth c _ ls X hW ?_ hl
  intro pc H locs ls1 hd hW1
  exact W.fret X.1.1 X.1.2.1 (B.returns.trans hret) (fun t ht hw => ⟨rfl, by rw [ht]; exact hW1.1, hW1.2.F ht⟩) hW1.2.2.2 hd hlocks
end
