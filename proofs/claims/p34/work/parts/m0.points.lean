/-! ROWS BY POINTS: what an instruction does to one cell, the others as they were -/
theorem P1 {D : va_G} {cl : List vw_C} {q : Nat × va_E} {H : Heap} (h : va_at D cl q H) : va_P D cl [q] H := fun k x hx => by
  cases k with
  | zero => cases hx; exact h
  | succ k => simp at hx
section PT
variable {G : Gt} {p : Program} {l : Launch} {e : Env} {R : Room} {s : State} {m : MethodId} {args : Array Value} {below : List Frame} {meth : Method} {c : Code} {H : Heap} {locs : List Loc} {cells slots : Nat} {Q : State → Prop}
variable {cc : ByteArray} {nL h a idx cells0 slots0 : Nat} {own host C : String} {pc : Nat} {ls : Array Slot} {rest : List Value}
theorem p_get {T : u_T} {N ci k : Nat} {fs : List Value} {v : Value} (X : Cx G p R s m args c cells0 slots0 cc nL own h) (hf : va_at (gDD G) vwCl (a, .inr (ci, fs)) H) (hin : ∀ w ∈ u_ws C T N, w ∈ TB) (hc : vwCl[ci]? = some (C, T, N)) (hk : k < N) (hl : Cond.fieldLink own idx (T k).1 (T k).2.1 (T k).2.2.1 ∈ TB) (hv : fs[k]? = some v) (hd : decode cc pc = .ok (.getfield idx, 3))
    (kk : W p l e R s m args below meth c H locs cells slots Q (F0 m (pc + 3) ls (v :: rest))) : W p l e R s m args below meth c H locs cells slots Q (F0 m pc ls (.ref a :: rest)) :=
  va_get (D := gDD G) (ci := ci) (C := C) (T := T) (N := N) X.1.1 X.1.2.1 X.1.2.2.2.2 hin X.1.2.2.2.1 X.2.1.1 (P1 hf) 0 rfl hc k hk (X.1.2.2.2.2 _ hl) (fun _ h9 => h9) hv hd kk
theorem p_getN {T : u_T} {N ci k : Nat} {fs : List Value} {v : Value} (X : Cx G p R s m args c cells0 slots0 cc nL own h) (hf : va_at (gDD G) vwCl (a, .inr (ci, fs)) H) (hin : ∀ w ∈ u_ws C T N, w ∈ TB) (hc : vwCl[ci]? = some (C, T, N)) (hk : k < N) (hl : Cond.fieldLinkNest own idx (T k).1 (T k).2.1 (T k).2.2.1 host ∈ TB) (hv : fs[k]? = some v) (hd : decode cc pc = .ok (.getfield idx, 3))
    (kk : W p l e R s m args below meth c H locs cells slots Q (F0 m (pc + 3) ls (v :: rest))) : W p l e R s m args below meth c H locs cells slots Q (F0 m pc ls (.ref a :: rest)) :=
  va_getN (D := gDD G) (ci := ci) (C := C) (T := T) (N := N) X.1.1 X.1.2.1 X.1.2.2.2.2 hin X.1.2.2.2.1 X.2.1.1 (P1 hf) 0 rfl hc k hk (X.1.2.2.2.2 _ hl) (fun _ h9 => h9) hv hd kk
theorem p_put {T : u_T} {N ci k : Nat} {fs : List Value} {v : Value} {ty : FieldType} (X : Cx G p R s m args c cells0 slots0 cc nL own h) (hf : va_at (gDD G) vwCl (a, .inr (ci, fs)) H) (hin : ∀ w ∈ u_ws C T N, w ∈ TB) (ty0 : Nat → FieldType) (hty : ∀ k, k < N → parseFieldDescriptor (T k).2.2.1 = some (ty0 k)) (hnm : ∀ a, a < N → ∀ b, b < N → a ≠ b → (T a).2.1 ≠ (T b).2.1) (hc : vwCl[ci]? = some (C, T, N)) (hk : k < N) (hl : Cond.fieldLink own idx (T k).1 (T k).2.1 (T k).2.2.1 ∈ TB) (hfn : (T k).2.2.2 = true → meth.name = "<init>" ∧ (T k).1 = own) (hty1 : parseFieldDescriptor (T k).2.2.1 = some ty) (hnr : narrow ty v = v) (hfit : fits ty v = true) (hlen : k < fs.length) (hd : decode cc pc = .ok (.putfield idx, 3))
    (kk : ∀ (H1 : Heap) (kx : Nat), va_at (gDD G) vwCl (a, .inr (ci, fs.set k v)) H1 → H1.size = H.size → (∀ q : Nat, q ≠ a → H1[q]? = H[q]?) → W p l e R s m args below meth c H1 (locs ++ [⟨a, kx⟩]) cells slots Q (F0 m (pc + 3) ls rest)) : W p l e R s m args below meth c H locs cells slots Q (F0 m pc ls (v :: .ref a :: rest)) := by
  have hts := X.1.2.2.2.2
  have hap := va_apart (own := own) hts hin ty0 hty hnm X.2.1.1 hc
  obtain ⟨r, h1, cell, q1, q2, q3, q4⟩ := hf
  have hr : r = (C, T, N) := Option.some.inj (h1.symm.trans hc)
  subst hr
  obtain ⟨hS, hfc, kC, hkC, hkind⟩ := X.2.1.1.1 ci _ hc
  obtain ⟨cf, kf, fi, f, hi, hsl⟩ := hS k hk
  have hlay := hts _ (hin _ (u_in_lay hk))
  unfold u_lay at hlay
  have hst := (u_facts hfc hkC (u_lays hts hin hk) hi).1
  have key : ∀ H' : Heap, H'[a]? = some (cell.setSlot ((gDD G).2 ci k) v) → va_at (gDD G) vwCl (a, .inr (ci, fs.set k v)) H' := fun H' e1 =>
    ⟨_, hc, t_OB.to (V := updV (vp_V fs) k v) ⟨_, e1, q2, q3, t_set q4 hap hk v⟩ (fun j _ => vp_updV_set hlen v j)⟩
  by_cases hfin : (T k).2.2.2 = true
  · rw [if_pos hfin] at hlay
    obtain ⟨hin2, hdecl⟩ := hfn hfin
    have hcf : m.cls = cf := by
      obtain ⟨_, _, c', _, _, _, -, -, hf', -, -, -, hown2, -⟩ := Cond.laysFinal_spec hlay
      have e1 : c' = cf := by have := hi.symm.trans hf'; simp at this; exact this.1.symm
      rw [hdecl] at hown2
      rw [← e1]; exact Option.some.inj (X.1.2.2.2.1.symm.trans hown2)
    have h6 := u_fits hfc hkC hkind (Or.inr hlay) hi hty1 hnr hfit
    refine W.putFinK X.1.1 X.1.2.1 X.1.2.2.2.1 (hts _ hl) hi hst hcf hin2 (by rw [q2]; exact h6) q1 q3 (by rw [hsl]; exact k2_hasslot (q4 k hk)) rfl rfl hd fun H' e1 e2 e3 => ?_
    rw [hsl] at e1 ⊢
    exact kk H' _ (key H' e1) e2 e3
  · rw [if_neg hfin] at hlay
    have h6 := u_store hfc hkC hkind hlay hi hty1 hnr hfit
    refine W.putK X.1.1 X.1.2.1 (f := f) ⟨X.1.2.2.2.1, hts _ hl, ⟨_, _, _, hi⟩, hst⟩ (by rw [q2]; exact h6) q1 q3 (by rw [hsl]; exact k2_hasslot (q4 k hk)) rfl rfl hd fun H' e1 e2 e3 => ?_
    rw [hsl] at e1 ⊢
    exact kk H' _ (key H' e1) e2 e3
theorem p_putN {T : u_T} {N ci k : Nat} {fs : List Value} {v : Value} {ty : FieldType} (X : Cx G p R s m args c cells0 slots0 cc nL own h) (hf : va_at (gDD G) vwCl (a, .inr (ci, fs)) H) (hin : ∀ w ∈ u_ws C T N, w ∈ TB) (ty0 : Nat → FieldType) (hty : ∀ k, k < N → parseFieldDescriptor (T k).2.2.1 = some (ty0 k)) (hnm : ∀ a, a < N → ∀ b, b < N → a ≠ b → (T a).2.1 ≠ (T b).2.1) (hc : vwCl[ci]? = some (C, T, N)) (hk : k < N) (hl : Cond.fieldLinkNest own idx (T k).1 (T k).2.1 (T k).2.2.1 host ∈ TB) (hfin : (T k).2.2.2 = false) (hty1 : parseFieldDescriptor (T k).2.2.1 = some ty) (hnr : narrow ty v = v) (hfit : fits ty v = true) (hlen : k < fs.length) (hd : decode cc pc = .ok (.putfield idx, 3))
    (kk : ∀ (H1 : Heap) (kx : Nat), va_at (gDD G) vwCl (a, .inr (ci, fs.set k v)) H1 → H1.size = H.size → (∀ q : Nat, q ≠ a → H1[q]? = H[q]?) → W p l e R s m args below meth c H1 (locs ++ [⟨a, kx⟩]) cells slots Q (F0 m (pc + 3) ls rest)) : W p l e R s m args below meth c H locs cells slots Q (F0 m pc ls (v :: .ref a :: rest)) := by
  have hts := X.1.2.2.2.2
  have hap := va_apart (own := own) hts hin ty0 hty hnm X.2.1.1 hc
  obtain ⟨r, h1, cell, q1, q2, q3, q4⟩ := hf
  have hr : r = (C, T, N) := Option.some.inj (h1.symm.trans hc)
  subst hr
  obtain ⟨hS, hfc, kC, hkC, hkind⟩ := X.2.1.1.1 ci _ hc
  obtain ⟨cf, kf, fi, f, hi, hsl⟩ := hS k hk
  have hlay := hts _ (hin _ (u_in_lay hk))
  unfold u_lay at hlay
  rw [if_neg (by rw [hfin]; decide)] at hlay
  have hst := (u_facts hfc hkC (u_lays hts hin hk) hi).1
  have h6 := u_store hfc hkC hkind hlay hi hty1 hnr hfit
  refine va_WputK X.1.1 X.1.2.1 (f := f) X.1.2.2.2.1 (hts _ hl) hi hst (by rw [q2]; exact h6) q1 q3 (by rw [hsl]; exact k2_hasslot (q4 k hk)) rfl rfl hd fun H' e1 e2 e3 => ?_
  rw [hsl] at e1 ⊢
  exact kk H' _ ⟨_, hc, t_OB.to (V := updV (vp_V fs) k v) ⟨_, e1, q2, q3, t_set q4 hap hk v⟩ (fun j _ => vp_updV_set hlen v j)⟩ e2 e3
theorem vp_updI {cA : ClassId} {n : Nat} {f : Nat → Int32} {i : Nat} {x : Int32} : (vp_cell cA (n, .inl f)).setSlot i (.int x) = vp_cell cA (n, .inl (upd f i x)) := by
  rw [vp_cell_i, vp_cell_i, arrV_store]
  congr 2
  funext q
  by_cases hq : q = i
  · subst hq; simp [updV, upd]
  · simp [updV, upd, hq]
theorem p_iast {n t : Nat} {f : Nat → Int32} {i x : Int32} (X : Cx G p R s m args c cells0 slots0 cc nL own h) (hf : va_at (gDD G) vwCl (a, .inl (gty G t, n, .inl f)) H) (ht : (tysG G)[t]? = some (gty G t, .int)) (hin : vp_in i n) (hd : decode cc pc = .ok (.iastore, 1))
    (kk : ∀ (H1 : Heap) (kx : Nat), va_at (gDD G) vwCl (a, .inl (gty G t, n, .inl (upd f i.toNatClampNeg x))) H1 → H1.size = H.size → (∀ q : Nat, q ≠ a → H1[q]? = H[q]?) → W p l e R s m args below meth c H1 (locs ++ [⟨a, kx⟩]) cells slots Q (F0 m (pc + 1) ls rest)) : W p l e R s m args below meth c H locs cells slots Q (F0 m pc ls (.int x :: .int i :: .ref a :: rest)) := by
  refine W.iast X.1.1 X.1.2.1 hf ((X.2.1.1.2 t _ ht).1 n (fun j => .int (f j))) (fun q => by cases q) (by show ¬ (i < 0 ∨ (arrV _ _ _).slots.size ≤ _); rw [arrV_size]; exact hin) rfl rfl hd fun H1 e z oq => ?_
  refine kk H1 _ ?_ z oq
  show H1[a]? = some (vp_cell _ _)
  rw [e]
  exact congrArg some vp_updI
theorem p_bast {n t : Nat} {f : Nat → Int32} {i x : Int32} (X : Cx G p R s m args c cells0 slots0 cc nL own h) (hf : va_at (gDD G) vwCl (a, .inl (gty G t, n, .inl f)) H) (ht : (tysG G)[t]? = some (gty G t, .byte)) (hin : vp_in i n) (hd : decode cc pc = .ok (.bastore, 1))
    (kk : ∀ (H1 : Heap) (kx : Nat), va_at (gDD G) vwCl (a, .inl (gty G t, n, .inl (upd f i.toNatClampNeg (vp_nar .byte x)))) H1 → H1.size = H.size → (∀ q : Nat, q ≠ a → H1[q]? = H[q]?) → W p l e R s m args below meth c H1 (locs ++ [⟨a, kx⟩]) cells slots Q (F0 m (pc + 1) ls rest)) : W p l e R s m args below meth c H locs cells slots Q (F0 m pc ls (.int x :: .int i :: .ref a :: rest)) := by
  refine W.bast X.1.1 X.1.2.1 hf ((X.2.1.1.2 t _ ht).1 n (fun j => .int (f j))) (fun q => by cases q) (by show ¬ (i < 0 ∨ (arrV _ _ _).slots.size ≤ _); rw [arrV_size]; exact hin) rfl rfl hd fun H1 e z oq => ?_
  refine kk H1 _ ?_ z oq
  show H1[a]? = some (vp_cell _ _)
  rw [e]
  exact congrArg some (vp_updI (x := vp_nar .byte x))
theorem p_zast {n t : Nat} {f : Nat → Int32} {i x : Int32} (X : Cx G p R s m args c cells0 slots0 cc nL own h) (hz : x = 0 ∨ x = 1) (hf : va_at (gDD G) vwCl (a, .inl (gty G t, n, .inl f)) H) (ht : (tysG G)[t]? = some (gty G t, .boolean)) (hin : vp_in i n) (hd : decode cc pc = .ok (.bastore, 1))
    (kk : ∀ (H1 : Heap) (kx : Nat), va_at (gDD G) vwCl (a, .inl (gty G t, n, .inl (upd f i.toNatClampNeg x))) H1 → H1.size = H.size → (∀ q : Nat, q ≠ a → H1[q]? = H[q]?) → W p l e R s m args below meth c H1 (locs ++ [⟨a, kx⟩]) cells slots Q (F0 m (pc + 1) ls rest)) : W p l e R s m args below meth c H locs cells slots Q (F0 m pc ls (.int x :: .int i :: .ref a :: rest)) := by
  refine W.zast X.1.1 X.1.2.1 hf ((X.2.1.1.2 t _ ht).1 n (fun j => .int (f j))) (fun q => by cases q) (by show ¬ (i < 0 ∨ (arrV _ _ _).slots.size ≤ _); rw [arrV_size]; exact hin) rfl rfl hd fun H1 e z oq => ?_
  refine kk H1 _ ?_ z oq
  show H1[a]? = some (vp_cell _ _)
  rw [e]
  have e2 := vp_updI (cA := gty G t) (n := n) (f := f) (i := i.toNatClampNeg) (x := vp_nar .boolean x)
  rw [z_vp hz] at e2
  rw [← e2]
  rcases hz with rfl | rfl <;> rfl
theorem p_iald {n t : Nat} {f : Nat → Int32} {i : Int32} (X : Cx G p R s m args c cells0 slots0 cc nL own h) (hf : va_at (gDD G) vwCl (a, .inl (gty G t, n, .inl f)) H) (ht : (tysG G)[t]? = some (gty G t, .int)) (hin : vp_in i n) (hd : decode cc pc = .ok (.iaload, 1))
    (kk : W p l e R s m args below meth c H locs cells slots Q (F0 m (pc + 1) ls (.int (f i.toNatClampNeg) :: rest))) : W p l e R s m args below meth c H locs cells slots Q (F0 m pc ls (.int i :: .ref a :: rest)) := va_iald X.1.1 X.1.2.1 X.2.1.1 (P1 hf) 0 t rfl ht hin hd kk
theorem p_bald {n t : Nat} {f : Nat → Int32} {i : Int32} (X : Cx G p R s m args c cells0 slots0 cc nL own h) (hf : va_at (gDD G) vwCl (a, .inl (gty G t, n, .inl f)) H) (ht : (tysG G)[t]? = some (gty G t, .byte)) (hin : vp_in i n) (hd : decode cc pc = .ok (.baload, 1))
    (kk : W p l e R s m args below meth c H locs cells slots Q (F0 m (pc + 1) ls (.int (f i.toNatClampNeg) :: rest))) : W p l e R s m args below meth c H locs cells slots Q (F0 m pc ls (.int i :: .ref a :: rest)) := va_bald X.1.1 X.1.2.1 X.2.1.1 (P1 hf) 0 t rfl ht hin hd kk
theorem p_zald {n t : Nat} {f : Nat → Int32} {i : Int32} (X : Cx G p R s m args c cells0 slots0 cc nL own h) (hf : va_at (gDD G) vwCl (a, .inl (gty G t, n, .inl f)) H) (ht : (tysG G)[t]? = some (gty G t, .boolean)) (hin : vp_in i n) (hd : decode cc pc = .ok (.baload, 1))
    (kk : W p l e R s m args below meth c H locs cells slots Q (F0 m (pc + 1) ls (.int (f i.toNatClampNeg) :: rest))) : W p l e R s m args below meth c H locs cells slots Q (F0 m pc ls (.int i :: .ref a :: rest)) := va_zald X.1.1 X.1.2.1 X.2.1.1 (P1 hf) 0 t rfl ht hin hd kk
theorem p_alen {t : Nat} {x : vp_A} {ty : FieldType} (X : Cx G p R s m args c cells0 slots0 cc nL own h) (hf : va_at (gDD G) vwCl (a, .inl (gty G t, x)) H) (ht : (tysG G)[t]? = some (gty G t, ty)) (hd : decode cc pc = .ok (.arraylength, 1))
    (kk : W p l e R s m args below meth c H locs cells slots Q (F0 m (pc + 1) ls (.int (nI x.1) :: rest))) : W p l e R s m args below meth c H locs cells slots Q (F0 m pc ls (.ref a :: rest)) := va_alen X.1.1 X.1.2.1 X.2.1.1 (P1 hf) 0 t rfl ht rfl hd kk
theorem p_new {T : u_T} {N ci : Nat} {fs : List Value} (X : Cx G p R s m args c cells0 slots0 cc nL own h) (hin : ∀ w ∈ u_ws C T N, w ∈ TB) (ty0 : Nat → FieldType) (hty : ∀ k, k < N → parseFieldDescriptor (T k).2.2.1 = some (ty0 k)) (hc : vwCl[ci]? = some (C, T, N)) (hfs : ∀ j, j < N → defaultValue (ty0 j) = vp_V fs j) (hcl : Cond.classLink own idx C ∈ TB) (hinst : Cond.instantiable C N ∈ TB) (hini : Cond.initialized C ∈ TB) (hcells : cells + 1 ≤ R.cells) (hslots : slots + N ≤ R.slots) (hd : decode cc pc = .ok (.new idx, 3))
    (kk : ∀ (H1 : Heap), va_at (gDD G) vwCl (H.size, .inr (ci, fs)) H1 → H1.size = H.size + 1 → (∀ q : Nat, q < H.size → H1[q]? = H[q]?) → W p l e R s m args below meth c H1 locs (cells + 1) (slots + N) Q (F0 m (pc + 3) ls (.ref H.size :: rest))) : W p l e R s m args below meth c H locs cells slots Q (F0 m pc ls rest) := by
  have hts := X.1.2.2.2.2
  have hKn := X.2.1.1.1 ci _ hc
  refine W.newcK X.1.1 X.1.2.1 X.1.2.2.2.1 (hts _ hcl) (hts _ hinst) (hts _ hini) rfl hd hcells hslots hKn.2.1 rfl fun H1 kC hkC e1 z1 o1 => ?_
  exact kk H1 ⟨_, hc, (u_born ty0 hts hin hKn hkC e1 hty).to hfs⟩ z1 o1
theorem p_newa {atype : ArrayType} {ty : FieldType} {t N : Nat} {x : Int32} {a0 : vp_A} (X : Cx G p R s m args c cells0 slots0 cc nL own h) (harr : Cond.arrayClass (newarray.typeOf atype) ∈ TB) (hty : newarray.typeOf atype = ty) (ht : (tysG G)[t]? = some (gty G t, ty)) (hob : ∀ C, ty ≠ .object C) (ha : vp_cell (gty G t) a0 = arrV (gty G t) N (fun _ => defaultValue ty)) (hn : ¬ x < 0) (hN : x.toNatClampNeg = N) (hbytes : N * componentBytes ty ≤ 536870912) (hcells : cells + 1 ≤ R.cells) (hslots : slots + N ≤ R.slots) (hd : decode cc pc = .ok (.newarray atype, 2))
    (kk : ∀ (H1 : Heap), va_at (gDD G) vwCl (H.size, .inl (gty G t, a0)) H1 → H1.size = H.size + 1 → (∀ q : Nat, q < H.size → H1[q]? = H[q]?) → W p l e R s m args below meth c H1 locs (cells + 1) (slots + N) Q (F0 m (pc + 2) ls (.ref H.size :: rest))) : W p l e R s m args below meth c H locs cells slots Q (F0 m pc ls (.int x :: rest)) := by
  have hts := X.1.2.2.2.2
  subst hty
  refine va_newaK X.1.1 X.1.2.1 (hts _ harr) rfl hd rfl hn hN hbytes hcells hslots rfl fun H1 cA e1 z1 o1 _ hNm => ?_
  have hra := (X.2.1.1.2 t _ ht).2
  have hcA : cA = gty G t := by
    have h2 : s.vm.findClass ("[" ++ (newarray.typeOf atype).toString) = some (gty G t) := by
      unfold va_RA at hra
      cases hy : newarray.typeOf atype <;> rw [hy] at hra hob <;> first | exact hra | exact absurd rfl (hob _)
    exact Option.some.inj (hNm.symm.trans h2)
  subst hcA
  refine kk H1 ?_ z1 o1
  show H1[_]? = some (vp_cell _ _)
  rw [ha]
  exact e1
theorem p_anew {t N : Nat} {x : Int32} (X : Cx G p R s m args c cells0 slots0 cc nL own h) (hcl : Cond.classLink own idx C ∈ TB) (hov : va_AO C s) (ht : (tysG G)[t]? = some (gty G t, .object C)) (hn : ¬ x < 0) (hN : x.toNatClampNeg = N) (hbytes : N * 4 ≤ 536870912) (hcells : cells + 1 ≤ R.cells) (hslots : slots + N ≤ R.slots) (hd : decode cc pc = .ok (.anewarray idx, 3))
    (kk : ∀ (H1 : Heap), va_at (gDD G) vwCl (H.size, .inl (gty G t, N, .inr (.inr (.inr (.inr (fun _ => none)))))) H1 → H1.size = H.size + 1 → (∀ q : Nat, q < H.size → H1[q]? = H[q]?) → W p l e R s m args below meth c H1 locs (cells + 1) (slots + N) Q (F0 m (pc + 3) ls (.ref H.size :: rest))) : W p l e R s m args below meth c H locs cells slots Q (F0 m pc ls (.int x :: rest)) := by
  have hts := X.1.2.2.2.2
  subst hN
  refine W.anew X.1.1 X.1.2.1 X.1.2.2.2.1 (hts _ hcl) (va_AO.use hov) rfl hd rfl hn hbytes hcells hslots fun cA kA comp f1 f2 f3 f4 => ?_
  obtain ⟨kA', comp', g1, g2, g3, g4⟩ := (X.2.1.1.2 t _ ht).2
  have hcA : cA = gty G t := Option.some.inj (f1.symm.trans g4)
  subst hcA
  generalize hH1 : H.push ({ cls := gty G t, slots := Array.replicate x.toNatClampNeg .null, vm := .none } : Cell) = H1
  have z1 : H1.size = H.size + 1 := by rw [← hH1, Array.size_push]
  have e1 : H1[H.size]? = some (arrV (gty G t) x.toNatClampNeg (fun _ => .null)) := by rw [← hH1, Array.getElem?_push_size, ← arrV_new]
  have o1 : ∀ q : Nat, q < H.size → H1[q]? = H[q]? := fun q hq => by rw [← hH1, Array.getElem?_push, if_neg (Nat.ne_of_lt hq)]
  exact kk H1 e1 z1 o1
theorem p_recv {ci : Nat} {fs : List Value} {r : vw_C} (X : Cx G p R s m args c cells0 slots0 cc nL own h) (hf : va_at (gDD G) vwCl (a, .inr (ci, fs)) H) (hc : vwCl[ci]? = some r) : ∃ cell : Cell, H[a]? = some cell ∧ cell.vm.isStatics = false ∧ s.vm.findClass r.1 = some cell.cls := va_recv X.2.1.1 (P1 hf) hc (q0 := 0) rfl
end PT
