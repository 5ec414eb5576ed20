theorem m_0_37 : Cond.selects RJx4a65c yJx4a65c_add_72be8 yJx4a65c_add_72be8 ∈ TB := mem_t0 37 (by decide +kernel)
theorem m_0_38 : Cond.selects RJx4a65c yJx4a65c_grow_d5877 yJx4a65c_grow_d5877 ∈ TB := mem_t0 38 (by decide +kernel)
theorem m_0_39 : Cond.selects RJx4a65c yJx4a65c_grow_92f84 yJx4a65c_grow_92f84 ∈ TB := mem_t0 39 (by decide +kernel)
theorem m_1_2 : Cond.initialized RJxa1e45 ∈ TB := mem_t1 2 (by decide +kernel)
theorem m_1_3 : Cond.initialized RJxc12de ∈ TB := mem_t1 3 (by decide +kernel)
theorem m_3_41 : Cond.methodLink RJx4a65c 1 yJxc12de_init_da8c8 ∈ TB := mem_t3 41 (by decide +kernel)
theorem m_3_42 : Cond.instanceMethod yJxc12de_init_da8c8 ∈ TB := mem_t3 42 (by decide +kernel)
theorem m_3_43 : Cond.code yJxc12de_init_da8c8 cJxc12de_init_da8c8 1 none ∈ TB := mem_t3 43 (by decide +kernel)
theorem m_3_44 : Cond.methodLink RJxc12de 1 yJxa1e45_init_da8c8 ∈ TB := mem_t3 44 (by decide +kernel)
theorem m_3_45 : Cond.instanceMethod yJxa1e45_init_da8c8 ∈ TB := mem_t3 45 (by decide +kernel)
theorem m_3_46 : Cond.code yJxa1e45_init_da8c8 cJxa1e45_init_da8c8 1 none ∈ TB := mem_t3 46 (by decide +kernel)
theorem m_3_47 : Cond.methodLink RJxa1e45 1 objectInit ∈ TB := mem_t3 47 (by decide +kernel)
theorem m_3_48 : Cond.fieldLink RJx4a65c 39 "java/util/ArrayList" "DEFAULTCAPACITY_EMPTY_ELEMENTDATA" "[Ljava/lang/Object;" ∈ TB := mem_t3 48 (by decide +kernel)
theorem m_3_52 : Cond.fieldLink RJxc12de 7 "java/util/AbstractList" "modCount" "I" ∈ TB := mem_t3 52 (by decide +kernel)
theorem m_3_53 : Cond.fieldLink RJx4a65c 63 "java/util/ArrayList" "modCount" "I" ∈ TB := mem_t3 53 (by decide +kernel)
theorem m_3_54 : Cond.sameField "java/util/ArrayList" "java/util/AbstractList" "modCount" "I" ∈ TB := mem_t3 54 (by decide +kernel)
theorem m_7_123 : Cond.methodLink RJx4a65c 131 yJx4a65c_add_72be8 ∈ TB := mem_t7 123 (by decide +kernel)
theorem m_7_125 : Cond.instanceMethod yJx4a65c_add_72be8 ∈ TB := mem_t7 125 (by decide +kernel)
theorem m_7_126 : Cond.code yJx4a65c_add_72be8 cJx4a65c_add_72be8 4 none ∈ TB := mem_t7 126 (by decide +kernel)
theorem m_7_127 : Cond.methodLink RJx4a65c 129 yJx4a65c_grow_d5877 ∈ TB := mem_t7 127 (by decide +kernel)
theorem m_7_129 : Cond.instanceMethod yJx4a65c_grow_d5877 ∈ TB := mem_t7 129 (by decide +kernel)
theorem m_7_130 : Cond.code yJx4a65c_grow_d5877 cJx4a65c_grow_d5877 1 (some (.array (.object "java/lang/Object"))) ∈ TB := mem_t7 130 (by decide +kernel)
theorem m_7_131 : Cond.methodLink RJx4a65c 69 yJx4a65c_grow_92f84 ∈ TB := mem_t7 131 (by decide +kernel)
theorem m_7_133 : Cond.instanceMethod yJx4a65c_grow_92f84 ∈ TB := mem_t7 133 (by decide +kernel)
theorem m_7_134 : Cond.code yJx4a65c_grow_92f84 cJx4a65c_grow_92f84 4 (some (.array (.object "java/lang/Object"))) ∈ TB := mem_t7 134 (by decide +kernel)
theorem m_7_146 : Cond.methodLink RJx4a65c 79 yJ9_max_7cf53 ∈ TB := mem_t7 146 (by decide +kernel)
theorem m_7_147 : Cond.classLink RJx4a65c 7 "java/lang/Object" ∈ TB := mem_t7 147 (by decide +kernel)
theorem m_7_183 : Cond.castable "QuestLedgerLaw$Step" "java/lang/Object" ∈ TB := mem_t7 183 (by decide +kernel)
theorem mv_Jxa1e45_init_da8c8 : MV yJxa1e45_init_da8c8 cJxa1e45_init_da8c8 1 none 0 := ⟨m_3_46, by decide +kernel, m_1_2, ⟨by decide +kernel, by decide +kernel, by decide +kernel⟩, by decide⟩
theorem mv_Jxc12de_init_da8c8 : MV yJxc12de_init_da8c8 cJxc12de_init_da8c8 1 none 0 := ⟨m_3_43, by decide +kernel, m_1_3, ⟨by decide +kernel, by decide +kernel, by decide +kernel⟩, by decide⟩
theorem mv_Jx4a65c_grow_92f84 : MV yJx4a65c_grow_92f84 cJx4a65c_grow_92f84 4 (some (.array (.object "java/lang/Object"))) 1 := ⟨m_7_134, by decide +kernel, m_1_4, ⟨by decide +kernel, by decide +kernel, by decide +kernel⟩, by decide⟩
theorem mv_Jx4a65c_grow_d5877 : MV yJx4a65c_grow_d5877 cJx4a65c_grow_d5877 1 (some (.array (.object "java/lang/Object"))) 0 := ⟨m_7_130, by decide +kernel, m_1_4, ⟨by decide +kernel, by decide +kernel, by decide +kernel⟩, by decide⟩
theorem mv_Jx4a65c_add_72be8 : MV yJx4a65c_add_72be8 cJx4a65c_add_72be8 4 none 3 := ⟨m_7_126, by decide +kernel, m_1_4, ⟨by decide +kernel, by decide +kernel, by decide +kernel⟩, by decide⟩
theorem sl_RJx4a65c_Jx4a65c_grow_92f84 : Slc RJx4a65c yJx4a65c_grow_92f84 yJx4a65c_grow_92f84 1 := ⟨Or.inl m_0_39, ⟨_, _, _, m_3_102, rfl⟩, ⟨_, _, _, m_3_102, rfl⟩, Or.inr ⟨m_7_133, _, _, _, m_7_134⟩, m_7_133, ⟨by decide +kernel, by decide +kernel⟩, by decide +kernel⟩
theorem sl_RJx4a65c_Jx4a65c_grow_d5877 : Slc RJx4a65c yJx4a65c_grow_d5877 yJx4a65c_grow_d5877 0 := ⟨Or.inl m_0_38, ⟨_, _, _, m_3_102, rfl⟩, ⟨_, _, _, m_3_102, rfl⟩, Or.inr ⟨m_7_129, _, _, _, m_7_130⟩, m_7_129, ⟨by decide +kernel, by decide +kernel⟩, by decide +kernel⟩
theorem sl_RJx4a65c_Jx4a65c_add_72be8 : Slc RJx4a65c yJx4a65c_add_72be8 yJx4a65c_add_72be8 3 := ⟨Or.inl m_0_37, ⟨_, _, _, m_3_102, rfl⟩, ⟨_, _, _, m_3_102, rfl⟩, Or.inr ⟨m_7_125, _, _, _, m_7_126⟩, m_7_125, ⟨by decide +kernel, by decide +kernel⟩, by decide +kernel⟩
/-! ARRAYLIST made and filled -/
section
variable {G : Gt} {p : Program} {l : Launch} {e : Env} {R : Room} {s : State} {m : MethodId} {args : Array Value} {below : List Frame} {meth : Method} {c : Code} {H : Heap} {locs : List Loc} {cells slots : Nat} {Q : State → Prop}
variable {cc : ByteArray} {nL h idx cells0 slots0 a t : Nat} {own C ref nm dd : String} {pc : Nat} {ls : Array Slot} {rest : List Value}
theorem p_getS {T : u_T} {N ci k : Nat} {fs : List Value} {v : Value} (X : Cx G p R s m args c cells0 slots0 cc nL own h) (hf : va_at (gDD G) vwCl (a, .inr (ci, fs)) H) (hin : ∀ w ∈ u_ws C T N, w ∈ TB) (hc : vwCl[ci]? = some (C, T, N)) (hk : k < N) (hl : Cond.fieldLink own idx ref (T k).2.1 (T k).2.2.1 ∈ TB) (hsame : Cond.sameField ref (T k).1 (T k).2.1 (T k).2.2.1 ∈ TB) (hv : fs[k]? = some v) (hd : decode cc pc = .ok (.getfield idx, 3))
    (kk : W p l e R s m args below meth c H locs cells slots Q (F0 m (pc + 3) ls (v :: rest))) : W p l e R s m args below meth c H locs cells slots Q (F0 m pc ls (.ref a :: rest)) :=
  va_get (D := gDD G) (ci := ci) (C := C) (T := T) (N := N) X.1.1 X.1.2.1 X.1.2.2.2.2 hin X.1.2.2.2.1 X.2.1.1 (P1 hf) 0 rfl hc k hk (X.1.2.2.2.2 _ hl) (fun x hx => u_same (X.1.2.2.2.2 _ hsame) x hx) hv hd kk
theorem p_putS {T : u_T} {N ci k : Nat} {fs : List Value} {v : Value} {ty : FieldType} (X : Cx G p R s m args c cells0 slots0 cc nL own h) (hf : va_at (gDD G) vwCl (a, .inr (ci, fs)) H) (hin : ∀ w ∈ u_ws C T N, w ∈ TB) (ty0 : Nat → FieldType) (hty : ∀ k, k < N → parseFieldDescriptor (T k).2.2.1 = some (ty0 k)) (hnm : ∀ a, a < N → ∀ b, b < N → a ≠ b → (T a).2.1 ≠ (T b).2.1) (hc : vwCl[ci]? = some (C, T, N)) (hk : k < N) (hl : Cond.fieldLink own idx ref (T k).2.1 (T k).2.2.1 ∈ TB) (hsame : Cond.sameField ref (T k).1 (T k).2.1 (T k).2.2.1 ∈ TB) (hfin : (T k).2.2.2 = false) (hty1 : parseFieldDescriptor (T k).2.2.1 = some ty) (hnr : narrow ty v = v) (hfit : fits ty v = true) (hlen : k < fs.length) (hd : decode cc pc = .ok (.putfield idx, 3))
    (kk : ∀ (H1 : Heap) (kx : Nat), va_at (gDD G) vwCl (a, .inr (ci, fs.set k v)) H1 → H1.size = H.size → (∀ q : Nat, q ≠ a → H1[q]? = H[q]?) → W p l e R s m args below meth c H1 (locs ++ [⟨a, kx⟩]) cells slots Q (F0 m (pc + 3) ls rest)) : W p l e R s m args below meth c H locs cells slots Q (F0 m pc ls (v :: .ref a :: rest)) := by
  have hts := X.1.2.2.2.2
  have hap := va_apart (own := own) hts hin ty0 hty hnm X.2.1.1 hc
  obtain ⟨r, h1, cell, q1, q2, q3, q4⟩ := hf
  have hr : r = (C, T, N) := Option.some.inj (h1.symm.trans hc)
  subst hr
  obtain ⟨hS, hfc, kC, hkC, hkind⟩ := X.2.1.1.1 ci _ hc
  obtain ⟨cf, kf, fi, f, hi, hsl⟩ := hS k hk
  have hlay := hts _ (hin _ (u_in_lay hk))
  unfold u_lay at hlay
  rw [if_neg (by rw [hfin]; decide)] at hlay
  have hst := (u_facts hfc hkC (u_lays hts hin hk) hi).1
  have h6 := u_store hfc hkC hkind hlay hi hty1 hnr hfit
  refine W.putK X.1.1 X.1.2.1 (f := f) ⟨X.1.2.2.2.1, hts _ hl, ⟨_, _, _, u_same (hts _ hsame) _ hi⟩, hst⟩ (by rw [q2]; exact h6) q1 q3 (by rw [hsl]; exact k2_hasslot (q4 k hk)) rfl rfl hd fun H' e1 e2 e3 => ?_
  rw [hsl] at e1 ⊢
  exact kk H' _ ⟨_, hc, t_OB.to (V := updV (vp_V fs) k v) ⟨_, e1, q2, q3, t_set q4 hap hk v⟩ (fun j _ => vp_updV_set hlen v j)⟩ e2 e3
theorem p_aast {n v ci : Nat} {E : String} {r : vw_C} {vs : List Value} {f : Nat → Option Nat} {i : Int32} (X : Cx G p R s m args c cells0 slots0 cc nL own h) (hf : va_at (gDD G) vwCl (a, .inl (gty G t, n, .inr (.inr (.inr (.inr f))))) H) (ht : (tysG G)[t]? = some (gty G t, .object E)) (hca : Cond.castable r.1 E ∈ TB) (hv : va_at (gDD G) vwCl (v, .inr (ci, vs)) H) (hc : vwCl[ci]? = some r) (hin : vp_in i n) (hd : decode cc pc = .ok (.aastore, 1))
    (kk : ∀ (H1 : Heap) (kx : Nat), va_at (gDD G) vwCl (a, .inl (gty G t, n, .inr (.inr (.inr (.inr (va_up f i.toNatClampNeg (some v))))))) H1 → H1.size = H.size → (∀ q : Nat, q ≠ a → H1[q]? = H[q]?) → W p l e R s m args below meth c H1 (locs ++ [⟨a, kx⟩]) cells slots Q (F0 m (pc + 1) ls rest)) : W p l e R s m args below meth c H locs cells slots Q (F0 m pc ls (.ref v :: .int i :: .ref a :: rest)) := by
  have hlt : i.toNatClampNeg < n := Nat.not_le.mp fun q => hin (Or.inr q)
  have h0 : ¬ i < 0 := fun q => hin (Or.inl q)
  obtain ⟨r', hr', cellV, g1, g2, g3, -⟩ := hv
  have hcls := (X.2.1.1.1 ci r hc).2
  obtain ⟨kA, comp, k1, k2, k3, -⟩ := (X.2.1.1.2 t _ ht).2
  obtain ⟨kE, hkE, -⟩ := Vm.findClass_spec k3
  obtain ⟨c0, t1, f1, f2, f3⟩ := Cond.castable_spec (X.1.2.2.2.2 _ hca)
  cases hcls.1.symm.trans f1
  cases k3.symm.trans f2
  obtain ⟨kC, hkC, -⟩ := hcls.2
  have hf0 : H[a]? = some (vp_cell (gty G t) (n, .inr (.inr (.inr (.inr f))))) := hf
  refine W.aast X.1.1 X.1.2.1 hf0 (fun q h => by cases h) (fun h => by cases h) k1 k2 rfl hkE ⟨h0, by show _ < (arrV _ _ _).slots.size; rw [arrV_size]; exact hlt⟩ g1 (fun q h => by rw [g3] at h; cases h) (by rw [g2]; exact hkC) (by rw [g2]; exact f3) rfl rfl hd fun H1 e z oq => ?_
  refine kk H1 _ ?_ z oq
  show H1[a]? = some (vp_cell _ _)
  rw [e]
  rw [vp_cell_q, vp_cell_q, arrV_store]
  congr 2
  funext q
  by_cases hq : q = i.toNatClampNeg
  · subst hq
    simp [updV, va_up, va_rf]
  · simp [updV, va_up, hq]
theorem lv_acmpR {x y : Nat} {off : Int} {tgt : Nat} (hx : p.tables.exec = Jvm.exec) (hb : c.code = cc) (hdg : decode cc pc = .ok (.if_acmp .eq off, 3)) (ht : (pc : Int) + off = (tgt : Int)) (kt : x = y → W p l e R s m args below meth c H locs cells slots Q (F0 m tgt ls rest)) (kf : ¬ x = y → W p l e R s m args below meth c H locs cells slots Q (F0 m (pc + 3) ls rest)) : W p l e R s m args below meth c H locs cells slots Q (F0 m pc ls (.ref y :: .ref x :: rest)) := lv_acmp_eq (rx := some x) (ry := some y) hx hb hdg ht (fun q => kt (Option.some.inj q)) (fun q => kf (fun q2 => q (congrArg some q2)))
end
/-- the empty list's elements, and arrays of objects -/
def EnvL (G : Gt) (e0 : Nat) (U : State) : Prop := va_Z "java/util/ArrayList" "DEFAULTCAPACITY_EMPTY_ELEMENTDATA" "[Ljava/lang/Object;" (.ref e0) (gA G) U U.heap ∧ va_T (.object "java/lang/Object") e0 0 (fun _ => .null) (gA G) U U.heap ∧ va_AO "java/lang/Object" U
theorem EnvL.mv {G : Gt} {e0 : Nat} : Mv (EnvL G e0) := fun U V hv hh q => by
  obtain ⟨h1, h2, h3⟩ := q
  refine ⟨?_, ?_, h3.moved hv⟩ <;> rw [hh]
  · exact h1.moved hv
  · exact va_T.moved hv h2
theorem EnvL.to {G : Gt} {e0 : Nat} {s U : State} {H : Heap} {A : Nat → Prop} {locs : List Loc} (h : EnvL G e0 s) (hS : va_S A s.heap H locs) (hA : ∀ q, q < s.heap.size → A q → gA G q) (hU : U.heap = H) (hv : s.vm.Alike U.vm) : EnvL G e0 U := by
  obtain ⟨h1, h2, h3⟩ := h
  have hq : ∀ a : Nat, a < s.heap.size → ¬ gA G a → H[a]? = s.heap[a]? := fun a h8 h9 => hS.2.1 a h8 (fun q => h9 (hA a h8 q))
  refine ⟨?_, ?_, h3.moved hv⟩ <;> rw [hU]
  · exact (h1.kept hq).moved hv
  · exact va_T.moved hv (h2.kept hq)
set_option maxHeartbeats 2000000 in
theorem ch_ACinit {G : Gt} {l : Launch} {a sz : Nat} (hG : AllA G) : CtH G l yJxa1e45_init_da8c8 cJxa1e45_init_da8c8 1 none 2 0 (0) [.ref a] sz (fun _ => False) (fun _ => True) (fun ov _ => ov = none) := by
  refine met_H (by decide +kernel) (Nat.le_of_ble_eq_true rfl) .return_ (Or.inl ⟨rfl, rfl, rfl⟩) ?_
  intro p e s m args below meth c Q ls X hnm hsz hP hr hl
  have hx := X.1.1
  have hb := X.1.2.1
  have hgz : gz G ≤ sz := by rw [← hsz]; exact X.2.1.2.1
  have hA : ∀ q, q < s.heap.size → frA (fun _ => False) sz q → gA G q := fun q h8 h9 => hG q (by simp only [frA, false_or] at h9; omega)
  have hS : va_S (frA (fun _ => False) sz) s.heap s.heap [] := va_S.rf
  have hl : lv_has ls 1 [(0, .ref a)] := hl
  refine lv_aload_n hx hb dJxa1e45_init_da8c8_0 rfl (lv_at hl 0 rfl) ?_
  refine p_obj X m_3_47 (by decide) (Nat.le_of_ble_eq_true rfl) hl.1 dJxa1e45_init_da8c8_1 ?_
  exact hr _ _ _ _ _ _ dJxa1e45_init_da8c8_4 rfl hS (by omega) (by omega)
set_option maxHeartbeats 2000000 in
theorem ch_ABinit {G : Gt} {l : Launch} {a sz : Nat} (hG : AllA G) (hga : gz G ≤ a) : CtH G l yJxc12de_init_da8c8 cJxc12de_init_da8c8 1 none 3 0 (0) [.ref a] sz (fun q => q = a) (fun U => va_at (gDD G) vwCl (a, .inr (12, [.int 0, .null, .int 0])) U.heap) (fun ov H => ov = none ∧ va_at (gDD G) vwCl (a, .inr (12, [.int 0, .null, .int 0])) H) := by
  refine met_H (by decide +kernel) (Nat.le_of_ble_eq_true rfl) .return_ (Or.inl ⟨rfl, rfl, rfl⟩) ?_
  intro p e s m args below meth c Q ls X hnm hsz hP hr hl
  have hx := X.1.1
  have hb := X.1.2.1
  have hgz : gz G ≤ sz := by rw [← hsz]; exact X.2.1.2.1
  have hA : ∀ q, q < s.heap.size → frA (fun q => q = a) sz q → gA G q := fun q h8 h9 => hG q (by simp only [frA, false_or] at h9; omega)
  have hS : va_S (frA (fun q => q = a) sz) s.heap s.heap [] := va_S.rf
  have hl : lv_has ls 1 [(0, .ref a)] := hl
  have f0 := hP
  refine lv_aload_n hx hb dJxc12de_init_da8c8_0 rfl (lv_at hl 0 rfl) ?_
  refine callH_I (As := []) X hS hA (Mv.true) (fun U hU hv => trivial) (fun q h9 => by simp only [frA, false_or] at h9 ⊢; have := hS.1; omega) m_3_44 m_3_45 mv_Jxa1e45_init_da8c8 rfl (ch_ACinit hG) (by decide) rfl rfl (Nat.le_of_ble_eq_true rfl) hl.1 dJxc12de_init_da8c8_1 (by show _ ≤ _; simp only [rmC]; omega) (by show _ ≤ _; simp only [rmC]; omega) fun vH1 H1 locs qH1 zH1 oH1 hS2 => ?_
  have lH1_f0_0 := f0.lt
  have lH1_0 := hS.1
  replace f0 := f0.kept (oH1 _ lH1_f0_0 (fun h9 => by first | exact h9.elim | omega | (dsimp only at h9; omega)))
  replace hS := hS2; clear hS2 oH1
  obtain rfl := qH1
  refine lv_aload_n hx hb dJxc12de_init_da8c8_4 rfl (lv_at hl 0 rfl) ?_
  refine lv_iconst (v := 0) hx hb dJxc12de_init_da8c8_5 (by decide) ?_
  refine p_put (T := TJx4a65c) (N := 3) (k := 0) (ty := .int) X f0 inTB_AL tyJx4a65c tyJx4a65c_ok nmJx4a65c rfl (by decide) m_3_52 (fun hq => by cases hq) (by decide +kernel) rfl rfl (Nat.le_of_ble_eq_true rfl) dJxc12de_init_da8c8_6 fun H2 kH2 nH2 zH2 oH2 => ?_
  replace hS := hS.put (k := kH2) zH2 oH2 (Or.inl rfl)
  replace f0 : va_at (gDD G) vwCl (a, .inr (12, [.int 0, .null, .int 0])) H2 := nH2
  clear zH2 oH2
  exact hr _ _ _ _ _ _ dJxc12de_init_da8c8_9 ⟨rfl, f0⟩ hS (by omega) (by omega)
set_option maxHeartbeats 2000000 in
theorem ch_ALinit {G : Gt} {l : Launch} {a e0 sz : Nat} (hG : AllA G) (hga : gz G ≤ a) : CtH G l yJx4a65c_init_da8c8 cJx4a65c_init_da8c8 1 none 4 0 (0) [.ref a] sz (fun q => q = a) (fun U => va_at (gDD G) vwCl (a, .inr (12, [.int 0, .null, .int 0])) U.heap ∧ EnvL G e0 U) (fun ov H => ov = none ∧ va_at (gDD G) vwCl (a, .inr (12, [.int 0, .ref e0, .int 0])) H) := by
  refine met_H (by decide +kernel) (Nat.le_of_ble_eq_true rfl) .return_ (Or.inl ⟨rfl, rfl, rfl⟩) ?_
  intro p e s m args below meth c Q ls X hnm hsz hP hr hl
  have hx := X.1.1
  have hb := X.1.2.1
  have hgz : gz G ≤ sz := by rw [← hsz]; exact X.2.1.2.1
  have hA : ∀ q, q < s.heap.size → frA (fun q => q = a) sz q → gA G q := fun q h8 h9 => hG q (by simp only [frA, false_or] at h9; omega)
  have hS : va_S (frA (fun q => q = a) sz) s.heap s.heap [] := va_S.rf
  have hl : lv_has ls 1 [(0, .ref a)] := hl
  obtain ⟨f0, hE⟩ := hP
  refine lv_aload_n hx hb dJx4a65c_init_da8c8_0 rfl (lv_at hl 0 rfl) ?_
  refine callH_I (As := []) X hS hA (Mv.h _) (fun U hU hv => by rw [hU]; exact f0) (fun q h9 => by simp only [frA, false_or] at h9 ⊢; have := hS.1; omega) m_3_41 m_3_42 mv_Jxc12de_init_da8c8 rfl (ch_ABinit hG hga) (by decide) rfl rfl (Nat.le_of_ble_eq_true rfl) hl.1 dJx4a65c_init_da8c8_1 (by show _ ≤ _; simp only [rmC]; omega) (by show _ ≤ _; simp only [rmC]; omega) fun vH1 H1 locs qH1 zH1 oH1 hS2 => ?_
  have lH1_f0_0 := f0.lt
  have lH1_0 := hS.1
  replace hS := hS2; clear hS2 oH1
  clear f0
  obtain ⟨rfl, f0⟩ := qH1
  refine lv_aload_n hx hb dJx4a65c_init_da8c8_4 rfl (lv_at hl 0 rfl) ?_
  refine p_gets X hE.1 hS hA m_3_48 dJx4a65c_init_da8c8_5 ?_
  refine p_put (T := TJx4a65c) (N := 3) (k := 1) (ty := .array (.object "java/lang/Object")) X f0 inTB_AL tyJx4a65c tyJx4a65c_ok nmJx4a65c rfl (by decide) m_3_50 (fun hq => by cases hq) (by decide +kernel) rfl rfl (Nat.le_of_ble_eq_true rfl) dJx4a65c_init_da8c8_8 fun H2 kH2 nH2 zH2 oH2 => ?_
  replace hS := hS.put (k := kH2) zH2 oH2 (Or.inl rfl)
  replace f0 : va_at (gDD G) vwCl (a, .inr (12, [.int 0, .ref e0, .int 0])) H2 := nH2
  clear zH2 oH2
  exact hr _ _ _ _ _ _ dJx4a65c_init_da8c8_11 ⟨rfl, f0⟩ hS (by omega) (by omega)
set_option maxHeartbeats 2000000 in
theorem ch_grow1 {G : Gt} {l : Launch} {a e0 sz : Nat} {mc : Int32} (hG : AllA G) (hga : gz G ≤ a) : CtH G l yJx4a65c_grow_92f84 cJx4a65c_grow_92f84 4 (some (.array (.object "java/lang/Object"))) 2 1 (10) [.ref a, .int (nI 1)] sz (fun q => q = a) (fun U => va_at (gDD G) vwCl (a, .inr (12, [.int mc, .ref e0, .int (nI 0)])) U.heap ∧ EnvL G e0 U) (fun ov H => ∃ d, ov = some (.ref d) ∧ sz ≤ d ∧ va_at (gDD G) vwCl (a, .inr (12, [.int mc, .ref d, .int (nI 0)])) H ∧ va_at (gDD G) vwCl (d, .inl (gty G 8, 10, .inr (.inr (.inr (.inr (fun _ => none)))))) H) := by
  refine met_Ha (by decide +kernel) (Nat.le_of_ble_eq_true rfl) rfl (Or.inr ⟨_, rfl⟩) ?_
  intro p e s m args below meth c Q ls X hnm hsz hP hr hl
  have hx := X.1.1
  have hb := X.1.2.1
  have hgz : gz G ≤ sz := by rw [← hsz]; exact X.2.1.2.1
  have hA : ∀ q, q < s.heap.size → frA (fun q => q = a) sz q → gA G q := fun q h8 h9 => hG q (by simp only [frA, false_or] at h9; omega)
  have hS : va_S (frA (fun q => q = a) sz) s.heap s.heap [] := va_S.rf
  have hl : lv_has ls 4 [(0, .ref a), (1, .int (nI 1))] := hl
  obtain ⟨f0, hE⟩ := hP
  refine lv_aload_n hx hb dJx4a65c_grow_92f84_0 rfl (lv_at hl 0 rfl) ?_
  refine p_get (T := TJx4a65c) (N := 3) (k := 1) X f0 inTB_AL rfl (by decide) m_3_50 rfl dJx4a65c_grow_92f84_1 ?_
  refine s_alen X (va_T.at hE.2.1 hS hA) dJx4a65c_grow_92f84_4 ?_
  refine lv_istore_n (lv' := [(2, .int (nI 0)), (0, .ref a), (1, .int (nI 1))]) hx hb dJx4a65c_grow_92f84_5 rfl hl (by decide) rfl ?_
  clear hl; intro ls hl
  refine lv_iload_n hx hb dJx4a65c_grow_92f84_6 rfl (lv_at hl 0 rfl) ?_
  refine lv_if_gt (tgt := 20) hx hb dJx4a65c_grow_92f84_7 (by decide) (fun hc => absurd hc (by decide)) (fun _ => ?_)
  refine lv_aload_n hx hb dJx4a65c_grow_92f84_10 rfl (lv_at hl 1 rfl) ?_
  refine p_get (T := TJx4a65c) (N := 3) (k := 1) X f0 inTB_AL rfl (by decide) m_3_50 rfl dJx4a65c_grow_92f84_11 ?_
  refine p_gets X hE.1 hS hA m_3_48 dJx4a65c_grow_92f84_14 ?_
  refine lv_acmpR (tgt := 45) hx hb dJx4a65c_grow_92f84_17 (by decide) (fun _ => ?_) (fun hc => absurd rfl hc)
  refine lv_aload_n hx hb dJx4a65c_grow_92f84_45 rfl (lv_at hl 1 rfl) ?_
  refine lv_bipush (v := 10) hx hb dJx4a65c_grow_92f84_46 (by decide) ?_
  refine lv_iload_n hx hb dJx4a65c_grow_92f84_48 rfl (lv_at hl 2 rfl) ?_
  refine lv_to (y := nI 1) rfl ?_
  refine callP_S (As := [.int (nI 10), .int (nI 1)]) X hS hA (Mv.true) (fun U hU hv => trivial) m_7_146 m_2_212 mv_J9_max_7cf53 (cp_max (Pf := fun _ => True) (a := 10) (b := 1) (by omega) (by omega)) (by decide) rfl rfl (Nat.le_of_ble_eq_true rfl) hl.1 dJx4a65c_grow_92f84_49 (by show _ ≤ _; simp only [rmC]; omega) (by show _ ≤ _; simp only [rmC]; omega) ?_
  refine lv_to (y := nI 10) rfl ?_
  refine p_anew (t := 8) (N := 10) X m_7_147 hE.2.2 rfl (nI_pos (by omega)) (nI_clamp (by omega)) (by omega) (by show _ ≤ _; simp only [rmC]; omega) (by show _ ≤ _; simp only [rmC]; omega) dJx4a65c_grow_92f84_52 fun H2 nH2 zH2 oH2 => ?_
  have lq1_f0_0 := f0.lt
  have lq1_0 := hS.1
  replace f0 := f0.kept (oH2 _ lq1_f0_0)
  replace hS := hS.new zH2 oH2
  clear oH2
  generalize hq_q1 : Array.size _ = q1 at nH2 zH2 lq1_0 lq1_f0_0 ⊢
  have fa3 : va_at (gDD G) vwCl (q1, .inl (gty G 8, 10, .inr (.inr (.inr (.inr (fun _ => none)))))) H2 := nH2
  clear nH2
  refine lv_dup_x1 hx hb dJx4a65c_grow_92f84_55 rfl rfl ?_
  refine p_put (T := TJx4a65c) (N := 3) (k := 1) (ty := .array (.object "java/lang/Object")) X f0 inTB_AL tyJx4a65c tyJx4a65c_ok nmJx4a65c rfl (by decide) m_3_50 (fun hq => by cases hq) (by decide +kernel) rfl rfl (Nat.le_of_ble_eq_true rfl) dJx4a65c_grow_92f84_56 fun H4 kH4 nH4 zH4 oH4 => ?_
  replace fa3 := fa3.kept (oH4 _ (by omega))
  replace hS := hS.put (k := kH4) zH4 oH4 (Or.inl rfl)
  replace f0 : va_at (gDD G) vwCl (a, .inr (12, [.int mc, .ref q1, .int (nI 0)])) H4 := nH4
  clear zH4 oH4
  exact hr _ _ _ _ _ _ _ dJx4a65c_grow_92f84_59 ⟨_, rfl, by omega, f0, fa3⟩ hS (by omega) (by omega)
set_option maxHeartbeats 2000000 in
theorem ch_grow {G : Gt} {l : Launch} {a e0 sz : Nat} {mc : Int32} (hG : AllA G) (hga : gz G ≤ a) : CtH G l yJx4a65c_grow_d5877 cJx4a65c_grow_d5877 1 (some (.array (.object "java/lang/Object"))) 3 1 (10) [.ref a] sz (fun q => q = a) (fun U => va_at (gDD G) vwCl (a, .inr (12, [.int mc, .ref e0, .int (nI 0)])) U.heap ∧ EnvL G e0 U) (fun ov H => ∃ d, ov = some (.ref d) ∧ sz ≤ d ∧ va_at (gDD G) vwCl (a, .inr (12, [.int mc, .ref d, .int (nI 0)])) H ∧ va_at (gDD G) vwCl (d, .inl (gty G 8, 10, .inr (.inr (.inr (.inr (fun _ => none)))))) H) := by
  refine met_Ha (by decide +kernel) (Nat.le_of_ble_eq_true rfl) rfl (Or.inr ⟨_, rfl⟩) ?_
  intro p e s m args below meth c Q ls X hnm hsz hP hr hl
  have hx := X.1.1
  have hb := X.1.2.1
  have hgz : gz G ≤ sz := by rw [← hsz]; exact X.2.1.2.1
  have hA : ∀ q, q < s.heap.size → frA (fun q => q = a) sz q → gA G q := fun q h8 h9 => hG q (by simp only [frA, false_or] at h9; omega)
  have hS : va_S (frA (fun q => q = a) sz) s.heap s.heap [] := va_S.rf
  have hl : lv_has ls 1 [(0, .ref a)] := hl
  obtain ⟨f0, hE⟩ := hP
  refine lv_aload_n hx hb dJx4a65c_grow_d5877_0 rfl (lv_at hl 0 rfl) ?_
  refine lv_aload_n hx hb dJx4a65c_grow_d5877_1 rfl (lv_at hl 0 rfl) ?_
  refine p_get (T := TJx4a65c) (N := 3) (k := 2) X f0 inTB_AL rfl (by decide) m_3_51 rfl dJx4a65c_grow_d5877_2 ?_
  refine lv_iconst (v := 1) hx hb dJx4a65c_grow_d5877_5 (by decide) ?_
  refine lv_iadd hx hb dJx4a65c_grow_d5877_6 ?_
  refine lv_to (y := nI 1) (by decide) ?_
  refine callH_X (As := [.int (nI 1)]) X hS hA (Mv.and (Mv.h _) EnvL.mv) (fun U hU hv => ⟨by rw [hU]; exact f0, hE.to hS hA hU hv⟩) (fun q h9 => by simp only [frA, false_or] at h9 ⊢; have := hS.1; omega) (p_recv X f0 (r := (RJx4a65c, TJx4a65c, 3)) rfl) m_7_131 sl_RJx4a65c_Jx4a65c_grow_92f84 mv_Jx4a65c_grow_92f84 (by decide) (ch_grow1 (e0 := e0) (mc := mc) hG hga) (by decide) rfl (Nat.le_of_ble_eq_true rfl) hl.1 dJx4a65c_grow_d5877_7 (by show _ ≤ _; simp only [rmC]; omega) (by show _ ≤ _; simp only [rmC]; omega) fun vH1 H1 locs qH1 zH1 oH1 hS2 => ?_
  have lH1_f0_0 := f0.lt
  have lH1_0 := hS.1
  replace hS := hS2; clear hS2 oH1
  clear f0
  obtain ⟨d, rfl, hd1, f0, f1⟩ := qH1
  exact hr _ _ _ _ _ _ _ dJx4a65c_grow_d5877_10 ⟨_, rfl, by omega, f0, f1⟩ hS (by omega) (by omega)
set_option maxHeartbeats 2000000 in
theorem ch_add3a {G : Gt} {l : Launch} {a e0 v sz : Nat} {mc : Int32} {vs : List Value} (hG : AllA G) (hga : gz G ≤ a) (hav : a ≠ v) : CtH G l yJx4a65c_add_72be8 cJx4a65c_add_72be8 4 none 4 1 (10) [.ref a, .ref v, .ref e0, .int (nI 0)] sz (fun q => q = a) (fun U => va_at (gDD G) vwCl (a, .inr (12, [.int mc, .ref e0, .int (nI 0)])) U.heap ∧ va_at (gDD G) vwCl (v, .inr (11, vs)) U.heap ∧ EnvL G e0 U) (fun ov H => ov = none ∧ ∃ d, sz ≤ d ∧ va_at (gDD G) vwCl (a, .inr (12, [.int mc, .ref d, .int (nI 1)])) H ∧ va_at (gDD G) vwCl (d, .inl (gty G 8, 10, .inr (.inr (.inr (.inr (va_up (fun _ => none) (0) (some v))))))) H) := by
  refine met_H (by decide +kernel) (Nat.le_of_ble_eq_true rfl) .return_ (Or.inl ⟨rfl, rfl, rfl⟩) ?_
  intro p e s m args below meth c Q ls X hnm hsz hP hr hl
  have hx := X.1.1
  have hb := X.1.2.1
  have hgz : gz G ≤ sz := by rw [← hsz]; exact X.2.1.2.1
  have hA : ∀ q, q < s.heap.size → frA (fun q => q = a) sz q → gA G q := fun q h8 h9 => hG q (by simp only [frA, false_or] at h9; omega)
  have hS : va_S (frA (fun q => q = a) sz) s.heap s.heap [] := va_S.rf
  have hl : lv_has ls 4 [(0, .ref a), (1, .ref v), (2, .ref e0), (3, .int (nI 0))] := hl
  obtain ⟨f0, fv, hE⟩ := hP
  refine lv_iload_n hx hb dJx4a65c_add_72be8_0 rfl (lv_at hl 3 rfl) ?_
  refine lv_aload_n hx hb dJx4a65c_add_72be8_1 rfl (lv_at hl 2 rfl) ?_
  refine s_alen X (va_T.at hE.2.1 hS hA) dJx4a65c_add_72be8_2 ?_
  refine lv_icmp_ne (tgt := 11) hx hb dJx4a65c_add_72be8_3 (by decide) (fun hc => absurd rfl hc) (fun _ => ?_)
  refine lv_aload_n hx hb dJx4a65c_add_72be8_6 rfl (lv_at hl 0 rfl) ?_
  refine callH_X (As := []) X hS hA (Mv.and (Mv.h _) EnvL.mv) (fun U hU hv => ⟨by rw [hU]; exact f0, hE.to hS hA hU hv⟩) (fun q h9 => by simp only [frA, false_or] at h9 ⊢; have := hS.1; omega) (p_recv X f0 (r := (RJx4a65c, TJx4a65c, 3)) rfl) m_7_127 sl_RJx4a65c_Jx4a65c_grow_d5877 mv_Jx4a65c_grow_d5877 (by decide) (ch_grow (e0 := e0) (mc := mc) hG hga) (by decide) rfl (Nat.le_of_ble_eq_true rfl) hl.1 dJx4a65c_add_72be8_7 (by show _ ≤ _; simp only [rmC]; omega) (by show _ ≤ _; simp only [rmC]; omega) fun vH1 H1 locs qH1 zH1 oH1 hS2 => ?_
  have lH1_f0_0 := f0.lt
  have lH1_fv_0 := fv.lt
  have lH1_0 := hS.1
  replace fv := fv.kept (oH1 _ lH1_fv_0 (fun h9 => by first | exact h9.elim | omega | (dsimp only at h9; omega)))
  replace hS := hS2; clear hS2 oH1
  clear f0
  obtain ⟨d, rfl, hd1, f0, f1⟩ := qH1
  refine lv_astore_n (lv' := [(2, .ref d), (0, .ref a), (1, .ref v), (3, .int (nI 0))]) hx hb dJx4a65c_add_72be8_10 rfl hl (by decide) rfl ?_
  clear hl; intro ls hl
  refine lv_aload_n hx hb dJx4a65c_add_72be8_11 rfl (lv_at hl 0 rfl) ?_
  refine lv_iload_n hx hb dJx4a65c_add_72be8_12 rfl (lv_at hl 3 rfl) ?_
  refine lv_aload_n hx hb dJx4a65c_add_72be8_13 rfl (lv_at hl 2 rfl) ?_
  refine p_aast (t := 8) (E := "java/lang/Object") (ci := 11) X f1 rfl m_7_183 fv rfl (nI_in (by omega) (by omega)) dJx4a65c_add_72be8_14 fun H2 kH2 nH2 zH2 oH2 => ?_
  replace fv := fv.kept (oH2 _ (by omega))
  replace f0 := f0.kept (oH2 _ (by omega))
  replace hS := hS.put (k := kH2) zH2 oH2 (Or.inr (by omega))
  replace f1 : va_at (gDD G) vwCl (d, .inl (gty G 8, 10, .inr (.inr (.inr (.inr (va_up (fun _ => none) (0) (some v))))))) H2 := by rw [nI_clamp (by omega)] at nH2; exact nH2
  clear zH2 oH2 nH2
  refine lv_aload_n hx hb dJx4a65c_add_72be8_15 rfl (lv_at hl 1 rfl) ?_
  refine lv_iload_n hx hb dJx4a65c_add_72be8_16 rfl (lv_at hl 3 rfl) ?_
  refine lv_iconst (v := 1) hx hb dJx4a65c_add_72be8_17 (by decide) ?_
  refine lv_iadd hx hb dJx4a65c_add_72be8_18 ?_
  refine lv_to (y := nI 1) rfl ?_
  refine p_put (T := TJx4a65c) (N := 3) (k := 2) (ty := .int) X f0 inTB_AL tyJx4a65c tyJx4a65c_ok nmJx4a65c rfl (by decide) m_3_51 (fun hq => by cases hq) (by decide +kernel) rfl rfl (Nat.le_of_ble_eq_true rfl) dJx4a65c_add_72be8_19 fun H3 kH3 nH3 zH3 oH3 => ?_
  replace fv := fv.kept (oH3 _ (by omega))
  replace f1 := f1.kept (oH3 _ (by omega))
  replace hS := hS.put (k := kH3) zH3 oH3 (Or.inl rfl)
  replace f0 : va_at (gDD G) vwCl (a, .inr (12, [.int mc, .ref d, .int (nI 1)])) H3 := nH3
  clear zH3 oH3
  exact hr _ _ _ _ _ _ dJx4a65c_add_72be8_22 ⟨rfl, d, by omega, f0, f1⟩ hS (by omega) (by omega)
set_option maxHeartbeats 2000000 in
theorem ch_add3b {G : Gt} {l : Launch} {a d v k sz : Nat} {mc : Int32} {vs : List Value} {f : Nat → Option Nat} (hG : AllA G) (hga : gz G ≤ a) (hgd : gz G ≤ d) (hav : a ≠ v) (had : a ≠ d) (hvd : v ≠ d) (hk : k < 10) : CtH G l yJx4a65c_add_72be8 cJx4a65c_add_72be8 4 none 4 0 (0) [.ref a, .ref v, .ref d, .int (nI k)] sz (fun q => q = a ∨ q = d) (fun U => va_at (gDD G) vwCl (a, .inr (12, [.int mc, .ref d, .int (nI k)])) U.heap ∧ va_at (gDD G) vwCl (d, .inl (gty G 8, 10, .inr (.inr (.inr (.inr f))))) U.heap ∧ va_at (gDD G) vwCl (v, .inr (11, vs)) U.heap) (fun ov H => ov = none ∧ va_at (gDD G) vwCl (a, .inr (12, [.int mc, .ref d, .int (nI (k + 1))])) H ∧ va_at (gDD G) vwCl (d, .inl (gty G 8, 10, .inr (.inr (.inr (.inr (va_up f k (some v))))))) H) := by
  refine met_H (by decide +kernel) (Nat.le_of_ble_eq_true rfl) .return_ (Or.inl ⟨rfl, rfl, rfl⟩) ?_
  intro p e s m args below meth c Q ls X hnm hsz hP hr hl
  have hx := X.1.1
  have hb := X.1.2.1
  have hgz : gz G ≤ sz := by rw [← hsz]; exact X.2.1.2.1
  have hA : ∀ q, q < s.heap.size → frA (fun q => q = a ∨ q = d) sz q → gA G q := fun q h8 h9 => hG q (by simp only [frA, false_or] at h9; omega)
  have hS : va_S (frA (fun q => q = a ∨ q = d) sz) s.heap s.heap [] := va_S.rf
  have hl : lv_has ls 4 [(0, .ref a), (1, .ref v), (2, .ref d), (3, .int (nI k))] := hl
  obtain ⟨f0, f1, fv⟩ := hP
  refine lv_iload_n hx hb dJx4a65c_add_72be8_0 rfl (lv_at hl 3 rfl) ?_
  refine lv_aload_n hx hb dJx4a65c_add_72be8_1 rfl (lv_at hl 2 rfl) ?_
  refine p_alen (t := 8) X f1 rfl dJx4a65c_add_72be8_2 ?_
  refine lv_icmp_ne (tgt := 11) hx hb dJx4a65c_add_72be8_3 (by decide) (fun _ => ?_) (fun hc => absurd hc (fun h9 => by rw [show (nI 10 : Int32) = nI 10 from rfl, nI_eq (by omega) (by omega)] at h9; omega))
  refine lv_aload_n hx hb dJx4a65c_add_72be8_11 rfl (lv_at hl 2 rfl) ?_
  refine lv_iload_n hx hb dJx4a65c_add_72be8_12 rfl (lv_at hl 3 rfl) ?_
  refine lv_aload_n hx hb dJx4a65c_add_72be8_13 rfl (lv_at hl 1 rfl) ?_
  refine p_aast (t := 8) (E := "java/lang/Object") (ci := 11) X f1 rfl m_7_183 fv rfl (nI_in (by omega) (by omega)) dJx4a65c_add_72be8_14 fun H1 kH1 nH1 zH1 oH1 => ?_
  replace f0 := f0.kept (oH1 _ (by omega))
  replace fv := fv.kept (oH1 _ (by omega))
  replace hS := hS.put (k := kH1) zH1 oH1 (Or.inl (Or.inr rfl))
  replace f1 : va_at (gDD G) vwCl (d, .inl (gty G 8, 10, .inr (.inr (.inr (.inr (va_up f (k) (some v))))))) H1 := by rw [nI_clamp (by omega)] at nH1; exact nH1
  clear zH1 oH1 nH1
  refine lv_aload_n hx hb dJx4a65c_add_72be8_15 rfl (lv_at hl 0 rfl) ?_
  refine lv_iload_n hx hb dJx4a65c_add_72be8_16 rfl (lv_at hl 3 rfl) ?_
  refine lv_iconst (v := 1) hx hb dJx4a65c_add_72be8_17 (by decide) ?_
  refine lv_iadd hx hb dJx4a65c_add_72be8_18 ?_
  refine lv_to (y := nI (k + 1)) (nI_1 k) ?_
  refine p_put (T := TJx4a65c) (N := 3) (k := 2) (ty := .int) X f0 inTB_AL tyJx4a65c tyJx4a65c_ok nmJx4a65c rfl (by decide) m_3_51 (fun hq => by cases hq) (by decide +kernel) rfl rfl (Nat.le_of_ble_eq_true rfl) dJx4a65c_add_72be8_19 fun H2 kH2 nH2 zH2 oH2 => ?_
  replace f1 := f1.kept (oH2 _ (by omega))
  replace fv := fv.kept (oH2 _ (by omega))
  replace hS := hS.put (k := kH2) zH2 oH2 (Or.inl (Or.inl rfl))
  replace f0 : va_at (gDD G) vwCl (a, .inr (12, [.int mc, .ref d, .int (nI (k + 1))])) H2 := nH2
  clear zH2 oH2
  exact hr _ _ _ _ _ _ dJx4a65c_add_72be8_22 ⟨rfl, f0, f1⟩ hS (by omega) (by omega)
set_option maxHeartbeats 2000000 in
theorem ch_adda {G : Gt} {l : Launch} {a e0 v sz : Nat} {mc : Int32} {vs : List Value} (hG : AllA G) (hga : gz G ≤ a) (hav : a ≠ v) : CtH G l yJx4a65c_add_9ea2d cJx4a65c_add_9ea2d 2 (some .boolean) 5 1 (10) [.ref a, .ref v] sz (fun q => q = a) (fun U => va_at (gDD G) vwCl (a, .inr (12, [.int mc, .ref e0, .int (nI 0)])) U.heap ∧ va_at (gDD G) vwCl (v, .inr (11, vs)) U.heap ∧ EnvL G e0 U) (fun ov H => ov = some (.int 1) ∧ ∃ d, sz ≤ d ∧ va_at (gDD G) vwCl (a, .inr (12, [.int (mc + 1), .ref d, .int (nI 1)])) H ∧ va_at (gDD G) vwCl (d, .inl (gty G 8, 10, .inr (.inr (.inr (.inr (va_up (fun _ => none) (0) (some v))))))) H) := by
  refine met_H (by decide +kernel) (Nat.le_of_ble_eq_true rfl) .ireturn (Or.inr (Or.inl ⟨.boolean, 1, rfl, rfl, rfl, by decide⟩)) ?_
  intro p e s m args below meth c Q ls X hnm hsz hP hr hl
  have hx := X.1.1
  have hb := X.1.2.1
  have hgz : gz G ≤ sz := by rw [← hsz]; exact X.2.1.2.1
  have hA : ∀ q, q < s.heap.size → frA (fun q => q = a) sz q → gA G q := fun q h8 h9 => hG q (by simp only [frA, false_or] at h9; omega)
  have hS : va_S (frA (fun q => q = a) sz) s.heap s.heap [] := va_S.rf
  have hl : lv_has ls 2 [(0, .ref a), (1, .ref v)] := hl
  obtain ⟨f0, fv, hE⟩ := hP
  refine lv_aload_n hx hb dJx4a65c_add_9ea2d_0 rfl (lv_at hl 0 rfl) ?_
  refine lv_dup hx hb dJx4a65c_add_9ea2d_1 rfl ?_
  refine p_getS (T := TJx4a65c) (N := 3) (k := 0) X f0 inTB_AL rfl (by decide) m_3_53 m_3_54 rfl dJx4a65c_add_9ea2d_2 ?_
  refine lv_iconst (v := 1) hx hb dJx4a65c_add_9ea2d_5 (by decide) ?_
  refine lv_iadd hx hb dJx4a65c_add_9ea2d_6 ?_
  refine p_putS (T := TJx4a65c) (N := 3) (k := 0) (ty := .int) X f0 inTB_AL tyJx4a65c tyJx4a65c_ok nmJx4a65c rfl (by decide) m_3_53 m_3_54 (by decide +kernel) (by decide +kernel) rfl rfl (Nat.le_of_ble_eq_true rfl) dJx4a65c_add_9ea2d_7 fun H1 kH1 nH1 zH1 oH1 => ?_
  replace fv := fv.kept (oH1 _ (by omega))
  replace hS := hS.put (k := kH1) zH1 oH1 (Or.inl rfl)
  replace f0 : va_at (gDD G) vwCl (a, .inr (12, [.int (mc + 1), .ref e0, .int (nI 0)])) H1 := nH1
  clear zH1 oH1
  refine lv_aload_n hx hb dJx4a65c_add_9ea2d_10 rfl (lv_at hl 0 rfl) ?_
  refine lv_aload_n hx hb dJx4a65c_add_9ea2d_11 rfl (lv_at hl 1 rfl) ?_
  refine lv_aload_n hx hb dJx4a65c_add_9ea2d_12 rfl (lv_at hl 0 rfl) ?_
  refine p_get (T := TJx4a65c) (N := 3) (k := 1) X f0 inTB_AL rfl (by decide) m_3_50 rfl dJx4a65c_add_9ea2d_13 ?_
  refine lv_aload_n hx hb dJx4a65c_add_9ea2d_16 rfl (lv_at hl 0 rfl) ?_
  refine p_get (T := TJx4a65c) (N := 3) (k := 2) X f0 inTB_AL rfl (by decide) m_3_51 rfl dJx4a65c_add_9ea2d_17 ?_
  refine callH_X (As := [.ref v, .ref e0, .int (nI 0)]) X hS hA (Mv.and (Mv.h _) (Mv.and (Mv.h _) EnvL.mv)) (fun U hU hv => ⟨by rw [hU]; exact f0, by rw [hU]; exact fv, hE.to hS hA hU hv⟩) (fun q h9 => by simp only [frA, false_or] at h9 ⊢; have := hS.1; omega) (p_recv X f0 (r := (RJx4a65c, TJx4a65c, 3)) rfl) m_7_123 sl_RJx4a65c_Jx4a65c_add_72be8 mv_Jx4a65c_add_72be8 (by decide) (ch_add3a (e0 := e0) (mc := mc + 1) (vs := vs) hG hga hav) (by decide) rfl (Nat.le_of_ble_eq_true rfl) hl.1 dJx4a65c_add_9ea2d_20 (by show _ ≤ _; simp only [rmC]; omega) (by show _ ≤ _; simp only [rmC]; omega) fun vH2 H2 locs qH2 zH2 oH2 hS2 => ?_
  have lH2_f0_0 := f0.lt
  have lH2_fv_0 := fv.lt
  have lH2_0 := hS.1
  replace fv := fv.kept (oH2 _ lH2_fv_0 (fun h9 => by first | exact h9.elim | omega | (dsimp only at h9; omega)))
  replace hS := hS2; clear hS2 oH2
  clear f0
  obtain ⟨rfl, d, hd1, f0, f1⟩ := qH2
  refine lv_iconst (v := 1) hx hb dJx4a65c_add_9ea2d_23 (by decide) ?_
  exact hr _ _ _ _ _ _ dJx4a65c_add_9ea2d_24 ⟨rfl, d, by omega, f0, f1⟩ hS (by omega) (by omega)
set_option maxHeartbeats 2000000 in
theorem ch_addb {G : Gt} {l : Launch} {a d v k sz : Nat} {mc : Int32} {vs : List Value} {f : Nat → Option Nat} (hG : AllA G) (hga : gz G ≤ a) (hgd : gz G ≤ d) (hav : a ≠ v) (had : a ≠ d) (hvd : v ≠ d) (hk : k < 10) : CtH G l yJx4a65c_add_9ea2d cJx4a65c_add_9ea2d 2 (some .boolean) 5 0 (0) [.ref a, .ref v] sz (fun q => q = a ∨ q = d) (fun U => va_at (gDD G) vwCl (a, .inr (12, [.int mc, .ref d, .int (nI k)])) U.heap ∧ va_at (gDD G) vwCl (d, .inl (gty G 8, 10, .inr (.inr (.inr (.inr f))))) U.heap ∧ va_at (gDD G) vwCl (v, .inr (11, vs)) U.heap) (fun ov H => ov = some (.int 1) ∧ va_at (gDD G) vwCl (a, .inr (12, [.int (mc + 1), .ref d, .int (nI (k + 1))])) H ∧ va_at (gDD G) vwCl (d, .inl (gty G 8, 10, .inr (.inr (.inr (.inr (va_up f k (some v))))))) H) := by
  refine met_H (by decide +kernel) (Nat.le_of_ble_eq_true rfl) .ireturn (Or.inr (Or.inl ⟨.boolean, 1, rfl, rfl, rfl, by decide⟩)) ?_
  intro p e s m args below meth c Q ls X hnm hsz hP hr hl
  have hx := X.1.1
  have hb := X.1.2.1
  have hgz : gz G ≤ sz := by rw [← hsz]; exact X.2.1.2.1
  have hA : ∀ q, q < s.heap.size → frA (fun q => q = a ∨ q = d) sz q → gA G q := fun q h8 h9 => hG q (by simp only [frA, false_or] at h9; omega)
  have hS : va_S (frA (fun q => q = a ∨ q = d) sz) s.heap s.heap [] := va_S.rf
  have hl : lv_has ls 2 [(0, .ref a), (1, .ref v)] := hl
  obtain ⟨f0, f1, fv⟩ := hP
  refine lv_aload_n hx hb dJx4a65c_add_9ea2d_0 rfl (lv_at hl 0 rfl) ?_
  refine lv_dup hx hb dJx4a65c_add_9ea2d_1 rfl ?_
  refine p_getS (T := TJx4a65c) (N := 3) (k := 0) X f0 inTB_AL rfl (by decide) m_3_53 m_3_54 rfl dJx4a65c_add_9ea2d_2 ?_
  refine lv_iconst (v := 1) hx hb dJx4a65c_add_9ea2d_5 (by decide) ?_
  refine lv_iadd hx hb dJx4a65c_add_9ea2d_6 ?_
  refine p_putS (T := TJx4a65c) (N := 3) (k := 0) (ty := .int) X f0 inTB_AL tyJx4a65c tyJx4a65c_ok nmJx4a65c rfl (by decide) m_3_53 m_3_54 (by decide +kernel) (by decide +kernel) rfl rfl (Nat.le_of_ble_eq_true rfl) dJx4a65c_add_9ea2d_7 fun H1 kH1 nH1 zH1 oH1 => ?_
  replace f1 := f1.kept (oH1 _ (by omega))
  replace fv := fv.kept (oH1 _ (by omega))
  replace hS := hS.put (k := kH1) zH1 oH1 (Or.inl (Or.inl rfl))
  replace f0 : va_at (gDD G) vwCl (a, .inr (12, [.int (mc + 1), .ref d, .int (nI k)])) H1 := nH1
  clear zH1 oH1
  refine lv_aload_n hx hb dJx4a65c_add_9ea2d_10 rfl (lv_at hl 0 rfl) ?_
  refine lv_aload_n hx hb dJx4a65c_add_9ea2d_11 rfl (lv_at hl 1 rfl) ?_
  refine lv_aload_n hx hb dJx4a65c_add_9ea2d_12 rfl (lv_at hl 0 rfl) ?_
  refine p_get (T := TJx4a65c) (N := 3) (k := 1) X f0 inTB_AL rfl (by decide) m_3_50 rfl dJx4a65c_add_9ea2d_13 ?_
  refine lv_aload_n hx hb dJx4a65c_add_9ea2d_16 rfl (lv_at hl 0 rfl) ?_
  refine p_get (T := TJx4a65c) (N := 3) (k := 2) X f0 inTB_AL rfl (by decide) m_3_51 rfl dJx4a65c_add_9ea2d_17 ?_
  refine callH_X (As := [.ref v, .ref d, .int (nI k)]) X hS hA (Mv.and (Mv.h _) (Mv.and (Mv.h _) (Mv.h _))) (fun U hU hv => by rw [hU]; exact ⟨f0, f1, fv⟩) (fun q h9 => by simp only [frA, false_or] at h9 ⊢; have := hS.1; omega) (p_recv X f0 (r := (RJx4a65c, TJx4a65c, 3)) rfl) m_7_123 sl_RJx4a65c_Jx4a65c_add_72be8 mv_Jx4a65c_add_72be8 (by decide) (ch_add3b (mc := mc + 1) (vs := vs) (f := f) hG hga hgd hav had hvd hk) (by decide) rfl (Nat.le_of_ble_eq_true rfl) hl.1 dJx4a65c_add_9ea2d_20 (by show _ ≤ _; simp only [rmC]; omega) (by show _ ≤ _; simp only [rmC]; omega) fun vH2 H2 locs qH2 zH2 oH2 hS2 => ?_
  have lH2_f0_0 := f0.lt
  have lH2_f1_0 := f1.lt
  have lH2_fv_0 := fv.lt
  have lH2_0 := hS.1
  replace fv := fv.kept (oH2 _ lH2_fv_0 (fun h9 => by first | exact h9.elim | omega | (dsimp only at h9; omega)))
  replace hS := hS2; clear hS2 oH2
  clear f0
  clear f1
  obtain ⟨rfl, f0, f1⟩ := qH2
  refine lv_iconst (v := 1) hx hb dJx4a65c_add_9ea2d_23 (by decide) ?_
  exact hr _ _ _ _ _ _ dJx4a65c_add_9ea2d_24 ⟨rfl, f0, f1⟩ hS (by omega) (by omega)
