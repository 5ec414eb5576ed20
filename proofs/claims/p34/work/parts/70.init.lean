/-! the making of the world -/
noncomputable def σ0 : St := (fun i k => if (kd i = 9 ∧ k = 2) ∨ (kd i = 5 ∧ k = 6) ∨ (kd i = 10 ∧ k = 18) then -1 else 0, fun _ _ => 0, fun _ _ => none, fun _ _ => 0)
theorem z0_I {i k : Nat} (h1 : kd i ≠ 9 ∨ k ≠ 2) (h2 : kd i ≠ 5 ∨ k ≠ 6) (h3 : kd i ≠ 10 ∨ k ≠ 18) : gI σ0 i k = 0 := by
  show (if (kd i = 9 ∧ k = 2) ∨ (kd i = 5 ∧ k = 6) ∨ (kd i = 10 ∧ k = 18) then (-1 : Int32) else 0) = 0
  rw [if_neg]
  rintro (⟨a, b⟩ | ⟨a, b⟩ | ⟨a, b⟩)
  · rcases h1 with h | h
    · exact h a
    · exact h b
  · rcases h2 with h | h
    · exact h a
    · exact h b
  · rcases h3 with h | h
    · exact h a
    · exact h b
theorem z0_Ir {i : Nat} (h : 10 < kd i) : gI σ0 i = fun _ => 0 := by
  funext k
  exact z0_I (Or.inl (by omega)) (Or.inl (by omega)) (Or.inl (by omega))
theorem z0_11 (G : Gt) {i N : Nat} (h : kd i = 11) (ha : alen i = N) : ct G σ0 i = .inl (gty G 0, N, .inl (fun _ => 0)) := by rw [ct_11 G σ0 h, ha, z0_Ir (by omega)]
theorem z0_12 (G : Gt) {i N : Nat} (h : kd i = 12) (ha : alen i = N) : ct G σ0 i = .inl (gty G 1, N, .inr (.inl (fun _ => 0))) := by rw [ct_12 G σ0 h, ha]; rfl
theorem z0_13 (G : Gt) {i N : Nat} (h : kd i = 13) (ha : alen i = N) : ct G σ0 i = .inl (gty G 2, N, .inl (fun _ => 0)) := by rw [ct_13 G σ0 h, ha, z0_Ir (by omega)]
theorem z0_14 (G : Gt) {i N : Nat} (h : kd i = 14) (ha : alen i = N) : ct G σ0 i = .inl (gty G 3, N, .inr (.inr (.inr (.inl (fun _ => 0))))) := by rw [ct_14 G σ0 h, ha]; rfl
theorem z0_15 (G : Gt) {i N : Nat} (h : kd i = 15) (ha : alen i = N) : ct G σ0 i = .inl (gty G 4, N, .inr (.inr (.inr (.inr (fun _ => none))))) := by rw [ct_15 G σ0 h, ha]; rfl
def wlE (G : Gt) (B : Nat → va_E) (a n : Nat) : va_W := (List.range n).map (fun j => (gz G + (a + j), B (a + j)))
theorem wlE_at (G : Gt) (B : Nat → va_E) {a n j : Nat} (h : j < n) : (wlE G B a n)[j]? = some (gz G + (a + j), B (a + j)) := by simp [wlE, h]
theorem wlE_key (G : Gt) (B : Nat → va_E) {a n k : Nat} {q : Nat × va_E} (h : (wlE G B a n)[k]? = some q) : k < n ∧ q = (gz G + (a + k), B (a + k)) := by
  unfold wlE at h
  rw [List.getElem?_map] at h
  obtain ⟨b, hb, hq⟩ := Option.map_eq_some_iff.mp h
  obtain ⟨h1, h2⟩ := List.getElem?_eq_some_iff.mp hb
  rw [List.getElem_range] at h2
  subst h2
  exact ⟨by simpa using h1, hq.symm⟩
theorem wlE_D (G : Gt) (B : Nat → va_E) (a n : Nat) : va_D (fun q => gz G + a ≤ q) (wlE G B a n) := by
  refine ⟨fun i j p q h1 h2 e => ?_, fun k q h => ?_⟩
  · obtain ⟨-, rfl⟩ := wlE_key G B h1
    obtain ⟨-, rfl⟩ := wlE_key G B h2
    simp only at e
    omega
  · obtain ⟨-, rfl⟩ := wlE_key G B h
    show gz G + a ≤ gz G + (a + k)
    omega
theorem wlE_eq (G : Gt) {B B' : Nat → va_E} {a n : Nat} (h : ∀ j, j < n → B (a + j) = B' (a + j)) : wlE G B a n = wlE G B' a n := by
  refine List.ext_getElem? fun k => ?_
  by_cases hk : k < n
  · rw [wlE_at G B hk, wlE_at G B' hk, h k hk]
  · rw [List.getElem?_eq_none (by simp [wlE]; omega), List.getElem?_eq_none (by simp [wlE]; omega)]
theorem wlE_set (G : Gt) {B : Nat → va_E} {a n j : Nat} {e : va_E} (h : j < n) : (wlE G B a n).set j (gz G + (a + j), e) = wlE G (va_up B (a + j) e) a n := by
  refine List.ext_getElem? fun k => ?_
  by_cases hk : k < n
  · by_cases hkj : k = j
    · subst hkj
      rw [wlE_at G _ hk, va_up_self]
      simp [wlE, hk]
    · rw [List.getElem?_set_ne (Ne.symm hkj), wlE_at G _ hk, wlE_at G _ hk, va_up_ne _ _ (by omega)]
  · rw [List.getElem?_eq_none (by simp [wlE]; omega), List.getElem?_eq_none (by simp [wlE]; omega)]
theorem wlE_push (G : Gt) {B : Nat → va_E} {a n : Nat} {e : va_E} (he : B (a + n) = e) : wlE G B a n ++ [(gz G + (a + n), e)] = wlE G B a (n + 1) := by
  subst he
  simp [wlE, List.range_succ]
/-- the places a .. a + n - 1 stand, and the heap ends there -/
def CW (G : Gt) (B : Nat → va_E) (a n : Nat) (s : State) (H : Heap) (locs : List Loc) : Prop := H.size = gz G + (a + n) ∧ va_P (gDD G) vwCl (wlE G B a n) H ∧ va_S (fun q => gz G + a ≤ q) s.heap H locs
theorem CW.to {G : Gt} {B B' : Nat → va_E} {a n : Nat} {s : State} {H : Heap} {locs : List Loc} (hW : CW G B a n s H locs) (h : ∀ j, j < n → B (a + j) = B' (a + j)) : CW G B' a n s H locs := by
  obtain ⟨h1, h2, h3⟩ := hW
  exact ⟨h1, by rw [wlE_eq G h] at h2; exact h2, h3⟩
/-- the arrays of references can be made -/
def AO3 (G : Gt) (U : State) : Prop := (∀ C ∈ ["QuestLedger$Quest", "QuestLedger$Ledger", "QuestLedger$Token"], va_AO C U) ∧ ∀ q, gz G ≤ q → gA G q
def CI (G : Gt) (p : Program) (R : Room) (s : State) (m : MethodId) (args : Array Value) (c : Code) (cc : ByteArray) (nL : Nat) (own : String) (h a : Nat) : Prop :=
  CallFix p m c cc nL s args TB own ∧ EnvS G s ∧ h ≤ R.frames ∧ 40 * h ≤ R.locals ∧ gz G + a ≤ s.heap.size ∧ AO3 G s
def rmC (h mc ms : Nat) : Room := { frames := h, cells := mc, slots := ms, locals := 40 * h }
/-- a constructor's start -/
def PC0 (G : Gt) (a : Nat) (e0 : va_E) (U : State) : Prop := (∀ w ∈ TB, w.before #[] U = true) ∧ EnvS G U ∧ AO3 G U ∧ U.heap.size = gz G + (a + 1) ∧ va_at (gDD G) vwCl (gz G + a, e0) U.heap
/-- a constructor's end: sz places stand -/
def QC0 (G : Gt) (a sz : Nat) : Array Value → State → Outcome → State → Prop := fun _ st oc t => oc = .returned none ∧ t.heap.size = gz G + (a + sz) ∧ va_P (gDD G) vwCl (wlE G (ct G σ0) a sz) t.heap ∧ va_F (fun q => gz G + a ≤ q) st t
def CtI (G : Gt) (l : Launch) (y : MethodName) (cc : ByteArray) (maxL h a sz mc ms : Nat) (e0 : va_E) : Prop :=
  Met l y [.code y cc maxL none] (rmC h mc ms) (va_Pc [.ref (gz G + a)] (PC0 G a e0)) (QC0 G a sz) mc ms (fun q => gz G + a ≤ q)
theorem PC0_blind (G : Gt) (a : Nat) (e0 : va_E) (av : List Value) : FrameBlind (va_Pc av (PC0 G a e0)) := by
  intro a U g mk q
  obtain ⟨q0, q1, ⟨q2, q3, q4⟩, ⟨q7, q8⟩, q5, q6⟩ := q
  have hm : U.vm.Alike (U.calling g mk a).vm := Vm.Alike.refl U.vm
  have hW : U.WarmedH (U.calling g mk a).vm := State.WarmedH.refl U
  exact ⟨q0, TB_warm hW q1, ⟨va_K.moved hm q2, q3, q4.go hW (fun _ _ _ => rfl)⟩, ⟨fun C hC => (q7 C hC).moved hm, q8⟩, q5, q6⟩
section CC
variable {G : Gt} {p : Program} {l : Launch} {e : Env} {R : Room} {s : State} {m : MethodId} {args : Array Value} {below : List Frame} {meth : Method} {c : Code} {H : Heap} {locs : List Loc} {cells slots : Nat} {Q : State → Prop}
variable {cc bytes : ByteArray} {nL h h2 a n idx : Nat} {own host C : String} {pc : Nat} {ls : Array Slot} {rest : List Value} {B F : Nat → va_E}
theorem CI.env (X : CI G p R s m args c cc nL own h a) (hS : va_S (fun q => gz G + a ≤ q) s.heap H locs) {U : State} (hU : U.heap = H) (hw : s.WarmedH U.vm) : (∀ w ∈ TB, w.before #[] U = true) ∧ EnvS G U := by
  obtain ⟨⟨-, -, -, -, hts⟩, ⟨hK, hz, hT⟩, -, -, -, -, hAll⟩ := X
  refine ⟨TB_warm hw hts, ⟨va_K.moved hw.alike hK, by rw [hU]; exact Nat.le_trans hz hS.1, ?_⟩⟩
  refine hT.go hw ?_
  rw [hU]
  exact fun q h1 h2 => hS.2.1 q h1 (fun h3 => h2 (hAll q (by omega)))
/-- a putfield of the object under work, at the place a -/
theorem o_put {T : u_T} {N ci k : Nat} {fs : List Value} {v : Value} {ty : FieldType} (X : CI G p R s m args c cc nL own h a) (hW : CW G (va_up F a (.inr (ci, fs))) a n s H locs) (hn : 0 < n) (hin : ∀ w ∈ u_ws C T N, w ∈ TB) (ty0 : Nat → FieldType) (hty : ∀ k, k < N → parseFieldDescriptor (T k).2.2.1 = some (ty0 k)) (hnm : ∀ a, a < N → ∀ b, b < N → a ≠ b → (T a).2.1 ≠ (T b).2.1) (hc : vwCl[ci]? = some (C, T, N)) (hk : k < N) (hlink : Cond.fieldLink own idx (T k).1 (T k).2.1 (T k).2.2.1 ∈ TB) (hfn : (T k).2.2.2 = true → meth.name = "<init>" ∧ (T k).1 = own) (hd : parseFieldDescriptor (T k).2.2.1 = some ty) (hnr : narrow ty v = v) (hfit : fits ty v = true) (hl : k < fs.length)
    (hdg : decode cc pc = .ok (.putfield idx, 3)) (kk : ∀ (H1 : Heap) (locs1 : List Loc), CW G (va_up F a (.inr (ci, fs.set k v))) a n s H1 locs1 → W p l e R s m args below meth c H1 locs1 cells slots Q (F0 m (pc + 3) ls rest)) : W p l e R s m args below meth c H locs cells slots Q (F0 m pc ls (v :: .ref (gz G + a) :: rest)) := by
  obtain ⟨w1, w2, w3⟩ := hW
  have he : (wlE G (va_up F a (.inr (ci, fs))) a n)[0]? = some (gz G + a, .inr (ci, fs)) := by rw [wlE_at G _ hn, Nat.add_zero, va_up_self]
  have hD := wlE_D G (va_up F a (.inr (ci, fs))) a n
  have hts := X.1.2.2.2.2
  have hap := va_apart (own := own) hts hin ty0 hty hnm X.2.1.1 hc
  obtain ⟨r, h1, cell, q1, q2, q3, q4⟩ := w2 0 _ he
  have hr : r = (C, T, N) := Option.some.inj (h1.symm.trans hc)
  subst hr
  obtain ⟨hS, hfc, kC, hkC, hkind⟩ := X.2.1.1.1 ci _ hc
  obtain ⟨cf, kf, fi, f, hi, hsl⟩ := hS k hk
  have hlay := hts _ (hin _ (u_in_lay hk))
  unfold u_lay at hlay
  have hst := (u_facts hfc hkC (u_lays hts hin hk) hi).1
  have key : ∀ H' : Heap, H'[gz G + a]? = some (cell.setSlot ((gDD G).2 ci k) v) → H'.size = H.size → (∀ q, q ≠ gz G + a → H'[q]? = H[q]?) → ∀ kx : Nat, CW G (va_up F a (.inr (ci, fs.set k v))) a n s H' (locs ++ [⟨gz G + a, kx⟩]) := by
    intro H' e1 e2 e3 kx
    have hP2 := va_P.set w2 hD he (e := .inr (ci, fs.set k v)) ⟨_, hc, t_OB.to (V := updV (vp_V fs) k v) ⟨_, e1, q2, q3, t_set q4 hap hk v⟩ (fun j _ => vp_updV_set hl v j)⟩ e3
    refine ⟨by rw [e2]; exact w1, ?_, w3.put e2 e3 (by show gz G + a ≤ gz G + a; exact Nat.le_refl _)⟩
    have h3 := wlE_set G (B := va_up F a (.inr (ci, fs))) (a := a) (e := (.inr (ci, fs.set k v) : va_E)) hn
    rw [Nat.add_zero] at h3
    rw [h3] at hP2
    rw [wlE_eq G (B' := va_up F a (.inr (ci, fs.set k v)))] at hP2
    · exact hP2
    · intro j _
      by_cases hj : j = 0
      · subst hj; rw [Nat.add_zero, va_up_self, va_up_self]
      · rw [va_up_ne _ _ (by omega), va_up_ne _ _ (by omega), va_up_ne _ _ (by omega)]
  by_cases hfin : (T k).2.2.2 = true
  · rw [if_pos hfin] at hlay
    obtain ⟨hin2, hdecl⟩ := hfn hfin
    have hcf : m.cls = cf := by
      obtain ⟨_, _, c', _, _, _, -, -, hf', -, -, -, hown2, -⟩ := Cond.laysFinal_spec hlay
      have e1 : c' = cf := by have := hi.symm.trans hf'; simp at this; exact this.1.symm
      rw [hdecl] at hown2
      rw [← e1]; exact Option.some.inj (X.1.2.2.2.1.symm.trans hown2)
    have h6 := u_fits hfc hkC hkind (Or.inr hlay) hi hd hnr hfit
    refine W.putFinK X.1.1 X.1.2.1 X.1.2.2.2.1 (hts _ hlink) hi hst hcf hin2 (by rw [q2]; exact h6) q1 q3 (by rw [hsl]; exact k2_hasslot (q4 k hk)) rfl rfl hdg fun H' e1 e2 e3 => ?_
    rw [hsl] at e1 ⊢
    exact kk H' _ (key H' e1 e2 e3 _)
  · rw [if_neg hfin] at hlay
    have h6 := u_store hfc hkC hkind hlay hi hd hnr hfit
    refine W.putK X.1.1 X.1.2.1 (f := f) ⟨X.1.2.2.2.1, hts _ hlink, ⟨_, _, _, hi⟩, hst⟩ (by rw [q2]; exact h6) q1 q3 (by rw [hsl]; exact k2_hasslot (q4 k hk)) rfl rfl hdg fun H' e1 e2 e3 => ?_
    rw [hsl] at e1 ⊢
    exact kk H' _ (key H' e1 e2 e3 _)
/-- an object made at the place a + n -/
theorem o_new {T : u_T} {N ci : Nat} {fs : List Value} (X : CI G p R s m args c cc nL own h a) (hW : CW G B a n s H locs) (hin : ∀ w ∈ u_ws C T N, w ∈ TB) (ty0 : Nat → FieldType) (hty : ∀ k, k < N → parseFieldDescriptor (T k).2.2.1 = some (ty0 k)) (hc : vwCl[ci]? = some (C, T, N)) (hB : B (a + n) = .inr (ci, fs)) (hfs : ∀ j, j < N → defaultValue (ty0 j) = vp_V fs j) (hcl : Cond.classLink own idx C ∈ TB) (hinst : Cond.instantiable C N ∈ TB) (hini : Cond.initialized C ∈ TB) (hcells : cells + 1 ≤ R.cells) (hslots : slots + N ≤ R.slots) (hdg : decode cc pc = .ok (.new idx, 3))
    (kk : ∀ (H1 : Heap), CW G B a (n + 1) s H1 locs → W p l e R s m args below meth c H1 locs (cells + 1) (slots + N) Q (F0 m (pc + 3) ls (.ref (gz G + (a + n)) :: rest))) : W p l e R s m args below meth c H locs cells slots Q (F0 m pc ls rest) := by
  obtain ⟨w1, w2, w3⟩ := hW
  have hts := X.1.2.2.2.2
  have hKn := X.2.1.1.1 ci _ hc
  refine W.newcK X.1.1 X.1.2.1 X.1.2.2.2.1 (hts _ hcl) (hts _ hinst) (hts _ hini) rfl hdg hcells hslots hKn.2.1 w1 fun H1 kC hkC e1 z1 o1 => ?_
  refine kk H1 ⟨by rw [z1]; omega, ?_, Nat.le_trans w3.1 (by omega), fun x h1 h2 => (o1 x (by have := w3.1; omega)).trans (w3.2.1 x h1 h2), w3.2.2⟩
  have hk : ∀ (k : Nat) (x : Nat × va_E), (wlE G B a n)[k]? = some x → H1[x.1]? = H[x.1]? := fun k x hx => o1 x.1 (by have := (w2 k x hx).lt; omega)
  rw [← wlE_push G hB]
  refine (w2.kept hk).app (fun k x hx => ?_)
  have hz : k < 1 := (List.getElem?_eq_some_iff.mp hx).1
  rw [show k = 0 by omega] at hx
  cases hx
  exact ⟨_, hc, (u_born ty0 hts hin hKn hkC e1 hty).to hfs⟩
/-- an array of numbers made at the place a + n -/
theorem o_newa {atype : ArrayType} {ty : FieldType} {t N : Nat} {x : Int32} {a0 : vp_A} (X : CI G p R s m args c cc nL own h a) (hW : CW G B a n s H locs) (harr : Cond.arrayClass (newarray.typeOf atype) ∈ TB) (hty : newarray.typeOf atype = ty) (ht : (tysG G)[t]? = some (gty G t, ty)) (hob : ∀ C, ty ≠ .object C) (ha : vp_cell (gty G t) a0 = arrV (gty G t) N (fun _ => defaultValue ty)) (hB : B (a + n) = .inl (gty G t, a0)) (hn : ¬ x < 0) (hN : x.toNatClampNeg = N) (hbytes : N * componentBytes ty ≤ 536870912) (hcells : cells + 1 ≤ R.cells) (hslots : slots + N ≤ R.slots) (hdg : decode cc pc = .ok (.newarray atype, 2))
    (kk : ∀ (H1 : Heap), CW G B a (n + 1) s H1 locs → W p l e R s m args below meth c H1 locs (cells + 1) (slots + N) Q (F0 m (pc + 2) ls (.ref (gz G + (a + n)) :: rest))) : W p l e R s m args below meth c H locs cells slots Q (F0 m pc ls (.int x :: rest)) := by
  obtain ⟨w1, w2, w3⟩ := hW
  have hts := X.1.2.2.2.2
  subst hty
  refine va_newaK X.1.1 X.1.2.1 (hts _ harr) rfl hdg rfl hn hN hbytes hcells hslots w1 fun H1 cA e1 z1 o1 _ hNm => ?_
  have hra := (X.2.1.1.2 t _ ht).2
  have hcA : cA = gty G t := by
    have h2 : s.vm.findClass ("[" ++ (newarray.typeOf atype).toString) = some (gty G t) := by
      unfold va_RA at hra
      cases hy : newarray.typeOf atype <;> rw [hy] at hra hob <;> first | exact hra | exact absurd rfl (hob _)
    exact Option.some.inj (hNm.symm.trans h2)
  subst hcA
  refine kk H1 ⟨by rw [z1]; omega, ?_, Nat.le_trans w3.1 (by omega), fun x h1 h2 => (o1 x (by have := w3.1; omega)).trans (w3.2.1 x h1 h2), w3.2.2⟩
  have hk : ∀ (k : Nat) (x : Nat × va_E), (wlE G B a n)[k]? = some x → H1[x.1]? = H[x.1]? := fun k x hx => o1 x.1 (by have := (w2 k x hx).lt; omega)
  rw [← wlE_push G hB]
  refine (w2.kept hk).app (fun k x hx => ?_)
  have hz : k < 1 := (List.getElem?_eq_some_iff.mp hx).1
  rw [show k = 0 by omega] at hx
  cases hx
  show H1[_]? = some (vp_cell _ _)
  rw [ha]
  exact e1
/-- an array of references made at the place a + n -/
theorem o_newq {t N : Nat} {x : Int32} (X : CI G p R s m args c cc nL own h a) (hW : CW G B a n s H locs) (hcl : Cond.classLink own idx C ∈ TB) (hov : C ∈ ["QuestLedger$Quest", "QuestLedger$Ledger", "QuestLedger$Token"]) (ht : (tysG G)[t]? = some (gty G t, .object C)) (hB : B (a + n) = .inl (gty G t, N, .inr (.inr (.inr (.inr (fun _ => none)))))) (hn : ¬ x < 0) (hN : x.toNatClampNeg = N) (hbytes : N * 4 ≤ 536870912) (hcells : cells + 1 ≤ R.cells) (hslots : slots + N ≤ R.slots) (hdg : decode cc pc = .ok (.anewarray idx, 3))
    (kk : ∀ (H1 : Heap), CW G B a (n + 1) s H1 locs → W p l e R s m args below meth c H1 locs (cells + 1) (slots + N) Q (F0 m (pc + 3) ls (.ref (gz G + (a + n)) :: rest))) : W p l e R s m args below meth c H locs cells slots Q (F0 m pc ls (.int x :: rest)) := by
  obtain ⟨w1, w2, w3⟩ := hW
  have hts := X.1.2.2.2.2
  subst hN
  refine W.anew X.1.1 X.1.2.1 X.1.2.2.2.1 (hts _ hcl) (va_AO.use (X.2.2.2.2.2.1 C hov)) rfl hdg rfl hn hbytes hcells hslots fun cA kA comp f1 f2 f3 f4 => ?_
  obtain ⟨kA', comp', g1, g2, g3, g4⟩ := (X.2.1.1.2 t _ ht).2
  have hcA : cA = gty G t := Option.some.inj (f1.symm.trans g4)
  subst hcA
  rw [w1]
  generalize hH1 : H.push ({ cls := gty G t, slots := Array.replicate x.toNatClampNeg .null, vm := .none } : Cell) = H1
  have z1 : H1.size = H.size + 1 := by rw [← hH1, Array.size_push]
  have e1 : H1[gz G + (a + n)]? = some (arrV (gty G t) x.toNatClampNeg (fun _ => .null)) := by rw [← hH1, ← w1, Array.getElem?_push_size, ← arrV_new]
  have o1 : ∀ q : Nat, q < H.size → H1[q]? = H[q]? := fun q hq => by rw [← hH1, Array.getElem?_push, if_neg (Nat.ne_of_lt hq)]
  refine kk H1 ⟨by rw [z1]; omega, ?_, Nat.le_trans w3.1 (by omega), fun x h1 h2 => (o1 x (by have := w3.1; omega)).trans (w3.2.1 x h1 h2), w3.2.2⟩
  have hk : ∀ (k : Nat) (x : Nat × va_E), (wlE G B a n)[k]? = some x → H1[x.1]? = H[x.1]? := fun k x hx => o1 x.1 (w2 k x hx).lt
  rw [← wlE_push G hB]
  refine (w2.kept hk).app (fun k x hx => ?_)
  have hz : k < 1 := (List.getElem?_eq_some_iff.mp hx).1
  rw [show k = 0 by omega] at hx
  cases hx
  exact e1
/-- a reference put into the array at the place a + q: the address of the place a + b -/
theorem o_ast {t q N b ci : Nat} {f : Nat → Option Nat} {r : vw_C} {vs : List Value} {x : Int32} (X : CI G p R s m args c cc nL own h a) (hW : CW G B a n s H locs) (hq : q < n) (hB : B (a + q) = .inl (gty G t, N, .inr (.inr (.inr (.inr f))))) (ht : (tysG G)[t]? = some (gty G t, .object r.1)) (hb : b < n) (hv : B (a + b) = .inr (ci, vs)) (hc : vwCl[ci]? = some r) (hin : vp_in x N) (hdg : decode cc pc = .ok (.aastore, 1))
    (kk : ∀ (H1 : Heap) (locs1 : List Loc), CW G (va_up B (a + q) (.inl (gty G t, N, .inr (.inr (.inr (.inr (va_up f x.toNatClampNeg (some (gz G + (a + b)))))))))) a n s H1 locs1 → W p l e R s m args below meth c H1 locs1 cells slots Q (F0 m (pc + 1) ls rest)) : W p l e R s m args below meth c H locs cells slots Q (F0 m pc ls (.ref (gz G + (a + b)) :: .int x :: .ref (gz G + (a + q)) :: rest)) := by
  obtain ⟨w1, w2, w3⟩ := hW
  have hD := wlE_D G B a n
  have ha := wlE_at G B (a := a) hq
  rw [hB] at ha
  have hvb := wlE_at G B (a := a) hb
  rw [hv] at hvb
  have hlt : x.toNatClampNeg < N := Nat.not_le.mp fun q => hin (Or.inr q)
  have h0 : ¬ x < 0 := fun q => hin (Or.inl q)
  obtain ⟨r', hr', cellV, g1, g2, g3, -⟩ := w2 b _ hvb
  have hcls := (X.2.1.1.1 ci r hc).2
  obtain ⟨kA, comp, k1, k2, k3, -⟩ := (X.2.1.1.2 t _ ht).2
  have hcomp : comp = (gDD G).1 ci := Option.some.inj (k3.symm.trans hcls.1)
  subst hcomp
  obtain ⟨kC, hkC, -⟩ := hcls.2
  refine W.aast X.1.1 X.1.2.1 (w2 q _ ha) (fun q h => by cases h) (fun h => by cases h) k1 k2 rfl hkC ⟨h0, by show _ < (arrV _ _ _).slots.size; rw [arrV_size]; exact hlt⟩ g1 (fun q h => by rw [g3] at h; cases h) (by rw [g2]; exact hkC) (by rw [g2]; exact va_assign hcls) rfl rfl hdg fun H1 e z oq => ?_
  refine kk H1 _ ⟨by rw [z]; exact w1, ?_, w3.put z oq (by show gz G + a ≤ gz G + (a + q); omega)⟩
  rw [← wlE_set G hq]
  refine w2.set hD ha ?_ oq
  show H1[_]? = some (vp_cell _ _)
  rw [e]
  rw [vp_cell_q, vp_cell_q, arrV_store]
  congr 2
  funext q
  by_cases hq : q = x.toNatClampNeg
  · subst hq
    simp [updV, va_up, va_rf]
  · simp [updV, va_up, hq]
/-- behind a constructor's call -/
theorem o_back {sz mc ms : Nat} {st0 : List Value} {ar : Array Value} (hW : CW G B a (n + 1) s H locs) (hr : va_Run p l e R s m args below meth c H locs cells slots mc ms (F0 m pc ls st0) rest (QC0 G (a + n) sz ar) (fun q => gz G + (a + n) ≤ q)) (B' : Nat → va_E)
    (hB1 : ∀ j, j < n → B (a + j) = B' (a + j)) (hBs : ∀ j, j < sz → B' (a + n + j) = ct G σ0 (a + n + j))
    (kk : ∀ (H1 : Heap) (locs1 : List Loc), CW G B' a (n + sz) s H1 locs1 → W p l e R s m args below meth c H1 locs1 (cells + mc) (slots + ms) Q (F0 m (pc + 3) ls rest)) : W p l e R s m args below meth c H locs cells slots Q (F0 m pc ls st0) := by
  intro T hT X1
  obtain ⟨v, st₀, t, T', L, h0, X', hL, e1, e2, ⟨hv, hsz, hP, hz, hk⟩, st⟩ := hr T hT X1
  cases hv
  rw [h0] at hz hk
  obtain ⟨w1, w2, w3⟩ := hW
  have hP2 : va_P (gDD G) vwCl (wlE G B' a (n + sz)) T'.heap := by
    rw [e1]
    intro k q hq
    obtain ⟨hkn, rfl⟩ := wlE_key G B' hq
    by_cases hkk : k < n
    · have h4 := w2 k _ (wlE_at G B (show k < n + 1 by omega))
      rw [hB1 k hkk] at h4
      exact h4.kept (hk _ (by have := h4.lt; exact this) (fun h3 => by have : gz G + (a + n) ≤ gz G + (a + k) := h3; omega))
    · have h4 := hP (k - n) _ (wlE_at G _ (show k - n < sz by omega))
      rw [← hBs (k - n) (by omega)] at h4
      have e9 : a + n + (k - n) = a + k := by omega
      rw [e9] at h4
      exact h4
  have hS2 : va_S (fun q => gz G + a ≤ q) s.heap T'.heap (locs ++ L) := by
    refine ⟨Nat.le_trans w3.1 (by rw [e1]; exact hz), fun q h1 h2 => ?_, fun q hq => ?_⟩
    · rw [e1, hk q (Nat.lt_of_lt_of_le h1 w3.1) (fun h3 => h2 (by show gz G + a ≤ q; have : gz G + (a + n) ≤ q := h3; omega))]; exact w3.2.1 q h1 h2
    · rcases List.mem_append.mp hq with h | h
      · exact w3.2.2 q h
      · have h3 : gz G + (a + n) ≤ q.base := hL q h
        show gz G + a ≤ q.base
        omega
  obtain ⟨t2, a1, b1⟩ := kk T'.heap (locs ++ L) ⟨by rw [e1, hsz]; omega, hP2, hS2⟩ T' rfl X'
  exact ⟨t2, st t2 a1, b1⟩
theorem o_pre {e0 : va_E} (X : CI G p R s m args c cc nL own h a) (hW : CW G B a (n + 1) s H locs) (hB0 : B (a + n) = e0) : PreS s H (va_Pc [.ref (gz G + (a + n))] (PC0 G (a + n) e0)) [.ref (gz G + (a + n))] := by
  obtain ⟨w1, w2, w3⟩ := hW
  refine ⟨PC0_blind _ _ _ _, fun U hU hw => ⟨rfl, (X.env w3 hU hw).1, (X.env w3 hU hw).2, ⟨fun C hC => (X.2.2.2.2.2.1 C hC).moved hw.alike, X.2.2.2.2.2.2⟩, by rw [hU]; exact w1, ?_⟩⟩
  rw [hU, ← hB0]
  exact w2 n _ (wlE_at G B (by omega))
theorem o_callI {y : MethodName} {maxL sz mc ms : Nat} {e0 : va_E} (X : CI G p R s m args c cc nL own h a) (hW : CW G B a (n + 1) s H locs) (hB0 : B (a + n) = e0) (lk : Cond.methodLink own idx y ∈ TB) (hin : Cond.instanceMethod y ∈ TB) (mv : MV y bytes maxL none 0) (hy : y.name = "<init>") (hM : CtI G l y bytes maxL h2 (a + n) sz mc ms e0) (hh : h2 < h) (hcat : (rest.map fun v => v.category).sum ≤ 8) (hls : ls.size = nL) (hd : decode cc pc = .ok (.invokespecial idx, 3)) (hc1 : cells + mc ≤ R.cells) (hc2 : slots + ms ≤ R.slots) (B' : Nat → va_E) (hB1 : ∀ j, j < n → B (a + j) = B' (a + j)) (hBs : ∀ j, j < sz → B' (a + n + j) = ct G σ0 (a + n + j))
    (kk : ∀ (H1 : Heap) (locs1 : List Loc), CW G B' a (n + sz) s H1 locs1 → W p l e R s m args below meth c H1 locs1 (cells + mc) (slots + ms) Q (F0 m (pc + 3) ls rest)) : W p l e R s m args below meth c H locs cells slots Q (F0 m pc ls (.ref (gz G + (a + n)) :: rest)) := by
  have hts := X.1.2.2.2.2
  have hf := X.2.2.1
  have hlo := X.2.2.2.1
  obtain ⟨m1, m2, m3, m4, m5⟩ := mv
  exact o_back hW (va_runI (As := []) (n := 0) X.1 hM ⟨callB_of 0 hts (mV_good m1 m2) rfl rfl rfl (hts _ m3) (hts _ lk) m4 ⟨by show h2 + 1 ≤ R.frames; omega, by show 8 + (maxL + 11) + 40 * h2 ≤ R.locals; omega⟩, hy, hts _ hin⟩ (o_pre X hW hB0) rfl rfl hls rfl (lv_room (ls := ls) (rest := rest) (pc := pc) (m := m) hcat) hd ⟨hc1, hc2⟩) B' hB1 hBs kk
theorem o_callIN {y : MethodName} {maxL sz mc ms : Nat} {e0 : va_E} (X : CI G p R s m args c cc nL own h a) (hW : CW G B a (n + 1) s H locs) (hB0 : B (a + n) = e0) (lk : Cond.methodLinkNest own idx y host ∈ TB) (hin : Cond.instanceMethod y ∈ TB) (mv : MV y bytes maxL none 0) (hy : y.name = "<init>") (hM : CtI G l y bytes maxL h2 (a + n) sz mc ms e0) (hh : h2 < h) (hcat : (rest.map fun v => v.category).sum ≤ 8) (hls : ls.size = nL) (hd : decode cc pc = .ok (.invokespecial idx, 3)) (hc1 : cells + mc ≤ R.cells) (hc2 : slots + ms ≤ R.slots) (B' : Nat → va_E) (hB1 : ∀ j, j < n → B (a + j) = B' (a + j)) (hBs : ∀ j, j < sz → B' (a + n + j) = ct G σ0 (a + n + j))
    (kk : ∀ (H1 : Heap) (locs1 : List Loc), CW G B' a (n + sz) s H1 locs1 → W p l e R s m args below meth c H1 locs1 (cells + mc) (slots + ms) Q (F0 m (pc + 3) ls rest)) : W p l e R s m args below meth c H locs cells slots Q (F0 m pc ls (.ref (gz G + (a + n)) :: rest)) := by
  have hts := X.1.2.2.2.2
  have hf := X.2.2.1
  have hlo := X.2.2.2.1
  obtain ⟨m1, m2, m3, m4, m5⟩ := mv
  exact o_back hW (va_runIN (As := []) (n := 0) X.1 hM ⟨va_cnB 0 hts (mV_good m1 m2) rfl rfl rfl (va_Nw.of rfl (hts _ lk)) (hts _ m3) m4 ⟨by show h2 + 1 ≤ R.frames; omega, by show 8 + (maxL + 11) + 40 * h2 ≤ R.locals; omega⟩, hy, hts _ hin⟩ (o_pre X hW hB0) rfl rfl hls rfl (lv_room (ls := ls) (rest := rest) (pc := pc) (m := m) hcat) hd ⟨hc1, hc2⟩) B' hB1 hBs kk
/-- Object's own constructor -/
theorem oi_in : Cond.instanceMethod objectInit ∈ TB := by decide +kernel
theorem oi_code : Cond.code objectInit ⟨#[0xb1]⟩ 1 none ∈ TB := by decide +kernel
theorem o_obj (X : CI G p R s m args c cc nL own h a) (lk : Cond.methodLink own idx objectInit ∈ TB) (hh : 1 ≤ h) (hcat : (rest.map fun v => v.category).sum ≤ 8) (hls : ls.size = nL) (hd : decode cc pc = .ok (.invokespecial idx, 3)) {x : Nat}
    (kk : W p l e R s m args below meth c H locs cells slots Q (F0 m (pc + 3) ls rest)) : W p l e R s m args below meth c H locs cells slots Q (F0 m pc ls (.ref x :: rest)) := by
  have hts := X.1.2.2.2.2
  refine W.objInit X.1.1 X.1.2.1 X.1.2.2.2.1 (hts _ lk) (hts _ oi_in) (hts _ oi_code) rfl (by rw [X.1.2.2.1]; exact hls) rfl hd (Nat.le_trans hh X.2.2.1) ?_ kk
  have h1 := lv_room (ls := ls) (rest := rest) (pc := pc) (m := m) hcat
  have h2 := X.2.2.2.1
  show 2 * (F0 m pc ls (.ref x :: rest)).monitorRoom + _ + 12 ≤ R.locals
  have h3 : 2 * (F0 m pc ls (.ref x :: rest)).monitorRoom + (rest.map fun v => v.category).sum ≤ 8 := h1
  omega
/-- a constructor's end -/
def R_C (G : Gt) (p : Program) (l : Launch) (e : Env) (R : Room) (s : State) (m : MethodId) (args : Array Value) (below : List Frame) (meth : Method) (c : Code) (a sz mc ms : Nat) (Q : State → Prop) (cc : ByteArray) : Prop :=
  ∀ (pc : Nat) (H : Heap) (locs : List Loc) (ls : Array Slot), decode cc pc = .ok (.return_, 1) → CW G (ct G σ0) a sz s H locs → W p l e R s m args below meth c H locs mc ms Q (F0 m pc ls [])
end CC
theorem met_c {G : Gt} {l : Launch} {y : MethodName} {cc : ByteArray} {maxL h a sz mc ms : Nat} {e0 : va_E} (hy : plainName y.cls = true) (hyn : y.name = "<init>") (hlen : 1 ≤ maxL)
    (body : ∀ (p : Program) (e : Env) (s : State) (m : MethodId) (args : Array Value) (below : List Frame) (meth : Method) (c : Code) (Q : State → Prop) (ls : Array Slot), CI G p (rmC h mc ms) s m args c cc maxL y.cls h a → meth.name = "<init>" → CW G (va_up (ct G σ0) a e0) a 1 s s.heap [] → R_C G p l e (rmC h mc ms) s m args below meth c a sz mc ms Q cc → lv_has ls maxL [(0, .ref (gz G + a))] → W p l e (rmC h mc ms) s m args below meth c s.heap [] 0 0 Q (F0 m 0 ls [])) :
    CtI G l y cc maxL h a sz mc ms e0 := by
  refine Met.ofW (cc := cc) (maxL := maxL) (ret := none) hy rfl ?_
  intro p e s m args below meth c s₁ B hml hv
  obtain ⟨ha, htb, hE, hAO, hsz, hat⟩ := hv
  subst ha
  have hl := lv_entry [Value.ref (gz G + a)] (n := maxL) hlen
  rw [lg_entry_eq]
  generalize (lg_sl [Value.ref (gz G + a)] ++ List.replicate (maxL - (lg_sl [Value.ref (gz G + a)]).length) Slot.unset).toArray = ls at hl ⊢
  have hlocks := B.notSynchronized
  have hin : meth.name = "<init>" := (name_of_methodNamed B.named B.method).1.trans hyn
  have X : CI G p (rmC h mc ms) s m [Value.ref (gz G + a)].toArray c cc maxL y.cls h a := ⟨⟨B.exec, B.bytes, hml, findClass_of_methodNamed B.named, TB_warm (State.WarmedH.refl s) htb⟩, hE, Nat.le_refl _, Nat.le_refl _, by rw [hsz]; omega, hAO⟩
  have hW : CW G (va_up (ct G σ0) a e0) a 1 s s.heap [] := by
    refine ⟨hsz, fun k q hq => ?_, va_S.rf⟩
    obtain ⟨hk, rfl⟩ := wlE_key G _ hq
    rw [show k = 0 by omega, Nat.add_zero, va_up_self]
    exact hat
  refine body p e s m _ below meth c _ ls X hin hW ?_ hl
  intro pc H locs ls1 hd hW1
  exact W.vret X.1.1 X.1.2.1 B.returns (fun t ht hw => ⟨rfl, by rw [ht]; exact hW1.1, by rw [ht]; exact hW1.2.1, hW1.2.2.F ht⟩) hW1.2.2.2.2 hd hlocks
