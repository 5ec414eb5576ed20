/-! THE LAW'S GAME: its objects at the places 1000 .. -/
def kg (i : Nat) : Nat := if i = 1000 then 20 else if i = 1001 then 21 else if i = 1002 then 22 else if i = 1003 then 23 else if i = 1004 then 24 else if i = 1100 then 22 else if 1005 ≤ i ∧ i < 1021 then (if (i - 1005) % 4 = 0 then 25 else 22) else 99
/-- the names of the class's world, how many steps, whether the place 1100 stands, the addresses, the plan -/
abbrev Gm : Type := Gt × Nat × Bool × (Nat → Nat) × Value
def gB (G : Gm) : Gt := G.1
def gn (G : Gm) : Nat := G.2.1
def gf (G : Gm) : Bool := G.2.2.1
def ga (G : Gm) : Nat → Nat := G.2.2.2.1
def gp (G : Gm) : Value := G.2.2.2.2
def kv (G : Gm) (i : Nat) : Nat := if i < 1005 + 4 * gn G ∨ (i = 1100 ∧ gf G = true) then kg i else 99
/-- what stands at the place i -/
def cg (G : Gm) (σ : St) (i : Nat) : va_E := match kg i with
  | 20 => .inr (10, [.ref (ga G 1001), .ref (ga G 1002), .int (gI σ i 2), .int (gI σ i 3), .int (gI σ i 4), .int (gI σ i 5), gp G, .int (gI σ i 7), .ref (ga G 1003)])
  | 21 => .inr (12, [.int (gI σ i 0), .ref (ga G 1004), .int (gI σ i 2)])
  | 22 => .inl (gty (gB G) 0, 3, .inl (gI σ i))
  | 23 => .inl (gty (gB G) 2, 64, .inl (gI σ i))
  | 24 => .inl (gty (gB G) 8, 10, .inr (.inr (.inr (.inr (fun k => if k < gn G then some (ga G (1005 + 4 * k)) else none)))))
  | 25 => .inr (11, [.int (gI σ i 0), .int (gI σ i 1), .int (gI σ i 2), .int (gI σ i 3), .int (gI σ i 4), .int (gI σ i 5), .ref (ga G (i + 1)), .ref (ga G (i + 2)), .ref (ga G (i + 3))])
  | _ => .inl (gty (gB G) 0, 0, .inl (fun _ => 0))
theorem cg_congr (G : Gm) {σ σ' : St} {j : Nat} (h : gI σ' j = gI σ j) : cg G σ' j = cg G σ j := by
  unfold cg
  rw [h]
theorem kv_kg {G : Gm} {i k : Nat} (h : kv G i = k) (hk : k ≠ 99) : kg i = k := by
  unfold kv at h
  split at h
  · exact h
  · exact absurd h.symm hk
/-- the game's cells; they are apart, and among what may change -/
def PG (G : Gm) (σ : St) (H : Heap) : Prop := (∀ i, kv G i ≠ 99 → va_at (gDD (gB G)) vwCl (ga G i, cg G σ i) H) ∧ gI σ 1001 2 = nI (gn G) ∧ gn G ≤ 4 ∧ (∀ i j, kv G i ≠ 99 → kv G j ≠ 99 → ga G i = ga G j → i = j) ∧ ∀ i, kv G i ≠ 99 → gA (gB G) (ga G i)
theorem cg_20 (G : Gm) (σ : St) {i : Nat} (h : kg i = 20) : cg G σ i = .inr (10, [.ref (ga G 1001), .ref (ga G 1002), .int (gI σ i 2), .int (gI σ i 3), .int (gI σ i 4), .int (gI σ i 5), gp G, .int (gI σ i 7), .ref (ga G 1003)]) := by unfold cg; rw [h]; rfl
theorem PG.a20 {G : Gm} {σ : St} {H : Heap} (h : PG G σ H) {i : Nat} (hi : kv G i = 20) : va_at (gDD (gB G)) vwCl (ga G i, .inr (10, [.ref (ga G 1001), .ref (ga G 1002), .int (gI σ i 2), .int (gI σ i 3), .int (gI σ i 4), .int (gI σ i 5), gp G, .int (gI σ i 7), .ref (ga G 1003)])) H := by rw [← cg_20 G σ (kv_kg hi (by decide))]; exact h.1 i (by rw [hi]; decide)
theorem cg_21 (G : Gm) (σ : St) {i : Nat} (h : kg i = 21) : cg G σ i = .inr (12, [.int (gI σ i 0), .ref (ga G 1004), .int (gI σ i 2)]) := by unfold cg; rw [h]; rfl
theorem PG.a21 {G : Gm} {σ : St} {H : Heap} (h : PG G σ H) {i : Nat} (hi : kv G i = 21) : va_at (gDD (gB G)) vwCl (ga G i, .inr (12, [.int (gI σ i 0), .ref (ga G 1004), .int (gI σ i 2)])) H := by rw [← cg_21 G σ (kv_kg hi (by decide))]; exact h.1 i (by rw [hi]; decide)
theorem cg_22 (G : Gm) (σ : St) {i : Nat} (h : kg i = 22) : cg G σ i = .inl (gty (gB G) 0, 3, .inl (gI σ i)) := by unfold cg; rw [h]; rfl
theorem PG.a22 {G : Gm} {σ : St} {H : Heap} (h : PG G σ H) {i : Nat} (hi : kv G i = 22) : va_at (gDD (gB G)) vwCl (ga G i, .inl (gty (gB G) 0, 3, .inl (gI σ i))) H := by rw [← cg_22 G σ (kv_kg hi (by decide))]; exact h.1 i (by rw [hi]; decide)
theorem cg_23 (G : Gm) (σ : St) {i : Nat} (h : kg i = 23) : cg G σ i = .inl (gty (gB G) 2, 64, .inl (gI σ i)) := by unfold cg; rw [h]; rfl
theorem PG.a23 {G : Gm} {σ : St} {H : Heap} (h : PG G σ H) {i : Nat} (hi : kv G i = 23) : va_at (gDD (gB G)) vwCl (ga G i, .inl (gty (gB G) 2, 64, .inl (gI σ i))) H := by rw [← cg_23 G σ (kv_kg hi (by decide))]; exact h.1 i (by rw [hi]; decide)
theorem cg_24 (G : Gm) (σ : St) {i : Nat} (h : kg i = 24) : cg G σ i = .inl (gty (gB G) 8, 10, .inr (.inr (.inr (.inr (fun k => if k < gn G then some (ga G (1005 + 4 * k)) else none))))) := by unfold cg; rw [h]; rfl
theorem PG.a24 {G : Gm} {σ : St} {H : Heap} (h : PG G σ H) {i : Nat} (hi : kv G i = 24) : va_at (gDD (gB G)) vwCl (ga G i, .inl (gty (gB G) 8, 10, .inr (.inr (.inr (.inr (fun k => if k < gn G then some (ga G (1005 + 4 * k)) else none)))))) H := by rw [← cg_24 G σ (kv_kg hi (by decide))]; exact h.1 i (by rw [hi]; decide)
theorem cg_25 (G : Gm) (σ : St) {i : Nat} (h : kg i = 25) : cg G σ i = .inr (11, [.int (gI σ i 0), .int (gI σ i 1), .int (gI σ i 2), .int (gI σ i 3), .int (gI σ i 4), .int (gI σ i 5), .ref (ga G (i + 1)), .ref (ga G (i + 2)), .ref (ga G (i + 3))]) := by unfold cg; rw [h]; rfl
theorem PG.a25 {G : Gm} {σ : St} {H : Heap} (h : PG G σ H) {i : Nat} (hi : kv G i = 25) : va_at (gDD (gB G)) vwCl (ga G i, .inr (11, [.int (gI σ i 0), .int (gI σ i 1), .int (gI σ i 2), .int (gI σ i 3), .int (gI σ i 4), .int (gI σ i 5), .ref (ga G (i + 1)), .ref (ga G (i + 2)), .ref (ga G (i + 3))])) H := by rw [← cg_25 G σ (kv_kg hi (by decide))]; exact h.1 i (by rw [hi]; decide)
theorem kv_1000 (G : Gm) : kv G 1000 = 20 := if_pos (Or.inl (by omega))
theorem kv_1001 (G : Gm) : kv G 1001 = 21 := if_pos (Or.inl (by omega))
theorem kv_1002 (G : Gm) : kv G 1002 = 22 := if_pos (Or.inl (by omega))
theorem kv_1003 (G : Gm) : kv G 1003 = 23 := if_pos (Or.inl (by omega))
theorem kv_1004 (G : Gm) : kv G 1004 = 24 := if_pos (Or.inl (by omega))
theorem kg_step : ∀ k, k < 4 → kg (1005 + 4 * k) = 25 ∧ kg (1005 + 4 * k + 1) = 22 ∧ kg (1005 + 4 * k + 2) = 22 ∧ kg (1005 + 4 * k + 3) = 22 := by decide
theorem kg_25 {i : Nat} (h : kg i = 25) : ∃ k, k < 4 ∧ i = 1005 + 4 * k := by
  unfold kg at h
  by_cases h0 : 1005 ≤ i ∧ i < 1021
  · refine ⟨(i - 1005) / 4, by omega, ?_⟩
    by_cases h1 : (i - 1005) % 4 = 0
    · omega
    · simp [h1] at h
      repeat' split at h
      all_goals omega
  · simp [h0] at h
    repeat' split at h
    all_goals omega
theorem kv_s {G : Gm} {i j : Nat} (hj : 1 ≤ j ∧ j ≤ 3) (h : kv G i = 25) : kv G (i + j) = 22 := by
  obtain ⟨k, hk, rfl⟩ := kg_25 (kv_kg h (by decide))
  have h2 : 1005 + 4 * k < 1005 + 4 * gn G ∨ (1005 + 4 * k = 1100 ∧ gf G = true) := by
    unfold kv at h
    split at h
    · assumption
    · omega
  have h3 : k < gn G := by omega
  unfold kv
  rw [if_pos (Or.inl (by omega))]
  obtain ⟨h5, h6⟩ := hj
  obtain ⟨a1, a2, a3, a4⟩ := kg_step k hk
  rcases (by omega : j = 1 ∨ j = 2 ∨ j = 3) with rfl | rfl | rfl
  · exact a2
  · exact a3
  · exact a4
theorem kv_s1 {G : Gm} {i : Nat} (h : kv G i = 25) : kv G (i + 1) = 22 := kv_s ⟨by omega, by omega⟩ h
theorem kv_s2 {G : Gm} {i : Nat} (h : kv G i = 25) : kv G (i + 2) = 22 := kv_s ⟨by omega, by omega⟩ h
theorem kv_s3 {G : Gm} {i : Nat} (h : kv G i = 25) : kv G (i + 3) = 22 := kv_s ⟨by omega, by omega⟩ h
theorem kv_stN {G : Gm} {k : Nat} (h : k < gn G) (h4 : gn G ≤ 4) : kv G (1005 + 4 * k) = 25 := by
  unfold kv
  rw [if_pos (Or.inl (by omega))]
  exact (kg_step k (by omega)).1
theorem PG.size {G : Gm} {σ : St} {H : Heap} (h : PG G σ H) : (gI σ 1001 2).toNatClampNeg = gn G := by
  have := h.2.2.1
  rw [h.2.1, nI_clamp (by omega)]
theorem kv_step {G : Gm} {σ : St} {H : Heap} {j : Int32} (h : PG G σ H) (hj : vp_in j (gI σ 1001 2).toNatClampNeg) : kv G (1005 + 4 * j.toNatClampNeg) = 25 := by
  have h2 := vp_lt hj
  rw [h.size] at h2
  exact kv_stN h2 h.2.2.1
theorem PG.kept {G : Gm} {σ : St} {H H1 : Heap} (h : PG G σ H) (hk : ∀ i, kv G i ≠ 99 → H1[ga G i]? = H[ga G i]?) : PG G σ H1 := ⟨fun i hi => (h.1 i hi).kept (hk i hi), h.2⟩
/-! read-only methods: whatever the heap holds, it holds it afterwards -/
def Pre0 (G : Gt) (Pf : State → Prop) (U : State) : Prop := (∀ w ∈ TB, w.before #[] U = true) ∧ EnvS G U ∧ Pf U
/-- a fact of the heap and the classes alone -/
def Mv (Pf : State → Prop) : Prop := ∀ U V : State, U.vm.Alike V.vm → V.heap = U.heap → Pf U → Pf V
theorem Mv.h (P : Heap → Prop) : Mv fun U => P U.heap := fun U V _ h q => by
  show P V.heap
  rw [h]; exact q
def CtP (G : Gt) (l : Launch) (y : MethodName) (cc : ByteArray) (maxL : Nat) (ret : Option FieldType) (h : Nat) (av : List Value) (Pf : State → Prop) (ov : Option Value) : Prop :=
  Met l y [.code y cc maxL ret] (rmH h) (va_Pc av (Pre0 G Pf)) (fun _ st oc t => oc = .returned ov ∧ t.heap = st.heap) 0 0 (fun _ => False)
theorem Pre0_blind (G : Gt) (av : List Value) {Pf : State → Prop} (hM : Mv Pf) : FrameBlind (va_Pc av (Pre0 G Pf)) := by
  intro a U g mk q
  obtain ⟨q0, q1, ⟨q2, q3, q4⟩, q5⟩ := q
  have hm : U.vm.Alike (U.calling g mk a).vm := Vm.Alike.refl U.vm
  have hW : U.WarmedH (U.calling g mk a).vm := State.WarmedH.refl U
  exact ⟨q0, TB_warm hW q1, ⟨va_K.moved hm q2, q3, q4.go hW (fun _ _ _ => rfl)⟩, hM _ _ hm rfl q5⟩
section RO
variable {G : Gt} {p : Program} {l : Launch} {e : Env} {R : Room} {s : State} {m : MethodId} {args : Array Value} {below : List Frame} {meth : Method} {c : Code} {H : Heap} {locs : List Loc} {cells slots : Nat} {Q : State → Prop}
variable {cc bytes : ByteArray} {nL h h2 maxL n idx cells0 slots0 : Nat} {own host C : String} {pc : Nat} {ls : Array Slot} {rest st0 : List Value} {y : MethodName} {ret : Option FieldType} {b : Nat} {As av : List Value} {ov : Option Value} {Pf : State → Prop}
/-- the environment at a later heap -/
theorem Cx.envA {A : Nat → Prop} (X : Cx G p R s m args c cells0 slots0 cc nL own h) (hS : va_S A s.heap H locs) (hA : ∀ q, q < s.heap.size → A q → gA G q) {U : State} (hU : U.heap = H) (hw : s.WarmedH U.vm) : (∀ w ∈ TB, w.before #[] U = true) ∧ EnvS G U := by
  obtain ⟨⟨-, -, -, -, hts⟩, ⟨hK, hz, hT⟩, -⟩ := X
  refine ⟨TB_warm hw hts, ⟨va_K.moved hw.alike hK, by rw [hU]; exact Nat.le_trans hz hS.1, ?_⟩⟩
  refine hT.go hw ?_
  rw [hU]
  exact fun q h1 h2 => hS.2.1 q h1 (fun h3 => h2 (hA q h1 h3))
theorem pR_of {A : Nat → Prop} (X : Cx G p R s m args c cells0 slots0 cc nL own h) (hS : va_S A s.heap H locs) (hA : ∀ q, q < s.heap.size → A q → gA G q) (hPf : ∀ U : State, U.heap = H → s.vm.Alike U.vm → Pf U) : ∀ U : State, U.heap = H → s.WarmedH U.vm → va_Pc As (Pre0 G Pf) As.toArray U := fun U hU hw => ⟨rfl, (X.envA hS hA hU hw).1, (X.envA hS hA hU hw).2, hPf U hU hw.alike⟩
/-- behind a read-only call -/
theorem r_back {st0 : List Value} {a : Array Value} (hr : va_Run p l e R s m args below meth c H locs cells slots 0 0 (F0 m pc ls st0) rest (fun st oc t => oc = .returned ov ∧ t.heap = st.heap) (fun _ => False))
    (kk : W p l e R s m args below meth c H locs cells slots Q (F0 m (pc + 3) ls (ov.toList ++ rest))) : W p l e R s m args below meth c H locs cells slots Q (F0 m pc ls st0) := by
  intro T hT X1
  obtain ⟨v, st₀, t, T', L, h0, X', hL, e1, e2, ⟨hv, hk⟩, st⟩ := hr T hT X1
  cases hv
  have hL0 : L = [] := by
    cases L with
    | nil => rfl
    | cons q r => exact (hL q List.mem_cons_self).elim
  subst hL0
  rw [List.append_nil] at X'
  obtain ⟨t2, a1, b1⟩ := kk T' (by rw [e1, hk, h0]) X'
  exact ⟨t2, st t2 a1, b1⟩
/-- the stack's room, and what a frame has of it -/
theorem callP_S {A : Nat → Prop} (X : Cx G p R s m args c cells0 slots0 cc nL own h) (hS : va_S A s.heap H locs) (hA : ∀ q, q < s.heap.size → A q → gA G q) (hM0 : Mv Pf) (hPf : ∀ U : State, U.heap = H → s.vm.Alike U.vm → Pf U) (lk : Cond.methodLink own idx y ∈ TB) (hsta : Cond.static y ∈ TB) (mv : MV y bytes maxL ret n) (hM : CtP G l y bytes maxL ret h2 As Pf ov) (hh : h2 < h) (hst : st0 = As.reverse ++ rest) (hn : As.length = n) (hcat : (rest.map fun v => v.category).sum ≤ 8) (hls : ls.size = nL) (hd : decode cc pc = .ok (.invokestatic idx, 3)) (hc : cells ≤ R.cells) (hs : slots ≤ R.slots)
    (kk : W p l e R s m args below meth c H locs cells slots Q (F0 m (pc + 3) ls (ov.toList ++ rest))) : W p l e R s m args below meth c H locs cells slots Q (F0 m pc ls st0) :=
  r_back (a := As.toArray) (va_runS X.1 hM ⟨cB_of X lk mv hh, X.1.2.2.2.2 _ hsta⟩ ⟨Pre0_blind _ _ hM0, pR_of X hS hA hPf⟩ rfl hn hls hst (lv_room (ls := ls) (rest := rest) (pc := pc) (m := m) hcat) hd ⟨hc, hs⟩) kk
theorem callP_V {A : Nat → Prop} {ci : Nat} {fs : List Value} {r : vw_C} (X : Cx G p R s m args c cells0 slots0 cc nL own h) (hS : va_S A s.heap H locs) (hA : ∀ q, q < s.heap.size → A q → gA G q) (hM0 : Mv Pf) (hPf : ∀ U : State, U.heap = H → s.vm.Alike U.vm → Pf U) (hf : va_at (gDD G) vwCl (b, .inr (ci, fs)) H) (hcl : vwCl[ci]? = some r) (lk : Cond.methodLink own idx y ∈ TB) (hin : Cond.instanceMethod y ∈ TB) (hse : Cond.selects r.1 y y ∈ TB) (mv : MV y bytes maxL ret n) (hM : CtP G l y bytes maxL ret h2 (.ref b :: As) Pf ov) (hh : h2 < h) (hst : st0 = As.reverse ++ .ref b :: rest) (hn : As.length = n) (hcat : (rest.map fun v => v.category).sum ≤ 8) (hls : ls.size = nL) (hd : decode cc pc = .ok (.invokevirtual idx, 3)) (hc : cells ≤ R.cells) (hs : slots ≤ R.slots)
    (kk : W p l e R s m args below meth c H locs cells slots Q (F0 m (pc + 3) ls (ov.toList ++ rest))) : W p l e R s m args below meth c H locs cells slots Q (F0 m pc ls st0) :=
  r_back (a := (.ref b :: As).toArray) (va_runV X.1 hM ⟨cB_of X lk mv hh, X.1.2.2.2.2 _ hin, X.1.2.2.2.2 _ hse⟩ ⟨Pre0_blind _ _ hM0, p_recv X hf hcl, pR_of X hS hA hPf⟩ rfl hn hls hst (lv_room (ls := ls) (rest := rest) (pc := pc) (m := m) hcat) hd ⟨hc, hs⟩) kk
/-- a read-only method's contract out of its walk -/
theorem met_P {r : Int32} (hy : plainFor y = true) (hlen : (lg_sl av).length ≤ maxL) (hret : ∃ ty, ret = some ty ∧ narrow ty (.int r) = .int r)
    (body : ∀ (p : Program) (e : Env) (s : State) (m : MethodId) (args : Array Value) (below : List Frame) (meth : Method) (c : Code) (Q : State → Prop) (ls : Array Slot), Cx G p (rmH h) s m args c 0 0 cc maxL y.cls h → Pf s → (∀ (pc : Nat) (ls : Array Slot), decode cc pc = .ok (.ireturn, 1) → W p l e (rmH h) s m args below meth c s.heap [] 0 0 Q (F0 m pc ls [.int r])) → lv_has ls maxL (lv_args 0 av) → W p l e (rmH h) s m args below meth c s.heap [] 0 0 Q (F0 m 0 ls [])) :
    CtP G l y cc maxL ret h av Pf (some (.int r)) := by
  obtain ⟨ty, rfl, hnr⟩ := hret
  refine va_MetF (cc := cc) (maxL := maxL) (ret := some ty) hy rfl ?_
  intro p e s m args below meth c s₁ B hml hv
  obtain ⟨rfl, htb, hE, hP⟩ := hv
  have X : Cx G p (rmH h) s m av.toArray c 0 0 cc maxL y.cls h := ⟨⟨B.exec, B.bytes, hml, findClass_of_methodNamed B.named, TB_warm (State.WarmedH.refl s) htb⟩, hE, Nat.le_refl _, Nat.le_refl _, Nat.le_refl _, Nat.le_refl _⟩
  have hl := lv_entry av (n := maxL) hlen
  rw [lg_entry_eq]
  generalize (lg_sl av ++ List.replicate (maxL - (lg_sl av).length) Slot.unset).toArray = ls at hl ⊢
  have hlocks := B.notSynchronized
  refine body p e s m av.toArray below meth c _ ls X hP ?_ hl
  intro pc ls1 hd
  exact W.zret X.1.1 X.1.2.1 B.returns hnr (fun t ht hw => ⟨rfl, ht⟩) (fun _ h9 => by cases h9) hd hlocks
theorem met_Pa {v : Value} (hy : plainFor y = true) (hlen : (lg_sl av).length ≤ maxL) {rt : FieldType} (hret : ret = some rt) (hrt : (∃ n, rt = .object n) ∨ ∃ t, rt = .array t) (hv0 : v = .null ∨ ∃ a, v = .ref a)
    (body : ∀ (p : Program) (e : Env) (s : State) (m : MethodId) (args : Array Value) (below : List Frame) (meth : Method) (c : Code) (Q : State → Prop) (ls : Array Slot), Cx G p (rmH h) s m args c 0 0 cc maxL y.cls h → Pf s → (∀ (pc : Nat) (ls : Array Slot), decode cc pc = .ok (.areturn, 1) → W p l e (rmH h) s m args below meth c s.heap [] 0 0 Q (F0 m pc ls [v])) → lv_has ls maxL (lv_args 0 av) → W p l e (rmH h) s m args below meth c s.heap [] 0 0 Q (F0 m 0 ls [])) :
    CtP G l y cc maxL ret h av Pf (some v) := by
  refine va_MetF (cc := cc) (maxL := maxL) (ret := ret) hy rfl ?_
  intro p e s m args below meth c s₁ B hml hv
  obtain ⟨rfl, htb, hE, hP⟩ := hv
  have X : Cx G p (rmH h) s m av.toArray c 0 0 cc maxL y.cls h := ⟨⟨B.exec, B.bytes, hml, findClass_of_methodNamed B.named, TB_warm (State.WarmedH.refl s) htb⟩, hE, Nat.le_refl _, Nat.le_refl _, Nat.le_refl _, Nat.le_refl _⟩
  have hl := lv_entry av (n := maxL) hlen
  rw [lg_entry_eq]
  generalize (lg_sl av ++ List.replicate (maxL - (lg_sl av).length) Slot.unset).toArray = ls at hl ⊢
  have hlocks := B.notSynchronized
  refine body p e s m av.toArray below meth c _ ls X hP ?_ hl
  intro pc ls1 hd
  exact W.aret X.1.1 X.1.2.1 (B.returns.trans hret) hrt hv0 (fun t ht hw => ⟨rfl, ht⟩) (fun _ h9 => by cases h9) hd hlocks
end RO
