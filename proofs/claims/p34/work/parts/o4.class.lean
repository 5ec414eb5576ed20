/-! THE CLASS INSIDE THE LAW: its world of 609 cells at the address z -/
def subG (G : Gt) (z : Nat) : Gt := ⟨(z, gDD G, gty G, gad G, gsK G, gsV G, gsA G, fun q => z ≤ q ∧ q < z + 609), fun _ hi => ⟨Nat.le_add_right _ _, Nat.add_lt_add_left hi _⟩⟩
theorem EnvT.sub {G : Gt} {z : Nat} {U : State} {H : Heap} (hz : ∀ q, z ≤ q ∧ q < z + 609 → gA G q) (h : EnvT G U H) : EnvT (subG G z) U H := by
  obtain ⟨h1, h2, h3, h4, h5, h6, h7, h8, h9, h10, h11⟩ := h
  exact ⟨fun k hk => ⟨(h1 k hk).1.narrow hz, (h1 k hk).2.1.narrow hz, (h1 k hk).2.2.1.narrow hz, (h1 k hk).2.2.2.narrow hz⟩, h2, ⟨h3.1.narrow hz, h3.2.narrow hz⟩, ⟨h4.1.narrow hz, h4.2.narrow hz⟩, fun k hk => (h5 k hk).narrow hz, h6, h7.narrow hz, h8.narrow hz, h9.narrow hz, h10.narrow hz, h11⟩
/-- the class's cells hold the state -/
def CQ (G : Gt) (z : Nat) (σ : St) (H : Heap) : Prop := va_P (gDD (subG G z)) vwCl (wl (subG G z) σ) H ∧ z + 609 ≤ H.size
theorem CQ.kept {G : Gt} {z : Nat} {σ : St} {H H1 : Heap} (h : CQ G z σ H) (hs : H.size ≤ H1.size) (hk : ∀ q, q < H.size → z ≤ q → q < z + 609 → H1[q]? = H[q]?) : CQ G z σ H1 := by
  refine ⟨h.1.kept fun k y hy => hk y.1 ((h.1 k y hy).lt) ?_ ?_, Nat.le_trans h.2 hs⟩
  all_goals
    have h2 := (List.getElem?_eq_some_iff.mp hy).2
    have h1 := (List.getElem?_eq_some_iff.mp hy).1
    unfold wl at h1 h2
    rw [List.getElem_map, List.getElem_range] at h2
    rw [List.length_map, List.length_range] at h1
    have e : y.1 = z + k := by rw [← h2]; rfl
    have : NC = 609 := rfl
    omega
section CLS
variable {G : Gt} {p : Program} {l : Launch} {e : Env} {R : Room} {s : State} {m : MethodId} {args : Array Value} {below : List Frame} {meth : Method} {c : Code} {H : Heap} {locs : List Loc} {cells slots : Nat} {Q : State → Prop}
variable {cc bytes : ByteArray} {nL h h2 maxL n idx cells0 slots0 b z : Nat} {own C : String} {pc : Nat} {ls : Array Slot} {rest st0 : List Value} {y : MethodName} {ret : Option FieldType} {As : List Value} {ov : Option Value} {A : Nat → Prop} {σ σ' : St}
theorem cl_pre (X : Cx G p R s m args c cells0 slots0 cc nL own h) (hS : va_S A s.heap H locs) (hA : ∀ q, q < s.heap.size → A q → gA G q) (hz : ∀ q, z ≤ q ∧ q < z + 609 → gA G q) (hP : CQ G z σ H) : ∀ U : State, U.heap = H → s.WarmedH U.vm → va_Pc As (GP (subG G z) σ) As.toArray U := fun U hU hw => by
  obtain ⟨h1, h2, -, h3⟩ := X.envA hS hA hU hw
  refine ⟨rfl, h1, ⟨h2, by rw [hU]; exact Nat.le_trans (Nat.le_add_right z 609) hP.2, EnvT.sub hz h3⟩, by rw [hU]; exact hP.1⟩
theorem cl_back {a : Array Value} (hS : va_S A s.heap H locs) (hzA : ∀ q, z ≤ q ∧ q < z + 609 → A q) (hP : CQ G z σ H) (hr : va_Run p l e R s m args below meth c H locs cells slots 0 0 (F0 m pc ls st0) rest (Qx (subG G z) ov σ' a) (gA (subG G z)))
    (kk : ∀ (H1 : Heap) (locs1 : List Loc), CQ G z σ' H1 → H.size ≤ H1.size → (∀ q : Nat, q < H.size → ¬ (z ≤ q ∧ q < z + 609) → H1[q]? = H[q]?) → va_S A s.heap H1 locs1 → W p l e R s m args below meth c H1 locs1 cells slots Q (F0 m (pc + 3) ls (ov.toList ++ rest))) : W p l e R s m args below meth c H locs cells slots Q (F0 m pc ls st0) := by
  intro T hT X1
  obtain ⟨v, st₀, t, T', L, h0, X', hL, e1, e2, ⟨hv, hq, hz, hk⟩, st⟩ := hr T hT X1
  cases hv
  rw [h0] at hz hk
  have hz1 : H.size ≤ T'.heap.size := by rw [e1]; exact hz
  have hk1 : ∀ q : Nat, q < H.size → ¬ (z ≤ q ∧ q < z + 609) → T'.heap[q]? = H[q]? := fun q h1 h2 => by rw [e1]; exact hk q h1 h2
  obtain ⟨t2, a1, b1⟩ := kk T'.heap (locs ++ L) ⟨by rw [e1]; exact hq, Nat.le_trans hP.2 hz1⟩ hz1 hk1 ⟨Nat.le_trans hS.1 hz1, fun q h1 h2 => by rw [hk1 q (Nat.lt_of_lt_of_le h1 hS.1) (fun h3 => h2 (hzA q h3))]; exact hS.2.1 q h1 h2, fun q hq => by
    rcases List.mem_append.mp hq with h | h
    · exact hS.2.2 q h
    · exact hzA _ (hL q h)⟩ T' rfl X'
  exact ⟨t2, st t2 a1, b1⟩
theorem cl_recv (X : Cx G p R s m args c cells0 slots0 cc nL own h) (hP : CQ G z σ H) (hk : kC b C) : ∃ cell : Cell, H[z + b]? = some cell ∧ cell.vm.isStatics = false ∧ s.vm.findClass C = some cell.cls := by
  obtain ⟨⟨ci, fs⟩, h1, h2, h3⟩ := hk
  obtain ⟨q, hq, rfl⟩ := Option.map_eq_some_iff.mp h3
  exact va_recv (D := gDD (subG G z)) X.2.1.1 hP.1 hq (wl_ct (subG G z) h2 (h1 (subG G z) σ))
/-- a method of the class is called, from outside -/
theorem callC_V (X : Cx G p R s m args c cells0 slots0 cc nL own h) (hS : va_S A s.heap H locs) (hA : ∀ q, q < s.heap.size → A q → gA G q) (hz : ∀ q, z ≤ q ∧ q < z + 609 → gA G q) (hzA : ∀ q, z ≤ q ∧ q < z + 609 → A q) (hP : CQ G z σ H) (hk : kC b C) (lk : Cond.methodLink own idx y ∈ TB) (hin : Cond.instanceMethod y ∈ TB) (hse : Cond.selects C y y ∈ TB) (mv : MV y bytes maxL ret n) (hM : Ct (subG G z) l y bytes maxL ret h2 (.ref (z + b) :: As) σ ov σ') (hh : h2 < h) (hst : st0 = As.reverse ++ .ref (z + b) :: rest) (hn : As.length = n) (hcat : (rest.map fun v => v.category).sum ≤ 8) (hls : ls.size = nL) (hd : decode cc pc = .ok (.invokevirtual idx, 3)) (hc : cells ≤ R.cells) (hs : slots ≤ R.slots)
    (kk : ∀ (H1 : Heap) (locs1 : List Loc), CQ G z σ' H1 → H.size ≤ H1.size → (∀ q : Nat, q < H.size → ¬ (z ≤ q ∧ q < z + 609) → H1[q]? = H[q]?) → va_S A s.heap H1 locs1 → W p l e R s m args below meth c H1 locs1 cells slots Q (F0 m (pc + 3) ls (ov.toList ++ rest))) : W p l e R s m args below meth c H locs cells slots Q (F0 m pc ls st0) :=
  cl_back hS hzA hP (a := (.ref (z + b) :: As).toArray) (va_runV X.1 hM ⟨cB_of X lk mv hh, X.1.2.2.2.2 _ hin, X.1.2.2.2.2 _ hse⟩ ⟨GP_blind _ _, cl_recv X hP hk, cl_pre X hS hA hz hP⟩ rfl hn hls hst (lv_room (ls := ls) (rest := rest) (pc := pc) (m := m) hcat) hd ⟨hc, hs⟩) kk
end CLS
