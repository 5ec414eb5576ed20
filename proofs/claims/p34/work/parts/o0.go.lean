theorem m_0_9 : Cond.selects RX11 yX11_go yX11_go ∈ TB := mem_t0 9 (by decide +kernel)
theorem m_3_73 : Cond.fieldLink RX11 75 "QuestLedgerLaw$Game" "plan" "Ljava/lang/String;" ∈ TB := mem_t3 73 (by decide +kernel)
theorem m_3_74 : Cond.fieldLink RX11 80 "QuestLedgerLaw$Game" "safest" "I" ∈ TB := mem_t3 74 (by decide +kernel)
theorem m_3_75 : Cond.fieldLink RX11 20 "QuestLedgerLaw$Game" "ends" "[Z" ∈ TB := mem_t3 75 (by decide +kernel)
theorem m_3_148 : Cond.methodLink RX11 88 yX11_go ∈ TB := mem_t3 148 (by decide +kernel)
theorem m_3_150 : Cond.instanceMethod yX11_go ∈ TB := mem_t3 150 (by decide +kernel)
theorem m_3_151 : Cond.code yX11_go cX11_go 8 none ∈ TB := mem_t3 151 (by decide +kernel)
theorem m_3_152 : Cond.methodLink RX11 96 yJ0_length_8abf5 ∈ TB := mem_t3 152 (by decide +kernel)
theorem m_3_162 : Cond.methodLink RX11 101 yJ9_min_7cf53 ∈ TB := mem_t3 162 (by decide +kernel)
theorem m_3_163 : Cond.methodLink RX11 108 ⟨"[I", "clone", "()Ljava/lang/Object;"⟩ ∈ TB := mem_t3 163 (by decide +kernel)
theorem m_3_164 : Cond.sameMethod "[I" "java/lang/Object" "clone" "()Ljava/lang/Object;" ∈ TB := mem_t3 164 (by decide +kernel)
theorem m_3_167 : Cond.selects "[I" ⟨"[I", "clone", "()Ljava/lang/Object;"⟩ ⟨"java/lang/Object", "clone", "()Ljava/lang/Object;"⟩ ∈ TB := mem_t3 167 (by decide +kernel)
theorem m_3_168 : Cond.castable "[I" "java/lang/Cloneable" ∈ TB := mem_t3 168 (by decide +kernel)
theorem m_3_169 : Cond.classLink RX11 109 "[I" ∈ TB := mem_t3 169 (by decide +kernel)
theorem m_3_170 : Cond.classLink RX11 116 "java/lang/StringBuilder" ∈ TB := mem_t3 170 (by decide +kernel)
theorem m_3_171 : Cond.instantiable "java/lang/StringBuilder" 4 ∈ TB := mem_t3 171 (by decide +kernel)
theorem m_3_172 : Cond.methodLink RX11 118 yJ4_init_da8c8 ∈ TB := mem_t3 172 (by decide +kernel)
theorem m_3_173 : Cond.instanceMethod yJ4_init_da8c8 ∈ TB := mem_t3 173 (by decide +kernel)
theorem m_3_174 : Cond.code yJ4_init_da8c8 cJ4_init_da8c8 1 none ∈ TB := mem_t3 174 (by decide +kernel)
theorem m_3_201 : Cond.methodLink RX11 119 yJ4_append_15ec4 ∈ TB := mem_t3 201 (by decide +kernel)
theorem m_4_65 : Cond.methodLink RX11 123 yJ4_append_bf812 ∈ TB := mem_t4 65 (by decide +kernel)
theorem m_4_66 : Cond.instanceMethod yJ4_append_bf812 ∈ TB := mem_t4 66 (by decide +kernel)
theorem m_4_67 : Cond.selects RJ4 yJ4_append_bf812 yJ4_append_bf812 ∈ TB := mem_t4 67 (by decide +kernel)
theorem m_4_68 : Cond.code yJ4_append_bf812 cJ4_append_bf812 2 (some (.object "java/lang/StringBuilder")) ∈ TB := mem_t4 68 (by decide +kernel)
theorem m_4_90 : Cond.methodLink RX11 126 yJ4_toString_0e30d ∈ TB := mem_t4 90 (by decide +kernel)
theorem m_4_92 : Cond.selects RJ4 yJ4_toString_0e30d yJ4_toString_0e30d ∈ TB := mem_t4 92 (by decide +kernel)
theorem mv_J4_init_da8c8 : MV yJ4_init_da8c8 cJ4_init_da8c8 1 none 0 := ⟨m_3_174, by decide +kernel, m_1_6, ⟨by decide +kernel, by decide +kernel, by decide +kernel⟩, by decide⟩
theorem mv_J4_append_bf812 : MV yJ4_append_bf812 cJ4_append_bf812 2 (some (.object "java/lang/StringBuilder")) 1 := ⟨m_4_68, by decide +kernel, m_1_6, ⟨by decide +kernel, by decide +kernel, by decide +kernel⟩, by decide⟩
theorem mv_X11_go : MV yX11_go cX11_go 8 none 4 := ⟨m_3_151, by decide +kernel, m_1_1, ⟨by decide +kernel, by decide +kernel, by decide +kernel⟩, by decide⟩
/-! THE ROWS OF STEPS: go -/
theorem vp_fitI {G : Gt} {n : Nat} {f : Nat → Int32} (i : Nat) (v : Value) (h : (vp_cell (gty G 0) (n, .inl f)).slots[i]? = some v) : fits .int v = true := by
  rw [vp_cell_i] at h
  exact va_fit (fun i _ => rfl) i v h
theorem cp_minI {G : Gt} {l : Launch} {x y : Int32} {Pf : State → Prop} : CtP G l yJ9_min_7cf53 cJ9_min_7cf53 2 (some .int) 1 [.int x, .int y] Pf (some (.int (minI x y))) := by
  refine met_P (by decide +kernel) (Nat.le_of_ble_eq_true rfl) ⟨.int, rfl, rfl⟩ ?_
  intro p e s m args below meth c Q ls X hP hr hl
  have hx := X.1.1
  have hb := X.1.2.1
  have hl : lv_has ls 2 [(0, .int x), (1, .int y)] := hl
  refine lv_iload_n hx hb dJ9_min_7cf53_0 rfl (lv_at hl 0 rfl) ?_
  refine lv_iload_n hx hb dJ9_min_7cf53_1 rfl (lv_at hl 1 rfl) ?_
  refine lv_icmp_gt (tgt := 9) hx hb dJ9_min_7cf53_2 (by decide) (fun hc => ?_) (fun hc => ?_)
  · refine lv_iload_n hx hb dJ9_min_7cf53_9 rfl (lv_at hl 1 rfl) ?_
    have e : minI x y = y := by unfold minI; rw [if_pos (show x > y from hc)]
    rw [e] at hr
    exact hr _ _ dJ9_min_7cf53_10
  · refine lv_iload_n hx hb dJ9_min_7cf53_5 rfl (lv_at hl 0 rfl) ?_
    refine lv_goto (tgt := 10) hx hb dJ9_min_7cf53_6 (by decide) ?_
    have e : minI x y = x := by unfold minI; rw [if_neg (show ¬ x > y from hc)]
    rw [e] at hr
    exact hr _ _ dJ9_min_7cf53_10
/-- H1 still holds all of H -/
def Fix (H H1 : Heap) : Prop := ∀ q : Nat, q < H.size → H1[q]? = H[q]?
theorem Fix.lt {H H1 : Heap} (h : Fix H H1) {q : Nat} (hq : q < H.size) : q < H1.size := by
  have e := h q hq
  rw [Array.getElem?_eq_getElem hq] at e
  exact (Array.getElem?_eq_some_iff.mp e).1
theorem Fix.size {H H1 : Heap} (h : Fix H H1) : H.size ≤ H1.size := by
  by_cases c : H.size = 0
  · omega
  · have := h.lt (q := H.size - 1) (by omega)
    omega
theorem Fix.step {H H1 H2 : Heap} (h : Fix H H1) (o : ∀ q : Nat, q < H.size → H2[q]? = H1[q]?) : Fix H H2 := fun q hq => (o q hq).trans (h q hq)
theorem asc_app {t u : List Nat} (h1 : asc t) (h2 : asc u) : asc (t ++ u) := fun i => by
  by_cases c : i < t.length
  · have := h1 i
    rw [List.getD_eq_getElem?_getD] at this ⊢
    rw [List.getElem?_append_left c]
    exact this
  · have := h2 (i - t.length)
    rw [List.getD_eq_getElem?_getD] at this ⊢
    rw [List.getElem?_append_right (by omega)]
    exact this
theorem c_R {h mc ms x : Nat} (q : x ≤ mc) : x ≤ (rmC h mc ms).cells := q
theorem s_R {h mc ms x : Nat} (q : x ≤ ms) : x ≤ (rmC h mc ms).slots := q
def FRG (G : Gm) : Nat → Prop := fun q => q = ga G 1000 ∨ q = ga G 1003
def PfG (G : Gm) (σ : St) (pl : Option (List Nat)) (a bt : Nat) (t : List Nat) (U : State) : Prop := PG G σ U.heap ∧ SF a bt t U U.heap ∧ PLx G pl (gp G) U U.heap ∧ EnvD (gB G) U
def QfG (G : Gm) (σ' : St) (pl : Option (List Nat)) (a : Nat) (t : List Nat) (sz : Nat) (pl' : Option (List Nat)) (ov : Option Value) (H : Heap) : Prop := ov = none ∧ ∃ v, PG (G.pl v) σ' H ∧ PLq G pl a t sz pl' v H
def GoC (l : Launch) (n d : Nat) : Prop := ∀ (G : Gm) (σ σ' : St) (pl pl' : Option (List Nat)) (a bt sz b : Nat) (t : List Nat) (set risk : Int32), gn G = n → goW n d t set b risk pl σ = some (pl', σ') → AllA (gB G) → kv G b = 22 → asc t → t.length + 4 * d ≤ 24 → (a ≠ ga G 1000 ∧ a ≠ ga G 1003 ∧ bt ≠ ga G 1000 ∧ bt ≠ ga G 1003) → CtH (gB G) l yX11_go cX11_go 8 none (8 + d) (mcg d) (msg d) [.ref (ga G 1000), .ref a, .int set, .ref (ga G b), .int risk] sz (FRG G) (PfG G σ pl a bt t) (QfG G σ' pl a t sz pl')
theorem PLx.mv {G : Gm} {pl : Option (List Nat)} {v : Value} : Mv fun U => PLx G pl v U U.heap := fun U V hv hh q => by
  rcases q with q | ⟨a, b, p, h1, h2, h3, h4⟩
  · exact Or.inl q
  · exact Or.inr ⟨a, b, p, h1, h2, by show SF a b p V V.heap; rw [hh]; exact h3.moved hv, h4⟩
theorem PfG.mv {G : Gm} {σ : St} {pl : Option (List Nat)} {a bt : Nat} {t : List Nat} : Mv (PfG G σ pl a bt t) := Mv.and (Mv.h fun H => PG G σ H) (Mv.and SF.mv (Mv.and PLx.mv EnvD.mv))
theorem PLx.moved {G : Gm} {pl : Option (List Nat)} {v : Value} {u U : State} {H : Heap} (h : PLx G pl v u H) (hv : u.vm.Alike U.vm) : PLx G pl v U H := by
  rcases h with h | ⟨a, b, p, h1, h2, h3, h4⟩
  · exact Or.inl h
  · exact Or.inr ⟨a, b, p, h1, h2, h3.moved hv, h4⟩
theorem PLx.has {G G2 : Gm} {pl : Option (List Nat)} {v : Value} {U : State} {H : Heap} (h : PLx G pl v U H) (e1 : ga G2 1000 = ga G 1000) (e3 : ga G2 1003 = ga G 1003) : PLx G2 pl v U H := by
  unfold PLx at h ⊢
  rw [e1, e3]
  exact h
/-- the plan that stands while a row goes on, against the one at its start -/
def PLc (G : Gm) (pl0 : Option (List Nat)) (sz : Nat) (pl : Option (List Nat)) (v : Value) (H : Heap) : Prop := (pl = pl0 ∧ v = gp G) ∨ ∃ (a' b' : Nat) (p : List Nat), pl = some p ∧ v = .ref a' ∧ ST (gB G) a' b' p H ∧ p.length ≤ 100 ∧ sz ≤ a' ∧ sz ≤ b'
theorem PLc.kept {G : Gm} {pl0 pl : Option (List Nat)} {sz : Nat} {v : Value} {H H1 : Heap} (h : PLc G pl0 sz pl v H) (hk : ∀ q, q < H.size → sz ≤ q → H1[q]? = H[q]?) : PLc G pl0 sz pl v H1 := by
  rcases h with h | ⟨a, b, p, h1, h2, h3, h4, h5, h6⟩
  · exact Or.inl h
  · exact Or.inr ⟨a, b, p, h1, h2, h3.kept (hk a h3.lt.1 h5) (hk b h3.lt.2 h6), h4, h5, h6⟩
theorem PLx.kept {G : Gm} {pl : Option (List Nat)} {v : Value} {U : State} {H H1 : Heap} (h : PLx G pl v U H) (hk : ∀ q, q < H.size → q ≠ ga G 1000 → q ≠ ga G 1003 → H1[q]? = H[q]?) : PLx G pl v U H1 := by
  rcases h with h | ⟨a, b, p, h1, h2, h3, h4, h5, h6, h7, h8⟩
  · exact Or.inl h
  · exact Or.inr ⟨a, b, p, h1, h2, h3.kept (hk a h3.lt.1 h5 h6) (hk b h3.lt.2 h7 h8), h4, h5, h6, h7, h8⟩
theorem PLx.go {G : Gm} {p0 : Program} {m : MethodId} {R : Room} {s : State} {args : Array Value} {c : Code} {cc : ByteArray} {n1 n2 nL h : Nat} {own : String} {q a b sz : Nat} {pl pl1 : Option (List Nat)} {v v6 : Value} {t : List Nat} {H : Heap} (X : Cx (gB G) p0 R s m args c n1 n2 cc nL own h) (hq : PLq ((G.pl v).has q) pl a t sz pl1 v6 H) (h1 : PLx G pl v s H) (h2 : ST (gB G) a b t H) (hl : t.length ≤ 100) (g0 : ga G 1000 < sz) (g3 : ga G 1003 < sz) (ha : sz ≤ a ∨ (a ≠ ga G 1000 ∧ a ≠ ga G 1003)) (hb : sz ≤ b ∨ (b ≠ ga G 1000 ∧ b ≠ ga G 1003)) (hz : True) : PLx G pl1 v6 s H := by
  have sf := fun {a b : Nat} {t : List Nat} (h : ST (gB G) a b t H) => ST.SF X.2.1.1 (TB_warm (State.WarmedH.refl s) X.1.2.2.2.2) h
  rcases hq with ⟨rfl, e⟩ | ⟨rfl, rfl⟩ | ⟨a', b', p, rfl, rfl, h3, h4, h5, h6⟩
  · have e2 : v6 = v := e
    rw [e2]
    exact h1
  · exact Or.inr ⟨a, b, t, rfl, rfl, sf h2, hl, by omega, by omega, by omega, by omega⟩
  · exact Or.inr ⟨a', b', p, rfl, rfl, sf h3, h4, by omega, by omega, by omega, by omega⟩
theorem PLc.go {G : Gm} {q a b sz sz2 : Nat} {pl0 pl pl1 : Option (List Nat)} {v v6 : Value} {t : List Nat} {H : Heap} (hq : PLq ((G.pl v).has q) pl a t sz2 pl1 v6 H) (h1 : PLc G pl0 sz pl v H) (h2 : ST (gB G) a b t H) (hl : t.length ≤ 100) (ha : sz ≤ a) (hb : sz ≤ b) (hz : sz ≤ sz2) : PLc G pl0 sz pl1 v6 H := by
  rcases hq with ⟨rfl, e⟩ | ⟨rfl, rfl⟩ | ⟨a', b', p, rfl, rfl, h3, h4, h5, h6⟩
  · have e2 : v6 = v := e
    rw [e2]
    exact h1
  · exact Or.inr ⟨a, b, t, rfl, rfl, h2, hl, ha, hb⟩
  · exact Or.inr ⟨a', b', p, rfl, rfl, h3, h4, by omega, by omega⟩
set_option maxHeartbeats 8000000 in
theorem go_loop {G : Gm} {l : Launch} {d : Nat} {p : Program} {e : Env} {s : State} {m : MethodId} {args : Array Value} {below : List Frame} {meth : Method} {c : Code} {Q : State → Prop} {a bt sz b : Nat} {t : List Nat} {set risk : Int32} {pl0 plF : Option (List Nat)} {σF : St} {mc1 ms1 ks : Nat} (hmc : mc1 = 4 * (mcg d + 8)) (hms : ms1 = 4 * (msg d + ks)) (hks : ks = 300)
    (X : Cx (gB G) p (rmC (8 + (d + 1)) mc1 ms1) s m args c 0 0 cX11_go 8 yX11_go.cls (8 + (d + 1))) (hsz : s.heap.size = sz) (hG : AllA (gB G)) (hkb : kv G b = 22) (hasc : asc t) (hlen : t.length + 4 * (d + 1) ≤ 24)
    (hw : a ≠ ga G 1000 ∧ a ≠ ga G 1003 ∧ bt ≠ ga G 1000 ∧ bt ≠ ga G 1003) (hglt : ∀ i, kv G i ≠ 99 → ga G i < sz) (hgn : gn G ≤ 4) (hA : ∀ q, q < s.heap.size → frA (FRG G) sz q → gA (gB G) q) (hrec : GoC l (gn G) d) (hD : EnvD (gB G) s)
    (hr : R_H p l e (rmC (8 + (d + 1)) mc1 ms1) s m args below meth c cX11_go Q (frA (FRG G) sz) mc1 ms1 (QfG G σF pl0 a t sz plF) .return_ none) :
    ∀ (j k : Nat), k + j = gn G → ∀ (pl : Option (List Nat)) (v : Value) (σ : St) (H : Heap) (locs : List Loc) (cells slots : Nat) (ls : Array Slot), goL (fun t set risk pl σ => goW (gn G) d t set 1100 risk pl σ) t set b risk j k pl σ = some (plF, σF) → PG (G.pl v) σ H → SF a bt t s H → PLx G pl v s H → PLc G pl0 sz pl v H → va_S (frA (FRG G) sz) s.heap H locs → cells ≤ k * (mcg d + 8) → slots ≤ k * (msg d + ks) → lv_has ls 8 [(0, .ref (ga G 1000)), (1, .ref a), (2, .int set), (3, .ref (ga G b)), (4, .int risk), (5, .int (nI k))] → W p l e (rmC (8 + (d + 1)) mc1 ms1) s m args below meth c H locs cells slots Q (F0 m 58 ls []) := by
  have hx := X.1.1
  have hb := X.1.2.1
  have hg0 := hglt 1000 (by rw [kv_1000]; decide)
  have hg3 := hglt 1003 (by rw [kv_1003]; decide)
  have hgsz : gz (gB G) ≤ sz := by rw [← hsz]; exact X.2.1.2.1
  intro j
  induction j with
  | zero =>
    intro k hk pl v σ H locs cells slots ls h hPG g0 hx1 hx2 hS hc1 hc2 hl
    have Xv : Cx (gB (G.pl v)) p (rmC (8 + (d + 1)) mc1 ms1) s m args c 0 0 cX11_go 8 yX11_go.cls (8 + (d + 1)) := X
    have hgnv : gn (G.pl v) = gn G := rfl
    have hk : k = gn G := by omega
    have hm : k * (mcg d + 8) ≤ 4 * (mcg d + 8) := Nat.mul_le_mul_right _ (by omega)
    have hm2 : k * (msg d + ks) ≤ 4 * (msg d + ks) := Nat.mul_le_mul_right _ (by omega)
    refine lv_iload hx hb dX11_go_58 (lv_at hl 5 rfl) ?_
    refine lv_aload_n hx hb dX11_go_60 rfl (lv_at hl 0 rfl) ?_
    refine gg_X11_steps (G := G.pl v) Xv hPG (kv_1000 _) m_3_62 dX11_go_61 ?_
    refine gw_size (G := G.pl v) Xv hPG hS hA m_3_119 (by omega) (Nat.le_of_ble_eq_true rfl) hl.1 dX11_go_64 (c_R (by omega)) (s_R (by omega)) ?_
    refine lv_icmp_ge (tgt := 208) hx hb dX11_go_67 (by decide) (fun _ => ?_) (fun hc => absurd (by rw [hk]; exact Int32.le_refl _) hc)
    obtain ⟨rfl, rfl⟩ : pl = plF ∧ σ = σF := by unfold goL at h; cases h; exact ⟨rfl, rfl⟩
    exact hr _ _ _ _ _ _ dX11_go_208 ⟨rfl, v, hPG, by rcases hx2 with q | q; exact Or.inl q; exact Or.inr (Or.inr q)⟩ hS (by omega) (by omega)
  | succ j ih =>
    intro k hk pl v σ H locs cells slots ls h hPG g0 hx1 hx2 hS hc1 hc2 hl
    have Xv : Cx (gB (G.pl v)) p (rmC (8 + (d + 1)) mc1 ms1) s m args c 0 0 cX11_go 8 yX11_go.cls (8 + (d + 1)) := X
    have hgnv : gn (G.pl v) = gn G := rfl
    have hkn : k < gn G := by omega
    have hm : (k + 1) * (mcg d + 8) ≤ 4 * (mcg d + 8) := Nat.mul_le_mul_right _ (by omega)
    have hm2 : (k + 1) * (msg d + ks) ≤ 4 * (msg d + ks) := Nat.mul_le_mul_right _ (by omega)
    have hm3 : (k + 1) * (mcg d + 8) = k * (mcg d + 8) + (mcg d + 8) := Nat.succ_mul _ _
    have hm4 : (k + 1) * (msg d + ks) = k * (msg d + ks) + (msg d + ks) := Nat.succ_mul _ _
    have hk25 : kv (G.pl v) (1005 + 4 * k) = 25 := kv_stN hkn hgn
    have hkb1 : kv (G.pl v) b = 22 := hkb
    unfold goL at h
    obtain ⟨r0, hr0, h⟩ := Option.bind_eq_some_iff.mp h
    refine lv_iload hx hb dX11_go_58 (lv_at hl 5 rfl) ?_
    refine lv_aload_n hx hb dX11_go_60 rfl (lv_at hl 0 rfl) ?_
    refine gg_X11_steps (G := G.pl v) Xv hPG (kv_1000 _) m_3_62 dX11_go_61 ?_
    refine gw_size (G := G.pl v) Xv hPG hS hA m_3_119 (by omega) (Nat.le_of_ble_eq_true rfl) hl.1 dX11_go_64 (c_R (by omega)) (s_R (by omega)) ?_
    refine lv_icmp_ge (tgt := 208) hx hb dX11_go_67 (by decide) (fun hc => absurd hc (nI_ge hkn (by omega))) (fun _ => ?_)
    refine lv_aload_n hx hb dX11_go_70 rfl (lv_at hl 0 rfl) ?_
    refine lv_iload hx hb dX11_go_71 (lv_at hl 5 rfl) ?_
    refine lv_iload_n hx hb dX11_go_73 rfl (lv_at hl 2 rfl) ?_
    refine lv_aload_n hx hb dX11_go_74 rfl (lv_at hl 3 rfl) ?_
    refine callP_V (r := (RX11, TX11, 9)) (As := [.int (nI k), .int set, .ref (ga G b)]) Xv hS hA (Mv.h fun H => PG (G.pl v) σ H) (fun U hU _ => by rw [hU]; exact hPG) (hPG.a20 (kv_1000 _)) rfl m_3_123 m_3_124 m_3_125 mv_X11_can (cr_X11_can (G := G.pl v) (kv_1000 _) hkb1 hr0) (by omega) rfl rfl (Nat.le_of_ble_eq_true rfl) hl.1 dX11_go_75 (c_R (by omega)) (s_R (by omega)) ?_
    refine lv_if_ne (tgt := 84) hx hb dX11_go_78 (by decide) (fun hc => ?_) (fun hc => ?_)
    rotate_left
    · rw [if_pos hc] at h
      refine lv_goto (tgt := 202) hx hb dX11_go_81 (by decide) ?_
      refine lv_iinc (lv' := [(5, .int (nI (k + 1))), (0, .ref (ga G 1000)), (1, .ref a), (2, .int set), (3, .ref (ga G b)), (4, .int risk)]) (k := 5) hx hb dX11_go_202 hl rfl (nI_1 k) (by decide) rfl ?_
      clear hl; intro ls hl
      refine lv_goto (tgt := 58) hx hb dX11_go_205 (by decide) ?_
      exact ih (k + 1) (by omega) pl v σ H locs cells slots ls h hPG g0 hx1 hx2 hS (by omega) (by omega) (lv_sub hl [1, 2, 3, 4, 5, 0] rfl)
    · rw [if_neg hc] at h
      obtain ⟨⟨pl1, σ1⟩, h1, h⟩ := Option.bind_eq_some_iff.mp h
      obtain ⟨w1, w2, w3, w4⟩ := hw
      have hb0 := hPG.a22 hkb1
      have hgb := hglt b (by rw [hkb]; decide)
      have hfix : Fix H H := fun q _ => rfl
      refine lv_aload_n hx hb dX11_go_84 rfl (lv_at hl 3 rfl) ?_
      refine p_clone (t := 0) (ad := "[I") X hb0 rfl (va_nm_int (X.2.1.1.2 0 _ rfl).2) m_3_163 m_3_164 m_3_165 m_3_166 m_3_167 m_3_168 vp_fitI (by omega) (Nat.le_of_ble_eq_true rfl) hl.1 (c_R (by omega)) (s_R (by omega)) dX11_go_85 fun H2 nH2 zH2 oH2 => ?_
      have lq1_g0_0 := g0.lt.1
      have lq1_g0_1 := g0.lt.2
      have lq1_hb0_0 := hb0.lt
      have lq1_hfix_0 := hfix.size
      have lq1_0 := hS.1
      replace hPG := hPG.kept (fun i hi => oH2 _ (by have : ga (G.pl v) i < sz := hglt i hi; omega))
      replace g0 := g0.kept (oH2 _ lq1_g0_0) (oH2 _ lq1_g0_1)
      replace hb0 := hb0.kept (oH2 _ lq1_hb0_0)
      replace hfix := hfix.step (fun q hq => oH2 q (hfix.lt hq))
      replace hS := hS.new zH2 oH2
      clear oH2
      generalize hq_q1 : Array.size H = q1 at nH2 zH2 lq1_0 lq1_g0_0 lq1_g0_1 lq1_hb0_0 lq1_hfix_0 ⊢
      have fa3 : va_at (gDD (gB G)) vwCl (q1, .inl (gty (gB G) 0, 3, .inl (gI σ b))) H2 := nH2
      clear nH2
      refine p_casta (t := 0) (ad := "[I") X fa3 (va_nm_int (X.2.1.1.2 0 _ rfl).2) m_3_169 dX11_go_88 ?_
      clear hb0
      refine lv_astore (lv' := [(6, .ref q1), (0, .ref (ga G 1000)), (1, .ref a), (2, .int set), (3, .ref (ga G b)), (4, .int risk), (5, .int (nI k))]) hx hb dX11_go_91 hl (by decide) rfl ?_
      clear hl; intro ls hl
      refine lv_iconst (v := 0) hx hb dX11_go_93 (by decide) ?_
      refine lv_istore (lv' := [(7, .int 0), (6, .ref q1), (0, .ref (ga G 1000)), (1, .ref a), (2, .int set), (3, .ref (ga G b)), (4, .int risk), (5, .int (nI k))]) hx hb dX11_go_94 hl (by decide) rfl ?_
      clear hl; intro ls hl
      refine lv_iload hx hb dX11_go_96 (lv_at hl 0 rfl) ?_
      refine lv_iconst (v := 3) hx hb dX11_go_98 (by decide) ?_
      refine lv_icmp_ge (tgt := 153) hx hb dX11_go_99 (by decide) (fun hc => absurd hc (by decide)) (fun _ => ?_)
      refine lv_aload hx hb dX11_go_102 (lv_at hl 1 rfl) ?_
      refine lv_iload hx hb dX11_go_104 (lv_at hl 0 rfl) ?_
      refine lv_dup2_11 hx hb dX11_go_106 rfl rfl ?_
      refine p_iald (t := 0) X fa3 rfl (by unfold vp_in; decide) dX11_go_107 ?_
      refine lv_aload_n hx hb dX11_go_108 rfl (lv_at hl 2 rfl) ?_
      refine gg_X11_steps (G := G.pl v) Xv hPG (kv_1000 _) m_3_62 dX11_go_109 ?_
      refine lv_iload hx hb dX11_go_112 (lv_at hl 7 rfl) ?_
      refine gw_get (G := G.pl v) (k := k) Xv hPG hS hA hkn m_3_100 (by omega) (Nat.le_of_ble_eq_true rfl) hl.1 dX11_go_114 (c_R (by omega)) (s_R (by omega)) ?_
      refine rg_cast (G := G.pl v) Xv hPG hk25 m_3_114 dX11_go_117 ?_
      refine gg_X12_gives (G := G.pl v) Xv hPG hk25 m_5_133 dX11_go_120 ?_
      refine lv_iload hx hb dX11_go_123 (lv_at hl 0 rfl) ?_
      refine rg_iald (G := G.pl v) (i := 1005 + 4 * k + 3) Xv hPG (kv_s3 hk25) (by unfold vp_in; decide) dX11_go_125 ?_
      refine lv_aload_n hx hb dX11_go_126 rfl (lv_at hl 2 rfl) ?_
      refine gg_X11_steps (G := G.pl v) Xv hPG (kv_1000 _) m_3_62 dX11_go_127 ?_
      refine lv_iload hx hb dX11_go_130 (lv_at hl 7 rfl) ?_
      refine gw_get (G := G.pl v) (k := k) Xv hPG hS hA hkn m_3_100 (by omega) (Nat.le_of_ble_eq_true rfl) hl.1 dX11_go_132 (c_R (by omega)) (s_R (by omega)) ?_
      refine rg_cast (G := G.pl v) Xv hPG hk25 m_3_114 dX11_go_135 ?_
      refine gg_X12_uses (G := G.pl v) Xv hPG hk25 m_5_127 dX11_go_138 ?_
      refine lv_iload hx hb dX11_go_141 (lv_at hl 0 rfl) ?_
      refine rg_iald (G := G.pl v) (i := 1005 + 4 * k + 1) Xv hPG (kv_s1 hk25) (by unfold vp_in; decide) dX11_go_143 ?_
      refine lv_isub hx hb dX11_go_144 ?_
      refine lv_iadd hx hb dX11_go_145 ?_
      refine p_iast (t := 0) X fa3 rfl (by unfold vp_in; decide) dX11_go_146 fun H4 kH4 nH4 zH4 oH4 => ?_
      replace hPG := hPG.kept (fun i hi => oH4 _ (by have : ga (G.pl v) i < sz := hglt i hi; omega))
      replace g0 := g0.kept (oH4 _ (by omega)) (oH4 _ (by omega))
      replace hfix := hfix.step (fun q hq => oH4 q (by omega))
      replace hS := hS.put (k := kH4) zH4 oH4 (Or.inr (by omega))
      replace fa3 : va_at (gDD (gB G)) vwCl (q1, .inl (gty (gB G) 0, 3, .inl (upd (gI σ b) 0 (((gI σ b) 0) + ((gI σ (1005 + 4 * k + 3) 0) - (gI σ (1005 + 4 * k + 1) 0)))))) H4 := nH4
      clear zH4 oH4 nH4
      refine lv_iinc (lv' := [(7, .int 1), (6, .ref q1), (0, .ref (ga G 1000)), (1, .ref a), (2, .int set), (3, .ref (ga G b)), (4, .int risk), (5, .int (nI k))]) (k := 0) hx hb dX11_go_147 hl rfl (by decide) (by decide) rfl ?_
      clear hl; intro ls hl
      refine lv_goto (tgt := 96) hx hb dX11_go_150 (by decide) ?_
      refine lv_iload hx hb dX11_go_96 (lv_at hl 0 rfl) ?_
      refine lv_iconst (v := 3) hx hb dX11_go_98 (by decide) ?_
      refine lv_icmp_ge (tgt := 153) hx hb dX11_go_99 (by decide) (fun hc => absurd hc (by decide)) (fun _ => ?_)
      refine lv_aload hx hb dX11_go_102 (lv_at hl 1 rfl) ?_
      refine lv_iload hx hb dX11_go_104 (lv_at hl 0 rfl) ?_
      refine lv_dup2_11 hx hb dX11_go_106 rfl rfl ?_
      refine p_iald (t := 0) X fa3 rfl (by unfold vp_in; decide) dX11_go_107 ?_
      refine lv_aload_n hx hb dX11_go_108 rfl (lv_at hl 2 rfl) ?_
      refine gg_X11_steps (G := G.pl v) Xv hPG (kv_1000 _) m_3_62 dX11_go_109 ?_
      refine lv_iload hx hb dX11_go_112 (lv_at hl 7 rfl) ?_
      refine gw_get (G := G.pl v) (k := k) Xv hPG hS hA hkn m_3_100 (by omega) (Nat.le_of_ble_eq_true rfl) hl.1 dX11_go_114 (c_R (by omega)) (s_R (by omega)) ?_
      refine rg_cast (G := G.pl v) Xv hPG hk25 m_3_114 dX11_go_117 ?_
      refine gg_X12_gives (G := G.pl v) Xv hPG hk25 m_5_133 dX11_go_120 ?_
      refine lv_iload hx hb dX11_go_123 (lv_at hl 0 rfl) ?_
      refine rg_iald (G := G.pl v) (i := 1005 + 4 * k + 3) Xv hPG (kv_s3 hk25) (by unfold vp_in; decide) dX11_go_125 ?_
      refine lv_aload_n hx hb dX11_go_126 rfl (lv_at hl 2 rfl) ?_
      refine gg_X11_steps (G := G.pl v) Xv hPG (kv_1000 _) m_3_62 dX11_go_127 ?_
      refine lv_iload hx hb dX11_go_130 (lv_at hl 7 rfl) ?_
      refine gw_get (G := G.pl v) (k := k) Xv hPG hS hA hkn m_3_100 (by omega) (Nat.le_of_ble_eq_true rfl) hl.1 dX11_go_132 (c_R (by omega)) (s_R (by omega)) ?_
      refine rg_cast (G := G.pl v) Xv hPG hk25 m_3_114 dX11_go_135 ?_
      refine gg_X12_uses (G := G.pl v) Xv hPG hk25 m_5_127 dX11_go_138 ?_
      refine lv_iload hx hb dX11_go_141 (lv_at hl 0 rfl) ?_
      refine rg_iald (G := G.pl v) (i := 1005 + 4 * k + 1) Xv hPG (kv_s1 hk25) (by unfold vp_in; decide) dX11_go_143 ?_
      refine lv_isub hx hb dX11_go_144 ?_
      refine lv_iadd hx hb dX11_go_145 ?_
      refine p_iast (t := 0) X fa3 rfl (by unfold vp_in; decide) dX11_go_146 fun H5 kH5 nH5 zH5 oH5 => ?_
      replace hPG := hPG.kept (fun i hi => oH5 _ (by have : ga (G.pl v) i < sz := hglt i hi; omega))
      replace g0 := g0.kept (oH5 _ (by omega)) (oH5 _ (by omega))
      replace hfix := hfix.step (fun q hq => oH5 q (by omega))
      replace hS := hS.put (k := kH5) zH5 oH5 (Or.inr (by omega))
      replace fa3 : va_at (gDD (gB G)) vwCl (q1, .inl (gty (gB G) 0, 3, .inl (upd (upd (gI σ b) 0 (((gI σ b) 0) + ((gI σ (1005 + 4 * k + 3) 0) - (gI σ (1005 + 4 * k + 1) 0)))) 1 (((upd (gI σ b) 0 (((gI σ b) 0) + ((gI σ (1005 + 4 * k + 3) 0) - (gI σ (1005 + 4 * k + 1) 0)))) 1) + ((gI σ (1005 + 4 * k + 3) 1) - (gI σ (1005 + 4 * k + 1) 1)))))) H5 := nH5
      clear zH5 oH5 nH5
      refine lv_iinc (lv' := [(7, .int 2), (6, .ref q1), (0, .ref (ga G 1000)), (1, .ref a), (2, .int set), (3, .ref (ga G b)), (4, .int risk), (5, .int (nI k))]) (k := 0) hx hb dX11_go_147 hl rfl (by decide) (by decide) rfl ?_
      clear hl; intro ls hl
      refine lv_goto (tgt := 96) hx hb dX11_go_150 (by decide) ?_
      refine lv_iload hx hb dX11_go_96 (lv_at hl 0 rfl) ?_
      refine lv_iconst (v := 3) hx hb dX11_go_98 (by decide) ?_
      refine lv_icmp_ge (tgt := 153) hx hb dX11_go_99 (by decide) (fun hc => absurd hc (by decide)) (fun _ => ?_)
      refine lv_aload hx hb dX11_go_102 (lv_at hl 1 rfl) ?_
      refine lv_iload hx hb dX11_go_104 (lv_at hl 0 rfl) ?_
      refine lv_dup2_11 hx hb dX11_go_106 rfl rfl ?_
      refine p_iald (t := 0) X fa3 rfl (by unfold vp_in; decide) dX11_go_107 ?_
      refine lv_aload_n hx hb dX11_go_108 rfl (lv_at hl 2 rfl) ?_
      refine gg_X11_steps (G := G.pl v) Xv hPG (kv_1000 _) m_3_62 dX11_go_109 ?_
      refine lv_iload hx hb dX11_go_112 (lv_at hl 7 rfl) ?_
      refine gw_get (G := G.pl v) (k := k) Xv hPG hS hA hkn m_3_100 (by omega) (Nat.le_of_ble_eq_true rfl) hl.1 dX11_go_114 (c_R (by omega)) (s_R (by omega)) ?_
      refine rg_cast (G := G.pl v) Xv hPG hk25 m_3_114 dX11_go_117 ?_
      refine gg_X12_gives (G := G.pl v) Xv hPG hk25 m_5_133 dX11_go_120 ?_
      refine lv_iload hx hb dX11_go_123 (lv_at hl 0 rfl) ?_
      refine rg_iald (G := G.pl v) (i := 1005 + 4 * k + 3) Xv hPG (kv_s3 hk25) (by unfold vp_in; decide) dX11_go_125 ?_
      refine lv_aload_n hx hb dX11_go_126 rfl (lv_at hl 2 rfl) ?_
      refine gg_X11_steps (G := G.pl v) Xv hPG (kv_1000 _) m_3_62 dX11_go_127 ?_
      refine lv_iload hx hb dX11_go_130 (lv_at hl 7 rfl) ?_
      refine gw_get (G := G.pl v) (k := k) Xv hPG hS hA hkn m_3_100 (by omega) (Nat.le_of_ble_eq_true rfl) hl.1 dX11_go_132 (c_R (by omega)) (s_R (by omega)) ?_
      refine rg_cast (G := G.pl v) Xv hPG hk25 m_3_114 dX11_go_135 ?_
      refine gg_X12_uses (G := G.pl v) Xv hPG hk25 m_5_127 dX11_go_138 ?_
      refine lv_iload hx hb dX11_go_141 (lv_at hl 0 rfl) ?_
      refine rg_iald (G := G.pl v) (i := 1005 + 4 * k + 1) Xv hPG (kv_s1 hk25) (by unfold vp_in; decide) dX11_go_143 ?_
      refine lv_isub hx hb dX11_go_144 ?_
      refine lv_iadd hx hb dX11_go_145 ?_
      refine p_iast (t := 0) X fa3 rfl (by unfold vp_in; decide) dX11_go_146 fun H6 kH6 nH6 zH6 oH6 => ?_
      replace hPG := hPG.kept (fun i hi => oH6 _ (by have : ga (G.pl v) i < sz := hglt i hi; omega))
      replace g0 := g0.kept (oH6 _ (by omega)) (oH6 _ (by omega))
      replace hfix := hfix.step (fun q hq => oH6 q (by omega))
      replace hS := hS.put (k := kH6) zH6 oH6 (Or.inr (by omega))
      replace fa3 : va_at (gDD (gB G)) vwCl (q1, .inl (gty (gB G) 0, 3, .inl (upd (upd (upd (gI σ b) 0 (((gI σ b) 0) + ((gI σ (1005 + 4 * k + 3) 0) - (gI σ (1005 + 4 * k + 1) 0)))) 1 (((upd (gI σ b) 0 (((gI σ b) 0) + ((gI σ (1005 + 4 * k + 3) 0) - (gI σ (1005 + 4 * k + 1) 0)))) 1) + ((gI σ (1005 + 4 * k + 3) 1) - (gI σ (1005 + 4 * k + 1) 1)))) 2 (((upd (upd (gI σ b) 0 (((gI σ b) 0) + ((gI σ (1005 + 4 * k + 3) 0) - (gI σ (1005 + 4 * k + 1) 0)))) 1 (((upd (gI σ b) 0 (((gI σ b) 0) + ((gI σ (1005 + 4 * k + 3) 0) - (gI σ (1005 + 4 * k + 1) 0)))) 1) + ((gI σ (1005 + 4 * k + 3) 1) - (gI σ (1005 + 4 * k + 1) 1)))) 2) + ((gI σ (1005 + 4 * k + 3) 2) - (gI σ (1005 + 4 * k + 1) 2)))))) H6 := nH6
      clear zH6 oH6 nH6
      refine lv_iinc (lv' := [(7, .int 3), (6, .ref q1), (0, .ref (ga G 1000)), (1, .ref a), (2, .int set), (3, .ref (ga G b)), (4, .int risk), (5, .int (nI k))]) (k := 0) hx hb dX11_go_147 hl rfl (by decide) (by decide) rfl ?_
      clear hl; intro ls hl
      refine lv_goto (tgt := 96) hx hb dX11_go_150 (by decide) ?_
      refine lv_iload hx hb dX11_go_96 (lv_at hl 0 rfl) ?_
      refine lv_iconst (v := 3) hx hb dX11_go_98 (by decide) ?_
      refine lv_icmp_ge (tgt := 153) hx hb dX11_go_99 (by decide) (fun _ => ?_) (fun hc => absurd (by decide) hc)
      have hth : upd (upd (upd (gI σ b) 0 (((gI σ b) 0) + ((gI σ (1005 + 4 * k + 3) 0) - (gI σ (1005 + 4 * k + 1) 0)))) 1 (((upd (gI σ b) 0 (((gI σ b) 0) + ((gI σ (1005 + 4 * k + 3) 0) - (gI σ (1005 + 4 * k + 1) 0)))) 1) + ((gI σ (1005 + 4 * k + 3) 1) - (gI σ (1005 + 4 * k + 1) 1)))) 2 (((upd (upd (gI σ b) 0 (((gI σ b) 0) + ((gI σ (1005 + 4 * k + 3) 0) - (gI σ (1005 + 4 * k + 1) 0)))) 1 (((upd (gI σ b) 0 (((gI σ b) 0) + ((gI σ (1005 + 4 * k + 3) 0) - (gI σ (1005 + 4 * k + 1) 0)))) 1) + ((gI σ (1005 + 4 * k + 3) 1) - (gI σ (1005 + 4 * k + 1) 1)))) 2) + ((gI σ (1005 + 4 * k + 3) 2) - (gI σ (1005 + 4 * k + 1) 2))) = thenF σ b k := rfl
      rw [hth] at fa3
      refine lv_aload_n hx hb dX11_go_153 rfl (lv_at hl 2 rfl) ?_
      refine p_new (ci := 13) (fs := [.null, .int 0, .int 0, .int 0]) X inTB_SB tyJ4 tyJ4_ok rfl (by decide +kernel) m_3_170 m_3_171 m_1_6 (c_R (by omega)) (s_R (by omega)) dX11_go_154 fun H8 nH8 zH8 oH8 => ?_
      have lq7_g0_0 := g0.lt.1
      have lq7_g0_1 := g0.lt.2
      have lq7_hfix_0 := hfix.size
      have lq7_fa3_0 := fa3.lt
      have lq7_0 := hS.1
      replace hPG := hPG.kept (fun i hi => oH8 _ (by have : ga (G.pl v) i < sz := hglt i hi; omega))
      replace g0 := g0.kept (oH8 _ lq7_g0_0) (oH8 _ lq7_g0_1)
      replace hfix := hfix.step (fun q hq => oH8 q (hfix.lt hq))
      replace fa3 := fa3.kept (oH8 _ lq7_fa3_0)
      replace hS := hS.new zH8 oH8
      clear oH8
      generalize hq_q7 : Array.size H6 = q7 at nH8 zH8 lq7_0 lq7_g0_0 lq7_g0_1 lq7_hfix_0 lq7_fa3_0 ⊢
      have fo9 : va_at (gDD (gB G)) vwCl (q7, .inr (13, [.null, .int 0, .int 0, .int 0])) H8 := nH8
      clear nH8
      refine lv_dup hx hb dX11_go_157 rfl ?_
      refine callH_I (As := []) X hS hA (Mv.h _) (fun U hU hv => by rw [hU]; exact fo9) (fun q h9 => by simp only [frA, false_or] at h9 ⊢; have := hS.1; omega) m_3_172 m_3_173 mv_J4_init_da8c8 rfl (ch_SBinit hG (by omega)) (by omega) rfl rfl (Nat.le_of_ble_eq_true rfl) hl.1 dX11_go_158 (c_R (by omega)) (s_R (by omega)) fun vH10 H10 locs qH10 zH10 oH10 hS2 => ?_
      have lH10_g0_0 := g0.lt.1
      have lH10_g0_1 := g0.lt.2
      have lH10_hfix_0 := hfix.size
      have lH10_fa3_0 := fa3.lt
      have lH10_fo9_0 := fo9.lt
      have lH10_0 := hS.1
      replace hPG := hPG.kept (fun i hi => oH10 _ (by have : ga (G.pl v) i < sz := hglt i hi; omega) (fun h9 => by have : ga (G.pl v) i < sz := hglt i hi; first | exact h9.elim | omega | (dsimp only at h9; omega)))
      replace g0 := g0.kept (oH10 _ lH10_g0_0 (fun h9 => by first | exact h9.elim | omega | (dsimp only at h9; omega))) (oH10 _ lH10_g0_1 (fun h9 => by first | exact h9.elim | omega | (dsimp only at h9; omega)))
      replace hfix := hfix.step (fun q hq => oH10 q (hfix.lt hq) (fun h9 => by first | exact h9.elim | omega | (dsimp only at h9; omega)))
      replace fa3 := fa3.kept (oH10 _ lH10_fa3_0 (fun h9 => by first | exact h9.elim | omega | (dsimp only at h9; omega)))
      replace hS := hS2; clear hS2 oH10
      clear fo9
      obtain ⟨rfl, v2, hv2, h0, h0b⟩ := qH10
      have hsb : SBs (gB G) q7 v2 [] _ := ⟨_, _, ⟨h0, h0b⟩, (fun i hi => absurd hi (Nat.not_lt_zero i)), bfit0, Nat.zero_le _, (by decide)⟩
      have hz0 : ([] : List Nat).length = 0 := rfl
      refine lv_aload_n hx hb dX11_go_161 rfl (lv_at hl 3 rfl) ?_
      refine callH_V (As := [.ref a]) X hS hA (Mv.and (Mv.h fun K => SBs (gB G) q7 v2 [] K) SF.mv) (fun U hU hv => by rw [hU]; exact ⟨hsb, g0.moved hv⟩) (fun q h9 => by simp only [frA, false_or] at h9 ⊢; have := hS.1; omega) (p_recv X hsb.obj (r := (RJ4, TJ4, 4)) rfl) m_3_201 m_3_202 m_3_203 mv_J4_append_15ec4 (ch_app (t := []) (u := t) (v := v2) (bt := bt) hG (by omega) (by omega) hasc (by omega) (by omega) (by omega) (by omega) (by omega) (by omega)) (by omega) rfl rfl (Nat.le_of_ble_eq_true rfl) hl.1 dX11_go_162 (c_R (by omega)) (s_R (by omega)) fun vH11 H11 locs qH11 zH11 oH11 hS2 => ?_
      have lH11_g0_0 := g0.lt.1
      have lH11_g0_1 := g0.lt.2
      have lH11_hfix_0 := hfix.size
      have lH11_fa3_0 := fa3.lt
      have lH11_hsb_0 := hsb.lt.1
      have lH11_hsb_1 := hsb.lt.2
      have lH11_0 := hS.1
      replace hPG := hPG.kept (fun i hi => oH11 _ (by have : ga (G.pl v) i < sz := hglt i hi; omega) (fun h9 => by have : ga (G.pl v) i < sz := hglt i hi; first | exact h9.elim | omega | (dsimp only at h9; omega)))
      replace g0 := g0.kept (oH11 _ lH11_g0_0 (fun h9 => by first | exact h9.elim | omega | (dsimp only at h9; omega))) (oH11 _ lH11_g0_1 (fun h9 => by first | exact h9.elim | omega | (dsimp only at h9; omega)))
      replace hfix := hfix.step (fun q hq => oH11 q (hfix.lt hq) (fun h9 => by first | exact h9.elim | omega | (dsimp only at h9; omega)))
      replace fa3 := fa3.kept (oH11 _ lH11_fa3_0 (fun h9 => by first | exact h9.elim | omega | (dsimp only at h9; omega)))
      replace hS := hS2; clear hS2 oH11
      clear hsb
      obtain ⟨rfl, v3, hv3, hsb⟩ := qH11
      rw [List.nil_append] at hsb
      refine lv_iload hx hb dX11_go_165 (lv_at hl 7 rfl) ?_
      refine callH_V (As := [.int (nI k)]) X hS hA (Mv.and (Mv.h fun K => SBs (gB G) q7 v3 t K) EnvD.mv) (fun U hU hv => ⟨by rw [hU]; exact hsb, hD.to hS hA hU hv⟩) (fun q h9 => by simp only [frA, false_or] at h9 ⊢; have := hS.1; omega) (p_recv X hsb.obj (r := (RJ4, TJ4, 4)) rfl) m_4_65 m_4_66 m_4_67 mv_J4_append_bf812 (ch_appI (t := t) (v := v3) (n := k) hG (by omega) (by omega) (by omega) (by omega) (by omega)) (by omega) rfl rfl (Nat.le_of_ble_eq_true rfl) hl.1 dX11_go_167 (c_R (by omega)) (s_R (by omega)) fun vH12 H12 locs qH12 zH12 oH12 hS2 => ?_
      have lH12_g0_0 := g0.lt.1
      have lH12_g0_1 := g0.lt.2
      have lH12_hfix_0 := hfix.size
      have lH12_fa3_0 := fa3.lt
      have lH12_hsb_0 := hsb.lt.1
      have lH12_hsb_1 := hsb.lt.2
      have lH12_0 := hS.1
      replace hPG := hPG.kept (fun i hi => oH12 _ (by have : ga (G.pl v) i < sz := hglt i hi; omega) (fun h9 => by have : ga (G.pl v) i < sz := hglt i hi; first | exact h9.elim | omega | (dsimp only at h9; omega)))
      replace g0 := g0.kept (oH12 _ lH12_g0_0 (fun h9 => by first | exact h9.elim | omega | (dsimp only at h9; omega))) (oH12 _ lH12_g0_1 (fun h9 => by first | exact h9.elim | omega | (dsimp only at h9; omega)))
      replace hfix := hfix.step (fun q hq => oH12 q (hfix.lt hq) (fun h9 => by first | exact h9.elim | omega | (dsimp only at h9; omega)))
      replace fa3 := fa3.kept (oH12 _ lH12_fa3_0 (fun h9 => by first | exact h9.elim | omega | (dsimp only at h9; omega)))
      replace hS := hS2; clear hS2 oH12
      clear hsb
      obtain ⟨rfl, v4, hv4, hsb⟩ := qH12
      obtain ⟨hdl1, hdl2⟩ := dec_len k
      have hdl3 : (t ++ dec k).length = t.length + (dec k).length := List.length_append
      have hdl4 : (dec k).length = 1 := by unfold dec; rw [if_pos (by omega)]; rfl
      refine callH_V (As := []) X hS hA (Mv.h _) (fun U hU hv => by rw [hU]; exact hsb) (fun q h9 => by simp only [frA, false_or] at h9 ⊢; have := hS.1; omega) (p_recv X hsb.obj (r := (RJ4, TJ4, 4)) rfl) m_4_90 m_4_91 m_4_92 mv_J4_toString_0e30d (ch_toString (t := t ++ dec k) (v := v4) hG (by omega)) (by omega) rfl rfl (Nat.le_of_ble_eq_true rfl) hl.1 dX11_go_170 (c_R (by omega)) (s_R (by omega)) fun vH13 H13 locs qH13 zH13 oH13 hS2 => ?_
      have lH13_g0_0 := g0.lt.1
      have lH13_g0_1 := g0.lt.2
      have lH13_hfix_0 := hfix.size
      have lH13_fa3_0 := fa3.lt
      have lH13_hsb_0 := hsb.lt.1
      have lH13_hsb_1 := hsb.lt.2
      have lH13_0 := hS.1
      replace hPG := hPG.kept (fun i hi => oH13 _ (by have : ga (G.pl v) i < sz := hglt i hi; omega) (fun h9 => by have : ga (G.pl v) i < sz := hglt i hi; first | exact h9.elim | omega | (dsimp only at h9; omega)))
      replace g0 := g0.kept (oH13 _ lH13_g0_0 (fun h9 => by first | exact h9.elim | omega | (dsimp only at h9; omega))) (oH13 _ lH13_g0_1 (fun h9 => by first | exact h9.elim | omega | (dsimp only at h9; omega)))
      replace hfix := hfix.step (fun q hq => oH13 q (hfix.lt hq) (fun h9 => by first | exact h9.elim | omega | (dsimp only at h9; omega)))
      replace fa3 := fa3.kept (oH13 _ lH13_fa3_0 (fun h9 => by first | exact h9.elim | omega | (dsimp only at h9; omega)))
      replace hS := hS2; clear hS2 oH13
      clear hsb
      obtain ⟨a5, b5, rfl, ha5, hb5, hst⟩ := qH13
      refine lv_iload_n hx hb dX11_go_173 rfl (lv_at hl 4 rfl) ?_
      refine lv_iconst (v := 1) hx hb dX11_go_174 (by decide) ?_
      refine lv_iload hx hb dX11_go_175 (lv_at hl 7 rfl) ?_
      refine w_ishl hx hb dX11_go_177 ?_
      refine lv_ior hx hb dX11_go_178 ?_
      refine lv_aload hx hb dX11_go_179 (lv_at hl 1 rfl) ?_
      refine lv_iload hx hb dX11_go_181 (lv_at hl 6 rfl) ?_
      refine lv_aload_n hx hb dX11_go_183 rfl (lv_at hl 2 rfl) ?_
      refine gg_X11_steps (G := G.pl v) Xv hPG (kv_1000 _) m_3_62 dX11_go_184 ?_
      refine lv_iload hx hb dX11_go_187 (lv_at hl 7 rfl) ?_
      refine gw_get (G := G.pl v) (k := k) Xv hPG hS hA hkn m_3_100 (by omega) (Nat.le_of_ble_eq_true rfl) hl.1 dX11_go_189 (c_R (by omega)) (s_R (by omega)) ?_
      refine rg_cast (G := G.pl v) Xv hPG hk25 m_3_114 dX11_go_192 ?_
      refine gg_X12_risk (G := G.pl v) Xv hPG hk25 m_5_116 dX11_go_195 ?_
      refine lv_iadd hx hb dX11_go_198 ?_
      have hsf := ST.SF X.2.1.1 (TB_warm (State.WarmedH.refl s) X.1.2.2.2.2) hst
      have hPG2 := hPG.into fa3 (fun i hi => by have : ga (G.pl v) i < sz := hglt i hi; omega) (hG _ (by omega))
      have e1 : ga ((G.pl v).has q1) 1000 = ga G 1000 := ga_has (by decide)
      have e3 : ga ((G.pl v).has q1) 1003 = ga G 1003 := ga_has (by decide)
      have e11 : ga ((G.pl v).has q1) 1100 = q1 := ga_hasY
      have hC : CtH (gB G) l yX11_go cX11_go 8 none (8 + d) (mcg d) (msg d) [.ref (ga G 1000), .ref a5, .int (set ||| ishl 1 (nI k)), .ref q1, .int (risk + gI σ (1005 + 4 * k) 0)] (Array.size H13) (FRG ((G.pl v).has q1)) (PfG ((G.pl v).has q1) (rowI σ 1100 (thenF σ b k)) pl a5 b5 (t ++ dec k)) (QfG ((G.pl v).has q1) σ1 pl a5 (t ++ dec k) (Array.size H13) pl1) := by
          have h0 := hrec ((G.pl v).has q1) (rowI σ 1100 (thenF σ b k)) σ1 pl pl1 a5 b5 (Array.size H13) 1100 (t ++ dec k) (set ||| ishl 1 (nI k)) (risk + gI σ (1005 + 4 * k) 0) rfl h1 hG kv_hasY (asc_app hasc (dec_asc (by omega))) (by omega) (by rw [e1, e3]; omega)
          rw [e1, e11] at h0
          exact h0
      have hPf : ∀ U : State, U.heap = H13 → s.vm.Alike U.vm → PfG ((G.pl v).has q1) (rowI σ 1100 (thenF σ b k)) pl a5 b5 (t ++ dec k) U := fun U hU hv => ⟨by rw [hU]; exact hPG2, by rw [hU]; exact hsf.moved hv, by rw [hU]; exact PLx.has (G := G) (v := v) (PLx.moved (hx1.kept fun q n1 _ _ => hfix q n1) hv) e1 e3, hD.to hS hA hU hv⟩
      have hfr : ∀ q, frA (FRG ((G.pl v).has q1)) (Array.size H13) q → frA (FRG G) sz q := fun q h9 => by simp only [frA, FRG, e1, e3] at h9 ⊢; have := hS.1; omega
      refine callH_V (G := gB G) (As := [.ref a5, .int (set ||| ishl 1 (nI k)), .ref q1, .int (risk + gI σ (1005 + 4 * k) 0)]) (fr := FRG ((G.pl v).has q1)) X hS hA (PfG.mv (G := ((G.pl v).has q1)) (σ := (rowI σ 1100 (thenF σ b k))) (pl := pl) (a := a5) (bt := b5) (t := t ++ dec k)) hPf hfr (p_recv X (hPG.a20 (kv_1000 _)) (r := (RX11, TX11, 9)) rfl) m_3_148 m_3_150 m_0_9 mv_X11_go hC (by omega) rfl rfl (Nat.le_of_ble_eq_true rfl) hl.1 dX11_go_199 (c_R (by omega)) (s_R (by omega)) fun ov1 HG locs qG zG oG hS2 => ?_
      obtain ⟨rfl, v6, hPG6, hq6⟩ := qG
      have lG0 := hS.1
      have lg0 := g0.lt
      have fG : ∀ q, q ≠ ga G 1000 → q ≠ ga G 1003 → ¬ FRG ((G.pl v).has q1) q := fun q n1 n2 n3 => by simp only [FRG, e1, e3] at n3; omega
      have hPG7 := PG.back hPG hPG6 (fun hi => oG _ (by have : ga (G.pl v) 1100 < sz := hglt 1100 hi; omega) (fG _ (fun e9 => by have := hPG.2.2.2.1 1100 1000 hi (by rw [kv_1000]; decide) e9; omega) (fun e9 => by have := hPG.2.2.2.1 1100 1003 hi (by rw [kv_1003]; decide) e9; omega)))
      replace g0 := g0.kept (oG _ lg0.1 (fG _ w1 w2)) (oG _ lg0.2 (fG _ w3 w4))
      have hx7 : PLx G pl1 v6 s HG := PLx.go X hq6 (hx1.kept fun q n1 n2 n3 => (oG q (hfix.lt n1) (fG q n2 n3)).trans (hfix q n1)) (hst.kept (oG _ hst.lt.1 (fG _ (by omega) (by omega))) (oG _ hst.lt.2 (fG _ (by omega) (by omega)))) (by omega) (by omega) (by omega) (Or.inr ⟨by omega, by omega⟩) (Or.inr ⟨by omega, by omega⟩) trivial
      have hx8 : PLc G pl0 sz pl1 v6 HG := PLc.go hq6 (hx2.kept fun q n1 n2 => (oG q (hfix.lt n1) (fG q (by omega) (by omega))).trans (hfix q n1)) (hst.kept (oG _ hst.lt.1 (fG _ (by omega) (by omega))) (oG _ hst.lt.2 (fG _ (by omega) (by omega)))) (by omega) (by omega) (by omega) (by omega)
      refine lv_iinc (lv' := [(5, .int (nI (k + 1))), (7, .int 3), (6, .ref q1), (0, .ref (ga G 1000)), (1, .ref a), (2, .int set), (3, .ref (ga G b)), (4, .int risk)]) (k := 7) hx hb dX11_go_202 hl rfl (nI_1 k) (by decide) rfl ?_
      clear hl; intro ls hl
      refine lv_goto (tgt := 58) hx hb dX11_go_205 (by decide) ?_
      exact ih (k + 1) (by omega) pl1 v6 _ HG _ _ _ ls h hPG7 g0 hx7 hx8 hS2 (by omega) (by omega) (lv_sub hl [3, 4, 5, 6, 7, 0] rfl)
section
variable {p : Program} {l : Launch} {e : Env} {R : Room} {s : State} {m : MethodId} {args : Array Value} {below : List Frame} {meth : Method} {c : Code} {H : Heap} {locs : List Loc} {cells slots : Nat} {Q : State → Prop} {pc : Nat} {ls : Array Slot} {rest : List Value}
theorem lv_toV {x y : Value} (h : x = y) (k : W p l e R s m args below meth c H locs cells slots Q (F0 m pc ls (y :: rest))) : W p l e R s m args below meth c H locs cells slots Q (F0 m pc ls (x :: rest)) := by rw [h]; exact k
end
theorem nI_leG {a b : Nat} (h : b ≤ a) (ha : a < 2 ^ 31) : nI a ≥ nI b := nI_le h ha
theorem goS_none (t : List Nat) : goS none t = some t := rfl
theorem goS_lt {t q : List Nat} (h : t.length < q.length) : goS (some q) t = some t := if_pos h
theorem goS_ge {t q : List Nat} (h : ¬ t.length < q.length) : goS (some q) t = some q := if_neg h
set_option maxHeartbeats 8000000 in
theorem ch_go {l : Launch} {n : Nat} (hn4 : n ≤ 4) : ∀ d, GoC l n d := by
  intro d
  induction d with
  | zero => intro G σ σ' pl pl' a bt sz b t set risk hn h; unfold goW at h; cases h
  | succ d ihd =>
    intro G σ σ' pl pl' a bt sz b t set risk hn h hG hkb hasc hlen hw
    subst hn
    refine met_H (by decide +kernel) (Nat.le_of_ble_eq_true rfl) .return_ (Or.inl ⟨rfl, rfl, rfl⟩) ?_
    intro p e s m args below meth c Q ls X hnm hsz hP hr hl
    have hx := X.1.1
    have hb := X.1.2.1
    obtain ⟨hPG, g0, hx0, hD⟩ := hP
    have hgz : gz (gB G) ≤ sz := by rw [← hsz]; exact X.2.1.2.1
    have hglt : ∀ i, kv G i ≠ 99 → ga G i < sz := fun i hi => by rw [← hsz]; exact hPG.lt i hi
    have hA : ∀ q, q < s.heap.size → frA (FRG G) sz q → gA (gB G) q := fun q h8 h9 => by
      rcases h9 with (h9 | h9) | h9
      · rw [h9]; exact hPG.2.2.2.2 1000 (by rw [kv_1000]; decide)
      · rw [h9]; exact hPG.2.2.2.2 1003 (by rw [kv_1003]; decide)
      · exact hG q (by omega)
    have hS : va_S (frA (FRG G) sz) s.heap s.heap [] := va_S.rf
    have hl : lv_has ls 8 [(0, .ref (ga G 1000)), (1, .ref a), (2, .int set), (3, .ref (ga G b)), (4, .int risk)] := hl
    generalize hmc : mcg (d + 1) = mc1 at X hr
    generalize hms : msg (d + 1) = ms1 at X hr
    have hmc1 : mc1 = 4 * (mcg d + 8) := hmc.symm
    obtain ⟨ks, hks⟩ : ∃ ks, ks = 300 := ⟨_, rfl⟩
    have hms1 : ms1 = 4 * (msg d + ks) := by rw [hks]; exact hms.symm
    have Xv := X
    unfold goW at h
    obtain ⟨r0, hr0, h⟩ := Option.bind_eq_some_iff.mp h
    refine lv_aload_n hx hb dX11_go_0 rfl (lv_at hl 0 rfl) ?_
    refine lv_iload_n hx hb dX11_go_1 rfl (lv_at hl 2 rfl) ?_
    refine callP_V (r := (RX11, TX11, 9)) (As := [.int set]) Xv hS hA (Mv.h fun H => PG G σ H) (fun U hU _ => by rw [hU]; exact hPG) (hPG.a20 (kv_1000 _)) rfl m_3_129 m_3_130 m_3_131 mv_X11_holds (cr_X11_holds (G := G) (kv_1000 _) hr0) (by omega) rfl rfl (Nat.le_of_ble_eq_true rfl) hl.1 dX11_go_2 (c_R (by omega)) (s_R (by omega)) ?_
    refine lv_if_eq (tgt := 55) hx hb dX11_go_5 (by decide) (fun hc => ?_) (fun hc => ?_)
    · rw [if_pos hc] at h
      refine lv_iconst (v := 0) hx hb dX11_go_55 (by decide) ?_
      refine lv_istore (lv' := [(5, .int 0), (0, .ref (ga G 1000)), (1, .ref a), (2, .int set), (3, .ref (ga G b)), (4, .int risk)]) hx hb dX11_go_56 hl (by decide) rfl ?_
      clear hl; intro ls hl
      exact go_loop hmc1 hms1 hks X hsz hG hkb hasc hlen hw hglt hPG.2.2.1 hA ihd hD hr (gn G) 0 (Nat.zero_add _) pl (gp G) σ s.heap [] 0 0 ls h hPG g0 hx0 (Or.inl ⟨rfl, rfl⟩) hS (Nat.zero_le _) (Nat.zero_le _) (lv_sub hl [1, 2, 3, 4, 5, 0] rfl)
    · rw [if_neg hc] at h
      obtain ⟨hin, h⟩ := ckI_el h
      obtain ⟨rfl, rfl⟩ : goS pl t = pl' ∧ sI (sI σ 1000 7 (minI (gI σ 1000 7) risk)) 1003 set.toNatClampNeg 1 = σ' := by cases h; exact ⟨rfl, rfl⟩
      have n0 : kv G 1000 ≠ 99 := by rw [kv_1000]; decide
      have n3 : kv G 1003 ≠ 99 := by rw [kv_1003]; decide
      have tail : ∀ (v : Value) (H : Heap) (locs : List Loc), PG (G.pl v) σ H → PLq G pl a t sz (goS pl t) v s.heap → va_S (frA (FRG G) sz) s.heap H locs → W p l e (rmC (8 + (d + 1)) mc1 ms1) s m args below meth c H locs 0 0 Q (F0 m 34 ls []) := by
        intro v H locs hPG hq hS
        have Xv : Cx (gB (G.pl v)) p (rmC (8 + (d + 1)) mc1 ms1) s m args c 0 0 cX11_go 8 yX11_go.cls (8 + (d + 1)) := X
        refine lv_aload_n hx hb dX11_go_34 rfl (lv_at hl 0 rfl) ?_
        refine lv_aload_n hx hb dX11_go_35 rfl (lv_at hl 0 rfl) ?_
        refine gg_X11_safest (G := G.pl v) Xv hPG (kv_1000 _) m_3_74 dX11_go_36 ?_
        refine lv_iload hx hb dX11_go_39 (lv_at hl 4 rfl) ?_
        refine callP_S (As := [.int (gI σ 1000 7), .int risk]) X hS hA (Mv.true) (fun U hU hv => trivial) m_3_162 m_2_227 mv_J9_min_7cf53 (cp_minI (Pf := fun _ => True)) (by omega) rfl rfl (Nat.le_of_ble_eq_true rfl) hl.1 dX11_go_41 (c_R (by omega)) (s_R (by omega)) ?_
        refine p_put (G := gB G) (T := TX11) (N := 9) (k := 7) (ty := .int) X (hPG.a20 (kv_1000 _)) inTB_X11 tyX11 tyX11_ok nmX11 rfl (by decide) m_3_74 (fun hq => by cases hq) (by decide +kernel) rfl rfl (Nat.le_of_ble_eq_true rfl) dX11_go_44 fun H1 k1 n1 z1 o1 => ?_
        have hP1 : PG (G.pl v) (sI σ 1000 7 (minI (gI σ 1000 7) risk)) H1 := hPG.put n0 (by rw [cg_20 (G.pl v) _ (by rfl)]; simp [gI_sI]; exact n1) o1 (fun j hj => gI_rowNe σ _ hj) (congrFun (gI_rowNe σ _ (by decide)) 2)
        have hS1 := hS.put (k := k1) z1 o1 (Or.inl (Or.inl rfl))
        refine lv_aload_n hx hb dX11_go_47 rfl (lv_at hl 0 rfl) ?_
        refine gg_X11_ends (G := G.pl v) Xv hP1 (kv_1000 _) m_3_75 dX11_go_48 ?_
        refine lv_iload_n hx hb dX11_go_51 rfl (lv_at hl 2 rfl) ?_
        refine lv_iconst (v := 1) hx hb dX11_go_52 (by decide) ?_
        refine p_zast (G := gB G) (t := 2) X (Or.inr rfl) (hP1.a23 (kv_1003 _)) rfl hin dX11_go_53 fun H2 k2 n2 z2 o2 => ?_
        have hP2 : PG (G.pl v) (sI (sI σ 1000 7 (minI (gI σ 1000 7) risk)) 1003 set.toNatClampNeg 1) H2 := hP1.put n3 (by rw [cg_23 (G.pl v) _ (by rfl)]; unfold sI; rw [gI_row]; exact n2) o2 (fun j hj => gI_rowNe _ _ hj) (congrFun (gI_rowNe _ _ (by decide)) 2)
        have hS2 := hS1.put (k := k2) z2 o2 (Or.inl (Or.inr rfl))
        refine hr _ _ _ _ _ _ dX11_go_54 ⟨rfl, v, hP2, ?_⟩ hS2 (Nat.zero_le _) (Nat.zero_le _)
        rcases hq with q | q | ⟨a9, b9, p9, q1, q2, q3, q4, q5, q6⟩
        · exact Or.inl q
        · exact Or.inr (Or.inl q)
        · exact absurd q3.lt.1 (by omega)
      have hset : goS pl t = some t → W p l e (rmC (8 + (d + 1)) mc1 ms1) s m args below meth c s.heap [] 0 0 Q (F0 m 29 ls []) := by
        intro hgo
        refine lv_aload_n hx hb dX11_go_29 rfl (lv_at hl 0 rfl) ?_
        refine lv_aload_n hx hb dX11_go_30 rfl (lv_at hl 1 rfl) ?_
        refine p_put (G := gB G) (T := TX11) (N := 9) (k := 6) (ty := .object "java/lang/String") X (hPG.a20 (kv_1000 _)) inTB_X11 tyX11 tyX11_ok nmX11 rfl (by decide) m_3_73 (fun hq => by cases hq) (by decide +kernel) rfl rfl (Nat.le_of_ble_eq_true rfl) dX11_go_31 fun H1 k1 n1 z1 o1 => ?_
        have hP1 : PG (G.pl (.ref a)) σ H1 := hPG.plan (by rw [cg_20 (G.pl (.ref a)) σ (by rfl)]; exact n1) o1
        exact tail (.ref a) H1 _ hP1 (Or.inr (Or.inl ⟨hgo, rfl⟩)) (hS.put (k := k1) z1 o1 (Or.inl (Or.inl rfl)))
      refine lv_aload_n hx hb dX11_go_8 rfl (lv_at hl 0 rfl) ?_
      refine gg_X11_plan (G := G) X hPG (kv_1000 _) m_3_73 dX11_go_9 ?_
      rcases hx0 with ⟨rfl, e0⟩ | ⟨a2, b2, p2, rfl, e0, h2, h3, h4, h5, h6, h7⟩
      · refine lv_toV e0 ?_
        refine lv_ifnullN (tgt := 29) hx hb dX11_go_12 (by decide) ?_
        exact hset rfl
      · refine lv_toV e0 ?_
        refine lv_ifnull hx hb dX11_go_12 ?_
        refine lv_aload_n hx hb dX11_go_15 rfl (lv_at hl 1 rfl) ?_
        refine callP_R (As := []) X hS hA (SF.mv) (fun U hU hv => by rw [hU]; exact g0.moved hv) (by obtain ⟨cell, h1, h2, h3, -⟩ := g0.1; exact ⟨cell, h1, h2, h3⟩) m_3_152 m_3_153 m_3_154 mv_J0_length_8abf5 (cp_length (t := t) (b := bt)) (by omega) rfl rfl (Nat.le_of_ble_eq_true rfl) hl.1 dX11_go_16 (c_R (by omega)) (s_R (by omega)) ?_
        refine lv_aload_n hx hb dX11_go_19 rfl (lv_at hl 0 rfl) ?_
        refine gg_X11_plan (G := G) X hPG (kv_1000 _) m_3_73 dX11_go_20 ?_
        refine lv_toV e0 ?_
        refine callP_R (As := []) X hS hA (SF.mv) (fun U hU hv => by rw [hU]; exact h2.moved hv) (by obtain ⟨cell, h1, h2, h3, -⟩ := h2.1; exact ⟨cell, h1, h2, h3⟩) m_3_152 m_3_153 m_3_154 mv_J0_length_8abf5 (cp_length (t := p2) (b := b2)) (by omega) rfl rfl (Nat.le_of_ble_eq_true rfl) hl.1 dX11_go_23 (c_R (by omega)) (s_R (by omega)) ?_
        refine lv_icmp_ge (tgt := 34) hx hb dX11_go_26 (by decide) (fun hc2 => ?_) (fun hc2 => ?_)
        · have hge : ¬ t.length < p2.length := fun q => nI_ge q (by omega) hc2
          refine tail (gp G) s.heap [] hPG (Or.inl ⟨goS_ge hge, rfl⟩) hS
        · have hlt : t.length < p2.length := by
            apply Nat.lt_of_not_le
            intro q
            exact hc2 (nI_leG q (by omega))
          exact hset (goS_lt hlt)
