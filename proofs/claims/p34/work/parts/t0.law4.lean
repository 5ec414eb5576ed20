theorem m_1_17 : Cond.initialized "QuestLedgerLaw$Step" ∈ TB := mem_t1 17 (by decide +kernel)
theorem m_5_110 : Cond.classLink RL 99 "QuestLedgerLaw$Step" ∈ TB := mem_t5 110 (by decide +kernel)
theorem m_5_111 : Cond.instantiable "QuestLedgerLaw$Step" 9 ∈ TB := mem_t5 111 (by decide +kernel)
theorem m_5_112 : Cond.methodLinkNest RL 101 yX12_init "QuestLedgerLaw" ∈ TB := mem_t5 112 (by decide +kernel)
theorem m_5_113 : Cond.instanceMethod yX12_init ∈ TB := mem_t5 113 (by decide +kernel)
theorem m_5_114 : Cond.code yX12_init cX12_init 1 none ∈ TB := mem_t5 114 (by decide +kernel)
theorem m_5_117 : Cond.fieldLinkNest RL 102 "QuestLedgerLaw$Step" "risk" "I" "QuestLedgerLaw" ∈ TB := mem_t5 117 (by decide +kernel)
theorem m_5_119 : Cond.fieldLinkNest RL 105 "QuestLedgerLaw$Step" "limit" "I" "QuestLedgerLaw" ∈ TB := mem_t5 119 (by decide +kernel)
theorem m_5_122 : Cond.fieldLinkNest RL 112 "QuestLedgerLaw$Step" "after" "I" "QuestLedgerLaw" ∈ TB := mem_t5 122 (by decide +kernel)
theorem m_5_124 : Cond.fieldLinkNest RL 108 "QuestLedgerLaw$Step" "isCostly" "Z" "QuestLedgerLaw" ∈ TB := mem_t5 124 (by decide +kernel)
theorem m_5_128 : Cond.fieldLinkNest RL 115 "QuestLedgerLaw$Step" "uses" "[I" "QuestLedgerLaw" ∈ TB := mem_t5 128 (by decide +kernel)
theorem m_5_131 : Cond.fieldLinkNest RL 118 "QuestLedgerLaw$Step" "needs" "[I" "QuestLedgerLaw" ∈ TB := mem_t5 131 (by decide +kernel)
theorem m_5_134 : Cond.fieldLinkNest RL 121 "QuestLedgerLaw$Step" "gives" "[I" "QuestLedgerLaw" ∈ TB := mem_t5 134 (by decide +kernel)
theorem mv_X12_init : MV yX12_init cX12_init 1 none 0 := ⟨m_5_114, by decide +kernel, m_1_17, ⟨by decide +kernel, by decide +kernel, by decide +kernel⟩, by decide⟩
/-! THE LAW: a step is made -/
/-- all that stood is as it was, but P -/
def Fxe (P : Nat → Prop) (H H1 : Heap) : Prop := H.size ≤ H1.size ∧ ∀ q : Nat, q < H.size → ¬ P q → H1[q]? = H[q]?
theorem Fxe.rf (P : Nat → Prop) (H : Heap) : Fxe P H H := ⟨Nat.le_refl _, fun _ _ _ => rfl⟩
theorem Fxe.step {P : Nat → Prop} {H H1 H2 : Heap} (h : Fxe P H H1) (hs : H1.size ≤ H2.size) (o : ∀ q : Nat, q < H.size → ¬ P q → H2[q]? = H1[q]?) : Fxe P H H2 := ⟨Nat.le_trans h.1 hs, fun q h1 h2 => (o q h1 h2).trans (h.2 q h1 h2)⟩
/-! a step's numbers, out of the script's int -/
def b1C (c : Int32) (j : Nat) : Nat := (ishr c (nI j)).toBitVec.toNat % 2
theorem b1_eq (c : Int32) (j : Nat) : ishr c (nI j) &&& 1 = nI (b1C c j) := pk_and _ 1 (by decide)
theorem b1_lt (c : Int32) (j : Nat) : b1C c j < 2 := Nat.mod_lt _ (by decide)
theorem b1_ne {c : Int32} {j : Nat} (h : ¬ b1C c j = 1) : ¬ nI (b1C c j) = 1 := fun q => h ((nI_eq (b := 1) (by have := b1_lt c j; omega) (by decide)).mp q)
theorem b1_y {c : Int32} {j : Nat} (h : b1C c j = 1) : nI (b1C c j) = 1 := by rw [h]; rfl
def riC (c : Int32) : Nat := bN c 4 * 25
def liC (c : Int32) : Nat := 1 + b1C c 4
def coC (c : Int32) : Bool := decide (b1C c 5 = 1)
def afP (c : Int32) (a : Nat) : Bool := decide (b1C c (6 + a) = 1) && decide (b1C c 12 = 1)
def afC (c : Int32) (k : Nat) : Nat := msk k (afP c)
def amC (c : Int32) (kk i : Nat) : Nat := if kk = 0 then bN (ishr c (nI (13 + 2 * i))) 3 else if kk = 1 then (if b1C c (19 + i) = 1 then 2 else 0) else if kk = 2 then (if b1C c (22 + i) = 1 then 2 else 0) else 0
set_option maxHeartbeats 4000000 in
theorem law_A {G : Gt} {l : Launch} {p : Program} {e : Env} {R : Room} {s : State} {m : MethodId} {args : Array Value} {below : List Frame} {meth : Method} {c : Code} {Q : State → Prop} {b N e0 : Nat} {A : Nat → Prop} {xs : Nat → Int32} 
    (X : Cx G p R s m args c 0 0 cL_law 12 RL 40) (hG : AllA G) (hgz : gz G ≤ s.heap.size) (hA : ∀ q, q < s.heap.size → A q → gA G q) (hAn : ∀ q, s.heap.size ≤ q → A q) (hD : EnvD G s) (hE : EnvL G e0 s) (hxs : va_T .int b N (fun k => .int (xs k)) (gA G) s s.heap) (hN : N < 2 ^ 31) (hnm : meth.name ≠ "<init>") 
    {q sb b4 k C0 S0 cells slots : Nat} {cc : Int32} {H : Heap} {locs : List Loc} {ls : Array Slot} (hk : k < 10) (hcc : cellF N xs (3 + k) = cc) (hCc : C0 + 5 ≤ R.cells) (hCs : S0 + 30 ≤ R.slots) (hc : cells ≤ C0) (hs : slots ≤ S0) (hS : va_S A s.heap H locs)
    (hK : ∀ (a u n g : Nat) (H1 : Heap) (locs1 : List Loc) (cells1 slots1 : Nat) (ls : Array Slot), H.size ≤ a → a < u → u < n → n < g → Fxe (fun _ => False) H H1 → va_at (gDD G) vwCl (a, .inr (11, [.int (nI (riC cc)), .int (nI (liC cc)), .int 0, .int 0, .int (if coC cc then 1 else 0), .int 0, .ref u, .ref n, .ref g])) H1 → va_at (gDD G) vwCl (u, .inl (gty G 0, 3, .inl (fun _ => 0))) H1 → va_at (gDD G) vwCl (n, .inl (gty G 0, 3, .inl (fun _ => 0))) H1 → va_at (gDD G) vwCl (g, .inl (gty G 0, 3, .inl (fun _ => 0))) H1 → va_S A s.heap H1 locs1 → cells1 ≤ C0 + 4 → slots1 ≤ S0 + 18 → lv_has ls 12 [(8, .int 0), (7, .int cc), (6, .ref a), (5, .int (nI k)), (4, .ref b4), (0, .ref b), (1, .ref q), (2, .int (nI (maN N xs))), (3, .ref sb)] → W p l e R s m args below meth c H1 locs1 cells1 slots1 Q (F0 m 262 ls []))
    (hl : lv_has ls 12 [(5, .int (nI k)), (4, .ref b4), (0, .ref b), (1, .ref q), (2, .int (nI (maN N xs))), (3, .ref sb)]) : W p l e R s m args below meth c H locs cells slots Q (F0 m 193 ls []) := by
  have hx := X.1.1
  have hb := X.1.2.1
  have hfx : Fxe (fun _ => False) H H := Fxe.rf _ _
  refine p_new (ci := 11) (fs := [.int 0, .int 0, .int 0, .int 0, .int 0, .int 0, .null, .null, .null]) X inTB_X12 tyX12 tyX12_ok rfl (by decide +kernel) m_5_110 m_5_111 m_1_17 (by omega) (by omega) dL_law_193 fun H2 nH2 zH2 oH2 => ?_
  have lq1_0 := hS.1
  replace hfx := hfx.step (by omega) (fun q h8 h9 => oH2 q (Nat.lt_of_lt_of_le h8 hfx.1))
  replace hS := hS.new zH2 oH2
  clear oH2
  generalize hq_q1 : Array.size H = q1 at nH2 zH2 lq1_0 ⊢
  have fo3 : va_at (gDD G) vwCl (q1, .inr (11, [.int 0, .int 0, .int 0, .int 0, .int 0, .int 0, .null, .null, .null])) H2 := nH2
  clear nH2
  refine lv_dup hx hb dL_law_196 rfl ?_
  refine callH_IN (As := []) X hS hA (Mv.h _) (fun U hU hv => by rw [hU]; exact fo3) (fun q h9 => hAn q (by simp only [frA, false_or] at h9; have := hS.1; omega)) m_5_112 m_5_113 mv_X12_init rfl (ch_Step hG (by omega)) (by decide) rfl rfl (Nat.le_of_ble_eq_true rfl) hl.1 dL_law_197 (by omega) (by omega) fun vH4 H4 locs qH4 zH4 oH4 hS2 => ?_
  have lH4_fo3_0 := fo3.lt
  have lH4_0 := hS.1
  replace hfx := hfx.step (by omega) (fun q h8 h9 => oH4 q (Nat.lt_of_lt_of_le h8 hfx.1) (fun h7 => by have := hfx.1; first | exact h7.elim | omega | (dsimp only at h7; omega) | (dsimp only at h9; omega) | (dsimp only at h7 h9; omega)))
  replace hS := hS2; clear hS2 oH4
  clear fo3
  obtain ⟨rfl, u, n, g, hu1, hu2, hu3, f0, a1, a2, a3⟩ := qH4
  refine lv_astore (lv' := [(6, .ref q1), (5, .int (nI k)), (4, .ref b4), (0, .ref b), (1, .ref q), (2, .int (nI (maN N xs))), (3, .ref sb)]) hx hb dL_law_200 hl (by decide) rfl ?_
  clear hl; intro ls hl
  refine lv_aload_n hx hb dL_law_202 rfl (lv_at hl 3 rfl) ?_
  refine lv_iconst (v := 3) hx hb dL_law_203 (by decide) ?_
  refine lv_iload hx hb dL_law_204 (lv_at hl 1 rfl) ?_
  refine lv_iadd hx hb dL_law_206 ?_
  refine lv_to (y := nI (3 + k)) (nI_add 3 k) ?_
  refine callP_S (As := [.ref b, .int (nI (3 + k))]) X hS hA ((fun U V hv hh q => by show va_T _ _ _ _ _ V V.heap; rw [hh]; exact va_T.moved hv q)) (fun U hU hv => by rw [hU]; exact va_T.moved hv (va_T.at hxs hS hA)) m_5_154 m_5_155 mv_L_cell (cp_cell (N := N) (f := xs) (k := 3 + k) hN (by omega)) (by decide) rfl rfl (Nat.le_of_ble_eq_true rfl) hl.1 dL_law_207 (by omega) (by omega) ?_
  refine lv_to (y := cc) hcc ?_
  refine lv_istore (lv' := [(7, .int cc), (6, .ref q1), (5, .int (nI k)), (4, .ref b4), (0, .ref b), (1, .ref q), (2, .int (nI (maN N xs))), (3, .ref sb)]) hx hb dL_law_210 hl (by decide) rfl ?_
  clear hl; intro ls hl
  refine lv_aload hx hb dL_law_212 (lv_at hl 1 rfl) ?_
  refine lv_iload hx hb dL_law_214 (lv_at hl 0 rfl) ?_
  refine lv_iconst (v := 4) hx hb dL_law_216 (by decide) ?_
  refine lv_to (y := nI 4) rfl ?_
  refine callP_S (As := [.int cc, .int (nI 4)]) X hS hA (Mv.true) (fun U hU hv => trivial) m_5_157 m_5_158 mv_L_bound (cp_boundN (Pf := fun _ => True) (v := cc) (n := 4) (by decide) (by decide)) (by decide) rfl rfl (Nat.le_of_ble_eq_true rfl) hl.1 dL_law_217 (by omega) (by omega) ?_
  refine lv_bipush (v := 25) hx hb dL_law_220 (by decide) ?_
  refine lv_imul hx hb dL_law_222 ?_
  refine lv_to (y := nI (riC cc)) (pk_mul _ 25) ?_
  refine p_putN (T := TX12) (N := 9) (k := 0) (ty := .int) X f0 inTB_X12 tyX12 tyX12_ok nmX12 rfl (by decide) m_5_117 rfl (by decide +kernel) rfl rfl (Nat.le_of_ble_eq_true rfl) dL_law_223 fun H5 kH5 nH5 zH5 oH5 => ?_
  replace a1 := a1.kept (oH5 _ (by omega))
  replace a2 := a2.kept (oH5 _ (by omega))
  replace a3 := a3.kept (oH5 _ (by omega))
  replace hfx := hfx.step (by omega) (fun q h8 h9 => oH5 q (by have := hfx.1; first | omega | (dsimp only at h9; omega)))
  replace hS := hS.put (k := kH5) zH5 oH5 (hAn _ (by omega))
  replace f0 : va_at (gDD G) vwCl (q1, .inr (11, [.int (nI (riC cc)), .int 0, .int 0, .int 0, .int 0, .int 0, .ref u, .ref n, .ref g])) H5 := nH5
  clear zH5 oH5
  refine lv_aload hx hb dL_law_226 (lv_at hl 1 rfl) ?_
  refine lv_iconst (v := 1) hx hb dL_law_228 (by decide) ?_
  refine lv_iload hx hb dL_law_229 (lv_at hl 0 rfl) ?_
  refine lv_iconst (v := 4) hx hb dL_law_231 (by decide) ?_
  refine w_ishr hx hb dL_law_232 ?_
  refine lv_iconst (v := 1) hx hb dL_law_233 (by decide) ?_
  refine lv_iand hx hb dL_law_234 ?_
  refine lv_to (y := nI (b1C cc 4)) (b1_eq cc 4) ?_
  refine lv_iadd hx hb dL_law_235 ?_
  refine lv_to (y := nI (liC cc)) (nI_add 1 _) ?_
  refine p_putN (T := TX12) (N := 9) (k := 1) (ty := .int) X f0 inTB_X12 tyX12 tyX12_ok nmX12 rfl (by decide) m_5_119 rfl (by decide +kernel) rfl rfl (Nat.le_of_ble_eq_true rfl) dL_law_236 fun H6 kH6 nH6 zH6 oH6 => ?_
  replace a1 := a1.kept (oH6 _ (by omega))
  replace a2 := a2.kept (oH6 _ (by omega))
  replace a3 := a3.kept (oH6 _ (by omega))
  replace hfx := hfx.step (by omega) (fun q h8 h9 => oH6 q (by have := hfx.1; first | omega | (dsimp only at h9; omega)))
  replace hS := hS.put (k := kH6) zH6 oH6 (hAn _ (by omega))
  replace f0 : va_at (gDD G) vwCl (q1, .inr (11, [.int (nI (riC cc)), .int (nI (liC cc)), .int 0, .int 0, .int 0, .int 0, .ref u, .ref n, .ref g])) H6 := nH6
  clear zH6 oH6
  refine lv_aload hx hb dL_law_239 (lv_at hl 1 rfl) ?_
  refine lv_iload hx hb dL_law_241 (lv_at hl 0 rfl) ?_
  refine lv_iconst (v := 5) hx hb dL_law_243 (by decide) ?_
  refine w_ishr hx hb dL_law_244 ?_
  refine lv_iconst (v := 1) hx hb dL_law_245 (by decide) ?_
  refine lv_iand hx hb dL_law_246 ?_
  refine lv_to (y := nI (b1C cc 5)) (b1_eq cc 5) ?_
  refine lv_iconst (v := 1) hx hb dL_law_247 (by decide) ?_
  by_cases c5 : b1C cc 5 = 1
  · skip
    have hco : (if coC cc then (1 : Int32) else 0) = 1 := by unfold coC; rw [decide_eq_true c5]; rfl
    refine lv_icmp_ne (tgt := 255) hx hb dL_law_248 (by decide) (fun hc => absurd (b1_y c5) hc) (fun _ => ?_)
    refine lv_iconst (v := 1) hx hb dL_law_251 (by decide) ?_
    refine lv_goto (tgt := 256) hx hb dL_law_252 (by decide) ?_
    refine p_putN (T := TX12) (N := 9) (k := 4) (ty := .boolean) X f0 inTB_X12 tyX12 tyX12_ok nmX12 rfl (by decide) m_5_124 rfl (by decide +kernel) rfl rfl (Nat.le_of_ble_eq_true rfl) dL_law_256 fun H7 kH7 nH7 zH7 oH7 => ?_
    replace a1 := a1.kept (oH7 _ (by omega))
    replace a2 := a2.kept (oH7 _ (by omega))
    replace a3 := a3.kept (oH7 _ (by omega))
    replace hfx := hfx.step (by omega) (fun q h8 h9 => oH7 q (by have := hfx.1; first | omega | (dsimp only at h9; omega)))
    replace hS := hS.put (k := kH7) zH7 oH7 (hAn _ (by omega))
    replace f0 : va_at (gDD G) vwCl (q1, .inr (11, [.int (nI (riC cc)), .int (nI (liC cc)), .int 0, .int 0, .int 1, .int 0, .ref u, .ref n, .ref g])) H7 := nH7
    clear zH7 oH7
    refine lv_iconst (v := 0) hx hb dL_law_259 (by decide) ?_
    refine lv_istore (lv' := [(8, .int 0), (7, .int cc), (6, .ref q1), (5, .int (nI k)), (4, .ref b4), (0, .ref b), (1, .ref q), (2, .int (nI (maN N xs))), (3, .ref sb)]) hx hb dL_law_260 hl (by decide) rfl ?_
    clear hl; intro ls hl
    exact hK q1 u n g _ _ _ _ ls (by omega) (by omega) (by omega) (by omega) hfx (by rw [hco]; exact f0) a1 a2 a3 hS (by omega) (by omega) (lv_sub hl [0, 1, 2, 3, 4, 5, 6, 7, 8] rfl)
  · skip
    have hco : (if coC cc then (1 : Int32) else 0) = 0 := by unfold coC; rw [decide_eq_false c5]; rfl
    refine lv_icmp_ne (tgt := 255) hx hb dL_law_248 (by decide) (fun _ => ?_) (fun hc => absurd hc (b1_ne c5))
    refine lv_iconst (v := 0) hx hb dL_law_255 (by decide) ?_
    refine p_putN (T := TX12) (N := 9) (k := 4) (ty := .boolean) X f0 inTB_X12 tyX12 tyX12_ok nmX12 rfl (by decide) m_5_124 rfl (by decide +kernel) rfl rfl (Nat.le_of_ble_eq_true rfl) dL_law_256 fun H7 kH7 nH7 zH7 oH7 => ?_
    replace a1 := a1.kept (oH7 _ (by omega))
    replace a2 := a2.kept (oH7 _ (by omega))
    replace a3 := a3.kept (oH7 _ (by omega))
    replace hfx := hfx.step (by omega) (fun q h8 h9 => oH7 q (by have := hfx.1; first | omega | (dsimp only at h9; omega)))
    replace hS := hS.put (k := kH7) zH7 oH7 (hAn _ (by omega))
    replace f0 : va_at (gDD G) vwCl (q1, .inr (11, [.int (nI (riC cc)), .int (nI (liC cc)), .int 0, .int 0, .int 0, .int 0, .ref u, .ref n, .ref g])) H7 := nH7
    clear zH7 oH7
    refine lv_iconst (v := 0) hx hb dL_law_259 (by decide) ?_
    refine lv_istore (lv' := [(8, .int 0), (7, .int cc), (6, .ref q1), (5, .int (nI k)), (4, .ref b4), (0, .ref b), (1, .ref q), (2, .int (nI (maN N xs))), (3, .ref sb)]) hx hb dL_law_260 hl (by decide) rfl ?_
    clear hl; intro ls hl
    exact hK q1 u n g _ _ _ _ ls (by omega) (by omega) (by omega) (by omega) hfx (by rw [hco]; exact f0) a1 a2 a3 hS (by omega) (by omega) (lv_sub hl [0, 1, 2, 3, 4, 5, 6, 7, 8] rfl)
set_option maxHeartbeats 4000000 in
theorem law_B {G : Gt} {l : Launch} {p : Program} {e : Env} {R : Room} {s : State} {m : MethodId} {args : Array Value} {below : List Frame} {meth : Method} {c : Code} {Q : State → Prop} {b N e0 : Nat} {A : Nat → Prop} {xs : Nat → Int32} 
    (X : Cx G p R s m args c 0 0 cL_law 12 RL 40) (hG : AllA G) (hgz : gz G ≤ s.heap.size) (hA : ∀ q, q < s.heap.size → A q → gA G q) (hAn : ∀ q, s.heap.size ≤ q → A q) (hD : EnvD G s) (hE : EnvL G e0 s) (hxs : va_T .int b N (fun k => .int (xs k)) (gA G) s s.heap) (hN : N < 2 ^ 31) (hnm : meth.name ≠ "<init>") 
    {q sb b4 k C0 S0 sa u n g : Nat} {cc r0 l0 c0 : Int32} {H0 : Heap} (hk : k < 6) (hsa : s.heap.size ≤ sa) (hC0 : C0 ≤ R.cells) (hS0 : S0 ≤ R.slots)
    (hK : ∀ (H1 : Heap) (locs1 : List Loc) (cells1 slots1 : Nat) (ls : Array Slot), Fxe (fun x => x = sa) H0 H1 → va_at (gDD G) vwCl (sa, .inr (11, [.int r0, .int l0, .int 0, .int (nI (afC cc k)), .int c0, .int 0, .ref u, .ref n, .ref g])) H1 → va_S A s.heap H1 locs1 → cells1 ≤ C0 → slots1 ≤ S0 → lv_has ls 12 [(8, .int (nI k)), (7, .int cc), (6, .ref sa), (5, .int (nI k)), (4, .ref b4), (0, .ref b), (1, .ref q), (2, .int (nI (maN N xs))), (3, .ref sb)] → W p l e R s m args below meth c H1 locs1 cells1 slots1 Q (F0 m 318 ls [])) :
    ∀ (j a : Nat), a + j = k → ∀ (H : Heap) (locs : List Loc) (cells slots : Nat) (ls : Array Slot), Fxe (fun x => x = sa) H0 H → va_at (gDD G) vwCl (sa, .inr (11, [.int r0, .int l0, .int 0, .int (nI (msk a (afP cc))), .int c0, .int 0, .ref u, .ref n, .ref g])) H → va_S A s.heap H locs → cells ≤ C0 → slots ≤ S0 → lv_has ls 12 [(8, .int (nI a)), (7, .int cc), (6, .ref sa), (5, .int (nI k)), (4, .ref b4), (0, .ref b), (1, .ref q), (2, .int (nI (maN N xs))), (3, .ref sb)] → W p l e R s m args below meth c H locs cells slots Q (F0 m 262 ls []) := by
  have hx := X.1.1
  have hb := X.1.2.1
  intro j
  induction j with
  | zero =>
    intro a ha H locs cells slots ls hfx f0 hS hc hs hl
    obtain rfl : a = k := by omega
    refine lv_iload hx hb dL_law_262 (lv_at hl 0 rfl) ?_
    refine lv_iload hx hb dL_law_264 (lv_at hl 3 rfl) ?_
    refine lv_icmp_ge (tgt := 318) hx hb dL_law_266 (by decide) (fun _ => ?_) (fun hc => absurd (Int32.le_refl _) hc)
    exact hK H locs cells slots ls hfx f0 hS hc hs (lv_sub hl [0, 1, 2, 3, 4, 5, 6, 7, 8] rfl)
  | succ j ih =>
    intro a ha H locs cells slots ls hfx f0 hS hc hs hl
    refine lv_iload hx hb dL_law_262 (lv_at hl 0 rfl) ?_
    refine lv_iload hx hb dL_law_264 (lv_at hl 3 rfl) ?_
    refine lv_icmp_ge (tgt := 318) hx hb dL_law_266 (by decide) (fun hc => absurd hc (nI_ge (by omega) (by omega))) (fun _ => ?_)
    refine lv_aload hx hb dL_law_269 (lv_at hl 2 rfl) ?_
    refine lv_dup hx hb dL_law_271 rfl ?_
    refine p_getN (T := TX12) (N := 9) (k := 3) X f0 inTB_X12 rfl (by decide) m_5_122 rfl dL_law_272 ?_
    refine lv_iload hx hb dL_law_275 (lv_at hl 1 rfl) ?_
    refine lv_bipush (v := 6) hx hb dL_law_277 (by decide) ?_
    refine lv_iload hx hb dL_law_279 (lv_at hl 0 rfl) ?_
    refine lv_iadd hx hb dL_law_281 ?_
    refine lv_to (y := nI (6 + a)) (nI_add 6 a) ?_
    refine w_ishr hx hb dL_law_282 ?_
    refine lv_iconst (v := 1) hx hb dL_law_283 (by decide) ?_
    refine lv_iand hx hb dL_law_284 ?_
    refine lv_to (y := nI (b1C cc (6 + a))) (b1_eq cc (6 + a)) ?_
    refine lv_iconst (v := 1) hx hb dL_law_285 (by decide) ?_
    by_cases c6 : b1C cc (6 + a) = 1
    · skip
      refine lv_icmp_ne (tgt := 307) hx hb dL_law_286 (by decide) (fun hc => absurd (b1_y c6) hc) (fun _ => ?_)
      refine lv_iload hx hb dL_law_289 (lv_at hl 1 rfl) ?_
      refine lv_bipush (v := 12) hx hb dL_law_291 (by decide) ?_
      refine w_ishr hx hb dL_law_293 ?_
      refine lv_iconst (v := 1) hx hb dL_law_294 (by decide) ?_
      refine lv_iand hx hb dL_law_295 ?_
      refine lv_to (y := nI (b1C cc 12)) (b1_eq cc 12) ?_
      refine lv_iconst (v := 1) hx hb dL_law_296 (by decide) ?_
      by_cases c12 : b1C cc 12 = 1
      · skip
        refine lv_icmp_ne (tgt := 307) hx hb dL_law_297 (by decide) (fun hc => absurd (b1_y c12) hc) (fun _ => ?_)
        refine lv_iconst (v := 1) hx hb dL_law_300 (by decide) ?_
        refine lv_iload hx hb dL_law_301 (lv_at hl 0 rfl) ?_
        refine w_ishl hx hb dL_law_303 ?_
        refine lv_goto (tgt := 308) hx hb dL_law_304 (by decide) ?_
        refine lv_ior hx hb dL_law_308 ?_
        refine lv_to (y := nI (msk (a + 1) (afP cc))) (by rw [shl1 a (by omega), or_nI, msk, if_pos (show afP cc a = true by unfold afP; rw [decide_eq_true c6, decide_eq_true c12]; rfl)]) ?_
        refine p_putN (T := TX12) (N := 9) (k := 3) (ty := .int) X f0 inTB_X12 tyX12 tyX12_ok nmX12 rfl (by decide) m_5_122 rfl (by decide +kernel) rfl rfl (Nat.le_of_ble_eq_true rfl) dL_law_309 fun H1 kH1 nH1 zH1 oH1 => ?_
        replace hfx := hfx.step (by omega) (fun q h8 h9 => oH1 q (by have := hfx.1; first | omega | (dsimp only at h9; omega)))
        replace hS := hS.put (k := kH1) zH1 oH1 (hAn _ (by omega))
        replace f0 : va_at (gDD G) vwCl (sa, .inr (11, [.int r0, .int l0, .int 0, .int (nI (msk (a + 1) (afP cc))), .int c0, .int 0, .ref u, .ref n, .ref g])) H1 := nH1
        clear zH1 oH1
        refine lv_iinc (lv' := [(8, .int (nI (a + 1))), (7, .int cc), (6, .ref sa), (5, .int (nI k)), (4, .ref b4), (0, .ref b), (1, .ref q), (2, .int (nI (maN N xs))), (3, .ref sb)]) (k := 0) hx hb dL_law_312 hl rfl (nI_1 a) (by decide) rfl ?_
        clear hl; intro ls hl
        refine lv_goto (tgt := 262) hx hb dL_law_315 (by decide) ?_
        exact ih (a + 1) (by omega) _ _ _ _ ls hfx f0 hS hc hs (lv_sub hl [0, 1, 2, 3, 4, 5, 6, 7, 8] rfl)
      · skip
        refine lv_icmp_ne (tgt := 307) hx hb dL_law_297 (by decide) (fun _ => ?_) (fun hc => absurd hc (b1_ne c12))
        refine lv_iconst (v := 0) hx hb dL_law_307 (by decide) ?_
        refine lv_ior hx hb dL_law_308 ?_
        refine lv_to (y := nI (msk (a + 1) (afP cc))) (by rw [msk, if_neg (show ¬ afP cc a = true by unfold afP; rw [decide_eq_false c12, Bool.and_false]; decide)]; exact or_nI _ 0) ?_
        refine p_putN (T := TX12) (N := 9) (k := 3) (ty := .int) X f0 inTB_X12 tyX12 tyX12_ok nmX12 rfl (by decide) m_5_122 rfl (by decide +kernel) rfl rfl (Nat.le_of_ble_eq_true rfl) dL_law_309 fun H1 kH1 nH1 zH1 oH1 => ?_
        replace hfx := hfx.step (by omega) (fun q h8 h9 => oH1 q (by have := hfx.1; first | omega | (dsimp only at h9; omega)))
        replace hS := hS.put (k := kH1) zH1 oH1 (hAn _ (by omega))
        replace f0 : va_at (gDD G) vwCl (sa, .inr (11, [.int r0, .int l0, .int 0, .int (nI (msk (a + 1) (afP cc))), .int c0, .int 0, .ref u, .ref n, .ref g])) H1 := nH1
        clear zH1 oH1
        refine lv_iinc (lv' := [(8, .int (nI (a + 1))), (7, .int cc), (6, .ref sa), (5, .int (nI k)), (4, .ref b4), (0, .ref b), (1, .ref q), (2, .int (nI (maN N xs))), (3, .ref sb)]) (k := 0) hx hb dL_law_312 hl rfl (nI_1 a) (by decide) rfl ?_
        clear hl; intro ls hl
        refine lv_goto (tgt := 262) hx hb dL_law_315 (by decide) ?_
        exact ih (a + 1) (by omega) _ _ _ _ ls hfx f0 hS hc hs (lv_sub hl [0, 1, 2, 3, 4, 5, 6, 7, 8] rfl)
    · skip
      refine lv_icmp_ne (tgt := 307) hx hb dL_law_286 (by decide) (fun _ => ?_) (fun hc => absurd hc (b1_ne c6))
      refine lv_iconst (v := 0) hx hb dL_law_307 (by decide) ?_
      refine lv_ior hx hb dL_law_308 ?_
      refine lv_to (y := nI (msk (a + 1) (afP cc))) (by rw [msk, if_neg (show ¬ afP cc a = true by unfold afP; rw [decide_eq_false c6, Bool.false_and]; decide)]; exact or_nI _ 0) ?_
      refine p_putN (T := TX12) (N := 9) (k := 3) (ty := .int) X f0 inTB_X12 tyX12 tyX12_ok nmX12 rfl (by decide) m_5_122 rfl (by decide +kernel) rfl rfl (Nat.le_of_ble_eq_true rfl) dL_law_309 fun H1 kH1 nH1 zH1 oH1 => ?_
      replace hfx := hfx.step (by omega) (fun q h8 h9 => oH1 q (by have := hfx.1; first | omega | (dsimp only at h9; omega)))
      replace hS := hS.put (k := kH1) zH1 oH1 (hAn _ (by omega))
      replace f0 : va_at (gDD G) vwCl (sa, .inr (11, [.int r0, .int l0, .int 0, .int (nI (msk (a + 1) (afP cc))), .int c0, .int 0, .ref u, .ref n, .ref g])) H1 := nH1
      clear zH1 oH1
      refine lv_iinc (lv' := [(8, .int (nI (a + 1))), (7, .int cc), (6, .ref sa), (5, .int (nI k)), (4, .ref b4), (0, .ref b), (1, .ref q), (2, .int (nI (maN N xs))), (3, .ref sb)]) (k := 0) hx hb dL_law_312 hl rfl (nI_1 a) (by decide) rfl ?_
      clear hl; intro ls hl
      refine lv_goto (tgt := 262) hx hb dL_law_315 (by decide) ?_
      exact ih (a + 1) (by omega) _ _ _ _ ls hfx f0 hS hc hs (lv_sub hl [0, 1, 2, 3, 4, 5, 6, 7, 8] rfl)
set_option maxHeartbeats 4000000 in
theorem law_C {G : Gt} {l : Launch} {p : Program} {e : Env} {R : Room} {s : State} {m : MethodId} {args : Array Value} {below : List Frame} {meth : Method} {c : Code} {Q : State → Prop} {b N e0 : Nat} {A : Nat → Prop} {xs : Nat → Int32} 
    (X : Cx G p R s m args c 0 0 cL_law 12 RL 40) (hG : AllA G) (hgz : gz G ≤ s.heap.size) (hA : ∀ q, q < s.heap.size → A q → gA G q) (hAn : ∀ q, s.heap.size ≤ q → A q) (hD : EnvD G s) (hE : EnvL G e0 s) (hxs : va_T .int b N (fun k => .int (xs k)) (gA G) s s.heap) (hN : N < 2 ^ 31) (hnm : meth.name ≠ "<init>") 
    {q sb b4 k C0 S0 sa u n g : Nat} {cc r0 l0 c0 f9 : Int32} {H0 : Heap} (hsu : s.heap.size ≤ u) (hun : sa < u ∧ u < n ∧ n < g) (hC0 : C0 ≤ R.cells) (hS0 : S0 ≤ R.slots)
    (hK : ∀ (fu fn fg : Nat → Int32) (H1 : Heap) (locs1 : List Loc) (cells1 slots1 : Nat) (ls : Array Slot), (∀ x, x < 3 → fu x = nI (amC cc 0 x)) → (∀ x, x < 3 → fn x = nI (amC cc 1 x)) → (∀ x, x < 3 → fg x = nI (amC cc 2 x)) → Fxe (fun x => x = u ∨ x = n ∨ x = g) H0 H1 → va_at (gDD G) vwCl (sa, .inr (11, [.int r0, .int l0, .int 0, .int f9, .int c0, .int 0, .ref u, .ref n, .ref g])) H1 → va_at (gDD G) vwCl (u, .inl (gty G 0, 3, .inl fu)) H1 → va_at (gDD G) vwCl (n, .inl (gty G 0, 3, .inl fn)) H1 → va_at (gDD G) vwCl (g, .inl (gty G 0, 3, .inl fg)) H1 → va_S A s.heap H1 locs1 → cells1 ≤ C0 → slots1 ≤ S0 → lv_has ls 12 [(8, .int (nI 3)), (7, .int cc), (6, .ref sa), (5, .int (nI k)), (4, .ref b4), (0, .ref b), (1, .ref q), (2, .int (nI (maN N xs))), (3, .ref sb)] → W p l e R s m args below meth c H1 locs1 cells1 slots1 Q (F0 m 409 ls [])) :
    ∀ (j a : Nat), a + j = 3 → ∀ (fu fn fg : Nat → Int32) (H : Heap) (locs : List Loc) (cells slots : Nat) (ls : Array Slot), (∀ x, x < a → fu x = nI (amC cc 0 x)) → (∀ x, x < a → fn x = nI (amC cc 1 x)) → (∀ x, x < a → fg x = nI (amC cc 2 x)) → Fxe (fun x => x = u ∨ x = n ∨ x = g) H0 H → va_at (gDD G) vwCl (sa, .inr (11, [.int r0, .int l0, .int 0, .int f9, .int c0, .int 0, .ref u, .ref n, .ref g])) H → va_at (gDD G) vwCl (u, .inl (gty G 0, 3, .inl fu)) H → va_at (gDD G) vwCl (n, .inl (gty G 0, 3, .inl fn)) H → va_at (gDD G) vwCl (g, .inl (gty G 0, 3, .inl fg)) H → va_S A s.heap H locs → cells ≤ C0 → slots ≤ S0 → lv_has ls 12 [(8, .int (nI a)), (7, .int cc), (6, .ref sa), (5, .int (nI k)), (4, .ref b4), (0, .ref b), (1, .ref q), (2, .int (nI (maN N xs))), (3, .ref sb)] → W p l e R s m args below meth c H locs cells slots Q (F0 m 321 ls []) := by
  have hx := X.1.1
  have hb := X.1.2.1
  intro j
  induction j with
  | zero =>
    intro a ha fu fn fg H locs cells slots ls e1 e2 e3 hfx f0 a1 a2 a3 hS hc hs hl
    obtain rfl : a = 3 := by omega
    refine lv_iload hx hb dL_law_321 (lv_at hl 0 rfl) ?_
    refine lv_iconst (v := 3) hx hb dL_law_323 (by decide) ?_
    refine lv_icmp_ge (tgt := 409) hx hb dL_law_324 (by decide) (fun _ => ?_) (fun hc => absurd (Int32.le_refl _) hc)
    exact hK fu fn fg H locs cells slots ls e1 e2 e3 hfx f0 a1 a2 a3 hS hc hs (lv_sub hl [0, 1, 2, 3, 4, 5, 6, 7, 8] rfl)
  | succ j ih =>
    intro a ha fu fn fg H locs cells slots ls e1 e2 e3 hfx f0 a1 a2 a3 hS hc hs hl
    have ha3 : a < 3 := by omega
    refine lv_iload hx hb dL_law_321 (lv_at hl 0 rfl) ?_
    refine lv_iconst (v := 3) hx hb dL_law_323 (by decide) ?_
    refine lv_icmp_ge (tgt := 409) hx hb dL_law_324 (by decide) (fun hc => absurd hc (by rw [show (3 : Int32) = nI 3 from rfl]; exact nI_ge ha3 (by decide))) (fun _ => ?_)
    refine lv_aload hx hb dL_law_327 (lv_at hl 2 rfl) ?_
    refine p_getN (T := TX12) (N := 9) (k := 6) X f0 inTB_X12 rfl (by decide) m_5_128 rfl dL_law_329 ?_
    refine lv_iload hx hb dL_law_332 (lv_at hl 0 rfl) ?_
    refine lv_iload hx hb dL_law_334 (lv_at hl 1 rfl) ?_
    refine lv_bipush (v := 13) hx hb dL_law_336 (by decide) ?_
    refine lv_iconst (v := 2) hx hb dL_law_338 (by decide) ?_
    refine lv_iload hx hb dL_law_339 (lv_at hl 0 rfl) ?_
    refine lv_imul hx hb dL_law_341 ?_
    refine lv_to (y := nI (2 * a)) (pk_mul 2 a) ?_
    refine lv_iadd hx hb dL_law_342 ?_
    refine lv_to (y := nI (13 + 2 * a)) (nI_add 13 _) ?_
    refine w_ishr hx hb dL_law_343 ?_
    refine lv_iconst (v := 3) hx hb dL_law_344 (by decide) ?_
    refine lv_to (y := nI 3) rfl ?_
    refine callP_S (As := [.int (ishr cc (nI (13 + 2 * a))), .int (nI 3)]) X hS hA (Mv.true) (fun U hU hv => trivial) m_5_157 m_5_158 mv_L_bound (cp_boundN (Pf := fun _ => True) (v := ishr cc (nI (13 + 2 * a))) (n := 3) (by decide) (by decide)) (by decide) rfl rfl (Nat.le_of_ble_eq_true rfl) hl.1 dL_law_345 (by omega) (by omega) ?_
    refine p_iast (t := 0) X a1 rfl (nI_in ha3 (by decide)) dL_law_348 fun H1 kH1 nH1 zH1 oH1 => ?_
    rw [nI_clamp (by omega)] at nH1
    replace f0 := f0.kept (oH1 _ (by omega))
    replace a2 := a2.kept (oH1 _ (by omega))
    replace a3 := a3.kept (oH1 _ (by omega))
    replace hfx := hfx.step (by omega) (fun q h8 h9 => oH1 q (by have := hfx.1; first | omega | (dsimp only at h9; omega)))
    replace hS := hS.put (k := kH1) zH1 oH1 (hAn _ (by omega))
    replace a1 : va_at (gDD G) vwCl (u, .inl (gty G 0, 3, .inl (upd fu a (nI (amC cc 0 a))))) H1 := nH1
    clear zH1 oH1 nH1
    refine lv_aload hx hb dL_law_349 (lv_at hl 2 rfl) ?_
    refine p_getN (T := TX12) (N := 9) (k := 7) X f0 inTB_X12 rfl (by decide) m_5_131 rfl dL_law_351 ?_
    refine lv_iload hx hb dL_law_354 (lv_at hl 0 rfl) ?_
    refine lv_iload hx hb dL_law_356 (lv_at hl 1 rfl) ?_
    refine lv_bipush (v := 19) hx hb dL_law_358 (by decide) ?_
    refine lv_iload hx hb dL_law_360 (lv_at hl 0 rfl) ?_
    refine lv_iadd hx hb dL_law_362 ?_
    refine lv_to (y := nI (19 + a)) (nI_add 19 a) ?_
    refine w_ishr hx hb dL_law_363 ?_
    refine lv_iconst (v := 1) hx hb dL_law_364 (by decide) ?_
    refine lv_iand hx hb dL_law_365 ?_
    refine lv_to (y := nI (b1C cc (19 + a))) (b1_eq cc (19 + a)) ?_
    refine lv_iconst (v := 1) hx hb dL_law_366 (by decide) ?_
    have m375 : ∀ (locs : List Loc) (x : Int32), va_S A s.heap H1 locs → x = nI (amC cc 1 a) → W p l e R s m args below meth c H1 locs cells slots Q (F0 m 375 ls [.int x, .int (nI a), .ref n]) := by
      intro locs x hS hxx
      subst hxx
      refine p_iast (t := 0) X a2 rfl (nI_in ha3 (by decide)) dL_law_375 fun H2 kH2 nH2 zH2 oH2 => ?_
      rw [nI_clamp (by omega)] at nH2
      replace f0 := f0.kept (oH2 _ (by omega))
      replace a1 := a1.kept (oH2 _ (by omega))
      replace a3 := a3.kept (oH2 _ (by omega))
      replace hfx := hfx.step (by omega) (fun q h8 h9 => oH2 q (by have := hfx.1; first | omega | (dsimp only at h9; omega)))
      replace hS := hS.put (k := kH2) zH2 oH2 (hAn _ (by omega))
      replace a2 : va_at (gDD G) vwCl (n, .inl (gty G 0, 3, .inl (upd fn a (nI (amC cc 1 a))))) H2 := nH2
      clear zH2 oH2 nH2
      refine lv_aload hx hb dL_law_376 (lv_at hl 2 rfl) ?_
      refine p_getN (T := TX12) (N := 9) (k := 8) X f0 inTB_X12 rfl (by decide) m_5_134 rfl dL_law_378 ?_
      refine lv_iload hx hb dL_law_381 (lv_at hl 0 rfl) ?_
      refine lv_iload hx hb dL_law_383 (lv_at hl 1 rfl) ?_
      refine lv_bipush (v := 22) hx hb dL_law_385 (by decide) ?_
      refine lv_iload hx hb dL_law_387 (lv_at hl 0 rfl) ?_
      refine lv_iadd hx hb dL_law_389 ?_
      refine lv_to (y := nI (22 + a)) (nI_add 22 a) ?_
      refine w_ishr hx hb dL_law_390 ?_
      refine lv_iconst (v := 1) hx hb dL_law_391 (by decide) ?_
      refine lv_iand hx hb dL_law_392 ?_
      refine lv_to (y := nI (b1C cc (22 + a))) (b1_eq cc (22 + a)) ?_
      refine lv_iconst (v := 1) hx hb dL_law_393 (by decide) ?_
      have m402 : ∀ (locs : List Loc) (x : Int32), va_S A s.heap H2 locs → x = nI (amC cc 2 a) → W p l e R s m args below meth c H2 locs cells slots Q (F0 m 402 ls [.int x, .int (nI a), .ref g]) := by
        intro locs x hS hxx
        subst hxx
        refine p_iast (t := 0) X a3 rfl (nI_in ha3 (by decide)) dL_law_402 fun H3 kH3 nH3 zH3 oH3 => ?_
        rw [nI_clamp (by omega)] at nH3
        replace f0 := f0.kept (oH3 _ (by omega))
        replace a1 := a1.kept (oH3 _ (by omega))
        replace a2 := a2.kept (oH3 _ (by omega))
        replace hfx := hfx.step (by omega) (fun q h8 h9 => oH3 q (by have := hfx.1; first | omega | (dsimp only at h9; omega)))
        replace hS := hS.put (k := kH3) zH3 oH3 (hAn _ (by omega))
        replace a3 : va_at (gDD G) vwCl (g, .inl (gty G 0, 3, .inl (upd fg a (nI (amC cc 2 a))))) H3 := nH3
        clear zH3 oH3 nH3
        refine lv_iinc (lv' := [(8, .int (nI (a + 1))), (7, .int cc), (6, .ref sa), (5, .int (nI k)), (4, .ref b4), (0, .ref b), (1, .ref q), (2, .int (nI (maN N xs))), (3, .ref sb)]) (k := 0) hx hb dL_law_403 hl rfl (nI_1 a) (by decide) rfl ?_
        clear hl; intro ls hl
        refine lv_goto (tgt := 321) hx hb dL_law_406 (by decide) ?_
        exact ih (a + 1) (by omega) _ _ _ _ _ _ _ ls (fun x hx9 => by by_cases c : x = a; exact (upd_y c).trans (by rw [c]); exact (upd_n c).trans (e1 x (by omega))) (fun x hx9 => by by_cases c : x = a; exact (upd_y c).trans (by rw [c]); exact (upd_n c).trans (e2 x (by omega))) (fun x hx9 => by by_cases c : x = a; exact (upd_y c).trans (by rw [c]); exact (upd_n c).trans (e3 x (by omega))) hfx f0 a1 a2 a3 hS hc hs (lv_sub hl [0, 1, 2, 3, 4, 5, 6, 7, 8] rfl)
      by_cases c22 : b1C cc (22 + a) = 1
      · skip
        refine lv_icmp_ne (tgt := 401) hx hb dL_law_394 (by decide) (fun hc => absurd (b1_y c22) hc) (fun _ => ?_)
        refine lv_iconst (v := 2) hx hb dL_law_397 (by decide) ?_
        refine lv_goto (tgt := 402) hx hb dL_law_398 (by decide) ?_
        exact m402 _ 2 hS (by show (2 : Int32) = nI (amC cc 2 a); unfold amC; rw [if_neg (by decide), if_neg (by decide), if_pos rfl, if_pos c22]; rfl)
      · skip
        refine lv_icmp_ne (tgt := 401) hx hb dL_law_394 (by decide) (fun _ => ?_) (fun hc => absurd hc (b1_ne c22))
        refine lv_iconst (v := 0) hx hb dL_law_401 (by decide) ?_
        exact m402 _ 0 hS (by show (0 : Int32) = nI (amC cc 2 a); unfold amC; rw [if_neg (by decide), if_neg (by decide), if_pos rfl, if_neg c22]; rfl)
    by_cases c19 : b1C cc (19 + a) = 1
    · skip
      refine lv_icmp_ne (tgt := 374) hx hb dL_law_367 (by decide) (fun hc => absurd (b1_y c19) hc) (fun _ => ?_)
      refine lv_iconst (v := 2) hx hb dL_law_370 (by decide) ?_
      refine lv_goto (tgt := 375) hx hb dL_law_371 (by decide) ?_
      exact m375 _ 2 hS (by show (2 : Int32) = nI (amC cc 1 a); unfold amC; rw [if_neg (by decide), if_pos rfl, if_pos c19]; rfl)
    · skip
      refine lv_icmp_ne (tgt := 374) hx hb dL_law_367 (by decide) (fun _ => ?_) (fun hc => absurd hc (b1_ne c19))
      refine lv_iconst (v := 0) hx hb dL_law_374 (by decide) ?_
      exact m375 _ 0 hS (by show (0 : Int32) = nI (amC cc 1 a); unfold amC; rw [if_neg (by decide), if_pos rfl, if_neg c19]; rfl)
