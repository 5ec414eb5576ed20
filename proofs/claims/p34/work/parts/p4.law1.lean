theorem m_3_30 : Cond.classLink RL 64 "QuestLedgerLaw$Game" ∈ TB := mem_t3 30 (by decide +kernel)
theorem m_3_31 : Cond.instantiable "QuestLedgerLaw$Game" 9 ∈ TB := mem_t3 31 (by decide +kernel)
theorem m_3_32 : Cond.methodLinkNest RL 66 yX11_init "QuestLedgerLaw" ∈ TB := mem_t3 32 (by decide +kernel)
theorem m_3_33 : Cond.instanceMethod yX11_init ∈ TB := mem_t3 33 (by decide +kernel)
theorem m_3_34 : Cond.code yX11_init cX11_init 1 none ∈ TB := mem_t3 34 (by decide +kernel)
theorem m_3_66 : Cond.fieldLinkNest RL 74 "QuestLedgerLaw$Game" "seed" "I" "QuestLedgerLaw" ∈ TB := mem_t3 66 (by decide +kernel)
theorem m_3_70 : Cond.fieldLinkNest RL 81 "QuestLedgerLaw$Game" "least" "I" "QuestLedgerLaw" ∈ TB := mem_t3 70 (by decide +kernel)
theorem m_3_72 : Cond.fieldLinkNest RL 78 "QuestLedgerLaw$Game" "sort" "I" "QuestLedgerLaw" ∈ TB := mem_t3 72 (by decide +kernel)
theorem m_7_109 : Cond.methodLink RL 88 yJ4_init_a7421 ∈ TB := mem_t7 109 (by decide +kernel)
theorem m_7_110 : Cond.instanceMethod yJ4_init_a7421 ∈ TB := mem_t7 110 (by decide +kernel)
theorem m_7_111 : Cond.code yJ4_init_a7421 cJ4_init_a7421 2 none ∈ TB := mem_t7 111 (by decide +kernel)
theorem mv_X11_init : MV yX11_init cX11_init 1 none 0 := ⟨m_3_34, by decide +kernel, m_1_1, ⟨by decide +kernel, by decide +kernel, by decide +kernel⟩, by decide⟩
theorem mv_J4_init_a7421 : MV yJ4_init_a7421 cJ4_init_a7421 2 none 1 := ⟨m_7_111, by decide +kernel, m_1_6, ⟨by decide +kernel, by decide +kernel, by decide +kernel⟩, by decide⟩
/-! THE LAW'S BEGINNING: the game and the text's first words -/
section
variable {G : Gt} {p : Program} {l : Launch} {e : Env} {R : Room} {s : State} {m : MethodId} {args : Array Value} {below : List Frame} {meth : Method} {c : Code} {H : Heap} {locs : List Loc} {cells slots : Nat} {Q : State → Prop}
variable {cc bytes : ByteArray} {nL h h2 maxL n idx cells0 slots0 b mc ms : Nat} {own host : String} {pc : Nat} {ls : Array Slot} {rest st0 : List Value} {y : MethodName} {As : List Value} {Pf : State → Prop} {Qf : Option Value → Heap → Prop} {fr A : Nat → Prop}
theorem callH_IN (X : Cx G p R s m args c cells0 slots0 cc nL own h) (hS : va_S A s.heap H locs) (hA : ∀ q, q < s.heap.size → A q → gA G q) (hM0 : Mv Pf) (hPf : ∀ U : State, U.heap = H → s.vm.Alike U.vm → Pf U) (hfr : ∀ q, frA fr H.size q → A q) (lk : Cond.methodLinkNest own idx y host ∈ TB) (hin : Cond.instanceMethod y ∈ TB) (mv : MV y bytes maxL none n) (hy : y.name = "<init>") (hM : CtH G l y bytes maxL none h2 mc ms (.ref b :: As) H.size fr Pf Qf) (hh : h2 < h) (hst : st0 = As.reverse ++ .ref b :: rest) (hn : As.length = n) (hcat : (rest.map fun v => v.category).sum ≤ 8) (hls : ls.size = nL) (hd : decode cc pc = .ok (.invokespecial idx, 3)) (hc : cells + mc ≤ R.cells) (hs : slots + ms ≤ R.slots)
    (kk : ∀ (ov : Option Value) (H1 : Heap) (locs1 : List Loc), Qf ov H1 → H.size ≤ H1.size → (∀ q : Nat, q < H.size → ¬ fr q → H1[q]? = H[q]?) → va_S A s.heap H1 locs1 → W p l e R s m args below meth c H1 locs1 (cells + mc) (slots + ms) Q (F0 m (pc + 3) ls (ov.toList ++ rest))) : W p l e R s m args below meth c H locs cells slots Q (F0 m pc ls st0) := by
  have hts := X.1.2.2.2.2
  have hf := X.2.2.1
  have hlo := X.2.2.2.1
  obtain ⟨m1, m2, m3, m4, m5⟩ := mv
  exact h_back (a := (.ref b :: As).toArray) hS hfr (va_runIN X.1 hM ⟨va_cnB n hts (mV_good m1 m2) rfl rfl rfl (va_Nw.of rfl (hts _ lk)) (hts _ m3) m4 ⟨by show h2 + 1 ≤ R.frames; omega, by show 8 + (maxL + 11) + 40 * h2 ≤ R.locals; omega⟩, hy, hts _ hin⟩ ⟨Pre0_blind _ _ (Mv.and (Mv.h fun K => K.size = H.size) hM0), pH_of (As := .ref b :: As) X hS hA hPf⟩ rfl hn hls hst (lv_room (ls := ls) (rest := rest) (pc := pc) (m := m) hcat) hd ⟨hc, hs⟩) kk
end
/-- bound, as a number -/
def bN (v : Int32) (n : Nat) : Nat := v.toBitVec.toNat % 2 ^ 31 % n
theorem bN_lt (v : Int32) {n : Nat} (h : 0 < n) : bN v n < n := Nat.mod_lt _ h
theorem bN_eq (v : Int32) {n : Nat} (h0 : 0 < n) (hn : n < 2 ^ 31) : irem (v &&& 2147483647) (nI n) = nI (bN v n) := by
  rw [pk_and v 31 (by decide)]
  exact pk_rem (Nat.mod_lt _ (by decide)) h0 hn
theorem cp_boundN {G : Gt} {l : Launch} {v : Int32} {n : Nat} (h0 : 0 < n) (hn : n < 2 ^ 31) {Pf : State → Prop} : CtP G l yL_bound cL_bound 2 (some .int) 1 [.int v, .int (nI n)] Pf (some (.int (nI (bN v n)))) := by
  rw [← bN_eq v h0 hn]
  exact cp_bound (nI_ne0 h0 hn)
/-- the law's numbers, out of the script's first ints -/
def sdN (N : Nat) (xs : Nat → Int32) : Nat := bN (cellF N xs 0) 10000
def soN (N : Nat) (xs : Nat → Int32) : Nat := bN (cellF N xs 1) 3
def maN (N : Nat) (xs : Nat → Int32) : Nat := 3 + bN (ishr (cellF N xs 1) 3) 2
def leN (N : Nat) (xs : Nat → Int32) : Nat := 1 + bN (ishr (cellF N xs 1) 6) (maN N xs)
theorem maN_in (N : Nat) (xs : Nat → Int32) : 3 ≤ maN N xs ∧ maN N xs ≤ 4 := by
  have := bN_lt (ishr (cellF N xs 1) 3) (n := 2) (by decide)
  unfold maN
  omega
def T0N (N : Nat) (xs : Nat → Int32) : List Nat := cT 31 ++ dec (sdN N xs) ++ cT 32
theorem T0_asc (N : Nat) (xs : Nat → Int32) : asc (T0N N xs) := asc_app (asc_app (cT_asc (by decide)) (dec_asc (bN_lt _ (by decide)))) (cT_asc (by decide))
theorem T0_len (N : Nat) (xs : Nat → Int32) : (T0N N xs).length ≤ 22 := by
  have h1 := (dec_len (sdN N xs)).2
  unfold T0N
  rw [List.length_append, List.length_append, show (cT 31).length = 12 from rfl, show (cT 32).length = 6 from rfl]
  omega
set_option maxHeartbeats 4000000 in
theorem law_1 {G : Gt} {l : Launch} {p : Program} {e : Env} {R : Room} {s : State} {m : MethodId} {args : Array Value} {below : List Frame} {meth : Method} {c : Code} {Q : State → Prop} {b N e0 : Nat} {A : Nat → Prop} {xs : Nat → Int32} {ls : Array Slot}
    (X : Cx G p R s m args c 0 0 cL_law 12 RL 40) (hG : AllA G) (hgz : gz G ≤ s.heap.size) (hA : ∀ q, q < s.heap.size → A q → gA G q) (hAn : ∀ q, s.heap.size ≤ q → A q) (hD : EnvD G s) (hE : EnvL G e0 s) (hxs : va_T .int b N (fun k => .int (xs k)) (gA G) s s.heap) (hN : N < 2 ^ 31) (hnm : meth.name ≠ "<init>") (hRc : 100 ≤ R.cells) (hRs : 1000 ≤ R.slots)
    (hK : ∀ (q st k en sb v : Nat) (H : Heap) (locs : List Loc) (cells slots : Nat) (ls : Array Slot), s.heap.size ≤ q → q < st → st < k → k < en → en < sb → s.heap.size ≤ v → sb ≠ v → v ≠ q → v ≠ st → v ≠ k → v ≠ en → va_at (gDD G) vwCl (q, .inr (10, [.ref st, .ref k, .int (nI (sdN N xs)), .int 0, .int (nI (leN N xs)), .int (nI (soN N xs)), .null, .int 0, .ref en])) H → va_at (gDD G) vwCl (st, .inr (12, [.int 0, .ref e0, .int 0])) H → va_at (gDD G) vwCl (k, .inl (gty G 0, 3, .inl (fun _ => 0))) H → va_at (gDD G) vwCl (en, .inl (gty G 2, 64, .inl (fun _ => 0))) H → SBs G sb v (T0N N xs) H → va_S A s.heap H locs → cells ≤ 40 → slots ≤ 600 → lv_has ls 12 [(0, .ref b), (1, .ref q), (2, .int (nI (maN N xs))), (3, .ref sb)] → W p l e R s m args below meth c H locs cells slots Q (F0 m 103 ls []))
    (hl : lv_has ls 12 [(0, .ref b)]) : W p l e R s m args below meth c s.heap [] 0 0 Q (F0 m 0 ls []) := by
  have hx := X.1.1
  have hb := X.1.2.1
  have hS : va_S A s.heap s.heap [] := va_S.rf
  have hma := maN_in N xs
  have hle : leN N xs < 2 ^ 31 := by have := bN_lt (ishr (cellF N xs 1) 6) (n := maN N xs) (by omega); unfold leN; omega
  refine p_new (ci := 10) (fs := [.null, .null, .int 0, .int 0, .int 0, .int 0, .null, .int 0, .null]) X inTB_X11 tyX11 tyX11_ok rfl (by decide +kernel) m_3_30 m_3_31 m_1_1 (by omega) (by omega) dL_law_0 fun H2 nH2 zH2 oH2 => ?_
  have lq1_0 := hS.1
  replace hS := hS.new zH2 oH2
  clear oH2
  generalize hq_q1 : Array.size s.heap = q1 at nH2 zH2 lq1_0 ⊢
  have fo3 : va_at (gDD G) vwCl (q1, .inr (10, [.null, .null, .int 0, .int 0, .int 0, .int 0, .null, .int 0, .null])) H2 := nH2
  clear nH2
  refine lv_dup hx hb dL_law_3 rfl ?_
  refine callH_IN (As := []) X hS hA (Mv.and (Mv.h _) EnvL.mv) (fun U hU hv => ⟨by rw [hU]; exact fo3, hE.to hS hA hU hv⟩) (fun q h9 => hAn q (by simp only [frA, false_or] at h9; have := hS.1; omega)) m_3_32 m_3_33 mv_X11_init rfl (ch_Game (e0 := e0) hG (by omega)) (by decide) rfl rfl (Nat.le_of_ble_eq_true rfl) hl.1 dL_law_4 (by omega) (by omega) fun vH4 H4 locs qH4 zH4 oH4 hS2 => ?_
  have lH4_fo3_0 := fo3.lt
  have lH4_0 := hS.1
  replace hS := hS2; clear hS2 oH4
  clear fo3
  obtain ⟨rfl, st, k, en, hst, hsk, hke, g0, g1, g2, g3⟩ := qH4
  refine lv_astore_n (lv' := [(1, .ref q1), (0, .ref b)]) hx hb dL_law_7 rfl hl (by decide) rfl ?_
  clear hl; intro ls hl
  refine lv_aload_n hx hb dL_law_8 rfl (lv_at hl 0 rfl) ?_
  refine lv_aload_n hx hb dL_law_9 rfl (lv_at hl 1 rfl) ?_
  refine lv_iconst (v := 0) hx hb dL_law_10 (by decide) ?_
  refine lv_to (y := nI 0) rfl ?_
  refine callP_S (As := [.ref b, .int (nI 0)]) X hS hA ((fun U V hv hh q => by show va_T _ _ _ _ _ V V.heap; rw [hh]; exact va_T.moved hv q)) (fun U hU hv => by rw [hU]; exact va_T.moved hv (va_T.at hxs hS hA)) m_5_154 m_5_155 mv_L_cell (cp_cell (N := N) (f := xs) (k := 0) hN (by omega)) (by decide) rfl rfl (Nat.le_of_ble_eq_true rfl) hl.1 dL_law_11 (by omega) (by omega) ?_
  refine lv_sipush (v := 10000) hx hb dL_law_14 (by decide) ?_
  refine lv_to (y := nI 10000) rfl ?_
  refine callP_S (As := [.int (cellF N xs 0), .int (nI 10000)]) X hS hA (Mv.true) (fun U hU hv => trivial) m_5_157 m_5_158 mv_L_bound (cp_boundN (Pf := fun _ => True) (n := 10000) (by decide) (by decide)) (by decide) rfl rfl (Nat.le_of_ble_eq_true rfl) hl.1 dL_law_17 (by omega) (by omega) ?_
  refine p_putN (T := TX11) (N := 9) (k := 2) (ty := .int) X g0 inTB_X11 tyX11 tyX11_ok nmX11 rfl (by decide) m_3_66 rfl (by decide +kernel) rfl rfl (Nat.le_of_ble_eq_true rfl) dL_law_20 fun H5 kH5 nH5 zH5 oH5 => ?_
  replace g1 := g1.kept (oH5 _ (by omega))
  replace g2 := g2.kept (oH5 _ (by omega))
  replace g3 := g3.kept (oH5 _ (by omega))
  replace hS := hS.put (k := kH5) zH5 oH5 (hAn _ (by omega))
  replace g0 : va_at (gDD G) vwCl (q1, .inr (10, [.ref st, .ref k, .int (nI (sdN N xs)), .int 0, .int 0, .int 0, .null, .int 0, .ref en])) H5 := nH5
  clear zH5 oH5
  refine lv_aload_n hx hb dL_law_23 rfl (lv_at hl 0 rfl) ?_
  refine lv_aload_n hx hb dL_law_24 rfl (lv_at hl 1 rfl) ?_
  refine lv_iconst (v := 1) hx hb dL_law_25 (by decide) ?_
  refine lv_to (y := nI 1) rfl ?_
  refine callP_S (As := [.ref b, .int (nI 1)]) X hS hA ((fun U V hv hh q => by show va_T _ _ _ _ _ V V.heap; rw [hh]; exact va_T.moved hv q)) (fun U hU hv => by rw [hU]; exact va_T.moved hv (va_T.at hxs hS hA)) m_5_154 m_5_155 mv_L_cell (cp_cell (N := N) (f := xs) (k := 1) hN (by omega)) (by decide) rfl rfl (Nat.le_of_ble_eq_true rfl) hl.1 dL_law_26 (by omega) (by omega) ?_
  refine lv_iconst (v := 3) hx hb dL_law_29 (by decide) ?_
  refine lv_to (y := nI 3) rfl ?_
  refine callP_S (As := [.int (cellF N xs 1), .int (nI 3)]) X hS hA (Mv.true) (fun U hU hv => trivial) m_5_157 m_5_158 mv_L_bound (cp_boundN (Pf := fun _ => True) (n := 3) (by decide) (by decide)) (by decide) rfl rfl (Nat.le_of_ble_eq_true rfl) hl.1 dL_law_30 (by omega) (by omega) ?_
  refine p_putN (T := TX11) (N := 9) (k := 5) (ty := .int) X g0 inTB_X11 tyX11 tyX11_ok nmX11 rfl (by decide) m_3_72 rfl (by decide +kernel) rfl rfl (Nat.le_of_ble_eq_true rfl) dL_law_33 fun H6 kH6 nH6 zH6 oH6 => ?_
  replace g1 := g1.kept (oH6 _ (by omega))
  replace g2 := g2.kept (oH6 _ (by omega))
  replace g3 := g3.kept (oH6 _ (by omega))
  replace hS := hS.put (k := kH6) zH6 oH6 (hAn _ (by omega))
  replace g0 : va_at (gDD G) vwCl (q1, .inr (10, [.ref st, .ref k, .int (nI (sdN N xs)), .int 0, .int 0, .int (nI (soN N xs)), .null, .int 0, .ref en])) H6 := nH6
  clear zH6 oH6
  refine lv_iconst (v := 3) hx hb dL_law_36 (by decide) ?_
  refine lv_aload_n hx hb dL_law_37 rfl (lv_at hl 1 rfl) ?_
  refine lv_iconst (v := 1) hx hb dL_law_38 (by decide) ?_
  refine lv_to (y := nI 1) rfl ?_
  refine callP_S (As := [.ref b, .int (nI 1)]) X hS hA ((fun U V hv hh q => by show va_T _ _ _ _ _ V V.heap; rw [hh]; exact va_T.moved hv q)) (fun U hU hv => by rw [hU]; exact va_T.moved hv (va_T.at hxs hS hA)) m_5_154 m_5_155 mv_L_cell (cp_cell (N := N) (f := xs) (k := 1) hN (by omega)) (by decide) rfl rfl (Nat.le_of_ble_eq_true rfl) hl.1 dL_law_39 (by omega) (by omega) ?_
  refine lv_iconst (v := 3) hx hb dL_law_42 (by decide) ?_
  refine w_ishr hx hb dL_law_43 ?_
  refine lv_iconst (v := 2) hx hb dL_law_44 (by decide) ?_
  refine lv_to (y := nI 2) rfl ?_
  refine callP_S (As := [.int (ishr (cellF N xs 1) 3), .int (nI 2)]) X hS hA (Mv.true) (fun U hU hv => trivial) m_5_157 m_5_158 mv_L_bound (cp_boundN (Pf := fun _ => True) (v := ishr (cellF N xs 1) 3) (n := 2) (by decide) (by decide)) (by decide) rfl rfl (Nat.le_of_ble_eq_true rfl) hl.1 dL_law_45 (by omega) (by omega) ?_
  refine lv_iadd hx hb dL_law_48 ?_
  refine lv_to (y := nI (maN N xs)) (nI_add 3 _) ?_
  refine lv_istore_n (lv' := [(2, .int (nI (maN N xs))), (1, .ref q1), (0, .ref b)]) hx hb dL_law_49 rfl hl (by decide) rfl ?_
  clear hl; intro ls hl
  refine lv_aload_n hx hb dL_law_50 rfl (lv_at hl 1 rfl) ?_
  refine lv_iconst (v := 1) hx hb dL_law_51 (by decide) ?_
  refine lv_aload_n hx hb dL_law_52 rfl (lv_at hl 2 rfl) ?_
  refine lv_iconst (v := 1) hx hb dL_law_53 (by decide) ?_
  refine lv_to (y := nI 1) rfl ?_
  refine callP_S (As := [.ref b, .int (nI 1)]) X hS hA ((fun U V hv hh q => by show va_T _ _ _ _ _ V V.heap; rw [hh]; exact va_T.moved hv q)) (fun U hU hv => by rw [hU]; exact va_T.moved hv (va_T.at hxs hS hA)) m_5_154 m_5_155 mv_L_cell (cp_cell (N := N) (f := xs) (k := 1) hN (by omega)) (by decide) rfl rfl (Nat.le_of_ble_eq_true rfl) hl.1 dL_law_54 (by omega) (by omega) ?_
  refine lv_bipush (v := 6) hx hb dL_law_57 (by decide) ?_
  refine w_ishr hx hb dL_law_59 ?_
  refine lv_iload_n hx hb dL_law_60 rfl (lv_at hl 0 rfl) ?_
  refine callP_S (As := [.int (ishr (cellF N xs 1) 6), .int (nI (maN N xs))]) X hS hA (Mv.true) (fun U hU hv => trivial) m_5_157 m_5_158 mv_L_bound (cp_boundN (Pf := fun _ => True) (v := ishr (cellF N xs 1) 6) (n := maN N xs) (by omega) (by omega)) (by decide) rfl rfl (Nat.le_of_ble_eq_true rfl) hl.1 dL_law_61 (by omega) (by omega) ?_
  refine lv_iadd hx hb dL_law_64 ?_
  refine lv_to (y := nI (leN N xs)) (nI_add 1 _) ?_
  refine p_putN (T := TX11) (N := 9) (k := 4) (ty := .int) X g0 inTB_X11 tyX11 tyX11_ok nmX11 rfl (by decide) m_3_70 rfl (by decide +kernel) rfl rfl (Nat.le_of_ble_eq_true rfl) dL_law_65 fun H7 kH7 nH7 zH7 oH7 => ?_
  replace g1 := g1.kept (oH7 _ (by omega))
  replace g2 := g2.kept (oH7 _ (by omega))
  replace g3 := g3.kept (oH7 _ (by omega))
  replace hS := hS.put (k := kH7) zH7 oH7 (hAn _ (by omega))
  replace g0 : va_at (gDD G) vwCl (q1, .inr (10, [.ref st, .ref k, .int (nI (sdN N xs)), .int 0, .int (nI (leN N xs)), .int (nI (soN N xs)), .null, .int 0, .ref en])) H7 := nH7
  clear zH7 oH7
  refine p_new (ci := 13) (fs := [.null, .int 0, .int 0, .int 0]) X inTB_SB tyJ4 tyJ4_ok rfl (by decide +kernel) m_7_6 m_3_171 m_1_6 (by omega) (by omega) dL_law_68 fun H9 nH9 zH9 oH9 => ?_
  have lq8_g0_0 := g0.lt
  have lq8_g1_0 := g1.lt
  have lq8_g2_0 := g2.lt
  have lq8_g3_0 := g3.lt
  have lq8_0 := hS.1
  replace g0 := g0.kept (oH9 _ lq8_g0_0)
  replace g1 := g1.kept (oH9 _ lq8_g1_0)
  replace g2 := g2.kept (oH9 _ lq8_g2_0)
  replace g3 := g3.kept (oH9 _ lq8_g3_0)
  replace hS := hS.new zH9 oH9
  clear oH9
  generalize hq_q8 : Array.size H7 = q8 at nH9 zH9 lq8_0 lq8_g0_0 lq8_g1_0 lq8_g2_0 lq8_g3_0 ⊢
  have fo10 : va_at (gDD G) vwCl (q8, .inr (13, [.null, .int 0, .int 0, .int 0])) H9 := nH9
  clear nH9
  refine lv_dup hx hb dL_law_71 rfl ?_
  refine p_new (ci := 13) (fs := [.null, .int 0, .int 0, .int 0]) X inTB_SB tyJ4 tyJ4_ok rfl (by decide +kernel) m_7_6 m_3_171 m_1_6 (by omega) (by omega) dL_law_72 fun H12 nH12 zH12 oH12 => ?_
  have lq11_g0_0 := g0.lt
  have lq11_g1_0 := g1.lt
  have lq11_g2_0 := g2.lt
  have lq11_g3_0 := g3.lt
  have lq11_fo10_0 := fo10.lt
  have lq11_0 := hS.1
  replace g0 := g0.kept (oH12 _ lq11_g0_0)
  replace g1 := g1.kept (oH12 _ lq11_g1_0)
  replace g2 := g2.kept (oH12 _ lq11_g2_0)
  replace g3 := g3.kept (oH12 _ lq11_g3_0)
  replace fo10 := fo10.kept (oH12 _ lq11_fo10_0)
  replace hS := hS.new zH12 oH12
  clear oH12
  generalize hq_q11 : Array.size H9 = q11 at nH12 zH12 lq11_0 lq11_g0_0 lq11_g1_0 lq11_g2_0 lq11_g3_0 lq11_fo10_0 ⊢
  have fo13 : va_at (gDD G) vwCl (q11, .inr (13, [.null, .int 0, .int 0, .int 0])) H12 := nH12
  clear nH12
  refine lv_dup hx hb dL_law_75 rfl ?_
  refine callH_I (As := []) X hS hA (Mv.h _) (fun U hU hv => by rw [hU]; exact fo13) (fun q h9 => hAn q (by simp only [frA, false_or] at h9; have := hS.1; omega)) m_7_7 m_3_173 mv_J4_init_da8c8 rfl (ch_SBinit hG (by omega)) (by decide) rfl rfl (Nat.le_of_ble_eq_true rfl) hl.1 dL_law_76 (by omega) (by omega) fun vH14 H14 locs qH14 zH14 oH14 hS2 => ?_
  have lH14_g0_0 := g0.lt
  have lH14_g1_0 := g1.lt
  have lH14_g2_0 := g2.lt
  have lH14_g3_0 := g3.lt
  have lH14_fo10_0 := fo10.lt
  have lH14_fo13_0 := fo13.lt
  have lH14_0 := hS.1
  replace g0 := g0.kept (oH14 _ lH14_g0_0 (fun h9 => by first | exact h9.elim | omega | (dsimp only at h9; omega)))
  replace g1 := g1.kept (oH14 _ lH14_g1_0 (fun h9 => by first | exact h9.elim | omega | (dsimp only at h9; omega)))
  replace g2 := g2.kept (oH14 _ lH14_g2_0 (fun h9 => by first | exact h9.elim | omega | (dsimp only at h9; omega)))
  replace g3 := g3.kept (oH14 _ lH14_g3_0 (fun h9 => by first | exact h9.elim | omega | (dsimp only at h9; omega)))
  replace fo10 := fo10.kept (oH14 _ lH14_fo10_0 (fun h9 => by first | exact h9.elim | omega | (dsimp only at h9; omega)))
  replace hS := hS2; clear hS2 oH14
  clear fo13
  obtain ⟨rfl, v1, hv1, h1, h1b⟩ := qH14
  have hs2 : SBs G q11 v1 [] _ := ⟨_, _, ⟨h1, h1b⟩, (fun i hi => absurd hi (Nat.not_lt_zero i)), bfit0, Nat.zero_le _, (by decide)⟩
  have hz0 : ([] : List Nat).length = 0 := rfl
  refine p_ldcS (k := 31) X (by decide) rfl rfl dL_law_79 ?_
  have hk31 := sf_const X hS hA (k := 31) (by decide)
  have hl31 := (sf_const X (va_S.rf (A := A)) (fun q h8 h9 => hA q h8 h9) (k := 31) (by decide)).lt
  have hz1 : (cT 31).length = 12 := rfl
  refine callH_V (As := [.ref (gsK G 31)]) X hS hA (Mv.and (Mv.h fun K => SBs G q11 v1 [] K) SF.mv) (fun U hU hv => by rw [hU]; exact ⟨hs2, hk31.moved hv⟩) (fun q h9 => hAn q (by simp only [frA, false_or] at h9; have := hS.1; omega)) (p_recv X hs2.obj (r := (RJ4, TJ4, 4)) rfl) m_7_25 m_3_202 m_3_203 mv_J4_append_15ec4 (ch_app (t := []) (u := cT 31) (v := v1) (bt := gsV G 31) hG (by omega) (by omega) (cT_asc (by decide)) (by omega) (by omega) (by omega) (by omega) (by omega) (by omega)) (by decide) rfl rfl (Nat.le_of_ble_eq_true rfl) hl.1 dL_law_81 (by omega) (by omega) fun vH15 H15 locs qH15 zH15 oH15 hS2 => ?_
  have lH15_g0_0 := g0.lt
  have lH15_g1_0 := g1.lt
  have lH15_g2_0 := g2.lt
  have lH15_g3_0 := g3.lt
  have lH15_fo10_0 := fo10.lt
  have lH15_hs2_0 := hs2.lt.1
  have lH15_hs2_1 := hs2.lt.2
  have lH15_hk31_0 := hk31.lt.1
  have lH15_hk31_1 := hk31.lt.2
  have lH15_0 := hS.1
  replace g0 := g0.kept (oH15 _ lH15_g0_0 (fun h9 => by first | exact h9.elim | omega | (dsimp only at h9; omega)))
  replace g1 := g1.kept (oH15 _ lH15_g1_0 (fun h9 => by first | exact h9.elim | omega | (dsimp only at h9; omega)))
  replace g2 := g2.kept (oH15 _ lH15_g2_0 (fun h9 => by first | exact h9.elim | omega | (dsimp only at h9; omega)))
  replace g3 := g3.kept (oH15 _ lH15_g3_0 (fun h9 => by first | exact h9.elim | omega | (dsimp only at h9; omega)))
  replace fo10 := fo10.kept (oH15 _ lH15_fo10_0 (fun h9 => by first | exact h9.elim | omega | (dsimp only at h9; omega)))
  replace hk31 := hk31.kept (oH15 _ lH15_hk31_0 (fun h9 => by first | exact h9.elim | omega | (dsimp only at h9; omega))) (oH15 _ lH15_hk31_1 (fun h9 => by first | exact h9.elim | omega | (dsimp only at h9; omega)))
  replace hS := hS2; clear hS2 oH15
  clear hs2
  obtain ⟨rfl, v2, hv2, hs2⟩ := qH15
  rw [List.nil_append] at hs2
  refine lv_aload_n hx hb dL_law_84 rfl (lv_at hl 1 rfl) ?_
  refine p_getN (T := TX11) (N := 9) (k := 2) X g0 inTB_X11 rfl (by decide) m_3_66 rfl dL_law_85 ?_
  refine callH_V (As := [.int (nI (sdN N xs))]) X hS hA (Mv.and (Mv.h fun K => SBs G q11 v2 (cT 31) K) EnvD.mv) (fun U hU hv => ⟨by rw [hU]; exact hs2, hD.to hS hA hU hv⟩) (fun q h9 => hAn q (by simp only [frA, false_or] at h9; have := hS.1; omega)) (p_recv X hs2.obj (r := (RJ4, TJ4, 4)) rfl) m_7_21 m_4_66 m_4_67 mv_J4_append_bf812 (ch_appI (t := cT 31) (v := v2) (n := sdN N xs) hG (by omega) (by omega) (bN_lt _ (by decide)) (by omega) (by omega)) (by decide) rfl rfl (Nat.le_of_ble_eq_true rfl) hl.1 dL_law_88 (by omega) (by omega) fun vH16 H16 locs qH16 zH16 oH16 hS2 => ?_
  have lH16_g0_0 := g0.lt
  have lH16_g1_0 := g1.lt
  have lH16_g2_0 := g2.lt
  have lH16_g3_0 := g3.lt
  have lH16_fo10_0 := fo10.lt
  have lH16_hk31_0 := hk31.lt.1
  have lH16_hk31_1 := hk31.lt.2
  have lH16_hs2_0 := hs2.lt.1
  have lH16_hs2_1 := hs2.lt.2
  have lH16_0 := hS.1
  replace g0 := g0.kept (oH16 _ lH16_g0_0 (fun h9 => by first | exact h9.elim | omega | (dsimp only at h9; omega)))
  replace g1 := g1.kept (oH16 _ lH16_g1_0 (fun h9 => by first | exact h9.elim | omega | (dsimp only at h9; omega)))
  replace g2 := g2.kept (oH16 _ lH16_g2_0 (fun h9 => by first | exact h9.elim | omega | (dsimp only at h9; omega)))
  replace g3 := g3.kept (oH16 _ lH16_g3_0 (fun h9 => by first | exact h9.elim | omega | (dsimp only at h9; omega)))
  replace fo10 := fo10.kept (oH16 _ lH16_fo10_0 (fun h9 => by first | exact h9.elim | omega | (dsimp only at h9; omega)))
  replace hk31 := hk31.kept (oH16 _ lH16_hk31_0 (fun h9 => by first | exact h9.elim | omega | (dsimp only at h9; omega))) (oH16 _ lH16_hk31_1 (fun h9 => by first | exact h9.elim | omega | (dsimp only at h9; omega)))
  replace hS := hS2; clear hS2 oH16
  clear hs2
  obtain ⟨rfl, v3, hv3, hs2⟩ := qH16
  have hd4 := (dec_len (sdN N xs)).2
  have hz2 : (cT 31 ++ dec (sdN N xs)).length = 12 + (dec (sdN N xs)).length := by rw [List.length_append]; rfl
  refine p_ldcS (k := 32) X (by decide) rfl rfl dL_law_91 ?_
  have hk32 := sf_const X hS hA (k := 32) (by decide)
  have hl32 := (sf_const X (va_S.rf (A := A)) (fun q h8 h9 => hA q h8 h9) (k := 32) (by decide)).lt
  have hz3 : (cT 32).length = 6 := rfl
  refine callH_V (As := [.ref (gsK G 32)]) X hS hA (Mv.and (Mv.h fun K => SBs G q11 v3 (cT 31 ++ dec (sdN N xs)) K) SF.mv) (fun U hU hv => by rw [hU]; exact ⟨hs2, hk32.moved hv⟩) (fun q h9 => hAn q (by simp only [frA, false_or] at h9; have := hS.1; omega)) (p_recv X hs2.obj (r := (RJ4, TJ4, 4)) rfl) m_7_25 m_3_202 m_3_203 mv_J4_append_15ec4 (ch_app (t := cT 31 ++ dec (sdN N xs)) (u := cT 32) (v := v3) (bt := gsV G 32) hG (by omega) (by omega) (cT_asc (by decide)) (by omega) (by omega) (by omega) (by omega) (by omega) (by omega)) (by decide) rfl rfl (Nat.le_of_ble_eq_true rfl) hl.1 dL_law_93 (by omega) (by omega) fun vH17 H17 locs qH17 zH17 oH17 hS2 => ?_
  have lH17_g0_0 := g0.lt
  have lH17_g1_0 := g1.lt
  have lH17_g2_0 := g2.lt
  have lH17_g3_0 := g3.lt
  have lH17_fo10_0 := fo10.lt
  have lH17_hk31_0 := hk31.lt.1
  have lH17_hk31_1 := hk31.lt.2
  have lH17_hs2_0 := hs2.lt.1
  have lH17_hs2_1 := hs2.lt.2
  have lH17_hk32_0 := hk32.lt.1
  have lH17_hk32_1 := hk32.lt.2
  have lH17_0 := hS.1
  replace g0 := g0.kept (oH17 _ lH17_g0_0 (fun h9 => by first | exact h9.elim | omega | (dsimp only at h9; omega)))
  replace g1 := g1.kept (oH17 _ lH17_g1_0 (fun h9 => by first | exact h9.elim | omega | (dsimp only at h9; omega)))
  replace g2 := g2.kept (oH17 _ lH17_g2_0 (fun h9 => by first | exact h9.elim | omega | (dsimp only at h9; omega)))
  replace g3 := g3.kept (oH17 _ lH17_g3_0 (fun h9 => by first | exact h9.elim | omega | (dsimp only at h9; omega)))
  replace fo10 := fo10.kept (oH17 _ lH17_fo10_0 (fun h9 => by first | exact h9.elim | omega | (dsimp only at h9; omega)))
  replace hk31 := hk31.kept (oH17 _ lH17_hk31_0 (fun h9 => by first | exact h9.elim | omega | (dsimp only at h9; omega))) (oH17 _ lH17_hk31_1 (fun h9 => by first | exact h9.elim | omega | (dsimp only at h9; omega)))
  replace hk32 := hk32.kept (oH17 _ lH17_hk32_0 (fun h9 => by first | exact h9.elim | omega | (dsimp only at h9; omega))) (oH17 _ lH17_hk32_1 (fun h9 => by first | exact h9.elim | omega | (dsimp only at h9; omega)))
  replace hS := hS2; clear hS2 oH17
  clear hs2
  obtain ⟨rfl, v4, hv4, hs2⟩ := qH17
  have hz4 := T0_len N xs
  refine callH_V (As := []) X hS hA (Mv.h _) (fun U hU hv => by rw [hU]; exact hs2) (fun q h9 => hAn q (by simp only [frA, false_or] at h9; have := hS.1; omega)) (p_recv X hs2.obj (r := (RJ4, TJ4, 4)) rfl) m_7_108 m_4_91 m_4_92 mv_J4_toString_0e30d (ch_toString (t := T0N N xs) (v := v4) hG (by omega)) (by decide) rfl rfl (Nat.le_of_ble_eq_true rfl) hl.1 dL_law_96 (by omega) (by omega) fun vH18 H18 locs qH18 zH18 oH18 hS2 => ?_
  have lH18_g0_0 := g0.lt
  have lH18_g1_0 := g1.lt
  have lH18_g2_0 := g2.lt
  have lH18_g3_0 := g3.lt
  have lH18_fo10_0 := fo10.lt
  have lH18_hk31_0 := hk31.lt.1
  have lH18_hk31_1 := hk31.lt.2
  have lH18_hk32_0 := hk32.lt.1
  have lH18_hk32_1 := hk32.lt.2
  have lH18_hs2_0 := hs2.lt.1
  have lH18_hs2_1 := hs2.lt.2
  have lH18_0 := hS.1
  replace g0 := g0.kept (oH18 _ lH18_g0_0 (fun h9 => by first | exact h9.elim | omega | (dsimp only at h9; omega)))
  replace g1 := g1.kept (oH18 _ lH18_g1_0 (fun h9 => by first | exact h9.elim | omega | (dsimp only at h9; omega)))
  replace g2 := g2.kept (oH18 _ lH18_g2_0 (fun h9 => by first | exact h9.elim | omega | (dsimp only at h9; omega)))
  replace g3 := g3.kept (oH18 _ lH18_g3_0 (fun h9 => by first | exact h9.elim | omega | (dsimp only at h9; omega)))
  replace fo10 := fo10.kept (oH18 _ lH18_fo10_0 (fun h9 => by first | exact h9.elim | omega | (dsimp only at h9; omega)))
  replace hk31 := hk31.kept (oH18 _ lH18_hk31_0 (fun h9 => by first | exact h9.elim | omega | (dsimp only at h9; omega))) (oH18 _ lH18_hk31_1 (fun h9 => by first | exact h9.elim | omega | (dsimp only at h9; omega)))
  replace hk32 := hk32.kept (oH18 _ lH18_hk32_0 (fun h9 => by first | exact h9.elim | omega | (dsimp only at h9; omega))) (oH18 _ lH18_hk32_1 (fun h9 => by first | exact h9.elim | omega | (dsimp only at h9; omega)))
  replace hS := hS2; clear hS2 oH18
  clear hs2
  obtain ⟨a6, b6, rfl, ha6, hb6, hst6⟩ := qH18
  have hsf := ST.SF X.2.1.1 (TB_warm (State.WarmedH.refl s) X.1.2.2.2.2) hst6
  refine callH_I (As := [.ref a6]) X hS hA (Mv.and (Mv.h fun K => va_at (gDD G) vwCl (q8, .inr (13, [.null, .int 0, .int 0, .int 0])) K) SF.mv) (fun U hU hv => by rw [hU]; exact ⟨fo10, hsf.moved hv⟩) (fun q h9 => hAn q (by simp only [frA, false_or] at h9; have := hS.1; omega)) m_7_109 m_7_110 mv_J4_init_a7421 rfl (ch_SBinitS (u := T0N N xs) (bt := b6) hG (by omega) (T0_asc N xs) (by omega) (by omega) (by omega)) (by decide) rfl rfl (Nat.le_of_ble_eq_true rfl) hl.1 dL_law_99 (by omega) (by omega) fun vH19 H19 locs qH19 zH19 oH19 hS2 => ?_
  have lH19_g0_0 := g0.lt
  have lH19_g1_0 := g1.lt
  have lH19_g2_0 := g2.lt
  have lH19_g3_0 := g3.lt
  have lH19_fo10_0 := fo10.lt
  have lH19_hk31_0 := hk31.lt.1
  have lH19_hk31_1 := hk31.lt.2
  have lH19_hk32_0 := hk32.lt.1
  have lH19_hk32_1 := hk32.lt.2
  have lH19_hst6_0 := hst6.lt.1
  have lH19_hst6_1 := hst6.lt.2
  have lH19_0 := hS.1
  replace g0 := g0.kept (oH19 _ lH19_g0_0 (fun h9 => by first | exact h9.elim | omega | (dsimp only at h9; omega)))
  replace g1 := g1.kept (oH19 _ lH19_g1_0 (fun h9 => by first | exact h9.elim | omega | (dsimp only at h9; omega)))
  replace g2 := g2.kept (oH19 _ lH19_g2_0 (fun h9 => by first | exact h9.elim | omega | (dsimp only at h9; omega)))
  replace g3 := g3.kept (oH19 _ lH19_g3_0 (fun h9 => by first | exact h9.elim | omega | (dsimp only at h9; omega)))
  replace hk31 := hk31.kept (oH19 _ lH19_hk31_0 (fun h9 => by first | exact h9.elim | omega | (dsimp only at h9; omega))) (oH19 _ lH19_hk31_1 (fun h9 => by first | exact h9.elim | omega | (dsimp only at h9; omega)))
  replace hk32 := hk32.kept (oH19 _ lH19_hk32_0 (fun h9 => by first | exact h9.elim | omega | (dsimp only at h9; omega))) (oH19 _ lH19_hk32_1 (fun h9 => by first | exact h9.elim | omega | (dsimp only at h9; omega)))
  replace hst6 := hst6.kept (oH19 _ lH19_hst6_0 (fun h9 => by first | exact h9.elim | omega | (dsimp only at h9; omega))) (oH19 _ lH19_hst6_1 (fun h9 => by first | exact h9.elim | omega | (dsimp only at h9; omega)))
  replace hS := hS2; clear hS2 oH19
  clear fo10
  obtain ⟨rfl, v7, hv7, hs7⟩ := qH19
  refine lv_astore_n (lv' := [(3, .ref q8), (2, .int (nI (maN N xs))), (1, .ref q1), (0, .ref b)]) hx hb dL_law_102 rfl hl (by decide) rfl ?_
  clear hl; intro ls hl
  exact hK q1 st k en q8 v7 _ _ _ _ ls (by omega) (by omega) (by omega) (by omega) (by omega) (by omega) (by omega) (by omega) (by omega) (by omega) (by omega) g0 g1 g2 g3 hs7 hS (by omega) (by omega) (lv_sub hl [3, 2, 1, 0] rfl)
