/-! THE LAW: the stock, with the list and the ends carried -/
set_option maxHeartbeats 4000000 in
theorem law_2s {G : Gt} {l : Launch} {p : Program} {e : Env} {R : Room} {s : State} {m : MethodId} {args : Array Value} {below : List Frame} {meth : Method} {c : Code} {Q : State → Prop} {b N e0 : Nat} {A : Nat → Prop} {xs : Nat → Int32} 
    (X : Cx G p R s m args c 0 0 cL_law 12 RL 40) (hG : AllA G) (hgz : gz G ≤ s.heap.size) (hA : ∀ q, q < s.heap.size → A q → gA G q) (hAn : ∀ q, s.heap.size ≤ q → A q) (hD : EnvD G s) (hE : EnvL G e0 s) (hxs : va_T .int b N (fun k => .int (xs k)) (gA G) s s.heap) (hN : N < 2 ^ 31) (hnm : meth.name ≠ "<init>") (hRc : 100 ≤ R.cells) (hRs : 1000 ≤ R.slots)
    {q k0 sb : Nat} {st en : Nat} {gs vs : List Value} (hs1 : st ≠ k0) (hs2 : st ≠ sb) (hn1 : en ≠ k0) (hn2 : en ≠ sb) (hgs : gs[1]? = some (.ref k0)) (hk0 : s.heap.size ≤ k0) (hqs : s.heap.size ≤ q) (hq0 : q ≠ k0) (hqb : q ≠ sb)
    {C0 S0 : Nat} (hCc : C0 + 20 ≤ R.cells) (hCs : S0 + 2000 ≤ R.slots)
    (hK : ∀ (v : Nat) (f : Nat → Int32) (H : Heap) (locs : List Loc) (cells slots : Nat) (ls : Array Slot), (∀ i, i < 3 → f i = nI (skN N xs i)) → v ≠ q → v ≠ st → v ≠ en → s.heap.size ≤ sb → s.heap.size ≤ v → sb ≠ v → v ≠ k0 → sb ≠ k0 → va_at (gDD G) vwCl (q, .inr (10, gs)) H → va_at (gDD G) vwCl (k0, .inl (gty G 0, 3, .inl f)) H → va_at (gDD G) vwCl (st, .inr (12, vs)) H → va_at (gDD G) vwCl (en, .inl (gty G 2, 64, .inl (fun _ => 0))) H → SBs G sb v (T1N N xs 3) H → va_S A s.heap H locs → cells ≤ C0 + 12 → slots ≤ S0 + 1200 → lv_has ls 12 [(0, .ref b), (1, .ref q), (2, .int (nI (maN N xs))), (3, .ref sb)] → W p l e R s m args below meth c H locs cells slots Q (F0 m 166 ls [])) :
    ∀ (j k : Nat), k + j = 3 → ∀ (v : Nat) (f : Nat → Int32) (H : Heap) (locs : List Loc) (cells slots : Nat) (ls : Array Slot), (∀ i, i < k → f i = nI (skN N xs i)) → v ≠ q → v ≠ st → v ≠ en → s.heap.size ≤ sb → s.heap.size ≤ v → sb ≠ v → v ≠ k0 → sb ≠ k0 → va_at (gDD G) vwCl (q, .inr (10, gs)) H → va_at (gDD G) vwCl (k0, .inl (gty G 0, 3, .inl f)) H → va_at (gDD G) vwCl (st, .inr (12, vs)) H → va_at (gDD G) vwCl (en, .inl (gty G 2, 64, .inl (fun _ => 0))) H → SBs G sb v (T1N N xs k) H → va_S A s.heap H locs → cells ≤ C0 + 4 * k → slots ≤ S0 + 400 * k → lv_has ls 12 [(4, .int (nI k)), (0, .ref b), (1, .ref q), (2, .int (nI (maN N xs))), (3, .ref sb)] → W p l e R s m args below meth c H locs cells slots Q (F0 m 106 ls []) := by
  have hx := X.1.1
  have hb := X.1.2.1
  intro j
  induction j with
  | zero =>
    intro k hk v f H locs cells slots ls hf hvq hvs hve h1 h2 h3 h4 h5 g0 g2 g1 g3 hsb hS hc hs hl
    obtain rfl : k = 3 := by omega
    refine lv_iload hx hb dL_law_106 (lv_at hl 0 rfl) ?_
    refine lv_iconst (v := 3) hx hb dL_law_108 (by decide) ?_
    refine lv_icmp_ge (tgt := 166) hx hb dL_law_109 (by decide) (fun _ => ?_) (fun hc => absurd (by decide +kernel) hc)
    exact hK v f H locs cells slots ls hf hvq hvs hve h1 h2 h3 h4 h5 g0 g2 g1 g3 hsb hS (by omega) (by omega) (lv_sub hl [1, 2, 3, 4] rfl)
  | succ j ih =>
    intro k hk v f H locs cells slots ls hf hvq hvs hve h1 h2 h3 h4 h5 g0 g2 g1 g3 hsb hS hc hs hl
    have hkn : k < 3 := by omega
    have hL0 := T1_len N xs k (by omega)
    have hd1 := (dec_len k).2
    have hd2 := (dec_len (skN N xs k)).2
    have hsk : skN N xs k < 10000 := Nat.lt_trans (bN_lt _ (by decide)) (by decide)
    have hL1 : (T1N N xs k ++ [32]).length = (T1N N xs k).length + 1 := List.length_append
    have hL2 : (T1N N xs k ++ [32] ++ dec k).length = (T1N N xs k).length + 1 + (dec k).length := by rw [List.length_append, hL1]
    have hL3 : (T1N N xs k ++ [32] ++ dec k ++ [32]).length = (T1N N xs k).length + 1 + (dec k).length + 1 := by rw [List.length_append, hL2]; rfl
    refine lv_iload hx hb dL_law_106 (lv_at hl 0 rfl) ?_
    refine lv_iconst (v := 3) hx hb dL_law_108 (by decide) ?_
    refine lv_icmp_ge (tgt := 166) hx hb dL_law_109 (by decide) (fun hc => absurd hc (by rw [show (3 : Int32) = nI 3 from rfl]; exact nI_ge hkn (by decide))) (fun _ => ?_)
    refine lv_aload_n hx hb dL_law_112 rfl (lv_at hl 2 rfl) ?_
    refine p_getN (T := TX11) (N := 9) (k := 1) X g0 inTB_X11 rfl (by decide) m_3_65 hgs dL_law_113 ?_
    refine lv_iload hx hb dL_law_116 (lv_at hl 0 rfl) ?_
    refine lv_aload_n hx hb dL_law_118 rfl (lv_at hl 1 rfl) ?_
    refine lv_iconst (v := 2) hx hb dL_law_119 (by decide) ?_
    refine lv_to (y := nI 2) rfl ?_
    refine callP_S (As := [.ref b, .int (nI 2)]) X hS hA ((fun U V hv hh q => by show va_T _ _ _ _ _ V V.heap; rw [hh]; exact va_T.moved hv q)) (fun U hU hv => by rw [hU]; exact va_T.moved hv (va_T.at hxs hS hA)) m_5_154 m_5_155 mv_L_cell (cp_cell (N := N) (f := xs) (k := 2) hN (by omega)) (by decide) rfl rfl (Nat.le_of_ble_eq_true rfl) hl.1 dL_law_120 (by omega) (by omega) ?_
    refine lv_iconst (v := 3) hx hb dL_law_123 (by decide) ?_
    refine lv_iload hx hb dL_law_124 (lv_at hl 0 rfl) ?_
    refine lv_imul hx hb dL_law_126 ?_
    refine lv_to (y := nI (3 * k)) (pk_mul 3 k) ?_
    refine w_ishr hx hb dL_law_127 ?_
    refine lv_iconst (v := 5) hx hb dL_law_128 (by decide) ?_
    refine lv_to (y := nI 5) rfl ?_
    refine callP_S (As := [.int (ishr (cellF N xs 2) (nI (3 * k))), .int (nI 5)]) X hS hA (Mv.true) (fun U hU hv => trivial) m_5_157 m_5_158 mv_L_bound (cp_boundN (Pf := fun _ => True) (n := 5) (by decide) (by decide)) (by decide) rfl rfl (Nat.le_of_ble_eq_true rfl) hl.1 dL_law_129 (by omega) (by omega) ?_
    refine p_iast (t := 0) X g2 rfl (nI_in hkn (by decide)) dL_law_132 fun H1 kx n1 z1 o1 => ?_
    rw [nI_clamp (by omega)] at n1
    have hbl := hsb.lt
    replace g0 := g0.kept (o1 _ hq0)
    replace g1 := g1.kept (o1 _ hs1)
    replace g3 := g3.kept (o1 _ hn1)
    replace hsb := hsb.kept (o1 _ h5) (o1 _ h4)
    replace hS := hS.put (k := kx) z1 o1 (hAn _ hk0)
    replace g2 := n1
    clear z1 o1
    refine lv_aload_n hx hb dL_law_133 rfl (lv_at hl 4 rfl) ?_
    refine lv_bipush (v := 32) hx hb dL_law_134 (by decide) ?_
    refine lv_to (y := nI 32) rfl ?_
    refine callH_V (As := [.int (nI 32)]) X hS hA (Mv.h _) (fun U hU hv => by rw [hU]; exact hsb) (fun q h9 => hAn q (by simp only [frA, false_or] at h9; have := hS.1; omega)) (p_recv X hsb.obj (r := (RJ4, TJ4, 4)) rfl) m_7_8 m_7_9 m_7_10 mv_J4_append_cf468 (ch_appC (t := T1N N xs k) (v := v) (x := 32) hG (by omega) (by omega) (by decide) (by omega) (by omega)) (by decide) rfl rfl (Nat.le_of_ble_eq_true rfl) hl.1 dL_law_136 (by omega) (by omega) fun vH1 H1 locs qH1 zH1 oH1 hS2 => ?_
    have lH1_g0_0 := g0.lt
    have lH1_g2_0 := g2.lt
    have lH1_g1_0 := g1.lt
    have lH1_g3_0 := g3.lt
    have lH1_hsb_0 := hsb.lt.1
    have lH1_hsb_1 := hsb.lt.2
    have lH1_0 := hS.1
    replace g0 := g0.kept (oH1 _ lH1_g0_0 (fun h9 => by first | exact h9.elim | omega | (dsimp only at h9; omega)))
    replace g2 := g2.kept (oH1 _ lH1_g2_0 (fun h9 => by first | exact h9.elim | omega | (dsimp only at h9; omega)))
    replace g1 := g1.kept (oH1 _ lH1_g1_0 (fun h9 => by first | exact h9.elim | omega | (dsimp only at h9; omega)))
    replace g3 := g3.kept (oH1 _ lH1_g3_0 (fun h9 => by first | exact h9.elim | omega | (dsimp only at h9; omega)))
    replace hS := hS2; clear hS2 oH1
    clear hsb
    obtain ⟨rfl, w1, hw1, hsb⟩ := qH1
    refine lv_iload hx hb dL_law_139 (lv_at hl 0 rfl) ?_
    refine callH_V (As := [.int (nI k)]) X hS hA (Mv.and (Mv.h fun K => SBs G sb w1 (T1N N xs k ++ [32]) K) EnvD.mv) (fun U hU hv => ⟨by rw [hU]; exact hsb, hD.to hS hA hU hv⟩) (fun q h9 => hAn q (by simp only [frA, false_or] at h9; have := hS.1; omega)) (p_recv X hsb.obj (r := (RJ4, TJ4, 4)) rfl) m_7_21 m_4_66 m_4_67 mv_J4_append_bf812 (ch_appI (t := T1N N xs k ++ [32]) (v := w1) (n := k) hG (by omega) (by omega) (by omega) (by omega) (by omega)) (by decide) rfl rfl (Nat.le_of_ble_eq_true rfl) hl.1 dL_law_141 (by omega) (by omega) fun vH2 H2 locs qH2 zH2 oH2 hS2 => ?_
    have lH2_g0_0 := g0.lt
    have lH2_g2_0 := g2.lt
    have lH2_g1_0 := g1.lt
    have lH2_g3_0 := g3.lt
    have lH2_hsb_0 := hsb.lt.1
    have lH2_hsb_1 := hsb.lt.2
    have lH2_0 := hS.1
    replace g0 := g0.kept (oH2 _ lH2_g0_0 (fun h9 => by first | exact h9.elim | omega | (dsimp only at h9; omega)))
    replace g2 := g2.kept (oH2 _ lH2_g2_0 (fun h9 => by first | exact h9.elim | omega | (dsimp only at h9; omega)))
    replace g1 := g1.kept (oH2 _ lH2_g1_0 (fun h9 => by first | exact h9.elim | omega | (dsimp only at h9; omega)))
    replace g3 := g3.kept (oH2 _ lH2_g3_0 (fun h9 => by first | exact h9.elim | omega | (dsimp only at h9; omega)))
    replace hS := hS2; clear hS2 oH2
    clear hsb
    obtain ⟨rfl, w2, hw2, hsb⟩ := qH2
    refine lv_bipush (v := 32) hx hb dL_law_144 (by decide) ?_
    refine lv_to (y := nI 32) rfl ?_
    refine callH_V (As := [.int (nI 32)]) X hS hA (Mv.h _) (fun U hU hv => by rw [hU]; exact hsb) (fun q h9 => hAn q (by simp only [frA, false_or] at h9; have := hS.1; omega)) (p_recv X hsb.obj (r := (RJ4, TJ4, 4)) rfl) m_7_8 m_7_9 m_7_10 mv_J4_append_cf468 (ch_appC (t := T1N N xs k ++ [32] ++ dec k) (v := w2) (x := 32) hG (by omega) (by omega) (by decide) (by omega) (by omega)) (by decide) rfl rfl (Nat.le_of_ble_eq_true rfl) hl.1 dL_law_146 (by omega) (by omega) fun vH3 H3 locs qH3 zH3 oH3 hS2 => ?_
    have lH3_g0_0 := g0.lt
    have lH3_g2_0 := g2.lt
    have lH3_g1_0 := g1.lt
    have lH3_g3_0 := g3.lt
    have lH3_hsb_0 := hsb.lt.1
    have lH3_hsb_1 := hsb.lt.2
    have lH3_0 := hS.1
    replace g0 := g0.kept (oH3 _ lH3_g0_0 (fun h9 => by first | exact h9.elim | omega | (dsimp only at h9; omega)))
    replace g2 := g2.kept (oH3 _ lH3_g2_0 (fun h9 => by first | exact h9.elim | omega | (dsimp only at h9; omega)))
    replace g1 := g1.kept (oH3 _ lH3_g1_0 (fun h9 => by first | exact h9.elim | omega | (dsimp only at h9; omega)))
    replace g3 := g3.kept (oH3 _ lH3_g3_0 (fun h9 => by first | exact h9.elim | omega | (dsimp only at h9; omega)))
    replace hS := hS2; clear hS2 oH3
    clear hsb
    obtain ⟨rfl, w3, hw3, hsb⟩ := qH3
    refine lv_aload_n hx hb dL_law_149 rfl (lv_at hl 2 rfl) ?_
    refine p_getN (T := TX11) (N := 9) (k := 1) X g0 inTB_X11 rfl (by decide) m_3_65 hgs dL_law_150 ?_
    refine lv_iload hx hb dL_law_153 (lv_at hl 0 rfl) ?_
    refine p_iald (t := 0) X g2 rfl (nI_in hkn (by decide)) dL_law_155 ?_
    refine lv_to (y := nI (skN N xs k)) (by rw [nI_clamp (by omega)]; exact upd_y rfl) ?_
    refine callH_V (As := [.int (nI (skN N xs k))]) X hS hA (Mv.and (Mv.h fun K => SBs G sb w3 (T1N N xs k ++ [32] ++ dec k ++ [32]) K) EnvD.mv) (fun U hU hv => ⟨by rw [hU]; exact hsb, hD.to hS hA hU hv⟩) (fun q h9 => hAn q (by simp only [frA, false_or] at h9; have := hS.1; omega)) (p_recv X hsb.obj (r := (RJ4, TJ4, 4)) rfl) m_7_21 m_4_66 m_4_67 mv_J4_append_bf812 (ch_appI (t := T1N N xs k ++ [32] ++ dec k ++ [32]) (v := w3) (n := skN N xs k) hG (by omega) (by omega) (hsk) (by omega) (by omega)) (by decide) rfl rfl (Nat.le_of_ble_eq_true rfl) hl.1 dL_law_156 (by omega) (by omega) fun vH4 H4 locs qH4 zH4 oH4 hS2 => ?_
    have lH4_g0_0 := g0.lt
    have lH4_g2_0 := g2.lt
    have lH4_g1_0 := g1.lt
    have lH4_g3_0 := g3.lt
    have lH4_hsb_0 := hsb.lt.1
    have lH4_hsb_1 := hsb.lt.2
    have lH4_0 := hS.1
    replace g0 := g0.kept (oH4 _ lH4_g0_0 (fun h9 => by first | exact h9.elim | omega | (dsimp only at h9; omega)))
    replace g2 := g2.kept (oH4 _ lH4_g2_0 (fun h9 => by first | exact h9.elim | omega | (dsimp only at h9; omega)))
    replace g1 := g1.kept (oH4 _ lH4_g1_0 (fun h9 => by first | exact h9.elim | omega | (dsimp only at h9; omega)))
    replace g3 := g3.kept (oH4 _ lH4_g3_0 (fun h9 => by first | exact h9.elim | omega | (dsimp only at h9; omega)))
    replace hS := hS2; clear hS2 oH4
    clear hsb
    obtain ⟨rfl, w4, hw4, hsb⟩ := qH4
    refine lv_pop hx hb dL_law_159 rfl ?_
    refine lv_iinc (lv' := [(4, .int (nI (k + 1))), (0, .ref b), (1, .ref q), (2, .int (nI (maN N xs))), (3, .ref sb)]) (k := 0) hx hb dL_law_160 hl rfl (nI_1 k) (by decide) rfl ?_
    clear hl; intro ls hl
    refine lv_goto (tgt := 106) hx hb dL_law_163 (by decide) ?_
    exact ih (k + 1) (by omega) w4 _ _ _ _ _ ls (fun i hi => by by_cases c : i = k; exact (upd_y c).trans (by rw [c]; rfl); exact (upd_n c).trans (hf i (by omega))) (by omega) (by omega) (by omega) h1 (by omega) (by omega) (by omega) h5 g0 g2 g1 g3 hsb hS (by omega) (by omega) (lv_sub hl [0, 1, 2, 3, 4] rfl)
