/-! THE LAW: before its steps -/
def T2N (N : Nat) (xs : Nat → Int32) : List Nat := T1N N xs 3 ++ cT 33
theorem T2_len (N : Nat) (xs : Nat → Int32) : (T2N N xs).length ≤ 70 := by
  have h1 := T1_len N xs 3 (by decide)
  unfold T2N
  rw [List.length_append, show (cT 33).length = 11 from rfl]
  omega
theorem T2_asc (N : Nat) (xs : Nat → Int32) : asc (T2N N xs) := asc_app (T1_asc N xs 3 (by decide)) (cT_asc (by decide))
set_option maxHeartbeats 4000000 in
theorem law_3 {G : Gt} {l : Launch} {p : Program} {e : Env} {R : Room} {s : State} {m : MethodId} {args : Array Value} {below : List Frame} {meth : Method} {c : Code} {Q : State → Prop} {b N e0 : Nat} {A : Nat → Prop} {xs : Nat → Int32} {ls : Array Slot}
    (X : Cx G p R s m args c 0 0 cL_law 12 RL 40) (hG : AllA G) (hgz : gz G ≤ s.heap.size) (hA : ∀ q, q < s.heap.size → A q → gA G q) (hAn : ∀ q, s.heap.size ≤ q → A q) (hD : EnvD G s) (hE : EnvL G e0 s) (hxs : va_T .int b N (fun k => .int (xs k)) (gA G) s s.heap) (hN : N < 2 ^ 31) (hnm : meth.name ≠ "<init>") (hRc : 100 ≤ R.cells) (hRs : 1000 ≤ R.slots)
    {q sb v C0 S0 cells slots : Nat} {H : Heap} {locs : List Loc} (hsb1 : s.heap.size ≤ sb) (hv1 : s.heap.size ≤ v) (hbv : sb ≠ v) (hCc : C0 + 5 ≤ R.cells) (hCs : S0 + 600 ≤ R.slots) (hc : cells ≤ C0) (hs : slots ≤ S0)
    (hsb : SBs G sb v (T1N N xs 3) H) (hS : va_S A s.heap H locs)
    (hK : ∀ (v2 b4 v4 : Nat) (H1 : Heap) (locs1 : List Loc) (cells1 slots1 : Nat) (ls : Array Slot), s.heap.size ≤ v2 → sb ≠ v2 → (v2 = v ∨ H.size ≤ v2) → H.size ≤ b4 → H.size ≤ v4 → b4 ≠ v2 → v4 ≠ v2 → b4 ≠ v4 → H.size ≤ H1.size → (∀ a, a < H.size → a ≠ sb → a ≠ v → H1[a]? = H[a]?) → SBs G sb v2 (T2N N xs) H1 → SBs G b4 v4 (cT 34) H1 → va_S A s.heap H1 locs1 → cells1 ≤ C0 + 5 → slots1 ≤ S0 + 600 → lv_has ls 12 [(5, .int 0), (4, .ref b4), (0, .ref b), (1, .ref q), (2, .int (nI (maN N xs))), (3, .ref sb)] → W p l e R s m args below meth c H1 locs1 cells1 slots1 Q (F0 m 187 ls []))
    (hl : lv_has ls 12 [(0, .ref b), (1, .ref q), (2, .int (nI (maN N xs))), (3, .ref sb)]) : W p l e R s m args below meth c H locs cells slots Q (F0 m 166 ls []) := by
  have hx := X.1.1
  have hb := X.1.2.1
  have hL := T1_len N xs 3 (by decide)
  have hH0 : H.size ≤ H.size := Nat.le_refl _
  refine lv_aload_n hx hb dL_law_166 rfl (lv_at hl 3 rfl) ?_
  refine p_ldcS (k := 33) X (by decide) rfl rfl dL_law_167 ?_
  have hk33 := sf_const X hS hA (k := 33) (by decide)
  have hl33 := (sf_const X (va_S.rf (A := A)) (fun q h8 h9 => hA q h8 h9) (k := 33) (by decide)).lt
  have hz3 : (cT 33).length = 11 := rfl
  refine callH_V (As := [.ref (gsK G 33)]) X hS hA (Mv.and (Mv.h fun K => SBs G sb v (T1N N xs 3) K) SF.mv) (fun U hU hv => by rw [hU]; exact ⟨hsb, hk33.moved hv⟩) (fun q h9 => hAn q (by simp only [frA, false_or] at h9; have := hS.1; omega)) (p_recv X hsb.obj (r := (RJ4, TJ4, 4)) rfl) m_7_25 m_3_202 m_3_203 mv_J4_append_15ec4 (ch_app (t := T1N N xs 3) (u := cT 33) (v := v) (bt := gsV G 33) hG (by omega) (by omega) (cT_asc (by decide)) (by omega) (by omega) (by omega) (by omega) (by omega) (by omega)) (by decide) rfl rfl (Nat.le_of_ble_eq_true rfl) hl.1 dL_law_169 (by omega) (by omega) fun vH1 H1 locs qH1 zH1 oH1 hS2 => ?_
  have lH1_hsb_0 := hsb.lt.1
  have lH1_hsb_1 := hsb.lt.2
  have lH1_hk33_0 := hk33.lt.1
  have lH1_hk33_1 := hk33.lt.2
  have lH1_0 := hS.1
  replace hk33 := hk33.kept (oH1 _ lH1_hk33_0 (fun h9 => by first | exact h9.elim | omega | (dsimp only at h9; omega))) (oH1 _ lH1_hk33_1 (fun h9 => by first | exact h9.elim | omega | (dsimp only at h9; omega)))
  have hf1 := oH1; replace hS := hS2; clear hS2
  clear hsb
  obtain ⟨rfl, v2, hv2, hsb⟩ := qH1
  refine lv_pop hx hb dL_law_172 rfl ?_
  refine p_new (ci := 13) (fs := [.null, .int 0, .int 0, .int 0]) X inTB_SB tyJ4 tyJ4_ok rfl (by decide +kernel) m_7_6 m_3_171 m_1_6 (by omega) (by omega) dL_law_173 fun H3 nH3 zH3 oH3 => ?_
  have lq2_hk33_0 := hk33.lt.1
  have lq2_hk33_1 := hk33.lt.2
  have lq2_hsb_0 := hsb.lt.1
  have lq2_hsb_1 := hsb.lt.2
  have lq2_0 := hS.1
  replace hk33 := hk33.kept (oH3 _ lq2_hk33_0) (oH3 _ lq2_hk33_1)
  replace hsb := hsb.kept (oH3 _ lq2_hsb_0) (oH3 _ lq2_hsb_1)
  replace hS := hS.new zH3 oH3
  skip
  generalize hq_q2 : Array.size H1 = q2 at nH3 zH3 lq2_0 lq2_hk33_0 lq2_hk33_1 lq2_hsb_0 lq2_hsb_1 ⊢
  have fo4 : va_at (gDD G) vwCl (q2, .inr (13, [.null, .int 0, .int 0, .int 0])) H3 := nH3
  clear nH3
  have hf2 : True := trivial
  refine lv_dup hx hb dL_law_176 rfl ?_
  refine p_ldcS (k := 34) X (by decide) rfl rfl dL_law_177 ?_
  have hk34 := sf_const X hS hA (k := 34) (by decide)
  have hl34 := (sf_const X (va_S.rf (A := A)) (fun q h8 h9 => hA q h8 h9) (k := 34) (by decide)).lt
  have hz4 : (cT 34).length = 1 := rfl
  refine callH_I (As := [.ref (gsK G 34)]) X hS hA (Mv.and (Mv.h fun K => va_at (gDD G) vwCl (q2, .inr (13, [.null, .int 0, .int 0, .int 0])) K) SF.mv) (fun U hU hv => by rw [hU]; exact ⟨fo4, hk34.moved hv⟩) (fun q h9 => hAn q (by simp only [frA, false_or] at h9; have := hS.1; omega)) m_7_109 m_7_110 mv_J4_init_a7421 rfl (ch_SBinitS (u := cT 34) (bt := gsV G 34) hG (by omega) (cT_asc (by decide)) (by omega) (by omega) (by omega)) (by decide) rfl rfl (Nat.le_of_ble_eq_true rfl) hl.1 dL_law_179 (by omega) (by omega) fun vH5 H5 locs qH5 zH5 oH5 hS2 => ?_
  have lH5_hk33_0 := hk33.lt.1
  have lH5_hk33_1 := hk33.lt.2
  have lH5_hsb_0 := hsb.lt.1
  have lH5_hsb_1 := hsb.lt.2
  have lH5_fo4_0 := fo4.lt
  have lH5_hk34_0 := hk34.lt.1
  have lH5_hk34_1 := hk34.lt.2
  have lH5_0 := hS.1
  replace hk33 := hk33.kept (oH5 _ lH5_hk33_0 (fun h9 => by first | exact h9.elim | omega | (dsimp only at h9; omega))) (oH5 _ lH5_hk33_1 (fun h9 => by first | exact h9.elim | omega | (dsimp only at h9; omega)))
  replace hsb := hsb.kept (oH5 _ lH5_hsb_0 (fun h9 => by first | exact h9.elim | omega | (dsimp only at h9; omega))) (oH5 _ lH5_hsb_1 (fun h9 => by first | exact h9.elim | omega | (dsimp only at h9; omega)))
  replace hk34 := hk34.kept (oH5 _ lH5_hk34_0 (fun h9 => by first | exact h9.elim | omega | (dsimp only at h9; omega))) (oH5 _ lH5_hk34_1 (fun h9 => by first | exact h9.elim | omega | (dsimp only at h9; omega)))
  have hf3 := oH5; replace hS := hS2; clear hS2
  clear fo4
  obtain ⟨rfl, v4, hv4, hs4⟩ := qH5
  refine lv_astore (lv' := [(4, .ref q2), (0, .ref b), (1, .ref q), (2, .int (nI (maN N xs))), (3, .ref sb)]) hx hb dL_law_182 hl (by decide) rfl ?_
  clear hl; intro ls hl
  refine lv_iconst (v := 0) hx hb dL_law_184 (by decide) ?_
  refine lv_istore (lv' := [(5, .int 0), (4, .ref q2), (0, .ref b), (1, .ref q), (2, .int (nI (maN N xs))), (3, .ref sb)]) hx hb dL_law_185 hl (by decide) rfl ?_
  clear hl; intro ls hl
  exact hK v2 q2 v4 _ _ _ _ ls (by omega) (by omega) hv2 (by omega) (by omega) (by omega) (by omega) (by omega) (by omega) (fun a h1 h2 h3 => (hf3 a (by omega) (fun h9 => by first | omega | (dsimp only at h9; omega))).trans ((oH3 a (by omega)).trans (hf1 a h1 (fun h9 => by first | omega | (dsimp only at h9; omega))))) hsb hs4 hS (by omega) (by omega) (lv_sub hl [0, 1, 2, 3, 4, 5] rfl)
