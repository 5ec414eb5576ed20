theorem m_3_63 : Cond.fieldLinkNest RL 124 "QuestLedgerLaw$Game" "steps" "Ljava/util/ArrayList;" "QuestLedgerLaw" ∈ TB := mem_t3 63 (by decide +kernel)
theorem m_7_119 : Cond.methodLink RL 128 yJx4a65c_add_9ea2d ∈ TB := mem_t7 119 (by decide +kernel)
theorem m_7_120 : Cond.instanceMethod yJx4a65c_add_9ea2d ∈ TB := mem_t7 120 (by decide +kernel)
theorem m_7_121 : Cond.selects RJx4a65c yJx4a65c_add_9ea2d yJx4a65c_add_9ea2d ∈ TB := mem_t7 121 (by decide +kernel)
theorem m_7_122 : Cond.code yJx4a65c_add_9ea2d cJx4a65c_add_9ea2d 2 (some .boolean) ∈ TB := mem_t7 122 (by decide +kernel)
theorem mv_Jx4a65c_add_9ea2d : MV yJx4a65c_add_9ea2d cJx4a65c_add_9ea2d 2 (some .boolean) 1 := ⟨m_7_122, by decide +kernel, m_1_4, ⟨by decide +kernel, by decide +kernel, by decide +kernel⟩, by decide⟩
/-! THE LAW: a step is listed and told -/
set_option maxHeartbeats 4000000 in
theorem law_D0 {G : Gt} {l : Launch} {p : Program} {e : Env} {R : Room} {s : State} {m : MethodId} {args : Array Value} {below : List Frame} {meth : Method} {c : Code} {Q : State → Prop} {b N e0 : Nat} {A : Nat → Prop} {xs : Nat → Int32} 
    (X : Cx G p R s m args c 0 0 cL_law 12 RL 40) (hG : AllA G) (hgz : gz G ≤ s.heap.size) (hA : ∀ q, q < s.heap.size → A q → gA G q) (hAn : ∀ q, s.heap.size ≤ q → A q) (hD : EnvD G s) (hE : EnvL G e0 s) (hxs : va_T .int b N (fun k => .int (xs k)) (gA G) s s.heap) (hN : N < 2 ^ 31) (hnm : meth.name ≠ "<init>") 
    {q sb b4 k C0 S0 sa st d cells slots : Nat} {gs vs : List Value} {H : Heap} {locs : List Loc} {ls : Array Slot} (hgs : gs[0]? = some (.ref st)) (hst : s.heap.size ≤ st) (hsa : st ≠ sa) (hCc : C0 + 5 ≤ R.cells) (hCs : S0 + 30 ≤ R.slots) (hc : cells ≤ C0) (hs : slots ≤ S0) (hS : va_S A s.heap H locs) (g0 : va_at (gDD G) vwCl (q, .inr (10, gs)) H) (f0 : va_at (gDD G) vwCl (sa, .inr (11, vs)) H) (h0 : va_at (gDD G) vwCl (st, .inr (12, [.int 0, .ref e0, .int (nI 0)])) H)
    (hK : ∀ (d : Nat) (H1 : Heap) (locs1 : List Loc) (cells1 slots1 : Nat) (ls : Array Slot), H.size ≤ d → Fxe (fun x => x = st) H H1 → va_at (gDD G) vwCl (st, .inr (12, [.int (nI 1), .ref d, .int (nI 1)])) H1 → va_at (gDD G) vwCl (d, .inl (gty G 8, 10, .inr (.inr (.inr (.inr (va_up (fun _ => none) 0 (some sa))))))) H1 → va_S A s.heap H1 locs1 → cells1 ≤ C0 + 1 → slots1 ≤ S0 + 10 → lv_has ls 12 [(6, .ref sa), (5, .int (nI k)), (4, .ref b4), (0, .ref b), (1, .ref q), (2, .int (nI (maN N xs))), (3, .ref sb)] → W p l e R s m args below meth c H1 locs1 cells1 slots1 Q (F0 m 419 ls []))
    (hl : lv_has ls 12 [(6, .ref sa), (5, .int (nI k)), (4, .ref b4), (0, .ref b), (1, .ref q), (2, .int (nI (maN N xs))), (3, .ref sb)]) : W p l e R s m args below meth c H locs cells slots Q (F0 m 409 ls []) := by
  have hx := X.1.1
  have hb := X.1.2.1
  have hfx : Fxe (fun x => x = st) H H := Fxe.rf _ _
  refine lv_aload_n hx hb dL_law_409 rfl (lv_at hl 4 rfl) ?_
  refine p_getN (T := TX11) (N := 9) (k := 0) X g0 inTB_X11 rfl (by decide) m_3_63 hgs dL_law_410 ?_
  refine lv_aload hx hb dL_law_413 (lv_at hl 0 rfl) ?_
  refine callH_V (As := [.ref sa]) X hS hA (Mv.and (Mv.h _) (Mv.and (Mv.h _) EnvL.mv)) (fun U hU hv => ⟨by rw [hU]; exact h0, by rw [hU]; exact f0, hE.to hS hA hU hv⟩) (fun q h9 => hAn q (by simp only [frA, false_or] at h9; have := hS.1; omega)) (p_recv X h0 (r := (RJx4a65c, TJx4a65c, 3)) rfl) m_7_119 m_7_120 m_7_121 mv_Jx4a65c_add_9ea2d (ch_adda (e0 := e0) hG (by omega) hsa) (by decide) rfl rfl (Nat.le_of_ble_eq_true rfl) hl.1 dL_law_415 (by omega) (by omega) fun vH1 H1 locs qH1 zH1 oH1 hS2 => ?_
  have lH1_f0_0 := f0.lt
  have lH1_h0_0 := h0.lt
  have lH1_0 := hS.1
  replace f0 := f0.kept (oH1 _ lH1_f0_0 (fun h9 => by first | exact h9.elim | omega | (dsimp only at h9; omega)))
  replace hfx := hfx.step (by omega) (fun q h8 h9 => oH1 q (Nat.lt_of_lt_of_le h8 hfx.1) (fun h7 => by have := hfx.1; first | exact h7.elim | omega | (dsimp only at h7; omega) | (dsimp only at h9; omega) | (dsimp only at h7 h9; omega)))
  replace hS := hS2; clear hS2 oH1
  clear h0
  obtain ⟨rfl, d, hd, h0, h1⟩ := qH1
  refine lv_pop hx hb dL_law_418 rfl ?_
  exact hK d _ _ _ _ ls hd hfx h0 h1 hS (by omega) (by omega) (lv_sub hl [0, 1, 2, 3, 4, 5, 6] rfl)
set_option maxHeartbeats 4000000 in
theorem law_D1 {G : Gt} {l : Launch} {p : Program} {e : Env} {R : Room} {s : State} {m : MethodId} {args : Array Value} {below : List Frame} {meth : Method} {c : Code} {Q : State → Prop} {b N e0 : Nat} {A : Nat → Prop} {xs : Nat → Int32} 
    (X : Cx G p R s m args c 0 0 cL_law 12 RL 40) (hG : AllA G) (hgz : gz G ≤ s.heap.size) (hA : ∀ q, q < s.heap.size → A q → gA G q) (hAn : ∀ q, s.heap.size ≤ q → A q) (hD : EnvD G s) (hE : EnvL G e0 s) (hxs : va_T .int b N (fun k => .int (xs k)) (gA G) s s.heap) (hN : N < 2 ^ 31) (hnm : meth.name ≠ "<init>") 
    {q sb b4 k C0 S0 sa st d cells slots : Nat} {gs vs : List Value} {H : Heap} {locs : List Loc} {ls : Array Slot} (hgs : gs[0]? = some (.ref st)) (hst : s.heap.size ≤ st) (hsa : st ≠ sa) (hk : k < 9) (hd1 : s.heap.size ≤ d) (hdd : st ≠ d ∧ sa ≠ d) {f : Nat → Option Nat} (hCc : C0 + 5 ≤ R.cells) (hCs : S0 + 30 ≤ R.slots) (hc : cells ≤ C0) (hs : slots ≤ S0) (hS : va_S A s.heap H locs) (g0 : va_at (gDD G) vwCl (q, .inr (10, gs)) H) (f0 : va_at (gDD G) vwCl (sa, .inr (11, vs)) H) (h0 : va_at (gDD G) vwCl (st, .inr (12, [.int (nI k), .ref d, .int (nI k)])) H) (h1 : va_at (gDD G) vwCl (d, .inl (gty G 8, 10, .inr (.inr (.inr (.inr f))))) H)
    (hK : ∀ (H1 : Heap) (locs1 : List Loc) (cells1 slots1 : Nat) (ls : Array Slot), Fxe (fun x => x = st ∨ x = d) H H1 → va_at (gDD G) vwCl (st, .inr (12, [.int (nI (k + 1)), .ref d, .int (nI (k + 1))])) H1 → va_at (gDD G) vwCl (d, .inl (gty G 8, 10, .inr (.inr (.inr (.inr (va_up f k (some sa))))))) H1 → va_S A s.heap H1 locs1 → cells1 ≤ C0 + 1 → slots1 ≤ S0 + 10 → lv_has ls 12 [(6, .ref sa), (5, .int (nI k)), (4, .ref b4), (0, .ref b), (1, .ref q), (2, .int (nI (maN N xs))), (3, .ref sb)] → W p l e R s m args below meth c H1 locs1 cells1 slots1 Q (F0 m 419 ls []))
    (hl : lv_has ls 12 [(6, .ref sa), (5, .int (nI k)), (4, .ref b4), (0, .ref b), (1, .ref q), (2, .int (nI (maN N xs))), (3, .ref sb)]) : W p l e R s m args below meth c H locs cells slots Q (F0 m 409 ls []) := by
  have hx := X.1.1
  have hb := X.1.2.1
  have hfx : Fxe (fun x => x = st ∨ x = d) H H := Fxe.rf _ _
  refine lv_aload_n hx hb dL_law_409 rfl (lv_at hl 4 rfl) ?_
  refine p_getN (T := TX11) (N := 9) (k := 0) X g0 inTB_X11 rfl (by decide) m_3_63 hgs dL_law_410 ?_
  refine lv_aload hx hb dL_law_413 (lv_at hl 0 rfl) ?_
  refine callH_V (As := [.ref sa]) X hS hA (Mv.h fun H => va_at (gDD G) vwCl (st, .inr (12, [.int (nI k), .ref d, .int (nI k)])) H ∧ va_at (gDD G) vwCl (d, .inl (gty G 8, 10, .inr (.inr (.inr (.inr f))))) H ∧ va_at (gDD G) vwCl (sa, .inr (11, vs)) H) (fun U hU hv => by rw [hU]; exact ⟨h0, h1, f0⟩) (fun q h9 => hAn q (by simp only [frA, false_or] at h9; have := hS.1; omega)) (p_recv X h0 (r := (RJx4a65c, TJx4a65c, 3)) rfl) m_7_119 m_7_120 m_7_121 mv_Jx4a65c_add_9ea2d (ch_addb hG (by omega) (by omega) hsa hdd.1 hdd.2 (by omega)) (by decide) rfl rfl (Nat.le_of_ble_eq_true rfl) hl.1 dL_law_415 (by omega) (by omega) fun vH1 H1 locs qH1 zH1 oH1 hS2 => ?_
  have lH1_f0_0 := f0.lt
  have lH1_h0_0 := h0.lt
  have lH1_h1_0 := h1.lt
  have lH1_0 := hS.1
  replace f0 := f0.kept (oH1 _ lH1_f0_0 (fun h9 => by first | exact h9.elim | omega | (dsimp only at h9; omega)))
  replace hfx := hfx.step (by omega) (fun q h8 h9 => oH1 q (Nat.lt_of_lt_of_le h8 hfx.1) (fun h7 => by have := hfx.1; first | exact h7.elim | omega | (dsimp only at h7; omega) | (dsimp only at h9; omega) | (dsimp only at h7 h9; omega)))
  replace hS := hS2; clear hS2 oH1
  clear h0
  clear h1
  obtain ⟨rfl, h0, h1⟩ := qH1
  refine lv_pop hx hb dL_law_418 rfl ?_
  rw [nI_1] at h0
  exact hK _ _ _ _ ls hfx h0 h1 hS (by omega) (by omega) (lv_sub hl [0, 1, 2, 3, 4, 5, 6] rfl)
