/-! THE LAW: the goal is told -/
theorem SBx.fr {G : Gt} {lo sb v0 : Nat} {T : List Nat} {H0 H H1 : Heap} (h : SBx G lo sb v0 T H0 H) (hs : H.size ≤ H1.size) (o : ∀ q : Nat, q < H.size → H1[q]? = H[q]?) : SBx G lo sb v0 T H0 H1 := by
  obtain ⟨hF, v, h1, h2, h3, h4⟩ := h
  have hl := h4.lt
  exact ⟨hF.step hs (fun q a1 _ => o q (Nat.lt_of_lt_of_le a1 hF.1)), v, h1, h2, h3, h4.kept (o _ hl.1) (o _ hl.2)⟩
theorem alS_T : ∀ n, 3 ≤ n → n ≤ 4 → alS n = dec 0 ++ alT (n - 1) 1 := by
  intro n h1 h2
  rcases (by omega : n = 3 ∨ n = 4) with rfl | rfl
  · decide +kernel
  · decide +kernel
/-- the goal's words as the law tells them -/
def gWS (so le n : Nat) : List Nat := if so = 0 then dec le ++ cT 43 ++ alS n ++ cT 44 else if so = 1 then cT 45 else cT 46
theorem gWS_eq {so le n : Nat} (h1 : 3 ≤ n) (h2 : n ≤ 4) : gWS so le n = gW2 so le n := by
  unfold gWS gW2
  rw [alS_T n h1 h2]
section
variable {G : Gt} {p : Program} {l : Launch} {e : Env} {R : Room} {s : State} {m : MethodId} {args : Array Value} {below : List Frame} {meth : Method} {c : Code} {H H0 : Heap} {locs : List Loc} {cells slots : Nat} {Q : State → Prop}
variable {cc : ByteArray} {nL h idx cells0 slots0 : Nat} {own : String} {pc : Nat} {ls : Array Slot} {rest : List Value} {A : Nat → Prop} {sb v0 : Nat} {T u : List Nat}
/-- another builder's text is appended -/
theorem ap_O {b2 v2 : Nat} (X : Cx G p R s m args c cells0 slots0 cc nL own h) (hG : AllA G) (hgz : gz G ≤ s.heap.size) (hA : ∀ q, q < s.heap.size → A q → gA G q) (hAn : ∀ q, s.heap.size ≤ q → A q) (hS : va_S A s.heap H locs) (hsb : s.heap.size ≤ sb) (hu : asc u) (hT : T.length + u.length ≤ 600) (hx : SBx G s.heap.size sb v0 T H0 H) (hsbs2 : SBs G b2 v2 u H) (h0 : b2 < H0.size ∧ v2 < H0.size) (hab : sb ≠ b2 ∧ sb ≠ v2 ∧ v0 ≠ b2 ∧ v0 ≠ v2) (lk : Cond.methodLink own idx yJ4_append_533cd ∈ TB) (hh : 8 < h) (hcat : ((rest).map fun v => v.category).sum ≤ 8) (hls : ls.size = nL) (hd : decode cc pc = .ok (.invokevirtual idx, 3)) (hc : cells + 3 ≤ R.cells) (hs : slots + 2000 ≤ R.slots)
    (kk : ∀ (H1 : Heap) (locs1 : List Loc) (cells1 slots1 : Nat), cells1 ≤ cells + 3 → slots1 ≤ slots + 2000 → H.size ≤ H1.size → SBx G s.heap.size sb v0 (T ++ u) H0 H1 → va_S A s.heap H1 locs1 → W p l e R s m args below meth c H1 locs1 cells1 slots1 Q (F0 m (pc + 3) ls (.ref sb :: rest))) : W p l e R s m args below meth c H locs cells slots Q (F0 m pc ls (.ref b2 :: .ref sb :: rest)) := by
  obtain ⟨hF, v, h1, h2, hne, hsbs⟩ := hx
  have hv : v ≠ b2 ∧ v ≠ v2 := by
    rcases h2 with rfl | h2
    · exact ⟨hab.2.2.1, hab.2.2.2⟩
    · constructor <;> omega
  refine callH_V (As := [.ref b2]) (fr := fun q => q = sb ∨ q = v) X hS hA (Mv.h fun K => SBs G sb v T K ∧ SBs G b2 v2 u K) (fun U hU hv => by rw [hU]; exact ⟨hsbs, hsbs2⟩) (fun q h9 => hAn q (by simp only [frA] at h9; have := hS.1; omega)) (p_recv X hsbs.obj (r := (RJ4, TJ4, 4)) rfl) lk m_7_27 m_7_28 mv_J4_append_533cd (ch_appO (t := T) (u := u) (v := v) (b2 := b2) (v2 := v2) hG (by omega) (by omega) hu (by omega) hne hab.1 hab.2.1 hv.1 hv.2) hh rfl rfl hcat hls hd hc (by omega) fun ov H1 locs1 qH zH oH hS2 => ?_
  obtain ⟨rfl, w, hw, hsb2⟩ := qH
  exact kk H1 locs1 _ _ (by omega) (by omega) zH (SBx.app hF h1 h2 hsb hne hsbs hw zH oH hsb2) hS2
end
set_option maxHeartbeats 4000000 in
theorem law_goal {G : Gt} {l : Launch} {p : Program} {e : Env} {R : Room} {s : State} {m : MethodId} {args : Array Value} {below : List Frame} {meth : Method} {c : Code} {Q : State → Prop} {b N e0 : Nat} {A : Nat → Prop} {xs : Nat → Int32} 
    (X : Cx G p R s m args c 0 0 cL_law 12 RL 40) (hG : AllA G) (hgz : gz G ≤ s.heap.size) (hA : ∀ q, q < s.heap.size → A q → gA G q) (hAn : ∀ q, s.heap.size ≤ q → A q) (hD : EnvD G s) (hE : EnvL G e0 s) (hxs : va_T .int b N (fun k => .int (xs k)) (gA G) s s.heap) (hN : N < 2 ^ 31) (hnm : meth.name ≠ "<init>") 
    {q sb b4 v v4 C0 S0 st k0 en sd le so n cells slots : Nat} {T : List Nat} {H : Heap} {locs : List Loc} {ls : Array Slot} (hsb1 : s.heap.size ≤ sb) (hv1 : s.heap.size ≤ v) (hbv : sb ≠ v) (hq : q ≠ sb ∧ q ≠ v) (hb4 : b4 ≠ sb ∧ b4 ≠ v) (hv4 : v4 ≠ sb ∧ v4 ≠ v) (hso : so < 3) (hle : le < 10000) (hn : n ≤ 4) (hT : T.length ≤ 700) (hCc : C0 + 40 ≤ R.cells) (hCs : S0 + 40000 ≤ R.slots) (hc : cells ≤ C0) (hs : slots ≤ S0) (hS : va_S A s.heap H locs) (g0b : va_at (gDD G) vwCl (q, .inr (10, [.ref st, .ref k0, .int (nI sd), .int 0, .int (nI le), .int (nI so), .null, .int 0, .ref en])) H) (hsb : SBs G sb v T H) (hsb4 : SBs G b4 v4 (alS n) H)
    (hK : ∀ (H1 : Heap) (locs1 : List Loc) (cells1 slots1 : Nat) (ls : Array Slot), SBx G s.heap.size sb v (T ++ cT 42 ++ gWS so le n ++ cT 41) H H1 → va_S A s.heap H1 locs1 → cells1 ≤ C0 + 30 → slots1 ≤ S0 + 30000 → lv_has ls 12 [(4, .ref b4), (0, .ref b), (1, .ref q), (2, .int (nI (maN N xs))), (3, .ref sb)] → W p l e R s m args below meth c H1 locs1 cells1 slots1 Q (F0 m 659 ls []))
    (hl : lv_has ls 12 [(4, .ref b4), (0, .ref b), (1, .ref q), (2, .int (nI (maN N xs))), (3, .ref sb)]) : W p l e R s m args below meth c H locs cells slots Q (F0 m 587 ls []) := by
  have hex := X.1.1
  have hb := X.1.2.1
  have hal := alS_len n (by omega)
  have haa := alS_asc n (by omega)
  have hd1 := (dec_len le).2
  have hz42 : (cT 42).length = 5 := rfl
  have hz43 : (cT 43).length = 5 := rfl
  have hz44 : (cT 44).length = 1 := rfl
  have hz45 : (cT 45).length = 12 := rfl
  have hz46 : (cT 46).length = 7 := rfl
  have hz41 : (cT 41).length = 1 := rfl
  have hM1 : (T ++ cT 42).length = T.length + 5 := by rw [List.length_append]; rfl
  have hx : SBx G s.heap.size sb v (T) H H := SBx.of hsb hv1 hbv
  refine lv_aload_n hex hb dL_law_587 rfl (lv_at hl 4 rfl) ?_
  refine p_ldcS (k := 42) X (by decide) rfl rfl dL_law_588 ?_
  refine ap_K (k := 42) X hG hgz hA hAn hS hsb1 (by decide) (by omega) hx m_7_25 (by decide) (Nat.le_of_ble_eq_true rfl) hl.1 dL_law_590 (by omega) (by omega) fun H1 locs cells slots hcH1 hsH1 zH1 hx hS => ?_
  refine lv_aload_n hex hb dL_law_593 rfl (lv_at hl 2 rfl) ?_
  have g0 := hx.at g0b hq.1 hq.2
  refine p_getN (T := TX11) (N := 9) (k := 5) X g0 inTB_X11 rfl (by decide) m_3_72 rfl dL_law_594 ?_
  have m650 : ∀ (u : List Nat) (a bt : Nat) (H2 : Heap) (locs cells slots : _) (ls : Array Slot), H1.size ≤ H2.size → (∀ x : Nat, x < H1.size → H2[x]? = H1[x]?) → SF a bt u s H2 → (a < s.heap.size ∨ H1.size ≤ a) → (bt < s.heap.size ∨ H1.size ≤ bt) → asc u → u.length ≤ 60 → u = gWS so le n → va_S A s.heap H2 locs → cells ≤ C0 + 20 → slots ≤ S0 + 20000 → lv_has ls 12 [(4, .ref b4), (0, .ref b), (1, .ref q), (2, .int (nI (maN N xs))), (3, .ref sb)] → W p l e R s m args below meth c H2 locs cells slots Q (F0 m 650 ls [.ref a, .ref sb]) := by
    clear hS hl
    intro u a bt H2 locs cells slots ls hz2 ho2 hsf hza hzb hua hul hue hS hc hs hl
    obtain ⟨hF, v2, h1, h2, hne, hsbs⟩ := hx
    have hsl := hsbs.lt
    have hsbs2 : SBs G sb v2 (T ++ cT 42) H2 := hsbs.kept (ho2 _ hsl.1) (ho2 _ hsl.2)
    have hF2 := hF.step hz2 (fun q a1 _ => ho2 q (Nat.lt_of_lt_of_le a1 hF.1))
    have hM2 : (T ++ cT 42 ++ u).length = T.length + 5 + u.length := by rw [List.length_append, hM1]
    refine ap_T (a := a) (bt := bt) X hG hgz hA hAn hS hsb1 hua (by omega) hF2 h1 h2 hne hsbs2 hsf ⟨by omega, by omega, by omega, by omega⟩ m_7_25 (by decide) (Nat.le_of_ble_eq_true rfl) hl.1 dL_law_650 (by omega) (by omega) fun H1 locs cells slots hcH1 hsH1 zH1 hx hS => ?_
    refine p_ldcS (k := 41) X (by decide) rfl rfl dL_law_653 ?_
    refine ap_K (k := 41) X hG hgz hA hAn hS hsb1 (by decide) (by omega) hx m_7_25 (by decide) (Nat.le_of_ble_eq_true rfl) hl.1 dL_law_655 (by omega) (by omega) fun H2 locs cells slots hcH2 hsH2 zH2 hx hS => ?_
    refine lv_pop hex hb dL_law_658 rfl ?_
    exact hK _ _ _ _ ls (by rw [← hue]; exact hx) hS (by omega) (by omega) (lv_sub hl [0, 1, 2, 3, 4] rfl)
  rcases (by omega : so = 0 ∨ so = 1 ∨ so = 2) with rfl | rfl | rfl
  · skip
    have hsl : sb < H1.size := by obtain ⟨_, w9, _, _, _, a4⟩ := hx; exact a4.lt.1
    have hlt4 := hsb4.lt
    have hFg := hx.1.1
    have hsb4g : SBs G b4 v4 (alS n) H1 := hsb4.kept (hx.1.2 _ hlt4.1 (fun q => q.elim hb4.1 hb4.2)) (hx.1.2 _ hlt4.2 (fun q => q.elim hv4.1 hv4.2))
    have hfx : Fxe (fun _ => False) H1 H1 := Fxe.rf _ _
    refine lv_if_ne (tgt := 635) hex hb dL_law_597 (by decide) (fun hc => absurd rfl hc) (fun _ => ?_)
    refine p_new (ci := 13) (fs := [.null, .int 0, .int 0, .int 0]) X inTB_SB tyJ4 tyJ4_ok rfl (by decide +kernel) m_7_6 m_3_171 m_1_6 (by omega) (by omega) dL_law_600 fun H3 nH3 zH3 oH3 => ?_
    have lq2_g0_0 := g0.lt
    have lq2_0 := hS.1
    replace g0 := g0.kept (oH3 _ lq2_g0_0)
    replace hfx := hfx.step (by omega) (fun q h8 h9 => oH3 q (Nat.lt_of_lt_of_le h8 hfx.1))
    replace hS := hS.new zH3 oH3
    clear oH3
    generalize hq_q2 : Array.size H1 = q2 at nH3 zH3 lq2_0 lq2_g0_0 ⊢
    have fo4 : va_at (gDD G) vwCl (q2, .inr (13, [.null, .int 0, .int 0, .int 0])) H3 := nH3
    clear nH3
    refine lv_dup hex hb dL_law_603 rfl ?_
    refine callH_I (As := []) X hS hA (Mv.h _) (fun U hU hv => by rw [hU]; exact fo4) (fun q h9 => hAn q (by simp only [frA, false_or] at h9; have := hS.1; omega)) m_7_7 m_3_173 mv_J4_init_da8c8 rfl (ch_SBinit hG (by omega)) (by decide) rfl rfl (Nat.le_of_ble_eq_true rfl) hl.1 dL_law_604 (by omega) (by omega) fun vH5 H5 locs qH5 zH5 oH5 hS2 => ?_
    have lH5_g0_0 := g0.lt
    have lH5_fo4_0 := fo4.lt
    have lH5_0 := hS.1
    replace g0 := g0.kept (oH5 _ lH5_g0_0 (fun h9 => by first | exact h9.elim | omega | (dsimp only at h9; omega)))
    replace hfx := hfx.step (by omega) (fun q h8 h9 => oH5 q (Nat.lt_of_lt_of_le h8 hfx.1) (fun h7 => by have := hfx.1; first | exact h7.elim | omega | (dsimp only at h7; omega) | (dsimp only at h9; omega) | (dsimp only at h7 h9; omega)))
    replace hS := hS2; clear hS2 oH5
    clear fo4
    obtain ⟨rfl, v5, hv5, h1b, h1c⟩ := qH5
    have hs5 : SBs G q2 v5 [] H5 := ⟨_, _, ⟨h1b, h1c⟩, (fun i hi => absurd hi (Nat.not_lt_zero i)), bfit0, Nat.zero_le _, (by decide)⟩
    have hs5l := hs5.lt
    have hb51 : s.heap.size ≤ q2 := by omega
    have hx5 : SBx G s.heap.size q2 v5 ([]) H5 H5 := SBx.of hs5 (by omega) (by omega)
    have hsb4b : SBs G b4 v4 (alS n) H5 := hsb4g.kept (hfx.2 _ (by omega) (fun q => q)) (hfx.2 _ (by omega) (fun q => q))
    have hfb := hfx
    refine lv_aload_n hex hb dL_law_607 rfl (lv_at hl 2 rfl) ?_
    refine p_getN (T := TX11) (N := 9) (k := 4) X g0 inTB_X11 rfl (by decide) m_3_70 rfl dL_law_608 ?_
    have hz0 : ([] : List Nat).length = 0 := rfl
    refine ap_I (n := le) X hG hgz hA hAn hD hS hb51 (hle) (by omega) hx5 m_7_21 (by decide) (Nat.le_of_ble_eq_true rfl) hl.1 dL_law_611 (by omega) (by omega) fun H6 locs cells slots hcH6 hsH6 zH6 hx5 hS => ?_
    rw [List.nil_append] at hx5
    refine p_ldcS (k := 43) X (by decide) rfl rfl dL_law_614 ?_
    have hM3 : (dec le ++ cT 43).length = (dec le).length + 5 := by rw [List.length_append]; rfl
    refine ap_K (k := 43) X hG hgz hA hAn hS hb51 (by decide) (by omega) hx5 m_7_25 (by decide) (Nat.le_of_ble_eq_true rfl) hl.1 dL_law_616 (by omega) (by omega) fun H7 locs cells slots hcH7 hsH7 zH7 hx5 hS => ?_
    refine lv_aload hex hb dL_law_619 (lv_at hl 0 rfl) ?_
    have hsb4c : SBs G b4 v4 (alS n) H7 := hsb4b.kept (hx5.1.2 _ (by omega) (by dsimp only; omega)) (hx5.1.2 _ (by omega) (by dsimp only; omega))
    have hM4 : (dec le ++ cT 43 ++ alS n).length = (dec le).length + 5 + (alS n).length := by rw [List.length_append, hM3]
    refine ap_O (b2 := b4) (v2 := v4) X hG hgz hA hAn hS hb51 haa (by omega) hx5 hsb4c ⟨by omega, by omega⟩ ⟨by omega, by omega, by omega, by omega⟩ m_7_26 (by decide) (Nat.le_of_ble_eq_true rfl) hl.1 dL_law_621 (by omega) (by omega) fun H8 locs cells slots hcH8 hsH8 zH8 hx5 hS => ?_
    refine p_ldcS (k := 44) X (by decide) rfl rfl dL_law_624 ?_
    refine ap_K (k := 44) X hG hgz hA hAn hS hb51 (by decide) (by omega) hx5 m_7_25 (by decide) (Nat.le_of_ble_eq_true rfl) hl.1 dL_law_626 (by omega) (by omega) fun H9 locs cells slots hcH9 hsH9 zH9 hx5 hS => ?_
    have hfx : Fxe (fun _ => False) H1 H9 := ⟨by have := hfb.1; have := hx5.1.1; omega, fun x h1 h2 => (hx5.1.2 x (by have := hfb.1; omega) (by dsimp only; omega)).trans (hfb.2 x h1 h2)⟩
    have hgs5 : gWS 0 le n = dec le ++ cT 43 ++ alS n ++ cT 44 := if_pos rfl
    have hM5 : (dec le ++ cT 43 ++ alS n ++ cT 44).length = (dec le).length + 5 + (alS n).length + 1 := by rw [List.length_append, hM4]; rfl
    obtain ⟨hF5, v6, _, _, _, hs6⟩ := hx5
    refine callH_V (As := []) X hS hA (Mv.h _) (fun U hU hv => by rw [hU]; exact hs6) (fun q h9 => hAn q (by simp only [frA, false_or] at h9; have := hS.1; omega)) (p_recv X hs6.obj (r := (RJ4, TJ4, 4)) rfl) m_7_108 m_4_91 m_4_92 mv_J4_toString_0e30d (ch_toString (t := dec le ++ cT 43 ++ alS n ++ cT 44) (v := v6) hG (by omega)) (by decide) rfl rfl (Nat.le_of_ble_eq_true rfl) hl.1 dL_law_629 (by omega) (by omega) fun vH10 H10 locs qH10 zH10 oH10 hS2 => ?_
    have lH10_hs6_0 := hs6.lt.1
    have lH10_hs6_1 := hs6.lt.2
    have lH10_0 := hS.1
    replace hfx := hfx.step (by omega) (fun q h8 h9 => oH10 q (Nat.lt_of_lt_of_le h8 hfx.1) (fun h7 => by have := hfx.1; first | exact h7.elim | omega | (dsimp only at h7; omega) | (dsimp only at h9; omega) | (dsimp only at h7 h9; omega)))
    replace hS := hS2; clear hS2 oH10
    clear hs6
    obtain ⟨a6, b6, rfl, ha6, hb6, hst6⟩ := qH10
    refine lv_goto (tgt := 650) hex hb dL_law_632 (by decide) ?_
    exact m650 _ a6 b6 _ _ _ _ ls hfx.1 (fun x h9 => hfx.2 x h9 (fun q => q)) (ST.SF X.2.1.1 (TB_warm (State.WarmedH.refl s) X.1.2.2.2.2) hst6) (Or.inr (by have := hF5.1; have := hfb.1; omega)) (Or.inr (by have := hF5.1; have := hfb.1; omega)) (asc_app (asc_app (asc_app (dec_asc hle) (cT_asc (by decide))) haa) (cT_asc (by decide))) (by omega) hgs5.symm hS (by omega) (by omega) (lv_sub hl [0, 1, 2, 3, 4] rfl)
  · skip
    refine lv_if_ne (tgt := 635) hex hb dL_law_597 (by decide) (fun _ => ?_) (fun hc => absurd hc (by decide))
    refine lv_aload_n hex hb dL_law_635 rfl (lv_at hl 2 rfl) ?_
    refine p_getN (T := TX11) (N := 9) (k := 5) X g0 inTB_X11 rfl (by decide) m_3_72 rfl dL_law_636 ?_
    refine lv_iconst (v := 1) hex hb dL_law_639 (by decide) ?_
    refine lv_icmp_ne (tgt := 648) hex hb dL_law_640 (by decide) (fun hc => absurd rfl hc) (fun _ => ?_)
    refine p_ldcS (k := 45) X (by decide) rfl rfl dL_law_643 ?_
    refine lv_goto (tgt := 650) hex hb dL_law_645 (by decide) ?_
    have hkk := sf_const X hS hA (k := 45) (by decide)
    have hlk := (sf_const X (va_S.rf (A := A)) (fun q h8 h9 => hA q h8 h9) (k := 45) (by decide)).lt
    exact m650 (cT 45) _ (gsV G 45) _ _ _ _ ls (Nat.le_refl _) (fun x _ => rfl) hkk (Or.inl hlk.1) (Or.inl hlk.2) (cT_asc (by decide)) (by decide) (by rfl) hS (by omega) (by omega) (lv_sub hl [0, 1, 2, 3, 4] rfl)
  · skip
    refine lv_if_ne (tgt := 635) hex hb dL_law_597 (by decide) (fun _ => ?_) (fun hc => absurd hc (by decide))
    refine lv_aload_n hex hb dL_law_635 rfl (lv_at hl 2 rfl) ?_
    refine p_getN (T := TX11) (N := 9) (k := 5) X g0 inTB_X11 rfl (by decide) m_3_72 rfl dL_law_636 ?_
    refine lv_iconst (v := 1) hex hb dL_law_639 (by decide) ?_
    refine lv_icmp_ne (tgt := 648) hex hb dL_law_640 (by decide) (fun _ => ?_) (fun hc => absurd hc (by decide))
    refine p_ldcS (k := 46) X (by decide) rfl rfl dL_law_648 ?_
    have hkk := sf_const X hS hA (k := 46) (by decide)
    have hlk := (sf_const X (va_S.rf (A := A)) (fun q h8 h9 => hA q h8 h9) (k := 46) (by decide)).lt
    exact m650 (cT 46) _ (gsV G 46) _ _ _ _ ls (Nat.le_refl _) (fun x _ => rfl) hkk (Or.inl hlk.1) (Or.inl hlk.2) (cT_asc (by decide)) (by decide) (by rfl) hS (by omega) (by omega) (lv_sub hl [0, 1, 2, 3, 4] rfl)
