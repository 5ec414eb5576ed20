theorem m_1_39 : Cond.classLink RL 19 RX10 ∈ TB := mem_t1 39 (by decide +kernel)
theorem m_1_40 : Cond.instantiable RX10 9 ∈ TB := mem_t1 40 (by decide +kernel)
theorem m_1_41 : Cond.methodLink RL 159 yX10_init ∈ TB := mem_t1 41 (by decide +kernel)
theorem m_1_42 : Cond.instanceMethod yX10_init ∈ TB := mem_t1 42 (by decide +kernel)
theorem m_5_161 : Cond.methodLink RL 160 yL_read ∈ TB := mem_t5 161 (by decide +kernel)
theorem m_5_162 : Cond.static yL_read ∈ TB := mem_t5 162 (by decide +kernel)
theorem m_5_163 : Cond.code yL_read cL_read 2 (some .int) ∈ TB := mem_t5 163 (by decide +kernel)
theorem mv_L_read : MV yL_read cL_read 2 (some .int) 2 := ⟨m_5_163, by decide +kernel, m_1_0, ⟨by decide +kernel, by decide +kernel, by decide +kernel⟩, by decide⟩
/-! THE LAW: the class's object is made, the text is read, the first question -/
def sbA (G : Gt) (z : Nat) : Gt := ⟨(z, gDD G, gty G, gad G, gsK G, gsV G, gsA G, fun q => z ≤ q), fun _ _ => Nat.le_add_right _ _⟩
theorem EnvT.toA {G : Gt} {z : Nat} {U : State} {H : Heap} (hz : ∀ q, z ≤ q → gA G q) (h : EnvT G U H) : EnvT (sbA G z) U H := by
  obtain ⟨h1, h2, h3, h4, h5, h6, h7, h8, h9, h10, h11⟩ := h
  exact ⟨fun k hk => ⟨(h1 k hk).1.narrow hz, (h1 k hk).2.1.narrow hz, (h1 k hk).2.2.1.narrow hz, (h1 k hk).2.2.2.narrow hz⟩, h2, ⟨h3.1.narrow hz, h3.2.narrow hz⟩, ⟨h4.1.narrow hz, h4.2.narrow hz⟩, fun k hk => (h5 k hk).narrow hz, h6, h7.narrow hz, h8.narrow hz, h9.narrow hz, h10.narrow hz, h11⟩
theorem wl_sb (G : Gt) (z : Nat) (σ : St) : wl (subG G z) σ = wlE (sbA G z) (ct (sbA G z) σ) 0 609 := by
  unfold wl wlE
  simp only [Nat.zero_add]
  rfl
def VX10 : List Value := [.null, .int 0, .int 0, .null, .null, .null, .null, .null, .null]
section
variable {G : Gt} {p : Program} {l : Launch} {e : Env} {R : Room} {s : State} {m : MethodId} {args : Array Value} {below : List Frame} {meth : Method} {c : Code} {H : Heap} {locs : List Loc} {cells slots : Nat} {Q : State → Prop}
variable {cc : ByteArray} {nL h idx cells0 slots0 z : Nat} {own : String} {pc : Nat} {ls : Array Slot} {rest : List Value} {A : Nat → Prop}
theorem class_new (X : Cx G p R s m args c cells0 slots0 cc nL own h) (hG : AllA G) (hgz : gz G ≤ s.heap.size) (hA : ∀ q, q < s.heap.size → A q → gA G q) (hAn : ∀ q, s.heap.size ≤ q → A q) (hAO : ∀ C ∈ ["QuestLedger$Quest", "QuestLedger$Ledger", "QuestLedger$Token"], va_AO C s) (hS : va_S A s.heap H locs) (hz0 : s.heap.size ≤ z) (hsz : H.size = z + 1) (hob : va_at (gDD G) vwCl (z, .inr (9, VX10)) H) (lk : Cond.methodLink own idx yX10_init ∈ TB) (hh : 5 < h) (hcat : (rest.map fun v => v.category).sum ≤ 8) (hls : ls.size = nL) (hd : decode cc pc = .ok (.invokespecial idx, 3)) (hc : cells + 608 ≤ R.cells) (hs : slots + 23820 ≤ R.slots)
    (kk : ∀ (H1 : Heap) (locs1 : List Loc), CQ G z σ0 H1 → H.size ≤ H1.size → (∀ q : Nat, q < z → H1[q]? = H[q]?) → va_S A s.heap H1 locs1 → W p l e R s m args below meth c H1 locs1 (cells + 608) (slots + 23820) Q (F0 m (pc + 3) ls rest)) : W p l e R s m args below meth c H locs cells slots Q (F0 m pc ls (.ref z :: rest)) := by
  have hts := X.1.2.2.2.2
  have hf := X.2.2.1
  have hlo := X.2.2.2.1
  obtain ⟨m1, m2, m3, m4, m5⟩ := mv_X10_init
  have hpre : PreS s H (va_Pc [.ref (gz (sbA G z) + 0)] (PC0 (sbA G z) 0 (.inr (9, VX10)))) [.ref (gz (sbA G z) + 0)] := by
    refine ⟨PC0_blind _ _ _ _, fun U hU hw => ?_⟩
    obtain ⟨a1, a2, a3, a4⟩ := X.envA hS hA hU hw
    refine ⟨rfl, a1, ⟨a2, by rw [hU, hsz]; exact Nat.le_succ z, EnvT.toA (fun q hq => hG q (by omega)) a4⟩, ⟨fun C hC => (hAO C hC).moved hw.alike, fun q hq => hq⟩, by rw [hU, hsz]; rfl, by rw [hU]; exact hob⟩
  have hr : va_Run p l e R s m args below meth c H locs cells slots 608 23820 (F0 m pc ls (.ref z :: rest)) rest (QC0 (sbA G z) 0 609 [Value.ref (gz (sbA G z) + 0)].toArray) (fun q => gz (sbA G z) + 0 ≤ q) :=
    va_runI (As := []) (n := 0) X.1 (i_X10_init (G := sbA G z) (l := l) 0 kd_0) ⟨callB_of 0 hts (mV_good m1 m2) rfl rfl rfl (hts _ m3) (hts _ lk) m4 ⟨by show 5 + 1 ≤ R.frames; omega, by show 8 + (1 + 11) + 40 * 5 ≤ R.locals; omega⟩, rfl, hts _ m_1_42⟩ hpre rfl rfl hls rfl (lv_room (ls := ls) (rest := rest) (pc := pc) (m := m) hcat) hd ⟨hc, hs⟩
  intro T hT X1
  obtain ⟨v, st₀, t, T', L, h0, X', hL, e1, e2, ⟨hv, hsz2, hP, hz, hk⟩, st⟩ := hr T hT X1
  cases hv
  rw [h0] at hz hk
  have hz1 : H.size ≤ T'.heap.size := by rw [e1]; exact hz
  have hzz : t.heap.size = z + 609 := by rw [hsz2]; show z + (0 + 609) = _; omega
  have hk1 : ∀ q : Nat, q < z → T'.heap[q]? = H[q]? := fun q h1 => by
    rw [e1]
    exact hk q (by omega) (fun h3 => by have h4 : z + 0 ≤ q := h3; omega)
  obtain ⟨t2, a1, b1⟩ := kk T'.heap (locs ++ L) ⟨by rw [wl_sb, e1]; exact hP, by rw [e1, hzz]; exact Nat.le_refl _⟩ hz1 hk1 ⟨Nat.le_trans hS.1 hz1, fun q h1 h2 => by rw [hk1 q (by omega)]; exact hS.2.1 q h1 h2, fun q hq => by
    rcases List.mem_append.mp hq with h | h
    · exact hS.2.2 q h
    · exact hAn _ (by have h4 : z + 0 ≤ q.base := hL q h; omega)⟩ T' rfl X'
  exact ⟨t2, st t2 a1, b1⟩
end
theorem frs0 : Frs σ0 := by
  unfold Frs
  refine ⟨z0_I (by decide) (by decide) (by decide), z0_I (by decide) (by decide) (by decide), z0_I (by decide) (by decide) (by decide), z0_I (by decide) (by decide) (by decide), z0_I (by decide) (by decide) (by decide), fun i hi => ?_, z0_I (by decide) (by decide) (by decide), z0_I (by decide) (by decide) (by decide)⟩
  rw [z0_Ir (by decide)]
set_option maxHeartbeats 4000000 in
theorem law_end {G : Gm} {l : Launch} {p : Program} {e : Env} {R : Room} {s : State} {m : MethodId} {args : Array Value} {below : List Frame} {meth : Method} {c : Code} {Q : State → Prop} {b N C1 S1 : Nat} {A : Nat → Prop} {xs : Nat → Int32} {D : GD} {sd so le n : Nat} {sk : Nat → Nat}
    (X : Cx (gB G) p R s m args c 0 0 cL_law 12 RL 40) (hfl : l.stackTraces = false) (hG : AllA (gB G)) (hgz : gz (gB G) ≤ s.heap.size) (hA : ∀ q, q < s.heap.size → A q → gA (gB G) q) (hAn : ∀ q, s.heap.size ≤ q → A q) (hAO : ∀ C ∈ ["QuestLedger$Quest", "QuestLedger$Ledger", "QuestLedger$Token"], va_AO C s) (hnG : gn G = n) (hgA : ∀ i, kv G i ≠ 99 → s.heap.size ≤ ga G i)
    (hDg : EnvD (gB G) s) (hxs : va_T .int b N (fun k => .int (xs k)) (gA (gB G)) s s.heap) (hN : N < 2 ^ 31)
    (hD : D.ok) (hso : so < 3) (hle : 1 ≤ le ∧ le ≤ n) (hn : 3 ≤ n ∧ n ≤ 4) (hsd : sd ≤ 9999) (hsk : ∀ i, sk i ≤ 4) (hgv : ∀ k i, D.am 2 k i ≤ 2)
    {sb v4 b4 : Nat} {H : Heap} {locs : List Loc} {cells slots : Nat} {ls : Array Slot} {t : List Nat} {τ : St} {vp : Value} (hPG : PG (G.pl vp) τ H) (hGX : GX so le 0 (rdL D sd so le n sk) τ) (hsb : SBs (gB G) sb v4 t H) (ht : t = lwW D sd so le n sk) (hL : t.length ≤ 780) (hasc : asc t) (hS : va_S A s.heap H locs) (hc : cells ≤ C1) (hs : slots ≤ S1)
    (hRc : C1 + 1000 + 11 * (mcg 5 + 1) ≤ R.cells) (hRs : S1 + 40000 + 11 * (msg 5 + 6) ≤ R.slots)
    (hret : ∀ (pc : Nat) (H : Heap) (locs : List Loc) (ls : Array Slot) (cells slots : Nat), decode cL_law pc = .ok (.ireturn, 1) → va_S A s.heap H locs → cells ≤ R.cells → slots ≤ R.slots → W p l e R s m args below meth c H locs cells slots Q (F0 m pc ls [.int 1]))
    (hl : lv_has ls 12 [(4, .ref b4), (0, .ref b), (1, .ref (ga G 1000)), (2, .int (nI n)), (3, .ref sb)]) : W p l e R s m args below meth c H locs cells slots Q (F0 m 659 ls []) := by
  have hx := X.1.1
  have hb := X.1.2.1
  generalize hM : mcg 5 = M at hRc
  generalize hS5 : msg 5 = S5 at hRs
  obtain ⟨r, σ1, σ2, hfeed, hr8, hload, hJ2⟩ := law_read hD hso hle hn hsd hsk ht hL hasc frs0 hGX hgv
  refine p_new (ci := 9) (fs := VX10) X inTB_X10 tyX10 tyX10_ok rfl (by decide +kernel) m_1_39 m_1_40 m_1_18 (by omega) (by omega) dL_law_659 fun H1 nH1 zH1 oH1 => ?_
  have hz0 : s.heap.size ≤ H.size := hS.1
  have hPGl := hPG.lt
  have hsl := hsb.lt
  replace hPG := hPG.kept (fun i hi => oH1 _ (hPGl i hi))
  replace hsb := hsb.kept (oH1 _ hsl.1) (oH1 _ hsl.2)
  replace hS := hS.new zH1 oH1
  clear oH1
  generalize hz : H.size = z at hz0 hPGl hsl nH1 zH1
  clear hz
  refine lv_dup hx hb dL_law_662 rfl ?_
  refine class_new X hG hgz hA hAn hAO hS hz0 zH1 nH1 m_1_41 (by decide) (Nat.le_of_ble_eq_true rfl) hl.1 dL_law_663 (by omega) (by omega) fun H2 locs2 hP zH2 oH2 hS => ?_
  replace hPG := hPG.kept (fun i hi => oH2 _ (hPGl i hi))
  replace hsb := hsb.kept (oH2 _ hsl.1) (oH2 _ hsl.2)
  clear oH2 nH1
  refine lv_astore (lv' := [(5, .ref z), (4, .ref b4), (0, .ref b), (1, .ref (ga G 1000)), (2, .int (nI n)), (3, .ref sb)]) hx hb dL_law_666 hl (by decide) rfl (fun ls hl => ?_)
  refine lv_aload hx hb dL_law_668 (lv_at hl 0 rfl) ?_
  refine lv_aload_n hx hb dL_law_670 rfl (lv_at hl 5 rfl) ?_
  refine callH_V (As := []) X hS hA (Mv.h fun K => SBs (gB G) sb v4 t K) (fun U hU hv => by rw [hU]; exact hsb) (fun q h9 => hAn q (by simp only [frA, false_or] at h9; have := hS.1; omega)) (p_recv X hsb.obj (r := (RJ4, TJ4, 4)) rfl) m_7_108 m_4_91 m_4_92 mv_J4_toString_0e30d (ch_toString hG (Nat.lt_of_le_of_lt hL (by decide))) (by decide) rfl rfl (Nat.le_of_ble_eq_true rfl) hl.1 dL_law_671 (by omega) (by omega) fun ov H3 locs3 qH zH3 oH3 hS => ?_
  obtain ⟨a, bt, rfl, ha, hbt, hst⟩ := qH
  have hPs := hP.2
  replace hP := hP.kept zH3 (fun q h1 _ _ => oH3 q h1 (fun h => h))
  replace hPG := hPG.kept (fun i hi => oH3 _ (by have := hPGl i hi; omega) (fun h => h))
  clear oH3
  have hsf := ST.SF X.2.1.1 (TB_warm (State.WarmedH.refl s) X.1.2.2.2.2) hst
  have r0 : nI r ≥ 0 := by
    exact nI_leG (a := r) (b := 0) (by omega) (by omega)
  refine callH_S (As := [.ref z, .ref a]) X hS hA (Mv.and (Mv.h fun K => CQ (gB G) z σ0 K) SF.mv) (fun U hU hv => by rw [hU]; exact ⟨hP, hsf.moved hv⟩) (fun q h9 => hAn q (by simp only [frA, zA] at h9; have := hS.1; omega)) m_5_161 m_5_162 mv_L_read (ch_read (t := t) (bt := bt) (J := 40) hG (by omega) hasc (Nat.lt_of_le_of_lt hL (by decide)) hfeed r0 hload ⟨Or.inr (by omega), Or.inr (by omega)⟩) (by decide) rfl rfl (Nat.le_of_ble_eq_true rfl) hl.1 dL_law_674 (by omega) (by omega) fun ov H4 locs4 qH zH4 oH4 hS => ?_
  obtain ⟨rfl, hP⟩ := qH
  replace hPG := hPG.kept (fun i hi => oH4 _ (by have := hPGl i hi; omega) (fun h => by simp only [zA] at h; have := hPGl i hi; omega))
  clear oH4 hst hsf
  refine lv_iconst (v := 1) hx hb dL_law_677 (by decide) ?_
  refine lv_icmp_ne (tgt := 690) hx hb dL_law_678 (by decide) (fun hc => absurd rfl hc) (fun _ => ?_)
  refine lv_aload_n hx hb dL_law_681 rfl (lv_at hl 3 rfl) ?_
  refine lv_aload hx hb dL_law_682 (lv_at hl 0 rfl) ?_
  have hsep : ∀ i, kv G i ≠ 99 → ga G i < z ∨ z + 609 ≤ ga G i := fun i hi => Or.inl (hPGl i hi)
  have hzA : ∀ q, z ≤ q ∧ q < z + 609 → A q := fun q h9 => hAn q (by omega)
  have hask : AskOK (gn G) σ2 τ (JJ so le n) := by rw [hnG]; exact (ask_J hJ2).mono (fun _ _ h => Or.inl h)
  refine callH_V (G := gB G) (As := [.ref z]) (fr := FRI (G.pl vp) z) X hS hA (Mv.and (Mv.h fun H => PG (G.pl vp) τ H) (Mv.and (Mv.h fun H => CQ (gB G) z σ2 H) EnvD.mv)) (fun U hU hv => ⟨by rw [hU]; exact hPG, by rw [hU]; exact hP, hDg.to hS hA hU hv⟩) (fun q h9 => by
      rcases h9 with (h9 | h9 | h9) | h9
      · exact hzA q h9
      · exact h9 ▸ hAn _ (hgA 1000 (by rw [kv_1000]; decide))
      · exact h9 ▸ hAn _ (hgA 1003 (by rw [kv_1003]; decide))
      · exact hAn q (by have := hS.1; omega)) (p_recv X (hPG.a20 (kv_1000 _)) (r := (RX11, TX11, 9)) rfl) m_3_138 m_3_139 m_3_140 mv_X11_isAsked (ch_askedK (G := G.pl vp) hG (Nat.le_trans hgz hz0) hsep hask) (by decide) rfl rfl (Nat.le_of_ble_eq_true rfl) hl.1 dL_law_684 (by rw [hM]; omega) (by rw [hS5]; omega) fun ov H5 locs5 hQ z5 o5 hS => ?_
  obtain ⟨rfl, v, σ5, τ5, hPG5, hP5, hJ5⟩ := hQ
  rw [hM, hS5]
  refine lv_if_ne (tgt := 692) hx hb dL_law_687 (by decide) (fun _ => ?_) (fun h => absurd h (by decide))
  refine lv_iconst (v := nI 0) hx hb dL_law_692 (by decide) ?_
  refine lv_istore (lv' := [(6, .int (nI 0)), (5, .ref z), (4, .ref b4), (0, .ref b), (1, .ref (ga G 1000)), (2, .int (nI n)), (3, .ref sb)]) hx hb dL_law_693 hl (by decide) rfl (fun ls hl => ?_)
  refine law_rounds (C0 := C1 + 700 + M) (S0 := S1 + 30000 + S5) (z := z) (J := JJ so le n) (many := nI n) X hfl hG (by omega) hA hAn hzA (fun i hi => hAn _ (hgA i hi)) hsep (by omega) ?_ hDg hxs hN ?_ (by rw [hM]; omega) (by rw [hS5]; omega) ?_ 10 0 (by decide) σ5 τ5 v H5 locs5 _ _ ls hJ5 hP5 hPG5 hS (by omega) (by omega) (lv_sub hl [0, 3, 4, 5, 1] rfl)
  · exact nI_ne0 (by omega) (by omega)
  · intro σ τ hj cq
    rw [hnG]
    exact rnd_A ⟨by omega, hn.2⟩ hj cq
  · intro pc H locs ls cells slots hd hS hc hs
    rw [hM] at hc
    rw [hS5] at hs
    exact hret pc H locs ls cells slots hd hS (by omega) (by omega)

