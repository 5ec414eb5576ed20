theorem m_3_142 : Cond.methodLink RX11 143 yX11_look ∈ TB := mem_t3 142 (by decide +kernel)
theorem m_3_143 : Cond.instanceMethod yX11_look ∈ TB := mem_t3 143 (by decide +kernel)
theorem m_3_144 : Cond.selects RX11 yX11_look yX11_look ∈ TB := mem_t3 144 (by decide +kernel)
theorem m_3_145 : Cond.code yX11_look cX11_look 2 none ∈ TB := mem_t3 145 (by decide +kernel)
theorem mv_X11_look : MV yX11_look cX11_look 2 none 0 := ⟨m_3_145, by decide +kernel, m_1_1, ⟨by decide +kernel, by decide +kernel, by decide +kernel⟩, by decide⟩
/-! ISASKED -/
theorem gs_out {G : Gt} {p : Program} {R : Room} {s : State} {m : MethodId} {args : Array Value} {c : Code} {n1 n2 nL h k : Nat} {cc : ByteArray} {own : String} (X : Cx G p R s m args c n1 n2 cc nL own h) (hk : k < 48) : ¬ gA G (gsK G k) ∧ ¬ gA G (gsV G k) := by
  obtain ⟨h1, -, -, h4⟩ := tE5 X hk
  obtain ⟨cell, -, -, -, h5⟩ := h1
  obtain ⟨cell2, -, -, -, -, -, -, h6⟩ := h4
  exact ⟨h5, h6⟩
def FRI (G : Gm) (z : Nat) : Nat → Prop := fun q => zA z q ∨ FRG G q
set_option maxHeartbeats 8000000 in
theorem ch_asked1 {G : Gm} {l : Launch} {z sz : Nat} {τ0 τ σ0 : St} {dn : Int32} {cF : Nat → Int32} {Iq : St → Prop} {pt : List Nat} (hG : AllA (gB G)) (hgz0 : gz (gB G) ≤ z) (hlook : lookF (gn G) τ0 = some (some pt, τ)) (hst : gI τ 1000 3 = 0) (hpa : asc pt) (hσ0 : Iq σ0) (hsep : ∀ i, kv G i ≠ 99 → ga G i < z ∨ z + 609 ≤ ga G i) (hdn : pf_X11_done 1000 τ = some dn) (hI : ∀ σ, Iq σ → IaQ G τ dn cF σ) (hpo : IaP Iq (pf_X10_possible 0 0) 1) (hln : IaP Iq (pf_X10_planLength 0 0) (nI pt.length)) (hsa : IaP Iq (pf_X10_safest 0 0) (gI τ 1000 7)) (hst8 : IaP Iq (pf_X10_state 0 8) 1) (hbe : ∀ σ, Iq σ → ∃ σ', pf_X10_best 0 σ = some (0, σ') ∧ Iq σ') (hen : IaP Iq (pf_X10_endings 0 0) (cntE τ 64)) (hps : ∀ k, k < pt.length → IaP Iq (pf_X10_planStep 0 0 (nI k)) (tB pt k - 48)) : CtH (gB G) l yX11_isAsked cX11_isAsked 8 (some .boolean) 16 (mcg 5) (msg 5) [.ref (ga G 1000), .ref z] sz (FRI G z) (fun U => PG G τ0 U.heap ∧ CQ (gB G) z σ0 U.heap ∧ EnvD (gB G) U) (fun ov H => ov = some (.int 1) ∧ ∃ v σ, PG (G.pl v) τ H ∧ CQ (gB G) z σ H ∧ Iq σ) := by
  refine met_H (by decide +kernel) (Nat.le_of_ble_eq_true rfl) .ireturn (Or.inr (Or.inl ⟨.boolean, 1, rfl, rfl, rfl, by decide⟩)) ?_
  intro p e s m args below meth c Q ls X hnm hsz hP hr hl
  have hx := X.1.1
  have hb := X.1.2.1
  obtain ⟨hPG, hP, hD⟩ := hP
  have hgz : gz (gB G) ≤ sz := by rw [← hsz]; exact X.2.1.2.1
  have hgn := hPG.2.2.1
  have hglt : ∀ i, kv G i ≠ 99 → ga G i < sz := fun i hi => by rw [← hsz]; exact hPG.lt i hi
  have hzs : z + 609 ≤ sz := by rw [← hsz]; exact hP.2
  have n0 : kv G 1000 ≠ 99 := by rw [kv_1000]; decide
  have n3 : kv G 1003 ≠ 99 := by rw [kv_1003]; decide
  have s0 := hsep 1000 n0
  have s3 := hsep 1003 n3
  have hA : ∀ q, q < s.heap.size → frA (FRI G z) sz q → gA (gB G) q := fun q h8 h9 => by
    rcases h9 with (h9 | h9 | h9) | h9
    · exact hG q (Nat.le_trans hgz0 h9.1)
    · rw [h9]; exact hPG.2.2.2.2 1000 n0
    · rw [h9]; exact hPG.2.2.2.2 1003 n3
    · exact hG q (by omega)
  have hzz : ∀ q, z ≤ q ∧ q < z + 609 → gA (gB G) q := fun q h9 => hG q (by omega)
  have hzA : ∀ q, z ≤ q ∧ q < z + 609 → frA (FRI G z) sz q := fun q h9 => Or.inl (Or.inl h9)
  have hS : va_S (frA (FRI G z) sz) s.heap s.heap [] := va_S.rf
  have hl : lv_has ls 8 [(0, .ref (ga G 1000)), (1, .ref z)] := hl
  have hgs := gs_out X (k := 47) (by decide)
  have hgo : gsK (gB G) 47 < z ∧ gsV (gB G) 47 < z := ⟨by
    by_cases c : gsK (gB G) 47 < z
    · exact c
    · exact absurd (hG _ (by omega)) hgs.1, by
    by_cases c : gsV (gB G) 47 < z
    · exact c
    · exact absurd (hG _ (by omega)) hgs.2⟩
  have hne : gsK (gB G) 47 ≠ ga G 1000 ∧ gsK (gB G) 47 ≠ ga G 1003 ∧ gsV (gB G) 47 ≠ ga G 1000 ∧ gsV (gB G) 47 ≠ ga G 1003 := ⟨fun q => hgs.1 (by rw [q]; exact hPG.2.2.2.2 1000 n0), fun q => hgs.1 (by rw [q]; exact hPG.2.2.2.2 1003 n3), fun q => hgs.2 (by rw [q]; exact hPG.2.2.2.2 1000 n0), fun q => hgs.2 (by rw [q]; exact hPG.2.2.2.2 1003 n3)⟩
  generalize hmc : mcg 5 = mc1 at X hr
  generalize hms : msg 5 = ms1 at X hr
  refine lv_aload_n hx hb dX11_isAsked_0 rfl (lv_at hl 0 rfl) ?_
  refine callH_V (G := gB G) (As := []) (fr := FRG G) X hS hA (Mv.and (Mv.h fun H => PG G τ0 H) EnvD.mv) (fun U hU hv => ⟨by rw [hU]; exact hPG, hD.to hS hA hU hv⟩) (fun q h9 => by rcases h9 with h9 | h9; exact Or.inl (Or.inr h9); exact Or.inr (by omega)) (p_recv X (hPG.a20 (kv_1000 _)) (r := (RX11, TX11, 9)) rfl) m_3_142 m_3_143 m_3_144 mv_X11_look (ch_look hlook hG hne) (by decide) rfl rfl (Nat.le_of_ble_eq_true rfl) hl.1 dX11_isAsked_1 (c_R (by rw [hmc]; exact Nat.le_of_eq (Nat.zero_add _))) (s_R (by rw [hms]; exact Nat.le_of_eq (Nat.zero_add _))) fun ov1 H locs qH zH oH hS2 => ?_
  obtain ⟨rfl, v, hPG2, hq⟩ := qH
  have hP2 : CQ (gB G) z σ0 H := hP.kept zH (fun q h1 h2 h3 => oH q h1 (fun h9 => by rcases h9 with h9 | h9 <;> omega))
  have hc1 : 0 + mcg 5 ≤ mc1 := by rw [hmc]; exact Nat.le_of_eq (Nat.zero_add _)
  have hs1 : 0 + msg 5 ≤ ms1 := by rw [hms]; exact Nat.le_of_eq (Nat.zero_add _)
  have hend : ∀ (σ : St), Iq σ → ∀ (H : Heap) (locs : List Loc) (cells slots : Nat) (ls : Array Slot), CQ (gB (G.pl v)) z σ H → PG (G.pl v) τ H → va_S (frA (FRI G z) sz) s.heap H locs → cells ≤ mc1 → slots ≤ ms1 → lv_has ls 8 [(0, .ref (ga (G.pl v) 1000)), (1, .ref z)] → W p l e (rmC 16 mc1 ms1) s m args below meth c H locs cells slots Q (F0 m 512 ls []) := by
    intro σ hσ H locs cells slots ls hP hPG hS hc hs hl
    refine lv_iconst (v := 1) hx hb dX11_isAsked_512 (by decide) ?_
    exact hr _ _ _ _ _ _ dX11_isAsked_513 ⟨rfl, v, σ, hPG, hP, hσ⟩ hS hc hs
  have hsep2 : ∀ i, kv (G.pl v) i ≠ 99 → ga (G.pl v) i < z ∨ z + 609 ≤ ga (G.pl v) i := hsep
  have Xv : Cx (gB (G.pl v)) p (rmC 16 mc1 ms1) s m args c 0 0 cX11_isAsked 8 yX11_isAsked.cls 16 := X
  refine lv_aload_n hx hb dX11_isAsked_4 rfl (lv_at hl 0 rfl) ?_
  refine gg_X11_state (G := G.pl v) Xv hPG2 (kv_1000 _) m_3_68 dX11_isAsked_5 ?_
  have e1 : gI τ 1000 3 = 0 := hst
  refine lv_if_ne (tgt := 22) hx hb dX11_isAsked_8 (by decide) (fun hq => absurd e1 hq) (fun _ => ?_)
  obtain ⟨a5, b5, hgp, hsf, hpl, hsp⟩ : ∃ a5 b5 : Nat, v = .ref a5 ∧ SF a5 b5 pt s H ∧ pt.length ≤ 100 ∧ (a5 < z ∨ z + 609 ≤ a5) ∧ (b5 < z ∨ z + 609 ≤ b5) := by
    rcases hq with ⟨e, -⟩ | ⟨e, rfl⟩ | ⟨a', b', q, e, rfl, h3, h4, h5, h6⟩
    · cases e
    · cases e
      exact ⟨_, _, rfl, sf_const X hS2 hA (k := 47) (by decide), Nat.zero_le _, Or.inl hgo.1, Or.inl hgo.2⟩
    · cases e
      exact ⟨a', b', rfl, ST.SF X.2.1.1 (TB_warm (State.WarmedH.refl s) X.1.2.2.2.2) h3, h4, Or.inr (by omega), Or.inr (by omega)⟩
  refine lv_aload_n hx hb dX11_isAsked_11 rfl (lv_at hl 0 rfl) ?_
  refine gg_X11_plan (G := G.pl v) Xv hPG2 (kv_1000 _) m_3_73 dX11_isAsked_12 ?_
  refine lv_toV (show gp (G.pl v) = .ref a5 from hgp) ?_
  refine lv_ifnull hx hb dX11_isAsked_15 ?_
  refine lv_iconst (v := 1) hx hb dX11_isAsked_18 (by decide) ?_
  refine lv_goto (tgt := 23) hx hb dX11_isAsked_19 (by decide) ?_
  refine lv_istore_n (lv' := [(2, .int 1), (0, .ref (ga G 1000)), (1, .ref z)]) hx hb dX11_isAsked_23 rfl hl (by decide) rfl ?_
  clear hl; intro ls hl
  exact ia_24_1 (G := G.pl v) Xv hA hzz hzA hsep2 hgn hdn hI hend hgp hpl hpa hsp hpo hln hsa hst8 hbe hen hps σ0 hσ0 H locs _ _ ls hP2 hPG2 hsf hS2 hc1 hs1 (lv_sub hl [1, 2, 0] rfl)
set_option maxHeartbeats 8000000 in
theorem ch_asked0 {G : Gm} {l : Launch} {z sz : Nat} {τ0 τ σ0 : St} {dn : Int32} {cF : Nat → Int32} {Iq : St → Prop} {pl' : Option (List Nat)} (hG : AllA (gB G)) (hgz0 : gz (gB G) ≤ z) (hlook : lookF (gn G) τ0 = some (pl', τ)) (hst : gI τ 1000 3 ≠ 0 ∨ pl' = none) (hσ0 : Iq σ0) (hsep : ∀ i, kv G i ≠ 99 → ga G i < z ∨ z + 609 ≤ ga G i) (hdn : pf_X11_done 1000 τ = some dn) (hI : ∀ σ, Iq σ → IaQ G τ dn cF σ) (hpo : IaP Iq (pf_X10_possible 0 0) 0) (hln : IaP Iq (pf_X10_planLength 0 0) (-1)) (hsa : IaP Iq (pf_X10_safest 0 0) (-1)) (hst8 : IaP Iq (pf_X10_state 0 8) 0) (hbe : ∀ σ, Iq σ → ∃ σ', pf_X10_best 0 σ = some (-1, σ') ∧ Iq σ') (hen : IaP Iq (pf_X10_endings 0 0) 0) : CtH (gB G) l yX11_isAsked cX11_isAsked 8 (some .boolean) 16 (mcg 5) (msg 5) [.ref (ga G 1000), .ref z] sz (FRI G z) (fun U => PG G τ0 U.heap ∧ CQ (gB G) z σ0 U.heap ∧ EnvD (gB G) U) (fun ov H => ov = some (.int 1) ∧ ∃ v σ, PG (G.pl v) τ H ∧ CQ (gB G) z σ H ∧ Iq σ) := by
  refine met_H (by decide +kernel) (Nat.le_of_ble_eq_true rfl) .ireturn (Or.inr (Or.inl ⟨.boolean, 1, rfl, rfl, rfl, by decide⟩)) ?_
  intro p e s m args below meth c Q ls X hnm hsz hP hr hl
  have hx := X.1.1
  have hb := X.1.2.1
  obtain ⟨hPG, hP, hD⟩ := hP
  have hgz : gz (gB G) ≤ sz := by rw [← hsz]; exact X.2.1.2.1
  have hgn := hPG.2.2.1
  have hglt : ∀ i, kv G i ≠ 99 → ga G i < sz := fun i hi => by rw [← hsz]; exact hPG.lt i hi
  have hzs : z + 609 ≤ sz := by rw [← hsz]; exact hP.2
  have n0 : kv G 1000 ≠ 99 := by rw [kv_1000]; decide
  have n3 : kv G 1003 ≠ 99 := by rw [kv_1003]; decide
  have s0 := hsep 1000 n0
  have s3 := hsep 1003 n3
  have hA : ∀ q, q < s.heap.size → frA (FRI G z) sz q → gA (gB G) q := fun q h8 h9 => by
    rcases h9 with (h9 | h9 | h9) | h9
    · exact hG q (Nat.le_trans hgz0 h9.1)
    · rw [h9]; exact hPG.2.2.2.2 1000 n0
    · rw [h9]; exact hPG.2.2.2.2 1003 n3
    · exact hG q (by omega)
  have hzz : ∀ q, z ≤ q ∧ q < z + 609 → gA (gB G) q := fun q h9 => hG q (by omega)
  have hzA : ∀ q, z ≤ q ∧ q < z + 609 → frA (FRI G z) sz q := fun q h9 => Or.inl (Or.inl h9)
  have hS : va_S (frA (FRI G z) sz) s.heap s.heap [] := va_S.rf
  have hl : lv_has ls 8 [(0, .ref (ga G 1000)), (1, .ref z)] := hl
  have hgs := gs_out X (k := 47) (by decide)
  have hgo : gsK (gB G) 47 < z ∧ gsV (gB G) 47 < z := ⟨by
    by_cases c : gsK (gB G) 47 < z
    · exact c
    · exact absurd (hG _ (by omega)) hgs.1, by
    by_cases c : gsV (gB G) 47 < z
    · exact c
    · exact absurd (hG _ (by omega)) hgs.2⟩
  have hne : gsK (gB G) 47 ≠ ga G 1000 ∧ gsK (gB G) 47 ≠ ga G 1003 ∧ gsV (gB G) 47 ≠ ga G 1000 ∧ gsV (gB G) 47 ≠ ga G 1003 := ⟨fun q => hgs.1 (by rw [q]; exact hPG.2.2.2.2 1000 n0), fun q => hgs.1 (by rw [q]; exact hPG.2.2.2.2 1003 n3), fun q => hgs.2 (by rw [q]; exact hPG.2.2.2.2 1000 n0), fun q => hgs.2 (by rw [q]; exact hPG.2.2.2.2 1003 n3)⟩
  generalize hmc : mcg 5 = mc1 at X hr
  generalize hms : msg 5 = ms1 at X hr
  refine lv_aload_n hx hb dX11_isAsked_0 rfl (lv_at hl 0 rfl) ?_
  refine callH_V (G := gB G) (As := []) (fr := FRG G) X hS hA (Mv.and (Mv.h fun H => PG G τ0 H) EnvD.mv) (fun U hU hv => ⟨by rw [hU]; exact hPG, hD.to hS hA hU hv⟩) (fun q h9 => by rcases h9 with h9 | h9; exact Or.inl (Or.inr h9); exact Or.inr (by omega)) (p_recv X (hPG.a20 (kv_1000 _)) (r := (RX11, TX11, 9)) rfl) m_3_142 m_3_143 m_3_144 mv_X11_look (ch_look hlook hG hne) (by decide) rfl rfl (Nat.le_of_ble_eq_true rfl) hl.1 dX11_isAsked_1 (c_R (by rw [hmc]; exact Nat.le_of_eq (Nat.zero_add _))) (s_R (by rw [hms]; exact Nat.le_of_eq (Nat.zero_add _))) fun ov1 H locs qH zH oH hS2 => ?_
  obtain ⟨rfl, v, hPG2, hq⟩ := qH
  have hP2 : CQ (gB G) z σ0 H := hP.kept zH (fun q h1 h2 h3 => oH q h1 (fun h9 => by rcases h9 with h9 | h9 <;> omega))
  have hc1 : 0 + mcg 5 ≤ mc1 := by rw [hmc]; exact Nat.le_of_eq (Nat.zero_add _)
  have hs1 : 0 + msg 5 ≤ ms1 := by rw [hms]; exact Nat.le_of_eq (Nat.zero_add _)
  have hend : ∀ (σ : St), Iq σ → ∀ (H : Heap) (locs : List Loc) (cells slots : Nat) (ls : Array Slot), CQ (gB (G.pl v)) z σ H → PG (G.pl v) τ H → va_S (frA (FRI G z) sz) s.heap H locs → cells ≤ mc1 → slots ≤ ms1 → lv_has ls 8 [(0, .ref (ga (G.pl v) 1000)), (1, .ref z)] → W p l e (rmC 16 mc1 ms1) s m args below meth c H locs cells slots Q (F0 m 512 ls []) := by
    intro σ hσ H locs cells slots ls hP hPG hS hc hs hl
    refine lv_iconst (v := 1) hx hb dX11_isAsked_512 (by decide) ?_
    exact hr _ _ _ _ _ _ dX11_isAsked_513 ⟨rfl, v, σ, hPG, hP, hσ⟩ hS hc hs
  have hsep2 : ∀ i, kv (G.pl v) i ≠ 99 → ga (G.pl v) i < z ∨ z + 609 ≤ ga (G.pl v) i := hsep
  have Xv : Cx (gB (G.pl v)) p (rmC 16 mc1 ms1) s m args c 0 0 cX11_isAsked 8 yX11_isAsked.cls 16 := X
  refine lv_aload_n hx hb dX11_isAsked_4 rfl (lv_at hl 0 rfl) ?_
  refine gg_X11_state (G := G.pl v) Xv hPG2 (kv_1000 _) m_3_68 dX11_isAsked_5 ?_
  have tail : ∀ ls : Array Slot, lv_has ls 8 [(0, .ref (ga G 1000)), (1, .ref z)] → W p l e (rmC 16 mc1 ms1) s m args below meth c H locs (0 + mcg 5) (0 + msg 5) Q (F0 m 22 ls []) := by
    intro ls hl
    refine lv_iconst (v := 0) hx hb dX11_isAsked_22 (by decide) ?_
    refine lv_istore_n (lv' := [(2, .int 0), (0, .ref (ga G 1000)), (1, .ref z)]) hx hb dX11_isAsked_23 rfl hl (by decide) rfl ?_
    clear hl; intro ls hl
    exact ia_24_0 (G := G.pl v) Xv hA hzz hzA hsep2 hgn hdn hI hend hpo hln hsa hst8 hbe hen σ0 hσ0 H locs _ _ ls hP2 hPG2 hS2 hc1 hs1 (lv_sub hl [1, 2, 0] rfl)
  refine lv_if_ne (tgt := 22) hx hb dX11_isAsked_8 (by decide) (fun _ => tail ls hl) (fun e1 => ?_)
  have hn : pl' = none := hst.resolve_left (fun q => q e1)
  have hgp : v = .null := by
    rcases hq with ⟨-, e⟩ | ⟨e, -⟩ | ⟨a', b', q, e, -⟩
    · exact e
    · rw [hn] at e; cases e
    · rw [hn] at e; cases e
  refine lv_aload_n hx hb dX11_isAsked_11 rfl (lv_at hl 0 rfl) ?_
  refine gg_X11_plan (G := G.pl v) Xv hPG2 (kv_1000 _) m_3_73 dX11_isAsked_12 ?_
  refine lv_toV (show gp (G.pl v) = .null from hgp) ?_
  refine lv_ifnullN (tgt := 22) hx hb dX11_isAsked_15 (by decide) ?_
  exact tail ls hl
