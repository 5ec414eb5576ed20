theorem m_2_94 : Cond.methodLink RL 167 yX10_state ∈ TB := mem_t2 94 (by decide +kernel)
theorem m_2_229 : Cond.methodLink RL 170 yX10_tell ∈ TB := mem_t2 229 (by decide +kernel)
theorem m_2_230 : Cond.instanceMethod yX10_tell ∈ TB := mem_t2 230 (by decide +kernel)
theorem m_2_231 : Cond.selects RX10 yX10_tell yX10_tell ∈ TB := mem_t2 231 (by decide +kernel)
theorem m_2_232 : Cond.code yX10_tell cX10_tell 3 (some .int) ∈ TB := mem_t2 232 (by decide +kernel)
theorem m_3_96 : Cond.methodLink RL 173 yX11_attempt ∈ TB := mem_t3 96 (by decide +kernel)
theorem m_3_97 : Cond.instanceMethod yX11_attempt ∈ TB := mem_t3 97 (by decide +kernel)
theorem m_3_98 : Cond.selects RX11 yX11_attempt yX11_attempt ∈ TB := mem_t3 98 (by decide +kernel)
theorem m_3_99 : Cond.code yX11_attempt cX11_attempt 8 (some .int) ∈ TB := mem_t3 99 (by decide +kernel)
theorem m_3_138 : Cond.methodLink RL 163 yX11_isAsked ∈ TB := mem_t3 138 (by decide +kernel)
theorem m_3_139 : Cond.instanceMethod yX11_isAsked ∈ TB := mem_t3 139 (by decide +kernel)
theorem m_3_140 : Cond.selects RX11 yX11_isAsked yX11_isAsked ∈ TB := mem_t3 140 (by decide +kernel)
theorem m_3_141 : Cond.code yX11_isAsked cX11_isAsked 8 (some .boolean) ∈ TB := mem_t3 141 (by decide +kernel)
theorem m_5_154 : Cond.methodLink RL 67 yL_cell ∈ TB := mem_t5 154 (by decide +kernel)
theorem m_5_155 : Cond.static yL_cell ∈ TB := mem_t5 155 (by decide +kernel)
theorem m_5_156 : Cond.code yL_cell cL_cell 2 (some .int) ∈ TB := mem_t5 156 (by decide +kernel)
theorem m_5_157 : Cond.methodLink RL 71 yL_bound ∈ TB := mem_t5 157 (by decide +kernel)
theorem m_5_158 : Cond.static yL_bound ∈ TB := mem_t5 158 (by decide +kernel)
theorem m_5_159 : Cond.code yL_bound cL_bound 2 (some .int) ∈ TB := mem_t5 159 (by decide +kernel)
theorem m_6_206 : Cond.methodLink RL 174 yL_tries ∈ TB := mem_t6 206 (by decide +kernel)
theorem m_6_207 : Cond.static yL_tries ∈ TB := mem_t6 207 (by decide +kernel)
theorem m_6_208 : Cond.codeWith yL_tries cL_tries 3 (some .int) [(0, 6, 7, 38)] ∈ TB := mem_t6 208 (by decide +kernel)
theorem mv_X11_attempt : MV yX11_attempt cX11_attempt 8 (some .int) 2 := ⟨m_3_99, by decide +kernel, m_1_1, ⟨by decide +kernel, by decide +kernel, by decide +kernel⟩, by decide⟩
theorem mv_X11_isAsked : MV yX11_isAsked cX11_isAsked 8 (some .boolean) 1 := ⟨m_3_141, by decide +kernel, m_1_1, ⟨by decide +kernel, by decide +kernel, by decide +kernel⟩, by decide⟩
theorem mv_L_cell : MV yL_cell cL_cell 2 (some .int) 2 := ⟨m_5_156, by decide +kernel, m_1_0, ⟨by decide +kernel, by decide +kernel, by decide +kernel⟩, by decide⟩
theorem mv_L_bound : MV yL_bound cL_bound 2 (some .int) 2 := ⟨m_5_159, by decide +kernel, m_1_0, ⟨by decide +kernel, by decide +kernel, by decide +kernel⟩, by decide⟩
theorem mv_X10_tell : MV yX10_tell cX10_tell 3 (some .int) 2 := ⟨m_2_232, by decide +kernel, m_1_18, ⟨by decide +kernel, by decide +kernel, by decide +kernel⟩, by decide⟩
theorem mlz_tries : MLz yL_tries cL_tries 3 [(0, 6, 7, 38)] 2 := ⟨m_6_208, by decide +kernel, m_1_0, ⟨by decide +kernel, by decide +kernel, by decide +kernel⟩, by decide⟩
/-! THE LAW'S ROUNDS -/
def stC (c many : Int32) : Int32 := irem (c &&& 2147483647) many
def drC2 (c : Int32) : Int32 := irem (ishr c 8 &&& 2147483647) 100
def RndC (n : Nat) (J : St → St → Prop) (had due : Int32) (σ τ : St) : Prop := AskOK n σ τ (fun σ5 τ5 => if due = -1001 ∧ had = 2 then ∃ σ6, pf_X10_state 0 6 σ5 = some (.inr 2, σ6) else J σ5 τ5)
def RndB (n : Nat) (J : St → St → Prop) (c many draw : Int32) (σ τ : St) : Prop := ∃ had σ3, pf_X10_state 0 6 σ = some (.inr had, σ3) ∧ ∃ due τ1, pf_X11_attempt 1000 (stC c many) (if had = 0 then -1 else if had = 2 then draw else 50) τ = some (due, τ1) ∧ ∃ σ4, (pf_X10_attempt 0 0 (stC c many) σ3 = some (.inr due, σ4) ∨ (due = -1001 ∧ pf_X10_attempt 0 0 (stC c many) σ3 = some (.inl 3, σ4))) ∧ RndC n J had due σ4 τ1
def RndA (n : Nat) (J : St → St → Prop) (c many : Int32) (σ τ : St) : Prop := if (ishr c 5 &&& 3) = 0 then (∃ h0 σ1, pf_X10_state 0 6 σ = some (.inr h0, σ1) ∧ (if h0 = 0 then ∃ σ2, pf_X10_tell 0 (drC2 c) 50 σ1 = some (.inr 2, σ2) ∧ RndB n J c many (drC2 c) σ2 τ else RndB n J c many (-1) σ1 τ)) else RndB n J c many (-1) σ τ
set_option maxHeartbeats 4000000 in
theorem law_rounds {G : Gm} {l : Launch} {p : Program} {e : Env} {R : Room} {s : State} {m : MethodId} {args : Array Value} {below : List Frame} {meth : Method} {c : Code} {Q : State → Prop} {z b N C0 S0 : Nat} {A : Nat → Prop} {xs : Nat → Int32} {many : Int32} {J : St → St → Prop}
    (X : Cx (gB G) p R s m args c 0 0 cL_law 12 RL 40) (hfl : l.stackTraces = false) (hG : AllA (gB G)) (hgz0 : gz (gB G) ≤ z) (hA : ∀ q, q < s.heap.size → A q → gA (gB G) q) (hAn : ∀ q, s.heap.size ≤ q → A q) (hzA : ∀ q, z ≤ q ∧ q < z + 609 → A q) (hgA : ∀ i, kv G i ≠ 99 → A (ga G i)) (hsep : ∀ i, kv G i ≠ 99 → ga G i < z ∨ z + 609 ≤ ga G i) (hgn : gn G ≤ 4) (hmany : ¬ many = 0)
    (hD : EnvD (gB G) s) (hxs : va_T .int b N (fun k => .int (xs k)) (gA (gB G)) s s.heap) (hN : N < 2 ^ 31) (hJ : ∀ σ τ, J σ τ → ∀ c, RndA (gn G) J c many σ τ)
    (hRc : C0 + 10 * (mcg 5 + 1) ≤ R.cells) (hRs : S0 + 10 * (msg 5 + 6) ≤ R.slots)
    (hret : ∀ (pc : Nat) (H : Heap) (locs : List Loc) (ls : Array Slot) (cells slots : Nat), decode cL_law pc = .ok (.ireturn, 1) → va_S A s.heap H locs → cells ≤ C0 + 10 * (mcg 5 + 1) → slots ≤ S0 + 10 * (msg 5 + 6) → W p l e R s m args below meth c H locs cells slots Q (F0 m pc ls [.int 1])) :
    ∀ (j k : Nat), k + j = 10 → ∀ (σ τ : St) (v : Value) (H : Heap) (locs : List Loc) (cells slots : Nat) (ls : Array Slot), J σ τ → CQ (gB G) z σ H → PG (G.pl v) τ H → va_S A s.heap H locs → cells ≤ C0 + k * (mcg 5 + 1) → slots ≤ S0 + k * (msg 5 + 6) → lv_has ls 12 [(6, .int (nI k)), (0, .ref b), (1, .ref (ga G 1000)), (2, .int many), (5, .ref z)] → W p l e R s m args below meth c H locs cells slots Q (F0 m 695 ls []) := by
  have hx := X.1.1
  have hb := X.1.2.1
  generalize hM : mcg 5 = M at hRc hret ⊢
  generalize hS5 : msg 5 = S5 at hRs hret ⊢
  have hzz : ∀ q, z ≤ q ∧ q < z + 609 → gA (gB G) q := fun q h9 => hG q (by omega)
  intro j
  induction j with
  | zero =>
    intro k hk σ τ v H locs cells slots ls hj hP hPG hS hc hs hl
    obtain rfl : k = 10 := by omega
    refine lv_iload hx hb dL_law_695 (lv_at hl 0 rfl) ?_
    refine lv_bipush (v := 10) hx hb dL_law_697 (by decide) ?_
    refine lv_icmp_ge (tgt := 869) hx hb dL_law_699 (by decide) (fun _ => ?_) (fun hc => absurd (by decide +kernel) hc)
    refine lv_iconst (v := 1) hx hb dL_law_869 (by decide) ?_
    exact hret 870 H locs _ _ _ dL_law_870 hS (by omega) (by omega)
  | succ j ih =>
    intro k hk σ τ v H0 locs0 cells0 slots0 ls0 hj hP0 hPG0 hS0 hc0 hs0 hl0
    have hkn : k < 10 := by omega
    have k1 : (k + 1) * (M + 1) ≤ 10 * (M + 1) := Nat.mul_le_mul_right _ (by omega)
    have k2 : (k + 1) * (S5 + 6) ≤ 10 * (S5 + 6) := Nat.mul_le_mul_right _ (by omega)
    have k3 : (k + 1) * (M + 1) = k * (M + 1) + (M + 1) := Nat.succ_mul _ _
    have k4 : (k + 1) * (S5 + 6) = k * (S5 + 6) + (S5 + 6) := Nat.succ_mul _ _
    have hr := hJ σ τ hj (cellF N xs (8 + k))
    generalize hcc : cellF N xs (8 + k) = cc at hr
    have hRc2 : C0 + k * (M + 1) + (M + 1) ≤ R.cells := by omega
    have hRs2 : S0 + k * (S5 + 6) + (S5 + 6) ≤ R.slots := by omega
    have mB : ∀ (draw : Int32) (σ : St) (H : Heap) (locs : List Loc) (cells slots : Nat) (ls : Array Slot), RndB (gn G) J cc many draw σ τ → CQ (gB G) z σ H → PG (G.pl v) τ H → va_S A s.heap H locs → cells ≤ C0 + k * (M + 1) → slots ≤ S0 + k * (S5 + 6) → lv_has ls 12 [(9, .int draw), (8, .int (stC cc many)), (7, .int cc), (6, .int (nI k)), (0, .ref b), (1, .ref (ga G 1000)), (2, .int many), (5, .ref z)] → W p l e R s m args below meth c H locs cells slots Q (F0 m 770 ls []) := by
      intro draw σ H locs cells slots ls hB hP hPG hS hc hs hl
      obtain ⟨had, σ3, b1, due, τ1, b2, σ4, b3, b4⟩ := hB
      refine lv_aload hx hb dL_law_770 (lv_at hl 7 rfl) ?_
      refine lv_bipush (v := 6) hx hb dL_law_772 (by decide) ?_
      refine callC_V (b := 0) (z := z) (σ := σ) (As := [.int 6]) X hS hA hzz hzA hP (C := RX10) (kC_X10 kd_0) m_2_94 m_2_95 m_2_96 mv_X10_state (c_X10_state (G := subG (gB G) z) (v0 := 0) kd_0 b1) (by decide) rfl rfl (Nat.le_of_ble_eq_true rfl) hl.1 dL_law_774 (by omega) (by omega) fun H1 locs pH1 zH1 oH1 SH1 => ?_
      have tH1 := hPG.lt
      replace hPG := hPG.kept (fun i hi => oH1 _ (tH1 i hi) (by have : ga (G.pl v) i < z ∨ z + 609 ≤ ga (G.pl v) i := hsep i hi; omega))
      replace hP := pH1
      replace hS := SH1
      clear oH1 zH1 tH1
      refine lv_istore (lv' := [(10, .int had), (9, .int draw), (8, .int (stC cc many)), (7, .int cc), (6, .int (nI k)), (0, .ref b), (1, .ref (ga G 1000)), (2, .int many), (5, .ref z)]) hx hb dL_law_777 hl (by decide) rfl ?_
      clear hl; intro ls hl
      have mC : ∀ (ls : Array Slot) (dd : Int32), dd = (if had = 0 then -1 else if had = 2 then draw else 50) → lv_has ls 12 [(10, .int had), (9, .int draw), (8, .int (stC cc many)), (7, .int cc), (6, .int (nI k)), (0, .ref b), (1, .ref (ga G 1000)), (2, .int many), (5, .ref z)] → W p l e R s m args below meth c H1 locs cells slots Q (F0 m 804 ls [.int dd, .int (stC cc many), .ref (ga G 1000)]) := by
        intro ls dd hdd hl
        refine callW_V (G := G.pl v) (As := [.int (stC cc many), .int dd]) X hS hA hPG hgA m_3_96 m_3_97 m_3_98 mv_X11_attempt (cr_X11_attempt (G := G.pl v) (kv_1000 _) (by rw [hdd]; exact b2)) (by decide) rfl rfl (Nat.le_of_ble_eq_true rfl) hl.1 dL_law_804 (by omega) (by omega) fun H2 locs2 hPG2 z2 o2 hS2 => ?_
        have hP2 := hP.kept (H1 := H2) z2 (fun q h1 h2 h3 => o2 q h1 (fun h9 => by obtain ⟨i, hi, rfl⟩ := h9; have : ga (G.pl v) i < z ∨ z + 609 ≤ ga (G.pl v) i := hsep i hi; omega))
        refine lv_istore (lv' := [(11, .int due), (10, .int had), (9, .int draw), (8, .int (stC cc many)), (7, .int cc), (6, .int (nI k)), (0, .ref b), (1, .ref (ga G 1000)), (2, .int many), (5, .ref z)]) hx hb dL_law_807 hl (by decide) rfl ?_
        clear hl; intro ls hl
        have mD : ∀ (H : Heap) (locs : List Loc) (cells slots : Nat), CQ (gB G) z σ4 H → PG (G.pl v) τ1 H → va_S A s.heap H locs → cells ≤ C0 + k * (M + 1) + 1 → slots ≤ S0 + k * (S5 + 6) + 6 → W p l e R s m args below meth c H locs cells slots Q (F0 m 816 ls [.int due]) := by
          clear hS2 hS hPG hPG2 hP hP2
          intro H locs cells slots hP hPG hS hc hs
          refine lv_iload hx hb dL_law_816 (lv_at hl 0 rfl) ?_
          refine lv_icmp_ne (tgt := 830) hx hb dL_law_818 (by decide) (fun hc => absurd rfl hc) (fun _ => ?_)
          refine lv_aload_n hx hb dL_law_821 rfl (lv_at hl 7 rfl) ?_
          refine lv_aload hx hb dL_law_822 (lv_at hl 9 rfl) ?_
          refine callH_V (G := gB G) (As := [.ref z]) (fr := FRI (G.pl v) z) X hS hA (Mv.and (Mv.h fun H => PG (G.pl v) τ1 H) (Mv.and (Mv.h fun H => CQ (gB G) z σ4 H) EnvD.mv)) (fun U hU hv => ⟨by rw [hU]; exact hPG, by rw [hU]; exact hP, hD.to hS hA hU hv⟩) (fun q h9 => by rcases h9 with (h9 | h9 | h9) | h9; exact hzA q h9; exact h9 ▸ hgA 1000 (by rw [kv_1000]; decide); exact h9 ▸ hgA 1003 (by rw [kv_1003]; decide); exact hAn q (by have := hS.1; omega)) (p_recv X (hPG.a20 (kv_1000 _)) (r := (RX11, TX11, 9)) rfl) m_3_138 m_3_139 m_3_140 mv_X11_isAsked (ch_askedK (G := G.pl v) hG hgz0 hsep b4) (by decide) rfl rfl (Nat.le_of_ble_eq_true rfl) hl.1 dL_law_824 (by rw [hM]; omega) (by rw [hS5]; omega) fun ov H3 locs3 hQ z3 o3 hS3 => ?_
          obtain ⟨rfl, v2, σ5, τ5, hPG3, hP3, hK⟩ := hQ
          rw [hM, hS5]
          refine lv_if_ne (tgt := 832) hx hb dL_law_827 (by decide) (fun _ => ?_) (fun hc => absurd hc (by decide))
          have hgo : J σ5 τ5 → W p l e R s m args below meth c H3 locs3 (cells + M) (slots + S5) Q (F0 m 863 ls []) := by
            intro hj5
            refine lv_iinc (lv' := [(6, .int (nI (k + 1))), (11, .int due), (10, .int had), (9, .int draw), (8, .int (stC cc many)), (7, .int cc), (0, .ref b), (1, .ref (ga G 1000)), (2, .int many), (5, .ref z)]) (k := 5) hx hb dL_law_863 hl rfl (nI_1 k) (by decide) rfl ?_
            clear hl; intro ls hl
            refine lv_goto (tgt := 695) hx hb dL_law_866 (by decide) ?_
            exact ih (k + 1) (by omega) σ5 τ5 v2 H3 locs3 _ _ ls hj5 hP3 hPG3 hS3 (by omega) (by omega) (lv_sub hl [0, 6, 7, 8, 9] rfl)
          refine lv_iload hx hb dL_law_832 (lv_at hl 0 rfl) ?_
          refine lv_sipush (v := (-1001)) hx hb dL_law_834 (by decide) ?_
          refine lv_icmp_ne (tgt := 863) hx hb dL_law_837 (by decide) (fun hne => ?_) (fun heq => ?_)
          · rw [if_neg (fun q => hne q.1)] at hK
            exact hgo hK
          · skip
            refine lv_iload hx hb dL_law_840 (lv_at hl 1 rfl) ?_
            refine lv_iconst (v := 2) hx hb dL_law_842 (by decide) ?_
            refine lv_icmp_ne (tgt := 863) hx hb dL_law_843 (by decide) (fun hne2 => ?_) (fun heq2 => ?_)
            · rw [if_neg (fun q => hne2 q.2)] at hK
              exact hgo hK
            · rw [if_pos ⟨heq, heq2⟩] at hK
              obtain ⟨σ6, h6⟩ := hK
              refine lv_aload hx hb dL_law_846 (lv_at hl 9 rfl) ?_
              refine lv_bipush (v := 6) hx hb dL_law_848 (by decide) ?_
              refine callC_V (b := 0) (z := z) (σ := σ5) (As := [.int 6]) X hS3 hA hzz hzA hP3 (C := RX10) (kC_X10 kd_0) m_2_94 m_2_95 m_2_96 mv_X10_state (c_X10_state (G := subG (gB G) z) (v0 := 0) kd_0 h6) (by decide) rfl rfl (Nat.le_of_ble_eq_true rfl) hl.1 dL_law_850 (by omega) (by omega) fun H4 locs4 hP4 z4 o4 hS4 => ?_
              refine lv_iconst (v := 2) hx hb dL_law_853 (by decide) ?_
              refine lv_icmp_ne (tgt := 861) hx hb dL_law_854 (by decide) (fun hc => absurd rfl hc) (fun _ => ?_)
              refine lv_iconst (v := 1) hx hb dL_law_857 (by decide) ?_
              refine lv_goto (tgt := 862) hx hb dL_law_858 (by decide) ?_
              exact hret 862 H4 locs4 _ _ _ dL_law_862 hS4 (by omega) (by omega)
        refine lv_aload hx hb dL_law_809 (lv_at hl 9 rfl) ?_
        refine lv_iload hx hb dL_law_811 (lv_at hl 3 rfl) ?_
        rcases b3 with b3 | ⟨rfl, b3⟩
        · refine call_SZ (As := [.ref z, .int (stC cc many)]) (fr := zA z) X hS2 hA (Mv.h fun H => CQ (gB G) z σ3 H) (fun U hU hv => by rw [hU]; exact hP2) (fun q h9 => by rcases h9 with h9 | h9; exact hzA q h9; exact hAn q (by have := hS2.1; omega)) m_6_206 m_6_207 mlz_tries (cz_tries0 b3 hG hgz0) hfl (by decide) rfl rfl (Nat.le_of_ble_eq_true rfl) hl.1 dL_law_813 (by omega) (by omega) fun H3 locs3 hP3 z3 o3 hS3 => ?_
          exact mD H3 locs3 _ _ hP3 (hPG2.kept (fun i hi => o3 _ (hPG2.lt i hi) (fun h9 => by simp only [zA] at h9; have : ga (G.pl v) i < z ∨ z + 609 ≤ ga (G.pl v) i := hsep i hi; omega))) hS3 (by omega) (by omega)
        · refine call_SZ (As := [.ref z, .int (stC cc many)]) (fr := zA z) X hS2 hA (Mv.h fun H => CQ (gB G) z σ3 H) (fun U hU hv => by rw [hU]; exact hP2) (fun q h9 => by rcases h9 with h9 | h9; exact hzA q h9; exact hAn q (by have := hS2.1; omega)) m_6_206 m_6_207 mlz_tries (cz_tries1 b3 hG hgz0) hfl (by decide) rfl rfl (Nat.le_of_ble_eq_true rfl) hl.1 dL_law_813 (by omega) (by omega) fun H3 locs3 hP3 z3 o3 hS3 => ?_
          exact mD H3 locs3 _ _ hP3 (hPG2.kept (fun i hi => o3 _ (hPG2.lt i hi) (fun h9 => by simp only [zA] at h9; have : ga (G.pl v) i < z ∨ z + 609 ≤ ga (G.pl v) i := hsep i hi; omega))) hS3 (by omega) (by omega)
      refine lv_aload_n hx hb dL_law_779 rfl (lv_at hl 6 rfl) ?_
      refine lv_iload hx hb dL_law_780 (lv_at hl 2 rfl) ?_
      refine lv_iload hx hb dL_law_782 (lv_at hl 0 rfl) ?_
      refine lv_if_ne (tgt := 791) hx hb dL_law_784 (by decide) (fun hne => ?_) (fun heq => ?_)
      rotate_left
      · refine lv_iconst (v := -1) hx hb dL_law_787 (by decide) ?_
        refine lv_goto (tgt := 804) hx hb dL_law_788 (by decide) ?_
        exact mC ls (-1) (by rw [if_pos heq]) hl
      · skip
        refine lv_iload hx hb dL_law_791 (lv_at hl 0 rfl) ?_
        refine lv_iconst (v := 2) hx hb dL_law_793 (by decide) ?_
        refine lv_icmp_ne (tgt := 802) hx hb dL_law_794 (by decide) (fun hne2 => ?_) (fun heq2 => ?_)
        · refine lv_bipush (v := 50) hx hb dL_law_802 (by decide) ?_
          exact mC ls 50 (by rw [if_neg hne, if_neg hne2]) hl
        · refine lv_iload hx hb dL_law_797 (lv_at hl 1 rfl) ?_
          refine lv_goto (tgt := 804) hx hb dL_law_799 (by decide) ?_
          exact mC ls draw (by rw [if_neg hne, if_pos heq2]) hl
    have hP := hP0; have hPG := hPG0; have hS := hS0; have hc := hc0; have hs := hs0; have hl := hl0
    refine lv_iload hx hb dL_law_695 (lv_at hl 0 rfl) ?_
    refine lv_bipush (v := 10) hx hb dL_law_697 (by decide) ?_
    refine lv_icmp_ge (tgt := 869) hx hb dL_law_699 (by decide) (fun hc => absurd hc (by rw [show (10 : Int32) = nI 10 from rfl]; exact nI_ge hkn (by decide))) (fun _ => ?_)
    refine lv_aload_n hx hb dL_law_702 rfl (lv_at hl 1 rfl) ?_
    refine lv_bipush (v := 8) hx hb dL_law_703 (by decide) ?_
    refine lv_iload hx hb dL_law_705 (lv_at hl 0 rfl) ?_
    refine lv_iadd hx hb dL_law_707 ?_
    refine lv_to (y := nI (8 + k)) (nI_add 8 k) ?_
    refine callP_S (As := [.ref b, .int (nI (8 + k))]) X hS hA ((fun U V hv hh q => by show va_T _ _ _ _ _ V V.heap; rw [hh]; exact va_T.moved hv q)) (fun U hU hv => by rw [hU]; exact va_T.moved hv (va_T.at hxs hS hA)) m_5_154 m_5_155 mv_L_cell (cp_cell (N := N) (f := xs) hN (by omega)) (by decide) rfl rfl (Nat.le_of_ble_eq_true rfl) hl.1 dL_law_708 (by omega) (by omega) ?_
    refine lv_to (y := cc) hcc ?_
    refine lv_istore (lv' := [(7, .int cc), (6, .int (nI k)), (0, .ref b), (1, .ref (ga G 1000)), (2, .int many), (5, .ref z)]) hx hb dL_law_711 hl (by decide) rfl ?_
    clear hl; intro ls hl
    refine lv_iload hx hb dL_law_713 (lv_at hl 0 rfl) ?_
    refine lv_iload_n hx hb dL_law_715 rfl (lv_at hl 4 rfl) ?_
    refine callP_S (As := [.int cc, .int many]) X hS hA (Mv.true) (fun U hU hv => trivial) m_5_157 m_5_158 mv_L_bound (cp_bound (Pf := fun _ => True) hmany) (by decide) rfl rfl (Nat.le_of_ble_eq_true rfl) hl.1 dL_law_716 (by omega) (by omega) ?_
    refine lv_istore (lv' := [(8, .int (stC cc many)), (7, .int cc), (6, .int (nI k)), (0, .ref b), (1, .ref (ga G 1000)), (2, .int many), (5, .ref z)]) hx hb dL_law_719 hl (by decide) rfl ?_
    clear hl; intro ls hl
    refine lv_iconst (v := (-1)) hx hb dL_law_721 (by decide) ?_
    refine lv_istore (lv' := [(9, .int ((-1))), (8, .int (stC cc many)), (7, .int cc), (6, .int (nI k)), (0, .ref b), (1, .ref (ga G 1000)), (2, .int many), (5, .ref z)]) hx hb dL_law_722 hl (by decide) rfl ?_
    clear hl; intro ls hl
    refine lv_iload hx hb dL_law_724 (lv_at hl 2 rfl) ?_
    refine lv_iconst (v := 5) hx hb dL_law_726 (by decide) ?_
    refine w_ishr hx hb dL_law_727 ?_
    refine lv_iconst (v := 3) hx hb dL_law_728 (by decide) ?_
    refine lv_iand hx hb dL_law_729 ?_
    unfold RndA at hr
    refine lv_if_ne (tgt := 770) hx hb dL_law_730 (by decide) (fun hne => ?_) (fun heq => ?_)
    · rw [if_neg hne] at hr
      exact mB (-1) σ H0 _ _ _ _ hr hP hPG hS hc hs (lv_sub hl [0, 1, 2, 3, 4, 5, 6, 7] rfl)
    · rw [if_pos heq] at hr
      obtain ⟨h0, σ1, r1, r2⟩ := hr
      refine lv_aload hx hb dL_law_733 (lv_at hl 7 rfl) ?_
      refine lv_bipush (v := 6) hx hb dL_law_735 (by decide) ?_
      refine callC_V (b := 0) (z := z) (σ := σ) (As := [.int 6]) X hS hA hzz hzA hP (C := RX10) (kC_X10 kd_0) m_2_94 m_2_95 m_2_96 mv_X10_state (c_X10_state (G := subG (gB G) z) (v0 := 0) kd_0 r1) (by decide) rfl rfl (Nat.le_of_ble_eq_true rfl) hl.1 dL_law_737 (by omega) (by omega) fun H1 locs pH1 zH1 oH1 SH1 => ?_
      have tH1 := hPG.lt
      replace hPG := hPG.kept (fun i hi => oH1 _ (tH1 i hi) (by have : ga (G.pl v) i < z ∨ z + 609 ≤ ga (G.pl v) i := hsep i hi; omega))
      replace hP := pH1
      replace hS := SH1
      clear oH1 zH1 tH1
      refine lv_if_ne (tgt := 770) hx hb dL_law_740 (by decide) (fun hne2 => ?_) (fun heq2 => ?_)
      · rw [if_neg hne2] at r2
        exact mB (-1) σ1 H1 locs _ _ _ r2 hP hPG hS hc hs (lv_sub hl [0, 1, 2, 3, 4, 5, 6, 7] rfl)
      · rw [if_pos heq2] at r2
        obtain ⟨σ2, r3, r4⟩ := r2
        refine lv_iload hx hb dL_law_743 (lv_at hl 2 rfl) ?_
        refine lv_bipush (v := 8) hx hb dL_law_745 (by decide) ?_
        refine w_ishr hx hb dL_law_747 ?_
        refine lv_bipush (v := 100) hx hb dL_law_748 (by decide) ?_
        refine callP_S (As := [.int (ishr cc 8), .int 100]) X hS hA (Mv.true) (fun U hU hv => trivial) m_5_157 m_5_158 mv_L_bound (cp_bound (Pf := fun _ => True) (v := ishr cc 8) (n := 100) (by decide)) (by decide) rfl rfl (Nat.le_of_ble_eq_true rfl) hl.1 dL_law_750 (by omega) (by omega) ?_
        refine lv_istore (lv' := [(9, .int (drC2 cc)), (8, .int (stC cc many)), (7, .int cc), (6, .int (nI k)), (0, .ref b), (1, .ref (ga G 1000)), (2, .int many), (5, .ref z)]) hx hb dL_law_753 hl (by decide) rfl ?_
        clear hl; intro ls hl
        refine lv_aload hx hb dL_law_755 (lv_at hl 7 rfl) ?_
        refine lv_iload hx hb dL_law_757 (lv_at hl 0 rfl) ?_
        refine lv_bipush (v := 50) hx hb dL_law_759 (by decide) ?_
        refine callC_V (b := 0) (z := z) (σ := σ1) (As := [.int (drC2 cc), .int 50]) X hS hA hzz hzA hP (C := RX10) (kC_X10 kd_0) m_2_229 m_2_230 m_2_231 mv_X10_tell (c_X10_tell (G := subG (gB G) z) (v0 := 0) kd_0 r3) (by decide) rfl rfl (Nat.le_of_ble_eq_true rfl) hl.1 dL_law_761 (by omega) (by omega) fun H1 locs pH1 zH1 oH1 SH1 => ?_
        have tH1 := hPG.lt
        replace hPG := hPG.kept (fun i hi => oH1 _ (tH1 i hi) (by have : ga (G.pl v) i < z ∨ z + 609 ≤ ga (G.pl v) i := hsep i hi; omega))
        replace hP := pH1
        replace hS := SH1
        clear oH1 zH1 tH1
        refine lv_iconst (v := 2) hx hb dL_law_764 (by decide) ?_
        refine lv_icmp_eq (tgt := 770) hx hb dL_law_765 (by decide) (fun _ => ?_) (fun hc => absurd rfl hc)
        exact mB (drC2 cc) σ2 H1 locs _ _ _ r4 hP hPG hS hc hs (lv_sub hl [0, 1, 2, 3, 4, 5, 6, 7] rfl)
