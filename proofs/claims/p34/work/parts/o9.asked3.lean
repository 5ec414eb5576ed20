theorem m_2_95 : Cond.instanceMethod yX10_state ∈ TB := mem_t2 95 (by decide +kernel)
theorem m_2_96 : Cond.selects RX10 yX10_state yX10_state ∈ TB := mem_t2 96 (by decide +kernel)
theorem m_2_97 : Cond.code yX10_state cX10_state 4 (some .int) ∈ TB := mem_t2 97 (by decide +kernel)
theorem m_4_152 : Cond.methodLink RX11 146 yX10_possible ∈ TB := mem_t4 152 (by decide +kernel)
theorem m_4_153 : Cond.instanceMethod yX10_possible ∈ TB := mem_t4 153 (by decide +kernel)
theorem m_4_154 : Cond.selects RX10 yX10_possible yX10_possible ∈ TB := mem_t4 154 (by decide +kernel)
theorem m_4_155 : Cond.code yX10_possible cX10_possible 2 (some .boolean) ∈ TB := mem_t4 155 (by decide +kernel)
theorem m_4_175 : Cond.methodLink RX11 151 yX10_planLength ∈ TB := mem_t4 175 (by decide +kernel)
theorem m_4_176 : Cond.instanceMethod yX10_planLength ∈ TB := mem_t4 176 (by decide +kernel)
theorem m_4_177 : Cond.selects RX10 yX10_planLength yX10_planLength ∈ TB := mem_t4 177 (by decide +kernel)
theorem m_4_178 : Cond.code yX10_planLength cX10_planLength 3 (some .int) ∈ TB := mem_t4 178 (by decide +kernel)
theorem m_4_183 : Cond.methodLink RX11 154 yX10_safest ∈ TB := mem_t4 183 (by decide +kernel)
theorem m_4_184 : Cond.instanceMethod yX10_safest ∈ TB := mem_t4 184 (by decide +kernel)
theorem m_4_185 : Cond.selects RX10 yX10_safest yX10_safest ∈ TB := mem_t4 185 (by decide +kernel)
theorem m_4_186 : Cond.code yX10_safest cX10_safest 3 (some .int) ∈ TB := mem_t4 186 (by decide +kernel)
theorem m_4_195 : Cond.methodLink RX11 156 yX10_state ∈ TB := mem_t4 195 (by decide +kernel)
theorem m_4_196 : Cond.methodLink RX11 158 yX10_best ∈ TB := mem_t4 196 (by decide +kernel)
theorem m_4_197 : Cond.instanceMethod yX10_best ∈ TB := mem_t4 197 (by decide +kernel)
theorem m_4_198 : Cond.selects RX10 yX10_best yX10_best ∈ TB := mem_t4 198 (by decide +kernel)
theorem m_4_199 : Cond.code yX10_best cX10_best 6 (some .int) ∈ TB := mem_t4 199 (by decide +kernel)
theorem m_5_6 : Cond.methodLink RX11 161 yX10_endings ∈ TB := mem_t5 6 (by decide +kernel)
theorem m_5_7 : Cond.instanceMethod yX10_endings ∈ TB := mem_t5 7 (by decide +kernel)
theorem m_5_8 : Cond.selects RX10 yX10_endings yX10_endings ∈ TB := mem_t5 8 (by decide +kernel)
theorem m_5_9 : Cond.code yX10_endings cX10_endings 3 (some .int) ∈ TB := mem_t5 9 (by decide +kernel)
theorem m_5_20 : Cond.methodLink RX11 164 yX10_planStep ∈ TB := mem_t5 20 (by decide +kernel)
theorem m_5_21 : Cond.instanceMethod yX10_planStep ∈ TB := mem_t5 21 (by decide +kernel)
theorem m_5_22 : Cond.selects RX10 yX10_planStep yX10_planStep ∈ TB := mem_t5 22 (by decide +kernel)
theorem m_5_23 : Cond.code yX10_planStep cX10_planStep 4 (some .int) ∈ TB := mem_t5 23 (by decide +kernel)
theorem m_5_41 : Cond.methodLink RX11 167 yJ0_charAt_5068e ∈ TB := mem_t5 41 (by decide +kernel)
theorem mv_X10_planStep : MV yX10_planStep cX10_planStep 4 (some .int) 2 := ⟨m_5_23, by decide +kernel, m_1_18, ⟨by decide +kernel, by decide +kernel, by decide +kernel⟩, by decide⟩
theorem mv_X10_endings : MV yX10_endings cX10_endings 3 (some .int) 1 := ⟨m_5_9, by decide +kernel, m_1_18, ⟨by decide +kernel, by decide +kernel, by decide +kernel⟩, by decide⟩
theorem mv_X10_possible : MV yX10_possible cX10_possible 2 (some .boolean) 1 := ⟨m_4_155, by decide +kernel, m_1_18, ⟨by decide +kernel, by decide +kernel, by decide +kernel⟩, by decide⟩
theorem mv_X10_planLength : MV yX10_planLength cX10_planLength 3 (some .int) 1 := ⟨m_4_178, by decide +kernel, m_1_18, ⟨by decide +kernel, by decide +kernel, by decide +kernel⟩, by decide⟩
theorem mv_X10_safest : MV yX10_safest cX10_safest 3 (some .int) 1 := ⟨m_4_186, by decide +kernel, m_1_18, ⟨by decide +kernel, by decide +kernel, by decide +kernel⟩, by decide⟩
theorem mv_X10_state : MV yX10_state cX10_state 4 (some .int) 1 := ⟨m_2_97, by decide +kernel, m_1_18, ⟨by decide +kernel, by decide +kernel, by decide +kernel⟩, by decide⟩
theorem mv_X10_best : MV yX10_best cX10_best 6 (some .int) 0 := ⟨m_4_199, by decide +kernel, m_1_18, ⟨by decide +kernel, by decide +kernel, by decide +kernel⟩, by decide⟩
/-! ISASKED: its questions -/
/-- what the class answers of its steps and goals -/
def IaQ (G : Gm) (τ : St) (dn : Int32) (cF : Nat → Int32) (σ : St) : Prop := (∀ k, k < 2 ^ gn G → ∃ r, pf_X10_holds 0 0 (nI k) σ = some (.inr r) ∧ pf_X11_holds 1000 (nI k) τ = some r) ∧ (∀ i, i < 3 → pf_X10_stock 0 (nI i) σ = some (.inr (gI τ 1002 i))) ∧ pf_X10_quest 0 0 1 σ = some (.inr (gI τ 1000 3)) ∧ pf_X10_quest 0 0 2 σ = some (.inr dn) ∧ pf_X10_quest 0 0 3 σ = some (.inr (broA τ (gn G))) ∧ pf_X10_quest 0 0 7 σ = some (.inr (canA cF (gn G))) ∧ ∀ k, k < gn G → pf_X11_can 1000 (nI k) dn 1002 τ = some (cF k) ∧ pf_X10_step 0 0 (nI k) 2 σ = some (.inr (gI τ (1005 + 4 * k) 2)) ∧ pf_X10_step 0 0 (nI k) 3 σ = some (.inr (if gI τ (1005 + 4 * k) 5 = 0 then 0 else 1)) ∧ ∃ w, pf_X10_why 0 0 (nI k) σ = some (.inr w) ∧ (if w = 0 then 1 else 0) = cF k
/-- a question that is answered r, whatever it leaves of the kind that the class keeps to -/
def IaP (Iq : St → Prop) (f : St → Option ((Nat ⊕ Int32) × St)) (r : Int32) : Prop := ∀ σ, Iq σ → ∃ σ', f σ = some (.inr r, σ') ∧ Iq σ'
noncomputable def cntE (τ : St) : Nat → Int32
  | 0 => 0
  | k + 1 => cntE τ k + (if gI τ 1003 k = 0 then 0 else 1)
set_option maxHeartbeats 4000000 in
theorem ia_216_1 {G : Gm} {l : Launch} {p : Program} {e : Env} {s : State} {m : MethodId} {args : Array Value} {below : List Frame} {meth : Method} {c : Code} {Q : State → Prop} {z mc1 ms1 : Nat} {A : Nat → Prop} {τ : St} {dn : Int32} {cF : Nat → Int32} {Iq : St → Prop} {a5 b5 : Nat} {pt : List Nat}
    (X : Cx (gB G) p (rmC 16 mc1 ms1) s m args c 0 0 cX11_isAsked 8 yX11_isAsked.cls 16) (hA : ∀ q, q < s.heap.size → A q → gA (gB G) q) (hzz : ∀ q, z ≤ q ∧ q < z + 609 → gA (gB G) q) (hzA : ∀ q, z ≤ q ∧ q < z + 609 → A q) (hsep : ∀ i, kv G i ≠ 99 → ga G i < z ∨ z + 609 ≤ ga G i) (hgn : gn G ≤ 4)
    (hdn : pf_X11_done 1000 τ = some dn) (hI : ∀ σ, Iq σ → IaQ G τ dn cF σ)
    (hend : ∀ (σ : St), Iq σ → ∀ (H : Heap) (locs : List Loc) (cells slots : Nat) (ls : Array Slot), CQ (gB G) z σ H → PG G τ H → va_S A s.heap H locs → cells ≤ mc1 → slots ≤ ms1 → lv_has ls 8 [(0, .ref (ga G 1000)), (1, .ref z)] → W p l e (rmC 16 mc1 ms1) s m args below meth c H locs cells slots Q (F0 m 512 ls []))
    (hgp : gp G = .ref a5) (hpl : pt.length ≤ 100) (hpa : asc pt) (hsp : (a5 < z ∨ z + 609 ≤ a5) ∧ (b5 < z ∨ z + 609 ≤ b5)) :
    ∀ (σ : St) (hσ : Iq σ) (H : Heap) (locs : List Loc) (cells slots : Nat) (ls : Array Slot), CQ (gB G) z σ H → PG G τ H → SF a5 b5 pt s H → va_S A s.heap H locs → cells ≤ mc1 → slots ≤ ms1 → lv_has ls 8 [(0, .ref (ga G 1000)), (1, .ref z), (2, .int 1)] → W p l e (rmC 16 mc1 ms1) s m args below meth c H locs cells slots Q (F0 m 216 ls []) := by
  have hx := X.1.1
  have hb := X.1.2.1
  intro σ hσ H locs cells slots ls hP hPG g5 hS hc hs hl
  obtain ⟨q1, q2, q3, q4, q5, q6, q7⟩ := hI σ hσ
  refine lv_iconst (v := 0) hx hb dX11_isAsked_216 (by decide) ?_
  refine lv_istore (lv' := [(4, .int 0), (0, .ref (ga G 1000)), (1, .ref z), (2, .int 1)]) hx hb dX11_isAsked_217 hl (by decide) rfl ?_
  clear hl; intro ls hl
  refine lv_iconst (v := 0) hx hb dX11_isAsked_219 (by decide) ?_
  refine lv_istore (lv' := [(5, .int 0), (4, .int 0), (0, .ref (ga G 1000)), (1, .ref z), (2, .int 1)]) hx hb dX11_isAsked_220 hl (by decide) rfl ?_
  clear hl; intro ls hl
  refine lv_iconst (v := 0) hx hb dX11_isAsked_222 (by decide) ?_
  refine lv_istore (lv' := [(6, .int 0), (5, .int 0), (4, .int 0), (0, .ref (ga G 1000)), (1, .ref z), (2, .int 1)]) hx hb dX11_isAsked_223 hl (by decide) rfl ?_
  clear hl; intro ls hl
  exact ia_6 X hA hzz hzA hsep hgn (hend σ hσ) q1 q2 hdn q3 q4 q5 q6 q7 (gn G) 0 (Nat.zero_add _) H locs cells slots ls hP hPG hS hc hs (lv_sub hl [0, 1, 2, 3, 4] rfl)
set_option maxHeartbeats 4000000 in
theorem ia_170_1 {G : Gm} {l : Launch} {p : Program} {e : Env} {s : State} {m : MethodId} {args : Array Value} {below : List Frame} {meth : Method} {c : Code} {Q : State → Prop} {z mc1 ms1 : Nat} {A : Nat → Prop} {τ : St} {dn : Int32} {cF : Nat → Int32} {Iq : St → Prop} {a5 b5 : Nat} {pt : List Nat}
    (X : Cx (gB G) p (rmC 16 mc1 ms1) s m args c 0 0 cX11_isAsked 8 yX11_isAsked.cls 16) (hA : ∀ q, q < s.heap.size → A q → gA (gB G) q) (hzz : ∀ q, z ≤ q ∧ q < z + 609 → gA (gB G) q) (hzA : ∀ q, z ≤ q ∧ q < z + 609 → A q) (hsep : ∀ i, kv G i ≠ 99 → ga G i < z ∨ z + 609 ≤ ga G i) (hgn : gn G ≤ 4)
    (hdn : pf_X11_done 1000 τ = some dn) (hI : ∀ σ, Iq σ → IaQ G τ dn cF σ)
    (hend : ∀ (σ : St), Iq σ → ∀ (H : Heap) (locs : List Loc) (cells slots : Nat) (ls : Array Slot), CQ (gB G) z σ H → PG G τ H → va_S A s.heap H locs → cells ≤ mc1 → slots ≤ ms1 → lv_has ls 8 [(0, .ref (ga G 1000)), (1, .ref z)] → W p l e (rmC 16 mc1 ms1) s m args below meth c H locs cells slots Q (F0 m 512 ls []))
    (hgp : gp G = .ref a5) (hpl : pt.length ≤ 100) (hpa : asc pt) (hsp : (a5 < z ∨ z + 609 ≤ a5) ∧ (b5 < z ∨ z + 609 ≤ b5))
    (hps : ∀ k, k < pt.length → IaP Iq (pf_X10_planStep 0 0 (nI k)) (tB pt k - 48)) :
    ∀ (j k : Nat), k + j = pt.length → ∀ (σ : St) (hσ : Iq σ) (H : Heap) (locs : List Loc) (cells slots : Nat) (ls : Array Slot), CQ (gB G) z σ H → PG G τ H → SF a5 b5 pt s H → va_S A s.heap H locs → cells ≤ mc1 → slots ≤ ms1 → lv_has ls 8 [(4, .int (nI k)), (0, .ref (ga G 1000)), (1, .ref z), (2, .int 1)] → W p l e (rmC 16 mc1 ms1) s m args below meth c H locs cells slots Q (F0 m 170 ls []) := by
  have hx := X.1.1
  have hb := X.1.2.1
  obtain ⟨hsp1, hsp2⟩ := id hsp
  intro j
  induction j with
  | zero =>
    intro k hk σ hσ H locs cells slots ls hP hPG g5 hS hc hs hl
    have hk : k = pt.length := by omega
    refine lv_iload_n hx hb dX11_isAsked_170 rfl (lv_at hl 3 rfl) ?_
    refine lv_if_eq (tgt := 216) hx hb dX11_isAsked_171 (by decide) (fun hc => absurd hc (by decide)) (fun _ => ?_)
    refine lv_iload hx hb dX11_isAsked_174 (lv_at hl 0 rfl) ?_
    refine lv_aload_n hx hb dX11_isAsked_176 rfl (lv_at hl 1 rfl) ?_
    refine gg_X11_plan (G := G) X hPG (kv_1000 _) m_3_73 dX11_isAsked_177 ?_
    refine lv_toV hgp ?_
    refine callP_R (As := []) X hS hA (SF.mv) (fun U hU hv => by rw [hU]; exact g5.moved hv) (by obtain ⟨cell, h1, h2, h3, -⟩ := g5.1; exact ⟨cell, h1, h2, h3⟩) m_3_152 m_3_153 m_3_154 mv_J0_length_8abf5 (cp_length (t := pt) (b := b5)) (by decide) rfl rfl (Nat.le_of_ble_eq_true rfl) hl.1 dX11_isAsked_180 (c_R hc) (s_R hs) ?_
    refine lv_icmp_ge (tgt := 216) hx hb dX11_isAsked_183 (by decide) (fun _ => ?_) (fun hc => absurd (by rw [hk]; exact Int32.le_refl _) hc)
    exact ia_216_1 X hA hzz hzA hsep hgn hdn hI hend hgp hpl hpa hsp σ hσ H locs cells slots ls hP hPG g5 hS hc hs (lv_sub hl [1, 2, 3] rfl)
  | succ j ih =>
    intro k hk σ hσ H locs cells slots ls hP hPG g5 hS hc hs hl
    have hkn : k < pt.length := by omega
    refine lv_iload_n hx hb dX11_isAsked_170 rfl (lv_at hl 3 rfl) ?_
    refine lv_if_eq (tgt := 216) hx hb dX11_isAsked_171 (by decide) (fun hc => absurd hc (by decide)) (fun _ => ?_)
    refine lv_iload hx hb dX11_isAsked_174 (lv_at hl 0 rfl) ?_
    refine lv_aload_n hx hb dX11_isAsked_176 rfl (lv_at hl 1 rfl) ?_
    refine gg_X11_plan (G := G) X hPG (kv_1000 _) m_3_73 dX11_isAsked_177 ?_
    refine lv_toV hgp ?_
    refine callP_R (As := []) X hS hA (SF.mv) (fun U hU hv => by rw [hU]; exact g5.moved hv) (by obtain ⟨cell, h1, h2, h3, -⟩ := g5.1; exact ⟨cell, h1, h2, h3⟩) m_3_152 m_3_153 m_3_154 mv_J0_length_8abf5 (cp_length (t := pt) (b := b5)) (by decide) rfl rfl (Nat.le_of_ble_eq_true rfl) hl.1 dX11_isAsked_180 (c_R hc) (s_R hs) ?_
    refine lv_icmp_ge (tgt := 216) hx hb dX11_isAsked_183 (by decide) (fun hc => absurd hc (nI_ge hkn (by omega))) (fun _ => ?_)
    refine lv_aload_n hx hb dX11_isAsked_186 rfl (lv_at hl 2 rfl) ?_
    refine lv_iconst (v := 0) hx hb dX11_isAsked_187 (by decide) ?_
    refine lv_iload hx hb dX11_isAsked_188 (lv_at hl 0 rfl) ?_
    obtain ⟨σu1, yu1, iu1⟩ := hps k hkn σ hσ
    refine callC_V (b := 0) (z := z) (σ := σ) (As := [.int 0, .int (nI k)]) X hS hA hzz hzA hP (C := RX10) (kC_X10 kd_0) m_5_20 m_5_21 m_5_22 mv_X10_planStep (c_X10_planStep (G := subG (gB G) z) (v0 := 0) kd_0 yu1) (by decide) rfl rfl (Nat.le_of_ble_eq_true rfl) hl.1 dX11_isAsked_190 (c_R hc) (s_R hs) fun H2 locs pH2 zH2 oH2 SH2 => ?_
    have tH2 := hPG.lt
    have lH2_g5 := g5.lt
    replace hPG := hPG.kept (fun i hi => oH2 _ (tH2 i hi) (by have := hsep i hi; omega))
    replace g5 := g5.kept (oH2 _ lH2_g5.1 (by omega)) (oH2 _ lH2_g5.2 (by omega))
    replace hP := pH2
    replace hS := SH2
    clear oH2 zH2 tH2
    refine lv_aload_n hx hb dX11_isAsked_193 rfl (lv_at hl 1 rfl) ?_
    refine gg_X11_plan (G := G) X hPG (kv_1000 _) m_3_73 dX11_isAsked_194 ?_
    refine lv_toV hgp ?_
    refine lv_iload hx hb dX11_isAsked_197 (lv_at hl 0 rfl) ?_
    refine callP_R (As := [.int (nI k)]) X hS hA (SF.mv) (fun U hU hv => by rw [hU]; exact g5.moved hv) (by obtain ⟨cell, h1, h2, h3, -⟩ := g5.1; exact ⟨cell, h1, h2, h3⟩) m_5_41 m_5_42 m_5_43 mv_J0_charAt_5068e (cp_charAt (t := pt) (b := b5) (i := k) hpa hkn (by omega)) (by decide) rfl rfl (Nat.le_of_ble_eq_true rfl) hl.1 dX11_isAsked_199 (c_R hc) (s_R hs) ?_
    refine lv_bipush (v := 48) hx hb dX11_isAsked_202 (by decide) ?_
    refine lv_isub hx hb dX11_isAsked_204 ?_
    refine lv_icmp_eq (tgt := 210) hx hb dX11_isAsked_205 (by decide) (fun _ => ?_) (fun hc => absurd rfl hc)
    refine lv_iinc (lv' := [(4, .int (nI (k + 1))), (0, .ref (ga G 1000)), (1, .ref z), (2, .int 1)]) (k := 0) hx hb dX11_isAsked_210 hl rfl (nI_1 k) (by decide) rfl ?_
    clear hl; intro ls hl
    refine lv_goto (tgt := 170) hx hb dX11_isAsked_213 (by decide) ?_
    exact ih (k + 1) (by omega) σu1 iu1 H2 locs cells slots ls hP hPG g5 hS hc hs (lv_sub hl [0, 1, 2, 3] rfl)
set_option maxHeartbeats 4000000 in
theorem ia_148_1 {G : Gm} {l : Launch} {p : Program} {e : Env} {s : State} {m : MethodId} {args : Array Value} {below : List Frame} {meth : Method} {c : Code} {Q : State → Prop} {z mc1 ms1 : Nat} {A : Nat → Prop} {τ : St} {dn : Int32} {cF : Nat → Int32} {Iq : St → Prop} {a5 b5 : Nat} {pt : List Nat}
    (X : Cx (gB G) p (rmC 16 mc1 ms1) s m args c 0 0 cX11_isAsked 8 yX11_isAsked.cls 16) (hA : ∀ q, q < s.heap.size → A q → gA (gB G) q) (hzz : ∀ q, z ≤ q ∧ q < z + 609 → gA (gB G) q) (hzA : ∀ q, z ≤ q ∧ q < z + 609 → A q) (hsep : ∀ i, kv G i ≠ 99 → ga G i < z ∨ z + 609 ≤ ga G i) (hgn : gn G ≤ 4)
    (hdn : pf_X11_done 1000 τ = some dn) (hI : ∀ σ, Iq σ → IaQ G τ dn cF σ)
    (hend : ∀ (σ : St), Iq σ → ∀ (H : Heap) (locs : List Loc) (cells slots : Nat) (ls : Array Slot), CQ (gB G) z σ H → PG G τ H → va_S A s.heap H locs → cells ≤ mc1 → slots ≤ ms1 → lv_has ls 8 [(0, .ref (ga G 1000)), (1, .ref z)] → W p l e (rmC 16 mc1 ms1) s m args below meth c H locs cells slots Q (F0 m 512 ls []))
    (hgp : gp G = .ref a5) (hpl : pt.length ≤ 100) (hpa : asc pt) (hsp : (a5 < z ∨ z + 609 ≤ a5) ∧ (b5 < z ∨ z + 609 ≤ b5))
    (hen : IaP Iq (pf_X10_endings 0 0) (cntE τ 64)) (hps : ∀ k, k < pt.length → IaP Iq (pf_X10_planStep 0 0 (nI k)) (tB pt k - 48)) :
    ∀ (σ : St) (hσ : Iq σ) (H : Heap) (locs : List Loc) (cells slots : Nat) (ls : Array Slot), CQ (gB G) z σ H → PG G τ H → SF a5 b5 pt s H → va_S A s.heap H locs → cells ≤ mc1 → slots ≤ ms1 → lv_has ls 8 [(3, .int (cntE τ 64)), (0, .ref (ga G 1000)), (1, .ref z), (2, .int 1)] → W p l e (rmC 16 mc1 ms1) s m args below meth c H locs cells slots Q (F0 m 148 ls []) := by
  have hx := X.1.1
  have hb := X.1.2.1
  obtain ⟨hsp1, hsp2⟩ := id hsp
  intro σ hσ H locs cells slots ls hP hPG g5 hS hc hs hl
  refine lv_aload_n hx hb dX11_isAsked_148 rfl (lv_at hl 2 rfl) ?_
  refine lv_iconst (v := 0) hx hb dX11_isAsked_149 (by decide) ?_
  obtain ⟨σu1, yu1, iu1⟩ := hen σ hσ
  refine callC_V (b := 0) (z := z) (σ := σ) (As := [.int 0]) X hS hA hzz hzA hP (C := RX10) (kC_X10 kd_0) m_5_6 m_5_7 m_5_8 mv_X10_endings (c_X10_endings (G := subG (gB G) z) (v0 := 0) kd_0 yu1) (by decide) rfl rfl (Nat.le_of_ble_eq_true rfl) hl.1 dX11_isAsked_150 (c_R hc) (s_R hs) fun H2 locs pH2 zH2 oH2 SH2 => ?_
  have tH2 := hPG.lt
  have lH2_g5 := g5.lt
  replace hPG := hPG.kept (fun i hi => oH2 _ (tH2 i hi) (by have := hsep i hi; omega))
  replace g5 := g5.kept (oH2 _ lH2_g5.1 (by omega)) (oH2 _ lH2_g5.2 (by omega))
  replace hP := pH2
  replace hS := SH2
  clear oH2 zH2 tH2
  refine lv_iload_n hx hb dX11_isAsked_153 rfl (lv_at hl 3 rfl) ?_
  refine lv_if_eq (tgt := 161) hx hb dX11_isAsked_154 (by decide) (fun hc => absurd hc (by decide)) (fun _ => ?_)
  refine lv_iload_n hx hb dX11_isAsked_157 rfl (lv_at hl 0 rfl) ?_
  refine lv_goto (tgt := 162) hx hb dX11_isAsked_158 (by decide) ?_
  refine lv_icmp_eq (tgt := 167) hx hb dX11_isAsked_162 (by decide) (fun _ => ?_) (fun hc => absurd rfl hc)
  refine lv_iconst (v := 0) hx hb dX11_isAsked_167 (by decide) ?_
  refine lv_istore (lv' := [(4, .int 0), (3, .int (cntE τ 64)), (0, .ref (ga G 1000)), (1, .ref z), (2, .int 1)]) hx hb dX11_isAsked_168 hl (by decide) rfl ?_
  clear hl; intro ls hl
  exact ia_170_1 X hA hzz hzA hsep hgn hdn hI hend hgp hpl hpa hsp hps pt.length 0 (Nat.zero_add _) σu1 iu1 H2 locs cells slots ls hP hPG g5 hS hc hs (lv_sub hl [0, 2, 3, 4] rfl)
set_option maxHeartbeats 4000000 in
theorem ia_117_1 {G : Gm} {l : Launch} {p : Program} {e : Env} {s : State} {m : MethodId} {args : Array Value} {below : List Frame} {meth : Method} {c : Code} {Q : State → Prop} {z mc1 ms1 : Nat} {A : Nat → Prop} {τ : St} {dn : Int32} {cF : Nat → Int32} {Iq : St → Prop} {a5 b5 : Nat} {pt : List Nat}
    (X : Cx (gB G) p (rmC 16 mc1 ms1) s m args c 0 0 cX11_isAsked 8 yX11_isAsked.cls 16) (hA : ∀ q, q < s.heap.size → A q → gA (gB G) q) (hzz : ∀ q, z ≤ q ∧ q < z + 609 → gA (gB G) q) (hzA : ∀ q, z ≤ q ∧ q < z + 609 → A q) (hsep : ∀ i, kv G i ≠ 99 → ga G i < z ∨ z + 609 ≤ ga G i) (hgn : gn G ≤ 4)
    (hdn : pf_X11_done 1000 τ = some dn) (hI : ∀ σ, Iq σ → IaQ G τ dn cF σ)
    (hend : ∀ (σ : St), Iq σ → ∀ (H : Heap) (locs : List Loc) (cells slots : Nat) (ls : Array Slot), CQ (gB G) z σ H → PG G τ H → va_S A s.heap H locs → cells ≤ mc1 → slots ≤ ms1 → lv_has ls 8 [(0, .ref (ga G 1000)), (1, .ref z)] → W p l e (rmC 16 mc1 ms1) s m args below meth c H locs cells slots Q (F0 m 512 ls []))
    (hgp : gp G = .ref a5) (hpl : pt.length ≤ 100) (hpa : asc pt) (hsp : (a5 < z ∨ z + 609 ≤ a5) ∧ (b5 < z ∨ z + 609 ≤ b5))
    (hen : IaP Iq (pf_X10_endings 0 0) (cntE τ 64)) (hps : ∀ k, k < pt.length → IaP Iq (pf_X10_planStep 0 0 (nI k)) (tB pt k - 48)) :
    ∀ (j k : Nat), k + j = 64 → ∀ (σ : St) (hσ : Iq σ) (H : Heap) (locs : List Loc) (cells slots : Nat) (ls : Array Slot), CQ (gB G) z σ H → PG G τ H → SF a5 b5 pt s H → va_S A s.heap H locs → cells ≤ mc1 → slots ≤ ms1 → lv_has ls 8 [(4, .int (nI k)), (3, .int (cntE τ k)), (0, .ref (ga G 1000)), (1, .ref z), (2, .int 1)] → W p l e (rmC 16 mc1 ms1) s m args below meth c H locs cells slots Q (F0 m 117 ls []) := by
  have hx := X.1.1
  have hb := X.1.2.1
  intro j
  induction j with
  | zero =>
    intro k hk σ hσ H locs cells slots ls hP hPG g5 hS hc hs hl
    obtain rfl : k = 64 := by omega
    refine lv_iload hx hb dX11_isAsked_117 (lv_at hl 0 rfl) ?_
    refine lv_bipush (v := 64) hx hb dX11_isAsked_119 (by decide) ?_
    refine lv_icmp_ge (tgt := 148) hx hb dX11_isAsked_121 (by decide) (fun _ => ?_) (fun hc => absurd (by decide +kernel) hc)
    exact ia_148_1 X hA hzz hzA hsep hgn hdn hI hend hgp hpl hpa hsp hen hps σ hσ H locs cells slots ls hP hPG g5 hS hc hs (lv_sub hl [1, 2, 3, 4] rfl)
  | succ j ih =>
    intro k hk σ hσ H locs cells slots ls hP hPG g5 hS hc hs hl
    have hkn : k < 64 := by omega
    have m : ∀ (x : Int32) (ls : Array Slot), x = (if gI τ 1003 k = 0 then 0 else 1) → lv_has ls 8 [(4, .int (nI k)), (3, .int (cntE τ k)), (0, .ref (ga G 1000)), (1, .ref z), (2, .int 1)] → W p l e (rmC 16 mc1 ms1) s m args below meth c H locs cells slots Q (F0 m 140 ls [.int x, .int (cntE τ k)]) := by
      intro x ls hxc hl
      refine lv_iadd hx hb dX11_isAsked_140 ?_
      refine lv_to (y := cntE τ (k + 1)) (by rw [hxc]; rfl) ?_
      refine lv_istore_n (lv' := [(3, .int (cntE τ (k + 1))), (4, .int (nI k)), (0, .ref (ga G 1000)), (1, .ref z), (2, .int 1)]) hx hb dX11_isAsked_141 rfl hl (by decide) rfl ?_
      clear hl; intro ls hl
      refine lv_iinc (lv' := [(4, .int (nI (k + 1))), (3, .int (cntE τ (k + 1))), (0, .ref (ga G 1000)), (1, .ref z), (2, .int 1)]) (k := 1) hx hb dX11_isAsked_142 hl rfl (nI_1 k) (by decide) rfl ?_
      clear hl; intro ls hl
      refine lv_goto (tgt := 117) hx hb dX11_isAsked_145 (by decide) ?_
      exact ih (k + 1) (by omega) σ hσ H locs cells slots ls hP hPG g5 hS hc hs (lv_sub hl [0, 1, 2, 3, 4] rfl)
    refine lv_iload hx hb dX11_isAsked_117 (lv_at hl 0 rfl) ?_
    refine lv_bipush (v := 64) hx hb dX11_isAsked_119 (by decide) ?_
    refine lv_icmp_ge (tgt := 148) hx hb dX11_isAsked_121 (by decide) (fun hc => absurd hc (by rw [show (64 : Int32) = nI 64 from rfl]; exact nI_ge hkn (by decide))) (fun _ => ?_)
    refine lv_iload_n hx hb dX11_isAsked_124 rfl (lv_at hl 1 rfl) ?_
    refine lv_aload_n hx hb dX11_isAsked_125 rfl (lv_at hl 2 rfl) ?_
    refine gg_X11_ends (G := G) X hPG (kv_1000 _) m_3_75 dX11_isAsked_126 ?_
    refine lv_iload hx hb dX11_isAsked_129 (lv_at hl 0 rfl) ?_
    refine rg_zald (G := G) (i := 1003) X hPG (kv_1003 _) (nI_in hkn (by decide)) dX11_isAsked_131 ?_
    refine lv_to (y := gI τ 1003 k) (by rw [nI_clamp (by omega)]) ?_
    refine lv_if_eq (tgt := 139) hx hb dX11_isAsked_132 (by decide) (fun heq => ?_) (fun hne => ?_)
    · refine lv_iconst (v := 0) hx hb dX11_isAsked_139 (by decide) ?_
      exact m 0 ls (if_pos heq).symm (lv_sub hl [0, 1, 2, 3, 4] rfl)
    · refine lv_iconst (v := 1) hx hb dX11_isAsked_135 (by decide) ?_
      refine lv_goto (tgt := 140) hx hb dX11_isAsked_136 (by decide) ?_
      exact m 1 ls (if_neg hne).symm (lv_sub hl [0, 1, 2, 3, 4] rfl)
set_option maxHeartbeats 4000000 in
theorem ia_24_1 {G : Gm} {l : Launch} {p : Program} {e : Env} {s : State} {m : MethodId} {args : Array Value} {below : List Frame} {meth : Method} {c : Code} {Q : State → Prop} {z mc1 ms1 : Nat} {A : Nat → Prop} {τ : St} {dn : Int32} {cF : Nat → Int32} {Iq : St → Prop} {a5 b5 : Nat} {pt : List Nat}
    (X : Cx (gB G) p (rmC 16 mc1 ms1) s m args c 0 0 cX11_isAsked 8 yX11_isAsked.cls 16) (hA : ∀ q, q < s.heap.size → A q → gA (gB G) q) (hzz : ∀ q, z ≤ q ∧ q < z + 609 → gA (gB G) q) (hzA : ∀ q, z ≤ q ∧ q < z + 609 → A q) (hsep : ∀ i, kv G i ≠ 99 → ga G i < z ∨ z + 609 ≤ ga G i) (hgn : gn G ≤ 4)
    (hdn : pf_X11_done 1000 τ = some dn) (hI : ∀ σ, Iq σ → IaQ G τ dn cF σ)
    (hend : ∀ (σ : St), Iq σ → ∀ (H : Heap) (locs : List Loc) (cells slots : Nat) (ls : Array Slot), CQ (gB G) z σ H → PG G τ H → va_S A s.heap H locs → cells ≤ mc1 → slots ≤ ms1 → lv_has ls 8 [(0, .ref (ga G 1000)), (1, .ref z)] → W p l e (rmC 16 mc1 ms1) s m args below meth c H locs cells slots Q (F0 m 512 ls []))
    (hgp : gp G = .ref a5) (hpl : pt.length ≤ 100) (hpa : asc pt) (hsp : (a5 < z ∨ z + 609 ≤ a5) ∧ (b5 < z ∨ z + 609 ≤ b5))
    (hpo : IaP Iq (pf_X10_possible 0 0) 1) (hln : IaP Iq (pf_X10_planLength 0 0) (nI pt.length)) (hsa : IaP Iq (pf_X10_safest 0 0) (gI τ 1000 7)) (hst8 : IaP Iq (pf_X10_state 0 8) 1) (hbe : ∀ σ, Iq σ → ∃ σ', pf_X10_best 0 σ = some (0, σ') ∧ Iq σ') (hen : IaP Iq (pf_X10_endings 0 0) (cntE τ 64)) (hps : ∀ k, k < pt.length → IaP Iq (pf_X10_planStep 0 0 (nI k)) (tB pt k - 48)) :
    ∀ (σ : St) (hσ : Iq σ) (H : Heap) (locs : List Loc) (cells slots : Nat) (ls : Array Slot), CQ (gB G) z σ H → PG G τ H → SF a5 b5 pt s H → va_S A s.heap H locs → cells ≤ mc1 → slots ≤ ms1 → lv_has ls 8 [(0, .ref (ga G 1000)), (1, .ref z), (2, .int 1)] → W p l e (rmC 16 mc1 ms1) s m args below meth c H locs cells slots Q (F0 m 24 ls []) := by
  have hx := X.1.1
  have hb := X.1.2.1
  obtain ⟨hsp1, hsp2⟩ := id hsp
  intro σ hσ H locs cells slots ls hP hPG g5 hS hc hs hl
  refine lv_aload_n hx hb dX11_isAsked_24 rfl (lv_at hl 1 rfl) ?_
  refine lv_iconst (v := 0) hx hb dX11_isAsked_25 (by decide) ?_
  obtain ⟨σu1, yu1, iu1⟩ := hpo σ hσ
  refine callC_V (b := 0) (z := z) (σ := σ) (As := [.int 0]) X hS hA hzz hzA hP (C := RX10) (kC_X10 kd_0) m_4_152 m_4_153 m_4_154 mv_X10_possible (c_X10_possible (G := subG (gB G) z) (v0 := 0) kd_0 yu1) (by decide) rfl rfl (Nat.le_of_ble_eq_true rfl) hl.1 dX11_isAsked_26 (c_R hc) (s_R hs) fun H2 locs pH2 zH2 oH2 SH2 => ?_
  have tH2 := hPG.lt
  have lH2_g5 := g5.lt
  replace hPG := hPG.kept (fun i hi => oH2 _ (tH2 i hi) (by have := hsep i hi; omega))
  replace g5 := g5.kept (oH2 _ lH2_g5.1 (by omega)) (oH2 _ lH2_g5.2 (by omega))
  replace hP := pH2
  replace hS := SH2
  clear oH2 zH2 tH2
  refine lv_iload_n hx hb dX11_isAsked_29 rfl (lv_at hl 2 rfl) ?_
  refine lv_icmp_ne (tgt := 110) hx hb dX11_isAsked_30 (by decide) (fun hc => absurd rfl hc) (fun _ => ?_)
  refine lv_aload_n hx hb dX11_isAsked_33 rfl (lv_at hl 1 rfl) ?_
  refine lv_iconst (v := 0) hx hb dX11_isAsked_34 (by decide) ?_
  obtain ⟨σu3, yu3, iu3⟩ := hln σu1 iu1
  refine callC_V (b := 0) (z := z) (σ := σu1) (As := [.int 0]) X hS hA hzz hzA hP (C := RX10) (kC_X10 kd_0) m_4_175 m_4_176 m_4_177 mv_X10_planLength (c_X10_planLength (G := subG (gB G) z) (v0 := 0) kd_0 yu3) (by decide) rfl rfl (Nat.le_of_ble_eq_true rfl) hl.1 dX11_isAsked_35 (c_R hc) (s_R hs) fun H4 locs pH4 zH4 oH4 SH4 => ?_
  have tH4 := hPG.lt
  have lH4_g5 := g5.lt
  replace hPG := hPG.kept (fun i hi => oH4 _ (tH4 i hi) (by have := hsep i hi; omega))
  replace g5 := g5.kept (oH4 _ lH4_g5.1 (by omega)) (oH4 _ lH4_g5.2 (by omega))
  replace hP := pH4
  replace hS := SH4
  clear oH4 zH4 tH4
  refine lv_iload_n hx hb dX11_isAsked_38 rfl (lv_at hl 2 rfl) ?_
  refine lv_if_eq (tgt := 52) hx hb dX11_isAsked_39 (by decide) (fun hc => absurd hc (by decide)) (fun _ => ?_)
  refine lv_aload_n hx hb dX11_isAsked_42 rfl (lv_at hl 0 rfl) ?_
  refine gg_X11_plan (G := G) X hPG (kv_1000 _) m_3_73 dX11_isAsked_43 ?_
  refine lv_toV hgp ?_
  refine callP_R (As := []) X hS hA (SF.mv) (fun U hU hv => by rw [hU]; exact g5.moved hv) (by obtain ⟨cell, h1, h2, h3, -⟩ := g5.1; exact ⟨cell, h1, h2, h3⟩) m_3_152 m_3_153 m_3_154 mv_J0_length_8abf5 (cp_length (t := pt) (b := b5)) (by decide) rfl rfl (Nat.le_of_ble_eq_true rfl) hl.1 dX11_isAsked_46 (c_R hc) (s_R hs) ?_
  refine lv_goto (tgt := 53) hx hb dX11_isAsked_49 (by decide) ?_
  refine lv_icmp_ne (tgt := 110) hx hb dX11_isAsked_53 (by decide) (fun hc => absurd rfl hc) (fun _ => ?_)
  refine lv_aload_n hx hb dX11_isAsked_56 rfl (lv_at hl 1 rfl) ?_
  refine lv_iconst (v := 0) hx hb dX11_isAsked_57 (by decide) ?_
  obtain ⟨σu5, yu5, iu5⟩ := hsa σu3 iu3
  refine callC_V (b := 0) (z := z) (σ := σu3) (As := [.int 0]) X hS hA hzz hzA hP (C := RX10) (kC_X10 kd_0) m_4_183 m_4_184 m_4_185 mv_X10_safest (c_X10_safest (G := subG (gB G) z) (v0 := 0) kd_0 yu5) (by decide) rfl rfl (Nat.le_of_ble_eq_true rfl) hl.1 dX11_isAsked_58 (c_R hc) (s_R hs) fun H6 locs pH6 zH6 oH6 SH6 => ?_
  have tH6 := hPG.lt
  have lH6_g5 := g5.lt
  replace hPG := hPG.kept (fun i hi => oH6 _ (tH6 i hi) (by have := hsep i hi; omega))
  replace g5 := g5.kept (oH6 _ lH6_g5.1 (by omega)) (oH6 _ lH6_g5.2 (by omega))
  replace hP := pH6
  replace hS := SH6
  clear oH6 zH6 tH6
  refine lv_iload_n hx hb dX11_isAsked_61 rfl (lv_at hl 2 rfl) ?_
  refine lv_if_eq (tgt := 72) hx hb dX11_isAsked_62 (by decide) (fun hc => absurd hc (by decide)) (fun _ => ?_)
  refine lv_aload_n hx hb dX11_isAsked_65 rfl (lv_at hl 0 rfl) ?_
  refine gg_X11_safest (G := G) X hPG (kv_1000 _) m_3_74 dX11_isAsked_66 ?_
  refine lv_goto (tgt := 73) hx hb dX11_isAsked_69 (by decide) ?_
  refine lv_icmp_ne (tgt := 110) hx hb dX11_isAsked_73 (by decide) (fun hc => absurd rfl hc) (fun _ => ?_)
  refine lv_aload_n hx hb dX11_isAsked_76 rfl (lv_at hl 1 rfl) ?_
  refine lv_bipush (v := 8) hx hb dX11_isAsked_77 (by decide) ?_
  obtain ⟨σu7, yu7, iu7⟩ := hst8 σu5 iu5
  refine callC_V (b := 0) (z := z) (σ := σu5) (As := [.int 8]) X hS hA hzz hzA hP (C := RX10) (kC_X10 kd_0) m_4_195 m_2_95 m_2_96 mv_X10_state (c_X10_state (G := subG (gB G) z) (v0 := 0) kd_0 yu7) (by decide) rfl rfl (Nat.le_of_ble_eq_true rfl) hl.1 dX11_isAsked_79 (c_R hc) (s_R hs) fun H8 locs pH8 zH8 oH8 SH8 => ?_
  have tH8 := hPG.lt
  have lH8_g5 := g5.lt
  replace hPG := hPG.kept (fun i hi => oH8 _ (tH8 i hi) (by have := hsep i hi; omega))
  replace g5 := g5.kept (oH8 _ lH8_g5.1 (by omega)) (oH8 _ lH8_g5.2 (by omega))
  replace hP := pH8
  replace hS := SH8
  clear oH8 zH8 tH8
  refine lv_iload_n hx hb dX11_isAsked_82 rfl (lv_at hl 2 rfl) ?_
  refine lv_if_eq (tgt := 90) hx hb dX11_isAsked_83 (by decide) (fun hc => absurd hc (by decide)) (fun _ => ?_)
  refine lv_iconst (v := 1) hx hb dX11_isAsked_86 (by decide) ?_
  refine lv_goto (tgt := 91) hx hb dX11_isAsked_87 (by decide) ?_
  refine lv_icmp_ne (tgt := 110) hx hb dX11_isAsked_91 (by decide) (fun hc => absurd rfl hc) (fun _ => ?_)
  refine lv_aload_n hx hb dX11_isAsked_94 rfl (lv_at hl 1 rfl) ?_
  obtain ⟨σu9, yu9, iu9⟩ := hbe σu7 iu7
  refine callC_V (b := 0) (z := z) (σ := σu7) (As := []) X hS hA hzz hzA hP (C := RX10) (kC_X10 kd_0) m_4_196 m_4_197 m_4_198 mv_X10_best (c_X10_best (G := subG (gB G) z) (v0 := 0) kd_0 yu9) (by decide) rfl rfl (Nat.le_of_ble_eq_true rfl) hl.1 dX11_isAsked_95 (c_R hc) (s_R hs) fun H10 locs pH10 zH10 oH10 SH10 => ?_
  have tH10 := hPG.lt
  have lH10_g5 := g5.lt
  replace hPG := hPG.kept (fun i hi => oH10 _ (tH10 i hi) (by have := hsep i hi; omega))
  replace g5 := g5.kept (oH10 _ lH10_g5.1 (by omega)) (oH10 _ lH10_g5.2 (by omega))
  replace hP := pH10
  replace hS := SH10
  clear oH10 zH10 tH10
  refine lv_iload_n hx hb dX11_isAsked_98 rfl (lv_at hl 2 rfl) ?_
  refine lv_if_eq (tgt := 106) hx hb dX11_isAsked_99 (by decide) (fun hc => absurd hc (by decide)) (fun _ => ?_)
  refine lv_iconst (v := 0) hx hb dX11_isAsked_102 (by decide) ?_
  refine lv_goto (tgt := 107) hx hb dX11_isAsked_103 (by decide) ?_
  refine lv_icmp_eq (tgt := 112) hx hb dX11_isAsked_107 (by decide) (fun _ => ?_) (fun hc => absurd rfl hc)
  refine lv_iconst (v := 0) hx hb dX11_isAsked_112 (by decide) ?_
  refine lv_istore_n (lv' := [(3, .int 0), (0, .ref (ga G 1000)), (1, .ref z), (2, .int 1)]) hx hb dX11_isAsked_113 rfl hl (by decide) rfl ?_
  clear hl; intro ls hl
  refine lv_iconst (v := 0) hx hb dX11_isAsked_114 (by decide) ?_
  refine lv_istore (lv' := [(4, .int 0), (3, .int 0), (0, .ref (ga G 1000)), (1, .ref z), (2, .int 1)]) hx hb dX11_isAsked_115 hl (by decide) rfl ?_
  clear hl; intro ls hl
  exact ia_117_1 X hA hzz hzA hsep hgn hdn hI hend hgp hpl hpa hsp hen hps 64 0 rfl σu9 iu9 H10 locs cells slots ls hP hPG g5 hS hc hs (lv_sub hl [0, 1, 2, 3, 4] rfl)
set_option maxHeartbeats 4000000 in
theorem ia_216_0 {G : Gm} {l : Launch} {p : Program} {e : Env} {s : State} {m : MethodId} {args : Array Value} {below : List Frame} {meth : Method} {c : Code} {Q : State → Prop} {z mc1 ms1 : Nat} {A : Nat → Prop} {τ : St} {dn : Int32} {cF : Nat → Int32} {Iq : St → Prop}
    (X : Cx (gB G) p (rmC 16 mc1 ms1) s m args c 0 0 cX11_isAsked 8 yX11_isAsked.cls 16) (hA : ∀ q, q < s.heap.size → A q → gA (gB G) q) (hzz : ∀ q, z ≤ q ∧ q < z + 609 → gA (gB G) q) (hzA : ∀ q, z ≤ q ∧ q < z + 609 → A q) (hsep : ∀ i, kv G i ≠ 99 → ga G i < z ∨ z + 609 ≤ ga G i) (hgn : gn G ≤ 4)
    (hdn : pf_X11_done 1000 τ = some dn) (hI : ∀ σ, Iq σ → IaQ G τ dn cF σ)
    (hend : ∀ (σ : St), Iq σ → ∀ (H : Heap) (locs : List Loc) (cells slots : Nat) (ls : Array Slot), CQ (gB G) z σ H → PG G τ H → va_S A s.heap H locs → cells ≤ mc1 → slots ≤ ms1 → lv_has ls 8 [(0, .ref (ga G 1000)), (1, .ref z)] → W p l e (rmC 16 mc1 ms1) s m args below meth c H locs cells slots Q (F0 m 512 ls [])) :
    ∀ (σ : St) (hσ : Iq σ) (H : Heap) (locs : List Loc) (cells slots : Nat) (ls : Array Slot), CQ (gB G) z σ H → PG G τ H → va_S A s.heap H locs → cells ≤ mc1 → slots ≤ ms1 → lv_has ls 8 [(0, .ref (ga G 1000)), (1, .ref z), (2, .int 0)] → W p l e (rmC 16 mc1 ms1) s m args below meth c H locs cells slots Q (F0 m 216 ls []) := by
  have hx := X.1.1
  have hb := X.1.2.1
  intro σ hσ H locs cells slots ls hP hPG hS hc hs hl
  obtain ⟨q1, q2, q3, q4, q5, q6, q7⟩ := hI σ hσ
  refine lv_iconst (v := 0) hx hb dX11_isAsked_216 (by decide) ?_
  refine lv_istore (lv' := [(4, .int 0), (0, .ref (ga G 1000)), (1, .ref z), (2, .int 0)]) hx hb dX11_isAsked_217 hl (by decide) rfl ?_
  clear hl; intro ls hl
  refine lv_iconst (v := 0) hx hb dX11_isAsked_219 (by decide) ?_
  refine lv_istore (lv' := [(5, .int 0), (4, .int 0), (0, .ref (ga G 1000)), (1, .ref z), (2, .int 0)]) hx hb dX11_isAsked_220 hl (by decide) rfl ?_
  clear hl; intro ls hl
  refine lv_iconst (v := 0) hx hb dX11_isAsked_222 (by decide) ?_
  refine lv_istore (lv' := [(6, .int 0), (5, .int 0), (4, .int 0), (0, .ref (ga G 1000)), (1, .ref z), (2, .int 0)]) hx hb dX11_isAsked_223 hl (by decide) rfl ?_
  clear hl; intro ls hl
  exact ia_6 X hA hzz hzA hsep hgn (hend σ hσ) q1 q2 hdn q3 q4 q5 q6 q7 (gn G) 0 (Nat.zero_add _) H locs cells slots ls hP hPG hS hc hs (lv_sub hl [0, 1, 2, 3, 4] rfl)
set_option maxHeartbeats 4000000 in
theorem ia_148_0 {G : Gm} {l : Launch} {p : Program} {e : Env} {s : State} {m : MethodId} {args : Array Value} {below : List Frame} {meth : Method} {c : Code} {Q : State → Prop} {z mc1 ms1 : Nat} {A : Nat → Prop} {τ : St} {dn : Int32} {cF : Nat → Int32} {Iq : St → Prop}
    (X : Cx (gB G) p (rmC 16 mc1 ms1) s m args c 0 0 cX11_isAsked 8 yX11_isAsked.cls 16) (hA : ∀ q, q < s.heap.size → A q → gA (gB G) q) (hzz : ∀ q, z ≤ q ∧ q < z + 609 → gA (gB G) q) (hzA : ∀ q, z ≤ q ∧ q < z + 609 → A q) (hsep : ∀ i, kv G i ≠ 99 → ga G i < z ∨ z + 609 ≤ ga G i) (hgn : gn G ≤ 4)
    (hdn : pf_X11_done 1000 τ = some dn) (hI : ∀ σ, Iq σ → IaQ G τ dn cF σ)
    (hend : ∀ (σ : St), Iq σ → ∀ (H : Heap) (locs : List Loc) (cells slots : Nat) (ls : Array Slot), CQ (gB G) z σ H → PG G τ H → va_S A s.heap H locs → cells ≤ mc1 → slots ≤ ms1 → lv_has ls 8 [(0, .ref (ga G 1000)), (1, .ref z)] → W p l e (rmC 16 mc1 ms1) s m args below meth c H locs cells slots Q (F0 m 512 ls []))
    (hen : IaP Iq (pf_X10_endings 0 0) 0) :
    ∀ (σ : St) (hσ : Iq σ) (H : Heap) (locs : List Loc) (cells slots : Nat) (ls : Array Slot), CQ (gB G) z σ H → PG G τ H → va_S A s.heap H locs → cells ≤ mc1 → slots ≤ ms1 → lv_has ls 8 [(3, .int (cntE τ 64)), (0, .ref (ga G 1000)), (1, .ref z), (2, .int 0)] → W p l e (rmC 16 mc1 ms1) s m args below meth c H locs cells slots Q (F0 m 148 ls []) := by
  have hx := X.1.1
  have hb := X.1.2.1
  intro σ hσ H locs cells slots ls hP hPG hS hc hs hl
  refine lv_aload_n hx hb dX11_isAsked_148 rfl (lv_at hl 2 rfl) ?_
  refine lv_iconst (v := 0) hx hb dX11_isAsked_149 (by decide) ?_
  obtain ⟨σu1, yu1, iu1⟩ := hen σ hσ
  refine callC_V (b := 0) (z := z) (σ := σ) (As := [.int 0]) X hS hA hzz hzA hP (C := RX10) (kC_X10 kd_0) m_5_6 m_5_7 m_5_8 mv_X10_endings (c_X10_endings (G := subG (gB G) z) (v0 := 0) kd_0 yu1) (by decide) rfl rfl (Nat.le_of_ble_eq_true rfl) hl.1 dX11_isAsked_150 (c_R hc) (s_R hs) fun H2 locs pH2 zH2 oH2 SH2 => ?_
  have tH2 := hPG.lt
  replace hPG := hPG.kept (fun i hi => oH2 _ (tH2 i hi) (by have := hsep i hi; omega))
  replace hP := pH2
  replace hS := SH2
  clear oH2 zH2 tH2
  refine lv_iload_n hx hb dX11_isAsked_153 rfl (lv_at hl 3 rfl) ?_
  refine lv_if_eq (tgt := 161) hx hb dX11_isAsked_154 (by decide) (fun _ => ?_) (fun hc => absurd rfl hc)
  refine lv_iconst (v := 0) hx hb dX11_isAsked_161 (by decide) ?_
  refine lv_icmp_eq (tgt := 167) hx hb dX11_isAsked_162 (by decide) (fun _ => ?_) (fun hc => absurd rfl hc)
  refine lv_iconst (v := 0) hx hb dX11_isAsked_167 (by decide) ?_
  refine lv_istore (lv' := [(4, .int 0), (3, .int (cntE τ 64)), (0, .ref (ga G 1000)), (1, .ref z), (2, .int 0)]) hx hb dX11_isAsked_168 hl (by decide) rfl ?_
  clear hl; intro ls hl
  refine lv_iload_n hx hb dX11_isAsked_170 rfl (lv_at hl 4 rfl) ?_
  refine lv_if_eq (tgt := 216) hx hb dX11_isAsked_171 (by decide) (fun _ => ?_) (fun hc => absurd rfl hc)
  exact ia_216_0 X hA hzz hzA hsep hgn hdn hI hend σu1 iu1 H2 locs cells slots ls hP hPG hS hc hs (lv_sub hl [2, 3, 4] rfl)
set_option maxHeartbeats 4000000 in
theorem ia_117_0 {G : Gm} {l : Launch} {p : Program} {e : Env} {s : State} {m : MethodId} {args : Array Value} {below : List Frame} {meth : Method} {c : Code} {Q : State → Prop} {z mc1 ms1 : Nat} {A : Nat → Prop} {τ : St} {dn : Int32} {cF : Nat → Int32} {Iq : St → Prop}
    (X : Cx (gB G) p (rmC 16 mc1 ms1) s m args c 0 0 cX11_isAsked 8 yX11_isAsked.cls 16) (hA : ∀ q, q < s.heap.size → A q → gA (gB G) q) (hzz : ∀ q, z ≤ q ∧ q < z + 609 → gA (gB G) q) (hzA : ∀ q, z ≤ q ∧ q < z + 609 → A q) (hsep : ∀ i, kv G i ≠ 99 → ga G i < z ∨ z + 609 ≤ ga G i) (hgn : gn G ≤ 4)
    (hdn : pf_X11_done 1000 τ = some dn) (hI : ∀ σ, Iq σ → IaQ G τ dn cF σ)
    (hend : ∀ (σ : St), Iq σ → ∀ (H : Heap) (locs : List Loc) (cells slots : Nat) (ls : Array Slot), CQ (gB G) z σ H → PG G τ H → va_S A s.heap H locs → cells ≤ mc1 → slots ≤ ms1 → lv_has ls 8 [(0, .ref (ga G 1000)), (1, .ref z)] → W p l e (rmC 16 mc1 ms1) s m args below meth c H locs cells slots Q (F0 m 512 ls []))
    (hen : IaP Iq (pf_X10_endings 0 0) 0) :
    ∀ (j k : Nat), k + j = 64 → ∀ (σ : St) (hσ : Iq σ) (H : Heap) (locs : List Loc) (cells slots : Nat) (ls : Array Slot), CQ (gB G) z σ H → PG G τ H → va_S A s.heap H locs → cells ≤ mc1 → slots ≤ ms1 → lv_has ls 8 [(4, .int (nI k)), (3, .int (cntE τ k)), (0, .ref (ga G 1000)), (1, .ref z), (2, .int 0)] → W p l e (rmC 16 mc1 ms1) s m args below meth c H locs cells slots Q (F0 m 117 ls []) := by
  have hx := X.1.1
  have hb := X.1.2.1
  intro j
  induction j with
  | zero =>
    intro k hk σ hσ H locs cells slots ls hP hPG hS hc hs hl
    obtain rfl : k = 64 := by omega
    refine lv_iload hx hb dX11_isAsked_117 (lv_at hl 0 rfl) ?_
    refine lv_bipush (v := 64) hx hb dX11_isAsked_119 (by decide) ?_
    refine lv_icmp_ge (tgt := 148) hx hb dX11_isAsked_121 (by decide) (fun _ => ?_) (fun hc => absurd (by decide +kernel) hc)
    exact ia_148_0 X hA hzz hzA hsep hgn hdn hI hend hen σ hσ H locs cells slots ls hP hPG hS hc hs (lv_sub hl [1, 2, 3, 4] rfl)
  | succ j ih =>
    intro k hk σ hσ H locs cells slots ls hP hPG hS hc hs hl
    have hkn : k < 64 := by omega
    have m : ∀ (x : Int32) (ls : Array Slot), x = (if gI τ 1003 k = 0 then 0 else 1) → lv_has ls 8 [(4, .int (nI k)), (3, .int (cntE τ k)), (0, .ref (ga G 1000)), (1, .ref z), (2, .int 0)] → W p l e (rmC 16 mc1 ms1) s m args below meth c H locs cells slots Q (F0 m 140 ls [.int x, .int (cntE τ k)]) := by
      intro x ls hxc hl
      refine lv_iadd hx hb dX11_isAsked_140 ?_
      refine lv_to (y := cntE τ (k + 1)) (by rw [hxc]; rfl) ?_
      refine lv_istore_n (lv' := [(3, .int (cntE τ (k + 1))), (4, .int (nI k)), (0, .ref (ga G 1000)), (1, .ref z), (2, .int 0)]) hx hb dX11_isAsked_141 rfl hl (by decide) rfl ?_
      clear hl; intro ls hl
      refine lv_iinc (lv' := [(4, .int (nI (k + 1))), (3, .int (cntE τ (k + 1))), (0, .ref (ga G 1000)), (1, .ref z), (2, .int 0)]) (k := 1) hx hb dX11_isAsked_142 hl rfl (nI_1 k) (by decide) rfl ?_
      clear hl; intro ls hl
      refine lv_goto (tgt := 117) hx hb dX11_isAsked_145 (by decide) ?_
      exact ih (k + 1) (by omega) σ hσ H locs cells slots ls hP hPG hS hc hs (lv_sub hl [0, 1, 2, 3, 4] rfl)
    refine lv_iload hx hb dX11_isAsked_117 (lv_at hl 0 rfl) ?_
    refine lv_bipush (v := 64) hx hb dX11_isAsked_119 (by decide) ?_
    refine lv_icmp_ge (tgt := 148) hx hb dX11_isAsked_121 (by decide) (fun hc => absurd hc (by rw [show (64 : Int32) = nI 64 from rfl]; exact nI_ge hkn (by decide))) (fun _ => ?_)
    refine lv_iload_n hx hb dX11_isAsked_124 rfl (lv_at hl 1 rfl) ?_
    refine lv_aload_n hx hb dX11_isAsked_125 rfl (lv_at hl 2 rfl) ?_
    refine gg_X11_ends (G := G) X hPG (kv_1000 _) m_3_75 dX11_isAsked_126 ?_
    refine lv_iload hx hb dX11_isAsked_129 (lv_at hl 0 rfl) ?_
    refine rg_zald (G := G) (i := 1003) X hPG (kv_1003 _) (nI_in hkn (by decide)) dX11_isAsked_131 ?_
    refine lv_to (y := gI τ 1003 k) (by rw [nI_clamp (by omega)]) ?_
    refine lv_if_eq (tgt := 139) hx hb dX11_isAsked_132 (by decide) (fun heq => ?_) (fun hne => ?_)
    · refine lv_iconst (v := 0) hx hb dX11_isAsked_139 (by decide) ?_
      exact m 0 ls (if_pos heq).symm (lv_sub hl [0, 1, 2, 3, 4] rfl)
    · refine lv_iconst (v := 1) hx hb dX11_isAsked_135 (by decide) ?_
      refine lv_goto (tgt := 140) hx hb dX11_isAsked_136 (by decide) ?_
      exact m 1 ls (if_neg hne).symm (lv_sub hl [0, 1, 2, 3, 4] rfl)
set_option maxHeartbeats 4000000 in
theorem ia_24_0 {G : Gm} {l : Launch} {p : Program} {e : Env} {s : State} {m : MethodId} {args : Array Value} {below : List Frame} {meth : Method} {c : Code} {Q : State → Prop} {z mc1 ms1 : Nat} {A : Nat → Prop} {τ : St} {dn : Int32} {cF : Nat → Int32} {Iq : St → Prop}
    (X : Cx (gB G) p (rmC 16 mc1 ms1) s m args c 0 0 cX11_isAsked 8 yX11_isAsked.cls 16) (hA : ∀ q, q < s.heap.size → A q → gA (gB G) q) (hzz : ∀ q, z ≤ q ∧ q < z + 609 → gA (gB G) q) (hzA : ∀ q, z ≤ q ∧ q < z + 609 → A q) (hsep : ∀ i, kv G i ≠ 99 → ga G i < z ∨ z + 609 ≤ ga G i) (hgn : gn G ≤ 4)
    (hdn : pf_X11_done 1000 τ = some dn) (hI : ∀ σ, Iq σ → IaQ G τ dn cF σ)
    (hend : ∀ (σ : St), Iq σ → ∀ (H : Heap) (locs : List Loc) (cells slots : Nat) (ls : Array Slot), CQ (gB G) z σ H → PG G τ H → va_S A s.heap H locs → cells ≤ mc1 → slots ≤ ms1 → lv_has ls 8 [(0, .ref (ga G 1000)), (1, .ref z)] → W p l e (rmC 16 mc1 ms1) s m args below meth c H locs cells slots Q (F0 m 512 ls []))
    (hpo : IaP Iq (pf_X10_possible 0 0) 0) (hln : IaP Iq (pf_X10_planLength 0 0) (-1)) (hsa : IaP Iq (pf_X10_safest 0 0) (-1)) (hst8 : IaP Iq (pf_X10_state 0 8) 0) (hbe : ∀ σ, Iq σ → ∃ σ', pf_X10_best 0 σ = some (-1, σ') ∧ Iq σ') (hen : IaP Iq (pf_X10_endings 0 0) 0) :
    ∀ (σ : St) (hσ : Iq σ) (H : Heap) (locs : List Loc) (cells slots : Nat) (ls : Array Slot), CQ (gB G) z σ H → PG G τ H → va_S A s.heap H locs → cells ≤ mc1 → slots ≤ ms1 → lv_has ls 8 [(0, .ref (ga G 1000)), (1, .ref z), (2, .int 0)] → W p l e (rmC 16 mc1 ms1) s m args below meth c H locs cells slots Q (F0 m 24 ls []) := by
  have hx := X.1.1
  have hb := X.1.2.1
  intro σ hσ H locs cells slots ls hP hPG hS hc hs hl
  refine lv_aload_n hx hb dX11_isAsked_24 rfl (lv_at hl 1 rfl) ?_
  refine lv_iconst (v := 0) hx hb dX11_isAsked_25 (by decide) ?_
  obtain ⟨σu1, yu1, iu1⟩ := hpo σ hσ
  refine callC_V (b := 0) (z := z) (σ := σ) (As := [.int 0]) X hS hA hzz hzA hP (C := RX10) (kC_X10 kd_0) m_4_152 m_4_153 m_4_154 mv_X10_possible (c_X10_possible (G := subG (gB G) z) (v0 := 0) kd_0 yu1) (by decide) rfl rfl (Nat.le_of_ble_eq_true rfl) hl.1 dX11_isAsked_26 (c_R hc) (s_R hs) fun H2 locs pH2 zH2 oH2 SH2 => ?_
  have tH2 := hPG.lt
  replace hPG := hPG.kept (fun i hi => oH2 _ (tH2 i hi) (by have := hsep i hi; omega))
  replace hP := pH2
  replace hS := SH2
  clear oH2 zH2 tH2
  refine lv_iload_n hx hb dX11_isAsked_29 rfl (lv_at hl 2 rfl) ?_
  refine lv_icmp_ne (tgt := 110) hx hb dX11_isAsked_30 (by decide) (fun hc => absurd rfl hc) (fun _ => ?_)
  refine lv_aload_n hx hb dX11_isAsked_33 rfl (lv_at hl 1 rfl) ?_
  refine lv_iconst (v := 0) hx hb dX11_isAsked_34 (by decide) ?_
  obtain ⟨σu3, yu3, iu3⟩ := hln σu1 iu1
  refine callC_V (b := 0) (z := z) (σ := σu1) (As := [.int 0]) X hS hA hzz hzA hP (C := RX10) (kC_X10 kd_0) m_4_175 m_4_176 m_4_177 mv_X10_planLength (c_X10_planLength (G := subG (gB G) z) (v0 := 0) kd_0 yu3) (by decide) rfl rfl (Nat.le_of_ble_eq_true rfl) hl.1 dX11_isAsked_35 (c_R hc) (s_R hs) fun H4 locs pH4 zH4 oH4 SH4 => ?_
  have tH4 := hPG.lt
  replace hPG := hPG.kept (fun i hi => oH4 _ (tH4 i hi) (by have := hsep i hi; omega))
  replace hP := pH4
  replace hS := SH4
  clear oH4 zH4 tH4
  refine lv_iload_n hx hb dX11_isAsked_38 rfl (lv_at hl 2 rfl) ?_
  refine lv_if_eq (tgt := 52) hx hb dX11_isAsked_39 (by decide) (fun _ => ?_) (fun hc => absurd rfl hc)
  refine lv_iconst (v := (-1)) hx hb dX11_isAsked_52 (by decide) ?_
  refine lv_icmp_ne (tgt := 110) hx hb dX11_isAsked_53 (by decide) (fun hc => absurd rfl hc) (fun _ => ?_)
  refine lv_aload_n hx hb dX11_isAsked_56 rfl (lv_at hl 1 rfl) ?_
  refine lv_iconst (v := 0) hx hb dX11_isAsked_57 (by decide) ?_
  obtain ⟨σu5, yu5, iu5⟩ := hsa σu3 iu3
  refine callC_V (b := 0) (z := z) (σ := σu3) (As := [.int 0]) X hS hA hzz hzA hP (C := RX10) (kC_X10 kd_0) m_4_183 m_4_184 m_4_185 mv_X10_safest (c_X10_safest (G := subG (gB G) z) (v0 := 0) kd_0 yu5) (by decide) rfl rfl (Nat.le_of_ble_eq_true rfl) hl.1 dX11_isAsked_58 (c_R hc) (s_R hs) fun H6 locs pH6 zH6 oH6 SH6 => ?_
  have tH6 := hPG.lt
  replace hPG := hPG.kept (fun i hi => oH6 _ (tH6 i hi) (by have := hsep i hi; omega))
  replace hP := pH6
  replace hS := SH6
  clear oH6 zH6 tH6
  refine lv_iload_n hx hb dX11_isAsked_61 rfl (lv_at hl 2 rfl) ?_
  refine lv_if_eq (tgt := 72) hx hb dX11_isAsked_62 (by decide) (fun _ => ?_) (fun hc => absurd rfl hc)
  refine lv_iconst (v := (-1)) hx hb dX11_isAsked_72 (by decide) ?_
  refine lv_icmp_ne (tgt := 110) hx hb dX11_isAsked_73 (by decide) (fun hc => absurd rfl hc) (fun _ => ?_)
  refine lv_aload_n hx hb dX11_isAsked_76 rfl (lv_at hl 1 rfl) ?_
  refine lv_bipush (v := 8) hx hb dX11_isAsked_77 (by decide) ?_
  obtain ⟨σu7, yu7, iu7⟩ := hst8 σu5 iu5
  refine callC_V (b := 0) (z := z) (σ := σu5) (As := [.int 8]) X hS hA hzz hzA hP (C := RX10) (kC_X10 kd_0) m_4_195 m_2_95 m_2_96 mv_X10_state (c_X10_state (G := subG (gB G) z) (v0 := 0) kd_0 yu7) (by decide) rfl rfl (Nat.le_of_ble_eq_true rfl) hl.1 dX11_isAsked_79 (c_R hc) (s_R hs) fun H8 locs pH8 zH8 oH8 SH8 => ?_
  have tH8 := hPG.lt
  replace hPG := hPG.kept (fun i hi => oH8 _ (tH8 i hi) (by have := hsep i hi; omega))
  replace hP := pH8
  replace hS := SH8
  clear oH8 zH8 tH8
  refine lv_iload_n hx hb dX11_isAsked_82 rfl (lv_at hl 2 rfl) ?_
  refine lv_if_eq (tgt := 90) hx hb dX11_isAsked_83 (by decide) (fun _ => ?_) (fun hc => absurd rfl hc)
  refine lv_iconst (v := 0) hx hb dX11_isAsked_90 (by decide) ?_
  refine lv_icmp_ne (tgt := 110) hx hb dX11_isAsked_91 (by decide) (fun hc => absurd rfl hc) (fun _ => ?_)
  refine lv_aload_n hx hb dX11_isAsked_94 rfl (lv_at hl 1 rfl) ?_
  obtain ⟨σu9, yu9, iu9⟩ := hbe σu7 iu7
  refine callC_V (b := 0) (z := z) (σ := σu7) (As := []) X hS hA hzz hzA hP (C := RX10) (kC_X10 kd_0) m_4_196 m_4_197 m_4_198 mv_X10_best (c_X10_best (G := subG (gB G) z) (v0 := 0) kd_0 yu9) (by decide) rfl rfl (Nat.le_of_ble_eq_true rfl) hl.1 dX11_isAsked_95 (c_R hc) (s_R hs) fun H10 locs pH10 zH10 oH10 SH10 => ?_
  have tH10 := hPG.lt
  replace hPG := hPG.kept (fun i hi => oH10 _ (tH10 i hi) (by have := hsep i hi; omega))
  replace hP := pH10
  replace hS := SH10
  clear oH10 zH10 tH10
  refine lv_iload_n hx hb dX11_isAsked_98 rfl (lv_at hl 2 rfl) ?_
  refine lv_if_eq (tgt := 106) hx hb dX11_isAsked_99 (by decide) (fun _ => ?_) (fun hc => absurd rfl hc)
  refine lv_iconst (v := (-1)) hx hb dX11_isAsked_106 (by decide) ?_
  refine lv_icmp_eq (tgt := 112) hx hb dX11_isAsked_107 (by decide) (fun _ => ?_) (fun hc => absurd rfl hc)
  refine lv_iconst (v := 0) hx hb dX11_isAsked_112 (by decide) ?_
  refine lv_istore_n (lv' := [(3, .int 0), (0, .ref (ga G 1000)), (1, .ref z), (2, .int 0)]) hx hb dX11_isAsked_113 rfl hl (by decide) rfl ?_
  clear hl; intro ls hl
  refine lv_iconst (v := 0) hx hb dX11_isAsked_114 (by decide) ?_
  refine lv_istore (lv' := [(4, .int 0), (3, .int 0), (0, .ref (ga G 1000)), (1, .ref z), (2, .int 0)]) hx hb dX11_isAsked_115 hl (by decide) rfl ?_
  clear hl; intro ls hl
  exact ia_117_0 X hA hzz hzA hsep hgn hdn hI hend hen 64 0 rfl σu9 iu9 H10 locs cells slots ls hP hPG hS hc hs (lv_sub hl [0, 1, 2, 3, 4] rfl)
