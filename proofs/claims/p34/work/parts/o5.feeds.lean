theorem m_5_167 : Cond.methodLink RL 8 yJ0_length_8abf5 ∈ TB := mem_t5 167 (by decide +kernel)
theorem m_5_168 : Cond.methodLink RL 14 yJ0_charAt_5068e ∈ TB := mem_t5 168 (by decide +kernel)
theorem m_5_169 : Cond.methodLink RL 18 yX10_append ∈ TB := mem_t5 169 (by decide +kernel)
theorem m_5_170 : Cond.instanceMethod yX10_append ∈ TB := mem_t5 170 (by decide +kernel)
theorem m_5_171 : Cond.selects RX10 yX10_append yX10_append ∈ TB := mem_t5 171 (by decide +kernel)
theorem m_5_172 : Cond.code yX10_append cX10_append 6 (some .int) ∈ TB := mem_t5 172 (by decide +kernel)
theorem mv_X10_append : MV yX10_append cX10_append 6 (some .int) 5 := ⟨m_5_172, by decide +kernel, m_1_18, ⟨by decide +kernel, by decide +kernel, by decide +kernel⟩, by decide⟩
theorem kd_0 : kd 0 = 9 := by decide +kernel
/-! FEEDS and READ: the text goes into the class word by word -/
/-- the n-th letter of a text that is filled up with blanks -/
def chF (t : List Nat) (n : Nat) : Int32 := if n < t.length then tB t n else 32
/-- the words that hold the letters i .. i + 19, while they are made -/
def wS (t : List Nat) (i : Nat) : Nat → Nat → Int32
  | 0 => fun _ => 0
  | k + 1 => upd (wS t i k) (k / 4) (ishl (wS t i k (k / 4)) 8 ||| chF t (i + k))
noncomputable def feedF (t : List Nat) : Nat → Nat → Int32 → St → Option (Int32 × St)
  | 0, _, _, _ => none
  | j + 1, i, fed, σ => if t.length ≤ i then some (fed, σ) else
    (pf_X10_append 0 (wS t i 20 0) (wS t i 20 1) (wS t i 20 2) (wS t i 20 3) (wS t i 20 4) σ).bind fun r => feedF t j (i + 20) r.1 r.2
theorem CQmv {G : Gt} {z : Nat} {σ : St} : Mv fun U => CQ G z σ U.heap := Mv.h fun H => CQ G z σ H
def zA (z : Nat) : Nat → Prop := fun q => z ≤ q ∧ q < z + 609
set_option maxHeartbeats 8000000 in
theorem ch_feeds {G : Gt} {l : Launch} {z a bt sz : Nat} {t : List Nat} {σ σ' : St} {r : Int32} {J : Nat} (hG : AllA G) (hgz0 : gz G ≤ z) (ht : asc t) (htl : t.length < 2 ^ 20) (hf : feedF t J 0 0 σ = some (r, σ')) (hab : (a < z ∨ z + 609 ≤ a) ∧ (bt < z ∨ z + 609 ≤ bt)) : CtH G l yL_feeds cL_feeds 6 (some .int) 6 J (5 * J) [.ref z, .ref a] sz (zA z) (fun U => CQ G z σ U.heap ∧ SF a bt t U U.heap) (fun ov H => ov = some (.int r) ∧ CQ G z σ' H) := by
  refine met_H (by decide +kernel) (Nat.le_of_ble_eq_true rfl) .ireturn (Or.inr (Or.inl ⟨.int, r, rfl, rfl, rfl, rfl⟩)) ?_
  intro p e s m args below meth c Q ls X hnm hsz hP hr hl
  have hx := X.1.1
  have hb := X.1.2.1
  have hgz : gz G ≤ sz := by rw [← hsz]; exact X.2.1.2.1
  have hA : ∀ q, q < s.heap.size → frA (zA z) sz q → gA G q := fun q h8 h9 => hG q (by simp only [frA, zA] at h9; omega)
  have hzz : ∀ q, z ≤ q ∧ q < z + 609 → gA G q := fun q h9 => hG q (by omega)
  have hzA : ∀ q, z ≤ q ∧ q < z + 609 → frA (zA z) sz q := fun q h9 => Or.inl h9
  have hS : va_S (frA (zA z) sz) s.heap s.heap [] := va_S.rf
  have hl : lv_has ls 6 [(0, .ref z), (1, .ref a)] := hl
  obtain ⟨hP, g0⟩ := hP
  obtain ⟨hab1, hab2⟩ := hab
  generalize hmc : J = mc1 at X hr
  generalize hms : 5 * mc1 = ms1 at X hr
  have loop : ∀ (j i : Nat), i < 2 ^ 21 → ∀ (fed : Int32) (σ : St) (H : Heap) (locs : List Loc) (cells slots : Nat) (ls : Array Slot), feedF t j i fed σ = some (r, σ') → CQ G z σ H → SF a bt t s H → va_S (frA (zA z) sz) s.heap H locs → cells + j ≤ mc1 → slots + 5 * j ≤ ms1 → lv_has ls 6 [(0, .ref z), (1, .ref a), (2, .int fed), (3, .int (nI i))] → W p l e (rmC 6 mc1 ms1) s m args below meth c H locs cells slots Q (F0 m 4 ls []) := by
    intro j
    induction j with
    | zero => intro i hi fed σ H locs cells slots ls hf; unfold feedF at hf; cases hf
    | succ j ih =>
      intro i hi fed σ H locs cells slots ls hf hP g0 hS hc hs hl
      unfold feedF at hf
      refine lv_iload_n hx hb dL_feeds_4 rfl (lv_at hl 3 rfl) ?_
      refine lv_aload_n hx hb dL_feeds_5 rfl (lv_at hl 1 rfl) ?_
      refine callP_R (As := []) X hS hA (SF.mv) (fun U hU hv => by rw [hU]; exact g0.moved hv) (by obtain ⟨cell, h1, h2, h3, -⟩ := g0.1; exact ⟨cell, h1, h2, h3⟩) m_5_167 m_3_153 m_3_154 mv_J0_length_8abf5 (cp_length (t := t) (b := bt)) (by decide) rfl rfl (Nat.le_of_ble_eq_true rfl) hl.1 dL_feeds_6 (c_R (by omega)) (s_R (by omega)) ?_
      refine lv_icmp_ge (tgt := 106) hx hb dL_feeds_9 (by decide) (fun hge => ?_) (fun hge => ?_)
      · have h1 : t.length ≤ i := by
          apply Nat.le_of_not_lt
          intro q
          exact nI_ge q (by omega) hge
        rw [if_pos h1] at hf
        cases hf
        refine lv_iload_n hx hb dL_feeds_106 rfl (lv_at hl 2 rfl) ?_
        exact hr _ _ _ _ _ _ dL_feeds_107 ⟨rfl, hP⟩ hS (by omega) (by omega)
      · have h1 : ¬ t.length ≤ i := fun q => hge (nI_leG q (by omega))
        rw [if_neg h1] at hf
        obtain ⟨⟨r1, σ1⟩, h2, hf⟩ := Option.bind_eq_some_iff.mp hf
        have hpl := g0.lt
        refine lv_iconst (v := 5) hx hb dL_feeds_12 (by decide) ?_
        refine p_newa (atype := .int) (ty := .int) (t := 0) (N := 5) (a0 := (5, .inl (fun _ => 0))) X m_1_139 rfl rfl (fun _ h => by cases h) rfl (by decide +kernel) (by decide +kernel) (Nat.le_of_ble_eq_true rfl) (c_R (by omega)) (s_R (by omega)) dL_feeds_13 fun H2 nH2 zH2 oH2 => ?_
        have lq1_hP_0 := hP.2
        have lq1_g0_0 := g0.lt.1
        have lq1_g0_1 := g0.lt.2
        have lq1_0 := hS.1
        replace hP := hP.kept (by omega) (fun q h1 h2 h3 => oH2 q h1)
        replace g0 := g0.kept (oH2 _ lq1_g0_0) (oH2 _ lq1_g0_1)
        replace hS := hS.new zH2 oH2
        clear oH2
        generalize hq_q1 : Array.size H = q1 at nH2 zH2 lq1_0 lq1_hP_0 lq1_g0_0 lq1_g0_1 ⊢
        have fa3 : va_at (gDD G) vwCl (q1, .inl (gty G 0, 5, .inl (fun _ => 0))) H2 := nH2
        clear nH2
        refine lv_astore (lv' := [(4, .ref q1), (0, .ref z), (1, .ref a), (2, .int fed), (3, .int (nI i))]) hx hb dL_feeds_15 hl (by decide) rfl ?_
        clear hl; intro ls hl
        refine lv_iconst (v := 0) hx hb dL_feeds_17 (by decide) ?_
        refine lv_istore (lv' := [(5, .int 0), (4, .ref q1), (0, .ref z), (1, .ref a), (2, .int fed), (3, .int (nI i))]) hx hb dL_feeds_18 hl (by decide) rfl ?_
        clear hl; intro ls hl
        have inner : ∀ (jj k : Nat), k + jj = 20 → ∀ (H : Heap) (locs : List Loc) (ls : Array Slot), CQ G z σ H → SF a bt t s H → va_at (gDD G) vwCl (q1, .inl (gty G 0, 5, .inl (wS t i k))) H → va_S (frA (zA z) sz) s.heap H locs → lv_has ls 6 [(5, .int (nI k)), (4, .ref q1), (0, .ref z), (1, .ref a), (2, .int fed), (3, .int (nI i))] → W p l e (rmC 6 mc1 ms1) s m args below meth c H locs (cells + 1) (slots + 5) Q (F0 m 20 ls []) := by
          intro jj
          induction jj with
          | zero =>
            intro k hk H locs ls hP g0 fa hS hl
            obtain rfl : k = 20 := by omega
            refine lv_iload hx hb dL_feeds_20 (lv_at hl 0 rfl) ?_
            refine lv_bipush (v := 20) hx hb dL_feeds_22 (by decide) ?_
            refine lv_icmp_ge (tgt := 75) hx hb dL_feeds_24 (by decide) (fun _ => ?_) (fun hc => absurd (by decide +kernel) hc)
            refine lv_aload_n hx hb dL_feeds_75 rfl (lv_at hl 2 rfl) ?_
            refine lv_aload hx hb dL_feeds_76 (lv_at hl 1 rfl) ?_
            refine lv_iconst (v := 0) hx hb dL_feeds_78 (by decide) ?_
            refine p_iald (t := 0) X fa rfl (by unfold vp_in; decide) dL_feeds_79 ?_
            refine lv_aload hx hb dL_feeds_80 (lv_at hl 1 rfl) ?_
            refine lv_iconst (v := 1) hx hb dL_feeds_82 (by decide) ?_
            refine p_iald (t := 0) X fa rfl (by unfold vp_in; decide) dL_feeds_83 ?_
            refine lv_aload hx hb dL_feeds_84 (lv_at hl 1 rfl) ?_
            refine lv_iconst (v := 2) hx hb dL_feeds_86 (by decide) ?_
            refine p_iald (t := 0) X fa rfl (by unfold vp_in; decide) dL_feeds_87 ?_
            refine lv_aload hx hb dL_feeds_88 (lv_at hl 1 rfl) ?_
            refine lv_iconst (v := 3) hx hb dL_feeds_90 (by decide) ?_
            refine p_iald (t := 0) X fa rfl (by unfold vp_in; decide) dL_feeds_91 ?_
            refine lv_aload hx hb dL_feeds_92 (lv_at hl 1 rfl) ?_
            refine lv_iconst (v := 4) hx hb dL_feeds_94 (by decide) ?_
            refine p_iald (t := 0) X fa rfl (by unfold vp_in; decide) dL_feeds_95 ?_
            refine callC_V (b := 0) (z := z) (σ := σ) (As := [.int (wS t i 20 0), .int (wS t i 20 1), .int (wS t i 20 2), .int (wS t i 20 3), .int (wS t i 20 4)]) X hS hA hzz hzA hP (C := RX10) (kC_X10 kd_0) m_5_169 m_5_170 m_5_171 mv_X10_append (c_X10_append (G := subG G z) (v0 := 0) kd_0 h2) (by decide) rfl rfl (Nat.le_of_ble_eq_true rfl) hl.1 dL_feeds_96 (c_R (by omega)) (s_R (by omega)) fun H1 locs1 hP1 z1 o1 hS1 => ?_
            have hg1 := g0.lt
            replace g0 := g0.kept (o1 _ hg1.1 (by omega)) (o1 _ hg1.2 (by omega))
            refine lv_istore_n (lv' := [(2, .int r1), (5, .int (nI 20)), (4, .ref q1), (0, .ref z), (1, .ref a), (3, .int (nI i))]) hx hb dL_feeds_99 rfl hl (by decide) rfl ?_
            clear hl; intro ls hl
            refine lv_iinc (lv' := [(3, .int (nI (i + 20))), (2, .int r1), (5, .int (nI 20)), (4, .ref q1), (0, .ref z), (1, .ref a)]) (k := 5) hx hb dL_feeds_100 hl rfl (nI_add i 20) (by decide) rfl ?_
            clear hl; intro ls hl
            refine lv_goto (tgt := 4) hx hb dL_feeds_103 (by decide) ?_
            exact ih (i + 20) (by omega) r1 σ1 H1 locs1 _ _ ls hf hP1 g0 hS1 (by omega) (by omega) (lv_sub hl [4, 5, 1, 0] rfl)
          | succ jj ihh =>
            intro k hk H locs ls hP g0 fa hS hl
            have hk20 : k < 20 := by omega
            refine lv_iload hx hb dL_feeds_20 (lv_at hl 0 rfl) ?_
            refine lv_bipush (v := 20) hx hb dL_feeds_22 (by decide) ?_
            refine lv_icmp_ge (tgt := 75) hx hb dL_feeds_24 (by decide) (fun hc => absurd hc (by rw [show (20 : Int32) = nI 20 from rfl]; exact nI_ge hk20 (by decide))) (fun _ => ?_)
            refine lv_aload hx hb dL_feeds_27 (lv_at hl 1 rfl) ?_
            refine lv_iload hx hb dL_feeds_29 (lv_at hl 0 rfl) ?_
            refine lv_iconst (v := 4) hx hb dL_feeds_31 (by decide) ?_
            refine lv_idiv hx hb dL_feeds_32 (by decide) ?_
            refine lv_to (y := nI (k / 4)) ((pk_div (a := k) (d := 4) (by omega) (by decide) (by decide))) ?_
            refine lv_aload hx hb dL_feeds_33 (lv_at hl 1 rfl) ?_
            refine lv_iload hx hb dL_feeds_35 (lv_at hl 0 rfl) ?_
            refine lv_iconst (v := 4) hx hb dL_feeds_37 (by decide) ?_
            refine lv_idiv hx hb dL_feeds_38 (by decide) ?_
            refine lv_to (y := nI (k / 4)) ((pk_div (a := k) (d := 4) (by omega) (by decide) (by decide))) ?_
            refine p_iald (t := 0) X fa rfl (nI_in (by omega) (by decide)) dL_feeds_39 ?_
            refine lv_to (y := wS t i k (k / 4)) (by rw [nI_clamp (by omega)]) ?_
            refine lv_bipush (v := 8) hx hb dL_feeds_40 (by decide) ?_
            refine w_ishl hx hb dL_feeds_42 ?_
            refine lv_iload_n hx hb dL_feeds_43 rfl (lv_at hl 5 rfl) ?_
            refine lv_iload hx hb dL_feeds_44 (lv_at hl 0 rfl) ?_
            refine lv_iadd hx hb dL_feeds_46 ?_
            refine lv_to (y := nI (i + k)) (nI_add i k) ?_
            refine lv_aload_n hx hb dL_feeds_47 rfl (lv_at hl 3 rfl) ?_
            refine callP_R (As := []) X hS hA (SF.mv) (fun U hU hv => by rw [hU]; exact g0.moved hv) (by obtain ⟨cell, h1, h2, h3, -⟩ := g0.1; exact ⟨cell, h1, h2, h3⟩) m_5_167 m_3_153 m_3_154 mv_J0_length_8abf5 (cp_length (t := t) (b := bt)) (by decide) rfl rfl (Nat.le_of_ble_eq_true rfl) hl.1 dL_feeds_48 (c_R (by omega)) (s_R (by omega)) ?_
            have fin : W p l e (rmC 6 mc1 ms1) s m args below meth c H locs (cells + 1) (slots + 5) Q (F0 m 67 ls [.int (chF t (i + k)), .int (ishl (wS t i k (k / 4)) 8), .int (nI (k / 4)), .ref q1]) := by
              refine lv_ior hx hb dL_feeds_67 ?_
              refine p_iast (t := 0) X fa rfl (nI_in (by omega) (by decide)) dL_feeds_68 fun H1 k1 n1 z1 o1 => ?_
              rw [nI_clamp (by omega)] at n1
              have hg1 := g0.lt
              have hP1 := hP.kept (H1 := H1) (Nat.le_of_eq z1.symm) (fun q h1 h2 h3 => o1 q (by omega))
              have g1 := g0.kept (o1 _ (by omega)) (o1 _ (by omega))
              have hS1 := hS.put (k := k1) z1 o1 (Or.inr (by omega))
              refine lv_iinc (lv' := [(5, .int (nI (k + 1))), (4, .ref q1), (0, .ref z), (1, .ref a), (2, .int fed), (3, .int (nI i))]) (k := 0) hx hb dL_feeds_69 hl rfl (nI_1 k) (by decide) rfl ?_
              clear hl; intro ls hl
              refine lv_goto (tgt := 20) hx hb dL_feeds_72 (by decide) ?_
              exact ihh (k + 1) (by omega) H1 _ ls hP1 g1 n1 hS1 (lv_sub hl [0, 1, 2, 3, 4, 5] rfl)
            refine lv_icmp_ge (tgt := 65) hx hb dL_feeds_51 (by decide) (fun hge2 => ?_) (fun hge2 => ?_)
            · have h3 : chF t (i + k) = 32 := if_neg (fun q => nI_ge q (by omega) hge2)
              refine lv_bipush (v := 32) hx hb dL_feeds_65 (by decide) ?_
              rw [h3] at fin
              exact fin
            · have hlt : i + k < t.length := by
                apply Nat.lt_of_not_le
                intro q
                exact hge2 (nI_leG q (by omega))
              have h3 : chF t (i + k) = tB t (i + k) := if_pos hlt
              rw [h3] at fin
              refine lv_aload_n hx hb dL_feeds_54 rfl (lv_at hl 3 rfl) ?_
              refine lv_iload_n hx hb dL_feeds_55 rfl (lv_at hl 5 rfl) ?_
              refine lv_iload hx hb dL_feeds_56 (lv_at hl 0 rfl) ?_
              refine lv_iadd hx hb dL_feeds_58 ?_
              refine lv_to (y := nI (i + k)) (nI_add i k) ?_
              refine callP_R (As := [.int (nI (i + k))]) X hS hA (SF.mv) (fun U hU hv => by rw [hU]; exact g0.moved hv) (by obtain ⟨cell, h1, h2, h3, -⟩ := g0.1; exact ⟨cell, h1, h2, h3⟩) m_5_168 m_5_42 m_5_43 mv_J0_charAt_5068e (cp_charAt (t := t) (b := bt) (i := i + k) ht hlt (by omega)) (by decide) rfl rfl (Nat.le_of_ble_eq_true rfl) hl.1 dL_feeds_59 (c_R (by omega)) (s_R (by omega)) ?_
              refine lv_goto (tgt := 67) hx hb dL_feeds_62 (by decide) ?_
              exact fin
        exact inner 20 0 rfl _ _ ls hP g0 fa3 hS (lv_sub hl [0, 1, 2, 3, 4, 5] rfl)
  refine lv_iconst (v := 0) hx hb dL_feeds_0 (by decide) ?_
  refine lv_istore_n (lv' := [(2, .int 0), (0, .ref z), (1, .ref a)]) hx hb dL_feeds_1 rfl hl (by decide) rfl ?_
  clear hl; intro ls hl
  refine lv_iconst (v := 0) hx hb dL_feeds_2 (by decide) ?_
  refine lv_istore_n (lv' := [(3, .int 0), (2, .int 0), (0, .ref z), (1, .ref a)]) hx hb dL_feeds_3 rfl hl (by decide) rfl ?_
  clear hl; intro ls hl
  exact loop mc1 0 (by decide) 0 σ s.heap [] 0 0 ls (by rw [← hmc]; exact hf) hP g0 hS (by omega) (by omega) (lv_sub hl [2, 3, 1, 0] rfl)
