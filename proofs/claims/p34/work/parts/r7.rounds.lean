/-! THE PURE SIDE: a round of the law -/
/-- the stocks stay small -/
def SBd (rd : Nat → Int32) : Prop := ∀ i, i < 8 → Nn (rd (5 + i)) ≤ 4 + 2 * pop6 (dnM rd (53 + 186 * 0)) + (if rd (53 + 186 * 0 + 1) = 1 then 7 else 0)
/-- game and class stand for the same; so many draws wait -/
def Jg (so le n : Nat) (ql : List Nat) (σ τ : St) : Prop := ∃ rd, CX σ rd 1000 ∧ Qn rd = 1 ∧ HI σ ∧ GQ so le 0 rd ∧ GX so le 0 rd τ ∧ nS rd (53 + 186 * 0) = n ∧ SBd rd ∧ (rd 2 = nI ql.length ∧ ql.length ≤ 2) ∧ ∀ k x, ql[k]? = some x → rd (13 + k) = nI x
def JJ (so le n : Nat) (σ τ : St) : Prop := Jg so le n [] σ τ ∨ Jg so le n [50] σ τ
theorem pop6_nx : ∀ d, d < 64 → ∀ s, s < 6 → d.testBit s = false → pop6 (d ||| 1 <<< s) = pop6 d + 1 := by decide +kernel
theorem AskOK.mono {n : Nat} {σ τ : St} {K K' : St → St → Prop} (h : AskOK n σ τ K) (hk : ∀ σ τ, K σ τ → K' σ τ) : AskOK n σ τ K' := by
  obtain ⟨Iq, dn, cF, pl', τ1, h1, h2, h3, h4, h5, h6⟩ := h
  exact ⟨Iq, dn, cF, pl', τ1, h1, h2, h3, h4, fun s hs => hk _ _ (h5 s hs), h6⟩
section
variable {so le n : Nat} {ql : List Nat} {σ τ : St}
theorem ask_J (h : Jg so le n ql σ τ) : AskOK n σ τ (Jg so le n ql) := by
  obtain ⟨rd, X, h1, hH, hQ, hG, hn, hS, q1, q2⟩ := h
  subst hn
  exact ask_ok X h1 hH hQ hG fun σ' τ' X' H' G' => ⟨rd, X', h1, H', hQ, G', rfl, hS, q1, q2⟩
theorem Jg.cq {σ' : St} (h : Jg so le n ql σ τ) (u : Un cQ σ σ') : Jg so le n ql σ' τ := by
  obtain ⟨rd, X, h1, hH, r⟩ := h
  exact ⟨rd, X.cq u, h1, hH.cq u, r⟩
end
section
variable {so le q s : Nat} {rd : Nat → Int32} {B : Nat}
theorem tryR_out (v : VR B rd) (hB : B ≤ 50000000) (hq : q < Nn (rd 0)) (t : Tr rd q s) {k : Nat} (h : k < 5 ∨ 13 ≤ k) (h1 : k ≠ 53 + 186 * q + 1) (h2 : k ≠ cP q s + 2) (h3 : k ≠ cP q s + 3) : tryR rd q s k = drR rd k := by
  have n0 := v.n0
  have t' := t.dr v hq
  have v' := drVR v
  have hq' : q < Nn (drR rd 0) := by rw [drR_out rd v.2.1.2 (by omega)]; exact hq
  have hc : cP q s = 53 + 186 * q + 6 + 30 * s := rfl
  unfold tryR
  split
  · obtain ⟨w1, w2, w3, w4, w5⟩ := flB_V v' hB hq' t'
    have hb : flB (drR rd) q s k = drR rd k := by
      rcases h with h | h
      · exact w5 k h
      · rw [w4 k h]; exact up_ne _ _ h2
    unfold fal
    split
    · exact hb
    · rw [up_ne _ _ h1]; exact hb
  · unfold suc
    split
    · unfold sucE
      have V' := (v'.2.2.2.2.2.2.1 q hq').1
      have e2 : sucD (drR rd) q s (53 + 186 * q + 2) = drR rd (53 + 186 * q + 2) := sucD_out _ (by omega) (by omega)
      have hit := V'.2.2.1.2
      rw [up_ne _ _ (by rw [e2]; omega), up_ne _ _ h1]
      exact sucD_out _ h h3
    · exact sucD_out _ h h3
theorem try_GQ (v : VR B rd) (hB : B ≤ 50000000) (hq : q < Nn (rd 0)) (t : Tr rd q s) (hQ : GQ so le q rd) : GQ so le q (tryR rd q s) := by
  have n0 := v.n0
  have V := (v.2.2.2.2.2.2.1 q hq).1
  have hn := V.n
  have ts := t.2.1
  have hc : cP q s = 53 + 186 * q + 6 + 30 * s := rfl
  have e : ∀ k, 53 ≤ k → k ≠ 53 + 186 * q + 1 → k ≠ cP q s + 2 → k ≠ cP q s + 3 → tryR rd q s k = rd k := fun k h0 h1 h2 h3 => by rw [tryR_out v hB hq t (by omega) h1 h2 h3, drR_out rd v.2.1.2 (by omega)]
  exact hQ.to V (by omega) (fun j h1 h2 => e _ (by omega) (by omega) (by omega) (by omega)) (fun s' h1 j h2 h3 h4 => e _ (by omega) (by omega) (by omega) (by omega)) (fun k h1 h2 => e _ (by omega) (by omega) (by omega) (by omega))
/-- a step's uses and gives, the stock's numbers -/
theorem tk_num (v : VR B rd) (hB : B ≤ 50000000) (hq : q < Nn (rd 0)) (hs : s < nS rd (53 + 186 * q)) (hu : hasU rd (53 + 186 * q) s) {i : Nat} (hi : i < 8) : tkR rd (cP q s) (5 + i) = nI (Nn (rd (5 + i)) - cU rd (53 + 186 * q) s i) ∧ Nn (rd (5 + i)) ≤ B := by
  have V := (v.2.2.2.2.2.2.1 q hq).1
  obtain ⟨a, e1, e2, e3⟩ := (v.2.2.2.2.1 i hi).get
  have f1 := (V.cU hs hi).1
  have hui := hu i hi
  refine ⟨?_, by omega⟩
  unfold tkR
  rw [pkI_in _ _ hi]
  show rd (5 + i) - rd (53 + 186 * q + 6 + 30 * s + 6 + i) = _
  rw [f1, e3, e1, pk_sub (by omega)]
end
section
variable {so le s : Nat} {rd : Nat → Int32} {B : Nat}
theorem sbd_try (v : VR B rd) (hB : B + 198 ≤ 50000000) (hq : 0 < Nn (rd 0)) (t : Tr rd 0 s) (hQ : GQ so le 0 rd) (hS : SBd rd) : SBd (tryR rd 0 s) := by
  have n0 := v.n0
  have V := (v.2.2.2.2.2.2.1 0 hq).1
  have hn := V.n
  have ts := t.2.1
  have t' := t.dr v hq
  have v' := drVR v
  have hD0 : ∀ k, (k = 0 ∨ (2 < k ∧ k < 13) ∨ 53 ≤ k) → drR rd k = rd k := fun k hk => drR_out rd v.2.1.2 hk
  have hq' : 0 < Nn (drR rd 0) := by rw [hD0 _ (by omega)]; exact hq
  have V' := (v'.2.2.2.2.2.2.1 0 hq').1
  have hc : cP 0 s = 53 + 186 * 0 + 6 + 30 * s := rfl
  have ed : dnM (drR rd) (53 + 186 * 0) = dnM rd (53 + 186 * 0) := dnM_cong hn.1 (fun k a1 a2 => hD0 k (by omega))
  have hS0 : ∀ i, i < 8 → Nn (rd (5 + i)) ≤ 4 + 2 * pop6 (dnM rd (53 + 186 * 0)) := fun i hi => by
    have := hS i hi
    rw [t.1, if_neg (by decide)] at this
    exact this
  unfold tryR
  split
  · obtain ⟨w1, w2, w3, w4, w5⟩ := flB_V v' (by omega) hq' t'
    obtain ⟨y1, y2, y3, y4, y5, y6, y7⟩ := flA_V v' hq' t'
    have hst : ∀ i, i < 8 → Nn (flB (drR rd) 0 s (5 + i)) ≤ 4 + 2 * pop6 (dnM rd (53 + 186 * 0)) := fun i hi => by
      have e5 : flA (drR rd) 0 s (5 + i) = rd (5 + i) := (up_ne _ _ (by omega)).trans (hD0 _ (by omega))
      have := hS0 i hi
      unfold flB
      split
      · have hA0 : 0 < Nn (flA (drR rd) 0 s 0) := by
          rw [show flA (drR rd) 0 s 0 = drR rd 0 from up_ne _ _ (by omega)]; exact hq'
        have hsA : s < nS (flA (drR rd) 0 s) (53 + 186 * 0) := by
          show s < Nn (flA (drR rd) 0 s (53 + 186 * 0))
          rw [show flA (drR rd) 0 s (53 + 186 * 0) = drR rd (53 + 186 * 0) from up_ne _ _ (by omega)]; exact t'.2.1
        obtain ⟨z1, z2⟩ := tk_num y1 (by omega) hA0 hsA y5 hi
        rw [z1, e5, Nn_nI (by rw [e5] at z2; omega)]
        omega
      · rw [e5]; exact this
    have hdf : dnM (fal (drR rd) 0 s) (53 + 186 * 0) = dnM rd (53 + 186 * 0) := by
      unfold fal
      split
      · rw [w3, ed]
      · rw [(w2.upT (v := 2) (by omega) (by omega)).2.2, w3, ed]
    intro i hi
    rw [hdf]
    have : Nn (fal (drR rd) 0 s (5 + i)) ≤ 4 + 2 * pop6 (dnM rd (53 + 186 * 0)) := by
      unfold fal
      split
      · exact hst i hi
      · rw [up_ne _ _ (by omega)]; exact hst i hi
    omega
  · obtain ⟨x1, x2, V2, x4⟩ := sucD_V v' hB hq' t'.2.1 t'.2.2.1
    have hQ' : GQ so le 0 (drR rd) := hQ.to V (by omega) (fun j h1 h2 => hD0 _ (by omega)) (fun s h1 j h2 h3 h4 => hD0 _ (by omega)) (fun k h1 h2 => hD0 _ (by omega))
    have hp := pop6_nx _ (dnM_64 V) s (by omega) t.2.2.2.2
    have hst : ∀ i, i < 8 → ∃ m, sucD (drR rd) 0 s (5 + i) = nI m ∧ m ≤ 4 + 2 * pop6 (dnM rd (53 + 186 * 0)) + 2 ∧ m ≤ 1000000000 := fun i hi => by
      obtain ⟨z1, z2⟩ := tk_num v' (by omega) hq' t'.2.1 t'.2.2.1 hi
      have g1 := (V'.cG t'.2.1 hi).1
      have g2 : cG (drR rd) (53 + 186 * 0) s i ≤ 2 := by
        by_cases c : i < 3
        · exact hQ'.2.2.2.2.2.2.2 s t'.2.1 i c
        · rw [(hQ'.2.2.2.2.1 s t'.2.1 i (by omega) hi).2.2]; omega
      have hS5 := hS0 i hi
      have e5 : drR rd (5 + i) = rd (5 + i) := hD0 _ (by omega)
      refine ⟨Nn (rd (5 + i)) - cU (drR rd) (53 + 186 * 0) s i + cG (drR rd) (53 + 186 * 0) s i, ?_, by omega, by rw [e5] at z2; omega⟩
      unfold sucD
      rw [up_ne _ _ (by omega)]
      unfold gvR
      rw [pkI_in _ _ hi]
      unfold gvf
      rw [z1, tkR_out _ _ (by omega), show cP 0 s + 22 + i = 53 + 186 * 0 + 6 + 30 * s + 22 + i from rfl, g1, nI_add, e5]
    have hd2 : dnM (sucD (drR rd) 0 s) (53 + 186 * 0) = dnM rd (53 + 186 * 0) ||| 1 <<< s := by rw [x2, ed]
    have ed0 : sucD (drR rd) 0 s 0 = drR rd 0 := sucD_out _ (by omega) (by omega)
    have VD := (x1.2.2.2.2.2.2.1 0 (by rw [ed0]; exact hq')).1
    have eit : sucD (drR rd) 0 s (53 + 186 * 0 + 2) = nI 1 := (sucD_out _ (by omega) (by omega)).trans hQ'.2.2.2.2.2.1
    have eam : sucD (drR rd) 0 s (53 + 186 * 0 + 3) = nI 7 := (sucD_out _ (by omega) (by omega)).trans hQ'.2.2.2.2.2.2.1
    unfold suc
    split
    · have eE : sucE (sucD (drR rd) 0 s) 0 = up (up (sucD (drR rd) 0 s) (53 + 186 * 0 + 1) (nI 1)) (5 + 1) (sucD (drR rd) 0 s (5 + 1) + nI 7) := by
        unfold sucE
        rw [eit, eam, show Nn (nI 1) = 1 from rfl]
      have hdE : dnM (sucE (sucD (drR rd) 0 s) 0) (53 + 186 * 0) = dnM rd (53 + 186 * 0) ||| 1 <<< s := by
        rw [eE, ← hd2, ← (VD.upT (v := 1) (by omega) (by omega)).2.2]
        exact dnM_cong (VD.upT (v := 1) (by omega) (by omega)).1.n.1 (fun k a1 a2 => up_ne _ _ (by omega))
      intro i hi
      rw [hdE, hp]
      obtain ⟨m, m1, m2, m3⟩ := hst i hi
      have es : sucE (sucD (drR rd) 0 s) 0 (53 + 186 * 0 + 1) = 1 := by
        rw [eE, up_ne _ _ (by omega), up_at]; rfl
      rw [es, if_pos rfl, eE]
      by_cases c : i = 1
      · subst c
        rw [up_at, m1, nI_add, Nn_nI (by omega)]
        omega
      · rw [up_ne _ _ (by omega), up_ne _ _ (by omega), m1, Nn_nI (by omega)]
        omega
    · intro i hi
      rw [hd2, hp]
      obtain ⟨m, m1, m2, m3⟩ := hst i hi
      rw [m1, Nn_nI (by omega)]
      omega
end
theorem tryV_ne {rd : Nat → Int32} {q s : Nat} : tryV rd q s ≠ -1001 := by
  unfold tryV
  repeat' split
  all_goals decide
section
variable {so le n : Nat} {ql : List Nat} {σ τ : St}
/-- the law's try, of the game and of the class -/
theorem jtry (h : Jg so le n ql σ τ) {k : Nat} (hk : k < n) {dv : Int32} (hdv : (ql = [] ∧ dv = -1) ∨ ∃ x l, ql = x :: l ∧ x < 100 ∧ dv = nI x) : (pf_X11_attempt 1000 (nI k) dv τ = some (-1001, τ) ∧ pf_X10_attempt 0 0 (nI k) σ = some (.inl 3, σ)) ∨ ∃ due τ1 σ1, due ≠ -1001 ∧ pf_X11_attempt 1000 (nI k) dv τ = some (due, τ1) ∧ pf_X10_attempt 0 0 (nI k) σ = some (.inr due, σ1) ∧ Jg so le n ql.tail σ1 τ1 := by
  obtain ⟨rd, X, h1, ⟨nxt, cnt, i1, i2, i3, i4⟩, hQ, hG, hn, hS, ⟨q1, q3⟩, q2⟩ := h
  subst hn
  have hq : 0 < Qn rd := by omega
  have V := X.V hq
  have hn := V.n
  have W := X.W hq
  have v := X.2.1
  have h4 := hQ.2.2.1
  have hd := dnM_64 V
  have hst : ∀ i, i < 8 → rd (5 + i) = nI (Nn (rd (5 + i))) := fun i hi => (X.stock hi).1
  have ecan := can_eq V hQ hG X.S (b := 1002) (d := dnM rd (53 + 186 * 0)) hd hk (fun i hi => by rw [hG.2.2.2.2.2.1 i hi, df_self, bh_0, hst i (by omega), ← iI_nat]; rfl)
  have ehin : pf_X3_hindrance (7 + 9 * 0) (nI k) (0 + 2 + 1) σ = _ := hindH W al3 X.st hk
  have hle : hcd rd (53 + 186 * 0) (stk rd) k ≤ 5 := by
    unfold hcd
    split
    · exact hcode_le
    · omega
  have ecl : ∀ s', pf_X10_attempt 0 0 (nI k) s' = pf_X10_attempt 0 (nI 0) (nI k) s' := fun _ => rfl
  have ecn := hcode_cn (S := stk rd) (s := k) hk
  rw [ecl]
  unfold pf_X11_attempt pf_X10_attempt
  rw [hG.1, nI_clamp (by omega), ckI_nI (by omega) (by omega), gdone V hQ hG, bind_some, ecan, bind_some, if_b2, qWS_yes X hq hk, bXW_r, ckK_eq (kd7 0 (by omega)), ehin, bind_some, if_0 (by omega)]
  unfold cnG hcd
  rw [ecn]
  by_cases c0 : rd (53 + 186 * 0 + 1) = 0
  · rw [decide_eq_true c0, Bool.true_and, if_pos c0]
    by_cases c1 : hcode rd (53 + 186 * 0) (stk rd) (dnM rd (53 + 186 * 0)) k = 0
    · rw [decide_eq_true c1, if_pos rfl, if_pos c1]
      right
      have t : Tr rd 0 k := Tr.of v hq c0 hk c1
      -- the class
      obtain ⟨σa, k1, k2, k3, k4, k5⟩ := remC X.1 v i1 i2 i3 i4
      have La : RLd σa 2 rd := X.1.un v.n0 k2 (fun i a1 a2 a3 => by unfold rmM at a3; omega)
      obtain ⟨σ1, g1, g2, g3⟩ := tryC v (by omega) hq t La
      rw [show pf_X1_remember (0 + 120) (0 + 2) σ = _ from k1, bind_some, show pf_X2_tryStep (0 + 2) (7 + 9 * 0) (nI k) σa = _ from g1, bnd2_some]
      have hrow : ∀ k2 : Nat, (k2 < 5 ∨ 13 ≤ k2) → k2 ≠ 53 + 186 * 0 + 1 → k2 ≠ cP 0 k + 2 → k2 ≠ cP 0 k + 3 → tryR rd 0 k k2 = drR rd k2 := fun k2 a1 a2 a3 a4 => tryR_out v (by omega) hq t a1 a2 a3 a4
      have hcp : cP 0 k = 53 + 186 * 0 + 6 + 30 * k := rfl
      have hdr : ∀ k2 : Nat, (k2 = 0 ∨ (2 < k2 ∧ k2 < 13) ∨ 53 ≤ k2) → drR rd k2 = rd k2 := fun k2 hk2 => drR_out rd v.2.1.2 hk2
      have e0 : tryR rd 0 k 0 = rd 0 := (hrow 0 (by omega) (by omega) (by omega) (by omega)).trans (hdr 0 (by omega))
      have vT := tryVR v (by omega) hq t
      have sT := sbd_try v (by omega) hq t hQ hS
      have vT' : VR 1000 (tryR rd 0 k) := by
        refine ⟨vT.1, vT.2.1, vT.2.2.1, vT.2.2.2.1, fun i hi => ⟨(vT.2.2.2.2.1 i hi).1, ?_⟩, vT.2.2.2.2.2.1, vT.2.2.2.2.2.2.1, vT.2.2.2.2.2.2.2⟩
        have := sT i hi
        have hp := pop6_le _ (dnM_64 (vT.2.2.2.2.2.2.1 0 (by rw [e0]; exact hq)).1)
        split at this <;> omega
      have e53 : nS (tryR rd 0 k) (53 + 186 * 0) = nS rd (53 + 186 * 0) := by
        unfold nS
        rw [hrow _ (by omega) (by omega) (by omega) (by omega), hdr _ (by omega)]
      have hq2 : tryR rd 0 k 2 = nI ql.tail.length ∧ ∀ k2 x, ql.tail[k2]? = some x → tryR rd 0 k (13 + k2) = nI x := by
        have e2 : tryR rd 0 k 2 = drR rd 2 := hrow 2 (by omega) (by omega) (by omega) (by omega)
        rw [e2]
        unfold drR at hrow ⊢
        cases hql : ql with
        | nil =>
          subst hql
          have c : rd 2 = 0 := q1
          rw [if_pos c, up_ne _ _ (by omega)]
          exact ⟨q1, fun k2 x hx => by cases hx⟩
        | cons y l =>
          subst hql
          have c : ¬ rd 2 = 0 := by rw [q1]; exact nI_ne0 (by simp) (by simp at q3 ⊢; omega)
          have eN : Nn (rd 2) = l.length + 1 := by rw [q1, Nn_nI (by simp at q3 ⊢; omega), List.length_cons]
          rw [if_neg c] at hrow ⊢
          have e2 : qk rd (Nn (rd 2) - 1) 2 = rd 2 - 1 := if_pos rfl
          refine ⟨by rw [e2, q1, show (1 : Int32) = nI 1 from rfl, pk_sub (by simp)]; rfl, fun k2 x hx => ?_⟩
          have hx' : l[k2]? = some x := hx
          have hk2 : k2 < l.length := (List.getElem?_eq_some_iff.mp hx').1
          have hl : l.length ≤ 1 := by simp at q3; omega
          rw [hrow _ (by omega) (by omega) (by omega) (by omega)]
          unfold qk
          rw [if_neg (by omega), if_pos (by omega)]
          have := q2 (k2 + 1) x (by rw [List.getElem?_cons_succ]; exact hx')
          rw [show 13 + k2 + 1 = 13 + (k2 + 1) by omega]
          exact this
      have HT : HI σ1 := by
        have e120 : gI σ1 120 = gI σa 120 := g2.I (fun q => by have := q.2; omega)
        exact ⟨(nxt + 1) % 8, min (cnt + 1) 8, by omega, by omega, by rw [e120]; exact k4, by rw [e120]; exact k5⟩
      have fin : ∀ τ0, GX so le 0 (drR rd) τ0 → ∃ τ2, pf_X11_attempt_b71 1000 (1005 + 4 * k) (drV rd) τ0 = some (tryV rd 0 k, τ2) ∧ Jg so le (nS rd (53 + 186 * 0)) ql.tail σ1 τ2 := fun τ0 hG0 => by
        obtain ⟨τ2, f1, f2⟩ := gtry v (by omega) hq hQ t hG0
        exact ⟨τ2, f1, tryR rd 0 k, ⟨g3, vT', by omega⟩, by unfold Qn; rw [e0]; exact h1, HT, try_GQ v (by omega) hq t hQ, f2, e53, sT, ⟨hq2.1, by rw [List.length_tail]; omega⟩, hq2.2⟩
      rcases hdv with ⟨hl, hdv⟩ | ⟨x, l, hl, hx, hdv⟩
      · have c : rd 2 = 0 := by rw [q1, hl]; rfl
        have eV : drV rd = irem (ishr (rd 1 * 1103515245 + 12345) 16 &&& 32767) 100 := if_pos c
        have eR : drR rd = up rd 1 (rd 1 * 1103515245 + 12345) := if_pos c
        obtain ⟨τ2, f1, f2⟩ := fin (sI τ 1000 2 (rd 1 * 1103515245 + 12345)) (by rw [eR]; exact hG.seed)
        refine ⟨tryV rd 0 k, τ2, σ1, tryV_ne, ?_, rfl, f2⟩
        rw [hdv, if_neg (by decide), hG.2.2.2.2.1, bnd_e, gI_at, bnd_e, ← eV, nI_clamp (by omega)]
        exact f1
      · have c : ¬ rd 2 = 0 := by rw [q1, hl]; exact nI_ne0 (by simp) (by rw [← hl]; omega)
        have eV : drV rd = nI x := (if_neg c).trans (q2 0 x (by rw [hl]; rfl))
        have eR : drR rd = qk rd (Nn (rd 2) - 1) := if_neg c
        have eN : Nn (rd 2) ≤ 2 := by rw [q1, Nn_nI (by omega)]; exact q3
        obtain ⟨τ2, f1, f2⟩ := fin τ (by rw [eR]; exact hG.cg (fun k2 hk2 => qk_out rd (by omega)))
        refine ⟨tryV rd 0 k, τ2, σ1, tryV_ne, ?_, rfl, f2⟩
        rw [hdv, if_pos (nI_pos' (by omega)), ← eV, nI_clamp (by omega)]
        exact f1
    · left
      rw [decide_eq_false c1, if_neg Bool.false_ne_true, if_neg c1]
      exact ⟨rfl, rfl⟩
  · left
    rw [decide_eq_false c0, Bool.false_and, if_neg Bool.false_ne_true, if_neg c0, if_neg (by decide)]
    exact ⟨rfl, rfl⟩
/-- two draws are told -/
theorem jtell (h : Jg so le n [] σ τ) {a : Nat} (ha : a < 100) : ∃ σ1, pf_X10_tell 0 (nI a) 50 σ = some (.inr 2, σ1) ∧ Jg so le n [a, 50] σ1 τ := by
  obtain ⟨rd, X, h1, ⟨nxt, cnt, i1, i2, i3, i4⟩, hQ, hG, hn, hS, ⟨q1, q3⟩, q2⟩ := h
  have hq : 0 < Qn rd := by omega
  have V := X.V hq
  have v := X.2.1
  have e2 : rd 2 = nI 0 := q1
  obtain ⟨σa, k1, k2, k3, k4, k5⟩ := remC X.1 v i1 i2 i3 i4
  have La : RLd σa 2 rd := X.1.un v.n0 k2 (fun i a1 a2 a3 => by unfold rmM at a3; omega)
  have c2 : gI σ (0 + 2) 2 = 0 := X.1.2.1.trans e2
  have d1 := enq (x := nI a) (p := 0) (k := 0) (La.2.1.trans e2) (by omega)
  have d2 := enq (s := sI (sI σa 4 0 (nI a)) 2 2 (nI (0 + 1))) (x := nI 50) (p := 0) (k := 0 + 1) (gI_at _ _ _ _) (by omega)
  have LR := tq_R (a := a) (b := 50) v La e2 (by omega)
  have VR' := tq_V v e2 (by omega) ha (show 50 < 100 by omega) 1000 (Nat.le_refl _)
  have out : ∀ k, k ≠ 2 → k ≠ 13 → k ≠ 14 → tq rd 0 a 50 k = rd k := fun k a1 a2 a3 => tq_out rd ⟨a1, by omega, by omega⟩
  refine ⟨_, ?_, tq rd 0 a 50, ⟨LR, VR', by omega⟩, ?_, ?_, ?_, hG.cg (fun k hk => out k (by omega) (by omega) (by omega)), ?_, ?_, ⟨up_at _ _ _, Nat.le_refl 2⟩, ?_⟩
  · unfold pf_X10_tell
    rw [if_neg (nI_pos (by omega)), if_neg (show ¬ (99 : Int32) < nI a from nI_nlt (a := 99) (by omega) (by omega)), if_neg (by decide), if_pos (by decide), c2, if_pos (by decide), show pf_X1_remember (0 + 120) (0 + 2) σ = _ from k1, bind_some, show pf_X2_enqueue (0 + 2) (nI a) σa = _ from d1, bind_some, show pf_X2_enqueue (0 + 2) 50 _ = _ from d2, bind_some, show gI _ (0 + 2) 2 = nI (0 + 1 + 1) from gI_at _ _ _ _]
    rfl
  · unfold Qn
    rw [out 0 (by omega) (by omega) (by omega)]; exact h1
  · refine ⟨(nxt + 1) % 8, min (cnt + 1) 8, by omega, by omega, ?_, ?_⟩
    · rw [gI_ne _ _ _ _ (by decide), gI_ne _ _ _ _ (by decide), gI_ne _ _ _ _ (by decide), gI_ne _ _ _ _ (by decide)]; exact k4
    · rw [gI_ne _ _ _ _ (by decide), gI_ne _ _ _ _ (by decide), gI_ne _ _ _ _ (by decide), gI_ne _ _ _ _ (by decide)]; exact k5
  · exact hQ.to V (by omega) (fun j a1 a2 => out _ (by omega) (by omega) (by omega)) (fun s a0 j a1 a2 a3 => out _ (by omega) (by omega) (by omega)) (fun k a1 a2 => out _ (by omega) (by omega) (by omega))
  · rw [← hn]
    unfold nS
    rw [out _ (by omega) (by omega) (by omega)]
  · intro i hi
    have ed : dnM (tq rd 0 a 50) (53 + 186 * 0) = dnM rd (53 + 186 * 0) := dnM_cong V.n.1 (fun k a1 a2 => out _ (by omega) (by omega) (by omega))
    rw [ed, out _ (by omega) (by omega) (by omega), out _ (by omega) (by omega) (by omega)]
    exact hS i hi
  · intro k x hx
    rcases (by omega : k = 0 ∨ k = 1 ∨ 2 ≤ k) with rfl | rfl | hk
    · cases hx
      unfold tq
      rw [up_ne _ _ (by omega), up_ne _ _ (by omega), up_at]
    · cases hx
      unfold tq
      rw [up_ne _ _ (by omega), up_at]
    · have : ([a, 50] : List Nat)[k]? = none := List.getElem?_eq_none (by simpa using hk)
      rw [this] at hx
      cases hx
theorem rnd_C {had due : Int32} (h : Jg so le n ql σ τ) (hh : ¬ (due = -1001 ∧ had = 2) → ql = [] ∨ ql = [50]) (h2 : due = -1001 ∧ had = 2 → ql.length = 2) : RndC n (JJ so le n) had due σ τ := by
  unfold RndC
  refine (ask_J h).mono fun σ1 τ1 hj => ?_
  by_cases c : due = -1001 ∧ had = 2
  · rw [if_pos c]
    obtain ⟨rd, X, _, _, _, _, _, _, ⟨q1, _⟩, _⟩ := hj
    obtain ⟨σ2, g1, _⟩ := u_state6 X
    exact ⟨σ2, by rw [g1, q1, h2 c]; rfl⟩
  · rw [if_neg c]
    rcases hh c with rfl | rfl
    · exact Or.inl hj
    · exact Or.inr hj
theorem rnd_B {c : Int32} {draw : Int32} (hn0 : 0 < n ∧ n ≤ 4) (h : Jg so le n ql σ τ) (hq : ql = [] ∨ ql = [50] ∨ ∃ a, a < 100 ∧ ql = [a, 50] ∧ draw = nI a) : RndB n (JJ so le n) c (nI n) draw σ τ := by
  obtain ⟨h0, h4⟩ := hn0
  have hs : ∃ σ3, pf_X10_state 0 6 σ = some (.inr (nI ql.length), σ3) ∧ Jg so le n ql σ3 τ := by
    obtain ⟨rd, X, r1, r2, r3, r4, r5, r6, ⟨q1, q3⟩, r7⟩ := id h
    obtain ⟨σ3, g1, g2⟩ := u_state6 X
    rw [q1] at g1
    exact ⟨σ3, g1, h.cq g2⟩
  obtain ⟨σ3, g1, j3⟩ := hs
  have est : stC c (nI n) = nI (bN c n) := bN_eq c h0 (by omega)
  have hk := bN_lt c h0
  unfold RndB
  rw [est]
  rcases hq with rfl | rfl | ⟨a, ha, rfl, rfl⟩
  · refine ⟨nI 0, σ3, g1, ?_⟩
    rw [if_pos (show nI 0 = (0 : Int32) from rfl)]
    rcases jtry j3 hk (dv := -1) (Or.inl ⟨rfl, rfl⟩) with ⟨e1, e2⟩ | ⟨due, τ1, σ1, e0, e1, e2, e3⟩
    · exact ⟨_, _, e1, σ3, Or.inr ⟨rfl, e2⟩, rnd_C j3 (fun _ => Or.inl rfl) (fun q => absurd q.2 (by decide))⟩
    · exact ⟨_, _, e1, σ1, Or.inl e2, rnd_C e3 (fun _ => Or.inl rfl) (fun q => absurd q.1 e0)⟩
  · refine ⟨nI 1, σ3, g1, ?_⟩
    rw [if_neg (show ¬ nI 1 = (0 : Int32) by decide), if_neg (show ¬ nI 1 = (2 : Int32) by decide)]
    rcases jtry j3 hk (dv := 50) (Or.inr ⟨50, [], rfl, by decide, rfl⟩) with ⟨e1, e2⟩ | ⟨due, τ1, σ1, e0, e1, e2, e3⟩
    · exact ⟨_, _, e1, σ3, Or.inr ⟨rfl, e2⟩, rnd_C j3 (fun _ => Or.inr rfl) (fun q => absurd q.2 (by decide))⟩
    · exact ⟨_, _, e1, σ1, Or.inl e2, rnd_C e3 (fun _ => Or.inl rfl) (fun q => absurd q.1 e0)⟩
  · refine ⟨nI 2, σ3, g1, ?_⟩
    rw [if_neg (show ¬ nI 2 = (0 : Int32) by decide), if_pos (show nI 2 = (2 : Int32) from rfl)]
    rcases jtry j3 hk (dv := nI a) (Or.inr ⟨a, [50], rfl, ha, rfl⟩) with ⟨e1, e2⟩ | ⟨due, τ1, σ1, e0, e1, e2, e3⟩
    · exact ⟨_, _, e1, σ3, Or.inr ⟨rfl, e2⟩, rnd_C j3 (fun q => absurd ⟨rfl, rfl⟩ q) (fun _ => rfl)⟩
    · exact ⟨_, _, e1, σ1, Or.inl e2, rnd_C e3 (fun _ => Or.inr rfl) (fun q => absurd q.1 e0)⟩
/-- every round goes well -/
theorem rnd_A (hn0 : 0 < n ∧ n ≤ 4) (h : JJ so le n σ τ) (c : Int32) : RndA n (JJ so le n) c (nI n) σ τ := by
  have st6 : ∀ {ql : List Nat}, Jg so le n ql σ τ → ∃ σ3, pf_X10_state 0 6 σ = some (.inr (nI ql.length), σ3) ∧ Jg so le n ql σ3 τ := fun {ql} h => by
    obtain ⟨rd, X, r1, r2, r3, r4, r5, r6, ⟨q1, q3⟩, r7⟩ := id h
    obtain ⟨σ3, g1, g2⟩ := u_state6 X
    rw [q1] at g1
    exact ⟨σ3, g1, h.cq g2⟩
  unfold RndA
  by_cases c0 : (ishr c 5 &&& 3) = 0
  · rw [if_pos c0]
    rcases h with h | h
    · obtain ⟨σ3, g1, j3⟩ := st6 h
      refine ⟨nI 0, σ3, g1, ?_⟩
      rw [if_pos (show nI 0 = (0 : Int32) from rfl)]
      have ed : drC2 c = nI (bN (ishr c 8) 100) := bN_eq (ishr c 8) (by decide) (by decide)
      have hd := bN_lt (ishr c 8) (n := 100) (by decide)
      rw [ed]
      obtain ⟨σ1, f1, f2⟩ := jtell j3 hd
      exact ⟨σ1, f1, rnd_B hn0 f2 (Or.inr (Or.inr ⟨_, hd, rfl, rfl⟩))⟩
    · obtain ⟨σ3, g1, j3⟩ := st6 h
      refine ⟨nI 1, σ3, g1, ?_⟩
      rw [if_neg (show ¬ nI 1 = (0 : Int32) by decide)]
      exact rnd_B hn0 j3 (Or.inr (Or.inl rfl))
  · rw [if_neg c0]
    rcases h with h | h
    · exact rnd_B hn0 h (Or.inl rfl)
    · exact rnd_B hn0 h (Or.inr (Or.inl rfl))
end
