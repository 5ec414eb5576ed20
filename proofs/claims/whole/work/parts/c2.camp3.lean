/-! CAMPAIGN: the two loops -/
def fq (R : Nat → Int32) : Option Nat := fsp R (Nn (R 0))
def crow (rd : Nat → Int32) : Nat → (Nat → Int32)
  | 0 => rd
  | j + 1 => match fq (crow rd j) with
    | some q => finR (crow rd j) q
    | none => crow rd j
def cmk (rd : Nat → Int32) : Nat → Nat
  | 0 => 0
  | j + 1 => match fq (crow rd j) with
    | some q => nx (cmk rd j) q
    | none => cmk rd j
theorem pop6_nx : ∀ m, m < 64 → ∀ q, q < 6 → m.testBit q = false → pop6 (nx m q) = pop6 m + 1 := by decide +kernel
def CmI (B : Nat) (rd : Nat → Int32) (j : Nat) : Prop := VR (B + 1386 * j) (crow rd j) ∧ crow rd j 0 = rd 0 ∧ (∀ k, 2769 ≤ k → k < 4370 → crow rd j k = rd k) ∧ cmk rd j < 64 ∧ pop6 (cmk rd j) = j ∧ (∀ q, q < Nn (rd 0) → (cmk rd j).testBit q = false → ∀ k, 53 + 186 * q ≤ k → k < 53 + 186 * q + 186 → crow rd j k = rd k) ∧ ∀ q, q < Nn (rd 0) → (cmk rd j).testBit q = true → crow rd j (53 + 186 * q + 1) = nI 1
theorem posb_1 {R : Nat → Int32} {b : Nat} {S : Nat → Int} (h : R (b + 1) = nI 1) : posb R b S = false := by
  unfold posb
  rw [h, decide_eq_false (show ¬ nI 1 = (0 : Int32) by decide)]; rfl
theorem CmI.all {B : Nat} {rd : Nat → Int32} (v : VR B rd) (hB : B + 10000 ≤ 50000000) : ∀ j, j ≤ 6 → (∀ k, k < j → fq (crow rd k) ≠ none) → CmI B rd j := by
  intro j
  induction j with
  | zero =>
    intro _ _
    exact ⟨v, rfl, fun k _ _ => rfl, by show 0 < 64; omega, (by decide : pop6 0 = 0), fun q _ _ k _ _ => rfl, fun q _ h => by rw [show cmk rd 0 = 0 from rfl, Nat.zero_testBit] at h; cases h⟩
  | succ j ih =>
    intro hj hf
    obtain ⟨c1, c2, c3, c4, c5, c6, c7⟩ := ih (by omega) (fun k hk => hf k (by omega))
    have n0 := v.n0
    cases e : fq (crow rd j) with
    | none => exact absurd e (hf j (by omega))
    | some q =>
      obtain ⟨a1, a2, a3⟩ := fsp_some _ e
      have a1' : q < Nn (rd 0) := by rw [c2] at a1; exact a1
      have V := (c1.2.2.2.2.2.2.1 q a1).1
      obtain ⟨p1, p2, p3⟩ := posb_t V a2
      have F := FI.all c1 (by omega) a1 a2 _ (Nat.le_refl _)
      have hb : (cmk rd j).testBit q = false := by
        cases h : (cmk rd j).testBit q with
        | false => rfl
        | true => rw [posb_1 (c7 q a1' h)] at a2; cases a2
      have er : crow rd (j + 1) = finR (crow rd j) q := by rw [crow, e]
      have em : cmk rd (j + 1) = nx (cmk rd j) q := by rw [cmk, e]
      have ec : ∀ k, (k < 5 ∨ 13 ≤ k) → (∀ s, s < 6 → k ≠ cP q s + 3) → k ≠ 53 + 186 * q + 1 → finR (crow rd j) q k = crow rd j k := F.c
      unfold CmI
      rw [er, em]
      refine ⟨F.v.mono (by omega), by rw [ec _ (by omega) (fun s _ => by unfold cP; omega) (by omega)]; exact c2, fun k h1 h2 => by rw [ec _ (by omega) (fun s _ => by unfold cP; omega) (by omega)]; exact c3 k h1 h2, nx_64 _ c4 _ (by omega), by rw [pop6_nx _ c4 _ (by omega) hb, c5], fun q' h1 h2 k h3 h4 => ?_, fun q' h1 h2 => ?_⟩
      · rw [nx_bit, Bool.or_eq_false_iff, decide_eq_false_iff_not] at h2
        rw [ec k (by omega) (fun s hs => by unfold cP; omega) (by omega)]
        exact c6 q' h1 h2.1 k h3 h4
      · rw [nx_bit, Bool.or_eq_true, decide_eq_true_eq] at h2
        by_cases x : q' = q
        · subst x
          exact F.z rfl
        · rw [ec _ (by omega) (fun s hs => by unfold cP; omega) (by omega)]
          exact c7 q' h1 (h2.resolve_right x)
theorem least {P : Nat → Prop} : ∀ n, P n → ∃ k, k ≤ n ∧ P k ∧ ∀ j, j < k → ¬ P j := by
  intro n
  induction n using Nat.strongRecOn with
  | _ n ih =>
    intro h
    by_cases c : ∃ j, j < n ∧ P j
    · obtain ⟨j, h1, h2⟩ := c
      obtain ⟨k, a, b, d⟩ := ih j h1 h2
      exact ⟨k, by omega, b, d⟩
    · exact ⟨n, Nat.le_refl _, h, fun j hj hp => c ⟨j, hj, hp⟩⟩
theorem camps {B : Nat} {rd : Nat → Int32} (v : VR B rd) (hB : B + 10000 ≤ 50000000) : ∃ K, K ≤ 6 ∧ fq (crow rd K) = none ∧ ∀ j, j < K → fq (crow rd j) ≠ none := by
  by_cases c : ∃ j, j ≤ 6 ∧ fq (crow rd j) = none
  · obtain ⟨j, h1, h2⟩ := c
    obtain ⟨k, a, b, d⟩ := least (P := fun j => fq (crow rd j) = none) j h2
    exact ⟨k, by omega, b, d⟩
  · exfalso
    have n0 := v.n0
    have hf : ∀ k, k ≤ 6 → fq (crow rd k) ≠ none := fun k hk h => c ⟨k, hk, h⟩
    obtain ⟨c1, c2, c3, c4, c5, c6, c7⟩ := CmI.all v hB 6 (Nat.le_refl _) (fun k hk => hf k (by omega))
    cases e : fq (crow rd 6) with
    | none => exact hf 6 (Nat.le_refl _) e
    | some q =>
      obtain ⟨a1, a2, a3⟩ := fsp_some _ e
      have a1' : q < Nn (rd 0) := by rw [c2] at a1; exact a1
      have hb : (cmk rd 6).testBit q = false := by
        cases h : (cmk rd 6).testBit q with
        | false => rfl
        | true => rw [posb_1 (c7 q a1' h)] at a2; cases a2
      have h1 := pop6_nx _ c4 q (by omega) hb
      have h2 := pop6_le _ (nx_64 _ c4 q (by omega))
      omega
theorem campC {σ : St} {B K : Nat} {rd : Nat → Int32} (v : VR B rd) (hB : B + 10000 ≤ 50000000) (h : RLd σ 61 rd) (h6 : K ≤ 6) (hK : fq (crow rd K) = none) (hj : ∀ j, j < K → fq (crow rd j) ≠ none) : ∃ σ', pf_X10_campaign_L15 FU 0 0 0 σ = some (nI K, σ') ∧ Un cQ σ σ' := by
  refine up_C (fun n i t => pf_X10_campaign_L15 n 0 (nI i) (nI i) t) 6 (fun i t => Un cQ σ t ∧ RLd t 61 (crow rd i) ∧ i ≤ K) (fun x => ∃ σ', x = some (nI K, σ') ∧ Un cQ σ σ') ?_ ?_ FU 0 σ (Nat.zero_le _) ⟨Un.refl _ _, h, Nat.zero_le _⟩ (lt_FU (by omega))
  · intro n t ⟨h1, h2, h3⟩
    refine ⟨t, ?_, h1⟩
    show pf_X10_campaign_L15 (n + 1) 0 (nI 6) (nI 6) t = _
    rw [pf_X10_campaign_L15, show (6 : Int32) = nI 6 from rfl, if_pos (nI_le (Nat.le_refl _) (by omega)), show K = 6 by omega]
  · intro n i t hi ⟨h1, h2, h3⟩
    obtain ⟨c1, c2, c3, c4, c5, c6, c7⟩ := CmI.all v hB i (by omega) (fun k hk => hj k (by omega))
    obtain ⟨t1, d1, d2, d3⟩ := ffC c1 (by omega) h2
    have step : pf_X10_campaign_L15 (n + 1) 0 (nI i) (nI i) t = bnd2 (some ((match fq (crow rd i) with | some _ => 1 | none => 0 : Int32), t1)) fun r_1 σ_1 => if r_1 = 0 then some (nI i, σ_1) else pf_X10_campaign_L15 n 0 (nI (i + 1)) (nI (i + 1)) σ_1 := by
      rw [pf_X10_campaign_L15, show (6 : Int32) = nI 6 from rfl, if_neg (nI_ge hi (by omega)), show pf_X10_finishFirstPossible 0 (0 + 61) t = _ from d1]
      simp only [bnd_e, nI_1]
      rfl
    cases e : fq (crow rd i) with
    | none =>
      left
      have : i = K := by
        rcases Nat.lt_or_ge i K with x | x
        · exact absurd e (hj i x)
        · omega
      subst this
      refine ⟨t1, ?_, h1.trans d2⟩
      show pf_X10_campaign_L15 (n + 1) 0 (nI i) (nI i) t = _
      rw [step, e]; rfl
    | some q =>
      right
      have hlt : i < K := by
        rcases Nat.lt_or_ge i K with x | x
        · exact x
        · have : i = K := by omega
          subst this
          rw [hK] at e; cases e
      refine ⟨t1, ?_, h1.trans d2, ?_, by omega⟩
      · show pf_X10_campaign_L15 (n + 1) 0 (nI i) (nI i) t = _
        rw [step, e]; rfl
      · have e' : fsp (crow rd i) (Nn (crow rd i 0)) = some q := e
        rw [e'] at d3
        rw [show crow rd (i + 1) = finR (crow rd i) q by rw [crow, e]]
        exact d3
theorem firstM {τ : St} {B j : Nat} {rd : Nat → Int32} (C : CmI B rd j) (hB : B + 10000 ≤ 50000000) (h6 : j ≤ 6) (v : VR B rd) (h : MR τ rd) (hb : BY τ (stk (crow rd j))) (K51 : Nat → Int32 → Int32 → St → (Option (Int32 × St))) : ∃ τ', pf_X11_campaign_L19 K51 FU 609 (nI (cmk rd j)) 0 τ = K51 609 (nI (cmk rd j)) (nI (match fq (crow rd j) with | some q => q | none => Nn (rd 0))) τ' ∧ MU qA qI τ τ' ∧ BY τ' (stk (crow rd j)) ∧ ∀ q, fq (crow rd j) = some q → MWs τ' rd (53 + 186 * q) (stk (crow rd j)) := by
  obtain ⟨c1, c2, c3, c4, c5, c6, c7⟩ := C
  have n0 := v.n0
  have hS : ∀ i, i < 8 → 0 ≤ stk (crow rd j) i ∧ stk (crow rd j) i ≤ 50000000 := fun i hi => by
    have := (c1.2.2.2.2.1 i hi).2
    unfold stk; omega
  refine up_C (fun n i t => pf_X11_campaign_L19 K51 n 609 (nI (cmk rd j)) (nI i) t) (Nn (rd 0)) (fun i t => MU qA qI τ t ∧ BY t (stk (crow rd j)) ∧ ∀ k, k < i → posb (crow rd j) (53 + 186 * k) (stk (crow rd j)) = false) (fun x => ∃ τ', x = K51 609 (nI (cmk rd j)) (nI (match fq (crow rd j) with | some q => q | none => Nn (rd 0))) τ' ∧ MU qA qI τ τ' ∧ BY τ' (stk (crow rd j)) ∧ ∀ q, fq (crow rd j) = some q → MWs τ' rd (53 + 186 * q) (stk (crow rd j))) ?_ ?_ FU 0 τ (Nat.zero_le _) ⟨MU.refl _ _ _, hb, fun k hk => absurd hk (Nat.not_lt_zero _)⟩ (lt_FU (by omega))
  · intro n t ⟨h1, h2, h3⟩
    have ef : fq (crow rd j) = none := by
      unfold fq
      rw [c2]
      exact (fsp_none _).mpr h3
    rw [ef]
    refine ⟨t, ?_, h1, h2, fun q e => by cases e⟩
    show pf_X11_campaign_L19 K51 (n + 1) 609 (nI (cmk rd j)) (nI (Nn (rd 0))) t = _
    rw [pf_X11_campaign_L19, show (0 : Int32) = nI 0 from rfl, get_ok (h.mu h1 qA610 qI3) (by omega), bind_some, v.1.1, Nn_nI (by omega), if_pos (nI_le (Nat.le_refl _) (by omega))]
  · intro n i t hi ⟨h1, h2, h3⟩
    have M := h.mu h1 qA610 qI3
    have V := (v.2.2.2.2.2.2.1 i hi).1
    have more : posb (crow rd j) (53 + 186 * i) (stk (crow rd j)) = false → ∀ k, k < i + 1 → posb (crow rd j) (53 + 186 * k) (stk (crow rd j)) = false := fun e k hk => by
      by_cases x : k = i
      · subst x; exact e
      · exact h3 k (by omega)
    show (∃ τ', pf_X11_campaign_L19 K51 (n + 1) 609 (nI (cmk rd j)) (nI i) t = _ ∧ _) ∨ ∃ t', pf_X11_campaign_L19 K51 (n + 1) 609 (nI (cmk rd j)) (nI i) t = pf_X11_campaign_L19 K51 n 609 (nI (cmk rd j)) (nI (i + 1)) t' ∧ _
    rw [pf_X11_campaign_L19, show (0 : Int32) = nI 0 from rfl, get_ok M (by omega), bind_some, v.1.1, if_neg (nI_ge hi (by omega)), ishr_nI _ c4 _ (by omega), if_b1]
    cases hbit : (cmk rd j).testBit i with
    | true =>
      right
      refine ⟨t, ?_, h1, h2, more (posb_1 (c7 i hi hbit))⟩
      rw [if_pos rfl, pf_X11_campaign_b45, bnd_e, nI_1]
    | false =>
      have X : Mx t rd i (stk (crow rd j)) := ⟨M, by omega, V, h2, hS⟩
      obtain ⟨t1, k1, k2, k3⟩ := ways_ok X
      have ep := (posb_cg (S := stk (crow rd j)) V (c6 i hi hbit) c3).1
      rw [if_neg Bool.false_ne_true, k1, bnd2_some, show (nI 0 : Int32) = 0 from rfl, if_b2, ← ep]
      have u1 := h1.trans (wyq k2)
      have b1 : BY t1 (stk (crow rd j)) := h2.mu k2 wyA613
      cases hp : posb (crow rd j) (53 + 186 * i) (stk (crow rd j)) with
      | false =>
        right
        refine ⟨t1, ?_, u1, b1, more hp⟩
        rw [if_neg Bool.false_ne_true, pf_X11_campaign_b45, bnd_e, nI_1]
      | true =>
        left
        have ef : fq (crow rd j) = some i := by
          unfold fq
          rw [c2]
          cases e : fsp (crow rd j) (Nn (rd 0)) with
          | none => rw [(fsp_none _).mp e i hi] at hp; cases hp
          | some q =>
            obtain ⟨a, b, c⟩ := fsp_some _ e
            rcases Nat.lt_trichotomy q i with x | x | x
            · rw [h3 q x] at b; cases b
            · rw [x]
            · rw [c i x] at hp; cases hp
        rw [ef]
        refine ⟨t1, ?_, u1, b1, fun q e => ?_⟩
        · rw [if_pos rfl]
        · cases e; exact k3
theorem campM {τ : St} {B K : Nat} {rd : Nat → Int32} (v : VR B rd) (hB : B + 10000 ≤ 50000000) (h : MR τ rd) (hb : BY τ (stk rd)) (h6 : K ≤ 6) (hK : fq (crow rd K) = none) (hj : ∀ j, j < K → fq (crow rd j) ≠ none) : ∃ τ', pf_X11_campaign_L13 pf_X11_campaign_b87 FU 609 0 1 τ = some (nI K, τ') ∧ MU qA qI τ τ' := by
  have n0 := v.n0
  refine up_C (fun n j t => pf_X11_campaign_L13 pf_X11_campaign_b87 (n + 1) 609 (nI (cmk rd j)) 1 t) K (fun j t => MU qA qI τ t ∧ BY t (stk (crow rd j))) (fun x => ∃ τ', x = some (nI K, τ') ∧ MU qA qI τ τ') ?_ ?_ 999999 0 τ (Nat.zero_le _) ⟨MU.refl _ _ _, hb⟩ (by omega)
  · intro n t ⟨h1, h2⟩
    have C := CmI.all v hB K h6 hj
    obtain ⟨t1, k1, k2, k3, _⟩ := firstM C hB h6 v (h.mu h1 qA610 qI3) h2 (pf_X11_campaign_b51 (pf_X11_campaign_L13 pf_X11_campaign_b87 (n + 1)))
    rw [hK] at k1
    refine ⟨t1, ?_, h1.trans k2⟩
    show pf_X11_campaign_L13 pf_X11_campaign_b87 (n + 1 + 1) 609 (nI (cmk rd K)) 1 t = _
    rw [pf_X11_campaign_L13, if_neg (by decide), k1]
    unfold pf_X11_campaign_b51
    rw [show (0 : Int32) = nI 0 from rfl, get_ok ((h.mu h1 qA610 qI3).mu k2 qA610 qI3) (by omega), bind_some, v.1.1, Nn_nI (by omega), if_pos (nI_le (Nat.le_refl _) (by omega))]
    unfold pf_X11_campaign_b65
    rw [if_pos (show nI 0 = (0 : Int32) from rfl), pf_X11_campaign_L13, if_pos (show nI 0 = (0 : Int32) from rfl)]
    unfold pf_X11_campaign_b87
    rw [bc32 _ C.2.2.2.1, bind_some, show ((List.range 6).map (fun k => if (cmk rd K).testBit k then 1 else 0)).sum = pop6 (cmk rd K) from rfl, C.2.2.2.2.1]
  · intro n j t hlt ⟨h1, h2⟩
    have C := CmI.all v hB j (by omega) (fun k hk => hj k (by omega))
    have hM := h.mu h1 qA610 qI3
    obtain ⟨t1, k1, k2, k3, k4⟩ := firstM C hB (by omega) v hM h2 (pf_X11_campaign_b51 (pf_X11_campaign_L13 pf_X11_campaign_b87 (n + 1)))
    obtain ⟨c1, c2, c3, c4, c5, c6, c7⟩ := C
    cases e : fq (crow rd j) with
    | none => exact absurd e (hj j hlt)
    | some q =>
      obtain ⟨a1, a2, a3⟩ := fsp_some _ e
      have a1' : q < Nn (rd 0) := by rw [c2] at a1; exact a1
      have hbit : (cmk rd j).testBit q = false := by
        cases h : (cmk rd j).testBit q with
        | false => rfl
        | true => rw [posb_1 (c7 q a1' h)] at a2; cases a2
      rw [e] at k1
      have M1 := hM.mu k2 qA610 qI3
      have V := (v.2.2.2.2.2.2.1 q a1').1
      have hS : ∀ i, i < 8 → 0 ≤ stk (crow rd j) i ∧ stk (crow rd j) i ≤ 50000000 := fun i hi => by
        have := (c1.2.2.2.2.1 i hi).2
        unfold stk; omega
      have X : Mx t1 rd q (stk (crow rd j)) := ⟨M1, by omega, V, k3, hS⟩
      obtain ⟨t2, m1, m2, m3⟩ := finM c1 (by omega) a1 a2 X (k4 q e) (c6 q a1' hbit) c3
      right
      refine ⟨t2, ?_, h1.trans (k2.trans m2), ?_⟩
      · show pf_X11_campaign_L13 pf_X11_campaign_b87 (n + 1 + 1) 609 (nI (cmk rd j)) 1 t = pf_X11_campaign_L13 pf_X11_campaign_b87 (n + 1) 609 (nI (cmk rd (j + 1))) 1 t2
        rw [pf_X11_campaign_L13, if_neg (by decide), k1]
        unfold pf_X11_campaign_b51
        rw [show (0 : Int32) = nI 0 from rfl, get_ok M1 (by omega), bind_some, v.1.1, if_neg (nI_ge a1' (by omega))]
        unfold pf_X11_campaign_b65
        rw [if_neg (by decide), m1, bind_some, bnd_e, shl1 q (by omega), or_nI, show cmk rd (j + 1) = nx (cmk rd j) q by rw [cmk, e]]
        rfl
      · rw [show crow rd (j + 1) = finR (crow rd j) q by rw [crow, e]]
        exact m3
section
variable {σ τ : St} {rd : Nat → Int32} {B : Nat}
theorem ag_campaign (X : CX σ rd B) (hB : B + 10000 ≤ 50000000) (h : MR τ rd) : ∃ b σ' τ', pf_X10_campaign 0 σ = some (b, σ') ∧ Un cQ σ σ' ∧ pf_X11_campaign 609 τ = some (b, τ') ∧ MU qA qB τ τ' := by
  obtain ⟨h1, h0, u1⟩ := thr0 h
  have v := X.2.1
  obtain ⟨K, k1, k2, k3⟩ := camps v hB
  obtain ⟨σ1, g1, g2, g3⟩ := lcp (p := 61) (q := 2) (by decide +kernel) kd2 (by omega) v.1 v.2.1 v.2.2.1 v.vn X.1
  obtain ⟨σ2, m1, m2⟩ := campC v hB g3 k1 k2 k3
  obtain ⟨τ1, n1, n2, n3⟩ := asIt X h1
  obtain ⟨τ2, p1, p2⟩ := campM v hB (h1.mu n2 qA610 qI3) n3 k1 k2 k3
  unfold pf_X10_campaign pf_X11_campaign
  rw [show pf_X2_copyFrom (0 + 61) (0 + 2) σ = _ from g1, bind_some, m1, bnd_e, n1, bind_some, p1]
  exact ⟨_, σ2, τ2, rfl, Un.trans (g2.mono fun i hi => by have := hi.1; have := hi.2; unfold cQ; omega) m2, rfl, u1.trans (n2.trans p2).qq⟩
end
