/-! CAMPAIGN: both sides -/
theorem finC {σ : St} {B q : Nat} {R : Nat → Int32} (v : VR B R) (hB : B + 1386 ≤ 50000000) (hq : q < Nn (R 0)) (hp : posb R (53 + 186 * q) (stk R) = true) (h : RLd σ 61 R) (hW : WS R (53 + 186 * q) (stk R) (dnM R (53 + 186 * q)) (decide (R (53 + 186 * q + 1) = 0)) σ) : ∃ σ', pf_X10_finishFirstPossible_L51 FU 0 61 (61 + 5 + 9 * q) (nI (plN R (53 + 186 * q) (stk R))) 0 σ = some (1, σ') ∧ Un cQ σ σ' ∧ RLd σ' 61 (finR R q) := by
  have n0 := v.n0
  have V := (v.2.2.2.2.2.2.1 q hq).1
  have hn := V.n
  have hd := dnM_64 V
  have hc := cnR_ok (S := stk R) (d := dnM R (53 + 186 * q)) hn.1
  obtain ⟨p1, p2, p3⟩ := posb_t V hp
  have FA := FI.all v hB hq hp
  have ka : kd (61 + 5 + 9 * q) = 3 := by
    have := kd_quest (p := 61) (k := q) (by decide +kernel) (by omega)
    rw [show 61 + 3 + 2 + 9 * q = 61 + 5 + 9 * q by omega] at this
    exact this
  have k61 : kd 61 = 2 := by decide +kernel
  refine up_C (fun n i t => pf_X10_finishFirstPossible_L51 n 0 61 (61 + 5 + 9 * q) (nI (plN R (53 + 186 * q) (stk R))) (nI i) t) (plN R (53 + 186 * q) (stk R)) (fun i t => Un cQ σ t ∧ RLd t 61 (fnR R q i) ∧ WS R (53 + 186 * q) (stk R) (dnM R (53 + 186 * q)) (decide (R (53 + 186 * q + 1) = 0)) t) (fun x => ∃ σ', x = some (1, σ') ∧ Un cQ σ σ' ∧ RLd σ' 61 (finR R q)) ?_ ?_ FU 0 σ (Nat.zero_le _) ⟨Un.refl _ _, h, hW⟩ (lt_FU (by omega))
  · intro n t ⟨h1, h2, h3⟩
    refine ⟨t, ?_, h1, h2⟩
    show pf_X10_finishFirstPossible_L51 (n + 1) 0 61 (61 + 5 + 9 * q) (nI (plN R (53 + 186 * q) (stk R))) (nI (plN R (53 + 186 * q) (stk R))) t = _
    rw [pf_X10_finishFirstPossible_L51, if_pos (nI_le (Nat.le_refl _) (by omega))]
  · intro n i t hi ⟨h1, h2, h3⟩
    have F := FA i (by omega)
    obtain ⟨T, tb, eu, hs, hcn⟩ := F.t v hq p2 hi
    have e0 : fnR R q i 0 = R 0 := F.c 0 (by omega) (fun s _ => by unfold cP; omega) (by omega)
    have hq' : q < Nn (fnR R q i 0) := by rw [e0]; exact hq
    obtain ⟨a1, a2, a3⟩ := plS_at hc i _ _ hd p2 (by omega)
    rw [show plN R (53 + 186 * q) (stk R) - i = (plN R (53 + 186 * q) (stk R) - i - 1) + 1 by omega] at a3
    have en := nextQ V h3 p1 a2 a3
    have ed : gI t (61 + 5 + 9 * q) 2 = nI (pU R q i) := by rw [(h2.2.2.2.2.2.1 q hq').2.2.1, F.d]
    obtain ⟨t2, d1, d2, d3⟩ := sucC k61 F.v (by omega) hq' ka T.2.1 T.2.2.1 h2
    have u2 : Un cQ t t2 := d2.mono fun i hi => by
      rcases hi with e | e
      · unfold cQ; omega
      · have := e.1; have := e.2; unfold cQ; omega
    refine Or.inr ⟨t2, ?_, h1.trans u2, d3, h3.un (d2.L (fun e => e.elim (fun e => by omega) (fun e => by have := e.2; omega))) (d2.I (fun e => e.elim (fun e => by omega) (fun e => by have := e.2; omega))) (d2.I (fun e => e.elim (fun e => by omega) (fun e => by have := e.2; omega)))⟩
    show pf_X10_finishFirstPossible_L51 (n + 1) 0 61 (61 + 5 + 9 * q) (nI (plN R (53 + 186 * q) (stk R))) (nI i) t = pf_X10_finishFirstPossible_L51 n 0 61 (61 + 5 + 9 * q) (nI (plN R (53 + 186 * q) (stk R))) (nI (i + 1)) t2
    rw [pf_X10_finishFirstPossible_L51, if_neg (nI_ge hi (by omega)), ed, show pf_X7_nextOfPlan (0 + 602) (nI (pU R q i)) t = _ from en, bind_some, show pf_X2_succeed 61 (61 + 5 + 9 * q) (nI (stp (gl R (53 + 186 * q)) (cnR R (53 + 186 * q) (stk R) (dnM R (53 + 186 * q))) (plS (gl R (53 + 186 * q)) (cnR R (53 + 186 * q) (stk R) (dnM R (53 + 186 * q))) i (dnM R (53 + 186 * q))))) t = _ from d1, bind_some, bnd_e, nI_1]
/-- the first quest that is possible -/
def fsp (R : Nat → Int32) : Nat → Option Nat
  | 0 => none
  | k + 1 => match fsp R k with
    | some q => some q
    | none => if posb R (53 + 186 * k) (stk R) then some k else none
theorem fsp_none {R : Nat → Int32} : ∀ n, fsp R n = none ↔ ∀ k, k < n → posb R (53 + 186 * k) (stk R) = false
  | 0 => ⟨fun _ k hk => absurd hk (Nat.not_lt_zero _), fun _ => rfl⟩
  | n + 1 => by
    rw [fsp]
    constructor
    · intro h k hk
      cases e : fsp R n with
      | some q => rw [e] at h; cases h
      | none =>
        rw [e] at h
        by_cases c : k = n
        · subst c
          cases hp : posb R (53 + 186 * k) (stk R) with
          | false => rfl
          | true => simp [hp] at h
        · exact (fsp_none n).mp e k (by omega)
    · intro h
      rw [(fsp_none n).mpr (fun k hk => h k (by omega))]
      simp [h n (by omega)]
theorem fsp_some {R : Nat → Int32} {q : Nat} : ∀ n, fsp R n = some q → q < n ∧ posb R (53 + 186 * q) (stk R) = true ∧ ∀ k, k < q → posb R (53 + 186 * k) (stk R) = false
  | 0, h => by cases h
  | n + 1, h => by
    rw [fsp] at h
    cases e : fsp R n with
    | some q' =>
      rw [e] at h
      cases h
      obtain ⟨a, b, c⟩ := fsp_some n e
      exact ⟨by omega, b, c⟩
    | none =>
      rw [e] at h
      cases hp : posb R (53 + 186 * n) (stk R) with
      | false => simp [hp] at h
      | true =>
        simp [hp] at h
        subst h
        exact ⟨by omega, hp, (fsp_none n).mp e⟩
theorem ffC {σ : St} {B : Nat} {R : Nat → Int32} (v : VR B R) (hB : B + 1386 ≤ 50000000) (h : RLd σ 61 R) : ∃ σ', pf_X10_finishFirstPossible 0 61 σ = some (match fsp R (Nn (R 0)) with | some _ => 1 | none => 0, σ') ∧ Un cQ σ σ' ∧ RLd σ' 61 (match fsp R (Nn (R 0)) with | some q => finR R q | none => R) := by
  have n0 := v.n0
  have k61 : kd 61 = 2 := by decide +kernel
  have al64 : alen 64 = 6 := by decide +kernel
  unfold pf_X10_finishFirstPossible
  refine up_C (fun n i t => pf_X10_finishFirstPossible_L2 pf_X10_finishFirstPossible_b38 n 0 61 (nI i) t) (Nn (R 0)) (fun i t => Un cQ σ t ∧ RLd t 61 R ∧ ∀ k, k < i → posb R (53 + 186 * k) (stk R) = false) (fun x => ∃ σ', x = some (match fsp R (Nn (R 0)) with | some _ => 1 | none => 0, σ') ∧ Un cQ σ σ' ∧ RLd σ' 61 (match fsp R (Nn (R 0)) with | some q => finR R q | none => R)) ?_ ?_ FU 0 σ (Nat.zero_le _) ⟨Un.refl _ _, h, fun k hk => absurd hk (Nat.not_lt_zero _)⟩ (lt_FU (by omega))
  · intro n t ⟨h1, h2, h3⟩
    rw [(fsp_none _).mpr h3]
    refine ⟨t, ?_, h1, h2⟩
    show pf_X10_finishFirstPossible_L2 pf_X10_finishFirstPossible_b38 (n + 1) 0 61 (nI (Nn (R 0))) t = _
    rw [pf_X10_finishFirstPossible_L2, h2.1, v.1.1, Nn_nI (by omega), if_pos (nI_le (Nat.le_refl _) (by omega))]
  · intro n i t hi ⟨h1, h2, h3⟩
    have V := (v.2.2.2.2.2.2.1 i hi).1
    have R2 := h2.2.2.2.2.2.1 i hi
    have ka : kd (61 + 5 + 9 * i) = 3 := by
      have := kd_quest (p := 61) (k := i) k61 (by omega)
      rw [show 61 + 3 + 2 + 9 * i = 61 + 5 + 9 * i by omega] at this
      exact this
    have hS : ∀ j, j < 8 → 0 ≤ stk R j ∧ stk R j ≤ 50000000 := fun j hj => by
      have := (v.2.2.2.2.1 j hj).2
      unfold stk; omega
    have W : Wx t (61 + 5 + 9 * i) R (53 + 186 * i) (stk R) := ⟨ka, by omega, V, R2, hS⟩
    obtain ⟨t1, c1, c2, c3⟩ := explore_ok (sp := 62) W (by decide) al62 (fun j hj => by
      rw [h2.2.2.2.1 j hj, (v.2.2.2.2.1 j hj).1]
      unfold stk; rw [iI_nat])
    have u1 : Un cQ t t1 := c2.mono fun j hj => by have h1 := hj.1; have h2 := hj.2; unfold cQ; omega
    have h2' : RLd t1 61 R := h2.un n0 c2 fun j b1 b2 b3 => by have := b3.1; omega
    have step : pf_X10_finishFirstPossible_L2 pf_X10_finishFirstPossible_b38 (n + 1) 0 61 (nI i) t = if posb R (53 + 186 * i) (stk R) then pf_X10_finishFirstPossible_b38 0 61 (61 + 5 + 9 * i) t1 else pf_X10_finishFirstPossible_L2 pf_X10_finishFirstPossible_b38 n 0 61 (nI (i + 1)) t1 := by
      rw [pf_X10_finishFirstPossible_L2, h2.1, v.1.1, if_neg (nI_ge hi (by omega)), show (6 : Int32) = nI 6 from rfl, if_neg (nI_ge (by omega) (by omega)), ckA (show alen (61 + 3) = 6 from al64) (by omega), nI_clamp (by omega), show 61 + 3 + 2 + 9 * i = 61 + 5 + 9 * i by omega, show pf_X7_explore (0 + 602) (61 + 5 + 9 * i) (61 + 1) t = _ from c1, bnd2_some, if_b, bnd_e, nI_1]
    cases hp : posb R (53 + 186 * i) (stk R) with
    | false =>
      refine Or.inr ⟨t1, ?_, h1.trans u1, h2', fun k hk => ?_⟩
      · show pf_X10_finishFirstPossible_L2 pf_X10_finishFirstPossible_b38 (n + 1) 0 61 (nI i) t = _
        rw [step, hp, if_neg Bool.false_ne_true]
      · by_cases e : k = i
        · subst e; exact hp
        · exact h3 k (by omega)
    | true =>
      left
      have ef : fsp R (Nn (R 0)) = some i := by
        cases e : fsp R (Nn (R 0)) with
        | none => rw [(fsp_none _).mp e i hi] at hp; cases hp
        | some q =>
          obtain ⟨a, b, c⟩ := fsp_some _ e
          rcases Nat.lt_trichotomy q i with x | x | x
          · rw [h3 q x] at b; cases b
          · rw [x]
          · rw [c i x] at hp; cases hp
      rw [ef]
      show ∃ σ', pf_X10_finishFirstPossible_L2 pf_X10_finishFirstPossible_b38 (n + 1) 0 61 (nI i) t = some (1, σ') ∧ Un cQ σ σ' ∧ RLd σ' 61 (finR R i)
      rw [step, hp, if_pos rfl]
      have Y : Wy t1 (61 + 5 + 9 * i) R (53 + 186 * i) (stk R) := ⟨⟨ka, by omega, V, h2'.2.2.2.2.2.1 i hi, hS⟩, c3⟩
      obtain ⟨σ', g1, g2, g3⟩ := finC v hB hi hp h2' c3
      refine ⟨σ', ?_, h1.trans (u1.trans g2), g3⟩
      unfold pf_X10_finishFirstPossible_b38
      rw [show pf_X7_lengthOfPlan (0 + 602) (61 + 5 + 9 * i) t1 = _ from lenP Y, bind_some, hp, if_pos rfl, g1]
/-- the reference finishes -/
theorem finM {τ : St} {B q : Nat} {rd R : Nat → Int32} (v : VR B R) (hB : B + 1386 ≤ 50000000) (hq : q < Nn (R 0)) (hp : posb R (53 + 186 * q) (stk R) = true) (X : Mx τ rd q (stk R)) (hW : MWs τ rd (53 + 186 * q) (stk R)) (he : ∀ k, 53 + 186 * q ≤ k → k < 53 + 186 * q + 186 → R k = rd k) (hg : ∀ k, 2769 ≤ k → k < 4370 → R k = rd k) : ∃ τ', pf_X11_finishes 609 (nI q) τ = some τ' ∧ MU qA qI τ τ' ∧ BY τ' (stk (finR R q)) := by
  have n0 := v.n0
  have V := (v.2.2.2.2.2.2.1 q hq).1
  have hn := V.n
  have hd := dnM_64 V
  have hc := cnR_ok (S := stk R) (d := dnM R (53 + 186 * q)) hn.1
  obtain ⟨p1, p2, p3⟩ := posb_t V hp
  have FA := FI.all v hB hq hp
  have Vr := X.2.2.1
  obtain ⟨g1, g2, g3, g4⟩ := posb_cg (S := stk R) Vr he hg
  have g5 : cnR R (53 + 186 * q) (stk R) (dnM R (53 + 186 * q)) = cnR rd (53 + 186 * q) (stk R) (dnM rd (53 + 186 * q)) := by rw [g3]; exact cnR_cg he Vr.n.1
  obtain ⟨τ1, k1, k2, k3⟩ := plans_ok X hW (by rw [← g1]; exact hp)
  have X1 := X.mu k2 (by unfold plA; decide) (by unfold plA; decide) (by unfold plB; decide)
  unfold pf_X11_finishes
  rw [k1, bind_some]
  have hN : gI τ1 609 11 = nI (plN R (53 + 186 * q) (stk R)) := by rw [g4]; exact k3.1
  have hst : ∀ k, k < plN R (53 + 186 * q) (stk R) → gI τ1 616 k = nI (pSt R q k) := fun k hk => by
    rw [k3.2 k (by rw [← g4]; exact hk)]
    unfold pSt
    rw [g2, g3, cnR_cg he Vr.n.1]
  have h1 := X1.1
  refine up_C (fun n i t => pf_X11_finishes_L7 pf_X11_finishes_b75 n 609 (nI q) (nI i) t) (plN R (53 + 186 * q) (stk R)) (fun i t => MU (fun i => i = 613) noB τ1 t ∧ BY t (bh R (53 + 186 * q) (stk R) (df (pU R q i) (dnM R (53 + 186 * q))))) (fun x => ∃ τ', x = some τ' ∧ MU qA qI τ τ' ∧ BY τ' (stk (finR R q))) ?_ ?_ FU 0 τ1 (Nat.zero_le _) ⟨MU.refl _ _ _, fun i hi => by
    show gI τ1 613 i = iI (bh R (53 + 186 * q) (stk R) (df (dnM R (53 + 186 * q)) (dnM R (53 + 186 * q))) i)
    rw [df_self, bh_0]; exact X1.2.2.2.1 i hi⟩ (lt_FU (by omega))
  · intro n t ⟨h2, h3⟩
    have h4 : MR t rd := h1.mu h2 (by omega) (fun e => e)
    have F := FA _ (Nat.le_refl _)
    obtain ⟨it, e1, e2, e3⟩ := Vr.2.2.1.get
    obtain ⟨am, f1, f2, f3⟩ := Vr.2.2.2.1.get
    show ∃ τ', pf_X11_finishes_L7 pf_X11_finishes_b75 (n + 1) 609 (nI q) (nI (plN R (53 + 186 * q) (stk R))) t = some τ' ∧ _
    rw [pf_X11_finishes_L7, show gI t 609 11 = _ from (h2.F (fun e => e)).trans hN, if_pos (nI_le (Nat.le_refl _) (by omega))]
    unfold pf_X11_finishes_b75
    rw [oQ2 h4 (by omega), bind_some, e1, ckA al613 (by omega), oQ3 h4 (by omega), bind_some, f1, ckA al613 (by omega), nI_clamp (by omega), bnd_e]
    refine ⟨_, rfl, (plq k2).trans ((h2.mono (fun i hi => by unfold qA; omega) (fun k hk => hk.elim)).trans (MU.arr _ _ (show qA 613 by unfold qA; omega) (by decide))), fun i hi => ?_⟩
    have hs := F.s i hi
    rw [he _ (by omega) (by omega), he _ (by omega) (by omega), e3, f3] at hs
    show gI (sI t 613 it (gI t 613 it + nI am)) 613 i = iI (Nn (fnR R q (plN R (53 + 186 * q) (stk R)) (5 + i)) : Int)
    rw [hs]
    by_cases c : i = it
    · subst c
      rw [gI_at, h3 i hi, ← iI_nat, iI_add, if_pos ⟨rfl, rfl⟩]
    · rw [gI_ns _ _ _ c, h3 i hi, if_neg (fun e => c e.2), Int.add_zero]
  · intro n i t hi ⟨h2, h3⟩
    obtain ⟨T, tb, eu, hs, hcn⟩ := (FA i (by omega)).t v hq p2 hi
    have hs6 : pSt R q i < 6 := by omega
    have hdb : (dnM R (53 + 186 * q)).testBit (pSt R q i) = false := by
      cases h : (dnM R (53 + 186 * q)).testBit (pSt R q i) with
      | false => rfl
      | true =>
        have h1 := Rch_sup (plS_at hc i _ _ hd p2 (by omega)).2.1
        have h2 : (pU R q i).testBit (pSt R q i) = false := (hc _ _ hcn).2
        have h3 : pU R q i &&& dnM R (53 + 186 * q) = dnM R (53 + 186 * q) := h1
        have h4 : (pU R q i &&& dnM R (53 + 186 * q)).testBit (pSt R q i) = true := by rw [h3]; exact h
        rw [Nat.testBit_and, h2, Bool.false_and] at h4
        exact absurd h4 Bool.false_ne_true
    have nxt : ∀ j, j < 8 → bh R (53 + 186 * q) (stk R) (df (pU R q (i + 1)) (dnM R (53 + 186 * q))) j = bh R (53 + 186 * q) (stk R) (df (pU R q i) (dnM R (53 + 186 * q))) j - cU R (53 + 186 * q) (pSt R q i) j + cG R (53 + 186 * q) (pSt R q i) j := fun j hj => by
      rw [eu, df_nx hs6 hdb, bh_nx (by rw [df_bit, (hc _ _ hcn).2]; simp) hs]
    right
    have key : ∃ t', pf_X11_finishes_L17 (pf_X11_finishes_b69 (pf_X11_finishes_L7 pf_X11_finishes_b75 n)) FU 609 (nI q) (nI i) 0 t = pf_X11_finishes_b69 (pf_X11_finishes_L7 pf_X11_finishes_b75 n) 609 (nI q) (nI i) t' ∧ MU (fun i => i = 613) noB t t' ∧ BY t' (bh R (53 + 186 * q) (stk R) (df (pU R q (i + 1)) (dnM R (53 + 186 * q)))) := by
      refine up_C (fun n' j t2 => pf_X11_finishes_L17 (pf_X11_finishes_b69 (pf_X11_finishes_L7 pf_X11_finishes_b75 n)) n' 609 (nI q) (nI i) (nI j) t2) 8 (fun j t2 => MU (fun i => i = 613) noB t t2 ∧ (∀ k, k < j → gI t2 613 k = iI (bh R (53 + 186 * q) (stk R) (df (pU R q (i + 1)) (dnM R (53 + 186 * q))) k)) ∧ ∀ k, j ≤ k → gI t2 613 k = gI t 613 k) (fun x => ∃ t', x = pf_X11_finishes_b69 (pf_X11_finishes_L7 pf_X11_finishes_b75 n) 609 (nI q) (nI i) t' ∧ MU (fun i => i = 613) noB t t' ∧ BY t' (bh R (53 + 186 * q) (stk R) (df (pU R q (i + 1)) (dnM R (53 + 186 * q))))) ?_ ?_ FU 0 t (Nat.zero_le _) ⟨MU.refl _ _ _, fun k hk => absurd hk (Nat.not_lt_zero _), fun _ _ => rfl⟩ (lt_FU (by omega))
      · intro n' t2 ⟨a1, a2, a3⟩
        refine ⟨t2, ?_, a1, a2⟩
        show pf_X11_finishes_L17 _ (n' + 1) 609 (nI q) (nI i) (nI 8) t2 = _
        rw [pf_X11_finishes_L17, show (8 : Int32) = nI 8 from rfl, if_pos (nI_le (Nat.le_refl _) (by omega))]
      · intro n' j t2 hj ⟨a1, a2, a3⟩
        have M2 : MR t2 rd := (h1.mu h2 (by omega) (fun e => e)).mu a1 (by omega) (fun e => e)
        have e6 : gI t2 616 i = nI (pSt R q i) := by rw [a1.I (by decide) (by omega), h2.I (by decide) (by omega)]; exact hst i hi
        have vs := Vr.s (show pSt R q i < nS rd (53 + 186 * q) by rw [← cg_n he]; exact hs)
        obtain ⟨g, x1, x2, x3⟩ := (vs.2.2.2.2.2.2 (16 + j) (by omega)).get
        obtain ⟨u, y1, y2, y3⟩ := (vs.2.2.2.2.2.2 j (by omega)).get
        have eG : cG R (53 + 186 * q) (pSt R q i) j = g := by
          unfold cG
          rw [he _ (by omega) (by omega), show 53 + 186 * q + 6 + 30 * pSt R q i + 22 + j = 53 + 186 * q + 6 + 30 * pSt R q i + 6 + (16 + j) by omega]
          exact x3
        have eU : cU R (53 + 186 * q) (pSt R q i) j = u := by
          unfold cU
          rw [he _ (by omega) (by omega)]
          exact y3
        refine Or.inr ⟨sI t2 613 j (gI t2 613 j + (nI g - nI u)), ?_, a1.trans (MU.arr _ _ rfl (by decide)), fun k hk => ?_, fun k hk => ?_⟩
        · show pf_X11_finishes_L17 _ (n' + 1) 609 (nI q) (nI i) (nI j) t2 = pf_X11_finishes_L17 _ n' 609 (nI q) (nI i) (nI (j + 1)) _
          rw [pf_X11_finishes_L17, show (8 : Int32) = nI 8 from rfl, if_neg (nI_ge hj (by omega)), ckA al613 hj, ckA al616 (by omega), nI_clamp (show i < 2 ^ 31 by omega), show gI t2 (609 + 7) i = nI (pSt R q i) from e6, oSG M2 (by omega) hs6 hj, bind_some, ckA al616 (by omega), oSU M2 (by omega) hs6 hj, bind_some, ckA al613 hj, nI_clamp (by omega), bnd_e, bnd_e, nI_1, y1, show 53 + 186 * q + 6 + 30 * pSt R q i + 22 + j = 53 + 186 * q + 6 + 30 * pSt R q i + 6 + (16 + j) by omega, x1]
        · by_cases e : k = j
          · subst e
            rw [gI_at, a3 k (Nat.le_refl _), h3 k hj, nxt k hj, eG, eU, ← iI_nat, ← iI_nat, iI_sub, iI_add]
            congr 1; omega
          · rw [gI_ns _ _ _ e]; exact a2 k (by omega)
        · rw [gI_ns _ _ _ (by omega)]; exact a3 k (by omega)
    obtain ⟨t', m1, m2, m3⟩ := key
    refine ⟨t', ?_, h2.trans m2, m3⟩
    show pf_X11_finishes_L7 pf_X11_finishes_b75 (n + 1) 609 (nI q) (nI i) t = pf_X11_finishes_L7 pf_X11_finishes_b75 n 609 (nI q) (nI (i + 1)) t'
    rw [pf_X11_finishes_L7, show gI t 609 11 = _ from (h2.F (fun e => e)).trans hN, if_neg (nI_ge hi (by omega)), m1, pf_X11_finishes_b69, bnd_e, nI_1]
