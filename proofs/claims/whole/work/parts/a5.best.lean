/-! QUESTIONS best, chance, state, progress -/
def encO (o : Option Nat) : Int32 := match o with
  | none => -1
  | some k => nI k
def bstS (rd : Nat → Int32) (S : Nat → Int) : Nat → Option Nat
  | 0 => none
  | k + 1 => if posb rd (53 + 186 * k) S then (match bstS rd S k with
      | none => some k
      | some f => if wth rd f S < wth rd k S then some k else some f) else bstS rd S k
theorem bstS_lt (rd : Nat → Int32) (S : Nat → Int) : ∀ k f, bstS rd S k = some f → f < k
  | 0, _, h => by cases h
  | k + 1, f, h => by
    rw [bstS] at h
    split at h
    · split at h
      · cases h; omega
      · rename_i f' e
        have := bstS_lt rd S k f' e
        split at h <;> cases h <;> omega
    · have := bstS_lt rd S k f h
      omega
section
variable {σ τ : St} {rd : Nat → Int32} {B : Nat}
theorem bestC (X : CX σ rd B) : ∃ σ', pf_X10_best 0 σ = some (encO (bstS rd (stk rd) (Qn rd)), σ') ∧ Un cQ σ σ' := by
  have q0 := X.q0
  unfold pf_X10_best
  refine up_C (fun n i (s : (Int32 × Int32) × St) => pf_X10_best_L6 n 0 s.1.1 s.1.2 (nI i) s.2) (Qn rd) (fun i s => s.1.1 = encO (bstS rd (stk rd) i) ∧ (∀ f, bstS rd (stk rd) i = some f → s.1.2 = iI (wth rd f (stk rd)) ∧ -1000000 ≤ wth rd f (stk rd) ∧ wth rd f (stk rd) ≤ 1000000) ∧ Un cQ σ s.2) (fun r => ∃ σ', r = some (encO (bstS rd (stk rd) (Qn rd)), σ') ∧ Un cQ σ σ') ?_ ?_ FU 0 ((-1, 0), σ) (Nat.zero_le _) ⟨rfl, fun f hf => (by cases hf), Un.refl _ _⟩ (lt_FU (by omega))
  · rintro n ⟨⟨x, y⟩, s⟩ ⟨h1, h2, h3⟩
    have Xs := X.cq h3
    refine ⟨s, ?_, h3⟩
    show pf_X10_best_L6 (n + 1) 0 x y (nI (Qn rd)) s = _
    have h1' : x = encO (bstS rd (stk rd) (Qn rd)) := h1
    rw [pf_X10_best_L6, show gI s (0 + 2) 5 = nI (Qn rd) from Xs.1.1.trans q0.1, if_pos (nI_le (Nat.le_refl _) (by omega)), h1']
  · rintro n i ⟨⟨x, y⟩, s⟩ hi ⟨h1, h2, h3⟩
    have Xs := X.cq h3
    have h1' : x = encO (bstS rd (stk rd) i) := h1
    obtain ⟨s2, c1, c2, _, _, c4⟩ := Xs.ex hi
    right
    show ∃ s' : (Int32 × Int32) × St, pf_X10_best_L6 (n + 1) 0 x y (nI i) s = pf_X10_best_L6 n 0 s'.1.1 s'.1.2 (nI (i + 1)) s'.2 ∧ _
    rw [pf_X10_best_L6, show gI s (0 + 2) 5 = nI (Qn rd) from Xs.1.1.trans q0.1, if_neg (nI_ge hi (by omega)), show (6 : Int32) = nI 6 from rfl, if_neg (nI_ge (by omega) (by omega)), ckA al5 (by omega), nI_clamp (by omega), show 0 + 2 + 3 + 2 + 9 * i = 7 + 9 * i by omega, show pf_X7_explore (0 + 602) (7 + 9 * i) (0 + 2 + 1) s = _ from c1, bnd2_some, if_b]
    cases hp : posb rd (53 + 186 * i) (stk rd) with
    | false =>
      rw [if_neg Bool.false_ne_true, pf_X10_best_b77, bnd_e, nI_1]
      refine ⟨((x, y), s2), rfl, ?_, fun f hf => h2 f ?_, h3.trans c2⟩
      · show x = _
        rw [bstS, hp, if_neg Bool.false_ne_true]; exact h1'
      · rw [bstS, hp, if_neg Bool.false_ne_true] at hf; exact hf
    | true =>
      obtain ⟨s3, w1, w2, w3, w4⟩ := worthC c4 hi
      rw [if_pos rfl, w1, bnd2_some]
      have u := (h3.trans c2).trans w2
      cases hb : bstS rd (stk rd) i with
      | none =>
        have ex : x = -1 := by rw [h1', hb]; rfl
        rw [ex, if_pos (by decide), pf_X10_best_b72, pf_X10_best_b77, bnd_e, nI_1]
        refine ⟨((nI i, iI (wth rd i (stk rd))), s3), rfl, ?_, fun f hf => ?_, u⟩
        · show nI i = _
          rw [bstS, hp, if_pos rfl, hb]; rfl
        · rw [bstS, hp, if_pos rfl, hb] at hf
          cases hf; exact ⟨rfl, w4⟩
      | some f =>
        have hf6 := bstS_lt rd (stk rd) i f hb
        have ex : x = nI f := by rw [h1', hb]; rfl
        obtain ⟨e1, e2, e3⟩ := h2 f hb
        have e1' : y = iI (wth rd f (stk rd)) := e1
        rw [ex, if_neg (nI_pos (by omega)), e1']
        by_cases c : wth rd i (stk rd) ≤ wth rd f (stk rd)
        · rw [if_pos (by rw [iI_le (by omega) (by omega) (by omega) (by omega)]; exact c), pf_X10_best_b77, bnd_e, nI_1]
          refine ⟨((nI f, iI (wth rd f (stk rd))), s3), rfl, ?_, fun f' hf' => ?_, u⟩
          · show nI f = _
            rw [bstS, hp, if_pos rfl, hb]
            simp only
            rw [if_neg (by omega)]; rfl
          · rw [bstS, hp, if_pos rfl, hb] at hf'
            simp only at hf'
            rw [if_neg (by omega)] at hf'
            cases hf'; exact ⟨rfl, e2, e3⟩
        · rw [if_neg (by rw [iI_le (by omega) (by omega) (by omega) (by omega)]; exact c), pf_X10_best_b72, pf_X10_best_b77, bnd_e, nI_1]
          refine ⟨((nI i, iI (wth rd i (stk rd))), s3), rfl, ?_, fun f' hf' => ?_, u⟩
          · show nI i = _
            rw [bstS, hp, if_pos rfl, hb]
            simp only
            rw [if_pos (by omega)]; rfl
          · rw [bstS, hp, if_pos rfl, hb] at hf'
            simp only at hf'
            rw [if_pos (by omega)] at hf'
            cases hf'; exact ⟨rfl, w4⟩
theorem wth_b (X : CX σ rd B) {q : Nat} (hq : q < Qn rd) : -1000000 ≤ wth rd q (stk rd) ∧ wth rd q (stk rd) ≤ 1000000 := by
  obtain ⟨_, _, _, _, h⟩ := worthC X hq
  exact h
theorem bestM (X : CX σ rd B) (h : MR τ rd) : ∃ τ', pf_X11_best_L9 FU 609 (-1) 0 τ = some (encO (bstS rd (stk rd) (Qn rd)), τ') ∧ MU qA qI τ τ' := by
  have q0 := X.q0
  refine up_C (fun n i (s : Int32 × St) => pf_X11_best_L9 n 609 s.1 (nI i) s.2) (Qn rd) (fun i s => s.1 = encO (bstS rd (stk rd) i) ∧ MU qA qI τ s.2) (fun r => ∃ τ', r = some (encO (bstS rd (stk rd) (Qn rd)), τ') ∧ MU qA qI τ τ') ?_ ?_ FU 0 (-1, τ) (Nat.zero_le _) ⟨rfl, MU.refl _ _ _⟩ (lt_FU (by omega))
  · rintro n ⟨x, s⟩ ⟨h1, h3⟩
    have hs := h.mu h3 qA610 qI3
    refine ⟨s, ?_, h3⟩
    have h1' : x = encO (bstS rd (stk rd) (Qn rd)) := h1
    show pf_X11_best_L9 (n + 1) 609 x (nI (Qn rd)) s = _
    rw [pf_X11_best_L9, show pf_X11_get 609 0 s = _ from get_ok (k := 0) hs (by omega), bind_some, q0.1, if_pos (nI_le (Nat.le_refl _) (by omega)), h1']
  · rintro n i ⟨x, s⟩ hi ⟨h1, h3⟩
    have hs := h.mu h3 qA610 qI3
    have h1' : x = encO (bstS rd (stk rd) i) := h1
    obtain ⟨s2, g1, g2, _, _⟩ := posM X hs hi
    have hs2 := hs.mu g2 qA610 qI3
    right
    show ∃ s' : Int32 × St, pf_X11_best_L9 (n + 1) 609 x (nI i) s = pf_X11_best_L9 n 609 s'.1 (nI (i + 1)) s'.2 ∧ _
    rw [pf_X11_best_L9, show pf_X11_get 609 0 s = _ from get_ok (k := 0) hs (by omega), bind_some, q0.1, if_neg (nI_ge hi (by omega)), g1, bnd2_some, if_b2]
    cases hp : posb rd (53 + 186 * i) (stk rd) with
    | false =>
      rw [if_neg Bool.false_ne_true, pf_X11_best_b46, bnd_e, nI_1]
      refine ⟨(x, s2), rfl, ?_, h3.trans g2⟩
      show x = _
      rw [bstS, hp, if_neg Bool.false_ne_true]; exact h1'
    | true =>
      rw [if_pos rfl]
      cases hb : bstS rd (stk rd) i with
      | none =>
        have ex : x = -1 := by rw [h1', hb]; rfl
        rw [ex, if_pos rfl, pf_X11_best_b44, pf_X11_best_b46, bnd_e, nI_1]
        refine ⟨(nI i, s2), rfl, ?_, h3.trans g2⟩
        show nI i = _
        rw [bstS, hp, if_pos rfl, hb]; rfl
      | some f =>
        have hf6 := bstS_lt rd (stk rd) i f hb
        have ex : x = nI f := by rw [h1', hb]; rfl
        obtain ⟨s3, k1, k2⟩ := worthM X hs2 hi
        have hs3 := hs2.mu k2 qA610 qI3
        obtain ⟨s4, l1, l2⟩ := worthM X hs3 (show f < Qn rd by omega)
        have b1 := wth_b X hi
        have b2 := wth_b X (show f < Qn rd by omega)
        have hne : ¬ nI f = -1 := fun e => by
          have := congrArg Int32.toInt e
          rw [nI_toInt (by omega)] at this
          have e1 : (-1 : Int32).toInt = -1 := by decide
          omega
        have u := ((h3.trans g2).trans k2).trans l2
        rw [ex, if_neg hne, k1, bnd2_some, l1, bnd2_some]
        by_cases c : wth rd i (stk rd) ≤ wth rd f (stk rd)
        · rw [if_pos (by rw [iI_le (by omega) (by omega) (by omega) (by omega)]; exact c), pf_X11_best_b46, bnd_e, nI_1]
          refine ⟨(nI f, s4), rfl, ?_, u⟩
          show nI f = _
          rw [bstS, hp, if_pos rfl, hb]
          simp only
          rw [if_neg (by omega)]; rfl
        · rw [if_neg (by rw [iI_le (by omega) (by omega) (by omega) (by omega)]; exact c), pf_X11_best_b44, pf_X11_best_b46, bnd_e, nI_1]
          refine ⟨(nI i, s4), rfl, ?_, u⟩
          show nI i = _
          rw [bstS, hp, if_pos rfl, hb]
          simp only
          rw [if_pos (by omega)]; rfl
theorem ag_best (X : CX σ rd B) (h : MR τ rd) : ∃ b σ' τ', pf_X10_best 0 σ = some (b, σ') ∧ Un cQ σ σ' ∧ pf_X11_best 609 τ = some (b, τ') ∧ MU qA qB τ τ' := by
  obtain ⟨h1, h0, u1⟩ := thr0 h
  obtain ⟨σ', c1, c2⟩ := bestC X
  obtain ⟨τ', g1, g2⟩ := bestM X h1
  unfold pf_X11_best
  rw [bnd_e, g1]
  exact ⟨_, _, _, c1, c2, rfl, u1.trans g2.qq⟩
/-! chance -/
def AgrD (A : Nat ⊕ UInt64) (b : UInt64) (t : Int32) : Prop := match A with
  | .inr x => t = 0 ∧ b = x ∧ x &&& 0x7fffffffffffffff ≤ 0x7ff0000000000000
  | .inl k => t = fQ k
def chP (rd : Nat → Int32) (b : Nat) (S : Nat → Int) : Nat → UInt64
  | 0 => FP.dconst1
  | k + 1 => FP.dmul (chP rd b S k) (chW (cR rd b (stp (gl rd b) (cnR rd b S (dnM rd b)) (plS (gl rd b) (cnR rd b S (dnM rd b)) k (dnM rd b)))))
theorem plan_st {q : Nat} {S : Nat → Int} (V : VQ rd (53 + 186 * q)) (hp : posb rd (53 + 186 * q) S = true) {k : Nat} (hk : k < plN rd (53 + 186 * q) S) : Rch (gl rd (53 + 186 * q)) (cnR rd (53 + 186 * q) S (dnM rd (53 + 186 * q))) (dnM rd (53 + 186 * q)) (plS (gl rd (53 + 186 * q)) (cnR rd (53 + 186 * q) S (dnM rd (53 + 186 * q))) k (dnM rd (53 + 186 * q))) ∧ (∃ w, gF (gl rd (53 + 186 * q)) (cnR rd (53 + 186 * q) S (dnM rd (53 + 186 * q))) one (plS (gl rd (53 + 186 * q)) (cnR rd (53 + 186 * q) S (dnM rd (53 + 186 * q))) k (dnM rd (53 + 186 * q))) = some (w + 1)) ∧ stp (gl rd (53 + 186 * q)) (cnR rd (53 + 186 * q) S (dnM rd (53 + 186 * q))) (plS (gl rd (53 + 186 * q)) (cnR rd (53 + 186 * q) S (dnM rd (53 + 186 * q))) k (dnM rd (53 + 186 * q))) < nS rd (53 + 186 * q) := by
  obtain ⟨p1, p2, p3⟩ := posb_t V hp
  have hd := dnM_64 V
  have hc := cnR_ok (S := S) (d := dnM rd (53 + 186 * q)) V.n.1
  obtain ⟨r1, r2, r3⟩ := plS_at hc k _ _ hd p2 (by omega)
  obtain ⟨x, hx⟩ : ∃ x, plN rd (53 + 186 * q) S - k = x + 1 := ⟨plN rd (53 + 186 * q) S - k - 1, by omega⟩
  rw [hx] at r3
  obtain ⟨_, _, q3, _, _⟩ := gF_succ hc r1 r3
  exact ⟨r2, ⟨x, r3⟩, (cnR_s q3).1⟩
theorem chP_eK {q : Nat} {S : Nat → Int} (V : VQ rd (53 + 186 * q)) (hp : posb rd (53 + 186 * q) S = true) : ∀ k, k ≤ plN rd (53 + 186 * q) S → eK (1023 + 2 * k) (chP rd (53 + 186 * q) S k).toNat
  | 0, _ => one_eK
  | k + 1, hk => by
    have hL := (posb_t V hp).2.2
    obtain ⟨_, _, hs⟩ := plan_st V hp (show k < plN rd (53 + 186 * q) S by omega)
    have := dmul_eK (chP_eK V hp k (by omega)) (chW_eK (V.cR hs).2) (by omega) (by omega)
    rw [show 1023 + 2 * (k + 1) = 1023 + 2 * k + 2 by omega]
    exact this
theorem chanceC {q : Nat} (Y : Wy σ (7 + 9 * q) rd (53 + 186 * q) (stk rd)) (hq : q < 6) (hp : posb rd (53 + 186 * q) (stk rd) = true) : pf_X10_chance_L47 pf_X10_chance_b100 FU 0 (7 + 9 * q) FP.dconst1 (nI (dnM rd (53 + 186 * q))) (nI (plN rd (53 + 186 * q) (stk rd))) 0 σ = some (.inr (chP rd (53 + 186 * q) (stk rd) (plN rd (53 + 186 * q) (stk rd))), σ) := by
  have V := Y.1.2.2.1
  obtain ⟨p1, p2, p3⟩ := posb_t V hp
  refine up_C (fun n i (s : UInt64 × Nat) => pf_X10_chance_L47 pf_X10_chance_b100 n 0 (7 + 9 * q) s.1 (nI s.2) (nI (plN rd (53 + 186 * q) (stk rd))) (nI i) σ) (plN rd (53 + 186 * q) (stk rd)) (fun i s => s.1 = chP rd (53 + 186 * q) (stk rd) i ∧ s.2 = plS (gl rd (53 + 186 * q)) (cnR rd (53 + 186 * q) (stk rd) (dnM rd (53 + 186 * q))) i (dnM rd (53 + 186 * q))) (fun r => r = some (.inr (chP rd (53 + 186 * q) (stk rd) (plN rd (53 + 186 * q) (stk rd))), σ)) ?_ ?_ FU 0 (FP.dconst1, dnM rd (53 + 186 * q)) (Nat.zero_le _) ⟨rfl, rfl⟩ (lt_FU (by omega))
  · rintro n ⟨x, u⟩ ⟨h1, h2⟩
    have h1' : x = _ := h1
    show pf_X10_chance_L47 pf_X10_chance_b100 (n + 1) 0 (7 + 9 * q) x (nI u) (nI (plN rd (53 + 186 * q) (stk rd))) (nI (plN rd (53 + 186 * q) (stk rd))) σ = _
    rw [pf_X10_chance_L47, if_pos (nI_le (Nat.le_refl _) (by omega)), pf_X10_chance_b100, h1']
  · rintro n i ⟨x, u⟩ hi ⟨h1, h2⟩
    have h1' : x = _ := h1
    have h2' : u = _ := h2
    obtain ⟨a1, ⟨w, a2⟩, a3⟩ := plan_st V hp hi
    have e1 := chP_eK V hp i (by omega)
    have e2 := chP_eK V hp (i + 1) (by omega)
    right
    refine ⟨(chP rd (53 + 186 * q) (stk rd) (i + 1), plS (gl rd (53 + 186 * q)) (cnR rd (53 + 186 * q) (stk rd) (dnM rd (53 + 186 * q))) (i + 1) (dnM rd (53 + 186 * q))), ?_, rfl, rfl⟩
    show pf_X10_chance_L47 pf_X10_chance_b100 (n + 1) 0 (7 + 9 * q) x (nI u) (nI (plN rd (53 + 186 * q) (stk rd))) (nI i) σ = pf_X10_chance_L47 pf_X10_chance_b100 n 0 (7 + 9 * q) _ (nI _) (nI (plN rd (53 + 186 * q) (stk rd))) (nI (i + 1)) σ
    subst h1'
    subst h2'
    have hn := V.n
    rw [pf_X10_chance_L47, if_neg (nI_ge hi (by omega)), show pf_X7_nextOfPlan (0 + 602) _ σ = _ from nextP Y p1 a1 a2, bind_some, at_ok (af_X3_risk (kd7 q hq)) (by omega), bind_some, (Y.1.2.2.2.1.b a3).1, (V.cR a3).1, nx_nI _ _ (by omega)]
    rw [show FP.ddiv (FP.i2d (100 - nI (cR rd (53 + 186 * q) (stp (gl rd (53 + 186 * q)) (cnR rd (53 + 186 * q) (stk rd) (dnM rd (53 + 186 * q))) (plS (gl rd (53 + 186 * q)) (cnR rd (53 + 186 * q) (stk rd) (dnM rd (53 + 186 * q))) i (dnM rd (53 + 186 * q))))))) 4636737291354636288 = chW (cR rd (53 + 186 * q) (stp (gl rd (53 + 186 * q)) (cnR rd (53 + 186 * q) (stk rd) (dnM rd (53 + 186 * q))) (plS (gl rd (53 + 186 * q)) (cnR rd (53 + 186 * q) (stk rd) (dnM rd (53 + 186 * q))) i (dnM rd (53 + 186 * q))))) from rfl, ckD_eK (chW_eK (V.cR a3).2) (by omega)]
    show ckD (chP rd (53 + 186 * q) (stk rd) (i + 1)) _ = _
    rw [ckD_eK e2 (by omega), bnd_e, bnd_e, bnd_e, nI_1, plS_succ]; rfl
theorem chanceM {q : Nat} (h : MR τ rd) (hq : q < 6) (V : VQ rd (53 + 186 * q)) (hp : posb rd (53 + 186 * q) (stk rd) = true) (P : MPl τ rd (53 + 186 * q) (stk rd)) : pf_X11_chance_L28 pf_X11_chance_b67 FU 609 (nI q) FP.dconst1 0 τ = some (chP rd (53 + 186 * q) (stk rd) (plN rd (53 + 186 * q) (stk rd)), τ) := by
  obtain ⟨p1, p2, p3⟩ := posb_t V hp
  have hn := V.n
  refine up_C (fun n i (x : UInt64) => pf_X11_chance_L28 pf_X11_chance_b67 n 609 (nI q) x (nI i) τ) (plN rd (53 + 186 * q) (stk rd)) (fun i x => x = chP rd (53 + 186 * q) (stk rd) i) (fun r => r = some (chP rd (53 + 186 * q) (stk rd) (plN rd (53 + 186 * q) (stk rd)), τ)) ?_ ?_ FU 0 FP.dconst1 (Nat.zero_le _) rfl (lt_FU (by omega))
  · intro n x h1
    show pf_X11_chance_L28 pf_X11_chance_b67 (n + 1) 609 (nI q) x (nI (plN rd (53 + 186 * q) (stk rd))) τ = _
    rw [pf_X11_chance_L28, P.1, if_pos (nI_le (Nat.le_refl _) (by omega)), pf_X11_chance_b67, h1]
  · intro n i x hi h1
    obtain ⟨a1, ⟨w, a2⟩, a3⟩ := plan_st V hp hi
    have e2 := chP_eK V hp (i + 1) (by omega)
    right
    refine ⟨chP rd (53 + 186 * q) (stk rd) (i + 1), ?_, rfl⟩
    subst h1
    show pf_X11_chance_L28 pf_X11_chance_b67 (n + 1) 609 (nI q) _ (nI i) τ = pf_X11_chance_L28 pf_X11_chance_b67 n 609 (nI q) _ (nI (i + 1)) τ
    rw [pf_X11_chance_L28, P.1, if_neg (nI_ge hi (by omega)), ckA al616 (by omega), nI_clamp (by omega), show gI τ (609 + 7) i = _ from P.2 i hi, oS0 h hq (by omega), bind_some, (V.cR a3).1]
    rw [show FP.ddiv (FP.i2d (100 - nI (cR rd (53 + 186 * q) (stp (gl rd (53 + 186 * q)) (cnR rd (53 + 186 * q) (stk rd) (dnM rd (53 + 186 * q))) (plS (gl rd (53 + 186 * q)) (cnR rd (53 + 186 * q) (stk rd) (dnM rd (53 + 186 * q))) i (dnM rd (53 + 186 * q))))))) 4636737291354636288 = chW (cR rd (53 + 186 * q) (stp (gl rd (53 + 186 * q)) (cnR rd (53 + 186 * q) (stk rd) (dnM rd (53 + 186 * q))) (plS (gl rd (53 + 186 * q)) (cnR rd (53 + 186 * q) (stk rd) (dnM rd (53 + 186 * q))) i (dnM rd (53 + 186 * q))))) from rfl, ckD_eK (chW_eK (V.cR a3).2) (by omega)]
    show ckD (chP rd (53 + 186 * q) (stk rd) (i + 1)) _ = _
    rw [ckD_eK e2 (by omega), bnd_e, bnd_e, nI_1]; rfl
theorem ag_chance (X : CX σ rd B) (h : MR τ rd) (v : Int32) : ∃ A b σ' τ', pf_X10_chance 0 v σ = some (A, σ') ∧ Un cQ σ σ' ∧ pf_X11_chance 609 v τ = some (b, τ') ∧ MU qA qB τ τ' ∧ AgrD A b (gI τ' 609 0) := by
  obtain ⟨h1, h0, u1⟩ := thr0 h
  have q0 := X.q0
  unfold pf_X10_chance pf_X11_chance pf_X11_chance_b21
  rw [bnd_e]
  rcases v_cases v (n := Qn rd) (by omega) with hv | ⟨q, hq, rfl⟩
  · rw [qAt_no X hv, bXW_l, isQ_no h1 q0.1 q0.2 h0 hv, bnd2_some, i00]
    exact ⟨_, _, _, _, rfl, Un.refl _ _, rfl, u1.trans (MU.fld _ _ (Or.inl rfl)), gI_at _ _ _ _⟩
  · have V := X.V hq
    obtain ⟨σ2, c1, c2, _, Y, c4⟩ := X.ex hq
    obtain ⟨τ2, g1, g2, g3, g4, g5⟩ := hasP X h1 hq
    rw [qAt_yes X hq, bXW_r, ckK_eq (kd7 q (by omega)), isQ_yes h1 q0.1 q0.2 h0 hq, bnd2_some, i10, show pf_X7_explore (0 + 602) (7 + 9 * q) (0 + 2 + 1) σ = _ from c1, bnd2_some, if_b, g1, bnd2_some, if_b2]
    cases hp : posb rd (53 + 186 * q) (stk rd) with
    | false => exact ⟨_, _, _, _, rfl, c2, rfl, u1.trans g2.qq, g2.t0.trans h0, rfl, by decide⟩
    | true =>
      obtain ⟨p1, p2, p3⟩ := posb_t V hp
      have e := chP_eK V hp _ (Nat.le_refl _)
      rw [if_pos rfl, if_pos rfl, Y.1.2.2.2.1.2.2.1, bnd_e, show pf_X7_lengthOfPlan (0 + 602) (7 + 9 * q) σ2 = _ from lenP Y, hp, if_pos rfl, bind_some, chanceC Y (by omega) hp, chanceM g3.1 (by omega) V hp (g5 hp)]
      refine ⟨_, _, _, _, rfl, c2, rfl, u1.trans g2.qq, g2.t0.trans h0, rfl, ?_⟩
      have hk : ckD (chP rd (53 + 186 * q) (stk rd) (plN rd (53 + 186 * q) (stk rd))) (some ()) = some () := ckD_eK e (by omega)
      exact (ckD_el hk).1
end
