def wF (rd : Nat → Int32) (q : Nat) (S : Nat → Int) (k : Nat) : Int :=
  if k = 0 then (if posb rd (53 + 186 * q) S then (plN rd (53 + 186 * q) S : Int) else -1)
  else if k = 1 then (if posb rd (53 + 186 * q) S then (plR (gl rd (53 + 186 * q)) (cnR rd (53 + 186 * q) S (dnM rd (53 + 186 * q))) (cR rd (53 + 186 * q)) (plN rd (53 + 186 * q) S) (dnM rd (53 + 186 * q)) : Int) else 0)
  else if k = 2 then (pop6 (dnM rd (53 + 186 * q)) : Int)
  else if k = 3 then (flS rd (53 + 186 * q) (nS rd (53 + 186 * q)) : Int)
  else if k = 4 then (Nn (rd (53 + 186 * q + 3)) : Int)
  else (q : Int)
def wop (rd : Nat → Int32) (k : Nat) : Nat := if Nn (rd 3) = 0 then 1 else Nn (rd (1169 + 2 * k))
def wv (rd : Nat → Int32) (k : Nat) : Nat := if Nn (rd 3) = 0 then 4 else Nn (rd (1169 + 2 * k + 1))
def wW (rd : Nat → Int32) : Nat := if Nn (rd 3) = 0 then 1 else Nn (rd 3)
def wth (rd : Nat → Int32) (q : Nat) (S : Nat → Int) : Int := (evW (wF rd q S) (wop rd) (wv rd) (wW rd) 0 []).headD 0
theorem hWf_eq (rd : Nat → Int32) : ∀ n k h, hWf (fun j => Nn (rd (1169 + 2 * j))) n k h = hW rd n k h
  | 0, _, _ => rfl
  | n + 1, k, h => by
    rw [hWf, hW, hWf_eq rd n, hWf_eq rd n]
theorem plR_succ (g : Nat → Bool) (cn : Nat → Nat → Bool) (r : Nat → Nat) (k a : Nat) : plR g cn r (k + 1) a = plR g cn r k a + r (stp g cn (plS g cn k a)) := by
  unfold plR
  rw [List.range_succ, List.map_append, List.sum_append]
  simp
section
variable {σ τ : St} {rd : Nat → Int32} {B : Nat}
theorem plR_b {q : Nat} {S : Nat → Int} (V : VQ rd (53 + 186 * q)) (hp : posb rd (53 + 186 * q) S = true) : ∀ k, k ≤ plN rd (53 + 186 * q) S → plR (gl rd (53 + 186 * q)) (cnR rd (53 + 186 * q) S (dnM rd (53 + 186 * q))) (cR rd (53 + 186 * q)) k (dnM rd (53 + 186 * q)) ≤ 100 * k
  | 0, _ => Nat.le_refl _
  | k + 1, h => by
    obtain ⟨p1, p2, p3⟩ := posb_t V hp
    have hd := dnM_64 V
    have hc := cnR_ok (S := S) (d := dnM rd (53 + 186 * q)) V.n.1
    have ih := plR_b V hp k (by omega)
    obtain ⟨r1, r2, r3⟩ := plS_at hc k _ _ hd p2 (by omega)
    obtain ⟨x, hx⟩ : ∃ x, plN rd (53 + 186 * q) S - k = x + 1 := ⟨plN rd (53 + 186 * q) S - k - 1, by omega⟩
    rw [hx] at r3
    obtain ⟨_, _, q3, _, _⟩ := gF_succ hc r1 r3
    have := (V.cR (cnR_s q3).1).2
    simp only [id] at this
    rw [plR_succ]
    omega
theorem wF_b {q : Nat} {S : Nat → Int} (V : VQ rd (53 + 186 * q)) (hq : q < 6) (k : Nat) : -1000000 ≤ wF rd q S k ∧ wF rd q S k ≤ 1000000 := by
  have hn := V.n
  have h2 := pop6_le _ (dnM_64 V)
  have h3 := flS_le V (nS rd (53 + 186 * q)) (Nat.le_refl _)
  have h4 := V.2.2.2.1.2
  unfold wF
  split
  · split
    · rename_i hp
      have := (posb_t V hp).2.2
      omega
    · omega
  · split
    · split
      · rename_i hp
        have a1 := (posb_t V hp).2.2
        have a2 := plR_b V hp _ (Nat.le_refl _)
        omega
      · omega
    · split
      · omega
      · split
        · omega
        · split <;> omega
theorem CX.okW {q : Nat} {S : Nat → Int} (X : CX σ rd B) (hq : q < Qn rd) : okW (wF rd q S) (wop rd) (wv rd) (wW rd) ∧ hWf (wop rd) (wW rd) 0 0 = some 1 ∧ wW rd ≤ 800 := by
  have V := X.V hq
  have q0 := X.q0
  have v3 := X.2.1.2.2.1
  obtain ⟨w1, w2⟩ := X.2.1.2.2.2.2.2.2.2
  by_cases hz : Nn (rd 3) = 0
  · refine ⟨fun k hk => ?_, ?_, ?_⟩
    · unfold wop wv
      rw [if_pos hz, if_pos hz]
      exact ⟨by decide, ⟨fun e => absurd e (by decide), fun _ => ⟨by decide, wF_b V (by omega) _⟩⟩⟩
    · unfold wW
      rw [if_pos hz]
      show (if wop rd 0 ≤ 1 then (if 0 + 1 ≤ 11 then hWf (wop rd) 0 (0 + 1) (0 + 1) else none) else _) = some 1
      have : wop rd 0 = 1 := by unfold wop; rw [if_pos hz]
      rw [this]; rfl
    · unfold wW; rw [if_pos hz]; decide
  · have e1 : wop rd = fun j => Nn (rd (1169 + 2 * j)) := by funext j; unfold wop; rw [if_neg hz]
    have e2 : wv rd = fun j => Nn (rd (1169 + 2 * j + 1)) := by funext j; unfold wv; rw [if_neg hz]
    have e3 : wW rd = Nn (rd 3) := by unfold wW; rw [if_neg hz]
    rw [e1, e2, e3]
    refine ⟨fun k hk => ?_, by rw [hWf_eq]; exact w2 (by omega), v3.2⟩
    obtain ⟨a1, a2, a3⟩ := w1 k hk
    refine ⟨a1.2, fun e => (a2 (by rw [a1.1, show Nn (rd (1169 + 2 * k)) = 0 from e]; rfl)).2, fun e => ⟨(a3 (by rw [a1.1, show Nn (rd (1169 + 2 * k)) = 1 from e]; rfl)).2, wF_b V (by omega) _⟩⟩
theorem encW_e {x y : Int32} (h : Is x 5) (h0 : x = 0 → Is y 9999) (h1 : x = 1 → Is y 5) : encW x y = eW (Nn x) (if Nn x ≤ 1 then Nn y else 0) := by
  obtain ⟨n, e, hn, hn'⟩ := h.get
  rw [hn']
  rcases (by omega : n = 0 ∨ n = 1 ∨ 2 ≤ n) with c | c | c
  · subst c
    have hy := (h0 (by rw [e]; rfl)).1
    unfold encW eW
    rw [e, if_pos (show nI 0 = (0 : Int32) from rfl), if_pos rfl, if_pos (by omega)]
    exact hy
  · subst c
    have hy := (h1 (by rw [e]; rfl)).1
    unfold encW eW
    rw [e, if_neg (show ¬ nI 1 = (0 : Int32) by decide), if_pos (show nI 1 = (1 : Int32) from rfl), if_neg (by omega), if_pos rfl, if_pos (by omega), ← hy]
  · unfold encW eW
    rw [e, if_neg (by rw [show (0 : Int32) = nI 0 from rfl, nI_eq (by omega) (by omega)]; omega), if_neg (by rw [show (1 : Int32) = nI 1 from rfl, nI_eq (by omega) (by omega)]; omega), if_neg (by omega), if_neg (by omega)]
theorem CX.code (X : CX σ rd B) (hq0 : 0 < Nn (rd 0)) : gI σ 2 7 = nI (wW rd) ∧ ∀ k, k < wW rd → gI σ 6 k = eW (wop rd k) (if wop rd k ≤ 1 then wv rd k else 0) := by
  have hr := X.1.2.2.2.2.2.2
  have v3 := X.2.1.2.2.1
  obtain ⟨w1, w2⟩ := X.2.1.2.2.2.2.2.2.2
  unfold RWo at hr
  have hr := hr.resolve_left (fun q => by omega)
  by_cases hz : Nn (rd 3) = 0
  · rw [if_pos hz] at hr
    unfold wW wop wv
    rw [if_pos hz]
    refine ⟨hr.1, fun k hk => ?_⟩
    rw [if_pos hz, if_pos hz, show k = 0 by omega]
    exact hr.2
  · rw [if_neg hz] at hr
    unfold wW wop wv
    rw [if_neg hz]
    refine ⟨hr.1.trans v3.1, fun k hk => ?_⟩
    rw [if_neg hz, if_neg hz]
    obtain ⟨a1, a2, a3⟩ := w1 k hk
    exact (hr.2 k hk).trans (encW_e a1 a2 a3)
theorem see_ok {k : Nat} {x : Int32} {s : St} (c : Int32) (hc : -1 - c = nI k) (hk : k < 6) : pf_X8_see 606 c x s = some (sI s 608 k x) := by
  unfold pf_X8_see
  rw [hc, show pf_X10_put (606 + 2) (nI k) x s = _ from put_ok al608 hk, bind_some]
theorem worthC {q : Nat} (X : CX σ rd B) (hq : q < Qn rd) : ∃ σ', pf_X10_worthOf 0 (7 + 9 * q) (nI q) σ = some (iI (wth rd q (stk rd)), σ') ∧ Un cQ σ σ' ∧ CX σ' rd B ∧ (-1000000 ≤ wth rd q (stk rd) ∧ wth rd q (stk rd) ≤ 1000000) := by
  have V := X.V hq
  have q0 := X.q0
  have hn := V.n
  have hd := dnM_64 V
  obtain ⟨σ2, c1, c2, c3, Y, X2⟩ := X.ex hq
  obtain ⟨o1, o2, o3⟩ := X.okW (S := stk rd) hq
  have eL : pf_X7_lengthOfPlan 602 (7 + 9 * q) σ2 = some (iI (wF rd q (stk rd) 0)) := by
    rw [lenP Y]
    unfold wF
    cases posb rd (53 + 186 * q) (stk rd) with
    | true => simp [iI_nat]
    | false => rfl
  have Un8 : ∀ (s : St), Un (fun i => i = 608) σ2 s → Wy s (7 + 9 * q) rd (53 + 186 * q) (stk rd) := fun s u => by
    refine ⟨Y.1.un u (fun i h1 h2 h3 => by omega), ?_⟩
    obtain ⟨w1, w2, w3⟩ := Y.2
    refine ⟨fun t ht => by rw [u.L (by decide)]; exact w1 t ht, fun t ht => by rw [u.I (by decide)]; exact w2 t ht, fun t ht => by rw [u.I (by decide)]; exact w3 t ht⟩
  unfold pf_X10_worthOf
  rw [show pf_X7_explore (0 + 602) (7 + 9 * q) (0 + 2 + 1) σ = _ from c1, bnd2_some, show pf_X7_lengthOfPlan (0 + 602) (7 + 9 * q) σ2 = _ from eL, bind_some, show pf_X8_see (0 + 606) (-1) _ σ2 = _ from see_ok (k := 0) (-1) (by decide) (by decide), bind_some]
  have u3 : Un (fun i => i = 608) σ2 (sI σ2 608 0 (iI (wF rd q (stk rd) 0))) := Un.sI _ _ rfl
  have t3 : gI (sI σ2 608 0 (iI (wF rd q (stk rd) 0))) 608 0 = iI (wF rd q (stk rd) 0) := gI_at _ _ _ _
  generalize sI σ2 608 0 (iI (wF rd q (stk rd) 0)) = s3 at u3 t3 ⊢
  have Y3 := Un8 s3 u3
  have eR : pf_X7_riskOfPlan 602 (7 + 9 * q) s3 = some (iI (wF rd q (stk rd) 1)) := by
    cases hp : posb rd (53 + 186 * q) (stk rd) with
    | true => rw [riskP Y3 hp]; unfold wF; simp [hp, iI_nat]
    | false => rw [riskP0 Y3 hp]; unfold wF; simp [hp]; rfl
  rw [show pf_X7_riskOfPlan (0 + 602) (7 + 9 * q) s3 = _ from eR, bind_some, show pf_X8_see (0 + 606) (-2) _ s3 = _ from see_ok (k := 1) (-2) (by decide) (by decide), bind_some]
  have u5 : Un (fun i => i = 608) σ2 (sI s3 608 1 (iI (wF rd q (stk rd) 1))) := u3.trans (Un.sI _ _ rfl)
  have t5 : gI (sI s3 608 1 (iI (wF rd q (stk rd) 1))) 608 0 = iI (wF rd q (stk rd) 0) ∧ gI (sI s3 608 1 (iI (wF rd q (stk rd) 1))) 608 1 = iI (wF rd q (stk rd) 1) := ⟨by rw [gI_ns _ _ _ (by decide)]; exact t3, gI_at _ _ _ _⟩
  generalize sI s3 608 1 (iI (wF rd q (stk rd) 1)) = s5 at u5 t5 ⊢
  have Y5 := Un8 s5 u5
  have e2 : nI (((List.range 6).map (fun k => if (dnM rd (53 + 186 * q)).testBit k then 1 else 0)).sum) = iI (wF rd q (stk rd) 2) := by
    unfold wF pop6; simp [iI_nat]
  rw [Y5.1.2.2.2.1.2.2.1, bc32 _ hd, bind_some, e2, show pf_X8_see (0 + 606) (-3) _ s5 = _ from see_ok (k := 2) (-3) (by decide) (by decide), bind_some]
  have u7 : Un (fun i => i = 608) σ2 (sI s5 608 2 (iI (wF rd q (stk rd) 2))) := u5.trans (Un.sI _ _ rfl)
  have t7 : ∀ k, k < 3 → gI (sI s5 608 2 (iI (wF rd q (stk rd) 2))) 608 k = iI (wF rd q (stk rd) k) := fun k hk => by
    rcases (by omega : k = 0 ∨ k = 1 ∨ k = 2) with rfl | rfl | rfl
    · rw [gI_ns _ _ _ (by decide)]; exact t5.1
    · rw [gI_ns _ _ _ (by decide)]; exact t5.2
    · exact gI_at _ _ _ _
  generalize sI s5 608 2 (iI (wF rd q (stk rd) 2)) = s7 at u7 t7 ⊢
  have Y7 := Un8 s7 u7
  have e3 : nI (flS rd (53 + 186 * q) (nS rd (53 + 186 * q))) = iI (wF rd q (stk rd) 3) := by unfold wF; simp [iI_nat]
  rw [failsH (kd7 q (by omega)) V Y7.1.2.2.2.1, bind_some, e3, show pf_X8_see (0 + 606) (-4) _ s7 = _ from see_ok (k := 3) (-4) (by decide) (by decide), bind_some]
  have u9 : Un (fun i => i = 608) σ2 (sI s7 608 3 (iI (wF rd q (stk rd) 3))) := u7.trans (Un.sI _ _ rfl)
  have t9 : ∀ k, k < 4 → gI (sI s7 608 3 (iI (wF rd q (stk rd) 3))) 608 k = iI (wF rd q (stk rd) k) := fun k hk => by
    by_cases c : k = 3
    · subst c; exact gI_at _ _ _ _
    · rw [gI_ns _ _ _ c]; exact t7 k (by omega)
  generalize sI s7 608 3 (iI (wF rd q (stk rd) 3)) = s9 at u9 t9 ⊢
  have Y9 := Un8 s9 u9
  have e4 : gI s9 (7 + 9 * q) 4 = iI (wF rd q (stk rd) 4) := by
    rw [Y9.1.2.2.2.1.2.2.2.2.1, V.2.2.2.1.1]
    unfold wF; simp [iI_nat]
  rw [e4, show pf_X8_see (0 + 606) (-5) _ s9 = _ from see_ok (k := 4) (-5) (by decide) (by decide), bind_some]
  have u10 : Un (fun i => i = 608) σ2 (sI s9 608 4 (iI (wF rd q (stk rd) 4))) := u9.trans (Un.sI _ _ rfl)
  have t10 : ∀ k, k < 5 → gI (sI s9 608 4 (iI (wF rd q (stk rd) 4))) 608 k = iI (wF rd q (stk rd) k) := fun k hk => by
    by_cases c : k = 4
    · subst c; exact gI_at _ _ _ _
    · rw [gI_ns _ _ _ c]; exact t9 k (by omega)
  generalize sI s9 608 4 (iI (wF rd q (stk rd) 4)) = s10 at u10 t10 ⊢
  have e5 : nI q = iI (wF rd q (stk rd) 5) := by unfold wF; simp [iI_nat]
  rw [show pf_X8_see (0 + 606) (-6) _ s10 = _ from see_ok (k := 5) (-6) (by decide) (by decide), bind_some, e5]
  have u11 : Un (fun i => i = 608) σ2 (sI s10 608 5 (iI (wF rd q (stk rd) 5))) := u10.trans (Un.sI _ _ rfl)
  have t11 : ∀ k, k < 6 → gI (sI s10 608 5 (iI (wF rd q (stk rd) 5))) 608 k = iI (wF rd q (stk rd) k) := fun k hk => by
    by_cases c : k = 5
    · subst c; exact gI_at _ _ _ _
    · rw [gI_ns _ _ _ c]; exact t10 k (by omega)
  generalize sI s10 608 5 (iI (wF rd q (stk rd) 5)) = s11 at u11 t11 ⊢
  have X11 : CX s11 rd B := X2.cq (u11.mono fun i hi => by unfold cQ; omega)
  obtain ⟨d1, d2⟩ := X11.code (Nat.lt_of_le_of_lt (Nat.zero_le _) hq)
  obtain ⟨σ', x, m1, m2, m3, m4⟩ := measC al6 (by decide) o3 d2 t11 o1 o2
  have ex : wth rd q (stk rd) = x := by unfold wth; rw [m3]; rfl
  have uF : Un cQ σ σ' := c2.trans ((u11.mono fun i hi => by unfold cQ; omega).trans (m2.mono fun i hi => by unfold meM at hi; unfold cQ; omega))
  rw [show gI s11 (0 + 2) 7 = _ from d1, show pf_X8_measure (0 + 606) (0 + 2 + 4) _ s11 = _ from m1, bnd2_some, ex]
  exact ⟨σ', rfl, uF, X.cq uF, m4⟩
/-! the reference's worth -/
theorem gL_ns (s : St) (p : Nat) {k b : Nat} (v : Int64) (h : b ≠ k) : gL (sL s p k v) p b = gL s p b := by rw [gL_sL, if_pos rfl, if_neg h]
end
