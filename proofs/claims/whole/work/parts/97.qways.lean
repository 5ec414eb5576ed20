/-! QUESTIONS of ways: the two sides agree -/
/-- what the class's questions write: the draft, the ways, the meter -/
def cQ : Nat → Prop := fun i => (61 ≤ i ∧ i < 120) ∨ (602 ≤ i ∧ i < 609)
theorem ck_b {α : Type} (c : Bool) (x : Option α) : ckZ (if c = true then 1 else 0) x = x := by cases c <;> rfl
section
variable {σ τ : St} {rd : Nat → Int32} {B : Nat}
theorem CX.cq {σ' : St} (X : CX σ rd B) (h : Un cQ σ σ') : CX σ' rd B := X.un h (fun i h1 h2 h3 => by unfold cQ at h3; omega)
theorem CX.ex {q : Nat} (X : CX σ rd B) (hq : q < Qn rd) : ∃ σ', pf_X7_explore 602 (7 + 9 * q) 3 σ = some (if posb rd (53 + 186 * q) (stk rd) then 1 else 0, σ') ∧ Un cQ σ σ' ∧ Un (inR 602 4) σ σ' ∧ Wy σ' (7 + 9 * q) rd (53 + 186 * q) (stk rd) ∧ CX σ' rd B := by
  have W := X.W hq
  obtain ⟨σ', g1, g2, g3⟩ := explore_ok W (by decide) al3 X.st
  have u : Un cQ σ σ' := g2.mono fun i hi => by have h1 := hi.1; have h2 := hi.2; unfold cQ; omega
  exact ⟨σ', g1, u, g2, ⟨(X.cq u).W hq, g3⟩, X.cq u⟩
theorem asIt (X : CX σ rd B) (h : MR τ rd) : ∃ τ', pf_X11_asItIs 609 τ = some τ' ∧ MU qA qI τ τ' ∧ BY τ' (stk rd) := by
  obtain ⟨τ', g1, g2, g3⟩ := asItIs_ok h (fun i hi => (X.stock hi).1)
  exact ⟨τ', g1, g2.mono (fun i hi => by unfold qA; omega) (fun k hk => hk.elim), g3⟩
theorem wyq {τ' : St} (u : MU wyA wyB τ τ') : MU qA qI τ τ' := u.mono (fun i hi => by unfold wyA at hi; unfold qA; omega) (fun k hk => by unfold wyB at hk; unfold qI; omega)
theorem plq {τ' : St} (u : MU plA plB τ τ') : MU qA qI τ τ' := u.mono (fun i hi => by unfold plA at hi; unfold qA; omega) (fun k hk => by unfold plB at hk; unfold qI; omega)
theorem posM {q : Nat} (X : CX σ rd B) (h : MR τ rd) (hq : q < Qn rd) : ∃ τ', pf_X11_isPossible 609 (nI q) τ = some (b2i (posb rd (53 + 186 * q) (stk rd)), τ') ∧ MU qA qI τ τ' ∧ Mx τ' rd q (stk rd) ∧ MWs τ' rd (53 + 186 * q) (stk rd) := by
  obtain ⟨τ1, g1, g2, g3⟩ := asIt X h
  have M1 := X.M (h.mu g2 qA610 qI3) hq g3
  obtain ⟨τ2, k1, k2, k3⟩ := ways_ok M1
  refine ⟨τ2, ?_, g2.trans (wyq k2), M1.mu k2 wyA610 wyA613 wyB3, k3⟩
  unfold pf_X11_isPossible
  rw [g1, bind_some, k1, bnd2_some, ckZ_b]
theorem hasP {q : Nat} (X : CX σ rd B) (h : MR τ rd) (hq : q < Qn rd) : ∃ τ', pf_X11_hasPlan 609 (nI q) τ = some (b2i (posb rd (53 + 186 * q) (stk rd)), τ') ∧ MU qA qI τ τ' ∧ Mx τ' rd q (stk rd) ∧ MWs τ' rd (53 + 186 * q) (stk rd) ∧ (posb rd (53 + 186 * q) (stk rd) = true → MPl τ' rd (53 + 186 * q) (stk rd)) := by
  obtain ⟨τ1, g1, g2, g3, g4⟩ := posM X h hq
  unfold pf_X11_hasPlan
  rw [g1, bnd2_some, if_b2]
  cases hp : posb rd (53 + 186 * q) (stk rd) with
  | false => exact ⟨τ1, rfl, g2, g3, g4, fun e => absurd e (by decide)⟩
  | true =>
    obtain ⟨τ2, k1, k2, k3⟩ := plans_ok g3 g4 hp
    rw [if_pos rfl, k1, bind_some]
    exact ⟨τ2, rfl, g2.trans (plq k2), g3.mu k2 (by unfold plA; decide) (by unfold plA; decide) (by unfold plB; decide), g4.mu k2 (by unfold plA; decide) (by unfold plA; decide) (by unfold plB; decide), fun _ => k3⟩
theorem ag_possible (X : CX σ rd B) (h : MR τ rd) (v : Int32) : ∃ A b σ' τ', pf_X10_possible 0 v σ = some (A, σ') ∧ Un cQ σ σ' ∧ pf_X11_possible 609 v τ = some (b, τ') ∧ MU qA qB τ τ' ∧ Agr fQ A b (gI τ' 609 0) := by
  obtain ⟨h1, h0, u1⟩ := thr0 h
  have q0 := X.q0
  unfold pf_X10_possible pf_X11_possible
  rw [bnd_e]
  rcases v_cases v (n := Qn rd) (by omega) with hv | ⟨q, hq, rfl⟩
  · rw [qAt_no X hv, bXW_l, isQ_no h1 q0.1 q0.2 h0 hv, bnd2_some, i00]
    exact ⟨_, _, _, _, rfl, Un.refl _ _, rfl, u1.trans (MU.fld _ _ (Or.inl rfl)), gI_at _ _ _ _⟩
  · have V := X.V hq
    have hn := V.n
    have hq6 : q < 6 := by omega
    have hd := dnM_64 V
    have hc := cnR_ok (S := stk rd) (d := dnM rd (53 + 186 * q)) hn.1
    obtain ⟨σ2, c1, c2, _, c3, c4⟩ := X.ex hq
    rw [qAt_yes X hq, bXW_r, ckK_eq (kd7 q hq6), isQ_yes h1 q0.1 q0.2 h0 hq, bnd2_some, i10]
    obtain ⟨τ2, g1, g2, g3, g4⟩ := posM X h1 hq
    rw [show pf_X7_explore (0 + 602) (7 + 9 * q) (0 + 2 + 1) σ = _ from c1, bnd2_some, ck_b, g1, bnd2_some, if_b2]
    cases posb rd (53 + 186 * q) (stk rd) with
    | false => exact ⟨_, _, _, _, rfl, c2, rfl, u1.trans g2.qq, g2.t0.trans h0, rfl⟩
    | true => exact ⟨_, _, _, _, rfl, c2, rfl, u1.trans g2.qq, g2.t0.trans h0, rfl⟩
theorem ag_planLength (X : CX σ rd B) (h : MR τ rd) (v : Int32) : ∃ A b σ' τ', pf_X10_planLength 0 v σ = some (A, σ') ∧ Un cQ σ σ' ∧ pf_X11_planLength 609 v τ = some (b, τ') ∧ MU qA qB τ τ' ∧ Agr fQ A b (gI τ' 609 0) := by
  obtain ⟨h1, h0, u1⟩ := thr0 h
  have q0 := X.q0
  unfold pf_X10_planLength pf_X11_planLength
  rw [bnd_e]
  rcases v_cases v (n := Qn rd) (by omega) with hv | ⟨q, hq, rfl⟩
  · rw [qAt_no X hv, bXW_l, isQ_no h1 q0.1 q0.2 h0 hv, bnd2_some, i00]
    exact ⟨_, _, _, _, rfl, Un.refl _ _, rfl, u1.trans (MU.fld _ _ (Or.inl rfl)), gI_at _ _ _ _⟩
  · have V := X.V hq
    have hn := V.n
    have hq6 : q < 6 := by omega
    have hd := dnM_64 V
    have hc := cnR_ok (S := stk rd) (d := dnM rd (53 + 186 * q)) hn.1
    obtain ⟨σ2, c1, c2, _, c3, c4⟩ := X.ex hq
    rw [qAt_yes X hq, bXW_r, ckK_eq (kd7 q hq6), isQ_yes h1 q0.1 q0.2 h0 hq, bnd2_some, i10]
    obtain ⟨τ2, g1, g2, g3, g4⟩ := posM X h1 hq
    rw [show pf_X7_explore (0 + 602) (7 + 9 * q) (0 + 2 + 1) σ = _ from c1, bnd2_some, show pf_X7_lengthOfPlan (0 + 602) (7 + 9 * q) σ2 = _ from lenP c3, bind_some, g1, bnd2_some, if_b2]
    cases hp : posb rd (53 + 186 * q) (stk rd) with
    | false => exact ⟨_, _, _, _, rfl, c2, rfl, u1.trans g2.qq, g2.t0.trans h0, rfl⟩
    | true =>
      obtain ⟨p1, p2, p3⟩ := posb_t V hp
      have e := g4.2 (dnM rd (53 + 186 * q)) (dnM_pow rd _) (sup_self _)
      rw [if_pos rfl, if_pos rfl, g4.1, ckA al614 hd, nI_clamp (by omega)]
      refine ⟨_, _, _, _, rfl, c2, rfl, u1.trans g2.qq, g2.t0.trans h0, ?_⟩
      show gI τ2 614 _ = _
      rw [e.1, p2]; rfl
theorem ag_safest (X : CX σ rd B) (h : MR τ rd) (v : Int32) : ∃ A b σ' τ', pf_X10_safest 0 v σ = some (A, σ') ∧ Un cQ σ σ' ∧ pf_X11_safest 609 v τ = some (b, τ') ∧ MU qA qB τ τ' ∧ Agr fQ A b (gI τ' 609 0) := by
  obtain ⟨h1, h0, u1⟩ := thr0 h
  have q0 := X.q0
  unfold pf_X10_safest pf_X11_safest
  rw [bnd_e]
  rcases v_cases v (n := Qn rd) (by omega) with hv | ⟨q, hq, rfl⟩
  · rw [qAt_no X hv, bXW_l, isQ_no h1 q0.1 q0.2 h0 hv, bnd2_some, i00]
    exact ⟨_, _, _, _, rfl, Un.refl _ _, rfl, u1.trans (MU.fld _ _ (Or.inl rfl)), gI_at _ _ _ _⟩
  · have V := X.V hq
    have hn := V.n
    have hq6 : q < 6 := by omega
    have hd := dnM_64 V
    have hc := cnR_ok (S := stk rd) (d := dnM rd (53 + 186 * q)) hn.1
    obtain ⟨σ2, c1, c2, _, c3, c4⟩ := X.ex hq
    rw [qAt_yes X hq, bXW_r, ckK_eq (kd7 q hq6), isQ_yes h1 q0.1 q0.2 h0 hq, bnd2_some, i10]
    obtain ⟨τ2, g1, g2, g3, g4⟩ := posM X h1 hq
    rw [show pf_X7_explore (0 + 602) (7 + 9 * q) (0 + 2 + 1) σ = _ from c1, bnd2_some, show pf_X7_smallestRisk (0 + 602) (7 + 9 * q) σ2 = _ from safeP c3, bind_some, g1, bnd2_some, if_b2]
    cases hp : posb rd (53 + 186 * q) (stk rd) with
    | false => exact ⟨_, _, _, _, rfl, c2, rfl, u1.trans g2.qq, g2.t0.trans h0, rfl⟩
    | true =>
      obtain ⟨p1, p2, p3⟩ := posb_t V hp
      have e := g4.2 (dnM rd (53 + 186 * q)) (dnM_pow rd _) (sup_self _)
      rw [if_pos rfl, if_pos rfl, g4.1, ckA al615 hd, nI_clamp (by omega)]
      refine ⟨_, _, _, _, rfl, c2, rfl, u1.trans g2.qq, g2.t0.trans h0, ?_⟩
      show gI τ2 615 _ = _
      rw [e.2]
      unfold sfN
      cases hs : gF (gl rd (53 + 186 * q)) (cnR rd (53 + 186 * q) (stk rd) (dnM rd (53 + 186 * q))) (cR rd (53 + 186 * q)) (dnM rd (53 + 186 * q)) with
      | none => rw [gF_isSome hc hd hs] at p2; cases p2
      | some x => rfl
theorem ag_planStep (X : CX σ rd B) (h : MR τ rd) (v k : Int32) : ∃ A b σ' τ', pf_X10_planStep 0 v k σ = some (A, σ') ∧ Un cQ σ σ' ∧ pf_X11_planStep 609 v k τ = some (b, τ') ∧ MU qA qB τ τ' ∧ Agr fQ A b (gI τ' 609 0) := by
  obtain ⟨h1, h0, u1⟩ := thr0 h
  have q0 := X.q0
  unfold pf_X10_planStep pf_X11_planStep
  rw [bnd_e]
  rcases v_cases v (n := Qn rd) (by omega) with hv | ⟨q, hq, rfl⟩
  · rw [qAt_no X hv, bXW_l, isQ_no h1 q0.1 q0.2 h0 hv, bnd2_some, i00]
    exact ⟨_, _, _, _, rfl, Un.refl _ _, rfl, u1.trans (MU.fld _ _ (Or.inl rfl)), gI_at _ _ _ _⟩
  · have V := X.V hq
    have hn := V.n
    have hq6 : q < 6 := by omega
    have hd := dnM_64 V
    have hc := cnR_ok (S := stk rd) (d := dnM rd (53 + 186 * q)) hn.1
    obtain ⟨σ2, c1, c2, _, c3, c4⟩ := X.ex hq
    rw [qAt_yes X hq, bXW_r, ckK_eq (kd7 q hq6), isQ_yes h1 q0.1 q0.2 h0 hq, bnd2_some, i10]
    obtain ⟨τ2, g1, g2, g3, g4, g5⟩ := hasP X h1 hq
    have h2 := g2.t0.trans h0
    rw [show pf_X7_explore (0 + 602) (7 + 9 * q) (0 + 2 + 1) σ = _ from c1, bnd2_some, show pf_X7_lengthOfPlan (0 + 602) (7 + 9 * q) σ2 = _ from lenP c3, bind_some, g1, bnd2_some, if_b2]
    unfold pf_X10_planStep_b38 pf_X11_planStep_b44 pf_X11_planStep_b45
    cases hp : posb rd (53 + 186 * q) (stk rd) with
    | false =>
      rw [if_neg Bool.false_ne_true, if_neg Bool.false_ne_true, show pf_X11_right 609 0 2 τ2 = _ from right_f h2 (by decide), bnd2_some, i00]
      have : (if k < 0 then some ((.inl 4 : Nat ⊕ Int32), σ2) else if k < -1 then (pf_X7_setBehindPlan (0 + 602) (7 + 9 * q) k σ2).bind fun r_5 => (pf_X7_nextOfPlan (0 + 602) r_5 σ2).bind fun r_6 => some (.inr r_6, σ2) else some (.inl 4, σ2)) = some (.inl 4, σ2) := by
        by_cases ck : k < 0
        · rw [if_pos ck]
        · rw [if_neg ck, if_neg]
          intro ck2
          rw [Int32.lt_iff_toInt_lt] at ck ck2
          have e1 : (-1 : Int32).toInt = -1 := by decide
          have e0 : (0 : Int32).toInt = 0 := by decide
          omega
      rw [this]
      exact ⟨_, _, _, _, rfl, c2, rfl, (u1.trans g2.qq).trans (MU.fld _ _ (Or.inl rfl)), gI_at _ _ _ _⟩
    | true =>
      obtain ⟨p1, p2, p3⟩ := posb_t V hp
      have P := g5 hp
      rw [if_pos rfl, if_pos rfl, P.1, isIn_n _ (by omega), bind_some, if_b2]
      rcases v_cases k (n := plN rd (53 + 186 * q) (stk rd)) (by omega) with hk | ⟨j, hj, rfl⟩
      · rw [in_no hk, if_neg Bool.false_ne_true, show pf_X11_right 609 0 2 τ2 = _ from right_f h2 (by decide), bnd2_some, i00]
        by_cases ck : k < 0
        · rw [if_pos ck]
          exact ⟨_, _, _, _, rfl, c2, rfl, (u1.trans g2.qq).trans (MU.fld _ _ (Or.inl rfl)), gI_at _ _ _ _⟩
        · rw [if_neg ck, if_neg (Int32.not_lt.mpr (hk.elim (fun q => absurd q ck) id))]
          exact ⟨_, _, _, _, rfl, c2, rfl, (u1.trans g2.qq).trans (MU.fld _ _ (Or.inl rfl)), gI_at _ _ _ _⟩
      · obtain ⟨r1, r2, r3⟩ := plS_at hc j _ _ hd p2 (by omega)
        obtain ⟨x, hx⟩ : ∃ x, plN rd (53 + 186 * q) (stk rd) - j = x + 1 := ⟨plN rd (53 + 186 * q) (stk rd) - j - 1, by omega⟩
        rw [hx] at r3
        rw [in_yes hj (by omega), if_pos rfl, show pf_X11_right 609 1 2 τ2 = _ from right_t h2, bnd2_some, i10, if_neg (nI_pos (by omega)), if_pos (nI_lt hj (by omega)), show pf_X7_setBehindPlan (0 + 602) (7 + 9 * q) (nI j) σ2 = _ from setP c3 hp (by omega), bind_some, show pf_X7_nextOfPlan (0 + 602) _ σ2 = _ from nextP c3 p1 r2 r3, bind_some, ckA al616 (by omega), nI_clamp (by omega)]
        exact ⟨_, _, _, _, rfl, c2, rfl, u1.trans g2.qq, h2, P.2 j hj⟩
end
