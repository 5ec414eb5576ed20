/-! THE PURE SIDE: what the class answers, out of its row -/
section
variable {σ : St} {rd : Nat → Int32} {B q : Nat}
theorem u_stock (X : CX σ rd B) {i : Nat} (hi : i < 8) : pf_X10_stock 0 (nI i) σ = some (.inr (rd (5 + i))) := by
  unfold pf_X10_stock
  rw [cIt_yes hi, bX0_r, show pf_X10_at (0 + 2 + 1) (nI i) σ = _ from at_ok al3 hi, bind_some]
  exact congrArg (fun x => some (Sum.inr x)) (X.1.2.2.2.1 i hi)
theorem u_quest (X : CX σ rd B) (hq : q < Qn rd) : pf_X10_quest 0 (nI q) 1 σ = some (.inr (rd (53 + 186 * q + 1))) ∧ pf_X10_quest 0 (nI q) 2 σ = some (.inr (nI (dnM rd (53 + 186 * q)))) ∧ pf_X10_quest 0 (nI q) 3 σ = some (.inr (nI (bkM rd (53 + 186 * q)))) ∧ pf_X10_quest 0 (nI q) 7 σ = some (.inr (nI (tyM rd (53 + 186 * q) (stk rd)))) := by
  have q0 := X.q0
  have W := X.W hq
  have V := X.V hq
  have hr := W.2.2.2.1
  have hq6 : q < 6 := by omega
  unfold pf_X10_quest
  rw [qAt_yes X hq, bX0_r, ckK_eq (kd7 q hq6), bX0_r, ckK_eq (kd7 q hq6), bX0_r, ckK_eq (kd7 q hq6), bX0_r, ckK_eq (kd7 q hq6)]
  refine ⟨?_, ?_, ?_, ?_⟩
  · rw [if_neg (show ¬ (1 : Int32) = 0 by decide), if_pos rfl, hr.2.1]
  · rw [if_neg (show ¬ (2 : Int32) = 0 by decide), if_neg (show ¬ (2 : Int32) = 1 by decide), if_pos rfl, hr.2.2.1]
  · rw [if_neg (show ¬ (3 : Int32) = 0 by decide), if_neg (show ¬ (3 : Int32) = 1 by decide), if_neg (show ¬ (3 : Int32) = 2 by decide), if_pos rfl, brokenH (kd7 q hq6) V hr, bind_some]
  · rw [if_neg (show ¬ (7 : Int32) = 0 by decide), if_neg (show ¬ (7 : Int32) = 1 by decide), if_neg (show ¬ (7 : Int32) = 2 by decide), if_neg (show ¬ (7 : Int32) = 3 by decide), if_neg (show ¬ (7 : Int32) = 4 by decide), if_neg (show ¬ (7 : Int32) = 5 by decide), if_neg (show ¬ (7 : Int32) = 6 by decide), if_pos rfl, show pf_X3_stepsToTry (7 + 9 * q) (0 + 2 + 1) σ = _ from tryH W al3 X.st, bind_some]
theorem u_step (X : CX σ rd B) (hq : q < Qn rd) {s : Nat} (hs : s < nS rd (53 + 186 * q)) : pf_X10_step 0 (nI q) (nI s) 2 σ = some (.inr (rd (53 + 186 * q + 6 + 30 * s + 2))) ∧ pf_X10_step 0 (nI q) (nI s) 3 σ = some (.inr (if rd (53 + 186 * q + 6 + 30 * s + 3) = 1 then 1 else 0)) ∧ pf_X10_why 0 (nI q) (nI s) σ = some (.inr (nI (hcd rd (53 + 186 * q) (stk rd) s))) := by
  have q0 := X.q0
  have W := X.W hq
  have V := X.V hq
  have hn := V.n
  have hr := W.2.2.2.1
  have hq6 : q < 6 := by omega
  unfold pf_X10_step pf_X10_why
  rw [qWS_yes X hq hs, bX0_r, ckK_eq (kd7 q hq6), bX0_r, ckK_eq (kd7 q hq6), bX0_r, ckK_eq (kd7 q hq6)]
  refine ⟨?_, ?_, ?_⟩
  · rw [if_neg (show ¬ (2 : Int32) = 0 by decide), if_neg (show ¬ (2 : Int32) = 1 by decide), if_pos rfl, at_ok (af_X3_fails (kd7 q hq6)) (by omega), bind_some, (hr.b hs).2.2.1]
  · rw [if_neg (show ¬ (3 : Int32) = 0 by decide), if_neg (show ¬ (3 : Int32) = 1 by decide), if_neg (show ¬ (3 : Int32) = 2 by decide), if_pos rfl, isDoneH V hr hs, bind_some]
    by_cases c : rd (53 + 186 * q + 6 + 30 * s + 3) = 1
    · rw [if_pos (decide_eq_true c), if_pos c, if_neg (by decide)]
    · rw [if_neg (fun h => c (of_decide_eq_true h)), if_neg c, if_pos rfl]
  · rw [show pf_X3_hindrance (7 + 9 * q) (nI s) (0 + 2 + 1) σ = _ from hindH W al3 X.st hs, bind_some]
theorem u_holds (X : CX σ rd B) (hq : q < Qn rd) {u : Nat} (hu : u < 64) : pf_X10_holds 0 (nI q) (nI u) σ = some (.inr (if gl rd (53 + 186 * q) u then 1 else 0)) := by
  have q0 := X.q0
  have W := X.W hq
  have hr := W.2.2.2.1
  have hq6 : q < 6 := by omega
  unfold pf_X10_holds
  rw [qAt_yes X hq, bX0_r, ckK_eq (kd7 q hq6), if_neg (nI_pos (by omega)), show (64 : Int32) = nI 64 from rfl, if_pos (nI_lt hu (by omega)), goalH hr hu, bind_some, ck_b]
theorem u_possible (X : CX σ rd B) (hq : q < Qn rd) : ∃ σ', pf_X10_possible 0 (nI q) σ = some (.inr (if posb rd (53 + 186 * q) (stk rd) then 1 else 0), σ') ∧ Un cQ σ σ' := by
  have q0 := X.q0
  obtain ⟨σ2, c1, c2, _, c3, c4⟩ := X.ex hq
  unfold pf_X10_possible
  rw [qAt_yes X hq, bXW_r, ckK_eq (kd7 q (by omega)), show pf_X7_explore (0 + 602) (7 + 9 * q) (0 + 2 + 1) σ = _ from c1, bnd2_some, ck_b]
  exact ⟨_, rfl, c2⟩
theorem u_planLength (X : CX σ rd B) (hq : q < Qn rd) : ∃ σ', pf_X10_planLength 0 (nI q) σ = some (.inr (if posb rd (53 + 186 * q) (stk rd) then nI (plN rd (53 + 186 * q) (stk rd)) else -1), σ') ∧ Un cQ σ σ' := by
  have q0 := X.q0
  obtain ⟨σ2, c1, c2, _, c3, c4⟩ := X.ex hq
  unfold pf_X10_planLength
  rw [qAt_yes X hq, bXW_r, ckK_eq (kd7 q (by omega)), show pf_X7_explore (0 + 602) (7 + 9 * q) (0 + 2 + 1) σ = _ from c1, bnd2_some, show pf_X7_lengthOfPlan (0 + 602) (7 + 9 * q) σ2 = _ from lenP c3, bind_some]
  exact ⟨_, rfl, c2⟩
theorem u_safest (X : CX σ rd B) (hq : q < Qn rd) : ∃ σ', pf_X10_safest 0 (nI q) σ = some (.inr (if posb rd (53 + 186 * q) (stk rd) then nI (sfN rd (53 + 186 * q) (stk rd)) else -1), σ') ∧ Un cQ σ σ' := by
  have q0 := X.q0
  obtain ⟨σ2, c1, c2, _, c3, c4⟩ := X.ex hq
  unfold pf_X10_safest
  rw [qAt_yes X hq, bXW_r, ckK_eq (kd7 q (by omega)), show pf_X7_explore (0 + 602) (7 + 9 * q) (0 + 2 + 1) σ = _ from c1, bnd2_some, show pf_X7_smallestRisk (0 + 602) (7 + 9 * q) σ2 = _ from safeP c3, bind_some]
  exact ⟨_, rfl, c2⟩
theorem u_planStep (X : CX σ rd B) (hq : q < Qn rd) (hp : posb rd (53 + 186 * q) (stk rd) = true) {j : Nat} (hj : j < plN rd (53 + 186 * q) (stk rd)) : ∃ σ', pf_X10_planStep 0 (nI q) (nI j) σ = some (.inr (nI (stp (gl rd (53 + 186 * q)) (cnR rd (53 + 186 * q) (stk rd) (dnM rd (53 + 186 * q))) (plS (gl rd (53 + 186 * q)) (cnR rd (53 + 186 * q) (stk rd) (dnM rd (53 + 186 * q))) j (dnM rd (53 + 186 * q))))), σ') ∧ Un cQ σ σ' := by
  have q0 := X.q0
  have V := X.V hq
  have hn := V.n
  have hd := dnM_64 V
  have hc := cnR_ok (S := stk rd) (d := dnM rd (53 + 186 * q)) hn.1
  obtain ⟨σ2, c1, c2, _, c3, c4⟩ := X.ex hq
  obtain ⟨p1, p2, p3⟩ := posb_t V hp
  obtain ⟨r1, r2, r3⟩ := plS_at hc j _ _ hd p2 (by omega)
  obtain ⟨x, hx⟩ : ∃ x, plN rd (53 + 186 * q) (stk rd) - j = x + 1 := ⟨plN rd (53 + 186 * q) (stk rd) - j - 1, by omega⟩
  rw [hx] at r3
  unfold pf_X10_planStep
  rw [qAt_yes X hq, bXW_r, ckK_eq (kd7 q (by omega)), show pf_X7_explore (0 + 602) (7 + 9 * q) (0 + 2 + 1) σ = _ from c1, bnd2_some, if_neg (nI_pos (by omega)), show pf_X7_lengthOfPlan (0 + 602) (7 + 9 * q) σ2 = _ from lenP c3, bind_some, if_pos hp, if_pos (nI_lt hj (by omega)), show pf_X7_setBehindPlan (0 + 602) (7 + 9 * q) (nI j) σ2 = _ from setP c3 hp (by omega), bind_some, show pf_X7_nextOfPlan (0 + 602) _ σ2 = _ from nextP c3 p1 r2 r3, bind_some]
  exact ⟨_, rfl, c2⟩
/-- a set of steps that is done behind some way -/
def EnD (rd : Nat → Int32) (b : Nat) (t : Nat) : Prop := rd (b + 1) = 0 ∧ Rch (gl rd b) (cnR rd b (stk rd) (dnM rd b)) (dnM rd b) t ∧ gl rd b t = true
theorem u_endings (X : CX σ rd B) (hq : q < Qn rd) {f : Nat → Bool} (hf : ∀ t, t < 64 → (f t = true ↔ EnD rd (53 + 186 * q) t)) : ∃ σ', pf_X10_endings 0 (nI q) σ = some (.inr (nI (cntB f 64)), σ') ∧ Un cQ σ σ' := by
  have q0 := X.q0
  obtain ⟨σ2, c1, c2, _, c3, c4⟩ := X.ex hq
  have ec : pf_X7_countEndings (0 + 602) (7 + 9 * q) σ2 = some (nI (cntB f 64)) := by
    unfold pf_X7_countEndings
    rw [bc64, bind_some]
    congr 2
    apply cntB_congr
    intro t ht
    rw [gbit_and]
    show (gbit (gL σ2 602 3) t && gbit (gL σ2 (7 + 9 * q) 5) t) = _
    rw [c3.1.2.2.2.1.2.2.2.2.2.1 t ht]
    have e := (Bool.and_eq_true (gbit (gL σ2 602 3) t) (gl rd (53 + 186 * q) t))
    have h1 := c3.2.1 t ht
    have h2 := hf t ht
    unfold EnD at h2
    rw [decide_eq_true_eq] at h1
    cases ef : f t with
    | true =>
      obtain ⟨a1, a2, a3⟩ := h2.mp ef
      rw [e, a3]
      exact ⟨h1.mpr ⟨a1, a2⟩, rfl⟩
    | false =>
      cases eg : (gbit (gL σ2 602 3) t && gl rd (53 + 186 * q) t) with
      | false => rfl
      | true =>
        rw [e] at eg
        have := h2.mpr ⟨(h1.mp eg.1).1, (h1.mp eg.1).2, eg.2⟩
        rw [ef] at this
        exact absurd this (by decide)
  unfold pf_X10_endings
  rw [qAt_yes X hq, bXW_r, ckK_eq (kd7 q (by omega)), show pf_X7_explore (0 + 602) (7 + 9 * q) (0 + 2 + 1) σ = _ from c1, bnd2_some, ec, bind_some]
  exact ⟨_, rfl, c2⟩
theorem u_state8 (X : CX σ rd B) (h1 : Qn rd = 1) : ∃ σ', pf_X10_state 0 8 σ = some (.inr (if posb rd (53 + 186 * 0) (stk rd) then 1 else 0), σ') ∧ Un cQ σ σ' := by
  obtain ⟨σ', g1, g2⟩ := stateC X (w := 8) (by omega)
  have e : stV rd 8 = if posb rd (53 + 186 * 0) (stk rd) then 1 else 0 := by
    unfold stV
    rw [if_neg (by omega), if_neg (by omega), if_neg (by omega), h1]
    show nI (0 + shr rd 0 8) = _
    unfold shr
    rw [if_neg (by omega), if_neg (by omega), if_neg (by omega), if_neg (by omega), if_neg (by omega)]
    cases posb rd (53 + 186 * 0) (stk rd) <;> rfl
  rw [e] at g1
  exact ⟨σ', g1, g2⟩
theorem u_state6 (X : CX σ rd B) : ∃ σ', pf_X10_state 0 6 σ = some (.inr (rd 2), σ') ∧ Un cQ σ σ' := stateC X (w := 6) (by omega)
theorem u_best (X : CX σ rd B) (h1 : Qn rd = 1) : ∃ σ', pf_X10_best 0 σ = some (if posb rd (53 + 186 * 0) (stk rd) then 0 else -1, σ') ∧ Un cQ σ σ' := by
  obtain ⟨σ', g1, g2⟩ := bestC X
  have e : encO (bstS rd (stk rd) (Qn rd)) = if posb rd (53 + 186 * 0) (stk rd) then 0 else -1 := by
    rw [h1, bstS, bstS]
    cases posb rd (53 + 186 * 0) (stk rd) <;> rfl
  rw [e] at g1
  exact ⟨σ', g1, g2⟩
end
