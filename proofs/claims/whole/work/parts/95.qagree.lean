/-! QUESTIONS that read fields: the two sides agree -/
section
variable {σ τ : St} {rd : Nat → Int32} {B : Nat}
theorem i10 {α : Type} (A B : α) : (if (1 : Int32) = 0 then A else B) = B := if_neg (by decide)
theorem i00 {α : Type} (A B : α) : (if (0 : Int32) = 0 then A else B) = A := if_pos rfl
theorem inK (n : Nat) (v : Int32) (hn : n < 2 ^ 30) : decide (¬ v < 0 ∧ ¬ nI n < v) = decide (¬ v < 0 ∧ ¬ nI (n + 1) ≤ v) := by
  apply decide_eq_decide.mpr
  refine and_congr Iff.rfl (not_congr ?_)
  rw [← iI_nat, ← iI_nat, Int32.lt_iff_toInt_lt, Int32.le_iff_toInt_le, iI_toInt (by omega) (by omega), iI_toInt (by omega) (by omega)]
  omega
theorem isDoneH {a b s : Nat} (V : VQ rd b) (hr : RQ σ a rd b) (hs : s < nS rd b) : pf_X3_isDone a (nI s) σ = some (if decide (rd (b + 6 + 30 * s + 3) = 1) then 1 else 0) := by
  have hn := V.n
  have hd := dnM_64 V
  unfold pf_X3_isDone
  rw [hr.2.2.1, if_u (by omega) (by omega)]
  have hbit : (dnM rd b).testBit s = decide (rd (b + 6 + 30 * s + 3) = 1) := by
    unfold dnM
    rw [msk_bit, show decide (s < Nn (rd b)) = true from decide_eq_true hs, Bool.true_and]
  rw [hbit]
  cases decide (rd (b + 6 + 30 * s + 3) = 1) <;> rfl
theorem ag_stock (X : CX σ rd B) (h : MR τ rd) (v : Int32) : ∃ A b τ', pf_X10_stock 0 v σ = some A ∧ pf_X11_stock 609 v τ = some (b, τ') ∧ MU qA qB τ τ' ∧ Agr fQ A b (gI τ' 609 0) := by
  obtain ⟨h1, h0, u1⟩ := thr0 h
  unfold pf_X10_stock pf_X11_stock
  rw [bnd_e]
  rcases v_cases v (n := 8) (by omega) with hv | ⟨i, hi, rfl⟩
  · rw [cIt_no hv, bX0_l, isIt_no h0 hv, bnd2_some, i00]
    exact ⟨_, _, _, rfl, rfl, u1.trans (MU.fld _ _ (Or.inl rfl)), gI_at _ _ _ _⟩
  · rw [cIt_yes hi, bX0_r, isIt_yes h0 hi, bnd2_some, i10, at_ok al3 hi, bind_some, show (5 : Int32) = nI 5 from rfl, nI_add, get_ok h1 (by omega), bind_some]
    exact ⟨_, _, _, rfl, rfl, u1, h0, (X.1.2.2.2.1 i hi).symm⟩
theorem ag_quest (X : CX σ rd B) (h : MR τ rd) (v w : Int32) : ∃ A b τ', pf_X10_quest 0 v w σ = some A ∧ pf_X11_quest 609 v w τ = some (b, τ') ∧ MU qA qB τ τ' ∧ Agr fQ A b (gI τ' 609 0) := by
  obtain ⟨h1, h0, u1⟩ := thr0 h
  have q0 := X.q0
  unfold pf_X10_quest pf_X11_quest
  rw [bnd_e]
  rcases v_cases v (n := Qn rd) (by omega) with hv | ⟨q, hq, rfl⟩
  · rw [qAt_no X hv, bX0_l, isQ_no h1 q0.1 q0.2 h0 hv, bnd2_some, i00]
    exact ⟨_, _, _, rfl, rfl, u1.trans (MU.fld _ _ (Or.inl rfl)), gI_at _ _ _ _⟩
  · have W := X.W hq
    have V := X.V hq
    have hr := W.2.2.2.1
    have hq6 : q < 6 := by omega
    rw [qAt_yes X hq, bX0_r, ckK_eq (kd7 q hq6), isQ_yes h1 q0.1 q0.2 h0 hq, bnd2_some, i10, isIn_ok, bind_some, in7]
    rcases v_cases w (n := 8) (by omega) with hw | ⟨j, hj, rfl⟩
    · rw [if_neg (show ¬ _ = (0 : Int32) from ne_out hw (j := 0) (by omega) (by omega)), if_neg (show ¬ _ = (1 : Int32) from ne_out hw (j := 1) (by omega) (by omega)), if_neg (show ¬ _ = (2 : Int32) from ne_out hw (j := 2) (by omega) (by omega)), if_neg (show ¬ _ = (3 : Int32) from ne_out hw (j := 3) (by omega) (by omega)), if_neg (show ¬ _ = (4 : Int32) from ne_out hw (j := 4) (by omega) (by omega)), if_neg (show ¬ _ = (5 : Int32) from ne_out hw (j := 5) (by omega) (by omega)), if_neg (show ¬ _ = (6 : Int32) from ne_out hw (j := 6) (by omega) (by omega)), if_neg (show ¬ _ = (7 : Int32) from ne_out hw (j := 7) (by omega) (by omega)), in_no hw, right_f h0 (by decide), bnd2_some, i00]
      exact ⟨_, _, _, rfl, rfl, u1.trans (MU.fld _ _ (Or.inl rfl)), gI_at _ _ _ _⟩
    · rw [in_yes hj (by omega), right_t h0, bnd2_some, i10]
      unfold pf_X11_toldOf
      rcases (by omega : j = 0 ∨ j = 1 ∨ j = 2 ∨ j = 3 ∨ j = 4 ∨ j = 5 ∨ j = 6 ∨ j = 7) with rfl | rfl | rfl | rfl | rfl | rfl | rfl | rfl
      · rw [if_pos (show nI 0 = (0 : Int32) from rfl), if_pos (show nI 0 = (0 : Int32) from rfl), stepsM h1 hq6 V, bind_some, bnd2_some]
        exact ⟨_, _, _, rfl, rfl, u1, h0, (hr.1.trans V.e0).symm⟩
      · rw [if_neg (show ¬ nI 1 = (0 : Int32) by decide), if_pos (show nI 1 = (1 : Int32) from rfl), if_neg (show ¬ nI 1 = (0 : Int32) by decide), if_pos (show nI 1 = (1 : Int32) from rfl), oQ1 h1 hq6, bind_some, bnd2_some]
        exact ⟨_, _, _, rfl, rfl, u1, h0, (hr.2.1).symm⟩
      · rw [if_neg (show ¬ nI 2 = (0 : Int32) by decide), if_neg (show ¬ nI 2 = (1 : Int32) by decide), if_pos (show nI 2 = (2 : Int32) from rfl), if_neg (show ¬ nI 2 = (0 : Int32) by decide), if_neg (show ¬ nI 2 = (1 : Int32) by decide), if_pos (show nI 2 = (2 : Int32) from rfl), doneM h1 hq6 V, bind_some, bnd2_some]
        exact ⟨_, _, _, rfl, rfl, u1, h0, (hr.2.2.1).symm⟩
      · rw [if_neg (show ¬ nI 3 = (0 : Int32) by decide), if_neg (show ¬ nI 3 = (1 : Int32) by decide), if_neg (show ¬ nI 3 = (2 : Int32) by decide), if_pos (show nI 3 = (3 : Int32) from rfl), if_neg (show ¬ nI 3 = (0 : Int32) by decide), if_neg (show ¬ nI 3 = (1 : Int32) by decide), if_neg (show ¬ nI 3 = (2 : Int32) by decide), if_pos (show nI 3 = (3 : Int32) from rfl), brokenM h1 hq6 V, bind_some, bnd2_some, brokenH (kd7 q hq6) V hr, bind_some]
        exact ⟨_, _, _, rfl, rfl, u1, h0, rfl⟩
      · rw [if_neg (show ¬ nI 4 = (0 : Int32) by decide), if_neg (show ¬ nI 4 = (1 : Int32) by decide), if_neg (show ¬ nI 4 = (2 : Int32) by decide), if_neg (show ¬ nI 4 = (3 : Int32) by decide), if_pos (show nI 4 = (4 : Int32) from rfl), if_neg (show ¬ nI 4 = (0 : Int32) by decide), if_neg (show ¬ nI 4 = (1 : Int32) by decide), if_neg (show ¬ nI 4 = (2 : Int32) by decide), if_neg (show ¬ nI 4 = (3 : Int32) by decide), if_pos (show nI 4 = (4 : Int32) from rfl), oQ2 h1 hq6, bind_some, bnd2_some]
        exact ⟨_, _, _, rfl, rfl, u1, h0, (hr.2.2.2.1).symm⟩
      · rw [if_neg (show ¬ nI 5 = (0 : Int32) by decide), if_neg (show ¬ nI 5 = (1 : Int32) by decide), if_neg (show ¬ nI 5 = (2 : Int32) by decide), if_neg (show ¬ nI 5 = (3 : Int32) by decide), if_neg (show ¬ nI 5 = (4 : Int32) by decide), if_pos (show nI 5 = (5 : Int32) from rfl), if_neg (show ¬ nI 5 = (0 : Int32) by decide), if_neg (show ¬ nI 5 = (1 : Int32) by decide), if_neg (show ¬ nI 5 = (2 : Int32) by decide), if_neg (show ¬ nI 5 = (3 : Int32) by decide), if_neg (show ¬ nI 5 = (4 : Int32) by decide), if_pos (show nI 5 = (5 : Int32) from rfl), oQ3 h1 hq6, bind_some, bnd2_some]
        exact ⟨_, _, _, rfl, rfl, u1, h0, (hr.2.2.2.2.1).symm⟩
      · rw [if_neg (show ¬ nI 6 = (0 : Int32) by decide), if_neg (show ¬ nI 6 = (1 : Int32) by decide), if_neg (show ¬ nI 6 = (2 : Int32) by decide), if_neg (show ¬ nI 6 = (3 : Int32) by decide), if_neg (show ¬ nI 6 = (4 : Int32) by decide), if_neg (show ¬ nI 6 = (5 : Int32) by decide), if_pos (show nI 6 = (6 : Int32) from rfl), if_neg (show ¬ nI 6 = (0 : Int32) by decide), if_neg (show ¬ nI 6 = (1 : Int32) by decide), if_neg (show ¬ nI 6 = (2 : Int32) by decide), if_neg (show ¬ nI 6 = (3 : Int32) by decide), if_neg (show ¬ nI 6 = (4 : Int32) by decide), if_neg (show ¬ nI 6 = (5 : Int32) by decide), if_pos (show nI 6 = (6 : Int32) from rfl), failsM h1 hq6 V, bind_some, bnd2_some, failsH (kd7 q hq6) V hr, bind_some]
        exact ⟨_, _, _, rfl, rfl, u1, h0, rfl⟩
      · obtain ⟨τ2, g1, g2⟩ := triedM X h1 hq
        rw [if_neg (show ¬ nI 7 = (0 : Int32) by decide), if_neg (show ¬ nI 7 = (1 : Int32) by decide), if_neg (show ¬ nI 7 = (2 : Int32) by decide), if_neg (show ¬ nI 7 = (3 : Int32) by decide), if_neg (show ¬ nI 7 = (4 : Int32) by decide), if_neg (show ¬ nI 7 = (5 : Int32) by decide), if_neg (show ¬ nI 7 = (6 : Int32) by decide), if_pos (show nI 7 = (7 : Int32) from rfl), if_neg (show ¬ nI 7 = (0 : Int32) by decide), if_neg (show ¬ nI 7 = (1 : Int32) by decide), if_neg (show ¬ nI 7 = (2 : Int32) by decide), if_neg (show ¬ nI 7 = (3 : Int32) by decide), if_neg (show ¬ nI 7 = (4 : Int32) by decide), if_neg (show ¬ nI 7 = (5 : Int32) by decide), if_neg (show ¬ nI 7 = (6 : Int32) by decide), g1, bnd2_some, bnd2_some, tryH W al3 X.st, bind_some]
        exact ⟨_, _, _, rfl, rfl, u1.trans g2.qq, g2.t0.trans h0, rfl⟩
theorem ag_step (X : CX σ rd B) (h : MR τ rd) (v w y : Int32) : ∃ A b τ', pf_X10_step 0 v w y σ = some A ∧ pf_X11_step 609 v w y τ = some (b, τ') ∧ MU qA qB τ τ' ∧ Agr fQ A b (gI τ' 609 0) := by
  obtain ⟨h1, h0, u1⟩ := thr0 h
  have q0 := X.q0
  unfold pf_X10_step pf_X11_step
  rw [bnd_e]
  rcases v_cases v (n := Qn rd) (by omega) with hv | ⟨q, hq, rfl⟩
  · rw [qWS_q X hv, bX0_l, isSt_q h1 q0.1 q0.2 h0 hv, bnd2_some, i00]
    exact ⟨_, _, _, rfl, rfl, u1.trans (MU.fld _ _ (Or.inl rfl)), gI_at _ _ _ _⟩
  · have W := X.W hq
    have V := X.V hq
    have hn := V.n
    have hr := W.2.2.2.1
    have hq6 : q < 6 := by omega
    rcases v_cases w (n := nS rd (53 + 186 * q)) (by omega) with hv | ⟨s, hs, rfl⟩
    · rw [qWS_no X hq hv, bX0_l, isSt_no h1 q0.1 q0.2 h0 hq V hv, bnd2_some, i00]
      exact ⟨_, _, _, rfl, rfl, u1.trans (MU.fld _ _ (Or.inl rfl)), gI_at _ _ _ _⟩
    · have rs := hr.b hs
      rw [qWS_yes X hq hs, bX0_r, ckK_eq (kd7 q hq6), isSt_yes h1 q0.1 q0.2 h0 hq V hs, bnd2_some, i10]
      rw [isIn_ok, bind_some, show decide (¬ y < 0 ∧ ¬ 5 < y) = decide (¬ y < 0 ∧ ¬ nI 6 ≤ y) from inK 5 y (by omega)]
      rcases v_cases y (n := 6) (by omega) with hw | ⟨j, hj, rfl⟩
      · rw [if_neg (show ¬ _ = (0 : Int32) from ne_out hw (j := 0) (by omega) (by omega)), if_neg (show ¬ _ = (1 : Int32) from ne_out hw (j := 1) (by omega) (by omega)), if_neg (show ¬ _ = (2 : Int32) from ne_out hw (j := 2) (by omega) (by omega)), if_neg (show ¬ _ = (3 : Int32) from ne_out hw (j := 3) (by omega) (by omega)), if_neg (show ¬ _ = (4 : Int32) from ne_out hw (j := 4) (by omega) (by omega)), if_neg (show ¬ _ = (5 : Int32) from ne_out hw (j := 5) (by omega) (by omega)), in_no hw, right_f h0 (by decide), bnd2_some, i00]
        exact ⟨_, _, _, rfl, rfl, u1.trans (MU.fld _ _ (Or.inl rfl)), gI_at _ _ _ _⟩
      · rw [in_yes hj (by omega), right_t h0, bnd2_some, i10]
        unfold pf_X11_toldOfStep
        rcases (by omega : j = 0 ∨ j = 1 ∨ j = 2 ∨ j = 3 ∨ j = 4 ∨ j = 5) with rfl | rfl | rfl | rfl | rfl | rfl
        · rw [if_pos (show nI 0 = (0 : Int32) from rfl), at_ok (af_X3_risk (kd7 q hq6)) (by omega), bind_some, show pf_X11_ofStep 609 (nI q) (nI s) (nI 0) _ = _ from ofS_ok h1 hq6 (by omega) (by omega), bind_some, bind_some]
          exact ⟨_, _, _, rfl, rfl, u1, h0, (rs.1).symm⟩
        · rw [if_neg (show ¬ nI 1 = (0 : Int32) by decide), if_pos (show nI 1 = (1 : Int32) from rfl), at_ok (af_X3_limit (kd7 q hq6)) (by omega), bind_some, show pf_X11_ofStep 609 (nI q) (nI s) (nI 1) _ = _ from ofS_ok h1 hq6 (by omega) (by omega), bind_some, bind_some]
          exact ⟨_, _, _, rfl, rfl, u1, h0, (rs.2.1).symm⟩
        · rw [if_neg (show ¬ nI 2 = (0 : Int32) by decide), if_neg (show ¬ nI 2 = (1 : Int32) by decide), if_pos (show nI 2 = (2 : Int32) from rfl), at_ok (af_X3_fails (kd7 q hq6)) (by omega), bind_some, show pf_X11_ofStep 609 (nI q) (nI s) (nI 2) _ = _ from ofS_ok h1 hq6 (by omega) (by omega), bind_some, bind_some]
          exact ⟨_, _, _, rfl, rfl, u1, h0, (rs.2.2.1).symm⟩
        · rw [if_neg (show ¬ nI 3 = (0 : Int32) by decide), if_neg (show ¬ nI 3 = (1 : Int32) by decide), if_neg (show ¬ nI 3 = (2 : Int32) by decide), if_pos (show nI 3 = (3 : Int32) from rfl), isDoneH V hr hs, bind_some, if_b, show pf_X11_ofStep 609 (nI q) (nI s) (nI 3) _ = _ from ofS_ok h1 hq6 (by omega) (by omega), bind_some, bind_some]
          cases hb : decide (rd (53 + 186 * q + 6 + 30 * s + 3) = 1) with
          | true => exact ⟨_, _, _, rfl, rfl, u1, h0, of_decide_eq_true hb⟩
          | false => exact ⟨_, _, _, rfl, rfl, u1, h0, (dn_step V hs).trans (by rw [hb]; rfl)⟩
        · rw [if_neg (show ¬ nI 4 = (0 : Int32) by decide), if_neg (show ¬ nI 4 = (1 : Int32) by decide), if_neg (show ¬ nI 4 = (2 : Int32) by decide), if_neg (show ¬ nI 4 = (3 : Int32) by decide), if_pos (show nI 4 = (4 : Int32) from rfl), at_ok (af_X3_ahead (kd7 q hq6)) (by omega), bind_some, show pf_X11_ofStep 609 (nI q) (nI s) (nI 4) _ = _ from ofS_ok h1 hq6 (by omega) (by omega), bind_some, bind_some]
          exact ⟨_, _, _, rfl, rfl, u1, h0, (rs.2.2.2.1).symm⟩
        · rw [if_neg (show ¬ nI 5 = (0 : Int32) by decide), if_neg (show ¬ nI 5 = (1 : Int32) by decide), if_neg (show ¬ nI 5 = (2 : Int32) by decide), if_neg (show ¬ nI 5 = (3 : Int32) by decide), if_neg (show ¬ nI 5 = (4 : Int32) by decide), if_pos (show nI 5 = (5 : Int32) from rfl), at_ok (af_X3_costly (kd7 q hq6)) (by omega), bind_some, show pf_X11_ofStep 609 (nI q) (nI s) (nI 5) _ = _ from ofS_ok h1 hq6 (by omega) (by omega), bind_some, bind_some]
          exact ⟨_, _, _, rfl, rfl, u1, h0, (rs.2.2.2.2.1).symm⟩
theorem ag_amount (X : CX σ rd B) (h : MR τ rd) (v w y z : Int32) : ∃ A b τ', pf_X10_amount 0 v w y z σ = some A ∧ pf_X11_amount 609 v w y z τ = some (b, τ') ∧ MU qA qB τ τ' ∧ Agr fQ A b (gI τ' 609 0) := by
  obtain ⟨h1, h0, u1⟩ := thr0 h
  have q0 := X.q0
  unfold pf_X10_amount pf_X11_amount
  rw [bnd_e]
  rcases v_cases v (n := Qn rd) (by omega) with hv | ⟨q, hq, rfl⟩
  · rw [qWS_q X hv, bX0_l, isSt_q h1 q0.1 q0.2 h0 hv, bnd2_some, i00]
    exact ⟨_, _, _, rfl, rfl, u1.trans (MU.fld _ _ (Or.inl rfl)), gI_at _ _ _ _⟩
  · have W := X.W hq
    have V := X.V hq
    have hn := V.n
    have hr := W.2.2.2.1
    have hq6 : q < 6 := by omega
    rcases v_cases w (n := nS rd (53 + 186 * q)) (by omega) with hv | ⟨s, hs, rfl⟩
    · rw [qWS_no X hq hv, bX0_l, isSt_no h1 q0.1 q0.2 h0 hq V hv, bnd2_some, i00]
      exact ⟨_, _, _, rfl, rfl, u1.trans (MU.fld _ _ (Or.inl rfl)), gI_at _ _ _ _⟩
    · have rs := hr.b hs
      rw [qWS_yes X hq hs, bX0_r, ckK_eq (kd7 q hq6), isSt_yes h1 q0.1 q0.2 h0 hq V hs, bnd2_some, i10]
      rcases v_cases y (n := 8) (by omega) with hw | ⟨i, hi, rfl⟩
      · rw [cIt_no hw, bX0_l, isIt_no h0 hw, bnd2_some, i00]
        exact ⟨_, _, _, rfl, rfl, u1.trans (MU.fld _ _ (Or.inl rfl)), gI_at _ _ _ _⟩
      · rw [cIt_yes hi, bX0_r, isIt_yes h0 hi, bnd2_some, i10, isIn_ok, bind_some, show decide (¬ z < 0 ∧ ¬ 2 < z) = decide (¬ z < 0 ∧ ¬ nI 3 ≤ z) from inK 2 z (by omega), bnd_e, show (8 : Int32) = nI 8 from rfl, pk_mul, nI_add]
        have ri := rs.2.2.2.2.2 i hi
        rcases v_cases z (n := 3) (by omega) with hw | ⟨j, hj, rfl⟩
        · rw [if_neg (show ¬ _ = (0 : Int32) from ne_out hw (j := 0) (by omega) (by omega)), if_neg (show ¬ _ = (1 : Int32) from ne_out hw (j := 1) (by omega) (by omega)), if_neg (show ¬ _ = (2 : Int32) from ne_out hw (j := 2) (by omega) (by omega)), in_no hw, right_f h0 (by decide), bnd2_some, i00]
          exact ⟨_, _, _, rfl, rfl, u1.trans (MU.fld _ _ (Or.inl rfl)), gI_at _ _ _ _⟩
        · rw [in_yes hj (by omega), right_t h0, bnd2_some, i10]
          unfold pf_X11_amount_b65
          rcases (by omega : j = 0 ∨ j = 1 ∨ j = 2) with rfl | rfl | rfl
          · rw [if_pos (show nI 0 = (0 : Int32) from rfl), at_ok (af_X3_uses (kd7 q hq6)) (by omega), bind_some, if_pos (show nI 0 = (0 : Int32) from rfl), oSU h1 hq6 (by omega) hi, bind_some]
            exact ⟨_, _, _, rfl, rfl, u1, h0, ri.1.symm⟩
          · rw [if_neg (show ¬ nI 1 = (0 : Int32) by decide), if_pos (show nI 1 = (1 : Int32) from rfl), at_ok (af_X3_needs (kd7 q hq6)) (by omega), bind_some, if_neg (show ¬ nI 1 = (0 : Int32) by decide), if_pos (show nI 1 = (1 : Int32) from rfl), oSN h1 hq6 (by omega) hi, bind_some]
            exact ⟨_, _, _, rfl, rfl, u1, h0, ri.2.1.symm⟩
          · rw [if_neg (show ¬ nI 2 = (0 : Int32) by decide), if_neg (show ¬ nI 2 = (1 : Int32) by decide), if_pos (show nI 2 = (2 : Int32) from rfl), at_ok (af_X3_gives (kd7 q hq6)) (by omega), bind_some, if_neg (show ¬ nI 2 = (0 : Int32) by decide), if_neg (show ¬ nI 2 = (1 : Int32) by decide), oSG h1 hq6 (by omega) hi, bind_some]
            exact ⟨_, _, _, rfl, rfl, u1, h0, ri.2.2.symm⟩
theorem ag_why (X : CX σ rd B) (h : MR τ rd) (v w : Int32) : ∃ A b τ', pf_X10_why 0 v w σ = some A ∧ pf_X11_why 609 v w τ = some (b, τ') ∧ MU qA qB τ τ' ∧ Agr fQ A b (gI τ' 609 0) := by
  obtain ⟨h1, h0, u1⟩ := thr0 h
  have q0 := X.q0
  unfold pf_X10_why pf_X11_why
  rw [bnd_e]
  rcases v_cases v (n := Qn rd) (by omega) with hv | ⟨q, hq, rfl⟩
  · rw [qWS_q X hv, bX0_l, isSt_q h1 q0.1 q0.2 h0 hv, bnd2_some, i00]
    exact ⟨_, _, _, rfl, rfl, u1.trans (MU.fld _ _ (Or.inl rfl)), gI_at _ _ _ _⟩
  · have W := X.W hq
    have V := X.V hq
    have hn := V.n
    have hr := W.2.2.2.1
    have hq6 : q < 6 := by omega
    rcases v_cases w (n := nS rd (53 + 186 * q)) (by omega) with hv | ⟨s, hs, rfl⟩
    · rw [qWS_no X hq hv, bX0_l, isSt_no h1 q0.1 q0.2 h0 hq V hv, bnd2_some, i00]
      exact ⟨_, _, _, rfl, rfl, u1.trans (MU.fld _ _ (Or.inl rfl)), gI_at _ _ _ _⟩
    · have rs := hr.b hs
      rw [qWS_yes X hq hs, bX0_r, ckK_eq (kd7 q hq6), isSt_yes h1 q0.1 q0.2 h0 hq V hs, bnd2_some, i10]
      have W0 := W.1
      have S0 := X.S
      rw [hindH W al3 X.st hs, bind_some, openM h1 hq6, bind_some, if_b2, oS3 h1 hq6 (by omega), bind_some, brokM h1 hq6 V hs, bind_some, if_b2, oS4 h1 hq6 (by omega), bind_some, doneM h1 hq6 V, bind_some, (V.cA hs).1, df_nI _ (V.cA hs).2 _ (dnM_64 V), if_0 (by have := df_64 (cA rd (53 + 186 * q) s) (dnM rd (53 + 186 * q)); omega)]
      obtain ⟨τ2, g1, g2, g3⟩ := asItIs_ok h1 (fun i hi => (X.stock hi).1)
      have u2 : MU qA qI _ τ2 := g2.mono (fun i hi => by unfold qA; omega) (fun k hk => hk.elim)
      have hI := hasItems_ok (m := 0) (h1.mu u2 qA610 qI3) hq6 V g3 (by omega) hs (fun i hi => by rw [bh_0]; have := X.S i hi; omega)
      rw [show bh rd (53 + 186 * q) (stk rd) 0 = stk rd from funext fun i => bh_0] at hI
      rw [g1, bind_some, show pf_X11_hasItems 609 (nI q) (nI s) 0 τ2 = _ from hI, bind_some, if_b2]
      unfold hcd hcode
      have hbit : (dnM rd (53 + 186 * q)).testBit s = decide (rd (53 + 186 * q + 6 + 30 * s + 3) = 1) := by
        unfold dnM
        rw [msk_bit, show decide (s < Nn (rd (53 + 186 * q))) = true from decide_eq_true hs, Bool.true_and]
      rw [hbit]
      by_cases c0 : rd (53 + 186 * q + 1) = 0
      · rw [if_pos c0, decide_eq_true c0, if_pos rfl]
        by_cases c1 : rd (53 + 186 * q + 6 + 30 * s + 3) = 1
        · rw [if_pos c1, decide_eq_true c1, if_pos rfl]
          exact ⟨_, _, _, rfl, rfl, u1, h0, rfl⟩
        · rw [if_neg c1, decide_eq_false c1, if_neg Bool.false_ne_true]
          cases cB rd (53 + 186 * q) s with
          | true => exact ⟨_, _, _, rfl, rfl, u1, h0, rfl⟩
          | false =>
            rw [if_neg Bool.false_ne_true, if_neg Bool.false_ne_true]
            by_cases c2 : df (cA rd (53 + 186 * q) s) (dnM rd (53 + 186 * q)) = 0
            · rw [if_pos c2, if_neg (fun q => q c2)]
              cases allI rd (53 + 186 * q) (stk rd) s with
              | true => exact ⟨_, _, _, rfl, rfl, u1.trans u2.qq, u2.t0.trans h0, rfl⟩
              | false => exact ⟨_, _, _, rfl, rfl, u1.trans u2.qq, u2.t0.trans h0, rfl⟩
            · rw [if_neg c2, if_pos c2]
              exact ⟨_, _, _, rfl, rfl, u1, h0, rfl⟩
      · rw [if_neg c0, decide_eq_false c0, if_neg Bool.false_ne_true]
        exact ⟨_, _, _, rfl, rfl, u1, h0, rfl⟩
theorem ag_holds (X : CX σ rd B) (h : MR τ rd) (v w : Int32) : ∃ A b τ', pf_X10_holds 0 v w σ = some A ∧ pf_X11_holds 609 v w τ = some (b, τ') ∧ MU qA qB τ τ' ∧ Agr fQ A b (gI τ' 609 0) := by
  obtain ⟨h1, h0, u1⟩ := thr0 h
  have q0 := X.q0
  unfold pf_X10_holds pf_X11_holds
  rw [bnd_e]
  rcases v_cases v (n := Qn rd) (by omega) with hv | ⟨q, hq, rfl⟩
  · rw [qAt_no X hv, bX0_l, isQ_no h1 q0.1 q0.2 h0 hv, bnd2_some, i00]
    exact ⟨_, _, _, rfl, rfl, u1.trans (MU.fld _ _ (Or.inl rfl)), gI_at _ _ _ _⟩
  · have W := X.W hq
    have V := X.V hq
    have hr := W.2.2.2.1
    have hq6 : q < 6 := by omega
    rw [qAt_yes X hq, bX0_r, ckK_eq (kd7 q hq6), isQ_yes h1 q0.1 q0.2 h0 hq, bnd2_some, i10, isIn_ok, bind_some, show decide (¬ w < 0 ∧ ¬ 63 < w) = decide (¬ w < 0 ∧ ¬ nI 64 ≤ w) from inK 63 w (by omega)]
    unfold pf_X10_holds_b16
    rcases v_cases w (n := 64) (by omega) with hw | ⟨u, hu, rfl⟩
    · rw [in_no hw, right_f h0 (by decide), bnd2_some, i00]
      by_cases c : w < 0
      · rw [if_pos c]
        exact ⟨_, _, _, rfl, rfl, u1.trans (MU.fld _ _ (Or.inl rfl)), gI_at _ _ _ _⟩
      · rw [if_neg c, if_neg (show ¬ w < (64 : Int32) from Int32.not_lt.mpr (hw.elim (fun q => absurd q c) id))]
        exact ⟨_, _, _, rfl, rfl, u1.trans (MU.fld _ _ (Or.inl rfl)), gI_at _ _ _ _⟩
    · rw [in_yes hu (by omega), right_t h0, bnd2_some, i10, if_neg (nI_pos (by omega)), show (64 : Int32) = nI 64 from rfl, if_pos (nI_lt hu (by omega)), goalH hr hu, bind_some]
      obtain ⟨τ2, g1, g2⟩ := holdsM h1 hq6 V hu
      have u2 : MU qA qI _ τ2 := g2.mono (fun i hi => by unfold hA at hi; unfold qA; omega) (fun k hk => hk.elim)
      rw [g1, bnd2_some, if_b2]
      cases gl rd (53 + 186 * q) u with
      | true => exact ⟨_, _, _, rfl, rfl, u1.trans u2.qq, u2.t0.trans h0, rfl⟩
      | false => exact ⟨_, _, _, rfl, rfl, u1.trans u2.qq, u2.t0.trans h0, rfl⟩
theorem ag_errorOffset (e : gI σ 0 2 = gI τ 609 18) : ∃ τ', pf_X10_errorOffset 0 σ = some (gI σ 0 2) ∧ pf_X11_errorOffset 609 τ = some (gI σ 0 2, τ') ∧ MU qA qB τ τ' := by
  refine ⟨sI τ 609 0 0, rfl, ?_, MU.fld _ _ (Or.inl rfl)⟩
  unfold pf_X11_errorOffset
  rw [bnd_e, gI_ns _ _ _ (by decide), e]
end
