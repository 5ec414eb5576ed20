/-! QUESTION checksum -/
def qv (rd : Nat → Int32) (q w : Nat) : Int32 :=
  if w = 0 then nI (nS rd (53 + 186 * q)) else if w = 1 then rd (53 + 186 * q + 1) else if w = 2 then nI (dnM rd (53 + 186 * q)) else if w = 3 then nI (bkM rd (53 + 186 * q)) else if w = 4 then rd (53 + 186 * q + 2) else if w = 5 then rd (53 + 186 * q + 3) else if w = 6 then nI (flS rd (53 + 186 * q) (nS rd (53 + 186 * q))) else nI (tyM rd (53 + 186 * q) (stk rd))
def csF (v : Nat → Int32) : Nat → Int64 → Int64
  | 0, a => a
  | k + 1, a => 31 * csF v k a + (v k).toInt64
def csS (rd : Nat → Int32) (b : Nat) : Nat → Int64 → Int64
  | 0, a => a
  | s + 1, a => csF (fun w => rd (b + 6 + 30 * s + w)) 6 (csS rd b s a)
def csQ (rd : Nat → Int32) (q : Nat) (a : Int64) : Int64 := csS rd (53 + 186 * q) (nS rd (53 + 186 * q)) (31 * csF (qv rd q) 8 a + (iI (wth rd q (stk rd))).toInt64)
def csA (rd : Nat → Int32) : Nat → Int64
  | 0 => csF (fun i => rd (5 + i)) 8 (csF (stV rd) 9 0)
  | q + 1 => csQ rd q (csA rd q)
section
variable {σ τ : St} {rd : Nat → Int32} {B : Nat}
theorem questV (X : CX σ rd B) {q w : Nat} (hq : q < Qn rd) (hw : w < 8) : pf_X10_quest 0 (nI q) (nI w) σ = some (.inr (qv rd q w)) := by
  have W := X.W hq
  have V := X.V hq
  have hr := W.2.2.2.1
  have hq6 : q < 6 := by have := X.q0; omega
  unfold pf_X10_quest qv
  rw [qAt_yes X hq, bX0_r, ckK_eq (kd7 q hq6)]
  rcases (by omega : w = 0 ∨ w = 1 ∨ w = 2 ∨ w = 3 ∨ w = 4 ∨ w = 5 ∨ w = 6 ∨ w = 7) with rfl | rfl | rfl | rfl | rfl | rfl | rfl | rfl
  · rw [if_pos (show nI 0 = (0 : Int32) from rfl), hr.1, V.e0]; rfl
  · rw [if_neg (show ¬ nI 1 = (0 : Int32) by decide), if_pos (show nI 1 = (1 : Int32) from rfl), hr.2.1]; rfl
  · rw [if_neg (show ¬ nI 2 = (0 : Int32) by decide), if_neg (show ¬ nI 2 = (1 : Int32) by decide), if_pos (show nI 2 = (2 : Int32) from rfl), hr.2.2.1]; rfl
  · rw [if_neg (show ¬ nI 3 = (0 : Int32) by decide), if_neg (show ¬ nI 3 = (1 : Int32) by decide), if_neg (show ¬ nI 3 = (2 : Int32) by decide), if_pos (show nI 3 = (3 : Int32) from rfl), brokenH (kd7 q hq6) V hr, bind_some]; rfl
  · rw [if_neg (show ¬ nI 4 = (0 : Int32) by decide), if_neg (show ¬ nI 4 = (1 : Int32) by decide), if_neg (show ¬ nI 4 = (2 : Int32) by decide), if_neg (show ¬ nI 4 = (3 : Int32) by decide), if_pos (show nI 4 = (4 : Int32) from rfl), hr.2.2.2.1]; rfl
  · rw [if_neg (show ¬ nI 5 = (0 : Int32) by decide), if_neg (show ¬ nI 5 = (1 : Int32) by decide), if_neg (show ¬ nI 5 = (2 : Int32) by decide), if_neg (show ¬ nI 5 = (3 : Int32) by decide), if_neg (show ¬ nI 5 = (4 : Int32) by decide), if_pos (show nI 5 = (5 : Int32) from rfl), hr.2.2.2.2.1]; rfl
  · rw [if_neg (show ¬ nI 6 = (0 : Int32) by decide), if_neg (show ¬ nI 6 = (1 : Int32) by decide), if_neg (show ¬ nI 6 = (2 : Int32) by decide), if_neg (show ¬ nI 6 = (3 : Int32) by decide), if_neg (show ¬ nI 6 = (4 : Int32) by decide), if_neg (show ¬ nI 6 = (5 : Int32) by decide), if_pos (show nI 6 = (6 : Int32) from rfl), failsH (kd7 q hq6) V hr, bind_some]; rfl
  · rw [if_neg (show ¬ nI 7 = (0 : Int32) by decide), if_neg (show ¬ nI 7 = (1 : Int32) by decide), if_neg (show ¬ nI 7 = (2 : Int32) by decide), if_neg (show ¬ nI 7 = (3 : Int32) by decide), if_neg (show ¬ nI 7 = (4 : Int32) by decide), if_neg (show ¬ nI 7 = (5 : Int32) by decide), if_neg (show ¬ nI 7 = (6 : Int32) by decide), if_pos (show nI 7 = (7 : Int32) from rfl), tryH W al3 X.st, bind_some]; rfl
theorem stepV (X : CX σ rd B) {q s w : Nat} (hq : q < Qn rd) (hs : s < nS rd (53 + 186 * q)) (hw : w < 6) : pf_X10_step 0 (nI q) (nI s) (nI w) σ = some (.inr (rd (53 + 186 * q + 6 + 30 * s + w))) := by
  have W := X.W hq
  have V := X.V hq
  have hn := V.n
  have hr := W.2.2.2.1
  have rs := hr.b hs
  have hq6 : q < 6 := by have := X.q0; omega
  unfold pf_X10_step
  rw [qWS_yes X hq hs, bX0_r, ckK_eq (kd7 q hq6)]
  rcases (by omega : w = 0 ∨ w = 1 ∨ w = 2 ∨ w = 3 ∨ w = 4 ∨ w = 5) with rfl | rfl | rfl | rfl | rfl | rfl
  · rw [if_pos (show nI 0 = (0 : Int32) from rfl), at_ok (af_X3_risk (kd7 q hq6)) (by omega), bind_some, rs.1]; rfl
  · rw [if_neg (show ¬ nI 1 = (0 : Int32) by decide), if_pos (show nI 1 = (1 : Int32) from rfl), at_ok (af_X3_limit (kd7 q hq6)) (by omega), bind_some, rs.2.1]
  · rw [if_neg (show ¬ nI 2 = (0 : Int32) by decide), if_neg (show ¬ nI 2 = (1 : Int32) by decide), if_pos (show nI 2 = (2 : Int32) from rfl), at_ok (af_X3_fails (kd7 q hq6)) (by omega), bind_some, rs.2.2.1]
  · rw [if_neg (show ¬ nI 3 = (0 : Int32) by decide), if_neg (show ¬ nI 3 = (1 : Int32) by decide), if_neg (show ¬ nI 3 = (2 : Int32) by decide), if_pos (show nI 3 = (3 : Int32) from rfl), isDoneH V hr hs, bind_some, if_b]
    have e := dn_step V hs
    rw [e]
    cases decide (rd (53 + 186 * q + 6 + 30 * s + 3) = 1) <;> rfl
  · rw [if_neg (show ¬ nI 4 = (0 : Int32) by decide), if_neg (show ¬ nI 4 = (1 : Int32) by decide), if_neg (show ¬ nI 4 = (2 : Int32) by decide), if_neg (show ¬ nI 4 = (3 : Int32) by decide), if_pos (show nI 4 = (4 : Int32) from rfl), at_ok (af_X3_ahead (kd7 q hq6)) (by omega), bind_some, rs.2.2.2.1]
  · rw [if_neg (show ¬ nI 5 = (0 : Int32) by decide), if_neg (show ¬ nI 5 = (1 : Int32) by decide), if_neg (show ¬ nI 5 = (2 : Int32) by decide), if_neg (show ¬ nI 5 = (3 : Int32) by decide), if_neg (show ¬ nI 5 = (4 : Int32) by decide), if_pos (show nI 5 = (5 : Int32) from rfl), at_ok (af_X3_costly (kd7 q hq6)) (by omega), bind_some, rs.2.2.2.2.1]
/-! the reference's -/
end
