/-! QUESTIONS that read fields -/
def fQ (k : Nat) : Int32 := if k = 2 then 1 else 2
/-- the slots that the reference's inner questions write -/
def qI : Nat → Prop := fun k => k = 9 ∨ k = 11
theorem qI3 : ¬ qI 3 := by unfold qI; omega
def fS (k : Nat) : Int32 := if k = 1 then 1 else 2
theorem ne_out {v : Int32} {n j : Nat} (h : v < 0 ∨ nI n ≤ v) (hj : j < n) (hn : n < 2 ^ 31) : ¬ v = nI j := fun e => by
  subst e
  exact h.elim (nI_pos (by omega)) (nI_ge hj hn)
theorem bc32 : ∀ m, m < 64 → ∀ σ : St, pf_J6_bitCount_0f7a4 (nI m) σ = some (nI (((List.range 6).map (fun k => if m.testBit k then 1 else 0)).sum)) := by
  intro m hm σ
  unfold pf_J6_bitCount_0f7a4
  simp only [bnd_e]
  have key : ∀ m, m < 64 → (let v0 := nI m; let v1 := v0 - ((iushr v0 1) &&& 1431655765); let v2 := (v1 &&& 858993459) + ((iushr v1 2) &&& 858993459); let v3 := (v2 + (iushr v2 4)) &&& 252645135; let v4 := v3 + (iushr v3 8); let v5 := v4 + (iushr v4 16); v5 &&& 63) = nI (((List.range 6).map (fun k => if m.testBit k then 1 else 0)).sum) := by decide +kernel
  exact congrArg some (key m hm)
def pop6 (m : Nat) : Nat := ((List.range 6).map (fun k => if m.testBit k then 1 else 0)).sum
theorem pop6_le : ∀ m, m < 64 → pop6 m ≤ 6 := by decide +kernel
section
variable {σ τ : St} {rd : Nat → Int32} {B : Nat} {a b : Nat}
theorem brokenH (ka : kd a = 3) (v : VQ rd b) (h : RQ σ a rd b) : pf_X3_brokenSteps a σ = some (nI (bkM rd b)) := by
  have hn := v.n
  unfold pf_X3_brokenSteps
  refine up_C (fun n i (m : Nat) => pf_X3_brokenSteps_L4 σ n a (nI m) (nI i)) (nS rd b) (fun i m => m = msk i (cB rd b)) (fun r => r = some (nI (bkM rd b))) ?_ ?_ FU 0 0 (Nat.zero_le _) rfl (lt_FU (by omega))
  · intro n m hm
    show pf_X3_brokenSteps_L4 σ (n + 1) a (nI m) (nI (nS rd b)) = _
    rw [pf_X3_brokenSteps_L4, h.1, v.e0, if_pos (nI_le (Nat.le_refl _) (by omega)), hm]; rfl
  · intro n i m hi hm
    right
    refine ⟨m ||| (if cB rd b i then 1 <<< i else 0), ?_, by rw [hm]; rfl⟩
    show pf_X3_brokenSteps_L4 σ (n + 1) a (nI m) (nI i) = pf_X3_brokenSteps_L4 σ n a (nI _) (nI (i + 1))
    rw [pf_X3_brokenSteps_L4, h.1, v.e0, if_neg (nI_ge hi (by omega)), brokH ka v h hi, bind_some, if_b]
    cases cB rd b i with
    | true => rw [if_pos rfl, if_pos rfl, shl1 i (by omega), or_nI, bnd_e, pf_X3_brokenSteps_b26, bnd_e, nI_1]
    | false => rw [if_neg Bool.false_ne_true, if_neg Bool.false_ne_true, pf_X3_brokenSteps_b26, bnd_e, nI_1, Nat.or_zero]
theorem failsH (ka : kd a = 3) (v : VQ rd b) (h : RQ σ a rd b) : pf_X3_sumOfFails a σ = some (nI (flS rd b (nS rd b))) := by
  have hn := v.n
  unfold pf_X3_sumOfFails
  refine up_C (fun n i (m : Nat) => pf_X3_sumOfFails_L4 σ n a (nI m) (nI i)) (nS rd b) (fun i m => m = flS rd b i) (fun r => r = some (nI (flS rd b (nS rd b)))) ?_ ?_ FU 0 0 (Nat.zero_le _) rfl (lt_FU (by omega))
  · intro n m hm
    show pf_X3_sumOfFails_L4 σ (n + 1) a (nI m) (nI (nS rd b)) = _
    rw [pf_X3_sumOfFails_L4, h.1, v.e0, if_pos (nI_le (Nat.le_refl _) (by omega)), hm]
  · intro n i m hi hm
    right
    refine ⟨m + Nn (rd (b + 6 + 30 * i + 2)), ?_, by rw [hm]; rfl⟩
    show pf_X3_sumOfFails_L4 σ (n + 1) a (nI m) (nI i) = pf_X3_sumOfFails_L4 σ n a (nI _) (nI (i + 1))
    rw [pf_X3_sumOfFails_L4, h.1, v.e0, if_neg (nI_ge hi (by omega)), at_ok (af_X3_fails ka) (by omega), bind_some, (h.b hi).2.2.1, (v.s hi).2.2.1.1.1, bnd_e, bnd_e, nI_1, nI_add, Nn_nI (by have := (v.s hi).2.2.1.1.2; omega)]
/-- the set of the steps that can be tried -/
def tyM (rd : Nat → Int32) (b : Nat) (S : Nat → Int) : Nat := msk (nS rd b) (fun s => decide (rd (b + 1) = 0) && cnR rd b S (dnM rd b) (dnM rd b) s)
def hcd (rd : Nat → Int32) (b : Nat) (S : Nat → Int) (s : Nat) : Nat := if rd (b + 1) = 0 then hcode rd b S (dnM rd b) s else 1
theorem hindH {S : Nat → Int} {sp s : Nat} (X : Wx σ a rd b S) (esp : alen sp = 8) (hst : ∀ i, i < 8 → gI σ sp i = iI (S i)) (hs : s < nS rd b) : pf_X3_hindrance a (nI s) sp σ = some (nI (hcd rd b S s)) := by
  obtain ⟨ka, ha, v, hq, hS⟩ := id X
  unfold pf_X3_hindrance hcd
  rw [hq.2.1, hq.2.2.1]
  by_cases h0 : rd (b + 1) = 0
  · rw [if_pos h0, if_pos h0]
    have := hindB (fr := 0) ka v hq (dnM_64 v) hs esp (by omega) (fun i hi => by rw [Nat.zero_add]; exact hst i hi) (fun i hi => by have := hS i hi; omega)
    rw [show (0 : Int32) = nI 0 from rfl, this]; rfl
  · rw [if_neg h0, if_neg h0]; rfl
theorem hcode_cn {S : Nat → Int} {s : Nat} (hs : s < nS rd b) : cnR rd b S (dnM rd b) (dnM rd b) s = decide (hcode rd b S (dnM rd b) s = 0) := by
  unfold cnR
  rw [decide_eq_true hs, Bool.true_and, df_self]
  have : bh rd b S 0 = S := funext fun i => bh_0
  rw [this]
theorem hcode_le {Z : Nat → Int} {u s : Nat} : hcode rd b Z u s ≤ 5 := by
  unfold hcode
  repeat' split
  all_goals omega
theorem tryH {S : Nat → Int} {sp : Nat} (X : Wx σ a rd b S) (esp : alen sp = 8) (hst : ∀ i, i < 8 → gI σ sp i = iI (S i)) : pf_X3_stepsToTry a sp σ = some (nI (tyM rd b S)) := by
  obtain ⟨ka, ha, v, hq, hS⟩ := id X
  have hn := v.n
  unfold pf_X3_stepsToTry
  refine up_C (fun n i (m : Nat) => pf_X3_stepsToTry_L4 σ n a sp (nI m) (nI i)) (nS rd b) (fun i m => m = msk i (fun s => decide (rd (b + 1) = 0) && cnR rd b S (dnM rd b) (dnM rd b) s)) (fun r => r = some (nI (tyM rd b S))) ?_ ?_ FU 0 0 (Nat.zero_le _) rfl (lt_FU (by omega))
  · intro n m hm
    show pf_X3_stepsToTry_L4 σ (n + 1) a sp (nI m) (nI (nS rd b)) = _
    rw [pf_X3_stepsToTry_L4, hq.1, v.e0, if_pos (nI_le (Nat.le_refl _) (by omega)), hm]; rfl
  · intro n i m hi hm
    right
    refine ⟨m ||| (if decide (rd (b + 1) = 0) && cnR rd b S (dnM rd b) (dnM rd b) i then 1 <<< i else 0), ?_, by rw [hm]; rfl⟩
    show pf_X3_stepsToTry_L4 σ (n + 1) a sp (nI m) (nI i) = pf_X3_stepsToTry_L4 σ n a sp (nI _) (nI (i + 1))
    rw [pf_X3_stepsToTry_L4, hq.1, v.e0, if_neg (nI_ge hi (by omega)), hindH X esp hst hi, bind_some, if_0 (by unfold hcd; have := hcode_le (rd := rd) (b := b) (Z := S) (u := dnM rd b) (s := i); split <;> omega), hcode_cn hi]
    unfold hcd
    by_cases h0 : rd (b + 1) = 0
    · rw [if_pos h0, decide_eq_true h0, Bool.true_and]
      by_cases hz : hcode rd b S (dnM rd b) i = 0
      · rw [if_pos hz, decide_eq_true hz, if_pos rfl, shl1 i (by omega), or_nI, bnd_e, pf_X3_stepsToTry_b27, bnd_e, nI_1]
      · rw [if_neg hz, decide_eq_false hz, if_neg Bool.false_ne_true, pf_X3_stepsToTry_b27, bnd_e, nI_1, Nat.or_zero]
    · rw [if_neg h0, decide_eq_false h0, if_neg (by decide), pf_X3_stepsToTry_b27, bnd_e, nI_1]
      simp
end
