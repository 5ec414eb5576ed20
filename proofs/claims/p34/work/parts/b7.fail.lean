/-! A FAILURE: the steps that can never be done any more -/
def dcn (rd : Nat → Int32) (b k m : Nat) : Bool := !decide (rd (b + 6 + 30 * k + 3) = 1) && (cB rd b k || decide (cA rd b k &&& m ≠ 0))
def ddM (rd : Nat → Int32) (b : Nat) : Nat → Nat
  | 0 => 0
  | k + 1 => ddM rd b k ||| (if dcn rd b k (ddM rd b k) then 1 <<< k else 0)
theorem dd_lt (rd : Nat → Int32) (b : Nat) : ∀ k, ddM rd b k < 2 ^ k
  | 0 => by simp [ddM]
  | k + 1 => by
    rw [ddM]
    apply Nat.or_lt_two_pow
    · exact Nat.lt_trans (dd_lt rd b k) (Nat.pow_lt_pow_right (by omega) (by omega))
    · split
      · rw [Nat.one_shiftLeft]; exact Nat.pow_lt_pow_right (by omega) (by omega)
      · exact Nat.two_pow_pos _
theorem dd_bit (rd : Nat → Int32) (b j : Nat) : ∀ k, (ddM rd b k).testBit j = (decide (j < k) && dcn rd b j (ddM rd b j))
  | 0 => by simp [ddM]
  | k + 1 => by
    rw [ddM, Nat.testBit_or, dd_bit rd b j k]
    by_cases h : j = k
    · subst h
      cases dcn rd b j (ddM rd b j) <;> simp
    · have e : (if dcn rd b k (ddM rd b k) = true then 1 <<< k else 0 : Nat).testBit j = false := by
        split
        · rw [Nat.one_shiftLeft, Nat.testBit_two_pow]
          simp [Ne.symm h]
        · simp
      rw [e]
      have e2 : decide (j < k + 1) = decide (j < k) := by
        by_cases h3 : j < k
        · simp [h3]; omega
        · have : ¬ j < k + 1 := by omega
          simp [h3, this]
      rw [e2]; simp
theorem and_low {a m m' j : Nat} (ha : a < 2 ^ j) (h : ∀ i, i < j → m.testBit i = m'.testBit i) : a &&& m = a &&& m' := by
  apply Nat.eq_of_testBit_eq
  intro i
  rw [Nat.testBit_and, Nat.testBit_and]
  by_cases c : i < j
  · rw [h i c]
  · rw [Nat.testBit_lt_two_pow (Nat.lt_of_lt_of_le ha (Nat.pow_le_pow_right (by omega) (by omega)))]; rfl
theorem dd_64 {rd : Nat → Int32} {b k : Nat} (h : k ≤ 6) : ddM rd b k < 64 := Nat.lt_of_lt_of_le (dd_lt rd b k) (by
  have := Nat.pow_le_pow_right (n := 2) (by omega) h
  omega)
theorem nt6 : ∀ m, m < 64 → (63 : Int32) &&& (nI m ^^^ (-1)) = nI (63 - m) := by decide +kernel
theorem nt6n : ∀ n, n ≤ 6 → ∀ m, m < 64 → (ishl 1 (nI n) - 1) &&& (nI m ^^^ (-1)) = nI ((63 - m) % 2 ^ n) := by decide +kernel
/-- whether the goal can still hold -/
def stl (rd : Nat → Int32) (b : Nat) : Bool := gl rd b (63 - ddM rd b (nS rd b))
theorem dn_bit {rd : Nat → Int32} {b i : Nat} (h : i < nS rd b) : (dnM rd b).testBit i = decide (rd (b + 6 + 30 * i + 3) = 1) := by
  have h' : i < Nn (rd b) := h
  unfold dnM
  rw [msk_bit, decide_eq_true h', Bool.true_and]
theorem stlC {σ : St} {a : Nat} {rd : Nat → Int32} {b : Nat} (ka : kd a = 3) (v : VQ rd b) (h : RQ σ a rd b) : pf_X3_canStillHold a σ = some (if stl rd b then 1 else 0) := by
  have hn := v.n
  have hd := dnM_64 v
  unfold pf_X3_canStillHold
  refine up_C (fun n i (m : Nat) => pf_X3_canStillHold_L4 σ (pf_X3_canStillHold_b53 σ) n a (nI m) (nI i)) (nS rd b) (fun i m => m = ddM rd b i) (fun r => r = some (if stl rd b then 1 else 0)) ?_ ?_ FU 0 0 (Nat.zero_le _) rfl (lt_FU (by omega))
  · intro n m hm
    subst hm
    have h64 := dd_64 (rd := rd) (b := b) hn.1
    show pf_X3_canStillHold_L4 σ (pf_X3_canStillHold_b53 σ) (n + 1) a (nI (ddM rd b (nS rd b))) (nI (nS rd b)) = _
    rw [pf_X3_canStillHold_L4, h.1, v.e0, if_pos (nI_le (Nat.le_refl _) (by omega)), pf_X3_canStillHold_b53, nt6 _ h64, goalH h (by omega), bind_some, ck_b]
    rfl
  · intro n i m hi hm
    subst hm
    have h64 := dd_64 (rd := rd) (b := b) (show i ≤ 6 by omega)
    right
    refine ⟨ddM rd b (i + 1), ?_, rfl⟩
    obtain ⟨_, _, _, _, ⟨a5, _⟩, _⟩ := v.s hi
    have eA : gI σ (a + 4) i = nI (cA rd b i) := ((h.b hi).2.2.2.1).trans a5.1
    have hA := a5.2
    show pf_X3_canStillHold_L4 σ (pf_X3_canStillHold_b53 σ) (n + 1) a (nI (ddM rd b i)) (nI i) = pf_X3_canStillHold_L4 σ (pf_X3_canStillHold_b53 σ) n a (nI (ddM rd b (i + 1))) (nI (i + 1))
    rw [pf_X3_canStillHold_L4, h.1, v.e0, if_neg (nI_ge hi (by omega)), pf_X3_isDone, h.2.2.1, if_u (by omega) (by omega), dn_bit hi, brokH ka v h hi, at_ok (af_X3_ahead ka) (by omega), eA, ddM]
    unfold dcn pf_X3_canStillHold_b47 pf_X3_canStillHold_b41 pf_X3_canStillHold_b47
    simp only [bnd_e, nI_1, bind_some, shl1 i (show i < 6 by omega), or_nI, and_nI]
    rw [if_0 (n := cA rd b i &&& ddM rd b i) (Nat.lt_of_le_of_lt Nat.and_le_left (Nat.lt_of_le_of_lt hA (by omega)))]
    cases decide (rd (b + 6 + 30 * i + 3) = 1) with
    | true => simp
    | false =>
      cases cB rd b i with
      | true => simp
      | false =>
        by_cases e : cA rd b i &&& ddM rd b i = 0
        · simp [e]
        · simp [e]
/-- the reference's pass -/
def Jm (rd : Nat → Int32) (b m i : Nat) : Prop := m < 64 ∧ ∀ j, j < 6 → (j < i → m.testBit j = (decide (j < nS rd b) && dcn rd b j (ddM rd b j))) ∧ (i ≤ j → (m.testBit j = true → j < nS rd b ∧ dcn rd b j (ddM rd b j) = true) ∧ (j < nS rd b ∧ decide (rd (b + 6 + 30 * j + 3) = 1) = false ∧ cB rd b j = true → m.testBit j = true))
theorem ext6 {m m' : Nat} (h : m < 64) (h' : m' < 64) (e : ∀ j, j < 6 → m.testBit j = m'.testBit j) : m = m' := by
  apply Nat.eq_of_testBit_eq
  intro j
  by_cases c : j < 6
  · exact e j c
  · rw [lt64_bit h (by omega), lt64_bit h' (by omega)]
theorem Jm.end {rd : Nat → Int32} {b m : Nat} (hn : nS rd b ≤ 6) (h : Jm rd b m (nS rd b)) : m = ddM rd b (nS rd b) := by
  refine ext6 h.1 (dd_64 hn) fun j hj => ?_
  rw [dd_bit]
  by_cases c : j < nS rd b
  · exact (h.2 j hj).1 c
  · have := (h.2 j hj).2 (by omega)
    rw [decide_eq_false c, Bool.false_and]
    cases e : m.testBit j with
    | false => rfl
    | true => exact absurd (this.1 e).1 c
theorem Jm.low {rd : Nat → Int32} {b m i : Nat} (hi : i < nS rd b) (hn : nS rd b ≤ 6) (h : Jm rd b m i) : ∀ j, j < i → m.testBit j = (ddM rd b i).testBit j := fun j hj => by
  rw [dd_bit, (h.2 j (by omega)).1 hj, decide_eq_true hj, decide_eq_true (show j < nS rd b by omega)]
theorem Jm.st {rd : Nat → Int32} {b m i : Nat} (hi : i < nS rd b) (hn : nS rd b ≤ 6) (h : Jm rd b m i) (e : m.testBit i = dcn rd b i (ddM rd b i)) : Jm rd b m (i + 1) := ⟨h.1, fun j hj => ⟨fun h1 => by
  by_cases c : j = i
  · subst c; rw [e, decide_eq_true hi]; rfl
  · exact (h.2 j hj).1 (by omega), fun h1 => (h.2 j hj).2 (by omega)⟩⟩
theorem Jm.add {rd : Nat → Int32} {b m i : Nat} (hi : i < nS rd b) (hn : nS rd b ≤ 6) (h : Jm rd b m i) (e : dcn rd b i (ddM rd b i) = true) : Jm rd b (nx m i) (i + 1) := ⟨nx_64 m h.1 i (by omega), fun j hj => by
  rw [nx_bit]
  by_cases c : j = i
  · subst c
    exact ⟨fun _ => by rw [e, decide_eq_true hi]; simp, fun h1 => by omega⟩
  · rw [decide_eq_false c, Bool.or_false]
    exact ⟨fun h1 => (h.2 j hj).1 (by omega), fun h1 => (h.2 j hj).2 (by omega)⟩⟩
theorem Jm.z {rd : Nat → Int32} {b : Nat} (hn : nS rd b ≤ 6) : Jm rd b (df (bkM rd b) (dnM rd b)) 0 := ⟨df_64 _ _, fun j hj => ⟨fun h1 => absurd h1 (Nat.not_lt_zero _), fun _ => by
  rw [df_bit, decide_eq_true hj, Bool.true_and]
  unfold bkM dnM
  rw [msk_bit, msk_bit]
  by_cases c : j < nS rd b
  · have c' : j < Nn (rd b) := c
    rw [decide_eq_true c, decide_eq_true c']
    unfold dcn
    refine ⟨fun e => ⟨c, ?_⟩, fun e => ?_⟩
    · revert e
      cases cB rd b j <;> cases decide (rd (b + 6 + 30 * j + 3) = 1) <;> simp
    · rw [e.2.1, e.2.2]; rfl
  · rw [decide_eq_false c]
    refine ⟨fun e => ?_, fun e => absurd e.1 c⟩
    simp at e⟩⟩
section
variable {τ : St} {rd : Nat → Int32} {q : Nat}
theorem stl_eq (v : VQ rd (53 + 186 * q)) : gl rd (53 + 186 * q) ((63 - ddM rd (53 + 186 * q) (nS rd (53 + 186 * q))) % 2 ^ nS rd (53 + 186 * q)) = stl rd (53 + 186 * q) := v.2.2.2.2.1.2.2.2.2.2.2 _ (by have := dd_64 (rd := rd) (b := 53 + 186 * q) v.n.1; omega)
end
/-! the rows -/
def flA (rd : Nat → Int32) (q s : Nat) : Nat → Int32 := up rd (cP q s + 2) (rd (cP q s + 2) + 1)
def flB (rd : Nat → Int32) (q s : Nat) : Nat → Int32 := if rd (cP q s + 5) = 1 then tkR (flA rd q s) (cP q s) else flA rd q s
def fal (rd : Nat → Int32) (q s : Nat) : Nat → Int32 := if stl (flB rd q s) (53 + 186 * q) then flB rd q s else up (flB rd q s) (53 + 186 * q + 1) (nI 2)
/-- a step that can be tried now -/
def Tr (rd : Nat → Int32) (q s : Nat) : Prop := rd (53 + 186 * q + 1) = 0 ∧ s < nS rd (53 + 186 * q) ∧ hasU rd (53 + 186 * q) s ∧ cB rd (53 + 186 * q) s = false ∧ (dnM rd (53 + 186 * q)).testBit s = false
theorem flA_V {B q s : Nat} {rd : Nat → Int32} (v : VR B rd) (hq : q < Nn (rd 0)) (t : Tr rd q s) : VR B (flA rd q s) ∧ VQ (flA rd q s) (53 + 186 * q) ∧ dnM (flA rd q s) (53 + 186 * q) = dnM rd (53 + 186 * q) ∧ (∀ u, gl (flA rd q s) (53 + 186 * q) u = gl rd (53 + 186 * q) u) ∧ hasU (flA rd q s) (53 + 186 * q) s ∧ flA rd q s (cP q s + 2) = nI (Nn (rd (cP q s + 2)) + 1) ∧ Nn (rd (cP q s + 2)) + 1 ≤ 9 := by
  obtain ⟨t1, t2, t3, t4, t5⟩ := t
  have n0 := v.n0
  obtain ⟨V, O⟩ := v.2.2.2.2.2.2.1 q hq
  have hn := V.n
  have hc : cP q s = 53 + 186 * q + 6 + 30 * s := rfl
  have vs := V.s t2
  obtain ⟨a1, ⟨a2, a2'⟩, ⟨a3, a3'⟩, a4, a5, a6, a7⟩ := id vs
  have hlt : Nn (rd (cP q s + 2)) + 1 ≤ Nn (rd (cP q s + 1)) := by
    unfold cB at t4
    have := of_decide_eq_false t4
    rw [hc]
    omega
  have h9 : Nn (rd (cP q s + 1)) ≤ 9 := a2.2
  have ev : rd (cP q s + 2) + 1 = nI (Nn (rd (cP q s + 2)) + 1) := by
    rw [show rd (cP q s + 2) = nI (Nn (rd (cP q s + 2))) from a3.1, nI_1, Nn_nI (by omega)]
  have hv : VS (up rd (53 + 186 * q + 6 + 30 * s + 2) (rd (cP q s + 2) + 1)) (53 + 186 * q + 6 + 30 * s) s := by
    have ne : ∀ j, j ≠ 2 → j < 30 → up rd (53 + 186 * q + 6 + 30 * s + 2) (rd (cP q s + 2) + 1) (53 + 186 * q + 6 + 30 * s + j) = rd (53 + 186 * q + 6 + 30 * s + j) := fun j hj hj2 => up_ne _ _ (by omega)
    unfold VS
    rw [show up rd (53 + 186 * q + 6 + 30 * s + 2) (rd (cP q s + 2) + 1) (53 + 186 * q + 6 + 30 * s) = _ from ne 0 (by omega) (by omega), ne 1 (by omega) (by omega), up_at, ne 3 (by omega) (by omega), ne 4 (by omega) (by omega), ne 5 (by omega) (by omega), ev]
    refine ⟨a1, ⟨a2, a2'⟩, ⟨Is.of (by omega) (by omega), ?_⟩, a4, a5, a6, fun i hi => by rw [up_ne _ _ (by omega)]; exact a7 i hi⟩
    rw [Nn_nI (by omega)]; exact hlt
  obtain ⟨v1, v2⟩ := V.upS (x := 2) (by omega) t2 (by omega) hv
  have dd : dnM (flA rd q s) (53 + 186 * q) = dnM rd (53 + 186 * q) := dnM.upS (by omega) (by omega)
  refine ⟨v.qu (by omega) hq (fun k b1 b2 => up_ne _ _ (by omega)) ⟨v1, fun e => ?_⟩, v1, dd, v2, fun i hi => ?_, ?_, by omega⟩
  · rw [show gl (flA rd q s) (53 + 186 * q) (dnM (flA rd q s) (53 + 186 * q)) = gl rd (53 + 186 * q) (dnM rd (53 + 186 * q)) by rw [dd]; exact v2 _]
    exact O t1
  · have := t3 i hi
    unfold cU at *
    unfold flA
    rw [up_ne _ _ (by omega), up_ne _ _ (by omega)]
    exact this
  · unfold flA; rw [up_at]; exact ev
theorem flB_V {B q s : Nat} {rd : Nat → Int32} (v : VR B rd) (hB : B ≤ 50000000) (hq : q < Nn (rd 0)) (t : Tr rd q s) : VR B (flB rd q s) ∧ VQ (flB rd q s) (53 + 186 * q) ∧ dnM (flB rd q s) (53 + 186 * q) = dnM rd (53 + 186 * q) ∧ (∀ k, 13 ≤ k → flB rd q s k = flA rd q s k) ∧ (∀ k, k < 5 → flB rd q s k = rd k) := by
  have n0 := v.n0
  have hn := ((v.2.2.2.2.2.2.1 q hq).1).n
  have hc : cP q s = 53 + 186 * q + 6 + 30 * s := rfl
  obtain ⟨w1, w2, w3, w4, w5, w6, w7⟩ := flA_V v hq t
  have e0 : flA rd q s 0 = rd 0 := up_ne _ _ (by omega)
  have es : flA rd q s (53 + 186 * q) = rd (53 + 186 * q) := up_ne _ _ (by omega)
  unfold flB
  by_cases c : rd (cP q s + 5) = 1
  · rw [if_pos c]
    have eg : ∀ k, 13 ≤ k → tkR (flA rd q s) (cP q s) k = flA rd q s k := fun k hk => tkR_out _ _ (by omega)
    have hss : s < nS (flA rd q s) (53 + 186 * q) := by
      show s < Nn (flA rd q s (53 + 186 * q))
      rw [es]; exact t.2.1
    refine ⟨w1.st (fun k h1 h2 => tkR_out _ _ h1) (tkR_s w1 hB (by rw [e0]; exact hq) hss w5), w2.cong (fun k a1 a2 => eg k (by omega)) (fun k a1 a2 => eg k (by omega)), ?_, eg, fun k hk => by rw [tkR_out _ _ (by omega)]; exact up_ne _ _ (by omega)⟩
    rw [← w3]
    exact dnM_cong w2.n.1 (fun k a1 a2 => eg k (by omega))
  · rw [if_neg c]
    exact ⟨w1, w2, w3, fun _ _ => rfl, fun k hk => up_ne _ _ (by omega)⟩
theorem fal_V {B q s : Nat} {rd : Nat → Int32} (v : VR B rd) (hB : B ≤ 50000000) (hq : q < Nn (rd 0)) (t : Tr rd q s) : VR B (fal rd q s) := by
  have n0 := v.n0
  obtain ⟨w1, w2, w3, w4, w5⟩ := flB_V v hB hq t
  unfold fal
  split
  · exact w1
  · obtain ⟨v1, v2, v3⟩ := w2.upT (v := 2) (by omega) (by omega)
    exact w1.qu (Nat.le_refl _) (by rw [w5 0 (by omega)]; exact hq) (fun k a1 a2 => up_ne _ _ (by omega)) ⟨v1, fun e => by
      rw [up_at] at e; exact absurd e (by decide)⟩
/-- the class fails -/
theorem failC {σ : St} {B q s : Nat} {rd : Nat → Int32} (v : VR B rd) (hB : B ≤ 50000000) (hq : q < Nn (rd 0)) (t : Tr rd q s) (h : RLd σ 2 rd) : ∃ σ', pf_X2_fail 2 (7 + 9 * q) (nI s) σ = some σ' ∧ Un (fun i => i = 2 + 1 ∨ inR (2 + 5 + 9 * q) 9 i) σ σ' ∧ RLd σ' 2 (fal rd q s) := by
  have n0 := v.n0
  have V := (v.2.2.2.2.2.2.1 q hq).1
  have hn := V.n
  have ka := kd7 q (by omega)
  have hc : cP q s = 53 + 186 * q + 6 + 30 * s := rfl
  have t2 := t.2.1
  obtain ⟨w1, w2, w3, w4, w5, w6, w7⟩ := flA_V v hq t
  obtain ⟨x1, x2, x3, x4, x5⟩ := flB_V v hB hq t
  have ea : 2 + 5 + 9 * q = 7 + 9 * q := by omega
  have R : RQ σ (7 + 9 * q) rd (53 + 186 * q) := by rw [← ea]; exact h.2.2.2.2.2.1 q hq
  have hst := h.2.2.2.1
  have RA : RQ (sI σ (7 + 9 * q + 3) s (rd (cP q s + 2) + 1)) (7 + 9 * q) (flA rd q s) (53 + 186 * q) := R.upF V (by omega) t2 w4
  have uA : Un (fun i => i = 2 + 1 ∨ inR (2 + 5 + 9 * q) 9 i) σ (sI σ (7 + 9 * q + 3) s (rd (cP q s + 2) + 1)) := Un.sI _ _ (Or.inr ⟨by omega, by omega⟩)
  unfold pf_X2_fail
  rw [at_ok (af_X3_fails ka) (by omega), bind_some, (R.b t2).2.2.1, put_ok (af_X3_fails ka) (by omega), bind_some, show rd (53 + 186 * q + 6 + 30 * s + 2) = rd (cP q s + 2) from rfl]
  have stA : ∀ i, i < 8 → gI (sI σ (7 + 9 * q + 3) s (rd (cP q s + 2) + 1)) (2 + 1) i = flA rd q s (5 + i) := fun i hi => by
    rw [gI_nf _ _ _ (by omega), hst i hi]
    exact (up_ne _ _ (by omega)).symm
  have LA : RLd (sI σ (7 + 9 * q + 3) s (rd (cP q s + 2) + 1)) 2 (flA rd q s) := RLd.sv v.x (by omega) h uA (fun k h1 h2 => up_ne _ _ (by omega)) stA (by rw [ea]; exact RA)
  generalize sI σ (7 + 9 * q + 3) s (rd (cP q s + 2) + 1) = σA at *
  have hss : s < nS (flA rd q s) (53 + 186 * q) := by
    show s < Nn (flA rd q s (53 + 186 * q))
    rw [show flA rd q s (53 + 186 * q) = rd (53 + 186 * q) from up_ne _ _ (by omega)]; exact t2
  have e5 : gI σA (7 + 9 * q + 5) s = rd (cP q s + 5) := by
    rw [(RA.b hss).2.2.2.2.1]
    exact up_ne _ _ (by omega)
  rw [at_ok (af_X3_costly ka) (by omega), bind_some, e5]
  have e00 : flB rd q s 0 = rd 0 := x5 0 (by omega)
  have fin : ∀ σB, Un (fun i => i = 2 + 1 ∨ inR (2 + 5 + 9 * q) 9 i) σ σB → RLd σB 2 (flB rd q s) → ∃ σ', pf_X2_fail_b40 (7 + 9 * q) σB = some σ' ∧ Un (fun i => i = 2 + 1 ∨ inR (2 + 5 + 9 * q) 9 i) σ σ' ∧ RLd σ' 2 (fal rd q s) := fun σB uB LB => by
    have RB : RQ σB (7 + 9 * q) (flB rd q s) (53 + 186 * q) := by rw [← ea]; exact LB.2.2.2.2.2.1 q (by rw [e00]; exact hq)
    unfold pf_X2_fail_b40 fal
    rw [stlC ka x2 RB, bind_some, if_b]
    cases stl (flB rd q s) (53 + 186 * q) with
    | true => exact ⟨σB, rfl, uB, LB⟩
    | false =>
      refine ⟨_, rfl, uB.trans (Un.sI _ _ (Or.inr ⟨by omega, by omega⟩)), ?_⟩
      rw [if_neg Bool.false_ne_true]
      exact RLd.q7 x1 (by rw [e00]; exact hq) LB (Un.sI _ _ ⟨by omega, by omega⟩) (fun k a1 a2 => up_ne _ _ (by omega)) (RB.upT (v := 2) x2 (by omega) (by omega))
  by_cases c : rd (cP q s + 5) = 1
  · obtain ⟨σB, g1, g2, g3⟩ := chC (σ := σA) (p := 2) (-1) kd2 (af_X3_uses ka) (show s < 6 by omega) (by omega)
    rw [if_pos c, g1, bind_some]
    have eB : flB rd q s = tkR (flA rd q s) (cP q s) := if_pos c
    refine fin σB (uA.trans (g2.mono fun i hi => Or.inl hi)) ?_
    rw [eB]
    refine LA.st w1 g2 (fun k h1 h2 => tkR_out _ _ h1) fun i hi => ?_
    rw [g3 i hi, stA i hi, mul_m1, ((RA.b hss).2.2.2.2.2 i hi).1]
    unfold tkR
    rw [pkI_in _ _ hi]; rfl
  · rw [if_neg c]
    refine fin σA uA ?_
    rw [show flB rd q s = flA rd q s from if_neg c]
    exact LA
