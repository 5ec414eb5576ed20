/-! THE WHOLE STATE: class and reference stand for the same -/
def BB (c : Nat) : Nat := 1000000 + 1000 * c
theorem VR.mono {B B' : Nat} {rd : Nat → Int32} (h : VR B rd) (hb : B ≤ B') : VR B' rd := ⟨h.1, h.2.1, h.2.2.1, h.2.2.2.1, fun i hi => (h.2.2.2.2.1 i hi).mono hb, h.2.2.2.2.2⟩
theorem VR.n0 {B : Nat} {rd : Nat → Int32} (h : VR B rd) : Nn (rd 0) ≤ 6 := h.1.2
def hpl (nxt j : Nat) : Nat := 122 + 59 * ((nxt + 7 - j) % 8)
def hro (r j : Nat) : Nat := (r + 8 - j) % 9
theorem BB_le {c : Nat} (h : c ≤ 512) : BB c ≤ 1512000 := by unfold BB; omega
theorem RQ.cong {σ σ' : St} {a : Nat} {rd : Nat → Int32} {b : Nat} (h : RQ σ a rd b) (hu : ∀ i, a ≤ i → i < a + 9 → gI σ' i = gI σ i ∧ gL σ' i = gL σ i) : RQ σ' a rd b := by
  obtain ⟨q0, q1, q2, q3, q4, q5, q6⟩ := h
  have e : ∀ j, j < 9 → gI σ' (a + j) = gI σ (a + j) := fun j hj => (hu _ (by omega) (by omega)).1
  have e0 : gI σ' a = gI σ a := e 0 (by omega)
  have e5 : gL σ' a = gL σ a := (hu _ (by omega) (by omega)).2
  refine ⟨by rw [e0]; exact q0, by rw [e0]; exact q1, by rw [e0]; exact q2, by rw [e0]; exact q3, by rw [e0]; exact q4, fun u hu => by rw [e5]; exact q5 u hu, fun s hs => ?_⟩
  unfold RS
  rw [e 1 (by omega), e 2 (by omega), e 3 (by omega), e 4 (by omega), e 5 (by omega), e 6 (by omega), e 7 (by omega), e 8 (by omega)]
  exact q6 s hs
theorem RLd.cong {σ σ' : St} {p : Nat} {rd : Nat → Int32} (hn : Nn (rd 0) ≤ 6) (h : RLd σ p rd) (hu : ∀ i, p ≤ i → i < p + 59 → gI σ' i = gI σ i ∧ gL σ' i = gL σ i) : RLd σ' p rd := by
  obtain ⟨q0, q1, q2, q3, q4, q5, q6⟩ := h
  have e : ∀ j, j < 59 → gI σ' (p + j) = gI σ (p + j) := fun j hj => (hu _ (by omega) (by omega)).1
  have e0 : gI σ' p = gI σ p := e 0 (by omega)
  refine ⟨by rw [e0]; exact q0, by rw [e0]; exact q1, by rw [e0]; exact q2, fun i hi => by rw [e 1 (by omega)]; exact q3 i hi, fun i hi => by rw [e 2 (by omega)]; exact q4 i hi, fun q hq => (q5 q hq).cong (fun i h1 h2 => hu i (by omega) (by omega)), ?_⟩
  unfold RWo at q6 ⊢
  rw [e0, e 4 (by omega)]
  exact q6
theorem hpl_b (nxt j : Nat) : 122 ≤ hpl nxt j ∧ hpl nxt j + 59 ≤ 594 := by unfold hpl; omega
theorem hro_b (r j : Nat) : hro r j < 9 := by unfold hro; omega
/-! a change is remembered -/
theorem al121 : alen 121 = 8 := by decide +kernel
theorem kd2 : kd 2 = 2 := by decide +kernel
theorem kd_h : ∀ n, n < 8 → kd (122 + 59 * n) = 2 := by decide +kernel
theorem VR.vn {B : Nat} {rd : Nat → Int32} (h : VR B rd) : ∀ k, k < Nn (rd 0) → Nn (rd (53 + 186 * k)) ≤ 6 := fun k hk => (h.2.2.2.2.2.2.1 k hk).1.1.1.2
def rmM (nxt : Nat) : Nat → Prop := fun i => i = 120 ∨ (122 + 59 * nxt ≤ i ∧ i < 122 + 59 * nxt + 59)
theorem remC {σ : St} {rd : Nat → Int32} {B nxt cnt : Nat} (h : RLd σ 2 rd) (v : VR B rd) (hn : nxt < 8) (hc : cnt ≤ 8) (h1 : gI σ 120 1 = nI nxt) (h2 : gI σ 120 2 = nI cnt) : ∃ σ', pf_X1_remember 120 2 σ = some σ' ∧ Un (rmM nxt) σ σ' ∧ RLd σ' (122 + 59 * nxt) rd ∧ gI σ' 120 1 = nI ((nxt + 1) % 8) ∧ gI σ' 120 2 = nI (min (cnt + 1) 8) := by
  obtain ⟨σ1, g1, g2, g3⟩ := lcp (kd_h nxt hn) kd2 (by omega) v.1 v.2.1 v.2.2.1 v.vn h
  have e1 : gI σ1 120 = gI σ 120 := g2.I (fun q => by have := q.1; omega)
  unfold pf_X1_remember
  rw [h1, if_neg (nI_pos (by omega)), show (8 : Int32) = nI 8 from rfl, if_neg (nI_ge hn (by omega)), ckA al121 hn, nI_clamp (by omega), show 120 + 1 + 1 + 59 * nxt = 122 + 59 * nxt by omega, g1, bind_some]
  unfold pf_X1_remember_b29
  rw [e1, h1, show (1 : Int32) = nI 1 from rfl, nI_add, show irem (nI (nxt + 1)) 8 = nI ((nxt + 1) % 8) from pk_rem (d := 8) (by omega) (by omega) (by omega), bnd_e, gI_ns _ _ _ (by decide), e1, h2, nI_add, show (8 : Int32) = nI 8 from rfl, min7 _ _ (by omega) (by omega), bind_some, bnd_e]
  have u2 : Un (fun i => i = 120) σ1 (sI (sI σ1 120 1 (nI ((nxt + 1) % 8))) 120 2 (nI (min (cnt + 1) 8))) := Un.trans (Un.sI _ _ rfl) (Un.sI _ _ rfl)
  refine ⟨_, rfl, Un.trans (g2.mono fun i hi => Or.inr ⟨hi.1, hi.2⟩) (u2.mono fun i hi => Or.inl hi), g3.un v.n0 u2 (fun i a1 a2 a3 => by omega), ?_, ?_⟩
  · rw [gI_ns _ _ _ (by decide), gI_at]
  · exact gI_at _ _ _ _
/-- the history behind a change -/
theorem hist_step {r nxt cnt j : Nat} (hr : r < 9) (hn : nxt < 8) (hc : cnt ≤ 8) (hj : j + 1 < min (cnt + 1) 8) : hpl ((nxt + 1) % 8) (j + 1) = hpl nxt j ∧ hro ((r + 1) % 9) (j + 1) = hro r j ∧ hro r j ≠ (r + 1) % 9 ∧ (nxt + 7 - j) % 8 ≠ nxt ∧ j < cnt := by
  unfold hpl hro
  omega
theorem hist_0 {r nxt : Nat} (hr : r < 9) (hn : nxt < 8) : hpl ((nxt + 1) % 8) 0 = 122 + 59 * nxt ∧ hro ((r + 1) % 9) 0 = r ∧ r ≠ (r + 1) % 9 := by
  unfold hpl hro
  omega
/-- a changing call, in all -/
def clM (nxt : Nat) : Nat → Prop := fun i => (2 ≤ i ∧ i < 61) ∨ rmM nxt i ∨ cQ i
