/-! LOAD: the ledger that is being read, on both sides -/
theorem kd66 : ∀ q, q < 6 → kd (66 + 9 * q) = 3 := by decide +kernel
theorem VG.cg2 {rd rd' : Nat → Int32} {b n : Nat} (h : VG rd b) (hn : Nn (rd (b + 5)) ≤ n) (h0 : rd' b = rd b) (h4 : rd' (b + 4) = rd (b + 4)) (h5 : rd' (b + 5) = rd (b + 5)) (hg : ∀ k, 2769 ≤ k → k < 2769 + 2 * n → rd' k = rd k) : VG rd' b ∧ ∀ u, gl rd' b u = gl rd b u := by
  obtain ⟨g1, g2, g3, g4, g5, g6⟩ := h
  have ev : ∀ u st, evG rd' u (Nn (rd (b + 5)) - Nn (rd (b + 4))) (Nn (rd (b + 4))) st = evG rd u (Nn (rd (b + 5)) - Nn (rd (b + 4))) (Nn (rd (b + 4))) st := fun u st => evG_congr _ _ _ fun j x1 x2 => hg j (by omega) (by omega)
  have hgl : ∀ u, gl rd' b u = gl rd b u := fun u => by
    unfold gl
    rw [h4, h5, ev]
  refine ⟨?_, hgl⟩
  unfold VG
  rw [h4, h5]
  refine ⟨g1, g2, g3, fun u hu => ?_, fun k h1 h2 => ?_, by rw [hgl]; exact g6.1, fun u hu => by rw [h0, hgl, hgl]; exact g6.2 u hu⟩
  · obtain ⟨v, e⟩ := g4 u hu
    exact ⟨v, by rw [ev]; exact e⟩
  · unfold VGc
    rw [hg (2769 + 2 * k) (by omega) (by omega), hg (2769 + 2 * k + 1) (by omega) (by omega)]
    exact g5 k h1 h2
/-- the worth's code of a text that is being read -/
def RW1 (σ : St) (p : Nat) (rd : Nat → Int32) : Prop := if Nn (rd 3) = 0 then gI σ p 7 = 1 ∧ gI σ (p + 4) 0 = -5 else gI σ p 7 = rd 3 ∧ ∀ k, k < Nn (rd 3) → gI σ (p + 4) k = encW (rd (1169 + 2 * k)) (rd (1169 + 2 * k + 1))
theorem RW1.cg {σ : St} {p : Nat} {rd rd' : Nat → Int32} (h : RW1 σ p rd) (h3 : rd' 3 = rd 3) (hb : Nn (rd 3) ≤ 800) (hw : ∀ k, 1169 ≤ k → k < 2769 → rd' k = rd k) : RW1 σ p rd' := by
  unfold RW1 at *
  rw [h3]
  split at h
  · rename_i c; rw [if_pos c]; exact h
  · rename_i c; rw [if_neg c]
    exact ⟨h.1, fun k hk => by rw [hw _ (by omega) (by omega), hw _ (by omega) (by omega)]; exact h.2 k hk⟩
/-- a quest that is read -/
def LQ (σ : St) (rd : Nat → Int32) (q : Nat) : Prop := RQ σ (66 + 9 * q) rd (53 + 186 * q) ∧ VQ rd (53 + 186 * q) ∧ VO rd (53 + 186 * q) ∧ Nn (rd (53 + 186 * q + 5)) ≤ Nn (rd 4)
theorem LQ.cg {σ σ' : St} {rd rd' : Nat → Int32} {q : Nat} (h : LQ σ rd q) (hu : ∀ i, 66 + 9 * q ≤ i → i < 66 + 9 * q + 9 → gI σ' i = gI σ i ∧ gL σ' i = gL σ i) (he : ∀ k, 53 + 186 * q ≤ k → k < 53 + 186 * q + 186 → rd' k = rd k) (hg : ∀ k, 2769 ≤ k → k < 2769 + 2 * Nn (rd 4) → rd' k = rd k) (h4 : Nn (rd 4) ≤ Nn (rd' 4)) : LQ σ' rd' q := by
  obtain ⟨r, v, o, l⟩ := h
  have hn := v.1.1.2
  obtain ⟨vg, hgl⟩ := v.2.2.2.2.1.cg2 l (he _ (by omega) (by omega)) (he _ (by omega) (by omega)) (he _ (by omega) (by omega)) hg
  refine ⟨(r.rd he hn (fun u _ => hgl u)).cong hu, ?_, ?_, by rw [he _ (by omega) (by omega)]; omega⟩
  · obtain ⟨h1, h2, h3, h4, h5, h6⟩ := v
    unfold VQ
    rw [he (53 + 186 * q) (by omega) (by omega), he (53 + 186 * q + 1) (by omega) (by omega), he (53 + 186 * q + 2) (by omega) (by omega), he (53 + 186 * q + 3) (by omega) (by omega)]
    exact ⟨h1, h2, h3, h4, vg, fun s hs => (h6 s hs).cong fun k a1 a2 => he k (by omega) (by omega)⟩
  · unfold VO
    rw [he (53 + 186 * q + 1) (by omega) (by omega), dnM_cong v.n.1 he, hgl]
    exact o
def LR (σ : St) (rd : Nat → Int32) (q : Nat) : Prop := q ≤ 6 ∧ gI σ 61 5 = nI q ∧ rd 0 = nI q ∧ gI σ 61 2 = 0 ∧ rd 2 = 0 ∧ gI σ 61 3 = rd 1 ∧ (∀ i, i < 8 → gI σ 62 i = rd (5 + i) ∧ Is (rd (5 + i)) 999) ∧ Is (rd 4) 800 ∧ (∀ q', q' < q → LQ σ rd q') ∧ RW1 σ 61 rd ∧ Is (rd 3) 800 ∧ VWo rd ∧ (gI σ 594 5 = 0 → rd 3 = 0)
theorem LR.cg {σ σ' : St} {rd rd' : Nat → Int32} {q : Nat} (h : LR σ rd q) (hu : ∀ i, 61 ≤ i → (i < 66 + 9 * q ∨ i = 594) → gI σ' i = gI σ i ∧ gL σ' i = gL σ i) (he : ∀ j, j ≠ 4 → (j < 53 + 186 * q ∨ (1169 ≤ j ∧ j < 2769 + 2 * Nn (rd 4))) → rd' j = rd j) (h4 : Is (rd' 4) 800) (h44 : Nn (rd 4) ≤ Nn (rd' 4)) : LR σ' rd' q := by
  obtain ⟨a1, a2, a3, a4, a5, a6, a7, a8, a9, a10, a11, a12, a13⟩ := h
  have e61 : gI σ' 61 = gI σ 61 := (hu 61 (by omega) (by omega)).1
  have e62 : gI σ' 62 = gI σ 62 := (hu 62 (by omega) (by omega)).1
  have e65 : gI σ' 65 = gI σ 65 := (hu 65 (by omega) (by omega)).1
  refine ⟨a1, by rw [e61]; exact a2, by rw [he 0 (by omega) (by omega)]; exact a3, by rw [e61]; exact a4, by rw [he 2 (by omega) (by omega)]; exact a5, by rw [e61, he 1 (by omega) (by omega)]; exact a6, fun i hi => by rw [e62, he (5 + i) (by omega) (by omega)]; exact a7 i hi, h4, fun q' hq => (a9 q' hq).cg (fun i x1 x2 => hu i (by omega) (by omega)) (fun k x1 x2 => he k (by omega) (by omega)) (fun k x1 x2 => he k (by omega) (by omega)) h44, ?_, by rw [he 3 (by omega) (by omega)]; exact a11, a12.cong (he 3 (by omega) (by omega)) a11.2 (fun k x1 x2 => he k (by omega) (by omega)), by rw [(hu 594 (by omega) (Or.inr rfl)).1, he 3 (by omega) (by omega)]; exact a13⟩
  have : RW1 σ' 61 rd := by
    unfold RW1 at *
    rw [e61, e65]; exact a10
  exact this.cg (he 3 (by omega) (by omega)) a11.2 (fun k x1 x2 => he k (by omega) (by omega))
/-- what a step holds while its quest is read -/
def PS (σ : St) (rd : Nat → Int32) (a c s : Nat) : Prop := gI σ (a + 3) s = 0 ∧ rd (c + 2) = 0 ∧ rd (c + 3) = 0 ∧ gI σ (a + 4) s = rd (c + 4) ∧ Is (rd (c + 4)) 63 ∧ Nn (rd (c + 4)) < 2 ^ s ∧ gI σ (a + 5) s = rd (c + 5) ∧ Is (rd (c + 5)) 1 ∧ ∀ t, t < 3 → ∀ i, i < 8 → gI σ (a + 6 + t) (s * 8 + i) = rd (c + 6 + 8 * t + i) ∧ Is (rd (c + 6 + 8 * t + i)) 99
def PF (σ : St) (rd : Nat → Int32) (a c s : Nat) : Prop := gI σ (a + 1) s = rd c ∧ gI σ (a + 2) s = rd (c + 1) ∧ Is (rd c) 100 ∧ Is (rd (c + 1)) 9 ∧ 1 ≤ Nn (rd (c + 1))
theorem PS.cg {σ σ' : St} {rd rd' : Nat → Int32} {a c s : Nat} (h : PS σ rd a c s) (hu : ∀ i k, a + 3 ≤ i → i < a + 9 → (i < a + 6 → k = s) → (a + 6 ≤ i → s * 8 ≤ k ∧ k < s * 8 + 8) → gI σ' i k = gI σ i k) (he : ∀ k, c + 2 ≤ k → k < c + 30 → rd' k = rd k) : PS σ' rd' a c s := by
  obtain ⟨h1, h2, h3, h4, h5, h6, h7, h8, h9⟩ := h
  unfold PS
  rw [hu (a + 3) s (by omega) (by omega) (fun _ => rfl) (by omega), hu (a + 4) s (by omega) (by omega) (fun _ => rfl) (by omega), hu (a + 5) s (by omega) (by omega) (fun _ => rfl) (by omega), he (c + 2) (by omega) (by omega), he (c + 3) (by omega) (by omega), he (c + 4) (by omega) (by omega), he (c + 5) (by omega) (by omega)]
  refine ⟨h1, h2, h3, h4, h5, h6, h7, h8, fun t ht i hi => ?_⟩
  rw [hu (a + 6 + t) (s * 8 + i) (by omega) (by omega) (by omega) (by omega), he (c + 6 + 8 * t + i) (by omega) (by omega)]
  exact h9 t ht i hi
theorem PF.cg {σ σ' : St} {rd rd' : Nat → Int32} {a c s : Nat} (h : PF σ rd a c s) (h1 : gI σ' (a + 1) s = gI σ (a + 1) s) (h2 : gI σ' (a + 2) s = gI σ (a + 2) s) (e0 : rd' c = rd c) (e1 : rd' (c + 1) = rd (c + 1)) : PF σ' rd' a c s := by
  unfold PF
  rw [h1, h2, e0, e1]
  exact h
def PQ (σ : St) (rd : Nat → Int32) (a b P : Nat) : Prop := (∀ s, s < 6 → PS σ rd a (b + 6 + 30 * s) s) ∧ ∀ s, s < P → PF σ rd a (b + 6 + 30 * s) s
/-- the head of a quest that is being read -/
def HQ (σ : St) (rd : Nat → Int32) (a b S : Nat) : Prop := gI σ a 0 = nI S ∧ gI σ a 1 = 0 ∧ gI σ a 2 = 0 ∧ rd (b + 1) = 0 ∧ gI σ a 3 = rd (b + 2) ∧ Is (rd (b + 2)) 7 ∧ gI σ a 4 = rd (b + 3) ∧ Is (rd (b + 3)) 99
def bR : Nat → Prop := fun k => 16 ≤ k ∧ k ≤ 25
section
variable {T : Nat → Int32} {L N : Nat}
theorem CP.w {σ : St} {k : Nat} (h : CP σ T L N k) {p : Nat} (j : Nat) (v : Int32) (hp : p < 595 ∨ 598 < p) : CP (sI σ p j v) T L N k := h.un (M := fun i => i = p) (Un.sI _ _ rfl) ⟨by omega, by omega, by omega, by omega⟩
end
