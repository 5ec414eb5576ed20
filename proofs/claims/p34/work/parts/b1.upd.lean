/-! CHANGES of rows and ledgers -/
def up (rd : Nat → Int32) (k : Nat) (v : Int32) : Nat → Int32 := fun j => if j = k then v else rd j
theorem up_at (rd : Nat → Int32) (k : Nat) (v : Int32) : up rd k v k = v := if_pos rfl
theorem up_ne (rd : Nat → Int32) {k j : Nat} (v : Int32) (h : j ≠ k) : up rd k v j = rd j := if_neg h
theorem evG_cong2 {rd rd' : Nat → Int32} (u n k : Nat) (st : List Bool) (h : k + n ≤ 800) (hg : ∀ j, 2769 ≤ j → j < 4370 → rd' j = rd j) : evG rd' u n k st = evG rd u n k st := evG_congr n k st fun j h1 h2 => hg j (by omega) (by omega)
theorem gl_cong {rd rd' : Nat → Int32} {b : Nat} (h4 : rd' (b + 4) = rd (b + 4)) (h5 : rd' (b + 5) = rd (b + 5)) (hl : Nn (rd (b + 4)) ≤ Nn (rd (b + 5))) (h8 : Nn (rd (b + 5)) ≤ 800) (hg : ∀ k, 2769 ≤ k → k < 4370 → rd' k = rd k) (u : Nat) : gl rd' b u = gl rd b u := by
  unfold gl
  rw [h4, h5, evG_cong2 u _ _ _ (by omega) hg]
theorem VG.cong {rd rd' : Nat → Int32} {b : Nat} (h : VG rd b) (h0 : rd' b = rd b) (h4 : rd' (b + 4) = rd (b + 4)) (h5 : rd' (b + 5) = rd (b + 5)) (hg : ∀ k, 2769 ≤ k → k < 4370 → rd' k = rd k) : VG rd' b ∧ ∀ u, gl rd' b u = gl rd b u := by
  obtain ⟨g1, g2, g3, g4, g5, g6⟩ := h
  have hgl := fun u => gl_cong h4 h5 g3 g2.2 hg u
  refine ⟨?_, hgl⟩
  unfold VG
  rw [h4, h5]
  refine ⟨g1, g2, g3, fun u hu => ?_, fun k h1 h2 => ?_, by rw [hgl]; exact g6.1, fun u hu => by rw [h0, hgl, hgl]; exact g6.2 u hu⟩
  · obtain ⟨v, e⟩ := g4 u hu
    exact ⟨v, by rw [evG_cong2 u _ _ _ (by have := g2.2; omega) hg]; exact e⟩
  · have := g2.2
    unfold VGc
    rw [hg (2769 + 2 * k) (by omega) (by omega), hg (2769 + 2 * k + 1) (by omega) (by omega)]
    exact g5 k h1 h2
theorem VS.cong {rd rd' : Nat → Int32} {c s : Nat} (h : VS rd c s) (he : ∀ k, c ≤ k → k < c + 30 → rd' k = rd k) : VS rd' c s := by
  unfold VS at *
  rw [he c (by omega) (by omega), he (c + 1) (by omega) (by omega), he (c + 2) (by omega) (by omega), he (c + 3) (by omega) (by omega), he (c + 4) (by omega) (by omega), he (c + 5) (by omega) (by omega)]
  obtain ⟨h1, h2, h3, h4, h5, h6, h7⟩ := h
  exact ⟨h1, h2, h3, h4, h5, h6, fun i hi => by rw [he _ (by omega) (by omega)]; exact h7 i hi⟩
theorem VQ.cong {rd rd' : Nat → Int32} {b : Nat} (h : VQ rd b) (he : ∀ k, b ≤ k → k < b + 186 → rd' k = rd k) (hg : ∀ k, 2769 ≤ k → k < 4370 → rd' k = rd k) : VQ rd' b := by
  have hn := h.n
  obtain ⟨h1, h2, h3, h4, h5, h6⟩ := h
  unfold VQ
  rw [he b (by omega) (by omega), he (b + 1) (by omega) (by omega), he (b + 2) (by omega) (by omega), he (b + 3) (by omega) (by omega)]
  refine ⟨h1, h2, h3, h4, (h5.cong (he b (by omega) (by omega)) (he _ (by omega) (by omega)) (he _ (by omega) (by omega)) hg).1, fun s hs => (h6 s hs).cong fun k a1 a2 => he k (by omega) (by have : s < nS rd b := hs; omega)⟩
theorem dnM_cong {rd rd' : Nat → Int32} {b : Nat} (hn : nS rd b ≤ 6) (he : ∀ k, b ≤ k → k < b + 186 → rd' k = rd k) : dnM rd' b = dnM rd b := by
  unfold dnM
  rw [he b (by omega) (by omega)]
  exact msk_congr _ fun s hs => by
    have : s < nS rd b := hs
    rw [he _ (by omega) (by omega)]
theorem VO.cong {rd rd' : Nat → Int32} {b : Nat} (v : VQ rd b) (h : VO rd b) (he : ∀ k, b ≤ k → k < b + 186 → rd' k = rd k) (hg : ∀ k, 2769 ≤ k → k < 4370 → rd' k = rd k) : VO rd' b := by
  unfold VO
  rw [he (b + 1) (by omega) (by omega), dnM_cong v.n.1 he, (v.2.2.2.2.1.cong (he b (by omega) (by omega)) (he _ (by omega) (by omega)) (he _ (by omega) (by omega)) hg).2]
  exact h
theorem VWo.cong {rd rd' : Nat → Int32} (h : VWo rd) (h3 : rd' 3 = rd 3) (hb : Nn (rd 3) ≤ 800) (hw : ∀ k, 1169 ≤ k → k < 2769 → rd' k = rd k) : VWo rd' := by
  have key : ∀ n k hh, k + n ≤ 800 → hW rd' n k hh = hW rd n k hh := by
    intro n
    induction n with
    | zero => intro k hh _; rfl
    | succ n ih =>
      intro k hh hk
      rw [hW, hW, hw (1169 + 2 * k) (by omega) (by omega), ih (k + 1) _ (by omega), ih (k + 1) _ (by omega)]
  obtain ⟨h1, h2⟩ := h
  unfold VWo
  rw [h3, key _ _ _ (by omega)]
  refine ⟨fun k hk => ?_, h2⟩
  unfold VWc
  rw [hw (1169 + 2 * k) (by omega) (by omega), hw (1169 + 2 * k + 1) (by omega) (by omega)]
  exact h1 k hk
theorem VR.to {B B' : Nat} {rd rd' : Nat → Int32} (h : VR B rd) (h0 : rd' 0 = rd 0) (h2 : Is (rd' 2) 40) (h3 : rd' 3 = rd 3) (h4 : rd' 4 = rd 4) (hs : ∀ i, i < 8 → Is (rd' (5 + i)) B') (hq : ∀ k, k < Nn (rd' 2) → Is (rd' (13 + k)) 99) (hQ : ∀ q, q < Nn (rd 0) → VQ rd' (53 + 186 * q) ∧ VO rd' (53 + 186 * q)) (hw : ∀ k, 1169 ≤ k → k < 2769 → rd' k = rd k) : VR B' rd' := by
  unfold VR
  rw [h0, h3, h4]
  exact ⟨h.1, h2, h.2.2.1, h.2.2.2.1, hs, hq, hQ, h.2.2.2.2.2.2.2.cong h3 h.2.2.1.2 hw⟩
/-- stocks alone change -/
theorem VR.st {B B' : Nat} {rd rd' : Nat → Int32} (h : VR B rd) (he : ∀ k, (k < 5 ∨ 13 ≤ k) → k < 4370 → rd' k = rd k) (hs : ∀ i, i < 8 → Is (rd' (5 + i)) B') : VR B' rd' := by
  have n0 := h.n0
  refine h.to (he 0 (by omega) (by omega)) (by rw [he 2 (by omega) (by omega)]; exact h.2.1) (he 3 (by omega) (by omega)) (he 4 (by omega) (by omega)) hs ?_ ?_ (fun k a1 a2 => he k (by omega) (by omega))
  · rw [he 2 (by omega) (by omega)]
    intro k hk
    have := h.2.1.2
    rw [he _ (by omega) (by omega)]
    exact h.2.2.2.2.2.1 k hk
  · intro q hq
    obtain ⟨v, o⟩ := h.2.2.2.2.2.2.1 q hq
    have e : ∀ k, 53 + 186 * q ≤ k → k < 53 + 186 * q + 186 → rd' k = rd k := fun k a1 a2 => he k (by omega) (by omega)
    have g : ∀ k, 2769 ≤ k → k < 4370 → rd' k = rd k := fun k a1 a2 => he k (by omega) (by omega)
    exact ⟨v.cong e g, o.cong v e g⟩
/-- a quest alone changes -/
theorem VR.qu {B B' q0 : Nat} {rd rd' : Nat → Int32} (h : VR B rd) (hB : B ≤ B') (hq0 : q0 < Nn (rd 0)) (he : ∀ k, (k < 53 + 186 * q0 ∨ 53 + 186 * q0 + 186 ≤ k) → k < 4370 → rd' k = rd k) (hv : VQ rd' (53 + 186 * q0) ∧ VO rd' (53 + 186 * q0)) : VR B' rd' := by
  have n0 := h.n0
  refine h.to (he 0 (by omega) (by omega)) (by rw [he 2 (by omega) (by omega)]; exact h.2.1) (he 3 (by omega) (by omega)) (he 4 (by omega) (by omega)) (fun i hi => by rw [he _ (by omega) (by omega)]; exact (h.2.2.2.2.1 i hi).mono hB) ?_ ?_ (fun k a1 a2 => he k (by omega) (by omega))
  · rw [he 2 (by omega) (by omega)]
    intro k hk
    have := h.2.1.2
    rw [he _ (by omega) (by omega)]
    exact h.2.2.2.2.2.1 k hk
  · intro q hq
    by_cases c : q = q0
    · subst c; exact hv
    · obtain ⟨v, o⟩ := h.2.2.2.2.2.2.1 q hq
      have e : ∀ k, 53 + 186 * q ≤ k → k < 53 + 186 * q + 186 → rd' k = rd k := fun k a1 a2 => he k (by omega) (by omega)
      have g : ∀ k, 2769 ≤ k → k < 4370 → rd' k = rd k := fun k a1 a2 => he k (by omega) (by omega)
      exact ⟨v.cong e g, o.cong v e g⟩
/-! the class's ledger -/
theorem RQ.cg {σ : St} {a : Nat} {rd rd' : Nat → Int32} {b : Nat} (v : VQ rd b) (h : RQ σ a rd b) (he : ∀ k, b ≤ k → k < b + 186 → rd' k = rd k) (hg : ∀ k, 2769 ≤ k → k < 4370 → rd' k = rd k) : RQ σ a rd' b := h.rd he v.n.1 fun u _ => (v.2.2.2.2.1.cong (he b (by omega) (by omega)) (he _ (by omega) (by omega)) (he _ (by omega) (by omega)) hg).2 u
theorem RWo.cg {σ : St} {p : Nat} {rd rd' : Nat → Int32} (h : RWo σ p rd) (h3 : rd' 3 = rd 3) (h0 : rd' 0 = rd 0) (hb : Nn (rd 3) ≤ 800) (hw : ∀ k, 1169 ≤ k → k < 2769 → rd' k = rd k) : RWo σ p rd' := by
  unfold RWo at *
  rw [h3, h0]
  rcases h with h | h
  · exact Or.inl h
  refine Or.inr ?_
  split at h
  · rename_i c; rw [if_pos c]; exact h
  · rename_i c; rw [if_neg c]
    exact ⟨h.1, fun k hk => by rw [hw _ (by omega) (by omega), hw _ (by omega) (by omega)]; exact h.2 k hk⟩
theorem RLd.st {σ σ' : St} {B : Nat} {rd rd' : Nat → Int32} {p : Nat} (v : VR B rd) (h : RLd σ p rd) (u : Un (fun i => i = p + 1) σ σ') (he : ∀ k, (k < 5 ∨ 13 ≤ k) → k < 4370 → rd' k = rd k) (hs : ∀ i, i < 8 → gI σ' (p + 1) i = rd' (5 + i)) : RLd σ' p rd' := by
  obtain ⟨q0, q1, q2, q3, q4, q5, q6⟩ := h
  have n0 := v.n0
  have n2 := v.2.1.2
  have e0 : gI σ' p = gI σ p := u.I (by omega)
  refine ⟨by rw [e0, he 0 (by omega) (by omega)]; exact q0, by rw [e0, he 2 (by omega) (by omega)]; exact q1, by rw [e0, he 1 (by omega) (by omega)]; exact q2, hs, ?_, ?_, ?_⟩
  · rw [he 2 (by omega) (by omega)]
    intro k hk
    rw [u.I (by omega), he _ (by omega) (by omega)]
    exact q4 k hk
  · rw [he 0 (by omega) (by omega)]
    intro q hq
    exact ((q5 q hq).un u fun i a1 a2 a3 => by omega).cg (v.2.2.2.2.2.2.1 q hq).1 (fun k a1 a2 => he k (by omega) (by omega)) (fun k a1 a2 => he k (by omega) (by omega))
  · have : RWo σ' p rd := by
      unfold RWo at *
      rw [e0, u.I (show ¬ p + 4 = p + 1 by omega)]
      exact q6
    exact this.cg (he 3 (by omega) (by omega)) (he 0 (by omega) (by omega)) v.2.2.1.2 (fun k a1 a2 => he k (by omega) (by omega))
theorem RLd.qu {σ σ' : St} {B q0 : Nat} {rd rd' : Nat → Int32} {p : Nat} (v : VR B rd) (hq0 : q0 < Nn (rd 0)) (h : RLd σ p rd) (u : Un (inR (p + 5 + 9 * q0) 9) σ σ') (he : ∀ k, (k < 53 + 186 * q0 ∨ 53 + 186 * q0 + 186 ≤ k) → k < 4370 → rd' k = rd k) (hq : RQ σ' (p + 5 + 9 * q0) rd' (53 + 186 * q0)) : RLd σ' p rd' := by
  obtain ⟨a0, a1, a2, a3, a4, a5, a6⟩ := h
  have n0 := v.n0
  have n2 := v.2.1.2
  have eI : ∀ j, j < 5 → gI σ' (p + j) = gI σ (p + j) := fun j hj => u.I (fun q => by have := q.1; omega)
  have e0 : gI σ' p = gI σ p := eI 0 (by omega)
  refine ⟨by rw [e0, he 0 (by omega) (by omega)]; exact a0, by rw [e0, he 2 (by omega) (by omega)]; exact a1, by rw [e0, he 1 (by omega) (by omega)]; exact a2, fun i hi => by rw [eI 1 (by omega), he _ (by omega) (by omega)]; exact a3 i hi, ?_, ?_, ?_⟩
  · rw [he 2 (by omega) (by omega)]
    intro k hk
    rw [eI 2 (by omega), he _ (by omega) (by omega)]
    exact a4 k hk
  · rw [he 0 (by omega) (by omega)]
    intro q hqq
    by_cases c : q = q0
    · subst c; exact hq
    · exact ((a5 q hqq).un u fun i b1 b2 b3 => by have := b3.1; have := b3.2; omega).cg (v.2.2.2.2.2.2.1 q hqq).1 (fun k a1 a2 => he k (by omega) (by omega)) (fun k a1 a2 => he k (by omega) (by omega))
  · have : RWo σ' p rd := by
      unfold RWo at *
      rw [e0, eI 4 (by omega)]
      exact a6
    exact this.cg (he 3 (by omega) (by omega)) (he 0 (by omega) (by omega)) v.2.2.1.2 (fun k a1 a2 => he k (by omega) (by omega))
/-! writes of the reference -/
/-! a changing call: its begin and its end -/
def nwM : Nat → Prop := fun i => (2 ≤ i ∧ i < 61) ∨ cQ i
