/-! CALLS that change: reopen, tell, undo -/
/-- the row with a quest begun anew, i steps far -/
def rr (rd : Nat → Int32) (b i : Nat) : Nat → Int32 := fun j => if j = b + 1 then 0 else if b + 6 ≤ j ∧ j < b + 6 + 30 * i ∧ ((j - (b + 6)) % 30 = 2 ∨ (j - (b + 6)) % 30 = 3) then 0 else rd j
theorem rr_0 (rd : Nat → Int32) (b : Nat) : rr rd b 0 = up rd (b + 1) 0 := by
  funext j
  unfold rr up
  by_cases c : j = b + 1
  · rw [if_pos c, if_pos c]
  · rw [if_neg c, if_neg c, if_neg (by omega)]
theorem rr_s (rd : Nat → Int32) (b i : Nat) : up (up (rr rd b i) (b + 6 + 30 * i + 3) 0) (b + 6 + 30 * i + 2) 0 = rr rd b (i + 1) := by
  funext j
  unfold up rr
  by_cases c2 : j = b + 6 + 30 * i + 2
  · rw [if_pos c2]
    by_cases c : j = b + 1
    · omega
    · rw [if_neg c, if_pos (by omega)]
  · rw [if_neg c2]
    by_cases c3 : j = b + 6 + 30 * i + 3
    · rw [if_pos c3]
      by_cases c : j = b + 1
      · omega
      · rw [if_neg c, if_pos (by omega)]
    · rw [if_neg c3]
      by_cases c : j = b + 1
      · rw [if_pos c, if_pos c]
      · rw [if_neg c, if_neg c]
        by_cases c4 : b + 6 ≤ j ∧ j < b + 6 + 30 * i ∧ ((j - (b + 6)) % 30 = 2 ∨ (j - (b + 6)) % 30 = 3)
        · rw [if_pos c4, if_pos (by omega)]
        · rw [if_neg c4, if_neg (by omega)]
theorem rr_out (rd : Nat → Int32) {b i j : Nat} (h : j < b + 1 ∨ j = b + 2 ∨ j = b + 3 ∨ j = b + 4 ∨ j = b + 5 ∨ b + 6 + 30 * i ≤ j ∨ (b + 6 ≤ j ∧ (j - (b + 6)) % 30 ≠ 2 ∧ (j - (b + 6)) % 30 ≠ 3)) : rr rd b i j = rd j := by
  unfold rr
  rw [if_neg (by omega), if_neg (by omega)]
theorem rr_in (rd : Nat → Int32) {b i s : Nat} (h : s < i) : rr rd b i (b + 6 + 30 * s + 2) = 0 ∧ rr rd b i (b + 6 + 30 * s + 3) = 0 ∧ rr rd b i (b + 1) = 0 := by
  unfold rr
  refine ⟨?_, ?_, if_pos rfl⟩
  · rw [if_neg (by omega), if_pos (by omega)]
  · rw [if_neg (by omega), if_pos (by omega)]
theorem rr_V {rd : Nat → Int32} {q : Nat} (V : VQ rd (53 + 186 * q)) (hq : q < 6) {i : Nat} (hi : i ≤ nS rd (53 + 186 * q)) : VQ (rr rd (53 + 186 * q) i) (53 + 186 * q) ∧ ∀ u, gl (rr rd (53 + 186 * q) i) (53 + 186 * q) u = gl rd (53 + 186 * q) u := by
  have hn := V.n
  obtain ⟨h1, h2, h3, h4, h5, h6⟩ := V
  have g := h5.cong (rd' := rr rd (53 + 186 * q) i) (rr_out _ (by omega)) (rr_out _ (by omega)) (rr_out _ (by omega)) (fun k a1 a2 => rr_out _ (by omega))
  refine ⟨?_, g.2⟩
  unfold VQ
  rw [show rr rd (53 + 186 * q) i (53 + 186 * q) = rd (53 + 186 * q) from rr_out _ (by omega), show rr rd (53 + 186 * q) i (53 + 186 * q + 1) = 0 from if_pos rfl, show rr rd (53 + 186 * q) i (53 + 186 * q + 2) = rd (53 + 186 * q + 2) from rr_out _ (by omega), show rr rd (53 + 186 * q) i (53 + 186 * q + 3) = rd (53 + 186 * q + 3) from rr_out _ (by omega)]
  refine ⟨h1, Is.of (n := 0) (by omega) (by omega), h3, h4, g.1, fun s hs => ?_⟩
  obtain ⟨a1, a2, a3, a4, a5, a6, a7⟩ := h6 s hs
  unfold VS
  rw [show rr rd (53 + 186 * q) i (53 + 186 * q + 6 + 30 * s) = rd (53 + 186 * q + 6 + 30 * s) from rr_out _ (by omega), show rr rd (53 + 186 * q) i (53 + 186 * q + 6 + 30 * s + 1) = rd (53 + 186 * q + 6 + 30 * s + 1) from rr_out _ (by omega), show rr rd (53 + 186 * q) i (53 + 186 * q + 6 + 30 * s + 4) = rd (53 + 186 * q + 6 + 30 * s + 4) from rr_out _ (by omega), show rr rd (53 + 186 * q) i (53 + 186 * q + 6 + 30 * s + 5) = rd (53 + 186 * q + 6 + 30 * s + 5) from rr_out _ (by omega)]
  have a7' : ∀ j, j < 24 → Is (rr rd (53 + 186 * q) i (53 + 186 * q + 6 + 30 * s + 6 + j)) 99 := fun j hj => by rw [rr_out _ (by omega)]; exact a7 j hj
  by_cases c : s < i
  · obtain ⟨e1, e2, _⟩ := rr_in rd (b := 53 + 186 * q) c
    rw [e1, e2]
    exact ⟨a1, a2, ⟨Is.of (n := 0) (by omega) (by omega), Nat.zero_le _⟩, Is.of (n := 0) (by omega) (by omega), a5, a6, a7'⟩
  · rw [show rr rd (53 + 186 * q) i (53 + 186 * q + 6 + 30 * s + 2) = rd (53 + 186 * q + 6 + 30 * s + 2) from rr_out _ (by omega), show rr rd (53 + 186 * q) i (53 + 186 * q + 6 + 30 * s + 3) = rd (53 + 186 * q + 6 + 30 * s + 3) from rr_out _ (by omega)]
    exact ⟨a1, a2, a3, a4, a5, a6, a7'⟩
theorem rr_dn {rd : Nat → Int32} {b : Nat} : dnM (rr rd b (nS rd b)) b = 0 := by
  unfold dnM
  rw [show rr rd b (nS rd b) b = rd b from rr_out _ (by omega)]
  have : ∀ n, n ≤ nS rd b → msk n (fun s => decide (rr rd b (nS rd b) (b + 6 + 30 * s + 3) = 1)) = 0 := by
    intro n
    induction n with
    | zero => intro _; rfl
    | succ n ih =>
      intro h
      rw [msk, ih (by omega), (rr_in rd (b := b) (show n < nS rd b by omega)).2.1]; simp
  exact this _ (Nat.le_refl _)
theorem anewC {σ : St} {rd : Nat → Int32} {q : Nat} (V : VQ rd (53 + 186 * q)) (hq : q < 6) (h : RQ σ (7 + 9 * q) rd (53 + 186 * q)) : ∃ σ', pf_X3_beginAnew (7 + 9 * q) σ = some σ' ∧ Un (inR (7 + 9 * q) 9) σ σ' ∧ RQ σ' (7 + 9 * q) (rr rd (53 + 186 * q) (nS rd (53 + 186 * q))) (53 + 186 * q) := by
  have hn := V.n
  obtain ⟨_, hg⟩ := rr_V V hq (Nat.le_refl _)
  unfold pf_X3_beginAnew
  simp only [bnd_e]
  obtain ⟨σ', g1, g2, g3⟩ := fill_ok (7 + 9 * q + 3) 0 (sI (sI σ (7 + 9 * q) 1 0) (7 + 9 * q) 2 0)
  rw [af_X3_fails (kd7 q hq)] at g3
  rw [g1, bind_some]
  obtain ⟨q0, q1, q2, q3, q4, q5, q6⟩ := h
  have e0 : ∀ k, gI σ' (7 + 9 * q) k = gI (sI (sI σ (7 + 9 * q) 1 0) (7 + 9 * q) 2 0) (7 + 9 * q) k := fun k => by rw [g2.I (by omega)]
  refine ⟨σ', rfl, Un.trans (Un.sI _ _ ⟨by omega, by omega⟩) (Un.trans (Un.sI _ _ ⟨by omega, by omega⟩) (g2.mono fun i hi => ⟨by omega, by omega⟩)), ?_, ?_, ?_, ?_, ?_, ?_, ?_⟩
  · rw [e0, gI_ns _ _ _ (by decide), gI_ns _ _ _ (by decide), rr_out _ (by omega)]; exact q0
  · rw [e0, gI_ns _ _ _ (by decide), gI_at, show rr rd (53 + 186 * q) (nS rd (53 + 186 * q)) (53 + 186 * q + 1) = 0 from if_pos rfl]
  · rw [e0, gI_at, rr_dn]; rfl
  · rw [e0, gI_ns _ _ _ (by decide), gI_ns _ _ _ (by decide), rr_out _ (by omega)]; exact q3
  · rw [e0, gI_ns _ _ _ (by decide), gI_ns _ _ _ (by decide), rr_out _ (by omega)]; exact q4
  · intro u hu
    rw [g2.L (by omega), gL_sI, gL_sI, hg]; exact q5 u hu
  · intro s hs
    rw [show rr rd (53 + 186 * q) (nS rd (53 + 186 * q)) (53 + 186 * q) = rd (53 + 186 * q) from rr_out _ (by omega)] at hs
    have hs' : s < nS rd (53 + 186 * q) := hs
    obtain ⟨r1, r2, r3, r4, r5, r6⟩ := q6 s hs
    have gn : ∀ j, 1 ≤ j → j ≠ 3 → gI σ' (7 + 9 * q + j) = gI σ (7 + 9 * q + j) := fun j hj hj3 => by rw [g2.I (by omega), gI_nf _ _ _ (by omega), gI_nf _ _ _ (by omega)]
    refine ⟨by rw [gn 1 (by omega) (by omega), rr_out _ (by omega)]; exact r1, by rw [gn 2 (by omega) (by omega), rr_out _ (by omega)]; exact r2, ?_, by rw [gn 4 (by omega) (by omega), rr_out _ (by omega)]; exact r4, by rw [gn 5 (by omega) (by omega), rr_out _ (by omega)]; exact r5, fun i hi => ?_⟩
    · rw [(rr_in rd (b := 53 + 186 * q) hs').1]
      exact g3 s (by omega)
    · obtain ⟨t1, t2, t3⟩ := r6 i hi
      exact ⟨by rw [gn 6 (by omega) (by omega), rr_out _ (by omega)]; exact t1, by rw [gn 7 (by omega) (by omega), rr_out _ (by omega)]; exact t2, by rw [gn 8 (by omega) (by omega), rr_out _ (by omega)]; exact t3⟩
section
variable {c : Nat} {σ : St}
def fT (k : Nat) : Int32 := if k = 1 then 1 else 2
theorem al4 : alen 4 = 40 := by decide +kernel
theorem enq {s : St} {p k : Nat} {x : Int32} (h2 : gI s 2 2 = nI k) (hk : k < 40) : pf_X2_enqueue 2 x s = some (sI (sI s 4 k x) 2 2 (nI (k + 1))) := by
  unfold pf_X2_enqueue
  rw [h2, show pf_X10_put (2 + 2) (nI k) x s = _ from put_ok al4 hk, bind_some, bnd_e, show gI (sI s 4 k x) 2 2 = nI k from by rw [gI_ne _ _ _ _ (by decide)]; exact h2, nI_1]
/-- the row with two draws more -/
def tq (rd : Nat → Int32) (n a b : Nat) : Nat → Int32 := up (up (up rd (13 + n) (nI a)) (13 + n + 1) (nI b)) 2 (nI (n + 2))
theorem tq_out (rd : Nat → Int32) {n a b j : Nat} (h : j ≠ 2 ∧ j ≠ 13 + n ∧ j ≠ 13 + n + 1) : tq rd n a b j = rd j := by
  unfold tq
  rw [up_ne _ _ h.1, up_ne _ _ h.2.2, up_ne _ _ h.2.1]
theorem tq_V {B n a b : Nat} {rd : Nat → Int32} (v : VR B rd) (e : rd 2 = nI n) (hn : n + 2 ≤ 40) (ha : a < 100) (hb : b < 100) (B' : Nat) (hB : B ≤ B') : VR B' (tq rd n a b) := by
  have n0 := v.n0
  have e2 : tq rd n a b 2 = nI (n + 2) := up_at _ _ _
  refine v.to (tq_out _ (by omega)) (by rw [e2]; exact Is.of hn (by omega)) (tq_out _ (by omega)) (tq_out _ (by omega)) (fun i hi => by rw [tq_out _ (by omega)]; exact (v.2.2.2.2.1 i hi).mono hB) ?_ ?_ (fun k a1 a2 => tq_out _ (by omega))
  · rw [e2, Nn_nI (by omega)]
    intro k hk
    have hq := v.2.2.2.2.2.1
    rw [e, Nn_nI (by omega)] at hq
    by_cases c1 : k = n
    · subst c1
      have : tq rd k a b (13 + k) = nI a := by unfold tq; rw [up_ne _ _ (by omega), up_ne _ _ (by omega), up_at]
      rw [this]; exact Is.of (by omega) (by omega)
    · by_cases c2 : k = n + 1
      · subst c2
        have : tq rd n a b (13 + (n + 1)) = nI b := by unfold tq; rw [up_ne _ _ (by omega)]; exact up_at _ _ _
        rw [this]; exact Is.of (by omega) (by omega)
      · rw [tq_out _ (by omega)]; exact hq k (by omega)
  · intro q hq
    obtain ⟨V, O⟩ := v.2.2.2.2.2.2.1 q hq
    have e1 : ∀ k, 53 + 186 * q ≤ k → k < 53 + 186 * q + 186 → tq rd n a b k = rd k := fun k a1 a2 => tq_out _ (by omega)
    have g1 : ∀ k, 2769 ≤ k → k < 4370 → tq rd n a b k = rd k := fun k a1 a2 => tq_out _ (by omega)
    exact ⟨V.cong e1 g1, O.cong V e1 g1⟩
theorem tq_R {s : St} {B n a b : Nat} {rd : Nat → Int32} (v : VR B rd) (h : RLd s 2 rd) (e : rd 2 = nI n) (hn : n + 2 ≤ 40) : RLd (sI (sI (sI (sI s 4 n (nI a)) 2 2 (nI (n + 1))) 4 (n + 1) (nI b)) 2 2 (nI (n + 2))) 2 (tq rd n a b) := by
  have n0 := v.n0
  generalize hs' : sI (sI (sI (sI s 4 n (nI a)) 2 2 (nI (n + 1))) 4 (n + 1) (nI b)) 2 2 (nI (n + 2)) = s'
  obtain ⟨q0, q1, q2, q3, q4, q5, q6⟩ := h
  have e2 : tq rd n a b 2 = nI (n + 2) := up_at _ _ _
  have k2 : ∀ j, j ≠ 2 → gI s' 2 j = gI s 2 j := fun j hj => by subst hs'; rw [gI_ns _ _ _ hj, gI_ne _ _ _ _ (by decide), gI_ns _ _ _ hj, gI_ne _ _ _ _ (by decide)]
  have k22 : gI s' 2 2 = nI (n + 2) := by subst hs'; exact gI_at _ _ _ _
  have k4 : ∀ j, gI s' 4 j = if j = n + 1 then nI b else if j = n then nI a else gI s 4 j := fun j => by
    subst hs'
    rw [gI_ne _ _ _ _ (by decide)]
    by_cases c1 : j = n + 1
    · subst c1; rw [gI_at, if_pos rfl]
    · rw [gI_ns _ _ _ c1, if_neg c1, gI_ne _ _ _ _ (by decide)]
      by_cases c2 : j = n
      · subst c2; rw [gI_at, if_pos rfl]
      · rw [gI_ns _ _ _ c2, if_neg c2]
  have u : Un (fun i => i = 2 ∨ i = 4) s s' := by subst hs'; exact Un.trans (Un.sI _ _ (Or.inr rfl)) (Un.trans (Un.sI _ _ (Or.inl rfl)) (Un.trans (Un.sI _ _ (Or.inr rfl)) (Un.sI _ _ (Or.inl rfl))))
  refine ⟨by rw [k2 5 (by decide), tq_out _ (by omega)]; exact q0, by rw [k22, e2], by rw [k2 3 (by decide), tq_out _ (by omega)]; exact q2, fun i hi => by rw [u.I (by decide), tq_out _ (by omega)]; exact q3 i hi, ?_, ?_, ?_⟩
  · rw [e2, Nn_nI (by omega)]
    intro k hk
    rw [e, Nn_nI (by omega)] at q4
    show gI s' 4 k = _
    rw [k4]
    by_cases c2 : k = n + 1
    · subst c2
      rw [if_pos rfl]
      unfold tq; rw [up_ne _ _ (by omega)]; exact (up_at _ _ _).symm
    · rw [if_neg c2]
      by_cases c1 : k = n
      · subst c1
        rw [if_pos rfl]
        unfold tq; rw [up_ne _ _ (by omega), up_ne _ _ (by omega), up_at]
      · rw [if_neg c1, tq_out _ (by omega)]; exact q4 k (by omega)
  · rw [tq_out _ (by omega)]
    intro q hq
    exact ((q5 q hq).un u fun i a1 a2 a3 => by omega).cg (v.2.2.2.2.2.2.1 q hq).1 (fun k a1 a2 => tq_out _ (by omega)) (fun k a1 a2 => tq_out _ (by omega))
  · have : RWo s' 2 rd := by
      unfold RWo at *
      rw [k2 7 (by decide), u.I (show ¬ (2 + 4 = 2 ∨ 2 + 4 = 4) by decide)]
      exact q6
    exact this.cg (tq_out _ (by omega)) (tq_out _ (by omega)) v.2.2.1.2 (fun k a1 a2 => tq_out _ (by omega))
end
