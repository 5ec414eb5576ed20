/-! CALLS that change: mend, giveUp, reopen, tell, undo -/
theorem VQ.upS {rd : Nat → Int32} {q s x : Nat} {v : Int32} (V : VQ rd (53 + 186 * q)) (hq : q < 6) (hs : s < nS rd (53 + 186 * q)) (hx : x < 30) (hv : VS (up rd (53 + 186 * q + 6 + 30 * s + x) v) (53 + 186 * q + 6 + 30 * s) s) : VQ (up rd (53 + 186 * q + 6 + 30 * s + x) v) (53 + 186 * q) ∧ ∀ u, gl (up rd (53 + 186 * q + 6 + 30 * s + x) v) (53 + 186 * q) u = gl rd (53 + 186 * q) u := by
  have hn := V.n
  obtain ⟨h1, h2, h3, h4, h5, h6⟩ := V
  have ne : ∀ j, j < 6 → up rd (53 + 186 * q + 6 + 30 * s + x) v (53 + 186 * q + j) = rd (53 + 186 * q + j) := fun j hj => up_ne _ _ (by omega)
  have g := h5.cong (rd' := up rd (53 + 186 * q + 6 + 30 * s + x) v) (ne 0 (by omega)) (ne 4 (by omega)) (ne 5 (by omega)) (fun k a1 a2 => up_ne _ _ (by omega))
  refine ⟨?_, g.2⟩
  unfold VQ
  rw [show up rd (53 + 186 * q + 6 + 30 * s + x) v (53 + 186 * q) = rd (53 + 186 * q) from ne 0 (by omega), ne 1 (by omega), ne 2 (by omega), ne 3 (by omega)]
  refine ⟨h1, h2, h3, h4, g.1, fun t ht => ?_⟩
  by_cases e : t = s
  · subst e; exact hv
  · exact (h6 t ht).cong fun k a1 a2 => up_ne _ _ (by omega)
theorem dnM.upS {rd : Nat → Int32} {q s x : Nat} {v : Int32} (hx : x < 30) (hx3 : x ≠ 3) : dnM (up rd (53 + 186 * q + 6 + 30 * s + x) v) (53 + 186 * q) = dnM rd (53 + 186 * q) := by
  unfold dnM
  rw [up_ne _ _ (show 53 + 186 * q ≠ 53 + 186 * q + 6 + 30 * s + x by omega)]
  exact msk_congr _ fun t ht => by rw [up_ne _ _ (by omega)]
/-- a cell of a step of the class -/
theorem RQ.upF {σ : St} {rd : Nat → Int32} {q s : Nat} {v : Int32} (V : VQ rd (53 + 186 * q)) (hq : q < 6) (hs : s < nS rd (53 + 186 * q)) (h : RQ σ (7 + 9 * q) rd (53 + 186 * q)) (hg : ∀ u, gl (up rd (53 + 186 * q + 6 + 30 * s + 2) v) (53 + 186 * q) u = gl rd (53 + 186 * q) u) : RQ (sI σ (7 + 9 * q + 3) s v) (7 + 9 * q) (up rd (53 + 186 * q + 6 + 30 * s + 2) v) (53 + 186 * q) := by
  have hn := V.n
  obtain ⟨q0, q1, q2, q3, q4, q5, q6⟩ := h
  have ne : ∀ j, j < 6 → up rd (53 + 186 * q + 6 + 30 * s + 2) v (53 + 186 * q + j) = rd (53 + 186 * q + j) := fun j hj => up_ne _ _ (by omega)
  have e0 : gI (sI σ (7 + 9 * q + 3) s v) (7 + 9 * q) = gI σ (7 + 9 * q) := gI_nf _ _ _ (by omega)
  refine ⟨by rw [e0, show up rd (53 + 186 * q + 6 + 30 * s + 2) v (53 + 186 * q) = rd (53 + 186 * q) from ne 0 (by omega)]; exact q0, by rw [e0, ne 1 (by omega)]; exact q1, by rw [e0, dnM.upS (by omega) (by omega)]; exact q2, by rw [e0, ne 2 (by omega)]; exact q3, by rw [e0, ne 3 (by omega)]; exact q4, fun u hu => by rw [gL_sI, hg]; exact q5 u hu, fun t ht => ?_⟩
  rw [show up rd (53 + 186 * q + 6 + 30 * s + 2) v (53 + 186 * q) = rd (53 + 186 * q) from ne 0 (by omega)] at ht
  have ht' : t < nS rd (53 + 186 * q) := ht
  obtain ⟨r1, r2, r3, r4, r5, r6⟩ := q6 t ht
  have gn : ∀ j, j ≠ 3 → gI (sI σ (7 + 9 * q + 3) s v) (7 + 9 * q + j) = gI σ (7 + 9 * q + j) := fun j hj => gI_nf _ _ _ (by omega)
  refine ⟨by rw [gn 1 (by omega), up_ne _ _ (by omega)]; exact r1, by rw [gn 2 (by omega), up_ne _ _ (by omega)]; exact r2, ?_, by rw [gn 4 (by omega), up_ne _ _ (by omega)]; exact r4, by rw [gn 5 (by omega), up_ne _ _ (by omega)]; exact r5, fun i hi => ?_⟩
  · by_cases e : t = s
    · subst e; rw [gI_at, up_at]
    · rw [gI_ns _ _ _ e, up_ne _ _ (by omega)]; exact r3
  · obtain ⟨t1, t2, t3⟩ := r6 i hi
    exact ⟨by rw [gn 6 (by omega), up_ne _ _ (by omega)]; exact t1, by rw [gn 7 (by omega), up_ne _ _ (by omega)]; exact t2, by rw [gn 8 (by omega), up_ne _ _ (by omega)]; exact t3⟩
/-- status alone -/
theorem VQ.upT {rd : Nat → Int32} {q v : Nat} (V : VQ rd (53 + 186 * q)) (hq : q < 6) (hv : v ≤ 2) : VQ (up rd (53 + 186 * q + 1) (nI v)) (53 + 186 * q) ∧ (∀ u, gl (up rd (53 + 186 * q + 1) (nI v)) (53 + 186 * q) u = gl rd (53 + 186 * q) u) ∧ dnM (up rd (53 + 186 * q + 1) (nI v)) (53 + 186 * q) = dnM rd (53 + 186 * q) := by
  have hn := V.n
  obtain ⟨h1, h2, h3, h4, h5, h6⟩ := V
  have ne : ∀ j, j ≠ 53 + 186 * q + 1 → up rd (53 + 186 * q + 1) (nI v) j = rd j := fun j hj => up_ne _ _ hj
  have g := h5.cong (rd' := up rd (53 + 186 * q + 1) (nI v)) (ne _ (by omega)) (ne _ (by omega)) (ne _ (by omega)) (fun k a1 a2 => ne _ (by omega))
  refine ⟨?_, g.2, ?_⟩
  · unfold VQ
    rw [ne _ (show 53 + 186 * q ≠ _ by omega), up_at, ne _ (show 53 + 186 * q + 2 ≠ _ by omega), ne _ (show 53 + 186 * q + 3 ≠ _ by omega)]
    exact ⟨h1, Is.of hv (by omega), h3, h4, g.1, fun t ht => (h6 t ht).cong fun k a1 a2 => ne _ (by omega)⟩
  · unfold dnM
    rw [ne _ (show 53 + 186 * q ≠ _ by omega)]
    exact msk_congr _ fun t ht => by rw [ne _ (by omega)]
theorem RQ.upT {σ : St} {rd : Nat → Int32} {q v : Nat} (V : VQ rd (53 + 186 * q)) (hq : q < 6) (hv : v ≤ 2) (h : RQ σ (7 + 9 * q) rd (53 + 186 * q)) : RQ (sI σ (7 + 9 * q) 1 (nI v)) (7 + 9 * q) (up rd (53 + 186 * q + 1) (nI v)) (53 + 186 * q) := by
  have hn := V.n
  obtain ⟨_, g2, g3⟩ := V.upT hq hv
  obtain ⟨q0, q1, q2, q3, q4, q5, q6⟩ := h
  have ne : ∀ j, j ≠ 53 + 186 * q + 1 → up rd (53 + 186 * q + 1) (nI v) j = rd j := fun j hj => up_ne _ _ hj
  refine ⟨by rw [gI_ns _ _ _ (by decide), ne _ (show 53 + 186 * q ≠ _ by omega)]; exact q0, by rw [gI_at, up_at], by rw [gI_ns _ _ _ (by decide), g3]; exact q2, by rw [gI_ns _ _ _ (by decide), ne _ (show 53 + 186 * q + 2 ≠ _ by omega)]; exact q3, by rw [gI_ns _ _ _ (by decide), ne _ (show 53 + 186 * q + 3 ≠ _ by omega)]; exact q4, fun u hu => by rw [gL_sI, g2]; exact q5 u hu, fun t ht => ?_⟩
  rw [ne _ (show 53 + 186 * q ≠ _ by omega)] at ht
  obtain ⟨r1, r2, r3, r4, r5, r6⟩ := q6 t ht
  have gn : ∀ j, j ≠ 0 → gI (sI σ (7 + 9 * q) 1 (nI v)) (7 + 9 * q + j) = gI σ (7 + 9 * q + j) := fun j hj => gI_nf _ _ _ (by omega)
  refine ⟨by rw [gn 1 (by omega), ne _ (by omega)]; exact r1, by rw [gn 2 (by omega), ne _ (by omega)]; exact r2, by rw [gn 3 (by omega), ne _ (by omega)]; exact r3, by rw [gn 4 (by omega), ne _ (by omega)]; exact r4, by rw [gn 5 (by omega), ne _ (by omega)]; exact r5, fun i hi => ?_⟩
  obtain ⟨t1, t2, t3⟩ := r6 i hi
  exact ⟨by rw [gn 6 (by omega), ne _ (by omega)]; exact t1, by rw [gn 7 (by omega), ne _ (by omega)]; exact t2, by rw [gn 8 (by omega), ne _ (by omega)]; exact t3⟩
section
variable {c : Nat} {σ : St}
/-- the ledger behind the change of a quest -/
theorem RLd.q7 {σ σ' : St} {B q : Nat} {rd rd' : Nat → Int32} (v : VR B rd) (hq : q < Nn (rd 0)) (h : RLd σ 2 rd) (u : Un (inR (7 + 9 * q) 9) σ σ') (he : ∀ k, (k < 53 + 186 * q ∨ 53 + 186 * q + 186 ≤ k) → k < 4370 → rd' k = rd k) (hr : RQ σ' (7 + 9 * q) rd' (53 + 186 * q)) : RLd σ' 2 rd' := RLd.qu v hq h (by rw [show 2 + 5 + 9 * q = 7 + 9 * q by omega]; exact u) he (by rw [show 2 + 5 + 9 * q = 7 + 9 * q by omega]; exact hr)
end
