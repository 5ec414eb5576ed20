/-! LOAD: a whole step; a quest begins; both readers -/
section
variable {T : Nat → Int32} {L N : Nat}
/-- a quest is cleared -/
theorem clearQ {a : Nat} (σ : St) : ∃ σ', pf_X3_clear a σ = some σ' ∧ Un (fun i => a ≤ i ∧ i < a + 9) σ σ' ∧ gI σ' a 0 = 0 ∧ gI σ' a 1 = 0 ∧ gI σ' a 2 = 0 ∧ ∀ t, 3 ≤ t → t < 9 → ∀ k, k < alen (a + t) → gI σ' (a + t) k = 0 := by
  unfold pf_X3_clear pf_X3_beginAnew
  rw [bnd_e, bnd_e, bnd_e]
  generalize h0 : sI (sI (sI σ a 0 0) a 1 0) a 2 0 = σ0
  have u0 : Un (fun i => a ≤ i ∧ i < a + 9) σ σ0 := by
    rw [← h0]
    exact (Un.sI _ _ (by omega)).trans ((Un.sI _ _ (by omega)).trans (Un.sI _ _ (by omega)))
  have z0 : gI σ0 a 0 = 0 := by rw [← h0, gI_ns _ _ _ (by decide), gI_ns _ _ _ (by decide), gI_at]
  have z1 : gI σ0 a 1 = 0 := by rw [← h0, gI_ns _ _ _ (by decide), gI_at]
  have z2 : gI σ0 a 2 = 0 := by rw [← h0, gI_at]
  obtain ⟨σ3, a3, b3, c3⟩ := fill_ok (a + 3) 0 σ0
  obtain ⟨σ4, a4, b4, c4⟩ := fill_ok (a + 4) 0 σ3
  obtain ⟨σ5, a5, b5, c5⟩ := fill_ok (a + 5) 0 σ4
  obtain ⟨σ6, a6, b6, c6⟩ := fill_ok (a + 6) 0 σ5
  obtain ⟨σ7, a7, b7, c7⟩ := fill_ok (a + 7) 0 σ6
  obtain ⟨σ8, a8, b8, c8⟩ := fill_ok (a + 8) 0 σ7
  rw [a3, bind_some, bind_some, a4, bind_some, a5, bind_some, a6, bind_some, a7, bind_some, a8, bind_some]
  have M : ∀ {p : Nat} {s s' : St}, a ≤ p → p < a + 9 → Un (fun i => i = p) s s' → Un (fun i => a ≤ i ∧ i < a + 9) s s' := fun h1 h2 u => u.mono fun i hi => by omega
  have e : ∀ p, p ≠ a + 3 → p ≠ a + 4 → p ≠ a + 5 → p ≠ a + 6 → p ≠ a + 7 → p ≠ a + 8 → gI σ8 p = gI σ0 p := fun p h3 h4 h5 h6 h7 h8 => by rw [b8.I h8, b7.I h7, b6.I h6, b5.I h5, b4.I h4, b3.I h3]
  refine ⟨σ8, rfl, u0.trans ((M (by omega) (by omega) b3).trans ((M (by omega) (by omega) b4).trans ((M (by omega) (by omega) b5).trans ((M (by omega) (by omega) b6).trans ((M (by omega) (by omega) b7).trans (M (by omega) (by omega) b8)))))), by rw [e a (by omega) (by omega) (by omega) (by omega) (by omega) (by omega)]; exact z0, by rw [e a (by omega) (by omega) (by omega) (by omega) (by omega) (by omega)]; exact z1, by rw [e a (by omega) (by omega) (by omega) (by omega) (by omega) (by omega)]; exact z2, fun t t1 t2 k hk => ?_⟩
  rcases (by omega : t = 3 ∨ t = 4 ∨ t = 5 ∨ t = 6 ∨ t = 7 ∨ t = 8) with rfl | rfl | rfl | rfl | rfl | rfl
  · rw [b8.I (by omega), b7.I (by omega), b6.I (by omega), b5.I (by omega), b4.I (by omega)]; exact c3 k hk
  · rw [b8.I (by omega), b7.I (by omega), b6.I (by omega), b5.I (by omega)]; exact c4 k hk
  · rw [b8.I (by omega), b7.I (by omega), b6.I (by omega)]; exact c5 k hk
  · rw [b8.I (by omega), b7.I (by omega)]; exact c6 k hk
  · rw [b8.I (by omega)]; exact c7 k hk
  · exact c8 k hk
end
