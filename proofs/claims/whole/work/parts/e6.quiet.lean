/-! LOAD: the class goes on quietly after an error -/
def LM : Nat → Prop := fun i => (61 ≤ i ∧ i < 120) ∨ (594 ≤ i ∧ i < 602)
theorem LM.r {σ σ' : St} (h : Un (fun i => i = 595) σ σ') : Un LM σ σ' := h.mono fun i hi => by unfold LM; omega
theorem LM.s {σ : St} {p : Nat} (k : Nat) (v : Int32) (hp : LM p) : Un LM σ (sI σ p k v) := Un.sI _ _ hp
theorem at_tot (p : Nat) (v : Int32) (σ : St) : ∃ r, pf_X10_at p v σ = some r := by
  have hN := alen_lt p
  rcases v_cases v (n := alen p) (by omega) with hv | ⟨j, hj, rfl⟩
  · unfold pf_X10_at
    by_cases c : v < 0
    · rw [if_pos c]; exact ⟨_, rfl⟩
    · rw [if_neg c, if_pos (hv.resolve_left c)]; exact ⟨_, rfl⟩
  · exact ⟨_, at_ok rfl hj⟩
section
variable {σ : St} {c : Int32} {o : Nat}
def Q (σ : St) (c : Int32) (o : Nat) (x : Option St) : Prop := ∃ σ', x = some σ' ∧ CE σ' c o ∧ Un LM σ σ'
theorem Q.id (h : CE σ c o) : Q σ c o (some σ) := ⟨σ, rfl, h, Un.refl _ _⟩
theorem Q.tr {σ1 : St} {x : Option St} (h : Q σ1 c o x) (u : Un LM σ σ1) : Q σ c o x := by
  obtain ⟨σ', a, b, d⟩ := h
  exact ⟨σ', a, b, u.trans d⟩
theorem CE.put (h : CE σ c o) {p : Nat} (hp : LM p) (h5 : p ≠ 595) (v x : Int32) : ∃ σ', pf_X10_put p v x σ = some σ' ∧ CE σ' c o ∧ Un LM σ σ' := by
  obtain ⟨σ', g1, g2⟩ := put_tot p v x σ
  exact ⟨σ', g1, h.un g2 (by omega), g2.mono fun i hi => hi ▸ hp⟩
theorem amL_e (p : Nat) (v2 : Int32) (n j : Nat) (h : CE σ c o) (h0 : 0 < j) (hj : j < 2 ^ 31) : pf_X4_readAmounts_L2 (n + 1) 594 p v2 (nI j) σ = some σ := by
  rw [pf_X4_readAmounts_L2]
  by_cases q : (800 : Int32) ≤ nI j
  · rw [if_pos q]
  · rw [if_neg q, if_neg (nI_ne0 h0 hj), show 594 + 1 = 595 from rfl, ahead_e h, bind_some, if_neg (by decide)]
theorem am72_e {p : Nat} (hp : LM p) (h5 : p ≠ 595) (v2 v5 : Int32) (n j : Nat) (h : CE σ c o) (hj : j < 1000) : Q σ c o (pf_X4_readAmounts_b72 (pf_X4_readAmounts_L2 (n + 1)) 594 p v2 (nI j) v5 σ) := by
  obtain ⟨σ', g1, g2, g3⟩ := h.put hp h5 v5 1
  unfold pf_X4_readAmounts_b72
  rw [show 594 + 1 = 595 from rfl, number_e h, bnd2_some, g1, bind_some, nI_1, bnd_e, amL_e p v2 n (j + 1) g2 (by omega) (by omega)]
  exact ⟨σ', rfl, g2, g3⟩
theorem ahL_e (p : Nat) (v2 : Int32) (n j : Nat) (h : CE σ c o) (h0 : 0 < j) (hj : j < 2 ^ 31) : pf_X4_readAhead_L2 (n + 1) 594 p v2 (nI j) σ = some σ := by
  rw [pf_X4_readAhead_L2]
  by_cases q : (800 : Int32) ≤ nI j
  · rw [if_pos q]
  · rw [if_neg q, if_neg (nI_ne0 h0 hj), show 594 + 1 = 595 from rfl, ahead_e h, bind_some, if_neg (by decide)]
theorem ah72_e {p : Nat} (hp : LM p) (h5 : p ≠ 595) (v2 v5 : Int32) (n j : Nat) (h : CE σ c o) (hj : j < 1000) : Q σ c o (pf_X4_readAhead_b72 (pf_X4_readAhead_L2 (n + 1)) 594 p v2 (nI j) v5 σ) := by
  obtain ⟨r, hr⟩ := at_tot p v2 σ
  obtain ⟨σ', g1, g2, g3⟩ := h.put hp h5 v2 (r ||| ishl 1 v5)
  unfold pf_X4_readAhead_b72
  rw [hr, bind_some, g1, bind_some, nI_1, bnd_e, ahL_e p v2 n (j + 1) g2 (by omega) (by omega)]
  exact ⟨σ', rfl, g2, g3⟩
theorem stepb_e {a : Nat} (ha : LM a) (h5 : a ≠ 595) (h : CE σ c o) : Q σ c o (pf_X4_readStep_b108 594 a σ) := by
  unfold pf_X4_readStep_b108
  rw [show 594 + 1 = 595 from rfl, expect_e h (by omega), bind_some, bnd_e]
  exact ⟨_, rfl, h.un (M := fun i => i = a) (Un.sI _ _ rfl) (by omega), Un.sI _ _ ha⟩
theorem stepL_e {a : Nat} (ha : LM a) (h5 : a ≠ 595) (v2 : Int32) (n j : Nat) (h : CE σ c o) : Q σ c o (pf_X4_readStep_L76 pf_X4_readStep_b108 (n + 1) 594 a v2 (nI j) σ) := by
  rw [pf_X4_readStep_L76]
  by_cases q : (800 : Int32) ≤ nI j
  · rw [if_pos q]; exact stepb_e ha h5 h
  · rw [if_neg q, show 594 + 1 = 595 from rfl, ahead_e h, bind_some, ckT_some (by omega), show pf_X5_beginsPart 3 σ = some 0 from rfl, bind_some, if_pos rfl]
    exact stepb_e ha h5 h
theorem step2_e {a : Nat} (ha : 66 ≤ a ∧ a < 112) (v : Int32) (h : CE σ c o) : Q σ c o (bnd2 (pf_X6_number 595 1 9 σ) fun r_5 σ_5 => (pf_X10_put (a + 2) v r_5 σ_5).bind fun σ_6 => pf_X4_readStep_L76 pf_X4_readStep_b108 FU 594 a v 0 σ_6) := by
  obtain ⟨σ', g1, g2, g3⟩ := h.put (p := a + 2) (by unfold LM; omega) (by omega) v 1
  rw [number_e h, bnd2_some, g1, bind_some]
  exact (stepL_e (by unfold LM; omega) (by omega) v 999999 0 g2).tr g3
theorem step_e {a : Nat} (ha : 66 ≤ a ∧ a < 112) (h : CE σ c o) : Q σ c o (pf_X4_readStep 594 a σ) := by
  unfold pf_X4_readStep
  rw [bnd_e]
  by_cases q : gI σ a 0 < 6
  · rw [if_pos q, show 594 + 1 = 595 from rfl, expect_e h (by omega), bind_some, number_e h, bnd2_some]
    obtain ⟨σ', g1, g2, g3⟩ := h.put (p := a + 1) (by unfold LM; omega) (by omega) (gI σ a 0) 0
    rw [g1, bind_some]
    exact (step2_e ha (gI σ a 0) g2).tr g3
  · obtain ⟨r, hr⟩ := start_e σ
    rw [if_neg q, show 594 + 1 = 595 from rfl, hr, bind_some, fail_e h, bind_some]
    exact Q.id h
theorem quest128_e {a : Nat} (ha : 66 ≤ a ∧ a < 112) (h : CE σ c o) : Q σ c o (pf_X4_readQuest_b128 594 61 a σ) := by
  obtain ⟨r, σ1, g1, g2, g3⟩ := readGoal_e (gI σ a 0) h
  unfold pf_X4_readQuest_b128
  rw [show 594 + 1 = 595 from rfl, show 594 + 5 = 599 from rfl, expect_e h (by omega), bind_some, g1, bnd2_some, bnd_e]
  have u1 : Un (fun i => i = a) σ1 (sL σ1 a 5 r) := Un.sL _ _ rfl
  have ce : CE (sL σ1 a 5 r) c o := g2.un u1 (by omega)
  rw [expect_e ce (by omega), bind_some, bnd_e]
  have u2 : Un (fun i => i = 61) (sL σ1 a 5 r) (sI (sL σ1 a 5 r) 61 5 (gI (sL σ1 a 5 r) 61 5 + 1)) := Un.sI _ _ rfl
  exact ⟨_, rfl, ce.un u2 (by omega), (LM.r g3).trans ((u1.mono fun i hi => by unfold LM; omega).trans (u2.mono fun i hi => by unfold LM; omega))⟩
theorem questL_e {a : Nat} (ha : 66 ≤ a ∧ a < 112) (n j : Nat) (hj : j < 1000) (h : CE σ c o) : Q σ c o (pf_X4_readQuest_L91 pf_X4_readQuest_b128 (n + 2) 594 61 a (nI j) σ) := by
  have later : ∀ (σ : St) (n j : Nat), 0 < j → j < 2000 → CE σ c o → Q σ c o (pf_X4_readQuest_L91 pf_X4_readQuest_b128 (n + 1) 594 61 a (nI j) σ) := fun σ n j h0 h1 h => by
    rw [pf_X4_readQuest_L91]
    by_cases q : (800 : Int32) ≤ nI j
    · rw [if_pos q]; exact quest128_e ha h
    · rw [if_neg q, if_neg (nI_ne0 h0 (by omega)), show 594 + 1 = 595 from rfl, ahead_e h, bind_some, if_neg (by decide)]
      exact quest128_e ha h
  by_cases j0 : j = 0
  · subst j0
    rw [pf_X4_readQuest_L91, if_neg (by decide), if_pos (show nI 0 = (0 : Int32) from rfl)]
    unfold pf_X4_readQuest_b117
    obtain ⟨σ1, g1, g2, g3⟩ := step_e ha h
    rw [g1, bind_some, nI_1, bnd_e]
    exact (later σ1 n 1 (by omega) (by omega) g2).tr g3
  · exact later σ (n + 1) j (by omega) (by omega) h
theorem stock114_e (h : CE σ c o) : pf_X4_readStock_b114 594 σ = some σ := by
  unfold pf_X4_readStock_b114
  rw [show 594 + 1 = 595 from rfl, expect_e h (by omega), bind_some]
theorem stockL_e (n j : Nat) (h0 : 0 < j) (hj : j < 2 ^ 31) (h : CE σ c o) : pf_X4_readStock_L9 pf_X4_readStock_b114 (n + 1) 594 61 (nI j) σ = some σ := by
  rw [pf_X4_readStock_L9]
  by_cases q : (800 : Int32) ≤ nI j
  · rw [if_pos q]; exact stock114_e h
  · rw [if_neg q, if_neg (nI_ne0 h0 hj), show 594 + 1 = 595 from rfl, ahead_e h, bind_some, if_neg (by decide)]
    exact stock114_e h
theorem stock75b_e (v4 : Int32) (n j : Nat) (hj : j < 1000) (h : CE σ c o) : Q σ c o (bnd2 (pf_X6_number 595 0 999 σ) fun r_2 σ_2 => (pf_X10_put (61 + 1) v4 r_2 σ_2).bind fun σ_3 => bnd (nI j + 1) fun v2_4 => pf_X4_readStock_L9 pf_X4_readStock_b114 (n + 1) 594 61 v2_4 σ_3) := by
  obtain ⟨σ', g1, g2, g3⟩ := h.put (p := 61 + 1) (by unfold LM; omega) (by omega) v4 0
  rw [number_e h, bnd2_some, g1, bind_some, nI_1, bnd_e, stockL_e n (j + 1) (by omega) (by omega) g2]
  exact ⟨σ', rfl, g2, g3⟩
theorem stock75_e (v4 : Int32) (n j : Nat) (hj : j < 1000) (h : CE σ c o) : Q σ c o (pf_X4_readStock_b75 (pf_X4_readStock_L9 pf_X4_readStock_b114 (n + 1)) 594 61 (nI j) v4 σ) := by
  unfold pf_X4_readStock_b75
  rw [bnd_e, show 594 + 1 = 595 from rfl]
  have u : Un (fun i => i = 594) σ (sI σ 594 3 (gI σ 594 3 ||| ishl 1 v4)) := Un.sI _ _ rfl
  exact (stock75b_e v4 n j hj (h.un u (by omega))).tr (u.mono fun i hi => by unfold LM; omega)
theorem readL_e (n j : Nat) (h : CE σ c o) : pf_X4_read_L37 pf_X4_read_b164 (n + 1) 594 61 (nI j) σ = some (c, σ) := by
  rw [pf_X4_read_L37]
  have e : pf_X4_read_b164 594 σ = some (c, σ) := by
    unfold pf_X4_read_b164
    rw [show 594 + 1 = 595 from rfl, h.1]
  by_cases q : (800 : Int32) ≤ nI j
  · rw [if_pos q, e]
  · rw [if_neg q, show 594 + 1 = 595 from rfl, goOn_e h, bind_some, if_pos rfl, e]
end
