/-! GOALS: the class goes on quietly after an error -/
theorem tallied_tot (v w : Int32) (σ : St) : ∃ r, pf_X0_tallied 599 v w σ = some r := by
  unfold pf_X0_tallied
  rw [bnd_e]
  generalize v * 7 + w = x
  rcases v_cases x (n := 28) (by omega) with hv | ⟨j, hj, rfl⟩
  · by_cases c : x < 0
    · rw [if_pos c]; exact ⟨_, rfl⟩
    · rw [if_neg c, show alen (599 + 1) = 28 from al600, if_pos (hv.resolve_left c)]; exact ⟨_, rfl⟩
  · rw [if_neg (nI_pos (by omega)), show alen (599 + 1) = 28 from al600, if_neg (nI_ge hj (by omega)), ckI_nI hj (by omega)]
    exact ⟨_, rfl⟩
theorem putTally_tot (v w : Int32) (g : Int64) (σ : St) : ∃ σ', pf_X0_putTally 599 v w g σ = some σ' ∧ Un (fun i => i = 600) σ σ' := by
  unfold pf_X0_putTally
  rw [bnd_e]
  generalize v * 7 + w = x
  rcases v_cases x (n := 28) (by omega) with hv | ⟨j, hj, rfl⟩
  · by_cases c : x < 0
    · rw [if_pos c]; exact ⟨_, rfl, Un.refl _ _⟩
    · rw [if_neg c, show alen (599 + 1) = 28 from al600, if_pos (hv.resolve_left c)]; exact ⟨_, rfl, Un.refl _ _⟩
  · rw [if_neg (nI_pos (by omega)), show alen (599 + 1) = 28 from al600, if_neg (nI_ge hj (by omega)), ckI_nI hj (by omega)]
    exact ⟨_, rfl, Un.sL _ _ rfl⟩
theorem tally_tot (v : Int32) (g : Int64) (σ : St) : ∃ σ', pf_X0_tally 599 v g σ = some σ' ∧ Un (fun i => i = 600) σ σ' := by
  unfold pf_X0_tally
  refine dn_C (fun n i t => pf_X0_tally_L4 n 599 v g (nI i) t) (fun i t => Un (fun i => i = 600) σ t ∧ i ≤ 6) (fun x => ∃ σ', x = some σ' ∧ Un (fun i => i = 600) σ σ') ?_ ?_ FU 6 σ ⟨Un.refl _ _, Nat.le_refl _⟩ (lt_FU (by omega))
  · intro n t ⟨h1, h2⟩
    refine ⟨t, ?_, h1⟩
    show pf_X0_tally_L4 (n + 1) 599 v g (nI 0) t = _
    rw [pf_X0_tally_L4, if_pos (by decide)]
  · intro n i t ⟨h1, h2⟩
    obtain ⟨a, ha⟩ := tallied_tot v (nI (i + 1)) t
    obtain ⟨b, hb⟩ := tallied_tot v (nI i) t
    obtain ⟨t', g1, g2⟩ := putTally_tot v (nI (i + 1)) (a ||| (b &&& g)) t
    refine Or.inr ⟨t', ?_, h1.trans g2, by omega⟩
    show pf_X0_tally_L4 (n + 1) 599 v g (nI (i + 1)) t = pf_X0_tally_L4 n 599 v g (nI i) t'
    rw [pf_X0_tally_L4, if_neg (show ¬ nI (i + 1) ≤ (0 : Int32) from nI_ge (show 0 < i + 1 by omega) (by omega)), ha, bind_some, show (1 : Int32) = nI 1 from rfl, pk_sub (by omega), show i + 1 - 1 = i by omega, hb, bind_some, g1, bind_some, bnd_e, show nI (i + 1) + -nI 1 = nI i from by rw [show -nI 1 = iI (-1) from rfl, ← iI_nat, iI_add, ← iI_nat]; congr 1; omega]
section
variable {σ : St} {c : Int32} {o : Nat}
theorem group99_e (rc : Nat → Nat → Int32 → Int32 → St → Option (Int64 × St)) (v3 v4 : Int32) (h : CE σ c o) : ∃ r, pf_X0_readGroup_b99 rc 599 595 v3 v4 σ = some (r, σ) := by
  obtain ⟨r, hr⟩ := tallied_tot v3 v4 σ
  unfold pf_X0_readGroup_b99
  rw [expect_e h (by omega), bind_some, hr, bind_some]
  exact ⟨r, rfl⟩
theorem group62_e (rc : Nat → Nat → Int32 → Int32 → St → Option (Int64 × St)) (v2 v3 v4 v5 v6 : Int32) (n : Nat) (h : CE σ c o) : ∃ r, pf_X0_readGroup_L62 rc (pf_X0_readGroup_b99 rc) (n + 1) 599 595 v2 v3 v4 v5 v6 σ = some (r, σ) := by
  obtain ⟨r, hr⟩ := group99_e rc v3 v4 h
  rw [pf_X0_readGroup_L62]
  by_cases q : v5 ≤ v6
  · rw [if_pos q]; exact ⟨r, hr⟩
  · rw [if_neg q, take_e h (by omega), bnd2_some, if_pos rfl]; exact ⟨r, hr⟩
theorem single_e (rc : Nat → Nat → Int32 → Int32 → St → Option (Int64 × St)) (v2 v3 : Int32) (h : CE σ c o) : ∃ r σ', pf_X0_readSingle rc 599 595 v2 v3 σ = some (r, σ') ∧ CE σ' c o ∧ Un (fun i => i = 595) σ σ' := by
  obtain ⟨σ', g1, g2, g3⟩ := open_e h v3
  unfold pf_X0_readSingle pf_X0_readGroup
  rw [ahead_e h, bind_some, if_neg (by decide), g1, bnd2_some, if_pos rfl, bnd2_some]
  exact ⟨_, σ', rfl, g2, g3⟩
theorem goalL_e (rc : Nat → Nat → Int32 → Int32 → St → Option (Int64 × St)) (v2 v3 : Int32) (v4 v6 : Int64) (j : Nat) (n : Nat) (h : CE σ c o) (hj : j < 800) : pf_X0_readGoal_L15 rc (pf_X0_readGoal_b77 rc) (pf_X0_readGoal_b89 rc) (n + 1) 599 595 v2 v3 v4 v6 (nI j) σ = some (v4 ||| v6, σ) := by
  rw [pf_X0_readGoal_L15, show (800 : Int32) = nI 800 from rfl, if_neg (nI_ge hj (by omega)), take_e h (by omega), bnd2_some, if_pos rfl, take_e h (by omega), bnd2_some, if_pos rfl]
  rfl
end
