/-! THE PURE SIDE: the game's methods in closed form -/
noncomputable def doneA (τ : St) : Nat → Int32
  | 0 => 0
  | k + 1 => doneA τ k ||| (if gI τ (1005 + 4 * k) 5 = 0 then 0 else ishl 1 (nI k))
theorem done_L {τ : St} {n v0 : Nat} (hn : gI τ 1001 2 = nI n) (h4 : n ≤ 4) : ∀ (j k f : Nat), k + j = n → j < f → pf_X11_done_L4 τ f v0 (doneA τ k) (nI k) = some (doneA τ n) := by
  intro j
  induction j with
  | zero =>
    intro k f hk hf
    obtain ⟨f, rfl⟩ : ∃ g, f = g + 1 := ⟨f - 1, by omega⟩
    obtain rfl : k = n := by omega
    rw [pf_X11_done_L4.eq_2, hn, if_pos (Int32.le_refl _)]
  | succ j ih =>
    intro k f hk hf
    obtain ⟨f, rfl⟩ : ∃ g, f = g + 1 := ⟨f - 1, by omega⟩
    have e := ih (k + 1) f (by omega) (by omega)
    rw [pf_X11_done_L4.eq_2, hn, if_neg (nI_ge (by omega) (by omega)), nI_clamp (by omega), nI_clamp (by omega)]
    unfold ckI
    rw [if_neg (nI_in (by omega) (by omega))]
    by_cases c : gI τ (1005 + 4 * k) 5 = 0
    · have e2 : doneA τ (k + 1) = doneA τ k ||| 0 := by
        show doneA τ k ||| _ = _
        rw [if_pos c]
      rw [if_pos c]
      unfold pf_X11_done_b40 bnd
      rw [nI_1, ← e2]
      exact e
    · have e2 : doneA τ (k + 1) = doneA τ k ||| ishl 1 (nI k) := by
        show doneA τ k ||| _ = _
        rw [if_neg c]
      rw [if_neg c]
      unfold pf_X11_done_b40 bnd
      rw [nI_1, ← e2]
      exact e
theorem done_eq {τ : St} {n : Nat} (hn : gI τ 1001 2 = nI n) (h4 : n ≤ 4) : pf_X11_done 1000 τ = some (doneA τ n) := by
  unfold pf_X11_done
  exact done_L hn h4 n 0 FU (by omega) (by unfold FU; omega)
