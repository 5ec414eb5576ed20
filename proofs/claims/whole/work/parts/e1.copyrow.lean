/-! LOAD: the row that was read becomes the row at hand -/
theorem loadM {r : Nat} {τ0 τ : St} {rd0 : Nat → Int32} (hr : r < 9) (h3 : gI τ0 609 3 = nI r) (h : Wr r τ0 τ rd0) (k91 : Nat → St → (Option (Int32 × St))) : ∃ τ', pf_X11_load_L67 k91 FU 609 0 τ = k91 609 τ' ∧ Wr r τ0 τ' (fun k => if k < 4370 then gI τ0 611 k else 0) := by
  have q611 : ¬ (qA 611 ∨ 611 = 610) := by unfold qA; omega
  have z : ∀ k, 4370 ≤ k → rd0 k = 0 := fun k hk => by
    rw [← h.2.1]
    unfold RW
    rw [if_neg (by omega)]
  refine up_C (fun n i t => pf_X11_load_L67 k91 n 609 (nI i) t) 4370 (fun i t => Wr r τ0 t (fun k => if k < i then gI τ0 611 k else rd0 k)) (fun x => ∃ τ', x = k91 609 τ' ∧ Wr r τ0 τ' (fun k => if k < 4370 then gI τ0 611 k else 0)) ?_ ?_ FU 0 τ (Nat.zero_le _) ?_ (lt_FU (by omega))
  · intro n t h1
    refine ⟨t, ?_, ?_⟩
    · show pf_X11_load_L67 k91 (n + 1) 609 (nI 4370) t = _
      rw [pf_X11_load_L67, show (4370 : Int32) = nI 4370 from rfl, if_pos (nI_le (Nat.le_refl _) (by omega))]
    · have e : (fun k => if k < 4370 then gI τ0 611 k else rd0 k) = (fun k => if k < 4370 then gI τ0 611 k else 0) := by
        funext k
        by_cases c : k < 4370
        · rw [if_pos c, if_pos c]
        · rw [if_neg c, if_neg c]; exact z k (by omega)
      rw [← e]; exact h1
  · intro n i t hi h1
    have e611 : gI t 611 = gI τ0 611 := h1.1.I (by decide) q611
    obtain ⟨t', g1, g2⟩ := putR (k := i) (gI τ0 611 i) hr h3 h1 hi
    refine Or.inr ⟨t', ?_, ?_⟩
    · show pf_X11_load_L67 k91 (n + 1) 609 (nI i) t = pf_X11_load_L67 k91 n 609 (nI (i + 1)) t'
      rw [pf_X11_load_L67, show (4370 : Int32) = nI 4370 from rfl, if_neg (nI_ge hi (by omega)), ckA (show alen (609 + 2) = 4370 from al611) hi, nI_clamp (by omega), show gI t (609 + 2) i = gI τ0 611 i by rw [show 609 + 2 = 611 from rfl, e611], g1, bind_some, bnd_e, nI_1]
    · have e : up (fun k => if k < i then gI τ0 611 k else rd0 k) i (gI τ0 611 i) = (fun k => if k < i + 1 then gI τ0 611 k else rd0 k) := by
        funext k
        unfold up
        by_cases c : k = i
        · subst c; rw [if_pos rfl, if_pos (by omega)]
        · rw [if_neg c]
          show (if k < i then gI τ0 611 k else rd0 k) = if k < i + 1 then gI τ0 611 k else rd0 k
          by_cases c2 : k < i
          · rw [if_pos c2, if_pos (by omega)]
          · rw [if_neg c2, if_neg (by omega)]
      rw [← e]; exact g2
  · have e : (fun k => if k < 0 then gI τ0 611 k else rd0 k) = rd0 := by
      funext k
      rw [if_neg (Nat.not_lt_zero _)]
    rw [e]; exact h
