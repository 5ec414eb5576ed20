/-! LOAD: how both readers begin -/
theorem beginC (σ : St) : ∃ σ', pf_X4_begin 594 61 σ = some σ' ∧ Un (fun i => i = 594 ∨ i = 61 ∨ i = 62 ∨ i = 65) σ σ' ∧ gI σ' 61 2 = 0 ∧ gI σ' 61 3 = 0 ∧ gI σ' 61 5 = 0 ∧ gI σ' 61 7 = nI 1 ∧ (∀ i, i < 8 → gI σ' 62 i = 0) ∧ gI σ' 65 0 = -5 ∧ gI σ' 594 3 = 0 ∧ gI σ' 594 4 = 0 ∧ gI σ' 594 5 = 0 := by
  obtain ⟨σ1, g1, g2, g3⟩ := fill_ok 62 0 σ
  have a62 : alen 62 = 8 := al62
  unfold pf_X4_begin pf_X2_clear
  simp only [bnd_e]
  rw [show pf_J7_fill_53178 (61 + 1) 0 σ = _ from g1, bind_some, bind_some]
  have e7 : gI (sI (sI (sI (sI σ1 61 2 0) 61 3 0) 61 5 0) 61 7 0) 61 7 = nI 0 := gI_at _ _ _ _
  rw [appC e7 (by omega), bind_some]
  refine ⟨_, rfl, ?_, ?_, ?_, ?_, ?_, fun i hi => ?_, ?_, ?_, ?_, ?_⟩
  · refine (g2.mono fun i hi => by omega).trans ?_
    have s : ∀ (t : St) (p k : Nat) (v : Int32), (p = 594 ∨ p = 61 ∨ p = 62 ∨ p = 65) → Un (fun i => i = 594 ∨ i = 61 ∨ i = 62 ∨ i = 65) t (sI t p k v) := fun t p k v hp => Un.sI _ _ hp
    exact (s _ _ _ _ (by omega)).trans ((s _ _ _ _ (by omega)).trans ((s _ _ _ _ (by omega)).trans ((s _ _ _ _ (by omega)).trans ((s _ _ _ _ (by omega)).trans ((s _ _ _ _ (by omega)).trans ((s _ _ _ _ (by omega)).trans ((s _ _ _ _ (by omega)).trans (s _ _ _ _ (by omega)))))))))
  · simp [gI_sI]
  · simp [gI_sI]
  · simp [gI_sI]
  · simp [gI_sI]
  · simp [gI_sI]; exact g3 i (by omega)
  · simp [gI_sI]
  · simp [gI_sI]
  · simp [gI_sI]
  · simp [gI_sI]
theorem clearM (τ : St) (k22 : Nat → St → (Option (Int32 × St))) : ∃ τ', pf_X11_readsLedger_L2 k22 FU 609 0 τ = k22 609 τ' ∧ MU (fun i => i = 611) (fun _ => False) τ τ' ∧ ∀ k, k < 4370 → gI τ' 611 k = 0 := by
  refine up_C (fun n i t => pf_X11_readsLedger_L2 k22 n 609 (nI i) t) 4370 (fun i t => MU (fun i => i = 611) (fun _ => False) τ t ∧ ∀ k, k < i → gI t 611 k = 0) (fun x => ∃ τ', x = k22 609 τ' ∧ MU (fun i => i = 611) (fun _ => False) τ τ' ∧ ∀ k, k < 4370 → gI τ' 611 k = 0) ?_ ?_ FU 0 τ (Nat.zero_le _) ⟨MU.refl _ _ _, fun k hk => absurd hk (Nat.not_lt_zero _)⟩ (lt_FU (by omega))
  · intro n t ⟨h1, h2⟩
    refine ⟨t, ?_, h1, h2⟩
    show pf_X11_readsLedger_L2 k22 (n + 1) 609 (nI 4370) t = _
    rw [pf_X11_readsLedger_L2, show (4370 : Int32) = nI 4370 from rfl, if_pos (nI_le (Nat.le_refl _) (by omega))]
  · intro n i t hi ⟨h1, h2⟩
    refine Or.inr ⟨sI t 611 i 0, ?_, h1.trans (MU.arr (p := 611) _ _ rfl (by decide)), fun k hk => ?_⟩
    · show pf_X11_readsLedger_L2 k22 (n + 1) 609 (nI i) t = pf_X11_readsLedger_L2 k22 n 609 (nI (i + 1)) _
      rw [pf_X11_readsLedger_L2, show (4370 : Int32) = nI 4370 from rfl, if_neg (nI_ge hi (by omega)), ckA (show alen (609 + 2) = 4370 from al611) hi, nI_clamp (by omega), bnd_e, bnd_e, nI_1]
    · by_cases e : k = i
      · subst e; exact gI_at _ _ _ _
      · rw [gI_ns _ _ _ e]; exact h2 k (by omega)
