/-! GOALS: the class's tally -/
theorem al600 : alen 600 = 28 := by decide +kernel
def TL (σ : St) (d : Nat) (c : Nat → Nat) : Prop := ∀ i, i ≤ 6 → ∀ u, u < 64 → gbit (gL σ 600 (7 * d + i)) u = decide (i ≤ c u)
theorem tallied_ok {σ : St} {d i : Nat} (hd : d ≤ 3) (hi : i ≤ 6) : pf_X0_tallied 599 (nI d) (nI i) σ = some (gL σ 600 (7 * d + i)) := by
  unfold pf_X0_tallied
  rw [show (7 : Int32) = nI 7 from rfl, pk_mul, nI_add, bnd_e, if_neg (nI_pos (by omega)), show alen (599 + 1) = 28 from al600, if_neg (nI_ge (by omega) (by omega)), ckI_nI (by omega) (by omega), nI_clamp (by omega), show d * 7 + i = 7 * d + i by omega]
theorem putTally_ok {σ : St} {d i : Nat} (g : Int64) (hd : d ≤ 3) (hi : i ≤ 6) : pf_X0_putTally 599 (nI d) (nI i) g σ = some (sL σ 600 (7 * d + i) g) := by
  unfold pf_X0_putTally
  rw [show (7 : Int32) = nI 7 from rfl, pk_mul, nI_add, bnd_e, if_neg (nI_pos (by omega)), show alen (599 + 1) = 28 from al600, if_neg (nI_ge (by omega) (by omega)), ckI_nI (by omega) (by omega), nI_clamp (by omega), bnd_e, show d * 7 + i = 7 * d + i by omega]
theorem tally_ok {σ : St} {d : Nat} {c : Nat → Nat} (g : Int64) (hd : d ≤ 3) (h : TL σ d c) : ∃ σ', pf_X0_tally 599 (nI d) g σ = some σ' ∧ Un (fun i => i = 600) σ σ' ∧ TL σ' d (fun u => c u + (gbit g u).toNat) ∧ ∀ k, k < 7 * d → gL σ' 600 k = gL σ 600 k := by
  unfold pf_X0_tally
  refine dn_C (fun n i t => pf_X0_tally_L4 n 599 (nI d) g (nI i) t) (fun i t => Un (fun i => i = 600) σ t ∧ i ≤ 6 ∧ (∀ j, j ≤ i → gL t 600 (7 * d + j) = gL σ 600 (7 * d + j)) ∧ (∀ j, i < j → j ≤ 6 → ∀ u, u < 64 → gbit (gL t 600 (7 * d + j)) u = decide (j ≤ c u + (gbit g u).toNat)) ∧ ∀ k, k < 7 * d → gL t 600 k = gL σ 600 k) (fun x => ∃ σ', x = some σ' ∧ Un (fun i => i = 600) σ σ' ∧ TL σ' d (fun u => c u + (gbit g u).toNat) ∧ ∀ k, k < 7 * d → gL σ' 600 k = gL σ 600 k) ?_ ?_ FU 6 σ ⟨Un.refl _ _, Nat.le_refl _, fun j _ => rfl, fun j a b => by omega, fun _ _ => rfl⟩ (lt_FU (by omega))
  · intro n t ⟨h1, h2, h3, h4, h5⟩
    refine ⟨t, ?_, h1, fun i hi u hu => ?_, h5⟩
    · show pf_X0_tally_L4 (n + 1) 599 (nI d) g (nI 0) t = _
      rw [pf_X0_tally_L4, if_pos (by decide)]
    · by_cases e : i = 0
      · subst e
        rw [h3 0 (Nat.le_refl _), h 0 (by omega) u hu]
        simp
      · exact h4 i (by omega) hi u hu
  · intro n i t ⟨h1, h2, h3, h4, h5⟩
    refine Or.inr ⟨sL t 600 (7 * d + (i + 1)) (gL t 600 (7 * d + (i + 1)) ||| (gL t 600 (7 * d + i) &&& g)), ?_, h1.trans (Un.sL _ _ rfl), by omega, fun j hj => ?_, fun j a b u hu => ?_, fun k hk => ?_⟩
    · show pf_X0_tally_L4 (n + 1) 599 (nI d) g (nI (i + 1)) t = pf_X0_tally_L4 n 599 (nI d) g (nI i) _
      rw [pf_X0_tally_L4, if_neg (show ¬ nI (i + 1) ≤ (0 : Int32) from nI_ge (show 0 < i + 1 by omega) (by omega)), tallied_ok hd h2, bind_some, show (1 : Int32) = nI 1 from rfl, pk_sub (by omega), show i + 1 - 1 = i by omega, tallied_ok hd (by omega), bind_some, putTally_ok _ hd h2, bind_some, bnd_e, show nI (i + 1) + -nI 1 = nI i from by rw [show -nI 1 = iI (-1) from rfl, ← iI_nat, iI_add, ← iI_nat]; congr 1; omega]
    · rw [gL_sL, if_pos rfl, if_neg (by omega)]; exact h3 j (by omega)
    · rw [gL_sL, if_pos rfl]
      by_cases e : j = i + 1
      · subst e
        rw [if_pos rfl, gbit_or, gbit_and, h3 (i + 1) (Nat.le_refl _), h3 i (by omega), h (i + 1) h2 u hu, h i (by omega) u hu]
        cases gbit g u
        · simp
        · simp only [Bool.toNat_true, Bool.and_true]
          by_cases x : i ≤ c u
          · rw [decide_eq_true x, decide_eq_true (show i + 1 ≤ c u + 1 by omega)]; simp
          · rw [decide_eq_false x, decide_eq_false (show ¬ i + 1 ≤ c u + 1 by omega), decide_eq_false (show ¬ i + 1 ≤ c u by omega)]; rfl
      · rw [if_neg (by omega)]; exact h4 j (by omega) b u hu
    · rw [gL_sL, if_pos rfl, if_neg (by omega)]; exact h5 k hk
