/-! GOALS: what both readers do, side by side -/
def FCg (d : Nat) (σ σ' : St) : Prop := Un (fun i => i = 595 ∨ i = 600) σ σ' ∧ ∀ k, k < 7 * d → gL σ' 600 k = gL σ 600 k
theorem FCg.refl (d : Nat) (σ : St) : FCg d σ σ := ⟨Un.refl _ _, fun _ _ => rfl⟩
theorem FCg.trans {d : Nat} {σ σ' σ'' : St} (h : FCg d σ σ') (h' : FCg d σ' σ'') : FCg d σ σ'' := ⟨h.1.trans h'.1, fun k hk => (h'.2 k hk).trans (h.2 k hk)⟩
theorem FCg.r {d : Nat} {σ σ' : St} (h : Un (fun i => i = 595) σ σ') : FCg d σ σ' := ⟨h.mono fun i hi => Or.inl hi, fun k _ => by rw [h.L (by omega)]⟩
theorem FCg.s {d : Nat} (σ : St) (k : Nat) (v : Int32) : FCg d σ (sI σ 595 k v) := FCg.r (Un.sI _ _ rfl)
theorem FCg.dn {d : Nat} {σ σ' : St} (h : FCg (d + 1) σ σ') : FCg d σ σ' := ⟨h.1, fun k hk => h.2 k (by omega)⟩
theorem FCg.t {d : Nat} {σ σ' : St} (h : Un (fun i => i = 600) σ σ') (h2 : ∀ k, k < 7 * d → gL σ' 600 k = gL σ 600 k) : FCg d σ σ' := ⟨h.mono fun i hi => Or.inr hi, h2⟩
def GV (g : Int64) (S : Nat) : Prop := gbit g 0 = false ∧ ∀ u, u < 64 → gbit g (u % 2 ^ S) = gbit g u
section
variable {T : Nat → Int32} {L N S : Nat}
theorem gbit_m1 : ∀ u, u < 64 → gbit (-1) u = true := by decide +kernel
theorem init_ok (rc : Nat → Nat → Int32 → Int32 → St → Option (Int64 × St)) (k45 : Nat → Nat → Int32 → Int32 → Int32 → Int32 → St → (Option (Int64 × St))) {d : Nat} (hd : d ≤ 3) (v2 v4 v5 : Int32) (σ : St) : ∃ σ', pf_X0_readGroup_L13 rc k45 FU 599 595 v2 (nI d) v4 v5 0 σ = k45 599 595 v2 (nI d) v4 v5 σ' ∧ Un (fun i => i = 600) σ σ' ∧ TL σ' d (fun _ => 0) ∧ ∀ k, k < 7 * d → gL σ' 600 k = gL σ 600 k := by
  refine up_C (fun n i t => pf_X0_readGroup_L13 rc k45 n 599 595 v2 (nI d) v4 v5 (nI i) t) 7 (fun i t => Un (fun i => i = 600) σ t ∧ (∀ j, j < i → ∀ u, u < 64 → gbit (gL t 600 (7 * d + j)) u = decide (j ≤ 0)) ∧ ∀ k, k < 7 * d → gL t 600 k = gL σ 600 k) (fun x => ∃ σ', x = k45 599 595 v2 (nI d) v4 v5 σ' ∧ Un (fun i => i = 600) σ σ' ∧ TL σ' d (fun _ => 0) ∧ ∀ k, k < 7 * d → gL σ' 600 k = gL σ 600 k) ?_ ?_ FU 0 σ (Nat.zero_le _) ⟨Un.refl _ _, fun j hj => absurd hj (Nat.not_lt_zero _), fun _ _ => rfl⟩ (lt_FU (by omega))
  · intro n t ⟨h1, h2, h3⟩
    refine ⟨t, ?_, h1, fun i hi u hu => h2 i (by omega) u hu, h3⟩
    show pf_X0_readGroup_L13 rc k45 (n + 1) 599 595 v2 (nI d) v4 v5 (nI 7) t = _
    rw [pf_X0_readGroup_L13, show (7 : Int32) = nI 7 from rfl, if_pos (nI_le (Nat.le_refl _) (by omega))]
  · intro n i t hi ⟨h1, h2, h3⟩
    refine Or.inr ⟨sL t 600 (7 * d + i) (if i = 0 then -1 else 0), ?_, h1.trans (Un.sL _ _ rfl), fun j hj u hu => ?_, fun k hk => ?_⟩
    · show pf_X0_readGroup_L13 rc k45 (n + 1) 599 595 v2 (nI d) v4 v5 (nI i) t = pf_X0_readGroup_L13 rc k45 n 599 595 v2 (nI d) v4 v5 (nI (i + 1)) _
      rw [pf_X0_readGroup_L13, show (7 : Int32) = nI 7 from rfl, if_neg (nI_ge hi (by omega)), if_0 (by omega)]
      by_cases c : i = 0
      · rw [if_pos c, if_pos c]
        unfold pf_X0_readGroup_b36
        rw [putTally_ok _ hd (by omega), bind_some, bnd_e, nI_1]
      · rw [if_neg c, if_neg c]
        unfold pf_X0_readGroup_b36
        rw [putTally_ok _ hd (by omega), bind_some, bnd_e, nI_1]
    · rw [gL_sL, if_pos rfl]
      by_cases e : j = i
      · subst e
        rw [if_pos rfl]
        by_cases c : j = 0
        · rw [if_pos c, gbit_m1 u hu, decide_eq_true (by omega)]
        · rw [if_neg c, gbit_0, decide_eq_false (by omega)]
      · rw [if_neg (by omega)]; exact h2 j (by omega) u hu
    · rw [gL_sL, if_pos rfl, if_neg (by omega)]; exact h3 k hk
theorem TL.un {M : Nat → Prop} {σ σ' : St} {d : Nat} {c : Nat → Nat} (h : TL σ d c) (u : Un M σ σ') (hm : ¬ M 600) : TL σ' d c := fun i hi v hv => by rw [u.L hm]; exact h i hi v hv
theorem TL.fc {σ σ' : St} {d : Nat} {c : Nat → Nat} (h : TL σ d c) (u : FCg (d + 1) σ σ') : TL σ' d c := fun i hi v hv => by rw [u.2 _ (by omega)]; exact h i hi v hv
theorem TL.cg {σ : St} {d : Nat} {c c' : Nat → Nat} (h : TL σ d c) (e : ∀ u, u < 64 → c' u = c u) : TL σ d c' := fun i hi v hv => by rw [e v hv]; exact h i hi v hv
end
