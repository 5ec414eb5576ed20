/-! SUMS: what both readers do at the leaves -/
def FC (σ σ' : St) : Prop := Un (fun i => i = 595 ∨ i = 61 ∨ i = 65) σ σ' ∧ ∀ k, k ≠ 7 → gI σ' 61 k = gI σ 61 k
theorem FC.refl (σ : St) : FC σ σ := ⟨Un.refl _ _, fun _ _ => rfl⟩
theorem FC.trans {σ σ' σ'' : St} (h : FC σ σ') (h' : FC σ' σ'') : FC σ σ'' := ⟨h.1.trans h'.1, fun k hk => (h'.2 k hk).trans (h.2 k hk)⟩
theorem FC.r {σ σ' : St} (h : Un (fun i => i = 595) σ σ') : FC σ σ' := ⟨h.mono fun i hi => Or.inl hi, fun k _ => by rw [h.I (by omega)]⟩
theorem FC.s (σ : St) (k : Nat) (v : Int32) : FC σ (sI σ 595 k v) := FC.r (Un.sI _ _ rfl)
def bS : Nat → Prop := fun k => 16 ≤ k ∧ k ≤ 21
section
variable {σ : St} {c : Int32} {o : Nat}
theorem fac_e (rc : Nat → Nat → Nat → Int32 → St → Option St) (x : Nat) (d : Int32) (h : CE σ c o) : ∃ σ', pf_X9_readFactor rc x 595 61 d σ = some σ' ∧ CE σ' c o ∧ FC σ σ' := by
  obtain ⟨σ', g1, g2, g3⟩ := open_e h d
  refine ⟨σ', ?_, g2, FC.r g3⟩
  unfold pf_X9_readFactor
  rw [ahead_e h, bind_some, if_neg (by decide), ckT_some (by omega)]
  have : pf_X5_isVariable 3 σ = some 0 := by
    unfold pf_X5_isVariable
    rw [if_pos (by decide)]
  rw [this, bind_some, if_pos rfl, g1, bnd2_some, if_pos rfl]
theorem termL_e (rc : Nat → Nat → Nat → Int32 → St → Option St) (x : Nat) (d : Int32) (j : Nat) (hj : j < 800) (n : Nat) (h : CE σ c o) : pf_X9_readTerm_L10 rc (n + 1) x 595 61 d (nI j) σ = some σ := by
  rw [pf_X9_readTerm_L10, show (800 : Int32) = nI 800 from rfl, if_neg (nI_ge hj (by omega)), ahead_e h, bind_some, if_neg (by decide), if_neg (by decide)]
theorem sumL_e (rc : Nat → Nat → Nat → Int32 → St → Option St) (x : Nat) (d : Int32) (j : Nat) (hj : j < 800) (n : Nat) (h : CE σ c o) : pf_X9_readSum_L10 rc (n + 1) x 595 61 d (nI j) σ = some σ := by
  rw [pf_X9_readSum_L10, show (800 : Int32) = nI 800 from rfl, if_neg (nI_ge hj (by omega)), ahead_e h, bind_some, if_neg (by decide), if_neg (by decide)]
theorem term_e (rc : Nat → Nat → Nat → Int32 → St → Option St) (x : Nat) (d : Int32) (h : CE σ c o) : ∃ σ', pf_X9_readTerm rc x 595 61 d σ = some σ' ∧ CE σ' c o ∧ FC σ σ' := by
  obtain ⟨σ', g1, g2, g3⟩ := fac_e rc x d h
  refine ⟨σ', ?_, g2, g3⟩
  unfold pf_X9_readTerm
  rw [g1, bind_some]
  exact termL_e rc x d 0 (by omega) 999999 g2
end
/-! a code more -/
theorem hW_app {rd : Nat → Int32} : ∀ a b k h, hW rd (a + b) k h = (hW rd a k h).bind (hW rd b (k + a))
  | 0, b, k, h => by rw [Nat.zero_add, hW]; rfl
  | a + 1, b, k, h => by
    rw [show a + 1 + b = (a + b) + 1 by omega, hW, hW]
    by_cases c : Nn (rd (1169 + 2 * k)) ≤ 1
    · rw [if_pos c, if_pos c]
      by_cases c2 : h + 1 ≤ 11
      · rw [if_pos c2, if_pos c2, hW_app a b (k + 1) (h + 1), show k + 1 + a = k + (a + 1) by omega]
      · rw [if_neg c2, if_neg c2]; rfl
    · rw [if_neg c, if_neg c]
      by_cases c2 : 2 ≤ h
      · rw [if_pos c2, if_pos c2, hW_app a b (k + 1) (h - 1), show k + 1 + a = k + (a + 1) by omega]
      · rw [if_neg c2, if_neg c2]; rfl
theorem hW_cong {rd rd' : Nat → Int32} : ∀ n k h, (∀ j, 1169 + 2 * k ≤ j → j < 1169 + 2 * (k + n) → rd' j = rd j) → hW rd' n k h = hW rd n k h
  | 0, _, _, _ => rfl
  | n + 1, k, h, he => by
    rw [hW, hW, he (1169 + 2 * k) (by omega) (by omega)]
    have ih := fun h => hW_cong n (k + 1) h (fun j h1 h2 => he j (by omega) (by omega))
    rw [ih, ih]
theorem al65 : alen 65 = 800 := by decide +kernel
theorem appC {σ : St} {n : Nat} (e : gI σ 61 7 = nI n) (hn : n < 800) (v : Int32) : pf_X2_appendCode 61 v σ = some (sI (sI σ 65 n v) 61 7 (nI (n + 1))) := by
  unfold pf_X2_appendCode
  rw [e, show pf_X10_put (61 + 4) (nI n) v σ = _ from put_ok al65 hn, bind_some, gI_ne _ _ _ _ (by omega), e, nI_1, bnd_e]
theorem appC_F {σ : St} {n : Nat} (v : Int32) : FC σ (sI (sI σ 65 n v) 61 7 (nI (n + 1))) := ⟨(Un.sI (M := fun i => i = 595 ∨ i = 61 ∨ i = 65) _ _ (Or.inr (Or.inr rfl))).trans (Un.sI _ _ (Or.inr (Or.inl rfl))), fun k hk => by rw [gI_ns _ _ _ hk, gI_ne _ _ _ _ (by omega)]⟩
