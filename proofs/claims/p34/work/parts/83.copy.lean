/-! COPIES of quests and ledgers in the class, and the latest states -/
theorem ck6 {α : Type} {a b : Nat} {x : Option α} (ha : alen a = 6) (hb : alen b = 6) : ckC 0 0 6 a b x = x := ckC_ok (n := 6) (by decide) (by omega) (by omega)
theorem ck48 {α : Type} {a b : Nat} {x : Option α} (ha : alen a = 48) (hb : alen b = 48) : ckC 0 0 48 a b x = x := ckC_ok (n := 48) (by decide) (by omega) (by omega)
theorem ck8 {α : Type} {a b : Nat} {x : Option α} (ha : alen a = 8) (hb : alen b = 8) : ckC 0 0 8 a b x = x := ckC_ok (n := 8) (by decide) (by omega) (by omega)
theorem ck40 {α : Type} {a b : Nat} {x : Option α} (ha : alen a = 40) (hb : alen b = 40) : ckC 0 0 40 a b x = x := ckC_ok (n := 40) (by decide) (by omega) (by omega)
theorem cp_6 (σ : St) (a b k : Nat) (h : k < 6) : gI (cpI σ a 0 b 0 6) b k = gI σ a k := (cp_row σ a b 6 (by decide) k).trans (if_pos h)
theorem cp_48 (σ : St) (a b k : Nat) (h : k < 48) : gI (cpI σ a 0 b 0 48) b k = gI σ a k := (cp_row σ a b 48 (by decide) k).trans (if_pos h)
theorem cp_8 (σ : St) (a b k : Nat) (h : k < 8) : gI (cpI σ a 0 b 0 8) b k = gI σ a k := (cp_row σ a b 8 (by decide) k).trans (if_pos h)
theorem cp_40 (σ : St) (a b k : Nat) (h : k < 40) : gI (cpI σ a 0 b 0 40) b k = gI σ a k := (cp_row σ a b 40 (by decide) k).trans (if_pos h)
theorem gL_at (σ : St) (p k : Nat) (v : Int64) : gL (sL σ p k v) p k = v := by rw [gL_sL, if_pos rfl, if_pos rfl]
theorem gL_ne (σ : St) {p a : Nat} (k b : Nat) (v : Int64) (h : a ≠ p) : gL (sL σ p k v) a b = gL σ a b := by rw [gL_sL, if_neg h]
theorem gL_nf (σ : St) {p a : Nat} (k : Nat) (v : Int64) (h : a ≠ p) : gL (sL σ p k v) a = gL σ a := funext fun b => gL_ne σ k b v h
def inR (a n : Nat) : Nat → Prop := fun i => a ≤ i ∧ i < a + n
set_option maxHeartbeats 4000000 in
theorem qcp {a b : Nat} (ha : kd a = 3) (hb : kd b = 3) (hd : a + 9 ≤ b ∨ b + 9 ≤ a) (σ : St) : ∃ σ', pf_X3_copyFrom a b σ = some σ' ∧ Un (inR a 9) σ σ' ∧ (∀ k, k < 5 → gI σ' a k = gI σ b k) ∧ gL σ' a 5 = gL σ b 5 ∧ (∀ j k, 1 ≤ j → j ≤ 5 → k < 6 → gI σ' (a + j) k = gI σ (b + j) k) ∧ (∀ j k, 6 ≤ j → j ≤ 8 → k < 48 → gI σ' (a + j) k = gI σ (b + j) k) := by
  unfold pf_X3_copyFrom
  simp only [bnd_e]
  rw [ck6 (af_X3_risk hb) (af_X3_risk ha), ck6 (af_X3_limit hb) (af_X3_limit ha), ck6 (af_X3_fails hb) (af_X3_fails ha), ck6 (af_X3_ahead hb) (af_X3_ahead ha), ck6 (af_X3_costly hb) (af_X3_costly ha), ck48 (af_X3_uses hb) (af_X3_uses ha), ck48 (af_X3_needs hb) (af_X3_needs ha), ck48 (af_X3_gives hb) (af_X3_gives ha)]
  refine ⟨_, rfl, ?_, ?_, ?_, ?_, ?_⟩
  · refine Un.trans ?_ (Un.cp _ _ _ ⟨by omega, by omega⟩)
    refine Un.trans ?_ (Un.cp _ _ _ ⟨by omega, by omega⟩)
    refine Un.trans ?_ (Un.cp _ _ _ ⟨by omega, by omega⟩)
    refine Un.trans ?_ (Un.cp _ _ _ ⟨by omega, by omega⟩)
    refine Un.trans ?_ (Un.cp _ _ _ ⟨by omega, by omega⟩)
    refine Un.trans ?_ (Un.cp _ _ _ ⟨by omega, by omega⟩)
    refine Un.trans ?_ (Un.cp _ _ _ ⟨by omega, by omega⟩)
    refine Un.trans ?_ (Un.cp _ _ _ ⟨by omega, by omega⟩)
    refine Un.trans ?_ (Un.sL _ _ ⟨by omega, by omega⟩)
    refine Un.trans ?_ (Un.sI _ _ ⟨by omega, by omega⟩)
    refine Un.trans ?_ (Un.sI _ _ ⟨by omega, by omega⟩)
    refine Un.trans ?_ (Un.sI _ _ ⟨by omega, by omega⟩)
    refine Un.trans ?_ (Un.sI _ _ ⟨by omega, by omega⟩)
    exact Un.sI _ _ ⟨by omega, by omega⟩
  · intro k hk
    rcases (by omega : k = 0 ∨ k = 1 ∨ k = 2 ∨ k = 3 ∨ k = 4) with rfl | rfl | rfl | rfl | rfl <;>
    simp (disch := omega) only [cp_ne, gI_sL, gI_ne, gI_at, gI_ns]
  · simp (disch := omega) only [cp_L, gL_at, gL_sI]
  · intro j k h1 h2 hk
    rcases (by omega : j = 1 ∨ j = 2 ∨ j = 3 ∨ j = 4 ∨ j = 5) with rfl | rfl | rfl | rfl | rfl <;>
    simp (disch := omega) only [cp_ne, cp_6, gI_sL, gI_ne]
  · intro j k h1 h2 hk
    rcases (by omega : j = 6 ∨ j = 7 ∨ j = 8) with rfl | rfl | rfl <;>
    simp (disch := omega) only [cp_ne, cp_48, gI_sL, gI_ne]
theorem kd_quest {p k : Nat} (h : kd p = 2) (hk : k < 6) : kd (p + 3 + 2 + 9 * k) = 3 := kq_16 (kf_X2_quests h) (by rw [af_X2_quests h]; exact hk)
theorem alen_quest {p : Nat} (h : kd p = 2) : alen (p + 3) = 6 := af_X2_quests h
set_option maxHeartbeats 4000000 in
theorem lcp101 {p q : Nat} (hp : kd p = 2) (hq : kd q = 2) (hd : p + 59 ≤ q ∨ q + 59 ≤ p) {N : Nat} (hN : N ≤ 800) (σ : St) (h7 : gI σ p 7 = nI N) : ∃ σ', pf_X2_copyFrom_L101 FU p q 0 σ = some σ' ∧ Un (fun i => i = p + 4) σ σ' ∧ ∀ k, k < N → gI σ' (p + 4) k = gI σ (q + 4) k := by
  refine up_C (fun n i s => pf_X2_copyFrom_L101 n p q (nI i) s) N (fun i s => Un (fun i => i = p + 4) σ s ∧ ∀ k, k < i → gI s (p + 4) k = gI σ (q + 4) k) (fun r => ∃ σ', r = some σ' ∧ Un (fun i => i = p + 4) σ σ' ∧ ∀ k, k < N → gI σ' (p + 4) k = gI σ (q + 4) k) ?_ ?_ FU 0 σ (Nat.zero_le _) ⟨Un.refl _ _, fun k hk => absurd hk (Nat.not_lt_zero _)⟩ (lt_FU (by omega))
  · intro n s ⟨h1, h2⟩
    refine ⟨s, ?_, h1, h2⟩
    show pf_X2_copyFrom_L101 (n + 1) p q (nI N) s = some s
    rw [pf_X2_copyFrom_L101, h1.I (show ¬ p = p + 4 by omega), h7, if_pos (nI_le (Nat.le_refl _) (by omega))]
  · intro n i s hi ⟨h1, h2⟩
    refine Or.inr ⟨sI s (p + 4) i (gI s (q + 4) i), ?_, h1.trans (Un.sI _ _ rfl), ?_⟩
    · show pf_X2_copyFrom_L101 (n + 1) p q (nI i) s = pf_X2_copyFrom_L101 n p q (nI (i + 1)) _
      rw [pf_X2_copyFrom_L101, h1.I (show ¬ p = p + 4 by omega), h7, if_neg (nI_ge hi (by omega)), show (800 : Int32) = nI 800 from rfl, if_neg (nI_ge (by omega) (by omega)), ckA (af_X2_worthCode hq) (by omega), ckA (af_X2_worthCode hp) (by omega)]
      simp only [bnd_e, nI_clamp (show i < 2 ^ 31 by omega), nI_1]
    · intro k hk
      by_cases e : k = i
      · subst e
        rw [gI_at, h1.I (show ¬ q + 4 = p + 4 by omega)]
      · rw [gI_ns _ _ _ e]; exact h2 k (by omega)
set_option maxHeartbeats 4000000 in
theorem lcp {p q : Nat} (hp : kd p = 2) (hq : kd q = 2) (hd : p + 59 ≤ q ∨ q + 59 ≤ p) {σ : St} {rd : Nat → Int32} (v0 : Is (rd 0) 6) (v2 : Is (rd 2) 40) (v3 : Is (rd 3) 800) (vn : ∀ k, k < Nn (rd 0) → Nn (rd (53 + 186 * k)) ≤ 6) (h : RLd σ q rd) : ∃ σ', pf_X2_copyFrom p q σ = some σ' ∧ Un (inR p 59) σ σ' ∧ RLd σ' p rd := by
  obtain ⟨r5, r2, r3, rs, rq, rQ, rw⟩ := h
  unfold pf_X2_copyFrom
  rw [ck8 (af_X2_stock hq) (af_X2_stock hp), bnd_e, ck40 (af_X2_queue hq) (af_X2_queue hp)]
  simp only [bnd_e]
  generalize hσ5 : sI (sI (sI (cpI (cpI σ (q + 1) 0 (p + 1) 0 8) (q + 2) 0 (p + 2) 0 40) p 2 (gI (cpI (cpI σ (q + 1) 0 (p + 1) 0 8) (q + 2) 0 (p + 2) 0 40) q 2)) p 3 (gI (sI (cpI (cpI σ (q + 1) 0 (p + 1) 0 8) (q + 2) 0 (p + 2) 0 40) p 2 (gI (cpI (cpI σ (q + 1) 0 (p + 1) 0 8) (q + 2) 0 (p + 2) 0 40) q 2)) q 3)) p 5 (gI (sI (sI (cpI (cpI σ (q + 1) 0 (p + 1) 0 8) (q + 2) 0 (p + 2) 0 40) p 2 (gI (cpI (cpI σ (q + 1) 0 (p + 1) 0 8) (q + 2) 0 (p + 2) 0 40) q 2)) p 3 (gI (sI (cpI (cpI σ (q + 1) 0 (p + 1) 0 8) (q + 2) 0 (p + 2) 0 40) p 2 (gI (cpI (cpI σ (q + 1) 0 (p + 1) 0 8) (q + 2) 0 (p + 2) 0 40) q 2)) q 3)) q 5) = σ5
  have u5 : Un (inR p 3) σ σ5 := by
    subst hσ5
    refine Un.trans ?_ (Un.sI _ _ ⟨by omega, by omega⟩)
    refine Un.trans ?_ (Un.sI _ _ ⟨by omega, by omega⟩)
    refine Un.trans ?_ (Un.sI _ _ ⟨by omega, by omega⟩)
    refine Un.trans ?_ (Un.cp _ _ _ ⟨by omega, by omega⟩)
    exact Un.cp _ _ _ ⟨by omega, by omega⟩
  have a5 : gI σ5 p 5 = rd 0 := by subst hσ5; simp (disch := omega) only [gI_at, gI_ne, gI_ns, cp_ne]; exact r5
  have a2 : gI σ5 p 2 = rd 2 := by subst hσ5; simp (disch := omega) only [gI_at, gI_ne, gI_ns, cp_ne]; exact r2
  have a3 : gI σ5 p 3 = rd 1 := by subst hσ5; simp (disch := omega) only [gI_at, gI_ne, gI_ns, cp_ne]; exact r3
  have as : ∀ i, i < 8 → gI σ5 (p + 1) i = rd (5 + i) := fun i hi => by subst hσ5; simp (disch := omega) only [gI_at, gI_ne, gI_ns, cp_ne, cp_8]; exact rs i hi
  have aq : ∀ k, k < Nn (rd 2) → gI σ5 (p + 2) k = rd (13 + k) := fun k hk => by
    have := v2.2
    subst hσ5; simp (disch := omega) only [gI_at, gI_ne, gI_ns, cp_ne, cp_40]; exact rq k hk
  clear hσ5
  obtain ⟨N, e0, hN, hN'⟩ := v0.get
  rw [hN'] at rQ vn
  refine up_C (fun n i s => pf_X2_copyFrom_L56 pf_X2_copyFrom_b91 n p q (nI i) s) N (fun i s => Un (inR (p + 5) 54) σ5 s ∧ ∀ k, k < i → RQ s (p + 5 + 9 * k) rd (53 + 186 * k)) (fun r => ∃ σ', r = some σ' ∧ Un (inR p 59) σ σ' ∧ RLd σ' p rd) ?_ ?_ FU 0 σ5 (Nat.zero_le _) ⟨Un.refl _ _, fun k hk => absurd hk (Nat.not_lt_zero _)⟩ (lt_FU (by omega))
  · intro n s ⟨h1, h2⟩
    show ∃ σ', pf_X2_copyFrom_L56 pf_X2_copyFrom_b91 (n + 1) p q (nI N) s = some σ' ∧ _
    rw [pf_X2_copyFrom_L56, h1.I (show ¬ inR (p + 5) 54 p from fun h => by have := h.1; omega), a5, e0, if_pos (nI_le (Nat.le_refl _) (by omega)), pf_X2_copyFrom_b91, bnd_e]
    have w7 : gI s q 7 = gI σ q 7 := by rw [h1.I (show ¬ inR (p + 5) 54 q from fun h => by have := h.1; have := h.2; omega), u5.I (show ¬ inR p 3 q from fun h => by have := h.1; have := h.2; omega)]
    have w4 : gI s (q + 4) = gI σ (q + 4) := by rw [h1.I (show ¬ inR (p + 5) 54 (q + 4) from fun h => by have := h.1; have := h.2; omega), u5.I (show ¬ inR p 3 (q + 4) from fun h => by have := h.1; have := h.2; omega)]
    have key : ∃ W, W ≤ 800 ∧ gI σ q 7 = nI W := by
      unfold RWo at rw
      rcases rw with rw | rw
      · exact ⟨0, by omega, rw.1⟩
      by_cases hz : Nn (rd 3) = 0
      · rw [if_pos hz] at rw
        exact ⟨1, by omega, rw.1⟩
      · rw [if_neg hz] at rw
        exact ⟨Nn (rd 3), v3.2, rw.1.trans v3.1⟩
    obtain ⟨W, hW, eW⟩ := key
    obtain ⟨σ', g1, g2, g3⟩ := lcp101 hp hq hd hW (sI s p 7 (gI s q 7)) (by rw [gI_at, w7, eW])
    have f4 : ∀ k, k < W → gI σ' (p + 4) k = gI σ (q + 4) k := fun k hk => by rw [g3 k hk, gI_ne _ _ _ _ (show q + 4 ≠ p by omega), w4]
    have hs : Un (inR (p + 5) 54) σ5 s := h1
    have t : ∀ i, ¬ i = p + 4 → ¬ i = p → gI σ' i = gI s i := fun i h1 h2 => by rw [g2.I h1]; exact gI_nf _ _ _ h2
    have tp : ∀ b, b ≠ 7 → gI σ' p b = gI σ5 p b := fun b hb => by rw [g2.I (show ¬ p = p + 4 by omega), gI_ns _ _ _ hb, h1.I (show ¬ inR (p + 5) 54 p from fun h => by have := h.1; omega)]
    refine ⟨σ', g1, ?_, ?_, ?_, ?_, ?_, ?_, ?_, ?_⟩
    · refine Un.trans (u5.mono (fun i hi => ⟨hi.1, by have := hi.2; omega⟩)) (Un.trans (h1.mono (fun i hi => ⟨by have := hi.1; omega, by have := hi.2; omega⟩)) (Un.trans (Un.sI _ _ ⟨by omega, by omega⟩) (g2.mono (fun i hi => ⟨by omega, by omega⟩))))
    · rw [tp 5 (by omega)]; exact a5
    · rw [tp 2 (by omega)]; exact a2
    · rw [tp 3 (by omega)]; exact a3
    · intro i hi
      rw [t (p + 1) (by omega) (by omega), h1.I (show ¬ inR (p + 5) 54 (p + 1) from fun h => by have := h.1; omega)]
      exact as i hi
    · intro i hi
      rw [t (p + 2) (by omega) (by omega), h1.I (show ¬ inR (p + 5) 54 (p + 2) from fun h => by have := h.1; omega)]
      exact aq i hi
    · intro k hk
      rw [hN'] at hk
      refine (h2 k hk).un (M := fun i => i = p ∨ i = p + 4) (Un.trans (Un.sI _ _ (Or.inl rfl)) (g2.mono (fun i hi => Or.inr hi))) (fun i h1 h2 h3 => by rcases h3 with h3 | h3 <;> omega)
    · unfold RWo at rw ⊢
      have e7 : gI σ' p 7 = gI σ q 7 := by rw [g2.I (show ¬ p = p + 4 by omega), gI_at, w7]
      rcases rw with rw | rw
      · exact Or.inl ⟨by rw [e7]; exact rw.1, rw.2⟩
      refine Or.inr ?_
      by_cases hz : Nn (rd 3) = 0
      · rw [if_pos hz] at rw ⊢
        have w1 : W = 1 := (nI_eq (b := 1) (by omega) (by omega)).mp (eW.symm.trans rw.1)
        refine ⟨by rw [e7]; exact rw.1, by rw [f4 0 (by omega)]; exact rw.2⟩
      · rw [if_neg hz] at rw ⊢
        have v38 := v3.2
        have w1 : W = Nn (rd 3) := (nI_eq (by omega) (by omega)).mp (eW.symm.trans (rw.1.trans v3.1))
        exact ⟨by rw [e7]; exact rw.1, fun k hk => by rw [f4 k (by omega)]; exact rw.2 k hk⟩
  · intro n i s hi ⟨h1, h2⟩
    have hi6 : i < 6 := by omega
    obtain ⟨s', g1, g2, g3, g4, g5, g6⟩ := qcp (kd_quest hp hi6) (kd_quest hq hi6) (by omega) s
    refine Or.inr ⟨s', ?_, ?_, ?_⟩
    · show pf_X2_copyFrom_L56 pf_X2_copyFrom_b91 (n + 1) p q (nI i) s = pf_X2_copyFrom_L56 pf_X2_copyFrom_b91 n p q (nI (i + 1)) s'
      rw [pf_X2_copyFrom_L56, h1.I (show ¬ inR (p + 5) 54 p from fun h => by have := h.1; omega), a5, e0, if_neg (nI_ge hi (by omega)), show (6 : Int32) = nI 6 from rfl, if_neg (nI_ge hi6 (by omega)), ckA (alen_quest hp) hi6, ckA (alen_quest hq) hi6, nI_clamp (by omega), g1, bind_some, bnd_e, nI_1]
    · exact h1.trans (g2.mono (fun j hj => ⟨by have := hj.1; omega, by have := hj.2; omega⟩))
    · intro k hk
      by_cases e : k = i
      · subst e
        have hr : RQ s (q + 5 + 9 * k) rd (53 + 186 * k) := ((rQ k hi).un u5 (fun j h1 h2 h3 => by have := h3.1; have := h3.2; omega)).un h1 (fun j h1 h2 h3 => by have := h3.1; have := h3.2; omega)
        exact hr.to (vn k hi) g3 g4 g5 g6
      · exact (h2 k (by omega)).un g2 (fun j h1 h2 h3 => by have := h3.1; have := h3.2; omega)
