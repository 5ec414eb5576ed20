/-! THE TEXT: the class's scan, whole -/
section
variable {T : Nat → Int32} {L : Nat}
theorem goesOn_ok {c : Nat} (hc : c < 4) (x : Int32) (σ : St) : pf_X6_goesOn (nI c) x σ = some (b2i (decide (c ≠ 3 ∧ c = ck x))) := by
  have hx := ck_le x
  unfold pf_X6_goesOn
  by_cases h3 : c = 3
  · rw [if_pos (by rw [h3]; rfl), decide_eq_false (fun q => q.1 h3)]; rfl
  · rw [if_neg (show ¬ nI c = (3 : Int32) by rw [show (3 : Int32) = nI 3 from rfl, nI_eq (by omega) (by omega)]; exact h3), kindOf_ok, bind_some]
    by_cases e : c = ck x
    · rw [if_pos (by rw [← e]), decide_eq_true ⟨h3, e⟩]; rfl
    · rw [if_neg (by rw [nI_eq (by omega) (by omega)]; exact e), decide_eq_false (fun q => e q.2)]; rfl
theorem endOfRun_ok {σ : St} (h : TX σ T L) {i : Nat} (hi : i < L) : pf_X6_endOfRun 1 (nI i) (nI L) σ = some (nI (re T L i)) := by
  have h8 := h.1
  have hc := ck_le (T i)
  unfold pf_X6_endOfRun
  rw [h.at hi, bind_some, kindOf_ok, bind_some, nI_1, bnd_e]
  have fin : ∀ j, i + 1 ≤ j → j ≤ L → (∀ m, i + 1 ≤ m → m < j → ck (T m) = ck (T i)) → (ck (T i) = 3 → j = i + 1) → (j = L ∨ ck (T i) = 3 ∨ ck (T j) ≠ ck (T i)) → re T L i = j := fun j h1 h2 h3 h4 h5 => by
    unfold re
    by_cases c : ck (T i) = 3
    · rw [if_pos c, h4 c]
    · rw [if_neg c]
      exact ru_uniq h1 (fun m a b => ⟨by omega, h3 m a b⟩) (fun q => by
        rcases h5 with x | x | x
        · omega
        · exact c x
        · exact x q.2)
  refine up_C (fun n j (_ : Unit) => pf_X6_endOfRun_L14 σ n 1 (nI L) (nI (ck (T i))) (nI j)) L (fun j _ => i + 1 ≤ j ∧ (∀ m, i + 1 ≤ m → m < j → ck (T m) = ck (T i)) ∧ (ck (T i) = 3 → j = i + 1)) (fun r => r = some (nI (re T L i))) ?_ ?_ FU (i + 1) () hi ⟨Nat.le_refl _, fun m a b => by omega, fun _ => rfl⟩ (lt_FU (by omega))
  · intro n _ ⟨h1, h2, h3⟩
    show pf_X6_endOfRun_L14 σ (n + 1) 1 (nI L) (nI (ck (T i))) (nI L) = _
    rw [pf_X6_endOfRun_L14, if_pos (nI_le (Nat.le_refl _) (by omega)), fin L h1 (Nat.le_refl _) h2 h3 (Or.inl rfl)]
  · intro n j _ hj ⟨h1, h2, h3⟩
    have st : pf_X6_endOfRun_L14 σ (n + 1) 1 (nI L) (nI (ck (T i))) (nI j) = if decide (ck (T i) ≠ 3 ∧ ck (T i) = ck (T j)) = true then pf_X6_endOfRun_L14 σ n 1 (nI L) (nI (ck (T i))) (nI (j + 1)) else some (nI j) := by
      rw [pf_X6_endOfRun_L14, if_neg (nI_ge hj (by omega)), h.at hj, bind_some, goesOn_ok (by omega), bind_some, if_b2, bnd_e, nI_1]
    by_cases q : ck (T i) ≠ 3 ∧ ck (T i) = ck (T j)
    · refine Or.inr ⟨(), ?_, by omega, fun m a b => ?_, fun e => absurd e q.1⟩
      · show pf_X6_endOfRun_L14 σ (n + 1) 1 (nI L) (nI (ck (T i))) (nI j) = pf_X6_endOfRun_L14 σ n 1 (nI L) (nI (ck (T i))) (nI (j + 1))
        rw [st, decide_eq_true q, if_pos rfl]
      · by_cases x : m = j
        · subst x; exact q.2.symm
        · exact h2 m a (by omega)
    · left
      show pf_X6_endOfRun_L14 σ (n + 1) 1 (nI L) (nI (ck (T i))) (nI j) = _
      rw [st, decide_eq_false q, if_neg Bool.false_ne_true, fin j h1 (by omega) h2 h3 (by
        by_cases c : ck (T i) = 3
        · exact Or.inr (Or.inl c)
        · exact Or.inr (Or.inr fun e => q ⟨c, e.symm⟩))]
theorem tok_at {n i : Nat} (hi : i < L) (hk : ∀ k, k < n → tst T L k < i) (hn : i ≤ tst T L n) : tst T L n = i ↔ ck (T i) ≠ 0 ∧ (i = 0 ∨ ck (T i) = 3 ∨ ck (T i) ≠ ck (T (i - 1))) := by
  constructor
  · intro e
    have ns := tst_ns (T := T) (L := L) n (by omega)
    rw [e] at ns
    refine ⟨ns, ?_⟩
    by_cases c0 : i = 0
    · exact Or.inl c0
    · by_cases c3 : ck (T i) = 3
      · exact Or.inr (Or.inl c3)
      · refine Or.inr (Or.inr fun eq => ?_)
        cases n with
        | zero =>
          have := (ru_spec (T := T) (L := L) 0 0).2.1 (i - 1) (Nat.zero_le _) (by
            show i - 1 < tst T L 0
            omega)
          exact ns (eq.trans this.2)
        | succ m =>
          have hm := hk m (by omega)
          obtain ⟨r1, r2, r3, r4, r5⟩ := re_spec (T := T) (L := L) (p := tst T L m) (by omega)
          obtain ⟨b1, b2, b3, b4⟩ := ru_spec (T := T) (L := L) 0 (re T L (tst T L m))
          have e' : ru T L 0 (re T L (tst T L m)) = i := e
          rw [e'] at b1 b2
          by_cases x : re T L (tst T L m) ≤ i - 1
          · exact ns (eq.trans (b2 (i - 1) x (by omega)).2)
          · have x' : re T L (tst T L m) = i := by omega
            have hp := r3 (i - 1) (by omega) (by omega)
            rw [x'] at r4
            by_cases c : ck (T (tst T L m)) = 3
            · exact c3 (by rw [eq, hp, c])
            · exact r4 c ⟨hi, by rw [eq, hp]⟩
  · intro ⟨ns, hc⟩
    by_cases x : tst T L n = i
    · exact x
    · exfalso
      cases n with
      | zero =>
        exact ns ((ru_spec (T := T) (L := L) 0 0).2.1 i (Nat.zero_le _) (by
          show i < tst T L 0
          omega)).2
      | succ m =>
        have hm := hk m (by omega)
        obtain ⟨r1, r2, r3, r4, r5⟩ := re_spec (T := T) (L := L) (p := tst T L m) (by omega)
        obtain ⟨b1, b2, b3, b4⟩ := ru_spec (T := T) (L := L) 0 (re T L (tst T L m))
        have e' : tst T L (m + 1) = ru T L 0 (re T L (tst T L m)) := rfl
        by_cases y : re T L (tst T L m) ≤ i
        · exact ns (b2 i y (by omega)).2
        · have h1 := r3 i (by omega) (by omega)
          have h2 := r3 (i - 1) (by omega) (by omega)
          rcases hc with c | c | c
          · omega
          · have := r5 (by rw [← h1]; exact c)
            omega
          · exact c (by rw [h1, h2])
def SCD (σ : St) (T : Nat → Int32) (L N : Nat) : Prop := SCN σ T L (N + 1) ∧ tst T L N = L ∧ (∀ k, k < N → tst T L k < L) ∧ N ≤ L
theorem scan_ok {σ : St} (h : TX σ T L) (hb : TB8 T L) : ∃ σ' N, pf_X6_scan 595 1 (nI L) σ = some σ' ∧ Un scM σ σ' ∧ SCD σ' T L N ∧ gI σ' 595 4 = 0 ∧ gI σ' 595 5 = 0 ∧ gI σ' 595 6 = -1 := by
  have h8 := h.1
  unfold pf_X6_scan
  simp only [bnd_e]
  generalize hσ0 : sI (sI (sI (sI σ 595 3 0) 595 4 0) 595 5 0) 595 6 (-1) = σ0
  have u0 : Un scM σ σ0 := by
    rw [← hσ0]
    exact (Un.sI _ _ (Or.inl rfl)).trans ((Un.sI _ _ (Or.inl rfl)).trans ((Un.sI _ _ (Or.inl rfl)).trans (Un.sI _ _ (Or.inl rfl))))
  have z3 : gI σ0 595 3 = nI 0 := by rw [← hσ0, gI_ns _ _ _ (by decide), gI_ns _ _ _ (by decide), gI_ns _ _ _ (by decide), gI_at]; rfl
  have z4 : gI σ0 595 4 = 0 := by rw [← hσ0, gI_ns _ _ _ (by decide), gI_ns _ _ _ (by decide), gI_at]
  have z5 : gI σ0 595 5 = 0 := by rw [← hσ0, gI_ns _ _ _ (by decide), gI_at]
  have z6 : gI σ0 595 6 = -1 := by rw [← hσ0, gI_at]
  have m1 : ¬ scM 1 := by unfold scM; omega
  refine up_C (fun n i t => pf_X6_scan_L22 pf_X6_scan_b81 n 595 1 (nI L) (nI i) t) L (fun i t => Un scM σ0 t ∧ (∀ k, k ≠ 3 → gI t 595 k = gI σ0 595 k) ∧ ∃ m, m ≤ i ∧ SCN t T L m ∧ i ≤ tst T L m ∧ ∀ k, k < m → tst T L k < i) (fun x => ∃ σ' N, x = some σ' ∧ Un scM σ σ' ∧ SCD σ' T L N ∧ gI σ' 595 4 = 0 ∧ gI σ' 595 5 = 0 ∧ gI σ' 595 6 = -1) ?_ ?_ FU 0 σ0 (Nat.zero_le _) ⟨Un.refl _ _, fun _ _ => rfl, 0, Nat.le_refl _, ⟨z3, fun k hk => absurd hk (Nat.not_lt_zero _)⟩, Nat.zero_le _, fun k hk => absurd hk (Nat.not_lt_zero _)⟩ (lt_FU (by omega))
  · intro n t ⟨h1, h2, m, h3, h4, h5, h6⟩
    have hX : TX t T L := (h.un u0 m1).un h1 m1
    have hL : tst T L m ≤ L := by
      cases m with
      | zero => exact tst_0
      | succ m => exact (tst_lt (h6 m (by omega))).2
    have eL : L = tst T L m := by omega
    obtain ⟨t1, g1, g2, g3, g4⟩ := note_ok hX hb h4 (by omega) eL (Or.inr ⟨rfl, rfl, rfl⟩)
    refine ⟨t1, m, ?_, u0.trans (h1.trans g2), ⟨g4, eL.symm, h6, h3⟩, by rw [g3 _ (by decide), h2 _ (by decide)]; exact z4, by rw [g3 _ (by decide), h2 _ (by decide)]; exact z5, by rw [g3 _ (by decide), h2 _ (by decide)]; exact z6⟩
    show pf_X6_scan_L22 pf_X6_scan_b81 (n + 1) 595 1 (nI L) (nI L) t = _
    rw [pf_X6_scan_L22, if_pos (nI_le (Nat.le_refl _) (by omega)), pf_X6_scan_b81, show (3 : Int32) = nI 3 from rfl, g1]; rfl
  · intro n i t hi ⟨h1, h2, m, h3, h4, h5, h6⟩
    have hX : TX t T L := (h.un u0 m1).un h1 m1
    have hck := ck_le (T i)
    have ta := tok_at hi h6 h5
    right
    have skip : tst T L m ≠ i → ∃ t', pf_X6_scan_b75 (pf_X6_scan_L22 pf_X6_scan_b81 n) 595 1 (nI L) (nI i) t = pf_X6_scan_L22 pf_X6_scan_b81 n 595 1 (nI L) (nI (i + 1)) t' ∧ (Un scM σ0 t' ∧ (∀ k, k ≠ 3 → gI t' 595 k = gI σ0 595 k) ∧ ∃ m, m ≤ i + 1 ∧ SCN t' T L m ∧ i + 1 ≤ tst T L m ∧ ∀ k, k < m → tst T L k < i + 1) := fun q => ⟨t, by rw [pf_X6_scan_b75, bnd_e, nI_1], h1, h2, m, by omega, h4, by omega, fun k hk => by have := h6 k hk; omega⟩
    have take : tst T L m = i → ∃ t', pf_X6_scan_b61 (pf_X6_scan_L22 pf_X6_scan_b81 n) 595 1 (nI L) (nI i) (nI (ck (T i))) t = pf_X6_scan_L22 pf_X6_scan_b81 n 595 1 (nI L) (nI (i + 1)) t' ∧ (Un scM σ0 t' ∧ (∀ k, k ≠ 3 → gI t' 595 k = gI σ0 595 k) ∧ ∃ m, m ≤ i + 1 ∧ SCN t' T L m ∧ i + 1 ≤ tst T L m ∧ ∀ k, k < m → tst T L k < i + 1) := fun q => by
      obtain ⟨t1, g1, g2, g3, g4⟩ := note_ok hX hb h4 (by omega) q.symm (Or.inl ⟨hi, rfl, rfl⟩)
      have hlt := (tst_lt (T := T) (L := L) (k := m) (by omega)).1
      refine ⟨t1, ?_, h1.trans g2, fun k hk => (g3 k hk).trans (h2 k hk), m + 1, by omega, g4, by omega, fun k hk => ?_⟩
      · unfold pf_X6_scan_b61
        rw [endOfRun_ok hX hi, bind_some, g1, bind_some, pf_X6_scan_b75, bnd_e, nI_1]
      · by_cases x : k = m
        · subst x; omega
        · have := h6 k (by omega); omega
    show ∃ t', pf_X6_scan_L22 pf_X6_scan_b81 (n + 1) 595 1 (nI L) (nI i) t = pf_X6_scan_L22 pf_X6_scan_b81 n 595 1 (nI L) (nI (i + 1)) t' ∧ _
    rw [pf_X6_scan_L22, if_neg (nI_ge hi (by omega)), hX.at hi, bind_some, kindOf_ok, bind_some, if_0 (by omega)]
    by_cases c0 : ck (T i) = 0
    · rw [if_pos c0]
      exact skip fun q => (ta.mp q).1 c0
    · rw [if_neg c0]
      by_cases i0 : i = 0
      · rw [if_pos (show nI i ≤ 0 by rw [i0]; decide)]
        exact take (ta.mpr ⟨c0, Or.inl i0⟩)
      · rw [if_neg (show ¬ nI i ≤ (0 : Int32) from nI_ge (show 0 < i by omega) (by omega)), show (1 : Int32) = nI 1 from rfl, pk_sub (by omega), hX.at (by omega), bind_some, goesOn_ok (by omega), bind_some, if_b2]
        by_cases q : ck (T i) ≠ 3 ∧ ck (T i) = ck (T (i - 1))
        · rw [decide_eq_true q, if_pos rfl]
          exact skip fun e => by
            rcases (ta.mp e).2 with x | x | x
            · exact i0 x
            · exact q.1 x
            · exact x q.2
        · rw [decide_eq_false q, if_neg Bool.false_ne_true]
          refine take (ta.mpr ⟨c0, Or.inr ?_⟩)
          by_cases c3 : ck (T i) = 3
          · exact Or.inl c3
          · exact Or.inr fun e => q ⟨c3, e⟩
end
