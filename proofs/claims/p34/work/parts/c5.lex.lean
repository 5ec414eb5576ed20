/-! THE TEXT: runs, tokens -/
def ck (x : Int32) : Nat := if x = 32 then 0 else if x < 48 then (if x < 97 then 3 else if 122 < x then 3 else 2) else if 57 < x then (if x < 97 then 3 else if 122 < x then 3 else 2) else 1
theorem ck_le (x : Int32) : ck x ≤ 3 := by
  unfold ck
  repeat' split
  all_goals omega
theorem kindOf_ok (x : Int32) (σ : St) : pf_X6_kindOf x σ = some (nI (ck x)) := by
  unfold pf_X6_kindOf pf_X6_kindOf_b22 ck
  repeat' split
  all_goals rfl
def rn (T : Nat → Int32) (L c : Nat) : Nat → Nat → Nat
  | 0, p => p
  | n + 1, p => if p < L ∧ ck (T p) = c then rn T L c n (p + 1) else p
/-- the end of a run of bytes of one kind -/
def ru (T : Nat → Int32) (L c p : Nat) : Nat := rn T L c (L - p) p
section
variable {T : Nat → Int32} {L : Nat}
theorem rn_spec (c : Nat) : ∀ n p, n = L - p → p ≤ rn T L c n p ∧ (∀ i, p ≤ i → i < rn T L c n p → i < L ∧ ck (T i) = c) ∧ ¬ (rn T L c n p < L ∧ ck (T (rn T L c n p)) = c) ∧ (p ≤ L → rn T L c n p ≤ L)
  | 0, p, h => ⟨Nat.le_refl _, fun i h1 h2 => absurd h2 (by show ¬ i < p; omega), fun q => by have : p < L := q.1; omega, fun h => h⟩
  | n + 1, p, h => by
    rw [rn]
    by_cases c0 : p < L ∧ ck (T p) = c
    · rw [if_pos c0]
      obtain ⟨a1, a2, a3, a4⟩ := rn_spec c n (p + 1) (by omega)
      refine ⟨by omega, fun i h1 h2 => ?_, a3, fun _ => a4 (by omega)⟩
      by_cases e : i = p
      · subst e; exact c0
      · exact a2 i (by omega) h2
    · rw [if_neg c0]
      exact ⟨Nat.le_refl _, fun i h1 h2 => absurd h2 (by omega), c0, fun h => h⟩
theorem ru_spec (c p : Nat) : p ≤ ru T L c p ∧ (∀ i, p ≤ i → i < ru T L c p → i < L ∧ ck (T i) = c) ∧ ¬ (ru T L c p < L ∧ ck (T (ru T L c p)) = c) ∧ (p ≤ L → ru T L c p ≤ L) := rn_spec c _ p rfl
theorem ru_uniq {c p q : Nat} (h1 : p ≤ q) (h2 : ∀ i, p ≤ i → i < q → i < L ∧ ck (T i) = c) (h3 : ¬ (q < L ∧ ck (T q) = c)) : ru T L c p = q := by
  obtain ⟨a1, a2, a3, _⟩ := ru_spec (T := T) (L := L) c p
  rcases Nat.lt_trichotomy (ru T L c p) q with x | x | x
  · exact absurd (h2 _ a1 x) a3
  · exact x
  · exact absurd (a2 q h1 x) h3
/-- the end of the token that begins at p -/
def re (T : Nat → Int32) (L p : Nat) : Nat := if ck (T p) = 3 then p + 1 else ru T L (ck (T p)) (p + 1)
theorem re_spec {p : Nat} (h : p < L) : p < re T L p ∧ re T L p ≤ L ∧ (∀ i, p ≤ i → i < re T L p → ck (T i) = ck (T p)) ∧ (ck (T p) ≠ 3 → ¬ (re T L p < L ∧ ck (T (re T L p)) = ck (T p))) ∧ (ck (T p) = 3 → re T L p = p + 1) := by
  unfold re
  by_cases c : ck (T p) = 3
  · rw [if_pos c]
    exact ⟨by omega, by omega, fun i h1 h2 => by rw [show i = p by omega], fun q => absurd c q, fun _ => rfl⟩
  · rw [if_neg c]
    obtain ⟨a1, a2, a3, a4⟩ := ru_spec (T := T) (L := L) (ck (T p)) (p + 1)
    refine ⟨by omega, a4 (by omega), fun i h1 h2 => ?_, fun _ => a3, fun q => absurd q c⟩
    by_cases e : i = p
    · rw [e]
    · exact (a2 i (by omega) h2).2
/-- the places where tokens begin; at the end the end -/
def tst (T : Nat → Int32) (L : Nat) : Nat → Nat
  | 0 => ru T L 0 0
  | k + 1 => ru T L 0 (re T L (tst T L k))
theorem tst_ns (k : Nat) (h : tst T L k < L) : ck (T (tst T L k)) ≠ 0 := fun e => by
  cases k with
  | zero => exact (ru_spec (T := T) (L := L) 0 0).2.2.1 ⟨h, e⟩
  | succ k => exact (ru_spec (T := T) (L := L) 0 (re T L (tst T L k))).2.2.1 ⟨h, e⟩
theorem tst_lt {k : Nat} (h : tst T L k < L) : tst T L k < tst T L (k + 1) ∧ tst T L (k + 1) ≤ L := by
  obtain ⟨a1, a2, _⟩ := re_spec (T := T) h
  obtain ⟨b1, _, _, b4⟩ := ru_spec (T := T) (L := L) 0 (re T L (tst T L k))
  exact ⟨Nat.lt_of_lt_of_le a1 b1, b4 a2⟩
theorem tst_0 : tst T L 0 ≤ L := (ru_spec (T := T) (L := L) 0 0).2.2.2 (Nat.zero_le _)
/-- which token a run is -/
def mtc (T : Nat → Int32) (i a e : Nat) : Bool := decide (stL.getD (tkS.getD i 0) 0 = e - a) && (List.range (e - a)).all fun j => decide ((stB.getD (tkS.getD i 0) []).getD j 0 = T (a + j))
def tidF (T : Nat → Int32) (a e : Nat) : Nat → Nat → Nat
  | 0, _ => 2
  | n + 1, i => if mtc T i a e then i else tidF T a e n (i + 1)
def tid (T : Nat → Int32) (a e : Nat) : Nat := tidF T a e 32 0
theorem mtc_iff {i a e : Nat} : mtc T i a e = true ↔ stL.getD (tkS.getD i 0) 0 = e - a ∧ ∀ j, j < e - a → (stB.getD (tkS.getD i 0) []).getD j 0 = T (a + j) := by
  unfold mtc
  simp [List.all_eq_true]
theorem tk_len : ∀ i, i < 32 → stL.getD (tkS.getD i 0) 0 ≤ 6 := by decide +kernel
/-- the bytes lie in the class's buffer -/
def TX (σ : St) (T : Nat → Int32) (L : Nat) : Prop := L ≤ 800 ∧ ∀ k, k < L → gI σ 1 k = T k
theorem TX.at {σ : St} (h : TX σ T L) {k : Nat} (hk : k < L) : pf_X10_at 1 (nI k) σ = some (T k) := by
  rw [at_ok al1 (by have := h.1; omega), h.2 k hk]
theorem TX.un {σ σ' : St} {M : Nat → Prop} (h : TX σ T L) (u : Un M σ σ') (hm : ¬ M 1) : TX σ' T L := ⟨h.1, fun k hk => by rw [u.I hm]; exact h.2 k hk⟩
theorem stands_ok {σ : St} (h : TX σ T L) {i a e : Nat} (hi : i < 32) (ha : a < e) (he : e ≤ L) : pf_X5_stands i 1 (nI a) (nI e) σ = some (b2i (mtc T i a e)) := by
  have h8 := h.1
  have hl := tk_len i hi
  unfold pf_X5_stands
  rw [pk_sub (by omega)]
  by_cases c : stL.getD (tkS.getD i 0) 0 = e - a
  · rw [c, if_pos rfl]
    refine up_C (fun n j (_ : Unit) => pf_X5_stands_L18 σ n i 1 (nI a) (nI j)) (e - a) (fun j _ => ∀ k, k < j → (stB.getD (tkS.getD i 0) []).getD k 0 = T (a + k)) (fun r => r = some (b2i (mtc T i a e))) ?_ ?_ FU 0 () (Nat.zero_le _) (fun k hk => absurd hk (Nat.not_lt_zero _)) (lt_FU (by omega))
    · intro n _ h1
      show pf_X5_stands_L18 σ (n + 1) i 1 (nI a) (nI (e - a)) = _
      rw [pf_X5_stands_L18, c, if_pos (nI_le (Nat.le_refl _) (by omega)), mtc_iff.mpr ⟨c, h1⟩]; rfl
    · intro n j _ hj h1
      have st : pf_X5_stands_L18 σ (n + 1) i 1 (nI a) (nI j) = if (stB.getD (tkS.getD i 0) []).getD j 0 = T (a + j) then pf_X5_stands_L18 σ n i 1 (nI a) (nI (j + 1)) else some 0 := by
        rw [pf_X5_stands_L18, c, if_neg (nI_ge hj (by omega)), ckI_nI hj (by omega), nI_add, h.at (by omega), bind_some, nI_clamp (by omega), bnd_e, nI_1]
      by_cases q : (stB.getD (tkS.getD i 0) []).getD j 0 = T (a + j)
      · refine Or.inr ⟨(), ?_, fun k hk => ?_⟩
        · show pf_X5_stands_L18 σ (n + 1) i 1 (nI a) (nI j) = pf_X5_stands_L18 σ n i 1 (nI a) (nI (j + 1))
          rw [st, if_pos q]
        · by_cases x : k = j
          · subst x; exact q
          · exact h1 k (by omega)
      · left
        show pf_X5_stands_L18 σ (n + 1) i 1 (nI a) (nI j) = _
        have : mtc T i a e = false := by
          cases m : mtc T i a e with
          | false => rfl
          | true => exact absurd ((mtc_iff.mp m).2 j hj) q
        rw [st, if_neg q, this]; rfl
  · have : mtc T i a e = false := by
      unfold mtc
      rw [decide_eq_false c]; rfl
    rw [if_neg (by rw [nI_eq (by omega) (by omega)]; exact c), this]; rfl
theorem ckT_some {α : Type} {t : Nat} (ht : t < 32) (f : Nat → Option α) : ckT (some t) f = f t := if_pos ht
theorem tokenAt_ok {σ : St} (h : TX σ T L) {a e : Nat} (ha : a < e) (he : e ≤ L) : pf_X6_tokenAt 1 (nI a) (nI e) σ = some (some (tid T a e)) := by
  unfold pf_X6_tokenAt
  refine up_C (fun n j (_ : Unit) => pf_X6_tokenAt_L2 σ (pf_X6_tokenAt_b24 σ) n 1 (nI a) (nI e) (nI j)) 32 (fun j _ => tid T a e = tidF T a e (32 - j) j) (fun r => r = some (some (tid T a e))) ?_ ?_ FU 0 () (Nat.zero_le _) rfl (lt_FU (by omega))
  · intro n _ h1
    show pf_X6_tokenAt_L2 σ (pf_X6_tokenAt_b24 σ) (n + 1) 1 (nI a) (nI e) (nI 32) = _
    rw [pf_X6_tokenAt_L2, show (32 : Int32) = nI 32 from rfl, if_pos (nI_le (Nat.le_refl _) (by omega)), h1]; rfl
  · intro n j _ hj h1
    rw [show 32 - j = (32 - (j + 1)) + 1 by omega, tidF] at h1
    have st : pf_X6_tokenAt_L2 σ (pf_X6_tokenAt_b24 σ) (n + 1) 1 (nI a) (nI e) (nI j) = if mtc T j a e = true then some (some j) else pf_X6_tokenAt_L2 σ (pf_X6_tokenAt_b24 σ) n 1 (nI a) (nI e) (nI (j + 1)) := by
      rw [pf_X6_tokenAt_L2, show (32 : Int32) = nI 32 from rfl, if_neg (nI_ge hj (by omega)), ckI_nI hj (by omega), nI_clamp (by omega), ckT_some hj, stands_ok h hj ha he, bind_some, if_b2, bnd_e, nI_1, pf_X6_tokenAt_b24, ckI_nI hj (by omega), nI_clamp (by omega)]
    cases m : mtc T j a e with
    | true =>
      left
      rw [m, if_pos rfl] at h1
      show pf_X6_tokenAt_L2 σ (pf_X6_tokenAt_b24 σ) (n + 1) 1 (nI a) (nI e) (nI j) = _
      rw [st, m, if_pos rfl, h1]
    | false =>
      right
      rw [m, if_neg Bool.false_ne_true] at h1
      refine ⟨(), ?_, h1⟩
      show pf_X6_tokenAt_L2 σ (pf_X6_tokenAt_b24 σ) (n + 1) 1 (nI a) (nI e) (nI j) = pf_X6_tokenAt_L2 σ (pf_X6_tokenAt_b24 σ) n 1 (nI a) (nI e) (nI (j + 1))
      rw [st, m, if_neg Bool.false_ne_true]
end
