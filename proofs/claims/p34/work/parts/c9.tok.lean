/-! THE TEXT: tokens and words are the same -/
section
variable {T : Nat → Int32} {L : Nat}
theorem tk_uniqB : ∀ j, j < 32 → ∀ i, i < 32 → 4 ≤ i → stL.getD (tkS.getD j 0) 0 = stL.getD (tkS.getD i 0) 0 → ((List.range 6).all fun t => !decide (t < stL.getD (tkS.getD i 0) 0) || decide ((stB.getD (tkS.getD j 0) []).getD t 0 = (stB.getD (tkS.getD i 0) []).getD t 0)) = true → j = i := by decide +kernel
theorem tk_uniq (j : Nat) (hj : j < 32) (i : Nat) (hi : i < 32) (h4 : 4 ≤ i) (hl : stL.getD (tkS.getD j 0) 0 = stL.getD (tkS.getD i 0) 0) (h : ∀ t, t < 6 → t < stL.getD (tkS.getD i 0) 0 → (stB.getD (tkS.getD j 0) []).getD t 0 = (stB.getD (tkS.getD i 0) []).getD t 0) : j = i := by
  refine tk_uniqB j hj i hi h4 hl ?_
  rw [List.all_eq_true]
  intro t ht
  have ht6 : t < 6 := List.mem_range.mp ht
  by_cases c : t < stL.getD (tkS.getD i 0) 0
  · rw [h t ht6 c]; simp
  · rw [decide_eq_false c]; rfl
theorem tidF_of {a e i : Nat} (hi : i < 32) (h4 : 4 ≤ i) (hm : mtc T i a e = true) : ∀ n j, j ≤ i → i < j + n → j + n ≤ 32 → tidF T a e n j = i
  | 0, _, h1, h2, _ => by omega
  | n + 1, j, h1, h2, h3 => by
    rw [tidF]
    by_cases c : mtc T j a e = true
    · rw [if_pos c]
      obtain ⟨a1, a2⟩ := mtc_iff.mp c
      obtain ⟨b1, b2⟩ := mtc_iff.mp hm
      exact tk_uniq j (by omega) i hi h4 (a1.trans b1.symm) fun t _ ht => by rw [a2 t (by omega), b2 t (by omega)]
    · rw [if_neg c]
      have : j ≠ i := fun e => c (e ▸ hm)
      exact tidF_of hi h4 hm n (j + 1) (by omega) (by omega) (by omega)
theorem tidF_m {a e : Nat} : ∀ n j, tidF T a e n j ≠ 2 → mtc T (tidF T a e n j) a e = true
  | 0, j, h => absurd (by rw [tidF]) h
  | n + 1, j, h => by
    rw [tidF] at h ⊢
    by_cases c : mtc T j a e = true
    · rw [if_pos c]; exact c
    · rw [if_neg c] at h ⊢
      exact tidF_m n (j + 1) h
theorem tid_iff {a e i : Nat} (hi : i < 32) (h4 : 4 ≤ i) : tid T a e = i ↔ mtc T i a e = true := by
  constructor
  · intro h
    have := tidF_m (T := T) (a := a) (e := e) 32 0 (by show tid T a e ≠ 2; omega)
    rw [show tidF T a e 32 0 = i from h] at this
    exact this
  · intro h
    exact tidF_of hi h4 h 32 0 (Nat.zero_le _) (by omega) (by omega)
theorem tkd_tid {k i : Nat} (h4 : 4 ≤ i) : tkd T L k = i ↔ tst T L k ≠ L ∧ ck (T (tst T L k)) ≠ 1 ∧ tid T (tst T L k) (re T L (tst T L k)) = i := by
  unfold tkd
  by_cases c1 : tst T L k = L
  · rw [if_pos c1]
    exact ⟨fun h => by omega, fun h => absurd c1 h.1⟩
  · rw [if_neg c1]
    by_cases c2 : ck (T (tst T L k)) = 1
    · rw [if_pos c2]
      exact ⟨fun h => by omega, fun h => absurd c2 h.2.1⟩
    · rw [if_neg c2]
      exact ⟨fun h => ⟨c1, c2, h⟩, fun h => h.2.2⟩
theorem tkd_0 {k : Nat} (hL : tst T L k ≤ L) : tkd T L k = 0 ↔ tst T L k < L ∧ ck (T (tst T L k)) = 1 := by
  unfold tkd
  by_cases c1 : tst T L k = L
  · rw [if_pos c1]
    exact ⟨fun h => by omega, fun h => by omega⟩
  · rw [if_neg c1]
    by_cases c2 : ck (T (tst T L k)) = 1
    · rw [if_pos c2]
      exact ⟨fun _ => ⟨by omega, c2⟩, fun _ => rfl⟩
    · rw [if_neg c2]
      exact ⟨fun h => absurd h (tid_0 (re_spec (T := T) (show tst T L k < L by omega)).1), fun h => absurd h.2 c2⟩
theorem tkd_1 {k : Nat} (hL : tst T L k ≤ L) : tkd T L k = 1 ↔ tst T L k = L := by
  constructor
  · intro h
    by_cases c1 : tst T L k = L
    · exact c1
    · unfold tkd at h
      rw [if_neg c1] at h
      by_cases c2 : ck (T (tst T L k)) = 1
      · rw [if_pos c2] at h; omega
      · rw [if_neg c2] at h
        have hm := tidF_m (T := T) (a := tst T L k) (e := re T L (tst T L k)) 32 0 (by show tid T _ _ ≠ 2; omega)
        rw [show tidF T (tst T L k) (re T L (tst T L k)) 32 0 = 1 from h] at hm
        have := (mtc_iff.mp hm).1
        have h2 := (re_spec (T := T) (show tst T L k < L by omega)).1
        have h0 : stL.getD (tkS.getD 1 0) 0 = 0 := rfl
        omega
  · intro h
    unfold tkd
    rw [if_pos h]
/-- a word of the class and a word of the reference -/
def wdP (i w : Nat) : Bool := decide (4 ≤ i) && decide (i ≤ 23) && decide (stB.getD (tkS.getD i 0) [] = stB.getD w []) && decide (stL.getD (tkS.getD i 0) 0 = stL.getD w 0)
theorem wd_ck : ∀ i, i < 24 → 4 ≤ i → 2 ≤ stL.getD (tkS.getD i 0) 0 ∧ ∀ t, t < 6 → t < stL.getD (tkS.getD i 0) 0 → ck ((stB.getD (tkS.getD i 0) []).getD t 0) = 2 := by decide +kernel
theorem ru_2 {a : Nat} (h : a < L) (hc : ck (T a) = 2) : ru T L 2 a = re T L a := by
  unfold re
  rw [hc, if_neg (by decide)]
  obtain ⟨r1, r2, r3, _⟩ := ru_spec (T := T) (L := L) 2 (a + 1)
  refine ru_uniq (by omega) (fun i h1 h2 => ?_) r3
  by_cases e : i = a
  · subst e; exact ⟨h, hc⟩
  · exact r2 i (by omega) h2
/-- a sign -/
theorem sg_ck : ∀ i, i < 32 → 24 ≤ i → stL.getD (tkS.getD i 0) 0 = 1 ∧ ck ((stB.getD (tkS.getD i 0) []).getD 0 0) = 3 := by decide +kernel
theorem sign_iff {i k : Nat} {c : Int32} (h24 : 24 ≤ i) (hi : i < 32) (hc : (stB.getD (tkS.getD i 0) []).getD 0 0 = c) (hL : tst T L k ≤ L) : tkd T L k = i ↔ tst T L k < L ∧ T (tst T L k) = c := by
  obtain ⟨s1, s2⟩ := sg_ck i hi h24
  rw [hc] at s2
  rw [tkd_tid (by omega), tid_iff hi (by omega), mtc_iff, s1]
  constructor
  · intro ⟨h1, h2, h3, h4⟩
    have := h4 0 (by omega)
    rw [hc] at this
    exact ⟨by omega, this.symm⟩
  · intro ⟨h1, h2⟩
    have e := (re_spec (T := T) h1).2.2.2.2 (by rw [h2]; exact s2)
    refine ⟨by omega, by rw [h2, s2]; decide, by omega, fun j hj => ?_⟩
    rw [show j = 0 by omega, hc]
    exact h2.symm
theorem sign_next {k : Nat} {c : Int32} (h1 : tst T L k < L) (h2 : T (tst T L k) = c) (h3 : ck c = 3) : ru T L 0 (tst T L k + 1) = tst T L (k + 1) := by
  have e := (re_spec (T := T) h1).2.2.2.2 (by rw [h2]; exact h3)
  rw [← e]; rfl
theorem num_next {k : Nat} (h1 : tst T L k < L) (h2 : ck (T (tst T L k)) = 1) : ru T L 1 (tst T L k) = re T L (tst T L k) := by
  unfold re
  rw [h2, if_neg (by decide)]
  obtain ⟨r1, r2, r3, _⟩ := ru_spec (T := T) (L := L) 1 (tst T L k + 1)
  refine ru_uniq (by omega) (fun i a b => ?_) r3
  by_cases e : i = tst T L k
  · subst e; exact ⟨h1, h2⟩
  · exact r2 i (by omega) b
end
