/-! THE TEXT: numbers, the class's scan -/
def TB8 (T : Nat → Int32) (L : Nat) : Prop := ∀ k, k < L → Is (T k) 255
theorem dig_m {x : Int32} (h : Is x 255) (hc : ck x = 1) : 48 ≤ Nn x ∧ Nn x ≤ 57 := by
  obtain ⟨n, e, hn, e2⟩ := h.get
  rw [e2]
  unfold ck at hc
  rw [e] at hc
  by_cases h0 : nI n = 32
  · rw [if_pos h0] at hc; omega
  · rw [if_neg h0] at hc
    have e48 : (nI n < 48) = (n < 48) := by
      rw [show (48 : Int32) = nI 48 from rfl]
      apply propext
      constructor
      · intro q
        rcases Nat.lt_or_ge n 48 with x | x
        · exact x
        · exact absurd q (nI_nlt x (by omega))
      · intro q; exact nI_lt q (by omega)
    have e57 : (57 < nI n) = (57 < n) := by
      rw [show (57 : Int32) = nI 57 from rfl]
      apply propext
      constructor
      · intro q
        rcases Nat.lt_or_ge 57 n with x | x
        · exact x
        · exact absurd q (nI_nlt x (by omega))
      · intro q; exact nI_lt q (by omega)
    by_cases h1 : nI n < 48
    · rw [if_pos h1] at hc
      revert hc
      repeat' split
      all_goals intro hc; omega
    · rw [if_neg h1] at hc
      by_cases h2 : 57 < nI n
      · rw [if_pos h2] at hc
        revert hc
        repeat' split
        all_goals intro hc; omega
      · rw [e48] at h1
        rw [e57] at h2
        omega
/-- the value of n digits from a on: the class's, the reference's -/
def cvl (T : Nat → Int32) (a : Nat) : Nat → Nat
  | 0 => 0
  | n + 1 => min 1000000 (10 * cvl T a n + (Nn (T (a + n)) - 48))
def rvl (T : Nat → Int32) (a : Nat) : Nat → Nat
  | 0 => 0
  | n + 1 => if rvl T a n ≤ 100000 then 10 * rvl T a n + (Nn (T (a + n)) - 48) else rvl T a n
theorem cvl_le (T : Nat → Int32) (a : Nat) : ∀ n, cvl T a n ≤ 1000000
  | 0 => Nat.zero_le _
  | n + 1 => by rw [cvl]; omega
theorem cr_vl {T : Nat → Int32} {a : Nat} : ∀ n, (∀ j, j < n → Nn (T (a + j)) ≤ 57) → ((cvl T a n = rvl T a n ∧ cvl T a n ≤ 100000) ∨ (100000 < cvl T a n ∧ 100000 < rvl T a n)) ∧ rvl T a n ≤ 1000009
  | 0, _ => ⟨Or.inl ⟨rfl, Nat.zero_le _⟩, Nat.zero_le _⟩
  | n + 1, h => by
    obtain ⟨ih, ih2⟩ := cr_vl n (fun j hj => h j (by omega))
    have hd := h n (by omega)
    rw [cvl, rvl]
    rcases ih with ⟨e, l⟩ | ⟨l1, l2⟩
    · rw [if_pos (by omega)]
      by_cases c : 10 * cvl T a n + (Nn (T (a + n)) - 48) ≤ 100000
      · exact ⟨Or.inl ⟨by omega, by omega⟩, by omega⟩
      · exact ⟨Or.inr ⟨by omega, by omega⟩, by omega⟩
    · rw [if_neg (by omega)]
      exact ⟨Or.inr ⟨by omega, by omega⟩, ih2⟩
section
variable {T : Nat → Int32} {L : Nat}
theorem numberAt_ok {σ : St} (h : TX σ T L) (hb : TB8 T L) {a e : Nat} (ha : a < e) (he : e ≤ L) (hc : ∀ i, a ≤ i → i < e → ck (T i) = 1) : pf_X6_numberAt 1 (nI a) (nI e) σ = some (nI (cvl T a (e - a))) := by
  have h8 := h.1
  unfold pf_X6_numberAt
  have key : ∀ r, pf_X6_numberAt_L5 σ FU 1 (nI e) (nI (cvl T a 0)) (nI (a + 0)) = r → r = some (nI (cvl T a (e - a))) := fun r hr => by
    rw [← hr]
    refine up_C (fun n j (_ : Unit) => pf_X6_numberAt_L5 σ n 1 (nI e) (nI (cvl T a j)) (nI (a + j))) (e - a) (fun _ _ => True) (fun r => r = some (nI (cvl T a (e - a)))) ?_ ?_ FU 0 () (Nat.zero_le _) trivial (lt_FU (by omega))
    · intro n _ _
      show pf_X6_numberAt_L5 σ (n + 1) 1 (nI e) (nI (cvl T a (e - a))) (nI (a + (e - a))) = _
      rw [pf_X6_numberAt_L5, if_pos (nI_le (by omega) (by omega))]
    · intro n j _ hj _
      refine Or.inr ⟨(), ?_, trivial⟩
      show pf_X6_numberAt_L5 σ (n + 1) 1 (nI e) (nI (cvl T a j)) (nI (a + j)) = pf_X6_numberAt_L5 σ n 1 (nI e) (nI (cvl T a (j + 1))) (nI (a + (j + 1)))
      obtain ⟨d1, d2⟩ := dig_m (hb (a + j) (by omega)) (hc (a + j) (by omega) (by omega))
      have hv := cvl_le T a j
      rw [pf_X6_numberAt_L5, if_neg (nI_ge (by omega) (by omega)), h.at (by omega), bind_some, (hb (a + j) (by omega)).1, show (10 : Int32) = nI 10 from rfl, pk_mul, nI_add, show (48 : Int32) = nI 48 from rfl, pk_sub (by omega), show (1000000 : Int32) = nI 1000000 from rfl, min7 _ _ (by omega) (by omega), bind_some, bnd_e, nI_1, cvl, show cvl T a j * 10 + Nn (T (a + j)) - 48 = 10 * cvl T a j + (Nn (T (a + j)) - 48) by omega]
      rfl
  exact key _ rfl
/-- the kind of a token -/
def tkd (T : Nat → Int32) (L k : Nat) : Nat := if tst T L k = L then 1 else if ck (T (tst T L k)) = 1 then 0 else tid T (tst T L k) (re T L (tst T L k))
theorem tidF_lt {a e : Nat} : ∀ n i, i + n ≤ 32 → tidF T a e n i < 32
  | 0, _, _ => by rw [tidF]; omega
  | n + 1, i, h => by
    rw [tidF]
    split
    · omega
    · exact tidF_lt n (i + 1) (by omega)
theorem tkd_lt (k : Nat) : tkd T L k < 32 := by
  unfold tkd
  repeat' split
  · omega
  · omega
  · exact tidF_lt 32 0 (by omega)
def scM : Nat → Prop := fun i => i = 595 ∨ i = 596 ∨ i = 597 ∨ i = 598
def SCN (σ : St) (T : Nat → Int32) (L n : Nat) : Prop := gI σ 595 3 = nI n ∧ ∀ k, k < n → gI σ 597 k = nI (tst T L k) ∧ gK σ 596 k = some (tkd T L k) ∧ (tkd T L k = 0 → gI σ 598 k = nI (cvl T (tst T L k) (re T L (tst T L k) - tst T L k)))
theorem al596 : alen 596 = 801 := by decide +kernel
theorem al597 : alen 597 = 801 := by decide +kernel
theorem al598 : alen 598 = 801 := by decide +kernel
theorem tid_0 {a e : Nat} (h : a < e) : tid T a e ≠ 0 := by
  unfold tid
  have m0 : mtc T 0 a e = false := by
    unfold mtc
    rw [decide_eq_false (show ¬ stL.getD (tkS.getD 0 0) 0 = e - a by
      show ¬ 0 = e - a
      omega)]; rfl
  rw [tidF, m0, if_neg Bool.false_ne_true]
  have : ∀ n i, 1 ≤ i → tidF T a e n i ≠ 0 := by
    intro n
    induction n with
    | zero => intro i _; rw [tidF]; omega
    | succ n ih =>
      intro i hi
      rw [tidF]
      split
      · omega
      · exact ih _ (by omega)
  exact this 31 1 (by omega)
/-- one more token noted -/
theorem note_ok {σ : St} (h : TX σ T L) (hb : TB8 T L) {n a e c : Nat} (S : SCN σ T L n) (hn : n ≤ 800) (ha : a = tst T L n) (hae : (a < L ∧ e = re T L a ∧ c = ck (T a)) ∨ (a = L ∧ e = L ∧ c = 3)) : ∃ σ', pf_X6_note 595 1 (nI a) (nI e) (nI c) σ = some σ' ∧ Un scM σ σ' ∧ (∀ k, k ≠ 3 → gI σ' 595 k = gI σ 595 k) ∧ SCN σ' T L (n + 1) := by
  have h8 := h.1
  obtain ⟨s1, s2⟩ := S
  have hc4 : c < 4 := by
    rcases hae with q | q
    · have := ck_le (T a); omega
    · omega
  have he : e ≤ L := by
    rcases hae with ⟨q1, q2, q3⟩ | q
    · have := (re_spec (T := T) q1).2.1; omega
    · omega
  have b99 : ∀ (σa : St) (w : Nat), gI σa 595 3 = nI n → pf_X6_note_b99 595 598 (nI n) (nI w) σa = some (sI (sI σa 598 n (nI w)) 595 3 (nI (n + 1))) := fun σa w q => by
    unfold pf_X6_note_b99
    rw [ckA al598 (by omega), nI_clamp (by omega), bnd_e, gI_ne _ _ _ _ (by omega), q, nI_1]; rfl
  have fin : ∀ (w : Nat) (t : Nat), t = tkd T L n → (t = 0 → w = cvl T (tst T L n) (re T L (tst T L n) - tst T L n)) → Un scM σ (sI (sI (sI (sK σ 596 n (some t)) 597 n (nI a)) 598 n (nI w)) 595 3 (nI (n + 1))) ∧ (∀ k, k ≠ 3 → gI (sI (sI (sI (sK σ 596 n (some t)) 597 n (nI a)) 598 n (nI w)) 595 3 (nI (n + 1))) 595 k = gI σ 595 k) ∧ SCN (sI (sI (sI (sK σ 596 n (some t)) 597 n (nI a)) 598 n (nI w)) 595 3 (nI (n + 1))) T L (n + 1) := fun w t ht hw => by
    refine ⟨(Un.sK _ _ (Or.inr (Or.inl rfl))).trans ((Un.sI _ _ (Or.inr (Or.inr (Or.inl rfl)))).trans ((Un.sI _ _ (Or.inr (Or.inr (Or.inr rfl)))).trans (Un.sI _ _ (Or.inl rfl)))), fun k hk => ?_, gI_at _ _ _ _, fun k hk => ?_⟩
    · rw [gI_ns _ _ _ hk, gI_ne _ _ _ _ (by omega), gI_ne _ _ _ _ (by omega)]; rfl
    · by_cases x : k = n
      · subst x
        refine ⟨?_, ?_, fun e0 => ?_⟩
        · rw [gI_ne _ _ _ _ (by omega), gI_ne _ _ _ _ (by omega), gI_at, ha]
        · rw [gK_sI, gK_sI, gK_sI, gK_sK, if_pos rfl, if_pos rfl, ht]
        · rw [gI_ne _ _ _ _ (by omega), gI_at, hw (by rw [ht]; exact e0)]
      · obtain ⟨a1, a2, a3⟩ := s2 k (by omega)
        refine ⟨?_, ?_, fun e0 => ?_⟩
        · rw [gI_ne _ _ _ _ (by omega), gI_ne _ _ _ _ (by omega), gI_ns _ _ _ x]; exact a1
        · rw [gK_sI, gK_sI, gK_sI, gK_sK, if_pos rfl, if_neg x]; exact a2
        · rw [gI_ne _ _ _ _ (by omega), gI_ns _ _ _ x, gI_ne _ _ _ _ (by omega)]; exact a3 e0
  unfold pf_X6_note
  rw [s1, if_neg (nI_pos (by omega)), show (800 : Int32) = nI 800 from rfl, if_pos (nI_le hn (by omega))]
  rcases hae with ⟨q1, q2, q3⟩ | ⟨q1, q2, q3⟩
  · obtain ⟨r1, r2, r3, r4, r5⟩ := re_spec (T := T) q1
    rw [← q2] at r1 r2 r3 r4 r5
    have hne : ¬ tst T L n = L := by omega
    rw [if_neg (show ¬ nI a = nI e by rw [nI_eq (by omega) (by omega)]; omega)]
    by_cases c1 : c = 1
    · have ec : ck (T a) = 1 := by rw [← q3]; exact c1
      have ek : tkd T L n = 0 := by
        unfold tkd
        rw [if_neg hne, ← ha, if_pos ec]
      have hdig : ∀ i, a ≤ i → i < e → ck (T i) = 1 := fun i h1 h2 => by rw [r3 i h1 h2, ec]
      obtain ⟨f1, f2, f3⟩ := fin (cvl T a (e - a)) 0 ek.symm (fun _ => by rw [← ha, ← q2])
      refine ⟨_, ?_, f1, f2, f3⟩
      rw [if_pos (show nI c = (1 : Int32) by rw [c1]; rfl)]
      unfold pf_X6_note_b64
      rw [show ckI (nI n) (alen (595 + 1)) _ = _ from ckA al596 (by omega), ckT_some (by omega), nI_clamp (by omega), bnd_e]
      unfold pf_X6_note_b65
      have g3 : gI (sK σ (595 + 1) n (some 0)) 595 3 = nI n := s1
      rw [g3, show ckI (nI n) (alen (595 + 2)) _ = _ from ckA al597 (by omega), nI_clamp (by omega), bnd_e, if_pos (show nI c = (1 : Int32) by rw [c1]; rfl)]
      have hX : TX (sI (sK σ (595 + 1) n (some 0)) (595 + 2) n (nI a)) T L := ⟨h8, fun k hk => by rw [gI_ne _ _ _ _ (by omega)]; exact h.2 k hk⟩
      rw [numberAt_ok hX hb r1 r2 hdig, bind_some, gI_ne _ _ _ _ (by omega), g3]
      exact b99 _ _ (by rw [gI_ne _ _ _ _ (by omega)]; exact g3)
    · have ec : ¬ ck (T a) = 1 := by rw [← q3]; exact c1
      have ek : tkd T L n = tid T a e := by
        unfold tkd
        rw [if_neg hne, ← ha, if_neg ec, ← q2]
      have ht0 := tid_0 (T := T) r1
      obtain ⟨f1, f2, f3⟩ := fin 0 (tid T a e) ek.symm (fun q => absurd q ht0)
      refine ⟨_, ?_, f1, f2, f3⟩
      rw [if_neg (show ¬ nI c = (1 : Int32) by rw [show (1 : Int32) = nI 1 from rfl, nI_eq (by omega) (by omega)]; exact c1), tokenAt_ok h r1 r2, bind_some]
      unfold pf_X6_note_b64
      rw [show ckI (nI n) (alen (595 + 1)) _ = _ from ckA al596 (by omega), ckT_some (by rw [← ek]; exact tkd_lt n), nI_clamp (by omega), bnd_e]
      unfold pf_X6_note_b65
      have g3 : gI (sK σ (595 + 1) n (some (tid T a e))) 595 3 = nI n := s1
      rw [g3, show ckI (nI n) (alen (595 + 2)) _ = _ from ckA al597 (by omega), nI_clamp (by omega), bnd_e, if_neg (show ¬ nI c = (1 : Int32) by rw [show (1 : Int32) = nI 1 from rfl, nI_eq (by omega) (by omega)]; exact c1), gI_ne _ _ _ _ (by omega), g3]
      exact b99 _ 0 (by rw [gI_ne _ _ _ _ (by omega)]; exact g3)
  · subst q1
    have ek : tkd T a n = 1 := by
      unfold tkd
      rw [if_pos ha.symm]
    obtain ⟨f1, f2, f3⟩ := fin 0 1 ek.symm (fun q => absurd q (by omega))
    refine ⟨_, ?_, f1, f2, f3⟩
    rw [if_pos (by rw [q2]), show ckI (nI n) (alen (595 + 1)) _ = _ from ckA al596 (by omega), ckT_some (by omega), nI_clamp (by omega), bnd_e]
    unfold pf_X6_note_b65
    have g3 : gI (sK σ (595 + 1) n (some 1)) 595 3 = nI n := s1
    rw [g3, show ckI (nI n) (alen (595 + 2)) _ = _ from ckA al597 (by omega), nI_clamp (by omega), bnd_e, if_neg (show ¬ nI c = (1 : Int32) by rw [q3]; decide), gI_ne _ _ _ _ (by omega), g3]
    exact b99 _ 0 (by rw [gI_ne _ _ _ _ (by omega)]; exact g3)
end
