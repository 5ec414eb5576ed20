/-! THE PURE SIDE: the text's tokens, one behind another -/
theorem tB_app {pre s t : List Nat} (h : t = pre ++ s) (i : Nat) : tB t (pre.length + i) = nI (s.getD i 0) := by
  subst h
  unfold tB
  rw [List.getD_eq_getElem?_getD, List.getElem?_append_right (Nat.le_add_right _ _), Nat.add_sub_cancel_left, List.getD_eq_getElem?_getD]
/-- behind k tokens stands s (perhaps with blanks ahead) -/
def RT (t : List Nat) (k : Nat) (s : List Nat) : Prop := ∃ pre, t = pre ++ s ∧ ru (tB t) t.length 0 pre.length = tst (tB t) t.length k
theorem RT.start (t : List Nat) : RT t 0 t := ⟨[], rfl, rfl⟩
theorem ck32 : ck (nI 32) = 0 := by decide +kernel
theorem RT.sp {t s : List Nat} {k : Nat} (h : RT t k (32 :: s)) : RT t k s := by
  obtain ⟨pre, h1, h2⟩ := h
  refine ⟨pre ++ [32], by rw [h1]; simp, ?_⟩
  have hL : pre.length < t.length := by rw [h1]; simp
  have hc : ck (tB t pre.length) = 0 := by
    have := tB_app h1 0
    rw [Nat.add_zero] at this
    rw [this]; exact ck32
  rw [← h2, List.length_append]
  obtain ⟨b1, b2, b3, _⟩ := ru_spec (T := tB t) (L := t.length) 0 (pre.length + 1)
  refine (ru_uniq (by omega) (fun i a1 a2 => ?_) b3).symm
  by_cases e : i = pre.length
  · subst e; exact ⟨hL, hc⟩
  · exact b2 i (by omega) a2
theorem RT.nsp {t s pre : List Nat} {x k : Nat} (h1 : t = pre ++ x :: s) (h2 : ru (tB t) t.length 0 pre.length = tst (tB t) t.length k) (hx : ck (nI x) ≠ 0) : tst (tB t) t.length k = pre.length ∧ pre.length < t.length ∧ tB t pre.length = nI x := by
  have e := tB_app h1 0
  rw [Nat.add_zero] at e
  have e' : tB t pre.length = nI x := e
  refine ⟨?_, by rw [h1]; simp, e'⟩
  rw [← h2]
  exact ru_uniq (Nat.le_refl _) (fun i a1 a2 => by omega) (fun q => hx (by rw [← e']; exact q.2))
theorem RT.run {t w s : List Nat} {k c : Nat} (hc : c = 1 ∨ c = 2) (hw : w ≠ []) (hck : ∀ x ∈ w, ck (nI x) = c) (hs : ∀ y r, s = y :: r → ck (nI y) ≠ c) (h : RT t k (w ++ s)) : ∃ p, tst (tB t) t.length k = p ∧ p < t.length ∧ re (tB t) t.length p = p + w.length ∧ ck (tB t p) = c ∧ (∀ i, i < w.length → tB t (p + i) = nI (w.getD i 0)) ∧ RT t (k + 1) s := by
  obtain ⟨pre, h1, h2⟩ := h
  obtain ⟨x, w', rfl⟩ : ∃ x w', w = x :: w' := by
    cases w with
    | nil => exact absurd rfl hw
    | cons x w' => exact ⟨x, w', rfl⟩
  have hcx := hck x List.mem_cons_self
  obtain ⟨e1, e2, e3⟩ := RT.nsp (s := w' ++ s) h1 h2 (by rw [hcx]; omega)
  have hlen : pre.length + (x :: w').length ≤ t.length := by rw [h1]; simp
  have hat : ∀ i, i < (x :: w').length → tB t (pre.length + i) = nI ((x :: w').getD i 0) := fun i hi => by
    rw [tB_app h1 i]
    congr 1
    rw [List.getD_eq_getElem?_getD, List.getElem?_append_left hi, List.getD_eq_getElem?_getD]
  have hcc : ∀ i, i < (x :: w').length → ck (tB t (pre.length + i)) = c := fun i hi => by
    rw [hat i hi, List.getD_eq_getElem?_getD, List.getElem?_eq_getElem hi]
    exact hck _ (List.getElem_mem hi)
  have ere : re (tB t) t.length pre.length = pre.length + (x :: w').length := by
    unfold re
    rw [show ck (tB t pre.length) = c from by rw [e3]; exact hcx, if_neg (by omega)]
    refine ru_uniq (by simp) (fun i a1 a2 => ?_) (fun q => ?_)
    · have := hcc (i - pre.length) (by omega)
      rw [show pre.length + (i - pre.length) = i by omega] at this
      exact ⟨by omega, this⟩
    · obtain ⟨q1, q2⟩ := q
      cases s with
      | nil =>
        rw [h1] at q1
        simp at q1
      | cons y r =>
        have h1' : t = (pre ++ x :: w') ++ y :: r := by rw [h1]; simp
        have e := tB_app h1' 0
        rw [Nat.add_zero, List.length_append] at e
        rw [e] at q2
        exact hs y r rfl q2
  refine ⟨pre.length, e1, e2, ere, by rw [e3]; exact hcx, hat, pre ++ x :: w', by rw [h1]; simp, ?_⟩
  show _ = ru (tB t) t.length 0 (re (tB t) t.length (tst (tB t) t.length k))
  rw [e1, ere, List.length_append]
/-- the next token is i, behind it stands s -/
def Tok (t s0 : List Nat) (i : Nat) (s : List Nat) : Prop := ∀ k, RT t k s0 → tkd (tB t) t.length k = i ∧ RT t (k + 1) s
/-- the next token is the number n -/
def Tnm (t s0 : List Nat) (n : Nat) (s : List Nat) : Prop := ∀ k, RT t k s0 → tkd (tB t) t.length k = 0 ∧ nvl (tB t) t.length k = n ∧ RT t (k + 1) s
section
variable {t s s0 : List Nat} {i n : Nat}
theorem Tok.sp (h : Tok t s0 i s) : Tok t (32 :: s0) i s := fun k hk => h k hk.sp
theorem Tnm.sp (h : Tnm t s0 n s) : Tnm t (32 :: s0) n s := fun k hk => h k hk.sp
theorem Tnm.tok (h : Tnm t s0 n s) : Tok t s0 0 s := fun k hk => ⟨(h k hk).1, (h k hk).2.2⟩
theorem wd_cT : ∀ i, i < 24 → 4 ≤ i → tkS.getD i 0 < 48 ∧ cT (tkS.getD i 0) ≠ [] ∧ ∀ x ∈ cT (tkS.getD i 0), ck (nI x) = 2 := by decide +kernel
/-- no letter ahead -/
def nL (s : List Nat) : Prop := ∀ y r, s = y :: r → ck (nI y) ≠ 2
def nD (s : List Nat) : Prop := ∀ y r, s = y :: r → ck (nI y) ≠ 1
theorem nL_c {y : Nat} {r : List Nat} (h : ck (nI y) ≠ 2) : nL (y :: r) := fun y' r' e => by cases e; exact h
theorem nD_c {y : Nat} {r : List Nat} (h : ck (nI y) ≠ 1) : nD (y :: r) := fun y' r' e => by cases e; exact h
theorem tok_word (h4 : 4 ≤ i) (hi : i < 24) (hs : nL s) : Tok t (cT (tkS.getD i 0) ++ s) i s := fun k hk => by
  obtain ⟨w1, w2, w3⟩ := wd_cT i hi h4
  obtain ⟨p, e1, e2, e3, e4, e5, e6⟩ := hk.run (Or.inr rfl) w2 w3 hs
  refine ⟨?_, e6⟩
  rw [tkd_tid h4, e1, e3, tid_iff (by omega) h4, mtc_iff, e4]
  refine ⟨by omega, by decide, by rw [(cT_all _ w1).1]; omega, fun j hj => ?_⟩
  rw [e5 j (by omega), ← cT_tB w1 j]; rfl
theorem tok_sgn {x : Nat} (h24 : 24 ≤ i) (hi : i < 32) (hx : (stB.getD (tkS.getD i 0) []).getD 0 0 = nI x) (hc : ck (nI x) = 3) : Tok t (x :: s) i s := fun k hk => by
  obtain ⟨pre, h1, h2⟩ := hk
  obtain ⟨e1, e2, e3⟩ := RT.nsp h1 h2 (by rw [hc]; decide)
  refine ⟨?_, pre ++ [x], by rw [h1]; simp, ?_⟩
  · rw [sign_iff h24 hi hx (by rw [e1]; omega), e1]
    exact ⟨e2, e3⟩
  · show _ = ru (tB t) t.length 0 (re (tB t) t.length (tst (tB t) t.length k))
    rw [e1]
    unfold re
    rw [e3, if_pos hc, List.length_append]; rfl
theorem dec_ck : ∀ x, 48 ≤ x → x ≤ 57 → ck (nI x) = 1 := by
  intro x h1 h2
  rcases (by omega : x = 48 ∨ x = 49 ∨ x = 50 ∨ x = 51 ∨ x = 52 ∨ x = 53 ∨ x = 54 ∨ x = 55 ∨ x = 56 ∨ x = 57) with rfl | rfl | rfl | rfl | rfl | rfl | rfl | rfl | rfl | rfl
  all_goals decide +kernel
theorem dec_dig {n : Nat} (hn : n < 10000) : ∀ x ∈ dec n, 48 ≤ x ∧ x ≤ 57 := by
  intro x hx
  unfold dec at hx
  split at hx
  · simp at hx; omega
  split at hx
  · simp at hx; omega
  split at hx
  · simp at hx; omega
  · simp at hx; omega
theorem dec_ne (n : Nat) : dec n ≠ [] := fun h => by
  have := (dec_len n).1
  rw [h] at this
  exact absurd this (by decide)
theorem cvl_dec {T : Nat → Int32} {p : Nat} (hn : n < 10000) (h : ∀ i, i < (dec n).length → T (p + i) = nI ((dec n).getD i 0)) : cvl T p (dec n).length = n := by
  have hN : ∀ i, i < (dec n).length → Nn (T (p + i)) = (dec n).getD i 0 := fun i hi => by
    rw [h i hi]
    refine Nn_nI ?_
    rw [List.getD_eq_getElem?_getD, List.getElem?_eq_getElem hi]
    have := (dec_dig hn _ (List.getElem_mem hi)).2
    show (dec n)[i] < 2 ^ 31
    omega
  clear h
  unfold dec at hN ⊢
  split
  · rename_i c
    rw [if_pos c] at hN
    have h0 := hN 0 (by simp)
    simp only [List.length_cons, List.length_nil, cvl]
    simp at h0
    simp [h0]; omega
  · rename_i c1
    rw [if_neg c1] at hN
    split
    · rename_i c
      rw [if_pos c] at hN
      have h0 := hN 0 (by simp)
      have h1 := hN 1 (by simp)
      simp only [List.length_cons, List.length_nil, cvl]
      simp at h0 h1
      simp [h0, h1]; omega
    · rename_i c2
      rw [if_neg c2] at hN
      split
      · rename_i c
        rw [if_pos c] at hN
        have h0 := hN 0 (by simp)
        have h1 := hN 1 (by simp)
        have h2 := hN 2 (by simp)
        simp only [List.length_cons, List.length_nil, cvl]
        simp at h0 h1 h2
        simp [h0, h1, h2]; omega
      · rename_i c
        rw [if_neg c] at hN
        have h0 := hN 0 (by simp)
        have h1 := hN 1 (by simp)
        have h2 := hN 2 (by simp)
        have h3 := hN 3 (by simp)
        simp only [List.length_cons, List.length_nil, cvl]
        simp at h0 h1 h2 h3
        simp [h0, h1, h2, h3]; omega
theorem tnm_dec (hn : n < 10000) (hs : nD s) : Tnm t (dec n ++ s) n s := fun k hk => by
  obtain ⟨p, e1, e2, e3, e4, e5, e6⟩ := hk.run (Or.inl rfl) (dec_ne n) (fun x hx => dec_ck x (dec_dig hn x hx).1 (dec_dig hn x hx).2) hs
  refine ⟨(tkd_0 (by rw [e1]; omega)).mpr ⟨by rw [e1]; exact e2, by rw [e1]; exact e4⟩, ?_, e6⟩
  unfold nvl
  rw [e1, e3, Nat.add_sub_cancel_left]
  exact cvl_dec hn e5
theorem RT.e {k : Nat} (h : RT t k []) : tst (tB t) t.length k = t.length := by
  obtain ⟨pre, h1, h2⟩ := h
  rw [List.append_nil] at h1
  rw [← h2, ← h1]
  exact ru_uniq (Nat.le_refl _) (fun i a1 a2 => by omega) (fun q => by omega)
end
/-! the class reads it -/
def RP (t : List Nat) (σ : St) (s : List Nat) : Prop := ∃ N k, CP σ (tB t) t.length N k ∧ RT t k s
section
variable {t s s0 : List Nat} {i n : Nat} {σ : St}
theorem RP.un {M : Nat → Prop} {σ' : St} (h : RP t σ s) (u : Un M σ σ') (m : ¬ M 595 ∧ ¬ M 596 ∧ ¬ M 597 ∧ ¬ M 598) : RP t σ' s := by
  obtain ⟨N, k, h1, h2⟩ := h
  exact ⟨N, k, h1.un u m, h2⟩
theorem RP.w (h : RP t σ s) {p : Nat} (j : Nat) (v : Int32) (hp : p < 595 ∨ 598 < p) : RP t (sI σ p j v) s := by
  obtain ⟨N, k, h1, h2⟩ := h
  exact ⟨N, k, h1.w j v hp, h2⟩
theorem CP.tl {N k : Nat} (h : CP σ (tB t) t.length N k) (hi : tkd (tB t) t.length k ≠ 1) : k < N := h.lt.mp (by
  have h1 := h.le
  have h2 := tkd_1 h1
  rcases Nat.lt_or_ge (tst (tB t) t.length k) t.length with c | c
  · exact c
  · exact absurd (h2.mpr (by omega)) hi)
theorem rp_ahead (h : RP t σ s0) (hT : Tok t s0 i s) : pf_X6_ahead 595 σ = some (some i) := by
  obtain ⟨N, k, h1, h2⟩ := h
  rw [ahead_ok h1, (hT k h2).1]
theorem rp_adv {N k : Nat} (h1 : CP σ (tB t) t.length N k) (h2 : RT t k s0) (hT : Tok t s0 i s) (hi : i ≠ 1) : RP t (sI σ 595 4 (nI (k + 1))) s := by
  obtain ⟨a1, a2⟩ := hT k h2
  exact ⟨N, k + 1, h1.next (h1.tl (by rw [a1]; exact hi)), a2⟩
theorem rp_expect (h : RP t σ s0) (hT : Tok t s0 i s) (hi : i ≠ 1) : ∃ v, pf_X6_expect 595 (some i) σ = some (sI σ 595 4 v) ∧ RP t (sI σ 595 4 v) s := by
  obtain ⟨N, k, h1, h2⟩ := h
  exact ⟨_, by rw [expect_ok h1, if_pos (hT k h2).1], rp_adv h1 h2 hT hi⟩
theorem rp_skip (h : RP t σ s0) (hT : Tok t s0 i s) (hi : i ≠ 1) : ∃ v, pf_X6_skip 595 σ = some (sI σ 595 4 v) ∧ RP t (sI σ 595 4 v) s := by
  obtain ⟨N, k, h1, h2⟩ := h
  exact ⟨_, skip_ok h1, rp_adv h1 h2 hT hi⟩
theorem rp_take (h : RP t σ s0) (hT : Tok t s0 i s) (hi : i ≠ 1) : ∃ v, pf_X6_take 595 (some i) σ = some (1, sI σ 595 4 v) ∧ RP t (sI σ 595 4 v) s := by
  obtain ⟨N, k, h1, h2⟩ := h
  exact ⟨_, tk_y h1 (hT k h2).1, rp_adv h1 h2 hT hi⟩
theorem rp_no (h : RP t σ s0) (hT : Tok t s0 i s) {j : Nat} (hij : i ≠ j) : pf_X6_take 595 (some j) σ = some (0, σ) := by
  obtain ⟨N, k, h1, h2⟩ := h
  exact tk_n h1 (by rw [(hT k h2).1]; exact hij)
theorem rp_start (h : RP t σ s) : ∃ r, pf_X6_start 595 σ = some r := by
  obtain ⟨N, k, h1, h2⟩ := h
  exact ⟨_, start_ok h1⟩
theorem rp_number (h : RP t σ s0) (hT : Tnm t s0 n s) {lo hi : Nat} (hl : lo ≤ n) (hh : n ≤ hi) (h5 : hi ≤ 100000) : ∃ v, pf_X6_number 595 (nI lo) (nI hi) σ = some (nI n, sI σ 595 4 v) ∧ RP t (sI σ 595 4 v) s := by
  obtain ⟨N, k, h1, h2⟩ := h
  obtain ⟨a1, a2, a3⟩ := hT k h2
  exact ⟨_, by rw [number_ok h1 (by omega) h5, if_pos a1, a2, if_pos ⟨hl, hh⟩], rp_adv h1 h2 hT.tok (by decide)⟩
theorem rp_open (h : RP t σ s0) (hT : Tok t s0 26 s) {d : Nat} (hd : d < 4) : ∃ v, pf_X6_open 595 (nI d) σ = some (1, sI σ 595 4 v) ∧ RP t (sI σ 595 4 v) s := by
  obtain ⟨N, k, h1, h2⟩ := h
  exact ⟨_, by rw [open_ok h1 (by omega), if_pos (hT k h2).1, if_pos hd], rp_adv h1 h2 hT (by decide)⟩
theorem rp_goOn (h : RP t σ s0) (hT : Tok t s0 i s) (hi : i ≠ 1) : pf_X6_goOn 595 σ = some 1 := by
  obtain ⟨N, k, h1, h2⟩ := h
  rw [goOn_ok h1, decide_eq_true (h1.tl (by rw [(hT k h2).1]; exact hi))]; rfl
theorem rp_end (h : RP t σ []) : pf_X6_goOn 595 σ = some 0 ∧ gI σ 595 5 = 0 := by
  obtain ⟨N, k, h1, h2⟩ := h
  have : ¬ k < N := fun c => by
    have := h1.lt.mpr c
    rw [h2.e] at this
    omega
  rw [goOn_ok h1, decide_eq_false this]
  exact ⟨rfl, h1.2.2.2.1⟩
theorem RP.sp (h : RP t σ (32 :: s)) : RP t σ s := by
  obtain ⟨N, k, h1, h2⟩ := h
  exact ⟨N, k, h1, h2.sp⟩
end
