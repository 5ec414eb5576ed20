/-! TRIES: rows behind a draw, a success, a failure -/
def pk (rd : Nat → Int32) (f : Nat → Int32) (n : Nat) : Nat → Int32 := fun k => if 5 ≤ k ∧ k < 5 + n then f (k - 5) else rd k
theorem pk_0 (rd f : Nat → Int32) : pk rd f 0 = rd := by
  funext k
  unfold pk
  rw [if_neg (by omega)]
theorem pk_s (rd f : Nat → Int32) (i : Nat) : up (pk rd f i) (5 + i) (f i) = pk rd f (i + 1) := by
  funext k
  unfold up pk
  by_cases c : k = 5 + i
  · rw [if_pos c, if_pos (by omega), show k - 5 = i by omega]
  · rw [if_neg c]
    by_cases c2 : 5 ≤ k ∧ k < 5 + i
    · rw [if_pos c2, if_pos (by omega)]
    · rw [if_neg c2, if_neg (by omega)]
theorem pk_out (rd f : Nat → Int32) {n k : Nat} (h : k < 5 ∨ 5 + n ≤ k) : pk rd f n k = rd k := if_neg (by omega)
theorem pkI_in (rd f : Nat → Int32) {n i : Nat} (h : i < n) : pk rd f n (5 + i) = f i := by
  unfold pk
  rw [if_pos (by omega), show 5 + i - 5 = i by omega]
def tkf (rd : Nat → Int32) (c : Nat) : Nat → Int32 := fun i => rd (5 + i) - rd (c + 6 + i)
def gvf (rd : Nat → Int32) (c : Nat) : Nat → Int32 := fun i => rd (5 + i) + rd (c + 22 + i)
def tkR (rd : Nat → Int32) (c : Nat) : Nat → Int32 := pk rd (tkf rd c) 8
def gvR (rd : Nat → Int32) (c : Nat) : Nat → Int32 := pk rd (gvf rd c) 8
def cP (q s : Nat) : Nat := 53 + 186 * q + 6 + 30 * s
theorem mul_m1 (x y : Int32) : x + (-1) * y = x - y := by
  rw [Int32.sub_eq_add_neg, Int32.neg_mul, Int32.one_mul]
theorem mul_p1 (x y : Int32) : x + 1 * y = x + y := by rw [Int32.one_mul]
/-- the class's stock by a step's numbers -/
theorem chC {σ : St} {p a s : Nat} (v3 : Int32) (kp : kd p = 2) (ea : alen a = 48) (hs : s < 6) (hne : a ≠ p + 1) : ∃ σ', pf_X2_change p a (nI s) v3 σ = some σ' ∧ Un (fun i => i = p + 1) σ σ' ∧ ∀ i, i < 8 → gI σ' (p + 1) i = gI σ (p + 1) i + v3 * gI σ a (s * 8 + i) := by
  have hN := af_X2_stock kp
  unfold pf_X2_change
  refine up_C (fun n i t => pf_X2_change_L3 n p a (nI s) v3 (nI i) t) 8 (fun i t => Un (fun i => i = p + 1) σ t ∧ (∀ k, k < i → gI t (p + 1) k = gI σ (p + 1) k + v3 * gI σ a (s * 8 + k)) ∧ ∀ k, i ≤ k → gI t (p + 1) k = gI σ (p + 1) k) (fun r => ∃ σ', r = some σ' ∧ Un (fun i => i = p + 1) σ σ' ∧ ∀ i, i < 8 → gI σ' (p + 1) i = gI σ (p + 1) i + v3 * gI σ a (s * 8 + i)) ?_ ?_ FU 0 σ (Nat.zero_le _) ⟨Un.refl _ _, fun k hk => absurd hk (Nat.not_lt_zero _), fun _ _ => rfl⟩ (lt_FU (by omega))
  · intro n t ⟨h1, h2, h3⟩
    refine ⟨t, ?_, h1, h2⟩
    show pf_X2_change_L3 (n + 1) p a (nI s) v3 (nI 8) t = some t
    rw [pf_X2_change_L3, show (8 : Int32) = nI 8 from rfl, if_pos (nI_le (Nat.le_refl _) (by omega))]
  · intro n i t hi ⟨h1, h2, h3⟩
    refine Or.inr ⟨sI t (p + 1) i (gI t (p + 1) i + v3 * gI t a (s * 8 + i)), ?_, h1.trans (Un.sI _ _ rfl), fun k hk => ?_, fun k hk => ?_⟩
    · show pf_X2_change_L3 (n + 1) p a (nI s) v3 (nI i) t = pf_X2_change_L3 n p a (nI s) v3 (nI (i + 1)) _
      rw [pf_X2_change_L3, show (8 : Int32) = nI 8 from rfl, if_neg (nI_ge hi (by omega)), ckA hN hi, pk_mul, nI_add, at_ok ea (by omega), bind_some, ckA hN hi, nI_clamp (by omega), bnd_e, bnd_e, nI_1]
    · by_cases e : k = i
      · subst e; rw [gI_at, h3 k (Nat.le_refl _), h1.I hne]
      · rw [gI_ns _ _ _ e]; exact h2 k (by omega)
    · rw [gI_ns _ _ _ (by omega)]; exact h3 k (by omega)
section
variable {r q s : Nat} {τ0 τ : St} {rd : Nat → Int32}
end
/-! a draw -/
theorem dr_eq (x : Int32) : iushr x 16 &&& 32767 = ishr x 16 &&& 32767 := by
  apply Int32.toBitVec_inj.mp
  apply BitVec.eq_of_getLsbD_eq
  intro i hi
  rw [Int32.toBitVec_and, Int32.toBitVec_and, BitVec.getLsbD_and, BitVec.getLsbD_and]
  by_cases c : i < 15
  · congr 1
    show (x.toBitVec >>> (16 : Nat)).getLsbD i = (BitVec.sshiftRight x.toBitVec 16).getLsbD i
    rw [BitVec.getLsbD_ushiftRight, BitVec.getLsbD_sshiftRight]
    rw [decide_eq_false (show ¬ 32 ≤ i by omega), if_pos (show 16 + i < 32 by omega)]; simp
  · have : (32767 : Int32).toBitVec.getLsbD i = false := by
      show (32767#32).getLsbD i = false
      rw [BitVec.getLsbD_ofNat]
      have : Nat.testBit 32767 i = false := Nat.testBit_lt_two_pow (Nat.lt_of_lt_of_le (by omega) (Nat.pow_le_pow_right (n := 2) (by omega) (show 15 ≤ i by omega)))
      rw [this]; simp
    rw [this]; simp
/-- the value drawn, the row behind -/
def drV (rd : Nat → Int32) : Int32 := if rd 2 = 0 then irem (ishr (rd 1 * 1103515245 + 12345) 16 &&& 32767) 100 else rd 13
def qk (rd : Nat → Int32) (j : Nat) : Nat → Int32 := fun k => if k = 2 then rd 2 - 1 else if 13 ≤ k ∧ k < 13 + j then rd (k + 1) else rd k
def drR (rd : Nat → Int32) : Nat → Int32 := if rd 2 = 0 then up rd 1 (rd 1 * 1103515245 + 12345) else qk rd (Nn (rd 2) - 1)
theorem qk_out (rd : Nat → Int32) {j k : Nat} (h : k < 2 ∨ (2 < k ∧ k < 13) ∨ 13 + j ≤ k) : qk rd j k = rd k := by
  unfold qk
  rw [if_neg (by omega), if_neg (by omega)]
theorem qk_0 (rd : Nat → Int32) : up rd 2 (rd 2 - 1) = qk rd 0 := by
  funext k
  unfold up qk
  by_cases c : k = 2
  · rw [if_pos c, if_pos c]
  · rw [if_neg c, if_neg c, if_neg (by omega)]
theorem qk_s (rd : Nat → Int32) (j : Nat) : up (qk rd j) (13 + j) (rd (13 + j + 1)) = qk rd (j + 1) := by
  funext k
  unfold up qk
  by_cases c : k = 13 + j
  · subst c; rw [if_pos rfl, if_neg (by omega), if_pos (by omega)]
  · rw [if_neg c]
    by_cases c2 : k = 2
    · rw [if_pos c2, if_pos c2]
    · rw [if_neg c2, if_neg c2]
      by_cases c3 : 13 ≤ k ∧ k < 13 + j
      · rw [if_pos c3, if_pos (by omega)]
      · rw [if_neg c3, if_neg (by omega)]
theorem drR_out (rd : Nat → Int32) {k : Nat} (h2 : Nn (rd 2) ≤ 40) (h : k = 0 ∨ (2 < k ∧ k < 13) ∨ 53 ≤ k) : drR rd k = rd k := by
  unfold drR
  by_cases c : rd 2 = 0
  · rw [if_pos c, up_ne _ _ (by omega)]
  · rw [if_neg c, qk_out _ (by omega)]
/-- the class's ledger where only the seed and the queue change -/
theorem RLd.sq {σ σ' : St} {B p : Nat} {rd rd' : Nat → Int32} (v : VR B rd) (h : RLd σ p rd) (u : Un (fun i => i = p ∨ i = p + 2) σ σ') (k5 : gI σ' p 5 = gI σ p 5) (k7 : gI σ' p 7 = gI σ p 7) (he : ∀ k, (k = 0 ∨ (2 < k ∧ k < 13) ∨ 53 ≤ k) → rd' k = rd k) (k2 : gI σ' p 2 = rd' 2) (k3 : gI σ' p 3 = rd' 1) (kq : ∀ k, k < Nn (rd' 2) → gI σ' (p + 2) k = rd' (13 + k)) : RLd σ' p rd' := by
  obtain ⟨a0, a1, a2, a3, a4, a5, a6⟩ := h
  have n0 := v.n0
  refine ⟨by rw [k5, he 0 (by omega)]; exact a0, k2, k3, fun i hi => by rw [u.I (by omega), he _ (by omega)]; exact a3 i hi, kq, ?_, ?_⟩
  · rw [he 0 (by omega)]
    intro q hq
    exact ((a5 q hq).un u fun i b1 b2 b3 => by omega).cg (v.2.2.2.2.2.2.1 q hq).1 (fun k a1 a2 => he k (by omega)) (fun k a1 a2 => he k (by omega))
  · have : RWo σ' p rd := by
      unfold RWo at *
      rw [k7, u.I (show ¬ (p + 4 = p ∨ p + 4 = p + 2) by omega)]
      exact a6
    exact this.cg (he 3 (by omega)) (he 0 (by omega)) v.2.2.1.2 (fun k a1 a2 => he k (by omega))
theorem VR.sq {B : Nat} {rd rd' : Nat → Int32} (v : VR B rd) (he : ∀ k, (k = 0 ∨ (2 < k ∧ k < 13) ∨ 53 ≤ k) → rd' k = rd k) (k2 : Is (rd' 2) 40) (kq : ∀ k, k < Nn (rd' 2) → Is (rd' (13 + k)) 99) : VR B rd' := by
  have n0 := v.n0
  refine v.to (he 0 (by omega)) k2 (he 3 (by omega)) (he 4 (by omega)) (fun i hi => by rw [he _ (by omega)]; exact v.2.2.2.2.1 i hi) kq (fun q hq => ?_) (fun k a1 a2 => he k (by omega))
  obtain ⟨w, o⟩ := v.2.2.2.2.2.2.1 q hq
  have e : ∀ k, 53 + 186 * q ≤ k → k < 53 + 186 * q + 186 → rd' k = rd k := fun k a1 a2 => he k (by omega)
  have g : ∀ k, 2769 ≤ k → k < 4370 → rd' k = rd k := fun k a1 a2 => he k (by omega)
  exact ⟨w.cong e g, o.cong w e g⟩
theorem drVR {B : Nat} {rd : Nat → Int32} (v : VR B rd) : VR B (drR rd) := by
  obtain ⟨n, en, hn, en2⟩ := v.2.1.get
  refine v.sq (fun k hk => drR_out rd v.2.1.2 hk) ?_ ?_
  all_goals
    unfold drR
    by_cases c : rd 2 = 0
  · rw [if_pos c, up_ne _ _ (by omega)]; exact v.2.1
  · have hn0 : n ≠ 0 := fun e => c (by rw [en, e]; rfl)
    rw [if_neg c, show qk rd (Nn (rd 2) - 1) 2 = rd 2 - 1 from if_pos rfl, en, show (1 : Int32) = nI 1 from rfl, pk_sub (by omega)]
    exact Is.of (by omega) (by omega)
  · rw [if_pos c, up_ne _ _ (by omega)]
    intro k hk
    rw [up_ne _ _ (by omega)]
    exact v.2.2.2.2.2.1 k hk
  · have hn0 : n ≠ 0 := fun e => c (by rw [en, e]; rfl)
    rw [if_neg c, show qk rd (Nn (rd 2) - 1) 2 = rd 2 - 1 from if_pos rfl, en2, en, show (1 : Int32) = nI 1 from rfl, pk_sub (by omega), Nn_nI (by omega)]
    intro k hk
    unfold qk
    rw [if_neg (by omega), if_pos (by omega)]
    exact v.2.2.2.2.2.1 (k + 1) (by omega)
theorem drC {σ : St} {p B : Nat} {rd : Nat → Int32} (kp : kd p = 2) (v : VR B rd) (h : RLd σ p rd) : ∃ σ', pf_X2_draw p σ = some (drV rd, σ') ∧ Un (fun i => i = p ∨ i = p + 2) σ σ' ∧ RLd σ' p (drR rd) := by
  obtain ⟨n, en, hn, en2⟩ := v.2.1.get
  have hN := af_X2_queue kp
  have g2 : gI σ p 2 = nI n := h.2.1.trans en
  unfold pf_X2_draw
  rw [g2]
  by_cases c : rd 2 = 0
  · have hn0 : n = 0 := by rw [en] at c; exact (nI_eq (by omega) (by omega)).mp c
    subst hn0
    rw [if_neg (by decide), h.2.2.1, bnd_e, gI_at, dr_eq]
    refine ⟨sI σ p 3 (rd 1 * 1103515245 + 12345), ?_, Un.sI _ _ (Or.inl rfl), ?_⟩
    · unfold drV; rw [if_pos c]
    · refine h.sq v (Un.sI _ _ (Or.inl rfl)) (gI_ns _ _ _ (by decide)) (gI_ns _ _ _ (by decide)) (fun k hk => drR_out rd v.2.1.2 hk) ?_ ?_ ?_
      · rw [gI_ns _ _ _ (by decide), h.2.1]; unfold drR; rw [if_pos c, up_ne _ _ (by omega)]
      · rw [gI_at]; unfold drR; rw [if_pos c, up_at]
      · unfold drR; rw [if_pos c, up_ne _ _ (by omega), en2]
        intro k hk; exact absurd hk (Nat.not_lt_zero _)
  · have hn0 : n ≠ 0 := fun e => c (by rw [en, e]; rfl)
    rw [if_pos (show (0 : Int32) < nI n from nI_lt (a := 0) (by omega) (by omega)), show ckI (0 : Int32) (alen (p + 2)) _ = _ from ckA (n := 0) hN (by omega), show gI σ (p + 2) (0 : Int32).toNatClampNeg = gI σ (p + 2) 0 from rfl, show gI σ (p + 2) 0 = rd 13 from h.2.2.2.2.1 0 (by omega), bnd_e, show (1 : Int32) = nI 1 from rfl, pk_sub (by omega), bnd_e]
    have key : ∃ σ', pf_X2_draw_L56 FU p (rd 13) 0 (sI σ p 2 (nI (n - 1))) = some (rd 13, σ') ∧ (Un (fun i => i = p + 2) (sI σ p 2 (nI (n - 1))) σ' ∧ (∀ k, k < n - 1 → gI σ' (p + 2) k = gI σ (p + 2) (k + 1))) := by
      refine up_C (fun m i t => pf_X2_draw_L56 m p (rd 13) (nI i) t) (n - 1) (fun i t => Un (fun i => i = p + 2) (sI σ p 2 (nI (n - 1))) t ∧ (∀ k, k < i → gI t (p + 2) k = gI σ (p + 2) (k + 1)) ∧ ∀ k, i ≤ k → gI t (p + 2) k = gI σ (p + 2) k) (fun x => ∃ σ', x = some (rd 13, σ') ∧ (Un (fun i => i = p + 2) (sI σ p 2 (nI (n - 1))) σ' ∧ (∀ k, k < n - 1 → gI σ' (p + 2) k = gI σ (p + 2) (k + 1)))) ?_ ?_ FU 0 _ (Nat.zero_le _) ⟨Un.refl _ _, fun k hk => absurd hk (Nat.not_lt_zero _), fun k _ => gI_ne _ _ _ _ (by omega)⟩ (lt_FU (by omega))
      · intro m t ⟨h1, h2, h3⟩
        refine ⟨t, ?_, h1, h2⟩
        show pf_X2_draw_L56 (m + 1) p (rd 13) (nI (n - 1)) t = _
        rw [pf_X2_draw_L56, h1.I (show ¬ p = p + 2 by omega), gI_at, if_pos (nI_le (Nat.le_refl _) (by omega))]
      · intro m i t hi ⟨h1, h2, h3⟩
        refine Or.inr ⟨sI t (p + 2) i (gI t (p + 2) (i + 1)), ?_, h1.trans (Un.sI _ _ rfl), fun k hk => ?_, fun k hk => ?_⟩
        · show pf_X2_draw_L56 (m + 1) p (rd 13) (nI i) t = pf_X2_draw_L56 m p (rd 13) (nI (i + 1)) _
          rw [pf_X2_draw_L56, h1.I (show ¬ p = p + 2 by omega), gI_at, if_neg (nI_ge hi (by omega)), nI_1, at_ok hN (by omega), bind_some, put_ok hN (by omega), bind_some, bnd_e]
        · by_cases e : k = i
          · subst e; rw [gI_at, h3 _ (by omega)]
          · rw [gI_ns _ _ _ e]; exact h2 k (by omega)
        · rw [gI_ns _ _ _ (by omega)]; exact h3 k (by omega)
    obtain ⟨σ', k1, k2, k3⟩ := key
    have u : Un (fun i => i = p ∨ i = p + 2) σ σ' := (Un.sI (M := fun i => i = p ∨ i = p + 2) _ _ (Or.inl rfl)).trans (k2.mono fun i hi => Or.inr hi)
    have ep : gI σ' p = gI (sI σ p 2 (nI (n - 1))) p := k2.I (show ¬ p = p + 2 by omega)
    have e2 : drR rd 2 = nI (n - 1) := by
      unfold drR
      rw [if_neg c, show qk rd (Nn (rd 2) - 1) 2 = rd 2 - 1 from if_pos rfl, en, show (1 : Int32) = nI 1 from rfl, pk_sub (by omega)]
    refine ⟨σ', ?_, u, ?_⟩
    · rw [k1]; unfold drV; rw [if_neg c]
    · refine h.sq v u (by rw [ep]; exact gI_ns _ _ _ (by decide)) (by rw [ep]; exact gI_ns _ _ _ (by decide)) (fun k hk => drR_out rd v.2.1.2 hk) (by rw [ep, gI_at, e2]) ?_ ?_
      · rw [ep, gI_ns _ _ _ (by decide), h.2.2.1]; unfold drR; rw [if_neg c, qk_out _ (by omega)]
      · rw [e2, Nn_nI (by omega)]
        intro k hk
        rw [k3 k hk, h.2.2.2.2.1 (k + 1) (by omega)]
        unfold drR qk
        rw [if_neg c, if_neg (by omega), if_pos (by omega)]
        rfl
