/-! DOUBLES: products of chances stay numbers -/
/-- an encoding whose exponent's field is at most K -/
def eK (K : Nat) (n : Nat) : Prop := n < 18446744073709551616 ∧ n / 4503599627370496 % 2048 ≤ K
theorem b64t : FP.Core.Fmt.tails FP.Core.b64 = 4503599627370496 := by decide
theorem b64e : FP.Core.Fmt.exps FP.Core.b64 = 2048 := by decide
theorem b64q : FP.Core.Fmt.qmin FP.Core.b64 = -1074 := by decide
theorem b64x : FP.Core.Fmt.qmax FP.Core.b64 = 971 := by decide
theorem eK_dec {K n : Nat} (h : eK K n) (hK : 1 ≤ K) (hK2 : K ≤ 2046) : ∃ s c q, FP.Core.decode FP.Core.b64 n = .fin s c q ∧ c < 9007199254740992 ∧ q ≤ (K : Int) - 1075 := by
  obtain ⟨h1, h2⟩ := h
  unfold FP.Core.decode FP.Core.fieldE FP.Core.fieldT
  rw [b64t, b64e, b64q]
  by_cases c1 : n / 4503599627370496 % 2048 = 2048 - 1
  · omega
  · rw [if_neg c1]
    by_cases c2 : n / 4503599627370496 % 2048 = 0
    · rw [if_pos c2]
      exact ⟨_, _, _, rfl, by omega, by omega⟩
    · rw [if_neg c2]
      exact ⟨_, _, _, rfl, by omega, by omega⟩
theorem asm_eK (s : Bool) {e t K : Nat} (he : e ≤ K) (hK : K ≤ 2046) (ht : t < 4503599627370496) : eK K (FP.Core.assemble FP.Core.b64 s e t) := by
  unfold FP.Core.assemble eK
  rw [b64t, b64e]
  cases s <;> simp <;> omega
theorem enc_eK (s : Bool) {c K : Nat} {q : Int} (hc : c < 9007199254740992) (hq1 : -1074 ≤ q) (hq : q ≤ (K : Int) - 1075) (hK : K ≤ 2046) : eK K (FP.Core.encode FP.Core.b64 (.fin s c q)) := by
  show eK K (if c < FP.Core.Fmt.tails FP.Core.b64 then FP.Core.assemble FP.Core.b64 s 0 c else FP.Core.assemble FP.Core.b64 s ((q - FP.Core.Fmt.qmin FP.Core.b64).toNat + 1) (c - FP.Core.Fmt.tails FP.Core.b64))
  rw [b64t, b64q]
  by_cases c1 : c < 4503599627370496
  · rw [if_pos c1]
    exact asm_eK s (Nat.zero_le _) hK c1
  · rw [if_neg c1]
    exact asm_eK s (by omega) hK (by omega)
theorem settle_eK (s : Bool) (c : Nat) {K : Nat} {q : Int} (hq1 : -1074 ≤ q) (hq : q + 1 ≤ (K : Int) - 1075) (hK : K ≤ 2046) : eK K (FP.Core.encode FP.Core.b64 (FP.Core.settle FP.Core.b64 s c q)) := by
  unfold FP.Core.settle FP.Core.bound
  rw [b64x, b64t]
  by_cases c1 : c < 2 ^ FP.Core.b64.p
  · rw [if_pos c1, if_pos (by omega)]
    exact enc_eK s (show c < 9007199254740992 from c1) hq1 (by omega) hK
  · rw [if_neg c1, if_pos (by omega)]
    exact enc_eK s (by decide) (by omega) hq hK
theorem leading_le (num : Nat) (h : num < 2 ^ 106) : FP.Core.leading num 1 ≤ 105 := by
  have h1 : num.log2 ≤ 105 := by
    by_cases c : num = 0
    · subst c; decide
    · have := (Nat.log2_lt c).mpr h
      omega
  unfold FP.Core.leading
  have h2 : Nat.log2 1 = 0 := by decide
  rw [h2]
  simp only
  split <;> omega
theorem mul_eK {K a b : Nat} (ha : eK K a) (hb : eK 1023 b) (hK : 1 ≤ K) (hK2 : K ≤ 2000) : eK (K + 2) (FP.Core.mul FP.Core.b64 a b) := by
  obtain ⟨s, c, q, e1, c1, q1⟩ := eK_dec ha hK (by omega)
  obtain ⟨t, d, r, e2, c2, q2⟩ := eK_dec hb (by omega) (by omega)
  unfold FP.Core.mul
  rw [e1, e2]
  show eK (K + 2) (FP.Core.encode FP.Core.b64 (FP.Core.roundRatio FP.Core.b64 (s != t) (c * d) 1 (q + r)))
  unfold FP.Core.roundRatio
  have hprod : c * d < 2 ^ 106 := by
    have : c * d ≤ 9007199254740991 * 9007199254740991 := Nat.mul_le_mul (by omega) (by omega)
    omega
  by_cases z : c * d = 0
  · rw [if_pos z, b64q]
    exact enc_eK _ (by decide) (by omega) (by omega) (by omega)
  · rw [if_neg z]
    unfold FP.Core.roundAt
    have hl := leading_le (c * d) hprod
    have hq : FP.Core.quantum FP.Core.b64 (c * d) 1 (q + r) ≤ (K : Int) - 1074 := by
      unfold FP.Core.quantum
      rw [b64q, show FP.Core.b64.p = 53 from rfl]
      omega
    have hq2 : -1074 ≤ FP.Core.quantum FP.Core.b64 (c * d) 1 (q + r) := by
      unfold FP.Core.quantum
      rw [b64q]
      omega
    exact settle_eK _ _ hq2 (by omega) (by omega)
theorem ckD_eK {α : Type} {K : Nat} {x : UInt64} {y : Option α} (h : eK K x.toNat) (hK : K ≤ 2046) : ckD x y = y := by
  unfold ckD
  rw [if_pos]
  rw [UInt64.le_iff_toNat_le, UInt64.toNat_and]
  show x.toNat &&& 9223372036854775807 ≤ 9218868437227405312
  have e : x.toNat &&& 9223372036854775807 = x.toNat % 9223372036854775808 := Nat.and_two_pow_sub_one_eq_mod x.toNat 63
  rw [e]
  obtain ⟨h1, h2⟩ := h
  omega
theorem dmul_eK {K : Nat} {a b : UInt64} (ha : eK K a.toNat) (hb : eK 1023 b.toNat) (hK : 1 ≤ K) (hK2 : K ≤ 2000) : eK (K + 2) (FP.dmul a b).toNat := by
  have h := mul_eK ha hb hK hK2
  show eK (K + 2) (UInt64.ofNat (FP.Core.mul FP.Core.b64 a.toNat b.toNat)).toNat
  rw [show (UInt64.ofNat (FP.Core.mul FP.Core.b64 a.toNat b.toNat)).toNat = FP.Core.mul FP.Core.b64 a.toNat b.toNat from Nat.mod_eq_of_lt h.1]
  exact h
def chW (r : Nat) : UInt64 := FP.ddiv (FP.i2d (100 - nI r)) 4636737291354636288
theorem chW_all : (List.range 101).all (fun r => decide ((chW r).toNat / 4503599627370496 % 2048 ≤ 1023)) = true := by decide +kernel
theorem chW_eK {r : Nat} (h : r ≤ 100) : eK 1023 (chW r).toNat := by
  refine ⟨(chW r).toNat_lt, ?_⟩
  have := List.all_eq_true.mp chW_all r (List.mem_range.mpr (by omega))
  exact of_decide_eq_true this
theorem one_eK : eK 1023 (FP.dconst1).toNat := by
  unfold eK
  decide
def prW (r : Nat) : UInt32 := FP.fdiv (FP.i2f (nI (r % 37))) (FP.i2f (nI (r / 37)))
theorem prW_all : (List.range (37 * 37)).all (fun r => decide (r / 37 = 0) || decide (prW r &&& 0x7fffffff ≤ 0x7f800000)) = true := by decide +kernel
theorem ckF_pr {α : Type} {a b : Nat} {y : Option α} (ha : a ≤ 36) (hb : b ≤ 36) (h0 : 0 < b) : ckF (FP.fdiv (FP.i2f (nI a)) (FP.i2f (nI b))) y = y := by
  have h := List.all_eq_true.mp prW_all (b * 37 + a) (List.mem_range.mpr (by omega))
  have e1 : (b * 37 + a) % 37 = a := by omega
  have e2 : (b * 37 + a) / 37 = b := by omega
  rw [Bool.or_eq_true, decide_eq_true_eq, decide_eq_true_eq] at h
  unfold prW at h
  rw [e1, e2] at h
  rcases h with h | h
  · omega
  · exact if_pos h
