/-! LOAD: parts of a step, both readers -/
section
variable {T : Nat → Int32} {L N : Nat}
theorem amL_ok {σ : St} {k : Nat} (h : CP σ T L N k) (hk : tkd T L k ≠ 0) (p : Nat) (v2 : Int32) (n j : Nat) (h0 : 0 < j) (hj : j < 2 ^ 31) : pf_X4_readAmounts_L2 (n + 1) 594 p v2 (nI j) σ = some σ := by
  rw [pf_X4_readAmounts_L2]
  by_cases q : (800 : Int32) ≤ nI j
  · rw [if_pos q]
  · rw [if_neg q, if_neg (nI_ne0 h0 hj), show 594 + 1 = 595 from rfl, ahead_ok h, bind_some, if_neg (fun e => hk (Option.some.inj e))]
theorem ahL_ok {σ : St} {k : Nat} (h : CP σ T L N k) (hk : tkd T L k ≠ 0) (p : Nat) (v2 : Int32) (n j : Nat) (h0 : 0 < j) (hj : j < 2 ^ 31) : pf_X4_readAhead_L2 (n + 1) 594 p v2 (nI j) σ = some σ := by
  rw [pf_X4_readAhead_L2]
  by_cases q : (800 : Int32) ≤ nI j
  · rw [if_pos q]
  · rw [if_neg q, if_neg (nI_ne0 h0 hj), show 594 + 1 = 595 from rfl, ahead_ok h, bind_some, if_neg (fun e => hk (Option.some.inj e))]
theorem al_am {q t : Nat} (hq : q < 6) (ht : t < 3) : alen (66 + 9 * q + 6 + t) = 48 := by
  rcases (by omega : t = 0 ∨ t = 1 ∨ t = 2) with rfl | rfl | rfl
  · exact af_X3_uses (kd66 q hq)
  · exact af_X3_needs (kd66 q hq)
  · exact af_X3_gives (kd66 q hq)
end
