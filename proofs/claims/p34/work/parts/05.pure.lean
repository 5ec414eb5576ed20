/-- a double that is a number, else nothing -/
def ckD {α : Type} (x : UInt64) (y : Option α) : Option α := if x &&& 0x7fffffffffffffff ≤ 0x7ff0000000000000 then y else none
theorem ckD_el {α : Type} {x : UInt64} {y : Option α} {r : α} (h : ckD x y = some r) : vf_n64 x ∧ y = some r := by
  unfold ckD at h
  by_cases hc : x &&& 0x7fffffffffffffff ≤ 0x7ff0000000000000
  · rw [if_pos hc] at h; exact ⟨hc, h⟩
  · rw [if_neg hc] at h; cases h
def ckF {α : Type} (x : UInt32) (y : Option α) : Option α := if x &&& 0x7fffffff ≤ 0x7f800000 then y else none
theorem ckF_el {α : Type} {x : UInt32} {y : Option α} {r : α} (h : ckF x y = some r) : vf_n32 x ∧ y = some r := by
  unfold ckF at h
  by_cases hc : x &&& 0x7fffffff ≤ 0x7f800000
  · rw [if_pos hc] at h; exact ⟨hc, h⟩
  · rw [if_neg hc] at h; cases h
noncomputable def pf_X0_putTally (v0 : Nat) (v1 : Int32) (v2 : Int32) (v3 : Int64) (σ : St) : Option St :=
  bnd ((v1 * 7) + v2) fun v5_1 =>
  if v5_1 < 0 then (
    some σ
  ) else (
    if (nI (alen (v0 + 1))) ≤ v5_1 then (
      some σ
    ) else (
      ckI (v5_1) (alen (v0 + 1)) <|
      bnd (sL σ (v0 + 1) (v5_1).toNatClampNeg v3) fun σ_3 =>
      some σ_3
    )
  )
noncomputable def pf_X0_tallied (v0 : Nat) (v1 : Int32) (v2 : Int32) (σ : St) : Option (Int64) :=
  bnd ((v1 * 7) + v2) fun v3_1 =>
  if v3_1 < 0 then (
    some (0)
  ) else (
    if (nI (alen (v0 + 1))) ≤ v3_1 then (
      some (0)
    ) else (
      ckI (v3_1) (alen (v0 + 1)) <|
      some (gL σ (v0 + 1) (v3_1).toNatClampNeg)
    )
  )
noncomputable def pf_X0_tally_L4 : Nat → Nat → Int32 → Int64 → Int32 → St → (Option St)
  | 0, _, _, _, _, _ => none
  | n + 1, v0, v1, v2, v4, σ =>
    if v4 ≤ 0 then (
      some σ
    ) else (
      (pf_X0_tallied v0 v1 v4 σ).bind fun r_1 =>
      (pf_X0_tallied v0 v1 (v4 - 1) σ).bind fun r_2 =>
      (pf_X0_putTally v0 v1 v4 (r_1 ||| (r_2 &&& v2)) σ).bind fun σ_3 =>
      bnd (v4 + (-1)) fun v4_4 =>
      pf_X0_tally_L4 n v0 v1 v2 v4_4 σ_3
    )
noncomputable def pf_X0_tally (v0 : Nat) (v1 : Int32) (v2 : Int64) (σ : St) : Option St :=
  pf_X0_tally_L4 FU v0 v1 v2 6 σ
noncomputable def pf_X6_ahead (v0 : Nat) (σ : St) : Option (Option Nat) :=
  if (gI σ v0 5) = 0 then (
    if (gI σ v0 4) < 0 then (
      some (some 3)
    ) else (
      if (gI σ v0 3) ≤ (gI σ v0 4) then (
        some (some 3)
      ) else (
        if (gI σ v0 4) ≤ 800 then (
          ckI (gI σ v0 4) (alen (v0 + 1)) <|
          some (gK σ (v0 + 1) (gI σ v0 4).toNatClampNeg)
        ) else (
          some (some 3)
        )
      )
    )
  ) else (
    some (some 3)
  )
noncomputable def pf_X6_fail (v0 : Nat) (v1 : Int32) (v2 : Int32) (σ : St) : Option St :=
  if (gI σ v0 5) = 0 then (
    bnd (sI σ v0 5 v1) fun σ_1 =>
    bnd (sI σ_1 v0 6 v2) fun σ_2 =>
    some σ_2
  ) else (
    some σ
  )
noncomputable def pf_X6_start (v0 : Nat) (σ : St) : Option (Int32) :=
  if (gI σ v0 4) < 0 then (
    some (0)
  ) else (
    if (800 : Int32) < (gI σ v0 4) then (
      some (0)
    ) else (
      ckI (gI σ v0 4) (alen (v0 + 2)) <|
      some (gI σ (v0 + 2) (gI σ v0 4).toNatClampNeg)
    )
  )
noncomputable def pf_X6_expect (v0 : Nat) (v1 : Option Nat) (σ : St) : Option St :=
  (pf_X6_ahead v0 σ).bind fun r_1 =>
  if (r_1 : Option Nat) = v1 then (
    bnd (sI σ v0 4 ((gI σ v0 4) + 1)) fun σ_2 =>
    some σ_2
  ) else (
    (pf_X6_start v0 σ).bind fun r_3 =>
    (pf_X6_fail v0 (-2) r_3 σ).bind fun σ_4 =>
    some σ_4
  )
noncomputable def pf_X6_open_b38 (v0 : Nat) (σ : St) : Option (Int32 × St) :=
  bnd (sI σ v0 4 ((gI σ v0 4) + 1)) fun σ_1 =>
  if (gI σ_1 v0 5) = 0 then (
    some ((1 : Int32), σ_1)
  ) else (
    some ((0 : Int32), σ_1)
  )
noncomputable def pf_X6_open (v0 : Nat) (v1 : Int32) (σ : St) : Option (Int32 × St) :=
  (pf_X6_ahead v0 σ).bind fun r_1 =>
  if (r_1 : Option Nat) = some 26 then (
    if v1 < 4 then (
      pf_X6_open_b38 v0 σ
    ) else (
      (pf_X6_start v0 σ).bind fun r_2 =>
      (pf_X6_fail v0 (-6) r_2 σ).bind fun σ_3 =>
      pf_X6_open_b38 v0 σ_3
    )
  ) else (
    (pf_X6_start v0 σ).bind fun r_4 =>
    (pf_X6_fail v0 (-2) r_4 σ).bind fun σ_5 =>
    pf_X6_open_b38 v0 σ_5
  )
noncomputable def pf_X6_take (v0 : Nat) (v1 : Option Nat) (σ : St) : Option (Int32 × St) :=
  (pf_X6_ahead v0 σ).bind fun r_1 =>
  if (r_1 : Option Nat) = v1 then (
    bnd (sI σ v0 4 ((gI σ v0 4) + 1)) fun σ_2 =>
    some ((1 : Int32), σ_2)
  ) else (
    some ((0 : Int32), σ)
  )
noncomputable def pf_X0_readGroup_b36 (rc : Nat → Nat → Int32 → Int32 → St → Option (Int64 × St)) (k13 : Nat → Nat → Int32 → Int32 → Int32 → Int32 → Int32 → St → (Option (Int64 × St))) (v0 : Nat) (v1 : Nat) (v2 : Int32) (v3 : Int32) (v4 : Int32) (v5 : Int32) (v6 : Int32) (s0 : Nat) (s1 : Int32) (s2 : Int32) (s3 : Int64) (σ : St) : Option (Int64 × St) :=
  (pf_X0_putTally s0 s1 s2 s3 σ).bind fun σ_1 =>
  bnd (v6 + 1) fun v6_2 =>
  k13 v0 v1 v2 v3 v4 v5 v6_2 σ_1
noncomputable def pf_X0_readGroup_b99 (rc : Nat → Nat → Int32 → Int32 → St → Option (Int64 × St)) (v0 : Nat) (v1 : Nat) (v3 : Int32) (v4 : Int32) (σ : St) : Option (Int64 × St) :=
  (pf_X6_expect v1 (some 27) σ).bind fun σ_1 =>
  (pf_X0_tallied v0 v3 v4 σ_1).bind fun r_2 =>
  some (r_2, σ_1)
noncomputable def pf_X0_readGroup_L62 (rc : Nat → Nat → Int32 → Int32 → St → Option (Int64 × St)) (k99 : Nat → Nat → Int32 → Int32 → St → (Option (Int64 × St))) : Nat → Nat → Nat → Int32 → Int32 → Int32 → Int32 → Int32 → St → (Option (Int64 × St))
  | 0, _, _, _, _, _, _, _, _ => none
  | n + 1, v0, v1, v2, v3, v4, v5, v6, σ =>
    if v5 ≤ v6 then (
      k99 v0 v1 v3 v4 σ
    ) else (
      bnd2 (pf_X6_take v1 (some 25) σ) fun r_1 σ_1 =>
      if r_1 = 0 then (
        k99 v0 v1 v3 v4 σ_1
      ) else (
        bnd2 (rc v0 v1 v2 (v3 + 1) σ_1) fun r_2 σ_2 =>
        (pf_X0_tally v0 v3 r_2 σ_2).bind fun σ_3 =>
        bnd (v6 + 1) fun v6_4 =>
        pf_X0_readGroup_L62 rc k99 n v0 v1 v2 v3 v4 v5 v6_4 σ_3
      )
    )
noncomputable def pf_X0_readGroup_b45 (rc : Nat → Nat → Int32 → Int32 → St → Option (Int64 × St)) (v0 : Nat) (v1 : Nat) (v2 : Int32) (v3 : Int32) (v4 : Int32) (v5 : Int32) (σ : St) : Option (Int64 × St) :=
  bnd2 (rc v0 v1 v2 (v3 + 1) σ) fun r_1 σ_1 =>
  (pf_X0_tally v0 v3 r_1 σ_1).bind fun σ_2 =>
  pf_X0_readGroup_L62 rc (pf_X0_readGroup_b99 rc) FU v0 v1 v2 v3 v4 v5 1 σ_2
noncomputable def pf_X0_readGroup_L13 (rc : Nat → Nat → Int32 → Int32 → St → Option (Int64 × St)) (k45 : Nat → Nat → Int32 → Int32 → Int32 → Int32 → St → (Option (Int64 × St))) : Nat → Nat → Nat → Int32 → Int32 → Int32 → Int32 → Int32 → St → (Option (Int64 × St))
  | 0, _, _, _, _, _, _, _, _ => none
  | n + 1, v0, v1, v2, v3, v4, v5, v6, σ =>
    if (7 : Int32) ≤ v6 then (
      k45 v0 v1 v2 v3 v4 v5 σ
    ) else (
      if v6 = 0 then (
        pf_X0_readGroup_b36 rc (pf_X0_readGroup_L13 rc k45 n) v0 v1 v2 v3 v4 v5 v6 v0 v3 v6 (-1) σ
      ) else (
        pf_X0_readGroup_b36 rc (pf_X0_readGroup_L13 rc k45 n) v0 v1 v2 v3 v4 v5 v6 v0 v3 v6 0 σ
      )
    )
noncomputable def pf_X0_readGroup (rc : Nat → Nat → Int32 → Int32 → St → Option (Int64 × St)) (v0 : Nat) (v1 : Nat) (v2 : Int32) (v3 : Int32) (v4 : Int32) (v5 : Int32) (σ : St) : Option (Int64 × St) :=
  bnd2 (pf_X6_open v1 v3 σ) fun r_1 σ_1 =>
  if r_1 = 0 then (
    some (0, σ_1)
  ) else (
    pf_X0_readGroup_L13 rc (pf_X0_readGroup_b45 rc) FU v0 v1 v2 v3 v4 v5 0 σ_1
  )
noncomputable def pf_X10_at (v0 : Nat) (v1 : Int32) (σ : St) : Option (Int32) :=
  if v1 < 0 then (
    some (0)
  ) else (
    if (nI (alen v0)) ≤ v1 then (
      some (0)
    ) else (
      ckI (v1) (alen v0) <|
      some (gI σ v0 (v1).toNatClampNeg)
    )
  )
noncomputable def pf_X6_number_b59 (v0 : Nat) (v1 : Int32) (v3 : Int32) (σ : St) : Option (Int32 × St) :=
  (pf_X6_fail v0 (-3) v3 σ).bind fun σ_1 =>
  some (v1, σ_1)
noncomputable def pf_X6_number (v0 : Nat) (v1 : Int32) (v2 : Int32) (σ : St) : Option (Int32 × St) :=
  (pf_X6_start v0 σ).bind fun r_1 =>
  (pf_X6_ahead v0 σ).bind fun r_2 =>
  if (r_2 : Option Nat) = some 0 then (
    (pf_X10_at (v0 + 3) (gI σ v0 4) σ).bind fun r_3 =>
    bnd (sI σ v0 4 ((gI σ v0 4) + 1)) fun σ_4 =>
    if r_3 < v1 then (
      pf_X6_number_b59 v0 v1 r_1 σ_4
    ) else (
      if r_3 ≤ v2 then (
        some (r_3, σ_4)
      ) else (
        pf_X6_number_b59 v0 v1 r_1 σ_4
      )
    )
  ) else (
    (pf_X6_fail v0 (-2) r_1 σ).bind fun σ_5 =>
    some (v1, σ_5)
  )
noncomputable def pf_X0_readSingle_b66 (rc : Nat → Nat → Int32 → Int32 → St → Option (Int64 × St)) (v0 : Nat) (v1 : Nat) (v2 : Int32) (v3 : Int32) (v5 : Int32) (σ : St) : Option (Int64 × St) :=
  bnd2 (pf_X0_readGroup rc v0 v1 v2 v3 v5 800 σ) fun r_1 σ_1 =>
  some (r_1, σ_1)
noncomputable def pf_X0_readSingle_b58 (rc : Nat → Nat → Int32 → Int32 → St → Option (Int64 × St)) (v0 : Nat) (v1 : Nat) (v2 : Int32) (v3 : Int32) (v4 : Int32) (v5 : Int32) (σ : St) : Option (Int64 × St) :=
  (pf_X6_fail v1 (-3) v4 σ).bind fun σ_1 =>
  pf_X0_readSingle_b66 rc v0 v1 v2 v3 v5 σ_1
noncomputable def pf_X0_readSingle_b99 (rc : Nat → Nat → Int32 → Int32 → St → Option (Int64 × St)) (v1 : Nat) (v4 : Int32) (σ : St) : Option (Int64 × St) :=
  (pf_X6_fail v1 (-3) v4 σ).bind fun σ_1 =>
  some (0, σ_1)
noncomputable def pf_X0_readSingle (rc : Nat → Nat → Int32 → Int32 → St → Option (Int64 × St)) (v0 : Nat) (v1 : Nat) (v2 : Int32) (v3 : Int32) (σ : St) : Option (Int64 × St) :=
  (pf_X6_ahead v1 σ).bind fun r_1 =>
  if (r_1 : Option Nat) = some 0 then (
    (pf_X6_start v1 σ).bind fun r_2 =>
    bnd2 (pf_X6_number v1 0 1000000 σ) fun r_3 σ_3 =>
    bnd2 (pf_X6_take v1 (some 18) σ_3) fun r_4 σ_4 =>
    if r_4 = 0 then (
      if r_3 < 0 then (
        pf_X0_readSingle_b99 rc v1 r_2 σ_4
      ) else (
        if v2 ≤ r_3 then (
          pf_X0_readSingle_b99 rc v1 r_2 σ_4
        ) else (
          if r_3 < 6 then (
            ckI (r_3) 6 <|
            some (swC.getD (r_3).toNatClampNeg 0, σ_4)
          ) else (
            pf_X0_readSingle_b99 rc v1 r_2 σ_4
          )
        )
      )
    ) else (
      if r_3 < 1 then (
        pf_X0_readSingle_b58 rc v0 v1 v2 v3 r_2 r_3 σ_4
      ) else (
        if r_3 ≤ 6 then (
          pf_X0_readSingle_b66 rc v0 v1 v2 v3 r_3 σ_4
        ) else (
          pf_X0_readSingle_b58 rc v0 v1 v2 v3 r_2 r_3 σ_4
        )
      )
    )
  ) else (
    bnd2 (pf_X0_readGroup rc v0 v1 v2 v3 1 1 σ) fun r_5 σ_5 =>
    some (r_5, σ_5)
  )
noncomputable def pf_X0_readGoal_b77 (rc : Nat → Nat → Int32 → Int32 → St → Option (Int64 × St)) (v4 : Int64) (v6 : Int64) (σ : St) : Option (Int64 × St) :=
  some (v4 ||| v6, σ)
noncomputable def pf_X0_readGoal_b83 (rc : Nat → Nat → Int32 → Int32 → St → Option (Int64 × St)) (k15 : Nat → Nat → Int32 → Int32 → Int64 → Int64 → Int32 → St → (Option (Int64 × St))) (v0 : Nat) (v1 : Nat) (v2 : Int32) (v3 : Int32) (v4 : Int64) (v6 : Int64) (v8 : Int32) (σ : St) : Option (Int64 × St) :=
  bnd (v8 + 1) fun v8_1 =>
  k15 v0 v1 v2 v3 v4 v6 v8_1 σ
noncomputable def pf_X0_readGoal_b89 (rc : Nat → Nat → Int32 → Int32 → St → Option (Int64 × St)) (v4 : Int64) (v6 : Int64) (σ : St) : Option (Int64 × St) :=
  some (v4 ||| v6, σ)
noncomputable def pf_X0_readGoal_L15 (rc : Nat → Nat → Int32 → Int32 → St → Option (Int64 × St)) (k77 : Int64 → Int64 → St → (Option (Int64 × St))) (k89 : Int64 → Int64 → St → (Option (Int64 × St))) : Nat → Nat → Nat → Int32 → Int32 → Int64 → Int64 → Int32 → St → (Option (Int64 × St))
  | 0, _, _, _, _, _, _, _, _ => none
  | n + 1, v0, v1, v2, v3, v4, v6, v8, σ =>
    if (800 : Int32) ≤ v8 then (
      k89 v4 v6 σ
    ) else (
      bnd2 (pf_X6_take v1 (some 17) σ) fun r_1 σ_1 =>
      if r_1 = 0 then (
        bnd2 (pf_X6_take v1 (some 16) σ_1) fun r_2 σ_2 =>
        if r_2 = 0 then (
          k77 v4 v6 σ_2
        ) else (
          bnd (v4 ||| v6) fun v4_3 =>
          bnd2 (pf_X0_readSingle rc v0 v1 v2 v3 σ_2) fun r_4 σ_4 =>
          pf_X0_readGoal_b83 rc (pf_X0_readGoal_L15 rc k77 k89 n) v0 v1 v2 v3 v4_3 r_4 v8 σ_4
        )
      ) else (
        bnd2 (pf_X0_readSingle rc v0 v1 v2 v3 σ_1) fun r_5 σ_5 =>
        bnd (v6 &&& r_5) fun v6_6 =>
        pf_X0_readGoal_b83 rc (pf_X0_readGoal_L15 rc k77 k89 n) v0 v1 v2 v3 v4 v6_6 v8 σ_5
      )
    )
noncomputable def pf_X0_readGoal_B (rc : Nat → Nat → Int32 → Int32 → St → Option (Int64 × St)) (v0 : Nat) (v1 : Nat) (v2 : Int32) (v3 : Int32) (σ : St) : Option (Int64 × St) :=
  bnd2 (pf_X0_readSingle rc v0 v1 v2 v3 σ) fun r_1 σ_1 =>
  pf_X0_readGoal_L15 rc (pf_X0_readGoal_b77 rc) (pf_X0_readGoal_b89 rc) FU v0 v1 v2 v3 0 r_1 0 σ_1
noncomputable def pf_X0_readGoal : Nat → Nat → Nat → Int32 → Int32 → St → Option (Int64 × St)
  | 0, _, _, _, _, _ => none
  | d + 1, v0, v1, v2, v3, σ => pf_X0_readGoal_B (pf_X0_readGoal d) v0 v1 v2 v3 σ
noncomputable def pf_J9_min_7cf53 (v0 : Int32) (v1 : Int32) (σ : St) : Option (Int32) :=
  if v1 < v0 then (
    some (v1)
  ) else (
    some (v0)
  )
noncomputable def pf_X3_copyFrom (v0 : Nat) (v1 : Nat) (σ : St) : Option St :=
  bnd (sI σ v0 0 (gI σ v1 0)) fun σ_1 =>
  bnd (sI σ_1 v0 1 (gI σ_1 v1 1)) fun σ_2 =>
  bnd (sI σ_2 v0 2 (gI σ_2 v1 2)) fun σ_3 =>
  bnd (sI σ_3 v0 3 (gI σ_3 v1 3)) fun σ_4 =>
  bnd (sI σ_4 v0 4 (gI σ_4 v1 4)) fun σ_5 =>
  bnd (sL σ_5 v0 5 (gL σ_5 v1 5)) fun σ_6 =>
  ckC 0 0 6 (v1 + 1) (v0 + 1) <|
  bnd (cpI σ_6 (v1 + 1) 0 (v0 + 1) 0 6) fun σ_7 =>
  ckC 0 0 6 (v1 + 2) (v0 + 2) <|
  bnd (cpI σ_7 (v1 + 2) 0 (v0 + 2) 0 6) fun σ_8 =>
  ckC 0 0 6 (v1 + 3) (v0 + 3) <|
  bnd (cpI σ_8 (v1 + 3) 0 (v0 + 3) 0 6) fun σ_9 =>
  ckC 0 0 6 (v1 + 4) (v0 + 4) <|
  bnd (cpI σ_9 (v1 + 4) 0 (v0 + 4) 0 6) fun σ_10 =>
  ckC 0 0 6 (v1 + 5) (v0 + 5) <|
  bnd (cpI σ_10 (v1 + 5) 0 (v0 + 5) 0 6) fun σ_11 =>
  ckC 0 0 48 (v1 + 6) (v0 + 6) <|
  bnd (cpI σ_11 (v1 + 6) 0 (v0 + 6) 0 48) fun σ_12 =>
  ckC 0 0 48 (v1 + 7) (v0 + 7) <|
  bnd (cpI σ_12 (v1 + 7) 0 (v0 + 7) 0 48) fun σ_13 =>
  ckC 0 0 48 (v1 + 8) (v0 + 8) <|
  bnd (cpI σ_13 (v1 + 8) 0 (v0 + 8) 0 48) fun σ_14 =>
  some σ_14
noncomputable def pf_X2_copyFrom_L101 : Nat → Nat → Nat → Int32 → St → (Option St)
  | 0, _, _, _, _ => none
  | n + 1, v0, v1, v2, σ =>
    if (gI σ v0 7) ≤ v2 then (
      some σ
    ) else (
      if (800 : Int32) ≤ v2 then (
        some σ
      ) else (
        ckI (v2) (alen (v1 + 4)) <|
        ckI (v2) (alen (v0 + 4)) <|
        bnd (sI σ (v0 + 4) (v2).toNatClampNeg (gI σ (v1 + 4) (v2).toNatClampNeg)) fun σ_3 =>
        bnd (v2 + 1) fun v2_4 =>
        pf_X2_copyFrom_L101 n v0 v1 v2_4 σ_3
      )
    )
noncomputable def pf_X2_copyFrom_b91 (v0 : Nat) (v1 : Nat) (σ : St) : Option St :=
  bnd (sI σ v0 7 (gI σ v1 7)) fun σ_1 =>
  pf_X2_copyFrom_L101 FU v0 v1 0 σ_1
noncomputable def pf_X2_copyFrom_L56 (k91 : Nat → Nat → St → (Option St)) : Nat → Nat → Nat → Int32 → St → (Option St)
  | 0, _, _, _, _ => none
  | n + 1, v0, v1, v2, σ =>
    if (gI σ v0 5) ≤ v2 then (
      k91 v0 v1 σ
    ) else (
      if (6 : Int32) ≤ v2 then (
        k91 v0 v1 σ
      ) else (
        ckI (v2) (alen (v0 + 3)) <|
        ckI (v2) (alen (v1 + 3)) <|
        (pf_X3_copyFrom (v0 + 3 + 2 + 9 * (v2).toNatClampNeg) (v1 + 3 + 2 + 9 * (v2).toNatClampNeg) σ).bind fun σ_3 =>
        bnd (v2 + 1) fun v2_4 =>
        pf_X2_copyFrom_L56 k91 n v0 v1 v2_4 σ_3
      )
    )
noncomputable def pf_X2_copyFrom (v0 : Nat) (v1 : Nat) (σ : St) : Option St :=
  ckC 0 0 8 (v1 + 1) (v0 + 1) <|
  bnd (cpI σ (v1 + 1) 0 (v0 + 1) 0 8) fun σ_1 =>
  ckC 0 0 40 (v1 + 2) (v0 + 2) <|
  bnd (cpI σ_1 (v1 + 2) 0 (v0 + 2) 0 40) fun σ_2 =>
  bnd (sI σ_2 v0 2 (gI σ_2 v1 2)) fun σ_3 =>
  bnd (sI σ_3 v0 3 (gI σ_3 v1 3)) fun σ_4 =>
  bnd (sI σ_4 v0 5 (gI σ_4 v1 5)) fun σ_5 =>
  pf_X2_copyFrom_L56 (pf_X2_copyFrom_b91) FU v0 v1 0 σ_5
noncomputable def pf_X1_remember_b29 (v0 : Nat) (σ : St) : Option St :=
  bnd (sI σ v0 1 (irem ((gI σ v0 1) + 1) 8)) fun σ_1 =>
  (pf_J9_min_7cf53 ((gI σ_1 v0 2) + 1) 8 σ_1).bind fun r_2 =>
  bnd (sI σ_1 v0 2 r_2) fun σ_3 =>
  some σ_3
noncomputable def pf_X1_remember (v0 : Nat) (v1 : Nat) (σ : St) : Option St :=
  if (gI σ v0 1) < 0 then (
    pf_X1_remember_b29 v0 σ
  ) else (
    if (8 : Int32) ≤ (gI σ v0 1) then (
      pf_X1_remember_b29 v0 σ
    ) else (
      ckI (gI σ v0 1) (alen (v0 + 1)) <|
      (pf_X2_copyFrom (v0 + 1 + 1 + 59 * (gI σ v0 1).toNatClampNeg) v1 σ).bind fun σ_2 =>
      pf_X1_remember_b29 v0 σ_2
    )
  )
noncomputable def pf_J7_fill_53178_L5 : Nat → Nat → Int32 → Int32 → Int32 → St → (Option St)
  | 0, _, _, _, _, _ => none
  | n + 1, v0, v1, v2, v3, σ =>
    if v3 ≤ v2 then (
      some σ
    ) else (
      ckI (v2) (alen v0) <|
      bnd (sI σ v0 (v2).toNatClampNeg v1) fun σ_2 =>
      bnd (v2 + 1) fun v2_3 =>
      pf_J7_fill_53178_L5 n v0 v1 v2_3 v3 σ_2
    )
noncomputable def pf_J7_fill_53178 (v0 : Nat) (v1 : Int32) (σ : St) : Option St :=
  bnd (nI (alen v0)) fun v3_1 =>
  pf_J7_fill_53178_L5 FU v0 v1 0 v3_1 σ
noncomputable def pf_X2_clear (v0 : Nat) (σ : St) : Option St :=
  (pf_J7_fill_53178 (v0 + 1) 0 σ).bind fun σ_1 =>
  bnd (sI σ_1 v0 2 0) fun σ_2 =>
  bnd (sI σ_2 v0 3 0) fun σ_3 =>
  bnd (sI σ_3 v0 5 0) fun σ_4 =>
  bnd (sI σ_4 v0 7 0) fun σ_5 =>
  some σ_5
noncomputable def pf_X10_put (v0 : Nat) (v1 : Int32) (v2 : Int32) (σ : St) : Option St :=
  if v1 < 0 then (
    some σ
  ) else (
    if (nI (alen v0)) ≤ v1 then (
      some σ
    ) else (
      ckI (v1) (alen v0) <|
      bnd (sI σ v0 (v1).toNatClampNeg v2) fun σ_2 =>
      some σ_2
    )
  )
noncomputable def pf_X2_appendCode (v0 : Nat) (v1 : Int32) (σ : St) : Option St :=
  (pf_X10_put (v0 + 4) (gI σ v0 7) v1 σ).bind fun σ_1 =>
  bnd (sI σ_1 v0 7 ((gI σ_1 v0 7) + 1)) fun σ_2 =>
  some σ_2
noncomputable def pf_X2_enqueue (v0 : Nat) (v1 : Int32) (σ : St) : Option St :=
  (pf_X10_put (v0 + 2) (gI σ v0 2) v1 σ).bind fun σ_1 =>
  bnd (sI σ_1 v0 2 ((gI σ_1 v0 2) + 1)) fun σ_2 =>
  some σ_2
noncomputable def pf_X2_draw_L56 : Nat → Nat → Int32 → Int32 → St → (Option (Int32 × St))
  | 0, _, _, _, _ => none
  | n + 1, v0, v1, v2, σ =>
    if (gI σ v0 2) ≤ v2 then (
      some (v1, σ)
    ) else (
      (pf_X10_at (v0 + 2) (v2 + 1) σ).bind fun r_1 =>
      (pf_X10_put (v0 + 2) v2 r_1 σ).bind fun σ_2 =>
      bnd (v2 + 1) fun v2_3 =>
      pf_X2_draw_L56 n v0 v1 v2_3 σ_2
    )
noncomputable def pf_X2_draw (v0 : Nat) (σ : St) : Option (Int32 × St) :=
  if (0 : Int32) < (gI σ v0 2) then (
    ckI (0) (alen (v0 + 2)) <|
    bnd (gI σ (v0 + 2) (0 : Int32).toNatClampNeg) fun v1_2 =>
    bnd (sI σ v0 2 ((gI σ v0 2) - 1)) fun σ_3 =>
    pf_X2_draw_L56 FU v0 v1_2 0 σ_3
  ) else (
    bnd (sI σ v0 3 (((gI σ v0 3) * 1103515245) + 12345)) fun σ_4 =>
    some (irem ((iushr (gI σ_4 v0 3) 16) &&& 32767) 100, σ_4)
  )
noncomputable def pf_X2_change_L3 : Nat → Nat → Nat → Int32 → Int32 → Int32 → St → (Option St)
  | 0, _, _, _, _, _, _ => none
  | n + 1, v0, v1, v2, v3, v4, σ =>
    if (8 : Int32) ≤ v4 then (
      some σ
    ) else (
      ckI (v4) (alen (v0 + 1)) <|
      (pf_X10_at v1 ((v2 * 8) + v4) σ).bind fun r_2 =>
      ckI (v4) (alen (v0 + 1)) <|
      bnd (sI σ (v0 + 1) (v4).toNatClampNeg ((gI σ (v0 + 1) (v4).toNatClampNeg) + (v3 * r_2))) fun σ_4 =>
      bnd (v4 + 1) fun v4_5 =>
      pf_X2_change_L3 n v0 v1 v2 v3 v4_5 σ_4
    )
noncomputable def pf_X2_change (v0 : Nat) (v1 : Nat) (v2 : Int32) (v3 : Int32) (σ : St) : Option St :=
  pf_X2_change_L3 FU v0 v1 v2 v3 0 σ
noncomputable def pf_X3_goalHolds (v0 : Nat) (v1 : Int32) (σ : St) : Option (Int32) :=
  if ((lushr (gL σ v0 5) v1) &&& 1) = 0 then (
    some (0)
  ) else (
    some (1)
  )
noncomputable def pf_X3_isBroken (v0 : Nat) (v1 : Int32) (σ : St) : Option (Int32) :=
  (pf_X10_at (v0 + 3) v1 σ).bind fun r_1 =>
  (pf_X10_at (v0 + 2) v1 σ).bind fun r_2 =>
  if r_1 < r_2 then (
    some (0)
  ) else (
    some (1)
  )
noncomputable def pf_X3_isDone (v0 : Nat) (v1 : Int32) (σ : St) : Option (Int32) :=
  if ((iushr (gI σ v0 2) v1) &&& 1) = 0 then (
    some (0)
  ) else (
    some (1)
  )
noncomputable def pf_X3_canStillHold_b47 (σ : St) (k4 : Nat → Int32 → Int32 → (Option (Int32))) (v0 : Nat) (v1 : Int32) (v2 : Int32) : Option (Int32) :=
  bnd (v2 + 1) fun v2_1 =>
  k4 v0 v1 v2_1
noncomputable def pf_X3_canStillHold_b41 (σ : St) (k4 : Nat → Int32 → Int32 → (Option (Int32))) (v0 : Nat) (v1 : Int32) (v2 : Int32) : Option (Int32) :=
  bnd (v1 ||| (ishl 1 v2)) fun v1_1 =>
  pf_X3_canStillHold_b47 σ k4 v0 v1_1 v2
noncomputable def pf_X3_canStillHold_b53 (σ : St) (v0 : Nat) (v1 : Int32) : Option (Int32) :=
  (pf_X3_goalHolds v0 (63 &&& (v1 ^^^ (-1))) σ).bind fun r_1 =>
  ckZ (r_1) <|
  some (r_1)
noncomputable def pf_X3_canStillHold_L4 (σ : St) (k53 : Nat → Int32 → (Option (Int32))) : Nat → Nat → Int32 → Int32 → (Option (Int32))
  | 0, _, _, _ => none
  | n + 1, v0, v1, v2 =>
    if (gI σ v0 0) ≤ v2 then (
      k53 v0 v1
    ) else (
      (pf_X3_isDone v0 v2 σ).bind fun r_1 =>
      if r_1 = 0 then (
        (pf_X3_isBroken v0 v2 σ).bind fun r_2 =>
        if r_2 = 0 then (
          (pf_X10_at (v0 + 4) v2 σ).bind fun r_3 =>
          if (r_3 &&& v1) = 0 then (
            pf_X3_canStillHold_b47 σ (pf_X3_canStillHold_L4 σ k53 n) v0 v1 v2
          ) else (
            pf_X3_canStillHold_b41 σ (pf_X3_canStillHold_L4 σ k53 n) v0 v1 v2
          )
        ) else (
          pf_X3_canStillHold_b41 σ (pf_X3_canStillHold_L4 σ k53 n) v0 v1 v2
        )
      ) else (
        pf_X3_canStillHold_b47 σ (pf_X3_canStillHold_L4 σ k53 n) v0 v1 v2
      )
    )
noncomputable def pf_X3_canStillHold (v0 : Nat) (σ : St) : Option (Int32) :=
  pf_X3_canStillHold_L4 σ (pf_X3_canStillHold_b53 σ) FU v0 0 0
noncomputable def pf_X2_fail_b40 (v1 : Nat) (σ : St) : Option St :=
  (pf_X3_canStillHold v1 σ).bind fun r_1 =>
  if r_1 = 0 then (
    bnd (sI σ v1 1 2) fun σ_2 =>
    some σ_2
  ) else (
    some σ
  )
noncomputable def pf_X2_fail (v0 : Nat) (v1 : Nat) (v2 : Int32) (σ : St) : Option St :=
  (pf_X10_at (v1 + 3) v2 σ).bind fun r_1 =>
  (pf_X10_put (v1 + 3) v2 (r_1 + 1) σ).bind fun σ_2 =>
  (pf_X10_at (v1 + 5) v2 σ_2).bind fun r_3 =>
  if r_3 = 1 then (
    (pf_X2_change v0 (v1 + 6) v2 (-1) σ_2).bind fun σ_4 =>
    pf_X2_fail_b40 v1 σ_4
  ) else (
    pf_X2_fail_b40 v1 σ_2
  )
noncomputable def pf_X2_succeed (v0 : Nat) (v1 : Nat) (v2 : Int32) (σ : St) : Option St :=
  (pf_X2_change v0 (v1 + 6) v2 (-1) σ).bind fun σ_1 =>
  (pf_X2_change v0 (v1 + 8) v2 1 σ_1).bind fun σ_2 =>
  bnd (sI σ_2 v1 2 ((gI σ_2 v1 2) ||| (ishl 1 v2))) fun σ_3 =>
  (pf_X3_goalHolds v1 (gI σ_3 v1 2) σ_3).bind fun r_4 =>
  if r_4 = 0 then (
    some σ_3
  ) else (
    bnd (sI σ_3 v1 1 1) fun σ_5 =>
    (pf_X10_at (v0 + 1) (gI σ_5 v1 3) σ_5).bind fun r_6 =>
    (pf_X10_put (v0 + 1) (gI σ_5 v1 3) (r_6 + (gI σ_5 v1 4)) σ_5).bind fun σ_7 =>
    some σ_7
  )
noncomputable def pf_X2_tryStep (v0 : Nat) (v1 : Nat) (v2 : Int32) (σ : St) : Option (Int32 × St) :=
  bnd2 (pf_X2_draw v0 σ) fun r_1 σ_1 =>
  (pf_X10_at (v1 + 1) v2 σ_1).bind fun r_2 =>
  if r_1 < r_2 then (
    (pf_X2_fail v0 v1 v2 σ_1).bind fun σ_3 =>
    if (gI σ_3 v1 1) = 2 then (
      some ((3 : Int32), σ_3)
    ) else (
      some ((0 : Int32), σ_3)
    )
  ) else (
    (pf_X2_succeed v0 v1 v2 σ_1).bind fun σ_4 =>
    if (gI σ_4 v1 1) = 1 then (
      some ((2 : Int32), σ_4)
    ) else (
      some ((1 : Int32), σ_4)
    )
  )
noncomputable def pf_X3_beginAnew (v0 : Nat) (σ : St) : Option St :=
  bnd (sI σ v0 1 0) fun σ_1 =>
  bnd (sI σ_1 v0 2 0) fun σ_2 =>
  (pf_J7_fill_53178 (v0 + 3) 0 σ_2).bind fun σ_3 =>
  some σ_3
noncomputable def pf_X3_clear (v0 : Nat) (σ : St) : Option St :=
  bnd (sI σ v0 0 0) fun σ_1 =>
  (pf_X3_beginAnew v0 σ_1).bind fun σ_2 =>
  (pf_J7_fill_53178 (v0 + 4) 0 σ_2).bind fun σ_3 =>
  (pf_J7_fill_53178 (v0 + 5) 0 σ_3).bind fun σ_4 =>
  (pf_J7_fill_53178 (v0 + 6) 0 σ_4).bind fun σ_5 =>
  (pf_J7_fill_53178 (v0 + 7) 0 σ_5).bind fun σ_6 =>
  (pf_J7_fill_53178 (v0 + 8) 0 σ_6).bind fun σ_7 =>
  some σ_7
noncomputable def pf_X3_brokenSteps_b26 (σ : St) (k4 : Nat → Int32 → Int32 → (Option (Int32))) (v0 : Nat) (v1 : Int32) (v2 : Int32) : Option (Int32) :=
  bnd (v2 + 1) fun v2_1 =>
  k4 v0 v1 v2_1
noncomputable def pf_X3_brokenSteps_L4 (σ : St) : Nat → Nat → Int32 → Int32 → (Option (Int32))
  | 0, _, _, _ => none
  | n + 1, v0, v1, v2 =>
    if (gI σ v0 0) ≤ v2 then (
      some (v1)
    ) else (
      (pf_X3_isBroken v0 v2 σ).bind fun r_1 =>
      if r_1 = 0 then (
        pf_X3_brokenSteps_b26 σ (pf_X3_brokenSteps_L4 σ n) v0 v1 v2
      ) else (
        bnd (v1 ||| (ishl 1 v2)) fun v1_2 =>
        pf_X3_brokenSteps_b26 σ (pf_X3_brokenSteps_L4 σ n) v0 v1_2 v2
      )
    )
noncomputable def pf_X3_brokenSteps (v0 : Nat) (σ : St) : Option (Int32) :=
  pf_X3_brokenSteps_L4 σ FU v0 0 0
noncomputable def pf_X3_sumOfFails_L4 (σ : St) : Nat → Nat → Int32 → Int32 → (Option (Int32))
  | 0, _, _, _ => none
  | n + 1, v0, v1, v2 =>
    if (gI σ v0 0) ≤ v2 then (
      some (v1)
    ) else (
      (pf_X10_at (v0 + 3) v2 σ).bind fun r_1 =>
      bnd (v1 + r_1) fun v1_2 =>
      bnd (v2 + 1) fun v2_3 =>
      pf_X3_sumOfFails_L4 σ n v0 v1_2 v2_3
    )
noncomputable def pf_X3_sumOfFails (v0 : Nat) (σ : St) : Option (Int32) :=
  pf_X3_sumOfFails_L4 σ FU v0 0 0
noncomputable def pf_X3_riskOf_b31 (σ : St) (k4 : Nat → Int32 → Int32 → Int32 → (Option (Int32))) (v0 : Nat) (v1 : Int32) (v2 : Int32) (v3 : Int32) : Option (Int32) :=
  bnd (v3 + 1) fun v3_1 =>
  k4 v0 v1 v2 v3_1
noncomputable def pf_X3_riskOf_L4 (σ : St) : Nat → Nat → Int32 → Int32 → Int32 → (Option (Int32))
  | 0, _, _, _, _ => none
  | n + 1, v0, v1, v2, v3 =>
    if (gI σ v0 0) ≤ v3 then (
      some (v2)
    ) else (
      if ((iushr v1 v3) &&& 1) = 0 then (
        pf_X3_riskOf_b31 σ (pf_X3_riskOf_L4 σ n) v0 v1 v2 v3
      ) else (
        (pf_X10_at (v0 + 1) v3 σ).bind fun r_1 =>
        bnd (v2 + r_1) fun v2_2 =>
        pf_X3_riskOf_b31 σ (pf_X3_riskOf_L4 σ n) v0 v1 v2_2 v3
      )
    )
noncomputable def pf_X3_riskOf (v0 : Nat) (v1 : Int32) (σ : St) : Option (Int32) :=
  pf_X3_riskOf_L4 σ FU v0 v1 0 0
noncomputable def pf_J9_max_7cf53 (v0 : Int32) (v1 : Int32) (σ : St) : Option (Int32) :=
  if v0 < v1 then (
    some (v1)
  ) else (
    some (v0)
  )
noncomputable def pf_X3_hindranceBehind_L40 (σ : St) : Nat → Nat → Int32 → Nat → Int32 → Int32 → (Option (Int32))
  | 0, _, _, _, _, _ => none
  | n + 1, v0, v2, v3, v4, v5 =>
    if (8 : Int32) ≤ v5 then (
      some (0)
    ) else (
      bnd ((v2 * 8) + v5) fun v6_1 =>
      (pf_X10_at v3 (v4 + v5) σ).bind fun r_2 =>
      (pf_X10_at (v0 + 6) v6_1 σ).bind fun r_3 =>
      (pf_X10_at (v0 + 7) v6_1 σ).bind fun r_4 =>
      (pf_J9_max_7cf53 r_3 r_4 σ).bind fun r_5 =>
      if r_5 ≤ r_2 then (
        bnd (v5 + 1) fun v5_6 =>
        pf_X3_hindranceBehind_L40 σ n v0 v2 v3 v4 v5_6
      ) else (
        some (5)
      )
    )
noncomputable def pf_X3_hindranceBehind (v0 : Nat) (v1 : Int32) (v2 : Int32) (v3 : Nat) (v4 : Int32) (σ : St) : Option (Int32) :=
  if ((iushr v1 v2) &&& 1) = 0 then (
    (pf_X3_isBroken v0 v2 σ).bind fun r_1 =>
    if r_1 = 0 then (
      (pf_X10_at (v0 + 4) v2 σ).bind fun r_2 =>
      if (r_2 &&& (v1 ^^^ (-1))) = 0 then (
        pf_X3_hindranceBehind_L40 σ FU v0 v2 v3 v4 0
      ) else (
        some (4)
      )
    ) else (
      some (3)
    )
  ) else (
    some (2)
  )
noncomputable def pf_X3_hindrance (v0 : Nat) (v1 : Int32) (v2 : Nat) (σ : St) : Option (Int32) :=
  if (gI σ v0 1) = 0 then (
    (pf_X3_hindranceBehind v0 (gI σ v0 2) v1 v2 0 σ).bind fun r_1 =>
    some (r_1)
  ) else (
    some (1)
  )
noncomputable def pf_X3_stepsToTry_b27 (σ : St) (k4 : Nat → Nat → Int32 → Int32 → (Option (Int32))) (v0 : Nat) (v1 : Nat) (v2 : Int32) (v3 : Int32) : Option (Int32) :=
  bnd (v3 + 1) fun v3_1 =>
  k4 v0 v1 v2 v3_1
noncomputable def pf_X3_stepsToTry_L4 (σ : St) : Nat → Nat → Nat → Int32 → Int32 → (Option (Int32))
  | 0, _, _, _, _ => none
  | n + 1, v0, v1, v2, v3 =>
    if (gI σ v0 0) ≤ v3 then (
      some (v2)
    ) else (
      (pf_X3_hindrance v0 v3 v1 σ).bind fun r_1 =>
      if r_1 = 0 then (
        bnd (v2 ||| (ishl 1 v3)) fun v2_2 =>
        pf_X3_stepsToTry_b27 σ (pf_X3_stepsToTry_L4 σ n) v0 v1 v2_2 v3
      ) else (
        pf_X3_stepsToTry_b27 σ (pf_X3_stepsToTry_L4 σ n) v0 v1 v2 v3
      )
    )
noncomputable def pf_X3_stepsToTry (v0 : Nat) (v1 : Nat) (σ : St) : Option (Int32) :=
  pf_X3_stepsToTry_L4 σ FU v0 v1 0 0
noncomputable def pf_X4_offsetOfError (v0 : Nat) (σ : St) : Option (Int32) :=
  some (gI σ (v0 + 1) 6)
noncomputable def pf_X4_begin (v0 : Nat) (v1 : Nat) (σ : St) : Option St :=
  (pf_X2_clear v1 σ).bind fun σ_1 =>
  (pf_X2_appendCode v1 (-5) σ_1).bind fun σ_2 =>
  bnd (sI σ_2 v0 3 0) fun σ_3 =>
  bnd (sI σ_3 v0 4 0) fun σ_4 =>
  bnd (sI σ_4 v0 5 0) fun σ_5 =>
  some σ_5
noncomputable def pf_X4_readAhead_b72 (k2 : Nat → Nat → Int32 → Int32 → St → (Option St)) (v0 : Nat) (v1 : Nat) (v2 : Int32) (v3 : Int32) (v5 : Int32) (σ : St) : Option St :=
  (pf_X10_at v1 v2 σ).bind fun r_1 =>
  (pf_X10_put v1 v2 (r_1 ||| (ishl 1 v5)) σ).bind fun σ_2 =>
  bnd (v3 + 1) fun v3_3 =>
  k2 v0 v1 v2 v3_3 σ_2
noncomputable def pf_X4_readAhead_b26 (k2 : Nat → Nat → Int32 → Int32 → St → (Option St)) (v0 : Nat) (v1 : Nat) (v2 : Int32) (v3 : Int32) (σ : St) : Option St :=
  (pf_X6_start (v0 + 1) σ).bind fun r_1 =>
  bnd2 (pf_X6_number (v0 + 1) 0 (v2 - 1) σ) fun r_2 σ_2 =>
  (pf_X10_at v1 v2 σ_2).bind fun r_3 =>
  if ((iushr r_3 r_2) &&& 1) = 0 then (
    pf_X4_readAhead_b72 k2 v0 v1 v2 v3 r_2 σ_2
  ) else (
    (pf_X6_fail (v0 + 1) (-4) r_1 σ_2).bind fun σ_4 =>
    pf_X4_readAhead_b72 k2 v0 v1 v2 v3 r_2 σ_4
  )
noncomputable def pf_X4_readAhead_L2 : Nat → Nat → Nat → Int32 → Int32 → St → (Option St)
  | 0, _, _, _, _, _ => none
  | n + 1, v0, v1, v2, v3, σ =>
    if (800 : Int32) ≤ v3 then (
      some σ
    ) else (
      if v3 = 0 then (
        pf_X4_readAhead_b26 (pf_X4_readAhead_L2 n) v0 v1 v2 v3 σ
      ) else (
        (pf_X6_ahead (v0 + 1) σ).bind fun r_1 =>
        if (r_1 : Option Nat) = some 0 then (
          pf_X4_readAhead_b26 (pf_X4_readAhead_L2 n) v0 v1 v2 v3 σ
        ) else (
          some σ
        )
      )
    )
noncomputable def pf_X4_readAhead (v0 : Nat) (v1 : Nat) (v2 : Int32) (σ : St) : Option St :=
  pf_X4_readAhead_L2 FU v0 v1 v2 0 σ
noncomputable def pf_X4_readAmounts_b72 (k2 : Nat → Nat → Int32 → Int32 → St → (Option St)) (v0 : Nat) (v1 : Nat) (v2 : Int32) (v3 : Int32) (v5 : Int32) (σ : St) : Option St :=
  bnd2 (pf_X6_number (v0 + 1) 1 99 σ) fun r_1 σ_1 =>
  (pf_X10_put v1 v5 r_1 σ_1).bind fun σ_2 =>
  bnd (v3 + 1) fun v3_3 =>
  k2 v0 v1 v2 v3_3 σ_2
noncomputable def pf_X4_readAmounts_b26 (k2 : Nat → Nat → Int32 → Int32 → St → (Option St)) (v0 : Nat) (v1 : Nat) (v2 : Int32) (v3 : Int32) (σ : St) : Option St :=
  (pf_X6_start (v0 + 1) σ).bind fun r_1 =>
  bnd2 (pf_X6_number (v0 + 1) 0 7 σ) fun r_2 σ_2 =>
  bnd ((v2 * 8) + r_2) fun v5_3 =>
  (pf_X10_at v1 v5_3 σ_2).bind fun r_4 =>
  if r_4 ≤ 0 then (
    pf_X4_readAmounts_b72 k2 v0 v1 v2 v3 v5_3 σ_2
  ) else (
    (pf_X6_fail (v0 + 1) (-4) r_1 σ_2).bind fun σ_5 =>
    pf_X4_readAmounts_b72 k2 v0 v1 v2 v3 v5_3 σ_5
  )
noncomputable def pf_X4_readAmounts_L2 : Nat → Nat → Nat → Int32 → Int32 → St → (Option St)
  | 0, _, _, _, _, _ => none
  | n + 1, v0, v1, v2, v3, σ =>
    if (800 : Int32) ≤ v3 then (
      some σ
    ) else (
      if v3 = 0 then (
        pf_X4_readAmounts_b26 (pf_X4_readAmounts_L2 n) v0 v1 v2 v3 σ
      ) else (
        (pf_X6_ahead (v0 + 1) σ).bind fun r_1 =>
        if (r_1 : Option Nat) = some 0 then (
          pf_X4_readAmounts_b26 (pf_X4_readAmounts_L2 n) v0 v1 v2 v3 σ
        ) else (
          some σ
        )
      )
    )
noncomputable def pf_X4_readAmounts (v0 : Nat) (v1 : Nat) (v2 : Int32) (σ : St) : Option St :=
  pf_X4_readAmounts_L2 FU v0 v1 v2 0 σ
noncomputable def pf_X4_readPart_b140 (v1 : Nat) (v2 : Int32) (σ : St) : Option St :=
  (pf_X10_put (v1 + 5) v2 1 σ).bind fun σ_1 =>
  some σ_1
noncomputable def pf_X4_readPart (v0 : Nat) (v1 : Nat) (v2 : Int32) (σ : St) : Option St :=
  (pf_X6_start (v0 + 1) σ).bind fun r_1 =>
  bnd2 (pf_X6_take (v0 + 1) (some 11) σ) fun r_2 σ_2 =>
  if r_2 = 0 then (
    bnd2 (pf_X6_take (v0 + 1) (some 12) σ_2) fun r_3 σ_3 =>
    if r_3 = 0 then (
      bnd2 (pf_X6_take (v0 + 1) (some 13) σ_3) fun r_4 σ_4 =>
      if r_4 = 0 then (
        bnd2 (pf_X6_take (v0 + 1) (some 14) σ_4) fun r_5 σ_5 =>
        if r_5 = 0 then (
          (pf_X6_expect (v0 + 1) (some 15) σ_5).bind fun σ_6 =>
          (pf_X10_at (v1 + 5) v2 σ_6).bind fun r_7 =>
          if r_7 = 1 then (
            (pf_X6_fail (v0 + 1) (-2) r_1 σ_6).bind fun σ_8 =>
            pf_X4_readPart_b140 v1 v2 σ_8
          ) else (
            pf_X4_readPart_b140 v1 v2 σ_6
          )
        ) else (
          (pf_X4_readAhead v0 (v1 + 4) v2 σ_5).bind fun σ_9 =>
          some σ_9
        )
      ) else (
        (pf_X4_readAmounts v0 (v1 + 8) v2 σ_4).bind fun σ_10 =>
        some σ_10
      )
    ) else (
      (pf_X4_readAmounts v0 (v1 + 7) v2 σ_3).bind fun σ_11 =>
      some σ_11
    )
  ) else (
    (pf_X4_readAmounts v0 (v1 + 6) v2 σ_2).bind fun σ_12 =>
    some σ_12
  )
noncomputable def pf_X5_beginsPart (v0 : Nat) (σ : St) : Option (Int32) :=
  if (some v0 : Option Nat) = some 11 then (
    some (1)
  ) else (
    if (some v0 : Option Nat) = some 12 then (
      some (1)
    ) else (
      if (some v0 : Option Nat) = some 13 then (
        some (1)
      ) else (
        if (some v0 : Option Nat) = some 14 then (
          some (1)
        ) else (
          if (some v0 : Option Nat) = some 15 then (
            some (1)
          ) else (
            some (0)
          )
        )
      )
    )
  )
noncomputable def pf_X4_readStep_b108 (v0 : Nat) (v1 : Nat) (σ : St) : Option St :=
  (pf_X6_expect (v0 + 1) (some 24) σ).bind fun σ_1 =>
  bnd (sI σ_1 v1 0 ((gI σ_1 v1 0) + 1)) fun σ_2 =>
  some σ_2
noncomputable def pf_X4_readStep_L76 (k108 : Nat → Nat → St → (Option St)) : Nat → Nat → Nat → Int32 → Int32 → St → (Option St)
  | 0, _, _, _, _, _ => none
  | n + 1, v0, v1, v2, v3, σ =>
    if (800 : Int32) ≤ v3 then (
      k108 v0 v1 σ
    ) else (
      (pf_X6_ahead (v0 + 1) σ).bind fun r_1 =>
      ckT (r_1) fun t2 =>
      (pf_X5_beginsPart t2 σ).bind fun r_3 =>
      if r_3 = 0 then (
        k108 v0 v1 σ
      ) else (
        (pf_X4_readPart v0 v1 v2 σ).bind fun σ_4 =>
        bnd (v3 + 1) fun v3_5 =>
        pf_X4_readStep_L76 k108 n v0 v1 v2 v3_5 σ_4
      )
    )
noncomputable def pf_X4_readStep (v0 : Nat) (v1 : Nat) (σ : St) : Option St :=
  bnd (gI σ v1 0) fun v2_1 =>
  if v2_1 < 6 then (
    (pf_X6_expect (v0 + 1) (some 9) σ).bind fun σ_2 =>
    bnd2 (pf_X6_number (v0 + 1) 0 100 σ_2) fun r_3 σ_3 =>
    (pf_X10_put (v1 + 1) v2_1 r_3 σ_3).bind fun σ_4 =>
    bnd2 (pf_X6_number (v0 + 1) 1 9 σ_4) fun r_5 σ_5 =>
    (pf_X10_put (v1 + 2) v2_1 r_5 σ_5).bind fun σ_6 =>
    pf_X4_readStep_L76 (pf_X4_readStep_b108) FU v0 v1 v2_1 0 σ_6
  ) else (
    (pf_X6_start (v0 + 1) σ).bind fun r_7 =>
    (pf_X6_fail (v0 + 1) (-5) r_7 σ).bind fun σ_8 =>
    some σ_8
  )
noncomputable def pf_X6_skip (v0 : Nat) (σ : St) : Option St :=
  bnd (sI σ v0 4 ((gI σ v0 4) + 1)) fun σ_1 =>
  some σ_1
noncomputable def pf_X4_readQuest_b15 (v0 : Nat) (σ : St) : Option St :=
  (pf_X6_start (v0 + 1) σ).bind fun r_1 =>
  (pf_X6_fail (v0 + 1) (-5) r_1 σ).bind fun σ_2 =>
  some σ_2
noncomputable def pf_X4_readQuest_b117 (k91 : Nat → Nat → Nat → Int32 → St → (Option St)) (v0 : Nat) (v1 : Nat) (v3 : Nat) (v4 : Int32) (σ : St) : Option St :=
  (pf_X4_readStep v0 v3 σ).bind fun σ_1 =>
  bnd (v4 + 1) fun v4_2 =>
  k91 v0 v1 v3 v4_2 σ_1
noncomputable def pf_X4_readQuest_b128 (v0 : Nat) (v1 : Nat) (v3 : Nat) (σ : St) : Option St :=
  (pf_X6_expect (v0 + 1) (some 10) σ).bind fun σ_1 =>
  bnd2 (pf_X0_readGoal 8 (v0 + 5) (v0 + 1) (gI σ_1 v3 0) 0 σ_1) fun r_2 σ_2 =>
  bnd (sL σ_2 v3 5 r_2) fun σ_3 =>
  (pf_X6_expect (v0 + 1) (some 24) σ_3).bind fun σ_4 =>
  bnd (sI σ_4 v1 5 ((gI σ_4 v1 5) + 1)) fun σ_5 =>
  some σ_5
noncomputable def pf_X4_readQuest_L91 (k128 : Nat → Nat → Nat → St → (Option St)) : Nat → Nat → Nat → Nat → Int32 → St → (Option St)
  | 0, _, _, _, _, _ => none
  | n + 1, v0, v1, v3, v4, σ =>
    if (800 : Int32) ≤ v4 then (
      k128 v0 v1 v3 σ
    ) else (
      if v4 = 0 then (
        pf_X4_readQuest_b117 (pf_X4_readQuest_L91 k128 n) v0 v1 v3 v4 σ
      ) else (
        (pf_X6_ahead (v0 + 1) σ).bind fun r_1 =>
        if (r_1 : Option Nat) = some 9 then (
          pf_X4_readQuest_b117 (pf_X4_readQuest_L91 k128 n) v0 v1 v3 v4 σ
        ) else (
          k128 v0 v1 v3 σ
        )
      )
    )
noncomputable def pf_X4_readQuest (v0 : Nat) (v1 : Nat) (σ : St) : Option St :=
  bnd (gI σ v1 5) fun v2_1 =>
  if v2_1 < 0 then (
    pf_X4_readQuest_b15 v0 σ
  ) else (
    if v2_1 < 6 then (
      ckI (v2_1) (alen (v1 + 3)) <|
      (pf_X3_clear (v1 + 3 + 2 + 9 * (v2_1).toNatClampNeg) σ).bind fun σ_3 =>
      (pf_X6_skip (v0 + 1) σ_3).bind fun σ_4 =>
      bnd2 (pf_X6_number (v0 + 1) 0 7 σ_4) fun r_5 σ_5 =>
      bnd (sI σ_5 (v1 + 3 + 2 + 9 * (v2_1).toNatClampNeg) 3 r_5) fun σ_6 =>
      bnd2 (pf_X6_number (v0 + 1) 0 99 σ_6) fun r_7 σ_7 =>
      bnd (sI σ_7 (v1 + 3 + 2 + 9 * (v2_1).toNatClampNeg) 4 r_7) fun σ_8 =>
      (pf_X6_expect (v0 + 1) (some 24) σ_8).bind fun σ_9 =>
      pf_X4_readQuest_L91 (pf_X4_readQuest_b128) FU v0 v1 (v1 + 3 + 2 + 9 * (v2_1).toNatClampNeg) 0 σ_9
    ) else (
      pf_X4_readQuest_b15 v0 σ
    )
  )
noncomputable def pf_X4_readSeed (v0 : Nat) (v1 : Nat) (σ : St) : Option St :=
  (pf_X6_skip (v0 + 1) σ).bind fun σ_1 =>
  bnd2 (pf_X6_number (v0 + 1) 0 9999 σ_1) fun r_2 σ_2 =>
  bnd (sI σ_2 v1 3 r_2) fun σ_3 =>
  (pf_X6_expect (v0 + 1) (some 24) σ_3).bind fun σ_4 =>
  bnd (sI σ_4 v0 4 1) fun σ_5 =>
  some σ_5
noncomputable def pf_X4_readStock_b75 (k9 : Nat → Nat → Int32 → St → (Option St)) (v0 : Nat) (v1 : Nat) (v2 : Int32) (v4 : Int32) (σ : St) : Option St :=
  bnd (sI σ v0 3 ((gI σ v0 3) ||| (ishl 1 v4))) fun σ_1 =>
  bnd2 (pf_X6_number (v0 + 1) 0 999 σ_1) fun r_2 σ_2 =>
  (pf_X10_put (v1 + 1) v4 r_2 σ_2).bind fun σ_3 =>
  bnd (v2 + 1) fun v2_4 =>
  k9 v0 v1 v2_4 σ_3
noncomputable def pf_X4_readStock_b33 (k9 : Nat → Nat → Int32 → St → (Option St)) (v0 : Nat) (v1 : Nat) (v2 : Int32) (σ : St) : Option St :=
  (pf_X6_start (v0 + 1) σ).bind fun r_1 =>
  bnd2 (pf_X6_number (v0 + 1) 0 7 σ) fun r_2 σ_2 =>
  if ((iushr (gI σ_2 v0 3) r_2) &&& 1) = 0 then (
    pf_X4_readStock_b75 k9 v0 v1 v2 r_2 σ_2
  ) else (
    (pf_X6_fail (v0 + 1) (-4) r_1 σ_2).bind fun σ_3 =>
    pf_X4_readStock_b75 k9 v0 v1 v2 r_2 σ_3
  )
noncomputable def pf_X4_readStock_b114 (v0 : Nat) (σ : St) : Option St :=
  (pf_X6_expect (v0 + 1) (some 24) σ).bind fun σ_1 =>
  some σ_1
noncomputable def pf_X4_readStock_L9 (k114 : Nat → St → (Option St)) : Nat → Nat → Nat → Int32 → St → (Option St)
  | 0, _, _, _, _ => none
  | n + 1, v0, v1, v2, σ =>
    if (800 : Int32) ≤ v2 then (
      k114 v0 σ
    ) else (
      if v2 = 0 then (
        pf_X4_readStock_b33 (pf_X4_readStock_L9 k114 n) v0 v1 v2 σ
      ) else (
        (pf_X6_ahead (v0 + 1) σ).bind fun r_1 =>
        if (r_1 : Option Nat) = some 0 then (
          pf_X4_readStock_b33 (pf_X4_readStock_L9 k114 n) v0 v1 v2 σ
        ) else (
          k114 v0 σ
        )
      )
    )
noncomputable def pf_X4_readStock (v0 : Nat) (v1 : Nat) (σ : St) : Option St :=
  (pf_X6_skip (v0 + 1) σ).bind fun σ_1 =>
  pf_X4_readStock_L9 (pf_X4_readStock_b114) FU v0 v1 0 σ_1
noncomputable def pf_X5_isVariable (v0 : Nat) (σ : St) : Option (Int32) :=
  if (0 : Int32) ≤ (tkC.getD v0 0) then (
    some (0)
  ) else (
    if (tkC.getD v0 0) < (-6) then (
      some (0)
    ) else (
      some (1)
    )
  )
noncomputable def pf_X9_readFactor (rc : Nat → Nat → Nat → Int32 → St → Option St) (v0 : Nat) (v1 : Nat) (v2 : Nat) (v3 : Int32) (σ : St) : Option St :=
  (pf_X6_ahead v1 σ).bind fun r_1 =>
  if (r_1 : Option Nat) = some 0 then (
    bnd2 (pf_X6_number v1 0 9999 σ) fun r_2 σ_2 =>
    (pf_X2_appendCode v2 r_2 σ_2).bind fun σ_3 =>
    some σ_3
  ) else (
    ckT (r_1) fun t4 =>
    (pf_X5_isVariable t4 σ).bind fun r_5 =>
    if r_5 = 0 then (
      bnd2 (pf_X6_open v1 v3 σ) fun r_6 σ_6 =>
      if r_6 = 0 then (
        some σ_6
      ) else (
        (rc v0 v1 v2 (v3 + 1) σ_6).bind fun σ_7 =>
        (pf_X6_expect v1 (some 27) σ_7).bind fun σ_8 =>
        some σ_8
      )
    ) else (
      ckT (r_1) fun t9 =>
      (pf_X2_appendCode v2 (tkC.getD t9 0) σ).bind fun σ_10 =>
      (pf_X6_skip v1 σ_10).bind fun σ_11 =>
      some σ_11
    )
  )
noncomputable def pf_X9_readTerm_b41 (rc : Nat → Nat → Nat → Int32 → St → Option St) (k10 : Nat → Nat → Nat → Int32 → Int32 → St → (Option St)) (v0 : Nat) (v1 : Nat) (v2 : Nat) (v3 : Int32) (v4 : Int32) (v5 : Option Nat) (σ : St) : Option St :=
  (pf_X6_skip v1 σ).bind fun σ_1 =>
  (pf_X9_readFactor rc v0 v1 v2 v3 σ_1).bind fun σ_2 =>
  ckT (v5) fun t3 =>
  (pf_X2_appendCode v2 (tkC.getD t3 0) σ_2).bind fun σ_4 =>
  bnd (v4 + 1) fun v4_5 =>
  k10 v0 v1 v2 v3 v4_5 σ_4
noncomputable def pf_X9_readTerm_L10 (rc : Nat → Nat → Nat → Int32 → St → Option St) : Nat → Nat → Nat → Nat → Int32 → Int32 → St → (Option St)
  | 0, _, _, _, _, _, _ => none
  | n + 1, v0, v1, v2, v3, v4, σ =>
    if (800 : Int32) ≤ v4 then (
      some σ
    ) else (
      (pf_X6_ahead v1 σ).bind fun r_1 =>
      if (r_1 : Option Nat) = some 30 then (
        pf_X9_readTerm_b41 rc (pf_X9_readTerm_L10 rc n) v0 v1 v2 v3 v4 r_1 σ
      ) else (
        if (r_1 : Option Nat) = some 31 then (
          pf_X9_readTerm_b41 rc (pf_X9_readTerm_L10 rc n) v0 v1 v2 v3 v4 r_1 σ
        ) else (
          some σ
        )
      )
    )
noncomputable def pf_X9_readTerm (rc : Nat → Nat → Nat → Int32 → St → Option St) (v0 : Nat) (v1 : Nat) (v2 : Nat) (v3 : Int32) (σ : St) : Option St :=
  (pf_X9_readFactor rc v0 v1 v2 v3 σ).bind fun σ_1 =>
  pf_X9_readTerm_L10 rc FU v0 v1 v2 v3 0 σ_1
noncomputable def pf_X9_readSum_b41 (rc : Nat → Nat → Nat → Int32 → St → Option St) (k10 : Nat → Nat → Nat → Int32 → Int32 → St → (Option St)) (v0 : Nat) (v1 : Nat) (v2 : Nat) (v3 : Int32) (v4 : Int32) (v5 : Option Nat) (σ : St) : Option St :=
  (pf_X6_skip v1 σ).bind fun σ_1 =>
  (pf_X9_readTerm rc v0 v1 v2 v3 σ_1).bind fun σ_2 =>
  ckT (v5) fun t3 =>
  (pf_X2_appendCode v2 (tkC.getD t3 0) σ_2).bind fun σ_4 =>
  bnd (v4 + 1) fun v4_5 =>
  k10 v0 v1 v2 v3 v4_5 σ_4
noncomputable def pf_X9_readSum_L10 (rc : Nat → Nat → Nat → Int32 → St → Option St) : Nat → Nat → Nat → Nat → Int32 → Int32 → St → (Option St)
  | 0, _, _, _, _, _, _ => none
  | n + 1, v0, v1, v2, v3, v4, σ =>
    if (800 : Int32) ≤ v4 then (
      some σ
    ) else (
      (pf_X6_ahead v1 σ).bind fun r_1 =>
      if (r_1 : Option Nat) = some 28 then (
        pf_X9_readSum_b41 rc (pf_X9_readSum_L10 rc n) v0 v1 v2 v3 v4 r_1 σ
      ) else (
        if (r_1 : Option Nat) = some 29 then (
          pf_X9_readSum_b41 rc (pf_X9_readSum_L10 rc n) v0 v1 v2 v3 v4 r_1 σ
        ) else (
          some σ
        )
      )
    )
noncomputable def pf_X9_readSum_B (rc : Nat → Nat → Nat → Int32 → St → Option St) (v0 : Nat) (v1 : Nat) (v2 : Nat) (v3 : Int32) (σ : St) : Option St :=
  (pf_X9_readTerm rc v0 v1 v2 v3 σ).bind fun σ_1 =>
  pf_X9_readSum_L10 rc FU v0 v1 v2 v3 0 σ_1
noncomputable def pf_X9_readSum : Nat → Nat → Nat → Nat → Int32 → St → Option St
  | 0, _, _, _, _, _ => none
  | d + 1, v0, v1, v2, v3, σ => pf_X9_readSum_B (pf_X9_readSum d) v0 v1 v2 v3 σ
noncomputable def pf_X4_readWorth (v0 : Nat) (v1 : Nat) (σ : St) : Option St :=
  (pf_X6_skip (v0 + 1) σ).bind fun σ_1 =>
  bnd (sI σ_1 v1 7 0) fun σ_2 =>
  (pf_X9_readSum 8 (v0 + 7) (v0 + 1) v1 0 σ_2).bind fun σ_3 =>
  (pf_X6_expect (v0 + 1) (some 24) σ_3).bind fun σ_4 =>
  bnd (sI σ_4 v0 5 1) fun σ_5 =>
  some σ_5
noncomputable def pf_X6_goOn (v0 : Nat) (σ : St) : Option (Int32) :=
  (pf_X6_ahead v0 σ).bind fun r_1 =>
  if (r_1 : Option Nat) = some 3 then (
    some (0)
  ) else (
    (pf_X6_ahead v0 σ).bind fun r_2 =>
    if (r_2 : Option Nat) = some 1 then (
      some (0)
    ) else (
      some (1)
    )
  )
noncomputable def pf_X6_kindOf_b22 (σ : St) (v0 : Int32) : Option (Int32) :=
  if v0 < 97 then (
    some (3)
  ) else (
    if (122 : Int32) < v0 then (
      some (3)
    ) else (
      some (2)
    )
  )
noncomputable def pf_X6_kindOf (v0 : Int32) (σ : St) : Option (Int32) :=
  if v0 = 32 then (
    some (0)
  ) else (
    if v0 < 48 then (
      pf_X6_kindOf_b22 σ v0
    ) else (
      if (57 : Int32) < v0 then (
        pf_X6_kindOf_b22 σ v0
      ) else (
        some (1)
      )
    )
  )
noncomputable def pf_X6_goesOn (v0 : Int32) (v1 : Int32) (σ : St) : Option (Int32) :=
  if v0 = 3 then (
    some (0)
  ) else (
    (pf_X6_kindOf v1 σ).bind fun r_1 =>
    if v0 = r_1 then (
      some (1)
    ) else (
      some (0)
    )
  )
noncomputable def pf_X6_endOfRun_L14 (σ : St) : Nat → Nat → Int32 → Int32 → Int32 → (Option (Int32))
  | 0, _, _, _, _ => none
  | n + 1, v0, v2, v3, v4 =>
    if v2 ≤ v4 then (
      some (v2)
    ) else (
      (pf_X10_at v0 v4 σ).bind fun r_1 =>
      (pf_X6_goesOn v3 r_1 σ).bind fun r_2 =>
      if r_2 = 0 then (
        some (v4)
      ) else (
        bnd (v4 + 1) fun v4_3 =>
        pf_X6_endOfRun_L14 σ n v0 v2 v3 v4_3
      )
    )
noncomputable def pf_X6_endOfRun (v0 : Nat) (v1 : Int32) (v2 : Int32) (σ : St) : Option (Int32) :=
  (pf_X10_at v0 v1 σ).bind fun r_1 =>
  (pf_X6_kindOf r_1 σ).bind fun r_2 =>
  bnd (v1 + 1) fun v4_3 =>
  pf_X6_endOfRun_L14 σ FU v0 v2 r_2 v4_3
noncomputable def pf_X6_numberAt_L5 (σ : St) : Nat → Nat → Int32 → Int32 → Int32 → (Option (Int32))
  | 0, _, _, _, _ => none
  | n + 1, v0, v2, v3, v4 =>
    if v2 ≤ v4 then (
      some (v3)
    ) else (
      (pf_X10_at v0 v4 σ).bind fun r_1 =>
      (pf_J9_min_7cf53 1000000 (((v3 * 10) + r_1) - 48) σ).bind fun r_2 =>
      bnd (v4 + 1) fun v4_3 =>
      pf_X6_numberAt_L5 σ n v0 v2 r_2 v4_3
    )
noncomputable def pf_X6_numberAt (v0 : Nat) (v1 : Int32) (v2 : Int32) (σ : St) : Option (Int32) :=
  pf_X6_numberAt_L5 σ FU v0 v2 0 v1
noncomputable def pf_X5_stands_L18 (σ : St) : Nat → Nat → Nat → Int32 → Int32 → (Option (Int32))
  | 0, _, _, _, _ => none
  | n + 1, v0, v1, v2, v4 =>
    if (nI (stL.getD (tkS.getD v0 0) 0)) ≤ v4 then (
      some (1)
    ) else (
      ckI (v4) (stL.getD (tkS.getD v0 0) 0) <|
      (pf_X10_at v1 (v2 + v4) σ).bind fun r_1 =>
      if ((stB.getD (tkS.getD v0 0) []).getD (v4).toNatClampNeg 0) = r_1 then (
        bnd (v4 + 1) fun v4_2 =>
        pf_X5_stands_L18 σ n v0 v1 v2 v4_2
      ) else (
        some (0)
      )
    )
noncomputable def pf_X5_stands (v0 : Nat) (v1 : Nat) (v2 : Int32) (v3 : Int32) (σ : St) : Option (Int32) :=
  if (nI (stL.getD (tkS.getD v0 0) 0)) = (v3 - v2) then (
    pf_X5_stands_L18 σ FU v0 v1 v2 0
  ) else (
    some (0)
  )
noncomputable def pf_X6_tokenAt_b24 (σ : St) (v3 : Int32) : Option (Option Nat) :=
  ckI (v3) 32 <|
  some (some (v3).toNatClampNeg)
noncomputable def pf_X6_tokenAt_L2 (σ : St) (k24 : Int32 → (Option (Option Nat))) : Nat → Nat → Int32 → Int32 → Int32 → (Option (Option Nat))
  | 0, _, _, _, _ => none
  | n + 1, v0, v1, v2, v3 =>
    if (32 : Int32) ≤ v3 then (
      some (some 2)
    ) else (
      ckI (v3) 32 <|
      ckT (some (v3).toNatClampNeg) fun t1 =>
      (pf_X5_stands t1 v0 v1 v2 σ).bind fun r_2 =>
      if r_2 = 0 then (
        bnd (v3 + 1) fun v3_3 =>
        pf_X6_tokenAt_L2 σ k24 n v0 v1 v2 v3_3
      ) else (
        k24 v3
      )
    )
noncomputable def pf_X6_tokenAt (v0 : Nat) (v1 : Int32) (v2 : Int32) (σ : St) : Option (Option Nat) :=
  pf_X6_tokenAt_L2 σ (pf_X6_tokenAt_b24 σ) FU v0 v1 v2 0
noncomputable def pf_X6_note_b99 (v0 : Nat) (s0 : Nat) (s1 : Int32) (s2 : Int32) (σ : St) : Option St :=
  ckI (s1) (alen s0) <|
  bnd (sI σ s0 (s1).toNatClampNeg s2) fun σ_2 =>
  bnd (sI σ_2 v0 3 ((gI σ_2 v0 3) + 1)) fun σ_3 =>
  some σ_3
noncomputable def pf_X6_note_b65 (v0 : Nat) (v1 : Nat) (v2 : Int32) (v3 : Int32) (v4 : Int32) (σ : St) : Option St :=
  ckI (gI σ v0 3) (alen (v0 + 2)) <|
  bnd (sI σ (v0 + 2) (gI σ v0 3).toNatClampNeg v2) fun σ_2 =>
  if v4 = 1 then (
    (pf_X6_numberAt v1 v2 v3 σ_2).bind fun r_3 =>
    pf_X6_note_b99 v0 (v0 + 3) (gI σ_2 v0 3) r_3 σ_2
  ) else (
    pf_X6_note_b99 v0 (v0 + 3) (gI σ_2 v0 3) 0 σ_2
  )
noncomputable def pf_X6_note_b64 (v0 : Nat) (v1 : Nat) (v2 : Int32) (v3 : Int32) (v4 : Int32) (s0 : Nat) (s1 : Int32) (s2 : Option Nat) (σ : St) : Option St :=
  ckI (s1) (alen s0) <|
  ckT (s2) fun t3 =>
  bnd (sK σ s0 (s1).toNatClampNeg (some t3)) fun σ_2 =>
  pf_X6_note_b65 v0 v1 v2 v3 v4 σ_2
noncomputable def pf_X6_note (v0 : Nat) (v1 : Nat) (v2 : Int32) (v3 : Int32) (v4 : Int32) (σ : St) : Option St :=
  if (gI σ v0 3) < 0 then (
    some σ
  ) else (
    if (gI σ v0 3) ≤ 800 then (
      if v2 = v3 then (
        ckI (gI σ v0 3) (alen (v0 + 1)) <|
        ckT (some 1) fun t3 =>
        bnd (sK σ (v0 + 1) (gI σ v0 3).toNatClampNeg (some t3)) fun σ_2 =>
        pf_X6_note_b65 v0 v1 v2 v3 v4 σ_2
      ) else (
        if v4 = 1 then (
          pf_X6_note_b64 v0 v1 v2 v3 v4 (v0 + 1) (gI σ v0 3) (some 0) σ
        ) else (
          (pf_X6_tokenAt v1 v2 v3 σ).bind fun r_4 =>
          pf_X6_note_b64 v0 v1 v2 v3 v4 (v0 + 1) (gI σ v0 3) r_4 σ
        )
      )
    ) else (
      some σ
    )
  )
noncomputable def pf_X6_scan_b75 (k22 : Nat → Nat → Int32 → Int32 → St → (Option St)) (v0 : Nat) (v1 : Nat) (v2 : Int32) (v3 : Int32) (σ : St) : Option St :=
  bnd (v3 + 1) fun v3_1 =>
  k22 v0 v1 v2 v3_1 σ
noncomputable def pf_X6_scan_b61 (k22 : Nat → Nat → Int32 → Int32 → St → (Option St)) (v0 : Nat) (v1 : Nat) (v2 : Int32) (v3 : Int32) (v4 : Int32) (σ : St) : Option St :=
  (pf_X6_endOfRun v1 v3 v2 σ).bind fun r_1 =>
  (pf_X6_note v0 v1 v3 r_1 v4 σ).bind fun σ_2 =>
  pf_X6_scan_b75 k22 v0 v1 v2 v3 σ_2
noncomputable def pf_X6_scan_b81 (v0 : Nat) (v1 : Nat) (v2 : Int32) (σ : St) : Option St :=
  (pf_X6_note v0 v1 v2 v2 3 σ).bind fun σ_1 =>
  some σ_1
noncomputable def pf_X6_scan_L22 (k81 : Nat → Nat → Int32 → St → (Option St)) : Nat → Nat → Nat → Int32 → Int32 → St → (Option St)
  | 0, _, _, _, _, _ => none
  | n + 1, v0, v1, v2, v3, σ =>
    if v2 ≤ v3 then (
      k81 v0 v1 v2 σ
    ) else (
      (pf_X10_at v1 v3 σ).bind fun r_1 =>
      (pf_X6_kindOf r_1 σ).bind fun r_2 =>
      if r_2 = 0 then (
        pf_X6_scan_b75 (pf_X6_scan_L22 k81 n) v0 v1 v2 v3 σ
      ) else (
        if v3 ≤ 0 then (
          pf_X6_scan_b61 (pf_X6_scan_L22 k81 n) v0 v1 v2 v3 r_2 σ
        ) else (
          (pf_X10_at v1 (v3 - 1) σ).bind fun r_3 =>
          (pf_X6_goesOn r_2 r_3 σ).bind fun r_4 =>
          if r_4 = 0 then (
            pf_X6_scan_b61 (pf_X6_scan_L22 k81 n) v0 v1 v2 v3 r_2 σ
          ) else (
            pf_X6_scan_b75 (pf_X6_scan_L22 k81 n) v0 v1 v2 v3 σ
          )
        )
      )
    )
noncomputable def pf_X6_scan (v0 : Nat) (v1 : Nat) (v2 : Int32) (σ : St) : Option St :=
  bnd (sI σ v0 3 0) fun σ_1 =>
  bnd (sI σ_1 v0 4 0) fun σ_2 =>
  bnd (sI σ_2 v0 5 0) fun σ_3 =>
  bnd (sI σ_3 v0 6 (-1)) fun σ_4 =>
  pf_X6_scan_L22 (pf_X6_scan_b81) FU v0 v1 v2 0 σ_4
noncomputable def pf_X4_read_b158 (k37 : Nat → Nat → Int32 → St → (Option (Int32 × St))) (v0 : Nat) (v3 : Nat) (v4 : Int32) (σ : St) : Option (Int32 × St) :=
  bnd (v4 + 1) fun v4_1 =>
  k37 v0 v3 v4_1 σ
noncomputable def pf_X4_read_b126 (k37 : Nat → Nat → Int32 → St → (Option (Int32 × St))) (v0 : Nat) (v3 : Nat) (v4 : Int32) (v5 : Option Nat) (σ : St) : Option (Int32 × St) :=
  if (v5 : Option Nat) = some 8 then (
    (pf_X4_readQuest v0 v3 σ).bind fun σ_1 =>
    pf_X4_read_b158 k37 v0 v3 v4 σ_1
  ) else (
    (pf_X6_start (v0 + 1) σ).bind fun r_2 =>
    (pf_X6_fail (v0 + 1) (-2) r_2 σ).bind fun σ_3 =>
    pf_X4_read_b158 k37 v0 v3 v4 σ_3
  )
noncomputable def pf_X4_read_b103 (k37 : Nat → Nat → Int32 → St → (Option (Int32 × St))) (v0 : Nat) (v3 : Nat) (v4 : Int32) (v5 : Option Nat) (σ : St) : Option (Int32 × St) :=
  if (v5 : Option Nat) = some 7 then (
    if (gI σ v0 5) = 0 then (
      (pf_X4_readWorth v0 v3 σ).bind fun σ_1 =>
      pf_X4_read_b158 k37 v0 v3 v4 σ_1
    ) else (
      pf_X4_read_b126 k37 v0 v3 v4 v5 σ
    )
  ) else (
    pf_X4_read_b126 k37 v0 v3 v4 v5 σ
  )
noncomputable def pf_X4_read_b164 (v0 : Nat) (σ : St) : Option (Int32 × St) :=
  some (gI σ (v0 + 1) 5, σ)
noncomputable def pf_X4_read_L37 (k164 : Nat → St → (Option (Int32 × St))) : Nat → Nat → Nat → Int32 → St → (Option (Int32 × St))
  | 0, _, _, _, _ => none
  | n + 1, v0, v3, v4, σ =>
    if (800 : Int32) ≤ v4 then (
      k164 v0 σ
    ) else (
      (pf_X6_goOn (v0 + 1) σ).bind fun r_1 =>
      if r_1 = 0 then (
        k164 v0 σ
      ) else (
        (pf_X6_ahead (v0 + 1) σ).bind fun r_2 =>
        if (r_2 : Option Nat) = some 5 then (
          (pf_X4_readStock v0 v3 σ).bind fun σ_3 =>
          pf_X4_read_b158 (pf_X4_read_L37 k164 n) v0 v3 v4 σ_3
        ) else (
          if (r_2 : Option Nat) = some 6 then (
            if (gI σ v0 4) = 0 then (
              (pf_X4_readSeed v0 v3 σ).bind fun σ_4 =>
              pf_X4_read_b158 (pf_X4_read_L37 k164 n) v0 v3 v4 σ_4
            ) else (
              pf_X4_read_b103 (pf_X4_read_L37 k164 n) v0 v3 v4 r_2 σ
            )
          ) else (
            pf_X4_read_b103 (pf_X4_read_L37 k164 n) v0 v3 v4 r_2 σ
          )
        )
      )
    )
noncomputable def pf_X4_read (v0 : Nat) (v1 : Nat) (v2 : Int32) (v3 : Nat) (σ : St) : Option (Int32 × St) :=
  (pf_X6_scan (v0 + 1) v1 v2 σ).bind fun σ_1 =>
  (pf_X4_begin v0 v3 σ_1).bind fun σ_2 =>
  (pf_X6_expect (v0 + 1) (some 4) σ_2).bind fun σ_3 =>
  (pf_X6_expect (v0 + 1) (some 24) σ_3).bind fun σ_4 =>
  pf_X4_read_L37 (pf_X4_read_b164) FU v0 v3 0 σ_4
noncomputable def pf_X7_isReached (v0 : Nat) (v1 : Int32) (σ : St) : Option (Int32) :=
  if ((lushr (gL σ v0 3) v1) &&& 1) = 0 then (
    some (0)
  ) else (
    some (1)
  )
noncomputable def pf_X7_reach_b85 (v0 : Nat) (v2 : Int32) (v3 : Int32) (v4 : Int32) (σ : St) : Option St :=
  (pf_X10_at (v0 + 2) v2 σ).bind fun r_1 =>
  (pf_X10_put (v0 + 2) v2 (r_1 ||| (ishl 1 v3)) σ).bind fun σ_2 =>
  bnd (sL σ_2 v0 3 ((gL σ_2 v0 3) ||| (lshl 1 v4))) fun σ_3 =>
  some σ_3
noncomputable def pf_X7_reach_L10 (k85 : Nat → Int32 → Int32 → Int32 → St → (Option St)) : Nat → Nat → Nat → Int32 → Int32 → Int32 → Int32 → St → (Option St)
  | 0, _, _, _, _, _, _, _ => none
  | n + 1, v0, v1, v2, v3, v4, v5, σ =>
    if (8 : Int32) ≤ v5 then (
      k85 v0 v2 v3 v4 σ
    ) else (
      bnd ((v3 * 8) + v5) fun v6_1 =>
      (pf_X10_at (v0 + 1) ((v2 * 8) + v5) σ).bind fun r_2 =>
      (pf_X10_at (v1 + 6) v6_1 σ).bind fun r_3 =>
      (pf_X10_at (v1 + 8) v6_1 σ).bind fun r_4 =>
      bnd ((r_2 - r_3) + r_4) fun v7_5 =>
      (pf_X10_put (v0 + 1) ((v4 * 8) + v5) v7_5 σ).bind fun σ_6 =>
      bnd (v5 + 1) fun v5_7 =>
      pf_X7_reach_L10 k85 n v0 v1 v2 v3 v4 v5_7 σ_6
    )
noncomputable def pf_X7_reach (v0 : Nat) (v1 : Nat) (v2 : Int32) (v3 : Int32) (σ : St) : Option St :=
  bnd (v2 ||| (ishl 1 v3)) fun v4_1 =>
  pf_X7_reach_L10 (pf_X7_reach_b85) FU v0 v1 v2 v3 v4_1 0 σ
noncomputable def pf_X7_goForward_b58 (k26 : Nat → Nat → Int32 → Int32 → St → (Option St)) (v0 : Nat) (v1 : Nat) (v2 : Int32) (v3 : Int32) (σ : St) : Option St :=
  bnd (v3 + 1) fun v3_1 =>
  k26 v0 v1 v2 v3_1 σ
noncomputable def pf_X7_goForward_b64 (k2 : Nat → Nat → Int32 → St → (Option St)) (v0 : Nat) (v1 : Nat) (v2 : Int32) (σ : St) : Option St :=
  bnd (v2 + 1) fun v2_1 =>
  k2 v0 v1 v2_1 σ
noncomputable def pf_X7_goForward_L26 (k64 : Nat → Nat → Int32 → St → (Option St)) : Nat → Nat → Nat → Int32 → Int32 → St → (Option St)
  | 0, _, _, _, _, _ => none
  | n + 1, v0, v1, v2, v3, σ =>
    if (gI σ v1 0) ≤ v3 then (
      k64 v0 v1 v2 σ
    ) else (
      (pf_X3_hindranceBehind v1 v2 v3 (v0 + 1) (v2 * 8) σ).bind fun r_1 =>
      if r_1 = 0 then (
        (pf_X7_reach v0 v1 v2 v3 σ).bind fun σ_2 =>
        pf_X7_goForward_b58 (pf_X7_goForward_L26 k64 n) v0 v1 v2 v3 σ_2
      ) else (
        pf_X7_goForward_b58 (pf_X7_goForward_L26 k64 n) v0 v1 v2 v3 σ
      )
    )
noncomputable def pf_X7_goForward_L2 : Nat → Nat → Nat → Int32 → St → (Option St)
  | 0, _, _, _, _ => none
  | n + 1, v0, v1, v2, σ =>
    if (64 : Int32) ≤ v2 then (
      some σ
    ) else (
      (pf_X7_isReached v0 v2 σ).bind fun r_1 =>
      if r_1 = 0 then (
        pf_X7_goForward_b64 (pf_X7_goForward_L2 n) v0 v1 v2 σ
      ) else (
        (pf_X3_goalHolds v1 v2 σ).bind fun r_2 =>
        if r_2 = 0 then (
          pf_X7_goForward_L26 (pf_X7_goForward_b64 (pf_X7_goForward_L2 n)) FU v0 v1 v2 0 σ
        ) else (
          pf_X7_goForward_b64 (pf_X7_goForward_L2 n) v0 v1 v2 σ
        )
      )
    )
noncomputable def pf_X7_goForward (v0 : Nat) (v1 : Nat) (σ : St) : Option St :=
  pf_X7_goForward_L2 FU v0 v1 0 σ
noncomputable def pf_X7_leastToGo_b45 (σ : St) (k5 : Nat → Int32 → Int32 → Int32 → (Option (Int32))) (v0 : Nat) (v1 : Int32) (v2 : Int32) (v3 : Int32) : Option (Int32) :=
  bnd (v3 + 1) fun v3_1 =>
  k5 v0 v1 v2 v3_1
noncomputable def pf_X7_leastToGo_L5 (σ : St) : Nat → Nat → Int32 → Int32 → Int32 → (Option (Int32))
  | 0, _, _, _, _ => none
  | n + 1, v0, v1, v2, v3 =>
    if (6 : Int32) ≤ v3 then (
      some (v2)
    ) else (
      (pf_X10_at (v0 + 2) v1 σ).bind fun r_1 =>
      if ((iushr r_1 v3) &&& 1) = 0 then (
        pf_X7_leastToGo_b45 σ (pf_X7_leastToGo_L5 σ n) v0 v1 v2 v3
      ) else (
        (pf_X10_at (v0 + 3) (v1 ||| (ishl 1 v3)) σ).bind fun r_2 =>
        (pf_J9_min_7cf53 v2 (r_2 + 1) σ).bind fun r_3 =>
        pf_X7_leastToGo_b45 σ (pf_X7_leastToGo_L5 σ n) v0 v1 r_3 v3
      )
    )
noncomputable def pf_X7_leastToGo (v0 : Nat) (v1 : Int32) (σ : St) : Option (Int32) :=
  pf_X7_leastToGo_L5 σ FU v0 v1 99 0
noncomputable def pf_X7_measureBackward_b38 (k3 : Nat → Nat → Int32 → St → (Option St)) (v0 : Nat) (v1 : Nat) (v2 : Int32) (σ : St) : Option St :=
  bnd (v2 + (-1)) fun v2_1 =>
  k3 v0 v1 v2_1 σ
noncomputable def pf_X7_measureBackward_b37 (k3 : Nat → Nat → Int32 → St → (Option St)) (v0 : Nat) (v1 : Nat) (v2 : Int32) (s0 : Nat) (s1 : Int32) (s2 : Int32) (σ : St) : Option St :=
  ckI (s1) (alen s0) <|
  bnd (sI σ s0 (s1).toNatClampNeg s2) fun σ_2 =>
  pf_X7_measureBackward_b38 k3 v0 v1 v2 σ_2
noncomputable def pf_X7_measureBackward_L3 : Nat → Nat → Nat → Int32 → St → (Option St)
  | 0, _, _, _, _ => none
  | n + 1, v0, v1, v2, σ =>
    if v2 < 0 then (
      some σ
    ) else (
      (pf_X7_isReached v0 v2 σ).bind fun r_1 =>
      if r_1 = 0 then (
        pf_X7_measureBackward_b38 (pf_X7_measureBackward_L3 n) v0 v1 v2 σ
      ) else (
        (pf_X3_goalHolds v1 v2 σ).bind fun r_2 =>
        if r_2 = 0 then (
          (pf_X7_leastToGo v0 v2 σ).bind fun r_3 =>
          pf_X7_measureBackward_b37 (pf_X7_measureBackward_L3 n) v0 v1 v2 (v0 + 3) v2 r_3 σ
        ) else (
          pf_X7_measureBackward_b37 (pf_X7_measureBackward_L3 n) v0 v1 v2 (v0 + 3) v2 0 σ
        )
      )
    )
noncomputable def pf_X7_measureBackward (v0 : Nat) (v1 : Nat) (σ : St) : Option St :=
  pf_X7_measureBackward_L3 FU v0 v1 63 σ
noncomputable def pf_X7_explore_b66 (v0 : Nat) (v1 : Nat) (σ : St) : Option (Int32 × St) :=
  bnd (sL σ v0 3 (lshl 1 (gI σ v1 2))) fun σ_1 =>
  (pf_X7_goForward v0 v1 σ_1).bind fun σ_2 =>
  (pf_X7_measureBackward v0 v1 σ_2).bind fun σ_3 =>
  (pf_X10_at (v0 + 3) (gI σ_3 v1 2) σ_3).bind fun r_4 =>
  if (99 : Int32) ≤ r_4 then (
    some ((0 : Int32), σ_3)
  ) else (
    some ((1 : Int32), σ_3)
  )
noncomputable def pf_X7_explore_L33 (k66 : Nat → Nat → St → (Option (Int32 × St))) : Nat → Nat → Nat → Nat → Int32 → St → (Option (Int32 × St))
  | 0, _, _, _, _, _ => none
  | n + 1, v0, v1, v2, v3, σ =>
    if (8 : Int32) ≤ v3 then (
      k66 v0 v1 σ
    ) else (
      (pf_X10_at v2 v3 σ).bind fun r_1 =>
      (pf_X10_put (v0 + 1) (((gI σ v1 2) * 8) + v3) r_1 σ).bind fun σ_2 =>
      bnd (v3 + 1) fun v3_3 =>
      pf_X7_explore_L33 k66 n v0 v1 v2 v3_3 σ_2
    )
noncomputable def pf_X7_explore (v0 : Nat) (v1 : Nat) (v2 : Nat) (σ : St) : Option (Int32 × St) :=
  bnd (sL σ v0 3 0) fun σ_1 =>
  (pf_J7_fill_53178 (v0 + 2) 0 σ_1).bind fun σ_2 =>
  (pf_J7_fill_53178 (v0 + 3) 99 σ_2).bind fun σ_3 =>
  if (gI σ_3 v1 1) = 0 then (
    pf_X7_explore_L33 (pf_X7_explore_b66) FU v0 v1 v2 0 σ_3
  ) else (
    some ((0 : Int32), σ_3)
  )
noncomputable def pf_X7_lengthOfPlan (v0 : Nat) (v1 : Nat) (σ : St) : Option (Int32) :=
  (pf_X10_at (v0 + 3) (gI σ v1 2) σ).bind fun r_1 =>
  if (99 : Int32) ≤ r_1 then (
    some ((-1))
  ) else (
    some (r_1)
  )
noncomputable def pf_X7_nextOfPlan_b60 (σ : St) (k2 : Nat → Int32 → Int32 → (Option (Int32))) (v0 : Nat) (v1 : Int32) (v2 : Int32) : Option (Int32) :=
  bnd (v2 + 1) fun v2_1 =>
  k2 v0 v1 v2_1
noncomputable def pf_X7_nextOfPlan_b28 (σ : St) (k2 : Nat → Int32 → Int32 → (Option (Int32))) (v0 : Nat) (v1 : Int32) (v2 : Int32) (s0 : Int32) : Option (Int32) :=
  if s0 = 0 then (
    pf_X7_nextOfPlan_b60 σ k2 v0 v1 v2
  ) else (
    (pf_X10_at (v0 + 3) (v1 ||| (ishl 1 v2)) σ).bind fun r_1 =>
    (pf_X10_at (v0 + 3) v1 σ).bind fun r_2 =>
    if r_1 = (r_2 - 1) then (
      some (v2)
    ) else (
      pf_X7_nextOfPlan_b60 σ k2 v0 v1 v2
    )
  )
noncomputable def pf_X7_nextOfPlan_L2 (σ : St) : Nat → Nat → Int32 → Int32 → (Option (Int32))
  | 0, _, _, _ => none
  | n + 1, v0, v1, v2 =>
    if (6 : Int32) ≤ v2 then (
      some (0)
    ) else (
      (pf_X10_at (v0 + 2) v1 σ).bind fun r_1 =>
      if ((iushr r_1 v2) &&& 1) = 0 then (
        pf_X7_nextOfPlan_b28 σ (pf_X7_nextOfPlan_L2 σ n) v0 v1 v2 0
      ) else (
        pf_X7_nextOfPlan_b28 σ (pf_X7_nextOfPlan_L2 σ n) v0 v1 v2 1
      )
    )
noncomputable def pf_X7_nextOfPlan (v0 : Nat) (v1 : Int32) (σ : St) : Option (Int32) :=
  pf_X7_nextOfPlan_L2 σ FU v0 v1 0
noncomputable def pf_X7_setBehindPlan_L8 (σ : St) : Nat → Nat → Int32 → Int32 → Int32 → (Option (Int32))
  | 0, _, _, _, _ => none
  | n + 1, v0, v2, v3, v4 =>
    if v2 ≤ v4 then (
      some (v3)
    ) else (
      (pf_X7_nextOfPlan v0 v3 σ).bind fun r_1 =>
      bnd (v3 ||| (ishl 1 r_1)) fun v3_2 =>
      bnd (v4 + 1) fun v4_3 =>
      pf_X7_setBehindPlan_L8 σ n v0 v2 v3_2 v4_3
    )
noncomputable def pf_X7_setBehindPlan (v0 : Nat) (v1 : Nat) (v2 : Int32) (σ : St) : Option (Int32) :=
  bnd (gI σ v1 2) fun v3_1 =>
  pf_X7_setBehindPlan_L8 σ FU v0 v2 v3_1 0
noncomputable def pf_X7_riskOfPlan (v0 : Nat) (v1 : Nat) (σ : St) : Option (Int32) :=
  (pf_X7_lengthOfPlan v0 v1 σ).bind fun r_1 =>
  (pf_X7_setBehindPlan v0 v1 r_1 σ).bind fun r_2 =>
  (pf_X3_riskOf v1 (r_2 &&& ((gI σ v1 2) ^^^ (-1))) σ).bind fun r_3 =>
  some (r_3)
noncomputable def pf_X7_smallestRisk_b56 (σ : St) (k4 : Nat → Nat → Int32 → Int32 → (Option (Int32))) (v0 : Nat) (v1 : Nat) (v2 : Int32) (v3 : Int32) : Option (Int32) :=
  bnd (v3 + 1) fun v3_1 =>
  k4 v0 v1 v2 v3_1
noncomputable def pf_X7_smallestRisk_b55 (σ : St) (k4 : Nat → Nat → Int32 → Int32 → (Option (Int32))) (v0 : Nat) (v1 : Nat) (v3 : Int32) (s0 : Int32) : Option (Int32) :=
  pf_X7_smallestRisk_b56 σ k4 v0 v1 s0 v3
noncomputable def pf_X7_smallestRisk_L4 (σ : St) : Nat → Nat → Nat → Int32 → Int32 → (Option (Int32))
  | 0, _, _, _, _ => none
  | n + 1, v0, v1, v2, v3 =>
    if (64 : Int32) ≤ v3 then (
      some (v2)
    ) else (
      (pf_X7_isReached v0 v3 σ).bind fun r_1 =>
      if r_1 = 0 then (
        pf_X7_smallestRisk_b56 σ (pf_X7_smallestRisk_L4 σ n) v0 v1 v2 v3
      ) else (
        (pf_X3_goalHolds v1 v3 σ).bind fun r_2 =>
        if r_2 = 0 then (
          pf_X7_smallestRisk_b56 σ (pf_X7_smallestRisk_L4 σ n) v0 v1 v2 v3
        ) else (
          (pf_X3_riskOf v1 (v3 &&& ((gI σ v1 2) ^^^ (-1))) σ).bind fun r_3 =>
          if (0 : Int32) ≤ v2 then (
            (pf_J9_min_7cf53 v2 r_3 σ).bind fun r_4 =>
            pf_X7_smallestRisk_b55 σ (pf_X7_smallestRisk_L4 σ n) v0 v1 v3 r_4
          ) else (
            pf_X7_smallestRisk_b55 σ (pf_X7_smallestRisk_L4 σ n) v0 v1 v3 r_3
          )
        )
      )
    )
noncomputable def pf_X7_smallestRisk (v0 : Nat) (v1 : Nat) (σ : St) : Option (Int32) :=
  pf_X7_smallestRisk_L4 σ FU v0 v1 (-1) 0
noncomputable def pf_J13_bitCount_95d88 (v0 : Int64) (σ : St) : Option (Int32) :=
  bnd (v0 - ((lushr v0 1) &&& 6148914691236517205)) fun v0_1 =>
  bnd ((v0_1 &&& 3689348814741910323) + ((lushr v0_1 2) &&& 3689348814741910323)) fun v0_2 =>
  bnd ((v0_2 + (lushr v0_2 4)) &&& 1085102592571150095) fun v0_3 =>
  bnd (v0_3 + (lushr v0_3 8)) fun v0_4 =>
  bnd (v0_4 + (lushr v0_4 16)) fun v0_5 =>
  bnd (v0_5 + (lushr v0_5 32)) fun v0_6 =>
  some (((v0_6).toInt32) &&& 127)
noncomputable def pf_X7_countEndings (v0 : Nat) (v1 : Nat) (σ : St) : Option (Int32) :=
  (pf_J13_bitCount_95d88 ((gL σ v0 3) &&& (gL σ v1 5)) σ).bind fun r_1 =>
  some (r_1)
noncomputable def pf_X8_see (v0 : Nat) (v1 : Int32) (v2 : Int32) (σ : St) : Option St :=
  (pf_X10_put (v0 + 2) ((-1) - v1) v2 σ).bind fun σ_1 =>
  some σ_1
noncomputable def pf_J9_max_f86c9 (v0 : Int64) (v2 : Int64) (σ : St) : Option (Int64) :=
  if v0 < v2 then (
    some (v2)
  ) else (
    some (v0)
  )
noncomputable def pf_J9_min_f86c9 (v0 : Int64) (v2 : Int64) (σ : St) : Option (Int64) :=
  if v2 < v0 then (
    some (v2)
  ) else (
    some (v0)
  )
noncomputable def pf_X8_join_b59 (σ : St) (v3 : Int64) : Option (Int32) :=
  (pf_J9_min_f86c9 1000000 v3 σ).bind fun r_1 =>
  (pf_J9_max_f86c9 (-1000000) r_1 σ).bind fun r_2 =>
  some ((r_2).toInt32)
noncomputable def pf_X8_join_b58 (σ : St) (s0 : Int64) : Option (Int32) :=
  pf_X8_join_b59 σ s0
noncomputable def pf_X8_join (v0 : Int32) (v1 : Int32) (v2 : Int32) (σ : St) : Option (Int32) :=
  if v1 = (-7) then (
    bnd (((v0).toInt64) + ((v2).toInt64)) fun v3_1 =>
    pf_X8_join_b59 σ v3_1
  ) else (
    if v1 = (-8) then (
      bnd (((v0).toInt64) - ((v2).toInt64)) fun v3_2 =>
      pf_X8_join_b59 σ v3_2
    ) else (
      if v1 = (-9) then (
        bnd (((v0).toInt64) * ((v2).toInt64)) fun v3_3 =>
        pf_X8_join_b59 σ v3_3
      ) else (
        if v2 = 0 then (
          pf_X8_join_b58 σ 0
        ) else (
          ckL ((v2).toInt64) <|
          pf_X8_join_b58 σ (((v0).toInt64) / ((v2).toInt64))
        )
      )
    )
  )
noncomputable def pf_X8_pop (v0 : Nat) (σ : St) : Option (Int32 × St) :=
  bnd (sI σ v0 1 ((gI σ v0 1) - 1)) fun σ_1 =>
  (pf_X10_at (v0 + 1) (gI σ_1 v0 1) σ_1).bind fun r_2 =>
  some (r_2, σ_1)
noncomputable def pf_X8_push (v0 : Nat) (v1 : Int32) (σ : St) : Option St :=
  (pf_X10_put (v0 + 1) (gI σ v0 1) v1 σ).bind fun σ_1 =>
  bnd (sI σ_1 v0 1 ((gI σ_1 v0 1) + 1)) fun σ_2 =>
  some σ_2
noncomputable def pf_X8_measure_b83 (k7 : Nat → Nat → Int32 → Int32 → St → (Option (Int32 × St))) (v0 : Nat) (v1 : Nat) (v2 : Int32) (v3 : Int32) (σ : St) : Option (Int32 × St) :=
  bnd (v3 + 1) fun v3_1 =>
  k7 v0 v1 v2 v3_1 σ
noncomputable def pf_X8_measure_b89 (v0 : Nat) (σ : St) : Option (Int32 × St) :=
  bnd2 (pf_X8_pop v0 σ) fun r_1 σ_1 =>
  some (r_1, σ_1)
noncomputable def pf_X8_measure_L7 (k89 : Nat → St → (Option (Int32 × St))) : Nat → Nat → Nat → Int32 → Int32 → St → (Option (Int32 × St))
  | 0, _, _, _, _, _ => none
  | n + 1, v0, v1, v2, v3, σ =>
    if v2 ≤ v3 then (
      k89 v0 σ
    ) else (
      (pf_X10_at v1 v3 σ).bind fun r_1 =>
      if r_1 < 0 then (
        if r_1 < (-6) then (
          bnd2 (pf_X8_pop v0 σ) fun r_2 σ_2 =>
          bnd2 (pf_X8_pop v0 σ_2) fun r_3 σ_3 =>
          (pf_X8_join r_3 r_1 r_2 σ_3).bind fun r_4 =>
          (pf_X8_push v0 r_4 σ_3).bind fun σ_5 =>
          pf_X8_measure_b83 (pf_X8_measure_L7 k89 n) v0 v1 v2 v3 σ_5
        ) else (
          (pf_X10_at (v0 + 2) ((-1) - r_1) σ).bind fun r_6 =>
          (pf_X8_push v0 r_6 σ).bind fun σ_7 =>
          pf_X8_measure_b83 (pf_X8_measure_L7 k89 n) v0 v1 v2 v3 σ_7
        )
      ) else (
        (pf_X8_push v0 r_1 σ).bind fun σ_8 =>
        pf_X8_measure_b83 (pf_X8_measure_L7 k89 n) v0 v1 v2 v3 σ_8
      )
    )
noncomputable def pf_X8_measure (v0 : Nat) (v1 : Nat) (v2 : Int32) (σ : St) : Option (Int32 × St) :=
  bnd (sI σ v0 1 0) fun σ_1 =>
  pf_X8_measure_L7 (pf_X8_measure_b89) FU v0 v1 v2 0 σ_1
noncomputable def pf_X10_appendWord_L3 : Nat → Nat → Int32 → Int32 → St → (Option St)
  | 0, _, _, _, _ => none
  | n + 1, v0, v1, v2, σ =>
    if v2 < 0 then (
      some σ
    ) else (
      (pf_X10_put (v0 + 1) (gI σ v0 1) ((iushr v1 v2) &&& 255) σ).bind fun σ_1 =>
      bnd (sI σ_1 v0 1 ((gI σ_1 v0 1) + 1)) fun σ_2 =>
      bnd (v2 + (-8)) fun v2_3 =>
      pf_X10_appendWord_L3 n v0 v1 v2_3 σ_2
    )
noncomputable def pf_X10_appendWord (v0 : Nat) (v1 : Int32) (σ : St) : Option St :=
  pf_X10_appendWord_L3 FU v0 v1 24 σ
noncomputable def pf_X10_append (v0 : Nat) (v1 : Int32) (v2 : Int32) (v3 : Int32) (v4 : Int32) (v5 : Int32) (σ : St) : Option (Int32 × St) :=
  if ((gI σ v0 1) + 20) ≤ 800 then (
    (pf_X10_appendWord v0 v1 σ).bind fun σ_1 =>
    (pf_X10_appendWord v0 v2 σ_1).bind fun σ_2 =>
    (pf_X10_appendWord v0 v3 σ_2).bind fun σ_3 =>
    (pf_X10_appendWord v0 v4 σ_3).bind fun σ_4 =>
    (pf_X10_appendWord v0 v5 σ_4).bind fun σ_5 =>
    some (gI σ_5 v0 1, σ_5)
  ) else (
    some (((-1) : Int32), σ)
  )
noncomputable def pf_X10_load_b12 (σ : St) : Option ((Nat ⊕ (Int32)) × St) :=
  some (.inl 1, σ)
noncomputable def pf_X10_load (v0 : Nat) (v1 : Int32) (σ : St) : Option ((Nat ⊕ (Int32)) × St) :=
  if v1 < 0 then (
    pf_X10_load_b12 σ
  ) else (
    if v1 ≤ (gI σ v0 1) then (
      bnd (sI σ v0 1 0) fun σ_1 =>
      bnd2 (pf_X4_read (v0 + 594) (v0 + 1) v1 (v0 + 61) σ_1) fun r_2 σ_2 =>
      (pf_X4_offsetOfError (v0 + 594) σ_2).bind fun r_3 =>
      bnd (sI σ_2 v0 2 r_3) fun σ_4 =>
      if r_2 = 0 then (
        (pf_X1_remember (v0 + 120) (v0 + 2) σ_4).bind fun σ_5 =>
        (pf_X2_copyFrom (v0 + 2) (v0 + 61) σ_5).bind fun σ_6 =>
        some (.inr (gI σ_6 (v0 + 2) 5), σ_6)
      ) else (
        some (.inr (r_2), σ_4)
      )
    ) else (
      pf_X10_load_b12 σ
    )
  )
noncomputable def pf_J6_bitCount_0f7a4 (v0 : Int32) (σ : St) : Option (Int32) :=
  bnd (v0 - ((iushr v0 1) &&& 1431655765)) fun v0_1 =>
  bnd ((v0_1 &&& 858993459) + ((iushr v0_1 2) &&& 858993459)) fun v0_2 =>
  bnd ((v0_2 + (iushr v0_2 4)) &&& 252645135) fun v0_3 =>
  bnd (v0_3 + (iushr v0_3 8)) fun v0_4 =>
  bnd (v0_4 + (iushr v0_4 16)) fun v0_5 =>
  some (v0_5 &&& 63)
noncomputable def pf_X10_shareOf (v0 : Nat) (v1 : Nat) (v2 : Int32) (σ : St) : Option (Int32 × St) :=
  if v2 = 1 then (
    some (gI σ v1 0, σ)
  ) else
  if v2 = 2 then (
    if (gI σ v1 1) = 1 then (
      some ((1 : Int32), σ)
    ) else (
      some ((0 : Int32), σ)
    )
  ) else
  if v2 = 3 then (
    if (gI σ v1 1) = 2 then (
      some ((1 : Int32), σ)
    ) else (
      some ((0 : Int32), σ)
    )
  ) else
  if v2 = 4 then (
    (pf_J6_bitCount_0f7a4 (gI σ v1 2) σ).bind fun r_1 =>
    some (r_1, σ)
  ) else
  if v2 = 5 then (
    (pf_X3_sumOfFails v1 σ).bind fun r_2 =>
    some (r_2, σ)
  ) else
  (
    bnd2 (pf_X7_explore (v0 + 602) v1 (v0 + 2 + 1) σ) fun r_3 σ_3 =>
    if r_3 = 0 then (
      some ((0 : Int32), σ_3)
    ) else (
      some ((1 : Int32), σ_3)
    )
  )
noncomputable def pf_X10_state_b10 (σ : St) : Option ((Nat ⊕ (Int32)) × St) :=
  some (.inl 1, σ)
noncomputable def pf_X10_state_L62 : Nat → Nat → Int32 → Int32 → Int32 → St → (Option ((Nat ⊕ (Int32)) × St))
  | 0, _, _, _, _, _ => none
  | n + 1, v0, v1, v2, v3, σ =>
    if (gI σ (v0 + 2) 5) ≤ v3 then (
      some (.inr (v2), σ)
    ) else (
      if (6 : Int32) ≤ v3 then (
        some (.inr (v2), σ)
      ) else (
        ckI (v3) (alen (v0 + 2 + 3)) <|
        bnd2 (pf_X10_shareOf v0 (v0 + 2 + 3 + 2 + 9 * (v3).toNatClampNeg) v1 σ) fun r_2 σ_2 =>
        bnd (v2 + r_2) fun v2_3 =>
        bnd (v3 + 1) fun v3_4 =>
        pf_X10_state_L62 n v0 v1 v2_3 v3_4 σ_2
      )
    )
noncomputable def pf_X10_state (v0 : Nat) (v1 : Int32) (σ : St) : Option ((Nat ⊕ (Int32)) × St) :=
  if v1 < 0 then (
    pf_X10_state_b10 σ
  ) else (
    if v1 ≤ 8 then (
      if v1 = 0 then (
        some (.inr (gI σ (v0 + 2) 5), σ)
      ) else (
        if v1 = 6 then (
          some (.inr (gI σ (v0 + 2) 2), σ)
        ) else (
          if v1 = 7 then (
            some (.inr (gI σ (v0 + 2) 3), σ)
          ) else (
            pf_X10_state_L62 FU v0 v1 0 0 σ
          )
        )
      )
    ) else (
      pf_X10_state_b10 σ
    )
  )
noncomputable def pf_X10_checkItem_b10 (σ : St) : Option ((Nat ⊕ Unit)) :=
  some (.inl 2)
noncomputable def pf_X10_checkItem (v0 : Int32) (σ : St) : Option ((Nat ⊕ Unit)) :=
  if v0 < 0 then (
    pf_X10_checkItem_b10 σ
  ) else (
    if v0 < 8 then (
      some (.inr ())
    ) else (
      pf_X10_checkItem_b10 σ
    )
  )
noncomputable def pf_X10_stock (v0 : Nat) (v1 : Int32) (σ : St) : Option ((Nat ⊕ (Int32))) :=
  bndX0 (pf_X10_checkItem v1 σ) fun _ =>
  (pf_X10_at (v0 + 2 + 1) v1 σ).bind fun r_2 =>
  some (.inr (r_2))
noncomputable def pf_X10_questAt_b21 (σ : St) : Option ((Nat ⊕ (Nat))) :=
  some (.inl 2)
noncomputable def pf_X10_questAt (v0 : Nat) (v1 : Int32) (σ : St) : Option ((Nat ⊕ (Nat))) :=
  if v1 < 0 then (
    pf_X10_questAt_b21 σ
  ) else (
    if (gI σ (v0 + 2) 5) ≤ v1 then (
      pf_X10_questAt_b21 σ
    ) else (
      if v1 < 6 then (
        ckI (v1) (alen (v0 + 2 + 3)) <|
        some (.inr (v0 + 2 + 3 + 2 + 9 * (v1).toNatClampNeg))
      ) else (
        pf_X10_questAt_b21 σ
      )
    )
  )
noncomputable def pf_X10_quest (v0 : Nat) (v1 : Int32) (v2 : Int32) (σ : St) : Option ((Nat ⊕ (Int32))) :=
  bndX0 (pf_X10_questAt v0 v1 σ) fun r_1 =>
  ckK 3 r_1 <|
  if v2 = 0 then (
    some (.inr (gI σ r_1 0))
  ) else
  if v2 = 1 then (
    some (.inr (gI σ r_1 1))
  ) else
  if v2 = 2 then (
    some (.inr (gI σ r_1 2))
  ) else
  if v2 = 3 then (
    (pf_X3_brokenSteps r_1 σ).bind fun r_3 =>
    some (.inr (r_3))
  ) else
  if v2 = 4 then (
    some (.inr (gI σ r_1 3))
  ) else
  if v2 = 5 then (
    some (.inr (gI σ r_1 4))
  ) else
  if v2 = 6 then (
    (pf_X3_sumOfFails r_1 σ).bind fun r_4 =>
    some (.inr (r_4))
  ) else
  if v2 = 7 then (
    (pf_X3_stepsToTry r_1 (v0 + 2 + 1) σ).bind fun r_5 =>
    some (.inr (r_5))
  ) else
  (
    some (.inl 1)
  )
noncomputable def pf_X10_questWithStep_b18 (σ : St) : Option ((Nat ⊕ (Nat))) :=
  some (.inl 2)
noncomputable def pf_X10_questWithStep (v0 : Nat) (v1 : Int32) (v2 : Int32) (σ : St) : Option ((Nat ⊕ (Nat))) :=
  bndX0 (pf_X10_questAt v0 v1 σ) fun r_1 =>
  ckK 3 r_1 <|
  if v2 < 0 then (
    pf_X10_questWithStep_b18 σ
  ) else (
    if v2 < (gI σ r_1 0) then (
      some (.inr (r_1))
    ) else (
      pf_X10_questWithStep_b18 σ
    )
  )
noncomputable def pf_X10_step (v0 : Nat) (v1 : Int32) (v2 : Int32) (v3 : Int32) (σ : St) : Option ((Nat ⊕ (Int32))) :=
  bndX0 (pf_X10_questWithStep v0 v1 v2 σ) fun r_1 =>
  ckK 3 r_1 <|
  if v3 = 0 then (
    (pf_X10_at (r_1 + 1) v2 σ).bind fun r_3 =>
    some (.inr (r_3))
  ) else
  if v3 = 1 then (
    (pf_X10_at (r_1 + 2) v2 σ).bind fun r_4 =>
    some (.inr (r_4))
  ) else
  if v3 = 2 then (
    (pf_X10_at (r_1 + 3) v2 σ).bind fun r_5 =>
    some (.inr (r_5))
  ) else
  if v3 = 3 then (
    (pf_X3_isDone r_1 v2 σ).bind fun r_6 =>
    if r_6 = 0 then (
      some (.inr (0))
    ) else (
      some (.inr (1))
    )
  ) else
  if v3 = 4 then (
    (pf_X10_at (r_1 + 4) v2 σ).bind fun r_7 =>
    some (.inr (r_7))
  ) else
  if v3 = 5 then (
    (pf_X10_at (r_1 + 5) v2 σ).bind fun r_8 =>
    some (.inr (r_8))
  ) else
  (
    some (.inl 1)
  )
noncomputable def pf_X10_why (v0 : Nat) (v1 : Int32) (v2 : Int32) (σ : St) : Option ((Nat ⊕ (Int32))) :=
  bndX0 (pf_X10_questWithStep v0 v1 v2 σ) fun r_1 =>
  ckK 3 r_1 <|
  (pf_X3_hindrance r_1 v2 (v0 + 2 + 1) σ).bind fun r_3 =>
  some (.inr (r_3))
noncomputable def pf_X10_holds_b16 (σ : St) : Option ((Nat ⊕ (Int32))) :=
  some (.inl 1)
noncomputable def pf_X10_holds (v0 : Nat) (v1 : Int32) (v2 : Int32) (σ : St) : Option ((Nat ⊕ (Int32))) :=
  bndX0 (pf_X10_questAt v0 v1 σ) fun r_1 =>
  ckK 3 r_1 <|
  if v2 < 0 then (
    pf_X10_holds_b16 σ
  ) else (
    if v2 < 64 then (
      (pf_X3_goalHolds r_1 v2 σ).bind fun r_3 =>
      ckZ (r_3) <|
      some (.inr (r_3))
    ) else (
      pf_X10_holds_b16 σ
    )
  )
noncomputable def pf_X10_possible (v0 : Nat) (v1 : Int32) (σ : St) : Option ((Nat ⊕ (Int32)) × St) :=
  bndX0W σ (pf_X10_questAt v0 v1 σ) fun r_1 =>
  ckK 3 r_1 <|
  bnd2 (pf_X7_explore (v0 + 602) r_1 (v0 + 2 + 1) σ) fun r_3 σ_3 =>
  ckZ (r_3) <|
  some (.inr (r_3), σ_3)
noncomputable def pf_X10_planLength (v0 : Nat) (v1 : Int32) (σ : St) : Option ((Nat ⊕ (Int32)) × St) :=
  bndX0W σ (pf_X10_questAt v0 v1 σ) fun r_1 =>
  ckK 3 r_1 <|
  bnd2 (pf_X7_explore (v0 + 602) r_1 (v0 + 2 + 1) σ) fun r_3 σ_3 =>
  (pf_X7_lengthOfPlan (v0 + 602) r_1 σ_3).bind fun r_4 =>
  some (.inr (r_4), σ_3)
noncomputable def pf_X10_planStep_b38 (σ : St) : Option ((Nat ⊕ (Int32)) × St) :=
  some (.inl 4, σ)
noncomputable def pf_X10_planStep (v0 : Nat) (v1 : Int32) (v2 : Int32) (σ : St) : Option ((Nat ⊕ (Int32)) × St) :=
  bndX0W σ (pf_X10_questAt v0 v1 σ) fun r_1 =>
  ckK 3 r_1 <|
  bnd2 (pf_X7_explore (v0 + 602) r_1 (v0 + 2 + 1) σ) fun r_3 σ_3 =>
  if v2 < 0 then (
    pf_X10_planStep_b38 σ_3
  ) else (
    (pf_X7_lengthOfPlan (v0 + 602) r_1 σ_3).bind fun r_4 =>
    if v2 < r_4 then (
      (pf_X7_setBehindPlan (v0 + 602) r_1 v2 σ_3).bind fun r_5 =>
      (pf_X7_nextOfPlan (v0 + 602) r_5 σ_3).bind fun r_6 =>
      some (.inr (r_6), σ_3)
    ) else (
      pf_X10_planStep_b38 σ_3
    )
  )
noncomputable def pf_X10_safest (v0 : Nat) (v1 : Int32) (σ : St) : Option ((Nat ⊕ (Int32)) × St) :=
  bndX0W σ (pf_X10_questAt v0 v1 σ) fun r_1 =>
  ckK 3 r_1 <|
  bnd2 (pf_X7_explore (v0 + 602) r_1 (v0 + 2 + 1) σ) fun r_3 σ_3 =>
  (pf_X7_smallestRisk (v0 + 602) r_1 σ_3).bind fun r_4 =>
  some (.inr (r_4), σ_3)
noncomputable def pf_X10_endings (v0 : Nat) (v1 : Int32) (σ : St) : Option ((Nat ⊕ (Int32)) × St) :=
  bndX0W σ (pf_X10_questAt v0 v1 σ) fun r_1 =>
  ckK 3 r_1 <|
  bnd2 (pf_X7_explore (v0 + 602) r_1 (v0 + 2 + 1) σ) fun r_3 σ_3 =>
  (pf_X7_countEndings (v0 + 602) r_1 σ_3).bind fun r_4 =>
  some (.inr (r_4), σ_3)
noncomputable def pf_X10_worthOf (v0 : Nat) (v1 : Nat) (v2 : Int32) (σ : St) : Option (Int32 × St) :=
  bnd2 (pf_X7_explore (v0 + 602) v1 (v0 + 2 + 1) σ) fun r_1 σ_1 =>
  (pf_X7_lengthOfPlan (v0 + 602) v1 σ_1).bind fun r_2 =>
  (pf_X8_see (v0 + 606) (-1) r_2 σ_1).bind fun σ_3 =>
  (pf_X7_riskOfPlan (v0 + 602) v1 σ_3).bind fun r_4 =>
  (pf_X8_see (v0 + 606) (-2) r_4 σ_3).bind fun σ_5 =>
  (pf_J6_bitCount_0f7a4 (gI σ_5 v1 2) σ_5).bind fun r_6 =>
  (pf_X8_see (v0 + 606) (-3) r_6 σ_5).bind fun σ_7 =>
  (pf_X3_sumOfFails v1 σ_7).bind fun r_8 =>
  (pf_X8_see (v0 + 606) (-4) r_8 σ_7).bind fun σ_9 =>
  (pf_X8_see (v0 + 606) (-5) (gI σ_9 v1 4) σ_9).bind fun σ_10 =>
  (pf_X8_see (v0 + 606) (-6) v2 σ_10).bind fun σ_11 =>
  bnd2 (pf_X8_measure (v0 + 606) (v0 + 2 + 4) (gI σ_11 (v0 + 2) 7) σ_11) fun r_12 σ_12 =>
  some (r_12, σ_12)
noncomputable def pf_X10_best_b77 (k6 : Nat → Int32 → Int32 → Int32 → St → (Option (Int32 × St))) (v0 : Nat) (v1 : Int32) (v2 : Int32) (v3 : Int32) (σ : St) : Option (Int32 × St) :=
  bnd (v3 + 1) fun v3_1 =>
  k6 v0 v1 v2 v3_1 σ
noncomputable def pf_X10_best_b72 (k6 : Nat → Int32 → Int32 → Int32 → St → (Option (Int32 × St))) (v0 : Nat) (v3 : Int32) (v5 : Int32) (σ : St) : Option (Int32 × St) :=
  pf_X10_best_b77 k6 v0 v3 v5 v3 σ
noncomputable def pf_X10_best_L6 : Nat → Nat → Int32 → Int32 → Int32 → St → (Option (Int32 × St))
  | 0, _, _, _, _, _ => none
  | n + 1, v0, v1, v2, v3, σ =>
    if (gI σ (v0 + 2) 5) ≤ v3 then (
      some (v1, σ)
    ) else (
      if (6 : Int32) ≤ v3 then (
        some (v1, σ)
      ) else (
        ckI (v3) (alen (v0 + 2 + 3)) <|
        bnd2 (pf_X7_explore (v0 + 602) (v0 + 2 + 3 + 2 + 9 * (v3).toNatClampNeg) (v0 + 2 + 1) σ) fun r_2 σ_2 =>
        if r_2 = 0 then (
          pf_X10_best_b77 (pf_X10_best_L6 n) v0 v1 v2 v3 σ_2
        ) else (
          bnd2 (pf_X10_worthOf v0 (v0 + 2 + 3 + 2 + 9 * (v3).toNatClampNeg) v3 σ_2) fun r_3 σ_3 =>
          if v1 < 0 then (
            pf_X10_best_b72 (pf_X10_best_L6 n) v0 v3 r_3 σ_3
          ) else (
            if r_3 ≤ v2 then (
              pf_X10_best_b77 (pf_X10_best_L6 n) v0 v1 v2 v3 σ_3
            ) else (
              pf_X10_best_b72 (pf_X10_best_L6 n) v0 v3 r_3 σ_3
            )
          )
        )
      )
    )
noncomputable def pf_X10_best (v0 : Nat) (σ : St) : Option (Int32 × St) :=
  pf_X10_best_L6 FU v0 (-1) 0 0 σ
noncomputable def pf_X10_tell_b20 (σ : St) : Option ((Nat ⊕ (Int32)) × St) :=
  some (.inl 1, σ)
noncomputable def pf_X10_tell (v0 : Nat) (v1 : Int32) (v2 : Int32) (σ : St) : Option ((Nat ⊕ (Int32)) × St) :=
  if v1 < 0 then (
    pf_X10_tell_b20 σ
  ) else (
    if (99 : Int32) < v1 then (
      pf_X10_tell_b20 σ
    ) else (
      if v2 < 0 then (
        pf_X10_tell_b20 σ
      ) else (
        if v2 ≤ 99 then (
          if ((gI σ (v0 + 2) 2) + 2) ≤ 40 then (
            (pf_X1_remember (v0 + 120) (v0 + 2) σ).bind fun σ_1 =>
            (pf_X2_enqueue (v0 + 2) v1 σ_1).bind fun σ_2 =>
            (pf_X2_enqueue (v0 + 2) v2 σ_2).bind fun σ_3 =>
            some (.inr (gI σ_3 (v0 + 2) 2), σ_3)
          ) else (
            some (.inl 3, σ)
          )
        ) else (
          pf_X10_tell_b20 σ
        )
      )
    )
  )
noncomputable def pf_X10_attempt (v0 : Nat) (v1 : Int32) (v2 : Int32) (σ : St) : Option ((Nat ⊕ (Int32)) × St) :=
  bndX0W σ (pf_X10_questWithStep v0 v1 v2 σ) fun r_1 =>
  ckK 3 r_1 <|
  (pf_X3_hindrance r_1 v2 (v0 + 2 + 1) σ).bind fun r_3 =>
  if r_3 = 0 then (
    (pf_X1_remember (v0 + 120) (v0 + 2) σ).bind fun σ_4 =>
    bnd2 (pf_X2_tryStep (v0 + 2) r_1 v2 σ_4) fun r_5 σ_5 =>
    some (.inr (r_5), σ_5)
  ) else (
    some (.inl 3, σ)
  )
