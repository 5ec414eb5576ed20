/-! THE LAW'S GAME: its methods as functions (by wip/p34/gen/emitg.py) -/
noncomputable def pf_X11_holds (v0 : Nat) (v1 : Int32) (σ : St) : Option (Int32) :=
  if (gI σ v0 5) = 0 then (
    (pf_J6_bitCount_0f7a4 v1 σ).bind fun r_1 =>
    if r_1 < (gI σ v0 4) then (
      some (0)
    ) else (
      some (1)
    )
  ) else (
    if (gI σ v0 5) = 1 then (
      if (v1 &&& 1) = 1 then (
        some (1)
      ) else (
        if (v1 &&& 6) = 6 then (
          some (1)
        ) else (
          some (0)
        )
      )
    ) else (
      if (v1 &&& 3) = 3 then (
        some (1)
      ) else (
        some (0)
      )
    )
  )
noncomputable def pf_X11_done_b40 (σ : St) (k4 : Nat → Int32 → Int32 → (Option (Int32))) (v0 : Nat) (v2 : Int32) (s0 : Int32) (s1 : Int32) : Option (Int32) :=
  bnd (s0 ||| s1) fun v1_1 =>
  bnd (v2 + 1) fun v2_2 =>
  k4 v0 v1_1 v2_2
noncomputable def pf_X11_done_L4 (σ : St) : Nat → Nat → Int32 → Int32 → (Option (Int32))
  | 0, _, _, _ => none
  | n + 1, v0, v1, v2 =>
    if (gI σ 1001 2) ≤ v2 then (
      some (v1)
    ) else (
      ckI (v2) (gI σ 1001 2).toNatClampNeg <|
      if (gI σ (1005 + 4 * (v2).toNatClampNeg) 5) = 0 then (
        pf_X11_done_b40 σ (pf_X11_done_L4 σ n) v0 v2 v1 0
      ) else (
        pf_X11_done_b40 σ (pf_X11_done_L4 σ n) v0 v2 v1 (ishl 1 v2)
      )
    )
noncomputable def pf_X11_done (v0 : Nat) (σ : St) : Option (Int32) :=
  pf_X11_done_L4 σ FU v0 0 0
noncomputable def pf_X11_can_b105 (σ : St) (k63 : Nat → Nat → Int32 → Int32 → (Option (Int32))) (v3 : Nat) (v4 : Nat) (v6 : Int32) (s0 : Int32) : Option (Int32) :=
  bnd (v6 + 1) fun v6_1 =>
  k63 v3 v4 s0 v6_1
noncomputable def pf_X11_can_b104 (σ : St) (k63 : Nat → Nat → Int32 → Int32 → (Option (Int32))) (v3 : Nat) (v4 : Nat) (v6 : Int32) : Option (Int32) :=
  pf_X11_can_b105 σ k63 v3 v4 v6 0
noncomputable def pf_X11_can_L63 (σ : St) : Nat → Nat → Nat → Int32 → Int32 → (Option (Int32))
  | 0, _, _, _, _ => none
  | n + 1, v3, v4, v5, v6 =>
    if (3 : Int32) ≤ v6 then (
      ckZ (v5) <|
      some (v5)
    ) else (
      if v5 = 0 then (
        pf_X11_can_b104 σ (pf_X11_can_L63 σ n) v3 v4 v6
      ) else (
        ckI (v6) 3 <|
        ckI (v6) 3 <|
        ckI (v6) 3 <|
        (pf_J9_max_7cf53 (gI σ (v4 + 1) (v6).toNatClampNeg) (gI σ (v4 + 2) (v6).toNatClampNeg) σ).bind fun r_4 =>
        if (gI σ v3 (v6).toNatClampNeg) < r_4 then (
          pf_X11_can_b104 σ (pf_X11_can_L63 σ n) v3 v4 v6
        ) else (
          pf_X11_can_b105 σ (pf_X11_can_L63 σ n) v3 v4 v6 1
        )
      )
    )
noncomputable def pf_X11_can_b58 (σ : St) (v3 : Nat) (v4 : Nat) (s0 : Int32) : Option (Int32) :=
  pf_X11_can_L63 σ FU v3 v4 s0 0
noncomputable def pf_X11_can_b57 (σ : St) (v3 : Nat) (v4 : Nat) : Option (Int32) :=
  pf_X11_can_b58 σ v3 v4 0
noncomputable def pf_X11_can (v0 : Nat) (v1 : Int32) (v2 : Int32) (v3 : Nat) (σ : St) : Option (Int32) :=
  ckI (v1) (gI σ 1001 2).toNatClampNeg <|
  if (gI σ v0 3) = 0 then (
    if ((ishr v2 v1) &&& 1) = 0 then (
      if (gI σ (1005 + 4 * (v1).toNatClampNeg) 1) ≤ (gI σ (1005 + 4 * (v1).toNatClampNeg) 2) then (
        pf_X11_can_b57 σ v3 (1005 + 4 * (v1).toNatClampNeg)
      ) else (
        if ((gI σ (1005 + 4 * (v1).toNatClampNeg) 3) &&& (v2 ^^^ (-1))) = 0 then (
          pf_X11_can_b58 σ v3 (1005 + 4 * (v1).toNatClampNeg) 1
        ) else (
          pf_X11_can_b57 σ v3 (1005 + 4 * (v1).toNatClampNeg)
        )
      )
    ) else (
      pf_X11_can_b57 σ v3 (1005 + 4 * (v1).toNatClampNeg)
    )
  ) else (
    pf_X11_can_b57 σ v3 (1005 + 4 * (v1).toNatClampNeg)
  )
noncomputable def pf_X11_canStillBe_b71 (rc : Nat → Int32 → St → Option (Int32)) (σ : St) (k41 : Nat → Int32 → Nat → Int32 → Int32 → (Option (Int32))) (v0 : Nat) (v1 : Int32) (v2 : Nat) (v3 : Int32) (v4 : Int32) : Option (Int32) :=
  bnd (v4 + 1) fun v4_1 =>
  k41 v0 v1 v2 v3 v4_1
noncomputable def pf_X11_canStillBe_L41 (rc : Nat → Int32 → St → Option (Int32)) (σ : St) : Nat → Nat → Int32 → Nat → Int32 → Int32 → (Option (Int32))
  | 0, _, _, _, _, _ => none
  | n + 1, v0, v1, v2, v3, v4 =>
    if v1 ≤ v4 then (
      ckZ (v3) <|
      some (v3)
    ) else (
      if v3 = 0 then (
        ckZ (v3) <|
        some (v3)
      ) else (
        if ((ishr (gI σ v2 3) v4) &&& 1) = 1 then (
          (rc v0 v4 σ).bind fun r_1 =>
          pf_X11_canStillBe_b71 rc σ (pf_X11_canStillBe_L41 rc σ n) v0 v1 v2 r_1 v4
        ) else (
          pf_X11_canStillBe_b71 rc σ (pf_X11_canStillBe_L41 rc σ n) v0 v1 v2 v3 v4
        )
      )
    )
noncomputable def pf_X11_canStillBe_b37 (rc : Nat → Int32 → St → Option (Int32)) (σ : St) (v0 : Nat) (v1 : Int32) (v2 : Nat) (s0 : Int32) : Option (Int32) :=
  pf_X11_canStillBe_L41 rc σ FU v0 v1 v2 s0 0
noncomputable def pf_X11_canStillBe_B (rc : Nat → Int32 → St → Option (Int32)) (v0 : Nat) (v1 : Int32) (σ : St) : Option (Int32) :=
  ckI (v1) (gI σ 1001 2).toNatClampNeg <|
  if (gI σ (1005 + 4 * (v1).toNatClampNeg) 5) = 0 then (
    if (gI σ (1005 + 4 * (v1).toNatClampNeg) 1) ≤ (gI σ (1005 + 4 * (v1).toNatClampNeg) 2) then (
      pf_X11_canStillBe_b37 rc σ v0 v1 (1005 + 4 * (v1).toNatClampNeg) 0
    ) else (
      pf_X11_canStillBe_b37 rc σ v0 v1 (1005 + 4 * (v1).toNatClampNeg) 1
    )
  ) else (
    some (1)
  )
noncomputable def pf_X11_canStillBe : Nat → Nat → Int32 → St → Option (Int32)
  | 0, _, _, _ => none
  | d + 1, v0, v1, σ => pf_X11_canStillBe_B (pf_X11_canStillBe d) v0 v1 σ
noncomputable def pf_X11_attempt_b168 (v0 : Nat) (v3 : Nat) (σ : St) : Option (Int32 × St) :=
  bnd (sI σ v3 5 1) fun σ_1 =>
  (pf_X11_done v0 σ_1).bind fun r_2 =>
  (pf_X11_holds v0 r_2 σ_1).bind fun r_3 =>
  if r_3 = 0 then (
    some ((1 : Int32), σ_1)
  ) else (
    bnd (sI σ_1 v0 3 1) fun σ_4 =>
    ckI (1) 3 <|
    ckI (1) 3 <|
    bnd (sI σ_4 1002 (1 : Int32).toNatClampNeg ((gI σ_4 1002 (1 : Int32).toNatClampNeg) + 7)) fun σ_7 =>
    some ((2 : Int32), σ_7)
  )
noncomputable def pf_X11_attempt_L139 (k168 : Nat → Nat → St → (Option (Int32 × St))) : Nat → Nat → Nat → Int32 → St → (Option (Int32 × St))
  | 0, _, _, _, _ => none
  | n + 1, v0, v3, v6, σ =>
    if (3 : Int32) ≤ v6 then (
      k168 v0 v3 σ
    ) else (
      ckI (v6) 3 <|
      ckI (v6) 3 <|
      ckI (v6) 3 <|
      bnd (sI σ 1002 (v6).toNatClampNeg ((gI σ 1002 (v6).toNatClampNeg) + (gI σ (v3 + 3) (v6).toNatClampNeg))) fun σ_4 =>
      bnd (v6 + 1) fun v6_5 =>
      pf_X11_attempt_L139 k168 n v0 v3 v6_5 σ_4
    )
noncomputable def pf_X11_attempt_b251 (k220 : Nat → Int32 → Int32 → St → (Option (Int32 × St))) (v0 : Nat) (v7 : Int32) (s0 : Int32) (s1 : Int32) (σ : St) : Option (Int32 × St) :=
  bnd (s0 ||| s1) fun v6_1 =>
  bnd (v7 + 1) fun v7_2 =>
  k220 v0 v6_1 v7_2 σ
noncomputable def pf_X11_attempt_b260 (v0 : Nat) (v6 : Int32) (σ : St) : Option (Int32 × St) :=
  (pf_X11_holds v0 v6 σ).bind fun r_1 =>
  if r_1 = 0 then (
    bnd (sI σ v0 3 2) fun σ_2 =>
    some ((3 : Int32), σ_2)
  ) else (
    some ((0 : Int32), σ)
  )
noncomputable def pf_X11_attempt_L220 (k260 : Nat → Int32 → St → (Option (Int32 × St))) : Nat → Nat → Int32 → Int32 → St → (Option (Int32 × St))
  | 0, _, _, _, _ => none
  | n + 1, v0, v6, v7, σ =>
    if (gI σ 1001 2) ≤ v7 then (
      k260 v0 v6 σ
    ) else (
      (pf_X11_canStillBe 8 v0 v7 σ).bind fun r_1 =>
      if r_1 = 0 then (
        pf_X11_attempt_b251 (pf_X11_attempt_L220 k260 n) v0 v7 v6 0 σ
      ) else (
        pf_X11_attempt_b251 (pf_X11_attempt_L220 k260 n) v0 v7 v6 (ishl 1 v7) σ
      )
    )
noncomputable def pf_X11_attempt_b131 (v0 : Nat) (v3 : Nat) (v5 : Int32) (σ : St) : Option (Int32 × St) :=
  if v5 = 0 then (
    bnd (sI σ v3 2 ((gI σ v3 2) + 1)) fun σ_1 =>
    pf_X11_attempt_L220 (pf_X11_attempt_b260) FU v0 0 0 σ_1
  ) else (
    pf_X11_attempt_L139 (pf_X11_attempt_b168) FU v0 v3 0 σ
  )
noncomputable def pf_X11_attempt_L102 (k131 : Nat → Nat → Int32 → St → (Option (Int32 × St))) : Nat → Nat → Nat → Int32 → Int32 → St → (Option (Int32 × St))
  | 0, _, _, _, _, _ => none
  | n + 1, v0, v3, v5, v6, σ =>
    if (3 : Int32) ≤ v6 then (
      k131 v0 v3 v5 σ
    ) else (
      ckI (v6) 3 <|
      ckI (v6) 3 <|
      ckI (v6) 3 <|
      bnd (sI σ 1002 (v6).toNatClampNeg ((gI σ 1002 (v6).toNatClampNeg) - (gI σ (v3 + 1) (v6).toNatClampNeg))) fun σ_4 =>
      bnd (v6 + 1) fun v6_5 =>
      pf_X11_attempt_L102 k131 n v0 v3 v5 v6_5 σ_4
    )
noncomputable def pf_X11_attempt_b99 (v0 : Nat) (v3 : Nat) (v5 : Int32) (σ : St) : Option (Int32 × St) :=
  pf_X11_attempt_L102 (pf_X11_attempt_b131) FU v0 v3 v5 0 σ
noncomputable def pf_X11_attempt_b85 (v0 : Nat) (v3 : Nat) (s0 : Int32) (σ : St) : Option (Int32 × St) :=
  if s0 = 0 then (
    if (gI σ v3 4) = 0 then (
      pf_X11_attempt_b131 v0 v3 s0 σ
    ) else (
      pf_X11_attempt_b99 v0 v3 s0 σ
    )
  ) else (
    pf_X11_attempt_b99 v0 v3 s0 σ
  )
noncomputable def pf_X11_attempt_b71 (v0 : Nat) (v3 : Nat) (v4 : Int32) (σ : St) : Option (Int32 × St) :=
  if v4 < (gI σ v3 0) then (
    pf_X11_attempt_b85 v0 v3 0 σ
  ) else (
    pf_X11_attempt_b85 v0 v3 1 σ
  )
noncomputable def pf_X11_attempt (v0 : Nat) (v1 : Int32) (v2 : Int32) (σ : St) : Option (Int32 × St) :=
  ckI (v1) (gI σ 1001 2).toNatClampNeg <|
  (pf_X11_done v0 σ).bind fun r_2 =>
  (pf_X11_can v0 v1 r_2 1002 σ).bind fun r_3 =>
  if r_3 = 0 then (
    some (((-1001) : Int32), σ)
  ) else (
    if (0 : Int32) ≤ v2 then (
      pf_X11_attempt_b71 v0 (1005 + 4 * (v1).toNatClampNeg) v2 σ
    ) else (
      bnd (sI σ v0 2 (((gI σ v0 2) * 1103515245) + 12345)) fun σ_4 =>
      bnd (irem ((ishr (gI σ_4 v0 2) 16) &&& 32767) 100) fun v4_5 =>
      pf_X11_attempt_b71 v0 (1005 + 4 * (v1).toNatClampNeg) v4_5 σ_4
    )
  )
