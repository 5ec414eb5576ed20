/-! bits counted in a long -/
def dg (w : Nat) : Nat → (Nat → Nat) → Nat
  | 0, _ => 0
  | k + 1, f => f 0 + 2 ^ w * dg w k (fun j => f (j + 1))
theorem dg_add (w : Nat) : ∀ k f g, dg w k (fun j => f j + g j) = dg w k f + dg w k g
  | 0, _, _ => rfl
  | k + 1, f, g => by
    rw [dg, dg, dg, dg_add w k, Nat.mul_add]; omega
theorem dg_congr (w : Nat) : ∀ k f g, (∀ j, j < k → f j = g j) → dg w k f = dg w k g
  | 0, _, _, _ => rfl
  | k + 1, f, g, h => by
    rw [dg, dg, h 0 (by omega), dg_congr w k _ _ (fun j hj => h (j + 1) (by omega))]
theorem dg_bit (w : Nat) (hw : 0 < w) : ∀ k f i, (∀ j, f j < 2 ^ w) → (dg w k f).testBit i = (decide (i / w < k) && (f (i / w)).testBit (i % w))
  | 0, f, i, _ => by simp [dg]
  | k + 1, f, i, h => by
    rw [dg, Nat.add_comm, Nat.testBit_two_pow_mul_add _ (h 0)]
    by_cases c : i < w
    · rw [if_pos c, Nat.div_eq_of_lt c, Nat.mod_eq_of_lt c]; simp
    · rw [if_neg c, dg_bit w hw k _ _ (fun j => h (j + 1))]
      have e1 : i / w = (i - w) / w + 1 := by
        rw [← Nat.add_div_right _ hw]; congr 1; omega
      have e2 : i % w = (i - w) % w := by
        rw [← Nat.add_mod_right (i - w) w]; congr 1; omega
      rw [e1, e2]
      simp
theorem dg_shm (w s m k : Nat) (f : Nat → Nat) (hw : 0 < w) (hs : s ≤ w) (hm : m < 2 ^ (w - s)) (hf : ∀ j, f j < 2 ^ w) : (dg w k f >>> s) &&& dg w k (fun _ => m) = dg w k (fun j => (f j >>> s) &&& m) := by
  have hm2 : m < 2 ^ w := Nat.lt_of_lt_of_le hm (Nat.pow_le_pow_right (by omega) (by omega))
  have hf2 : ∀ j, (f j >>> s) &&& m < 2 ^ w := fun j => Nat.lt_of_le_of_lt Nat.and_le_right hm2
  apply Nat.eq_of_testBit_eq
  intro i
  rw [Nat.testBit_and, Nat.testBit_shiftRight, dg_bit w hw _ _ _ hf, dg_bit w hw _ _ _ (fun _ => hm2), dg_bit w hw _ _ _ hf2, Nat.testBit_and, Nat.testBit_shiftRight]
  by_cases c : i % w < w - s
  · have e1 : (s + i) / w = i / w := by
      have h1 := Nat.div_add_mod i w
      have : s + i = (s + i % w) + w * (i / w) := by omega
      rw [this, Nat.add_mul_div_left _ _ hw, Nat.div_eq_of_lt (by omega)]; omega
    have e2 : (s + i) % w = s + i % w := by
      have h1 := Nat.div_add_mod i w
      have : s + i = (s + i % w) + w * (i / w) := by omega
      rw [this, Nat.add_mul_mod_self_left, Nat.mod_eq_of_lt (by omega)]
    rw [e1, e2]
    cases decide (i / w < k) <;> simp
  · have : m.testBit (i % w) = false := Nat.testBit_lt_two_pow (Nat.lt_of_lt_of_le hm (Nat.pow_le_pow_right (by omega) (by omega)))
    rw [this]; simp
theorem dg_sh (w k : Nat) (f : Nat → Nat) (hf : f 0 < 2 ^ w) : dg w (k + 1) f >>> w = dg w k (fun j => f (j + 1)) := by
  rw [dg, Nat.shiftRight_eq_div_pow, Nat.add_mul_div_left _ _ (Nat.two_pow_pos w), Nat.div_eq_of_lt hf, Nat.zero_add]
theorem dg_grow (w : Nat) : ∀ k f, f k = 0 → dg w (k + 1) f = dg w k f
  | 0, f, h => by simp [dg, h]
  | k + 1, f, h => by rw [dg, dg_grow w k _ h, dg]
theorem dg_two (w : Nat) : ∀ k f, dg w (2 * k) f = dg (2 * w) k (fun j => f (2 * j) + 2 ^ w * f (2 * j + 1))
  | 0, _ => rfl
  | k + 1, f => by
    rw [show 2 * (k + 1) = (2 * k + 1) + 1 by omega, dg, dg, dg, dg_two w k, Nat.mul_add, Nat.two_mul w, Nat.pow_add]
    have e : (fun j => (fun j => (fun j => f (j + 1)) (j + 1)) (2 * j) + 2 ^ w * (fun j => (fun j => f (j + 1)) (j + 1)) (2 * j + 1)) = (fun j => (fun j => f (2 * j) + 2 ^ w * f (2 * j + 1)) (j + 1)) := by
      funext j
      show f (2 * j + 1 + 1) + 2 ^ w * f (2 * j + 1 + 1 + 1) = f (2 * (j + 1)) + 2 ^ w * f (2 * (j + 1) + 1)
      rw [show 2 * (j + 1) = 2 * j + 1 + 1 by omega]
    rw [e, Nat.mul_assoc]
    exact (Nat.add_assoc _ _ _).symm
theorem dg_lt (w : Nat) : ∀ k f, (∀ j, f j < 2 ^ w) → dg w k f < 2 ^ (w * k)
  | 0, _, _ => by simp [dg]
  | k + 1, f, h => by
    have h1 := dg_lt w k (fun j => f (j + 1)) (fun j => h (j + 1))
    have h0 := h 0
    rw [dg, Nat.mul_succ, Nat.pow_add, Nat.mul_comm (2 ^ (w * k))]
    have : 2 ^ w * (dg w k (fun j => f (j + 1)) + 1) ≤ 2 ^ w * 2 ^ (w * k) := Nat.mul_le_mul_left _ h1
    rw [Nat.mul_add] at this
    omega
theorem dg_bits : ∀ k n, n < 2 ^ k → dg 1 k (fun j => (n.testBit j).toNat) = n
  | 0, n, h => by simp at h; simp [dg, h]
  | k + 1, n, h => by
    have h2 : n / 2 < 2 ^ k := by rw [Nat.pow_succ] at h; omega
    rw [dg, show (fun j => (n.testBit (j + 1)).toNat) = (fun j => ((n / 2).testBit j).toNat) from funext fun j => by rw [Nat.testBit_succ], dg_bits k _ h2]
    rw [Nat.testBit_zero]
    rcases Nat.mod_two_eq_zero_or_one n with e | e
    · simp [e]; omega
    · simp [e]; omega
/-- how many of the first k -/
def cntB (p : Nat → Bool) : Nat → Nat
  | 0 => 0
  | k + 1 => cntB p k + (p k).toNat
theorem cntB_congr {p p' : Nat → Bool} : ∀ k, (∀ j, j < k → p j = p' j) → cntB p k = cntB p' k
  | 0, _ => rfl
  | k + 1, h => by rw [cntB, cntB, cntB_congr k (fun j hj => h j (by omega)), h k (by omega)]
theorem cntB_le {p : Nat → Bool} : ∀ k, cntB p k ≤ k
  | 0 => Nat.le_refl _
  | k + 1 => by
    have := cntB_le (p := p) k
    rw [cntB]
    cases p k <;> simp <;> omega
def sm (c : Nat → Nat) : Nat → Nat
  | 0 => 0
  | k + 1 => sm c k + c k
theorem sm_cnt (p : Nat → Bool) : ∀ k, sm (fun j => (p j).toNat) k = cntB p k
  | 0 => rfl
  | k + 1 => by rw [sm, cntB, sm_cnt p k]
theorem sm_two (c : Nat → Nat) : ∀ k, sm (fun j => c (2 * j) + c (2 * j + 1)) k = sm c (2 * k)
  | 0 => rfl
  | k + 1 => by
    rw [sm, sm_two c k, show 2 * (k + 1) = 2 * k + 1 + 1 by omega, sm, sm]; omega
theorem pc_nat (b : Nat → Nat) (hb : ∀ j, b j ≤ 1) (n v1 v2 v3 v4 v5 v6 : Nat) (hn : n = dg 1 64 b) (h1 : v1 = n - ((n >>> 1) &&& 6148914691236517205)) (h2 : v2 = (v1 &&& 3689348814741910323) + ((v1 >>> 2) &&& 3689348814741910323)) (h3 : v3 = (v2 + (v2 >>> 4)) &&& 1085102592571150095) (h4 : v4 = v3 + (v3 >>> 8)) (h5 : v5 = v4 + (v4 >>> 16)) (h6 : v6 = v5 + (v5 >>> 32)) :
    ((n >>> 1) &&& 6148914691236517205 ≤ n ∧ n < 2 ^ 64) ∧ v2 < 2 ^ 64 ∧ v2 + (v2 >>> 4) < 2 ^ 64 ∧ v4 < 2 ^ 64 ∧ v5 < 2 ^ 64 ∧ v6 < 2 ^ 64 ∧ v6 % 128 = sm b 64 := by
  have m5 : (6148914691236517205 : Nat) = dg 2 32 (fun _ => 1) := by decide +kernel
  have m3 : (3689348814741910323 : Nat) = dg 4 16 (fun _ => 3) := by decide +kernel
  have mf : (1085102592571150095 : Nat) = dg 8 8 (fun _ => 15) := by decide +kernel
  let c1 : Nat → Nat := fun j => b (2 * j) + 2 ^ 1 * b (2 * j + 1)
  have e1 : n = dg 2 32 c1 := hn.trans (dg_two 1 32 b)
  have l1 : ∀ j, c1 j < 2 ^ 2 := fun j => by have := hb (2 * j); have := hb (2 * j + 1); show b (2 * j) + 2 ^ 1 * b (2 * j + 1) < 4; omega
  have s1 : (n >>> 1) &&& 6148914691236517205 = dg 2 32 (fun j => b (2 * j + 1)) := by
    rw [m5, e1, dg_shm 2 1 1 32 c1 (by decide) (by decide) (by decide) l1]
    apply dg_congr
    intro j _
    have := hb (2 * j)
    show ((b (2 * j) + 2 ^ 1 * b (2 * j + 1)) >>> 1) &&& 1 = b (2 * j + 1)
    rw [Nat.and_one_is_mod, Nat.shiftRight_eq_div_pow]
    have := hb (2 * j + 1)
    omega
  let c2 : Nat → Nat := fun j => b (2 * j) + b (2 * j + 1)
  have l2 : ∀ j, c2 j ≤ 2 := fun j => by have := hb (2 * j); have := hb (2 * j + 1); show b (2 * j) + b (2 * j + 1) ≤ 2; omega
  have d1 : n = dg 2 32 c2 + dg 2 32 (fun j => b (2 * j + 1)) := by
    rw [← dg_add, e1]
    apply dg_congr
    intro j _
    show b (2 * j) + 2 ^ 1 * b (2 * j + 1) = b (2 * j) + b (2 * j + 1) + b (2 * j + 1)
    omega
  have e2 : v1 = dg 2 32 c2 := by rw [h1, s1]; omega
  let E4 : Nat → Nat := fun j => c2 (2 * j) + 2 ^ 2 * c2 (2 * j + 1)
  have e3 : v1 = dg 4 16 E4 := e2.trans (dg_two 2 16 c2)
  have l4 : ∀ j, E4 j < 2 ^ 4 := fun j => by have := l2 (2 * j); have := l2 (2 * j + 1); show c2 (2 * j) + 2 ^ 2 * c2 (2 * j + 1) < 16; omega
  let c4 : Nat → Nat := fun j => c2 (2 * j) + c2 (2 * j + 1)
  have k4 : ∀ j, c4 j ≤ 4 := fun j => by have := l2 (2 * j); have := l2 (2 * j + 1); show c2 (2 * j) + c2 (2 * j + 1) ≤ 4; omega
  have and3 : ∀ x, x &&& 3 = x % 4 := fun x => by
    have := Nat.and_two_pow_sub_one_eq_mod x 2
    simpa using this
  have e4 : v2 = dg 4 16 c4 := by
    have a1 := dg_shm 4 0 3 16 E4 (by decide) (by decide) (by decide) l4
    have a2 := dg_shm 4 2 3 16 E4 (by decide) (by decide) (by decide) l4
    rw [Nat.shiftRight_zero] at a1
    rw [h2, e3, m3, a1, a2, ← dg_add]
    apply dg_congr
    intro j _
    have := l2 (2 * j)
    have := l2 (2 * j + 1)
    show ((c2 (2 * j) + 2 ^ 2 * c2 (2 * j + 1)) >>> 0 &&& 3) + ((c2 (2 * j) + 2 ^ 2 * c2 (2 * j + 1)) >>> 2 &&& 3) = c2 (2 * j) + c2 (2 * j + 1)
    rw [and3, and3, Nat.shiftRight_eq_div_pow, Nat.shiftRight_eq_div_pow]
    omega
  let z4 : Nat → Nat := fun j => if j < 16 then c4 j else 0
  have ez : v2 = dg 4 16 z4 := by
    rw [e4]
    apply dg_congr
    intro j hj
    show c4 j = if j < 16 then c4 j else 0
    rw [if_pos hj]
  have kz : ∀ j, z4 j ≤ 4 := fun j => by
    show (if j < 16 then c4 j else 0) ≤ 4
    split
    · exact k4 j
    · omega
  have sh4 : v2 >>> 4 = dg 4 16 (fun j => z4 (j + 1)) := by
    rw [ez, dg_sh 4 15 z4 (by have := kz 0; omega), dg_grow 4 15]
    show (if 15 + 1 < 16 then c4 (15 + 1) else 0) = 0
    rw [if_neg (by omega)]
  have ad4 : v2 + (v2 >>> 4) = dg 4 16 (fun j => z4 j + z4 (j + 1)) := by rw [sh4, dg_add, ← ez]
  have ad8 : v2 + (v2 >>> 4) = dg 8 8 (fun j => (z4 (2 * j) + z4 (2 * j + 1)) + 2 ^ 4 * (z4 (2 * j + 1) + z4 (2 * j + 1 + 1))) := ad4.trans (dg_two 4 8 _)
  let c8 : Nat → Nat := fun j => z4 (2 * j) + z4 (2 * j + 1)
  have k8 : ∀ j, c8 j ≤ 8 := fun j => by have := kz (2 * j); have := kz (2 * j + 1); show z4 (2 * j) + z4 (2 * j + 1) ≤ 8; omega
  have l8 : ∀ j, (z4 (2 * j) + z4 (2 * j + 1)) + 2 ^ 4 * (z4 (2 * j + 1) + z4 (2 * j + 1 + 1)) < 2 ^ 8 := fun j => by
    have := kz (2 * j); have := kz (2 * j + 1); have := kz (2 * j + 1 + 1)
    omega
  have e8 : v3 = dg 8 8 c8 := by
    have a1 := dg_shm 8 0 15 8 (fun j => (z4 (2 * j) + z4 (2 * j + 1)) + 2 ^ 4 * (z4 (2 * j + 1) + z4 (2 * j + 1 + 1))) (by decide) (by decide) (by decide) l8
    rw [Nat.shiftRight_zero] at a1
    rw [h3, ad8, mf, a1]
    apply dg_congr
    intro j _
    have and15 : ∀ x, x &&& 15 = x % 16 := fun x => by
      have := Nat.and_two_pow_sub_one_eq_mod x 4
      simpa using this
    have := kz (2 * j); have := kz (2 * j + 1); have := kz (2 * j + 1 + 1)
    show ((z4 (2 * j) + z4 (2 * j + 1)) + 2 ^ 4 * (z4 (2 * j + 1) + z4 (2 * j + 1 + 1))) >>> 0 &&& 15 = z4 (2 * j) + z4 (2 * j + 1)
    rw [and15, Nat.shiftRight_zero]
    omega
  have q8 : ∀ j, 8 ≤ j → c8 j = 0 := fun j hj => by
    show (if 2 * j < 16 then c4 (2 * j) else 0) + (if 2 * j + 1 < 16 then c4 (2 * j + 1) else 0) = 0
    rw [if_neg (by omega), if_neg (by omega)]
  have x1 : v3 >>> 8 = dg 8 8 (fun j => c8 (j + 1)) := by
    rw [e8, dg_sh 8 7 c8 (by have := k8 0; omega), dg_grow 8 7]
    exact q8 8 (by omega)
  let f4 : Nat → Nat := fun j => c8 j + c8 (j + 1)
  have y4 : v4 = dg 8 8 f4 := by rw [h4, x1, e8, ← dg_add]
  have kf4 : ∀ j, f4 j ≤ 16 := fun j => by have := k8 j; have := k8 (j + 1); show c8 j + c8 (j + 1) ≤ 16; omega
  have qf4 : ∀ j, 8 ≤ j → f4 j = 0 := fun j hj => by
    show c8 j + c8 (j + 1) = 0
    rw [q8 j hj, q8 (j + 1) (by omega)]
  have x2 : v4 >>> 16 = dg 8 8 (fun j => f4 (j + 2)) := by
    rw [show (16 : Nat) = 8 + 8 from rfl, Nat.shiftRight_add, y4, dg_sh 8 7 f4 (by have := kf4 0; omega), dg_sh 8 6 _ (Nat.lt_of_le_of_lt (kf4 1) (by decide)), dg_grow 8 7, dg_grow 8 6]
    · exact qf4 9 (by omega)
    · exact qf4 8 (by omega)
  let f5 : Nat → Nat := fun j => f4 j + f4 (j + 2)
  have y5 : v5 = dg 8 8 f5 := by rw [h5, x2, y4, ← dg_add]
  have kf5 : ∀ j, f5 j ≤ 32 := fun j => by have := kf4 j; have := kf4 (j + 2); show f4 j + f4 (j + 2) ≤ 32; omega
  have qf5 : ∀ j, 8 ≤ j → f5 j = 0 := fun j hj => by
    show f4 j + f4 (j + 2) = 0
    rw [qf4 j hj, qf4 (j + 2) (by omega)]
  have x3 : v5 >>> 32 = dg 8 8 (fun j => f5 (j + 4)) := by
    rw [show (32 : Nat) = 8 + 8 + 8 + 8 from rfl, Nat.shiftRight_add, Nat.shiftRight_add, Nat.shiftRight_add, y5, dg_sh 8 7 f5 (by have := kf5 0; omega), dg_sh 8 6 _ (Nat.lt_of_le_of_lt (kf5 1) (by decide)), dg_sh 8 5 _ (Nat.lt_of_le_of_lt (kf5 2) (by decide)), dg_sh 8 4 _ (Nat.lt_of_le_of_lt (kf5 3) (by decide)), dg_grow 8 7, dg_grow 8 6, dg_grow 8 5, dg_grow 8 4]
    · exact qf5 11 (by omega)
    · exact qf5 10 (by omega)
    · exact qf5 9 (by omega)
    · exact qf5 8 (by omega)
  have y6 : v6 = dg 8 8 (fun j => f5 j + f5 (j + 4)) := by rw [h6, x3, y5, ← dg_add]
  have kf6 : ∀ j, f5 j + f5 (j + 4) < 2 ^ 8 := fun j => by have := kf5 j; have := kf5 (j + 4); omega
  refine ⟨⟨by rw [s1]; omega, ?_⟩, ?_, ?_, ?_, ?_, ?_, ?_⟩
  · rw [e1]; exact dg_lt 2 32 c1 l1
  · rw [e4]; exact dg_lt 4 16 c4 (fun j => by have := k4 j; omega)
  · rw [ad8]; exact dg_lt 8 8 _ l8
  · rw [y4]; exact dg_lt 8 8 f4 (fun j => by have := kf4 j; omega)
  · rw [y5]; exact dg_lt 8 8 f5 (fun j => by have := kf5 j; omega)
  · rw [y6]; exact dg_lt 8 8 _ kf6
  · have t0 : sm b 64 = sm c8 8 := by
      have a1 : sm b (2 * 32) = sm c2 32 := (sm_two b 32).symm
      have a2 : sm c2 (2 * 16) = sm c4 16 := (sm_two c2 16).symm
      have a3 : sm z4 (2 * 8) = sm c8 8 := (sm_two z4 8).symm
      have a4 : ∀ k, k ≤ 16 → sm c4 k = sm z4 k := by
        intro k hk
        induction k with
        | zero => rfl
        | succ k ih =>
          rw [sm, sm, ih (by omega)]
          show _ + c4 k = _ + (if k < 16 then c4 k else 0)
          rw [if_pos (by omega)]
      exact a1.trans (a2.trans ((a4 16 (Nat.le_refl _)).trans a3))
    have t1 : f5 0 + f5 (0 + 4) = sm c8 8 := by
      show (c8 0 + c8 1) + (c8 2 + c8 3) + ((c8 4 + c8 5) + (c8 6 + c8 7)) = sm c8 8
      simp only [sm]; omega
    have t2 : sm c8 8 ≤ 64 := by
      have := k8 0; have := k8 1; have := k8 2; have := k8 3; have := k8 4; have := k8 5; have := k8 6; have := k8 7
      simp only [sm]; omega
    rw [y6, dg, t0, ← t1]
    rw [← t1] at t2
    generalize dg 8 7 _ = R
    omega
theorem n64 (x : Int64) : x.toUInt64.toNat = x.toBitVec.toNat := rfl
theorem lushr_n (x : Int64) (u : Nat) (hu : u < 64) : (lushr x (nI u)).toBitVec.toNat = x.toBitVec.toNat >>> u := by
  unfold lushr
  rw [lsh_nI u hu]
  show (x.toUInt64 >>> UInt64.ofNat u).toNat = _
  rw [UInt64.toNat_shiftRight]
  have a2 : (UInt64.ofNat u).toNat = u := by
    show (BitVec.ofNat 64 u).toNat = u
    rw [BitVec.toNat_ofNat]; exact Nat.mod_eq_of_lt (by omega)
  rw [a2, Nat.mod_eq_of_lt hu]; rfl
theorem and_n (x y : Int64) : (x &&& y).toBitVec.toNat = x.toBitVec.toNat &&& y.toBitVec.toNat := by rw [Int64.toBitVec_and, BitVec.toNat_and]
theorem add_n (x y : Int64) (h : x.toBitVec.toNat + y.toBitVec.toNat < 2 ^ 64) : (x + y).toBitVec.toNat = x.toBitVec.toNat + y.toBitVec.toNat := by rw [Int64.toBitVec_add, BitVec.toNat_add, Nat.mod_eq_of_lt h]
theorem sub_n (x y : Int64) (h : y.toBitVec.toNat ≤ x.toBitVec.toNat) : (x - y).toBitVec.toNat = x.toBitVec.toNat - y.toBitVec.toNat := by
  have := x.toBitVec.isLt
  rw [Int64.toBitVec_sub, BitVec.toNat_sub]
  omega
theorem bc64 (x : Int64) (σ : St) : pf_J13_bitCount_95d88 x σ = some (nI (cntB (gbit x) 64)) := by
  let b : Nat → Nat := fun j => (x.toBitVec.toNat.testBit j).toNat
  have hb : ∀ j, b j ≤ 1 := fun j => by
    show (x.toBitVec.toNat.testBit j).toNat ≤ 1
    cases x.toBitVec.toNat.testBit j <;> decide
  have hn : x.toBitVec.toNat = dg 1 64 b := (dg_bits 64 _ x.toBitVec.isLt).symm
  obtain ⟨⟨p1, _⟩, p2, p3, p4, p5, p6, p7⟩ := pc_nat b hb x.toBitVec.toNat _ _ _ _ _ _ hn rfl rfl rfl rfl rfl rfl
  unfold pf_J13_bitCount_95d88
  simp only [bnd_e]
  have s1 : (x - ((lushr x 1) &&& 6148914691236517205)).toBitVec.toNat = x.toBitVec.toNat - ((x.toBitVec.toNat >>> 1) &&& 6148914691236517205) := by
    have e : ((lushr x 1) &&& 6148914691236517205).toBitVec.toNat = (x.toBitVec.toNat >>> 1) &&& 6148914691236517205 := by
      rw [and_n, show lushr x 1 = lushr x (nI 1) from rfl, lushr_n x 1 (by omega)]; rfl
    rw [sub_n _ _ (by rw [e]; exact p1), e]
  generalize x - ((lushr x 1) &&& 6148914691236517205) = y1 at s1 ⊢
  have s2 : ((y1 &&& 3689348814741910323) + ((lushr y1 2) &&& 3689348814741910323)).toBitVec.toNat = (y1.toBitVec.toNat &&& 3689348814741910323) + ((y1.toBitVec.toNat >>> 2) &&& 3689348814741910323) := by
    have e : ((lushr y1 2) &&& 3689348814741910323).toBitVec.toNat = (y1.toBitVec.toNat >>> 2) &&& 3689348814741910323 := by
      rw [and_n, show lushr y1 2 = lushr y1 (nI 2) from rfl, lushr_n y1 2 (by omega)]; rfl
    have e' : (y1 &&& 3689348814741910323).toBitVec.toNat = y1.toBitVec.toNat &&& 3689348814741910323 := by rw [and_n]; rfl
    rw [add_n _ _ (by rw [e, e', s1]; exact p2), e, e']
  rw [← s1] at p3 p4 p5 p6 p7
  rw [← s2] at p3 p4 p5 p6 p7
  generalize (y1 &&& 3689348814741910323) + ((lushr y1 2) &&& 3689348814741910323) = y2 at s2 p3 p4 p5 p6 p7 ⊢
  have s3 : ((y2 + (lushr y2 4)) &&& 1085102592571150095).toBitVec.toNat = (y2.toBitVec.toNat + (y2.toBitVec.toNat >>> 4)) &&& 1085102592571150095 := by
    have e : (lushr y2 4).toBitVec.toNat = y2.toBitVec.toNat >>> 4 := lushr_n y2 4 (by omega)
    rw [and_n, add_n _ _ (by rw [e]; exact p3), e]; rfl
  rw [← s3] at p4 p5 p6 p7
  generalize (y2 + (lushr y2 4)) &&& 1085102592571150095 = y3 at s3 p4 p5 p6 p7 ⊢
  have s4 : (y3 + (lushr y3 8)).toBitVec.toNat = y3.toBitVec.toNat + (y3.toBitVec.toNat >>> 8) := by
    have e : (lushr y3 8).toBitVec.toNat = y3.toBitVec.toNat >>> 8 := lushr_n y3 8 (by omega)
    rw [add_n _ _ (by rw [e]; exact p4), e]
  rw [← s4] at p5 p6 p7
  generalize y3 + (lushr y3 8) = y4 at s4 p5 p6 p7 ⊢
  have s5 : (y4 + (lushr y4 16)).toBitVec.toNat = y4.toBitVec.toNat + (y4.toBitVec.toNat >>> 16) := by
    have e : (lushr y4 16).toBitVec.toNat = y4.toBitVec.toNat >>> 16 := lushr_n y4 16 (by omega)
    rw [add_n _ _ (by rw [e]; exact p5), e]
  rw [← s5] at p6 p7
  generalize y4 + (lushr y4 16) = y5 at s5 p6 p7 ⊢
  have s6 : (y5 + (lushr y5 32)).toBitVec.toNat = y5.toBitVec.toNat + (y5.toBitVec.toNat >>> 32) := by
    have e : (lushr y5 32).toBitVec.toNat = y5.toBitVec.toNat >>> 32 := lushr_n y5 32 (by omega)
    rw [add_n _ _ (by rw [e]; exact p6), e]
  rw [← s6] at p7
  generalize y5 + (lushr y5 32) = y6 at s6 p7 ⊢
  have hc : sm b 64 = cntB (gbit x) 64 := sm_cnt (fun j => x.toBitVec.toNat.testBit j) 64
  rw [← hc, ← p7]
  congr 1
  apply Int32.toBitVec_inj.mp
  apply BitVec.eq_of_toNat_eq
  rw [Int32.toBitVec_and, BitVec.toNat_and]
  show (y6.toBitVec.signExtend 32).toNat &&& 127 = (BitVec.ofNat 32 (y6.toBitVec.toNat % 128)).toNat
  rw [BitVec.toNat_ofNat, Nat.mod_eq_of_lt (show y6.toBitVec.toNat % 128 < 2 ^ 32 by omega)]
  have and127 : ∀ z, z &&& 127 = z % 128 := fun z => by
    have := Nat.and_two_pow_sub_one_eq_mod z 7
    simpa using this
  rw [and127]
  have : (y6.toBitVec.signExtend 32).toNat = y6.toBitVec.toNat % 2 ^ 32 := by
    rw [BitVec.signExtend_eq_setWidth_of_le _ (by decide), BitVec.toNat_setWidth]
  rw [this]
  omega
