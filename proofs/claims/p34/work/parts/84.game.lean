/-! THE GAME of a quest, out of a row: what can be tried, by numbers -/
def iI (z : Int) : Int32 := Int32.ofInt z
theorem iI_nat (n : Nat) : iI (n : Int) = nI n := by
  apply Int32.toBitVec_inj.mp
  show BitVec.ofInt 32 (n : Int) = BitVec.ofNat 32 n
  exact BitVec.ofInt_natCast 32 n
theorem iI_add (a b : Int) : iI a + iI b = iI (a + b) := by
  apply Int32.toBitVec_inj.mp
  show BitVec.ofInt 32 a + BitVec.ofInt 32 b = BitVec.ofInt 32 (a + b)
  exact (BitVec.ofInt_add a b).symm
theorem iI_neg (a : Int) : -iI a = iI (-a) := by
  apply Int32.toBitVec_inj.mp
  show -BitVec.ofInt 32 a = BitVec.ofInt 32 (-a)
  exact BitVec.ofInt_neg.symm
theorem iI_sub (a b : Int) : iI a - iI b = iI (a - b) := by
  rw [Int32.sub_eq_add_neg, iI_neg, iI_add]; rfl
theorem iI_toInt {z : Int} (h1 : -2147483648 ≤ z) (h2 : z < 2147483648) : (iI z).toInt = z := by
  show (BitVec.ofInt 32 z).toInt = z
  rw [BitVec.toInt_ofInt, Int.bmod_def]
  split <;> omega
theorem iI_lt {a b : Int} (h1 : -2147483648 ≤ a) (h2 : a < 2147483648) (h3 : -2147483648 ≤ b) (h4 : b < 2147483648) : (iI a < iI b) = (a < b) := by
  rw [Int32.lt_iff_toInt_lt, iI_toInt h1 h2, iI_toInt h3 h4]
theorem iI_le {a b : Int} (h1 : -2147483648 ≤ a) (h2 : a < 2147483648) (h3 : -2147483648 ≤ b) (h4 : b < 2147483648) : (iI a ≤ iI b) = (a ≤ b) := by
  rw [Int32.le_iff_toInt_le, iI_toInt h1 h2, iI_toInt h3 h4]
theorem at_ok {p k N : Nat} {σ : St} (e : alen p = N) (h : k < N) : pf_X10_at p (nI k) σ = some (gI σ p k) := by
  have := alen_lt p
  unfold pf_X10_at
  rw [if_neg (nI_pos (by omega)), if_neg (nI_ge (by omega) (by omega)), ckA e h, nI_clamp (by omega)]
theorem put_ok {p k N : Nat} {v : Int32} {σ : St} (e : alen p = N) (h : k < N) : pf_X10_put p (nI k) v σ = some (sI σ p k v) := by
  have := alen_lt p
  unfold pf_X10_put
  rw [if_neg (nI_pos (by omega)), if_neg (nI_ge (by omega) (by omega)), ckA e h, nI_clamp (by omega)]
  rfl
theorem fill_ok (p : Nat) (v : Int32) (σ : St) : ∃ σ', pf_J7_fill_53178 p v σ = some σ' ∧ Un (fun i => i = p) σ σ' ∧ ∀ k, k < alen p → gI σ' p k = v := by
  have hN := alen_lt p
  generalize hA : alen p = N at hN
  unfold pf_J7_fill_53178
  rw [hA, bnd_e]
  refine up_C (fun n i s => pf_J7_fill_53178_L5 n p v (nI i) (nI N) s) N (fun i s => Un (fun i => i = p) σ s ∧ ∀ k, k < i → gI s p k = v) (fun r => ∃ σ', r = some σ' ∧ Un (fun i => i = p) σ σ' ∧ ∀ k, k < N → gI σ' p k = v) ?_ ?_ FU 0 σ (Nat.zero_le _) ⟨Un.refl _ _, fun k hk => absurd hk (Nat.not_lt_zero _)⟩ (lt_FU (by omega))
  · intro n s ⟨h1, h2⟩
    refine ⟨s, ?_, h1, h2⟩
    show pf_J7_fill_53178_L5 (n + 1) p v (nI N) (nI N) s = some s
    rw [pf_J7_fill_53178_L5, if_pos (nI_le (Nat.le_refl _) (by omega))]
  · intro n i s hi ⟨h1, h2⟩
    refine Or.inr ⟨sI s p i v, ?_, h1.trans (Un.sI _ _ rfl), fun k hk => ?_⟩
    · show pf_J7_fill_53178_L5 (n + 1) p v (nI i) (nI N) s = pf_J7_fill_53178_L5 n p v (nI (i + 1)) (nI N) _
      rw [pf_J7_fill_53178_L5, if_neg (nI_ge hi (by omega)), ckA hA hi]
      simp only [bnd_e, nI_clamp (show i < 2 ^ 31 by omega), nI_1]
    · by_cases e : k = i
      · subst e; rw [gI_at]
      · rw [gI_ns _ _ _ e]; exact h2 k (by omega)
/-! bits of a long -/
theorem lsh_nI : ∀ u, u < 64 → (nI u).toInt64.toUInt64 &&& Int64.toUInt64 63 = UInt64.ofNat u := by decide +kernel
theorem gbit_nat (g : Int64) (u : Nat) : gbit g u = g.toBitVec.toNat.testBit u := rfl
theorem lushr_bit (g : Int64) {u : Nat} (hu : u < 64) : (lushr g (nI u) &&& 1 = 0) = (gbit g u = false) := by
  unfold lushr
  rw [lsh_nI u hu, gbit_nat]
  have e1 : ((g.toUInt64 >>> UInt64.ofNat u).toInt64 &&& 1 : Int64).toBitVec.toNat = (g.toBitVec.toNat >>> u) % 2 := by
    rw [Int64.toBitVec_and, BitVec.toNat_and]
    show (g.toUInt64 >>> UInt64.ofNat u).toNat &&& 1 = _
    rw [UInt64.toNat_shiftRight, Nat.and_one_is_mod]
    have a2 : (UInt64.ofNat u).toNat = u := by
      show (BitVec.ofNat 64 u).toNat = u
      rw [BitVec.toNat_ofNat]; exact Nat.mod_eq_of_lt (by omega)
    rw [a2, Nat.mod_eq_of_lt hu]
    rfl
  have e2 : ((g.toUInt64 >>> UInt64.ofNat u).toInt64 &&& 1 = 0) = ((g.toBitVec.toNat >>> u) % 2 = 0) := by
    rw [← e1]
    apply propext
    constructor
    · intro h; rw [h]; rfl
    · intro h
      apply Int64.toBitVec_inj.mp
      exact BitVec.eq_of_toNat_eq h
  rw [e2, Nat.testBit, Nat.one_and_eq_mod_two]
  simp
theorem gbit_or (a b : Int64) (u : Nat) : gbit (a ||| b) u = (gbit a u || gbit b u) := by
  unfold gbit
  rw [Int64.toBitVec_or, BitVec.getLsbD_or]
theorem gbit_and (a b : Int64) (u : Nat) : gbit (a &&& b) u = (gbit a u && gbit b u) := by
  unfold gbit
  rw [Int64.toBitVec_and, BitVec.getLsbD_and]
theorem gbit_one : ∀ d, d < 64 → ∀ t, t < 64 → gbit (lshl 1 (nI d)) t = decide (t = d) := by decide +kernel
theorem gbit_0 (t : Nat) : gbit 0 t = false := by
  unfold gbit
  show (0#64).getLsbD t = false
  exact BitVec.getLsbD_zero
/-! differences of sets -/
def df (u d : Nat) : Nat := msk 6 (fun k => u.testBit k && !d.testBit k)
theorem df_bit (u d k : Nat) : (df u d).testBit k = (decide (k < 6) && (u.testBit k && !d.testBit k)) := msk_bit _ _ _
theorem df_64 (u d : Nat) : df u d < 64 := msk_64 _ (Nat.le_refl _)
theorem df_nI : ∀ u, u < 64 → ∀ d, d < 64 → nI u &&& (nI d ^^^ (-1)) = nI (df u d) := by decide +kernel
theorem df_nx {u d s : Nat} (hs : s < 6) (hd : d.testBit s = false) : df (nx u s) d = nx (df u d) s := by
  apply Nat.eq_of_testBit_eq
  intro k
  rw [df_bit, nx_bit, nx_bit, df_bit]
  by_cases h : k = s
  · subst h; simp [hs, hd]
  · simp [h]
theorem df_self (d : Nat) : df d d = 0 := by
  apply Nat.eq_of_testBit_eq
  intro k
  rw [df_bit]; simp
theorem lt64_bit {u : Nat} (h : u < 64) {k : Nat} (hk : 6 ≤ k) : u.testBit k = false := Nat.testBit_lt_two_pow (Nat.lt_of_lt_of_le h (by have := Nat.pow_le_pow_right (n := 2) (by omega) hk; omega))
/-! the numbers of a quest -/
def nS (rd : Nat → Int32) (b : Nat) : Nat := Nn (rd b)
def cR (rd : Nat → Int32) (b s : Nat) : Nat := Nn (rd (b + 6 + 30 * s))
def cA (rd : Nat → Int32) (b s : Nat) : Nat := Nn (rd (b + 6 + 30 * s + 4))
def cB (rd : Nat → Int32) (b s : Nat) : Bool := decide (Nn (rd (b + 6 + 30 * s + 2)) = Nn (rd (b + 6 + 30 * s + 1)))
def cU (rd : Nat → Int32) (b s i : Nat) : Nat := Nn (rd (b + 6 + 30 * s + 6 + i))
def cN (rd : Nat → Int32) (b s i : Nat) : Nat := Nn (rd (b + 6 + 30 * s + 14 + i))
def cG (rd : Nat → Int32) (b s i : Nat) : Nat := Nn (rd (b + 6 + 30 * s + 22 + i))
def allI (rd : Nat → Int32) (b : Nat) (Z : Nat → Int) (s : Nat) : Bool := (List.range 8).all fun i => decide ((cU rd b s i : Int) ≤ Z i) && decide ((cN rd b s i : Int) ≤ Z i)
theorem allI_iff {rd : Nat → Int32} {b : Nat} {Z : Nat → Int} {s : Nat} : allI rd b Z s = true ↔ ∀ i, i < 8 → (cU rd b s i : Int) ≤ Z i ∧ (cN rd b s i : Int) ≤ Z i := by
  unfold allI
  simp [List.all_eq_true]
/-- why a step cannot be tried behind the set u with the stocks Z -/
def hcode (rd : Nat → Int32) (b : Nat) (Z : Nat → Int) (u s : Nat) : Nat := if u.testBit s then 2 else if cB rd b s then 3 else if df (cA rd b s) u ≠ 0 then 4 else if allI rd b Z s then 0 else 5
def bhs (rd : Nat → Int32) (b m i : Nat) : Nat → Int
  | 0 => 0
  | k + 1 => bhs rd b m i k + (if m.testBit k then (cG rd b k i : Int) - cU rd b k i else 0)
/-- the stock behind the steps m -/
def bh (rd : Nat → Int32) (b : Nat) (S : Nat → Int) (m i : Nat) : Int := S i + bhs rd b m i (nS rd b)
def cnR (rd : Nat → Int32) (b : Nat) (S : Nat → Int) (d u s : Nat) : Bool := decide (s < nS rd b) && decide (hcode rd b (bh rd b S (df u d)) u s = 0)
theorem cnR_s {rd : Nat → Int32} {b : Nat} {S : Nat → Int} {d u s : Nat} (h : cnR rd b S d u s = true) : s < nS rd b ∧ hcode rd b (bh rd b S (df u d)) u s = 0 := by
  unfold cnR at h
  rw [Bool.and_eq_true, decide_eq_true_eq, decide_eq_true_eq] at h
  exact h
theorem cnR_ok {rd : Nat → Int32} {b : Nat} {S : Nat → Int} {d : Nat} (hn : nS rd b ≤ 6) : OKc (cnR rd b S d) := by
  intro u s h
  obtain ⟨h1, h2⟩ := cnR_s h
  refine ⟨by omega, ?_⟩
  unfold hcode at h2
  cases e : u.testBit s with
  | false => rfl
  | true => rw [e] at h2; simp at h2
theorem VQ.n {rd : Nat → Int32} {b : Nat} (v : VQ rd b) : nS rd b ≤ 6 ∧ 1 ≤ nS rd b := ⟨v.1.1.2, v.1.2⟩
theorem VQ.s {rd : Nat → Int32} {b s : Nat} (v : VQ rd b) (h : s < nS rd b) : VS rd (b + 6 + 30 * s) s := v.2.2.2.2.2 s h
theorem VQ.cR {rd : Nat → Int32} {b s : Nat} (v : VQ rd b) (h : s < nS rd b) : rd (b + 6 + 30 * s) = nI (cR rd b s) ∧ _root_.id (cR rd b s ≤ 100) := ⟨(v.s h).1.1, (v.s h).1.2⟩
theorem VQ.cA {rd : Nat → Int32} {b s : Nat} (v : VQ rd b) (h : s < nS rd b) : rd (b + 6 + 30 * s + 4) = nI (cA rd b s) ∧ _root_.id (cA rd b s < 64) := ⟨(v.s h).2.2.2.2.1.1.1, Nat.lt_of_le_of_lt (v.s h).2.2.2.2.1.1.2 (by decide)⟩
theorem VQ.cU {rd : Nat → Int32} {b s i : Nat} (v : VQ rd b) (h : s < nS rd b) (hi : i < 8) : rd (b + 6 + 30 * s + 6 + i) = nI (cU rd b s i) ∧ _root_.id (cU rd b s i ≤ 99) := ⟨((v.s h).2.2.2.2.2.2 i (by omega)).1, ((v.s h).2.2.2.2.2.2 i (by omega)).2⟩
theorem VQ.cN {rd : Nat → Int32} {b s i : Nat} (v : VQ rd b) (h : s < nS rd b) (hi : i < 8) : rd (b + 6 + 30 * s + 14 + i) = nI (cN rd b s i) ∧ _root_.id (cN rd b s i ≤ 99) := by
  have q := (v.s h).2.2.2.2.2.2 (8 + i) (by omega)
  rw [show b + 6 + 30 * s + 6 + (8 + i) = b + 6 + 30 * s + 14 + i by omega] at q
  exact ⟨q.1, q.2⟩
theorem VQ.cG {rd : Nat → Int32} {b s i : Nat} (v : VQ rd b) (h : s < nS rd b) (hi : i < 8) : rd (b + 6 + 30 * s + 22 + i) = nI (cG rd b s i) ∧ _root_.id (cG rd b s i ≤ 99) := by
  have q := (v.s h).2.2.2.2.2.2 (16 + i) (by omega)
  rw [show b + 6 + 30 * s + 6 + (16 + i) = b + 6 + 30 * s + 22 + i by omega] at q
  exact ⟨q.1, q.2⟩
theorem bhs_bound {rd : Nat → Int32} {b m i : Nat} (v : VQ rd b) (hi : i < 8) : ∀ k, k ≤ nS rd b → -(99 * k : Int) ≤ bhs rd b m i k ∧ bhs rd b m i k ≤ 99 * k
  | 0, _ => ⟨by simp [bhs], by simp [bhs]⟩
  | k + 1, h => by
    have ih := bhs_bound (m := m) v hi k (by omega)
    have h1 := (v.cU (show k < nS rd b by omega) hi).2
    have h2 := (v.cG (show k < nS rd b by omega) hi).2
    simp only [_root_.id] at h1 h2
    rw [bhs]
    split <;> omega
theorem bh_bound {rd : Nat → Int32} {b m i : Nat} {S : Nat → Int} (v : VQ rd b) (hi : i < 8) : S i - 594 ≤ bh rd b S m i ∧ bh rd b S m i ≤ S i + 594 := by
  have h := bhs_bound (m := m) v hi (nS rd b) (Nat.le_refl _)
  have := v.n
  unfold bh
  omega
theorem bhs_nx {rd : Nat → Int32} {b m i s : Nat} (h : m.testBit s = false) : ∀ k, bhs rd b (nx m s) i k = bhs rd b m i k + (if s < k then (cG rd b s i : Int) - cU rd b s i else 0)
  | 0 => by simp [bhs]
  | k + 1 => by
    rw [bhs, bhs, bhs_nx h k, nx_bit]
    by_cases e : k = s
    · subst e
      simp [h]
    · by_cases e2 : s < k
      · rw [if_pos e2, if_pos (show s < k + 1 by omega)]
        cases m.testBit k <;> simp [e]
        omega
      · rw [if_neg e2, if_neg (show ¬ s < k + 1 by omega)]
        cases m.testBit k <;> simp [e]
theorem bh_nx {rd : Nat → Int32} {b m i s : Nat} {S : Nat → Int} (h : m.testBit s = false) (hs : s < nS rd b) : bh rd b S (nx m s) i = bh rd b S m i - cU rd b s i + cG rd b s i := by
  unfold bh
  rw [bhs_nx h, if_pos hs]
  omega
theorem bh_0 {rd : Nat → Int32} {b i : Nat} {S : Nat → Int} : bh rd b S 0 i = S i := by
  unfold bh
  have : ∀ k, bhs rd b 0 i k = 0 := by
    intro k
    induction k with
    | zero => rfl
    | succ k ih => rw [bhs, ih]; simp
  rw [this]; omega
/-- more of the items: what could be tried still can -/
theorem cnR_mono {rd : Nat → Int32} {b d : Nat} {S S' : Nat → Int} (h : ∀ i, i < 8 → S i ≤ S' i) : ∀ u s, cnR rd b S d u s = true → cnR rd b S' d u s = true := by
  intro u s hc
  obtain ⟨h1, h2⟩ := cnR_s hc
  unfold cnR
  rw [Bool.and_eq_true, decide_eq_true_eq, decide_eq_true_eq]
  refine ⟨h1, ?_⟩
  unfold hcode at h2 ⊢
  split at h2
  · exact absurd h2 (by decide)
  · split at h2
    · exact absurd h2 (by decide)
    · split at h2
      · exact absurd h2 (by decide)
      · split at h2
        · rename_i a1 a2 a3 a4
          rw [if_neg a1, if_neg a2, if_neg a3, if_pos]
          rw [allI_iff] at a4 ⊢
          intro i hi
          have := a4 i hi
          have := h i hi
          unfold bh at *
          omega
        · exact absurd h2 (by decide)
