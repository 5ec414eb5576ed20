/-! THE PURE SIDE: the text goes into the class's buffer -/
def chN (t : List Nat) (k : Nat) : Nat := if k < t.length then t.getD k 0 else 32
theorem chF_N (t : List Nat) (k : Nat) : chF t k = nI (chN t k) := by
  unfold chF chN
  split
  · rfl
  · rfl
theorem chN_lt {t : List Nat} (h : asc t) (k : Nat) : chN t k < 128 := by
  unfold chN
  split
  · exact h k
  · decide
theorem ishl8 (m : Nat) : ishl (nI m) 8 = nI (m * 256) := by
  apply Int32.toBitVec_inj.mp
  show BitVec.ofNat 32 m <<< (8 : Nat) = BitVec.ofNat 32 (m * 256)
  apply BitVec.eq_of_toNat_eq
  simp [BitVec.toNat_shiftLeft, Nat.shiftLeft_eq]
theorem pack1 {m d : Nat} (hd : d < 256) : ishl (nI m) 8 ||| nI d = nI (m * 256 + d) := by
  rw [ishl8, or_nI]
  congr 1
  have := Nat.two_pow_add_eq_or_of_lt (i := 8) (b := d) (by omega) m
  rw [show (2 : Nat) ^ 8 = 256 from rfl, Nat.mul_comm 256 m] at this
  exact this.symm
def pkW (t : List Nat) (p : Nat) : Nat → Nat
  | 0 => 0
  | n + 1 => pkW t p n * 256 + chN t (p + n)
theorem wS_pk {t : List Nat} (h : asc t) (i : Nat) : ∀ m, ∀ w, wS t i m w = nI (pkW t (i + 4 * w) (min 4 (m - 4 * w)))
  | 0, w => by
    rw [show min 4 (0 - 4 * w) = 0 by omega]; rfl
  | m + 1, w => by
    show upd (wS t i m) (m / 4) (ishl (wS t i m (m / 4)) 8 ||| chF t (i + m)) w = _
    by_cases c : w = m / 4
    · rw [upd_y c, wS_pk h i m (m / 4), chF_N, pack1 (Nat.lt_trans (chN_lt h _) (by omega)), c]
      rw [show min 4 (m + 1 - 4 * (m / 4)) = min 4 (m - 4 * (m / 4)) + 1 by omega]
      show nI _ = nI (pkW t (i + 4 * (m / 4)) (min 4 (m - 4 * (m / 4))) * 256 + chN t (i + 4 * (m / 4) + min 4 (m - 4 * (m / 4))))
      rw [show i + 4 * (m / 4) + min 4 (m - 4 * (m / 4)) = i + m by omega]
    · rw [upd_n c, wS_pk h i m w]
      congr 2
      omega
theorem wS_20 {t : List Nat} (h : asc t) (i : Nat) {w : Nat} (hw : w < 5) : wS t i 20 w = nI (((chN t (i + 4 * w) * 256 + chN t (i + 4 * w + 1)) * 256 + chN t (i + 4 * w + 2)) * 256 + chN t (i + 4 * w + 3)) := by
  rw [wS_pk h i 20 w, show min 4 (20 - 4 * w) = 4 by omega]
  show nI ((((0 * 256 + chN t (i + 4 * w + 0)) * 256 + chN t (i + 4 * w + 1)) * 256 + chN t (i + 4 * w + 2)) * 256 + chN t (i + 4 * w + 3)) = _
  rw [Nat.zero_mul, Nat.zero_add, Nat.add_zero]
theorem bt_pk {a b c d : Nat} (ha : a < 128) (hb : b < 128) (hc : c < 128) (hd : d < 128) : ∀ k, k < 4 → bt (nI (((a * 256 + b) * 256 + c) * 256 + d)) k = nI (if k = 0 then a else if k = 1 then b else if k = 2 then c else d) := by
  intro k hk
  unfold bt
  rw [sh_lit k hk, iushr_nI (by omega) (by omega), pk_andN (Nat.lt_of_le_of_lt (by rw [Nat.shiftRight_eq_div_pow]; exact Nat.div_le_self _ _) (by omega)) 8 (by decide), Nat.shiftRight_eq_div_pow]
  congr 1
  rcases (by omega : k = 0 ∨ k = 1 ∨ k = 2 ∨ k = 3) with rfl | rfl | rfl | rfl
  · show (((a * 256 + b) * 256 + c) * 256 + d) / 16777216 % 256 = a
    omega
  · show (((a * 256 + b) * 256 + c) * 256 + d) / 65536 % 256 = b
    omega
  · show (((a * 256 + b) * 256 + c) * 256 + d) / 256 % 256 = c
    omega
  · show (((a * 256 + b) * 256 + c) * 256 + d) / 1 % 256 = d
    omega
theorem Bc.cg {σ : St} {f : Nat} {W W' : Nat → Int32} (h : Bc σ f W) (e : ∀ k, k < f → W k = W' k) : Bc σ f W' := ⟨h.1, fun k hk => (h.2 k hk).trans (e k hk)⟩
theorem word_ok {t : List Nat} (ht : asc t) {σ : St} {i w : Nat} (hw : w < 5) (hf : i + 4 * w + 4 ≤ 800) (h : Bc σ (i + 4 * w) (chF t)) : ∃ σ', pf_X10_appendWord 0 (wS t i 20 w) σ = some σ' ∧ Un (fun i => i = 0 ∨ i = 1) σ σ' ∧ (∀ k, k ≠ 1 → gI σ' 0 k = gI σ 0 k) ∧ Bc σ' (i + 4 * (w + 1)) (chF t) := by
  obtain ⟨σ', e1, e2, e3, e4⟩ := wordC (wS t i 20 w) hf h
  refine ⟨σ', e1, e2, e3, ?_⟩
  rw [show i + 4 * (w + 1) = i + 4 * w + 4 by omega]
  refine e4.cg fun k hk => ?_
  unfold wx
  by_cases c : k < i + 4 * w
  · rw [if_pos c]
  · rw [if_neg c, wS_20 ht i hw, bt_pk (chN_lt ht _) (chN_lt ht _) (chN_lt ht _) (chN_lt ht _) _ (by omega), chF_N]
    congr 1
    rcases (by omega : k = i + 4 * w ∨ k = i + 4 * w + 1 ∨ k = i + 4 * w + 2 ∨ k = i + 4 * w + 3) with rfl | rfl | rfl | rfl
    · rw [if_pos (by omega)]
    · rw [if_neg (by omega), if_pos (by omega)]
    · rw [if_neg (by omega), if_neg (by omega), if_pos (by omega)]
    · rw [if_neg (by omega), if_neg (by omega), if_neg (by omega)]
theorem app_ok {t : List Nat} (ht : asc t) {σ : St} {i : Nat} (hf : i + 20 ≤ 800) (h : Bc σ i (chF t)) : ∃ σ', pf_X10_append 0 (wS t i 20 0) (wS t i 20 1) (wS t i 20 2) (wS t i 20 3) (wS t i 20 4) σ = some (nI (i + 20), σ') ∧ Un (fun i => i = 0 ∨ i = 1) σ σ' ∧ (∀ k, k ≠ 1 → gI σ' 0 k = gI σ 0 k) ∧ Bc σ' (i + 20) (chF t) := by
  obtain ⟨σ0, a0, b0, c0, d0⟩ := word_ok ht (i := i) (w := 0) (by omega) (by omega) h
  obtain ⟨σ1, a1, b1, c1, d1⟩ := word_ok ht (i := i) (w := 0 + 1) (by omega) (by omega) d0
  obtain ⟨σ2, a2, b2, c2, d2⟩ := word_ok ht (i := i) (w := 0 + 1 + 1) (by omega) (by omega) d1
  obtain ⟨σ3, a3, b3, c3, d3⟩ := word_ok ht (i := i) (w := 0 + 1 + 1 + 1) (by omega) (by omega) d2
  obtain ⟨σ4, a4, b4, c4, d4⟩ := word_ok ht (i := i) (w := 0 + 1 + 1 + 1 + 1) (by omega) (by omega) d3
  refine ⟨σ4, ?_, b0.trans (b1.trans (b2.trans (b3.trans b4))), fun k hk => by rw [c4 k hk, c3 k hk, c2 k hk, c1 k hk, c0 k hk], d4⟩
  unfold pf_X10_append
  rw [h.1, show nI i + 20 = nI (i + 20) from nI_add i 20, if_pos (show nI (i + 20) ≤ (800 : Int32) from nI_le (b := 800) hf (by omega)), a0, bind_some, show pf_X10_appendWord 0 (wS t i 20 1) σ0 = _ from a1, bind_some, show pf_X10_appendWord 0 (wS t i 20 2) σ1 = _ from a2, bind_some, show pf_X10_appendWord 0 (wS t i 20 3) σ2 = _ from a3, bind_some, show pf_X10_appendWord 0 (wS t i 20 4) σ3 = _ from a4, bind_some, d4.1]
theorem feed_ok {t : List Nat} (ht : asc t) (hL : t.length ≤ 780) : ∀ (j i : Nat) (fed : Nat) (σ : St), Bc σ i (chF t) → t.length ≤ i + 20 * j → i + 20 * j ≤ 800 → fed ≤ 800 → ∃ r σ', feedF t (j + 1) i (nI fed) σ = some (nI r, σ') ∧ r ≤ 800 ∧ Un (fun i => i = 0 ∨ i = 1) σ σ' ∧ (∀ k, k ≠ 1 → gI σ' 0 k = gI σ 0 k) ∧ ∃ f, t.length ≤ f ∧ f ≤ 800 ∧ Bc σ' f (chF t)
  | 0, i, fed, σ, h, h1, h2, h3 => by
    refine ⟨fed, σ, ?_, h3, Un.refl _ _, fun _ _ => rfl, i, by omega, by omega, h⟩
    rw [feedF, if_pos (by omega)]
  | j + 1, i, fed, σ, h, h1, h2, h3 => by
    by_cases c : t.length ≤ i
    · refine ⟨fed, σ, ?_, h3, Un.refl _ _, fun _ _ => rfl, i, c, by omega, h⟩
      rw [feedF, if_pos c]
    · obtain ⟨σ1, a1, b1, c1, d1⟩ := app_ok ht (i := i) (by omega) h
      obtain ⟨r, σ', e1, e2, e3, e4, e5⟩ := feed_ok ht hL j (i + 20) (i + 20) σ1 d1 (by omega) (by omega) (by omega)
      refine ⟨r, σ', ?_, e2, b1.trans e3, fun k hk => by rw [e4 k hk, c1 k hk], e5⟩
      rw [feedF, if_neg c, a1, bind_some]
      exact e1
