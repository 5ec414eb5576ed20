/-! THE PURE SIDE: the row that the law's text stands for -/
def glen (so n : Nat) : Nat := if so = 0 then n + 1 else if so = 1 then 5 else 3
def gcd2 (so le n k : Nat) : Nat × Nat := if so = 0 then (if k < n then (0, k) else (3, le * 1000 + n)) else if so = 1 then (if k < 3 then (0, k) else if k = 3 then (1, 0) else (2, 0)) else (if k < 2 then (0, k) else (1, 0))
def stF (D : GD) (n s r : Nat) : Int32 := if s < n then (if r = 0 then nI (D.ri s) else if r = 1 then nI (D.li s) else if r = 4 then nI (D.af s) else if r = 5 then (if D.co s then 1 else 0) else if 6 ≤ r then (if (r - 6) % 8 < 3 then nI (D.am ((r - 6) / 8) s ((r - 6) % 8)) else 0) else 0) else 0
def rdL (D : GD) (sd so le n : Nat) (sk : Nat → Nat) : Nat → Int32 := fun j =>
  if j < 5 then (if j = 0 then nI 1 else if j = 1 then nI sd else 0)
  else if j < 13 then (if j < 8 then nI (sk (j - 5)) else 0)
  else if j < 53 then 0
  else if j < 59 then (if j = 53 then nI n else if j = 55 then nI 1 else if j = 56 then nI 7 else if j = 58 then nI (glen so n) else 0)
  else if j < 239 then stF D n ((j - 59) / 30) ((j - 59) % 30)
  else if j < 2769 then 0
  else if (j - 2769) % 2 = 0 then nI (gcd2 so le n ((j - 2769) / 2)).1 else nI (gcd2 so le n ((j - 2769) / 2)).2
section
variable {D : GD} {sd so le n : Nat} {sk : Nat → Nat}
theorem rdL_st {s r : Nat} (hs : s < 6) (hr : r < 30) : rdL D sd so le n sk (53 + 186 * 0 + 6 + 30 * s + r) = stF D n s r := by
  unfold rdL
  rw [if_neg (by omega), if_neg (by omega), if_neg (by omega), if_neg (by omega), if_pos (by omega)]
  congr 1
  · omega
  · omega
theorem rdL_g (k : Nat) : rdL D sd so le n sk (2769 + 2 * k) = nI (gcd2 so le n k).1 ∧ rdL D sd so le n sk (2769 + 2 * k + 1) = nI (gcd2 so le n k).2 := by
  unfold rdL
  constructor
  · rw [if_neg (by omega), if_neg (by omega), if_neg (by omega), if_neg (by omega), if_neg (by omega), if_neg (by omega), if_pos (by omega), show (2769 + 2 * k - 2769) / 2 = k by omega]
  · rw [if_neg (by omega), if_neg (by omega), if_neg (by omega), if_neg (by omega), if_neg (by omega), if_neg (by omega), if_neg (by omega), show (2769 + 2 * k + 1 - 2769) / 2 = k by omega]
theorem rdL_s {i : Nat} (hi : i < 8) : rdL D sd so le n sk (5 + i) = if i < 3 then nI (sk i) else 0 := by
  unfold rdL
  rw [if_neg (by omega), if_pos (by omega), show 5 + i - 5 = i by omega]
  by_cases c : i < 3
  · rw [if_pos (by omega), if_pos c]
  · rw [if_neg (by omega), if_neg c]
/-- the goal's code, without the row -/
def evP (so le n u : Nat) : Nat → Nat → List Bool → Option (List Bool)
  | 0, _, st => some st
  | j + 1, k, st => (stG u (gcd2 so le n k).1 (gcd2 so le n k).2 st).bind (evP so le n u j (k + 1))
theorem gcd2_lt (hle : le ≤ 6) (hn : n ≤ 6) (k : Nat) (hk : k < 800) : (gcd2 so le n k).1 ≤ 3 ∧ (gcd2 so le n k).2 ≤ 100000 := by
  unfold gcd2
  repeat' split
  all_goals simp
  all_goals omega
theorem evG_P (hle : le ≤ 6) (hn : n ≤ 6) (u : Nat) : ∀ j k st, k + j ≤ 800 → evG (rdL D sd so le n sk) u j k st = evP so le n u j k st
  | 0, _, _, _ => rfl
  | j + 1, k, st, h => by
    obtain ⟨b1, b2⟩ := gcd2_lt (so := so) hle hn k (by omega)
    rw [evG, evP, (rdL_g k).1, (rdL_g k).2, Nn_nI (by omega), Nn_nI (by omega)]
    congr 1
    funext st'
    exact evG_P hle hn u j (k + 1) st' (by omega)
theorem evP_g (hso : so < 3) (hle : 1 ≤ le ∧ le ≤ n) (hn : 3 ≤ n ∧ n ≤ 4) (u : Nat) : evP so le n u (glen so n) 0 [] = some [gcl so le n u] := by
  have hv : ∀ m, m < 7 → (le * 1000 + m) % 1000 = m ∧ (le * 1000 + m) / 1000 = le := fun m hm => by omega
  rcases (by omega : so = 0 ∨ so = 1 ∨ so = 2) with rfl | rfl | rfl
  · rcases (by omega : n = 3 ∨ n = 4) with rfl | rfl
    · show evP 0 le 3 u 4 0 [] = _
      have e3 : gcd2 0 le 3 3 = (3, le * 1000 + 3) := rfl
      have s3 : stG u 3 (le * 1000 + 3) [u.testBit 2, u.testBit 1, u.testBit 0] = some [gcl 0 le 3 u] := by
        unfold stG gcl
        rw [if_neg (by omega), if_pos rfl, (hv 3 (by omega)).1, (hv 3 (by omega)).2, if_pos (by simp), if_pos rfl]
        have : ([u.testBit 2, u.testBit 1, u.testBit 0].take 3).count true = cntB (fun x => u.testBit x) 3 := by
          show ([u.testBit 2, u.testBit 1, u.testBit 0]).count true = 0 + (u.testBit 0).toNat + (u.testBit 1).toNat + (u.testBit 2).toNat
          cases u.testBit 0 <;> cases u.testBit 1 <;> cases u.testBit 2 <;> rfl
        rw [this]; rfl
      show (stG u (gcd2 0 le 3 3).1 (gcd2 0 le 3 3).2 [u.testBit 2, u.testBit 1, u.testBit 0]).bind (evP 0 le 3 u 0 4) = _
      rw [e3]
      show (stG u 3 (le * 1000 + 3) [u.testBit 2, u.testBit 1, u.testBit 0]).bind (evP 0 le 3 u 0 4) = _
      rw [s3]; rfl
    · have e3 : gcd2 0 le 4 4 = (3, le * 1000 + 4) := rfl
      have s3 : stG u 3 (le * 1000 + 4) [u.testBit 3, u.testBit 2, u.testBit 1, u.testBit 0] = some [gcl 0 le 4 u] := by
        unfold stG gcl
        rw [if_neg (by omega), if_pos rfl, (hv 4 (by omega)).1, (hv 4 (by omega)).2, if_pos (by simp), if_pos rfl]
        have : ([u.testBit 3, u.testBit 2, u.testBit 1, u.testBit 0].take 4).count true = cntB (fun x => u.testBit x) 4 := by
          show ([u.testBit 3, u.testBit 2, u.testBit 1, u.testBit 0]).count true = 0 + (u.testBit 0).toNat + (u.testBit 1).toNat + (u.testBit 2).toNat + (u.testBit 3).toNat
          cases u.testBit 0 <;> cases u.testBit 1 <;> cases u.testBit 2 <;> cases u.testBit 3 <;> rfl
        rw [this]; rfl
      show (stG u (gcd2 0 le 4 4).1 (gcd2 0 le 4 4).2 [u.testBit 3, u.testBit 2, u.testBit 1, u.testBit 0]).bind (evP 0 le 4 u 0 5) = _
      rw [e3]
      show (stG u 3 (le * 1000 + 4) [u.testBit 3, u.testBit 2, u.testBit 1, u.testBit 0]).bind (evP 0 le 4 u 0 5) = _
      rw [s3]; rfl
  · rfl
  · rfl
theorem glL (hso : so < 3) (hle : 1 ≤ le ∧ le ≤ n) (hn : 3 ≤ n ∧ n ≤ 4) (u : Nat) : evG (rdL D sd so le n sk) u (Nn (rdL D sd so le n sk (53 + 186 * 0 + 5)) - Nn (rdL D sd so le n sk (53 + 186 * 0 + 4))) (Nn (rdL D sd so le n sk (53 + 186 * 0 + 4))) [] = some [gcl so le n u] ∧ gl (rdL D sd so le n sk) (53 + 186 * 0) u = gcl so le n u := by
  have e5 : Nn (rdL D sd so le n sk (53 + 186 * 0 + 5)) = glen so n := by
    show Nn (nI (glen so n)) = _
    refine Nn_nI ?_
    unfold glen
    repeat' split
    all_goals omega
  have e4 : Nn (rdL D sd so le n sk (53 + 186 * 0 + 4)) = 0 := rfl
  have hg : glen so n ≤ 5 := by
    unfold glen
    repeat' split
    all_goals omega
  have key : evG (rdL D sd so le n sk) u (Nn (rdL D sd so le n sk (53 + 186 * 0 + 5)) - Nn (rdL D sd so le n sk (53 + 186 * 0 + 4))) (Nn (rdL D sd so le n sk (53 + 186 * 0 + 4))) [] = some [gcl so le n u] := by
    rw [e5, e4, Nat.sub_zero, evG_P (by omega) (by omega) u _ _ _ (by omega), evP_g hso hle hn u]
  refine ⟨key, ?_⟩
  unfold gl
  rw [key]
  cases gcl so le n u <;> rfl
theorem cnt_mod {n u : Nat} : cntB (fun x => (u % 2 ^ n).testBit x) n = cntB (fun x => u.testBit x) n := cntB_congr n fun x hx => by
  show (u % 2 ^ n).testBit x = u.testBit x
  rw [Nat.testBit_mod_two_pow, decide_eq_true hx, Bool.true_and]
theorem gcl_mod (hn : 3 ≤ n) (u : Nat) : gcl so le n (u % 2 ^ n) = gcl so le n u := by
  have hb : ∀ x, x < 3 → (u % 2 ^ n).testBit x = u.testBit x := fun x hx => by
    rw [Nat.testBit_mod_two_pow, decide_eq_true (show x < n by omega), Bool.true_and]
  unfold gcl
  rw [cnt_mod, hb 0 (by omega), hb 1 (by omega), hb 2 (by omega)]
theorem cnt_pop : ∀ n, n ≤ 4 → ∀ u, u < 2 ^ n → cntB (fun x => u.testBit x) n = popc u := by decide +kernel
theorem gcl_B (hn : n ≤ 4) {u : Nat} (hu : u < 2 ^ n) : gcl so le n u = goalB so le u := by
  unfold gcl goalB
  rw [cnt_pop n hn u hu]
theorem gcl_0 (hle : 1 ≤ le) : gcl so le n 0 = false := by
  have h0 : ∀ k, cntB (fun x => (0 : Nat).testBit x) k = 0 := by
    intro k
    induction k with
    | zero => rfl
    | succ k ih => rw [cntB, ih, Nat.zero_testBit]; rfl
  unfold gcl
  rw [h0, decide_eq_false (by omega), Nat.zero_testBit, Nat.zero_testBit, Nat.zero_testBit]
  repeat' split
  all_goals rfl
theorem stF_z {s r : Nat} (h : ¬ s < n) : stF D n s r = 0 := if_neg h
theorem stF_am {s kk i : Nat} (hs : s < n) (hi : i < 8) : stF D n s (6 + 8 * kk + i) = if i < 3 then nI (D.am kk s i) else 0 := by
  unfold stF
  rw [if_pos hs, if_neg (by omega), if_neg (by omega), if_neg (by omega), if_neg (by omega), if_pos (by omega), show (6 + 8 * kk + i - 6) % 8 = i by omega, show (6 + 8 * kk + i - 6) / 8 = kk by omega]
theorem stF_Is (hD : D.ok) {s i : Nat} (hs : s < n) (hi : i < 24) : Is (stF D n s (6 + i)) 99 := by
  have e := stF_am (D := D) (kk := i / 8) (i := i % 8) hs (by omega)
  rw [show 6 + 8 * (i / 8) + i % 8 = 6 + i by omega] at e
  rw [e]
  have := (hD s).2.2.1 (i / 8) (i % 8)
  split
  · exact Is.of this (by omega)
  · exact Is.of (n := 0) (by omega) (by omega)
theorem nSL (hn : n ≤ 6) : nS (rdL D sd so le n sk) (53 + 186 * 0) = n := Nn_nI (show n < 2 ^ 31 by omega)
theorem dnL (hn : n ≤ 6) : dnM (rdL D sd so le n sk) (53 + 186 * 0) = 0 := by
  unfold dnM
  refine msk_z _ fun k hk => ?_
  have hk' : k < n := by
    have := nSL (D := D) (sd := sd) (so := so) (le := le) (sk := sk) hn
    unfold nS at this
    omega
  rw [rdL_st (by omega) (by omega)]
  unfold stF
  rw [if_pos hk']
  rfl
theorem vqL (hD : D.ok) (hso : so < 3) (hle : 1 ≤ le ∧ le ≤ n) (hn : 3 ≤ n ∧ n ≤ 4) : VQ (rdL D sd so le n sk) (53 + 186 * 0) ∧ VO (rdL D sd so le n sk) (53 + 186 * 0) := by
  have hS := nSL (D := D) (sd := sd) (so := so) (le := le) (n := n) (sk := sk) (by omega)
  have hg : glen so n ≤ 5 := by
    unfold glen
    repeat' split
    all_goals omega
  have gg := fun u => glL (D := D) (sd := sd) (sk := sk) hso hle hn u
  refine ⟨⟨⟨Is.of (n := n) (by omega) (by omega), by show 1 ≤ nS _ _; rw [hS]; omega⟩, Is.of (n := 0) (by omega) (by omega), Is.of (n := 1) (by omega) (by omega), Is.of (n := 7) (by omega) (by omega), ⟨Is.of (n := 0) (by omega) (by omega), Is.of (n := glen so n) (by omega) (by omega), ?_, fun u _ => ⟨_, (gg u).1⟩, fun k h1 h2 => ?_, ?_, fun u hu => ?_⟩, fun s hs => ?_⟩, fun _ => ?_⟩
  · show Nn (nI 0) ≤ _
    exact Nat.zero_le _
  · have hk : k < 800 := by
      have e5 : Nn (rdL D sd so le n sk (53 + 186 * 0 + 5)) = glen so n := Nn_nI (show glen so n < 2 ^ 31 by omega)
      omega
    obtain ⟨b1, b2⟩ := gcd2_lt (so := so) (le := le) (n := n) (by omega) (by omega) k hk
    refine ⟨by rw [(rdL_g k).1]; exact Is.of b1 (by omega), by rw [(rdL_g k).2]; exact Is.of b2 (by omega), fun h0 => ?_⟩
    rw [(rdL_g k).1] at h0
    rw [(rdL_g k).2, Nn_nI (by omega)]
    have h0' : (gcd2 so le n k).1 = 0 := (nI_eq (b := 0) (by omega) (by omega)).mp h0
    revert h0'
    unfold gcd2
    repeat' split
    all_goals simp
    all_goals omega
  · rw [(gg 0).2]; exact gcl_0 hle.1
  · have e : Nn (rdL D sd so le n sk (53 + 186 * 0)) = n := hS
    rw [(gg _).2, (gg _).2, e]
    exact gcl_mod hn.1 u
  · have hs' : s < n := by
      have e : Nn (rdL D sd so le n sk (53 + 186 * 0)) = n := hS
      omega
    obtain ⟨d1, d2, d3, d4⟩ := hD s
    have e := fun r (hr : r < 30) => rdL_st (D := D) (sd := sd) (so := so) (le := le) (n := n) (sk := sk) (s := s) (r := r) (by omega) hr
    have h64 : D.af s < 64 := Nat.lt_of_lt_of_le d4 (by
      have := Nat.pow_le_pow_right (n := 2) (by omega) (show s ≤ 6 by omega)
      omega)
    have f0 : stF D n s 0 = nI (D.ri s) := if_pos hs'
    have f1 : stF D n s 1 = nI (D.li s) := if_pos hs'
    have f2 : stF D n s 2 = 0 := if_pos hs'
    have f3 : stF D n s 3 = 0 := if_pos hs'
    have f4 : stF D n s 4 = nI (D.af s) := if_pos hs'
    have f5 : stF D n s 5 = if D.co s then 1 else 0 := if_pos hs'
    unfold VS
    rw [show rdL D sd so le n sk (53 + 186 * 0 + 6 + 30 * s) = nI (D.ri s) from (e 0 (by omega)).trans f0, e 1 (by omega), f1, e 2 (by omega), f2, e 3 (by omega), f3, e 4 (by omega), f4, e 5 (by omega), f5]
    refine ⟨Is.of d1 (by omega), ⟨Is.of d2.2 (by omega), by rw [Nn_nI (by omega)]; exact d2.1⟩, ⟨Is.of (n := 0) (by omega) (by omega), Nat.zero_le _⟩, Is.of (n := 0) (by omega) (by omega), ⟨Is.of (by omega) (by omega), by rw [Nn_nI (by omega)]; exact d4⟩, ?_, fun i hi => ?_⟩
    · cases D.co s with
      | true => exact Is.of (n := 1) (by omega) (by omega)
      | false => exact Is.of (n := 0) (by omega) (by omega)
    · rw [show 53 + 186 * 0 + 6 + 30 * s + 6 + i = 53 + 186 * 0 + 6 + 30 * s + (6 + i) by omega, e (6 + i) (by omega)]
      exact stF_Is hD hs' hi
  · rw [dnL (by omega), (gg 0).2]
    exact gcl_0 hle.1
theorem vrL (hD : D.ok) (hso : so < 3) (hle : 1 ≤ le ∧ le ≤ n) (hn : 3 ≤ n ∧ n ≤ 4) (hsk : ∀ i, sk i ≤ 4) : VR 1000 (rdL D sd so le n sk) := by
  refine ⟨Is.of (n := 1) (by omega) (by omega), Is.of (n := 0) (by omega) (by omega), Is.of (n := 0) (by omega) (by omega), Is.of (n := 0) (by omega) (by omega), fun i hi => ?_, fun k hk => absurd hk (Nat.not_lt_zero _), fun q hq => ?_, fun k hk => absurd hk (Nat.not_lt_zero _), fun h => absurd h (Nat.lt_irrefl 0)⟩
  · rw [rdL_s hi]
    have := hsk i
    split
    · exact Is.of (by omega) (by omega)
    · exact Is.of (n := 0) (by omega) (by omega)
  · have hq1 : q < 1 := hq
    obtain rfl : q = 0 := by omega
    exact vqL hD hso hle hn
theorem rlL {σ : St} (hD : D.ok) (hso : so < 3) (hle : 1 ≤ le ∧ le ≤ n) (hn : 3 ≤ n ∧ n ≤ 4) (h5 : gI σ 61 5 = 1) (h2 : gI σ 61 2 = 0) (h3 : gI σ 61 3 = nI sd) (h7 : gI σ 61 7 = 1) (h65 : gI σ 65 0 = -5) (hs : ∀ x, x < 8 → gI σ 62 x = if x < 3 then nI (sk x) else 0) (hQ : DQ D n σ) (hg : ∀ u, u < 64 → gbit (gL σ 66 5) u = gcl so le n u) : RLd σ 61 (rdL D sd so le n sk) := by
  refine ⟨h5, h2, h3, fun i hi => by rw [rdL_s hi]; exact hs i hi, fun k hk => absurd hk (Nat.not_lt_zero _), fun q hq => ?_, Or.inr ?_⟩
  · have hq1 : q < 1 := hq
    obtain rfl : q = 0 := by omega
    obtain ⟨q0, q1, q2, q3, q4, q5, q6, q7, q8, q9⟩ := hQ
    show RQ σ 66 _ _
    refine ⟨q0, q1, by rw [dnL (by omega)]; exact q2, q3, q4, fun u hu => by rw [hg u hu, (glL hso hle hn u).2], fun s hs2 => ?_⟩
    have hs' : s < n := by
      have e := nSL (D := D) (sd := sd) (so := so) (le := le) (n := n) (sk := sk) (by omega)
      unfold nS at e
      omega
    have e := fun r (hr : r < 30) => rdL_st (D := D) (sd := sd) (so := so) (le := le) (n := n) (sk := sk) (s := s) (r := r) (by omega) hr
    have f0 : stF D n s 0 = nI (D.ri s) := if_pos hs'
    have f1 : stF D n s 1 = nI (D.li s) := if_pos hs'
    have f2 : stF D n s 2 = 0 := if_pos hs'
    have f4 : stF D n s 4 = nI (D.af s) := if_pos hs'
    have f5 : stF D n s 5 = if D.co s then 1 else 0 := if_pos hs'
    unfold RS
    rw [show rdL D sd so le n sk (53 + 186 * 0 + 6 + 30 * s) = nI (D.ri s) from (e 0 (by omega)).trans f0, e 1 (by omega), f1, e 2 (by omega), f2, e 4 (by omega), f4, e 5 (by omega), f5]
    refine ⟨(q6 s hs').1, (q6 s hs').2, q5 s (by omega), by rw [q7 s (by omega), if_pos hs'], by rw [q8 s (by omega), if_pos hs'], fun i hi => ?_⟩
    have am : ∀ kk, kk < 3 → gI σ (66 + 6 + kk) (s * 8 + i) = rdL D sd so le n sk (53 + 186 * 0 + 6 + 30 * s + (6 + 8 * kk + i)) := fun kk hkk => by
      rw [e (6 + 8 * kk + i) (by omega), stF_am hs' hi, q9 kk hkk s (by omega) i hi]
      by_cases c : i < 3
      · rw [if_pos ⟨hs', c⟩, if_pos c]
      · rw [if_neg (fun h => c h.2), if_neg c]
    have a0 := am 0 (by omega)
    have a1 := am 1 (by omega)
    have a2 := am 2 (by omega)
    rw [show 53 + 186 * 0 + 6 + 30 * s + (6 + 8 * 0 + i) = 53 + 186 * 0 + 6 + 30 * s + 6 + i by omega] at a0
    rw [show 53 + 186 * 0 + 6 + 30 * s + (6 + 8 * 1 + i) = 53 + 186 * 0 + 6 + 30 * s + 14 + i by omega] at a1
    rw [show 53 + 186 * 0 + 6 + 30 * s + (6 + 8 * 2 + i) = 53 + 186 * 0 + 6 + 30 * s + 22 + i by omega] at a2
    exact ⟨a0, a1, a2⟩
  · rw [if_pos (show Nn (rdL D sd so le n sk 3) = 0 from rfl)]
    exact ⟨h7, h65⟩
/-- a fresh object -/
def Frs (σ : St) : Prop := gI σ 0 1 = 0 ∧ gI σ 2 5 = 0 ∧ gI σ 2 2 = 0 ∧ gI σ 2 3 = 0 ∧ gI σ 2 7 = 0 ∧ (∀ i, i < 8 → gI σ 3 i = 0) ∧ gI σ 120 1 = 0 ∧ gI σ 120 2 = 0
theorem Frs.rl {σ : St} (h : Frs σ) : RLd σ 2 (fun _ => 0) := by
  obtain ⟨h0, h1, h2, h3, h4, h5, h6, h7⟩ := h
  exact ⟨h1, h2, h3, h5, fun k hk => absurd hk (Nat.not_lt_zero _), fun q hq => absurd hq (Nat.not_lt_zero _), Or.inl ⟨h4, rfl, rfl⟩⟩
theorem vr0 : VR 0 (fun _ => 0) := ⟨Is.of (n := 0) (by omega) (by omega), Is.of (n := 0) (by omega) (by omega), Is.of (n := 0) (by omega) (by omega), Is.of (n := 0) (by omega) (by omega), fun i hi => Is.of (n := 0) (by omega) (by omega), fun k hk => absurd hk (Nat.not_lt_zero _), fun q hq => absurd hq (Nat.not_lt_zero _), fun k hk => absurd hk (Nat.not_lt_zero _), fun h => absurd h (Nat.lt_irrefl 0)⟩
/-- the class reads the law's text, from a fresh object -/
theorem law_read {t : List Nat} (hD : D.ok) (hso : so < 3) (hle : 1 ≤ le ∧ le ≤ n) (hn : 3 ≤ n ∧ n ≤ 4) (hsd : sd ≤ 9999) (hsk : ∀ i, sk i ≤ 4) (ht : t = lwW D sd so le n sk) (hL : t.length ≤ 780) (hasc : asc t) {σ : St} (hF : Frs σ) {τ : St} (hG : GX so le 0 (rdL D sd so le n sk) τ) (hgv : ∀ k i, D.am 2 k i ≤ 2) : ∃ r σ1 σ2, feedF t 40 0 0 σ = some (nI r, σ1) ∧ r ≤ 800 ∧ pf_X10_load 0 (nI t.length) σ1 = some (.inr 1, σ2) ∧ Jg so le n [] σ2 τ := by
  obtain ⟨r, σ1, e1, e2, e3, e4, f, f1, f2, f3⟩ := feed_ok hasc hL 39 0 0 σ ⟨hF.1, fun k hk => absurd hk (Nat.not_lt_zero _)⟩ (by omega) (by omega) (by omega)
  refine ⟨r, σ1, ?_⟩
  have hT : ∀ k, k < t.length → gI (sI σ1 0 1 0) 1 k = tB t k := fun k hk => by
    rw [gI_ne _ _ _ _ (by omega), f3.2 k (by omega)]
    exact if_pos hk
  obtain ⟨σ3, g1, g2, g3, g4, g5, g6, g7, g8, g9, g10⟩ := read_ok hD hso hle ⟨hn.1, by omega⟩ hsd (fun i => by have := hsk i; omega) ht (by omega) hasc hT
  have hu1 : Un (fun i => i = 0 ∨ i = 1 ∨ (594 ≤ i ∧ i ≤ 600) ∨ (61 ≤ i ∧ i < 75)) σ σ3 := (e3.mono fun i hi => by omega).trans ((Un.sI _ _ (Or.inl rfl)).trans (g2.mono fun i hi => by omega))
  generalize hσ4 : sI σ3 0 2 (gI σ3 (594 + 1) 6) = σ4
  have hu4 : Un (fun i => i = 0 ∨ i = 1 ∨ (594 ≤ i ∧ i ≤ 600) ∨ (61 ≤ i ∧ i < 75)) σ σ4 := by
    rw [← hσ4]
    exact hu1.trans (Un.sI _ _ (Or.inl rfl))
  have k4 : ∀ i, i ≠ 0 → gI σ4 i = gI σ3 i := fun i hi => by rw [← hσ4, gI_nf _ _ _ hi]
  have F4 : Frs σ4 → True := fun _ => trivial
  have rl4 : RLd σ4 2 (fun _ => 0) := hF.rl.un (by decide) hu4 (fun i a1 a2 => by omega)
  have h120 : gI σ4 120 = gI σ 120 := hu4.I (by omega)
  obtain ⟨σ5, k1, k2, k3, k5, k6⟩ := remC (nxt := 0) (cnt := 0) rl4 vr0 (by omega) (by omega) (by rw [h120]; exact hF.2.2.2.2.2.2.1) (by rw [h120]; exact hF.2.2.2.2.2.2.2)
  have rl61 : RLd σ4 61 (rdL D sd so le n sk) := by
    refine rlL hD hso hle hn (by rw [k4 _ (by omega)]; exact g3) (by rw [k4 _ (by omega)]; exact g4) (by rw [k4 _ (by omega)]; exact g5) (by rw [k4 _ (by omega)]; exact g6) (by rw [k4 _ (by omega)]; exact g7) (fun x hx => by rw [k4 _ (by omega)]; exact g8 x hx) ?_ (fun u hu => ?_)
    · rw [← hσ4]
      exact g9.un (M := fun i => i = 0) (Un.sI _ _ rfl) (fun i a1 a2 => by omega)
    · rw [← hσ4, gL_sI]; exact g10 u hu
  have vr := vrL (sd := sd) hD hso hle hn hsk
  have rl5 : RLd σ5 61 (rdL D sd so le n sk) := rl61.un vr.n0 k2 (fun i a1 a2 a3 => by unfold rmM at a3; omega)
  obtain ⟨σ6, d1, d2, d3⟩ := lcp (p := 2) (q := 61) (by decide +kernel) (by decide +kernel) (by omega) vr.1 vr.2.1 vr.2.2.1 vr.vn rl5
  refine ⟨σ6, e1, e2, ?_, rdL D sd so le n sk, ⟨d3, vr, by omega⟩, rfl, ?_, ?_, hG, nSL (by omega), ?_, ⟨rfl, Nat.zero_le _⟩, fun k x hx => by cases hx⟩
  · unfold pf_X10_load
    rw [if_neg (nI_pos (by omega)), f3.1, if_pos (nI_le f1 (by omega)), bnd_e, show pf_X4_read (0 + 594) (0 + 1) (nI t.length) (0 + 61) (sI σ1 0 1 0) = _ from g1, bnd2_some]
    unfold pf_X4_offsetOfError
    rw [bind_some, bnd_e, if_pos rfl, show sI σ3 0 2 (gI σ3 (0 + 594 + 1) 6) = σ4 from hσ4, show pf_X1_remember (0 + 120) (0 + 2) σ4 = _ from k1, bind_some, show pf_X2_copyFrom (0 + 2) (0 + 61) σ5 = _ from d1, bind_some, show gI σ6 (0 + 2) 5 = 1 from d3.1]
  · have e120 : gI σ6 120 = gI σ5 120 := d2.I (fun q => by have := q.2; omega)
    exact ⟨(0 + 1) % 8, min (0 + 1) 8, by omega, by omega, by rw [e120]; exact k5, by rw [e120]; exact k6⟩
  · refine ⟨hso, by omega, by rw [nSL (by omega)]; exact hn.2, fun u hu => ?_, fun k hk i h1 h2 => ?_, rfl, rfl, fun k hk i hi => ?_⟩
    · rw [nSL (by omega)] at hu
      rw [(glL hso hle hn u).2]
      exact gcl_B hn.2 hu
    · rw [nSL (by omega)] at hk
      have z : ∀ kk, kk < 3 → Nn (rdL D sd so le n sk (53 + 186 * 0 + 6 + 30 * k + (6 + 8 * kk + i))) = 0 := fun kk hkk => by
        rw [rdL_st (by omega) (by omega), stF_am hk h2, if_neg (by omega)]; rfl
      have z0 := z 0 (by omega)
      have z1 := z 1 (by omega)
      have z2 := z 2 (by omega)
      unfold cU cN cG
      rw [show 53 + 186 * 0 + 6 + 30 * k + 6 + i = 53 + 186 * 0 + 6 + 30 * k + (6 + 8 * 0 + i) by omega, show 53 + 186 * 0 + 6 + 30 * k + 14 + i = 53 + 186 * 0 + 6 + 30 * k + (6 + 8 * 1 + i) by omega, show 53 + 186 * 0 + 6 + 30 * k + 22 + i = 53 + 186 * 0 + 6 + 30 * k + (6 + 8 * 2 + i) by omega]
      exact ⟨z0, z1, z2⟩
    · rw [nSL (by omega)] at hk
      unfold cG
      have := hgv k i
      rw [show 53 + 186 * 0 + 6 + 30 * k + 22 + i = 53 + 186 * 0 + 6 + 30 * k + (6 + 8 * 2 + i) by omega, rdL_st (by omega) (by omega), stF_am hk (by omega), if_pos hi, Nn_nI (by omega)]
      exact this
  · intro i hi
    rw [rdL_s hi]
    have h0 : 4 ≤ 4 + 2 * pop6 (dnM (rdL D sd so le n sk) (53 + 186 * 0)) + (if rdL D sd so le n sk (53 + 186 * 0 + 1) = 1 then 7 else 0) := by omega
    refine Nat.le_trans ?_ h0
    have := hsk i
    split
    · rw [Nn_nI (by omega)]; exact this
    · exact Nat.zero_le _
end
