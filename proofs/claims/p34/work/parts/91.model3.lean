/-! THE REFERENCE: ways -/
def stk (rd : Nat → Int32) (i : Nat) : Int := (Nn (rd (5 + i)) : Int)
section
variable {τ : St} {rd : Nat → Int32} {q : Nat} {S : Nat → Int}
end
theorem mins_ext {f : Nat → Option Nat} : ∀ k n, n ≤ k → (∀ s, n ≤ s → f s = none) → mins k f = mins n f
  | 0, n, h, _ => by rw [show n = 0 by omega]
  | k + 1, n, h, h2 => by
    by_cases e : n = k + 1
    · rw [e]
    · rw [mins, h2 k (by omega), omin_none, mins_ext k n (by omega) h2]
theorem Rch_new2 {rd : Nat → Int32} {b d a t : Nat} {S : Nat → Int} (h : Rch (gl rd b) (cnR rd b S d) a t) : ∀ k, nS rd b ≤ k → t.testBit k = true → a.testBit k = true := Rch.ind (P := fun u => ∀ k, nS rd b ≤ k → u.testBit k = true → a.testBit k = true) (fun _ _ q => q) (fun u s hu _ hc k hk q => by
  have := (cnR_s hc).1
  rw [nx_bit] at q
  have : decide (k = s) = false := decide_eq_false (by omega)
  rw [this, Bool.or_false] at q
  exact hu k hk q) h
theorem sb_le {rd : Nat → Int32} {b d a x : Nat} {S : Nat → Int} (v : VQ rd b) (ha : a < 64) (h : gF (gl rd b) (cnR rd b S d) (cR rd b) a = some x) : x ≤ 600 := by
  obtain ⟨⟨t, h1, h2, h3, h4⟩, -⟩ := gF_least (cnR_ok v.n.1) ha h
  rw [← h4, ← rsum_rs2, rsum_ext 6 (nS rd b) v.n.1]
  · have := rsum_le (r := cR rd b) (m := df t a) (nS rd b) (fun s hs => (v.cR hs).2)
    have := v.n
    omega
  · intro s hs
    rw [df_bit]
    cases e : t.testBit s with
    | false => simp
    | true => simp [Rch_new2 h1 s hs e]
def enF (o : Option Nat) : Nat := o.getD 1000000
theorem omin_F {A B : Option Nat} {c : Nat} (hA : ∀ a, A = some a → a ≤ 1000) (hc : c ≤ 100) {x : Nat} (hB : B = some x) (hx : x ≤ 600) : enF (omin A (B.map (· + c))) = min (enF A) (enF B + c) := by
  subst hB
  cases A with
  | none => show x + c = min 1000000 (x + c); omega
  | some a => rfl
def sup (u d : Nat) : Prop := u &&& d = d
theorem sup_nx {u d s : Nat} (h : sup u d) : sup (nx u s) d := by
  unfold sup at *
  apply Nat.eq_of_testBit_eq
  intro k
  have := congrArg (fun z => z.testBit k) h
  simp only [Nat.testBit_and] at this
  rw [Nat.testBit_and, nx_bit]
  cases e : u.testBit k with
  | false =>
    rw [e] at this
    simp at this
    rw [this]; simp
  | true => simp
theorem sup_self (d : Nat) : sup d d := Nat.and_self d
theorem nx_pow {u s n : Nat} (h : u < 2 ^ n) (hs : s < n) : nx u s < 2 ^ n := by
  unfold nx
  refine Nat.or_lt_two_pow h ?_
  rw [Nat.one_shiftLeft]
  exact Nat.pow_lt_pow_right (by omega) hs
def wyB : Nat → Prop := fun k => k = 9
theorem wyB3 : ¬ wyB 3 := by unfold wyB; omega
theorem pow_shl : ∀ n, n ≤ 6 → ishl 1 (nI n) = nI (2 ^ n) := by decide +kernel
