/-! THE RELATION of a ledger of the class (at a place) and a row of the reference -/
def Nn (x : Int32) : Nat := x.toNatClampNeg
theorem Nn_nI {n : Nat} (h : n < 2 ^ 31) : Nn (nI n) = n := nI_clamp h
def Is (x : Int32) (B : Nat) : Prop := x = nI (Nn x) ∧ Nn x ≤ B
theorem Is.of {n B : Nat} (h : n ≤ B) (hB : B < 2 ^ 31) : Is (nI n) B := ⟨by rw [Nn_nI (by omega)], by rw [Nn_nI (by omega)]; exact h⟩
theorem Is.mono {x : Int32} {B C : Nat} (h : Is x B) (hc : B ≤ C) : Is x C := ⟨h.1, Nat.le_trans h.2 hc⟩
theorem Is.get {x : Int32} {B : Nat} (h : Is x B) : ∃ n, x = nI n ∧ n ≤ B ∧ Nn x = n := ⟨Nn x, h.1, h.2, rfl⟩
def msk : Nat → (Nat → Bool) → Nat
  | 0, _ => 0
  | k + 1, f => msk k f ||| (if f k then 1 <<< k else 0)
theorem msk_bit (f : Nat → Bool) (k : Nat) : ∀ n, (msk n f).testBit k = (decide (k < n) && f k)
  | 0 => by simp [msk]
  | n + 1 => by
    rw [msk, Nat.testBit_or, msk_bit f k n]
    by_cases h : k = n
    · subst h
      cases f k <;> simp
    · have e : (if f n then 1 <<< n else 0 : Nat).testBit k = false := by
        split
        · rw [Nat.one_shiftLeft, Nat.testBit_two_pow]
          simp [Ne.symm h]
        · simp
      rw [e]
      have e2 : decide (k < n + 1) = decide (k < n) := by
        by_cases h3 : k < n
        · simp [h3]; omega
        · have : ¬ k < n + 1 := by omega
          simp [h3, this]
      rw [e2]; simp
theorem msk_lt (f : Nat → Bool) : ∀ n, msk n f < 2 ^ n
  | 0 => by simp [msk]
  | n + 1 => by
    rw [msk]
    apply Nat.or_lt_two_pow
    · exact Nat.lt_trans (msk_lt f n) (Nat.pow_lt_pow_right (by omega) (by omega))
    · split
      · rw [Nat.one_shiftLeft]; exact Nat.pow_lt_pow_right (by omega) (by omega)
      · exact Nat.two_pow_pos _
theorem msk_congr {f f' : Nat → Bool} : ∀ n, (∀ k, k < n → f k = f' k) → msk n f = msk n f'
  | 0, _ => rfl
  | n + 1, h => by rw [msk, msk, msk_congr n (fun k hk => h k (by omega)), h n (by omega)]
theorem msk_64 {n : Nat} (f : Nat → Bool) (h : n ≤ 6) : msk n f < 64 := Nat.lt_of_lt_of_le (msk_lt f n) (by
  have := Nat.pow_le_pow_right (n := 2) (by omega) h
  omega)
theorem msk_add {f : Nat → Bool} {n s : Nat} (h : s < n) : msk n f ||| (1 <<< s) = msk n (fun k => f k || decide (k = s)) := by
  apply Nat.eq_of_testBit_eq
  intro k
  rw [Nat.testBit_or, msk_bit, msk_bit, Nat.one_shiftLeft, Nat.testBit_two_pow]
  by_cases h1 : k = s
  · subst h1; simp [h]
  · simp [h1, Ne.symm h1]
/-! goals as the reference keeps them: a code worked off on a pile of truth values -/
def stG (u op v : Nat) (st : List Bool) : Option (List Bool) :=
  if op = 0 then some (u.testBit v :: st)
  else if op = 3 then (if 1 ≤ v % 1000 ∧ v % 1000 ≤ st.length then some (decide (v / 1000 ≤ (st.take (v % 1000)).count true) :: st.drop (v % 1000)) else none)
  else match st with
    | b :: a :: r => some ((if op = 1 then a && b else a || b) :: r)
    | _ => none
def evG (rd : Nat → Int32) (u : Nat) : Nat → Nat → List Bool → Option (List Bool)
  | 0, _, st => some st
  | n + 1, k, st => (stG u (Nn (rd (2769 + 2 * k))) (Nn (rd (2769 + 2 * k + 1))) st).bind (evG rd u n (k + 1))
theorem evG_congr {rd rd' : Nat → Int32} {u : Nat} : ∀ n k st, (∀ j, 2769 + 2 * k ≤ j → j < 2769 + 2 * (k + n) → rd' j = rd j) → evG rd' u n k st = evG rd u n k st
  | 0, _, _, _ => rfl
  | n + 1, k, st, h => by
    rw [evG, evG, h (2769 + 2 * k) (by omega) (by omega), h (2769 + 2 * k + 1) (by omega) (by omega)]
    congr 1
    funext st'
    exact evG_congr n (k + 1) st' (fun j h1 h2 => h j (by omega) (by omega))
theorem evG_app {rd : Nat → Int32} {u : Nat} : ∀ n m k st, evG rd u (n + m) k st = (evG rd u n k st).bind (evG rd u m (k + n))
  | 0, m, k, st => by rw [evG, Nat.zero_add]; rfl
  | n + 1, m, k, st => by
    rw [show n + 1 + m = (n + m) + 1 by omega, evG, evG]
    cases stG u (Nn (rd (2769 + 2 * k))) (Nn (rd (2769 + 2 * k + 1))) st with
    | none => rfl
    | some st' =>
      show evG rd u (n + m) (k + 1) st' = (evG rd u n (k + 1) st').bind (evG rd u m (k + (n + 1)))
      rw [evG_app n m (k + 1) st', show k + 1 + n = k + (n + 1) by omega]
def gl (rd : Nat → Int32) (b u : Nat) : Bool := decide (evG rd u (Nn (rd (b + 5)) - Nn (rd (b + 4))) (Nn (rd (b + 4))) [] = some [true])
/-- a bit of a goal of the class -/
def gbit (g : Int64) (u : Nat) : Bool := g.toBitVec.getLsbD u
/-! the worth's code -/
def hW (rd : Nat → Int32) : Nat → Nat → Nat → Option Nat
  | 0, _, h => some h
  | n + 1, k, h => if Nn (rd (1169 + 2 * k)) ≤ 1 then (if h + 1 ≤ 11 then hW rd n (k + 1) (h + 1) else none) else (if 2 ≤ h then hW rd n (k + 1) (h - 1) else none)
def encW (op v : Int32) : Int32 := if op = 0 then v else if op = 1 then -1 - v else -5 - op
def VWc (rd : Nat → Int32) (k : Nat) : Prop := Is (rd (1169 + 2 * k)) 5 ∧ (rd (1169 + 2 * k) = 0 → Is (rd (1169 + 2 * k + 1)) 9999) ∧ (rd (1169 + 2 * k) = 1 → Is (rd (1169 + 2 * k + 1)) 5)
def VWo (rd : Nat → Int32) : Prop := (∀ k, k < Nn (rd 3) → VWc rd k) ∧ (0 < Nn (rd 3) → hW rd (Nn (rd 3)) 0 0 = some 1)
/-- (before the first text there is no quest, and no code yet) -/
def RWo (σ : St) (p : Nat) (rd : Nat → Int32) : Prop := (gI σ p 7 = 0 ∧ Nn (rd 3) = 0 ∧ Nn (rd 0) = 0) ∨ if Nn (rd 3) = 0 then gI σ p 7 = 1 ∧ gI σ (p + 4) 0 = -5 else gI σ p 7 = rd 3 ∧ ∀ k, k < Nn (rd 3) → gI σ (p + 4) k = encW (rd (1169 + 2 * k)) (rd (1169 + 2 * k + 1))
/-! a step, a quest, a ledger -/
def VS (rd : Nat → Int32) (c s : Nat) : Prop := Is (rd c) 100 ∧ (Is (rd (c + 1)) 9 ∧ 1 ≤ Nn (rd (c + 1))) ∧ (Is (rd (c + 2)) 9 ∧ Nn (rd (c + 2)) ≤ Nn (rd (c + 1))) ∧ Is (rd (c + 3)) 1 ∧ (Is (rd (c + 4)) 63 ∧ Nn (rd (c + 4)) < 2 ^ s) ∧ Is (rd (c + 5)) 1 ∧ ∀ i, i < 24 → Is (rd (c + 6 + i)) 99
def VGc (rd : Nat → Int32) (k : Nat) : Prop := Is (rd (2769 + 2 * k)) 3 ∧ Is (rd (2769 + 2 * k + 1)) 100000 ∧ (rd (2769 + 2 * k) = 0 → Nn (rd (2769 + 2 * k + 1)) < 6)
def VG (rd : Nat → Int32) (b : Nat) : Prop := Is (rd (b + 4)) 800 ∧ Is (rd (b + 5)) 800 ∧ Nn (rd (b + 4)) ≤ Nn (rd (b + 5)) ∧ (∀ u, u < 64 → ∃ v, evG rd u (Nn (rd (b + 5)) - Nn (rd (b + 4))) (Nn (rd (b + 4))) [] = some [v]) ∧ (∀ k, Nn (rd (b + 4)) ≤ k → k < Nn (rd (b + 5)) → VGc rd k) ∧ gl rd b 0 = false ∧ ∀ u, u < 64 → gl rd b (u % 2 ^ Nn (rd b)) = gl rd b u
def VQ (rd : Nat → Int32) (b : Nat) : Prop := (Is (rd b) 6 ∧ 1 ≤ Nn (rd b)) ∧ Is (rd (b + 1)) 2 ∧ Is (rd (b + 2)) 7 ∧ Is (rd (b + 3)) 99 ∧ VG rd b ∧ ∀ s, s < Nn (rd b) → VS rd (b + 6 + 30 * s) s
/-- the set of the steps that are done -/
def dnM (rd : Nat → Int32) (b : Nat) : Nat := msk (Nn (rd b)) (fun s => decide (rd (b + 6 + 30 * s + 3) = 1))
/-- a quest that is open: its goal doesn't hold -/
def VO (rd : Nat → Int32) (b : Nat) : Prop := rd (b + 1) = 0 → gl rd b (dnM rd b) = false
def VR (B : Nat) (rd : Nat → Int32) : Prop := Is (rd 0) 6 ∧ Is (rd 2) 40 ∧ Is (rd 3) 800 ∧ Is (rd 4) 800 ∧ (∀ i, i < 8 → Is (rd (5 + i)) B) ∧ (∀ k, k < Nn (rd 2) → Is (rd (13 + k)) 99) ∧ (∀ q, q < Nn (rd 0) → VQ rd (53 + 186 * q) ∧ VO rd (53 + 186 * q)) ∧ VWo rd
def RS (σ : St) (a : Nat) (rd : Nat → Int32) (c s : Nat) : Prop := gI σ (a + 1) s = rd c ∧ gI σ (a + 2) s = rd (c + 1) ∧ gI σ (a + 3) s = rd (c + 2) ∧ gI σ (a + 4) s = rd (c + 4) ∧ gI σ (a + 5) s = rd (c + 5) ∧ ∀ i, i < 8 → gI σ (a + 6) (s * 8 + i) = rd (c + 6 + i) ∧ gI σ (a + 7) (s * 8 + i) = rd (c + 14 + i) ∧ gI σ (a + 8) (s * 8 + i) = rd (c + 22 + i)
def RQ (σ : St) (a : Nat) (rd : Nat → Int32) (b : Nat) : Prop := gI σ a 0 = rd b ∧ gI σ a 1 = rd (b + 1) ∧ gI σ a 2 = nI (dnM rd b) ∧ gI σ a 3 = rd (b + 2) ∧ gI σ a 4 = rd (b + 3) ∧ (∀ u, u < 64 → gbit (gL σ a 5) u = gl rd b u) ∧ ∀ s, s < Nn (rd b) → RS σ a rd (b + 6 + 30 * s) s
def RLd (σ : St) (p : Nat) (rd : Nat → Int32) : Prop := gI σ p 5 = rd 0 ∧ gI σ p 2 = rd 2 ∧ gI σ p 3 = rd 1 ∧ (∀ i, i < 8 → gI σ (p + 1) i = rd (5 + i)) ∧ (∀ k, k < Nn (rd 2) → gI σ (p + 2) k = rd (13 + k)) ∧ (∀ q, q < Nn (rd 0) → RQ σ (p + 5 + 9 * q) rd (53 + 186 * q)) ∧ RWo σ p rd
/-! what the relation looks at -/
theorem RQ.to {σ σ' : St} {a a' : Nat} {rd : Nat → Int32} {b : Nat} (hn : Nn (rd b) ≤ 6) (h : RQ σ a rd b) (h0 : ∀ k, k < 5 → gI σ' a' k = gI σ a k) (h5 : gL σ' a' 5 = gL σ a 5) (h1 : ∀ j k, 1 ≤ j → j ≤ 5 → k < 6 → gI σ' (a' + j) k = gI σ (a + j) k) (h2 : ∀ j k, 6 ≤ j → j ≤ 8 → k < 48 → gI σ' (a' + j) k = gI σ (a + j) k) : RQ σ' a' rd b := by
  obtain ⟨q0, q1, q2, q3, q4, q5, q6⟩ := h
  refine ⟨(h0 0 (by omega)).trans q0, (h0 1 (by omega)).trans q1, (h0 2 (by omega)).trans q2, (h0 3 (by omega)).trans q3, (h0 4 (by omega)).trans q4, fun u hu => by rw [h5]; exact q5 u hu, fun s hs => ?_⟩
  obtain ⟨r1, r2, r3, r4, r5, r6⟩ := q6 s hs
  refine ⟨(h1 1 s (by omega) (by omega) (by omega)).trans r1, (h1 2 s (by omega) (by omega) (by omega)).trans r2, (h1 3 s (by omega) (by omega) (by omega)).trans r3, (h1 4 s (by omega) (by omega) (by omega)).trans r4, (h1 5 s (by omega) (by omega) (by omega)).trans r5, fun i hi => ?_⟩
  obtain ⟨t1, t2, t3⟩ := r6 i hi
  exact ⟨(h2 6 _ (by omega) (by omega) (by omega)).trans t1, (h2 7 _ (by omega) (by omega) (by omega)).trans t2, (h2 8 _ (by omega) (by omega) (by omega)).trans t3⟩
theorem RQ.un {M : Nat → Prop} {σ σ' : St} {a : Nat} {rd : Nat → Int32} {b : Nat} (h : RQ σ a rd b) (hu : Un M σ σ') (hm : ∀ i, a ≤ i → i < a + 9 → ¬ M i) : RQ σ' a rd b := by
  obtain ⟨q0, q1, q2, q3, q4, q5, q6⟩ := h
  have e : ∀ j, j < 9 → gI σ' (a + j) = gI σ (a + j) := fun j hj => hu.I (hm _ (by omega) (by omega))
  have e0 : gI σ' a = gI σ a := e 0 (by omega)
  have e5 : gL σ' a = gL σ a := hu.L (hm _ (by omega) (by omega))
  refine ⟨by rw [e0]; exact q0, by rw [e0]; exact q1, by rw [e0]; exact q2, by rw [e0]; exact q3, by rw [e0]; exact q4, fun u hu => by rw [e5]; exact q5 u hu, fun s hs => ?_⟩
  unfold RS
  rw [e 1 (by omega), e 2 (by omega), e 3 (by omega), e 4 (by omega), e 5 (by omega), e 6 (by omega), e 7 (by omega), e 8 (by omega)]
  exact q6 s hs
theorem RLd.un {M : Nat → Prop} {σ σ' : St} {p : Nat} {rd : Nat → Int32} (hn : Nn (rd 0) ≤ 6) (h : RLd σ p rd) (hu : Un M σ σ') (hm : ∀ i, p ≤ i → i < p + 59 → ¬ M i) : RLd σ' p rd := by
  obtain ⟨q0, q1, q2, q3, q4, q5, q6⟩ := h
  have e : ∀ j, j < 59 → gI σ' (p + j) = gI σ (p + j) := fun j hj => hu.I (hm _ (by omega) (by omega))
  have e0 : gI σ' p = gI σ p := e 0 (by omega)
  refine ⟨by rw [e0]; exact q0, by rw [e0]; exact q1, by rw [e0]; exact q2, fun i hi => by rw [e 1 (by omega)]; exact q3 i hi, fun i hi => by rw [e 2 (by omega)]; exact q4 i hi, fun q hq => (q5 q hq).un hu (fun i h1 h2 => hm i (by omega) (by omega)), ?_⟩
  unfold RWo at q6 ⊢
  rw [e0, e 4 (by omega)]
  exact q6
/-- the row decides -/
theorem RQ.rd {σ : St} {a : Nat} {rd rd' : Nat → Int32} {b : Nat} (h : RQ σ a rd b) (hb : ∀ k, b ≤ k → k < b + 186 → rd' k = rd k) (hn : Nn (rd b) ≤ 6) (hg : ∀ u, u < 64 → gl rd' b u = gl rd b u) : RQ σ a rd' b := by
  obtain ⟨q0, q1, q2, q3, q4, q5, q6⟩ := h
  have e0 : rd' b = rd b := hb b (by omega) (by omega)
  refine ⟨by rw [e0]; exact q0, by rw [hb _ (by omega) (by omega)]; exact q1, ?_, by rw [hb _ (by omega) (by omega)]; exact q3, by rw [hb _ (by omega) (by omega)]; exact q4, fun u hu => by rw [hg u hu]; exact q5 u hu, fun s hs => ?_⟩
  · rw [q2]; congr 1
    unfold dnM
    rw [e0]
    exact msk_congr _ (fun s hs => by rw [hb _ (by omega) (by omega)])
  · rw [e0] at hs
    obtain ⟨r1, r2, r3, r4, r5, r6⟩ := q6 s hs
    refine ⟨by rw [hb _ (by omega) (by omega)]; exact r1, by rw [hb _ (by omega) (by omega)]; exact r2, by rw [hb _ (by omega) (by omega)]; exact r3, by rw [hb _ (by omega) (by omega)]; exact r4, by rw [hb _ (by omega) (by omega)]; exact r5, fun i hi => ?_⟩
    rw [hb _ (by omega) (by omega), hb _ (by omega) (by omega), hb _ (by omega) (by omega)]
    exact r6 i hi
