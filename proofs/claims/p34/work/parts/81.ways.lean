/-! WAYS, pure: sets of steps, the least weight to a goal set, what can be reached, the plan -/
def nx (u s : Nat) : Nat := u ||| (1 <<< s)
theorem nx_b : ∀ u, u < 64 → ∀ s, s < 6 → u.testBit s = false → u < nx u s ∧ nx u s < 64 := by decide +kernel
theorem nx_64 : ∀ u, u < 64 → ∀ s, s < 6 → nx u s < 64 := by decide +kernel
theorem nx_bit (u s k : Nat) : (nx u s).testBit k = (u.testBit k || decide (k = s)) := by
  unfold nx
  rw [Nat.testBit_or, Nat.one_shiftLeft, Nat.testBit_two_pow]
  congr 1
  by_cases h : s = k
  · subst h; simp
  · simp [h, Ne.symm h]
def omin : Option Nat → Option Nat → Option Nat
  | none, b => b
  | some a, none => some a
  | some a, some b => some (min a b)
theorem omin_none (a : Option Nat) : omin a none = a := by cases a <;> rfl
def mins : Nat → (Nat → Option Nat) → Option Nat
  | 0, _ => none
  | k + 1, f => omin (mins k f) (f k)
theorem mins_congr {f f' : Nat → Option Nat} : ∀ k, (∀ s, s < k → f s = f' s) → mins k f = mins k f'
  | 0, _ => rfl
  | k + 1, h => by rw [mins, mins, mins_congr k (fun s hs => h s (by omega)), h k (by omega)]
theorem mins_le {f : Nat → Option Nat} : ∀ k s, s < k → ∀ v, f s = some v → ∃ m, mins k f = some m ∧ m ≤ v
  | 0, _, h, _, _ => absurd h (Nat.not_lt_zero _)
  | k + 1, s, h, v, hv => by
    rw [mins]
    rcases Nat.lt_or_ge s k with q | q
    · obtain ⟨m, h1, h2⟩ := mins_le k s q v hv
      rw [h1]
      cases f k with
      | none => exact ⟨m, rfl, h2⟩
      | some b => exact ⟨min m b, rfl, by omega⟩
    · have : s = k := by omega
      subst this
      rw [hv]
      cases mins s f with
      | none => exact ⟨v, rfl, by omega⟩
      | some b => exact ⟨min b v, rfl, by omega⟩
theorem mins_at {f : Nat → Option Nat} : ∀ k m, mins k f = some m → ∃ s, s < k ∧ f s = some m
  | 0, _, h => by cases h
  | k + 1, m, h => by
    rw [mins] at h
    cases h1 : mins k f with
    | none =>
      rw [h1] at h
      exact ⟨k, by omega, h⟩
    | some a =>
      rw [h1] at h
      cases h2 : f k with
      | none =>
        rw [h2] at h
        cases h
        obtain ⟨s, q1, q2⟩ := mins_at k _ h1
        exact ⟨s, by omega, q2⟩
      | some b =>
        rw [h2] at h
        have h3 : min a b = m := Option.some.inj h
        rcases Nat.le_total a b with q | q
        · obtain ⟨s, q1, q2⟩ := mins_at k _ h1
          exact ⟨s, by omega, by rw [q2]; congr 1; omega⟩
        · exact ⟨k, by omega, by rw [h2]; congr 1; omega⟩
/-- what can be gone: the step isn't in the set -/
def OKc (cn : Nat → Nat → Bool) : Prop := ∀ u s, cn u s = true → s < 6 ∧ u.testBit s = false
/-- the least weight of a way from u, with fuel -/
def gW (g : Nat → Bool) (cn : Nat → Nat → Bool) (w : Nat → Nat) : Nat → Nat → Option Nat
  | 0, u => if g u then some 0 else none
  | k + 1, u => if g u then some 0 else mins 6 (fun s => if cn u s then (gW g cn w k (nx u s)).map (· + w s) else none)
section
variable {g : Nat → Bool} {cn : Nat → Nat → Bool} {w : Nat → Nat}
theorem gW_stable (hc : OKc cn) : ∀ k u, u < 64 → 64 - u ≤ k → gW g cn w (k + 1) u = gW g cn w k u
  | 0, u, hu, hk => by omega
  | k + 1, u, hu, hk => by
    rw [gW, gW]
    by_cases hg : g u = true
    · rw [if_pos hg, if_pos hg]
    · rw [if_neg hg, if_neg hg]
      apply mins_congr
      intro s hs
      by_cases h : cn u s = true
      · rw [if_pos h, if_pos h]
        have h2 := nx_b u hu s hs (hc u s h).2
        rw [gW_stable hc k (nx u s) h2.2 (by omega)]
      · rw [if_neg h, if_neg h]
end
def gF (g : Nat → Bool) (cn : Nat → Nat → Bool) (w : Nat → Nat) (u : Nat) : Option Nat := gW g cn w 64 u
section
variable {g : Nat → Bool} {cn : Nat → Nat → Bool} {w : Nat → Nat}
theorem gF_eq (hc : OKc cn) {u : Nat} (hu : u < 64) : gF g cn w u = if g u then some 0 else mins 6 (fun s => if cn u s then (gF g cn w (nx u s)).map (· + w s) else none) := by
  unfold gF
  rw [← gW_stable hc 64 u hu (by omega), gW]
theorem gF_goal (hc : OKc cn) {u : Nat} (hu : u < 64) (h : g u = true) : gF g cn w u = some 0 := by rw [gF_eq hc hu, if_pos h]
theorem gF_step (hc : OKc cn) {u : Nat} (hu : u < 64) (h : g u = false) : gF g cn w u = mins 6 (fun s => if cn u s then (gF g cn w (nx u s)).map (· + w s) else none) := by rw [gF_eq hc hu, if_neg (by rw [h]; decide)]
/-- the rows of steps that can be gone -/
def pth (g : Nat → Bool) (cn : Nat → Nat → Bool) : List Nat → Nat → Nat → Prop
  | [], a, t => a = t
  | s :: l, a, t => g a = false ∧ cn a s = true ∧ pth g cn l (nx a s) t
theorem gF_path (hc : OKc cn) : ∀ (n a v : Nat), a < 64 → 64 - a ≤ n → gF g cn w a = some v → ∃ l t, pth g cn l a t ∧ t < 64 ∧ g t = true ∧ (l.map w).sum = v
  | 0, a, v, ha, hn, _ => by omega
  | n + 1, a, v, ha, hn, h => by
    by_cases hg : g a = true
    · rw [gF_goal hc ha hg] at h
      exact ⟨[], a, rfl, ha, hg, Option.some.inj h⟩
    · have hg' : g a = false := by simpa using hg
      rw [gF_step hc ha hg'] at h
      obtain ⟨s, hs, h2⟩ := mins_at 6 v h
      by_cases hcn : cn a s = true
      · simp only [if_pos hcn] at h2
        obtain ⟨v1, h3, h4⟩ := Option.map_eq_some_iff.mp h2
        have h5 := nx_b a ha s hs (hc a s hcn).2
        obtain ⟨l, t, p1, p2, p3, p4⟩ := gF_path hc n (nx a s) v1 h5.2 (by omega) h3
        exact ⟨s :: l, t, ⟨hg', hcn, p1⟩, p2, p3, by rw [List.map_cons, List.sum_cons, p4]; omega⟩
      · simp only [if_neg hcn] at h2
        cases h2
theorem gF_le (hc : OKc cn) : ∀ (l : List Nat) (a t : Nat), a < 64 → pth g cn l a t → g t = true → ∃ v, gF g cn w a = some v ∧ v ≤ (l.map w).sum
  | [], a, t, ha, hp, hg => by
    cases hp
    exact ⟨0, gF_goal hc ha hg, Nat.zero_le _⟩
  | s :: l, a, t, ha, hp, hg => by
    obtain ⟨h1, h2, h3⟩ := hp
    obtain ⟨h4, h6⟩ := hc a s h2
    have h5 := nx_b a ha s h4 h6
    obtain ⟨v, h7, h8⟩ := gF_le hc l (nx a s) t h5.2 h3 hg
    rw [gF_step hc ha h1]
    obtain ⟨m, q1, q2⟩ := mins_le (f := fun s => if cn a s then (gF g cn w (nx a s)).map (· + w s) else none) 6 s h4 (v + w s) (by simp only [if_pos h2, h7]; rfl)
    exact ⟨m, q1, by rw [List.map_cons, List.sum_cons]; omega⟩
theorem gF_isSome (hc : OKc cn) {w' : Nat → Nat} {a : Nat} (ha : a < 64) (h : gF g cn w a = none) : gF g cn w' a = none := by
  cases h2 : gF g cn w' a with
  | none => rfl
  | some v =>
    obtain ⟨l, t, p1, _, p3, _⟩ := gF_path hc 64 a v ha (by omega) h2
    obtain ⟨m, q, _⟩ := gF_le (w := w) hc l a t ha p1 p3
    rw [h] at q; cases q
/-- more can be gone: a way stays -/
theorem pth_mono {cn' : Nat → Nat → Bool} (hm : ∀ u s, cn u s = true → cn' u s = true) : ∀ (l : List Nat) (a t : Nat), pth g cn l a t → pth g cn' l a t
  | [], _, _, h => h
  | _ :: l, _, _, ⟨h1, h2, h3⟩ => ⟨h1, hm _ _ h2, pth_mono hm l _ _ h3⟩
theorem gF_mono (hc : OKc cn) {cn' : Nat → Nat → Bool} (hc' : OKc cn') (hm : ∀ u s, cn u s = true → cn' u s = true) {a : Nat} (ha : a < 64) (h : gF g cn w a ≠ none) : gF g cn' w a ≠ none := by
  intro h2
  cases h3 : gF g cn w a with
  | none => exact h h3
  | some v =>
    obtain ⟨l, t, p1, _, p3, _⟩ := gF_path hc 64 a v ha (by omega) h3
    obtain ⟨m, q, _⟩ := gF_le (w := w) hc' l a t ha (pth_mono hm l a t p1) p3
    rw [h2] at q; cases q
/-- what is reached -/
def Rch (g : Nat → Bool) (cn : Nat → Nat → Bool) (a t : Nat) : Prop := ∃ l, pth g cn l a t
theorem pth_snoc : ∀ (l : List Nat) (a u s : Nat), pth g cn l a u → g u = false → cn u s = true → pth g cn (l ++ [s]) a (nx u s)
  | [], a, u, s, h, h1, h2 => by cases h; exact ⟨h1, h2, rfl⟩
  | _ :: l, _, u, s, ⟨p1, p2, p3⟩, h1, h2 => ⟨p1, p2, pth_snoc l _ u s p3 h1 h2⟩
theorem pth_last : ∀ (l : List Nat) (a t s : Nat), pth g cn (l ++ [s]) a t → ∃ u, pth g cn l a u ∧ g u = false ∧ cn u s = true ∧ nx u s = t
  | [], a, t, s, h => ⟨a, rfl, h.1, h.2.1, h.2.2⟩
  | _ :: l, _, t, s, ⟨p1, p2, p3⟩ => by
    obtain ⟨u, q1, q2⟩ := pth_last l _ t s p3
    exact ⟨u, ⟨p1, p2, q1⟩, q2⟩
theorem Rch_iff {a t : Nat} : Rch g cn a t ↔ t = a ∨ ∃ u s, Rch g cn a u ∧ g u = false ∧ cn u s = true ∧ nx u s = t := by
  constructor
  · rintro ⟨l, h⟩
    rcases List.eq_nil_or_concat l with e | ⟨l', s, e⟩
    · subst e; exact Or.inl (Eq.symm h)
    · subst e
      obtain ⟨u, q1, q2, q3, q4⟩ := pth_last l' a t s (by simpa using h)
      exact Or.inr ⟨u, s, ⟨l', q1⟩, q2, q3, q4⟩
  · rintro (e | ⟨u, s, ⟨l, h⟩, q2, q3, q4⟩)
    · subst e; exact ⟨[], rfl⟩
    · subst q4; exact ⟨l ++ [s], pth_snoc l a u s h q2 q3⟩
theorem Rch.step {a u s : Nat} (h : Rch g cn a u) (h1 : g u = false) (h2 : cn u s = true) : Rch g cn a (nx u s) := Rch_iff.mpr (Or.inr ⟨u, s, h, h1, h2, rfl⟩)
theorem Rch.refl (a : Nat) : Rch g cn a a := ⟨[], rfl⟩
theorem Rch.ind {P : Nat → Prop} {a : Nat} (h0 : P a) (hs : ∀ u s, P u → g u = false → cn u s = true → P (nx u s)) {t : Nat} (h : Rch g cn a t) : P t := by
  obtain ⟨l, h⟩ := h
  induction l generalizing a with
  | nil => cases h; exact h0
  | cons s l ih => exact ih (hs a s h0 h.1 h.2.1) h.2.2
theorem Rch.lt (hc : OKc cn) {a : Nat} (ha : a < 64) {t : Nat} (h : Rch g cn a t) : t < 64 := Rch.ind (P := fun u => u < 64) ha (fun u s hu _ q => nx_64 u hu s (hc u s q).1) h
theorem Rch.sup {a t : Nat} (h : Rch g cn a t) : ∀ k, a.testBit k = true → t.testBit k = true := Rch.ind (P := fun u => ∀ k, a.testBit k = true → u.testBit k = true) (fun _ q => q) (fun u s q _ _ k hk => by rw [nx_bit, q k hk]; rfl) h
/-- the weight of the steps of t that aren't in a -/
def rs2 (r : Nat → Nat) (t a : Nat) : Nat := ((List.range 6).map (fun s => if t.testBit s && !a.testBit s then r s else 0)).sum
theorem rs2_6 (r : Nat → Nat) (t a : Nat) : rs2 r t a = (if t.testBit 0 && !a.testBit 0 then r 0 else 0) + ((if t.testBit 1 && !a.testBit 1 then r 1 else 0) + ((if t.testBit 2 && !a.testBit 2 then r 2 else 0) + ((if t.testBit 3 && !a.testBit 3 then r 3 else 0) + ((if t.testBit 4 && !a.testBit 4 then r 4 else 0) + (if t.testBit 5 && !a.testBit 5 then r 5 else 0))))) := by
  show ((List.map _ [0, 1, 2, 3, 4, 5])).sum = _
  simp [List.sum_cons]
theorem rs2_self (r : Nat → Nat) (a : Nat) : rs2 r a a = 0 := by
  rw [rs2_6]; simp
theorem rs2_step (r : Nat → Nat) {t a s : Nat} (hs : s < 6) (h : a.testBit s = false) (ht : t.testBit s = true) : rs2 r t a = r s + rs2 r t (nx a s) := by
  rw [rs2_6, rs2_6]
  have hb : ∀ k, (nx a s).testBit k = (a.testBit k || decide (k = s)) := nx_bit a s
  simp only [hb]
  rcases s with _ | _ | _ | _ | _ | _ | s
  all_goals first | omega | (simp [h, ht]; try omega)
theorem pth_weight (hc : OKc cn) (r : Nat → Nat) : ∀ (l : List Nat) (a t : Nat), pth g cn l a t → (l.map r).sum = rs2 r t a
  | [], a, t, h => by cases h; rw [rs2_self]; rfl
  | s :: l, a, t, ⟨h1, h2, h3⟩ => by
    have hs := hc a s h2
    have ht : t.testBit s = true := Rch.sup (g := g) (cn := cn) ⟨l, h3⟩ s (by rw [nx_bit]; simp)
    rw [List.map_cons, List.sum_cons, pth_weight hc r l _ t h3, ← rs2_step r hs.1 hs.2 ht]
/-- the least weight over the goal sets that are reached -/
theorem gF_least (hc : OKc cn) {a v : Nat} (ha : a < 64) (h : gF g cn w a = some v) : (∃ t, Rch g cn a t ∧ t < 64 ∧ g t = true ∧ rs2 w t a = v) ∧ ∀ t, Rch g cn a t → g t = true → v ≤ rs2 w t a := by
  obtain ⟨l, t, p1, p2, p3, p4⟩ := gF_path hc 64 a v ha (by omega) h
  refine ⟨⟨t, ⟨l, p1⟩, p2, p3, by rw [← pth_weight hc w l a t p1]; exact p4⟩, ?_⟩
  rintro t ⟨l, h1⟩ hg
  obtain ⟨m, q1, q2⟩ := gF_le (w := w) hc l a t ha h1 hg
  rw [h] at q1
  cases q1
  rw [← pth_weight hc w l a t h1]; exact q2
/-! the plan: the fewest steps, the smaller step ahead -/
def fst6 (p : Nat → Bool) : Nat := if p 0 then 0 else if p 1 then 1 else if p 2 then 2 else if p 3 then 3 else if p 4 then 4 else 5
theorem fst6_of {p : Nat → Bool} {r : Nat} (h : r < 6) (h1 : p r = true) (h2 : ∀ s, s < r → p s = false) : fst6 p = r := by
  unfold fst6
  rcases r with _ | _ | _ | _ | _ | _ | r
  · rw [if_pos h1]
  · rw [if_neg (by rw [h2 0 (by omega)]; decide), if_pos h1]
  · rw [if_neg (by rw [h2 0 (by omega)]; decide), if_neg (by rw [h2 1 (by omega)]; decide), if_pos h1]
  · rw [if_neg (by rw [h2 0 (by omega)]; decide), if_neg (by rw [h2 1 (by omega)]; decide), if_neg (by rw [h2 2 (by omega)]; decide), if_pos h1]
  · rw [if_neg (by rw [h2 0 (by omega)]; decide), if_neg (by rw [h2 1 (by omega)]; decide), if_neg (by rw [h2 2 (by omega)]; decide), if_neg (by rw [h2 3 (by omega)]; decide), if_pos h1]
  · rw [if_neg (by rw [h2 0 (by omega)]; decide), if_neg (by rw [h2 1 (by omega)]; decide), if_neg (by rw [h2 2 (by omega)]; decide), if_neg (by rw [h2 3 (by omega)]; decide), if_neg (by rw [h2 4 (by omega)]; decide)]
  · omega
theorem fst6_has {p : Nat → Bool} {s : Nat} (h : s < 6) (h1 : p s = true) : fst6 p ≤ s ∧ p (fst6 p) = true ∧ ∀ k, k < fst6 p → p k = false := by
  induction s using Nat.strongRecOn with
  | _ s ih =>
    by_cases hq : ∃ k, k < s ∧ p k = true
    · obtain ⟨k, hk, hp⟩ := hq
      obtain ⟨a, b⟩ := ih k hk (by omega) hp
      exact ⟨by omega, b⟩
    · have h2 : ∀ k, k < s → p k = false := fun k hk => by
        cases e : p k with
        | false => rfl
        | true => exact absurd ⟨k, hk, e⟩ hq
      rw [fst6_of h h1 h2]
      exact ⟨Nat.le_refl _, h1, h2⟩
def one (_ : Nat) : Nat := 1
/-- the next step of the plan -/
def isNx (g : Nat → Bool) (cn : Nat → Nat → Bool) (u s : Nat) : Bool := cn u s && decide ((gF g cn one (nx u s)).map (· + 1) = gF g cn one u)
def stp (g : Nat → Bool) (cn : Nat → Nat → Bool) (u : Nat) : Nat := fst6 (isNx g cn u)
def plS (g : Nat → Bool) (cn : Nat → Nat → Bool) : Nat → Nat → Nat
  | 0, a => a
  | k + 1, a => plS g cn k (nx a (stp g cn a))
theorem gF_zero (hc : OKc cn) {u : Nat} (hu : u < 64) (h : gF g cn one u = some 0) : g u = true := by
  cases hg : g u with
  | true => rfl
  | false =>
    rw [gF_step hc hu hg] at h
    obtain ⟨s, _, h2⟩ := mins_at 6 0 h
    by_cases hcn : cn u s = true
    · simp only [if_pos hcn] at h2
      obtain ⟨v, _, h4⟩ := Option.map_eq_some_iff.mp h2
      simp [one] at h4
    · simp only [if_neg hcn] at h2; cases h2
theorem gF_succ (hc : OKc cn) {u v : Nat} (hu : u < 64) (h : gF g cn one u = some (v + 1)) : g u = false ∧ stp g cn u < 6 ∧ cn u (stp g cn u) = true ∧ gF g cn one (nx u (stp g cn u)) = some v ∧ ∀ k, k < stp g cn u → isNx g cn u k = false := by
  have hg : g u = false := by
    cases hg : g u with
    | false => rfl
    | true => rw [gF_goal hc hu hg] at h; cases h
  have h0 := h
  rw [gF_step hc hu hg] at h
  obtain ⟨s, hs, h2⟩ := mins_at 6 _ h
  have hcn : cn u s = true := by
    cases hcn : cn u s with
    | true => rfl
    | false => simp [hcn] at h2
  simp only [if_pos hcn] at h2
  have hp : isNx g cn u s = true := by
    unfold isNx
    rw [hcn, h0]
    simpa [one] using h2
  obtain ⟨q1, q2, q3⟩ := fst6_has hs hp
  have q4 : isNx g cn u (stp g cn u) = true := q2
  unfold isNx at q4
  rw [Bool.and_eq_true, decide_eq_true_eq, h0] at q4
  obtain ⟨m, e1, e2⟩ := Option.map_eq_some_iff.mp q4.2
  exact ⟨hg, by unfold stp; omega, q4.1, by rw [e1]; congr 1; omega, q3⟩
theorem plS_at (hc : OKc cn) : ∀ (k a L : Nat), a < 64 → gF g cn one a = some L → k ≤ L → plS g cn k a < 64 ∧ Rch g cn a (plS g cn k a) ∧ gF g cn one (plS g cn k a) = some (L - k)
  | 0, a, L, ha, h, _ => ⟨ha, Rch.refl a, h⟩
  | k + 1, a, L, ha, h, hk => by
    obtain ⟨v, rfl⟩ : ∃ v, L = v + 1 := ⟨L - 1, by omega⟩
    obtain ⟨q1, q2, q3, q4, _⟩ := gF_succ hc ha h
    have hn := nx_64 a ha _ q2
    obtain ⟨p1, p2, p3⟩ := plS_at hc k (nx a (stp g cn a)) v hn q4 (by omega)
    refine ⟨p1, ?_, by rw [plS, p3]; congr 1; omega⟩
    obtain ⟨l, hl⟩ := p2
    exact ⟨stp g cn a :: l, q1, q3, hl⟩
theorem plS_succ : ∀ (k a : Nat), plS g cn (k + 1) a = nx (plS g cn k a) (stp g cn (plS g cn k a))
  | 0, _ => rfl
  | k + 1, a => by rw [plS, plS_succ k]; rfl
theorem gF_le6 (hc : OKc cn) {a L : Nat} (ha : a < 64) (h : gF g cn one a = some L) : L ≤ 6 := by
  obtain ⟨⟨t, _, _, _, e⟩, _⟩ := gF_least hc ha h
  rw [← e, rs2_6]
  simp only [one]
  repeat' split
  all_goals omega
def plR (g : Nat → Bool) (cn : Nat → Nat → Bool) (r : Nat → Nat) (k a : Nat) : Nat := ((List.range k).map (fun j => r (stp g cn (plS g cn j a)))).sum
theorem plR_risk (hc : OKc cn) (r : Nat → Nat) {a L : Nat} (ha : a < 64) (h : gF g cn one a = some L) : ∀ k, k ≤ L → plR g cn r k a = rs2 r (plS g cn k a) a
  | 0, _ => by rw [plS, rs2_self]; rfl
  | k + 1, hk => by
    have ih := plR_risk hc r ha h k (by omega)
    obtain ⟨p1, p2, p3⟩ := plS_at hc k a L ha h (by omega)
    obtain ⟨v, hv⟩ : ∃ v, L - k = v + 1 := ⟨L - k - 1, by omega⟩
    rw [hv] at p3
    obtain ⟨q1, q2, q3, q4, _⟩ := gF_succ hc p1 p3
    obtain ⟨l, hl⟩ := p2
    have e1 := pth_weight hc r l a _ hl
    have e2 := pth_weight hc r _ a _ (pth_snoc l a _ _ hl q1 q3)
    rw [plS_succ, ← e2, List.map_append, List.sum_append, e1, ← ih]
    unfold plR
    rw [List.range_succ, List.map_append, List.sum_append]
    rfl
end
