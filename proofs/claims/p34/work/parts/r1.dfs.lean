/-! THE PURE SIDE: all rows of steps, one by one, against the least weights -/
def bet : Option (List Nat) → Option (List Nat) → Option (List Nat)
  | o, none => o
  | o, some t => goS o t
theorem bet_none (b : Option (List Nat)) : bet none b = b := by cases b <;> rfl
theorem bet_assoc (a b c : Option (List Nat)) : bet (bet a b) c = bet a (bet b c) := by
  cases c with
  | none => rfl
  | some c =>
    cases b with
    | none => rfl
    | some b =>
      cases a with
      | none => rw [bet_none, bet_none]
      | some a =>
        show goS (if b.length < a.length then some b else some a) c = bet (some a) (if c.length < b.length then some c else some b)
        by_cases h1 : b.length < a.length
        · rw [if_pos h1]
          by_cases h2 : c.length < b.length
          · rw [if_pos h2]
            show (if c.length < b.length then some c else some b) = (if c.length < a.length then some c else some a)
            rw [if_pos h2, if_pos (by omega)]
          · rw [if_neg h2]
            show (if c.length < b.length then some c else some b) = (if b.length < a.length then some b else some a)
            rw [if_neg h2, if_pos h1]
        · rw [if_neg h1]
          by_cases h2 : c.length < b.length
          · rw [if_pos h2]; rfl
          · rw [if_neg h2]
            show (if c.length < a.length then some c else some a) = (if b.length < a.length then some b else some a)
            rw [if_neg h1, if_neg (by omega)]
/-- another form of the rows, each so much longer -/
theorem bet_map {h : List Nat → List Nat} {k : Nat} (hh : ∀ l, (h l).length = k + l.length) (a b : Option (List Nat)) : bet (a.map h) (b.map h) = (bet a b).map h := by
  cases b with
  | none => rfl
  | some b =>
    cases a with
    | none => rfl
    | some a =>
      show (if (h b).length < (h a).length then some (h b) else some (h a)) = (if b.length < a.length then some b else some a).map h
      rw [hh, hh]
      by_cases c : b.length < a.length
      · rw [if_pos c, if_pos (by omega)]; rfl
      · rw [if_neg c, if_neg (by omega)]; rfl
/-- the best of j entries from k on -/
def bpJ (f : Nat → Option (List Nat)) : Nat → Nat → Option (List Nat)
  | 0, _ => none
  | j + 1, k => bet (f k) (bpJ f j (k + 1))
def omJ (f : Nat → Option Nat) : Nat → Nat → Option Nat
  | 0, _ => none
  | j + 1, k => omin (f k) (omJ f j (k + 1))
theorem omin_assoc (a b c : Option Nat) : omin (omin a b) c = omin a (omin b c) := by
  cases a <;> cases b <;> cases c <;> simp [omin]
  all_goals omega
theorem omJ_mins (f : Nat → Option Nat) : ∀ j k, omin (mins k f) (omJ f j k) = mins (k + j) f
  | 0, k => omin_none _
  | j + 1, k => by
    show omin (mins k f) (omin (f k) (omJ f j (k + 1))) = _
    rw [← omin_assoc, show omin (mins k f) (f k) = mins (k + 1) f from rfl, omJ_mins f j (k + 1), show k + 1 + j = k + (j + 1) by omega]
theorem omJ_0 (f : Nat → Option Nat) (n : Nat) : omJ f n 0 = mins n f := by
  have h := omJ_mins f n 0
  rw [Nat.zero_add] at h
  rw [← h]
  show _ = omin none _
  cases omJ f n 0 <;> rfl
theorem omJ_congr {f f' : Nat → Option Nat} : ∀ j k, (∀ s, k ≤ s → s < k + j → f s = f' s) → omJ f j k = omJ f' j k
  | 0, _, _ => rfl
  | j + 1, k, h => by rw [omJ, omJ, h k (by omega) (by omega), omJ_congr j (k + 1) (fun s h1 h2 => h s (by omega) (by omega))]
theorem bpJ_congr {f f' : Nat → Option (List Nat)} : ∀ j k, (∀ s, k ≤ s → s < k + j → f s = f' s) → bpJ f j k = bpJ f' j k
  | 0, _, _ => rfl
  | j + 1, k, h => by rw [bpJ, bpJ, h k (by omega) (by omega), bpJ_congr j (k + 1) (fun s h1 h2 => h s (by omega) (by omega))]
/-- what the best one is: the first of the shortest -/
theorem bpJ_sp {f : Nat → Option (List Nat)} {h : Nat → Option Nat} (hh : ∀ s, (f s).map List.length = h s) : ∀ j k, (omJ h j k = none ∧ bpJ f j k = none) ∨ ∃ m s, omJ h j k = some m ∧ k ≤ s ∧ s < k + j ∧ bpJ f j k = f s ∧ h s = some m ∧ ∀ s', k ≤ s' → s' < s → h s' ≠ some m
  | 0, _ => Or.inl ⟨rfl, rfl⟩
  | j + 1, k => by
    have h0 := hh k
    rw [omJ, bpJ]
    rcases bpJ_sp hh j (k + 1) with ⟨e1, e2⟩ | ⟨m, s, e1, e2, e3, e4, e5, e6⟩
    · rw [e1, e2, omin_none]
      cases ef : f k with
      | none => rw [ef] at h0; exact Or.inl ⟨h0.symm, rfl⟩
      | some l =>
        rw [ef] at h0
        exact Or.inr ⟨l.length, k, h0.symm, Nat.le_refl _, by omega, by rw [ef]; rfl, h0.symm, fun s' a1 a2 => by omega⟩
    · have hs := hh s
      rw [e5] at hs
      obtain ⟨l, ls, ll⟩ := Option.map_eq_some_iff.mp hs
      rw [e1, e4, ls]
      right
      cases ef : f k with
      | none =>
        rw [ef] at h0
        have hk : h k = none := h0.symm
        refine ⟨m, s, by rw [hk]; rfl, by omega, by omega, by rw [ls]; rfl, e5, fun s' a1 a2 => ?_⟩
        by_cases c : s' = k
        · subst c; rw [hk]; exact fun q => by cases q
        · exact e6 s' (by omega) a2
      | some l0 =>
        rw [ef] at h0
        have hk : h k = some l0.length := h0.symm
        rw [hk]
        show ∃ m_1 s, some (min l0.length m) = some m_1 ∧ k ≤ s ∧ s < k + (j + 1) ∧ (if l.length < l0.length then some l else some l0) = f s ∧ _
        by_cases c : l.length < l0.length
        · rw [if_pos c]
          refine ⟨m, s, by congr 1; omega, by omega, by omega, ls.symm, e5, fun s' a1 a2 => ?_⟩
          by_cases c2 : s' = k
          · subst c2; rw [hk]; exact fun q => by injection q; omega
          · exact e6 s' (by omega) a2
        · rw [if_neg c]
          exact ⟨l0.length, k, by congr 1; omega, Nat.le_refl _, by omega, ef.symm, hk, fun s' a1 a2 => by omega⟩
section
variable (g : Nat → Bool) (cn : Nat → Nat → Bool) (w : Nat → Nat) (n : Nat)
/-- the best row of steps from a set on -/
def bpW : Nat → Nat → Option (List Nat)
  | 0, _ => none
  | d + 1, u => if g u then some [] else bpJ (fun s => if cn u s then (bpW d (nx u s)).map (s :: ·) else none) n 0
/-- the least weight of a row of steps -/
def rsW : Nat → Nat → Option Nat
  | 0, _ => none
  | d + 1, u => if g u then some 0 else omJ (fun s => if cn u s then (rsW d (nx u s)).map (· + w s) else none) n 0
/-- the sets behind the rows -/
def enW : Nat → Nat → Nat → Prop
  | 0, _, _ => False
  | d + 1, u, t => (g u = true ∧ t = u) ∨ (g u = false ∧ ∃ s, s < n ∧ cn u s = true ∧ enW d (nx u s) t)
end
/-- how many steps a set lacks -/
def mis (n u : Nat) : Nat := (List.range n).countP (fun k => !u.testBit k)
theorem mis_nx : ∀ n, n ≤ 4 → ∀ u, u < 64 → ∀ k, k < n → u.testBit k = false → mis n (nx u k) + 1 = mis n u := by decide +kernel
theorem mis_le : ∀ n, n ≤ 4 → ∀ u, u < 64 → mis n u ≤ n := by decide +kernel
section
variable {g : Nat → Bool} {cn : Nat → Nat → Bool} {w : Nat → Nat} {n : Nat}
def OKn (cn : Nat → Nat → Bool) (n : Nat) : Prop := ∀ u s, cn u s = true → s < n ∧ u.testBit s = false
theorem OKn.c (h : OKn cn n) (hn : n ≤ 4) : OKc cn := fun u s e => ⟨by have := (h u s e).1; omega, (h u s e).2⟩
theorem OKn.f (h : OKn cn n) {u s : Nat} (hs : n ≤ s) : cn u s = false := by
  cases e : cn u s with
  | false => rfl
  | true => have := (h u s e).1; omega
theorem OKn.mn (h : OKn cn n) (hn : n ≤ 4) (u : Nat) (x : Nat → Option Nat) : omJ (fun s => if cn u s then x s else none) n 0 = mins 6 (fun s => if cn u s then x s else none) := by
  rw [omJ_0]
  exact (mins_ext 6 n (by omega) (fun s hs => by simp only [h.f hs]; rfl)).symm
theorem rsW_eq (hc : OKn cn n) (hn : n ≤ 4) : ∀ d u, u < 64 → mis n u < d → rsW g cn w n d u = gF g cn w u
  | 0, _, _, h => absurd h (Nat.not_lt_zero _)
  | d + 1, u, hu, h => by
    rw [rsW, gF_eq (hc.c hn) hu, hc.mn hn]
    by_cases hg : g u = true
    · rw [if_pos hg, if_pos hg]
    · rw [if_neg hg, if_neg hg]
      apply mins_congr
      intro s hs
      by_cases c : cn u s = true
      · obtain ⟨c1, c2⟩ := hc u s c
        have := mis_nx n hn u hu s c1 c2
        rw [if_pos c, if_pos c, rsW_eq hc hn d (nx u s) (nx_64 u hu s (by omega)) (by omega)]
      · rw [if_neg c, if_neg c]
/-- the plan as a list -/
def plL (g : Nat → Bool) (cn : Nat → Nat → Bool) : Nat → Nat → List Nat
  | 0, _ => []
  | L + 1, u => stp g cn u :: plL g cn L (nx u (stp g cn u))
theorem plL_len : ∀ L u, (plL g cn L u).length = L
  | 0, _ => rfl
  | L + 1, u => by rw [plL, List.length_cons, plL_len L]
theorem plL_at : ∀ L k u, k < L → (plL g cn L u)[k]? = some (stp g cn (plS g cn k u))
  | 0, _, _, h => absurd h (Nat.not_lt_zero _)
  | L + 1, 0, u, _ => rfl
  | L + 1, k + 1, u, h => by
    rw [plL, List.getElem?_cons_succ, plL_at L k _ (by omega)]; rfl
theorem bpW_eq (hc : OKn cn n) (hn : n ≤ 4) : ∀ d u, u < 64 → mis n u < d → bpW g cn n d u = (gF g cn one u).map (fun L => plL g cn L u)
  | 0, _, _, h => absurd h (Nat.not_lt_zero _)
  | d + 1, u, hu, h => by
    rw [bpW]
    by_cases hg : g u = true
    · rw [if_pos hg, gF_goal (hc.c hn) hu hg]; rfl
    · have hg' : g u = false := by simpa using hg
      rw [if_neg hg]
      have e : ∀ s, (if cn u s then (bpW g cn n d (nx u s)).map (s :: ·) else none) = (if cn u s then (gF g cn one (nx u s)).map (fun L => s :: plL g cn L (nx u s)) else none) := fun s => by
        by_cases c : cn u s = true
        · obtain ⟨c1, c2⟩ := hc u s c
          have := mis_nx n hn u hu s c1 c2
          rw [if_pos c, if_pos c, bpW_eq hc hn d (nx u s) (nx_64 u hu s (by omega)) (by omega), Option.map_map]; rfl
        · rw [if_neg c, if_neg c]
      rw [bpJ_congr n 0 (fun s _ _ => e s)]
      have hgF := gF_step (w := one) (hc.c hn) hu hg'
      rw [← hc.mn hn u (fun s => (gF g cn one (nx u s)).map (· + one s))] at hgF
      rcases bpJ_sp (f := fun s => if cn u s then (gF g cn one (nx u s)).map (fun L => s :: plL g cn L (nx u s)) else none) (h := fun s => if cn u s then (gF g cn one (nx u s)).map (· + one s) else none) (fun s => by
        by_cases c : cn u s = true
        · rw [if_pos c, if_pos c, Option.map_map]
          congr 1
          funext L
          show (s :: plL g cn L (nx u s)).length = L + 1
          rw [List.length_cons, plL_len]
        · rw [if_neg c, if_neg c]; rfl) n 0 with ⟨e1, e2⟩ | ⟨m, s, e1, e2, e3, e4, e5, e6⟩
      · rw [e2, hgF, e1]; rfl
      · rw [e4]
        rw [e1] at hgF
        have c : cn u s = true := by
          cases c : cn u s with
          | true => rfl
          | false => rw [c] at e5; simp at e5
        simp only [if_pos c] at e5 ⊢
        obtain ⟨L, q1, q2⟩ := Option.map_eq_some_iff.mp e5
        have q2' : L + 1 = m := q2
        have hstp : stp g cn u = s := by
          refine fst6_of (by omega) ?_ (fun s' hs' => ?_)
          · unfold isNx
            rw [c, hgF, q1, Bool.true_and, decide_eq_true_eq]
            show some (L + 1) = some m
            rw [q2']
          · unfold isNx
            cases c' : cn u s' with
            | false => rfl
            | true =>
              rw [Bool.true_and, decide_eq_false_iff_not, hgF]
              intro q
              exact e6 s' (Nat.zero_le _) hs' (by rw [c']; exact q)
        rw [q1, hgF, ← q2']
        show some (s :: plL g cn L (nx u s)) = some (stp g cn u :: plL g cn L (nx u (stp g cn u)))
        rw [hstp]
theorem enW_eq (hc : OKn cn n) (hn : n ≤ 4) : ∀ d u t, u < 64 → mis n u < d → (enW g cn n d u t ↔ Rch g cn u t ∧ g t = true)
  | 0, _, _, _, h => absurd h (Nat.not_lt_zero _)
  | d + 1, u, t, hu, h => by
    have ih : ∀ s, cn u s = true → (enW g cn n d (nx u s) t ↔ Rch g cn (nx u s) t ∧ g t = true) := fun s c => by
      obtain ⟨c1, c2⟩ := hc u s c
      have := mis_nx n hn u hu s c1 c2
      exact enW_eq hc hn d (nx u s) t (nx_64 u hu s (by omega)) (by omega)
    rw [enW]
    constructor
    · rintro (⟨h1, rfl⟩ | ⟨h1, s, h2, h3, h4⟩)
      · exact ⟨Rch.refl _, h1⟩
      · obtain ⟨⟨l, h5⟩, h6⟩ := (ih s h3).mp h4
        exact ⟨⟨s :: l, h1, h3, h5⟩, h6⟩
    · rintro ⟨⟨l, h1⟩, h2⟩
      cases l with
      | nil =>
        have h1' : u = t := h1
        subst h1'
        exact Or.inl ⟨h2, rfl⟩
      | cons s l =>
        obtain ⟨a1, a2, a3⟩ := h1
        exact Or.inr ⟨a1, s, (hc u s a2).1, a2, (ih s a2).mpr ⟨⟨l, a3⟩, h2⟩⟩
end
