/-! THE PURE SIDE: the goal in closed form -/
def popc (u : Nat) : Nat := (List.range 6).countP (fun i => u.testBit i)
def bcF (v0 : Int32) : Int32 :=
  let a := v0 - ((iushr v0 1) &&& 1431655765)
  let b := (a &&& 858993459) + ((iushr a 2) &&& 858993459)
  let c := (b + (iushr b 4)) &&& 252645135
  let d := c + (iushr c 8)
  let e := d + (iushr d 16)
  e &&& 63
theorem bcF_all : ∀ u, u < 64 → bcF (nI u) = nI (popc u) := by decide +kernel
theorem bc_eq (σ : St) {u : Nat} (hu : u < 64) : pf_J6_bitCount_0f7a4 (nI u) σ = some (nI (popc u)) := by
  rw [← bcF_all u hu]
  rfl
/-- the law's goal: of the sort so, at least le steps -/
def goalB (so le u : Nat) : Bool := if so = 0 then decide (le ≤ popc u) else if so = 1 then (u.testBit 0 || (u.testBit 1 && u.testBit 2)) else (u.testBit 0 && u.testBit 1)
theorem g_and : ∀ u, u < 64 → ((nI u &&& 1) = 1 ↔ u.testBit 0 = true) ∧ ((nI u &&& 6) = 6 ↔ (u.testBit 1 && u.testBit 2) = true) ∧ ((nI u &&& 3) = 3 ↔ (u.testBit 0 && u.testBit 1) = true) ∧ popc u ≤ 6 := by decide +kernel
theorem holds_eq {τ : St} {so le u : Nat} (hso : gI τ 1000 5 = nI so) (hle : gI τ 1000 4 = nI le) (h3 : so < 3) (h4 : le < 2 ^ 31) (hu : u < 64) : pf_X11_holds 1000 (nI u) τ = some (if goalB so le u = true then 1 else 0) := by
  obtain ⟨a1, a2, a3, a4⟩ := g_and u hu
  unfold pf_X11_holds
  rw [hso, hle, bc_eq τ hu]
  unfold goalB
  rcases (by omega : so = 0 ∨ so = 1 ∨ so = 2) with rfl | rfl | rfl
  · rw [if_pos (show nI 0 = (0 : Int32) from rfl), if_pos (show (0 : Nat) = 0 from rfl), Option.bind_some]
    by_cases c : le ≤ popc u
    · rw [if_neg (nI_nlt c (by omega)), if_pos (decide_eq_true c)]
    · rw [if_pos (nI_lt (by omega) h4), if_neg (fun q => c (of_decide_eq_true q))]
  · rw [if_neg (show ¬ nI 1 = (0 : Int32) by decide +kernel), if_pos (show nI 1 = (1 : Int32) from rfl), if_neg (show ¬ (1 : Nat) = 0 by decide), if_pos (show (1 : Nat) = 1 from rfl)]
    by_cases c1 : u.testBit 0 = true
    · rw [if_pos (a1.mpr c1), if_pos (by rw [c1]; rfl)]
    · rw [if_neg (fun q => c1 (a1.mp q))]
      have c1f : u.testBit 0 = false := by simpa using c1
      by_cases c2 : (u.testBit 1 && u.testBit 2) = true
      · rw [if_pos (a2.mpr c2), if_pos (by rw [c2, Bool.or_true])]
      · rw [if_neg (fun q => c2 (a2.mp q)), if_neg (by rw [c1f, Bool.false_or]; exact c2)]
  · rw [if_neg (show ¬ nI 2 = (0 : Int32) by decide +kernel), if_neg (show ¬ nI 2 = (1 : Int32) by decide +kernel), if_neg (show ¬ (2 : Nat) = 0 by decide), if_neg (show ¬ (2 : Nat) = 1 by decide)]
    by_cases c : (u.testBit 0 && u.testBit 1) = true
    · rw [if_pos (a3.mpr c), if_pos c]
    · rw [if_neg (fun q => c (a3.mp q)), if_neg c]
