/-! THE REFERENCE: goals -/
theorem ishr_nI : ∀ u, u < 64 → ∀ k, k < 6 → ishr (nI u) (nI k) &&& 1 = b2i (u.testBit k) := by decide +kernel
/-- the pile of truth values in 'held' -/
def HS (s : St) : List Bool → Prop
  | [] => True
  | b :: st => gI s 612 st.length = b2i b ∧ HS s st
theorem HS.un {s s' : St} : ∀ {st : List Bool}, HS s st → (∀ k, k < st.length → gI s' 612 k = gI s 612 k) → HS s' st
  | [], _, _ => trivial
  | b :: st, h, h2 => ⟨(h2 _ (by simp)).trans h.1, HS.un h.2 fun k hk => h2 k (by simp; omega)⟩
theorem HS.at {s : St} : ∀ {st : List Bool}, HS s st → ∀ k, k < st.length → gI s 612 (st.length - 1 - k) = b2i (st.getD k false)
  | [], _, k, hk => absurd hk (Nat.not_lt_zero _)
  | b :: st, h, 0, _ => by simpa using h.1
  | b :: st, h, k + 1, hk => by
    have := HS.at h.2 k (by simpa using hk)
    simp only [List.length_cons, List.getD_cons_succ] at *
    rw [← this]
    congr 1
    omega
theorem HS.drop {s : St} : ∀ {st : List Bool} (k : Nat), HS s st → HS s (st.drop k)
  | st, 0, h => by simpa using h
  | [], _ + 1, _ => by simp [HS]
  | b :: st, k + 1, h => by simpa using HS.drop k h.2
theorem count_take (st : List Bool) (k : Nat) (h : k < st.length) : (st.take (k + 1)).count true = (st.take k).count true + (if st.getD k false then 1 else 0) := by
  rw [List.take_succ, List.count_append]
  congr 1
  rw [List.getElem?_eq_getElem h]
  have e : st.getD k false = st[k] := by simp [List.getD, List.getElem?_eq_getElem h]
  rw [e]
  cases st[k] <;> rfl
theorem stG_len {u op v : Nat} {st st' : List Bool} (h : stG u op v st = some st') : st'.length ≤ st.length + 1 := by
  unfold stG at h
  split at h
  · cases h; simp
  · split at h
    · split at h
      · cases h; simp
      · cases h
    · split at h
      · cases h; simp
      · cases h
def noB : Nat → Prop := fun _ => False
def hA : Nat → Prop := fun i => i = 612
