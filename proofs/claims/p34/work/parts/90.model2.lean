/-! THE REFERENCE: goals -/
theorem ishr_nI : ∀ u, u < 64 → ∀ k, k < 6 → ishr (nI u) (nI k) &&& 1 = b2i (u.testBit k) := by decide +kernel
theorem count_take (st : List Bool) (k : Nat) (h : k < st.length) : (st.take (k + 1)).count true = (st.take k).count true + (if st.getD k false then 1 else 0) := by
  rw [List.take_succ, List.count_append]
  congr 1
  rw [List.getElem?_eq_getElem h]
  have e : st.getD k false = st[k] := by simp [List.getD, List.getElem?_eq_getElem h]
  rw [e]
  cases st[k] <;> rfl
theorem stG_len {u op v : Nat} {st st' : List Bool} (h : stG u op v st = some st') : st'.length ≤ st.length + 1 := by
  unfold stG at h
  split at h
  · cases h; simp
  · split at h
    · split at h
      · cases h; simp
      · cases h
    · split at h
      · cases h; simp
      · cases h
def noB : Nat → Prop := fun _ => False
