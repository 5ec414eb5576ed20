theorem sup_i {u d : Nat} (hu : u < 64) (hd : d < 64) : (nI u &&& nI d = nI d) = sup u d := by
  have : u &&& d ≤ u := Nat.and_le_left
  rw [and_nI, nI_eq (by omega) (by omega)]; rfl
theorem dnM_pow (rd : Nat → Int32) (b : Nat) : dnM rd b < 2 ^ nS rd b := msk_lt _ _
def plB : Nat → Prop := fun k => k = 11
theorem Rch_sup {g : Nat → Bool} {cn : Nat → Nat → Bool} {d t : Nat} (h : Rch g cn d t) : sup t d := Rch.ind (P := fun u => sup u d) (sup_self d) (fun _ _ hu _ _ => sup_nx hu) h
theorem Rch_pow {rd : Nat → Int32} {b d t : Nat} {S : Nat → Int} (hd : d < 2 ^ nS rd b) (h : Rch (gl rd b) (cnR rd b S d) d t) : t < 2 ^ nS rd b := Rch.ind (P := fun u => u < 2 ^ nS rd b) hd (fun _ _ hu _ hc => nx_pow hu (cnR_s hc).1) h
