/-! THE REFERENCE: its row, its small questions -/
theorem al610 : alen 610 = 39330 := by decide +kernel
theorem al611 : alen 611 = 4370 := by decide +kernel
theorem al612 : alen 612 = 801 := by decide +kernel
theorem al613 : alen 613 = 8 := by decide +kernel
theorem al614 : alen 614 = 64 := by decide +kernel
theorem al615 : alen 615 = 64 := by decide +kernel
theorem al616 : alen 616 = 6 := by decide +kernel
theorem al617 : alen 617 = 801 := by decide +kernel
theorem al618 : alen 618 = 800 := by decide +kernel
theorem al619 : alen 619 = 64 := by decide +kernel
def b2i (b : Bool) : Int32 := if b then 1 else 0
theorem if_b2 {α : Type} (c : Bool) (A B : α) : (if b2i c = 0 then A else B) = if c = true then B else A := by cases c <;> rfl
theorem if_b1 {α : Type} (c : Bool) (A B : α) : (if b2i c = 1 then A else B) = if c = true then A else B := by cases c <;> rfl
theorem ckZ_b {α : Type} (c : Bool) (x : Option α) : ckZ (b2i c) x = x := by cases c <;> rfl
/-- the row at hand -/
def MR (τ : St) (rd : Nat → Int32) : Prop := ∃ r, r < 9 ∧ gI τ 609 3 = nI r ∧ ∀ k, k < 4370 → gI τ 610 (4370 * r + k) = rd k
/-- the reference alone has changed: places A, and slots B of its object -/
def MU (A B : Nat → Prop) (σ σ' : St) : Prop := Un (fun i => i = 609 ∨ A i) σ σ' ∧ ∀ k, ¬ B k → gI σ' 609 k = gI σ 609 k
theorem MU.refl (A B : Nat → Prop) (σ : St) : MU A B σ σ := ⟨Un.refl _ _, fun _ _ => rfl⟩
theorem MU.trans {A B : Nat → Prop} {σ σ' σ'' : St} (h : MU A B σ σ') (h' : MU A B σ' σ'') : MU A B σ σ'' := ⟨h.1.trans h'.1, fun k hk => (h'.2 k hk).trans (h.2 k hk)⟩
theorem MU.mono {A B A' B' : Nat → Prop} {σ σ' : St} (h : MU A B σ σ') (ha : ∀ i, A i → A' i) (hb : ∀ i, B i → B' i) : MU A' B' σ σ' := ⟨h.1.mono fun i hi => hi.elim Or.inl (fun q => Or.inr (ha i q)), fun k hk => h.2 k (fun q => hk (hb k q))⟩
theorem MU.I {A B : Nat → Prop} {σ σ' : St} (h : MU A B σ σ') {i : Nat} (h1 : i ≠ 609) (h2 : ¬ A i) : gI σ' i = gI σ i := h.1.I (fun q => q.elim h1 h2)
theorem MU.F {A B : Nat → Prop} {σ σ' : St} (h : MU A B σ σ') {k : Nat} (hk : ¬ B k) : gI σ' 609 k = gI σ 609 k := h.2 k hk
theorem MU.arr {A B : Nat → Prop} {σ : St} {p : Nat} (k : Nat) (v : Int32) (h : A p) (h2 : p ≠ 609) : MU A B σ (sI σ p k v) := ⟨Un.sI _ _ (Or.inr h), fun j _ => by rw [gI_ne _ _ _ _ (Ne.symm h2)]⟩
theorem MU.fld {A B : Nat → Prop} {σ : St} (k : Nat) (v : Int32) (h : B k) : MU A B σ (sI σ 609 k v) := ⟨Un.sI _ _ (Or.inl rfl), fun j hj => gI_ns _ _ _ (fun e => hj (e ▸ h))⟩
theorem MR.mu {A B : Nat → Prop} {τ τ' : St} {rd : Nat → Int32} (h : MR τ rd) (u : MU A B τ τ') (h1 : ¬ A 610) (h2 : ¬ B 3) : MR τ' rd := by
  obtain ⟨r, h3, h4, h5⟩ := h
  exact ⟨r, h3, by rw [u.F h2]; exact h4, fun k hk => by rw [u.I (by decide) h1]; exact h5 k hk⟩
theorem get_ok {τ : St} {rd : Nat → Int32} {k : Nat} (h : MR τ rd) (hk : k < 4370) : pf_X11_get 609 (nI k) τ = some (rd k) := by
  obtain ⟨r, h3, h4, h5⟩ := h
  unfold pf_X11_get
  rw [h4, show (4370 : Int32) = nI 4370 from rfl, pk_mul, nI_add, ckA al610 (by omega), nI_clamp (by omega)]
  exact congrArg some (h5 k hk)
theorem ofQ_ok {τ : St} {rd : Nat → Int32} {q w : Nat} (h : MR τ rd) (hq : q < 6) (hw : w < 186) : pf_X11_ofQuest 609 (nI q) (nI w) τ = some (rd (53 + 186 * q + w)) := by
  unfold pf_X11_ofQuest
  rw [show (53 : Int32) = nI 53 from rfl, show (186 : Int32) = nI 186 from rfl, pk_mul, nI_add, nI_add, get_ok h (by omega)]; rfl
theorem ofS_ok {τ : St} {rd : Nat → Int32} {q s w : Nat} (h : MR τ rd) (hq : q < 6) (hs : s < 6) (hw : w < 30) : pf_X11_ofStep 609 (nI q) (nI s) (nI w) τ = some (rd (53 + 186 * q + 6 + 30 * s + w)) := by
  unfold pf_X11_ofStep pf_X11_placeOf
  rw [show (53 : Int32) = nI 53 from rfl, show (186 : Int32) = nI 186 from rfl, show (6 : Int32) = nI 6 from rfl, show (30 : Int32) = nI 30 from rfl, pk_mul, nI_add, nI_add, pk_mul, nI_add, bind_some, nI_add, get_ok h (by omega)]; rfl
section
variable {τ : St} {rd : Nat → Int32} {q s : Nat}
theorem oQ0 (h : MR τ rd) (hq : q < 6) : pf_X11_ofQuest 609 (nI q) 0 τ = some (rd (53 + 186 * q)) := ofQ_ok (w := 0) h hq (by omega)
theorem oQ1 (h : MR τ rd) (hq : q < 6) : pf_X11_ofQuest 609 (nI q) 1 τ = some (rd (53 + 186 * q + 1)) := ofQ_ok (w := 1) h hq (by omega)
theorem oQ2 (h : MR τ rd) (hq : q < 6) : pf_X11_ofQuest 609 (nI q) 2 τ = some (rd (53 + 186 * q + 2)) := ofQ_ok (w := 2) h hq (by omega)
theorem oQ3 (h : MR τ rd) (hq : q < 6) : pf_X11_ofQuest 609 (nI q) 3 τ = some (rd (53 + 186 * q + 3)) := ofQ_ok (w := 3) h hq (by omega)
theorem oQ4 (h : MR τ rd) (hq : q < 6) : pf_X11_ofQuest 609 (nI q) 4 τ = some (rd (53 + 186 * q + 4)) := ofQ_ok (w := 4) h hq (by omega)
theorem oQ5 (h : MR τ rd) (hq : q < 6) : pf_X11_ofQuest 609 (nI q) 5 τ = some (rd (53 + 186 * q + 5)) := ofQ_ok (w := 5) h hq (by omega)
theorem oS0 (h : MR τ rd) (hq : q < 6) (hs : s < 6) : pf_X11_ofStep 609 (nI q) (nI s) 0 τ = some (rd (53 + 186 * q + 6 + 30 * s)) := ofS_ok (w := 0) h hq hs (by omega)
theorem oS1 (h : MR τ rd) (hq : q < 6) (hs : s < 6) : pf_X11_ofStep 609 (nI q) (nI s) 1 τ = some (rd (53 + 186 * q + 6 + 30 * s + 1)) := ofS_ok (w := 1) h hq hs (by omega)
theorem oS2 (h : MR τ rd) (hq : q < 6) (hs : s < 6) : pf_X11_ofStep 609 (nI q) (nI s) 2 τ = some (rd (53 + 186 * q + 6 + 30 * s + 2)) := ofS_ok (w := 2) h hq hs (by omega)
theorem oS3 (h : MR τ rd) (hq : q < 6) (hs : s < 6) : pf_X11_ofStep 609 (nI q) (nI s) 3 τ = some (rd (53 + 186 * q + 6 + 30 * s + 3)) := ofS_ok (w := 3) h hq hs (by omega)
theorem oS4 (h : MR τ rd) (hq : q < 6) (hs : s < 6) : pf_X11_ofStep 609 (nI q) (nI s) 4 τ = some (rd (53 + 186 * q + 6 + 30 * s + 4)) := ofS_ok (w := 4) h hq hs (by omega)
theorem oS5 (h : MR τ rd) (hq : q < 6) (hs : s < 6) : pf_X11_ofStep 609 (nI q) (nI s) 5 τ = some (rd (53 + 186 * q + 6 + 30 * s + 5)) := ofS_ok (w := 5) h hq hs (by omega)
theorem oSU {i : Nat} (h : MR τ rd) (hq : q < 6) (hs : s < 6) (hi : i < 8) : pf_X11_ofStep 609 (nI q) (nI s) (6 + nI i) τ = some (rd (53 + 186 * q + 6 + 30 * s + 6 + i)) := by
  rw [show (6 : Int32) = nI 6 from rfl, nI_add, ofS_ok h hq hs (by omega), show 53 + 186 * q + 6 + 30 * s + (6 + i) = 53 + 186 * q + 6 + 30 * s + 6 + i by omega]
theorem oSN {i : Nat} (h : MR τ rd) (hq : q < 6) (hs : s < 6) (hi : i < 8) : pf_X11_ofStep 609 (nI q) (nI s) (14 + nI i) τ = some (rd (53 + 186 * q + 6 + 30 * s + 14 + i)) := by
  rw [show (14 : Int32) = nI 14 from rfl, nI_add, ofS_ok h hq hs (by omega), show 53 + 186 * q + 6 + 30 * s + (14 + i) = 53 + 186 * q + 6 + 30 * s + 14 + i by omega]
theorem oSG {i : Nat} (h : MR τ rd) (hq : q < 6) (hs : s < 6) (hi : i < 8) : pf_X11_ofStep 609 (nI q) (nI s) (22 + nI i) τ = some (rd (53 + 186 * q + 6 + 30 * s + 22 + i)) := by
  rw [show (22 : Int32) = nI 22 from rfl, nI_add, ofS_ok h hq hs (by omega), show 53 + 186 * q + 6 + 30 * s + (22 + i) = 53 + 186 * q + 6 + 30 * s + 22 + i by omega]
theorem stepsM (h : MR τ rd) (hq : q < 6) (v : VQ rd (53 + 186 * q)) : pf_X11_stepsOf 609 (nI q) τ = some (nI (nS rd (53 + 186 * q))) := by
  unfold pf_X11_stepsOf
  rw [oQ0 h hq, bind_some, v.e0]
theorem brokM (h : MR τ rd) (hq : q < 6) (v : VQ rd (53 + 186 * q)) (hs : s < nS rd (53 + 186 * q)) : pf_X11_isBroken 609 (nI q) (nI s) τ = some (b2i (cB rd (53 + 186 * q) s)) := by
  have hn := v.n
  unfold pf_X11_isBroken
  obtain ⟨-, ⟨l1, l2⟩, ⟨f1, f2⟩, -⟩ := v.s hs
  have b1 := l1.2
  have b2 := f1.2
  rw [oS2 h hq (by omega), bind_some, oS1 h hq (by omega), bind_some, f1.1, l1.1]
  unfold cB
  by_cases e : Nn (rd (53 + 186 * q + 6 + 30 * s + 2)) = Nn (rd (53 + 186 * q + 6 + 30 * s + 1))
  · rw [e, if_pos rfl, decide_eq_true rfl]; rfl
  · rw [if_neg (by rw [nI_eq (by omega) (by omega)]; exact e), decide_eq_false e]; rfl
theorem dn_step (v : VQ rd (53 + 186 * q)) (hs : s < nS rd (53 + 186 * q)) : rd (53 + 186 * q + 6 + 30 * s + 3) = b2i (decide (rd (53 + 186 * q + 6 + 30 * s + 3) = 1)) := by
  obtain ⟨-, -, -, d1, -⟩ := v.s hs
  obtain ⟨n, e, hn, -⟩ := d1.get
  rw [e]
  rcases (by omega : n = 0 ∨ n = 1) with rfl | rfl <;> rfl
theorem shl_b2 : ∀ s, s < 6 → ∀ b : Bool, ishl (b2i b) (nI s) = nI (if b then 1 <<< s else 0) := by decide +kernel
theorem doneM (h : MR τ rd) (hq : q < 6) (v : VQ rd (53 + 186 * q)) : pf_X11_doneSet 609 (nI q) τ = some (nI (dnM rd (53 + 186 * q))) := by
  have hn := v.n
  unfold pf_X11_doneSet
  refine up_C (fun n i (m : Nat) => pf_X11_doneSet_L4 τ n 609 (nI q) (nI m) (nI i)) (nS rd (53 + 186 * q)) (fun i m => m = msk i (fun s => decide (rd (53 + 186 * q + 6 + 30 * s + 3) = 1))) (fun r => r = some (nI (dnM rd (53 + 186 * q)))) ?_ ?_ FU 0 0 (Nat.zero_le _) rfl (lt_FU (by omega))
  · intro n m hm
    show pf_X11_doneSet_L4 τ (n + 1) 609 (nI q) (nI m) (nI (nS rd (53 + 186 * q))) = _
    rw [pf_X11_doneSet_L4, stepsM h hq v, bind_some, if_pos (nI_le (Nat.le_refl _) (by omega)), hm]; rfl
  · intro n i m hi hm
    right
    refine ⟨m ||| (if decide (rd (53 + 186 * q + 6 + 30 * i + 3) = 1) then 1 <<< i else 0), ?_, by rw [hm]; rfl⟩
    show pf_X11_doneSet_L4 τ (n + 1) 609 (nI q) (nI m) (nI i) = pf_X11_doneSet_L4 τ n 609 (nI q) (nI _) (nI (i + 1))
    rw [pf_X11_doneSet_L4, stepsM h hq v, bind_some, if_neg (nI_ge hi (by omega)), oS3 h hq (by omega), bind_some, bnd_e, bnd_e, nI_1]
    rw [show ishl (rd (53 + 186 * q + 6 + 30 * i + 3)) (nI i) = nI (if decide (rd (53 + 186 * q + 6 + 30 * i + 3) = 1) then 1 <<< i else 0) from by
      rw [dn_step v hi, shl_b2 i (by omega)]
      rw [← dn_step v hi], or_nI]
def bkM (rd : Nat → Int32) (b : Nat) : Nat := msk (nS rd b) (cB rd b)
theorem brokenM (h : MR τ rd) (hq : q < 6) (v : VQ rd (53 + 186 * q)) : pf_X11_brokenSet 609 (nI q) τ = some (nI (bkM rd (53 + 186 * q))) := by
  have hn := v.n
  unfold pf_X11_brokenSet
  refine up_C (fun n i (m : Nat) => pf_X11_brokenSet_L4 τ n 609 (nI q) (nI m) (nI i)) (nS rd (53 + 186 * q)) (fun i m => m = msk i (cB rd (53 + 186 * q))) (fun r => r = some (nI (bkM rd (53 + 186 * q)))) ?_ ?_ FU 0 0 (Nat.zero_le _) rfl (lt_FU (by omega))
  · intro n m hm
    show pf_X11_brokenSet_L4 τ (n + 1) 609 (nI q) (nI m) (nI (nS rd (53 + 186 * q))) = _
    rw [pf_X11_brokenSet_L4, stepsM h hq v, bind_some, if_pos (nI_le (Nat.le_refl _) (by omega)), hm]; rfl
  · intro n i m hi hm
    right
    refine ⟨m ||| (if cB rd (53 + 186 * q) i then 1 <<< i else 0), ?_, by rw [hm]; rfl⟩
    show pf_X11_brokenSet_L4 τ (n + 1) 609 (nI q) (nI m) (nI i) = pf_X11_brokenSet_L4 τ n 609 (nI q) (nI _) (nI (i + 1))
    rw [pf_X11_brokenSet_L4, stepsM h hq v, bind_some, if_neg (nI_ge hi (by omega)), brokM h hq v hi, bind_some, if_b2]
    cases cB rd (53 + 186 * q) i with
    | true => rw [if_pos rfl, if_pos rfl, pf_X11_brokenSet_b30, bnd_e, bnd_e, nI_1, shl1 i (by omega), or_nI]
    | false => rw [if_neg Bool.false_ne_true, if_neg Bool.false_ne_true, pf_X11_brokenSet_b30, bnd_e, bnd_e, nI_1, show (0 : Int32) = nI 0 from rfl, or_nI]
def flS (rd : Nat → Int32) (b : Nat) : Nat → Nat
  | 0 => 0
  | k + 1 => flS rd b k + Nn (rd (b + 6 + 30 * k + 2))
theorem flS_le {b : Nat} (v : VQ rd b) : ∀ k, k ≤ nS rd b → flS rd b k ≤ 9 * k
  | 0, _ => Nat.le_refl _
  | k + 1, h => by
    have := flS_le v k (by omega)
    have := (v.s (show k < nS rd b by omega)).2.2.1.1.2
    rw [flS]; omega
theorem failsM (h : MR τ rd) (hq : q < 6) (v : VQ rd (53 + 186 * q)) : pf_X11_failsOf 609 (nI q) τ = some (nI (flS rd (53 + 186 * q) (nS rd (53 + 186 * q)))) := by
  have hn := v.n
  unfold pf_X11_failsOf
  refine up_C (fun n i (m : Nat) => pf_X11_failsOf_L4 τ n 609 (nI q) (nI m) (nI i)) (nS rd (53 + 186 * q)) (fun i m => m = flS rd (53 + 186 * q) i) (fun r => r = some (nI (flS rd (53 + 186 * q) (nS rd (53 + 186 * q))))) ?_ ?_ FU 0 0 (Nat.zero_le _) rfl (lt_FU (by omega))
  · intro n m hm
    show pf_X11_failsOf_L4 τ (n + 1) 609 (nI q) (nI m) (nI (nS rd (53 + 186 * q))) = _
    rw [pf_X11_failsOf_L4, stepsM h hq v, bind_some, if_pos (nI_le (Nat.le_refl _) (by omega)), hm]
  · intro n i m hi hm
    right
    refine ⟨m + Nn (rd (53 + 186 * q + 6 + 30 * i + 2)), ?_, by rw [hm]; rfl⟩
    show pf_X11_failsOf_L4 τ (n + 1) 609 (nI q) (nI m) (nI i) = pf_X11_failsOf_L4 τ n 609 (nI q) (nI _) (nI (i + 1))
    rw [pf_X11_failsOf_L4, stepsM h hq v, bind_some, if_neg (nI_ge hi (by omega)), oS2 h hq (by omega), bind_some, (v.s hi).2.2.1.1.1, bnd_e, bnd_e, nI_1, nI_add, Nn_nI (by have := (v.s hi).2.2.1.1.2; omega)]
end
