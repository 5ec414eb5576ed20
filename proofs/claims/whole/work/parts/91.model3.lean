/-! THE REFERENCE: ways -/
def BY (τ : St) (S : Nat → Int) : Prop := ∀ i, i < 8 → gI τ 613 i = iI (S i)
def stk (rd : Nat → Int32) (i : Nat) : Int := (Nn (rd (5 + i)) : Int)
theorem BY.mu {A B : Nat → Prop} {τ τ' : St} {S : Nat → Int} (h : BY τ S) (u : MU A B τ τ') (h1 : ¬ A 613) : BY τ' S := fun i hi => by rw [u.I (by decide) h1]; exact h i hi
section
variable {τ : St} {rd : Nat → Int32} {q : Nat} {S : Nat → Int}
theorem asItIs_ok (h : MR τ rd) (hs : ∀ i, i < 8 → rd (5 + i) = nI (Nn (rd (5 + i)))) : ∃ τ', pf_X11_asItIs 609 τ = some τ' ∧ MU (fun i => i = 613) noB τ τ' ∧ BY τ' (stk rd) := by
  unfold pf_X11_asItIs
  refine up_C (fun n i s => pf_X11_asItIs_L2 n 609 (nI i) s) 8 (fun i s => MU (fun i => i = 613) noB τ s ∧ ∀ k, k < i → gI s 613 k = iI (stk rd k)) (fun r => ∃ τ', r = some τ' ∧ MU (fun i => i = 613) noB τ τ' ∧ BY τ' (stk rd)) ?_ ?_ FU 0 τ (Nat.zero_le _) ⟨MU.refl _ _ _, fun k hk => absurd hk (Nat.not_lt_zero _)⟩ (lt_FU (by omega))
  · intro n s ⟨h1, h2⟩
    refine ⟨s, ?_, h1, h2⟩
    show pf_X11_asItIs_L2 (n + 1) 609 (nI 8) s = _
    rw [pf_X11_asItIs_L2, show (8 : Int32) = nI 8 from rfl, if_pos (nI_le (Nat.le_refl _) (by omega))]
  · intro n i s hi ⟨h1, h2⟩
    have hm := h.mu h1 (show ¬ 610 = 613 by decide) (fun q => q)
    refine Or.inr ⟨sI s 613 i (rd (5 + i)), ?_, h1.trans (MU.arr _ _ rfl (by decide)), fun k hk => ?_⟩
    · show pf_X11_asItIs_L2 (n + 1) 609 (nI i) s = pf_X11_asItIs_L2 n 609 (nI (i + 1)) _
      rw [pf_X11_asItIs_L2, show (8 : Int32) = nI 8 from rfl, if_neg (nI_ge hi (by omega)), show (5 : Int32) = nI 5 from rfl, nI_add, get_ok hm (by omega), bind_some, ckA al613 hi, nI_clamp (by omega), bnd_e, bnd_e, nI_1]
    · by_cases e : k = i
      · subst e
        rw [gI_at, hs k hi]
        unfold stk
        rw [iI_nat]
      · rw [gI_ns _ _ _ e]; exact h2 k (by omega)
theorem behind_ok {m i : Nat} (h : MR τ rd) (hq : q < 6) (v : VQ rd (53 + 186 * q)) (hb : BY τ S) (hm : m < 64) (hi : i < 8) : pf_X11_behind 609 (nI q) (nI m) (nI i) τ = some (iI (bh rd (53 + 186 * q) S m i)) := by
  have hn := v.n
  unfold pf_X11_behind
  rw [ckA al613 hi, nI_clamp (by omega), bnd_e, hb i hi]
  refine up_C (fun n k (z : Int) => pf_X11_behind_L11 τ n 609 (nI q) (nI m) (nI i) (iI z) (nI k)) (nS rd (53 + 186 * q)) (fun k z => z = S i + bhs rd (53 + 186 * q) m i k) (fun r => r = some (iI (bh rd (53 + 186 * q) S m i))) ?_ ?_ FU 0 (S i) (Nat.zero_le _) (by simp [bhs]) (lt_FU (by omega))
  · intro n z hz
    show pf_X11_behind_L11 τ (n + 1) 609 (nI q) (nI m) (nI i) (iI z) (nI (nS rd (53 + 186 * q))) = _
    rw [pf_X11_behind_L11, stepsM h hq v, bind_some, if_pos (nI_le (Nat.le_refl _) (by omega)), hz]; rfl
  · intro n k z hk hz
    right
    show ∃ z', pf_X11_behind_L11 τ (n + 1) 609 (nI q) (nI m) (nI i) (iI z) (nI k) = pf_X11_behind_L11 τ n 609 (nI q) (nI m) (nI i) (iI z') (nI (k + 1)) ∧ z' = _
    rw [pf_X11_behind_L11, stepsM h hq v, bind_some, if_neg (nI_ge hk (by omega)), ishr_nI m hm k (by omega), if_b1, oSG h hq (by omega) hi, bind_some, oSU h hq (by omega) hi, bind_some, (v.cG hk hi).1, (v.cU hk hi).1]
    cases e : m.testBit k with
    | true =>
      refine ⟨z + ((cG rd (53 + 186 * q) k i : Int) - cU rd (53 + 186 * q) k i), ?_, by rw [bhs, e, hz, if_pos rfl]; omega⟩
      rw [if_pos rfl, bnd_e, pf_X11_behind_b59, bnd_e, nI_1, ← iI_nat (cG rd (53 + 186 * q) k i), ← iI_nat (cU rd (53 + 186 * q) k i), iI_sub, iI_add]
    | false =>
      refine ⟨z, ?_, by rw [bhs, e, hz, if_neg Bool.false_ne_true]; omega⟩
      rw [if_neg Bool.false_ne_true, pf_X11_behind_b59, bnd_e, nI_1]
theorem hasItems_ok {m s : Nat} (h : MR τ rd) (hq : q < 6) (v : VQ rd (53 + 186 * q)) (hb : BY τ S) (hm : m < 64) (hs : s < nS rd (53 + 186 * q)) (hZ : SB (bh rd (53 + 186 * q) S m)) : pf_X11_hasItems 609 (nI q) (nI s) (nI m) τ = some (b2i (allI rd (53 + 186 * q) (bh rd (53 + 186 * q) S m) s)) := by
  have hn := v.n
  unfold pf_X11_hasItems
  refine up_C (fun n i (_ : Unit) => pf_X11_hasItems_L3 τ n 609 (nI q) (nI s) (nI m) (nI i)) 8 (fun i _ => ∀ k, k < i → (cU rd (53 + 186 * q) s k : Int) ≤ bh rd (53 + 186 * q) S m k ∧ (cN rd (53 + 186 * q) s k : Int) ≤ bh rd (53 + 186 * q) S m k) (fun r => r = some (b2i (allI rd (53 + 186 * q) (bh rd (53 + 186 * q) S m) s))) ?_ ?_ FU 0 () (Nat.zero_le _) (fun k hk => absurd hk (Nat.not_lt_zero _)) (lt_FU (by omega))
  · intro n _ h1
    show pf_X11_hasItems_L3 τ (n + 1) 609 (nI q) (nI s) (nI m) (nI 8) = _
    rw [pf_X11_hasItems_L3, show (8 : Int32) = nI 8 from rfl, if_pos (nI_le (Nat.le_refl _) (by omega)), allI_iff.mpr h1]; rfl
  · intro n i _ hi h1
    show pf_X11_hasItems_L3 τ (n + 1) 609 (nI q) (nI s) (nI m) (nI i) = _ ∨ ∃ _ : Unit, pf_X11_hasItems_L3 τ (n + 1) 609 (nI q) (nI s) (nI m) (nI i) = pf_X11_hasItems_L3 τ n 609 (nI q) (nI s) (nI m) (nI (i + 1)) ∧ _
    have z := hZ i hi
    have b1 : cU rd (53 + 186 * q) s i ≤ 99 := (v.cU hs hi).2
    have b2 : cN rd (53 + 186 * q) s i ≤ 99 := (v.cN hs hi).2
    have no : ¬ ((cU rd (53 + 186 * q) s i : Int) ≤ bh rd (53 + 186 * q) S m i ∧ (cN rd (53 + 186 * q) s i : Int) ≤ bh rd (53 + 186 * q) S m i) → allI rd (53 + 186 * q) (bh rd (53 + 186 * q) S m) s = false := fun hno => by
      cases e : allI rd (53 + 186 * q) (bh rd (53 + 186 * q) S m) s with
      | false => rfl
      | true => exact absurd (allI_iff.mp e i hi) hno
    rw [pf_X11_hasItems_L3, show (8 : Int32) = nI 8 from rfl, if_neg (nI_ge hi (by omega)), behind_ok h hq v hb hm hi, bind_some, oSU h hq (by omega) hi, bind_some, oSN h hq (by omega) hi, bind_some, (v.cU hs hi).1, (v.cN hs hi).1, ← iI_nat, ← iI_nat]
    by_cases c1 : bh rd (53 + 186 * q) S m i < cU rd (53 + 186 * q) s i
    · left
      rw [if_pos (by rw [iI_lt (by omega) (by omega) (by omega) (by omega)]; exact c1), no (by omega)]; rfl
    · rw [if_neg (by rw [iI_lt (by omega) (by omega) (by omega) (by omega)]; exact c1)]
      by_cases c2 : (cN rd (53 + 186 * q) s i : Int) ≤ bh rd (53 + 186 * q) S m i
      · right
        rw [if_pos (by rw [iI_le (by omega) (by omega) (by omega) (by omega)]; exact c2), bnd_e, nI_1]
        refine ⟨(), rfl, fun k hk => ?_⟩
        by_cases e : k = i
        · subst e; omega
        · exact h1 k (by omega)
      · left
        rw [if_neg (by rw [iI_le (by omega) (by omega) (by omega) (by omega)]; exact c2), no (by omega)]; rfl
/-- what the reference's ways stand on -/
def Mx (τ : St) (rd : Nat → Int32) (q : Nat) (S : Nat → Int) : Prop := MR τ rd ∧ q < 6 ∧ VQ rd (53 + 186 * q) ∧ BY τ S ∧ ∀ i, i < 8 → 0 ≤ S i ∧ S i ≤ 50000000
theorem Mx.Z (X : Mx τ rd q S) (m : Nat) : SB (bh rd (53 + 186 * q) S m) := fun i hi => by
  have h1 := bh_bound (m := m) (S := S) X.2.2.1 hi
  have h2 := X.2.2.2.2 i hi
  omega
theorem Mx.mu {A B : Nat → Prop} {τ' : St} (X : Mx τ rd q S) (u : MU A B τ τ') (h1 : ¬ A 610) (h2 : ¬ A 613) (h3 : ¬ B 3) : Mx τ' rd q S := ⟨X.1.mu u h1 h3, X.2.1, X.2.2.1, X.2.2.2.1.mu u h2, X.2.2.2.2⟩
theorem can_ok {u d s : Nat} (X : Mx τ rd q S) (hu : u < 64) (hd : d < 64) (hs : s < nS rd (53 + 186 * q)) : pf_X11_can 609 (nI q) (nI s) (nI u) (nI d) τ = some (b2i (cnR rd (53 + 186 * q) S d u s)) := by
  obtain ⟨h, hq, v, hb, hS⟩ := id X
  have hn := v.n
  have ca := v.cA hs
  have ca2 : cA rd (53 + 186 * q) s < 64 := ca.2
  unfold pf_X11_can
  rw [ishr_nI u hu s (by omega), if_b2, brokM h hq v hs, bind_some, if_b2, oS4 h hq (by omega), bind_some, ca.1, df_nI _ ca2 _ hu, df_nI _ hu _ hd, if_0 (by have := df_64 (cA rd (53 + 186 * q) s) u; omega), hasItems_ok h hq v hb (df_64 _ _) hs (X.Z _), bind_some, if_b2]
  unfold cnR hcode
  rw [decide_eq_true hs, Bool.true_and]
  cases u.testBit s
  · cases cB rd (53 + 186 * q) s
    · by_cases e : df (cA rd (53 + 186 * q) s) u = 0
      · simp only [e]
        cases allI rd (53 + 186 * q) (bh rd (53 + 186 * q) S (df u d)) s <;> simp <;> rfl
      · simp [e]; rfl
    · simp; rfl
  · simp; rfl
end
theorem mins_ext {f : Nat → Option Nat} : ∀ k n, n ≤ k → (∀ s, n ≤ s → f s = none) → mins k f = mins n f
  | 0, n, h, _ => by rw [show n = 0 by omega]
  | k + 1, n, h, h2 => by
    by_cases e : n = k + 1
    · rw [e]
    · rw [mins, h2 k (by omega), omin_none, mins_ext k n (by omega) h2]
theorem Rch_new2 {rd : Nat → Int32} {b d a t : Nat} {S : Nat → Int} (h : Rch (gl rd b) (cnR rd b S d) a t) : ∀ k, nS rd b ≤ k → t.testBit k = true → a.testBit k = true := Rch.ind (P := fun u => ∀ k, nS rd b ≤ k → u.testBit k = true → a.testBit k = true) (fun _ _ q => q) (fun u s hu _ hc k hk q => by
  have := (cnR_s hc).1
  rw [nx_bit] at q
  have : decide (k = s) = false := decide_eq_false (by omega)
  rw [this, Bool.or_false] at q
  exact hu k hk q) h
theorem sb_le {rd : Nat → Int32} {b d a x : Nat} {S : Nat → Int} (v : VQ rd b) (ha : a < 64) (h : gF (gl rd b) (cnR rd b S d) (cR rd b) a = some x) : x ≤ 600 := by
  obtain ⟨⟨t, h1, h2, h3, h4⟩, -⟩ := gF_least (cnR_ok v.n.1) ha h
  rw [← h4, ← rsum_rs2, rsum_ext 6 (nS rd b) v.n.1]
  · have := rsum_le (r := cR rd b) (m := df t a) (nS rd b) (fun s hs => (v.cR hs).2)
    have := v.n
    omega
  · intro s hs
    rw [df_bit]
    cases e : t.testBit s with
    | false => simp
    | true => simp [Rch_new2 h1 s hs e]
def enF (o : Option Nat) : Nat := o.getD 1000000
theorem omin_F {A B : Option Nat} {c : Nat} (hA : ∀ a, A = some a → a ≤ 1000) (hc : c ≤ 100) {x : Nat} (hB : B = some x) (hx : x ≤ 600) : enF (omin A (B.map (· + c))) = min (enF A) (enF B + c) := by
  subst hB
  cases A with
  | none => show x + c = min 1000000 (x + c); omega
  | some a => rfl
def sup (u d : Nat) : Prop := u &&& d = d
theorem sup_nx {u d s : Nat} (h : sup u d) : sup (nx u s) d := by
  unfold sup at *
  apply Nat.eq_of_testBit_eq
  intro k
  have := congrArg (fun z => z.testBit k) h
  simp only [Nat.testBit_and] at this
  rw [Nat.testBit_and, nx_bit]
  cases e : u.testBit k with
  | false =>
    rw [e] at this
    simp at this
    rw [this]; simp
  | true => simp
theorem sup_self (d : Nat) : sup d d := Nat.and_self d
theorem nx_pow {u s n : Nat} (h : u < 2 ^ n) (hs : s < n) : nx u s < 2 ^ n := by
  unfold nx
  refine Nat.or_lt_two_pow h ?_
  rw [Nat.one_shiftLeft]
  exact Nat.pow_lt_pow_right (by omega) hs
/-- what ways leaves: begun, the fewest and the safest by sets -/
def MWs (τ : St) (rd : Nat → Int32) (b : Nat) (S : Nat → Int) : Prop := gI τ 609 9 = nI (dnM rd b) ∧ ∀ u, u < 2 ^ nS rd b → sup u (dnM rd b) → gI τ 614 u = nI (enF (gF (gl rd b) (cnR rd b S (dnM rd b)) one u)) ∧ gI τ 615 u = nI (enF (gF (gl rd b) (cnR rd b S (dnM rd b)) (cR rd b) u))
def wyA : Nat → Prop := fun i => i = 612 ∨ i = 614 ∨ i = 615
def wyB : Nat → Prop := fun k => k = 9
theorem wyA610 : ¬ wyA 610 := by unfold wyA; omega
theorem wyA613 : ¬ wyA 613 := by unfold wyA; omega
theorem wyB3 : ¬ wyB 3 := by unfold wyB; omega
theorem pow_shl : ∀ n, n ≤ 6 → ishl 1 (nI n) = nI (2 ^ n) := by decide +kernel
theorem ways86 {τ : St} {rd : Nat → Int32} {q u d : Nat} {S : Nat → Int} (X : Mx τ rd q S) (hd : d < 64) (h9 : gI τ 609 9 = nI d) (hu : u < 2 ^ nS rd (53 + 186 * q)) (hg : gl rd (53 + 186 * q) u = false) (hI : gI τ 614 u = 1000000 ∧ gI τ 615 u = 1000000)
    (hN : ∀ k, cnR rd (53 + 186 * q) S d u k = true → gI τ 614 (nx u k) = nI (enF (gF (gl rd (53 + 186 * q)) (cnR rd (53 + 186 * q) S d) one (nx u k))) ∧ gI τ 615 (nx u k) = nI (enF (gF (gl rd (53 + 186 * q)) (cnR rd (53 + 186 * q) S d) (cR rd (53 + 186 * q)) (nx u k))))
    (k199 : Nat → Int32 → Int32 → St → Option (Int32 × St)) (C : Option (Int32 × St) → Prop) (hk : ∀ s, MU (fun i => i = 614 ∨ i = 615) noB τ s → (∀ w, w ≠ u → gI s 614 w = gI τ 614 w ∧ gI s 615 w = gI τ 615 w) → gI s 614 u = nI (enF (gF (gl rd (53 + 186 * q)) (cnR rd (53 + 186 * q) S d) one u)) → gI s 615 u = nI (enF (gF (gl rd (53 + 186 * q)) (cnR rd (53 + 186 * q) S d) (cR rd (53 + 186 * q)) u)) → C (k199 609 (nI q) (nI u) s)) : C (pf_X11_ways_L86 k199 FU 609 (nI q) (nI u) 0 τ) := by
  obtain ⟨h, hq, v, hb, hS⟩ := id X
  have hn := v.n
  have hu64 : u < 64 := Nat.lt_of_lt_of_le hu (Nat.pow_le_pow_right (n := 2) (by omega) hn.1)
  generalize hbe : 53 + 186 * q = b at *
  have hc := cnR_ok (S := S) (d := d) hn.1
  let f : Nat → Option Nat := fun k => if cnR rd b S d u k then (gF (gl rd b) (cnR rd b S d) one (nx u k)).map (· + 1) else none
  let f' : Nat → Option Nat := fun k => if cnR rd b S d u k then (gF (gl rd b) (cnR rd b S d) (cR rd b) (nx u k)).map (· + cR rd b k) else none
  have hno : ∀ k, nS rd b ≤ k → cnR rd b S d u k = false := fun k hk => by
    cases e : cnR rd b S d u k with
    | false => rfl
    | true => have := (cnR_s e).1; omega
  have hf : gF (gl rd b) (cnR rd b S d) one u = mins (nS rd b) f := by
    rw [gF_step hc hu64 hg, ← mins_ext 6 (nS rd b) hn.1 (fun s hs => by simp only [f, hno s hs]; rfl)]; rfl
  have hf' : gF (gl rd b) (cnR rd b S d) (cR rd b) u = mins (nS rd b) f' := by
    rw [gF_step hc hu64 hg, ← mins_ext 6 (nS rd b) hn.1 (fun s hs => by simp only [f', hno s hs]; rfl)]
  have nx6 : ∀ k, cnR rd b S d u k = true → nx u k < 64 := fun k hk => nx_64 u hu64 k (hc u k hk).1
  have b1 : ∀ j a, mins j f = some a → a ≤ 1000 := fun j a ha => by
    obtain ⟨k, _, h2⟩ := mins_at j a ha
    by_cases hk : cnR rd b S d u k = true
    · simp only [f, if_pos hk] at h2
      obtain ⟨m, e1, e2⟩ := Option.map_eq_some_iff.mp h2
      have := gF_le6 hc (nx6 k hk) e1
      omega
    · simp only [f, if_neg hk] at h2; cases h2
  have b2 : ∀ j a, mins j f' = some a → a ≤ 1000 := fun j a ha => by
    obtain ⟨k, _, h2⟩ := mins_at j a ha
    by_cases hk : cnR rd b S d u k = true
    · simp only [f', if_pos hk] at h2
      obtain ⟨m, e1, e2⟩ := Option.map_eq_some_iff.mp h2
      have := sb_le v (nx6 k hk) e1
      have : cR rd b k ≤ 100 := (v.cR (cnR_s hk).1).2
      omega
    · simp only [f', if_neg hk] at h2; cases h2
  refine up_C (fun n i s => pf_X11_ways_L86 k199 n 609 (nI q) (nI u) (nI i) s) (nS rd b) (fun i s => MU (fun i => i = 614 ∨ i = 615) noB τ s ∧ (∀ w, w ≠ u → gI s 614 w = gI τ 614 w ∧ gI s 615 w = gI τ 615 w) ∧ gI s 614 u = nI (enF (mins i f)) ∧ gI s 615 u = nI (enF (mins i f'))) C ?_ ?_ FU 0 τ (Nat.zero_le _) ⟨MU.refl _ _ _, fun w _ => ⟨rfl, rfl⟩, hI.1, hI.2⟩ (lt_FU (by omega))
  · intro n s ⟨h1, h2, h3, h4⟩
    have Xs := X.mu h1 (by omega) (by omega) (fun q => q)
    show C (pf_X11_ways_L86 k199 (n + 1) 609 (nI q) (nI u) (nI (nS rd b)) s)
    rw [pf_X11_ways_L86]
    have es := stepsM Xs.1 hq (by rw [hbe]; exact v)
    rw [hbe] at es
    rw [es, bind_some, if_pos (nI_le (Nat.le_refl _) (by omega))]
    exact hk s h1 h2 (by rw [h3, hf]) (by rw [h4, hf'])
  · intro n i s hi ⟨h1, h2, h3, h4⟩
    have Xs := X.mu h1 (by omega) (by omega) (fun q => q)
    right
    show ∃ s', pf_X11_ways_L86 k199 (n + 1) 609 (nI q) (nI u) (nI i) s = pf_X11_ways_L86 k199 n 609 (nI q) (nI u) (nI (i + 1)) s' ∧ _
    have es := stepsM Xs.1 hq (by rw [hbe]; exact v)
    rw [hbe] at es
    have ec := can_ok Xs hu64 hd (s := i) (by rw [hbe]; exact hi)
    rw [hbe] at ec
    rw [pf_X11_ways_L86, es, bind_some, if_neg (nI_ge hi (by omega)), h1.F (fun q => q), h9, ec, bind_some, if_b2]
    cases hcn : cnR rd b S d u i with
    | false =>
      rw [if_neg Bool.false_ne_true, pf_X11_ways_b193, bnd_e, nI_1]
      refine ⟨s, rfl, h1, h2, ?_, ?_⟩
      · rw [h3, mins, show f i = none by simp only [f, hcn]; rfl, omin_none]
      · rw [h4, mins, show f' i = none by simp only [f', hcn]; rfl, omin_none]
    | true =>
      have ob := hc u i hcn
      have hx := nx_b u hu64 i ob.1 ob.2
      have hxu : nx u i ≠ u := by omega
      rw [if_pos rfl, nx_nI u i ob.1, ckA al614 hx.2, nI_clamp (by omega), (h2 _ hxu).1, (hN i hcn).1]
      cases eF : gF (gl rd b) (cnR rd b S d) one (nx u i) with
      | none =>
        rw [if_pos (show nI (enF none) = (1000000 : Int32) from rfl), pf_X11_ways_b193, bnd_e, nI_1]
        refine ⟨s, rfl, h1, h2, ?_, ?_⟩
        · rw [h3, mins, show f i = none by simp only [f, hcn, eF]; rfl, omin_none]
        · rw [h4, mins, show f' i = none by simp only [f', hcn, gF_isSome hc hx.2 eF]; rfl, omin_none]
      | some x =>
        have hx6 := gF_le6 hc hx.2 eF
        cases eS : gF (gl rd b) (cnR rd b S d) (cR rd b) (nx u i) with
        | none => rw [gF_isSome hc hx.2 eS] at eF; cases eF
        | some y =>
          have hy6 := sb_le v hx.2 eS
          have hcr : cR rd b i ≤ 100 := (v.cR hi).2
          have em : enF (mins i f) ≤ 1000000 := by
            cases e : mins i f with
            | none => exact Nat.le_refl _
            | some a => have := b1 i a e; show a ≤ 1000000; omega
          have em' : enF (mins i f') ≤ 1000000 := by
            cases e : mins i f' with
            | none => exact Nat.le_refl _
            | some a => have := b2 i a e; show a ≤ 1000000; omega
          rw [if_neg (show ¬ nI (enF (some x)) = 1000000 from by rw [show (1000000 : Int32) = nI 1000000 from rfl, nI_eq (by show x < _; omega) (by omega)]; show ¬ x = 1000000; omega), ckA al614 hu64, ckA al614 hx.2, nI_clamp (show u < 2 ^ 31 by omega), h3, nI_1, min7 _ _ (by omega) (by show x + 1 < _; omega), bind_some, ckA al614 hu64, bnd_e, ckA al615 hu64, ckA al615 hx.2]
          have Xt := Xs.mu (MU.arr (A := fun i => i = 614 ∨ i = 615) (B := noB) u (nI (min (enF (mins i f)) (enF (some x) + 1))) (Or.inl rfl) (by decide)) (by omega) (by omega) (fun q => q)
          have eo := oS0 Xt.1 hq (show i < 6 by omega)
          rw [hbe] at eo
          rw [eo, bind_some, gI_ne _ _ _ _ (by decide), gI_ne _ _ _ _ (by decide), h4, (h2 _ hxu).2, (hN i hcn).2, eS, (v.cR hi).1, nI_add, min7 _ _ (by omega) (by show y + _ < _; omega), bind_some, ckA al615 hu64, bnd_e, pf_X11_ways_b193, bnd_e, nI_1]
          refine ⟨_, rfl, h1.trans (MU.trans (MU.arr _ _ (Or.inl rfl) (by decide)) (MU.arr _ _ (Or.inr rfl) (by decide))), fun w hw => ⟨?_, ?_⟩, ?_, ?_⟩
          · rw [gI_ne _ _ _ _ (by decide), gI_ns _ _ _ hw]; exact (h2 w hw).1
          · rw [gI_ns _ _ _ hw, gI_ne _ _ _ _ (by decide)]; exact (h2 w hw).2
          · rw [gI_ne _ _ _ _ (by decide), gI_at, mins, show f i = (some x).map (· + 1) by simp only [f, hcn, eF]; rfl, omin_F (b1 i) (by omega) rfl (by omega)]
          · rw [gI_at, mins, show f' i = (some y).map (· + cR rd b i) by simp only [f', hcn, eS]; rfl, omin_F (b2 i) hcr rfl (by omega)]
