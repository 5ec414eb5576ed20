/-! CAMPAIGN -/
theorem nextQ {σ : St} {rd : Nat → Int32} {b u w : Nat} {S : Nat → Int} (v : VQ rd b) (hW : WS rd b S (dnM rd b) (decide (rd (b + 1) = 0)) σ) (h0 : rd (b + 1) = 0) (hr : Rch (gl rd b) (cnR rd b S (dnM rd b)) (dnM rd b) u) (hF : gF (gl rd b) (cnR rd b S (dnM rd b)) one u = some (w + 1)) : pf_X7_nextOfPlan 602 (nI u) σ = some (nI (stp (gl rd b) (cnR rd b S (dnM rd b)) u)) := by
  have hd := dnM_64 v
  generalize hde : dnM rd b = d at *
  have hc := cnR_ok (S := S) (d := d) v.n.1
  have hu := Rch.lt hc hd hr
  obtain ⟨q1, q2, q3, q4, q5⟩ := gF_succ hc hu hF
  have hop : decide (rd (b + 1) = 0) = true := decide_eq_true h0
  have e4 : gI σ 604 u = nI (msk 6 (cnR rd b S d u)) := (hW.2.1 u hu).1 ⟨hop, hr, q1⟩
  have e5 : gI σ 605 u = nI (w + 1) := by rw [(hW.2.2 u hu).1 ⟨hop, hr⟩]; unfold tgF; rw [hF]; rfl
  have hw6 := gF_le6 hc hu hF
  have hm : msk 6 (cnR rd b S d u) < 64 := msk_64 _ (Nat.le_refl _)
  have e5n : ∀ k, cnR rd b S d u k = true → gI σ 605 (nx u k) = nI (tgF rd b S d (nx u k)) := fun k hk => (hW.2.2 _ (nx_64 u hu k (hc u k hk).1)).1 ⟨hop, hr.step q1 hk⟩
  have hnx : ∀ k, cnR rd b S d u k = true → (tgF rd b S d (nx u k) = w ↔ isNx (gl rd b) (cnR rd b S d) u k = true) := fun k hk => by
    unfold isNx tgF
    rw [hk, hF, Bool.true_and, decide_eq_true_eq]
    have hx := nx_64 u hu k (hc u k hk).1
    cases e : gF (gl rd b) (cnR rd b S d) one (nx u k) with
    | none => simp; omega
    | some x => simp
  unfold pf_X7_nextOfPlan
  refine up_C (fun n i (_ : Unit) => pf_X7_nextOfPlan_L2 σ n 602 (nI u) (nI i)) 6 (fun i _ => ∀ k, k < i → isNx (gl rd b) (cnR rd b S d) u k = false) (fun r => r = some (nI (stp (gl rd b) (cnR rd b S d) u))) ?_ ?_ FU 0 () (Nat.zero_le _) (fun k hk => absurd hk (Nat.not_lt_zero _)) (lt_FU (by omega))
  · intro n _ h1
    have := h1 _ q2
    unfold isNx at this
    rw [q3, q4, hF] at this
    simp at this
  · intro n i _ hi h1
    show pf_X7_nextOfPlan_L2 σ (n + 1) 602 (nI u) (nI i) = _ ∨ ∃ _ : Unit, pf_X7_nextOfPlan_L2 σ (n + 1) 602 (nI u) (nI i) = pf_X7_nextOfPlan_L2 σ n 602 (nI u) (nI (i + 1)) ∧ _
    rw [pf_X7_nextOfPlan_L2, show (6 : Int32) = nI 6 from rfl, if_neg (nI_ge hi (by omega)), at_ok al604 hu, bind_some, e4, if_u (by omega) (by omega), bit_msk6 (fun k hk => (hc u k hk).1)]
    have skip : isNx (gl rd b) (cnR rd b S d) u i = false → ∀ k, k < i + 1 → isNx (gl rd b) (cnR rd b S d) u k = false := fun q k hk => by
      by_cases e : k = i
      · subst e; exact q
      · exact h1 k (by omega)
    cases hcn : cnR rd b S d u i with
    | false =>
      right
      refine ⟨(), ?_, skip (by unfold isNx; rw [hcn]; rfl)⟩
      rw [if_neg Bool.false_ne_true, pf_X7_nextOfPlan_b28, if_pos rfl, pf_X7_nextOfPlan_b60, bnd_e, nI_1]
    | true =>
      have hx := nx_64 u hu i hi
      have ht : tgF rd b S d (nx u i) ≤ 99 := by
        unfold tgF
        cases e : gF (gl rd b) (cnR rd b S d) one (nx u i) with
        | none => decide
        | some x => have := gF_le6 hc hx e; show x ≤ 99; omega
      rw [if_pos rfl, pf_X7_nextOfPlan_b28, if_neg (by decide), nx_nI u i hi, at_ok al605 hx, bind_some, at_ok al605 hu, bind_some, e5n i hcn, e5, nI_pred]
      by_cases e : tgF rd b S d (nx u i) = w
      · left
        rw [if_pos (by rw [e])]
        have hp := (hnx i hcn).mp e
        have : stp (gl rd b) (cnR rd b S d) u = i := fst6_of hi hp h1
        rw [this]
      · right
        refine ⟨(), ?_, skip ?_⟩
        · rw [if_neg (by rw [nI_eq (by omega) (by omega)]; exact e), pf_X7_nextOfPlan_b60, bnd_e, nI_1]
        · cases q : isNx (gl rd b) (cnR rd b S d) u i with
          | false => rfl
          | true => exact absurd ((hnx i hcn).mpr q) e
theorem WS.un {rd : Nat → Int32} {b d : Nat} {S : Nat → Int} {op : Bool} {s s' : St} (h : WS rd b S d op s) (h2 : gL s' 602 = gL s 602) (h4 : gI s' 604 = gI s 604) (h5 : gI s' 605 = gI s 605) : WS rd b S d op s' := by
  unfold WS at *
  rw [h2, h4, h5]
  exact h
/-! only a quest's own cells count -/
section
variable {rd R : Nat → Int32} {b : Nat}
theorem cg_n (he : ∀ k, b ≤ k → k < b + 186 → R k = rd k) : nS R b = nS rd b := by unfold nS; rw [he b (by omega) (by omega)]
theorem allI_cg {Z : Nat → Int} {s : Nat} (he : ∀ k, b ≤ k → k < b + 186 → R k = rd k) (hs : s < 6) : allI R b Z s = allI rd b Z s := by
  rw [Bool.eq_iff_iff, allI_iff, allI_iff]
  unfold cU cN
  constructor
  · intro h i hi
    have := h i hi
    rw [he _ (by omega) (by omega), he _ (by omega) (by omega)] at this
    exact this
  · intro h i hi
    rw [he _ (by omega) (by omega), he _ (by omega) (by omega)]
    exact h i hi
theorem hcode_cg {Z : Nat → Int} {u s : Nat} (he : ∀ k, b ≤ k → k < b + 186 → R k = rd k) (hs : s < 6) : hcode R b Z u s = hcode rd b Z u s := by
  unfold hcode
  rw [allI_cg he hs]
  unfold cB cA
  rw [he (b + 6 + 30 * s + 1) (by omega) (by omega), he (b + 6 + 30 * s + 2) (by omega) (by omega), he (b + 6 + 30 * s + 4) (by omega) (by omega)]
theorem bhs_cg {m i : Nat} (he : ∀ k, b ≤ k → k < b + 186 → R k = rd k) (hi : i < 8) : ∀ k, k ≤ 6 → bhs R b m i k = bhs rd b m i k
  | 0, _ => rfl
  | k + 1, h => by
    rw [bhs, bhs, bhs_cg he hi k (by omega)]
    unfold cG cU
    rw [he _ (by omega) (by omega), he _ (by omega) (by omega)]
theorem bh_cg {m i : Nat} {S : Nat → Int} (he : ∀ k, b ≤ k → k < b + 186 → R k = rd k) (hn : nS rd b ≤ 6) (hi : i < 8) : bh R b S m i = bh rd b S m i := by
  unfold bh
  rw [cg_n he, bhs_cg he hi _ hn]
theorem allI_Z {Z Z' : Nat → Int} {s : Nat} (h : ∀ i, i < 8 → Z i = Z' i) : allI rd b Z s = allI rd b Z' s := by
  rw [Bool.eq_iff_iff, allI_iff, allI_iff]
  constructor
  · intro q i hi
    rw [← h i hi]; exact q i hi
  · intro q i hi
    rw [h i hi]; exact q i hi
theorem cnR_cg {S : Nat → Int} {d : Nat} (he : ∀ k, b ≤ k → k < b + 186 → R k = rd k) (hn : nS rd b ≤ 6) : cnR R b S d = cnR rd b S d := by
  funext u s
  unfold cnR
  rw [cg_n he]
  by_cases c : s < nS rd b
  · rw [decide_eq_true c, Bool.true_and, Bool.true_and, hcode_cg he (by omega)]
    unfold hcode
    rw [allI_Z (fun i hi => bh_cg he hn hi)]
  · rw [decide_eq_false c, Bool.false_and, Bool.false_and]
theorem posb_cg {S : Nat → Int} (V : VQ rd b) (he : ∀ k, b ≤ k → k < b + 186 → R k = rd k) (hg : ∀ k, 2769 ≤ k → k < 4370 → R k = rd k) : posb R b S = posb rd b S ∧ gl R b = gl rd b ∧ dnM R b = dnM rd b ∧ plN R b S = plN rd b S := by
  have e1 : gl R b = gl rd b := funext fun u => (V.2.2.2.2.1.cong (he b (by omega) (by omega)) (he _ (by omega) (by omega)) (he _ (by omega) (by omega)) hg).2 u
  have e2 : dnM R b = dnM rd b := dnM_cong V.n.1 he
  refine ⟨?_, e1, e2, ?_⟩
  · unfold posb
    rw [e1, e2, cnR_cg he V.n.1, he (b + 1) (by omega) (by omega)]
  · unfold plN
    rw [e1, e2, cnR_cg he V.n.1]
end
/-! a quest finished by its plan -/
def pSt (R : Nat → Int32) (q k : Nat) : Nat := stp (gl R (53 + 186 * q)) (cnR R (53 + 186 * q) (stk R) (dnM R (53 + 186 * q))) (plS (gl R (53 + 186 * q)) (cnR R (53 + 186 * q) (stk R) (dnM R (53 + 186 * q))) k (dnM R (53 + 186 * q)))
def pU (R : Nat → Int32) (q k : Nat) : Nat := plS (gl R (53 + 186 * q)) (cnR R (53 + 186 * q) (stk R) (dnM R (53 + 186 * q))) k (dnM R (53 + 186 * q))
def fnR (R : Nat → Int32) (q : Nat) : Nat → (Nat → Int32)
  | 0 => R
  | k + 1 => suc (fnR R q k) q (pSt R q k)
def finR (R : Nat → Int32) (q : Nat) : Nat → Int32 := fnR R q (plN R (53 + 186 * q) (stk R))
theorem suc_st {B q s : Nat} {rd : Nat → Int32} (v : VR B rd) (hB : B + 198 ≤ 50000000) (hq : q < Nn (rd 0)) (t : Tr rd q s) : ∀ i, i < 8 → (Nn (suc rd q s (5 + i)) : Int) = Nn (rd (5 + i)) - cU rd (53 + 186 * q) s i + cG rd (53 + 186 * q) s i + (if sucH rd q s = true ∧ i = Nn (rd (53 + 186 * q + 2)) then (Nn (rd (53 + 186 * q + 3)) : Int) else 0) := by
  intro i hi
  have n0 := v.n0
  have hc : cP q s = 53 + 186 * q + 6 + 30 * s := rfl
  have V := (v.2.2.2.2.2.2.1 q hq).1
  have vs := V.s t.2.1
  obtain ⟨x1, x2, V2, x4⟩ := sucD_V v hB hq t.2.1 t.2.2.1
  have ed : ∀ k, (k < 5 ∨ 13 ≤ k) → k ≠ cP q s + 3 → sucD rd q s k = rd k := fun k h1 h2 => sucD_out _ h1 h2
  have st3 : sucD rd q s (5 + i) = nI (Nn (rd (5 + i)) - cU rd (53 + 186 * q) s i + cG rd (53 + 186 * q) s i) := by
    obtain ⟨a, e1, e2, e3⟩ := (v.2.2.2.2.1 i hi).get
    obtain ⟨x, f1, f2, f3⟩ := (vs.2.2.2.2.2.2 i (by omega)).get
    obtain ⟨g, g1, g2, g3⟩ := (vs.2.2.2.2.2.2 (16 + i) (by omega)).get
    have hui := t.2.2.1 i hi
    unfold cU at hui
    rw [f3, e3] at hui
    have e22 : cP q s + 22 + i = 53 + 186 * q + 6 + 30 * s + 6 + (16 + i) := by omega
    have e22' : 53 + 186 * q + 6 + 30 * s + 22 + i = 53 + 186 * q + 6 + 30 * s + 6 + (16 + i) := by omega
    unfold sucD
    rw [up_ne _ _ (by omega)]
    unfold gvR
    rw [pkI_in _ _ hi]
    unfold gvf
    rw [tkR_out _ _ (show cP q s + 22 + i < 5 ∨ 13 ≤ cP q s + 22 + i by omega), e22, g1]
    unfold tkR
    rw [pkI_in _ _ hi]
    unfold tkf
    rw [show cP q s + 6 + i = 53 + 186 * q + 6 + 30 * s + 6 + i by omega, e1, f1, pk_sub hui, nI_add]
    unfold cU cG
    rw [f3, e22', g3, Nn_nI (by omega)]
  have hle := t.2.2.1 i hi
  have hb := (v.2.2.2.2.1 i hi).2
  have hg : cG rd (53 + 186 * q) s i ≤ 99 := by
    have := (vs.2.2.2.2.2.2 (16 + i) (by omega)).2
    rw [show 53 + 186 * q + 6 + 30 * s + 6 + (16 + i) = 53 + 186 * q + 6 + 30 * s + 22 + i by omega] at this
    exact this
  have hit := V.2.2.1.2
  obtain ⟨am, f1, f2, f3⟩ := V.2.2.2.1.get
  unfold suc
  cases hh : sucH rd q s with
  | false =>
    rw [if_neg Bool.false_ne_true, st3, Nn_nI (by omega), if_neg (fun e => Bool.false_ne_true e.1)]
    omega
  | true =>
    rw [if_pos rfl]
    unfold sucE
    rw [ed (53 + 186 * q + 2) (by omega) (by omega), ed (53 + 186 * q + 3) (by omega) (by omega)]
    by_cases c : i = Nn (rd (53 + 186 * q + 2))
    · rw [if_pos ⟨rfl, c⟩, ← c, up_at, st3, f1, nI_add, Nn_nI (by omega), Nn_nI (by omega)]
      omega
    · rw [if_neg (fun e => c e.2), up_ne _ _ (by omega), up_ne _ _ (by omega), st3, Nn_nI (by omega)]
      omega
def FI (B q : Nat) (R : Nat → Int32) (N k : Nat) : Prop := VR (B + 198 * k) (fnR R q k) ∧ (∀ j, (j < 5 ∨ 13 ≤ j) → (∀ s, s < 6 → j ≠ cP q s + 3) → j ≠ 53 + 186 * q + 1 → fnR R q k j = R j) ∧ dnM (fnR R q k) (53 + 186 * q) = pU R q k ∧ (k < N → fnR R q k (53 + 186 * q + 1) = 0) ∧ (k = N → fnR R q k (53 + 186 * q + 1) = nI 1) ∧ ∀ i, i < 8 → (Nn (fnR R q k (5 + i)) : Int) = bh R (53 + 186 * q) (stk R) (df (pU R q k) (dnM R (53 + 186 * q))) i + (if k = N ∧ i = Nn (R (53 + 186 * q + 2)) then (Nn (R (53 + 186 * q + 3)) : Int) else 0)
theorem FI.v {B q N k : Nat} {R : Nat → Int32} (h : FI B q R N k) : VR (B + 198 * k) (fnR R q k) := h.1
theorem FI.c {B q N k : Nat} {R : Nat → Int32} (h : FI B q R N k) : ∀ j, (j < 5 ∨ 13 ≤ j) → (∀ s, s < 6 → j ≠ cP q s + 3) → j ≠ 53 + 186 * q + 1 → fnR R q k j = R j := h.2.1
theorem FI.d {B q N k : Nat} {R : Nat → Int32} (h : FI B q R N k) : dnM (fnR R q k) (53 + 186 * q) = pU R q k := h.2.2.1
theorem FI.o {B q N k : Nat} {R : Nat → Int32} (h : FI B q R N k) (e : k < N) : fnR R q k (53 + 186 * q + 1) = 0 := h.2.2.2.1 e
theorem FI.z {B q N k : Nat} {R : Nat → Int32} (h : FI B q R N k) (e : k = N) : fnR R q k (53 + 186 * q + 1) = nI 1 := h.2.2.2.2.1 e
theorem FI.s {B q N k : Nat} {R : Nat → Int32} (h : FI B q R N k) : ∀ i, i < 8 → (Nn (fnR R q k (5 + i)) : Int) = bh R (53 + 186 * q) (stk R) (df (pU R q k) (dnM R (53 + 186 * q))) i + (if k = N ∧ i = Nn (R (53 + 186 * q + 2)) then (Nn (R (53 + 186 * q + 3)) : Int) else 0) := h.2.2.2.2.2
theorem FI.t {B q N k : Nat} {R : Nat → Int32} (F : FI B q R N k) (v : VR B R) (hq : q < Nn (R 0)) (hF : gF (gl R (53 + 186 * q)) (cnR R (53 + 186 * q) (stk R) (dnM R (53 + 186 * q))) one (dnM R (53 + 186 * q)) = some N) (hk : k < N) : Tr (fnR R q k) q (pSt R q k) ∧ (dnM (fnR R q k) (53 + 186 * q)).testBit (pSt R q k) = false ∧ pU R q (k + 1) = nx (pU R q k) (pSt R q k) ∧ pSt R q k < nS R (53 + 186 * q) ∧ cnR R (53 + 186 * q) (stk R) (dnM R (53 + 186 * q)) (pU R q k) (pSt R q k) = true := by
  have n0 := v.n0
  have V := (v.2.2.2.2.2.2.1 q hq).1
  have hn := V.n
  have hd := dnM_64 V
  have hc := cnR_ok (S := stk R) (d := dnM R (53 + 186 * q)) hn.1
  obtain ⟨a1, a2, a3⟩ := plS_at hc k _ N hd hF (by omega)
  rw [show N - k = (N - k - 1) + 1 by omega] at a3
  obtain ⟨q1, q2, q3, q4, q5⟩ := gF_succ hc a1 a3
  have q3' : cnR R (53 + 186 * q) (stk R) (dnM R (53 + 186 * q)) (pU R q k) (pSt R q k) = true := q3
  have hs := (cnR_s q3').1
  have hh := (cnR_s q3').2
  have en : nS (fnR R q k) (53 + 186 * q) = nS R (53 + 186 * q) := by unfold nS; rw [F.c _ (by omega) (fun s hs => by unfold cP; omega) (by omega)]
  have hb : (pU R q k).testBit (pSt R q k) = false := (hc _ _ q3').2
  unfold hcode at hh
  rw [hb, if_neg Bool.false_ne_true] at hh
  by_cases c2 : cB R (53 + 186 * q) (pSt R q k) = true
  · rw [if_pos c2] at hh; omega
  · rw [if_neg c2] at hh
    by_cases c3 : df (cA R (53 + 186 * q) (pSt R q k)) (pU R q k) ≠ 0
    · rw [if_pos c3] at hh; omega
    · rw [if_neg c3] at hh
      by_cases c4 : allI R (53 + 186 * q) (bh R (53 + 186 * q) (stk R) (df (pU R q k) (dnM R (53 + 186 * q)))) (pSt R q k) = true
      · refine ⟨⟨F.o hk, by rw [en]; exact hs, fun i hi => ?_, ?_, by rw [F.d]; exact hb⟩, by rw [F.d]; exact hb, plS_succ k _, hs, q3'⟩
        · have h1 := (allI_iff.mp c4 i hi).1
          have h2 := F.s i hi
          rw [if_neg (fun e => by omega), Int.add_zero] at h2
          have h3 : cU (fnR R q k) (53 + 186 * q) (pSt R q k) i = cU R (53 + 186 * q) (pSt R q k) i := by
            unfold cU
            rw [F.c _ (by omega) (fun s hs => by unfold cP; omega) (by omega)]
          rw [h3]
          omega
        · have h3 : cB (fnR R q k) (53 + 186 * q) (pSt R q k) = cB R (53 + 186 * q) (pSt R q k) := by
            unfold cB
            rw [F.c _ (by omega) (fun s hs => by unfold cP; omega) (by omega), F.c _ (by omega) (fun s hs => by unfold cP; omega) (by omega)]
          rw [h3]
          simpa using c2
      · rw [if_neg c4] at hh; omega
theorem FI.all {B q : Nat} {R : Nat → Int32} (v : VR B R) (hB : B + 1386 ≤ 50000000) (hq : q < Nn (R 0)) (hp : posb R (53 + 186 * q) (stk R) = true) : ∀ k, k ≤ plN R (53 + 186 * q) (stk R) → FI B q R (plN R (53 + 186 * q) (stk R)) k := by
  have n0 := v.n0
  have V := (v.2.2.2.2.2.2.1 q hq).1
  have hn := V.n
  have hd := dnM_64 V
  have hc := cnR_ok (S := stk R) (d := dnM R (53 + 186 * q)) hn.1
  obtain ⟨p1, p2, p3⟩ := posb_t V hp
  obtain ⟨_, w, hw, _⟩ := nst_ok v hq hp
  intro k
  induction k with
  | zero =>
    intro _
    refine ⟨v, fun j _ _ _ => rfl, rfl, fun _ => p1, fun e => by omega, fun i hi => ?_⟩
    rw [if_neg (fun e => by omega), Int.add_zero]
    show (Nn (R (5 + i)) : Int) = bh R (53 + 186 * q) (stk R) (df (dnM R (53 + 186 * q)) (dnM R (53 + 186 * q))) i
    rw [df_self, bh_0]; rfl
  | succ k ih =>
    intro hk
    have F := ih (by omega)
    obtain ⟨T, tb, eu, hs, hcn⟩ := F.t v hq p2 (by omega)
    have ec : ∀ j, (j < 5 ∨ 13 ≤ j) → (∀ s, s < 6 → j ≠ cP q s + 3) → j ≠ 53 + 186 * q + 1 → fnR R q k j = R j := F.c
    have e0 : fnR R q k 0 = R 0 := ec 0 (by omega) (fun s _ => by unfold cP; omega) (by omega)
    have hq' : q < Nn (fnR R q k 0) := by rw [e0]; exact hq
    have hkB : B + 198 * k + 198 ≤ 50000000 := by omega
    obtain ⟨f1, f2, f3⟩ := suc_c F.v hkB hq' T
    have Vk := (F.v.2.2.2.2.2.2.1 q hq').1
    obtain ⟨x1, x2, V2, x4⟩ := sucD_V F.v hkB hq' T.2.1 T.2.2.1
    have hgl : ∀ u, gl (sucD (fnR R q k) q (pSt R q k)) (53 + 186 * q) u = gl R (53 + 186 * q) u := fun u => by
      have e1 : ∀ j, (j = 53 + 186 * q ∨ j = 53 + 186 * q + 4 ∨ j = 53 + 186 * q + 5 ∨ 2769 ≤ j) → sucD (fnR R q k) q (pSt R q k) j = R j := fun j hj => by
        rw [sucD_out _ (by omega) (by unfold cP; omega), ec j (by omega) (fun s hs => by unfold cP; omega) (by omega)]
      exact (V.2.2.2.2.1.cong (e1 _ (by omega)) (e1 _ (by omega)) (e1 _ (by omega)) (fun j a1 a2 => e1 j (by omega))).2 u
    have hdn : dnM (sucD (fnR R q k) q (pSt R q k)) (53 + 186 * q) = pU R q (k + 1) := by rw [x2, F.d, eu]; rfl
    obtain ⟨a1, a2, a3⟩ := plS_at hc (k + 1) _ _ hd p2 hk
    have hH : sucH (fnR R q k) q (pSt R q k) = decide (k + 1 = plN R (53 + 186 * q) (stk R)) := by
      unfold sucH
      rw [hgl, hdn]
      by_cases e : k + 1 = plN R (53 + 186 * q) (stk R)
      · rw [decide_eq_true e]
        rw [show plN R (53 + 186 * q) (stk R) - (k + 1) = 0 by omega] at a3
        exact gF_zero hc a1 a3
      · rw [decide_eq_false e]
        rw [show plN R (53 + 186 * q) (stk R) - (k + 1) = (plN R (53 + 186 * q) (stk R) - (k + 2)) + 1 by omega] at a3
        exact (gF_succ hc a1 a3).1
    have e3 : fnR R q (k + 1) = suc (fnR R q k) q (pSt R q k) := rfl
    refine ⟨?_, fun j h1 h2 h3 => ?_, ?_, fun h => ?_, fun h => ?_, fun i hi => ?_⟩
    · rw [e3]
      have := (suc_V F.v hkB hq' T.2.1 T.2.2.1).1
      rw [show B + 198 * (k + 1) = B + 198 * k + 198 by omega]
      exact this
    · rw [e3, f1 j h1 h3 (h2 _ (by omega)), ec j h1 h2 h3]
    · rw [← hdn, e3]
      have hc' : cP q (pSt R q k) = 53 + 186 * q + 6 + 30 * pSt R q k := rfl
      unfold suc
      split
      · have hnS : nS (sucD (fnR R q k) q (pSt R q k)) (53 + 186 * q) ≤ 6 := by
          unfold nS
          rw [sucD_out _ (by omega) (by omega), ec _ (by omega) (fun s hs => by unfold cP; omega) (by omega)]
          exact hn.1
        have hit : Nn (sucD (fnR R q k) q (pSt R q k) (53 + 186 * q + 2)) ≤ 7 := by
          rw [sucD_out _ (by omega) (by omega), ec _ (by omega) (fun s hs => by unfold cP; omega) (by omega)]
          exact V.2.2.1.2
        unfold dnM sucE
        rw [up_ne _ _ (by omega), up_ne _ _ (by omega)]
        have hnS' : Nn (sucD (fnR R q k) q (pSt R q k) (53 + 186 * q)) ≤ 6 := hnS
        exact msk_congr _ fun t ht => by rw [up_ne _ _ (by omega), up_ne _ _ (by omega)]
      · rfl
    · rw [e3, f3, hH, decide_eq_false (by omega)]; rfl
    · rw [e3, f3, hH, decide_eq_true h]; rfl
    · rw [e3, suc_st F.v hkB hq' T i hi, F.s i hi, if_neg (fun e => by omega), eu, df_nx (by omega) (by
        have := (dnM_pow R (53 + 186 * q))
        cases h : (dnM R (53 + 186 * q)).testBit (pSt R q k) with
        | false => rfl
        | true =>
          have h1 := Rch_sup (plS_at hc k _ _ hd p2 (by omega)).2.1
          have h2 : (pU R q k).testBit (pSt R q k) = false := (hc _ _ hcn).2
          have h3 : pU R q k &&& dnM R (53 + 186 * q) = dnM R (53 + 186 * q) := h1
          have h4 : (pU R q k &&& dnM R (53 + 186 * q)).testBit (pSt R q k) = true := by rw [h3]; exact h
          rw [Nat.testBit_and, h2, Bool.false_and] at h4
          exact absurd h4 Bool.false_ne_true), bh_nx (by
        rw [df_bit, (hc _ _ hcn).2]; simp) hs, hH]
      have h3 : cU (fnR R q k) (53 + 186 * q) (pSt R q k) i = cU R (53 + 186 * q) (pSt R q k) i := by
        unfold cU
        rw [ec _ (by omega) (fun s hs => by unfold cP; omega) (by omega)]
      have h4 : cG (fnR R q k) (53 + 186 * q) (pSt R q k) i = cG R (53 + 186 * q) (pSt R q k) i := by
        unfold cG
        rw [ec _ (by omega) (fun s hs => by unfold cP; omega) (by omega)]
      rw [h3, h4, ec _ (by omega) (fun s hs => by unfold cP; omega) (by omega), ec _ (by omega) (fun s hs => by unfold cP; omega) (by omega)]
      simp only [decide_eq_true_eq]
      split <;> omega
