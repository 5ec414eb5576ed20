/-! WAYS in the class: what is asked of them -/
def plN (rd : Nat → Int32) (b : Nat) (S : Nat → Int) : Nat := (gF (gl rd b) (cnR rd b S (dnM rd b)) one (dnM rd b)).getD 0
/-- all that a question of ways stands on -/
def Wy (σ : St) (a : Nat) (rd : Nat → Int32) (b : Nat) (S : Nat → Int) : Prop := Wx σ a rd b S ∧ WS rd b S (dnM rd b) (decide (rd (b + 1) = 0)) σ
theorem posb_t {rd : Nat → Int32} {b : Nat} {S : Nat → Int} (v : VQ rd b) (h : posb rd b S = true) : rd (b + 1) = 0 ∧ gF (gl rd b) (cnR rd b S (dnM rd b)) one (dnM rd b) = some (plN rd b S) ∧ plN rd b S ≤ 6 := by
  unfold posb at h
  rw [Bool.and_eq_true, decide_eq_true_eq, Option.isSome_iff_exists] at h
  obtain ⟨h1, x, h2⟩ := h
  have e : plN rd b S = x := by unfold plN; rw [h2]; rfl
  rw [e]
  exact ⟨h1, h2, gF_le6 (cnR_ok v.n.1) (dnM_64 v) h2⟩
theorem posb_f {rd : Nat → Int32} {b : Nat} {S : Nat → Int} (h : posb rd b S = false) (h0 : rd (b + 1) = 0) : gF (gl rd b) (cnR rd b S (dnM rd b)) one (dnM rd b) = none := by
  unfold posb at h
  rw [decide_eq_true h0, Bool.true_and] at h
  simpa using h
theorem lenP {σ : St} {a : Nat} {rd : Nat → Int32} {b : Nat} {S : Nat → Int} (Y : Wy σ a rd b S) : pf_X7_lengthOfPlan 602 a σ = some (if posb rd b S then nI (plN rd b S) else -1) := by
  obtain ⟨⟨ka, ha, v, hq, hS⟩, hW⟩ := Y
  have hd := dnM_64 v
  unfold pf_X7_lengthOfPlan
  rw [hq.2.2.1, at_ok al605 hd, bind_some]
  cases hp : posb rd b S with
  | true =>
    obtain ⟨h1, h2, h3⟩ := posb_t v hp
    rw [(hW.2.2 _ hd).1 ⟨decide_eq_true h1, Rch.refl _⟩]
    unfold tgF
    rw [h2]
    show (if (99 : Int32) ≤ nI (plN rd b S) then some (-1) else some (nI (plN rd b S))) = _
    rw [show (99 : Int32) = nI 99 from rfl, if_neg (nI_ge (by omega) (by omega))]; rfl
  | false =>
    have e : gI σ 605 (dnM rd b) = 99 := by
      by_cases h0 : rd (b + 1) = 0
      · rw [(hW.2.2 _ hd).1 ⟨decide_eq_true h0, Rch.refl _⟩]
        unfold tgF
        rw [posb_f hp h0]; rfl
      · refine (hW.2.2 _ hd).2 fun q => h0 (of_decide_eq_true q.1)
    rw [e, if_pos (by decide)]; rfl
theorem nextP {σ : St} {a : Nat} {rd : Nat → Int32} {b u w : Nat} {S : Nat → Int} (Y : Wy σ a rd b S) (h0 : rd (b + 1) = 0) (hr : Rch (gl rd b) (cnR rd b S (dnM rd b)) (dnM rd b) u) (hF : gF (gl rd b) (cnR rd b S (dnM rd b)) one u = some (w + 1)) : pf_X7_nextOfPlan 602 (nI u) σ = some (nI (stp (gl rd b) (cnR rd b S (dnM rd b)) u)) := by
  obtain ⟨⟨ka, ha, v, hq, hS⟩, hW⟩ := Y
  have hd := dnM_64 v
  generalize hde : dnM rd b = d at *
  have hc := cnR_ok (S := S) (d := d) v.n.1
  have hu := Rch.lt hc hd hr
  obtain ⟨q1, q2, q3, q4, q5⟩ := gF_succ hc hu hF
  have hop : decide (rd (b + 1) = 0) = true := decide_eq_true h0
  have e4 : gI σ 604 u = nI (msk 6 (cnR rd b S d u)) := (hW.2.1 u hu).1 ⟨hop, hr, q1⟩
  have e5 : gI σ 605 u = nI (w + 1) := by rw [(hW.2.2 u hu).1 ⟨hop, hr⟩]; unfold tgF; rw [hF]; rfl
  have hw6 := gF_le6 hc hu hF
  have hm : msk 6 (cnR rd b S d u) < 64 := msk_64 _ (Nat.le_refl _)
  have e5n : ∀ k, cnR rd b S d u k = true → gI σ 605 (nx u k) = nI (tgF rd b S d (nx u k)) := fun k hk => (hW.2.2 _ (nx_64 u hu k (hc u k hk).1)).1 ⟨hop, hr.step q1 hk⟩
  have hnx : ∀ k, cnR rd b S d u k = true → (tgF rd b S d (nx u k) = w ↔ isNx (gl rd b) (cnR rd b S d) u k = true) := fun k hk => by
    unfold isNx tgF
    rw [hk, hF, Bool.true_and, decide_eq_true_eq]
    have hx := nx_64 u hu k (hc u k hk).1
    cases e : gF (gl rd b) (cnR rd b S d) one (nx u k) with
    | none => simp; omega
    | some x => simp
  unfold pf_X7_nextOfPlan
  refine up_C (fun n i (_ : Unit) => pf_X7_nextOfPlan_L2 σ n 602 (nI u) (nI i)) 6 (fun i _ => ∀ k, k < i → isNx (gl rd b) (cnR rd b S d) u k = false) (fun r => r = some (nI (stp (gl rd b) (cnR rd b S d) u))) ?_ ?_ FU 0 () (Nat.zero_le _) (fun k hk => absurd hk (Nat.not_lt_zero _)) (lt_FU (by omega))
  · intro n _ h1
    have := h1 _ q2
    unfold isNx at this
    rw [q3, q4, hF] at this
    simp at this
  · intro n i _ hi h1
    show pf_X7_nextOfPlan_L2 σ (n + 1) 602 (nI u) (nI i) = _ ∨ ∃ _ : Unit, pf_X7_nextOfPlan_L2 σ (n + 1) 602 (nI u) (nI i) = pf_X7_nextOfPlan_L2 σ n 602 (nI u) (nI (i + 1)) ∧ _
    rw [pf_X7_nextOfPlan_L2, show (6 : Int32) = nI 6 from rfl, if_neg (nI_ge hi (by omega)), at_ok al604 hu, bind_some, e4, if_u (by omega) (by omega), bit_msk6 (fun k hk => (hc u k hk).1)]
    have skip : isNx (gl rd b) (cnR rd b S d) u i = false → ∀ k, k < i + 1 → isNx (gl rd b) (cnR rd b S d) u k = false := fun q k hk => by
      by_cases e : k = i
      · subst e; exact q
      · exact h1 k (by omega)
    cases hcn : cnR rd b S d u i with
    | false =>
      right
      refine ⟨(), ?_, skip (by unfold isNx; rw [hcn]; rfl)⟩
      rw [if_neg Bool.false_ne_true, pf_X7_nextOfPlan_b28, if_pos rfl, pf_X7_nextOfPlan_b60, bnd_e, nI_1]
    | true =>
      have hx := nx_64 u hu i hi
      have ht : tgF rd b S d (nx u i) ≤ 99 := by
        unfold tgF
        cases e : gF (gl rd b) (cnR rd b S d) one (nx u i) with
        | none => decide
        | some x => have := gF_le6 hc hx e; show x ≤ 99; omega
      rw [if_pos rfl, pf_X7_nextOfPlan_b28, if_neg (by decide), nx_nI u i hi, at_ok al605 hx, bind_some, at_ok al605 hu, bind_some, e5n i hcn, e5, nI_pred]
      by_cases e : tgF rd b S d (nx u i) = w
      · left
        rw [if_pos (by rw [e])]
        have hp := (hnx i hcn).mp e
        have : stp (gl rd b) (cnR rd b S d) u = i := fst6_of hi hp h1
        rw [this]
      · right
        refine ⟨(), ?_, skip ?_⟩
        · rw [if_neg (by rw [nI_eq (by omega) (by omega)]; exact e), pf_X7_nextOfPlan_b60, bnd_e, nI_1]
        · cases q : isNx (gl rd b) (cnR rd b S d) u i with
          | false => rfl
          | true => exact absurd ((hnx i hcn).mpr q) e
theorem setP {σ : St} {a : Nat} {rd : Nat → Int32} {b k : Nat} {S : Nat → Int} (Y : Wy σ a rd b S) (hp : posb rd b S = true) (hk : k ≤ plN rd b S) : pf_X7_setBehindPlan 602 a (nI k) σ = some (nI (plS (gl rd b) (cnR rd b S (dnM rd b)) k (dnM rd b))) := by
  obtain ⟨h0, h2, h3⟩ := posb_t Y.1.2.2.1 hp
  have hd := dnM_64 Y.1.2.2.1
  have hc := cnR_ok (S := S) (d := dnM rd b) Y.1.2.2.1.n.1
  unfold pf_X7_setBehindPlan
  rw [Y.1.2.2.2.1.2.2.1, bnd_e]
  refine up_C (fun n i (u : Nat) => pf_X7_setBehindPlan_L8 σ n 602 (nI k) (nI u) (nI i)) k (fun i u => u = plS (gl rd b) (cnR rd b S (dnM rd b)) i (dnM rd b)) (fun r => r = some (nI (plS (gl rd b) (cnR rd b S (dnM rd b)) k (dnM rd b)))) ?_ ?_ FU 0 (dnM rd b) (Nat.zero_le _) rfl (lt_FU (by omega))
  · intro n u hu
    show pf_X7_setBehindPlan_L8 σ (n + 1) 602 (nI k) (nI u) (nI k) = _
    rw [pf_X7_setBehindPlan_L8, if_pos (nI_le (Nat.le_refl _) (by omega)), hu]
  · intro n i u hi hu
    obtain ⟨p1, p2, p3⟩ := plS_at hc i (dnM rd b) _ hd h2 (by omega)
    obtain ⟨w, hw⟩ : ∃ w, plN rd b S - i = w + 1 := ⟨plN rd b S - i - 1, by omega⟩
    rw [hw] at p3
    obtain ⟨q1, q2, q3, q4, q5⟩ := gF_succ hc p1 p3
    right
    refine ⟨nx u (stp (gl rd b) (cnR rd b S (dnM rd b)) u), ?_, ?_⟩
    · show pf_X7_setBehindPlan_L8 σ (n + 1) 602 (nI k) (nI u) (nI i) = pf_X7_setBehindPlan_L8 σ n 602 (nI k) _ (nI (i + 1))
      subst hu
      rw [pf_X7_setBehindPlan_L8, if_neg (nI_ge hi (by omega)), nextP Y h0 p2 p3, bind_some, nx_nI _ _ q2, bnd_e, bnd_e, nI_1]
    · rw [hu, plS_succ]
/-! risks -/
def rsum (r : Nat → Nat) (m : Nat) : Nat → Nat
  | 0 => 0
  | k + 1 => rsum r m k + (if m.testBit k then r k else 0)
theorem rsum_le {r : Nat → Nat} {m : Nat} : ∀ k, (∀ s, s < k → r s ≤ 100) → rsum r m k ≤ 100 * k
  | 0, _ => Nat.zero_le _
  | k + 1, h => by
    have := rsum_le (m := m) k (fun s hs => h s (by omega))
    have := h k (by omega)
    rw [rsum]
    split <;> omega
theorem rsum_ext {r : Nat → Nat} {m : Nat} : ∀ k n, n ≤ k → (∀ s, n ≤ s → m.testBit s = false) → rsum r m k = rsum r m n
  | 0, n, h, _ => by rw [show n = 0 by omega]
  | k + 1, n, h, h2 => by
    by_cases e : n = k + 1
    · rw [e]
    · rw [rsum, h2 k (by omega), rsum_ext k n (by omega) h2]
      simp
theorem rsum_rs2 (r : Nat → Nat) (t d : Nat) : rsum r (df t d) 6 = rs2 r t d := by
  rw [rs2_6]
  simp only [rsum, df_bit]
  simp
  omega
theorem riskH {σ : St} {a : Nat} {rd : Nat → Int32} {b m : Nat} (ka : kd a = 3) (v : VQ rd b) (h : RQ σ a rd b) (hm : m < 64) : pf_X3_riskOf a (nI m) σ = some (nI (rsum (cR rd b) m (nS rd b))) := by
  have hn := v.n
  unfold pf_X3_riskOf
  refine up_C (fun n i (u : Nat) => pf_X3_riskOf_L4 σ n a (nI m) (nI u) (nI i)) (nS rd b) (fun i u => u = rsum (cR rd b) m i) (fun r => r = some (nI (rsum (cR rd b) m (nS rd b)))) ?_ ?_ FU 0 0 (Nat.zero_le _) rfl (lt_FU (by omega))
  · intro n u hu
    show pf_X3_riskOf_L4 σ (n + 1) a (nI m) (nI u) (nI (nS rd b)) = _
    rw [pf_X3_riskOf_L4, h.1, v.e0, if_pos (nI_le (Nat.le_refl _) (by omega)), hu]
  · intro n i u hi hu
    right
    show ∃ s', pf_X3_riskOf_L4 σ (n + 1) a (nI m) (nI u) (nI i) = pf_X3_riskOf_L4 σ n a (nI m) (nI s') (nI (i + 1)) ∧ s' = _
    rw [pf_X3_riskOf_L4, h.1, v.e0, if_neg (nI_ge hi (by omega)), if_u (by omega) (by omega), at_ok (af_X3_risk ka) (by omega), bind_some, (h.b hi).1, (v.cR hi).1]
    cases e : m.testBit i with
    | true =>
      refine ⟨u + cR rd b i, ?_, by rw [rsum, e, hu]; simp⟩
      rw [if_pos rfl, nI_add, bnd_e, pf_X3_riskOf_b31, bnd_e, nI_1]
    | false =>
      refine ⟨u, ?_, by rw [rsum, e, hu]; simp⟩
      rw [if_neg Bool.false_ne_true, pf_X3_riskOf_b31, bnd_e, nI_1]
theorem Rch_new {rd : Nat → Int32} {b d t : Nat} {S : Nat → Int} (h : Rch (gl rd b) (cnR rd b S d) d t) : ∀ k, nS rd b ≤ k → t.testBit k = true → d.testBit k = true := Rch.ind (P := fun u => ∀ k, nS rd b ≤ k → u.testBit k = true → d.testBit k = true) (fun _ _ q => q) (fun u s hu _ hc k hk q => by
  have := (cnR_s hc).1
  rw [nx_bit] at q
  have : decide (k = s) = false := decide_eq_false (by omega)
  rw [this, Bool.or_false] at q
  exact hu k hk q) h
theorem risk_new {rd : Nat → Int32} {b d t : Nat} {S : Nat → Int} (hn : nS rd b ≤ 6) (h : Rch (gl rd b) (cnR rd b S d) d t) : rsum (cR rd b) (df t d) (nS rd b) = rs2 (cR rd b) t d := by
  rw [← rsum_rs2, rsum_ext 6 (nS rd b) hn]
  intro s hs
  rw [df_bit]
  cases e : t.testBit s with
  | false => simp
  | true => simp [Rch_new h s hs e]
theorem riskP {σ : St} {a : Nat} {rd : Nat → Int32} {b : Nat} {S : Nat → Int} (Y : Wy σ a rd b S) (hp : posb rd b S = true) : pf_X7_riskOfPlan 602 a σ = some (nI (plR (gl rd b) (cnR rd b S (dnM rd b)) (cR rd b) (plN rd b S) (dnM rd b))) := by
  obtain ⟨h0, h2, h3⟩ := posb_t Y.1.2.2.1 hp
  have hd := dnM_64 Y.1.2.2.1
  have hn := Y.1.2.2.1.n
  have hc := cnR_ok (S := S) (d := dnM rd b) hn.1
  obtain ⟨p1, p2, p3⟩ := plS_at hc (plN rd b S) (dnM rd b) _ hd h2 (Nat.le_refl _)
  unfold pf_X7_riskOfPlan
  rw [lenP Y, hp, bind_some, if_pos rfl, setP Y hp (Nat.le_refl _), bind_some, Y.1.2.2.2.1.2.2.1, df_nI _ p1 _ hd, riskH Y.1.1 Y.1.2.2.1 Y.1.2.2.2.1 (df_64 _ _), bind_some, risk_new hn.1 p2, plR_risk hc _ hd h2 _ (Nat.le_refl _)]
/-- where there is no way: the plan's length is -1 and no step is asked -/
theorem riskP0 {σ : St} {a : Nat} {rd : Nat → Int32} {b : Nat} {S : Nat → Int} (Y : Wy σ a rd b S) (hp : posb rd b S = false) : pf_X7_riskOfPlan 602 a σ = some 0 := by
  have hd := dnM_64 Y.1.2.2.1
  have hn := Y.1.2.2.1.n
  unfold pf_X7_riskOfPlan
  rw [lenP Y, hp, bind_some, if_neg Bool.false_ne_true]
  have e : pf_X7_setBehindPlan 602 a (-1) σ = some (nI (dnM rd b)) := by
    unfold pf_X7_setBehindPlan
    rw [Y.1.2.2.2.1.2.2.1, bnd_e]
    show pf_X7_setBehindPlan_L8 σ (999999 + 1) 602 (-1) _ 0 = _
    rw [pf_X7_setBehindPlan_L8, if_pos (by decide)]
  rw [e, bind_some, Y.1.2.2.2.1.2.2.1, df_nI _ hd _ hd, riskH Y.1.1 Y.1.2.2.1 Y.1.2.2.2.1 (df_64 _ _), bind_some, df_self]
  have : ∀ k, rsum (cR rd b) 0 k = 0 := by
    intro k
    induction k with
    | zero => rfl
    | succ k ih => rw [rsum, ih]; simp
  rw [this]; rfl
def sfN (rd : Nat → Int32) (b : Nat) (S : Nat → Int) : Nat := (gF (gl rd b) (cnR rd b S (dnM rd b)) (cR rd b) (dnM rd b)).getD 0
theorem WSbit {rd : Nat → Int32} {b t d : Nat} {S : Nat → Int} {op : Bool} {s : St} (h : WS rd b S d op s) (ht : t < 64) : pf_X7_isReached 602 (nI t) s = some (if gbit (gL s 602 3) t then 1 else 0) := isR ht
theorem safeP {σ : St} {a : Nat} {rd : Nat → Int32} {b : Nat} {S : Nat → Int} (Y : Wy σ a rd b S) : pf_X7_smallestRisk 602 a σ = some (if posb rd b S then nI (sfN rd b S) else -1) := by
  obtain ⟨⟨ka, ha, v, hq, hS⟩, hW⟩ := id Y
  have hd := dnM_64 v
  have hn := v.n
  have eda := hq.2.2.1
  have hc := cnR_ok (S := S) (d := dnM rd b) hn.1
  generalize hde : dnM rd b = d at *
  have hr2 : ∀ t, Rch (gl rd b) (cnR rd b S d) d t → rs2 (cR rd b) t d ≤ 600 := fun t ht => by
    rw [← risk_new hn.1 ht]
    have := rsum_le (r := cR rd b) (m := df t d) (nS rd b) (fun s hs => (v.cR hs).2)
    omega
  unfold pf_X7_smallestRisk
  refine up_C (fun n i (x : Int32) => pf_X7_smallestRisk_L4 σ n 602 a x (nI i)) 64 (fun i x => (x = -1 ∧ ∀ t, t < i → gl rd b t = true → ¬ gbit (gL σ 602 3) t = true) ∨ ∃ m, x = nI m ∧ m ≤ 600 ∧ (∃ t, t < i ∧ gl rd b t = true ∧ gbit (gL σ 602 3) t = true ∧ rs2 (cR rd b) t d = m) ∧ ∀ t, t < i → gl rd b t = true → gbit (gL σ 602 3) t = true → m ≤ rs2 (cR rd b) t d) (fun r => r = some (if posb rd b S then nI (sfN rd b S) else -1)) ?_ ?_ FU 0 (-1) (Nat.zero_le _) (Or.inl ⟨rfl, fun t ht => absurd ht (Nat.not_lt_zero _)⟩) (lt_FU (by omega))
  · intro n x hx
    show pf_X7_smallestRisk_L4 σ (n + 1) 602 a x (nI 64) = _
    rw [pf_X7_smallestRisk_L4, show (64 : Int32) = nI 64 from rfl, if_pos (nI_le (Nat.le_refl _) (by omega))]
    cases hp : posb rd b S with
    | true =>
      obtain ⟨h0, h2, h3⟩ := posb_t v hp
      rw [hde] at h2
      have hop : decide (rd (b + 1) = 0) = true := decide_eq_true h0
      cases hs : gF (gl rd b) (cnR rd b S d) (cR rd b) d with
      | none => rw [gF_isSome hc hd hs] at h2; cases h2
      | some w =>
        have e : sfN rd b S = w := by unfold sfN; rw [hde, hs]; rfl
        obtain ⟨⟨t, a1, a2, a3, a4⟩, l2⟩ := gF_least hc hd hs
        have hb := (hW.1 t a2).mpr ⟨hop, a1⟩
        rw [if_pos rfl, e]
        rcases hx with ⟨_, hno⟩ | ⟨m, h1, _, ⟨t2, b1, b2, b3, b4⟩, h4⟩
        · exact absurd hb (hno t a2 a3)
        · have c1 := h4 t a2 a3 hb
          have c2 := l2 t2 ((hW.1 t2 b1).mp b3).2 b2
          rw [h1, show m = w by omega]
    | false =>
      rw [if_neg Bool.false_ne_true]
      rcases hx with ⟨h1, _⟩ | ⟨m, h1, _, ⟨t2, b1, b2, b3, b4⟩, h4⟩
      · rw [h1]
      · exfalso
        obtain ⟨q1, l, q2⟩ := (hW.1 t2 b1).mp b3
        have h0 := of_decide_eq_true q1
        obtain ⟨w, e1, _⟩ := gF_le (w := one) hc l d t2 hd q2 b2
        have := posb_f hp h0
        rw [hde, e1] at this
        cases this
  · intro n i x hi hx
    right
    show ∃ x', pf_X7_smallestRisk_L4 σ (n + 1) 602 a x (nI i) = pf_X7_smallestRisk_L4 σ n 602 a x' (nI (i + 1)) ∧ _
    rw [pf_X7_smallestRisk_L4, show (64 : Int32) = nI 64 from rfl, if_neg (nI_ge hi (by omega)), isR hi, bind_some, if_b]
    have skip : ¬ (gl rd b i = true ∧ gbit (gL σ 602 3) i = true) → ((x = -1 ∧ ∀ t, t < i + 1 → gl rd b t = true → ¬ gbit (gL σ 602 3) t = true) ∨ ∃ m, x = nI m ∧ m ≤ 600 ∧ (∃ t, t < i + 1 ∧ gl rd b t = true ∧ gbit (gL σ 602 3) t = true ∧ rs2 (cR rd b) t d = m) ∧ ∀ t, t < i + 1 → gl rd b t = true → gbit (gL σ 602 3) t = true → m ≤ rs2 (cR rd b) t d) := fun hno => by
      rcases hx with ⟨h1, h2⟩ | ⟨m, h1, h2, ⟨t, b1, b2⟩, h4⟩
      · refine Or.inl ⟨h1, fun t ht q1 q2 => ?_⟩
        by_cases e : t = i
        · subst e; exact hno ⟨q1, q2⟩
        · exact h2 t (by omega) q1 q2
      · refine Or.inr ⟨m, h1, h2, ⟨t, by omega, b2⟩, fun t ht q1 q2 => ?_⟩
        by_cases e : t = i
        · subst e; exact absurd ⟨q1, q2⟩ hno
        · exact h4 t (by omega) q1 q2
    cases hb : gbit (gL σ 602 3) i with
    | false =>
      rw [if_neg Bool.false_ne_true, pf_X7_smallestRisk_b56, bnd_e, nI_1]
      exact ⟨x, rfl, skip fun q => by rw [hb] at q; exact absurd q.2 (by decide)⟩
    | true =>
      rw [if_pos rfl, goalH hq hi, bind_some, if_b]
      cases hg : gl rd b i with
      | false =>
        rw [if_neg Bool.false_ne_true, pf_X7_smallestRisk_b56, bnd_e, nI_1]
        exact ⟨x, rfl, skip fun q => by rw [hg] at q; exact absurd q.1 (by decide)⟩
      | true =>
        have hri := ((hW.1 i hi).mp hb).2
        rw [if_pos rfl, eda, df_nI _ hi _ hd, riskH ka v hq (df_64 _ _), bind_some, risk_new hn.1 hri]
        have hr6 := hr2 i hri
        rcases hx with ⟨h1, h2⟩ | ⟨m, h1, h2, ⟨t, b1, b2⟩, h4⟩
        · rw [h1, if_neg (by decide), pf_X7_smallestRisk_b55, pf_X7_smallestRisk_b56, bnd_e, nI_1]
          refine ⟨_, rfl, Or.inr ⟨rs2 (cR rd b) i d, rfl, hr6, ⟨i, by omega, hg, hb, rfl⟩, fun t ht q1 q2 => ?_⟩⟩
          by_cases e : t = i
          · subst e; exact Nat.le_refl _
          · exact absurd q2 (h2 t (by omega) q1)
        · rw [h1, if_pos (nI_pos' (by omega)), min7 _ _ (by omega) (by omega), bind_some, pf_X7_smallestRisk_b55, pf_X7_smallestRisk_b56, bnd_e, nI_1]
          refine ⟨_, rfl, Or.inr ⟨min m (rs2 (cR rd b) i d), rfl, by omega, ?_, fun t ht q1 q2 => ?_⟩⟩
          · by_cases e : m ≤ rs2 (cR rd b) i d
            · exact ⟨t, by omega, b2.1, b2.2.1, by rw [b2.2.2]; omega⟩
            · exact ⟨i, by omega, hg, hb, by omega⟩
          · by_cases e : t = i
            · subst e; omega
            · have := h4 t (by omega) q1 q2; omega
