theorem sup_i {u d : Nat} (hu : u < 64) (hd : d < 64) : (nI u &&& nI d = nI d) = sup u d := by
  have : u &&& d ≤ u := Nat.and_le_left
  rw [and_nI, nI_eq (by omega) (by omega)]; rfl
theorem dnM_pow (rd : Nat → Int32) (b : Nat) : dnM rd b < 2 ^ nS rd b := msk_lt _ _
theorem ways_ok {τ : St} {rd : Nat → Int32} {q : Nat} {S : Nat → Int} (X : Mx τ rd q S) : ∃ τ', pf_X11_ways 609 (nI q) τ = some (b2i (posb rd (53 + 186 * q) S), τ') ∧ MU wyA wyB τ τ' ∧ MWs τ' rd (53 + 186 * q) S := by
  obtain ⟨h, hq, v, hb, hS⟩ := id X
  have hn := v.n
  have hd := dnM_64 v
  have hdp := dnM_pow rd (53 + 186 * q)
  unfold pf_X11_ways
  rw [doneM h hq v, bind_some, bnd_e]
  have u0 : MU wyA wyB τ (sI τ 609 9 (nI (dnM rd (53 + 186 * q)))) := MU.fld _ _ rfl
  have X0 := X.mu u0 wyA610 wyA613 wyB3
  have e90 : gI (sI τ 609 9 (nI (dnM rd (53 + 186 * q)))) 609 9 = nI (dnM rd (53 + 186 * q)) := gI_at _ _ _ _
  generalize sI τ 609 9 (nI (dnM rd (53 + 186 * q))) = σ0 at u0 X0 e90
  rw [stepsM X0.1 hq v, bind_some, pow_shl _ hn.1, bnd_e]
  have hp : 1 ≤ 2 ^ nS rd (53 + 186 * q) := Nat.one_le_two_pow
  have hp6 : 2 ^ nS rd (53 + 186 * q) ≤ 64 := Nat.pow_le_pow_right (n := 2) (by omega) hn.1
  rw [show nI (2 ^ nS rd (53 + 186 * q)) - 1 = nI (2 ^ nS rd (53 + 186 * q)) + (-1) from by
    obtain ⟨w, hw⟩ : ∃ w, 2 ^ nS rd (53 + 186 * q) = w + 1 := ⟨2 ^ nS rd (53 + 186 * q) - 1, by omega⟩
    rw [hw, nI_pred, pk_m1]]
  generalize hde : dnM rd (53 + 186 * q) = d at *
  have hc := cnR_ok (S := S) (d := d) hn.1
  refine dn_C (fun n i s => pf_X11_ways_L21 pf_X11_ways_b205 n 609 (nI q) (nI i + (-1)) s) (fun i s => i ≤ 2 ^ nS rd (53 + 186 * q) ∧ MU wyA noB σ0 s ∧ ∀ u, i ≤ u → u < 2 ^ nS rd (53 + 186 * q) → sup u d → gI s 614 u = nI (enF (gF (gl rd (53 + 186 * q)) (cnR rd (53 + 186 * q) S d) one u)) ∧ gI s 615 u = nI (enF (gF (gl rd (53 + 186 * q)) (cnR rd (53 + 186 * q) S d) (cR rd (53 + 186 * q)) u))) (fun r => ∃ τ', r = some (b2i (posb rd (53 + 186 * q) S), τ') ∧ MU wyA wyB τ τ' ∧ MWs τ' rd (53 + 186 * q) S) ?_ ?_ FU (2 ^ nS rd (53 + 186 * q)) σ0 ⟨Nat.le_refl _, MU.refl _ _ _, fun u h1 h2 => by omega⟩ (lt_FU (by omega))
  · intro n s ⟨_, h1, h2⟩
    have Xs := X0.mu h1 wyA610 wyA613 (fun q => q)
    have e9 : gI s 609 9 = nI d := by rw [h1.F (fun q => q)]; exact e90
    refine ⟨s, ?_, u0.trans (h1.mono (fun _ h => h) (fun _ h => h.elim)), ?_, ?_⟩
    · show pf_X11_ways_L21 pf_X11_ways_b205 (n + 1) 609 (nI q) (nI 0 + (-1)) s = _
      rw [pf_X11_ways_L21, if_pos (by decide), pf_X11_ways_b205]
      unfold pf_X11_isQuestOpen posb
      rw [oQ1 Xs.1 hq, bind_some, hde]
      by_cases h0 : rd (53 + 186 * q + 1) = 0
      · rw [if_pos h0, bind_some, if_neg (by decide), e9, ckA al614 hd, nI_clamp (by omega), (h2 d (Nat.zero_le _) hdp (sup_self d)).1, decide_eq_true h0, Bool.true_and]
        cases e : gF (gl rd (53 + 186 * q)) (cnR rd (53 + 186 * q) S d) one d with
        | none => rw [if_pos (by decide)]; rfl
        | some x =>
          have := gF_le6 hc hd e
          rw [show (1000000 : Int32) = nI 1000000 from rfl, if_neg (nI_ge (by show x < _; omega) (by omega))]; rfl
      · rw [if_neg h0, bind_some, if_pos rfl, decide_eq_false h0, Bool.false_and]; rfl
    · rw [e9, hde]
    · intro u hu1 hu2
      rw [hde] at hu2 ⊢
      exact h2 u (Nat.zero_le _) hu1 hu2
  · intro n i s ⟨h0, h1, h2⟩
    have hi : i < 2 ^ nS rd (53 + 186 * q) := by omega
    have hi64 : i < 64 := by omega
    have e9 : gI s 609 9 = nI d := by rw [h1.F (fun q => q)]; exact e90
    right
    show ∃ s', pf_X11_ways_L21 pf_X11_ways_b205 (n + 1) 609 (nI q) (nI (i + 1) + (-1)) s = pf_X11_ways_L21 pf_X11_ways_b205 n 609 (nI q) (nI i + (-1)) s' ∧ _
    have us : MU wyA noB s (sI (sI s 614 i 1000000) 615 i 1000000) := MU.trans (MU.arr _ _ (Or.inr (Or.inl rfl)) (by decide)) (MU.arr _ _ (Or.inr (Or.inr rfl)) (by decide))
    rw [pk_m1, pf_X11_ways_L21, if_neg (nI_pos (by omega)), ckA al614 hi64, nI_clamp (by omega), bnd_e, ckA al615 hi64, bnd_e]
    have l1 : ∀ w, w ≠ i → gI (sI (sI s 614 i 1000000) 615 i 1000000) 614 w = gI s 614 w ∧ gI (sI (sI s 614 i 1000000) 615 i 1000000) 615 w = gI s 615 w := fun w hw => ⟨by rw [gI_ne _ _ _ _ (by decide), gI_ns _ _ _ hw], by rw [gI_ns _ _ _ hw, gI_ne _ _ _ _ (by decide)]⟩
    have l2 : gI (sI (sI s 614 i 1000000) 615 i 1000000) 614 i = 1000000 ∧ gI (sI (sI s 614 i 1000000) 615 i 1000000) 615 i = 1000000 := ⟨by rw [gI_ne _ _ _ _ (by decide), gI_at], gI_at _ _ _ _⟩
    rw [show gI (sI (sI s (609 + 5) i 1000000) (609 + 6) i 1000000) 609 9 = nI d from by rw [us.F (fun q => q)]; exact e9]
    show ∃ s', (if nI i &&& nI d = nI d then bnd2 (pf_X11_holdsBy 609 (nI q) (nI i) (sI (sI s 614 i 1000000) 615 i 1000000)) _ else _) = _ ∧ _
    generalize sI (sI s 614 i 1000000) 615 i 1000000 = s1 at us l1 l2
    have X1 := (X0.mu h1 wyA610 wyA613 (fun q => q)).mu us wyA610 wyA613 (fun q => q)
    by_cases hsu : sup i d
    · rw [if_pos (by rw [sup_i hi64 hd]; exact hsu)]
      obtain ⟨s2, g1, g2⟩ := holdsM X1.1 hq v hi64
      rw [g1, bnd2_some, if_b2]
      have r2 : ∀ w, gI s2 614 w = gI s1 614 w ∧ gI s2 615 w = gI s1 615 w := fun w => ⟨by rw [g2.I (by decide) (by unfold hA; decide)], by rw [g2.I (by decide) (by unfold hA; decide)]⟩
      have u2 : MU wyA noB σ0 s2 := h1.trans (us.trans (g2.mono (fun i hi => Or.inl hi) (fun _ h => h)))
      have X2 := X1.mu g2 hA610 (by unfold hA; decide) (fun q => q)
      have old : ∀ w, i + 1 ≤ w → w < 2 ^ nS rd (53 + 186 * q) → sup w d → gI s2 614 w = nI (enF (gF (gl rd (53 + 186 * q)) (cnR rd (53 + 186 * q) S d) one w)) ∧ gI s2 615 w = nI (enF (gF (gl rd (53 + 186 * q)) (cnR rd (53 + 186 * q) S d) (cR rd (53 + 186 * q)) w)) := fun w w1 w2 w3 => by
        rw [(r2 w).1, (r2 w).2, (l1 w (by omega)).1, (l1 w (by omega)).2]
        exact h2 w w1 w2 w3
      cases hg : gl rd (53 + 186 * q) i with
      | true =>
        rw [if_pos rfl, ckA al614 hi64, bnd_e, ckA al615 hi64, bnd_e, pf_X11_ways_b199, bnd_e]
        refine ⟨_, rfl, by omega, u2.trans (MU.trans (MU.arr _ _ (Or.inr (Or.inl rfl)) (by decide)) (MU.arr _ _ (Or.inr (Or.inr rfl)) (by decide))), fun u hu1 hu2 hu3 => ?_⟩
        by_cases e : u = i
        · subst e
          rw [gI_ne _ _ _ _ (by decide), gI_at, gI_at, gF_goal hc hi64 hg, gF_goal hc hi64 hg]
          exact ⟨rfl, rfl⟩
        · rw [gI_ne _ _ _ _ (by decide), gI_ns _ _ _ e, gI_ns _ _ _ e, gI_ne _ _ _ _ (by decide)]
          exact old u (by omega) hu2 hu3
      | false =>
        rw [if_neg Bool.false_ne_true]
        have e92 : gI s2 609 9 = nI d := by rw [u2.F (fun q => q)]; exact e90
        refine ways86 X2 hd e92 hi hg ⟨by rw [(r2 i).1]; exact l2.1, by rw [(r2 i).2]; exact l2.2⟩ (fun k hk => old _ (by have := (nx_b i hi64 k (hc i k hk).1 (hc i k hk).2).1; omega) (nx_pow hi (cnR_s hk).1) (sup_nx hsu)) (pf_X11_ways_b199 (pf_X11_ways_L21 pf_X11_ways_b205 n)) (fun r => ∃ s', r = pf_X11_ways_L21 pf_X11_ways_b205 n 609 (nI q) (nI i + (-1)) s' ∧ i ≤ 2 ^ nS rd (53 + 186 * q) ∧ MU wyA noB σ0 s' ∧ ∀ u, i ≤ u → u < 2 ^ nS rd (53 + 186 * q) → sup u d → gI s' 614 u = nI (enF (gF (gl rd (53 + 186 * q)) (cnR rd (53 + 186 * q) S d) one u)) ∧ gI s' 615 u = nI (enF (gF (gl rd (53 + 186 * q)) (cnR rd (53 + 186 * q) S d) (cR rd (53 + 186 * q)) u))) fun s3 p1 p2 p3 p4 => ⟨s3, by rw [pf_X11_ways_b199, bnd_e], by omega, u2.trans (p1.mono (fun j hj => Or.inr hj) (fun _ h => h)), fun u hu1 hu2 hu3 => ?_⟩
        by_cases e : u = i
        · subst e; exact ⟨p3, p4⟩
        · rw [(p2 u e).1, (p2 u e).2]; exact old u (by omega) hu2 hu3
    · rw [if_neg (by rw [sup_i hi64 hd]; exact hsu), pf_X11_ways_b199, bnd_e]
      refine ⟨s1, rfl, by omega, h1.trans us, fun u hu1 hu2 hu3 => ?_⟩
      have e : u ≠ i := fun e => by subst e; exact hsu hu3
      rw [(l1 u e).1, (l1 u e).2]
      exact h2 u (by omega) hu2 hu3
theorem MWs.mu {A B : Nat → Prop} {τ τ' : St} {rd : Nat → Int32} {b : Nat} {S : Nat → Int} (h : MWs τ rd b S) (u : MU A B τ τ') (h1 : ¬ A 614) (h2 : ¬ A 615) (h3 : ¬ B 9) : MWs τ' rd b S := by
  refine ⟨by rw [u.F h3]; exact h.1, fun w => ?_⟩
  rw [u.I (by decide) h1, u.I (by decide) h2]
  exact h.2 w
def plA : Nat → Prop := fun i => i = 616
def plB : Nat → Prop := fun k => k = 11
theorem Rch_sup {g : Nat → Bool} {cn : Nat → Nat → Bool} {d t : Nat} (h : Rch g cn d t) : sup t d := Rch.ind (P := fun u => sup u d) (sup_self d) (fun _ _ hu _ _ => sup_nx hu) h
theorem Rch_pow {rd : Nat → Int32} {b d t : Nat} {S : Nat → Int} (hd : d < 2 ^ nS rd b) (h : Rch (gl rd b) (cnR rd b S d) d t) : t < 2 ^ nS rd b := Rch.ind (P := fun u => u < 2 ^ nS rd b) hd (fun _ _ hu _ hc => nx_pow hu (cnR_s hc).1) h
/-- the plan in the reference -/
def MPl (τ : St) (rd : Nat → Int32) (b : Nat) (S : Nat → Int) : Prop := gI τ 609 11 = nI (plN rd b S) ∧ ∀ k, k < plN rd b S → gI τ 616 k = nI (stp (gl rd b) (cnR rd b S (dnM rd b)) (plS (gl rd b) (cnR rd b S (dnM rd b)) k (dnM rd b)))
theorem plans_ok {τ : St} {rd : Nat → Int32} {q : Nat} {S : Nat → Int} (X : Mx τ rd q S) (hW : MWs τ rd (53 + 186 * q) S) (hp : posb rd (53 + 186 * q) S = true) : ∃ τ', pf_X11_plans 609 (nI q) τ = some τ' ∧ MU plA plB τ τ' ∧ MPl τ' rd (53 + 186 * q) S := by
  obtain ⟨h, hq, v, hb, hS⟩ := id X
  have hn := v.n
  have hd := dnM_64 v
  have hdp := dnM_pow rd (53 + 186 * q)
  obtain ⟨h0, hF, hL⟩ := posb_t v hp
  unfold pf_X11_plans
  rw [bnd_e]
  have u0 : MU plA plB τ (sI τ 609 11 0) := MU.fld _ _ rfl
  have e11 : gI (sI τ 609 11 0) 609 11 = 0 := gI_at _ _ _ _
  generalize sI τ 609 11 0 = σ0 at u0 e11
  have X0 := X.mu u0 (by unfold plA; decide) (by unfold plA; decide) (by unfold plB; decide)
  have W0 := hW.mu u0 (by unfold plA; decide) (by unfold plA; decide) (by unfold plB; decide)
  rw [W0.1, bnd_e]
  generalize hde : dnM rd (53 + 186 * q) = d at *
  generalize hbe : 53 + 186 * q = b at *
  have hc := cnR_ok (S := S) (d := d) hn.1
  refine up_C (fun n i (s : Nat × St) => pf_X11_plans_L10 n 609 (nI q) (nI s.1) s.2) (plN rd b S) (fun i s => s.1 = plS (gl rd b) (cnR rd b S d) i d ∧ MU plA plB τ s.2 ∧ gI s.2 609 11 = nI i ∧ ∀ k, k < i → gI s.2 616 k = nI (stp (gl rd b) (cnR rd b S d) (plS (gl rd b) (cnR rd b S d) k d))) (fun r => ∃ τ', r = some τ' ∧ MU plA plB τ τ' ∧ MPl τ' rd b S) ?_ ?_ FU 0 (d, σ0) (Nat.zero_le _) ⟨rfl, u0, e11, fun k hk => absurd hk (Nat.not_lt_zero _)⟩ (lt_FU (by omega))
  · rintro n ⟨u, s⟩ ⟨h1, h2, h3, h4⟩
    obtain ⟨p1, p2, p3⟩ := plS_at hc (plN rd b S) d _ hd hF (Nat.le_refl _)
    have Ws := hW.mu h2 (by unfold plA; decide) (by unfold plA; decide) (by unfold plB; decide)
    have h1' : u = plS (gl rd b) (cnR rd b S d) (plN rd b S) d := h1
    subst h1'
    refine ⟨s, ?_, h2, h3, fun k hk => by rw [hde]; exact h4 k hk⟩
    show pf_X11_plans_L10 (n + 1) 609 (nI q) (nI (plS (gl rd b) (cnR rd b S d) (plN rd b S) d)) s = some s
    have ew := (Ws.2 _ (Rch_pow hdp p2) (by rw [hde]; exact Rch_sup p2)).1
    rw [hde, p3, Nat.sub_self] at ew
    rw [pf_X11_plans_L10, ckA al614 p1, nI_clamp (by omega), ew, if_pos (by decide)]
  · rintro n i ⟨u, s⟩ hi ⟨h1, h2, h3, h4⟩
    obtain ⟨p1, p2, p3⟩ := plS_at hc i d _ hd hF (by omega)
    have Ws := hW.mu h2 (by unfold plA; decide) (by unfold plA; decide) (by unfold plB; decide)
    have Xs := X.mu h2 (by unfold plA; decide) (by unfold plA; decide) (by unfold plB; decide)
    have h1' : u = plS (gl rd b) (cnR rd b S d) i d := h1
    obtain ⟨w, hw⟩ : ∃ w, plN rd b S - i = w + 1 := ⟨plN rd b S - i - 1, by omega⟩
    rw [hw, ← h1'] at p3
    rw [← h1'] at p1 p2
    obtain ⟨q1, q2, q3, q4, q5⟩ := gF_succ hc p1 p3
    have hw6 := gF_le6 hc p1 p3
    have ew := (Ws.2 _ (Rch_pow hdp p2) (by rw [hde]; exact Rch_sup p2)).1
    rw [hde, p3] at ew
    have e9 := Ws.1
    rw [hde] at e9
    have enx : ∀ k, cnR rd b S d u k = true → gI s 614 (nx u k) = nI (enF (gF (gl rd b) (cnR rd b S d) one (nx u k))) := fun k hk => by
      have := (Ws.2 _ (nx_pow (Rch_pow hdp p2) (cnR_s hk).1) (by rw [hde]; exact sup_nx (Rch_sup p2))).1
      rw [hde] at this
      exact this
    right
    show ∃ s' : Nat × St, pf_X11_plans_L10 (n + 1) 609 (nI q) (nI u) s = pf_X11_plans_L10 n 609 (nI q) (nI s'.1) s'.2 ∧ _
    rw [pf_X11_plans_L10, ckA al614 p1, nI_clamp (by omega), ew, if_neg (nI_nle (by show 0 < w + 1; omega) (by show w + 1 < _; omega))]
    have hst6 : stp (gl rd b) (cnR rd b S d) u < nS rd b := (cnR_s q3).1
    refine up_C (fun n2 k (_ : Unit) => pf_X11_plans_L21 (pf_X11_plans_b62 (pf_X11_plans_L10 n)) n2 609 (nI q) (nI u) (nI k) s) (stp (gl rd b) (cnR rd b S d) u) (fun _ _ => True) (fun r => ∃ s' : Nat × St, r = pf_X11_plans_L10 n 609 (nI q) (nI s'.1) s'.2 ∧ s'.1 = plS (gl rd b) (cnR rd b S d) (i + 1) d ∧ MU plA plB τ s'.2 ∧ gI s'.2 609 11 = nI (i + 1) ∧ ∀ k, k < i + 1 → gI s'.2 616 k = nI (stp (gl rd b) (cnR rd b S d) (plS (gl rd b) (cnR rd b S d) k d))) ?_ ?_ FU 0 () (Nat.zero_le _) trivial (lt_FU (by omega))
    · intro n2 _ _
      show ∃ s' : Nat × St, pf_X11_plans_L21 (pf_X11_plans_b62 (pf_X11_plans_L10 n)) (n2 + 1) 609 (nI q) (nI u) (nI (stp (gl rd b) (cnR rd b S d) u)) s = _ ∧ _
      have ec := can_ok Xs p1 hd (s := stp (gl rd b) (cnR rd b S d) u) (by rw [hbe]; exact hst6)
      rw [hbe, q3] at ec
      have hx := nx_64 u p1 _ q2
      rw [pf_X11_plans_L21, e9, ec, bind_some, if_b2, if_pos rfl, nx_nI _ _ q2, ckA al614 hx, ckA al614 p1, nI_clamp (by omega), nI_clamp (by omega), enx _ q3, q4, ew]
      rw [if_pos (show nI (enF (some w)) = nI (enF (some (w + 1))) - 1 from (nI_pred w).symm), pf_X11_plans_b62, h3, ckA al616 (by omega), nI_clamp (by omega), bnd_e, bnd_e, nx_nI _ _ q2, bnd_e]
      refine ⟨(nx u (stp (gl rd b) (cnR rd b S d) u), _), rfl, ?_, ?_, ?_, ?_⟩
      · show nx u _ = _
        rw [plS_succ, h1']
      · exact h2.trans (MU.trans (MU.arr _ _ rfl (by decide)) (MU.fld _ _ rfl))
      · show gI (sI _ 609 11 _) 609 11 = _
        rw [gI_at, gI_ne _ _ _ _ (by decide), h3, nI_1]
      · intro k hk
        show gI (sI (sI s 616 i _) 609 11 _) 616 k = _
        rw [gI_ne _ _ _ _ (by decide)]
        by_cases e : k = i
        · subst e; rw [gI_at, h1']
        · rw [gI_ns _ _ _ e]; exact h4 k (by omega)
    · intro n2 k _ hk _
      right
      refine ⟨(), ?_, trivial⟩
      show pf_X11_plans_L21 (pf_X11_plans_b62 (pf_X11_plans_L10 n)) (n2 + 1) 609 (nI q) (nI u) (nI k) s = pf_X11_plans_L21 (pf_X11_plans_b62 (pf_X11_plans_L10 n)) n2 609 (nI q) (nI u) (nI (k + 1)) s
      have hk6 : k < nS rd b := by omega
      have ec := can_ok Xs p1 hd (s := k) (by rw [hbe]; exact hk6)
      rw [hbe] at ec
      rw [pf_X11_plans_L21, e9, ec, bind_some, if_b2]
      have hno := q5 k hk
      cases hcn : cnR rd b S d u k with
      | false => rw [if_neg Bool.false_ne_true, pf_X11_plans_b56, bnd_e, nI_1]
      | true =>
        have hx := nx_64 u p1 k (by omega)
        rw [if_pos rfl, nx_nI _ _ (by omega), ckA al614 hx, ckA al614 p1, nI_clamp (by omega), nI_clamp (by omega), enx _ hcn, ew, if_neg, pf_X11_plans_b56, bnd_e, nI_1]
        intro e
        rw [show nI (enF (some (w + 1))) - 1 = nI w from nI_pred w] at e
        unfold isNx at hno
        rw [hcn, p3, Bool.true_and, decide_eq_false_iff_not] at hno
        cases eF : gF (gl rd b) (cnR rd b S d) one (nx u k) with
        | none =>
          rw [eF, nI_eq (by decide) (by omega)] at e
          have : 1000000 = w := e
          omega
        | some x =>
          have hx6 := gF_le6 hc hx eF
          rw [eF, nI_eq (by show x < _; omega) (by omega)] at e
          apply hno
          have : x = w := e
          rw [eF, this]; rfl
