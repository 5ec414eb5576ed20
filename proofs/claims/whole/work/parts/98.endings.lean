/-! QUESTION endings: how many sets end a way -/
def EB (rd : Nat → Int32) (b : Nat) (S : Nat → Int) (d : Nat) (L : Nat → Nat) (f : Nat → Bool) : Prop := ∀ t, t < 64 → (f t = true ↔ (t = d ∨ ∃ u k, k < L u ∧ Rch (gl rd b) (cnR rd b S d) d u ∧ gl rd b u = false ∧ cnR rd b S d u k = true ∧ nx u k = t))
section
variable {rd : Nat → Int32} {b d : Nat} {S : Nat → Int} {L L' : Nat → Nat} {f : Nat → Bool}
theorem EB.to (h : EB rd b S d L f) (hl : ∀ u, Rch (gl rd b) (cnR rd b S d) d u → gl rd b u = false → ∀ k, cnR rd b S d u k = true → (k < L u ↔ k < L' u)) : EB rd b S d L' f := fun t ht => (h t ht).trans (or_congr Iff.rfl ⟨fun ⟨u, k, a1, a2, a3, a4, a5⟩ => ⟨u, k, (hl u a2 a3 k a4).mp a1, a2, a3, a4, a5⟩, fun ⟨u, k, a1, a2, a3, a4, a5⟩ => ⟨u, k, (hl u a2 a3 k a4).mpr a1, a2, a3, a4, a5⟩⟩)
theorem EB.reached {k : Nat} (hn : nS rd b ≤ 6) (hk : k < 64) (h : EB rd b S d (LL k) f) : f k = true ↔ Rch (gl rd b) (cnR rd b S d) d k := by
  rw [h k hk, Rch_iff]
  refine or_congr Iff.rfl ⟨fun ⟨u, j, a1, a2, a3, a4, a5⟩ => ⟨u, j, a2, a3, a4, a5⟩, fun ⟨u, j, a2, a3, a4, a5⟩ => ⟨u, j, ?_, a2, a3, a4, a5⟩⟩
  have o := cnR_ok hn u j a4
  have hlt : u < k := by
    rw [← a5]
    by_cases q : u < 64
    · exact (nx_b u q j o.1 o.2).1
    · have : u ≤ nx u j := Nat.left_le_or
      omega
  unfold LL
  rw [if_pos hlt]; exact o.1
theorem EB.add {u i : Nat} (h : EB rd b S d (LJ u i) f) (hr : Rch (gl rd b) (cnR rd b S d) d u) (hg : gl rd b u = false) (hcn : cnR rd b S d u i = true) : EB rd b S d (LJ u (i + 1)) (fun t => f t || decide (t = nx u i)) := by
  intro t ht
  show (f t || decide (t = nx u i)) = true ↔ _
  rw [Bool.or_eq_true, h t ht, decide_eq_true_eq]
  constructor
  · rintro ((e | ⟨w, k, a1, a2⟩) | e)
    · exact Or.inl e
    · refine Or.inr ⟨w, k, ?_, a2⟩
      unfold LJ at a1 ⊢
      split at a1
      · rw [if_pos (by assumption)]; exact a1
      · split at a1
        · rw [if_neg (by assumption), if_pos (by assumption)]; omega
        · omega
    · refine Or.inr ⟨u, i, ?_, hr, hg, hcn, e.symm⟩
      unfold LJ
      rw [if_neg (by omega), if_pos rfl]; omega
  · rintro (e | ⟨w, k, a1, a2, a3, a4, a5⟩)
    · exact Or.inl (Or.inl e)
    · unfold LJ at a1
      by_cases q1 : w < u
      · refine Or.inl (Or.inr ⟨w, k, ?_, a2, a3, a4, a5⟩)
        rw [if_pos q1] at a1
        unfold LJ
        rw [if_pos q1]; exact a1
      · by_cases q2 : w = u
        · subst q2
          rw [if_neg q1, if_pos rfl] at a1
          by_cases q3 : k = i
          · subst q3; exact Or.inr a5.symm
          · refine Or.inl (Or.inr ⟨w, k, ?_, a2, a3, a4, a5⟩)
            unfold LJ
            rw [if_neg q1, if_pos rfl]; omega
        · rw [if_neg q1, if_neg q2] at a1; omega
theorem EB.skip {u i : Nat} (h : EB rd b S d (LJ u i) f) (hcn : cnR rd b S d u i = false) : EB rd b S d (LJ u (i + 1)) f := h.to fun w hw1 hw2 k hkk => by
  unfold LJ
  by_cases e1 : w < u
  · rw [if_pos e1, if_pos e1]
  · by_cases e2 : w = u
    · rw [if_neg e1, if_pos e2, if_neg e1, if_pos e2]
      have : k ≠ i := fun e => by subst e2; subst e; rw [hcn] at hkk; cases hkk
      omega
    · rw [if_neg e1, if_neg e2, if_neg e1, if_neg e2]
theorem EB.full {u : Nat} (h : EB rd b S d (LJ u (nS rd b)) f) (hn : nS rd b ≤ 6) : EB rd b S d (LL (u + 1)) f := h.to fun w hw1 hw2 k hk => by
  have := (cnR_s hk).1
  unfold LJ LL
  by_cases e1 : w < u
  · rw [if_pos e1, if_pos (by omega)]
  · by_cases e2 : w = u
    · rw [if_neg e1, if_pos e2, if_pos (by omega)]; omega
    · rw [if_neg e1, if_neg e2, if_neg (by omega)]
theorem EB.start {u : Nat} (h : EB rd b S d (LL u) f) : EB rd b S d (LJ u 0) f := h.to fun w hw1 hw2 k hk => by
  unfold LJ LL
  by_cases e1 : w < u
  · rw [if_pos e1, if_pos e1]
  · rw [if_neg e1, if_neg e1]
    split <;> exact Iff.rfl
theorem EB.no {u : Nat} (h : EB rd b S d (LL u) f) (hno : ¬ (Rch (gl rd b) (cnR rd b S d) d u ∧ gl rd b u = false)) : EB rd b S d (LL (u + 1)) f := h.to fun w hw1 hw2 k hk => by
  have : w ≠ u := fun e => by subst e; exact hno ⟨hw1, hw2⟩
  unfold LL
  by_cases q : w < u
  · rw [if_pos q, if_pos (by omega)]
  · rw [if_neg q, if_neg (by omega)]
end
def eA : Nat → Prop := fun i => i = 612 ∨ i = 619
theorem eA610 : ¬ eA 610 := by unfold eA; omega
theorem eA613 : ¬ eA 613 := by unfold eA; omega
section
variable {τ : St} {rd : Nat → Int32}
theorem end101 {q u d c : Nat} {S : Nat → Int} {f : Nat → Bool} (X : Mx τ rd q S) (hd : d < 64) (h9 : gI τ 609 9 = nI d) (hu : u < 64) (hr : Rch (gl rd (53 + 186 * q)) (cnR rd (53 + 186 * q) S d) d u) (hg : gl rd (53 + 186 * q) u = false) (hf : ∀ t, t < 64 → gI τ 619 t = b2i (f t)) (hE : EB rd (53 + 186 * q) S d (LL u) f)
    (k144 : Nat → Int32 → Int32 → Int32 → St → Option (Int32 × St)) (C : Option (Int32 × St) → Prop) (hk : ∀ s f', MU eA noB τ s → (∀ t, t < 64 → gI s 619 t = b2i (f' t)) → EB rd (53 + 186 * q) S d (LL (u + 1)) f' → C (k144 609 (nI q) (nI c) (nI u) s)) : C (pf_X11_endings_L101 k144 FU 609 (nI q) (nI c) (nI u) 0 τ) := by
  obtain ⟨h, hq, v, hb, hS⟩ := id X
  have hn := v.n
  refine up_C (fun n i s => pf_X11_endings_L101 k144 n 609 (nI q) (nI c) (nI u) (nI i) s) (nS rd (53 + 186 * q)) (fun i s => MU eA noB τ s ∧ ∃ f' : Nat → Bool, (∀ t, t < 64 → gI s 619 t = b2i (f' t)) ∧ EB rd (53 + 186 * q) S d (LJ u i) f') C ?_ ?_ FU 0 τ (Nat.zero_le _) ⟨MU.refl _ _ _, f, hf, hE.start⟩ (lt_FU (by omega))
  · intro n s ⟨h1, f', h2, h3⟩
    have Xs := X.mu h1 eA610 eA613 (fun q => q)
    show C (pf_X11_endings_L101 k144 (n + 1) 609 (nI q) (nI c) (nI u) (nI (nS rd (53 + 186 * q))) s)
    rw [pf_X11_endings_L101, stepsM Xs.1 hq v, bind_some, if_pos (nI_le (Nat.le_refl _) (by omega))]
    exact hk s f' h1 h2 (h3.full hn.1)
  · intro n i s hi ⟨h1, f', h2, h3⟩
    have Xs := X.mu h1 eA610 eA613 (fun q => q)
    right
    show ∃ s', pf_X11_endings_L101 k144 (n + 1) 609 (nI q) (nI c) (nI u) (nI i) s = pf_X11_endings_L101 k144 n 609 (nI q) (nI c) (nI u) (nI (i + 1)) s' ∧ _
    rw [pf_X11_endings_L101, stepsM Xs.1 hq v, bind_some, if_neg (nI_ge hi (by omega)), h1.F (fun q => q), h9, can_ok Xs hu hd hi, bind_some, if_b2]
    cases hcn : cnR rd (53 + 186 * q) S d u i with
    | false =>
      rw [if_neg Bool.false_ne_true, pf_X11_endings_b138, bnd_e, nI_1]
      exact ⟨s, rfl, h1, f', h2, h3.skip hcn⟩
    | true =>
      have hx := nx_64 u hu i (by omega)
      rw [if_pos rfl, nx_nI _ _ (by omega), ckA al619 hx, nI_clamp (by omega), bnd_e, pf_X11_endings_b138, bnd_e, nI_1]
      refine ⟨_, rfl, h1.trans (MU.arr _ _ (Or.inr rfl) (by decide)), _, fun t ht => ?_, h3.add hr hg hcn⟩
      show gI (sI s 619 (nx u i) 1) 619 t = b2i (f' t || decide (t = nx u i))
      by_cases e : t = nx u i
      · subst e; rw [gI_at, decide_eq_true rfl, Bool.or_true]; rfl
      · rw [gI_ns _ _ _ e, h2 t ht, decide_eq_false e, Bool.or_false]
theorem endM {q : Nat} {S : Nat → Int} (X : Mx τ rd q S) (hW : gI τ 609 9 = nI (dnM rd (53 + 186 * q))) (p : Nat → Bool) (hp : ∀ t, t < 64 → (p t = true ↔ (Rch (gl rd (53 + 186 * q)) (cnR rd (53 + 186 * q) S (dnM rd (53 + 186 * q))) (dnM rd (53 + 186 * q)) t ∧ gl rd (53 + 186 * q) t = true))) : ∃ τ', pf_X11_endings_L25 pf_X11_endings_b56 FU 609 (nI q) 0 τ = some (nI (cntB p 64), τ') ∧ MU eA noB τ τ' := by
  obtain ⟨h, hq, v, hb, hS⟩ := id X
  have hn := v.n
  have hd := dnM_64 v
  have hdp := dnM_pow rd (53 + 186 * q)
  have hp6 : 2 ^ nS rd (53 + 186 * q) ≤ 64 := Nat.pow_le_pow_right (n := 2) (by omega) hn.1
  generalize hde : dnM rd (53 + 186 * q) = d at *
  have hc := cnR_ok (S := S) (d := d) hn.1
  have L60 : ∀ τ1, MU eA noB τ τ1 → (∀ t, t < 64 → gI τ1 619 t = b2i (decide (t = d))) → ∃ τ', pf_X11_endings_b56 609 (nI q) τ1 = some (nI (cntB p 64), τ') ∧ MU eA noB τ τ' := by
    intro τ1 u1 e1
    unfold pf_X11_endings_b56
    refine up_C (fun n i (s : Nat × St) => pf_X11_endings_L60 n 609 (nI q) (nI s.1) (nI i) s.2) (2 ^ nS rd (53 + 186 * q)) (fun i s => s.1 = cntB p i ∧ MU eA noB τ s.2 ∧ ∃ f : Nat → Bool, (∀ t, t < 64 → gI s.2 619 t = b2i (f t)) ∧ EB rd (53 + 186 * q) S d (LL i) f) (fun r => ∃ τ', r = some (nI (cntB p 64), τ') ∧ MU eA noB τ τ') ?_ ?_ FU 0 (0, τ1) (Nat.zero_le _) ⟨rfl, u1, fun t => decide (t = d), e1, fun t ht => ?_⟩ (lt_FU (by omega))
    · rintro n ⟨c, s⟩ ⟨h1, h2, f, h3, h4⟩
      have Xs := h.mu h2 eA610 (fun q => q)
      refine ⟨s, ?_, h2⟩
      show pf_X11_endings_L60 (n + 1) 609 (nI q) (nI c) (nI (2 ^ nS rd (53 + 186 * q))) s = _
      rw [pf_X11_endings_L60, stepsM Xs hq v, bind_some, pow_shl _ hn.1, if_pos (nI_le (Nat.le_refl _) (by omega))]
      have h1' : c = cntB p (2 ^ nS rd (53 + 186 * q)) := h1
      have ext : ∀ m, cntB p (2 ^ nS rd (53 + 186 * q) + m) = cntB p (2 ^ nS rd (53 + 186 * q)) ∨ 64 < 2 ^ nS rd (53 + 186 * q) + m := by
        intro m
        induction m with
        | zero => exact Or.inl rfl
        | succ m ih =>
          by_cases hm : 64 < 2 ^ nS rd (53 + 186 * q) + (m + 1)
          · exact Or.inr hm
          · rcases ih with ih | ih
            · left
              rw [← Nat.add_assoc, cntB, ih]
              have : p (2 ^ nS rd (53 + 186 * q) + m) = false := by
                cases e : p (2 ^ nS rd (53 + 186 * q) + m) with
                | false => rfl
                | true =>
                  have := Rch_pow hdp ((hp _ (by omega)).mp e).1
                  omega
              rw [this]; rfl
            · omega
      have := ext (64 - 2 ^ nS rd (53 + 186 * q))
      rw [show 2 ^ nS rd (53 + 186 * q) + (64 - 2 ^ nS rd (53 + 186 * q)) = 64 by omega] at this
      rcases this with e | e
      · rw [h1', e]
      · omega
    · rintro n i ⟨c, s⟩ hi ⟨h1, h2, f, h3, h4⟩
      have hi64 : i < 64 := by omega
      have Xs := X.mu h2 eA610 eA613 (fun q => q)
      have e9 : gI s 609 9 = nI d := by rw [h2.F (fun q => q)]; exact hW
      have hR := h4.reached hn.1 hi64
      have h1' : c = cntB p i := h1
      subst h1'
      have hci : cntB p i ≤ i := cntB_le i
      right
      show ∃ s' : Nat × St, pf_X11_endings_L60 (n + 1) 609 (nI q) (nI (cntB p i)) (nI i) s = pf_X11_endings_L60 n 609 (nI q) (nI s'.1) (nI (i + 1)) s'.2 ∧ _
      rw [pf_X11_endings_L60, stepsM Xs.1 hq v, bind_some, pow_shl _ hn.1, if_neg (nI_ge hi (by omega)), ckA al619 hi64, nI_clamp (by omega), show gI s (609 + 10) i = _ from h3 i hi64, if_b2]
      have pf : ¬ (Rch (gl rd (53 + 186 * q)) (cnR rd (53 + 186 * q) S d) d i ∧ gl rd (53 + 186 * q) i = true) → cntB p (i + 1) = cntB p i := fun hno => by
        have : p i = false := by
          cases e : p i with
          | false => rfl
          | true => exact absurd ((hp i hi64).mp e) hno
        rw [cntB, this]; rfl
      cases hfi : f i with
      | false =>
        rw [if_neg Bool.false_ne_true, pf_X11_endings_b144, bnd_e, nI_1]
        have hno : ¬ Rch (gl rd (53 + 186 * q)) (cnR rd (53 + 186 * q) S d) d i := fun q => by rw [hR.mpr q] at hfi; cases hfi
        exact ⟨(cntB p i, s), rfl, (pf fun q => hno q.1).symm, h2, f, h3, h4.no fun q => hno q.1⟩
      | true =>
        have hr := hR.mp hfi
        obtain ⟨s2, g1, g2⟩ := holdsM Xs.1 hq v hi64
        have g2' : MU eA noB s s2 := g2.mono (fun j hj => Or.inl hj) (fun _ h => h)
        have h32 : ∀ t, t < 64 → gI s2 619 t = b2i (f t) := fun t ht => by rw [g2.I (by decide) (by unfold hA; decide)]; exact h3 t ht
        rw [if_pos rfl, g1, bnd2_some, if_b2]
        cases hg : gl rd (53 + 186 * q) i with
        | true =>
          rw [if_pos rfl, bnd_e, pf_X11_endings_b144, bnd_e, nI_1, nI_1]
          refine ⟨(cntB p i + 1, s2), rfl, ?_, h2.trans g2', f, h32, h4.no fun q => by rw [hg] at q; exact absurd q.2 (by decide)⟩
          show cntB p i + 1 = cntB p (i + 1)
          rw [cntB, (hp i hi64).mpr ⟨hr, hg⟩]; rfl
        | false =>
          rw [if_neg Bool.false_ne_true]
          have e92 : gI s2 609 9 = nI d := by rw [g2'.F (fun q => q)]; exact e9
          refine end101 (Xs.mu g2' eA610 eA613 (fun q => q)) hd e92 hi64 hr hg h32 h4 (pf_X11_endings_b144 (pf_X11_endings_L60 n)) (fun r => ∃ s' : Nat × St, r = pf_X11_endings_L60 n 609 (nI q) (nI s'.1) (nI (i + 1)) s'.2 ∧ s'.1 = cntB p (i + 1) ∧ MU eA noB τ s'.2 ∧ ∃ f : Nat → Bool, (∀ t, t < 64 → gI s'.2 619 t = b2i (f t)) ∧ EB rd (53 + 186 * q) S d (LL (i + 1)) f) fun s3 f' p1 p2 p3 => ⟨(cntB p i, s3), ?_, (pf fun q => by rw [hg] at q; exact absurd q.2 (by decide)).symm, (h2.trans g2').trans p1, f', p2, p3⟩
          rw [pf_X11_endings_b144, bnd_e, nI_1]
    · show decide (t = d) = true ↔ _
      rw [decide_eq_true_eq]
      constructor
      · exact Or.inl
      · rintro (e | ⟨u, k, a1, _⟩)
        · exact e
        · unfold LL at a1
          rw [if_neg (Nat.not_lt_zero _)] at a1
          omega
  refine up_C (fun n i s => pf_X11_endings_L25 pf_X11_endings_b56 n 609 (nI q) (nI i) s) 64 (fun i s => MU eA noB τ s ∧ ∀ t, t < i → gI s 619 t = b2i (decide (t = d))) (fun r => ∃ τ', r = some (nI (cntB p 64), τ') ∧ MU eA noB τ τ') ?_ ?_ FU 0 τ (Nat.zero_le _) ⟨MU.refl _ _ _, fun k hk => absurd hk (Nat.not_lt_zero _)⟩ (lt_FU (by omega))
  · intro n s ⟨h1, h2⟩
    show ∃ τ', pf_X11_endings_L25 pf_X11_endings_b56 (n + 1) 609 (nI q) (nI 64) s = _ ∧ _
    rw [pf_X11_endings_L25, show (64 : Int32) = nI 64 from rfl, if_pos (nI_le (Nat.le_refl _) (by omega))]
    exact L60 s h1 h2
  · intro n i s hi ⟨h1, h2⟩
    have e9 : gI s 609 9 = nI d := by rw [h1.F (fun q => q)]; exact hW
    refine Or.inr ⟨sI s 619 i (b2i (decide (i = d))), ?_, h1.trans (MU.arr _ _ (Or.inr rfl) (by decide)), fun t ht => ?_⟩
    · show pf_X11_endings_L25 pf_X11_endings_b56 (n + 1) 609 (nI q) (nI i) s = pf_X11_endings_L25 pf_X11_endings_b56 n 609 (nI q) (nI (i + 1)) _
      rw [pf_X11_endings_L25, show (64 : Int32) = nI 64 from rfl, if_neg (nI_ge hi (by omega)), e9]
      unfold pf_X11_endings_b49
      by_cases e : i = d
      · rw [if_pos (by rw [e]), ckA al619 hi, ckZ_1, nI_clamp (by omega), bnd_e, bnd_e, nI_1, decide_eq_true e]; rfl
      · rw [if_neg (by rw [nI_eq (by omega) (by omega)]; exact e), ckA al619 hi, ckZ_0, nI_clamp (by omega), bnd_e, bnd_e, nI_1, decide_eq_false e]; rfl
    · by_cases e : t = i
      · subst e; rw [gI_at]
      · rw [gI_ns _ _ _ e]; exact h2 t (by omega)
end
section
variable {σ τ : St} {rd : Nat → Int32} {B : Nat}
theorem ag_endings (X : CX σ rd B) (h : MR τ rd) (v : Int32) : ∃ A b σ' τ', pf_X10_endings 0 v σ = some (A, σ') ∧ Un cQ σ σ' ∧ pf_X11_endings 609 v τ = some (b, τ') ∧ MU qA qB τ τ' ∧ Agr fQ A b (gI τ' 609 0) := by
  obtain ⟨h1, h0, u1⟩ := thr0 h
  have q0 := X.q0
  unfold pf_X10_endings pf_X11_endings
  rw [bnd_e]
  rcases v_cases v (n := Qn rd) (by omega) with hv | ⟨q, hq, rfl⟩
  · rw [qAt_no X hv, bXW_l, isQ_no h1 q0.1 q0.2 h0 hv, bnd2_some, i00]
    exact ⟨_, _, _, _, rfl, Un.refl _ _, rfl, u1.trans (MU.fld _ _ (Or.inl rfl)), gI_at _ _ _ _⟩
  · have V := X.V hq
    have hn := V.n
    have hq6 : q < 6 := by omega
    have hd := dnM_64 V
    have hc := cnR_ok (S := stk rd) (d := dnM rd (53 + 186 * q)) hn.1
    obtain ⟨σ2, c1, c2, _, c3, c4⟩ := X.ex hq
    obtain ⟨τ2, g1, g2, g3, g4⟩ := posM X h1 hq
    have ec : pf_X7_countEndings (0 + 602) (7 + 9 * q) σ2 = some (nI (cntB (fun t => gbit (gL σ2 602 3) t && gl rd (53 + 186 * q) t) 64)) := by
      unfold pf_X7_countEndings
      rw [bc64, bind_some]
      congr 2
      apply cntB_congr
      intro t ht
      rw [gbit_and]
      show (gbit (gL σ2 602 3) t && gbit (gL σ2 (7 + 9 * q) 5) t) = _
      rw [c3.1.2.2.2.1.2.2.2.2.2.1 t ht]
    rw [qAt_yes X hq, bXW_r, ckK_eq (kd7 q hq6), isQ_yes h1 q0.1 q0.2 h0 hq, bnd2_some, i10, show pf_X7_explore (0 + 602) (7 + 9 * q) (0 + 2 + 1) σ = _ from c1, bnd2_some, ec, bind_some, g1, bnd2_some, if_b2]
    cases hp : posb rd (53 + 186 * q) (stk rd) with
    | false =>
      refine ⟨_, _, _, _, rfl, c2, rfl, u1.trans g2.qq, g2.t0.trans h0, ?_⟩
      have : ∀ k, k ≤ 64 → cntB (fun t => gbit (gL σ2 602 3) t && gl rd (53 + 186 * q) t) k = 0 := by
        intro k hk
        induction k with
        | zero => rfl
        | succ k ih =>
          rw [cntB, ih (by omega)]
          cases e : (gbit (gL σ2 602 3) k && gl rd (53 + 186 * q) k) with
          | false => rfl
          | true =>
            exfalso
            rw [Bool.and_eq_true] at e
            obtain ⟨o, l, hl⟩ := (c3.2.1 k (by omega)).mp e.1
            have o2 := of_decide_eq_true o
            obtain ⟨w, e1, _⟩ := gF_le (w := one) hc l _ k hd hl e.2
            rw [posb_f hp o2] at e1
            cases e1
      rw [this 64 (Nat.le_refl _)]; rfl
    | true =>
      obtain ⟨p1, p2, p3⟩ := posb_t V hp
      obtain ⟨τ3, k1, k2⟩ := endM g3 g4.1 (fun t => gbit (gL σ2 602 3) t && gl rd (53 + 186 * q) t) (fun t ht => by
        rw [Bool.and_eq_true, c3.2.1 t ht, decide_eq_true_eq]
        exact ⟨fun q => ⟨q.1.2, q.2⟩, fun q => ⟨⟨p1, q.1⟩, q.2⟩⟩)
      have u3 : MU qA qI τ2 τ3 := k2.mono (fun i hi => by unfold eA at hi; unfold qA; omega) (fun k hk => hk.elim)
      rw [if_pos rfl, k1]
      exact ⟨_, _, _, _, rfl, c2, rfl, (u1.trans g2.qq).trans u3.qq, u3.t0.trans (g2.t0.trans h0), rfl⟩
end
