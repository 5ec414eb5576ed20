theorem VQ.e0 {rd : Nat → Int32} {b : Nat} (v : VQ rd b) : rd b = nI (nS rd b) := v.1.1.1
theorem if_b {α : Type} (c : Bool) (A B : α) : (if (if c = true then (1 : Int32) else 0) = 0 then A else B) = if c = true then B else A := by cases c <;> rfl
theorem al603 : alen 603 = 512 := by decide +kernel
theorem al604 : alen 604 = 64 := by decide +kernel
theorem al605 : alen 605 = 64 := by decide +kernel
theorem nx_nI (u j : Nat) (h : j < 6) : nI u ||| ishl 1 (nI j) = nI (nx u j) := by rw [shl1 j h, or_nI]; rfl
def wM : Nat → Prop := fun i => i = 602 ∨ i = 603 ∨ i = 604
theorem reach_ok {σ : St} {a : Nat} {rd : Nat → Int32} {b u j : Nat} (ka : kd a = 3) (ha : a + 9 ≤ 602) (v : VQ rd b) (h : RQ σ a rd b) (hu : u < 64) (hj : j < nS rd b) (hb : u.testBit j = false) : ∃ σ', pf_X7_reach 602 a (nI u) (nI j) σ = some σ' ∧ Un wM σ σ' ∧ (∀ i, i < 8 → gI σ' 603 (nx u j * 8 + i) = gI σ 603 (u * 8 + i) - nI (cU rd b j i) + nI (cG rd b j i)) ∧ (∀ c, ¬ (nx u j * 8 ≤ c ∧ c < nx u j * 8 + 8) → gI σ' 603 c = gI σ 603 c) ∧ gI σ' 604 u = gI σ 604 u ||| nI (1 <<< j) ∧ (∀ c, c ≠ u → gI σ' 604 c = gI σ 604 c) ∧ gL σ' 602 3 = gL σ 602 3 ||| lshl 1 (nI (nx u j)) := by
  have hn := v.n
  have hx := nx_b u hu j (by omega) hb
  unfold pf_X7_reach
  rw [nx_nI u j (by omega), bnd_e]
  generalize hw : nx u j = w at hx
  refine up_C (fun n i s => pf_X7_reach_L10 pf_X7_reach_b85 n 602 a (nI u) (nI j) (nI w) (nI i) s) 8 (fun i s => Un (fun q => q = 603) σ s ∧ (∀ k, k < i → gI s 603 (w * 8 + k) = gI σ 603 (u * 8 + k) - nI (cU rd b j k) + nI (cG rd b j k)) ∧ (∀ c, ¬ (w * 8 ≤ c ∧ c < w * 8 + 8) → gI s 603 c = gI σ 603 c)) (fun r => ∃ σ', r = some σ' ∧ Un wM σ σ' ∧ (∀ i, i < 8 → gI σ' 603 (w * 8 + i) = gI σ 603 (u * 8 + i) - nI (cU rd b j i) + nI (cG rd b j i)) ∧ (∀ c, ¬ (w * 8 ≤ c ∧ c < w * 8 + 8) → gI σ' 603 c = gI σ 603 c) ∧ gI σ' 604 u = gI σ 604 u ||| nI (1 <<< j) ∧ (∀ c, c ≠ u → gI σ' 604 c = gI σ 604 c) ∧ gL σ' 602 3 = gL σ 602 3 ||| lshl 1 (nI w)) ?_ ?_ FU 0 σ (Nat.zero_le _) ⟨Un.refl _ _, fun k hk => absurd hk (Nat.not_lt_zero _), fun _ _ => rfl⟩ (lt_FU (by omega))
  · intro n s ⟨h1, h2, h3⟩
    show ∃ σ', pf_X7_reach_L10 pf_X7_reach_b85 (n + 1) 602 a (nI u) (nI j) (nI w) (nI 8) s = some σ' ∧ _
    rw [pf_X7_reach_L10, show (8 : Int32) = nI 8 from rfl, if_pos (nI_le (Nat.le_refl _) (by omega)), pf_X7_reach_b85, at_ok al604 hu, bind_some, put_ok al604 hu, bind_some, bnd_e, shl1 j (by omega)]
    have e604 : gI s 604 = gI σ 604 := h1.I (by decide)
    refine ⟨_, rfl, ?_, ?_, ?_, ?_, ?_, ?_⟩
    · refine Un.trans (h1.mono (fun i hi => Or.inr (Or.inl hi))) (Un.trans (Un.sI _ _ (Or.inr (Or.inr rfl))) (Un.sL _ _ (Or.inl rfl)))
    · intro i hi
      rw [gI_sL, gI_ne _ _ _ _ (by decide)]
      exact h2 i hi
    · intro c hc
      rw [gI_sL, gI_ne _ _ _ _ (by decide)]
      exact h3 c hc
    · rw [gI_sL, gI_at, e604]
    · intro c hc
      rw [gI_sL, gI_ns _ _ _ hc, e604]
    · rw [gL_at, gL_sI, h1.L (by decide)]
  · intro n i s hi ⟨h1, h2, h3⟩
    have r6 := (h.b hj).2.2.2.2.2 i hi
    have hs : ∀ q, q ≠ 603 → gI s q = gI σ q := fun q hq => h1.I hq
    refine Or.inr ⟨sI s 603 (w * 8 + i) (gI s 603 (u * 8 + i) - gI s (a + 6) (j * 8 + i) + gI s (a + 8) (j * 8 + i)), ?_, h1.trans (Un.sI _ _ rfl), fun k hk => ?_, fun c hc => ?_⟩
    · show pf_X7_reach_L10 pf_X7_reach_b85 (n + 1) 602 a (nI u) (nI j) (nI w) (nI i) s = pf_X7_reach_L10 pf_X7_reach_b85 n 602 a (nI u) (nI j) (nI w) (nI (i + 1)) _
      rw [pf_X7_reach_L10, show (8 : Int32) = nI 8 from rfl, if_neg (nI_ge hi (by omega)), bnd_e, pk_mul, nI_add, pk_mul, nI_add, at_ok al603 (by omega), bind_some, at_ok (af_X3_uses ka) (by omega), bind_some, at_ok (af_X3_gives ka) (by omega), bind_some, bnd_e, pk_mul, nI_add, put_ok al603 (by omega), bind_some, bnd_e, nI_1]
    · by_cases e : k = i
      · subst e
        rw [gI_at, hs (a + 6) (by omega), hs (a + 8) (by omega), r6.1, r6.2.2, (v.cU hj hi).1, (v.cG hj hi).1, h3 _ (by omega)]
      · rw [gI_ns _ _ _ (by omega)]; exact h2 k (by omega)
    · rw [gI_ns _ _ _ (by omega)]; exact h3 c hc
theorem msk_succ (f : Nat → Bool) (k : Nat) : msk (k + 1) f = msk k f ||| (if f k then 1 <<< k else 0) := rfl
/-- all that a walk over a quest stands on -/
def Wx (σ : St) (a : Nat) (rd : Nat → Int32) (b : Nat) (S : Nat → Int) : Prop := kd a = 3 ∧ a + 9 ≤ 602 ∧ VQ rd b ∧ RQ σ a rd b ∧ ∀ i, i < 8 → 0 ≤ S i ∧ S i ≤ 50000000
theorem Wx.Z {σ : St} {a : Nat} {rd : Nat → Int32} {b : Nat} {S : Nat → Int} (X : Wx σ a rd b S) (m : Nat) : SB (bh rd b S m) := fun i hi => by
  have h1 := bh_bound (m := m) (S := S) X.2.2.1 hi
  have h2 := X.2.2.2.2 i hi
  omega
theorem Wx.un {M : Nat → Prop} {σ σ' : St} {a : Nat} {rd : Nat → Int32} {b : Nat} {S : Nat → Int} (X : Wx σ a rd b S) (h : Un M σ σ') (hm : ∀ i, a ≤ i → i < a + 9 → ¬ M i) : Wx σ' a rd b S := ⟨X.1, X.2.1, X.2.2.1, X.2.2.2.1.un h hm, X.2.2.2.2⟩
theorem dnM_64 {rd : Nat → Int32} {b : Nat} (v : VQ rd b) : dnM rd b < 64 := msk_64 _ v.n.1
theorem goF26 {σ : St} {a : Nat} {rd : Nat → Int32} {b u d : Nat} {S : Nat → Int} (X : Wx σ a rd b S) (hd : d < 64) (hu : u < 64) (hr : Rch (gl rd b) (cnR rd b S d) d u) (hg : gl rd b u = false) (hW : WF rd b S d (LL u) σ) (k64 : Nat → Nat → Int32 → St → Option St) (C : Option St → Prop) (hk : ∀ s, Un wM σ s → WF rd b S d (LL (u + 1)) s → C (k64 602 a (nI u) s)) : C (pf_X7_goForward_L26 k64 FU 602 a (nI u) 0 σ) := by
  obtain ⟨ka, ha, v, hq, hS⟩ := id X
  have hn := v.n
  have hc := cnR_ok (S := S) (d := d) hn.1
  refine up_C (fun n i s => pf_X7_goForward_L26 k64 n 602 a (nI u) (nI i) s) (nS rd b) (fun i s => Un wM σ s ∧ WF rd b S d (LJ u i) s) C ?_ ?_ FU 0 σ (Nat.zero_le _) ⟨Un.refl _ _, ?_⟩ (lt_FU (by omega))
  · intro n s ⟨h1, h2⟩
    show C (pf_X7_goForward_L26 k64 (n + 1) 602 a (nI u) (nI (nS rd b)) s)
    rw [pf_X7_goForward_L26, h1.I (show ¬ wM a from fun q => by unfold wM at q; omega), hq.1, v.e0, if_pos (nI_le (Nat.le_refl _) (by omega))]
    refine hk s h1 (h2.to fun w hw1 hw2 k hk => ?_)
    have := (cnR_s hk).1
    unfold LJ LL
    by_cases e1 : w < u
    · rw [if_pos e1, if_pos (by omega)]
    · by_cases e2 : w = u
      · rw [if_neg e1, if_pos e2, if_pos (by omega)]; omega
      · rw [if_neg e1, if_neg e2, if_neg (by omega)]
  · intro n i s hi ⟨h1, h2⟩
    have X' := X.un h1 (fun i q1 q2 q3 => by unfold wM at q3; omega)
    have hq' := X'.2.2.2.1
    have hbit : gbit (gL s 602 3) u = true := by
      rw [h2.1 u hu]
      rcases Rch_iff.mp hr with e | ⟨w, k, a1, a2, a3, a4⟩
      · exact Or.inl e
      · have o := hc w k a3
        have hw : w < 64 := Rch.lt hc hd a1
        have := (nx_b w hw k o.1 o.2).1
        refine Or.inr ⟨w, k, ?_, a1, a2, a3, a4⟩
        unfold LJ
        rw [if_pos (by omega)]; exact o.1
    have hst := h2.2.2.1 u hu hbit
    have hh := hindB (fr := u * 8) ka v hq' hu hi al603 (by omega) hst (X.Z (df u d))
    have e0 : pf_X7_goForward_L26 k64 (n + 1) 602 a (nI u) (nI i) s = (if hcode rd b (bh rd b S (df u d)) u i = 0 then (pf_X7_reach 602 a (nI u) (nI i) s).bind fun σ_2 => pf_X7_goForward_b58 (pf_X7_goForward_L26 k64 n) 602 a (nI u) (nI i) σ_2 else pf_X7_goForward_b58 (pf_X7_goForward_L26 k64 n) 602 a (nI u) (nI i) s) := by
      rw [pf_X7_goForward_L26, hq'.1, v.e0, if_neg (nI_ge hi (by omega)), show nI u * 8 = nI (u * 8) from pk_mul u 8, hh, bind_some, if_0]
      unfold hcode
      repeat' split
      all_goals omega
    have hcn : cnR rd b S d u i = decide (hcode rd b (bh rd b S (df u d)) u i = 0) := by
      unfold cnR; rw [decide_eq_true hi]; rfl
    refine Or.inr ?_
    show ∃ s', pf_X7_goForward_L26 k64 (n + 1) 602 a (nI u) (nI i) s = pf_X7_goForward_L26 k64 n 602 a (nI u) (nI (i + 1)) s' ∧ _
    rw [e0]
    by_cases hz : hcode rd b (bh rd b S (df u d)) u i = 0
    · rw [if_pos hz]
      rw [decide_eq_true hz] at hcn
      have ob := (hc u i hcn).2
      obtain ⟨s', g1, g2, g3, g4, g5, g6, g7⟩ := reach_ok ka ha v hq' hu hi ob
      rw [g1, bind_some, pf_X7_goForward_b58, bnd_e, nI_1]
      have hnx := nx_b u hu i (by omega) ob
      refine ⟨s', rfl, h1.trans g2, ?_, ?_, ?_, ?_⟩
      · intro t ht
        rw [g7, gbit_or, Bool.or_eq_true, h2.1 t ht, gbit_one _ hnx.2 t ht, decide_eq_true_eq]
        constructor
        · rintro ((e | ⟨w, k, a1, a2⟩) | e)
          · exact Or.inl e
          · refine Or.inr ⟨w, k, ?_, a2⟩
            unfold LJ at a1 ⊢
            split at a1
            · rw [if_pos (by assumption)]; exact a1
            · split at a1
              · rw [if_neg (by assumption), if_pos (by assumption)]; omega
              · omega
          · refine Or.inr ⟨u, i, ?_, hr, hg, hcn, e.symm⟩
            unfold LJ
            rw [if_neg (by omega), if_pos rfl]; omega
        · rintro (e | ⟨w, k, a1, a2, a3, a4, a5⟩)
          · exact Or.inl (Or.inl e)
          · unfold LJ at a1
            by_cases q1 : w < u
            · refine Or.inl (Or.inr ⟨w, k, ?_, a2, a3, a4, a5⟩)
              rw [if_pos q1] at a1
              unfold LJ
              rw [if_pos q1]; exact a1
            · by_cases q2 : w = u
              · subst q2
                rw [if_neg q1, if_pos rfl] at a1
                by_cases q3 : k = i
                · subst q3; exact Or.inr a5.symm
                · refine Or.inl (Or.inr ⟨w, k, ?_, a2, a3, a4, a5⟩)
                  unfold LJ
                  rw [if_neg q1, if_pos rfl]; omega
              · rw [if_neg q1, if_neg q2] at a1; omega
      · intro w hw
        by_cases q : w = u
        · subst q
          refine ⟨fun _ => ?_, fun hh => absurd ⟨hr, hg⟩ hh⟩
          rw [g5, (h2.2.1 w hw).1 ⟨hr, hg⟩, or_nI]
          unfold LJ
          rw [if_neg (by omega), if_pos rfl, if_neg (by omega), if_pos rfl, msk_succ, hcn]; rfl
        · rw [g6 w q]
          have e : LJ u (i + 1) w = LJ u i w := by unfold LJ; rw [if_neg q, if_neg q]
          rw [e]; exact h2.2.1 w hw
      · intro t ht hbt k hk
        by_cases e : t = nx u i
        · subst e
          have hdi : d.testBit i = false := by
            cases q : d.testBit i with
            | false => rfl
            | true => rw [Rch.sup hr i q] at ob; cases ob
          rw [g3 k hk, hst k hk, df_nx (by omega) hdi, bh_nx (by rw [df_bit, ob]; simp) hi, ← iI_nat, ← iI_nat, iI_sub, iI_add]
        · rw [g4 _ (by omega)]
          refine h2.2.2.1 t ht ?_ k hk
          rw [g7, gbit_or, gbit_one _ hnx.2 t ht, decide_eq_false e, Bool.or_false] at hbt
          exact hbt
      · intro w hw
        rw [g2.I (show ¬ wM 605 from fun q => by unfold wM at q; omega)]
        exact h2.2.2.2 w hw
    · rw [if_neg hz, pf_X7_goForward_b58, bnd_e, nI_1]
      rw [decide_eq_false hz] at hcn
      refine ⟨s, rfl, h1, h2.to fun w hw1 hw2 k hkk => ?_⟩
      unfold LJ
      by_cases e1 : w < u
      · rw [if_pos e1, if_pos e1]
      · by_cases e2 : w = u
        · rw [if_neg e1, if_pos e2, if_neg e1, if_pos e2]
          have : k ≠ i := fun e => by subst e2; subst e; rw [hcn] at hkk; cases hkk
          omega
        · rw [if_neg e1, if_neg e2, if_neg e1, if_neg e2]
  · refine hW.to fun w hw1 hw2 k hk => ?_
    unfold LJ LL
    by_cases e1 : w < u
    · rw [if_pos e1, if_pos e1]
    · rw [if_neg e1, if_neg e1]
      split <;> exact Iff.rfl
theorem isR {s : St} {u : Nat} (hu : u < 64) : pf_X7_isReached 602 (nI u) s = some (if gbit (gL s 602 3) u then 1 else 0) := by
  unfold pf_X7_isReached
  rw [if_g _ hu]
  cases gbit (gL s 602 3) u <;> rfl
theorem goF {σ : St} {a : Nat} {rd : Nat → Int32} {b d : Nat} {S : Nat → Int} (X : Wx σ a rd b S) (hd : d < 64) (hW : WF rd b S d (LL 0) σ) : ∃ σ', pf_X7_goForward 602 a σ = some σ' ∧ Un wM σ σ' ∧ WF rd b S d (LL 64) σ' := by
  obtain ⟨ka, ha, v, hq, hS⟩ := id X
  have hn := v.n
  unfold pf_X7_goForward
  refine up_C (fun n i s => pf_X7_goForward_L2 n 602 a (nI i) s) 64 (fun i s => Un wM σ s ∧ WF rd b S d (LL i) s) (fun r => ∃ σ', r = some σ' ∧ Un wM σ σ' ∧ WF rd b S d (LL 64) σ') ?_ ?_ FU 0 σ (Nat.zero_le _) ⟨Un.refl _ _, hW⟩ (lt_FU (by omega))
  · intro n s ⟨h1, h2⟩
    refine ⟨s, ?_, h1, h2⟩
    show pf_X7_goForward_L2 (n + 1) 602 a (nI 64) s = some s
    rw [pf_X7_goForward_L2, show (64 : Int32) = nI 64 from rfl, if_pos (nI_le (Nat.le_refl _) (by omega))]
  · intro n i s hi ⟨h1, h2⟩
    have X' := X.un h1 (fun i q1 q2 q3 => by unfold wM at q3; omega)
    have hq' := X'.2.2.2.1
    have hR := WF.reached hn.1 hi h2
    have skip : ¬ (Rch (gl rd b) (cnR rd b S d) d i ∧ gl rd b i = false) → WF rd b S d (LL (i + 1)) s := fun hno => h2.to fun w hw1 hw2 k hk => by
      have : w ≠ i := fun e => by subst e; exact hno ⟨hw1, hw2⟩
      unfold LL
      by_cases q : w < i
      · rw [if_pos q, if_pos (by omega)]
      · rw [if_neg q, if_neg (by omega)]
    show _ ∨ ∃ s', pf_X7_goForward_L2 (n + 1) 602 a (nI i) s = pf_X7_goForward_L2 n 602 a (nI (i + 1)) s' ∧ _
    rw [pf_X7_goForward_L2, show (64 : Int32) = nI 64 from rfl, if_neg (nI_ge hi (by omega)), isR hi, bind_some, if_b]
    cases hb : gbit (gL s 602 3) i with
    | false =>
      refine Or.inr ⟨s, ?_, h1, skip fun q => by rw [hR.mpr q.1] at hb; cases hb⟩
      rw [if_neg Bool.false_ne_true, pf_X7_goForward_b64, bnd_e, nI_1]
    | true =>
      rw [if_pos rfl, goalH hq' hi, bind_some, if_b]
      cases hg : gl rd b i with
      | true =>
        refine Or.inr ⟨s, ?_, h1, skip fun q => by rw [hg] at q; exact absurd q.2 (by decide)⟩
        rw [if_pos rfl, pf_X7_goForward_b64, bnd_e, nI_1]
      | false =>
        rw [if_neg Bool.false_ne_true]
        refine Or.inr (goF26 X' hd hi (hR.mp hb) hg h2 _ (fun r => ∃ s', r = pf_X7_goForward_L2 n 602 a (nI (i + 1)) s' ∧ Un wM σ s' ∧ WF rd b S d (LL (i + 1)) s') fun s2 u2 w2 => ⟨s2, ?_, h1.trans u2, w2⟩)
        rw [pf_X7_goForward_b64, bnd_e, nI_1]
