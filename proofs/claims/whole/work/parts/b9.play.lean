/-! PLAY -/
def smf (f : Nat → Nat) : Nat → Nat
  | 0 => 0
  | k + 1 => smf f k + f k
theorem smf_eq {f f' : Nat → Nat} : ∀ n, (∀ k, k < n → f' k = f k) → smf f' n = smf f n
  | 0, _ => rfl
  | n + 1, h => by rw [smf, smf, smf_eq n (fun k hk => h k (by omega)), h n (by omega)]
theorem smf_up {f f' : Nat → Nat} {s : Nat} : ∀ n, s < n → (∀ k, k < n → k ≠ s → f' k = f k) → smf f' n + f s = smf f n + f' s
  | 0, h, _ => absurd h (Nat.not_lt_zero _)
  | n + 1, h, he => by
    rw [smf, smf]
    by_cases c : s = n
    · subst c
      rw [smf_eq s (fun k hk => he k (by omega) (by omega))]; omega
    · have := smf_up n (by omega) (fun k hk hn => he k (by omega) hn)
      have e := he n (by omega) (by omega)
      omega
theorem smf_le {f : Nat → Nat} {m : Nat} : ∀ n, (∀ k, k < n → f k ≤ m) → smf f n ≤ m * n
  | 0, _ => Nat.le_refl _
  | n + 1, h => by
    have := smf_le n (fun k hk => h k (by omega))
    have e := h n (by omega)
    rw [smf, Nat.mul_succ]; omega
def lfT (rd : Nat → Int32) (q k : Nat) : Nat := if rd (cP q k + 3) = 1 then 0 else 1
def muT (rd : Nat → Int32) (q k : Nat) : Nat := if rd (cP q k + 3) = 1 then 0 else 10 - Nn (rd (cP q k + 2))
def lft (rd : Nat → Int32) (q : Nat) : Nat := smf (lfT rd q) (nS rd (53 + 186 * q))
def mu (rd : Nat → Int32) (q : Nat) : Nat := smf (muT rd q) (nS rd (53 + 186 * q))
theorem fal_c {B q s : Nat} {rd : Nat → Int32} (v : VR B rd) (hB : B ≤ 50000000) (hq : q < Nn (rd 0)) (t : Tr rd q s) : (∀ k, 13 ≤ k → k ≠ 53 + 186 * q + 1 → k ≠ cP q s + 2 → fal rd q s k = rd k) ∧ fal rd q s (cP q s + 2) = nI (Nn (rd (cP q s + 2)) + 1) ∧ Nn (rd (cP q s + 2)) + 1 ≤ 9 ∧ (fal rd q s (53 + 186 * q + 1) = 0 ∨ fal rd q s (53 + 186 * q + 1) = nI 2) := by
  have n0 := v.n0
  obtain ⟨w1, w2, w3, w4, w5, w6, w7⟩ := flA_V v hq t
  obtain ⟨x1, x2, x3, x4, x5⟩ := flB_V v hB hq t
  have hc : cP q s = 53 + 186 * q + 6 + 30 * s := rfl
  unfold fal
  split
  · refine ⟨fun k h1 h2 h3 => by rw [x4 k h1]; exact up_ne _ _ h3, by rw [x4 _ (by omega)]; exact w6, w7, Or.inl ?_⟩
    rw [x4 _ (by omega)]
    exact (up_ne _ _ (by omega)).trans t.1
  · refine ⟨fun k h1 h2 h3 => by rw [up_ne _ _ h2, x4 k h1]; exact up_ne _ _ h3, by rw [up_ne _ _ (by omega), x4 _ (by omega)]; exact w6, w7, Or.inr (up_at _ _ _)⟩
theorem suc_c {B q s : Nat} {rd : Nat → Int32} (v : VR B rd) (hB : B + 198 ≤ 50000000) (hq : q < Nn (rd 0)) (t : Tr rd q s) : (∀ k, (k < 5 ∨ 13 ≤ k) → k ≠ 53 + 186 * q + 1 → k ≠ cP q s + 3 → suc rd q s k = rd k) ∧ suc rd q s (cP q s + 3) = 1 ∧ (suc rd q s (53 + 186 * q + 1) = if sucH rd q s then nI 1 else 0) := by
  have n0 := v.n0
  have hc : cP q s = 53 + 186 * q + 6 + 30 * s := rfl
  have V3 := (sucD_V v hB hq t.2.1 t.2.2.1).1
  have ed0 : sucD rd q s 0 = rd 0 := sucD_out _ (by omega) (by omega)
  have hit := (V3.2.2.2.2.2.2.1 q (by rw [ed0]; exact hq)).1.2.2.1.2
  unfold suc
  cases hst : sucH rd q s with
  | true =>
    rw [if_pos rfl, if_pos rfl]
    unfold sucE
    exact ⟨fun k h1 h2 h3 => by rw [up_ne _ _ (by omega), up_ne _ _ h2]; exact sucD_out _ h1 h3, by rw [up_ne _ _ (by omega), up_ne _ _ (by omega)]; exact up_at _ _ _, by rw [up_ne _ _ (by omega), up_at]⟩
  | false =>
    rw [if_neg Bool.false_ne_true, if_neg Bool.false_ne_true]
    exact ⟨fun k h1 h2 h3 => sucD_out _ h1 h3, up_at _ _ _, (sucD_out _ (by omega) (by omega)).trans t.1⟩
/-- what a try leaves -/
def PI (b0 q : Nat) (rd : Nat → Int32) : Prop := q < Nn (rd 0) ∧ lft rd q ≤ 6 ∧ ((rd (53 + 186 * q + 1) = 0 ∧ VR (b0 + 99 * (6 - lft rd q)) rd) ∨ (rd (53 + 186 * q + 1) ≠ 0 ∧ VR (b0 + 693) rd))
theorem PI.V {b0 q : Nat} {rd : Nat → Int32} (h : PI b0 q rd) : VR (b0 + 693) rd := h.2.2.elim (fun e => e.2.mono (by omega)) (fun e => e.2)
theorem dn_not {rd : Nat → Int32} {q s : Nat} (t : Tr rd q s) : ¬ rd (cP q s + 3) = 1 := fun e => by
  have := t.2.2.2.2
  rw [dn_bit t.2.1] at this
  exact of_decide_eq_false this e
theorem PI.try {b0 q s : Nat} {rd : Nat → Int32} (h : PI b0 q rd) (hb : b0 + 891 ≤ 50000000) (t : Tr rd q s) : PI b0 q (tryR rd q s) ∧ mu (tryR rd q s) q < mu rd q := by
  obtain ⟨hq, h6, hv⟩ := h
  rcases hv with ⟨h0, v⟩ | ⟨h0, _⟩
  · have n0 := v.n0
    have hn := ((v.2.2.2.2.2.2.1 q hq).1).n
    have e : ∀ k, (k = 0 ∨ (2 < k ∧ k < 13) ∨ 53 ≤ k) → drR rd k = rd k := fun k hk => drR_out rd v.2.1.2 hk
    have t' := t.dr v hq
    have v' := drVR v
    have hq' : q < Nn (drR rd 0) := by rw [e 0 (by omega)]; exact hq
    have hc : ∀ k, cP q k = 53 + 186 * q + 6 + 30 * k := fun _ => rfl
    have hcs := hc s
    have nd := dn_not t
    have t2 := t.2.1
    unfold tryR
    by_cases c : drV rd < rd (cP q s)
    · rw [if_pos c]
      obtain ⟨f1, f2, f3, f4⟩ := fal_c v' (by omega) hq' t'
      have fv := fal_V v' (by omega) hq' t'
      have x5 := (flB_V v' (by omega) hq' t').2.2.2.2
      have e0 : fal (drR rd) q s 0 = rd 0 := by
        unfold fal
        split
        · rw [x5 0 (by omega), e 0 (by omega)]
        · rw [up_ne _ _ (by omega), x5 0 (by omega), e 0 (by omega)]
      have en : nS (fal (drR rd) q s) (53 + 186 * q) = nS rd (53 + 186 * q) := by
        unfold nS
        rw [f1 _ (by omega) (by omega) (by omega), e _ (by omega)]
      have e3 : ∀ k, fal (drR rd) q s (cP q k + 3) = rd (cP q k + 3) := fun k => by
        have := hc k
        rw [f1 _ (by omega) (by omega) (by omega), e _ (by omega)]
      have er : lft (fal (drR rd) q s) q = lft rd q := by
        unfold lft
        rw [en]
        exact smf_eq _ fun k hk => by unfold lfT; rw [e3]
      have em : mu (fal (drR rd) q s) q < mu rd q := by
        unfold mu
        rw [en]
        have h1 := smf_up (f := muT rd q) (f' := muT (fal (drR rd) q s) q) (s := s) (nS rd (53 + 186 * q)) t2 (fun k hk hks => by
          have := hc k
          unfold muT
          rw [e3, f1 _ (by omega) (by omega) (by omega), e _ (by omega)])
        have h2 : muT (fal (drR rd) q s) q s = 9 - Nn (rd (cP q s + 2)) := by
          unfold muT
          rw [e3, if_neg nd, f2, e _ (by omega), Nn_nI (by rw [e _ (by omega)] at f3; omega)]
          omega
        have h3 : muT rd q s = 10 - Nn (rd (cP q s + 2)) := by unfold muT; rw [if_neg nd]
        rw [e _ (by omega)] at f3
        omega
      refine ⟨⟨by rw [e0]; exact hq, by rw [er]; exact h6, ?_⟩, em⟩
      rcases f4 with f4 | f4
      · exact Or.inl ⟨f4, by rw [er]; exact fv⟩
      · exact Or.inr ⟨by rw [f4]; decide, fv.mono (by omega)⟩
    · rw [if_neg c]
      obtain ⟨f1, f2, f3⟩ := suc_c v' (by omega) hq' t'
      obtain ⟨fv, fw⟩ := suc_V v' (by omega) hq' t'.2.1 t'.2.2.1
      have e0 : suc (drR rd) q s 0 = rd 0 := (f1 0 (by omega) (by omega) (by omega)).trans (e 0 (by omega))
      have en : nS (suc (drR rd) q s) (53 + 186 * q) = nS rd (53 + 186 * q) := by
        unfold nS
        rw [f1 _ (by omega) (by omega) (by omega), e _ (by omega)]
      have er : lft (suc (drR rd) q s) q + 1 = lft rd q := by
        unfold lft
        rw [en]
        have h1 := smf_up (f := lfT rd q) (f' := lfT (suc (drR rd) q s) q) (s := s) (nS rd (53 + 186 * q)) t2 (fun k hk hks => by
          have := hc k
          unfold lfT
          rw [f1 _ (by omega) (by omega) (by omega), e _ (by omega)])
        have h2 : lfT (suc (drR rd) q s) q s = 0 := by unfold lfT; rw [f2, if_pos rfl]
        have h3 : lfT rd q s = 1 := by unfold lfT; rw [if_neg nd]
        omega
      have em : mu (suc (drR rd) q s) q < mu rd q := by
        unfold mu
        rw [en]
        have h1 := smf_up (f := muT rd q) (f' := muT (suc (drR rd) q s) q) (s := s) (nS rd (53 + 186 * q)) t2 (fun k hk hks => by
          have := hc k
          unfold muT
          rw [f1 _ (by omega) (by omega) (by omega), e _ (by omega), f1 _ (by omega) (by omega) (by omega), e _ (by omega)])
        have h2 : muT (suc (drR rd) q s) q s = 0 := by unfold muT; rw [f2, if_pos rfl]
        have h3 : muT rd q s = 10 - Nn (rd (cP q s + 2)) := by unfold muT; rw [if_neg nd]
        have h4 : Nn (rd (cP q s + 2)) ≤ 9 := ((v.2.2.2.2.2.2.1 q hq).1.s t2).2.2.1.1.2
        omega
      refine ⟨⟨by rw [e0]; exact hq, by omega, ?_⟩, em⟩
      cases hg : sucH (drR rd) q s with
      | true => exact Or.inr ⟨by rw [f3, hg]; decide, fv.mono (by omega)⟩
      | false => exact Or.inl ⟨by rw [f3, hg]; rfl, (fw hg).mono (by omega)⟩
  · exact absurd t.1 h0
/-- the next step of the plan -/
def nst (rd : Nat → Int32) (q : Nat) : Nat := stp (gl rd (53 + 186 * q)) (cnR rd (53 + 186 * q) (stk rd) (dnM rd (53 + 186 * q))) (dnM rd (53 + 186 * q))
theorem nst_ok {B q : Nat} {rd : Nat → Int32} (v : VR B rd) (hq : q < Nn (rd 0)) (hp : posb rd (53 + 186 * q) (stk rd) = true) : Tr rd q (nst rd q) ∧ ∃ w, plN rd (53 + 186 * q) (stk rd) = w + 1 ∧ gF (gl rd (53 + 186 * q)) (cnR rd (53 + 186 * q) (stk rd) (dnM rd (53 + 186 * q))) one (dnM rd (53 + 186 * q)) = some (w + 1) := by
  obtain ⟨V, O⟩ := v.2.2.2.2.2.2.1 q hq
  have hd := dnM_64 V
  have hc := cnR_ok (S := stk rd) (d := dnM rd (53 + 186 * q)) V.n.1
  obtain ⟨p1, p2, p3⟩ := posb_t V hp
  cases hw : plN rd (53 + 186 * q) (stk rd) with
  | zero =>
    rw [hw] at p2
    have := gF_zero hc hd p2
    rw [O p1] at this
    exact absurd this (by decide)
  | succ w =>
    rw [hw] at p2
    obtain ⟨q1, q2, q3, q4, q5⟩ := gF_succ hc hd p2
    have hs := (cnR_s q3).1
    have q3' := q3
    rw [hcode_cn hs, decide_eq_true_eq] at q3'
    exact ⟨Tr.of v hq p1 hs q3', w, rfl, p2⟩
def itr (q : Nat) : Nat → (Nat → Int32) → (Nat → Int32)
  | 0, rd => rd
  | k + 1, rd => itr q k (tryR rd q (nst rd q))
theorem itr_s (q : Nat) : ∀ k rd, itr q (k + 1) rd = tryR (itr q k rd) q (nst (itr q k rd) q)
  | 0, _ => rfl
  | k + 1, rd => itr_s q k (tryR rd q (nst rd q))
theorem plays {b0 q : Nat} (hb : b0 + 891 ≤ 50000000) : ∀ m rd, PI b0 q rd → mu rd q ≤ m → ∃ K, K ≤ m ∧ (∀ k, k < K → posb (itr q k rd) (53 + 186 * q) (stk (itr q k rd)) = true) ∧ posb (itr q K rd) (53 + 186 * q) (stk (itr q K rd)) = false ∧ ∀ k, k ≤ K → PI b0 q (itr q k rd) := by
  intro m
  induction m with
  | zero =>
    intro rd h hm
    cases hp : posb rd (53 + 186 * q) (stk rd) with
    | false => exact ⟨0, Nat.le_refl _, fun k hk => absurd hk (Nat.not_lt_zero _), hp, fun k hk => by rw [show k = 0 by omega]; exact h⟩
    | true => have := (h.try hb (nst_ok h.V h.1 hp).1).2; omega
  | succ m ih =>
    intro rd h hm
    cases hp : posb rd (53 + 186 * q) (stk rd) with
    | false => exact ⟨0, Nat.zero_le _, fun k hk => absurd hk (Nat.not_lt_zero _), hp, fun k hk => by rw [show k = 0 by omega]; exact h⟩
    | true =>
      obtain ⟨g1, g2⟩ := h.try hb (nst_ok h.V h.1 hp).1
      obtain ⟨K, k1, k2, k3, k4⟩ := ih _ g1 (by omega)
      refine ⟨K + 1, by omega, fun k hk => ?_, k3, fun k hk => ?_⟩
      · rcases k with _ | k
        · exact hp
        · exact k2 k (by omega)
      · rcases k with _ | k
        · exact h
        · exact k4 k (by omega)
section
variable {c : Nat} {σ : St}
theorem op_play (hc : c < 512) (I : Inv c σ) (v : Int32) : ∃ A σ1, pf_X10_play 0 v σ = some (A, σ1) ∧ ∀ σ2, Un oA σ1 σ2 → ∃ b σ3, pf_X11_play 609 v σ2 = some (b, σ3) ∧ Agr fQ A b (gI σ3 609 0) ∧ IL c σ2 σ3 := by
  obtain ⟨hb1, hb2, hb3⟩ := BB_1 hc
  obtain ⟨r, nxt, σa, r1, r2, r3, r4, r5, k1, k2, k3, kk⟩ := chg I
  have X : CX σ (RW σ r) (BB c) := ⟨r4, r5, by omega⟩
  have q0 := X.q0
  unfold pf_X10_play pf_X11_play
  simp only [bnd_e]
  rcases v_cases v (n := Qn (RW σ r)) (by omega) with hv | ⟨q, hq, rfl⟩
  · rw [qAt_no X hv, bXW_l]
    refine ⟨_, σ, rfl, fun σ2 u => ?_⟩
    obtain ⟨h1, h0, u1⟩ := ref0 (c := c) r1 r3 rfl rfl u
    rw [isQ_no h1 q0.1 q0.2 h0 hv, bnd2_some, i00]
    exact ⟨_, _, rfl, gI_at _ _ _ _, I.no (Un.refl _ _) u (u1.trans (MU.fld _ _ (Or.inl rfl)))⟩
  · have V := X.V hq
    have hn := V.n
    have hq6 : q < 6 := by omega
    rw [qAt_yes X hq, bXW_r, ckK_eq (kd7 q hq6)]
    rw [show pf_X1_remember (0 + 120) (0 + 2) σ = _ from k1, bind_some]
    have hm6 : lft (RW σ r) q ≤ 6 := by
      have := smf_le (f := lfT (RW σ r) q) (m := 1) (nS (RW σ r) (53 + 186 * q)) (fun k _ => by unfold lfT; split <;> omega)
      unfold lft; omega
    have hmu : mu (RW σ r) q ≤ 60 := by
      have := smf_le (f := muT (RW σ r) q) (m := 10) (nS (RW σ r) (53 + 186 * q)) (fun k _ => by unfold muT; split <;> omega)
      unfold mu; omega
    have P0 : PI (BB c) q (RW σ r) := ⟨hq, hm6, by
      by_cases c0 : RW σ r (53 + 186 * q + 1) = 0
      · exact Or.inl ⟨c0, r5.mono (by omega)⟩
      · exact Or.inr ⟨c0, r5.mono (by omega)⟩⟩
    obtain ⟨K, K1, K2, K3, K4⟩ := plays (by omega) 60 (RW σ r) P0 hmu
    generalize hrd : RW σ r = rd at *
    have key : ∃ σ1, pf_X10_play_L19 FU 0 (7 + 9 * q) 0 σa = some (.inr (nI K), σ1) ∧ Un nwM σa σ1 ∧ RLd σ1 2 (itr q K rd) ∧ ∀ k, k ≤ K → ∃ σk, RLd σk 2 (itr q k rd) := by
      refine up_C (fun n i t => pf_X10_play_L19 n 0 (7 + 9 * q) (nI i) t) K (fun i t => Un nwM σa t ∧ RLd t 2 (itr q i rd) ∧ ∀ k, k ≤ i → ∃ σk, RLd σk 2 (itr q k rd)) (fun x => ∃ σ1, x = some (.inr (nI K), σ1) ∧ Un nwM σa σ1 ∧ RLd σ1 2 (itr q K rd) ∧ ∀ k, k ≤ K → ∃ σk, RLd σk 2 (itr q k rd)) ?_ ?_ FU 0 σa (Nat.zero_le _) ⟨Un.refl _ _, k3, fun k hk => ⟨σa, by rw [show k = 0 by omega]; exact k3⟩⟩ (lt_FU (by omega))
      · intro n t ⟨h1, h2, h3⟩
        have Xt : CX t (itr q K rd) (BB c + 693) := ⟨h2, (K4 K (Nat.le_refl _)).V, by omega⟩
        obtain ⟨t1, c1, c2, c2', c3, c4⟩ := Xt.ex (K4 K (Nat.le_refl _)).1
        refine ⟨t1, ?_, h1.trans (c2.mono fun i hi => Or.inr hi), c4.1, h3⟩
        show pf_X10_play_L19 (n + 1) 0 (7 + 9 * q) (nI K) t = _
        rw [pf_X10_play_L19, show (100000 : Int32) = nI 100000 from rfl, if_neg (nI_ge (by omega) (by omega)), show pf_X7_explore (0 + 602) (7 + 9 * q) (0 + 2 + 1) t = _ from c1, bnd2_some, if_b, K3, if_neg (by decide)]
      · intro n i t hi ⟨h1, h2, h3⟩
        have Pi := K4 i (by omega)
        have Xt : CX t (itr q i rd) (BB c + 693) := ⟨h2, Pi.V, by omega⟩
        obtain ⟨t1, c1, c2, c2', c3, c4⟩ := Xt.ex Pi.1
        obtain ⟨T, w, hw, hF⟩ := nst_ok Pi.V Pi.1 (K2 i hi)
        obtain ⟨t2, d1, d2, d3⟩ := tryC Pi.V (by omega) Pi.1 T c4.1
        rw [← itr_s] at d3
        have ed : gI t1 (7 + 9 * q) 2 = nI (dnM (itr q i rd) (53 + 186 * q)) := ((c4.W Pi.1).2.2.2.1).2.2.1
        have en := nextP c3 T.1 (Rch.refl _) hF
        refine Or.inr ⟨t2, ?_, h1.trans ((c2.mono fun i hi => Or.inr hi).trans (d2.mono fun i hi => Or.inl ⟨hi.1, by have := hi.2; omega⟩)), d3, fun k hk => ?_⟩
        · show pf_X10_play_L19 (n + 1) 0 (7 + 9 * q) (nI i) t = pf_X10_play_L19 n 0 (7 + 9 * q) (nI (i + 1)) t2
          rw [pf_X10_play_L19, show (100000 : Int32) = nI 100000 from rfl, if_neg (nI_ge (by omega) (by omega)), show pf_X7_explore (0 + 602) (7 + 9 * q) (0 + 2 + 1) t = _ from c1, bnd2_some, if_b, K2 i hi, if_pos rfl, ed, show pf_X7_nextOfPlan (0 + 602) (nI (dnM (itr q i rd) (53 + 186 * q))) t1 = _ from en, bind_some, show pf_X2_tryStep (0 + 2) (7 + 9 * q) (nI (stp (gl (itr q i rd) (53 + 186 * q)) (cnR (itr q i rd) (53 + 186 * q) (stk (itr q i rd)) (dnM (itr q i rd) (53 + 186 * q))) (dnM (itr q i rd) (53 + 186 * q)))) t1 = _ from d1, bnd2_some, bnd_e, nI_1]
        · by_cases e : k = i + 1
          · subst e; exact ⟨t2, d3⟩
          · exact h3 k (by omega)
    obtain ⟨σ1, g1, g2, g3, g4⟩ := key
    rw [g1]
    refine ⟨_, σ1, rfl, fun σ2 u => ?_⟩
    have av : VR (BB (c + 1)) (itr q K rd) := (K4 K (Nat.le_refl _)).V.mono (by omega)
    have e9 : ∀ j, j = 609 ∨ j = 610 → gI σ1 j = gI σ j := fun j hj => by rw [g2.I (by unfold nwM cQ; omega), k2.I (by unfold rmM; omega)]
    obtain ⟨h1, h0, u1⟩ := ref0 (c := c) r1 r3 (e9 610 (by omega)) (e9 609 (by omega)) u
    rw [hrd] at h1
    obtain ⟨τa, a1, a2, a3, a4, a5⟩ := kk _ _ g2 g3 av σ2 u _ u1
    have w0 : Wr ((r + 1) % 9) τa τa rd := by have := Wr.q (r := (r + 1) % 9) (MU.refl qA qI τa); rw [a3] at this; exact this
    rw [isQ_yes h1 q0.1 q0.2 h0 hq, bnd2_some, i10, a1, bind_some]
    have fin : ∃ τ3, pf_X11_play_L21 FU 609 (nI q) 0 τa = some (nI K, τ3) ∧ Wr ((r + 1) % 9) τa τ3 (itr q K rd) := by
      refine up_C (fun n i t => pf_X11_play_L21 n 609 (nI q) (nI i) t) K (fun i t => Wr ((r + 1) % 9) τa t (itr q i rd)) (fun x => ∃ τ3, x = some (nI K, τ3) ∧ Wr ((r + 1) % 9) τa τ3 (itr q K rd)) ?_ ?_ FU 0 τa (Nat.zero_le _) w0 (lt_FU (by omega))
      · intro n t hw
        obtain ⟨σk, hk⟩ := g4 K (Nat.le_refl _)
        have Xt : CX σk (itr q K rd) (BB c + 693) := ⟨hk, (K4 K (Nat.le_refl _)).V, by omega⟩
        obtain ⟨t1, p1, p2, _⟩ := hasP Xt (hw.M (by omega) a2) (K4 K (Nat.le_refl _)).1
        refine ⟨t1, ?_, ?_⟩
        · show pf_X11_play_L21 (n + 1) 609 (nI q) (nI K) t = _
          rw [pf_X11_play_L21, p1, bnd2_some, if_b2, K3, if_neg (by decide)]
        · have := Wr.q (r := (r + 1) % 9) p2
          rw [hw.2.1] at this
          exact hw.trans this
      · intro n i t hi hw
        obtain ⟨σk, hk⟩ := g4 i (by omega)
        have Pi := K4 i (by omega)
        have Xt : CX σk (itr q i rd) (BB c + 693) := ⟨hk, Pi.V, by omega⟩
        obtain ⟨T, w, hwN, hF⟩ := nst_ok Pi.V Pi.1 (K2 i hi)
        obtain ⟨t1, p1, p2, p3, p4, p5⟩ := hasP Xt (hw.M (by omega) a2) Pi.1
        have hw1 : Wr ((r + 1) % 9) τa t1 (itr q i rd) := by
          have := Wr.q (r := (r + 1) % 9) p2
          rw [hw.2.1] at this
          exact hw.trans this
        obtain ⟨t2, d1, d2⟩ := tryM (by omega) a2 hw1 Pi.V (by omega) Pi.1 T
        rw [← itr_s] at d2
        refine Or.inr ⟨t2, ?_, d2⟩
        have e616 : gI t1 616 0 = nI (nst (itr q i rd) q) := (p5 (K2 i hi)).2 0 (by omega)
        show pf_X11_play_L21 (n + 1) 609 (nI q) (nI i) t = pf_X11_play_L21 n 609 (nI q) (nI (i + 1)) t2
        rw [pf_X11_play_L21, p1, bnd2_some, if_b2, K2 i hi, if_pos rfl, show ckI (0 : Int32) (alen (609 + 7)) _ = _ from ckA (n := 0) al616 (by omega), show gI t1 (609 + 7) (0 : Int32).toNatClampNeg = gI t1 616 0 from rfl, e616, d1, bnd2_some, bnd_e, nI_1]
    obtain ⟨τ3, p1, p2⟩ := fin
    rw [p1]
    exact ⟨_, _, rfl, ⟨p2.t.trans (a4.trans h0), rfl⟩, a5 _ p2⟩
end
