section
variable {σ τ : St} {rd : Nat → Int32} {B : Nat}
def pA : Nat → Prop := fun i => i = 617
theorem pA610 : ¬ pA 610 := by unfold pA; omega
theorem worthLM {q : Nat} {S : Nat → Int} (X : CX σ rd B) (h : MR τ rd) (hq : q < Qn rd) (hz : ¬ Nn (rd 3) = 0) (P : posb rd (53 + 186 * q) S = true → MPl τ rd (53 + 186 * q) S) : ∃ τ', pf_X11_worthOf_L26 pf_X11_worthOf_b230 FU 609 (nI q) (b2i (posb rd (53 + 186 * q) S)) 0 0 τ = some (iI (wth rd q S), τ') ∧ MU pA noB τ τ' := by
  have V := X.V hq
  have q0 := X.q0
  obtain ⟨o1, o2, o3⟩ := X.okW (S := S) hq
  have v3 := X.2.1.2.2.1
  obtain ⟨w1, w2⟩ := X.2.1.2.2.2.2.2.2.2
  have eW' : wW rd = Nn (rd 3) := by unfold wW; rw [if_neg hz]
  have r3 : rd 3 = nI (wW rd) := by rw [eW']; exact v3.1
  refine up_C (fun n i (s : Nat × St) => pf_X11_worthOf_L26 pf_X11_worthOf_b230 n 609 (nI q) (b2i (posb rd (53 + 186 * q) S)) (nI s.1) (nI i) s.2) (wW rd) (fun i s => MU pA noB τ s.2 ∧ ∃ st, PK s.2 st ∧ AB st ∧ s.1 = st.length ∧ st.length ≤ 11 ∧ hWf (wop rd) (wW rd - i) i st.length = some 1 ∧ evW (wF rd q S) (wop rd) (wv rd) (wW rd) 0 [] = evW (wF rd q S) (wop rd) (wv rd) (wW rd - i) i st) (fun r => ∃ τ', r = some (iI (wth rd q S), τ') ∧ MU pA noB τ τ') ?_ ?_ FU 0 (0, τ) (Nat.zero_le _) ⟨MU.refl _ _ _, [], trivial, fun x hx => absurd hx List.not_mem_nil, rfl, by decide, o2, rfl⟩ (lt_FU (by omega))
  · rintro n ⟨top, s⟩ ⟨h1, st, h2, h3, h4, h5, h6, h7⟩
    have hs := h.mu h1 pA610 (fun q => q)
    rw [Nat.sub_self] at h6 h7
    have hl : st.length = 1 := Option.some.inj h6
    match st, hl, h2, h3, h4, h7 with
    | [x], _, h2, h3, h4, h7 =>
      have ex : wth rd q S = x := by unfold wth; rw [h7]; rfl
      refine ⟨s, ?_, h1⟩
      show pf_X11_worthOf_L26 pf_X11_worthOf_b230 (n + 1) 609 (nI q) (b2i (posb rd (53 + 186 * q) S)) (nI top) (nI (wW rd)) s = _
      rw [pf_X11_worthOf_L26, show pf_X11_get 609 3 s = _ from get_ok (k := 3) hs (by omega), bind_some, r3, if_pos (nI_le (Nat.le_refl _) (by omega)), pf_X11_worthOf_b230, ex]
      rw [show ckI (0 : Int32) (alen (609 + 8)) (some ((gL s (609 + 8) (0 : Int32).toNatClampNeg).toInt32, s)) = some ((gL s 617 0).toInt32, s) from ckA (n := 0) al617 (by omega), show gL s 617 0 = lI x from h2.1, lI_to]
  · rintro n i ⟨top, s⟩ hi ⟨h1, st, h2, h3, h4, h5, h6, h7⟩
    have hs := h.mu h1 pA610 (fun q => q)
    have h4' : top = st.length := h4
    subst h4'
    obtain ⟨p1, p2, p3⟩ := o1 i hi
    have eop : wop rd i = Nn (rd (1169 + 2 * i)) := by unfold wop; rw [if_neg hz]
    have ev : wv rd i = Nn (rd (1169 + 2 * i + 1)) := by unfold wv; rw [if_neg hz]
    obtain ⟨c1, c2, c3⟩ := w1 i (by rw [← eW']; exact hi)
    have r1 : rd (1169 + 2 * i) = nI (wop rd i) := by rw [eop]; exact c1.1
    right
    show ∃ s' : Nat × St, pf_X11_worthOf_L26 pf_X11_worthOf_b230 (n + 1) 609 (nI q) (b2i (posb rd (53 + 186 * q) S)) (nI st.length) (nI i) s = pf_X11_worthOf_L26 pf_X11_worthOf_b230 n 609 (nI q) (b2i (posb rd (53 + 186 * q) S)) (nI s'.1) (nI (i + 1)) s'.2 ∧ _
    rw [pf_X11_worthOf_L26, show pf_X11_get 609 3 s = _ from get_ok (k := 3) hs (by omega), bind_some, r3, if_neg (nI_ge hi (by omega)), show (1169 : Int32) = nI 1169 from rfl, show (2 : Int32) = nI 2 from rfl, pk_mul, nI_add, get_ok hs (by omega), bind_some, nI_1, get_ok hs (by omega), bind_some, r1]
    rw [show wW rd - i = (wW rd - (i + 1)) + 1 by omega, hWf] at h6
    rw [show wW rd - i = (wW rd - (i + 1)) + 1 by omega, evW] at h7
    have push : ∀ (x : Int), -1000000 ≤ x ∧ x ≤ 1000000 → st.length + 1 ≤ 11 → ∃ s' : Nat × St, pf_X11_worthOf_b96 (pf_X11_worthOf_L26 pf_X11_worthOf_b230 n) 609 (nI q) (b2i (posb rd (53 + 186 * q) S)) (nI st.length) (nI i) (609 + 8) (nI st.length) (lI x) s = pf_X11_worthOf_L26 pf_X11_worthOf_b230 n 609 (nI q) (b2i (posb rd (53 + 186 * q) S)) (nI s'.1) (nI (i + 1)) s'.2 ∧ MU pA noB τ s'.2 ∧ PK s'.2 (x :: st) ∧ AB (x :: st) ∧ s'.1 = (x :: st).length := fun x hx hl => by
      refine ⟨(st.length + 1, sL s 617 st.length (lI x)), ?_, h1.trans (MU.arrL _ _ rfl), ⟨gL_at _ _ _ _, h2.un fun k hk => gL_ns _ _ _ (by omega)⟩, h3.cons hx, rfl⟩
      rw [pf_X11_worthOf_b96, ckA al617 (by omega), nI_clamp (by omega), bnd_e, bnd_e, nI_1, pf_X11_worthOf_b224, bnd_e, nI_1]
    by_cases d1 : wop rd i ≤ 1
    · rw [if_pos d1] at h6
      split at h6
      · rename_i hl
        have hv : stW (wF rd q S) (wop rd i) (wv rd i) st = (if wop rd i = 0 then (wv rd i : Int) else wF rd q S (wv rd i)) :: st := by unfold stW; rw [if_pos d1]
        rw [hv] at h7
        rw [if_neg (show ¬ (1 : Int32) < nI (wop rd i) from by rw [show (1 : Int32) = nI 1 from rfl]; exact nI_nlt d1 (by omega))]
        by_cases d0 : wop rd i = 0
        · rw [if_pos d0] at h7
          have hv9 := p2 d0
          have r2 : rd (1169 + 2 * i + 1) = nI (wv rd i) := by rw [ev]; exact (c2 (by rw [r1, d0]; rfl)).1
          obtain ⟨s', g1, g2, g3, g4, g5⟩ := push (wv rd i) (by omega) hl
          rw [d0, if_pos (show nI 0 = (0 : Int32) from rfl), r2, lI_n (by omega), g1]
          exact ⟨s', rfl, g2, _, g3, g4, g5, hl, h6, h7⟩
        · have d01 : wop rd i = 1 := by omega
          rw [if_neg d0] at h7
          obtain ⟨hv5, hF⟩ := p3 d01
          have r2 : rd (1169 + 2 * i + 1) = nI (wv rd i) := by rw [ev]; exact (c3 (by rw [r1, d01]; rfl)).1
          have Ps : posb rd (53 + 186 * q) S = true → MPl s rd (53 + 186 * q) S := fun hp => by
            have a := P hp
            refine ⟨by rw [h1.F (fun q => q)]; exact a.1, fun k hk => by rw [h1.I (by decide) (by unfold pA; omega)]; exact a.2 k hk⟩
          obtain ⟨s', g1, g2, g3, g4, g5⟩ := push (wF rd q S (wv rd i)) hF hl
          rw [d01, if_neg (show ¬ nI 1 = (0 : Int32) by decide), r2, factM hs (by omega) V (by omega) Ps, bind_some, g1]
          exact ⟨s', rfl, g2, _, g3, g4, g5, hl, h6, h7⟩
      · cases h6
    · rw [if_neg d1] at h6
      rw [if_pos (show (1 : Int32) < nI (wop rd i) from by rw [show (1 : Int32) = nI 1 from rfl]; exact nI_lt (by omega) (by omega))]
      split at h6
      · rename_i hl
        match st, hl, h2, h3, h5, h6, h7 with
        | b :: a :: r, _, h2, h3, h5, h6, h7 =>
          have l5 : r.length + 2 ≤ 11 := by simpa using h5
          have hst : stW (wF rd q S) (wop rd i) (wv rd i) (b :: a :: r) = lim (bopr (wop rd i) a b) :: r := by unfold stW; rw [if_neg d1]
          rw [hst] at h7
          have pb : gL s 617 (r.length + 1) = lI b := h2.1
          have pa : gL s 617 r.length = lI a := h2.2.1
          have ha := h3.tl.hd
          have hb := h3.hd
          have hz := bopr_b (op := wop rd i) ha hb
          rw [show (b :: a :: r).length = r.length + 2 from rfl, show nI (r.length + 2) + (-1) = nI (r.length + 1) from pk_m1 _, bnd_e, nI_pred, ckA al617 (by omega), bnd_e, ckA al617 (by omega), bnd_e, nI_clamp (by omega), nI_clamp (by omega)]
          rw [show gL s (609 + 8) (r.length + 1) = lI b from pb, show gL s (609 + 8) r.length = lI a from pa, lI_add, lI_sub, lI_mul]
          have fin : ∃ s' : Nat × St, pf_X11_worthOf_b182 (pf_X11_worthOf_L26 pf_X11_worthOf_b230 n) 609 (nI q) (b2i (posb rd (53 + 186 * q) S)) (nI (r.length + 1)) (nI i) (lI (bopr (wop rd i) a b)) s = pf_X11_worthOf_L26 pf_X11_worthOf_b230 n 609 (nI q) (b2i (posb rd (53 + 186 * q) S)) (nI s'.1) (nI (i + 1)) s'.2 ∧ MU pA noB τ s'.2 ∧ ∃ st, PK s'.2 st ∧ AB st ∧ s'.1 = st.length ∧ st.length ≤ 11 ∧ hWf (wop rd) (wW rd - (i + 1)) (i + 1) st.length = some 1 ∧ evW (wF rd q S) (wop rd) (wv rd) (wW rd) 0 [] = evW (wF rd q S) (wop rd) (wv rd) (wW rd - (i + 1)) (i + 1) st := by
            rw [b182 _ _ _ _ (by omega) hz, pf_X11_worthOf_b224, bnd_e, nI_1]
            exact ⟨(r.length + 1, _), rfl, h1.trans (MU.arrL _ _ rfl), lim (bopr (wop rd i) a b) :: r, ⟨gL_at _ _ _ _, h2.2.2.un fun k hk => gL_ns _ _ _ (by omega)⟩, h3.tl.tl.cons (lim_b _), rfl, by simp; omega, h6, h7⟩
          rcases (by omega : wop rd i = 2 ∨ wop rd i = 3 ∨ wop rd i = 4 ∨ wop rd i = 5) with e | e | e | e
          · rw [e] at fin ⊢
            rw [if_pos (show nI 2 = nI 2 from rfl)]
            exact fin
          · rw [e] at fin ⊢
            rw [if_neg (show ¬ nI 3 = nI 2 by decide), if_pos (show nI 3 = (3 : Int32) from rfl)]
            exact fin
          · rw [e] at fin ⊢
            rw [if_neg (show ¬ nI 4 = nI 2 by decide), if_neg (show ¬ nI 4 = (3 : Int32) by decide), if_pos (show nI 4 = (4 : Int32) from rfl)]
            exact fin
          · rw [e] at fin ⊢
            rw [if_neg (show ¬ nI 5 = nI 2 by decide), if_neg (show ¬ nI 5 = (3 : Int32) by decide), if_neg (show ¬ nI 5 = (4 : Int32) by decide)]
            by_cases c : b = 0
            · rw [if_pos (by rw [c]; rfl)]
              rw [show bopr 5 a b = 0 by unfold bopr; simp [c]] at fin
              exact fin
            · have hb0 : ¬ lI b = 0 := fun e => by
                have := congrArg Int64.toInt e
                rw [lI_toInt (by omega) (by omega)] at this
                exact c this
              rw [if_neg hb0]
              unfold ckL
              rw [if_neg hb0, lI_div ha hb]
              rw [show bopr 5 a b = a.tdiv b by unfold bopr; simp [c]] at fin
              exact fin
      · cases h6
theorem worthM {q : Nat} (X : CX σ rd B) (h : MR τ rd) (hq : q < Qn rd) : ∃ τ', pf_X11_worthOf 609 (nI q) τ = some (iI (wth rd q (stk rd)), τ') ∧ MU qA qI τ τ' := by
  have V := X.V hq
  have q0 := X.q0
  have v3 := X.2.1.2.2.1
  unfold pf_X11_worthOf
  rw [show pf_X11_get 609 3 τ = _ from get_ok (k := 3) h (by omega), bind_some, v3.1, if_0 (by have := v3.2; omega)]
  by_cases hz : Nn (rd 3) = 0
  · rw [if_pos hz, oQ3 h (by omega), bind_some]
    refine ⟨τ, ?_, MU.refl _ _ _⟩
    have e : wth rd q (stk rd) = (Nn (rd (53 + 186 * q + 3)) : Int) := by
      unfold wth
      have e1 : wW rd = 1 := by unfold wW; rw [if_pos hz]
      rw [e1, evW, evW]
      unfold stW
      have e2 : wop rd 0 = 1 := by unfold wop; rw [if_pos hz]
      have e3 : wv rd 0 = 4 := by unfold wv; rw [if_pos hz]
      rw [e2, e3]; rfl
    rw [e, iI_nat, ← V.2.2.2.1.1]
  · obtain ⟨τ1, g1, g2, g3, g4, g5⟩ := hasP X h hq
    have h1 := h.mu g2 qA610 qI3
    obtain ⟨τ2, k1, k2⟩ := worthLM X h1 hq hz g5
    rw [if_neg hz, g1, bnd2_some, k1]
    exact ⟨τ2, rfl, g2.trans (k2.mono (fun i hi => by unfold pA at hi; unfold qA; omega) (fun k hk => hk.elim))⟩
theorem ag_worth (X : CX σ rd B) (h : MR τ rd) (v : Int32) : ∃ A b σ' τ', pf_X10_worth 0 v σ = some (A, σ') ∧ Un cQ σ σ' ∧ pf_X11_worth 609 v τ = some (b, τ') ∧ MU qA qB τ τ' ∧ Agr fQ A b (gI τ' 609 0) := by
  obtain ⟨h1, h0, u1⟩ := thr0 h
  have q0 := X.q0
  unfold pf_X10_worth pf_X11_worth
  rw [bnd_e]
  rcases v_cases v (n := Qn rd) (by omega) with hv | ⟨q, hq, rfl⟩
  · rw [qAt_no X hv, bXW_l, isQ_no h1 q0.1 q0.2 h0 hv, bnd2_some, i00]
    exact ⟨_, _, _, _, rfl, Un.refl _ _, rfl, u1.trans (MU.fld _ _ (Or.inl rfl)), gI_at _ _ _ _⟩
  · obtain ⟨σ2, c1, c2, _, _⟩ := worthC X hq
    obtain ⟨τ2, g1, g2⟩ := worthM X h1 hq
    rw [qAt_yes X hq, bXW_r, ckK_eq (kd7 q (by omega)), isQ_yes h1 q0.1 q0.2 h0 hq, bnd2_some, i10, c1, bnd2_some, g1, bnd2_some]
    exact ⟨_, _, _, _, rfl, c2, rfl, u1.trans g2.qq, g2.t0.trans h0, rfl⟩
end
