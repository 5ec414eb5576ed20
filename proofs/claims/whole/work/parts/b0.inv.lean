/-! THE WHOLE STATE: class and reference stand for the same -/
def BB (c : Nat) : Nat := 1000000 + 1000 * c
/-- a row of the reference -/
def RW (σ : St) (r : Nat) : Nat → Int32 := fun k => if k < 4370 then gI σ 610 (4370 * r + k) else 0
theorem RW_at (σ : St) (r : Nat) {k : Nat} (h : k < 4370) : RW σ r k = gI σ 610 (4370 * r + k) := if_pos h
theorem RW_eq {σ σ' : St} {r r' : Nat} (h : ∀ k, k < 4370 → gI σ' 610 (4370 * r' + k) = gI σ 610 (4370 * r + k)) : RW σ' r' = RW σ r := by
  funext k
  unfold RW
  by_cases c : k < 4370
  · rw [if_pos c, if_pos c]; exact h k c
  · rw [if_neg c, if_neg c]
theorem RW_I {σ σ' : St} (r : Nat) (h : gI σ' 610 = gI σ 610) : RW σ' r = RW σ r := RW_eq fun k _ => by rw [h]
theorem VR.mono {B B' : Nat} {rd : Nat → Int32} (h : VR B rd) (hb : B ≤ B') : VR B' rd := ⟨h.1, h.2.1, h.2.2.1, h.2.2.2.1, fun i hi => (h.2.2.2.2.1 i hi).mono hb, h.2.2.2.2.2⟩
theorem VR.n0 {B : Nat} {rd : Nat → Int32} (h : VR B rd) : Nn (rd 0) ≤ 6 := h.1.2
def hpl (nxt j : Nat) : Nat := 122 + 59 * ((nxt + 7 - j) % 8)
def hro (r j : Nat) : Nat := (r + 8 - j) % 9
def Hist (σ : St) (c r nxt cnt : Nat) : Prop := ∀ j, j < cnt → RLd σ (hpl nxt j) (RW σ (hro r j)) ∧ VR (BB c) (RW σ (hro r j))
/-- the buffers -/
def Buf (σ : St) : Prop := ∃ fed, fed ≤ 800 ∧ gI σ 0 1 = nI fed ∧ gI σ 609 14 = nI fed ∧ (∀ k, k < fed → gI σ 1 k = gI σ 618 k ∧ Is (gI σ 618 k) 255) ∧ gI σ 0 2 = gI σ 609 18
def Inv (c : Nat) (σ : St) : Prop := Buf σ ∧ ∃ r nxt cnt, r < 9 ∧ nxt < 8 ∧ cnt ≤ 8 ∧ gI σ 609 3 = nI r ∧ gI σ 609 4 = nI cnt ∧ gI σ 120 1 = nI nxt ∧ gI σ 120 2 = nI cnt ∧ RLd σ 2 (RW σ r) ∧ VR (BB c) (RW σ r) ∧ Hist σ c r nxt cnt
theorem BB_le {c : Nat} (h : c ≤ 512) : BB c ≤ 1512000 := by unfold BB; omega
theorem Inv.X {c r : Nat} {σ : St} (hc : c ≤ 512) (h1 : RLd σ 2 (RW σ r)) (h2 : VR (BB c) (RW σ r)) : CX σ (RW σ r) (BB c) := ⟨h1, h2, by have := BB_le hc; omega⟩
theorem MR_of {σ : St} {r : Nat} (h1 : r < 9) (h2 : gI σ 609 3 = nI r) : MR σ (RW σ r) := ⟨r, h1, h2, fun k hk => (RW_at σ r hk).symm⟩
theorem MR.row {σ : St} {r : Nat} {rd : Nat → Int32} (h : MR σ rd) (h1 : r < 9) (h2 : gI σ 609 3 = nI r) {k : Nat} (hk : k < 4370) : rd k = RW σ r k := by
  obtain ⟨r', a1, a2, a3⟩ := h
  have : r' = r := (nI_eq (by omega) (by omega)).mp (a2.symm.trans h2)
  subst this
  rw [← a3 k hk, RW_at _ _ hk]
/-- the law's own two arrays -/
def oA : Nat → Prop := fun i => i = 620 ∨ i = 621
/-- what a question may write in all -/
def kept (σ σ' : St) : Prop := (∀ i, i ≤ 60 ∨ (120 ≤ i ∧ i < 594) ∨ i = 610 ∨ i = 618 → gI σ' i = gI σ i ∧ gL σ' i = gL σ i) ∧ ∀ k, k = 3 ∨ k = 4 ∨ k = 14 ∨ k = 18 → gI σ' 609 k = gI σ 609 k
theorem kept.trans {σ σ' σ'' : St} (h : kept σ σ') (h' : kept σ' σ'') : kept σ σ'' := ⟨fun i hi => ⟨(h'.1 i hi).1.trans (h.1 i hi).1, (h'.1 i hi).2.trans (h.1 i hi).2⟩, fun k hk => (h'.2 k hk).trans (h.2 k hk)⟩
theorem kept.refl (σ : St) : kept σ σ := ⟨fun _ _ => ⟨rfl, rfl⟩, fun _ _ => rfl⟩
theorem kept.c {σ σ' : St} (h : Un cQ σ σ') : kept σ σ' := ⟨fun i hi => ⟨h.I (by unfold cQ; omega), h.L (by unfold cQ; omega)⟩, fun k _ => by rw [h.I (by unfold cQ; omega)]⟩
theorem kept.o {σ σ' : St} (h : Un oA σ σ') : kept σ σ' := ⟨fun i hi => ⟨h.I (by unfold oA; omega), h.L (by unfold oA; omega)⟩, fun k _ => by rw [h.I (by unfold oA; omega)]⟩
theorem kept.m {σ σ' : St} (h : MU qA qB σ σ') : kept σ σ' := ⟨fun i hi => ⟨h.I (by omega) (by unfold qA; omega), h.1.L (by unfold qA; omega)⟩, fun k hk => h.F (by unfold qB; omega)⟩
theorem RQ.cong {σ σ' : St} {a : Nat} {rd : Nat → Int32} {b : Nat} (h : RQ σ a rd b) (hu : ∀ i, a ≤ i → i < a + 9 → gI σ' i = gI σ i ∧ gL σ' i = gL σ i) : RQ σ' a rd b := by
  obtain ⟨q0, q1, q2, q3, q4, q5, q6⟩ := h
  have e : ∀ j, j < 9 → gI σ' (a + j) = gI σ (a + j) := fun j hj => (hu _ (by omega) (by omega)).1
  have e0 : gI σ' a = gI σ a := e 0 (by omega)
  have e5 : gL σ' a = gL σ a := (hu _ (by omega) (by omega)).2
  refine ⟨by rw [e0]; exact q0, by rw [e0]; exact q1, by rw [e0]; exact q2, by rw [e0]; exact q3, by rw [e0]; exact q4, fun u hu => by rw [e5]; exact q5 u hu, fun s hs => ?_⟩
  unfold RS
  rw [e 1 (by omega), e 2 (by omega), e 3 (by omega), e 4 (by omega), e 5 (by omega), e 6 (by omega), e 7 (by omega), e 8 (by omega)]
  exact q6 s hs
theorem RLd.cong {σ σ' : St} {p : Nat} {rd : Nat → Int32} (hn : Nn (rd 0) ≤ 6) (h : RLd σ p rd) (hu : ∀ i, p ≤ i → i < p + 59 → gI σ' i = gI σ i ∧ gL σ' i = gL σ i) : RLd σ' p rd := by
  obtain ⟨q0, q1, q2, q3, q4, q5, q6⟩ := h
  have e : ∀ j, j < 59 → gI σ' (p + j) = gI σ (p + j) := fun j hj => (hu _ (by omega) (by omega)).1
  have e0 : gI σ' p = gI σ p := e 0 (by omega)
  refine ⟨by rw [e0]; exact q0, by rw [e0]; exact q1, by rw [e0]; exact q2, fun i hi => by rw [e 1 (by omega)]; exact q3 i hi, fun i hi => by rw [e 2 (by omega)]; exact q4 i hi, fun q hq => (q5 q hq).cong (fun i h1 h2 => hu i (by omega) (by omega)), ?_⟩
  unfold RWo at q6 ⊢
  rw [e0, e 4 (by omega)]
  exact q6
theorem hpl_b (nxt j : Nat) : 122 ≤ hpl nxt j ∧ hpl nxt j + 59 ≤ 594 := by unfold hpl; omega
theorem hro_b (r j : Nat) : hro r j < 9 := by unfold hro; omega
theorem Buf.keep {σ σ' : St} (h : Buf σ) (k : kept σ σ') : Buf σ' := by
  obtain ⟨fed, h1, h2, h3, h4, h5⟩ := h
  exact ⟨fed, h1, by rw [(k.1 0 (by omega)).1]; exact h2, by rw [k.2 14 (by omega)]; exact h3, fun j hj => by rw [(k.1 1 (by omega)).1, (k.1 618 (by omega)).1]; exact h4 j hj, by rw [(k.1 0 (by omega)).1, k.2 18 (by omega)]; exact h5⟩
theorem Hist.keep {σ σ' : St} {c r nxt cnt : Nat} (h : Hist σ c r nxt cnt) (k : kept σ σ') : Hist σ' (c + 1) r nxt cnt := fun j hj => by
  obtain ⟨h1, h2⟩ := h j hj
  rw [RW_I (hro r j) (k.1 610 (by omega)).1]
  have hb := hpl_b nxt j
  exact ⟨h1.cong h2.n0 fun i a1 a2 => k.1 i (by omega), h2.mono (by unfold BB; omega)⟩
theorem Inv.keep {c : Nat} {σ σ' : St} (h : Inv c σ) (k : kept σ σ') : Inv (c + 1) σ' := by
  obtain ⟨hb, r, nxt, cnt, h1, h2, h3, h4, h5, h6, h7, h8, h9, h10⟩ := h
  refine ⟨hb.keep k, r, nxt, cnt, h1, h2, h3, by rw [k.2 3 (by omega)]; exact h4, by rw [k.2 4 (by omega)]; exact h5, by rw [(k.1 120 (by omega)).1]; exact h6, by rw [(k.1 120 (by omega)).1]; exact h7, ?_, ?_, h10.keep k⟩
  · rw [RW_I r (k.1 610 (by omega)).1]
    exact h8.cong h9.n0 fun i a1 a2 => k.1 i (by omega)
  · rw [RW_I r (k.1 610 (by omega)).1]
    exact h9.mono (by unfold BB; omega)
/-! a change is remembered -/
theorem al121 : alen 121 = 8 := by decide +kernel
theorem kd2 : kd 2 = 2 := by decide +kernel
theorem kd_h : ∀ n, n < 8 → kd (122 + 59 * n) = 2 := by decide +kernel
theorem VR.vn {B : Nat} {rd : Nat → Int32} (h : VR B rd) : ∀ k, k < Nn (rd 0) → Nn (rd (53 + 186 * k)) ≤ 6 := fun k hk => (h.2.2.2.2.2.2.1 k hk).1.1.1.2
def rmM (nxt : Nat) : Nat → Prop := fun i => i = 120 ∨ (122 + 59 * nxt ≤ i ∧ i < 122 + 59 * nxt + 59)
theorem remC {σ : St} {rd : Nat → Int32} {B nxt cnt : Nat} (h : RLd σ 2 rd) (v : VR B rd) (hn : nxt < 8) (hc : cnt ≤ 8) (h1 : gI σ 120 1 = nI nxt) (h2 : gI σ 120 2 = nI cnt) : ∃ σ', pf_X1_remember 120 2 σ = some σ' ∧ Un (rmM nxt) σ σ' ∧ RLd σ' (122 + 59 * nxt) rd ∧ gI σ' 120 1 = nI ((nxt + 1) % 8) ∧ gI σ' 120 2 = nI (min (cnt + 1) 8) := by
  obtain ⟨σ1, g1, g2, g3⟩ := lcp (kd_h nxt hn) kd2 (by omega) v.1 v.2.1 v.2.2.1 v.vn h
  have e1 : gI σ1 120 = gI σ 120 := g2.I (fun q => by have := q.1; omega)
  unfold pf_X1_remember
  rw [h1, if_neg (nI_pos (by omega)), show (8 : Int32) = nI 8 from rfl, if_neg (nI_ge hn (by omega)), ckA al121 hn, nI_clamp (by omega), show 120 + 1 + 1 + 59 * nxt = 122 + 59 * nxt by omega, g1, bind_some]
  unfold pf_X1_remember_b29
  rw [e1, h1, show (1 : Int32) = nI 1 from rfl, nI_add, show irem (nI (nxt + 1)) 8 = nI ((nxt + 1) % 8) from pk_rem (d := 8) (by omega) (by omega) (by omega), bnd_e, gI_ns _ _ _ (by decide), e1, h2, nI_add, show (8 : Int32) = nI 8 from rfl, min7 _ _ (by omega) (by omega), bind_some, bnd_e]
  have u2 : Un (fun i => i = 120) σ1 (sI (sI σ1 120 1 (nI ((nxt + 1) % 8))) 120 2 (nI (min (cnt + 1) 8))) := Un.trans (Un.sI _ _ rfl) (Un.sI _ _ rfl)
  refine ⟨_, rfl, Un.trans (g2.mono fun i hi => Or.inr ⟨hi.1, hi.2⟩) (u2.mono fun i hi => Or.inl hi), g3.un v.n0 u2 (fun i a1 a2 a3 => by omega), ?_, ?_⟩
  · rw [gI_ns _ _ _ (by decide), gI_at]
  · exact gI_at _ _ _ _
/-- a changing call of the reference begins: the row is copied -/
theorem chgM {τ : St} {r cnt : Nat} (hr : r < 9) (hc : cnt ≤ 8) (h3 : gI τ 609 3 = nI r) (h4 : gI τ 609 4 = nI cnt) : ∃ τ', pf_X11_change 609 τ = some τ' ∧ MU (fun i => i = 610) (fun k => k = 3 ∨ k = 4) τ τ' ∧ gI τ' 609 3 = nI ((r + 1) % 9) ∧ gI τ' 609 4 = nI (min (cnt + 1) 8) ∧ RW τ' ((r + 1) % 9) = RW τ r ∧ ∀ q, q < 9 → q ≠ (r + 1) % 9 → RW τ' q = RW τ q := by
  unfold pf_X11_change
  rw [h3, show (1 : Int32) = nI 1 from rfl, nI_add, show irem (nI (r + 1)) 9 = nI ((r + 1) % 9) from pk_rem (d := 9) (by omega) (by omega) (by omega), bnd_e]
  generalize hr' : (r + 1) % 9 = r'
  have hne : r' ≠ r := by omega
  have hr9 : r' < 9 := by omega
  refine up_C (fun n i s => pf_X11_change_L12 pf_X11_change_b42 n 609 (nI r') (nI i) s) 4370 (fun i s => MU (fun i => i = 610) noB τ s ∧ (∀ k, k < i → gI s 610 (4370 * r' + k) = gI τ 610 (4370 * r + k)) ∧ ∀ j, ¬ (4370 * r' ≤ j ∧ j < 4370 * r' + 4370) → gI s 610 j = gI τ 610 j) (fun x => ∃ τ', x = some τ' ∧ MU (fun i => i = 610) (fun k => k = 3 ∨ k = 4) τ τ' ∧ gI τ' 609 3 = nI r' ∧ gI τ' 609 4 = nI (min (cnt + 1) 8) ∧ RW τ' r' = RW τ r ∧ ∀ q, q < 9 → q ≠ r' → RW τ' q = RW τ q) ?_ ?_ FU 0 τ (Nat.zero_le _) ⟨MU.refl _ _ _, fun k hk => absurd hk (Nat.not_lt_zero _), fun _ _ => rfl⟩ (lt_FU (by omega))
  · intro n s ⟨h1, h2, h5⟩
    show ∃ τ', pf_X11_change_L12 pf_X11_change_b42 (n + 1) 609 (nI r') (nI 4370) s = _ ∧ _
    have e4 : gI (sI s 609 3 (nI r')) 609 4 = nI cnt := by rw [gI_ns _ _ _ (by decide), h1.F (fun q => q)]; exact h4
    have fin : ∀ x : Nat, x = min (cnt + 1) 8 → ∃ τ', pf_X11_change_b70 609 (nI x) (sI s 609 3 (nI r')) = some τ' ∧ MU (fun i => i = 610) (fun k => k = 3 ∨ k = 4) τ τ' ∧ gI τ' 609 3 = nI r' ∧ gI τ' 609 4 = nI (min (cnt + 1) 8) ∧ RW τ' r' = RW τ r ∧ ∀ q, q < 9 → q ≠ r' → RW τ' q = RW τ q := fun x hx => by
      subst hx
      have e610 : gI (sI (sI s 609 3 (nI r')) 609 4 (nI (min (cnt + 1) 8))) 610 = gI s 610 := by rw [gI_nf _ _ _ (by decide), gI_nf _ _ _ (by decide)]
      refine ⟨_, rfl, (h1.mono (fun _ h => h) (fun _ h => h.elim)).trans (MU.trans (MU.fld _ _ (Or.inl rfl)) (MU.fld _ _ (Or.inr rfl))), ?_, gI_at _ _ _ _, ?_, ?_⟩
      · show gI (sI (sI s 609 3 (nI r')) 609 4 (nI (min (cnt + 1) 8))) 609 3 = _
        rw [gI_ns _ _ _ (by decide), gI_at]
      · show RW (sI (sI s 609 3 (nI r')) 609 4 (nI (min (cnt + 1) 8))) r' = RW τ r
        rw [RW_I r' e610]
        exact RW_eq h2
      · intro q hq hqn
        show RW (sI (sI s 609 3 (nI r')) 609 4 (nI (min (cnt + 1) 8))) q = RW τ q
        rw [RW_I q e610]
        exact RW_eq fun k hk => h5 _ (by omega)
    rw [pf_X11_change_L12, show (4370 : Int32) = nI 4370 from rfl, if_pos (nI_le (Nat.le_refl _) (by omega)), pf_X11_change_b42, bnd_e, e4]
    by_cases c : 8 ≤ cnt
    · rw [show (8 : Int32) = nI 8 from rfl, if_pos (nI_le c (by omega))]
      exact fin cnt (by omega)
    · rw [show (8 : Int32) = nI 8 from rfl, if_neg (nI_ge (by omega) (by omega)), nI_1]
      exact fin (cnt + 1) (by omega)
  · intro n i s hi ⟨h1, h2, h5⟩
    have e3 : gI s 609 3 = nI r := by rw [h1.F (fun q => q)]; exact h3
    have eg : pf_X11_get 609 (nI i) s = some (gI s 610 (4370 * r + i)) := by
      rw [get_ok (MR_of hr e3) hi, RW_at _ _ hi]
    refine Or.inr ⟨sI s 610 (4370 * r' + i) (gI s 610 (4370 * r + i)), ?_, h1.trans (MU.arr _ _ rfl (by decide)), fun k hk => ?_, fun j hj => ?_⟩
    · show pf_X11_change_L12 pf_X11_change_b42 (n + 1) 609 (nI r') (nI i) s = pf_X11_change_L12 pf_X11_change_b42 n 609 (nI r') (nI (i + 1)) _
      rw [pf_X11_change_L12, show (4370 : Int32) = nI 4370 from rfl, if_neg (nI_ge hi (by omega)), eg, bind_some, pk_mul, nI_add, ckA al610 (by omega), nI_clamp (by omega), bnd_e, bnd_e, nI_1]
    · by_cases e : k = i
      · subst e
        rw [gI_at, h5 _ (by omega)]
      · rw [gI_ns _ _ _ (by omega)]; exact h2 k (by omega)
    · rw [gI_ns _ _ _ (by omega)]; exact h5 j hj
/-- the history behind a change -/
theorem hist_step {r nxt cnt j : Nat} (hr : r < 9) (hn : nxt < 8) (hc : cnt ≤ 8) (hj : j + 1 < min (cnt + 1) 8) : hpl ((nxt + 1) % 8) (j + 1) = hpl nxt j ∧ hro ((r + 1) % 9) (j + 1) = hro r j ∧ hro r j ≠ (r + 1) % 9 ∧ (nxt + 7 - j) % 8 ≠ nxt ∧ j < cnt := by
  unfold hpl hro
  omega
theorem hist_0 {r nxt : Nat} (hr : r < 9) (hn : nxt < 8) : hpl ((nxt + 1) % 8) 0 = 122 + 59 * nxt ∧ hro ((r + 1) % 9) 0 = r ∧ r ≠ (r + 1) % 9 := by
  unfold hpl hro
  omega
/-- a changing call, in all -/
def clM (nxt : Nat) : Nat → Prop := fun i => (2 ≤ i ∧ i < 61) ∨ rmM nxt i ∨ cQ i
theorem Inv.chg {c r nxt cnt : Nat} {σ σ1 σ2 σ3 : St} {rd' : Nat → Int32} (hb : Buf σ) (h1 : r < 9) (h2 : nxt < 8) (h3 : cnt ≤ 8) (h9 : VR (BB c) (RW σ r)) (h10 : Hist σ c r nxt cnt)
    (u1 : Un (clM nxt) σ σ1) (a1 : RLd σ1 2 rd') (a2 : RLd σ1 (122 + 59 * nxt) (RW σ r)) (a3 : gI σ1 120 1 = nI ((nxt + 1) % 8)) (a4 : gI σ1 120 2 = nI (min (cnt + 1) 8)) (av : VR (BB (c + 1)) rd')
    (u2 : Un oA σ1 σ2) (u3 : MU (fun i => qA i ∨ i = 610) (fun k => qB k ∨ k = 3 ∨ k = 4) σ2 σ3) (b1 : gI σ3 609 3 = nI ((r + 1) % 9)) (b2 : gI σ3 609 4 = nI (min (cnt + 1) 8)) (b3 : RW σ3 ((r + 1) % 9) = rd') (b4 : ∀ q, q < 9 → q ≠ (r + 1) % 9 → RW σ3 q = RW σ2 q) : Inv (c + 1) σ3 := by
  have cl : ∀ i, i < 609 → gI σ3 i = gI σ1 i ∧ gL σ3 i = gL σ1 i := fun i hi => ⟨by rw [u3.I (by omega) (by unfold qA; omega), u2.I (by unfold oA; omega)], by rw [u3.1.L (by unfold qA; omega), u2.L (by unfold oA; omega)]⟩
  have row : ∀ q, RW σ2 q = RW σ q := fun q => RW_I q (by rw [u2.I (by unfold oA; omega), u1.I (by unfold clM rmM cQ; omega)])
  refine ⟨?_, (r + 1) % 9, (nxt + 1) % 8, min (cnt + 1) 8, by omega, by omega, by omega, b1, b2, by rw [(cl 120 (by omega)).1]; exact a3, by rw [(cl 120 (by omega)).1]; exact a4, ?_, ?_, ?_⟩
  · obtain ⟨fed, f1, f2, f3, f4, f5⟩ := hb
    have k0 : gI σ3 0 = gI σ 0 := by rw [(cl 0 (by omega)).1, u1.I (by unfold clM rmM cQ; omega)]
    have k1 : gI σ3 1 = gI σ 1 := by rw [(cl 1 (by omega)).1, u1.I (by unfold clM rmM cQ; omega)]
    have k618 : gI σ3 618 = gI σ 618 := by rw [u3.I (by omega) (by unfold qA; omega), u2.I (by unfold oA; omega), u1.I (by unfold clM rmM cQ; omega)]
    have kf : ∀ k, k = 14 ∨ k = 18 → gI σ3 609 k = gI σ 609 k := fun k hk => by rw [u3.F (by unfold qB; omega), u2.I (by unfold oA; omega), u1.I (by unfold clM rmM cQ; omega)]
    exact ⟨fed, f1, by rw [k0]; exact f2, by rw [kf 14 (by omega)]; exact f3, fun j hj => by rw [k1, k618]; exact f4 j hj, by rw [k0, kf 18 (by omega)]; exact f5⟩
  · rw [b3]
    exact a1.cong av.n0 fun i q1 q2 => cl i (by omega)
  · rw [b3]; exact av
  · intro j hj
    rcases j with _ | j
    · obtain ⟨e1, e2, e3⟩ := hist_0 h1 h2
      rw [e1, e2, b4 r h1 e3, row r]
      exact ⟨a2.cong h9.n0 fun i q1 q2 => cl i (by omega), h9.mono (by unfold BB; omega)⟩
    · obtain ⟨e1, e2, e3, e4, e5⟩ := hist_step h1 h2 h3 hj
      have hb := hpl_b nxt j
      rw [e1, e2, b4 _ (hro_b r j) e3, row]
      obtain ⟨g1, g2⟩ := h10 j e5
      refine ⟨?_, g2.mono (by unfold BB; omega)⟩
      refine (g1.un g2.n0 u1 fun i q1 q2 q3 => ?_).cong g2.n0 fun i q1 q2 => cl i (by omega)
      unfold clM rmM cQ at q3
      unfold hpl at q1 q2 hb
      omega
