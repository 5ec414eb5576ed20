/-! CALLS that change: reopen, tell, undo -/
/-- the row with a quest begun anew, i steps far -/
def rr (rd : Nat → Int32) (b i : Nat) : Nat → Int32 := fun j => if j = b + 1 then 0 else if b + 6 ≤ j ∧ j < b + 6 + 30 * i ∧ ((j - (b + 6)) % 30 = 2 ∨ (j - (b + 6)) % 30 = 3) then 0 else rd j
theorem rr_0 (rd : Nat → Int32) (b : Nat) : rr rd b 0 = up rd (b + 1) 0 := by
  funext j
  unfold rr up
  by_cases c : j = b + 1
  · rw [if_pos c, if_pos c]
  · rw [if_neg c, if_neg c, if_neg (by omega)]
theorem rr_s (rd : Nat → Int32) (b i : Nat) : up (up (rr rd b i) (b + 6 + 30 * i + 3) 0) (b + 6 + 30 * i + 2) 0 = rr rd b (i + 1) := by
  funext j
  unfold up rr
  by_cases c2 : j = b + 6 + 30 * i + 2
  · rw [if_pos c2]
    by_cases c : j = b + 1
    · omega
    · rw [if_neg c, if_pos (by omega)]
  · rw [if_neg c2]
    by_cases c3 : j = b + 6 + 30 * i + 3
    · rw [if_pos c3]
      by_cases c : j = b + 1
      · omega
      · rw [if_neg c, if_pos (by omega)]
    · rw [if_neg c3]
      by_cases c : j = b + 1
      · rw [if_pos c, if_pos c]
      · rw [if_neg c, if_neg c]
        by_cases c4 : b + 6 ≤ j ∧ j < b + 6 + 30 * i ∧ ((j - (b + 6)) % 30 = 2 ∨ (j - (b + 6)) % 30 = 3)
        · rw [if_pos c4, if_pos (by omega)]
        · rw [if_neg c4, if_neg (by omega)]
theorem rr_out (rd : Nat → Int32) {b i j : Nat} (h : j < b + 1 ∨ j = b + 2 ∨ j = b + 3 ∨ j = b + 4 ∨ j = b + 5 ∨ b + 6 + 30 * i ≤ j ∨ (b + 6 ≤ j ∧ (j - (b + 6)) % 30 ≠ 2 ∧ (j - (b + 6)) % 30 ≠ 3)) : rr rd b i j = rd j := by
  unfold rr
  rw [if_neg (by omega), if_neg (by omega)]
theorem rr_in (rd : Nat → Int32) {b i s : Nat} (h : s < i) : rr rd b i (b + 6 + 30 * s + 2) = 0 ∧ rr rd b i (b + 6 + 30 * s + 3) = 0 ∧ rr rd b i (b + 1) = 0 := by
  unfold rr
  refine ⟨?_, ?_, if_pos rfl⟩
  · rw [if_neg (by omega), if_pos (by omega)]
  · rw [if_neg (by omega), if_pos (by omega)]
theorem rr_V {rd : Nat → Int32} {q : Nat} (V : VQ rd (53 + 186 * q)) (hq : q < 6) {i : Nat} (hi : i ≤ nS rd (53 + 186 * q)) : VQ (rr rd (53 + 186 * q) i) (53 + 186 * q) ∧ ∀ u, gl (rr rd (53 + 186 * q) i) (53 + 186 * q) u = gl rd (53 + 186 * q) u := by
  have hn := V.n
  obtain ⟨h1, h2, h3, h4, h5, h6⟩ := V
  have g := h5.cong (rd' := rr rd (53 + 186 * q) i) (rr_out _ (by omega)) (rr_out _ (by omega)) (rr_out _ (by omega)) (fun k a1 a2 => rr_out _ (by omega))
  refine ⟨?_, g.2⟩
  unfold VQ
  rw [show rr rd (53 + 186 * q) i (53 + 186 * q) = rd (53 + 186 * q) from rr_out _ (by omega), show rr rd (53 + 186 * q) i (53 + 186 * q + 1) = 0 from if_pos rfl, show rr rd (53 + 186 * q) i (53 + 186 * q + 2) = rd (53 + 186 * q + 2) from rr_out _ (by omega), show rr rd (53 + 186 * q) i (53 + 186 * q + 3) = rd (53 + 186 * q + 3) from rr_out _ (by omega)]
  refine ⟨h1, Is.of (n := 0) (by omega) (by omega), h3, h4, g.1, fun s hs => ?_⟩
  obtain ⟨a1, a2, a3, a4, a5, a6, a7⟩ := h6 s hs
  unfold VS
  rw [show rr rd (53 + 186 * q) i (53 + 186 * q + 6 + 30 * s) = rd (53 + 186 * q + 6 + 30 * s) from rr_out _ (by omega), show rr rd (53 + 186 * q) i (53 + 186 * q + 6 + 30 * s + 1) = rd (53 + 186 * q + 6 + 30 * s + 1) from rr_out _ (by omega), show rr rd (53 + 186 * q) i (53 + 186 * q + 6 + 30 * s + 4) = rd (53 + 186 * q + 6 + 30 * s + 4) from rr_out _ (by omega), show rr rd (53 + 186 * q) i (53 + 186 * q + 6 + 30 * s + 5) = rd (53 + 186 * q + 6 + 30 * s + 5) from rr_out _ (by omega)]
  have a7' : ∀ j, j < 24 → Is (rr rd (53 + 186 * q) i (53 + 186 * q + 6 + 30 * s + 6 + j)) 99 := fun j hj => by rw [rr_out _ (by omega)]; exact a7 j hj
  by_cases c : s < i
  · obtain ⟨e1, e2, _⟩ := rr_in rd (b := 53 + 186 * q) c
    rw [e1, e2]
    exact ⟨a1, a2, ⟨Is.of (n := 0) (by omega) (by omega), Nat.zero_le _⟩, Is.of (n := 0) (by omega) (by omega), a5, a6, a7'⟩
  · rw [show rr rd (53 + 186 * q) i (53 + 186 * q + 6 + 30 * s + 2) = rd (53 + 186 * q + 6 + 30 * s + 2) from rr_out _ (by omega), show rr rd (53 + 186 * q) i (53 + 186 * q + 6 + 30 * s + 3) = rd (53 + 186 * q + 6 + 30 * s + 3) from rr_out _ (by omega)]
    exact ⟨a1, a2, a3, a4, a5, a6, a7'⟩
theorem rr_dn {rd : Nat → Int32} {b : Nat} : dnM (rr rd b (nS rd b)) b = 0 := by
  unfold dnM
  rw [show rr rd b (nS rd b) b = rd b from rr_out _ (by omega)]
  have : ∀ n, n ≤ nS rd b → msk n (fun s => decide (rr rd b (nS rd b) (b + 6 + 30 * s + 3) = 1)) = 0 := by
    intro n
    induction n with
    | zero => intro _; rfl
    | succ n ih =>
      intro h
      rw [msk, ih (by omega), (rr_in rd (b := b) (show n < nS rd b by omega)).2.1]; simp
  exact this _ (Nat.le_refl _)
theorem anewC {σ : St} {rd : Nat → Int32} {q : Nat} (V : VQ rd (53 + 186 * q)) (hq : q < 6) (h : RQ σ (7 + 9 * q) rd (53 + 186 * q)) : ∃ σ', pf_X3_beginAnew (7 + 9 * q) σ = some σ' ∧ Un (inR (7 + 9 * q) 9) σ σ' ∧ RQ σ' (7 + 9 * q) (rr rd (53 + 186 * q) (nS rd (53 + 186 * q))) (53 + 186 * q) := by
  have hn := V.n
  obtain ⟨_, hg⟩ := rr_V V hq (Nat.le_refl _)
  unfold pf_X3_beginAnew
  simp only [bnd_e]
  obtain ⟨σ', g1, g2, g3⟩ := fill_ok (7 + 9 * q + 3) 0 (sI (sI σ (7 + 9 * q) 1 0) (7 + 9 * q) 2 0)
  rw [af_X3_fails (kd7 q hq)] at g3
  rw [g1, bind_some]
  obtain ⟨q0, q1, q2, q3, q4, q5, q6⟩ := h
  have e0 : ∀ k, gI σ' (7 + 9 * q) k = gI (sI (sI σ (7 + 9 * q) 1 0) (7 + 9 * q) 2 0) (7 + 9 * q) k := fun k => by rw [g2.I (by omega)]
  refine ⟨σ', rfl, Un.trans (Un.sI _ _ ⟨by omega, by omega⟩) (Un.trans (Un.sI _ _ ⟨by omega, by omega⟩) (g2.mono fun i hi => ⟨by omega, by omega⟩)), ?_, ?_, ?_, ?_, ?_, ?_, ?_⟩
  · rw [e0, gI_ns _ _ _ (by decide), gI_ns _ _ _ (by decide), rr_out _ (by omega)]; exact q0
  · rw [e0, gI_ns _ _ _ (by decide), gI_at, show rr rd (53 + 186 * q) (nS rd (53 + 186 * q)) (53 + 186 * q + 1) = 0 from if_pos rfl]
  · rw [e0, gI_at, rr_dn]; rfl
  · rw [e0, gI_ns _ _ _ (by decide), gI_ns _ _ _ (by decide), rr_out _ (by omega)]; exact q3
  · rw [e0, gI_ns _ _ _ (by decide), gI_ns _ _ _ (by decide), rr_out _ (by omega)]; exact q4
  · intro u hu
    rw [g2.L (by omega), gL_sI, gL_sI, hg]; exact q5 u hu
  · intro s hs
    rw [show rr rd (53 + 186 * q) (nS rd (53 + 186 * q)) (53 + 186 * q) = rd (53 + 186 * q) from rr_out _ (by omega)] at hs
    have hs' : s < nS rd (53 + 186 * q) := hs
    obtain ⟨r1, r2, r3, r4, r5, r6⟩ := q6 s hs
    have gn : ∀ j, 1 ≤ j → j ≠ 3 → gI σ' (7 + 9 * q + j) = gI σ (7 + 9 * q + j) := fun j hj hj3 => by rw [g2.I (by omega), gI_nf _ _ _ (by omega), gI_nf _ _ _ (by omega)]
    refine ⟨by rw [gn 1 (by omega) (by omega), rr_out _ (by omega)]; exact r1, by rw [gn 2 (by omega) (by omega), rr_out _ (by omega)]; exact r2, ?_, by rw [gn 4 (by omega) (by omega), rr_out _ (by omega)]; exact r4, by rw [gn 5 (by omega) (by omega), rr_out _ (by omega)]; exact r5, fun i hi => ?_⟩
    · rw [(rr_in rd (b := 53 + 186 * q) hs').1]
      exact g3 s (by omega)
    · obtain ⟨t1, t2, t3⟩ := r6 i hi
      exact ⟨by rw [gn 6 (by omega) (by omega), rr_out _ (by omega)]; exact t1, by rw [gn 7 (by omega) (by omega), rr_out _ (by omega)]; exact t2, by rw [gn 8 (by omega) (by omega), rr_out _ (by omega)]; exact t3⟩
theorem reoM {r q : Nat} {τ0 τ : St} {rd : Nat → Int32} (V : VQ rd (53 + 186 * q)) (hq : q < 6) (hr : r < 9) (h3 : gI τ0 609 3 = nI r) (h : Wr r τ0 τ (rr rd (53 + 186 * q) 0)) (x : Int32) : ∃ τ', pf_X11_reopen_L35 FU 609 (nI q) x 0 τ = some (x, τ') ∧ Wr r τ0 τ' (rr rd (53 + 186 * q) (nS rd (53 + 186 * q))) := by
  have hn := V.n
  refine up_C (fun n i s => pf_X11_reopen_L35 n 609 (nI q) x (nI i) s) (nS rd (53 + 186 * q)) (fun i s => Wr r τ0 s (rr rd (53 + 186 * q) i)) (fun y => ∃ τ', y = some (x, τ') ∧ Wr r τ0 τ' (rr rd (53 + 186 * q) (nS rd (53 + 186 * q)))) ?_ ?_ FU 0 τ (Nat.zero_le _) h (lt_FU (by omega))
  · intro n s hs
    have M := hs.M hr h3
    have V2 := (rr_V V hq (Nat.le_refl _)).1
    refine ⟨s, ?_, hs⟩
    show pf_X11_reopen_L35 (n + 1) 609 (nI q) x (nI (nS rd (53 + 186 * q))) s = _
    rw [pf_X11_reopen_L35, stepsM M hq V2, bind_some]
    rw [show nS (rr rd (53 + 186 * q) (nS rd (53 + 186 * q))) (53 + 186 * q) = nS rd (53 + 186 * q) from congrArg Nn (rr_out _ (by omega)), if_pos (nI_le (Nat.le_refl _) (by omega))]
  · intro n i s hi hs
    have M := hs.M hr h3
    have V2 := (rr_V V hq (show i ≤ nS rd (53 + 186 * q) by omega)).1
    obtain ⟨s1, p1, p2⟩ := putSR (w := 3) 0 hr h3 hs hq (show i < 6 by omega) (by omega)
    obtain ⟨s2, p3, p4⟩ := putSR (w := 2) 0 hr h3 p2 hq (show i < 6 by omega) (by omega)
    rw [rr_s] at p4
    refine Or.inr ⟨s2, ?_, p4⟩
    show pf_X11_reopen_L35 (n + 1) 609 (nI q) x (nI i) s = pf_X11_reopen_L35 n 609 (nI q) x (nI (i + 1)) s2
    rw [pf_X11_reopen_L35, stepsM M hq V2, bind_some]
    rw [show nS (rr rd (53 + 186 * q) i) (53 + 186 * q) = nS rd (53 + 186 * q) from congrArg Nn (rr_out _ (by omega)), if_neg (nI_ge hi (by omega)), show pf_X11_putStep 609 (nI q) (nI i) 3 0 s = _ from p1, bind_some, show pf_X11_putStep 609 (nI q) (nI i) 2 0 s1 = _ from p3, bind_some, bnd_e, nI_1]
section
variable {c : Nat} {σ : St}
theorem op_reopen (hc : c < 512) (I : Inv c σ) (v : Int32) : ∃ A σ1, pf_X10_reopen 0 v σ = some (A, σ1) ∧ ∀ σ2, Un oA σ1 σ2 → ∃ b σ3, pf_X11_reopen 609 v σ2 = some (b, σ3) ∧ Agr fQ A b (gI σ3 609 0) ∧ IL c σ2 σ3 := by
  obtain ⟨hb1, hb2, hb3⟩ := BB_1 hc
  obtain ⟨r, nxt, σa, r1, r2, r3, r4, r5, k1, k2, k3, kk⟩ := chg I
  have X : CX σ (RW σ r) (BB c) := ⟨r4, r5, by omega⟩
  have Xa : CX σa (RW σ r) (BB c) := ⟨k3, r5, by omega⟩
  have q0 := X.q0
  unfold pf_X10_reopen pf_X11_reopen
  simp only [bnd_e]
  rcases v_cases v (n := Qn (RW σ r)) (by omega) with hv | ⟨q, hq, rfl⟩
  · rw [qAt_no X hv, bXW_l]
    refine ⟨_, σ, rfl, fun σ2 u => ?_⟩
    obtain ⟨h1, h0, u1⟩ := ref0 (c := c) r1 r3 rfl rfl u
    rw [isQ_no h1 q0.1 q0.2 h0 hv, bnd2_some, i00]
    exact ⟨_, _, rfl, gI_at _ _ _ _, I.no (Un.refl _ _) u (u1.trans (MU.fld _ _ (Or.inl rfl)))⟩
  · have V := X.V hq
    have O := X.O hq
    have hn := V.n
    have hq6 : q < 6 := by omega
    have W := X.W hq
    have hr := W.2.2.2.1
    have hra := (Xa.W hq).2.2.2.1
    rw [qAt_yes X hq, bXW_r, ckK_eq (kd7 q hq6)]
    obtain ⟨v1, v2⟩ := rr_V V hq6 (Nat.le_refl _)
    obtain ⟨σ1, d1, d2, d3⟩ := anewC V hq6 hra
    have eo : ∀ k, (k < 53 + 186 * q ∨ 53 + 186 * q + 186 ≤ k) → k < 4370 → rr (RW σ r) (53 + 186 * q) (nS (RW σ r) (53 + 186 * q)) k = RW σ r k := fun k a1 a2 => rr_out _ (by omega)
    have av : VR (BB (c + 1)) (rr (RW σ r) (53 + 186 * q) (nS (RW σ r) (53 + 186 * q))) := r5.qu (by omega) hq eo ⟨v1, fun _ => by
      rw [rr_dn, v2]; exact V.2.2.2.2.1.2.2.2.2.2.1⟩
    have a1 : RLd σ1 2 (rr (RW σ r) (53 + 186 * q) (nS (RW σ r) (53 + 186 * q))) := RLd.q7 r5 hq k3 d2 eo d3
    have un : Un nwM σa σ1 := d2.mono fun i hi => Or.inl ⟨by have := hi.1; omega, by have := hi.2; omega⟩
    rw [show pf_X1_remember (0 + 120) (0 + 2) σ = _ from k1, bind_some, hra.2.1, d1, bind_some]
    refine ⟨_, _, rfl, fun σ2 u => ?_⟩
    have e9 : ∀ j, j = 609 ∨ j = 610 → gI σ1 j = gI σ j := fun j hj => by rw [d2.I (fun q => by have := q.2; omega), k2.I (by unfold rmM; omega)]
    obtain ⟨h1, h0, u1⟩ := ref0 (c := c) r1 r3 (e9 610 (by omega)) (e9 609 (by omega)) u
    obtain ⟨τa, t1, t2, t3, t4, t5⟩ := kk _ _ un a1 av σ2 u _ u1
    have M := MR_of (σ := τa) (r := (r + 1) % 9) (by omega) t2
    rw [t3] at M
    have w0 : Wr ((r + 1) % 9) τa τa (RW σ r) := by have := Wr.q (r := (r + 1) % 9) (MU.refl qA qI τa); rw [t3] at this; exact this
    obtain ⟨τ3, p1, p2⟩ := putQR (w := 1) 0 (by omega) t2 w0 hq6 (by omega)
    rw [← rr_0] at p2
    obtain ⟨τ4, p3, p4⟩ := reoM V hq6 (by omega) t2 p2 (RW σ r (53 + 186 * q + 1))
    rw [isQ_yes h1 q0.1 q0.2 h0 hq, bnd2_some, i10, t1, bind_some, oQ1 M hq6, bind_some, show pf_X11_putQuest 609 (nI q) 1 0 τa = _ from p1, bind_some, p3]
    exact ⟨_, _, rfl, ⟨p4.t.trans (t4.trans h0), rfl⟩, t5 _ p4⟩
def fT (k : Nat) : Int32 := if k = 1 then 1 else 2
theorem al4 : alen 4 = 40 := by decide +kernel
theorem enq {s : St} {p k : Nat} {x : Int32} (h2 : gI s 2 2 = nI k) (hk : k < 40) : pf_X2_enqueue 2 x s = some (sI (sI s 4 k x) 2 2 (nI (k + 1))) := by
  unfold pf_X2_enqueue
  rw [h2, show pf_X10_put (2 + 2) (nI k) x s = _ from put_ok al4 hk, bind_some, bnd_e, show gI (sI s 4 k x) 2 2 = nI k from by rw [gI_ne _ _ _ _ (by decide)]; exact h2, nI_1]
/-- the row with two draws more -/
def tq (rd : Nat → Int32) (n a b : Nat) : Nat → Int32 := up (up (up rd (13 + n) (nI a)) (13 + n + 1) (nI b)) 2 (nI (n + 2))
theorem tq_out (rd : Nat → Int32) {n a b j : Nat} (h : j ≠ 2 ∧ j ≠ 13 + n ∧ j ≠ 13 + n + 1) : tq rd n a b j = rd j := by
  unfold tq
  rw [up_ne _ _ h.1, up_ne _ _ h.2.2, up_ne _ _ h.2.1]
theorem tq_V {B n a b : Nat} {rd : Nat → Int32} (v : VR B rd) (e : rd 2 = nI n) (hn : n + 2 ≤ 40) (ha : a < 100) (hb : b < 100) (B' : Nat) (hB : B ≤ B') : VR B' (tq rd n a b) := by
  have n0 := v.n0
  have e2 : tq rd n a b 2 = nI (n + 2) := up_at _ _ _
  refine v.to (tq_out _ (by omega)) (by rw [e2]; exact Is.of hn (by omega)) (tq_out _ (by omega)) (tq_out _ (by omega)) (fun i hi => by rw [tq_out _ (by omega)]; exact (v.2.2.2.2.1 i hi).mono hB) ?_ ?_ (fun k a1 a2 => tq_out _ (by omega))
  · rw [e2, Nn_nI (by omega)]
    intro k hk
    have hq := v.2.2.2.2.2.1
    rw [e, Nn_nI (by omega)] at hq
    by_cases c1 : k = n
    · subst c1
      have : tq rd k a b (13 + k) = nI a := by unfold tq; rw [up_ne _ _ (by omega), up_ne _ _ (by omega), up_at]
      rw [this]; exact Is.of (by omega) (by omega)
    · by_cases c2 : k = n + 1
      · subst c2
        have : tq rd n a b (13 + (n + 1)) = nI b := by unfold tq; rw [up_ne _ _ (by omega)]; exact up_at _ _ _
        rw [this]; exact Is.of (by omega) (by omega)
      · rw [tq_out _ (by omega)]; exact hq k (by omega)
  · intro q hq
    obtain ⟨V, O⟩ := v.2.2.2.2.2.2.1 q hq
    have e1 : ∀ k, 53 + 186 * q ≤ k → k < 53 + 186 * q + 186 → tq rd n a b k = rd k := fun k a1 a2 => tq_out _ (by omega)
    have g1 : ∀ k, 2769 ≤ k → k < 4370 → tq rd n a b k = rd k := fun k a1 a2 => tq_out _ (by omega)
    exact ⟨V.cong e1 g1, O.cong V e1 g1⟩
theorem tq_R {s : St} {B n a b : Nat} {rd : Nat → Int32} (v : VR B rd) (h : RLd s 2 rd) (e : rd 2 = nI n) (hn : n + 2 ≤ 40) : RLd (sI (sI (sI (sI s 4 n (nI a)) 2 2 (nI (n + 1))) 4 (n + 1) (nI b)) 2 2 (nI (n + 2))) 2 (tq rd n a b) := by
  have n0 := v.n0
  generalize hs' : sI (sI (sI (sI s 4 n (nI a)) 2 2 (nI (n + 1))) 4 (n + 1) (nI b)) 2 2 (nI (n + 2)) = s'
  obtain ⟨q0, q1, q2, q3, q4, q5, q6⟩ := h
  have e2 : tq rd n a b 2 = nI (n + 2) := up_at _ _ _
  have k2 : ∀ j, j ≠ 2 → gI s' 2 j = gI s 2 j := fun j hj => by subst hs'; rw [gI_ns _ _ _ hj, gI_ne _ _ _ _ (by decide), gI_ns _ _ _ hj, gI_ne _ _ _ _ (by decide)]
  have k22 : gI s' 2 2 = nI (n + 2) := by subst hs'; exact gI_at _ _ _ _
  have k4 : ∀ j, gI s' 4 j = if j = n + 1 then nI b else if j = n then nI a else gI s 4 j := fun j => by
    subst hs'
    rw [gI_ne _ _ _ _ (by decide)]
    by_cases c1 : j = n + 1
    · subst c1; rw [gI_at, if_pos rfl]
    · rw [gI_ns _ _ _ c1, if_neg c1, gI_ne _ _ _ _ (by decide)]
      by_cases c2 : j = n
      · subst c2; rw [gI_at, if_pos rfl]
      · rw [gI_ns _ _ _ c2, if_neg c2]
  have u : Un (fun i => i = 2 ∨ i = 4) s s' := by subst hs'; exact Un.trans (Un.sI _ _ (Or.inr rfl)) (Un.trans (Un.sI _ _ (Or.inl rfl)) (Un.trans (Un.sI _ _ (Or.inr rfl)) (Un.sI _ _ (Or.inl rfl))))
  refine ⟨by rw [k2 5 (by decide), tq_out _ (by omega)]; exact q0, by rw [k22, e2], by rw [k2 3 (by decide), tq_out _ (by omega)]; exact q2, fun i hi => by rw [u.I (by decide), tq_out _ (by omega)]; exact q3 i hi, ?_, ?_, ?_⟩
  · rw [e2, Nn_nI (by omega)]
    intro k hk
    rw [e, Nn_nI (by omega)] at q4
    show gI s' 4 k = _
    rw [k4]
    by_cases c2 : k = n + 1
    · subst c2
      rw [if_pos rfl]
      unfold tq; rw [up_ne _ _ (by omega)]; exact (up_at _ _ _).symm
    · rw [if_neg c2]
      by_cases c1 : k = n
      · subst c1
        rw [if_pos rfl]
        unfold tq; rw [up_ne _ _ (by omega), up_ne _ _ (by omega), up_at]
      · rw [if_neg c1, tq_out _ (by omega)]; exact q4 k (by omega)
  · rw [tq_out _ (by omega)]
    intro q hq
    exact ((q5 q hq).un u fun i a1 a2 a3 => by omega).cg (v.2.2.2.2.2.2.1 q hq).1 (fun k a1 a2 => tq_out _ (by omega)) (fun k a1 a2 => tq_out _ (by omega))
  · have : RWo s' 2 rd := by
      unfold RWo at *
      rw [k2 7 (by decide), u.I (show ¬ (2 + 4 = 2 ∨ 2 + 4 = 4) by decide)]
      exact q6
    exact this.cg (tq_out _ (by omega)) (tq_out _ (by omega)) v.2.2.1.2 (fun k a1 a2 => tq_out _ (by omega))
theorem op_tell (hc : c < 512) (I : Inv c σ) (v w : Int32) : ∃ A σ1, pf_X10_tell 0 v w σ = some (A, σ1) ∧ ∀ σ2, Un oA σ1 σ2 → ∃ b σ3, pf_X11_tell 609 v w σ2 = some (b, σ3) ∧ Agr fT A b (gI σ3 609 0) ∧ IL c σ2 σ3 := by
  obtain ⟨hb1, hb2, hb3⟩ := BB_1 hc
  obtain ⟨r, nxt, σa, r1, r2, r3, r4, r5, k1, k2, k3, kk⟩ := chg I
  obtain ⟨n, en, hn, _⟩ := r5.2.1.get
  have no : (v < 0 ∨ nI 100 ≤ v) ∨ (w < 0 ∨ nI 100 ≤ w) → ∃ A σ1, pf_X10_tell 0 v w σ = some (A, σ1) ∧ ∀ σ2, Un oA σ1 σ2 → ∃ b σ3, pf_X11_tell 609 v w σ2 = some (b, σ3) ∧ Agr fT A b (gI σ3 609 0) ∧ IL c σ2 σ3 := fun hvw => by
    refine ⟨.inl 1, σ, ?_, fun σ2 u => ?_⟩
    · unfold pf_X10_tell pf_X10_tell_b20
      by_cases c1 : v < 0
      · rw [if_pos c1]
      · rw [if_neg c1]
        by_cases c2 : (99 : Int32) < v
        · rw [if_pos c2]
        · rw [if_neg c2]
          by_cases c3 : w < 0
          · rw [if_pos c3]
          · rw [if_neg c3, if_neg]
            intro c4
            have t1 : ¬ nI 100 ≤ v := by
              rw [Int32.lt_iff_toInt_lt] at c2
              rw [Int32.le_iff_toInt_le, nI_toInt (by omega)]
              have e1 : (99 : Int32).toInt = 99 := by decide
              omega
            have t2 : ¬ nI 100 ≤ w := by
              rw [Int32.le_iff_toInt_le] at c4
              rw [Int32.le_iff_toInt_le, nI_toInt (by omega)]
              have e1 : (99 : Int32).toInt = 99 := by decide
              omega
            rcases hvw with (h | h) | (h | h)
            · exact c1 h
            · exact t1 h
            · exact c3 h
            · exact t2 h
    · obtain ⟨h1, h0, u1⟩ := ref0 (c := c) r1 r3 rfl rfl u
      unfold pf_X11_tell pf_X11_tell_b30
      rw [bnd_e, isIn_ok, bind_some, show decide (¬ v < 0 ∧ ¬ 99 < v) = decide (¬ v < 0 ∧ ¬ nI 100 ≤ v) from inK 99 v (by omega), if_b2, isIn_ok, bind_some, show decide (¬ w < 0 ∧ ¬ 99 < w) = decide (¬ w < 0 ∧ ¬ nI 100 ≤ w) from inK 99 w (by omega), if_b2]
      have fin : ∃ b σ3, pf_X11_tell_b31 609 v w 609 0 (sI σ2 609 0 0) = some (b, σ3) ∧ Agr fT (.inl 1) b (gI σ3 609 0) ∧ IL c σ2 σ3 := by
        unfold pf_X11_tell_b31
        rw [show pf_X11_right 609 0 1 _ = _ from right_f h0 (by decide), bnd2_some, i00]
        exact ⟨_, _, rfl, gI_at _ _ _ _, I.no (Un.refl _ _) u (u1.trans (MU.fld _ _ (Or.inl rfl)))⟩
      cases hd : decide (¬ v < 0 ∧ ¬ nI 100 ≤ v) with
      | false => rw [if_neg Bool.false_ne_true]; exact fin
      | true =>
        rw [if_pos rfl]
        have : decide (¬ w < 0 ∧ ¬ nI 100 ≤ w) = false := by
          rcases hvw with h | h
          · rw [in_no h] at hd; cases hd
          · exact in_no h
        rw [this, if_neg Bool.false_ne_true]; exact fin
  rcases v_cases v (n := 100) (by omega) with hv | ⟨a, ha, rfl⟩
  · exact no (Or.inl hv)
  · rcases v_cases w (n := 100) (by omega) with hw | ⟨b, hb, rfl⟩
    · exact no (Or.inr hw)
    · unfold pf_X10_tell pf_X11_tell
      rw [if_neg (nI_pos (by omega)), show (99 : Int32) = nI 99 from rfl, if_neg (nI_nlt (by omega) (by omega)), if_neg (nI_pos (by omega)), if_pos (nI_le (by omega) (by omega)), show gI σ (0 + 2) 2 = nI n from r4.2.1.trans en, show (2 : Int32) = nI 2 from rfl, nI_add, show (40 : Int32) = nI 40 from rfl]
      simp only [bnd_e]
      by_cases c1 : n + 2 ≤ 40
      · rw [if_pos (nI_le c1 (by omega)), show pf_X1_remember (0 + 120) (0 + 2) σ = _ from k1, bind_some, show pf_X2_enqueue (0 + 2) (nI a) σa = _ from enq (p := 0) (k := n) (k3.2.1.trans en) (by omega), bind_some, show pf_X2_enqueue (0 + 2) (nI b) _ = _ from enq (p := 0) (k := n + 1) (gI_at _ _ _ _) (by omega), bind_some]
        refine ⟨_, _, rfl, fun σ2 u => ?_⟩
        have un : Un nwM σa (sI (sI (sI (sI σa 4 n (nI a)) 2 2 (nI (n + 1))) 4 (n + 1) (nI b)) 2 2 (nI (n + 1 + 1))) := Un.trans (Un.sI _ _ (Or.inl ⟨by omega, by omega⟩)) (Un.trans (Un.sI _ _ (Or.inl ⟨by omega, by omega⟩)) (Un.trans (Un.sI _ _ (Or.inl ⟨by omega, by omega⟩)) (Un.sI _ _ (Or.inl ⟨by omega, by omega⟩))))
        have a1 := tq_R (a := a) (b := b) r5 k3 en c1
        have av := tq_V r5 en c1 ha hb (BB (c + 1)) (by omega)
        have e9 : ∀ j, j = 609 ∨ j = 610 → gI (sI (sI (sI (sI σa 4 n (nI a)) 2 2 (nI (n + 1))) 4 (n + 1) (nI b)) 2 2 (nI (n + 1 + 1))) j = gI σ j := fun j hj => by rw [gI_nf _ _ _ (by omega), gI_nf _ _ _ (by omega), gI_nf _ _ _ (by omega), gI_nf _ _ _ (by omega), k2.I (by unfold rmM; omega)]
        obtain ⟨h1, h0, u1⟩ := ref0 (c := c) r1 r3 (e9 610 (by omega)) (e9 609 (by omega)) u
        obtain ⟨τa, t1, t2, t3, t4, t5⟩ := kk _ _ un a1 av σ2 u _ u1
        have M := MR_of (σ := τa) (r := (r + 1) % 9) (by omega) t2
        rw [t3] at M
        have w0 : Wr ((r + 1) % 9) τa τa (RW σ r) := by have := Wr.q (r := (r + 1) % 9) (MU.refl qA qI τa); rw [t3] at this; exact this
        have hr9 : (r + 1) % 9 < 9 := by omega
        obtain ⟨τ1, p1, p2⟩ := putR (k := 13 + n) (nI a) hr9 t2 w0 (by omega)
        obtain ⟨τ2, p3, p4⟩ := putR (k := 13 + n + 1) (nI b) hr9 t2 p2 (by omega)
        obtain ⟨τ3, p5, p6⟩ := putR (k := 2) (nI (n + 2)) hr9 t2 p4 (by omega)
        have g1 := get_ok (k := 2) (p2.M hr9 t2) (by omega)
        have g2 := get_ok (k := 2) (p4.M hr9 t2) (by omega)
        have g3 := get_ok (k := 2) (p6.M hr9 t2) (by omega)
        rw [up_ne _ _ (by omega), en] at g1
        rw [up_ne _ _ (by omega), up_ne _ _ (by omega), en] at g2
        rw [up_at] at g3
        rw [isIn_ok, bind_some, show decide (¬ nI a < 0 ∧ ¬ nI 99 < nI a) = true from decide_eq_true ⟨nI_pos (by omega), nI_nlt (by omega) (by omega)⟩, if_b2, if_pos rfl, isIn_ok, bind_some, show decide (¬ nI b < 0 ∧ ¬ nI 99 < nI b) = true from decide_eq_true ⟨nI_pos (by omega), nI_nlt (by omega) (by omega)⟩, if_b2, if_pos rfl]
        unfold pf_X11_tell_b31 pf_X11_tell_b56
        rw [show pf_X11_right 609 1 1 _ = _ from right_t h0, bnd2_some, i10, show pf_X11_get 609 2 _ = _ from get_ok (k := 2) h1 (by omega), bind_some, en, show (2 : Int32) = nI 2 from rfl, nI_add, show (40 : Int32) = nI 40 from rfl, if_neg (nI_nlt c1 (by omega)), show pf_X11_right 609 1 (nI 2) _ = _ from right_t h0, bnd2_some, i10, t1, bind_some, get_ok M (by omega), bind_some, en, show (13 : Int32) = nI 13 from rfl, nI_add, p1, bind_some, g1, bind_some, nI_add, nI_1, p3, bind_some, g2, bind_some, nI_add, p5, bind_some, g3, bind_some]
        exact ⟨_, _, rfl, ⟨p6.t.trans (t4.trans h0), (gI_at _ _ _ _).symm⟩, t5 _ p6⟩
      · rw [if_neg (nI_ge (by omega) (by omega))]
        refine ⟨_, σ, rfl, fun σ2 u => ?_⟩
        obtain ⟨h1, h0, u1⟩ := ref0 (c := c) r1 r3 rfl rfl u
        rw [isIn_ok, bind_some, show decide (¬ nI a < 0 ∧ ¬ nI 99 < nI a) = true from decide_eq_true ⟨nI_pos (by omega), nI_nlt (by omega) (by omega)⟩, if_b2, if_pos rfl, isIn_ok, bind_some, show decide (¬ nI b < 0 ∧ ¬ nI 99 < nI b) = true from decide_eq_true ⟨nI_pos (by omega), nI_nlt (by omega) (by omega)⟩, if_b2, if_pos rfl]
        unfold pf_X11_tell_b31 pf_X11_tell_b56
        rw [show pf_X11_right 609 1 1 _ = _ from right_t h0, bnd2_some, i10, show pf_X11_get 609 2 _ = _ from get_ok (k := 2) h1 (by omega), bind_some, en, show (2 : Int32) = nI 2 from rfl, nI_add, show (40 : Int32) = nI 40 from rfl, if_pos (nI_lt (by omega) (by omega)), show pf_X11_right 609 0 (nI 2) _ = _ from right_f h0 (by decide), bnd2_some, i00]
        exact ⟨_, _, rfl, gI_at _ _ _ _, I.no (Un.refl _ _) u (u1.trans (MU.fld _ _ (Or.inl rfl)))⟩
theorem op_undo (hc : c < 512) (I : Inv c σ) : ∃ x σ1, pf_X10_undo 0 σ = some (x, σ1) ∧ ∀ σ2, Un oA σ1 σ2 → ∃ σ3, pf_X11_undo 609 σ2 = some (x, σ3) ∧ IL c σ2 σ3 := by
  obtain ⟨hb, r, nxt, cnt, h1, h2, h3, h4, h5, h6, h7, h8, h9, h10⟩ := id I
  unfold pf_X10_undo pf_X1_recall pf_X11_undo
  rw [show gI σ (0 + 120) 2 = nI cnt from h7]
  by_cases c0 : cnt = 0
  · subst c0
    rw [if_neg (by decide), bnd2_some, i00]
    refine ⟨_, σ, rfl, fun σ2 u => ?_⟩
    have e4 : gI (sI σ2 609 0 0) 609 4 = nI 0 := by rw [gI_ns _ _ _ (by decide), u.I (by unfold oA; omega)]; exact h5
    rw [bnd_e, e4, if_pos (show nI 0 = (0 : Int32) from rfl)]
    exact ⟨_, rfl, I.no (Un.refl _ _) u (MU.fld _ _ (Or.inl rfl))⟩
  · obtain ⟨x, rfl⟩ : ∃ x, cnt = x + 1 := ⟨cnt - 1, by omega⟩
    obtain ⟨g1, g2⟩ := h10 0 (by omega)
    have eh : hpl nxt 0 = 122 + 59 * ((nxt + 7) % 8) := by unfold hpl; omega
    have er : hro r 0 = (r + 8) % 9 := by unfold hro; omega
    rw [eh, er] at g1
    rw [er] at g2
    rw [show (0 : Int32) = nI 0 from rfl, if_pos (nI_lt (by omega) (by omega)), show gI σ (0 + 120) 1 = nI nxt from h6, show (8 : Int32) = nI 8 from rfl, nI_add, show (1 : Int32) = nI 1 from rfl, show nI (nxt + 8) - nI 1 = nI (nxt + 7) from nI_pred _, show irem (nI (nxt + 7)) (nI 8) = nI ((nxt + 7) % 8) from pk_rem (by omega) (by omega) (by omega)]
    simp only [bnd_e]
    have e1 : gI (sI σ (0 + 120) 1 (nI ((nxt + 7) % 8))) (0 + 120) 2 = nI (x + 1) := by rw [gI_ns _ _ _ (by decide)]; exact h7
    rw [e1, show nI (x + 1) - nI 1 = nI x from nI_pred _, gI_ns _ _ _ (by decide), gI_at, if_neg (show ¬ nI ((nxt + 7) % 8) < nI 0 from nI_pos (by omega)), if_neg (nI_ge (by omega) (by omega)), show ckI (nI ((nxt + 7) % 8)) (alen (0 + 120 + 1)) _ = _ from ckA al121 (by omega), nI_clamp (by omega)]
    have ua : Un (fun i => i = 120) σ (sI (sI σ 120 1 (nI ((nxt + 7) % 8))) 120 2 (nI x)) := Un.trans (Un.sI _ _ rfl) (Un.sI _ _ rfl)
    obtain ⟨σ1, d1, d2, d3⟩ := lcp kd2 (kd_h ((nxt + 7) % 8) (by omega)) (by omega) g2.1 g2.2.1 g2.2.2.1 g2.vn (g1.un g2.n0 ua fun i a1 a2 a3 => by omega)
    rw [show pf_X2_copyFrom (0 + 2) (0 + 120 + 1 + 1 + 59 * ((nxt + 7) % 8)) (sI (sI σ (0 + 120) 1 (nI ((nxt + 7) % 8))) (0 + 120) 2 (nI x)) = some σ1 from by rw [show 0 + 120 + 1 + 1 + 59 * ((nxt + 7) % 8) = 122 + 59 * ((nxt + 7) % 8) by omega]; exact d1, bind_some, bnd2_some, if_neg (show ¬ nI 1 = nI 0 by decide)]
    have e120 : gI σ1 120 = gI (sI (sI σ 120 1 (nI ((nxt + 7) % 8))) 120 2 (nI x)) 120 := d2.I (fun q => by have := q.2; omega)
    refine ⟨gI σ1 120 2, σ1, rfl, fun σ2 u => ?_⟩
    have ex : gI σ1 120 2 = nI x := by rw [e120]; exact gI_at _ _ _ _
    have ec : ∀ i, (i ≤ 1 ∨ 61 ≤ i) → i ≠ 120 → i ≠ 620 → i ≠ 621 → gI σ2 i = gI σ i ∧ gL σ2 i = gL σ i := fun i a1 a2 a3 a4 => ⟨by rw [u.I (by unfold oA; omega), d2.I (fun q => by have := q.1; have := q.2; omega), ua.I a2], by rw [u.L (by unfold oA; omega), d2.L (fun q => by have := q.1; have := q.2; omega), ua.L a2]⟩
    have e4 : gI (sI σ2 609 0 (nI 0)) 609 4 = nI (x + 1) := by rw [gI_ns _ _ _ (by decide), (ec 609 (by omega) (by omega) (by omega) (by omega)).1]; exact h5
    rw [e4, if_neg (by rw [nI_eq (by omega) (by omega)]; omega), show nI (x + 1) - nI 1 = nI x from nI_pred _]
    have e3 : gI (sI (sI σ2 609 0 (nI 0)) 609 4 (nI x)) 609 3 = nI r := by rw [gI_ns _ _ _ (by decide), gI_ns _ _ _ (by decide), (ec 609 (by omega) (by omega) (by omega) (by omega)).1]; exact h4
    rw [e3, show (9 : Int32) = nI 9 from rfl, nI_add, show nI (r + 9) - nI 1 = nI (r + 8) from nI_pred _, show irem (nI (r + 8)) (nI 9) = nI ((r + 8) % 9) from pk_rem (by omega) (by omega) (by omega)]
    have e5 : gI (sI (sI (sI σ2 609 0 (nI 0)) 609 4 (nI x)) 609 3 (nI ((r + 8) % 9))) 609 4 = nI x := by rw [gI_ns _ _ _ (by decide), gI_at]
    rw [e5, ex]
    refine ⟨_, rfl, ?_⟩
    generalize hs3 : sI (sI (sI σ2 609 0 (nI 0)) 609 4 (nI x)) 609 3 (nI ((r + 8) % 9)) = σ3
    have n3 : ∀ i, i ≠ 609 → gI σ3 i = gI σ2 i ∧ gL σ3 i = gL σ2 i := fun i hi => by subst hs3; exact ⟨by rw [gI_nf _ _ _ hi, gI_nf _ _ _ hi, gI_nf _ _ _ hi], rfl⟩
    have s3 : ∀ k, k ≠ 0 → k ≠ 3 → k ≠ 4 → gI σ3 609 k = gI σ 609 k := fun k a1 a2 a3 => by subst hs3; rw [gI_ns _ _ _ a2, gI_ns _ _ _ a3, gI_ns _ _ _ a1, (ec 609 (by omega) (by omega) (by omega) (by omega)).1]
    have c3 : ∀ i, (i ≤ 1 ∨ 61 ≤ i) → i ≠ 120 → i ≠ 609 → i ≠ 620 → i ≠ 621 → gI σ3 i = gI σ i ∧ gL σ3 i = gL σ i := fun i a1 a2 a3 a4 a5 => ⟨(n3 i a3).1.trans (ec i a1 a2 a4 a5).1, (n3 i a3).2.trans (ec i a1 a2 a4 a5).2⟩
    have rows : ∀ q, RW σ3 q = RW σ q := fun q => RW_I q (c3 610 (by omega) (by omega) (by omega) (by omega) (by omega)).1
    refine ⟨⟨?_, (r + 8) % 9, (nxt + 7) % 8, x, by omega, by omega, by omega, by subst hs3; exact gI_at _ _ _ _, by subst hs3; exact e5, ?_, ?_, ?_, ?_, ?_⟩, by subst hs3; exact ⟨rfl, rfl⟩⟩
    · obtain ⟨fed, f1, f2, f3, f4, f5⟩ := hb
      exact ⟨fed, f1, by rw [(c3 0 (by omega) (by omega) (by omega) (by omega) (by omega)).1]; exact f2, by rw [s3 14 (by omega) (by omega) (by omega)]; exact f3, fun j hj => by rw [(c3 1 (by omega) (by omega) (by omega) (by omega) (by omega)).1, (c3 618 (by omega) (by omega) (by omega) (by omega) (by omega)).1]; exact f4 j hj, by rw [(c3 0 (by omega) (by omega) (by omega) (by omega) (by omega)).1, s3 18 (by omega) (by omega) (by omega)]; exact f5⟩
    · rw [(n3 120 (by omega)).1, u.I (by unfold oA; omega), e120, gI_ns _ _ _ (by decide), gI_at]
    · rw [(n3 120 (by omega)).1, u.I (by unfold oA; omega), ex]
    · rw [rows]
      exact d3.cong g2.n0 fun i a1 a2 => ⟨by rw [(n3 i (by omega)).1, u.I (by unfold oA; omega)], by rw [(n3 i (by omega)).2, u.L (by unfold oA; omega)]⟩
    · rw [rows]; exact g2.mono (by unfold BB; omega)
    · intro j hj
      obtain ⟨f1, f2⟩ := h10 (j + 1) (by omega)
      have e1 : hpl ((nxt + 7) % 8) j = hpl nxt (j + 1) := by unfold hpl; omega
      have e2 : hro ((r + 8) % 9) j = hro r (j + 1) := by unfold hro; omega
      have hbb := hpl_b nxt (j + 1)
      rw [e1, e2, rows]
      exact ⟨f1.cong f2.n0 fun i a1 a2 => c3 i (by omega) (by omega) (by omega) (by omega) (by omega), f2.mono (by unfold BB; omega)⟩
end
