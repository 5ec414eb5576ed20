/-! THE REFERENCE: goals -/
theorem ishr_nI : ∀ u, u < 64 → ∀ k, k < 6 → ishr (nI u) (nI k) &&& 1 = b2i (u.testBit k) := by decide +kernel
/-- the pile of truth values in 'held' -/
def HS (s : St) : List Bool → Prop
  | [] => True
  | b :: st => gI s 612 st.length = b2i b ∧ HS s st
theorem HS.un {s s' : St} : ∀ {st : List Bool}, HS s st → (∀ k, k < st.length → gI s' 612 k = gI s 612 k) → HS s' st
  | [], _, _ => trivial
  | b :: st, h, h2 => ⟨(h2 _ (by simp)).trans h.1, HS.un h.2 fun k hk => h2 k (by simp; omega)⟩
theorem HS.at {s : St} : ∀ {st : List Bool}, HS s st → ∀ k, k < st.length → gI s 612 (st.length - 1 - k) = b2i (st.getD k false)
  | [], _, k, hk => absurd hk (Nat.not_lt_zero _)
  | b :: st, h, 0, _ => by simpa using h.1
  | b :: st, h, k + 1, hk => by
    have := HS.at h.2 k (by simpa using hk)
    simp only [List.length_cons, List.getD_cons_succ] at *
    rw [← this]
    congr 1
    omega
theorem HS.drop {s : St} : ∀ {st : List Bool} (k : Nat), HS s st → HS s (st.drop k)
  | st, 0, h => by simpa using h
  | [], _ + 1, _ => by simp [HS]
  | b :: st, k + 1, h => by simpa using HS.drop k h.2
theorem count_take (st : List Bool) (k : Nat) (h : k < st.length) : (st.take (k + 1)).count true = (st.take k).count true + (if st.getD k false then 1 else 0) := by
  rw [List.take_succ, List.count_append]
  congr 1
  rw [List.getElem?_eq_getElem h]
  have e : st.getD k false = st[k] := by simp [List.getD, List.getElem?_eq_getElem h]
  rw [e]
  cases st[k] <;> rfl
theorem stG_len {u op v : Nat} {st st' : List Bool} (h : stG u op v st = some st') : st'.length ≤ st.length + 1 := by
  unfold stG at h
  split at h
  · cases h; simp
  · split at h
    · split at h
      · cases h; simp
      · cases h
    · split at h
      · cases h; simp
      · cases h
def noB : Nat → Prop := fun _ => False
def hA : Nat → Prop := fun i => i = 612
theorem hA610 : ¬ hA 610 := by unfold hA; decide
theorem held_L94 {σ : St} {st : List Bool} {m : Nat} (k123 : Nat → Int32 → Int32 → Int32 → Int32 → Int32 → Int32 → Int32 → St → Option (Int32 × St)) (v1 v2 v4 v6 : Int32) (hl : st.length ≤ 800) (hm : m ≤ st.length) (h1 : 1 ≤ m) (h : HS σ st) : pf_X11_holdsBy_L94 k123 FU 609 v1 v2 (nI st.length) v4 v6 (nI m) 0 0 σ = k123 609 v1 v2 (nI st.length) v4 v6 (nI m) (nI ((st.take m).count true)) σ := by
  refine up_C (fun n i (c : Nat) => pf_X11_holdsBy_L94 k123 n 609 v1 v2 (nI st.length) v4 v6 (nI m) (nI c) (nI i) σ) m (fun i c => c = (st.take i).count true) (fun r => r = k123 609 v1 v2 (nI st.length) v4 v6 (nI m) (nI ((st.take m).count true)) σ) ?_ ?_ FU 0 0 (Nat.zero_le _) (by simp) (lt_FU (by omega))
  · intro n c hc
    show pf_X11_holdsBy_L94 k123 (n + 1) 609 v1 v2 (nI st.length) v4 v6 (nI m) (nI c) (nI m) σ = _
    rw [pf_X11_holdsBy_L94, if_pos (nI_le (Nat.le_refl _) (by omega)), hc]
  · intro n i c hi hc
    right
    refine ⟨c + (if st.getD i false then 1 else 0), ?_, by rw [hc, count_take st i (by omega)]⟩
    show pf_X11_holdsBy_L94 k123 (n + 1) 609 v1 v2 (nI st.length) v4 v6 (nI m) (nI c) (nI i) σ = pf_X11_holdsBy_L94 k123 n 609 v1 v2 (nI st.length) v4 v6 (nI m) (nI _) (nI (i + 1)) σ
    rw [pf_X11_holdsBy_L94, if_neg (nI_ge hi (by omega)), show (1 : Int32) = nI 1 from rfl, pk_sub (by omega), pk_sub (by omega), ckA al612 (by omega), nI_clamp (by omega), h.at i (by omega), bnd_e, bnd_e, nI_add]
    congr 1
    cases st.getD i false <;> simp [b2i, nI_1]
theorem holdsM {τ : St} {rd : Nat → Int32} {q u : Nat} (h : MR τ rd) (hq : q < 6) (v : VQ rd (53 + 186 * q)) (hu : u < 64) : ∃ τ', pf_X11_holdsBy 609 (nI q) (nI u) τ = some (b2i (gl rd (53 + 186 * q) u), τ') ∧ MU hA noB τ τ' := by
  obtain ⟨g1, g2, g3, g4, g5, g6⟩ := v.2.2.2.2.1
  obtain ⟨fr, ef, hf, hf'⟩ := g1.get
  obtain ⟨to, et, ht, ht'⟩ := g2.get
  rw [hf', ht'] at g3 g4 g5
  obtain ⟨w, hw⟩ := g4 u hu
  unfold pf_X11_holdsBy
  rw [oQ4 h hq, bind_some, ef]
  have hgl : gl rd (53 + 186 * q) u = w := by
    unfold gl
    rw [hf', ht', hw]
    cases w <;> decide
  rw [hgl]
  refine up_C (fun n i (s : Nat × St) => pf_X11_holdsBy_L10 pf_X11_holdsBy_b213 n 609 (nI q) (nI u) (nI s.1) (nI (fr + i)) s.2) (to - fr) (fun i s => ∃ st, HS s.2 st ∧ s.1 = st.length ∧ st.length ≤ i ∧ evG rd u (to - fr - i) (fr + i) st = some [w] ∧ MU hA noB τ s.2) (fun r => ∃ τ', r = some (b2i w, τ') ∧ MU hA noB τ τ') ?_ ?_ FU 0 (0, τ) (Nat.zero_le _) ⟨[], trivial, rfl, Nat.le_refl _, hw, MU.refl _ _ _⟩ (lt_FU (by omega))
  · rintro n ⟨top, s⟩ ⟨st, p1, p2, p3, p4, p5⟩
    have hs := h.mu p5 hA610 (fun q => q)
    rw [Nat.sub_self, evG] at p4
    cases p4
    refine ⟨s, ?_, p5⟩
    show pf_X11_holdsBy_L10 pf_X11_holdsBy_b213 (n + 1) 609 (nI q) (nI u) (nI top) (nI (fr + (to - fr))) s = _
    rw [pf_X11_holdsBy_L10, oQ5 hs hq, bind_some, et, if_pos (nI_le (by omega) (by omega)), pf_X11_holdsBy_b213]
    have e0 : gI s 612 0 = b2i w := p1.1
    rw [show ckI (0 : Int32) (alen (609 + 3)) (if gI s (609 + 3) (0 : Int32).toNatClampNeg = 1 then some ((1 : Int32), s) else some (0, s)) = (if gI s 612 0 = 1 then some ((1 : Int32), s) else some (0, s)) from ckA (n := 0) al612 (by omega), e0, if_b1]
    cases w <;> rfl
  · rintro n i ⟨top, s⟩ hi ⟨st, p1, p2, p3, p4, p5⟩
    have hs := h.mu p5 hA610 (fun q => q)
    obtain ⟨c1, c2, c3⟩ := g5 (fr + i) (by omega) (by omega)
    have p2' : top = st.length := p2
    subst p2'
    right
    show ∃ s' : Nat × St, pf_X11_holdsBy_L10 pf_X11_holdsBy_b213 (n + 1) 609 (nI q) (nI u) (nI st.length) (nI (fr + i)) s = pf_X11_holdsBy_L10 pf_X11_holdsBy_b213 n 609 (nI q) (nI u) (nI s'.1) (nI (fr + (i + 1))) s'.2 ∧ _
    rw [show to - fr - i = (to - fr - (i + 1)) + 1 by omega, evG] at p4
    obtain ⟨st', q1, q2⟩ := Option.bind_eq_some_iff.mp p4
    have hlen := stG_len q1
    obtain ⟨op, eo, ho, ho'⟩ := c1.get
    obtain ⟨vl, ev, hv, hv'⟩ := c2.get
    rw [ho', hv'] at q1
    rw [eo, hv'] at c3
    rw [pf_X11_holdsBy_L10, oQ5 hs hq, bind_some, et, if_neg (nI_ge (by omega) (by omega)), show (2769 : Int32) = nI 2769 from rfl, show (2 : Int32) = nI 2 from rfl, pk_mul, nI_add, get_ok hs (by omega), bind_some, nI_1, get_ok hs (by omega), bind_some, eo, ev]
    have fin : ∀ (s2 : St), HS s2 st' → MU hA noB s s2 → ∃ s' : Nat × St, pf_X11_holdsBy_b207 (pf_X11_holdsBy_L10 pf_X11_holdsBy_b213 n) 609 (nI q) (nI u) (nI st'.length) (nI (fr + i)) s2 = pf_X11_holdsBy_L10 pf_X11_holdsBy_b213 n 609 (nI q) (nI u) (nI s'.1) (nI (fr + (i + 1))) s'.2 ∧ ∃ st, HS s'.2 st ∧ s'.1 = st.length ∧ st.length ≤ i + 1 ∧ evG rd u (to - fr - (i + 1)) (fr + (i + 1)) st = some [w] ∧ MU hA noB τ s'.2 := fun s2 a1 a2 => ⟨(st'.length, s2), by rw [pf_X11_holdsBy_b207, bnd_e, nI_1]; rfl, st', a1, rfl, by omega, q2, p5.trans a2⟩
    have wr : ∀ (k : Nat) (x : Int32) (b : Bool) (r : List Bool), st' = b :: r → k = r.length → x = b2i b → HS s r → HS (sI s 612 k x) st' := fun k x b r e1 e2 e3 e4 => by
      subst e1; subst e2; subst e3
      exact ⟨gI_at _ _ _ _, e4.un fun k hk => gI_ns _ _ _ (by omega)⟩
    unfold stG at q1
    by_cases h0 : op = 0
    · subst h0
      rw [if_pos rfl] at q1
      cases q1
      rw [if_pos (show nI 0 = (0 : Int32) from rfl), ckA al612 (by omega), nI_clamp (by omega), ishr_nI u hu vl (c3 rfl), bnd_e, nI_1, bnd_e]
      exact fin _ (wr _ _ _ st rfl rfl rfl p1) (MU.arr _ _ rfl (by decide))
    · rw [if_neg h0] at q1
      rw [if_neg (by rw [show (0 : Int32) = nI 0 from rfl, nI_eq (by omega) (by omega)]; exact h0)]
      by_cases h3 : op = 3
      · subst h3
        rw [if_pos rfl] at q1
        split at q1
        · rename_i hm
          cases q1
          rw [if_pos (show nI 3 = (3 : Int32) from rfl), show irem (nI vl) 1000 = nI (vl % 1000) from pk_rem (d := 1000) (by omega) (by omega) (by omega), bnd_e, held_L94 _ _ _ _ _ (by omega) hm.2 hm.1 p1, pf_X11_holdsBy_b123, show (1 : Int32) = nI 1 from rfl, show nI vl / 1000 = nI (vl / 1000) from pk_div (d := 1000) (by omega) (by omega) (by omega), pk_sub hm.1, pk_sub (by omega), bnd_e, pk_sub (by omega)]
          have hct : (st.take (vl % 1000)).count true ≤ 1000 := by
            have := List.count_le_length (a := true) (l := st.take (vl % 1000))
            rw [List.length_take] at this
            omega
          have el : st.length - (vl % 1000 - 1) = (decide (vl / 1000 ≤ (st.take (vl % 1000)).count true) :: st.drop (vl % 1000)).length := by
            simp; omega
          have e1 : (decide (vl / 1000 ≤ (st.take (vl % 1000)).count true) :: st.drop (vl % 1000)).length - 1 = (st.drop (vl % 1000)).length := rfl
          by_cases hc : (st.take (vl % 1000)).count true < vl / 1000
          · rw [if_pos (nI_lt hc (by omega)), pf_X11_holdsBy_b153, ckA al612 (by omega), nI_clamp (by omega), bnd_e, el]
            exact fin _ (wr _ _ _ _ rfl e1 (by rw [decide_eq_false (by omega)]; rfl) (p1.drop _)) (MU.arr _ _ rfl (by decide))
          · rw [if_neg (nI_nlt (by omega) (by omega)), pf_X11_holdsBy_b153, ckA al612 (by omega), nI_clamp (by omega), bnd_e, el]
            exact fin _ (wr _ _ _ _ rfl e1 (by rw [decide_eq_true (by omega)]; rfl) (p1.drop _)) (MU.arr _ _ rfl (by decide))
        · cases q1
      · rw [if_neg h3] at q1
        rw [if_neg (by rw [show (3 : Int32) = nI 3 from rfl, nI_eq (by omega) (by omega)]; exact h3)]
        match st, p1, p3, q1, hlen, wr with
        | [], _, _, q1, _, _ => cases q1
        | [_], _, _, q1, _, _ => cases q1
        | b :: a :: r, p1, p3, q1, hlen, wr =>
          cases q1
          have pa : gI s 612 r.length = b2i a := p1.2.1
          have pb : gI s 612 (r.length + 1) = b2i b := p1.1
          have lr : r.length + 2 ≤ i := by simpa using p3
          rw [show (b :: a :: r).length = r.length + 2 from rfl, show nI (r.length + 2) + (-1) = nI (r.length + 1) from pk_m1 _, bnd_e, show nI (r.length + 1) - 1 = nI r.length from nI_pred _, ckA al612 (by omega), ckA al612 (by omega), nI_clamp (by omega), nI_clamp (by omega), ckA al612 (by omega), ckA al612 (by omega), pa, pb]
          by_cases h1 : op = 1
          · subst h1
            rw [if_pos (show nI 1 = (1 : Int32) from rfl), pf_X11_holdsBy_b206, ckA al612 (by omega), nI_clamp (by omega), bnd_e]
            exact fin _ (wr _ _ _ r rfl rfl (by cases a <;> cases b <;> rfl) p1.2.2) (MU.arr _ _ rfl (by decide))
          · rw [if_neg (by rw [show (1 : Int32) = nI 1 from rfl, nI_eq (by omega) (by omega)]; exact h1), pf_X11_holdsBy_b206, ckA al612 (by omega), nI_clamp (by omega), bnd_e]
            exact fin _ (wr _ _ _ r rfl rfl (by rw [if_neg h1]; cases a <;> cases b <;> rfl) p1.2.2) (MU.arr _ _ rfl (by decide))
