/-! QUESTIONS best, chance, state, progress -/
def encO (o : Option Nat) : Int32 := match o with
  | none => -1
  | some k => nI k
def bstS (rd : Nat → Int32) (S : Nat → Int) : Nat → Option Nat
  | 0 => none
  | k + 1 => if posb rd (53 + 186 * k) S then (match bstS rd S k with
      | none => some k
      | some f => if wth rd f S < wth rd k S then some k else some f) else bstS rd S k
theorem bstS_lt (rd : Nat → Int32) (S : Nat → Int) : ∀ k f, bstS rd S k = some f → f < k
  | 0, _, h => by cases h
  | k + 1, f, h => by
    rw [bstS] at h
    split at h
    · split at h
      · cases h; omega
      · rename_i f' e
        have := bstS_lt rd S k f' e
        split at h <;> cases h <;> omega
    · have := bstS_lt rd S k f h
      omega
section
variable {σ τ : St} {rd : Nat → Int32} {B : Nat}
theorem bestC (X : CX σ rd B) : ∃ σ', pf_X10_best 0 σ = some (encO (bstS rd (stk rd) (Qn rd)), σ') ∧ Un cQ σ σ' := by
  have q0 := X.q0
  unfold pf_X10_best
  refine up_C (fun n i (s : (Int32 × Int32) × St) => pf_X10_best_L6 n 0 s.1.1 s.1.2 (nI i) s.2) (Qn rd) (fun i s => s.1.1 = encO (bstS rd (stk rd) i) ∧ (∀ f, bstS rd (stk rd) i = some f → s.1.2 = iI (wth rd f (stk rd)) ∧ -1000000 ≤ wth rd f (stk rd) ∧ wth rd f (stk rd) ≤ 1000000) ∧ Un cQ σ s.2) (fun r => ∃ σ', r = some (encO (bstS rd (stk rd) (Qn rd)), σ') ∧ Un cQ σ σ') ?_ ?_ FU 0 ((-1, 0), σ) (Nat.zero_le _) ⟨rfl, fun f hf => (by cases hf), Un.refl _ _⟩ (lt_FU (by omega))
  · rintro n ⟨⟨x, y⟩, s⟩ ⟨h1, h2, h3⟩
    have Xs := X.cq h3
    refine ⟨s, ?_, h3⟩
    show pf_X10_best_L6 (n + 1) 0 x y (nI (Qn rd)) s = _
    have h1' : x = encO (bstS rd (stk rd) (Qn rd)) := h1
    rw [pf_X10_best_L6, show gI s (0 + 2) 5 = nI (Qn rd) from Xs.1.1.trans q0.1, if_pos (nI_le (Nat.le_refl _) (by omega)), h1']
  · rintro n i ⟨⟨x, y⟩, s⟩ hi ⟨h1, h2, h3⟩
    have Xs := X.cq h3
    have h1' : x = encO (bstS rd (stk rd) i) := h1
    obtain ⟨s2, c1, c2, _, _, c4⟩ := Xs.ex hi
    right
    show ∃ s' : (Int32 × Int32) × St, pf_X10_best_L6 (n + 1) 0 x y (nI i) s = pf_X10_best_L6 n 0 s'.1.1 s'.1.2 (nI (i + 1)) s'.2 ∧ _
    rw [pf_X10_best_L6, show gI s (0 + 2) 5 = nI (Qn rd) from Xs.1.1.trans q0.1, if_neg (nI_ge hi (by omega)), show (6 : Int32) = nI 6 from rfl, if_neg (nI_ge (by omega) (by omega)), ckA al5 (by omega), nI_clamp (by omega), show 0 + 2 + 3 + 2 + 9 * i = 7 + 9 * i by omega, show pf_X7_explore (0 + 602) (7 + 9 * i) (0 + 2 + 1) s = _ from c1, bnd2_some, if_b]
    cases hp : posb rd (53 + 186 * i) (stk rd) with
    | false =>
      rw [if_neg Bool.false_ne_true, pf_X10_best_b77, bnd_e, nI_1]
      refine ⟨((x, y), s2), rfl, ?_, fun f hf => h2 f ?_, h3.trans c2⟩
      · show x = _
        rw [bstS, hp, if_neg Bool.false_ne_true]; exact h1'
      · rw [bstS, hp, if_neg Bool.false_ne_true] at hf; exact hf
    | true =>
      obtain ⟨s3, w1, w2, w3, w4⟩ := worthC c4 hi
      rw [if_pos rfl, w1, bnd2_some]
      have u := (h3.trans c2).trans w2
      cases hb : bstS rd (stk rd) i with
      | none =>
        have ex : x = -1 := by rw [h1', hb]; rfl
        rw [ex, if_pos (by decide), pf_X10_best_b72, pf_X10_best_b77, bnd_e, nI_1]
        refine ⟨((nI i, iI (wth rd i (stk rd))), s3), rfl, ?_, fun f hf => ?_, u⟩
        · show nI i = _
          rw [bstS, hp, if_pos rfl, hb]; rfl
        · rw [bstS, hp, if_pos rfl, hb] at hf
          cases hf; exact ⟨rfl, w4⟩
      | some f =>
        have hf6 := bstS_lt rd (stk rd) i f hb
        have ex : x = nI f := by rw [h1', hb]; rfl
        obtain ⟨e1, e2, e3⟩ := h2 f hb
        have e1' : y = iI (wth rd f (stk rd)) := e1
        rw [ex, if_neg (nI_pos (by omega)), e1']
        by_cases c : wth rd i (stk rd) ≤ wth rd f (stk rd)
        · rw [if_pos (by rw [iI_le (by omega) (by omega) (by omega) (by omega)]; exact c), pf_X10_best_b77, bnd_e, nI_1]
          refine ⟨((nI f, iI (wth rd f (stk rd))), s3), rfl, ?_, fun f' hf' => ?_, u⟩
          · show nI f = _
            rw [bstS, hp, if_pos rfl, hb]
            simp only
            rw [if_neg (by omega)]; rfl
          · rw [bstS, hp, if_pos rfl, hb] at hf'
            simp only at hf'
            rw [if_neg (by omega)] at hf'
            cases hf'; exact ⟨rfl, e2, e3⟩
        · rw [if_neg (by rw [iI_le (by omega) (by omega) (by omega) (by omega)]; exact c), pf_X10_best_b72, pf_X10_best_b77, bnd_e, nI_1]
          refine ⟨((nI i, iI (wth rd i (stk rd))), s3), rfl, ?_, fun f' hf' => ?_, u⟩
          · show nI i = _
            rw [bstS, hp, if_pos rfl, hb]
            simp only
            rw [if_pos (by omega)]; rfl
          · rw [bstS, hp, if_pos rfl, hb] at hf'
            simp only at hf'
            rw [if_pos (by omega)] at hf'
            cases hf'; exact ⟨rfl, w4⟩
theorem wth_b (X : CX σ rd B) {q : Nat} (hq : q < Qn rd) : -1000000 ≤ wth rd q (stk rd) ∧ wth rd q (stk rd) ≤ 1000000 := by
  obtain ⟨_, _, _, _, h⟩ := worthC X hq
  exact h
/-! chance -/
def AgrD (A : Nat ⊕ UInt64) (b : UInt64) (t : Int32) : Prop := match A with
  | .inr x => t = 0 ∧ b = x ∧ x &&& 0x7fffffffffffffff ≤ 0x7ff0000000000000
  | .inl k => t = fQ k
theorem plan_st {q : Nat} {S : Nat → Int} (V : VQ rd (53 + 186 * q)) (hp : posb rd (53 + 186 * q) S = true) {k : Nat} (hk : k < plN rd (53 + 186 * q) S) : Rch (gl rd (53 + 186 * q)) (cnR rd (53 + 186 * q) S (dnM rd (53 + 186 * q))) (dnM rd (53 + 186 * q)) (plS (gl rd (53 + 186 * q)) (cnR rd (53 + 186 * q) S (dnM rd (53 + 186 * q))) k (dnM rd (53 + 186 * q))) ∧ (∃ w, gF (gl rd (53 + 186 * q)) (cnR rd (53 + 186 * q) S (dnM rd (53 + 186 * q))) one (plS (gl rd (53 + 186 * q)) (cnR rd (53 + 186 * q) S (dnM rd (53 + 186 * q))) k (dnM rd (53 + 186 * q))) = some (w + 1)) ∧ stp (gl rd (53 + 186 * q)) (cnR rd (53 + 186 * q) S (dnM rd (53 + 186 * q))) (plS (gl rd (53 + 186 * q)) (cnR rd (53 + 186 * q) S (dnM rd (53 + 186 * q))) k (dnM rd (53 + 186 * q))) < nS rd (53 + 186 * q) := by
  obtain ⟨p1, p2, p3⟩ := posb_t V hp
  have hd := dnM_64 V
  have hc := cnR_ok (S := S) (d := dnM rd (53 + 186 * q)) V.n.1
  obtain ⟨r1, r2, r3⟩ := plS_at hc k _ _ hd p2 (by omega)
  obtain ⟨x, hx⟩ : ∃ x, plN rd (53 + 186 * q) S - k = x + 1 := ⟨plN rd (53 + 186 * q) S - k - 1, by omega⟩
  rw [hx] at r3
  obtain ⟨_, _, q3, _, _⟩ := gF_succ hc r1 r3
  exact ⟨r2, ⟨x, r3⟩, (cnR_s q3).1⟩
end
