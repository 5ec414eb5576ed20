/-! QUESTION endings: how many sets end a way -/
def EB (rd : Nat → Int32) (b : Nat) (S : Nat → Int) (d : Nat) (L : Nat → Nat) (f : Nat → Bool) : Prop := ∀ t, t < 64 → (f t = true ↔ (t = d ∨ ∃ u k, k < L u ∧ Rch (gl rd b) (cnR rd b S d) d u ∧ gl rd b u = false ∧ cnR rd b S d u k = true ∧ nx u k = t))
section
variable {rd : Nat → Int32} {b d : Nat} {S : Nat → Int} {L L' : Nat → Nat} {f : Nat → Bool}
theorem EB.to (h : EB rd b S d L f) (hl : ∀ u, Rch (gl rd b) (cnR rd b S d) d u → gl rd b u = false → ∀ k, cnR rd b S d u k = true → (k < L u ↔ k < L' u)) : EB rd b S d L' f := fun t ht => (h t ht).trans (or_congr Iff.rfl ⟨fun ⟨u, k, a1, a2, a3, a4, a5⟩ => ⟨u, k, (hl u a2 a3 k a4).mp a1, a2, a3, a4, a5⟩, fun ⟨u, k, a1, a2, a3, a4, a5⟩ => ⟨u, k, (hl u a2 a3 k a4).mpr a1, a2, a3, a4, a5⟩⟩)
theorem EB.reached {k : Nat} (hn : nS rd b ≤ 6) (hk : k < 64) (h : EB rd b S d (LL k) f) : f k = true ↔ Rch (gl rd b) (cnR rd b S d) d k := by
  rw [h k hk, Rch_iff]
  refine or_congr Iff.rfl ⟨fun ⟨u, j, a1, a2, a3, a4, a5⟩ => ⟨u, j, a2, a3, a4, a5⟩, fun ⟨u, j, a2, a3, a4, a5⟩ => ⟨u, j, ?_, a2, a3, a4, a5⟩⟩
  have o := cnR_ok hn u j a4
  have hlt : u < k := by
    rw [← a5]
    by_cases q : u < 64
    · exact (nx_b u q j o.1 o.2).1
    · have : u ≤ nx u j := Nat.left_le_or
      omega
  unfold LL
  rw [if_pos hlt]; exact o.1
theorem EB.add {u i : Nat} (h : EB rd b S d (LJ u i) f) (hr : Rch (gl rd b) (cnR rd b S d) d u) (hg : gl rd b u = false) (hcn : cnR rd b S d u i = true) : EB rd b S d (LJ u (i + 1)) (fun t => f t || decide (t = nx u i)) := by
  intro t ht
  show (f t || decide (t = nx u i)) = true ↔ _
  rw [Bool.or_eq_true, h t ht, decide_eq_true_eq]
  constructor
  · rintro ((e | ⟨w, k, a1, a2⟩) | e)
    · exact Or.inl e
    · refine Or.inr ⟨w, k, ?_, a2⟩
      unfold LJ at a1 ⊢
      split at a1
      · rw [if_pos (by assumption)]; exact a1
      · split at a1
        · rw [if_neg (by assumption), if_pos (by assumption)]; omega
        · omega
    · refine Or.inr ⟨u, i, ?_, hr, hg, hcn, e.symm⟩
      unfold LJ
      rw [if_neg (by omega), if_pos rfl]; omega
  · rintro (e | ⟨w, k, a1, a2, a3, a4, a5⟩)
    · exact Or.inl (Or.inl e)
    · unfold LJ at a1
      by_cases q1 : w < u
      · refine Or.inl (Or.inr ⟨w, k, ?_, a2, a3, a4, a5⟩)
        rw [if_pos q1] at a1
        unfold LJ
        rw [if_pos q1]; exact a1
      · by_cases q2 : w = u
        · subst q2
          rw [if_neg q1, if_pos rfl] at a1
          by_cases q3 : k = i
          · subst q3; exact Or.inr a5.symm
          · refine Or.inl (Or.inr ⟨w, k, ?_, a2, a3, a4, a5⟩)
            unfold LJ
            rw [if_neg q1, if_pos rfl]; omega
        · rw [if_neg q1, if_neg q2] at a1; omega
theorem EB.skip {u i : Nat} (h : EB rd b S d (LJ u i) f) (hcn : cnR rd b S d u i = false) : EB rd b S d (LJ u (i + 1)) f := h.to fun w hw1 hw2 k hkk => by
  unfold LJ
  by_cases e1 : w < u
  · rw [if_pos e1, if_pos e1]
  · by_cases e2 : w = u
    · rw [if_neg e1, if_pos e2, if_neg e1, if_pos e2]
      have : k ≠ i := fun e => by subst e2; subst e; rw [hcn] at hkk; cases hkk
      omega
    · rw [if_neg e1, if_neg e2, if_neg e1, if_neg e2]
theorem EB.full {u : Nat} (h : EB rd b S d (LJ u (nS rd b)) f) (hn : nS rd b ≤ 6) : EB rd b S d (LL (u + 1)) f := h.to fun w hw1 hw2 k hk => by
  have := (cnR_s hk).1
  unfold LJ LL
  by_cases e1 : w < u
  · rw [if_pos e1, if_pos (by omega)]
  · by_cases e2 : w = u
    · rw [if_neg e1, if_pos e2, if_pos (by omega)]; omega
    · rw [if_neg e1, if_neg e2, if_neg (by omega)]
theorem EB.start {u : Nat} (h : EB rd b S d (LL u) f) : EB rd b S d (LJ u 0) f := h.to fun w hw1 hw2 k hk => by
  unfold LJ LL
  by_cases e1 : w < u
  · rw [if_pos e1, if_pos e1]
  · rw [if_neg e1, if_neg e1]
    split <;> exact Iff.rfl
theorem EB.no {u : Nat} (h : EB rd b S d (LL u) f) (hno : ¬ (Rch (gl rd b) (cnR rd b S d) d u ∧ gl rd b u = false)) : EB rd b S d (LL (u + 1)) f := h.to fun w hw1 hw2 k hk => by
  have : w ≠ u := fun e => by subst e; exact hno ⟨hw1, hw2⟩
  unfold LL
  by_cases q : w < u
  · rw [if_pos q, if_pos (by omega)]
  · rw [if_neg q, if_neg (by omega)]
end
section
variable {τ : St} {rd : Nat → Int32}
end
section
variable {σ τ : St} {rd : Nat → Int32} {B : Nat}
end
