/-! WAYS in the class: what explore lays down -/
theorem if_u {α : Type} {m s : Nat} (hm : m < 2 ^ 31) (hs : s < 32) (A B : α) : (if iushr (nI m) (nI s) &&& 1 = 0 then A else B) = if m.testBit s then B else A := by
  have e := bit_u hm hs
  cases q : m.testBit s with
  | false => rw [if_pos (by rw [e]; exact q)]; rfl
  | true => rw [if_neg (by rw [e, q]; decide)]; rfl
theorem if_g {α : Type} (g : Int64) {u : Nat} (hu : u < 64) (A B : α) : (if lushr g (nI u) &&& 1 = 0 then A else B) = if gbit g u then B else A := by
  have e := lushr_bit g hu
  cases q : gbit g u with
  | false => rw [if_pos (by rw [e]; exact q)]; rfl
  | true => rw [if_neg (by rw [e, q]; decide)]; rfl
theorem if_0 {α : Type} {n : Nat} (hn : n < 2 ^ 31) (A B : α) : (if nI n = 0 then A else B) = if n = 0 then A else B := by
  have e : (nI n = 0) = (n = 0) := by rw [show (0 : Int32) = nI 0 from rfl, nI_eq hn (by omega)]
  by_cases q : n = 0
  · rw [if_pos (by rw [e]; exact q), if_pos q]
  · rw [if_neg (by rw [e]; exact q), if_neg q]
theorem RQ.b {σ : St} {a : Nat} {rd : Nat → Int32} {b s : Nat} (h : RQ σ a rd b) (hs : s < nS rd b) : RS σ a rd (b + 6 + 30 * s) s := h.2.2.2.2.2.2 s hs
theorem goalH {σ : St} {a : Nat} {rd : Nat → Int32} {b u : Nat} (h : RQ σ a rd b) (hu : u < 64) : pf_X3_goalHolds a (nI u) σ = some (if gl rd b u then 1 else 0) := by
  unfold pf_X3_goalHolds
  have e := h.2.2.2.2.2.1 u hu
  rw [if_g _ hu, e]
  cases gl rd b u <;> rfl
theorem brokH {σ : St} {a : Nat} {rd : Nat → Int32} {b s : Nat} (ka : kd a = 3) (v : VQ rd b) (h : RQ σ a rd b) (hs : s < nS rd b) : pf_X3_isBroken a (nI s) σ = some (if cB rd b s then 1 else 0) := by
  have hn := v.n
  unfold pf_X3_isBroken
  rw [at_ok (af_X3_fails ka) (by omega), bind_some, at_ok (af_X3_limit ka) (by omega), bind_some, (h.b hs).2.2.1, (h.b hs).2.1]
  obtain ⟨-, ⟨l1, l2⟩, ⟨f1, f2⟩, -⟩ := v.s hs
  have b1 := l1.2
  have b2 := f1.2
  rw [f1.1, l1.1]
  unfold cB
  by_cases e : Nn (rd (b + 6 + 30 * s + 2)) = Nn (rd (b + 6 + 30 * s + 1))
  · rw [e, if_neg (nI_nlt (Nat.le_refl _) (by omega))]; simp
  · rw [if_pos (nI_lt (by omega) (by omega))]; simp [e]
theorem max7 (a b : Nat) (ha : a < 2 ^ 31) (hb : b < 2 ^ 31) (σ : St) : pf_J9_max_7cf53 (nI a) (nI b) σ = some (nI (max a b)) := by
  unfold pf_J9_max_7cf53
  by_cases h : a < b
  · rw [if_pos (nI_lt h hb)]; congr 2; omega
  · rw [if_neg (nI_nlt (by omega) ha)]; congr 2; omega
theorem min7 (a b : Nat) (ha : a < 2 ^ 31) (hb : b < 2 ^ 31) (σ : St) : pf_J9_min_7cf53 (nI a) (nI b) σ = some (nI (min a b)) := by
  unfold pf_J9_min_7cf53
  by_cases h : b < a
  · rw [if_pos (nI_lt h ha)]; congr 2; omega
  · rw [if_neg (nI_nlt (by omega) hb)]; congr 2; omega
/-- stocks that fit -/
def SB (Z : Nat → Int) : Prop := ∀ i, i < 8 → -100000000 ≤ Z i ∧ Z i ≤ 100000000
theorem hindL {σ : St} {a : Nat} {rd : Nat → Int32} {b s sp fr N : Nat} {Z : Nat → Int} (ka : kd a = 3) (v : VQ rd b) (h : RQ σ a rd b) (hs : s < nS rd b) (esp : alen sp = N) (hfr : fr + 8 ≤ N) (hst : ∀ i, i < 8 → gI σ sp (fr + i) = iI (Z i)) (hZ : SB Z) : pf_X3_hindranceBehind_L40 σ FU a (nI s) sp (nI fr) 0 = some (if allI rd b Z s then 0 else 5) := by
  have hn := v.n
  have hN := alen_lt sp
  refine up_C (fun n i (_ : Unit) => pf_X3_hindranceBehind_L40 σ n a (nI s) sp (nI fr) (nI i)) 8 (fun i _ => ∀ k, k < i → (cU rd b s k : Int) ≤ Z k ∧ (cN rd b s k : Int) ≤ Z k) (fun r => r = some (if allI rd b Z s then 0 else 5)) ?_ ?_ FU 0 () (Nat.zero_le _) (fun k hk => absurd hk (Nat.not_lt_zero _)) (lt_FU (by omega))
  · intro n _ h1
    show pf_X3_hindranceBehind_L40 σ (n + 1) a (nI s) sp (nI fr) (nI 8) = _
    rw [pf_X3_hindranceBehind_L40, show (8 : Int32) = nI 8 from rfl, if_pos (nI_le (Nat.le_refl _) (by omega)), if_pos (allI_iff.mpr h1)]
  · intro n i _ hi h1
    show pf_X3_hindranceBehind_L40 σ (n + 1) a (nI s) sp (nI fr) (nI i) = _ ∨ ∃ s' : Unit, pf_X3_hindranceBehind_L40 σ (n + 1) a (nI s) sp (nI fr) (nI i) = pf_X3_hindranceBehind_L40 σ n a (nI s) sp (nI fr) (nI (i + 1)) ∧ _
    have r6 := (h.b hs).2.2.2.2.2 i hi
    have cu := v.cU hs hi
    have cn := v.cN hs hi
    have b1 : cU rd b s i ≤ 99 := cu.2
    have b2 : cN rd b s i ≤ 99 := cn.2
    have z := hZ i hi
    rw [pf_X3_hindranceBehind_L40, show (8 : Int32) = nI 8 from rfl, if_neg (nI_ge hi (by omega)), bnd_e, pk_mul, nI_add, nI_add, at_ok esp (by omega), bind_some, at_ok (af_X3_uses ka) (by omega), bind_some, at_ok (af_X3_needs ka) (by omega), bind_some, r6.1, r6.2.1, cu.1, cn.1, max7 _ _ (by omega) (by omega), bind_some, hst i hi, ← iI_nat (max (cU rd b s i) (cN rd b s i)), bnd_e, nI_1]
    by_cases hc : ((max (cU rd b s i) (cN rd b s i) : Nat) : Int) ≤ Z i
    · refine Or.inr ⟨(), ?_, fun k hk => ?_⟩
      · rw [if_pos (by rw [iI_le (by omega) (by omega) (by omega) (by omega)]; exact hc)]
      · by_cases e : k = i
        · subst e; omega
        · exact h1 k (by omega)
    · left
      rw [if_neg (by rw [iI_le (by omega) (by omega) (by omega) (by omega)]; exact hc), if_neg]
      · intro q
        have := (allI_iff.mp q) i hi
        omega
theorem hindB {σ : St} {a : Nat} {rd : Nat → Int32} {b u s sp fr N : Nat} {Z : Nat → Int} (ka : kd a = 3) (v : VQ rd b) (h : RQ σ a rd b) (hu : u < 64) (hs : s < nS rd b) (esp : alen sp = N) (hfr : fr + 8 ≤ N) (hst : ∀ i, i < 8 → gI σ sp (fr + i) = iI (Z i)) (hZ : SB Z) : pf_X3_hindranceBehind a (nI u) (nI s) sp (nI fr) σ = some (nI (hcode rd b Z u s)) := by
  have hn := v.n
  have ca := v.cA hs
  have ca2 : cA rd b s < 64 := ca.2
  unfold pf_X3_hindranceBehind hcode
  rw [if_u (by omega) (by omega), brokH ka v h hs, bind_some, at_ok (af_X3_ahead ka) (by omega), bind_some, (h.b hs).2.2.2.1, ca.1, df_nI _ ca2 _ hu, hindL ka v h hs esp hfr hst hZ, if_0 (by have := df_64 (cA rd b s) u; omega)]
  cases u.testBit s
  · cases cB rd b s
    · by_cases e : df (cA rd b s) u = 0
      · simp only [e]
        cases allI rd b Z s <;> simp [nI_0] <;> rfl
      · simp [e]; rfl
    · simp; rfl
  · simp; rfl
/-! the walk forward -/
/-- what a ways object holds while sets are worked off: L u steps of u have been looked at -/
def WF (rd : Nat → Int32) (b : Nat) (S : Nat → Int) (d : Nat) (L : Nat → Nat) (s : St) : Prop :=
  (∀ t, t < 64 → (gbit (gL s 602 3) t = true ↔ (t = d ∨ ∃ u k, k < L u ∧ Rch (gl rd b) (cnR rd b S d) d u ∧ gl rd b u = false ∧ cnR rd b S d u k = true ∧ nx u k = t))) ∧
  (∀ u, u < 64 → (Rch (gl rd b) (cnR rd b S d) d u ∧ gl rd b u = false → gI s 604 u = nI (msk (L u) (cnR rd b S d u))) ∧ (¬ (Rch (gl rd b) (cnR rd b S d) d u ∧ gl rd b u = false) → gI s 604 u = 0)) ∧
  (∀ t, t < 64 → gbit (gL s 602 3) t = true → ∀ i, i < 8 → gI s 603 (t * 8 + i) = iI (bh rd b S (df t d) i)) ∧
  (∀ u, u < 64 → gI s 605 u = 99)
theorem WF.to {rd : Nat → Int32} {b : Nat} {S : Nat → Int} {d : Nat} {L L' : Nat → Nat} {s : St} (h : WF rd b S d L s) (hl : ∀ u, Rch (gl rd b) (cnR rd b S d) d u → gl rd b u = false → ∀ k, cnR rd b S d u k = true → (k < L u ↔ k < L' u)) : WF rd b S d L' s := by
  obtain ⟨h1, h2, h3, h4⟩ := h
  refine ⟨fun t ht => (h1 t ht).trans ?_, fun u hu => ⟨fun q => ?_, (h2 u hu).2⟩, h3, h4⟩
  · refine or_congr Iff.rfl ⟨fun ⟨u, k, a1, a2, a3, a4, a5⟩ => ⟨u, k, (hl u a2 a3 k a4).mp a1, a2, a3, a4, a5⟩, fun ⟨u, k, a1, a2, a3, a4, a5⟩ => ⟨u, k, (hl u a2 a3 k a4).mpr a1, a2, a3, a4, a5⟩⟩
  · rw [(h2 u hu).1 q]
    congr 1
    apply Nat.eq_of_testBit_eq
    intro k
    rw [msk_bit, msk_bit]
    cases e : cnR rd b S d u k with
    | false => simp
    | true => simp [hl u q.1 q.2 k e]
/-- the sets below k are done -/
def LL (k : Nat) : Nat → Nat := fun u => if u < k then 6 else 0
def LJ (k j : Nat) : Nat → Nat := fun u => if u < k then 6 else if u = k then j else 0
theorem WF.reached {rd : Nat → Int32} {b : Nat} {S : Nat → Int} {d k : Nat} {s : St} (hn : nS rd b ≤ 6) (hk : k < 64) (h : WF rd b S d (LL k) s) : gbit (gL s 602 3) k = true ↔ Rch (gl rd b) (cnR rd b S d) d k := by
  rw [h.1 k hk, Rch_iff]
  refine or_congr Iff.rfl ⟨fun ⟨u, j, a1, a2, a3, a4, a5⟩ => ⟨u, j, a2, a3, a4, a5⟩, fun ⟨u, j, a2, a3, a4, a5⟩ => ⟨u, j, ?_, a2, a3, a4, a5⟩⟩
  have o := cnR_ok hn u j a4
  have hlt : u < k := by
    rw [← a5]
    by_cases q : u < 64
    · exact (nx_b u q j o.1 o.2).1
    · have : u ≤ nx u j := Nat.left_le_or
      omega
  unfold LL
  rw [if_pos hlt]; exact o.1
