/-! A SUCCESS -/
def sucD (rd : Nat → Int32) (q s : Nat) : Nat → Int32 := up (gvR (tkR rd (cP q s)) (cP q s)) (cP q s + 3) 1
def sucE (rd : Nat → Int32) (q : Nat) : Nat → Int32 := up (up rd (53 + 186 * q + 1) (nI 1)) (5 + Nn (rd (53 + 186 * q + 2))) (rd (5 + Nn (rd (53 + 186 * q + 2))) + rd (53 + 186 * q + 3))
def sucH (rd : Nat → Int32) (q s : Nat) : Bool := gl (sucD rd q s) (53 + 186 * q) (dnM (sucD rd q s) (53 + 186 * q))
def suc (rd : Nat → Int32) (q s : Nat) : Nat → Int32 := if sucH rd q s then sucE (sucD rd q s) q else sucD rd q s
theorem tkR_out (rd : Nat → Int32) (c : Nat) {k : Nat} (h : k < 5 ∨ 13 ≤ k) : tkR rd c k = rd k := pk_out _ _ (by omega)
theorem gvR_out (rd : Nat → Int32) (c : Nat) {k : Nat} (h : k < 5 ∨ 13 ≤ k) : gvR rd c k = rd k := pk_out _ _ (by omega)
theorem sucD_out (rd : Nat → Int32) {q s k : Nat} (h : k < 5 ∨ 13 ≤ k) (h2 : k ≠ cP q s + 3) : sucD rd q s k = rd k := by
  unfold sucD
  rw [up_ne _ _ h2, gvR_out _ _ h, tkR_out _ _ h]
/-- a step's uses are there -/
def hasU (rd : Nat → Int32) (b s : Nat) : Prop := ∀ i, i < 8 → cU rd b s i ≤ Nn (rd (5 + i))
theorem tkR_s {B : Nat} {rd : Nat → Int32} {q s : Nat} (v : VR B rd) (hB : B ≤ 50000000) (hq : q < Nn (rd 0)) (hs : s < nS rd (53 + 186 * q)) (hu : hasU rd (53 + 186 * q) s) : ∀ i, i < 8 → Is (tkR rd (cP q s) (5 + i)) B := fun i hi => by
  obtain ⟨a, e1, e2, e3⟩ := (v.2.2.2.2.1 i hi).get
  obtain ⟨x, f1, f2, f3⟩ := ((((v.2.2.2.2.2.2.1 q hq).1.s hs).2.2.2.2.2.2) i (by omega)).get
  have hui := hu i hi
  have : x ≤ a := by
    unfold cU at hui
    rw [e3] at hui
    rw [← f3]
    exact hui
  unfold tkR
  rw [pkI_in _ _ hi]
  unfold tkf cP
  rw [e1, f1, pk_sub this]
  exact Is.of (by omega) (by omega)
theorem gvR_s {B : Nat} {rd : Nat → Int32} {q s : Nat} (hB : B ≤ 50000000) (h : ∀ i, i < 8 → Is (rd (5 + i)) B) (hg : ∀ i, i < 8 → Is (rd (cP q s + 22 + i)) 99) : ∀ i, i < 8 → Is (gvR rd (cP q s) (5 + i)) (B + 99) := fun i hi => by
  obtain ⟨a, e1, e2, e3⟩ := (h i hi).get
  obtain ⟨x, f1, f2, f3⟩ := (hg i hi).get
  unfold gvR
  rw [pkI_in _ _ hi]
  unfold gvf
  rw [e1, f1, nI_add]
  exact Is.of (by omega) (by omega)
/-- a step done: the quest -/
theorem VQ.upD {rd : Nat → Int32} {q s : Nat} (V : VQ rd (53 + 186 * q)) (hq : q < 6) (hs : s < nS rd (53 + 186 * q)) : VQ (up rd (cP q s + 3) 1) (53 + 186 * q) ∧ (∀ u, gl (up rd (cP q s + 3) 1) (53 + 186 * q) u = gl rd (53 + 186 * q) u) ∧ dnM (up rd (cP q s + 3) 1) (53 + 186 * q) = dnM rd (53 + 186 * q) ||| 1 <<< s := by
  have hn := V.n
  have hv : VS (up rd (cP q s + 3) 1) (53 + 186 * q + 6 + 30 * s) s := by
    obtain ⟨a1, a2, a3, a4, a5, a6, a7⟩ := V.s hs
    unfold VS
    have ne : ∀ j, j ≠ 3 → j < 30 → up rd (cP q s + 3) 1 (53 + 186 * q + 6 + 30 * s + j) = rd (53 + 186 * q + 6 + 30 * s + j) := fun j hj hj2 => up_ne _ _ (by unfold cP; omega)
    rw [show up rd (cP q s + 3) 1 (53 + 186 * q + 6 + 30 * s) = _ from ne 0 (by omega) (by omega), ne 1 (by omega) (by omega), ne 2 (by omega) (by omega), show up rd (cP q s + 3) 1 (53 + 186 * q + 6 + 30 * s + 3) = 1 from up_at _ _ _, ne 4 (by omega) (by omega), ne 5 (by omega) (by omega)]
    exact ⟨a1, a2, a3, Is.of (n := 1) (by omega) (by omega), a5, a6, fun i hi => by rw [show 53 + 186 * q + 6 + 30 * s + 6 + i = 53 + 186 * q + 6 + 30 * s + (6 + i) by omega, ne (6 + i) (by omega) (by omega), show 53 + 186 * q + 6 + 30 * s + (6 + i) = 53 + 186 * q + 6 + 30 * s + 6 + i by omega]; exact a7 i hi⟩
  obtain ⟨v1, v2⟩ := V.upS (x := 3) (v := 1) hq hs (by omega) hv
  refine ⟨v1, v2, ?_⟩
  unfold dnM
  rw [up_ne _ _ (show 53 + 186 * q ≠ cP q s + 3 by unfold cP; omega), msk_add (show s < Nn (rd (53 + 186 * q)) from hs)]
  refine msk_congr _ fun k hk => ?_
  by_cases e : k = s
  · subst e
    rw [show up rd (cP q k + 3) 1 (53 + 186 * q + 6 + 30 * k + 3) = 1 from up_at _ _ _]; simp
  · rw [up_ne _ _ (show 53 + 186 * q + 6 + 30 * k + 3 ≠ cP q s + 3 by unfold cP; omega)]; simp [e]
theorem RQ.upD {σ : St} {a : Nat} {rd : Nat → Int32} {q s : Nat} (V : VQ rd (53 + 186 * q)) (hq : q < 6) (hs : s < nS rd (53 + 186 * q)) (h : RQ σ a rd (53 + 186 * q)) : RQ (sI σ a 2 (nI (dnM rd (53 + 186 * q) ||| 1 <<< s))) a (up rd (cP q s + 3) 1) (53 + 186 * q) := by
  have hn := V.n
  obtain ⟨_, g2, g3⟩ := V.upD hq hs
  obtain ⟨q0, q1, q2, q3, q4, q5, q6⟩ := h
  have ne : ∀ j, j ≠ cP q s + 3 → up rd (cP q s + 3) 1 j = rd j := fun j hj => up_ne _ _ hj
  have hc : cP q s = 53 + 186 * q + 6 + 30 * s := rfl
  refine ⟨by rw [gI_ns _ _ _ (by decide), ne _ (by omega)]; exact q0, by rw [gI_ns _ _ _ (by decide), ne _ (by omega)]; exact q1, by rw [gI_at, g3], by rw [gI_ns _ _ _ (by decide), ne _ (by omega)]; exact q3, by rw [gI_ns _ _ _ (by decide), ne _ (by omega)]; exact q4, fun u hu => by rw [gL_sI, g2]; exact q5 u hu, fun t ht => ?_⟩
  rw [ne _ (show 53 + 186 * q ≠ _ by omega)] at ht
  have ht' : t < nS rd (53 + 186 * q) := ht
  obtain ⟨r1, r2, r3, r4, r5, r6⟩ := q6 t ht
  have gn : ∀ j, j ≠ 0 → gI (sI σ a 2 (nI (dnM rd (53 + 186 * q) ||| 1 <<< s))) (a + j) = gI σ (a + j) := fun j hj => gI_nf _ _ _ (by omega)
  refine ⟨by rw [gn 1 (by omega), ne _ (by omega)]; exact r1, by rw [gn 2 (by omega), ne _ (by omega)]; exact r2, by rw [gn 3 (by omega), ne _ (by omega)]; exact r3, by rw [gn 4 (by omega), ne _ (by omega)]; exact r4, by rw [gn 5 (by omega), ne _ (by omega)]; exact r5, fun i hi => ?_⟩
  obtain ⟨t1, t2, t3⟩ := r6 i hi
  exact ⟨by rw [gn 6 (by omega), ne _ (by omega)]; exact t1, by rw [gn 7 (by omega), ne _ (by omega)]; exact t2, by rw [gn 8 (by omega), ne _ (by omega)]; exact t3⟩
/-- status, at any place -/
theorem RQ.upA {σ : St} {a : Nat} {rd : Nat → Int32} {q v : Nat} (V : VQ rd (53 + 186 * q)) (hq : q < 6) (hv : v ≤ 2) (h : RQ σ a rd (53 + 186 * q)) : RQ (sI σ a 1 (nI v)) a (up rd (53 + 186 * q + 1) (nI v)) (53 + 186 * q) := by
  have hn := V.n
  obtain ⟨_, g2, g3⟩ := V.upT hq hv
  obtain ⟨q0, q1, q2, q3, q4, q5, q6⟩ := h
  have ne : ∀ j, j ≠ 53 + 186 * q + 1 → up rd (53 + 186 * q + 1) (nI v) j = rd j := fun j hj => up_ne _ _ hj
  refine ⟨by rw [gI_ns _ _ _ (by decide), ne _ (show 53 + 186 * q ≠ _ by omega)]; exact q0, by rw [gI_at, up_at], by rw [gI_ns _ _ _ (by decide), g3]; exact q2, by rw [gI_ns _ _ _ (by decide), ne _ (show 53 + 186 * q + 2 ≠ _ by omega)]; exact q3, by rw [gI_ns _ _ _ (by decide), ne _ (show 53 + 186 * q + 3 ≠ _ by omega)]; exact q4, fun u hu => by rw [gL_sI, g2]; exact q5 u hu, fun t ht => ?_⟩
  rw [ne _ (show 53 + 186 * q ≠ _ by omega)] at ht
  obtain ⟨r1, r2, r3, r4, r5, r6⟩ := q6 t ht
  have gn : ∀ j, j ≠ 0 → gI (sI σ a 1 (nI v)) (a + j) = gI σ (a + j) := fun j hj => gI_nf _ _ _ (by omega)
  refine ⟨by rw [gn 1 (by omega), ne _ (by omega)]; exact r1, by rw [gn 2 (by omega), ne _ (by omega)]; exact r2, by rw [gn 3 (by omega), ne _ (by omega)]; exact r3, by rw [gn 4 (by omega), ne _ (by omega)]; exact r4, by rw [gn 5 (by omega), ne _ (by omega)]; exact r5, fun i hi => ?_⟩
  obtain ⟨t1, t2, t3⟩ := r6 i hi
  exact ⟨by rw [gn 6 (by omega), ne _ (by omega)]; exact t1, by rw [gn 7 (by omega), ne _ (by omega)]; exact t2, by rw [gn 8 (by omega), ne _ (by omega)]; exact t3⟩
/-- the row but for VO of the quest that is tried -/
def VX (B q : Nat) (rd : Nat → Int32) : Prop := Is (rd 0) 6 ∧ Is (rd 2) 40 ∧ Is (rd 3) 800 ∧ Is (rd 4) 800 ∧ (∀ i, i < 8 → Is (rd (5 + i)) B) ∧ (∀ k, k < Nn (rd 2) → Is (rd (13 + k)) 99) ∧ (∀ j, j < Nn (rd 0) → VQ rd (53 + 186 * j) ∧ (j ≠ q → VO rd (53 + 186 * j))) ∧ VWo rd
theorem VR.x {B q : Nat} {rd : Nat → Int32} (h : VR B rd) : VX B q rd := ⟨h.1, h.2.1, h.2.2.1, h.2.2.2.1, h.2.2.2.2.1, h.2.2.2.2.2.1, fun j hj => ⟨(h.2.2.2.2.2.2.1 j hj).1, fun _ => (h.2.2.2.2.2.2.1 j hj).2⟩, h.2.2.2.2.2.2.2⟩
theorem VX.r {B q : Nat} {rd : Nat → Int32} (h : VX B q rd) (o : VO rd (53 + 186 * q)) : VR B rd := ⟨h.1, h.2.1, h.2.2.1, h.2.2.2.1, h.2.2.2.2.1, h.2.2.2.2.2.1, fun j hj => ⟨(h.2.2.2.2.2.2.1 j hj).1, by
  by_cases c : j = q
  · subst c; exact o
  · exact (h.2.2.2.2.2.2.1 j hj).2 c⟩, h.2.2.2.2.2.2.2⟩
/-- stocks and one quest change -/
theorem VX.to {B B' q : Nat} {rd rd' : Nat → Int32} (h : VX B q rd) (hq : q < 6) (he : ∀ k, (k < 5 ∨ 13 ≤ k) → (k < 53 + 186 * q ∨ 53 + 186 * q + 186 ≤ k) → rd' k = rd k) (hs : ∀ i, i < 8 → Is (rd' (5 + i)) B') (hv : VQ rd' (53 + 186 * q)) : VX B' q rd' := by
  have n0 := h.1.2
  have n2 := h.2.1.2
  unfold VX
  rw [he 0 (by omega) (by omega), he 2 (by omega) (by omega), he 3 (by omega) (by omega), he 4 (by omega) (by omega)]
  refine ⟨h.1, h.2.1, h.2.2.1, h.2.2.2.1, hs, fun k hk => by rw [he _ (by omega) (by omega)]; exact h.2.2.2.2.2.1 k hk, fun j hj => ?_, h.2.2.2.2.2.2.2.cong (he 3 (by omega) (by omega)) h.2.2.1.2 (fun k a1 a2 => he k (by omega) (by omega))⟩
  by_cases c : j = q
  · subst c; exact ⟨hv, fun e => absurd rfl e⟩
  · obtain ⟨w, o⟩ := h.2.2.2.2.2.2.1 j hj
    have e : ∀ k, 53 + 186 * j ≤ k → k < 53 + 186 * j + 186 → rd' k = rd k := fun k a1 a2 => he k (by omega) (by omega)
    have g : ∀ k, 2769 ≤ k → k < 4370 → rd' k = rd k := fun k a1 a2 => he k (by omega) (by omega)
    exact ⟨w.cong e g, fun _ => (o c).cong w e g⟩
theorem RLd.sv {σ σ' : St} {B p q : Nat} {rd rd' : Nat → Int32} (v : VX B q rd) (hq0 : q < 6) (h : RLd σ p rd) (u : Un (fun i => i = p + 1 ∨ inR (p + 5 + 9 * q) 9 i) σ σ') (he : ∀ k, (k < 5 ∨ 13 ≤ k) → (k < 53 + 186 * q ∨ 53 + 186 * q + 186 ≤ k) → rd' k = rd k) (hs : ∀ i, i < 8 → gI σ' (p + 1) i = rd' (5 + i)) (hq : RQ σ' (p + 5 + 9 * q) rd' (53 + 186 * q)) : RLd σ' p rd' := by
  obtain ⟨a0, a1, a2, a3, a4, a5, a6⟩ := h
  have n0 := v.1.2
  have n2 := v.2.1.2
  have eI : ∀ j, j < 5 → j ≠ 1 → gI σ' (p + j) = gI σ (p + j) := fun j hj h1 => u.I (fun q => q.elim (fun q => by omega) (fun q => by have := q.1; omega))
  have e0 : gI σ' p = gI σ p := eI 0 (by omega) (by omega)
  refine ⟨by rw [e0, he 0 (by omega) (by omega)]; exact a0, by rw [e0, he 2 (by omega) (by omega)]; exact a1, by rw [e0, he 1 (by omega) (by omega)]; exact a2, hs, ?_, ?_, ?_⟩
  · rw [he 2 (by omega) (by omega)]
    intro k hk
    rw [eI 2 (by omega) (by omega), he _ (by omega) (by omega)]
    exact a4 k hk
  · rw [he 0 (by omega) (by omega)]
    intro j hj
    by_cases c : j = q
    · subst c; exact hq
    · exact ((a5 j hj).un u fun i b1 b2 b3 => b3.elim (fun b3 => by omega) (fun b3 => by have := b3.1; have := b3.2; omega)).cg (v.2.2.2.2.2.2.1 j hj).1 (fun k a1 a2 => he k (by omega) (by omega)) (fun k a1 a2 => he k (by omega) (by omega))
  · have : RWo σ' p rd := by
      unfold RWo at *
      rw [e0, eI 4 (by omega) (by omega)]
      exact a6
    exact this.cg (he 3 (by omega) (by omega)) (he 0 (by omega) (by omega)) v.2.2.1.2 (fun k a1 a2 => he k (by omega) (by omega))
theorem sucD_V {B q s : Nat} {rd : Nat → Int32} (v : VR B rd) (hB : B + 198 ≤ 50000000) (hq : q < Nn (rd 0)) (hs : s < nS rd (53 + 186 * q)) (hu : hasU rd (53 + 186 * q) s) : VX (B + 99) q (sucD rd q s) ∧ dnM (sucD rd q s) (53 + 186 * q) = dnM rd (53 + 186 * q) ||| 1 <<< s ∧ VQ (gvR (tkR rd (cP q s)) (cP q s)) (53 + 186 * q) ∧ dnM (gvR (tkR rd (cP q s)) (cP q s)) (53 + 186 * q) = dnM rd (53 + 186 * q) := by
  have n0 := v.n0
  have V := (v.2.2.2.2.2.2.1 q hq).1
  have hn := V.n
  have hc : cP q s = 53 + 186 * q + 6 + 30 * s := rfl
  have eg : ∀ k, 13 ≤ k → gvR (tkR rd (cP q s)) (cP q s) k = rd k := fun k hk => by rw [gvR_out _ _ (by omega), tkR_out _ _ (by omega)]
  have V2 : VQ (gvR (tkR rd (cP q s)) (cP q s)) (53 + 186 * q) := V.cong (fun k a1 a2 => eg k (by omega)) (fun k a1 a2 => eg k (by omega))
  have d2 : dnM (gvR (tkR rd (cP q s)) (cP q s)) (53 + 186 * q) = dnM rd (53 + 186 * q) := dnM_cong hn.1 (fun k a1 a2 => eg k (by omega))
  have e2 : nS (gvR (tkR rd (cP q s)) (cP q s)) (53 + 186 * q) = nS rd (53 + 186 * q) := by unfold nS; rw [eg _ (by omega)]
  obtain ⟨w1, w2, w3⟩ := V2.upD (by omega) (show s < nS (gvR (tkR rd (cP q s)) (cP q s)) (53 + 186 * q) by rw [e2]; exact hs)
  have st := gvR_s (q := q) (s := s) (by omega) (tkR_s v (by omega) hq hs hu) (fun i hi => by
    rw [tkR_out _ _ (by omega)]
    have := (V.s hs).2.2.2.2.2.2 (16 + i) (by omega)
    rw [show 53 + 186 * q + 6 + 30 * s + 6 + (16 + i) = cP q s + 22 + i by omega] at this
    exact this)
  refine ⟨v.x.to (by omega) (fun k h1 h2 => sucD_out _ h1 (by omega)) (fun i hi => ?_) w1, by rw [← d2]; exact w3, V2, d2⟩
  rw [show sucD rd q s (5 + i) = gvR (tkR rd (cP q s)) (cP q s) (5 + i) from up_ne _ _ (by omega)]
  exact st i hi
theorem sucE_V {B q : Nat} {rd : Nat → Int32} (v : VX B q rd) (hB : B + 99 ≤ 50000000) (hq : q < Nn (rd 0)) : VR (B + 99) (sucE rd q) := by
  have n0 := v.1.2
  have V := (v.2.2.2.2.2.2.1 q hq).1
  have hn := V.n
  obtain ⟨it, e1, e2, e3⟩ := V.2.2.1.get
  obtain ⟨am, f1, f2, f3⟩ := V.2.2.2.1.get
  obtain ⟨w1, w2, w3⟩ := V.upT (v := 1) (by omega) (by omega)
  have out : ∀ k, k ≠ 53 + 186 * q + 1 → k ≠ 5 + it → sucE rd q k = rd k := fun k h1 h2 => by
    unfold sucE
    rw [e3, up_ne _ _ h2, up_ne _ _ h1]
  have V3 : VQ (sucE rd q) (53 + 186 * q) := w1.cong (fun k a1 a2 => by unfold sucE; rw [e3, up_ne _ _ (by omega)]) (fun k a1 a2 => by unfold sucE; rw [e3, up_ne _ _ (by omega)])
  refine (v.to (B' := B + 99) (by omega) (fun k h1 h2 => out k (by omega) (by omega)) (fun i hi => ?_) V3).r (fun e => ?_)
  · by_cases c : i = it
    · subst c
      obtain ⟨a, g1, g2, g3⟩ := (v.2.2.2.2.1 i hi).get
      unfold sucE
      rw [e3, up_at, g1, f1, nI_add]
      exact Is.of (by omega) (by omega)
    · rw [out _ (by omega) (by omega)]
      exact (v.2.2.2.2.1 i hi).mono (by omega)
  · have : sucE rd q (53 + 186 * q + 1) = nI 1 := by
      unfold sucE
      rw [e3, up_ne _ _ (by omega), up_at]
    rw [this] at e
    exact absurd e (by decide)
theorem suc_V {B q s : Nat} {rd : Nat → Int32} (v : VR B rd) (hB : B + 198 ≤ 50000000) (hq : q < Nn (rd 0)) (hs : s < nS rd (53 + 186 * q)) (hu : hasU rd (53 + 186 * q) s) : VR (B + 198) (suc rd q s) ∧ (sucH rd q s = false → VR (B + 99) (suc rd q s)) := by
  have n0 := v.n0
  obtain ⟨w1, w2, w3⟩ := sucD_V v hB hq hs hu
  have e0 : sucD rd q s 0 = rd 0 := sucD_out _ (by omega) (by unfold cP; omega)
  have key : sucH rd q s = false → VR (B + 99) (sucD rd q s) := fun e => w1.r (fun _ => e)
  unfold suc
  cases h : sucH rd q s with
  | true => exact ⟨sucE_V w1 (by omega) (by rw [e0]; exact hq), fun e => absurd e (by decide)⟩
  | false => exact ⟨(key h).mono (by omega), fun _ => key h⟩
/-- the class succeeds -/
theorem sucC {σ : St} {p B q s : Nat} {rd : Nat → Int32} (kp : kd p = 2) (v : VR B rd) (hB : B + 198 ≤ 50000000) (hq : q < Nn (rd 0)) (ka : kd (p + 5 + 9 * q) = 3) (hs : s < nS rd (53 + 186 * q)) (hu : hasU rd (53 + 186 * q) s) (h : RLd σ p rd) : ∃ σ', pf_X2_succeed p (p + 5 + 9 * q) (nI s) σ = some σ' ∧ Un (fun i => i = p + 1 ∨ inR (p + 5 + 9 * q) 9 i) σ σ' ∧ RLd σ' p (suc rd q s) := by
  have n0 := v.n0
  have V := (v.2.2.2.2.2.2.1 q hq).1
  have hn := V.n
  have hc : cP q s = 53 + 186 * q + 6 + 30 * s := rfl
  obtain ⟨x1, x2, V2, x4⟩ := sucD_V v hB hq hs hu
  have R := h.2.2.2.2.2.1 q hq
  have hst := h.2.2.2.1
  generalize ha : p + 5 + 9 * q = a at *
  have hpa : ∀ j, a + j ≠ p + 1 := fun j => by omega
  obtain ⟨σ1, g1, g2, g3⟩ := chC (σ := σ) (-1) kp (af_X3_uses ka) (show s < 6 by omega) (hpa 6)
  obtain ⟨σ2, k1, k2, k3⟩ := chC (σ := σ1) 1 kp (af_X3_gives ka) (show s < 6 by omega) (hpa 8)
  have R2 : RQ σ2 a rd (53 + 186 * q) := (R.un g2 fun i b1 b2 b3 => by omega).un k2 fun i b1 b2 b3 => by omega
  have eg : ∀ k, 13 ≤ k → gvR (tkR rd (cP q s)) (cP q s) k = rd k := fun k hk => by rw [gvR_out _ _ (by omega), tkR_out _ _ (by omega)]
  have R2' : RQ σ2 a (gvR (tkR rd (cP q s)) (cP q s)) (53 + 186 * q) := R2.cg V (fun k a1 a2 => eg k (by omega)) (fun k a1 a2 => eg k (by omega))
  have e2 : nS (gvR (tkR rd (cP q s)) (cP q s)) (53 + 186 * q) = nS rd (53 + 186 * q) := by unfold nS; rw [eg _ (by omega)]
  have R3 := R2'.upD V2 (by omega) (show s < nS (gvR (tkR rd (cP q s)) (cP q s)) (53 + 186 * q) by rw [e2]; exact hs)
  have st1 : ∀ i, i < 8 → gI σ1 (p + 1) i = tkR rd (cP q s) (5 + i) := fun i hi => by
    rw [g3 i hi, hst i hi, mul_m1, ((R.b hs).2.2.2.2.2 i hi).1]
    unfold tkR
    rw [pkI_in _ _ hi]; rfl
  have st2 : ∀ i, i < 8 → gI σ2 (p + 1) i = gvR (tkR rd (cP q s)) (cP q s) (5 + i) := fun i hi => by
    rw [k3 i hi, st1 i hi, mul_p1, g2.I (hpa 8), ((R.b hs).2.2.2.2.2 i hi).2.2]
    unfold gvR
    rw [pkI_in _ _ hi]
    unfold gvf
    rw [tkR_out _ _ (show cP q s + 22 + i < 5 ∨ 13 ≤ cP q s + 22 + i by omega)]
    rw [show cP q s + 22 + i = 53 + 186 * q + 6 + 30 * s + 22 + i by omega]
  have u3 : Un (fun i => i = p + 1 ∨ inR a 9 i) σ (sI σ2 a 2 (nI (dnM (gvR (tkR rd (cP q s)) (cP q s)) (53 + 186 * q) ||| 1 <<< s))) := (g2.mono fun i hi => Or.inl hi).trans ((k2.mono fun i hi => Or.inl hi).trans (Un.sI _ _ (Or.inr ⟨by omega, by omega⟩)))
  unfold pf_X2_succeed
  rw [g1, bind_some, k1, bind_some, bnd_e, R2'.2.2.1, shl1 s (by omega), or_nI]
  generalize hσ3 : sI σ2 a 2 (nI (dnM (gvR (tkR rd (cP q s)) (cP q s)) (53 + 186 * q) ||| 1 <<< s)) = σ3 at *
  have st3 : ∀ i, i < 8 → gI σ3 (p + 1) i = sucD rd q s (5 + i) := fun i hi => by
    rw [← hσ3, gI_nf _ _ _ (by omega), st2 i hi]
    exact (up_ne _ _ (by omega)).symm
  have R3' : RQ σ3 a (sucD rd q s) (53 + 186 * q) := R3
  have V3 := (x1.2.2.2.2.2.2.1 q (by rw [show sucD rd q s 0 = rd 0 from sucD_out _ (by omega) (by omega)]; exact hq)).1
  have hd := dnM_64 V3
  rw [R3'.2.2.1, goalH R3' hd, bind_some, if_b]
  have L3 : RLd σ3 p (sucD rd q s) := by
    subst ha
    exact RLd.sv v.x (by omega) h u3 (fun k h1 h2 => sucD_out _ h1 (by omega)) st3 R3'
  unfold suc
  cases hg : sucH rd q s with
  | false =>
    rw [show gl (sucD rd q s) (53 + 186 * q) (dnM (sucD rd q s) (53 + 186 * q)) = false from hg, if_neg (by decide)]
    exact ⟨σ3, rfl, u3, L3⟩
  | true =>
    have R5 := R3'.upA (v := 1) V3 (by omega) (by omega)
    obtain ⟨it, e1, e2, e3⟩ := V3.2.2.1.get
    rw [show gl (sucD rd q s) (53 + 186 * q) (dnM (sucD rd q s) (53 + 186 * q)) = true from hg, if_pos rfl, bnd_e, show (1 : Int32) = nI 1 from rfl, gI_ns _ _ _ (by decide), gI_ns _ _ _ (by decide), R3'.2.2.2.1, R3'.2.2.2.2.1, e1, at_ok (af_X2_stock kp) (by omega), bind_some, put_ok (af_X2_stock kp) (by omega), bind_some, gI_nf _ _ _ (by omega), st3 it (by omega)]
    refine ⟨_, rfl, u3.trans ((Un.sI _ _ (Or.inr ⟨by omega, by omega⟩)).trans (Un.sI _ _ (Or.inl rfl))), ?_⟩
    rw [if_pos rfl]
    have RE : RQ (sI (sI σ3 a 1 (nI 1)) (p + 1) it (sucD rd q s (5 + it) + sucD rd q s (53 + 186 * q + 3))) a (sucE (sucD rd q s) q) (53 + 186 * q) := by
      refine (R5.un (Un.sI (M := fun i => i = p + 1) _ _ rfl) fun i b1 b2 b3 => by omega).cg (V3.upT (v := 1) (by omega) (by omega)).1 (fun k a1 a2 => ?_) (fun k a1 a2 => ?_)
      all_goals
        unfold sucE
        rw [e3, up_ne _ _ (by omega)]
    have hst5 : ∀ i, i < 8 → gI (sI (sI σ3 a 1 (nI 1)) (p + 1) it (sucD rd q s (5 + it) + sucD rd q s (53 + 186 * q + 3))) (p + 1) i = sucE (sucD rd q s) q (5 + i) := fun i hi => by
      unfold sucE
      rw [e3]
      by_cases c : i = it
      · subst c; rw [gI_at, up_at]
      · rw [gI_ns _ _ _ c, gI_nf _ _ _ (by omega), st3 i hi, up_ne _ _ (by omega), up_ne _ _ (by omega)]
    subst ha
    refine RLd.sv x1 (by omega) L3 ((Un.sI _ _ (Or.inr ⟨by omega, by omega⟩)).trans (Un.sI _ _ (Or.inl rfl))) (fun k h1 h2 => ?_) hst5 RE
    unfold sucE
    rw [e3, up_ne _ _ (by omega), up_ne _ _ (by omega)]
