/-! LOAD: the ledger that is being read, on both sides -/
theorem kd66 : ∀ q, q < 6 → kd (66 + 9 * q) = 3 := by decide +kernel
theorem VG.cg2 {rd rd' : Nat → Int32} {b n : Nat} (h : VG rd b) (hn : Nn (rd (b + 5)) ≤ n) (h0 : rd' b = rd b) (h4 : rd' (b + 4) = rd (b + 4)) (h5 : rd' (b + 5) = rd (b + 5)) (hg : ∀ k, 2769 ≤ k → k < 2769 + 2 * n → rd' k = rd k) : VG rd' b ∧ ∀ u, gl rd' b u = gl rd b u := by
  obtain ⟨g1, g2, g3, g4, g5, g6⟩ := h
  have ev : ∀ u st, evG rd' u (Nn (rd (b + 5)) - Nn (rd (b + 4))) (Nn (rd (b + 4))) st = evG rd u (Nn (rd (b + 5)) - Nn (rd (b + 4))) (Nn (rd (b + 4))) st := fun u st => evG_congr _ _ _ fun j x1 x2 => hg j (by omega) (by omega)
  have hgl : ∀ u, gl rd' b u = gl rd b u := fun u => by
    unfold gl
    rw [h4, h5, ev]
  refine ⟨?_, hgl⟩
  unfold VG
  rw [h4, h5]
  refine ⟨g1, g2, g3, fun u hu => ?_, fun k h1 h2 => ?_, by rw [hgl]; exact g6.1, fun u hu => by rw [h0, hgl, hgl]; exact g6.2 u hu⟩
  · obtain ⟨v, e⟩ := g4 u hu
    exact ⟨v, by rw [ev]; exact e⟩
  · unfold VGc
    rw [hg (2769 + 2 * k) (by omega) (by omega), hg (2769 + 2 * k + 1) (by omega) (by omega)]
    exact g5 k h1 h2
/-- the worth's code of a text that is being read -/
def RW1 (σ : St) (p : Nat) (rd : Nat → Int32) : Prop := if Nn (rd 3) = 0 then gI σ p 7 = 1 ∧ gI σ (p + 4) 0 = -5 else gI σ p 7 = rd 3 ∧ ∀ k, k < Nn (rd 3) → gI σ (p + 4) k = encW (rd (1169 + 2 * k)) (rd (1169 + 2 * k + 1))
theorem RW1.cg {σ : St} {p : Nat} {rd rd' : Nat → Int32} (h : RW1 σ p rd) (h3 : rd' 3 = rd 3) (hb : Nn (rd 3) ≤ 800) (hw : ∀ k, 1169 ≤ k → k < 2769 → rd' k = rd k) : RW1 σ p rd' := by
  unfold RW1 at *
  rw [h3]
  split at h
  · rename_i c; rw [if_pos c]; exact h
  · rename_i c; rw [if_neg c]
    exact ⟨h.1, fun k hk => by rw [hw _ (by omega) (by omega), hw _ (by omega) (by omega)]; exact h.2 k hk⟩
/-- a quest that is read -/
def LQ (σ : St) (rd : Nat → Int32) (q : Nat) : Prop := RQ σ (66 + 9 * q) rd (53 + 186 * q) ∧ VQ rd (53 + 186 * q) ∧ VO rd (53 + 186 * q) ∧ Nn (rd (53 + 186 * q + 5)) ≤ Nn (rd 4)
theorem LQ.cg {σ σ' : St} {rd rd' : Nat → Int32} {q : Nat} (h : LQ σ rd q) (hu : ∀ i, 66 + 9 * q ≤ i → i < 66 + 9 * q + 9 → gI σ' i = gI σ i ∧ gL σ' i = gL σ i) (he : ∀ k, 53 + 186 * q ≤ k → k < 53 + 186 * q + 186 → rd' k = rd k) (hg : ∀ k, 2769 ≤ k → k < 2769 + 2 * Nn (rd 4) → rd' k = rd k) (h4 : Nn (rd 4) ≤ Nn (rd' 4)) : LQ σ' rd' q := by
  obtain ⟨r, v, o, l⟩ := h
  have hn := v.1.1.2
  obtain ⟨vg, hgl⟩ := v.2.2.2.2.1.cg2 l (he _ (by omega) (by omega)) (he _ (by omega) (by omega)) (he _ (by omega) (by omega)) hg
  refine ⟨(r.rd he hn (fun u _ => hgl u)).cong hu, ?_, ?_, by rw [he _ (by omega) (by omega)]; omega⟩
  · obtain ⟨h1, h2, h3, h4, h5, h6⟩ := v
    unfold VQ
    rw [he (53 + 186 * q) (by omega) (by omega), he (53 + 186 * q + 1) (by omega) (by omega), he (53 + 186 * q + 2) (by omega) (by omega), he (53 + 186 * q + 3) (by omega) (by omega)]
    exact ⟨h1, h2, h3, h4, vg, fun s hs => (h6 s hs).cong fun k a1 a2 => he k (by omega) (by omega)⟩
  · unfold VO
    rw [he (53 + 186 * q + 1) (by omega) (by omega), dnM_cong v.n.1 he, hgl]
    exact o
def LR (σ : St) (rd : Nat → Int32) (q : Nat) : Prop := q ≤ 6 ∧ gI σ 61 5 = nI q ∧ rd 0 = nI q ∧ gI σ 61 2 = 0 ∧ rd 2 = 0 ∧ gI σ 61 3 = rd 1 ∧ (∀ i, i < 8 → gI σ 62 i = rd (5 + i) ∧ Is (rd (5 + i)) 999) ∧ Is (rd 4) 800 ∧ (∀ q', q' < q → LQ σ rd q') ∧ RW1 σ 61 rd ∧ Is (rd 3) 800 ∧ VWo rd ∧ (gI σ 594 5 = 0 → rd 3 = 0)
theorem LR.cg {σ σ' : St} {rd rd' : Nat → Int32} {q : Nat} (h : LR σ rd q) (hu : ∀ i, 61 ≤ i → (i < 66 + 9 * q ∨ i = 594) → gI σ' i = gI σ i ∧ gL σ' i = gL σ i) (he : ∀ j, j ≠ 4 → (j < 53 + 186 * q ∨ (1169 ≤ j ∧ j < 2769 + 2 * Nn (rd 4))) → rd' j = rd j) (h4 : Is (rd' 4) 800) (h44 : Nn (rd 4) ≤ Nn (rd' 4)) : LR σ' rd' q := by
  obtain ⟨a1, a2, a3, a4, a5, a6, a7, a8, a9, a10, a11, a12, a13⟩ := h
  have e61 : gI σ' 61 = gI σ 61 := (hu 61 (by omega) (by omega)).1
  have e62 : gI σ' 62 = gI σ 62 := (hu 62 (by omega) (by omega)).1
  have e65 : gI σ' 65 = gI σ 65 := (hu 65 (by omega) (by omega)).1
  refine ⟨a1, by rw [e61]; exact a2, by rw [he 0 (by omega) (by omega)]; exact a3, by rw [e61]; exact a4, by rw [he 2 (by omega) (by omega)]; exact a5, by rw [e61, he 1 (by omega) (by omega)]; exact a6, fun i hi => by rw [e62, he (5 + i) (by omega) (by omega)]; exact a7 i hi, h4, fun q' hq => (a9 q' hq).cg (fun i x1 x2 => hu i (by omega) (by omega)) (fun k x1 x2 => he k (by omega) (by omega)) (fun k x1 x2 => he k (by omega) (by omega)) h44, ?_, by rw [he 3 (by omega) (by omega)]; exact a11, a12.cong (he 3 (by omega) (by omega)) a11.2 (fun k x1 x2 => he k (by omega) (by omega)), by rw [(hu 594 (by omega) (Or.inr rfl)).1, he 3 (by omega) (by omega)]; exact a13⟩
  have : RW1 σ' 61 rd := by
    unfold RW1 at *
    rw [e61, e65]; exact a10
  exact this.cg (he 3 (by omega) (by omega)) a11.2 (fun k x1 x2 => he k (by omega) (by omega))
/-- what a step holds while its quest is read -/
def PS (σ : St) (rd : Nat → Int32) (a c s : Nat) : Prop := gI σ (a + 3) s = 0 ∧ rd (c + 2) = 0 ∧ rd (c + 3) = 0 ∧ gI σ (a + 4) s = rd (c + 4) ∧ Is (rd (c + 4)) 63 ∧ Nn (rd (c + 4)) < 2 ^ s ∧ gI σ (a + 5) s = rd (c + 5) ∧ Is (rd (c + 5)) 1 ∧ ∀ t, t < 3 → ∀ i, i < 8 → gI σ (a + 6 + t) (s * 8 + i) = rd (c + 6 + 8 * t + i) ∧ Is (rd (c + 6 + 8 * t + i)) 99
def PF (σ : St) (rd : Nat → Int32) (a c s : Nat) : Prop := gI σ (a + 1) s = rd c ∧ gI σ (a + 2) s = rd (c + 1) ∧ Is (rd c) 100 ∧ Is (rd (c + 1)) 9 ∧ 1 ≤ Nn (rd (c + 1))
theorem PS.cg {σ σ' : St} {rd rd' : Nat → Int32} {a c s : Nat} (h : PS σ rd a c s) (hu : ∀ i k, a + 3 ≤ i → i < a + 9 → (i < a + 6 → k = s) → (a + 6 ≤ i → s * 8 ≤ k ∧ k < s * 8 + 8) → gI σ' i k = gI σ i k) (he : ∀ k, c + 2 ≤ k → k < c + 30 → rd' k = rd k) : PS σ' rd' a c s := by
  obtain ⟨h1, h2, h3, h4, h5, h6, h7, h8, h9⟩ := h
  unfold PS
  rw [hu (a + 3) s (by omega) (by omega) (fun _ => rfl) (by omega), hu (a + 4) s (by omega) (by omega) (fun _ => rfl) (by omega), hu (a + 5) s (by omega) (by omega) (fun _ => rfl) (by omega), he (c + 2) (by omega) (by omega), he (c + 3) (by omega) (by omega), he (c + 4) (by omega) (by omega), he (c + 5) (by omega) (by omega)]
  refine ⟨h1, h2, h3, h4, h5, h6, h7, h8, fun t ht i hi => ?_⟩
  rw [hu (a + 6 + t) (s * 8 + i) (by omega) (by omega) (by omega) (by omega), he (c + 6 + 8 * t + i) (by omega) (by omega)]
  exact h9 t ht i hi
theorem PF.cg {σ σ' : St} {rd rd' : Nat → Int32} {a c s : Nat} (h : PF σ rd a c s) (h1 : gI σ' (a + 1) s = gI σ (a + 1) s) (h2 : gI σ' (a + 2) s = gI σ (a + 2) s) (e0 : rd' c = rd c) (e1 : rd' (c + 1) = rd (c + 1)) : PF σ' rd' a c s := by
  unfold PF
  rw [h1, h2, e0, e1]
  exact h
def PQ (σ : St) (rd : Nat → Int32) (a b P : Nat) : Prop := (∀ s, s < 6 → PS σ rd a (b + 6 + 30 * s) s) ∧ ∀ s, s < P → PF σ rd a (b + 6 + 30 * s) s
/-- the head of a quest that is being read -/
def HQ (σ : St) (rd : Nat → Int32) (a b S : Nat) : Prop := gI σ a 0 = nI S ∧ gI σ a 1 = 0 ∧ gI σ a 2 = 0 ∧ rd (b + 1) = 0 ∧ gI σ a 3 = rd (b + 2) ∧ Is (rd (b + 2)) 7 ∧ gI σ a 4 = rd (b + 3) ∧ Is (rd (b + 3)) 99
def QR (σ τ : St) (q S P : Nat) : Prop := q < 6 ∧ S ≤ 6 ∧ LR σ (gI τ 611) q ∧ PQ σ (gI τ 611) (66 + 9 * q) (53 + 186 * q) P ∧ HQ σ (gI τ 611) (66 + 9 * q) (53 + 186 * q) S ∧ gI τ 609 22 = nI S ∧ ∀ j, 53 + 186 * (q + 1) ≤ j → j < 1169 → gI τ 611 j = 0
def FL (σ τ : St) (f : Int32 × Int32 × Int32) : Prop := gI σ 594 3 = f.1 ∧ gI τ 609 25 = f.1 ∧ gI σ 594 4 = f.2.1 ∧ gI τ 609 23 = f.2.1 ∧ gI σ 594 5 = f.2.2 ∧ gI τ 609 24 = f.2.2
def bR : Nat → Prop := fun k => 16 ≤ k ∧ k ≤ 25
def Oc (σ τ : St) (cl : Option St) (ml : Option (Int32 × St)) (P : St → St → Prop) : Prop := ∃ σ' τ', cl = some σ' ∧ Un LM σ σ' ∧ MU (fun i => i = 611) bR τ τ' ∧ ((ml = some (1, τ') ∧ P σ' τ') ∨ (ml = some (0, τ') ∧ ∃ c o, CE σ' c o ∧ ME τ' c o))
theorem MU.bR {τ τ' : St} (h : MU noA bL τ τ') : MU (fun i => i = 611) bR τ τ' := h.mono (fun _ q => q.elim) (fun k q => by unfold bL at q; show 16 ≤ k ∧ k ≤ 25; omega)
theorem Oc.sh {σ σ2 τ τ2 : St} {cl : Option St} {ml : Option (Int32 × St)} {P P' : St → St → Prop} (h : Oc σ2 τ2 cl ml P) (a : Un LM σ σ2) (b : MU (fun i => i = 611) bR τ τ2) (hp : ∀ σ' τ', P σ' τ' → P' σ' τ') : Oc σ τ cl ml P' := by
  obtain ⟨σ', τ', z1, z2, z3, z4⟩ := h
  refine ⟨σ', τ', z1, a.trans z2, b.trans z3, ?_⟩
  rcases z4 with ⟨z5, z6⟩ | z5
  · exact Or.inl ⟨z5, hp _ _ z6⟩
  · exact Or.inr z5
/-- an error on both sides, and the class goes on quietly -/
theorem Oc.bad {σ σ2 τ τ2 : St} {c : Int32} {o : Nat} {cl : Option St} {ml : Option (Int32 × St)} {P : St → St → Prop} (h : Q σ2 c o cl) (e : ml = some (0, τ2)) (m : ME τ2 c o) (a : Un LM σ σ2) (b : MU (fun i => i = 611) bR τ τ2) : Oc σ τ cl ml P := by
  obtain ⟨σ', z1, z2, z3⟩ := h
  exact ⟨σ', τ2, z1, a.trans z3, b, Or.inr ⟨e, c, o, z2, m⟩⟩
section
variable {T : Nat → Int32} {L N : Nat}
def JQ (T : Nat → Int32) (L N : Nat) (σ τ : St) (k q S P : Nat) (f : Int32 × Int32 × Int32) : Prop := CP σ T L N k ∧ MP τ T L k ∧ QR σ τ q S P ∧ FL σ τ f ∧ Nn (gI τ 611 4) ≤ k
theorem QR.tk {σ σ' τ τ' : St} {q S P : Nat} (h : QR σ τ q S P) (u : Un (fun i => i = 595) σ σ') (w : MU noA bL τ τ') : QR σ' τ' q S P := by
  obtain ⟨h1, h2, h3, h4, h5, h6, h7⟩ := h
  have e : gI τ' 611 = gI τ 611 := w.I (by decide) (fun q => q)
  have ue : ∀ i, i ≠ 595 → gI σ' i = gI σ i ∧ gL σ' i = gL σ i := fun i hi => ⟨u.I hi, u.L hi⟩
  unfold QR
  rw [e]
  refine ⟨h1, h2, h3.cg (fun i x1 x2 => ue i (by omega)) (fun j _ _ => rfl) h3.2.2.2.2.2.2.2.1 (Nat.le_refl _), ⟨fun s hs => (h4.1 s hs).cg (fun i k x1 x2 _ _ => by rw [u.I (by omega)]) (fun _ _ _ => rfl), fun s hs => (h4.2 s hs).cg (by rw [u.I (by omega)]) (by rw [u.I (by omega)]) rfl rfl⟩, ?_, (w.F (by unfold bL; omega)).trans h6, h7⟩
  unfold HQ
  rw [u.I (show ¬ 66 + 9 * q = 595 by omega)]
  exact h5
theorem FL.tk {σ σ' τ τ' : St} {f : Int32 × Int32 × Int32} (h : FL σ τ f) {M A B : Nat → Prop} (u : Un M σ σ') (hm : ¬ M 594) (w : MU A B τ τ') (hb : ¬ B 23 ∧ ¬ B 24 ∧ ¬ B 25) : FL σ' τ' f := by
  obtain ⟨h1, h2, h3, h4, h5, h6⟩ := h
  unfold FL
  rw [u.I hm, w.F hb.1, w.F hb.2.1, w.F hb.2.2]
  exact ⟨h1, h2, h3, h4, h5, h6⟩
theorem JQ.tk {σ σ' τ τ' : St} {k k' q S P : Nat} {f : Int32 × Int32 × Int32} (h : JQ T L N σ τ k q S P f) (c : CP σ' T L N k') (m : MP τ' T L k') (hk : k ≤ k') (u : Un (fun i => i = 595) σ σ') (w : MU noA bL τ τ') : JQ T L N σ' τ' k' q S P f := ⟨c, m, h.2.2.1.tk u w, h.2.2.2.1.tk u (by decide) w ⟨by unfold bL; omega, by unfold bL; omega, by unfold bL; omega⟩, by rw [w.I (by decide) (fun q => q)]; have := h.2.2.2.2; omega⟩
/-- a change within the quest that is being read -/
theorem QR.wr {σ σ' τ τ' : St} {q S P S' P' : Nat} (h : QR σ τ q S P) (hS : S' ≤ 6) (hu : ∀ i, 61 ≤ i → (i < 66 + 9 * q ∨ i = 594) → gI σ' i = gI σ i ∧ gL σ' i = gL σ i) (he : ∀ j, j < 4370 → (j < 53 + 186 * q ∨ 53 + 186 * q + 186 ≤ j) → gI τ' 611 j = gI τ 611 j) (p : PQ σ' (gI τ' 611) (66 + 9 * q) (53 + 186 * q) P') (hq : HQ σ' (gI τ' 611) (66 + 9 * q) (53 + 186 * q) S') (h22 : gI τ' 609 22 = nI S') : QR σ' τ' q S' P' := by
  obtain ⟨h1, h2, h3, h4, h5, h6, h7⟩ := h
  have i4 := h3.2.2.2.2.2.2.2.1
  have e4 : gI τ' 611 4 = gI τ 611 4 := he 4 (by omega) (by omega)
  have n4 := i4.2
  exact ⟨h1, hS, h3.cg hu (fun j x1 x2 => he j (by omega) (by omega)) (by rw [e4]; exact i4) (by rw [e4]; exact Nat.le_refl _), p, hq, h22, fun j x1 x2 => by rw [he j (by omega) (by omega)]; exact h7 j x1 x2⟩
theorem CP.w {σ : St} {k : Nat} (h : CP σ T L N k) {p : Nat} (j : Nat) (v : Int32) (hp : p < 595 ∨ 598 < p) : CP (sI σ p j v) T L N k := h.un (M := fun i => i = p) (Un.sI _ _ rfl) ⟨by omega, by omega, by omega, by omega⟩
theorem MP.w {τ : St} {k : Nat} (h : MP τ T L k) (j : Nat) (v : Int32) : MP (sI τ 611 j v) T L k := h.fm (MU.arr (p := 611) _ _ rfl (by decide))
/-- a number within bounds, both readers -/
theorem numJ (hb : TB8 T L) {σ τ : St} {k : Nat} (c : CP σ T L N k) (m : MP τ T L k) {lo hi : Nat} (hl : lo ≤ hi) (hh : hi ≤ 100000) : ∃ τ', MU noA bL τ τ' ∧ ((∃ v, lo ≤ v ∧ v ≤ hi ∧ tkd T L k = 0 ∧ k < N ∧ pf_X6_number 595 (nI lo) (nI hi) σ = some (nI v, sI σ 595 4 (nI (k + 1))) ∧ CP (sI σ 595 4 (nI (k + 1))) T L N (k + 1) ∧ pf_X11_reads 609 (nI lo) (nI hi) τ = some (1, τ') ∧ MP τ' T L (k + 1) ∧ gI τ' 609 19 = nI v ∧ gI τ' 609 20 = nI (tst T L k)) ∨ (∃ σ' c, pf_X6_number 595 (nI lo) (nI hi) σ = some (nI lo, σ') ∧ CE σ' c (tst T L k) ∧ Un (fun i => i = 595) σ σ' ∧ pf_X11_reads 609 (nI lo) (nI hi) τ = some (0, τ') ∧ ME τ' c (tst T L k))) := by
  obtain ⟨τ1, m1, m2, m3, m4⟩ := mreads hb m (lo := lo) (hi := hi) (by omega) hh
  refine ⟨τ1, m2, ?_⟩
  rw [number_ok c hl hh, m1]
  by_cases ok : tkd T L k = 0 ∧ lo ≤ nvl T L k ∧ nvl T L k ≤ hi
  · obtain ⟨m5, m6, m7⟩ := m3 ok
    have k1 : k < N := c.lt.mp (by
      have h1 := ((tkd_0 (T := T) (k := k) c.le).mp ok.1).1
      exact h1)
    exact Or.inl ⟨nvl T L k, ok.2.1, ok.2.2, ok.1, k1, by rw [if_pos ok.1, if_pos ok.2], c.next k1, by rw [decide_eq_true ok]; rfl, m5, m7, m6⟩
  · refine Or.inr ?_
    by_cases d0 : tkd T L k = 0
    · exact ⟨_, -3, by rw [if_pos d0, if_neg (fun y => ok ⟨d0, y⟩)], erS_CE _ (by decide) _, Un.trans (M := fun i => i = 595) (Un.sI _ _ rfl) (erS_un _ _ _), by rw [decide_eq_false ok]; rfl, by have := m4 ok; rw [if_pos d0] at this; exact this⟩
    · exact ⟨_, -2, by rw [if_neg d0], erS_CE _ (by decide) _, erS_un _ _ _, by rw [decide_eq_false ok]; rfl, by have := m4 ok; rw [if_neg d0] at this; exact this⟩
/-- the number of an earlier step: none ahead of the first one -/
theorem numA (hb : TB8 T L) {σ τ : St} {k S : Nat} (hS : S ≤ 6) (c : CP σ T L N k) (m : MP τ T L k) : ∃ τ', MU noA bL τ τ' ∧ ((∃ v, v < S ∧ tkd T L k = 0 ∧ k < N ∧ pf_X6_number 595 0 (nI S - 1) σ = some (nI v, sI σ 595 4 (nI (k + 1))) ∧ CP (sI σ 595 4 (nI (k + 1))) T L N (k + 1) ∧ pf_X11_reads 609 0 (nI S - 1) τ = some (1, τ') ∧ MP τ' T L (k + 1) ∧ gI τ' 609 19 = nI v ∧ gI τ' 609 20 = nI (tst T L k)) ∨ (∃ σ' c, pf_X6_number 595 0 (nI S - 1) σ = some (0, σ') ∧ CE σ' c (tst T L k) ∧ Un (fun i => i = 595) σ σ' ∧ pf_X11_reads 609 0 (nI S - 1) τ = some (0, τ') ∧ ME τ' c (tst T L k))) := by
  by_cases s0 : S = 0
  · subst s0
    have n8 := c.N8
    have hk := c.2.1
    obtain ⟨τ1, g1, g2, g3, g4⟩ := mdig hb m
    unfold pf_X6_number pf_X11_reads
    rw [start_ok c, bind_some, ahead_ok c, bind_some, g1, bnd2_some, if_b2]
    by_cases d0 : tkd T L k = 0
    · obtain ⟨p1, p2, rv, p3, p4, p5, p6⟩ := g3 d0
      have e8 : gI σ 598 k = nI (nvl T L k) := (c.1.1.2 k (by omega)).2.2 d0
      have m1 : (nI 0 - 1 : Int32) < 0 := by decide
      have hn : ∀ x, x < 2 ^ 31 → ¬ nI x ≤ nI 0 - 1 := fun x hx q => by
        have h0 : ¬ nI x < 0 := nI_pos hx
        rw [Int32.lt_iff_toInt_lt] at h0 m1
        rw [Int32.le_iff_toInt_le] at q
        omega
      have hg : nI 0 - 1 < nI rv := by
        have := hn rv (by omega)
        rw [Int32.le_iff_toInt_le] at this
        rw [Int32.lt_iff_toInt_lt]
        omega
      obtain ⟨f1, f2, f3⟩ := mfails p1.2.1 (c := -3) (by decide) (tst T L k)
      refine ⟨_, g2.trans f3, Or.inr ⟨erS (sI σ 595 4 (nI (k + 1))) (-3) (tst T L k), -3, ?_, erS_CE _ (by decide) _, Un.trans (M := fun i => i = 595) (Un.sI _ _ rfl) (erS_un _ _ _), ?_, f2⟩⟩
      · rw [if_pos (by rw [d0]), c.2.2.1, show pf_X10_at (595 + 3) (nI k) σ = _ from at_ok al598 (by omega), bind_some, show gI σ (595 + 3) k = _ from e8, nI_1, bnd_e, if_neg (nI_pos (by omega)), if_neg (hn _ (by omega))]
        unfold pf_X6_number_b59 pf_X6_fail
        rw [gI_ns _ _ _ (by decide), c.2.2.2.1, if_pos rfl]; rfl
      · rw [decide_eq_true d0, if_pos rfl, p3, isIn_ok, bind_some, if_b2, decide_eq_false (fun q => q.2 hg), if_neg Bool.false_ne_true, p2, f1, bnd2_some, if_pos rfl]
    · refine ⟨τ1, g2, Or.inr ⟨_, -2, ?_, erS_CE σ (by decide) (tst T L k), erS_un _ _ _, ?_, g4 d0⟩⟩
      · rw [if_neg (fun e => d0 (Option.some.inj e)), fail_ok c, bind_some]
      · rw [decide_eq_false d0, if_neg Bool.false_ne_true]
  · have e : (nI S - 1 : Int32) = nI (S - 1) := by rw [show (1 : Int32) = nI 1 from rfl, pk_sub (by omega)]
    obtain ⟨τ1, w, h⟩ := numJ hb c m (lo := 0) (hi := S - 1) (by omega) (by omega)
    rw [e]
    refine ⟨τ1, w, ?_⟩
    rcases h with ⟨v, v1, v2, v3⟩ | h
    · exact Or.inl ⟨v, by omega, v3⟩
    · exact Or.inr h
end
