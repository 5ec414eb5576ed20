/-! APPEND -/
def bt (v : Int32) (k : Nat) : Int32 := iushr v (iI (24 - 8 * (k : Int))) &&& 255
theorem sh_lit : ∀ k, k < 4 → iI (24 - 8 * ((k : Nat) : Int)) = nI (24 - 8 * k) := by decide +kernel
theorem and255 (x : Int32) : Is (x &&& 255) 255 := by
  have h : (x &&& 255).toBitVec.toNat = x.toBitVec.toNat % 256 := by
    rw [Int32.toBitVec_and, BitVec.toNat_and]
    show x.toBitVec.toNat &&& 255 = _
    rw [show (255 : Nat) = 2 ^ 8 - 1 from rfl, Nat.and_two_pow_sub_one_eq_mod]
  have e : x &&& 255 = nI (x.toBitVec.toNat % 256) := by
    apply Int32.toBitVec_inj.mp
    apply BitVec.eq_of_toNat_eq
    rw [h]
    show _ = (BitVec.ofNat 32 (x.toBitVec.toNat % 256)).toNat
    rw [BitVec.toNat_ofNat, Nat.mod_eq_of_lt (show x.toBitVec.toNat % 256 < 2 ^ 32 by omega)]
  rw [e]
  exact Is.of (by omega) (by omega)
theorem sh_bits (v : Int32) (n : Nat) (hn : n ≤ 24) (a b : Int32) (ha : a.toBitVec = v.toBitVec >>> n) (hb : b.toBitVec = BitVec.sshiftRight v.toBitVec n) : b &&& 255 = a &&& 255 := by
  apply Int32.toBitVec_inj.mp
  apply BitVec.eq_of_getLsbD_eq
  intro i hi
  rw [Int32.toBitVec_and, Int32.toBitVec_and, BitVec.getLsbD_and, BitVec.getLsbD_and, ha, hb]
  by_cases c : i < 8
  · congr 1
    rw [BitVec.getLsbD_ushiftRight, BitVec.getLsbD_sshiftRight]
    rw [decide_eq_false (show ¬ 32 ≤ i by omega), if_pos (show n + i < 32 by omega)]; simp
  · have : (255 : Int32).toBitVec.getLsbD i = false := by
      show (255#32).getLsbD i = false
      rw [BitVec.getLsbD_ofNat]
      have : Nat.testBit 255 i = false := Nat.testBit_lt_two_pow (Nat.lt_of_lt_of_le (by omega) (Nat.pow_le_pow_right (n := 2) (by omega) (show 8 ≤ i by omega)))
      rw [this]; simp
    rw [this]; simp
theorem bt_eq (v : Int32) {k : Nat} (hk : k < 4) : ishr v (iI (24 - 8 * (k : Int))) &&& 255 = bt v k := by
  unfold bt
  rcases (by omega : k = 0 ∨ k = 1 ∨ k = 2 ∨ k = 3) with rfl | rfl | rfl | rfl
  · exact sh_bits v 24 (by omega) _ _ rfl rfl
  · exact sh_bits v 16 (by omega) _ _ rfl rfl
  · exact sh_bits v 8 (by omega) _ _ rfl rfl
  · exact sh_bits v 0 (by omega) _ _ rfl rfl
def Bc (σ : St) (f : Nat) (W : Nat → Int32) : Prop := gI σ 0 1 = nI f ∧ ∀ k, k < f → gI σ 1 k = W k
def Bm (σ : St) (f : Nat) (W : Nat → Int32) : Prop := gI σ 609 14 = nI f ∧ ∀ k, k < f → gI σ 618 k = W k
def wx (W : Nat → Int32) (f : Nat) (v : Int32) : Nat → Int32 := fun k => if k < f then W k else bt v (k - f)
theorem wx_Is {W : Nat → Int32} {f : Nat} (v : Int32) (h : ∀ k, k < f → Is (W k) 255) : ∀ k, k < f + 4 → Is (wx W f v k) 255 := fun k hk => by
  unfold wx
  split
  · rename_i c; exact h k c
  · exact and255 _
theorem al1 : alen 1 = 800 := by decide +kernel
theorem sh_s (i : Nat) : iI (24 - 8 * (i : Int)) + (-8) = iI (24 - 8 * ((i + 1 : Nat) : Int)) := by
  rw [show (-8 : Int32) = iI (-8) from rfl, iI_add]; congr 1; omega
theorem wordC {σ : St} {f : Nat} {W : Nat → Int32} (v : Int32) (hf : f + 4 ≤ 800) (h : Bc σ f W) : ∃ σ', pf_X10_appendWord 0 v σ = some σ' ∧ Un (fun i => i = 0 ∨ i = 1) σ σ' ∧ (∀ k, k ≠ 1 → gI σ' 0 k = gI σ 0 k) ∧ Bc σ' (f + 4) (wx W f v) := by
  unfold pf_X10_appendWord
  refine up_C (fun n i t => pf_X10_appendWord_L3 n 0 v (iI (24 - 8 * (i : Int))) t) 4 (fun i t => Un (fun i => i = 0 ∨ i = 1) σ t ∧ (∀ k, k ≠ 1 → gI t 0 k = gI σ 0 k) ∧ Bc t (f + i) (wx W f v)) (fun x => ∃ σ', x = some σ' ∧ Un (fun i => i = 0 ∨ i = 1) σ σ' ∧ (∀ k, k ≠ 1 → gI σ' 0 k = gI σ 0 k) ∧ Bc σ' (f + 4) (wx W f v)) ?_ ?_ FU 0 σ (Nat.zero_le _) ⟨Un.refl _ _, fun _ _ => rfl, h.1, fun k hk => by unfold wx; rw [if_pos (show k < f from hk)]; exact h.2 k hk⟩ (lt_FU (by omega))
  · intro n t ⟨h1, h2, h3⟩
    refine ⟨t, ?_, h1, h2, h3⟩
    show pf_X10_appendWord_L3 (n + 1) 0 v (iI (24 - 8 * ((4 : Nat) : Int))) t = _
    rw [pf_X10_appendWord_L3, if_pos (by decide)]
  · intro n i t hi ⟨h1, h2, h3⟩
    refine Or.inr ⟨sI (sI t 1 (f + i) (bt v i)) 0 1 (nI (f + i + 1)), ?_, h1.trans ((Un.sI _ _ (Or.inr rfl)).trans (Un.sI _ _ (Or.inl rfl))), fun k hk => ?_, gI_at _ _ _ _, fun k hk => ?_⟩
    · show pf_X10_appendWord_L3 (n + 1) 0 v (iI (24 - 8 * (i : Int))) t = pf_X10_appendWord_L3 n 0 v (iI (24 - 8 * ((i + 1 : Nat) : Int))) _
      rw [pf_X10_appendWord_L3, if_neg (show ¬ iI (24 - 8 * (i : Int)) < 0 by rw [show (0 : Int32) = iI 0 from rfl, iI_lt (by omega) (by omega) (by omega) (by omega)]; omega), h3.1, show pf_X10_put (0 + 1) (nI (f + i)) (iushr v (iI (24 - 8 * (i : Int))) &&& 255) t = _ from put_ok al1 (by omega), bind_some, gI_ne _ _ _ _ (by omega), h3.1, nI_1, bnd_e, bnd_e, sh_s]
      rfl
    · rw [gI_ns _ _ _ hk, gI_ne _ _ _ _ (by omega)]; exact h2 k hk
    · rw [gI_ne _ _ _ _ (by omega)]
      by_cases e : k = f + i
      · subst e
        rw [gI_at]
        unfold wx
        rw [if_neg (by omega), show f + i - f = i by omega]
      · rw [gI_ns _ _ _ e]; exact h3.2 k (by omega)
theorem wordM {σ : St} {f : Nat} {W : Nat → Int32} (v : Int32) (hf : f + 4 ≤ 800) (h : Bm σ f W) : ∃ σ', pf_X11_four 609 v σ = some σ' ∧ MU (fun i => i = 618) (fun k => k = 14) σ σ' ∧ Bm σ' (f + 4) (wx W f v) := by
  unfold pf_X11_four
  refine up_C (fun n i t => pf_X11_four_L3 n 609 v (iI (24 - 8 * (i : Int))) t) 4 (fun i t => MU (fun i => i = 618) (fun k => k = 14) σ t ∧ Bm t (f + i) (wx W f v)) (fun x => ∃ σ', x = some σ' ∧ MU (fun i => i = 618) (fun k => k = 14) σ σ' ∧ Bm σ' (f + 4) (wx W f v)) ?_ ?_ FU 0 σ (Nat.zero_le _) ⟨MU.refl _ _ _, h.1, fun k hk => by unfold wx; rw [if_pos (show k < f from hk)]; exact h.2 k hk⟩ (lt_FU (by omega))
  · intro n t ⟨h1, h3⟩
    refine ⟨t, ?_, h1, h3⟩
    show pf_X11_four_L3 (n + 1) 609 v (iI (24 - 8 * ((4 : Nat) : Int))) t = _
    rw [pf_X11_four_L3, if_pos (by decide)]
  · intro n i t hi ⟨h1, h3⟩
    refine Or.inr ⟨sI (sI t 618 (f + i) (bt v i)) 609 14 (nI (f + i + 1)), ?_, (h1.trans (MU.arr (p := 618) _ _ rfl (by decide))).trans (MU.fld _ _ rfl), gI_at _ _ _ _, fun k hk => ?_⟩
    · show pf_X11_four_L3 (n + 1) 609 v (iI (24 - 8 * (i : Int))) t = pf_X11_four_L3 n 609 v (iI (24 - 8 * ((i + 1 : Nat) : Int))) _
      rw [pf_X11_four_L3, if_neg (show ¬ iI (24 - 8 * (i : Int)) < 0 by rw [show (0 : Int32) = iI 0 from rfl, iI_lt (by omega) (by omega) (by omega) (by omega)]; omega), h3.1, ckA (show alen (609 + 9) = 800 from al618) (by omega), nI_clamp (by omega), bt_eq v hi, bnd_e, gI_ne _ _ _ _ (by omega), h3.1, nI_1, bnd_e, bnd_e, sh_s]
    · rw [gI_ne _ _ _ _ (by omega)]
      by_cases e : k = f + i
      · subst e
        rw [gI_at]
        unfold wx
        rw [if_neg (by omega), show f + i - f = i by omega]
      · rw [gI_ns _ _ _ e]; exact h3.2 k (by omega)
theorem Inv.buf {c : Nat} {σ σ' : St} (h : Inv c σ) (k1 : ∀ i, (2 ≤ i ∧ i ≤ 60) ∨ (120 ≤ i ∧ i < 594) ∨ i = 610 → gI σ' i = gI σ i ∧ gL σ' i = gL σ i) (k2 : ∀ k, k = 3 ∨ k = 4 → gI σ' 609 k = gI σ 609 k) (hb : Buf σ') : Inv (c + 1) σ' := by
  obtain ⟨_, r, nxt, cnt, h1, h2, h3, h4, h5, h6, h7, h8, h9, h10⟩ := h
  refine ⟨hb, r, nxt, cnt, h1, h2, h3, by rw [k2 3 (by omega)]; exact h4, by rw [k2 4 (by omega)]; exact h5, by rw [(k1 120 (by omega)).1]; exact h6, by rw [(k1 120 (by omega)).1]; exact h7, ?_, ?_, fun j hj => ?_⟩
  · rw [RW_I r (k1 610 (by omega)).1]
    exact h8.cong h9.n0 fun i a1 a2 => k1 i (by omega)
  · rw [RW_I r (k1 610 (by omega)).1]
    exact h9.mono (by unfold BB; omega)
  · obtain ⟨g1, g2⟩ := h10 j hj
    rw [RW_I (hro r j) (k1 610 (by omega)).1]
    have hb := hpl_b nxt j
    exact ⟨g1.cong g2.n0 fun i a1 a2 => k1 i (by omega), g2.mono (by unfold BB; omega)⟩
theorem op_append {c : Nat} {σ : St} (I : Inv c σ) (v1 v2 v3 v4 v5 : Int32) : ∃ A σ1, pf_X10_append 0 v1 v2 v3 v4 v5 σ = some (A, σ1) ∧ ∀ σ2, Un oA σ1 σ2 → ∃ b σ3, pf_X11_append 609 v1 v2 v3 v4 v5 σ2 = some (b, σ3) ∧ b = A ∧ IL c σ2 σ3 := by
  obtain ⟨fed, f1, f2, f3, f4, f5⟩ := I.1
  unfold pf_X10_append pf_X11_append
  rw [f2, show (20 : Int32) = nI 20 from rfl, nI_add, show (800 : Int32) = nI 800 from rfl]
  by_cases hc : fed + 20 ≤ 800
  · rw [if_pos (nI_le hc (by omega))]
    obtain ⟨s1, a1, b1, c1, d1⟩ := wordC (W := gI σ 618) v1 (by omega) ⟨f2, fun k hk => (f4 k hk).1⟩
    obtain ⟨s2, a2, b2, c2, d2⟩ := wordC v2 (by omega) d1
    obtain ⟨s3, a3, b3, c3, d3⟩ := wordC v3 (by omega) d2
    obtain ⟨s4, a4, b4, c4, d4⟩ := wordC v4 (by omega) d3
    obtain ⟨s5, a5, b5, c5, d5⟩ := wordC v5 (by omega) d4
    rw [a1, bind_some, a2, bind_some, a3, bind_some, a4, bind_some, a5, bind_some, d5.1]
    have ub := b1.trans (b2.trans (b3.trans (b4.trans b5)))
    have u0 : ∀ k, k ≠ 1 → gI s5 0 k = gI σ 0 k := fun k hk => (c5 k hk).trans ((c4 k hk).trans ((c3 k hk).trans ((c2 k hk).trans (c1 k hk))))
    refine ⟨_, s5, rfl, fun σ2 u => ?_⟩
    have e609 : gI σ2 609 = gI σ 609 := by rw [u.I (by unfold oA; omega), ub.I (by omega)]
    have e618 : gI σ2 618 = gI σ 618 := by rw [u.I (by unfold oA; omega), ub.I (by omega)]
    have m0 : Bm (sI σ2 609 0 0) fed (gI σ 618) := ⟨by rw [gI_ns _ _ _ (by decide), e609]; exact f3, fun k hk => by rw [gI_ne _ _ _ _ (by omega), e618]⟩
    obtain ⟨t1, p1, q1, r1⟩ := wordM v1 (by omega) m0
    obtain ⟨t2, p2, q2, r2⟩ := wordM v2 (by omega) r1
    obtain ⟨t3, p3, q3, r3⟩ := wordM v3 (by omega) r2
    obtain ⟨t4, p4, q4, r4⟩ := wordM v4 (by omega) r3
    obtain ⟨t5, p5, q5, r5⟩ := wordM v5 (by omega) r4
    rw [bnd_e, m0.1, nI_add, if_pos (nI_le hc (by omega)), p1, bind_some, p2, bind_some, p3, bind_some, p4, bind_some, p5, bind_some, r5.1]
    refine ⟨_, t5, rfl, rfl, ?_⟩
    have uq := q1.trans (q2.trans (q3.trans (q4.trans q5)))
    have um : MU (fun i => i = 618) (fun k => k = 14 ∨ k = 0) σ2 t5 := (MU.fld _ _ (Or.inr rfl)).trans (uq.mono (fun _ h => h) (fun k hk => Or.inl hk))
    have is0 := wx_Is v5 (wx_Is v4 (wx_Is v3 (wx_Is v2 (wx_Is v1 (fun k hk => (f4 k hk).2)))))
    have cl : ∀ i, i ≠ 0 → i ≠ 1 → i < 609 ∨ i = 610 → gI t5 i = gI σ i ∧ gL t5 i = gL σ i := fun i h1 h2 h3 => ⟨by rw [um.I (by omega) (by omega), u.I (by unfold oA; omega), ub.I (by omega)], by rw [um.1.L (by omega), u.L (by unfold oA; omega), ub.L (by omega)]⟩
    have k0 : gI t5 0 = gI s5 0 := by rw [um.I (by omega) (by omega), u.I (by unfold oA; omega)]
    have k1 : gI t5 1 = gI s5 1 := by rw [um.I (by omega) (by omega), u.I (by unfold oA; omega)]
    refine ⟨I.buf (fun i hi => cl i (by omega) (by omega) (by omega)) (fun k hk => by rw [um.F (by omega), e609]) ⟨fed + 4 + 4 + 4 + 4 + 4, by omega, by rw [k0]; exact d5.1, r5.1, fun k hk => ⟨by rw [k1, d5.2 k hk, r5.2 k hk], by rw [r5.2 k hk]; exact is0 k hk⟩, ?_⟩, um.LW (by omega) (by omega)⟩
    rw [k0, u0 2 (by decide), um.F (by omega), e609]
    exact f5
  · rw [if_neg (nI_ge (by omega) (by omega))]
    refine ⟨_, σ, rfl, fun σ2 u => ?_⟩
    have e609 : gI σ2 609 = gI σ 609 := u.I (by unfold oA; omega)
    rw [bnd_e, gI_ns _ _ _ (by decide), e609, f3, nI_add, if_neg (nI_ge (by omega) (by omega))]
    exact ⟨_, _, rfl, rfl, I.no (Un.refl _ _) u (MU.fld _ _ (by unfold qB; omega))⟩
