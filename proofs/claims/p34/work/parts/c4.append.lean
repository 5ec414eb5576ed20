/-! APPEND -/
def bt (v : Int32) (k : Nat) : Int32 := iushr v (iI (24 - 8 * (k : Int))) &&& 255
theorem sh_lit : ∀ k, k < 4 → iI (24 - 8 * ((k : Nat) : Int)) = nI (24 - 8 * k) := by decide +kernel
theorem and255 (x : Int32) : Is (x &&& 255) 255 := by
  have h : (x &&& 255).toBitVec.toNat = x.toBitVec.toNat % 256 := by
    rw [Int32.toBitVec_and, BitVec.toNat_and]
    show x.toBitVec.toNat &&& 255 = _
    rw [show (255 : Nat) = 2 ^ 8 - 1 from rfl, Nat.and_two_pow_sub_one_eq_mod]
  have e : x &&& 255 = nI (x.toBitVec.toNat % 256) := by
    apply Int32.toBitVec_inj.mp
    apply BitVec.eq_of_toNat_eq
    rw [h]
    show _ = (BitVec.ofNat 32 (x.toBitVec.toNat % 256)).toNat
    rw [BitVec.toNat_ofNat, Nat.mod_eq_of_lt (show x.toBitVec.toNat % 256 < 2 ^ 32 by omega)]
  rw [e]
  exact Is.of (by omega) (by omega)
theorem sh_bits (v : Int32) (n : Nat) (hn : n ≤ 24) (a b : Int32) (ha : a.toBitVec = v.toBitVec >>> n) (hb : b.toBitVec = BitVec.sshiftRight v.toBitVec n) : b &&& 255 = a &&& 255 := by
  apply Int32.toBitVec_inj.mp
  apply BitVec.eq_of_getLsbD_eq
  intro i hi
  rw [Int32.toBitVec_and, Int32.toBitVec_and, BitVec.getLsbD_and, BitVec.getLsbD_and, ha, hb]
  by_cases c : i < 8
  · congr 1
    rw [BitVec.getLsbD_ushiftRight, BitVec.getLsbD_sshiftRight]
    rw [decide_eq_false (show ¬ 32 ≤ i by omega), if_pos (show n + i < 32 by omega)]; simp
  · have : (255 : Int32).toBitVec.getLsbD i = false := by
      show (255#32).getLsbD i = false
      rw [BitVec.getLsbD_ofNat]
      have : Nat.testBit 255 i = false := Nat.testBit_lt_two_pow (Nat.lt_of_lt_of_le (by omega) (Nat.pow_le_pow_right (n := 2) (by omega) (show 8 ≤ i by omega)))
      rw [this]; simp
    rw [this]; simp
theorem bt_eq (v : Int32) {k : Nat} (hk : k < 4) : ishr v (iI (24 - 8 * (k : Int))) &&& 255 = bt v k := by
  unfold bt
  rcases (by omega : k = 0 ∨ k = 1 ∨ k = 2 ∨ k = 3) with rfl | rfl | rfl | rfl
  · exact sh_bits v 24 (by omega) _ _ rfl rfl
  · exact sh_bits v 16 (by omega) _ _ rfl rfl
  · exact sh_bits v 8 (by omega) _ _ rfl rfl
  · exact sh_bits v 0 (by omega) _ _ rfl rfl
def Bc (σ : St) (f : Nat) (W : Nat → Int32) : Prop := gI σ 0 1 = nI f ∧ ∀ k, k < f → gI σ 1 k = W k
def wx (W : Nat → Int32) (f : Nat) (v : Int32) : Nat → Int32 := fun k => if k < f then W k else bt v (k - f)
theorem wx_Is {W : Nat → Int32} {f : Nat} (v : Int32) (h : ∀ k, k < f → Is (W k) 255) : ∀ k, k < f + 4 → Is (wx W f v k) 255 := fun k hk => by
  unfold wx
  split
  · rename_i c; exact h k c
  · exact and255 _
theorem al1 : alen 1 = 800 := by decide +kernel
theorem sh_s (i : Nat) : iI (24 - 8 * (i : Int)) + (-8) = iI (24 - 8 * ((i + 1 : Nat) : Int)) := by
  rw [show (-8 : Int32) = iI (-8) from rfl, iI_add]; congr 1; omega
theorem wordC {σ : St} {f : Nat} {W : Nat → Int32} (v : Int32) (hf : f + 4 ≤ 800) (h : Bc σ f W) : ∃ σ', pf_X10_appendWord 0 v σ = some σ' ∧ Un (fun i => i = 0 ∨ i = 1) σ σ' ∧ (∀ k, k ≠ 1 → gI σ' 0 k = gI σ 0 k) ∧ Bc σ' (f + 4) (wx W f v) := by
  unfold pf_X10_appendWord
  refine up_C (fun n i t => pf_X10_appendWord_L3 n 0 v (iI (24 - 8 * (i : Int))) t) 4 (fun i t => Un (fun i => i = 0 ∨ i = 1) σ t ∧ (∀ k, k ≠ 1 → gI t 0 k = gI σ 0 k) ∧ Bc t (f + i) (wx W f v)) (fun x => ∃ σ', x = some σ' ∧ Un (fun i => i = 0 ∨ i = 1) σ σ' ∧ (∀ k, k ≠ 1 → gI σ' 0 k = gI σ 0 k) ∧ Bc σ' (f + 4) (wx W f v)) ?_ ?_ FU 0 σ (Nat.zero_le _) ⟨Un.refl _ _, fun _ _ => rfl, h.1, fun k hk => by unfold wx; rw [if_pos (show k < f from hk)]; exact h.2 k hk⟩ (lt_FU (by omega))
  · intro n t ⟨h1, h2, h3⟩
    refine ⟨t, ?_, h1, h2, h3⟩
    show pf_X10_appendWord_L3 (n + 1) 0 v (iI (24 - 8 * ((4 : Nat) : Int))) t = _
    rw [pf_X10_appendWord_L3, if_pos (by decide)]
  · intro n i t hi ⟨h1, h2, h3⟩
    refine Or.inr ⟨sI (sI t 1 (f + i) (bt v i)) 0 1 (nI (f + i + 1)), ?_, h1.trans ((Un.sI _ _ (Or.inr rfl)).trans (Un.sI _ _ (Or.inl rfl))), fun k hk => ?_, gI_at _ _ _ _, fun k hk => ?_⟩
    · show pf_X10_appendWord_L3 (n + 1) 0 v (iI (24 - 8 * (i : Int))) t = pf_X10_appendWord_L3 n 0 v (iI (24 - 8 * ((i + 1 : Nat) : Int))) _
      rw [pf_X10_appendWord_L3, if_neg (show ¬ iI (24 - 8 * (i : Int)) < 0 by rw [show (0 : Int32) = iI 0 from rfl, iI_lt (by omega) (by omega) (by omega) (by omega)]; omega), h3.1, show pf_X10_put (0 + 1) (nI (f + i)) (iushr v (iI (24 - 8 * (i : Int))) &&& 255) t = _ from put_ok al1 (by omega), bind_some, gI_ne _ _ _ _ (by omega), h3.1, nI_1, bnd_e, bnd_e, sh_s]
      rfl
    · rw [gI_ns _ _ _ hk, gI_ne _ _ _ _ (by omega)]; exact h2 k hk
    · rw [gI_ne _ _ _ _ (by omega)]
      by_cases e : k = f + i
      · subst e
        rw [gI_at]
        unfold wx
        rw [if_neg (by omega), show f + i - f = i by omega]
      · rw [gI_ns _ _ _ e]; exact h3.2 k (by omega)
