/-! BASE of the pure side: numbers, checks, loops, what stays unchanged -/
theorem litI (n : Nat) : (OfNat.ofNat n : Int32) = nI n := rfl
theorem ckI_nI {α : Type} {n N : Nat} {x : Option α} (h : n < N) (hN : N < 2 ^ 31) : ckI (nI n) N x = x := if_neg (nI_in h hN)
theorem alen_lt (i : Nat) : alen i < 65536 := by
  unfold alen
  split
  · exact Nat.mod_lt _ (by decide)
  · decide
theorem ckA {α : Type} {n i N : Nat} {x : Option α} (e : alen i = N) (h : n < N) : ckI (nI n) (alen i) x = x := ckI_nI (by omega) (by have := alen_lt i; omega)
theorem ckN_nI {α : Type} {n : Nat} {x : Option α} (h0 : 0 < n) (h : n < 2 ^ 31) : ckN (nI n) x = x := if_neg (nI_ne0 h0 h)
theorem ckZ_0 {α : Type} {x : Option α} : ckZ 0 x = x := if_pos (Or.inl rfl)
theorem ckZ_1 {α : Type} {x : Option α} : ckZ 1 x = x := if_pos (Or.inr rfl)
theorem ckK_eq {α : Type} {k i : Nat} {x : Option α} (h : kd i = k) : ckK k i x = x := if_pos h
theorem bind_some {α β : Type} (a : α) (f : α → Option β) : (some a).bind f = f a := rfl
theorem bnd2_some {α β γ : Type} (a : α) (b : β) (f : α → β → Option γ) : bnd2 (some (a, b)) f = f a b := rfl
theorem bnd_e {α β : Type} (a : α) (f : α → β) : bnd a f = f a := rfl
/-- a loop that ends by a measure -/
theorem wl_C {S R : Type} (L : Nat → S → R) (P : S → Prop) (C : R → Prop) (μ : S → Nat) (hs : ∀ n s, P s → C (L (n + 1) s) ∨ ∃ s', L (n + 1) s = L n s' ∧ P s' ∧ μ s' < μ s) : ∀ n s, P s → μ s < n → C (L n s)
  | 0, _, _, h => absurd h (Nat.not_lt_zero _)
  | n + 1, s, hP, h => by
    rcases hs n s hP with q | ⟨s', e, hP', hm⟩
    · exact q
    · rw [e]; exact wl_C L P C μ hs n s' hP' (by omega)
/-- a loop that counts up to N -/
theorem up_C {S R : Type} (L : Nat → Nat → S → R) (N : Nat) (P : Nat → S → Prop) (C : R → Prop) (he : ∀ n s, P N s → C (L (n + 1) N s)) (hs : ∀ n i s, i < N → P i s → C (L (n + 1) i s) ∨ ∃ s', L (n + 1) i s = L n (i + 1) s' ∧ P (i + 1) s') : ∀ n i s, i ≤ N → P i s → N - i < n → C (L n i s)
  | 0, _, _, _, _, h => absurd h (Nat.not_lt_zero _)
  | n + 1, i, s, hi, hP, h => by
    rcases Nat.lt_or_ge i N with q | q
    · rcases hs n i s q hP with c | ⟨s', e, hP'⟩
      · exact c
      · rw [e]; exact up_C L N P C he hs n (i + 1) s' q hP' (by omega)
    · have e : i = N := by omega
      subst e
      exact he n s hP
/-- a loop that counts down to 0 -/
theorem dn_C {S R : Type} (L : Nat → Nat → S → R) (P : Nat → S → Prop) (C : R → Prop) (he : ∀ n s, P 0 s → C (L (n + 1) 0 s)) (hs : ∀ n i s, P (i + 1) s → C (L (n + 1) (i + 1) s) ∨ ∃ s', L (n + 1) (i + 1) s = L n i s' ∧ P i s') : ∀ n i s, P i s → i < n → C (L n i s)
  | 0, _, _, _, h => absurd h (Nat.not_lt_zero _)
  | n + 1, 0, s, hP, _ => he n s hP
  | n + 1, i + 1, s, hP, h => by
    rcases hs n i s hP with c | ⟨s', e, hP'⟩
    · exact c
    · rw [e]; exact dn_C L P C he hs n i s' hP' (by omega)
theorem lt_FU {k : Nat} (h : k < 1000000) : k < FU := h
/-! what stays unchanged -/
def Un (M : Nat → Prop) (σ σ' : St) : Prop := ∀ i, ¬ M i → gI σ' i = gI σ i ∧ gL σ' i = gL σ i ∧ gK σ' i = gK σ i ∧ gD σ' i = gD σ i
theorem Un.refl (M : Nat → Prop) (σ : St) : Un M σ σ := fun _ _ => ⟨rfl, rfl, rfl, rfl⟩
theorem Un.trans {M : Nat → Prop} {σ σ' σ'' : St} (h : Un M σ σ') (h' : Un M σ' σ'') : Un M σ σ'' := fun i hi => ⟨(h' i hi).1.trans (h i hi).1, (h' i hi).2.1.trans (h i hi).2.1, (h' i hi).2.2.1.trans (h i hi).2.2.1, (h' i hi).2.2.2.trans (h i hi).2.2.2⟩
theorem Un.mono {M M' : Nat → Prop} {σ σ' : St} (h : Un M σ σ') (hm : ∀ i, M i → M' i) : Un M' σ σ' := fun i hi => h i (fun q => hi (hm i q))
theorem Un.I {M : Nat → Prop} {σ σ' : St} (h : Un M σ σ') {i : Nat} (hi : ¬ M i) : gI σ' i = gI σ i := (h i hi).1
theorem Un.L {M : Nat → Prop} {σ σ' : St} (h : Un M σ σ') {i : Nat} (hi : ¬ M i) : gL σ' i = gL σ i := (h i hi).2.1
theorem Un.K {M : Nat → Prop} {σ σ' : St} (h : Un M σ σ') {i : Nat} (hi : ¬ M i) : gK σ' i = gK σ i := (h i hi).2.2.1
theorem Un.sI {M : Nat → Prop} {σ : St} {p : Nat} (k : Nat) (v : Int32) (h : M p) : Un M σ (sI σ p k v) := fun i hi => ⟨gI_rowNe σ _ (fun e => hi (e ▸ h)), rfl, rfl, rfl⟩
theorem Un.row {M : Nat → Prop} {σ : St} {p : Nat} (f : Nat → Int32) (h : M p) : Un M σ (rowI σ p f) := fun i hi => ⟨gI_rowNe σ _ (fun e => hi (e ▸ h)), rfl, rfl, rfl⟩
theorem Un.sL {M : Nat → Prop} {σ : St} {p : Nat} (k : Nat) (v : Int64) (h : M p) : Un M σ (sL σ p k v) := fun i hi => ⟨rfl, funext fun b => (gL_sL σ p k i b v).trans (if_neg (fun e : i = p => hi (e ▸ h))), rfl, rfl⟩
theorem Un.sK {M : Nat → Prop} {σ : St} {p : Nat} (k : Nat) (v : Option Nat) (h : M p) : Un M σ (sK σ p k v) := fun i hi => ⟨rfl, rfl, funext fun b => (gK_sK σ p k i b v).trans (if_neg (fun e : i = p => hi (e ▸ h))), rfl⟩
theorem Un.cp {M : Nat → Prop} {σ : St} {a b : Nat} (sp dp n : Int32) (h : M b) : Un M σ (cpI σ a sp b dp n) := Un.row _ h
theorem gI_at (σ : St) (p k : Nat) (v : Int32) : gI (sI σ p k v) p k = v := by rw [gI_sI, if_pos rfl, if_pos rfl]
theorem gI_ne (σ : St) {p a : Nat} (k b : Nat) (v : Int32) (h : a ≠ p) : gI (sI σ p k v) a b = gI σ a b := by rw [gI_sI, if_neg h]
theorem gI_nf (σ : St) {p a : Nat} (k : Nat) (v : Int32) (h : a ≠ p) : gI (sI σ p k v) a = gI σ a := funext fun b => gI_ne σ k b v h
theorem gI_ns (σ : St) (p : Nat) {k b : Nat} (v : Int32) (h : b ≠ k) : gI (sI σ p k v) p b = gI σ p b := by rw [gI_sI, if_pos rfl, if_neg h]
theorem cp_row (σ : St) (a b n : Nat) (hn : n < 2 ^ 31) (k : Nat) : gI (cpI σ a 0 b 0 (nI n)) b k = if k < n then gI σ a k else gI σ b k := by
  unfold cpI
  rw [gI_row, nI_clamp hn]
  simp [va_cpy]
theorem cp_ne (σ : St) (a : Nat) {b c : Nat} (n : Int32) (h : c ≠ b) : gI (cpI σ a 0 b 0 n) c = gI σ c := gI_rowNe σ _ h
theorem cp_L (σ : St) (a b : Nat) (n : Int32) : gL (cpI σ a 0 b 0 n) = gL σ := rfl
theorem ckC_ok {α : Type} {n a b : Nat} {x : Option α} (hn : n < 2 ^ 31) (ha : n ≤ alen a) (hb : n ≤ alen b) : ckC 0 0 (nI n) a b x = x := by
  unfold ckC
  rw [if_pos]
  rw [nI_clamp hn]
  exact ⟨by decide, by decide, nI_pos hn, by rw [show (0 : Int32).toNatClampNeg = 0 from rfl]; omega, by rw [show (0 : Int32).toNatClampNeg = 0 from rfl]; omega⟩
/-! bits -/
theorem bv_nI (n : Nat) : (nI n).toBitVec = BitVec.ofNat 32 n := rfl
theorem or_nI (a b : Nat) : nI a ||| nI b = nI (a ||| b) := by
  apply Int32.toBitVec_inj.mp
  rw [Int32.toBitVec_or, bv_nI, bv_nI, bv_nI]
  apply BitVec.eq_of_toNat_eq
  simp [Nat.or_mod_two_pow]
theorem and_nI (a b : Nat) : nI a &&& nI b = nI (a &&& b) := by
  apply Int32.toBitVec_inj.mp
  rw [Int32.toBitVec_and, bv_nI, bv_nI, bv_nI]
  apply BitVec.eq_of_toNat_eq
  simp [Nat.and_mod_two_pow]
theorem shl1 : ∀ s, s < 6 → ishl 1 (nI s) = nI (1 <<< s) := by decide +kernel
theorem sh_nI : ∀ s, s < 32 → (nI s).toUInt32 &&& Int32.toUInt32 31 = UInt32.ofNat s := by decide +kernel
theorem iushr_nI {m s : Nat} (hm : m < 2 ^ 31) (hs : s < 32) : iushr (nI m) (nI s) = nI (m >>> s) := by
  unfold iushr
  rw [sh_nI s hs]
  apply Int32.toBitVec_inj.mp
  apply BitVec.eq_of_toNat_eq
  have e1 : ((nI m).toUInt32 >>> UInt32.ofNat s).toNat = m >>> s := by
    rw [UInt32.toNat_shiftRight]
    have a1 : (nI m).toUInt32.toNat = m := by
      show (BitVec.ofNat 32 m).toNat = m
      rw [BitVec.toNat_ofNat]; exact Nat.mod_eq_of_lt (by omega)
    have a2 : (UInt32.ofNat s).toNat = s := by
      show (BitVec.ofNat 32 s).toNat = s
      rw [BitVec.toNat_ofNat]; exact Nat.mod_eq_of_lt (by omega)
    rw [a1, a2, Nat.mod_eq_of_lt hs]
  have hle : m >>> s ≤ m := by rw [Nat.shiftRight_eq_div_pow]; exact Nat.div_le_self _ _
  show ((nI m).toUInt32 >>> UInt32.ofNat s).toNat = (BitVec.ofNat 32 (m >>> s)).toNat
  rw [e1, BitVec.toNat_ofNat, Nat.mod_eq_of_lt (by omega)]
theorem nI_and1 (m : Nat) : nI m &&& 1 = nI (m % 2) := by
  rw [show (1 : Int32) = nI 1 from rfl, and_nI, Nat.and_one_is_mod]
theorem bit_u {m s : Nat} (hm : m < 2 ^ 31) (hs : s < 32) : (iushr (nI m) (nI s) &&& 1 = 0) = (m.testBit s = false) := by
  rw [iushr_nI hm hs, nI_and1, show (0 : Int32) = nI 0 from rfl, nI_eq (by omega) (by omega), Nat.testBit, Nat.one_and_eq_mod_two]
  simp
