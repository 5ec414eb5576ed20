/-! WORTH: one meaning of the code on both sides -/
def lI (z : Int) : Int64 := Int64.ofInt z
theorem lI_add (a b : Int) : lI a + lI b = lI (a + b) := by
  apply Int64.toBitVec_inj.mp
  show BitVec.ofInt 64 a + BitVec.ofInt 64 b = BitVec.ofInt 64 (a + b)
  exact (BitVec.ofInt_add a b).symm
theorem lI_mul (a b : Int) : lI a * lI b = lI (a * b) := by
  apply Int64.toBitVec_inj.mp
  show BitVec.ofInt 64 a * BitVec.ofInt 64 b = BitVec.ofInt 64 (a * b)
  exact (BitVec.ofInt_mul a b).symm
theorem lI_neg (a : Int) : -lI a = lI (-a) := by
  apply Int64.toBitVec_inj.mp
  show -BitVec.ofInt 64 a = BitVec.ofInt 64 (-a)
  exact BitVec.ofInt_neg.symm
theorem lI_sub (a b : Int) : lI a - lI b = lI (a - b) := by
  rw [Int64.sub_eq_add_neg, lI_neg, lI_add]; rfl
theorem lI_toInt {z : Int} (h1 : -9223372036854775808 ≤ z) (h2 : z < 9223372036854775808) : (lI z).toInt = z := by
  show (BitVec.ofInt 64 z).toInt = z
  rw [BitVec.toInt_ofInt, Int.bmod_def]
  split <;> omega
theorem lI_div {a b : Int} (ha : -1000000 ≤ a ∧ a ≤ 1000000) (hb : -1000000 ≤ b ∧ b ≤ 1000000) : lI a / lI b = lI (a.tdiv b) := by
  apply Int64.toInt_inj.mp
  rw [Int64.toInt_div, lI_toInt (by omega) (by omega), lI_toInt (by omega) (by omega)]
  show _ = (BitVec.ofInt 64 (a.tdiv b)).toInt
  rw [BitVec.toInt_ofInt]
theorem lI_lt {a b : Int} (h1 : -9223372036854775808 ≤ a) (h2 : a < 9223372036854775808) (h3 : -9223372036854775808 ≤ b) (h4 : b < 9223372036854775808) : (lI a < lI b) = (a < b) := by
  rw [Int64.lt_iff_toInt_lt, lI_toInt h1 h2, lI_toInt h3 h4]
theorem lI_le {a b : Int} (h1 : -9223372036854775808 ≤ a) (h2 : a < 9223372036854775808) (h3 : -9223372036854775808 ≤ b) (h4 : b < 9223372036854775808) : (lI a ≤ lI b) = (a ≤ b) := by
  rw [Int64.le_iff_toInt_le, lI_toInt h1 h2, lI_toInt h3 h4]
theorem lI_of {z : Int} (h1 : -2147483648 ≤ z) (h2 : z < 2147483648) : (iI z).toInt64 = lI z := by
  apply Int64.toInt_inj.mp
  rw [Int32.toInt_toInt64, iI_toInt h1 h2, lI_toInt (by omega) (by omega)]
theorem lI_to (z : Int) : (lI z).toInt32 = iI z := by
  apply Int32.toBitVec_inj.mp
  show (BitVec.ofInt 64 z).signExtend 32 = BitVec.ofInt 32 z
  apply BitVec.eq_of_toInt_eq
  rw [BitVec.toInt_signExtend_eq_toInt_bmod_of_le _ (by decide), BitVec.toInt_ofInt, BitVec.toInt_ofInt]
  exact Int.bmod_bmod_of_dvd (by decide)
theorem lI_n {n : Nat} (h : n < 2 ^ 31) : (nI n).toInt64 = lI n := by rw [← iI_nat, lI_of (by omega) (by omega)]
/-- limited -/
def lim (z : Int) : Int := max (-1000000) (min 1000000 z)
def bopr (op : Nat) (a b : Int) : Int := if op = 2 then a + b else if op = 3 then a - b else if op = 4 then a * b else if b = 0 then 0 else a.tdiv b
def stW (F : Nat → Int) (op v : Nat) (st : List Int) : List Int :=
  if op ≤ 1 then (if op = 0 then (v : Int) else F v) :: st
  else match st with
    | b :: a :: r => lim (bopr op a b) :: r
    | _ => []
def evW (F : Nat → Int) (op v : Nat → Nat) : Nat → Nat → List Int → List Int
  | 0, _, st => st
  | n + 1, k, st => evW F op v n (k + 1) (stW F (op k) (v k) st)
def hWf (op : Nat → Nat) : Nat → Nat → Nat → Option Nat
  | 0, _, h => some h
  | n + 1, k, h => if op k ≤ 1 then (if h + 1 ≤ 11 then hWf op n (k + 1) (h + 1) else none) else (if 2 ≤ h then hWf op n (k + 1) (h - 1) else none)
def AB (st : List Int) : Prop := ∀ x, x ∈ st → -1000000 ≤ x ∧ x ≤ 1000000
theorem lim_b (z : Int) : -1000000 ≤ lim z ∧ lim z ≤ 1000000 := by unfold lim; omega
theorem AB.cons {x : Int} {st : List Int} (h1 : -1000000 ≤ x ∧ x ≤ 1000000) (h : AB st) : AB (x :: st) := fun y hy => by
  rcases List.mem_cons.mp hy with e | e
  · rw [e]; exact h1
  · exact h y e
theorem AB.hd {x : Int} {st : List Int} (h : AB (x :: st)) : -1000000 ≤ x ∧ x ≤ 1000000 := h x List.mem_cons_self
theorem AB.tl {x : Int} {st : List Int} (h : AB (x :: st)) : AB st := fun y hy => h y (List.mem_cons_of_mem _ hy)
theorem prod_b {a b : Int} (ha : -1000000 ≤ a ∧ a ≤ 1000000) (hb : -1000000 ≤ b ∧ b ≤ 1000000) : -1000000000000 ≤ a * b ∧ a * b ≤ 1000000000000 := by
  have h1 : (a * b).natAbs ≤ 1000000 * 1000000 := by
    rw [Int.natAbs_mul]
    exact Nat.mul_le_mul (by omega) (by omega)
  omega
theorem tdiv_b {a b : Int} (ha : -1000000 ≤ a ∧ a ≤ 1000000) : -1000000 ≤ a.tdiv b ∧ a.tdiv b ≤ 1000000 := by
  have h1 : (a.tdiv b).natAbs ≤ a.natAbs := by
    rw [Int.natAbs_tdiv]
    exact Nat.div_le_self _ _
  omega
theorem bopr_b {op : Nat} {a b : Int} (ha : -1000000 ≤ a ∧ a ≤ 1000000) (hb : -1000000 ≤ b ∧ b ≤ 1000000) : -1000000000000 ≤ bopr op a b ∧ bopr op a b ≤ 1000000000000 := by
  unfold bopr
  have := prod_b ha hb
  have := tdiv_b (b := b) ha
  repeat' split
  all_goals omega
/-! the class's stack -/
theorem al607 : alen 607 = 11 := by decide +kernel
theorem al608 : alen 608 = 6 := by decide +kernel
theorem al6 : alen 6 = 800 := by decide +kernel
def SK (s : St) : List Int → Prop
  | [] => True
  | x :: r => gI s 607 r.length = iI x ∧ SK s r
theorem SK.un {s s' : St} : ∀ {st : List Int}, SK s st → (∀ k, k < st.length → gI s' 607 k = gI s 607 k) → SK s' st
  | [], _, _ => trivial
  | _ :: st, h, h2 => ⟨(h2 _ (by simp)).trans h.1, SK.un h.2 fun k hk => h2 k (by simp; omega)⟩
def eW (op v : Nat) : Int32 := if op = 0 then nI v else if op = 1 then -1 - nI v else -5 - nI op
theorem pop_ok {s : St} {x : Int} {st : List Int} (h1 : gI s 606 1 = nI (st.length + 1)) (hl : st.length + 1 ≤ 11) (h : SK s (x :: st)) : pf_X8_pop 606 s = some (iI x, sI s 606 1 (nI st.length)) ∧ SK (sI s 606 1 (nI st.length)) st := by
  unfold pf_X8_pop
  rw [h1, nI_pred, bnd_e, gI_at, show pf_X10_at (606 + 1) (nI st.length) _ = _ from at_ok al607 (by omega), bind_some]
  refine ⟨?_, h.2.un fun k _ => gI_ne _ _ _ _ (by decide)⟩
  rw [show gI (sI s 606 1 (nI st.length)) (606 + 1) st.length = gI s 607 st.length from gI_ne _ _ _ _ (by decide), h.1]
theorem push_ok {s : St} {x : Int} {st : List Int} (h1 : gI s 606 1 = nI st.length) (hl : st.length + 1 ≤ 11) (h : SK s st) : ∃ s', pf_X8_push 606 (iI x) s = some s' ∧ Un (fun i => i = 606 ∨ i = 607) s s' ∧ gI s' 606 1 = nI (st.length + 1) ∧ SK s' (x :: st) := by
  unfold pf_X8_push
  rw [h1, show pf_X10_put (606 + 1) (nI st.length) (iI x) s = _ from put_ok al607 (by omega), bind_some, bnd_e]
  refine ⟨_, rfl, Un.trans (Un.sI _ _ (Or.inr rfl)) (Un.sI _ _ (Or.inl rfl)), ?_, ?_, ?_⟩
  · rw [gI_at, gI_ne _ _ _ _ (by decide), h1, nI_1]
  · rw [gI_ne _ _ _ _ (by decide), gI_at]
  · exact h.un fun k hk => by rw [gI_ne _ _ _ _ (by decide), gI_ns _ _ _ (by omega)]
theorem join59 {z : Int} (h : -1000000000000 ≤ z ∧ z ≤ 1000000000000) (σ : St) : pf_X8_join_b59 σ (lI z) = some (iI (lim z)) := by
  unfold pf_X8_join_b59 pf_J9_min_f86c9 pf_J9_max_f86c9 lim
  rw [show (-1000000 : Int64) = lI (-1000000) from rfl, show (1000000 : Int64) = lI 1000000 from rfl]
  by_cases c1 : z < 1000000
  · rw [if_pos (by rw [lI_lt (by omega) (by omega) (by omega) (by omega)]; exact c1), bind_some]
    by_cases c2 : -1000000 < z
    · rw [if_pos (by rw [lI_lt (by omega) (by omega) (by omega) (by omega)]; exact c2), bind_some, lI_to]
      congr 2; omega
    · rw [if_neg (by rw [lI_lt (by omega) (by omega) (by omega) (by omega)]; exact c2), bind_some, lI_to]
      congr 2; omega
  · rw [if_neg (by rw [lI_lt (by omega) (by omega) (by omega) (by omega)]; exact c1), bind_some, if_pos (by decide), bind_some, lI_to]
    congr 2; omega
theorem join_ok {op : Nat} {a b : Int} (h2 : 2 ≤ op) (h5 : op ≤ 5) (ha : -1000000 ≤ a ∧ a ≤ 1000000) (hb : -1000000 ≤ b ∧ b ≤ 1000000) (σ : St) : pf_X8_join (iI a) (eW op 0) (iI b) σ = some (iI (lim (bopr op a b))) := by
  have hz := bopr_b (op := op) ha hb
  unfold pf_X8_join
  rw [lI_of (by omega) (by omega), lI_of (by omega) (by omega), lI_add, lI_sub, lI_mul]
  rcases (by omega : op = 2 ∨ op = 3 ∨ op = 4 ∨ op = 5) with rfl | rfl | rfl | rfl
  · rw [if_pos (by decide), bnd_e]; exact join59 hz σ
  · rw [if_neg (by decide), if_pos (by decide), bnd_e]; exact join59 hz σ
  · rw [if_neg (by decide), if_neg (by decide), if_pos (by decide), bnd_e]; exact join59 hz σ
  · rw [if_neg (by decide), if_neg (by decide), if_neg (by decide)]
    unfold pf_X8_join_b58
    have e0 : (iI b = 0) = (b = 0) := by
      apply propext
      constructor
      · intro e
        have := congrArg Int32.toInt e
        rw [iI_toInt (by omega) (by omega)] at this
        exact this
      · intro e; rw [e]; rfl
    by_cases c : b = 0
    · rw [if_pos (by rw [e0]; exact c)]
      have : bopr 5 a b = 0 := by unfold bopr; simp [c]
      rw [this]
      exact join59 (z := 0) (by omega) σ
    · rw [if_neg (by rw [e0]; exact c)]
      unfold ckL
      rw [if_neg, lI_div ha hb]
      · have : bopr 5 a b = a.tdiv b := by unfold bopr; simp [c]
        rw [this] at hz ⊢
        exact join59 hz σ
      · intro e
        have := congrArg Int64.toInt e
        rw [lI_toInt (by omega) (by omega)] at this
        exact c this
theorem eW_op : ∀ op, 2 ≤ op → op ≤ 5 → eW op 0 < 0 ∧ eW op 0 < -6 := by
  intro op h1 h2
  rcases (by omega : op = 2 ∨ op = 3 ∨ op = 4 ∨ op = 5) with rfl | rfl | rfl | rfl <;> decide
theorem eW_v : ∀ v, v < 6 → eW 1 v < 0 ∧ ¬ eW 1 v < -6 ∧ -1 - eW 1 v = nI v := by decide +kernel
def meM : Nat → Prop := fun i => i = 606 ∨ i = 607
/-- the code fits -/
def okW (F : Nat → Int) (op v : Nat → Nat) (W : Nat) : Prop := ∀ k, k < W → op k ≤ 5 ∧ (op k = 0 → v k ≤ 9999) ∧ (op k = 1 → v k ≤ 5 ∧ -1000000 ≤ F (v k) ∧ F (v k) ≤ 1000000)
theorem measC {σ : St} {F : Nat → Int} {op v : Nat → Nat} {W p : Nat} (ep : alen p = 800) (hp : p < 606) (hW : W ≤ 800) (hc : ∀ k, k < W → gI σ p k = eW (op k) (if op k ≤ 1 then v k else 0)) (hs : ∀ k, k < 6 → gI σ 608 k = iI (F k)) (ho : okW F op v W) (hh : hWf op W 0 0 = some 1) : ∃ σ' x, pf_X8_measure 606 p (nI W) σ = some (iI x, σ') ∧ Un meM σ σ' ∧ evW F op v W 0 [] = [x] ∧ (-1000000 ≤ x ∧ x ≤ 1000000) := by
  unfold pf_X8_measure
  rw [bnd_e]
  refine up_C (fun n i s => pf_X8_measure_L7 pf_X8_measure_b89 n 606 p (nI W) (nI i) s) W (fun i s => Un meM σ s ∧ ∃ st, SK s st ∧ AB st ∧ gI s 606 1 = nI st.length ∧ st.length ≤ 11 ∧ hWf op (W - i) i st.length = some 1 ∧ evW F op v W 0 [] = evW F op v (W - i) i st) (fun r => ∃ σ' x, r = some (iI x, σ') ∧ Un meM σ σ' ∧ evW F op v W 0 [] = [x] ∧ (-1000000 ≤ x ∧ x ≤ 1000000)) ?_ ?_ FU 0 (sI σ 606 1 0) (Nat.zero_le _) ⟨Un.sI _ _ (Or.inl rfl), [], trivial, fun x hx => absurd hx List.not_mem_nil, gI_at _ _ _ _, by decide, hh, rfl⟩ (lt_FU (by omega))
  · intro n s ⟨h1, st, h2, h3, h4, h5, h6, h7⟩
    rw [Nat.sub_self] at h6 h7
    have hl : st.length = 1 := Option.some.inj h6
    match st, hl, h2, h3, h4, h7 with
    | [x], _, h2, h3, h4, h7 =>
      obtain ⟨g1, g2⟩ := pop_ok (st := []) h4 (by decide) h2
      refine ⟨sI s 606 1 (nI ([] : List Int).length), x, ?_, h1.trans (Un.sI _ _ (Or.inl rfl)), h7, h3.hd⟩
      show pf_X8_measure_L7 pf_X8_measure_b89 (n + 1) 606 p (nI W) (nI W) s = _
      rw [pf_X8_measure_L7, if_pos (nI_le (Nat.le_refl _) (by omega)), pf_X8_measure_b89, g1, bnd2_some]
  · intro n i s hi ⟨h1, st, h2, h3, h4, h5, h6, h7⟩
    obtain ⟨o1, o2, o3⟩ := ho i hi
    right
    show ∃ s', pf_X8_measure_L7 pf_X8_measure_b89 (n + 1) 606 p (nI W) (nI i) s = pf_X8_measure_L7 pf_X8_measure_b89 n 606 p (nI W) (nI (i + 1)) s' ∧ _
    rw [pf_X8_measure_L7, if_neg (nI_ge hi (by omega)), at_ok ep (by omega), bind_some, h1.I (show ¬ meM p from fun q => by unfold meM at q; omega), hc i hi]
    rw [show W - i = (W - (i + 1)) + 1 by omega, hWf] at h6
    rw [show W - i = (W - (i + 1)) + 1 by omega, evW] at h7
    by_cases c1 : op i ≤ 1
    · rw [if_pos c1] at h6
      split at h6
      · rename_i hl
        rw [if_pos c1]
        have hv : stW F (op i) (v i) st = (if op i = 0 then (v i : Int) else F (v i)) :: st := by unfold stW; rw [if_pos c1]
        rw [hv] at h7
        by_cases c0 : op i = 0
        · rw [if_pos c0] at h7
          have hv9 := o2 c0
          obtain ⟨s', g1, g2, g3, g4⟩ := push_ok (x := (v i : Int)) h4 hl h2
          refine ⟨s', ?_, h1.trans g2, _, g4, h3.cons (by omega), g3, hl, h6, h7⟩
          rw [show eW (op i) (v i) = nI (v i) from by unfold eW; rw [if_pos c0], if_neg (nI_pos (by omega)), ← iI_nat (v i), g1, bind_some, pf_X8_measure_b83, bnd_e, nI_1]
        · have c01 : op i = 1 := by omega
          rw [if_neg c0] at h7
          obtain ⟨hv5, hF⟩ := o3 c01
          obtain ⟨e1, e2, e3⟩ := eW_v (v i) (by omega)
          obtain ⟨s', g1, g2, g3, g4⟩ := push_ok (x := F (v i)) h4 hl h2
          refine ⟨s', ?_, h1.trans g2, _, g4, h3.cons hF, g3, hl, h6, h7⟩
          rw [c01, if_pos e1, if_neg e2, e3, show pf_X10_at (606 + 2) (nI (v i)) s = _ from at_ok al608 (by omega), bind_some, show gI s (606 + 2) (v i) = iI (F (v i)) from by rw [h1.I (show ¬ meM (606 + 2) from fun q => by unfold meM at q; omega)]; exact hs _ (by omega), g1, bind_some, pf_X8_measure_b83, bnd_e, nI_1]
      · cases h6
    · rw [if_neg c1] at h6
      rw [if_neg c1]
      split at h6
      · rename_i hl
        match st, hl, h2, h3, h4, h5, h6, h7 with
        | b :: a :: r, _, h2, h3, h4, h5, h6, h7 =>
          have l5 : r.length + 2 ≤ 11 := by simpa using h5
          obtain ⟨e1, e2⟩ := eW_op (op i) (by omega) o1
          obtain ⟨g1, g2⟩ := pop_ok (st := a :: r) h4 (by simp; omega) h2
          obtain ⟨k1, k2⟩ := pop_ok (s := sI s 606 1 (nI (a :: r).length)) (st := r) (gI_at _ _ _ _) (by omega) g2
          have hst : stW F (op i) (v i) (b :: a :: r) = lim (bopr (op i) a b) :: r := by unfold stW; rw [if_neg c1]
          rw [hst] at h7
          obtain ⟨s', p1, p2, p3, p4⟩ := push_ok (s := sI (sI s 606 1 (nI (a :: r).length)) 606 1 (nI r.length)) (x := lim (bopr (op i) a b)) (gI_at _ _ _ _) (by omega) k2
          refine ⟨s', ?_, h1.trans (Un.trans (Un.sI _ _ (Or.inl rfl)) (Un.trans (Un.sI _ _ (Or.inl rfl)) p2)), _, p4, h3.tl.tl.cons (lim_b _), p3, by simp; omega, h6, h7⟩
          rw [if_pos e1, if_pos e2, g1, bnd2_some, k1, bnd2_some, join_ok (by omega) o1 h3.tl.hd h3.hd, bind_some, p1, bind_some, pf_X8_measure_b83, bnd_e, nI_1]
      · cases h6
