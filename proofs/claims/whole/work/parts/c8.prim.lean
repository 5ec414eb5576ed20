/-! THE TEXT: the reference's first readings -/
def noA : Nat → Prop := fun _ => False
def b16 : Nat → Prop := fun k => k = 16
section
variable {T : Nat → Int32} {L : Nat}
def RP (τ : St) (T : Nat → Int32) (L p : Nat) : Prop := L ≤ 800 ∧ p ≤ L ∧ gI τ 609 15 = nI L ∧ gI τ 609 16 = nI p ∧ ∀ k, k < L → gI τ 618 k = T k
theorem RP.to {τ : St} {p q : Nat} (h : RP τ T L p) (hq : q ≤ L) : RP (sI τ 609 16 (nI q)) T L q := ⟨h.1, hq, by rw [gI_ns _ _ _ (by decide)]; exact h.2.2.1, gI_at _ _ _ _, fun k hk => by rw [gI_ne _ _ _ _ (by omega)]; exact h.2.2.2.2 k hk⟩
theorem here_ok {τ : St} {p : Nat} (h : RP τ T L p) : ∃ τ', pf_X11_here 609 τ = some (if ru T L 0 p < L then T (ru T L 0 p) else -1, τ') ∧ MU noA b16 τ τ' ∧ RP τ' T L (ru T L 0 p) := by
  have h8 := h.1
  have hp := h.2.1
  have fin : ∀ t q, RP t T L q → pf_X11_here_b38 609 t = some (if q < L then T q else -1, t) := fun t q hq => by
    have := hq.2.1
    unfold pf_X11_here_b38
    rw [hq.2.2.1, hq.2.2.2.1]
    by_cases c : q < L
    · rw [if_neg (nI_ge c (by omega)), if_pos c, show ckI (nI q) (alen (609 + 9)) _ = _ from ckA al618 (by omega), nI_clamp (by omega), show gI t (609 + 9) q = T q from hq.2.2.2.2 q c]
    · rw [if_pos (nI_le (by omega) (by omega)), if_neg c]
  have is32 : ∀ x : Int32, (x = 32) = (ck x = 0) := fun x => by
    unfold ck
    apply propext
    constructor
    · intro e; rw [if_pos e]
    · intro e
      by_cases c : x = 32
      · exact c
      · rw [if_neg c] at e
        revert e
        repeat' split
        all_goals intro e; omega
  unfold pf_X11_here
  refine up_C (fun n i t => pf_X11_here_L0 pf_X11_here_b38 n 609 t) L (fun i t => p ≤ i ∧ RP t T L i ∧ MU noA b16 τ t ∧ ∀ j, p ≤ j → j < i → ck (T j) = 0) (fun x => ∃ τ', x = some (if ru T L 0 p < L then T (ru T L 0 p) else -1, τ') ∧ MU noA b16 τ τ' ∧ RP τ' T L (ru T L 0 p)) ?_ ?_ FU p τ hp ⟨Nat.le_refl _, h, MU.refl _ _ _, fun j a b => by omega⟩ (lt_FU (by omega))
  · intro n t ⟨h1, h2, h3, h4⟩
    have e : ru T L 0 p = L := ru_uniq h1 (fun j a b => ⟨b, h4 j a b⟩) (fun q => by omega)
    rw [e]
    refine ⟨t, ?_, h3, h2⟩
    show pf_X11_here_L0 pf_X11_here_b38 (n + 1) 609 t = _
    rw [pf_X11_here_L0, h2.2.2.1, h2.2.2.2.1, if_pos (nI_le (Nat.le_refl _) (by omega)), fin t L h2]
  · intro n i t hi ⟨h1, h2, h3, h4⟩
    have st : pf_X11_here_L0 pf_X11_here_b38 (n + 1) 609 t = if T i = 32 then pf_X11_here_L0 pf_X11_here_b38 n 609 (sI t 609 16 (nI (i + 1))) else some (if i < L then T i else -1, t) := by
      rw [pf_X11_here_L0, h2.2.2.1, h2.2.2.2.1, if_neg (nI_ge hi (by omega)), show ckI (nI i) (alen (609 + 9)) _ = _ from ckA al618 (by omega), nI_clamp (by omega), show gI t (609 + 9) i = T i from h2.2.2.2.2 i hi, bnd_e, nI_1, fin t i h2]
    by_cases c : T i = 32
    · refine Or.inr ⟨sI t 609 16 (nI (i + 1)), ?_, by omega, h2.to hi, h3.trans (MU.fld _ _ rfl), fun j a b => ?_⟩
      · show pf_X11_here_L0 pf_X11_here_b38 (n + 1) 609 t = _
        rw [st, if_pos c]
      · by_cases x : j = i
        · subst x; exact (is32 _).mp c
        · exact h4 j a (by omega)
    · left
      have e : ru T L 0 p = i := ru_uniq h1 (fun j a b => ⟨by omega, h4 j a b⟩) (fun q => c ((is32 _).mpr q.2))
      rw [e]
      refine ⟨t, ?_, h3, h2⟩
      show pf_X11_here_L0 pf_X11_here_b38 (n + 1) 609 t = _
      rw [st, if_neg c]
/-- a word of the text: w are the letters from q on -/
def isW (T : Nat → Int32) (L w q : Nat) : Bool := decide (ru T L 2 q - q = stL.getD w 0) && (List.range (stL.getD w 0)).all fun j => decide (T (q + j) = (stB.getD w []).getD j 0)
theorem isW_iff {w q : Nat} : isW T L w q = true ↔ ru T L 2 q - q = stL.getD w 0 ∧ ∀ j, j < stL.getD w 0 → T (q + j) = (stB.getD w []).getD j 0 := by
  unfold isW
  simp [List.all_eq_true]
theorem stL_6 : ∀ w, stL.getD w 0 ≤ 6 := by
  intro w
  by_cases h : w < 49
  · have : ∀ w, w < 49 → stL.getD w 0 ≤ 6 := by decide +kernel
    exact this w h
  · have : stL.length = 49 := rfl
    rw [List.getD_eq_getElem?_getD, List.getElem?_eq_none (show stL.length ≤ w by omega)]
    exact Nat.zero_le _
theorem takes_ok {τ : St} {p w : Nat} (h : RP τ T L p) : ∃ τ', pf_X11_takes 609 w τ = some (b2i (isW T L w (ru T L 0 p)), τ') ∧ MU noA b16 τ τ' ∧ RP τ' T L (if isW T L w (ru T L 0 p) then ru T L 0 p + stL.getD w 0 else ru T L 0 p) := by
  have h8 := h.1
  obtain ⟨τ1, g1, g2, g3⟩ := here_ok h
  generalize ru T L 0 p = q at *
  have hq := g3.2.1
  have h6 := stL_6 w
  obtain ⟨r1, r2, r3, r4⟩ := ru_spec (T := T) (L := L) 2 q
  have r4' := r4 hq
  generalize hz : ru T L 2 q = z at *
  unfold pf_X11_takes
  rw [g1, bnd2_some]
  have b43 : pf_X11_takes_b43 609 w (nI (z - q)) τ1 = some (b2i (isW T L w q), if isW T L w q then sI τ1 609 16 (nI (q + stL.getD w 0)) else τ1) := by
    unfold pf_X11_takes_b43
    by_cases c : z - q = stL.getD w 0
    · rw [if_pos (by rw [c]), c]
      refine up_C (fun n j (_ : Unit) => pf_X11_takes_L55 pf_X11_takes_b87 n 609 w (nI (stL.getD w 0)) (nI j) τ1) (stL.getD w 0) (fun j _ => ∀ k, k < j → T (q + k) = (stB.getD w []).getD k 0) (fun x => x = some (b2i (isW T L w q), if isW T L w q then sI τ1 609 16 (nI (q + stL.getD w 0)) else τ1)) ?_ ?_ FU 0 () (Nat.zero_le _) (fun k hk => absurd hk (Nat.not_lt_zero _)) (lt_FU (by omega))
      · intro n _ h1
        have e : isW T L w q = true := isW_iff.mpr ⟨by rw [hz]; exact c, h1⟩
        show pf_X11_takes_L55 pf_X11_takes_b87 (n + 1) 609 w (nI (stL.getD w 0)) (nI (stL.getD w 0)) τ1 = _
        rw [pf_X11_takes_L55, if_pos (nI_le (Nat.le_refl _) (by omega)), pf_X11_takes_b87, g3.2.2.2.1, nI_add, bnd_e, e]; rfl
      · intro n j _ hj h1
        have st : pf_X11_takes_L55 pf_X11_takes_b87 (n + 1) 609 w (nI (stL.getD w 0)) (nI j) τ1 = if T (q + j) = (stB.getD w []).getD j 0 then pf_X11_takes_L55 pf_X11_takes_b87 n 609 w (nI (stL.getD w 0)) (nI (j + 1)) τ1 else some (0, τ1) := by
          rw [pf_X11_takes_L55, if_neg (nI_ge hj (by omega)), g3.2.2.2.1, nI_add, show ckI (nI (q + j)) (alen (609 + 9)) _ = _ from ckA al618 (by omega), ckI_nI hj (by omega), nI_clamp (by omega), nI_clamp (by omega), show gI τ1 (609 + 9) (q + j) = T (q + j) from g3.2.2.2.2 _ (by omega), bnd_e, nI_1]
        by_cases x : T (q + j) = (stB.getD w []).getD j 0
        · refine Or.inr ⟨(), ?_, fun k hk => ?_⟩
          · show pf_X11_takes_L55 pf_X11_takes_b87 (n + 1) 609 w (nI (stL.getD w 0)) (nI j) τ1 = pf_X11_takes_L55 pf_X11_takes_b87 n 609 w (nI (stL.getD w 0)) (nI (j + 1)) τ1
            rw [st, if_pos x]
          · by_cases y : k = j
            · subst y; exact x
            · exact h1 k (by omega)
        · left
          have e : isW T L w q = false := by
            cases m : isW T L w q with
            | false => rfl
            | true => exact absurd ((isW_iff.mp m).2 j hj) x
          show pf_X11_takes_L55 pf_X11_takes_b87 (n + 1) 609 w (nI (stL.getD w 0)) (nI j) τ1 = _
          rw [st, if_neg x, e]; rfl
    · have e : isW T L w q = false := by
        cases m : isW T L w q with
        | false => rfl
        | true => exact absurd ((isW_iff.mp m).1) (by rw [hz]; exact c)
      rw [if_neg (by rw [nI_eq (by omega) (by omega)]; exact c), e]; rfl
  have key : pf_X11_takes_L7 pf_X11_takes_b43 FU 609 w 0 τ1 = pf_X11_takes_b43 609 w (nI (z - q)) τ1 := by
    refine up_C (fun n j (_ : Unit) => pf_X11_takes_L7 pf_X11_takes_b43 n 609 w (nI j) τ1) (z - q) (fun _ _ => True) (fun x => x = pf_X11_takes_b43 609 w (nI (z - q)) τ1) ?_ ?_ FU 0 () (Nat.zero_le _) trivial (lt_FU (by omega))
    · intro n _ _
      show pf_X11_takes_L7 pf_X11_takes_b43 (n + 1) 609 w (nI (z - q)) τ1 = _
      rw [pf_X11_takes_L7, g3.2.2.1, g3.2.2.2.1, nI_add, show q + (z - q) = z by omega]
      by_cases c : z < L
      · rw [if_neg (nI_ge c (by omega)), show ckI (nI z) (alen (609 + 9)) _ = _ from ckA al618 (by omega), nI_clamp (by omega), show gI τ1 (609 + 9) z = T z from g3.2.2.2.2 _ c, isL_ok, bind_some, if_b2, decide_eq_false (fun e => r3 ⟨c, e⟩), if_neg Bool.false_ne_true]
      · rw [if_pos (nI_le (by omega) (by omega))]
    · intro n j _ hj _
      refine Or.inr ⟨(), ?_, trivial⟩
      obtain ⟨x1, x2⟩ := r2 (q + j) (by omega) (by omega)
      show pf_X11_takes_L7 pf_X11_takes_b43 (n + 1) 609 w (nI j) τ1 = pf_X11_takes_L7 pf_X11_takes_b43 n 609 w (nI (j + 1)) τ1
      rw [pf_X11_takes_L7, g3.2.2.1, g3.2.2.2.1, nI_add, if_neg (nI_ge x1 (by omega)), show ckI (nI (q + j)) (alen (609 + 9)) _ = _ from ckA al618 (by omega), nI_clamp (by omega), show gI τ1 (609 + 9) (q + j) = T (q + j) from g3.2.2.2.2 _ x1, isL_ok, bind_some, if_b2, decide_eq_true x2, if_pos rfl, bnd_e, nI_1]
  rw [key, b43]
  cases e : isW T L w q with
  | false => exact ⟨τ1, rfl, g2, g3⟩
  | true =>
    refine ⟨_, rfl, g2.trans (MU.fld _ _ rfl), ?_⟩
    have := (isW_iff.mp e).1
    rw [if_pos rfl]
    exact g3.to (by omega)
/-- digits -/
def b1920 : Nat → Prop := fun k => k = 16 ∨ k = 19 ∨ k = 20
theorem digL_ok {τ : St} {a : Nat} (h : RP τ T L a) (hb : TB8 T L) (h19 : gI τ 609 19 = nI 0) : ∃ τ', pf_X11_digits_L34 FU 609 τ = some (1, τ') ∧ MU noA (fun k => k = 16 ∨ k = 19) τ τ' ∧ RP τ' T L (ru T L 1 a) ∧ gI τ' 609 19 = nI (rvl T a (ru T L 1 a - a)) := by
  have h8 := h.1
  obtain ⟨r1, r2, r3, r4⟩ := ru_spec (T := T) (L := L) 1 a
  have r4' := r4 h.2.1
  generalize hz : ru T L 1 a = z at *
  have hdig : ∀ j, j < z - a → 48 ≤ Nn (T (a + j)) ∧ Nn (T (a + j)) ≤ 57 := fun j hj => dig_m (hb _ (by omega)) (r2 (a + j) (by omega) (by omega)).2
  refine up_C (fun n j t => pf_X11_digits_L34 n 609 t) (z - a) (fun j t => RP t T L (a + j) ∧ gI t 609 19 = nI (rvl T a j) ∧ MU noA (fun k => k = 16 ∨ k = 19) τ t) (fun x => ∃ τ', x = some (1, τ') ∧ MU noA (fun k => k = 16 ∨ k = 19) τ τ' ∧ RP τ' T L z ∧ gI τ' 609 19 = nI (rvl T a (z - a))) ?_ ?_ FU 0 τ (Nat.zero_le _) ⟨h, h19, MU.refl _ _ _⟩ (lt_FU (by omega))
  · intro n t ⟨h1, h2, h3⟩
    rw [show a + (z - a) = z by omega] at h1
    refine ⟨t, ?_, h3, h1, h2⟩
    show pf_X11_digits_L34 (n + 1) 609 t = _
    rw [pf_X11_digits_L34, h1.2.2.1, h1.2.2.2.1]
    by_cases c : z < L
    · rw [if_neg (nI_ge c (by omega)), show ckI (nI z) (alen (609 + 9)) _ = _ from ckA al618 (by omega), nI_clamp (by omega), show gI t (609 + 9) z = T z from h1.2.2.2.2 _ c, isD_ok, bind_some, if_b2, decide_eq_false (fun e => r3 ⟨c, e⟩), if_neg Bool.false_ne_true]
    · rw [if_pos (nI_le (by omega) (by omega))]
  · intro n j t hj ⟨h1, h2, h3⟩
    obtain ⟨x1, x2⟩ := r2 (a + j) (by omega) (by omega)
    obtain ⟨d1, d2⟩ := hdig j hj
    obtain ⟨m, eT, hm1, hm⟩ := (hb (a + j) x1).get
    rw [hm] at d1 d2
    have hv := (cr_vl (T := T) (a := a) j (fun i hi => (hdig i (by omega)).2)).2
    have b97 : ∀ w, pf_X11_digits_b97 (pf_X11_digits_L34 n) 609 609 (nI w) t = pf_X11_digits_L34 n 609 (sI (sI t 609 19 (nI w)) 609 16 (nI (a + (j + 1)))) := fun w => by
      unfold pf_X11_digits_b97
      rw [bnd_e, gI_ns _ _ _ (by decide), h1.2.2.2.1, nI_1, bnd_e]; rfl
    refine Or.inr ⟨sI (sI t 609 19 (nI (rvl T a (j + 1)))) 609 16 (nI (a + (j + 1))), ?_, ⟨h1.1, by omega, by rw [gI_ns _ _ _ (by decide), gI_ns _ _ _ (by decide)]; exact h1.2.2.1, gI_at _ _ _ _, fun k hk => by rw [gI_ne _ _ _ _ (by omega), gI_ne _ _ _ _ (by omega)]; exact h1.2.2.2.2 k hk⟩, by rw [gI_ns _ _ _ (by decide), gI_at], h3.trans ((MU.fld (B := fun k => k = 16 ∨ k = 19) _ _ (Or.inr rfl)).trans (MU.fld _ _ (Or.inl rfl)))⟩
    show pf_X11_digits_L34 (n + 1) 609 t = pf_X11_digits_L34 n 609 _
    rw [pf_X11_digits_L34, h1.2.2.1, h1.2.2.2.1, if_neg (nI_ge x1 (by omega)), show ckI (nI (a + j)) (alen (609 + 9)) _ = _ from ckA al618 (by omega), nI_clamp (by omega), show gI t (609 + 9) (a + j) = T (a + j) from h1.2.2.2.2 _ x1, isD_ok, bind_some, if_b2, decide_eq_true x2, if_pos rfl, h2, show (100000 : Int32) = nI 100000 from rfl, rvl, hm]
    by_cases c : rvl T a j ≤ 100000
    · rw [if_pos (nI_le c (by omega)), if_pos c, show ckI (nI (a + j)) (alen (609 + 9)) _ = _ from ckA al618 (by omega), eT, show (10 : Int32) = nI 10 from rfl, pk_mul, nI_add, show (48 : Int32) = nI 48 from rfl, pk_sub (by omega), show 10 * rvl T a j + m - 48 = 10 * rvl T a j + (m - 48) by omega]
      exact b97 _
    · rw [if_neg (nI_ge (by omega) (by omega)), if_neg c]
      exact b97 _
end
