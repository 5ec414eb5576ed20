/-! THE CLASS'S READER: its first readings -/
section
variable {T : Nat → Int32} {L N k : Nat} {σ : St}
def CP (σ : St) (T : Nat → Int32) (L N k : Nat) : Prop := SCD σ T L N ∧ k ≤ N ∧ gI σ 595 4 = nI k ∧ gI σ 595 5 = 0 ∧ gI σ 595 6 = -1 ∧ L ≤ 800
def CE (σ : St) (c : Int32) (o : Nat) : Prop := gI σ 595 5 = c ∧ c ≠ 0 ∧ gI σ 595 6 = nI o
theorem SCD.s (h : SCD σ T L N) (j : Nat) (v : Int32) (hj : j ≠ 3) : SCD (sI σ 595 j v) T L N := by
  obtain ⟨⟨a1, a2⟩, a3, a4, a5⟩ := h
  refine ⟨⟨by rw [gI_ns _ _ _ (Ne.symm hj)]; exact a1, fun i hi => ?_⟩, a3, a4, a5⟩
  rw [gI_ne _ _ _ _ (by omega), gK_sI, gI_ne _ _ _ _ (by omega)]
  exact a2 i hi
theorem SCD.un {M : Nat → Prop} {σ' : St} (h : SCD σ T L N) (u : Un M σ σ') (m3 : gI σ' 595 3 = gI σ 595 3) (m : ¬ M 596 ∧ ¬ M 597 ∧ ¬ M 598) : SCD σ' T L N := by
  obtain ⟨⟨a1, a2⟩, a3, a4, a5⟩ := h
  refine ⟨⟨m3.trans a1, fun i hi => ?_⟩, a3, a4, a5⟩
  rw [u.I m.2.1, u.K m.1, u.I m.2.2]
  exact a2 i hi
theorem CP.un {M : Nat → Prop} {σ' : St} (h : CP σ T L N k) (u : Un M σ σ') (m : ¬ M 595 ∧ ¬ M 596 ∧ ¬ M 597 ∧ ¬ M 598) : CP σ' T L N k := by
  obtain ⟨a1, a2, a3, a4, a5, a6⟩ := h
  have e : gI σ' 595 = gI σ 595 := u.I m.1
  exact ⟨a1.un u (by rw [e]) m.2, a2, by rw [e]; exact a3, by rw [e]; exact a4, by rw [e]; exact a5, a6⟩
theorem CE.un {M : Nat → Prop} {σ' : St} {c : Int32} {o : Nat} (h : CE σ c o) (u : Un M σ σ') (m : ¬ M 595) : CE σ' c o := by
  have e : gI σ' 595 = gI σ 595 := u.I m
  exact ⟨by rw [e]; exact h.1, h.2.1, by rw [e]; exact h.2.2⟩
theorem CE.s {c : Int32} {o : Nat} (h : CE σ c o) (j : Nat) (v : Int32) (h5 : j ≠ 5) (h6 : j ≠ 6) : CE (sI σ 595 j v) c o := ⟨by rw [gI_ns _ _ _ (Ne.symm h5)]; exact h.1, h.2.1, by rw [gI_ns _ _ _ (Ne.symm h6)]; exact h.2.2⟩
theorem CP.le (h : CP σ T L N k) : tst T L k ≤ L := by
  rcases Nat.lt_or_ge k N with x | x
  · exact Nat.le_of_lt (h.1.2.2.1 k x)
  · rw [show k = N by have := h.2.1; omega, h.1.2.1]; omega
theorem CP.lt (h : CP σ T L N k) : tst T L k < L ↔ k < N := by
  constructor
  · intro q
    rcases Nat.lt_or_ge k N with x | x
    · exact x
    · rw [show k = N by have := h.2.1; omega, h.1.2.1] at q; omega
  · exact h.1.2.2.1 k
theorem CP.N8 (h : CP σ T L N k) : N ≤ 800 := by have := h.1.2.2.2; have := h.2.2.2.2.2; omega
theorem CP.next (h : CP σ T L N k) (hk : k < N) : CP (sI σ 595 4 (nI (k + 1))) T L N (k + 1) := by
  obtain ⟨a1, a2, a3, a4, a5, a6⟩ := h
  exact ⟨a1.s 4 _ (by omega), hk, gI_at _ _ _ _, by rw [gI_ns _ _ _ (by decide)]; exact a4, by rw [gI_ns _ _ _ (by decide)]; exact a5, a6⟩
theorem ahead_ok (h : CP σ T L N k) : pf_X6_ahead 595 σ = some (some (tkd T L k)) := by
  have n8 := h.N8
  obtain ⟨a1, a2, a3, a4, a5, a6⟩ := h
  unfold pf_X6_ahead
  rw [a4, if_pos rfl, a3, if_neg (nI_pos (by omega)), a1.1.1, if_neg (nI_ge (by omega) (by omega)), show (800 : Int32) = nI 800 from rfl, if_pos (nI_le (by omega) (by omega)), show ckI (nI k) (alen (595 + 1)) _ = _ from ckA al596 (by omega), nI_clamp (by omega), show gK σ (595 + 1) k = some (tkd T L k) from (a1.1.2 k (by omega)).2.1]
theorem ahead_e {c : Int32} {o : Nat} (h : CE σ c o) : pf_X6_ahead 595 σ = some (some 3) := by
  unfold pf_X6_ahead
  rw [h.1, if_neg h.2.1]
theorem start_ok (h : CP σ T L N k) : pf_X6_start 595 σ = some (nI (tst T L k)) := by
  have n8 := h.N8
  obtain ⟨a1, a2, a3, a4, a5, a6⟩ := h
  unfold pf_X6_start
  rw [a3, if_neg (nI_pos (by omega)), show (800 : Int32) = nI 800 from rfl, if_neg (nI_nlt (by omega) (by omega)), show ckI (nI k) (alen (595 + 2)) _ = _ from ckA al597 (by omega), nI_clamp (by omega), show gI σ (595 + 2) k = nI (tst T L k) from (a1.1.2 k (by omega)).1]
theorem start_e (σ : St) : ∃ r, pf_X6_start 595 σ = some r := by
  unfold pf_X6_start
  generalize gI σ 595 4 = x
  rcases v_cases x (n := 801) (by omega) with hv | ⟨j, hj, rfl⟩
  · by_cases c : x < 0
    · rw [if_pos c]; exact ⟨_, rfl⟩
    · rw [if_neg c]
      have : (800 : Int32) < x := by
        have h2 := hv.resolve_left c
        rw [Int32.le_iff_toInt_le, nI_toInt (by omega)] at h2
        rw [Int32.lt_iff_toInt_lt]
        have e1 : (800 : Int32).toInt = 800 := by decide
        omega
      rw [if_pos this]; exact ⟨_, rfl⟩
  · rw [if_neg (nI_pos (by omega)), show (800 : Int32) = nI 800 from rfl, if_neg (nI_nlt (by omega) (by omega)), show ckI (nI j) (alen (595 + 2)) _ = _ from ckA al597 (by omega)]
    exact ⟨_, rfl⟩
def erS (σ : St) (c : Int32) (o : Nat) : St := sI (sI σ 595 5 c) 595 6 (nI o)
theorem erS_CE (σ : St) {c : Int32} (hc : c ≠ 0) (o : Nat) : CE (erS σ c o) c o := ⟨by unfold erS; rw [gI_ns _ _ _ (by decide), gI_at], hc, gI_at _ _ _ _⟩
theorem erS_un (σ : St) (c : Int32) (o : Nat) : Un (fun i => i = 595) σ (erS σ c o) := Un.trans (M := fun i => i = 595) (Un.sI _ _ rfl) (Un.sI _ _ rfl)
theorem fail_ok (h : CP σ T L N k) (c : Int32) (o : Nat) : pf_X6_fail 595 c (nI o) σ = some (erS σ c o) := by
  unfold pf_X6_fail
  rw [h.2.2.2.1, if_pos rfl]; rfl
theorem fail_e {c : Int32} {o : Nat} (h : CE σ c o) (c' v : Int32) : pf_X6_fail 595 c' v σ = some σ := by
  unfold pf_X6_fail
  rw [h.1, if_neg h.2.1]
theorem take_ok (h : CP σ T L N k) (i : Nat) : pf_X6_take 595 (some i) σ = some (b2i (decide (tkd T L k = i)), if tkd T L k = i then sI σ 595 4 (nI (k + 1)) else σ) := by
  unfold pf_X6_take
  rw [ahead_ok h, bind_some]
  by_cases c : tkd T L k = i
  · rw [if_pos (by rw [c]), if_pos c, decide_eq_true c, h.2.2.1, nI_1, bnd_e]; rfl
  · rw [if_neg (fun e => c (Option.some.inj e)), if_neg c, decide_eq_false c]; rfl
theorem take_e {c : Int32} {o i : Nat} (h : CE σ c o) (hi : i ≠ 3) : pf_X6_take 595 (some i) σ = some (0, σ) := by
  unfold pf_X6_take
  rw [ahead_e h, bind_some, if_neg (fun e => hi (Option.some.inj e).symm)]
theorem expect_ok (h : CP σ T L N k) (i : Nat) : pf_X6_expect 595 (some i) σ = some (if tkd T L k = i then sI σ 595 4 (nI (k + 1)) else erS σ (-2) (tst T L k)) := by
  unfold pf_X6_expect
  rw [ahead_ok h, bind_some]
  by_cases c : tkd T L k = i
  · rw [if_pos (by rw [c]), if_pos c, h.2.2.1, nI_1, bnd_e]
  · rw [if_neg (fun e => c (Option.some.inj e)), if_neg c, start_ok h, bind_some, fail_ok h, bind_some]
theorem expect_e {c : Int32} {o i : Nat} (h : CE σ c o) (hi : i ≠ 3) : pf_X6_expect 595 (some i) σ = some σ := by
  obtain ⟨r, hr⟩ := start_e σ
  unfold pf_X6_expect
  rw [ahead_e h, bind_some, if_neg (fun e => hi (Option.some.inj e).symm), hr, bind_some, fail_e h, bind_some]
/-- a number within bounds -/
def nvl (T : Nat → Int32) (L k : Nat) : Nat := cvl T (tst T L k) (re T L (tst T L k) - tst T L k)
theorem number_ok (h : CP σ T L N k) {lo hi : Nat} (hl : lo ≤ hi) (hh : hi ≤ 100000) : pf_X6_number 595 (nI lo) (nI hi) σ = some (if tkd T L k = 0 then (if lo ≤ nvl T L k ∧ nvl T L k ≤ hi then (nI (nvl T L k), sI σ 595 4 (nI (k + 1))) else (nI lo, erS (sI σ 595 4 (nI (k + 1))) (-3) (tst T L k))) else (nI lo, erS σ (-2) (tst T L k))) := by
  have n8 := h.N8
  have hk := h.2.1
  unfold pf_X6_number
  rw [start_ok h, bind_some, ahead_ok h, bind_some]
  by_cases c : tkd T L k = 0
  · have e8 : gI σ 598 k = nI (nvl T L k) := (h.1.1.2 k (by omega)).2.2 c
    have hv := cvl_le T (tst T L k) (re T L (tst T L k) - tst T L k)
    have hv' : nvl T L k ≤ 1000000 := hv
    rw [if_pos (by rw [c]), if_pos c, h.2.2.1, show pf_X10_at (595 + 3) (nI k) σ = _ from at_ok al598 (by omega), bind_some, show gI σ (595 + 3) k = _ from e8, nI_1, bnd_e]
    have b59 : pf_X6_number_b59 595 (nI lo) (nI (tst T L k)) (sI σ 595 4 (nI (k + 1))) = some (nI lo, erS (sI σ 595 4 (nI (k + 1))) (-3) (tst T L k)) := by
      unfold pf_X6_number_b59 pf_X6_fail
      rw [gI_ns _ _ _ (by decide), h.2.2.2.1, if_pos rfl]; rfl
    by_cases c1 : lo ≤ nvl T L k
    · rw [if_neg (nI_nlt c1 (by omega))]
      by_cases c2 : nvl T L k ≤ hi
      · rw [if_pos (nI_le c2 (by omega)), if_pos ⟨c1, c2⟩]
      · rw [if_neg (nI_ge (by omega) (by omega)), if_neg (fun q => c2 q.2), b59]
    · rw [if_pos (nI_lt (by omega) (by omega)), if_neg (fun q => c1 q.1), b59]
  · rw [if_neg (fun e => c (Option.some.inj e)), if_neg c, fail_ok h, bind_some]
theorem number_e {c : Int32} {o : Nat} (h : CE σ c o) (lo hi : Int32) : pf_X6_number 595 lo hi σ = some (lo, σ) := by
  obtain ⟨r, hr⟩ := start_e σ
  unfold pf_X6_number
  rw [hr, bind_some, ahead_e h, bind_some, if_neg (by decide), fail_e h, bind_some]
theorem open_ok (h : CP σ T L N k) {d : Nat} (hd : d ≤ 800) : pf_X6_open 595 (nI d) σ = some (if tkd T L k = 26 then (if d < 4 then (1, sI σ 595 4 (nI (k + 1))) else (0, sI (erS σ (-6) (tst T L k)) 595 4 (nI (k + 1)))) else (0, sI (erS σ (-2) (tst T L k)) 595 4 (nI (k + 1)))) := by
  have b38 : ∀ c, c ≠ 0 → ∀ o, pf_X6_open_b38 595 (erS σ c o) = some (0, sI (erS σ c o) 595 4 (nI (k + 1))) := fun c hc o => by
    unfold pf_X6_open_b38
    rw [show gI (erS σ c o) 595 4 = nI k by unfold erS; rw [gI_ns _ _ _ (by decide), gI_ns _ _ _ (by decide)]; exact h.2.2.1, nI_1, bnd_e, gI_ns _ _ _ (by decide), (erS_CE σ hc o).1, if_neg hc]
  unfold pf_X6_open
  rw [ahead_ok h, bind_some]
  by_cases c : tkd T L k = 26
  · rw [if_pos (by rw [c]), if_pos c]
    by_cases c4 : d < 4
    · rw [show (4 : Int32) = nI 4 from rfl, if_pos (nI_lt c4 (by omega)), if_pos c4]
      unfold pf_X6_open_b38
      rw [h.2.2.1, nI_1, bnd_e, gI_ns _ _ _ (by decide), h.2.2.2.1, if_pos rfl]
    · rw [show (4 : Int32) = nI 4 from rfl, if_neg (nI_nlt (by omega) (by omega)), if_neg c4, start_ok h, bind_some, fail_ok h, bind_some, b38 _ (by decide)]
  · rw [if_neg (fun e => c (Option.some.inj e)), if_neg c, start_ok h, bind_some, fail_ok h, bind_some, b38 _ (by decide)]
theorem open_e {c : Int32} {o : Nat} (h : CE σ c o) (d : Int32) : ∃ σ', pf_X6_open 595 d σ = some (0, σ') ∧ CE σ' c o ∧ Un (fun i => i = 595) σ σ' := by
  obtain ⟨r, hr⟩ := start_e σ
  unfold pf_X6_open pf_X6_open_b38
  rw [ahead_e h, bind_some, if_neg (by decide), hr, bind_some, fail_e h, bind_some, bnd_e, gI_ns _ _ _ (by decide), h.1, if_neg h.2.1]
  exact ⟨_, rfl, h.s 4 _ (by decide) (by decide), Un.sI _ _ rfl⟩
theorem tkd_n3 (k : Nat) (hL : tst T L k ≤ L) : tkd T L k ≠ 3 := fun h => by
  unfold tkd at h
  by_cases c1 : tst T L k = L
  · rw [if_pos c1] at h; omega
  · rw [if_neg c1] at h
    by_cases c2 : ck (T (tst T L k)) = 1
    · rw [if_pos c2] at h; omega
    · rw [if_neg c2] at h
      have hm := tidF_m (T := T) (a := tst T L k) (e := re T L (tst T L k)) 32 0 (by show tid T _ _ ≠ 2; omega)
      rw [show tidF T (tst T L k) (re T L (tst T L k)) 32 0 = 3 from h] at hm
      have := (mtc_iff.mp hm).1
      have h2 := (re_spec (T := T) (show tst T L k < L by omega)).1
      have h0 : stL.getD (tkS.getD 3 0) 0 = 0 := rfl
      omega
theorem goOn_ok (h : CP σ T L N k) : pf_X6_goOn 595 σ = some (b2i (decide (k < N))) := by
  have hL := h.le
  unfold pf_X6_goOn
  rw [ahead_ok h, bind_some, if_neg (fun e => tkd_n3 k hL (Option.some.inj e)), bind_some]
  by_cases c : k < N
  · rw [if_neg (fun e => by
      have := (tkd_1 hL).mp (Option.some.inj e)
      have := h.lt.mpr c
      omega), decide_eq_true c]; rfl
  · rw [if_pos (by rw [(tkd_1 hL).mpr (by have := h.lt; omega)]), decide_eq_false c]; rfl
theorem goOn_e {c : Int32} {o : Nat} (h : CE σ c o) : pf_X6_goOn 595 σ = some 0 := by
  unfold pf_X6_goOn
  rw [ahead_e h, bind_some, if_pos rfl]
end
