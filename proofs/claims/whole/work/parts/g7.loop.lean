/-! THE LAW: its loop -/
theorem ofN_toNat {n : Nat} (h : n < 2 ^ 31) : (nI n).toNatClampNeg = n := by
  rw [Int32.toNatClampNeg, nI_toInt h]; rfl
theorem vpin_L {n L : Nat} (h : n < L) (hL : L < 2 ^ 31) : vp_in (nI n) L := by
  rintro (q | q)
  · exact nI_pos (by omega) q
  · rw [ofN_toNat (by omega)] at q
    omega
theorem nI_addv (a b : Nat) : nI a + nI b = nI (a + b) := (Int32.ofNat_add a b).symm
section
variable {G : Gt} {p : Program} {l : Launch} {e : Env} {R : Room} {s : State} {m : MethodId} {args : Array Value} {below : List Frame} {meth : Method} {c : Code} {Q : State → Prop} {b L : Nat} {xs : Nat → Int32}
set_option maxRecDepth 20000 in
set_option maxHeartbeats 4000000 in
theorem law_loop {S0 : Nat} (hfix : CallFix p m c cL_law 10 s args TB RL) (hE : EnvS G s) (hR1 : 60 ≤ R.frames) (hR2 : 2400 ≤ R.locals) (hR3 : 1200 ≤ R.cells) (hR4 : S0 + 3100 ≤ R.slots) (hfl : l.stackTraces = false) (hX : va_X b L xs s s.heap) (hbl : b < s.heap.size) (hbA : ¬ gA G b) (hL : L ≤ 3072)
    (hret : ∀ (H : Heap) (locs : List Loc) (ls : Array Slot) (σ : St), GW G σ s H locs → W p l e R s m args below meth c H locs R.cells R.slots Q (F0 m 1932 ls [.int 1])) :
    ∀ (f cN : Nat), cN + f = 512 → ∀ (H : Heap) (locs : List Loc) (ls : Array Slot) (σ : St), GW G σ s H locs → Inv cN σ → lv_has ls 10 (LV G b (nI (6 * cN))) → W p l e R s m args below meth c H locs (622 + cN) (S0 + 6 * cN) Q (F0 m 28 ls []) := by
  have hx := hfix.1
  have hb := hfix.2.1
  have key : ∀ cN : Nat, cN ≤ 512 → ∀ (H : Heap) (locs : List Loc) (ls : Array Slot) (σ : St), GW G σ s H locs → lv_has ls 10 (LV G b (nI (6 * cN))) → (6 * cN + 6 ≤ L → W p l e R s m args below meth c H locs (622 + cN) (S0 + 6 * cN) Q (F0 m 38 ls [])) → W p l e R s m args below meth c H locs (622 + cN) (S0 + 6 * cN) Q (F0 m 28 ls []) := by
    intro cN hcN H locs ls σ hW hl hgo
    refine lv_iload hx hb dL_law_28 (lv_at hl 0 rfl) ?_
    refine lv_aload_n hx hb dL_law_30 rfl (lv_at hl 5 rfl) ?_
    refine va_slen hx hb hX hbl hbA hW.2 dL_law_31 ?_
    refine lv_bipush (v := 6) hx hb dL_law_32 (by decide) ?_
    refine lv_isub hx hb dL_law_34 ?_
    refine lv_icmp_gt (tgt := 1931) hx hb dL_law_35 (by decide) (fun q => ?_) (fun q => ?_)
    · refine W.widen (show 622 + cN ≤ R.cells by omega) (show S0 + 6 * cN ≤ R.slots by omega) ?_
      refine lv_iconst (v := 1) hx hb dL_law_1931 (by decide) ?_
      exact hret H locs ls σ hW
    · refine hgo ?_
      rw [Int32.lt_iff_toInt_lt] at q
      rw [nI_toInt (by omega), Int32.toInt_sub, show (Int32.ofNat L).toInt = (L : Int) from nI_toInt (by omega), show (6 : Int32).toInt = 6 from by decide, Int.bmod_eq_of_le (by omega) (by omega)] at q
      omega
  intro f
  induction f with
  | zero =>
    intro cN hcf H locs ls σ hW I hl
    exact key cN (by omega) H locs ls σ hW hl fun hin6 => absurd hin6 (by omega)
  | succ f ih =>
    intro cN hcf H locs ls σ hW I hl
    refine key cN (by omega) H locs ls σ hW hl fun hin6 => ?_
    have hc : cN < 512 := by omega
    have hin : ∀ k : Nat, k < 6 → vp_in (nI (6 * cN) + nI k) L := by
      intro k hk
      rw [nI_addv]
      exact vpin_L (by omega) (by omega)
    have X : Cx G p R s m args c (622 + cN) (S0 + 6 * cN) cL_law 10 RL 60 := ⟨hfix, hE, hR1, hR2, by omega, by omega⟩
    have kk : ∀ (H1 : Heap) (locs1 : List Loc) (ls1 : Array Slot) (σ1 : St), GW G σ1 s H1 locs1 → Inv (cN + 1) σ1 → lv_has ls1 10 (LV G b (nI (6 * cN))) → W p l e R s m args below meth c H1 locs1 (622 + cN + 1) (S0 + 6 * cN + 6) Q (F0 m 1925 ls1 []) := by
      intro H1 locs1 ls1 σ1 hW1 I1 hl1
      refine lv_iinc (lv' := LV G b (nI (6 * (cN + 1)))) (v := nI (6 * (cN + 1))) hx hb dL_law_1925 hl1 (k := 0) rfl (by rw [show Int32.ofInt 6 = nI 6 from by decide, nI_addv]; rfl) (by decide) rfl (fun ls2 hl2 => ?_)
      refine lv_goto (tgt := 28) hx hb dL_law_1928 (by decide) ?_
      exact ih (cN + 1) (by omega) H1 locs1 ls2 σ1 hW1 I1 hl2
    have hc1 : 622 + cN + 1 ≤ R.cells := by omega
    have hc2 : S0 + 6 * cN + 6 ≤ R.slots := by omega
    refine lv_aload_n hx hb dL_law_38 rfl (lv_at hl 5 rfl) ?_
    refine lv_iload hx hb dL_law_39 (lv_at hl 0 rfl) ?_
    refine va_sld hx hb hX hbl hbA hW.2 (by have := hin 0 (by decide); rwa [nI_addv] at this) dL_law_41 ?_
    refine lv_bipush (v := 31) hx hb dL_law_42 (by decide) ?_
    refine lv_iand hx hb dL_law_44 ?_
    obtain ⟨k, hk, ek⟩ := and31 (xs (nI (6 * cN)).toNatClampNeg)
    rw [ek]
    have hk : k = 0 ∨ k = 1 ∨ k = 2 ∨ k = 3 ∨ k = 4 ∨ k = 5 ∨ k = 6 ∨ k = 7 ∨ k = 8 ∨ k = 9 ∨ k = 10 ∨ k = 11 ∨ k = 12 ∨ k = 13 ∨ k = 14 ∨ k = 15 ∨ k = 16 ∨ k = 17 ∨ k = 18 ∨ k = 19 ∨ k = 20 ∨ k = 21 ∨ k = 22 ∨ k = 23 ∨ k = 24 ∨ k = 25 ∨ k = 26 ∨ k = 27 ∨ k = 28 ∨ k = 29 ∨ k = 30 ∨ k = 31 := by omega
    rcases hk with rfl | rfl | rfl | rfl | rfl | rfl | rfl | rfl | rfl | rfl | rfl | rfl | rfl | rfl | rfl | rfl | rfl | rfl | rfl | rfl | rfl | rfl | rfl | rfl | rfl | rfl | rfl | rfl | rfl | rfl | rfl | rfl
    · exact lv_tableIn (tgt := 184) hx hb dL_law_45 (by decide) (by decide) rfl (by decide) (case_0 X hc1 hc2 hW hfl hX hbl hbA hl hin hc I kk)
    · exact lv_tableIn (tgt := 257) hx hb dL_law_45 (by decide) (by decide) rfl (by decide) (case_1 X hc1 hc2 hW hfl hX hbl hbA hl hin hc I kk)
    · exact lv_tableIn (tgt := 313) hx hb dL_law_45 (by decide) (by decide) rfl (by decide) (case_2 X hc1 hc2 hW hfl hX hbl hbA hl hin hc I kk)
    · exact lv_tableIn (tgt := 326) hx hb dL_law_45 (by decide) (by decide) rfl (by decide) (case_3 X hc1 hc2 hW hfl hX hbl hbA hl hin hc I kk)
    · exact lv_tableIn (tgt := 382) hx hb dL_law_45 (by decide) (by decide) rfl (by decide) (case_4 X hc1 hc2 hW hfl hX hbl hbA hl hin hc I kk)
    · exact lv_tableIn (tgt := 438) hx hb dL_law_45 (by decide) (by decide) rfl (by decide) (case_5 X hc1 hc2 hW hfl hX hbl hbA hl hin hc I kk)
    · exact lv_tableIn (tgt := 506) hx hb dL_law_45 (by decide) (by decide) rfl (by decide) (case_6 X hc1 hc2 hW hfl hX hbl hbA hl hin hc I kk)
    · exact lv_tableIn (tgt := 586) hx hb dL_law_45 (by decide) (by decide) rfl (by decide) (case_7 X hc1 hc2 hW hfl hX hbl hbA hl hin hc I kk)
    · exact lv_tableIn (tgt := 678) hx hb dL_law_45 (by decide) (by decide) rfl (by decide) (case_8 X hc1 hc2 hW hfl hX hbl hbA hl hin hc I kk)
    · exact lv_tableIn (tgt := 746) hx hb dL_law_45 (by decide) (by decide) rfl (by decide) (case_9 X hc1 hc2 hW hfl hX hbl hbA hl hin hc I kk)
    · exact lv_tableIn (tgt := 821) hx hb dL_law_45 (by decide) (by decide) rfl (by decide) (case_10 X hc1 hc2 hW hfl hX hbl hbA hl hin hc I kk)
    · exact lv_tableIn (tgt := 884) hx hb dL_law_45 (by decide) (by decide) rfl (by decide) (case_11 X hc1 hc2 hW hfl hX hbl hbA hl hin hc I kk)
    · exact lv_tableIn (tgt := 940) hx hb dL_law_45 (by decide) (by decide) rfl (by decide) (case_12 X hc1 hc2 hW hfl hX hbl hbA hl hin hc I kk)
    · exact lv_tableIn (tgt := 1008) hx hb dL_law_45 (by decide) (by decide) rfl (by decide) (case_13 X hc1 hc2 hW hfl hX hbl hbA hl hin hc I kk)
    · exact lv_tableIn (tgt := 1064) hx hb dL_law_45 (by decide) (by decide) rfl (by decide) (case_14 X hc1 hc2 hW hfl hX hbl hbA hl hin hc I kk)
    · exact lv_tableIn (tgt := 1120) hx hb dL_law_45 (by decide) (by decide) rfl (by decide) (case_15 X hc1 hc2 hW hfl hX hbl hbA hl hin hc I kk)
    · exact lv_tableIn (tgt := 1188) hx hb dL_law_45 (by decide) (by decide) rfl (by decide) (case_16 X hc1 hc2 hW hfl hX hbl hbA hl hin hc I kk)
    · exact lv_tableIn (tgt := 1201) hx hb dL_law_45 (by decide) (by decide) rfl (by decide) (case_17 X hc1 hc2 hW hfl hX hbl hbA hl hin hc I kk)
    · exact lv_tableIn (tgt := 1257) hx hb dL_law_45 (by decide) (by decide) rfl (by decide) (case_18 X hc1 hc2 hW hfl hX hbl hbA hl hin hc I kk)
    · exact lv_tableIn (tgt := 1270) hx hb dL_law_45 (by decide) (by decide) rfl (by decide) (case_19 X hc1 hc2 hW hfl hX hbl hbA hl hin hc I kk)
    · exact lv_tableIn (tgt := 1347) hx hb dL_law_45 (by decide) (by decide) rfl (by decide) (case_20 X hc1 hc2 hW hfl hX hbl hbA hl hin hc I kk)
    · exact lv_tableIn (tgt := 1390) hx hb dL_law_45 (by decide) (by decide) rfl (by decide) (case_21 X hc1 hc2 hW hfl hX hbl hbA hl hin hc I kk)
    · exact lv_tableIn (tgt := 1458) hx hb dL_law_45 (by decide) (by decide) rfl (by decide) (case_22 X hc1 hc2 hW hfl hX hbl hbA hl hin hc I kk)
    · exact lv_tableIn (tgt := 1526) hx hb dL_law_45 (by decide) (by decide) rfl (by decide) (case_23 X hc1 hc2 hW hfl hX hbl hbA hl hin hc I kk)
    · exact lv_tableIn (tgt := 1582) hx hb dL_law_45 (by decide) (by decide) rfl (by decide) (case_24 X hc1 hc2 hW hfl hX hbl hbA hl hin hc I kk)
    · exact lv_tableIn (tgt := 1650) hx hb dL_law_45 (by decide) (by decide) rfl (by decide) (case_25 X hc1 hc2 hW hfl hX hbl hbA hl hin hc I kk)
    · exact lv_tableIn (tgt := 1718) hx hb dL_law_45 (by decide) (by decide) rfl (by decide) (case_26 X hc1 hc2 hW hfl hX hbl hbA hl hin hc I kk)
    · exact lv_tableIn (tgt := 1786) hx hb dL_law_45 (by decide) (by decide) rfl (by decide) (case_27 X hc1 hc2 hW hfl hX hbl hbA hl hin hc I kk)
    · exact lv_tableIn (tgt := 1842) hx hb dL_law_45 (by decide) (by decide) rfl (by decide) (case_28 X hc1 hc2 hW hfl hX hbl hbA hl hin hc I kk)
    · exact lv_tableIn (tgt := 1898) hx hb dL_law_45 (by decide) (by decide) rfl (by decide) (case_29 X hc1 hc2 hW hfl hX hbl hbA hl hin hc I kk)
    · exact lv_tableIn (tgt := 1911) hx hb dL_law_45 (by decide) (by decide) rfl (by decide) (case_30 X hc1 hc2 hW hfl hX hbl hbA hl hin hc I kk)
    · exact lv_tableOut (tgt := 1925) hx hb dL_law_45 (Or.inr (by decide)) (by decide) (W.widen (Nat.le_succ _) (Nat.le_add_right _ _) (kk H locs ls σ hW (I.no (Un.refl _ _) (Un.refl _ _) (MU.refl _ _ _)).1 hl))
end
