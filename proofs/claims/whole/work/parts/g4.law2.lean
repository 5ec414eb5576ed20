/-! THE LAW: what its cases share -/
theorem k609_10 : kd 609 = 10 := by decide +kernel
def LV (G : Gt) (b : Nat) (i : Int32) : List (Nat × Value) := [(5, .int i), (4, .ref (gz G + 621)), (3, .ref (gz G + 620)), (2, .ref (gz G + 609)), (1, .ref (gz G + 0)), (0, .ref b)]
def aX (xs : Nat → Int32) (i k : Int32) : Int32 := xs (i + k).toNatClampNeg
theorem and31 (x : Int32) : ∃ k, k < 32 ∧ x &&& 31 = nI k := by
  refine ⟨(x.toBitVec &&& 31#32).toNat, ?_, ?_⟩
  · rw [BitVec.toNat_and]
    exact Nat.lt_of_le_of_lt Nat.and_le_right (by decide)
  · apply Int32.toBitVec_inj.mp
    show x.toBitVec &&& 31#32 = BitVec.ofNat 32 (x.toBitVec &&& 31#32).toNat
    rw [BitVec.ofNat_toNat, BitVec.setWidth_eq]
section
variable {G : Gt} {p : Program} {l : Launch} {e : Env} {R : Room} {s : State} {m : MethodId} {args : Array Value} {below : List Frame} {meth : Method} {c : Code} {H : Heap} {locs : List Loc} {cells slots : Nat} {Q : State → Prop}
variable {h b L : Nat} {xs : Nat → Int32} {pc : Nat} {ls : Array Slot} {rest : List Value} {σ : St} {lv : List (Nat × Value)} {i : Int32}
/-- an int of the script -/
theorem law_arg {k : Int} {kv : Int32} (X : Cx G p R s m args c cells slots cL_law 10 RL h) (hW : GW G σ s H locs) (hX : va_X b L xs s s.heap) (hbl : b < s.heap.size) (hbA : ¬ gA G b) (h0 : ls[0]? = some (.val (.ref b))) (h5 : ls[5]? = some (.val (.int i))) (hk : Int32.ofInt k = kv) (hin : vp_in (i + kv) L)
    (d0 : decode cL_law pc = .ok (.aload_n 0, 1)) (d1 : decode cL_law (pc + 1) = .ok (.iload 5, 2)) (d2 : decode cL_law (pc + 3) = .ok (.iconst k, 1)) (d3 : decode cL_law (pc + 4) = .ok (.iadd, 1)) (d4 : decode cL_law (pc + 5) = .ok (.iaload, 1))
    (kk : W p l e R s m args below meth c H locs cells slots Q (F0 m (pc + 6) ls (.int (aX xs i kv) :: rest))) : W p l e R s m args below meth c H locs cells slots Q (F0 m pc ls rest) := by
  have hx := X.1.1
  have hb := X.1.2.1
  refine lv_aload_n hx hb d0 rfl h0 ?_
  refine lv_iload hx hb d1 h5 ?_
  refine lv_iconst (v := kv) hx hb d2 hk ?_
  refine lv_iadd hx hb d3 ?_
  exact va_sld hx hb hX hbl hbA hW.2 hin d4 kk
/-- the reference's thrown -/
theorem law_thrown (X : Cx G p R s m args c cells slots cL_law 10 RL h) (hh : 10 ≤ h) (hW : GW G σ s H locs) (hls : ls.size = 10) (hd : decode cL_law pc = .ok (.invokevirtual 111, 3)) (hcat : (rest.map fun v => v.category).sum ≤ 8)
    (kk : ∀ (H1 : Heap) (locs1 : List Loc), GW G σ s H1 locs1 → W p l e R s m args below meth c H1 locs1 cells slots Q (F0 m (pc + 3) ls (.int (gI σ 609 0) :: rest))) : W p l e R s m args below meth c H locs cells slots Q (F0 m pc ls (.ref (gz G + 609) :: rest)) :=
  call_V1 X hW (kC_X11 k609_10) lk_thrown in_thrown se_thrown mvM_thrown (c_X11_thrown (r := gI σ 609 0) k609_10 rfl) (by omega) rfl rfl hcat hls hd kk
/-- the end of a case with an int -/
theorem tail_I {r k0 : Int32} {off : Int} (X : Cx G p R s m args c cells slots cL_law 10 RL h) (hh : 10 ≤ h) (hW : GW G σ s H locs) (hl : lv_has ls 10 ((6, .int k0) :: LV G b i))
    (d0 : decode cL_law pc = .ok (.istore 7, 2)) (d2 : decode cL_law (pc + 2) = .ok (.aload_n 2, 1)) (d3 : decode cL_law (pc + 3) = .ok (.invokevirtual 111, 3)) (d6 : decode cL_law (pc + 6) = .ok (.iload 6, 2)) (d8 : decode cL_law (pc + 8) = .ok (.if_icmp .eq 5, 3)) (d13 : decode cL_law (pc + 13) = .ok (.iload 6, 2)) (d15 : decode cL_law (pc + 15) = .ok (.ifCond .ne 15, 3)) (d18 : decode cL_law (pc + 18) = .ok (.aload_n 3, 1)) (d19 : decode cL_law (pc + 19) = .ok (.iconst 0, 1)) (d20 : decode cL_law (pc + 20) = .ok (.laload, 1)) (d21 : decode cL_law (pc + 21) = .ok (.iload 7, 2)) (d23 : decode cL_law (pc + 23) = .ok (.i2l, 1)) (d24 : decode cL_law (pc + 24) = .ok (.lcmp, 1)) (d25 : decode cL_law (pc + 25) = .ok (.ifCond .eq 5, 3)) (d30 : decode cL_law (pc + 30) = .ok (.goto off, 3)) (ht : ((pc + 30 : Nat) : Int) + off = ((1925 : Nat) : Int))
    (hk : gI σ 609 0 = k0) (hv : k0 = 0 → gL σ 620 0 = r.toInt64)
    (kk : ∀ (H1 : Heap) (locs1 : List Loc) (ls1 : Array Slot), GW G σ s H1 locs1 → lv_has ls1 10 (LV G b i) → W p l e R s m args below meth c H1 locs1 cells slots Q (F0 m 1925 ls1 [])) : W p l e R s m args below meth c H locs cells slots Q (F0 m pc ls [.int r]) := by
  have hx := X.1.1
  have hb := X.1.2.1
  refine lv_istore (lv' := (7, .int r) :: (6, .int k0) :: LV G b i) hx hb d0 hl (by decide) rfl (fun ls hl => ?_)
  refine lv_aload_n hx hb d2 rfl (lv_at hl 5 rfl) ?_
  refine law_thrown X hh hW hl.1 d3 (Nat.zero_le _) ?_
  clear hW; intro H locs hW
  refine lv_iload hx hb d6 (lv_at hl 1 rfl) ?_
  refine lv_icmp_eq (tgt := pc + 13) hx hb d8 (by omega) (fun _ => ?_) (fun q => absurd hk q)
  refine lv_iload hx hb d13 (lv_at hl 1 rfl) ?_
  have hend : W p l e R s m args below meth c H locs cells slots Q (F0 m (pc + 30) ls []) := lv_goto (tgt := 1925) hx hb d30 ht (kk H locs ls hW (lv_sub hl [2, 3, 4, 5, 6, 7] rfl))
  refine lv_if_ne (tgt := pc + 30) hx hb d15 (by omega) (fun _ => hend) (fun hz => ?_)
  refine lv_aload_n hx hb d18 rfl (lv_at hl 4 rfl) ?_
  refine lv_iconst (v := 0) hx hb d19 (by decide) ?_
  refine r_lald X hW k620 in620 d20 ?_
  refine lv_iload hx hb d21 (lv_at hl 0 rfl) ?_
  refine lv_i2l hx hb d23 rfl ?_
  refine W.lcmp hx hb d24 ?_
  refine lv_if_eq (tgt := pc + 30) hx hb d25 (by omega) (fun _ => hend) (fun q => ?_)
  exact absurd (lcmp_eq.mpr (hv hz)) q
/-- the end of a case with a truth -/
theorem tail_Z {r k0 : Int32} {off : Int} (X : Cx G p R s m args c cells slots cL_law 10 RL h) (hh : 10 ≤ h) (hW : GW G σ s H locs) (hl : lv_has ls 10 ((6, .int k0) :: LV G b i))
    (d0 : decode cL_law pc = .ok (.istore 7, 2)) (d2 : decode cL_law (pc + 2) = .ok (.aload_n 2, 1)) (d3 : decode cL_law (pc + 3) = .ok (.invokevirtual 111, 3)) (d6 : decode cL_law (pc + 6) = .ok (.iload 6, 2)) (d8 : decode cL_law (pc + 8) = .ok (.if_icmp .eq 5, 3)) (d13 : decode cL_law (pc + 13) = .ok (.iload 6, 2)) (d15 : decode cL_law (pc + 15) = .ok (.ifCond .ne 22, 3)) (d18 : decode cL_law (pc + 18) = .ok (.aload_n 3, 1)) (d19 : decode cL_law (pc + 19) = .ok (.iconst 0, 1)) (d20 : decode cL_law (pc + 20) = .ok (.laload, 1)) (d21 : decode cL_law (pc + 21) = .ok (.iload 7, 2)) (d23 : decode cL_law (pc + 23) = .ok (.ifCond .eq 7, 3)) (d26 : decode cL_law (pc + 26) = .ok (.lconst 1, 1)) (d27 : decode cL_law (pc + 27) = .ok (.goto 4, 3)) (d30 : decode cL_law (pc + 30) = .ok (.lconst 0, 1)) (d31 : decode cL_law (pc + 31) = .ok (.lcmp, 1)) (d32 : decode cL_law (pc + 32) = .ok (.ifCond .eq 5, 3)) (d37 : decode cL_law (pc + 37) = .ok (.goto off, 3)) (ht : ((pc + 37 : Nat) : Int) + off = ((1925 : Nat) : Int))
    (hk : gI σ 609 0 = k0) (hv : k0 = 0 → gL σ 620 0 = if r = 0 then 0 else 1)
    (kk : ∀ (H1 : Heap) (locs1 : List Loc) (ls1 : Array Slot), GW G σ s H1 locs1 → lv_has ls1 10 (LV G b i) → W p l e R s m args below meth c H1 locs1 cells slots Q (F0 m 1925 ls1 [])) : W p l e R s m args below meth c H locs cells slots Q (F0 m pc ls [.int r]) := by
  have hx := X.1.1
  have hb := X.1.2.1
  refine lv_istore (lv' := (7, .int r) :: (6, .int k0) :: LV G b i) hx hb d0 hl (by decide) rfl (fun ls hl => ?_)
  refine lv_aload_n hx hb d2 rfl (lv_at hl 5 rfl) ?_
  refine law_thrown X hh hW hl.1 d3 (Nat.zero_le _) ?_
  clear hW; intro H locs hW
  refine lv_iload hx hb d6 (lv_at hl 1 rfl) ?_
  refine lv_icmp_eq (tgt := pc + 13) hx hb d8 (by omega) (fun _ => ?_) (fun q => absurd hk q)
  refine lv_iload hx hb d13 (lv_at hl 1 rfl) ?_
  have hend : W p l e R s m args below meth c H locs cells slots Q (F0 m (pc + 37) ls []) := lv_goto (tgt := 1925) hx hb d37 ht (kk H locs ls hW (lv_sub hl [2, 3, 4, 5, 6, 7] rfl))
  refine lv_if_ne (tgt := pc + 37) hx hb d15 (by omega) (fun _ => hend) (fun hz => ?_)
  have hv0 := hv hz
  refine lv_aload_n hx hb d18 rfl (lv_at hl 4 rfl) ?_
  refine lv_iconst (v := 0) hx hb d19 (by decide) ?_
  refine r_lald X hW k620 in620 d20 ?_
  refine lv_iload hx hb d21 (lv_at hl 0 rfl) ?_
  refine lv_if_eq (tgt := pc + 30) hx hb d23 (by omega) (fun hr => ?_) (fun hr => ?_)
  · rw [if_pos hr] at hv0
    refine lv_lconst (v := 0) hx hb d30 rfl ?_
    refine W.lcmp hx hb d31 ?_
    refine lv_if_eq (tgt := pc + 37) hx hb d32 (by omega) (fun _ => hend) (fun q => ?_)
    exact absurd (lcmp_eq.mpr hv0) q
  · rw [if_neg hr] at hv0
    refine lv_lconst (v := 1) hx hb d26 rfl ?_
    refine lv_goto (tgt := pc + 31) hx hb d27 (by omega) ?_
    refine W.lcmp hx hb d31 ?_
    refine lv_if_eq (tgt := pc + 37) hx hb d32 (by omega) (fun _ => hend) (fun q => ?_)
    exact absurd (lcmp_eq.mpr hv0) q
end
