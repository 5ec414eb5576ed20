theorem mem_t0 {w : Cond} (i : Nat) (h : (decide ((k2_sels lw_privs)[i]? = some w) && tg w) = true) : w ∈ TB := by
  rw [Bool.and_eq_true, decide_eq_true_eq] at h
  exact List.mem_filter.mpr ⟨List.mem_append_left _ (List.mem_of_getElem? h.1), h.2⟩
theorem mem_t1 {w : Cond} (i : Nat) (h : (decide (tables_1_1[i]? = some w) && tg w) = true) : w ∈ TB := by
  rw [Bool.and_eq_true, decide_eq_true_eq] at h
  exact List.mem_filter.mpr ⟨List.mem_append_right _ (List.mem_append_left _ (List.mem_of_getElem? h.1)), h.2⟩
theorem mem_t2 {w : Cond} (i : Nat) (h : (decide (tables_1_2[i]? = some w) && tg w) = true) : w ∈ TB := by
  rw [Bool.and_eq_true, decide_eq_true_eq] at h
  exact List.mem_filter.mpr ⟨List.mem_append_right _ (List.mem_append_right _ (List.mem_append_left _ (List.mem_of_getElem? h.1))), h.2⟩
theorem mem_t3 {w : Cond} (i : Nat) (h : (decide (tables_1_3[i]? = some w) && tg w) = true) : w ∈ TB := by
  rw [Bool.and_eq_true, decide_eq_true_eq] at h
  exact List.mem_filter.mpr ⟨List.mem_append_right _ (List.mem_append_right _ (List.mem_append_right _ (List.mem_append_left _ (List.mem_of_getElem? h.1)))), h.2⟩
theorem mem_t4 {w : Cond} (i : Nat) (h : (decide (tables_1_4[i]? = some w) && tg w) = true) : w ∈ TB := by
  rw [Bool.and_eq_true, decide_eq_true_eq] at h
  exact List.mem_filter.mpr ⟨List.mem_append_right _ (List.mem_append_right _ (List.mem_append_right _ (List.mem_append_right _ (List.mem_append_left _ (List.mem_of_getElem? h.1))))), h.2⟩
theorem mem_t5 {w : Cond} (i : Nat) (h : (decide (tables_1_5[i]? = some w) && tg w) = true) : w ∈ TB := by
  rw [Bool.and_eq_true, decide_eq_true_eq] at h
  exact List.mem_filter.mpr ⟨List.mem_append_right _ (List.mem_append_right _ (List.mem_append_right _ (List.mem_append_right _ (List.mem_append_right _ (List.mem_append_left _ (List.mem_of_getElem? h.1)))))), h.2⟩
theorem mem_t6 {w : Cond} (i : Nat) (h : (decide (tables_1_6[i]? = some w) && tg w) = true) : w ∈ TB := by
  rw [Bool.and_eq_true, decide_eq_true_eq] at h
  exact List.mem_filter.mpr ⟨List.mem_append_right _ (List.mem_append_right _ (List.mem_append_right _ (List.mem_append_right _ (List.mem_append_right _ (List.mem_append_right _ (List.mem_append_left _ (List.mem_of_getElem? h.1))))))), h.2⟩
theorem mem_t7 {w : Cond} (i : Nat) (h : (decide (tables_1_7[i]? = some w) && tg w) = true) : w ∈ TB := by
  rw [Bool.and_eq_true, decide_eq_true_eq] at h
  exact List.mem_filter.mpr ⟨List.mem_append_right _ (List.mem_append_right _ (List.mem_append_right _ (List.mem_append_right _ (List.mem_append_right _ (List.mem_append_right _ (List.mem_append_right _ (List.mem_append_left _ (List.mem_of_getElem? h.1)))))))), h.2⟩
theorem mem_t8 {w : Cond} (i : Nat) (h : (decide (tables_1_8[i]? = some w) && tg w) = true) : w ∈ TB := by
  rw [Bool.and_eq_true, decide_eq_true_eq] at h
  exact List.mem_filter.mpr ⟨List.mem_append_right _ (List.mem_append_right _ (List.mem_append_right _ (List.mem_append_right _ (List.mem_append_right _ (List.mem_append_right _ (List.mem_append_right _ (List.mem_append_right _ (List.mem_of_getElem? h.1)))))))), h.2⟩
section RX
variable {G : Gt} {p : Program} {l : Launch} {e : Env} {R : Room} {s : State} {m : MethodId} {args : Array Value} {below : List Frame} {meth : Method} {c : Code} {H : Heap} {locs : List Loc} {cells slots : Nat} {Q : State → Prop}
variable {cc bytes : ByteArray} {nL h h2 maxL n idx : Nat} {own host C : String} {pc : Nat} {ls : Array Slot} {rest st0 : List Value} {σ σ' : St} {y : MethodName} {ret : Option FieldType} {As : List Value}
theorem w_ishl (hx : p.tables.exec = Jvm.exec) (hb : c.code = cc) {x y : Int32} (hd : decode cc pc = .ok (.ishl, 1)) (k : W p l e R s m args below meth c H locs cells slots Q (F0 m (pc + 1) ls (.int (ishl x y) :: rest))) : W p l e R s m args below meth c H locs cells slots Q (F0 m pc ls (.int y :: .int x :: rest)) := lv_ishl hx hb hd k
theorem w_ishr (hx : p.tables.exec = Jvm.exec) (hb : c.code = cc) {x y : Int32} (hd : decode cc pc = .ok (.ishr, 1)) (k : W p l e R s m args below meth c H locs cells slots Q (F0 m (pc + 1) ls (.int (ishr x y) :: rest))) : W p l e R s m args below meth c H locs cells slots Q (F0 m pc ls (.int y :: .int x :: rest)) := lv_ishr hx hb hd k
theorem w_iushr (hx : p.tables.exec = Jvm.exec) (hb : c.code = cc) {x y : Int32} (hd : decode cc pc = .ok (.iushr, 1)) (k : W p l e R s m args below meth c H locs cells slots Q (F0 m (pc + 1) ls (.int (iushr x y) :: rest))) : W p l e R s m args below meth c H locs cells slots Q (F0 m pc ls (.int y :: .int x :: rest)) := lv_iushr hx hb hd rfl k
theorem w_lushr (hx : p.tables.exec = Jvm.exec) (hb : c.code = cc) {x : Int64} {y : Int32} (hd : decode cc pc = .ok (.lushr, 1)) (k : W p l e R s m args below meth c H locs cells slots Q (F0 m (pc + 1) ls (.long (lushr x y) :: rest))) : W p l e R s m args below meth c H locs cells slots Q (F0 m pc ls (.int y :: .long x :: rest)) := lv_lushr hx hb hd rfl k
theorem w_lshl (hx : p.tables.exec = Jvm.exec) (hb : c.code = cc) {x : Int64} {y : Int32} (hd : decode cc pc = .ok (.lshl, 1)) (k : W p l e R s m args below meth c H locs cells slots Q (F0 m (pc + 1) ls (.long (lshl x y) :: rest))) : W p l e R s m args below meth c H locs cells slots Q (F0 m pc ls (.int y :: .long x :: rest)) := lv_lshl hx hb hd rfl k
theorem w_irem (hx : p.tables.exec = Jvm.exec) (hb : c.code = cc) {x y : Int32} (hd : decode cc pc = .ok (.irem, 1)) (hn : ¬ y = 0) (k : W p l e R s m args below meth c H locs cells slots Q (F0 m (pc + 1) ls (.int (irem x y) :: rest))) : W p l e R s m args below meth c H locs cells slots Q (F0 m pc ls (.int y :: .int x :: rest)) := lv_irem hx hb hd hn k
theorem lcmp_lt {x y : Int64} : lg_cmp x y < 0 ↔ x < y := by
  unfold lg_cmp
  by_cases h1 : x > y
  · rw [if_pos h1]; exact ⟨fun q => absurd q (by decide), fun q => absurd (Int64.lt_trans q h1) Int64.lt_irrefl⟩
  · rw [if_neg h1]
    by_cases h2 : x = y
    · rw [if_pos h2]; subst h2; exact ⟨fun q => absurd q (by decide), fun q => absurd q Int64.lt_irrefl⟩
    · rw [if_neg h2]
      refine ⟨fun _ => ?_, fun _ => by decide⟩
      rw [Int64.lt_iff_toInt_lt]
      have h3 : ¬ y.toInt < x.toInt := fun q => h1 (Int64.lt_iff_toInt_lt.mpr q)
      have h4 : ¬ x.toInt = y.toInt := fun q => h2 (Int64.toInt_inj.mp q)
      omega
theorem lcmp_ge {x y : Int64} : 0 ≤ lg_cmp x y ↔ y ≤ x := by
  constructor
  · intro q
    have h1 : ¬ x < y := fun z => absurd (lcmp_lt.mpr z) (Int32.not_lt.mpr q)
    exact Int64.not_lt.mp h1
  · intro q
    exact Int32.not_lt.mp fun z => absurd (lcmp_lt.mp z) (Int64.not_lt.mpr q)
theorem lcmp_le {x y : Int64} : lg_cmp x y ≤ 0 ↔ x ≤ y := by
  constructor
  · intro q
    have h1 : ¬ y < x := fun z => absurd (lcmp_gt.mpr z) (Int32.not_lt.mpr q)
    exact Int64.not_lt.mp h1
  · intro q
    exact Int32.not_lt.mp fun z => absurd (lcmp_gt.mp z) (Int64.not_lt.mpr q)
theorem i_ofInt (x : Int32) : Int32.ofInt x.toInt = x := by simp
theorem tb_out {x : Int32} {lo hi : Int} {loN n : Nat} (hlo : lo = (loN : Int)) (hh : hi = (loN : Int) + n - 1) (h : ∀ k, k < n → ¬ x = Int32.ofNat (loN + k)) : x.toInt < lo ∨ hi < x.toInt := by
  subst hlo; subst hh
  by_cases h1 : x.toInt < (loN : Int)
  · exact Or.inl h1
  · by_cases h2 : (loN : Int) + n - 1 < x.toInt
    · exact Or.inr h2
    · refine absurd ?_ (h (x.toInt.toNat - loN) (by omega))
      have e : loN + (x.toInt.toNat - loN) = x.toInt.toNat := by omega
      rw [e]
      have e2 : ((x.toInt.toNat : Nat) : Int) = x.toInt := by omega
      have hb : x.toInt.toNat < 2 ^ 31 := by
        have := x.toInt_lt
        omega
      exact Int32.toInt_inj.mp (by rw [show Int32.ofNat x.toInt.toNat = nI x.toInt.toNat from rfl, nI_toInt hb]; exact e2.symm)
theorem i_ne {x : Int32} {k : Int} (h : ¬ x = Int32.ofInt k) : ¬ x.toInt = k := fun q => h (by rw [← q]; exact (i_ofInt x).symm)
theorem i_ne2 {x : Int32} {k : Int} (h : ¬ x = Int32.ofInt k) : ¬ k = x.toInt := fun q => i_ne h q.symm
/-! statics, tokens -/
theorem r_gtok {k : Nat} (X : Cx G p R s m args c cells slots cc nL own h) (hW : GW G σ s H locs) (hk : k < 32) (hl : Cond.fieldLink own idx "QuestLedger$Token" (tkN.getD k "") "LQuestLedger$Token;" ∈ TB) (hd : decode cc pc = .ok (.getstatic idx, 3))
    (kk : W p l e R s m args below meth c H locs cells slots Q (F0 m (pc + 3) ls (va_re (gad G) (some k) :: rest))) : W p l e R s m args below meth c H locs cells slots Q (F0 m pc ls rest) := va_gets X.1.1 X.1.2.1 (X.2.1.2.2.1 k hk).1 hW.2 X.1.2.2.2.1 (X.1.2.2.2.2 _ hl) (fun _ h9 => h9) hd kk
theorem r_gtk (X : Cx G p R s m args c cells slots cc nL own h) (hW : GW G σ s H locs) (hl : Cond.fieldLink own idx "QuestLedger" "TOKENS" "[LQuestLedger$Token;" ∈ TB) (hd : decode cc pc = .ok (.getstatic idx, 3))
    (kk : W p l e R s m args below meth c H locs cells slots Q (F0 m (pc + 3) ls (.ref (gsA G 0) :: rest))) : W p l e R s m args below meth c H locs cells slots Q (F0 m pc ls rest) := va_gets X.1.1 X.1.2.1 X.2.1.2.2.2.2.1.1 hW.2 X.1.2.2.2.1 (X.1.2.2.2.2 _ hl) (fun _ h9 => h9) hd kk
theorem r_gtkN (X : Cx G p R s m args c cells slots cc nL own h) (hW : GW G σ s H locs) (hl : Cond.fieldLinkNest own idx "QuestLedger" "TOKENS" "[LQuestLedger$Token;" host ∈ TB) (hd : decode cc pc = .ok (.getstatic idx, 3))
    (kk : W p l e R s m args below meth c H locs cells slots Q (F0 m (pc + 3) ls (.ref (gsA G 0) :: rest))) : W p l e R s m args below meth c H locs cells slots Q (F0 m pc ls rest) := va_getsN X.1.1 X.1.2.1 X.2.1.2.2.2.2.1.1 hW.2 X.1.2.2.2.1 (X.1.2.2.2.2 _ hl) (fun _ h9 => h9) hd kk
theorem r_gswN (X : Cx G p R s m args c cells slots cc nL own h) (hW : GW G σ s H locs) (hl : Cond.fieldLinkNest own idx "QuestLedger" "SETS_WITH" "[J" host ∈ TB) (hd : decode cc pc = .ok (.getstatic idx, 3))
    (kk : W p l e R s m args below meth c H locs cells slots Q (F0 m (pc + 3) ls (.ref (gsA G 1) :: rest))) : W p l e R s m args below meth c H locs cells slots Q (F0 m pc ls rest) := va_getsN X.1.1 X.1.2.1 X.2.1.2.2.2.2.2.1.1 hW.2 X.1.2.2.2.1 (X.1.2.2.2.2 _ hl) (fun _ h9 => h9) hd kk
theorem r_tk {j : Int32} (X : Cx G p R s m args c cells slots cc nL own h) (hW : GW G σ s H locs) (hin : vp_in j 32) (hd : decode cc pc = .ok (.aaload, 1))
    (kk : W p l e R s m args below meth c H locs cells slots Q (F0 m (pc + 1) ls (va_re (gad G) (some j.toNatClampNeg) :: rest))) : W p l e R s m args below meth c H locs cells slots Q (F0 m pc ls (.int j :: .ref (gsA G 0) :: rest)) := vb_tq X.1.1 X.1.2.1 X.2.1.2.2.2.2.1.2 hW.2 hin rfl hd kk
theorem r_sw {j : Int32} (X : Cx G p R s m args c cells slots cc nL own h) (hW : GW G σ s H locs) (hin : vp_in j 6) (hd : decode cc pc = .ok (.laload, 1))
    (kk : W p l e R s m args below meth c H locs cells slots Q (F0 m (pc + 1) ls (.long (swC.getD j.toNatClampNeg 0) :: rest))) : W p l e R s m args below meth c H locs cells slots Q (F0 m pc ls (.int j :: .ref (gsA G 1) :: rest)) := va_tl X.1.1 X.1.2.1 X.2.1.2.2.2.2.2.1.2 hW.2 hin rfl hd kk
theorem r_tklen (X : Cx G p R s m args c cells slots cc nL own h) (hW : GW G σ s H locs) (hd : decode cc pc = .ok (.arraylength, 1))
    (kk : W p l e R s m args below meth c H locs cells slots Q (F0 m (pc + 1) ls (.int 32 :: rest))) : W p l e R s m args below meth c H locs cells slots Q (F0 m pc ls (.ref (gsA G 0) :: rest)) := va_tlen X.1.1 X.1.2.1 X.2.1.2.2.2.2.1.2 hW.2 (by decide) hd kk
theorem r_swlen (X : Cx G p R s m args c cells slots cc nL own h) (hW : GW G σ s H locs) (hd : decode cc pc = .ok (.arraylength, 1))
    (kk : W p l e R s m args below meth c H locs cells slots Q (F0 m (pc + 1) ls (.int 6 :: rest))) : W p l e R s m args below meth c H locs cells slots Q (F0 m pc ls (.ref (gsA G 1) :: rest)) := va_tlen X.1.1 X.1.2.1 X.2.1.2.2.2.2.2.1.2 hW.2 (by decide) hd kk
theorem r_tokCode {k : Nat} (X : Cx G p R s m args c cells slots cc nL own h) (hW : GW G σ s H locs) (hk : k < 32) (hl : Cond.fieldLink own idx "QuestLedger$Token" "code" "I" ∈ TB) (hd : decode cc pc = .ok (.getfield idx, 3))
    (kk : W p l e R s m args below meth c H locs cells slots Q (F0 m (pc + 3) ls (.int (tkC.getD k 0) :: rest))) : W p l e R s m args below meth c H locs cells slots Q (F0 m pc ls (.ref (gad G k) :: rest)) := vk_getf X.1.1 X.1.2.1 (X.2.1.2.2.1 k hk).2.2.1 hW.2 X.1.2.2.2.1 (X.1.2.2.2.2 _ hl) (fun _ h9 => h9) hd kk
theorem r_tokText {k : Nat} (X : Cx G p R s m args c cells slots cc nL own h) (hW : GW G σ s H locs) (hk : k < 32) (hl : Cond.fieldLink own idx "QuestLedger$Token" "text" "Ljava/lang/String;" ∈ TB) (hd : decode cc pc = .ok (.getfield idx, 3))
    (kk : W p l e R s m args below meth c H locs cells slots Q (F0 m (pc + 3) ls (.ref (gsK G (tkS.getD k 0)) :: rest))) : W p l e R s m args below meth c H locs cells slots Q (F0 m pc ls (.ref (gad G k) :: rest)) := vk_getf X.1.1 X.1.2.1 (X.2.1.2.2.1 k hk).2.2.2 hW.2 X.1.2.2.2.1 (X.1.2.2.2.2 _ hl) (fun _ h9 => h9) hd kk
theorem tkS_lt (k : Nat) : tkS.getD k 0 < 49 := by
  rcases Nat.lt_or_ge k 32 with q | q
  · exact co_dec (N := 32) (P := fun k => tkS.getD k 0 < 49) (by decide +kernel) q
  · have e : tkS.length = 32 := by decide +kernel
    rw [List.getD_eq_getElem?_getD, List.getElem?_eq_none (by omega)]
    decide
theorem r_ldcS {k : Nat} {tx : String} (X : Cx G p R s m args c cells slots cc nL own h) (hW : GW G σ s H locs) (hk : k < 49) (ho : stO.getD k "" = own) (hi : stK.getD k 0 = idx) (hd : decode cc pc = .ok (.ldc idx, 2))
    (kk : W p l e R s m args below meth c H locs cells slots Q (F0 m (pc + 2) ls (.ref (gsK G k) :: rest))) : W p l e R s m args below meth c H locs cells slots Q (F0 m pc ls rest) := by
  have h6 := X.2.1.2.2.2.2.2.2.2.1 k hk
  rw [ho, hi] at h6
  exact va_ldcS X.1.1 X.1.2.1 X.1.2.2.2.1 h6 hd kk
theorem r_tast {i k : Nat} {j : Int32} {v : Option Nat} (X : Cx G p R s m args c cells slots cc nL own h) (hW : GW G σ s H locs) (hi : kd i = 15) (et : v = some k) (hk : k < 32) (hin : vp_in j (alen i)) (hd : decode cc pc = .ok (.aastore, 1))
    (kk : ∀ (H1 : Heap) (locs1 : List Loc), GW G (sK σ i j.toNatClampNeg (some k)) s H1 locs1 → W p l e R s m args below meth c H1 locs1 cells slots Q (F0 m (pc + 1) ls rest)) : W p l e R s m args below meth c H locs cells slots Q (F0 m pc ls (va_re (gad G) v :: .int j :: .ref (gz G + i) :: rest)) := by
  subst et
  obtain ⟨cell, g1, g2, g3, -⟩ := ((X.2.1.2.2.1 k hk).2.1).kept hW.2.2.1
  have hany : va_Any "QuestLedger$Token" s H (gad G k) := by
    obtain ⟨kC, hkC, -⟩ := Vm.findClass_spec g3
    exact ⟨cell, g1, g2, ⟨kC, hkC⟩, fun comp hc => by cases g3.symm.trans hc; exact va_asg _ _⟩
  refine va_astqM (v := gad G k) X.1.1 X.1.2.1 X.2.1.1 hW.1 (wl_D G σ) hW.2 i 4 (wl_ct G (by rw [hi]; decide) (ct_15 G σ hi)) rfl hany hin hd (fun H1 locs1 hP hD hS => kk H1 locs1 ⟨?_, hS⟩)
  rw [wl_set G (σ' := sK σ i j.toNatClampNeg (some k)) ?_ (fun j hj => ct_sK G hj)] at hP
  · exact hP
  · rw [ct_15 G _ hi]
    refine congrArg (fun f => (Sum.inl (gty G 4, alen i, Sum.inr (Sum.inr (Sum.inr (Sum.inr f)))) : va_E)) ?_
    funext q
    by_cases hq : q = j.toNatClampNeg
    · subst hq; simp [gK_sK, va_up]
    · simp [gK_sK, va_up, hq]
theorem r_acmp_eq (X : Cx G p R s m args c cells slots cc nL own h) (hx : p.tables.exec = Jvm.exec) (hb : c.code = cc) {a b : Option Nat} {off : Int} {tgt : Nat} (hd : decode cc pc = .ok (.if_acmp .eq off, 3)) (ht : (pc : Int) + off = (tgt : Int))
    (kt : a = b → W p l e R s m args below meth c H locs cells slots Q (F0 m tgt ls rest)) (kf : ¬ a = b → W p l e R s m args below meth c H locs cells slots Q (F0 m (pc + 3) ls rest)) : W p l e R s m args below meth c H locs cells slots Q (F0 m pc ls (va_re (gad G) b :: va_re (gad G) a :: rest)) := by
  refine lv_acmp_eq (rx := a.map (gad G)) (ry := b.map (gad G)) hx hb hd ht (fun q => kt ?_) (fun q => kf fun z => q (by rw [z]))
  cases a <;> cases b <;> simp at q ⊢
  exact X.2.1.2.2.2.1 _ _ q
theorem r_acmp_ne (X : Cx G p R s m args c cells slots cc nL own h) (hx : p.tables.exec = Jvm.exec) (hb : c.code = cc) {a b : Option Nat} {off : Int} {tgt : Nat} (hd : decode cc pc = .ok (.if_acmp .ne off, 3)) (ht : (pc : Int) + off = (tgt : Int))
    (kt : ¬ a = b → W p l e R s m args below meth c H locs cells slots Q (F0 m tgt ls rest)) (kf : a = b → W p l e R s m args below meth c H locs cells slots Q (F0 m (pc + 3) ls rest)) : W p l e R s m args below meth c H locs cells slots Q (F0 m pc ls (va_re (gad G) b :: va_re (gad G) a :: rest)) := by
  refine lv_acmp_ne (rx := a.map (gad G)) (ry := b.map (gad G)) hx hb hd ht (fun q => kt fun z => q (by rw [z])) (fun q => kf ?_)
  cases a <;> cases b <;> simp at q ⊢
  exact X.2.1.2.2.2.1 _ _ q
theorem pT_of {k : Nat} (X : Cx G p R s m args c cells slots cc nL own h) (hW : GW G σ s H locs) (hk : k < 32) : PreV s H "QuestLedger$Token" (gad G k) (va_Pc (.ref (gad G k) :: As) (GP G σ)) As := by
  obtain ⟨cell, g1, g2, g3, -⟩ := ((X.2.1.2.2.1 k hk).2.1).kept hW.2.2.1
  exact ⟨GP_blind _ _, ⟨cell, g1, g2, g3⟩, fun U hU hw => ⟨rfl, X.env hW hU hw⟩⟩
theorem call_T1 {v : Value} {w : Option Nat} {k : Nat} (X : Cx G p R s m args c cells slots cc nL own h) (hW : GW G σ s H locs) (et : w = some k) (hk : k < 32) (lk : Cond.methodLink own idx y ∈ TB) (hin : Cond.instanceMethod y ∈ TB) (hse : Cond.selects "QuestLedger$Token" y y ∈ TB) (mv : MV y bytes maxL ret n) (hM : Ct G l y bytes maxL ret h2 (.ref (gad G k) :: As) σ (some v) σ') (hh : h2 < h) (hst : st0 = As.reverse ++ va_re (gad G) w :: rest) (hn : As.length = n) (hcat : (rest.map fun v => v.category).sum ≤ 8) (hls : ls.size = nL) (hd : decode cc pc = .ok (.invokevirtual idx, 3))
    (kk : ∀ (H1 : Heap) (locs1 : List Loc), GW G σ' s H1 locs1 → W p l e R s m args below meth c H1 locs1 cells slots Q (F0 m (pc + 3) ls (v :: rest))) : W p l e R s m args below meth c H locs cells slots Q (F0 m pc ls st0) := by
  subst et
  exact g_back X hW (va_runV X.1 hM ⟨cB_of X lk mv hh, X.1.2.2.2.2 _ hin, X.1.2.2.2.2 _ hse⟩ (pT_of X hW hk) rfl hn hls hst (lv_room (ls := ls) (rest := rest) (pc := pc) (m := m) hcat) hd ⟨X.2.2.2.2.1, X.2.2.2.2.2⟩) kk
theorem acNat : Cond.native arraycopyName ∈ TB := by decide +kernel
theorem acSta : Cond.static arraycopyName ∈ TB := by decide +kernel
theorem acIni : Cond.initialized "java/lang/System" ∈ TB := by decide +kernel
theorem r_copy {a b : Nat} {sp dp n : Int32} (X : Cx G p R s m args c cells slots cc nL own h) (hW : GW G σ s H locs) (ha : kd a = 11) (hb : kd b = 11) (hc : cpC sp dp n a b) (lk : Cond.methodLink own idx arraycopyName ∈ TB) (hd : decode cc pc = .ok (.invokestatic idx, 3)) (hh : 1 ≤ h) (hcat : (rest.map fun v => v.category).sum ≤ 8) (hls : ls.size = nL)
    (kk : ∀ (H1 : Heap) (locs1 : List Loc), GW G (cpI σ a sp b dp n) s H1 locs1 → W p l e R s m args below meth c H1 locs1 cells slots Q (F0 m (pc + 3) ls rest)) : W p l e R s m args below meth c H locs cells slots Q (F0 m pc ls (.int n :: .int dp :: .ref (gz G + b) :: .int sp :: .ref (gz G + a) :: rest)) := by
  obtain ⟨h1, h2, h3, h4, h5⟩ := hc
  have hf := X.2.2.1
  have hlo := X.2.2.2.1
  refine va_copyi X.1.1 X.1.2.1 (X.1.2.2.1.trans hls.symm) X.1.2.2.2.1 (X.1.2.2.2.2 _ lk) (X.1.2.2.2.2 _ acNat) (X.1.2.2.2.2 _ acSta) (X.1.2.2.2.2 _ acIni) X.2.1.1 hW.1 (wl_D G σ) hW.2 a b 0 0 (wl_ct G (by rw [ha]; decide) (ct_11 G σ ha)) (wl_ct G (by rw [hb]; decide) (ct_11 G σ hb)) rfl rfl rfl h1 h2 h3 h4 h5 (fun _ _ => rfl) (Nat.le_trans hh hf) ?_ hd (fun H1 locs1 hP hD hS => kk H1 locs1 ⟨?_, hS⟩)
  · have : nativeFrameWords "java/lang/System" "arraycopy" 5 ≤ 21 := by decide +kernel
    omega
  · rw [wl_set G (σ' := cpI σ a sp b dp n) (by rw [ct_11 G _ hb]; unfold cpI; rw [gI_row]) (fun j hj => ct_row G hj)] at hP
    exact hP
end RX
