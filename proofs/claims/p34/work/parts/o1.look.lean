theorem m_3_146 : Cond.constant RX11 79 100000 ∈ TB := mem_t3 146 (by decide +kernel)
/-! THE LAW'S STRINGS; look; what is made at the start -/
/-- the k-th string's letters -/
def cT (k : Nat) : List Nat := (stB.getD k []).map Int32.toNatClampNeg
theorem cT_all : ∀ k, k < 48 → stL.getD k 0 = (cT k).length ∧ (cT k).map nI = stB.getD k [] ∧ ∀ x ∈ cT k, x < 128 := by decide +kernel
theorem cT_asc {k : Nat} (hk : k < 48) : asc (cT k) := fun i => by
  have h := (cT_all k hk).2.2
  rw [List.getD_eq_getElem?_getD]
  by_cases c : i < (cT k).length
  · rw [List.getElem?_eq_getElem c]
    exact h _ (List.getElem_mem c)
  · rw [List.getElem?_eq_none (by omega)]
    exact Nat.zero_lt_succ _
theorem cT_tB {k : Nat} (hk : k < 48) (j : Nat) : tB (cT k) j = (stB.getD k []).getD j 0 := by
  rw [← (cT_all k hk).2.1]
  unfold tB
  rw [List.getD_eq_getElem?_getD, List.getD_eq_getElem?_getD, List.getElem?_map]
  cases (cT k)[j]? <;> rfl
section
variable {G : Gt} {p : Program} {l : Launch} {e : Env} {R : Room} {s : State} {m : MethodId} {args : Array Value} {below : List Frame} {meth : Method} {c : Code} {H : Heap} {locs : List Loc} {cells slots : Nat} {Q : State → Prop}
variable {cc : ByteArray} {nL h idx cells0 slots0 k : Nat} {own : String} {pc : Nat} {ls : Array Slot} {rest : List Value} {A : Nat → Prop}
theorem p_ldcS (X : Cx G p R s m args c cells0 slots0 cc nL own h) (hk : k < 48) (ho : stO.getD k "" = own) (hi : stK.getD k 0 = idx) (hd : decode cc pc = .ok (.ldc idx, 2))
    (kk : W p l e R s m args below meth c H locs cells slots Q (F0 m (pc + 2) ls (.ref (gsK G k) :: rest))) : W p l e R s m args below meth c H locs cells slots Q (F0 m pc ls rest) := by
  have h6 := X.tE.2.2.2.2.2.1 k hk
  rw [ho, hi] at h6
  exact va_ldcS X.1.1 X.1.2.1 X.1.2.2.2.1 h6 hd kk
theorem sf_const (X : Cx G p R s m args c cells0 slots0 cc nL own h) (hS : va_S A s.heap H locs) (hA : ∀ q, q < s.heap.size → A q → gA G q) (hk : k < 48) : SF (gsK G k) (gsV G k) (cT k) s H := by
  have hq : ∀ a : Nat, a < s.heap.size → ¬ gA G a → H[a]? = s.heap[a]? := fun a h8 h9 => hS.2.1 a h8 (fun q => h9 (hA a h8 q))
  have hN : ∀ q, (fun _ : Nat => False) q → gA G q := fun _ h => h.elim
  obtain ⟨h1, h2, h3, h4⟩ := tE5 X hk
  refine ⟨(h1.kept hq).narrow hN, (h2.kept hq).narrow hN, (h3.kept hq).narrow hN, ?_⟩
  have h5 := (h4.kept hq).narrow hN
  rw [← (cT_all k hk).1]
  have e : (fun j => Value.int (tB (cT k) j)) = fun j => Value.int ((stB.getD k []).getD j 0) := funext fun j => by rw [cT_tB hk j]
  rw [e]
  exact h5
end
theorem PG.row {G : Gm} {σ : St} {H : Heap} {f : Nat → Int32} (h : PG G σ H) (hf : ∀ i, i < 64 → f i = gI σ 1003 i) : PG G (rowI σ 1003 f) H := by
  obtain ⟨p1, p2, p3, p4, p5⟩ := h
  refine ⟨fun j hj => ?_, (by rw [gI_rowNe σ f (by decide)]; exact p2), p3, p4, p5⟩
  by_cases e : j = 1003
  · subst e
    have h1 := p1 1003 hj
    rw [cg_23 _ _ rfl] at h1
    rw [cg_23 _ _ rfl, gI_row]
    exact va_at_cg (fun i hi => (hf i hi).symm) h1
  · rw [cg_congr G (gI_rowNe σ f e)]
    exact p1 j hj
/-- the game's state where look begins to go -/
noncomputable def lookS (σ : St) : St := rowI (sI σ 1000 7 100000) 1003 (fun _ => 0)
noncomputable def lookF (n : Nat) (σ : St) : GoR := (pf_X11_done 1000 (lookS σ)).bind fun set => goW n 5 [] set 1002 0 none (lookS σ)
set_option maxHeartbeats 8000000 in
theorem ch_look {G : Gm} {l : Launch} {σ σ' : St} {pl' : Option (List Nat)} {sz : Nat} (h : lookF (gn G) σ = some (pl', σ')) (hG : AllA (gB G)) (hne : gsK (gB G) 47 ≠ ga G 1000 ∧ gsK (gB G) 47 ≠ ga G 1003 ∧ gsV (gB G) 47 ≠ ga G 1000 ∧ gsV (gB G) 47 ≠ ga G 1003) : CtH (gB G) l yX11_look cX11_look 2 none 15 (mcg 5) (msg 5) [.ref (ga G 1000)] sz (FRG G) (fun U => PG G σ U.heap ∧ EnvD (gB G) U) (fun ov H => ov = none ∧ ∃ v, PG (G.pl v) σ' H ∧ PLq (G.pl .null) none (gsK (gB G) 47) [] sz pl' v H) := by
  refine met_H (by decide +kernel) (Nat.le_of_ble_eq_true rfl) .return_ (Or.inl ⟨rfl, rfl, rfl⟩) ?_
  intro p e s m args below meth c Q ls X hnm hsz hP hr hl
  have hx := X.1.1
  have hb := X.1.2.1
  obtain ⟨hPG, hD⟩ := hP
  have hgz : gz (gB G) ≤ sz := by rw [← hsz]; exact X.2.1.2.1
  have hglt : ∀ i, kv G i ≠ 99 → ga G i < sz := fun i hi => by rw [← hsz]; exact hPG.lt i hi
  have hA : ∀ q, q < s.heap.size → frA (FRG G) sz q → gA (gB G) q := fun q h8 h9 => by
    rcases h9 with (h9 | h9) | h9
    · rw [h9]; exact hPG.2.2.2.2 1000 (by rw [kv_1000]; decide)
    · rw [h9]; exact hPG.2.2.2.2 1003 (by rw [kv_1003]; decide)
    · exact hG q (by omega)
  have hS : va_S (frA (FRG G) sz) s.heap s.heap [] := va_S.rf
  have hl : lv_has ls 2 [(0, .ref (ga G 1000))] := hl
  have n0 : kv G 1000 ≠ 99 := by rw [kv_1000]; decide
  have n3 : kv G 1003 ≠ 99 := by rw [kv_1003]; decide
  have hn4 := hPG.2.2.1
  generalize hmc : mcg 5 = mc1 at X hr
  generalize hms : msg 5 = ms1 at X hr
  have Xv : Cx (gB (G.pl .null)) p (rmC 15 mc1 ms1) s m args c 0 0 cX11_look 2 yX11_look.cls 15 := X
  refine lv_aload_n hx hb dX11_look_0 rfl (lv_at hl 0 rfl) ?_
  refine lv_null hx hb dX11_look_1 ?_
  refine p_put (G := gB G) (T := TX11) (N := 9) (k := 6) (ty := .object "java/lang/String") X (hPG.a20 (kv_1000 _)) inTB_X11 tyX11 tyX11_ok nmX11 rfl (by decide) m_3_73 (fun hq => by cases hq) (by decide +kernel) rfl rfl (Nat.le_of_ble_eq_true rfl) dX11_look_2 fun H1 k1 n1 z1 o1 => ?_
  have hP1 : PG (G.pl .null) σ H1 := hPG.plan (by rw [cg_20 (G.pl .null) σ (by rfl)]; exact n1) o1
  have hS1 := hS.put (k := k1) z1 o1 (Or.inl (Or.inl rfl))
  refine lv_aload_n hx hb dX11_look_5 rfl (lv_at hl 0 rfl) ?_
  refine lv_ldc (v := 100000) hx hb X.1.2.2.2.1 (X.1.2.2.2.2 _ m_3_146) dX11_look_6 ?_
  refine p_put (G := gB G) (T := TX11) (N := 9) (k := 7) (ty := .int) X (hP1.a20 (kv_1000 _)) inTB_X11 tyX11 tyX11_ok nmX11 rfl (by decide) m_3_74 (fun hq => by cases hq) (by decide +kernel) rfl rfl (Nat.le_of_ble_eq_true rfl) dX11_look_8 fun H2 k2 n2 z2 o2 => ?_
  have hP2 : PG (G.pl .null) (sI σ 1000 7 100000) H2 := hP1.put n0 (by rw [cg_20 (G.pl .null) _ (by rfl)]; simp [gI_sI]; exact n2) o2 (fun j hj => gI_rowNe σ _ hj) (congrFun (gI_rowNe σ _ (by decide)) 2)
  have hS2 := hS1.put (k := k2) z2 o2 (Or.inl (Or.inl rfl))
  refine lv_iconst (v := 0) hx hb dX11_look_11 (by decide) ?_
  refine lv_istore_n (lv' := [(1, .int 0), (0, .ref (ga G 1000))]) hx hb dX11_look_12 rfl hl (by decide) rfl ?_
  clear hl; intro ls hl
  generalize hσ1 : sI σ 1000 7 100000 = σ1 at hP2
  have hend : ∀ (f : Nat → Int32) (H : Heap) (locs : List Loc) (ls : Array Slot), (∀ i, i < 64 → f i = 0) → PG (G.pl .null) (rowI σ1 1003 f) H → va_S (frA (FRG G) sz) s.heap H locs → lv_has ls 2 [(0, .ref (ga G 1000))] → W p l e (rmC 15 mc1 ms1) s m args below meth c H locs 0 0 Q (F0 m 32 ls []) := by
    intro f H locs ls hf hPG hS hl
    have hP3 : PG (G.pl .null) (lookS σ) H := by
      have h1 := hPG.row (f := fun _ => 0) (fun i hi => by rw [gI_row]; exact (hf i hi).symm)
      have e : rowI (rowI σ1 1003 f) 1003 (fun _ => 0) = lookS σ := by
        unfold lookS rowI
        rw [hσ1]
        have : va_up (va_up σ1.1 1003 f) 1003 (fun _ => 0) = va_up σ1.1 1003 (fun _ => 0) := funext fun j => by
          unfold va_up
          split <;> rfl
        show (va_up (va_up σ1.1 1003 f) 1003 (fun _ => 0), _) = _
        rw [this]
      rw [e] at h1
      exact h1
    have hg0 := sf_const X hS hA (k := 47) (by decide)
    unfold lookF at h
    obtain ⟨r0, hr0, h⟩ := Option.bind_eq_some_iff.mp h
    refine lv_aload_n hx hb dX11_look_32 rfl (lv_at hl 0 rfl) ?_
    refine p_ldcS (k := 47) X (by decide) rfl rfl dX11_look_33 ?_
    refine lv_aload_n hx hb dX11_look_35 rfl (lv_at hl 0 rfl) ?_
    refine callP_V (r := (RX11, TX11, 9)) (As := []) X hS hA (Mv.h fun H => PG (G.pl .null) (lookS σ) H) (fun U hU _ => by rw [hU]; exact hP3) (hP3.a20 (kv_1000 _)) rfl m_3_115 m_3_116 m_3_117 mv_X11_done (cr_X11_done (G := G.pl .null) (kv_1000 _) hr0) (by decide) rfl rfl (Nat.le_of_ble_eq_true rfl) hl.1 dX11_look_36 (c_R (Nat.zero_le _)) (s_R (Nat.zero_le _)) ?_
    refine lv_aload_n hx hb dX11_look_39 rfl (lv_at hl 0 rfl) ?_
    refine gg_X11_stock (G := G.pl .null) Xv hP3 (kv_1000 _) m_3_64 dX11_look_40 ?_
    refine lv_iconst (v := 0) hx hb dX11_look_43 (by decide) ?_
    have hC : CtH (gB G) l yX11_go cX11_go 8 none 13 (mcg 5) (msg 5) [.ref (ga G 1000), .ref (gsK (gB G) 47), .int r0, .ref (ga G 1002), .int 0] (Array.size H) (FRG (G.pl .null)) (PfG (G.pl .null) (lookS σ) none (gsK (gB G) 47) (gsV (gB G) 47) []) (QfG (G.pl .null) σ' none (gsK (gB G) 47) [] (Array.size H) pl') := ch_go hn4 5 (G.pl .null) (lookS σ) σ' none pl' (gsK (gB G) 47) (gsV (gB G) 47) (Array.size H) 1002 [] r0 0 rfl h hG (kv_1002 _) (fun i => (by show [].getD i 0 < 128; rw [List.getD_eq_getElem?_getD]; exact Nat.zero_lt_succ _)) (by decide) hne
    have hPf : ∀ U : State, U.heap = H → s.vm.Alike U.vm → PfG (G.pl .null) (lookS σ) none (gsK (gB G) 47) (gsV (gB G) 47) [] U := fun U hU hv => ⟨by rw [hU]; exact hP3, by rw [hU]; exact hg0.moved hv, Or.inl ⟨rfl, rfl⟩, hD.to hS hA hU hv⟩
    have hfr : ∀ q, frA (FRG (G.pl .null)) (Array.size H) q → frA (FRG G) sz q := fun q h9 => by
      rcases h9 with h9 | h9
      · exact Or.inl h9
      · exact Or.inr (by have := hS.1; omega)
    refine callH_V (G := gB G) (As := [.ref (gsK (gB G) 47), .int r0, .ref (ga G 1002), .int 0]) (fr := FRG (G.pl .null)) X hS hA (PfG.mv (G := G.pl .null) (σ := lookS σ) (pl := none) (a := gsK (gB G) 47) (bt := gsV (gB G) 47) (t := [])) hPf hfr (p_recv X (hP3.a20 (kv_1000 _)) (r := (RX11, TX11, 9)) rfl) m_3_148 m_3_150 m_0_9 mv_X11_go hC (by decide) rfl rfl (Nat.le_of_ble_eq_true rfl) hl.1 dX11_look_44 (c_R (by rw [hmc]; exact Nat.le_of_eq (Nat.zero_add _))) (s_R (by rw [hms]; exact Nat.le_of_eq (Nat.zero_add _))) fun ov1 HG locs qG zG oG hS2 => ?_
    obtain ⟨rfl, v6, hP6, hq6⟩ := qG
    refine hr _ _ _ _ _ _ dX11_look_47 ⟨rfl, v6, hP6, ?_⟩ hS2 (by rw [hmc]; exact Nat.le_of_eq (Nat.zero_add _)) (by rw [hms]; exact Nat.le_of_eq (Nat.zero_add _))
    rcases hq6 with q | q | ⟨a9, b9, p9, q1, q2, q3, q4, q5, q6⟩
    · exact Or.inl q
    · exact Or.inr (Or.inl q)
    · exact Or.inr (Or.inr ⟨a9, b9, p9, q1, q2, q3, q4, (by have := hS.1; omega), (by have := hS.1; omega)⟩)
  have loop : ∀ (j i : Nat), i + j = 64 → ∀ (f : Nat → Int32) (H : Heap) (locs : List Loc) (ls : Array Slot), (∀ k, k < i → f k = 0) → PG (G.pl .null) (rowI σ1 1003 f) H → va_S (frA (FRG G) sz) s.heap H locs → lv_has ls 2 [(0, .ref (ga G 1000)), (1, .int (nI i))] → W p l e (rmC 15 mc1 ms1) s m args below meth c H locs 0 0 Q (F0 m 13 ls []) := by
    intro j
    induction j with
    | zero =>
      intro i hi f H locs ls hf hPG hS hl
      obtain rfl : i = 64 := by omega
      refine lv_iload_n hx hb dX11_look_13 rfl (lv_at hl 1 rfl) ?_
      refine lv_bipush (v := 64) hx hb dX11_look_14 (by decide) ?_
      refine lv_icmp_ge (tgt := 32) hx hb dX11_look_16 (by decide) (fun _ => ?_) (fun hc => absurd (by decide +kernel) hc)
      exact hend f H locs ls hf hPG hS (lv_sub hl [0] rfl)
    | succ j ih =>
      intro i hi f H locs ls hf hPG hS hl
      refine lv_iload_n hx hb dX11_look_13 rfl (lv_at hl 1 rfl) ?_
      refine lv_bipush (v := 64) hx hb dX11_look_14 (by decide) ?_
      refine lv_icmp_ge (tgt := 32) hx hb dX11_look_16 (by decide) (fun hc => absurd hc (by rw [show (64 : Int32) = nI 64 from rfl]; exact nI_ge (by omega) (by decide))) (fun _ => ?_)
      refine lv_aload_n hx hb dX11_look_19 rfl (lv_at hl 0 rfl) ?_
      refine gg_X11_ends (G := G.pl .null) Xv hPG (kv_1000 _) m_3_75 dX11_look_20 ?_
      refine lv_iload_n hx hb dX11_look_23 rfl (lv_at hl 1 rfl) ?_
      refine lv_iconst (v := 0) hx hb dX11_look_24 (by decide) ?_
      refine p_zast (G := gB G) (t := 2) X (Or.inl rfl) (hPG.a23 (kv_1003 _)) rfl (nI_in (by omega) (by decide)) dX11_look_25 fun H2 k2 n2 z2 o2 => ?_
      rw [nI_clamp (by omega), gI_row] at n2
      have e2 : rowI (rowI σ1 1003 f) 1003 (upd f i 0) = rowI σ1 1003 (upd f i 0) := by
        unfold rowI
        have : va_up (va_up σ1.1 1003 f) 1003 (upd f i 0) = va_up σ1.1 1003 (upd f i 0) := funext fun j => by
          unfold va_up
          split <;> rfl
        show (va_up (va_up σ1.1 1003 f) 1003 (upd f i 0), _) = _
        rw [this]
      have hP2 : PG (G.pl .null) (rowI σ1 1003 (upd f i 0)) H2 := by
        rw [← e2]
        exact hPG.put n3 (by rw [cg_23 (G.pl .null) _ (by rfl), gI_row]; exact n2) o2 (fun j hj => gI_rowNe _ _ hj) (congrFun (gI_rowNe _ _ (by decide)) 2)
      have hS2 := hS.put (k := k2) z2 o2 (Or.inl (Or.inr rfl))
      refine lv_iinc (lv' := [(1, .int (nI (i + 1))), (0, .ref (ga G 1000))]) (k := 1) hx hb dX11_look_26 hl rfl (nI_1 i) (by decide) rfl ?_
      clear hl; intro ls hl
      refine lv_goto (tgt := 13) hx hb dX11_look_29 (by decide) ?_
      exact ih (i + 1) (by omega) (upd f i 0) H2 _ ls (fun k hk => by by_cases c : k = i; exact upd_y c; exact (upd_n c).trans (hf k (by omega))) hP2 hS2 (lv_sub hl [1, 0] rfl)
  have e3 : rowI σ1 1003 (gI σ1 1003) = σ1 := by
    unfold rowI
    have : va_up σ1.1 1003 (gI σ1 1003) = σ1.1 := funext fun j => by
      unfold va_up
      split
      · rename_i c; rw [c]; rfl
      · rfl
    rw [this]
  exact loop 64 0 rfl (gI σ1 1003) H2 _ ls (fun k hk => absurd hk (Nat.not_lt_zero k)) (by rw [e3]; exact hP2) hS2 (lv_sub hl [1, 0] rfl)
