/-! THE LAW: all of it -/
theorem leN_in (N : Nat) (xs : Nat → Int32) : 1 ≤ leN N xs ∧ leN N xs ≤ maN N xs := by
  have h1 := maN_in N xs
  have h2 := bN_lt (ishr (cellF N xs 1) 6) (show 0 < maN N xs by omega)
  unfold leN
  omega
theorem am2_le (N : Nat) (xs : Nat → Int32) (k i : Nat) : (DN N xs).am 2 k i ≤ 2 := by
  show amC (cellF N xs (3 + k)) 2 i ≤ 2
  unfold amC
  rw [if_neg (by decide), if_neg (by decide), if_pos rfl]
  split <;> omega
set_option maxHeartbeats 4000000 in
theorem law_all {G : Gt} {l : Launch} {p : Program} {e : Env} {R : Room} {s : State} {m : MethodId} {args : Array Value} {below : List Frame} {meth : Method} {c : Code} {Q : State → Prop} {b N e0 : Nat} {A : Nat → Prop} {xs : Nat → Int32} {ls : Array Slot}
    (X : Cx G p R s m args c 0 0 cL_law 12 RL 40) (hfl : l.stackTraces = false) (hG : AllA G) (hgz : gz G ≤ s.heap.size) (hA : ∀ q, q < s.heap.size → A q → gA G q) (hAn : ∀ q, s.heap.size ≤ q → A q) (hAO : ∀ C ∈ ["QuestLedger$Quest", "QuestLedger$Ledger", "QuestLedger$Token"], va_AO C s) (hD : EnvD G s) (hE : EnvL G e0 s) (hxs : va_T .int b N (fun k => .int (xs k)) (gA G) s s.heap) (hN : N < 2 ^ 31) (hnm : meth.name ≠ "<init>") (hRc : 20000 + 11 * (mcg 5 + 1) ≤ R.cells) (hRs : 2000000 + 11 * (msg 5 + 6) ≤ R.slots)
    (hret : ∀ (pc : Nat) (H : Heap) (locs : List Loc) (ls : Array Slot) (cells slots : Nat), decode cL_law pc = .ok (.ireturn, 1) → va_S A s.heap H locs → cells ≤ R.cells → slots ≤ R.slots → W p l e R s m args below meth c H locs cells slots Q (F0 m pc ls [.int 1]))
    (hl : lv_has ls 12 [(0, .ref b)]) : W p l e R s m args below meth c s.heap [] 0 0 Q (F0 m 0 ls []) := by
  have hx := X.1.1
  have hb := X.1.2.1
  generalize hM1 : 11 * (mcg 5 + 1) = M1 at hRc
  generalize hM2 : 11 * (msg 5 + 6) = M2 at hRs
  have h00 : nI 0 = 0 := by decide +kernel
  have hma := maN_in N xs
  have hle := leN_in N xs
  have hsd : sdN N xs ≤ 9999 := by have := bN_lt (cellF N xs 0) (show 0 < 10000 by decide); show bN _ _ ≤ _; omega
  have hso : soN N xs < 3 := bN_lt _ (by decide)
  have hRc2 : 20000 ≤ R.cells := Nat.le_trans (Nat.le_add_right _ _) hRc
  have hRs2 : 2000000 ≤ R.slots := Nat.le_trans (Nat.le_add_right _ _) hRs
  refine law_1 X hG hgz hA hAn hD hE hxs hN hnm (Nat.le_trans (by decide) hRc2) (Nat.le_trans (by decide) hRs2) (fun q st k0 en sb v H locs cells slots ls hq h1 h2 h3 h4 hv hsv hvq hvst hvk hven g0 g1 g2 g3 hsb hS hc hs hl => ?_) hl
  refine lv_iconst (v := nI 0) hx hb dL_law_103 (by decide) ?_
  refine lv_istore (lv' := [(4, .int (nI 0)), (0, .ref b), (1, .ref q), (2, .int (nI (maN N xs))), (3, .ref sb)]) hx hb dL_law_104 hl (by decide) rfl (fun ls hl => ?_)
  refine law_2s (C0 := 40) (S0 := 600) (st := st) (en := en) (vs := [.int 0, .ref e0, .int 0]) X hG hgz hA hAn hD hE hxs hN hnm (Nat.le_trans (by decide) hRc2) (Nat.le_trans (by decide) hRs2) (q := q) (k0 := k0) (sb := sb) (gs := [.ref st, .ref k0, .int (nI (sdN N xs)), .int 0, .int (nI (leN N xs)), .int (nI (soN N xs)), .null, .int 0, .ref en]) (by omega) (by omega) (by omega) (by omega) rfl (by omega) hq (by omega) (by omega) (Nat.le_trans (by decide) hRc2) (Nat.le_trans (by decide) hRs2) (fun v f H locs cells slots ls hf hvq hvs hve a1 a2 a3 a4 a5 g0 g2 g1 g3 hsb hS hc hs hl => ?_) 3 0 rfl v (fun _ => 0) H locs cells slots ls (fun i hi => absurd hi (Nat.not_lt_zero _)) hvq hvst hven (by omega) hv hsv hvk (by omega) g0 g2 g1 g3 hsb hS hc hs hl
  refine law_3 (C0 := 52) (S0 := 1800) X hG hgz hA hAn hD hE hxs hN hnm (Nat.le_trans (by decide) hRc2) (Nat.le_trans (by decide) hRs2) a1 a2 a3 (Nat.le_trans (by decide) hRc2) (Nat.le_trans (by decide) hRs2) hc hs hsb hS (fun v2 b4 v4 H1 locs1 cells1 slots1 ls b1 b2 b3 b5 b6 b7 b8 b9 hz o1 hsb1 hsb4 hS hc hs hl => ?_) hl
  have l0 := g0.lt
  have l1 := g1.lt
  have l2 := g2.lt
  have l3 := g3.lt
  have l4 := hsb.lt
  have hnb : ∀ x, x < H.size → x ≠ sb → x ≠ v → NB sb v2 b4 v4 x := fun x c1 c2 c3 => ⟨c2, by rcases b3 with rfl | b3; exact c3; omega, by omega, by omega⟩
  refine law_steps (C0 := 57) (S0 := 2400) (D := 200000) (st := st) (k0 := k0) (en := en) (sb := sb) (b4 := b4) (q := q) (fk := f) (gs := [.ref st, .ref k0, .int (nI (sdN N xs)), .int 0, .int (nI (leN N xs)), .int (nI (soN N xs)), .null, .int 0, .ref en]) X hG hgz hA hAn hD hE hxs hN hnm rfl (Nat.le_refl _) (Nat.le_trans (by decide) hRc2) (Nat.le_trans (by decide) hRs2) (fun v v4 d ad H1 locs1 cells1 slots1 ls ap dg lsf sbs sb4 hS hc hs hl => ?_) (maN N xs) 0 (Nat.zero_add _) v2 v4 0 (fun _ => 0) H1 locs1 cells1 slots1 ls ⟨⟨hq, h1, h2, h3, h4, by omega⟩, ⟨b1, b2, by omega, b9, b7, by omega, b8⟩, ?_, hnb st l1 (by omega) (by omega), fun h => absurd h (Nat.lt_irrefl 0), fun i hi => absurd hi (Nat.not_lt_zero _), fun i j _ hj => absurd hj (Nat.not_lt_zero _)⟩ ⟨g0.kept (o1 _ l0 (by omega) (by omega)), g2.kept (o1 _ l2 (by omega) (by omega)), g3.kept (o1 _ l3 (by omega) (by omega)), fun j hj => absurd hj (Nat.not_lt_zero _)⟩ (g1.kept (o1 _ l1 (by omega) (by omega))) hsb1 hsb4 hS hc hs (by rw [h00]; exact hl)
  · have ap0 := ap
    obtain ⟨⟨o1, o2, o3, o4, o5, o6⟩, ⟨w1, w2, w3, w4, w5, w6, w7⟩, hDA, hst, hdd, hb4, hmo⟩ := ap0
    have hTl := TT_len N xs (maN N xs) hma.2
    refine law_goal (C0 := 2057) (S0 := 802400) X hG hgz hA hAn hD hE hxs hN hnm (Nat.le_trans hq (by omega)) w1 w2 ⟨(hDA q (Or.inl rfl)).1, (hDA q (Or.inl rfl)).2.1⟩ ⟨by omega, w5⟩ ⟨w6, w7⟩ hso (by omega) hma.2 (by omega) (Nat.le_trans (by decide) hRc2) (Nat.le_trans (by decide) hRs2) (Nat.le_trans hc (by decide)) (Nat.le_trans hs (by decide)) hS dg.1 sbs sb4 (fun H2 locs2 cells2 slots2 ls hx2 hS hc hs hl => ?_) hl
    obtain ⟨hF, v9, p1, p2, p3, p4⟩ := hx2
    have dg2 := dg.kept (fun x hx1 => hF.2 x (dg.lt x hx1) (fun q => q.elim (hDA x hx1).1 (hDA x hx1).2.1))
    have ls2 : LsF G (maN N xs) st d e0 ad H2 := by
      unfold LsF at lsf ⊢
      rw [if_neg (by omega)] at lsf ⊢
      exact ⟨lsf.1.kept (hF.2 _ lsf.1.lt (fun q => q.elim hst.1 hst.2.1)), lsf.2.kept (hF.2 _ lsf.2.lt (fun q => q.elim (hdd (by omega)).1.1 (hdd (by omega)).1.2.1))⟩
    obtain ⟨hPG, hlow⟩ := pgL (sk := skN N xs) hG hgz hma ap hf dg2 ls2
    have ha := law_asc (N := N) (xs := xs) (so := soN N xs) (le := leN N xs) hma.2 (by omega)
    exact law_end (G := GmL G (maN N xs) q st k0 en d ad) (C1 := 2087) (S1 := 832400) (D := DN N xs) (sd := sdN N xs) (so := soN N xs) (le := leN N xs) (n := maN N xs) (sk := skN N xs) (vp := .null) (b4 := b4) X hfl hG hgz hA hAn hAO rfl hlow hD hxs hN (DN_ok N xs) hso hle hma hsd (fun i => by have := bN_lt (ishr (cellF N xs 2) (nI (3 * i))) (show 0 < 5 by decide); show bN _ _ ≤ 4; omega) (am2_le N xs) hPG (gxL hma.2) p4 (law_text hma rfl) ha.2 ha.1 hS hc hs (by rw [hM1]; omega) (by rw [hM2]; omega) hret hl
  · rintro x (rfl | rfl | rfl | ⟨i, hi, -⟩)
    · exact hnb x l0 (by omega) (by omega)
    · exact hnb x l2 (by omega) (by omega)
    · exact hnb x l3 (by omega) (by omega)
    · exact absurd hi (Nat.not_lt_zero _)
