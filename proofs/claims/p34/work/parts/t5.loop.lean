/-! THE LAW: its steps, all of them -/
theorem st_fin {G : Gt} {N : Nat} {xs : Nat → Int32} {gs : List Value} {fk : Nat → Int32} {lo k q st k0 en sb v b4 v4 d d' e0 a u n g hs : Nat} {ad : Nat → Nat} {H4 Hm H7 : Heap} {T' A' : List Nat} (ap : AP lo k q st k0 en sb v b4 v4 d ad) (hold : v < hs ∧ v4 < hs ∧ b4 < hs ∧ (0 < k → d < hs) ∧ ∀ i, i < 4 * k → ad i < hs) (hs4 : hs ≤ H4.size) (ha : hs ≤ a) (hau : a < u) (hun : u < n) (hng : n < g) (hd1 : 0 < k → d' = d) (hd0 : k = 0 → g < d') (dg4 : DG G N xs gs fk (k + 1) q k0 en (adU ad k a u n g) H4) (ls4 : LsF G (k + 1) st d' e0 (adU ad k a u n g) H4) (hx : SBx G lo sb v T' H4 Hm) (hy : SBx G lo b4 v4 A' Hm H7) : ∃ v2 v42, AP lo (k + 1) q st k0 en sb v2 b4 v42 d' (adU ad k a u n g) ∧ DG G N xs gs fk (k + 1) q k0 en (adU ad k a u n g) H7 ∧ LsF G (k + 1) st d' e0 (adU ad k a u n g) H7 ∧ SBs G sb v2 T' H7 ∧ SBs G b4 v42 A' H7 := by
  obtain ⟨⟨o1, o2, o3, o4, o5, o6⟩, ⟨w1, w2, w3, w4, w5, w6, w7⟩, hDA, hst, hdd, hb4, hmo⟩ := ap
  obtain ⟨m1, m2, m3, m4, m5⟩ := hold
  obtain ⟨hF, v2, p1, p2, p3, p4⟩ := hx
  obtain ⟨hF', v42, r1, r2, r3, r4⟩ := hy
  unfold LsF at ls4
  rw [if_neg (by omega)] at ls4
  obtain ⟨l1, l2⟩ := ls4
  have l1l := l1.lt
  have l2l := l2.lt
  have hFs := hF.1
  have hFs' := hF'.1
  have p4l := p4.lt
  have dl := dg4.lt
  have hd4 : NB sb v b4 v4 d' ∧ b4 < d' := by
    rcases Nat.eq_zero_or_pos k with c | c
    · have := hd0 c
      refine ⟨⟨?_, ?_, ?_, ?_⟩, ?_⟩ <;> omega
    · rw [hd1 c]
      exact ⟨(hdd c).1, (hdd c).2.1⟩
  have old : ∀ x, DA (k + 1) q k0 en (adU ad k a u n g) x → NB sb v b4 v4 x := by
    rintro x (rfl | rfl | rfl | ⟨i, hi, rfl⟩)
    · exact hDA _ (Or.inl rfl)
    · exact hDA _ (Or.inr (Or.inl rfl))
    · exact hDA _ (Or.inr (Or.inr (Or.inl rfl)))
    · rcases adU_c hi with ⟨c, e⟩ | ⟨_, e⟩ | ⟨_, e⟩ | ⟨_, e⟩ | ⟨_, e⟩
      · rw [e]; exact hDA _ (Or.inr (Or.inr (Or.inr ⟨i, c, rfl⟩)))
      all_goals
        rw [e]
        refine ⟨?_, ?_, ?_, ?_⟩ <;> omega
  -- nothing of these has changed
  have kept : ∀ x, x < H4.size → NB sb v b4 v4 x → H7[x]? = H4[x]? := fun x hx4 hn => (hF'.2 x (by omega) (fun q => q.elim hn.2.2.1 hn.2.2.2)).trans (hF.2 x hx4 (fun q => q.elim hn.1 hn.2.1))
  have v2n : ∀ x, x < H4.size → x ≠ v → x ≠ v2 := fun x hx4 hn => by
    rcases p2 with rfl | p2
    · exact hn
    · omega
  have v42n : ∀ x, x < Hm.size → x ≠ v4 → x ≠ v42 := fun x hx4 hn => by
    rcases r2 with rfl | r2
    · exact hn
    · omega
  have nb2 : ∀ x, x < H4.size → NB sb v b4 v4 x → NB sb v2 b4 v42 x := fun x hx4 hn => ⟨hn.1, v2n x hx4 hn.2.1, hn.2.2.1, v42n x (by omega) hn.2.2.2⟩
  have b4v2 : b4 ≠ v2 := v2n b4 (by omega) w5
  have v4v2 : v4 ≠ v2 := v2n v4 (by omega) w7
  refine ⟨v2, v42, ⟨⟨o1, o2, o3, o4, o5, o6⟩, ⟨p1, p3, r1, r3, b4v2, fun e => v42n sb p4l.1 (fun e2 => w6 e2.symm) e.symm, fun e => v42n v2 p4l.2 (fun e2 => v4v2 e2.symm) e.symm⟩, fun x hx1 => nb2 x (dl x hx1) (old x hx1), nb2 st l1l hst, fun _ => ⟨nb2 d' l2l hd4.1, hd4.2, fun i hi => ?_⟩, fun i hi => ?_, fun i j hij hj => ?_⟩, dg4.kept (fun x hx1 => kept x (dl x hx1) (old x hx1)), ?_, p4.kept (hF'.2 sb p4l.1 (fun q => q.elim (by omega) (fun e => w6 e.symm))) (hF'.2 v2 p4l.2 (fun q => q.elim (fun e => b4v2 e.symm) (fun e => v4v2 e.symm))), r4⟩
  · rcases Nat.eq_zero_or_pos k with c | c
    · have := hd0 c
      rcases adU_c hi with ⟨c2, e⟩ | ⟨_, e⟩ | ⟨_, e⟩ | ⟨_, e⟩ | ⟨_, e⟩
      · omega
      all_goals
        rw [e]
        omega
    · have h1 := hd1 c
      have h2 := m4 c
      rw [h1]
      rcases adU_c hi with ⟨c2, e⟩ | ⟨_, e⟩ | ⟨_, e⟩ | ⟨_, e⟩ | ⟨_, e⟩
      · rw [e]; exact (hdd c).2.2 i c2
      all_goals
        rw [e]
        omega
  · rcases adU_c hi with ⟨c2, e⟩ | ⟨_, e⟩ | ⟨_, e⟩ | ⟨_, e⟩ | ⟨_, e⟩
    · rw [e]; exact hb4 i c2
    all_goals
      rw [e]
      omega
  · rcases adU_c hj with ⟨c2, e⟩ | ⟨c2, e⟩ | ⟨c2, e⟩ | ⟨c2, e⟩ | ⟨c2, e⟩
    · rw [e, adU_o (by omega)]; exact hmo i j hij c2
    all_goals
      rw [e]
      rcases adU_c (k := k) (ad := ad) (a := a) (u := u) (n := n) (g := g) (show i < 4 * (k + 1) by omega) with ⟨c3, e3⟩ | ⟨c3, e3⟩ | ⟨c3, e3⟩ | ⟨c3, e3⟩ | ⟨c3, e3⟩
      · rw [e3]
        have := m5 i c3
        omega
      all_goals
        rw [e3]
        omega
  · unfold LsF
    rw [if_neg (by omega)]
    exact ⟨l1.kept (kept st l1l hst), l2.kept (kept d' l2l hd4.1)⟩
set_option maxHeartbeats 4000000 in
theorem law_steps {G : Gt} {l : Launch} {p : Program} {e : Env} {R : Room} {s : State} {m : MethodId} {args : Array Value} {below : List Frame} {meth : Method} {c : Code} {Q : State → Prop} {b N e0 : Nat} {A : Nat → Prop} {xs : Nat → Int32}
    (X : Cx G p R s m args c 0 0 cL_law 12 RL 40) (hG : AllA G) (hgz : gz G ≤ s.heap.size) (hA : ∀ q, q < s.heap.size → A q → gA G q) (hAn : ∀ q, s.heap.size ≤ q → A q) (hD : EnvD G s) (hE : EnvL G e0 s) (hxs : va_T .int b N (fun k => .int (xs k)) (gA G) s s.heap) (hN : N < 2 ^ 31) (hnm : meth.name ≠ "<init>")
    {q st k0 en sb b4 C0 S0 D : Nat} {gs : List Value} {fk : Nat → Int32} (hgs : gs[0]? = some (.ref st)) (hD1 : 200000 ≤ D) (hCc : C0 + 500 * 5 ≤ R.cells) (hCs : S0 + D * 5 ≤ R.slots)
    (hK : ∀ (v v4 d : Nat) (ad : Nat → Nat) (H1 : Heap) (locs1 : List Loc) (cells1 slots1 : Nat) (ls : Array Slot), AP s.heap.size (maN N xs) q st k0 en sb v b4 v4 d ad → DG G N xs gs fk (maN N xs) q k0 en ad H1 → LsF G (maN N xs) st d e0 ad H1 → SBs G sb v (TTN N xs (maN N xs)) H1 → SBs G b4 v4 (alS (maN N xs)) H1 → va_S A s.heap H1 locs1 → cells1 ≤ C0 + 500 * 4 → slots1 ≤ S0 + D * 4 → lv_has ls 12 [(4, .ref b4), (0, .ref b), (1, .ref q), (2, .int (nI (maN N xs))), (3, .ref sb)] → W p l e R s m args below meth c H1 locs1 cells1 slots1 Q (F0 m 587 ls [])) :
    ∀ (j k : Nat), k + j = maN N xs → ∀ (v v4 d : Nat) (ad : Nat → Nat) (H : Heap) (locs : List Loc) (cells slots : Nat) (ls : Array Slot), AP s.heap.size k q st k0 en sb v b4 v4 d ad → DG G N xs gs fk k q k0 en ad H → LsF G k st d e0 ad H → SBs G sb v (TTN N xs k) H → SBs G b4 v4 (alS k) H → va_S A s.heap H locs → cells ≤ C0 + 500 * k → slots ≤ S0 + D * k → lv_has ls 12 [(5, .int (nI k)), (4, .ref b4), (0, .ref b), (1, .ref q), (2, .int (nI (maN N xs))), (3, .ref sb)] → W p l e R s m args below meth c H locs cells slots Q (F0 m 187 ls []) := by
  have hx := X.1.1
  have hb := X.1.2.1
  have hma := maN_in N xs
  intro j
  induction j with
  | zero =>
    intro k hk v v4 d ad H locs cells slots ls ap dg lsf hsb hsb4 hS hc hs hl
    obtain rfl : k = maN N xs := by omega
    have hDk : D * maN N xs ≤ D * 4 := Nat.mul_le_mul_left _ hma.2
    refine lv_iload hx hb dL_law_187 (lv_at hl 0 rfl) ?_
    refine lv_iload_n hx hb dL_law_189 rfl (lv_at hl 4 rfl) ?_
    refine lv_icmp_ge (tgt := 587) hx hb dL_law_190 (by decide) (fun _ => ?_) (fun hc => absurd (Int32.le_refl _) hc)
    exact hK v v4 d ad H locs cells slots ls ap dg lsf hsb hsb4 hS (by omega) (by omega) (lv_sub hl [1, 2, 3, 4, 5] rfl)
  | succ j ih =>
    intro k hk v v4 d ad H locs cells slots ls ap dg lsf hsb hsb4 hS hc hs hl
    have hk4 : k < 4 := by omega
    have hDk : D * (k + 1) ≤ D * 4 := Nat.mul_le_mul_left _ (by omega)
    have hDs : D * (k + 1) = D * k + D := Nat.mul_succ _ _
    have hD5 : D * 5 = D * 4 + D := Nat.mul_succ _ _
    have hTl := TT_len N xs k (by omega)
    have hsR : slots + 100000 ≤ R.slots := by omega
    have hcR : cells + 450 ≤ R.cells := by omega
    have hsE : slots + 200000 ≤ S0 + D * (k + 1) := by omega
    have hcE : cells + 450 ≤ C0 + 500 * (k + 1) := by omega
    clear hDk hDs hD5 hCc hCs hK hc hs
    refine lv_iload hx hb dL_law_187 (lv_at hl 0 rfl) ?_
    refine lv_iload_n hx hb dL_law_189 rfl (lv_at hl 4 rfl) ?_
    refine lv_icmp_ge (tgt := 587) hx hb dL_law_190 (by decide) (fun hc => absurd hc (nI_ge (by omega) (by omega))) (fun _ => ?_)
    refine law_A (C0 := cells) (S0 := slots) X hG hgz hA hAn hD hE hxs hN hnm (by omega) rfl (by omega) (by omega) (Nat.le_refl _) (Nat.le_refl _) hS ?_ hl
    clear hS hl
    intro a u n g H1 locs1 cells1 slots1 ls1 ha hau hun hng hf1 f1 u1 n1 g1 hS hc1 hs1 hl
    have hlo := hS.1
    -- the rest of the step
    have hlt := hsb.lt
    have hlt4 := hsb4.lt
    have hdl := dg.lt
    have hs0 : s.heap.size ≤ H.size := by have := ap.1; have := hlt.1; omega
    refine law_B (C0 := cells1) (S0 := slots1) (H0 := H1) (u := u) (n := n) (g := g) (cc := cellF N xs (3 + k)) (r0 := nI (riC (cellF N xs (3 + k)))) (l0 := nI (liC (cellF N xs (3 + k)))) (c0 := if coC (cellF N xs (3 + k)) then 1 else 0) X hG hgz hA hAn hD hE hxs hN hnm (by omega) (by omega) (by omega) (by omega) ?_ k 0 (Nat.zero_add _) H1 locs1 cells1 slots1 ls1 (Fxe.rf _ _) f1 hS (Nat.le_refl _) (Nat.le_refl _) hl
    clear hS hl f1
    intro H2 locs2 cells2 slots2 ls2 hf2 f2 hS hc2 hs2 hl
    have u2 := u1.kept (hf2.2 _ u1.lt (by dsimp only; omega))
    have n2 := n1.kept (hf2.2 _ n1.lt (by dsimp only; omega))
    have g2 := g1.kept (hf2.2 _ g1.lt (by dsimp only; omega))
    refine lv_iconst (v := 0) hx hb dL_law_318 (by decide) ?_
    refine lv_istore (lv' := [(8, .int 0), (7, .int (cellF N xs (3 + k))), (6, .ref a), (5, .int (nI k)), (4, .ref b4), (0, .ref b), (1, .ref q), (2, .int (nI (maN N xs))), (3, .ref sb)]) hx hb dL_law_319 hl (by decide) rfl ?_
    clear hl; intro ls2 hl
    refine law_C (C0 := cells2) (S0 := slots2) (H0 := H2) X hG hgz hA hAn hD hE hxs hN hnm (by omega) ⟨hau, hun, hng⟩ (by omega) (by omega) ?_ 3 0 rfl (fun _ => 0) (fun _ => 0) (fun _ => 0) H2 locs2 cells2 slots2 ls2 (fun x h => absurd h (Nat.not_lt_zero _)) (fun x h => absurd h (Nat.not_lt_zero _)) (fun x h => absurd h (Nat.not_lt_zero _)) (Fxe.rf _ _) f2 u2 n2 g2 hS (Nat.le_refl _) (Nat.le_refl _) hl
    have u2l := u2.lt
    have n2l := n2.lt
    have g2l := g2.lt
    have f2l := f2.lt
    clear hS hl f2 u2 n2 g2
    intro fu fn fg H3 locs3 cells3 slots3 ls3 e1 e2 e3 hf3 f3 u3 n3 g3 hS hc3 hs3 hl
    have hz1 := hf1.1
    have hz2 := hf2.1
    have hz3 := hf3.1
    -- what is older than the step stands at H3
    have k3 : ∀ x, x < H.size → H3[x]? = H[x]? := fun x hx1 => (hf3.2 x (by omega) (by dsimp only; omega)).trans ((hf2.2 x (by omega) (by dsimp only; omega)).trans (hf1.2 x hx1 (fun q => q)))
    have dg3 : DG G N xs gs fk k q k0 en ad H3 := dg.kept (fun x hx1 => k3 x (hdl x hx1))
    have hsb3 : SBs G sb v (TTN N xs k) H3 := hsb.kept (k3 _ hlt.1) (k3 _ hlt.2)
    have hsb43 : SBs G b4 v4 (alS k) H3 := hsb4.kept (k3 _ hlt4.1) (k3 _ hlt4.2)
    have sh3 : StH G (cellF N xs (3 + k)) k a u n g H3 := ⟨f3, fu, fn, fg, e1, e2, e3, u3, n3, g3⟩
    have hold : v < H.size ∧ v4 < H.size ∧ b4 < H.size ∧ (0 < k → d < H.size) ∧ ∀ i, i < 4 * k → ad i < H.size := by
      refine ⟨hlt.2, hlt4.2, hlt4.1, fun c => ?_, fun i hi => hdl _ (Or.inr (Or.inr (Or.inr ⟨i, hi, rfl⟩)))⟩
      unfold LsF at lsf
      rw [if_neg (by omega)] at lsf
      exact lsf.2.lt
    have hstl : st < H.size := by
      unfold LsF at lsf
      split at lsf
      · exact lsf.lt
      · exact lsf.1.lt
    have g3l := g3.lt
    have mE : ∀ (d' : Nat) (H4 : Heap) (locs : List Loc) (cells4 slots4 : Nat) (ls : Array Slot), (0 < k → d' = d) → (k = 0 → H3.size ≤ d') → H3.size ≤ H4.size → (∀ x, x < H3.size → x ≠ st → (0 < k → x ≠ d) → H4[x]? = H3[x]?) → LsF G (k + 1) st d' e0 (adU ad k a u n g) H4 → va_S A s.heap H4 locs → cells4 ≤ cells3 + 1 → slots4 ≤ slots3 + 10 → lv_has ls 12 [(6, .ref a), (5, .int (nI k)), (4, .ref b4), (0, .ref b), (1, .ref q), (2, .int (nI (maN N xs))), (3, .ref sb)] → W p l e R s m args below meth c H4 locs cells4 slots4 Q (F0 m 419 ls []) := by
      clear hS hl
      intro d' H4 locs4 cells4 slots4 ls4 hd1 hd0 hz4 hf4 ls4F hS hc4 hs4 hl
      obtain ⟨⟨o1, o2, o3, o4, o5, o6⟩, ⟨w1, w2, w3, w4, w5, w6, w7⟩, hDA, hst, hdd, hb4, hmo⟩ := id ap
      -- at H4
      have f4 : ∀ x, x < H3.size → x ≠ st → (0 < k → x ≠ d) → H4[x]? = H3[x]? := hf4
      have dg4 : DG G N xs gs fk k q k0 en ad H4 := dg3.kept (fun x hx1 => by
        have hxl := hdl x hx1
        refine f4 x (by omega) ?_ ?_
        · rcases hx1 with rfl | rfl | rfl | ⟨i, hi, rfl⟩
          · omega
          · omega
          · omega
          · have := hb4 i hi; omega
        · intro c
          have hbd := (hdd c).2.1
          rcases hx1 with rfl | rfl | rfl | ⟨i, hi, rfl⟩
          · omega
          · omega
          · omega
          · exact (hdd c).2.2 i hi)
      have nw : ∀ x, H.size ≤ x → x < H3.size → H4[x]? = H3[x]? := fun x h1 h2 => f4 x h2 (by omega) (fun c => by have := hold.2.2.2.1 c; omega)
      have shl := sh3.lt
      have sh4 : StH G (cellF N xs (3 + k)) k a u n g H4 := sh3.kept (nw _ (by omega) shl.1) (nw _ (by omega) shl.2.1) (nw _ (by omega) shl.2.2.1) (nw _ (by omega) shl.2.2.2)
      have nb4 : ∀ x, x < H.size → x ≠ st → (0 < k → x ≠ d) → H4[x]? = H3[x]? := fun x h1 h2 h3 => f4 x (by omega) h2 h3
      have hsb4' : SBs G sb v (TTN N xs k) H4 := hsb3.kept (nb4 _ hlt.1 (fun e => hst.1 e.symm) (fun c e => (hdd c).1.1 e.symm)) (nb4 _ hlt.2 (fun e => hst.2.1 e.symm) (fun c e => (hdd c).1.2.1 e.symm))
      have hsb44 : SBs G b4 v4 (alS k) H4 := hsb43.kept (nb4 _ hlt4.1 (fun e => hst.2.2.1 e.symm) (fun c e => (hdd c).1.2.2.1 e.symm)) (nb4 _ hlt4.2 (fun e => hst.2.2.2 e.symm) (fun c e => (hdd c).1.2.2.2 e.symm))
      have hvH := hold.1
      have hv4H := hold.2.1
      have hb4H := hold.2.2.1
      obtain ⟨t0, gu, gn', gg, t1, t2, t3, t4, t5, t6⟩ := id sh4
      have dgN := dg4.add sh4
      clear hdd hDA dg3 hsb3 hsb43 sh3 hf1 hf2 hf3 u1 n1 g1 f3 u3 n3 g3 nb4 nw f4 hf4 k3
      refine law_E (C0 := cells4) (S0 := slots4) (k := k) (cc := cellF N xs (3 + k)) (fu := gu) (fn := gn') (fg := gg) X hG hgz hA hAn hD hE hxs hN hnm (by omega) (by omega) w1 w2 ⟨by omega, by omega⟩ ⟨by omega, by omega⟩ ⟨by omega, by omega⟩ ⟨by omega, by omega⟩ (by omega) t1 t2 t3 (by omega) (by omega) (Nat.le_refl _) (Nat.le_refl _) hS t0 t4 t5 t6 hsb4' ?_ hl
      clear hS hl
      intro H5 locs5 cells5 slots5 ls5 hx5 hS hc5 hs5 hl
      refine lv_iconst (v := 0) hx hb dL_law_501 (by decide) ?_
      refine lv_istore (lv' := [(8, .int 0), (6, .ref a), (5, .int (nI k)), (4, .ref b4), (0, .ref b), (1, .ref q), (2, .int (nI (maN N xs))), (3, .ref sb)]) hx hb dL_law_502 hl (by decide) rfl ?_
      clear hl; intro ls6 hl
      have hE5 := (E_len (T := TTN N xs k) (cc := cellF N xs (3 + k)) (k := k)).2.2.2.2
      refine law_F (sb := sb) (v := v) (C0 := cells5) (S0 := slots5) (k := k) (D := 4000) (sa := a) (u := u) (n := n) (g := g) (T := E5 (TTN N xs k) (cellF N xs (3 + k)) k) (H0 := H4) X hG hgz hA hAn hD hE hxs hN hnm (Nat.le_refl _) (by omega) (by omega) ⟨by omega, by omega⟩ (by omega) (by omega) (by omega) t0 ?_ k 0 (Nat.zero_add _) H5 locs5 cells5 slots5 ls6 (by show SBx G _ sb v (_ ++ []) H4 H5; rw [List.append_nil]; exact hx5) hS (Nat.le_refl _) (Nat.le_refl _) hl
      clear hS hl hx5
      intro H6 locs6 cells6 slots6 ls6 hx6 hS hc6 hs6 hl
      have hal := afS_len (afC (cellF N xs (3 + k)) k) k (by omega)
      have hs6' : slots6 ≤ slots5 + 16000 := Nat.le_trans hs6 (Nat.add_le_add_left (Nat.le_trans (Nat.mul_le_mul_left _ (show k ≤ 4 by omega)) (by decide)) _)
      clear hs6
      refine law_G (sb := sb) (v := v) (C0 := cells6) (S0 := slots6) (k := k) (cc := cellF N xs (3 + k)) (sa := a) (u := u) (n := n) (g := g) (T := E5 (TTN N xs k) (cellF N xs (3 + k)) k ++ afS (afC (cellF N xs (3 + k)) k) k) (H0 := H4) X hG hgz hA hAn hD hE hxs hN hnm (by omega) (by omega) (by omega) ⟨by omega, by omega⟩ ⟨by omega, w5⟩ ⟨w6, w7⟩ w3 w4 (by rw [List.length_append]; omega) (by omega) (by omega) (Nat.le_refl _) (Nat.le_refl _) hS t0 hsb44 hx6 ?_ hl
      clear hS hl hx6
      intro Hm H7 locs7 cells7 slots7 ls7 hx7 hy7 hS hc7 hs7 hl
      rw [tt_eq] at hx7
      obtain ⟨v2, v42, ap2, dg7, ls7F, sb7, sb47⟩ := st_fin (hs := H.size) ap hold (by omega) ha hau hun hng hd1 (fun c => by have := hd0 c; omega) dgN ls4F hx7 hy7
      exact ih (k + 1) (by omega) v2 v42 d' (adU ad k a u n g) H7 locs7 cells7 slots7 ls7 ap2 dg7 ls7F sb7 sb47 hS (by omega) (by omega) hl
    -- the step is listed
    have ap0 := ap.1
    have hsta : st ≠ a := by omega
    rcases Nat.eq_zero_or_pos k with c | c
    · subst c
      have ls0 : va_at (gDD G) vwCl (st, .inr (12, [.int 0, .ref e0, .int 0])) H := by
        unfold LsF at lsf
        rw [if_pos rfl] at lsf
        exact lsf
      refine law_D0 (C0 := cells3) (S0 := slots3) (d := d) X hG hgz hA hAn hD hE hxs hN hnm hgs (by omega) hsta (by omega) (by omega) (Nat.le_refl _) (Nat.le_refl _) hS dg3.1 f3 (ls0.kept (k3 _ hstl)) ?_ (lv_sub hl [2, 3, 4, 5, 6, 7, 8] rfl)
      intro d' H4 locs4 cells4 slots4 ls4 hd' hf4 l4 l5 hS hc4 hs4 hl
      refine mE d' H4 locs4 cells4 slots4 ls4 (fun h => absurd h (Nat.lt_irrefl 0)) (fun _ => hd') hf4.1 (fun x h1 h2 _ => hf4.2 x h1 h2) ?_ hS hc4 hs4 hl
      unfold LsF
      rw [if_neg (by omega)]
      refine ⟨l4, ?_⟩
      have ef : (fun j => if j < 0 + 1 then some (adU ad 0 a u n g (4 * j)) else none) = va_up (fun _ => none) 0 (some a) := by
        funext j
        unfold va_up
        by_cases cj : j = 0
        · subst cj
          rw [if_pos (by omega), if_pos rfl, (adU_n (ad := ad) (k := 0) (a := a) (u := u) (n := n) (g := g)).1]
        · rw [if_neg (by omega), if_neg cj]
      rw [ef]
      exact l5
    · have ls1 : va_at (gDD G) vwCl (st, .inr (12, [.int (nI k), .ref d, .int (nI k)])) H ∧ va_at (gDD G) vwCl (d, .inl (gty G 8, 10, .inr (.inr (.inr (.inr (fun j => if j < k then some (ad (4 * j)) else none)))))) H := by
        unfold LsF at lsf
        rw [if_neg (by omega)] at lsf
        exact lsf
      have hdH := ls1.2.lt
      have hbd := (ap.2.2.2.2.1 c).2.1
      refine law_D1 (C0 := cells3) (S0 := slots3) (d := d) X hG hgz hA hAn hD hE hxs hN hnm hgs (by omega) hsta (by omega) (by omega) ⟨by omega, by omega⟩ (by omega) (by omega) (Nat.le_refl _) (Nat.le_refl _) hS dg3.1 f3 (ls1.1.kept (k3 _ hstl)) (ls1.2.kept (k3 _ hdH)) ?_ (lv_sub hl [2, 3, 4, 5, 6, 7, 8] rfl)
      intro H4 locs4 cells4 slots4 ls4 hf4 l4 l5 hS hc4 hs4 hl
      refine mE d H4 locs4 cells4 slots4 ls4 (fun _ => rfl) (fun h => by omega) hf4.1 (fun x h1 h2 h3 => hf4.2 x h1 (fun q => q.elim h2 (h3 c))) ?_ hS hc4 hs4 hl
      unfold LsF
      rw [if_neg (by omega)]
      refine ⟨l4, ?_⟩
      have ef : (fun j => if j < k + 1 then some (adU ad k a u n g (4 * j)) else none) = va_up (fun j => if j < k then some (ad (4 * j)) else none) k (some a) := by
        funext j
        unfold va_up
        by_cases cj : j = k
        · subst cj
          rw [if_pos (by omega), if_pos rfl, (adU_n (ad := ad) (k := j) (a := a) (u := u) (n := n) (g := g)).1]
        · rw [if_neg cj]
          show (if j < k + 1 then some (adU ad k a u n g (4 * j)) else none) = (if j < k then some (ad (4 * j)) else none)
          by_cases cj2 : j < k
          · rw [if_pos (by omega), if_pos cj2, adU_o (by omega)]
          · rw [if_neg (by omega), if_neg cj2]
      rw [ef]
      exact l5
