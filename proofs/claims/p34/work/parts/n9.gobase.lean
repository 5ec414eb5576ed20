/-! THE ROWS OF STEPS: what go does, as a function; the game's cells while it runs -/
theorem PG.lt {G : Gm} {σ : St} {H : Heap} (h : PG G σ H) : ∀ i, kv G i ≠ 99 → ga G i < H.size := fun i hi => (h.1 i hi).lt
theorem PG.put {G : Gm} {σ σ' : St} {H H1 : Heap} {i : Nat} (h : PG G σ H) (hi : kv G i ≠ 99) (he : va_at (gDD (gB G)) vwCl (ga G i, cg G σ' i) H1) (oq : ∀ q : Nat, q ≠ ga G i → H1[q]? = H[q]?) (ho : ∀ j, j ≠ i → gI σ' j = gI σ j) (h1 : gI σ' 1001 2 = gI σ 1001 2) : PG G σ' H1 := by
  obtain ⟨p1, p2, p3, p4, p5⟩ := h
  refine ⟨fun j hj => ?_, h1.trans p2, p3, p4, p5⟩
  by_cases e : j = i
  · subst e; exact he
  · rw [cg_congr G (ho j e)]
    exact (p1 j hj).kept (oq _ (fun q => e (p4 j i hj hi q)))
/-- the same game with another plan -/
def Gm.pl (G : Gm) (v : Value) : Gm := (gB G, gn G, gf G, ga G, v)
/-- the same game with another array at the place 1100 -/
def Gm.has (G : Gm) (q : Nat) : Gm := (gB G, gn G, true, va_up (ga G) 1100 q, gp G)
theorem Gm.pl_self (G : Gm) : G.pl (gp G) = G := rfl
theorem ga_has {G : Gm} {q i : Nat} (h : i ≠ 1100) : ga (G.has q) i = ga G i := by
  show va_up (ga G) 1100 q i = _
  unfold va_up
  rw [if_neg h]
theorem ga_hasY {G : Gm} {q : Nat} : ga (G.has q) 1100 = q := by
  show va_up (ga G) 1100 q 1100 = _
  unfold va_up
  rw [if_pos rfl]
theorem kv_pl {G : Gm} {v : Value} (i : Nat) : kv (G.pl v) i = kv G i := rfl
theorem kv_has {G : Gm} {q i : Nat} (h : kv (G.has q) i ≠ 99) (hi : i ≠ 1100) : kv G i ≠ 99 := by
  intro h2
  apply h
  unfold kv at h2 ⊢
  split at h2
  · rename_i c
    rw [if_pos (by rcases c with c | c; exact Or.inl c; exact Or.inr ⟨c.1, rfl⟩)]
    exact h2
  · rename_i c
    rw [if_neg (by rintro (c2 | c2); exact c (Or.inl c2); exact hi c2.1)]
theorem kv_hasI {G : Gm} {q i : Nat} (h : kv G i ≠ 99) : kv (G.has q) i ≠ 99 := by
  unfold kv at h ⊢
  split at h
  · rename_i c
    rw [if_pos (by rcases c with c | c; exact Or.inl c; exact Or.inr ⟨c.1, rfl⟩)]
    exact h
  · exact absurd rfl h
theorem kv_hasY {G : Gm} {q : Nat} : kv (G.has q) 1100 = 22 := by
  unfold kv
  rw [if_pos (Or.inr ⟨rfl, rfl⟩)]
  rfl
/-- a cell's contents do not speak of the place 1100, but there -/
theorem kg_1100 : kg 1100 = 22 := rfl
theorem kg_ne {i : Nat} (h : kg i = 25) : i + 1 ≠ 1100 ∧ i + 2 ≠ 1100 ∧ i + 3 ≠ 1100 := by
  obtain ⟨k, hk, rfl⟩ := kg_25 h
  omega
theorem cg_has (G : Gm) (q : Nat) (σ : St) {i : Nat} (hn : gn G ≤ 4) (hi : i ≠ 1100) : cg (G.has q) σ i = cg G σ i := by
  have e1 : ga (G.has q) 1001 = ga G 1001 := ga_has (by decide)
  have e2 : ga (G.has q) 1002 = ga G 1002 := ga_has (by decide)
  have e3 : ga (G.has q) 1003 = ga G 1003 := ga_has (by decide)
  have e4 : ga (G.has q) 1004 = ga G 1004 := ga_has (by decide)
  have h0 : kg i = 20 ∨ kg i = 21 ∨ kg i = 22 ∨ kg i = 23 ∨ kg i = 24 ∨ kg i = 25 ∨ (kg i = 99) := by
    unfold kg
    repeat' split
    all_goals decide
  rcases h0 with h | h | h | h | h | h | h
  · rw [cg_20 _ _ h, cg_20 _ _ h, e1, e2, e3]; rfl
  · rw [cg_21 _ _ h, cg_21 _ _ h, e4]
  · rw [cg_22 _ _ h, cg_22 _ _ h]; rfl
  · rw [cg_23 _ _ h, cg_23 _ _ h]; rfl
  · rw [cg_24 _ _ h, cg_24 _ _ h]
    have e5 : (fun k => if k < gn (G.has q) then some (ga (G.has q) (1005 + 4 * k)) else none) = (fun k => if k < gn G then some (ga G (1005 + 4 * k)) else none) := by
      funext k
      show (if k < gn G then some (ga (G.has q) (1005 + 4 * k)) else none) = _
      by_cases c : k < gn G
      · rw [if_pos c, if_pos c, ga_has (by omega)]
      · rw [if_neg c, if_neg c]
    rw [e5]; rfl
  · obtain ⟨n1, n2, n3⟩ := kg_ne h
    rw [cg_25 _ _ h, cg_25 _ _ h, ga_has n1, ga_has n2, ga_has n3]
  · unfold cg; rw [h]; rfl
theorem cg_pl (G : Gm) (v : Value) (σ : St) {i : Nat} (hi : kg i ≠ 20) : cg (G.pl v) σ i = cg G σ i := by
  have h0 : kg i = 20 ∨ kg i = 21 ∨ kg i = 22 ∨ kg i = 23 ∨ kg i = 24 ∨ kg i = 25 ∨ (kg i = 99) := by
    unfold kg
    repeat' split
    all_goals decide
  rcases h0 with h | h | h | h | h | h | h
  · exact absurd h hi
  · rw [cg_21 _ _ h, cg_21 _ _ h]; rfl
  · rw [cg_22 _ _ h, cg_22 _ _ h]; rfl
  · rw [cg_23 _ _ h, cg_23 _ _ h]; rfl
  · rw [cg_24 _ _ h, cg_24 _ _ h]; rfl
  · rw [cg_25 _ _ h, cg_25 _ _ h]; rfl
  · unfold cg; rw [h]; rfl
theorem kg_20 {i : Nat} (h : kg i = 20) : i = 1000 := by
  unfold kg at h
  repeat' split at h
  all_goals omega
/-- the plan is written -/
theorem PG.plan {G : Gm} {σ : St} {H H1 : Heap} {v : Value} (h : PG G σ H) (he : va_at (gDD (gB G)) vwCl (ga G 1000, cg (G.pl v) σ 1000) H1) (oq : ∀ q : Nat, q ≠ ga G 1000 → H1[q]? = H[q]?) : PG (G.pl v) σ H1 := by
  obtain ⟨p1, p2, p3, p4, p5⟩ := h
  refine ⟨fun j hj => ?_, p2, p3, p4, p5⟩
  by_cases e : j = 1000
  · subst e; exact he
  · rw [cg_pl G v σ (fun h => e (kg_20 h))]
    exact (p1 j hj).kept (oq _ (fun q => e (p4 j 1000 hj (by rw [kv_1000]; decide) q)))
/-- into a deeper row: another array at the place 1100 -/
theorem PG.into {G : Gm} {σ : St} {H : Heap} {q : Nat} {f : Nat → Int32} (h : PG G σ H) (hq : va_at (gDD (gB G)) vwCl (q, .inl (gty (gB G) 0, 3, .inl f)) H) (hne : ∀ i, kv G i ≠ 99 → ga G i ≠ q) (hA : gA (gB G) q) : PG (G.has q) (rowI σ 1100 f) H := by
  obtain ⟨p1, p2, p3, p4, p5⟩ := h
  refine ⟨fun j hj => ?_, (by rw [gI_rowNe σ f (by decide)]; exact p2), p3, fun i j hi hj e => ?_, fun i hi => ?_⟩
  · by_cases e : j = 1100
    · subst e
      rw [ga_hasY, cg_22 _ _ kg_1100, gI_row]
      exact hq
    · rw [ga_has e, cg_has G q _ p3 e, cg_congr G (gI_rowNe σ f e)]
      exact p1 j (kv_has hj e)
  · by_cases e1 : i = 1100
    · by_cases e2 : j = 1100
      · rw [e1, e2]
      · rw [e1, ga_hasY, ga_has e2] at e
        exact absurd e.symm (hne j (kv_has hj e2))
    · by_cases e2 : j = 1100
      · rw [e2, ga_hasY, ga_has e1] at e
        exact absurd e (hne i (kv_has hi e1))
      · rw [ga_has e1, ga_has e2] at e
        exact p4 i j (kv_has hi e1) (kv_has hj e2) e
  · by_cases e1 : i = 1100
    · rw [e1, ga_hasY]; exact hA
    · rw [ga_has e1]; exact p5 i (kv_has hi e1)
/-- and back -/
theorem PG.back {G : Gm} {σ σ2 : St} {H0 H : Heap} {q : Nat} {v : Value} (h0 : PG G σ H0) (h : PG ((G.has q).pl v) σ2 H) (hk : kv G 1100 ≠ 99 → H[ga G 1100]? = H0[ga G 1100]?) : PG (G.pl v) (rowI σ2 1100 (gI σ 1100)) H := by
  obtain ⟨p1, p2, p3, p4, p5⟩ := h
  refine ⟨fun j hj => ?_, (by rw [gI_rowNe σ2 _ (by decide)]; exact p2), p3, h0.2.2.2.1, h0.2.2.2.2⟩
  by_cases e : j = 1100
  · subst e
    have := (h0.1 1100 hj).kept (hk hj)
    rw [cg_22 _ _ kg_1100] at this
    rw [cg_22 _ _ kg_1100, gI_row]
    exact this
  · have h1 := p1 j (kv_hasI (G := G) (q := q) hj)
    rw [cg_congr _ (gI_rowNe σ2 _ e)]
    have e2 : ga ((G.has q).pl v) j = ga G j := ga_has e
    rw [e2] at h1
    have e3 : cg ((G.has q).pl v) σ2 j = cg (G.pl v) σ2 j := cg_has (G.pl v) q σ2 p3 e
    rw [e3] at h1
    exact h1
/-! the function -/
def minI (x y : Int32) : Int32 := if x > y then y else x
def goS (pl : Option (List Nat)) (t : List Nat) : Option (List Nat) := match pl with
  | none => some t
  | some p => if t.length < p.length then some t else some p
/-- the stock behind the step k, from the row b -/
noncomputable def thenF (σ : St) (b k : Nat) : Nat → Int32 :=
  let d := fun i => gI σ (1005 + 4 * k + 3) i - gI σ (1005 + 4 * k + 1) i
  let f1 := upd (gI σ b) 0 (gI σ b 0 + d 0)
  let f2 := upd f1 1 (f1 1 + d 1)
  upd f2 2 (f2 2 + d 2)
abbrev GoR : Type := Option (Option (List Nat) × St)
noncomputable def goL (rec : List Nat → Int32 → Int32 → Option (List Nat) → St → GoR) (t : List Nat) (set : Int32) (b : Nat) (risk : Int32) : Nat → Nat → Option (List Nat) → St → GoR
  | 0, _, pl, σ => some (pl, σ)
  | j + 1, k, pl, σ => (pf_X11_can 1000 (nI k) set b σ).bind fun c => if c = 0 then goL rec t set b risk j (k + 1) pl σ else
      (rec (t ++ dec k) (set ||| ishl 1 (nI k)) (risk + gI σ (1005 + 4 * k) 0) pl (rowI σ 1100 (thenF σ b k))).bind fun r => goL rec t set b risk j (k + 1) r.1 (rowI r.2 1100 (gI σ 1100))
noncomputable def goW (n : Nat) : Nat → List Nat → Int32 → Nat → Int32 → Option (List Nat) → St → GoR
  | 0, _, _, _, _, _, _ => none
  | d + 1, t, set, b, risk, pl, σ => (pf_X11_holds 1000 set σ).bind fun r => if r = 0 then goL (fun t set risk pl σ => goW n d t set 1100 risk pl σ) t set b risk n 0 pl σ else
      ckI set 64 (some (goS pl t, sI (sI σ 1000 7 (minI (gI σ 1000 7) risk)) 1003 set.toNatClampNeg 1))
/-! the plan's text -/
def PLx (G : Gm) (pl : Option (List Nat)) (v : Value) (U : State) (H : Heap) : Prop := (pl = none ∧ v = .null) ∨ ∃ (a b : Nat) (p : List Nat), pl = some p ∧ v = .ref a ∧ SF a b p U H ∧ p.length ≤ 100 ∧ a ≠ ga G 1000 ∧ a ≠ ga G 1003 ∧ b ≠ ga G 1000 ∧ b ≠ ga G 1003
/-- what the plan is behind a row that was gone with the way t at a -/
def PLq (G : Gm) (pl : Option (List Nat)) (a : Nat) (t : List Nat) (sz : Nat) (pl' : Option (List Nat)) (v : Value) (H : Heap) : Prop := (pl' = pl ∧ v = gp G) ∨ (pl' = some t ∧ v = .ref a) ∨ ∃ (a' b' : Nat) (p : List Nat), pl' = some p ∧ v = .ref a' ∧ ST (gB G) a' b' p H ∧ p.length ≤ 100 ∧ sz ≤ a' ∧ sz ≤ b'
def mcg : Nat → Nat
  | 0 => 0
  | d + 1 => 4 * (mcg d + 8)
def msg : Nat → Nat
  | 0 => 0
  | d + 1 => 4 * (msg d + 300)
section GOR
variable {G : Gm} {p : Program} {l : Launch} {e : Env} {R : Room} {s : State} {m : MethodId} {args : Array Value} {below : List Frame} {meth : Method} {c : Code} {H : Heap} {locs : List Loc} {cells slots cells0 slots0 : Nat} {Q : State → Prop}
variable {cc : ByteArray} {nL h idx k : Nat} {own : String} {pc : Nat} {ls : Array Slot} {rest st0 : List Value} {σ : St} {A : Nat → Prop}
theorem gw_size (X : Cx (gB G) p R s m args c cells0 slots0 cc nL own h) (hP : PG G σ H) (hS : va_S A s.heap H locs) (hA : ∀ q, q < s.heap.size → A q → gA (gB G) q) (lk : Cond.methodLink own idx yJx4a65c_size_8abf5 ∈ TB) (hh : 2 < h) (hcat : (rest.map fun v => v.category).sum ≤ 8) (hls : ls.size = nL) (hd : decode cc pc = .ok (.invokevirtual idx, 3)) (hc : cells ≤ R.cells) (hs : slots ≤ R.slots)
    (kk : W p l e R s m args below meth c H locs cells slots Q (F0 m (pc + 3) ls (.int (nI (gn G)) :: rest))) : W p l e R s m args below meth c H locs cells slots Q (F0 m pc ls (.ref (ga G 1001) :: rest)) := by
  have h2 := hP.2.1
  rw [← h2] at kk
  exact callP_V (r := (RJx4a65c, TJx4a65c, 3)) X hS hA (Mv.h fun H => va_at (gDD (gB G)) vwCl (ga G 1001, .inr (12, [.int (gI σ 1001 0), .ref (ga G 1004), .int (gI σ 1001 2)])) H) (fun U hU _ => by rw [hU]; exact hP.a21 (kv_1001 G)) (hP.a21 (kv_1001 G)) rfl lk m_3_120 m_3_121 mv_Jx4a65c_size_8abf5 cp_al_size hh rfl rfl hcat hls hd hc hs kk
theorem gw_get (X : Cx (gB G) p R s m args c cells0 slots0 cc nL own h) (hP : PG G σ H) (hS : va_S A s.heap H locs) (hA : ∀ q, q < s.heap.size → A q → gA (gB G) q) (hk : k < gn G) (lk : Cond.methodLink own idx yJx4a65c_get_915e3 ∈ TB) (hh : 4 < h) (hcat : (rest.map fun v => v.category).sum ≤ 8) (hls : ls.size = nL) (hd : decode cc pc = .ok (.invokevirtual idx, 3)) (hc : cells ≤ R.cells) (hs : slots ≤ R.slots)
    (kk : W p l e R s m args below meth c H locs cells slots Q (F0 m (pc + 3) ls (.ref (ga G (1005 + 4 * k)) :: rest))) : W p l e R s m args below meth c H locs cells slots Q (F0 m pc ls (.int (nI k) :: .ref (ga G 1001) :: rest)) := by
  have h4 := hP.2.2.1
  have h2 := hP.2.1
  have a1 := hP.a21 (kv_1001 G)
  rw [h2] at a1
  exact callP_V (r := (RJx4a65c, TJx4a65c, 3)) (As := [.int (nI k)]) (ov := some (.ref (ga G (1005 + 4 * k)))) X hS hA (Mv.h fun H => va_at (gDD (gB G)) vwCl (ga G 1001, .inr (12, [.int (gI σ 1001 0), .ref (ga G 1004), .int (nI (gn G))])) H ∧ va_at (gDD (gB G)) vwCl (ga G 1004, .inl (gty (gB G) 8, 10, .inr (.inr (.inr (.inr (fun k => if k < gn G then some (ga G (1005 + 4 * k)) else none)))))) H) (fun U hU _ => by rw [hU]; exact ⟨a1, hP.a24 (kv_1004 G)⟩) a1 rfl lk m_3_101 m_3_102 mv_Jx4a65c_get_915e3 (cp_al_get hk (by omega) (by decide) (if_pos hk)) hh rfl rfl hcat hls hd hc hs kk
end GOR
