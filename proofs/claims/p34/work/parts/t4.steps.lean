/-! THE LAW: its steps -/
theorem afS_T (m : Nat) : ∀ j a, afS m (a + j) = afS m a ++ afT m j a
  | 0, a => by simp [afT]
  | j + 1, a => by
    rw [show a + (j + 1) = (a + 1) + j by omega, afS_T m j (a + 1), afS, afT]
    simp
theorem afS_0 (m k : Nat) : afS m k = afT m k 0 := by
  have := afS_T m k 0
  rw [Nat.zero_add] at this
  rw [this]; rfl
theorem afS_z : ∀ k, afS 0 k = []
  | 0 => rfl
  | k + 1 => by rw [afS, afS_z k, Nat.zero_testBit]; rfl
def DN (N : Nat) (xs : Nat → Int32) : GD := (fun k => riC (cellF N xs (3 + k)), fun k => liC (cellF N xs (3 + k)), fun kk k i => amC (cellF N xs (3 + k)) kk i, fun k => afC (cellF N xs (3 + k)) k, fun k => coC (cellF N xs (3 + k)))
theorem DN_ok (N : Nat) (xs : Nat → Int32) : (DN N xs).ok := fun k => by
  have h1 := riC_le (cellF N xs (3 + k))
  have h2 := liC_le (cellF N xs (3 + k))
  refine ⟨?_, ?_, fun kk i => ?_, afC_lt _ _⟩
  · show riC _ ≤ 100; omega
  · show 1 ≤ liC _ ∧ liC _ ≤ 9; omega
  · have := amC_le (cellF N xs (3 + k)) kk i
    show amC _ kk i ≤ 99; omega
def TTN (N : Nat) (xs : Nat → Int32) : Nat → List Nat
  | 0 => T2N N xs
  | k + 1 => TTN N xs k ++ stX (DN N xs) k
theorem tt_eq (N : Nat) (xs : Nat → Int32) (T : List Nat) (k : Nat) : E5 T (cellF N xs (3 + k)) k ++ afS (afC (cellF N xs (3 + k)) k) k ++ coW (coC (cellF N xs (3 + k))) = T ++ stX (DN N xs) k := by
  generalize hc : cellF N xs (3 + k) = cc
  have e : stX (DN N xs) k = sxW k (riC cc) (liC cc) (amC cc 0) (amC cc 1) (amC cc 2) (afC cc k) (coC cc) := by rw [← hc]; rfl
  rw [e]
  unfold sxW E5 afW
  by_cases c : afC cc k = 0
  · rw [if_pos c, if_pos c, c, afS_z]
    unfold E4 E3 E2 E1
    simp
  · rw [if_neg c, if_neg c, afS_0]
    unfold E4 E3 E2 E1
    simp
theorem coW_len (b : Bool) : (coW b).length ≤ 8 := by cases b <;> decide
theorem TT_len (N : Nat) (xs : Nat → Int32) : ∀ k, k ≤ 4 → (TTN N xs k).length ≤ 70 + 134 * k
  | 0, _ => T2_len N xs
  | k + 1, h => by
    have h1 := TT_len N xs k (by omega)
    have h2 := (E_len (T := TTN N xs k) (cc := cellF N xs (3 + k)) (k := k)).2.2.2.2
    have h3 := afS_len (afC (cellF N xs (3 + k)) k) k (by omega)
    have h4 := coW_len (coC (cellF N xs (3 + k)))
    rw [TTN, ← tt_eq, List.length_append, List.length_append]
    omega
theorem E5_asc {T : List Nat} {cc : Int32} {k : Nat} (hT : asc T) : asc (E5 T cc k) := by
  have hri := riC_le cc
  have hli := liC_le cc
  have am9 : ∀ kk i, amC cc kk i < 10000 := fun kk i => by have := amC_le cc kk i; omega
  have e4 : asc (E4 T cc) := asc_app (asc_app (asc_app (asc_app (asc_app (asc_app (asc_app hT (cT_asc (by decide))) (dec_asc (by omega))) (asc1 (by decide))) (dec_asc (by omega))) (amW_asc (cT_asc (by decide)) (am9 0))) (amW_asc (cT_asc (by decide)) (am9 1))) (amW_asc (cT_asc (by decide)) (am9 2))
  unfold E5
  split
  · exact e4
  · exact asc_app e4 (cT_asc (by decide))
theorem coW_asc (b : Bool) : asc (coW b) := by
  cases b
  · exact cT_asc (k := 41) (by decide)
  · exact cT_asc (k := 40) (by decide)
theorem TT_asc (N : Nat) (xs : Nat → Int32) : ∀ k, k ≤ 4 → asc (TTN N xs k)
  | 0, _ => T2_asc N xs
  | k + 1, h => by
    rw [TTN, ← tt_eq]
    exact asc_app (asc_app (E5_asc (TT_asc N xs k (by omega))) (afS_asc _ k (by omega))) (coW_asc _)
/-! what stands -/
def StH (G : Gt) (cc : Int32) (k a u n g : Nat) (H : Heap) : Prop := va_at (gDD G) vwCl (a, .inr (11, [.int (nI (riC cc)), .int (nI (liC cc)), .int 0, .int (nI (afC cc k)), .int (if coC cc then 1 else 0), .int 0, .ref u, .ref n, .ref g])) H ∧ ∃ fu fn fg : Nat → Int32, (∀ x, x < 3 → fu x = nI (amC cc 0 x)) ∧ (∀ x, x < 3 → fn x = nI (amC cc 1 x)) ∧ (∀ x, x < 3 → fg x = nI (amC cc 2 x)) ∧ va_at (gDD G) vwCl (u, .inl (gty G 0, 3, .inl fu)) H ∧ va_at (gDD G) vwCl (n, .inl (gty G 0, 3, .inl fn)) H ∧ va_at (gDD G) vwCl (g, .inl (gty G 0, 3, .inl fg)) H
theorem StH.kept {G : Gt} {cc : Int32} {k a u n g : Nat} {H H1 : Heap} (h : StH G cc k a u n g H) (ha : H1[a]? = H[a]?) (hu : H1[u]? = H[u]?) (hn : H1[n]? = H[n]?) (hg : H1[g]? = H[g]?) : StH G cc k a u n g H1 := by
  obtain ⟨h0, fu, fn, fg, e1, e2, e3, h1, h2, h3⟩ := h
  exact ⟨h0.kept ha, fu, fn, fg, e1, e2, e3, h1.kept hu, h2.kept hn, h3.kept hg⟩
theorem StH.lt {G : Gt} {cc : Int32} {k a u n g : Nat} {H : Heap} (h : StH G cc k a u n g H) : a < H.size ∧ u < H.size ∧ n < H.size ∧ g < H.size := by
  obtain ⟨h0, fu, fn, fg, e1, e2, e3, h1, h2, h3⟩ := h
  exact ⟨h0.lt, h1.lt, h2.lt, h3.lt⟩
def DG (G : Gt) (N : Nat) (xs : Nat → Int32) (gs : List Value) (fk : Nat → Int32) (k q k0 en : Nat) (ad : Nat → Nat) (H : Heap) : Prop := va_at (gDD G) vwCl (q, .inr (10, gs)) H ∧ va_at (gDD G) vwCl (k0, .inl (gty G 0, 3, .inl fk)) H ∧ va_at (gDD G) vwCl (en, .inl (gty G 2, 64, .inl (fun _ => 0))) H ∧ ∀ j, j < k → StH G (cellF N xs (3 + j)) j (ad (4 * j)) (ad (4 * j + 1)) (ad (4 * j + 2)) (ad (4 * j + 3)) H
def DA (k q k0 en : Nat) (ad : Nat → Nat) (x : Nat) : Prop := x = q ∨ x = k0 ∨ x = en ∨ ∃ i, i < 4 * k ∧ x = ad i
section
variable {G : Gt} {N : Nat} {xs : Nat → Int32} {gs : List Value} {fk : Nat → Int32} {k q k0 en : Nat} {ad : Nat → Nat} {H H1 : Heap}
theorem DG.kept (h : DG G N xs gs fk k q k0 en ad H) (hk : ∀ x, DA k q k0 en ad x → H1[x]? = H[x]?) : DG G N xs gs fk k q k0 en ad H1 := by
  obtain ⟨h0, h1, h2, h3⟩ := h
  refine ⟨h0.kept (hk _ (Or.inl rfl)), h1.kept (hk _ (Or.inr (Or.inl rfl))), h2.kept (hk _ (Or.inr (Or.inr (Or.inl rfl)))), fun j hj => ?_⟩
  have hi : ∀ r, r < 4 → H1[ad (4 * j + r)]? = H[ad (4 * j + r)]? := fun r hr => hk _ (Or.inr (Or.inr (Or.inr ⟨4 * j + r, by omega, rfl⟩)))
  exact (h3 j hj).kept (hi 0 (by omega)) (hi 1 (by omega)) (hi 2 (by omega)) (hi 3 (by omega))
theorem DG.lt (h : DG G N xs gs fk k q k0 en ad H) : ∀ x, DA k q k0 en ad x → x < H.size := by
  obtain ⟨h0, h1, h2, h3⟩ := h
  rintro x (rfl | rfl | rfl | ⟨i, hi, rfl⟩)
  · exact h0.lt
  · exact h1.lt
  · exact h2.lt
  · have hl := (h3 (i / 4) (by omega)).lt
    rcases (by omega : i % 4 = 0 ∨ i % 4 = 1 ∨ i % 4 = 2 ∨ i % 4 = 3) with e | e | e | e
    · rw [show i = 4 * (i / 4) by omega]; exact hl.1
    · rw [show i = 4 * (i / 4) + 1 by omega]; exact hl.2.1
    · rw [show i = 4 * (i / 4) + 2 by omega]; exact hl.2.2.1
    · rw [show i = 4 * (i / 4) + 3 by omega]; exact hl.2.2.2
end
/-- the addresses with a step more -/
def adU (ad : Nat → Nat) (k a u n g : Nat) : Nat → Nat := fun i => if i < 4 * k then ad i else if i = 4 * k then a else if i = 4 * k + 1 then u else if i = 4 * k + 2 then n else g
theorem adU_o {ad : Nat → Nat} {k a u n g i : Nat} (h : i < 4 * k) : adU ad k a u n g i = ad i := if_pos h
theorem adU_n {ad : Nat → Nat} {k a u n g : Nat} : adU ad k a u n g (4 * k) = a ∧ adU ad k a u n g (4 * k + 1) = u ∧ adU ad k a u n g (4 * k + 2) = n ∧ adU ad k a u n g (4 * k + 3) = g := by
  unfold adU
  refine ⟨?_, ?_, ?_, ?_⟩
  · rw [if_neg (by omega), if_pos rfl]
  · rw [if_neg (by omega), if_neg (by omega), if_pos rfl]
  · rw [if_neg (by omega), if_neg (by omega), if_neg (by omega), if_pos rfl]
  · rw [if_neg (by omega), if_neg (by omega), if_neg (by omega), if_neg (by omega)]
theorem adU_c {ad : Nat → Nat} {k a u n g i : Nat} (h : i < 4 * (k + 1)) : (i < 4 * k ∧ adU ad k a u n g i = ad i) ∨ (i = 4 * k ∧ adU ad k a u n g i = a) ∨ (i = 4 * k + 1 ∧ adU ad k a u n g i = u) ∨ (i = 4 * k + 2 ∧ adU ad k a u n g i = n) ∨ (i = 4 * k + 3 ∧ adU ad k a u n g i = g) := by
  obtain ⟨e1, e2, e3, e4⟩ := adU_n (ad := ad) (k := k) (a := a) (u := u) (n := n) (g := g)
  rcases (by omega : i < 4 * k ∨ i = 4 * k ∨ i = 4 * k + 1 ∨ i = 4 * k + 2 ∨ i = 4 * k + 3) with c | rfl | rfl | rfl | rfl
  · exact Or.inl ⟨c, adU_o c⟩
  · exact Or.inr (Or.inl ⟨rfl, e1⟩)
  · exact Or.inr (Or.inr (Or.inl ⟨rfl, e2⟩))
  · exact Or.inr (Or.inr (Or.inr (Or.inl ⟨rfl, e3⟩)))
  · exact Or.inr (Or.inr (Or.inr (Or.inr ⟨rfl, e4⟩)))
theorem DG.add {G : Gt} {N : Nat} {xs : Nat → Int32} {gs : List Value} {fk : Nat → Int32} {k q k0 en : Nat} {ad : Nat → Nat} {H : Heap} {a u n g : Nat} (h : DG G N xs gs fk k q k0 en ad H) (hn : StH G (cellF N xs (3 + k)) k a u n g H) : DG G N xs gs fk (k + 1) q k0 en (adU ad k a u n g) H := by
  obtain ⟨h0, h1, h2, h3⟩ := h
  refine ⟨h0, h1, h2, fun j hj => ?_⟩
  by_cases c : j = k
  · subst c
    obtain ⟨e1, e2, e3, e4⟩ := adU_n (ad := ad) (k := j) (a := a) (u := u) (n := n) (g := g)
    rw [e1, e2, e3, e4]; exact hn
  · rw [adU_o (by omega), adU_o (by omega), adU_o (by omega), adU_o (by omega)]
    exact h3 j (by omega)
/-- the list of the steps -/
def LsF (G : Gt) (k st d e0 : Nat) (ad : Nat → Nat) (H : Heap) : Prop := if k = 0 then va_at (gDD G) vwCl (st, .inr (12, [.int 0, .ref e0, .int 0])) H else va_at (gDD G) vwCl (st, .inr (12, [.int (nI k), .ref d, .int (nI k)])) H ∧ va_at (gDD G) vwCl (d, .inl (gty G 8, 10, .inr (.inr (.inr (.inr (fun j => if j < k then some (ad (4 * j)) else none)))))) H
/-- no cell of the two builders -/
def NB (sb v b4 v4 x : Nat) : Prop := x ≠ sb ∧ x ≠ v ∧ x ≠ b4 ∧ x ≠ v4
/-- where all lies -/
def AP (lo k q st k0 en sb v b4 v4 d : Nat) (ad : Nat → Nat) : Prop := (lo ≤ q ∧ q < st ∧ st < k0 ∧ k0 < en ∧ en < sb ∧ sb < b4) ∧ (lo ≤ v ∧ sb ≠ v ∧ lo ≤ v4 ∧ b4 ≠ v4 ∧ b4 ≠ v ∧ v4 ≠ sb ∧ v4 ≠ v) ∧ (∀ x, DA k q k0 en ad x → NB sb v b4 v4 x) ∧ NB sb v b4 v4 st ∧ (0 < k → NB sb v b4 v4 d ∧ b4 < d ∧ ∀ i, i < 4 * k → ad i ≠ d) ∧ (∀ i, i < 4 * k → b4 < ad i) ∧ ∀ i j, i < j → j < 4 * k → ad i < ad j
