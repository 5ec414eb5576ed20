/-! THE LAW: its text is the one that the class reads, its game stands for the row of that text -/
theorem stR_snoc (D : GD) : ∀ j k, stR D (j + 1) k = stR D j k ++ stX D (k + j)
  | 0, k => by simp [stR]
  | j + 1, k => by
    rw [stR, stR_snoc D j (k + 1), stR, show k + 1 + j = k + (j + 1) by omega, List.append_assoc]
theorem TTN_eq (N : Nat) (xs : Nat → Int32) : ∀ k, TTN N xs k = T2N N xs ++ stR (DN N xs) k 0
  | 0 => by simp [TTN, stR]
  | k + 1 => by rw [TTN, TTN_eq N xs k, stR_snoc, Nat.zero_add, List.append_assoc]
theorem cT31 : cT 31 = cT (tkS.getD 4 0) ++ 59 :: (cT (tkS.getD 6 0) ++ [32]) ∧ cT 32 = 59 :: cT (tkS.getD 5 0) ∧ cT 33 = 59 :: (cT (tkS.getD 8 0) ++ 32 :: (dec 1 ++ 32 :: (dec 7 ++ [59]))) ∧ cT 41 = [59] := by decide +kernel
theorem T1_sk (N : Nat) (xs : Nat → Int32) : T1N N xs 3 = T0N N xs ++ skT (skN N xs) 3 0 := by
  simp only [T1N, skT]
  simp
theorem law_text {N : Nat} {xs : Nat → Int32} {sd so le n : Nat} (hn : 3 ≤ n ∧ n ≤ 4) (hs : sd = sdN N xs) : TTN N xs n ++ cT 42 ++ gWS so le n ++ cT 41 = lwW (DN N xs) sd so le n (skN N xs) := by
  obtain ⟨e1, e2, e3, e4⟩ := cT31
  rw [TTN_eq, gWS_eq hn.1 hn.2, T2N, T1_sk, T0N, e1, e2, e3, e4, hs]
  unfold lwW quW
  simp
theorem gWS_len {so le n : Nat} (hn : n ≤ 4) (hle : le < 10000) : (gWS so le n).length ≤ 40 := by
  have h1 := alS_len n (by omega)
  have h2 := (dec_len le).2
  unfold gWS
  have hz43 : (cT 43).length = 5 := rfl
  have hz44 : (cT 44).length = 1 := rfl
  have hz45 : (cT 45).length = 12 := rfl
  have hz46 : (cT 46).length = 7 := rfl
  split
  · simp only [List.length_append]
    omega
  · split <;> omega
theorem gWS_asc {so le n : Nat} (hn : n ≤ 4) (hle : le < 10000) : asc (gWS so le n) := by
  unfold gWS
  split
  · exact asc_app (asc_app (asc_app (dec_asc hle) (cT_asc (by decide))) (alS_asc n (by omega))) (cT_asc (by decide))
  · split
    · exact cT_asc (by decide)
    · exact cT_asc (by decide)
theorem law_asc {N : Nat} {xs : Nat → Int32} {so le n : Nat} (hn : n ≤ 4) (hle : le < 10000) : asc (TTN N xs n ++ cT 42 ++ gWS so le n ++ cT 41) ∧ (TTN N xs n ++ cT 42 ++ gWS so le n ++ cT 41).length ≤ 780 := by
  refine ⟨asc_app (asc_app (asc_app (TT_asc N xs n hn) (cT_asc (by decide))) (gWS_asc hn hle)) (cT_asc (by decide)), ?_⟩
  have h1 := TT_len N xs n hn
  have h2 := gWS_len (so := so) hn hle
  have hz42 : (cT 42).length = 5 := rfl
  have hz41 : (cT 41).length = 1 := rfl
  simp only [List.length_append]
  omega
/-- the game's numbers -/
noncomputable def tauL (D : GD) (sd so le n : Nat) (sk : Nat → Nat) : St := (fun i k =>
  if i = 1000 then (if k = 2 then nI sd else if k = 4 then nI le else if k = 5 then nI so else 0)
  else if i = 1001 then (if k = 0 ∨ k = 2 then nI n else 0)
  else if i = 1002 then nI (sk k)
  else if i < 1005 then 0
  else if (i - 1005) % 4 = 0 then (if k = 0 then nI (D.ri ((i - 1005) / 4)) else if k = 1 then nI (D.li ((i - 1005) / 4)) else if k = 3 then nI (D.af ((i - 1005) / 4)) else if k = 4 then (if D.co ((i - 1005) / 4) then 1 else 0) else 0)
  else nI (D.am ((i - 1005) % 4 - 1) ((i - 1005) / 4) k), fun _ _ => 0, fun _ _ => none, fun _ _ => 0)
section
variable {D : GD} {sd so le n : Nat} {sk : Nat → Nat}
theorem tau_s {j k : Nat} : gI (tauL D sd so le n sk) (1005 + 4 * j) k = (if k = 0 then nI (D.ri j) else if k = 1 then nI (D.li j) else if k = 3 then nI (D.af j) else if k = 4 then (if D.co j then 1 else 0) else 0) := by
  show (if 1005 + 4 * j = 1000 then _ else _) = _
  rw [if_neg (by omega), if_neg (by omega), if_neg (by omega), if_neg (by omega), if_pos (by omega), show (1005 + 4 * j - 1005) / 4 = j by omega]
theorem tau_a {j r k : Nat} (hr : r < 3) : gI (tauL D sd so le n sk) (1005 + 4 * j + 1 + r) k = nI (D.am r j k) := by
  show (if 1005 + 4 * j + 1 + r = 1000 then _ else _) = _
  rw [if_neg (by omega), if_neg (by omega), if_neg (by omega), if_neg (by omega), if_neg (by omega), show (1005 + 4 * j + 1 + r - 1005) / 4 = j by omega, show (1005 + 4 * j + 1 + r - 1005) % 4 - 1 = r by omega]
theorem stF_at {s : Nat} (hs : s < n) (h6 : s < 6) : stF D n s 0 = nI (D.ri s) ∧ stF D n s 1 = nI (D.li s) ∧ stF D n s 2 = 0 ∧ stF D n s 3 = 0 ∧ stF D n s 4 = nI (D.af s) ∧ stF D n s 5 = (if D.co s then 1 else 0) := by
  unfold stF
  rw [if_pos hs, if_pos hs, if_pos hs, if_pos hs, if_pos hs, if_pos hs]
  exact ⟨rfl, rfl, rfl, rfl, rfl, rfl⟩
theorem gxL (hn : n ≤ 4) : GX so le 0 (rdL D sd so le n sk) (tauL D sd so le n sk) := by
  have hnS : nS (rdL D sd so le n sk) (53 + 186 * 0) = n := nSL (by omega)
  refine ⟨by rw [hnS]; rfl, rfl, rfl, rfl, rfl, fun i hi => ?_, fun k hk => ?_⟩
  · rw [rdL_s (by omega), if_pos hi]; rfl
  · rw [hnS] at hk
    have hr : ∀ r, r < 30 → rdL D sd so le n sk (53 + 186 * 0 + 6 + 30 * k + r) = stF D n k r := fun r hr => rdL_st (by omega) hr
    obtain ⟨s0, s1, s2, s3, s4, s5⟩ := stF_at (D := D) hk (show k < 6 by omega)
    have h0 := hr 0 (by omega)
    rw [Nat.add_zero] at h0
    refine ⟨?_, ?_, ?_, ?_, ?_, ?_, fun i hi => ⟨?_, ?_, ?_⟩⟩
    · rw [h0, s0, tau_s]; rfl
    · rw [hr 1 (by omega), s1, tau_s]; rfl
    · rw [hr 2 (by omega), s2, tau_s]; rfl
    · rw [hr 4 (by omega), s4, tau_s]; rfl
    · rw [hr 5 (by omega), s5, tau_s]; rfl
    · rw [hr 3 (by omega), s3, tau_s]; rfl
    · rw [show (53 + 186 * 0 + 6 + 30 * k + 6 + i) = 53 + 186 * 0 + 6 + 30 * k + (6 + 8 * 0 + i) by omega, hr _ (by omega), stF_am hk (by omega), if_pos hi]; exact tau_a (r := 0) (by omega)
    · rw [show (53 + 186 * 0 + 6 + 30 * k + 14 + i) = 53 + 186 * 0 + 6 + 30 * k + (6 + 8 * 1 + i) by omega, hr _ (by omega), stF_am hk (by omega), if_pos hi]; exact tau_a (r := 1) (by omega)
    · rw [show (53 + 186 * 0 + 6 + 30 * k + 22 + i) = 53 + 186 * 0 + 6 + 30 * k + (6 + 8 * 2 + i) by omega, hr _ (by omega), stF_am hk (by omega), if_pos hi]; exact tau_a (r := 2) (by omega)
end
/-! where the game lies -/
def gaL (q st k0 en d : Nat) (ad : Nat → Nat) (i : Nat) : Nat := if i = 1000 then q else if i = 1001 then st else if i = 1002 then k0 else if i = 1003 then en else if i = 1004 then d else ad (i - 1005)
theorem gaL_s {q st k0 en d : Nat} {ad : Nat → Nat} (m : Nat) : gaL q st k0 en d ad (1005 + m) = ad m := by
  unfold gaL
  rw [if_neg (by omega), if_neg (by omega), if_neg (by omega), if_neg (by omega), if_neg (by omega), show 1005 + m - 1005 = m by omega]
def GmL (G : Gt) (n q st k0 en d : Nat) (ad : Nat → Nat) : Gm := (G, n, false, gaL q st k0 en d ad, .null)
theorem kvL {G : Gt} {n q st k0 en d : Nat} {ad : Nat → Nat} {i : Nat} (hn : n ≤ 4) (h : kv (GmL G n q st k0 en d ad) i ≠ 99) : i = 1000 ∨ i = 1001 ∨ i = 1002 ∨ i = 1003 ∨ i = 1004 ∨ ∃ m, m < 4 * n ∧ i = 1005 + m := by
  unfold kv at h
  by_cases c : i < 1005 + 4 * n
  · by_cases c2 : i < 1000
    · exfalso
      apply h
      have : kg i = 99 := by
        unfold kg
        rw [if_neg (by omega), if_neg (by omega), if_neg (by omega), if_neg (by omega), if_neg (by omega), if_neg (by omega), if_neg (by omega)]
      rw [this]
      split <;> rfl
    · rcases (by omega : i = 1000 ∨ i = 1001 ∨ i = 1002 ∨ i = 1003 ∨ i = 1004 ∨ 1005 ≤ i) with h1 | h1 | h1 | h1 | h1 | h1
      · exact Or.inl h1
      · exact Or.inr (Or.inl h1)
      · exact Or.inr (Or.inr (Or.inl h1))
      · exact Or.inr (Or.inr (Or.inr (Or.inl h1)))
      · exact Or.inr (Or.inr (Or.inr (Or.inr (Or.inl h1))))
      · exact Or.inr (Or.inr (Or.inr (Or.inr (Or.inr ⟨i - 1005, by omega, by omega⟩))))
  · exfalso
    apply h
    rw [if_neg]
    rintro (h1 | ⟨-, h1⟩)
    · exact c h1
    · exact Bool.noConfusion h1
theorem pgL {G : Gt} {N : Nat} {xs : Nat → Int32} {sd so le n lo q st k0 en sb v b4 v4 d e0 : Nat} {ad : Nat → Nat} {fk : Nat → Int32} {sk : Nat → Nat} {H : Heap} (hG : AllA G) (hlo : gz G ≤ lo) (hn : 3 ≤ n ∧ n ≤ 4) (ap : AP lo n q st k0 en sb v b4 v4 d ad) (hsk : ∀ i, i < 3 → fk i = nI (sk i)) (dg : DG G N xs [.ref st, .ref k0, .int (nI sd), .int 0, .int (nI le), .int (nI so), .null, .int 0, .ref en] fk n q k0 en ad H) (hls : LsF G n st d e0 ad H) : PG (GmL G n q st k0 en d ad) (tauL (DN N xs) sd so le n sk) H ∧ ∀ i, kv (GmL G n q st k0 en d ad) i ≠ 99 → lo ≤ ga (GmL G n q st k0 en d ad) i := by
  obtain ⟨⟨o1, o2, o3, o4, o5, o6⟩, -, -, -, hdd, hb4, hmo⟩ := ap
  obtain ⟨-, hd1, hd2⟩ := hdd (by omega)
  obtain ⟨g0, g1, g2, g3⟩ := dg
  unfold LsF at hls
  rw [if_neg (by omega)] at hls
  obtain ⟨l1, l2⟩ := hls
  have hlow : ∀ i, kv (GmL G n q st k0 en d ad) i ≠ 99 → lo ≤ ga (GmL G n q st k0 en d ad) i := by
    intro i hi
    rcases kvL hn.2 hi with rfl | rfl | rfl | rfl | rfl | ⟨m, hm, rfl⟩
    · exact o1
    · show lo ≤ st; omega
    · show lo ≤ k0; omega
    · show lo ≤ en; omega
    · show lo ≤ d; omega
    · show lo ≤ gaL q st k0 en d ad (1005 + m)
      rw [gaL_s]
      have := hb4 m hm
      omega
  refine ⟨⟨fun i hi => ?_, rfl, hn.2, fun i j hi hj e => ?_, fun i hi => hG _ (Nat.le_trans hlo (hlow i hi))⟩, hlow⟩
  · rcases kvL hn.2 hi with rfl | rfl | rfl | rfl | rfl | ⟨m, hm, rfl⟩
    · exact g0
    · exact l1
    · exact va_at_cg (fun i hi => hsk i hi) g1
    · exact g2
    · have e : (fun k => if k < n then some (ad (4 * k)) else none) = (fun k => if k < n then some (gaL q st k0 en d ad (1005 + 4 * k)) else none) := by
        funext k
        rw [gaL_s]
      show va_at _ _ (d, .inl (gty G 8, 10, .inr (.inr (.inr (.inr (fun k => if k < n then some (gaL q st k0 en d ad (1005 + 4 * k)) else none)))))) H
      rw [← e]
      exact l2
    · obtain ⟨s0, fu, fn, fg, e1, e2, e3, h1, h2, h3⟩ := g3 (m / 4) (by omega)
      obtain ⟨k1, k2, k3, k4⟩ := kg_step (m / 4) (by omega)
      have hga : ga (GmL G n q st k0 en d ad) (1005 + m) = ad m := gaL_s m
      rw [hga]
      rcases (by omega : m = 4 * (m / 4) ∨ m = 4 * (m / 4) + 1 ∨ m = 4 * (m / 4) + 2 ∨ m = 4 * (m / 4) + 3) with hm4 | hm4 | hm4 | hm4
      · rw [hm4, cg_25 _ _ k1, tau_s, tau_s, tau_s, tau_s, tau_s, tau_s]
        have a1 : ga (GmL G n q st k0 en d ad) (1005 + 4 * (m / 4) + 1) = ad (4 * (m / 4) + 1) := (congrArg _ (show 1005 + 4 * (m / 4) + 1 = 1005 + (4 * (m / 4) + 1) by omega)).trans (gaL_s _)
        have a2 : ga (GmL G n q st k0 en d ad) (1005 + 4 * (m / 4) + 2) = ad (4 * (m / 4) + 2) := (congrArg _ (show 1005 + 4 * (m / 4) + 2 = 1005 + (4 * (m / 4) + 2) by omega)).trans (gaL_s _)
        have a3 : ga (GmL G n q st k0 en d ad) (1005 + 4 * (m / 4) + 3) = ad (4 * (m / 4) + 3) := (congrArg _ (show 1005 + 4 * (m / 4) + 3 = 1005 + (4 * (m / 4) + 3) by omega)).trans (gaL_s _)
        rw [a1, a2, a3]
        exact s0
      · rw [hm4, show 1005 + (4 * (m / 4) + 1) = 1005 + 4 * (m / 4) + 1 by omega, cg_22 _ _ k2]
        exact va_at_cg (fun i hi => by rw [e1 i hi, show 1005 + 4 * (m / 4) + 1 = 1005 + 4 * (m / 4) + 1 + 0 from rfl, tau_a (r := 0) (by omega)]; rfl) h1
      · rw [hm4, show 1005 + (4 * (m / 4) + 2) = 1005 + 4 * (m / 4) + 2 by omega, cg_22 _ _ k3]
        exact va_at_cg (fun i hi => by rw [e2 i hi, show 1005 + 4 * (m / 4) + 2 = 1005 + 4 * (m / 4) + 1 + 1 by omega, tau_a (r := 1) (by omega)]; rfl) h2
      · rw [hm4, show 1005 + (4 * (m / 4) + 3) = 1005 + 4 * (m / 4) + 3 by omega, cg_22 _ _ k4]
        exact va_at_cg (fun i hi => by rw [e3 i hi, show 1005 + 4 * (m / 4) + 3 = 1005 + 4 * (m / 4) + 1 + 2 by omega, tau_a (r := 2) (by omega)]; rfl) h3
  · have w0 : ga (GmL G n q st k0 en d ad) 1000 = q := rfl
    have w1 : ga (GmL G n q st k0 en d ad) 1001 = st := rfl
    have w2 : ga (GmL G n q st k0 en d ad) 1002 = k0 := rfl
    have w3 : ga (GmL G n q st k0 en d ad) 1003 = en := rfl
    have w4 : ga (GmL G n q st k0 en d ad) 1004 = d := rfl
    have w5 : ∀ m, ga (GmL G n q st k0 en d ad) (1005 + m) = ad m := fun m => gaL_s m
    generalize ga (GmL G n q st k0 en d ad) = g at e w0 w1 w2 w3 w4 w5
    have c1 := kvL hn.2 hi
    have c2 := kvL hn.2 hj
    clear hi hj g0 g1 g2 g3 l1 l2
    rcases c1 with rfl | rfl | rfl | rfl | rfl | ⟨m, hm, rfl⟩ <;> rcases c2 with rfl | rfl | rfl | rfl | rfl | ⟨m2, hm2, rfl⟩
    all_goals first
      | rfl
      | (exfalso; omega)
      | (exfalso; have b1 := hb4 m hm; have b2 := hd2 m hm; have b3 := w5 m; omega)
      | (exfalso; have b1 := hb4 m2 hm2; have b2 := hd2 m2 hm2; have b3 := w5 m2; omega)
      | skip
    rw [w5, w5] at e
    rcases Nat.lt_trichotomy m m2 with c | c | c
    · have := hmo m m2 c hm2
      omega
    · rw [c]
    · have := hmo m2 m c hm
      omega
