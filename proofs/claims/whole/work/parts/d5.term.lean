/-! SUMS: terms and sums, both readers -/
theorem put_tot (p : Nat) (v x : Int32) (σ : St) : ∃ σ', pf_X10_put p v x σ = some σ' ∧ Un (fun i => i = p) σ σ' := by
  have hN := alen_lt p
  rcases v_cases v (n := alen p) (by omega) with hv | ⟨j, hj, rfl⟩
  · unfold pf_X10_put
    by_cases c : v < 0
    · rw [if_pos c]; exact ⟨σ, rfl, Un.refl _ _⟩
    · rw [if_neg c, if_pos (hv.resolve_left c)]; exact ⟨σ, rfl, Un.refl _ _⟩
  · exact ⟨_, put_ok rfl hj, Un.sI _ _ rfl⟩
theorem app_e (σ : St) (v : Int32) : ∃ σ', pf_X2_appendCode 61 v σ = some σ' ∧ Un (fun i => i = 61 ∨ i = 65) σ σ' ∧ ∀ k, k ≠ 7 → gI σ' 61 k = gI σ 61 k := by
  obtain ⟨σ1, g1, g2⟩ := put_tot 65 (gI σ 61 7) v σ
  unfold pf_X2_appendCode
  rw [show pf_X10_put (61 + 4) (gI σ 61 7) v σ = _ from g1, bind_some, bnd_e]
  refine ⟨_, rfl, Un.trans (M := fun i => i = 61 ∨ i = 65) (g2.mono fun i hi => Or.inr hi) (Un.sI _ _ (Or.inl rfl)), fun k hk => ?_⟩
  rw [gI_ns _ _ _ hk, g2.I (by decide)]
section
variable {T : Nat → Int32} {L N : Nat}
theorem termSJ (hb : TB8 T L) {rcC : Nat → Nat → Nat → Int32 → St → Option St} {rcM : Nat → St → Option (Int32 × St)} {d hm : Nat} (hd : d ≤ 4) (HF : ∀ σ τ k n h, JS T L N σ τ k n d → h ≤ hm + 1 → Ott T L N σ τ k n d h (pf_X9_readFactor rcC 601 595 61 (nI d) σ) (pf_X11_readsFactor rcM 609 τ)) {n0 h : Nat} (hh : h ≤ hm) (m : Nat) (ih : 0 < m → ∀ fc fm σ τ k n j, N - k ≤ m - 1 → m - 1 < fc → m - 1 < fm → JS T L N σ τ k n d → j < k → n0 ≤ n → hW (gI τ 611) (n - n0) n0 h = some (h + 1) → ∃ σ' τ', pf_X9_readTerm_L10 rcC fc 601 595 61 (nI d) (nI j) σ = some σ' ∧ FC σ σ' ∧ FM τ τ' ∧ ((pf_X11_readsTerm_L9 rcM fm 609 τ = some (1, τ') ∧ ∃ k' n', k ≤ k' ∧ n0 ≤ n' ∧ JS T L N σ' τ' k' n' d ∧ hW (gI τ' 611) (n' - n0) n0 h = some (h + 1) ∧ Kp τ τ' n0 ∧ n' + k ≤ n + k') ∨ (pf_X11_readsTerm_L9 rcM fm 609 τ = some (0, τ') ∧ ∃ c o, CE σ' c o ∧ ME τ' c o))) : ∀ fc fm σ τ k n j, N - k ≤ m → m < fc → m < fm → JS T L N σ τ k n d → j < k → n0 ≤ n → hW (gI τ 611) (n - n0) n0 h = some (h + 1) → ∃ σ' τ', pf_X9_readTerm_L10 rcC fc 601 595 61 (nI d) (nI j) σ = some σ' ∧ FC σ σ' ∧ FM τ τ' ∧ ((pf_X11_readsTerm_L9 rcM fm 609 τ = some (1, τ') ∧ ∃ k' n', k ≤ k' ∧ n0 ≤ n' ∧ JS T L N σ' τ' k' n' d ∧ hW (gI τ' 611) (n' - n0) n0 h = some (h + 1) ∧ Kp τ τ' n0 ∧ n' + k ≤ n + k') ∨ (pf_X11_readsTerm_L9 rcM fm 609 τ = some (0, τ') ∧ ∃ c o, CE σ' c o ∧ ME τ' c o)) := by
  intro fc fm σ τ k n j h1 h2 h3 J hj hn hw
  obtain ⟨fc, rfl⟩ : ∃ x, fc = x + 1 := ⟨fc - 1, by omega⟩
  obtain ⟨fm, rfl⟩ : ∃ x, fm = x + 1 := ⟨fm - 1, by omega⟩
  obtain ⟨j1, j2, j3, j4, j5⟩ := id J
  have hL := j1.le
  have n8 := j1.N8
  have hkN := j1.2.1
  obtain ⟨τ1, g1, g2, g3, g4, g5⟩ := mhere j2
  have r1 : gI τ1 611 = gI τ 611 := g2.I (by decide) (fun q => q)
  have e21 : gI τ1 609 21 = nI d := (g2.F (by unfold bL; omega)).trans j5
  obtain ⟨τ2, o1, o2, o3, o4, o5⟩ := mhere g3
  have r2 : gI τ2 611 = gI τ 611 := (o2.I (by decide) (fun q => q)).trans r1
  have e22 : gI τ2 609 21 = nI d := (o2.F (by unfold bL; omega)).trans e21
  have sA := sign_iff (k := k) (i := 30) (c := 42) (by omega) (by omega) rfl hL
  have sB := sign_iff (k := k) (i := 31) (c := 47) (by omega) (by omega) rfl hL
  rw [pf_X9_readTerm_L10, pf_X11_readsTerm_L9, show (800 : Int32) = nI 800 from rfl, if_neg (nI_ge (show j < 800 by omega) (by omega)), ahead_ok j1, bind_some, g1, bnd2_some]
  have op : ∀ (i : Nat) (c : Int32) (a : Nat) (τ3 : St), tkd T L k = i → i < 32 → tst T L k < L → T (tst T L k) = c → ck c = 3 → tkC.getD i 0 = encW (nI a) 0 → 2 ≤ a → a ≤ 5 → MP τ3 T L k → RP τ3 T L (tst T L k) → gI τ3 611 = gI τ 611 → gI τ3 609 21 = nI d → FM τ τ3 → ∃ σ' τ', pf_X9_readTerm_b41 rcC (pf_X9_readTerm_L10 rcC fc) 601 595 61 (nI d) (nI j) (some i) σ = some σ' ∧ FC σ σ' ∧ FM τ τ' ∧ ((pf_X11_readsTerm_b41 rcM (pf_X11_readsTerm_L9 rcM fm) 609 (nI a) τ3 = some (1, τ') ∧ ∃ k' n', k ≤ k' ∧ n0 ≤ n' ∧ JS T L N σ' τ' k' n' d ∧ hW (gI τ' 611) (n' - n0) n0 h = some (h + 1) ∧ Kp τ τ' n0 ∧ n' + k ≤ n + k') ∨ (pf_X11_readsTerm_b41 rcM (pf_X11_readsTerm_L9 rcM fm) 609 (nI a) τ3 = some (0, τ') ∧ ∃ c o, CE σ' c o ∧ ME τ' c o)) := by
    intro i c a τ3 hi hi32 y1 y2 y3 hC ha2 ha5 m3 p3 r3 e3 f3
    have k1 : k < N := j1.lt.mp y1
    have Jn : JS T L N (sI σ 595 4 (nI (k + 1))) (sI τ3 609 16 (nI (tst T L k + 1))) (k + 1) n d := ⟨j1.next k1, ⟨⟨tst T L k + 1, p3.to (by omega), sign_next y1 y2 y3⟩, by rw [gI_ns _ _ _ (by decide)]; exact m3.2.1, by rw [gI_ns _ _ _ (by decide)]; exact m3.2.2⟩, j3.to (by rw [gI_ne _ _ _ _ (by omega)]) (by rw [gI_nf _ _ _ (by omega)]) (by rw [gI_nf _ _ _ (by omega)]; exact r3), by omega, by rw [gI_ns _ _ _ (by decide)]; exact e3⟩
    have r3' : gI (sI τ3 609 16 (nI (tst T L k + 1))) 611 = gI τ 611 := by rw [gI_nf _ _ _ (by omega)]; exact r3
    have f3' : FM τ (sI τ3 609 16 (nI (tst T L k + 1))) := f3.trans (FM.f _ _ (by unfold bS; omega))
    obtain ⟨σ4, τ4, a1, a2, a3, a4⟩ := HF _ _ _ _ (h + 1) Jn (by omega)
    unfold pf_X9_readTerm_b41 pf_X11_readsTerm_b41
    have ex : pf_X6_skip 595 σ = some (sI σ 595 4 (nI (k + 1))) := by
      unfold pf_X6_skip
      rw [j1.2.2.1, nI_1, bnd_e]
    rw [ex, bind_some, a1, bind_some, ckT_some hi32, hC, p3.2.2.2.1, show nI (tst T L k) + 1 = nI (tst T L k + 1) by rw [nI_1], bnd_e]
    have fc4 : FC σ σ4 := (FC.s σ 4 _).trans a2
    have fm4 : FM τ τ4 := f3'.trans a3
    have hmp : 0 < m := by omega
    obtain ⟨fc, rfl⟩ : ∃ x, fc = x + 1 := ⟨fc - 1, by omega⟩
    rcases a4 with ⟨q1, k', n', b1, b2, b3, b4, b5, b6⟩ | ⟨q1, c', o', b1, b2⟩
    · have hk' := b3.1.2.1
      have kp : Kp τ τ4 n := (Kp.eq n r3').trans b5 (Nat.le_refl _)
      have Ja := b3.emit (a := nI a) (b := 0) (by omega) (by omega) ⟨Is.of ha5 (by omega), fun q => absurd q (by rw [show (0 : Int32) = nI 0 from rfl, nI_eq (by omega) (by omega)]; omega), fun q => absurd q (by rw [show (1 : Int32) = nI 1 from rfl, nI_eq (by omega) (by omega)]; omega)⟩
      rw [appC b3.2.2.1.1 (by omega), bind_some, q1, bnd2_some, if_neg (show ¬ (1 : Int32) = 0 by decide), emM b3.2.2.1.2.1 (by omega), bind_some, nI_1, bnd_e]
      have ea := emS_at (τ := τ4) (n := n') (nI a) 0
      have kp2 : Kp τ (emS τ4 n' (nI a) 0) n := kp.trans ea.2.2.2 b2
      have h1w : hW (gI (emS τ4 n' (nI a) 0) 611) (n - n0) n0 h = some (h + 1) := by
        rw [← hw]; exact hW_cong _ _ _ fun x x1 x2 => kp2 x (by omega) (by omega)
      have h2w : hW (gI (emS τ4 n' (nI a) 0) 611) (n' - n) n (h + 1) = some (h + 1 + 1) := by
        rw [← b4]; exact hW_cong _ _ _ fun x x1 x2 => ea.2.2.2 x (by omega) (by omega)
      have h3w : hW (gI (emS τ4 n' (nI a) 0) 611) 1 n' (h + 1 + 1) = some (h + 1) := by
        rw [hW, ea.1, if_neg (by rw [Nn_nI (by omega)]; omega), if_pos (by omega), hW]; rfl
      have hall : hW (gI (emS τ4 n' (nI a) 0) 611) (n' + 1 - n0) n0 h = some (h + 1) := by
        rw [show n' + 1 - n0 = (n - n0) + ((n' - n) + 1) by omega, hW_app, h1w]
        show hW (gI (emS τ4 n' (nI a) 0) 611) ((n' - n) + 1) (n0 + (n - n0)) (h + 1) = _
        rw [hW_app, show n0 + (n - n0) = n by omega, h2w]
        show hW (gI (emS τ4 n' (nI a) 0) 611) 1 (n + (n' - n)) (h + 1 + 1) = _
        rw [show n + (n' - n) = n' by omega]; exact h3w
      obtain ⟨σ', τ', z1, z2, z3, z4⟩ := ih hmp (fc + 1) fm _ _ k' (n' + 1) (j + 1) (by omega) (by omega) (by omega) Ja (by omega) (by omega) hall
      refine ⟨σ', τ', z1, fc4.trans ((appC_F _).trans z2), fm4.trans ((emS_F (by omega) _ _).trans z3), ?_⟩
      rcases z4 with ⟨z5, k2, n2, z6, z7, z8, z9, z10, z11⟩ | z5
      · exact Or.inl ⟨z5, k2, n2, by omega, z7, z8, z9, fun x x1 x2 => (z10 x x1 x2).trans (kp2 x x1 (by omega)), by omega⟩
      · exact Or.inr z5
    · obtain ⟨σ5, y4, y5, y6⟩ := app_e σ4 (encW (nI a) 0)
      have ce := b1.un y5 (by decide)
      rw [y4, bind_some, q1, bnd2_some, if_pos rfl, nI_1, bnd_e, termL_e rcC 601 (nI d) (j + 1) (by omega) fc ce]
      exact ⟨σ5, τ4, rfl, fc4.trans ⟨y5.mono fun x hx => Or.inr hx, y6⟩, fm4, Or.inr ⟨rfl, c', o', ce, b2⟩⟩
  have nA : ∀ c : Int32, c ≠ -1 → ((if tst T L k < L then T (tst T L k) else -1) = c ↔ tst T L k < L ∧ T (tst T L k) = c) := fun c hc => by
    by_cases y : tst T L k < L
    · rw [if_pos y]; exact ⟨fun e => ⟨y, e⟩, fun e => e.2⟩
    · rw [if_neg y]; exact ⟨fun e => absurd e.symm hc, fun e => absurd e.1 y⟩
  by_cases cA : tkd T L k = 30
  · obtain ⟨y1, y2⟩ := sA.mp cA
    rw [if_pos (show (some (tkd T L k) : Option Nat) = some 30 by rw [cA]), if_pos ((nA 42 (by decide)).mpr ⟨y1, y2⟩), cA]
    unfold pf_X11_readsTerm_b27
    rw [o1, bnd2_some, if_pos ((nA 42 (by decide)).mpr ⟨y1, y2⟩)]
    exact op 30 42 4 τ2 cA (by omega) y1 y2 (by decide) (by decide +kernel) (by omega) (by omega) o3 o5 r2 e22 ((FM.l g2).trans (FM.l o2))
  · have xA : ¬ (if tst T L k < L then T (tst T L k) else -1) = 42 := fun e => cA (sA.mpr ((nA 42 (by decide)).mp e))
    rw [if_neg (show ¬ (some (tkd T L k) : Option Nat) = some 30 from fun e => cA (Option.some.inj e)), if_neg xA, o1, bnd2_some]
    by_cases cB : tkd T L k = 31
    · obtain ⟨y1, y2⟩ := sB.mp cB
      obtain ⟨τ3, p1, p2, p3, p4, p5⟩ := mhere o3
      rw [if_pos (show (some (tkd T L k) : Option Nat) = some 31 by rw [cB]), if_pos ((nA 47 (by decide)).mpr ⟨y1, y2⟩), cB]
      unfold pf_X11_readsTerm_b27
      rw [p1, bnd2_some, if_neg xA]
      exact op 31 47 5 τ3 cB (by omega) y1 y2 (by decide) (by decide +kernel) (by omega) (by omega) p3 p5 ((p2.I (by decide) (fun q => q)).trans r2) ((p2.F (by unfold bL; omega)).trans e22) ((FM.l g2).trans ((FM.l o2).trans (FM.l p2)))
    · have xB : ¬ (if tst T L k < L then T (tst T L k) else -1) = 47 := fun e => cB (sB.mpr ((nA 47 (by decide)).mp e))
      rw [if_neg (show ¬ (some (tkd T L k) : Option Nat) = some 31 from fun e => cB (Option.some.inj e)), if_neg xB]
      exact ⟨σ, τ2, rfl, FC.refl _, (FM.l g2).trans (FM.l o2), Or.inl ⟨rfl, k, n, Nat.le_refl _, hn, ⟨j1, o3, j3.to rfl rfl r2, j4, e22⟩, by rw [r2]; exact hw, Kp.eq _ r2, by omega⟩⟩

theorem termLJ (hb : TB8 T L) {rcC : Nat → Nat → Nat → Int32 → St → Option St} {rcM : Nat → St → Option (Int32 × St)} {d hm : Nat} (hd : d ≤ 4) (HF : ∀ σ τ k n h, JS T L N σ τ k n d → h ≤ hm + 1 → Ott T L N σ τ k n d h (pf_X9_readFactor rcC 601 595 61 (nI d) σ) (pf_X11_readsFactor rcM 609 τ)) {n0 h : Nat} (hh : h ≤ hm) : ∀ m fc fm σ τ k n j, N - k ≤ m → m < fc → m < fm → JS T L N σ τ k n d → j < k → n0 ≤ n → hW (gI τ 611) (n - n0) n0 h = some (h + 1) → ∃ σ' τ', pf_X9_readTerm_L10 rcC fc 601 595 61 (nI d) (nI j) σ = some σ' ∧ FC σ σ' ∧ FM τ τ' ∧ ((pf_X11_readsTerm_L9 rcM fm 609 τ = some (1, τ') ∧ ∃ k' n', k ≤ k' ∧ n0 ≤ n' ∧ JS T L N σ' τ' k' n' d ∧ hW (gI τ' 611) (n' - n0) n0 h = some (h + 1) ∧ Kp τ τ' n0 ∧ n' + k ≤ n + k') ∨ (pf_X11_readsTerm_L9 rcM fm 609 τ = some (0, τ') ∧ ∃ c o, CE σ' c o ∧ ME τ' c o)) := by
  intro m
  induction m with
  | zero => exact fun fc fm σ τ k n j h1 h2 h3 J hj hn hw => termSJ hb hd HF hh 0 (fun q => absurd q (Nat.not_lt_zero _)) fc fm σ τ k n j h1 h2 h3 J hj hn hw
  | succ m ih => exact fun fc fm σ τ k n j h1 h2 h3 J hj hn hw => termSJ hb hd HF hh (m + 1) (fun _ => ih) fc fm σ τ k n j h1 h2 h3 J hj hn hw

theorem termWJ (hb : TB8 T L) {rcC : Nat → Nat → Nat → Int32 → St → Option St} {rcM : Nat → St → Option (Int32 × St)} {d hm : Nat} (hd : d ≤ 4) (HF : ∀ σ τ k n h, JS T L N σ τ k n d → h ≤ hm + 1 → Ott T L N σ τ k n d h (pf_X9_readFactor rcC 601 595 61 (nI d) σ) (pf_X11_readsFactor rcM 609 τ)) {σ τ : St} {k n h : Nat} (J : JS T L N σ τ k n d) (hh : h ≤ hm) : ∃ σ' τ', pf_X9_readTerm rcC 601 595 61 (nI d) σ = some σ' ∧ FC σ σ' ∧ FM τ τ' ∧ ((pf_X11_readsTerm rcM 609 τ = some (1, τ') ∧ ∃ k' n', k < k' ∧ n ≤ n' ∧ JS T L N σ' τ' k' n' d ∧ hW (gI τ' 611) (n' - n) n h = some (h + 1) ∧ Kp τ τ' n ∧ n' + k ≤ n + k') ∨ (pf_X11_readsTerm rcM 609 τ = some (0, τ') ∧ ∃ c o, CE σ' c o ∧ ME τ' c o)) := by
  obtain ⟨σ1, τ1, a1, a2, a3, a4⟩ := HF _ _ _ _ h J (by omega)
  have n8 := J.1.N8
  unfold pf_X9_readTerm pf_X11_readsTerm
  rw [a1, bind_some]
  rcases a4 with ⟨q1, k', n', b1, b2, b3, b4, b5, b6⟩ | ⟨q1, c, o, b1, b2⟩
  · rw [q1, bnd2_some, if_neg (show ¬ (1 : Int32) = 0 by decide)]
    obtain ⟨σ', τ', z1, z2, z3, z4⟩ := termLJ hb hd HF hh N FU FU _ _ k' n' 0 (by omega) (lt_FU (by omega)) (lt_FU (by omega)) b3 (by omega) b2 b4
    refine ⟨σ', τ', z1, a2.trans z2, a3.trans z3, ?_⟩
    rcases z4 with ⟨z5, k2, n2, z6, z7, z8, z9, z10, z11⟩ | z5
    · exact Or.inl ⟨z5, k2, n2, by omega, z7, z8, z9, b5.trans z10 (Nat.le_refl _), by omega⟩
    · exact Or.inr z5
  · rw [q1, bnd2_some, if_pos rfl]
    exact ⟨σ1, τ1, termL_e rcC 601 (nI d) 0 (by omega) 999999 b1, a2, a3, Or.inr ⟨rfl, c, o, b1, b2⟩⟩
end
