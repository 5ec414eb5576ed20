/-! GOALS: what both readers do, side by side -/
def FCg (d : Nat) (σ σ' : St) : Prop := Un (fun i => i = 595 ∨ i = 600) σ σ' ∧ ∀ k, k < 7 * d → gL σ' 600 k = gL σ 600 k
theorem FCg.refl (d : Nat) (σ : St) : FCg d σ σ := ⟨Un.refl _ _, fun _ _ => rfl⟩
theorem FCg.trans {d : Nat} {σ σ' σ'' : St} (h : FCg d σ σ') (h' : FCg d σ' σ'') : FCg d σ σ'' := ⟨h.1.trans h'.1, fun k hk => (h'.2 k hk).trans (h.2 k hk)⟩
theorem FCg.r {d : Nat} {σ σ' : St} (h : Un (fun i => i = 595) σ σ') : FCg d σ σ' := ⟨h.mono fun i hi => Or.inl hi, fun k _ => by rw [h.L (by omega)]⟩
theorem FCg.s {d : Nat} (σ : St) (k : Nat) (v : Int32) : FCg d σ (sI σ 595 k v) := FCg.r (Un.sI _ _ rfl)
theorem FCg.dn {d : Nat} {σ σ' : St} (h : FCg (d + 1) σ σ') : FCg d σ σ' := ⟨h.1, fun k hk => h.2 k (by omega)⟩
theorem FCg.t {d : Nat} {σ σ' : St} (h : Un (fun i => i = 600) σ σ') (h2 : ∀ k, k < 7 * d → gL σ' 600 k = gL σ 600 k) : FCg d σ σ' := ⟨h.mono fun i hi => Or.inr hi, h2⟩
def FMg (τ τ' : St) : Prop := MU (fun i => i = 611) bS τ τ' ∧ ∀ j, ¬ (j = 4 ∨ (2769 ≤ j ∧ j < 4370)) → gI τ' 611 j = gI τ 611 j
theorem FMg.refl (τ : St) : FMg τ τ := ⟨MU.refl _ _ _, fun _ _ => rfl⟩
theorem FMg.trans {σ σ' σ'' : St} (h : FMg σ σ') (h' : FMg σ' σ'') : FMg σ σ'' := ⟨h.1.trans h'.1, fun k hk => (h'.2 k hk).trans (h.2 k hk)⟩
theorem FMg.l {τ τ' : St} (h : MU noA bL τ τ') : FMg τ τ' := ⟨h.mono (fun _ q => q.elim) (fun k q => by unfold bL at q; unfold bS; omega), fun j _ => by rw [h.I (by decide) (fun q => q)]⟩
theorem FMg.f (τ : St) {k : Nat} (v : Int32) (h : bS k) : FMg τ (sI τ 609 k v) := ⟨MU.fld _ _ h, fun j _ => by rw [gI_ne _ _ _ _ (by omega)]⟩
theorem FMg.q {τ τ' : St} (h : FM τ τ') (e : gI τ' 611 = gI τ 611) : FMg τ τ' := ⟨h.1, fun j _ => by rw [e]⟩
theorem FMg.g {τ : St} {n : Nat} (hn : n < 800) (a b : Int32) : FMg τ (goS τ n a b) := ⟨(goS_M a b).mono (fun _ q => q) (fun _ q => q.elim), fun j hj => goS_out a b hn hj⟩
def EV (τ : St) (n0 n : Nat) (l : Nat → List Bool) : Prop := n0 ≤ n ∧ (∀ u, u < 64 → ∀ st, evG (gI τ 611) u (n - n0) n0 st = some (l u ++ st)) ∧ ∀ j, n0 ≤ j → j < n → VGc (gI τ 611) j
theorem EV.nil (τ : St) (n : Nat) : EV τ n n (fun _ => []) := ⟨Nat.le_refl _, fun u _ st => by rw [Nat.sub_self, evG]; rfl, fun j h1 h2 => by omega⟩
theorem EV.kg {τ τ' : St} {n0 n m : Nat} {l : Nat → List Bool} (h : EV τ n0 n l) (K : Kg τ τ' m) (hm : n ≤ m) : EV τ' n0 n l := by
  obtain ⟨h0, h1, h2⟩ := h
  refine ⟨h0, fun u hu st => ?_, fun j a b => ?_⟩
  · rw [← h1 u hu st]
    exact evG_congr _ _ _ fun j x1 x2 => K j (by omega) (by omega)
  · have := h2 j a b
    unfold VGc at *
    rw [K (2769 + 2 * j) (by omega) (by omega), K (2769 + 2 * j + 1) (by omega) (by omega)]
    exact this
theorem EV.cat {τ : St} {n0 n n' : Nat} {l l' : Nat → List Bool} (h : EV τ n0 n l) (h' : EV τ n n' l') : EV τ n0 n' (fun u => l' u ++ l u) := by
  obtain ⟨a0, a1, a2⟩ := h
  obtain ⟨b0, b1, b2⟩ := h'
  refine ⟨by omega, fun u hu st => ?_, fun j x y => ?_⟩
  · rw [show n' - n0 = (n - n0) + (n' - n) by omega, evG_app, a1 u hu st]
    show evG (gI τ 611) u (n' - n) (n0 + (n - n0)) (l u ++ st) = _
    rw [show n0 + (n - n0) = n by omega, b1 u hu, List.append_assoc]
  · by_cases c : j < n
    · exact a2 j x c
    · exact b2 j (by omega) y
theorem EV.go {τ : St} {n0 n a b : Nat} {l l' : Nat → List Bool} (h : EV τ n0 n l) (ha : a ≤ 3) (hb : b ≤ 100000) (hv : a = 0 → b < 6) (hs : ∀ u, u < 64 → ∀ st, stG u a b (l u ++ st) = some (l' u ++ st)) : EV (goS τ n (nI a) (nI b)) n0 (n + 1) l' := by
  obtain ⟨h0, h1, h2⟩ := h
  obtain ⟨e1, e2, _, e4⟩ := goS_at (τ := τ) (n := n) (nI a) (nI b)
  refine ⟨by omega, fun u hu st => evG_go h0 (by omega) (by omega) (h1 u hu st) (hs u hu st), fun j x y => ?_⟩
  by_cases c : j = n
  · subst c
    unfold VGc
    rw [e1, e2, Nn_nI (by omega)]
    exact ⟨Is.of ha (by omega), Is.of hb (by omega), fun q => hv ((nI_eq (b := 0) (by omega) (by omega)).mp q)⟩
  · have := h2 j x (by omega)
    unfold VGc at *
    rw [e4 (2769 + 2 * j) (by omega) (by omega), e4 (2769 + 2 * j + 1) (by omega) (by omega)]
    exact this
def GV (g : Int64) (S : Nat) : Prop := gbit g 0 = false ∧ ∀ u, u < 64 → gbit g (u % 2 ^ S) = gbit g u
section
variable {T : Nat → Int32} {L N S : Nat}
def JG (T : Nat → Int32) (L N S : Nat) (σ τ : St) (k n d : Nat) : Prop := CP σ T L N k ∧ MP τ T L k ∧ gI τ 611 4 = nI n ∧ n ≤ k ∧ gI τ 609 21 = nI d ∧ gI τ 609 22 = nI S
def Ogg (T : Nat → Int32) (L N S : Nat) (σ τ : St) (k n d : Nat) (cl : Option (Int64 × St)) (ml : Option (Int32 × St)) : Prop := ∃ g σ' τ', cl = some (g, σ') ∧ FCg d σ σ' ∧ FMg τ τ' ∧ ((ml = some (1, τ') ∧ GV g S ∧ ∃ k' n', k < k' ∧ JG T L N S σ' τ' k' n' d ∧ EV τ' n n' (fun u => [gbit g u]) ∧ Kg τ τ' n ∧ n' + k ≤ n + k') ∨ (ml = some (0, τ') ∧ ∃ c o, CE σ' c o ∧ ME τ' c o))
theorem JG.emit {σ τ : St} {k n d : Nat} (J : JG T L N S σ τ k n d) (hn : n < k) (a b : Int32) : JG T L N S σ (goS τ n a b) k (n + 1) d := by
  obtain ⟨j1, j2, j3, j4, j5, j6⟩ := J
  exact ⟨j1, j2.fm (goS_M a b), (goS_at a b).2.2.1, hn, by rw [(goS_M a b).F (fun q => q)]; exact j5, by rw [(goS_M a b).F (fun q => q)]; exact j6⟩
theorem FMg.F22 {τ τ' : St} (h : FMg τ τ') : gI τ' 609 22 = gI τ 609 22 := h.1.F (by unfold bS; omega)
theorem gbit_m1 : ∀ u, u < 64 → gbit (-1) u = true := by decide +kernel
theorem init_ok (rc : Nat → Nat → Int32 → Int32 → St → Option (Int64 × St)) (k45 : Nat → Nat → Int32 → Int32 → Int32 → Int32 → St → (Option (Int64 × St))) {d : Nat} (hd : d ≤ 3) (v2 v4 v5 : Int32) (σ : St) : ∃ σ', pf_X0_readGroup_L13 rc k45 FU 599 595 v2 (nI d) v4 v5 0 σ = k45 599 595 v2 (nI d) v4 v5 σ' ∧ Un (fun i => i = 600) σ σ' ∧ TL σ' d (fun _ => 0) ∧ ∀ k, k < 7 * d → gL σ' 600 k = gL σ 600 k := by
  refine up_C (fun n i t => pf_X0_readGroup_L13 rc k45 n 599 595 v2 (nI d) v4 v5 (nI i) t) 7 (fun i t => Un (fun i => i = 600) σ t ∧ (∀ j, j < i → ∀ u, u < 64 → gbit (gL t 600 (7 * d + j)) u = decide (j ≤ 0)) ∧ ∀ k, k < 7 * d → gL t 600 k = gL σ 600 k) (fun x => ∃ σ', x = k45 599 595 v2 (nI d) v4 v5 σ' ∧ Un (fun i => i = 600) σ σ' ∧ TL σ' d (fun _ => 0) ∧ ∀ k, k < 7 * d → gL σ' 600 k = gL σ 600 k) ?_ ?_ FU 0 σ (Nat.zero_le _) ⟨Un.refl _ _, fun j hj => absurd hj (Nat.not_lt_zero _), fun _ _ => rfl⟩ (lt_FU (by omega))
  · intro n t ⟨h1, h2, h3⟩
    refine ⟨t, ?_, h1, fun i hi u hu => h2 i (by omega) u hu, h3⟩
    show pf_X0_readGroup_L13 rc k45 (n + 1) 599 595 v2 (nI d) v4 v5 (nI 7) t = _
    rw [pf_X0_readGroup_L13, show (7 : Int32) = nI 7 from rfl, if_pos (nI_le (Nat.le_refl _) (by omega))]
  · intro n i t hi ⟨h1, h2, h3⟩
    refine Or.inr ⟨sL t 600 (7 * d + i) (if i = 0 then -1 else 0), ?_, h1.trans (Un.sL _ _ rfl), fun j hj u hu => ?_, fun k hk => ?_⟩
    · show pf_X0_readGroup_L13 rc k45 (n + 1) 599 595 v2 (nI d) v4 v5 (nI i) t = pf_X0_readGroup_L13 rc k45 n 599 595 v2 (nI d) v4 v5 (nI (i + 1)) _
      rw [pf_X0_readGroup_L13, show (7 : Int32) = nI 7 from rfl, if_neg (nI_ge hi (by omega)), if_0 (by omega)]
      by_cases c : i = 0
      · rw [if_pos c, if_pos c]
        unfold pf_X0_readGroup_b36
        rw [putTally_ok _ hd (by omega), bind_some, bnd_e, nI_1]
      · rw [if_neg c, if_neg c]
        unfold pf_X0_readGroup_b36
        rw [putTally_ok _ hd (by omega), bind_some, bnd_e, nI_1]
    · rw [gL_sL, if_pos rfl]
      by_cases e : j = i
      · subst e
        rw [if_pos rfl]
        by_cases c : j = 0
        · rw [if_pos c, gbit_m1 u hu, decide_eq_true (by omega)]
        · rw [if_neg c, gbit_0, decide_eq_false (by omega)]
      · rw [if_neg (by omega)]; exact h2 j (by omega) u hu
    · rw [gL_sL, if_pos rfl, if_neg (by omega)]; exact h3 k hk
theorem TL.un {M : Nat → Prop} {σ σ' : St} {d : Nat} {c : Nat → Nat} (h : TL σ d c) (u : Un M σ σ') (hm : ¬ M 600) : TL σ' d c := fun i hi v hv => by rw [u.L hm]; exact h i hi v hv
theorem TL.fc {σ σ' : St} {d : Nat} {c : Nat → Nat} (h : TL σ d c) (u : FCg (d + 1) σ σ') : TL σ' d c := fun i hi v hv => by rw [u.2 _ (by omega)]; exact h i hi v hv
theorem TL.cg {σ : St} {d : Nat} {c c' : Nat → Nat} (h : TL σ d c) (e : ∀ u, u < 64 → c' u = c u) : TL σ d c' := fun i hi v hv => by rw [e v hv]; exact h i hi v hv
/-- no parenthesis is opened -/
theorem mopens_n {τ : St} {k : Nat} (h : MP τ T L k) (hk : tkd T L k ≠ 26) : ∃ τ', pf_X11_opens 609 τ = some (0, τ') ∧ MU noA bL τ τ' ∧ ME τ' (-2) (tst T L k) := by
  have hL := h.le
  have si := sign_iff (k := k) (i := 26) (c := 40) (by omega) (by omega) rfl hL
  obtain ⟨τ1, g1, g2, g3, g4, g5⟩ := mhere h
  obtain ⟨f1, f2, f3⟩ := mfails g3.2.1 (c := -2) (by decide) (tst T L k)
  unfold pf_X11_opens
  rw [g1, bnd2_some, if_neg (fun e => by
    by_cases y : tst T L k < L
    · rw [if_pos y] at e; exact hk (si.mpr ⟨y, e⟩)
    · rw [if_neg y] at e; exact absurd e (by decide)), g4, f1, bnd2_some, ckZ_0]
  exact ⟨_, rfl, g2.trans f3, f2⟩
/-- digits, as both readers keep them -/
theorem mdig (hb : TB8 T L) {τ : St} {k : Nat} (h : MP τ T L k) : ∃ τ', pf_X11_digits 609 τ = some (b2i (decide (tkd T L k = 0)), τ') ∧ MU noA bL τ τ' ∧ (tkd T L k = 0 → MP τ' T L (k + 1) ∧ gI τ' 609 20 = nI (tst T L k) ∧ ∃ rv, gI τ' 609 19 = nI rv ∧ ((nvl T L k = rv ∧ rv ≤ 100000) ∨ (100000 < nvl T L k ∧ 100000 < rv)) ∧ rv ≤ 1000009 ∧ nvl T L k ≤ 1000000) ∧ (tkd T L k ≠ 0 → ME τ' (-2) (tst T L k)) := by
  have hL := h.le
  have z := tkd_0 (T := T) (k := k) hL
  obtain ⟨τ1, g1, g2, g3, g4⟩ := mdigits hb h
  refine ⟨τ1, g1, g2, fun c => ?_, g4⟩
  obtain ⟨a1, a2, a3⟩ := g3 c
  obtain ⟨y1, y2⟩ := z.mp c
  obtain ⟨r1, r2, r3, r4, r5⟩ := re_spec (T := T) y1
  obtain ⟨vl1, vl2⟩ := cr_vl (T := T) (a := tst T L k) (re T L (tst T L k) - tst T L k) (fun j hj => (dig_m (hb _ (by omega)) (by rw [r3 _ (by omega) (by omega)]; exact y2)).2)
  have hv : nvl T L k = cvl T (tst T L k) (re T L (tst T L k) - tst T L k) := rfl
  have hv6 := cvl_le T (tst T L k) (re T L (tst T L k) - tst T L k)
  refine ⟨a1, a2, _, a3, ?_, vl2, by omega⟩
  rcases vl1 with ⟨x, y⟩ | x
  · exact Or.inl ⟨by rw [hv]; exact x, by omega⟩
  · exact Or.inr x
end
