/-! THE LAW: a builder whose array is hidden; what is appended to it -/
def SBx (G : Gt) (lo sb v0 : Nat) (T : List Nat) (H0 H : Heap) : Prop := Fxe (fun x => x = sb ∨ x = v0) H0 H ∧ ∃ v, lo ≤ v ∧ (v = v0 ∨ H0.size ≤ v) ∧ sb ≠ v ∧ SBs G sb v T H
theorem SBx.of {G : Gt} {lo sb v : Nat} {T : List Nat} {H : Heap} (h : SBs G sb v T H) (h1 : lo ≤ v) (h2 : sb ≠ v) : SBx G lo sb v T H H := ⟨Fxe.rf _ _, v, h1, Or.inl rfl, h2, h⟩
theorem SBx.app {G : Gt} {lo sb v0 v w : Nat} {T T' : List Nat} {H0 H H1 : Heap} (hF : Fxe (fun x => x = sb ∨ x = v0) H0 H) (h1 : lo ≤ v) (h2 : v = v0 ∨ H0.size ≤ v) (hlo : lo ≤ sb) (hne : sb ≠ v) (hsb : SBs G sb v T H) (hw : w = v ∨ H.size ≤ w) (z : H.size ≤ H1.size) (o : ∀ q : Nat, q < H.size → ¬ (q = sb ∨ q = v) → H1[q]? = H[q]?) (hs : SBs G sb w T' H1) : SBx G lo sb v0 T' H0 H1 := by
  have hl := hsb.lt
  have hF1 := hF.1
  refine ⟨hF.step z (fun q a1 a2 => o q (by omega) (fun h9 => ?_)), w, ?_, ?_, ?_, hs⟩
  · rcases h9 with h9 | h9
    · exact a2 (Or.inl h9)
    · rcases h2 with h2 | h2
      · exact a2 (Or.inr (by omega))
      · omega
  · rcases hw with rfl | hw <;> omega
  · rcases hw with rfl | hw
    · exact h2
    · exact Or.inr (by omega)
  · rcases hw with rfl | hw
    · exact hne
    · omega
/-- a fact of a cell that is neither the builder nor its array -/
theorem SBx.at {G : Gt} {lo sb v0 : Nat} {T : List Nat} {H0 H : Heap} (h : SBx G lo sb v0 T H0 H) {w : Nat × va_E} (hw : va_at (gDD G) vwCl w H0) (h1 : w.1 ≠ sb) (h2 : w.1 ≠ v0) : va_at (gDD G) vwCl w H := hw.kept (h.1.2 _ hw.lt (fun q => q.elim h1 h2))
section
variable {G : Gt} {p : Program} {l : Launch} {e : Env} {R : Room} {s : State} {m : MethodId} {args : Array Value} {below : List Frame} {meth : Method} {c : Code} {H H0 : Heap} {locs : List Loc} {cells slots : Nat} {Q : State → Prop}
variable {cc : ByteArray} {nL h idx idx2 cells0 slots0 : Nat} {own : String} {pc : Nat} {ls : Array Slot} {rest : List Value} {A : Nat → Prop} {sb v0 k n x : Nat} {T u : List Nat}
theorem ap_T {a bt : Nat} (X : Cx G p R s m args c cells0 slots0 cc nL own h) (hG : AllA G) (hgz : gz G ≤ s.heap.size) (hA : ∀ q, q < s.heap.size → A q → gA G q) (hAn : ∀ q, s.heap.size ≤ q → A q) (hS : va_S A s.heap H locs) (hsb : s.heap.size ≤ sb) (hu : asc u) (hT : T.length + u.length ≤ 1000) (hF : Fxe (fun x => x = sb ∨ x = v0) H0 H) {v : Nat} (h1 : s.heap.size ≤ v) (h2 : v = v0 ∨ H0.size ≤ v) (hne : sb ≠ v) (hsbs : SBs G sb v T H) (hsf : SF a bt u s H) (hab : sb ≠ a ∧ sb ≠ bt ∧ v ≠ a ∧ v ≠ bt) (lk : Cond.methodLink own idx yJ4_append_15ec4 ∈ TB) (hh : 6 < h) (hcat : ((rest).map fun v => v.category).sum ≤ 8) (hls : ls.size = nL) (hd : decode cc pc = .ok (.invokevirtual idx, 3)) (hc : cells + 1 ≤ R.cells) (hs : slots + 2000 ≤ R.slots)
    (kk : ∀ (H1 : Heap) (locs1 : List Loc) (cells1 slots1 : Nat), cells1 ≤ cells + 1 → slots1 ≤ slots + 2000 → H.size ≤ H1.size → SBx G s.heap.size sb v0 (T ++ u) H0 H1 → va_S A s.heap H1 locs1 → W p l e R s m args below meth c H1 locs1 cells1 slots1 Q (F0 m (pc + 3) ls (.ref sb :: rest))) : W p l e R s m args below meth c H locs cells slots Q (F0 m pc ls (.ref a :: .ref sb :: rest)) := by
  refine callH_V (As := [.ref a]) X hS hA (Mv.and (Mv.h fun K => SBs G sb v T K) SF.mv) (fun U hU hv => by rw [hU]; exact ⟨hsbs, hsf.moved hv⟩) (fun q h9 => hAn q (by simp only [frA] at h9; have := hS.1; omega)) (p_recv X hsbs.obj (r := (RJ4, TJ4, 4)) rfl) lk m_3_202 m_3_203 mv_J4_append_15ec4 (ch_app (t := T) (u := u) (v := v) (bt := bt) hG (by omega) (by omega) hu (by omega) hne hab.1 hab.2.1 hab.2.2.1 hab.2.2.2) hh rfl rfl hcat hls hd hc (by omega) fun ov H1 locs1 qH zH oH hS2 => ?_
  obtain ⟨rfl, w, hw, hsb2⟩ := qH
  exact kk H1 locs1 _ _ (Nat.le_refl _) (by omega) zH (SBx.app hF h1 h2 hsb hne hsbs hw zH oH hsb2) hS2
theorem ap_K (X : Cx G p R s m args c cells0 slots0 cc nL own h) (hG : AllA G) (hgz : gz G ≤ s.heap.size) (hA : ∀ q, q < s.heap.size → A q → gA G q) (hAn : ∀ q, s.heap.size ≤ q → A q) (hS : va_S A s.heap H locs) (hsb : s.heap.size ≤ sb) (hk : k < 48) (hT : T.length + (cT k).length ≤ 1000) (hx : SBx G s.heap.size sb v0 T H0 H) (lk : Cond.methodLink own idx yJ4_append_15ec4 ∈ TB) (hh : 6 < h) (hcat : ((rest).map fun v => v.category).sum ≤ 8) (hls : ls.size = nL) (hd : decode cc pc = .ok (.invokevirtual idx, 3)) (hc : cells + 1 ≤ R.cells) (hs : slots + 2000 ≤ R.slots)
    (kk : ∀ (H1 : Heap) (locs1 : List Loc) (cells1 slots1 : Nat), cells1 ≤ cells + 1 → slots1 ≤ slots + 2000 → H.size ≤ H1.size → SBx G s.heap.size sb v0 (T ++ cT k) H0 H1 → va_S A s.heap H1 locs1 → W p l e R s m args below meth c H1 locs1 cells1 slots1 Q (F0 m (pc + 3) ls (.ref sb :: rest))) : W p l e R s m args below meth c H locs cells slots Q (F0 m pc ls (.ref (gsK G k) :: .ref sb :: rest)) := by
  have hsf := sf_const X hS hA (k := k) hk
  have hl := (sf_const X (va_S.rf (A := A)) (fun q h8 h9 => hA q h8 h9) (k := k) hk).lt
  obtain ⟨hF, v, h1, h2, hne, hsbs⟩ := hx
  exact ap_T X hG hgz hA hAn hS hsb (cT_asc hk) hT hF h1 h2 hne hsbs hsf ⟨by omega, by omega, by omega, by omega⟩ lk hh hcat hls hd hc hs kk
theorem ap_I (X : Cx G p R s m args c cells0 slots0 cc nL own h) (hG : AllA G) (hgz : gz G ≤ s.heap.size) (hA : ∀ q, q < s.heap.size → A q → gA G q) (hAn : ∀ q, s.heap.size ≤ q → A q) (hD : EnvD G s) (hS : va_S A s.heap H locs) (hsb : s.heap.size ≤ sb) (hn : n < 10000) (hT : T.length ≤ 990) (hx : SBx G s.heap.size sb v0 T H0 H) (lk : Cond.methodLink own idx yJ4_append_bf812 ∈ TB) (hh : 6 < h) (hcat : ((rest).map fun v => v.category).sum ≤ 8) (hls : ls.size = nL) (hd : decode cc pc = .ok (.invokevirtual idx, 3)) (hc : cells + 1 ≤ R.cells) (hs : slots + 2000 ≤ R.slots)
    (kk : ∀ (H1 : Heap) (locs1 : List Loc) (cells1 slots1 : Nat), cells1 ≤ cells + 1 → slots1 ≤ slots + 2000 → H.size ≤ H1.size → SBx G s.heap.size sb v0 (T ++ dec n) H0 H1 → va_S A s.heap H1 locs1 → W p l e R s m args below meth c H1 locs1 cells1 slots1 Q (F0 m (pc + 3) ls (.ref sb :: rest))) : W p l e R s m args below meth c H locs cells slots Q (F0 m pc ls (.int (nI n) :: .ref sb :: rest)) := by
  obtain ⟨hF, v, h1, h2, hne, hsbs⟩ := hx
  refine callH_V (As := [.int (nI n)]) X hS hA (Mv.and (Mv.h fun K => SBs G sb v T K) EnvD.mv) (fun U hU hv => ⟨by rw [hU]; exact hsbs, hD.to hS hA hU hv⟩) (fun q h9 => hAn q (by simp only [frA] at h9; have := hS.1; omega)) (p_recv X hsbs.obj (r := (RJ4, TJ4, 4)) rfl) lk m_4_66 m_4_67 mv_J4_append_bf812 (ch_appI (t := T) (v := v) (n := n) hG (by omega) (by omega) hn (by omega) hne) hh rfl rfl hcat hls hd hc (by omega) fun ov H1 locs1 qH zH oH hS2 => ?_
  obtain ⟨rfl, w, hw, hsb2⟩ := qH
  exact kk H1 locs1 _ _ (Nat.le_refl _) (by omega) zH (SBx.app hF h1 h2 hsb hne hsbs hw zH oH hsb2) hS2
theorem ap_C (X : Cx G p R s m args c cells0 slots0 cc nL own h) (hG : AllA G) (hgz : gz G ≤ s.heap.size) (hA : ∀ q, q < s.heap.size → A q → gA G q) (hAn : ∀ q, s.heap.size ≤ q → A q) (hS : va_S A s.heap H locs) (hsb : s.heap.size ≤ sb) (hn : x < 128) (hT : T.length ≤ 990) (hx : SBx G s.heap.size sb v0 T H0 H) (lk : Cond.methodLink own idx yJ4_append_cf468 ∈ TB) (hh : 6 < h) (hcat : ((rest).map fun v => v.category).sum ≤ 8) (hls : ls.size = nL) (hd : decode cc pc = .ok (.invokevirtual idx, 3)) (hc : cells + 1 ≤ R.cells) (hs : slots + 2000 ≤ R.slots)
    (kk : ∀ (H1 : Heap) (locs1 : List Loc) (cells1 slots1 : Nat), cells1 ≤ cells + 1 → slots1 ≤ slots + 2000 → H.size ≤ H1.size → SBx G s.heap.size sb v0 (T ++ [x]) H0 H1 → va_S A s.heap H1 locs1 → W p l e R s m args below meth c H1 locs1 cells1 slots1 Q (F0 m (pc + 3) ls (.ref sb :: rest))) : W p l e R s m args below meth c H locs cells slots Q (F0 m pc ls (.int (nI x) :: .ref sb :: rest)) := by
  obtain ⟨hF, v, h1, h2, hne, hsbs⟩ := hx
  refine callH_V (As := [.int (nI x)]) X hS hA (Mv.h _) (fun U hU hv => by rw [hU]; exact hsbs) (fun q h9 => hAn q (by simp only [frA] at h9; have := hS.1; omega)) (p_recv X hsbs.obj (r := (RJ4, TJ4, 4)) rfl) lk m_7_9 m_7_10 mv_J4_append_cf468 (ch_appC (t := T) (v := v) (x := x) hG (by omega) (by omega) hn (by omega) hne) hh rfl rfl hcat hls hd hc (by omega) fun ov H1 locs1 qH zH oH hS2 => ?_
  obtain ⟨rfl, w, hw, hsb2⟩ := qH
  exact kk H1 locs1 _ _ (Nat.le_refl _) (by omega) zH (SBx.app hF h1 h2 hsb hne hsbs hw zH oH hsb2) hS2
/-- amounts, and their text appended -/
theorem ap_AM {r : Nat} {f : Nat → Int32} {rv : Nat → Nat} (X : Cx G p R s m args c cells0 slots0 cL_law 12 RL 40) (hG : AllA G) (hgz : gz G ≤ s.heap.size) (hA : ∀ q, q < s.heap.size → A q → gA G q) (hAn : ∀ q, s.heap.size ≤ q → A q) (hD : EnvD G s) (hS : va_S A s.heap H locs) (hsb : s.heap.size ≤ sb) (hk : k < 48) (hkl : (cT k).length ≤ 5) (hrv : ∀ i, rv i < 10000) (hf : ∀ i, i < 3 → f i = nI (rv i)) (hr : va_at (gDD G) vwCl (r, .inl (gty G 0, 3, .inl f)) H) (hT : T.length ≤ 900) (hul : (amW (cT k) rv).length ≤ 27) (hua : asc (amW (cT k) rv)) (hx : SBx G s.heap.size sb v0 T H0 H) (lk1 : Cond.methodLink RL idx yL_amounts ∈ TB) (lk1s : Cond.static yL_amounts ∈ TB) (mvA : MV yL_amounts cL_amounts 4 (some (.object "java/lang/String")) 2) (lk : Cond.methodLink RL idx2 yJ4_append_15ec4 ∈ TB) (hcat1 : ((Value.ref sb :: rest).map fun v => v.category).sum ≤ 8) (hcat : ((rest).map fun v => v.category).sum ≤ 8) (hls : ls.size = 12) (hd : decode cL_law pc = .ok (.invokestatic idx, 3)) (hd2 : decode cL_law (pc + 3) = .ok (.invokevirtual idx2, 3)) (hc : cells + 41 ≤ R.cells) (hs : slots + 6000 ≤ R.slots)
    (kk : ∀ (H1 : Heap) (locs1 : List Loc) (cells1 slots1 : Nat), cells1 ≤ cells + 41 → slots1 ≤ slots + 6000 → H.size ≤ H1.size → SBx G s.heap.size sb v0 (T ++ amW (cT k) rv) H0 H1 → va_S A s.heap H1 locs1 → W p l e R s m args below meth c H1 locs1 cells1 slots1 Q (F0 m (pc + 6) ls (.ref sb :: rest))) : W p l e R s m args below meth c H locs cells slots Q (F0 m pc ls (.ref r :: .ref (gsK G k) :: .ref sb :: rest)) := by
  have hsf := sf_const X hS hA (k := k) hk
  obtain ⟨hF, v, h1, h2, hne, hsbs⟩ := hx
  have hlt := hsbs.lt
  refine callH_S (As := [.ref (gsK G k), .ref r]) X hS hA (Mv.and SF.mv (Mv.and (Mv.h _) EnvD.mv)) (fun U hU hv => ⟨by rw [hU]; exact hsf.moved hv, by rw [hU]; exact hr, hD.to hS hA hU hv⟩) (fun q h9 => hAn q (by simp only [frA, false_or] at h9; have := hS.1; omega)) lk1 lk1s mvA (ch_amounts (wb := gsV G k) (word := cT k) (rv := rv) hG (cT_asc hk) (by omega) hrv hf) (by decide) rfl rfl hcat1 hls hd (by omega) (by omega) fun ov H5 locs5 qH zH oH hS2 => ?_
  obtain ⟨a, rfl, hq⟩ := qH
  have hsb5 : SBs G sb v T H5 := hsbs.kept (oH _ hlt.1 (fun q => q)) (oH _ hlt.2 (fun q => q))
  have hF5 : Fxe (fun x => x = sb ∨ x = v0) H0 H5 := hF.step zH (fun q a1 _ => oH q (Nat.lt_of_lt_of_le a1 hF.1) (fun q => q))
  have key : ∃ bt, SF a bt (amW (cT k) rv) s H5 ∧ sb ≠ a ∧ sb ≠ bt ∧ v ≠ a ∧ v ≠ bt := by
    rcases hq with ⟨rfl, e9⟩ | ⟨w9, z1, z2, z3⟩
    · have hs29 := sf_const X hS2 hA (k := 29) (by decide)
      have hl := (sf_const X (va_S.rf (A := A)) (fun q h8 h9 => hA q h8 h9) (k := 29) (by decide)).lt
      exact ⟨gsV G 29, by rw [e9]; exact hs29, by omega, by omega, by omega, by omega⟩
    · exact ⟨w9, ST.SF X.2.1.1 (TB_warm (State.WarmedH.refl s) X.1.2.2.2.2) z3, by omega, by omega, by omega, by omega⟩
  obtain ⟨bt, hsg, hab⟩ := key
  exact ap_T X hG hgz hA hAn hS2 hsb hua (by omega) hF5 h1 h2 hne hsb5 hsg hab lk (by decide) hcat hls hd2 (by omega) (by omega) fun H1 locs1 c1 s1 b1 b2 b3 b4 b5 => kk H1 locs1 c1 s1 (by omega) (by omega) (by omega) b4 b5
end
