/-! THE LAW'S ROUNDS: what the game and the class must agree in -/
/-- isAsked says yes, and leaves K -/
def AskOK (n : Nat) (σ0 τ0 : St) (K : St → St → Prop) : Prop := ∃ (Iq : St → Prop) (dn : Int32) (cF : Nat → Int32) (pl' : Option (List Nat)) (τ : St), Iq σ0 ∧ lookF n τ0 = some (pl', τ) ∧ pf_X11_done 1000 τ = some dn ∧ (∀ G : Gm, gn G = n → ∀ σ, Iq σ → IaQ G τ dn cF σ) ∧ (∀ σ, Iq σ → K σ τ) ∧
  ((∃ pt : List Nat, pl' = some pt ∧ gI τ 1000 3 = 0 ∧ asc pt ∧ IaP Iq (pf_X10_possible 0 0) 1 ∧ IaP Iq (pf_X10_planLength 0 0) (nI pt.length) ∧ IaP Iq (pf_X10_safest 0 0) (gI τ 1000 7) ∧ IaP Iq (pf_X10_state 0 8) 1 ∧ (∀ σ, Iq σ → ∃ σ', pf_X10_best 0 σ = some (0, σ') ∧ Iq σ') ∧ IaP Iq (pf_X10_endings 0 0) (cntE τ 64) ∧ ∀ k, k < pt.length → IaP Iq (pf_X10_planStep 0 0 (nI k)) (tB pt k - 48)) ∨
   ((gI τ 1000 3 ≠ 0 ∨ pl' = none) ∧ IaP Iq (pf_X10_possible 0 0) 0 ∧ IaP Iq (pf_X10_planLength 0 0) (-1) ∧ IaP Iq (pf_X10_safest 0 0) (-1) ∧ IaP Iq (pf_X10_state 0 8) 0 ∧ (∀ σ, Iq σ → ∃ σ', pf_X10_best 0 σ = some (-1, σ') ∧ Iq σ') ∧ IaP Iq (pf_X10_endings 0 0) 0))
/-- the contract of isAsked -/
def CtK (G : Gm) (l : Launch) (z sz : Nat) (τ0 σ0 : St) (K : St → St → Prop) : Prop := CtH (gB G) l yX11_isAsked cX11_isAsked 8 (some .boolean) 16 (mcg 5) (msg 5) [.ref (ga G 1000), .ref z] sz (FRI G z) (fun U => PG G τ0 U.heap ∧ CQ (gB G) z σ0 U.heap ∧ EnvD (gB G) U) (fun ov H => ov = some (.int 1) ∧ ∃ v σ τ, PG (G.pl v) τ H ∧ CQ (gB G) z σ H ∧ K σ τ)
theorem CtH.weak {G : Gt} {l : Launch} {y : MethodName} {cc : ByteArray} {maxL : Nat} {ret : Option FieldType} {h mc ms : Nat} {av : List Value} {sz : Nat} {fr : Nat → Prop} {Pf : State → Prop} {Qf Qf2 : Option Value → Heap → Prop} (hM : CtH G l y cc maxL ret h mc ms av sz fr Pf Qf) (hq : ∀ ov H, Qf ov H → Qf2 ov H) : CtH G l y cc maxL ret h mc ms av sz fr Pf Qf2 := by
  unfold CtH Met at hM ⊢
  exact MetFree.mono hM (fun _ _ h => h) (fun _ _ _ _ _ h => h) (fun a s o s' _ h => by
    obtain ⟨⟨ov, h1, h2, h3⟩, h4⟩ := h
    exact ⟨⟨ov, h1, hq _ _ h2, h3⟩, h4⟩)
theorem ch_askedK {G : Gm} {l : Launch} {z sz : Nat} {τ0 σ0 : St} {K : St → St → Prop} (hG : AllA (gB G)) (hgz0 : gz (gB G) ≤ z) (hsep : ∀ i, kv G i ≠ 99 → ga G i < z ∨ z + 609 ≤ ga G i) (h : AskOK (gn G) σ0 τ0 K) : CtK G l z sz τ0 σ0 K := by
  obtain ⟨Iq, dn, cF, pl', τ, hI0, hlook, hdn, hQ, hK, h⟩ := h
  rcases h with ⟨pt, rfl, hst, hpa, q1, q2, q3, q4, q5, q6, q7⟩ | ⟨hst, q1, q2, q3, q4, q5, q6⟩
  · refine CtH.weak (ch_asked1 hG hgz0 hlook hst hpa hI0 hsep hdn (hQ G rfl) q1 q2 q3 q4 q5 q6 q7) ?_
    rintro ov H ⟨rfl, v, σ, h1, h2, h3⟩
    exact ⟨rfl, v, σ, τ, h1, h2, hK σ h3⟩
  · refine CtH.weak (ch_asked0 hG hgz0 hlook hst hI0 hsep hdn (hQ G rfl) q1 q2 q3 q4 q5 q6) ?_
    rintro ov H ⟨rfl, v, σ, h1, h2, h3⟩
    exact ⟨rfl, v, σ, τ, h1, h2, hK σ h3⟩
section
variable {G : Gm} {p : Program} {l : Launch} {e : Env} {R : Room} {s : State} {m : MethodId} {args : Array Value} {below : List Frame} {meth : Method} {c : Code} {H : Heap} {locs : List Loc} {cells slots : Nat} {Q : State → Prop}
variable {cc bytes : ByteArray} {nL h h2 maxL n idx cells0 slots0 : Nat} {own : String} {pc : Nat} {ls : Array Slot} {rest st0 : List Value} {y : MethodName} {ret : Option FieldType} {As : List Value} {ov : Option Value} {A : Nat → Prop} {τ τ' : St}
/-- a method that changes the game is called -/
theorem callW_V (X : Cx (gB G) p R s m args c cells0 slots0 cc nL own h) (hS : va_S A s.heap H locs) (hA : ∀ q, q < s.heap.size → A q → gA (gB G) q) (hP : PG G τ H) (hgA : ∀ i, kv G i ≠ 99 → A (ga G i)) (lk : Cond.methodLink own idx y ∈ TB) (hin : Cond.instanceMethod y ∈ TB) (hse : Cond.selects RX11 y y ∈ TB) (mv : MV y bytes maxL ret n) (hM : CtW G l y bytes maxL ret h2 (.ref (ga G 1000) :: As) τ ov τ') (hh : h2 < h) (hst : st0 = As.reverse ++ .ref (ga G 1000) :: rest) (hn : As.length = n) (hcat : (rest.map fun v => v.category).sum ≤ 8) (hls : ls.size = nL) (hd : decode cc pc = .ok (.invokevirtual idx, 3)) (hc : cells ≤ R.cells) (hs : slots ≤ R.slots)
    (kk : ∀ (H1 : Heap) (locs1 : List Loc), PG G τ' H1 → H.size ≤ H1.size → (∀ q : Nat, q < H.size → ¬ AG G q → H1[q]? = H[q]?) → va_S A s.heap H1 locs1 → W p l e R s m args below meth c H1 locs1 cells slots Q (F0 m (pc + 3) ls (ov.toList ++ rest))) : W p l e R s m args below meth c H locs cells slots Q (F0 m pc ls st0) := by
  have hr : va_Run p l e R s m args below meth c H locs cells slots 0 0 (F0 m pc ls st0) rest (fun st oc t => oc = .returned ov ∧ PG G τ' t.heap ∧ va_F (AG G) st t) (AG G) := va_runV X.1 hM ⟨cB_of X lk mv hh, X.1.2.2.2.2 _ hin, X.1.2.2.2.2 _ hse⟩ ⟨Pre0_blind _ _ (Mv.h fun H => PG G τ H), p_recv X (hP.a20 (kv_1000 _)) (r := (RX11, TX11, 9)) rfl, pR_of X hS hA (fun U hU _ => by rw [hU]; exact hP)⟩ rfl hn hls hst (lv_room (ls := ls) (rest := rest) (pc := pc) (m := m) hcat) hd ⟨hc, hs⟩
  have hzA : ∀ q, AG G q → A q := fun q hq => by obtain ⟨i, hi, rfl⟩ := hq; exact hgA i hi
  intro T hT X1
  obtain ⟨v, st₀, t, T', L, h0, X', hL, e1, e2, ⟨hv, hq, hz, hk⟩, st⟩ := hr T hT X1
  cases hv
  rw [h0] at hz hk
  have hz1 : H.size ≤ T'.heap.size := by rw [e1]; exact hz
  have hk1 : ∀ q : Nat, q < H.size → ¬ AG G q → T'.heap[q]? = H[q]? := fun q h1 h2 => by rw [e1]; exact hk q h1 h2
  obtain ⟨t2, a1, b1⟩ := kk T'.heap (locs ++ L) (by rw [e1]; exact hq) hz1 hk1 ⟨Nat.le_trans hS.1 hz1, fun q h1 h2 => by rw [hk1 q (Nat.lt_of_lt_of_le h1 hS.1) (fun h3 => h2 (hzA q h3))]; exact hS.2.1 q h1 h2, fun q hq => by
    rcases List.mem_append.mp hq with h | h
    · exact hS.2.2 q h
    · exact hzA _ (hL q h)⟩ T' rfl X'
  exact ⟨t2, st t2 a1, b1⟩
end
