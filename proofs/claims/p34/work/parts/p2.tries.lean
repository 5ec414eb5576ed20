/-! THE LAW CALLS tries -/
section
variable {G : Gt} {p : Program} {l : Launch} {e : Env} {R : Room} {s : State} {m : MethodId} {args : Array Value} {below : List Frame} {meth : Method} {c : Code} {H : Heap} {locs : List Loc} {cells slots : Nat} {Q : State → Prop}
variable {cc bytes : ByteArray} {nL h h2 maxL n idx cells0 slots0 : Nat} {own : String} {pc : Nat} {ls : Array Slot} {rest st0 : List Value} {y : MethodName} {As : List Value} {A fr : Nat → Prop} {Pf : State → Prop} {Qf : Heap → Prop} {r : Int32} {hh : List (Nat × Nat × Nat × Nat)}
def MLz (y : MethodName) (cc : ByteArray) (maxL : Nat) (hh : List (Nat × Nat × Nat × Nat)) (n : Nat) : Prop := Cond.codeWith y cc maxL (some .int) hh ∈ TB ∧ goodWord (.codeWith y cc maxL (some .int) hh) = true ∧ Cond.initialized y.cls ∈ TB ∧ (y.cls ≠ "java/lang/invoke/MethodHandle" ∧ y.cls ≠ "java/lang/invoke/VarHandle" ∧ (parseMethodDescriptor y.desc).map (fun d => d.parameters.length) = some n) ∧ maxL ≤ 21
theorem call_SZ (X : Cx G p R s m args c cells0 slots0 cc nL own h) (hS : va_S A s.heap H locs) (hA : ∀ q, q < s.heap.size → A q → gA G q) (hM0 : Mv Pf) (hPf : ∀ U : State, U.heap = H → s.vm.Alike U.vm → Pf U) (hfr : ∀ q, frA fr H.size q → A q) (lk : Cond.methodLink own idx y ∈ TB) (hsta : Cond.static y ∈ TB) (mv : MLz y bytes maxL hh n) (hM : CtZ G l y bytes maxL hh h2 As H.size fr Pf r Qf) (hfl : l.stackTraces = false) (hlt : h2 < h) (hst : st0 = As.reverse ++ rest) (hn : As.length = n) (hcat : (rest.map fun v => v.category).sum ≤ 8) (hls : ls.size = nL) (hd : decode cc pc = .ok (.invokestatic idx, 3)) (hc1 : cells + 1 ≤ R.cells) (hc2 : slots + 6 ≤ R.slots)
    (kk : ∀ (H1 : Heap) (locs1 : List Loc), Qf H1 → H.size ≤ H1.size → (∀ q : Nat, q < H.size → ¬ fr q → H1[q]? = H[q]?) → va_S A s.heap H1 locs1 → W p l e R s m args below meth c H1 locs1 (cells + 1) (slots + 6) Q (F0 m (pc + 3) ls (.int r :: rest))) : W p l e R s m args below meth c H locs cells slots Q (F0 m pc ls st0) := by
  obtain ⟨m1, m2, m3, m4, m5⟩ := mv
  have hts := X.1.2.2.2.2
  have good : GoodIn TB [.codeWith y bytes maxL (some .int) hh] := by
    intro w hw
    rw [List.mem_singleton] at hw
    subst hw
    exact ⟨m1, good_of_word m2⟩
  have cw : vx_CSW R s args own idx y bytes maxL (some .int) hh [.codeWith y bytes maxL (some .int) hh] (rmC h2 1 6) 1 6 n := by
    refine ⟨⟨rfl, rfl, by show h2 + 1 ≤ R.frames; have := X.2.2.1; omega, by show 8 + (maxL + 11) + 40 * h2 ≤ R.locals; have := X.2.2.2.1; omega, pay_in hts good, List.mem_cons_self⟩, hts _ m1, hts _ m3, ⟨m4.1, m4.2.1⟩, fun sig h => ?_, hts _ lk, hts _ hsta⟩
    have h2 := m4.2.2
    rw [h] at h2
    exact (Option.some.inj h2).symm
  have hr : va_Run p l e R s m args below meth c H locs cells slots 1 6 (F0 m pc ls st0) rest (fun st oc t => ∃ ov, oc = .returned ov ∧ (ov = some (.int r) ∧ Qf t.heap) ∧ va_F (frA fr H.size) st t) (frA fr H.size) := vx_runSW X.1 (hM hfl) cw ⟨Pre0_blind _ _ (Mv.and (Mv.h fun K => K.size = H.size) hM0), pH_of X hS hA hPf⟩ (g := F0 m pc ls st0) rfl hn hls hst (lv_room (ls := ls) (rest := rest) (pc := pc) (m := m) hcat) hd ⟨hc1, hc2⟩
  refine h_back (Qf := fun ov H => ov = some (.int r) ∧ Qf H) (a := #[]) hS hfr hr ?_
  rintro ov H1 locs1 ⟨rfl, hq⟩ h1 h2 h3
  exact kk H1 locs1 hq h1 h2 h3
end
