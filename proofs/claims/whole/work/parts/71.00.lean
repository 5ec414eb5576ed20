theorem va_up_id {α : Type} (f : Nat → α) (k : Nat) : va_up f k (f k) = f := by
  funext j
  by_cases h : j = k
  · subst h; rw [va_up_self]
  · rw [va_up_ne _ _ h]
theorem va_up_up {α : Type} (f : Nat → α) (k : Nat) (x y : α) : va_up (va_up f k x) k y = va_up f k y := by
  funext j
  by_cases h : j = k
  · subst h; rw [va_up_self, va_up_self]
  · rw [va_up_ne _ _ h, va_up_ne _ _ h, va_up_ne _ _ h]
theorem o_swap {f : Nat → va_E} {a q j : Nat} {x y : va_E} (h1 : j ≠ q) (_ : a ≠ q) : va_up (va_up f q y) a x j = va_up f a x j := by
  by_cases h : j = a
  · subst h; rw [va_up_self, va_up_self]
  · rw [va_up_ne _ _ h, va_up_ne _ _ h, va_up_ne _ _ h1]
theorem o_swap2 {f : Nat → va_E} {a q j : Nat} {x y z : va_E} (h1 : a ≠ q) : va_up (va_up (va_up f q y) a x) q z j = va_up (va_up f q z) a x j := by
  by_cases h : j = a
  · subst h; rw [va_up_self, va_up_ne _ _ h1, va_up_self]
  · by_cases h2 : j = q
    · subst h2; rw [va_up_self, va_up_ne _ _ h, va_up_self]
    · rw [va_up_ne _ _ h2, va_up_ne _ _ h, va_up_ne _ _ h2, va_up_ne _ _ h, va_up_ne _ _ h2]
theorem o_swap3 {f : Nat → va_E} {a q : Nat} {x y : va_E} (h1 : a ≠ q) : va_up (va_up f q y) a x = va_up (va_up f a x) q y := by
  funext j
  by_cases h : j = a
  · subst h; rw [va_up_self, va_up_ne _ _ h1, va_up_self]
  · by_cases h2 : j = q
    · subst h2; rw [va_up_self, va_up_ne _ _ h, va_up_self]
    · rw [va_up_ne _ _ h, va_up_ne _ _ h2, va_up_ne _ _ h2, va_up_ne _ _ h]
theorem CW.fix {G : Gt} {B : Nat → va_E} {a n q N : Nat} {cA : ClassId} {f g : Nat → Option Nat} {s : State} {H : Heap} {locs : List Loc} (hW : CW G B a n s H locs) (hq : q < n) (hB : B (a + q) = .inl (cA, N, .inr (.inr (.inr (.inr f))))) (hf : ∀ j, j < N → f j = g j) : CW G (va_up B (a + q) (.inl (cA, N, .inr (.inr (.inr (.inr g)))))) a n s H locs := by
  obtain ⟨w1, w2, w3⟩ := hW
  refine ⟨w1, fun k x hx => ?_, w3⟩
  obtain ⟨hk, rfl⟩ := wlE_key G _ hx
  have h := w2 k _ (wlE_at G B hk)
  by_cases hkq : k = q
  · subst hkq
    rw [va_up_self]
    rw [hB] at h
    have h2 : H[gz G + (a + k)]? = some (vp_cell cA (N, .inr (.inr (.inr (.inr f))))) := h
    show H[gz G + (a + k)]? = some (vp_cell cA (N, .inr (.inr (.inr (.inr g)))))
    rw [h2, vp_cell_q, vp_cell_q]
    have e : (Array.ofFn (n := N) fun j => va_rf (f j.val)) = Array.ofFn (n := N) fun j => va_rf (g j.val) := congrArg _ (funext fun j => by rw [hf j.val j.isLt])
    unfold arrV
    rw [e]
  · rw [va_up_ne _ _ (by omega)]
    exact h
section OG
variable {G : Gt} {p : Program} {l : Launch} {e : Env} {R : Room} {s : State} {m : MethodId} {args : Array Value} {below : List Frame} {meth : Method} {c : Code} {H : Heap} {locs : List Loc} {cells slots : Nat} {Q : State → Prop}
variable {cc : ByteArray} {nL h a n idx : Nat} {own C : String} {pc : Nat} {ls : Array Slot} {rest : List Value} {F : Nat → va_E}
theorem o_get {T : u_T} {N ci k : Nat} {fs : List Value} (X : CI G p R s m args c cc nL own h a) (hW : CW G (va_up F a (.inr (ci, fs))) a n s H locs) (hn : 0 < n) (hin : ∀ w ∈ u_ws C T N, w ∈ TB) (hc : vwCl[ci]? = some (C, T, N)) (hk : k < N) (hlink : Cond.fieldLink own idx (T k).1 (T k).2.1 (T k).2.2.1 ∈ TB) {v : Value} (hv : fs[k]? = some v) (hdg : decode cc pc = .ok (.getfield idx, 3))
    (kk : W p l e R s m args below meth c H locs cells slots Q (F0 m (pc + 3) ls (v :: rest))) : W p l e R s m args below meth c H locs cells slots Q (F0 m pc ls (.ref (gz G + a) :: rest)) :=
  va_get (D := gDD G) (ci := ci) (C := C) (T := T) (N := N) X.1.1 X.1.2.1 X.1.2.2.2.2 hin X.1.2.2.2.1 X.2.1.1 hW.2.1 0 (by rw [wlE_at G _ hn, Nat.add_zero, va_up_self]) hc k hk (X.1.2.2.2.2 _ hlink) (fun _ h9 => h9) hv hdg kk
end OG
theorem i_1_50 : Cond.methodLink RX3 3 objectInit ∈ TB := mem_t1 50 (by decide +kernel)
theorem i_1_51 : Cond.fieldLink RX3 9 "QuestLedger$Quest" "stepCount" "I" ∈ TB := mem_t1 51 (by decide +kernel)
theorem i_1_55 : Cond.fieldLink RX3 15 "QuestLedger$Quest" "status" "I" ∈ TB := mem_t1 55 (by decide +kernel)
theorem i_1_59 : Cond.fieldLink RX3 18 "QuestLedger$Quest" "done" "I" ∈ TB := mem_t1 59 (by decide +kernel)
theorem i_1_63 : Cond.fieldLink RX3 21 "QuestLedger$Quest" "rewardItem" "I" ∈ TB := mem_t1 63 (by decide +kernel)
theorem i_1_67 : Cond.fieldLink RX3 24 "QuestLedger$Quest" "rewardAmount" "I" ∈ TB := mem_t1 67 (by decide +kernel)
theorem i_1_71 : Cond.fieldLink RX3 27 "QuestLedger$Quest" "goal" "J" ∈ TB := mem_t1 71 (by decide +kernel)
theorem i_1_133 : Cond.arrayClass (newarray.typeOf .int) ∈ TB := mem_t1 133 (by decide +kernel)
theorem i_1_74 : Cond.fieldLink RX3 31 "QuestLedger$Quest" "risk" "[I" ∈ TB := mem_t1 74 (by decide +kernel)
theorem i_1_78 : Cond.fieldLink RX3 35 "QuestLedger$Quest" "limit" "[I" ∈ TB := mem_t1 78 (by decide +kernel)
theorem i_1_81 : Cond.fieldLink RX3 38 "QuestLedger$Quest" "fails" "[I" ∈ TB := mem_t1 81 (by decide +kernel)
theorem i_1_84 : Cond.fieldLink RX3 41 "QuestLedger$Quest" "ahead" "[I" ∈ TB := mem_t1 84 (by decide +kernel)
theorem i_1_87 : Cond.fieldLink RX3 44 "QuestLedger$Quest" "costly" "[I" ∈ TB := mem_t1 87 (by decide +kernel)
theorem i_1_91 : Cond.fieldLink RX3 47 "QuestLedger$Quest" "uses" "[I" ∈ TB := mem_t1 91 (by decide +kernel)
theorem i_1_96 : Cond.fieldLink RX3 50 "QuestLedger$Quest" "needs" "[I" ∈ TB := mem_t1 96 (by decide +kernel)
theorem i_1_99 : Cond.fieldLink RX3 53 "QuestLedger$Quest" "gives" "[I" ∈ TB := mem_t1 99 (by decide +kernel)
theorem i_1_43 : Cond.methodLink RX2 3 objectInit ∈ TB := mem_t1 43 (by decide +kernel)
theorem i_1_134 : Cond.fieldLink RX2 9 "QuestLedger$Ledger" "stock" "[I" ∈ TB := mem_t1 134 (by decide +kernel)
theorem i_1_137 : Cond.fieldLink RX2 15 "QuestLedger$Ledger" "queue" "[I" ∈ TB := mem_t1 137 (by decide +kernel)
theorem i_1_138 : Cond.fieldLink RX2 18 "QuestLedger$Ledger" "queueLength" "I" ∈ TB := mem_t1 138 (by decide +kernel)
theorem i_1_140 : Cond.fieldLink RX2 22 "QuestLedger$Ledger" "seed" "I" ∈ TB := mem_t1 140 (by decide +kernel)
theorem i_1_44 : Cond.classLink RX2 25 "QuestLedger$Quest" ∈ TB := mem_t1 44 (by decide +kernel)
theorem i_1_143 : Cond.fieldLink RX2 27 "QuestLedger$Ledger" "quests" "[LQuestLedger$Quest;" ∈ TB := mem_t1 143 (by decide +kernel)
theorem i_1_146 : Cond.fieldLink RX2 31 "QuestLedger$Ledger" "questCount" "I" ∈ TB := mem_t1 146 (by decide +kernel)
theorem i_1_149 : Cond.fieldLink RX2 34 "QuestLedger$Ledger" "worthCode" "[I" ∈ TB := mem_t1 149 (by decide +kernel)
theorem i_1_151 : Cond.fieldLink RX2 37 "QuestLedger$Ledger" "worthLength" "I" ∈ TB := mem_t1 151 (by decide +kernel)
theorem i_1_46 : Cond.instantiable "QuestLedger$Quest" 14 ∈ TB := mem_t1 46 (by decide +kernel)
theorem i_1_3 : Cond.initialized RX3 ∈ TB := mem_t1 3 (by decide +kernel)
theorem i_1_47 : Cond.methodLinkNest RX2 40 yX3_init "QuestLedger" ∈ TB := mem_t1 47 (by decide +kernel)
theorem i_1_48 : Cond.instanceMethod yX3_init ∈ TB := mem_t1 48 (by decide +kernel)
theorem i_1_176 : Cond.methodLink RX1 3 objectInit ∈ TB := mem_t1 176 (by decide +kernel)
theorem i_1_177 : Cond.classLink RX1 9 "QuestLedger$Ledger" ∈ TB := mem_t1 177 (by decide +kernel)
theorem i_1_180 : Cond.fieldLink RX1 11 "QuestLedger$History" "past" "[LQuestLedger$Ledger;" ∈ TB := mem_t1 180 (by decide +kernel)
theorem i_1_181 : Cond.fieldLink RX1 17 "QuestLedger$History" "next" "I" ∈ TB := mem_t1 181 (by decide +kernel)
theorem i_1_182 : Cond.fieldLink RX1 21 "QuestLedger$History" "count" "I" ∈ TB := mem_t1 182 (by decide +kernel)
theorem i_1_39 : Cond.instantiable "QuestLedger$Ledger" 8 ∈ TB := mem_t1 39 (by decide +kernel)
theorem i_1_2 : Cond.initialized RX2 ∈ TB := mem_t1 2 (by decide +kernel)
theorem i_1_179 : Cond.methodLink RX1 24 yX2_init ∈ TB := mem_t1 179 (by decide +kernel)
theorem i_1_41 : Cond.instanceMethod yX2_init ∈ TB := mem_t1 41 (by decide +kernel)
theorem i_1_202 : Cond.methodLink RX6 3 objectInit ∈ TB := mem_t1 202 (by decide +kernel)
theorem i_1_203 : Cond.classLink RX6 9 "QuestLedger$Token" ∈ TB := mem_t1 203 (by decide +kernel)
theorem i_1_205 : Cond.fieldLink RX6 11 "QuestLedger$Tokens" "kinds" "[LQuestLedger$Token;" ∈ TB := mem_t1 205 (by decide +kernel)
theorem i_1_206 : Cond.fieldLink RX6 17 "QuestLedger$Tokens" "starts" "[I" ∈ TB := mem_t1 206 (by decide +kernel)
theorem i_1_207 : Cond.fieldLink RX6 21 "QuestLedger$Tokens" "numbers" "[I" ∈ TB := mem_t1 207 (by decide +kernel)
theorem i_1_208 : Cond.fieldLink RX6 24 "QuestLedger$Tokens" "count" "I" ∈ TB := mem_t1 208 (by decide +kernel)
theorem i_1_209 : Cond.fieldLink RX6 28 "QuestLedger$Tokens" "place" "I" ∈ TB := mem_t1 209 (by decide +kernel)
theorem i_1_210 : Cond.fieldLink RX6 31 "QuestLedger$Tokens" "error" "I" ∈ TB := mem_t1 210 (by decide +kernel)
theorem i_1_212 : Cond.fieldLink RX6 34 "QuestLedger$Tokens" "errorOffset" "I" ∈ TB := mem_t1 212 (by decide +kernel)
theorem i_1_234 : Cond.methodLink RX0 3 objectInit ∈ TB := mem_t1 234 (by decide +kernel)
theorem i_1_239 : Cond.arrayClass (newarray.typeOf .long) ∈ TB := mem_t1 239 (by decide +kernel)
theorem i_1_235 : Cond.fieldLink RX0 11 "QuestLedger$GoalReader" "atLeast" "[J" ∈ TB := mem_t1 235 (by decide +kernel)
theorem i_2_5 : Cond.methodLink RX9 3 objectInit ∈ TB := mem_t2 5 (by decide +kernel)
theorem i_1_196 : Cond.methodLink RX4 3 objectInit ∈ TB := mem_t1 196 (by decide +kernel)
theorem i_1_197 : Cond.classLink RX4 9 "QuestLedger$Tokens" ∈ TB := mem_t1 197 (by decide +kernel)
theorem i_1_198 : Cond.instantiable "QuestLedger$Tokens" 7 ∈ TB := mem_t1 198 (by decide +kernel)
theorem i_1_6 : Cond.initialized RX6 ∈ TB := mem_t1 6 (by decide +kernel)
theorem i_1_199 : Cond.methodLinkNest RX4 11 yX6_init "QuestLedger" ∈ TB := mem_t1 199 (by decide +kernel)
theorem i_1_200 : Cond.instanceMethod yX6_init ∈ TB := mem_t1 200 (by decide +kernel)
theorem i_2_7 : Cond.fieldLink RX4 12 "QuestLedger$SetupReader" "tokens" "LQuestLedger$Tokens;" ∈ TB := mem_t2 7 (by decide +kernel)
theorem i_1_229 : Cond.classLink RX4 18 "QuestLedger$GoalReader" ∈ TB := mem_t1 229 (by decide +kernel)
theorem i_1_230 : Cond.instantiable "QuestLedger$GoalReader" 1 ∈ TB := mem_t1 230 (by decide +kernel)
theorem i_1_7 : Cond.initialized RX0 ∈ TB := mem_t1 7 (by decide +kernel)
theorem i_1_231 : Cond.methodLinkNest RX4 20 yX0_init "QuestLedger" ∈ TB := mem_t1 231 (by decide +kernel)
theorem i_1_232 : Cond.instanceMethod yX0_init ∈ TB := mem_t1 232 (by decide +kernel)
theorem i_2_8 : Cond.fieldLink RX4 21 "QuestLedger$SetupReader" "goals" "LQuestLedger$GoalReader;" ∈ TB := mem_t2 8 (by decide +kernel)
theorem i_2_0 : Cond.classLink RX4 25 "QuestLedger$WorthReader" ∈ TB := mem_t2 0 (by decide +kernel)
theorem i_2_1 : Cond.instantiable "QuestLedger$WorthReader" 0 ∈ TB := mem_t2 1 (by decide +kernel)
theorem i_1_8 : Cond.initialized RX9 ∈ TB := mem_t1 8 (by decide +kernel)
theorem i_2_2 : Cond.methodLinkNest RX4 27 yX9_init "QuestLedger" ∈ TB := mem_t2 2 (by decide +kernel)
theorem i_2_3 : Cond.instanceMethod yX9_init ∈ TB := mem_t2 3 (by decide +kernel)
theorem i_2_9 : Cond.fieldLink RX4 28 "QuestLedger$SetupReader" "worths" "LQuestLedger$WorthReader;" ∈ TB := mem_t2 9 (by decide +kernel)
theorem i_2_10 : Cond.fieldLink RX4 32 "QuestLedger$SetupReader" "stockTold" "I" ∈ TB := mem_t2 10 (by decide +kernel)
theorem i_2_11 : Cond.fieldLink RX4 36 "QuestLedger$SetupReader" "seedTold" "Z" ∈ TB := mem_t2 11 (by decide +kernel)
theorem i_2_12 : Cond.fieldLink RX4 40 "QuestLedger$SetupReader" "worthTold" "Z" ∈ TB := mem_t2 12 (by decide +kernel)
theorem i_2_31 : Cond.methodLink RX7 3 objectInit ∈ TB := mem_t2 31 (by decide +kernel)
theorem i_2_32 : Cond.fieldLink RX7 9 "QuestLedger$Ways" "stocks" "[I" ∈ TB := mem_t2 32 (by decide +kernel)
theorem i_2_33 : Cond.fieldLink RX7 15 "QuestLedger$Ways" "stepsToTry" "[I" ∈ TB := mem_t2 33 (by decide +kernel)
theorem i_2_34 : Cond.fieldLink RX7 18 "QuestLedger$Ways" "toGo" "[I" ∈ TB := mem_t2 34 (by decide +kernel)
theorem i_2_35 : Cond.fieldLink RX7 21 "QuestLedger$Ways" "reached" "J" ∈ TB := mem_t2 35 (by decide +kernel)
theorem i_2_50 : Cond.methodLink RX8 3 objectInit ∈ TB := mem_t2 50 (by decide +kernel)
theorem i_2_51 : Cond.fieldLink RX8 9 "QuestLedger$WorthMeter" "stack" "[I" ∈ TB := mem_t2 51 (by decide +kernel)
theorem i_2_52 : Cond.fieldLink RX8 15 "QuestLedger$WorthMeter" "height" "I" ∈ TB := mem_t2 52 (by decide +kernel)
theorem i_2_53 : Cond.fieldLink RX8 19 "QuestLedger$WorthMeter" "seen" "[I" ∈ TB := mem_t2 53 (by decide +kernel)
theorem i_1_35 : Cond.methodLink RX10 3 objectInit ∈ TB := mem_t1 35 (by decide +kernel)
theorem i_2_61 : Cond.fieldLink RX10 9 "QuestLedger" "buffer" "[I" ∈ TB := mem_t2 61 (by decide +kernel)
theorem i_2_62 : Cond.fieldLink RX10 13 "QuestLedger" "bufferLength" "I" ∈ TB := mem_t2 62 (by decide +kernel)
theorem i_2_63 : Cond.fieldLink RX10 17 "QuestLedger" "latestErrorOffset" "I" ∈ TB := mem_t2 63 (by decide +kernel)
theorem i_1_38 : Cond.classLink RX10 20 "QuestLedger$Ledger" ∈ TB := mem_t1 38 (by decide +kernel)
theorem i_1_40 : Cond.methodLink RX10 22 yX2_init ∈ TB := mem_t1 40 (by decide +kernel)
theorem i_2_64 : Cond.fieldLink RX10 23 "QuestLedger" "now" "LQuestLedger$Ledger;" ∈ TB := mem_t2 64 (by decide +kernel)
theorem i_2_65 : Cond.fieldLink RX10 27 "QuestLedger" "draft" "LQuestLedger$Ledger;" ∈ TB := mem_t2 65 (by decide +kernel)
theorem i_1_171 : Cond.classLink RX10 30 "QuestLedger$History" ∈ TB := mem_t1 171 (by decide +kernel)
theorem i_1_172 : Cond.instantiable "QuestLedger$History" 3 ∈ TB := mem_t1 172 (by decide +kernel)
theorem i_1_4 : Cond.initialized RX1 ∈ TB := mem_t1 4 (by decide +kernel)
theorem i_1_173 : Cond.methodLink RX10 32 yX1_init ∈ TB := mem_t1 173 (by decide +kernel)
theorem i_1_174 : Cond.instanceMethod yX1_init ∈ TB := mem_t1 174 (by decide +kernel)
theorem i_2_66 : Cond.fieldLink RX10 33 "QuestLedger" "history" "LQuestLedger$History;" ∈ TB := mem_t2 66 (by decide +kernel)
theorem i_1_191 : Cond.classLink RX10 37 "QuestLedger$SetupReader" ∈ TB := mem_t1 191 (by decide +kernel)
theorem i_1_192 : Cond.instantiable "QuestLedger$SetupReader" 6 ∈ TB := mem_t1 192 (by decide +kernel)
theorem i_1_5 : Cond.initialized RX4 ∈ TB := mem_t1 5 (by decide +kernel)
theorem i_1_193 : Cond.methodLinkNest RX10 39 yX4_init "QuestLedger" ∈ TB := mem_t1 193 (by decide +kernel)
theorem i_1_194 : Cond.instanceMethod yX4_init ∈ TB := mem_t1 194 (by decide +kernel)
theorem i_2_67 : Cond.fieldLink RX10 40 "QuestLedger" "reader" "LQuestLedger$SetupReader;" ∈ TB := mem_t2 67 (by decide +kernel)
theorem i_2_26 : Cond.classLink RX10 44 "QuestLedger$Ways" ∈ TB := mem_t2 26 (by decide +kernel)
theorem i_2_27 : Cond.instantiable "QuestLedger$Ways" 4 ∈ TB := mem_t2 27 (by decide +kernel)
theorem i_1_9 : Cond.initialized RX7 ∈ TB := mem_t1 9 (by decide +kernel)
theorem i_2_28 : Cond.methodLinkNest RX10 46 yX7_init "QuestLedger" ∈ TB := mem_t2 28 (by decide +kernel)
theorem i_2_29 : Cond.instanceMethod yX7_init ∈ TB := mem_t2 29 (by decide +kernel)
theorem i_2_68 : Cond.fieldLink RX10 47 "QuestLedger" "ways" "LQuestLedger$Ways;" ∈ TB := mem_t2 68 (by decide +kernel)
theorem i_2_45 : Cond.classLink RX10 51 "QuestLedger$WorthMeter" ∈ TB := mem_t2 45 (by decide +kernel)
theorem i_2_46 : Cond.instantiable "QuestLedger$WorthMeter" 3 ∈ TB := mem_t2 46 (by decide +kernel)
theorem i_1_10 : Cond.initialized RX8 ∈ TB := mem_t1 10 (by decide +kernel)
theorem i_2_47 : Cond.methodLinkNest RX10 53 yX8_init "QuestLedger" ∈ TB := mem_t2 47 (by decide +kernel)
theorem i_2_48 : Cond.instanceMethod yX8_init ∈ TB := mem_t2 48 (by decide +kernel)
theorem i_2_69 : Cond.fieldLink RX10 54 "QuestLedger" "worthMeter" "LQuestLedger$WorthMeter;" ∈ TB := mem_t2 69 (by decide +kernel)
theorem i_6_4 : Cond.methodLink RX11 1 objectInit ∈ TB := mem_t6 4 (by decide +kernel)
theorem i_6_5 : Cond.constant RX11 7 39330 ∈ TB := mem_t6 5 (by decide +kernel)
theorem i_6_7 : Cond.fieldLink RX11 8 "QuestLedgerModel" "rows" "[I" ∈ TB := mem_t6 7 (by decide +kernel)
theorem i_6_8 : Cond.fieldLink RX11 14 "QuestLedgerModel" "read" "[I" ∈ TB := mem_t6 8 (by decide +kernel)
theorem i_6_11 : Cond.fieldLink RX11 17 "QuestLedgerModel" "held" "[I" ∈ TB := mem_t6 11 (by decide +kernel)
theorem i_6_12 : Cond.fieldLink RX11 20 "QuestLedgerModel" "by" "[I" ∈ TB := mem_t6 12 (by decide +kernel)
theorem i_6_13 : Cond.fieldLink RX11 23 "QuestLedgerModel" "fewest" "[I" ∈ TB := mem_t6 13 (by decide +kernel)
theorem i_6_14 : Cond.fieldLink RX11 26 "QuestLedgerModel" "safestBy" "[I" ∈ TB := mem_t6 14 (by decide +kernel)
theorem i_6_16 : Cond.fieldLink RX11 29 "QuestLedgerModel" "plan" "[I" ∈ TB := mem_t6 16 (by decide +kernel)
theorem i_6_18 : Cond.fieldLink RX11 32 "QuestLedgerModel" "pile" "[J" ∈ TB := mem_t6 18 (by decide +kernel)
theorem i_6_19 : Cond.fieldLink RX11 36 "QuestLedgerModel" "text" "[I" ∈ TB := mem_t6 19 (by decide +kernel)
theorem i_6_24 : Cond.fieldLink RX11 39 "QuestLedgerModel" "faultAt" "I" ∈ TB := mem_t6 24 (by decide +kernel)
theorem i_6_88 : Cond.arrayClass (newarray.typeOf .boolean) ∈ TB := mem_t6 88 (by decide +kernel)
theorem i_6_32 : Cond.fieldLink RX11 43 "QuestLedgerModel" "reached" "[Z" ∈ TB := mem_t6 32 (by decide +kernel)
theorem i_1_233 : Cond.code yX0_init cX0_init 1 none ∈ TB := mem_t1 233 (by decide +kernel)
theorem i_1_34 : Cond.code yX10_init cX10_init 1 none ∈ TB := mem_t1 34 (by decide +kernel)
theorem i_1_1 : Cond.initialized RX10 ∈ TB := mem_t1 1 (by decide +kernel)
theorem i_6_3 : Cond.code yX11_init cX11_init 1 none ∈ TB := mem_t6 3 (by decide +kernel)
theorem i_1_11 : Cond.initialized RX11 ∈ TB := mem_t1 11 (by decide +kernel)
theorem i_1_175 : Cond.code yX1_init cX1_init 2 none ∈ TB := mem_t1 175 (by decide +kernel)
theorem i_1_42 : Cond.code yX2_init cX2_init 2 none ∈ TB := mem_t1 42 (by decide +kernel)
theorem i_1_49 : Cond.code yX3_init cX3_init 1 none ∈ TB := mem_t1 49 (by decide +kernel)
theorem i_1_195 : Cond.code yX4_init cX4_init 1 none ∈ TB := mem_t1 195 (by decide +kernel)
theorem i_1_201 : Cond.code yX6_init cX6_init 1 none ∈ TB := mem_t1 201 (by decide +kernel)
theorem i_2_30 : Cond.code yX7_init cX7_init 1 none ∈ TB := mem_t2 30 (by decide +kernel)
theorem i_2_49 : Cond.code yX8_init cX8_init 1 none ∈ TB := mem_t2 49 (by decide +kernel)
theorem i_2_4 : Cond.code yX9_init cX9_init 1 none ∈ TB := mem_t2 4 (by decide +kernel)
theorem ki_X3_1 {i : Nat} (h : kd i = 3) : kd (i + 1) = 11 ∧ alen (i + 1) = 6 := kd_all (P := fun i => kd i = 3 → kd (i + 1) = 11 ∧ alen (i + 1) = 6) (by decide +kernel) (by rw [h]; decide) h
theorem ki_X3_2 {i : Nat} (h : kd i = 3) : kd (i + 2) = 11 ∧ alen (i + 2) = 6 := kd_all (P := fun i => kd i = 3 → kd (i + 2) = 11 ∧ alen (i + 2) = 6) (by decide +kernel) (by rw [h]; decide) h
theorem ki_X3_3 {i : Nat} (h : kd i = 3) : kd (i + 3) = 11 ∧ alen (i + 3) = 6 := kd_all (P := fun i => kd i = 3 → kd (i + 3) = 11 ∧ alen (i + 3) = 6) (by decide +kernel) (by rw [h]; decide) h
theorem ki_X3_4 {i : Nat} (h : kd i = 3) : kd (i + 4) = 11 ∧ alen (i + 4) = 6 := kd_all (P := fun i => kd i = 3 → kd (i + 4) = 11 ∧ alen (i + 4) = 6) (by decide +kernel) (by rw [h]; decide) h
theorem ki_X3_5 {i : Nat} (h : kd i = 3) : kd (i + 5) = 11 ∧ alen (i + 5) = 6 := kd_all (P := fun i => kd i = 3 → kd (i + 5) = 11 ∧ alen (i + 5) = 6) (by decide +kernel) (by rw [h]; decide) h
theorem ki_X3_6 {i : Nat} (h : kd i = 3) : kd (i + 6) = 11 ∧ alen (i + 6) = 48 := kd_all (P := fun i => kd i = 3 → kd (i + 6) = 11 ∧ alen (i + 6) = 48) (by decide +kernel) (by rw [h]; decide) h
theorem ki_X3_7 {i : Nat} (h : kd i = 3) : kd (i + 7) = 11 ∧ alen (i + 7) = 48 := kd_all (P := fun i => kd i = 3 → kd (i + 7) = 11 ∧ alen (i + 7) = 48) (by decide +kernel) (by rw [h]; decide) h
theorem ki_X3_8 {i : Nat} (h : kd i = 3) : kd (i + 8) = 11 ∧ alen (i + 8) = 48 := kd_all (P := fun i => kd i = 3 → kd (i + 8) = 11 ∧ alen (i + 8) = 48) (by decide +kernel) (by rw [h]; decide) h
theorem ki_X2_1 {i : Nat} (h : kd i = 2) : kd (i + 1) = 11 ∧ alen (i + 1) = 8 := kd_all (P := fun i => kd i = 2 → kd (i + 1) = 11 ∧ alen (i + 1) = 8) (by decide +kernel) (by rw [h]; decide) h
theorem ki_X2_2 {i : Nat} (h : kd i = 2) : kd (i + 2) = 11 ∧ alen (i + 2) = 40 := kd_all (P := fun i => kd i = 2 → kd (i + 2) = 11 ∧ alen (i + 2) = 40) (by decide +kernel) (by rw [h]; decide) h
theorem ki_X2_4 {i : Nat} (h : kd i = 2) : kd (i + 4) = 11 ∧ alen (i + 4) = 800 := kd_all (P := fun i => kd i = 2 → kd (i + 4) = 11 ∧ alen (i + 4) = 800) (by decide +kernel) (by rw [h]; decide) h
theorem ki_X2_5 {i : Nat} (h : kd i = 2) : kd (i + 5) = 3 ∧ alen (i + 5) = 0 := kd_all (P := fun i => kd i = 2 → kd (i + 5) = 3 ∧ alen (i + 5) = 0) (by decide +kernel) (by rw [h]; decide) h
theorem ki_X2_14 {i : Nat} (h : kd i = 2) : kd (i + 14) = 3 ∧ alen (i + 14) = 0 := kd_all (P := fun i => kd i = 2 → kd (i + 14) = 3 ∧ alen (i + 14) = 0) (by decide +kernel) (by rw [h]; decide) h
theorem ki_X2_23 {i : Nat} (h : kd i = 2) : kd (i + 23) = 3 ∧ alen (i + 23) = 0 := kd_all (P := fun i => kd i = 2 → kd (i + 23) = 3 ∧ alen (i + 23) = 0) (by decide +kernel) (by rw [h]; decide) h
theorem ki_X2_32 {i : Nat} (h : kd i = 2) : kd (i + 32) = 3 ∧ alen (i + 32) = 0 := kd_all (P := fun i => kd i = 2 → kd (i + 32) = 3 ∧ alen (i + 32) = 0) (by decide +kernel) (by rw [h]; decide) h
theorem ki_X2_41 {i : Nat} (h : kd i = 2) : kd (i + 41) = 3 ∧ alen (i + 41) = 0 := kd_all (P := fun i => kd i = 2 → kd (i + 41) = 3 ∧ alen (i + 41) = 0) (by decide +kernel) (by rw [h]; decide) h
theorem ki_X2_50 {i : Nat} (h : kd i = 2) : kd (i + 50) = 3 ∧ alen (i + 50) = 0 := kd_all (P := fun i => kd i = 2 → kd (i + 50) = 3 ∧ alen (i + 50) = 0) (by decide +kernel) (by rw [h]; decide) h
theorem ki_X2_3 {i : Nat} (h : kd i = 2) : kd (i + 3) = 16 ∧ alen (i + 3) = 6 := kd_all (P := fun i => kd i = 2 → kd (i + 3) = 16 ∧ alen (i + 3) = 6) (by decide +kernel) (by rw [h]; decide) h
theorem ki_X1_2 {i : Nat} (h : kd i = 1) : kd (i + 2) = 2 ∧ alen (i + 2) = 0 := kd_all (P := fun i => kd i = 1 → kd (i + 2) = 2 ∧ alen (i + 2) = 0) (by decide +kernel) (by rw [h]; decide) h
theorem ki_X1_61 {i : Nat} (h : kd i = 1) : kd (i + 61) = 2 ∧ alen (i + 61) = 0 := kd_all (P := fun i => kd i = 1 → kd (i + 61) = 2 ∧ alen (i + 61) = 0) (by decide +kernel) (by rw [h]; decide) h
theorem ki_X1_120 {i : Nat} (h : kd i = 1) : kd (i + 120) = 2 ∧ alen (i + 120) = 0 := kd_all (P := fun i => kd i = 1 → kd (i + 120) = 2 ∧ alen (i + 120) = 0) (by decide +kernel) (by rw [h]; decide) h
theorem ki_X1_179 {i : Nat} (h : kd i = 1) : kd (i + 179) = 2 ∧ alen (i + 179) = 0 := kd_all (P := fun i => kd i = 1 → kd (i + 179) = 2 ∧ alen (i + 179) = 0) (by decide +kernel) (by rw [h]; decide) h
theorem ki_X1_238 {i : Nat} (h : kd i = 1) : kd (i + 238) = 2 ∧ alen (i + 238) = 0 := kd_all (P := fun i => kd i = 1 → kd (i + 238) = 2 ∧ alen (i + 238) = 0) (by decide +kernel) (by rw [h]; decide) h
theorem ki_X1_297 {i : Nat} (h : kd i = 1) : kd (i + 297) = 2 ∧ alen (i + 297) = 0 := kd_all (P := fun i => kd i = 1 → kd (i + 297) = 2 ∧ alen (i + 297) = 0) (by decide +kernel) (by rw [h]; decide) h
theorem ki_X1_356 {i : Nat} (h : kd i = 1) : kd (i + 356) = 2 ∧ alen (i + 356) = 0 := kd_all (P := fun i => kd i = 1 → kd (i + 356) = 2 ∧ alen (i + 356) = 0) (by decide +kernel) (by rw [h]; decide) h
theorem ki_X1_415 {i : Nat} (h : kd i = 1) : kd (i + 415) = 2 ∧ alen (i + 415) = 0 := kd_all (P := fun i => kd i = 1 → kd (i + 415) = 2 ∧ alen (i + 415) = 0) (by decide +kernel) (by rw [h]; decide) h
theorem ki_X1_1 {i : Nat} (h : kd i = 1) : kd (i + 1) = 17 ∧ alen (i + 1) = 8 := kd_all (P := fun i => kd i = 1 → kd (i + 1) = 17 ∧ alen (i + 1) = 8) (by decide +kernel) (by rw [h]; decide) h
theorem ki_X6_1 {i : Nat} (h : kd i = 5) : kd (i + 1) = 15 ∧ alen (i + 1) = 801 := kd_all (P := fun i => kd i = 5 → kd (i + 1) = 15 ∧ alen (i + 1) = 801) (by decide +kernel) (by rw [h]; decide) h
theorem ki_X6_2 {i : Nat} (h : kd i = 5) : kd (i + 2) = 11 ∧ alen (i + 2) = 801 := kd_all (P := fun i => kd i = 5 → kd (i + 2) = 11 ∧ alen (i + 2) = 801) (by decide +kernel) (by rw [h]; decide) h
theorem ki_X6_3 {i : Nat} (h : kd i = 5) : kd (i + 3) = 11 ∧ alen (i + 3) = 801 := kd_all (P := fun i => kd i = 5 → kd (i + 3) = 11 ∧ alen (i + 3) = 801) (by decide +kernel) (by rw [h]; decide) h
theorem ki_X0_1 {i : Nat} (h : kd i = 0) : kd (i + 1) = 12 ∧ alen (i + 1) = 28 := kd_all (P := fun i => kd i = 0 → kd (i + 1) = 12 ∧ alen (i + 1) = 28) (by decide +kernel) (by rw [h]; decide) h
theorem ki_X4_1 {i : Nat} (h : kd i = 4) : kd (i + 1) = 5 ∧ alen (i + 1) = 0 := kd_all (P := fun i => kd i = 4 → kd (i + 1) = 5 ∧ alen (i + 1) = 0) (by decide +kernel) (by rw [h]; decide) h
theorem ki_X4_5 {i : Nat} (h : kd i = 4) : kd (i + 5) = 0 ∧ alen (i + 5) = 0 := kd_all (P := fun i => kd i = 4 → kd (i + 5) = 0 ∧ alen (i + 5) = 0) (by decide +kernel) (by rw [h]; decide) h
theorem ki_X4_7 {i : Nat} (h : kd i = 4) : kd (i + 7) = 8 ∧ alen (i + 7) = 0 := kd_all (P := fun i => kd i = 4 → kd (i + 7) = 8 ∧ alen (i + 7) = 0) (by decide +kernel) (by rw [h]; decide) h
theorem ki_X7_1 {i : Nat} (h : kd i = 6) : kd (i + 1) = 11 ∧ alen (i + 1) = 512 := kd_all (P := fun i => kd i = 6 → kd (i + 1) = 11 ∧ alen (i + 1) = 512) (by decide +kernel) (by rw [h]; decide) h
theorem ki_X7_2 {i : Nat} (h : kd i = 6) : kd (i + 2) = 11 ∧ alen (i + 2) = 64 := kd_all (P := fun i => kd i = 6 → kd (i + 2) = 11 ∧ alen (i + 2) = 64) (by decide +kernel) (by rw [h]; decide) h
theorem ki_X7_3 {i : Nat} (h : kd i = 6) : kd (i + 3) = 11 ∧ alen (i + 3) = 64 := kd_all (P := fun i => kd i = 6 → kd (i + 3) = 11 ∧ alen (i + 3) = 64) (by decide +kernel) (by rw [h]; decide) h
theorem ki_X8_1 {i : Nat} (h : kd i = 7) : kd (i + 1) = 11 ∧ alen (i + 1) = 11 := kd_all (P := fun i => kd i = 7 → kd (i + 1) = 11 ∧ alen (i + 1) = 11) (by decide +kernel) (by rw [h]; decide) h
theorem ki_X8_2 {i : Nat} (h : kd i = 7) : kd (i + 2) = 11 ∧ alen (i + 2) = 6 := kd_all (P := fun i => kd i = 7 → kd (i + 2) = 11 ∧ alen (i + 2) = 6) (by decide +kernel) (by rw [h]; decide) h
theorem ki_X10_1 {i : Nat} (h : kd i = 9) : kd (i + 1) = 11 ∧ alen (i + 1) = 800 := kd_all (P := fun i => kd i = 9 → kd (i + 1) = 11 ∧ alen (i + 1) = 800) (by decide +kernel) (by rw [h]; decide) h
theorem ki_X10_2 {i : Nat} (h : kd i = 9) : kd (i + 2) = 2 ∧ alen (i + 2) = 0 := kd_all (P := fun i => kd i = 9 → kd (i + 2) = 2 ∧ alen (i + 2) = 0) (by decide +kernel) (by rw [h]; decide) h
theorem ki_X10_61 {i : Nat} (h : kd i = 9) : kd (i + 61) = 2 ∧ alen (i + 61) = 0 := kd_all (P := fun i => kd i = 9 → kd (i + 61) = 2 ∧ alen (i + 61) = 0) (by decide +kernel) (by rw [h]; decide) h
theorem ki_X10_120 {i : Nat} (h : kd i = 9) : kd (i + 120) = 1 ∧ alen (i + 120) = 0 := kd_all (P := fun i => kd i = 9 → kd (i + 120) = 1 ∧ alen (i + 120) = 0) (by decide +kernel) (by rw [h]; decide) h
theorem ki_X10_594 {i : Nat} (h : kd i = 9) : kd (i + 594) = 4 ∧ alen (i + 594) = 0 := kd_all (P := fun i => kd i = 9 → kd (i + 594) = 4 ∧ alen (i + 594) = 0) (by decide +kernel) (by rw [h]; decide) h
theorem ki_X10_602 {i : Nat} (h : kd i = 9) : kd (i + 602) = 6 ∧ alen (i + 602) = 0 := kd_all (P := fun i => kd i = 9 → kd (i + 602) = 6 ∧ alen (i + 602) = 0) (by decide +kernel) (by rw [h]; decide) h
theorem ki_X10_606 {i : Nat} (h : kd i = 9) : kd (i + 606) = 7 ∧ alen (i + 606) = 0 := kd_all (P := fun i => kd i = 9 → kd (i + 606) = 7 ∧ alen (i + 606) = 0) (by decide +kernel) (by rw [h]; decide) h
theorem ki_X11_1 {i : Nat} (h : kd i = 10) : kd (i + 1) = 11 ∧ alen (i + 1) = 39330 := kd_all (P := fun i => kd i = 10 → kd (i + 1) = 11 ∧ alen (i + 1) = 39330) (by decide +kernel) (by rw [h]; decide) h
theorem ki_X11_2 {i : Nat} (h : kd i = 10) : kd (i + 2) = 11 ∧ alen (i + 2) = 4370 := kd_all (P := fun i => kd i = 10 → kd (i + 2) = 11 ∧ alen (i + 2) = 4370) (by decide +kernel) (by rw [h]; decide) h
theorem ki_X11_3 {i : Nat} (h : kd i = 10) : kd (i + 3) = 11 ∧ alen (i + 3) = 801 := kd_all (P := fun i => kd i = 10 → kd (i + 3) = 11 ∧ alen (i + 3) = 801) (by decide +kernel) (by rw [h]; decide) h
theorem ki_X11_4 {i : Nat} (h : kd i = 10) : kd (i + 4) = 11 ∧ alen (i + 4) = 8 := kd_all (P := fun i => kd i = 10 → kd (i + 4) = 11 ∧ alen (i + 4) = 8) (by decide +kernel) (by rw [h]; decide) h
theorem ki_X11_5 {i : Nat} (h : kd i = 10) : kd (i + 5) = 11 ∧ alen (i + 5) = 64 := kd_all (P := fun i => kd i = 10 → kd (i + 5) = 11 ∧ alen (i + 5) = 64) (by decide +kernel) (by rw [h]; decide) h
theorem ki_X11_6 {i : Nat} (h : kd i = 10) : kd (i + 6) = 11 ∧ alen (i + 6) = 64 := kd_all (P := fun i => kd i = 10 → kd (i + 6) = 11 ∧ alen (i + 6) = 64) (by decide +kernel) (by rw [h]; decide) h
theorem ki_X11_7 {i : Nat} (h : kd i = 10) : kd (i + 7) = 11 ∧ alen (i + 7) = 6 := kd_all (P := fun i => kd i = 10 → kd (i + 7) = 11 ∧ alen (i + 7) = 6) (by decide +kernel) (by rw [h]; decide) h
theorem ki_X11_8 {i : Nat} (h : kd i = 10) : kd (i + 8) = 12 ∧ alen (i + 8) = 801 := kd_all (P := fun i => kd i = 10 → kd (i + 8) = 12 ∧ alen (i + 8) = 801) (by decide +kernel) (by rw [h]; decide) h
theorem ki_X11_9 {i : Nat} (h : kd i = 10) : kd (i + 9) = 11 ∧ alen (i + 9) = 800 := kd_all (P := fun i => kd i = 10 → kd (i + 9) = 11 ∧ alen (i + 9) = 800) (by decide +kernel) (by rw [h]; decide) h
theorem ki_X11_10 {i : Nat} (h : kd i = 10) : kd (i + 10) = 13 ∧ alen (i + 10) = 64 := kd_all (P := fun i => kd i = 10 → kd (i + 10) = 13 ∧ alen (i + 10) = 64) (by decide +kernel) (by rw [h]; decide) h
theorem mv_X0_init : MV yX0_init cX0_init 1 none 0 := ⟨i_1_233, by decide +kernel, i_1_7, ⟨by decide +kernel, by decide +kernel, by decide +kernel⟩, by decide⟩
theorem mv_X10_init : MV yX10_init cX10_init 1 none 0 := ⟨i_1_34, by decide +kernel, i_1_1, ⟨by decide +kernel, by decide +kernel, by decide +kernel⟩, by decide⟩
theorem mv_X11_init : MV yX11_init cX11_init 1 none 0 := ⟨i_6_3, by decide +kernel, i_1_11, ⟨by decide +kernel, by decide +kernel, by decide +kernel⟩, by decide⟩
theorem mv_X1_init : MV yX1_init cX1_init 2 none 0 := ⟨i_1_175, by decide +kernel, i_1_4, ⟨by decide +kernel, by decide +kernel, by decide +kernel⟩, by decide⟩
theorem mv_X2_init : MV yX2_init cX2_init 2 none 0 := ⟨i_1_42, by decide +kernel, i_1_2, ⟨by decide +kernel, by decide +kernel, by decide +kernel⟩, by decide⟩
theorem mv_X3_init : MV yX3_init cX3_init 1 none 0 := ⟨i_1_49, by decide +kernel, i_1_3, ⟨by decide +kernel, by decide +kernel, by decide +kernel⟩, by decide⟩
theorem mv_X4_init : MV yX4_init cX4_init 1 none 0 := ⟨i_1_195, by decide +kernel, i_1_5, ⟨by decide +kernel, by decide +kernel, by decide +kernel⟩, by decide⟩
theorem mv_X6_init : MV yX6_init cX6_init 1 none 0 := ⟨i_1_201, by decide +kernel, i_1_6, ⟨by decide +kernel, by decide +kernel, by decide +kernel⟩, by decide⟩
theorem mv_X7_init : MV yX7_init cX7_init 1 none 0 := ⟨i_2_30, by decide +kernel, i_1_9, ⟨by decide +kernel, by decide +kernel, by decide +kernel⟩, by decide⟩
theorem mv_X8_init : MV yX8_init cX8_init 1 none 0 := ⟨i_2_49, by decide +kernel, i_1_10, ⟨by decide +kernel, by decide +kernel, by decide +kernel⟩, by decide⟩
theorem mv_X9_init : MV yX9_init cX9_init 1 none 0 := ⟨i_2_4, by decide +kernel, i_1_8, ⟨by decide +kernel, by decide +kernel, by decide +kernel⟩, by decide⟩
