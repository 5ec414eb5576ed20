theorem va_up_id {α : Type} (f : Nat → α) (k : Nat) : va_up f k (f k) = f := by
  funext j
  by_cases h : j = k
  · subst h; rw [va_up_self]
  · rw [va_up_ne _ _ h]
theorem va_up_up {α : Type} (f : Nat → α) (k : Nat) (x y : α) : va_up (va_up f k x) k y = va_up f k y := by
  funext j
  by_cases h : j = k
  · subst h; rw [va_up_self, va_up_self]
  · rw [va_up_ne _ _ h, va_up_ne _ _ h, va_up_ne _ _ h]
theorem o_swap {f : Nat → va_E} {a q j : Nat} {x y : va_E} (h1 : j ≠ q) (_ : a ≠ q) : va_up (va_up f q y) a x j = va_up f a x j := by
  by_cases h : j = a
  · subst h; rw [va_up_self, va_up_self]
  · rw [va_up_ne _ _ h, va_up_ne _ _ h, va_up_ne _ _ h1]
theorem o_swap2 {f : Nat → va_E} {a q j : Nat} {x y z : va_E} (h1 : a ≠ q) : va_up (va_up (va_up f q y) a x) q z j = va_up (va_up f q z) a x j := by
  by_cases h : j = a
  · subst h; rw [va_up_self, va_up_ne _ _ h1, va_up_self]
  · by_cases h2 : j = q
    · subst h2; rw [va_up_self, va_up_ne _ _ h, va_up_self]
    · rw [va_up_ne _ _ h2, va_up_ne _ _ h, va_up_ne _ _ h2, va_up_ne _ _ h, va_up_ne _ _ h2]
theorem o_swap3 {f : Nat → va_E} {a q : Nat} {x y : va_E} (h1 : a ≠ q) : va_up (va_up f q y) a x = va_up (va_up f a x) q y := by
  funext j
  by_cases h : j = a
  · subst h; rw [va_up_self, va_up_ne _ _ h1, va_up_self]
  · by_cases h2 : j = q
    · subst h2; rw [va_up_self, va_up_ne _ _ h, va_up_self]
    · rw [va_up_ne _ _ h, va_up_ne _ _ h2, va_up_ne _ _ h2, va_up_ne _ _ h]
theorem CW.fix {G : Gt} {B : Nat → va_E} {a n q N : Nat} {cA : ClassId} {f g : Nat → Option Nat} {s : State} {H : Heap} {locs : List Loc} (hW : CW G B a n s H locs) (hq : q < n) (hB : B (a + q) = .inl (cA, N, .inr (.inr (.inr (.inr f))))) (hf : ∀ j, j < N → f j = g j) : CW G (va_up B (a + q) (.inl (cA, N, .inr (.inr (.inr (.inr g)))))) a n s H locs := by
  obtain ⟨w1, w2, w3⟩ := hW
  refine ⟨w1, fun k x hx => ?_, w3⟩
  obtain ⟨hk, rfl⟩ := wlE_key G _ hx
  have h := w2 k _ (wlE_at G B hk)
  by_cases hkq : k = q
  · subst hkq
    rw [va_up_self]
    rw [hB] at h
    have h2 : H[gz G + (a + k)]? = some (vp_cell cA (N, .inr (.inr (.inr (.inr f))))) := h
    show H[gz G + (a + k)]? = some (vp_cell cA (N, .inr (.inr (.inr (.inr g)))))
    rw [h2, vp_cell_q, vp_cell_q]
    have e : (Array.ofFn (n := N) fun j => va_rf (f j.val)) = Array.ofFn (n := N) fun j => va_rf (g j.val) := congrArg _ (funext fun j => by rw [hf j.val j.isLt])
    unfold arrV
    rw [e]
  · rw [va_up_ne _ _ (by omega)]
    exact h
section OG
variable {G : Gt} {p : Program} {l : Launch} {e : Env} {R : Room} {s : State} {m : MethodId} {args : Array Value} {below : List Frame} {meth : Method} {c : Code} {H : Heap} {locs : List Loc} {cells slots : Nat} {Q : State → Prop}
variable {cc : ByteArray} {nL h a n idx : Nat} {own C : String} {pc : Nat} {ls : Array Slot} {rest : List Value} {F : Nat → va_E}
theorem o_get {T : u_T} {N ci k : Nat} {fs : List Value} (X : CI G p R s m args c cc nL own h a) (hW : CW G (va_up F a (.inr (ci, fs))) a n s H locs) (hn : 0 < n) (hin : ∀ w ∈ u_ws C T N, w ∈ TB) (hc : vwCl[ci]? = some (C, T, N)) (hk : k < N) (hlink : Cond.fieldLink own idx (T k).1 (T k).2.1 (T k).2.2.1 ∈ TB) {v : Value} (hv : fs[k]? = some v) (hdg : decode cc pc = .ok (.getfield idx, 3))
    (kk : W p l e R s m args below meth c H locs cells slots Q (F0 m (pc + 3) ls (v :: rest))) : W p l e R s m args below meth c H locs cells slots Q (F0 m pc ls (.ref (gz G + a) :: rest)) :=
  va_get (D := gDD G) (ci := ci) (C := C) (T := T) (N := N) X.1.1 X.1.2.1 X.1.2.2.2.2 hin X.1.2.2.2.1 X.2.1.1 hW.2.1 0 (by rw [wlE_at G _ hn, Nat.add_zero, va_up_self]) hc k hk (X.1.2.2.2.2 _ hlink) (fun _ h9 => h9) hv hdg kk
end OG
theorem i_1_59 : Cond.methodLink RX3 3 objectInit ∈ TB := mem_t1 59 (by decide +kernel)
theorem i_1_60 : Cond.fieldLink RX3 9 "QuestLedger$Quest" "stepCount" "I" ∈ TB := mem_t1 60 (by decide +kernel)
theorem i_1_64 : Cond.fieldLink RX3 15 "QuestLedger$Quest" "status" "I" ∈ TB := mem_t1 64 (by decide +kernel)
theorem i_1_68 : Cond.fieldLink RX3 18 "QuestLedger$Quest" "done" "I" ∈ TB := mem_t1 68 (by decide +kernel)
theorem i_1_72 : Cond.fieldLink RX3 21 "QuestLedger$Quest" "rewardItem" "I" ∈ TB := mem_t1 72 (by decide +kernel)
theorem i_1_76 : Cond.fieldLink RX3 24 "QuestLedger$Quest" "rewardAmount" "I" ∈ TB := mem_t1 76 (by decide +kernel)
theorem i_1_80 : Cond.fieldLink RX3 27 "QuestLedger$Quest" "goal" "J" ∈ TB := mem_t1 80 (by decide +kernel)
theorem i_1_139 : Cond.arrayClass (newarray.typeOf .int) ∈ TB := mem_t1 139 (by decide +kernel)
theorem i_1_83 : Cond.fieldLink RX3 31 "QuestLedger$Quest" "risk" "[I" ∈ TB := mem_t1 83 (by decide +kernel)
theorem i_1_87 : Cond.fieldLink RX3 35 "QuestLedger$Quest" "limit" "[I" ∈ TB := mem_t1 87 (by decide +kernel)
theorem i_1_90 : Cond.fieldLink RX3 38 "QuestLedger$Quest" "fails" "[I" ∈ TB := mem_t1 90 (by decide +kernel)
theorem i_1_93 : Cond.fieldLink RX3 41 "QuestLedger$Quest" "ahead" "[I" ∈ TB := mem_t1 93 (by decide +kernel)
theorem i_1_96 : Cond.fieldLink RX3 44 "QuestLedger$Quest" "costly" "[I" ∈ TB := mem_t1 96 (by decide +kernel)
theorem i_1_100 : Cond.fieldLink RX3 47 "QuestLedger$Quest" "uses" "[I" ∈ TB := mem_t1 100 (by decide +kernel)
theorem i_1_104 : Cond.fieldLink RX3 50 "QuestLedger$Quest" "needs" "[I" ∈ TB := mem_t1 104 (by decide +kernel)
theorem i_1_106 : Cond.fieldLink RX3 53 "QuestLedger$Quest" "gives" "[I" ∈ TB := mem_t1 106 (by decide +kernel)
theorem i_1_52 : Cond.methodLink RX2 3 objectInit ∈ TB := mem_t1 52 (by decide +kernel)
theorem i_1_140 : Cond.fieldLink RX2 9 "QuestLedger$Ledger" "stock" "[I" ∈ TB := mem_t1 140 (by decide +kernel)
theorem i_1_143 : Cond.fieldLink RX2 15 "QuestLedger$Ledger" "queue" "[I" ∈ TB := mem_t1 143 (by decide +kernel)
theorem i_1_144 : Cond.fieldLink RX2 18 "QuestLedger$Ledger" "queueLength" "I" ∈ TB := mem_t1 144 (by decide +kernel)
theorem i_1_146 : Cond.fieldLink RX2 22 "QuestLedger$Ledger" "seed" "I" ∈ TB := mem_t1 146 (by decide +kernel)
theorem i_1_53 : Cond.classLink RX2 25 "QuestLedger$Quest" ∈ TB := mem_t1 53 (by decide +kernel)
theorem i_1_149 : Cond.fieldLink RX2 27 "QuestLedger$Ledger" "quests" "[LQuestLedger$Quest;" ∈ TB := mem_t1 149 (by decide +kernel)
theorem i_1_152 : Cond.fieldLink RX2 31 "QuestLedger$Ledger" "questCount" "I" ∈ TB := mem_t1 152 (by decide +kernel)
theorem i_1_155 : Cond.fieldLink RX2 34 "QuestLedger$Ledger" "worthCode" "[I" ∈ TB := mem_t1 155 (by decide +kernel)
theorem i_1_157 : Cond.fieldLink RX2 37 "QuestLedger$Ledger" "worthLength" "I" ∈ TB := mem_t1 157 (by decide +kernel)
theorem i_1_55 : Cond.instantiable "QuestLedger$Quest" 14 ∈ TB := mem_t1 55 (by decide +kernel)
theorem i_1_20 : Cond.initialized RX3 ∈ TB := mem_t1 20 (by decide +kernel)
theorem i_1_56 : Cond.methodLinkNest RX2 40 yX3_init "QuestLedger" ∈ TB := mem_t1 56 (by decide +kernel)
theorem i_1_57 : Cond.instanceMethod yX3_init ∈ TB := mem_t1 57 (by decide +kernel)
theorem i_1_182 : Cond.methodLink RX1 3 objectInit ∈ TB := mem_t1 182 (by decide +kernel)
theorem i_1_183 : Cond.classLink RX1 9 "QuestLedger$Ledger" ∈ TB := mem_t1 183 (by decide +kernel)
theorem i_1_186 : Cond.fieldLink RX1 11 "QuestLedger$History" "past" "[LQuestLedger$Ledger;" ∈ TB := mem_t1 186 (by decide +kernel)
theorem i_1_187 : Cond.fieldLink RX1 17 "QuestLedger$History" "next" "I" ∈ TB := mem_t1 187 (by decide +kernel)
theorem i_1_188 : Cond.fieldLink RX1 21 "QuestLedger$History" "count" "I" ∈ TB := mem_t1 188 (by decide +kernel)
theorem i_1_48 : Cond.instantiable "QuestLedger$Ledger" 8 ∈ TB := mem_t1 48 (by decide +kernel)
theorem i_1_19 : Cond.initialized RX2 ∈ TB := mem_t1 19 (by decide +kernel)
theorem i_1_185 : Cond.methodLink RX1 24 yX2_init ∈ TB := mem_t1 185 (by decide +kernel)
theorem i_1_50 : Cond.instanceMethod yX2_init ∈ TB := mem_t1 50 (by decide +kernel)
theorem i_1_207 : Cond.methodLink RX6 3 objectInit ∈ TB := mem_t1 207 (by decide +kernel)
theorem i_1_208 : Cond.classLink RX6 9 "QuestLedger$Token" ∈ TB := mem_t1 208 (by decide +kernel)
theorem i_1_210 : Cond.fieldLink RX6 11 "QuestLedger$Tokens" "kinds" "[LQuestLedger$Token;" ∈ TB := mem_t1 210 (by decide +kernel)
theorem i_1_211 : Cond.fieldLink RX6 17 "QuestLedger$Tokens" "starts" "[I" ∈ TB := mem_t1 211 (by decide +kernel)
theorem i_1_212 : Cond.fieldLink RX6 21 "QuestLedger$Tokens" "numbers" "[I" ∈ TB := mem_t1 212 (by decide +kernel)
theorem i_1_213 : Cond.fieldLink RX6 24 "QuestLedger$Tokens" "count" "I" ∈ TB := mem_t1 213 (by decide +kernel)
theorem i_1_214 : Cond.fieldLink RX6 28 "QuestLedger$Tokens" "place" "I" ∈ TB := mem_t1 214 (by decide +kernel)
theorem i_1_215 : Cond.fieldLink RX6 31 "QuestLedger$Tokens" "error" "I" ∈ TB := mem_t1 215 (by decide +kernel)
theorem i_1_217 : Cond.fieldLink RX6 34 "QuestLedger$Tokens" "errorOffset" "I" ∈ TB := mem_t1 217 (by decide +kernel)
theorem i_1_239 : Cond.methodLink RX0 3 objectInit ∈ TB := mem_t1 239 (by decide +kernel)
theorem i_2_4 : Cond.arrayClass (newarray.typeOf .long) ∈ TB := mem_t2 4 (by decide +kernel)
theorem i_2_0 : Cond.fieldLink RX0 11 "QuestLedger$GoalReader" "atLeast" "[J" ∈ TB := mem_t2 0 (by decide +kernel)
theorem i_2_10 : Cond.methodLink RX9 3 objectInit ∈ TB := mem_t2 10 (by decide +kernel)
theorem i_1_201 : Cond.methodLink RX4 3 objectInit ∈ TB := mem_t1 201 (by decide +kernel)
theorem i_1_202 : Cond.classLink RX4 9 "QuestLedger$Tokens" ∈ TB := mem_t1 202 (by decide +kernel)
theorem i_1_203 : Cond.instantiable "QuestLedger$Tokens" 7 ∈ TB := mem_t1 203 (by decide +kernel)
theorem i_1_23 : Cond.initialized RX6 ∈ TB := mem_t1 23 (by decide +kernel)
theorem i_1_204 : Cond.methodLinkNest RX4 11 yX6_init "QuestLedger" ∈ TB := mem_t1 204 (by decide +kernel)
theorem i_1_205 : Cond.instanceMethod yX6_init ∈ TB := mem_t1 205 (by decide +kernel)
theorem i_2_12 : Cond.fieldLink RX4 12 "QuestLedger$SetupReader" "tokens" "LQuestLedger$Tokens;" ∈ TB := mem_t2 12 (by decide +kernel)
theorem i_1_234 : Cond.classLink RX4 18 "QuestLedger$GoalReader" ∈ TB := mem_t1 234 (by decide +kernel)
theorem i_1_235 : Cond.instantiable "QuestLedger$GoalReader" 1 ∈ TB := mem_t1 235 (by decide +kernel)
theorem i_1_24 : Cond.initialized RX0 ∈ TB := mem_t1 24 (by decide +kernel)
theorem i_1_236 : Cond.methodLinkNest RX4 20 yX0_init "QuestLedger" ∈ TB := mem_t1 236 (by decide +kernel)
theorem i_1_237 : Cond.instanceMethod yX0_init ∈ TB := mem_t1 237 (by decide +kernel)
theorem i_2_13 : Cond.fieldLink RX4 21 "QuestLedger$SetupReader" "goals" "LQuestLedger$GoalReader;" ∈ TB := mem_t2 13 (by decide +kernel)
theorem i_2_5 : Cond.classLink RX4 25 "QuestLedger$WorthReader" ∈ TB := mem_t2 5 (by decide +kernel)
theorem i_2_6 : Cond.instantiable "QuestLedger$WorthReader" 0 ∈ TB := mem_t2 6 (by decide +kernel)
theorem i_1_25 : Cond.initialized RX9 ∈ TB := mem_t1 25 (by decide +kernel)
theorem i_2_7 : Cond.methodLinkNest RX4 27 yX9_init "QuestLedger" ∈ TB := mem_t2 7 (by decide +kernel)
theorem i_2_8 : Cond.instanceMethod yX9_init ∈ TB := mem_t2 8 (by decide +kernel)
theorem i_2_14 : Cond.fieldLink RX4 28 "QuestLedger$SetupReader" "worths" "LQuestLedger$WorthReader;" ∈ TB := mem_t2 14 (by decide +kernel)
theorem i_2_15 : Cond.fieldLink RX4 32 "QuestLedger$SetupReader" "stockTold" "I" ∈ TB := mem_t2 15 (by decide +kernel)
theorem i_2_16 : Cond.fieldLink RX4 36 "QuestLedger$SetupReader" "seedTold" "Z" ∈ TB := mem_t2 16 (by decide +kernel)
theorem i_2_17 : Cond.fieldLink RX4 40 "QuestLedger$SetupReader" "worthTold" "Z" ∈ TB := mem_t2 17 (by decide +kernel)
theorem i_2_36 : Cond.methodLink RX7 3 objectInit ∈ TB := mem_t2 36 (by decide +kernel)
theorem i_2_37 : Cond.fieldLink RX7 9 "QuestLedger$Ways" "stocks" "[I" ∈ TB := mem_t2 37 (by decide +kernel)
theorem i_2_38 : Cond.fieldLink RX7 15 "QuestLedger$Ways" "stepsToTry" "[I" ∈ TB := mem_t2 38 (by decide +kernel)
theorem i_2_39 : Cond.fieldLink RX7 18 "QuestLedger$Ways" "toGo" "[I" ∈ TB := mem_t2 39 (by decide +kernel)
theorem i_2_40 : Cond.fieldLink RX7 21 "QuestLedger$Ways" "reached" "J" ∈ TB := mem_t2 40 (by decide +kernel)
theorem i_2_55 : Cond.methodLink RX8 3 objectInit ∈ TB := mem_t2 55 (by decide +kernel)
theorem i_2_56 : Cond.fieldLink RX8 9 "QuestLedger$WorthMeter" "stack" "[I" ∈ TB := mem_t2 56 (by decide +kernel)
theorem i_2_57 : Cond.fieldLink RX8 15 "QuestLedger$WorthMeter" "height" "I" ∈ TB := mem_t2 57 (by decide +kernel)
theorem i_2_58 : Cond.fieldLink RX8 19 "QuestLedger$WorthMeter" "seen" "[I" ∈ TB := mem_t2 58 (by decide +kernel)
theorem i_1_44 : Cond.methodLink RX10 3 objectInit ∈ TB := mem_t1 44 (by decide +kernel)
theorem i_2_66 : Cond.fieldLink RX10 9 "QuestLedger" "buffer" "[I" ∈ TB := mem_t2 66 (by decide +kernel)
theorem i_2_67 : Cond.fieldLink RX10 13 "QuestLedger" "bufferLength" "I" ∈ TB := mem_t2 67 (by decide +kernel)
theorem i_2_68 : Cond.fieldLink RX10 17 "QuestLedger" "latestErrorOffset" "I" ∈ TB := mem_t2 68 (by decide +kernel)
theorem i_1_47 : Cond.classLink RX10 20 "QuestLedger$Ledger" ∈ TB := mem_t1 47 (by decide +kernel)
theorem i_1_49 : Cond.methodLink RX10 22 yX2_init ∈ TB := mem_t1 49 (by decide +kernel)
theorem i_2_69 : Cond.fieldLink RX10 23 "QuestLedger" "now" "LQuestLedger$Ledger;" ∈ TB := mem_t2 69 (by decide +kernel)
theorem i_2_70 : Cond.fieldLink RX10 27 "QuestLedger" "draft" "LQuestLedger$Ledger;" ∈ TB := mem_t2 70 (by decide +kernel)
theorem i_1_177 : Cond.classLink RX10 30 "QuestLedger$History" ∈ TB := mem_t1 177 (by decide +kernel)
theorem i_1_178 : Cond.instantiable "QuestLedger$History" 3 ∈ TB := mem_t1 178 (by decide +kernel)
theorem i_1_21 : Cond.initialized RX1 ∈ TB := mem_t1 21 (by decide +kernel)
theorem i_1_179 : Cond.methodLink RX10 32 yX1_init ∈ TB := mem_t1 179 (by decide +kernel)
theorem i_1_180 : Cond.instanceMethod yX1_init ∈ TB := mem_t1 180 (by decide +kernel)
theorem i_2_71 : Cond.fieldLink RX10 33 "QuestLedger" "history" "LQuestLedger$History;" ∈ TB := mem_t2 71 (by decide +kernel)
theorem i_1_196 : Cond.classLink RX10 37 "QuestLedger$SetupReader" ∈ TB := mem_t1 196 (by decide +kernel)
theorem i_1_197 : Cond.instantiable "QuestLedger$SetupReader" 6 ∈ TB := mem_t1 197 (by decide +kernel)
theorem i_1_22 : Cond.initialized RX4 ∈ TB := mem_t1 22 (by decide +kernel)
theorem i_1_198 : Cond.methodLinkNest RX10 39 yX4_init "QuestLedger" ∈ TB := mem_t1 198 (by decide +kernel)
theorem i_1_199 : Cond.instanceMethod yX4_init ∈ TB := mem_t1 199 (by decide +kernel)
theorem i_2_72 : Cond.fieldLink RX10 40 "QuestLedger" "reader" "LQuestLedger$SetupReader;" ∈ TB := mem_t2 72 (by decide +kernel)
theorem i_2_31 : Cond.classLink RX10 44 "QuestLedger$Ways" ∈ TB := mem_t2 31 (by decide +kernel)
theorem i_2_32 : Cond.instantiable "QuestLedger$Ways" 4 ∈ TB := mem_t2 32 (by decide +kernel)
theorem i_1_26 : Cond.initialized RX7 ∈ TB := mem_t1 26 (by decide +kernel)
theorem i_2_33 : Cond.methodLinkNest RX10 46 yX7_init "QuestLedger" ∈ TB := mem_t2 33 (by decide +kernel)
theorem i_2_34 : Cond.instanceMethod yX7_init ∈ TB := mem_t2 34 (by decide +kernel)
theorem i_2_73 : Cond.fieldLink RX10 47 "QuestLedger" "ways" "LQuestLedger$Ways;" ∈ TB := mem_t2 73 (by decide +kernel)
theorem i_2_50 : Cond.classLink RX10 51 "QuestLedger$WorthMeter" ∈ TB := mem_t2 50 (by decide +kernel)
theorem i_2_51 : Cond.instantiable "QuestLedger$WorthMeter" 3 ∈ TB := mem_t2 51 (by decide +kernel)
theorem i_1_27 : Cond.initialized RX8 ∈ TB := mem_t1 27 (by decide +kernel)
theorem i_2_52 : Cond.methodLinkNest RX10 53 yX8_init "QuestLedger" ∈ TB := mem_t2 52 (by decide +kernel)
theorem i_2_53 : Cond.instanceMethod yX8_init ∈ TB := mem_t2 53 (by decide +kernel)
theorem i_2_74 : Cond.fieldLink RX10 54 "QuestLedger" "worthMeter" "LQuestLedger$WorthMeter;" ∈ TB := mem_t2 74 (by decide +kernel)
theorem i_1_238 : Cond.code yX0_init cX0_init 1 none ∈ TB := mem_t1 238 (by decide +kernel)
theorem i_1_43 : Cond.code yX10_init cX10_init 1 none ∈ TB := mem_t1 43 (by decide +kernel)
theorem i_1_18 : Cond.initialized RX10 ∈ TB := mem_t1 18 (by decide +kernel)
theorem i_1_181 : Cond.code yX1_init cX1_init 2 none ∈ TB := mem_t1 181 (by decide +kernel)
theorem i_1_51 : Cond.code yX2_init cX2_init 2 none ∈ TB := mem_t1 51 (by decide +kernel)
theorem i_1_58 : Cond.code yX3_init cX3_init 1 none ∈ TB := mem_t1 58 (by decide +kernel)
theorem i_1_200 : Cond.code yX4_init cX4_init 1 none ∈ TB := mem_t1 200 (by decide +kernel)
theorem i_1_206 : Cond.code yX6_init cX6_init 1 none ∈ TB := mem_t1 206 (by decide +kernel)
theorem i_2_35 : Cond.code yX7_init cX7_init 1 none ∈ TB := mem_t2 35 (by decide +kernel)
theorem i_2_54 : Cond.code yX8_init cX8_init 1 none ∈ TB := mem_t2 54 (by decide +kernel)
theorem i_2_9 : Cond.code yX9_init cX9_init 1 none ∈ TB := mem_t2 9 (by decide +kernel)
theorem ki_X3_1 {i : Nat} (h : kd i = 3) : kd (i + 1) = 11 ∧ alen (i + 1) = 6 := kd_all (P := fun i => kd i = 3 → kd (i + 1) = 11 ∧ alen (i + 1) = 6) (by decide +kernel) (by rw [h]; decide) h
theorem ki_X3_2 {i : Nat} (h : kd i = 3) : kd (i + 2) = 11 ∧ alen (i + 2) = 6 := kd_all (P := fun i => kd i = 3 → kd (i + 2) = 11 ∧ alen (i + 2) = 6) (by decide +kernel) (by rw [h]; decide) h
theorem ki_X3_3 {i : Nat} (h : kd i = 3) : kd (i + 3) = 11 ∧ alen (i + 3) = 6 := kd_all (P := fun i => kd i = 3 → kd (i + 3) = 11 ∧ alen (i + 3) = 6) (by decide +kernel) (by rw [h]; decide) h
theorem ki_X3_4 {i : Nat} (h : kd i = 3) : kd (i + 4) = 11 ∧ alen (i + 4) = 6 := kd_all (P := fun i => kd i = 3 → kd (i + 4) = 11 ∧ alen (i + 4) = 6) (by decide +kernel) (by rw [h]; decide) h
theorem ki_X3_5 {i : Nat} (h : kd i = 3) : kd (i + 5) = 11 ∧ alen (i + 5) = 6 := kd_all (P := fun i => kd i = 3 → kd (i + 5) = 11 ∧ alen (i + 5) = 6) (by decide +kernel) (by rw [h]; decide) h
theorem ki_X3_6 {i : Nat} (h : kd i = 3) : kd (i + 6) = 11 ∧ alen (i + 6) = 48 := kd_all (P := fun i => kd i = 3 → kd (i + 6) = 11 ∧ alen (i + 6) = 48) (by decide +kernel) (by rw [h]; decide) h
theorem ki_X3_7 {i : Nat} (h : kd i = 3) : kd (i + 7) = 11 ∧ alen (i + 7) = 48 := kd_all (P := fun i => kd i = 3 → kd (i + 7) = 11 ∧ alen (i + 7) = 48) (by decide +kernel) (by rw [h]; decide) h
theorem ki_X3_8 {i : Nat} (h : kd i = 3) : kd (i + 8) = 11 ∧ alen (i + 8) = 48 := kd_all (P := fun i => kd i = 3 → kd (i + 8) = 11 ∧ alen (i + 8) = 48) (by decide +kernel) (by rw [h]; decide) h
theorem ki_X2_1 {i : Nat} (h : kd i = 2) : kd (i + 1) = 11 ∧ alen (i + 1) = 8 := kd_all (P := fun i => kd i = 2 → kd (i + 1) = 11 ∧ alen (i + 1) = 8) (by decide +kernel) (by rw [h]; decide) h
theorem ki_X2_2 {i : Nat} (h : kd i = 2) : kd (i + 2) = 11 ∧ alen (i + 2) = 40 := kd_all (P := fun i => kd i = 2 → kd (i + 2) = 11 ∧ alen (i + 2) = 40) (by decide +kernel) (by rw [h]; decide) h
theorem ki_X2_4 {i : Nat} (h : kd i = 2) : kd (i + 4) = 11 ∧ alen (i + 4) = 800 := kd_all (P := fun i => kd i = 2 → kd (i + 4) = 11 ∧ alen (i + 4) = 800) (by decide +kernel) (by rw [h]; decide) h
theorem ki_X2_5 {i : Nat} (h : kd i = 2) : kd (i + 5) = 3 ∧ alen (i + 5) = 0 := kd_all (P := fun i => kd i = 2 → kd (i + 5) = 3 ∧ alen (i + 5) = 0) (by decide +kernel) (by rw [h]; decide) h
theorem ki_X2_14 {i : Nat} (h : kd i = 2) : kd (i + 14) = 3 ∧ alen (i + 14) = 0 := kd_all (P := fun i => kd i = 2 → kd (i + 14) = 3 ∧ alen (i + 14) = 0) (by decide +kernel) (by rw [h]; decide) h
theorem ki_X2_23 {i : Nat} (h : kd i = 2) : kd (i + 23) = 3 ∧ alen (i + 23) = 0 := kd_all (P := fun i => kd i = 2 → kd (i + 23) = 3 ∧ alen (i + 23) = 0) (by decide +kernel) (by rw [h]; decide) h
theorem ki_X2_32 {i : Nat} (h : kd i = 2) : kd (i + 32) = 3 ∧ alen (i + 32) = 0 := kd_all (P := fun i => kd i = 2 → kd (i + 32) = 3 ∧ alen (i + 32) = 0) (by decide +kernel) (by rw [h]; decide) h
theorem ki_X2_41 {i : Nat} (h : kd i = 2) : kd (i + 41) = 3 ∧ alen (i + 41) = 0 := kd_all (P := fun i => kd i = 2 → kd (i + 41) = 3 ∧ alen (i + 41) = 0) (by decide +kernel) (by rw [h]; decide) h
theorem ki_X2_50 {i : Nat} (h : kd i = 2) : kd (i + 50) = 3 ∧ alen (i + 50) = 0 := kd_all (P := fun i => kd i = 2 → kd (i + 50) = 3 ∧ alen (i + 50) = 0) (by decide +kernel) (by rw [h]; decide) h
theorem ki_X2_3 {i : Nat} (h : kd i = 2) : kd (i + 3) = 16 ∧ alen (i + 3) = 6 := kd_all (P := fun i => kd i = 2 → kd (i + 3) = 16 ∧ alen (i + 3) = 6) (by decide +kernel) (by rw [h]; decide) h
theorem ki_X1_2 {i : Nat} (h : kd i = 1) : kd (i + 2) = 2 ∧ alen (i + 2) = 0 := kd_all (P := fun i => kd i = 1 → kd (i + 2) = 2 ∧ alen (i + 2) = 0) (by decide +kernel) (by rw [h]; decide) h
theorem ki_X1_61 {i : Nat} (h : kd i = 1) : kd (i + 61) = 2 ∧ alen (i + 61) = 0 := kd_all (P := fun i => kd i = 1 → kd (i + 61) = 2 ∧ alen (i + 61) = 0) (by decide +kernel) (by rw [h]; decide) h
theorem ki_X1_120 {i : Nat} (h : kd i = 1) : kd (i + 120) = 2 ∧ alen (i + 120) = 0 := kd_all (P := fun i => kd i = 1 → kd (i + 120) = 2 ∧ alen (i + 120) = 0) (by decide +kernel) (by rw [h]; decide) h
theorem ki_X1_179 {i : Nat} (h : kd i = 1) : kd (i + 179) = 2 ∧ alen (i + 179) = 0 := kd_all (P := fun i => kd i = 1 → kd (i + 179) = 2 ∧ alen (i + 179) = 0) (by decide +kernel) (by rw [h]; decide) h
theorem ki_X1_238 {i : Nat} (h : kd i = 1) : kd (i + 238) = 2 ∧ alen (i + 238) = 0 := kd_all (P := fun i => kd i = 1 → kd (i + 238) = 2 ∧ alen (i + 238) = 0) (by decide +kernel) (by rw [h]; decide) h
theorem ki_X1_297 {i : Nat} (h : kd i = 1) : kd (i + 297) = 2 ∧ alen (i + 297) = 0 := kd_all (P := fun i => kd i = 1 → kd (i + 297) = 2 ∧ alen (i + 297) = 0) (by decide +kernel) (by rw [h]; decide) h
theorem ki_X1_356 {i : Nat} (h : kd i = 1) : kd (i + 356) = 2 ∧ alen (i + 356) = 0 := kd_all (P := fun i => kd i = 1 → kd (i + 356) = 2 ∧ alen (i + 356) = 0) (by decide +kernel) (by rw [h]; decide) h
theorem ki_X1_415 {i : Nat} (h : kd i = 1) : kd (i + 415) = 2 ∧ alen (i + 415) = 0 := kd_all (P := fun i => kd i = 1 → kd (i + 415) = 2 ∧ alen (i + 415) = 0) (by decide +kernel) (by rw [h]; decide) h
theorem ki_X1_1 {i : Nat} (h : kd i = 1) : kd (i + 1) = 17 ∧ alen (i + 1) = 8 := kd_all (P := fun i => kd i = 1 → kd (i + 1) = 17 ∧ alen (i + 1) = 8) (by decide +kernel) (by rw [h]; decide) h
theorem ki_X6_1 {i : Nat} (h : kd i = 5) : kd (i + 1) = 15 ∧ alen (i + 1) = 801 := kd_all (P := fun i => kd i = 5 → kd (i + 1) = 15 ∧ alen (i + 1) = 801) (by decide +kernel) (by rw [h]; decide) h
theorem ki_X6_2 {i : Nat} (h : kd i = 5) : kd (i + 2) = 11 ∧ alen (i + 2) = 801 := kd_all (P := fun i => kd i = 5 → kd (i + 2) = 11 ∧ alen (i + 2) = 801) (by decide +kernel) (by rw [h]; decide) h
theorem ki_X6_3 {i : Nat} (h : kd i = 5) : kd (i + 3) = 11 ∧ alen (i + 3) = 801 := kd_all (P := fun i => kd i = 5 → kd (i + 3) = 11 ∧ alen (i + 3) = 801) (by decide +kernel) (by rw [h]; decide) h
theorem ki_X0_1 {i : Nat} (h : kd i = 0) : kd (i + 1) = 12 ∧ alen (i + 1) = 28 := kd_all (P := fun i => kd i = 0 → kd (i + 1) = 12 ∧ alen (i + 1) = 28) (by decide +kernel) (by rw [h]; decide) h
theorem ki_X4_1 {i : Nat} (h : kd i = 4) : kd (i + 1) = 5 ∧ alen (i + 1) = 0 := kd_all (P := fun i => kd i = 4 → kd (i + 1) = 5 ∧ alen (i + 1) = 0) (by decide +kernel) (by rw [h]; decide) h
theorem ki_X4_5 {i : Nat} (h : kd i = 4) : kd (i + 5) = 0 ∧ alen (i + 5) = 0 := kd_all (P := fun i => kd i = 4 → kd (i + 5) = 0 ∧ alen (i + 5) = 0) (by decide +kernel) (by rw [h]; decide) h
theorem ki_X4_7 {i : Nat} (h : kd i = 4) : kd (i + 7) = 8 ∧ alen (i + 7) = 0 := kd_all (P := fun i => kd i = 4 → kd (i + 7) = 8 ∧ alen (i + 7) = 0) (by decide +kernel) (by rw [h]; decide) h
theorem ki_X7_1 {i : Nat} (h : kd i = 6) : kd (i + 1) = 11 ∧ alen (i + 1) = 512 := kd_all (P := fun i => kd i = 6 → kd (i + 1) = 11 ∧ alen (i + 1) = 512) (by decide +kernel) (by rw [h]; decide) h
theorem ki_X7_2 {i : Nat} (h : kd i = 6) : kd (i + 2) = 11 ∧ alen (i + 2) = 64 := kd_all (P := fun i => kd i = 6 → kd (i + 2) = 11 ∧ alen (i + 2) = 64) (by decide +kernel) (by rw [h]; decide) h
theorem ki_X7_3 {i : Nat} (h : kd i = 6) : kd (i + 3) = 11 ∧ alen (i + 3) = 64 := kd_all (P := fun i => kd i = 6 → kd (i + 3) = 11 ∧ alen (i + 3) = 64) (by decide +kernel) (by rw [h]; decide) h
theorem ki_X8_1 {i : Nat} (h : kd i = 7) : kd (i + 1) = 11 ∧ alen (i + 1) = 11 := kd_all (P := fun i => kd i = 7 → kd (i + 1) = 11 ∧ alen (i + 1) = 11) (by decide +kernel) (by rw [h]; decide) h
theorem ki_X8_2 {i : Nat} (h : kd i = 7) : kd (i + 2) = 11 ∧ alen (i + 2) = 6 := kd_all (P := fun i => kd i = 7 → kd (i + 2) = 11 ∧ alen (i + 2) = 6) (by decide +kernel) (by rw [h]; decide) h
theorem ki_X10_1 {i : Nat} (h : kd i = 9) : kd (i + 1) = 11 ∧ alen (i + 1) = 800 := kd_all (P := fun i => kd i = 9 → kd (i + 1) = 11 ∧ alen (i + 1) = 800) (by decide +kernel) (by rw [h]; decide) h
theorem ki_X10_2 {i : Nat} (h : kd i = 9) : kd (i + 2) = 2 ∧ alen (i + 2) = 0 := kd_all (P := fun i => kd i = 9 → kd (i + 2) = 2 ∧ alen (i + 2) = 0) (by decide +kernel) (by rw [h]; decide) h
theorem ki_X10_61 {i : Nat} (h : kd i = 9) : kd (i + 61) = 2 ∧ alen (i + 61) = 0 := kd_all (P := fun i => kd i = 9 → kd (i + 61) = 2 ∧ alen (i + 61) = 0) (by decide +kernel) (by rw [h]; decide) h
theorem ki_X10_120 {i : Nat} (h : kd i = 9) : kd (i + 120) = 1 ∧ alen (i + 120) = 0 := kd_all (P := fun i => kd i = 9 → kd (i + 120) = 1 ∧ alen (i + 120) = 0) (by decide +kernel) (by rw [h]; decide) h
theorem ki_X10_594 {i : Nat} (h : kd i = 9) : kd (i + 594) = 4 ∧ alen (i + 594) = 0 := kd_all (P := fun i => kd i = 9 → kd (i + 594) = 4 ∧ alen (i + 594) = 0) (by decide +kernel) (by rw [h]; decide) h
theorem ki_X10_602 {i : Nat} (h : kd i = 9) : kd (i + 602) = 6 ∧ alen (i + 602) = 0 := kd_all (P := fun i => kd i = 9 → kd (i + 602) = 6 ∧ alen (i + 602) = 0) (by decide +kernel) (by rw [h]; decide) h
theorem ki_X10_606 {i : Nat} (h : kd i = 9) : kd (i + 606) = 7 ∧ alen (i + 606) = 0 := kd_all (P := fun i => kd i = 9 → kd (i + 606) = 7 ∧ alen (i + 606) = 0) (by decide +kernel) (by rw [h]; decide) h
theorem mv_X0_init : MV yX0_init cX0_init 1 none 0 := ⟨i_1_238, by decide +kernel, i_1_24, ⟨by decide +kernel, by decide +kernel, by decide +kernel⟩, by decide⟩
theorem mv_X10_init : MV yX10_init cX10_init 1 none 0 := ⟨i_1_43, by decide +kernel, i_1_18, ⟨by decide +kernel, by decide +kernel, by decide +kernel⟩, by decide⟩
theorem mv_X1_init : MV yX1_init cX1_init 2 none 0 := ⟨i_1_181, by decide +kernel, i_1_21, ⟨by decide +kernel, by decide +kernel, by decide +kernel⟩, by decide⟩
theorem mv_X2_init : MV yX2_init cX2_init 2 none 0 := ⟨i_1_51, by decide +kernel, i_1_19, ⟨by decide +kernel, by decide +kernel, by decide +kernel⟩, by decide⟩
theorem mv_X3_init : MV yX3_init cX3_init 1 none 0 := ⟨i_1_58, by decide +kernel, i_1_20, ⟨by decide +kernel, by decide +kernel, by decide +kernel⟩, by decide⟩
theorem mv_X4_init : MV yX4_init cX4_init 1 none 0 := ⟨i_1_200, by decide +kernel, i_1_22, ⟨by decide +kernel, by decide +kernel, by decide +kernel⟩, by decide⟩
theorem mv_X6_init : MV yX6_init cX6_init 1 none 0 := ⟨i_1_206, by decide +kernel, i_1_23, ⟨by decide +kernel, by decide +kernel, by decide +kernel⟩, by decide⟩
theorem mv_X7_init : MV yX7_init cX7_init 1 none 0 := ⟨i_2_35, by decide +kernel, i_1_26, ⟨by decide +kernel, by decide +kernel, by decide +kernel⟩, by decide⟩
theorem mv_X8_init : MV yX8_init cX8_init 1 none 0 := ⟨i_2_54, by decide +kernel, i_1_27, ⟨by decide +kernel, by decide +kernel, by decide +kernel⟩, by decide⟩
theorem mv_X9_init : MV yX9_init cX9_init 1 none 0 := ⟨i_2_9, by decide +kernel, i_1_25, ⟨by decide +kernel, by decide +kernel, by decide +kernel⟩, by decide⟩
