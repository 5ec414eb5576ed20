/-! THE LAW: what holds at its entry (by wip/whole/gen/lawgen3.py) -/
def NL : List Cond := flatC (Jvm.Cond.and given_1 narrow_1)
def ixE : List Nat := [10, 6, 56, 64, 60, 72, 76, 80, 108, 112, 136, 116, 120, 124, 128, 132, 161, 157, 144, 165, 169, 173, 177, 181, 68, 140, 84, 88, 100, 104, 92, 96]
def ixO : List Nat := [11, 7, 57, 65, 61, 73, 77, 81, 109, 113, 137, 117, 121, 125, 129, 133, 162, 158, 145, 166, 170, 174, 178, 182, 69, 141, 85, 89, 101, 105, 93, 97]
def ixC : List Nat := [13, 9, 59, 67, 63, 75, 79, 83, 111, 115, 139, 119, 123, 127, 131, 135, 164, 160, 147, 168, 172, 176, 180, 184, 71, 143, 87, 91, 103, 107, 95, 99]
def ixT : List Nat := [12, 8, 58, 66, 62, 74, 78, 82, 110, 114, 138, 118, 122, 126, 130, 134, 163, 159, 146, 167, 171, 175, 179, 183, 70, 142, 86, 90, 102, 106, 94, 98]
def ixM : List Nat := [19, 20, 21, 22, 23, 24, 25, 26, 27, 28, 29, 30, 31, 32, 33, 34, 35, 36, 37, 38, 39, 40, 41, 42, 43, 44, 45, 46, 47, 48, 49, 50]
def ixW : List Nat := [151, 152, 153, 154, 155, 156]
def ixSE : List Nat := [466, 470, 486, 496, 505, 545, 555, 614, 564, 573, 583, 593, 603, 643, 635, 628, 650, 661, 670, 679, 689, 481, 623, 515, 520, 535, 540, 525, 530, 421, 431, 439, 447, 456, 315, 385, 391, 398, 332, 340, 349, 358, 367, 324, 377, 404, 412, 296, 306]
def ixSC : List Nat := [467, 471, 487, 497, 506, 546, 556, 615, 565, 574, 584, 594, 604, 644, 636, 629, 651, 662, 671, 680, 690, 482, 624, 516, 521, 536, 541, 526, 531, 422, 432, 440, 448, 457, 316, 386, 392, 399, 333, 341, 350, 359, 368, 325, 378, 405, 413, 297, 307]
def ixSA : List Nat := [468, 472, 488, 498, 507, 547, 557, 616, 566, 575, 585, 595, 605, 645, 637, 630, 652, 663, 672, 681, 691, 483, 625, 517, 522, 537, 542, 527, 532, 423, 433, 441, 449, 458, 317, 387, 393, 400, 334, 342, 351, 360, 369, 326, 379, 406, 414, 298, 308]
def ixSL : List Nat := [469, 473, 489, 499, 508, 548, 558, 617, 567, 576, 586, 596, 606, 646, 638, 631, 653, 664, 673, 682, 692, 484, 626, 518, 523, 538, 543, 528, 533, 424, 434, 442, 450, 459, 318, 388, 394, 401, 335, 343, 352, 361, 370, 327, 380, 407, 415, 299, 309]
def ixSR : List Nat := [1863, 1869, 1871, 1872, 1873, 1880, 1881, 1887, 1882, 1883, 1884, 1885, 1886, 1891, 1890, 1889, 1892, 1893, 1894, 1895, 1896, 1870, 1888, 1874, 1875, 1878, 1879, 1876, 1877, 1553, 1554, 1555, 1556, 1557, 1468, 1516, 1525, 1526, 1482, 1487, 1488, 1489, 1494, 1473, 1495, 1531, 1532, 1425, 1447]
def ixL : List Nat := [775, 773, 835, 865, 855, 882, 900, 906, 951, 966, 1008, 976, 978, 980, 982, 984, 1054, 1052, 1047, 1864, 1865, 1866, 1867, 1868, 875, 1039, 937, 940, 947, 949, 943, 945]
def ixSJ : List (List Nat) := [[], [474, 475, 476, 477, 478, 479], [490, 491, 492, 493, 494], [500, 501, 502, 503], [509, 510, 511, 512, 513], [549, 550, 551, 552, 553], [559, 560, 561, 562], [618, 619, 620, 621], [568, 569, 570, 571], [577, 578, 579, 580, 581], [587, 588, 589, 590, 591], [597, 598, 599, 600, 601], [607, 608, 609, 610, 611, 612], [647, 648], [639, 640, 641], [632, 633], [654, 655, 656, 657, 658, 659], [665, 666, 667, 668], [674, 675, 676, 677], [683, 684, 685, 686, 687], [693, 694, 695, 696, 697, 698], [485], [627], [519], [524], [539], [544], [529], [534], [425, 426, 427, 428, 429, 430], [435, 436, 437, 438], [443, 444, 445, 446], [451, 452, 453, 454, 455], [460, 461, 462, 463, 464, 465], [319, 320, 321, 322, 323], [389, 390], [395, 396, 397], [402, 403], [336, 337, 338, 339], [344, 345, 346, 347, 348], [353, 354, 355, 356, 357], [362, 363, 364, 365, 366], [371, 372, 373, 374, 375, 376], [328, 329, 330, 331], [381, 382, 383, 384], [408, 409, 410, 411], [416, 417, 418, 419, 420], [300, 301, 302, 303, 304, 305], [310, 311, 312, 313, 314]]
def ixN : List (List Nat) := [[0, 0, 0, 0, 0], [0, 0, 211, 241, 226], [0, 197, 0, 243, 228], [0, 199, 214, 0, 229], [0, 198, 213, 244, 0]]
def tkT (k : Nat) : Term := .static "QuestLedger$Token" (tkN.getD k "") "LQuestLedger$Token;"
def stM (k : Nat) : Term := .string (stO.getD k "") (stK.getD k 0)
def tksM : Term := .static "QuestLedger" "TOKENS" "[LQuestLedger$Token;"
def swM : Term := .static "QuestLedger" "SETS_WITH" "[J"
theorem nE : ∀ k, k < 32 → NL[ixE.getD k 0]? = some (.exactly (tkT k) "QuestLedger$Token") := by decide +kernel
theorem nO : ∀ k, k < 32 → NL[ixO.getD k 0]? = some (.eq (.field (tkT k) "java/lang/Enum" "ordinal" "I") (.int (nI k))) := by decide +kernel
theorem nC : ∀ k, k < 32 → NL[ixC.getD k 0]? = some (.eq (.field (tkT k) "QuestLedger$Token" "code" "I") (.int (tkC.getD k 0))) := by decide +kernel
theorem nT : ∀ k, k < 32 → NL[ixT.getD k 0]? = some (.eq (.field (tkT k) "QuestLedger$Token" "text" "Ljava/lang/String;") (stM (tkS.getD k 0))) := by decide +kernel
theorem nM : ∀ k, k < 32 → NL[ixM.getD k 0]? = some (.eq (.elem tksM (.int (Int32.ofNat k))) (tkT k)) := by decide +kernel
theorem nW : ∀ k, k < 6 → NL[ixW.getD k 0]? = some (.eq (.elem swM (.int (Int32.ofNat k))) (.long (swC.getD k 0))) := by decide +kernel
theorem nSE : ∀ k, k < 49 → NL[ixSE.getD k 0]? = some (.exactly (stM k) "java/lang/String") := by decide +kernel
theorem nSC : ∀ k, k < 49 → NL[ixSC.getD k 0]? = some (.eq (.field (stM k) "java/lang/String" "coder" "B") (.int 0)) := by decide +kernel
theorem nSA : ∀ k, k < 49 → NL[ixSA.getD k 0]? = some (.arrayOf (.field (stM k) "java/lang/String" "value" "[B") .byte) := by decide +kernel
theorem nSL : ∀ k, k < 49 → NL[ixSL.getD k 0]? = some (.eq (.length (.field (stM k) "java/lang/String" "value" "[B")) (.int (Int32.ofNat (stL.getD k 0)))) := by decide +kernel
theorem nSJ : ∀ k, k < 49 → ∀ j, j < stL.getD k 0 → NL[(ixSJ.getD k []).getD j 0]? = some (.eq (.elem (.field (stM k) "java/lang/String" "value" "[B") (.int (Int32.ofNat j))) (.int ((stB.getD k []).getD j 0))) := by decide +kernel
theorem nN : ∀ a, a < 5 → ∀ b, b < 5 → a = 0 ∨ b = 0 ∨ a = b ∨ NL[(ixN.getD a []).getD b 0]? = some (.not (.castable (exN a) (exN b))) := by decide +kernel
theorem nMl : NL[17]? = some (.eq (.length tksM) (.int (Int32.ofNat 32))) := by decide +kernel
theorem nMa : NL[16]? = some (.arrayOf tksM (.object "QuestLedger$Token")) := by decide +kernel
theorem nWl : NL[150]? = some (.eq (.length swM) (.int (Int32.ofNat 6))) := by decide +kernel
theorem nWa : NL[149]? = some (.arrayOf swM .long) := by decide +kernel
theorem nCS : NL[51]? = some (.eq (.static "java/lang/String" "COMPACT_STRINGS" "Z") (.int 1)) := by decide +kernel
theorem nSI : NL[52]? = some (.isRef (.static "jdk/internal/util/Preconditions" "SIOOBE_FORMATTER" "Ljava/util/function/BiFunction;")) := by decide +kernel
theorem nUS : NL[4]? = some (.isRef (.static Bundle.tN "UNASSIGNED_STACK" Bundle.steD)) := by decide +kernel
theorem nSS : NL[5]? = some (.isRef (.static Bundle.tN "SUPPRESSED_SENTINEL" Bundle.listD)) := by decide +kernel
theorem tL : ∀ k, k < 32 → lw_tbl[ixL.getD k 0]? = some (.laysStatic "QuestLedger$Token" (tkN.getD k "") "LQuestLedger$Token;") := by decide +kernel
theorem tSR : ∀ k, k < 49 → lw_tbl[ixSR.getD k 0]? = some (.stringRef (stO.getD k "") (stK.getD k 0) (stT.getD k "")) := by decide +kernel
theorem tI0 : lw_tbl[122]? = some (.initialized "QuestLedger$Token") := by decide +kernel
theorem tI1 : lw_tbl[106]? = some (.initialized "QuestLedger") := by decide +kernel
theorem tI2 : lw_tbl[123]? = some (.initialized "java/lang/String") := by decide +kernel
theorem tI3 : lw_tbl[125]? = some (.initialized "jdk/internal/util/Preconditions") := by decide +kernel
theorem tI4 : lw_tbl[117]? = some (.initialized Bundle.tN) := by decide +kernel
theorem tL0 : lw_tbl[780]? = some (.laysStatic "QuestLedger" "TOKENS" "[LQuestLedger$Token;") := by decide +kernel
theorem tL1 : lw_tbl[1050]? = some (.laysStatic "QuestLedger" "SETS_WITH" "[J") := by decide +kernel
theorem tL2 : lw_tbl[794]? = some (.laysStatic "java/lang/String" "COMPACT_STRINGS" "Z") := by decide +kernel
theorem tL3 : lw_tbl[810]? = some (.laysStatic "jdk/internal/util/Preconditions" "SIOOBE_FORMATTER" "Ljava/util/function/BiFunction;") := by decide +kernel
theorem tL4 : lw_tbl[634]? = some (.laysStatic Bundle.tN "UNASSIGNED_STACK" Bundle.steD) := by decide +kernel
theorem tL5 : lw_tbl[636]? = some (.laysStatic Bundle.tN "SUPPRESSED_SENTINEL" Bundle.listD) := by decide +kernel
theorem tAi : lw_tbl[238]? = some (.arrayClass .int) := by decide +kernel
theorem tAl : lw_tbl[344]? = some (.arrayClass .long) := by decide +kernel
theorem tAz : lw_tbl[1393]? = some (.arrayClass .boolean) := by decide +kernel
theorem tAd : lw_tbl[1838]? = some (.arrayClass .double) := by decide +kernel
theorem tOq : lw_tbl[150]? = some (.arrayOver (.object "QuestLedger$Quest")) := by decide +kernel
theorem tOl : lw_tbl[283]? = some (.arrayOver (.object "QuestLedger$Ledger")) := by decide +kernel
theorem tOt : lw_tbl[309]? = some (.arrayOver (.object "QuestLedger$Token")) := by decide +kernel
theorem tC0 : lw_tbl[335]? = some (.instantiable RX0 1) := by decide +kernel
theorem tC1 : lw_tbl[277]? = some (.instantiable RX1 3) := by decide +kernel
theorem tC2 : lw_tbl[144]? = some (.instantiable RX2 8) := by decide +kernel
theorem tC3 : lw_tbl[151]? = some (.instantiable RX3 14) := by decide +kernel
theorem tC4 : lw_tbl[297]? = some (.instantiable RX4 6) := by decide +kernel
theorem tC5 : lw_tbl[303]? = some (.instantiable RX6 7) := by decide +kernel
theorem tC6 : lw_tbl[372]? = some (.instantiable RX7 4) := by decide +kernel
theorem tC7 : lw_tbl[391]? = some (.instantiable RX8 3) := by decide +kernel
theorem tC8 : lw_tbl[346]? = some (.instantiable RX9 0) := by decide +kernel
theorem tC9 : lw_tbl[136]? = some (.instantiable RX10 9) := by decide +kernel
theorem tC10 : lw_tbl[1305]? = some (.instantiable RX11 27) := by decide +kernel
theorem ty_of_prim {s : State} {args : Array Value} {ty : FieldType} (h : (Cond.arrayClass ty).before args s = true) : ∃ cA, ArrOfT s cA ty ∧ s.vm.findClass ("[" ++ ty.toString) = some cA := by
  obtain ⟨cA, kA, comp, h1, h2, h3⟩ := Cond.arrayClass_spec h
  exact ⟨cA, fun n z => ⟨fun k h => (by cases h), kA, h2, comp, h3⟩, h1⟩
theorem ty_of_obj {s : State} {args : Array Value} {C : String} (h : (Cond.arrayOver (.object C)).before args s = true) : ∃ cA, ArrOfT s cA (.object C) ∧ va_RA s cA (.object C) := by
  obtain ⟨comp, cA, kA, h1, -, h3, h4, h5⟩ := Cond.arrayOver_spec h
  exact ⟨cA, fun n z => ⟨fun k h => (by cases h), kA, h3, comp, h4⟩, kA, comp, h3, h4, h1, h5⟩
theorem choose_fn {α : Type} (d : α) {P : Nat → α → Prop} {n : Nat} (h : ∀ k, k < n → ∃ x, P k x) : ∃ f : Nat → α, ∀ k, k < n → P k (f k) := by
  have h0 : ∀ k : Nat, ∃ x : α, k < n → P k x := fun k => by
    by_cases hk : k < n
    · obtain ⟨x, hx⟩ := h k hk
      exact ⟨x, fun _ => hx⟩
    · exact ⟨d, fun q => absurd q hk⟩
  obtain ⟨f, hf⟩ := Classical.axiomOfChoice h0
  exact ⟨f, hf⟩
theorem inTB_lw {ws : List Cond} (h : ∀ w ∈ ws, w ∈ TB) : ∀ w ∈ ws, w ∈ lw_tbl := fun w hw => (List.mem_filter.mp (h w hw)).1
section
variable {s : State} {args : Array Value}
theorem nl (hs : ∀ w ∈ NL, w.before args s = true) {i : Nat} {w : Cond} (h : NL[i]? = some w) : w.before args s = true := hs _ (List.mem_of_getElem? h)
theorem tl (hts : ∀ w ∈ lw_tbl, w.before args s = true) {i : Nat} {w : Cond} (h : lw_tbl[i]? = some w) : w.before args s = true := hts _ (List.mem_of_getElem? h)
theorem ent_str (hs : ∀ w ∈ NL, w.before args s = true) {A : Nat → Prop} (hA : ∀ a : Nat, a < s.heap.size → ¬ A a) : ∃ adK adV : Nat → Nat, vkS stL stB adK adV A s s.heap ∧ ∀ k, k < 49 → (stM k).eval args s none [] s = some (.ref (adK k)) := by
  have h0 : ∀ k, k < 49 → ∃ q : Nat × Nat, vk_S 1 [stL.getD k 0] [stB.getD k []] (fun _ => q.1) (fun _ => q.2) A s s.heap ∧ (stM k).eval args s none [] s = some (.ref q.1) := by
    intro k hk
    obtain ⟨adK, adV, h1, h2⟩ := vk_Sof (args := args) (s := s) (N := 1) (tm := fun _ => stM k) (len := [stL.getD k 0]) (byt := [stB.getD k []]) (A := A)
      (fun i hi => by
        obtain rfl : i = 0 := by omega
        exact (st_all k hk).1)
      (fun i _ => nl hs (nSE k hk)) (fun i _ => nl hs (nSC k hk)) (fun i _ => nl hs (nSA k hk))
      (fun i hi => by
        obtain rfl : i = 0 := by omega
        exact nl hs (nSL k hk))
      (fun i hi j hj => by
        obtain rfl : i = 0 := by omega
        exact nl hs (nSJ k hk j hj))
      (fun i j hi hj hij => absurd (show i = j by omega) hij) hA
    refine ⟨(adK 0, adV 0), ⟨fun i hi => ?_, fun i j hi hj _ => by omega⟩, h2 0 (by decide)⟩
    obtain rfl : i = 0 := by omega
    exact h1.1 0 (by decide)
  obtain ⟨f, hf⟩ := choose_fn (0, 0) h0
  exact ⟨fun k => (f k).1, fun k => (f k).2, fun k hk => (hf k hk).1, fun k hk => (hf k hk).2⟩
theorem ent_tok (hs : ∀ w ∈ NL, w.before args s = true) : ∃ ad : Nat → Nat, (∀ k, k < 32 → (tkT k).eval args s none [] s = some (.ref (ad k))) ∧ (∀ k, k < 32 → ad k < s.heap.size) ∧ ∀ i j, i < 32 → j < 32 → ad i = ad j → i = j := by
  have h0 : ∀ k, k < 32 → ∃ a : Nat, (tkT k).eval args s none [] s = some (.ref a) ∧ a < s.heap.size := by
    intro k hk
    obtain ⟨a, c, cA, kA, q1, q2, q3, q4, q5, q6, -⟩ := Cond.exactly_spec (args := args) (first := s) (o := none) (s := s) (idx := []) (t := tkT k) (cls := "QuestLedger$Token") (nl hs (nE k hk))
    exact ⟨a, q1, (Array.getElem?_eq_some_iff.mp q3).1⟩
  obtain ⟨ad, had⟩ := choose_fn 0 h0
  refine ⟨ad, fun k hk => (had k hk).1, fun k hk => (had k hk).2, fun i j hi hj e => ?_⟩
  have e1 := va_eqt (nl hs (nO i hi))
  have e2 := va_eqt (nl hs (nO j hj))
  rw [va_fe (had i hi).1] at e1
  rw [va_fe (had j hj).1, ← e, e1] at e2
  have e3 : (nI i) = nI j := by
    have := Option.some.inj e2
    injection this
  exact (nI_eq (by omega) (by omega)).mp e3
set_option maxRecDepth 20000 in
set_option maxHeartbeats 4000000 in
theorem ent_G (hts : ∀ w ∈ lw_tbl, w.before args s = true) (hs : ∀ w ∈ NL, w.before args s = true) : ∃ G : Gt, gz G = s.heap.size ∧ EnvS G s ∧ AO3 s := by
  have hA : ∀ a : Nat, a < s.heap.size → ¬ (s.heap.size ≤ a) := fun a h => Nat.not_le.mpr h
  obtain ⟨adK, adV, hS1, hS2⟩ := ent_str (args := args) hs (A := fun q => s.heap.size ≤ q) hA
  obtain ⟨ad, hT1, hT2, hT3⟩ := ent_tok (args := args) hs
  obtain ⟨tI, a1, b1⟩ := ty_of_prim (tl hts tAi)
  obtain ⟨tJ, a2, b2⟩ := ty_of_prim (tl hts tAl)
  obtain ⟨tZ, a3, b3⟩ := ty_of_prim (tl hts tAz)
  obtain ⟨tD, a4, b4⟩ := ty_of_prim (tl hts tAd)
  obtain ⟨tT, a5, b5⟩ := ty_of_obj (tl hts tOt)
  obtain ⟨tQ, a6, b6⟩ := ty_of_obj (tl hts tOq)
  obtain ⟨tR, a7, b7⟩ := ty_of_obj (tl hts tOl)
  obtain ⟨c0, i0, k0⟩ := u_known (T := TX0) (N := 1) hts (inTB_lw inTB_X0) (tl hts tC0)
  obtain ⟨c1, i1, k1⟩ := u_known (T := TX1) (N := 3) hts (inTB_lw inTB_X1) (tl hts tC1)
  obtain ⟨c2, i2, k2⟩ := u_known (T := TX2) (N := 8) hts (inTB_lw inTB_X2) (tl hts tC2)
  obtain ⟨c3, i3, k3⟩ := u_known (T := TX3) (N := 14) hts (inTB_lw inTB_X3) (tl hts tC3)
  obtain ⟨c4, i4, k4⟩ := u_known (T := TX4) (N := 6) hts (inTB_lw inTB_X4) (tl hts tC4)
  obtain ⟨c5, i5, k5⟩ := u_known (T := TX6) (N := 7) hts (inTB_lw inTB_X6) (tl hts tC5)
  obtain ⟨c6, i6, k6⟩ := u_known (T := TX7) (N := 4) hts (inTB_lw inTB_X7) (tl hts tC6)
  obtain ⟨c7, i7, k7⟩ := u_known (T := TX8) (N := 3) hts (inTB_lw inTB_X8) (tl hts tC7)
  obtain ⟨c8, i8, k8⟩ := u_known (T := TX9) (N := 0) hts (inTB_lw inTB_X9) (tl hts tC8)
  obtain ⟨c9, i9, k9⟩ := u_known (T := TX10) (N := 9) hts (inTB_lw inTB_X10) (tl hts tC9)
  obtain ⟨c10, i10, k10⟩ := u_known (T := TX11) (N := 27) hts (inTB_lw inTB_X11) (tl hts tC10)
  obtain ⟨tA, m1, m2⟩ := va_Tof (args := args) (s := s) (tm := tksM) (N := 32) (f := fun k => .ref (ad k)) (A := fun q => s.heap.size ≤ q) (by decide) (nl hs nMa) (va_eqt (nl hs nMl)) (fun j hj => va_eqv (nl hs (nM j hj)) (hT1 j hj)) hA
  obtain ⟨sA, w1, w2⟩ := va_Tof (args := args) (s := s) (tm := swM) (N := 6) (f := fun k => .long (swC.getD k 0)) (A := fun q => s.heap.size ≤ q) (by decide) (nl hs nWa) (va_eqt (nl hs nWl)) (fun j hj => va_eqtl (nl hs (nW j hj))) hA
  refine ⟨(s.heap.size, (fun k => [c0, c1, c2, c3, c4, c5, c6, c7, c8, c9, c10].getD k c0, fun k => [i0, i1, i2, i3, i4, i5, i6, i7, i8, i9, i10].getD k i0), fun k => [tI, tJ, tZ, tD, tT, tQ, tR].getD k tI, fun k => if k < 32 then ad k else s.heap.size + k, adK, adV, fun k => if k = 0 then tA else sA), rfl, ⟨?_, Nat.le_refl _, ?_⟩, ?_⟩
  · refine ⟨fun k q hq => ?_, fun k q hq => ?_⟩
    · match k, hq with
      | 0, hq => cases hq; exact k0
      | 1, hq => cases hq; exact k1
      | 2, hq => cases hq; exact k2
      | 3, hq => cases hq; exact k3
      | 4, hq => cases hq; exact k4
      | 5, hq => cases hq; exact k5
      | 6, hq => cases hq; exact k6
      | 7, hq => cases hq; exact k7
      | 8, hq => cases hq; exact k8
      | 9, hq => cases hq; exact k9
      | 10, hq => cases hq; exact k10
    · match k, hq with
      | 0, hq => cases hq; exact ⟨a1, b1⟩
      | 1, hq => cases hq; exact ⟨a2, b2⟩
      | 2, hq => cases hq; exact ⟨a3, b3⟩
      | 3, hq => cases hq; exact ⟨a4, b4⟩
      | 4, hq => cases hq; exact ⟨a5, b5⟩
      | 5, hq => cases hq; exact ⟨a6, b6⟩
      | 6, hq => cases hq; exact ⟨a7, b7⟩
  · have hg : ∀ k, k < 32 → (fun k => if k < 32 then ad k else s.heap.size + k) k = ad k := fun k hk => if_pos hk
    refine ⟨fun k hk => ?_, fun i j e => ?_, ⟨?_, ?_⟩, ⟨?_, ?_⟩, hS1, fun k hk => ?_, ?_, ?_, ?_, ?_, ?_⟩
    · show va_Z _ _ _ (.ref ((fun k => if k < 32 then ad k else s.heap.size + k) k)) _ s s.heap ∧ va_O _ ((fun k => if k < 32 then ad k else s.heap.size + k) k) _ s s.heap ∧ va_OF _ _ _ _ ((fun k => if k < 32 then ad k else s.heap.size + k) k) _ s s.heap ∧ va_OF _ _ _ _ ((fun k => if k < 32 then ad k else s.heap.size + k) k) _ s s.heap
      rw [hg k hk]
      exact ⟨va_Zof (tl hts (tL k hk)) (tl hts tI0) (hT1 k hk) hA, va_Oof (nl hs (nE k hk)) (hT1 k hk) hA, vk_OFof (hT1 k hk) (va_eqt (nl hs (nC k hk))) hA, vk_OFof (hT1 k hk) (va_eqv (nl hs (nT k hk)) (hS2 _ (tkS_lt k))) hA⟩
    · have e : (if i < 32 then ad i else s.heap.size + i) = (if j < 32 then ad j else s.heap.size + j) := e
      by_cases hi : i < 32
      · by_cases hj : j < 32
        · rw [if_pos hi, if_pos hj] at e
          exact hT3 i j hi hj e
        · rw [if_pos hi, if_neg hj] at e
          have := hT2 i hi
          omega
      · by_cases hj : j < 32
        · rw [if_neg hi, if_pos hj] at e
          have := hT2 j hj
          omega
        · rw [if_neg hi, if_neg hj] at e
          omega
    · exact va_Zof (tl hts tL0) (tl hts tI1) m1 hA
    · have e : (fun k : Nat => Value.ref (ad k)) = _ := rfl
      obtain ⟨cell, r1, r2, r3, r4, r5, r6, r7⟩ := m2
      exact ⟨cell, r1, r2, r3, r4, r5, fun j hj => by rw [r6 j hj]; show some (Value.ref (ad j)) = some (Value.ref (if j < 32 then ad j else s.heap.size + j)); rw [if_pos hj], r7⟩
    · exact va_Zof (tl hts tL1) (tl hts tI1) w1 hA
    · exact w2
    · have h1 := tl hts (tSR k hk)
      have h2 := hS2 k hk
      exact vk_R.of (A := #[]) h1 h2
    · exact va_Zof (tl hts tL2) (tl hts tI2) (va_eqi (nl hs nCS)) hA
    · exact va_Zqof (tl hts tL3) (tl hts tI3) (nl hs nSI) hA
    · exact vx_Zqof (tl hts tL4) (tl hts tI4) (nl hs nUS) hA
    · exact vx_Zqof (tl hts tL5) (tl hts tI4) (nl hs nSS) hA
    · exact fun a b p1 p2 p3 p4 p5 => va_Nc.of (nl hs (((((nN a (by omega) b (by omega)).resolve_left (by omega)).resolve_left (by omega)).resolve_left (by omega))))
  · intro C hC
    simp only [List.mem_cons, List.mem_nil_iff, or_false] at hC
    rcases hC with rfl | rfl | rfl
    · exact va_AO.of (tl hts tOq)
    · exact va_AO.of (tl hts tOl)
    · exact va_AO.of (tl hts tOt)
end
