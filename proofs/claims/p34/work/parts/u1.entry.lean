/-! THE LAW: what holds at its entry (by wip/p34/gen/jdk28.py) -/
def NL : List Cond := flatC (Jvm.Cond.and given_1 narrow_1)
def ixE : List Nat := [226, 221, 268, 278, 273, 288, 293, 298, 333, 338, 368, 343, 348, 353, 358, 363, 397, 392, 378, 402, 407, 412, 417, 422, 283, 373, 303, 308, 323, 328, 313, 318]
def ixO : List Nat := [227, 222, 269, 279, 274, 289, 294, 299, 334, 339, 369, 344, 349, 354, 359, 364, 398, 393, 379, 403, 408, 413, 418, 423, 284, 374, 304, 309, 324, 329, 314, 319]
def ixC : List Nat := [229, 224, 271, 281, 276, 291, 296, 301, 336, 341, 371, 346, 351, 356, 361, 366, 400, 395, 381, 405, 410, 415, 420, 425, 286, 376, 306, 311, 326, 331, 316, 321]
def ixT : List Nat := [228, 223, 270, 280, 275, 290, 295, 300, 335, 340, 370, 345, 350, 355, 360, 365, 399, 394, 380, 404, 409, 414, 419, 424, 285, 375, 305, 310, 325, 330, 315, 320]
def ixM : List Nat := [236, 237, 238, 239, 240, 241, 242, 243, 244, 245, 246, 247, 248, 249, 250, 251, 252, 253, 254, 255, 256, 257, 258, 259, 260, 261, 262, 263, 264, 265, 266, 267]
def ixW : List Nat := [386, 387, 388, 389, 390, 391]
def ixSE : List Nat := [735, 777, 837, 859, 879, 1007, 1029, 1162, 1049, 1070, 1093, 1116, 1138, 1234, 1216, 1200, 1250, 1274, 1294, 1314, 1336, 814, 1182, 901, 918, 972, 989, 937, 955, 513, 520, 545, 563, 575, 592, 599, 610, 620, 631, 642, 654, 668, 675, 686, 697, 704, 722, 507]
def ixSC : List Nat := [736, 778, 838, 860, 880, 1008, 1030, 1163, 1050, 1071, 1094, 1117, 1139, 1235, 1217, 1201, 1251, 1275, 1295, 1315, 1337, 815, 1183, 902, 919, 973, 990, 938, 956, 514, 521, 546, 564, 576, 593, 600, 611, 621, 632, 643, 655, 669, 676, 687, 698, 705, 723, 508]
def ixSA : List Nat := [737, 779, 839, 861, 881, 1009, 1031, 1164, 1051, 1072, 1095, 1118, 1140, 1236, 1218, 1202, 1252, 1276, 1296, 1316, 1338, 816, 1184, 903, 920, 974, 991, 939, 957, 515, 522, 547, 565, 577, 594, 601, 612, 622, 633, 644, 656, 670, 677, 688, 699, 706, 724, 509]
def ixSL : List Nat := [738, 780, 840, 862, 882, 1010, 1032, 1165, 1052, 1073, 1096, 1119, 1141, 1237, 1219, 1203, 1253, 1277, 1297, 1317, 1339, 817, 1185, 904, 921, 975, 992, 940, 958, 516, 523, 548, 566, 578, 595, 602, 613, 623, 634, 645, 657, 671, 678, 689, 700, 707, 725, 510]
def ixSR : List Nat := [1693, 1702, 1707, 1709, 1711, 1725, 1727, 1739, 1729, 1731, 1733, 1735, 1737, 1747, 1745, 1743, 1749, 1751, 1753, 1755, 1757, 1705, 1741, 1713, 1715, 1721, 1723, 1717, 1719, 1503, 1504, 1628, 1629, 1630, 1631, 1632, 1633, 1634, 1635, 1636, 1637, 1638, 1639, 1640, 1641, 1642, 1643, 667]
def ixL : List Nat := [1207, 1205, 1221, 1251, 1241, 1268, 1286, 1292, 1337, 1352, 1394, 1362, 1364, 1366, 1368, 1370, 1440, 1438, 1433, 1696, 1697, 1698, 1699, 1700, 1261, 1425, 1323, 1326, 1333, 1335, 1329, 1331]
def ixD1 : List Nat := [18, 19, 20, 21, 22, 23, 24, 25, 26, 27, 28, 29, 30, 31, 32, 33, 34, 35, 36, 37, 38, 39, 40, 41, 42, 43, 44, 45, 46, 47, 48, 49, 50, 51, 52, 53, 54, 55, 56, 57, 58, 59, 60, 61, 62, 63, 64, 65, 66, 67, 68, 69, 70, 71, 72, 73, 74, 75, 76, 77, 78, 79, 80, 81, 82, 83, 84, 85, 86, 87, 88, 89, 90, 91, 92, 93, 94, 95, 96, 97, 98, 99, 100, 101, 102, 103, 104, 105, 106, 107, 108, 109, 110, 111, 112, 113, 114, 115, 116, 117]
def ixD2 : List Nat := [121, 122, 123, 124, 125, 126, 127, 128, 129, 130, 131, 132, 133, 134, 135, 136, 137, 138, 139, 140, 141, 142, 143, 144, 145, 146, 147, 148, 149, 150, 151, 152, 153, 154, 155, 156, 157, 158, 159, 160, 161, 162, 163, 164, 165, 166, 167, 168, 169, 170, 171, 172, 173, 174, 175, 176, 177, 178, 179, 180, 181, 182, 183, 184, 185, 186, 187, 188, 189, 190, 191, 192, 193, 194, 195, 196, 197, 198, 199, 200, 201, 202, 203, 204, 205, 206, 207, 208, 209, 210, 211, 212, 213, 214, 215, 216, 217, 218, 219, 220]
def ixSJ : List (List Nat) := [[], [781, 782, 783, 784, 785, 786], [841, 842, 843, 844, 845], [863, 864, 865, 866], [883, 884, 885, 886, 887], [1011, 1012, 1013, 1014, 1015], [1033, 1034, 1035, 1036], [1166, 1167, 1168, 1169], [1053, 1054, 1055, 1056], [1074, 1075, 1076, 1077, 1078], [1097, 1098, 1099, 1100, 1101], [1120, 1121, 1122, 1123, 1124], [1142, 1143, 1144, 1145, 1146, 1147], [1238, 1239], [1220, 1221, 1222], [1204, 1205], [1254, 1255, 1256, 1257, 1258, 1259], [1278, 1279, 1280, 1281], [1298, 1299, 1300, 1301], [1318, 1319, 1320, 1321, 1322], [1340, 1341, 1342, 1343, 1344, 1345], [818], [1186], [905], [922], [976], [993], [941], [959], [], [524], [549, 550, 551, 552, 553, 554, 555, 556, 557, 558, 559, 560], [567, 568, 569, 570, 571, 572], [579, 580, 581, 582, 583, 584, 585, 586, 587, 588, 589], [596], [603, 604, 605, 606, 607], [614, 615, 616, 617], [624, 625, 626, 627, 628], [635, 636, 637, 638, 639], [646, 647, 648, 649, 650, 651], [658, 659, 660, 661, 662, 663, 664, 665], [672], [679, 680, 681, 682, 683], [690, 691, 692, 693, 694], [701], [708, 709, 710, 711, 712, 713, 714, 715, 716, 717, 718, 719], [726, 727, 728, 729, 730, 731, 732], []]
def tkT (k : Nat) : Term := .static "QuestLedger$Token" (tkN.getD k "") "LQuestLedger$Token;"
def stM (k : Nat) : Term := .string (stO.getD k "") (stK.getD k 0)
def tksM : Term := .static "QuestLedger" "TOKENS" "[LQuestLedger$Token;"
def swM : Term := .static "QuestLedger" "SETS_WITH" "[J"
def dg1M : Term := .static "java/lang/Integer" "DigitOnes" "[B"
def dg2M : Term := .static "java/lang/Integer" "DigitTens" "[B"
def dlM : Term := .static "java/util/ArrayList" "DEFAULTCAPACITY_EMPTY_ELEMENTDATA" "[Ljava/lang/Object;"
theorem nD1 : ∀ k, k < 100 → NL[ixD1.getD k 0]? = some (.eq (.elem dg1M (.int (Int32.ofNat k))) (.int (nI (48 + k % 10)))) := by decide +kernel
theorem nD2 : ∀ k, k < 100 → NL[ixD2.getD k 0]? = some (.eq (.elem dg2M (.int (Int32.ofNat k))) (.int (nI (48 + k / 10)))) := by decide +kernel
theorem nE : ∀ k, k < 32 → NL[ixE.getD k 0]? = some (.exactly (tkT k) "QuestLedger$Token") := by decide +kernel
theorem nO : ∀ k, k < 32 → NL[ixO.getD k 0]? = some (.eq (.field (tkT k) "java/lang/Enum" "ordinal" "I") (.int (nI k))) := by decide +kernel
theorem nC : ∀ k, k < 32 → NL[ixC.getD k 0]? = some (.eq (.field (tkT k) "QuestLedger$Token" "code" "I") (.int (tkC.getD k 0))) := by decide +kernel
theorem nT : ∀ k, k < 32 → NL[ixT.getD k 0]? = some (.eq (.field (tkT k) "QuestLedger$Token" "text" "Ljava/lang/String;") (stM (tkS.getD k 0))) := by decide +kernel
theorem nM : ∀ k, k < 32 → NL[ixM.getD k 0]? = some (.eq (.elem tksM (.int (Int32.ofNat k))) (tkT k)) := by decide +kernel
theorem nW : ∀ k, k < 6 → NL[ixW.getD k 0]? = some (.eq (.elem swM (.int (Int32.ofNat k))) (.long (swC.getD k 0))) := by decide +kernel
theorem nSE : ∀ k, k < 48 → NL[ixSE.getD k 0]? = some (.exactly (stM k) "java/lang/String") := by decide +kernel
theorem nSC : ∀ k, k < 48 → NL[ixSC.getD k 0]? = some (.eq (.field (stM k) "java/lang/String" "coder" "B") (.int 0)) := by decide +kernel
theorem nSA : ∀ k, k < 48 → NL[ixSA.getD k 0]? = some (.arrayOf (.field (stM k) "java/lang/String" "value" "[B") .byte) := by decide +kernel
theorem nQSL : ∀ k, k < 48 → NL[ixSL.getD k 0]? = some (.eq (.length (.field (stM k) "java/lang/String" "value" "[B")) (.int (Int32.ofNat (stL.getD k 0)))) := by decide +kernel
theorem nSJ : ∀ k, k < 48 → ∀ j, j < stL.getD k 0 → NL[(ixSJ.getD k []).getD j 0]? = some (.eq (.elem (.field (stM k) "java/lang/String" "value" "[B") (.int (Int32.ofNat j))) (.int ((stB.getD k []).getD j 0))) := by decide +kernel
theorem nD1l : NL[17]? = some (.eq (.length dg1M) (.int (Int32.ofNat 100))) := by decide +kernel
theorem nD1a : NL[16]? = some (.arrayOf dg1M .byte) := by decide +kernel
theorem nD2l : NL[120]? = some (.eq (.length dg2M) (.int (Int32.ofNat 100))) := by decide +kernel
theorem nD2a : NL[119]? = some (.arrayOf dg2M .byte) := by decide +kernel
theorem nDLl : NL[9]? = some (.eq (.length dlM) (.int (Int32.ofNat 0))) := by decide +kernel
theorem nDLa : NL[7]? = some (.arrayOf dlM (.object "java/lang/Object")) := by decide +kernel
theorem nMl : NL[234]? = some (.eq (.length tksM) (.int (Int32.ofNat 32))) := by decide +kernel
theorem nMa : NL[233]? = some (.arrayOf tksM (.object "QuestLedger$Token")) := by decide +kernel
theorem nWl : NL[385]? = some (.eq (.length swM) (.int (Int32.ofNat 6))) := by decide +kernel
theorem nWa : NL[384]? = some (.arrayOf swM .long) := by decide +kernel
theorem nCS : NL[10]? = some (.eq (.static "java/lang/String" "COMPACT_STRINGS" "Z") (.int 1)) := by decide +kernel
theorem nSI : NL[11]? = some (.isRef (.static "jdk/internal/util/Preconditions" "SIOOBE_FORMATTER" "Ljava/util/function/BiFunction;")) := by decide +kernel
theorem nUS : NL[4]? = some (.isRef (.static Bundle.tN "UNASSIGNED_STACK" Bundle.steD)) := by decide +kernel
theorem nSS : NL[5]? = some (.isRef (.static Bundle.tN "SUPPRESSED_SENTINEL" Bundle.listD)) := by decide +kernel
theorem tL : ∀ k, k < 32 → lw_tbl[ixL.getD k 0]? = some (.laysStatic "QuestLedger$Token" (tkN.getD k "") "LQuestLedger$Token;") := by decide +kernel
theorem tSR : ∀ k, k < 48 → lw_tbl[ixSR.getD k 0]? = some (.stringRef (stO.getD k "") (stK.getD k 0) (stT.getD k "")) := by decide +kernel
theorem tI5 : lw_tbl[56]? = some (.initialized "java/lang/Integer") := by decide +kernel
theorem tI6 : lw_tbl[44]? = some (.initialized "java/util/ArrayList") := by decide +kernel
theorem tL6 : lw_tbl[839]? = some (.laysStatic "java/lang/Integer" "DigitOnes" "[B") := by decide +kernel
theorem tL7 : lw_tbl[841]? = some (.laysStatic "java/lang/Integer" "DigitTens" "[B") := by decide +kernel
theorem tL8 : lw_tbl[569]? = some (.laysStatic "java/util/ArrayList" "DEFAULTCAPACITY_EMPTY_ELEMENTDATA" "[Ljava/lang/Object;") := by decide +kernel
theorem tAb : lw_tbl[720]? = some (.arrayClass .byte) := by decide +kernel
theorem tOo : lw_tbl[1624]? = some (.arrayOver (.object "java/lang/Object")) := by decide +kernel
theorem tI0 : lw_tbl[73]? = some (.initialized "QuestLedger$Token") := by decide +kernel
theorem tI1 : lw_tbl[58]? = some (.initialized "QuestLedger") := by decide +kernel
theorem tI2 : lw_tbl[47]? = some (.initialized "java/lang/String") := by decide +kernel
theorem tI3 : lw_tbl[53]? = some (.initialized "jdk/internal/util/Preconditions") := by decide +kernel
theorem tI4 : lw_tbl[68]? = some (.initialized Bundle.tN) := by decide +kernel
theorem tL0 : lw_tbl[1212]? = some (.laysStatic "QuestLedger" "TOKENS" "[LQuestLedger$Token;") := by decide +kernel
theorem tL1 : lw_tbl[1436]? = some (.laysStatic "QuestLedger" "SETS_WITH" "[J") := by decide +kernel
theorem tL2 : lw_tbl[681]? = some (.laysStatic "java/lang/String" "COMPACT_STRINGS" "Z") := by decide +kernel
theorem tL3 : lw_tbl[777]? = some (.laysStatic "jdk/internal/util/Preconditions" "SIOOBE_FORMATTER" "Ljava/util/function/BiFunction;") := by decide +kernel
theorem tL4 : lw_tbl[405]? = some (.laysStatic Bundle.tN "UNASSIGNED_STACK" Bundle.steD) := by decide +kernel
theorem tL5 : lw_tbl[407]? = some (.laysStatic Bundle.tN "SUPPRESSED_SENTINEL" Bundle.listD) := by decide +kernel
theorem tAi : lw_tbl[179]? = some (.arrayClass .int) := by decide +kernel
theorem tAl : lw_tbl[284]? = some (.arrayClass .long) := by decide +kernel
theorem tAz : lw_tbl[615]? = some (.arrayClass .boolean) := by decide +kernel
theorem tOq : lw_tbl[94]? = some (.arrayOver (.object "QuestLedger$Quest")) := by decide +kernel
theorem tOl : lw_tbl[224]? = some (.arrayOver (.object "QuestLedger$Ledger")) := by decide +kernel
theorem tOt : lw_tbl[249]? = some (.arrayOver (.object "QuestLedger$Token")) := by decide +kernel
theorem tC0 : lw_tbl[275]? = some (.instantiable RX0 1) := by decide +kernel
theorem tC1 : lw_tbl[218]? = some (.instantiable RX1 3) := by decide +kernel
theorem tC2 : lw_tbl[88]? = some (.instantiable RX2 8) := by decide +kernel
theorem tC3 : lw_tbl[95]? = some (.instantiable RX3 14) := by decide +kernel
theorem tC4 : lw_tbl[237]? = some (.instantiable RX4 6) := by decide +kernel
theorem tC5 : lw_tbl[243]? = some (.instantiable RX6 7) := by decide +kernel
theorem tC6 : lw_tbl[312]? = some (.instantiable RX7 4) := by decide +kernel
theorem tC7 : lw_tbl[331]? = some (.instantiable RX8 3) := by decide +kernel
theorem tC8 : lw_tbl[286]? = some (.instantiable RX9 0) := by decide +kernel
theorem tC9 : lw_tbl[80]? = some (.instantiable RX10 9) := by decide +kernel
theorem tC10 : lw_tbl[551]? = some (.instantiable RX11 9) := by decide +kernel
theorem tC11 : lw_tbl[1111]? = some (.instantiable RX12 9) := by decide +kernel
theorem tC12 : lw_tbl[557]? = some (.instantiable RJx4a65c 3) := by decide +kernel
theorem tC13 : lw_tbl[691]? = some (.instantiable RJ4 4) := by decide +kernel
theorem tC14 : lw_tbl[855]? = some (.instantiable RJ0 4) := by decide +kernel
theorem ty_of_prim {s : State} {args : Array Value} {ty : FieldType} (h : (Cond.arrayClass ty).before args s = true) : ∃ cA, ArrOfT s cA ty ∧ s.vm.findClass ("[" ++ ty.toString) = some cA := by
  obtain ⟨cA, kA, comp, h1, h2, h3⟩ := Cond.arrayClass_spec h
  exact ⟨cA, fun n z => ⟨fun k h => (by cases h), kA, h2, comp, h3⟩, h1⟩
theorem ty_of_obj {s : State} {args : Array Value} {C : String} (h : (Cond.arrayOver (.object C)).before args s = true) : ∃ cA, ArrOfT s cA (.object C) ∧ va_RA s cA (.object C) := by
  obtain ⟨comp, cA, kA, h1, -, h3, h4, h5⟩ := Cond.arrayOver_spec h
  exact ⟨cA, fun n z => ⟨fun k h => (by cases h), kA, h3, comp, h4⟩, kA, comp, h3, h4, h1, h5⟩
theorem choose_fn {α : Type} (d : α) {P : Nat → α → Prop} {n : Nat} (h : ∀ k, k < n → ∃ x, P k x) : ∃ f : Nat → α, ∀ k, k < n → P k (f k) := by
  have h0 : ∀ k : Nat, ∃ x : α, k < n → P k x := fun k => by
    by_cases hk : k < n
    · obtain ⟨x, hx⟩ := h k hk
      exact ⟨x, fun _ => hx⟩
    · exact ⟨d, fun q => absurd q hk⟩
  obtain ⟨f, hf⟩ := Classical.axiomOfChoice h0
  exact ⟨f, hf⟩
theorem inTB_lw {ws : List Cond} (h : ∀ w ∈ ws, w ∈ TB) : ∀ w ∈ ws, w ∈ lw_tbl := fun w hw => (List.mem_filter.mp (h w hw)).1
section
variable {s : State} {args : Array Value}
theorem nl (hs : ∀ w ∈ NL, w.before args s = true) {i : Nat} {w : Cond} (h : NL[i]? = some w) : w.before args s = true := hs _ (List.mem_of_getElem? h)
theorem tl (hts : ∀ w ∈ lw_tbl, w.before args s = true) {i : Nat} {w : Cond} (h : lw_tbl[i]? = some w) : w.before args s = true := hts _ (List.mem_of_getElem? h)
theorem ent_str (hs : ∀ w ∈ NL, w.before args s = true) {A : Nat → Prop} (hA : ∀ a : Nat, a < s.heap.size → ¬ A a) : ∃ adK adV : Nat → Nat, vkS stL stB adK adV A s s.heap ∧ ∀ k, k < 48 → (stM k).eval args s none [] s = some (.ref (adK k)) := by
  have h0 : ∀ k, k < 48 → ∃ q : Nat × Nat, vk_S 1 [stL.getD k 0] [stB.getD k []] (fun _ => q.1) (fun _ => q.2) A s s.heap ∧ (stM k).eval args s none [] s = some (.ref q.1) := by
    intro k hk
    obtain ⟨adK, adV, h1, h2⟩ := vk_Sof (args := args) (s := s) (N := 1) (tm := fun _ => stM k) (len := [stL.getD k 0]) (byt := [stB.getD k []]) (A := A)
      (fun i hi => by
        obtain rfl : i = 0 := by omega
        exact (st_all k hk).1)
      (fun i _ => nl hs (nSE k hk)) (fun i _ => nl hs (nSC k hk)) (fun i _ => nl hs (nSA k hk))
      (fun i hi => by
        obtain rfl : i = 0 := by omega
        exact nl hs (nQSL k hk))
      (fun i hi j hj => by
        obtain rfl : i = 0 := by omega
        exact nl hs (nSJ k hk j hj))
      (fun i j hi hj hij => absurd (show i = j by omega) hij) hA
    refine ⟨(adK 0, adV 0), ⟨fun i hi => ?_, fun i j hi hj _ => by omega⟩, h2 0 (by decide)⟩
    obtain rfl : i = 0 := by omega
    exact h1.1 0 (by decide)
  obtain ⟨f, hf⟩ := choose_fn (0, 0) h0
  exact ⟨fun k => (f k).1, fun k => (f k).2, fun k hk => (hf k hk).1, fun k hk => (hf k hk).2⟩
theorem ent_tok (hs : ∀ w ∈ NL, w.before args s = true) : ∃ ad : Nat → Nat, (∀ k, k < 32 → (tkT k).eval args s none [] s = some (.ref (ad k))) ∧ (∀ k, k < 32 → ad k < s.heap.size) ∧ ∀ i j, i < 32 → j < 32 → ad i = ad j → i = j := by
  have h0 : ∀ k, k < 32 → ∃ a : Nat, (tkT k).eval args s none [] s = some (.ref a) ∧ a < s.heap.size := by
    intro k hk
    obtain ⟨a, c, cA, kA, q1, q2, q3, q4, q5, q6, -⟩ := Cond.exactly_spec (args := args) (first := s) (o := none) (s := s) (idx := []) (t := tkT k) (cls := "QuestLedger$Token") (nl hs (nE k hk))
    exact ⟨a, q1, (Array.getElem?_eq_some_iff.mp q3).1⟩
  obtain ⟨ad, had⟩ := choose_fn 0 h0
  refine ⟨ad, fun k hk => (had k hk).1, fun k hk => (had k hk).2, fun i j hi hj e => ?_⟩
  have e1 := va_eqt (nl hs (nO i hi))
  have e2 := va_eqt (nl hs (nO j hj))
  rw [va_fe (had i hi).1] at e1
  rw [va_fe (had j hj).1, ← e, e1] at e2
  have e3 : (nI i) = nI j := by
    have := Option.some.inj e2
    injection this
  exact (nI_eq (by omega) (by omega)).mp e3
set_option maxRecDepth 20000 in
set_option maxHeartbeats 4000000 in
theorem ent_G (hts : ∀ w ∈ lw_tbl, w.before args s = true) (hs : ∀ w ∈ NL, w.before args s = true) : ∃ (G : Gt) (e0 : Nat), gz G = s.heap.size ∧ (∀ q, gA G q ↔ s.heap.size ≤ q) ∧ EnvS G s ∧ EnvD G s ∧ EnvL G e0 s ∧ ∀ C ∈ ["QuestLedger$Quest", "QuestLedger$Ledger", "QuestLedger$Token"], va_AO C s := by
  have hA : ∀ a : Nat, a < s.heap.size → ¬ (s.heap.size ≤ a) := fun a h => Nat.not_le.mpr h
  obtain ⟨adK, adV, hS1, hS2⟩ := ent_str (args := args) hs (A := fun q => s.heap.size ≤ q) hA
  obtain ⟨ad, hT1, hT2, hT3⟩ := ent_tok (args := args) hs
  obtain ⟨tI, a1, b1⟩ := ty_of_prim (tl hts tAi)
  obtain ⟨tJ, a2, b2⟩ := ty_of_prim (tl hts tAl)
  obtain ⟨tZ, a3, b3⟩ := ty_of_prim (tl hts tAz)
  obtain ⟨tB, a8, b8⟩ := ty_of_prim (tl hts tAb)
  obtain ⟨tO, a9, b9⟩ := ty_of_obj (tl hts tOo)
  obtain ⟨tT, a5, b5⟩ := ty_of_obj (tl hts tOt)
  obtain ⟨tQ, a6, b6⟩ := ty_of_obj (tl hts tOq)
  obtain ⟨tR, a7, b7⟩ := ty_of_obj (tl hts tOl)
  obtain ⟨c0, i0, k0⟩ := u_known (T := TX0) (N := 1) hts (inTB_lw inTB_X0) (tl hts tC0)
  obtain ⟨c1, i1, k1⟩ := u_known (T := TX1) (N := 3) hts (inTB_lw inTB_X1) (tl hts tC1)
  obtain ⟨c2, i2, k2⟩ := u_known (T := TX2) (N := 8) hts (inTB_lw inTB_X2) (tl hts tC2)
  obtain ⟨c3, i3, k3⟩ := u_known (T := TX3) (N := 14) hts (inTB_lw inTB_X3) (tl hts tC3)
  obtain ⟨c4, i4, k4⟩ := u_known (T := TX4) (N := 6) hts (inTB_lw inTB_X4) (tl hts tC4)
  obtain ⟨c5, i5, k5⟩ := u_known (T := TX6) (N := 7) hts (inTB_lw inTB_X6) (tl hts tC5)
  obtain ⟨c6, i6, k6⟩ := u_known (T := TX7) (N := 4) hts (inTB_lw inTB_X7) (tl hts tC6)
  obtain ⟨c7, i7, k7⟩ := u_known (T := TX8) (N := 3) hts (inTB_lw inTB_X8) (tl hts tC7)
  obtain ⟨c8, i8, k8⟩ := u_known (T := TX9) (N := 0) hts (inTB_lw inTB_X9) (tl hts tC8)
  obtain ⟨c9, i9, k9⟩ := u_known (T := TX10) (N := 9) hts (inTB_lw inTB_X10) (tl hts tC9)
  obtain ⟨c10, i10, k10⟩ := u_known (T := TX11) (N := 9) hts (inTB_lw inTB_X11) (tl hts tC10)
  obtain ⟨c11, i11, k11⟩ := u_known (T := TX12) (N := 9) hts (inTB_lw inTB_X12) (tl hts tC11)
  obtain ⟨c12, i12, k12⟩ := u_known (T := TJx4a65c) (N := 3) hts (inTB_lw inTB_AL) (tl hts tC12)
  obtain ⟨c13, i13, k13⟩ := u_known (T := TJ4) (N := 4) hts (inTB_lw inTB_SB) (tl hts tC13)
  obtain ⟨c14, i14, k14⟩ := u_known (T := TJ0) (N := 4) hts (inTB_lw inTB_ST) (tl hts tC14)
  obtain ⟨d1, f1, g1⟩ := va_Tof (args := args) (s := s) (tm := dg1M) (N := 100) (f := fun k => .int (nI (48 + k % 10))) (A := fun q => s.heap.size ≤ q) (by decide) (nl hs nD1a) (va_eqt (nl hs nD1l)) (fun j hj => va_eqt (nl hs (nD1 j hj))) hA
  obtain ⟨d2, f2, g2⟩ := va_Tof (args := args) (s := s) (tm := dg2M) (N := 100) (f := fun k => .int (nI (48 + k / 10))) (A := fun q => s.heap.size ≤ q) (by decide) (nl hs nD2a) (va_eqt (nl hs nD2l)) (fun j hj => va_eqt (nl hs (nD2 j hj))) hA
  obtain ⟨e0, f3, g3⟩ := va_Tof (args := args) (s := s) (tm := dlM) (N := 0) (f := fun _ => .null) (A := fun q => s.heap.size ≤ q) (by decide) (nl hs nDLa) (va_eqt (nl hs nDLl)) (fun j hj => absurd hj (Nat.not_lt_zero _)) hA
  obtain ⟨tA, m1, m2⟩ := va_Tof (args := args) (s := s) (tm := tksM) (N := 32) (f := fun k => .ref (ad k)) (A := fun q => s.heap.size ≤ q) (by decide) (nl hs nMa) (va_eqt (nl hs nMl)) (fun j hj => va_eqv (nl hs (nM j hj)) (hT1 j hj)) hA
  obtain ⟨sA, w1, w2⟩ := va_Tof (args := args) (s := s) (tm := swM) (N := 6) (f := fun k => .long (swC.getD k 0)) (A := fun q => s.heap.size ≤ q) (by decide) (nl hs nWa) (va_eqt (nl hs nWl)) (fun j hj => va_eqtl (nl hs (nW j hj))) hA
  refine ⟨⟨(s.heap.size, (fun k => [c0, c1, c2, c3, c4, c5, c6, c7, c8, c9, c10, c11, c12, c13, c14].getD k c0, fun k => [i0, i1, i2, i3, i4, i5, i6, i7, i8, i9, i10, i11, i12, i13, i14].getD k i0), fun k => [tI, tJ, tZ, tI, tT, tQ, tR, tB, tO].getD k tI, fun k => if k < 32 then ad k else s.heap.size + k, adK, adV, fun k => if k = 0 then tA else sA, fun q => s.heap.size ≤ q), fun i _ => Nat.le_add_right _ _⟩, e0, rfl, fun _ => Iff.rfl, ⟨?_, Nat.le_refl _, ?_⟩, ⟨d1, d2, va_Zof (tl hts tL6) (tl hts tI5) f1 hA, g1, va_Zof (tl hts tL7) (tl hts tI5) f2 hA, g2⟩, ⟨va_Zof (tl hts tL8) (tl hts tI6) f3 hA, g3, va_AO.of (tl hts tOo)⟩, ?_⟩
  · refine ⟨fun k q hq => ?_, fun k q hq => ?_⟩
    · match k, hq with
      | 0, hq => cases hq; exact k0
      | 1, hq => cases hq; exact k1
      | 2, hq => cases hq; exact k2
      | 3, hq => cases hq; exact k3
      | 4, hq => cases hq; exact k4
      | 5, hq => cases hq; exact k5
      | 6, hq => cases hq; exact k6
      | 7, hq => cases hq; exact k7
      | 8, hq => cases hq; exact k8
      | 9, hq => cases hq; exact k9
      | 10, hq => cases hq; exact k10
      | 11, hq => cases hq; exact k11
      | 12, hq => cases hq; exact k12
      | 13, hq => cases hq; exact k13
      | 14, hq => cases hq; exact k14
    · match k, hq with
      | 0, hq => cases hq; exact ⟨a1, b1⟩
      | 1, hq => cases hq; exact ⟨a2, b2⟩
      | 2, hq => cases hq; exact ⟨a3, b3⟩
      | 3, hq => cases hq; exact ⟨a1, b1⟩
      | 4, hq => cases hq; exact ⟨a5, b5⟩
      | 5, hq => cases hq; exact ⟨a6, b6⟩
      | 6, hq => cases hq; exact ⟨a7, b7⟩
      | 7, hq => cases hq; exact ⟨a8, b8⟩
      | 8, hq => cases hq; exact ⟨a9, b9⟩
  · have hg : ∀ k, k < 32 → (fun k => if k < 32 then ad k else s.heap.size + k) k = ad k := fun k hk => if_pos hk
    refine ⟨fun k hk => ?_, fun i j e => ?_, ⟨?_, ?_⟩, ⟨?_, ?_⟩, hS1, fun k hk => ?_, ?_, ?_, ?_, ?_, ?_⟩
    · show va_Z _ _ _ (.ref ((fun k => if k < 32 then ad k else s.heap.size + k) k)) _ s s.heap ∧ va_O _ ((fun k => if k < 32 then ad k else s.heap.size + k) k) _ s s.heap ∧ va_OF _ _ _ _ ((fun k => if k < 32 then ad k else s.heap.size + k) k) _ s s.heap ∧ va_OF _ _ _ _ ((fun k => if k < 32 then ad k else s.heap.size + k) k) _ s s.heap
      rw [hg k hk]
      exact ⟨va_Zof (tl hts (tL k hk)) (tl hts tI0) (hT1 k hk) hA, va_Oof (nl hs (nE k hk)) (hT1 k hk) hA, vk_OFof (hT1 k hk) (va_eqt (nl hs (nC k hk))) hA, vk_OFof (hT1 k hk) (va_eqv (nl hs (nT k hk)) (hS2 _ (tkS_lt k))) hA⟩
    · have e : (if i < 32 then ad i else s.heap.size + i) = (if j < 32 then ad j else s.heap.size + j) := e
      by_cases hi : i < 32
      · by_cases hj : j < 32
        · rw [if_pos hi, if_pos hj] at e
          exact hT3 i j hi hj e
        · rw [if_pos hi, if_neg hj] at e
          have := hT2 i hi
          omega
      · by_cases hj : j < 32
        · rw [if_neg hi, if_pos hj] at e
          have := hT2 j hj
          omega
        · rw [if_neg hi, if_neg hj] at e
          omega
    · exact va_Zof (tl hts tL0) (tl hts tI1) m1 hA
    · have e : (fun k : Nat => Value.ref (ad k)) = _ := rfl
      obtain ⟨cell, r1, r2, r3, r4, r5, r6, r7⟩ := m2
      exact ⟨cell, r1, r2, r3, r4, r5, fun j hj => by rw [r6 j hj]; show some (Value.ref (ad j)) = some (Value.ref (if j < 32 then ad j else s.heap.size + j)); rw [if_pos hj], r7⟩
    · exact va_Zof (tl hts tL1) (tl hts tI1) w1 hA
    · exact w2
    · have h1 := tl hts (tSR k hk)
      have h2 := hS2 k hk
      exact vk_R.of (A := #[]) h1 h2
    · exact va_Zof (tl hts tL2) (tl hts tI2) (va_eqi (nl hs nCS)) hA
    · exact va_Zqof (tl hts tL3) (tl hts tI3) (nl hs nSI) hA
    · exact vx_Zqof (tl hts tL4) (tl hts tI4) (nl hs nUS) hA
    · exact vx_Zqof (tl hts tL5) (tl hts tI4) (nl hs nSS) hA
    · exact trivial
  · intro C hC
    simp only [List.mem_cons, List.mem_nil_iff, or_false] at hC
    rcases hC with rfl | rfl | rfl
    · exact va_AO.of (tl hts tOq)
    · exact va_AO.of (tl hts tOl)
    · exact va_AO.of (tl hts tOt)
end
