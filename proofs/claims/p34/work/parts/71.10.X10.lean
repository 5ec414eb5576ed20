set_option maxRecDepth 100000 in
set_option maxHeartbeats 4000000 in
theorem i_X10_init {G : Gt} {l : Launch} (a : Nat) (ha : kd a = 9) : CtI G l yX10_init cX10_init 1 5 a 609 608 23820 (.inr (9, [.null, .int 0, .int 0, .null, .null, .null, .null, .null, .null])) := by
    refine met_c (by decide +kernel) rfl (by decide) ?_
    intro p e s m args below meth c Q ls X hin hW hr hl
    have hx := X.1.1
    have hb := X.1.2.1
    refine lv_aload_n hx hb dX10_init_0 rfl (lv_at hl 0 rfl) ?_
    refine o_obj X i_1_44 (by decide) (Nat.le_of_ble_eq_true rfl) hl.1 dX10_init_1 ?_
    refine lv_aload_n hx hb dX10_init_4 rfl (lv_at hl 0 rfl) ?_
    refine lv_sipush (v := 800) hx hb dX10_init_5 (by decide) ?_
    refine o_newa (atype := .int) (ty := .int) (t := 0) (N := 800) (a0 := (800, .inl (fun _ => 0))) X hW i_1_139 rfl rfl (fun _ h => by cases h) rfl ((va_up_ne _ _ (by omega)).trans (z0_11 G (ki_X10_1 ha).1 (ki_X10_1 ha).2)) (by decide +kernel) (by decide +kernel) (Nat.le_of_ble_eq_true rfl) (Nat.le_of_ble_eq_true rfl) (Nat.le_of_ble_eq_true rfl) dX10_init_8 fun H hW => ?_
    have hW : CW G (va_up (ct G σ0) a (.inr (9, [.null, .int 0, .int 0, .null, .null, .null, .null, .null, .null]))) a 2 s _ _ := hW
    refine o_put (k := 0) (v := .ref (gz G + (a + 1))) (ty := .array .int) X hW (by decide) inTB_X10 tyX10 tyX10_ok nmX10 rfl (by decide) i_2_66 (fun _ => ⟨hin, rfl⟩) (by decide +kernel) rfl rfl (Nat.le_of_ble_eq_true rfl) dX10_init_10 fun H locs hW => ?_
    have hW : CW G (va_up (ct G σ0) a (.inr (9, [.ref (gz G + (a + 1)), .int 0, .int 0, .null, .null, .null, .null, .null, .null]))) a 2 s _ _ := hW
    refine lv_aload_n hx hb dX10_init_13 rfl (lv_at hl 0 rfl) ?_
    refine lv_iconst (v := 0) hx hb dX10_init_14 (by decide) ?_
    refine o_put (k := 1) (v := .int 0) (ty := .int) X hW (by decide) inTB_X10 tyX10 tyX10_ok nmX10 rfl (by decide) i_2_67 (fun _ => ⟨hin, rfl⟩) (by decide +kernel) rfl rfl (Nat.le_of_ble_eq_true rfl) dX10_init_15 fun H locs hW => ?_
    have hW : CW G (va_up (ct G σ0) a (.inr (9, [.ref (gz G + (a + 1)), .int 0, .int 0, .null, .null, .null, .null, .null, .null]))) a 2 s _ _ := hW
    refine lv_aload_n hx hb dX10_init_18 rfl (lv_at hl 0 rfl) ?_
    refine lv_iconst (v := (-1)) hx hb dX10_init_19 (by decide) ?_
    refine o_put (k := 2) (v := .int (-1)) (ty := .int) X hW (by decide) inTB_X10 tyX10 tyX10_ok nmX10 rfl (by decide) i_2_68 (fun _ => ⟨hin, rfl⟩) (by decide +kernel) rfl rfl (Nat.le_of_ble_eq_true rfl) dX10_init_20 fun H locs hW => ?_
    have hW : CW G (va_up (ct G σ0) a (.inr (9, [.ref (gz G + (a + 1)), .int 0, .int (-1), .null, .null, .null, .null, .null, .null]))) a 2 s _ _ := hW
    refine lv_aload_n hx hb dX10_init_23 rfl (lv_at hl 0 rfl) ?_
    have hW : CW G (va_up (va_up (ct G σ0) a (.inr (9, [.ref (gz G + (a + 1)), .int 0, .int (-1), .null, .null, .null, .null, .null, .null]))) (a + 2) (.inr (2, [.null, .null, .int 0, .int 0, .null, .int 0, .null, .int 0]))) a 2 s _ _ := hW.to (fun j hj => (va_up_ne _ _ (by omega)).symm)
    refine o_new (ci := 2) (fs := [.null, .null, .int 0, .int 0, .null, .int 0, .null, .int 0]) X hW inTB_X2 tyX2 tyX2_ok rfl (va_up_self _ _ _) (by decide +kernel) i_1_47 i_1_48 i_1_19 (Nat.le_of_ble_eq_true rfl) (Nat.le_of_ble_eq_true rfl) dX10_init_24 fun H hW => ?_
    refine lv_dup hx hb dX10_init_27 rfl ?_
    refine o_callI X hW (va_up_self _ _ _) i_1_49 i_1_50 mv_X2_init rfl (i_X2_init (a + 2) (ki_X10_2 ha).1) (by decide) (Nat.le_of_ble_eq_true rfl) hl.1 dX10_init_28 (Nat.le_of_ble_eq_true rfl) (Nat.le_of_ble_eq_true rfl) (va_up (ct G σ0) a (.inr (9, [.ref (gz G + (a + 1)), .int 0, .int (-1), .null, .null, .null, .null, .null, .null]))) (fun j hj => va_up_ne _ _ (by omega)) (fun j hj => (va_up_ne _ _ (by omega))) fun H locs hW => ?_
    have hW : CW G (va_up (ct G σ0) a (.inr (9, [.ref (gz G + (a + 1)), .int 0, .int (-1), .null, .null, .null, .null, .null, .null]))) a 61 s _ _ := hW
    refine o_put (k := 3) (v := .ref (gz G + (a + 2))) (ty := .object "QuestLedger$Ledger") X hW (by decide) inTB_X10 tyX10 tyX10_ok nmX10 rfl (by decide) i_2_69 (fun _ => ⟨hin, rfl⟩) (by decide +kernel) rfl rfl (Nat.le_of_ble_eq_true rfl) dX10_init_31 fun H locs hW => ?_
    have hW : CW G (va_up (ct G σ0) a (.inr (9, [.ref (gz G + (a + 1)), .int 0, .int (-1), .ref (gz G + (a + 2)), .null, .null, .null, .null, .null]))) a 61 s _ _ := hW
    refine lv_aload_n hx hb dX10_init_34 rfl (lv_at hl 0 rfl) ?_
    have hW : CW G (va_up (va_up (ct G σ0) a (.inr (9, [.ref (gz G + (a + 1)), .int 0, .int (-1), .ref (gz G + (a + 2)), .null, .null, .null, .null, .null]))) (a + 61) (.inr (2, [.null, .null, .int 0, .int 0, .null, .int 0, .null, .int 0]))) a 61 s _ _ := hW.to (fun j hj => (va_up_ne _ _ (by omega)).symm)
    refine o_new (ci := 2) (fs := [.null, .null, .int 0, .int 0, .null, .int 0, .null, .int 0]) X hW inTB_X2 tyX2 tyX2_ok rfl (va_up_self _ _ _) (by decide +kernel) i_1_47 i_1_48 i_1_19 (Nat.le_of_ble_eq_true rfl) (Nat.le_of_ble_eq_true rfl) dX10_init_35 fun H hW => ?_
    refine lv_dup hx hb dX10_init_38 rfl ?_
    refine o_callI X hW (va_up_self _ _ _) i_1_49 i_1_50 mv_X2_init rfl (i_X2_init (a + 61) (ki_X10_61 ha).1) (by decide) (Nat.le_of_ble_eq_true rfl) hl.1 dX10_init_39 (Nat.le_of_ble_eq_true rfl) (Nat.le_of_ble_eq_true rfl) (va_up (ct G σ0) a (.inr (9, [.ref (gz G + (a + 1)), .int 0, .int (-1), .ref (gz G + (a + 2)), .null, .null, .null, .null, .null]))) (fun j hj => va_up_ne _ _ (by omega)) (fun j hj => (va_up_ne _ _ (by omega))) fun H locs hW => ?_
    have hW : CW G (va_up (ct G σ0) a (.inr (9, [.ref (gz G + (a + 1)), .int 0, .int (-1), .ref (gz G + (a + 2)), .null, .null, .null, .null, .null]))) a 120 s _ _ := hW
    refine o_put (k := 4) (v := .ref (gz G + (a + 61))) (ty := .object "QuestLedger$Ledger") X hW (by decide) inTB_X10 tyX10 tyX10_ok nmX10 rfl (by decide) i_2_70 (fun _ => ⟨hin, rfl⟩) (by decide +kernel) rfl rfl (Nat.le_of_ble_eq_true rfl) dX10_init_42 fun H locs hW => ?_
    have hW : CW G (va_up (ct G σ0) a (.inr (9, [.ref (gz G + (a + 1)), .int 0, .int (-1), .ref (gz G + (a + 2)), .ref (gz G + (a + 61)), .null, .null, .null, .null]))) a 120 s _ _ := hW
    refine lv_aload_n hx hb dX10_init_45 rfl (lv_at hl 0 rfl) ?_
    have hW : CW G (va_up (va_up (ct G σ0) a (.inr (9, [.ref (gz G + (a + 1)), .int 0, .int (-1), .ref (gz G + (a + 2)), .ref (gz G + (a + 61)), .null, .null, .null, .null]))) (a + 120) (.inr (1, [.null, .int 0, .int 0]))) a 120 s _ _ := hW.to (fun j hj => (va_up_ne _ _ (by omega)).symm)
    refine o_new (ci := 1) (fs := [.null, .int 0, .int 0]) X hW inTB_X1 tyX1 tyX1_ok rfl (va_up_self _ _ _) (by decide +kernel) i_1_177 i_1_178 i_1_21 (Nat.le_of_ble_eq_true rfl) (Nat.le_of_ble_eq_true rfl) dX10_init_46 fun H hW => ?_
    refine lv_dup hx hb dX10_init_49 rfl ?_
    refine o_callI X hW (va_up_self _ _ _) i_1_179 i_1_180 mv_X1_init rfl (i_X1_init (a + 120) (ki_X10_120 ha).1) (by decide) (Nat.le_of_ble_eq_true rfl) hl.1 dX10_init_50 (Nat.le_of_ble_eq_true rfl) (Nat.le_of_ble_eq_true rfl) (va_up (ct G σ0) a (.inr (9, [.ref (gz G + (a + 1)), .int 0, .int (-1), .ref (gz G + (a + 2)), .ref (gz G + (a + 61)), .null, .null, .null, .null]))) (fun j hj => va_up_ne _ _ (by omega)) (fun j hj => (va_up_ne _ _ (by omega))) fun H locs hW => ?_
    have hW : CW G (va_up (ct G σ0) a (.inr (9, [.ref (gz G + (a + 1)), .int 0, .int (-1), .ref (gz G + (a + 2)), .ref (gz G + (a + 61)), .null, .null, .null, .null]))) a 594 s _ _ := hW
    refine o_put (k := 5) (v := .ref (gz G + (a + 120))) (ty := .object "QuestLedger$History") X hW (by decide) inTB_X10 tyX10 tyX10_ok nmX10 rfl (by decide) i_2_71 (fun _ => ⟨hin, rfl⟩) (by decide +kernel) rfl rfl (Nat.le_of_ble_eq_true rfl) dX10_init_53 fun H locs hW => ?_
    have hW : CW G (va_up (ct G σ0) a (.inr (9, [.ref (gz G + (a + 1)), .int 0, .int (-1), .ref (gz G + (a + 2)), .ref (gz G + (a + 61)), .ref (gz G + (a + 120)), .null, .null, .null]))) a 594 s _ _ := hW
    refine lv_aload_n hx hb dX10_init_56 rfl (lv_at hl 0 rfl) ?_
    have hW : CW G (va_up (va_up (ct G σ0) a (.inr (9, [.ref (gz G + (a + 1)), .int 0, .int (-1), .ref (gz G + (a + 2)), .ref (gz G + (a + 61)), .ref (gz G + (a + 120)), .null, .null, .null]))) (a + 594) (.inr (4, [.null, .null, .null, .int 0, .int 0, .int 0]))) a 594 s _ _ := hW.to (fun j hj => (va_up_ne _ _ (by omega)).symm)
    refine o_new (ci := 4) (fs := [.null, .null, .null, .int 0, .int 0, .int 0]) X hW inTB_X4 tyX4 tyX4_ok rfl (va_up_self _ _ _) (by decide +kernel) i_1_196 i_1_197 i_1_22 (Nat.le_of_ble_eq_true rfl) (Nat.le_of_ble_eq_true rfl) dX10_init_57 fun H hW => ?_
    refine lv_dup hx hb dX10_init_60 rfl ?_
    refine o_callIN X hW (va_up_self _ _ _) i_1_198 i_1_199 mv_X4_init rfl (i_X4_init (a + 594) (ki_X10_594 ha).1) (by decide) (Nat.le_of_ble_eq_true rfl) hl.1 dX10_init_61 (Nat.le_of_ble_eq_true rfl) (Nat.le_of_ble_eq_true rfl) (va_up (ct G σ0) a (.inr (9, [.ref (gz G + (a + 1)), .int 0, .int (-1), .ref (gz G + (a + 2)), .ref (gz G + (a + 61)), .ref (gz G + (a + 120)), .null, .null, .null]))) (fun j hj => va_up_ne _ _ (by omega)) (fun j hj => (va_up_ne _ _ (by omega))) fun H locs hW => ?_
    have hW : CW G (va_up (ct G σ0) a (.inr (9, [.ref (gz G + (a + 1)), .int 0, .int (-1), .ref (gz G + (a + 2)), .ref (gz G + (a + 61)), .ref (gz G + (a + 120)), .null, .null, .null]))) a 602 s _ _ := hW
    refine o_put (k := 6) (v := .ref (gz G + (a + 594))) (ty := .object "QuestLedger$SetupReader") X hW (by decide) inTB_X10 tyX10 tyX10_ok nmX10 rfl (by decide) i_2_72 (fun _ => ⟨hin, rfl⟩) (by decide +kernel) rfl rfl (Nat.le_of_ble_eq_true rfl) dX10_init_64 fun H locs hW => ?_
    have hW : CW G (va_up (ct G σ0) a (.inr (9, [.ref (gz G + (a + 1)), .int 0, .int (-1), .ref (gz G + (a + 2)), .ref (gz G + (a + 61)), .ref (gz G + (a + 120)), .ref (gz G + (a + 594)), .null, .null]))) a 602 s _ _ := hW
    refine lv_aload_n hx hb dX10_init_67 rfl (lv_at hl 0 rfl) ?_
    have hW : CW G (va_up (va_up (ct G σ0) a (.inr (9, [.ref (gz G + (a + 1)), .int 0, .int (-1), .ref (gz G + (a + 2)), .ref (gz G + (a + 61)), .ref (gz G + (a + 120)), .ref (gz G + (a + 594)), .null, .null]))) (a + 602) (.inr (6, [.null, .null, .null, .long 0]))) a 602 s _ _ := hW.to (fun j hj => (va_up_ne _ _ (by omega)).symm)
    refine o_new (ci := 6) (fs := [.null, .null, .null, .long 0]) X hW inTB_X7 tyX7 tyX7_ok rfl (va_up_self _ _ _) (by decide +kernel) i_2_31 i_2_32 i_1_26 (Nat.le_of_ble_eq_true rfl) (Nat.le_of_ble_eq_true rfl) dX10_init_68 fun H hW => ?_
    refine lv_dup hx hb dX10_init_71 rfl ?_
    refine o_callIN X hW (va_up_self _ _ _) i_2_33 i_2_34 mv_X7_init rfl (i_X7_init (a + 602) (ki_X10_602 ha).1) (by decide) (Nat.le_of_ble_eq_true rfl) hl.1 dX10_init_72 (Nat.le_of_ble_eq_true rfl) (Nat.le_of_ble_eq_true rfl) (va_up (ct G σ0) a (.inr (9, [.ref (gz G + (a + 1)), .int 0, .int (-1), .ref (gz G + (a + 2)), .ref (gz G + (a + 61)), .ref (gz G + (a + 120)), .ref (gz G + (a + 594)), .null, .null]))) (fun j hj => va_up_ne _ _ (by omega)) (fun j hj => (va_up_ne _ _ (by omega))) fun H locs hW => ?_
    have hW : CW G (va_up (ct G σ0) a (.inr (9, [.ref (gz G + (a + 1)), .int 0, .int (-1), .ref (gz G + (a + 2)), .ref (gz G + (a + 61)), .ref (gz G + (a + 120)), .ref (gz G + (a + 594)), .null, .null]))) a 606 s _ _ := hW
    refine o_put (k := 7) (v := .ref (gz G + (a + 602))) (ty := .object "QuestLedger$Ways") X hW (by decide) inTB_X10 tyX10 tyX10_ok nmX10 rfl (by decide) i_2_73 (fun _ => ⟨hin, rfl⟩) (by decide +kernel) rfl rfl (Nat.le_of_ble_eq_true rfl) dX10_init_75 fun H locs hW => ?_
    have hW : CW G (va_up (ct G σ0) a (.inr (9, [.ref (gz G + (a + 1)), .int 0, .int (-1), .ref (gz G + (a + 2)), .ref (gz G + (a + 61)), .ref (gz G + (a + 120)), .ref (gz G + (a + 594)), .ref (gz G + (a + 602)), .null]))) a 606 s _ _ := hW
    refine lv_aload_n hx hb dX10_init_78 rfl (lv_at hl 0 rfl) ?_
    have hW : CW G (va_up (va_up (ct G σ0) a (.inr (9, [.ref (gz G + (a + 1)), .int 0, .int (-1), .ref (gz G + (a + 2)), .ref (gz G + (a + 61)), .ref (gz G + (a + 120)), .ref (gz G + (a + 594)), .ref (gz G + (a + 602)), .null]))) (a + 606) (.inr (7, [.null, .int 0, .null]))) a 606 s _ _ := hW.to (fun j hj => (va_up_ne _ _ (by omega)).symm)
    refine o_new (ci := 7) (fs := [.null, .int 0, .null]) X hW inTB_X8 tyX8 tyX8_ok rfl (va_up_self _ _ _) (by decide +kernel) i_2_50 i_2_51 i_1_27 (Nat.le_of_ble_eq_true rfl) (Nat.le_of_ble_eq_true rfl) dX10_init_79 fun H hW => ?_
    refine lv_dup hx hb dX10_init_82 rfl ?_
    refine o_callIN X hW (va_up_self _ _ _) i_2_52 i_2_53 mv_X8_init rfl (i_X8_init (a + 606) (ki_X10_606 ha).1) (by decide) (Nat.le_of_ble_eq_true rfl) hl.1 dX10_init_83 (Nat.le_of_ble_eq_true rfl) (Nat.le_of_ble_eq_true rfl) (va_up (ct G σ0) a (.inr (9, [.ref (gz G + (a + 1)), .int 0, .int (-1), .ref (gz G + (a + 2)), .ref (gz G + (a + 61)), .ref (gz G + (a + 120)), .ref (gz G + (a + 594)), .ref (gz G + (a + 602)), .null]))) (fun j hj => va_up_ne _ _ (by omega)) (fun j hj => (va_up_ne _ _ (by omega))) fun H locs hW => ?_
    have hW : CW G (va_up (ct G σ0) a (.inr (9, [.ref (gz G + (a + 1)), .int 0, .int (-1), .ref (gz G + (a + 2)), .ref (gz G + (a + 61)), .ref (gz G + (a + 120)), .ref (gz G + (a + 594)), .ref (gz G + (a + 602)), .null]))) a 609 s _ _ := hW
    refine o_put (k := 8) (v := .ref (gz G + (a + 606))) (ty := .object "QuestLedger$WorthMeter") X hW (by decide) inTB_X10 tyX10 tyX10_ok nmX10 rfl (by decide) i_2_74 (fun _ => ⟨hin, rfl⟩) (by decide +kernel) rfl rfl (Nat.le_of_ble_eq_true rfl) dX10_init_86 fun H locs hW => ?_
    have hW : CW G (va_up (ct G σ0) a (.inr (9, [.ref (gz G + (a + 1)), .int 0, .int (-1), .ref (gz G + (a + 2)), .ref (gz G + (a + 61)), .ref (gz G + (a + 120)), .ref (gz G + (a + 594)), .ref (gz G + (a + 602)), .ref (gz G + (a + 606))]))) a 609 s _ _ := hW
    have ez : ct G σ0 a = .inr (9, [.ref (gz G + (a + 1)), .int 0, .int (-1), .ref (gz G + (a + 2)), .ref (gz G + (a + 61)), .ref (gz G + (a + 120)), .ref (gz G + (a + 594)), .ref (gz G + (a + 602)), .ref (gz G + (a + 606))]) := by
      rw [ct_9 G σ0 ha]
      rw [show gI σ0 a 1 = 0 from z0_I (by rw [ha]; decide) (by rw [ha]; decide) (by rw [ha]; decide), show gI σ0 a 2 = -1 from if_pos (by rw [ha]; decide)]
    exact hr _ _ _ _ dX10_init_89 (hW.to (fun j hj => by rw [← ez, va_up_id]))
