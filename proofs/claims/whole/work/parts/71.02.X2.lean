set_option maxRecDepth 100000 in
set_option maxHeartbeats 4000000 in
theorem i_X2_init {G : Gt} {l : Launch} (a : Nat) (ha : kd a = 2) : CtI G l yX2_init cX2_init 2 3 a 59 58 1982 (.inr (2, [.null, .null, .int 0, .int 0, .null, .int 0, .null, .int 0])) := by
    refine met_c (by decide +kernel) rfl (by decide) ?_
    intro p e s m args below meth c Q ls X hin hW hr hl
    have hx := X.1.1
    have hb := X.1.2.1
    refine lv_aload_n hx hb dX2_init_0 rfl (lv_at hl 0 rfl) ?_
    refine o_obj X i_1_43 (by decide) (Nat.le_of_ble_eq_true rfl) hl.1 dX2_init_1 ?_
    refine lv_aload_n hx hb dX2_init_4 rfl (lv_at hl 0 rfl) ?_
    refine lv_bipush (v := 8) hx hb dX2_init_5 (by decide) ?_
    refine o_newa (atype := .int) (ty := .int) (t := 0) (N := 8) (a0 := (8, .inl (fun _ => 0))) X hW i_1_133 rfl rfl (fun _ h => by cases h) rfl ((va_up_ne _ _ (by omega)).trans (z0_11 G (ki_X2_1 ha).1 (ki_X2_1 ha).2)) (by decide +kernel) (by decide +kernel) (Nat.le_of_ble_eq_true rfl) (Nat.le_of_ble_eq_true rfl) (Nat.le_of_ble_eq_true rfl) dX2_init_7 fun H hW => ?_
    have hW : CW G (va_up (ct G σ0) a (.inr (2, [.null, .null, .int 0, .int 0, .null, .int 0, .null, .int 0]))) a 2 s _ _ := hW
    refine o_put (k := 0) (v := .ref (gz G + (a + 1))) (ty := .array .int) X hW (by decide) inTB_X2 tyX2 tyX2_ok nmX2 rfl (by decide) i_1_134 (fun _ => ⟨hin, rfl⟩) (by decide +kernel) rfl rfl (Nat.le_of_ble_eq_true rfl) dX2_init_9 fun H locs hW => ?_
    have hW : CW G (va_up (ct G σ0) a (.inr (2, [.ref (gz G + (a + 1)), .null, .int 0, .int 0, .null, .int 0, .null, .int 0]))) a 2 s _ _ := hW
    refine lv_aload_n hx hb dX2_init_12 rfl (lv_at hl 0 rfl) ?_
    refine lv_bipush (v := 40) hx hb dX2_init_13 (by decide) ?_
    refine o_newa (atype := .int) (ty := .int) (t := 0) (N := 40) (a0 := (40, .inl (fun _ => 0))) X hW i_1_133 rfl rfl (fun _ h => by cases h) rfl ((va_up_ne _ _ (by omega)).trans (z0_11 G (ki_X2_2 ha).1 (ki_X2_2 ha).2)) (by decide +kernel) (by decide +kernel) (Nat.le_of_ble_eq_true rfl) (Nat.le_of_ble_eq_true rfl) (Nat.le_of_ble_eq_true rfl) dX2_init_15 fun H hW => ?_
    have hW : CW G (va_up (ct G σ0) a (.inr (2, [.ref (gz G + (a + 1)), .null, .int 0, .int 0, .null, .int 0, .null, .int 0]))) a 3 s _ _ := hW
    refine o_put (k := 1) (v := .ref (gz G + (a + 2))) (ty := .array .int) X hW (by decide) inTB_X2 tyX2 tyX2_ok nmX2 rfl (by decide) i_1_137 (fun _ => ⟨hin, rfl⟩) (by decide +kernel) rfl rfl (Nat.le_of_ble_eq_true rfl) dX2_init_17 fun H locs hW => ?_
    have hW : CW G (va_up (ct G σ0) a (.inr (2, [.ref (gz G + (a + 1)), .ref (gz G + (a + 2)), .int 0, .int 0, .null, .int 0, .null, .int 0]))) a 3 s _ _ := hW
    refine lv_aload_n hx hb dX2_init_20 rfl (lv_at hl 0 rfl) ?_
    refine lv_iconst (v := 0) hx hb dX2_init_21 (by decide) ?_
    refine o_put (k := 2) (v := .int 0) (ty := .int) X hW (by decide) inTB_X2 tyX2 tyX2_ok nmX2 rfl (by decide) i_1_138 (fun _ => ⟨hin, rfl⟩) (by decide +kernel) rfl rfl (Nat.le_of_ble_eq_true rfl) dX2_init_22 fun H locs hW => ?_
    have hW : CW G (va_up (ct G σ0) a (.inr (2, [.ref (gz G + (a + 1)), .ref (gz G + (a + 2)), .int 0, .int 0, .null, .int 0, .null, .int 0]))) a 3 s _ _ := hW
    refine lv_aload_n hx hb dX2_init_25 rfl (lv_at hl 0 rfl) ?_
    refine lv_iconst (v := 0) hx hb dX2_init_26 (by decide) ?_
    refine o_put (k := 3) (v := .int 0) (ty := .int) X hW (by decide) inTB_X2 tyX2 tyX2_ok nmX2 rfl (by decide) i_1_140 (fun _ => ⟨hin, rfl⟩) (by decide +kernel) rfl rfl (Nat.le_of_ble_eq_true rfl) dX2_init_27 fun H locs hW => ?_
    have hW : CW G (va_up (ct G σ0) a (.inr (2, [.ref (gz G + (a + 1)), .ref (gz G + (a + 2)), .int 0, .int 0, .null, .int 0, .null, .int 0]))) a 3 s _ _ := hW
    refine lv_aload_n hx hb dX2_init_30 rfl (lv_at hl 0 rfl) ?_
    refine lv_bipush (v := 6) hx hb dX2_init_31 (by decide) ?_
    have hW : CW G (va_up (va_up (ct G σ0) (a + 3) (.inl (gty G 5, 6, .inr (.inr (.inr (.inr (fun _ => none))))))) a (.inr (2, [.ref (gz G + (a + 1)), .ref (gz G + (a + 2)), .int 0, .int 0, .null, .int 0, .null, .int 0]))) a 3 s _ _ := hW.to (fun j hj => (o_swap (by omega) (by omega)).symm)
    refine o_newq (t := 5) (N := 6) X hW i_1_44 (by decide) rfl ((va_up_ne _ _ (by omega)).trans (va_up_self _ _ _)) (by decide +kernel) (by decide +kernel) (Nat.le_of_ble_eq_true rfl) (Nat.le_of_ble_eq_true rfl) (Nat.le_of_ble_eq_true rfl) dX2_init_33 fun H hW => ?_
    have hW : CW G (va_up (va_up (ct G σ0) (a + 3) (.inl (gty G 5, 6, .inr (.inr (.inr (.inr (fun _ => none))))))) a (.inr (2, [.ref (gz G + (a + 1)), .ref (gz G + (a + 2)), .int 0, .int 0, .null, .int 0, .null, .int 0]))) a 4 s _ _ := hW
    refine o_put (k := 4) (v := .ref (gz G + (a + 3))) (ty := .array (.object "QuestLedger$Quest")) X hW (by decide) inTB_X2 tyX2 tyX2_ok nmX2 rfl (by decide) i_1_143 (fun _ => ⟨hin, rfl⟩) (by decide +kernel) rfl rfl (Nat.le_of_ble_eq_true rfl) dX2_init_36 fun H locs hW => ?_
    have hW : CW G (va_up (va_up (ct G σ0) (a + 3) (.inl (gty G 5, 6, .inr (.inr (.inr (.inr (fun _ => none))))))) a (.inr (2, [.ref (gz G + (a + 1)), .ref (gz G + (a + 2)), .int 0, .int 0, .ref (gz G + (a + 3)), .int 0, .null, .int 0]))) a 4 s _ _ := hW
    refine lv_aload_n hx hb dX2_init_39 rfl (lv_at hl 0 rfl) ?_
    refine lv_iconst (v := 0) hx hb dX2_init_40 (by decide) ?_
    refine o_put (k := 5) (v := .int 0) (ty := .int) X hW (by decide) inTB_X2 tyX2 tyX2_ok nmX2 rfl (by decide) i_1_146 (fun _ => ⟨hin, rfl⟩) (by decide +kernel) rfl rfl (Nat.le_of_ble_eq_true rfl) dX2_init_41 fun H locs hW => ?_
    have hW : CW G (va_up (va_up (ct G σ0) (a + 3) (.inl (gty G 5, 6, .inr (.inr (.inr (.inr (fun _ => none))))))) a (.inr (2, [.ref (gz G + (a + 1)), .ref (gz G + (a + 2)), .int 0, .int 0, .ref (gz G + (a + 3)), .int 0, .null, .int 0]))) a 4 s _ _ := hW
    refine lv_aload_n hx hb dX2_init_44 rfl (lv_at hl 0 rfl) ?_
    refine lv_sipush (v := 800) hx hb dX2_init_45 (by decide) ?_
    refine o_newa (atype := .int) (ty := .int) (t := 0) (N := 800) (a0 := (800, .inl (fun _ => 0))) X hW i_1_133 rfl rfl (fun _ h => by cases h) rfl ((va_up_ne _ _ (by omega)).trans ((va_up_ne _ _ (by omega)).trans (z0_11 G (ki_X2_4 ha).1 (ki_X2_4 ha).2))) (by decide +kernel) (by decide +kernel) (Nat.le_of_ble_eq_true rfl) (Nat.le_of_ble_eq_true rfl) (Nat.le_of_ble_eq_true rfl) dX2_init_48 fun H hW => ?_
    have hW : CW G (va_up (va_up (ct G σ0) (a + 3) (.inl (gty G 5, 6, .inr (.inr (.inr (.inr (fun _ => none))))))) a (.inr (2, [.ref (gz G + (a + 1)), .ref (gz G + (a + 2)), .int 0, .int 0, .ref (gz G + (a + 3)), .int 0, .null, .int 0]))) a 5 s _ _ := hW
    refine o_put (k := 6) (v := .ref (gz G + (a + 4))) (ty := .array .int) X hW (by decide) inTB_X2 tyX2 tyX2_ok nmX2 rfl (by decide) i_1_149 (fun _ => ⟨hin, rfl⟩) (by decide +kernel) rfl rfl (Nat.le_of_ble_eq_true rfl) dX2_init_50 fun H locs hW => ?_
    have hW : CW G (va_up (va_up (ct G σ0) (a + 3) (.inl (gty G 5, 6, .inr (.inr (.inr (.inr (fun _ => none))))))) a (.inr (2, [.ref (gz G + (a + 1)), .ref (gz G + (a + 2)), .int 0, .int 0, .ref (gz G + (a + 3)), .int 0, .ref (gz G + (a + 4)), .int 0]))) a 5 s _ _ := hW
    refine lv_aload_n hx hb dX2_init_53 rfl (lv_at hl 0 rfl) ?_
    refine lv_iconst (v := 0) hx hb dX2_init_54 (by decide) ?_
    refine o_put (k := 7) (v := .int 0) (ty := .int) X hW (by decide) inTB_X2 tyX2 tyX2_ok nmX2 rfl (by decide) i_1_151 (fun _ => ⟨hin, rfl⟩) (by decide +kernel) rfl rfl (Nat.le_of_ble_eq_true rfl) dX2_init_55 fun H locs hW => ?_
    have hW : CW G (va_up (va_up (ct G σ0) (a + 3) (.inl (gty G 5, 6, .inr (.inr (.inr (.inr (fun _ => none))))))) a (.inr (2, [.ref (gz G + (a + 1)), .ref (gz G + (a + 2)), .int 0, .int 0, .ref (gz G + (a + 3)), .int 0, .ref (gz G + (a + 4)), .int 0]))) a 5 s _ _ := hW
    refine lv_iconst (v := 0) hx hb dX2_init_58 (by decide) ?_
    refine lv_istore_n hx hb dX2_init_59 rfl hl (by decide) (lv' := [(1, .int 0), (0, .ref (gz G + a))]) rfl fun ls hl => ?_
    refine lv_iload_n hx hb dX2_init_60 rfl (lv_at hl 0 rfl) ?_
    refine lv_bipush (v := 6) hx hb dX2_init_61 (by decide) ?_
    refine lv_icmp_ge (tgt := 85) hx hb dX2_init_63 (by decide) (fun q => absurd q (by decide)) (fun _ => ?_)
    refine lv_aload_n hx hb dX2_init_66 rfl (lv_at hl 1 rfl) ?_
    refine o_get (k := 4) (v := .ref (gz G + (a + 3))) X hW (by decide) inTB_X2 rfl (by decide) i_1_143 rfl dX2_init_67 ?_
    refine lv_iload_n hx hb dX2_init_70 rfl (lv_at hl 0 rfl) ?_
    have hW : CW G (va_up (va_up (va_up (ct G σ0) (a + 3) (.inl (gty G 5, 6, .inr (.inr (.inr (.inr (fun _ => none))))))) a (.inr (2, [.ref (gz G + (a + 1)), .ref (gz G + (a + 2)), .int 0, .int 0, .ref (gz G + (a + 3)), .int 0, .ref (gz G + (a + 4)), .int 0]))) (a + 5) (.inr (3, [.int 0, .int 0, .int 0, .int 0, .int 0, .long 0, .null, .null, .null, .null, .null, .null, .null, .null]))) a 5 s _ _ := hW.to (fun j hj => (va_up_ne _ _ (by omega)).symm)
    refine o_new (ci := 3) (fs := [.int 0, .int 0, .int 0, .int 0, .int 0, .long 0, .null, .null, .null, .null, .null, .null, .null, .null]) X hW inTB_X3 tyX3 tyX3_ok rfl (va_up_self _ _ _) (by decide +kernel) i_1_44 i_1_46 i_1_3 (Nat.le_of_ble_eq_true rfl) (Nat.le_of_ble_eq_true rfl) dX2_init_71 fun H hW => ?_
    refine lv_dup hx hb dX2_init_74 rfl ?_
    refine o_callIN X hW (va_up_self _ _ _) i_1_47 i_1_48 mv_X3_init rfl (i_X3_init (a + 5) (ki_X2_5 ha).1) (by decide) (Nat.le_of_ble_eq_true rfl) hl.1 dX2_init_75 (Nat.le_of_ble_eq_true rfl) (Nat.le_of_ble_eq_true rfl) (va_up (va_up (ct G σ0) (a + 3) (.inl (gty G 5, 6, .inr (.inr (.inr (.inr (fun _ => none))))))) a (.inr (2, [.ref (gz G + (a + 1)), .ref (gz G + (a + 2)), .int 0, .int 0, .ref (gz G + (a + 3)), .int 0, .ref (gz G + (a + 4)), .int 0]))) (fun j hj => va_up_ne _ _ (by omega)) (fun j hj => ((va_up_ne _ _ (by omega)).trans (va_up_ne _ _ (by omega)))) fun H locs hW => ?_
    have hW : CW G (va_up (va_up (ct G σ0) (a + 3) (.inl (gty G 5, 6, .inr (.inr (.inr (.inr (fun _ => none))))))) a (.inr (2, [.ref (gz G + (a + 1)), .ref (gz G + (a + 2)), .int 0, .int 0, .ref (gz G + (a + 3)), .int 0, .ref (gz G + (a + 4)), .int 0]))) a 14 s _ _ := hW
    refine o_ast (t := 5) (q := 3) (b := 5) (f := (fun _ => none)) X hW (by decide) ((va_up_ne _ _ (by omega)).trans (va_up_self _ _ _)) rfl (by decide) ((va_up_ne _ _ (by omega)).trans ((va_up_ne _ _ (by omega)).trans (ct_3 G σ0 (ki_X2_5 ha).1))) rfl (by decide) dX2_init_78 fun H locs hW => ?_
    have hW : CW G (va_up (va_up (ct G σ0) (a + 3) (.inl (gty G 5, 6, .inr (.inr (.inr (.inr (va_up (fun _ => none) 0 (some (gz G + (a + 5)))))))))) a (.inr (2, [.ref (gz G + (a + 1)), .ref (gz G + (a + 2)), .int 0, .int 0, .ref (gz G + (a + 3)), .int 0, .ref (gz G + (a + 4)), .int 0]))) a 14 s _ _ := hW.to (fun j hj => o_swap2 (by omega))
    refine lv_iinc (k := 0) (v := 1) hx hb dX2_init_79 hl rfl (by decide) (by decide) (lv' := [(1, .int 1), (0, .ref (gz G + a))]) rfl fun ls hl => ?_
    refine lv_goto (tgt := 60) hx hb dX2_init_82 (by decide) ?_
    refine lv_iload_n hx hb dX2_init_60 rfl (lv_at hl 0 rfl) ?_
    refine lv_bipush (v := 6) hx hb dX2_init_61 (by decide) ?_
    refine lv_icmp_ge (tgt := 85) hx hb dX2_init_63 (by decide) (fun q => absurd q (by decide)) (fun _ => ?_)
    refine lv_aload_n hx hb dX2_init_66 rfl (lv_at hl 1 rfl) ?_
    refine o_get (k := 4) (v := .ref (gz G + (a + 3))) X hW (by decide) inTB_X2 rfl (by decide) i_1_143 rfl dX2_init_67 ?_
    refine lv_iload_n hx hb dX2_init_70 rfl (lv_at hl 0 rfl) ?_
    have hW : CW G (va_up (va_up (va_up (ct G σ0) (a + 3) (.inl (gty G 5, 6, .inr (.inr (.inr (.inr (va_up (fun _ => none) 0 (some (gz G + (a + 5)))))))))) a (.inr (2, [.ref (gz G + (a + 1)), .ref (gz G + (a + 2)), .int 0, .int 0, .ref (gz G + (a + 3)), .int 0, .ref (gz G + (a + 4)), .int 0]))) (a + 14) (.inr (3, [.int 0, .int 0, .int 0, .int 0, .int 0, .long 0, .null, .null, .null, .null, .null, .null, .null, .null]))) a 14 s _ _ := hW.to (fun j hj => (va_up_ne _ _ (by omega)).symm)
    refine o_new (ci := 3) (fs := [.int 0, .int 0, .int 0, .int 0, .int 0, .long 0, .null, .null, .null, .null, .null, .null, .null, .null]) X hW inTB_X3 tyX3 tyX3_ok rfl (va_up_self _ _ _) (by decide +kernel) i_1_44 i_1_46 i_1_3 (Nat.le_of_ble_eq_true rfl) (Nat.le_of_ble_eq_true rfl) dX2_init_71 fun H hW => ?_
    refine lv_dup hx hb dX2_init_74 rfl ?_
    refine o_callIN X hW (va_up_self _ _ _) i_1_47 i_1_48 mv_X3_init rfl (i_X3_init (a + 14) (ki_X2_14 ha).1) (by decide) (Nat.le_of_ble_eq_true rfl) hl.1 dX2_init_75 (Nat.le_of_ble_eq_true rfl) (Nat.le_of_ble_eq_true rfl) (va_up (va_up (ct G σ0) (a + 3) (.inl (gty G 5, 6, .inr (.inr (.inr (.inr (va_up (fun _ => none) 0 (some (gz G + (a + 5)))))))))) a (.inr (2, [.ref (gz G + (a + 1)), .ref (gz G + (a + 2)), .int 0, .int 0, .ref (gz G + (a + 3)), .int 0, .ref (gz G + (a + 4)), .int 0]))) (fun j hj => va_up_ne _ _ (by omega)) (fun j hj => ((va_up_ne _ _ (by omega)).trans (va_up_ne _ _ (by omega)))) fun H locs hW => ?_
    have hW : CW G (va_up (va_up (ct G σ0) (a + 3) (.inl (gty G 5, 6, .inr (.inr (.inr (.inr (va_up (fun _ => none) 0 (some (gz G + (a + 5)))))))))) a (.inr (2, [.ref (gz G + (a + 1)), .ref (gz G + (a + 2)), .int 0, .int 0, .ref (gz G + (a + 3)), .int 0, .ref (gz G + (a + 4)), .int 0]))) a 23 s _ _ := hW
    refine o_ast (t := 5) (q := 3) (b := 14) (f := (va_up (fun _ => none) 0 (some (gz G + (a + 5))))) X hW (by decide) ((va_up_ne _ _ (by omega)).trans (va_up_self _ _ _)) rfl (by decide) ((va_up_ne _ _ (by omega)).trans ((va_up_ne _ _ (by omega)).trans (ct_3 G σ0 (ki_X2_14 ha).1))) rfl (by decide) dX2_init_78 fun H locs hW => ?_
    have hW : CW G (va_up (va_up (ct G σ0) (a + 3) (.inl (gty G 5, 6, .inr (.inr (.inr (.inr (va_up (va_up (fun _ => none) 0 (some (gz G + (a + 5)))) 1 (some (gz G + (a + 14)))))))))) a (.inr (2, [.ref (gz G + (a + 1)), .ref (gz G + (a + 2)), .int 0, .int 0, .ref (gz G + (a + 3)), .int 0, .ref (gz G + (a + 4)), .int 0]))) a 23 s _ _ := hW.to (fun j hj => o_swap2 (by omega))
    refine lv_iinc (k := 0) (v := 2) hx hb dX2_init_79 hl rfl (by decide) (by decide) (lv' := [(1, .int 2), (0, .ref (gz G + a))]) rfl fun ls hl => ?_
    refine lv_goto (tgt := 60) hx hb dX2_init_82 (by decide) ?_
    refine lv_iload_n hx hb dX2_init_60 rfl (lv_at hl 0 rfl) ?_
    refine lv_bipush (v := 6) hx hb dX2_init_61 (by decide) ?_
    refine lv_icmp_ge (tgt := 85) hx hb dX2_init_63 (by decide) (fun q => absurd q (by decide)) (fun _ => ?_)
    refine lv_aload_n hx hb dX2_init_66 rfl (lv_at hl 1 rfl) ?_
    refine o_get (k := 4) (v := .ref (gz G + (a + 3))) X hW (by decide) inTB_X2 rfl (by decide) i_1_143 rfl dX2_init_67 ?_
    refine lv_iload_n hx hb dX2_init_70 rfl (lv_at hl 0 rfl) ?_
    have hW : CW G (va_up (va_up (va_up (ct G σ0) (a + 3) (.inl (gty G 5, 6, .inr (.inr (.inr (.inr (va_up (va_up (fun _ => none) 0 (some (gz G + (a + 5)))) 1 (some (gz G + (a + 14)))))))))) a (.inr (2, [.ref (gz G + (a + 1)), .ref (gz G + (a + 2)), .int 0, .int 0, .ref (gz G + (a + 3)), .int 0, .ref (gz G + (a + 4)), .int 0]))) (a + 23) (.inr (3, [.int 0, .int 0, .int 0, .int 0, .int 0, .long 0, .null, .null, .null, .null, .null, .null, .null, .null]))) a 23 s _ _ := hW.to (fun j hj => (va_up_ne _ _ (by omega)).symm)
    refine o_new (ci := 3) (fs := [.int 0, .int 0, .int 0, .int 0, .int 0, .long 0, .null, .null, .null, .null, .null, .null, .null, .null]) X hW inTB_X3 tyX3 tyX3_ok rfl (va_up_self _ _ _) (by decide +kernel) i_1_44 i_1_46 i_1_3 (Nat.le_of_ble_eq_true rfl) (Nat.le_of_ble_eq_true rfl) dX2_init_71 fun H hW => ?_
    refine lv_dup hx hb dX2_init_74 rfl ?_
    refine o_callIN X hW (va_up_self _ _ _) i_1_47 i_1_48 mv_X3_init rfl (i_X3_init (a + 23) (ki_X2_23 ha).1) (by decide) (Nat.le_of_ble_eq_true rfl) hl.1 dX2_init_75 (Nat.le_of_ble_eq_true rfl) (Nat.le_of_ble_eq_true rfl) (va_up (va_up (ct G σ0) (a + 3) (.inl (gty G 5, 6, .inr (.inr (.inr (.inr (va_up (va_up (fun _ => none) 0 (some (gz G + (a + 5)))) 1 (some (gz G + (a + 14)))))))))) a (.inr (2, [.ref (gz G + (a + 1)), .ref (gz G + (a + 2)), .int 0, .int 0, .ref (gz G + (a + 3)), .int 0, .ref (gz G + (a + 4)), .int 0]))) (fun j hj => va_up_ne _ _ (by omega)) (fun j hj => ((va_up_ne _ _ (by omega)).trans (va_up_ne _ _ (by omega)))) fun H locs hW => ?_
    have hW : CW G (va_up (va_up (ct G σ0) (a + 3) (.inl (gty G 5, 6, .inr (.inr (.inr (.inr (va_up (va_up (fun _ => none) 0 (some (gz G + (a + 5)))) 1 (some (gz G + (a + 14)))))))))) a (.inr (2, [.ref (gz G + (a + 1)), .ref (gz G + (a + 2)), .int 0, .int 0, .ref (gz G + (a + 3)), .int 0, .ref (gz G + (a + 4)), .int 0]))) a 32 s _ _ := hW
    refine o_ast (t := 5) (q := 3) (b := 23) (f := (va_up (va_up (fun _ => none) 0 (some (gz G + (a + 5)))) 1 (some (gz G + (a + 14))))) X hW (by decide) ((va_up_ne _ _ (by omega)).trans (va_up_self _ _ _)) rfl (by decide) ((va_up_ne _ _ (by omega)).trans ((va_up_ne _ _ (by omega)).trans (ct_3 G σ0 (ki_X2_23 ha).1))) rfl (by decide) dX2_init_78 fun H locs hW => ?_
    have hW : CW G (va_up (va_up (ct G σ0) (a + 3) (.inl (gty G 5, 6, .inr (.inr (.inr (.inr (va_up (va_up (va_up (fun _ => none) 0 (some (gz G + (a + 5)))) 1 (some (gz G + (a + 14)))) 2 (some (gz G + (a + 23)))))))))) a (.inr (2, [.ref (gz G + (a + 1)), .ref (gz G + (a + 2)), .int 0, .int 0, .ref (gz G + (a + 3)), .int 0, .ref (gz G + (a + 4)), .int 0]))) a 32 s _ _ := hW.to (fun j hj => o_swap2 (by omega))
    refine lv_iinc (k := 0) (v := 3) hx hb dX2_init_79 hl rfl (by decide) (by decide) (lv' := [(1, .int 3), (0, .ref (gz G + a))]) rfl fun ls hl => ?_
    refine lv_goto (tgt := 60) hx hb dX2_init_82 (by decide) ?_
    refine lv_iload_n hx hb dX2_init_60 rfl (lv_at hl 0 rfl) ?_
    refine lv_bipush (v := 6) hx hb dX2_init_61 (by decide) ?_
    refine lv_icmp_ge (tgt := 85) hx hb dX2_init_63 (by decide) (fun q => absurd q (by decide)) (fun _ => ?_)
    refine lv_aload_n hx hb dX2_init_66 rfl (lv_at hl 1 rfl) ?_
    refine o_get (k := 4) (v := .ref (gz G + (a + 3))) X hW (by decide) inTB_X2 rfl (by decide) i_1_143 rfl dX2_init_67 ?_
    refine lv_iload_n hx hb dX2_init_70 rfl (lv_at hl 0 rfl) ?_
    have hW : CW G (va_up (va_up (va_up (ct G σ0) (a + 3) (.inl (gty G 5, 6, .inr (.inr (.inr (.inr (va_up (va_up (va_up (fun _ => none) 0 (some (gz G + (a + 5)))) 1 (some (gz G + (a + 14)))) 2 (some (gz G + (a + 23)))))))))) a (.inr (2, [.ref (gz G + (a + 1)), .ref (gz G + (a + 2)), .int 0, .int 0, .ref (gz G + (a + 3)), .int 0, .ref (gz G + (a + 4)), .int 0]))) (a + 32) (.inr (3, [.int 0, .int 0, .int 0, .int 0, .int 0, .long 0, .null, .null, .null, .null, .null, .null, .null, .null]))) a 32 s _ _ := hW.to (fun j hj => (va_up_ne _ _ (by omega)).symm)
    refine o_new (ci := 3) (fs := [.int 0, .int 0, .int 0, .int 0, .int 0, .long 0, .null, .null, .null, .null, .null, .null, .null, .null]) X hW inTB_X3 tyX3 tyX3_ok rfl (va_up_self _ _ _) (by decide +kernel) i_1_44 i_1_46 i_1_3 (Nat.le_of_ble_eq_true rfl) (Nat.le_of_ble_eq_true rfl) dX2_init_71 fun H hW => ?_
    refine lv_dup hx hb dX2_init_74 rfl ?_
    refine o_callIN X hW (va_up_self _ _ _) i_1_47 i_1_48 mv_X3_init rfl (i_X3_init (a + 32) (ki_X2_32 ha).1) (by decide) (Nat.le_of_ble_eq_true rfl) hl.1 dX2_init_75 (Nat.le_of_ble_eq_true rfl) (Nat.le_of_ble_eq_true rfl) (va_up (va_up (ct G σ0) (a + 3) (.inl (gty G 5, 6, .inr (.inr (.inr (.inr (va_up (va_up (va_up (fun _ => none) 0 (some (gz G + (a + 5)))) 1 (some (gz G + (a + 14)))) 2 (some (gz G + (a + 23)))))))))) a (.inr (2, [.ref (gz G + (a + 1)), .ref (gz G + (a + 2)), .int 0, .int 0, .ref (gz G + (a + 3)), .int 0, .ref (gz G + (a + 4)), .int 0]))) (fun j hj => va_up_ne _ _ (by omega)) (fun j hj => ((va_up_ne _ _ (by omega)).trans (va_up_ne _ _ (by omega)))) fun H locs hW => ?_
    have hW : CW G (va_up (va_up (ct G σ0) (a + 3) (.inl (gty G 5, 6, .inr (.inr (.inr (.inr (va_up (va_up (va_up (fun _ => none) 0 (some (gz G + (a + 5)))) 1 (some (gz G + (a + 14)))) 2 (some (gz G + (a + 23)))))))))) a (.inr (2, [.ref (gz G + (a + 1)), .ref (gz G + (a + 2)), .int 0, .int 0, .ref (gz G + (a + 3)), .int 0, .ref (gz G + (a + 4)), .int 0]))) a 41 s _ _ := hW
    refine o_ast (t := 5) (q := 3) (b := 32) (f := (va_up (va_up (va_up (fun _ => none) 0 (some (gz G + (a + 5)))) 1 (some (gz G + (a + 14)))) 2 (some (gz G + (a + 23))))) X hW (by decide) ((va_up_ne _ _ (by omega)).trans (va_up_self _ _ _)) rfl (by decide) ((va_up_ne _ _ (by omega)).trans ((va_up_ne _ _ (by omega)).trans (ct_3 G σ0 (ki_X2_32 ha).1))) rfl (by decide) dX2_init_78 fun H locs hW => ?_
    have hW : CW G (va_up (va_up (ct G σ0) (a + 3) (.inl (gty G 5, 6, .inr (.inr (.inr (.inr (va_up (va_up (va_up (va_up (fun _ => none) 0 (some (gz G + (a + 5)))) 1 (some (gz G + (a + 14)))) 2 (some (gz G + (a + 23)))) 3 (some (gz G + (a + 32)))))))))) a (.inr (2, [.ref (gz G + (a + 1)), .ref (gz G + (a + 2)), .int 0, .int 0, .ref (gz G + (a + 3)), .int 0, .ref (gz G + (a + 4)), .int 0]))) a 41 s _ _ := hW.to (fun j hj => o_swap2 (by omega))
    refine lv_iinc (k := 0) (v := 4) hx hb dX2_init_79 hl rfl (by decide) (by decide) (lv' := [(1, .int 4), (0, .ref (gz G + a))]) rfl fun ls hl => ?_
    refine lv_goto (tgt := 60) hx hb dX2_init_82 (by decide) ?_
    refine lv_iload_n hx hb dX2_init_60 rfl (lv_at hl 0 rfl) ?_
    refine lv_bipush (v := 6) hx hb dX2_init_61 (by decide) ?_
    refine lv_icmp_ge (tgt := 85) hx hb dX2_init_63 (by decide) (fun q => absurd q (by decide)) (fun _ => ?_)
    refine lv_aload_n hx hb dX2_init_66 rfl (lv_at hl 1 rfl) ?_
    refine o_get (k := 4) (v := .ref (gz G + (a + 3))) X hW (by decide) inTB_X2 rfl (by decide) i_1_143 rfl dX2_init_67 ?_
    refine lv_iload_n hx hb dX2_init_70 rfl (lv_at hl 0 rfl) ?_
    have hW : CW G (va_up (va_up (va_up (ct G σ0) (a + 3) (.inl (gty G 5, 6, .inr (.inr (.inr (.inr (va_up (va_up (va_up (va_up (fun _ => none) 0 (some (gz G + (a + 5)))) 1 (some (gz G + (a + 14)))) 2 (some (gz G + (a + 23)))) 3 (some (gz G + (a + 32)))))))))) a (.inr (2, [.ref (gz G + (a + 1)), .ref (gz G + (a + 2)), .int 0, .int 0, .ref (gz G + (a + 3)), .int 0, .ref (gz G + (a + 4)), .int 0]))) (a + 41) (.inr (3, [.int 0, .int 0, .int 0, .int 0, .int 0, .long 0, .null, .null, .null, .null, .null, .null, .null, .null]))) a 41 s _ _ := hW.to (fun j hj => (va_up_ne _ _ (by omega)).symm)
    refine o_new (ci := 3) (fs := [.int 0, .int 0, .int 0, .int 0, .int 0, .long 0, .null, .null, .null, .null, .null, .null, .null, .null]) X hW inTB_X3 tyX3 tyX3_ok rfl (va_up_self _ _ _) (by decide +kernel) i_1_44 i_1_46 i_1_3 (Nat.le_of_ble_eq_true rfl) (Nat.le_of_ble_eq_true rfl) dX2_init_71 fun H hW => ?_
    refine lv_dup hx hb dX2_init_74 rfl ?_
    refine o_callIN X hW (va_up_self _ _ _) i_1_47 i_1_48 mv_X3_init rfl (i_X3_init (a + 41) (ki_X2_41 ha).1) (by decide) (Nat.le_of_ble_eq_true rfl) hl.1 dX2_init_75 (Nat.le_of_ble_eq_true rfl) (Nat.le_of_ble_eq_true rfl) (va_up (va_up (ct G σ0) (a + 3) (.inl (gty G 5, 6, .inr (.inr (.inr (.inr (va_up (va_up (va_up (va_up (fun _ => none) 0 (some (gz G + (a + 5)))) 1 (some (gz G + (a + 14)))) 2 (some (gz G + (a + 23)))) 3 (some (gz G + (a + 32)))))))))) a (.inr (2, [.ref (gz G + (a + 1)), .ref (gz G + (a + 2)), .int 0, .int 0, .ref (gz G + (a + 3)), .int 0, .ref (gz G + (a + 4)), .int 0]))) (fun j hj => va_up_ne _ _ (by omega)) (fun j hj => ((va_up_ne _ _ (by omega)).trans (va_up_ne _ _ (by omega)))) fun H locs hW => ?_
    have hW : CW G (va_up (va_up (ct G σ0) (a + 3) (.inl (gty G 5, 6, .inr (.inr (.inr (.inr (va_up (va_up (va_up (va_up (fun _ => none) 0 (some (gz G + (a + 5)))) 1 (some (gz G + (a + 14)))) 2 (some (gz G + (a + 23)))) 3 (some (gz G + (a + 32)))))))))) a (.inr (2, [.ref (gz G + (a + 1)), .ref (gz G + (a + 2)), .int 0, .int 0, .ref (gz G + (a + 3)), .int 0, .ref (gz G + (a + 4)), .int 0]))) a 50 s _ _ := hW
    refine o_ast (t := 5) (q := 3) (b := 41) (f := (va_up (va_up (va_up (va_up (fun _ => none) 0 (some (gz G + (a + 5)))) 1 (some (gz G + (a + 14)))) 2 (some (gz G + (a + 23)))) 3 (some (gz G + (a + 32))))) X hW (by decide) ((va_up_ne _ _ (by omega)).trans (va_up_self _ _ _)) rfl (by decide) ((va_up_ne _ _ (by omega)).trans ((va_up_ne _ _ (by omega)).trans (ct_3 G σ0 (ki_X2_41 ha).1))) rfl (by decide) dX2_init_78 fun H locs hW => ?_
    have hW : CW G (va_up (va_up (ct G σ0) (a + 3) (.inl (gty G 5, 6, .inr (.inr (.inr (.inr (va_up (va_up (va_up (va_up (va_up (fun _ => none) 0 (some (gz G + (a + 5)))) 1 (some (gz G + (a + 14)))) 2 (some (gz G + (a + 23)))) 3 (some (gz G + (a + 32)))) 4 (some (gz G + (a + 41)))))))))) a (.inr (2, [.ref (gz G + (a + 1)), .ref (gz G + (a + 2)), .int 0, .int 0, .ref (gz G + (a + 3)), .int 0, .ref (gz G + (a + 4)), .int 0]))) a 50 s _ _ := hW.to (fun j hj => o_swap2 (by omega))
    refine lv_iinc (k := 0) (v := 5) hx hb dX2_init_79 hl rfl (by decide) (by decide) (lv' := [(1, .int 5), (0, .ref (gz G + a))]) rfl fun ls hl => ?_
    refine lv_goto (tgt := 60) hx hb dX2_init_82 (by decide) ?_
    refine lv_iload_n hx hb dX2_init_60 rfl (lv_at hl 0 rfl) ?_
    refine lv_bipush (v := 6) hx hb dX2_init_61 (by decide) ?_
    refine lv_icmp_ge (tgt := 85) hx hb dX2_init_63 (by decide) (fun q => absurd q (by decide)) (fun _ => ?_)
    refine lv_aload_n hx hb dX2_init_66 rfl (lv_at hl 1 rfl) ?_
    refine o_get (k := 4) (v := .ref (gz G + (a + 3))) X hW (by decide) inTB_X2 rfl (by decide) i_1_143 rfl dX2_init_67 ?_
    refine lv_iload_n hx hb dX2_init_70 rfl (lv_at hl 0 rfl) ?_
    have hW : CW G (va_up (va_up (va_up (ct G σ0) (a + 3) (.inl (gty G 5, 6, .inr (.inr (.inr (.inr (va_up (va_up (va_up (va_up (va_up (fun _ => none) 0 (some (gz G + (a + 5)))) 1 (some (gz G + (a + 14)))) 2 (some (gz G + (a + 23)))) 3 (some (gz G + (a + 32)))) 4 (some (gz G + (a + 41)))))))))) a (.inr (2, [.ref (gz G + (a + 1)), .ref (gz G + (a + 2)), .int 0, .int 0, .ref (gz G + (a + 3)), .int 0, .ref (gz G + (a + 4)), .int 0]))) (a + 50) (.inr (3, [.int 0, .int 0, .int 0, .int 0, .int 0, .long 0, .null, .null, .null, .null, .null, .null, .null, .null]))) a 50 s _ _ := hW.to (fun j hj => (va_up_ne _ _ (by omega)).symm)
    refine o_new (ci := 3) (fs := [.int 0, .int 0, .int 0, .int 0, .int 0, .long 0, .null, .null, .null, .null, .null, .null, .null, .null]) X hW inTB_X3 tyX3 tyX3_ok rfl (va_up_self _ _ _) (by decide +kernel) i_1_44 i_1_46 i_1_3 (Nat.le_of_ble_eq_true rfl) (Nat.le_of_ble_eq_true rfl) dX2_init_71 fun H hW => ?_
    refine lv_dup hx hb dX2_init_74 rfl ?_
    refine o_callIN X hW (va_up_self _ _ _) i_1_47 i_1_48 mv_X3_init rfl (i_X3_init (a + 50) (ki_X2_50 ha).1) (by decide) (Nat.le_of_ble_eq_true rfl) hl.1 dX2_init_75 (Nat.le_of_ble_eq_true rfl) (Nat.le_of_ble_eq_true rfl) (va_up (va_up (ct G σ0) (a + 3) (.inl (gty G 5, 6, .inr (.inr (.inr (.inr (va_up (va_up (va_up (va_up (va_up (fun _ => none) 0 (some (gz G + (a + 5)))) 1 (some (gz G + (a + 14)))) 2 (some (gz G + (a + 23)))) 3 (some (gz G + (a + 32)))) 4 (some (gz G + (a + 41)))))))))) a (.inr (2, [.ref (gz G + (a + 1)), .ref (gz G + (a + 2)), .int 0, .int 0, .ref (gz G + (a + 3)), .int 0, .ref (gz G + (a + 4)), .int 0]))) (fun j hj => va_up_ne _ _ (by omega)) (fun j hj => ((va_up_ne _ _ (by omega)).trans (va_up_ne _ _ (by omega)))) fun H locs hW => ?_
    have hW : CW G (va_up (va_up (ct G σ0) (a + 3) (.inl (gty G 5, 6, .inr (.inr (.inr (.inr (va_up (va_up (va_up (va_up (va_up (fun _ => none) 0 (some (gz G + (a + 5)))) 1 (some (gz G + (a + 14)))) 2 (some (gz G + (a + 23)))) 3 (some (gz G + (a + 32)))) 4 (some (gz G + (a + 41)))))))))) a (.inr (2, [.ref (gz G + (a + 1)), .ref (gz G + (a + 2)), .int 0, .int 0, .ref (gz G + (a + 3)), .int 0, .ref (gz G + (a + 4)), .int 0]))) a 59 s _ _ := hW
    refine o_ast (t := 5) (q := 3) (b := 50) (f := (va_up (va_up (va_up (va_up (va_up (fun _ => none) 0 (some (gz G + (a + 5)))) 1 (some (gz G + (a + 14)))) 2 (some (gz G + (a + 23)))) 3 (some (gz G + (a + 32)))) 4 (some (gz G + (a + 41))))) X hW (by decide) ((va_up_ne _ _ (by omega)).trans (va_up_self _ _ _)) rfl (by decide) ((va_up_ne _ _ (by omega)).trans ((va_up_ne _ _ (by omega)).trans (ct_3 G σ0 (ki_X2_50 ha).1))) rfl (by decide) dX2_init_78 fun H locs hW => ?_
    have hW : CW G (va_up (va_up (ct G σ0) (a + 3) (.inl (gty G 5, 6, .inr (.inr (.inr (.inr (va_up (va_up (va_up (va_up (va_up (va_up (fun _ => none) 0 (some (gz G + (a + 5)))) 1 (some (gz G + (a + 14)))) 2 (some (gz G + (a + 23)))) 3 (some (gz G + (a + 32)))) 4 (some (gz G + (a + 41)))) 5 (some (gz G + (a + 50)))))))))) a (.inr (2, [.ref (gz G + (a + 1)), .ref (gz G + (a + 2)), .int 0, .int 0, .ref (gz G + (a + 3)), .int 0, .ref (gz G + (a + 4)), .int 0]))) a 59 s _ _ := hW.to (fun j hj => o_swap2 (by omega))
    refine lv_iinc (k := 0) (v := 6) hx hb dX2_init_79 hl rfl (by decide) (by decide) (lv' := [(1, .int 6), (0, .ref (gz G + a))]) rfl fun ls hl => ?_
    refine lv_goto (tgt := 60) hx hb dX2_init_82 (by decide) ?_
    refine lv_iload_n hx hb dX2_init_60 rfl (lv_at hl 0 rfl) ?_
    refine lv_bipush (v := 6) hx hb dX2_init_61 (by decide) ?_
    refine lv_icmp_ge (tgt := 85) hx hb dX2_init_63 (by decide) (fun _ => ?_) (fun q => absurd q (by decide))
    have ez : ct G σ0 a = .inr (2, [.ref (gz G + (a + 1)), .ref (gz G + (a + 2)), .int 0, .int 0, .ref (gz G + (a + 3)), .int 0, .ref (gz G + (a + 4)), .int 0]) := by
      rw [ct_2 G σ0 ha]
      rw [show gI σ0 a 2 = 0 from z0_I (by rw [ha]; decide) (by rw [ha]; decide) (by rw [ha]; decide), show gI σ0 a 3 = 0 from z0_I (by rw [ha]; decide) (by rw [ha]; decide) (by rw [ha]; decide), show gI σ0 a 5 = 0 from z0_I (by rw [ha]; decide) (by rw [ha]; decide) (by rw [ha]; decide), show gI σ0 a 7 = 0 from z0_I (by rw [ha]; decide) (by rw [ha]; decide) (by rw [ha]; decide)]
    have hW : CW G (va_up (ct G σ0) (a + 3) (.inl (gty G 5, 6, .inr (.inr (.inr (.inr worthLength)))))) a 59 s _ _ := hW.to (fun j hj => by rw [o_swap3 (by omega), ← ez, va_up_id])
    have hW := CW.fix (g := fun k => some (gz G + (a + 3 + 2 + 9 * k))) hW (q := 3) (by decide) (va_up_self _ _ _) (fun j hj => by first | (rcases j with _) | skip <;> first | (simp [va_up]; try omega) | omega)
    exact hr _ _ _ _ dX2_init_85 (hW.to (fun j hj => by rw [va_up_up, ← show ct G σ0 (a + 3) = _ from (ct_16 G σ0 (ki_X2_3 ha).1).trans (by rw [(ki_X2_3 ha).2]), va_up_id]))
