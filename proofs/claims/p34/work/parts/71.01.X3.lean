set_option maxRecDepth 100000 in
set_option maxHeartbeats 4000000 in
theorem i_X3_init {G : Gt} {l : Launch} (a : Nat) (ha : kd a = 3) : CtI G l yX3_init cX3_init 1 2 a 9 8 174 (.inr (3, [.int 0, .int 0, .int 0, .int 0, .int 0, .long 0, .null, .null, .null, .null, .null, .null, .null, .null])) := by
    refine met_c (by decide +kernel) rfl (by decide) ?_
    intro p e s m args below meth c Q ls X hin hW hr hl
    have hx := X.1.1
    have hb := X.1.2.1
    refine lv_aload_n hx hb dX3_init_0 rfl (lv_at hl 0 rfl) ?_
    refine o_obj X i_1_59 (by decide) (Nat.le_of_ble_eq_true rfl) hl.1 dX3_init_1 ?_
    refine lv_aload_n hx hb dX3_init_4 rfl (lv_at hl 0 rfl) ?_
    refine lv_iconst (v := 0) hx hb dX3_init_5 (by decide) ?_
    refine o_put (k := 0) (v := .int 0) (ty := .int) X hW (by decide) inTB_X3 tyX3 tyX3_ok nmX3 rfl (by decide) i_1_60 (fun _ => ⟨hin, rfl⟩) (by decide +kernel) rfl rfl (Nat.le_of_ble_eq_true rfl) dX3_init_6 fun H locs hW => ?_
    have hW : CW G (va_up (ct G σ0) a (.inr (3, [.int 0, .int 0, .int 0, .int 0, .int 0, .long 0, .null, .null, .null, .null, .null, .null, .null, .null]))) a 1 s _ _ := hW
    refine lv_aload_n hx hb dX3_init_9 rfl (lv_at hl 0 rfl) ?_
    refine lv_iconst (v := 0) hx hb dX3_init_10 (by decide) ?_
    refine o_put (k := 1) (v := .int 0) (ty := .int) X hW (by decide) inTB_X3 tyX3 tyX3_ok nmX3 rfl (by decide) i_1_64 (fun _ => ⟨hin, rfl⟩) (by decide +kernel) rfl rfl (Nat.le_of_ble_eq_true rfl) dX3_init_11 fun H locs hW => ?_
    have hW : CW G (va_up (ct G σ0) a (.inr (3, [.int 0, .int 0, .int 0, .int 0, .int 0, .long 0, .null, .null, .null, .null, .null, .null, .null, .null]))) a 1 s _ _ := hW
    refine lv_aload_n hx hb dX3_init_14 rfl (lv_at hl 0 rfl) ?_
    refine lv_iconst (v := 0) hx hb dX3_init_15 (by decide) ?_
    refine o_put (k := 2) (v := .int 0) (ty := .int) X hW (by decide) inTB_X3 tyX3 tyX3_ok nmX3 rfl (by decide) i_1_68 (fun _ => ⟨hin, rfl⟩) (by decide +kernel) rfl rfl (Nat.le_of_ble_eq_true rfl) dX3_init_16 fun H locs hW => ?_
    have hW : CW G (va_up (ct G σ0) a (.inr (3, [.int 0, .int 0, .int 0, .int 0, .int 0, .long 0, .null, .null, .null, .null, .null, .null, .null, .null]))) a 1 s _ _ := hW
    refine lv_aload_n hx hb dX3_init_19 rfl (lv_at hl 0 rfl) ?_
    refine lv_iconst (v := 0) hx hb dX3_init_20 (by decide) ?_
    refine o_put (k := 3) (v := .int 0) (ty := .int) X hW (by decide) inTB_X3 tyX3 tyX3_ok nmX3 rfl (by decide) i_1_72 (fun _ => ⟨hin, rfl⟩) (by decide +kernel) rfl rfl (Nat.le_of_ble_eq_true rfl) dX3_init_21 fun H locs hW => ?_
    have hW : CW G (va_up (ct G σ0) a (.inr (3, [.int 0, .int 0, .int 0, .int 0, .int 0, .long 0, .null, .null, .null, .null, .null, .null, .null, .null]))) a 1 s _ _ := hW
    refine lv_aload_n hx hb dX3_init_24 rfl (lv_at hl 0 rfl) ?_
    refine lv_iconst (v := 0) hx hb dX3_init_25 (by decide) ?_
    refine o_put (k := 4) (v := .int 0) (ty := .int) X hW (by decide) inTB_X3 tyX3 tyX3_ok nmX3 rfl (by decide) i_1_76 (fun _ => ⟨hin, rfl⟩) (by decide +kernel) rfl rfl (Nat.le_of_ble_eq_true rfl) dX3_init_26 fun H locs hW => ?_
    have hW : CW G (va_up (ct G σ0) a (.inr (3, [.int 0, .int 0, .int 0, .int 0, .int 0, .long 0, .null, .null, .null, .null, .null, .null, .null, .null]))) a 1 s _ _ := hW
    refine lv_aload_n hx hb dX3_init_29 rfl (lv_at hl 0 rfl) ?_
    refine lv_lconst (v := 0) hx hb dX3_init_30 (by decide) ?_
    refine o_put (k := 5) (v := .long 0) (ty := .long) X hW (by decide) inTB_X3 tyX3 tyX3_ok nmX3 rfl (by decide) i_1_80 (fun _ => ⟨hin, rfl⟩) (by decide +kernel) rfl rfl (Nat.le_of_ble_eq_true rfl) dX3_init_31 fun H locs hW => ?_
    have hW : CW G (va_up (ct G σ0) a (.inr (3, [.int 0, .int 0, .int 0, .int 0, .int 0, .long 0, .null, .null, .null, .null, .null, .null, .null, .null]))) a 1 s _ _ := hW
    refine lv_aload_n hx hb dX3_init_34 rfl (lv_at hl 0 rfl) ?_
    refine lv_bipush (v := 6) hx hb dX3_init_35 (by decide) ?_
    refine o_newa (atype := .int) (ty := .int) (t := 0) (N := 6) (a0 := (6, .inl (fun _ => 0))) X hW i_1_139 rfl rfl (fun _ h => by cases h) rfl ((va_up_ne _ _ (by omega)).trans (z0_11 G (ki_X3_1 ha).1 (ki_X3_1 ha).2)) (by decide +kernel) (by decide +kernel) (Nat.le_of_ble_eq_true rfl) (Nat.le_of_ble_eq_true rfl) (Nat.le_of_ble_eq_true rfl) dX3_init_37 fun H hW => ?_
    have hW : CW G (va_up (ct G σ0) a (.inr (3, [.int 0, .int 0, .int 0, .int 0, .int 0, .long 0, .null, .null, .null, .null, .null, .null, .null, .null]))) a 2 s _ _ := hW
    refine o_put (k := 6) (v := .ref (gz G + (a + 1))) (ty := .array .int) X hW (by decide) inTB_X3 tyX3 tyX3_ok nmX3 rfl (by decide) i_1_83 (fun _ => ⟨hin, rfl⟩) (by decide +kernel) rfl rfl (Nat.le_of_ble_eq_true rfl) dX3_init_39 fun H locs hW => ?_
    have hW : CW G (va_up (ct G σ0) a (.inr (3, [.int 0, .int 0, .int 0, .int 0, .int 0, .long 0, .ref (gz G + (a + 1)), .null, .null, .null, .null, .null, .null, .null]))) a 2 s _ _ := hW
    refine lv_aload_n hx hb dX3_init_42 rfl (lv_at hl 0 rfl) ?_
    refine lv_bipush (v := 6) hx hb dX3_init_43 (by decide) ?_
    refine o_newa (atype := .int) (ty := .int) (t := 0) (N := 6) (a0 := (6, .inl (fun _ => 0))) X hW i_1_139 rfl rfl (fun _ h => by cases h) rfl ((va_up_ne _ _ (by omega)).trans (z0_11 G (ki_X3_2 ha).1 (ki_X3_2 ha).2)) (by decide +kernel) (by decide +kernel) (Nat.le_of_ble_eq_true rfl) (Nat.le_of_ble_eq_true rfl) (Nat.le_of_ble_eq_true rfl) dX3_init_45 fun H hW => ?_
    have hW : CW G (va_up (ct G σ0) a (.inr (3, [.int 0, .int 0, .int 0, .int 0, .int 0, .long 0, .ref (gz G + (a + 1)), .null, .null, .null, .null, .null, .null, .null]))) a 3 s _ _ := hW
    refine o_put (k := 7) (v := .ref (gz G + (a + 2))) (ty := .array .int) X hW (by decide) inTB_X3 tyX3 tyX3_ok nmX3 rfl (by decide) i_1_87 (fun _ => ⟨hin, rfl⟩) (by decide +kernel) rfl rfl (Nat.le_of_ble_eq_true rfl) dX3_init_47 fun H locs hW => ?_
    have hW : CW G (va_up (ct G σ0) a (.inr (3, [.int 0, .int 0, .int 0, .int 0, .int 0, .long 0, .ref (gz G + (a + 1)), .ref (gz G + (a + 2)), .null, .null, .null, .null, .null, .null]))) a 3 s _ _ := hW
    refine lv_aload_n hx hb dX3_init_50 rfl (lv_at hl 0 rfl) ?_
    refine lv_bipush (v := 6) hx hb dX3_init_51 (by decide) ?_
    refine o_newa (atype := .int) (ty := .int) (t := 0) (N := 6) (a0 := (6, .inl (fun _ => 0))) X hW i_1_139 rfl rfl (fun _ h => by cases h) rfl ((va_up_ne _ _ (by omega)).trans (z0_11 G (ki_X3_3 ha).1 (ki_X3_3 ha).2)) (by decide +kernel) (by decide +kernel) (Nat.le_of_ble_eq_true rfl) (Nat.le_of_ble_eq_true rfl) (Nat.le_of_ble_eq_true rfl) dX3_init_53 fun H hW => ?_
    have hW : CW G (va_up (ct G σ0) a (.inr (3, [.int 0, .int 0, .int 0, .int 0, .int 0, .long 0, .ref (gz G + (a + 1)), .ref (gz G + (a + 2)), .null, .null, .null, .null, .null, .null]))) a 4 s _ _ := hW
    refine o_put (k := 8) (v := .ref (gz G + (a + 3))) (ty := .array .int) X hW (by decide) inTB_X3 tyX3 tyX3_ok nmX3 rfl (by decide) i_1_90 (fun _ => ⟨hin, rfl⟩) (by decide +kernel) rfl rfl (Nat.le_of_ble_eq_true rfl) dX3_init_55 fun H locs hW => ?_
    have hW : CW G (va_up (ct G σ0) a (.inr (3, [.int 0, .int 0, .int 0, .int 0, .int 0, .long 0, .ref (gz G + (a + 1)), .ref (gz G + (a + 2)), .ref (gz G + (a + 3)), .null, .null, .null, .null, .null]))) a 4 s _ _ := hW
    refine lv_aload_n hx hb dX3_init_58 rfl (lv_at hl 0 rfl) ?_
    refine lv_bipush (v := 6) hx hb dX3_init_59 (by decide) ?_
    refine o_newa (atype := .int) (ty := .int) (t := 0) (N := 6) (a0 := (6, .inl (fun _ => 0))) X hW i_1_139 rfl rfl (fun _ h => by cases h) rfl ((va_up_ne _ _ (by omega)).trans (z0_11 G (ki_X3_4 ha).1 (ki_X3_4 ha).2)) (by decide +kernel) (by decide +kernel) (Nat.le_of_ble_eq_true rfl) (Nat.le_of_ble_eq_true rfl) (Nat.le_of_ble_eq_true rfl) dX3_init_61 fun H hW => ?_
    have hW : CW G (va_up (ct G σ0) a (.inr (3, [.int 0, .int 0, .int 0, .int 0, .int 0, .long 0, .ref (gz G + (a + 1)), .ref (gz G + (a + 2)), .ref (gz G + (a + 3)), .null, .null, .null, .null, .null]))) a 5 s _ _ := hW
    refine o_put (k := 9) (v := .ref (gz G + (a + 4))) (ty := .array .int) X hW (by decide) inTB_X3 tyX3 tyX3_ok nmX3 rfl (by decide) i_1_93 (fun _ => ⟨hin, rfl⟩) (by decide +kernel) rfl rfl (Nat.le_of_ble_eq_true rfl) dX3_init_63 fun H locs hW => ?_
    have hW : CW G (va_up (ct G σ0) a (.inr (3, [.int 0, .int 0, .int 0, .int 0, .int 0, .long 0, .ref (gz G + (a + 1)), .ref (gz G + (a + 2)), .ref (gz G + (a + 3)), .ref (gz G + (a + 4)), .null, .null, .null, .null]))) a 5 s _ _ := hW
    refine lv_aload_n hx hb dX3_init_66 rfl (lv_at hl 0 rfl) ?_
    refine lv_bipush (v := 6) hx hb dX3_init_67 (by decide) ?_
    refine o_newa (atype := .int) (ty := .int) (t := 0) (N := 6) (a0 := (6, .inl (fun _ => 0))) X hW i_1_139 rfl rfl (fun _ h => by cases h) rfl ((va_up_ne _ _ (by omega)).trans (z0_11 G (ki_X3_5 ha).1 (ki_X3_5 ha).2)) (by decide +kernel) (by decide +kernel) (Nat.le_of_ble_eq_true rfl) (Nat.le_of_ble_eq_true rfl) (Nat.le_of_ble_eq_true rfl) dX3_init_69 fun H hW => ?_
    have hW : CW G (va_up (ct G σ0) a (.inr (3, [.int 0, .int 0, .int 0, .int 0, .int 0, .long 0, .ref (gz G + (a + 1)), .ref (gz G + (a + 2)), .ref (gz G + (a + 3)), .ref (gz G + (a + 4)), .null, .null, .null, .null]))) a 6 s _ _ := hW
    refine o_put (k := 10) (v := .ref (gz G + (a + 5))) (ty := .array .int) X hW (by decide) inTB_X3 tyX3 tyX3_ok nmX3 rfl (by decide) i_1_96 (fun _ => ⟨hin, rfl⟩) (by decide +kernel) rfl rfl (Nat.le_of_ble_eq_true rfl) dX3_init_71 fun H locs hW => ?_
    have hW : CW G (va_up (ct G σ0) a (.inr (3, [.int 0, .int 0, .int 0, .int 0, .int 0, .long 0, .ref (gz G + (a + 1)), .ref (gz G + (a + 2)), .ref (gz G + (a + 3)), .ref (gz G + (a + 4)), .ref (gz G + (a + 5)), .null, .null, .null]))) a 6 s _ _ := hW
    refine lv_aload_n hx hb dX3_init_74 rfl (lv_at hl 0 rfl) ?_
    refine lv_bipush (v := 48) hx hb dX3_init_75 (by decide) ?_
    refine o_newa (atype := .int) (ty := .int) (t := 0) (N := 48) (a0 := (48, .inl (fun _ => 0))) X hW i_1_139 rfl rfl (fun _ h => by cases h) rfl ((va_up_ne _ _ (by omega)).trans (z0_11 G (ki_X3_6 ha).1 (ki_X3_6 ha).2)) (by decide +kernel) (by decide +kernel) (Nat.le_of_ble_eq_true rfl) (Nat.le_of_ble_eq_true rfl) (Nat.le_of_ble_eq_true rfl) dX3_init_77 fun H hW => ?_
    have hW : CW G (va_up (ct G σ0) a (.inr (3, [.int 0, .int 0, .int 0, .int 0, .int 0, .long 0, .ref (gz G + (a + 1)), .ref (gz G + (a + 2)), .ref (gz G + (a + 3)), .ref (gz G + (a + 4)), .ref (gz G + (a + 5)), .null, .null, .null]))) a 7 s _ _ := hW
    refine o_put (k := 11) (v := .ref (gz G + (a + 6))) (ty := .array .int) X hW (by decide) inTB_X3 tyX3 tyX3_ok nmX3 rfl (by decide) i_1_100 (fun _ => ⟨hin, rfl⟩) (by decide +kernel) rfl rfl (Nat.le_of_ble_eq_true rfl) dX3_init_79 fun H locs hW => ?_
    have hW : CW G (va_up (ct G σ0) a (.inr (3, [.int 0, .int 0, .int 0, .int 0, .int 0, .long 0, .ref (gz G + (a + 1)), .ref (gz G + (a + 2)), .ref (gz G + (a + 3)), .ref (gz G + (a + 4)), .ref (gz G + (a + 5)), .ref (gz G + (a + 6)), .null, .null]))) a 7 s _ _ := hW
    refine lv_aload_n hx hb dX3_init_82 rfl (lv_at hl 0 rfl) ?_
    refine lv_bipush (v := 48) hx hb dX3_init_83 (by decide) ?_
    refine o_newa (atype := .int) (ty := .int) (t := 0) (N := 48) (a0 := (48, .inl (fun _ => 0))) X hW i_1_139 rfl rfl (fun _ h => by cases h) rfl ((va_up_ne _ _ (by omega)).trans (z0_11 G (ki_X3_7 ha).1 (ki_X3_7 ha).2)) (by decide +kernel) (by decide +kernel) (Nat.le_of_ble_eq_true rfl) (Nat.le_of_ble_eq_true rfl) (Nat.le_of_ble_eq_true rfl) dX3_init_85 fun H hW => ?_
    have hW : CW G (va_up (ct G σ0) a (.inr (3, [.int 0, .int 0, .int 0, .int 0, .int 0, .long 0, .ref (gz G + (a + 1)), .ref (gz G + (a + 2)), .ref (gz G + (a + 3)), .ref (gz G + (a + 4)), .ref (gz G + (a + 5)), .ref (gz G + (a + 6)), .null, .null]))) a 8 s _ _ := hW
    refine o_put (k := 12) (v := .ref (gz G + (a + 7))) (ty := .array .int) X hW (by decide) inTB_X3 tyX3 tyX3_ok nmX3 rfl (by decide) i_1_104 (fun _ => ⟨hin, rfl⟩) (by decide +kernel) rfl rfl (Nat.le_of_ble_eq_true rfl) dX3_init_87 fun H locs hW => ?_
    have hW : CW G (va_up (ct G σ0) a (.inr (3, [.int 0, .int 0, .int 0, .int 0, .int 0, .long 0, .ref (gz G + (a + 1)), .ref (gz G + (a + 2)), .ref (gz G + (a + 3)), .ref (gz G + (a + 4)), .ref (gz G + (a + 5)), .ref (gz G + (a + 6)), .ref (gz G + (a + 7)), .null]))) a 8 s _ _ := hW
    refine lv_aload_n hx hb dX3_init_90 rfl (lv_at hl 0 rfl) ?_
    refine lv_bipush (v := 48) hx hb dX3_init_91 (by decide) ?_
    refine o_newa (atype := .int) (ty := .int) (t := 0) (N := 48) (a0 := (48, .inl (fun _ => 0))) X hW i_1_139 rfl rfl (fun _ h => by cases h) rfl ((va_up_ne _ _ (by omega)).trans (z0_11 G (ki_X3_8 ha).1 (ki_X3_8 ha).2)) (by decide +kernel) (by decide +kernel) (Nat.le_of_ble_eq_true rfl) (Nat.le_of_ble_eq_true rfl) (Nat.le_of_ble_eq_true rfl) dX3_init_93 fun H hW => ?_
    have hW : CW G (va_up (ct G σ0) a (.inr (3, [.int 0, .int 0, .int 0, .int 0, .int 0, .long 0, .ref (gz G + (a + 1)), .ref (gz G + (a + 2)), .ref (gz G + (a + 3)), .ref (gz G + (a + 4)), .ref (gz G + (a + 5)), .ref (gz G + (a + 6)), .ref (gz G + (a + 7)), .null]))) a 9 s _ _ := hW
    refine o_put (k := 13) (v := .ref (gz G + (a + 8))) (ty := .array .int) X hW (by decide) inTB_X3 tyX3 tyX3_ok nmX3 rfl (by decide) i_1_106 (fun _ => ⟨hin, rfl⟩) (by decide +kernel) rfl rfl (Nat.le_of_ble_eq_true rfl) dX3_init_95 fun H locs hW => ?_
    have hW : CW G (va_up (ct G σ0) a (.inr (3, [.int 0, .int 0, .int 0, .int 0, .int 0, .long 0, .ref (gz G + (a + 1)), .ref (gz G + (a + 2)), .ref (gz G + (a + 3)), .ref (gz G + (a + 4)), .ref (gz G + (a + 5)), .ref (gz G + (a + 6)), .ref (gz G + (a + 7)), .ref (gz G + (a + 8))]))) a 9 s _ _ := hW
    have ez : ct G σ0 a = .inr (3, [.int 0, .int 0, .int 0, .int 0, .int 0, .long 0, .ref (gz G + (a + 1)), .ref (gz G + (a + 2)), .ref (gz G + (a + 3)), .ref (gz G + (a + 4)), .ref (gz G + (a + 5)), .ref (gz G + (a + 6)), .ref (gz G + (a + 7)), .ref (gz G + (a + 8))]) := by
      rw [ct_3 G σ0 ha]
      rw [show gI σ0 a 0 = 0 from z0_I (by rw [ha]; decide) (by rw [ha]; decide) (by rw [ha]; decide), show gI σ0 a 1 = 0 from z0_I (by rw [ha]; decide) (by rw [ha]; decide) (by rw [ha]; decide), show gI σ0 a 2 = 0 from z0_I (by rw [ha]; decide) (by rw [ha]; decide) (by rw [ha]; decide), show gI σ0 a 3 = 0 from z0_I (by rw [ha]; decide) (by rw [ha]; decide) (by rw [ha]; decide), show gI σ0 a 4 = 0 from z0_I (by rw [ha]; decide) (by rw [ha]; decide) (by rw [ha]; decide)]
      rfl
    exact hr _ _ _ _ dX3_init_98 (hW.to (fun j hj => by rw [← ez, va_up_id]))
