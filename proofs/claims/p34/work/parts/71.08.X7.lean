set_option maxRecDepth 100000 in
set_option maxHeartbeats 4000000 in
theorem i_X7_init {G : Gt} {l : Launch} (a : Nat) (ha : kd a = 6) : CtI G l yX7_init cX7_init 1 2 a 4 3 640 (.inr (6, [.null, .null, .null, .long 0])) := by
    refine met_c (by decide +kernel) rfl (by decide) ?_
    intro p e s m args below meth c Q ls X hin hW hr hl
    have hx := X.1.1
    have hb := X.1.2.1
    refine lv_aload_n hx hb dX7_init_0 rfl (lv_at hl 0 rfl) ?_
    refine o_obj X i_2_36 (by decide) (Nat.le_of_ble_eq_true rfl) hl.1 dX7_init_1 ?_
    refine lv_aload_n hx hb dX7_init_4 rfl (lv_at hl 0 rfl) ?_
    refine lv_sipush (v := 512) hx hb dX7_init_5 (by decide) ?_
    refine o_newa (atype := .int) (ty := .int) (t := 0) (N := 512) (a0 := (512, .inl (fun _ => 0))) X hW i_1_139 rfl rfl (fun _ h => by cases h) rfl ((va_up_ne _ _ (by omega)).trans (z0_11 G (ki_X7_1 ha).1 (ki_X7_1 ha).2)) (by decide +kernel) (by decide +kernel) (Nat.le_of_ble_eq_true rfl) (Nat.le_of_ble_eq_true rfl) (Nat.le_of_ble_eq_true rfl) dX7_init_8 fun H hW => ?_
    have hW : CW G (va_up (ct G σ0) a (.inr (6, [.null, .null, .null, .long 0]))) a 2 s _ _ := hW
    refine o_put (k := 0) (v := .ref (gz G + (a + 1))) (ty := .array .int) X hW (by decide) inTB_X7 tyX7 tyX7_ok nmX7 rfl (by decide) i_2_37 (fun _ => ⟨hin, rfl⟩) (by decide +kernel) rfl rfl (Nat.le_of_ble_eq_true rfl) dX7_init_10 fun H locs hW => ?_
    have hW : CW G (va_up (ct G σ0) a (.inr (6, [.ref (gz G + (a + 1)), .null, .null, .long 0]))) a 2 s _ _ := hW
    refine lv_aload_n hx hb dX7_init_13 rfl (lv_at hl 0 rfl) ?_
    refine lv_bipush (v := 64) hx hb dX7_init_14 (by decide) ?_
    refine o_newa (atype := .int) (ty := .int) (t := 0) (N := 64) (a0 := (64, .inl (fun _ => 0))) X hW i_1_139 rfl rfl (fun _ h => by cases h) rfl ((va_up_ne _ _ (by omega)).trans (z0_11 G (ki_X7_2 ha).1 (ki_X7_2 ha).2)) (by decide +kernel) (by decide +kernel) (Nat.le_of_ble_eq_true rfl) (Nat.le_of_ble_eq_true rfl) (Nat.le_of_ble_eq_true rfl) dX7_init_16 fun H hW => ?_
    have hW : CW G (va_up (ct G σ0) a (.inr (6, [.ref (gz G + (a + 1)), .null, .null, .long 0]))) a 3 s _ _ := hW
    refine o_put (k := 1) (v := .ref (gz G + (a + 2))) (ty := .array .int) X hW (by decide) inTB_X7 tyX7 tyX7_ok nmX7 rfl (by decide) i_2_38 (fun _ => ⟨hin, rfl⟩) (by decide +kernel) rfl rfl (Nat.le_of_ble_eq_true rfl) dX7_init_18 fun H locs hW => ?_
    have hW : CW G (va_up (ct G σ0) a (.inr (6, [.ref (gz G + (a + 1)), .ref (gz G + (a + 2)), .null, .long 0]))) a 3 s _ _ := hW
    refine lv_aload_n hx hb dX7_init_21 rfl (lv_at hl 0 rfl) ?_
    refine lv_bipush (v := 64) hx hb dX7_init_22 (by decide) ?_
    refine o_newa (atype := .int) (ty := .int) (t := 0) (N := 64) (a0 := (64, .inl (fun _ => 0))) X hW i_1_139 rfl rfl (fun _ h => by cases h) rfl ((va_up_ne _ _ (by omega)).trans (z0_11 G (ki_X7_3 ha).1 (ki_X7_3 ha).2)) (by decide +kernel) (by decide +kernel) (Nat.le_of_ble_eq_true rfl) (Nat.le_of_ble_eq_true rfl) (Nat.le_of_ble_eq_true rfl) dX7_init_24 fun H hW => ?_
    have hW : CW G (va_up (ct G σ0) a (.inr (6, [.ref (gz G + (a + 1)), .ref (gz G + (a + 2)), .null, .long 0]))) a 4 s _ _ := hW
    refine o_put (k := 2) (v := .ref (gz G + (a + 3))) (ty := .array .int) X hW (by decide) inTB_X7 tyX7 tyX7_ok nmX7 rfl (by decide) i_2_39 (fun _ => ⟨hin, rfl⟩) (by decide +kernel) rfl rfl (Nat.le_of_ble_eq_true rfl) dX7_init_26 fun H locs hW => ?_
    have hW : CW G (va_up (ct G σ0) a (.inr (6, [.ref (gz G + (a + 1)), .ref (gz G + (a + 2)), .ref (gz G + (a + 3)), .long 0]))) a 4 s _ _ := hW
    refine lv_aload_n hx hb dX7_init_29 rfl (lv_at hl 0 rfl) ?_
    refine lv_lconst (v := 0) hx hb dX7_init_30 (by decide) ?_
    refine o_put (k := 3) (v := .long 0) (ty := .long) X hW (by decide) inTB_X7 tyX7 tyX7_ok nmX7 rfl (by decide) i_2_40 (fun _ => ⟨hin, rfl⟩) (by decide +kernel) rfl rfl (Nat.le_of_ble_eq_true rfl) dX7_init_31 fun H locs hW => ?_
    have hW : CW G (va_up (ct G σ0) a (.inr (6, [.ref (gz G + (a + 1)), .ref (gz G + (a + 2)), .ref (gz G + (a + 3)), .long 0]))) a 4 s _ _ := hW
    have ez : ct G σ0 a = .inr (6, [.ref (gz G + (a + 1)), .ref (gz G + (a + 2)), .ref (gz G + (a + 3)), .long 0]) := by
      rw [ct_6 G σ0 ha]
      rfl
    exact hr _ _ _ _ dX7_init_34 (hW.to (fun j hj => by rw [← ez, va_up_id]))
