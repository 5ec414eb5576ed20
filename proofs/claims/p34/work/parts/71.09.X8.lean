set_option maxRecDepth 100000 in
set_option maxHeartbeats 4000000 in
theorem i_X8_init {G : Gt} {l : Launch} (a : Nat) (ha : kd a = 7) : CtI G l yX8_init cX8_init 1 2 a 3 2 17 (.inr (7, [.null, .int 0, .null])) := by
    refine met_c (by decide +kernel) rfl (by decide) ?_
    intro p e s m args below meth c Q ls X hin hW hr hl
    have hx := X.1.1
    have hb := X.1.2.1
    refine lv_aload_n hx hb dX8_init_0 rfl (lv_at hl 0 rfl) ?_
    refine o_obj X i_2_55 (by decide) (Nat.le_of_ble_eq_true rfl) hl.1 dX8_init_1 ?_
    refine lv_aload_n hx hb dX8_init_4 rfl (lv_at hl 0 rfl) ?_
    refine lv_bipush (v := 11) hx hb dX8_init_5 (by decide) ?_
    refine o_newa (atype := .int) (ty := .int) (t := 0) (N := 11) (a0 := (11, .inl (fun _ => 0))) X hW i_1_139 rfl rfl (fun _ h => by cases h) rfl ((va_up_ne _ _ (by omega)).trans (z0_11 G (ki_X8_1 ha).1 (ki_X8_1 ha).2)) (by decide +kernel) (by decide +kernel) (Nat.le_of_ble_eq_true rfl) (Nat.le_of_ble_eq_true rfl) (Nat.le_of_ble_eq_true rfl) dX8_init_7 fun H hW => ?_
    have hW : CW G (va_up (ct G σ0) a (.inr (7, [.null, .int 0, .null]))) a 2 s _ _ := hW
    refine o_put (k := 0) (v := .ref (gz G + (a + 1))) (ty := .array .int) X hW (by decide) inTB_X8 tyX8 tyX8_ok nmX8 rfl (by decide) i_2_56 (fun _ => ⟨hin, rfl⟩) (by decide +kernel) rfl rfl (Nat.le_of_ble_eq_true rfl) dX8_init_9 fun H locs hW => ?_
    have hW : CW G (va_up (ct G σ0) a (.inr (7, [.ref (gz G + (a + 1)), .int 0, .null]))) a 2 s _ _ := hW
    refine lv_aload_n hx hb dX8_init_12 rfl (lv_at hl 0 rfl) ?_
    refine lv_iconst (v := 0) hx hb dX8_init_13 (by decide) ?_
    refine o_put (k := 1) (v := .int 0) (ty := .int) X hW (by decide) inTB_X8 tyX8 tyX8_ok nmX8 rfl (by decide) i_2_57 (fun _ => ⟨hin, rfl⟩) (by decide +kernel) rfl rfl (Nat.le_of_ble_eq_true rfl) dX8_init_14 fun H locs hW => ?_
    have hW : CW G (va_up (ct G σ0) a (.inr (7, [.ref (gz G + (a + 1)), .int 0, .null]))) a 2 s _ _ := hW
    refine lv_aload_n hx hb dX8_init_17 rfl (lv_at hl 0 rfl) ?_
    refine lv_bipush (v := 6) hx hb dX8_init_18 (by decide) ?_
    refine o_newa (atype := .int) (ty := .int) (t := 0) (N := 6) (a0 := (6, .inl (fun _ => 0))) X hW i_1_139 rfl rfl (fun _ h => by cases h) rfl ((va_up_ne _ _ (by omega)).trans (z0_11 G (ki_X8_2 ha).1 (ki_X8_2 ha).2)) (by decide +kernel) (by decide +kernel) (Nat.le_of_ble_eq_true rfl) (Nat.le_of_ble_eq_true rfl) (Nat.le_of_ble_eq_true rfl) dX8_init_20 fun H hW => ?_
    have hW : CW G (va_up (ct G σ0) a (.inr (7, [.ref (gz G + (a + 1)), .int 0, .null]))) a 3 s _ _ := hW
    refine o_put (k := 2) (v := .ref (gz G + (a + 2))) (ty := .array .int) X hW (by decide) inTB_X8 tyX8 tyX8_ok nmX8 rfl (by decide) i_2_58 (fun _ => ⟨hin, rfl⟩) (by decide +kernel) rfl rfl (Nat.le_of_ble_eq_true rfl) dX8_init_22 fun H locs hW => ?_
    have hW : CW G (va_up (ct G σ0) a (.inr (7, [.ref (gz G + (a + 1)), .int 0, .ref (gz G + (a + 2))]))) a 3 s _ _ := hW
    have ez : ct G σ0 a = .inr (7, [.ref (gz G + (a + 1)), .int 0, .ref (gz G + (a + 2))]) := by
      rw [ct_7 G σ0 ha]
      rw [show gI σ0 a 1 = 0 from z0_I (by rw [ha]; decide) (by rw [ha]; decide) (by rw [ha]; decide)]
    exact hr _ _ _ _ dX8_init_25 (hW.to (fun j hj => by rw [← ez, va_up_id]))
