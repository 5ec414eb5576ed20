set_option maxRecDepth 100000 in
set_option maxHeartbeats 4000000 in
theorem i_X6_init {G : Gt} {l : Launch} (a : Nat) (ha : kd a = 5) : CtI G l yX6_init cX6_init 1 2 a 4 3 2403 (.inr (5, [.null, .null, .null, .int 0, .int 0, .int 0, .int 0])) := by
    refine met_c (by decide +kernel) rfl (by decide) ?_
    intro p e s m args below meth c Q ls X hin hW hr hl
    have hx := X.1.1
    have hb := X.1.2.1
    refine lv_aload_n hx hb dX6_init_0 rfl (lv_at hl 0 rfl) ?_
    refine o_obj X i_1_207 (by decide) (Nat.le_of_ble_eq_true rfl) hl.1 dX6_init_1 ?_
    refine lv_aload_n hx hb dX6_init_4 rfl (lv_at hl 0 rfl) ?_
    refine lv_sipush (v := 801) hx hb dX6_init_5 (by decide) ?_
    refine o_newq (t := 4) (N := 801) X hW i_1_208 (by decide) rfl ((va_up_ne _ _ (by omega)).trans (z0_15 G (ki_X6_1 ha).1 (ki_X6_1 ha).2)) (by decide +kernel) (by decide +kernel) (Nat.le_of_ble_eq_true rfl) (Nat.le_of_ble_eq_true rfl) (Nat.le_of_ble_eq_true rfl) dX6_init_8 fun H hW => ?_
    have hW : CW G (va_up (ct G σ0) a (.inr (5, [.null, .null, .null, .int 0, .int 0, .int 0, .int 0]))) a 2 s _ _ := hW
    refine o_put (k := 0) (v := .ref (gz G + (a + 1))) (ty := .array (.object "QuestLedger$Token")) X hW (by decide) inTB_X6 tyX6 tyX6_ok nmX6 rfl (by decide) i_1_210 (fun _ => ⟨hin, rfl⟩) (by decide +kernel) rfl rfl (Nat.le_of_ble_eq_true rfl) dX6_init_11 fun H locs hW => ?_
    have hW : CW G (va_up (ct G σ0) a (.inr (5, [.ref (gz G + (a + 1)), .null, .null, .int 0, .int 0, .int 0, .int 0]))) a 2 s _ _ := hW
    refine lv_aload_n hx hb dX6_init_14 rfl (lv_at hl 0 rfl) ?_
    refine lv_sipush (v := 801) hx hb dX6_init_15 (by decide) ?_
    refine o_newa (atype := .int) (ty := .int) (t := 0) (N := 801) (a0 := (801, .inl (fun _ => 0))) X hW i_1_139 rfl rfl (fun _ h => by cases h) rfl ((va_up_ne _ _ (by omega)).trans (z0_11 G (ki_X6_2 ha).1 (ki_X6_2 ha).2)) (by decide +kernel) (by decide +kernel) (Nat.le_of_ble_eq_true rfl) (Nat.le_of_ble_eq_true rfl) (Nat.le_of_ble_eq_true rfl) dX6_init_18 fun H hW => ?_
    have hW : CW G (va_up (ct G σ0) a (.inr (5, [.ref (gz G + (a + 1)), .null, .null, .int 0, .int 0, .int 0, .int 0]))) a 3 s _ _ := hW
    refine o_put (k := 1) (v := .ref (gz G + (a + 2))) (ty := .array .int) X hW (by decide) inTB_X6 tyX6 tyX6_ok nmX6 rfl (by decide) i_1_211 (fun _ => ⟨hin, rfl⟩) (by decide +kernel) rfl rfl (Nat.le_of_ble_eq_true rfl) dX6_init_20 fun H locs hW => ?_
    have hW : CW G (va_up (ct G σ0) a (.inr (5, [.ref (gz G + (a + 1)), .ref (gz G + (a + 2)), .null, .int 0, .int 0, .int 0, .int 0]))) a 3 s _ _ := hW
    refine lv_aload_n hx hb dX6_init_23 rfl (lv_at hl 0 rfl) ?_
    refine lv_sipush (v := 801) hx hb dX6_init_24 (by decide) ?_
    refine o_newa (atype := .int) (ty := .int) (t := 0) (N := 801) (a0 := (801, .inl (fun _ => 0))) X hW i_1_139 rfl rfl (fun _ h => by cases h) rfl ((va_up_ne _ _ (by omega)).trans (z0_11 G (ki_X6_3 ha).1 (ki_X6_3 ha).2)) (by decide +kernel) (by decide +kernel) (Nat.le_of_ble_eq_true rfl) (Nat.le_of_ble_eq_true rfl) (Nat.le_of_ble_eq_true rfl) dX6_init_27 fun H hW => ?_
    have hW : CW G (va_up (ct G σ0) a (.inr (5, [.ref (gz G + (a + 1)), .ref (gz G + (a + 2)), .null, .int 0, .int 0, .int 0, .int 0]))) a 4 s _ _ := hW
    refine o_put (k := 2) (v := .ref (gz G + (a + 3))) (ty := .array .int) X hW (by decide) inTB_X6 tyX6 tyX6_ok nmX6 rfl (by decide) i_1_212 (fun _ => ⟨hin, rfl⟩) (by decide +kernel) rfl rfl (Nat.le_of_ble_eq_true rfl) dX6_init_29 fun H locs hW => ?_
    have hW : CW G (va_up (ct G σ0) a (.inr (5, [.ref (gz G + (a + 1)), .ref (gz G + (a + 2)), .ref (gz G + (a + 3)), .int 0, .int 0, .int 0, .int 0]))) a 4 s _ _ := hW
    refine lv_aload_n hx hb dX6_init_32 rfl (lv_at hl 0 rfl) ?_
    refine lv_iconst (v := 0) hx hb dX6_init_33 (by decide) ?_
    refine o_put (k := 3) (v := .int 0) (ty := .int) X hW (by decide) inTB_X6 tyX6 tyX6_ok nmX6 rfl (by decide) i_1_213 (fun _ => ⟨hin, rfl⟩) (by decide +kernel) rfl rfl (Nat.le_of_ble_eq_true rfl) dX6_init_34 fun H locs hW => ?_
    have hW : CW G (va_up (ct G σ0) a (.inr (5, [.ref (gz G + (a + 1)), .ref (gz G + (a + 2)), .ref (gz G + (a + 3)), .int 0, .int 0, .int 0, .int 0]))) a 4 s _ _ := hW
    refine lv_aload_n hx hb dX6_init_37 rfl (lv_at hl 0 rfl) ?_
    refine lv_iconst (v := 0) hx hb dX6_init_38 (by decide) ?_
    refine o_put (k := 4) (v := .int 0) (ty := .int) X hW (by decide) inTB_X6 tyX6 tyX6_ok nmX6 rfl (by decide) i_1_214 (fun _ => ⟨hin, rfl⟩) (by decide +kernel) rfl rfl (Nat.le_of_ble_eq_true rfl) dX6_init_39 fun H locs hW => ?_
    have hW : CW G (va_up (ct G σ0) a (.inr (5, [.ref (gz G + (a + 1)), .ref (gz G + (a + 2)), .ref (gz G + (a + 3)), .int 0, .int 0, .int 0, .int 0]))) a 4 s _ _ := hW
    refine lv_aload_n hx hb dX6_init_42 rfl (lv_at hl 0 rfl) ?_
    refine lv_iconst (v := 0) hx hb dX6_init_43 (by decide) ?_
    refine o_put (k := 5) (v := .int 0) (ty := .int) X hW (by decide) inTB_X6 tyX6 tyX6_ok nmX6 rfl (by decide) i_1_215 (fun _ => ⟨hin, rfl⟩) (by decide +kernel) rfl rfl (Nat.le_of_ble_eq_true rfl) dX6_init_44 fun H locs hW => ?_
    have hW : CW G (va_up (ct G σ0) a (.inr (5, [.ref (gz G + (a + 1)), .ref (gz G + (a + 2)), .ref (gz G + (a + 3)), .int 0, .int 0, .int 0, .int 0]))) a 4 s _ _ := hW
    refine lv_aload_n hx hb dX6_init_47 rfl (lv_at hl 0 rfl) ?_
    refine lv_iconst (v := (-1)) hx hb dX6_init_48 (by decide) ?_
    refine o_put (k := 6) (v := .int (-1)) (ty := .int) X hW (by decide) inTB_X6 tyX6 tyX6_ok nmX6 rfl (by decide) i_1_217 (fun _ => ⟨hin, rfl⟩) (by decide +kernel) rfl rfl (Nat.le_of_ble_eq_true rfl) dX6_init_49 fun H locs hW => ?_
    have hW : CW G (va_up (ct G σ0) a (.inr (5, [.ref (gz G + (a + 1)), .ref (gz G + (a + 2)), .ref (gz G + (a + 3)), .int 0, .int 0, .int 0, .int (-1)]))) a 4 s _ _ := hW
    have ez : ct G σ0 a = .inr (5, [.ref (gz G + (a + 1)), .ref (gz G + (a + 2)), .ref (gz G + (a + 3)), .int 0, .int 0, .int 0, .int (-1)]) := by
      rw [ct_5 G σ0 ha]
      rw [show gI σ0 a 3 = 0 from z0_I (by rw [ha]; decide) (by rw [ha]; decide) (by rw [ha]; decide), show gI σ0 a 4 = 0 from z0_I (by rw [ha]; decide) (by rw [ha]; decide) (by rw [ha]; decide), show gI σ0 a 5 = 0 from z0_I (by rw [ha]; decide) (by rw [ha]; decide) (by rw [ha]; decide), show gI σ0 a 6 = -1 from if_pos (by rw [ha]; decide)]
    exact hr _ _ _ _ dX6_init_52 (hW.to (fun j hj => by rw [← ez, va_up_id]))
