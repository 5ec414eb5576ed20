set_option maxRecDepth 100000 in
set_option maxHeartbeats 4000000 in
theorem i_X4_init {G : Gt} {l : Launch} (a : Nat) (ha : kd a = 4) : CtI G l yX4_init cX4_init 1 3 a 8 7 2439 (.inr (4, [.null, .null, .null, .int 0, .int 0, .int 0])) := by
    refine met_c (by decide +kernel) rfl (by decide) ?_
    intro p e s m args below meth c Q ls X hin hW hr hl
    have hx := X.1.1
    have hb := X.1.2.1
    refine lv_aload_n hx hb dX4_init_0 rfl (lv_at hl 0 rfl) ?_
    refine o_obj X i_1_201 (by decide) (Nat.le_of_ble_eq_true rfl) hl.1 dX4_init_1 ?_
    refine lv_aload_n hx hb dX4_init_4 rfl (lv_at hl 0 rfl) ?_
    have hW : CW G (va_up (va_up (ct G σ0) a (.inr (4, [.null, .null, .null, .int 0, .int 0, .int 0]))) (a + 1) (.inr (5, [.null, .null, .null, .int 0, .int 0, .int 0, .int 0]))) a 1 s _ _ := hW.to (fun j hj => (va_up_ne _ _ (by omega)).symm)
    refine o_new (ci := 5) (fs := [.null, .null, .null, .int 0, .int 0, .int 0, .int 0]) X hW inTB_X6 tyX6 tyX6_ok rfl (va_up_self _ _ _) (by decide +kernel) i_1_202 i_1_203 i_1_23 (Nat.le_of_ble_eq_true rfl) (Nat.le_of_ble_eq_true rfl) dX4_init_5 fun H hW => ?_
    refine lv_dup hx hb dX4_init_8 rfl ?_
    refine o_callIN X hW (va_up_self _ _ _) i_1_204 i_1_205 mv_X6_init rfl (i_X6_init (a + 1) (ki_X4_1 ha).1) (by decide) (Nat.le_of_ble_eq_true rfl) hl.1 dX4_init_9 (Nat.le_of_ble_eq_true rfl) (Nat.le_of_ble_eq_true rfl) (va_up (ct G σ0) a (.inr (4, [.null, .null, .null, .int 0, .int 0, .int 0]))) (fun j hj => va_up_ne _ _ (by omega)) (fun j hj => (va_up_ne _ _ (by omega))) fun H locs hW => ?_
    have hW : CW G (va_up (ct G σ0) a (.inr (4, [.null, .null, .null, .int 0, .int 0, .int 0]))) a 5 s _ _ := hW
    refine o_put (k := 0) (v := .ref (gz G + (a + 1))) (ty := .object "QuestLedger$Tokens") X hW (by decide) inTB_X4 tyX4 tyX4_ok nmX4 rfl (by decide) i_2_12 (fun _ => ⟨hin, rfl⟩) (by decide +kernel) rfl rfl (Nat.le_of_ble_eq_true rfl) dX4_init_12 fun H locs hW => ?_
    have hW : CW G (va_up (ct G σ0) a (.inr (4, [.ref (gz G + (a + 1)), .null, .null, .int 0, .int 0, .int 0]))) a 5 s _ _ := hW
    refine lv_aload_n hx hb dX4_init_15 rfl (lv_at hl 0 rfl) ?_
    have hW : CW G (va_up (va_up (ct G σ0) a (.inr (4, [.ref (gz G + (a + 1)), .null, .null, .int 0, .int 0, .int 0]))) (a + 5) (.inr (0, [.null]))) a 5 s _ _ := hW.to (fun j hj => (va_up_ne _ _ (by omega)).symm)
    refine o_new (ci := 0) (fs := [.null]) X hW inTB_X0 tyX0 tyX0_ok rfl (va_up_self _ _ _) (by decide +kernel) i_1_234 i_1_235 i_1_24 (Nat.le_of_ble_eq_true rfl) (Nat.le_of_ble_eq_true rfl) dX4_init_16 fun H hW => ?_
    refine lv_dup hx hb dX4_init_19 rfl ?_
    refine o_callIN X hW (va_up_self _ _ _) i_1_236 i_1_237 mv_X0_init rfl (i_X0_init (a + 5) (ki_X4_5 ha).1) (by decide) (Nat.le_of_ble_eq_true rfl) hl.1 dX4_init_20 (Nat.le_of_ble_eq_true rfl) (Nat.le_of_ble_eq_true rfl) (va_up (ct G σ0) a (.inr (4, [.ref (gz G + (a + 1)), .null, .null, .int 0, .int 0, .int 0]))) (fun j hj => va_up_ne _ _ (by omega)) (fun j hj => (va_up_ne _ _ (by omega))) fun H locs hW => ?_
    have hW : CW G (va_up (ct G σ0) a (.inr (4, [.ref (gz G + (a + 1)), .null, .null, .int 0, .int 0, .int 0]))) a 7 s _ _ := hW
    refine o_put (k := 1) (v := .ref (gz G + (a + 5))) (ty := .object "QuestLedger$GoalReader") X hW (by decide) inTB_X4 tyX4 tyX4_ok nmX4 rfl (by decide) i_2_13 (fun _ => ⟨hin, rfl⟩) (by decide +kernel) rfl rfl (Nat.le_of_ble_eq_true rfl) dX4_init_23 fun H locs hW => ?_
    have hW : CW G (va_up (ct G σ0) a (.inr (4, [.ref (gz G + (a + 1)), .ref (gz G + (a + 5)), .null, .int 0, .int 0, .int 0]))) a 7 s _ _ := hW
    refine lv_aload_n hx hb dX4_init_26 rfl (lv_at hl 0 rfl) ?_
    have hW : CW G (va_up (va_up (ct G σ0) a (.inr (4, [.ref (gz G + (a + 1)), .ref (gz G + (a + 5)), .null, .int 0, .int 0, .int 0]))) (a + 7) (.inr (8, []))) a 7 s _ _ := hW.to (fun j hj => (va_up_ne _ _ (by omega)).symm)
    refine o_new (ci := 8) (fs := []) X hW inTB_X9 tyX9 tyX9_ok rfl (va_up_self _ _ _) (by decide +kernel) i_2_5 i_2_6 i_1_25 (Nat.le_of_ble_eq_true rfl) (Nat.le_of_ble_eq_true rfl) dX4_init_27 fun H hW => ?_
    refine lv_dup hx hb dX4_init_30 rfl ?_
    refine o_callIN X hW (va_up_self _ _ _) i_2_7 i_2_8 mv_X9_init rfl (i_X9_init (a + 7) (ki_X4_7 ha).1) (by decide) (Nat.le_of_ble_eq_true rfl) hl.1 dX4_init_31 (Nat.le_of_ble_eq_true rfl) (Nat.le_of_ble_eq_true rfl) (va_up (ct G σ0) a (.inr (4, [.ref (gz G + (a + 1)), .ref (gz G + (a + 5)), .null, .int 0, .int 0, .int 0]))) (fun j hj => va_up_ne _ _ (by omega)) (fun j hj => (va_up_ne _ _ (by omega))) fun H locs hW => ?_
    have hW : CW G (va_up (ct G σ0) a (.inr (4, [.ref (gz G + (a + 1)), .ref (gz G + (a + 5)), .null, .int 0, .int 0, .int 0]))) a 8 s _ _ := hW
    refine o_put (k := 2) (v := .ref (gz G + (a + 7))) (ty := .object "QuestLedger$WorthReader") X hW (by decide) inTB_X4 tyX4 tyX4_ok nmX4 rfl (by decide) i_2_14 (fun _ => ⟨hin, rfl⟩) (by decide +kernel) rfl rfl (Nat.le_of_ble_eq_true rfl) dX4_init_34 fun H locs hW => ?_
    have hW : CW G (va_up (ct G σ0) a (.inr (4, [.ref (gz G + (a + 1)), .ref (gz G + (a + 5)), .ref (gz G + (a + 7)), .int 0, .int 0, .int 0]))) a 8 s _ _ := hW
    refine lv_aload_n hx hb dX4_init_37 rfl (lv_at hl 0 rfl) ?_
    refine lv_iconst (v := 0) hx hb dX4_init_38 (by decide) ?_
    refine o_put (k := 3) (v := .int 0) (ty := .int) X hW (by decide) inTB_X4 tyX4 tyX4_ok nmX4 rfl (by decide) i_2_15 (fun _ => ⟨hin, rfl⟩) (by decide +kernel) rfl rfl (Nat.le_of_ble_eq_true rfl) dX4_init_39 fun H locs hW => ?_
    have hW : CW G (va_up (ct G σ0) a (.inr (4, [.ref (gz G + (a + 1)), .ref (gz G + (a + 5)), .ref (gz G + (a + 7)), .int 0, .int 0, .int 0]))) a 8 s _ _ := hW
    refine lv_aload_n hx hb dX4_init_42 rfl (lv_at hl 0 rfl) ?_
    refine lv_iconst (v := 0) hx hb dX4_init_43 (by decide) ?_
    refine o_put (k := 4) (v := .int 0) (ty := .boolean) X hW (by decide) inTB_X4 tyX4 tyX4_ok nmX4 rfl (by decide) i_2_16 (fun _ => ⟨hin, rfl⟩) (by decide +kernel) rfl rfl (Nat.le_of_ble_eq_true rfl) dX4_init_44 fun H locs hW => ?_
    have hW : CW G (va_up (ct G σ0) a (.inr (4, [.ref (gz G + (a + 1)), .ref (gz G + (a + 5)), .ref (gz G + (a + 7)), .int 0, .int 0, .int 0]))) a 8 s _ _ := hW
    refine lv_aload_n hx hb dX4_init_47 rfl (lv_at hl 0 rfl) ?_
    refine lv_iconst (v := 0) hx hb dX4_init_48 (by decide) ?_
    refine o_put (k := 5) (v := .int 0) (ty := .boolean) X hW (by decide) inTB_X4 tyX4 tyX4_ok nmX4 rfl (by decide) i_2_17 (fun _ => ⟨hin, rfl⟩) (by decide +kernel) rfl rfl (Nat.le_of_ble_eq_true rfl) dX4_init_49 fun H locs hW => ?_
    have hW : CW G (va_up (ct G σ0) a (.inr (4, [.ref (gz G + (a + 1)), .ref (gz G + (a + 5)), .ref (gz G + (a + 7)), .int 0, .int 0, .int 0]))) a 8 s _ _ := hW
    have ez : ct G σ0 a = .inr (4, [.ref (gz G + (a + 1)), .ref (gz G + (a + 5)), .ref (gz G + (a + 7)), .int 0, .int 0, .int 0]) := by
      rw [ct_4 G σ0 ha]
      rw [show gI σ0 a 3 = 0 from z0_I (by rw [ha]; decide) (by rw [ha]; decide) (by rw [ha]; decide), show gI σ0 a 4 = 0 from z0_I (by rw [ha]; decide) (by rw [ha]; decide) (by rw [ha]; decide), show gI σ0 a 5 = 0 from z0_I (by rw [ha]; decide) (by rw [ha]; decide) (by rw [ha]; decide)]
    exact hr _ _ _ _ dX4_init_52 (hW.to (fun j hj => by rw [← ez, va_up_id]))
