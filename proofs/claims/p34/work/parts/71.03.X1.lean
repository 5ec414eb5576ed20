set_option maxRecDepth 100000 in
set_option maxHeartbeats 4000000 in
theorem i_X1_init {G : Gt} {l : Launch} (a : Nat) (ha : kd a = 1) : CtI G l yX1_init cX1_init 2 4 a 474 473 15928 (.inr (1, [.null, .int 0, .int 0])) := by
    refine met_c (by decide +kernel) rfl (by decide) ?_
    intro p e s m args below meth c Q ls X hin hW hr hl
    have hx := X.1.1
    have hb := X.1.2.1
    refine lv_aload_n hx hb dX1_init_0 rfl (lv_at hl 0 rfl) ?_
    refine o_obj X i_1_182 (by decide) (Nat.le_of_ble_eq_true rfl) hl.1 dX1_init_1 ?_
    refine lv_aload_n hx hb dX1_init_4 rfl (lv_at hl 0 rfl) ?_
    refine lv_bipush (v := 8) hx hb dX1_init_5 (by decide) ?_
    have hW : CW G (va_up (va_up (ct G σ0) (a + 1) (.inl (gty G 6, 8, .inr (.inr (.inr (.inr (fun _ => none))))))) a (.inr (1, [.null, .int 0, .int 0]))) a 1 s _ _ := hW.to (fun j hj => (o_swap (by omega) (by omega)).symm)
    refine o_newq (t := 6) (N := 8) X hW i_1_183 (by decide) rfl ((va_up_ne _ _ (by omega)).trans (va_up_self _ _ _)) (by decide +kernel) (by decide +kernel) (Nat.le_of_ble_eq_true rfl) (Nat.le_of_ble_eq_true rfl) (Nat.le_of_ble_eq_true rfl) dX1_init_7 fun H hW => ?_
    have hW : CW G (va_up (va_up (ct G σ0) (a + 1) (.inl (gty G 6, 8, .inr (.inr (.inr (.inr (fun _ => none))))))) a (.inr (1, [.null, .int 0, .int 0]))) a 2 s _ _ := hW
    refine o_put (k := 0) (v := .ref (gz G + (a + 1))) (ty := .array (.object "QuestLedger$Ledger")) X hW (by decide) inTB_X1 tyX1 tyX1_ok nmX1 rfl (by decide) i_1_186 (fun _ => ⟨hin, rfl⟩) (by decide +kernel) rfl rfl (Nat.le_of_ble_eq_true rfl) dX1_init_10 fun H locs hW => ?_
    have hW : CW G (va_up (va_up (ct G σ0) (a + 1) (.inl (gty G 6, 8, .inr (.inr (.inr (.inr (fun _ => none))))))) a (.inr (1, [.ref (gz G + (a + 1)), .int 0, .int 0]))) a 2 s _ _ := hW
    refine lv_aload_n hx hb dX1_init_13 rfl (lv_at hl 0 rfl) ?_
    refine lv_iconst (v := 0) hx hb dX1_init_14 (by decide) ?_
    refine o_put (k := 1) (v := .int 0) (ty := .int) X hW (by decide) inTB_X1 tyX1 tyX1_ok nmX1 rfl (by decide) i_1_187 (fun _ => ⟨hin, rfl⟩) (by decide +kernel) rfl rfl (Nat.le_of_ble_eq_true rfl) dX1_init_15 fun H locs hW => ?_
    have hW : CW G (va_up (va_up (ct G σ0) (a + 1) (.inl (gty G 6, 8, .inr (.inr (.inr (.inr (fun _ => none))))))) a (.inr (1, [.ref (gz G + (a + 1)), .int 0, .int 0]))) a 2 s _ _ := hW
    refine lv_aload_n hx hb dX1_init_18 rfl (lv_at hl 0 rfl) ?_
    refine lv_iconst (v := 0) hx hb dX1_init_19 (by decide) ?_
    refine o_put (k := 2) (v := .int 0) (ty := .int) X hW (by decide) inTB_X1 tyX1 tyX1_ok nmX1 rfl (by decide) i_1_188 (fun _ => ⟨hin, rfl⟩) (by decide +kernel) rfl rfl (Nat.le_of_ble_eq_true rfl) dX1_init_20 fun H locs hW => ?_
    have hW : CW G (va_up (va_up (ct G σ0) (a + 1) (.inl (gty G 6, 8, .inr (.inr (.inr (.inr (fun _ => none))))))) a (.inr (1, [.ref (gz G + (a + 1)), .int 0, .int 0]))) a 2 s _ _ := hW
    refine lv_iconst (v := 0) hx hb dX1_init_23 (by decide) ?_
    refine lv_istore_n hx hb dX1_init_24 rfl hl (by decide) (lv' := [(1, .int 0), (0, .ref (gz G + a))]) rfl fun ls hl => ?_
    refine lv_iload_n hx hb dX1_init_25 rfl (lv_at hl 0 rfl) ?_
    refine lv_bipush (v := 8) hx hb dX1_init_26 (by decide) ?_
    refine lv_icmp_ge (tgt := 50) hx hb dX1_init_28 (by decide) (fun q => absurd q (by decide)) (fun _ => ?_)
    refine lv_aload_n hx hb dX1_init_31 rfl (lv_at hl 1 rfl) ?_
    refine o_get (k := 0) (v := .ref (gz G + (a + 1))) X hW (by decide) inTB_X1 rfl (by decide) i_1_186 rfl dX1_init_32 ?_
    refine lv_iload_n hx hb dX1_init_35 rfl (lv_at hl 0 rfl) ?_
    have hW : CW G (va_up (va_up (va_up (ct G σ0) (a + 1) (.inl (gty G 6, 8, .inr (.inr (.inr (.inr (fun _ => none))))))) a (.inr (1, [.ref (gz G + (a + 1)), .int 0, .int 0]))) (a + 2) (.inr (2, [.null, .null, .int 0, .int 0, .null, .int 0, .null, .int 0]))) a 2 s _ _ := hW.to (fun j hj => (va_up_ne _ _ (by omega)).symm)
    refine o_new (ci := 2) (fs := [.null, .null, .int 0, .int 0, .null, .int 0, .null, .int 0]) X hW inTB_X2 tyX2 tyX2_ok rfl (va_up_self _ _ _) (by decide +kernel) i_1_183 i_1_48 i_1_19 (Nat.le_of_ble_eq_true rfl) (Nat.le_of_ble_eq_true rfl) dX1_init_36 fun H hW => ?_
    refine lv_dup hx hb dX1_init_39 rfl ?_
    refine o_callI X hW (va_up_self _ _ _) i_1_185 i_1_50 mv_X2_init rfl (i_X2_init (a + 2) (ki_X1_2 ha).1) (by decide) (Nat.le_of_ble_eq_true rfl) hl.1 dX1_init_40 (Nat.le_of_ble_eq_true rfl) (Nat.le_of_ble_eq_true rfl) (va_up (va_up (ct G σ0) (a + 1) (.inl (gty G 6, 8, .inr (.inr (.inr (.inr (fun _ => none))))))) a (.inr (1, [.ref (gz G + (a + 1)), .int 0, .int 0]))) (fun j hj => va_up_ne _ _ (by omega)) (fun j hj => ((va_up_ne _ _ (by omega)).trans (va_up_ne _ _ (by omega)))) fun H locs hW => ?_
    have hW : CW G (va_up (va_up (ct G σ0) (a + 1) (.inl (gty G 6, 8, .inr (.inr (.inr (.inr (fun _ => none))))))) a (.inr (1, [.ref (gz G + (a + 1)), .int 0, .int 0]))) a 61 s _ _ := hW
    refine o_ast (t := 6) (q := 1) (b := 2) (f := (fun _ => none)) X hW (by decide) ((va_up_ne _ _ (by omega)).trans (va_up_self _ _ _)) rfl (by decide) ((va_up_ne _ _ (by omega)).trans ((va_up_ne _ _ (by omega)).trans (ct_2 G σ0 (ki_X1_2 ha).1))) rfl (vp_in_nI (n := 0) (by decide) (by decide)) dX1_init_43 fun H locs hW => ?_
    have hW : CW G (va_up (va_up (ct G σ0) (a + 1) (.inl (gty G 6, 8, .inr (.inr (.inr (.inr (va_up (fun _ => none) 0 (some (gz G + (a + 2)))))))))) a (.inr (1, [.ref (gz G + (a + 1)), .int 0, .int 0]))) a 61 s _ _ := hW.to (fun j hj => o_swap2 (by omega))
    refine lv_iinc (k := 0) (v := 1) hx hb dX1_init_44 hl rfl (by decide) (by decide) (lv' := [(1, .int 1), (0, .ref (gz G + a))]) rfl fun ls hl => ?_
    refine lv_goto (tgt := 25) hx hb dX1_init_47 (by decide) ?_
    refine lv_iload_n hx hb dX1_init_25 rfl (lv_at hl 0 rfl) ?_
    refine lv_bipush (v := 8) hx hb dX1_init_26 (by decide) ?_
    refine lv_icmp_ge (tgt := 50) hx hb dX1_init_28 (by decide) (fun q => absurd q (by decide)) (fun _ => ?_)
    refine lv_aload_n hx hb dX1_init_31 rfl (lv_at hl 1 rfl) ?_
    refine o_get (k := 0) (v := .ref (gz G + (a + 1))) X hW (by decide) inTB_X1 rfl (by decide) i_1_186 rfl dX1_init_32 ?_
    refine lv_iload_n hx hb dX1_init_35 rfl (lv_at hl 0 rfl) ?_
    have hW : CW G (va_up (va_up (va_up (ct G σ0) (a + 1) (.inl (gty G 6, 8, .inr (.inr (.inr (.inr (va_up (fun _ => none) 0 (some (gz G + (a + 2)))))))))) a (.inr (1, [.ref (gz G + (a + 1)), .int 0, .int 0]))) (a + 61) (.inr (2, [.null, .null, .int 0, .int 0, .null, .int 0, .null, .int 0]))) a 61 s _ _ := hW.to (fun j hj => (va_up_ne _ _ (by omega)).symm)
    refine o_new (ci := 2) (fs := [.null, .null, .int 0, .int 0, .null, .int 0, .null, .int 0]) X hW inTB_X2 tyX2 tyX2_ok rfl (va_up_self _ _ _) (by decide +kernel) i_1_183 i_1_48 i_1_19 (Nat.le_of_ble_eq_true rfl) (Nat.le_of_ble_eq_true rfl) dX1_init_36 fun H hW => ?_
    refine lv_dup hx hb dX1_init_39 rfl ?_
    refine o_callI X hW (va_up_self _ _ _) i_1_185 i_1_50 mv_X2_init rfl (i_X2_init (a + 61) (ki_X1_61 ha).1) (by decide) (Nat.le_of_ble_eq_true rfl) hl.1 dX1_init_40 (Nat.le_of_ble_eq_true rfl) (Nat.le_of_ble_eq_true rfl) (va_up (va_up (ct G σ0) (a + 1) (.inl (gty G 6, 8, .inr (.inr (.inr (.inr (va_up (fun _ => none) 0 (some (gz G + (a + 2)))))))))) a (.inr (1, [.ref (gz G + (a + 1)), .int 0, .int 0]))) (fun j hj => va_up_ne _ _ (by omega)) (fun j hj => ((va_up_ne _ _ (by omega)).trans (va_up_ne _ _ (by omega)))) fun H locs hW => ?_
    have hW : CW G (va_up (va_up (ct G σ0) (a + 1) (.inl (gty G 6, 8, .inr (.inr (.inr (.inr (va_up (fun _ => none) 0 (some (gz G + (a + 2)))))))))) a (.inr (1, [.ref (gz G + (a + 1)), .int 0, .int 0]))) a 120 s _ _ := hW
    refine o_ast (t := 6) (q := 1) (b := 61) (f := (va_up (fun _ => none) 0 (some (gz G + (a + 2))))) X hW (by decide) ((va_up_ne _ _ (by omega)).trans (va_up_self _ _ _)) rfl (by decide) ((va_up_ne _ _ (by omega)).trans ((va_up_ne _ _ (by omega)).trans (ct_2 G σ0 (ki_X1_61 ha).1))) rfl (vp_in_nI (n := 1) (by decide) (by decide)) dX1_init_43 fun H locs hW => ?_
    have hW : CW G (va_up (va_up (ct G σ0) (a + 1) (.inl (gty G 6, 8, .inr (.inr (.inr (.inr (va_up (va_up (fun _ => none) 0 (some (gz G + (a + 2)))) 1 (some (gz G + (a + 61)))))))))) a (.inr (1, [.ref (gz G + (a + 1)), .int 0, .int 0]))) a 120 s _ _ := hW.to (fun j hj => o_swap2 (by omega))
    refine lv_iinc (k := 0) (v := 2) hx hb dX1_init_44 hl rfl (by decide) (by decide) (lv' := [(1, .int 2), (0, .ref (gz G + a))]) rfl fun ls hl => ?_
    refine lv_goto (tgt := 25) hx hb dX1_init_47 (by decide) ?_
    refine lv_iload_n hx hb dX1_init_25 rfl (lv_at hl 0 rfl) ?_
    refine lv_bipush (v := 8) hx hb dX1_init_26 (by decide) ?_
    refine lv_icmp_ge (tgt := 50) hx hb dX1_init_28 (by decide) (fun q => absurd q (by decide)) (fun _ => ?_)
    refine lv_aload_n hx hb dX1_init_31 rfl (lv_at hl 1 rfl) ?_
    refine o_get (k := 0) (v := .ref (gz G + (a + 1))) X hW (by decide) inTB_X1 rfl (by decide) i_1_186 rfl dX1_init_32 ?_
    refine lv_iload_n hx hb dX1_init_35 rfl (lv_at hl 0 rfl) ?_
    have hW : CW G (va_up (va_up (va_up (ct G σ0) (a + 1) (.inl (gty G 6, 8, .inr (.inr (.inr (.inr (va_up (va_up (fun _ => none) 0 (some (gz G + (a + 2)))) 1 (some (gz G + (a + 61)))))))))) a (.inr (1, [.ref (gz G + (a + 1)), .int 0, .int 0]))) (a + 120) (.inr (2, [.null, .null, .int 0, .int 0, .null, .int 0, .null, .int 0]))) a 120 s _ _ := hW.to (fun j hj => (va_up_ne _ _ (by omega)).symm)
    refine o_new (ci := 2) (fs := [.null, .null, .int 0, .int 0, .null, .int 0, .null, .int 0]) X hW inTB_X2 tyX2 tyX2_ok rfl (va_up_self _ _ _) (by decide +kernel) i_1_183 i_1_48 i_1_19 (Nat.le_of_ble_eq_true rfl) (Nat.le_of_ble_eq_true rfl) dX1_init_36 fun H hW => ?_
    refine lv_dup hx hb dX1_init_39 rfl ?_
    refine o_callI X hW (va_up_self _ _ _) i_1_185 i_1_50 mv_X2_init rfl (i_X2_init (a + 120) (ki_X1_120 ha).1) (by decide) (Nat.le_of_ble_eq_true rfl) hl.1 dX1_init_40 (Nat.le_of_ble_eq_true rfl) (Nat.le_of_ble_eq_true rfl) (va_up (va_up (ct G σ0) (a + 1) (.inl (gty G 6, 8, .inr (.inr (.inr (.inr (va_up (va_up (fun _ => none) 0 (some (gz G + (a + 2)))) 1 (some (gz G + (a + 61)))))))))) a (.inr (1, [.ref (gz G + (a + 1)), .int 0, .int 0]))) (fun j hj => va_up_ne _ _ (by omega)) (fun j hj => ((va_up_ne _ _ (by omega)).trans (va_up_ne _ _ (by omega)))) fun H locs hW => ?_
    have hW : CW G (va_up (va_up (ct G σ0) (a + 1) (.inl (gty G 6, 8, .inr (.inr (.inr (.inr (va_up (va_up (fun _ => none) 0 (some (gz G + (a + 2)))) 1 (some (gz G + (a + 61)))))))))) a (.inr (1, [.ref (gz G + (a + 1)), .int 0, .int 0]))) a 179 s _ _ := hW
    refine o_ast (t := 6) (q := 1) (b := 120) (f := (va_up (va_up (fun _ => none) 0 (some (gz G + (a + 2)))) 1 (some (gz G + (a + 61))))) X hW (by decide) ((va_up_ne _ _ (by omega)).trans (va_up_self _ _ _)) rfl (by decide) ((va_up_ne _ _ (by omega)).trans ((va_up_ne _ _ (by omega)).trans (ct_2 G σ0 (ki_X1_120 ha).1))) rfl (vp_in_nI (n := 2) (by decide) (by decide)) dX1_init_43 fun H locs hW => ?_
    have hW : CW G (va_up (va_up (ct G σ0) (a + 1) (.inl (gty G 6, 8, .inr (.inr (.inr (.inr (va_up (va_up (va_up (fun _ => none) 0 (some (gz G + (a + 2)))) 1 (some (gz G + (a + 61)))) 2 (some (gz G + (a + 120)))))))))) a (.inr (1, [.ref (gz G + (a + 1)), .int 0, .int 0]))) a 179 s _ _ := hW.to (fun j hj => o_swap2 (by omega))
    refine lv_iinc (k := 0) (v := 3) hx hb dX1_init_44 hl rfl (by decide) (by decide) (lv' := [(1, .int 3), (0, .ref (gz G + a))]) rfl fun ls hl => ?_
    refine lv_goto (tgt := 25) hx hb dX1_init_47 (by decide) ?_
    refine lv_iload_n hx hb dX1_init_25 rfl (lv_at hl 0 rfl) ?_
    refine lv_bipush (v := 8) hx hb dX1_init_26 (by decide) ?_
    refine lv_icmp_ge (tgt := 50) hx hb dX1_init_28 (by decide) (fun q => absurd q (by decide)) (fun _ => ?_)
    refine lv_aload_n hx hb dX1_init_31 rfl (lv_at hl 1 rfl) ?_
    refine o_get (k := 0) (v := .ref (gz G + (a + 1))) X hW (by decide) inTB_X1 rfl (by decide) i_1_186 rfl dX1_init_32 ?_
    refine lv_iload_n hx hb dX1_init_35 rfl (lv_at hl 0 rfl) ?_
    have hW : CW G (va_up (va_up (va_up (ct G σ0) (a + 1) (.inl (gty G 6, 8, .inr (.inr (.inr (.inr (va_up (va_up (va_up (fun _ => none) 0 (some (gz G + (a + 2)))) 1 (some (gz G + (a + 61)))) 2 (some (gz G + (a + 120)))))))))) a (.inr (1, [.ref (gz G + (a + 1)), .int 0, .int 0]))) (a + 179) (.inr (2, [.null, .null, .int 0, .int 0, .null, .int 0, .null, .int 0]))) a 179 s _ _ := hW.to (fun j hj => (va_up_ne _ _ (by omega)).symm)
    refine o_new (ci := 2) (fs := [.null, .null, .int 0, .int 0, .null, .int 0, .null, .int 0]) X hW inTB_X2 tyX2 tyX2_ok rfl (va_up_self _ _ _) (by decide +kernel) i_1_183 i_1_48 i_1_19 (Nat.le_of_ble_eq_true rfl) (Nat.le_of_ble_eq_true rfl) dX1_init_36 fun H hW => ?_
    refine lv_dup hx hb dX1_init_39 rfl ?_
    refine o_callI X hW (va_up_self _ _ _) i_1_185 i_1_50 mv_X2_init rfl (i_X2_init (a + 179) (ki_X1_179 ha).1) (by decide) (Nat.le_of_ble_eq_true rfl) hl.1 dX1_init_40 (Nat.le_of_ble_eq_true rfl) (Nat.le_of_ble_eq_true rfl) (va_up (va_up (ct G σ0) (a + 1) (.inl (gty G 6, 8, .inr (.inr (.inr (.inr (va_up (va_up (va_up (fun _ => none) 0 (some (gz G + (a + 2)))) 1 (some (gz G + (a + 61)))) 2 (some (gz G + (a + 120)))))))))) a (.inr (1, [.ref (gz G + (a + 1)), .int 0, .int 0]))) (fun j hj => va_up_ne _ _ (by omega)) (fun j hj => ((va_up_ne _ _ (by omega)).trans (va_up_ne _ _ (by omega)))) fun H locs hW => ?_
    have hW : CW G (va_up (va_up (ct G σ0) (a + 1) (.inl (gty G 6, 8, .inr (.inr (.inr (.inr (va_up (va_up (va_up (fun _ => none) 0 (some (gz G + (a + 2)))) 1 (some (gz G + (a + 61)))) 2 (some (gz G + (a + 120)))))))))) a (.inr (1, [.ref (gz G + (a + 1)), .int 0, .int 0]))) a 238 s _ _ := hW
    refine o_ast (t := 6) (q := 1) (b := 179) (f := (va_up (va_up (va_up (fun _ => none) 0 (some (gz G + (a + 2)))) 1 (some (gz G + (a + 61)))) 2 (some (gz G + (a + 120))))) X hW (by decide) ((va_up_ne _ _ (by omega)).trans (va_up_self _ _ _)) rfl (by decide) ((va_up_ne _ _ (by omega)).trans ((va_up_ne _ _ (by omega)).trans (ct_2 G σ0 (ki_X1_179 ha).1))) rfl (vp_in_nI (n := 3) (by decide) (by decide)) dX1_init_43 fun H locs hW => ?_
    have hW : CW G (va_up (va_up (ct G σ0) (a + 1) (.inl (gty G 6, 8, .inr (.inr (.inr (.inr (va_up (va_up (va_up (va_up (fun _ => none) 0 (some (gz G + (a + 2)))) 1 (some (gz G + (a + 61)))) 2 (some (gz G + (a + 120)))) 3 (some (gz G + (a + 179)))))))))) a (.inr (1, [.ref (gz G + (a + 1)), .int 0, .int 0]))) a 238 s _ _ := hW.to (fun j hj => o_swap2 (by omega))
    refine lv_iinc (k := 0) (v := 4) hx hb dX1_init_44 hl rfl (by decide) (by decide) (lv' := [(1, .int 4), (0, .ref (gz G + a))]) rfl fun ls hl => ?_
    refine lv_goto (tgt := 25) hx hb dX1_init_47 (by decide) ?_
    refine lv_iload_n hx hb dX1_init_25 rfl (lv_at hl 0 rfl) ?_
    refine lv_bipush (v := 8) hx hb dX1_init_26 (by decide) ?_
    refine lv_icmp_ge (tgt := 50) hx hb dX1_init_28 (by decide) (fun q => absurd q (by decide)) (fun _ => ?_)
    refine lv_aload_n hx hb dX1_init_31 rfl (lv_at hl 1 rfl) ?_
    refine o_get (k := 0) (v := .ref (gz G + (a + 1))) X hW (by decide) inTB_X1 rfl (by decide) i_1_186 rfl dX1_init_32 ?_
    refine lv_iload_n hx hb dX1_init_35 rfl (lv_at hl 0 rfl) ?_
    have hW : CW G (va_up (va_up (va_up (ct G σ0) (a + 1) (.inl (gty G 6, 8, .inr (.inr (.inr (.inr (va_up (va_up (va_up (va_up (fun _ => none) 0 (some (gz G + (a + 2)))) 1 (some (gz G + (a + 61)))) 2 (some (gz G + (a + 120)))) 3 (some (gz G + (a + 179)))))))))) a (.inr (1, [.ref (gz G + (a + 1)), .int 0, .int 0]))) (a + 238) (.inr (2, [.null, .null, .int 0, .int 0, .null, .int 0, .null, .int 0]))) a 238 s _ _ := hW.to (fun j hj => (va_up_ne _ _ (by omega)).symm)
    refine o_new (ci := 2) (fs := [.null, .null, .int 0, .int 0, .null, .int 0, .null, .int 0]) X hW inTB_X2 tyX2 tyX2_ok rfl (va_up_self _ _ _) (by decide +kernel) i_1_183 i_1_48 i_1_19 (Nat.le_of_ble_eq_true rfl) (Nat.le_of_ble_eq_true rfl) dX1_init_36 fun H hW => ?_
    refine lv_dup hx hb dX1_init_39 rfl ?_
    refine o_callI X hW (va_up_self _ _ _) i_1_185 i_1_50 mv_X2_init rfl (i_X2_init (a + 238) (ki_X1_238 ha).1) (by decide) (Nat.le_of_ble_eq_true rfl) hl.1 dX1_init_40 (Nat.le_of_ble_eq_true rfl) (Nat.le_of_ble_eq_true rfl) (va_up (va_up (ct G σ0) (a + 1) (.inl (gty G 6, 8, .inr (.inr (.inr (.inr (va_up (va_up (va_up (va_up (fun _ => none) 0 (some (gz G + (a + 2)))) 1 (some (gz G + (a + 61)))) 2 (some (gz G + (a + 120)))) 3 (some (gz G + (a + 179)))))))))) a (.inr (1, [.ref (gz G + (a + 1)), .int 0, .int 0]))) (fun j hj => va_up_ne _ _ (by omega)) (fun j hj => ((va_up_ne _ _ (by omega)).trans (va_up_ne _ _ (by omega)))) fun H locs hW => ?_
    have hW : CW G (va_up (va_up (ct G σ0) (a + 1) (.inl (gty G 6, 8, .inr (.inr (.inr (.inr (va_up (va_up (va_up (va_up (fun _ => none) 0 (some (gz G + (a + 2)))) 1 (some (gz G + (a + 61)))) 2 (some (gz G + (a + 120)))) 3 (some (gz G + (a + 179)))))))))) a (.inr (1, [.ref (gz G + (a + 1)), .int 0, .int 0]))) a 297 s _ _ := hW
    refine o_ast (t := 6) (q := 1) (b := 238) (f := (va_up (va_up (va_up (va_up (fun _ => none) 0 (some (gz G + (a + 2)))) 1 (some (gz G + (a + 61)))) 2 (some (gz G + (a + 120)))) 3 (some (gz G + (a + 179))))) X hW (by decide) ((va_up_ne _ _ (by omega)).trans (va_up_self _ _ _)) rfl (by decide) ((va_up_ne _ _ (by omega)).trans ((va_up_ne _ _ (by omega)).trans (ct_2 G σ0 (ki_X1_238 ha).1))) rfl (vp_in_nI (n := 4) (by decide) (by decide)) dX1_init_43 fun H locs hW => ?_
    have hW : CW G (va_up (va_up (ct G σ0) (a + 1) (.inl (gty G 6, 8, .inr (.inr (.inr (.inr (va_up (va_up (va_up (va_up (va_up (fun _ => none) 0 (some (gz G + (a + 2)))) 1 (some (gz G + (a + 61)))) 2 (some (gz G + (a + 120)))) 3 (some (gz G + (a + 179)))) 4 (some (gz G + (a + 238)))))))))) a (.inr (1, [.ref (gz G + (a + 1)), .int 0, .int 0]))) a 297 s _ _ := hW.to (fun j hj => o_swap2 (by omega))
    refine lv_iinc (k := 0) (v := 5) hx hb dX1_init_44 hl rfl (by decide) (by decide) (lv' := [(1, .int 5), (0, .ref (gz G + a))]) rfl fun ls hl => ?_
    refine lv_goto (tgt := 25) hx hb dX1_init_47 (by decide) ?_
    refine lv_iload_n hx hb dX1_init_25 rfl (lv_at hl 0 rfl) ?_
    refine lv_bipush (v := 8) hx hb dX1_init_26 (by decide) ?_
    refine lv_icmp_ge (tgt := 50) hx hb dX1_init_28 (by decide) (fun q => absurd q (by decide)) (fun _ => ?_)
    refine lv_aload_n hx hb dX1_init_31 rfl (lv_at hl 1 rfl) ?_
    refine o_get (k := 0) (v := .ref (gz G + (a + 1))) X hW (by decide) inTB_X1 rfl (by decide) i_1_186 rfl dX1_init_32 ?_
    refine lv_iload_n hx hb dX1_init_35 rfl (lv_at hl 0 rfl) ?_
    have hW : CW G (va_up (va_up (va_up (ct G σ0) (a + 1) (.inl (gty G 6, 8, .inr (.inr (.inr (.inr (va_up (va_up (va_up (va_up (va_up (fun _ => none) 0 (some (gz G + (a + 2)))) 1 (some (gz G + (a + 61)))) 2 (some (gz G + (a + 120)))) 3 (some (gz G + (a + 179)))) 4 (some (gz G + (a + 238)))))))))) a (.inr (1, [.ref (gz G + (a + 1)), .int 0, .int 0]))) (a + 297) (.inr (2, [.null, .null, .int 0, .int 0, .null, .int 0, .null, .int 0]))) a 297 s _ _ := hW.to (fun j hj => (va_up_ne _ _ (by omega)).symm)
    refine o_new (ci := 2) (fs := [.null, .null, .int 0, .int 0, .null, .int 0, .null, .int 0]) X hW inTB_X2 tyX2 tyX2_ok rfl (va_up_self _ _ _) (by decide +kernel) i_1_183 i_1_48 i_1_19 (Nat.le_of_ble_eq_true rfl) (Nat.le_of_ble_eq_true rfl) dX1_init_36 fun H hW => ?_
    refine lv_dup hx hb dX1_init_39 rfl ?_
    refine o_callI X hW (va_up_self _ _ _) i_1_185 i_1_50 mv_X2_init rfl (i_X2_init (a + 297) (ki_X1_297 ha).1) (by decide) (Nat.le_of_ble_eq_true rfl) hl.1 dX1_init_40 (Nat.le_of_ble_eq_true rfl) (Nat.le_of_ble_eq_true rfl) (va_up (va_up (ct G σ0) (a + 1) (.inl (gty G 6, 8, .inr (.inr (.inr (.inr (va_up (va_up (va_up (va_up (va_up (fun _ => none) 0 (some (gz G + (a + 2)))) 1 (some (gz G + (a + 61)))) 2 (some (gz G + (a + 120)))) 3 (some (gz G + (a + 179)))) 4 (some (gz G + (a + 238)))))))))) a (.inr (1, [.ref (gz G + (a + 1)), .int 0, .int 0]))) (fun j hj => va_up_ne _ _ (by omega)) (fun j hj => ((va_up_ne _ _ (by omega)).trans (va_up_ne _ _ (by omega)))) fun H locs hW => ?_
    have hW : CW G (va_up (va_up (ct G σ0) (a + 1) (.inl (gty G 6, 8, .inr (.inr (.inr (.inr (va_up (va_up (va_up (va_up (va_up (fun _ => none) 0 (some (gz G + (a + 2)))) 1 (some (gz G + (a + 61)))) 2 (some (gz G + (a + 120)))) 3 (some (gz G + (a + 179)))) 4 (some (gz G + (a + 238)))))))))) a (.inr (1, [.ref (gz G + (a + 1)), .int 0, .int 0]))) a 356 s _ _ := hW
    refine o_ast (t := 6) (q := 1) (b := 297) (f := (va_up (va_up (va_up (va_up (va_up (fun _ => none) 0 (some (gz G + (a + 2)))) 1 (some (gz G + (a + 61)))) 2 (some (gz G + (a + 120)))) 3 (some (gz G + (a + 179)))) 4 (some (gz G + (a + 238))))) X hW (by decide) ((va_up_ne _ _ (by omega)).trans (va_up_self _ _ _)) rfl (by decide) ((va_up_ne _ _ (by omega)).trans ((va_up_ne _ _ (by omega)).trans (ct_2 G σ0 (ki_X1_297 ha).1))) rfl (vp_in_nI (n := 5) (by decide) (by decide)) dX1_init_43 fun H locs hW => ?_
    have hW : CW G (va_up (va_up (ct G σ0) (a + 1) (.inl (gty G 6, 8, .inr (.inr (.inr (.inr (va_up (va_up (va_up (va_up (va_up (va_up (fun _ => none) 0 (some (gz G + (a + 2)))) 1 (some (gz G + (a + 61)))) 2 (some (gz G + (a + 120)))) 3 (some (gz G + (a + 179)))) 4 (some (gz G + (a + 238)))) 5 (some (gz G + (a + 297)))))))))) a (.inr (1, [.ref (gz G + (a + 1)), .int 0, .int 0]))) a 356 s _ _ := hW.to (fun j hj => o_swap2 (by omega))
    refine lv_iinc (k := 0) (v := 6) hx hb dX1_init_44 hl rfl (by decide) (by decide) (lv' := [(1, .int 6), (0, .ref (gz G + a))]) rfl fun ls hl => ?_
    refine lv_goto (tgt := 25) hx hb dX1_init_47 (by decide) ?_
    refine lv_iload_n hx hb dX1_init_25 rfl (lv_at hl 0 rfl) ?_
    refine lv_bipush (v := 8) hx hb dX1_init_26 (by decide) ?_
    refine lv_icmp_ge (tgt := 50) hx hb dX1_init_28 (by decide) (fun q => absurd q (by decide)) (fun _ => ?_)
    refine lv_aload_n hx hb dX1_init_31 rfl (lv_at hl 1 rfl) ?_
    refine o_get (k := 0) (v := .ref (gz G + (a + 1))) X hW (by decide) inTB_X1 rfl (by decide) i_1_186 rfl dX1_init_32 ?_
    refine lv_iload_n hx hb dX1_init_35 rfl (lv_at hl 0 rfl) ?_
    have hW : CW G (va_up (va_up (va_up (ct G σ0) (a + 1) (.inl (gty G 6, 8, .inr (.inr (.inr (.inr (va_up (va_up (va_up (va_up (va_up (va_up (fun _ => none) 0 (some (gz G + (a + 2)))) 1 (some (gz G + (a + 61)))) 2 (some (gz G + (a + 120)))) 3 (some (gz G + (a + 179)))) 4 (some (gz G + (a + 238)))) 5 (some (gz G + (a + 297)))))))))) a (.inr (1, [.ref (gz G + (a + 1)), .int 0, .int 0]))) (a + 356) (.inr (2, [.null, .null, .int 0, .int 0, .null, .int 0, .null, .int 0]))) a 356 s _ _ := hW.to (fun j hj => (va_up_ne _ _ (by omega)).symm)
    refine o_new (ci := 2) (fs := [.null, .null, .int 0, .int 0, .null, .int 0, .null, .int 0]) X hW inTB_X2 tyX2 tyX2_ok rfl (va_up_self _ _ _) (by decide +kernel) i_1_183 i_1_48 i_1_19 (Nat.le_of_ble_eq_true rfl) (Nat.le_of_ble_eq_true rfl) dX1_init_36 fun H hW => ?_
    refine lv_dup hx hb dX1_init_39 rfl ?_
    refine o_callI X hW (va_up_self _ _ _) i_1_185 i_1_50 mv_X2_init rfl (i_X2_init (a + 356) (ki_X1_356 ha).1) (by decide) (Nat.le_of_ble_eq_true rfl) hl.1 dX1_init_40 (Nat.le_of_ble_eq_true rfl) (Nat.le_of_ble_eq_true rfl) (va_up (va_up (ct G σ0) (a + 1) (.inl (gty G 6, 8, .inr (.inr (.inr (.inr (va_up (va_up (va_up (va_up (va_up (va_up (fun _ => none) 0 (some (gz G + (a + 2)))) 1 (some (gz G + (a + 61)))) 2 (some (gz G + (a + 120)))) 3 (some (gz G + (a + 179)))) 4 (some (gz G + (a + 238)))) 5 (some (gz G + (a + 297)))))))))) a (.inr (1, [.ref (gz G + (a + 1)), .int 0, .int 0]))) (fun j hj => va_up_ne _ _ (by omega)) (fun j hj => ((va_up_ne _ _ (by omega)).trans (va_up_ne _ _ (by omega)))) fun H locs hW => ?_
    have hW : CW G (va_up (va_up (ct G σ0) (a + 1) (.inl (gty G 6, 8, .inr (.inr (.inr (.inr (va_up (va_up (va_up (va_up (va_up (va_up (fun _ => none) 0 (some (gz G + (a + 2)))) 1 (some (gz G + (a + 61)))) 2 (some (gz G + (a + 120)))) 3 (some (gz G + (a + 179)))) 4 (some (gz G + (a + 238)))) 5 (some (gz G + (a + 297)))))))))) a (.inr (1, [.ref (gz G + (a + 1)), .int 0, .int 0]))) a 415 s _ _ := hW
    refine o_ast (t := 6) (q := 1) (b := 356) (f := (va_up (va_up (va_up (va_up (va_up (va_up (fun _ => none) 0 (some (gz G + (a + 2)))) 1 (some (gz G + (a + 61)))) 2 (some (gz G + (a + 120)))) 3 (some (gz G + (a + 179)))) 4 (some (gz G + (a + 238)))) 5 (some (gz G + (a + 297))))) X hW (by decide) ((va_up_ne _ _ (by omega)).trans (va_up_self _ _ _)) rfl (by decide) ((va_up_ne _ _ (by omega)).trans ((va_up_ne _ _ (by omega)).trans (ct_2 G σ0 (ki_X1_356 ha).1))) rfl (vp_in_nI (n := 6) (by decide) (by decide)) dX1_init_43 fun H locs hW => ?_
    have hW : CW G (va_up (va_up (ct G σ0) (a + 1) (.inl (gty G 6, 8, .inr (.inr (.inr (.inr (va_up (va_up (va_up (va_up (va_up (va_up (va_up (fun _ => none) 0 (some (gz G + (a + 2)))) 1 (some (gz G + (a + 61)))) 2 (some (gz G + (a + 120)))) 3 (some (gz G + (a + 179)))) 4 (some (gz G + (a + 238)))) 5 (some (gz G + (a + 297)))) 6 (some (gz G + (a + 356)))))))))) a (.inr (1, [.ref (gz G + (a + 1)), .int 0, .int 0]))) a 415 s _ _ := hW.to (fun j hj => o_swap2 (by omega))
    refine lv_iinc (k := 0) (v := 7) hx hb dX1_init_44 hl rfl (by decide) (by decide) (lv' := [(1, .int 7), (0, .ref (gz G + a))]) rfl fun ls hl => ?_
    refine lv_goto (tgt := 25) hx hb dX1_init_47 (by decide) ?_
    refine lv_iload_n hx hb dX1_init_25 rfl (lv_at hl 0 rfl) ?_
    refine lv_bipush (v := 8) hx hb dX1_init_26 (by decide) ?_
    refine lv_icmp_ge (tgt := 50) hx hb dX1_init_28 (by decide) (fun q => absurd q (by decide)) (fun _ => ?_)
    refine lv_aload_n hx hb dX1_init_31 rfl (lv_at hl 1 rfl) ?_
    refine o_get (k := 0) (v := .ref (gz G + (a + 1))) X hW (by decide) inTB_X1 rfl (by decide) i_1_186 rfl dX1_init_32 ?_
    refine lv_iload_n hx hb dX1_init_35 rfl (lv_at hl 0 rfl) ?_
    have hW : CW G (va_up (va_up (va_up (ct G σ0) (a + 1) (.inl (gty G 6, 8, .inr (.inr (.inr (.inr (va_up (va_up (va_up (va_up (va_up (va_up (va_up (fun _ => none) 0 (some (gz G + (a + 2)))) 1 (some (gz G + (a + 61)))) 2 (some (gz G + (a + 120)))) 3 (some (gz G + (a + 179)))) 4 (some (gz G + (a + 238)))) 5 (some (gz G + (a + 297)))) 6 (some (gz G + (a + 356)))))))))) a (.inr (1, [.ref (gz G + (a + 1)), .int 0, .int 0]))) (a + 415) (.inr (2, [.null, .null, .int 0, .int 0, .null, .int 0, .null, .int 0]))) a 415 s _ _ := hW.to (fun j hj => (va_up_ne _ _ (by omega)).symm)
    refine o_new (ci := 2) (fs := [.null, .null, .int 0, .int 0, .null, .int 0, .null, .int 0]) X hW inTB_X2 tyX2 tyX2_ok rfl (va_up_self _ _ _) (by decide +kernel) i_1_183 i_1_48 i_1_19 (Nat.le_of_ble_eq_true rfl) (Nat.le_of_ble_eq_true rfl) dX1_init_36 fun H hW => ?_
    refine lv_dup hx hb dX1_init_39 rfl ?_
    refine o_callI X hW (va_up_self _ _ _) i_1_185 i_1_50 mv_X2_init rfl (i_X2_init (a + 415) (ki_X1_415 ha).1) (by decide) (Nat.le_of_ble_eq_true rfl) hl.1 dX1_init_40 (Nat.le_of_ble_eq_true rfl) (Nat.le_of_ble_eq_true rfl) (va_up (va_up (ct G σ0) (a + 1) (.inl (gty G 6, 8, .inr (.inr (.inr (.inr (va_up (va_up (va_up (va_up (va_up (va_up (va_up (fun _ => none) 0 (some (gz G + (a + 2)))) 1 (some (gz G + (a + 61)))) 2 (some (gz G + (a + 120)))) 3 (some (gz G + (a + 179)))) 4 (some (gz G + (a + 238)))) 5 (some (gz G + (a + 297)))) 6 (some (gz G + (a + 356)))))))))) a (.inr (1, [.ref (gz G + (a + 1)), .int 0, .int 0]))) (fun j hj => va_up_ne _ _ (by omega)) (fun j hj => ((va_up_ne _ _ (by omega)).trans (va_up_ne _ _ (by omega)))) fun H locs hW => ?_
    have hW : CW G (va_up (va_up (ct G σ0) (a + 1) (.inl (gty G 6, 8, .inr (.inr (.inr (.inr (va_up (va_up (va_up (va_up (va_up (va_up (va_up (fun _ => none) 0 (some (gz G + (a + 2)))) 1 (some (gz G + (a + 61)))) 2 (some (gz G + (a + 120)))) 3 (some (gz G + (a + 179)))) 4 (some (gz G + (a + 238)))) 5 (some (gz G + (a + 297)))) 6 (some (gz G + (a + 356)))))))))) a (.inr (1, [.ref (gz G + (a + 1)), .int 0, .int 0]))) a 474 s _ _ := hW
    refine o_ast (t := 6) (q := 1) (b := 415) (f := (va_up (va_up (va_up (va_up (va_up (va_up (va_up (fun _ => none) 0 (some (gz G + (a + 2)))) 1 (some (gz G + (a + 61)))) 2 (some (gz G + (a + 120)))) 3 (some (gz G + (a + 179)))) 4 (some (gz G + (a + 238)))) 5 (some (gz G + (a + 297)))) 6 (some (gz G + (a + 356))))) X hW (by decide) ((va_up_ne _ _ (by omega)).trans (va_up_self _ _ _)) rfl (by decide) ((va_up_ne _ _ (by omega)).trans ((va_up_ne _ _ (by omega)).trans (ct_2 G σ0 (ki_X1_415 ha).1))) rfl (vp_in_nI (n := 7) (by decide) (by decide)) dX1_init_43 fun H locs hW => ?_
    have hW : CW G (va_up (va_up (ct G σ0) (a + 1) (.inl (gty G 6, 8, .inr (.inr (.inr (.inr (va_up (va_up (va_up (va_up (va_up (va_up (va_up (va_up (fun _ => none) 0 (some (gz G + (a + 2)))) 1 (some (gz G + (a + 61)))) 2 (some (gz G + (a + 120)))) 3 (some (gz G + (a + 179)))) 4 (some (gz G + (a + 238)))) 5 (some (gz G + (a + 297)))) 6 (some (gz G + (a + 356)))) 7 (some (gz G + (a + 415)))))))))) a (.inr (1, [.ref (gz G + (a + 1)), .int 0, .int 0]))) a 474 s _ _ := hW.to (fun j hj => o_swap2 (by omega))
    refine lv_iinc (k := 0) (v := 8) hx hb dX1_init_44 hl rfl (by decide) (by decide) (lv' := [(1, .int 8), (0, .ref (gz G + a))]) rfl fun ls hl => ?_
    refine lv_goto (tgt := 25) hx hb dX1_init_47 (by decide) ?_
    refine lv_iload_n hx hb dX1_init_25 rfl (lv_at hl 0 rfl) ?_
    refine lv_bipush (v := 8) hx hb dX1_init_26 (by decide) ?_
    refine lv_icmp_ge (tgt := 50) hx hb dX1_init_28 (by decide) (fun _ => ?_) (fun q => absurd q (by decide))
    have ez : ct G σ0 a = .inr (1, [.ref (gz G + (a + 1)), .int 0, .int 0]) := by
      rw [ct_1 G σ0 ha]
      rw [show gI σ0 a 1 = 0 from z0_I (by rw [ha]; decide) (by rw [ha]; decide) (by rw [ha]; decide), show gI σ0 a 2 = 0 from z0_I (by rw [ha]; decide) (by rw [ha]; decide) (by rw [ha]; decide)]
    have hW : CW G (va_up (ct G σ0) (a + 1) (.inl (gty G 6, 8, .inr (.inr (.inr (.inr (va_up (va_up (va_up (va_up (va_up (va_up (va_up (va_up (fun _ => none) 0 (some (gz G + (a + 2)))) 1 (some (gz G + (a + 61)))) 2 (some (gz G + (a + 120)))) 3 (some (gz G + (a + 179)))) 4 (some (gz G + (a + 238)))) 5 (some (gz G + (a + 297)))) 6 (some (gz G + (a + 356)))) 7 (some (gz G + (a + 415)))))))))) a 474 s _ _ := hW.to (fun j hj => by rw [o_swap3 (by omega), ← ez, va_up_id])
    have hW := CW.fix (g := fun k => some (gz G + (a + 1 + 1 + 59 * k))) hW (q := 1) (by decide) (va_up_self _ _ _) (fun j hj => by rcases (by omega : j = 0 ∨ j = 1 ∨ j = 2 ∨ j = 3 ∨ j = 4 ∨ j = 5 ∨ j = 6 ∨ j = 7) with rfl | rfl | rfl | rfl | rfl | rfl | rfl | rfl <;> (simp [va_up] <;> omega))
    have e16 : ct G σ0 (a + 1) = .inl (gty G 6, 8, .inr (.inr (.inr (.inr (fun k => some (gz G + (a + 1 + 1 + 59 * k))))))) := by rw [ct_17 G σ0 (ki_X1_1 ha).1, (ki_X1_1 ha).2]
    exact hr _ _ _ _ dX1_init_50 (hW.to (fun j hj => by rw [va_up_up, ← e16, va_up_id]))
