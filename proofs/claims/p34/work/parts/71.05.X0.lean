set_option maxRecDepth 100000 in
set_option maxHeartbeats 4000000 in
theorem i_X0_init {G : Gt} {l : Launch} (a : Nat) (ha : kd a = 0) : CtI G l yX0_init cX0_init 1 2 a 2 1 28 (.inr (0, [.null])) := by
    refine met_c (by decide +kernel) rfl (by decide) ?_
    intro p e s m args below meth c Q ls X hin hW hr hl
    have hx := X.1.1
    have hb := X.1.2.1
    refine lv_aload_n hx hb dX0_init_0 rfl (lv_at hl 0 rfl) ?_
    refine o_obj X i_1_239 (by decide) (Nat.le_of_ble_eq_true rfl) hl.1 dX0_init_1 ?_
    refine lv_aload_n hx hb dX0_init_4 rfl (lv_at hl 0 rfl) ?_
    refine lv_bipush (v := 28) hx hb dX0_init_5 (by decide) ?_
    refine o_newa (atype := .long) (ty := .long) (t := 1) (N := 28) (a0 := (28, .inr (.inl (fun _ => 0)))) X hW i_2_4 rfl rfl (fun _ h => by cases h) rfl ((va_up_ne _ _ (by omega)).trans (z0_12 G (ki_X0_1 ha).1 (ki_X0_1 ha).2)) (by decide +kernel) (by decide +kernel) (Nat.le_of_ble_eq_true rfl) (Nat.le_of_ble_eq_true rfl) (Nat.le_of_ble_eq_true rfl) dX0_init_7 fun H hW => ?_
    have hW : CW G (va_up (ct G σ0) a (.inr (0, [.null]))) a 2 s _ _ := hW
    refine o_put (k := 0) (v := .ref (gz G + (a + 1))) (ty := .array .long) X hW (by decide) inTB_X0 tyX0 tyX0_ok nmX0 rfl (by decide) i_2_0 (fun _ => ⟨hin, rfl⟩) (by decide +kernel) rfl rfl (Nat.le_of_ble_eq_true rfl) dX0_init_9 fun H locs hW => ?_
    have hW : CW G (va_up (ct G σ0) a (.inr (0, [.ref (gz G + (a + 1))]))) a 2 s _ _ := hW
    have ez : ct G σ0 a = .inr (0, [.ref (gz G + (a + 1))]) := by
      rw [ct_0 G σ0 ha]
    exact hr _ _ _ _ dX0_init_12 (hW.to (fun j hj => by rw [← ez, va_up_id]))
