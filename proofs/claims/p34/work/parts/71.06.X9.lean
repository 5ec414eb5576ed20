set_option maxRecDepth 100000 in
set_option maxHeartbeats 4000000 in
theorem i_X9_init {G : Gt} {l : Launch} (a : Nat) (ha : kd a = 8) : CtI G l yX9_init cX9_init 1 2 a 1 0 0 (.inr (8, [])) := by
    refine met_c (by decide +kernel) rfl (by decide) ?_
    intro p e s m args below meth c Q ls X hin hW hr hl
    have hx := X.1.1
    have hb := X.1.2.1
    refine lv_aload_n hx hb dX9_init_0 rfl (lv_at hl 0 rfl) ?_
    refine o_obj X i_2_10 (by decide) (Nat.le_of_ble_eq_true rfl) hl.1 dX9_init_1 ?_
    have ez : ct G σ0 a = .inr (8, []) := by
      rw [ct_8 G σ0 ha]
    exact hr _ _ _ _ dX9_init_4 (hW.to (fun j hj => by rw [← ez, va_up_id]))
