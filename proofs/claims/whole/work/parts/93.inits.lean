/-! the small constructors -/
theorem df_X0 : ∀ j, j < 3 → defaultValue (tyX0 j) = vp_V fr0 j := fun j hj => by
  match j, hj with
  | 0, _ => rfl
  | 1, _ => rfl
  | 2, _ => rfl
  | j + 3, h => exact absurd h (by omega)
theorem df_X1 : ∀ j, j < 2 → defaultValue (tyX1 j) = vp_V fr1 j := fun j hj => by
  match j, hj with
  | 0, _ => rfl
  | 1, _ => rfl
  | j + 2, h => exact absurd h (by omega)
theorem df_X2 : ∀ j, j < 8 → defaultValue (tyX2 j) = vp_V fr2 j := fun j hj => by
  match j, hj with
  | 0, _ => rfl
  | 1, _ => rfl
  | 2, _ => rfl
  | 3, _ => rfl
  | 4, _ => rfl
  | 5, _ => rfl
  | 6, _ => rfl
  | 7, _ => rfl
  | j + 8, h => exact absurd h (by omega)
theorem df_X3 : ∀ j, j < 6 → defaultValue (tyX3 j) = vp_V fr3 j := fun j hj => by
  match j, hj with
  | 0, _ => rfl
  | 1, _ => rfl
  | 2, _ => rfl
  | 3, _ => rfl
  | 4, _ => rfl
  | 5, _ => rfl
  | j + 6, h => exact absurd h (by omega)
theorem df_X4 : ∀ j, j < 3 → defaultValue (tyX4 j) = vp_V fr4 j := fun j hj => by
  match j, hj with
  | 0, _ => rfl
  | 1, _ => rfl
  | 2, _ => rfl
  | j + 3, h => exact absurd h (by omega)
theorem df_X5 : ∀ j, j < 5 → defaultValue (tyX5 j) = vp_V fr5 j := fun j hj => by
  match j, hj with
  | 0, _ => rfl
  | 1, _ => rfl
  | 2, _ => rfl
  | 3, _ => rfl
  | 4, _ => rfl
  | j + 5, h => exact absurd h (by omega)
theorem df_X6 : ∀ j, j < 12 → defaultValue (tyX6 j) = vp_V fr6 j := fun j hj => by
  match j, hj with
  | 0, _ => rfl
  | 1, _ => rfl
  | 2, _ => rfl
  | 3, _ => rfl
  | 4, _ => rfl
  | 5, _ => rfl
  | 6, _ => rfl
  | 7, _ => rfl
  | 8, _ => rfl
  | 9, _ => rfl
  | 10, _ => rfl
  | 11, _ => rfl
  | j + 12, h => exact absurd h (by omega)
theorem df_X7 : ∀ j, j < 11 → defaultValue (tyX7 j) = vp_V fr7 j := fun j hj => by
  match j, hj with
  | 0, _ => rfl
  | 1, _ => rfl
  | 2, _ => rfl
  | 3, _ => rfl
  | 4, _ => rfl
  | 5, _ => rfl
  | 6, _ => rfl
  | 7, _ => rfl
  | 8, _ => rfl
  | 9, _ => rfl
  | 10, _ => rfl
  | j + 11, h => exact absurd h (by omega)
theorem df_X8 : ∀ j, j < 26 → defaultValue (tyX8 j) = vp_V fr8 j := fun j hj => by
  match j, hj with
  | 0, _ => rfl
  | 1, _ => rfl
  | 2, _ => rfl
  | 3, _ => rfl
  | 4, _ => rfl
  | 5, _ => rfl
  | 6, _ => rfl
  | 7, _ => rfl
  | 8, _ => rfl
  | 9, _ => rfl
  | 10, _ => rfl
  | 11, _ => rfl
  | 12, _ => rfl
  | 13, _ => rfl
  | 14, _ => rfl
  | 15, _ => rfl
  | 16, _ => rfl
  | 17, _ => rfl
  | 18, _ => rfl
  | 19, _ => rfl
  | 20, _ => rfl
  | 21, _ => rfl
  | 22, _ => rfl
  | 23, _ => rfl
  | 24, _ => rfl
  | 25, _ => rfl
  | j + 26, h => exact absurd h (by omega)
theorem c_X6 {G : hp_G} {l : Launch} (pre : List va_E) (n : Nat) (hp : pre.length = n) : g_M G l yX6_init cX6_init 1 1 [.ref (G.2.1 + n)] (pre ++ [.inr (6, fr6)]) (pre ++ c_town G n) 6 32 := by
  refine g_body "HeelPost$Town" (by decide) rfl rfl (Nat.le_of_ble_eq_true rfl) ?_
  rw [q_len hp]
  refine g_aload_n dX6_init_0 0 rfl ?_
  refine g_obj wm_67 ins_obj cod_obj (Nat.le_of_ble_eq_true rfl) dX6_init_1 ?_
  refine g_aload_n dX6_init_4 0 rfl ?_
  refine g_bipush rfl dX6_init_5 ?_
  refine q_newi 6 hp rfl rfl (Nat.le_of_ble_eq_true rfl) (Nat.le_of_ble_eq_true rfl) (Nat.le_of_ble_eq_true rfl) dX6_init_7 ?_
  refine q_putF 0 6 tyX6 hp rfl rfl in_X6 tyX6_ok nmX6 6 (by decide) wf_89 rfl rfl rfl rfl rfl (Nat.le_of_ble_eq_true rfl) dX6_init_9 ?_
  refine g_aload_n dX6_init_12 0 rfl ?_
  refine g_bipush rfl dX6_init_13 ?_
  refine q_newi 6 hp rfl rfl (Nat.le_of_ble_eq_true rfl) (Nat.le_of_ble_eq_true rfl) (Nat.le_of_ble_eq_true rfl) dX6_init_15 ?_
  refine q_putF 0 6 tyX6 hp rfl rfl in_X6 tyX6_ok nmX6 7 (by decide) wf_94 rfl rfl rfl rfl rfl (Nat.le_of_ble_eq_true rfl) dX6_init_17 ?_
  refine g_aload_n dX6_init_20 0 rfl ?_
  refine g_bipush rfl dX6_init_21 ?_
  refine q_newi 6 hp rfl rfl (Nat.le_of_ble_eq_true rfl) (Nat.le_of_ble_eq_true rfl) (Nat.le_of_ble_eq_true rfl) dX6_init_23 ?_
  refine q_putF 0 6 tyX6 hp rfl rfl in_X6 tyX6_ok nmX6 8 (by decide) wf_96 rfl rfl rfl rfl rfl (Nat.le_of_ble_eq_true rfl) dX6_init_25 ?_
  refine g_aload_n dX6_init_28 0 rfl ?_
  refine g_bipush rfl dX6_init_29 ?_
  refine q_newi 6 hp rfl rfl (Nat.le_of_ble_eq_true rfl) (Nat.le_of_ble_eq_true rfl) (Nat.le_of_ble_eq_true rfl) dX6_init_31 ?_
  refine q_putF 0 6 tyX6 hp rfl rfl in_X6 tyX6_ok nmX6 9 (by decide) wf_98 rfl rfl rfl rfl rfl (Nat.le_of_ble_eq_true rfl) dX6_init_33 ?_
  refine g_aload_n dX6_init_36 0 rfl ?_
  refine g_iconst dX6_init_37 ?_
  refine q_newi 4 hp rfl rfl (Nat.le_of_ble_eq_true rfl) (Nat.le_of_ble_eq_true rfl) (Nat.le_of_ble_eq_true rfl) dX6_init_38 ?_
  refine q_putF 0 6 tyX6 hp rfl rfl in_X6 tyX6_ok nmX6 10 (by decide) wf_102 rfl rfl rfl rfl rfl (Nat.le_of_ble_eq_true rfl) dX6_init_40 ?_
  refine g_aload_n dX6_init_43 0 rfl ?_
  refine g_iconst dX6_init_44 ?_
  refine q_newi 4 hp rfl rfl (Nat.le_of_ble_eq_true rfl) (Nat.le_of_ble_eq_true rfl) (Nat.le_of_ble_eq_true rfl) dX6_init_45 ?_
  refine q_putF 0 6 tyX6 hp rfl rfl in_X6 tyX6_ok nmX6 11 (by decide) wf_106 rfl rfl rfl rfl rfl (Nat.le_of_ble_eq_true rfl) dX6_init_47 ?_
  exact g_vret rfl rfl rfl dX6_init_50
theorem c_X5 {G : hp_G} {l : Launch} (pre : List va_E) (n : Nat) (hp : pre.length = n) : g_M G l yX5_init cX5_init 1 1 [.ref (G.2.1 + n)] (pre ++ [.inr (5, fr5)]) (pre ++ c_tape G n) 1 120 := by
  refine g_body "HeelPost$Tape" (by decide) rfl rfl (Nat.le_of_ble_eq_true rfl) ?_
  rw [q_len hp]
  refine g_aload_n dX5_init_0 0 rfl ?_
  refine g_obj wm_45 ins_obj cod_obj (Nat.le_of_ble_eq_true rfl) dX5_init_1 ?_
  refine g_aload_n dX5_init_4 0 rfl ?_
  refine g_bipush rfl dX5_init_5 ?_
  refine q_newi 120 hp rfl rfl (Nat.le_of_ble_eq_true rfl) (Nat.le_of_ble_eq_true rfl) (Nat.le_of_ble_eq_true rfl) dX5_init_7 ?_
  refine q_putF 0 5 tyX5 hp rfl rfl in_X5 tyX5_ok nmX5 0 (by decide) wf_46 rfl rfl rfl rfl rfl (Nat.le_of_ble_eq_true rfl) dX5_init_9 ?_
  exact g_vret rfl rfl rfl dX5_init_12
theorem c_X1 {G : hp_G} {l : Launch} (pre : List va_E) (n : Nat) (hp : pre.length = n) : g_M G l yX1_init cX1_init 1 1 [.ref (G.2.1 + n)] (pre ++ [.inr (1, fr1)]) (pre ++ c_asks G n) 1 16 := by
  refine g_body "HeelPost$Asks" (by decide) rfl rfl (Nat.le_of_ble_eq_true rfl) ?_
  rw [q_len hp]
  refine g_aload_n dX1_init_0 0 rfl ?_
  refine g_obj wm_218 ins_obj cod_obj (Nat.le_of_ble_eq_true rfl) dX1_init_1 ?_
  refine g_aload_n dX1_init_4 0 rfl ?_
  refine g_bipush rfl dX1_init_5 ?_
  refine q_newi 16 hp rfl rfl (Nat.le_of_ble_eq_true rfl) (Nat.le_of_ble_eq_true rfl) (Nat.le_of_ble_eq_true rfl) dX1_init_7 ?_
  refine q_putF 0 1 tyX1 hp rfl rfl in_X1 tyX1_ok nmX1 0 (by decide) wf_219 rfl rfl rfl rfl rfl (Nat.le_of_ble_eq_true rfl) dX1_init_9 ?_
  exact g_vret rfl rfl rfl dX1_init_12
theorem c_X2 {G : hp_G} {l : Launch} (pre : List va_E) (n : Nat) (hp : pre.length = n) : g_M G l yX2_init cX2_init 1 1 [.ref (G.2.1 + n)] (pre ++ [.inr (2, fr2)]) (pre ++ c_errands G n) 10 1600 := by
  refine g_body "HeelPost$Errands" (by decide) rfl rfl (Nat.le_of_ble_eq_true rfl) ?_
  rw [q_len hp]
  refine g_aload_n dX2_init_0 0 rfl ?_
  refine g_obj wm_159 ins_obj cod_obj (Nat.le_of_ble_eq_true rfl) dX2_init_1 ?_
  refine g_aload_n dX2_init_4 0 rfl ?_
  refine g_bipush rfl dX2_init_5 ?_
  refine g_sipush rfl dX2_init_7 ?_
  refine q_mna 6 199 hp rfl (Nat.le_of_ble_eq_true rfl) rfl (Nat.le_of_ble_eq_true rfl) rfl (Nat.le_of_ble_eq_true rfl) wk_160 (Nat.le_of_ble_eq_true rfl) (Nat.le_of_ble_eq_true rfl) dX2_init_10 ?_
  refine q_putF 0 2 tyX2 hp rfl rfl in_X2 tyX2_ok nmX2 0 (by decide) wf_161 rfl rfl rfl rfl rfl (Nat.le_of_ble_eq_true rfl) dX2_init_14 ?_
  refine g_aload_n dX2_init_17 0 rfl ?_
  refine g_sipush rfl dX2_init_18 ?_
  refine q_newi 198 hp rfl rfl (Nat.le_of_ble_eq_true rfl) (Nat.le_of_ble_eq_true rfl) (Nat.le_of_ble_eq_true rfl) dX2_init_21 ?_
  refine q_putF 0 2 tyX2 hp rfl rfl in_X2 tyX2_ok nmX2 1 (by decide) wf_162 rfl rfl rfl rfl rfl (Nat.le_of_ble_eq_true rfl) dX2_init_23 ?_
  refine g_aload_n dX2_init_26 0 rfl ?_
  refine g_sipush rfl dX2_init_27 ?_
  refine q_newi 198 hp rfl rfl (Nat.le_of_ble_eq_true rfl) (Nat.le_of_ble_eq_true rfl) (Nat.le_of_ble_eq_true rfl) dX2_init_30 ?_
  refine q_putF 0 2 tyX2 hp rfl rfl in_X2 tyX2_ok nmX2 2 (by decide) wf_163 rfl rfl rfl rfl rfl (Nat.le_of_ble_eq_true rfl) dX2_init_32 ?_
  refine g_aload_n dX2_init_35 0 rfl ?_
  refine g_iconst dX2_init_36 ?_
  refine q_newi 4 hp rfl rfl (Nat.le_of_ble_eq_true rfl) (Nat.le_of_ble_eq_true rfl) (Nat.le_of_ble_eq_true rfl) dX2_init_37 ?_
  refine q_putF 0 2 tyX2 hp rfl rfl in_X2 tyX2_ok nmX2 3 (by decide) wf_164 rfl rfl rfl rfl rfl (Nat.le_of_ble_eq_true rfl) dX2_init_39 ?_
  exact g_vret rfl rfl rfl dX2_init_42
