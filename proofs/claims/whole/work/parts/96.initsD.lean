/-! the reference's constructor; both worlds as the methods take them -/
def c_model (G : hp_G) : List va_E := [.inr (8, [i0, i0, gf G 1, gf G 2, gf G 3, gf G 4, gf G 5, gf G 6, gf G 7, i0, gf G 8, i0, i0, i0, i0, i0, i0, i0, i0, gf G 9, gf G 10, gf G 11, gf G 12, gf G 13, gf G 14, i0]), .inl (G.2.2.1 0, 8, .inl (fun _ => hp_I (-1))), gz G 8, gz G 320, gz G 41, gz G 41, gz G 41, gz G 984, gz G 120, gz G 4, gz G 6, gz G 6, .inl (G.2.2.1 1, 2, .inl (fun _ => hp_I 0)), gz G 82, gz G 16]
theorem c_X8 {G : hp_G} {l : Launch} : g_M G l yX8_init cX8_init 1 1 [.ref (G.2.1 + 0)] ([] ++ [.inr (8, fr8)]) ([] ++ c_model G) 14 1679 := by
  have hp : ([] : List va_E).length = 0 := rfl
  refine g_body "HeelPostModel" (by decide) rfl rfl (Nat.le_of_ble_eq_true rfl) ?_
  rw [q_len hp]
  refine g_aload_n dX8_init_0 0 rfl ?_
  refine g_obj wm_856 ins_obj cod_obj (Nat.le_of_ble_eq_true rfl) dX8_init_1 ?_
  refine g_aload_n dX8_init_4 0 rfl ?_
  refine g_bipush rfl dX8_init_5 ?_
  refine q_newi 8 hp rfl rfl (Nat.le_of_ble_eq_true rfl) (Nat.le_of_ble_eq_true rfl) (Nat.le_of_ble_eq_true rfl) dX8_init_7 ?_
  refine g_dup rfl dX8_init_9 ?_
  refine g_iconst dX8_init_10 ?_
  refine g_iconst dX8_init_11 ?_
  refine q_iast 1 hp rfl (Nat.le_of_ble_eq_true rfl) (by decide) dX8_init_12 ?_
  refine g_dup rfl dX8_init_13 ?_
  refine g_iconst dX8_init_14 ?_
  refine g_iconst dX8_init_15 ?_
  refine q_iast 1 hp rfl (Nat.le_of_ble_eq_true rfl) (by decide) dX8_init_16 ?_
  refine g_dup rfl dX8_init_17 ?_
  refine g_iconst dX8_init_18 ?_
  refine g_iconst dX8_init_19 ?_
  refine q_iast 1 hp rfl (Nat.le_of_ble_eq_true rfl) (by decide) dX8_init_20 ?_
  refine g_dup rfl dX8_init_21 ?_
  refine g_iconst dX8_init_22 ?_
  refine g_iconst dX8_init_23 ?_
  refine q_iast 1 hp rfl (Nat.le_of_ble_eq_true rfl) (by decide) dX8_init_24 ?_
  refine g_dup rfl dX8_init_25 ?_
  refine g_iconst dX8_init_26 ?_
  refine g_iconst dX8_init_27 ?_
  refine q_iast 1 hp rfl (Nat.le_of_ble_eq_true rfl) (by decide) dX8_init_28 ?_
  refine g_dup rfl dX8_init_29 ?_
  refine g_iconst dX8_init_30 ?_
  refine g_iconst dX8_init_31 ?_
  refine q_iast 1 hp rfl (Nat.le_of_ble_eq_true rfl) (by decide) dX8_init_32 ?_
  refine g_dup rfl dX8_init_33 ?_
  refine g_bipush rfl dX8_init_34 ?_
  refine g_iconst dX8_init_36 ?_
  refine q_iast 1 hp rfl (Nat.le_of_ble_eq_true rfl) (by decide) dX8_init_37 ?_
  refine g_dup rfl dX8_init_38 ?_
  refine g_bipush rfl dX8_init_39 ?_
  refine g_iconst dX8_init_41 ?_
  refine q_iast 1 hp rfl (Nat.le_of_ble_eq_true rfl) (by decide) dX8_init_42 ?_
  refine q_conv 1 (.inl (G.2.2.1 0, 8, .inl (fun _ => hp_I (-1)))) hp rfl (ce_arr (fun j hj => by
    match j, hj with
    | 0, _ => rfl
    | 1, _ => rfl
    | 2, _ => rfl
    | 3, _ => rfl
    | 4, _ => rfl
    | 5, _ => rfl
    | 6, _ => rfl
    | 7, _ => rfl
    | j + 8, h => exact absurd h (by omega))) ?_
  refine q_putF 0 8 tyX8 hp rfl rfl in_X8 tyX8_ok nmX8 2 (by decide) wf_859 rfl rfl rfl rfl rfl (Nat.le_of_ble_eq_true rfl) dX8_init_43 ?_
  refine q_cast (ws' := [] ++ [.inr (8, [i0, i0, gf G 1, .null, .null, .null, .null, .null, .null, i0, .null, i0, i0, i0, i0, i0, i0, i0, i0, .null, .null, .null, .null, .null, .null, i0]), .inl (G.2.2.1 0, 8, .inl (fun _ => hp_I (-1)))]) rfl ?_
  refine g_aload_n dX8_init_46 0 rfl ?_
  refine g_bipush rfl dX8_init_47 ?_
  refine q_newi 8 hp rfl rfl (Nat.le_of_ble_eq_true rfl) (Nat.le_of_ble_eq_true rfl) (Nat.le_of_ble_eq_true rfl) dX8_init_49 ?_
  refine q_putF 0 8 tyX8 hp rfl rfl in_X8 tyX8_ok nmX8 3 (by decide) wf_860 rfl rfl rfl rfl rfl (Nat.le_of_ble_eq_true rfl) dX8_init_51 ?_
  refine q_cast (ws' := [] ++ [.inr (8, [i0, i0, gf G 1, gf G 2, .null, .null, .null, .null, .null, i0, .null, i0, i0, i0, i0, i0, i0, i0, i0, .null, .null, .null, .null, .null, .null, i0]), .inl (G.2.2.1 0, 8, .inl (fun _ => hp_I (-1))), gz G 8]) rfl ?_
  refine g_aload_n dX8_init_54 0 rfl ?_
  refine g_sipush rfl dX8_init_55 ?_
  refine q_newi 320 hp rfl rfl (Nat.le_of_ble_eq_true rfl) (Nat.le_of_ble_eq_true rfl) (Nat.le_of_ble_eq_true rfl) dX8_init_58 ?_
  refine q_putF 0 8 tyX8 hp rfl rfl in_X8 tyX8_ok nmX8 4 (by decide) wf_861 rfl rfl rfl rfl rfl (Nat.le_of_ble_eq_true rfl) dX8_init_60 ?_
  refine q_cast (ws' := [] ++ [.inr (8, [i0, i0, gf G 1, gf G 2, gf G 3, .null, .null, .null, .null, i0, .null, i0, i0, i0, i0, i0, i0, i0, i0, .null, .null, .null, .null, .null, .null, i0]), .inl (G.2.2.1 0, 8, .inl (fun _ => hp_I (-1))), gz G 8, gz G 320]) rfl ?_
  refine g_aload_n dX8_init_63 0 rfl ?_
  refine g_bipush rfl dX8_init_64 ?_
  refine q_newi 41 hp rfl rfl (Nat.le_of_ble_eq_true rfl) (Nat.le_of_ble_eq_true rfl) (Nat.le_of_ble_eq_true rfl) dX8_init_66 ?_
  refine q_putF 0 8 tyX8 hp rfl rfl in_X8 tyX8_ok nmX8 5 (by decide) wf_862 rfl rfl rfl rfl rfl (Nat.le_of_ble_eq_true rfl) dX8_init_68 ?_
  refine q_cast (ws' := [] ++ [.inr (8, [i0, i0, gf G 1, gf G 2, gf G 3, gf G 4, .null, .null, .null, i0, .null, i0, i0, i0, i0, i0, i0, i0, i0, .null, .null, .null, .null, .null, .null, i0]), .inl (G.2.2.1 0, 8, .inl (fun _ => hp_I (-1))), gz G 8, gz G 320, gz G 41]) rfl ?_
  refine g_aload_n dX8_init_71 0 rfl ?_
  refine g_bipush rfl dX8_init_72 ?_
  refine q_newi 41 hp rfl rfl (Nat.le_of_ble_eq_true rfl) (Nat.le_of_ble_eq_true rfl) (Nat.le_of_ble_eq_true rfl) dX8_init_74 ?_
  refine q_putF 0 8 tyX8 hp rfl rfl in_X8 tyX8_ok nmX8 6 (by decide) wf_863 rfl rfl rfl rfl rfl (Nat.le_of_ble_eq_true rfl) dX8_init_76 ?_
  refine q_cast (ws' := [] ++ [.inr (8, [i0, i0, gf G 1, gf G 2, gf G 3, gf G 4, gf G 5, .null, .null, i0, .null, i0, i0, i0, i0, i0, i0, i0, i0, .null, .null, .null, .null, .null, .null, i0]), .inl (G.2.2.1 0, 8, .inl (fun _ => hp_I (-1))), gz G 8, gz G 320, gz G 41, gz G 41]) rfl ?_
  refine g_aload_n dX8_init_79 0 rfl ?_
  refine g_bipush rfl dX8_init_80 ?_
  refine q_newi 41 hp rfl rfl (Nat.le_of_ble_eq_true rfl) (Nat.le_of_ble_eq_true rfl) (Nat.le_of_ble_eq_true rfl) dX8_init_82 ?_
  refine q_putF 0 8 tyX8 hp rfl rfl in_X8 tyX8_ok nmX8 7 (by decide) wf_864 rfl rfl rfl rfl rfl (Nat.le_of_ble_eq_true rfl) dX8_init_84 ?_
  refine q_cast (ws' := [] ++ [.inr (8, [i0, i0, gf G 1, gf G 2, gf G 3, gf G 4, gf G 5, gf G 6, .null, i0, .null, i0, i0, i0, i0, i0, i0, i0, i0, .null, .null, .null, .null, .null, .null, i0]), .inl (G.2.2.1 0, 8, .inl (fun _ => hp_I (-1))), gz G 8, gz G 320, gz G 41, gz G 41, gz G 41]) rfl ?_
  refine g_aload_n dX8_init_87 0 rfl ?_
  refine g_sipush rfl dX8_init_88 ?_
  refine q_newi 984 hp rfl rfl (Nat.le_of_ble_eq_true rfl) (Nat.le_of_ble_eq_true rfl) (Nat.le_of_ble_eq_true rfl) dX8_init_91 ?_
  refine q_putF 0 8 tyX8 hp rfl rfl in_X8 tyX8_ok nmX8 8 (by decide) wf_865 rfl rfl rfl rfl rfl (Nat.le_of_ble_eq_true rfl) dX8_init_93 ?_
  refine q_cast (ws' := [] ++ [.inr (8, [i0, i0, gf G 1, gf G 2, gf G 3, gf G 4, gf G 5, gf G 6, gf G 7, i0, .null, i0, i0, i0, i0, i0, i0, i0, i0, .null, .null, .null, .null, .null, .null, i0]), .inl (G.2.2.1 0, 8, .inl (fun _ => hp_I (-1))), gz G 8, gz G 320, gz G 41, gz G 41, gz G 41, gz G 984]) rfl ?_
  refine g_aload_n dX8_init_96 0 rfl ?_
  refine g_bipush rfl dX8_init_97 ?_
  refine q_newi 120 hp rfl rfl (Nat.le_of_ble_eq_true rfl) (Nat.le_of_ble_eq_true rfl) (Nat.le_of_ble_eq_true rfl) dX8_init_99 ?_
  refine q_putF 0 8 tyX8 hp rfl rfl in_X8 tyX8_ok nmX8 10 (by decide) wf_867 rfl rfl rfl rfl rfl (Nat.le_of_ble_eq_true rfl) dX8_init_101 ?_
  refine q_cast (ws' := [] ++ [.inr (8, [i0, i0, gf G 1, gf G 2, gf G 3, gf G 4, gf G 5, gf G 6, gf G 7, i0, gf G 8, i0, i0, i0, i0, i0, i0, i0, i0, .null, .null, .null, .null, .null, .null, i0]), .inl (G.2.2.1 0, 8, .inl (fun _ => hp_I (-1))), gz G 8, gz G 320, gz G 41, gz G 41, gz G 41, gz G 984, gz G 120]) rfl ?_
  refine g_aload_n dX8_init_104 0 rfl ?_
  refine g_iconst dX8_init_105 ?_
  refine q_newi 4 hp rfl rfl (Nat.le_of_ble_eq_true rfl) (Nat.le_of_ble_eq_true rfl) (Nat.le_of_ble_eq_true rfl) dX8_init_106 ?_
  refine q_putF 0 8 tyX8 hp rfl rfl in_X8 tyX8_ok nmX8 19 (by decide) wf_876 rfl rfl rfl rfl rfl (Nat.le_of_ble_eq_true rfl) dX8_init_108 ?_
  refine q_cast (ws' := [] ++ [.inr (8, [i0, i0, gf G 1, gf G 2, gf G 3, gf G 4, gf G 5, gf G 6, gf G 7, i0, gf G 8, i0, i0, i0, i0, i0, i0, i0, i0, gf G 9, .null, .null, .null, .null, .null, i0]), .inl (G.2.2.1 0, 8, .inl (fun _ => hp_I (-1))), gz G 8, gz G 320, gz G 41, gz G 41, gz G 41, gz G 984, gz G 120, gz G 4]) rfl ?_
  refine g_aload_n dX8_init_111 0 rfl ?_
  refine g_bipush rfl dX8_init_112 ?_
  refine q_newi 6 hp rfl rfl (Nat.le_of_ble_eq_true rfl) (Nat.le_of_ble_eq_true rfl) (Nat.le_of_ble_eq_true rfl) dX8_init_114 ?_
  refine q_putF 0 8 tyX8 hp rfl rfl in_X8 tyX8_ok nmX8 20 (by decide) wf_877 rfl rfl rfl rfl rfl (Nat.le_of_ble_eq_true rfl) dX8_init_116 ?_
  refine q_cast (ws' := [] ++ [.inr (8, [i0, i0, gf G 1, gf G 2, gf G 3, gf G 4, gf G 5, gf G 6, gf G 7, i0, gf G 8, i0, i0, i0, i0, i0, i0, i0, i0, gf G 9, gf G 10, .null, .null, .null, .null, i0]), .inl (G.2.2.1 0, 8, .inl (fun _ => hp_I (-1))), gz G 8, gz G 320, gz G 41, gz G 41, gz G 41, gz G 984, gz G 120, gz G 4, gz G 6]) rfl ?_
  refine g_aload_n dX8_init_119 0 rfl ?_
  refine g_bipush rfl dX8_init_120 ?_
  refine q_newi 6 hp rfl rfl (Nat.le_of_ble_eq_true rfl) (Nat.le_of_ble_eq_true rfl) (Nat.le_of_ble_eq_true rfl) dX8_init_122 ?_
  refine q_putF 0 8 tyX8 hp rfl rfl in_X8 tyX8_ok nmX8 21 (by decide) wf_878 rfl rfl rfl rfl rfl (Nat.le_of_ble_eq_true rfl) dX8_init_124 ?_
  refine q_cast (ws' := [] ++ [.inr (8, [i0, i0, gf G 1, gf G 2, gf G 3, gf G 4, gf G 5, gf G 6, gf G 7, i0, gf G 8, i0, i0, i0, i0, i0, i0, i0, i0, gf G 9, gf G 10, gf G 11, .null, .null, .null, i0]), .inl (G.2.2.1 0, 8, .inl (fun _ => hp_I (-1))), gz G 8, gz G 320, gz G 41, gz G 41, gz G 41, gz G 984, gz G 120, gz G 4, gz G 6, gz G 6]) rfl ?_
  refine g_aload_n dX8_init_127 0 rfl ?_
  refine g_iconst dX8_init_128 ?_
  refine q_newz 2 hp rfl rfl (Nat.le_of_ble_eq_true rfl) (Nat.le_of_ble_eq_true rfl) (Nat.le_of_ble_eq_true rfl) dX8_init_129 ?_
  refine q_putF 0 8 tyX8 hp rfl rfl in_X8 tyX8_ok nmX8 22 (by decide) wf_879 rfl rfl rfl rfl rfl (Nat.le_of_ble_eq_true rfl) dX8_init_131 ?_
  refine q_cast (ws' := [] ++ [.inr (8, [i0, i0, gf G 1, gf G 2, gf G 3, gf G 4, gf G 5, gf G 6, gf G 7, i0, gf G 8, i0, i0, i0, i0, i0, i0, i0, i0, gf G 9, gf G 10, gf G 11, gf G 12, .null, .null, i0]), .inl (G.2.2.1 0, 8, .inl (fun _ => hp_I (-1))), gz G 8, gz G 320, gz G 41, gz G 41, gz G 41, gz G 984, gz G 120, gz G 4, gz G 6, gz G 6, .inl (G.2.2.1 1, 2, .inl (fun _ => hp_I 0))]) rfl ?_
  refine g_aload_n dX8_init_134 0 rfl ?_
  refine g_bipush rfl dX8_init_135 ?_
  refine q_newi 82 hp rfl rfl (Nat.le_of_ble_eq_true rfl) (Nat.le_of_ble_eq_true rfl) (Nat.le_of_ble_eq_true rfl) dX8_init_137 ?_
  refine q_putF 0 8 tyX8 hp rfl rfl in_X8 tyX8_ok nmX8 23 (by decide) wf_880 rfl rfl rfl rfl rfl (Nat.le_of_ble_eq_true rfl) dX8_init_139 ?_
  refine q_cast (ws' := [] ++ [.inr (8, [i0, i0, gf G 1, gf G 2, gf G 3, gf G 4, gf G 5, gf G 6, gf G 7, i0, gf G 8, i0, i0, i0, i0, i0, i0, i0, i0, gf G 9, gf G 10, gf G 11, gf G 12, gf G 13, .null, i0]), .inl (G.2.2.1 0, 8, .inl (fun _ => hp_I (-1))), gz G 8, gz G 320, gz G 41, gz G 41, gz G 41, gz G 984, gz G 120, gz G 4, gz G 6, gz G 6, .inl (G.2.2.1 1, 2, .inl (fun _ => hp_I 0)), gz G 82]) rfl ?_
  refine g_aload_n dX8_init_142 0 rfl ?_
  refine g_bipush rfl dX8_init_143 ?_
  refine q_newi 16 hp rfl rfl (Nat.le_of_ble_eq_true rfl) (Nat.le_of_ble_eq_true rfl) (Nat.le_of_ble_eq_true rfl) dX8_init_145 ?_
  refine q_putF 0 8 tyX8 hp rfl rfl in_X8 tyX8_ok nmX8 24 (by decide) wf_881 rfl rfl rfl rfl rfl (Nat.le_of_ble_eq_true rfl) dX8_init_147 ?_
  refine q_cast (ws' := [] ++ [.inr (8, [i0, i0, gf G 1, gf G 2, gf G 3, gf G 4, gf G 5, gf G 6, gf G 7, i0, gf G 8, i0, i0, i0, i0, i0, i0, i0, i0, gf G 9, gf G 10, gf G 11, gf G 12, gf G 13, gf G 14, i0]), .inl (G.2.2.1 0, 8, .inl (fun _ => hp_I (-1))), gz G 8, gz G 320, gz G 41, gz G 41, gz G 41, gz G 984, gz G 120, gz G 4, gz G 6, gz G 6, .inl (G.2.2.1 1, 2, .inl (fun _ => hp_I 0)), gz G 82, gz G 16]) rfl ?_
  exact g_vret rfl rfl rfl dX8_init_150
def hp_cl (G : hp_G) (H : hp_H) : Nat → List hp_S → List va_E
  | _, [] => []
  | o, sh :: r => hp_ce G sh (H (o : Int)) :: hp_cl G H (o + 1) r
theorem hp_cl_map (G : hp_G) (H : hp_H) : ∀ (sh : List hp_S) (o : Nat), (sh.zipIdx o).map (fun q => (G.2.1 + q.2, hp_ce G q.1 (H (q.2 : Int)))) = ((hp_cl G H o sh).zipIdx o).map (fun q => (G.2.1 + q.2, q.1))
  | [], o => rfl
  | x :: r, o => by
    show _ :: ((r.zipIdx (o + 1)).map _) = _ :: (((hp_cl G H (o + 1) r).zipIdx (o + 1)).map _)
    rw [hp_cl_map G H r (o + 1)]
theorem hp_ws_cl (G : hp_G) (H : hp_H) : hp_ws G H = gw G.2.1 (hp_cl G H 0 (hp_sh G)) := hp_cl_map G H (hp_sh G) 0
/-- what lies in the class's cells at the start, and in the reference's -/
def H0c : hp_H := fun a _ => if a = 11 then -1 else 0
def H0m : hp_H := fun a _ => if a = 1 then -1 else 0
theorem c_model_cl (G : hp_G) : c_model G = hp_cl G H0m 0 hp_shm := rfl
theorem hp_cl_app (G : hp_G) (H : hp_H) : ∀ (a : List hp_S) (o : Nat) (b : List hp_S), hp_cl G H o (a ++ b) = hp_cl G H o a ++ hp_cl G H (o + a.length) b
  | [], o, b => by simp [hp_cl]
  | x :: r, o, b => by
    show _ :: hp_cl G H (o + 1) (r ++ b) = _ :: (hp_cl G H (o + 1) r ++ _)
    rw [hp_cl_app G H r (o + 1) b, List.length_cons, show o + 1 + r.length = o + (r.length + 1) by omega]
def twS (n : Nat) : List hp_S := [(0, 6, [none, none, none, none, none, none, some ((n + 1 : Nat) : Int), some ((n + 2 : Nat) : Int), some ((n + 3 : Nat) : Int), some ((n + 4 : Nat) : Int), some ((n + 5 : Nat) : Int), some ((n + 6 : Nat) : Int)]), (1, 6, []), (1, 6, []), (1, 6, []), (1, 6, []), (1, 4, []), (1, 4, [])]
theorem H0c_at {o : Nat} (h : 12 ≤ o) : H0c (o : Int) = fun _ => 0 := by
  funext j
  unfold H0c
  rw [if_neg (by omega)]
theorem gf_ad (G : hp_G) (a : Nat) : Value.ref (hp_ad G ((a : Nat) : Int)) = gf G a := by
  unfold gf
  rw [hp_ad_pos (by omega), Int.toNat_natCast]
theorem tw_cl (G : hp_G) {n : Nat} (h : 12 ≤ n) : hp_cl G H0c n (twS n) = c_town G n := by
  unfold twS
  simp only [hp_cl]
  rw [H0c_at h, H0c_at (show 12 ≤ n + 1 by omega), H0c_at (show 12 ≤ n + 1 + 1 by omega), H0c_at (show 12 ≤ n + 1 + 1 + 1 by omega), H0c_at (show 12 ≤ n + 1 + 1 + 1 + 1 by omega), H0c_at (show 12 ≤ n + 1 + 1 + 1 + 1 + 1 by omega), H0c_at (show 12 ≤ n + 1 + 1 + 1 + 1 + 1 + 1 by omega)]
  unfold c_town
  rw [← gf_ad, ← gf_ad, ← gf_ad, ← gf_ad, ← gf_ad, ← gf_ad]
  rfl
def twsS (n : Nat) : Nat → List hp_S
  | 0 => []
  | k + 1 => twsS n k ++ twS (n + 7 * k)
theorem twsS_len (n : Nat) : ∀ k, (twsS n k).length = 7 * k
  | 0 => rfl
  | k + 1 => by
    show (twsS n k ++ twS (n + 7 * k)).length = _
    rw [List.length_append, twsS_len n k]
    show 7 * k + 7 = _
    omega
theorem tws_cl (G : hp_G) {n : Nat} (h : 12 ≤ n) : ∀ k, hp_cl G H0c n (twsS n k) = c_towns G n k
  | 0 => rfl
  | k + 1 => by
    show hp_cl G H0c n (twsS n k ++ twS (n + 7 * k)) = c_towns G n k ++ c_town G (n + 7 * k)
    rw [hp_cl_app, tws_cl G h k, twsS_len, tw_cl G (by omega)]
def s_1 : List hp_S := [(0, 7, [some 1, some 13, some 15, some 22, some 29, some 199, some 210, some 227, some 229, none, none]), (0, 4, [some 2, some 11, some 12]), (4, 8, [some 3, some 1]), (1, 40, []), (1, 40, []), (1, 40, []), (1, 40, []), (1, 40, []), (1, 40, []), (1, 40, []), (1, 40, []), (1, 8, []), (1, 8, []), (0, 5, [some 14, none, none, none, none]), (1, 120, [])]
def s_2 : List hp_S := [(0, 0, [some 30, none, none]), (3, 24, [some 31, some 7])]
def s_3 : List hp_S := [(0, 2, [some 200, some 207, some 208, some 209, none, none, none, none]), (4, 6, [some 201, some 1]), (1, 199, []), (1, 199, []), (1, 199, []), (1, 199, []), (1, 199, []), (1, 199, []), (1, 198, []), (1, 198, []), (1, 4, []), (0, 3, [some 199, some 211, some 218, some 225, some 226, none])]
def s_4 : List hp_S := [(1, 6, []), (1, 12, []), (0, 1, [some 228, none]), (1, 16, []), (3, 2, [some 230, some 7])]
theorem shc_eq : hp_shc = s_1 ++ (twS 15 ++ (twS 22 ++ (s_2 ++ (twsS 31 24 ++ (s_3 ++ (twS 211 ++ (twS 218 ++ (s_4 ++ twsS 230 2)))))))) := by decide +kernel
theorem post_cl (G : hp_G) : c_post G = hp_cl G H0c 0 hp_shc := by
  rw [shc_eq, hp_cl_app, hp_cl_app, hp_cl_app, hp_cl_app, hp_cl_app, hp_cl_app, hp_cl_app, hp_cl_app, hp_cl_app, twsS_len]
  rw [show 0 + s_1.length = 15 from rfl, show 15 + (twS 15).length = 22 from rfl, show 22 + (twS 22).length = 29 from rfl, show 29 + s_2.length = 31 from rfl, show 31 + 7 * 24 = 199 from rfl, show 199 + s_3.length = 211 from rfl, show 211 + (twS 211).length = 218 from rfl, show 218 + (twS 218).length = 225 from rfl, show 225 + s_4.length = 230 from rfl]
  rw [tw_cl G (by decide), tw_cl G (by decide), tws_cl G (by decide), tw_cl G (by decide), tw_cl G (by decide), tws_cl G (by decide)]
  have e1 : hp_cl G H0c 0 s_1 = p_o G 9 :: (c_rows G 1 ++ c_tape G 13) := rfl
  have e2 : hp_cl G H0c 29 s_2 = [.inr (0, [gf G 30, i0, i0]), ga G 2 24 31 7] := rfl
  have e3 : hp_cl G H0c 199 s_3 = c_errands G 199 ++ [.inr (3, [gf G 199, gf G 211, gf G 218, gf G 225, gf G 226, i0])] := rfl
  have e4 : hp_cl G H0c 225 s_4 = [gz G 6, gz G 12] ++ (c_asks G 227 ++ [ga G 2 2 230 7]) := rfl
  rw [e1, e2, e3, e4]
  unfold c_post p_8 p_7 p_6 p_5 p_4 p_3 p_2 p_1 c_acts c_fore
  simp only [List.cons_append, List.append_assoc, List.nil_append]
theorem hp_D {G : hp_G} {H : hp_H} : va_D (hp_A G) (hp_ws G H) := by
  rw [hp_ws_cl]
  refine ⟨(gw_D _ _).1, fun k q hq => ?_⟩
  have h1 := (gw_at hq).1
  have h2 := (List.getElem?_eq_some_iff.mp hq).1
  have h3 : (gw G.2.1 (hp_cl G H 0 (hp_sh G))).length = (hp_sh G).length := by rw [← hp_ws_cl, hp_ws_len]
  rw [h3] at h2
  exact ⟨by omega, by omega⟩
theorem hp_W_of {G : hp_G} {H : hp_H} {ws : List va_E} {s : State} {Hc : Heap} (hw : ws = hp_cl G H 0 (hp_sh G)) (h : gW G ws s Hc) (hT : hp_St G s Hc) : hp_W G H s Hc := by
  subst hw
  refine ⟨?_, h.2.1, hp_D, hT⟩
  rw [hp_ws_cl]
  exact h.1
