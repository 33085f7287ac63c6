/-! constructors with loops -/
def r_l (G : hp_G) (n k : Nat) : List va_E := [.inr (4, [gf G (n + 1), gf G (n + 10), gf G (n + 11)]), ga G 3 8 (n + 2) 1, gz G 40, gz G 40, gz G 40, gz G 40, gz G 40, gz G 40, gz G 40, gz G 40, .inl (G.2.2.1 0, 8, .inl (fun j => if j < k then hp_I (-1) else hp_I 0)), gz G 8]
theorem hp_rk {k : Nat} (h : k ≤ 65536) : hp_r (k : Int) := by unfold hp_r; omega
theorem r_up (k : Nat) : upd (fun j => if j < k then hp_I (-1) else hp_I 0) ((k : Int).toNat) (hp_I (-1)) = fun j => if j < k + 1 then hp_I (-1) else hp_I 0 := by
  funext j
  unfold upd
  rw [Int.toNat_natCast]
  by_cases h : j = k
  · rw [if_pos h, if_pos (by omega)]
  · rw [if_neg h]
    dsimp only
    by_cases h2 : j < k
    · rw [if_pos h2, if_pos (by omega)]
    · rw [if_neg h2, if_neg (by omega)]
theorem k_w {k : Nat} (h : k ≤ 65536) : hp_w ((k : Int) + 1) = ((k + 1 : Nat) : Int) := by
  rw [pu_w (by omega)]
  omega
theorem X4_lp {G : hp_G} {l : Launch} {pre : List va_E} {n : Nat} (hp : pre.length = n) : ∀ (q k : Nat), k ≤ 8 → 8 - k < q → g_R G l cX4_init 2 "HeelPost$Rows" 1 11 344 (n + 1) (pre ++ c_rows G n) 34 [(1, .int (hp_I (k : Int))), (0, .ref (G.2.1 + n))] [] (pre ++ r_l G n k) 11 344 := by
  intro q
  induction q with
  | zero => intro k _ h; omega
  | succ q ih =>
    intro k hk hq
    refine g_iload_n dX4_init_34 0 rfl ?_
    refine g_bipush rfl dX4_init_35 ?_
    refine g_icge (tgt := 53) dX4_init_37 (by decide) (hp_rk (by omega)) (hp_rc rfl) (fun c => ?_) (fun c => ?_)
    · have e8 : k = 8 := by omega
      subst e8
      refine q_conv 10 (.inl (G.2.2.1 0, 8, .inl (fun _ => hp_I (-1)))) hp rfl (ce_arr (fun j hj => if_pos hj)) ?_
      exact g_vret rfl rfl rfl dX4_init_53
    · refine g_aload_n dX4_init_40 1 rfl ?_
      refine q_get 0 4 hp rfl rfl in_X4 1 (by decide) wf_30 rfl dX4_init_41 ?_
      refine g_iload_n dX4_init_44 0 rfl ?_
      refine g_iconst dX4_init_45 ?_
      refine q_iast 10 hp rfl (Nat.le_of_ble_eq_true rfl) ⟨by omega, by omega⟩ dX4_init_46 ?_
      refine g_iinc (i := 1) dX4_init_47 0 rfl (by decide) (L' := [(1, .int (hp_I (hp_w ((k : Int) + 1)))), (0, .ref (G.2.1 + n))]) rfl ?_
      refine g_goto (tgt := 34) dX4_init_50 (by decide) ?_
      rw [k_w (by omega), r_up]
      exact ih (k + 1) (by omega) (by omega)
theorem c_X4 {G : hp_G} {l : Launch} (pre : List va_E) (n : Nat) (hp : pre.length = n) : g_M G l yX4_init cX4_init 2 1 [.ref (G.2.1 + n)] (pre ++ [.inr (4, fr4)]) (pre ++ c_rows G n) 11 344 := by
  refine g_body "HeelPost$Rows" (by decide) rfl rfl (Nat.le_of_ble_eq_true rfl) ?_
  rw [q_len hp]
  refine g_aload_n dX4_init_0 0 rfl ?_
  refine g_obj wm_26 ins_obj cod_obj (Nat.le_of_ble_eq_true rfl) dX4_init_1 ?_
  refine g_aload_n dX4_init_4 0 rfl ?_
  refine g_bipush rfl dX4_init_5 ?_
  refine g_bipush rfl dX4_init_7 ?_
  refine q_mna 8 40 hp rfl (Nat.le_of_ble_eq_true rfl) rfl (Nat.le_of_ble_eq_true rfl) rfl (Nat.le_of_ble_eq_true rfl) wk_27 (Nat.le_of_ble_eq_true rfl) (Nat.le_of_ble_eq_true rfl) dX4_init_9 ?_
  refine q_putF 0 4 tyX4 hp rfl rfl in_X4 tyX4_ok nmX4 0 (by decide) wf_29 rfl rfl rfl rfl rfl (Nat.le_of_ble_eq_true rfl) dX4_init_13 ?_
  refine g_aload_n dX4_init_16 0 rfl ?_
  refine g_bipush rfl dX4_init_17 ?_
  refine q_newi 8 hp rfl rfl (Nat.le_of_ble_eq_true rfl) (Nat.le_of_ble_eq_true rfl) (Nat.le_of_ble_eq_true rfl) dX4_init_19 ?_
  refine q_putF 0 4 tyX4 hp rfl rfl in_X4 tyX4_ok nmX4 1 (by decide) wf_30 rfl rfl rfl rfl rfl (Nat.le_of_ble_eq_true rfl) dX4_init_21 ?_
  refine g_aload_n dX4_init_24 0 rfl ?_
  refine g_bipush rfl dX4_init_25 ?_
  refine q_newi 8 hp rfl rfl (Nat.le_of_ble_eq_true rfl) (Nat.le_of_ble_eq_true rfl) (Nat.le_of_ble_eq_true rfl) dX4_init_27 ?_
  refine q_putF 0 4 tyX4 hp rfl rfl in_X4 tyX4_ok nmX4 2 (by decide) wf_31 rfl rfl rfl rfl rfl (Nat.le_of_ble_eq_true rfl) dX4_init_29 ?_
  refine g_iconst dX4_init_32 ?_
  refine g_istore_n (i := 1) dX4_init_33 rfl (by decide) (L' := [(1, .int (hp_I 0)), (0, .ref (G.2.1 + n))]) rfl ?_
  refine q_conv 10 (.inl (G.2.2.1 0, 8, .inl (fun j => if j < 0 then hp_I (-1) else hp_I 0))) hp rfl (ce_arr (fun j hj => (if_neg (Nat.not_lt_zero j)).symm)) ?_
  exact X4_lp hp 9 0 (Nat.zero_le 8) (by decide)
def a_l (G : hp_G) (n k : Nat) : List va_E := .inr (0, [gf G (n + 1), i0, i0]) :: .inl (G.2.2.1 2, 24, .inr (.inr (.inr (.inr (fun j => if j < k then some (G.2.1 + (n + 2 + 7 * j)) else none))))) :: c_towns G (n + 2) k
theorem a_len (G : hp_G) (n k : Nat) : (a_l G n k).length = 2 + 7 * k := by
  show (c_towns G (n + 2) k).length + 1 + 1 = _
  rw [c_towns_len]
  omega
theorem a_up (G : hp_G) (n k : Nat) : va_up (fun j => if j < k then some (G.2.1 + (n + 2 + 7 * j)) else none) ((k : Int).toNat) (some (G.2.1 + (n + (2 + 7 * k)))) = fun j => if j < k + 1 then some (G.2.1 + (n + 2 + 7 * j)) else none := by
  funext j
  unfold va_up
  rw [Int.toNat_natCast]
  by_cases h : j = k
  · rw [if_pos h, if_pos (by omega), h, Nat.add_assoc n 2]
  · rw [if_neg h]
    dsimp only
    by_cases h2 : j < k
    · rw [if_pos h2, if_pos (by omega)]
    · rw [if_neg h2, if_neg (by omega)]
theorem X0_lp {G : hp_G} {l : Launch} {pre : List va_E} {n : Nat} (hp : pre.length = n) : ∀ (q k : Nat), k ≤ 24 → 24 - k < q → g_R G l cX0_init 2 "HeelPost$Acts" 2 169 1080 (n + 1) (pre ++ c_acts G n) 15 [(1, .int (hp_I (k : Int))), (0, .ref (G.2.1 + n))] [] (pre ++ a_l G n k) (1 + 7 * k) (24 + 44 * k) := by
  intro q
  induction q with
  | zero => intro k _ h; omega
  | succ q ih =>
    intro k hk hq
    refine g_iload_n dX0_init_15 0 rfl ?_
    refine g_bipush rfl dX0_init_16 ?_
    refine g_icge (tgt := 40) dX0_init_18 (by decide) (hp_rk (by omega)) (hp_rc rfl) (fun c => ?_) (fun c => ?_)
    · have e8 : k = 24 := by omega
      subst e8
      refine q_conv 1 (ga G 2 24 (n + 2) 7) hp rfl (ce_ref (fun j hj => by rw [if_pos hj, hp_rfs_at])) ?_
      exact g_vret rfl rfl rfl dX0_init_40
    · refine g_aload_n dX0_init_21 1 rfl ?_
      refine q_get 0 0 hp rfl rfl in_X0 0 (by decide) wf_144 rfl dX0_init_22 ?_
      refine g_iload_n dX0_init_25 0 rfl ?_
      refine q_new 6 tyX6 fr6 hp (by rw [a_len]; omega) rfl in_X6 tyX6_ok wk_141 inst_X6 cal_X6_init.2.1 df_X6 (by omega) (by omega) dX0_init_26 ?_
      refine g_dup rfl dX0_init_29 ?_
      refine q_callN (c_X6 _ _ (q_len hp _)) hp (by rw [a_len]; omega) cal_X6_init rfl ins_X6_init (by decide) ⟨Nat.le_of_ble_eq_true rfl, Nat.le_of_ble_eq_true rfl⟩ rfl rfl (Nat.le_of_ble_eq_true rfl) (by omega) (by omega) dX0_init_30 ?_
      rw [a_len]
      refine q_astq (m := 24) 1 (2 + 7 * k) hp rfl (by rw [List.getElem?_append_right (by rw [a_len]; exact Nat.le_refl _), a_len, Nat.sub_self]; rfl) (Nat.le_of_ble_eq_true rfl) ⟨by omega, by omega⟩ dX0_init_33 ?_
      refine g_iinc (i := 1) dX0_init_34 0 rfl (by decide) (L' := [(1, .int (hp_I (hp_w ((k : Int) + 1)))), (0, .ref (G.2.1 + n))]) rfl ?_
      refine g_goto (tgt := 15) dX0_init_37 (by decide) ?_
      rw [k_w (by omega), a_up, show 1 + 7 * k + 1 + 6 = 1 + 7 * (k + 1) by omega, show 24 + 44 * k + 12 + 32 = 24 + 44 * (k + 1) by omega]
      refine q_cast (ws' := pre ++ a_l G n (k + 1)) ?_ (ih (k + 1) (by omega) (by omega))
      unfold a_l
      rw [List.cons_append, List.cons_append, Nat.add_assoc n 2 (7 * k) |>.symm]
      rfl
theorem c_X0 {G : hp_G} {l : Launch} (pre : List va_E) (n : Nat) (hp : pre.length = n) : g_M G l yX0_init cX0_init 2 2 [.ref (G.2.1 + n)] (pre ++ [.inr (0, fr0)]) (pre ++ c_acts G n) 169 1080 := by
  refine g_body "HeelPost$Acts" (by decide) rfl rfl (Nat.le_of_ble_eq_true rfl) ?_
  rw [q_len hp]
  refine g_aload_n dX0_init_0 0 rfl ?_
  refine g_obj wm_140 ins_obj cod_obj (Nat.le_of_ble_eq_true rfl) dX0_init_1 ?_
  refine g_aload_n dX0_init_4 0 rfl ?_
  refine g_bipush rfl dX0_init_5 ?_
  refine q_newq 24 hp rfl rfl (Nat.le_of_ble_eq_true rfl) wk_141 (Nat.le_of_ble_eq_true rfl) (Nat.le_of_ble_eq_true rfl) dX0_init_7 ?_
  refine q_putF 0 0 tyX0 hp rfl rfl in_X0 tyX0_ok nmX0 0 (by decide) wf_144 rfl rfl rfl rfl rfl (Nat.le_of_ble_eq_true rfl) dX0_init_10 ?_
  refine g_iconst dX0_init_13 ?_
  refine g_istore_n (i := 1) dX0_init_14 rfl (by decide) (L' := [(1, .int (hp_I 0)), (0, .ref (G.2.1 + n))]) rfl ?_
  refine q_conv 1 (.inl (G.2.2.1 2, 24, .inr (.inr (.inr (.inr (fun j => if j < 0 then some (G.2.1 + (n + 2 + 7 * j)) else none)))))) hp rfl (ce_ref (fun j hj => (if_neg (Nat.not_lt_zero j)).symm)) ?_
  exact X0_lp hp 25 0 (Nat.zero_le 24) (by decide)
theorem c_X3 {G : hp_G} {l : Launch} (pre : List va_E) (n e : Nat) (hp : pre.length = n) : g_M G l yX3_init cX3_init 2 2 [.ref (G.2.1 + n), .ref (G.2.1 + e)] (pre ++ [.inr (3, fr3)]) (pre ++ c_fore G n e) 16 106 := by
  refine g_body "HeelPost$Foretold" (by decide) rfl rfl (Nat.le_of_ble_eq_true rfl) ?_
  rw [q_len hp]
  refine g_aload_n dX3_init_0 0 rfl ?_
  refine g_obj wm_191 ins_obj cod_obj (Nat.le_of_ble_eq_true rfl) dX3_init_1 ?_
  refine g_aload_n dX3_init_4 0 rfl ?_
  refine q_new 6 tyX6 fr6 hp rfl rfl in_X6 tyX6_ok wk_192 inst_X6 cal_X6_init.2.1 df_X6 (Nat.le_of_ble_eq_true rfl) (Nat.le_of_ble_eq_true rfl) dX3_init_5 ?_
  refine g_dup rfl dX3_init_8 ?_
  refine q_callN (c_X6 _ _ (q_len hp _)) hp rfl cal_X6_init rfl ins_X6_init (by decide) ⟨Nat.le_of_ble_eq_true rfl, Nat.le_of_ble_eq_true rfl⟩ rfl rfl (Nat.le_of_ble_eq_true rfl) (Nat.le_of_ble_eq_true rfl) (Nat.le_of_ble_eq_true rfl) dX3_init_9 ?_
  refine q_putF 0 3 tyX3 hp rfl rfl in_X3 tyX3_ok nmX3 1 (by decide) wf_195 rfl rfl rfl rfl rfl (Nat.le_of_ble_eq_true rfl) dX3_init_12 ?_
  refine g_aload_n dX3_init_15 0 rfl ?_
  refine q_new 6 tyX6 fr6 hp rfl rfl in_X6 tyX6_ok wk_192 inst_X6 cal_X6_init.2.1 df_X6 (Nat.le_of_ble_eq_true rfl) (Nat.le_of_ble_eq_true rfl) dX3_init_16 ?_
  refine g_dup rfl dX3_init_19 ?_
  refine q_callN (c_X6 _ _ (q_len hp _)) hp rfl cal_X6_init rfl ins_X6_init (by decide) ⟨Nat.le_of_ble_eq_true rfl, Nat.le_of_ble_eq_true rfl⟩ rfl rfl (Nat.le_of_ble_eq_true rfl) (Nat.le_of_ble_eq_true rfl) (Nat.le_of_ble_eq_true rfl) dX3_init_20 ?_
  refine q_putF 0 3 tyX3 hp rfl rfl in_X3 tyX3_ok nmX3 2 (by decide) wf_196 rfl rfl rfl rfl rfl (Nat.le_of_ble_eq_true rfl) dX3_init_23 ?_
  refine g_aload_n dX3_init_26 0 rfl ?_
  refine g_bipush rfl dX3_init_27 ?_
  refine q_newi 6 hp rfl rfl (Nat.le_of_ble_eq_true rfl) (Nat.le_of_ble_eq_true rfl) (Nat.le_of_ble_eq_true rfl) dX3_init_29 ?_
  refine q_putF 0 3 tyX3 hp rfl rfl in_X3 tyX3_ok nmX3 3 (by decide) wf_197 rfl rfl rfl rfl rfl (Nat.le_of_ble_eq_true rfl) dX3_init_31 ?_
  refine g_aload_n dX3_init_34 0 rfl ?_
  refine g_bipush rfl dX3_init_35 ?_
  refine q_newi 12 hp rfl rfl (Nat.le_of_ble_eq_true rfl) (Nat.le_of_ble_eq_true rfl) (Nat.le_of_ble_eq_true rfl) dX3_init_37 ?_
  refine q_putF 0 3 tyX3 hp rfl rfl in_X3 tyX3_ok nmX3 4 (by decide) wf_198 rfl rfl rfl rfl rfl (Nat.le_of_ble_eq_true rfl) dX3_init_39 ?_
  refine g_aload_n dX3_init_42 0 rfl ?_
  refine g_aload_n dX3_init_43 1 rfl ?_
  refine q_putF 0 3 tyX3 hp rfl rfl in_X3 tyX3_ok nmX3 0 (by decide) wf_194 rfl rfl rfl rfl rfl (Nat.le_of_ble_eq_true rfl) dX3_init_44 ?_
  exact g_vret rfl rfl rfl dX3_init_47
