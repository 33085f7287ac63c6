/-! the class's constructor -/
theorem q_newz {G : hp_G} {l : Launch} {cc : ByteArray} {nL d MC MS n0 : Nat} {own : String} {fin : List va_E} {pc : Nat} {L : List (Nat × Value)} {st : List Value} {pre w : List va_E} {n cells slots : Nat} {m : Int} (N : Nat) (hp : pre.length = n) (hlen : n + w.length = n0 + cells) (hn : m = (N : Int)) (hN : N ≤ 65536) (hc : cells + 1 ≤ MC) (hs : slots + N ≤ MS) (hd : decode cc pc = .ok (.newarray .boolean, 2))
    (k : g_R G l cc nL own d MC MS n0 fin (pc + 2) L (.ref (G.2.1 + (n + w.length)) :: st) (pre ++ (w ++ [.inl (G.2.2.1 1, N, .inl (fun _ => hp_I 0))])) (cells + 1) (slots + N)) : g_R G l cc nL own d MC MS n0 fin pc L (.int (hp_I m) :: st) (pre ++ w) cells slots := by
  refine g_newz N (by rw [q_len hp]; exact hlen) hn hN wa_bool hc hs hd ?_
  rw [q_len hp, List.append_assoc]
  exact k
def p_o (G : hp_G) : Nat → va_E
  | 0 => .inr (7, fr7)
  | 1 => .inr (7, [gf G 1, .null, .null, .null, .null, .null, .null, .null, .null, i0, i0])
  | 2 => .inr (7, [gf G 1, gf G 13, .null, .null, .null, .null, .null, .null, .null, i0, i0])
  | 3 => .inr (7, [gf G 1, gf G 13, gf G 15, .null, .null, .null, .null, .null, .null, i0, i0])
  | 4 => .inr (7, [gf G 1, gf G 13, gf G 15, gf G 22, .null, .null, .null, .null, .null, i0, i0])
  | 5 => .inr (7, [gf G 1, gf G 13, gf G 15, gf G 22, gf G 29, .null, .null, .null, .null, i0, i0])
  | 6 => .inr (7, [gf G 1, gf G 13, gf G 15, gf G 22, gf G 29, gf G 199, .null, .null, .null, i0, i0])
  | 7 => .inr (7, [gf G 1, gf G 13, gf G 15, gf G 22, gf G 29, gf G 199, gf G 210, .null, .null, i0, i0])
  | 8 => .inr (7, [gf G 1, gf G 13, gf G 15, gf G 22, gf G 29, gf G 199, gf G 210, gf G 227, .null, i0, i0])
  | _ => .inr (7, [gf G 1, gf G 13, gf G 15, gf G 22, gf G 29, gf G 199, gf G 210, gf G 227, gf G 229, i0, i0])
def p_1 (G : hp_G) : List va_E := c_rows G 1
def p_2 (G : hp_G) : List va_E := p_1 G ++ c_tape G 13
def p_3 (G : hp_G) : List va_E := p_2 G ++ c_town G 15
def p_4 (G : hp_G) : List va_E := p_3 G ++ c_town G 22
def p_5 (G : hp_G) : List va_E := p_4 G ++ c_acts G 29
def p_6 (G : hp_G) : List va_E := p_5 G ++ c_errands G 199
def p_7 (G : hp_G) : List va_E := p_6 G ++ c_fore G 210 199
def p_8 (G : hp_G) : List va_E := p_7 G ++ c_asks G 227
theorem p_1l (G : hp_G) : (p_1 G).length = 12 := rfl
theorem p_2l (G : hp_G) : (p_2 G).length = 14 := rfl
theorem p_3l (G : hp_G) : (p_3 G).length = 21 := rfl
theorem p_4l (G : hp_G) : (p_4 G).length = 28 := rfl
theorem c_actsl (G : hp_G) (n : Nat) : (c_acts G n).length = 170 := by
  show (c_towns G (n + 2) 24).length + 1 + 1 = 170
  rw [c_towns_len]
theorem p_5l (G : hp_G) : (p_5 G).length = 198 := by unfold p_5; rw [List.length_append, p_4l, c_actsl]
theorem p_6l (G : hp_G) : (p_6 G).length = 209 := by unfold p_6; rw [List.length_append, p_5l]; rfl
theorem p_7l (G : hp_G) : (p_7 G).length = 226 := by unfold p_7; rw [List.length_append, p_6l]; rfl
theorem p_8l (G : hp_G) : (p_8 G).length = 228 := by unfold p_8; rw [List.length_append, p_7l]; rfl
def p_l (G : hp_G) (k : Nat) : List va_E := p_o G 9 :: (p_8 G ++ .inl (G.2.2.1 2, 2, .inr (.inr (.inr (.inr (fun j => if j < k then some (G.2.1 + (230 + 7 * j)) else none))))) :: c_towns G 230 k)
def c_post (G : hp_G) : List va_E := p_o G 9 :: (p_8 G ++ ga G 2 2 230 7 :: c_towns G 230 2)
theorem p_len (G : hp_G) (k : Nat) : (p_l G k).length = 230 + 7 * k := by
  show (p_8 G ++ _ :: c_towns G 230 k).length + 1 = _
  rw [List.length_append, p_8l, List.length_cons, c_towns_len]
  omega
theorem p_up (G : hp_G) (k : Nat) : va_up (fun j => if j < k then some (G.2.1 + (230 + 7 * j)) else none) ((k : Int).toNat) (some (G.2.1 + (0 + (230 + 7 * k)))) = fun j => if j < k + 1 then some (G.2.1 + (230 + 7 * j)) else none := by
  funext j
  unfold va_up
  rw [Int.toNat_natCast]
  by_cases h : j = k
  · rw [if_pos h, if_pos (by omega), h, Nat.zero_add]
  · rw [if_neg h]
    dsimp only
    by_cases h2 : j < k
    · rw [if_pos h2, if_pos (by omega)]
    · rw [if_neg h2, if_neg (by omega)]
theorem p_at (G : hp_G) (k : Nat) (r : List va_E) : (p_l G k ++ r)[229]? = some (.inl (G.2.2.1 2, 2, .inr (.inr (.inr (.inr (fun j => if j < k then some (G.2.1 + (230 + 7 * j)) else none)))))) := by
  unfold p_l
  rw [List.cons_append, List.getElem?_cons_succ, List.append_assoc, List.getElem?_append_right (by rw [p_8l]; exact Nat.le_refl _), p_8l]
  rfl
theorem p_at0 (G : hp_G) (k : Nat) : (p_l G k)[229]? = some (.inl (G.2.2.1 2, 2, .inr (.inr (.inr (.inr (fun j => if j < k then some (G.2.1 + (230 + 7 * j)) else none)))))) := by
  have := p_at G k []
  rw [List.append_nil] at this
  exact this
theorem p_set (G : hp_G) (k : Nat) (r : List va_E) (x : va_E) : (p_l G k ++ r).set 229 x = p_o G 9 :: (p_8 G ++ x :: (c_towns G 230 k ++ r)) := by
  unfold p_l
  rw [List.cons_append, List.set_cons_succ, List.append_assoc, List.set_append_right _ _ (by rw [p_8l]; exact Nat.le_refl _), p_8l]
  rfl
theorem X7_lp {G : hp_G} {l : Launch} : ∀ (q k : Nat), k ≤ 2 → 2 - k < q → g_R G l cX7_init 2 "HeelPost" 3 243 3471 1 ([] ++ c_post G) 106 [(1, .int (hp_I (k : Int))), (0, .ref (G.2.1 + 0))] [] ([] ++ p_l G k) (229 + 7 * k) (3383 + 44 * k) := by
  intro q
  induction q with
  | zero => intro k _ h; omega
  | succ q ih =>
    intro k hk hq
    have hp : ([] : List va_E).length = 0 := rfl
    refine g_iload_n dX7_init_106 0 rfl ?_
    refine g_iconst dX7_init_107 ?_
    refine g_icge (tgt := 130) dX7_init_108 (by decide) (hp_rk (by omega)) (hp_rc rfl) (fun c => ?_) (fun c => ?_)
    · have e8 : k = 2 := by omega
      subst e8
      refine q_conv 229 (ga G 2 2 230 7) hp (p_at0 G 2) (ce_ref (fun j hj => by rw [if_pos hj, hp_rfs_at])) ?_
      refine q_cast (ws' := [] ++ c_post G) ?_ (g_vret rfl rfl rfl dX7_init_130)
      have := p_set G 2 [] (ga G 2 2 230 7)
      rw [List.append_nil, List.append_nil] at this
      rw [this]
      rfl
    · refine g_aload_n dX7_init_111 1 rfl ?_
      refine q_get 0 7 hp rfl rfl in_X7 8 (by decide) wf_234 rfl dX7_init_112 ?_
      refine g_iload_n dX7_init_115 0 rfl ?_
      refine q_new 6 tyX6 fr6 hp (by rw [p_len]; omega) rfl in_X6 tyX6_ok wk_62 inst_X6 cal_X6_init.2.1 df_X6 (by omega) (by omega) dX7_init_116 ?_
      refine g_dup rfl dX7_init_119 ?_
      refine q_callN (c_X6 _ _ (q_len hp _)) hp (by rw [p_len]; omega) cal_X6_init rfl ins_X6_init (by decide) ⟨Nat.le_of_ble_eq_true rfl, Nat.le_of_ble_eq_true rfl⟩ rfl rfl (Nat.le_of_ble_eq_true rfl) (by omega) (by omega) dX7_init_120 ?_
      rw [p_len]
      refine q_astq (m := 2) 229 (230 + 7 * k) hp (p_at G k _) (by rw [List.getElem?_append_right (by rw [p_len]; exact Nat.le_refl _), p_len, Nat.sub_self]; rfl) (Nat.le_of_ble_eq_true rfl) ⟨by omega, by omega⟩ dX7_init_123 ?_
      refine g_iinc (i := 1) dX7_init_124 0 rfl (by decide) (L' := [(1, .int (hp_I (hp_w ((k : Int) + 1)))), (0, .ref (G.2.1 + 0))]) rfl ?_
      refine g_goto (tgt := 106) dX7_init_127 (by decide) ?_
      rw [k_w (by omega), p_up, show 229 + 7 * k + 1 + 6 = 229 + 7 * (k + 1) by omega, show 3383 + 44 * k + 12 + 32 = 3383 + 44 * (k + 1) by omega]
      refine q_cast (ws' := [] ++ p_l G (k + 1)) ?_ (ih (k + 1) (by omega) (by omega))
      rw [p_set, Nat.zero_add]
      rfl
set_option maxRecDepth 20000 in
theorem c_X7 {G : hp_G} {l : Launch} : g_M G l yX7_init cX7_init 2 3 [.ref (G.2.1 + 0)] ([] ++ [.inr (7, fr7)]) ([] ++ c_post G) 243 3471 := by
  have hp : ([] : List va_E).length = 0 := rfl
  refine g_body "HeelPost" (by decide) rfl rfl (Nat.le_of_ble_eq_true rfl) ?_
  rw [q_len hp]
  refine g_aload_n dX7_init_0 0 rfl ?_
  refine g_obj wm_18 ins_obj cod_obj (Nat.le_of_ble_eq_true rfl) dX7_init_1 ?_
  refine g_aload_n dX7_init_4 0 rfl ?_
  refine q_new 4 tyX4 fr4 hp rfl rfl in_X4 tyX4_ok wk_21 inst_X4 cal_X4_init.2.1 df_X4 (Nat.le_of_ble_eq_true rfl) (Nat.le_of_ble_eq_true rfl) dX7_init_5 ?_
  refine g_dup rfl dX7_init_8 ?_
  refine q_callI (c_X4 _ _ (q_len hp _)) hp rfl cal_X4_init rfl ins_X4_init wm_23 ⟨Nat.le_of_ble_eq_true rfl, Nat.le_of_ble_eq_true rfl⟩ rfl rfl (Nat.le_of_ble_eq_true rfl) (Nat.le_of_ble_eq_true rfl) (Nat.le_of_ble_eq_true rfl) dX7_init_9 ?_
  refine q_putF 0 7 tyX7 hp rfl rfl in_X7 tyX7_ok nmX7 0 (by decide) wf_226 rfl rfl rfl rfl rfl (Nat.le_of_ble_eq_true rfl) dX7_init_12 ?_
  refine q_cast (ws' := [] ++ (p_o G 1 :: p_1 G)) rfl ?_
  refine g_aload_n dX7_init_15 0 rfl ?_
  refine q_new 5 tyX5 fr5 hp (by show 0 + ((p_1 G).length + 1) = _; rw [p_1l]; rfl) rfl in_X5 tyX5_ok wk_40 inst_X5 cal_X5_init.2.1 df_X5 (Nat.le_of_ble_eq_true rfl) (Nat.le_of_ble_eq_true rfl) dX7_init_16 ?_
  refine g_dup rfl dX7_init_19 ?_
  refine q_callN (c_X5 _ _ (q_len hp _)) hp (by show 0 + ((p_1 G).length + 1 + 1) = _; rw [p_1l]; rfl) cal_X5_init rfl ins_X5_init (by decide) ⟨Nat.le_of_ble_eq_true rfl, Nat.le_of_ble_eq_true rfl⟩ rfl rfl (Nat.le_of_ble_eq_true rfl) (Nat.le_of_ble_eq_true rfl) (Nat.le_of_ble_eq_true rfl) dX7_init_20 ?_
  refine q_putF 0 7 tyX7 hp rfl rfl in_X7 tyX7_ok nmX7 1 (by decide) wf_227 rfl rfl rfl rfl rfl (Nat.le_of_ble_eq_true rfl) dX7_init_23 ?_
  rw [show 0 + (p_o G 1 :: p_1 G).length = 13 by show 0 + ((p_1 G).length + 1) = _; rw [p_1l]]
  refine q_cast (ws' := [] ++ (p_o G 2 :: p_2 G)) rfl ?_
  refine g_aload_n dX7_init_26 0 rfl ?_
  refine q_new 6 tyX6 fr6 hp (by show 0 + ((p_2 G).length + 1) = _; rw [p_2l]; rfl) rfl in_X6 tyX6_ok wk_62 inst_X6 cal_X6_init.2.1 df_X6 (Nat.le_of_ble_eq_true rfl) (Nat.le_of_ble_eq_true rfl) dX7_init_27 ?_
  refine g_dup rfl dX7_init_30 ?_
  refine q_callN (c_X6 _ _ (q_len hp _)) hp (by show 0 + ((p_2 G).length + 1 + 1) = _; rw [p_2l]; rfl) cal_X6_init rfl ins_X6_init (by decide) ⟨Nat.le_of_ble_eq_true rfl, Nat.le_of_ble_eq_true rfl⟩ rfl rfl (Nat.le_of_ble_eq_true rfl) (Nat.le_of_ble_eq_true rfl) (Nat.le_of_ble_eq_true rfl) dX7_init_31 ?_
  refine q_putF 0 7 tyX7 hp rfl rfl in_X7 tyX7_ok nmX7 2 (by decide) wf_228 rfl rfl rfl rfl rfl (Nat.le_of_ble_eq_true rfl) dX7_init_34 ?_
  rw [show 0 + (p_o G 2 :: p_2 G).length = 15 by show 0 + ((p_2 G).length + 1) = _; rw [p_2l]]
  refine q_cast (ws' := [] ++ (p_o G 3 :: p_3 G)) rfl ?_
  refine g_aload_n dX7_init_37 0 rfl ?_
  refine q_new 6 tyX6 fr6 hp (by show 0 + ((p_3 G).length + 1) = _; rw [p_3l]; rfl) rfl in_X6 tyX6_ok wk_62 inst_X6 cal_X6_init.2.1 df_X6 (Nat.le_of_ble_eq_true rfl) (Nat.le_of_ble_eq_true rfl) dX7_init_38 ?_
  refine g_dup rfl dX7_init_41 ?_
  refine q_callN (c_X6 _ _ (q_len hp _)) hp (by show 0 + ((p_3 G).length + 1 + 1) = _; rw [p_3l]; rfl) cal_X6_init rfl ins_X6_init (by decide) ⟨Nat.le_of_ble_eq_true rfl, Nat.le_of_ble_eq_true rfl⟩ rfl rfl (Nat.le_of_ble_eq_true rfl) (Nat.le_of_ble_eq_true rfl) (Nat.le_of_ble_eq_true rfl) dX7_init_42 ?_
  refine q_putF 0 7 tyX7 hp rfl rfl in_X7 tyX7_ok nmX7 3 (by decide) wf_229 rfl rfl rfl rfl rfl (Nat.le_of_ble_eq_true rfl) dX7_init_45 ?_
  rw [show 0 + (p_o G 3 :: p_3 G).length = 22 by show 0 + ((p_3 G).length + 1) = _; rw [p_3l]]
  refine q_cast (ws' := [] ++ (p_o G 4 :: p_4 G)) rfl ?_
  refine g_aload_n dX7_init_48 0 rfl ?_
  refine q_new 0 tyX0 fr0 hp (by show 0 + ((p_4 G).length + 1) = _; rw [p_4l]; rfl) rfl in_X0 tyX0_ok wk_135 inst_X0 cal_X0_init.2.1 df_X0 (Nat.le_of_ble_eq_true rfl) (Nat.le_of_ble_eq_true rfl) dX7_init_49 ?_
  refine g_dup rfl dX7_init_52 ?_
  refine q_callI (c_X0 _ _ (q_len hp _)) hp (by show 0 + ((p_4 G).length + 1 + 1) = _; rw [p_4l]; rfl) cal_X0_init rfl ins_X0_init wm_137 ⟨Nat.le_of_ble_eq_true rfl, Nat.le_of_ble_eq_true rfl⟩ rfl rfl (Nat.le_of_ble_eq_true rfl) (Nat.le_of_ble_eq_true rfl) (Nat.le_of_ble_eq_true rfl) dX7_init_53 ?_
  refine q_putF 0 7 tyX7 hp rfl rfl in_X7 tyX7_ok nmX7 4 (by decide) wf_230 rfl rfl rfl rfl rfl (Nat.le_of_ble_eq_true rfl) dX7_init_56 ?_
  rw [show 0 + (p_o G 4 :: p_4 G).length = 29 by show 0 + ((p_4 G).length + 1) = _; rw [p_4l]]
  refine q_cast (ws' := [] ++ (p_o G 5 :: p_5 G)) rfl ?_
  refine g_aload_n dX7_init_59 0 rfl ?_
  refine q_new 2 tyX2 fr2 hp (by show 0 + ((p_5 G).length + 1) = _; rw [p_5l]; rfl) rfl in_X2 tyX2_ok wk_154 inst_X2 cal_X2_init.2.1 df_X2 (Nat.le_of_ble_eq_true rfl) (Nat.le_of_ble_eq_true rfl) dX7_init_60 ?_
  refine g_dup rfl dX7_init_63 ?_
  refine q_callN (c_X2 _ _ (q_len hp _)) hp (by show 0 + ((p_5 G).length + 1 + 1) = _; rw [p_5l]; rfl) cal_X2_init rfl ins_X2_init (by decide) ⟨Nat.le_of_ble_eq_true rfl, Nat.le_of_ble_eq_true rfl⟩ rfl rfl (Nat.le_of_ble_eq_true rfl) (Nat.le_of_ble_eq_true rfl) (Nat.le_of_ble_eq_true rfl) dX7_init_64 ?_
  refine q_putF 0 7 tyX7 hp rfl rfl in_X7 tyX7_ok nmX7 5 (by decide) wf_231 rfl rfl rfl rfl rfl (Nat.le_of_ble_eq_true rfl) dX7_init_67 ?_
  rw [show 0 + (p_o G 5 :: p_5 G).length = 199 by show 0 + ((p_5 G).length + 1) = _; rw [p_5l]]
  refine q_cast (ws' := [] ++ (p_o G 6 :: p_6 G)) rfl ?_
  refine g_aload_n dX7_init_70 0 rfl ?_
  refine q_new 3 tyX3 fr3 hp (by show 0 + ((p_6 G).length + 1) = _; rw [p_6l]; rfl) rfl in_X3 tyX3_ok wk_186 inst_X3 cal_X3_init.2.1 df_X3 (Nat.le_of_ble_eq_true rfl) (Nat.le_of_ble_eq_true rfl) dX7_init_71 ?_
  refine g_dup rfl dX7_init_74 ?_
  refine g_aload_n dX7_init_75 0 rfl ?_
  refine q_get 0 7 hp rfl rfl in_X7 5 (by decide) wf_231 rfl dX7_init_76 ?_
  refine q_callI (c_X3 _ _ 199 (q_len hp _)) hp (by show 0 + ((p_6 G).length + 1 + 1) = _; rw [p_6l]; rfl) cal_X3_init rfl ins_X3_init wm_188 ⟨Nat.le_of_ble_eq_true rfl, Nat.le_of_ble_eq_true rfl⟩ rfl rfl (Nat.le_of_ble_eq_true rfl) (Nat.le_of_ble_eq_true rfl) (Nat.le_of_ble_eq_true rfl) dX7_init_79 ?_
  refine q_putF 0 7 tyX7 hp rfl rfl in_X7 tyX7_ok nmX7 6 (by decide) wf_232 rfl rfl rfl rfl rfl (Nat.le_of_ble_eq_true rfl) dX7_init_82 ?_
  rw [show 0 + (p_o G 6 :: p_6 G).length = 210 by show 0 + ((p_6 G).length + 1) = _; rw [p_6l]]
  refine q_cast (ws' := [] ++ (p_o G 7 :: p_7 G)) rfl ?_
  refine g_aload_n dX7_init_85 0 rfl ?_
  refine q_new 1 tyX1 fr1 hp (by show 0 + ((p_7 G).length + 1) = _; rw [p_7l]; rfl) rfl in_X1 tyX1_ok wk_213 inst_X1 cal_X1_init.2.1 df_X1 (Nat.le_of_ble_eq_true rfl) (Nat.le_of_ble_eq_true rfl) dX7_init_86 ?_
  refine g_dup rfl dX7_init_89 ?_
  refine q_callN (c_X1 _ _ (q_len hp _)) hp (by show 0 + ((p_7 G).length + 1 + 1) = _; rw [p_7l]; rfl) cal_X1_init rfl ins_X1_init (by decide) ⟨Nat.le_of_ble_eq_true rfl, Nat.le_of_ble_eq_true rfl⟩ rfl rfl (Nat.le_of_ble_eq_true rfl) (Nat.le_of_ble_eq_true rfl) (Nat.le_of_ble_eq_true rfl) dX7_init_90 ?_
  refine q_putF 0 7 tyX7 hp rfl rfl in_X7 tyX7_ok nmX7 7 (by decide) wf_233 rfl rfl rfl rfl rfl (Nat.le_of_ble_eq_true rfl) dX7_init_93 ?_
  rw [show 0 + (p_o G 7 :: p_7 G).length = 227 by show 0 + ((p_7 G).length + 1) = _; rw [p_7l]]
  refine q_cast (ws' := [] ++ (p_o G 8 :: p_8 G)) rfl ?_
  refine g_aload_n dX7_init_96 0 rfl ?_
  refine g_iconst dX7_init_97 ?_
  refine q_newq 2 hp (by show 0 + ((p_8 G).length + 1) = _; rw [p_8l]; rfl) rfl (Nat.le_of_ble_eq_true rfl) wk_62 (Nat.le_of_ble_eq_true rfl) (Nat.le_of_ble_eq_true rfl) dX7_init_98 ?_
  refine q_putF 0 7 tyX7 hp rfl rfl in_X7 tyX7_ok nmX7 8 (by decide) wf_234 rfl rfl rfl rfl rfl (Nat.le_of_ble_eq_true rfl) dX7_init_101 ?_
  rw [show 0 + (p_o G 8 :: p_8 G).length = 229 by show 0 + ((p_8 G).length + 1) = _; rw [p_8l]]
  refine g_iconst dX7_init_104 ?_
  refine g_istore_n (i := 1) dX7_init_105 rfl (by decide) (L' := [(1, .int (hp_I 0)), (0, .ref (G.2.1 + 0))]) rfl ?_
  refine q_cast (ws' := [] ++ (p_o G 9 :: (p_8 G ++ [.inl (G.2.2.1 2, 2, .inr (.inr (.inr (.inr (fun _ => none)))))]))) rfl ?_
  refine q_conv 229 (.inl (G.2.2.1 2, 2, .inr (.inr (.inr (.inr (fun j => if j < 0 then some (G.2.1 + (230 + 7 * j)) else none)))))) hp (by rw [List.getElem?_cons_succ, List.getElem?_append_right (by rw [p_8l]; exact Nat.le_refl _), p_8l]; rfl) (ce_ref (fun j hj => (if_neg (Nat.not_lt_zero j)).symm)) ?_
  refine q_cast (ws' := [] ++ p_l G 0) ?_ (X7_lp 3 0 (Nat.zero_le 2) (by decide))
  rw [List.set_cons_succ, List.set_append_right _ _ (by rw [p_8l]; exact Nat.le_refl _), p_8l]
  rfl
