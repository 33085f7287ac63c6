/-! the bytecode does what the functions say: made by program (wip/whole/gen.py) -/
set_option maxRecDepth 100000 in
theorem ok_X1_isOne_4 {G : hp_G} (hG : hp_sh G = hp_shc) {l : Launch} {vv : Option Value} {H' : hp_H} {Z : Prop} : ∀ (n : Nat) (v1 : Int) (v2 : Int) (v3 : Int) (H : hp_H), hp_r v1 → hp_r v2 → hp_r v3 → hp_in H → ∀ m2 : Int, f_X1_isOne_4 n v1 v2 v3 H = some m2 → (hp_r m2 → hp_R G l cX1_isOne 4 (some .boolean) "HeelPost$Asks" (hp_rm 0) vv H' Z 31 [(1, .int (hp_I v1)), (2, .int (hp_I m2))] [] H) → hp_R G l cX1_isOne 4 (some .boolean) "HeelPost$Asks" (hp_rm 0) vv H' Z 4 [(1, .int (hp_I v1)), (2, .int (hp_I v2)), (3, .int (hp_I v3))] [] H := by
  intro n
  induction n with
  | zero =>
    intro v1 v2 v3 H r1 r2 r3 rH m2 h kx
    exact hp_no h
  | succ n ih =>
    intro v1 v2 v3 H r1 r2 r3 rH m2 h kx
    unfold f_X1_isOne_4 at h
    refine x_iload_n dX1_isOne_4 2 rfl ?_
    refine x_bipush rfl dX1_isOne_5 ?_
    refine x_icge (tgt := 31) dX1_isOne_7 (by decide) r3 (hp_rc rfl) (fun hc1 => ?_) (fun hc1 => ?_)
    · replace h := hp_if hc1 h
      cases h
      exact x_sub [0, 1] rfl (kx r2)
    · replace h := hp_it hc1 h
      refine x_iload_n dX1_isOne_10 1 rfl ?_
      refine x_iload_n dX1_isOne_11 0 rfl ?_
      refine x_iceq (tgt := 31) dX1_isOne_12 (by decide) r2 r1 (fun hc2 => ?_) (fun hc2 => ?_)
      · replace h := hp_it hc2 h
        cases h
        exact x_sub [0, 1] rfl (kx r2)
      · replace h := hp_if hc2 h
        refine x_iload_n dX1_isOne_15 1 rfl ?_
        refine x_ifeq (tgt := 31) dX1_isOne_16 (by decide) r2 (fun hc3 => ?_) (fun hc3 => ?_)
        · replace h := hp_it hc3 h
          cases h
          exact x_sub [0, 1] rfl (kx r2)
        · replace h := hp_if hc3 h
          refine x_gs 1 (-1) rfl (by decide) (by decide) wf_803 dX1_isOne_19 ?_
          refine x_iload_n dX1_isOne_22 1 rfl ?_
          obtain ⟨b4, h⟩ := hp_ck_e h
          refine x_tab (Or.inl rfl) b4 dX1_isOne_23 ?_
          obtain ⟨v2_5, ev2_5⟩ : ∃ z : Int, z = (hp_tab (-1) v2) := ⟨_, rfl⟩
          replace h := hp_let_e ev2_5 h
          have rv2_5 := hp_re ev2_5 (hp_rtab _ _)
          refine x_isnE (L' := [(2, .int (hp_I v2_5)), (1, .int (hp_I v1)), (3, .int (hp_I v3))]) ev2_5 dX1_isOne_24 rfl (by decide) rfl ?_
          obtain ⟨v3_6, ev3_6⟩ : ∃ z : Int, z = (hp_w (v3 + 1)) := ⟨_, rfl⟩
          replace h := hp_let_e ev3_6 h
          have rv3_6 := hp_re ev3_6 (hp_rw _)
          refine x_iiE (L' := [(3, .int (hp_I v3_6)), (2, .int (hp_I v2_5)), (1, .int (hp_I v1))]) ev3_6 dX1_isOne_25 2 rfl (by decide) rfl ?_
          refine x_goto (tgt := 4) dX1_isOne_28 (by decide) ?_
          exact x_sub [2, 1, 0] rfl (ih v1 v2_5 v3_6 H r1 rv2_5 rv3_6 rH _ h kx)
set_option maxRecDepth 100000 in
theorem ok_X1_isOne {G : hp_G} (hG : hp_sh G = hp_shc) {l : Launch} (v0 : Int) (v1 : Int) (H : hp_H) (r0 : hp_r v0) (r1 : hp_r v1) (rH : hp_in H) (r : Int) (h : f_X1_isOne v0 v1 H = some r) : hp_M G l yX1_isOne cX1_isOne 4 (some .boolean) (hp_rm 0) [.int (hp_I v0), .int (hp_I v1)] H (some (.int (hp_I r))) H (hp_r r) := by
  unfold f_X1_isOne at h
  refine hp_body "HeelPost$Asks" (by decide) rfl ⟨rfl, rfl⟩ (Nat.le_of_ble_eq_true rfl) ?_
  show hp_R G l cX1_isOne 4 (some .boolean) "HeelPost$Asks" (hp_rm 0) (some (.int (hp_I r))) H (hp_r r) 0 [(0, .int (hp_I v0)), (1, .int (hp_I v1))] [] H
  refine x_iload_n dX1_isOne_0 0 rfl ?_
  refine x_istore_n (L' := [(2, .int (hp_I v0)), (0, .int (hp_I v0)), (1, .int (hp_I v1))]) dX1_isOne_1 rfl (by decide) rfl ?_
  refine x_iconst dX1_isOne_2 ?_
  refine x_istore_n (L' := [(3, .int (hp_I 0)), (2, .int (hp_I v0)), (0, .int (hp_I v0)), (1, .int (hp_I v1))]) dX1_isOne_3 rfl (by decide) rfl ?_
  obtain ⟨v2_7, g8, h⟩ := hp_b1_e h
  refine x_sub [3, 1, 0] rfl (ok_X1_isOne_4 hG 1000 v1 v0 0 H r1 r0 (hp_rc rfl) rH _ g8 ?_)
  intro rv2_7
  refine x_iload_n dX1_isOne_31 1 rfl ?_
  refine x_iload_n dX1_isOne_32 0 rfl ?_
  refine x_icne (tgt := 40) dX1_isOne_33 (by decide) rv2_7 r1 (fun hc9 => ?_) (fun hc9 => ?_)
  · replace h := hp_if hc9 h
    refine x_iconst dX1_isOne_40 ?_
    cases h
    exact x_zret (hp_rc rfl) (Or.inl rfl) dX1_isOne_41
  · replace h := hp_it hc9 h
    refine x_iconst dX1_isOne_36 ?_
    refine x_goto (tgt := 41) dX1_isOne_37 (by decide) ?_
    cases h
    exact x_zret (hp_rc rfl) (Or.inr rfl) dX1_isOne_41
set_option maxRecDepth 100000 in
theorem ok_X1_traced {G : hp_G} (hG : hp_sh G = hp_shc) {l : Launch} (v1 : Int) (H : hp_H) (r1 : hp_r v1) (rH : hp_in H) (r : Int) (h : f_X1_traced v1 H = some r) : hp_M G l yX1_traced cX1_traced 2 (some .int) (hp_rm 0) [.ref (hp_ad G 227), .int (hp_I v1)] H (some (.int (hp_I r))) H (hp_r r) := by
  unfold f_X1_traced at h
  refine hp_body "HeelPost$Asks" (by decide) rfl ⟨rfl, rfl⟩ (Nat.le_of_ble_eq_true rfl) ?_
  show hp_R G l cX1_traced 2 (some .int) "HeelPost$Asks" (hp_rm 0) (some (.int (hp_I r))) H (hp_r r) 0 [(0, .ref (hp_ad G 227)), (1, .int (hp_I v1))] [] H
  refine x_iload_n dX1_traced_0 1 rfl ?_
  refine x_iflt (tgt := 21) dX1_traced_1 (by decide) r1 (fun hc1 => ?_) (fun hc1 => ?_)
  · replace h := hp_it hc1 h
    refine x_ldc (x := (-1000000)) wc_838 rfl dX1_traced_21 ?_
    cases h
    exact x_iret (hp_rc rfl) dX1_traced_23
  · replace h := hp_if hc1 h
    refine x_iload_n dX1_traced_4 1 rfl ?_
    refine x_aload_n dX1_traced_5 0 rfl ?_
    refine x_gi 1 1 rfl (sc_227 hG) (by decide) (C := RX1) (T := TX1) (N := 2) rfl in_X1 (by decide) rfl wf_220 dX1_traced_6 ?_
    refine x_icge (tgt := 21) dX1_traced_9 (by decide) r1 (rH _ _) (fun hc2 => ?_) (fun hc2 => ?_)
    · replace h := hp_if hc2 h
      refine x_ldc (x := (-1000000)) wc_838 rfl dX1_traced_21 ?_
      cases h
      exact x_iret (hp_rc rfl) dX1_traced_23
    · replace h := hp_it hc2 h
      refine x_aload_n dX1_traced_12 0 rfl ?_
      refine x_getr 0 (sc_227 hG) (by decide) (C := RX1) (T := TX1) (N := 2) rfl in_X1 (by decide) rfl wf_219 dX1_traced_13 ?_
      refine x_iload_n dX1_traced_16 1 rfl ?_
      obtain ⟨b3, h⟩ := hp_ck_e h
      refine x_ia 16 rfl (sc_228 hG) (by decide) (Nat.le_of_ble_eq_true rfl) b3 dX1_traced_17 ?_
      refine x_goto (tgt := 23) dX1_traced_18 (by decide) ?_
      cases h
      exact x_iret (rH _ _) dX1_traced_23
set_option maxRecDepth 100000 in
theorem ok_X1_asked_26 {G : hp_G} (hG : hp_sh G = hp_shc) {k : Nat} {l : Launch} {vv : Option Value} {H' : hp_H} {Z : Prop} : ∀ (n : Nat) (v2 : Int) (v4 : Int) (v5 : Int) (v6 : Int) (v7 : Int) (H : hp_H), hp_r v2 → hp_r v4 → (v5 = -1 ∨ v5 = -2 ∨ v5 = -3) → hp_r v6 → hp_r v7 → hp_in H → ∀ m6 : Int, f_X1_asked_26 n v2 v4 v5 v6 v7 H = some m6 → (hp_r m6 → hp_R G l cX1_asked 8 (some .int) "HeelPost$Asks" (hp_rm (k + 1)) vv H' Z 55 [(0, .ref (hp_ad G 227)), (1, .ref (hp_ad G 15)), (2, .int (hp_I v2)), (4, .int (hp_I v4)), (5, .ref (hp_ad G v5)), (6, .int (hp_I m6))] [] H) → hp_R G l cX1_asked 8 (some .int) "HeelPost$Asks" (hp_rm (k + 1)) vv H' Z 26 [(0, .ref (hp_ad G 227)), (1, .ref (hp_ad G 15)), (2, .int (hp_I v2)), (4, .int (hp_I v4)), (5, .ref (hp_ad G v5)), (6, .int (hp_I v6)), (7, .int (hp_I v7))] [] H := by
  intro n
  induction n with
  | zero =>
    intro v2 v4 v5 v6 v7 H r2 r4 r5 r6 r7 rH m6 h kx
    exact hp_no h
  | succ n ih =>
    intro v2 v4 v5 v6 v7 H r2 r4 r5 r6 r7 rH m6 h kx
    unfold f_X1_asked_26 at h
    refine x_iload dX1_asked_26 6 rfl ?_
    refine x_bipush rfl dX1_asked_28 ?_
    refine x_icge (tgt := 55) dX1_asked_30 (by decide) r7 (hp_rc rfl) (fun hc4 => ?_) (fun hc4 => ?_)
    · replace h := hp_if hc4 h
      cases h
      exact x_sub [0, 1, 2, 3, 4, 5] rfl (kx r6)
    · replace h := hp_it hc4 h
      refine x_aload dX1_asked_33 4 rfl ?_
      refine x_iload dX1_asked_35 5 rfl ?_
      obtain ⟨b5, h⟩ := hp_ck_e h
      refine x_tab r5 b5 dX1_asked_37 ?_
      refine x_ifne (tgt := 55) dX1_asked_38 (by decide) (hp_rtab _ _) (fun hc6 => ?_) (fun hc6 => ?_)
      · replace h := hp_if hc6 h
        cases h
        exact x_sub [0, 1, 2, 3, 4, 5] rfl (kx r6)
      · replace h := hp_it hc6 h
        refine x_gs 1 (-1) rfl (by decide) (by decide) wf_803 dX1_asked_41 ?_
        refine x_iload dX1_asked_44 5 rfl ?_
        refine x_tab (Or.inl rfl) b5 dX1_asked_46 ?_
        obtain ⟨v6_7, ev6_7⟩ : ∃ z : Int, z = (hp_tab (-1) v6) := ⟨_, rfl⟩
        replace h := hp_let_e ev6_7 h
        have rv6_7 := hp_re ev6_7 (hp_rtab _ _)
        refine x_isE (L' := [(6, .int (hp_I v6_7)), (0, .ref (hp_ad G 227)), (1, .ref (hp_ad G 15)), (2, .int (hp_I v2)), (4, .int (hp_I v4)), (5, .ref (hp_ad G v5)), (7, .int (hp_I v7))]) ev6_7 dX1_asked_47 (by decide) rfl ?_
        obtain ⟨v7_8, ev7_8⟩ : ∃ z : Int, z = (hp_w (v7 + 1)) := ⟨_, rfl⟩
        replace h := hp_let_e ev7_8 h
        have rv7_8 := hp_re ev7_8 (hp_rw _)
        refine x_iiE (L' := [(7, .int (hp_I v7_8)), (6, .int (hp_I v6_7)), (0, .ref (hp_ad G 227)), (1, .ref (hp_ad G 15)), (2, .int (hp_I v2)), (4, .int (hp_I v4)), (5, .ref (hp_ad G v5))]) ev7_8 dX1_asked_49 6 rfl (by decide) rfl ?_
        refine x_goto (tgt := 26) dX1_asked_52 (by decide) ?_
        exact x_sub [2, 3, 4, 5, 6, 1, 0] rfl (ih v2 v4 v5 v6_7 v7_8 H r2 r4 r5 rv6_7 rv7_8 rH _ h kx)
set_option maxRecDepth 100000 in
theorem ok_X1_asked {G : hp_G} (hG : hp_sh G = hp_shc) {l : Launch} (k : Nat) (g : Int → Int → Int → hp_H → Option (Int × hp_H)) (hg : ∀ (v2 v3 v4 : Int) (H : hp_H), hp_r v2 → hp_r v3 → hp_r v4 → hp_in H → ∀ x : Int × hp_H, g v2 v3 v4 H = some x → hp_M G l yX1_given cX1_given 6 (some .int) (hp_rm k) [.ref (hp_ad G 227), .ref (hp_ad G 15), .int (hp_I v2), .int (hp_I v3), .int (hp_I v4)] H (some (.int (hp_I x.1))) x.2 (hp_r x.1 ∧ hp_in x.2)) (v2 : Int) (v3 : Int) (v4 : Int) (H : hp_H) (r2 : hp_r v2) (r3 : hp_r v3) (r4 : hp_r v4) (rH : hp_in H) (x : Int × hp_H) (h : f_X1_asked g v2 v3 v4 H = some x) : hp_M G l yX1_asked cX1_asked 8 (some .int) (hp_rm (k + 1)) [.ref (hp_ad G 227), .ref (hp_ad G 15), .int (hp_I v2), .int (hp_I v3), .int (hp_I v4)] H (some (.int (hp_I x.1))) x.2 (hp_r x.1 ∧ hp_in x.2) := by
  obtain ⟨r, H'⟩ := x
  unfold f_X1_asked at h
  refine hp_body "HeelPost$Asks" (by decide) rfl ⟨rfl, rfl⟩ (Nat.le_of_ble_eq_true rfl) ?_
  show hp_R G l cX1_asked 8 (some .int) "HeelPost$Asks" (hp_rm (k + 1)) (some (.int (hp_I r))) H' (hp_r r ∧ hp_in H') 0 [(0, .ref (hp_ad G 227)), (1, .ref (hp_ad G 15)), (2, .int (hp_I v2)), (3, .int (hp_I v3)), (4, .int (hp_I v4))] [] H
  refine x_iload_n dX1_asked_0 3 rfl ?_
  obtain ⟨m1, em1⟩ : ∃ z : Int, z = (if v3 = 0 then (-2) else (-3)) := ⟨_, rfl⟩
  replace h := hp_let_e em1 h
  have rm1 : m1 = -1 ∨ m1 = -2 ∨ m1 = -3 := by rw [em1]; split <;> decide
  have kj : hp_R G l cX1_asked 8 (some .int) "HeelPost$Asks" (hp_rm (k + 1)) (some (.int (hp_I r))) H' (hp_r r ∧ hp_in H') 13 [(0, .ref (hp_ad G 227)), (1, .ref (hp_ad G 15)), (2, .int (hp_I v2)), (4, .int (hp_I v4))] [.ref (hp_ad G m1)] H := by
    refine x_astore (L' := [(5, .ref (hp_ad G m1)), (0, .ref (hp_ad G 227)), (1, .ref (hp_ad G 15)), (2, .int (hp_I v2)), (4, .int (hp_I v4))]) dX1_asked_13 (by decide) rfl ?_
    refine x_aload_n dX1_asked_15 2 rfl ?_
    refine x_getr (r := 16) 6 (tw_0 (tw_at15 hG)) (tw_p (tw_at15 hG)) (C := RX6) (T := TX6) (N := 12) rfl in_X6 (by decide) rfl wf_90 dX1_asked_16 ?_
    refine x_iload_n dX1_asked_19 3 rfl ?_
    obtain ⟨b2, h⟩ := hp_ck_e h
    refine x_ia 6 rfl (sc_16 hG) (by decide) (Nat.le_of_ble_eq_true rfl) b2 dX1_asked_20 ?_
    obtain ⟨v6_3, ev6_3⟩ : ∃ z : Int, z = (H 16 v2) := ⟨_, rfl⟩
    replace h := hp_let_e ev6_3 h
    have rv6_3 := hp_re ev6_3 (rH _ _)
    refine x_isE (L' := [(6, .int (hp_I v6_3)), (5, .ref (hp_ad G m1)), (0, .ref (hp_ad G 227)), (1, .ref (hp_ad G 15)), (2, .int (hp_I v2)), (4, .int (hp_I v4))]) ev6_3 dX1_asked_21 (by decide) rfl ?_
    refine x_iconst dX1_asked_23 ?_
    refine x_istore (L' := [(7, .int (hp_I 0)), (6, .int (hp_I v6_3)), (5, .ref (hp_ad G m1)), (0, .ref (hp_ad G 227)), (1, .ref (hp_ad G 15)), (2, .int (hp_I v2)), (4, .int (hp_I v4))]) dX1_asked_24 (by decide) rfl ?_
    obtain ⟨v6_9, g10, h⟩ := hp_b1_e h
    refine x_sub [3, 4, 5, 6, 2, 1, 0] rfl (ok_X1_asked_26 hG 1000 v2 v4 m1 v6_3 0 H r2 r4 rm1 rv6_3 (hp_rc rfl) rH _ g10 ?_)
    intro rv6_9
    refine x_aload_n dX1_asked_55 0 rfl ?_
    refine x_aload_n dX1_asked_56 1 rfl ?_
    refine x_iload_n dX1_asked_57 2 rfl ?_
    refine x_aload dX1_asked_58 4 rfl ?_
    refine x_iload dX1_asked_60 5 rfl ?_
    obtain ⟨b11, h⟩ := hp_ck_e h
    refine x_tab rm1 b11 dX1_asked_62 ?_
    refine x_iload dX1_asked_63 3 rfl ?_
    refine x_iconst dX1_asked_65 ?_
    refine x_iadd dX1_asked_66 ?_
    obtain ⟨c13, H14, g12, h⟩ := hp_b2_e h
    refine x_ivi (As := [.ref (hp_ad G 15), .int (hp_I v2), .int (hp_I (hp_tab m1 v6_9)), .int (hp_I (hp_w (v4 + 1)))]) (hg v2 (hp_tab m1 v6_9) (hp_w (v4 + 1)) H r2 (hp_rtab _ _) (hp_rw _) rH _ g12) cal_X1_given (sc_227 hG) (by decide) (C := RX1) (T := TX1) (N := 2) rfl rfl ins_X1_given sel_X1_given wm_821 (by omega) rfl rfl (Nat.le_of_ble_eq_true rfl) dX1_asked_67 (fun z9 => ?_)
    obtain ⟨rc13, rH14⟩ := z9
    cases h
    exact x_iret ⟨rc13, rH14⟩ dX1_asked_70
  clear h
  refine x_ifne (tgt := 10) dX1_asked_1 (by decide) r3 (fun hc15 => ?_) (fun hc15 => ?_)
  · refine x_gs 3 (-3) rfl (by decide) (by decide) wf_819 dX1_asked_10 ?_
    have q9 := (em1.trans (if_neg hc15))
    subst q9
    exact x_sub [0, 1, 2, 4] rfl kj
  · refine x_gs 2 (-2) rfl (by decide) (by decide) wf_817 dX1_asked_4 ?_
    refine x_goto (tgt := 13) dX1_asked_7 (by decide) ?_
    have q9 := (em1.trans (if_pos hc15))
    subst q9
    exact x_sub [0, 1, 2, 4] rfl kj
set_option maxRecDepth 100000 in
theorem ok_X1_leave {G : hp_G} (hG : hp_sh G = hp_shc) {l : Launch} (v1 : Int) (H : hp_H) (r1 : hp_r v1) (rH : hp_in H) (H' : hp_H) (h : f_X1_leave v1 H = some H') : hp_M G l yX1_leave cX1_leave 2 none (hp_rm 0) [.ref (hp_ad G 227), .int (hp_I v1)] H none H' (hp_in H') := by
  unfold f_X1_leave at h
  refine hp_body "HeelPost$Asks" (by decide) rfl ⟨rfl, rfl⟩ (Nat.le_of_ble_eq_true rfl) ?_
  show hp_R G l cX1_leave 2 none "HeelPost$Asks" (hp_rm 0) none H' (hp_in H') 0 [(0, .ref (hp_ad G 227)), (1, .int (hp_I v1))] [] H
  refine x_aload_n dX1_leave_0 0 rfl ?_
  refine x_gi 1 1 rfl (sc_227 hG) (by decide) (C := RX1) (T := TX1) (N := 2) rfl in_X1 (by decide) rfl wf_220 dX1_leave_1 ?_
  refine x_bipush rfl dX1_leave_4 ?_
  refine x_icge (tgt := 29) dX1_leave_6 (by decide) (rH _ _) (hp_rc rfl) (fun hc1 => ?_) (fun hc1 => ?_)
  · replace h := hp_if hc1 h
    cases h
    exact x_vret rH dX1_leave_29
  · replace h := hp_it hc1 h
    refine x_aload_n dX1_leave_9 0 rfl ?_
    refine x_getr 0 (sc_227 hG) (by decide) (C := RX1) (T := TX1) (N := 2) rfl in_X1 (by decide) rfl wf_219 dX1_leave_10 ?_
    refine x_aload_n dX1_leave_13 0 rfl ?_
    refine x_gi 1 1 rfl (sc_227 hG) (by decide) (C := RX1) (T := TX1) (N := 2) rfl in_X1 (by decide) rfl wf_220 dX1_leave_14 ?_
    refine x_iload_n dX1_leave_17 1 rfl ?_
    obtain ⟨b2, h⟩ := hp_ck_e h
    obtain ⟨H3, eH3⟩ : ∃ z : hp_H, z = hp_up H 228 (H 227 1) v1 := ⟨_, rfl⟩
    replace h := hp_let_e eH3 h
    have rH3 := hp_ine eH3 (hp_in_up rH r1)
    refine x_ias 16 rfl eH3 (sc_228 hG) (by decide) (Nat.le_of_ble_eq_true rfl) b2 dX1_leave_18 ?_
    refine x_aload_n dX1_leave_19 0 rfl ?_
    refine x_dup rfl dX1_leave_20 ?_
    refine x_gi 1 1 rfl (sc_227 hG) (by decide) (C := RX1) (T := TX1) (N := 2) rfl in_X1 (by decide) rfl wf_220 dX1_leave_21 ?_
    refine x_iconst dX1_leave_24 ?_
    refine x_iadd dX1_leave_25 ?_
    obtain ⟨H4, eH4⟩ : ∃ z : hp_H, z = hp_up H3 227 1 (hp_w ((H3 227 1) + 1)) := ⟨_, rfl⟩
    replace h := hp_let_e eH4 h
    have rH4 := hp_ine eH4 (hp_in_up rH3 (hp_rw _))
    refine x_pi 1 1 rfl tyX1 eH4 (sc_227 hG) (by decide) (C := RX1) (T := TX1) (N := 2) rfl in_X1 tyX1_ok nmX1 (by decide) rfl rfl rfl wf_220 dX1_leave_26 ?_
    cases h
    exact x_vret rH4 dX1_leave_29
set_option maxRecDepth 100000 in
theorem ok_X1_given {G : hp_G} (hG : hp_sh G = hp_shc) {l : Launch} : ∀ (n : Nat) (v2 v3 v4 : Int) (H : hp_H), hp_r v2 → hp_r v3 → hp_r v4 → hp_in H → ∀ x : Int × hp_H, f_X1_given n v2 v3 v4 H = some x → hp_M G l yX1_given cX1_given 6 (some .int) (hp_rm (2 * n + 2)) [.ref (hp_ad G 227), .ref (hp_ad G 15), .int (hp_I v2), .int (hp_I v3), .int (hp_I v4)] H (some (.int (hp_I x.1))) x.2 (hp_r x.1 ∧ hp_in x.2) := by
  intro n
  induction n with
  | zero =>
    intro v2 v3 v4 H r2 r3 r4 rH x h
    exact hp_no h
  | succ n ih =>
    intro v2 v3 v4 H r2 r3 r4 rH x h
    obtain ⟨r, H'⟩ := x
    unfold f_X1_given at h
    refine hp_body "HeelPost$Asks" (by decide) rfl ⟨rfl, rfl⟩ (Nat.le_of_ble_eq_true rfl) ?_
    show hp_R G l cX1_given 6 (some .int) "HeelPost$Asks" (hp_rm (2 * (n + 1) + 2)) (some (.int (hp_I r))) H' (hp_r r ∧ hp_in H') 0 [(0, .ref (hp_ad G 227)), (1, .ref (hp_ad G 15)), (2, .int (hp_I v2)), (3, .int (hp_I v3)), (4, .int (hp_I v4))] [] H
    refine x_iload dX1_given_0 4 rfl ?_
    refine x_bipush rfl dX1_given_2 ?_
    refine x_icle (tgt := 9) dX1_given_4 (by decide) r4 (hp_rc rfl) (fun hc1 => ?_) (fun hc1 => ?_)
    · replace h := hp_if hc1 h
      refine x_aload_n dX1_given_9 0 rfl ?_
      refine x_iload_n dX1_given_10 3 rfl ?_
      obtain ⟨H3, g2, h⟩ := hp_b1_e h
      refine x_ivv (As := [.int (hp_I v3)]) (ok_X1_leave hG v3 H r3 rH _ g2) cal_X1_leave (sc_227 hG) (by decide) (C := RX1) (T := TX1) (N := 2) rfl rfl ins_X1_leave sel_X1_leave wm_825 (by omega) rfl rfl (Nat.le_of_ble_eq_true rfl) dX1_given_11 (fun z9 => ?_)
      have rH3 := z9
      refine x_iload dX1_given_14 4 rfl ?_
      refine x_iconst dX1_given_16 ?_
      refine x_iadd dX1_given_17 ?_
      obtain ⟨v5_4, ev5_4⟩ : ∃ z : Int, z = (hp_w (v4 + 1)) := ⟨_, rfl⟩
      replace h := hp_let_e ev5_4 h
      have rv5_4 := hp_re ev5_4 (hp_rw _)
      refine x_isE (L' := [(5, .int (hp_I v5_4)), (0, .ref (hp_ad G 227)), (1, .ref (hp_ad G 15)), (2, .int (hp_I v2)), (3, .int (hp_I v3)), (4, .int (hp_I v4))]) ev5_4 dX1_given_18 (by decide) rfl ?_
      refine x_iload_n dX1_given_20 4 rfl ?_
      by_cases hc5 : v3 = 10
      · replace h := hp_it hc5 h
        refine x_tabin (tgt := 96) 10 dX1_given_21 r3 hc5 (by decide) (by decide) rfl (by decide) ?_
        refine x_aload_n dX1_given_96 2 rfl ?_
        refine x_getr (r := 19) 9 (tw_0 (tw_at15 hG)) (tw_p (tw_at15 hG)) (C := RX6) (T := TX6) (N := 12) rfl in_X6 (by decide) rfl wf_99 dX1_given_97 ?_
        refine x_iload_n dX1_given_100 3 rfl ?_
        obtain ⟨b6, h⟩ := hp_ck_e h
        refine x_ia 6 rfl (sc_19 hG) (by decide) (Nat.le_of_ble_eq_true rfl) b6 dX1_given_101 ?_
        cases h
        exact x_iret ⟨(rH3 _ _), rH3⟩ dX1_given_102
      replace h := hp_if hc5 h
      by_cases hc7 : v3 = 11
      · replace h := hp_it hc7 h
        refine x_tabin (tgt := 103) 11 dX1_given_21 r3 hc7 (by decide) (by decide) rfl (by decide) ?_
        refine x_aload_n dX1_given_103 1 rfl ?_
        refine x_aload_n dX1_given_104 2 rfl ?_
        refine x_iload_n dX1_given_105 3 rfl ?_
        refine x_bipush rfl dX1_given_106 ?_
        refine x_iload dX1_given_108 0 rfl ?_
        obtain ⟨c9, H10, g8, h⟩ := hp_b2_e h
        refine x_ivi (As := [.ref (hp_ad G 15), .int (hp_I v2), .int (hp_I 10), .int (hp_I v5_4)]) (ih v2 10 v5_4 H3 r2 (hp_rc rfl) rv5_4 rH3 _ g8) cal_X1_given (sc_227 hG) (by decide) (C := RX1) (T := TX1) (N := 2) rfl rfl ins_X1_given sel_X1_given wm_821 (by omega) rfl rfl (Nat.le_of_ble_eq_true rfl) dX1_given_110 (fun z9 => ?_)
        obtain ⟨rc9, rH10⟩ := z9
        refine x_aload_n dX1_given_113 1 rfl ?_
        refine x_aload_n dX1_given_114 2 rfl ?_
        refine x_iload_n dX1_given_115 3 rfl ?_
        refine x_iconst dX1_given_116 ?_
        refine x_iload dX1_given_117 0 rfl ?_
        obtain ⟨c12, H13, g11, h⟩ := hp_b2_e h
        refine x_ivi (As := [.ref (hp_ad G 15), .int (hp_I v2), .int (hp_I 1), .int (hp_I v5_4)]) (ok_X1_asked hG (2 * n + 2) (f_X1_given n) ih v2 1 v5_4 H10 r2 (hp_rc rfl) rv5_4 rH10 _ g11) cal_X1_asked (sc_227 hG) (by decide) (C := RX1) (T := TX1) (N := 2) rfl rfl ins_X1_asked sel_X1_asked wm_813 (by omega) rfl rfl (Nat.le_of_ble_eq_true rfl) dX1_given_119 (fun z9 => ?_)
        obtain ⟨rc12, rH13⟩ := z9
        refine x_iadd dX1_given_122 ?_
        cases h
        exact x_iret ⟨(hp_rw _), rH13⟩ dX1_given_123
      replace h := hp_if hc7 h
      by_cases hc14 : v3 = 12
      · replace h := hp_it hc14 h
        refine x_tabin (tgt := 124) 12 dX1_given_21 r3 hc14 (by decide) (by decide) rfl (by decide) ?_
        refine x_aload_n dX1_given_124 1 rfl ?_
        refine x_aload_n dX1_given_125 2 rfl ?_
        refine x_iload_n dX1_given_126 3 rfl ?_
        refine x_bipush rfl dX1_given_127 ?_
        refine x_iload dX1_given_129 0 rfl ?_
        obtain ⟨c16, H17, g15, h⟩ := hp_b2_e h
        refine x_ivi (As := [.ref (hp_ad G 15), .int (hp_I v2), .int (hp_I 11), .int (hp_I v5_4)]) (ih v2 11 v5_4 H3 r2 (hp_rc rfl) rv5_4 rH3 _ g15) cal_X1_given (sc_227 hG) (by decide) (C := RX1) (T := TX1) (N := 2) rfl rfl ins_X1_given sel_X1_given wm_821 (by omega) rfl rfl (Nat.le_of_ble_eq_true rfl) dX1_given_131 (fun z9 => ?_)
        obtain ⟨rc16, rH17⟩ := z9
        refine x_ineg dX1_given_134 ?_
        cases h
        exact x_iret ⟨(hp_rw _), rH17⟩ dX1_given_135
      replace h := hp_if hc14 h
      by_cases hc18 : v3 = 13
      · replace h := hp_it hc18 h
        refine x_tabin (tgt := 136) 13 dX1_given_21 r3 hc18 (by decide) (by decide) rfl (by decide) ?_
        refine x_aload_n dX1_given_136 1 rfl ?_
        refine x_aload_n dX1_given_137 2 rfl ?_
        refine x_iload_n dX1_given_138 3 rfl ?_
        refine x_bipush rfl dX1_given_139 ?_
        refine x_iload dX1_given_141 0 rfl ?_
        obtain ⟨c20, H21, g19, h⟩ := hp_b2_e h
        refine x_ivi (As := [.ref (hp_ad G 15), .int (hp_I v2), .int (hp_I 10), .int (hp_I v5_4)]) (ih v2 10 v5_4 H3 r2 (hp_rc rfl) rv5_4 rH3 _ g19) cal_X1_given (sc_227 hG) (by decide) (C := RX1) (T := TX1) (N := 2) rfl rfl ins_X1_given sel_X1_given wm_821 (by omega) rfl rfl (Nat.le_of_ble_eq_true rfl) dX1_given_143 (fun z9 => ?_)
        obtain ⟨rc20, rH21⟩ := z9
        refine x_bipush rfl dX1_given_146 ?_
        refine x_isub dX1_given_148 ?_
        cases h
        exact x_iret ⟨(hp_rw _), rH21⟩ dX1_given_149
      replace h := hp_if hc18 h
      by_cases hc22 : v3 = 14
      · replace h := hp_it hc22 h
        refine x_tabin (tgt := 150) 14 dX1_given_21 r3 hc22 (by decide) (by decide) rfl (by decide) ?_
        refine x_aload_n dX1_given_150 1 rfl ?_
        refine x_aload_n dX1_given_151 2 rfl ?_
        refine x_iload_n dX1_given_152 3 rfl ?_
        refine x_bipush rfl dX1_given_153 ?_
        refine x_iload dX1_given_155 0 rfl ?_
        obtain ⟨c24, H25, g23, h⟩ := hp_b2_e h
        refine x_ivi (As := [.ref (hp_ad G 15), .int (hp_I v2), .int (hp_I 13), .int (hp_I v5_4)]) (ih v2 13 v5_4 H3 r2 (hp_rc rfl) rv5_4 rH3 _ g23) cal_X1_given (sc_227 hG) (by decide) (C := RX1) (T := TX1) (N := 2) rfl rfl ins_X1_given sel_X1_given wm_821 (by omega) rfl rfl (Nat.le_of_ble_eq_true rfl) dX1_given_157 (fun z9 => ?_)
        obtain ⟨rc24, rH25⟩ := z9
        refine x_iconst dX1_given_160 ?_
        refine x_imul dX1_given_161 ?_
        cases h
        exact x_iret ⟨(hp_rw _), rH25⟩ dX1_given_162
      replace h := hp_if hc22 h
      by_cases hc26 : v3 = 20
      · replace h := hp_it hc26 h
        refine x_tabin (tgt := 163) 20 dX1_given_21 r3 hc26 (by decide) (by decide) rfl (by decide) ?_
        refine x_iload_n dX1_given_163 3 rfl ?_
        cases h
        exact x_iret ⟨r2, rH3⟩ dX1_given_164
      replace h := hp_if hc26 h
      by_cases hc27 : v3 = 21
      · replace h := hp_it hc27 h
        refine x_tabin (tgt := 165) 21 dX1_given_21 r3 hc27 (by decide) (by decide) rfl (by decide) ?_
        refine x_aload_n dX1_given_165 1 rfl ?_
        refine x_aload_n dX1_given_166 2 rfl ?_
        refine x_iload_n dX1_given_167 3 rfl ?_
        refine x_bipush rfl dX1_given_168 ?_
        refine x_iload dX1_given_170 0 rfl ?_
        obtain ⟨c29, H30, g28, h⟩ := hp_b2_e h
        refine x_ivi (As := [.ref (hp_ad G 15), .int (hp_I v2), .int (hp_I 20), .int (hp_I v5_4)]) (ih v2 20 v5_4 H3 r2 (hp_rc rfl) rv5_4 rH3 _ g28) cal_X1_given (sc_227 hG) (by decide) (C := RX1) (T := TX1) (N := 2) rfl rfl ins_X1_given sel_X1_given wm_821 (by omega) rfl rfl (Nat.le_of_ble_eq_true rfl) dX1_given_172 (fun z9 => ?_)
        obtain ⟨rc29, rH30⟩ := z9
        refine x_aload_n dX1_given_175 2 rfl ?_
        refine x_iload_n dX1_given_176 3 rfl ?_
        refine x_iconst dX1_given_177 ?_
        obtain ⟨c32, g31, h⟩ := hp_b1_e h
        refine x_ivi (As := [.int (hp_I v2), .int (hp_I 0)]) (ok_X6_whereIs hG 15 v2 0 H30 (tw_at15 hG) r2 (hp_rc rfl) rH30 _ g31) cal_X6_whereIs (tw_0 (tw_at15 hG)) (tw_p (tw_at15 hG)) (C := RX6) (T := TX6) (N := 12) rfl rfl ins_X6_whereIs sel_X6_whereIs wm_829 (by omega) rfl rfl (Nat.le_of_ble_eq_true rfl) dX1_given_178 (fun z9 => ?_)
        have rc32 := z9
        refine x_iadd dX1_given_181 ?_
        cases h
        exact x_iret ⟨(hp_rw _), rH30⟩ dX1_given_182
      replace h := hp_if hc27 h
      by_cases hc33 : v3 = 22
      · replace h := hp_it hc33 h
        refine x_tabin (tgt := 183) 22 dX1_given_21 r3 hc33 (by decide) (by decide) rfl (by decide) ?_
        refine x_aload_n dX1_given_183 1 rfl ?_
        refine x_aload_n dX1_given_184 2 rfl ?_
        refine x_iload_n dX1_given_185 3 rfl ?_
        refine x_bipush rfl dX1_given_186 ?_
        refine x_iload dX1_given_188 0 rfl ?_
        obtain ⟨c35, H36, g34, h⟩ := hp_b2_e h
        refine x_ivi (As := [.ref (hp_ad G 15), .int (hp_I v2), .int (hp_I 21), .int (hp_I v5_4)]) (ih v2 21 v5_4 H3 r2 (hp_rc rfl) rv5_4 rH3 _ g34) cal_X1_given (sc_227 hG) (by decide) (C := RX1) (T := TX1) (N := 2) rfl rfl ins_X1_given sel_X1_given wm_821 (by omega) rfl rfl (Nat.le_of_ble_eq_true rfl) dX1_given_190 (fun z9 => ?_)
        obtain ⟨rc35, rH36⟩ := z9
        refine x_sipush rfl dX1_given_193 ?_
        refine x_isub dX1_given_196 ?_
        cases h
        exact x_iret ⟨(hp_rw _), rH36⟩ dX1_given_197
      replace h := hp_if hc33 h
      by_cases hc37 : v3 = 23
      · replace h := hp_it hc37 h
        refine x_tabin (tgt := 198) 23 dX1_given_21 r3 hc37 (by decide) (by decide) rfl (by decide) ?_
        refine x_aload_n dX1_given_198 1 rfl ?_
        refine x_aload_n dX1_given_199 2 rfl ?_
        refine x_iload_n dX1_given_200 3 rfl ?_
        refine x_bipush rfl dX1_given_201 ?_
        refine x_iload dX1_given_203 0 rfl ?_
        obtain ⟨c39, H40, g38, h⟩ := hp_b2_e h
        refine x_ivi (As := [.ref (hp_ad G 15), .int (hp_I v2), .int (hp_I 20), .int (hp_I v5_4)]) (ih v2 20 v5_4 H3 r2 (hp_rc rfl) rv5_4 rH3 _ g38) cal_X1_given (sc_227 hG) (by decide) (C := RX1) (T := TX1) (N := 2) rfl rfl ins_X1_given sel_X1_given wm_821 (by omega) rfl rfl (Nat.le_of_ble_eq_true rfl) dX1_given_205 (fun z9 => ?_)
        obtain ⟨rc39, rH40⟩ := z9
        refine x_aload_n dX1_given_208 1 rfl ?_
        refine x_aload_n dX1_given_209 2 rfl ?_
        refine x_iload_n dX1_given_210 3 rfl ?_
        refine x_iconst dX1_given_211 ?_
        refine x_iload dX1_given_212 0 rfl ?_
        obtain ⟨c42, H43, g41, h⟩ := hp_b2_e h
        refine x_ivi (As := [.ref (hp_ad G 15), .int (hp_I v2), .int (hp_I 0), .int (hp_I v5_4)]) (ok_X1_asked hG (2 * n + 2) (f_X1_given n) ih v2 0 v5_4 H40 r2 (hp_rc rfl) rv5_4 rH40 _ g41) cal_X1_asked (sc_227 hG) (by decide) (C := RX1) (T := TX1) (N := 2) rfl rfl ins_X1_asked sel_X1_asked wm_813 (by omega) rfl rfl (Nat.le_of_ble_eq_true rfl) dX1_given_214 (fun z9 => ?_)
        obtain ⟨rc42, rH43⟩ := z9
        refine x_isub dX1_given_217 ?_
        cases h
        exact x_iret ⟨(hp_rw _), rH43⟩ dX1_given_218
      replace h := hp_if hc37 h
      by_cases hc44 : v3 = 24
      · replace h := hp_it hc44 h
        refine x_tabin (tgt := 219) 24 dX1_given_21 r3 hc44 (by decide) (by decide) rfl (by decide) ?_
        refine x_aload_n dX1_given_219 1 rfl ?_
        refine x_aload_n dX1_given_220 2 rfl ?_
        refine x_iload_n dX1_given_221 3 rfl ?_
        refine x_bipush rfl dX1_given_222 ?_
        refine x_iload dX1_given_224 0 rfl ?_
        obtain ⟨c46, H47, g45, h⟩ := hp_b2_e h
        refine x_ivi (As := [.ref (hp_ad G 15), .int (hp_I v2), .int (hp_I 21), .int (hp_I v5_4)]) (ih v2 21 v5_4 H3 r2 (hp_rc rfl) rv5_4 rH3 _ g45) cal_X1_given (sc_227 hG) (by decide) (C := RX1) (T := TX1) (N := 2) rfl rfl ins_X1_given sel_X1_given wm_821 (by omega) rfl rfl (Nat.le_of_ble_eq_true rfl) dX1_given_226 (fun z9 => ?_)
        obtain ⟨rc46, rH47⟩ := z9
        refine x_iconst dX1_given_229 ?_
        refine x_imul dX1_given_230 ?_
        cases h
        exact x_iret ⟨(hp_rw _), rH47⟩ dX1_given_231
      replace h := hp_if hc44 h
      have kd : hp_R G l cX1_given 6 (some .int) "HeelPost$Asks" (hp_rm (2 * (n + 1) + 2)) (some (.int (hp_I r))) H' (hp_r r ∧ hp_in H') 232 [(5, .int (hp_I v5_4)), (0, .ref (hp_ad G 227)), (1, .ref (hp_ad G 15)), (2, .int (hp_I v2)), (3, .int (hp_I v3)), (4, .int (hp_I v4))] [] H3 := by
        refine x_iconst dX1_given_232 ?_
        cases h
        exact x_iret ⟨(hp_rc rfl), rH3⟩ dX1_given_233
      by_cases hc48 : v3 = 15
      · exact x_tabin (tgt := 232) 15 dX1_given_21 r3 hc48 (by decide) (by decide) rfl (by decide) kd
      by_cases hc49 : v3 = 16
      · exact x_tabin (tgt := 232) 16 dX1_given_21 r3 hc49 (by decide) (by decide) rfl (by decide) kd
      by_cases hc50 : v3 = 17
      · exact x_tabin (tgt := 232) 17 dX1_given_21 r3 hc50 (by decide) (by decide) rfl (by decide) kd
      by_cases hc51 : v3 = 18
      · exact x_tabin (tgt := 232) 18 dX1_given_21 r3 hc51 (by decide) (by decide) rfl (by decide) kd
      by_cases hc52 : v3 = 19
      · exact x_tabin (tgt := 232) 19 dX1_given_21 r3 hc52 (by decide) (by decide) rfl (by decide) kd
      exact x_tabout (tgt := 232) dX1_given_21 r3 (by omega) (by decide) kd
    · replace h := hp_it hc1 h
      refine x_iconst dX1_given_7 ?_
      cases h
      exact x_iret ⟨(hp_rc rfl), rH⟩ dX1_given_8
set_option maxRecDepth 100000 in
theorem ok_X1_put {G : hp_G} (hG : hp_sh G = hp_shc) {l : Launch} (v2 : Int) (v3 : Int) (H : hp_H) (r2 : hp_r v2) (r3 : hp_r v3) (rH : hp_in H) (x : Int × hp_H) (h : f_X1_put v2 v3 H = some x) : hp_M G l yX1_put cX1_put 4 (some .int) (hp_rm 32) [.ref (hp_ad G 227), .ref (hp_ad G 15), .int (hp_I v2), .int (hp_I v3)] H (some (.int (hp_I x.1))) x.2 (hp_r x.1 ∧ hp_in x.2) := by
  obtain ⟨r, H'⟩ := x
  unfold f_X1_put at h
  refine hp_body "HeelPost$Asks" (by decide) rfl ⟨rfl, rfl⟩ (Nat.le_of_ble_eq_true rfl) ?_
  show hp_R G l cX1_put 4 (some .int) "HeelPost$Asks" (hp_rm 32) (some (.int (hp_I r))) H' (hp_r r ∧ hp_in H') 0 [(0, .ref (hp_ad G 227)), (1, .ref (hp_ad G 15)), (2, .int (hp_I v2)), (3, .int (hp_I v3))] [] H
  refine x_aload_n dX1_put_0 0 rfl ?_
  refine x_iconst dX1_put_1 ?_
  obtain ⟨H1, eH1⟩ : ∃ z : hp_H, z = hp_up H 227 1 0 := ⟨_, rfl⟩
  replace h := hp_let_e eH1 h
  have rH1 := hp_ine eH1 (hp_in_up rH (hp_rc rfl))
  refine x_pi 1 1 rfl tyX1 eH1 (sc_227 hG) (by decide) (C := RX1) (T := TX1) (N := 2) rfl in_X1 tyX1_ok nmX1 (by decide) rfl rfl rfl wf_220 dX1_put_2 ?_
  refine x_aload_n dX1_put_5 0 rfl ?_
  refine x_aload_n dX1_put_6 1 rfl ?_
  refine x_iload_n dX1_put_7 2 rfl ?_
  refine x_iload_n dX1_put_8 3 rfl ?_
  refine x_iconst dX1_put_9 ?_
  obtain ⟨c3, H4, g2, h⟩ := hp_b2_e h
  refine x_ivi (As := [.ref (hp_ad G 15), .int (hp_I v2), .int (hp_I v3), .int (hp_I 0)]) (ok_X1_asked hG 30 (f_X1_given 14) (ok_X1_given hG 14) v2 v3 0 H1 r2 r3 (hp_rc rfl) rH1 _ g2) cal_X1_asked (sc_227 hG) (by decide) (C := RX1) (T := TX1) (N := 2) rfl rfl ins_X1_asked sel_X1_asked wm_813 (by decide) rfl rfl (Nat.le_of_ble_eq_true rfl) dX1_put_10 (fun z9 => ?_)
  obtain ⟨rc3, rH4⟩ := z9
  cases h
  exact x_iret ⟨rc3, rH4⟩ dX1_put_13
