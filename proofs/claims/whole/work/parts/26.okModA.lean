/-! the bytecode does what the functions say: made by program (wip/whole/gen.py) -/
set_option maxRecDepth 100000 in
theorem ok_X8_in {G : hp_G} (hG : hp_sh G = hp_shm) {l : Launch} (v0 : Int) (v2 : Int) (v4 : Int) (H : hp_H) (r0 : hp_rl v0) (r2 : hp_rl v2) (r4 : hp_rl v4) (rH : hp_in H) (r : Int) (h : f_X8_in v0 v2 v4 H = some r) : hp_M G l yX8_in cX8_in 6 (some .boolean) (hp_rm 0) [.long (hp_J v0), .long (hp_J v2), .long (hp_J v4)] H (some (.int (hp_I r))) H (hp_r r) := by
  unfold f_X8_in at h
  refine hp_body "HeelPostModel" (by decide) rfl ⟨rfl, rfl⟩ (Nat.le_of_ble_eq_true rfl) ?_
  show hp_R G l cX8_in 6 (some .boolean) "HeelPostModel" (hp_rm 0) (some (.int (hp_I r))) H (hp_r r) 0 [(0, .long (hp_J v0)), (2, .long (hp_J v2)), (4, .long (hp_J v4))] [] H
  refine x_lload_n dX8_in_0 0 rfl ?_
  refine x_lload_n dX8_in_1 1 rfl ?_
  refine x_lcmp r0 r2 dX8_in_2 ?_
  refine x_iflt (tgt := 17) dX8_in_3 (by decide) (hp_rcmp _ _) (fun hc1 => ?_) (fun hc1 => ?_)
  · replace h := hp_it hc1 h
    refine x_iconst dX8_in_17 ?_
    cases h
    exact x_zret (hp_rc rfl) (Or.inl rfl) dX8_in_18
  · replace h := hp_if hc1 h
    refine x_lload_n dX8_in_6 0 rfl ?_
    refine x_lload dX8_in_7 2 rfl ?_
    refine x_lcmp r0 r4 dX8_in_9 ?_
    refine x_ifgt (tgt := 17) dX8_in_10 (by decide) (hp_rcmp _ _) (fun hc2 => ?_) (fun hc2 => ?_)
    · replace h := hp_it hc2 h
      refine x_iconst dX8_in_17 ?_
      cases h
      exact x_zret (hp_rc rfl) (Or.inl rfl) dX8_in_18
    · replace h := hp_if hc2 h
      refine x_iconst dX8_in_13 ?_
      refine x_goto (tgt := 18) dX8_in_14 (by decide) ?_
      cases h
      exact x_zret (hp_rc rfl) (Or.inr rfl) dX8_in_18
set_option maxRecDepth 100000 in
theorem ok_X8_finding {G : hp_G} (hG : hp_sh G = hp_shm) {l : Launch} (v1 : Int) (H : hp_H) (r1 : hp_r v1) (rH : hp_in H) (x : Int × hp_H) (h : f_X8_finding v1 H = some x) : hp_M G l yX8_finding cX8_finding 2 (some .int) (hp_rm 0) [.ref (hp_ad G 0), .int (hp_I v1)] H (some (.int (hp_I x.1))) x.2 (hp_r x.1 ∧ hp_in x.2) := by
  obtain ⟨r, H'⟩ := x
  unfold f_X8_finding at h
  refine hp_body "HeelPostModel" (by decide) rfl ⟨rfl, rfl⟩ (Nat.le_of_ble_eq_true rfl) ?_
  show hp_R G l cX8_finding 2 (some .int) "HeelPostModel" (hp_rm 0) (some (.int (hp_I r))) H' (hp_r r ∧ hp_in H') 0 [(0, .ref (hp_ad G 0)), (1, .int (hp_I v1))] [] H
  refine x_aload_n dX8_finding_0 0 rfl ?_
  refine x_iload_n dX8_finding_1 1 rfl ?_
  obtain ⟨H1, eH1⟩ : ∃ z : hp_H, z = hp_up H 0 1 v1 := ⟨_, rfl⟩
  replace h := hp_let_e eH1 h
  have rH1 := hp_ine eH1 (hp_in_up rH r1)
  refine x_pi 1 1 rfl tyX8 eH1 (sm_0 hG) (by decide) (C := RX8) (T := TX8) (N := 26) rfl in_X8 tyX8_ok nmX8 (by decide) rfl rfl rfl wf_858 dX8_finding_2 ?_
  refine x_ldc (x := (-1000010)) wc_954 rfl dX8_finding_5 ?_
  refine x_iload_n dX8_finding_7 1 rfl ?_
  refine x_isub dX8_finding_8 ?_
  cases h
  exact x_iret ⟨(hp_rw _), rH1⟩ dX8_finding_9
set_option maxRecDepth 100000 in
theorem ok_X8_isRow {G : hp_G} (hG : hp_sh G = hp_shm) {l : Launch} (v0 : Int) (H : hp_H) (r0 : hp_r v0) (rH : hp_in H) (r : Int) (h : f_X8_isRow v0 H = some r) : hp_M G l yX8_isRow cX8_isRow 1 (some .boolean) (hp_rm 1) [.int (hp_I v0)] H (some (.int (hp_I r))) H (hp_r r) := by
  unfold f_X8_isRow at h
  refine hp_body "HeelPostModel" (by decide) rfl ⟨rfl, rfl⟩ (Nat.le_of_ble_eq_true rfl) ?_
  show hp_R G l cX8_isRow 1 (some .boolean) "HeelPostModel" (hp_rm 1) (some (.int (hp_I r))) H (hp_r r) 0 [(0, .int (hp_I v0))] [] H
  refine x_iload_n dX8_isRow_0 0 rfl ?_
  refine x_i2l r0 dX8_isRow_1 ?_
  refine x_lconst (x := 0) rfl dX8_isRow_2 ?_
  refine x_ldc2 (x := 7) wc_944 rfl dX8_isRow_3 ?_
  obtain ⟨c2, g1, h⟩ := hp_b1_e h
  refine x_isi (As := [.long (hp_J v0), .long (hp_J 0), .long (hp_J 7)]) (ok_X8_in hG v0 0 7 H (hp_rrl r0) (hp_rlc rfl) (hp_rlc rfl) rH _ g1) cal_X8_in stt_X8_in wm_945 (by decide) rfl rfl (Nat.le_of_ble_eq_true rfl) dX8_isRow_6 (fun z9 => ?_)
  have rc2 := z9
  obtain ⟨b3, h⟩ := hp_ck_e h
  cases h
  exact x_zret rc2 b3 dX8_isRow_9
set_option maxRecDepth 100000 in
theorem ok_X8_row_65 {G : hp_G} (hG : hp_sh G = hp_shm) {l : Launch} {vv : Option Value} {H' : hp_H} {Z : Prop} : ∀ (n : Nat) (v1 : Int) (v3 : Int) (v4 : Int) (H : hp_H), hp_r v1 → hp_r v3 → hp_r v4 → hp_in H → ∀ Hm : hp_H, f_X8_row_65 n v1 v3 v4 H = some Hm → (hp_in Hm → hp_R G l cX8_row 5 (some .int) "HeelPostModel" (hp_rm 2) vv H' Z 91 [(3, .int (hp_I v3))] [] Hm) → hp_R G l cX8_row 5 (some .int) "HeelPostModel" (hp_rm 2) vv H' Z 65 [(0, .ref (hp_ad G 0)), (1, .int (hp_I v1)), (3, .int (hp_I v3)), (4, .int (hp_I v4))] [] H := by
  intro n
  induction n with
  | zero =>
    intro v1 v3 v4 H r1 r3 r4 rH Hm h kx
    exact hp_no h
  | succ n ih =>
    intro v1 v3 v4 H r1 r3 r4 rH Hm h kx
    unfold f_X8_row_65 at h
    refine x_iload dX8_row_65 3 rfl ?_
    refine x_bipush rfl dX8_row_67 ?_
    refine x_icge (tgt := 91) dX8_row_69 (by decide) r4 (hp_rc rfl) (fun hc17 => ?_) (fun hc17 => ?_)
    · replace h := hp_if hc17 h
      cases h
      exact x_sub [2] rfl (kx rH)
    · replace h := hp_it hc17 h
      refine x_aload_n dX8_row_72 0 rfl ?_
      refine x_getr 4 (sm_0 hG) (by decide) (C := RX8) (T := TX8) (N := 26) rfl in_X8 (by decide) rfl wf_861 dX8_row_73 ?_
      refine x_bipush rfl dX8_row_76 ?_
      refine x_iload_n dX8_row_78 1 rfl ?_
      refine x_imul dX8_row_79 ?_
      refine x_iload dX8_row_80 3 rfl ?_
      refine x_iadd dX8_row_82 ?_
      refine x_iconst dX8_row_83 ?_
      obtain ⟨b18, h⟩ := hp_ck_e h
      obtain ⟨H19, eH19⟩ : ∃ z : hp_H, z = hp_up H 3 (hp_w ((hp_w (40 * v1)) + v4)) 0 := ⟨_, rfl⟩
      replace h := hp_let_e eH19 h
      have rH19 := hp_ine eH19 (hp_in_up rH (hp_rc rfl))
      refine x_ias 320 rfl eH19 (sm_3 hG) (by decide) (Nat.le_of_ble_eq_true rfl) b18 dX8_row_84 ?_
      obtain ⟨v4_20, ev4_20⟩ : ∃ z : Int, z = (hp_w (v4 + 1)) := ⟨_, rfl⟩
      replace h := hp_let_e ev4_20 h
      have rv4_20 := hp_re ev4_20 (hp_rw _)
      refine x_iiE (L' := [(4, .int (hp_I v4_20)), (0, .ref (hp_ad G 0)), (1, .int (hp_I v1)), (3, .int (hp_I v3))]) ev4_20 dX8_row_85 3 rfl (by decide) rfl ?_
      refine x_goto (tgt := 65) dX8_row_88 (by decide) ?_
      exact x_sub [1, 2, 3, 0] rfl (ih v1 v3 v4_20 H19 r1 r3 rv4_20 rH19 _ h kx)
set_option maxRecDepth 100000 in
theorem ok_X8_row {G : hp_G} (hG : hp_sh G = hp_shm) {l : Launch} (v1 : Int) (v2 : Int) (v3 : Int) (H : hp_H) (r1 : hp_r v1) (r2 : hp_r v2) (r3 : hp_r v3) (rH : hp_in H) (x : Int × hp_H) (h : f_X8_row v1 v2 v3 H = some x) : hp_M G l yX8_row cX8_row 5 (some .int) (hp_rm 2) [.ref (hp_ad G 0), .int (hp_I v1), .int (hp_I v2), .int (hp_I v3)] H (some (.int (hp_I x.1))) x.2 (hp_r x.1 ∧ hp_in x.2) := by
  obtain ⟨r, H'⟩ := x
  unfold f_X8_row at h
  refine hp_body "HeelPostModel" (by decide) rfl ⟨rfl, rfl⟩ (Nat.le_of_ble_eq_true rfl) ?_
  show hp_R G l cX8_row 5 (some .int) "HeelPostModel" (hp_rm 2) (some (.int (hp_I r))) H' (hp_r r ∧ hp_in H') 0 [(0, .ref (hp_ad G 0)), (1, .int (hp_I v1)), (2, .int (hp_I v2)), (3, .int (hp_I v3))] [] H
  refine x_aload_n dX8_row_0 0 rfl ?_
  refine x_iconst dX8_row_1 ?_
  obtain ⟨H1, eH1⟩ : ∃ z : hp_H, z = hp_up H 0 0 0 := ⟨_, rfl⟩
  replace h := hp_let_e eH1 h
  have rH1 := hp_ine eH1 (hp_in_up rH (hp_rc rfl))
  refine x_pi 0 0 rfl tyX8 eH1 (sm_0 hG) (by decide) (C := RX8) (T := TX8) (N := 26) rfl in_X8 tyX8_ok nmX8 (by decide) rfl rfl rfl wf_857 dX8_row_2 ?_
  refine x_iload_n dX8_row_5 1 rfl ?_
  obtain ⟨c3, g2, h⟩ := hp_b1_e h
  refine x_isi (As := [.int (hp_I v1)]) (ok_X8_isRow hG v1 H1 r1 rH1 _ g2) cal_X8_isRow stt_X8_isRow wm_941 (by decide) rfl rfl (Nat.le_of_ble_eq_true rfl) dX8_row_6 (fun z9 => ?_)
  have rc3 := z9
  refine x_ifeq (tgt := 30) dX8_row_9 (by decide) rc3 (fun hc4 => ?_) (fun hc4 => ?_)
  · replace h := hp_it hc4 h
    refine x_ldc (x := (-1000001)) wc_949 rfl dX8_row_30 ?_
    cases h
    exact x_iret ⟨(hp_rc rfl), rH1⟩ dX8_row_32
  · replace h := hp_if hc4 h
    refine x_iload_n dX8_row_12 2 rfl ?_
    refine x_i2l r2 dX8_row_13 ?_
    refine x_lconst (x := 0) rfl dX8_row_14 ?_
    refine x_ldc2 (x := 2) wc_948 rfl dX8_row_15 ?_
    obtain ⟨c6, g5, h⟩ := hp_b1_e h
    refine x_isi (As := [.long (hp_J v2), .long (hp_J 0), .long (hp_J 2)]) (ok_X8_in hG v2 0 2 H1 (hp_rrl r2) (hp_rlc rfl) (hp_rlc rfl) rH1 _ g5) cal_X8_in stt_X8_in wm_945 (by decide) rfl rfl (Nat.le_of_ble_eq_true rfl) dX8_row_18 (fun z9 => ?_)
    have rc6 := z9
    refine x_ifeq (tgt := 30) dX8_row_21 (by decide) rc6 (fun hc7 => ?_) (fun hc7 => ?_)
    · replace h := hp_it hc7 h
      refine x_ldc (x := (-1000001)) wc_949 rfl dX8_row_30 ?_
      cases h
      exact x_iret ⟨(hp_rc rfl), rH1⟩ dX8_row_32
    · replace h := hp_if hc7 h
      refine x_iload_n dX8_row_24 3 rfl ?_
      refine x_bipush rfl dX8_row_25 ?_
      refine x_icle (tgt := 33) dX8_row_27 (by decide) r3 (hp_rc rfl) (fun hc8 => ?_) (fun hc8 => ?_)
      · replace h := hp_if hc8 h
        refine x_aload_n dX8_row_33 0 rfl ?_
        refine x_iconst dX8_row_34 ?_
        obtain ⟨H9, eH9⟩ : ∃ z : hp_H, z = hp_up H1 0 1 0 := ⟨_, rfl⟩
        replace h := hp_let_e eH9 h
        have rH9 := hp_ine eH9 (hp_in_up rH1 (hp_rc rfl))
        refine x_pi 1 1 rfl tyX8 eH9 (sm_0 hG) (by decide) (C := RX8) (T := TX8) (N := 26) rfl in_X8 tyX8_ok nmX8 (by decide) rfl rfl rfl wf_858 dX8_row_35 ?_
        refine x_iload_n dX8_row_38 3 rfl ?_
        refine x_ifge (tgt := 48) dX8_row_39 (by decide) r3 (fun hc10 => ?_) (fun hc10 => ?_)
        · replace h := hp_if hc10 h
          refine x_aload_n dX8_row_48 0 rfl ?_
          refine x_getr 2 (sm_0 hG) (by decide) (C := RX8) (T := TX8) (N := 26) rfl in_X8 (by decide) rfl wf_859 dX8_row_49 ?_
          refine x_iload_n dX8_row_52 1 rfl ?_
          refine x_iload_n dX8_row_53 2 rfl ?_
          obtain ⟨b14, h⟩ := hp_ck_e h
          obtain ⟨H15, eH15⟩ : ∃ z : hp_H, z = hp_up H9 1 v1 v2 := ⟨_, rfl⟩
          replace h := hp_let_e eH15 h
          have rH15 := hp_ine eH15 (hp_in_up rH9 r2)
          refine x_ias 8 rfl eH15 (sm_1 hG) (by decide) (Nat.le_of_ble_eq_true rfl) b14 dX8_row_54 ?_
          refine x_aload_n dX8_row_55 0 rfl ?_
          refine x_getr 3 (sm_0 hG) (by decide) (C := RX8) (T := TX8) (N := 26) rfl in_X8 (by decide) rfl wf_860 dX8_row_56 ?_
          refine x_iload_n dX8_row_59 1 rfl ?_
          refine x_iload_n dX8_row_60 3 rfl ?_
          obtain ⟨H16, eH16⟩ : ∃ z : hp_H, z = hp_up H15 2 v1 v3 := ⟨_, rfl⟩
          replace h := hp_let_e eH16 h
          have rH16 := hp_ine eH16 (hp_in_up rH15 r3)
          refine x_ias 8 rfl eH16 (sm_2 hG) (by decide) (Nat.le_of_ble_eq_true rfl) b14 dX8_row_61 ?_
          refine x_iconst dX8_row_62 ?_
          refine x_istore (L' := [(4, .int (hp_I 0)), (0, .ref (hp_ad G 0)), (1, .int (hp_I v1)), (2, .int (hp_I v2)), (3, .int (hp_I v3))]) dX8_row_63 (by decide) rfl ?_
          obtain ⟨H21, g22, h⟩ := hp_b1_e h
          refine x_sub [1, 2, 4, 0] rfl (ok_X8_row_65 hG 1000 v1 v3 0 H16 r1 r3 (hp_rc rfl) rH16 _ g22 ?_)
          intro rH21
          refine x_iload_n dX8_row_91 0 rfl ?_
          cases h
          exact x_iret ⟨r3, rH21⟩ dX8_row_92
        · replace h := hp_it hc10 h
          refine x_aload_n dX8_row_42 0 rfl ?_
          refine x_iconst dX8_row_43 ?_
          obtain ⟨c12, H13, g11, h⟩ := hp_b2_e h
          refine x_ivi (As := [.int (hp_I 4)]) (ok_X8_finding hG 4 H9 (hp_rc rfl) rH9 _ g11) cal_X8_finding (sm_0 hG) (by decide) (C := RX8) (T := TX8) (N := 26) rfl rfl ins_X8_finding sel_X8_finding wm_950 (by decide) rfl rfl (Nat.le_of_ble_eq_true rfl) dX8_row_44 (fun z9 => ?_)
          obtain ⟨rc12, rH13⟩ := z9
          cases h
          exact x_iret ⟨rc12, rH13⟩ dX8_row_47
      · replace h := hp_it hc8 h
        refine x_ldc (x := (-1000001)) wc_949 rfl dX8_row_30 ?_
        cases h
        exact x_iret ⟨(hp_rc rfl), rH1⟩ dX8_row_32
set_option maxRecDepth 100000 in
theorem ok_X8_set {G : hp_G} (hG : hp_sh G = hp_shm) {l : Launch} (v1 : Int) (v2 : Int) (v3 : Int) (H : hp_H) (r1 : hp_r v1) (r2 : hp_r v2) (r3 : hp_r v3) (rH : hp_in H) (x : Int × hp_H) (h : f_X8_set v1 v2 v3 H = some x) : hp_M G l yX8_set cX8_set 4 (some .int) (hp_rm 2) [.ref (hp_ad G 0), .int (hp_I v1), .int (hp_I v2), .int (hp_I v3)] H (some (.int (hp_I x.1))) x.2 (hp_r x.1 ∧ hp_in x.2) := by
  obtain ⟨r, H'⟩ := x
  unfold f_X8_set at h
  refine hp_body "HeelPostModel" (by decide) rfl ⟨rfl, rfl⟩ (Nat.le_of_ble_eq_true rfl) ?_
  show hp_R G l cX8_set 4 (some .int) "HeelPostModel" (hp_rm 2) (some (.int (hp_I r))) H' (hp_r r ∧ hp_in H') 0 [(0, .ref (hp_ad G 0)), (1, .int (hp_I v1)), (2, .int (hp_I v2)), (3, .int (hp_I v3))] [] H
  refine x_aload_n dX8_set_0 0 rfl ?_
  refine x_iconst dX8_set_1 ?_
  obtain ⟨H1, eH1⟩ : ∃ z : hp_H, z = hp_up H 0 0 0 := ⟨_, rfl⟩
  replace h := hp_let_e eH1 h
  have rH1 := hp_ine eH1 (hp_in_up rH (hp_rc rfl))
  refine x_pi 0 0 rfl tyX8 eH1 (sm_0 hG) (by decide) (C := RX8) (T := TX8) (N := 26) rfl in_X8 tyX8_ok nmX8 (by decide) rfl rfl rfl wf_857 dX8_set_2 ?_
  refine x_iload_n dX8_set_5 1 rfl ?_
  obtain ⟨c3, g2, h⟩ := hp_b1_e h
  refine x_isi (As := [.int (hp_I v1)]) (ok_X8_isRow hG v1 H1 r1 rH1 _ g2) cal_X8_isRow stt_X8_isRow wm_941 (by decide) rfl rfl (Nat.le_of_ble_eq_true rfl) dX8_set_6 (fun z9 => ?_)
  have rc3 := z9
  refine x_ifne (tgt := 15) dX8_set_9 (by decide) rc3 (fun hc4 => ?_) (fun hc4 => ?_)
  · replace h := hp_if hc4 h
    refine x_aload_n dX8_set_15 0 rfl ?_
    refine x_iconst dX8_set_16 ?_
    obtain ⟨H5, eH5⟩ : ∃ z : hp_H, z = hp_up H1 0 1 0 := ⟨_, rfl⟩
    replace h := hp_let_e eH5 h
    have rH5 := hp_ine eH5 (hp_in_up rH1 (hp_rc rfl))
    refine x_pi 1 1 rfl tyX8 eH5 (sm_0 hG) (by decide) (C := RX8) (T := TX8) (N := 26) rfl in_X8 tyX8_ok nmX8 (by decide) rfl rfl rfl wf_858 dX8_set_17 ?_
    refine x_aload_n dX8_set_20 0 rfl ?_
    refine x_getr 2 (sm_0 hG) (by decide) (C := RX8) (T := TX8) (N := 26) rfl in_X8 (by decide) rfl wf_859 dX8_set_21 ?_
    refine x_iload_n dX8_set_24 1 rfl ?_
    obtain ⟨b6, h⟩ := hp_ck_e h
    refine x_ia 8 rfl (sm_1 hG) (by decide) (Nat.le_of_ble_eq_true rfl) b6 dX8_set_25 ?_
    refine x_ifge (tgt := 35) dX8_set_26 (by decide) (rH5 _ _) (fun hc7 => ?_) (fun hc7 => ?_)
    · replace h := hp_if hc7 h
      refine x_iload_n dX8_set_35 2 rfl ?_
      refine x_i2l r2 dX8_set_36 ?_
      refine x_lconst (x := 0) rfl dX8_set_37 ?_
      refine x_aload_n dX8_set_38 0 rfl ?_
      refine x_getr 3 (sm_0 hG) (by decide) (C := RX8) (T := TX8) (N := 26) rfl in_X8 (by decide) rfl wf_860 dX8_set_39 ?_
      refine x_iload_n dX8_set_42 1 rfl ?_
      refine x_ia 8 rfl (sm_2 hG) (by decide) (Nat.le_of_ble_eq_true rfl) b6 dX8_set_43 ?_
      refine x_iconst dX8_set_44 ?_
      refine x_isub dX8_set_45 ?_
      refine x_i2l (hp_rw _) dX8_set_46 ?_
      obtain ⟨c12, g11, h⟩ := hp_b1_e h
      refine x_isi (As := [.long (hp_J v2), .long (hp_J 0), .long (hp_J (hp_w ((H5 2 v1) - 1)))]) (ok_X8_in hG v2 0 (hp_w ((H5 2 v1) - 1)) H5 (hp_rrl r2) (hp_rlc rfl) (hp_rrl (hp_rw _)) rH5 _ g11) cal_X8_in stt_X8_in wm_945 (by decide) rfl rfl (Nat.le_of_ble_eq_true rfl) dX8_set_47 (fun z9 => ?_)
      have rc12 := z9
      refine x_ifne (tgt := 59) dX8_set_50 (by decide) rc12 (fun hc13 => ?_) (fun hc13 => ?_)
      · replace h := hp_if hc13 h
        refine x_aload_n dX8_set_59 0 rfl ?_
        refine x_getr 4 (sm_0 hG) (by decide) (C := RX8) (T := TX8) (N := 26) rfl in_X8 (by decide) rfl wf_861 dX8_set_60 ?_
        refine x_bipush rfl dX8_set_63 ?_
        refine x_iload_n dX8_set_65 1 rfl ?_
        refine x_imul dX8_set_66 ?_
        refine x_iload_n dX8_set_67 2 rfl ?_
        refine x_iadd dX8_set_68 ?_
        refine x_aload_n dX8_set_69 0 rfl ?_
        refine x_getr 2 (sm_0 hG) (by decide) (C := RX8) (T := TX8) (N := 26) rfl in_X8 (by decide) rfl wf_859 dX8_set_70 ?_
        refine x_iload_n dX8_set_73 1 rfl ?_
        refine x_ia 8 rfl (sm_1 hG) (by decide) (Nat.le_of_ble_eq_true rfl) b6 dX8_set_74 ?_
        obtain ⟨m17, hm18, h⟩ := hp_b1_e h
        have kj : hp_r m17 → hp_R G l cX8_set 4 (some .int) "HeelPostModel" (hp_rm 2) (some (.int (hp_I r))) H' (hp_r r ∧ hp_in H') 99 [(0, .ref (hp_ad G 0)), (1, .int (hp_I v1)), (2, .int (hp_I v2))] [.int (hp_I m17), .int (hp_I (hp_w ((hp_w (40 * v1)) + v2))), .ref (hp_ad G 3)] H5 := by
          intro rm17
          obtain ⟨b19, h⟩ := hp_ck_e h
          obtain ⟨H20, eH20⟩ : ∃ z : hp_H, z = hp_up H5 3 (hp_w ((hp_w (40 * v1)) + v2)) m17 := ⟨_, rfl⟩
          replace h := hp_let_e eH20 h
          have rH20 := hp_ine eH20 (hp_in_up rH5 rm17)
          refine x_ias 320 rfl eH20 (sm_3 hG) (by decide) (Nat.le_of_ble_eq_true rfl) b19 dX8_set_99 ?_
          refine x_aload_n dX8_set_100 0 rfl ?_
          refine x_getr 4 (sm_0 hG) (by decide) (C := RX8) (T := TX8) (N := 26) rfl in_X8 (by decide) rfl wf_861 dX8_set_101 ?_
          refine x_bipush rfl dX8_set_104 ?_
          refine x_iload_n dX8_set_106 1 rfl ?_
          refine x_imul dX8_set_107 ?_
          refine x_iload_n dX8_set_108 2 rfl ?_
          refine x_iadd dX8_set_109 ?_
          refine x_ia 320 rfl (sm_3 hG) (by decide) (Nat.le_of_ble_eq_true rfl) b19 dX8_set_110 ?_
          cases h
          exact x_iret ⟨(rH20 _ _), rH20⟩ dX8_set_111
        clear h
        have h := hm18
        clear hm18
        refine x_ifne (tgt := 83) dX8_set_75 (by decide) (rH5 _ _) (fun hc21 => ?_) (fun hc21 => ?_)
        · replace h := hp_if hc21 h
          refine x_aload_n dX8_set_83 0 rfl ?_
          refine x_getr 2 (sm_0 hG) (by decide) (C := RX8) (T := TX8) (N := 26) rfl in_X8 (by decide) rfl wf_859 dX8_set_84 ?_
          refine x_iload_n dX8_set_87 1 rfl ?_
          refine x_ia 8 rfl (sm_1 hG) (by decide) (Nat.le_of_ble_eq_true rfl) b6 dX8_set_88 ?_
          refine x_iconst dX8_set_89 ?_
          refine x_icne (tgt := 98) dX8_set_90 (by decide) (rH5 _ _) (hp_rc rfl) (fun hc22 => ?_) (fun hc22 => ?_)
          · replace h := hp_if hc22 h
            refine x_iload_n dX8_set_98 3 rfl ?_
            cases h
            exact x_sub [0, 1, 2] rfl (kj r3)
          · replace h := hp_it hc22 h
            refine x_iload_n dX8_set_93 3 rfl ?_
            refine x_i2s dX8_set_94 ?_
            refine x_goto (tgt := 99) dX8_set_95 (by decide) ?_
            cases h
            exact x_sub [0, 1, 2] rfl (kj (hp_rw16 _))
        · replace h := hp_it hc21 h
          refine x_iload_n dX8_set_78 3 rfl ?_
          refine x_i2b dX8_set_79 ?_
          refine x_goto (tgt := 99) dX8_set_80 (by decide) ?_
          cases h
          exact x_sub [0, 1, 2] rfl (kj (hp_rw8 _))
      · replace h := hp_it hc13 h
        refine x_aload_n dX8_set_53 0 rfl ?_
        refine x_iconst dX8_set_54 ?_
        obtain ⟨c15, H16, g14, h⟩ := hp_b2_e h
        refine x_ivi (As := [.int (hp_I 2)]) (ok_X8_finding hG 2 H5 (hp_rc rfl) rH5 _ g14) cal_X8_finding (sm_0 hG) (by decide) (C := RX8) (T := TX8) (N := 26) rfl rfl ins_X8_finding sel_X8_finding wm_950 (by decide) rfl rfl (Nat.le_of_ble_eq_true rfl) dX8_set_55 (fun z9 => ?_)
        obtain ⟨rc15, rH16⟩ := z9
        cases h
        exact x_iret ⟨rc15, rH16⟩ dX8_set_58
    · replace h := hp_it hc7 h
      refine x_aload_n dX8_set_29 0 rfl ?_
      refine x_iconst dX8_set_30 ?_
      obtain ⟨c9, H10, g8, h⟩ := hp_b2_e h
      refine x_ivi (As := [.int (hp_I 1)]) (ok_X8_finding hG 1 H5 (hp_rc rfl) rH5 _ g8) cal_X8_finding (sm_0 hG) (by decide) (C := RX8) (T := TX8) (N := 26) rfl rfl ins_X8_finding sel_X8_finding wm_950 (by decide) rfl rfl (Nat.le_of_ble_eq_true rfl) dX8_set_31 (fun z9 => ?_)
      obtain ⟨rc9, rH10⟩ := z9
      cases h
      exact x_iret ⟨rc9, rH10⟩ dX8_set_34
  · replace h := hp_it hc4 h
    refine x_ldc (x := (-1000001)) wc_949 rfl dX8_set_12 ?_
    cases h
    exact x_iret ⟨(hp_rc rfl), rH1⟩ dX8_set_14
set_option maxRecDepth 100000 in
theorem ok_X8_copy_143 {G : hp_G} (hG : hp_sh G = hp_shm) {l : Launch} {vv : Option Value} {H' : hp_H} {Z : Prop} : ∀ (n : Nat) (v1 : Int) (v2 : Int) (v3 : Int) (v4 : Int) (v5 : Int) (v6 : Int) (v7 : Int) (H : hp_H), hp_r v1 → hp_r v2 → hp_r v3 → hp_r v4 → hp_r v5 → hp_r v6 → hp_r v7 → hp_in H → ∀ Hm : hp_H, f_X8_copy_143 n v1 v2 v3 v4 v5 v6 v7 H = some Hm → (hp_in Hm → hp_R G l cX8_copy 9 (some .int) "HeelPostModel" (hp_rm 2) vv H' Z 204 [(5, .int (hp_I v5))] [] Hm) → hp_R G l cX8_copy 9 (some .int) "HeelPostModel" (hp_rm 2) vv H' Z 143 [(0, .ref (hp_ad G 0)), (1, .int (hp_I v1)), (2, .int (hp_I v2)), (3, .int (hp_I v3)), (4, .int (hp_I v4)), (5, .int (hp_I v5)), (6, .int (hp_I v6)), (7, .int (hp_I v7))] [] H := by
  intro n
  induction n with
  | zero =>
    intro v1 v2 v3 v4 v5 v6 v7 H r1 r2 r3 r4 r5 r6 r7 rH Hm h kx
    exact hp_no h
  | succ n ih =>
    intro v1 v2 v3 v4 v5 v6 v7 H r1 r2 r3 r4 r5 r6 r7 rH Hm h kx
    unfold f_X8_copy_143 at h
    refine x_iload dX8_copy_143 7 rfl ?_
    refine x_iload dX8_copy_145 5 rfl ?_
    refine x_icge (tgt := 204) dX8_copy_147 (by decide) r7 r5 (fun hc41 => ?_) (fun hc41 => ?_)
    · replace h := hp_if hc41 h
      cases h
      exact x_sub [5] rfl (kx rH)
    · replace h := hp_it hc41 h
      refine x_iload dX8_copy_150 6 rfl ?_
      obtain ⟨m42, em42⟩ : ∃ z : Int, z = (if v6 = 0 then (hp_w ((hp_w (v5 - 1)) - v7)) else v7) := ⟨_, rfl⟩
      replace h := hp_let_e em42 h
      have rm42 := hp_re em42 (hp_rite (hp_rw _) r7)
      have kj : hp_R G l cX8_copy 9 (some .int) "HeelPostModel" (hp_rm 2) vv H' Z 167 [(0, .ref (hp_ad G 0)), (1, .int (hp_I v1)), (2, .int (hp_I v2)), (3, .int (hp_I v3)), (4, .int (hp_I v4)), (5, .int (hp_I v5)), (6, .int (hp_I v6)), (7, .int (hp_I v7))] [.int (hp_I m42)] H := by
        refine x_istore (L' := [(8, .int (hp_I m42)), (0, .ref (hp_ad G 0)), (1, .int (hp_I v1)), (2, .int (hp_I v2)), (3, .int (hp_I v3)), (4, .int (hp_I v4)), (5, .int (hp_I v5)), (6, .int (hp_I v6)), (7, .int (hp_I v7))]) dX8_copy_167 (by decide) rfl ?_
        refine x_aload_n dX8_copy_169 1 rfl ?_
        refine x_getr 4 (sm_0 hG) (by decide) (C := RX8) (T := TX8) (N := 26) rfl in_X8 (by decide) rfl wf_861 dX8_copy_170 ?_
        refine x_bipush rfl dX8_copy_173 ?_
        refine x_iload_n dX8_copy_175 4 rfl ?_
        refine x_imul dX8_copy_176 ?_
        refine x_iload dX8_copy_177 5 rfl ?_
        refine x_iadd dX8_copy_179 ?_
        refine x_iload dX8_copy_180 0 rfl ?_
        refine x_iadd dX8_copy_182 ?_
        refine x_aload_n dX8_copy_183 1 rfl ?_
        refine x_getr 4 (sm_0 hG) (by decide) (C := RX8) (T := TX8) (N := 26) rfl in_X8 (by decide) rfl wf_861 dX8_copy_184 ?_
        refine x_bipush rfl dX8_copy_187 ?_
        refine x_iload_n dX8_copy_189 2 rfl ?_
        refine x_imul dX8_copy_190 ?_
        refine x_iload_n dX8_copy_191 3 rfl ?_
        refine x_iadd dX8_copy_192 ?_
        refine x_iload dX8_copy_193 0 rfl ?_
        refine x_iadd dX8_copy_195 ?_
        obtain ⟨b43, h⟩ := hp_ck_e h
        refine x_ia 320 rfl (sm_3 hG) (by decide) (Nat.le_of_ble_eq_true rfl) b43 dX8_copy_196 ?_
        obtain ⟨b44, h⟩ := hp_ck_e h
        obtain ⟨H45, eH45⟩ : ∃ z : hp_H, z = hp_up H 3 (hp_w ((hp_w ((hp_w (40 * v3)) + v4)) + m42)) (H 3 (hp_w ((hp_w ((hp_w (40 * v1)) + v2)) + m42))) := ⟨_, rfl⟩
        replace h := hp_let_e eH45 h
        have rH45 := hp_ine eH45 (hp_in_up rH (rH _ _))
        refine x_ias 320 rfl eH45 (sm_3 hG) (by decide) (Nat.le_of_ble_eq_true rfl) b44 dX8_copy_197 ?_
        obtain ⟨v7_46, ev7_46⟩ : ∃ z : Int, z = (hp_w (v7 + 1)) := ⟨_, rfl⟩
        replace h := hp_let_e ev7_46 h
        have rv7_46 := hp_re ev7_46 (hp_rw _)
        refine x_iiE (L' := [(7, .int (hp_I v7_46)), (8, .int (hp_I m42)), (0, .ref (hp_ad G 0)), (1, .int (hp_I v1)), (2, .int (hp_I v2)), (3, .int (hp_I v3)), (4, .int (hp_I v4)), (5, .int (hp_I v5)), (6, .int (hp_I v6))]) ev7_46 dX8_copy_198 8 rfl (by decide) rfl ?_
        refine x_goto (tgt := 143) dX8_copy_201 (by decide) ?_
        exact x_sub [2, 3, 4, 5, 6, 7, 8, 0] rfl (ih v1 v2 v3 v4 v5 v6 v7_46 H45 r1 r2 r3 r4 r5 r6 rv7_46 rH45 _ h kx)
      clear h
      refine x_ifeq (tgt := 160) dX8_copy_152 (by decide) r6 (fun hc47 => ?_) (fun hc47 => ?_)
      · refine x_iload dX8_copy_160 5 rfl ?_
        refine x_iconst dX8_copy_162 ?_
        refine x_isub dX8_copy_163 ?_
        refine x_iload dX8_copy_164 7 rfl ?_
        refine x_isub dX8_copy_166 ?_
        have q9 := (em42.trans (if_pos hc47))
        subst q9
        exact x_sub [0, 1, 2, 3, 4, 5, 6, 7] rfl kj
      · refine x_iload dX8_copy_155 7 rfl ?_
        refine x_goto (tgt := 167) dX8_copy_157 (by decide) ?_
        have q9 := (em42.trans (if_neg hc47))
        subst q9
        exact x_sub [0, 1, 2, 3, 4, 5, 6, 7] rfl kj
set_option maxRecDepth 100000 in
theorem ok_X8_copy {G : hp_G} (hG : hp_sh G = hp_shm) {l : Launch} (v1 : Int) (v2 : Int) (v3 : Int) (v4 : Int) (v5 : Int) (H : hp_H) (r1 : hp_r v1) (r2 : hp_r v2) (r3 : hp_r v3) (r4 : hp_r v4) (r5 : hp_r v5) (rH : hp_in H) (x : Int × hp_H) (h : f_X8_copy v1 v2 v3 v4 v5 H = some x) : hp_M G l yX8_copy cX8_copy 9 (some .int) (hp_rm 2) [.ref (hp_ad G 0), .int (hp_I v1), .int (hp_I v2), .int (hp_I v3), .int (hp_I v4), .int (hp_I v5)] H (some (.int (hp_I x.1))) x.2 (hp_r x.1 ∧ hp_in x.2) := by
  obtain ⟨r, H'⟩ := x
  unfold f_X8_copy at h
  refine hp_body "HeelPostModel" (by decide) rfl ⟨rfl, rfl⟩ (Nat.le_of_ble_eq_true rfl) ?_
  show hp_R G l cX8_copy 9 (some .int) "HeelPostModel" (hp_rm 2) (some (.int (hp_I r))) H' (hp_r r ∧ hp_in H') 0 [(0, .ref (hp_ad G 0)), (1, .int (hp_I v1)), (2, .int (hp_I v2)), (3, .int (hp_I v3)), (4, .int (hp_I v4)), (5, .int (hp_I v5))] [] H
  refine x_aload_n dX8_copy_0 0 rfl ?_
  refine x_iconst dX8_copy_1 ?_
  obtain ⟨H1, eH1⟩ : ∃ z : hp_H, z = hp_up H 0 0 0 := ⟨_, rfl⟩
  replace h := hp_let_e eH1 h
  have rH1 := hp_ine eH1 (hp_in_up rH (hp_rc rfl))
  refine x_pi 0 0 rfl tyX8 eH1 (sm_0 hG) (by decide) (C := RX8) (T := TX8) (N := 26) rfl in_X8 tyX8_ok nmX8 (by decide) rfl rfl rfl wf_857 dX8_copy_2 ?_
  refine x_iload_n dX8_copy_5 1 rfl ?_
  obtain ⟨c3, g2, h⟩ := hp_b1_e h
  refine x_isi (As := [.int (hp_I v1)]) (ok_X8_isRow hG v1 H1 r1 rH1 _ g2) cal_X8_isRow stt_X8_isRow wm_941 (by decide) rfl rfl (Nat.le_of_ble_eq_true rfl) dX8_copy_6 (fun z9 => ?_)
  have rc3 := z9
  refine x_ifeq (tgt := 19) dX8_copy_9 (by decide) rc3 (fun hc4 => ?_) (fun hc4 => ?_)
  · replace h := hp_it hc4 h
    refine x_ldc (x := (-1000001)) wc_949 rfl dX8_copy_19 ?_
    cases h
    exact x_iret ⟨(hp_rc rfl), rH1⟩ dX8_copy_21
  · replace h := hp_if hc4 h
    refine x_iload_n dX8_copy_12 3 rfl ?_
    obtain ⟨c6, g5, h⟩ := hp_b1_e h
    refine x_isi (As := [.int (hp_I v3)]) (ok_X8_isRow hG v3 H1 r3 rH1 _ g5) cal_X8_isRow stt_X8_isRow wm_941 (by decide) rfl rfl (Nat.le_of_ble_eq_true rfl) dX8_copy_13 (fun z9 => ?_)
    have rc6 := z9
    refine x_ifne (tgt := 22) dX8_copy_16 (by decide) rc6 (fun hc7 => ?_) (fun hc7 => ?_)
    · replace h := hp_if hc7 h
      refine x_aload_n dX8_copy_22 0 rfl ?_
      refine x_iconst dX8_copy_23 ?_
      obtain ⟨H8, eH8⟩ : ∃ z : hp_H, z = hp_up H1 0 1 0 := ⟨_, rfl⟩
      replace h := hp_let_e eH8 h
      have rH8 := hp_ine eH8 (hp_in_up rH1 (hp_rc rfl))
      refine x_pi 1 1 rfl tyX8 eH8 (sm_0 hG) (by decide) (C := RX8) (T := TX8) (N := 26) rfl in_X8 tyX8_ok nmX8 (by decide) rfl rfl rfl wf_858 dX8_copy_24 ?_
      refine x_aload_n dX8_copy_27 0 rfl ?_
      refine x_getr 2 (sm_0 hG) (by decide) (C := RX8) (T := TX8) (N := 26) rfl in_X8 (by decide) rfl wf_859 dX8_copy_28 ?_
      refine x_iload_n dX8_copy_31 1 rfl ?_
      obtain ⟨b9, h⟩ := hp_ck_e h
      refine x_ia 8 rfl (sm_1 hG) (by decide) (Nat.le_of_ble_eq_true rfl) b9 dX8_copy_32 ?_
      refine x_iflt (tgt := 45) dX8_copy_33 (by decide) (rH8 _ _) (fun hc10 => ?_) (fun hc10 => ?_)
      · replace h := hp_it hc10 h
        refine x_aload_n dX8_copy_45 0 rfl ?_
        refine x_iconst dX8_copy_46 ?_
        obtain ⟨c12, H13, g11, h⟩ := hp_b2_e h
        refine x_ivi (As := [.int (hp_I 1)]) (ok_X8_finding hG 1 H8 (hp_rc rfl) rH8 _ g11) cal_X8_finding (sm_0 hG) (by decide) (C := RX8) (T := TX8) (N := 26) rfl rfl ins_X8_finding sel_X8_finding wm_950 (by decide) rfl rfl (Nat.le_of_ble_eq_true rfl) dX8_copy_47 (fun z9 => ?_)
        obtain ⟨rc12, rH13⟩ := z9
        cases h
        exact x_iret ⟨rc12, rH13⟩ dX8_copy_50
      · replace h := hp_if hc10 h
        refine x_aload_n dX8_copy_36 0 rfl ?_
        refine x_getr 2 (sm_0 hG) (by decide) (C := RX8) (T := TX8) (N := 26) rfl in_X8 (by decide) rfl wf_859 dX8_copy_37 ?_
        refine x_iload_n dX8_copy_40 3 rfl ?_
        obtain ⟨b14, h⟩ := hp_ck_e h
        refine x_ia 8 rfl (sm_1 hG) (by decide) (Nat.le_of_ble_eq_true rfl) b14 dX8_copy_41 ?_
        refine x_ifge (tgt := 51) dX8_copy_42 (by decide) (rH8 _ _) (fun hc15 => ?_) (fun hc15 => ?_)
        · replace h := hp_if hc15 h
          refine x_aload_n dX8_copy_51 0 rfl ?_
          refine x_getr 2 (sm_0 hG) (by decide) (C := RX8) (T := TX8) (N := 26) rfl in_X8 (by decide) rfl wf_859 dX8_copy_52 ?_
          refine x_iload_n dX8_copy_55 1 rfl ?_
          refine x_ia 8 rfl (sm_1 hG) (by decide) (Nat.le_of_ble_eq_true rfl) b9 dX8_copy_56 ?_
          refine x_aload_n dX8_copy_57 0 rfl ?_
          refine x_getr 2 (sm_0 hG) (by decide) (C := RX8) (T := TX8) (N := 26) rfl in_X8 (by decide) rfl wf_859 dX8_copy_58 ?_
          refine x_iload_n dX8_copy_61 3 rfl ?_
          refine x_ia 8 rfl (sm_1 hG) (by decide) (Nat.le_of_ble_eq_true rfl) b14 dX8_copy_62 ?_
          refine x_iceq (tgt := 72) dX8_copy_63 (by decide) (rH8 _ _) (rH8 _ _) (fun hc19 => ?_) (fun hc19 => ?_)
          · replace h := hp_it hc19 h
            refine x_iload_n dX8_copy_72 2 rfl ?_
            refine x_iflt (tgt := 121) dX8_copy_73 (by decide) r2 (fun hc20 => ?_) (fun hc20 => ?_)
            · replace h := hp_it hc20 h
              refine x_aload_n dX8_copy_121 0 rfl ?_
              refine x_iconst dX8_copy_122 ?_
              obtain ⟨c22, H23, g21, h⟩ := hp_b2_e h
              refine x_ivi (As := [.int (hp_I 2)]) (ok_X8_finding hG 2 H8 (hp_rc rfl) rH8 _ g21) cal_X8_finding (sm_0 hG) (by decide) (C := RX8) (T := TX8) (N := 26) rfl rfl ins_X8_finding sel_X8_finding wm_950 (by decide) rfl rfl (Nat.le_of_ble_eq_true rfl) dX8_copy_123 (fun z9 => ?_)
              obtain ⟨rc22, rH23⟩ := z9
              cases h
              exact x_iret ⟨rc22, rH23⟩ dX8_copy_126
            · replace h := hp_if hc20 h
              refine x_iload dX8_copy_76 4 rfl ?_
              refine x_iflt (tgt := 121) dX8_copy_78 (by decide) r4 (fun hc24 => ?_) (fun hc24 => ?_)
              · replace h := hp_it hc24 h
                refine x_aload_n dX8_copy_121 0 rfl ?_
                refine x_iconst dX8_copy_122 ?_
                obtain ⟨c26, H27, g25, h⟩ := hp_b2_e h
                refine x_ivi (As := [.int (hp_I 2)]) (ok_X8_finding hG 2 H8 (hp_rc rfl) rH8 _ g25) cal_X8_finding (sm_0 hG) (by decide) (C := RX8) (T := TX8) (N := 26) rfl rfl ins_X8_finding sel_X8_finding wm_950 (by decide) rfl rfl (Nat.le_of_ble_eq_true rfl) dX8_copy_123 (fun z9 => ?_)
                obtain ⟨rc26, rH27⟩ := z9
                cases h
                exact x_iret ⟨rc26, rH27⟩ dX8_copy_126
              · replace h := hp_if hc24 h
                refine x_iload dX8_copy_81 5 rfl ?_
                refine x_iflt (tgt := 121) dX8_copy_83 (by decide) r5 (fun hc28 => ?_) (fun hc28 => ?_)
                · replace h := hp_it hc28 h
                  refine x_aload_n dX8_copy_121 0 rfl ?_
                  refine x_iconst dX8_copy_122 ?_
                  obtain ⟨c30, H31, g29, h⟩ := hp_b2_e h
                  refine x_ivi (As := [.int (hp_I 2)]) (ok_X8_finding hG 2 H8 (hp_rc rfl) rH8 _ g29) cal_X8_finding (sm_0 hG) (by decide) (C := RX8) (T := TX8) (N := 26) rfl rfl ins_X8_finding sel_X8_finding wm_950 (by decide) rfl rfl (Nat.le_of_ble_eq_true rfl) dX8_copy_123 (fun z9 => ?_)
                  obtain ⟨rc30, rH31⟩ := z9
                  cases h
                  exact x_iret ⟨rc30, rH31⟩ dX8_copy_126
                · replace h := hp_if hc28 h
                  refine x_iload_n dX8_copy_86 2 rfl ?_
                  refine x_i2l r2 dX8_copy_87 ?_
                  refine x_iload dX8_copy_88 5 rfl ?_
                  refine x_i2l r5 dX8_copy_90 ?_
                  refine x_ladd dX8_copy_91 ?_
                  refine x_aload_n dX8_copy_92 0 rfl ?_
                  refine x_getr 3 (sm_0 hG) (by decide) (C := RX8) (T := TX8) (N := 26) rfl in_X8 (by decide) rfl wf_860 dX8_copy_93 ?_
                  refine x_iload_n dX8_copy_96 1 rfl ?_
                  refine x_ia 8 rfl (sm_2 hG) (by decide) (Nat.le_of_ble_eq_true rfl) b9 dX8_copy_97 ?_
                  refine x_i2l (rH8 _ _) dX8_copy_98 ?_
                  refine x_lcmp (hp_rwl _) (hp_rrl (rH8 _ _)) dX8_copy_99 ?_
                  refine x_ifgt (tgt := 121) dX8_copy_100 (by decide) (hp_rcmp _ _) (fun hc32 => ?_) (fun hc32 => ?_)
                  · replace h := hp_it hc32 h
                    refine x_aload_n dX8_copy_121 0 rfl ?_
                    refine x_iconst dX8_copy_122 ?_
                    obtain ⟨c34, H35, g33, h⟩ := hp_b2_e h
                    refine x_ivi (As := [.int (hp_I 2)]) (ok_X8_finding hG 2 H8 (hp_rc rfl) rH8 _ g33) cal_X8_finding (sm_0 hG) (by decide) (C := RX8) (T := TX8) (N := 26) rfl rfl ins_X8_finding sel_X8_finding wm_950 (by decide) rfl rfl (Nat.le_of_ble_eq_true rfl) dX8_copy_123 (fun z9 => ?_)
                    obtain ⟨rc34, rH35⟩ := z9
                    cases h
                    exact x_iret ⟨rc34, rH35⟩ dX8_copy_126
                  · replace h := hp_if hc32 h
                    refine x_iload dX8_copy_103 4 rfl ?_
                    refine x_i2l r4 dX8_copy_105 ?_
                    refine x_iload dX8_copy_106 5 rfl ?_
                    refine x_i2l r5 dX8_copy_108 ?_
                    refine x_ladd dX8_copy_109 ?_
                    refine x_aload_n dX8_copy_110 0 rfl ?_
                    refine x_getr 3 (sm_0 hG) (by decide) (C := RX8) (T := TX8) (N := 26) rfl in_X8 (by decide) rfl wf_860 dX8_copy_111 ?_
                    refine x_iload_n dX8_copy_114 3 rfl ?_
                    refine x_ia 8 rfl (sm_2 hG) (by decide) (Nat.le_of_ble_eq_true rfl) b14 dX8_copy_115 ?_
                    refine x_i2l (rH8 _ _) dX8_copy_116 ?_
                    refine x_lcmp (hp_rwl _) (hp_rrl (rH8 _ _)) dX8_copy_117 ?_
                    refine x_ifle (tgt := 127) dX8_copy_118 (by decide) (hp_rcmp _ _) (fun hc36 => ?_) (fun hc36 => ?_)
                    · replace h := hp_if hc36 h
                      refine x_iload_n dX8_copy_127 2 rfl ?_
                      refine x_iload dX8_copy_128 4 rfl ?_
                      obtain ⟨m40, em40⟩ : ∃ z : Int, z = (if v2 < v4 then 0 else 1) := ⟨_, rfl⟩
                      replace h := hp_let_e em40 h
                      have rm40 := hp_re em40 (hp_rite (hp_rc rfl) (hp_rc rfl))
                      have zm40 : m40 = 0 ∨ m40 = 1 := by rw [em40]; exact (hp_z01 (Or.inl rfl) (Or.inr rfl))
                      have kj : hp_R G l cX8_copy 9 (some .int) "HeelPostModel" (hp_rm 2) (some (.int (hp_I r))) H' (hp_r r ∧ hp_in H') 138 [(0, .ref (hp_ad G 0)), (1, .int (hp_I v1)), (2, .int (hp_I v2)), (3, .int (hp_I v3)), (4, .int (hp_I v4)), (5, .int (hp_I v5))] [.int (hp_I m40)] H8 := by
                        refine x_istore (L' := [(6, .int (hp_I m40)), (0, .ref (hp_ad G 0)), (1, .int (hp_I v1)), (2, .int (hp_I v2)), (3, .int (hp_I v3)), (4, .int (hp_I v4)), (5, .int (hp_I v5))]) dX8_copy_138 (by decide) rfl ?_
                        refine x_iconst dX8_copy_140 ?_
                        refine x_istore (L' := [(7, .int (hp_I 0)), (6, .int (hp_I m40)), (0, .ref (hp_ad G 0)), (1, .int (hp_I v1)), (2, .int (hp_I v2)), (3, .int (hp_I v3)), (4, .int (hp_I v4)), (5, .int (hp_I v5))]) dX8_copy_141 (by decide) rfl ?_
                        obtain ⟨H48, g49, h⟩ := hp_b1_e h
                        refine x_sub [2, 3, 4, 5, 6, 7, 1, 0] rfl (ok_X8_copy_143 hG 1000 v1 v2 v3 v4 v5 m40 0 H8 r1 r2 r3 r4 r5 rm40 (hp_rc rfl) rH8 _ g49 ?_)
                        intro rH48
                        refine x_iload dX8_copy_204 0 rfl ?_
                        cases h
                        exact x_iret ⟨r5, rH48⟩ dX8_copy_206
                      clear h
                      refine x_iclt (tgt := 137) dX8_copy_130 (by decide) r2 r4 (fun hc50 => ?_) (fun hc50 => ?_)
                      · refine x_iconst dX8_copy_137 ?_
                        have q9 := (em40.trans (if_pos hc50))
                        subst q9
                        exact x_sub [0, 1, 2, 3, 4, 5] rfl kj
                      · refine x_iconst dX8_copy_133 ?_
                        refine x_goto (tgt := 138) dX8_copy_134 (by decide) ?_
                        have q9 := (em40.trans (if_neg hc50))
                        subst q9
                        exact x_sub [0, 1, 2, 3, 4, 5] rfl kj
                    · replace h := hp_it hc36 h
                      refine x_aload_n dX8_copy_121 0 rfl ?_
                      refine x_iconst dX8_copy_122 ?_
                      obtain ⟨c38, H39, g37, h⟩ := hp_b2_e h
                      refine x_ivi (As := [.int (hp_I 2)]) (ok_X8_finding hG 2 H8 (hp_rc rfl) rH8 _ g37) cal_X8_finding (sm_0 hG) (by decide) (C := RX8) (T := TX8) (N := 26) rfl rfl ins_X8_finding sel_X8_finding wm_950 (by decide) rfl rfl (Nat.le_of_ble_eq_true rfl) dX8_copy_123 (fun z9 => ?_)
                      obtain ⟨rc38, rH39⟩ := z9
                      cases h
                      exact x_iret ⟨rc38, rH39⟩ dX8_copy_126
          · replace h := hp_if hc19 h
            refine x_aload_n dX8_copy_66 0 rfl ?_
            refine x_iconst dX8_copy_67 ?_
            obtain ⟨c52, H53, g51, h⟩ := hp_b2_e h
            refine x_ivi (As := [.int (hp_I 5)]) (ok_X8_finding hG 5 H8 (hp_rc rfl) rH8 _ g51) cal_X8_finding (sm_0 hG) (by decide) (C := RX8) (T := TX8) (N := 26) rfl rfl ins_X8_finding sel_X8_finding wm_950 (by decide) rfl rfl (Nat.le_of_ble_eq_true rfl) dX8_copy_68 (fun z9 => ?_)
            obtain ⟨rc52, rH53⟩ := z9
            cases h
            exact x_iret ⟨rc52, rH53⟩ dX8_copy_71
        · replace h := hp_it hc15 h
          refine x_aload_n dX8_copy_45 0 rfl ?_
          refine x_iconst dX8_copy_46 ?_
          obtain ⟨c17, H18, g16, h⟩ := hp_b2_e h
          refine x_ivi (As := [.int (hp_I 1)]) (ok_X8_finding hG 1 H8 (hp_rc rfl) rH8 _ g16) cal_X8_finding (sm_0 hG) (by decide) (C := RX8) (T := TX8) (N := 26) rfl rfl ins_X8_finding sel_X8_finding wm_950 (by decide) rfl rfl (Nat.le_of_ble_eq_true rfl) dX8_copy_47 (fun z9 => ?_)
          obtain ⟨rc17, rH18⟩ := z9
          cases h
          exact x_iret ⟨rc17, rH18⟩ dX8_copy_50
    · replace h := hp_it hc7 h
      refine x_ldc (x := (-1000001)) wc_949 rfl dX8_copy_19 ?_
      cases h
      exact x_iret ⟨(hp_rc rfl), rH1⟩ dX8_copy_21
set_option maxRecDepth 100000 in
theorem ok_X8_drop {G : hp_G} (hG : hp_sh G = hp_shm) {l : Launch} (v1 : Int) (H : hp_H) (r1 : hp_r v1) (rH : hp_in H) (x : Int × hp_H) (h : f_X8_drop v1 H = some x) : hp_M G l yX8_drop cX8_drop 2 (some .int) (hp_rm 2) [.ref (hp_ad G 0), .int (hp_I v1)] H (some (.int (hp_I x.1))) x.2 (hp_r x.1 ∧ hp_in x.2) := by
  obtain ⟨r, H'⟩ := x
  unfold f_X8_drop at h
  refine hp_body "HeelPostModel" (by decide) rfl ⟨rfl, rfl⟩ (Nat.le_of_ble_eq_true rfl) ?_
  show hp_R G l cX8_drop 2 (some .int) "HeelPostModel" (hp_rm 2) (some (.int (hp_I r))) H' (hp_r r ∧ hp_in H') 0 [(0, .ref (hp_ad G 0)), (1, .int (hp_I v1))] [] H
  refine x_aload_n dX8_drop_0 0 rfl ?_
  refine x_iconst dX8_drop_1 ?_
  obtain ⟨H1, eH1⟩ : ∃ z : hp_H, z = hp_up H 0 0 0 := ⟨_, rfl⟩
  replace h := hp_let_e eH1 h
  have rH1 := hp_ine eH1 (hp_in_up rH (hp_rc rfl))
  refine x_pi 0 0 rfl tyX8 eH1 (sm_0 hG) (by decide) (C := RX8) (T := TX8) (N := 26) rfl in_X8 tyX8_ok nmX8 (by decide) rfl rfl rfl wf_857 dX8_drop_2 ?_
  refine x_iload_n dX8_drop_5 1 rfl ?_
  obtain ⟨c3, g2, h⟩ := hp_b1_e h
  refine x_isi (As := [.int (hp_I v1)]) (ok_X8_isRow hG v1 H1 r1 rH1 _ g2) cal_X8_isRow stt_X8_isRow wm_941 (by decide) rfl rfl (Nat.le_of_ble_eq_true rfl) dX8_drop_6 (fun z9 => ?_)
  have rc3 := z9
  refine x_ifne (tgt := 15) dX8_drop_9 (by decide) rc3 (fun hc4 => ?_) (fun hc4 => ?_)
  · replace h := hp_if hc4 h
    refine x_aload_n dX8_drop_15 0 rfl ?_
    refine x_iconst dX8_drop_16 ?_
    obtain ⟨H5, eH5⟩ : ∃ z : hp_H, z = hp_up H1 0 1 0 := ⟨_, rfl⟩
    replace h := hp_let_e eH5 h
    have rH5 := hp_ine eH5 (hp_in_up rH1 (hp_rc rfl))
    refine x_pi 1 1 rfl tyX8 eH5 (sm_0 hG) (by decide) (C := RX8) (T := TX8) (N := 26) rfl in_X8 tyX8_ok nmX8 (by decide) rfl rfl rfl wf_858 dX8_drop_17 ?_
    refine x_aload_n dX8_drop_20 0 rfl ?_
    refine x_getr 2 (sm_0 hG) (by decide) (C := RX8) (T := TX8) (N := 26) rfl in_X8 (by decide) rfl wf_859 dX8_drop_21 ?_
    refine x_iload_n dX8_drop_24 1 rfl ?_
    obtain ⟨b6, h⟩ := hp_ck_e h
    refine x_ia 8 rfl (sm_1 hG) (by decide) (Nat.le_of_ble_eq_true rfl) b6 dX8_drop_25 ?_
    refine x_ifge (tgt := 35) dX8_drop_26 (by decide) (rH5 _ _) (fun hc7 => ?_) (fun hc7 => ?_)
    · replace h := hp_if hc7 h
      refine x_aload_n dX8_drop_35 0 rfl ?_
      refine x_getr 2 (sm_0 hG) (by decide) (C := RX8) (T := TX8) (N := 26) rfl in_X8 (by decide) rfl wf_859 dX8_drop_36 ?_
      refine x_iload_n dX8_drop_39 1 rfl ?_
      refine x_iconst dX8_drop_40 ?_
      obtain ⟨H11, eH11⟩ : ∃ z : hp_H, z = hp_up H5 1 v1 (-1) := ⟨_, rfl⟩
      replace h := hp_let_e eH11 h
      have rH11 := hp_ine eH11 (hp_in_up rH5 (hp_rc rfl))
      refine x_ias 8 rfl eH11 (sm_1 hG) (by decide) (Nat.le_of_ble_eq_true rfl) b6 dX8_drop_41 ?_
      refine x_aload_n dX8_drop_42 0 rfl ?_
      refine x_getr 3 (sm_0 hG) (by decide) (C := RX8) (T := TX8) (N := 26) rfl in_X8 (by decide) rfl wf_860 dX8_drop_43 ?_
      refine x_iload_n dX8_drop_46 1 rfl ?_
      refine x_ia 8 rfl (sm_2 hG) (by decide) (Nat.le_of_ble_eq_true rfl) b6 dX8_drop_47 ?_
      cases h
      exact x_iret ⟨(rH11 _ _), rH11⟩ dX8_drop_48
    · replace h := hp_it hc7 h
      refine x_aload_n dX8_drop_29 0 rfl ?_
      refine x_iconst dX8_drop_30 ?_
      obtain ⟨c9, H10, g8, h⟩ := hp_b2_e h
      refine x_ivi (As := [.int (hp_I 1)]) (ok_X8_finding hG 1 H5 (hp_rc rfl) rH5 _ g8) cal_X8_finding (sm_0 hG) (by decide) (C := RX8) (T := TX8) (N := 26) rfl rfl ins_X8_finding sel_X8_finding wm_950 (by decide) rfl rfl (Nat.le_of_ble_eq_true rfl) dX8_drop_31 (fun z9 => ?_)
      obtain ⟨rc9, rH10⟩ := z9
      cases h
      exact x_iret ⟨rc9, rH10⟩ dX8_drop_34
  · replace h := hp_it hc4 h
    refine x_ldc (x := (-1000001)) wc_949 rfl dX8_drop_12 ?_
    cases h
    exact x_iret ⟨(hp_rc rfl), rH1⟩ dX8_drop_14
set_option maxRecDepth 100000 in
theorem ok_X8_feed {G : hp_G} (hG : hp_sh G = hp_shm) {l : Launch} (v1 : Int) (H : hp_H) (r1 : hp_r v1) (rH : hp_in H) (x : Int × hp_H) (h : f_X8_feed v1 H = some x) : hp_M G l yX8_feed cX8_feed 2 (some .int) (hp_rm 1) [.ref (hp_ad G 0), .int (hp_I v1)] H (some (.int (hp_I x.1))) x.2 (hp_r x.1 ∧ hp_in x.2) := by
  obtain ⟨r, H'⟩ := x
  unfold f_X8_feed at h
  refine hp_body "HeelPostModel" (by decide) rfl ⟨rfl, rfl⟩ (Nat.le_of_ble_eq_true rfl) ?_
  show hp_R G l cX8_feed 2 (some .int) "HeelPostModel" (hp_rm 1) (some (.int (hp_I r))) H' (hp_r r ∧ hp_in H') 0 [(0, .ref (hp_ad G 0)), (1, .int (hp_I v1))] [] H
  refine x_aload_n dX8_feed_0 0 rfl ?_
  refine x_iconst dX8_feed_1 ?_
  obtain ⟨H1, eH1⟩ : ∃ z : hp_H, z = hp_up H 0 0 0 := ⟨_, rfl⟩
  replace h := hp_let_e eH1 h
  have rH1 := hp_ine eH1 (hp_in_up rH (hp_rc rfl))
  refine x_pi 0 0 rfl tyX8 eH1 (sm_0 hG) (by decide) (C := RX8) (T := TX8) (N := 26) rfl in_X8 tyX8_ok nmX8 (by decide) rfl rfl rfl wf_857 dX8_feed_2 ?_
  refine x_iload_n dX8_feed_5 1 rfl ?_
  refine x_i2l r1 dX8_feed_6 ?_
  refine x_lconst (x := 0) rfl dX8_feed_7 ?_
  refine x_ldc2 (x := 255) wc_971 rfl dX8_feed_8 ?_
  obtain ⟨c3, g2, h⟩ := hp_b1_e h
  refine x_isi (As := [.long (hp_J v1), .long (hp_J 0), .long (hp_J 255)]) (ok_X8_in hG v1 0 255 H1 (hp_rrl r1) (hp_rlc rfl) (hp_rlc rfl) rH1 _ g2) cal_X8_in stt_X8_in wm_945 (by decide) rfl rfl (Nat.le_of_ble_eq_true rfl) dX8_feed_11 (fun z9 => ?_)
  have rc3 := z9
  refine x_ifne (tgt := 20) dX8_feed_14 (by decide) rc3 (fun hc4 => ?_) (fun hc4 => ?_)
  · replace h := hp_if hc4 h
    refine x_aload_n dX8_feed_20 0 rfl ?_
    refine x_gi 11 11 rfl (sm_0 hG) (by decide) (C := RX8) (T := TX8) (N := 26) rfl in_X8 (by decide) rfl wf_868 dX8_feed_21 ?_
    refine x_bipush rfl dX8_feed_24 ?_
    refine x_icne (tgt := 32) dX8_feed_26 (by decide) (rH1 _ _) (hp_rc rfl) (fun hc5 => ?_) (fun hc5 => ?_)
    · replace h := hp_if hc5 h
      refine x_aload_n dX8_feed_32 0 rfl ?_
      refine x_getr 10 (sm_0 hG) (by decide) (C := RX8) (T := TX8) (N := 26) rfl in_X8 (by decide) rfl wf_867 dX8_feed_33 ?_
      refine x_aload_n dX8_feed_36 0 rfl ?_
      refine x_gi 11 11 rfl (sm_0 hG) (by decide) (C := RX8) (T := TX8) (N := 26) rfl in_X8 (by decide) rfl wf_868 dX8_feed_37 ?_
      refine x_iload_n dX8_feed_40 1 rfl ?_
      obtain ⟨b6, h⟩ := hp_ck_e h
      obtain ⟨H7, eH7⟩ : ∃ z : hp_H, z = hp_up H1 8 (H1 0 11) v1 := ⟨_, rfl⟩
      replace h := hp_let_e eH7 h
      have rH7 := hp_ine eH7 (hp_in_up rH1 r1)
      refine x_ias 120 rfl eH7 (sm_8 hG) (by decide) (Nat.le_of_ble_eq_true rfl) b6 dX8_feed_41 ?_
      refine x_aload_n dX8_feed_42 0 rfl ?_
      refine x_dup rfl dX8_feed_43 ?_
      refine x_gi 11 11 rfl (sm_0 hG) (by decide) (C := RX8) (T := TX8) (N := 26) rfl in_X8 (by decide) rfl wf_868 dX8_feed_44 ?_
      refine x_iconst dX8_feed_47 ?_
      refine x_iadd dX8_feed_48 ?_
      obtain ⟨H8, eH8⟩ : ∃ z : hp_H, z = hp_up H7 0 11 (hp_w ((H7 0 11) + 1)) := ⟨_, rfl⟩
      replace h := hp_let_e eH8 h
      have rH8 := hp_ine eH8 (hp_in_up rH7 (hp_rw _))
      refine x_pi 11 11 rfl tyX8 eH8 (sm_0 hG) (by decide) (C := RX8) (T := TX8) (N := 26) rfl in_X8 tyX8_ok nmX8 (by decide) rfl rfl rfl wf_868 dX8_feed_49 ?_
      refine x_aload_n dX8_feed_52 0 rfl ?_
      refine x_gi 11 11 rfl (sm_0 hG) (by decide) (C := RX8) (T := TX8) (N := 26) rfl in_X8 (by decide) rfl wf_868 dX8_feed_53 ?_
      cases h
      exact x_iret ⟨(rH8 _ _), rH8⟩ dX8_feed_56
    · replace h := hp_it hc5 h
      refine x_ldc (x := (-1000003)) wc_972 rfl dX8_feed_29 ?_
      cases h
      exact x_iret ⟨(hp_rc rfl), rH1⟩ dX8_feed_31
  · replace h := hp_it hc4 h
    refine x_ldc (x := (-1000001)) wc_949 rfl dX8_feed_17 ?_
    cases h
    exact x_iret ⟨(hp_rc rfl), rH1⟩ dX8_feed_19
set_option maxRecDepth 100000 in
theorem ok_X8_bad {G : hp_G} (hG : hp_sh G = hp_shm) {l : Launch} (v1 : Int) (H : hp_H) (r1 : hp_r v1) (rH : hp_in H) (H' : hp_H) (h : f_X8_bad v1 H = some H') : hp_M G l yX8_bad cX8_bad 2 none (hp_rm 0) [.ref (hp_ad G 0), .int (hp_I v1)] H none H' (hp_in H') := by
  unfold f_X8_bad at h
  refine hp_body "HeelPostModel" (by decide) rfl ⟨rfl, rfl⟩ (Nat.le_of_ble_eq_true rfl) ?_
  show hp_R G l cX8_bad 2 none "HeelPostModel" (hp_rm 0) none H' (hp_in H') 0 [(0, .ref (hp_ad G 0)), (1, .int (hp_I v1))] [] H
  refine x_aload_n dX8_bad_0 0 rfl ?_
  refine x_gi 16 16 rfl (sm_0 hG) (by decide) (C := RX8) (T := TX8) (N := 26) rfl in_X8 (by decide) rfl wf_873 dX8_bad_1 ?_
  refine x_ifne (tgt := 20) dX8_bad_4 (by decide) (rH _ _) (fun hc1 => ?_) (fun hc1 => ?_)
  · replace h := hp_if hc1 h
    cases h
    exact x_vret rH dX8_bad_20
  · replace h := hp_it hc1 h
    refine x_aload_n dX8_bad_7 0 rfl ?_
    refine x_iload_n dX8_bad_8 1 rfl ?_
    obtain ⟨H2, eH2⟩ : ∃ z : hp_H, z = hp_up H 0 16 v1 := ⟨_, rfl⟩
    replace h := hp_let_e eH2 h
    have rH2 := hp_ine eH2 (hp_in_up rH r1)
    refine x_pi 16 16 rfl tyX8 eH2 (sm_0 hG) (by decide) (C := RX8) (T := TX8) (N := 26) rfl in_X8 tyX8_ok nmX8 (by decide) rfl rfl rfl wf_873 dX8_bad_9 ?_
    refine x_aload_n dX8_bad_12 0 rfl ?_
    refine x_aload_n dX8_bad_13 0 rfl ?_
    refine x_gi 13 13 rfl (sm_0 hG) (by decide) (C := RX8) (T := TX8) (N := 26) rfl in_X8 (by decide) rfl wf_870 dX8_bad_14 ?_
    obtain ⟨H3, eH3⟩ : ∃ z : hp_H, z = hp_up H2 0 17 (H2 0 13) := ⟨_, rfl⟩
    replace h := hp_let_e eH3 h
    have rH3 := hp_ine eH3 (hp_in_up rH2 (rH2 _ _))
    refine x_pi 17 17 rfl tyX8 eH3 (sm_0 hG) (by decide) (C := RX8) (T := TX8) (N := 26) rfl in_X8 tyX8_ok nmX8 (by decide) rfl rfl rfl wf_874 dX8_bad_17 ?_
    cases h
    exact x_vret rH3 dX8_bad_20
set_option maxRecDepth 100000 in
theorem ok_X8_nextToken_165 {G : hp_G} (hG : hp_sh G = hp_shm) {l : Launch} {vv : Option Value} {H' : hp_H} {Z : Prop} : ∀ (n : Nat) (H : hp_H), hp_in H → ∀ Hm : hp_H, f_X8_nextToken_165 n  H = some Hm → (hp_in Hm → hp_R G l cX8_nextToken 1 none "HeelPostModel" (hp_rm 1) vv H' Z 255 [(0, .ref (hp_ad G 0))] [] Hm) → hp_R G l cX8_nextToken 1 none "HeelPostModel" (hp_rm 1) vv H' Z 165 [(0, .ref (hp_ad G 0))] [] H := by
  intro n
  induction n with
  | zero =>
    intro H rH Hm h kx
    exact hp_no h
  | succ n ih =>
    intro H rH Hm h kx
    unfold f_X8_nextToken_165 at h
    refine x_aload_n dX8_nextToken_165 0 rfl ?_
    refine x_gi 12 12 rfl (sm_0 hG) (by decide) (C := RX8) (T := TX8) (N := 26) rfl in_X8 (by decide) rfl wf_869 dX8_nextToken_166 ?_
    refine x_aload_n dX8_nextToken_169 0 rfl ?_
    refine x_gi 11 11 rfl (sm_0 hG) (by decide) (C := RX8) (T := TX8) (N := 26) rfl in_X8 (by decide) rfl wf_868 dX8_nextToken_170 ?_
    refine x_icge (tgt := 255) dX8_nextToken_173 (by decide) (rH _ _) (rH _ _) (fun hc12 => ?_) (fun hc12 => ?_)
    · replace h := hp_if hc12 h
      cases h
      exact x_sub [0] rfl (kx rH)
    · replace h := hp_it hc12 h
      refine x_aload_n dX8_nextToken_176 0 rfl ?_
      refine x_getr 10 (sm_0 hG) (by decide) (C := RX8) (T := TX8) (N := 26) rfl in_X8 (by decide) rfl wf_867 dX8_nextToken_177 ?_
      refine x_aload_n dX8_nextToken_180 0 rfl ?_
      refine x_gi 12 12 rfl (sm_0 hG) (by decide) (C := RX8) (T := TX8) (N := 26) rfl in_X8 (by decide) rfl wf_869 dX8_nextToken_181 ?_
      obtain ⟨b13, h⟩ := hp_ck_e h
      refine x_ia 120 rfl (sm_8 hG) (by decide) (Nat.le_of_ble_eq_true rfl) b13 dX8_nextToken_184 ?_
      refine x_i2l (rH _ _) dX8_nextToken_185 ?_
      refine x_ldc2 (x := 48) wc_992 rfl dX8_nextToken_186 ?_
      refine x_ldc2 (x := 57) wc_993 rfl dX8_nextToken_189 ?_
      obtain ⟨c15, g14, h⟩ := hp_b1_e h
      refine x_isi (As := [.long (hp_J (H 8 (H 0 12))), .long (hp_J 48), .long (hp_J 57)]) (ok_X8_in hG (H 8 (H 0 12)) 48 57 H (hp_rrl (rH _ _)) (hp_rlc rfl) (hp_rlc rfl) rH _ g14) cal_X8_in stt_X8_in wm_945 (by decide) rfl rfl (Nat.le_of_ble_eq_true rfl) dX8_nextToken_192 (fun z9 => ?_)
      have rc15 := z9
      refine x_ifeq (tgt := 255) dX8_nextToken_195 (by decide) rc15 (fun hc16 => ?_) (fun hc16 => ?_)
      · replace h := hp_it hc16 h
        cases h
        exact x_sub [0] rfl (kx rH)
      · replace h := hp_if hc16 h
        refine x_aload_n dX8_nextToken_198 0 rfl ?_
        refine x_aload_n dX8_nextToken_199 0 rfl ?_
        refine x_gi 12 12 rfl (sm_0 hG) (by decide) (C := RX8) (T := TX8) (N := 26) rfl in_X8 (by decide) rfl wf_869 dX8_nextToken_200 ?_
        refine x_aload_n dX8_nextToken_203 0 rfl ?_
        refine x_gi 13 13 rfl (sm_0 hG) (by decide) (C := RX8) (T := TX8) (N := 26) rfl in_X8 (by decide) rfl wf_870 dX8_nextToken_204 ?_
        refine x_isub dX8_nextToken_207 ?_
        refine x_iconst dX8_nextToken_208 ?_
        obtain ⟨m17, hm18, h⟩ := hp_b1_e h
        have kj : hp_r m17 → hp_R G l cX8_nextToken 1 none "HeelPostModel" (hp_rm 1) vv H' Z 239 [(0, .ref (hp_ad G 0))] [.int (hp_I m17), .ref (hp_ad G 0)] H := by
          intro rm17
          obtain ⟨H19, eH19⟩ : ∃ z : hp_H, z = hp_up H 0 15 m17 := ⟨_, rfl⟩
          replace h := hp_let_e eH19 h
          have rH19 := hp_ine eH19 (hp_in_up rH rm17)
          refine x_pi 15 15 rfl tyX8 eH19 (sm_0 hG) (by decide) (C := RX8) (T := TX8) (N := 26) rfl in_X8 tyX8_ok nmX8 (by decide) rfl rfl rfl wf_872 dX8_nextToken_239 ?_
          refine x_aload_n dX8_nextToken_242 0 rfl ?_
          refine x_dup rfl dX8_nextToken_243 ?_
          refine x_gi 12 12 rfl (sm_0 hG) (by decide) (C := RX8) (T := TX8) (N := 26) rfl in_X8 (by decide) rfl wf_869 dX8_nextToken_244 ?_
          refine x_iconst dX8_nextToken_247 ?_
          refine x_iadd dX8_nextToken_248 ?_
          obtain ⟨H20, eH20⟩ : ∃ z : hp_H, z = hp_up H19 0 12 (hp_w ((H19 0 12) + 1)) := ⟨_, rfl⟩
          replace h := hp_let_e eH20 h
          have rH20 := hp_ine eH20 (hp_in_up rH19 (hp_rw _))
          refine x_pi 12 12 rfl tyX8 eH20 (sm_0 hG) (by decide) (C := RX8) (T := TX8) (N := 26) rfl in_X8 tyX8_ok nmX8 (by decide) rfl rfl rfl wf_869 dX8_nextToken_249 ?_
          refine x_goto (tgt := 165) dX8_nextToken_252 (by decide) ?_
          exact x_sub [0] rfl (ih H20 rH20 _ h kx)
        clear h
        have h := hm18
        clear hm18
        refine x_icge (tgt := 235) dX8_nextToken_209 (by decide) (hp_rw _) (hp_rc rfl) (fun hc21 => ?_) (fun hc21 => ?_)
        · replace h := hp_if hc21 h
          refine x_aload_n dX8_nextToken_235 0 rfl ?_
          refine x_gi 15 15 rfl (sm_0 hG) (by decide) (C := RX8) (T := TX8) (N := 26) rfl in_X8 (by decide) rfl wf_872 dX8_nextToken_236 ?_
          cases h
          exact x_sub [0] rfl (kj (rH _ _))
        · replace h := hp_it hc21 h
          refine x_bipush rfl dX8_nextToken_212 ?_
          refine x_aload_n dX8_nextToken_214 0 rfl ?_
          refine x_gi 15 15 rfl (sm_0 hG) (by decide) (C := RX8) (T := TX8) (N := 26) rfl in_X8 (by decide) rfl wf_872 dX8_nextToken_215 ?_
          refine x_imul dX8_nextToken_218 ?_
          refine x_aload_n dX8_nextToken_219 0 rfl ?_
          refine x_getr 10 (sm_0 hG) (by decide) (C := RX8) (T := TX8) (N := 26) rfl in_X8 (by decide) rfl wf_867 dX8_nextToken_220 ?_
          refine x_aload_n dX8_nextToken_223 0 rfl ?_
          refine x_gi 12 12 rfl (sm_0 hG) (by decide) (C := RX8) (T := TX8) (N := 26) rfl in_X8 (by decide) rfl wf_869 dX8_nextToken_224 ?_
          refine x_ia 120 rfl (sm_8 hG) (by decide) (Nat.le_of_ble_eq_true rfl) b13 dX8_nextToken_227 ?_
          refine x_iadd dX8_nextToken_228 ?_
          refine x_bipush rfl dX8_nextToken_229 ?_
          refine x_isub dX8_nextToken_231 ?_
          refine x_goto (tgt := 239) dX8_nextToken_232 (by decide) ?_
          cases h
          exact x_sub [0] rfl (kj (hp_rw _))
set_option maxRecDepth 100000 in
theorem ok_X8_nextToken {G : hp_G} (hG : hp_sh G = hp_shm) {l : Launch}  (H : hp_H) (rH : hp_in H) (H' : hp_H) (h : f_X8_nextToken  H = some H') : hp_M G l yX8_nextToken cX8_nextToken 1 none (hp_rm 1) [.ref (hp_ad G 0)] H none H' (hp_in H') := by
  unfold f_X8_nextToken at h
  refine hp_body "HeelPostModel" (by decide) rfl ⟨rfl, rfl⟩ (Nat.le_of_ble_eq_true rfl) ?_
  show hp_R G l cX8_nextToken 1 none "HeelPostModel" (hp_rm 1) none H' (hp_in H') 0 [(0, .ref (hp_ad G 0))] [] H
  refine x_aload_n dX8_nextToken_0 0 rfl ?_
  refine x_aload_n dX8_nextToken_1 0 rfl ?_
  refine x_gi 12 12 rfl (sm_0 hG) (by decide) (C := RX8) (T := TX8) (N := 26) rfl in_X8 (by decide) rfl wf_869 dX8_nextToken_2 ?_
  obtain ⟨H1, eH1⟩ : ∃ z : hp_H, z = hp_up H 0 13 (H 0 12) := ⟨_, rfl⟩
  replace h := hp_let_e eH1 h
  have rH1 := hp_ine eH1 (hp_in_up rH (rH _ _))
  refine x_pi 13 13 rfl tyX8 eH1 (sm_0 hG) (by decide) (C := RX8) (T := TX8) (N := 26) rfl in_X8 tyX8_ok nmX8 (by decide) rfl rfl rfl wf_870 dX8_nextToken_5 ?_
  refine x_aload_n dX8_nextToken_8 0 rfl ?_
  refine x_aload_n dX8_nextToken_9 0 rfl ?_
  refine x_gi 12 12 rfl (sm_0 hG) (by decide) (C := RX8) (T := TX8) (N := 26) rfl in_X8 (by decide) rfl wf_869 dX8_nextToken_10 ?_
  refine x_aload_n dX8_nextToken_13 0 rfl ?_
  refine x_gi 11 11 rfl (sm_0 hG) (by decide) (C := RX8) (T := TX8) (N := 26) rfl in_X8 (by decide) rfl wf_868 dX8_nextToken_14 ?_
  obtain ⟨m2, hm3, h⟩ := hp_b1_e h
  have kj : hp_r m2 → hp_R G l cX8_nextToken 1 none "HeelPostModel" (hp_rm 1) none H' (hp_in H') 34 [(0, .ref (hp_ad G 0))] [.int (hp_I m2), .ref (hp_ad G 0)] H1 := by
    intro rm2
    obtain ⟨H4, eH4⟩ : ∃ z : hp_H, z = hp_up H1 0 15 m2 := ⟨_, rfl⟩
    replace h := hp_let_e eH4 h
    have rH4 := hp_ine eH4 (hp_in_up rH1 rm2)
    refine x_pi 15 15 rfl tyX8 eH4 (sm_0 hG) (by decide) (C := RX8) (T := TX8) (N := 26) rfl in_X8 tyX8_ok nmX8 (by decide) rfl rfl rfl wf_872 dX8_nextToken_34 ?_
    refine x_aload_n dX8_nextToken_37 0 rfl ?_
    refine x_aload_n dX8_nextToken_38 0 rfl ?_
    refine x_gi 12 12 rfl (sm_0 hG) (by decide) (C := RX8) (T := TX8) (N := 26) rfl in_X8 (by decide) rfl wf_869 dX8_nextToken_39 ?_
    refine x_aload_n dX8_nextToken_42 0 rfl ?_
    refine x_gi 11 11 rfl (sm_0 hG) (by decide) (C := RX8) (T := TX8) (N := 26) rfl in_X8 (by decide) rfl wf_868 dX8_nextToken_43 ?_
    obtain ⟨m5, hm6, h⟩ := hp_b1_e h
    have kj : hp_r m5 → hp_R G l cX8_nextToken 1 none "HeelPostModel" (hp_rm 1) none H' (hp_in H') 118 [(0, .ref (hp_ad G 0))] [.int (hp_I m5), .ref (hp_ad G 0)] H4 := by
      intro rm5
      obtain ⟨H7, eH7⟩ : ∃ z : hp_H, z = hp_up H4 0 14 m5 := ⟨_, rfl⟩
      replace h := hp_let_e eH7 h
      have rH7 := hp_ine eH7 (hp_in_up rH4 rm5)
      refine x_pi 14 14 rfl tyX8 eH7 (sm_0 hG) (by decide) (C := RX8) (T := TX8) (N := 26) rfl in_X8 tyX8_ok nmX8 (by decide) rfl rfl rfl wf_871 dX8_nextToken_118 ?_
      refine x_aload_n dX8_nextToken_121 0 rfl ?_
      refine x_dup rfl dX8_nextToken_122 ?_
      refine x_gi 12 12 rfl (sm_0 hG) (by decide) (C := RX8) (T := TX8) (N := 26) rfl in_X8 (by decide) rfl wf_869 dX8_nextToken_123 ?_
      refine x_aload_n dX8_nextToken_126 0 rfl ?_
      refine x_gi 12 12 rfl (sm_0 hG) (by decide) (C := RX8) (T := TX8) (N := 26) rfl in_X8 (by decide) rfl wf_869 dX8_nextToken_127 ?_
      refine x_aload_n dX8_nextToken_130 0 rfl ?_
      refine x_gi 11 11 rfl (sm_0 hG) (by decide) (C := RX8) (T := TX8) (N := 26) rfl in_X8 (by decide) rfl wf_868 dX8_nextToken_131 ?_
      obtain ⟨m8, em8⟩ : ∃ z : Int, z = (if (H7 0 12) < (H7 0 11) then 1 else 0) := ⟨_, rfl⟩
      replace h := hp_let_e em8 h
      have rm8 := hp_re em8 (hp_rite (hp_rc rfl) (hp_rc rfl))
      have zm8 : m8 = 0 ∨ m8 = 1 := by rw [em8]; exact (hp_z01 (Or.inr rfl) (Or.inl rfl))
      have kj : hp_R G l cX8_nextToken 1 none "HeelPostModel" (hp_rm 1) none H' (hp_in H') 142 [(0, .ref (hp_ad G 0))] [.int (hp_I m8), .int (hp_I (H7 0 12)), .ref (hp_ad G 0)] H7 := by
        refine x_iadd dX8_nextToken_142 ?_
        obtain ⟨H9, eH9⟩ : ∃ z : hp_H, z = hp_up H7 0 12 (hp_w ((H7 0 12) + m8)) := ⟨_, rfl⟩
        replace h := hp_let_e eH9 h
        have rH9 := hp_ine eH9 (hp_in_up rH7 (hp_rw _))
        refine x_pi 12 12 rfl tyX8 eH9 (sm_0 hG) (by decide) (C := RX8) (T := TX8) (N := 26) rfl in_X8 tyX8_ok nmX8 (by decide) rfl rfl rfl wf_869 dX8_nextToken_143 ?_
        refine x_aload_n dX8_nextToken_146 0 rfl ?_
        refine x_gi 14 14 rfl (sm_0 hG) (by decide) (C := RX8) (T := TX8) (N := 26) rfl in_X8 (by decide) rfl wf_871 dX8_nextToken_147 ?_
        refine x_iconst dX8_nextToken_150 ?_
        refine x_icne (tgt := 277) dX8_nextToken_151 (by decide) (rH9 _ _) (hp_rc rfl) (fun hc10 => ?_) (fun hc10 => ?_)
        · replace h := hp_if hc10 h
          cases h
          exact x_vret rH9 dX8_nextToken_277
        · replace h := hp_it hc10 h
          refine x_aload_n dX8_nextToken_154 0 rfl ?_
          refine x_dup rfl dX8_nextToken_155 ?_
          refine x_gi 15 15 rfl (sm_0 hG) (by decide) (C := RX8) (T := TX8) (N := 26) rfl in_X8 (by decide) rfl wf_872 dX8_nextToken_156 ?_
          refine x_bipush rfl dX8_nextToken_159 ?_
          refine x_isub dX8_nextToken_161 ?_
          obtain ⟨H11, eH11⟩ : ∃ z : hp_H, z = hp_up H9 0 15 (hp_w ((H9 0 15) - 48)) := ⟨_, rfl⟩
          replace h := hp_let_e eH11 h
          have rH11 := hp_ine eH11 (hp_in_up rH9 (hp_rw _))
          refine x_pi 15 15 rfl tyX8 eH11 (sm_0 hG) (by decide) (C := RX8) (T := TX8) (N := 26) rfl in_X8 tyX8_ok nmX8 (by decide) rfl rfl rfl wf_872 dX8_nextToken_162 ?_
          obtain ⟨H22, g23, h⟩ := hp_b1_e h
          refine x_sub [0] rfl (ok_X8_nextToken_165 hG 1000 H11 rH11 _ g23 ?_)
          intro rH22
          refine x_aload_n dX8_nextToken_255 0 rfl ?_
          refine x_aload_n dX8_nextToken_256 0 rfl ?_
          refine x_gi 12 12 rfl (sm_0 hG) (by decide) (C := RX8) (T := TX8) (N := 26) rfl in_X8 (by decide) rfl wf_869 dX8_nextToken_257 ?_
          refine x_aload_n dX8_nextToken_260 0 rfl ?_
          refine x_gi 13 13 rfl (sm_0 hG) (by decide) (C := RX8) (T := TX8) (N := 26) rfl in_X8 (by decide) rfl wf_870 dX8_nextToken_261 ?_
          refine x_isub dX8_nextToken_264 ?_
          refine x_iconst dX8_nextToken_265 ?_
          obtain ⟨m24, em24⟩ : ∃ z : Int, z = (if 2 < (hp_w ((H22 0 12) - (H22 0 13))) then 0 else 3) := ⟨_, rfl⟩
          replace h := hp_let_e em24 h
          have rm24 := hp_re em24 (hp_rite (hp_rc rfl) (hp_rc rfl))
          have kj : hp_R G l cX8_nextToken 1 none "HeelPostModel" (hp_rm 1) none H' (hp_in H') 274 [] [.int (hp_I m24), .ref (hp_ad G 0)] H22 := by
            obtain ⟨H25, eH25⟩ : ∃ z : hp_H, z = hp_up H22 0 14 m24 := ⟨_, rfl⟩
            replace h := hp_let_e eH25 h
            have rH25 := hp_ine eH25 (hp_in_up rH22 rm24)
            refine x_pi 14 14 rfl tyX8 eH25 (sm_0 hG) (by decide) (C := RX8) (T := TX8) (N := 26) rfl in_X8 tyX8_ok nmX8 (by decide) rfl rfl rfl wf_871 dX8_nextToken_274 ?_
            cases h
            exact x_vret rH25 dX8_nextToken_277
          clear h
          refine x_icle (tgt := 273) dX8_nextToken_266 (by decide) (hp_rw _) (hp_rc rfl) (fun hc26 => ?_) (fun hc26 => ?_)
          · refine x_iconst dX8_nextToken_273 ?_
            have q9 := (em24.trans (if_neg hc26))
            subst q9
            exact x_sub [] rfl kj
          · refine x_iconst dX8_nextToken_269 ?_
            refine x_goto (tgt := 274) dX8_nextToken_270 (by decide) ?_
            have q9 := (em24.trans (if_pos hc26))
            subst q9
            exact x_sub [] rfl kj
      clear h
      refine x_icge (tgt := 141) dX8_nextToken_134 (by decide) (rH7 _ _) (rH7 _ _) (fun hc27 => ?_) (fun hc27 => ?_)
      · refine x_iconst dX8_nextToken_141 ?_
        have q9 := (em8.trans (if_neg hc27))
        subst q9
        exact x_sub [0] rfl kj
      · refine x_iconst dX8_nextToken_137 ?_
        refine x_goto (tgt := 142) dX8_nextToken_138 (by decide) ?_
        have q9 := (em8.trans (if_pos hc27))
        subst q9
        exact x_sub [0] rfl kj
    clear h
    have h := hm6
    clear hm6
    refine x_icne (tgt := 53) dX8_nextToken_46 (by decide) (rH4 _ _) (rH4 _ _) (fun hc28 => ?_) (fun hc28 => ?_)
    · replace h := hp_if hc28 h
      refine x_aload_n dX8_nextToken_53 0 rfl ?_
      refine x_gi 15 15 rfl (sm_0 hG) (by decide) (C := RX8) (T := TX8) (N := 26) rfl in_X8 (by decide) rfl wf_872 dX8_nextToken_54 ?_
      refine x_i2l (rH4 _ _) dX8_nextToken_57 ?_
      refine x_ldc2 (x := 97) wc_990 rfl dX8_nextToken_58 ?_
      refine x_ldc2 (x := 122) wc_991 rfl dX8_nextToken_61 ?_
      obtain ⟨c30, g29, h⟩ := hp_b1_e h
      refine x_isi (As := [.long (hp_J (H4 0 15)), .long (hp_J 97), .long (hp_J 122)]) (ok_X8_in hG (H4 0 15) 97 122 H4 (hp_rrl (rH4 _ _)) (hp_rlc rfl) (hp_rlc rfl) rH4 _ g29) cal_X8_in stt_X8_in wm_945 (by decide) rfl rfl (Nat.le_of_ble_eq_true rfl) dX8_nextToken_64 (fun z9 => ?_)
      have rc30 := z9
      refine x_ifeq (tgt := 74) dX8_nextToken_67 (by decide) rc30 (fun hc31 => ?_) (fun hc31 => ?_)
      · replace h := hp_it hc31 h
        refine x_aload_n dX8_nextToken_74 0 rfl ?_
        refine x_gi 15 15 rfl (sm_0 hG) (by decide) (C := RX8) (T := TX8) (N := 26) rfl in_X8 (by decide) rfl wf_872 dX8_nextToken_75 ?_
        refine x_i2l (rH4 _ _) dX8_nextToken_78 ?_
        refine x_ldc2 (x := 48) wc_992 rfl dX8_nextToken_79 ?_
        refine x_ldc2 (x := 57) wc_993 rfl dX8_nextToken_82 ?_
        obtain ⟨c33, g32, h⟩ := hp_b1_e h
        refine x_isi (As := [.long (hp_J (H4 0 15)), .long (hp_J 48), .long (hp_J 57)]) (ok_X8_in hG (H4 0 15) 48 57 H4 (hp_rrl (rH4 _ _)) (hp_rlc rfl) (hp_rlc rfl) rH4 _ g32) cal_X8_in stt_X8_in wm_945 (by decide) rfl rfl (Nat.le_of_ble_eq_true rfl) dX8_nextToken_85 (fun z9 => ?_)
        have rc33 := z9
        refine x_ifeq (tgt := 95) dX8_nextToken_88 (by decide) rc33 (fun hc34 => ?_) (fun hc34 => ?_)
        · replace h := hp_it hc34 h
          refine x_aload_n dX8_nextToken_95 0 rfl ?_
          refine x_gi 15 15 rfl (sm_0 hG) (by decide) (C := RX8) (T := TX8) (N := 26) rfl in_X8 (by decide) rfl wf_872 dX8_nextToken_96 ?_
          refine x_bipush rfl dX8_nextToken_99 ?_
          refine x_iceq (tgt := 113) dX8_nextToken_101 (by decide) (rH4 _ _) (hp_rc rfl) (fun hc35 => ?_) (fun hc35 => ?_)
          · replace h := hp_it hc35 h
            refine x_iconst dX8_nextToken_113 ?_
            refine x_goto (tgt := 118) dX8_nextToken_114 (by decide) ?_
            cases h
            exact x_sub [0] rfl (kj (hp_rc rfl))
          · replace h := hp_if hc35 h
            refine x_aload_n dX8_nextToken_104 0 rfl ?_
            refine x_gi 15 15 rfl (sm_0 hG) (by decide) (C := RX8) (T := TX8) (N := 26) rfl in_X8 (by decide) rfl wf_872 dX8_nextToken_105 ?_
            refine x_bipush rfl dX8_nextToken_108 ?_
            refine x_icne (tgt := 117) dX8_nextToken_110 (by decide) (rH4 _ _) (hp_rc rfl) (fun hc36 => ?_) (fun hc36 => ?_)
            · replace h := hp_if hc36 h
              refine x_iconst dX8_nextToken_117 ?_
              cases h
              exact x_sub [0] rfl (kj (hp_rc rfl))
            · replace h := hp_it hc36 h
              refine x_iconst dX8_nextToken_113 ?_
              refine x_goto (tgt := 118) dX8_nextToken_114 (by decide) ?_
              cases h
              exact x_sub [0] rfl (kj (hp_rc rfl))
        · replace h := hp_if hc34 h
          refine x_iconst dX8_nextToken_91 ?_
          refine x_goto (tgt := 118) dX8_nextToken_92 (by decide) ?_
          cases h
          exact x_sub [0] rfl (kj (hp_rc rfl))
      · replace h := hp_if hc31 h
        refine x_iconst dX8_nextToken_70 ?_
        refine x_goto (tgt := 118) dX8_nextToken_71 (by decide) ?_
        cases h
        exact x_sub [0] rfl (kj (hp_rc rfl))
    · replace h := hp_it hc28 h
      refine x_iconst dX8_nextToken_49 ?_
      refine x_goto (tgt := 118) dX8_nextToken_50 (by decide) ?_
      cases h
      exact x_sub [0] rfl (kj (hp_rc rfl))
  clear h
  have h := hm3
  clear hm3
  refine x_icge (tgt := 32) dX8_nextToken_17 (by decide) (rH1 _ _) (rH1 _ _) (fun hc37 => ?_) (fun hc37 => ?_)
  · replace h := hp_if hc37 h
    refine x_ldc (x := (-1000000)) wc_989 rfl dX8_nextToken_32 ?_
    cases h
    exact x_sub [0] rfl (kj (hp_rc rfl))
  · replace h := hp_it hc37 h
    refine x_aload_n dX8_nextToken_20 0 rfl ?_
    refine x_getr 10 (sm_0 hG) (by decide) (C := RX8) (T := TX8) (N := 26) rfl in_X8 (by decide) rfl wf_867 dX8_nextToken_21 ?_
    refine x_aload_n dX8_nextToken_24 0 rfl ?_
    refine x_gi 12 12 rfl (sm_0 hG) (by decide) (C := RX8) (T := TX8) (N := 26) rfl in_X8 (by decide) rfl wf_869 dX8_nextToken_25 ?_
    obtain ⟨b38, h⟩ := hp_ck_e h
    refine x_ia 120 rfl (sm_8 hG) (by decide) (Nat.le_of_ble_eq_true rfl) b38 dX8_nextToken_28 ?_
    refine x_goto (tgt := 34) dX8_nextToken_29 (by decide) ?_
    cases h
    exact x_sub [0] rfl (kj (rH1 _ _))
set_option maxRecDepth 100000 in
theorem ok_X8_must {G : hp_G} (hG : hp_sh G = hp_shm) {l : Launch} (v1 : Int) (H : hp_H) (r1 : hp_r v1) (rH : hp_in H) (H' : hp_H) (h : f_X8_must v1 H = some H') : hp_M G l yX8_must cX8_must 2 none (hp_rm 2) [.ref (hp_ad G 0), .int (hp_I v1)] H none H' (hp_in H') := by
  unfold f_X8_must at h
  refine hp_body "HeelPostModel" (by decide) rfl ⟨rfl, rfl⟩ (Nat.le_of_ble_eq_true rfl) ?_
  show hp_R G l cX8_must 2 none "HeelPostModel" (hp_rm 2) none H' (hp_in H') 0 [(0, .ref (hp_ad G 0)), (1, .int (hp_I v1))] [] H
  refine x_iload_n dX8_must_0 1 rfl ?_
  obtain ⟨H1, hm2, h⟩ := hp_b1_e h
  have kj : hp_in H1 → hp_R G l cX8_must 2 none "HeelPostModel" (hp_rm 2) none H' (hp_in H') 9 [(0, .ref (hp_ad G 0))] [] H1 := by
    intro rH1
    refine x_aload_n dX8_must_9 0 rfl ?_
    refine x_gi 16 16 rfl (sm_0 hG) (by decide) (C := RX8) (T := TX8) (N := 26) rfl in_X8 (by decide) rfl wf_873 dX8_must_10 ?_
    refine x_ifne (tgt := 20) dX8_must_13 (by decide) (rH1 _ _) (fun hc3 => ?_) (fun hc3 => ?_)
    · replace h := hp_if hc3 h
      cases h
      exact x_vret rH1 dX8_must_20
    · replace h := hp_it hc3 h
      refine x_aload_n dX8_must_16 0 rfl ?_
      obtain ⟨H5, g4, h⟩ := hp_b1_e h
      refine x_ivv (As := []) (ok_X8_nextToken hG H1 rH1 _ g4) cal_X8_nextToken (sm_0 hG) (by decide) (C := RX8) (T := TX8) (N := 26) rfl rfl ins_X8_nextToken sel_X8_nextToken wm_985 (by decide) rfl rfl (Nat.le_of_ble_eq_true rfl) dX8_must_17 (fun z9 => ?_)
      have rH5 := z9
      cases h
      exact x_vret rH5 dX8_must_20
  clear h
  have h := hm2
  clear hm2
  refine x_ifne (tgt := 9) dX8_must_1 (by decide) r1 (fun hc6 => ?_) (fun hc6 => ?_)
  · replace h := hp_if hc6 h
    cases h
    exact x_sub [0] rfl (kj rH)
  · replace h := hp_it hc6 h
    refine x_aload_n dX8_must_4 0 rfl ?_
    refine x_iconst dX8_must_5 ?_
    obtain ⟨H8, g7, h⟩ := hp_b1_e h
    refine x_ivv (As := [.int (hp_I 1)]) (ok_X8_bad hG 1 H (hp_rc rfl) rH _ g7) cal_X8_bad (sm_0 hG) (by decide) (C := RX8) (T := TX8) (N := 26) rfl rfl ins_X8_bad sel_X8_bad wm_1002 (by decide) rfl rfl (Nat.le_of_ble_eq_true rfl) dX8_must_6 (fun z9 => ?_)
    have rH8 := z9
    cases h
    exact x_sub [0] rfl (kj rH8)
set_option maxRecDepth 100000 in
theorem ok_X8_isLetter {G : hp_G} (hG : hp_sh G = hp_shm) {l : Launch} (v1 : Int) (H : hp_H) (r1 : hp_r v1) (rH : hp_in H) (r : Int) (h : f_X8_isLetter v1 H = some r) : hp_M G l yX8_isLetter cX8_isLetter 2 (some .boolean) (hp_rm 0) [.ref (hp_ad G 0), .int (hp_I v1)] H (some (.int (hp_I r))) H (hp_r r) := by
  unfold f_X8_isLetter at h
  refine hp_body "HeelPostModel" (by decide) rfl ⟨rfl, rfl⟩ (Nat.le_of_ble_eq_true rfl) ?_
  show hp_R G l cX8_isLetter 2 (some .boolean) "HeelPostModel" (hp_rm 0) (some (.int (hp_I r))) H (hp_r r) 0 [(0, .ref (hp_ad G 0)), (1, .int (hp_I v1))] [] H
  refine x_aload_n dX8_isLetter_0 0 rfl ?_
  refine x_gi 16 16 rfl (sm_0 hG) (by decide) (C := RX8) (T := TX8) (N := 26) rfl in_X8 (by decide) rfl wf_873 dX8_isLetter_1 ?_
  refine x_ifne (tgt := 27) dX8_isLetter_4 (by decide) (rH _ _) (fun hc1 => ?_) (fun hc1 => ?_)
  · replace h := hp_if hc1 h
    refine x_iconst dX8_isLetter_27 ?_
    cases h
    exact x_zret (hp_rc rfl) (Or.inl rfl) dX8_isLetter_28
  · replace h := hp_it hc1 h
    refine x_aload_n dX8_isLetter_7 0 rfl ?_
    refine x_gi 14 14 rfl (sm_0 hG) (by decide) (C := RX8) (T := TX8) (N := 26) rfl in_X8 (by decide) rfl wf_871 dX8_isLetter_8 ?_
    refine x_iconst dX8_isLetter_11 ?_
    refine x_icne (tgt := 27) dX8_isLetter_12 (by decide) (rH _ _) (hp_rc rfl) (fun hc2 => ?_) (fun hc2 => ?_)
    · replace h := hp_if hc2 h
      refine x_iconst dX8_isLetter_27 ?_
      cases h
      exact x_zret (hp_rc rfl) (Or.inl rfl) dX8_isLetter_28
    · replace h := hp_it hc2 h
      refine x_aload_n dX8_isLetter_15 0 rfl ?_
      refine x_gi 15 15 rfl (sm_0 hG) (by decide) (C := RX8) (T := TX8) (N := 26) rfl in_X8 (by decide) rfl wf_872 dX8_isLetter_16 ?_
      refine x_iload_n dX8_isLetter_19 1 rfl ?_
      refine x_icne (tgt := 27) dX8_isLetter_20 (by decide) (rH _ _) r1 (fun hc3 => ?_) (fun hc3 => ?_)
      · replace h := hp_if hc3 h
        refine x_iconst dX8_isLetter_27 ?_
        cases h
        exact x_zret (hp_rc rfl) (Or.inl rfl) dX8_isLetter_28
      · replace h := hp_it hc3 h
        refine x_iconst dX8_isLetter_23 ?_
        refine x_goto (tgt := 28) dX8_isLetter_24 (by decide) ?_
        cases h
        exact x_zret (hp_rc rfl) (Or.inr rfl) dX8_isLetter_28
set_option maxRecDepth 100000 in
theorem ok_X8_number {G : hp_G} (hG : hp_sh G = hp_shm) {l : Launch} (v1 : Int) (v2 : Int) (H : hp_H) (r1 : hp_r v1) (r2 : hp_r v2) (rH : hp_in H) (x : Int × hp_H) (h : f_X8_number v1 v2 H = some x) : hp_M G l yX8_number cX8_number 4 (some .int) (hp_rm 3) [.ref (hp_ad G 0), .int (hp_I v1), .int (hp_I v2)] H (some (.int (hp_I x.1))) x.2 (hp_r x.1 ∧ hp_in x.2) := by
  obtain ⟨r, H'⟩ := x
  unfold f_X8_number at h
  refine hp_body "HeelPostModel" (by decide) rfl ⟨rfl, rfl⟩ (Nat.le_of_ble_eq_true rfl) ?_
  show hp_R G l cX8_number 4 (some .int) "HeelPostModel" (hp_rm 3) (some (.int (hp_I r))) H' (hp_r r ∧ hp_in H') 0 [(0, .ref (hp_ad G 0)), (1, .int (hp_I v1)), (2, .int (hp_I v2))] [] H
  refine x_aload_n dX8_number_0 0 rfl ?_
  refine x_gi 16 16 rfl (sm_0 hG) (by decide) (C := RX8) (T := TX8) (N := 26) rfl in_X8 (by decide) rfl wf_873 dX8_number_1 ?_
  obtain ⟨H1, hm2, h⟩ := hp_b1_e h
  have kj : hp_in H1 → hp_R G l cX8_number 4 (some .int) "HeelPostModel" (hp_rm 3) (some (.int (hp_I r))) H' (hp_r r ∧ hp_in H') 20 [(0, .ref (hp_ad G 0)), (1, .int (hp_I v1)), (2, .int (hp_I v2))] [] H1 := by
    intro rH1
    refine x_aload_n dX8_number_20 0 rfl ?_
    refine x_gi 16 16 rfl (sm_0 hG) (by decide) (C := RX8) (T := TX8) (N := 26) rfl in_X8 (by decide) rfl wf_873 dX8_number_21 ?_
    obtain ⟨H3, hm4, h⟩ := hp_b1_e h
    have kj : hp_in H3 → hp_R G l cX8_number 4 (some .int) "HeelPostModel" (hp_rm 3) (some (.int (hp_I r))) H' (hp_r r ∧ hp_in H') 47 [(0, .ref (hp_ad G 0)), (1, .int (hp_I v1))] [] H3 := by
      intro rH3
      refine x_aload_n dX8_number_47 0 rfl ?_
      refine x_gi 16 16 rfl (sm_0 hG) (by decide) (C := RX8) (T := TX8) (N := 26) rfl in_X8 (by decide) rfl wf_873 dX8_number_48 ?_
      obtain ⟨m5, em5⟩ : ∃ z : Int, z = (if (H3 0 16) = 0 then (H3 0 15) else v1) := ⟨_, rfl⟩
      replace h := hp_let_e em5 h
      have rm5 := hp_re em5 (hp_rite (rH3 _ _) r1)
      have kj : hp_R G l cX8_number 4 (some .int) "HeelPostModel" (hp_rm 3) (some (.int (hp_I r))) H' (hp_r r ∧ hp_in H') 62 [(0, .ref (hp_ad G 0))] [.int (hp_I m5)] H3 := by
        refine x_istore_n (L' := [(3, .int (hp_I m5)), (0, .ref (hp_ad G 0))]) dX8_number_62 rfl (by decide) rfl ?_
        refine x_aload_n dX8_number_63 1 rfl ?_
        refine x_iconst dX8_number_64 ?_
        obtain ⟨H7, g6, h⟩ := hp_b1_e h
        refine x_ivv (As := [.int (hp_I 1)]) (ok_X8_must hG 1 H3 (hp_rc rfl) rH3 _ g6) cal_X8_must (sm_0 hG) (by decide) (C := RX8) (T := TX8) (N := 26) rfl rfl ins_X8_must sel_X8_must wm_998 (by decide) rfl rfl (Nat.le_of_ble_eq_true rfl) dX8_number_65 (fun z9 => ?_)
        have rH7 := z9
        refine x_iload_n dX8_number_68 0 rfl ?_
        cases h
        exact x_iret ⟨rm5, rH7⟩ dX8_number_69
      clear h
      refine x_ifne (tgt := 61) dX8_number_51 (by decide) (rH3 _ _) (fun hc8 => ?_) (fun hc8 => ?_)
      · refine x_iload_n dX8_number_61 1 rfl ?_
        have q9 := (em5.trans (if_neg hc8))
        subst q9
        exact x_sub [0] rfl kj
      · refine x_aload_n dX8_number_54 0 rfl ?_
        refine x_gi 15 15 rfl (sm_0 hG) (by decide) (C := RX8) (T := TX8) (N := 26) rfl in_X8 (by decide) rfl wf_872 dX8_number_55 ?_
        refine x_goto (tgt := 62) dX8_number_58 (by decide) ?_
        have q9 := (em5.trans (if_pos hc8))
        subst q9
        exact x_sub [0] rfl kj
    clear h
    have h := hm4
    clear hm4
    refine x_ifne (tgt := 47) dX8_number_24 (by decide) (rH1 _ _) (fun hc9 => ?_) (fun hc9 => ?_)
    · replace h := hp_if hc9 h
      cases h
      exact x_sub [0, 1] rfl (kj rH1)
    · replace h := hp_it hc9 h
      refine x_aload_n dX8_number_27 0 rfl ?_
      refine x_gi 15 15 rfl (sm_0 hG) (by decide) (C := RX8) (T := TX8) (N := 26) rfl in_X8 (by decide) rfl wf_872 dX8_number_28 ?_
      refine x_i2l (rH1 _ _) dX8_number_31 ?_
      refine x_iload_n dX8_number_32 1 rfl ?_
      refine x_i2l r1 dX8_number_33 ?_
      refine x_iload_n dX8_number_34 2 rfl ?_
      refine x_i2l r2 dX8_number_35 ?_
      obtain ⟨c11, g10, h⟩ := hp_b1_e h
      refine x_isi (As := [.long (hp_J (H1 0 15)), .long (hp_J v1), .long (hp_J v2)]) (ok_X8_in hG (H1 0 15) v1 v2 H1 (hp_rrl (rH1 _ _)) (hp_rrl r1) (hp_rrl r2) rH1 _ g10) cal_X8_in stt_X8_in wm_945 (by decide) rfl rfl (Nat.le_of_ble_eq_true rfl) dX8_number_36 (fun z9 => ?_)
      have rc11 := z9
      refine x_ifne (tgt := 47) dX8_number_39 (by decide) rc11 (fun hc12 => ?_) (fun hc12 => ?_)
      · replace h := hp_if hc12 h
        cases h
        exact x_sub [0, 1] rfl (kj rH1)
      · replace h := hp_it hc12 h
        refine x_aload_n dX8_number_42 0 rfl ?_
        refine x_iconst dX8_number_43 ?_
        obtain ⟨H14, g13, h⟩ := hp_b1_e h
        refine x_ivv (As := [.int (hp_I 2)]) (ok_X8_bad hG 2 H1 (hp_rc rfl) rH1 _ g13) cal_X8_bad (sm_0 hG) (by decide) (C := RX8) (T := TX8) (N := 26) rfl rfl ins_X8_bad sel_X8_bad wm_1002 (by decide) rfl rfl (Nat.le_of_ble_eq_true rfl) dX8_number_44 (fun z9 => ?_)
        have rH14 := z9
        cases h
        exact x_sub [0, 1] rfl (kj rH14)
  clear h
  have h := hm2
  clear hm2
  refine x_ifne (tgt := 20) dX8_number_4 (by decide) (rH _ _) (fun hc15 => ?_) (fun hc15 => ?_)
  · replace h := hp_if hc15 h
    cases h
    exact x_sub [0, 1, 2] rfl (kj rH)
  · replace h := hp_it hc15 h
    refine x_aload_n dX8_number_7 0 rfl ?_
    refine x_gi 14 14 rfl (sm_0 hG) (by decide) (C := RX8) (T := TX8) (N := 26) rfl in_X8 (by decide) rfl wf_871 dX8_number_8 ?_
    refine x_iconst dX8_number_11 ?_
    refine x_iceq (tgt := 20) dX8_number_12 (by decide) (rH _ _) (hp_rc rfl) (fun hc16 => ?_) (fun hc16 => ?_)
    · replace h := hp_it hc16 h
      cases h
      exact x_sub [0, 1, 2] rfl (kj rH)
    · replace h := hp_if hc16 h
      refine x_aload_n dX8_number_15 0 rfl ?_
      refine x_iconst dX8_number_16 ?_
      obtain ⟨H18, g17, h⟩ := hp_b1_e h
      refine x_ivv (As := [.int (hp_I 1)]) (ok_X8_bad hG 1 H (hp_rc rfl) rH _ g17) cal_X8_bad (sm_0 hG) (by decide) (C := RX8) (T := TX8) (N := 26) rfl rfl ins_X8_bad sel_X8_bad wm_1002 (by decide) rfl rfl (Nat.le_of_ble_eq_true rfl) dX8_number_17 (fun z9 => ?_)
      have rH18 := z9
      cases h
      exact x_sub [0, 1, 2] rfl (kj rH18)
set_option maxRecDepth 100000 in
theorem ok_X8_mustSign {G : hp_G} (hG : hp_sh G = hp_shm) {l : Launch} (v1 : Int) (H : hp_H) (r1 : hp_r v1) (rH : hp_in H) (H' : hp_H) (h : f_X8_mustSign v1 H = some H') : hp_M G l yX8_mustSign cX8_mustSign 2 none (hp_rm 3) [.ref (hp_ad G 0), .int (hp_I v1)] H none H' (hp_in H') := by
  unfold f_X8_mustSign at h
  refine hp_body "HeelPostModel" (by decide) rfl ⟨rfl, rfl⟩ (Nat.le_of_ble_eq_true rfl) ?_
  show hp_R G l cX8_mustSign 2 none "HeelPostModel" (hp_rm 3) none H' (hp_in H') 0 [(0, .ref (hp_ad G 0)), (1, .int (hp_I v1))] [] H
  refine x_aload_n dX8_mustSign_0 0 rfl ?_
  refine x_aload_n dX8_mustSign_1 0 rfl ?_
  refine x_gi 14 14 rfl (sm_0 hG) (by decide) (C := RX8) (T := TX8) (N := 26) rfl in_X8 (by decide) rfl wf_871 dX8_mustSign_2 ?_
  refine x_iconst dX8_mustSign_5 ?_
  obtain ⟨m1, em1⟩ : ∃ z : Int, z = (if (H 0 14) = 4 then (if (H 0 15) = v1 then 1 else 0) else 0) := ⟨_, rfl⟩
  replace h := hp_let_e em1 h
  have rm1 := hp_re em1 (hp_rite (hp_rite (hp_rc rfl) (hp_rc rfl)) (hp_rc rfl))
  have zm1 : m1 = 0 ∨ m1 = 1 := by rw [em1]; exact (hp_z01 (hp_z01 (Or.inr rfl) (Or.inl rfl)) (Or.inl rfl))
  have kj : hp_R G l cX8_mustSign 2 none "HeelPostModel" (hp_rm 3) none H' (hp_in H') 22 [] [.int (hp_I m1), .ref (hp_ad G 0)] H := by
    obtain ⟨H3, g2, h⟩ := hp_b1_e h
    refine x_ivv (As := [.int (hp_I m1)]) (ok_X8_must hG m1 H rm1 rH _ g2) cal_X8_must (sm_0 hG) (by decide) (C := RX8) (T := TX8) (N := 26) rfl rfl ins_X8_must sel_X8_must wm_998 (by decide) rfl rfl (Nat.le_of_ble_eq_true rfl) dX8_mustSign_22 (fun z9 => ?_)
    have rH3 := z9
    cases h
    exact x_vret rH3 dX8_mustSign_25
  clear h
  refine x_icne (tgt := 21) dX8_mustSign_6 (by decide) (rH _ _) (hp_rc rfl) (fun hc4 => ?_) (fun hc4 => ?_)
  · refine x_iconst dX8_mustSign_21 ?_
    have q9 := (em1.trans (if_neg hc4))
    subst q9
    exact x_sub [] rfl kj
  · refine x_aload_n dX8_mustSign_9 0 rfl ?_
    refine x_gi 15 15 rfl (sm_0 hG) (by decide) (C := RX8) (T := TX8) (N := 26) rfl in_X8 (by decide) rfl wf_872 dX8_mustSign_10 ?_
    refine x_iload_n dX8_mustSign_13 1 rfl ?_
    refine x_icne (tgt := 21) dX8_mustSign_14 (by decide) (rH _ _) r1 (fun hc5 => ?_) (fun hc5 => ?_)
    · refine x_iconst dX8_mustSign_21 ?_
      have q9 := ((em1.trans (if_pos hc4)).trans (if_neg hc5))
      subst q9
      exact x_sub [] rfl kj
    · refine x_iconst dX8_mustSign_17 ?_
      refine x_goto (tgt := 22) dX8_mustSign_18 (by decide) ?_
      have q9 := ((em1.trans (if_pos hc4)).trans (if_pos hc5))
      subst q9
      exact x_sub [] rfl kj
set_option maxRecDepth 100000 in
theorem ok_X8_startUp {G : hp_G} (hG : hp_sh G = hp_shm) {l : Launch}  (H : hp_H) (rH : hp_in H) (H' : hp_H) (h : f_X8_startUp  H = some H') : hp_M G l yX8_startUp cX8_startUp 1 none (hp_rm 2) [.ref (hp_ad G 0)] H none H' (hp_in H') := by
  unfold f_X8_startUp at h
  refine hp_body "HeelPostModel" (by decide) rfl ⟨rfl, rfl⟩ (Nat.le_of_ble_eq_true rfl) ?_
  show hp_R G l cX8_startUp 1 none "HeelPostModel" (hp_rm 2) none H' (hp_in H') 0 [(0, .ref (hp_ad G 0))] [] H
  refine x_aload_n dX8_startUp_0 0 rfl ?_
  refine x_iconst dX8_startUp_1 ?_
  obtain ⟨H1, eH1⟩ : ∃ z : hp_H, z = hp_up H 0 12 0 := ⟨_, rfl⟩
  replace h := hp_let_e eH1 h
  have rH1 := hp_ine eH1 (hp_in_up rH (hp_rc rfl))
  refine x_pi 12 12 rfl tyX8 eH1 (sm_0 hG) (by decide) (C := RX8) (T := TX8) (N := 26) rfl in_X8 tyX8_ok nmX8 (by decide) rfl rfl rfl wf_869 dX8_startUp_2 ?_
  refine x_aload_n dX8_startUp_5 0 rfl ?_
  refine x_iconst dX8_startUp_6 ?_
  obtain ⟨H2, eH2⟩ : ∃ z : hp_H, z = hp_up H1 0 16 0 := ⟨_, rfl⟩
  replace h := hp_let_e eH2 h
  have rH2 := hp_ine eH2 (hp_in_up rH1 (hp_rc rfl))
  refine x_pi 16 16 rfl tyX8 eH2 (sm_0 hG) (by decide) (C := RX8) (T := TX8) (N := 26) rfl in_X8 tyX8_ok nmX8 (by decide) rfl rfl rfl wf_873 dX8_startUp_7 ?_
  refine x_aload_n dX8_startUp_10 0 rfl ?_
  obtain ⟨H4, g3, h⟩ := hp_b1_e h
  refine x_ivv (As := []) (ok_X8_nextToken hG H2 rH2 _ g3) cal_X8_nextToken (sm_0 hG) (by decide) (C := RX8) (T := TX8) (N := 26) rfl rfl ins_X8_nextToken sel_X8_nextToken wm_985 (by decide) rfl rfl (Nat.le_of_ble_eq_true rfl) dX8_startUp_11 (fun z9 => ?_)
  have rH4 := z9
  cases h
  exact x_vret rH4 dX8_startUp_14
set_option maxRecDepth 100000 in
theorem ok_X8_failed {G : hp_G} (hG : hp_sh G = hp_shm) {l : Launch}  (H : hp_H) (rH : hp_in H) (x : Int × hp_H) (h : f_X8_failed  H = some x) : hp_M G l yX8_failed cX8_failed 1 (some .boolean) (hp_rm 1) [.ref (hp_ad G 0)] H (some (.int (hp_I x.1))) x.2 (hp_r x.1 ∧ hp_in x.2) := by
  obtain ⟨r, H'⟩ := x
  unfold f_X8_failed at h
  refine hp_body "HeelPostModel" (by decide) rfl ⟨rfl, rfl⟩ (Nat.le_of_ble_eq_true rfl) ?_
  show hp_R G l cX8_failed 1 (some .boolean) "HeelPostModel" (hp_rm 1) (some (.int (hp_I r))) H' (hp_r r ∧ hp_in H') 0 [(0, .ref (hp_ad G 0))] [] H
  refine x_aload_n dX8_failed_0 0 rfl ?_
  refine x_gi 16 16 rfl (sm_0 hG) (by decide) (C := RX8) (T := TX8) (N := 26) rfl in_X8 (by decide) rfl wf_873 dX8_failed_1 ?_
  obtain ⟨H1, hm2, h⟩ := hp_b1_e h
  have kj : hp_in H1 → hp_R G l cX8_failed 1 (some .boolean) "HeelPostModel" (hp_rm 1) (some (.int (hp_I r))) H' (hp_r r ∧ hp_in H') 20 [(0, .ref (hp_ad G 0))] [] H1 := by
    intro rH1
    refine x_aload_n dX8_failed_20 0 rfl ?_
    refine x_iconst dX8_failed_21 ?_
    obtain ⟨H3, eH3⟩ : ∃ z : hp_H, z = hp_up H1 0 11 0 := ⟨_, rfl⟩
    replace h := hp_let_e eH3 h
    have rH3 := hp_ine eH3 (hp_in_up rH1 (hp_rc rfl))
    refine x_pi 11 11 rfl tyX8 eH3 (sm_0 hG) (by decide) (C := RX8) (T := TX8) (N := 26) rfl in_X8 tyX8_ok nmX8 (by decide) rfl rfl rfl wf_868 dX8_failed_22 ?_
    refine x_aload_n dX8_failed_25 0 rfl ?_
    refine x_aload_n dX8_failed_26 0 rfl ?_
    refine x_gi 16 16 rfl (sm_0 hG) (by decide) (C := RX8) (T := TX8) (N := 26) rfl in_X8 (by decide) rfl wf_873 dX8_failed_27 ?_
    obtain ⟨m4, em4⟩ : ∃ z : Int, z = (if 0 < (H3 0 16) then (H3 0 16) else (H3 0 18)) := ⟨_, rfl⟩
    replace h := hp_let_e em4 h
    have rm4 := hp_re em4 (hp_rite (rH3 _ _) (rH3 _ _))
    have kj : hp_R G l cX8_failed 1 (some .boolean) "HeelPostModel" (hp_rm 1) (some (.int (hp_I r))) H' (hp_r r ∧ hp_in H') 44 [(0, .ref (hp_ad G 0))] [.int (hp_I m4), .ref (hp_ad G 0)] H3 := by
      obtain ⟨H5, eH5⟩ : ∃ z : hp_H, z = hp_up H3 0 18 m4 := ⟨_, rfl⟩
      replace h := hp_let_e eH5 h
      have rH5 := hp_ine eH5 (hp_in_up rH3 rm4)
      refine x_pi 18 18 rfl tyX8 eH5 (sm_0 hG) (by decide) (C := RX8) (T := TX8) (N := 26) rfl in_X8 tyX8_ok nmX8 (by decide) rfl rfl rfl wf_875 dX8_failed_44 ?_
      refine x_aload_n dX8_failed_47 0 rfl ?_
      refine x_gi 16 16 rfl (sm_0 hG) (by decide) (C := RX8) (T := TX8) (N := 26) rfl in_X8 (by decide) rfl wf_873 dX8_failed_48 ?_
      refine x_ifle (tgt := 58) dX8_failed_51 (by decide) (rH5 _ _) (fun hc6 => ?_) (fun hc6 => ?_)
      · replace h := hp_if hc6 h
        refine x_iconst dX8_failed_58 ?_
        cases h
        exact x_zret ⟨(hp_rc rfl), rH5⟩ (Or.inl rfl) dX8_failed_59
      · replace h := hp_it hc6 h
        refine x_iconst dX8_failed_54 ?_
        refine x_goto (tgt := 59) dX8_failed_55 (by decide) ?_
        cases h
        exact x_zret ⟨(hp_rc rfl), rH5⟩ (Or.inr rfl) dX8_failed_59
    clear h
    refine x_ifle (tgt := 40) dX8_failed_30 (by decide) (rH3 _ _) (fun hc7 => ?_) (fun hc7 => ?_)
    · refine x_aload_n dX8_failed_40 0 rfl ?_
      refine x_gi 18 18 rfl (sm_0 hG) (by decide) (C := RX8) (T := TX8) (N := 26) rfl in_X8 (by decide) rfl wf_875 dX8_failed_41 ?_
      have q9 := (em4.trans (if_neg hc7))
      subst q9
      exact x_sub [0] rfl kj
    · refine x_aload_n dX8_failed_33 0 rfl ?_
      refine x_gi 16 16 rfl (sm_0 hG) (by decide) (C := RX8) (T := TX8) (N := 26) rfl in_X8 (by decide) rfl wf_873 dX8_failed_34 ?_
      refine x_goto (tgt := 44) dX8_failed_37 (by decide) ?_
      have q9 := (em4.trans (if_pos hc7))
      subst q9
      exact x_sub [0] rfl kj
  clear h
  have h := hm2
  clear hm2
  refine x_ifne (tgt := 20) dX8_failed_4 (by decide) (rH _ _) (fun hc8 => ?_) (fun hc8 => ?_)
  · replace h := hp_if hc8 h
    cases h
    exact x_sub [0] rfl (kj rH)
  · replace h := hp_it hc8 h
    refine x_aload_n dX8_failed_7 0 rfl ?_
    refine x_gi 14 14 rfl (sm_0 hG) (by decide) (C := RX8) (T := TX8) (N := 26) rfl in_X8 (by decide) rfl wf_871 dX8_failed_8 ?_
    refine x_iconst dX8_failed_11 ?_
    refine x_iceq (tgt := 20) dX8_failed_12 (by decide) (rH _ _) (hp_rc rfl) (fun hc9 => ?_) (fun hc9 => ?_)
    · replace h := hp_it hc9 h
      cases h
      exact x_sub [0] rfl (kj rH)
    · replace h := hp_if hc9 h
      refine x_aload_n dX8_failed_15 0 rfl ?_
      refine x_iconst dX8_failed_16 ?_
      obtain ⟨H11, g10, h⟩ := hp_b1_e h
      refine x_ivv (As := [.int (hp_I 1)]) (ok_X8_bad hG 1 H (hp_rc rfl) rH _ g10) cal_X8_bad (sm_0 hG) (by decide) (C := RX8) (T := TX8) (N := 26) rfl rfl ins_X8_bad sel_X8_bad wm_1002 (by decide) rfl rfl (Nat.le_of_ble_eq_true rfl) dX8_failed_17 (fun z9 => ?_)
      have rH11 := z9
      cases h
      exact x_sub [0] rfl (kj rH11)
set_option maxRecDepth 100000 in
theorem ok_X8_fault {G : hp_G} (hG : hp_sh G = hp_shm) {l : Launch}  (H : hp_H) (rH : hp_in H) (x : Int × hp_H) (h : f_X8_fault  H = some x) : hp_M G l yX8_fault cX8_fault 1 (some .int) (hp_rm 0) [.ref (hp_ad G 0)] H (some (.int (hp_I x.1))) x.2 (hp_r x.1 ∧ hp_in x.2) := by
  obtain ⟨r, H'⟩ := x
  unfold f_X8_fault at h
  refine hp_body "HeelPostModel" (by decide) rfl ⟨rfl, rfl⟩ (Nat.le_of_ble_eq_true rfl) ?_
  show hp_R G l cX8_fault 1 (some .int) "HeelPostModel" (hp_rm 0) (some (.int (hp_I r))) H' (hp_r r ∧ hp_in H') 0 [(0, .ref (hp_ad G 0))] [] H
  refine x_aload_n dX8_fault_0 0 rfl ?_
  refine x_iconst dX8_fault_1 ?_
  obtain ⟨H1, eH1⟩ : ∃ z : hp_H, z = hp_up H 0 0 0 := ⟨_, rfl⟩
  replace h := hp_let_e eH1 h
  have rH1 := hp_ine eH1 (hp_in_up rH (hp_rc rfl))
  refine x_pi 0 0 rfl tyX8 eH1 (sm_0 hG) (by decide) (C := RX8) (T := TX8) (N := 26) rfl in_X8 tyX8_ok nmX8 (by decide) rfl rfl rfl wf_857 dX8_fault_2 ?_
  refine x_aload_n dX8_fault_5 0 rfl ?_
  refine x_gi 18 18 rfl (sm_0 hG) (by decide) (C := RX8) (T := TX8) (N := 26) rfl in_X8 (by decide) rfl wf_875 dX8_fault_6 ?_
  cases h
  exact x_iret ⟨(rH1 _ _), rH1⟩ dX8_fault_9
set_option maxRecDepth 100000 in
theorem ok_X8_kindBy {G : hp_G} (hG : hp_sh G = hp_shm) {l : Launch} (v0 : Int) (H : hp_H) (r0 : hp_r v0) (rH : hp_in H) (r : Int) (h : f_X8_kindBy v0 H = some r) : hp_M G l yX8_kindBy cX8_kindBy 1 (some .int) (hp_rm 0) [.int (hp_I v0)] H (some (.int (hp_I r))) H (hp_r r) := by
  unfold f_X8_kindBy at h
  refine hp_body "HeelPostModel" (by decide) rfl ⟨rfl, rfl⟩ (Nat.le_of_ble_eq_true rfl) ?_
  show hp_R G l cX8_kindBy 1 (some .int) "HeelPostModel" (hp_rm 0) (some (.int (hp_I r))) H (hp_r r) 0 [(0, .int (hp_I v0))] [] H
  refine x_iload_n dX8_kindBy_0 0 rfl ?_
  refine x_bipush rfl dX8_kindBy_1 ?_
  refine x_icne (tgt := 10) dX8_kindBy_3 (by decide) r0 (hp_rc rfl) (fun hc1 => ?_) (fun hc1 => ?_)
  · replace h := hp_if hc1 h
    refine x_iload_n dX8_kindBy_10 0 rfl ?_
    refine x_bipush rfl dX8_kindBy_11 ?_
    refine x_icne (tgt := 20) dX8_kindBy_13 (by decide) r0 (hp_rc rfl) (fun hc2 => ?_) (fun hc2 => ?_)
    · replace h := hp_if hc2 h
      refine x_iload_n dX8_kindBy_20 0 rfl ?_
      refine x_bipush rfl dX8_kindBy_21 ?_
      refine x_icne (tgt := 30) dX8_kindBy_23 (by decide) r0 (hp_rc rfl) (fun hc3 => ?_) (fun hc3 => ?_)
      · replace h := hp_if hc3 h
        refine x_iload_n dX8_kindBy_30 0 rfl ?_
        refine x_bipush rfl dX8_kindBy_31 ?_
        refine x_icne (tgt := 40) dX8_kindBy_33 (by decide) r0 (hp_rc rfl) (fun hc4 => ?_) (fun hc4 => ?_)
        · replace h := hp_if hc4 h
          refine x_iload_n dX8_kindBy_40 0 rfl ?_
          refine x_bipush rfl dX8_kindBy_41 ?_
          refine x_icne (tgt := 50) dX8_kindBy_43 (by decide) r0 (hp_rc rfl) (fun hc5 => ?_) (fun hc5 => ?_)
          · replace h := hp_if hc5 h
            refine x_ldc (x := (-1000000)) wc_989 rfl dX8_kindBy_50 ?_
            cases h
            exact x_iret (hp_rc rfl) dX8_kindBy_52
          · replace h := hp_it hc5 h
            refine x_iconst dX8_kindBy_46 ?_
            refine x_goto (tgt := 52) dX8_kindBy_47 (by decide) ?_
            cases h
            exact x_iret (hp_rc rfl) dX8_kindBy_52
        · replace h := hp_it hc4 h
          refine x_iconst dX8_kindBy_36 ?_
          refine x_goto (tgt := 52) dX8_kindBy_37 (by decide) ?_
          cases h
          exact x_iret (hp_rc rfl) dX8_kindBy_52
      · replace h := hp_it hc3 h
        refine x_iconst dX8_kindBy_26 ?_
        refine x_goto (tgt := 52) dX8_kindBy_27 (by decide) ?_
        cases h
        exact x_iret (hp_rc rfl) dX8_kindBy_52
    · replace h := hp_it hc2 h
      refine x_iconst dX8_kindBy_16 ?_
      refine x_goto (tgt := 52) dX8_kindBy_17 (by decide) ?_
      cases h
      exact x_iret (hp_rc rfl) dX8_kindBy_52
  · replace h := hp_it hc1 h
    refine x_iconst dX8_kindBy_6 ?_
    refine x_goto (tgt := 52) dX8_kindBy_7 (by decide) ?_
    cases h
    exact x_iret (hp_rc rfl) dX8_kindBy_52
set_option maxRecDepth 100000 in
theorem ok_X8_isSort {G : hp_G} (hG : hp_sh G = hp_shm) {l : Launch}  (H : hp_H) (rH : hp_in H) (r : Int) (h : f_X8_isSort  H = some r) : hp_M G l yX8_isSort cX8_isSort 1 (some .boolean) (hp_rm 1) [.ref (hp_ad G 0)] H (some (.int (hp_I r))) H (hp_r r) := by
  unfold f_X8_isSort at h
  refine hp_body "HeelPostModel" (by decide) rfl ⟨rfl, rfl⟩ (Nat.le_of_ble_eq_true rfl) ?_
  show hp_R G l cX8_isSort 1 (some .boolean) "HeelPostModel" (hp_rm 1) (some (.int (hp_I r))) H (hp_r r) 0 [(0, .ref (hp_ad G 0))] [] H
  refine x_aload_n dX8_isSort_0 0 rfl ?_
  refine x_gi 16 16 rfl (sm_0 hG) (by decide) (C := RX8) (T := TX8) (N := 26) rfl in_X8 (by decide) rfl wf_873 dX8_isSort_1 ?_
  refine x_ifne (tgt := 31) dX8_isSort_4 (by decide) (rH _ _) (fun hc1 => ?_) (fun hc1 => ?_)
  · replace h := hp_if hc1 h
    refine x_iconst dX8_isSort_31 ?_
    cases h
    exact x_zret (hp_rc rfl) (Or.inl rfl) dX8_isSort_32
  · replace h := hp_it hc1 h
    refine x_aload_n dX8_isSort_7 0 rfl ?_
    refine x_gi 14 14 rfl (sm_0 hG) (by decide) (C := RX8) (T := TX8) (N := 26) rfl in_X8 (by decide) rfl wf_871 dX8_isSort_8 ?_
    refine x_iconst dX8_isSort_11 ?_
    refine x_icne (tgt := 31) dX8_isSort_12 (by decide) (rH _ _) (hp_rc rfl) (fun hc2 => ?_) (fun hc2 => ?_)
    · replace h := hp_if hc2 h
      refine x_iconst dX8_isSort_31 ?_
      cases h
      exact x_zret (hp_rc rfl) (Or.inl rfl) dX8_isSort_32
    · replace h := hp_it hc2 h
      refine x_aload_n dX8_isSort_15 0 rfl ?_
      refine x_gi 15 15 rfl (sm_0 hG) (by decide) (C := RX8) (T := TX8) (N := 26) rfl in_X8 (by decide) rfl wf_872 dX8_isSort_16 ?_
      obtain ⟨c4, g3, h⟩ := hp_b1_e h
      refine x_isi (As := [.int (hp_I (H 0 15))]) (ok_X8_kindBy hG (H 0 15) H (rH _ _) rH _ g3) cal_X8_kindBy stt_X8_kindBy wm_1018 (by decide) rfl rfl (Nat.le_of_ble_eq_true rfl) dX8_isSort_19 (fun z9 => ?_)
      have rc4 := z9
      refine x_ldc (x := (-1000000)) wc_989 rfl dX8_isSort_22 ?_
      refine x_iceq (tgt := 31) dX8_isSort_24 (by decide) rc4 (hp_rc rfl) (fun hc5 => ?_) (fun hc5 => ?_)
      · replace h := hp_it hc5 h
        refine x_iconst dX8_isSort_31 ?_
        cases h
        exact x_zret (hp_rc rfl) (Or.inl rfl) dX8_isSort_32
      · replace h := hp_if hc5 h
        refine x_iconst dX8_isSort_27 ?_
        refine x_goto (tgt := 32) dX8_isSort_28 (by decide) ?_
        cases h
        exact x_zret (hp_rc rfl) (Or.inr rfl) dX8_isSort_32
set_option maxRecDepth 100000 in
theorem ok_X8_readPerson {G : hp_G} (hG : hp_sh G = hp_shm) {l : Launch}  (H : hp_H) (rH : hp_in H) (H' : hp_H) (h : f_X8_readPerson  H = some H') : hp_M G l yX8_readPerson cX8_readPerson 6 none (hp_rm 4) [.ref (hp_ad G 0)] H none H' (hp_in H') := by
  unfold f_X8_readPerson at h
  refine hp_body "HeelPostModel" (by decide) rfl ⟨rfl, rfl⟩ (Nat.le_of_ble_eq_true rfl) ?_
  show hp_R G l cX8_readPerson 6 none "HeelPostModel" (hp_rm 4) none H' (hp_in H') 0 [(0, .ref (hp_ad G 0))] [] H
  refine x_aload_n dX8_readPerson_0 0 rfl ?_
  refine x_gi 15 15 rfl (sm_0 hG) (by decide) (C := RX8) (T := TX8) (N := 26) rfl in_X8 (by decide) rfl wf_872 dX8_readPerson_1 ?_
  obtain ⟨c2, g1, h⟩ := hp_b1_e h
  refine x_isi (As := [.int (hp_I (H 0 15))]) (ok_X8_kindBy hG (H 0 15) H (rH _ _) rH _ g1) cal_X8_kindBy stt_X8_kindBy wm_1018 (by decide) rfl rfl (Nat.le_of_ble_eq_true rfl) dX8_readPerson_4 (fun z9 => ?_)
  have rc2 := z9
  refine x_istore_n (L' := [(1, .int (hp_I c2)), (0, .ref (hp_ad G 0))]) dX8_readPerson_7 rfl (by decide) rfl ?_
  refine x_aload_n dX8_readPerson_8 1 rfl ?_
  refine x_getr 6 (sm_0 hG) (by decide) (C := RX8) (T := TX8) (N := 26) rfl in_X8 (by decide) rfl wf_863 dX8_readPerson_9 ?_
  refine x_iconst dX8_readPerson_12 ?_
  refine x_ia 41 rfl (sm_5 hG) (by decide) (Nat.le_of_ble_eq_true rfl) (by decide) dX8_readPerson_13 ?_
  refine x_bipush rfl dX8_readPerson_14 ?_
  obtain ⟨H3, hm4, h⟩ := hp_b1_e h
  have kj : hp_in H3 → hp_R G l cX8_readPerson 6 none "HeelPostModel" (hp_rm 4) none H' (hp_in H') 24 [(0, .ref (hp_ad G 0)), (1, .int (hp_I c2))] [] H3 := by
    intro rH3
    refine x_aload_n dX8_readPerson_24 0 rfl ?_
    refine x_iconst dX8_readPerson_25 ?_
    obtain ⟨H6, g5, h⟩ := hp_b1_e h
    refine x_ivv (As := [.int (hp_I 1)]) (ok_X8_must hG 1 H3 (hp_rc rfl) rH3 _ g5) cal_X8_must (sm_0 hG) (by decide) (C := RX8) (T := TX8) (N := 26) rfl rfl ins_X8_must sel_X8_must wm_998 (by decide) rfl rfl (Nat.le_of_ble_eq_true rfl) dX8_readPerson_26 (fun z9 => ?_)
    have rH6 := z9
    refine x_aload_n dX8_readPerson_29 0 rfl ?_
    refine x_iconst dX8_readPerson_30 ?_
    refine x_aload_n dX8_readPerson_31 0 rfl ?_
    refine x_getr 6 (sm_0 hG) (by decide) (C := RX8) (T := TX8) (N := 26) rfl in_X8 (by decide) rfl wf_863 dX8_readPerson_32 ?_
    refine x_iconst dX8_readPerson_35 ?_
    refine x_ia 41 rfl (sm_5 hG) (by decide) (Nat.le_of_ble_eq_true rfl) (by decide) dX8_readPerson_36 ?_
    refine x_iconst dX8_readPerson_37 ?_
    refine x_isub dX8_readPerson_38 ?_
    obtain ⟨c8, H9, g7, h⟩ := hp_b2_e h
    refine x_ivi (As := [.int (hp_I 0), .int (hp_I (hp_w ((H6 5 0) - 1)))]) (ok_X8_number hG 0 (hp_w ((H6 5 0) - 1)) H6 (hp_rc rfl) (hp_rw _) rH6 _ g7) cal_X8_number (sm_0 hG) (by decide) (C := RX8) (T := TX8) (N := 26) rfl rfl ins_X8_number sel_X8_number wm_1006 (by decide) rfl rfl (Nat.le_of_ble_eq_true rfl) dX8_readPerson_39 (fun z9 => ?_)
    obtain ⟨rc8, rH9⟩ := z9
    refine x_istore_n (L' := [(2, .int (hp_I c8)), (0, .ref (hp_ad G 0)), (1, .int (hp_I c2))]) dX8_readPerson_42 rfl (by decide) rfl ?_
    refine x_aload_n dX8_readPerson_43 1 rfl ?_
    refine x_bipush rfl dX8_readPerson_44 ?_
    obtain ⟨H11, g10, h⟩ := hp_b1_e h
    refine x_ivv (As := [.int (hp_I 44)]) (ok_X8_mustSign hG 44 H9 (hp_rc rfl) rH9 _ g10) cal_X8_mustSign (sm_0 hG) (by decide) (C := RX8) (T := TX8) (N := 26) rfl rfl ins_X8_mustSign sel_X8_mustSign wm_1010 (by decide) rfl rfl (Nat.le_of_ble_eq_true rfl) dX8_readPerson_46 (fun z9 => ?_)
    have rH11 := z9
    refine x_aload_n dX8_readPerson_49 1 rfl ?_
    refine x_iconst dX8_readPerson_50 ?_
    refine x_aload_n dX8_readPerson_51 1 rfl ?_
    refine x_getr 6 (sm_0 hG) (by decide) (C := RX8) (T := TX8) (N := 26) rfl in_X8 (by decide) rfl wf_863 dX8_readPerson_52 ?_
    refine x_iconst dX8_readPerson_55 ?_
    refine x_ia 41 rfl (sm_5 hG) (by decide) (Nat.le_of_ble_eq_true rfl) (by decide) dX8_readPerson_56 ?_
    refine x_iconst dX8_readPerson_57 ?_
    refine x_isub dX8_readPerson_58 ?_
    obtain ⟨c13, H14, g12, h⟩ := hp_b2_e h
    refine x_ivi (As := [.int (hp_I 0), .int (hp_I (hp_w ((H11 5 0) - 1)))]) (ok_X8_number hG 0 (hp_w ((H11 5 0) - 1)) H11 (hp_rc rfl) (hp_rw _) rH11 _ g12) cal_X8_number (sm_0 hG) (by decide) (C := RX8) (T := TX8) (N := 26) rfl rfl ins_X8_number sel_X8_number wm_1006 (by decide) rfl rfl (Nat.le_of_ble_eq_true rfl) dX8_readPerson_59 (fun z9 => ?_)
    obtain ⟨rc13, rH14⟩ := z9
    refine x_istore_n (L' := [(3, .int (hp_I c13)), (2, .int (hp_I c8)), (0, .ref (hp_ad G 0)), (1, .int (hp_I c2))]) dX8_readPerson_62 rfl (by decide) rfl ?_
    refine x_aload_n dX8_readPerson_63 2 rfl ?_
    refine x_bipush rfl dX8_readPerson_64 ?_
    obtain ⟨H16, g15, h⟩ := hp_b1_e h
    refine x_ivv (As := [.int (hp_I 44)]) (ok_X8_mustSign hG 44 H14 (hp_rc rfl) rH14 _ g15) cal_X8_mustSign (sm_0 hG) (by decide) (C := RX8) (T := TX8) (N := 26) rfl rfl ins_X8_mustSign sel_X8_mustSign wm_1010 (by decide) rfl rfl (Nat.le_of_ble_eq_true rfl) dX8_readPerson_66 (fun z9 => ?_)
    have rH16 := z9
    refine x_aload_n dX8_readPerson_69 2 rfl ?_
    refine x_iconst dX8_readPerson_70 ?_
    refine x_bipush rfl dX8_readPerson_71 ?_
    obtain ⟨c18, H19, g17, h⟩ := hp_b2_e h
    refine x_ivi (As := [.int (hp_I 0), .int (hp_I 23)]) (ok_X8_number hG 0 23 H16 (hp_rc rfl) (hp_rc rfl) rH16 _ g17) cal_X8_number (sm_0 hG) (by decide) (C := RX8) (T := TX8) (N := 26) rfl rfl ins_X8_number sel_X8_number wm_1006 (by decide) rfl rfl (Nat.le_of_ble_eq_true rfl) dX8_readPerson_73 (fun z9 => ?_)
    obtain ⟨rc18, rH19⟩ := z9
    refine x_istore (L' := [(4, .int (hp_I c18)), (3, .int (hp_I c13)), (2, .int (hp_I c8)), (0, .ref (hp_ad G 0)), (1, .int (hp_I c2))]) dX8_readPerson_76 (by decide) rfl ?_
    refine x_aload_n dX8_readPerson_78 3 rfl ?_
    refine x_bipush rfl dX8_readPerson_79 ?_
    obtain ⟨H21, g20, h⟩ := hp_b1_e h
    refine x_ivv (As := [.int (hp_I 59)]) (ok_X8_mustSign hG 59 H19 (hp_rc rfl) rH19 _ g20) cal_X8_mustSign (sm_0 hG) (by decide) (C := RX8) (T := TX8) (N := 26) rfl rfl ins_X8_mustSign sel_X8_mustSign wm_1010 (by decide) rfl rfl (Nat.le_of_ble_eq_true rfl) dX8_readPerson_81 (fun z9 => ?_)
    have rH21 := z9
    refine x_aload_n dX8_readPerson_84 3 rfl ?_
    refine x_gi 16 16 rfl (sm_0 hG) (by decide) (C := RX8) (T := TX8) (N := 26) rfl in_X8 (by decide) rfl wf_873 dX8_readPerson_85 ?_
    refine x_ifne (tgt := 153) dX8_readPerson_88 (by decide) (rH21 _ _) (fun hc22 => ?_) (fun hc22 => ?_)
    · replace h := hp_if hc22 h
      cases h
      exact x_vret rH21 dX8_readPerson_153
    · replace h := hp_it hc22 h
      refine x_bipush rfl dX8_readPerson_91 ?_
      refine x_iconst dX8_readPerson_93 ?_
      refine x_aload_n dX8_readPerson_94 3 rfl ?_
      refine x_getr 6 (sm_0 hG) (by decide) (C := RX8) (T := TX8) (N := 26) rfl in_X8 (by decide) rfl wf_863 dX8_readPerson_95 ?_
      refine x_iconst dX8_readPerson_98 ?_
      refine x_ia 41 rfl (sm_5 hG) (by decide) (Nat.le_of_ble_eq_true rfl) (by decide) dX8_readPerson_99 ?_
      refine x_imul dX8_readPerson_100 ?_
      refine x_iadd dX8_readPerson_101 ?_
      obtain ⟨v5_23, ev5_23⟩ : ∃ z : Int, z = (hp_w (17 + (hp_w (4 * (H21 5 2))))) := ⟨_, rfl⟩
      replace h := hp_let_e ev5_23 h
      have rv5_23 := hp_re ev5_23 (hp_rw _)
      refine x_isE (L' := [(5, .int (hp_I v5_23)), (4, .int (hp_I c18)), (3, .int (hp_I c13)), (2, .int (hp_I c8)), (0, .ref (hp_ad G 0)), (1, .int (hp_I c2))]) ev5_23 dX8_readPerson_102 (by decide) rfl ?_
      refine x_aload_n dX8_readPerson_104 4 rfl ?_
      refine x_getr 6 (sm_0 hG) (by decide) (C := RX8) (T := TX8) (N := 26) rfl in_X8 (by decide) rfl wf_863 dX8_readPerson_105 ?_
      refine x_iload dX8_readPerson_108 0 rfl ?_
      refine x_iload_n dX8_readPerson_110 5 rfl ?_
      obtain ⟨b24, h⟩ := hp_ck_e h
      obtain ⟨H25, eH25⟩ : ∃ z : hp_H, z = hp_up H21 5 v5_23 c2 := ⟨_, rfl⟩
      replace h := hp_let_e eH25 h
      have rH25 := hp_ine eH25 (hp_in_up rH21 rc2)
      refine x_ias 41 rfl eH25 (sm_5 hG) (by decide) (Nat.le_of_ble_eq_true rfl) b24 dX8_readPerson_111 ?_
      refine x_aload_n dX8_readPerson_112 4 rfl ?_
      refine x_getr 6 (sm_0 hG) (by decide) (C := RX8) (T := TX8) (N := 26) rfl in_X8 (by decide) rfl wf_863 dX8_readPerson_113 ?_
      refine x_iload dX8_readPerson_116 0 rfl ?_
      refine x_iconst dX8_readPerson_118 ?_
      refine x_iadd dX8_readPerson_119 ?_
      refine x_iload_n dX8_readPerson_120 3 rfl ?_
      obtain ⟨b26, h⟩ := hp_ck_e h
      obtain ⟨H27, eH27⟩ : ∃ z : hp_H, z = hp_up H25 5 (hp_w (v5_23 + 1)) c8 := ⟨_, rfl⟩
      replace h := hp_let_e eH27 h
      have rH27 := hp_ine eH27 (hp_in_up rH25 rc8)
      refine x_ias 41 rfl eH27 (sm_5 hG) (by decide) (Nat.le_of_ble_eq_true rfl) b26 dX8_readPerson_121 ?_
      refine x_aload_n dX8_readPerson_122 4 rfl ?_
      refine x_getr 6 (sm_0 hG) (by decide) (C := RX8) (T := TX8) (N := 26) rfl in_X8 (by decide) rfl wf_863 dX8_readPerson_123 ?_
      refine x_iload dX8_readPerson_126 0 rfl ?_
      refine x_iconst dX8_readPerson_128 ?_
      refine x_iadd dX8_readPerson_129 ?_
      refine x_iload_n dX8_readPerson_130 2 rfl ?_
      obtain ⟨b28, h⟩ := hp_ck_e h
      obtain ⟨H29, eH29⟩ : ∃ z : hp_H, z = hp_up H27 5 (hp_w (v5_23 + 2)) c13 := ⟨_, rfl⟩
      replace h := hp_let_e eH29 h
      have rH29 := hp_ine eH29 (hp_in_up rH27 rc13)
      refine x_ias 41 rfl eH29 (sm_5 hG) (by decide) (Nat.le_of_ble_eq_true rfl) b28 dX8_readPerson_131 ?_
      refine x_aload_n dX8_readPerson_132 4 rfl ?_
      refine x_getr 6 (sm_0 hG) (by decide) (C := RX8) (T := TX8) (N := 26) rfl in_X8 (by decide) rfl wf_863 dX8_readPerson_133 ?_
      refine x_iload dX8_readPerson_136 0 rfl ?_
      refine x_iconst dX8_readPerson_138 ?_
      refine x_iadd dX8_readPerson_139 ?_
      refine x_iload dX8_readPerson_140 1 rfl ?_
      obtain ⟨b30, h⟩ := hp_ck_e h
      obtain ⟨H31, eH31⟩ : ∃ z : hp_H, z = hp_up H29 5 (hp_w (v5_23 + 3)) c18 := ⟨_, rfl⟩
      replace h := hp_let_e eH31 h
      have rH31 := hp_ine eH31 (hp_in_up rH29 rc18)
      refine x_ias 41 rfl eH31 (sm_5 hG) (by decide) (Nat.le_of_ble_eq_true rfl) b30 dX8_readPerson_142 ?_
      refine x_aload_n dX8_readPerson_143 4 rfl ?_
      refine x_getr 6 (sm_0 hG) (by decide) (C := RX8) (T := TX8) (N := 26) rfl in_X8 (by decide) rfl wf_863 dX8_readPerson_144 ?_
      refine x_iconst dX8_readPerson_147 ?_
      refine x_dup2 rfl rfl dX8_readPerson_148 ?_
      refine x_ia 41 rfl (sm_5 hG) (by decide) (Nat.le_of_ble_eq_true rfl) (by decide) dX8_readPerson_149 ?_
      refine x_iconst dX8_readPerson_150 ?_
      refine x_iadd dX8_readPerson_151 ?_
      obtain ⟨H32, eH32⟩ : ∃ z : hp_H, z = hp_up H31 5 2 (hp_w ((H31 5 2) + 1)) := ⟨_, rfl⟩
      replace h := hp_let_e eH32 h
      have rH32 := hp_ine eH32 (hp_in_up rH31 (hp_rw _))
      refine x_ias 41 rfl eH32 (sm_5 hG) (by decide) (Nat.le_of_ble_eq_true rfl) (by decide) dX8_readPerson_152 ?_
      cases h
      exact x_vret rH32 dX8_readPerson_153
  clear h
  have h := hm4
  clear hm4
  refine x_icne (tgt := 24) dX8_readPerson_16 (by decide) (rH _ _) (hp_rc rfl) (fun hc33 => ?_) (fun hc33 => ?_)
  · replace h := hp_if hc33 h
    cases h
    exact x_sub [1, 0] rfl (kj rH)
  · replace h := hp_it hc33 h
    refine x_aload_n dX8_readPerson_19 1 rfl ?_
    refine x_iconst dX8_readPerson_20 ?_
    obtain ⟨H35, g34, h⟩ := hp_b1_e h
    refine x_ivv (As := [.int (hp_I 3)]) (ok_X8_bad hG 3 H (hp_rc rfl) rH _ g34) cal_X8_bad (sm_0 hG) (by decide) (C := RX8) (T := TX8) (N := 26) rfl rfl ins_X8_bad sel_X8_bad wm_1002 (by decide) rfl rfl (Nat.le_of_ble_eq_true rfl) dX8_readPerson_21 (fun z9 => ?_)
    have rH35 := z9
    cases h
    exact x_sub [1, 0] rfl (kj rH35)
set_option maxRecDepth 100000 in
theorem ok_X8_town_11 {G : hp_G} (hG : hp_sh G = hp_shm) {l : Launch} {vv : Option Value} {H' : hp_H} {Z : Prop} : ∀ (n : Nat) (v1 : Int) (H : hp_H), hp_r v1 → hp_in H → ∀ Hm : hp_H, f_X8_town_11 n v1 H = some Hm → (hp_in Hm → hp_R G l cX8_town 2 (some .int) "HeelPostModel" (hp_rm 5) vv H' Z 30 [(0, .ref (hp_ad G 0))] [] Hm) → hp_R G l cX8_town 2 (some .int) "HeelPostModel" (hp_rm 5) vv H' Z 11 [(0, .ref (hp_ad G 0)), (1, .int (hp_I v1))] [] H := by
  intro n
  induction n with
  | zero =>
    intro v1 H r1 rH Hm h kx
    exact hp_no h
  | succ n ih =>
    intro v1 H r1 rH Hm h kx
    unfold f_X8_town_11 at h
    refine x_iload_n dX8_town_11 1 rfl ?_
    refine x_bipush rfl dX8_town_12 ?_
    refine x_icge (tgt := 30) dX8_town_14 (by decide) r1 (hp_rc rfl) (fun hc4 => ?_) (fun hc4 => ?_)
    · replace h := hp_if hc4 h
      cases h
      exact x_sub [0] rfl (kx rH)
    · replace h := hp_it hc4 h
      refine x_aload_n dX8_town_17 0 rfl ?_
      refine x_getr 6 (sm_0 hG) (by decide) (C := RX8) (T := TX8) (N := 26) rfl in_X8 (by decide) rfl wf_863 dX8_town_18 ?_
      refine x_iload_n dX8_town_21 1 rfl ?_
      refine x_iconst dX8_town_22 ?_
      obtain ⟨b5, h⟩ := hp_ck_e h
      obtain ⟨H6, eH6⟩ : ∃ z : hp_H, z = hp_up H 5 v1 0 := ⟨_, rfl⟩
      replace h := hp_let_e eH6 h
      have rH6 := hp_ine eH6 (hp_in_up rH (hp_rc rfl))
      refine x_ias 41 rfl eH6 (sm_5 hG) (by decide) (Nat.le_of_ble_eq_true rfl) b5 dX8_town_23 ?_
      obtain ⟨v1_7, ev1_7⟩ : ∃ z : Int, z = (hp_w (v1 + 1)) := ⟨_, rfl⟩
      replace h := hp_let_e ev1_7 h
      have rv1_7 := hp_re ev1_7 (hp_rw _)
      refine x_iiE (L' := [(1, .int (hp_I v1_7)), (0, .ref (hp_ad G 0))]) ev1_7 dX8_town_24 1 rfl (by decide) rfl ?_
      refine x_goto (tgt := 11) dX8_town_27 (by decide) ?_
      exact x_sub [1, 0] rfl (ih v1_7 H6 rv1_7 rH6 _ h kx)
set_option maxRecDepth 100000 in
theorem ok_X8_town_126 {G : hp_G} (hG : hp_sh G = hp_shm) {l : Launch} {vv : Option Value} {H' : hp_H} {Z : Prop} : ∀ (n : Nat) (v1 : Int) (H : hp_H), hp_r v1 → hp_in H → ∀ Hm : hp_H, f_X8_town_126 n v1 H = some Hm → (hp_in Hm → hp_R G l cX8_town 2 (some .int) "HeelPostModel" (hp_rm 5) vv H' Z 150 [(0, .ref (hp_ad G 0))] [] Hm) → hp_R G l cX8_town 2 (some .int) "HeelPostModel" (hp_rm 5) vv H' Z 126 [(0, .ref (hp_ad G 0)), (1, .int (hp_I v1))] [] H := by
  intro n
  induction n with
  | zero =>
    intro v1 H r1 rH Hm h kx
    exact hp_no h
  | succ n ih =>
    intro v1 H r1 rH Hm h kx
    unfold f_X8_town_126 at h
    refine x_iload_n dX8_town_126 1 rfl ?_
    refine x_bipush rfl dX8_town_127 ?_
    refine x_icge (tgt := 150) dX8_town_129 (by decide) r1 (hp_rc rfl) (fun hc38 => ?_) (fun hc38 => ?_)
    · replace h := hp_if hc38 h
      cases h
      exact x_sub [0] rfl (kx rH)
    · replace h := hp_it hc38 h
      refine x_aload_n dX8_town_132 0 rfl ?_
      refine x_getr 5 (sm_0 hG) (by decide) (C := RX8) (T := TX8) (N := 26) rfl in_X8 (by decide) rfl wf_862 dX8_town_133 ?_
      refine x_iload_n dX8_town_136 1 rfl ?_
      refine x_aload_n dX8_town_137 0 rfl ?_
      refine x_getr 6 (sm_0 hG) (by decide) (C := RX8) (T := TX8) (N := 26) rfl in_X8 (by decide) rfl wf_863 dX8_town_138 ?_
      refine x_iload_n dX8_town_141 1 rfl ?_
      obtain ⟨b39, h⟩ := hp_ck_e h
      refine x_ia 41 rfl (sm_5 hG) (by decide) (Nat.le_of_ble_eq_true rfl) b39 dX8_town_142 ?_
      obtain ⟨H40, eH40⟩ : ∃ z : hp_H, z = hp_up H 4 v1 (H 5 v1) := ⟨_, rfl⟩
      replace h := hp_let_e eH40 h
      have rH40 := hp_ine eH40 (hp_in_up rH (rH _ _))
      refine x_ias 41 rfl eH40 (sm_4 hG) (by decide) (Nat.le_of_ble_eq_true rfl) b39 dX8_town_143 ?_
      obtain ⟨v1_41, ev1_41⟩ : ∃ z : Int, z = (hp_w (v1 + 1)) := ⟨_, rfl⟩
      replace h := hp_let_e ev1_41 h
      have rv1_41 := hp_re ev1_41 (hp_rw _)
      refine x_iiE (L' := [(1, .int (hp_I v1_41)), (0, .ref (hp_ad G 0))]) ev1_41 dX8_town_144 1 rfl (by decide) rfl ?_
      refine x_goto (tgt := 126) dX8_town_147 (by decide) ?_
      exact x_sub [1, 0] rfl (ih v1_41 H40 rv1_41 rH40 _ h kx)
set_option maxRecDepth 100000 in
theorem ok_X8_town_90 {G : hp_G} (hG : hp_sh G = hp_shm) {l : Launch} {vv : Option Value} {H' : hp_H} {Z : Prop} : ∀ (n : Nat) (H : hp_H), hp_in H → ∀ Hm : hp_H, f_X8_town_90 n  H = some Hm → (hp_in Hm → hp_R G l cX8_town 2 (some .int) "HeelPostModel" (hp_rm 5) vv H' Z 104 [(0, .ref (hp_ad G 0))] [] Hm) → hp_R G l cX8_town 2 (some .int) "HeelPostModel" (hp_rm 5) vv H' Z 90 [(0, .ref (hp_ad G 0))] [] H := by
  intro n
  induction n with
  | zero =>
    intro H rH Hm h kx
    exact hp_no h
  | succ n ih =>
    intro H rH Hm h kx
    unfold f_X8_town_90 at h
    refine x_aload_n dX8_town_90 0 rfl ?_
    obtain ⟨c47, g46, h⟩ := hp_b1_e h
    refine x_ivi (As := []) (ok_X8_isSort hG H rH _ g46) cal_X8_isSort (sm_0 hG) (by decide) (C := RX8) (T := TX8) (N := 26) rfl rfl ins_X8_isSort sel_X8_isSort wm_1014 (by decide) rfl rfl (Nat.le_of_ble_eq_true rfl) dX8_town_91 (fun z9 => ?_)
    have rc47 := z9
    refine x_ifeq (tgt := 104) dX8_town_94 (by decide) rc47 (fun hc48 => ?_) (fun hc48 => ?_)
    · replace h := hp_it hc48 h
      cases h
      exact x_sub [0] rfl (kx rH)
    · replace h := hp_if hc48 h
      refine x_aload_n dX8_town_97 0 rfl ?_
      obtain ⟨H50, g49, h⟩ := hp_b1_e h
      refine x_ivv (As := []) (ok_X8_readPerson hG H rH _ g49) cal_X8_readPerson (sm_0 hG) (by decide) (C := RX8) (T := TX8) (N := 26) rfl rfl ins_X8_readPerson sel_X8_readPerson wm_1021 (by decide) rfl rfl (Nat.le_of_ble_eq_true rfl) dX8_town_98 (fun z9 => ?_)
      have rH50 := z9
      refine x_goto (tgt := 90) dX8_town_101 (by decide) ?_
      exact x_sub [0] rfl (ih H50 rH50 _ h kx)
set_option maxRecDepth 100000 in
theorem ok_X8_town {G : hp_G} (hG : hp_sh G = hp_shm) {l : Launch}  (H : hp_H) (rH : hp_in H) (x : Int × hp_H) (h : f_X8_town  H = some x) : hp_M G l yX8_town cX8_town 2 (some .int) (hp_rm 5) [.ref (hp_ad G 0)] H (some (.int (hp_I x.1))) x.2 (hp_r x.1 ∧ hp_in x.2) := by
  obtain ⟨r, H'⟩ := x
  unfold f_X8_town at h
  refine hp_body "HeelPostModel" (by decide) rfl ⟨rfl, rfl⟩ (Nat.le_of_ble_eq_true rfl) ?_
  show hp_R G l cX8_town 2 (some .int) "HeelPostModel" (hp_rm 5) (some (.int (hp_I r))) H' (hp_r r ∧ hp_in H') 0 [(0, .ref (hp_ad G 0))] [] H
  refine x_aload_n dX8_town_0 0 rfl ?_
  refine x_iconst dX8_town_1 ?_
  obtain ⟨H1, eH1⟩ : ∃ z : hp_H, z = hp_up H 0 0 0 := ⟨_, rfl⟩
  replace h := hp_let_e eH1 h
  have rH1 := hp_ine eH1 (hp_in_up rH (hp_rc rfl))
  refine x_pi 0 0 rfl tyX8 eH1 (sm_0 hG) (by decide) (C := RX8) (T := TX8) (N := 26) rfl in_X8 tyX8_ok nmX8 (by decide) rfl rfl rfl wf_857 dX8_town_2 ?_
  refine x_aload_n dX8_town_5 0 rfl ?_
  obtain ⟨H3, g2, h⟩ := hp_b1_e h
  refine x_ivv (As := []) (ok_X8_startUp hG H1 rH1 _ g2) cal_X8_startUp (sm_0 hG) (by decide) (C := RX8) (T := TX8) (N := 26) rfl rfl ins_X8_startUp sel_X8_startUp wm_981 (by decide) rfl rfl (Nat.le_of_ble_eq_true rfl) dX8_town_6 (fun z9 => ?_)
  have rH3 := z9
  refine x_iconst dX8_town_9 ?_
  refine x_istore_n (L' := [(1, .int (hp_I 0)), (0, .ref (hp_ad G 0))]) dX8_town_10 rfl (by decide) rfl ?_
  obtain ⟨H8, g9, h⟩ := hp_b1_e h
  refine x_sub [1, 0] rfl (ok_X8_town_11 hG 1000 0 H3 (hp_rc rfl) rH3 _ g9 ?_)
  intro rH8
  refine x_aload_n dX8_town_30 0 rfl ?_
  refine x_aload_n dX8_town_31 0 rfl ?_
  refine x_bipush rfl dX8_town_32 ?_
  obtain ⟨c11, g10, h⟩ := hp_b1_e h
  refine x_ivi (As := [.int (hp_I 116)]) (ok_X8_isLetter hG 116 H8 (hp_rc rfl) rH8 _ g10) cal_X8_isLetter (sm_0 hG) (by decide) (C := RX8) (T := TX8) (N := 26) rfl rfl ins_X8_isLetter sel_X8_isLetter wm_994 (by decide) rfl rfl (Nat.le_of_ble_eq_true rfl) dX8_town_34 (fun z9 => ?_)
  have rc11 := z9
  obtain ⟨H13, g12, h⟩ := hp_b1_e h
  refine x_ivv (As := [.int (hp_I c11)]) (ok_X8_must hG c11 H8 rc11 rH8 _ g12) cal_X8_must (sm_0 hG) (by decide) (C := RX8) (T := TX8) (N := 26) rfl rfl ins_X8_must sel_X8_must wm_998 (by decide) rfl rfl (Nat.le_of_ble_eq_true rfl) dX8_town_37 (fun z9 => ?_)
  have rH13 := z9
  refine x_aload_n dX8_town_40 0 rfl ?_
  refine x_getr 6 (sm_0 hG) (by decide) (C := RX8) (T := TX8) (N := 26) rfl in_X8 (by decide) rfl wf_863 dX8_town_41 ?_
  refine x_iconst dX8_town_44 ?_
  refine x_aload_n dX8_town_45 0 rfl ?_
  refine x_iconst dX8_town_46 ?_
  refine x_bipush rfl dX8_town_47 ?_
  obtain ⟨c15, H16, g14, h⟩ := hp_b2_e h
  refine x_ivi (As := [.int (hp_I 2), .int (hp_I 9)]) (ok_X8_number hG 2 9 H13 (hp_rc rfl) (hp_rc rfl) rH13 _ g14) cal_X8_number (sm_0 hG) (by decide) (C := RX8) (T := TX8) (N := 26) rfl rfl ins_X8_number sel_X8_number wm_1006 (by decide) rfl rfl (Nat.le_of_ble_eq_true rfl) dX8_town_49 (fun z9 => ?_)
  obtain ⟨rc15, rH16⟩ := z9
  obtain ⟨H17, eH17⟩ : ∃ z : hp_H, z = hp_up H16 5 0 c15 := ⟨_, rfl⟩
  replace h := hp_let_e eH17 h
  have rH17 := hp_ine eH17 (hp_in_up rH16 rc15)
  refine x_ias 41 rfl eH17 (sm_5 hG) (by decide) (Nat.le_of_ble_eq_true rfl) (by decide) dX8_town_52 ?_
  refine x_aload_n dX8_town_53 0 rfl ?_
  refine x_bipush rfl dX8_town_54 ?_
  obtain ⟨H19, g18, h⟩ := hp_b1_e h
  refine x_ivv (As := [.int (hp_I 44)]) (ok_X8_mustSign hG 44 H17 (hp_rc rfl) rH17 _ g18) cal_X8_mustSign (sm_0 hG) (by decide) (C := RX8) (T := TX8) (N := 26) rfl rfl ins_X8_mustSign sel_X8_mustSign wm_1010 (by decide) rfl rfl (Nat.le_of_ble_eq_true rfl) dX8_town_56 (fun z9 => ?_)
  have rH19 := z9
  refine x_aload_n dX8_town_59 0 rfl ?_
  refine x_getr 6 (sm_0 hG) (by decide) (C := RX8) (T := TX8) (N := 26) rfl in_X8 (by decide) rfl wf_863 dX8_town_60 ?_
  refine x_iconst dX8_town_63 ?_
  refine x_aload_n dX8_town_64 0 rfl ?_
  refine x_iconst dX8_town_65 ?_
  refine x_bipush rfl dX8_town_66 ?_
  obtain ⟨c21, H22, g20, h⟩ := hp_b2_e h
  refine x_ivi (As := [.int (hp_I 4), .int (hp_I 24)]) (ok_X8_number hG 4 24 H19 (hp_rc rfl) (hp_rc rfl) rH19 _ g20) cal_X8_number (sm_0 hG) (by decide) (C := RX8) (T := TX8) (N := 26) rfl rfl ins_X8_number sel_X8_number wm_1006 (by decide) rfl rfl (Nat.le_of_ble_eq_true rfl) dX8_town_68 (fun z9 => ?_)
  obtain ⟨rc21, rH22⟩ := z9
  obtain ⟨H23, eH23⟩ : ∃ z : hp_H, z = hp_up H22 5 1 c21 := ⟨_, rfl⟩
  replace h := hp_let_e eH23 h
  have rH23 := hp_ine eH23 (hp_in_up rH22 rc21)
  refine x_ias 41 rfl eH23 (sm_5 hG) (by decide) (Nat.le_of_ble_eq_true rfl) (by decide) dX8_town_71 ?_
  refine x_aload_n dX8_town_72 0 rfl ?_
  refine x_bipush rfl dX8_town_73 ?_
  obtain ⟨H25, g24, h⟩ := hp_b1_e h
  refine x_ivv (As := [.int (hp_I 59)]) (ok_X8_mustSign hG 59 H23 (hp_rc rfl) rH23 _ g24) cal_X8_mustSign (sm_0 hG) (by decide) (C := RX8) (T := TX8) (N := 26) rfl rfl ins_X8_mustSign sel_X8_mustSign wm_1010 (by decide) rfl rfl (Nat.le_of_ble_eq_true rfl) dX8_town_75 (fun z9 => ?_)
  have rH25 := z9
  refine x_aload_n dX8_town_78 0 rfl ?_
  obtain ⟨c27, g26, h⟩ := hp_b1_e h
  refine x_ivi (As := []) (ok_X8_isSort hG H25 rH25 _ g26) cal_X8_isSort (sm_0 hG) (by decide) (C := RX8) (T := TX8) (N := 26) rfl rfl ins_X8_isSort sel_X8_isSort wm_1014 (by decide) rfl rfl (Nat.le_of_ble_eq_true rfl) dX8_town_79 (fun z9 => ?_)
  have rc27 := z9
  obtain ⟨H28, hm29, h⟩ := hp_b1_e h
  have kj : hp_in H28 → hp_R G l cX8_town 2 (some .int) "HeelPostModel" (hp_rm 5) (some (.int (hp_I r))) H' (hp_r r ∧ hp_in H') 90 [(0, .ref (hp_ad G 0))] [] H28 := by
    intro rH28
    refine x_aload_n dX8_town_90 0 rfl ?_
    obtain ⟨c31, g30, h⟩ := hp_b1_e h
    refine x_ivi (As := []) (ok_X8_isSort hG H28 rH28 _ g30) cal_X8_isSort (sm_0 hG) (by decide) (C := RX8) (T := TX8) (N := 26) rfl rfl ins_X8_isSort sel_X8_isSort wm_1014 (by decide) rfl rfl (Nat.le_of_ble_eq_true rfl) dX8_town_91 (fun z9 => ?_)
    have rc31 := z9
    refine x_ifeq (tgt := 104) dX8_town_94 (by decide) rc31 (fun hc32 => ?_) (fun hc32 => ?_)
    · replace h := hp_it hc32 h
      refine x_aload_n dX8_town_104 0 rfl ?_
      obtain ⟨c34, H35, g33, h⟩ := hp_b2_e h
      refine x_ivi (As := []) (ok_X8_failed hG H28 rH28 _ g33) cal_X8_failed (sm_0 hG) (by decide) (C := RX8) (T := TX8) (N := 26) rfl rfl ins_X8_failed sel_X8_failed wm_1025 (by decide) rfl rfl (Nat.le_of_ble_eq_true rfl) dX8_town_105 (fun z9 => ?_)
      obtain ⟨rc34, rH35⟩ := z9
      refine x_ifeq (tgt := 119) dX8_town_108 (by decide) rc34 (fun hc36 => ?_) (fun hc36 => ?_)
      · replace h := hp_it hc36 h
        refine x_aload_n dX8_town_119 0 rfl ?_
        refine x_iconst dX8_town_120 ?_
        obtain ⟨H37, eH37⟩ : ∃ z : hp_H, z = hp_up H35 0 9 0 := ⟨_, rfl⟩
        replace h := hp_let_e eH37 h
        have rH37 := hp_ine eH37 (hp_in_up rH35 (hp_rc rfl))
        refine x_pi 9 9 rfl tyX8 eH37 (sm_0 hG) (by decide) (C := RX8) (T := TX8) (N := 26) rfl in_X8 tyX8_ok nmX8 (by decide) rfl rfl rfl wf_866 dX8_town_121 ?_
        refine x_iconst dX8_town_124 ?_
        refine x_istore_n (L' := [(1, .int (hp_I 0)), (0, .ref (hp_ad G 0))]) dX8_town_125 rfl (by decide) rfl ?_
        obtain ⟨H42, g43, h⟩ := hp_b1_e h
        refine x_sub [1, 0] rfl (ok_X8_town_126 hG 1000 0 H37 (hp_rc rfl) rH37 _ g43 ?_)
        intro rH42
        refine x_aload_n dX8_town_150 0 rfl ?_
        refine x_getr 5 (sm_0 hG) (by decide) (C := RX8) (T := TX8) (N := 26) rfl in_X8 (by decide) rfl wf_862 dX8_town_151 ?_
        refine x_iconst dX8_town_154 ?_
        refine x_ia 41 rfl (sm_4 hG) (by decide) (Nat.le_of_ble_eq_true rfl) (by decide) dX8_town_155 ?_
        cases h
        exact x_iret ⟨(rH42 _ _), rH42⟩ dX8_town_156
      · replace h := hp_if hc36 h
        refine x_ldc (x := (-1000100)) wc_1029 rfl dX8_town_111 ?_
        refine x_aload_n dX8_town_113 0 rfl ?_
        refine x_gi 17 17 rfl (sm_0 hG) (by decide) (C := RX8) (T := TX8) (N := 26) rfl in_X8 (by decide) rfl wf_874 dX8_town_114 ?_
        refine x_isub dX8_town_117 ?_
        cases h
        exact x_iret ⟨(hp_rw _), rH35⟩ dX8_town_118
    · replace h := hp_if hc32 h
      refine x_aload_n dX8_town_97 0 rfl ?_
      obtain ⟨H45, g44, h⟩ := hp_b1_e h
      refine x_ivv (As := []) (ok_X8_readPerson hG H28 rH28 _ g44) cal_X8_readPerson (sm_0 hG) (by decide) (C := RX8) (T := TX8) (N := 26) rfl rfl ins_X8_readPerson sel_X8_readPerson wm_1021 (by decide) rfl rfl (Nat.le_of_ble_eq_true rfl) dX8_town_98 (fun z9 => ?_)
      have rH45 := z9
      refine x_goto (tgt := 90) dX8_town_101 (by decide) ?_
      obtain ⟨H51, g52, h⟩ := hp_b1_e h
      refine x_sub [0] rfl (ok_X8_town_90 hG 1000 H45 rH45 _ g52 ?_)
      intro rH51
      refine x_aload_n dX8_town_104 0 rfl ?_
      obtain ⟨c54, H55, g53, h⟩ := hp_b2_e h
      refine x_ivi (As := []) (ok_X8_failed hG H51 rH51 _ g53) cal_X8_failed (sm_0 hG) (by decide) (C := RX8) (T := TX8) (N := 26) rfl rfl ins_X8_failed sel_X8_failed wm_1025 (by decide) rfl rfl (Nat.le_of_ble_eq_true rfl) dX8_town_105 (fun z9 => ?_)
      obtain ⟨rc54, rH55⟩ := z9
      refine x_ifeq (tgt := 119) dX8_town_108 (by decide) rc54 (fun hc56 => ?_) (fun hc56 => ?_)
      · replace h := hp_it hc56 h
        refine x_aload_n dX8_town_119 0 rfl ?_
        refine x_iconst dX8_town_120 ?_
        obtain ⟨H57, eH57⟩ : ∃ z : hp_H, z = hp_up H55 0 9 0 := ⟨_, rfl⟩
        replace h := hp_let_e eH57 h
        have rH57 := hp_ine eH57 (hp_in_up rH55 (hp_rc rfl))
        refine x_pi 9 9 rfl tyX8 eH57 (sm_0 hG) (by decide) (C := RX8) (T := TX8) (N := 26) rfl in_X8 tyX8_ok nmX8 (by decide) rfl rfl rfl wf_866 dX8_town_121 ?_
        refine x_iconst dX8_town_124 ?_
        refine x_istore_n (L' := [(1, .int (hp_I 0)), (0, .ref (hp_ad G 0))]) dX8_town_125 rfl (by decide) rfl ?_
        obtain ⟨H58, g59, h⟩ := hp_b1_e h
        refine x_sub [1, 0] rfl (ok_X8_town_126 hG 1000 0 H57 (hp_rc rfl) rH57 _ g59 ?_)
        intro rH58
        refine x_aload_n dX8_town_150 0 rfl ?_
        refine x_getr 5 (sm_0 hG) (by decide) (C := RX8) (T := TX8) (N := 26) rfl in_X8 (by decide) rfl wf_862 dX8_town_151 ?_
        refine x_iconst dX8_town_154 ?_
        refine x_ia 41 rfl (sm_4 hG) (by decide) (Nat.le_of_ble_eq_true rfl) (by decide) dX8_town_155 ?_
        cases h
        exact x_iret ⟨(rH58 _ _), rH58⟩ dX8_town_156
      · replace h := hp_if hc56 h
        refine x_ldc (x := (-1000100)) wc_1029 rfl dX8_town_111 ?_
        refine x_aload_n dX8_town_113 0 rfl ?_
        refine x_gi 17 17 rfl (sm_0 hG) (by decide) (C := RX8) (T := TX8) (N := 26) rfl in_X8 (by decide) rfl wf_874 dX8_town_114 ?_
        refine x_isub dX8_town_117 ?_
        cases h
        exact x_iret ⟨(hp_rw _), rH55⟩ dX8_town_118
  clear h
  have h := hm29
  clear hm29
  refine x_ifne (tgt := 90) dX8_town_82 (by decide) rc27 (fun hc60 => ?_) (fun hc60 => ?_)
  · replace h := hp_if hc60 h
    cases h
    exact x_sub [0] rfl (kj rH25)
  · replace h := hp_it hc60 h
    refine x_aload_n dX8_town_85 0 rfl ?_
    refine x_iconst dX8_town_86 ?_
    obtain ⟨H62, g61, h⟩ := hp_b1_e h
    refine x_ivv (As := [.int (hp_I 1)]) (ok_X8_bad hG 1 H25 (hp_rc rfl) rH25 _ g61) cal_X8_bad (sm_0 hG) (by decide) (C := RX8) (T := TX8) (N := 26) rfl rfl ins_X8_bad sel_X8_bad wm_1002 (by decide) rfl rfl (Nat.le_of_ble_eq_true rfl) dX8_town_87 (fun z9 => ?_)
    have rH62 := z9
    cases h
    exact x_sub [0] rfl (kj rH62)
set_option maxRecDepth 100000 in
theorem ok_X8_isThere {G : hp_G} (hG : hp_sh G = hp_shm) {l : Launch}  (H : hp_H) (rH : hp_in H) (r : Int) (h : f_X8_isThere  H = some r) : hp_M G l yX8_isThere cX8_isThere 1 (some .boolean) (hp_rm 0) [.ref (hp_ad G 0)] H (some (.int (hp_I r))) H (hp_r r) := by
  unfold f_X8_isThere at h
  refine hp_body "HeelPostModel" (by decide) rfl ⟨rfl, rfl⟩ (Nat.le_of_ble_eq_true rfl) ?_
  show hp_R G l cX8_isThere 1 (some .boolean) "HeelPostModel" (hp_rm 0) (some (.int (hp_I r))) H (hp_r r) 0 [(0, .ref (hp_ad G 0))] [] H
  refine x_aload_n dX8_isThere_0 0 rfl ?_
  refine x_getr 5 (sm_0 hG) (by decide) (C := RX8) (T := TX8) (N := 26) rfl in_X8 (by decide) rfl wf_862 dX8_isThere_1 ?_
  refine x_iconst dX8_isThere_4 ?_
  refine x_ia 41 rfl (sm_4 hG) (by decide) (Nat.le_of_ble_eq_true rfl) (by decide) dX8_isThere_5 ?_
  refine x_ifle (tgt := 13) dX8_isThere_6 (by decide) (rH _ _) (fun hc1 => ?_) (fun hc1 => ?_)
  · replace h := hp_if hc1 h
    refine x_iconst dX8_isThere_13 ?_
    cases h
    exact x_zret (hp_rc rfl) (Or.inl rfl) dX8_isThere_14
  · replace h := hp_it hc1 h
    refine x_iconst dX8_isThere_9 ?_
    refine x_goto (tgt := 14) dX8_isThere_10 (by decide) ?_
    cases h
    exact x_zret (hp_rc rfl) (Or.inr rfl) dX8_isThere_14
set_option maxRecDepth 100000 in
theorem ok_X8_isPerson {G : hp_G} (hG : hp_sh G = hp_shm) {l : Launch} (v1 : Int) (H : hp_H) (r1 : hp_r v1) (rH : hp_in H) (r : Int) (h : f_X8_isPerson v1 H = some r) : hp_M G l yX8_isPerson cX8_isPerson 2 (some .boolean) (hp_rm 1) [.ref (hp_ad G 0), .int (hp_I v1)] H (some (.int (hp_I r))) H (hp_r r) := by
  unfold f_X8_isPerson at h
  refine hp_body "HeelPostModel" (by decide) rfl ⟨rfl, rfl⟩ (Nat.le_of_ble_eq_true rfl) ?_
  show hp_R G l cX8_isPerson 2 (some .boolean) "HeelPostModel" (hp_rm 1) (some (.int (hp_I r))) H (hp_r r) 0 [(0, .ref (hp_ad G 0)), (1, .int (hp_I v1))] [] H
  refine x_iload_n dX8_isPerson_0 1 rfl ?_
  refine x_i2l r1 dX8_isPerson_1 ?_
  refine x_lconst (x := 0) rfl dX8_isPerson_2 ?_
  refine x_aload_n dX8_isPerson_3 0 rfl ?_
  refine x_getr 5 (sm_0 hG) (by decide) (C := RX8) (T := TX8) (N := 26) rfl in_X8 (by decide) rfl wf_862 dX8_isPerson_4 ?_
  refine x_iconst dX8_isPerson_7 ?_
  refine x_ia 41 rfl (sm_4 hG) (by decide) (Nat.le_of_ble_eq_true rfl) (by decide) dX8_isPerson_8 ?_
  refine x_iconst dX8_isPerson_9 ?_
  refine x_isub dX8_isPerson_10 ?_
  refine x_i2l (hp_rw _) dX8_isPerson_11 ?_
  obtain ⟨c2, g1, h⟩ := hp_b1_e h
  refine x_isi (As := [.long (hp_J v1), .long (hp_J 0), .long (hp_J (hp_w ((H 4 2) - 1)))]) (ok_X8_in hG v1 0 (hp_w ((H 4 2) - 1)) H (hp_rrl r1) (hp_rlc rfl) (hp_rrl (hp_rw _)) rH _ g1) cal_X8_in stt_X8_in wm_945 (by decide) rfl rfl (Nat.le_of_ble_eq_true rfl) dX8_isPerson_12 (fun z9 => ?_)
  have rc2 := z9
  obtain ⟨b3, h⟩ := hp_ck_e h
  cases h
  exact x_zret rc2 b3 dX8_isPerson_15
set_option maxRecDepth 100000 in
theorem ok_X8_isLane {G : hp_G} (hG : hp_sh G = hp_shm) {l : Launch} (v1 : Int) (H : hp_H) (r1 : hp_r v1) (rH : hp_in H) (r : Int) (h : f_X8_isLane v1 H = some r) : hp_M G l yX8_isLane cX8_isLane 2 (some .boolean) (hp_rm 1) [.ref (hp_ad G 0), .int (hp_I v1)] H (some (.int (hp_I r))) H (hp_r r) := by
  unfold f_X8_isLane at h
  refine hp_body "HeelPostModel" (by decide) rfl ⟨rfl, rfl⟩ (Nat.le_of_ble_eq_true rfl) ?_
  show hp_R G l cX8_isLane 2 (some .boolean) "HeelPostModel" (hp_rm 1) (some (.int (hp_I r))) H (hp_r r) 0 [(0, .ref (hp_ad G 0)), (1, .int (hp_I v1))] [] H
  refine x_iload_n dX8_isLane_0 1 rfl ?_
  refine x_i2l r1 dX8_isLane_1 ?_
  refine x_lconst (x := 0) rfl dX8_isLane_2 ?_
  refine x_aload_n dX8_isLane_3 0 rfl ?_
  refine x_getr 5 (sm_0 hG) (by decide) (C := RX8) (T := TX8) (N := 26) rfl in_X8 (by decide) rfl wf_862 dX8_isLane_4 ?_
  refine x_iconst dX8_isLane_7 ?_
  refine x_ia 41 rfl (sm_4 hG) (by decide) (Nat.le_of_ble_eq_true rfl) (by decide) dX8_isLane_8 ?_
  refine x_iconst dX8_isLane_9 ?_
  refine x_isub dX8_isLane_10 ?_
  refine x_i2l (hp_rw _) dX8_isLane_11 ?_
  obtain ⟨c2, g1, h⟩ := hp_b1_e h
  refine x_isi (As := [.long (hp_J v1), .long (hp_J 0), .long (hp_J (hp_w ((H 4 0) - 1)))]) (ok_X8_in hG v1 0 (hp_w ((H 4 0) - 1)) H (hp_rrl r1) (hp_rlc rfl) (hp_rrl (hp_rw _)) rH _ g1) cal_X8_in stt_X8_in wm_945 (by decide) rfl rfl (Nat.le_of_ble_eq_true rfl) dX8_isLane_12 (fun z9 => ?_)
  have rc2 := z9
  obtain ⟨b3, h⟩ := hp_ck_e h
  cases h
  exact x_zret rc2 b3 dX8_isLane_15
set_option maxRecDepth 100000 in
theorem ok_X8_isPosted {G : hp_G} (hG : hp_sh G = hp_shm) {l : Launch} (v1 : Int) (H : hp_H) (r1 : hp_r v1) (rH : hp_in H) (r : Int) (h : f_X8_isPosted v1 H = some r) : hp_M G l yX8_isPosted cX8_isPosted 2 (some .boolean) (hp_rm 1) [.ref (hp_ad G 0), .int (hp_I v1)] H (some (.int (hp_I r))) H (hp_r r) := by
  unfold f_X8_isPosted at h
  refine hp_body "HeelPostModel" (by decide) rfl ⟨rfl, rfl⟩ (Nat.le_of_ble_eq_true rfl) ?_
  show hp_R G l cX8_isPosted 2 (some .boolean) "HeelPostModel" (hp_rm 1) (some (.int (hp_I r))) H (hp_r r) 0 [(0, .ref (hp_ad G 0)), (1, .int (hp_I v1))] [] H
  refine x_aload_n dX8_isPosted_0 0 rfl ?_
  obtain ⟨c2, g1, h⟩ := hp_b1_e h
  refine x_ivi (As := []) (ok_X8_isThere hG H rH _ g1) cal_X8_isThere (sm_0 hG) (by decide) (C := RX8) (T := TX8) (N := 26) rfl rfl ins_X8_isThere sel_X8_isThere wm_1034 (by decide) rfl rfl (Nat.le_of_ble_eq_true rfl) dX8_isPosted_1 (fun z9 => ?_)
  have rc2 := z9
  refine x_ifeq (tgt := 23) dX8_isPosted_4 (by decide) rc2 (fun hc3 => ?_) (fun hc3 => ?_)
  · replace h := hp_it hc3 h
    refine x_iconst dX8_isPosted_23 ?_
    cases h
    exact x_zret (hp_rc rfl) (Or.inl rfl) dX8_isPosted_24
  · replace h := hp_if hc3 h
    refine x_iload_n dX8_isPosted_7 1 rfl ?_
    refine x_i2l r1 dX8_isPosted_8 ?_
    refine x_lconst (x := 0) rfl dX8_isPosted_9 ?_
    refine x_ldc2 (x := 3) wc_1081 rfl dX8_isPosted_10 ?_
    obtain ⟨c5, g4, h⟩ := hp_b1_e h
    refine x_isi (As := [.long (hp_J v1), .long (hp_J 0), .long (hp_J 3)]) (ok_X8_in hG v1 0 3 H (hp_rrl r1) (hp_rlc rfl) (hp_rlc rfl) rH _ g4) cal_X8_in stt_X8_in wm_945 (by decide) rfl rfl (Nat.le_of_ble_eq_true rfl) dX8_isPosted_13 (fun z9 => ?_)
    have rc5 := z9
    refine x_ifeq (tgt := 23) dX8_isPosted_16 (by decide) rc5 (fun hc6 => ?_) (fun hc6 => ?_)
    · replace h := hp_it hc6 h
      refine x_iconst dX8_isPosted_23 ?_
      cases h
      exact x_zret (hp_rc rfl) (Or.inl rfl) dX8_isPosted_24
    · replace h := hp_if hc6 h
      refine x_iconst dX8_isPosted_19 ?_
      refine x_goto (tgt := 24) dX8_isPosted_20 (by decide) ?_
      cases h
      exact x_zret (hp_rc rfl) (Or.inr rfl) dX8_isPosted_24
set_option maxRecDepth 100000 in
theorem ok_X8_bits_4 {G : hp_G} (hG : hp_sh G = hp_shm) {l : Launch} {vv : Option Value} {H' : hp_H} {Z : Prop} : ∀ (n : Nat) (v0 : Int) (v1 : Int) (v2 : Int) (H : hp_H), hp_r v0 → hp_r v1 → hp_r v2 → hp_in H → ∀ m1 : Int, f_X8_bits_4 n v0 v1 v2 H = some m1 → (hp_r m1 → hp_R G l cX8_bits 3 (some .int) "HeelPostModel" (hp_rm 0) vv H' Z 24 [(1, .int (hp_I m1))] [] H) → hp_R G l cX8_bits 3 (some .int) "HeelPostModel" (hp_rm 0) vv H' Z 4 [(0, .int (hp_I v0)), (1, .int (hp_I v1)), (2, .int (hp_I v2))] [] H := by
  intro n
  induction n with
  | zero =>
    intro v0 v1 v2 H r0 r1 r2 rH m1 h kx
    exact hp_no h
  | succ n ih =>
    intro v0 v1 v2 H r0 r1 r2 rH m1 h kx
    unfold f_X8_bits_4 at h
    refine x_iload_n dX8_bits_4 2 rfl ?_
    refine x_bipush rfl dX8_bits_5 ?_
    refine x_icge (tgt := 24) dX8_bits_7 (by decide) r2 (hp_rc rfl) (fun hc1 => ?_) (fun hc1 => ?_)
    · replace h := hp_if hc1 h
      cases h
      exact x_sub [1] rfl (kx r1)
    · replace h := hp_it hc1 h
      refine x_iload_n dX8_bits_10 1 rfl ?_
      refine x_iload_n dX8_bits_11 0 rfl ?_
      refine x_iload_n dX8_bits_12 2 rfl ?_
      refine x_ishr dX8_bits_13 ?_
      refine x_iconst dX8_bits_14 ?_
      refine x_iand dX8_bits_15 ?_
      refine x_iadd dX8_bits_16 ?_
      obtain ⟨v1_2, ev1_2⟩ : ∃ z : Int, z = (hp_w (v1 + (hp_and (hp_shr v0 v2) 1))) := ⟨_, rfl⟩
      replace h := hp_let_e ev1_2 h
      have rv1_2 := hp_re ev1_2 (hp_rw _)
      refine x_isnE (L' := [(1, .int (hp_I v1_2)), (0, .int (hp_I v0)), (2, .int (hp_I v2))]) ev1_2 dX8_bits_17 rfl (by decide) rfl ?_
      obtain ⟨v2_3, ev2_3⟩ : ∃ z : Int, z = (hp_w (v2 + 1)) := ⟨_, rfl⟩
      replace h := hp_let_e ev2_3 h
      have rv2_3 := hp_re ev2_3 (hp_rw _)
      refine x_iiE (L' := [(2, .int (hp_I v2_3)), (1, .int (hp_I v1_2)), (0, .int (hp_I v0))]) ev2_3 dX8_bits_18 2 rfl (by decide) rfl ?_
      refine x_goto (tgt := 4) dX8_bits_21 (by decide) ?_
      exact x_sub [2, 1, 0] rfl (ih v0 v1_2 v2_3 H r0 rv1_2 rv2_3 rH _ h kx)
set_option maxRecDepth 100000 in
theorem ok_X8_bits {G : hp_G} (hG : hp_sh G = hp_shm) {l : Launch} (v0 : Int) (H : hp_H) (r0 : hp_r v0) (rH : hp_in H) (r : Int) (h : f_X8_bits v0 H = some r) : hp_M G l yX8_bits cX8_bits 3 (some .int) (hp_rm 0) [.int (hp_I v0)] H (some (.int (hp_I r))) H (hp_r r) := by
  unfold f_X8_bits at h
  refine hp_body "HeelPostModel" (by decide) rfl ⟨rfl, rfl⟩ (Nat.le_of_ble_eq_true rfl) ?_
  show hp_R G l cX8_bits 3 (some .int) "HeelPostModel" (hp_rm 0) (some (.int (hp_I r))) H (hp_r r) 0 [(0, .int (hp_I v0))] [] H
  refine x_iconst dX8_bits_0 ?_
  refine x_istore_n (L' := [(1, .int (hp_I 0)), (0, .int (hp_I v0))]) dX8_bits_1 rfl (by decide) rfl ?_
  refine x_iconst dX8_bits_2 ?_
  refine x_istore_n (L' := [(2, .int (hp_I 0)), (1, .int (hp_I 0)), (0, .int (hp_I v0))]) dX8_bits_3 rfl (by decide) rfl ?_
  obtain ⟨v1_4, g5, h⟩ := hp_b1_e h
  refine x_sub [2, 1, 0] rfl (ok_X8_bits_4 hG 1000 v0 0 0 H r0 (hp_rc rfl) (hp_rc rfl) rH _ g5 ?_)
  intro rv1_4
  refine x_iload_n dX8_bits_24 0 rfl ?_
  cases h
  exact x_iret rv1_4 dX8_bits_25
set_option maxRecDepth 100000 in
theorem ok_X8_has {G : hp_G} (hG : hp_sh G = hp_shm) {l : Launch} (v0 : Int) (v1 : Int) (H : hp_H) (r0 : hp_r v0) (r1 : hp_r v1) (rH : hp_in H) (r : Int) (h : f_X8_has v0 v1 H = some r) : hp_M G l yX8_has cX8_has 2 (some .boolean) (hp_rm 0) [.int (hp_I v0), .int (hp_I v1)] H (some (.int (hp_I r))) H (hp_r r) := by
  unfold f_X8_has at h
  refine hp_body "HeelPostModel" (by decide) rfl ⟨rfl, rfl⟩ (Nat.le_of_ble_eq_true rfl) ?_
  show hp_R G l cX8_has 2 (some .boolean) "HeelPostModel" (hp_rm 0) (some (.int (hp_I r))) H (hp_r r) 0 [(0, .int (hp_I v0)), (1, .int (hp_I v1))] [] H
  refine x_iload_n dX8_has_0 0 rfl ?_
  refine x_iload_n dX8_has_1 1 rfl ?_
  refine x_ishr dX8_has_2 ?_
  refine x_iconst dX8_has_3 ?_
  refine x_iand dX8_has_4 ?_
  refine x_iconst dX8_has_5 ?_
  refine x_icne (tgt := 13) dX8_has_6 (by decide) (hp_rand _ _) (hp_rc rfl) (fun hc1 => ?_) (fun hc1 => ?_)
  · replace h := hp_if hc1 h
    refine x_iconst dX8_has_13 ?_
    cases h
    exact x_zret (hp_rc rfl) (Or.inl rfl) dX8_has_14
  · replace h := hp_it hc1 h
    refine x_iconst dX8_has_9 ?_
    refine x_goto (tgt := 14) dX8_has_10 (by decide) ?_
    cases h
    exact x_zret (hp_rc rfl) (Or.inr rfl) dX8_has_14
set_option maxRecDepth 100000 in
theorem ok_X8_of {G : hp_G} (hG : hp_sh G = hp_shm) {l : Launch} (a : Int) (v1 : Int) (v2 : Int) (H : hp_H) (ha : (hp_sh G)[(a).toNat]? = some (1, 41, [])) (ha0 : 0 ≤ a) (r1 : hp_r v1) (r2 : hp_r v2) (rH : hp_in H) (r : Int) (h : f_X8_of a v1 v2 H = some r) : hp_M G l yX8_of cX8_of 3 (some .int) (hp_rm 0) [.ref (hp_ad G a), .int (hp_I v1), .int (hp_I v2)] H (some (.int (hp_I r))) H (hp_r r) := by
  unfold f_X8_of at h
  refine hp_body "HeelPostModel" (by decide) rfl ⟨rfl, rfl⟩ (Nat.le_of_ble_eq_true rfl) ?_
  show hp_R G l cX8_of 3 (some .int) "HeelPostModel" (hp_rm 0) (some (.int (hp_I r))) H (hp_r r) 0 [(0, .ref (hp_ad G a)), (1, .int (hp_I v1)), (2, .int (hp_I v2))] [] H
  refine x_aload_n dX8_of_0 0 rfl ?_
  refine x_bipush rfl dX8_of_1 ?_
  refine x_iconst dX8_of_3 ?_
  refine x_iload_n dX8_of_4 1 rfl ?_
  refine x_imul dX8_of_5 ?_
  refine x_iadd dX8_of_6 ?_
  refine x_iload_n dX8_of_7 2 rfl ?_
  refine x_iadd dX8_of_8 ?_
  obtain ⟨b1, h⟩ := hp_ck_e h
  refine x_ia 41 rfl ha ha0 (Nat.le_of_ble_eq_true rfl) b1 dX8_of_9 ?_
  cases h
  exact x_iret (rH _ _) dX8_of_10
set_option maxRecDepth 100000 in
theorem ok_X8_its {G : hp_G} (hG : hp_sh G = hp_shm) {l : Launch} (a : Int) (v1 : Int) (v2 : Int) (H : hp_H) (ha : (hp_sh G)[(a).toNat]? = some (1, 41, [])) (ha0 : 0 ≤ a) (r1 : hp_r v1) (r2 : hp_r v2) (rH : hp_in H) (r : Int) (h : f_X8_its a v1 v2 H = some r) : hp_M G l yX8_its cX8_its 3 (some .int) (hp_rm 0) [.ref (hp_ad G a), .int (hp_I v1), .int (hp_I v2)] H (some (.int (hp_I r))) H (hp_r r) := by
  unfold f_X8_its at h
  refine hp_body "HeelPostModel" (by decide) rfl ⟨rfl, rfl⟩ (Nat.le_of_ble_eq_true rfl) ?_
  show hp_R G l cX8_its 3 (some .int) "HeelPostModel" (hp_rm 0) (some (.int (hp_I r))) H (hp_r r) 0 [(0, .ref (hp_ad G a)), (1, .int (hp_I v1)), (2, .int (hp_I v2))] [] H
  refine x_aload_n dX8_its_0 0 rfl ?_
  refine x_iconst dX8_its_1 ?_
  refine x_iconst dX8_its_2 ?_
  refine x_iload_n dX8_its_3 1 rfl ?_
  refine x_imul dX8_its_4 ?_
  refine x_iadd dX8_its_5 ?_
  refine x_iload_n dX8_its_6 2 rfl ?_
  refine x_iadd dX8_its_7 ?_
  obtain ⟨b1, h⟩ := hp_ck_e h
  refine x_ia 41 rfl ha ha0 (Nat.le_of_ble_eq_true rfl) b1 dX8_its_8 ?_
  cases h
  exact x_iret (rH _ _) dX8_its_9
