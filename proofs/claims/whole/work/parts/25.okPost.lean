/-! the bytecode does what the functions say: made by program (wip/whole/gen.py) -/
set_option maxRecDepth 100000 in
theorem ok_X7_found {G : hp_G} (hG : hp_sh G = hp_shc) {l : Launch} (v1 : Int) (H : hp_H) (r1 : hp_r v1) (rH : hp_in H) (x : Int × hp_H) (h : f_X7_found v1 H = some x) : hp_M G l yX7_found cX7_found 2 (some .int) (hp_rm 0) [.ref (hp_ad G 0), .int (hp_I v1)] H (some (.int (hp_I x.1))) x.2 (hp_r x.1 ∧ hp_in x.2) := by
  obtain ⟨r, H'⟩ := x
  unfold f_X7_found at h
  refine hp_body "HeelPost" (by decide) rfl ⟨rfl, rfl⟩ (Nat.le_of_ble_eq_true rfl) ?_
  show hp_R G l cX7_found 2 (some .int) "HeelPost" (hp_rm 0) (some (.int (hp_I r))) H' (hp_r r ∧ hp_in H') 0 [(0, .ref (hp_ad G 0)), (1, .int (hp_I v1))] [] H
  refine x_aload_n dX7_found_0 0 rfl ?_
  refine x_iload_n dX7_found_1 1 rfl ?_
  obtain ⟨H1, eH1⟩ : ∃ z : hp_H, z = hp_up H 0 10 v1 := ⟨_, rfl⟩
  replace h := hp_let_e eH1 h
  have rH1 := hp_ine eH1 (hp_in_up rH r1)
  refine x_pi 10 10 rfl tyX7 eH1 (sc_0 hG) (by decide) (C := RX7) (T := TX7) (N := 11) rfl in_X7 tyX7_ok nmX7 (by decide) rfl rfl rfl wf_236 dX7_found_2 ?_
  refine x_ldcw (x := (-1000010)) wc_275 rfl dX7_found_5 ?_
  refine x_iload_n dX7_found_8 1 rfl ?_
  refine x_isub dX7_found_9 ?_
  cases h
  exact x_iret ⟨(hp_rw _), rH1⟩ dX7_found_10
set_option maxRecDepth 100000 in
theorem ok_X7_unfound {G : hp_G} (hG : hp_sh G = hp_shc) {l : Launch} (v1 : Int) (H : hp_H) (r1 : hp_r v1) (rH : hp_in H) (x : Int × hp_H) (h : f_X7_unfound v1 H = some x) : hp_M G l yX7_unfound cX7_unfound 2 (some .int) (hp_rm 0) [.ref (hp_ad G 0), .int (hp_I v1)] H (some (.int (hp_I x.1))) x.2 (hp_r x.1 ∧ hp_in x.2) := by
  obtain ⟨r, H'⟩ := x
  unfold f_X7_unfound at h
  refine hp_body "HeelPost" (by decide) rfl ⟨rfl, rfl⟩ (Nat.le_of_ble_eq_true rfl) ?_
  show hp_R G l cX7_unfound 2 (some .int) "HeelPost" (hp_rm 0) (some (.int (hp_I r))) H' (hp_r r ∧ hp_in H') 0 [(0, .ref (hp_ad G 0)), (1, .int (hp_I v1))] [] H
  refine x_aload_n dX7_unfound_0 0 rfl ?_
  refine x_iconst dX7_unfound_1 ?_
  obtain ⟨H1, eH1⟩ : ∃ z : hp_H, z = hp_up H 0 10 0 := ⟨_, rfl⟩
  replace h := hp_let_e eH1 h
  have rH1 := hp_ine eH1 (hp_in_up rH (hp_rc rfl))
  refine x_pi 10 10 rfl tyX7 eH1 (sc_0 hG) (by decide) (C := RX7) (T := TX7) (N := 11) rfl in_X7 tyX7_ok nmX7 (by decide) rfl rfl rfl wf_236 dX7_unfound_2 ?_
  refine x_iload_n dX7_unfound_5 1 rfl ?_
  cases h
  exact x_iret ⟨r1, rH1⟩ dX7_unfound_6
set_option maxRecDepth 100000 in
theorem ok_X7_row {G : hp_G} (hG : hp_sh G = hp_shc) {l : Launch} (v1 : Int) (v2 : Int) (v3 : Int) (H : hp_H) (r1 : hp_r v1) (r2 : hp_r v2) (r3 : hp_r v3) (rH : hp_in H) (x : Int × hp_H) (h : f_X7_row v1 v2 v3 H = some x) : hp_M G l yX7_row cX7_row 4 (some .int) (hp_rm 1) [.ref (hp_ad G 0), .int (hp_I v1), .int (hp_I v2), .int (hp_I v3)] H (some (.int (hp_I x.1))) x.2 (hp_r x.1 ∧ hp_in x.2) := by
  obtain ⟨r, H'⟩ := x
  unfold f_X7_row at h
  refine hp_body "HeelPost" (by decide) rfl ⟨rfl, rfl⟩ (Nat.le_of_ble_eq_true rfl) ?_
  show hp_R G l cX7_row 4 (some .int) "HeelPost" (hp_rm 1) (some (.int (hp_I r))) H' (hp_r r ∧ hp_in H') 0 [(0, .ref (hp_ad G 0)), (1, .int (hp_I v1)), (2, .int (hp_I v2)), (3, .int (hp_I v3))] [] H
  refine x_iload_n dX7_row_0 1 rfl ?_
  obtain ⟨c2, g1, h⟩ := hp_b1_e h
  refine x_isi (As := [.int (hp_I v1)]) (ok_X4_isRow hG v1 H r1 rH _ g1) cal_X4_isRow stt_X4_isRow wm_264 (by decide) rfl rfl (Nat.le_of_ble_eq_true rfl) dX7_row_1 (fun z9 => ?_)
  have rc2 := z9
  refine x_ifeq (tgt := 22) dX7_row_4 (by decide) rc2 (fun hc3 => ?_) (fun hc3 => ?_)
  · replace h := hp_it hc3 h
    refine x_ldc (x := (-1000001)) wc_270 rfl dX7_row_22 ?_
    cases h
    exact x_iret ⟨(hp_rc rfl), rH⟩ dX7_row_24
  · replace h := hp_if hc3 h
    refine x_iload_n dX7_row_7 2 rfl ?_
    refine x_iconst dX7_row_8 ?_
    refine x_iconst dX7_row_9 ?_
    obtain ⟨c5, g4, h⟩ := hp_b1_e h
    refine x_isi (As := [.int (hp_I v2), .int (hp_I 0), .int (hp_I 2)]) (ok_X7_within hG v2 0 2 H r2 (hp_rc rfl) (hp_rc rfl) rH _ g4) cal_X7_within stt_X7_within wm_267 (by decide) rfl rfl (Nat.le_of_ble_eq_true rfl) dX7_row_10 (fun z9 => ?_)
    have rc5 := z9
    refine x_ifeq (tgt := 22) dX7_row_13 (by decide) rc5 (fun hc6 => ?_) (fun hc6 => ?_)
    · replace h := hp_it hc6 h
      refine x_ldc (x := (-1000001)) wc_270 rfl dX7_row_22 ?_
      cases h
      exact x_iret ⟨(hp_rc rfl), rH⟩ dX7_row_24
    · replace h := hp_if hc6 h
      refine x_iload_n dX7_row_16 3 rfl ?_
      refine x_bipush rfl dX7_row_17 ?_
      refine x_icle (tgt := 25) dX7_row_19 (by decide) r3 (hp_rc rfl) (fun hc7 => ?_) (fun hc7 => ?_)
      · replace h := hp_if hc7 h
        refine x_iload_n dX7_row_25 3 rfl ?_
        refine x_ifge (tgt := 35) dX7_row_26 (by decide) r3 (fun hc8 => ?_) (fun hc8 => ?_)
        · replace h := hp_if hc8 h
          refine x_aload_n dX7_row_35 0 rfl ?_
          refine x_getr 0 (sc_0 hG) (by decide) (C := RX7) (T := TX7) (N := 11) rfl in_X7 (by decide) rfl wf_226 dX7_row_36 ?_
          refine x_iload_n dX7_row_39 1 rfl ?_
          refine x_iload_n dX7_row_40 2 rfl ?_
          refine x_iload_n dX7_row_41 3 rfl ?_
          obtain ⟨H13, g12, h⟩ := hp_b1_e h
          refine x_ivv (As := [.int (hp_I v1), .int (hp_I v2), .int (hp_I v3)]) (ok_X4_make hG v1 v2 v3 H r1 r2 r3 rH _ g12) cal_X4_make (sc_1 hG) (by decide) (C := RX4) (T := TX4) (N := 3) rfl rfl ins_X4_make sel_X4_make wm_276 (by decide) rfl rfl (Nat.le_of_ble_eq_true rfl) dX7_row_42 (fun z9 => ?_)
          have rH13 := z9
          refine x_aload_n dX7_row_45 0 rfl ?_
          refine x_iload_n dX7_row_46 3 rfl ?_
          obtain ⟨c15, H16, g14, h⟩ := hp_b2_e h
          refine x_ivi (As := [.int (hp_I v3)]) (ok_X7_unfound hG v3 H13 r3 rH13 _ g14) cal_X7_unfound (sc_0 hG) (by decide) (C := RX7) (T := TX7) (N := 11) rfl rfl ins_X7_unfound sel_X7_unfound wm_280 (by decide) rfl rfl (Nat.le_of_ble_eq_true rfl) dX7_row_47 (fun z9 => ?_)
          obtain ⟨rc15, rH16⟩ := z9
          cases h
          exact x_iret ⟨rc15, rH16⟩ dX7_row_50
        · replace h := hp_it hc8 h
          refine x_aload_n dX7_row_29 0 rfl ?_
          refine x_iconst dX7_row_30 ?_
          obtain ⟨c10, H11, g9, h⟩ := hp_b2_e h
          refine x_ivi (As := [.int (hp_I 4)]) (ok_X7_found hG 4 H (hp_rc rfl) rH _ g9) cal_X7_found (sc_0 hG) (by decide) (C := RX7) (T := TX7) (N := 11) rfl rfl ins_X7_found sel_X7_found wm_271 (by decide) rfl rfl (Nat.le_of_ble_eq_true rfl) dX7_row_31 (fun z9 => ?_)
          obtain ⟨rc10, rH11⟩ := z9
          cases h
          exact x_iret ⟨rc10, rH11⟩ dX7_row_34
      · replace h := hp_it hc7 h
        refine x_ldc (x := (-1000001)) wc_270 rfl dX7_row_22 ?_
        cases h
        exact x_iret ⟨(hp_rc rfl), rH⟩ dX7_row_24
set_option maxRecDepth 100000 in
theorem ok_X7_set {G : hp_G} (hG : hp_sh G = hp_shc) {l : Launch} (v1 : Int) (v2 : Int) (v3 : Int) (H : hp_H) (r1 : hp_r v1) (r2 : hp_r v2) (r3 : hp_r v3) (rH : hp_in H) (x : Int × hp_H) (h : f_X7_set v1 v2 v3 H = some x) : hp_M G l yX7_set cX7_set 5 (some .int) (hp_rm 2) [.ref (hp_ad G 0), .int (hp_I v1), .int (hp_I v2), .int (hp_I v3)] H (some (.int (hp_I x.1))) x.2 (hp_r x.1 ∧ hp_in x.2) := by
  obtain ⟨r, H'⟩ := x
  unfold f_X7_set at h
  refine hp_body "HeelPost" (by decide) rfl ⟨rfl, rfl⟩ (Nat.le_of_ble_eq_true rfl) ?_
  show hp_R G l cX7_set 5 (some .int) "HeelPost" (hp_rm 2) (some (.int (hp_I r))) H' (hp_r r ∧ hp_in H') 0 [(0, .ref (hp_ad G 0)), (1, .int (hp_I v1)), (2, .int (hp_I v2)), (3, .int (hp_I v3))] [] H
  refine x_iload_n dX7_set_0 1 rfl ?_
  obtain ⟨c2, g1, h⟩ := hp_b1_e h
  refine x_isi (As := [.int (hp_I v1)]) (ok_X4_isRow hG v1 H r1 rH _ g1) cal_X4_isRow stt_X4_isRow wm_264 (by decide) rfl rfl (Nat.le_of_ble_eq_true rfl) dX7_set_1 (fun z9 => ?_)
  have rc2 := z9
  refine x_ifne (tgt := 10) dX7_set_4 (by decide) rc2 (fun hc3 => ?_) (fun hc3 => ?_)
  · replace h := hp_if hc3 h
    refine x_aload_n dX7_set_10 0 rfl ?_
    refine x_getr 0 (sc_0 hG) (by decide) (C := RX7) (T := TX7) (N := 11) rfl in_X7 (by decide) rfl wf_226 dX7_set_11 ?_
    refine x_iload_n dX7_set_14 1 rfl ?_
    refine x_iload_n dX7_set_15 2 rfl ?_
    refine x_iconst dX7_set_16 ?_
    obtain ⟨c5, g4, h⟩ := hp_b1_e h
    refine x_ivi (As := [.int (hp_I v1), .int (hp_I v2), .int (hp_I 1)]) (ok_X4_findingOf hG v1 v2 1 H r1 r2 (hp_rc rfl) rH _ g4) cal_X4_findingOf (sc_1 hG) (by decide) (C := RX4) (T := TX4) (N := 3) rfl rfl ins_X4_findingOf sel_X4_findingOf wm_288 (by decide) rfl rfl (Nat.le_of_ble_eq_true rfl) dX7_set_17 (fun z9 => ?_)
    have rc5 := z9
    refine x_istore (L' := [(4, .int (hp_I c5)), (0, .ref (hp_ad G 0)), (1, .int (hp_I v1)), (2, .int (hp_I v2)), (3, .int (hp_I v3))]) dX7_set_20 (by decide) rfl ?_
    refine x_iload dX7_set_22 0 rfl ?_
    refine x_ifeq (tgt := 36) dX7_set_24 (by decide) rc5 (fun hc6 => ?_) (fun hc6 => ?_)
    · replace h := hp_it hc6 h
      refine x_aload_n dX7_set_36 1 rfl ?_
      refine x_aload_n dX7_set_37 1 rfl ?_
      refine x_getr 0 (sc_0 hG) (by decide) (C := RX7) (T := TX7) (N := 11) rfl in_X7 (by decide) rfl wf_226 dX7_set_38 ?_
      refine x_iload_n dX7_set_41 2 rfl ?_
      refine x_iload_n dX7_set_42 3 rfl ?_
      refine x_iload_n dX7_set_43 4 rfl ?_
      obtain ⟨c8, H9, g7, h⟩ := hp_b2_e h
      refine x_ivi (As := [.int (hp_I v1), .int (hp_I v2), .int (hp_I v3)]) (ok_X4_put hG v1 v2 v3 H r1 r2 r3 rH _ g7) cal_X4_put (sc_1 hG) (by decide) (C := RX4) (T := TX4) (N := 3) rfl rfl ins_X4_put sel_X4_put wm_300 (by decide) rfl rfl (Nat.le_of_ble_eq_true rfl) dX7_set_44 (fun z9 => ?_)
      obtain ⟨rc8, rH9⟩ := z9
      obtain ⟨c11, H12, g10, h⟩ := hp_b2_e h
      refine x_ivi (As := [.int (hp_I c8)]) (ok_X7_unfound hG c8 H9 rc8 rH9 _ g10) cal_X7_unfound (sc_0 hG) (by decide) (C := RX7) (T := TX7) (N := 11) rfl rfl ins_X7_unfound sel_X7_unfound wm_280 (by decide) rfl rfl (Nat.le_of_ble_eq_true rfl) dX7_set_47 (fun z9 => ?_)
      obtain ⟨rc11, rH12⟩ := z9
      cases h
      exact x_iret ⟨rc11, rH12⟩ dX7_set_50
    · replace h := hp_if hc6 h
      refine x_aload_n dX7_set_27 1 rfl ?_
      refine x_iload dX7_set_28 0 rfl ?_
      obtain ⟨c14, H15, g13, h⟩ := hp_b2_e h
      refine x_ivi (As := [.int (hp_I c5)]) (ok_X7_found hG c5 H rc5 rH _ g13) cal_X7_found (sc_0 hG) (by decide) (C := RX7) (T := TX7) (N := 11) rfl rfl ins_X7_found sel_X7_found wm_271 (by decide) rfl rfl (Nat.le_of_ble_eq_true rfl) dX7_set_30 (fun z9 => ?_)
      obtain ⟨rc14, rH15⟩ := z9
      refine x_goto (tgt := 50) dX7_set_33 (by decide) ?_
      cases h
      exact x_iret ⟨rc14, rH15⟩ dX7_set_50
  · replace h := hp_it hc3 h
    refine x_ldc (x := (-1000001)) wc_270 rfl dX7_set_7 ?_
    cases h
    exact x_iret ⟨(hp_rc rfl), rH⟩ dX7_set_9
set_option maxRecDepth 100000 in
theorem ok_X7_copy {G : hp_G} (hG : hp_sh G = hp_shc) {l : Launch} (v1 : Int) (v2 : Int) (v3 : Int) (v4 : Int) (v5 : Int) (H : hp_H) (r1 : hp_r v1) (r2 : hp_r v2) (r3 : hp_r v3) (r4 : hp_r v4) (r5 : hp_r v5) (rH : hp_in H) (x : Int × hp_H) (h : f_X7_copy v1 v2 v3 v4 v5 H = some x) : hp_M G l yX7_copy cX7_copy 6 (some .int) (hp_rm 2) [.ref (hp_ad G 0), .int (hp_I v1), .int (hp_I v2), .int (hp_I v3), .int (hp_I v4), .int (hp_I v5)] H (some (.int (hp_I x.1))) x.2 (hp_r x.1 ∧ hp_in x.2) := by
  obtain ⟨r, H'⟩ := x
  unfold f_X7_copy at h
  refine hp_body "HeelPost" (by decide) rfl ⟨rfl, rfl⟩ (Nat.le_of_ble_eq_true rfl) ?_
  show hp_R G l cX7_copy 6 (some .int) "HeelPost" (hp_rm 2) (some (.int (hp_I r))) H' (hp_r r ∧ hp_in H') 0 [(0, .ref (hp_ad G 0)), (1, .int (hp_I v1)), (2, .int (hp_I v2)), (3, .int (hp_I v3)), (4, .int (hp_I v4)), (5, .int (hp_I v5))] [] H
  refine x_iload_n dX7_copy_0 1 rfl ?_
  obtain ⟨c2, g1, h⟩ := hp_b1_e h
  refine x_isi (As := [.int (hp_I v1)]) (ok_X4_isRow hG v1 H r1 rH _ g1) cal_X4_isRow stt_X4_isRow wm_264 (by decide) rfl rfl (Nat.le_of_ble_eq_true rfl) dX7_copy_1 (fun z9 => ?_)
  have rc2 := z9
  refine x_ifeq (tgt := 14) dX7_copy_4 (by decide) rc2 (fun hc3 => ?_) (fun hc3 => ?_)
  · replace h := hp_it hc3 h
    refine x_ldc (x := (-1000001)) wc_270 rfl dX7_copy_14 ?_
    cases h
    exact x_iret ⟨(hp_rc rfl), rH⟩ dX7_copy_16
  · replace h := hp_if hc3 h
    refine x_iload_n dX7_copy_7 3 rfl ?_
    obtain ⟨c5, g4, h⟩ := hp_b1_e h
    refine x_isi (As := [.int (hp_I v3)]) (ok_X4_isRow hG v3 H r3 rH _ g4) cal_X4_isRow stt_X4_isRow wm_264 (by decide) rfl rfl (Nat.le_of_ble_eq_true rfl) dX7_copy_8 (fun z9 => ?_)
    have rc5 := z9
    refine x_ifne (tgt := 17) dX7_copy_11 (by decide) rc5 (fun hc6 => ?_) (fun hc6 => ?_)
    · replace h := hp_if hc6 h
      refine x_aload_n dX7_copy_17 0 rfl ?_
      refine x_getr 0 (sc_0 hG) (by decide) (C := RX7) (T := TX7) (N := 11) rfl in_X7 (by decide) rfl wf_226 dX7_copy_18 ?_
      refine x_iload_n dX7_copy_21 1 rfl ?_
      obtain ⟨c8, g7, h⟩ := hp_b1_e h
      refine x_ivi (As := [.int (hp_I v1)]) (ok_X4_isThere hG v1 H r1 rH _ g7) cal_X4_isThere (sc_1 hG) (by decide) (C := RX4) (T := TX4) (N := 3) rfl rfl ins_X4_isThere sel_X4_isThere wm_311 (by decide) rfl rfl (Nat.le_of_ble_eq_true rfl) dX7_copy_22 (fun z9 => ?_)
      have rc8 := z9
      refine x_ifeq (tgt := 39) dX7_copy_25 (by decide) rc8 (fun hc9 => ?_) (fun hc9 => ?_)
      · replace h := hp_it hc9 h
        refine x_aload_n dX7_copy_39 0 rfl ?_
        refine x_iconst dX7_copy_40 ?_
        obtain ⟨c11, H12, g10, h⟩ := hp_b2_e h
        refine x_ivi (As := [.int (hp_I 1)]) (ok_X7_found hG 1 H (hp_rc rfl) rH _ g10) cal_X7_found (sc_0 hG) (by decide) (C := RX7) (T := TX7) (N := 11) rfl rfl ins_X7_found sel_X7_found wm_271 (by decide) rfl rfl (Nat.le_of_ble_eq_true rfl) dX7_copy_41 (fun z9 => ?_)
        obtain ⟨rc11, rH12⟩ := z9
        cases h
        exact x_iret ⟨rc11, rH12⟩ dX7_copy_44
      · replace h := hp_if hc9 h
        refine x_aload_n dX7_copy_28 0 rfl ?_
        refine x_getr 0 (sc_0 hG) (by decide) (C := RX7) (T := TX7) (N := 11) rfl in_X7 (by decide) rfl wf_226 dX7_copy_29 ?_
        refine x_iload_n dX7_copy_32 3 rfl ?_
        obtain ⟨c14, g13, h⟩ := hp_b1_e h
        refine x_ivi (As := [.int (hp_I v3)]) (ok_X4_isThere hG v3 H r3 rH _ g13) cal_X4_isThere (sc_1 hG) (by decide) (C := RX4) (T := TX4) (N := 3) rfl rfl ins_X4_isThere sel_X4_isThere wm_311 (by decide) rfl rfl (Nat.le_of_ble_eq_true rfl) dX7_copy_33 (fun z9 => ?_)
        have rc14 := z9
        refine x_ifne (tgt := 45) dX7_copy_36 (by decide) rc14 (fun hc15 => ?_) (fun hc15 => ?_)
        · replace h := hp_if hc15 h
          refine x_aload_n dX7_copy_45 0 rfl ?_
          refine x_getr 0 (sc_0 hG) (by decide) (C := RX7) (T := TX7) (N := 11) rfl in_X7 (by decide) rfl wf_226 dX7_copy_46 ?_
          refine x_iload_n dX7_copy_49 1 rfl ?_
          obtain ⟨c20, g19, h⟩ := hp_b1_e h
          refine x_ivi (As := [.int (hp_I v1)]) (ok_X4_laneOf hG v1 H r1 rH _ g19) cal_X4_laneOf (sc_1 hG) (by decide) (C := RX4) (T := TX4) (N := 3) rfl rfl ins_X4_laneOf sel_X4_laneOf wm_312 (by decide) rfl rfl (Nat.le_of_ble_eq_true rfl) dX7_copy_50 (fun z9 => ?_)
          have rc20 := z9
          refine x_aload_n dX7_copy_53 0 rfl ?_
          refine x_getr 0 (sc_0 hG) (by decide) (C := RX7) (T := TX7) (N := 11) rfl in_X7 (by decide) rfl wf_226 dX7_copy_54 ?_
          refine x_iload_n dX7_copy_57 3 rfl ?_
          obtain ⟨c22, g21, h⟩ := hp_b1_e h
          refine x_ivi (As := [.int (hp_I v3)]) (ok_X4_laneOf hG v3 H r3 rH _ g21) cal_X4_laneOf (sc_1 hG) (by decide) (C := RX4) (T := TX4) (N := 3) rfl rfl ins_X4_laneOf sel_X4_laneOf wm_312 (by decide) rfl rfl (Nat.le_of_ble_eq_true rfl) dX7_copy_58 (fun z9 => ?_)
          have rc22 := z9
          refine x_iceq (tgt := 70) dX7_copy_61 (by decide) rc20 rc22 (fun hc23 => ?_) (fun hc23 => ?_)
          · replace h := hp_it hc23 h
            refine x_aload_n dX7_copy_70 0 rfl ?_
            refine x_getr 0 (sc_0 hG) (by decide) (C := RX7) (T := TX7) (N := 11) rfl in_X7 (by decide) rfl wf_226 dX7_copy_71 ?_
            refine x_iload_n dX7_copy_74 1 rfl ?_
            refine x_iload_n dX7_copy_75 2 rfl ?_
            refine x_iload dX7_copy_76 5 rfl ?_
            obtain ⟨c25, g24, h⟩ := hp_b1_e h
            refine x_ivi (As := [.int (hp_I v1), .int (hp_I v2), .int (hp_I v5)]) (ok_X4_hasPlaces hG v1 v2 v5 H r1 r2 r5 rH _ g24) cal_X4_hasPlaces (sc_1 hG) (by decide) (C := RX4) (T := TX4) (N := 3) rfl rfl ins_X4_hasPlaces sel_X4_hasPlaces wm_316 (by decide) rfl rfl (Nat.le_of_ble_eq_true rfl) dX7_copy_78 (fun z9 => ?_)
            have rc25 := z9
            refine x_ifeq (tgt := 99) dX7_copy_81 (by decide) rc25 (fun hc26 => ?_) (fun hc26 => ?_)
            · replace h := hp_it hc26 h
              refine x_aload_n dX7_copy_99 0 rfl ?_
              refine x_iconst dX7_copy_100 ?_
              obtain ⟨c28, H29, g27, h⟩ := hp_b2_e h
              refine x_ivi (As := [.int (hp_I 2)]) (ok_X7_found hG 2 H (hp_rc rfl) rH _ g27) cal_X7_found (sc_0 hG) (by decide) (C := RX7) (T := TX7) (N := 11) rfl rfl ins_X7_found sel_X7_found wm_271 (by decide) rfl rfl (Nat.le_of_ble_eq_true rfl) dX7_copy_101 (fun z9 => ?_)
              obtain ⟨rc28, rH29⟩ := z9
              cases h
              exact x_iret ⟨rc28, rH29⟩ dX7_copy_104
            · replace h := hp_if hc26 h
              refine x_aload_n dX7_copy_84 0 rfl ?_
              refine x_getr 0 (sc_0 hG) (by decide) (C := RX7) (T := TX7) (N := 11) rfl in_X7 (by decide) rfl wf_226 dX7_copy_85 ?_
              refine x_iload_n dX7_copy_88 3 rfl ?_
              refine x_iload dX7_copy_89 4 rfl ?_
              refine x_iload dX7_copy_91 5 rfl ?_
              obtain ⟨c31, g30, h⟩ := hp_b1_e h
              refine x_ivi (As := [.int (hp_I v3), .int (hp_I v4), .int (hp_I v5)]) (ok_X4_hasPlaces hG v3 v4 v5 H r3 r4 r5 rH _ g30) cal_X4_hasPlaces (sc_1 hG) (by decide) (C := RX4) (T := TX4) (N := 3) rfl rfl ins_X4_hasPlaces sel_X4_hasPlaces wm_316 (by decide) rfl rfl (Nat.le_of_ble_eq_true rfl) dX7_copy_93 (fun z9 => ?_)
              have rc31 := z9
              refine x_ifne (tgt := 105) dX7_copy_96 (by decide) rc31 (fun hc32 => ?_) (fun hc32 => ?_)
              · replace h := hp_if hc32 h
                refine x_aload_n dX7_copy_105 0 rfl ?_
                refine x_getr 0 (sc_0 hG) (by decide) (C := RX7) (T := TX7) (N := 11) rfl in_X7 (by decide) rfl wf_226 dX7_copy_106 ?_
                refine x_iload_n dX7_copy_109 1 rfl ?_
                refine x_iload_n dX7_copy_110 2 rfl ?_
                refine x_iload_n dX7_copy_111 3 rfl ?_
                refine x_iload dX7_copy_112 4 rfl ?_
                refine x_iload dX7_copy_114 5 rfl ?_
                obtain ⟨H37, g36, h⟩ := hp_b1_e h
                refine x_ivv (As := [.int (hp_I v1), .int (hp_I v2), .int (hp_I v3), .int (hp_I v4), .int (hp_I v5)]) (ok_X4_carryOver hG v1 v2 v3 v4 v5 H r1 r2 r3 r4 r5 rH _ g36) cal_X4_carryOver (sc_1 hG) (by decide) (C := RX4) (T := TX4) (N := 3) rfl rfl ins_X4_carryOver sel_X4_carryOver wm_317 (by decide) rfl rfl (Nat.le_of_ble_eq_true rfl) dX7_copy_116 (fun z9 => ?_)
                have rH37 := z9
                refine x_aload_n dX7_copy_119 0 rfl ?_
                refine x_iload dX7_copy_120 5 rfl ?_
                obtain ⟨c39, H40, g38, h⟩ := hp_b2_e h
                refine x_ivi (As := [.int (hp_I v5)]) (ok_X7_unfound hG v5 H37 r5 rH37 _ g38) cal_X7_unfound (sc_0 hG) (by decide) (C := RX7) (T := TX7) (N := 11) rfl rfl ins_X7_unfound sel_X7_unfound wm_280 (by decide) rfl rfl (Nat.le_of_ble_eq_true rfl) dX7_copy_122 (fun z9 => ?_)
                obtain ⟨rc39, rH40⟩ := z9
                cases h
                exact x_iret ⟨rc39, rH40⟩ dX7_copy_125
              · replace h := hp_it hc32 h
                refine x_aload_n dX7_copy_99 0 rfl ?_
                refine x_iconst dX7_copy_100 ?_
                obtain ⟨c34, H35, g33, h⟩ := hp_b2_e h
                refine x_ivi (As := [.int (hp_I 2)]) (ok_X7_found hG 2 H (hp_rc rfl) rH _ g33) cal_X7_found (sc_0 hG) (by decide) (C := RX7) (T := TX7) (N := 11) rfl rfl ins_X7_found sel_X7_found wm_271 (by decide) rfl rfl (Nat.le_of_ble_eq_true rfl) dX7_copy_101 (fun z9 => ?_)
                obtain ⟨rc34, rH35⟩ := z9
                cases h
                exact x_iret ⟨rc34, rH35⟩ dX7_copy_104
          · replace h := hp_if hc23 h
            refine x_aload_n dX7_copy_64 0 rfl ?_
            refine x_iconst dX7_copy_65 ?_
            obtain ⟨c42, H43, g41, h⟩ := hp_b2_e h
            refine x_ivi (As := [.int (hp_I 5)]) (ok_X7_found hG 5 H (hp_rc rfl) rH _ g41) cal_X7_found (sc_0 hG) (by decide) (C := RX7) (T := TX7) (N := 11) rfl rfl ins_X7_found sel_X7_found wm_271 (by decide) rfl rfl (Nat.le_of_ble_eq_true rfl) dX7_copy_66 (fun z9 => ?_)
            obtain ⟨rc42, rH43⟩ := z9
            cases h
            exact x_iret ⟨rc42, rH43⟩ dX7_copy_69
        · replace h := hp_it hc15 h
          refine x_aload_n dX7_copy_39 0 rfl ?_
          refine x_iconst dX7_copy_40 ?_
          obtain ⟨c17, H18, g16, h⟩ := hp_b2_e h
          refine x_ivi (As := [.int (hp_I 1)]) (ok_X7_found hG 1 H (hp_rc rfl) rH _ g16) cal_X7_found (sc_0 hG) (by decide) (C := RX7) (T := TX7) (N := 11) rfl rfl ins_X7_found sel_X7_found wm_271 (by decide) rfl rfl (Nat.le_of_ble_eq_true rfl) dX7_copy_41 (fun z9 => ?_)
          obtain ⟨rc17, rH18⟩ := z9
          cases h
          exact x_iret ⟨rc17, rH18⟩ dX7_copy_44
    · replace h := hp_it hc6 h
      refine x_ldc (x := (-1000001)) wc_270 rfl dX7_copy_14 ?_
      cases h
      exact x_iret ⟨(hp_rc rfl), rH⟩ dX7_copy_16
set_option maxRecDepth 100000 in
theorem ok_X7_drop {G : hp_G} (hG : hp_sh G = hp_shc) {l : Launch} (v1 : Int) (H : hp_H) (r1 : hp_r v1) (rH : hp_in H) (x : Int × hp_H) (h : f_X7_drop v1 H = some x) : hp_M G l yX7_drop cX7_drop 3 (some .int) (hp_rm 1) [.ref (hp_ad G 0), .int (hp_I v1)] H (some (.int (hp_I x.1))) x.2 (hp_r x.1 ∧ hp_in x.2) := by
  obtain ⟨r, H'⟩ := x
  unfold f_X7_drop at h
  refine hp_body "HeelPost" (by decide) rfl ⟨rfl, rfl⟩ (Nat.le_of_ble_eq_true rfl) ?_
  show hp_R G l cX7_drop 3 (some .int) "HeelPost" (hp_rm 1) (some (.int (hp_I r))) H' (hp_r r ∧ hp_in H') 0 [(0, .ref (hp_ad G 0)), (1, .int (hp_I v1))] [] H
  refine x_iload_n dX7_drop_0 1 rfl ?_
  obtain ⟨c2, g1, h⟩ := hp_b1_e h
  refine x_isi (As := [.int (hp_I v1)]) (ok_X4_isRow hG v1 H r1 rH _ g1) cal_X4_isRow stt_X4_isRow wm_264 (by decide) rfl rfl (Nat.le_of_ble_eq_true rfl) dX7_drop_1 (fun z9 => ?_)
  have rc2 := z9
  refine x_ifne (tgt := 10) dX7_drop_4 (by decide) rc2 (fun hc3 => ?_) (fun hc3 => ?_)
  · replace h := hp_if hc3 h
    refine x_aload_n dX7_drop_10 0 rfl ?_
    refine x_getr 0 (sc_0 hG) (by decide) (C := RX7) (T := TX7) (N := 11) rfl in_X7 (by decide) rfl wf_226 dX7_drop_11 ?_
    refine x_iload_n dX7_drop_14 1 rfl ?_
    obtain ⟨c5, g4, h⟩ := hp_b1_e h
    refine x_ivi (As := [.int (hp_I v1)]) (ok_X4_isThere hG v1 H r1 rH _ g4) cal_X4_isThere (sc_1 hG) (by decide) (C := RX4) (T := TX4) (N := 3) rfl rfl ins_X4_isThere sel_X4_isThere wm_311 (by decide) rfl rfl (Nat.le_of_ble_eq_true rfl) dX7_drop_15 (fun z9 => ?_)
    have rc5 := z9
    refine x_ifne (tgt := 27) dX7_drop_18 (by decide) rc5 (fun hc6 => ?_) (fun hc6 => ?_)
    · replace h := hp_if hc6 h
      refine x_aload_n dX7_drop_27 0 rfl ?_
      refine x_getr 0 (sc_0 hG) (by decide) (C := RX7) (T := TX7) (N := 11) rfl in_X7 (by decide) rfl wf_226 dX7_drop_28 ?_
      refine x_iload_n dX7_drop_31 1 rfl ?_
      obtain ⟨c11, g10, h⟩ := hp_b1_e h
      refine x_ivi (As := [.int (hp_I v1)]) (ok_X4_lengthOf hG v1 H r1 rH _ g10) cal_X4_lengthOf (sc_1 hG) (by decide) (C := RX4) (T := TX4) (N := 3) rfl rfl ins_X4_lengthOf sel_X4_lengthOf wm_328 (by decide) rfl rfl (Nat.le_of_ble_eq_true rfl) dX7_drop_32 (fun z9 => ?_)
      have rc11 := z9
      refine x_istore_n (L' := [(2, .int (hp_I c11)), (0, .ref (hp_ad G 0)), (1, .int (hp_I v1))]) dX7_drop_35 rfl (by decide) rfl ?_
      refine x_aload_n dX7_drop_36 1 rfl ?_
      refine x_getr 0 (sc_0 hG) (by decide) (C := RX7) (T := TX7) (N := 11) rfl in_X7 (by decide) rfl wf_226 dX7_drop_37 ?_
      refine x_iload_n dX7_drop_40 2 rfl ?_
      obtain ⟨H13, g12, h⟩ := hp_b1_e h
      refine x_ivv (As := [.int (hp_I v1)]) (ok_X4_lose hG v1 H r1 rH _ g12) cal_X4_lose (sc_1 hG) (by decide) (C := RX4) (T := TX4) (N := 3) rfl rfl ins_X4_lose sel_X4_lose wm_332 (by decide) rfl rfl (Nat.le_of_ble_eq_true rfl) dX7_drop_41 (fun z9 => ?_)
      have rH13 := z9
      refine x_aload_n dX7_drop_44 1 rfl ?_
      refine x_iload_n dX7_drop_45 0 rfl ?_
      obtain ⟨c15, H16, g14, h⟩ := hp_b2_e h
      refine x_ivi (As := [.int (hp_I c11)]) (ok_X7_unfound hG c11 H13 rc11 rH13 _ g14) cal_X7_unfound (sc_0 hG) (by decide) (C := RX7) (T := TX7) (N := 11) rfl rfl ins_X7_unfound sel_X7_unfound wm_280 (by decide) rfl rfl (Nat.le_of_ble_eq_true rfl) dX7_drop_46 (fun z9 => ?_)
      obtain ⟨rc15, rH16⟩ := z9
      cases h
      exact x_iret ⟨rc15, rH16⟩ dX7_drop_49
    · replace h := hp_it hc6 h
      refine x_aload_n dX7_drop_21 0 rfl ?_
      refine x_iconst dX7_drop_22 ?_
      obtain ⟨c8, H9, g7, h⟩ := hp_b2_e h
      refine x_ivi (As := [.int (hp_I 1)]) (ok_X7_found hG 1 H (hp_rc rfl) rH _ g7) cal_X7_found (sc_0 hG) (by decide) (C := RX7) (T := TX7) (N := 11) rfl rfl ins_X7_found sel_X7_found wm_271 (by decide) rfl rfl (Nat.le_of_ble_eq_true rfl) dX7_drop_23 (fun z9 => ?_)
      obtain ⟨rc8, rH9⟩ := z9
      cases h
      exact x_iret ⟨rc8, rH9⟩ dX7_drop_26
  · replace h := hp_it hc3 h
    refine x_ldc (x := (-1000001)) wc_270 rfl dX7_drop_7 ?_
    cases h
    exact x_iret ⟨(hp_rc rfl), rH⟩ dX7_drop_9
set_option maxRecDepth 100000 in
theorem ok_X7_feed {G : hp_G} (hG : hp_sh G = hp_shc) {l : Launch} (v1 : Int) (H : hp_H) (r1 : hp_r v1) (rH : hp_in H) (x : Int × hp_H) (h : f_X7_feed v1 H = some x) : hp_M G l yX7_feed cX7_feed 2 (some .int) (hp_rm 1) [.ref (hp_ad G 0), .int (hp_I v1)] H (some (.int (hp_I x.1))) x.2 (hp_r x.1 ∧ hp_in x.2) := by
  obtain ⟨r, H'⟩ := x
  unfold f_X7_feed at h
  refine hp_body "HeelPost" (by decide) rfl ⟨rfl, rfl⟩ (Nat.le_of_ble_eq_true rfl) ?_
  show hp_R G l cX7_feed 2 (some .int) "HeelPost" (hp_rm 1) (some (.int (hp_I r))) H' (hp_r r ∧ hp_in H') 0 [(0, .ref (hp_ad G 0)), (1, .int (hp_I v1))] [] H
  refine x_iload_n dX7_feed_0 1 rfl ?_
  refine x_iconst dX7_feed_1 ?_
  refine x_sipush rfl dX7_feed_2 ?_
  obtain ⟨c2, g1, h⟩ := hp_b1_e h
  refine x_isi (As := [.int (hp_I v1), .int (hp_I 0), .int (hp_I 255)]) (ok_X7_within hG v1 0 255 H r1 (hp_rc rfl) (hp_rc rfl) rH _ g1) cal_X7_within stt_X7_within wm_267 (by decide) rfl rfl (Nat.le_of_ble_eq_true rfl) dX7_feed_5 (fun z9 => ?_)
  have rc2 := z9
  refine x_ifne (tgt := 14) dX7_feed_8 (by decide) rc2 (fun hc3 => ?_) (fun hc3 => ?_)
  · replace h := hp_if hc3 h
    refine x_aload_n dX7_feed_14 0 rfl ?_
    refine x_getr 1 (sc_0 hG) (by decide) (C := RX7) (T := TX7) (N := 11) rfl in_X7 (by decide) rfl wf_227 dX7_feed_15 ?_
    refine x_iload_n dX7_feed_18 1 rfl ?_
    obtain ⟨c5, H6, g4, h⟩ := hp_b2_e h
    refine x_ivi (As := [.int (hp_I v1)]) (ok_X5_add hG v1 H r1 rH _ g4) cal_X5_add (sc_13 hG) (by decide) (C := RX5) (T := TX5) (N := 5) rfl rfl ins_X5_add sel_X5_add wm_340 (by decide) rfl rfl (Nat.le_of_ble_eq_true rfl) dX7_feed_19 (fun z9 => ?_)
    obtain ⟨rc5, rH6⟩ := z9
    refine x_ifeq (tgt := 35) dX7_feed_22 (by decide) rc5 (fun hc7 => ?_) (fun hc7 => ?_)
    · replace h := hp_it hc7 h
      refine x_ldc (x := (-1000003)) wc_348 rfl dX7_feed_35 ?_
      cases h
      exact x_iret ⟨(hp_rc rfl), rH6⟩ dX7_feed_37
    · replace h := hp_if hc7 h
      refine x_aload_n dX7_feed_25 0 rfl ?_
      refine x_getr 1 (sc_0 hG) (by decide) (C := RX7) (T := TX7) (N := 11) rfl in_X7 (by decide) rfl wf_227 dX7_feed_26 ?_
      obtain ⟨c9, g8, h⟩ := hp_b1_e h
      refine x_ivi (As := []) (ok_X5_length hG H6 rH6 _ g8) cal_X5_length (sc_13 hG) (by decide) (C := RX5) (T := TX5) (N := 5) rfl rfl ins_X5_length sel_X5_length wm_344 (by decide) rfl rfl (Nat.le_of_ble_eq_true rfl) dX7_feed_29 (fun z9 => ?_)
      have rc9 := z9
      refine x_goto (tgt := 37) dX7_feed_32 (by decide) ?_
      cases h
      exact x_iret ⟨rc9, rH6⟩ dX7_feed_37
  · replace h := hp_it hc3 h
    refine x_ldc (x := (-1000001)) wc_270 rfl dX7_feed_11 ?_
    cases h
    exact x_iret ⟨(hp_rc rfl), rH⟩ dX7_feed_13
set_option maxRecDepth 100000 in
theorem ok_X7_town {G : hp_G} (hG : hp_sh G = hp_shc) {l : Launch}  (H : hp_H) (rH : hp_in H) (x : Int × hp_H) (h : f_X7_town  H = some x) : hp_M G l yX7_town cX7_town 2 (some .int) (hp_rm 5) [.ref (hp_ad G 0)] H (some (.int (hp_I x.1))) x.2 (hp_r x.1 ∧ hp_in x.2) := by
  obtain ⟨r, H'⟩ := x
  unfold f_X7_town at h
  refine hp_body "HeelPost" (by decide) rfl ⟨rfl, rfl⟩ (Nat.le_of_ble_eq_true rfl) ?_
  show hp_R G l cX7_town 2 (some .int) "HeelPost" (hp_rm 5) (some (.int (hp_I r))) H' (hp_r r ∧ hp_in H') 0 [(0, .ref (hp_ad G 0))] [] H
  refine x_aload_n dX7_town_0 0 rfl ?_
  refine x_getr 1 (sc_0 hG) (by decide) (C := RX7) (T := TX7) (N := 11) rfl in_X7 (by decide) rfl wf_227 dX7_town_1 ?_
  refine x_aload_n dX7_town_4 0 rfl ?_
  refine x_getr 3 (sc_0 hG) (by decide) (C := RX7) (T := TX7) (N := 11) rfl in_X7 (by decide) rfl wf_229 dX7_town_5 ?_
  obtain ⟨c2, H3, g1, h⟩ := hp_b2_e h
  refine x_ivi (As := [.ref (hp_ad G 22)]) (ok_X5_read hG H rH _ g1) cal_X5_read (sc_13 hG) (by decide) (C := RX5) (T := TX5) (N := 5) rfl rfl ins_X5_read sel_X5_read wm_353 (by decide) rfl rfl (Nat.le_of_ble_eq_true rfl) dX7_town_8 (fun z9 => ?_)
  obtain ⟨rc2, rH3⟩ := z9
  refine x_istore_n (L' := [(1, .int (hp_I c2)), (0, .ref (hp_ad G 0))]) dX7_town_11 rfl (by decide) rfl ?_
  refine x_aload_n dX7_town_12 1 rfl ?_
  refine x_getr 1 (sc_0 hG) (by decide) (C := RX7) (T := TX7) (N := 11) rfl in_X7 (by decide) rfl wf_227 dX7_town_13 ?_
  obtain ⟨H5, g4, h⟩ := hp_b1_e h
  refine x_ivv (As := []) (ok_X5_clear hG H3 rH3 _ g4) cal_X5_clear (sc_13 hG) (by decide) (C := RX5) (T := TX5) (N := 5) rfl rfl ins_X5_clear sel_X5_clear wm_396 (by decide) rfl rfl (Nat.le_of_ble_eq_true rfl) dX7_town_16 (fun z9 => ?_)
  have rH5 := z9
  refine x_iload_n dX7_town_19 0 rfl ?_
  refine x_ifeq (tgt := 39) dX7_town_20 (by decide) rc2 (fun hc6 => ?_) (fun hc6 => ?_)
  · replace h := hp_it hc6 h
    refine x_aload_n dX7_town_39 1 rfl ?_
    refine x_getr 2 (sc_0 hG) (by decide) (C := RX7) (T := TX7) (N := 11) rfl in_X7 (by decide) rfl wf_228 dX7_town_40 ?_
    refine x_aload_n dX7_town_43 1 rfl ?_
    refine x_getr 3 (sc_0 hG) (by decide) (C := RX7) (T := TX7) (N := 11) rfl in_X7 (by decide) rfl wf_229 dX7_town_44 ?_
    obtain ⟨H8, g7, h⟩ := hp_b1_e h
    refine x_ivv (As := [.ref (hp_ad G 22)]) (ok_X6_take hG 15 22 H5 (tw_at15 hG) (tw_at22 hG) rH5 _ g7) cal_X6_take (tw_0 (tw_at15 hG)) (tw_p (tw_at15 hG)) (C := RX6) (T := TX6) (N := 12) rfl rfl ins_X6_take sel_X6_take wm_405 (by decide) rfl rfl (Nat.le_of_ble_eq_true rfl) dX7_town_47 (fun z9 => ?_)
    have rH8 := z9
    refine x_aload_n dX7_town_50 1 rfl ?_
    refine x_getr 4 (sc_0 hG) (by decide) (C := RX7) (T := TX7) (N := 11) rfl in_X7 (by decide) rfl wf_230 dX7_town_51 ?_
    obtain ⟨H10, g9, h⟩ := hp_b1_e h
    refine x_ivv (As := []) (ok_X0_forget hG H8 rH8 _ g9) cal_X0_forget (sc_29 hG) (by decide) (C := RX0) (T := TX0) (N := 3) rfl rfl ins_X0_forget sel_X0_forget wm_413 (by decide) rfl rfl (Nat.le_of_ble_eq_true rfl) dX7_town_54 (fun z9 => ?_)
    have rH10 := z9
    refine x_aload_n dX7_town_57 1 rfl ?_
    refine x_getr 2 (sc_0 hG) (by decide) (C := RX7) (T := TX7) (N := 11) rfl in_X7 (by decide) rfl wf_228 dX7_town_58 ?_
    refine x_gi 2 2 rfl (tw_0 (tw_at15 hG)) (tw_p (tw_at15 hG)) (C := RX6) (T := TX6) (N := 12) rfl in_X6 (by decide) rfl wf_78 dX7_town_61 ?_
    cases h
    exact x_iret ⟨(rH10 _ _), rH10⟩ dX7_town_64
  · replace h := hp_if hc6 h
    refine x_aload_n dX7_town_23 1 rfl ?_
    refine x_iload_n dX7_town_24 0 rfl ?_
    obtain ⟨H11, eH11⟩ : ∃ z : hp_H, z = hp_up H5 0 9 c2 := ⟨_, rfl⟩
    replace h := hp_let_e eH11 h
    have rH11 := hp_ine eH11 (hp_in_up rH5 rc2)
    refine x_pi 9 9 rfl tyX7 eH11 (sc_0 hG) (by decide) (C := RX7) (T := TX7) (N := 11) rfl in_X7 tyX7_ok nmX7 (by decide) rfl rfl rfl wf_235 dX7_town_25 ?_
    refine x_ldc (x := (-1000100)) wc_400 rfl dX7_town_28 ?_
    refine x_aload_n dX7_town_30 1 rfl ?_
    refine x_getr 1 (sc_0 hG) (by decide) (C := RX7) (T := TX7) (N := 11) rfl in_X7 (by decide) rfl wf_227 dX7_town_31 ?_
    obtain ⟨c13, g12, h⟩ := hp_b1_e h
    refine x_ivi (As := []) (ok_X5_faultPlace hG H11 rH11 _ g12) cal_X5_faultPlace (sc_13 hG) (by decide) (C := RX5) (T := TX5) (N := 5) rfl rfl ins_X5_faultPlace sel_X5_faultPlace wm_401 (by decide) rfl rfl (Nat.le_of_ble_eq_true rfl) dX7_town_34 (fun z9 => ?_)
    have rc13 := z9
    refine x_isub dX7_town_37 ?_
    cases h
    exact x_iret ⟨(hp_rw _), rH11⟩ dX7_town_38
set_option maxRecDepth 100000 in
theorem ok_X7_fault {G : hp_G} (hG : hp_sh G = hp_shc) {l : Launch}  (H : hp_H) (rH : hp_in H) (r : Int) (h : f_X7_fault  H = some r) : hp_M G l yX7_fault cX7_fault 1 (some .int) (hp_rm 0) [.ref (hp_ad G 0)] H (some (.int (hp_I r))) H (hp_r r) := by
  unfold f_X7_fault at h
  refine hp_body "HeelPost" (by decide) rfl ⟨rfl, rfl⟩ (Nat.le_of_ble_eq_true rfl) ?_
  show hp_R G l cX7_fault 1 (some .int) "HeelPost" (hp_rm 0) (some (.int (hp_I r))) H (hp_r r) 0 [(0, .ref (hp_ad G 0))] [] H
  refine x_aload_n dX7_fault_0 0 rfl ?_
  refine x_gi 9 9 rfl (sc_0 hG) (by decide) (C := RX7) (T := TX7) (N := 11) rfl in_X7 (by decide) rfl wf_235 dX7_fault_1 ?_
  cases h
  exact x_iret (rH _ _) dX7_fault_4
set_option maxRecDepth 100000 in
theorem ok_X7_undo {G : hp_G} (hG : hp_sh G = hp_shc) {l : Launch}  (H : hp_H) (rH : hp_in H) (x : Int × hp_H) (h : f_X7_undo  H = some x) : hp_M G l yX7_undo cX7_undo 1 (some .int) (hp_rm 3) [.ref (hp_ad G 0)] H (some (.int (hp_I x.1))) x.2 (hp_r x.1 ∧ hp_in x.2) := by
  obtain ⟨r, H'⟩ := x
  unfold f_X7_undo at h
  refine hp_body "HeelPost" (by decide) rfl ⟨rfl, rfl⟩ (Nat.le_of_ble_eq_true rfl) ?_
  show hp_R G l cX7_undo 1 (some .int) "HeelPost" (hp_rm 3) (some (.int (hp_I r))) H' (hp_r r ∧ hp_in H') 0 [(0, .ref (hp_ad G 0))] [] H
  refine x_aload_n dX7_undo_0 0 rfl ?_
  refine x_getr 4 (sc_0 hG) (by decide) (C := RX7) (T := TX7) (N := 11) rfl in_X7 (by decide) rfl wf_230 dX7_undo_1 ?_
  refine x_aload_n dX7_undo_4 0 rfl ?_
  refine x_getr 2 (sc_0 hG) (by decide) (C := RX7) (T := TX7) (N := 11) rfl in_X7 (by decide) rfl wf_228 dX7_undo_5 ?_
  obtain ⟨c2, H3, g1, h⟩ := hp_b2_e h
  refine x_ivi (As := [.ref (hp_ad G 15)]) (ok_X0_takeBack hG H rH _ g1) cal_X0_takeBack (sc_29 hG) (by decide) (C := RX0) (T := TX0) (N := 3) rfl rfl ins_X0_takeBack sel_X0_takeBack wm_425 (by decide) rfl rfl (Nat.le_of_ble_eq_true rfl) dX7_undo_8 (fun z9 => ?_)
  obtain ⟨rc2, rH3⟩ := z9
  refine x_ifeq (tgt := 24) dX7_undo_11 (by decide) rc2 (fun hc4 => ?_) (fun hc4 => ?_)
  · replace h := hp_it hc4 h
    refine x_ldc (x := (-1000002)) wc_434 rfl dX7_undo_24 ?_
    cases h
    exact x_iret ⟨(hp_rc rfl), rH3⟩ dX7_undo_26
  · replace h := hp_if hc4 h
    refine x_aload_n dX7_undo_14 0 rfl ?_
    refine x_getr 4 (sc_0 hG) (by decide) (C := RX7) (T := TX7) (N := 11) rfl in_X7 (by decide) rfl wf_230 dX7_undo_15 ?_
    obtain ⟨c6, g5, h⟩ := hp_b1_e h
    refine x_ivi (As := []) (ok_X0_size hG H3 rH3 _ g5) cal_X0_size (sc_29 hG) (by decide) (C := RX0) (T := TX0) (N := 3) rfl rfl ins_X0_size sel_X0_size wm_430 (by decide) rfl rfl (Nat.le_of_ble_eq_true rfl) dX7_undo_18 (fun z9 => ?_)
    have rc6 := z9
    refine x_goto (tgt := 26) dX7_undo_21 (by decide) ?_
    cases h
    exact x_iret ⟨rc6, rH3⟩ dX7_undo_26
set_option maxRecDepth 100000 in
theorem ok_X7_hours_58 {G : hp_G} (hG : hp_sh G = hp_shc) {l : Launch} {vv : Option Value} {H' : hp_H} {Z : Prop} : ∀ (n : Nat) (v1 : Int) (v2 : Int) (H : hp_H), hp_r v1 → hp_r v2 → hp_in H → ∀ Hm : hp_H, f_X7_hours_58 n v1 v2 H = some Hm → (hp_in Hm → hp_R G l cX7_hours 3 (some .int) "HeelPost" (hp_rm 4) vv H' Z 91 [(0, .ref (hp_ad G 0))] [] Hm) → hp_R G l cX7_hours 3 (some .int) "HeelPost" (hp_rm 4) vv H' Z 58 [(0, .ref (hp_ad G 0)), (1, .int (hp_I v1)), (2, .int (hp_I v2))] [] H := by
  intro n
  induction n with
  | zero =>
    intro v1 v2 H r1 r2 rH Hm h kx
    exact hp_no h
  | succ n ih =>
    intro v1 v2 H r1 r2 rH Hm h kx
    unfold f_X7_hours_58 at h
    refine x_iload_n dX7_hours_58 2 rfl ?_
    refine x_iload_n dX7_hours_59 1 rfl ?_
    refine x_icge (tgt := 91) dX7_hours_60 (by decide) r2 r1 (fun hc10 => ?_) (fun hc10 => ?_)
    · replace h := hp_if hc10 h
      cases h
      exact x_sub [0] rfl (kx rH)
    · replace h := hp_it hc10 h
      refine x_aload_n dX7_hours_63 0 rfl ?_
      refine x_getr 4 (sc_0 hG) (by decide) (C := RX7) (T := TX7) (N := 11) rfl in_X7 (by decide) rfl wf_230 dX7_hours_64 ?_
      refine x_aload_n dX7_hours_67 0 rfl ?_
      refine x_getr 2 (sc_0 hG) (by decide) (C := RX7) (T := TX7) (N := 11) rfl in_X7 (by decide) rfl wf_228 dX7_hours_68 ?_
      obtain ⟨H12, g11, h⟩ := hp_b1_e h
      refine x_ivv (As := [.ref (hp_ad G 15)]) (ok_X0_keep hG H rH _ g11) cal_X0_keep (sc_29 hG) (by decide) (C := RX0) (T := TX0) (N := 3) rfl rfl ins_X0_keep sel_X0_keep wm_469 (by decide) rfl rfl (Nat.le_of_ble_eq_true rfl) dX7_hours_71 (fun z9 => ?_)
      have rH12 := z9
      refine x_aload_n dX7_hours_74 0 rfl ?_
      refine x_getr 5 (sc_0 hG) (by decide) (C := RX7) (T := TX7) (N := 11) rfl in_X7 (by decide) rfl wf_231 dX7_hours_75 ?_
      refine x_aload_n dX7_hours_78 0 rfl ?_
      refine x_getr 2 (sc_0 hG) (by decide) (C := RX7) (T := TX7) (N := 11) rfl in_X7 (by decide) rfl wf_228 dX7_hours_79 ?_
      obtain ⟨H14, g13, h⟩ := hp_b1_e h
      refine x_ivv (As := [.ref (hp_ad G 15)]) (ok_X2_pass hG 15 H12 (tw_at15 hG) rH12 _ g13) cal_X2_pass (sc_199 hG) (by decide) (C := RX2) (T := TX2) (N := 8) rfl rfl ins_X2_pass sel_X2_pass wm_473 (by decide) rfl rfl (Nat.le_of_ble_eq_true rfl) dX7_hours_82 (fun z9 => ?_)
      have rH14 := z9
      obtain ⟨v2_15, ev2_15⟩ : ∃ z : Int, z = (hp_w (v2 + 1)) := ⟨_, rfl⟩
      replace h := hp_let_e ev2_15 h
      have rv2_15 := hp_re ev2_15 (hp_rw _)
      refine x_iiE (L' := [(2, .int (hp_I v2_15)), (0, .ref (hp_ad G 0)), (1, .int (hp_I v1))]) ev2_15 dX7_hours_85 2 rfl (by decide) rfl ?_
      refine x_goto (tgt := 58) dX7_hours_88 (by decide) ?_
      exact x_sub [1, 2, 0] rfl (ih v1 v2_15 H14 r1 rv2_15 rH14 _ h kx)
set_option maxRecDepth 100000 in
theorem ok_X7_hours {G : hp_G} (hG : hp_sh G = hp_shc) {l : Launch} (v1 : Int) (H : hp_H) (r1 : hp_r v1) (rH : hp_in H) (x : Int × hp_H) (h : f_X7_hours v1 H = some x) : hp_M G l yX7_hours cX7_hours 3 (some .int) (hp_rm 4) [.ref (hp_ad G 0), .int (hp_I v1)] H (some (.int (hp_I x.1))) x.2 (hp_r x.1 ∧ hp_in x.2) := by
  obtain ⟨r, H'⟩ := x
  unfold f_X7_hours at h
  refine hp_body "HeelPost" (by decide) rfl ⟨rfl, rfl⟩ (Nat.le_of_ble_eq_true rfl) ?_
  show hp_R G l cX7_hours 3 (some .int) "HeelPost" (hp_rm 4) (some (.int (hp_I r))) H' (hp_r r ∧ hp_in H') 0 [(0, .ref (hp_ad G 0)), (1, .int (hp_I v1))] [] H
  refine x_aload_n dX7_hours_0 0 rfl ?_
  refine x_getr 2 (sc_0 hG) (by decide) (C := RX7) (T := TX7) (N := 11) rfl in_X7 (by decide) rfl wf_228 dX7_hours_1 ?_
  obtain ⟨c2, g1, h⟩ := hp_b1_e h
  refine x_ivi (As := []) (ok_X6_stands hG 15 H (tw_at15 hG) rH _ g1) cal_X6_stands (tw_0 (tw_at15 hG)) (tw_p (tw_at15 hG)) (C := RX6) (T := TX6) (N := 12) rfl rfl ins_X6_stands sel_X6_stands wm_439 (by decide) rfl rfl (Nat.le_of_ble_eq_true rfl) dX7_hours_4 (fun z9 => ?_)
  have rc2 := z9
  refine x_ifne (tgt := 13) dX7_hours_7 (by decide) rc2 (fun hc3 => ?_) (fun hc3 => ?_)
  · replace h := hp_if hc3 h
    refine x_iload_n dX7_hours_13 1 rfl ?_
    refine x_iconst dX7_hours_14 ?_
    refine x_bipush rfl dX7_hours_15 ?_
    obtain ⟨c5, g4, h⟩ := hp_b1_e h
    refine x_isi (As := [.int (hp_I v1), .int (hp_I 1), .int (hp_I 24)]) (ok_X7_within hG v1 1 24 H r1 (hp_rc rfl) (hp_rc rfl) rH _ g4) cal_X7_within stt_X7_within wm_267 (by decide) rfl rfl (Nat.le_of_ble_eq_true rfl) dX7_hours_17 (fun z9 => ?_)
    have rc5 := z9
    refine x_ifne (tgt := 26) dX7_hours_20 (by decide) rc5 (fun hc6 => ?_) (fun hc6 => ?_)
    · replace h := hp_if hc6 h
      refine x_aload_n dX7_hours_26 0 rfl ?_
      refine x_getr 2 (sc_0 hG) (by decide) (C := RX7) (T := TX7) (N := 11) rfl in_X7 (by decide) rfl wf_228 dX7_hours_27 ?_
      refine x_gi 3 3 rfl (tw_0 (tw_at15 hG)) (tw_p (tw_at15 hG)) (C := RX6) (T := TX6) (N := 12) rfl in_X6 (by decide) rfl wf_82 dX7_hours_30 ?_
      refine x_iload_n dX7_hours_33 1 rfl ?_
      refine x_iadd dX7_hours_34 ?_
      refine x_sipush rfl dX7_hours_35 ?_
      refine x_icle (tgt := 44) dX7_hours_38 (by decide) (hp_rw _) (hp_rc rfl) (fun hc7 => ?_) (fun hc7 => ?_)
      · replace h := hp_if hc7 h
        refine x_aload_n dX7_hours_44 0 rfl ?_
        refine x_getr 5 (sc_0 hG) (by decide) (C := RX7) (T := TX7) (N := 11) rfl in_X7 (by decide) rfl wf_231 dX7_hours_45 ?_
        refine x_aload_n dX7_hours_48 0 rfl ?_
        refine x_getr 2 (sc_0 hG) (by decide) (C := RX7) (T := TX7) (N := 11) rfl in_X7 (by decide) rfl wf_228 dX7_hours_49 ?_
        refine x_iload_n dX7_hours_52 1 rfl ?_
        obtain ⟨H9, g8, h⟩ := hp_b1_e h
        refine x_ivv (As := [.ref (hp_ad G 15), .int (hp_I v1)]) (ok_X2_foresee hG 15 v1 H (tw_at15 hG) r1 rH _ g8) cal_X2_foresee (sc_199 hG) (by decide) (C := RX2) (T := TX2) (N := 8) rfl rfl ins_X2_foresee sel_X2_foresee wm_443 (by decide) rfl rfl (Nat.le_of_ble_eq_true rfl) dX7_hours_53 (fun z9 => ?_)
        have rH9 := z9
        refine x_iconst dX7_hours_56 ?_
        refine x_istore_n (L' := [(2, .int (hp_I 0)), (0, .ref (hp_ad G 0)), (1, .int (hp_I v1))]) dX7_hours_57 rfl (by decide) rfl ?_
        obtain ⟨H16, g17, h⟩ := hp_b1_e h
        refine x_sub [1, 2, 0] rfl (ok_X7_hours_58 hG 1000 v1 0 H9 r1 (hp_rc rfl) rH9 _ g17 ?_)
        intro rH16
        refine x_aload_n dX7_hours_91 0 rfl ?_
        refine x_getr 2 (sc_0 hG) (by decide) (C := RX7) (T := TX7) (N := 11) rfl in_X7 (by decide) rfl wf_228 dX7_hours_92 ?_
        obtain ⟨c19, g18, h⟩ := hp_b1_e h
        refine x_ivi (As := []) (ok_X6_arrived hG 15 H16 (tw_at15 hG) rH16 _ g18) cal_X6_arrived (tw_0 (tw_at15 hG)) (tw_p (tw_at15 hG)) (C := RX6) (T := TX6) (N := 12) rfl rfl ins_X6_arrived sel_X6_arrived wm_490 (by decide) rfl rfl (Nat.le_of_ble_eq_true rfl) dX7_hours_95 (fun z9 => ?_)
        have rc19 := z9
        cases h
        exact x_iret ⟨rc19, rH16⟩ dX7_hours_98
      · replace h := hp_it hc7 h
        refine x_ldc (x := (-1000003)) wc_348 rfl dX7_hours_41 ?_
        cases h
        exact x_iret ⟨(hp_rc rfl), rH⟩ dX7_hours_43
    · replace h := hp_it hc6 h
      refine x_ldc (x := (-1000001)) wc_270 rfl dX7_hours_23 ?_
      cases h
      exact x_iret ⟨(hp_rc rfl), rH⟩ dX7_hours_25
  · replace h := hp_it hc3 h
    refine x_ldc (x := (-1000002)) wc_434 rfl dX7_hours_10 ?_
    cases h
    exact x_iret ⟨(hp_rc rfl), rH⟩ dX7_hours_12
set_option maxRecDepth 100000 in
theorem ok_X7_isLetter {G : hp_G} (hG : hp_sh G = hp_shc) {l : Launch} (v1 : Int) (H : hp_H) (r1 : hp_r v1) (rH : hp_in H) (r : Int) (h : f_X7_isLetter v1 H = some r) : hp_M G l yX7_isLetter cX7_isLetter 2 (some .boolean) (hp_rm 1) [.ref (hp_ad G 0), .int (hp_I v1)] H (some (.int (hp_I r))) H (hp_r r) := by
  unfold f_X7_isLetter at h
  refine hp_body "HeelPost" (by decide) rfl ⟨rfl, rfl⟩ (Nat.le_of_ble_eq_true rfl) ?_
  show hp_R G l cX7_isLetter 2 (some .boolean) "HeelPost" (hp_rm 1) (some (.int (hp_I r))) H (hp_r r) 0 [(0, .ref (hp_ad G 0)), (1, .int (hp_I v1))] [] H
  refine x_aload_n dX7_isLetter_0 0 rfl ?_
  refine x_getr 2 (sc_0 hG) (by decide) (C := RX7) (T := TX7) (N := 11) rfl in_X7 (by decide) rfl wf_228 dX7_isLetter_1 ?_
  obtain ⟨c2, g1, h⟩ := hp_b1_e h
  refine x_ivi (As := []) (ok_X6_stands hG 15 H (tw_at15 hG) rH _ g1) cal_X6_stands (tw_0 (tw_at15 hG)) (tw_p (tw_at15 hG)) (C := RX6) (T := TX6) (N := 12) rfl rfl ins_X6_stands sel_X6_stands wm_439 (by decide) rfl rfl (Nat.le_of_ble_eq_true rfl) dX7_isLetter_4 (fun z9 => ?_)
  have rc2 := z9
  refine x_ifeq (tgt := 23) dX7_isLetter_7 (by decide) rc2 (fun hc3 => ?_) (fun hc3 => ?_)
  · replace h := hp_it hc3 h
    refine x_iconst dX7_isLetter_23 ?_
    cases h
    exact x_zret (hp_rc rfl) (Or.inl rfl) dX7_isLetter_24
  · replace h := hp_if hc3 h
    refine x_iload_n dX7_isLetter_10 1 rfl ?_
    refine x_iconst dX7_isLetter_11 ?_
    refine x_iconst dX7_isLetter_12 ?_
    obtain ⟨c5, g4, h⟩ := hp_b1_e h
    refine x_isi (As := [.int (hp_I v1), .int (hp_I 0), .int (hp_I 3)]) (ok_X7_within hG v1 0 3 H r1 (hp_rc rfl) (hp_rc rfl) rH _ g4) cal_X7_within stt_X7_within wm_267 (by decide) rfl rfl (Nat.le_of_ble_eq_true rfl) dX7_isLetter_13 (fun z9 => ?_)
    have rc5 := z9
    refine x_ifeq (tgt := 23) dX7_isLetter_16 (by decide) rc5 (fun hc6 => ?_) (fun hc6 => ?_)
    · replace h := hp_it hc6 h
      refine x_iconst dX7_isLetter_23 ?_
      cases h
      exact x_zret (hp_rc rfl) (Or.inl rfl) dX7_isLetter_24
    · replace h := hp_if hc6 h
      refine x_iconst dX7_isLetter_19 ?_
      refine x_goto (tgt := 24) dX7_isLetter_20 (by decide) ?_
      cases h
      exact x_zret (hp_rc rfl) (Or.inr rfl) dX7_isLetter_24
set_option maxRecDepth 100000 in
theorem ok_X7_isLane {G : hp_G} (hG : hp_sh G = hp_shc) {l : Launch} (v1 : Int) (H : hp_H) (r1 : hp_r v1) (rH : hp_in H) (r : Int) (h : f_X7_isLane v1 H = some r) : hp_M G l yX7_isLane cX7_isLane 2 (some .boolean) (hp_rm 0) [.ref (hp_ad G 0), .int (hp_I v1)] H (some (.int (hp_I r))) H (hp_r r) := by
  unfold f_X7_isLane at h
  refine hp_body "HeelPost" (by decide) rfl ⟨rfl, rfl⟩ (Nat.le_of_ble_eq_true rfl) ?_
  show hp_R G l cX7_isLane 2 (some .boolean) "HeelPost" (hp_rm 0) (some (.int (hp_I r))) H (hp_r r) 0 [(0, .ref (hp_ad G 0)), (1, .int (hp_I v1))] [] H
  refine x_iload_n dX7_isLane_0 1 rfl ?_
  refine x_iflt (tgt := 19) dX7_isLane_1 (by decide) r1 (fun hc1 => ?_) (fun hc1 => ?_)
  · replace h := hp_it hc1 h
    refine x_iconst dX7_isLane_19 ?_
    cases h
    exact x_zret (hp_rc rfl) (Or.inl rfl) dX7_isLane_20
  · replace h := hp_if hc1 h
    refine x_iload_n dX7_isLane_4 1 rfl ?_
    refine x_aload_n dX7_isLane_5 0 rfl ?_
    refine x_getr 2 (sc_0 hG) (by decide) (C := RX7) (T := TX7) (N := 11) rfl in_X7 (by decide) rfl wf_228 dX7_isLane_6 ?_
    refine x_gi 0 0 rfl (tw_0 (tw_at15 hG)) (tw_p (tw_at15 hG)) (C := RX6) (T := TX6) (N := 12) rfl in_X6 (by decide) rfl wf_71 dX7_isLane_9 ?_
    refine x_icge (tgt := 19) dX7_isLane_12 (by decide) r1 (rH _ _) (fun hc2 => ?_) (fun hc2 => ?_)
    · replace h := hp_if hc2 h
      refine x_iconst dX7_isLane_19 ?_
      cases h
      exact x_zret (hp_rc rfl) (Or.inl rfl) dX7_isLane_20
    · replace h := hp_it hc2 h
      refine x_iconst dX7_isLane_15 ?_
      refine x_goto (tgt := 20) dX7_isLane_16 (by decide) ?_
      cases h
      exact x_zret (hp_rc rfl) (Or.inr rfl) dX7_isLane_20
set_option maxRecDepth 100000 in
theorem ok_X7_post {G : hp_G} (hG : hp_sh G = hp_shc) {l : Launch} (v1 : Int) (v2 : Int) (v3 : Int) (H : hp_H) (r1 : hp_r v1) (r2 : hp_r v2) (r3 : hp_r v3) (rH : hp_in H) (x : Int × hp_H) (h : f_X7_post v1 v2 v3 H = some x) : hp_M G l yX7_post cX7_post 4 (some .int) (hp_rm 3) [.ref (hp_ad G 0), .int (hp_I v1), .int (hp_I v2), .int (hp_I v3)] H (some (.int (hp_I x.1))) x.2 (hp_r x.1 ∧ hp_in x.2) := by
  obtain ⟨r, H'⟩ := x
  unfold f_X7_post at h
  refine hp_body "HeelPost" (by decide) rfl ⟨rfl, rfl⟩ (Nat.le_of_ble_eq_true rfl) ?_
  show hp_R G l cX7_post 4 (some .int) "HeelPost" (hp_rm 3) (some (.int (hp_I r))) H' (hp_r r ∧ hp_in H') 0 [(0, .ref (hp_ad G 0)), (1, .int (hp_I v1)), (2, .int (hp_I v2)), (3, .int (hp_I v3))] [] H
  refine x_aload_n dX7_post_0 0 rfl ?_
  refine x_iload_n dX7_post_1 1 rfl ?_
  obtain ⟨c2, g1, h⟩ := hp_b1_e h
  refine x_ivi (As := [.int (hp_I v1)]) (ok_X7_isLetter hG v1 H r1 rH _ g1) cal_X7_isLetter (sc_0 hG) (by decide) (C := RX7) (T := TX7) (N := 11) rfl rfl ins_X7_isLetter sel_X7_isLetter wm_502 (by decide) rfl rfl (Nat.le_of_ble_eq_true rfl) dX7_post_2 (fun z9 => ?_)
  have rc2 := z9
  refine x_ifeq (tgt := 24) dX7_post_5 (by decide) rc2 (fun hc3 => ?_) (fun hc3 => ?_)
  · replace h := hp_it hc3 h
    refine x_ldc (x := (-1000001)) wc_270 rfl dX7_post_24 ?_
    cases h
    exact x_iret ⟨(hp_rc rfl), rH⟩ dX7_post_26
  · replace h := hp_if hc3 h
    refine x_aload_n dX7_post_8 0 rfl ?_
    refine x_iload_n dX7_post_9 2 rfl ?_
    obtain ⟨c5, g4, h⟩ := hp_b1_e h
    refine x_ivi (As := [.int (hp_I v2)]) (ok_X7_isLane hG v2 H r2 rH _ g4) cal_X7_isLane (sc_0 hG) (by decide) (C := RX7) (T := TX7) (N := 11) rfl rfl ins_X7_isLane sel_X7_isLane wm_506 (by decide) rfl rfl (Nat.le_of_ble_eq_true rfl) dX7_post_10 (fun z9 => ?_)
    have rc5 := z9
    refine x_ifeq (tgt := 24) dX7_post_13 (by decide) rc5 (fun hc6 => ?_) (fun hc6 => ?_)
    · replace h := hp_it hc6 h
      refine x_ldc (x := (-1000001)) wc_270 rfl dX7_post_24 ?_
      cases h
      exact x_iret ⟨(hp_rc rfl), rH⟩ dX7_post_26
    · replace h := hp_if hc6 h
      refine x_aload_n dX7_post_16 0 rfl ?_
      refine x_iload_n dX7_post_17 3 rfl ?_
      obtain ⟨c8, g7, h⟩ := hp_b1_e h
      refine x_ivi (As := [.int (hp_I v3)]) (ok_X7_isLane hG v3 H r3 rH _ g7) cal_X7_isLane (sc_0 hG) (by decide) (C := RX7) (T := TX7) (N := 11) rfl rfl ins_X7_isLane sel_X7_isLane wm_506 (by decide) rfl rfl (Nat.le_of_ble_eq_true rfl) dX7_post_18 (fun z9 => ?_)
      have rc8 := z9
      refine x_ifne (tgt := 27) dX7_post_21 (by decide) rc8 (fun hc9 => ?_) (fun hc9 => ?_)
      · replace h := hp_if hc9 h
        refine x_aload_n dX7_post_27 0 rfl ?_
        refine x_getr 4 (sc_0 hG) (by decide) (C := RX7) (T := TX7) (N := 11) rfl in_X7 (by decide) rfl wf_230 dX7_post_28 ?_
        refine x_aload_n dX7_post_31 0 rfl ?_
        refine x_getr 2 (sc_0 hG) (by decide) (C := RX7) (T := TX7) (N := 11) rfl in_X7 (by decide) rfl wf_228 dX7_post_32 ?_
        obtain ⟨H11, g10, h⟩ := hp_b1_e h
        refine x_ivv (As := [.ref (hp_ad G 15)]) (ok_X0_keep hG H rH _ g10) cal_X0_keep (sc_29 hG) (by decide) (C := RX0) (T := TX0) (N := 3) rfl rfl ins_X0_keep sel_X0_keep wm_469 (by decide) rfl rfl (Nat.le_of_ble_eq_true rfl) dX7_post_35 (fun z9 => ?_)
        have rH11 := z9
        refine x_aload_n dX7_post_38 0 rfl ?_
        refine x_getr 2 (sc_0 hG) (by decide) (C := RX7) (T := TX7) (N := 11) rfl in_X7 (by decide) rfl wf_228 dX7_post_39 ?_
        refine x_iload_n dX7_post_42 1 rfl ?_
        refine x_iload_n dX7_post_43 2 rfl ?_
        refine x_iload_n dX7_post_44 3 rfl ?_
        obtain ⟨H13, g12, h⟩ := hp_b1_e h
        refine x_ivv (As := [.int (hp_I v1), .int (hp_I v2), .int (hp_I v3)]) (ok_X6_putOut hG 15 v1 v2 v3 H11 (tw_at15 hG) r1 r2 r3 rH11 _ g12) cal_X6_putOut (tw_0 (tw_at15 hG)) (tw_p (tw_at15 hG)) (C := RX6) (T := TX6) (N := 12) rfl rfl ins_X6_putOut sel_X6_putOut wm_510 (by decide) rfl rfl (Nat.le_of_ble_eq_true rfl) dX7_post_45 (fun z9 => ?_)
        have rH13 := z9
        refine x_aload_n dX7_post_48 0 rfl ?_
        refine x_getr 2 (sc_0 hG) (by decide) (C := RX7) (T := TX7) (N := 11) rfl in_X7 (by decide) rfl wf_228 dX7_post_49 ?_
        refine x_gi 4 4 rfl (tw_0 (tw_at15 hG)) (tw_p (tw_at15 hG)) (C := RX6) (T := TX6) (N := 12) rfl in_X6 (by decide) rfl wf_84 dX7_post_52 ?_
        cases h
        exact x_iret ⟨(rH13 _ _), rH13⟩ dX7_post_55
      · replace h := hp_it hc9 h
        refine x_ldc (x := (-1000001)) wc_270 rfl dX7_post_24 ?_
        cases h
        exact x_iret ⟨(hp_rc rfl), rH⟩ dX7_post_26
set_option maxRecDepth 100000 in
theorem ok_X7_refusalOf {G : hp_G} (hG : hp_sh G = hp_shc) {l : Launch} (v1 : Int) (v2 : Int) (H : hp_H) (r1 : hp_r v1) (r2 : hp_r v2) (rH : hp_in H) (r : Int) (h : f_X7_refusalOf v1 v2 H = some r) : hp_M G l yX7_refusalOf cX7_refusalOf 3 (some .int) (hp_rm 2) [.ref (hp_ad G 0), .int (hp_I v1), .int (hp_I v2)] H (some (.int (hp_I r))) H (hp_r r) := by
  unfold f_X7_refusalOf at h
  refine hp_body "HeelPost" (by decide) rfl ⟨rfl, rfl⟩ (Nat.le_of_ble_eq_true rfl) ?_
  show hp_R G l cX7_refusalOf 3 (some .int) "HeelPost" (hp_rm 2) (some (.int (hp_I r))) H (hp_r r) 0 [(0, .ref (hp_ad G 0)), (1, .int (hp_I v1)), (2, .int (hp_I v2))] [] H
  refine x_iload_n dX7_refusalOf_0 2 rfl ?_
  refine x_ifeq (tgt := 12) dX7_refusalOf_1 (by decide) r2 (fun hc1 => ?_) (fun hc1 => ?_)
  · replace h := hp_it hc1 h
    refine x_ldc (x := (-1000001)) wc_270 rfl dX7_refusalOf_12 ?_
    cases h
    exact x_iret (hp_rc rfl) dX7_refusalOf_14
  · replace h := hp_if hc1 h
    refine x_aload_n dX7_refusalOf_4 0 rfl ?_
    refine x_iload_n dX7_refusalOf_5 1 rfl ?_
    obtain ⟨c3, g2, h⟩ := hp_b1_e h
    refine x_ivi (As := [.int (hp_I v1)]) (ok_X7_isLetter hG v1 H r1 rH _ g2) cal_X7_isLetter (sc_0 hG) (by decide) (C := RX7) (T := TX7) (N := 11) rfl rfl ins_X7_isLetter sel_X7_isLetter wm_502 (by decide) rfl rfl (Nat.le_of_ble_eq_true rfl) dX7_refusalOf_6 (fun z9 => ?_)
    have rc3 := z9
    refine x_ifne (tgt := 15) dX7_refusalOf_9 (by decide) rc3 (fun hc4 => ?_) (fun hc4 => ?_)
    · replace h := hp_if hc4 h
      refine x_aload_n dX7_refusalOf_15 0 rfl ?_
      refine x_getr 2 (sc_0 hG) (by decide) (C := RX7) (T := TX7) (N := 11) rfl in_X7 (by decide) rfl wf_228 dX7_refusalOf_16 ?_
      refine x_iload_n dX7_refusalOf_19 1 rfl ?_
      obtain ⟨c6, g5, h⟩ := hp_b1_e h
      refine x_ivi (As := [.int (hp_I v1)]) (ok_X6_isOut hG 15 v1 H (tw_at15 hG) r1 rH _ g5) cal_X6_isOut (tw_0 (tw_at15 hG)) (tw_p (tw_at15 hG)) (C := RX6) (T := TX6) (N := 12) rfl rfl ins_X6_isOut sel_X6_isOut wm_522 (by decide) rfl rfl (Nat.le_of_ble_eq_true rfl) dX7_refusalOf_20 (fun z9 => ?_)
      have rc6 := z9
      refine x_ifeq (tgt := 30) dX7_refusalOf_23 (by decide) rc6 (fun hc7 => ?_) (fun hc7 => ?_)
      · replace h := hp_it hc7 h
        refine x_ldc (x := (-1000002)) wc_434 rfl dX7_refusalOf_30 ?_
        cases h
        exact x_iret (hp_rc rfl) dX7_refusalOf_32
      · replace h := hp_if hc7 h
        refine x_iconst dX7_refusalOf_26 ?_
        refine x_goto (tgt := 32) dX7_refusalOf_27 (by decide) ?_
        cases h
        exact x_iret (hp_rc rfl) dX7_refusalOf_32
    · replace h := hp_it hc4 h
      refine x_ldc (x := (-1000001)) wc_270 rfl dX7_refusalOf_12 ?_
      cases h
      exact x_iret (hp_rc rfl) dX7_refusalOf_14
set_option maxRecDepth 100000 in
theorem ok_X7_callBack {G : hp_G} (hG : hp_sh G = hp_shc) {l : Launch} (v1 : Int) (H : hp_H) (r1 : hp_r v1) (rH : hp_in H) (x : Int × hp_H) (h : f_X7_callBack v1 H = some x) : hp_M G l yX7_callBack cX7_callBack 3 (some .int) (hp_rm 3) [.ref (hp_ad G 0), .int (hp_I v1)] H (some (.int (hp_I x.1))) x.2 (hp_r x.1 ∧ hp_in x.2) := by
  obtain ⟨r, H'⟩ := x
  unfold f_X7_callBack at h
  refine hp_body "HeelPost" (by decide) rfl ⟨rfl, rfl⟩ (Nat.le_of_ble_eq_true rfl) ?_
  show hp_R G l cX7_callBack 3 (some .int) "HeelPost" (hp_rm 3) (some (.int (hp_I r))) H' (hp_r r ∧ hp_in H') 0 [(0, .ref (hp_ad G 0)), (1, .int (hp_I v1))] [] H
  refine x_aload_n dX7_callBack_0 0 rfl ?_
  refine x_iload_n dX7_callBack_1 1 rfl ?_
  refine x_iconst dX7_callBack_2 ?_
  obtain ⟨c2, g1, h⟩ := hp_b1_e h
  refine x_ivi (As := [.int (hp_I v1), .int (hp_I 1)]) (ok_X7_refusalOf hG v1 1 H r1 (hp_rc rfl) rH _ g1) cal_X7_refusalOf (sc_0 hG) (by decide) (C := RX7) (T := TX7) (N := 11) rfl rfl ins_X7_refusalOf sel_X7_refusalOf wm_518 (by decide) rfl rfl (Nat.le_of_ble_eq_true rfl) dX7_callBack_3 (fun z9 => ?_)
  have rc2 := z9
  refine x_istore_n (L' := [(2, .int (hp_I c2)), (0, .ref (hp_ad G 0)), (1, .int (hp_I v1))]) dX7_callBack_6 rfl (by decide) rfl ?_
  refine x_iload_n dX7_callBack_7 0 rfl ?_
  refine x_ifeq (tgt := 13) dX7_callBack_8 (by decide) rc2 (fun hc3 => ?_) (fun hc3 => ?_)
  · replace h := hp_it hc3 h
    refine x_aload_n dX7_callBack_13 1 rfl ?_
    refine x_getr 4 (sc_0 hG) (by decide) (C := RX7) (T := TX7) (N := 11) rfl in_X7 (by decide) rfl wf_230 dX7_callBack_14 ?_
    refine x_aload_n dX7_callBack_17 1 rfl ?_
    refine x_getr 2 (sc_0 hG) (by decide) (C := RX7) (T := TX7) (N := 11) rfl in_X7 (by decide) rfl wf_228 dX7_callBack_18 ?_
    obtain ⟨H5, g4, h⟩ := hp_b1_e h
    refine x_ivv (As := [.ref (hp_ad G 15)]) (ok_X0_keep hG H rH _ g4) cal_X0_keep (sc_29 hG) (by decide) (C := RX0) (T := TX0) (N := 3) rfl rfl ins_X0_keep sel_X0_keep wm_469 (by decide) rfl rfl (Nat.le_of_ble_eq_true rfl) dX7_callBack_21 (fun z9 => ?_)
    have rH5 := z9
    refine x_aload_n dX7_callBack_24 1 rfl ?_
    refine x_getr 2 (sc_0 hG) (by decide) (C := RX7) (T := TX7) (N := 11) rfl in_X7 (by decide) rfl wf_228 dX7_callBack_25 ?_
    refine x_dup rfl dX7_callBack_28 ?_
    refine x_gi 4 4 rfl (tw_0 (tw_at15 hG)) (tw_p (tw_at15 hG)) (C := RX6) (T := TX6) (N := 12) rfl in_X6 (by decide) rfl wf_84 dX7_callBack_29 ?_
    refine x_iconst dX7_callBack_32 ?_
    refine x_iload_n dX7_callBack_33 2 rfl ?_
    refine x_ishl dX7_callBack_34 ?_
    refine x_iconst dX7_callBack_35 ?_
    refine x_ixor dX7_callBack_36 ?_
    refine x_iand dX7_callBack_37 ?_
    obtain ⟨H6, eH6⟩ : ∃ z : hp_H, z = hp_up H5 15 4 (hp_and (H5 15 4) (hp_xor (hp_shl 1 v1) (-1))) := ⟨_, rfl⟩
    replace h := hp_let_e eH6 h
    have rH6 := hp_ine eH6 (hp_in_up rH5 (hp_rand _ _))
    refine x_pi 4 4 rfl tyX6 eH6 (tw_0 (tw_at15 hG)) (tw_p (tw_at15 hG)) (C := RX6) (T := TX6) (N := 12) rfl in_X6 tyX6_ok nmX6 (by decide) rfl rfl rfl wf_84 dX7_callBack_38 ?_
    refine x_aload_n dX7_callBack_41 1 rfl ?_
    refine x_getr 2 (sc_0 hG) (by decide) (C := RX7) (T := TX7) (N := 11) rfl in_X7 (by decide) rfl wf_228 dX7_callBack_42 ?_
    refine x_getr (r := 20) 10 (tw_0 (tw_at15 hG)) (tw_p (tw_at15 hG)) (C := RX6) (T := TX6) (N := 12) rfl in_X6 (by decide) rfl wf_105 dX7_callBack_45 ?_
    refine x_iload_n dX7_callBack_48 2 rfl ?_
    obtain ⟨b7, h⟩ := hp_ck_e h
    refine x_ia 4 rfl (sc_20 hG) (by decide) (Nat.le_of_ble_eq_true rfl) b7 dX7_callBack_49 ?_
    cases h
    exact x_iret ⟨(rH6 _ _), rH6⟩ dX7_callBack_50
  · replace h := hp_if hc3 h
    refine x_iload_n dX7_callBack_11 0 rfl ?_
    cases h
    exact x_iret ⟨rc2, rH⟩ dX7_callBack_12
set_option maxRecDepth 100000 in
theorem ok_X7_isPerson {G : hp_G} (hG : hp_sh G = hp_shc) {l : Launch} (v1 : Int) (H : hp_H) (r1 : hp_r v1) (rH : hp_in H) (r : Int) (h : f_X7_isPerson v1 H = some r) : hp_M G l yX7_isPerson cX7_isPerson 2 (some .boolean) (hp_rm 0) [.ref (hp_ad G 0), .int (hp_I v1)] H (some (.int (hp_I r))) H (hp_r r) := by
  unfold f_X7_isPerson at h
  refine hp_body "HeelPost" (by decide) rfl ⟨rfl, rfl⟩ (Nat.le_of_ble_eq_true rfl) ?_
  show hp_R G l cX7_isPerson 2 (some .boolean) "HeelPost" (hp_rm 0) (some (.int (hp_I r))) H (hp_r r) 0 [(0, .ref (hp_ad G 0)), (1, .int (hp_I v1))] [] H
  refine x_iload_n dX7_isPerson_0 1 rfl ?_
  refine x_iflt (tgt := 19) dX7_isPerson_1 (by decide) r1 (fun hc1 => ?_) (fun hc1 => ?_)
  · replace h := hp_it hc1 h
    refine x_iconst dX7_isPerson_19 ?_
    cases h
    exact x_zret (hp_rc rfl) (Or.inl rfl) dX7_isPerson_20
  · replace h := hp_if hc1 h
    refine x_iload_n dX7_isPerson_4 1 rfl ?_
    refine x_aload_n dX7_isPerson_5 0 rfl ?_
    refine x_getr 2 (sc_0 hG) (by decide) (C := RX7) (T := TX7) (N := 11) rfl in_X7 (by decide) rfl wf_228 dX7_isPerson_6 ?_
    refine x_gi 2 2 rfl (tw_0 (tw_at15 hG)) (tw_p (tw_at15 hG)) (C := RX6) (T := TX6) (N := 12) rfl in_X6 (by decide) rfl wf_78 dX7_isPerson_9 ?_
    refine x_icge (tgt := 19) dX7_isPerson_12 (by decide) r1 (rH _ _) (fun hc2 => ?_) (fun hc2 => ?_)
    · replace h := hp_if hc2 h
      refine x_iconst dX7_isPerson_19 ?_
      cases h
      exact x_zret (hp_rc rfl) (Or.inl rfl) dX7_isPerson_20
    · replace h := hp_it hc2 h
      refine x_iconst dX7_isPerson_15 ?_
      refine x_goto (tgt := 20) dX7_isPerson_16 (by decide) ?_
      cases h
      exact x_zret (hp_rc rfl) (Or.inr rfl) dX7_isPerson_20
set_option maxRecDepth 100000 in
theorem ok_X7_begin {G : hp_G} (hG : hp_sh G = hp_shc) {l : Launch} (v1 : Int) (v2 : Int) (H : hp_H) (r1 : hp_r v1) (r2 : hp_r v2) (rH : hp_in H) (x : Int × hp_H) (h : f_X7_begin v1 v2 H = some x) : hp_M G l yX7_begin cX7_begin 4 (some .int) (hp_rm 3) [.ref (hp_ad G 0), .int (hp_I v1), .int (hp_I v2)] H (some (.int (hp_I x.1))) x.2 (hp_r x.1 ∧ hp_in x.2) := by
  obtain ⟨r, H'⟩ := x
  unfold f_X7_begin at h
  refine hp_body "HeelPost" (by decide) rfl ⟨rfl, rfl⟩ (Nat.le_of_ble_eq_true rfl) ?_
  show hp_R G l cX7_begin 4 (some .int) "HeelPost" (hp_rm 3) (some (.int (hp_I r))) H' (hp_r r ∧ hp_in H') 0 [(0, .ref (hp_ad G 0)), (1, .int (hp_I v1)), (2, .int (hp_I v2))] [] H
  refine x_aload_n dX7_begin_0 0 rfl ?_
  refine x_iload_n dX7_begin_1 1 rfl ?_
  obtain ⟨c2, g1, h⟩ := hp_b1_e h
  refine x_ivi (As := [.int (hp_I v1)]) (ok_X7_isPerson hG v1 H r1 rH _ g1) cal_X7_isPerson (sc_0 hG) (by decide) (C := RX7) (T := TX7) (N := 11) rfl rfl ins_X7_isPerson sel_X7_isPerson wm_530 (by decide) rfl rfl (Nat.le_of_ble_eq_true rfl) dX7_begin_2 (fun z9 => ?_)
  have rc2 := z9
  refine x_ifeq (tgt := 18) dX7_begin_5 (by decide) rc2 (fun hc3 => ?_) (fun hc3 => ?_)
  · replace h := hp_it hc3 h
    refine x_ldc (x := (-1000001)) wc_270 rfl dX7_begin_18 ?_
    cases h
    exact x_iret ⟨(hp_rc rfl), rH⟩ dX7_begin_20
  · replace h := hp_if hc3 h
    refine x_iload_n dX7_begin_8 2 rfl ?_
    refine x_iconst dX7_begin_9 ?_
    refine x_bipush rfl dX7_begin_10 ?_
    obtain ⟨c5, g4, h⟩ := hp_b1_e h
    refine x_isi (As := [.int (hp_I v2), .int (hp_I 0), .int (hp_I 23)]) (ok_X7_within hG v2 0 23 H r2 (hp_rc rfl) (hp_rc rfl) rH _ g4) cal_X7_within stt_X7_within wm_267 (by decide) rfl rfl (Nat.le_of_ble_eq_true rfl) dX7_begin_12 (fun z9 => ?_)
    have rc5 := z9
    refine x_ifne (tgt := 21) dX7_begin_15 (by decide) rc5 (fun hc6 => ?_) (fun hc6 => ?_)
    · replace h := hp_if hc6 h
      refine x_aload_n dX7_begin_21 0 rfl ?_
      refine x_getr 2 (sc_0 hG) (by decide) (C := RX7) (T := TX7) (N := 11) rfl in_X7 (by decide) rfl wf_228 dX7_begin_22 ?_
      refine x_getr (r := 19) 9 (tw_0 (tw_at15 hG)) (tw_p (tw_at15 hG)) (C := RX6) (T := TX6) (N := 12) rfl in_X6 (by decide) rfl wf_100 dX7_begin_25 ?_
      refine x_iload_n dX7_begin_28 1 rfl ?_
      obtain ⟨b7, h⟩ := hp_ck_e h
      refine x_ia 6 rfl (sc_19 hG) (by decide) (Nat.le_of_ble_eq_true rfl) b7 dX7_begin_29 ?_
      obtain ⟨v3_8, ev3_8⟩ : ∃ z : Int, z = (H 19 v1) := ⟨_, rfl⟩
      replace h := hp_let_e ev3_8 h
      have rv3_8 := hp_re ev3_8 (rH _ _)
      refine x_isnE (L' := [(3, .int (hp_I v3_8)), (0, .ref (hp_ad G 0)), (1, .int (hp_I v1)), (2, .int (hp_I v2))]) ev3_8 dX7_begin_30 rfl (by decide) rfl ?_
      refine x_aload_n dX7_begin_31 1 rfl ?_
      refine x_getr 4 (sc_0 hG) (by decide) (C := RX7) (T := TX7) (N := 11) rfl in_X7 (by decide) rfl wf_230 dX7_begin_32 ?_
      refine x_aload_n dX7_begin_35 1 rfl ?_
      refine x_getr 2 (sc_0 hG) (by decide) (C := RX7) (T := TX7) (N := 11) rfl in_X7 (by decide) rfl wf_228 dX7_begin_36 ?_
      obtain ⟨H10, g9, h⟩ := hp_b1_e h
      refine x_ivv (As := [.ref (hp_ad G 15)]) (ok_X0_keep hG H rH _ g9) cal_X0_keep (sc_29 hG) (by decide) (C := RX0) (T := TX0) (N := 3) rfl rfl ins_X0_keep sel_X0_keep wm_469 (by decide) rfl rfl (Nat.le_of_ble_eq_true rfl) dX7_begin_39 (fun z9 => ?_)
      have rH10 := z9
      refine x_aload_n dX7_begin_42 1 rfl ?_
      refine x_getr 2 (sc_0 hG) (by decide) (C := RX7) (T := TX7) (N := 11) rfl in_X7 (by decide) rfl wf_228 dX7_begin_43 ?_
      refine x_getr (r := 19) 9 (tw_0 (tw_at15 hG)) (tw_p (tw_at15 hG)) (C := RX6) (T := TX6) (N := 12) rfl in_X6 (by decide) rfl wf_100 dX7_begin_46 ?_
      refine x_iload_n dX7_begin_49 2 rfl ?_
      refine x_iload_n dX7_begin_50 3 rfl ?_
      obtain ⟨H11, eH11⟩ : ∃ z : hp_H, z = hp_up H10 19 v1 v2 := ⟨_, rfl⟩
      replace h := hp_let_e eH11 h
      have rH11 := hp_ine eH11 (hp_in_up rH10 r2)
      refine x_ias 6 rfl eH11 (sc_19 hG) (by decide) (Nat.le_of_ble_eq_true rfl) b7 dX7_begin_51 ?_
      refine x_iload_n dX7_begin_52 0 rfl ?_
      cases h
      exact x_iret ⟨rv3_8, rH11⟩ dX7_begin_53
    · replace h := hp_it hc6 h
      refine x_ldc (x := (-1000001)) wc_270 rfl dX7_begin_18 ?_
      cases h
      exact x_iret ⟨(hp_rc rfl), rH⟩ dX7_begin_20
set_option maxRecDepth 100000 in
theorem ok_X7_stay {G : hp_G} (hG : hp_sh G = hp_shc) {l : Launch} (v1 : Int) (v2 : Int) (H : hp_H) (r1 : hp_r v1) (r2 : hp_r v2) (rH : hp_in H) (x : Int × hp_H) (h : f_X7_stay v1 v2 H = some x) : hp_M G l yX7_stay cX7_stay 3 (some .int) (hp_rm 3) [.ref (hp_ad G 0), .int (hp_I v1), .int (hp_I v2)] H (some (.int (hp_I x.1))) x.2 (hp_r x.1 ∧ hp_in x.2) := by
  obtain ⟨r, H'⟩ := x
  unfold f_X7_stay at h
  refine hp_body "HeelPost" (by decide) rfl ⟨rfl, rfl⟩ (Nat.le_of_ble_eq_true rfl) ?_
  show hp_R G l cX7_stay 3 (some .int) "HeelPost" (hp_rm 3) (some (.int (hp_I r))) H' (hp_r r ∧ hp_in H') 0 [(0, .ref (hp_ad G 0)), (1, .int (hp_I v1)), (2, .int (hp_I v2))] [] H
  refine x_aload_n dX7_stay_0 0 rfl ?_
  refine x_iload_n dX7_stay_1 1 rfl ?_
  obtain ⟨c2, g1, h⟩ := hp_b1_e h
  refine x_ivi (As := [.int (hp_I v1)]) (ok_X7_isPerson hG v1 H r1 rH _ g1) cal_X7_isPerson (sc_0 hG) (by decide) (C := RX7) (T := TX7) (N := 11) rfl rfl ins_X7_isPerson sel_X7_isPerson wm_530 (by decide) rfl rfl (Nat.le_of_ble_eq_true rfl) dX7_stay_2 (fun z9 => ?_)
  have rc2 := z9
  refine x_ifeq (tgt := 17) dX7_stay_5 (by decide) rc2 (fun hc3 => ?_) (fun hc3 => ?_)
  · replace h := hp_it hc3 h
    refine x_ldc (x := (-1000001)) wc_270 rfl dX7_stay_17 ?_
    cases h
    exact x_iret ⟨(hp_rc rfl), rH⟩ dX7_stay_19
  · replace h := hp_if hc3 h
    refine x_iload_n dX7_stay_8 2 rfl ?_
    refine x_iconst dX7_stay_9 ?_
    refine x_iconst dX7_stay_10 ?_
    obtain ⟨c5, g4, h⟩ := hp_b1_e h
    refine x_isi (As := [.int (hp_I v2), .int (hp_I 0), .int (hp_I 1)]) (ok_X7_within hG v2 0 1 H r2 (hp_rc rfl) (hp_rc rfl) rH _ g4) cal_X7_within stt_X7_within wm_267 (by decide) rfl rfl (Nat.le_of_ble_eq_true rfl) dX7_stay_11 (fun z9 => ?_)
    have rc5 := z9
    refine x_ifne (tgt := 20) dX7_stay_14 (by decide) rc5 (fun hc6 => ?_) (fun hc6 => ?_)
    · replace h := hp_if hc6 h
      refine x_aload_n dX7_stay_20 0 rfl ?_
      refine x_getr 2 (sc_0 hG) (by decide) (C := RX7) (T := TX7) (N := 11) rfl in_X7 (by decide) rfl wf_228 dX7_stay_21 ?_
      refine x_iload_n dX7_stay_24 1 rfl ?_
      obtain ⟨c8, g7, h⟩ := hp_b1_e h
      refine x_ivi (As := [.int (hp_I v1)]) (ok_X6_isHome hG 15 v1 H (tw_at15 hG) r1 rH _ g7) cal_X6_isHome (tw_0 (tw_at15 hG)) (tw_p (tw_at15 hG)) (C := RX6) (T := TX6) (N := 12) rfl rfl ins_X6_isHome sel_X6_isHome wm_538 (by decide) rfl rfl (Nat.le_of_ble_eq_true rfl) dX7_stay_25 (fun z9 => ?_)
      have rc8 := z9
      refine x_iload_n dX7_stay_28 2 rfl ?_
      refine x_iconst dX7_stay_29 ?_
      obtain ⟨m9, em9⟩ : ∃ z : Int, z = (if v2 = 1 then 1 else 0) := ⟨_, rfl⟩
      replace h := hp_let_e em9 h
      have rm9 := hp_re em9 (hp_rite (hp_rc rfl) (hp_rc rfl))
      have zm9 : m9 = 0 ∨ m9 = 1 := by rw [em9]; exact (hp_z01 (Or.inr rfl) (Or.inl rfl))
      have kj : hp_R G l cX7_stay 3 (some .int) "HeelPost" (hp_rm 3) (some (.int (hp_I r))) H' (hp_r r ∧ hp_in H') 38 [(0, .ref (hp_ad G 0)), (1, .int (hp_I v1))] [.int (hp_I m9), .int (hp_I c8)] H := by
        refine x_icne (tgt := 44) dX7_stay_38 (by decide) rc8 rm9 (fun hc10 => ?_) (fun hc10 => ?_)
        · replace h := hp_if hc10 h
          refine x_aload_n dX7_stay_44 0 rfl ?_
          refine x_getr 4 (sc_0 hG) (by decide) (C := RX7) (T := TX7) (N := 11) rfl in_X7 (by decide) rfl wf_230 dX7_stay_45 ?_
          refine x_aload_n dX7_stay_48 0 rfl ?_
          refine x_getr 2 (sc_0 hG) (by decide) (C := RX7) (T := TX7) (N := 11) rfl in_X7 (by decide) rfl wf_228 dX7_stay_49 ?_
          obtain ⟨H12, g11, h⟩ := hp_b1_e h
          refine x_ivv (As := [.ref (hp_ad G 15)]) (ok_X0_keep hG H rH _ g11) cal_X0_keep (sc_29 hG) (by decide) (C := RX0) (T := TX0) (N := 3) rfl rfl ins_X0_keep sel_X0_keep wm_469 (by decide) rfl rfl (Nat.le_of_ble_eq_true rfl) dX7_stay_52 (fun z9 => ?_)
          have rH12 := z9
          refine x_aload_n dX7_stay_55 0 rfl ?_
          refine x_getr 2 (sc_0 hG) (by decide) (C := RX7) (T := TX7) (N := 11) rfl in_X7 (by decide) rfl wf_228 dX7_stay_56 ?_
          refine x_dup rfl dX7_stay_59 ?_
          refine x_gi 5 5 rfl (tw_0 (tw_at15 hG)) (tw_p (tw_at15 hG)) (C := RX6) (T := TX6) (N := 12) rfl in_X6 (by decide) rfl wf_88 dX7_stay_60 ?_
          refine x_iconst dX7_stay_63 ?_
          refine x_iload_n dX7_stay_64 1 rfl ?_
          refine x_ishl dX7_stay_65 ?_
          refine x_ixor dX7_stay_66 ?_
          obtain ⟨H13, eH13⟩ : ∃ z : hp_H, z = hp_up H12 15 5 (hp_xor (H12 15 5) (hp_shl 1 v1)) := ⟨_, rfl⟩
          replace h := hp_let_e eH13 h
          have rH13 := hp_ine eH13 (hp_in_up rH12 (hp_rxor _ _))
          refine x_pi 5 5 rfl tyX6 eH13 (tw_0 (tw_at15 hG)) (tw_p (tw_at15 hG)) (C := RX6) (T := TX6) (N := 12) rfl in_X6 tyX6_ok nmX6 (by decide) rfl rfl rfl wf_88 dX7_stay_67 ?_
          refine x_aload_n dX7_stay_70 0 rfl ?_
          refine x_getr 2 (sc_0 hG) (by decide) (C := RX7) (T := TX7) (N := 11) rfl in_X7 (by decide) rfl wf_228 dX7_stay_71 ?_
          refine x_gi 5 5 rfl (tw_0 (tw_at15 hG)) (tw_p (tw_at15 hG)) (C := RX6) (T := TX6) (N := 12) rfl in_X6 (by decide) rfl wf_88 dX7_stay_74 ?_
          cases h
          exact x_iret ⟨(rH13 _ _), rH13⟩ dX7_stay_77
        · replace h := hp_it hc10 h
          refine x_ldc (x := (-1000002)) wc_434 rfl dX7_stay_41 ?_
          cases h
          exact x_iret ⟨(hp_rc rfl), rH⟩ dX7_stay_43
      clear h
      refine x_icne (tgt := 37) dX7_stay_30 (by decide) r2 (hp_rc rfl) (fun hc14 => ?_) (fun hc14 => ?_)
      · refine x_iconst dX7_stay_37 ?_
        have q9 := (em9.trans (if_neg hc14))
        subst q9
        exact x_sub [0, 1] rfl kj
      · refine x_iconst dX7_stay_33 ?_
        refine x_goto (tgt := 38) dX7_stay_34 (by decide) ?_
        have q9 := (em9.trans (if_pos hc14))
        subst q9
        exact x_sub [0, 1] rfl kj
    · replace h := hp_it hc6 h
      refine x_ldc (x := (-1000001)) wc_270 rfl dX7_stay_17 ?_
      cases h
      exact x_iret ⟨(hp_rc rfl), rH⟩ dX7_stay_19
set_option maxRecDepth 100000 in
theorem ok_X7_person {G : hp_G} (hG : hp_sh G = hp_shc) {l : Launch} (v1 : Int) (v2 : Int) (H : hp_H) (r1 : hp_r v1) (r2 : hp_r v2) (rH : hp_in H) (r : Int) (h : f_X7_person v1 v2 H = some r) : hp_M G l yX7_person cX7_person 3 (some .int) (hp_rm 3) [.ref (hp_ad G 0), .int (hp_I v1), .int (hp_I v2)] H (some (.int (hp_I r))) H (hp_r r) := by
  unfold f_X7_person at h
  refine hp_body "HeelPost" (by decide) rfl ⟨rfl, rfl⟩ (Nat.le_of_ble_eq_true rfl) ?_
  show hp_R G l cX7_person 3 (some .int) "HeelPost" (hp_rm 3) (some (.int (hp_I r))) H (hp_r r) 0 [(0, .ref (hp_ad G 0)), (1, .int (hp_I v1)), (2, .int (hp_I v2))] [] H
  refine x_aload_n dX7_person_0 0 rfl ?_
  refine x_iload_n dX7_person_1 1 rfl ?_
  obtain ⟨c2, g1, h⟩ := hp_b1_e h
  refine x_ivi (As := [.int (hp_I v1)]) (ok_X7_isPerson hG v1 H r1 rH _ g1) cal_X7_isPerson (sc_0 hG) (by decide) (C := RX7) (T := TX7) (N := 11) rfl rfl ins_X7_isPerson sel_X7_isPerson wm_530 (by decide) rfl rfl (Nat.le_of_ble_eq_true rfl) dX7_person_2 (fun z9 => ?_)
  have rc2 := z9
  refine x_ifne (tgt := 11) dX7_person_5 (by decide) rc2 (fun hc3 => ?_) (fun hc3 => ?_)
  · replace h := hp_if hc3 h
    refine x_iload_n dX7_person_11 2 rfl ?_
    by_cases hc4 : v2 = 0
    · replace h := hp_it hc4 h
      refine x_tabin (tgt := 52) 0 dX7_person_12 r2 hc4 (by decide) (by decide) rfl (by decide) ?_
      refine x_aload_n dX7_person_52 0 rfl ?_
      refine x_getr 2 (sc_0 hG) (by decide) (C := RX7) (T := TX7) (N := 11) rfl in_X7 (by decide) rfl wf_228 dX7_person_53 ?_
      refine x_getr (r := 17) 7 (tw_0 (tw_at15 hG)) (tw_p (tw_at15 hG)) (C := RX6) (T := TX6) (N := 12) rfl in_X6 (by decide) rfl wf_95 dX7_person_56 ?_
      refine x_iload_n dX7_person_59 1 rfl ?_
      obtain ⟨b5, h⟩ := hp_ck_e h
      refine x_ia 6 rfl (sc_17 hG) (by decide) (Nat.le_of_ble_eq_true rfl) b5 dX7_person_60 ?_
      cases h
      exact x_iret (rH _ _) dX7_person_61
    replace h := hp_if hc4 h
    by_cases hc6 : v2 = 1
    · replace h := hp_it hc6 h
      refine x_tabin (tgt := 62) 1 dX7_person_12 r2 hc6 (by decide) (by decide) rfl (by decide) ?_
      refine x_aload_n dX7_person_62 0 rfl ?_
      refine x_getr 2 (sc_0 hG) (by decide) (C := RX7) (T := TX7) (N := 11) rfl in_X7 (by decide) rfl wf_228 dX7_person_63 ?_
      refine x_getr (r := 18) 8 (tw_0 (tw_at15 hG)) (tw_p (tw_at15 hG)) (C := RX6) (T := TX6) (N := 12) rfl in_X6 (by decide) rfl wf_97 dX7_person_66 ?_
      refine x_iload_n dX7_person_69 1 rfl ?_
      obtain ⟨b7, h⟩ := hp_ck_e h
      refine x_ia 6 rfl (sc_18 hG) (by decide) (Nat.le_of_ble_eq_true rfl) b7 dX7_person_70 ?_
      cases h
      exact x_iret (rH _ _) dX7_person_71
    replace h := hp_if hc6 h
    by_cases hc8 : v2 = 2
    · replace h := hp_it hc8 h
      refine x_tabin (tgt := 72) 2 dX7_person_12 r2 hc8 (by decide) (by decide) rfl (by decide) ?_
      refine x_aload_n dX7_person_72 0 rfl ?_
      refine x_getr 2 (sc_0 hG) (by decide) (C := RX7) (T := TX7) (N := 11) rfl in_X7 (by decide) rfl wf_228 dX7_person_73 ?_
      refine x_getr (r := 19) 9 (tw_0 (tw_at15 hG)) (tw_p (tw_at15 hG)) (C := RX6) (T := TX6) (N := 12) rfl in_X6 (by decide) rfl wf_100 dX7_person_76 ?_
      refine x_iload_n dX7_person_79 1 rfl ?_
      obtain ⟨b9, h⟩ := hp_ck_e h
      refine x_ia 6 rfl (sc_19 hG) (by decide) (Nat.le_of_ble_eq_true rfl) b9 dX7_person_80 ?_
      cases h
      exact x_iret (rH _ _) dX7_person_81
    replace h := hp_if hc8 h
    by_cases hc10 : v2 = 3
    · replace h := hp_it hc10 h
      refine x_tabin (tgt := 82) 3 dX7_person_12 r2 hc10 (by decide) (by decide) rfl (by decide) ?_
      refine x_aload_n dX7_person_82 0 rfl ?_
      refine x_getr 2 (sc_0 hG) (by decide) (C := RX7) (T := TX7) (N := 11) rfl in_X7 (by decide) rfl wf_228 dX7_person_83 ?_
      refine x_iload_n dX7_person_86 1 rfl ?_
      refine x_iconst dX7_person_87 ?_
      obtain ⟨c12, g11, h⟩ := hp_b1_e h
      refine x_ivi (As := [.int (hp_I v1), .int (hp_I 0)]) (ok_X6_whereIs hG 15 v1 0 H (tw_at15 hG) r1 (hp_rc rfl) rH _ g11) cal_X6_whereIs (tw_0 (tw_at15 hG)) (tw_p (tw_at15 hG)) (C := RX6) (T := TX6) (N := 12) rfl rfl ins_X6_whereIs sel_X6_whereIs wm_546 (by decide) rfl rfl (Nat.le_of_ble_eq_true rfl) dX7_person_88 (fun z9 => ?_)
      have rc12 := z9
      cases h
      exact x_iret rc12 dX7_person_91
    replace h := hp_if hc10 h
    by_cases hc13 : v2 = 4
    · replace h := hp_it hc13 h
      refine x_tabin (tgt := 92) 4 dX7_person_12 r2 hc13 (by decide) (by decide) rfl (by decide) ?_
      refine x_aload_n dX7_person_92 0 rfl ?_
      refine x_getr 2 (sc_0 hG) (by decide) (C := RX7) (T := TX7) (N := 11) rfl in_X7 (by decide) rfl wf_228 dX7_person_93 ?_
      refine x_iload_n dX7_person_96 1 rfl ?_
      refine x_iconst dX7_person_97 ?_
      obtain ⟨c15, g14, h⟩ := hp_b1_e h
      refine x_ivi (As := [.int (hp_I v1), .int (hp_I 1)]) (ok_X6_whereIs hG 15 v1 1 H (tw_at15 hG) r1 (hp_rc rfl) rH _ g14) cal_X6_whereIs (tw_0 (tw_at15 hG)) (tw_p (tw_at15 hG)) (C := RX6) (T := TX6) (N := 12) rfl rfl ins_X6_whereIs sel_X6_whereIs wm_546 (by decide) rfl rfl (Nat.le_of_ble_eq_true rfl) dX7_person_98 (fun z9 => ?_)
      have rc15 := z9
      cases h
      exact x_iret rc15 dX7_person_101
    replace h := hp_if hc13 h
    by_cases hc16 : v2 = 5
    · replace h := hp_it hc16 h
      refine x_tabin (tgt := 102) 5 dX7_person_12 r2 hc16 (by decide) (by decide) rfl (by decide) ?_
      refine x_aload_n dX7_person_102 0 rfl ?_
      refine x_getr 2 (sc_0 hG) (by decide) (C := RX7) (T := TX7) (N := 11) rfl in_X7 (by decide) rfl wf_228 dX7_person_103 ?_
      refine x_iload_n dX7_person_106 1 rfl ?_
      obtain ⟨c18, g17, h⟩ := hp_b1_e h
      refine x_ivi (As := [.int (hp_I v1)]) (ok_X6_isHome hG 15 v1 H (tw_at15 hG) r1 rH _ g17) cal_X6_isHome (tw_0 (tw_at15 hG)) (tw_p (tw_at15 hG)) (C := RX6) (T := TX6) (N := 12) rfl rfl ins_X6_isHome sel_X6_isHome wm_538 (by decide) rfl rfl (Nat.le_of_ble_eq_true rfl) dX7_person_107 (fun z9 => ?_)
      have rc18 := z9
      refine x_ifeq (tgt := 117) dX7_person_110 (by decide) rc18 (fun hc19 => ?_) (fun hc19 => ?_)
      · replace h := hp_it hc19 h
        refine x_iconst dX7_person_117 ?_
        cases h
        exact x_iret (hp_rc rfl) dX7_person_118
      · replace h := hp_if hc19 h
        refine x_iconst dX7_person_113 ?_
        refine x_goto (tgt := 118) dX7_person_114 (by decide) ?_
        cases h
        exact x_iret (hp_rc rfl) dX7_person_118
    replace h := hp_if hc16 h
    have kd : hp_R G l cX7_person 3 (some .int) "HeelPost" (hp_rm 3) (some (.int (hp_I r))) H (hp_r r) 119 [(0, .ref (hp_ad G 0)), (1, .int (hp_I v1)), (2, .int (hp_I v2))] [] H := by
      refine x_ldc (x := (-1000001)) wc_270 rfl dX7_person_119 ?_
      cases h
      exact x_iret (hp_rc rfl) dX7_person_121
    exact x_tabout (tgt := 119) dX7_person_12 r2 (by omega) (by decide) kd
  · replace h := hp_it hc3 h
    refine x_ldc (x := (-1000001)) wc_270 rfl dX7_person_8 ?_
    cases h
    exact x_iret (hp_rc rfl) dX7_person_10
set_option maxRecDepth 100000 in
theorem ok_X7_letter {G : hp_G} (hG : hp_sh G = hp_shc) {l : Launch} (v1 : Int) (v2 : Int) (H : hp_H) (r1 : hp_r v1) (r2 : hp_r v2) (rH : hp_in H) (x : Int × hp_H) (h : f_X7_letter v1 v2 H = some x) : hp_M G l yX7_letter cX7_letter 3 (some .int) (hp_rm 6) [.ref (hp_ad G 0), .int (hp_I v1), .int (hp_I v2)] H (some (.int (hp_I x.1))) x.2 (hp_r x.1 ∧ hp_in x.2) := by
  obtain ⟨r, H'⟩ := x
  unfold f_X7_letter at h
  refine hp_body "HeelPost" (by decide) rfl ⟨rfl, rfl⟩ (Nat.le_of_ble_eq_true rfl) ?_
  show hp_R G l cX7_letter 3 (some .int) "HeelPost" (hp_rm 6) (some (.int (hp_I r))) H' (hp_r r ∧ hp_in H') 0 [(0, .ref (hp_ad G 0)), (1, .int (hp_I v1)), (2, .int (hp_I v2))] [] H
  refine x_aload_n dX7_letter_0 0 rfl ?_
  refine x_iload_n dX7_letter_1 1 rfl ?_
  obtain ⟨c2, g1, h⟩ := hp_b1_e h
  refine x_ivi (As := [.int (hp_I v1)]) (ok_X7_isLetter hG v1 H r1 rH _ g1) cal_X7_isLetter (sc_0 hG) (by decide) (C := RX7) (T := TX7) (N := 11) rfl rfl ins_X7_isLetter sel_X7_isLetter wm_502 (by decide) rfl rfl (Nat.le_of_ble_eq_true rfl) dX7_letter_2 (fun z9 => ?_)
  have rc2 := z9
  refine x_ifne (tgt := 11) dX7_letter_5 (by decide) rc2 (fun hc3 => ?_) (fun hc3 => ?_)
  · replace h := hp_if hc3 h
    refine x_iload_n dX7_letter_11 2 rfl ?_
    refine x_ifne (tgt := 32) dX7_letter_12 (by decide) r2 (fun hc4 => ?_) (fun hc4 => ?_)
    · replace h := hp_if hc4 h
      refine x_aload_n dX7_letter_32 0 rfl ?_
      refine x_getr 2 (sc_0 hG) (by decide) (C := RX7) (T := TX7) (N := 11) rfl in_X7 (by decide) rfl wf_228 dX7_letter_33 ?_
      refine x_iload_n dX7_letter_36 1 rfl ?_
      obtain ⟨c9, g8, h⟩ := hp_b1_e h
      refine x_ivi (As := [.int (hp_I v1)]) (ok_X6_isOut hG 15 v1 H (tw_at15 hG) r1 rH _ g8) cal_X6_isOut (tw_0 (tw_at15 hG)) (tw_p (tw_at15 hG)) (C := RX6) (T := TX6) (N := 12) rfl rfl ins_X6_isOut sel_X6_isOut wm_522 (by decide) rfl rfl (Nat.le_of_ble_eq_true rfl) dX7_letter_37 (fun z9 => ?_)
      have rc9 := z9
      refine x_ifne (tgt := 46) dX7_letter_40 (by decide) rc9 (fun hc10 => ?_) (fun hc10 => ?_)
      · replace h := hp_if hc10 h
        refine x_iload_n dX7_letter_46 2 rfl ?_
        by_cases hc11 : v2 = 1
        · replace h := hp_it hc11 h
          refine x_tabin (tgt := 72) 1 dX7_letter_47 r2 hc11 (by decide) (by decide) rfl (by decide) ?_
          refine x_aload_n dX7_letter_72 0 rfl ?_
          refine x_getr 2 (sc_0 hG) (by decide) (C := RX7) (T := TX7) (N := 11) rfl in_X7 (by decide) rfl wf_228 dX7_letter_73 ?_
          refine x_getr (r := 20) 10 (tw_0 (tw_at15 hG)) (tw_p (tw_at15 hG)) (C := RX6) (T := TX6) (N := 12) rfl in_X6 (by decide) rfl wf_105 dX7_letter_76 ?_
          refine x_iload_n dX7_letter_79 1 rfl ?_
          obtain ⟨b12, h⟩ := hp_ck_e h
          refine x_ia 4 rfl (sc_20 hG) (by decide) (Nat.le_of_ble_eq_true rfl) b12 dX7_letter_80 ?_
          cases h
          exact x_iret ⟨(rH _ _), rH⟩ dX7_letter_81
        replace h := hp_if hc11 h
        by_cases hc13 : v2 = 2
        · replace h := hp_it hc13 h
          refine x_tabin (tgt := 82) 2 dX7_letter_47 r2 hc13 (by decide) (by decide) rfl (by decide) ?_
          refine x_aload_n dX7_letter_82 0 rfl ?_
          refine x_getr 2 (sc_0 hG) (by decide) (C := RX7) (T := TX7) (N := 11) rfl in_X7 (by decide) rfl wf_228 dX7_letter_83 ?_
          refine x_getr (r := 21) 11 (tw_0 (tw_at15 hG)) (tw_p (tw_at15 hG)) (C := RX6) (T := TX6) (N := 12) rfl in_X6 (by decide) rfl wf_109 dX7_letter_86 ?_
          refine x_iload_n dX7_letter_89 1 rfl ?_
          obtain ⟨b14, h⟩ := hp_ck_e h
          refine x_ia 4 rfl (sc_21 hG) (by decide) (Nat.le_of_ble_eq_true rfl) b14 dX7_letter_90 ?_
          cases h
          exact x_iret ⟨(rH _ _), rH⟩ dX7_letter_91
        replace h := hp_if hc13 h
        by_cases hc15 : v2 = 3
        · replace h := hp_it hc15 h
          refine x_tabin (tgt := 92) 3 dX7_letter_47 r2 hc15 (by decide) (by decide) rfl (by decide) ?_
          refine x_aload_n dX7_letter_92 0 rfl ?_
          refine x_getr 6 (sc_0 hG) (by decide) (C := RX7) (T := TX7) (N := 11) rfl in_X7 (by decide) rfl wf_232 dX7_letter_93 ?_
          refine x_aload_n dX7_letter_96 0 rfl ?_
          refine x_getr 2 (sc_0 hG) (by decide) (C := RX7) (T := TX7) (N := 11) rfl in_X7 (by decide) rfl wf_228 dX7_letter_97 ?_
          refine x_iload_n dX7_letter_100 1 rfl ?_
          obtain ⟨c17, H18, g16, h⟩ := hp_b2_e h
          refine x_ivi (As := [.ref (hp_ad G 15), .int (hp_I v1)]) (ok_X3_nextCarrier hG v1 H r1 rH _ g16) cal_X3_nextCarrier (sc_210 hG) (by decide) (C := RX3) (T := TX3) (N := 6) rfl rfl ins_X3_nextCarrier sel_X3_nextCarrier wm_556 (by decide) rfl rfl (Nat.le_of_ble_eq_true rfl) dX7_letter_101 (fun z9 => ?_)
          obtain ⟨rc17, rH18⟩ := z9
          cases h
          exact x_iret ⟨rc17, rH18⟩ dX7_letter_104
        replace h := hp_if hc15 h
        have kd : hp_R G l cX7_letter 3 (some .int) "HeelPost" (hp_rm 6) (some (.int (hp_I r))) H' (hp_r r ∧ hp_in H') 105 [(0, .ref (hp_ad G 0)), (1, .int (hp_I v1)), (2, .int (hp_I v2))] [] H := by
          refine x_ldc (x := (-1000001)) wc_270 rfl dX7_letter_105 ?_
          cases h
          exact x_iret ⟨(hp_rc rfl), rH⟩ dX7_letter_107
        exact x_tabout (tgt := 105) dX7_letter_47 r2 (by omega) (by decide) kd
      · replace h := hp_it hc10 h
        refine x_ldc (x := (-1000001)) wc_270 rfl dX7_letter_43 ?_
        cases h
        exact x_iret ⟨(hp_rc rfl), rH⟩ dX7_letter_45
    · replace h := hp_it hc4 h
      refine x_aload_n dX7_letter_15 0 rfl ?_
      refine x_getr 2 (sc_0 hG) (by decide) (C := RX7) (T := TX7) (N := 11) rfl in_X7 (by decide) rfl wf_228 dX7_letter_16 ?_
      refine x_iload_n dX7_letter_19 1 rfl ?_
      obtain ⟨c6, g5, h⟩ := hp_b1_e h
      refine x_ivi (As := [.int (hp_I v1)]) (ok_X6_isOut hG 15 v1 H (tw_at15 hG) r1 rH _ g5) cal_X6_isOut (tw_0 (tw_at15 hG)) (tw_p (tw_at15 hG)) (C := RX6) (T := TX6) (N := 12) rfl rfl ins_X6_isOut sel_X6_isOut wm_522 (by decide) rfl rfl (Nat.le_of_ble_eq_true rfl) dX7_letter_20 (fun z9 => ?_)
      have rc6 := z9
      refine x_ifeq (tgt := 30) dX7_letter_23 (by decide) rc6 (fun hc7 => ?_) (fun hc7 => ?_)
      · replace h := hp_it hc7 h
        refine x_iconst dX7_letter_30 ?_
        cases h
        exact x_iret ⟨(hp_rc rfl), rH⟩ dX7_letter_31
      · replace h := hp_if hc7 h
        refine x_iconst dX7_letter_26 ?_
        refine x_goto (tgt := 31) dX7_letter_27 (by decide) ?_
        cases h
        exact x_iret ⟨(hp_rc rfl), rH⟩ dX7_letter_31
  · replace h := hp_it hc3 h
    refine x_ldc (x := (-1000001)) wc_270 rfl dX7_letter_8 ?_
    cases h
    exact x_iret ⟨(hp_rc rfl), rH⟩ dX7_letter_10
set_option maxRecDepth 100000 in
theorem ok_X7_lane {G : hp_G} (hG : hp_sh G = hp_shc) {l : Launch} (v1 : Int) (H : hp_H) (r1 : hp_r v1) (rH : hp_in H) (r : Int) (h : f_X7_lane v1 H = some r) : hp_M G l yX7_lane cX7_lane 2 (some .int) (hp_rm 4) [.ref (hp_ad G 0), .int (hp_I v1)] H (some (.int (hp_I r))) H (hp_r r) := by
  unfold f_X7_lane at h
  refine hp_body "HeelPost" (by decide) rfl ⟨rfl, rfl⟩ (Nat.le_of_ble_eq_true rfl) ?_
  show hp_R G l cX7_lane 2 (some .int) "HeelPost" (hp_rm 4) (some (.int (hp_I r))) H (hp_r r) 0 [(0, .ref (hp_ad G 0)), (1, .int (hp_I v1))] [] H
  refine x_aload_n dX7_lane_0 0 rfl ?_
  refine x_iload_n dX7_lane_1 1 rfl ?_
  obtain ⟨c2, g1, h⟩ := hp_b1_e h
  refine x_ivi (As := [.int (hp_I v1)]) (ok_X7_isLane hG v1 H r1 rH _ g1) cal_X7_isLane (sc_0 hG) (by decide) (C := RX7) (T := TX7) (N := 11) rfl rfl ins_X7_isLane sel_X7_isLane wm_506 (by decide) rfl rfl (Nat.le_of_ble_eq_true rfl) dX7_lane_2 (fun z9 => ?_)
  have rc2 := z9
  refine x_ifeq (tgt := 19) dX7_lane_5 (by decide) rc2 (fun hc3 => ?_) (fun hc3 => ?_)
  · replace h := hp_it hc3 h
    refine x_ldc (x := (-1000001)) wc_270 rfl dX7_lane_19 ?_
    cases h
    exact x_iret (hp_rc rfl) dX7_lane_21
  · replace h := hp_if hc3 h
    refine x_aload_n dX7_lane_8 0 rfl ?_
    refine x_getr 2 (sc_0 hG) (by decide) (C := RX7) (T := TX7) (N := 11) rfl in_X7 (by decide) rfl wf_228 dX7_lane_9 ?_
    refine x_iload_n dX7_lane_12 1 rfl ?_
    obtain ⟨c5, g4, h⟩ := hp_b1_e h
    refine x_ivi (As := [.int (hp_I v1)]) (ok_X6_peopleIn hG 15 v1 H (tw_at15 hG) r1 rH _ g4) cal_X6_peopleIn (tw_0 (tw_at15 hG)) (tw_p (tw_at15 hG)) (C := RX6) (T := TX6) (N := 12) rfl rfl ins_X6_peopleIn sel_X6_peopleIn wm_575 (by decide) rfl rfl (Nat.le_of_ble_eq_true rfl) dX7_lane_13 (fun z9 => ?_)
    have rc5 := z9
    refine x_goto (tgt := 21) dX7_lane_16 (by decide) ?_
    cases h
    exact x_iret rc5 dX7_lane_21
set_option maxRecDepth 100000 in
theorem ok_X7_ahead {G : hp_G} (hG : hp_sh G = hp_shc) {l : Launch} (v1 : Int) (v2 : Int) (H : hp_H) (r1 : hp_r v1) (r2 : hp_r v2) (rH : hp_in H) (r : Int) (h : f_X7_ahead v1 v2 H = some r) : hp_M G l yX7_ahead cX7_ahead 3 (some .int) (hp_rm 3) [.ref (hp_ad G 0), .int (hp_I v1), .int (hp_I v2)] H (some (.int (hp_I r))) H (hp_r r) := by
  unfold f_X7_ahead at h
  refine hp_body "HeelPost" (by decide) rfl ⟨rfl, rfl⟩ (Nat.le_of_ble_eq_true rfl) ?_
  show hp_R G l cX7_ahead 3 (some .int) "HeelPost" (hp_rm 3) (some (.int (hp_I r))) H (hp_r r) 0 [(0, .ref (hp_ad G 0)), (1, .int (hp_I v1)), (2, .int (hp_I v2))] [] H
  refine x_aload_n dX7_ahead_0 0 rfl ?_
  refine x_iload_n dX7_ahead_1 1 rfl ?_
  obtain ⟨c2, g1, h⟩ := hp_b1_e h
  refine x_ivi (As := [.int (hp_I v1)]) (ok_X7_isPerson hG v1 H r1 rH _ g1) cal_X7_isPerson (sc_0 hG) (by decide) (C := RX7) (T := TX7) (N := 11) rfl rfl ins_X7_isPerson sel_X7_isPerson wm_530 (by decide) rfl rfl (Nat.le_of_ble_eq_true rfl) dX7_ahead_2 (fun z9 => ?_)
  have rc2 := z9
  refine x_ifeq (tgt := 18) dX7_ahead_5 (by decide) rc2 (fun hc3 => ?_) (fun hc3 => ?_)
  · replace h := hp_it hc3 h
    refine x_ldc (x := (-1000001)) wc_270 rfl dX7_ahead_18 ?_
    cases h
    exact x_iret (hp_rc rfl) dX7_ahead_20
  · replace h := hp_if hc3 h
    refine x_iload_n dX7_ahead_8 2 rfl ?_
    refine x_iconst dX7_ahead_9 ?_
    refine x_bipush rfl dX7_ahead_10 ?_
    obtain ⟨c5, g4, h⟩ := hp_b1_e h
    refine x_isi (As := [.int (hp_I v2), .int (hp_I 0), .int (hp_I 99)]) (ok_X7_within hG v2 0 99 H r2 (hp_rc rfl) (hp_rc rfl) rH _ g4) cal_X7_within stt_X7_within wm_267 (by decide) rfl rfl (Nat.le_of_ble_eq_true rfl) dX7_ahead_12 (fun z9 => ?_)
    have rc5 := z9
    refine x_ifne (tgt := 21) dX7_ahead_15 (by decide) rc5 (fun hc6 => ?_) (fun hc6 => ?_)
    · replace h := hp_if hc6 h
      refine x_aload_n dX7_ahead_21 0 rfl ?_
      refine x_getr 2 (sc_0 hG) (by decide) (C := RX7) (T := TX7) (N := 11) rfl in_X7 (by decide) rfl wf_228 dX7_ahead_22 ?_
      refine x_iload_n dX7_ahead_25 1 rfl ?_
      refine x_iload_n dX7_ahead_26 2 rfl ?_
      obtain ⟨c8, g7, h⟩ := hp_b1_e h
      refine x_ivi (As := [.int (hp_I v1), .int (hp_I v2)]) (ok_X6_whereIs hG 15 v1 v2 H (tw_at15 hG) r1 r2 rH _ g7) cal_X6_whereIs (tw_0 (tw_at15 hG)) (tw_p (tw_at15 hG)) (C := RX6) (T := TX6) (N := 12) rfl rfl ins_X6_whereIs sel_X6_whereIs wm_546 (by decide) rfl rfl (Nat.le_of_ble_eq_true rfl) dX7_ahead_27 (fun z9 => ?_)
      have rc8 := z9
      cases h
      exact x_iret rc8 dX7_ahead_30
    · replace h := hp_it hc6 h
      refine x_ldc (x := (-1000001)) wc_270 rfl dX7_ahead_18 ?_
      cases h
      exact x_iret (hp_rc rfl) dX7_ahead_20
set_option maxRecDepth 100000 in
theorem ok_X7_letterAhead {G : hp_G} (hG : hp_sh G = hp_shc) {l : Launch} (v1 : Int) (v2 : Int) (H : hp_H) (r1 : hp_r v1) (r2 : hp_r v2) (rH : hp_in H) (x : Int × hp_H) (h : f_X7_letterAhead v1 v2 H = some x) : hp_M G l yX7_letterAhead cX7_letterAhead 4 (some .int) (hp_rm 6) [.ref (hp_ad G 0), .int (hp_I v1), .int (hp_I v2)] H (some (.int (hp_I x.1))) x.2 (hp_r x.1 ∧ hp_in x.2) := by
  obtain ⟨r, H'⟩ := x
  unfold f_X7_letterAhead at h
  refine hp_body "HeelPost" (by decide) rfl ⟨rfl, rfl⟩ (Nat.le_of_ble_eq_true rfl) ?_
  show hp_R G l cX7_letterAhead 4 (some .int) "HeelPost" (hp_rm 6) (some (.int (hp_I r))) H' (hp_r r ∧ hp_in H') 0 [(0, .ref (hp_ad G 0)), (1, .int (hp_I v1)), (2, .int (hp_I v2))] [] H
  refine x_aload_n dX7_letterAhead_0 0 rfl ?_
  refine x_iload_n dX7_letterAhead_1 1 rfl ?_
  refine x_iload_n dX7_letterAhead_2 2 rfl ?_
  refine x_iconst dX7_letterAhead_3 ?_
  refine x_bipush rfl dX7_letterAhead_4 ?_
  obtain ⟨c2, g1, h⟩ := hp_b1_e h
  refine x_isi (As := [.int (hp_I v2), .int (hp_I 0), .int (hp_I 99)]) (ok_X7_within hG v2 0 99 H r2 (hp_rc rfl) (hp_rc rfl) rH _ g1) cal_X7_within stt_X7_within wm_267 (by decide) rfl rfl (Nat.le_of_ble_eq_true rfl) dX7_letterAhead_6 (fun z9 => ?_)
  have rc2 := z9
  obtain ⟨c4, g3, h⟩ := hp_b1_e h
  refine x_ivi (As := [.int (hp_I v1), .int (hp_I c2)]) (ok_X7_refusalOf hG v1 c2 H r1 rc2 rH _ g3) cal_X7_refusalOf (sc_0 hG) (by decide) (C := RX7) (T := TX7) (N := 11) rfl rfl ins_X7_refusalOf sel_X7_refusalOf wm_518 (by decide) rfl rfl (Nat.le_of_ble_eq_true rfl) dX7_letterAhead_9 (fun z9 => ?_)
  have rc4 := z9
  refine x_istore_n (L' := [(3, .int (hp_I c4)), (0, .ref (hp_ad G 0)), (1, .int (hp_I v1)), (2, .int (hp_I v2))]) dX7_letterAhead_12 rfl (by decide) rfl ?_
  refine x_iload_n dX7_letterAhead_13 0 rfl ?_
  refine x_ifeq (tgt := 21) dX7_letterAhead_14 (by decide) rc4 (fun hc5 => ?_) (fun hc5 => ?_)
  · replace h := hp_it hc5 h
    refine x_aload_n dX7_letterAhead_21 1 rfl ?_
    refine x_getr 6 (sc_0 hG) (by decide) (C := RX7) (T := TX7) (N := 11) rfl in_X7 (by decide) rfl wf_232 dX7_letterAhead_22 ?_
    refine x_aload_n dX7_letterAhead_25 1 rfl ?_
    refine x_getr 2 (sc_0 hG) (by decide) (C := RX7) (T := TX7) (N := 11) rfl in_X7 (by decide) rfl wf_228 dX7_letterAhead_26 ?_
    refine x_iload_n dX7_letterAhead_29 2 rfl ?_
    refine x_iload_n dX7_letterAhead_30 3 rfl ?_
    obtain ⟨c7, H8, g6, h⟩ := hp_b2_e h
    refine x_ivi (As := [.ref (hp_ad G 15), .int (hp_I v1), .int (hp_I v2)]) (ok_X3_placeBehind hG v1 v2 H r1 r2 rH _ g6) cal_X3_placeBehind (sc_210 hG) (by decide) (C := RX3) (T := TX3) (N := 6) rfl rfl ins_X3_placeBehind sel_X3_placeBehind wm_588 (by decide) rfl rfl (Nat.le_of_ble_eq_true rfl) dX7_letterAhead_31 (fun z9 => ?_)
    obtain ⟨rc7, rH8⟩ := z9
    cases h
    exact x_iret ⟨rc7, rH8⟩ dX7_letterAhead_34
  · replace h := hp_if hc5 h
    refine x_iload_n dX7_letterAhead_17 0 rfl ?_
    refine x_goto (tgt := 34) dX7_letterAhead_18 (by decide) ?_
    cases h
    exact x_iret ⟨rc4, rH⟩ dX7_letterAhead_34
set_option maxRecDepth 100000 in
theorem ok_X7_arrives {G : hp_G} (hG : hp_sh G = hp_shc) {l : Launch} (v1 : Int) (H : hp_H) (r1 : hp_r v1) (rH : hp_in H) (x : Int × hp_H) (h : f_X7_arrives v1 H = some x) : hp_M G l yX7_arrives cX7_arrives 3 (some .int) (hp_rm 6) [.ref (hp_ad G 0), .int (hp_I v1)] H (some (.int (hp_I x.1))) x.2 (hp_r x.1 ∧ hp_in x.2) := by
  obtain ⟨r, H'⟩ := x
  unfold f_X7_arrives at h
  refine hp_body "HeelPost" (by decide) rfl ⟨rfl, rfl⟩ (Nat.le_of_ble_eq_true rfl) ?_
  show hp_R G l cX7_arrives 3 (some .int) "HeelPost" (hp_rm 6) (some (.int (hp_I r))) H' (hp_r r ∧ hp_in H') 0 [(0, .ref (hp_ad G 0)), (1, .int (hp_I v1))] [] H
  refine x_aload_n dX7_arrives_0 0 rfl ?_
  refine x_iload_n dX7_arrives_1 1 rfl ?_
  refine x_iconst dX7_arrives_2 ?_
  obtain ⟨c2, g1, h⟩ := hp_b1_e h
  refine x_ivi (As := [.int (hp_I v1), .int (hp_I 1)]) (ok_X7_refusalOf hG v1 1 H r1 (hp_rc rfl) rH _ g1) cal_X7_refusalOf (sc_0 hG) (by decide) (C := RX7) (T := TX7) (N := 11) rfl rfl ins_X7_refusalOf sel_X7_refusalOf wm_518 (by decide) rfl rfl (Nat.le_of_ble_eq_true rfl) dX7_arrives_3 (fun z9 => ?_)
  have rc2 := z9
  refine x_istore_n (L' := [(2, .int (hp_I c2)), (0, .ref (hp_ad G 0)), (1, .int (hp_I v1))]) dX7_arrives_6 rfl (by decide) rfl ?_
  refine x_iload_n dX7_arrives_7 0 rfl ?_
  refine x_ifeq (tgt := 15) dX7_arrives_8 (by decide) rc2 (fun hc3 => ?_) (fun hc3 => ?_)
  · replace h := hp_it hc3 h
    refine x_aload_n dX7_arrives_15 1 rfl ?_
    refine x_getr 6 (sc_0 hG) (by decide) (C := RX7) (T := TX7) (N := 11) rfl in_X7 (by decide) rfl wf_232 dX7_arrives_16 ?_
    refine x_aload_n dX7_arrives_19 1 rfl ?_
    refine x_getr 2 (sc_0 hG) (by decide) (C := RX7) (T := TX7) (N := 11) rfl in_X7 (by decide) rfl wf_228 dX7_arrives_20 ?_
    refine x_iload_n dX7_arrives_23 2 rfl ?_
    obtain ⟨c5, H6, g4, h⟩ := hp_b2_e h
    refine x_ivi (As := [.ref (hp_ad G 15), .int (hp_I v1)]) (ok_X3_arrival hG v1 H r1 rH _ g4) cal_X3_arrival (sc_210 hG) (by decide) (C := RX3) (T := TX3) (N := 6) rfl rfl ins_X3_arrival sel_X3_arrival wm_596 (by decide) rfl rfl (Nat.le_of_ble_eq_true rfl) dX7_arrives_24 (fun z9 => ?_)
    obtain ⟨rc5, rH6⟩ := z9
    cases h
    exact x_iret ⟨rc5, rH6⟩ dX7_arrives_27
  · replace h := hp_if hc3 h
    refine x_iload_n dX7_arrives_11 0 rfl ?_
    refine x_goto (tgt := 27) dX7_arrives_12 (by decide) ?_
    cases h
    exact x_iret ⟨rc2, rH⟩ dX7_arrives_27
set_option maxRecDepth 100000 in
theorem ok_X7_isSpan {G : hp_G} (hG : hp_sh G = hp_shc) {l : Launch} (v0 : Int) (H : hp_H) (r0 : hp_r v0) (rH : hp_in H) (r : Int) (h : f_X7_isSpan v0 H = some r) : hp_M G l yX7_isSpan cX7_isSpan 1 (some .boolean) (hp_rm 1) [.int (hp_I v0)] H (some (.int (hp_I r))) H (hp_r r) := by
  unfold f_X7_isSpan at h
  refine hp_body "HeelPost" (by decide) rfl ⟨rfl, rfl⟩ (Nat.le_of_ble_eq_true rfl) ?_
  show hp_R G l cX7_isSpan 1 (some .boolean) "HeelPost" (hp_rm 1) (some (.int (hp_I r))) H (hp_r r) 0 [(0, .int (hp_I v0))] [] H
  refine x_iload_n dX7_isSpan_0 0 rfl ?_
  refine x_iconst dX7_isSpan_1 ?_
  refine x_bipush rfl dX7_isSpan_2 ?_
  obtain ⟨c2, g1, h⟩ := hp_b1_e h
  refine x_isi (As := [.int (hp_I v0), .int (hp_I 1), .int (hp_I 99)]) (ok_X7_within hG v0 1 99 H r0 (hp_rc rfl) (hp_rc rfl) rH _ g1) cal_X7_within stt_X7_within wm_267 (by decide) rfl rfl (Nat.le_of_ble_eq_true rfl) dX7_isSpan_4 (fun z9 => ?_)
  have rc2 := z9
  obtain ⟨b3, h⟩ := hp_ck_e h
  cases h
  exact x_zret rc2 b3 dX7_isSpan_7
set_option maxRecDepth 100000 in
theorem ok_X7_carriers {G : hp_G} (hG : hp_sh G = hp_shc) {l : Launch} (v1 : Int) (v2 : Int) (H : hp_H) (r1 : hp_r v1) (r2 : hp_r v2) (rH : hp_in H) (x : Int × hp_H) (h : f_X7_carriers v1 v2 H = some x) : hp_M G l yX7_carriers cX7_carriers 4 (some .int) (hp_rm 6) [.ref (hp_ad G 0), .int (hp_I v1), .int (hp_I v2)] H (some (.int (hp_I x.1))) x.2 (hp_r x.1 ∧ hp_in x.2) := by
  obtain ⟨r, H'⟩ := x
  unfold f_X7_carriers at h
  refine hp_body "HeelPost" (by decide) rfl ⟨rfl, rfl⟩ (Nat.le_of_ble_eq_true rfl) ?_
  show hp_R G l cX7_carriers 4 (some .int) "HeelPost" (hp_rm 6) (some (.int (hp_I r))) H' (hp_r r ∧ hp_in H') 0 [(0, .ref (hp_ad G 0)), (1, .int (hp_I v1)), (2, .int (hp_I v2))] [] H
  refine x_aload_n dX7_carriers_0 0 rfl ?_
  refine x_iload_n dX7_carriers_1 1 rfl ?_
  refine x_iload_n dX7_carriers_2 2 rfl ?_
  obtain ⟨c2, g1, h⟩ := hp_b1_e h
  refine x_isi (As := [.int (hp_I v2)]) (ok_X7_isSpan hG v2 H r2 rH _ g1) cal_X7_isSpan stt_X7_isSpan wm_610 (by decide) rfl rfl (Nat.le_of_ble_eq_true rfl) dX7_carriers_3 (fun z9 => ?_)
  have rc2 := z9
  obtain ⟨c4, g3, h⟩ := hp_b1_e h
  refine x_ivi (As := [.int (hp_I v1), .int (hp_I c2)]) (ok_X7_refusalOf hG v1 c2 H r1 rc2 rH _ g3) cal_X7_refusalOf (sc_0 hG) (by decide) (C := RX7) (T := TX7) (N := 11) rfl rfl ins_X7_refusalOf sel_X7_refusalOf wm_518 (by decide) rfl rfl (Nat.le_of_ble_eq_true rfl) dX7_carriers_6 (fun z9 => ?_)
  have rc4 := z9
  refine x_istore_n (L' := [(3, .int (hp_I c4)), (0, .ref (hp_ad G 0)), (1, .int (hp_I v1)), (2, .int (hp_I v2))]) dX7_carriers_9 rfl (by decide) rfl ?_
  refine x_iload_n dX7_carriers_10 0 rfl ?_
  refine x_ifeq (tgt := 18) dX7_carriers_11 (by decide) rc4 (fun hc5 => ?_) (fun hc5 => ?_)
  · replace h := hp_it hc5 h
    refine x_aload_n dX7_carriers_18 1 rfl ?_
    refine x_getr 6 (sc_0 hG) (by decide) (C := RX7) (T := TX7) (N := 11) rfl in_X7 (by decide) rfl wf_232 dX7_carriers_19 ?_
    refine x_aload_n dX7_carriers_22 1 rfl ?_
    refine x_getr 2 (sc_0 hG) (by decide) (C := RX7) (T := TX7) (N := 11) rfl in_X7 (by decide) rfl wf_228 dX7_carriers_23 ?_
    refine x_iload_n dX7_carriers_26 2 rfl ?_
    refine x_iload_n dX7_carriers_27 3 rfl ?_
    obtain ⟨c7, H8, g6, h⟩ := hp_b2_e h
    refine x_ivi (As := [.ref (hp_ad G 15), .int (hp_I v1), .int (hp_I v2)]) (ok_X3_carriersOf hG v1 v2 H r1 r2 rH _ g6) cal_X3_carriersOf (sc_210 hG) (by decide) (C := RX3) (T := TX3) (N := 6) rfl rfl ins_X3_carriersOf sel_X3_carriersOf wm_613 (by decide) rfl rfl (Nat.le_of_ble_eq_true rfl) dX7_carriers_28 (fun z9 => ?_)
    obtain ⟨rc7, rH8⟩ := z9
    cases h
    exact x_iret ⟨rc7, rH8⟩ dX7_carriers_31
  · replace h := hp_if hc5 h
    refine x_iload_n dX7_carriers_14 0 rfl ?_
    refine x_goto (tgt := 31) dX7_carriers_15 (by decide) ?_
    cases h
    exact x_iret ⟨rc4, rH⟩ dX7_carriers_31
set_option maxRecDepth 100000 in
theorem ok_X7_bestHour {G : hp_G} (hG : hp_sh G = hp_shc) {l : Launch} (v1 : Int) (v2 : Int) (v3 : Int) (H : hp_H) (r1 : hp_r v1) (r2 : hp_r v2) (r3 : hp_r v3) (rH : hp_in H) (x : Int × hp_H) (h : f_X7_bestHour v1 v2 v3 H = some x) : hp_M G l yX7_bestHour cX7_bestHour 4 (some .int) (hp_rm 6) [.ref (hp_ad G 0), .int (hp_I v1), .int (hp_I v2), .int (hp_I v3)] H (some (.int (hp_I x.1))) x.2 (hp_r x.1 ∧ hp_in x.2) := by
  obtain ⟨r, H'⟩ := x
  unfold f_X7_bestHour at h
  refine hp_body "HeelPost" (by decide) rfl ⟨rfl, rfl⟩ (Nat.le_of_ble_eq_true rfl) ?_
  show hp_R G l cX7_bestHour 4 (some .int) "HeelPost" (hp_rm 6) (some (.int (hp_I r))) H' (hp_r r ∧ hp_in H') 0 [(0, .ref (hp_ad G 0)), (1, .int (hp_I v1)), (2, .int (hp_I v2)), (3, .int (hp_I v3))] [] H
  refine x_aload_n dX7_bestHour_0 0 rfl ?_
  refine x_iload_n dX7_bestHour_1 1 rfl ?_
  obtain ⟨c2, g1, h⟩ := hp_b1_e h
  refine x_ivi (As := [.int (hp_I v1)]) (ok_X7_isLane hG v1 H r1 rH _ g1) cal_X7_isLane (sc_0 hG) (by decide) (C := RX7) (T := TX7) (N := 11) rfl rfl ins_X7_isLane sel_X7_isLane wm_506 (by decide) rfl rfl (Nat.le_of_ble_eq_true rfl) dX7_bestHour_2 (fun z9 => ?_)
  have rc2 := z9
  refine x_ifeq (tgt := 30) dX7_bestHour_5 (by decide) rc2 (fun hc3 => ?_) (fun hc3 => ?_)
  · replace h := hp_it hc3 h
    refine x_ldc (x := (-1000001)) wc_270 rfl dX7_bestHour_30 ?_
    cases h
    exact x_iret ⟨(hp_rc rfl), rH⟩ dX7_bestHour_32
  · replace h := hp_if hc3 h
    refine x_aload_n dX7_bestHour_8 0 rfl ?_
    refine x_iload_n dX7_bestHour_9 2 rfl ?_
    obtain ⟨c5, g4, h⟩ := hp_b1_e h
    refine x_ivi (As := [.int (hp_I v2)]) (ok_X7_isLane hG v2 H r2 rH _ g4) cal_X7_isLane (sc_0 hG) (by decide) (C := RX7) (T := TX7) (N := 11) rfl rfl ins_X7_isLane sel_X7_isLane wm_506 (by decide) rfl rfl (Nat.le_of_ble_eq_true rfl) dX7_bestHour_10 (fun z9 => ?_)
    have rc5 := z9
    refine x_ifeq (tgt := 30) dX7_bestHour_13 (by decide) rc5 (fun hc6 => ?_) (fun hc6 => ?_)
    · replace h := hp_it hc6 h
      refine x_ldc (x := (-1000001)) wc_270 rfl dX7_bestHour_30 ?_
      cases h
      exact x_iret ⟨(hp_rc rfl), rH⟩ dX7_bestHour_32
    · replace h := hp_if hc6 h
      refine x_iload_n dX7_bestHour_16 1 rfl ?_
      refine x_iload_n dX7_bestHour_17 2 rfl ?_
      refine x_iceq (tgt := 30) dX7_bestHour_18 (by decide) r1 r2 (fun hc7 => ?_) (fun hc7 => ?_)
      · replace h := hp_it hc7 h
        refine x_ldc (x := (-1000001)) wc_270 rfl dX7_bestHour_30 ?_
        cases h
        exact x_iret ⟨(hp_rc rfl), rH⟩ dX7_bestHour_32
      · replace h := hp_if hc7 h
        refine x_iload_n dX7_bestHour_21 3 rfl ?_
        refine x_iconst dX7_bestHour_22 ?_
        refine x_iconst dX7_bestHour_23 ?_
        obtain ⟨c9, g8, h⟩ := hp_b1_e h
        refine x_isi (As := [.int (hp_I v3), .int (hp_I 0), .int (hp_I 1)]) (ok_X7_within hG v3 0 1 H r3 (hp_rc rfl) (hp_rc rfl) rH _ g8) cal_X7_within stt_X7_within wm_267 (by decide) rfl rfl (Nat.le_of_ble_eq_true rfl) dX7_bestHour_24 (fun z9 => ?_)
        have rc9 := z9
        refine x_ifne (tgt := 33) dX7_bestHour_27 (by decide) rc9 (fun hc10 => ?_) (fun hc10 => ?_)
        · replace h := hp_if hc10 h
          refine x_aload_n dX7_bestHour_33 0 rfl ?_
          refine x_getr 6 (sc_0 hG) (by decide) (C := RX7) (T := TX7) (N := 11) rfl in_X7 (by decide) rfl wf_232 dX7_bestHour_34 ?_
          refine x_aload_n dX7_bestHour_37 0 rfl ?_
          refine x_getr 2 (sc_0 hG) (by decide) (C := RX7) (T := TX7) (N := 11) rfl in_X7 (by decide) rfl wf_228 dX7_bestHour_38 ?_
          refine x_iload_n dX7_bestHour_41 1 rfl ?_
          refine x_iload_n dX7_bestHour_42 2 rfl ?_
          refine x_iload_n dX7_bestHour_43 3 rfl ?_
          obtain ⟨c12, H13, g11, h⟩ := hp_b2_e h
          refine x_ivi (As := [.ref (hp_ad G 15), .int (hp_I v1), .int (hp_I v2), .int (hp_I v3)]) (ok_X3_soonest hG v1 v2 v3 H r1 r2 r3 rH _ g11) cal_X3_soonest (sc_210 hG) (by decide) (C := RX3) (T := TX3) (N := 6) rfl rfl ins_X3_soonest sel_X3_soonest wm_621 (by decide) rfl rfl (Nat.le_of_ble_eq_true rfl) dX7_bestHour_44 (fun z9 => ?_)
          obtain ⟨rc12, rH13⟩ := z9
          cases h
          exact x_iret ⟨rc12, rH13⟩ dX7_bestHour_47
        · replace h := hp_it hc10 h
          refine x_ldc (x := (-1000001)) wc_270 rfl dX7_bestHour_30 ?_
          cases h
          exact x_iret ⟨(hp_rc rfl), rH⟩ dX7_bestHour_32
set_option maxRecDepth 100000 in
theorem ok_X7_spots {G : hp_G} (hG : hp_sh G = hp_shc) {l : Launch} (v1 : Int) (v2 : Int) (H : hp_H) (r1 : hp_r v1) (r2 : hp_r v2) (rH : hp_in H) (x : Int × hp_H) (h : f_X7_spots v1 v2 H = some x) : hp_M G l yX7_spots cX7_spots 3 (some .int) (hp_rm 6) [.ref (hp_ad G 0), .int (hp_I v1), .int (hp_I v2)] H (some (.int (hp_I x.1))) x.2 (hp_r x.1 ∧ hp_in x.2) := by
  obtain ⟨r, H'⟩ := x
  unfold f_X7_spots at h
  refine hp_body "HeelPost" (by decide) rfl ⟨rfl, rfl⟩ (Nat.le_of_ble_eq_true rfl) ?_
  show hp_R G l cX7_spots 3 (some .int) "HeelPost" (hp_rm 6) (some (.int (hp_I r))) H' (hp_r r ∧ hp_in H') 0 [(0, .ref (hp_ad G 0)), (1, .int (hp_I v1)), (2, .int (hp_I v2))] [] H
  refine x_aload_n dX7_spots_0 0 rfl ?_
  refine x_iload_n dX7_spots_1 1 rfl ?_
  obtain ⟨c2, g1, h⟩ := hp_b1_e h
  refine x_ivi (As := [.int (hp_I v1)]) (ok_X7_isLane hG v1 H r1 rH _ g1) cal_X7_isLane (sc_0 hG) (by decide) (C := RX7) (T := TX7) (N := 11) rfl rfl ins_X7_isLane sel_X7_isLane wm_506 (by decide) rfl rfl (Nat.le_of_ble_eq_true rfl) dX7_spots_2 (fun z9 => ?_)
  have rc2 := z9
  refine x_ifeq (tgt := 15) dX7_spots_5 (by decide) rc2 (fun hc3 => ?_) (fun hc3 => ?_)
  · replace h := hp_it hc3 h
    refine x_ldc (x := (-1000001)) wc_270 rfl dX7_spots_15 ?_
    cases h
    exact x_iret ⟨(hp_rc rfl), rH⟩ dX7_spots_17
  · replace h := hp_if hc3 h
    refine x_iload_n dX7_spots_8 2 rfl ?_
    obtain ⟨c5, g4, h⟩ := hp_b1_e h
    refine x_isi (As := [.int (hp_I v2)]) (ok_X7_isSpan hG v2 H r2 rH _ g4) cal_X7_isSpan stt_X7_isSpan wm_610 (by decide) rfl rfl (Nat.le_of_ble_eq_true rfl) dX7_spots_9 (fun z9 => ?_)
    have rc5 := z9
    refine x_ifne (tgt := 18) dX7_spots_12 (by decide) rc5 (fun hc6 => ?_) (fun hc6 => ?_)
    · replace h := hp_if hc6 h
      refine x_aload_n dX7_spots_18 0 rfl ?_
      refine x_getr 6 (sc_0 hG) (by decide) (C := RX7) (T := TX7) (N := 11) rfl in_X7 (by decide) rfl wf_232 dX7_spots_19 ?_
      refine x_aload_n dX7_spots_22 0 rfl ?_
      refine x_getr 2 (sc_0 hG) (by decide) (C := RX7) (T := TX7) (N := 11) rfl in_X7 (by decide) rfl wf_228 dX7_spots_23 ?_
      refine x_iload_n dX7_spots_26 1 rfl ?_
      refine x_iload_n dX7_spots_27 2 rfl ?_
      obtain ⟨c8, H9, g7, h⟩ := hp_b2_e h
      refine x_ivi (As := [.ref (hp_ad G 15), .int (hp_I v1), .int (hp_I v2)]) (ok_X3_spotsFor hG v1 v2 H r1 r2 rH _ g7) cal_X3_spotsFor (sc_210 hG) (by decide) (C := RX3) (T := TX3) (N := 6) rfl rfl ins_X3_spotsFor sel_X3_spotsFor wm_631 (by decide) rfl rfl (Nat.le_of_ble_eq_true rfl) dX7_spots_28 (fun z9 => ?_)
      obtain ⟨rc8, rH9⟩ := z9
      cases h
      exact x_iret ⟨rc8, rH9⟩ dX7_spots_31
    · replace h := hp_it hc6 h
      refine x_ldc (x := (-1000001)) wc_270 rfl dX7_spots_15 ?_
      cases h
      exact x_iret ⟨(hp_rc rfl), rH⟩ dX7_spots_17
set_option maxRecDepth 100000 in
theorem ok_X7_cutOff {G : hp_G} (hG : hp_sh G = hp_shc) {l : Launch}  (H : hp_H) (rH : hp_in H) (x : Int × hp_H) (h : f_X7_cutOff  H = some x) : hp_M G l yX7_cutOff cX7_cutOff 1 (some .int) (hp_rm 6) [.ref (hp_ad G 0)] H (some (.int (hp_I x.1))) x.2 (hp_r x.1 ∧ hp_in x.2) := by
  obtain ⟨r, H'⟩ := x
  unfold f_X7_cutOff at h
  refine hp_body "HeelPost" (by decide) rfl ⟨rfl, rfl⟩ (Nat.le_of_ble_eq_true rfl) ?_
  show hp_R G l cX7_cutOff 1 (some .int) "HeelPost" (hp_rm 6) (some (.int (hp_I r))) H' (hp_r r ∧ hp_in H') 0 [(0, .ref (hp_ad G 0))] [] H
  refine x_aload_n dX7_cutOff_0 0 rfl ?_
  refine x_getr 2 (sc_0 hG) (by decide) (C := RX7) (T := TX7) (N := 11) rfl in_X7 (by decide) rfl wf_228 dX7_cutOff_1 ?_
  obtain ⟨c2, g1, h⟩ := hp_b1_e h
  refine x_ivi (As := []) (ok_X6_stands hG 15 H (tw_at15 hG) rH _ g1) cal_X6_stands (tw_0 (tw_at15 hG)) (tw_p (tw_at15 hG)) (C := RX6) (T := TX6) (N := 12) rfl rfl ins_X6_stands sel_X6_stands wm_439 (by decide) rfl rfl (Nat.le_of_ble_eq_true rfl) dX7_cutOff_4 (fun z9 => ?_)
  have rc2 := z9
  refine x_ifeq (tgt := 24) dX7_cutOff_7 (by decide) rc2 (fun hc3 => ?_) (fun hc3 => ?_)
  · replace h := hp_it hc3 h
    refine x_ldc (x := (-1000002)) wc_434 rfl dX7_cutOff_24 ?_
    cases h
    exact x_iret ⟨(hp_rc rfl), rH⟩ dX7_cutOff_26
  · replace h := hp_if hc3 h
    refine x_aload_n dX7_cutOff_10 0 rfl ?_
    refine x_getr 6 (sc_0 hG) (by decide) (C := RX7) (T := TX7) (N := 11) rfl in_X7 (by decide) rfl wf_232 dX7_cutOff_11 ?_
    refine x_aload_n dX7_cutOff_14 0 rfl ?_
    refine x_getr 2 (sc_0 hG) (by decide) (C := RX7) (T := TX7) (N := 11) rfl in_X7 (by decide) rfl wf_228 dX7_cutOff_15 ?_
    obtain ⟨c5, H6, g4, h⟩ := hp_b2_e h
    refine x_ivi (As := [.ref (hp_ad G 15)]) (ok_X3_unreached hG H rH _ g4) cal_X3_unreached (sc_210 hG) (by decide) (C := RX3) (T := TX3) (N := 6) rfl rfl ins_X3_unreached sel_X3_unreached wm_643 (by decide) rfl rfl (Nat.le_of_ble_eq_true rfl) dX7_cutOff_18 (fun z9 => ?_)
    obtain ⟨rc5, rH6⟩ := z9
    refine x_goto (tgt := 26) dX7_cutOff_21 (by decide) ?_
    cases h
    exact x_iret ⟨rc5, rH6⟩ dX7_cutOff_26
set_option maxRecDepth 100000 in
theorem ok_X7_crew {G : hp_G} (hG : hp_sh G = hp_shc) {l : Launch} (v1 : Int) (v2 : Int) (v3 : Int) (H : hp_H) (r1 : hp_r v1) (r2 : hp_r v2) (r3 : hp_r v3) (rH : hp_in H) (x : Int × hp_H) (h : f_X7_crew v1 v2 v3 H = some x) : hp_M G l yX7_crew cX7_crew 5 (some .int) (hp_rm 6) [.ref (hp_ad G 0), .int (hp_I v1), .int (hp_I v2), .int (hp_I v3)] H (some (.int (hp_I x.1))) x.2 (hp_r x.1 ∧ hp_in x.2) := by
  obtain ⟨r, H'⟩ := x
  unfold f_X7_crew at h
  refine hp_body "HeelPost" (by decide) rfl ⟨rfl, rfl⟩ (Nat.le_of_ble_eq_true rfl) ?_
  show hp_R G l cX7_crew 5 (some .int) "HeelPost" (hp_rm 6) (some (.int (hp_I r))) H' (hp_r r ∧ hp_in H') 0 [(0, .ref (hp_ad G 0)), (1, .int (hp_I v1)), (2, .int (hp_I v2)), (3, .int (hp_I v3))] [] H
  refine x_aload_n dX7_crew_0 0 rfl ?_
  refine x_iload_n dX7_crew_1 1 rfl ?_
  refine x_iload_n dX7_crew_2 2 rfl ?_
  obtain ⟨c2, g1, h⟩ := hp_b1_e h
  refine x_isi (As := [.int (hp_I v2)]) (ok_X7_isSpan hG v2 H r2 rH _ g1) cal_X7_isSpan stt_X7_isSpan wm_610 (by decide) rfl rfl (Nat.le_of_ble_eq_true rfl) dX7_crew_3 (fun z9 => ?_)
  have rc2 := z9
  obtain ⟨m3, hm4, h⟩ := hp_b1_e h
  have kj : hp_r m3 → (m3 = 0 ∨ m3 = 1) → hp_R G l cX7_crew 5 (some .int) "HeelPost" (hp_rm 6) (some (.int (hp_I r))) H' (hp_r r ∧ hp_in H') 23 [(0, .ref (hp_ad G 0)), (1, .int (hp_I v1)), (2, .int (hp_I v2)), (3, .int (hp_I v3))] [.int (hp_I m3), .int (hp_I v1), .ref (hp_ad G 0)] H := by
    intro rm3 zm3
    obtain ⟨c6, g5, h⟩ := hp_b1_e h
    refine x_ivi (As := [.int (hp_I v1), .int (hp_I m3)]) (ok_X7_refusalOf hG v1 m3 H r1 rm3 rH _ g5) cal_X7_refusalOf (sc_0 hG) (by decide) (C := RX7) (T := TX7) (N := 11) rfl rfl ins_X7_refusalOf sel_X7_refusalOf wm_518 (by decide) rfl rfl (Nat.le_of_ble_eq_true rfl) dX7_crew_23 (fun z9 => ?_)
    have rc6 := z9
    refine x_istore (L' := [(4, .int (hp_I c6)), (0, .ref (hp_ad G 0)), (1, .int (hp_I v1)), (2, .int (hp_I v2)), (3, .int (hp_I v3))]) dX7_crew_26 (by decide) rfl ?_
    refine x_iload dX7_crew_28 0 rfl ?_
    refine x_ifeq (tgt := 38) dX7_crew_30 (by decide) rc6 (fun hc7 => ?_) (fun hc7 => ?_)
    · replace h := hp_it hc7 h
      refine x_aload_n dX7_crew_38 1 rfl ?_
      refine x_getr 6 (sc_0 hG) (by decide) (C := RX7) (T := TX7) (N := 11) rfl in_X7 (by decide) rfl wf_232 dX7_crew_39 ?_
      refine x_aload_n dX7_crew_42 1 rfl ?_
      refine x_getr 2 (sc_0 hG) (by decide) (C := RX7) (T := TX7) (N := 11) rfl in_X7 (by decide) rfl wf_228 dX7_crew_43 ?_
      refine x_iload_n dX7_crew_46 2 rfl ?_
      refine x_iload_n dX7_crew_47 3 rfl ?_
      refine x_iload_n dX7_crew_48 4 rfl ?_
      obtain ⟨c9, H10, g8, h⟩ := hp_b2_e h
      refine x_ivi (As := [.ref (hp_ad G 15), .int (hp_I v1), .int (hp_I v2), .int (hp_I v3)]) (ok_X3_fewest hG v1 v2 v3 H r1 r2 r3 rH _ g8) cal_X3_fewest (sc_210 hG) (by decide) (C := RX3) (T := TX3) (N := 6) rfl rfl ins_X3_fewest sel_X3_fewest wm_651 (by decide) rfl rfl (Nat.le_of_ble_eq_true rfl) dX7_crew_49 (fun z9 => ?_)
      obtain ⟨rc9, rH10⟩ := z9
      cases h
      exact x_iret ⟨rc9, rH10⟩ dX7_crew_52
    · replace h := hp_if hc7 h
      refine x_iload dX7_crew_33 0 rfl ?_
      refine x_goto (tgt := 52) dX7_crew_35 (by decide) ?_
      cases h
      exact x_iret ⟨rc6, rH⟩ dX7_crew_52
  clear h
  have h := hm4
  clear hm4
  refine x_ifeq (tgt := 22) dX7_crew_6 (by decide) rc2 (fun hc11 => ?_) (fun hc11 => ?_)
  · replace h := hp_it hc11 h
    refine x_iconst dX7_crew_22 ?_
    cases h
    exact x_sub [0, 1, 2, 3] rfl (kj (hp_rc rfl) (Or.inl rfl))
  · replace h := hp_if hc11 h
    refine x_iload_n dX7_crew_9 3 rfl ?_
    refine x_iconst dX7_crew_10 ?_
    refine x_iconst dX7_crew_11 ?_
    obtain ⟨c13, g12, h⟩ := hp_b1_e h
    refine x_isi (As := [.int (hp_I v3), .int (hp_I 0), .int (hp_I 1)]) (ok_X7_within hG v3 0 1 H r3 (hp_rc rfl) (hp_rc rfl) rH _ g12) cal_X7_within stt_X7_within wm_267 (by decide) rfl rfl (Nat.le_of_ble_eq_true rfl) dX7_crew_12 (fun z9 => ?_)
    have rc13 := z9
    refine x_ifeq (tgt := 22) dX7_crew_15 (by decide) rc13 (fun hc14 => ?_) (fun hc14 => ?_)
    · replace h := hp_it hc14 h
      refine x_iconst dX7_crew_22 ?_
      cases h
      exact x_sub [0, 1, 2, 3] rfl (kj (hp_rc rfl) (Or.inl rfl))
    · replace h := hp_if hc14 h
      refine x_iconst dX7_crew_18 ?_
      refine x_goto (tgt := 23) dX7_crew_19 (by decide) ?_
      cases h
      exact x_sub [0, 1, 2, 3] rfl (kj (hp_rc rfl) (Or.inr rfl))
set_option maxRecDepth 100000 in
theorem ok_X7_needed {G : hp_G} (hG : hp_sh G = hp_shc) {l : Launch} (v1 : Int) (v2 : Int) (H : hp_H) (r1 : hp_r v1) (r2 : hp_r v2) (rH : hp_in H) (x : Int × hp_H) (h : f_X7_needed v1 v2 H = some x) : hp_M G l yX7_needed cX7_needed 4 (some .int) (hp_rm 6) [.ref (hp_ad G 0), .int (hp_I v1), .int (hp_I v2)] H (some (.int (hp_I x.1))) x.2 (hp_r x.1 ∧ hp_in x.2) := by
  obtain ⟨r, H'⟩ := x
  unfold f_X7_needed at h
  refine hp_body "HeelPost" (by decide) rfl ⟨rfl, rfl⟩ (Nat.le_of_ble_eq_true rfl) ?_
  show hp_R G l cX7_needed 4 (some .int) "HeelPost" (hp_rm 6) (some (.int (hp_I r))) H' (hp_r r ∧ hp_in H') 0 [(0, .ref (hp_ad G 0)), (1, .int (hp_I v1)), (2, .int (hp_I v2))] [] H
  refine x_aload_n dX7_needed_0 0 rfl ?_
  refine x_iload_n dX7_needed_1 1 rfl ?_
  refine x_iload_n dX7_needed_2 2 rfl ?_
  obtain ⟨c2, g1, h⟩ := hp_b1_e h
  refine x_isi (As := [.int (hp_I v2)]) (ok_X7_isSpan hG v2 H r2 rH _ g1) cal_X7_isSpan stt_X7_isSpan wm_610 (by decide) rfl rfl (Nat.le_of_ble_eq_true rfl) dX7_needed_3 (fun z9 => ?_)
  have rc2 := z9
  obtain ⟨c4, g3, h⟩ := hp_b1_e h
  refine x_ivi (As := [.int (hp_I v1), .int (hp_I c2)]) (ok_X7_refusalOf hG v1 c2 H r1 rc2 rH _ g3) cal_X7_refusalOf (sc_0 hG) (by decide) (C := RX7) (T := TX7) (N := 11) rfl rfl ins_X7_refusalOf sel_X7_refusalOf wm_518 (by decide) rfl rfl (Nat.le_of_ble_eq_true rfl) dX7_needed_6 (fun z9 => ?_)
  have rc4 := z9
  refine x_istore_n (L' := [(3, .int (hp_I c4)), (0, .ref (hp_ad G 0)), (1, .int (hp_I v1)), (2, .int (hp_I v2))]) dX7_needed_9 rfl (by decide) rfl ?_
  refine x_iload_n dX7_needed_10 0 rfl ?_
  refine x_ifeq (tgt := 18) dX7_needed_11 (by decide) rc4 (fun hc5 => ?_) (fun hc5 => ?_)
  · replace h := hp_it hc5 h
    refine x_aload_n dX7_needed_18 1 rfl ?_
    refine x_getr 6 (sc_0 hG) (by decide) (C := RX7) (T := TX7) (N := 11) rfl in_X7 (by decide) rfl wf_232 dX7_needed_19 ?_
    refine x_aload_n dX7_needed_22 1 rfl ?_
    refine x_getr 2 (sc_0 hG) (by decide) (C := RX7) (T := TX7) (N := 11) rfl in_X7 (by decide) rfl wf_228 dX7_needed_23 ?_
    refine x_iload_n dX7_needed_26 2 rfl ?_
    refine x_iload_n dX7_needed_27 3 rfl ?_
    obtain ⟨c7, H8, g6, h⟩ := hp_b2_e h
    refine x_ivi (As := [.ref (hp_ad G 15), .int (hp_I v1), .int (hp_I v2)]) (ok_X3_neededFor hG v1 v2 H r1 r2 rH _ g6) cal_X3_neededFor (sc_210 hG) (by decide) (C := RX3) (T := TX3) (N := 6) rfl rfl ins_X3_neededFor sel_X3_neededFor wm_673 (by decide) rfl rfl (Nat.le_of_ble_eq_true rfl) dX7_needed_28 (fun z9 => ?_)
    obtain ⟨rc7, rH8⟩ := z9
    cases h
    exact x_iret ⟨rc7, rH8⟩ dX7_needed_31
  · replace h := hp_if hc5 h
    refine x_iload_n dX7_needed_14 0 rfl ?_
    refine x_goto (tgt := 31) dX7_needed_15 (by decide) ?_
    cases h
    exact x_iret ⟨rc4, rH⟩ dX7_needed_31
set_option maxRecDepth 100000 in
theorem ok_X7_meet {G : hp_G} (hG : hp_sh G = hp_shc) {l : Launch} (v1 : Int) (v2 : Int) (H : hp_H) (r1 : hp_r v1) (r2 : hp_r v2) (rH : hp_in H) (r : Int) (h : f_X7_meet v1 v2 H = some r) : hp_M G l yX7_meet cX7_meet 3 (some .int) (hp_rm 4) [.ref (hp_ad G 0), .int (hp_I v1), .int (hp_I v2)] H (some (.int (hp_I r))) H (hp_r r) := by
  unfold f_X7_meet at h
  refine hp_body "HeelPost" (by decide) rfl ⟨rfl, rfl⟩ (Nat.le_of_ble_eq_true rfl) ?_
  show hp_R G l cX7_meet 3 (some .int) "HeelPost" (hp_rm 4) (some (.int (hp_I r))) H (hp_r r) 0 [(0, .ref (hp_ad G 0)), (1, .int (hp_I v1)), (2, .int (hp_I v2))] [] H
  refine x_aload_n dX7_meet_0 0 rfl ?_
  refine x_iload_n dX7_meet_1 1 rfl ?_
  obtain ⟨c2, g1, h⟩ := hp_b1_e h
  refine x_ivi (As := [.int (hp_I v1)]) (ok_X7_isPerson hG v1 H r1 rH _ g1) cal_X7_isPerson (sc_0 hG) (by decide) (C := RX7) (T := TX7) (N := 11) rfl rfl ins_X7_isPerson sel_X7_isPerson wm_530 (by decide) rfl rfl (Nat.le_of_ble_eq_true rfl) dX7_meet_2 (fun z9 => ?_)
  have rc2 := z9
  refine x_ifeq (tgt := 21) dX7_meet_5 (by decide) rc2 (fun hc3 => ?_) (fun hc3 => ?_)
  · replace h := hp_it hc3 h
    refine x_ldc (x := (-1000001)) wc_270 rfl dX7_meet_21 ?_
    cases h
    exact x_iret (hp_rc rfl) dX7_meet_23
  · replace h := hp_if hc3 h
    refine x_aload_n dX7_meet_8 0 rfl ?_
    refine x_iload_n dX7_meet_9 2 rfl ?_
    obtain ⟨c5, g4, h⟩ := hp_b1_e h
    refine x_ivi (As := [.int (hp_I v2)]) (ok_X7_isPerson hG v2 H r2 rH _ g4) cal_X7_isPerson (sc_0 hG) (by decide) (C := RX7) (T := TX7) (N := 11) rfl rfl ins_X7_isPerson sel_X7_isPerson wm_530 (by decide) rfl rfl (Nat.le_of_ble_eq_true rfl) dX7_meet_10 (fun z9 => ?_)
    have rc5 := z9
    refine x_ifeq (tgt := 21) dX7_meet_13 (by decide) rc5 (fun hc6 => ?_) (fun hc6 => ?_)
    · replace h := hp_it hc6 h
      refine x_ldc (x := (-1000001)) wc_270 rfl dX7_meet_21 ?_
      cases h
      exact x_iret (hp_rc rfl) dX7_meet_23
    · replace h := hp_if hc6 h
      refine x_iload_n dX7_meet_16 1 rfl ?_
      refine x_iload_n dX7_meet_17 2 rfl ?_
      refine x_icne (tgt := 24) dX7_meet_18 (by decide) r1 r2 (fun hc7 => ?_) (fun hc7 => ?_)
      · replace h := hp_if hc7 h
        refine x_aload_n dX7_meet_24 0 rfl ?_
        refine x_getr 6 (sc_0 hG) (by decide) (C := RX7) (T := TX7) (N := 11) rfl in_X7 (by decide) rfl wf_232 dX7_meet_25 ?_
        refine x_aload_n dX7_meet_28 0 rfl ?_
        refine x_getr 2 (sc_0 hG) (by decide) (C := RX7) (T := TX7) (N := 11) rfl in_X7 (by decide) rfl wf_228 dX7_meet_29 ?_
        refine x_iload_n dX7_meet_32 1 rfl ?_
        refine x_iload_n dX7_meet_33 2 rfl ?_
        obtain ⟨c9, g8, h⟩ := hp_b1_e h
        refine x_ivi (As := [.ref (hp_ad G 15), .int (hp_I v1), .int (hp_I v2)]) (ok_X3_meeting hG v1 v2 H r1 r2 rH _ g8) cal_X3_meeting (sc_210 hG) (by decide) (C := RX3) (T := TX3) (N := 6) rfl rfl ins_X3_meeting sel_X3_meeting wm_682 (by decide) rfl rfl (Nat.le_of_ble_eq_true rfl) dX7_meet_34 (fun z9 => ?_)
        have rc9 := z9
        cases h
        exact x_iret rc9 dX7_meet_37
      · replace h := hp_it hc7 h
        refine x_ldc (x := (-1000001)) wc_270 rfl dX7_meet_21 ?_
        cases h
        exact x_iret (hp_rc rfl) dX7_meet_23
set_option maxRecDepth 100000 in
theorem ok_X7_answer {G : hp_G} (hG : hp_sh G = hp_shc) {l : Launch} (v1 : Int) (H : hp_H) (r1 : hp_r v1) (rH : hp_in H) (x : Int × hp_H) (h : f_X7_answer v1 H = some x) : hp_M G l yX7_answer cX7_answer 3 (some .int) (hp_rm 6) [.ref (hp_ad G 0), .int (hp_I v1)] H (some (.int (hp_I x.1))) x.2 (hp_r x.1 ∧ hp_in x.2) := by
  obtain ⟨r, H'⟩ := x
  unfold f_X7_answer at h
  refine hp_body "HeelPost" (by decide) rfl ⟨rfl, rfl⟩ (Nat.le_of_ble_eq_true rfl) ?_
  show hp_R G l cX7_answer 3 (some .int) "HeelPost" (hp_rm 6) (some (.int (hp_I r))) H' (hp_r r ∧ hp_in H') 0 [(0, .ref (hp_ad G 0)), (1, .int (hp_I v1))] [] H
  refine x_aload_n dX7_answer_0 0 rfl ?_
  refine x_iload_n dX7_answer_1 1 rfl ?_
  refine x_iconst dX7_answer_2 ?_
  obtain ⟨c2, g1, h⟩ := hp_b1_e h
  refine x_ivi (As := [.int (hp_I v1), .int (hp_I 1)]) (ok_X7_refusalOf hG v1 1 H r1 (hp_rc rfl) rH _ g1) cal_X7_refusalOf (sc_0 hG) (by decide) (C := RX7) (T := TX7) (N := 11) rfl rfl ins_X7_refusalOf sel_X7_refusalOf wm_518 (by decide) rfl rfl (Nat.le_of_ble_eq_true rfl) dX7_answer_3 (fun z9 => ?_)
  have rc2 := z9
  refine x_istore_n (L' := [(2, .int (hp_I c2)), (0, .ref (hp_ad G 0)), (1, .int (hp_I v1))]) dX7_answer_6 rfl (by decide) rfl ?_
  refine x_iload_n dX7_answer_7 0 rfl ?_
  refine x_ifeq (tgt := 15) dX7_answer_8 (by decide) rc2 (fun hc3 => ?_) (fun hc3 => ?_)
  · replace h := hp_it hc3 h
    refine x_aload_n dX7_answer_15 1 rfl ?_
    refine x_getr 6 (sc_0 hG) (by decide) (C := RX7) (T := TX7) (N := 11) rfl in_X7 (by decide) rfl wf_232 dX7_answer_16 ?_
    refine x_aload_n dX7_answer_19 1 rfl ?_
    refine x_getr 2 (sc_0 hG) (by decide) (C := RX7) (T := TX7) (N := 11) rfl in_X7 (by decide) rfl wf_228 dX7_answer_20 ?_
    refine x_iload_n dX7_answer_23 2 rfl ?_
    obtain ⟨c5, H6, g4, h⟩ := hp_b2_e h
    refine x_ivi (As := [.ref (hp_ad G 15), .int (hp_I v1)]) (ok_X3_answerTo hG v1 H r1 rH _ g4) cal_X3_answerTo (sc_210 hG) (by decide) (C := RX3) (T := TX3) (N := 6) rfl rfl ins_X3_answerTo sel_X3_answerTo wm_691 (by decide) rfl rfl (Nat.le_of_ble_eq_true rfl) dX7_answer_24 (fun z9 => ?_)
    obtain ⟨rc5, rH6⟩ := z9
    cases h
    exact x_iret ⟨rc5, rH6⟩ dX7_answer_27
  · replace h := hp_if hc3 h
    refine x_iload_n dX7_answer_11 0 rfl ?_
    refine x_goto (tgt := 27) dX7_answer_12 (by decide) ?_
    cases h
    exact x_iret ⟨rc2, rH⟩ dX7_answer_27
set_option maxRecDepth 100000 in
theorem ok_X7_refusalOfTold {G : hp_G} (hG : hp_sh G = hp_shc) {l : Launch} (v1 : Int) (v2 : Int) (v3 : Int) (v4 : Int) (v5 : Int) (H : hp_H) (r1 : hp_r v1) (r2 : hp_r v2) (r3 : hp_r v3) (r4 : hp_r v4) (r5 : hp_r v5) (rH : hp_in H) (x : Int × hp_H) (h : f_X7_refusalOfTold v1 v2 v3 v4 v5 H = some x) : hp_M G l yX7_refusalOfTold cX7_refusalOfTold 8 (some .int) (hp_rm 3) [.ref (hp_ad G 0), .int (hp_I v1), .int (hp_I v2), .int (hp_I v3), .int (hp_I v4), .int (hp_I v5)] H (some (.int (hp_I x.1))) x.2 (hp_r x.1 ∧ hp_in x.2) := by
  obtain ⟨r, H'⟩ := x
  unfold f_X7_refusalOfTold at h
  refine hp_body "HeelPost" (by decide) rfl ⟨rfl, rfl⟩ (Nat.le_of_ble_eq_true rfl) ?_
  show hp_R G l cX7_refusalOfTold 8 (some .int) "HeelPost" (hp_rm 3) (some (.int (hp_I r))) H' (hp_r r ∧ hp_in H') 0 [(0, .ref (hp_ad G 0)), (1, .int (hp_I v1)), (2, .int (hp_I v2)), (3, .int (hp_I v3)), (4, .int (hp_I v4)), (5, .int (hp_I v5))] [] H
  refine x_aload_n dX7_refusalOfTold_0 0 rfl ?_
  refine x_iload_n dX7_refusalOfTold_1 1 rfl ?_
  refine x_iload_n dX7_refusalOfTold_2 2 rfl ?_
  obtain ⟨m1, hm2, h⟩ := hp_b1_e h
  have kj : hp_r m1 → (m1 = 0 ∨ m1 = 1) → hp_R G l cX7_refusalOfTold 8 (some .int) "HeelPost" (hp_rm 3) (some (.int (hp_I r))) H' (hp_r r ∧ hp_in H') 29 [(0, .ref (hp_ad G 0)), (3, .int (hp_I v3)), (4, .int (hp_I v4)), (5, .int (hp_I v5))] [.int (hp_I m1), .int (hp_I v1), .ref (hp_ad G 0)] H := by
    intro rm1 zm1
    obtain ⟨c4, g3, h⟩ := hp_b1_e h
    refine x_ivi (As := [.int (hp_I v1), .int (hp_I m1)]) (ok_X7_refusalOf hG v1 m1 H r1 rm1 rH _ g3) cal_X7_refusalOf (sc_0 hG) (by decide) (C := RX7) (T := TX7) (N := 11) rfl rfl ins_X7_refusalOf sel_X7_refusalOf wm_518 (by decide) rfl rfl (Nat.le_of_ble_eq_true rfl) dX7_refusalOfTold_29 (fun z9 => ?_)
    have rc4 := z9
    refine x_istore (L' := [(6, .int (hp_I c4)), (0, .ref (hp_ad G 0)), (3, .int (hp_I v3)), (4, .int (hp_I v4)), (5, .int (hp_I v5))]) dX7_refusalOfTold_32 (by decide) rfl ?_
    refine x_iload dX7_refusalOfTold_34 0 rfl ?_
    refine x_ifeq (tgt := 42) dX7_refusalOfTold_36 (by decide) rc4 (fun hc5 => ?_) (fun hc5 => ?_)
    · replace h := hp_it hc5 h
      refine x_aload_n dX7_refusalOfTold_42 1 rfl ?_
      refine x_getr 0 (sc_0 hG) (by decide) (C := RX7) (T := TX7) (N := 11) rfl in_X7 (by decide) rfl wf_226 dX7_refusalOfTold_43 ?_
      refine x_iload_n dX7_refusalOfTold_46 2 rfl ?_
      refine x_iload dX7_refusalOfTold_47 3 rfl ?_
      refine x_iload dX7_refusalOfTold_49 4 rfl ?_
      obtain ⟨c7, g6, h⟩ := hp_b1_e h
      refine x_ivi (As := [.int (hp_I v3), .int (hp_I v4), .int (hp_I v5)]) (ok_X4_findingOf hG v3 v4 v5 H r3 r4 r5 rH _ g6) cal_X4_findingOf (sc_1 hG) (by decide) (C := RX4) (T := TX4) (N := 3) rfl rfl ins_X4_findingOf sel_X4_findingOf wm_288 (by decide) rfl rfl (Nat.le_of_ble_eq_true rfl) dX7_refusalOfTold_51 (fun z9 => ?_)
      have rc7 := z9
      refine x_istore (L' := [(7, .int (hp_I c7)), (6, .int (hp_I c4)), (0, .ref (hp_ad G 0)), (3, .int (hp_I v3)), (4, .int (hp_I v4)), (5, .int (hp_I v5))]) dX7_refusalOfTold_54 (by decide) rfl ?_
      refine x_iload dX7_refusalOfTold_56 0 rfl ?_
      refine x_ifeq (tgt := 68) dX7_refusalOfTold_58 (by decide) rc7 (fun hc8 => ?_) (fun hc8 => ?_)
      · replace h := hp_it hc8 h
        refine x_aload_n dX7_refusalOfTold_68 2 rfl ?_
        refine x_getr 6 (sc_0 hG) (by decide) (C := RX7) (T := TX7) (N := 11) rfl in_X7 (by decide) rfl wf_232 dX7_refusalOfTold_69 ?_
        refine x_aload_n dX7_refusalOfTold_72 2 rfl ?_
        refine x_getr 0 (sc_0 hG) (by decide) (C := RX7) (T := TX7) (N := 11) rfl in_X7 (by decide) rfl wf_226 dX7_refusalOfTold_73 ?_
        refine x_iload_n dX7_refusalOfTold_76 3 rfl ?_
        refine x_iload dX7_refusalOfTold_77 4 rfl ?_
        refine x_iload dX7_refusalOfTold_79 5 rfl ?_
        obtain ⟨H10, g9, h⟩ := hp_b1_e h
        refine x_ivv (As := [.ref (hp_ad G 1), .int (hp_I v3), .int (hp_I v4), .int (hp_I v5)]) (ok_X3_hear hG v3 v4 v5 H r3 r4 r5 rH _ g9) cal_X3_hear (sc_210 hG) (by decide) (C := RX3) (T := TX3) (N := 6) rfl rfl ins_X3_hear sel_X3_hear wm_703 (by decide) rfl rfl (Nat.le_of_ble_eq_true rfl) dX7_refusalOfTold_81 (fun z9 => ?_)
        have rH10 := z9
        refine x_iconst dX7_refusalOfTold_84 ?_
        cases h
        exact x_iret ⟨(hp_rc rfl), rH10⟩ dX7_refusalOfTold_85
      · replace h := hp_if hc8 h
        refine x_aload_n dX7_refusalOfTold_61 2 rfl ?_
        refine x_iload dX7_refusalOfTold_62 0 rfl ?_
        obtain ⟨c12, H13, g11, h⟩ := hp_b2_e h
        refine x_ivi (As := [.int (hp_I c7)]) (ok_X7_found hG c7 H rc7 rH _ g11) cal_X7_found (sc_0 hG) (by decide) (C := RX7) (T := TX7) (N := 11) rfl rfl ins_X7_found sel_X7_found wm_271 (by decide) rfl rfl (Nat.le_of_ble_eq_true rfl) dX7_refusalOfTold_64 (fun z9 => ?_)
        obtain ⟨rc12, rH13⟩ := z9
        cases h
        exact x_iret ⟨rc12, rH13⟩ dX7_refusalOfTold_67
    · replace h := hp_if hc5 h
      refine x_iload dX7_refusalOfTold_39 0 rfl ?_
      cases h
      exact x_iret ⟨rc4, rH⟩ dX7_refusalOfTold_41
  clear h
  have h := hm2
  clear hm2
  refine x_ifeq (tgt := 28) dX7_refusalOfTold_3 (by decide) r2 (fun hc14 => ?_) (fun hc14 => ?_)
  · replace h := hp_it hc14 h
    refine x_iconst dX7_refusalOfTold_28 ?_
    cases h
    exact x_sub [0, 3, 4, 5] rfl (kj (hp_rc rfl) (Or.inl rfl))
  · replace h := hp_if hc14 h
    refine x_iload_n dX7_refusalOfTold_6 3 rfl ?_
    obtain ⟨c16, g15, h⟩ := hp_b1_e h
    refine x_isi (As := [.int (hp_I v3)]) (ok_X4_isRow hG v3 H r3 rH _ g15) cal_X4_isRow stt_X4_isRow wm_264 (by decide) rfl rfl (Nat.le_of_ble_eq_true rfl) dX7_refusalOfTold_7 (fun z9 => ?_)
    have rc16 := z9
    refine x_ifeq (tgt := 28) dX7_refusalOfTold_10 (by decide) rc16 (fun hc17 => ?_) (fun hc17 => ?_)
    · replace h := hp_it hc17 h
      refine x_iconst dX7_refusalOfTold_28 ?_
      cases h
      exact x_sub [0, 3, 4, 5] rfl (kj (hp_rc rfl) (Or.inl rfl))
    · replace h := hp_if hc17 h
      refine x_iload dX7_refusalOfTold_13 5 rfl ?_
      refine x_iconst dX7_refusalOfTold_15 ?_
      refine x_bipush rfl dX7_refusalOfTold_16 ?_
      obtain ⟨c19, g18, h⟩ := hp_b1_e h
      refine x_isi (As := [.int (hp_I v5), .int (hp_I 1), .int (hp_I 12)]) (ok_X7_within hG v5 1 12 H r5 (hp_rc rfl) (hp_rc rfl) rH _ g18) cal_X7_within stt_X7_within wm_267 (by decide) rfl rfl (Nat.le_of_ble_eq_true rfl) dX7_refusalOfTold_18 (fun z9 => ?_)
      have rc19 := z9
      refine x_ifeq (tgt := 28) dX7_refusalOfTold_21 (by decide) rc19 (fun hc20 => ?_) (fun hc20 => ?_)
      · replace h := hp_it hc20 h
        refine x_iconst dX7_refusalOfTold_28 ?_
        cases h
        exact x_sub [0, 3, 4, 5] rfl (kj (hp_rc rfl) (Or.inl rfl))
      · replace h := hp_if hc20 h
        refine x_iconst dX7_refusalOfTold_24 ?_
        refine x_goto (tgt := 29) dX7_refusalOfTold_25 (by decide) ?_
        cases h
        exact x_sub [0, 3, 4, 5] rfl (kj (hp_rc rfl) (Or.inr rfl))
set_option maxRecDepth 100000 in
theorem ok_X7_who {G : hp_G} (hG : hp_sh G = hp_shc) {l : Launch} (v1 : Int) (v2 : Int) (v3 : Int) (v4 : Int) (v5 : Int) (v6 : Int) (H : hp_H) (r1 : hp_r v1) (r2 : hp_r v2) (r3 : hp_r v3) (r4 : hp_r v4) (r5 : hp_r v5) (r6 : hp_r v6) (rH : hp_in H) (x : Int × hp_H) (h : f_X7_who v1 v2 v3 v4 v5 v6 H = some x) : hp_M G l yX7_who cX7_who 9 (some .int) (hp_rm 5) [.ref (hp_ad G 0), .int (hp_I v1), .int (hp_I v2), .int (hp_I v3), .int (hp_I v4), .int (hp_I v5), .int (hp_I v6)] H (some (.int (hp_I x.1))) x.2 (hp_r x.1 ∧ hp_in x.2) := by
  obtain ⟨r, H'⟩ := x
  unfold f_X7_who at h
  refine hp_body "HeelPost" (by decide) rfl ⟨rfl, rfl⟩ (Nat.le_of_ble_eq_true rfl) ?_
  show hp_R G l cX7_who 9 (some .int) "HeelPost" (hp_rm 5) (some (.int (hp_I r))) H' (hp_r r ∧ hp_in H') 0 [(0, .ref (hp_ad G 0)), (1, .int (hp_I v1)), (2, .int (hp_I v2)), (3, .int (hp_I v3)), (4, .int (hp_I v4)), (5, .int (hp_I v5)), (6, .int (hp_I v6))] [] H
  refine x_aload_n dX7_who_0 0 rfl ?_
  refine x_iload_n dX7_who_1 1 rfl ?_
  obtain ⟨c2, g1, h⟩ := hp_b1_e h
  refine x_ivi (As := [.int (hp_I v1)]) (ok_X7_isPerson hG v1 H r1 rH _ g1) cal_X7_isPerson (sc_0 hG) (by decide) (C := RX7) (T := TX7) (N := 11) rfl rfl ins_X7_isPerson sel_X7_isPerson wm_530 (by decide) rfl rfl (Nat.le_of_ble_eq_true rfl) dX7_who_2 (fun z9 => ?_)
  have rc2 := z9
  obtain ⟨m3, hm4, h⟩ := hp_b1_e h
  have kj : hp_r m3 → (m3 = 0 ∨ m3 = 1) → hp_R G l cX7_who 9 (some .int) "HeelPost" (hp_rm 5) (some (.int (hp_I r))) H' (hp_r r ∧ hp_in H') 22 [(0, .ref (hp_ad G 0)), (1, .int (hp_I v1)), (2, .int (hp_I v2)), (3, .int (hp_I v3)), (4, .int (hp_I v4)), (5, .int (hp_I v5)), (6, .int (hp_I v6))] [.int (hp_I m3)] H := by
    intro rm3 zm3
    refine x_istore (L' := [(7, .int (hp_I m3)), (0, .ref (hp_ad G 0)), (1, .int (hp_I v1)), (2, .int (hp_I v2)), (3, .int (hp_I v3)), (4, .int (hp_I v4)), (5, .int (hp_I v5)), (6, .int (hp_I v6))]) dX7_who_22 (by decide) rfl ?_
    refine x_aload_n dX7_who_24 1 rfl ?_
    refine x_iload_n dX7_who_25 4 rfl ?_
    refine x_iload dX7_who_26 0 rfl ?_
    refine x_iload dX7_who_28 5 rfl ?_
    refine x_iload dX7_who_30 6 rfl ?_
    refine x_iload dX7_who_32 7 rfl ?_
    obtain ⟨c6, H7, g5, h⟩ := hp_b2_e h
    refine x_ivi (As := [.int (hp_I v3), .int (hp_I m3), .int (hp_I v4), .int (hp_I v5), .int (hp_I v6)]) (ok_X7_refusalOfTold hG v3 m3 v4 v5 v6 H r3 rm3 r4 r5 r6 rH _ g5) cal_X7_refusalOfTold (sc_0 hG) (by decide) (C := RX7) (T := TX7) (N := 11) rfl rfl ins_X7_refusalOfTold sel_X7_refusalOfTold wm_699 (by decide) rfl rfl (Nat.le_of_ble_eq_true rfl) dX7_who_34 (fun z9 => ?_)
    obtain ⟨rc6, rH7⟩ := z9
    refine x_istore (L' := [(8, .int (hp_I c6)), (7, .int (hp_I m3)), (0, .ref (hp_ad G 0)), (1, .int (hp_I v1)), (2, .int (hp_I v2)), (3, .int (hp_I v3)), (4, .int (hp_I v4)), (5, .int (hp_I v5)), (6, .int (hp_I v6))]) dX7_who_37 (by decide) rfl ?_
    refine x_iload dX7_who_39 0 rfl ?_
    refine x_ifeq (tgt := 47) dX7_who_41 (by decide) rc6 (fun hc8 => ?_) (fun hc8 => ?_)
    · replace h := hp_it hc8 h
      refine x_aload_n dX7_who_47 2 rfl ?_
      refine x_iload_n dX7_who_48 4 rfl ?_
      obtain ⟨m9, H10, hm11, h⟩ := hp_b2_e h
      have kj : hp_r m9 → hp_in H10 → hp_R G l cX7_who 9 (some .int) "HeelPost" (hp_rm 5) (some (.int (hp_I r))) H' (hp_r r ∧ hp_in H') 81 [] [.int (hp_I m9), .ref (hp_ad G 0)] H10 := by
        intro rm9 rH10
        obtain ⟨c13, H14, g12, h⟩ := hp_b2_e h
        refine x_ivi (As := [.int (hp_I m9)]) (ok_X7_unfound hG m9 H10 rm9 rH10 _ g12) cal_X7_unfound (sc_0 hG) (by decide) (C := RX7) (T := TX7) (N := 11) rfl rfl ins_X7_unfound sel_X7_unfound wm_280 (by decide) rfl rfl (Nat.le_of_ble_eq_true rfl) dX7_who_81 (fun z9 => ?_)
        obtain ⟨rc13, rH14⟩ := z9
        cases h
        exact x_iret ⟨rc13, rH14⟩ dX7_who_84
      clear h
      have h := hm11
      clear hm11
      refine x_ifne (tgt := 68) dX7_who_49 (by decide) r2 (fun hc15 => ?_) (fun hc15 => ?_)
      · replace h := hp_if hc15 h
        refine x_aload_n dX7_who_68 2 rfl ?_
        refine x_getr 6 (sc_0 hG) (by decide) (C := RX7) (T := TX7) (N := 11) rfl in_X7 (by decide) rfl wf_232 dX7_who_69 ?_
        refine x_aload_n dX7_who_72 2 rfl ?_
        refine x_getr 2 (sc_0 hG) (by decide) (C := RX7) (T := TX7) (N := 11) rfl in_X7 (by decide) rfl wf_228 dX7_who_73 ?_
        refine x_iload_n dX7_who_76 3 rfl ?_
        refine x_iload_n dX7_who_77 5 rfl ?_
        obtain ⟨c20, H21, g19, h⟩ := hp_b2_e h
        refine x_ivi (As := [.ref (hp_ad G 15), .int (hp_I v1), .int (hp_I v3)]) (ok_X3_beginsThatFit hG v1 v3 H7 r1 r3 rH7 _ g19) cal_X3_beginsThatFit (sc_210 hG) (by decide) (C := RX3) (T := TX3) (N := 6) rfl rfl ins_X3_beginsThatFit sel_X3_beginsThatFit wm_720 (by decide) rfl rfl (Nat.le_of_ble_eq_true rfl) dX7_who_78 (fun z9 => ?_)
        obtain ⟨rc20, rH21⟩ := z9
        cases h
        exact x_sub [] rfl (kj rc20 rH21)
      · replace h := hp_it hc15 h
        refine x_aload_n dX7_who_52 2 rfl ?_
        refine x_getr 6 (sc_0 hG) (by decide) (C := RX7) (T := TX7) (N := 11) rfl in_X7 (by decide) rfl wf_232 dX7_who_53 ?_
        refine x_aload_n dX7_who_56 2 rfl ?_
        refine x_getr 2 (sc_0 hG) (by decide) (C := RX7) (T := TX7) (N := 11) rfl in_X7 (by decide) rfl wf_228 dX7_who_57 ?_
        refine x_iload_n dX7_who_60 3 rfl ?_
        refine x_iload_n dX7_who_61 5 rfl ?_
        obtain ⟨c17, H18, g16, h⟩ := hp_b2_e h
        refine x_ivi (As := [.ref (hp_ad G 15), .int (hp_I v1), .int (hp_I v3)]) (ok_X3_kindsThatFit hG v1 v3 H7 r1 r3 rH7 _ g16) cal_X3_kindsThatFit (sc_210 hG) (by decide) (C := RX3) (T := TX3) (N := 6) rfl rfl ins_X3_kindsThatFit sel_X3_kindsThatFit wm_712 (by decide) rfl rfl (Nat.le_of_ble_eq_true rfl) dX7_who_62 (fun z9 => ?_)
        obtain ⟨rc17, rH18⟩ := z9
        refine x_goto (tgt := 81) dX7_who_65 (by decide) ?_
        cases h
        exact x_sub [] rfl (kj rc17 rH18)
    · replace h := hp_if hc8 h
      refine x_iload dX7_who_44 0 rfl ?_
      cases h
      exact x_iret ⟨rc6, rH7⟩ dX7_who_46
  clear h
  have h := hm4
  clear hm4
  refine x_ifeq (tgt := 21) dX7_who_5 (by decide) rc2 (fun hc22 => ?_) (fun hc22 => ?_)
  · replace h := hp_it hc22 h
    refine x_iconst dX7_who_21 ?_
    cases h
    exact x_sub [0, 1, 2, 3, 4, 5, 6] rfl (kj (hp_rc rfl) (Or.inl rfl))
  · replace h := hp_if hc22 h
    refine x_iload_n dX7_who_8 2 rfl ?_
    refine x_iconst dX7_who_9 ?_
    refine x_iconst dX7_who_10 ?_
    obtain ⟨c24, g23, h⟩ := hp_b1_e h
    refine x_isi (As := [.int (hp_I v2), .int (hp_I 0), .int (hp_I 1)]) (ok_X7_within hG v2 0 1 H r2 (hp_rc rfl) (hp_rc rfl) rH _ g23) cal_X7_within stt_X7_within wm_267 (by decide) rfl rfl (Nat.le_of_ble_eq_true rfl) dX7_who_11 (fun z9 => ?_)
    have rc24 := z9
    refine x_ifeq (tgt := 21) dX7_who_14 (by decide) rc24 (fun hc25 => ?_) (fun hc25 => ?_)
    · replace h := hp_it hc25 h
      refine x_iconst dX7_who_21 ?_
      cases h
      exact x_sub [0, 1, 2, 3, 4, 5, 6] rfl (kj (hp_rc rfl) (Or.inl rfl))
    · replace h := hp_if hc25 h
      refine x_iconst dX7_who_17 ?_
      refine x_goto (tgt := 22) dX7_who_18 (by decide) ?_
      cases h
      exact x_sub [0, 1, 2, 3, 4, 5, 6] rfl (kj (hp_rc rfl) (Or.inr rfl))
set_option maxRecDepth 100000 in
theorem ok_X7_missing {G : hp_G} (hG : hp_sh G = hp_shc) {l : Launch} (v1 : Int) (v2 : Int) (v3 : Int) (v4 : Int) (H : hp_H) (r1 : hp_r v1) (r2 : hp_r v2) (r3 : hp_r v3) (r4 : hp_r v4) (rH : hp_in H) (x : Int × hp_H) (h : f_X7_missing v1 v2 v3 v4 H = some x) : hp_M G l yX7_missing cX7_missing 6 (some .int) (hp_rm 6) [.ref (hp_ad G 0), .int (hp_I v1), .int (hp_I v2), .int (hp_I v3), .int (hp_I v4)] H (some (.int (hp_I x.1))) x.2 (hp_r x.1 ∧ hp_in x.2) := by
  obtain ⟨r, H'⟩ := x
  unfold f_X7_missing at h
  refine hp_body "HeelPost" (by decide) rfl ⟨rfl, rfl⟩ (Nat.le_of_ble_eq_true rfl) ?_
  show hp_R G l cX7_missing 6 (some .int) "HeelPost" (hp_rm 6) (some (.int (hp_I r))) H' (hp_r r ∧ hp_in H') 0 [(0, .ref (hp_ad G 0)), (1, .int (hp_I v1)), (2, .int (hp_I v2)), (3, .int (hp_I v3)), (4, .int (hp_I v4))] [] H
  refine x_aload_n dX7_missing_0 0 rfl ?_
  refine x_iload_n dX7_missing_1 1 rfl ?_
  refine x_iconst dX7_missing_2 ?_
  refine x_iload_n dX7_missing_3 2 rfl ?_
  refine x_iload_n dX7_missing_4 3 rfl ?_
  refine x_iload dX7_missing_5 4 rfl ?_
  obtain ⟨c2, H3, g1, h⟩ := hp_b2_e h
  refine x_ivi (As := [.int (hp_I v1), .int (hp_I 1), .int (hp_I v2), .int (hp_I v3), .int (hp_I v4)]) (ok_X7_refusalOfTold hG v1 1 v2 v3 v4 H r1 (hp_rc rfl) r2 r3 r4 rH _ g1) cal_X7_refusalOfTold (sc_0 hG) (by decide) (C := RX7) (T := TX7) (N := 11) rfl rfl ins_X7_refusalOfTold sel_X7_refusalOfTold wm_699 (by decide) rfl rfl (Nat.le_of_ble_eq_true rfl) dX7_missing_7 (fun z9 => ?_)
  obtain ⟨rc2, rH3⟩ := z9
  refine x_istore (L' := [(5, .int (hp_I c2)), (0, .ref (hp_ad G 0)), (1, .int (hp_I v1)), (2, .int (hp_I v2)), (3, .int (hp_I v3)), (4, .int (hp_I v4))]) dX7_missing_10 (by decide) rfl ?_
  refine x_iload dX7_missing_12 0 rfl ?_
  refine x_ifeq (tgt := 22) dX7_missing_14 (by decide) rc2 (fun hc4 => ?_) (fun hc4 => ?_)
  · replace h := hp_it hc4 h
    refine x_aload_n dX7_missing_22 1 rfl ?_
    refine x_aload_n dX7_missing_23 1 rfl ?_
    refine x_getr 6 (sc_0 hG) (by decide) (C := RX7) (T := TX7) (N := 11) rfl in_X7 (by decide) rfl wf_232 dX7_missing_24 ?_
    refine x_aload_n dX7_missing_27 1 rfl ?_
    refine x_getr 2 (sc_0 hG) (by decide) (C := RX7) (T := TX7) (N := 11) rfl in_X7 (by decide) rfl wf_228 dX7_missing_28 ?_
    refine x_iload_n dX7_missing_31 2 rfl ?_
    obtain ⟨c6, H7, g5, h⟩ := hp_b2_e h
    refine x_ivi (As := [.ref (hp_ad G 15), .int (hp_I v1)]) (ok_X3_absentThatFit hG v1 H3 r1 rH3 _ g5) cal_X3_absentThatFit (sc_210 hG) (by decide) (C := RX3) (T := TX3) (N := 6) rfl rfl ins_X3_absentThatFit sel_X3_absentThatFit wm_728 (by decide) rfl rfl (Nat.le_of_ble_eq_true rfl) dX7_missing_32 (fun z9 => ?_)
    obtain ⟨rc6, rH7⟩ := z9
    obtain ⟨c9, H10, g8, h⟩ := hp_b2_e h
    refine x_ivi (As := [.int (hp_I c6)]) (ok_X7_unfound hG c6 H7 rc6 rH7 _ g8) cal_X7_unfound (sc_0 hG) (by decide) (C := RX7) (T := TX7) (N := 11) rfl rfl ins_X7_unfound sel_X7_unfound wm_280 (by decide) rfl rfl (Nat.le_of_ble_eq_true rfl) dX7_missing_35 (fun z9 => ?_)
    obtain ⟨rc9, rH10⟩ := z9
    cases h
    exact x_iret ⟨rc9, rH10⟩ dX7_missing_38
  · replace h := hp_if hc4 h
    refine x_iload dX7_missing_17 0 rfl ?_
    refine x_goto (tgt := 38) dX7_missing_19 (by decide) ?_
    cases h
    exact x_iret ⟨rc2, rH3⟩ dX7_missing_38
set_option maxRecDepth 100000 in
theorem ok_X7_goals {G : hp_G} (hG : hp_sh G = hp_shc) {l : Launch} (v1 : Int) (v2 : Int) (v3 : Int) (v4 : Int) (H : hp_H) (r1 : hp_r v1) (r2 : hp_r v2) (r3 : hp_r v3) (r4 : hp_r v4) (rH : hp_in H) (x : Int × hp_H) (h : f_X7_goals v1 v2 v3 v4 H = some x) : hp_M G l yX7_goals cX7_goals 6 (some .int) (hp_rm 6) [.ref (hp_ad G 0), .int (hp_I v1), .int (hp_I v2), .int (hp_I v3), .int (hp_I v4)] H (some (.int (hp_I x.1))) x.2 (hp_r x.1 ∧ hp_in x.2) := by
  obtain ⟨r, H'⟩ := x
  unfold f_X7_goals at h
  refine hp_body "HeelPost" (by decide) rfl ⟨rfl, rfl⟩ (Nat.le_of_ble_eq_true rfl) ?_
  show hp_R G l cX7_goals 6 (some .int) "HeelPost" (hp_rm 6) (some (.int (hp_I r))) H' (hp_r r ∧ hp_in H') 0 [(0, .ref (hp_ad G 0)), (1, .int (hp_I v1)), (2, .int (hp_I v2)), (3, .int (hp_I v3)), (4, .int (hp_I v4))] [] H
  refine x_aload_n dX7_goals_0 0 rfl ?_
  refine x_iload_n dX7_goals_1 1 rfl ?_
  refine x_iconst dX7_goals_2 ?_
  refine x_iload_n dX7_goals_3 2 rfl ?_
  refine x_iload_n dX7_goals_4 3 rfl ?_
  refine x_iload dX7_goals_5 4 rfl ?_
  obtain ⟨c2, H3, g1, h⟩ := hp_b2_e h
  refine x_ivi (As := [.int (hp_I v1), .int (hp_I 1), .int (hp_I v2), .int (hp_I v3), .int (hp_I v4)]) (ok_X7_refusalOfTold hG v1 1 v2 v3 v4 H r1 (hp_rc rfl) r2 r3 r4 rH _ g1) cal_X7_refusalOfTold (sc_0 hG) (by decide) (C := RX7) (T := TX7) (N := 11) rfl rfl ins_X7_refusalOfTold sel_X7_refusalOfTold wm_699 (by decide) rfl rfl (Nat.le_of_ble_eq_true rfl) dX7_goals_7 (fun z9 => ?_)
  obtain ⟨rc2, rH3⟩ := z9
  refine x_istore (L' := [(5, .int (hp_I c2)), (0, .ref (hp_ad G 0)), (1, .int (hp_I v1)), (2, .int (hp_I v2)), (3, .int (hp_I v3)), (4, .int (hp_I v4))]) dX7_goals_10 (by decide) rfl ?_
  refine x_iload dX7_goals_12 0 rfl ?_
  refine x_ifeq (tgt := 22) dX7_goals_14 (by decide) rc2 (fun hc4 => ?_) (fun hc4 => ?_)
  · replace h := hp_it hc4 h
    refine x_aload_n dX7_goals_22 1 rfl ?_
    refine x_aload_n dX7_goals_23 1 rfl ?_
    refine x_getr 6 (sc_0 hG) (by decide) (C := RX7) (T := TX7) (N := 11) rfl in_X7 (by decide) rfl wf_232 dX7_goals_24 ?_
    refine x_aload_n dX7_goals_27 1 rfl ?_
    refine x_getr 2 (sc_0 hG) (by decide) (C := RX7) (T := TX7) (N := 11) rfl in_X7 (by decide) rfl wf_228 dX7_goals_28 ?_
    refine x_iload_n dX7_goals_31 2 rfl ?_
    obtain ⟨c6, H7, g5, h⟩ := hp_b2_e h
    refine x_ivi (As := [.ref (hp_ad G 15), .int (hp_I v1)]) (ok_X3_goalsThatFit hG v1 H3 r1 rH3 _ g5) cal_X3_goalsThatFit (sc_210 hG) (by decide) (C := RX3) (T := TX3) (N := 6) rfl rfl ins_X3_goalsThatFit sel_X3_goalsThatFit wm_736 (by decide) rfl rfl (Nat.le_of_ble_eq_true rfl) dX7_goals_32 (fun z9 => ?_)
    obtain ⟨rc6, rH7⟩ := z9
    obtain ⟨c9, H10, g8, h⟩ := hp_b2_e h
    refine x_ivi (As := [.int (hp_I c6)]) (ok_X7_unfound hG c6 H7 rc6 rH7 _ g8) cal_X7_unfound (sc_0 hG) (by decide) (C := RX7) (T := TX7) (N := 11) rfl rfl ins_X7_unfound sel_X7_unfound wm_280 (by decide) rfl rfl (Nat.le_of_ble_eq_true rfl) dX7_goals_35 (fun z9 => ?_)
    obtain ⟨rc9, rH10⟩ := z9
    cases h
    exact x_iret ⟨rc9, rH10⟩ dX7_goals_38
  · replace h := hp_if hc4 h
    refine x_iload dX7_goals_17 0 rfl ?_
    refine x_goto (tgt := 38) dX7_goals_19 (by decide) ?_
    cases h
    exact x_iret ⟨rc2, rH3⟩ dX7_goals_38
set_option maxRecDepth 100000 in
theorem ok_X7_busy {G : hp_G} (hG : hp_sh G = hp_shc) {l : Launch} (v1 : Int) (v2 : Int) (H : hp_H) (r1 : hp_r v1) (r2 : hp_r v2) (rH : hp_in H) (x : Int × hp_H) (h : f_X7_busy v1 v2 H = some x) : hp_M G l yX7_busy cX7_busy 3 (some .int) (hp_rm 6) [.ref (hp_ad G 0), .int (hp_I v1), .int (hp_I v2)] H (some (.int (hp_I x.1))) x.2 (hp_r x.1 ∧ hp_in x.2) := by
  obtain ⟨r, H'⟩ := x
  unfold f_X7_busy at h
  refine hp_body "HeelPost" (by decide) rfl ⟨rfl, rfl⟩ (Nat.le_of_ble_eq_true rfl) ?_
  show hp_R G l cX7_busy 3 (some .int) "HeelPost" (hp_rm 6) (some (.int (hp_I r))) H' (hp_r r ∧ hp_in H') 0 [(0, .ref (hp_ad G 0)), (1, .int (hp_I v1)), (2, .int (hp_I v2))] [] H
  refine x_aload_n dX7_busy_0 0 rfl ?_
  refine x_getr 2 (sc_0 hG) (by decide) (C := RX7) (T := TX7) (N := 11) rfl in_X7 (by decide) rfl wf_228 dX7_busy_1 ?_
  obtain ⟨c2, g1, h⟩ := hp_b1_e h
  refine x_ivi (As := []) (ok_X6_stands hG 15 H (tw_at15 hG) rH _ g1) cal_X6_stands (tw_0 (tw_at15 hG)) (tw_p (tw_at15 hG)) (C := RX6) (T := TX6) (N := 12) rfl rfl ins_X6_stands sel_X6_stands wm_439 (by decide) rfl rfl (Nat.le_of_ble_eq_true rfl) dX7_busy_4 (fun z9 => ?_)
  have rc2 := z9
  refine x_ifne (tgt := 13) dX7_busy_7 (by decide) rc2 (fun hc3 => ?_) (fun hc3 => ?_)
  · replace h := hp_if hc3 h
    refine x_iload_n dX7_busy_13 1 rfl ?_
    obtain ⟨c5, g4, h⟩ := hp_b1_e h
    refine x_isi (As := [.int (hp_I v1)]) (ok_X7_isSpan hG v1 H r1 rH _ g4) cal_X7_isSpan stt_X7_isSpan wm_610 (by decide) rfl rfl (Nat.le_of_ble_eq_true rfl) dX7_busy_14 (fun z9 => ?_)
    have rc5 := z9
    refine x_ifeq (tgt := 29) dX7_busy_17 (by decide) rc5 (fun hc6 => ?_) (fun hc6 => ?_)
    · replace h := hp_it hc6 h
      refine x_ldc (x := (-1000001)) wc_270 rfl dX7_busy_29 ?_
      cases h
      exact x_iret ⟨(hp_rc rfl), rH⟩ dX7_busy_31
    · replace h := hp_if hc6 h
      refine x_iload_n dX7_busy_20 2 rfl ?_
      refine x_iconst dX7_busy_21 ?_
      refine x_iconst dX7_busy_22 ?_
      obtain ⟨c8, g7, h⟩ := hp_b1_e h
      refine x_isi (As := [.int (hp_I v2), .int (hp_I 0), .int (hp_I 1)]) (ok_X7_within hG v2 0 1 H r2 (hp_rc rfl) (hp_rc rfl) rH _ g7) cal_X7_within stt_X7_within wm_267 (by decide) rfl rfl (Nat.le_of_ble_eq_true rfl) dX7_busy_23 (fun z9 => ?_)
      have rc8 := z9
      refine x_ifne (tgt := 32) dX7_busy_26 (by decide) rc8 (fun hc9 => ?_) (fun hc9 => ?_)
      · replace h := hp_if hc9 h
        refine x_aload_n dX7_busy_32 0 rfl ?_
        refine x_getr 6 (sc_0 hG) (by decide) (C := RX7) (T := TX7) (N := 11) rfl in_X7 (by decide) rfl wf_232 dX7_busy_33 ?_
        refine x_aload_n dX7_busy_36 0 rfl ?_
        refine x_getr 2 (sc_0 hG) (by decide) (C := RX7) (T := TX7) (N := 11) rfl in_X7 (by decide) rfl wf_228 dX7_busy_37 ?_
        refine x_iload_n dX7_busy_40 1 rfl ?_
        refine x_iload_n dX7_busy_41 2 rfl ?_
        obtain ⟨c11, H12, g10, h⟩ := hp_b2_e h
        refine x_ivi (As := [.ref (hp_ad G 15), .int (hp_I v1), .int (hp_I v2)]) (ok_X3_busiest hG v1 v2 H r1 r2 rH _ g10) cal_X3_busiest (sc_210 hG) (by decide) (C := RX3) (T := TX3) (N := 6) rfl rfl ins_X3_busiest sel_X3_busiest wm_744 (by decide) rfl rfl (Nat.le_of_ble_eq_true rfl) dX7_busy_42 (fun z9 => ?_)
        obtain ⟨rc11, rH12⟩ := z9
        cases h
        exact x_iret ⟨rc11, rH12⟩ dX7_busy_45
      · replace h := hp_it hc9 h
        refine x_ldc (x := (-1000001)) wc_270 rfl dX7_busy_29 ?_
        cases h
        exact x_iret ⟨(hp_rc rfl), rH⟩ dX7_busy_31
  · replace h := hp_it hc3 h
    refine x_ldc (x := (-1000002)) wc_434 rfl dX7_busy_10 ?_
    cases h
    exact x_iret ⟨(hp_rc rfl), rH⟩ dX7_busy_12
set_option maxRecDepth 100000 in
theorem ok_X7_sick {G : hp_G} (hG : hp_sh G = hp_shc) {l : Launch} (v1 : Int) (v2 : Int) (v3 : Int) (v4 : Int) (H : hp_H) (r1 : hp_r v1) (r2 : hp_r v2) (r3 : hp_r v3) (r4 : hp_r v4) (rH : hp_in H) (x : Int × hp_H) (h : f_X7_sick v1 v2 v3 v4 H = some x) : hp_M G l yX7_sick cX7_sick 7 (some .long) (hp_rm 6) [.ref (hp_ad G 0), .int (hp_I v1), .int (hp_I v2), .int (hp_I v3), .int (hp_I v4)] H (some (.long (hp_J x.1))) x.2 (hp_rl x.1 ∧ hp_in x.2) := by
  obtain ⟨r, H'⟩ := x
  unfold f_X7_sick at h
  refine hp_body "HeelPost" (by decide) rfl ⟨rfl, rfl⟩ (Nat.le_of_ble_eq_true rfl) ?_
  show hp_R G l cX7_sick 7 (some .long) "HeelPost" (hp_rm 6) (some (.long (hp_J r))) H' (hp_rl r ∧ hp_in H') 0 [(0, .ref (hp_ad G 0)), (1, .int (hp_I v1)), (2, .int (hp_I v2)), (3, .int (hp_I v3)), (4, .int (hp_I v4))] [] H
  refine x_iload_n dX7_sick_0 2 rfl ?_
  refine x_iconst dX7_sick_1 ?_
  refine x_bipush rfl dX7_sick_2 ?_
  obtain ⟨c2, g1, h⟩ := hp_b1_e h
  refine x_isi (As := [.int (hp_I v2), .int (hp_I 0), .int (hp_I 99)]) (ok_X7_within hG v2 0 99 H r2 (hp_rc rfl) (hp_rc rfl) rH _ g1) cal_X7_within stt_X7_within wm_267 (by decide) rfl rfl (Nat.le_of_ble_eq_true rfl) dX7_sick_4 (fun z9 => ?_)
  have rc2 := z9
  obtain ⟨m3, hm4, h⟩ := hp_b1_e h
  have kj : hp_r m3 → (m3 = 0 ∨ m3 = 1) → hp_R G l cX7_sick 7 (some .long) "HeelPost" (hp_rm 6) (some (.long (hp_J r))) H' (hp_rl r ∧ hp_in H') 35 [(0, .ref (hp_ad G 0)), (1, .int (hp_I v1)), (2, .int (hp_I v2)), (3, .int (hp_I v3)), (4, .int (hp_I v4))] [.int (hp_I m3)] H := by
    intro rm3 zm3
    refine x_istore (L' := [(5, .int (hp_I m3)), (0, .ref (hp_ad G 0)), (1, .int (hp_I v1)), (2, .int (hp_I v2)), (3, .int (hp_I v3)), (4, .int (hp_I v4))]) dX7_sick_35 (by decide) rfl ?_
    refine x_aload_n dX7_sick_37 1 rfl ?_
    refine x_iload_n dX7_sick_38 2 rfl ?_
    refine x_iload dX7_sick_39 0 rfl ?_
    obtain ⟨c6, g5, h⟩ := hp_b1_e h
    refine x_ivi (As := [.int (hp_I v1), .int (hp_I m3)]) (ok_X7_refusalOf hG v1 m3 H r1 rm3 rH _ g5) cal_X7_refusalOf (sc_0 hG) (by decide) (C := RX7) (T := TX7) (N := 11) rfl rfl ins_X7_refusalOf sel_X7_refusalOf wm_518 (by decide) rfl rfl (Nat.le_of_ble_eq_true rfl) dX7_sick_41 (fun z9 => ?_)
    have rc6 := z9
    refine x_istore (L' := [(6, .int (hp_I c6)), (5, .int (hp_I m3)), (0, .ref (hp_ad G 0)), (1, .int (hp_I v1)), (2, .int (hp_I v2)), (3, .int (hp_I v3)), (4, .int (hp_I v4))]) dX7_sick_44 (by decide) rfl ?_
    refine x_iload dX7_sick_46 0 rfl ?_
    refine x_ifeq (tgt := 57) dX7_sick_48 (by decide) rc6 (fun hc7 => ?_) (fun hc7 => ?_)
    · replace h := hp_it hc7 h
      refine x_aload_n dX7_sick_57 2 rfl ?_
      refine x_getr 6 (sc_0 hG) (by decide) (C := RX7) (T := TX7) (N := 11) rfl in_X7 (by decide) rfl wf_232 dX7_sick_58 ?_
      refine x_aload_n dX7_sick_61 2 rfl ?_
      refine x_getr 2 (sc_0 hG) (by decide) (C := RX7) (T := TX7) (N := 11) rfl in_X7 (by decide) rfl wf_228 dX7_sick_62 ?_
      refine x_iload_n dX7_sick_65 3 rfl ?_
      refine x_iload_n dX7_sick_66 4 rfl ?_
      refine x_iload_n dX7_sick_67 5 rfl ?_
      refine x_iload dX7_sick_68 6 rfl ?_
      obtain ⟨c9, H10, g8, h⟩ := hp_b2_e h
      refine x_ivl (As := [.ref (hp_ad G 15), .int (hp_I v1), .int (hp_I v2), .int (hp_I v3), .int (hp_I v4)]) (ok_X3_likelihood hG v1 v2 v3 v4 H r1 r2 r3 r4 rH _ g8) cal_X3_likelihood (sc_210 hG) (by decide) (C := RX3) (T := TX3) (N := 6) rfl rfl ins_X3_likelihood sel_X3_likelihood wm_756 (by decide) rfl rfl (Nat.le_of_ble_eq_true rfl) dX7_sick_70 (fun z9 => ?_)
      obtain ⟨rc9, rH10⟩ := z9
      cases h
      exact x_lret ⟨rc9, rH10⟩ dX7_sick_73
    · replace h := hp_if hc7 h
      refine x_iload dX7_sick_51 0 rfl ?_
      refine x_i2l rc6 dX7_sick_53 ?_
      refine x_goto (tgt := 73) dX7_sick_54 (by decide) ?_
      cases h
      exact x_lret ⟨(hp_rrl rc6), rH⟩ dX7_sick_73
  clear h
  have h := hm4
  clear hm4
  refine x_ifeq (tgt := 34) dX7_sick_7 (by decide) rc2 (fun hc11 => ?_) (fun hc11 => ?_)
  · replace h := hp_it hc11 h
    refine x_iconst dX7_sick_34 ?_
    cases h
    exact x_sub [0, 1, 2, 3, 4] rfl (kj (hp_rc rfl) (Or.inl rfl))
  · replace h := hp_if hc11 h
    refine x_iload_n dX7_sick_10 3 rfl ?_
    refine x_iconst dX7_sick_11 ?_
    refine x_bipush rfl dX7_sick_12 ?_
    obtain ⟨c13, g12, h⟩ := hp_b1_e h
    refine x_isi (As := [.int (hp_I v3), .int (hp_I 0), .int (hp_I 10)]) (ok_X7_within hG v3 0 10 H r3 (hp_rc rfl) (hp_rc rfl) rH _ g12) cal_X7_within stt_X7_within wm_267 (by decide) rfl rfl (Nat.le_of_ble_eq_true rfl) dX7_sick_14 (fun z9 => ?_)
    have rc13 := z9
    refine x_ifeq (tgt := 34) dX7_sick_17 (by decide) rc13 (fun hc14 => ?_) (fun hc14 => ?_)
    · replace h := hp_it hc14 h
      refine x_iconst dX7_sick_34 ?_
      cases h
      exact x_sub [0, 1, 2, 3, 4] rfl (kj (hp_rc rfl) (Or.inl rfl))
    · replace h := hp_if hc14 h
      refine x_iload dX7_sick_20 4 rfl ?_
      refine x_iconst dX7_sick_22 ?_
      refine x_iconst dX7_sick_23 ?_
      obtain ⟨c16, g15, h⟩ := hp_b1_e h
      refine x_isi (As := [.int (hp_I v4), .int (hp_I 0), .int (hp_I 1)]) (ok_X7_within hG v4 0 1 H r4 (hp_rc rfl) (hp_rc rfl) rH _ g15) cal_X7_within stt_X7_within wm_267 (by decide) rfl rfl (Nat.le_of_ble_eq_true rfl) dX7_sick_24 (fun z9 => ?_)
      have rc16 := z9
      refine x_ifeq (tgt := 34) dX7_sick_27 (by decide) rc16 (fun hc17 => ?_) (fun hc17 => ?_)
      · replace h := hp_it hc17 h
        refine x_iconst dX7_sick_34 ?_
        cases h
        exact x_sub [0, 1, 2, 3, 4] rfl (kj (hp_rc rfl) (Or.inl rfl))
      · replace h := hp_if hc17 h
        refine x_iconst dX7_sick_30 ?_
        refine x_goto (tgt := 35) dX7_sick_31 (by decide) ?_
        cases h
        exact x_sub [0, 1, 2, 3, 4] rfl (kj (hp_rc rfl) (Or.inr rfl))
set_option maxRecDepth 100000 in
theorem ok_X7_drawn {G : hp_G} (hG : hp_sh G = hp_shc) {l : Launch} (v1 : Int) (v2 : Int) (v3 : Int) (H : hp_H) (r1 : hp_r v1) (r2 : hp_r v2) (r3 : hp_r v3) (rH : hp_in H) (x : Int × hp_H) (h : f_X7_drawn v1 v2 v3 H = some x) : hp_M G l yX7_drawn cX7_drawn 4 (some .int) (hp_rm 6) [.ref (hp_ad G 0), .int (hp_I v1), .int (hp_I v2), .int (hp_I v3)] H (some (.int (hp_I x.1))) x.2 (hp_r x.1 ∧ hp_in x.2) := by
  obtain ⟨r, H'⟩ := x
  unfold f_X7_drawn at h
  refine hp_body "HeelPost" (by decide) rfl ⟨rfl, rfl⟩ (Nat.le_of_ble_eq_true rfl) ?_
  show hp_R G l cX7_drawn 4 (some .int) "HeelPost" (hp_rm 6) (some (.int (hp_I r))) H' (hp_r r ∧ hp_in H') 0 [(0, .ref (hp_ad G 0)), (1, .int (hp_I v1)), (2, .int (hp_I v2)), (3, .int (hp_I v3))] [] H
  refine x_aload_n dX7_drawn_0 0 rfl ?_
  refine x_getr 2 (sc_0 hG) (by decide) (C := RX7) (T := TX7) (N := 11) rfl in_X7 (by decide) rfl wf_228 dX7_drawn_1 ?_
  obtain ⟨c2, g1, h⟩ := hp_b1_e h
  refine x_ivi (As := []) (ok_X6_stands hG 15 H (tw_at15 hG) rH _ g1) cal_X6_stands (tw_0 (tw_at15 hG)) (tw_p (tw_at15 hG)) (C := RX6) (T := TX6) (N := 12) rfl rfl ins_X6_stands sel_X6_stands wm_439 (by decide) rfl rfl (Nat.le_of_ble_eq_true rfl) dX7_drawn_4 (fun z9 => ?_)
  have rc2 := z9
  refine x_ifne (tgt := 13) dX7_drawn_7 (by decide) rc2 (fun hc3 => ?_) (fun hc3 => ?_)
  · replace h := hp_if hc3 h
    refine x_iload_n dX7_drawn_13 1 rfl ?_
    refine x_iconst dX7_drawn_14 ?_
    refine x_bipush rfl dX7_drawn_15 ?_
    obtain ⟨c5, g4, h⟩ := hp_b1_e h
    refine x_isi (As := [.int (hp_I v1), .int (hp_I 0), .int (hp_I 99)]) (ok_X7_within hG v1 0 99 H r1 (hp_rc rfl) (hp_rc rfl) rH _ g4) cal_X7_within stt_X7_within wm_267 (by decide) rfl rfl (Nat.le_of_ble_eq_true rfl) dX7_drawn_17 (fun z9 => ?_)
    have rc5 := z9
    refine x_ifeq (tgt := 43) dX7_drawn_20 (by decide) rc5 (fun hc6 => ?_) (fun hc6 => ?_)
    · replace h := hp_it hc6 h
      refine x_ldc (x := (-1000001)) wc_270 rfl dX7_drawn_43 ?_
      cases h
      exact x_iret ⟨(hp_rc rfl), rH⟩ dX7_drawn_45
    · replace h := hp_if hc6 h
      refine x_iload_n dX7_drawn_23 2 rfl ?_
      refine x_iconst dX7_drawn_24 ?_
      refine x_ldcw (x := 999999) wc_774 rfl dX7_drawn_25 ?_
      obtain ⟨c8, g7, h⟩ := hp_b1_e h
      refine x_isi (As := [.int (hp_I v2), .int (hp_I 1), .int (hp_I 999999)]) (ok_X7_within hG v2 1 999999 H r2 (hp_rc rfl) (hp_rc rfl) rH _ g7) cal_X7_within stt_X7_within wm_267 (by decide) rfl rfl (Nat.le_of_ble_eq_true rfl) dX7_drawn_28 (fun z9 => ?_)
      have rc8 := z9
      refine x_ifeq (tgt := 43) dX7_drawn_31 (by decide) rc8 (fun hc9 => ?_) (fun hc9 => ?_)
      · replace h := hp_it hc9 h
        refine x_ldc (x := (-1000001)) wc_270 rfl dX7_drawn_43 ?_
        cases h
        exact x_iret ⟨(hp_rc rfl), rH⟩ dX7_drawn_45
      · replace h := hp_if hc9 h
        refine x_iload_n dX7_drawn_34 3 rfl ?_
        refine x_iconst dX7_drawn_35 ?_
        refine x_iconst dX7_drawn_36 ?_
        obtain ⟨c11, g10, h⟩ := hp_b1_e h
        refine x_isi (As := [.int (hp_I v3), .int (hp_I 0), .int (hp_I 1)]) (ok_X7_within hG v3 0 1 H r3 (hp_rc rfl) (hp_rc rfl) rH _ g10) cal_X7_within stt_X7_within wm_267 (by decide) rfl rfl (Nat.le_of_ble_eq_true rfl) dX7_drawn_37 (fun z9 => ?_)
        have rc11 := z9
        refine x_ifne (tgt := 46) dX7_drawn_40 (by decide) rc11 (fun hc12 => ?_) (fun hc12 => ?_)
        · replace h := hp_if hc12 h
          refine x_aload_n dX7_drawn_46 0 rfl ?_
          refine x_getr 6 (sc_0 hG) (by decide) (C := RX7) (T := TX7) (N := 11) rfl in_X7 (by decide) rfl wf_232 dX7_drawn_47 ?_
          refine x_aload_n dX7_drawn_50 0 rfl ?_
          refine x_getr 2 (sc_0 hG) (by decide) (C := RX7) (T := TX7) (N := 11) rfl in_X7 (by decide) rfl wf_228 dX7_drawn_51 ?_
          refine x_iload_n dX7_drawn_54 1 rfl ?_
          refine x_iload_n dX7_drawn_55 2 rfl ?_
          refine x_iload_n dX7_drawn_56 3 rfl ?_
          obtain ⟨c14, H15, g13, h⟩ := hp_b2_e h
          refine x_ivi (As := [.ref (hp_ad G 15), .int (hp_I v1), .int (hp_I v2), .int (hp_I v3)]) (ok_X3_weeks hG v1 v2 v3 H r1 r2 r3 rH _ g13) cal_X3_weeks (sc_210 hG) (by decide) (C := RX3) (T := TX3) (N := 6) rfl rfl ins_X3_weeks sel_X3_weeks wm_775 (by decide) rfl rfl (Nat.le_of_ble_eq_true rfl) dX7_drawn_57 (fun z9 => ?_)
          obtain ⟨rc14, rH15⟩ := z9
          cases h
          exact x_iret ⟨rc14, rH15⟩ dX7_drawn_60
        · replace h := hp_it hc12 h
          refine x_ldc (x := (-1000001)) wc_270 rfl dX7_drawn_43 ?_
          cases h
          exact x_iret ⟨(hp_rc rfl), rH⟩ dX7_drawn_45
  · replace h := hp_it hc3 h
    refine x_ldc (x := (-1000002)) wc_434 rfl dX7_drawn_10 ?_
    cases h
    exact x_iret ⟨(hp_rc rfl), rH⟩ dX7_drawn_12
set_option maxRecDepth 100000 in
theorem ok_X7_image {G : hp_G} (hG : hp_sh G = hp_shc) {l : Launch} (v1 : Int) (H : hp_H) (r1 : hp_r v1) (rH : hp_in H) (x : Int × hp_H) (h : f_X7_image v1 H = some x) : hp_M G l yX7_image cX7_image 2 (some .int) (hp_rm 2) [.ref (hp_ad G 0), .int (hp_I v1)] H (some (.int (hp_I x.1))) x.2 (hp_r x.1 ∧ hp_in x.2) := by
  obtain ⟨r, H'⟩ := x
  unfold f_X7_image at h
  refine hp_body "HeelPost" (by decide) rfl ⟨rfl, rfl⟩ (Nat.le_of_ble_eq_true rfl) ?_
  show hp_R G l cX7_image 2 (some .int) "HeelPost" (hp_rm 2) (some (.int (hp_I r))) H' (hp_r r ∧ hp_in H') 0 [(0, .ref (hp_ad G 0)), (1, .int (hp_I v1))] [] H
  refine x_iload_n dX7_image_0 1 rfl ?_
  refine x_iconst dX7_image_1 ?_
  refine x_iconst dX7_image_2 ?_
  obtain ⟨c2, g1, h⟩ := hp_b1_e h
  refine x_isi (As := [.int (hp_I v1), .int (hp_I 0), .int (hp_I 1)]) (ok_X7_within hG v1 0 1 H r1 (hp_rc rfl) (hp_rc rfl) rH _ g1) cal_X7_within stt_X7_within wm_267 (by decide) rfl rfl (Nat.le_of_ble_eq_true rfl) dX7_image_3 (fun z9 => ?_)
  have rc2 := z9
  refine x_ifne (tgt := 12) dX7_image_6 (by decide) rc2 (fun hc3 => ?_) (fun hc3 => ?_)
  · replace h := hp_if hc3 h
    refine x_aload_n dX7_image_12 0 rfl ?_
    refine x_getr 2 (sc_0 hG) (by decide) (C := RX7) (T := TX7) (N := 11) rfl in_X7 (by decide) rfl wf_228 dX7_image_13 ?_
    obtain ⟨c5, g4, h⟩ := hp_b1_e h
    refine x_ivi (As := []) (ok_X6_stands hG 15 H (tw_at15 hG) rH _ g4) cal_X6_stands (tw_0 (tw_at15 hG)) (tw_p (tw_at15 hG)) (C := RX6) (T := TX6) (N := 12) rfl rfl ins_X6_stands sel_X6_stands wm_439 (by decide) rfl rfl (Nat.le_of_ble_eq_true rfl) dX7_image_16 (fun z9 => ?_)
    have rc5 := z9
    refine x_ifne (tgt := 25) dX7_image_19 (by decide) rc5 (fun hc6 => ?_) (fun hc6 => ?_)
    · replace h := hp_if hc6 h
      refine x_aload_n dX7_image_25 0 rfl ?_
      refine x_getr 8 (sc_0 hG) (by decide) (C := RX7) (T := TX7) (N := 11) rfl in_X7 (by decide) rfl wf_234 dX7_image_26 ?_
      refine x_iload_n dX7_image_29 1 rfl ?_
      obtain ⟨b7, h⟩ := hp_ck_e h
      refine x_a3 2 rfl (sc_229 hG) (by decide) (by decide) b7 dX7_image_30 ?_
      refine x_aload_n dX7_image_31 0 rfl ?_
      refine x_getr 2 (sc_0 hG) (by decide) (C := RX7) (T := TX7) (N := 11) rfl in_X7 (by decide) rfl wf_228 dX7_image_32 ?_
      obtain ⟨H9, g8, h⟩ := hp_b1_e h
      refine x_ivv (As := [.ref (hp_ad G 15)]) (ok_X6_take hG (230 + 7 * v1) 15 H (tw_img hG b7) (tw_at15 hG) rH _ g8) cal_X6_take (tw_0 (tw_img hG b7)) (tw_p (tw_img hG b7)) (C := RX6) (T := TX6) (N := 12) rfl rfl ins_X6_take sel_X6_take wm_405 (by decide) rfl rfl (Nat.le_of_ble_eq_true rfl) dX7_image_35 (fun z9 => ?_)
      have rH9 := z9
      refine x_iconst dX7_image_38 ?_
      cases h
      exact x_iret ⟨(hp_rc rfl), rH9⟩ dX7_image_39
    · replace h := hp_it hc6 h
      refine x_ldc (x := (-1000002)) wc_434 rfl dX7_image_22 ?_
      cases h
      exact x_iret ⟨(hp_rc rfl), rH⟩ dX7_image_24
  · replace h := hp_it hc3 h
    refine x_ldc (x := (-1000001)) wc_270 rfl dX7_image_9 ?_
    cases h
    exact x_iret ⟨(hp_rc rfl), rH⟩ dX7_image_11
set_option maxRecDepth 100000 in
theorem ok_X7_restore {G : hp_G} (hG : hp_sh G = hp_shc) {l : Launch} (v1 : Int) (H : hp_H) (r1 : hp_r v1) (rH : hp_in H) (x : Int × hp_H) (h : f_X7_restore v1 H = some x) : hp_M G l yX7_restore cX7_restore 2 (some .int) (hp_rm 2) [.ref (hp_ad G 0), .int (hp_I v1)] H (some (.int (hp_I x.1))) x.2 (hp_r x.1 ∧ hp_in x.2) := by
  obtain ⟨r, H'⟩ := x
  unfold f_X7_restore at h
  refine hp_body "HeelPost" (by decide) rfl ⟨rfl, rfl⟩ (Nat.le_of_ble_eq_true rfl) ?_
  show hp_R G l cX7_restore 2 (some .int) "HeelPost" (hp_rm 2) (some (.int (hp_I r))) H' (hp_r r ∧ hp_in H') 0 [(0, .ref (hp_ad G 0)), (1, .int (hp_I v1))] [] H
  refine x_iload_n dX7_restore_0 1 rfl ?_
  refine x_iconst dX7_restore_1 ?_
  refine x_iconst dX7_restore_2 ?_
  obtain ⟨c2, g1, h⟩ := hp_b1_e h
  refine x_isi (As := [.int (hp_I v1), .int (hp_I 0), .int (hp_I 1)]) (ok_X7_within hG v1 0 1 H r1 (hp_rc rfl) (hp_rc rfl) rH _ g1) cal_X7_within stt_X7_within wm_267 (by decide) rfl rfl (Nat.le_of_ble_eq_true rfl) dX7_restore_3 (fun z9 => ?_)
  have rc2 := z9
  refine x_ifne (tgt := 12) dX7_restore_6 (by decide) rc2 (fun hc3 => ?_) (fun hc3 => ?_)
  · replace h := hp_if hc3 h
    refine x_aload_n dX7_restore_12 0 rfl ?_
    refine x_getr 8 (sc_0 hG) (by decide) (C := RX7) (T := TX7) (N := 11) rfl in_X7 (by decide) rfl wf_234 dX7_restore_13 ?_
    refine x_iload_n dX7_restore_16 1 rfl ?_
    obtain ⟨b4, h⟩ := hp_ck_e h
    refine x_a3 2 rfl (sc_229 hG) (by decide) (by decide) b4 dX7_restore_17 ?_
    obtain ⟨c6, g5, h⟩ := hp_b1_e h
    refine x_ivi (As := []) (ok_X6_stands hG (230 + 7 * v1) H (tw_img hG b4) rH _ g5) cal_X6_stands (tw_0 (tw_img hG b4)) (tw_p (tw_img hG b4)) (C := RX6) (T := TX6) (N := 12) rfl rfl ins_X6_stands sel_X6_stands wm_439 (by decide) rfl rfl (Nat.le_of_ble_eq_true rfl) dX7_restore_18 (fun z9 => ?_)
    have rc6 := z9
    refine x_ifne (tgt := 27) dX7_restore_21 (by decide) rc6 (fun hc7 => ?_) (fun hc7 => ?_)
    · replace h := hp_if hc7 h
      refine x_aload_n dX7_restore_27 0 rfl ?_
      refine x_getr 2 (sc_0 hG) (by decide) (C := RX7) (T := TX7) (N := 11) rfl in_X7 (by decide) rfl wf_228 dX7_restore_28 ?_
      refine x_aload_n dX7_restore_31 0 rfl ?_
      refine x_getr 8 (sc_0 hG) (by decide) (C := RX7) (T := TX7) (N := 11) rfl in_X7 (by decide) rfl wf_234 dX7_restore_32 ?_
      refine x_iload_n dX7_restore_35 1 rfl ?_
      refine x_a3 2 rfl (sc_229 hG) (by decide) (by decide) b4 dX7_restore_36 ?_
      obtain ⟨H9, g8, h⟩ := hp_b1_e h
      refine x_ivv (As := [.ref (hp_ad G (230 + 7 * v1))]) (ok_X6_take hG 15 (230 + 7 * v1) H (tw_at15 hG) (tw_img hG b4) rH _ g8) cal_X6_take (tw_0 (tw_at15 hG)) (tw_p (tw_at15 hG)) (C := RX6) (T := TX6) (N := 12) rfl rfl ins_X6_take sel_X6_take wm_405 (by decide) rfl rfl (Nat.le_of_ble_eq_true rfl) dX7_restore_37 (fun z9 => ?_)
      have rH9 := z9
      refine x_aload_n dX7_restore_40 0 rfl ?_
      refine x_getr 4 (sc_0 hG) (by decide) (C := RX7) (T := TX7) (N := 11) rfl in_X7 (by decide) rfl wf_230 dX7_restore_41 ?_
      obtain ⟨H11, g10, h⟩ := hp_b1_e h
      refine x_ivv (As := []) (ok_X0_forget hG H9 rH9 _ g10) cal_X0_forget (sc_29 hG) (by decide) (C := RX0) (T := TX0) (N := 3) rfl rfl ins_X0_forget sel_X0_forget wm_413 (by decide) rfl rfl (Nat.le_of_ble_eq_true rfl) dX7_restore_44 (fun z9 => ?_)
      have rH11 := z9
      refine x_iconst dX7_restore_47 ?_
      cases h
      exact x_iret ⟨(hp_rc rfl), rH11⟩ dX7_restore_48
    · replace h := hp_it hc7 h
      refine x_ldc (x := (-1000002)) wc_434 rfl dX7_restore_24 ?_
      cases h
      exact x_iret ⟨(hp_rc rfl), rH⟩ dX7_restore_26
  · replace h := hp_it hc3 h
    refine x_ldc (x := (-1000001)) wc_270 rfl dX7_restore_9 ?_
    cases h
    exact x_iret ⟨(hp_rc rfl), rH⟩ dX7_restore_11
set_option maxRecDepth 100000 in
theorem ok_X7_kind {G : hp_G} (hG : hp_sh G = hp_shc) {l : Launch} (v1 : Int) (H : hp_H) (r1 : hp_r v1) (rH : hp_in H) (r : Int) (h : f_X7_kind v1 H = some r) : hp_M G l yX7_kind cX7_kind 2 (some .int) (hp_rm 1) [.ref (hp_ad G 0), .int (hp_I v1)] H (some (.int (hp_I r))) H (hp_r r) := by
  unfold f_X7_kind at h
  refine hp_body "HeelPost" (by decide) rfl ⟨rfl, rfl⟩ (Nat.le_of_ble_eq_true rfl) ?_
  show hp_R G l cX7_kind 2 (some .int) "HeelPost" (hp_rm 1) (some (.int (hp_I r))) H (hp_r r) 0 [(0, .ref (hp_ad G 0)), (1, .int (hp_I v1))] [] H
  refine x_aload_n dX7_kind_0 0 rfl ?_
  refine x_iload_n dX7_kind_1 1 rfl ?_
  obtain ⟨c2, g1, h⟩ := hp_b1_e h
  refine x_ivi (As := [.int (hp_I v1)]) (ok_X7_isPerson hG v1 H r1 rH _ g1) cal_X7_isPerson (sc_0 hG) (by decide) (C := RX7) (T := TX7) (N := 11) rfl rfl ins_X7_isPerson sel_X7_isPerson wm_530 (by decide) rfl rfl (Nat.le_of_ble_eq_true rfl) dX7_kind_2 (fun z9 => ?_)
  have rc2 := z9
  refine x_ifeq (tgt := 20) dX7_kind_5 (by decide) rc2 (fun hc3 => ?_) (fun hc3 => ?_)
  · replace h := hp_it hc3 h
    refine x_ldc (x := (-1000001)) wc_270 rfl dX7_kind_20 ?_
    cases h
    exact x_iret (hp_rc rfl) dX7_kind_22
  · replace h := hp_if hc3 h
    refine x_aload_n dX7_kind_8 0 rfl ?_
    refine x_getr 2 (sc_0 hG) (by decide) (C := RX7) (T := TX7) (N := 11) rfl in_X7 (by decide) rfl wf_228 dX7_kind_9 ?_
    refine x_getr (r := 16) 6 (tw_0 (tw_at15 hG)) (tw_p (tw_at15 hG)) (C := RX6) (T := TX6) (N := 12) rfl in_X6 (by decide) rfl wf_93 dX7_kind_12 ?_
    refine x_iload_n dX7_kind_15 1 rfl ?_
    obtain ⟨b4, h⟩ := hp_ck_e h
    refine x_ia 6 rfl (sc_16 hG) (by decide) (Nat.le_of_ble_eq_true rfl) b4 dX7_kind_16 ?_
    refine x_goto (tgt := 22) dX7_kind_17 (by decide) ?_
    cases h
    exact x_iret (rH _ _) dX7_kind_22
set_option maxRecDepth 100000 in
theorem ok_X7_as {G : hp_G} (hG : hp_sh G = hp_shc) {l : Launch} (v1 : Int) (v2 : Int) (H : hp_H) (r1 : hp_r v1) (r2 : hp_r v2) (rH : hp_in H) (x : Int × hp_H) (h : f_X7_as v1 v2 H = some x) : hp_M G l yX7_as cX7_as 3 (some .int) (hp_rm 1) [.ref (hp_ad G 0), .int (hp_I v1), .int (hp_I v2)] H (some (.int (hp_I x.1))) x.2 (hp_r x.1 ∧ hp_in x.2) := by
  obtain ⟨r, H'⟩ := x
  unfold f_X7_as at h
  refine hp_body "HeelPost" (by decide) rfl ⟨rfl, rfl⟩ (Nat.le_of_ble_eq_true rfl) ?_
  show hp_R G l cX7_as 3 (some .int) "HeelPost" (hp_rm 1) (some (.int (hp_I r))) H' (hp_r r ∧ hp_in H') 0 [(0, .ref (hp_ad G 0)), (1, .int (hp_I v1)), (2, .int (hp_I v2))] [] H
  refine x_aload_n dX7_as_0 0 rfl ?_
  refine x_iload_n dX7_as_1 1 rfl ?_
  obtain ⟨c2, g1, h⟩ := hp_b1_e h
  refine x_ivi (As := [.int (hp_I v1)]) (ok_X7_isPerson hG v1 H r1 rH _ g1) cal_X7_isPerson (sc_0 hG) (by decide) (C := RX7) (T := TX7) (N := 11) rfl rfl ins_X7_isPerson sel_X7_isPerson wm_530 (by decide) rfl rfl (Nat.le_of_ble_eq_true rfl) dX7_as_2 (fun z9 => ?_)
  have rc2 := z9
  refine x_ifeq (tgt := 17) dX7_as_5 (by decide) rc2 (fun hc3 => ?_) (fun hc3 => ?_)
  · replace h := hp_it hc3 h
    refine x_ldc (x := (-1000001)) wc_270 rfl dX7_as_17 ?_
    cases h
    exact x_iret ⟨(hp_rc rfl), rH⟩ dX7_as_19
  · replace h := hp_if hc3 h
    refine x_iload_n dX7_as_8 2 rfl ?_
    refine x_iconst dX7_as_9 ?_
    refine x_iconst dX7_as_10 ?_
    obtain ⟨c5, g4, h⟩ := hp_b1_e h
    refine x_isi (As := [.int (hp_I v2), .int (hp_I 0), .int (hp_I 5)]) (ok_X7_within hG v2 0 5 H r2 (hp_rc rfl) (hp_rc rfl) rH _ g4) cal_X7_within stt_X7_within wm_267 (by decide) rfl rfl (Nat.le_of_ble_eq_true rfl) dX7_as_11 (fun z9 => ?_)
    have rc5 := z9
    refine x_ifne (tgt := 20) dX7_as_14 (by decide) rc5 (fun hc6 => ?_) (fun hc6 => ?_)
    · replace h := hp_if hc6 h
      refine x_aload_n dX7_as_20 0 rfl ?_
      refine x_getr 2 (sc_0 hG) (by decide) (C := RX7) (T := TX7) (N := 11) rfl in_X7 (by decide) rfl wf_228 dX7_as_21 ?_
      refine x_getr (r := 16) 6 (tw_0 (tw_at15 hG)) (tw_p (tw_at15 hG)) (C := RX6) (T := TX6) (N := 12) rfl in_X6 (by decide) rfl wf_93 dX7_as_24 ?_
      refine x_iload_n dX7_as_27 1 rfl ?_
      obtain ⟨b7, h⟩ := hp_ck_e h
      refine x_ia 6 rfl (sc_16 hG) (by decide) (Nat.le_of_ble_eq_true rfl) b7 dX7_as_28 ?_
      refine x_iload_n dX7_as_29 2 rfl ?_
      obtain ⟨c9, g8, h⟩ := hp_b1_e h
      refine x_isi (As := [.int (hp_I (H 16 v1)), .int (hp_I v2)]) (ok_X1_isOne hG (H 16 v1) v2 H (rH _ _) r2 rH _ g8) cal_X1_isOne stt_X1_isOne wm_800 (by decide) rfl rfl (Nat.le_of_ble_eq_true rfl) dX7_as_30 (fun z9 => ?_)
      have rc9 := z9
      refine x_ifeq (tgt := 44) dX7_as_33 (by decide) rc9 (fun hc10 => ?_) (fun hc10 => ?_)
      · replace h := hp_it hc10 h
        refine x_aload_n dX7_as_44 0 rfl ?_
        refine x_iconst dX7_as_45 ?_
        obtain ⟨c12, H13, g11, h⟩ := hp_b2_e h
        refine x_ivi (As := [.int (hp_I 3)]) (ok_X7_found hG 3 H (hp_rc rfl) rH _ g11) cal_X7_found (sc_0 hG) (by decide) (C := RX7) (T := TX7) (N := 11) rfl rfl ins_X7_found sel_X7_found wm_271 (by decide) rfl rfl (Nat.le_of_ble_eq_true rfl) dX7_as_46 (fun z9 => ?_)
        obtain ⟨rc12, rH13⟩ := z9
        cases h
        exact x_iret ⟨rc12, rH13⟩ dX7_as_49
      · replace h := hp_if hc10 h
        refine x_aload_n dX7_as_36 0 rfl ?_
        refine x_iload_n dX7_as_37 1 rfl ?_
        obtain ⟨c15, H16, g14, h⟩ := hp_b2_e h
        refine x_ivi (As := [.int (hp_I v1)]) (ok_X7_unfound hG v1 H r1 rH _ g14) cal_X7_unfound (sc_0 hG) (by decide) (C := RX7) (T := TX7) (N := 11) rfl rfl ins_X7_unfound sel_X7_unfound wm_280 (by decide) rfl rfl (Nat.le_of_ble_eq_true rfl) dX7_as_38 (fun z9 => ?_)
        obtain ⟨rc15, rH16⟩ := z9
        refine x_goto (tgt := 49) dX7_as_41 (by decide) ?_
        cases h
        exact x_iret ⟨rc15, rH16⟩ dX7_as_49
    · replace h := hp_it hc6 h
      refine x_ldc (x := (-1000001)) wc_270 rfl dX7_as_17 ?_
      cases h
      exact x_iret ⟨(hp_rc rfl), rH⟩ dX7_as_19
set_option maxRecDepth 100000 in
theorem ok_X7_ask {G : hp_G} (hG : hp_sh G = hp_shc) {l : Launch} (v1 : Int) (v2 : Int) (H : hp_H) (r1 : hp_r v1) (r2 : hp_r v2) (rH : hp_in H) (x : Int × hp_H) (h : f_X7_ask v1 v2 H = some x) : hp_M G l yX7_ask cX7_ask 3 (some .int) (hp_rm 33) [.ref (hp_ad G 0), .int (hp_I v1), .int (hp_I v2)] H (some (.int (hp_I x.1))) x.2 (hp_r x.1 ∧ hp_in x.2) := by
  obtain ⟨r, H'⟩ := x
  unfold f_X7_ask at h
  refine hp_body "HeelPost" (by decide) rfl ⟨rfl, rfl⟩ (Nat.le_of_ble_eq_true rfl) ?_
  show hp_R G l cX7_ask 3 (some .int) "HeelPost" (hp_rm 33) (some (.int (hp_I r))) H' (hp_r r ∧ hp_in H') 0 [(0, .ref (hp_ad G 0)), (1, .int (hp_I v1)), (2, .int (hp_I v2))] [] H
  refine x_aload_n dX7_ask_0 0 rfl ?_
  refine x_iload_n dX7_ask_1 1 rfl ?_
  obtain ⟨c2, g1, h⟩ := hp_b1_e h
  refine x_ivi (As := [.int (hp_I v1)]) (ok_X7_isPerson hG v1 H r1 rH _ g1) cal_X7_isPerson (sc_0 hG) (by decide) (C := RX7) (T := TX7) (N := 11) rfl rfl ins_X7_isPerson sel_X7_isPerson wm_530 (by decide) rfl rfl (Nat.le_of_ble_eq_true rfl) dX7_ask_2 (fun z9 => ?_)
  have rc2 := z9
  refine x_ifeq (tgt := 17) dX7_ask_5 (by decide) rc2 (fun hc3 => ?_) (fun hc3 => ?_)
  · replace h := hp_it hc3 h
    refine x_ldc (x := (-1000001)) wc_270 rfl dX7_ask_17 ?_
    cases h
    exact x_iret ⟨(hp_rc rfl), rH⟩ dX7_ask_19
  · replace h := hp_if hc3 h
    refine x_iload_n dX7_ask_8 2 rfl ?_
    refine x_iconst dX7_ask_9 ?_
    refine x_iconst dX7_ask_10 ?_
    obtain ⟨c5, g4, h⟩ := hp_b1_e h
    refine x_isi (As := [.int (hp_I v2), .int (hp_I 0), .int (hp_I 1)]) (ok_X7_within hG v2 0 1 H r2 (hp_rc rfl) (hp_rc rfl) rH _ g4) cal_X7_within stt_X7_within wm_267 (by decide) rfl rfl (Nat.le_of_ble_eq_true rfl) dX7_ask_11 (fun z9 => ?_)
    have rc5 := z9
    refine x_ifne (tgt := 20) dX7_ask_14 (by decide) rc5 (fun hc6 => ?_) (fun hc6 => ?_)
    · replace h := hp_if hc6 h
      refine x_aload_n dX7_ask_20 0 rfl ?_
      refine x_getr 7 (sc_0 hG) (by decide) (C := RX7) (T := TX7) (N := 11) rfl in_X7 (by decide) rfl wf_233 dX7_ask_21 ?_
      refine x_aload_n dX7_ask_24 0 rfl ?_
      refine x_getr 2 (sc_0 hG) (by decide) (C := RX7) (T := TX7) (N := 11) rfl in_X7 (by decide) rfl wf_228 dX7_ask_25 ?_
      refine x_iload_n dX7_ask_28 1 rfl ?_
      refine x_iload_n dX7_ask_29 2 rfl ?_
      obtain ⟨c8, H9, g7, h⟩ := hp_b2_e h
      refine x_ivi (As := [.ref (hp_ad G 15), .int (hp_I v1), .int (hp_I v2)]) (ok_X1_put hG v1 v2 H r1 r2 rH _ g7) cal_X1_put (sc_227 hG) (by decide) (C := RX1) (T := TX1) (N := 2) rfl rfl ins_X1_put sel_X1_put wm_809 (by decide) rfl rfl (Nat.le_of_ble_eq_true rfl) dX7_ask_30 (fun z9 => ?_)
      obtain ⟨rc8, rH9⟩ := z9
      cases h
      exact x_iret ⟨rc8, rH9⟩ dX7_ask_33
    · replace h := hp_it hc6 h
      refine x_ldc (x := (-1000001)) wc_270 rfl dX7_ask_17 ?_
      cases h
      exact x_iret ⟨(hp_rc rfl), rH⟩ dX7_ask_19
set_option maxRecDepth 100000 in
theorem ok_X7_trace {G : hp_G} (hG : hp_sh G = hp_shc) {l : Launch} (v1 : Int) (H : hp_H) (r1 : hp_r v1) (rH : hp_in H) (r : Int) (h : f_X7_trace v1 H = some r) : hp_M G l yX7_trace cX7_trace 2 (some .int) (hp_rm 1) [.ref (hp_ad G 0), .int (hp_I v1)] H (some (.int (hp_I r))) H (hp_r r) := by
  unfold f_X7_trace at h
  refine hp_body "HeelPost" (by decide) rfl ⟨rfl, rfl⟩ (Nat.le_of_ble_eq_true rfl) ?_
  show hp_R G l cX7_trace 2 (some .int) "HeelPost" (hp_rm 1) (some (.int (hp_I r))) H (hp_r r) 0 [(0, .ref (hp_ad G 0)), (1, .int (hp_I v1))] [] H
  refine x_aload_n dX7_trace_0 0 rfl ?_
  refine x_getr 7 (sc_0 hG) (by decide) (C := RX7) (T := TX7) (N := 11) rfl in_X7 (by decide) rfl wf_233 dX7_trace_1 ?_
  refine x_iload_n dX7_trace_4 1 rfl ?_
  obtain ⟨c2, g1, h⟩ := hp_b1_e h
  refine x_ivi (As := [.int (hp_I v1)]) (ok_X1_traced hG v1 H r1 rH _ g1) cal_X1_traced (sc_227 hG) (by decide) (C := RX1) (T := TX1) (N := 2) rfl rfl ins_X1_traced sel_X1_traced wm_834 (by decide) rfl rfl (Nat.le_of_ble_eq_true rfl) dX7_trace_5 (fun z9 => ?_)
  have rc2 := z9
  cases h
  exact x_iret rc2 dX7_trace_8
set_option maxRecDepth 100000 in
theorem ok_X7_count {G : hp_G} (hG : hp_sh G = hp_shc) {l : Launch} (v1 : Int) (H : hp_H) (r1 : hp_r v1) (rH : hp_in H) (r : Int) (h : f_X7_count v1 H = some r) : hp_M G l yX7_count cX7_count 2 (some .int) (hp_rm 2) [.ref (hp_ad G 0), .int (hp_I v1)] H (some (.int (hp_I r))) H (hp_r r) := by
  unfold f_X7_count at h
  refine hp_body "HeelPost" (by decide) rfl ⟨rfl, rfl⟩ (Nat.le_of_ble_eq_true rfl) ?_
  show hp_R G l cX7_count 2 (some .int) "HeelPost" (hp_rm 2) (some (.int (hp_I r))) H (hp_r r) 0 [(0, .ref (hp_ad G 0)), (1, .int (hp_I v1))] [] H
  refine x_iload_n dX7_count_0 1 rfl ?_
  by_cases hc1 : v1 = 0
  · replace h := hp_it hc1 h
    refine x_tabin (tgt := 48) 0 dX7_count_1 r1 hc1 (by decide) (by decide) rfl (by decide) ?_
    refine x_aload_n dX7_count_48 0 rfl ?_
    refine x_getr 0 (sc_0 hG) (by decide) (C := RX7) (T := TX7) (N := 11) rfl in_X7 (by decide) rfl wf_226 dX7_count_49 ?_
    obtain ⟨c3, g2, h⟩ := hp_b1_e h
    refine x_ivi (As := []) (ok_X4_howMany hG H rH _ g2) cal_X4_howMany (sc_1 hG) (by decide) (C := RX4) (T := TX4) (N := 3) rfl rfl ins_X4_howMany sel_X4_howMany wm_843 (by decide) rfl rfl (Nat.le_of_ble_eq_true rfl) dX7_count_52 (fun z9 => ?_)
    have rc3 := z9
    cases h
    exact x_iret rc3 dX7_count_55
  replace h := hp_if hc1 h
  by_cases hc4 : v1 = 1
  · replace h := hp_it hc4 h
    refine x_tabin (tgt := 56) 1 dX7_count_1 r1 hc4 (by decide) (by decide) rfl (by decide) ?_
    refine x_aload_n dX7_count_56 0 rfl ?_
    refine x_getr 2 (sc_0 hG) (by decide) (C := RX7) (T := TX7) (N := 11) rfl in_X7 (by decide) rfl wf_228 dX7_count_57 ?_
    refine x_gi 0 0 rfl (tw_0 (tw_at15 hG)) (tw_p (tw_at15 hG)) (C := RX6) (T := TX6) (N := 12) rfl in_X6 (by decide) rfl wf_71 dX7_count_60 ?_
    cases h
    exact x_iret (rH _ _) dX7_count_63
  replace h := hp_if hc4 h
  by_cases hc5 : v1 = 2
  · replace h := hp_it hc5 h
    refine x_tabin (tgt := 64) 2 dX7_count_1 r1 hc5 (by decide) (by decide) rfl (by decide) ?_
    refine x_aload_n dX7_count_64 0 rfl ?_
    refine x_getr 2 (sc_0 hG) (by decide) (C := RX7) (T := TX7) (N := 11) rfl in_X7 (by decide) rfl wf_228 dX7_count_65 ?_
    refine x_gi 2 2 rfl (tw_0 (tw_at15 hG)) (tw_p (tw_at15 hG)) (C := RX6) (T := TX6) (N := 12) rfl in_X6 (by decide) rfl wf_78 dX7_count_68 ?_
    cases h
    exact x_iret (rH _ _) dX7_count_71
  replace h := hp_if hc5 h
  by_cases hc6 : v1 = 3
  · replace h := hp_it hc6 h
    refine x_tabin (tgt := 72) 3 dX7_count_1 r1 hc6 (by decide) (by decide) rfl (by decide) ?_
    refine x_aload_n dX7_count_72 0 rfl ?_
    refine x_getr 2 (sc_0 hG) (by decide) (C := RX7) (T := TX7) (N := 11) rfl in_X7 (by decide) rfl wf_228 dX7_count_73 ?_
    refine x_gi 3 3 rfl (tw_0 (tw_at15 hG)) (tw_p (tw_at15 hG)) (C := RX6) (T := TX6) (N := 12) rfl in_X6 (by decide) rfl wf_82 dX7_count_76 ?_
    cases h
    exact x_iret (rH _ _) dX7_count_79
  replace h := hp_if hc6 h
  by_cases hc7 : v1 = 4
  · replace h := hp_it hc7 h
    refine x_tabin (tgt := 80) 4 dX7_count_1 r1 hc7 (by decide) (by decide) rfl (by decide) ?_
    refine x_aload_n dX7_count_80 0 rfl ?_
    refine x_getr 2 (sc_0 hG) (by decide) (C := RX7) (T := TX7) (N := 11) rfl in_X7 (by decide) rfl wf_228 dX7_count_81 ?_
    refine x_gi 4 4 rfl (tw_0 (tw_at15 hG)) (tw_p (tw_at15 hG)) (C := RX6) (T := TX6) (N := 12) rfl in_X6 (by decide) rfl wf_84 dX7_count_84 ?_
    cases h
    exact x_iret (rH _ _) dX7_count_87
  replace h := hp_if hc7 h
  by_cases hc8 : v1 = 5
  · replace h := hp_it hc8 h
    refine x_tabin (tgt := 88) 5 dX7_count_1 r1 hc8 (by decide) (by decide) rfl (by decide) ?_
    refine x_aload_n dX7_count_88 0 rfl ?_
    refine x_getr 2 (sc_0 hG) (by decide) (C := RX7) (T := TX7) (N := 11) rfl in_X7 (by decide) rfl wf_228 dX7_count_89 ?_
    refine x_gi 5 5 rfl (tw_0 (tw_at15 hG)) (tw_p (tw_at15 hG)) (C := RX6) (T := TX6) (N := 12) rfl in_X6 (by decide) rfl wf_88 dX7_count_92 ?_
    cases h
    exact x_iret (rH _ _) dX7_count_95
  replace h := hp_if hc8 h
  by_cases hc9 : v1 = 6
  · replace h := hp_it hc9 h
    refine x_tabin (tgt := 96) 6 dX7_count_1 r1 hc9 (by decide) (by decide) rfl (by decide) ?_
    refine x_aload_n dX7_count_96 0 rfl ?_
    refine x_getr 4 (sc_0 hG) (by decide) (C := RX7) (T := TX7) (N := 11) rfl in_X7 (by decide) rfl wf_230 dX7_count_97 ?_
    obtain ⟨c11, g10, h⟩ := hp_b1_e h
    refine x_ivi (As := []) (ok_X0_size hG H rH _ g10) cal_X0_size (sc_29 hG) (by decide) (C := RX0) (T := TX0) (N := 3) rfl rfl ins_X0_size sel_X0_size wm_430 (by decide) rfl rfl (Nat.le_of_ble_eq_true rfl) dX7_count_100 (fun z9 => ?_)
    have rc11 := z9
    cases h
    exact x_iret rc11 dX7_count_103
  replace h := hp_if hc9 h
  by_cases hc12 : v1 = 7
  · replace h := hp_it hc12 h
    refine x_tabin (tgt := 104) 7 dX7_count_1 r1 hc12 (by decide) (by decide) rfl (by decide) ?_
    refine x_aload_n dX7_count_104 0 rfl ?_
    refine x_getr 1 (sc_0 hG) (by decide) (C := RX7) (T := TX7) (N := 11) rfl in_X7 (by decide) rfl wf_227 dX7_count_105 ?_
    obtain ⟨c14, g13, h⟩ := hp_b1_e h
    refine x_ivi (As := []) (ok_X5_length hG H rH _ g13) cal_X5_length (sc_13 hG) (by decide) (C := RX5) (T := TX5) (N := 5) rfl rfl ins_X5_length sel_X5_length wm_344 (by decide) rfl rfl (Nat.le_of_ble_eq_true rfl) dX7_count_108 (fun z9 => ?_)
    have rc14 := z9
    cases h
    exact x_iret rc14 dX7_count_111
  replace h := hp_if hc12 h
  have kd : hp_R G l cX7_count 2 (some .int) "HeelPost" (hp_rm 2) (some (.int (hp_I r))) H (hp_r r) 112 [(0, .ref (hp_ad G 0)), (1, .int (hp_I v1))] [] H := by
    refine x_ldc (x := (-1000001)) wc_270 rfl dX7_count_112 ?_
    cases h
    exact x_iret (hp_rc rfl) dX7_count_114
  exact x_tabout (tgt := 112) dX7_count_1 r1 (by omega) (by decide) kd
set_option maxRecDepth 100000 in
theorem ok_X7_status {G : hp_G} (hG : hp_sh G = hp_shc) {l : Launch}  (H : hp_H) (rH : hp_in H) (r : Int) (h : f_X7_status  H = some r) : hp_M G l yX7_status cX7_status 1 (some .int) (hp_rm 0) [.ref (hp_ad G 0)] H (some (.int (hp_I r))) H (hp_r r) := by
  unfold f_X7_status at h
  refine hp_body "HeelPost" (by decide) rfl ⟨rfl, rfl⟩ (Nat.le_of_ble_eq_true rfl) ?_
  show hp_R G l cX7_status 1 (some .int) "HeelPost" (hp_rm 0) (some (.int (hp_I r))) H (hp_r r) 0 [(0, .ref (hp_ad G 0))] [] H
  refine x_aload_n dX7_status_0 0 rfl ?_
  refine x_gi 10 10 rfl (sc_0 hG) (by decide) (C := RX7) (T := TX7) (N := 11) rfl in_X7 (by decide) rfl wf_236 dX7_status_1 ?_
  cases h
  exact x_iret (rH _ _) dX7_status_4
