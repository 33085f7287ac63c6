/-! the bytecode does what the functions say: made by program (wip/whole/gen.py) -/
set_option maxRecDepth 100000 in
theorem ok_X3_prepare {G : hp_G} (hG : hp_sh G = hp_shc) {l : Launch} (v2 : Int) (H : hp_H) (r2 : hp_r v2) (rH : hp_in H) (H' : hp_H) (h : f_X3_prepare v2 H = some H') : hp_M G l yX3_prepare cX3_prepare 3 none (hp_rm 4) [.ref (hp_ad G 210), .ref (hp_ad G 15), .int (hp_I v2)] H none H' (hp_in H') := by
  unfold f_X3_prepare at h
  refine hp_body "HeelPost$Foretold" (by decide) rfl ⟨rfl, rfl⟩ (Nat.le_of_ble_eq_true rfl) ?_
  show hp_R G l cX3_prepare 3 none "HeelPost$Foretold" (hp_rm 4) none H' (hp_in H') 0 [(0, .ref (hp_ad G 210)), (1, .ref (hp_ad G 15)), (2, .int (hp_I v2))] [] H
  refine x_aload_n dX3_prepare_0 0 rfl ?_
  refine x_getr 1 (sc_210 hG) (by decide) (C := RX3) (T := TX3) (N := 6) rfl in_X3 (by decide) rfl wf_195 dX3_prepare_1 ?_
  refine x_aload_n dX3_prepare_4 1 rfl ?_
  obtain ⟨H2, g1, h⟩ := hp_b1_e h
  refine x_ivv (As := [.ref (hp_ad G 15)]) (ok_X6_take hG 211 15 H (tw_at211 hG) (tw_at15 hG) rH _ g1) cal_X6_take (tw_0 (tw_at211 hG)) (tw_p (tw_at211 hG)) (C := RX6) (T := TX6) (N := 12) rfl rfl ins_X6_take sel_X6_take wm_564 (by decide) rfl rfl (Nat.le_of_ble_eq_true rfl) dX3_prepare_5 (fun z9 => ?_)
  have rH2 := z9
  refine x_aload_n dX3_prepare_8 0 rfl ?_
  refine x_getr 0 (sc_210 hG) (by decide) (C := RX3) (T := TX3) (N := 6) rfl in_X3 (by decide) rfl wf_194 dX3_prepare_9 ?_
  refine x_aload_n dX3_prepare_12 1 rfl ?_
  refine x_iload_n dX3_prepare_13 2 rfl ?_
  obtain ⟨H4, g3, h⟩ := hp_b1_e h
  refine x_ivv (As := [.ref (hp_ad G 15), .int (hp_I v2)]) (ok_X2_foresee hG 15 v2 H2 (tw_at15 hG) r2 rH2 _ g3) cal_X2_foresee (sc_199 hG) (by decide) (C := RX2) (T := TX2) (N := 8) rfl rfl ins_X2_foresee sel_X2_foresee wm_565 (by decide) rfl rfl (Nat.le_of_ble_eq_true rfl) dX3_prepare_14 (fun z9 => ?_)
  have rH4 := z9
  cases h
  exact x_vret rH4 dX3_prepare_17
set_option maxRecDepth 100000 in
theorem ok_X3_goUntilThere_2 {G : hp_G} (hG : hp_sh G = hp_shc) {l : Launch} {r : Int} {H' : hp_H} : ∀ (n : Nat) (v1 : Int) (v2 : Int) (v3 : Int) (H : hp_H), hp_r v1 → hp_r v2 → hp_r v3 → hp_in H → f_X3_goUntilThere_2 n v1 v2 v3 H = some (r, H') → hp_R G l cX3_goUntilThere 4 (some .int) "HeelPost$Foretold" (hp_rm 3) (some (.int (hp_I r))) H' (hp_r r ∧ hp_in H') 2 [(0, .ref (hp_ad G 210)), (1, .int (hp_I v1)), (2, .int (hp_I v2)), (3, .int (hp_I v3))] [] H := by
  intro n
  induction n with
  | zero =>
    intro v1 v2 v3 H r1 r2 r3 rH h
    exact hp_no h
  | succ n ih =>
    intro v1 v2 v3 H r1 r2 r3 rH h
    unfold f_X3_goUntilThere_2 at h
    refine x_iload_n dX3_goUntilThere_2 3 rfl ?_
    refine x_iload_n dX3_goUntilThere_3 2 rfl ?_
    refine x_icgt (tgt := 42) dX3_goUntilThere_4 (by decide) r3 r2 (fun hc1 => ?_) (fun hc1 => ?_)
    · replace h := hp_it hc1 h
      refine x_ldc (x := (-1000000)) wc_605 rfl dX3_goUntilThere_42 ?_
      cases h
      exact x_iret ⟨(hp_rc rfl), rH⟩ dX3_goUntilThere_44
    · replace h := hp_if hc1 h
      refine x_aload_n dX3_goUntilThere_7 0 rfl ?_
      refine x_getr 1 (sc_210 hG) (by decide) (C := RX3) (T := TX3) (N := 6) rfl in_X3 (by decide) rfl wf_195 dX3_goUntilThere_8 ?_
      refine x_iload_n dX3_goUntilThere_11 1 rfl ?_
      obtain ⟨c3, g2, h⟩ := hp_b1_e h
      refine x_ivi (As := [.int (hp_I v1)]) (ok_X6_isThere hG 211 v1 H (tw_at211 hG) r1 rH _ g2) cal_X6_isThere (tw_0 (tw_at211 hG)) (tw_p (tw_at211 hG)) (C := RX6) (T := TX6) (N := 12) rfl rfl ins_X6_isThere sel_X6_isThere wm_604 (by decide) rfl rfl (Nat.le_of_ble_eq_true rfl) dX3_goUntilThere_12 (fun z9 => ?_)
      have rc3 := z9
      refine x_ifeq (tgt := 20) dX3_goUntilThere_15 (by decide) rc3 (fun hc4 => ?_) (fun hc4 => ?_)
      · replace h := hp_it hc4 h
        refine x_iload_n dX3_goUntilThere_20 3 rfl ?_
        refine x_iload_n dX3_goUntilThere_21 2 rfl ?_
        obtain ⟨H5, hm6, h⟩ := hp_b1_e h
        have kj : hp_in H5 → hp_R G l cX3_goUntilThere 4 (some .int) "HeelPost$Foretold" (hp_rm 3) (some (.int (hp_I r))) H' (hp_r r ∧ hp_in H') 36 [(0, .ref (hp_ad G 210)), (1, .int (hp_I v1)), (2, .int (hp_I v2)), (3, .int (hp_I v3))] [] H5 := by
          intro rH5
          obtain ⟨v3_7, ev3_7⟩ : ∃ z : Int, z = (hp_w (v3 + 1)) := ⟨_, rfl⟩
          replace h := hp_let_e ev3_7 h
          have rv3_7 := hp_re ev3_7 (hp_rw _)
          refine x_iiE (L' := [(3, .int (hp_I v3_7)), (0, .ref (hp_ad G 210)), (1, .int (hp_I v1)), (2, .int (hp_I v2))]) ev3_7 dX3_goUntilThere_36 3 rfl (by decide) rfl ?_
          refine x_goto (tgt := 2) dX3_goUntilThere_39 (by decide) ?_
          exact x_sub [1, 2, 3, 0] rfl (ih v1 v2 v3_7 H5 r1 r2 rv3_7 rH5 h)
        clear h
        have h := hm6
        clear hm6
        refine x_icge (tgt := 36) dX3_goUntilThere_22 (by decide) r3 r2 (fun hc8 => ?_) (fun hc8 => ?_)
        · replace h := hp_if hc8 h
          cases h
          exact x_sub [0, 1, 2, 3] rfl (kj rH)
        · replace h := hp_it hc8 h
          refine x_aload_n dX3_goUntilThere_25 0 rfl ?_
          refine x_getr 0 (sc_210 hG) (by decide) (C := RX3) (T := TX3) (N := 6) rfl in_X3 (by decide) rfl wf_194 dX3_goUntilThere_26 ?_
          refine x_aload_n dX3_goUntilThere_29 0 rfl ?_
          refine x_getr 1 (sc_210 hG) (by decide) (C := RX3) (T := TX3) (N := 6) rfl in_X3 (by decide) rfl wf_195 dX3_goUntilThere_30 ?_
          obtain ⟨H10, g9, h⟩ := hp_b1_e h
          refine x_ivv (As := [.ref (hp_ad G 211)]) (ok_X2_pass hG 211 H (tw_at211 hG) rH _ g9) cal_X2_pass (sc_199 hG) (by decide) (C := RX2) (T := TX2) (N := 8) rfl rfl ins_X2_pass sel_X2_pass wm_566 (by decide) rfl rfl (Nat.le_of_ble_eq_true rfl) dX3_goUntilThere_33 (fun z9 => ?_)
          have rH10 := z9
          cases h
          exact x_sub [0, 1, 2, 3] rfl (kj rH10)
      · replace h := hp_if hc4 h
        refine x_iload_n dX3_goUntilThere_18 3 rfl ?_
        cases h
        exact x_iret ⟨r3, rH⟩ dX3_goUntilThere_19
set_option maxRecDepth 100000 in
theorem ok_X3_goUntilThere {G : hp_G} (hG : hp_sh G = hp_shc) {l : Launch} (v1 : Int) (v2 : Int) (H : hp_H) (r1 : hp_r v1) (r2 : hp_r v2) (rH : hp_in H) (x : Int × hp_H) (h : f_X3_goUntilThere v1 v2 H = some x) : hp_M G l yX3_goUntilThere cX3_goUntilThere 4 (some .int) (hp_rm 3) [.ref (hp_ad G 210), .int (hp_I v1), .int (hp_I v2)] H (some (.int (hp_I x.1))) x.2 (hp_r x.1 ∧ hp_in x.2) := by
  obtain ⟨r, H'⟩ := x
  unfold f_X3_goUntilThere at h
  refine hp_body "HeelPost$Foretold" (by decide) rfl ⟨rfl, rfl⟩ (Nat.le_of_ble_eq_true rfl) ?_
  show hp_R G l cX3_goUntilThere 4 (some .int) "HeelPost$Foretold" (hp_rm 3) (some (.int (hp_I r))) H' (hp_r r ∧ hp_in H') 0 [(0, .ref (hp_ad G 210)), (1, .int (hp_I v1)), (2, .int (hp_I v2))] [] H
  refine x_iconst dX3_goUntilThere_0 ?_
  refine x_istore_n (L' := [(3, .int (hp_I 0)), (0, .ref (hp_ad G 210)), (1, .int (hp_I v1)), (2, .int (hp_I v2))]) dX3_goUntilThere_1 rfl (by decide) rfl ?_
  exact x_sub [1, 2, 3, 0] rfl (ok_X3_goUntilThere_2 hG 1000 v1 v2 0 H r1 r2 (hp_rc rfl) rH h)
set_option maxRecDepth 100000 in
theorem ok_X3_nextCarrier {G : hp_G} (hG : hp_sh G = hp_shc) {l : Launch} (v2 : Int) (H : hp_H) (r2 : hp_r v2) (rH : hp_in H) (x : Int × hp_H) (h : f_X3_nextCarrier v2 H = some x) : hp_M G l yX3_nextCarrier cX3_nextCarrier 3 (some .int) (hp_rm 5) [.ref (hp_ad G 210), .ref (hp_ad G 15), .int (hp_I v2)] H (some (.int (hp_I x.1))) x.2 (hp_r x.1 ∧ hp_in x.2) := by
  obtain ⟨r, H'⟩ := x
  unfold f_X3_nextCarrier at h
  refine hp_body "HeelPost$Foretold" (by decide) rfl ⟨rfl, rfl⟩ (Nat.le_of_ble_eq_true rfl) ?_
  show hp_R G l cX3_nextCarrier 3 (some .int) "HeelPost$Foretold" (hp_rm 5) (some (.int (hp_I r))) H' (hp_r r ∧ hp_in H') 0 [(0, .ref (hp_ad G 210)), (1, .ref (hp_ad G 15)), (2, .int (hp_I v2))] [] H
  refine x_aload_n dX3_nextCarrier_0 0 rfl ?_
  refine x_aload_n dX3_nextCarrier_1 1 rfl ?_
  refine x_iconst dX3_nextCarrier_2 ?_
  obtain ⟨H2, g1, h⟩ := hp_b1_e h
  refine x_ivv (As := [.ref (hp_ad G 15), .int (hp_I 1)]) (ok_X3_prepare hG 1 H (hp_rc rfl) rH _ g1) cal_X3_prepare (sc_210 hG) (by decide) (C := RX3) (T := TX3) (N := 6) rfl rfl ins_X3_prepare sel_X3_prepare wm_560 (by decide) rfl rfl (Nat.le_of_ble_eq_true rfl) dX3_nextCarrier_3 (fun z9 => ?_)
  have rH2 := z9
  refine x_aload_n dX3_nextCarrier_6 0 rfl ?_
  refine x_getr 0 (sc_210 hG) (by decide) (C := RX3) (T := TX3) (N := 6) rfl in_X3 (by decide) rfl wf_194 dX3_nextCarrier_7 ?_
  refine x_aload_n dX3_nextCarrier_10 0 rfl ?_
  refine x_getr 1 (sc_210 hG) (by decide) (C := RX3) (T := TX3) (N := 6) rfl in_X3 (by decide) rfl wf_195 dX3_nextCarrier_11 ?_
  obtain ⟨H4, g3, h⟩ := hp_b1_e h
  refine x_ivv (As := [.ref (hp_ad G 211)]) (ok_X2_pass hG 211 H2 (tw_at211 hG) rH2 _ g3) cal_X2_pass (sc_199 hG) (by decide) (C := RX2) (T := TX2) (N := 8) rfl rfl ins_X2_pass sel_X2_pass wm_566 (by decide) rfl rfl (Nat.le_of_ble_eq_true rfl) dX3_nextCarrier_14 (fun z9 => ?_)
  have rH4 := z9
  refine x_aload_n dX3_nextCarrier_17 0 rfl ?_
  refine x_getr 0 (sc_210 hG) (by decide) (C := RX3) (T := TX3) (N := 6) rfl in_X3 (by decide) rfl wf_194 dX3_nextCarrier_18 ?_
  refine x_iload_n dX3_nextCarrier_21 2 rfl ?_
  obtain ⟨c6, g5, h⟩ := hp_b1_e h
  refine x_ivi (As := [.int (hp_I v2)]) (ok_X2_carrierThen hG v2 H4 r2 rH4 _ g5) cal_X2_carrierThen (sc_199 hG) (by decide) (C := RX2) (T := TX2) (N := 8) rfl rfl ins_X2_carrierThen sel_X2_carrierThen wm_567 (by decide) rfl rfl (Nat.le_of_ble_eq_true rfl) dX3_nextCarrier_22 (fun z9 => ?_)
  have rc6 := z9
  cases h
  exact x_iret ⟨rc6, rH4⟩ dX3_nextCarrier_25
set_option maxRecDepth 100000 in
theorem ok_X3_placeBehind_9 {G : hp_G} (hG : hp_sh G = hp_shc) {l : Launch} {vv : Option Value} {H' : hp_H} {Z : Prop} : ∀ (n : Nat) (v2 : Int) (v3 : Int) (v4 : Int) (H : hp_H), hp_r v2 → hp_r v3 → hp_r v4 → hp_in H → ∀ Hm : hp_H, f_X3_placeBehind_9 n v2 v3 v4 H = some Hm → (hp_in Hm → hp_R G l cX3_placeBehind 5 (some .int) "HeelPost$Foretold" (hp_rm 5) vv H' Z 32 [(0, .ref (hp_ad G 210)), (2, .int (hp_I v2))] [] Hm) → hp_R G l cX3_placeBehind 5 (some .int) "HeelPost$Foretold" (hp_rm 5) vv H' Z 9 [(0, .ref (hp_ad G 210)), (2, .int (hp_I v2)), (3, .int (hp_I v3)), (4, .int (hp_I v4))] [] H := by
  intro n
  induction n with
  | zero =>
    intro v2 v3 v4 H r2 r3 r4 rH Hm h kx
    exact hp_no h
  | succ n ih =>
    intro v2 v3 v4 H r2 r3 r4 rH Hm h kx
    unfold f_X3_placeBehind_9 at h
    refine x_iload dX3_placeBehind_9 3 rfl ?_
    refine x_iload_n dX3_placeBehind_11 2 rfl ?_
    refine x_icge (tgt := 32) dX3_placeBehind_12 (by decide) r4 r3 (fun hc3 => ?_) (fun hc3 => ?_)
    · replace h := hp_if hc3 h
      cases h
      exact x_sub [0, 1] rfl (kx rH)
    · replace h := hp_it hc3 h
      refine x_aload_n dX3_placeBehind_15 0 rfl ?_
      refine x_getr 0 (sc_210 hG) (by decide) (C := RX3) (T := TX3) (N := 6) rfl in_X3 (by decide) rfl wf_194 dX3_placeBehind_16 ?_
      refine x_aload_n dX3_placeBehind_19 0 rfl ?_
      refine x_getr 1 (sc_210 hG) (by decide) (C := RX3) (T := TX3) (N := 6) rfl in_X3 (by decide) rfl wf_195 dX3_placeBehind_20 ?_
      obtain ⟨H5, g4, h⟩ := hp_b1_e h
      refine x_ivv (As := [.ref (hp_ad G 211)]) (ok_X2_pass hG 211 H (tw_at211 hG) rH _ g4) cal_X2_pass (sc_199 hG) (by decide) (C := RX2) (T := TX2) (N := 8) rfl rfl ins_X2_pass sel_X2_pass wm_566 (by decide) rfl rfl (Nat.le_of_ble_eq_true rfl) dX3_placeBehind_23 (fun z9 => ?_)
      have rH5 := z9
      obtain ⟨v4_6, ev4_6⟩ : ∃ z : Int, z = (hp_w (v4 + 1)) := ⟨_, rfl⟩
      replace h := hp_let_e ev4_6 h
      have rv4_6 := hp_re ev4_6 (hp_rw _)
      refine x_iiE (L' := [(4, .int (hp_I v4_6)), (0, .ref (hp_ad G 210)), (2, .int (hp_I v2)), (3, .int (hp_I v3))]) ev4_6 dX3_placeBehind_26 3 rfl (by decide) rfl ?_
      refine x_goto (tgt := 9) dX3_placeBehind_29 (by decide) ?_
      exact x_sub [1, 2, 3, 0] rfl (ih v2 v3 v4_6 H5 r2 r3 rv4_6 rH5 _ h kx)
set_option maxRecDepth 100000 in
theorem ok_X3_placeBehind {G : hp_G} (hG : hp_sh G = hp_shc) {l : Launch} (v2 : Int) (v3 : Int) (H : hp_H) (r2 : hp_r v2) (r3 : hp_r v3) (rH : hp_in H) (x : Int × hp_H) (h : f_X3_placeBehind v2 v3 H = some x) : hp_M G l yX3_placeBehind cX3_placeBehind 5 (some .int) (hp_rm 5) [.ref (hp_ad G 210), .ref (hp_ad G 15), .int (hp_I v2), .int (hp_I v3)] H (some (.int (hp_I x.1))) x.2 (hp_r x.1 ∧ hp_in x.2) := by
  obtain ⟨r, H'⟩ := x
  unfold f_X3_placeBehind at h
  refine hp_body "HeelPost$Foretold" (by decide) rfl ⟨rfl, rfl⟩ (Nat.le_of_ble_eq_true rfl) ?_
  show hp_R G l cX3_placeBehind 5 (some .int) "HeelPost$Foretold" (hp_rm 5) (some (.int (hp_I r))) H' (hp_r r ∧ hp_in H') 0 [(0, .ref (hp_ad G 210)), (1, .ref (hp_ad G 15)), (2, .int (hp_I v2)), (3, .int (hp_I v3))] [] H
  refine x_aload_n dX3_placeBehind_0 0 rfl ?_
  refine x_aload_n dX3_placeBehind_1 1 rfl ?_
  refine x_iload_n dX3_placeBehind_2 3 rfl ?_
  obtain ⟨H2, g1, h⟩ := hp_b1_e h
  refine x_ivv (As := [.ref (hp_ad G 15), .int (hp_I v3)]) (ok_X3_prepare hG v3 H r3 rH _ g1) cal_X3_prepare (sc_210 hG) (by decide) (C := RX3) (T := TX3) (N := 6) rfl rfl ins_X3_prepare sel_X3_prepare wm_560 (by decide) rfl rfl (Nat.le_of_ble_eq_true rfl) dX3_placeBehind_3 (fun z9 => ?_)
  have rH2 := z9
  refine x_iconst dX3_placeBehind_6 ?_
  refine x_istore (L' := [(4, .int (hp_I 0)), (0, .ref (hp_ad G 210)), (1, .ref (hp_ad G 15)), (2, .int (hp_I v2)), (3, .int (hp_I v3))]) dX3_placeBehind_7 (by decide) rfl ?_
  obtain ⟨H7, g8, h⟩ := hp_b1_e h
  refine x_sub [1, 3, 4, 0] rfl (ok_X3_placeBehind_9 hG 1000 v2 v3 0 H2 r2 r3 (hp_rc rfl) rH2 _ g8 ?_)
  intro rH7
  refine x_aload_n dX3_placeBehind_32 0 rfl ?_
  refine x_getr 1 (sc_210 hG) (by decide) (C := RX3) (T := TX3) (N := 6) rfl in_X3 (by decide) rfl wf_195 dX3_placeBehind_33 ?_
  refine x_getr (r := 216) 10 (tw_0 (tw_at211 hG)) (tw_p (tw_at211 hG)) (C := RX6) (T := TX6) (N := 12) rfl in_X6 (by decide) rfl wf_104 dX3_placeBehind_36 ?_
  refine x_iload_n dX3_placeBehind_39 1 rfl ?_
  obtain ⟨b9, h⟩ := hp_ck_e h
  refine x_ia 4 rfl (sc_216 hG) (by decide) (Nat.le_of_ble_eq_true rfl) b9 dX3_placeBehind_40 ?_
  cases h
  exact x_iret ⟨(rH7 _ _), rH7⟩ dX3_placeBehind_41
set_option maxRecDepth 100000 in
theorem ok_X3_arrival {G : hp_G} (hG : hp_sh G = hp_shc) {l : Launch} (v2 : Int) (H : hp_H) (r2 : hp_r v2) (rH : hp_in H) (x : Int × hp_H) (h : f_X3_arrival v2 H = some x) : hp_M G l yX3_arrival cX3_arrival 3 (some .int) (hp_rm 5) [.ref (hp_ad G 210), .ref (hp_ad G 15), .int (hp_I v2)] H (some (.int (hp_I x.1))) x.2 (hp_r x.1 ∧ hp_in x.2) := by
  obtain ⟨r, H'⟩ := x
  unfold f_X3_arrival at h
  refine hp_body "HeelPost$Foretold" (by decide) rfl ⟨rfl, rfl⟩ (Nat.le_of_ble_eq_true rfl) ?_
  show hp_R G l cX3_arrival 3 (some .int) "HeelPost$Foretold" (hp_rm 5) (some (.int (hp_I r))) H' (hp_r r ∧ hp_in H') 0 [(0, .ref (hp_ad G 210)), (1, .ref (hp_ad G 15)), (2, .int (hp_I v2))] [] H
  refine x_aload_n dX3_arrival_0 0 rfl ?_
  refine x_aload_n dX3_arrival_1 1 rfl ?_
  refine x_bipush rfl dX3_arrival_2 ?_
  obtain ⟨H2, g1, h⟩ := hp_b1_e h
  refine x_ivv (As := [.ref (hp_ad G 15), .int (hp_I 99)]) (ok_X3_prepare hG 99 H (hp_rc rfl) rH _ g1) cal_X3_prepare (sc_210 hG) (by decide) (C := RX3) (T := TX3) (N := 6) rfl rfl ins_X3_prepare sel_X3_prepare wm_560 (by decide) rfl rfl (Nat.le_of_ble_eq_true rfl) dX3_arrival_4 (fun z9 => ?_)
  have rH2 := z9
  refine x_aload_n dX3_arrival_7 0 rfl ?_
  refine x_iload_n dX3_arrival_8 2 rfl ?_
  refine x_bipush rfl dX3_arrival_9 ?_
  obtain ⟨c4, H5, g3, h⟩ := hp_b2_e h
  refine x_ivi (As := [.int (hp_I v2), .int (hp_I 99)]) (ok_X3_goUntilThere hG v2 99 H2 r2 (hp_rc rfl) rH2 _ g3) cal_X3_goUntilThere (sc_210 hG) (by decide) (C := RX3) (T := TX3) (N := 6) rfl rfl ins_X3_goUntilThere sel_X3_goUntilThere wm_600 (by decide) rfl rfl (Nat.le_of_ble_eq_true rfl) dX3_arrival_11 (fun z9 => ?_)
  obtain ⟨rc4, rH5⟩ := z9
  cases h
  exact x_iret ⟨rc4, rH5⟩ dX3_arrival_14
set_option maxRecDepth 100000 in
theorem ok_X3_carriersOf_12 {G : hp_G} (hG : hp_sh G = hp_shc) {l : Launch} {vv : Option Value} {H' : hp_H} {Z : Prop} : ∀ (n : Nat) (v2 : Int) (v3 : Int) (v4 : Int) (v5 : Int) (H : hp_H), hp_r v2 → hp_r v3 → hp_r v4 → hp_r v5 → hp_in H → ∀ m4 : Int, ∀ Hm : hp_H, f_X3_carriersOf_12 n v2 v3 v4 v5 H = some (m4, Hm) → (hp_r m4 → hp_in Hm → hp_R G l cX3_carriersOf 7 (some .int) "HeelPost$Foretold" (hp_rm 5) vv H' Z 65 [(4, .int (hp_I m4))] [] Hm) → hp_R G l cX3_carriersOf 7 (some .int) "HeelPost$Foretold" (hp_rm 5) vv H' Z 12 [(0, .ref (hp_ad G 210)), (2, .int (hp_I v2)), (3, .int (hp_I v3)), (4, .int (hp_I v4)), (5, .int (hp_I v5))] [] H := by
  intro n
  induction n with
  | zero =>
    intro v2 v3 v4 v5 H r2 r3 r4 r5 rH m4 Hm h kx
    exact hp_no h
  | succ n ih =>
    intro v2 v3 v4 v5 H r2 r3 r4 r5 rH m4 Hm h kx
    unfold f_X3_carriersOf_12 at h
    refine x_iload dX3_carriersOf_12 4 rfl ?_
    refine x_iload_n dX3_carriersOf_14 2 rfl ?_
    refine x_icge (tgt := 65) dX3_carriersOf_15 (by decide) r5 r3 (fun hc3 => ?_) (fun hc3 => ?_)
    · replace h := hp_if hc3 h
      cases h
      exact x_sub [3] rfl (kx r4 rH)
    · replace h := hp_it hc3 h
      refine x_aload_n dX3_carriersOf_18 0 rfl ?_
      refine x_getr 0 (sc_210 hG) (by decide) (C := RX3) (T := TX3) (N := 6) rfl in_X3 (by decide) rfl wf_194 dX3_carriersOf_19 ?_
      refine x_aload_n dX3_carriersOf_22 0 rfl ?_
      refine x_getr 1 (sc_210 hG) (by decide) (C := RX3) (T := TX3) (N := 6) rfl in_X3 (by decide) rfl wf_195 dX3_carriersOf_23 ?_
      obtain ⟨H5, g4, h⟩ := hp_b1_e h
      refine x_ivv (As := [.ref (hp_ad G 211)]) (ok_X2_pass hG 211 H (tw_at211 hG) rH _ g4) cal_X2_pass (sc_199 hG) (by decide) (C := RX2) (T := TX2) (N := 8) rfl rfl ins_X2_pass sel_X2_pass wm_566 (by decide) rfl rfl (Nat.le_of_ble_eq_true rfl) dX3_carriersOf_26 (fun z9 => ?_)
      have rH5 := z9
      refine x_aload_n dX3_carriersOf_29 0 rfl ?_
      refine x_getr 0 (sc_210 hG) (by decide) (C := RX3) (T := TX3) (N := 6) rfl in_X3 (by decide) rfl wf_194 dX3_carriersOf_30 ?_
      refine x_iload_n dX3_carriersOf_33 1 rfl ?_
      obtain ⟨c7, g6, h⟩ := hp_b1_e h
      refine x_ivi (As := [.int (hp_I v2)]) (ok_X2_carrierThen hG v2 H5 r2 rH5 _ g6) cal_X2_carrierThen (sc_199 hG) (by decide) (C := RX2) (T := TX2) (N := 8) rfl rfl ins_X2_carrierThen sel_X2_carrierThen wm_567 (by decide) rfl rfl (Nat.le_of_ble_eq_true rfl) dX3_carriersOf_34 (fun z9 => ?_)
      have rc7 := z9
      refine x_istore (L' := [(6, .int (hp_I c7)), (0, .ref (hp_ad G 210)), (2, .int (hp_I v2)), (3, .int (hp_I v3)), (4, .int (hp_I v4)), (5, .int (hp_I v5))]) dX3_carriersOf_37 (by decide) rfl ?_
      refine x_iload dX3_carriersOf_39 4 rfl ?_
      refine x_iload dX3_carriersOf_41 0 rfl ?_
      refine x_ldc (x := (-1000000)) wc_605 rfl dX3_carriersOf_43 ?_
      obtain ⟨m8, em8⟩ : ∃ z : Int, z = (if c7 = (-1000000) then 0 else (hp_shl 1 c7)) := ⟨_, rfl⟩
      replace h := hp_let_e em8 h
      have rm8 := hp_re em8 (hp_rite (hp_rc rfl) (hp_rshl _ _))
      have kj : hp_R G l cX3_carriersOf 7 (some .int) "HeelPost$Foretold" (hp_rm 5) vv H' Z 56 [(0, .ref (hp_ad G 210)), (2, .int (hp_I v2)), (3, .int (hp_I v3)), (5, .int (hp_I v5))] [.int (hp_I m8), .int (hp_I v4)] H5 := by
        refine x_ior dX3_carriersOf_56 ?_
        obtain ⟨v4_9, ev4_9⟩ : ∃ z : Int, z = (hp_or v4 m8) := ⟨_, rfl⟩
        replace h := hp_let_e ev4_9 h
        have rv4_9 := hp_re ev4_9 (hp_ror _ _)
        refine x_isE (L' := [(4, .int (hp_I v4_9)), (0, .ref (hp_ad G 210)), (2, .int (hp_I v2)), (3, .int (hp_I v3)), (5, .int (hp_I v5))]) ev4_9 dX3_carriersOf_57 (by decide) rfl ?_
        obtain ⟨v5_10, ev5_10⟩ : ∃ z : Int, z = (hp_w (v5 + 1)) := ⟨_, rfl⟩
        replace h := hp_let_e ev5_10 h
        have rv5_10 := hp_re ev5_10 (hp_rw _)
        refine x_iiE (L' := [(5, .int (hp_I v5_10)), (4, .int (hp_I v4_9)), (0, .ref (hp_ad G 210)), (2, .int (hp_I v2)), (3, .int (hp_I v3))]) ev5_10 dX3_carriersOf_59 4 rfl (by decide) rfl ?_
        refine x_goto (tgt := 12) dX3_carriersOf_62 (by decide) ?_
        exact x_sub [2, 3, 4, 1, 0] rfl (ih v2 v3 v4_9 v5_10 H5 r2 r3 rv4_9 rv5_10 rH5 _ _ h kx)
      clear h
      refine x_iceq (tgt := 55) dX3_carriersOf_45 (by decide) rc7 (hp_rc rfl) (fun hc11 => ?_) (fun hc11 => ?_)
      · refine x_iconst dX3_carriersOf_55 ?_
        have q9 := (em8.trans (if_pos hc11))
        subst q9
        exact x_sub [1, 2, 3, 5] rfl kj
      · refine x_iconst dX3_carriersOf_48 ?_
        refine x_iload dX3_carriersOf_49 0 rfl ?_
        refine x_ishl dX3_carriersOf_51 ?_
        refine x_goto (tgt := 56) dX3_carriersOf_52 (by decide) ?_
        have q9 := (em8.trans (if_neg hc11))
        subst q9
        exact x_sub [1, 2, 3, 5] rfl kj
set_option maxRecDepth 100000 in
theorem ok_X3_carriersOf {G : hp_G} (hG : hp_sh G = hp_shc) {l : Launch} (v2 : Int) (v3 : Int) (H : hp_H) (r2 : hp_r v2) (r3 : hp_r v3) (rH : hp_in H) (x : Int × hp_H) (h : f_X3_carriersOf v2 v3 H = some x) : hp_M G l yX3_carriersOf cX3_carriersOf 7 (some .int) (hp_rm 5) [.ref (hp_ad G 210), .ref (hp_ad G 15), .int (hp_I v2), .int (hp_I v3)] H (some (.int (hp_I x.1))) x.2 (hp_r x.1 ∧ hp_in x.2) := by
  obtain ⟨r, H'⟩ := x
  unfold f_X3_carriersOf at h
  refine hp_body "HeelPost$Foretold" (by decide) rfl ⟨rfl, rfl⟩ (Nat.le_of_ble_eq_true rfl) ?_
  show hp_R G l cX3_carriersOf 7 (some .int) "HeelPost$Foretold" (hp_rm 5) (some (.int (hp_I r))) H' (hp_r r ∧ hp_in H') 0 [(0, .ref (hp_ad G 210)), (1, .ref (hp_ad G 15)), (2, .int (hp_I v2)), (3, .int (hp_I v3))] [] H
  refine x_aload_n dX3_carriersOf_0 0 rfl ?_
  refine x_aload_n dX3_carriersOf_1 1 rfl ?_
  refine x_iload_n dX3_carriersOf_2 3 rfl ?_
  obtain ⟨H2, g1, h⟩ := hp_b1_e h
  refine x_ivv (As := [.ref (hp_ad G 15), .int (hp_I v3)]) (ok_X3_prepare hG v3 H r3 rH _ g1) cal_X3_prepare (sc_210 hG) (by decide) (C := RX3) (T := TX3) (N := 6) rfl rfl ins_X3_prepare sel_X3_prepare wm_560 (by decide) rfl rfl (Nat.le_of_ble_eq_true rfl) dX3_carriersOf_3 (fun z9 => ?_)
  have rH2 := z9
  refine x_iconst dX3_carriersOf_6 ?_
  refine x_istore (L' := [(4, .int (hp_I 0)), (0, .ref (hp_ad G 210)), (1, .ref (hp_ad G 15)), (2, .int (hp_I v2)), (3, .int (hp_I v3))]) dX3_carriersOf_7 (by decide) rfl ?_
  refine x_iconst dX3_carriersOf_9 ?_
  refine x_istore (L' := [(5, .int (hp_I 0)), (4, .int (hp_I 0)), (0, .ref (hp_ad G 210)), (1, .ref (hp_ad G 15)), (2, .int (hp_I v2)), (3, .int (hp_I v3))]) dX3_carriersOf_10 (by decide) rfl ?_
  obtain ⟨v4_12, H13, g14, h⟩ := hp_b2_e h
  refine x_sub [2, 4, 5, 1, 0] rfl (ok_X3_carriersOf_12 hG 1000 v2 v3 0 0 H2 r2 r3 (hp_rc rfl) (hp_rc rfl) rH2 _ _ g14 ?_)
  intro rv4_12 rH13
  refine x_iload dX3_carriersOf_65 0 rfl ?_
  cases h
  exact x_iret ⟨rv4_12, rH13⟩ dX3_carriersOf_67
set_option maxRecDepth 100000 in
theorem ok_X3_soonest_26 {G : hp_G} (hG : hp_sh G = hp_shc) {l : Launch} {vv : Option Value} {H' : hp_H} {Z : Prop} : ∀ (n : Nat) (v2 : Int) (v3 : Int) (v4 : Int) (v5 : Int) (v6 : Int) (v7 : Int) (H : hp_H), hp_r v2 → hp_r v3 → hp_r v4 → hp_r v5 → hp_r v6 → hp_r v7 → hp_in H → ∀ m5 : Int, ∀ m6 : Int, ∀ Hm : hp_H, f_X3_soonest_26 n v2 v3 v4 v5 v6 v7 H = some (m5, m6, Hm) → (hp_r m5 → hp_r m6 → hp_in Hm → hp_R G l cX3_soonest 9 (some .int) "HeelPost$Foretold" (hp_rm 5) vv H' Z 103 [(4, .int (hp_I v4)), (5, .int (hp_I m5)), (6, .int (hp_I m6))] [] Hm) → hp_R G l cX3_soonest 9 (some .int) "HeelPost$Foretold" (hp_rm 5) vv H' Z 26 [(0, .ref (hp_ad G 210)), (1, .ref (hp_ad G 15)), (2, .int (hp_I v2)), (3, .int (hp_I v3)), (4, .int (hp_I v4)), (5, .int (hp_I v5)), (6, .int (hp_I v6)), (7, .int (hp_I v7))] [] H := by
  intro n
  induction n with
  | zero =>
    intro v2 v3 v4 v5 v6 v7 H r2 r3 r4 r5 r6 r7 rH m5 m6 Hm h kx
    exact hp_no h
  | succ n ih =>
    intro v2 v3 v4 v5 v6 v7 H r2 r3 r4 r5 r6 r7 rH m5 m6 Hm h kx
    unfold f_X3_soonest_26 at h
    refine x_iload dX3_soonest_26 7 rfl ?_
    refine x_aload_n dX3_soonest_28 1 rfl ?_
    refine x_gi 1 1 rfl (tw_0 (tw_at15 hG)) (tw_p (tw_at15 hG)) (C := RX6) (T := TX6) (N := 12) rfl in_X6 (by decide) rfl wf_74 dX3_soonest_29 ?_
    refine x_icge (tgt := 103) dX3_soonest_32 (by decide) r7 (rH _ _) (fun hc5 => ?_) (fun hc5 => ?_)
    · replace h := hp_if hc5 h
      cases h
      exact x_sub [4, 5, 6] rfl (kx r5 r6 rH)
    · replace h := hp_it hc5 h
      refine x_aload_n dX3_soonest_35 0 rfl ?_
      refine x_getr 1 (sc_210 hG) (by decide) (C := RX3) (T := TX3) (N := 6) rfl in_X3 (by decide) rfl wf_195 dX3_soonest_36 ?_
      refine x_aload_n dX3_soonest_39 0 rfl ?_
      refine x_getr 2 (sc_210 hG) (by decide) (C := RX3) (T := TX3) (N := 6) rfl in_X3 (by decide) rfl wf_196 dX3_soonest_40 ?_
      obtain ⟨H7, g6, h⟩ := hp_b1_e h
      refine x_ivv (As := [.ref (hp_ad G 218)]) (ok_X6_takeLetters hG 211 218 H (tw_at211 hG) (tw_at218 hG) rH _ g6) cal_X6_takeLetters (tw_0 (tw_at211 hG)) (tw_p (tw_at211 hG)) (C := RX6) (T := TX6) (N := 12) rfl rfl ins_X6_takeLetters sel_X6_takeLetters wm_625 (by decide) rfl rfl (Nat.le_of_ble_eq_true rfl) dX3_soonest_43 (fun z9 => ?_)
      have rH7 := z9
      refine x_aload_n dX3_soonest_46 0 rfl ?_
      refine x_getr 1 (sc_210 hG) (by decide) (C := RX3) (T := TX3) (N := 6) rfl in_X3 (by decide) rfl wf_195 dX3_soonest_47 ?_
      refine x_iconst dX3_soonest_50 ?_
      refine x_iload_n dX3_soonest_51 2 rfl ?_
      refine x_iload_n dX3_soonest_52 3 rfl ?_
      obtain ⟨H9, g8, h⟩ := hp_b1_e h
      refine x_ivv (As := [.int (hp_I 3), .int (hp_I v2), .int (hp_I v3)]) (ok_X6_putOut hG 211 3 v2 v3 H7 (tw_at211 hG) (hp_rc rfl) r2 r3 rH7 _ g8) cal_X6_putOut (tw_0 (tw_at211 hG)) (tw_p (tw_at211 hG)) (C := RX6) (T := TX6) (N := 12) rfl rfl ins_X6_putOut sel_X6_putOut wm_626 (by decide) rfl rfl (Nat.le_of_ble_eq_true rfl) dX3_soonest_53 (fun z9 => ?_)
      have rH9 := z9
      refine x_aload_n dX3_soonest_56 0 rfl ?_
      refine x_iconst dX3_soonest_57 ?_
      refine x_iload dX3_soonest_58 6 rfl ?_
      refine x_iload dX3_soonest_60 7 rfl ?_
      refine x_isub dX3_soonest_62 ?_
      obtain ⟨c11, H12, g10, h⟩ := hp_b2_e h
      refine x_ivi (As := [.int (hp_I 3), .int (hp_I (hp_w (v6 - v7)))]) (ok_X3_goUntilThere hG 3 (hp_w (v6 - v7)) H9 (hp_rc rfl) (hp_rw _) rH9 _ g10) cal_X3_goUntilThere (sc_210 hG) (by decide) (C := RX3) (T := TX3) (N := 6) rfl rfl ins_X3_goUntilThere sel_X3_goUntilThere wm_600 (by decide) rfl rfl (Nat.le_of_ble_eq_true rfl) dX3_soonest_63 (fun z9 => ?_)
      obtain ⟨rc11, rH12⟩ := z9
      refine x_istore (L' := [(8, .int (hp_I c11)), (0, .ref (hp_ad G 210)), (1, .ref (hp_ad G 15)), (2, .int (hp_I v2)), (3, .int (hp_I v3)), (4, .int (hp_I v4)), (5, .int (hp_I v5)), (6, .int (hp_I v6)), (7, .int (hp_I v7))]) dX3_soonest_66 (by decide) rfl ?_
      refine x_iload dX3_soonest_68 0 rfl ?_
      refine x_ldc (x := (-1000000)) wc_605 rfl dX3_soonest_70 ?_
      obtain ⟨v5_13, v6_14, hm15, h⟩ := hp_b2_e h
      have kj : hp_r v5_13 → hp_r v6_14 → hp_R G l cX3_soonest 9 (some .int) "HeelPost$Foretold" (hp_rm 5) vv H' Z 86 [(0, .ref (hp_ad G 210)), (1, .ref (hp_ad G 15)), (2, .int (hp_I v2)), (3, .int (hp_I v3)), (4, .int (hp_I v4)), (5, .int (hp_I v5_13)), (6, .int (hp_I v6_14)), (7, .int (hp_I v7))] [] H12 := by
        intro rv5_13 rv6_14
        refine x_aload_n dX3_soonest_86 0 rfl ?_
        refine x_getr 0 (sc_210 hG) (by decide) (C := RX3) (T := TX3) (N := 6) rfl in_X3 (by decide) rfl wf_194 dX3_soonest_87 ?_
        refine x_aload_n dX3_soonest_90 0 rfl ?_
        refine x_getr 2 (sc_210 hG) (by decide) (C := RX3) (T := TX3) (N := 6) rfl in_X3 (by decide) rfl wf_196 dX3_soonest_91 ?_
        obtain ⟨H17, g16, h⟩ := hp_b1_e h
        refine x_ivv (As := [.ref (hp_ad G 218)]) (ok_X2_pass hG 218 H12 (tw_at218 hG) rH12 _ g16) cal_X2_pass (sc_199 hG) (by decide) (C := RX2) (T := TX2) (N := 8) rfl rfl ins_X2_pass sel_X2_pass wm_566 (by decide) rfl rfl (Nat.le_of_ble_eq_true rfl) dX3_soonest_94 (fun z9 => ?_)
        have rH17 := z9
        obtain ⟨v7_18, ev7_18⟩ : ∃ z : Int, z = (hp_w (v7 + 1)) := ⟨_, rfl⟩
        replace h := hp_let_e ev7_18 h
        have rv7_18 := hp_re ev7_18 (hp_rw _)
        refine x_iiE (L' := [(7, .int (hp_I v7_18)), (0, .ref (hp_ad G 210)), (1, .ref (hp_ad G 15)), (2, .int (hp_I v2)), (3, .int (hp_I v3)), (4, .int (hp_I v4)), (5, .int (hp_I v5_13)), (6, .int (hp_I v6_14))]) ev7_18 dX3_soonest_97 7 rfl (by decide) rfl ?_
        refine x_goto (tgt := 26) dX3_soonest_100 (by decide) ?_
        exact x_sub [1, 2, 3, 4, 5, 6, 7, 0] rfl (ih v2 v3 v4 v5_13 v6_14 v7_18 H17 r2 r3 r4 rv5_13 rv6_14 rv7_18 rH17 _ _ _ h kx)
      clear h
      have h := hm15
      clear hm15
      refine x_iceq (tgt := 86) dX3_soonest_72 (by decide) rc11 (hp_rc rfl) (fun hc19 => ?_) (fun hc19 => ?_)
      · replace h := hp_it hc19 h
        cases h
        exact x_sub [1, 2, 3, 4, 5, 6, 7, 8] rfl (kj r5 r6)
      · replace h := hp_if hc19 h
        refine x_iload dX3_soonest_75 8 rfl ?_
        refine x_istore (L' := [(5, .int (hp_I v7)), (8, .int (hp_I c11)), (0, .ref (hp_ad G 210)), (1, .ref (hp_ad G 15)), (2, .int (hp_I v2)), (3, .int (hp_I v3)), (4, .int (hp_I v4)), (6, .int (hp_I v6)), (7, .int (hp_I v7))]) dX3_soonest_77 (by decide) rfl ?_
        refine x_iload dX3_soonest_79 8 rfl ?_
        refine x_iload dX3_soonest_81 1 rfl ?_
        refine x_iadd dX3_soonest_83 ?_
        obtain ⟨v6_20, ev6_20⟩ : ∃ z : Int, z = (hp_w (v7 + c11)) := ⟨_, rfl⟩
        replace h := hp_let_e ev6_20 h
        have rv6_20 := hp_re ev6_20 (hp_rw _)
        refine x_isE (L' := [(6, .int (hp_I v6_20)), (5, .int (hp_I v7)), (8, .int (hp_I c11)), (0, .ref (hp_ad G 210)), (1, .ref (hp_ad G 15)), (2, .int (hp_I v2)), (3, .int (hp_I v3)), (4, .int (hp_I v4)), (7, .int (hp_I v7))]) ev6_20 dX3_soonest_84 (by decide) rfl ?_
        cases h
        exact x_sub [3, 4, 5, 6, 7, 1, 0, 8] rfl (kj r7 rv6_20)
set_option maxRecDepth 100000 in
theorem ok_X3_soonest {G : hp_G} (hG : hp_sh G = hp_shc) {l : Launch} (v2 : Int) (v3 : Int) (v4 : Int) (H : hp_H) (r2 : hp_r v2) (r3 : hp_r v3) (r4 : hp_r v4) (rH : hp_in H) (x : Int × hp_H) (h : f_X3_soonest v2 v3 v4 H = some x) : hp_M G l yX3_soonest cX3_soonest 9 (some .int) (hp_rm 5) [.ref (hp_ad G 210), .ref (hp_ad G 15), .int (hp_I v2), .int (hp_I v3), .int (hp_I v4)] H (some (.int (hp_I x.1))) x.2 (hp_r x.1 ∧ hp_in x.2) := by
  obtain ⟨r, H'⟩ := x
  unfold f_X3_soonest at h
  refine hp_body "HeelPost$Foretold" (by decide) rfl ⟨rfl, rfl⟩ (Nat.le_of_ble_eq_true rfl) ?_
  show hp_R G l cX3_soonest 9 (some .int) "HeelPost$Foretold" (hp_rm 5) (some (.int (hp_I r))) H' (hp_r r ∧ hp_in H') 0 [(0, .ref (hp_ad G 210)), (1, .ref (hp_ad G 15)), (2, .int (hp_I v2)), (3, .int (hp_I v3)), (4, .int (hp_I v4))] [] H
  refine x_aload_n dX3_soonest_0 0 rfl ?_
  refine x_aload_n dX3_soonest_1 1 rfl ?_
  refine x_bipush rfl dX3_soonest_2 ?_
  obtain ⟨H2, g1, h⟩ := hp_b1_e h
  refine x_ivv (As := [.ref (hp_ad G 15), .int (hp_I 99)]) (ok_X3_prepare hG 99 H (hp_rc rfl) rH _ g1) cal_X3_prepare (sc_210 hG) (by decide) (C := RX3) (T := TX3) (N := 6) rfl rfl ins_X3_prepare sel_X3_prepare wm_560 (by decide) rfl rfl (Nat.le_of_ble_eq_true rfl) dX3_soonest_4 (fun z9 => ?_)
  have rH2 := z9
  refine x_aload_n dX3_soonest_7 0 rfl ?_
  refine x_getr 2 (sc_210 hG) (by decide) (C := RX3) (T := TX3) (N := 6) rfl in_X3 (by decide) rfl wf_196 dX3_soonest_8 ?_
  refine x_aload_n dX3_soonest_11 1 rfl ?_
  obtain ⟨H4, g3, h⟩ := hp_b1_e h
  refine x_ivv (As := [.ref (hp_ad G 15)]) (ok_X6_take hG 218 15 H2 (tw_at218 hG) (tw_at15 hG) rH2 _ g3) cal_X6_take (tw_0 (tw_at218 hG)) (tw_p (tw_at218 hG)) (C := RX6) (T := TX6) (N := 12) rfl rfl ins_X6_take sel_X6_take wm_564 (by decide) rfl rfl (Nat.le_of_ble_eq_true rfl) dX3_soonest_12 (fun z9 => ?_)
  have rH4 := z9
  refine x_ldc (x := (-1000000)) wc_605 rfl dX3_soonest_15 ?_
  refine x_istore (L' := [(5, .int (hp_I (-1000000))), (0, .ref (hp_ad G 210)), (1, .ref (hp_ad G 15)), (2, .int (hp_I v2)), (3, .int (hp_I v3)), (4, .int (hp_I v4))]) dX3_soonest_17 (by decide) rfl ?_
  refine x_bipush rfl dX3_soonest_19 ?_
  refine x_istore (L' := [(6, .int (hp_I 99)), (5, .int (hp_I (-1000000))), (0, .ref (hp_ad G 210)), (1, .ref (hp_ad G 15)), (2, .int (hp_I v2)), (3, .int (hp_I v3)), (4, .int (hp_I v4))]) dX3_soonest_21 (by decide) rfl ?_
  refine x_iconst dX3_soonest_23 ?_
  refine x_istore (L' := [(7, .int (hp_I 0)), (6, .int (hp_I 99)), (5, .int (hp_I (-1000000))), (0, .ref (hp_ad G 210)), (1, .ref (hp_ad G 15)), (2, .int (hp_I v2)), (3, .int (hp_I v3)), (4, .int (hp_I v4))]) dX3_soonest_24 (by decide) rfl ?_
  obtain ⟨v5_21, v6_22, H23, g24, h⟩ := hp_b3_e h
  refine x_sub [3, 4, 5, 6, 7, 2, 1, 0] rfl (ok_X3_soonest_26 hG 1000 v2 v3 v4 (-1000000) 99 0 H4 r2 r3 r4 (hp_rc rfl) (hp_rc rfl) (hp_rc rfl) rH4 _ _ _ g24 ?_)
  intro rv5_21 rv6_22 rH23
  refine x_iload dX3_soonest_103 0 rfl ?_
  refine x_ifeq (tgt := 115) dX3_soonest_105 (by decide) r4 (fun hc25 => ?_) (fun hc25 => ?_)
  · replace h := hp_it hc25 h
    refine x_iload dX3_soonest_115 1 rfl ?_
    refine x_goto (tgt := 122) dX3_soonest_117 (by decide) ?_
    cases h
    exact x_iret ⟨rv5_21, rH23⟩ dX3_soonest_122
  · replace h := hp_if hc25 h
    refine x_iload dX3_soonest_108 1 rfl ?_
    refine x_ldc (x := (-1000000)) wc_605 rfl dX3_soonest_110 ?_
    refine x_icne (tgt := 120) dX3_soonest_112 (by decide) rv5_21 (hp_rc rfl) (fun hc26 => ?_) (fun hc26 => ?_)
    · replace h := hp_if hc26 h
      refine x_iload dX3_soonest_120 2 rfl ?_
      cases h
      exact x_iret ⟨rv6_22, rH23⟩ dX3_soonest_122
    · replace h := hp_it hc26 h
      refine x_iload dX3_soonest_115 1 rfl ?_
      refine x_goto (tgt := 122) dX3_soonest_117 (by decide) ?_
      cases h
      exact x_iret ⟨rv5_21, rH23⟩ dX3_soonest_122
set_option maxRecDepth 100000 in
theorem ok_X3_reaches {G : hp_G} (hG : hp_sh G = hp_shc) {l : Launch} (v2 : Int) (v3 : Int) (v4 : Int) (H : hp_H) (r2 : hp_r v2) (r3 : hp_r v3) (r4 : hp_r v4) (rH : hp_in H) (x : Int × hp_H) (h : f_X3_reaches v2 v3 v4 H = some x) : hp_M G l yX3_reaches cX3_reaches 5 (some .boolean) (hp_rm 4) [.ref (hp_ad G 210), .ref (hp_ad G 15), .int (hp_I v2), .int (hp_I v3), .int (hp_I v4)] H (some (.int (hp_I x.1))) x.2 (hp_r x.1 ∧ hp_in x.2) := by
  obtain ⟨r, H'⟩ := x
  unfold f_X3_reaches at h
  refine hp_body "HeelPost$Foretold" (by decide) rfl ⟨rfl, rfl⟩ (Nat.le_of_ble_eq_true rfl) ?_
  show hp_R G l cX3_reaches 5 (some .boolean) "HeelPost$Foretold" (hp_rm 4) (some (.int (hp_I r))) H' (hp_r r ∧ hp_in H') 0 [(0, .ref (hp_ad G 210)), (1, .ref (hp_ad G 15)), (2, .int (hp_I v2)), (3, .int (hp_I v3)), (4, .int (hp_I v4))] [] H
  refine x_aload_n dX3_reaches_0 0 rfl ?_
  refine x_getr 1 (sc_210 hG) (by decide) (C := RX3) (T := TX3) (N := 6) rfl in_X3 (by decide) rfl wf_195 dX3_reaches_1 ?_
  refine x_aload_n dX3_reaches_4 1 rfl ?_
  obtain ⟨H2, g1, h⟩ := hp_b1_e h
  refine x_ivv (As := [.ref (hp_ad G 15)]) (ok_X6_takeLetters hG 211 15 H (tw_at211 hG) (tw_at15 hG) rH _ g1) cal_X6_takeLetters (tw_0 (tw_at211 hG)) (tw_p (tw_at211 hG)) (C := RX6) (T := TX6) (N := 12) rfl rfl ins_X6_takeLetters sel_X6_takeLetters wm_625 (by decide) rfl rfl (Nat.le_of_ble_eq_true rfl) dX3_reaches_5 (fun z9 => ?_)
  have rH2 := z9
  refine x_aload_n dX3_reaches_8 0 rfl ?_
  refine x_getr 1 (sc_210 hG) (by decide) (C := RX3) (T := TX3) (N := 6) rfl in_X3 (by decide) rfl wf_195 dX3_reaches_9 ?_
  refine x_iconst dX3_reaches_12 ?_
  refine x_iload_n dX3_reaches_13 2 rfl ?_
  refine x_iload_n dX3_reaches_14 3 rfl ?_
  obtain ⟨H4, g3, h⟩ := hp_b1_e h
  refine x_ivv (As := [.int (hp_I 3), .int (hp_I v2), .int (hp_I v3)]) (ok_X6_putOut hG 211 3 v2 v3 H2 (tw_at211 hG) (hp_rc rfl) r2 r3 rH2 _ g3) cal_X6_putOut (tw_0 (tw_at211 hG)) (tw_p (tw_at211 hG)) (C := RX6) (T := TX6) (N := 12) rfl rfl ins_X6_putOut sel_X6_putOut wm_626 (by decide) rfl rfl (Nat.le_of_ble_eq_true rfl) dX3_reaches_15 (fun z9 => ?_)
  have rH4 := z9
  refine x_aload_n dX3_reaches_18 0 rfl ?_
  refine x_iconst dX3_reaches_19 ?_
  refine x_iload dX3_reaches_20 4 rfl ?_
  obtain ⟨c6, H7, g5, h⟩ := hp_b2_e h
  refine x_ivi (As := [.int (hp_I 3), .int (hp_I v4)]) (ok_X3_goUntilThere hG 3 v4 H4 (hp_rc rfl) r4 rH4 _ g5) cal_X3_goUntilThere (sc_210 hG) (by decide) (C := RX3) (T := TX3) (N := 6) rfl rfl ins_X3_goUntilThere sel_X3_goUntilThere wm_600 (by decide) rfl rfl (Nat.le_of_ble_eq_true rfl) dX3_reaches_22 (fun z9 => ?_)
  obtain ⟨rc6, rH7⟩ := z9
  refine x_ldc (x := (-1000000)) wc_605 rfl dX3_reaches_25 ?_
  refine x_iceq (tgt := 34) dX3_reaches_27 (by decide) rc6 (hp_rc rfl) (fun hc8 => ?_) (fun hc8 => ?_)
  · replace h := hp_it hc8 h
    refine x_iconst dX3_reaches_34 ?_
    cases h
    exact x_zret ⟨(hp_rc rfl), rH7⟩ (Or.inl rfl) dX3_reaches_35
  · replace h := hp_if hc8 h
    refine x_iconst dX3_reaches_30 ?_
    refine x_goto (tgt := 35) dX3_reaches_31 (by decide) ?_
    cases h
    exact x_zret ⟨(hp_rc rfl), rH7⟩ (Or.inr rfl) dX3_reaches_35
set_option maxRecDepth 100000 in
theorem ok_X3_spotsFor_12 {G : hp_G} (hG : hp_sh G = hp_shc) {l : Launch} {vv : Option Value} {H' : hp_H} {Z : Prop} : ∀ (n : Nat) (v2 : Int) (v3 : Int) (v4 : Int) (v5 : Int) (H : hp_H), hp_r v2 → hp_r v3 → hp_r v4 → hp_r v5 → hp_in H → ∀ m4 : Int, ∀ Hm : hp_H, f_X3_spotsFor_12 n v2 v3 v4 v5 H = some (m4, Hm) → (hp_r m4 → hp_in Hm → hp_R G l cX3_spotsFor 6 (some .int) "HeelPost$Foretold" (hp_rm 5) vv H' Z 52 [(4, .int (hp_I m4))] [] Hm) → hp_R G l cX3_spotsFor 6 (some .int) "HeelPost$Foretold" (hp_rm 5) vv H' Z 12 [(0, .ref (hp_ad G 210)), (1, .ref (hp_ad G 15)), (2, .int (hp_I v2)), (3, .int (hp_I v3)), (4, .int (hp_I v4)), (5, .int (hp_I v5))] [] H := by
  intro n
  induction n with
  | zero =>
    intro v2 v3 v4 v5 H r2 r3 r4 r5 rH m4 Hm h kx
    exact hp_no h
  | succ n ih =>
    intro v2 v3 v4 v5 H r2 r3 r4 r5 rH m4 Hm h kx
    unfold f_X3_spotsFor_12 at h
    refine x_iload dX3_spotsFor_12 5 rfl ?_
    refine x_aload_n dX3_spotsFor_14 1 rfl ?_
    refine x_gi 0 0 rfl (tw_0 (tw_at15 hG)) (tw_p (tw_at15 hG)) (C := RX6) (T := TX6) (N := 12) rfl in_X6 (by decide) rfl wf_70 dX3_spotsFor_15 ?_
    refine x_icge (tgt := 52) dX3_spotsFor_18 (by decide) r5 (rH _ _) (fun hc3 => ?_) (fun hc3 => ?_)
    · replace h := hp_if hc3 h
      cases h
      exact x_sub [4] rfl (kx r4 rH)
    · replace h := hp_it hc3 h
      refine x_iload dX3_spotsFor_21 4 rfl ?_
      refine x_aload_n dX3_spotsFor_23 0 rfl ?_
      refine x_aload_n dX3_spotsFor_24 1 rfl ?_
      refine x_iload dX3_spotsFor_25 5 rfl ?_
      refine x_iload_n dX3_spotsFor_27 2 rfl ?_
      refine x_iload_n dX3_spotsFor_28 3 rfl ?_
      obtain ⟨c5, H6, g4, h⟩ := hp_b2_e h
      refine x_ivi (As := [.ref (hp_ad G 15), .int (hp_I v5), .int (hp_I v2), .int (hp_I v3)]) (ok_X3_reaches hG v5 v2 v3 H r5 r2 r3 rH _ g4) cal_X3_reaches (sc_210 hG) (by decide) (C := RX3) (T := TX3) (N := 6) rfl rfl ins_X3_reaches sel_X3_reaches wm_635 (by decide) rfl rfl (Nat.le_of_ble_eq_true rfl) dX3_spotsFor_29 (fun z9 => ?_)
      obtain ⟨rc5, rH6⟩ := z9
      obtain ⟨m7, em7⟩ : ∃ z : Int, z = (if c5 = 0 then 0 else (hp_shl 1 v5)) := ⟨_, rfl⟩
      replace h := hp_let_e em7 h
      have rm7 := hp_re em7 (hp_rite (hp_rc rfl) (hp_rshl _ _))
      have kj : hp_R G l cX3_spotsFor 6 (some .int) "HeelPost$Foretold" (hp_rm 5) vv H' Z 43 [(0, .ref (hp_ad G 210)), (1, .ref (hp_ad G 15)), (2, .int (hp_I v2)), (3, .int (hp_I v3)), (5, .int (hp_I v5))] [.int (hp_I m7), .int (hp_I v4)] H6 := by
        refine x_ior dX3_spotsFor_43 ?_
        obtain ⟨v4_8, ev4_8⟩ : ∃ z : Int, z = (hp_or v4 m7) := ⟨_, rfl⟩
        replace h := hp_let_e ev4_8 h
        have rv4_8 := hp_re ev4_8 (hp_ror _ _)
        refine x_isE (L' := [(4, .int (hp_I v4_8)), (0, .ref (hp_ad G 210)), (1, .ref (hp_ad G 15)), (2, .int (hp_I v2)), (3, .int (hp_I v3)), (5, .int (hp_I v5))]) ev4_8 dX3_spotsFor_44 (by decide) rfl ?_
        obtain ⟨v5_9, ev5_9⟩ : ∃ z : Int, z = (hp_w (v5 + 1)) := ⟨_, rfl⟩
        replace h := hp_let_e ev5_9 h
        have rv5_9 := hp_re ev5_9 (hp_rw _)
        refine x_iiE (L' := [(5, .int (hp_I v5_9)), (4, .int (hp_I v4_8)), (0, .ref (hp_ad G 210)), (1, .ref (hp_ad G 15)), (2, .int (hp_I v2)), (3, .int (hp_I v3))]) ev5_9 dX3_spotsFor_46 5 rfl (by decide) rfl ?_
        refine x_goto (tgt := 12) dX3_spotsFor_49 (by decide) ?_
        exact x_sub [2, 3, 4, 5, 1, 0] rfl (ih v2 v3 v4_8 v5_9 H6 r2 r3 rv4_8 rv5_9 rH6 _ _ h kx)
      clear h
      refine x_ifeq (tgt := 42) dX3_spotsFor_32 (by decide) rc5 (fun hc10 => ?_) (fun hc10 => ?_)
      · refine x_iconst dX3_spotsFor_42 ?_
        have q9 := (em7.trans (if_pos hc10))
        subst q9
        exact x_sub [0, 1, 2, 3, 5] rfl kj
      · refine x_iconst dX3_spotsFor_35 ?_
        refine x_iload dX3_spotsFor_36 5 rfl ?_
        refine x_ishl dX3_spotsFor_38 ?_
        refine x_goto (tgt := 43) dX3_spotsFor_39 (by decide) ?_
        have q9 := (em7.trans (if_neg hc10))
        subst q9
        exact x_sub [0, 1, 2, 3, 5] rfl kj
set_option maxRecDepth 100000 in
theorem ok_X3_spotsFor {G : hp_G} (hG : hp_sh G = hp_shc) {l : Launch} (v2 : Int) (v3 : Int) (H : hp_H) (r2 : hp_r v2) (r3 : hp_r v3) (rH : hp_in H) (x : Int × hp_H) (h : f_X3_spotsFor v2 v3 H = some x) : hp_M G l yX3_spotsFor cX3_spotsFor 6 (some .int) (hp_rm 5) [.ref (hp_ad G 210), .ref (hp_ad G 15), .int (hp_I v2), .int (hp_I v3)] H (some (.int (hp_I x.1))) x.2 (hp_r x.1 ∧ hp_in x.2) := by
  obtain ⟨r, H'⟩ := x
  unfold f_X3_spotsFor at h
  refine hp_body "HeelPost$Foretold" (by decide) rfl ⟨rfl, rfl⟩ (Nat.le_of_ble_eq_true rfl) ?_
  show hp_R G l cX3_spotsFor 6 (some .int) "HeelPost$Foretold" (hp_rm 5) (some (.int (hp_I r))) H' (hp_r r ∧ hp_in H') 0 [(0, .ref (hp_ad G 210)), (1, .ref (hp_ad G 15)), (2, .int (hp_I v2)), (3, .int (hp_I v3))] [] H
  refine x_aload_n dX3_spotsFor_0 0 rfl ?_
  refine x_aload_n dX3_spotsFor_1 1 rfl ?_
  refine x_iload_n dX3_spotsFor_2 3 rfl ?_
  obtain ⟨H2, g1, h⟩ := hp_b1_e h
  refine x_ivv (As := [.ref (hp_ad G 15), .int (hp_I v3)]) (ok_X3_prepare hG v3 H r3 rH _ g1) cal_X3_prepare (sc_210 hG) (by decide) (C := RX3) (T := TX3) (N := 6) rfl rfl ins_X3_prepare sel_X3_prepare wm_560 (by decide) rfl rfl (Nat.le_of_ble_eq_true rfl) dX3_spotsFor_3 (fun z9 => ?_)
  have rH2 := z9
  refine x_iconst dX3_spotsFor_6 ?_
  refine x_istore (L' := [(4, .int (hp_I 0)), (0, .ref (hp_ad G 210)), (1, .ref (hp_ad G 15)), (2, .int (hp_I v2)), (3, .int (hp_I v3))]) dX3_spotsFor_7 (by decide) rfl ?_
  refine x_iconst dX3_spotsFor_9 ?_
  refine x_istore (L' := [(5, .int (hp_I 0)), (4, .int (hp_I 0)), (0, .ref (hp_ad G 210)), (1, .ref (hp_ad G 15)), (2, .int (hp_I v2)), (3, .int (hp_I v3))]) dX3_spotsFor_10 (by decide) rfl ?_
  obtain ⟨v4_11, H12, g13, h⟩ := hp_b2_e h
  refine x_sub [2, 3, 4, 5, 1, 0] rfl (ok_X3_spotsFor_12 hG 1000 v2 v3 0 0 H2 r2 r3 (hp_rc rfl) (hp_rc rfl) rH2 _ _ g13 ?_)
  intro rv4_11 rH12
  refine x_iload dX3_spotsFor_52 0 rfl ?_
  cases h
  exact x_iret ⟨rv4_11, rH12⟩ dX3_spotsFor_54
set_option maxRecDepth 100000 in
theorem ok_X3_unreached_29 {G : hp_G} (hG : hp_sh G = hp_shc) {l : Launch} {vv : Option Value} {H' : hp_H} {Z : Prop} : ∀ (n : Nat) (v2 : Int) (v3 : Int) (v4 : Int) (H : hp_H), hp_r v2 → hp_r v3 → hp_r v4 → hp_in H → ∀ m2 : Int, ∀ Hm : hp_H, f_X3_unreached_29 n v2 v3 v4 H = some (m2, Hm) → (hp_r m2 → hp_in Hm → hp_R G l cX3_unreached 5 (some .int) "HeelPost$Foretold" (hp_rm 5) vv H' Z 84 [(0, .ref (hp_ad G 210)), (1, .ref (hp_ad G 15)), (2, .int (hp_I m2)), (3, .int (hp_I v3))] [] Hm) → hp_R G l cX3_unreached 5 (some .int) "HeelPost$Foretold" (hp_rm 5) vv H' Z 29 [(0, .ref (hp_ad G 210)), (1, .ref (hp_ad G 15)), (2, .int (hp_I v2)), (3, .int (hp_I v3)), (4, .int (hp_I v4))] [] H := by
  intro n
  induction n with
  | zero =>
    intro v2 v3 v4 H r2 r3 r4 rH m2 Hm h kx
    exact hp_no h
  | succ n ih =>
    intro v2 v3 v4 H r2 r3 r4 rH m2 Hm h kx
    unfold f_X3_unreached_29 at h
    refine x_iload dX3_unreached_29 4 rfl ?_
    refine x_aload_n dX3_unreached_31 1 rfl ?_
    refine x_gi 0 0 rfl (tw_0 (tw_at15 hG)) (tw_p (tw_at15 hG)) (C := RX6) (T := TX6) (N := 12) rfl in_X6 (by decide) rfl wf_70 dX3_unreached_32 ?_
    refine x_icge (tgt := 84) dX3_unreached_35 (by decide) r4 (rH _ _) (fun hc5 => ?_) (fun hc5 => ?_)
    · replace h := hp_if hc5 h
      cases h
      exact x_sub [0, 1, 2, 3] rfl (kx r2 rH)
    · replace h := hp_it hc5 h
      refine x_iload_n dX3_unreached_38 2 rfl ?_
      refine x_iload_n dX3_unreached_39 3 rfl ?_
      refine x_ishr dX3_unreached_40 ?_
      refine x_iconst dX3_unreached_41 ?_
      refine x_iand dX3_unreached_42 ?_
      refine x_iconst dX3_unreached_43 ?_
      refine x_icne (tgt := 84) dX3_unreached_44 (by decide) (hp_rand _ _) (hp_rc rfl) (fun hc6 => ?_) (fun hc6 => ?_)
      · replace h := hp_if hc6 h
        cases h
        exact x_sub [0, 1, 2, 3] rfl (kx r2 rH)
      · replace h := hp_it hc6 h
        refine x_iload_n dX3_unreached_47 2 rfl ?_
        refine x_iload dX3_unreached_48 4 rfl ?_
        refine x_iload_n dX3_unreached_50 3 rfl ?_
        obtain ⟨m7, H8, hm9, h⟩ := hp_b2_e h
        have kj : hp_r m7 → hp_in H8 → hp_R G l cX3_unreached 5 (some .int) "HeelPost$Foretold" (hp_rm 5) vv H' Z 76 [(0, .ref (hp_ad G 210)), (1, .ref (hp_ad G 15)), (3, .int (hp_I v3)), (4, .int (hp_I v4))] [.int (hp_I m7), .int (hp_I v2)] H8 := by
          intro rm7 rH8
          refine x_iand dX3_unreached_76 ?_
          obtain ⟨v2_10, ev2_10⟩ : ∃ z : Int, z = (hp_and v2 m7) := ⟨_, rfl⟩
          replace h := hp_let_e ev2_10 h
          have rv2_10 := hp_re ev2_10 (hp_rand _ _)
          refine x_isnE (L' := [(2, .int (hp_I v2_10)), (0, .ref (hp_ad G 210)), (1, .ref (hp_ad G 15)), (3, .int (hp_I v3)), (4, .int (hp_I v4))]) ev2_10 dX3_unreached_77 rfl (by decide) rfl ?_
          obtain ⟨v4_11, ev4_11⟩ : ∃ z : Int, z = (hp_w (v4 + 1)) := ⟨_, rfl⟩
          replace h := hp_let_e ev4_11 h
          have rv4_11 := hp_re ev4_11 (hp_rw _)
          refine x_iiE (L' := [(4, .int (hp_I v4_11)), (2, .int (hp_I v2_10)), (0, .ref (hp_ad G 210)), (1, .ref (hp_ad G 15)), (3, .int (hp_I v3))]) ev4_11 dX3_unreached_78 4 rfl (by decide) rfl ?_
          refine x_goto (tgt := 29) dX3_unreached_81 (by decide) ?_
          exact x_sub [2, 3, 1, 4, 0] rfl (ih v2_10 v3 v4_11 H8 rv2_10 r3 rv4_11 rH8 _ _ h kx)
        clear h
        have h := hm9
        clear hm9
        refine x_iceq (tgt := 75) dX3_unreached_51 (by decide) r4 r3 (fun hc12 => ?_) (fun hc12 => ?_)
        · replace h := hp_it hc12 h
          refine x_iconst dX3_unreached_75 ?_
          cases h
          exact x_sub [0, 1, 3, 4] rfl (kj (hp_rc rfl) rH)
        · replace h := hp_if hc12 h
          refine x_aload_n dX3_unreached_54 0 rfl ?_
          refine x_aload_n dX3_unreached_55 1 rfl ?_
          refine x_iload dX3_unreached_56 4 rfl ?_
          refine x_iload_n dX3_unreached_58 3 rfl ?_
          refine x_bipush rfl dX3_unreached_59 ?_
          obtain ⟨c14, H15, g13, h⟩ := hp_b2_e h
          refine x_ivi (As := [.ref (hp_ad G 15), .int (hp_I v4), .int (hp_I v3), .int (hp_I 99)]) (ok_X3_reaches hG v4 v3 99 H r4 r3 (hp_rc rfl) rH _ g13) cal_X3_reaches (sc_210 hG) (by decide) (C := RX3) (T := TX3) (N := 6) rfl rfl ins_X3_reaches sel_X3_reaches wm_635 (by decide) rfl rfl (Nat.le_of_ble_eq_true rfl) dX3_unreached_61 (fun z9 => ?_)
          obtain ⟨rc14, rH15⟩ := z9
          refine x_ifeq (tgt := 75) dX3_unreached_64 (by decide) rc14 (fun hc16 => ?_) (fun hc16 => ?_)
          · replace h := hp_it hc16 h
            refine x_iconst dX3_unreached_75 ?_
            cases h
            exact x_sub [0, 1, 3, 4] rfl (kj (hp_rc rfl) rH15)
          · replace h := hp_if hc16 h
            refine x_iconst dX3_unreached_67 ?_
            refine x_iload_n dX3_unreached_68 3 rfl ?_
            refine x_ishl dX3_unreached_69 ?_
            refine x_iconst dX3_unreached_70 ?_
            refine x_ixor dX3_unreached_71 ?_
            refine x_goto (tgt := 76) dX3_unreached_72 (by decide) ?_
            cases h
            exact x_sub [0, 1, 3, 4] rfl (kj (hp_rxor _ _) rH15)
set_option maxRecDepth 100000 in
theorem ok_X3_unreached_18 {G : hp_G} (hG : hp_sh G = hp_shc) {l : Launch} {vv : Option Value} {H' : hp_H} {Z : Prop} : ∀ (n : Nat) (v2 : Int) (v3 : Int) (H : hp_H), hp_r v2 → hp_r v3 → hp_in H → ∀ m2 : Int, ∀ Hm : hp_H, f_X3_unreached_18 n v2 v3 H = some (m2, Hm) → (hp_r m2 → hp_in Hm → hp_R G l cX3_unreached 5 (some .int) "HeelPost$Foretold" (hp_rm 5) vv H' Z 90 [(2, .int (hp_I m2))] [] Hm) → hp_R G l cX3_unreached 5 (some .int) "HeelPost$Foretold" (hp_rm 5) vv H' Z 18 [(0, .ref (hp_ad G 210)), (1, .ref (hp_ad G 15)), (2, .int (hp_I v2)), (3, .int (hp_I v3))] [] H := by
  intro n
  induction n with
  | zero =>
    intro v2 v3 H r2 r3 rH m2 Hm h kx
    exact hp_no h
  | succ n ih =>
    intro v2 v3 H r2 r3 rH m2 Hm h kx
    unfold f_X3_unreached_18 at h
    refine x_iload_n dX3_unreached_18 3 rfl ?_
    refine x_aload_n dX3_unreached_19 1 rfl ?_
    refine x_gi 0 0 rfl (tw_0 (tw_at15 hG)) (tw_p (tw_at15 hG)) (C := RX6) (T := TX6) (N := 12) rfl in_X6 (by decide) rfl wf_70 dX3_unreached_20 ?_
    refine x_icge (tgt := 90) dX3_unreached_23 (by decide) r3 (rH _ _) (fun hc4 => ?_) (fun hc4 => ?_)
    · replace h := hp_if hc4 h
      cases h
      exact x_sub [2] rfl (kx r2 rH)
    · replace h := hp_it hc4 h
      refine x_iconst dX3_unreached_26 ?_
      refine x_istore (L' := [(4, .int (hp_I 0)), (0, .ref (hp_ad G 210)), (1, .ref (hp_ad G 15)), (2, .int (hp_I v2)), (3, .int (hp_I v3))]) dX3_unreached_27 (by decide) rfl ?_
      obtain ⟨v2_17, H18, g19, h⟩ := hp_b2_e h
      refine x_sub [1, 2, 3, 4, 0] rfl (ok_X3_unreached_29 hG 1000 v2 v3 0 H r2 r3 (hp_rc rfl) rH _ _ g19 ?_)
      intro rv2_17 rH18
      obtain ⟨v3_20, ev3_20⟩ : ∃ z : Int, z = (hp_w (v3 + 1)) := ⟨_, rfl⟩
      replace h := hp_let_e ev3_20 h
      have rv3_20 := hp_re ev3_20 (hp_rw _)
      refine x_iiE (L' := [(3, .int (hp_I v3_20)), (0, .ref (hp_ad G 210)), (1, .ref (hp_ad G 15)), (2, .int (hp_I v2_17))]) ev3_20 dX3_unreached_84 3 rfl (by decide) rfl ?_
      refine x_goto (tgt := 18) dX3_unreached_87 (by decide) ?_
      exact x_sub [1, 2, 3, 0] rfl (ih v2_17 v3_20 H18 rv2_17 rv3_20 rH18 _ _ h kx)
set_option maxRecDepth 100000 in
theorem ok_X3_unreached {G : hp_G} (hG : hp_sh G = hp_shc) {l : Launch}  (H : hp_H) (rH : hp_in H) (x : Int × hp_H) (h : f_X3_unreached  H = some x) : hp_M G l yX3_unreached cX3_unreached 5 (some .int) (hp_rm 5) [.ref (hp_ad G 210), .ref (hp_ad G 15)] H (some (.int (hp_I x.1))) x.2 (hp_r x.1 ∧ hp_in x.2) := by
  obtain ⟨r, H'⟩ := x
  unfold f_X3_unreached at h
  refine hp_body "HeelPost$Foretold" (by decide) rfl ⟨rfl, rfl⟩ (Nat.le_of_ble_eq_true rfl) ?_
  show hp_R G l cX3_unreached 5 (some .int) "HeelPost$Foretold" (hp_rm 5) (some (.int (hp_I r))) H' (hp_r r ∧ hp_in H') 0 [(0, .ref (hp_ad G 210)), (1, .ref (hp_ad G 15))] [] H
  refine x_aload_n dX3_unreached_0 0 rfl ?_
  refine x_aload_n dX3_unreached_1 1 rfl ?_
  refine x_bipush rfl dX3_unreached_2 ?_
  obtain ⟨H2, g1, h⟩ := hp_b1_e h
  refine x_ivv (As := [.ref (hp_ad G 15), .int (hp_I 99)]) (ok_X3_prepare hG 99 H (hp_rc rfl) rH _ g1) cal_X3_prepare (sc_210 hG) (by decide) (C := RX3) (T := TX3) (N := 6) rfl rfl ins_X3_prepare sel_X3_prepare wm_560 (by decide) rfl rfl (Nat.le_of_ble_eq_true rfl) dX3_unreached_4 (fun z9 => ?_)
  have rH2 := z9
  refine x_iconst dX3_unreached_7 ?_
  refine x_aload_n dX3_unreached_8 1 rfl ?_
  refine x_gi 0 0 rfl (tw_0 (tw_at15 hG)) (tw_p (tw_at15 hG)) (C := RX6) (T := TX6) (N := 12) rfl in_X6 (by decide) rfl wf_70 dX3_unreached_9 ?_
  refine x_ishl dX3_unreached_12 ?_
  refine x_iconst dX3_unreached_13 ?_
  refine x_isub dX3_unreached_14 ?_
  obtain ⟨v2_3, ev2_3⟩ : ∃ z : Int, z = (hp_w ((hp_shl 1 (H2 15 0)) - 1)) := ⟨_, rfl⟩
  replace h := hp_let_e ev2_3 h
  have rv2_3 := hp_re ev2_3 (hp_rw _)
  refine x_isnE (L' := [(2, .int (hp_I v2_3)), (0, .ref (hp_ad G 210)), (1, .ref (hp_ad G 15))]) ev2_3 dX3_unreached_15 rfl (by decide) rfl ?_
  refine x_iconst dX3_unreached_16 ?_
  refine x_istore_n (L' := [(3, .int (hp_I 0)), (2, .int (hp_I v2_3)), (0, .ref (hp_ad G 210)), (1, .ref (hp_ad G 15))]) dX3_unreached_17 rfl (by decide) rfl ?_
  obtain ⟨v2_21, H22, g23, h⟩ := hp_b2_e h
  refine x_sub [2, 3, 1, 0] rfl (ok_X3_unreached_18 hG 1000 v2_3 0 H2 rv2_3 (hp_rc rfl) rH2 _ _ g23 ?_)
  intro rv2_21 rH22
  refine x_iload_n dX3_unreached_90 0 rfl ?_
  cases h
  exact x_iret ⟨rv2_21, rH22⟩ dX3_unreached_91
set_option maxRecDepth 100000 in
theorem ok_X3_isThereWith {G : hp_G} (hG : hp_sh G = hp_shc) {l : Launch} (v2 : Int) (v3 : Int) (v4 : Int) (H : hp_H) (r2 : hp_r v2) (r3 : hp_r v3) (r4 : hp_r v4) (rH : hp_in H) (x : Int × hp_H) (h : f_X3_isThereWith v2 v3 v4 H = some x) : hp_M G l yX3_isThereWith cX3_isThereWith 5 (some .boolean) (hp_rm 4) [.ref (hp_ad G 210), .ref (hp_ad G 15), .int (hp_I v2), .int (hp_I v3), .int (hp_I v4)] H (some (.int (hp_I x.1))) x.2 (hp_r x.1 ∧ hp_in x.2) := by
  obtain ⟨r, H'⟩ := x
  unfold f_X3_isThereWith at h
  refine hp_body "HeelPost$Foretold" (by decide) rfl ⟨rfl, rfl⟩ (Nat.le_of_ble_eq_true rfl) ?_
  show hp_R G l cX3_isThereWith 5 (some .boolean) "HeelPost$Foretold" (hp_rm 4) (some (.int (hp_I r))) H' (hp_r r ∧ hp_in H') 0 [(0, .ref (hp_ad G 210)), (1, .ref (hp_ad G 15)), (2, .int (hp_I v2)), (3, .int (hp_I v3)), (4, .int (hp_I v4))] [] H
  refine x_aload_n dX3_isThereWith_0 0 rfl ?_
  refine x_getr 1 (sc_210 hG) (by decide) (C := RX3) (T := TX3) (N := 6) rfl in_X3 (by decide) rfl wf_195 dX3_isThereWith_1 ?_
  refine x_aload_n dX3_isThereWith_4 1 rfl ?_
  obtain ⟨H2, g1, h⟩ := hp_b1_e h
  refine x_ivv (As := [.ref (hp_ad G 15)]) (ok_X6_takeLetters hG 211 15 H (tw_at211 hG) (tw_at15 hG) rH _ g1) cal_X6_takeLetters (tw_0 (tw_at211 hG)) (tw_p (tw_at211 hG)) (C := RX6) (T := TX6) (N := 12) rfl rfl ins_X6_takeLetters sel_X6_takeLetters wm_625 (by decide) rfl rfl (Nat.le_of_ble_eq_true rfl) dX3_isThereWith_5 (fun z9 => ?_)
  have rH2 := z9
  refine x_aload_n dX3_isThereWith_8 0 rfl ?_
  refine x_getr 1 (sc_210 hG) (by decide) (C := RX3) (T := TX3) (N := 6) rfl in_X3 (by decide) rfl wf_195 dX3_isThereWith_9 ?_
  refine x_iload_n dX3_isThereWith_12 2 rfl ?_
  obtain ⟨H3, eH3⟩ : ∃ z : hp_H, z = hp_up H2 211 5 v2 := ⟨_, rfl⟩
  replace h := hp_let_e eH3 h
  have rH3 := hp_ine eH3 (hp_in_up rH2 r2)
  refine x_pi 5 5 rfl tyX6 eH3 (tw_0 (tw_at211 hG)) (tw_p (tw_at211 hG)) (C := RX6) (T := TX6) (N := 12) rfl in_X6 tyX6_ok nmX6 (by decide) rfl rfl rfl wf_87 dX3_isThereWith_13 ?_
  refine x_aload_n dX3_isThereWith_16 0 rfl ?_
  refine x_iload_n dX3_isThereWith_17 3 rfl ?_
  refine x_iload dX3_isThereWith_18 4 rfl ?_
  obtain ⟨c5, H6, g4, h⟩ := hp_b2_e h
  refine x_ivi (As := [.int (hp_I v3), .int (hp_I v4)]) (ok_X3_goUntilThere hG v3 v4 H3 r3 r4 rH3 _ g4) cal_X3_goUntilThere (sc_210 hG) (by decide) (C := RX3) (T := TX3) (N := 6) rfl rfl ins_X3_goUntilThere sel_X3_goUntilThere wm_600 (by decide) rfl rfl (Nat.le_of_ble_eq_true rfl) dX3_isThereWith_20 (fun z9 => ?_)
  obtain ⟨rc5, rH6⟩ := z9
  refine x_ldc (x := (-1000000)) wc_605 rfl dX3_isThereWith_23 ?_
  refine x_iceq (tgt := 32) dX3_isThereWith_25 (by decide) rc5 (hp_rc rfl) (fun hc7 => ?_) (fun hc7 => ?_)
  · replace h := hp_it hc7 h
    refine x_iconst dX3_isThereWith_32 ?_
    cases h
    exact x_zret ⟨(hp_rc rfl), rH6⟩ (Or.inl rfl) dX3_isThereWith_33
  · replace h := hp_if hc7 h
    refine x_iconst dX3_isThereWith_28 ?_
    refine x_goto (tgt := 33) dX3_isThereWith_29 (by decide) ?_
    cases h
    exact x_zret ⟨(hp_rc rfl), rH6⟩ (Or.inr rfl) dX3_isThereWith_33
set_option maxRecDepth 100000 in
theorem ok_X3_fewest_19 {G : hp_G} (hG : hp_sh G = hp_shc) {l : Launch} {vv : Option Value} {H' : hp_H} {Z : Prop} : ∀ (n : Nat) (v2 : Int) (v3 : Int) (v4 : Int) (v5 : Int) (v6 : Int) (v7 : Int) (H : hp_H), hp_r v2 → hp_r v3 → hp_r v4 → hp_r v5 → hp_r v6 → hp_r v7 → hp_in H → ∀ m6 : Int, ∀ Hm : hp_H, f_X3_fewest_19 n v2 v3 v4 v5 v6 v7 H = some (m6, Hm) → (hp_r m6 → hp_in Hm → hp_R G l cX3_fewest 9 (some .int) "HeelPost$Foretold" (hp_rm 5) vv H' Z 95 [(4, .int (hp_I v4)), (6, .int (hp_I m6))] [] Hm) → hp_R G l cX3_fewest 9 (some .int) "HeelPost$Foretold" (hp_rm 5) vv H' Z 19 [(0, .ref (hp_ad G 210)), (1, .ref (hp_ad G 15)), (2, .int (hp_I v2)), (3, .int (hp_I v3)), (4, .int (hp_I v4)), (5, .int (hp_I v5)), (6, .int (hp_I v6)), (7, .int (hp_I v7))] [] H := by
  intro n
  induction n with
  | zero =>
    intro v2 v3 v4 v5 v6 v7 H r2 r3 r4 r5 r6 r7 rH m6 Hm h kx
    exact hp_no h
  | succ n ih =>
    intro v2 v3 v4 v5 v6 v7 H r2 r3 r4 r5 r6 r7 rH m6 Hm h kx
    unfold f_X3_fewest_19 at h
    refine x_iload dX3_fewest_19 7 rfl ?_
    refine x_iload dX3_fewest_21 5 rfl ?_
    refine x_icgt (tgt := 95) dX3_fewest_23 (by decide) r7 r5 (fun hc5 => ?_) (fun hc5 => ?_)
    · replace h := hp_it hc5 h
      cases h
      exact x_sub [4, 6] rfl (kx r6 rH)
    · replace h := hp_if hc5 h
      refine x_iload dX3_fewest_26 6 rfl ?_
      refine x_ldc (x := (-1000000)) wc_605 rfl dX3_fewest_28 ?_
      obtain ⟨m6, hm7, h⟩ := hp_b1_e h
      have kj : hp_r m6 → (m6 = 0 ∨ m6 = 1) → hp_R G l cX3_fewest 9 (some .int) "HeelPost$Foretold" (hp_rm 5) vv H' Z 51 [(0, .ref (hp_ad G 210)), (1, .ref (hp_ad G 15)), (2, .int (hp_I v2)), (3, .int (hp_I v3)), (4, .int (hp_I v4)), (5, .int (hp_I v5)), (6, .int (hp_I v6)), (7, .int (hp_I v7))] [.int (hp_I m6)] H := by
        intro rm6 zm6
        refine x_istore (L' := [(8, .int (hp_I m6)), (0, .ref (hp_ad G 210)), (1, .ref (hp_ad G 15)), (2, .int (hp_I v2)), (3, .int (hp_I v3)), (4, .int (hp_I v4)), (5, .int (hp_I v5)), (6, .int (hp_I v6)), (7, .int (hp_I v7))]) dX3_fewest_51 (by decide) rfl ?_
        refine x_iload dX3_fewest_53 8 rfl ?_
        refine x_aload_n dX3_fewest_55 2 rfl ?_
        refine x_gi 5 5 rfl (tw_0 (tw_at15 hG)) (tw_p (tw_at15 hG)) (C := RX6) (T := TX6) (N := 12) rfl in_X6 (by decide) rfl wf_87 dX3_fewest_56 ?_
        refine x_iand dX3_fewest_59 ?_
        obtain ⟨v6_8, H9, hm10, h⟩ := hp_b2_e h
        have kj : hp_r v6_8 → hp_in H9 → hp_R G l cX3_fewest 9 (some .int) "HeelPost$Foretold" (hp_rm 5) vv H' Z 89 [(0, .ref (hp_ad G 210)), (1, .ref (hp_ad G 15)), (2, .int (hp_I v2)), (3, .int (hp_I v3)), (4, .int (hp_I v4)), (5, .int (hp_I v5)), (6, .int (hp_I v6_8)), (7, .int (hp_I v7))] [] H9 := by
          intro rv6_8 rH9
          obtain ⟨v7_11, ev7_11⟩ : ∃ z : Int, z = (hp_w (v7 + 1)) := ⟨_, rfl⟩
          replace h := hp_let_e ev7_11 h
          have rv7_11 := hp_re ev7_11 (hp_rw _)
          refine x_iiE (L' := [(7, .int (hp_I v7_11)), (0, .ref (hp_ad G 210)), (1, .ref (hp_ad G 15)), (2, .int (hp_I v2)), (3, .int (hp_I v3)), (4, .int (hp_I v4)), (5, .int (hp_I v5)), (6, .int (hp_I v6_8))]) ev7_11 dX3_fewest_89 7 rfl (by decide) rfl ?_
          refine x_goto (tgt := 19) dX3_fewest_92 (by decide) ?_
          exact x_sub [1, 2, 3, 4, 5, 6, 7, 0] rfl (ih v2 v3 v4 v5 v6_8 v7_11 H9 r2 r3 r4 r5 rv6_8 rv7_11 rH9 _ _ h kx)
        clear h
        have h := hm10
        clear hm10
        refine x_ifne (tgt := 89) dX3_fewest_60 (by decide) (hp_rand _ _) (fun hc12 => ?_) (fun hc12 => ?_)
        · replace h := hp_if hc12 h
          cases h
          exact x_sub [1, 2, 3, 4, 5, 6, 7, 8] rfl (kj r6 rH)
        · replace h := hp_it hc12 h
          refine x_iload dX3_fewest_63 0 rfl ?_
          refine x_ifeq (tgt := 89) dX3_fewest_65 (by decide) rm6 (fun hc13 => ?_) (fun hc13 => ?_)
          · replace h := hp_it hc13 h
            cases h
            exact x_sub [1, 2, 3, 4, 5, 6, 7, 8] rfl (kj r6 rH)
          · replace h := hp_if hc13 h
            refine x_aload_n dX3_fewest_68 1 rfl ?_
            refine x_aload_n dX3_fewest_69 2 rfl ?_
            refine x_iload dX3_fewest_70 6 rfl ?_
            refine x_iload dX3_fewest_72 8 rfl ?_
            refine x_iconst dX3_fewest_74 ?_
            refine x_ixor dX3_fewest_75 ?_
            refine x_iand dX3_fewest_76 ?_
            refine x_iload_n dX3_fewest_77 3 rfl ?_
            refine x_iload_n dX3_fewest_78 4 rfl ?_
            obtain ⟨c15, H16, g14, h⟩ := hp_b2_e h
            refine x_ivi (As := [.ref (hp_ad G 15), .int (hp_I (hp_and v5 (hp_xor v7 (-1)))), .int (hp_I v2), .int (hp_I v3)]) (ok_X3_isThereWith hG (hp_and v5 (hp_xor v7 (-1))) v2 v3 H (hp_rand _ _) r2 r3 rH _ g14) cal_X3_isThereWith (sc_210 hG) (by decide) (C := RX3) (T := TX3) (N := 6) rfl rfl ins_X3_isThereWith sel_X3_isThereWith wm_665 (by decide) rfl rfl (Nat.le_of_ble_eq_true rfl) dX3_fewest_79 (fun z9 => ?_)
            obtain ⟨rc15, rH16⟩ := z9
            refine x_ifeq (tgt := 89) dX3_fewest_82 (by decide) rc15 (fun hc17 => ?_) (fun hc17 => ?_)
            · replace h := hp_it hc17 h
              cases h
              exact x_sub [1, 2, 3, 4, 5, 6, 7, 8] rfl (kj r6 rH16)
            · replace h := hp_if hc17 h
              refine x_iload dX3_fewest_85 8 rfl ?_
              refine x_istore (L' := [(6, .int (hp_I v7)), (8, .int (hp_I m6)), (0, .ref (hp_ad G 210)), (1, .ref (hp_ad G 15)), (2, .int (hp_I v2)), (3, .int (hp_I v3)), (4, .int (hp_I v4)), (5, .int (hp_I v5)), (7, .int (hp_I v7))]) dX3_fewest_87 (by decide) rfl ?_
              cases h
              exact x_sub [2, 3, 4, 5, 6, 7, 0, 8] rfl (kj r7 rH16)
      clear h
      have h := hm7
      clear hm7
      refine x_iceq (tgt := 46) dX3_fewest_30 (by decide) r6 (hp_rc rfl) (fun hc18 => ?_) (fun hc18 => ?_)
      · replace h := hp_it hc18 h
        refine x_iconst dX3_fewest_46 ?_
        refine x_goto (tgt := 51) dX3_fewest_47 (by decide) ?_
        cases h
        exact x_sub [0, 1, 2, 3, 4, 5, 6, 7] rfl (kj (hp_rc rfl) (Or.inr rfl))
      · replace h := hp_if hc18 h
        refine x_iload dX3_fewest_33 7 rfl ?_
        obtain ⟨c20, g19, h⟩ := hp_b1_e h
        refine x_isi (As := [.int (hp_I v7)]) (ok_J6_bitCount_0f7a4 hG v7 H r7 rH _ g19) cal_J6_bitCount_0f7a4 stt_J6_bitCount_0f7a4 wm_659 (by decide) rfl rfl (Nat.le_of_ble_eq_true rfl) dX3_fewest_35 (fun z9 => ?_)
        have rc20 := z9
        refine x_iload dX3_fewest_38 6 rfl ?_
        obtain ⟨c22, g21, h⟩ := hp_b1_e h
        refine x_isi (As := [.int (hp_I v6)]) (ok_J6_bitCount_0f7a4 hG v6 H r6 rH _ g21) cal_J6_bitCount_0f7a4 stt_J6_bitCount_0f7a4 wm_659 (by decide) rfl rfl (Nat.le_of_ble_eq_true rfl) dX3_fewest_40 (fun z9 => ?_)
        have rc22 := z9
        refine x_icge (tgt := 50) dX3_fewest_43 (by decide) rc20 rc22 (fun hc23 => ?_) (fun hc23 => ?_)
        · replace h := hp_if hc23 h
          refine x_iconst dX3_fewest_50 ?_
          cases h
          exact x_sub [0, 1, 2, 3, 4, 5, 6, 7] rfl (kj (hp_rc rfl) (Or.inl rfl))
        · replace h := hp_it hc23 h
          refine x_iconst dX3_fewest_46 ?_
          refine x_goto (tgt := 51) dX3_fewest_47 (by decide) ?_
          cases h
          exact x_sub [0, 1, 2, 3, 4, 5, 6, 7] rfl (kj (hp_rc rfl) (Or.inr rfl))
set_option maxRecDepth 100000 in
theorem ok_X3_fewest {G : hp_G} (hG : hp_sh G = hp_shc) {l : Launch} (v2 : Int) (v3 : Int) (v4 : Int) (H : hp_H) (r2 : hp_r v2) (r3 : hp_r v3) (r4 : hp_r v4) (rH : hp_in H) (x : Int × hp_H) (h : f_X3_fewest v2 v3 v4 H = some x) : hp_M G l yX3_fewest cX3_fewest 9 (some .int) (hp_rm 5) [.ref (hp_ad G 210), .ref (hp_ad G 15), .int (hp_I v2), .int (hp_I v3), .int (hp_I v4)] H (some (.int (hp_I x.1))) x.2 (hp_r x.1 ∧ hp_in x.2) := by
  obtain ⟨r, H'⟩ := x
  unfold f_X3_fewest at h
  refine hp_body "HeelPost$Foretold" (by decide) rfl ⟨rfl, rfl⟩ (Nat.le_of_ble_eq_true rfl) ?_
  show hp_R G l cX3_fewest 9 (some .int) "HeelPost$Foretold" (hp_rm 5) (some (.int (hp_I r))) H' (hp_r r ∧ hp_in H') 0 [(0, .ref (hp_ad G 210)), (1, .ref (hp_ad G 15)), (2, .int (hp_I v2)), (3, .int (hp_I v3)), (4, .int (hp_I v4))] [] H
  refine x_aload_n dX3_fewest_0 0 rfl ?_
  refine x_aload_n dX3_fewest_1 1 rfl ?_
  refine x_iload_n dX3_fewest_2 3 rfl ?_
  obtain ⟨H2, g1, h⟩ := hp_b1_e h
  refine x_ivv (As := [.ref (hp_ad G 15), .int (hp_I v3)]) (ok_X3_prepare hG v3 H r3 rH _ g1) cal_X3_prepare (sc_210 hG) (by decide) (C := RX3) (T := TX3) (N := 6) rfl rfl ins_X3_prepare sel_X3_prepare wm_560 (by decide) rfl rfl (Nat.le_of_ble_eq_true rfl) dX3_fewest_3 (fun z9 => ?_)
  have rH2 := z9
  refine x_aload_n dX3_fewest_6 1 rfl ?_
  obtain ⟨c4, g3, h⟩ := hp_b1_e h
  refine x_ivi (As := []) (ok_X6_everybody hG 15 H2 (tw_at15 hG) rH2 _ g3) cal_X6_everybody (tw_0 (tw_at15 hG)) (tw_p (tw_at15 hG)) (C := RX6) (T := TX6) (N := 12) rfl rfl ins_X6_everybody sel_X6_everybody wm_655 (by decide) rfl rfl (Nat.le_of_ble_eq_true rfl) dX3_fewest_7 (fun z9 => ?_)
  have rc4 := z9
  refine x_istore (L' := [(5, .int (hp_I c4)), (0, .ref (hp_ad G 210)), (1, .ref (hp_ad G 15)), (2, .int (hp_I v2)), (3, .int (hp_I v3)), (4, .int (hp_I v4))]) dX3_fewest_10 (by decide) rfl ?_
  refine x_ldc (x := (-1000000)) wc_605 rfl dX3_fewest_12 ?_
  refine x_istore (L' := [(6, .int (hp_I (-1000000))), (5, .int (hp_I c4)), (0, .ref (hp_ad G 210)), (1, .ref (hp_ad G 15)), (2, .int (hp_I v2)), (3, .int (hp_I v3)), (4, .int (hp_I v4))]) dX3_fewest_14 (by decide) rfl ?_
  refine x_iconst dX3_fewest_16 ?_
  refine x_istore (L' := [(7, .int (hp_I 0)), (6, .int (hp_I (-1000000))), (5, .int (hp_I c4)), (0, .ref (hp_ad G 210)), (1, .ref (hp_ad G 15)), (2, .int (hp_I v2)), (3, .int (hp_I v3)), (4, .int (hp_I v4))]) dX3_fewest_17 (by decide) rfl ?_
  obtain ⟨v6_24, H25, g26, h⟩ := hp_b2_e h
  refine x_sub [3, 4, 5, 6, 7, 2, 1, 0] rfl (ok_X3_fewest_19 hG 1000 v2 v3 v4 c4 (-1000000) 0 H2 r2 r3 r4 rc4 (hp_rc rfl) (hp_rc rfl) rH2 _ _ g26 ?_)
  intro rv6_24 rH25
  refine x_iload dX3_fewest_95 0 rfl ?_
  refine x_ifne (tgt := 115) dX3_fewest_97 (by decide) r4 (fun hc27 => ?_) (fun hc27 => ?_)
  · replace h := hp_if hc27 h
    refine x_iload dX3_fewest_115 1 rfl ?_
    cases h
    exact x_iret ⟨rv6_24, rH25⟩ dX3_fewest_117
  · replace h := hp_it hc27 h
    refine x_iload dX3_fewest_100 1 rfl ?_
    refine x_ldc (x := (-1000000)) wc_605 rfl dX3_fewest_102 ?_
    refine x_iceq (tgt := 115) dX3_fewest_104 (by decide) rv6_24 (hp_rc rfl) (fun hc28 => ?_) (fun hc28 => ?_)
    · replace h := hp_it hc28 h
      refine x_iload dX3_fewest_115 1 rfl ?_
      cases h
      exact x_iret ⟨rv6_24, rH25⟩ dX3_fewest_117
    · replace h := hp_if hc28 h
      refine x_iload dX3_fewest_107 1 rfl ?_
      obtain ⟨c30, g29, h⟩ := hp_b1_e h
      refine x_isi (As := [.int (hp_I v6_24)]) (ok_J6_bitCount_0f7a4 hG v6_24 H25 rv6_24 rH25 _ g29) cal_J6_bitCount_0f7a4 stt_J6_bitCount_0f7a4 wm_659 (by decide) rfl rfl (Nat.le_of_ble_eq_true rfl) dX3_fewest_109 (fun z9 => ?_)
      have rc30 := z9
      refine x_goto (tgt := 117) dX3_fewest_112 (by decide) ?_
      cases h
      exact x_iret ⟨rc30, rH25⟩ dX3_fewest_117
set_option maxRecDepth 100000 in
theorem ok_X3_neededFor_28 {G : hp_G} (hG : hp_sh G = hp_shc) {l : Launch} {vv : Option Value} {H' : hp_H} {Z : Prop} : ∀ (n : Nat) (v2 : Int) (v3 : Int) (v4 : Int) (v5 : Int) (H : hp_H), hp_r v2 → hp_r v3 → hp_r v4 → hp_r v5 → hp_in H → ∀ m4 : Int, ∀ Hm : hp_H, f_X3_neededFor_28 n v2 v3 v4 v5 H = some (m4, Hm) → (hp_r m4 → hp_in Hm → hp_R G l cX3_neededFor 6 (some .int) "HeelPost$Foretold" (hp_rm 5) vv H' Z 80 [(4, .int (hp_I m4))] [] Hm) → hp_R G l cX3_neededFor 6 (some .int) "HeelPost$Foretold" (hp_rm 5) vv H' Z 28 [(0, .ref (hp_ad G 210)), (1, .ref (hp_ad G 15)), (2, .int (hp_I v2)), (3, .int (hp_I v3)), (4, .int (hp_I v4)), (5, .int (hp_I v5))] [] H := by
  intro n
  induction n with
  | zero =>
    intro v2 v3 v4 v5 H r2 r3 r4 r5 rH m4 Hm h kx
    exact hp_no h
  | succ n ih =>
    intro v2 v3 v4 v5 H r2 r3 r4 r5 rH m4 Hm h kx
    unfold f_X3_neededFor_28 at h
    refine x_iload dX3_neededFor_28 5 rfl ?_
    refine x_aload_n dX3_neededFor_30 1 rfl ?_
    refine x_gi 2 2 rfl (tw_0 (tw_at15 hG)) (tw_p (tw_at15 hG)) (C := RX6) (T := TX6) (N := 12) rfl in_X6 (by decide) rfl wf_79 dX3_neededFor_31 ?_
    refine x_icge (tgt := 80) dX3_neededFor_34 (by decide) r5 (rH _ _) (fun hc7 => ?_) (fun hc7 => ?_)
    · replace h := hp_if hc7 h
      cases h
      exact x_sub [4] rfl (kx r4 rH)
    · replace h := hp_it hc7 h
      refine x_aload_n dX3_neededFor_37 1 rfl ?_
      refine x_iload dX3_neededFor_38 5 rfl ?_
      obtain ⟨c9, g8, h⟩ := hp_b1_e h
      refine x_ivi (As := [.int (hp_I v5)]) (ok_X6_isHome hG 15 v5 H (tw_at15 hG) r5 rH _ g8) cal_X6_isHome (tw_0 (tw_at15 hG)) (tw_p (tw_at15 hG)) (C := RX6) (T := TX6) (N := 12) rfl rfl ins_X6_isHome sel_X6_isHome wm_677 (by decide) rfl rfl (Nat.le_of_ble_eq_true rfl) dX3_neededFor_40 (fun z9 => ?_)
      have rc9 := z9
      obtain ⟨v4_10, H11, hm12, h⟩ := hp_b2_e h
      have kj : hp_r v4_10 → hp_in H11 → hp_R G l cX3_neededFor 6 (some .int) "HeelPost$Foretold" (hp_rm 5) vv H' Z 74 [(0, .ref (hp_ad G 210)), (1, .ref (hp_ad G 15)), (2, .int (hp_I v2)), (3, .int (hp_I v3)), (4, .int (hp_I v4_10)), (5, .int (hp_I v5))] [] H11 := by
        intro rv4_10 rH11
        obtain ⟨v5_13, ev5_13⟩ : ∃ z : Int, z = (hp_w (v5 + 1)) := ⟨_, rfl⟩
        replace h := hp_let_e ev5_13 h
        have rv5_13 := hp_re ev5_13 (hp_rw _)
        refine x_iiE (L' := [(5, .int (hp_I v5_13)), (0, .ref (hp_ad G 210)), (1, .ref (hp_ad G 15)), (2, .int (hp_I v2)), (3, .int (hp_I v3)), (4, .int (hp_I v4_10))]) ev5_13 dX3_neededFor_74 5 rfl (by decide) rfl ?_
        refine x_goto (tgt := 28) dX3_neededFor_77 (by decide) ?_
        exact x_sub [1, 2, 3, 4, 5, 0] rfl (ih v2 v3 v4_10 v5_13 H11 r2 r3 rv4_10 rv5_13 rH11 _ _ h kx)
      clear h
      have h := hm12
      clear hm12
      refine x_ifne (tgt := 74) dX3_neededFor_43 (by decide) rc9 (fun hc14 => ?_) (fun hc14 => ?_)
      · replace h := hp_if hc14 h
        cases h
        exact x_sub [0, 1, 2, 3, 4, 5] rfl (kj r4 rH)
      · replace h := hp_it hc14 h
        refine x_aload_n dX3_neededFor_46 0 rfl ?_
        refine x_aload_n dX3_neededFor_47 1 rfl ?_
        refine x_aload_n dX3_neededFor_48 1 rfl ?_
        refine x_gi 5 5 rfl (tw_0 (tw_at15 hG)) (tw_p (tw_at15 hG)) (C := RX6) (T := TX6) (N := 12) rfl in_X6 (by decide) rfl wf_87 dX3_neededFor_49 ?_
        refine x_iconst dX3_neededFor_52 ?_
        refine x_iload dX3_neededFor_53 5 rfl ?_
        refine x_ishl dX3_neededFor_55 ?_
        refine x_ior dX3_neededFor_56 ?_
        refine x_iload_n dX3_neededFor_57 2 rfl ?_
        refine x_iload_n dX3_neededFor_58 3 rfl ?_
        obtain ⟨c16, H17, g15, h⟩ := hp_b2_e h
        refine x_ivi (As := [.ref (hp_ad G 15), .int (hp_I (hp_or (H 15 5) (hp_shl 1 v5))), .int (hp_I v2), .int (hp_I v3)]) (ok_X3_isThereWith hG (hp_or (H 15 5) (hp_shl 1 v5)) v2 v3 H (hp_ror _ _) r2 r3 rH _ g15) cal_X3_isThereWith (sc_210 hG) (by decide) (C := RX3) (T := TX3) (N := 6) rfl rfl ins_X3_isThereWith sel_X3_isThereWith wm_665 (by decide) rfl rfl (Nat.le_of_ble_eq_true rfl) dX3_neededFor_59 (fun z9 => ?_)
        obtain ⟨rc16, rH17⟩ := z9
        refine x_ifne (tgt := 74) dX3_neededFor_62 (by decide) rc16 (fun hc18 => ?_) (fun hc18 => ?_)
        · replace h := hp_if hc18 h
          cases h
          exact x_sub [0, 1, 2, 3, 4, 5] rfl (kj r4 rH17)
        · replace h := hp_it hc18 h
          refine x_iload dX3_neededFor_65 4 rfl ?_
          refine x_iconst dX3_neededFor_67 ?_
          refine x_iload dX3_neededFor_68 5 rfl ?_
          refine x_ishl dX3_neededFor_70 ?_
          refine x_ior dX3_neededFor_71 ?_
          obtain ⟨v4_19, ev4_19⟩ : ∃ z : Int, z = (hp_or v4 (hp_shl 1 v5)) := ⟨_, rfl⟩
          replace h := hp_let_e ev4_19 h
          have rv4_19 := hp_re ev4_19 (hp_ror _ _)
          refine x_isE (L' := [(4, .int (hp_I v4_19)), (0, .ref (hp_ad G 210)), (1, .ref (hp_ad G 15)), (2, .int (hp_I v2)), (3, .int (hp_I v3)), (5, .int (hp_I v5))]) ev4_19 dX3_neededFor_72 (by decide) rfl ?_
          cases h
          exact x_sub [1, 2, 3, 4, 0, 5] rfl (kj rv4_19 rH17)
set_option maxRecDepth 100000 in
theorem ok_X3_neededFor {G : hp_G} (hG : hp_sh G = hp_shc) {l : Launch} (v2 : Int) (v3 : Int) (H : hp_H) (r2 : hp_r v2) (r3 : hp_r v3) (rH : hp_in H) (x : Int × hp_H) (h : f_X3_neededFor v2 v3 H = some x) : hp_M G l yX3_neededFor cX3_neededFor 6 (some .int) (hp_rm 5) [.ref (hp_ad G 210), .ref (hp_ad G 15), .int (hp_I v2), .int (hp_I v3)] H (some (.int (hp_I x.1))) x.2 (hp_r x.1 ∧ hp_in x.2) := by
  obtain ⟨r, H'⟩ := x
  unfold f_X3_neededFor at h
  refine hp_body "HeelPost$Foretold" (by decide) rfl ⟨rfl, rfl⟩ (Nat.le_of_ble_eq_true rfl) ?_
  show hp_R G l cX3_neededFor 6 (some .int) "HeelPost$Foretold" (hp_rm 5) (some (.int (hp_I r))) H' (hp_r r ∧ hp_in H') 0 [(0, .ref (hp_ad G 210)), (1, .ref (hp_ad G 15)), (2, .int (hp_I v2)), (3, .int (hp_I v3))] [] H
  refine x_aload_n dX3_neededFor_0 0 rfl ?_
  refine x_aload_n dX3_neededFor_1 1 rfl ?_
  refine x_iload_n dX3_neededFor_2 3 rfl ?_
  obtain ⟨H2, g1, h⟩ := hp_b1_e h
  refine x_ivv (As := [.ref (hp_ad G 15), .int (hp_I v3)]) (ok_X3_prepare hG v3 H r3 rH _ g1) cal_X3_prepare (sc_210 hG) (by decide) (C := RX3) (T := TX3) (N := 6) rfl rfl ins_X3_prepare sel_X3_prepare wm_560 (by decide) rfl rfl (Nat.le_of_ble_eq_true rfl) dX3_neededFor_3 (fun z9 => ?_)
  have rH2 := z9
  refine x_aload_n dX3_neededFor_6 0 rfl ?_
  refine x_aload_n dX3_neededFor_7 1 rfl ?_
  refine x_aload_n dX3_neededFor_8 1 rfl ?_
  refine x_gi 5 5 rfl (tw_0 (tw_at15 hG)) (tw_p (tw_at15 hG)) (C := RX6) (T := TX6) (N := 12) rfl in_X6 (by decide) rfl wf_87 dX3_neededFor_9 ?_
  refine x_iload_n dX3_neededFor_12 2 rfl ?_
  refine x_iload_n dX3_neededFor_13 3 rfl ?_
  obtain ⟨c4, H5, g3, h⟩ := hp_b2_e h
  refine x_ivi (As := [.ref (hp_ad G 15), .int (hp_I (H2 15 5)), .int (hp_I v2), .int (hp_I v3)]) (ok_X3_isThereWith hG (H2 15 5) v2 v3 H2 (rH2 _ _) r2 r3 rH2 _ g3) cal_X3_isThereWith (sc_210 hG) (by decide) (C := RX3) (T := TX3) (N := 6) rfl rfl ins_X3_isThereWith sel_X3_isThereWith wm_665 (by decide) rfl rfl (Nat.le_of_ble_eq_true rfl) dX3_neededFor_14 (fun z9 => ?_)
  obtain ⟨rc4, rH5⟩ := z9
  refine x_ifne (tgt := 22) dX3_neededFor_17 (by decide) rc4 (fun hc6 => ?_) (fun hc6 => ?_)
  · replace h := hp_if hc6 h
    refine x_iconst dX3_neededFor_22 ?_
    refine x_istore (L' := [(4, .int (hp_I 0)), (0, .ref (hp_ad G 210)), (1, .ref (hp_ad G 15)), (2, .int (hp_I v2)), (3, .int (hp_I v3))]) dX3_neededFor_23 (by decide) rfl ?_
    refine x_iconst dX3_neededFor_25 ?_
    refine x_istore (L' := [(5, .int (hp_I 0)), (4, .int (hp_I 0)), (0, .ref (hp_ad G 210)), (1, .ref (hp_ad G 15)), (2, .int (hp_I v2)), (3, .int (hp_I v3))]) dX3_neededFor_26 (by decide) rfl ?_
    obtain ⟨v4_20, H21, g22, h⟩ := hp_b2_e h
    refine x_sub [2, 3, 4, 5, 1, 0] rfl (ok_X3_neededFor_28 hG 1000 v2 v3 0 0 H5 r2 r3 (hp_rc rfl) (hp_rc rfl) rH5 _ _ g22 ?_)
    intro rv4_20 rH21
    refine x_iload dX3_neededFor_80 0 rfl ?_
    cases h
    exact x_iret ⟨rv4_20, rH21⟩ dX3_neededFor_82
  · replace h := hp_it hc6 h
    refine x_iconst dX3_neededFor_20 ?_
    cases h
    exact x_iret ⟨(hp_rc rfl), rH5⟩ dX3_neededFor_21
set_option maxRecDepth 100000 in
theorem ok_X3_meeting_3 {G : hp_G} (hG : hp_sh G = hp_shc) {l : Launch} {r : Int} : ∀ (n : Nat) (v2 : Int) (v3 : Int) (v4 : Int) (H : hp_H), hp_r v2 → hp_r v3 → hp_r v4 → hp_in H → f_X3_meeting_3 n v2 v3 v4 H = some r → hp_R G l cX3_meeting 5 (some .int) "HeelPost$Foretold" (hp_rm 3) (some (.int (hp_I r))) H (hp_r r) 3 [(1, .ref (hp_ad G 15)), (2, .int (hp_I v2)), (3, .int (hp_I v3)), (4, .int (hp_I v4))] [] H := by
  intro n
  induction n with
  | zero =>
    intro v2 v3 v4 H r2 r3 r4 rH h
    exact hp_no h
  | succ n ih =>
    intro v2 v3 v4 H r2 r3 r4 rH h
    unfold f_X3_meeting_3 at h
    refine x_iload dX3_meeting_3 3 rfl ?_
    refine x_bipush rfl dX3_meeting_5 ?_
    refine x_icgt (tgt := 36) dX3_meeting_7 (by decide) r4 (hp_rc rfl) (fun hc1 => ?_) (fun hc1 => ?_)
    · replace h := hp_it hc1 h
      refine x_ldc (x := (-1000000)) wc_605 rfl dX3_meeting_36 ?_
      cases h
      exact x_iret (hp_rc rfl) dX3_meeting_38
    · replace h := hp_if hc1 h
      refine x_aload_n dX3_meeting_10 0 rfl ?_
      refine x_iload_n dX3_meeting_11 1 rfl ?_
      refine x_iload dX3_meeting_12 3 rfl ?_
      obtain ⟨c3, g2, h⟩ := hp_b1_e h
      refine x_ivi (As := [.int (hp_I v2), .int (hp_I v4)]) (ok_X6_whereIs hG 15 v2 v4 H (tw_at15 hG) r2 r4 rH _ g2) cal_X6_whereIs (tw_0 (tw_at15 hG)) (tw_p (tw_at15 hG)) (C := RX6) (T := TX6) (N := 12) rfl rfl ins_X6_whereIs sel_X6_whereIs wm_686 (by decide) rfl rfl (Nat.le_of_ble_eq_true rfl) dX3_meeting_14 (fun z9 => ?_)
      have rc3 := z9
      refine x_aload_n dX3_meeting_17 0 rfl ?_
      refine x_iload_n dX3_meeting_18 2 rfl ?_
      refine x_iload dX3_meeting_19 3 rfl ?_
      obtain ⟨c5, g4, h⟩ := hp_b1_e h
      refine x_ivi (As := [.int (hp_I v3), .int (hp_I v4)]) (ok_X6_whereIs hG 15 v3 v4 H (tw_at15 hG) r3 r4 rH _ g4) cal_X6_whereIs (tw_0 (tw_at15 hG)) (tw_p (tw_at15 hG)) (C := RX6) (T := TX6) (N := 12) rfl rfl ins_X6_whereIs sel_X6_whereIs wm_686 (by decide) rfl rfl (Nat.le_of_ble_eq_true rfl) dX3_meeting_21 (fun z9 => ?_)
      have rc5 := z9
      refine x_icne (tgt := 30) dX3_meeting_24 (by decide) rc3 rc5 (fun hc6 => ?_) (fun hc6 => ?_)
      · replace h := hp_if hc6 h
        obtain ⟨v4_7, ev4_7⟩ : ∃ z : Int, z = (hp_w (v4 + 1)) := ⟨_, rfl⟩
        replace h := hp_let_e ev4_7 h
        have rv4_7 := hp_re ev4_7 (hp_rw _)
        refine x_iiE (L' := [(4, .int (hp_I v4_7)), (1, .ref (hp_ad G 15)), (2, .int (hp_I v2)), (3, .int (hp_I v3))]) ev4_7 dX3_meeting_30 3 rfl (by decide) rfl ?_
        refine x_goto (tgt := 3) dX3_meeting_33 (by decide) ?_
        exact x_sub [1, 2, 3, 0] rfl (ih v2 v3 v4_7 H r2 r3 rv4_7 rH h)
      · replace h := hp_it hc6 h
        refine x_iload dX3_meeting_27 3 rfl ?_
        cases h
        exact x_iret r4 dX3_meeting_29
set_option maxRecDepth 100000 in
theorem ok_X3_meeting {G : hp_G} (hG : hp_sh G = hp_shc) {l : Launch} (v2 : Int) (v3 : Int) (H : hp_H) (r2 : hp_r v2) (r3 : hp_r v3) (rH : hp_in H) (r : Int) (h : f_X3_meeting v2 v3 H = some r) : hp_M G l yX3_meeting cX3_meeting 5 (some .int) (hp_rm 3) [.ref (hp_ad G 210), .ref (hp_ad G 15), .int (hp_I v2), .int (hp_I v3)] H (some (.int (hp_I r))) H (hp_r r) := by
  unfold f_X3_meeting at h
  refine hp_body "HeelPost$Foretold" (by decide) rfl ⟨rfl, rfl⟩ (Nat.le_of_ble_eq_true rfl) ?_
  show hp_R G l cX3_meeting 5 (some .int) "HeelPost$Foretold" (hp_rm 3) (some (.int (hp_I r))) H (hp_r r) 0 [(0, .ref (hp_ad G 210)), (1, .ref (hp_ad G 15)), (2, .int (hp_I v2)), (3, .int (hp_I v3))] [] H
  refine x_iconst dX3_meeting_0 ?_
  refine x_istore (L' := [(4, .int (hp_I 0)), (0, .ref (hp_ad G 210)), (1, .ref (hp_ad G 15)), (2, .int (hp_I v2)), (3, .int (hp_I v3))]) dX3_meeting_1 (by decide) rfl ?_
  exact x_sub [2, 3, 4, 0] rfl (ok_X3_meeting_3 hG 1000 v2 v3 0 H r2 r3 (hp_rc rfl) rH h)
set_option maxRecDepth 100000 in
theorem ok_X3_answerTo {G : hp_G} (hG : hp_sh G = hp_shc) {l : Launch} (v2 : Int) (H : hp_H) (r2 : hp_r v2) (rH : hp_in H) (x : Int × hp_H) (h : f_X3_answerTo v2 H = some x) : hp_M G l yX3_answerTo cX3_answerTo 5 (some .int) (hp_rm 5) [.ref (hp_ad G 210), .ref (hp_ad G 15), .int (hp_I v2)] H (some (.int (hp_I x.1))) x.2 (hp_r x.1 ∧ hp_in x.2) := by
  obtain ⟨r, H'⟩ := x
  unfold f_X3_answerTo at h
  refine hp_body "HeelPost$Foretold" (by decide) rfl ⟨rfl, rfl⟩ (Nat.le_of_ble_eq_true rfl) ?_
  show hp_R G l cX3_answerTo 5 (some .int) "HeelPost$Foretold" (hp_rm 5) (some (.int (hp_I r))) H' (hp_r r ∧ hp_in H') 0 [(0, .ref (hp_ad G 210)), (1, .ref (hp_ad G 15)), (2, .int (hp_I v2))] [] H
  refine x_aload_n dX3_answerTo_0 0 rfl ?_
  refine x_aload_n dX3_answerTo_1 1 rfl ?_
  refine x_sipush rfl dX3_answerTo_2 ?_
  obtain ⟨H2, g1, h⟩ := hp_b1_e h
  refine x_ivv (As := [.ref (hp_ad G 15), .int (hp_I 198)]) (ok_X3_prepare hG 198 H (hp_rc rfl) rH _ g1) cal_X3_prepare (sc_210 hG) (by decide) (C := RX3) (T := TX3) (N := 6) rfl rfl ins_X3_prepare sel_X3_prepare wm_560 (by decide) rfl rfl (Nat.le_of_ble_eq_true rfl) dX3_answerTo_5 (fun z9 => ?_)
  have rH2 := z9
  refine x_aload_n dX3_answerTo_8 0 rfl ?_
  refine x_iload_n dX3_answerTo_9 2 rfl ?_
  refine x_bipush rfl dX3_answerTo_10 ?_
  obtain ⟨c4, H5, g3, h⟩ := hp_b2_e h
  refine x_ivi (As := [.int (hp_I v2), .int (hp_I 99)]) (ok_X3_goUntilThere hG v2 99 H2 r2 (hp_rc rfl) rH2 _ g3) cal_X3_goUntilThere (sc_210 hG) (by decide) (C := RX3) (T := TX3) (N := 6) rfl rfl ins_X3_goUntilThere sel_X3_goUntilThere wm_600 (by decide) rfl rfl (Nat.le_of_ble_eq_true rfl) dX3_answerTo_12 (fun z9 => ?_)
  obtain ⟨rc4, rH5⟩ := z9
  refine x_istore_n (L' := [(3, .int (hp_I c4)), (0, .ref (hp_ad G 210)), (1, .ref (hp_ad G 15)), (2, .int (hp_I v2))]) dX3_answerTo_15 rfl (by decide) rfl ?_
  refine x_iload_n dX3_answerTo_16 0 rfl ?_
  refine x_ldc (x := (-1000000)) wc_605 rfl dX3_answerTo_17 ?_
  refine x_icne (tgt := 25) dX3_answerTo_19 (by decide) rc4 (hp_rc rfl) (fun hc6 => ?_) (fun hc6 => ?_)
  · replace h := hp_if hc6 h
    refine x_aload_n dX3_answerTo_25 1 rfl ?_
    refine x_getr 1 (sc_210 hG) (by decide) (C := RX3) (T := TX3) (N := 6) rfl in_X3 (by decide) rfl wf_195 dX3_answerTo_26 ?_
    refine x_iconst dX3_answerTo_29 ?_
    refine x_aload_n dX3_answerTo_30 2 rfl ?_
    refine x_getr (r := 21) 11 (tw_0 (tw_at15 hG)) (tw_p (tw_at15 hG)) (C := RX6) (T := TX6) (N := 12) rfl in_X6 (by decide) rfl wf_108 dX3_answerTo_31 ?_
    refine x_iload_n dX3_answerTo_34 3 rfl ?_
    obtain ⟨b7, h⟩ := hp_ck_e h
    refine x_ia 4 rfl (sc_21 hG) (by decide) (Nat.le_of_ble_eq_true rfl) b7 dX3_answerTo_35 ?_
    refine x_aload_n dX3_answerTo_36 2 rfl ?_
    refine x_getr (r := 20) 10 (tw_0 (tw_at15 hG)) (tw_p (tw_at15 hG)) (C := RX6) (T := TX6) (N := 12) rfl in_X6 (by decide) rfl wf_104 dX3_answerTo_37 ?_
    refine x_iload_n dX3_answerTo_40 3 rfl ?_
    refine x_ia 4 rfl (sc_20 hG) (by decide) (Nat.le_of_ble_eq_true rfl) b7 dX3_answerTo_41 ?_
    obtain ⟨H9, g8, h⟩ := hp_b1_e h
    refine x_ivv (As := [.int (hp_I 3), .int (hp_I (H5 21 v2)), .int (hp_I (H5 20 v2))]) (ok_X6_putOut hG 211 3 (H5 21 v2) (H5 20 v2) H5 (tw_at211 hG) (hp_rc rfl) (rH5 _ _) (rH5 _ _) rH5 _ g8) cal_X6_putOut (tw_0 (tw_at211 hG)) (tw_p (tw_at211 hG)) (C := RX6) (T := TX6) (N := 12) rfl rfl ins_X6_putOut sel_X6_putOut wm_626 (by decide) rfl rfl (Nat.le_of_ble_eq_true rfl) dX3_answerTo_42 (fun z9 => ?_)
    have rH9 := z9
    refine x_aload_n dX3_answerTo_45 1 rfl ?_
    refine x_iconst dX3_answerTo_46 ?_
    refine x_bipush rfl dX3_answerTo_47 ?_
    obtain ⟨c11, H12, g10, h⟩ := hp_b2_e h
    refine x_ivi (As := [.int (hp_I 3), .int (hp_I 99)]) (ok_X3_goUntilThere hG 3 99 H9 (hp_rc rfl) (hp_rc rfl) rH9 _ g10) cal_X3_goUntilThere (sc_210 hG) (by decide) (C := RX3) (T := TX3) (N := 6) rfl rfl ins_X3_goUntilThere sel_X3_goUntilThere wm_600 (by decide) rfl rfl (Nat.le_of_ble_eq_true rfl) dX3_answerTo_49 (fun z9 => ?_)
    obtain ⟨rc11, rH12⟩ := z9
    refine x_istore (L' := [(4, .int (hp_I c11)), (3, .int (hp_I c4)), (0, .ref (hp_ad G 210)), (1, .ref (hp_ad G 15)), (2, .int (hp_I v2))]) dX3_answerTo_52 (by decide) rfl ?_
    refine x_iload dX3_answerTo_54 0 rfl ?_
    refine x_ldc (x := (-1000000)) wc_605 rfl dX3_answerTo_56 ?_
    refine x_icne (tgt := 66) dX3_answerTo_58 (by decide) rc11 (hp_rc rfl) (fun hc13 => ?_) (fun hc13 => ?_)
    · replace h := hp_if hc13 h
      refine x_iload_n dX3_answerTo_66 1 rfl ?_
      refine x_iload dX3_answerTo_67 0 rfl ?_
      refine x_iadd dX3_answerTo_69 ?_
      cases h
      exact x_iret ⟨(hp_rw _), rH12⟩ dX3_answerTo_70
    · replace h := hp_it hc13 h
      refine x_ldc (x := (-1000000)) wc_605 rfl dX3_answerTo_61 ?_
      refine x_goto (tgt := 70) dX3_answerTo_63 (by decide) ?_
      cases h
      exact x_iret ⟨(hp_rc rfl), rH12⟩ dX3_answerTo_70
  · replace h := hp_it hc6 h
    refine x_ldc (x := (-1000000)) wc_605 rfl dX3_answerTo_22 ?_
    cases h
    exact x_iret ⟨(hp_rc rfl), rH5⟩ dX3_answerTo_24
set_option maxRecDepth 100000 in
theorem ok_X3_hear_14 {G : hp_G} (hG : hp_sh G = hp_shc) {l : Launch} {vv : Option Value} {H' : hp_H} {Z : Prop} : ∀ (n : Nat) (v2 : Int) (v3 : Int) (v5 : Int) (H : hp_H), hp_r v2 → hp_r v3 → hp_r v5 → hp_in H → ∀ Hm : hp_H, f_X3_hear_14 n v2 v3 v5 H = some Hm → (hp_in Hm → hp_R G l cX3_hear 6 none "HeelPost$Foretold" (hp_rm 1) vv H' Z 45 [] [] Hm) → hp_R G l cX3_hear 6 none "HeelPost$Foretold" (hp_rm 1) vv H' Z 14 [(0, .ref (hp_ad G 210)), (1, .ref (hp_ad G 1)), (2, .int (hp_I v2)), (3, .int (hp_I v3)), (5, .int (hp_I v5))] [] H := by
  intro n
  induction n with
  | zero =>
    intro v2 v3 v5 H r2 r3 r5 rH Hm h kx
    exact hp_no h
  | succ n ih =>
    intro v2 v3 v5 H r2 r3 r5 rH Hm h kx
    unfold f_X3_hear_14 at h
    refine x_iload dX3_hear_14 4 rfl ?_
    refine x_aload_n dX3_hear_16 0 rfl ?_
    refine x_gi 5 5 rfl (sc_210 hG) (by decide) (C := RX3) (T := TX3) (N := 6) rfl in_X3 (by decide) rfl wf_199 dX3_hear_17 ?_
    refine x_icge (tgt := 45) dX3_hear_20 (by decide) r5 (rH _ _) (fun hc2 => ?_) (fun hc2 => ?_)
    · replace h := hp_if hc2 h
      cases h
      exact x_sub [] rfl (kx rH)
    · replace h := hp_it hc2 h
      refine x_aload_n dX3_hear_23 0 rfl ?_
      refine x_getr 4 (sc_210 hG) (by decide) (C := RX3) (T := TX3) (N := 6) rfl in_X3 (by decide) rfl wf_198 dX3_hear_24 ?_
      refine x_iload dX3_hear_27 4 rfl ?_
      refine x_aload_n dX3_hear_29 1 rfl ?_
      refine x_iload_n dX3_hear_30 2 rfl ?_
      refine x_iload_n dX3_hear_31 3 rfl ?_
      refine x_iload dX3_hear_32 4 rfl ?_
      refine x_iadd dX3_hear_34 ?_
      obtain ⟨c4, g3, h⟩ := hp_b1_e h
      refine x_ivi (As := [.int (hp_I v2), .int (hp_I (hp_w (v3 + v5)))]) (ok_X4_itemAt hG v2 (hp_w (v3 + v5)) H r2 (hp_rw _) rH _ g3) cal_X4_itemAt (sc_1 hG) (by decide) (C := RX4) (T := TX4) (N := 3) rfl rfl ins_X4_itemAt sel_X4_itemAt wm_708 (by decide) rfl rfl (Nat.le_of_ble_eq_true rfl) dX3_hear_35 (fun z9 => ?_)
      have rc4 := z9
      obtain ⟨b5, h⟩ := hp_ck_e h
      obtain ⟨H6, eH6⟩ : ∃ z : hp_H, z = hp_up H 226 v5 c4 := ⟨_, rfl⟩
      replace h := hp_let_e eH6 h
      have rH6 := hp_ine eH6 (hp_in_up rH rc4)
      refine x_ias 12 rfl eH6 (sc_226 hG) (by decide) (Nat.le_of_ble_eq_true rfl) b5 dX3_hear_38 ?_
      obtain ⟨v5_7, ev5_7⟩ : ∃ z : Int, z = (hp_w (v5 + 1)) := ⟨_, rfl⟩
      replace h := hp_let_e ev5_7 h
      have rv5_7 := hp_re ev5_7 (hp_rw _)
      refine x_iiE (L' := [(5, .int (hp_I v5_7)), (0, .ref (hp_ad G 210)), (1, .ref (hp_ad G 1)), (2, .int (hp_I v2)), (3, .int (hp_I v3))]) ev5_7 dX3_hear_39 4 rfl (by decide) rfl ?_
      refine x_goto (tgt := 14) dX3_hear_42 (by decide) ?_
      exact x_sub [1, 2, 3, 4, 0] rfl (ih v2 v3 v5_7 H6 r2 r3 rv5_7 rH6 _ h kx)
set_option maxRecDepth 100000 in
theorem ok_X3_hear {G : hp_G} (hG : hp_sh G = hp_shc) {l : Launch} (v2 : Int) (v3 : Int) (v4 : Int) (H : hp_H) (r2 : hp_r v2) (r3 : hp_r v3) (r4 : hp_r v4) (rH : hp_in H) (H' : hp_H) (h : f_X3_hear v2 v3 v4 H = some H') : hp_M G l yX3_hear cX3_hear 6 none (hp_rm 1) [.ref (hp_ad G 210), .ref (hp_ad G 1), .int (hp_I v2), .int (hp_I v3), .int (hp_I v4)] H none H' (hp_in H') := by
  unfold f_X3_hear at h
  refine hp_body "HeelPost$Foretold" (by decide) rfl ⟨rfl, rfl⟩ (Nat.le_of_ble_eq_true rfl) ?_
  show hp_R G l cX3_hear 6 none "HeelPost$Foretold" (hp_rm 1) none H' (hp_in H') 0 [(0, .ref (hp_ad G 210)), (1, .ref (hp_ad G 1)), (2, .int (hp_I v2)), (3, .int (hp_I v3)), (4, .int (hp_I v4))] [] H
  refine x_aload_n dX3_hear_0 0 rfl ?_
  refine x_iload dX3_hear_1 4 rfl ?_
  refine x_bipush rfl dX3_hear_3 ?_
  refine x_min r4 (hp_rc rfl) wm_707 stt_min ini_Math cod_min (by decide) (Nat.le_of_ble_eq_true rfl) dX3_hear_5 ?_
  obtain ⟨H1, eH1⟩ : ∃ z : hp_H, z = hp_up H 210 5 (hp_min v4 12) := ⟨_, rfl⟩
  replace h := hp_let_e eH1 h
  have rH1 := hp_ine eH1 (hp_in_up rH (hp_rmin r4 (hp_rc rfl)))
  refine x_pi 5 5 rfl tyX3 eH1 (sc_210 hG) (by decide) (C := RX3) (T := TX3) (N := 6) rfl in_X3 tyX3_ok nmX3 (by decide) rfl rfl rfl wf_199 dX3_hear_8 ?_
  refine x_iconst dX3_hear_11 ?_
  refine x_istore (L' := [(5, .int (hp_I 0)), (0, .ref (hp_ad G 210)), (1, .ref (hp_ad G 1)), (2, .int (hp_I v2)), (3, .int (hp_I v3)), (4, .int (hp_I v4))]) dX3_hear_12 (by decide) rfl ?_
  obtain ⟨H8, g9, h⟩ := hp_b1_e h
  refine x_sub [1, 2, 3, 4, 0] rfl (ok_X3_hear_14 hG 1000 v2 v3 0 H1 r2 r3 (hp_rc rfl) rH1 _ g9 ?_)
  intro rH8
  cases h
  exact x_vret rH8 dX3_hear_45
set_option maxRecDepth 100000 in
theorem ok_X3_fits_2 {G : hp_G} (hG : hp_sh G = hp_shc) {l : Launch} {r : Int} {H' : hp_H} : ∀ (n : Nat) (v1 : Int) (v2 : Int) (H : hp_H), hp_r v1 → hp_r v2 → hp_in H → f_X3_fits_2 n v1 v2 H = some (r, H') → hp_R G l cX3_fits 3 (some .boolean) "HeelPost$Foretold" (hp_rm 3) (some (.int (hp_I r))) H' (hp_r r ∧ hp_in H') 2 [(0, .ref (hp_ad G 210)), (1, .int (hp_I v1)), (2, .int (hp_I v2))] [] H := by
  intro n
  induction n with
  | zero =>
    intro v1 v2 H r1 r2 rH h
    exact hp_no h
  | succ n ih =>
    intro v1 v2 H r1 r2 rH h
    unfold f_X3_fits_2 at h
    refine x_iload_n dX3_fits_2 2 rfl ?_
    refine x_aload_n dX3_fits_3 0 rfl ?_
    refine x_gi 5 5 rfl (sc_210 hG) (by decide) (C := RX3) (T := TX3) (N := 6) rfl in_X3 (by decide) rfl wf_199 dX3_fits_4 ?_
    refine x_icge (tgt := 47) dX3_fits_7 (by decide) r2 (rH _ _) (fun hc1 => ?_) (fun hc1 => ?_)
    · replace h := hp_if hc1 h
      refine x_iconst dX3_fits_47 ?_
      cases h
      exact x_zret ⟨(hp_rc rfl), rH⟩ (Or.inr rfl) dX3_fits_48
    · replace h := hp_it hc1 h
      refine x_aload_n dX3_fits_10 0 rfl ?_
      refine x_getr 0 (sc_210 hG) (by decide) (C := RX3) (T := TX3) (N := 6) rfl in_X3 (by decide) rfl wf_194 dX3_fits_11 ?_
      refine x_aload_n dX3_fits_14 0 rfl ?_
      refine x_getr 1 (sc_210 hG) (by decide) (C := RX3) (T := TX3) (N := 6) rfl in_X3 (by decide) rfl wf_195 dX3_fits_15 ?_
      obtain ⟨H3, g2, h⟩ := hp_b1_e h
      refine x_ivv (As := [.ref (hp_ad G 211)]) (ok_X2_pass hG 211 H (tw_at211 hG) rH _ g2) cal_X2_pass (sc_199 hG) (by decide) (C := RX2) (T := TX2) (N := 8) rfl rfl ins_X2_pass sel_X2_pass wm_566 (by decide) rfl rfl (Nat.le_of_ble_eq_true rfl) dX3_fits_18 (fun z9 => ?_)
      have rH3 := z9
      refine x_aload_n dX3_fits_21 0 rfl ?_
      refine x_getr 1 (sc_210 hG) (by decide) (C := RX3) (T := TX3) (N := 6) rfl in_X3 (by decide) rfl wf_195 dX3_fits_22 ?_
      refine x_getr (r := 216) 10 (tw_0 (tw_at211 hG)) (tw_p (tw_at211 hG)) (C := RX6) (T := TX6) (N := 12) rfl in_X6 (by decide) rfl wf_104 dX3_fits_25 ?_
      refine x_iload_n dX3_fits_28 1 rfl ?_
      obtain ⟨b4, h⟩ := hp_ck_e h
      refine x_ia 4 rfl (sc_216 hG) (by decide) (Nat.le_of_ble_eq_true rfl) b4 dX3_fits_29 ?_
      refine x_aload_n dX3_fits_30 0 rfl ?_
      refine x_getr 4 (sc_210 hG) (by decide) (C := RX3) (T := TX3) (N := 6) rfl in_X3 (by decide) rfl wf_198 dX3_fits_31 ?_
      refine x_iload_n dX3_fits_34 2 rfl ?_
      obtain ⟨b5, h⟩ := hp_ck_e h
      refine x_ia 12 rfl (sc_226 hG) (by decide) (Nat.le_of_ble_eq_true rfl) b5 dX3_fits_35 ?_
      refine x_iceq (tgt := 41) dX3_fits_36 (by decide) (rH3 _ _) (rH3 _ _) (fun hc6 => ?_) (fun hc6 => ?_)
      · replace h := hp_it hc6 h
        obtain ⟨v2_7, ev2_7⟩ : ∃ z : Int, z = (hp_w (v2 + 1)) := ⟨_, rfl⟩
        replace h := hp_let_e ev2_7 h
        have rv2_7 := hp_re ev2_7 (hp_rw _)
        refine x_iiE (L' := [(2, .int (hp_I v2_7)), (0, .ref (hp_ad G 210)), (1, .int (hp_I v1))]) ev2_7 dX3_fits_41 2 rfl (by decide) rfl ?_
        refine x_goto (tgt := 2) dX3_fits_44 (by decide) ?_
        exact x_sub [1, 2, 0] rfl (ih v1 v2_7 H3 r1 rv2_7 rH3 h)
      · replace h := hp_if hc6 h
        refine x_iconst dX3_fits_39 ?_
        cases h
        exact x_zret ⟨(hp_rc rfl), rH3⟩ (Or.inl rfl) dX3_fits_40
set_option maxRecDepth 100000 in
theorem ok_X3_fits {G : hp_G} (hG : hp_sh G = hp_shc) {l : Launch} (v1 : Int) (H : hp_H) (r1 : hp_r v1) (rH : hp_in H) (x : Int × hp_H) (h : f_X3_fits v1 H = some x) : hp_M G l yX3_fits cX3_fits 3 (some .boolean) (hp_rm 3) [.ref (hp_ad G 210), .int (hp_I v1)] H (some (.int (hp_I x.1))) x.2 (hp_r x.1 ∧ hp_in x.2) := by
  obtain ⟨r, H'⟩ := x
  unfold f_X3_fits at h
  refine hp_body "HeelPost$Foretold" (by decide) rfl ⟨rfl, rfl⟩ (Nat.le_of_ble_eq_true rfl) ?_
  show hp_R G l cX3_fits 3 (some .boolean) "HeelPost$Foretold" (hp_rm 3) (some (.int (hp_I r))) H' (hp_r r ∧ hp_in H') 0 [(0, .ref (hp_ad G 210)), (1, .int (hp_I v1))] [] H
  refine x_iconst dX3_fits_0 ?_
  refine x_istore_n (L' := [(2, .int (hp_I 0)), (0, .ref (hp_ad G 210)), (1, .int (hp_I v1))]) dX3_fits_1 rfl (by decide) rfl ?_
  exact x_sub [1, 2, 0] rfl (ok_X3_fits_2 hG 1000 v1 0 H r1 (hp_rc rfl) rH h)
set_option maxRecDepth 100000 in
theorem ok_X3_kindsThatFit_14 {G : hp_G} (hG : hp_sh G = hp_shc) {l : Launch} {vv : Option Value} {H' : hp_H} {Z : Prop} : ∀ (n : Nat) (v2 : Int) (v3 : Int) (v4 : Int) (v5 : Int) (H : hp_H), hp_r v2 → hp_r v3 → hp_r v4 → hp_r v5 → hp_in H → ∀ m4 : Int, ∀ Hm : hp_H, f_X3_kindsThatFit_14 n v2 v3 v4 v5 H = some (m4, Hm) → (hp_r m4 → hp_in Hm → hp_R G l cX3_kindsThatFit 6 (some .int) "HeelPost$Foretold" (hp_rm 4) vv H' Z 81 [(4, .int (hp_I m4))] [] Hm) → hp_R G l cX3_kindsThatFit 6 (some .int) "HeelPost$Foretold" (hp_rm 4) vv H' Z 14 [(0, .ref (hp_ad G 210)), (1, .ref (hp_ad G 15)), (2, .int (hp_I v2)), (3, .int (hp_I v3)), (4, .int (hp_I v4)), (5, .int (hp_I v5))] [] H := by
  intro n
  induction n with
  | zero =>
    intro v2 v3 v4 v5 H r2 r3 r4 r5 rH m4 Hm h kx
    exact hp_no h
  | succ n ih =>
    intro v2 v3 v4 v5 H r2 r3 r4 r5 rH m4 Hm h kx
    unfold f_X3_kindsThatFit_14 at h
    refine x_iload dX3_kindsThatFit_14 5 rfl ?_
    refine x_iconst dX3_kindsThatFit_16 ?_
    refine x_icgt (tgt := 81) dX3_kindsThatFit_17 (by decide) r5 (hp_rc rfl) (fun hc3 => ?_) (fun hc3 => ?_)
    · replace h := hp_it hc3 h
      cases h
      exact x_sub [4] rfl (kx r4 rH)
    · replace h := hp_if hc3 h
      refine x_aload_n dX3_kindsThatFit_20 0 rfl ?_
      refine x_getr 1 (sc_210 hG) (by decide) (C := RX3) (T := TX3) (N := 6) rfl in_X3 (by decide) rfl wf_195 dX3_kindsThatFit_21 ?_
      refine x_aload_n dX3_kindsThatFit_24 1 rfl ?_
      obtain ⟨H5, g4, h⟩ := hp_b1_e h
      refine x_ivv (As := [.ref (hp_ad G 15)]) (ok_X6_takeLetters hG 211 15 H (tw_at211 hG) (tw_at15 hG) rH _ g4) cal_X6_takeLetters (tw_0 (tw_at211 hG)) (tw_p (tw_at211 hG)) (C := RX6) (T := TX6) (N := 12) rfl rfl ins_X6_takeLetters sel_X6_takeLetters wm_625 (by decide) rfl rfl (Nat.le_of_ble_eq_true rfl) dX3_kindsThatFit_25 (fun z9 => ?_)
      have rH5 := z9
      refine x_aload_n dX3_kindsThatFit_28 0 rfl ?_
      refine x_getr 1 (sc_210 hG) (by decide) (C := RX3) (T := TX3) (N := 6) rfl in_X3 (by decide) rfl wf_195 dX3_kindsThatFit_29 ?_
      refine x_getr (r := 212) 6 (tw_0 (tw_at211 hG)) (tw_p (tw_at211 hG)) (C := RX6) (T := TX6) (N := 12) rfl in_X6 (by decide) rfl wf_92 dX3_kindsThatFit_32 ?_
      refine x_iload_n dX3_kindsThatFit_35 2 rfl ?_
      refine x_iload dX3_kindsThatFit_36 5 rfl ?_
      obtain ⟨b6, h⟩ := hp_ck_e h
      obtain ⟨H7, eH7⟩ : ∃ z : hp_H, z = hp_up H5 212 v2 v5 := ⟨_, rfl⟩
      replace h := hp_let_e eH7 h
      have rH7 := hp_ine eH7 (hp_in_up rH5 r5)
      refine x_ias 6 rfl eH7 (sc_212 hG) (by decide) (Nat.le_of_ble_eq_true rfl) b6 dX3_kindsThatFit_38 ?_
      refine x_aload_n dX3_kindsThatFit_39 0 rfl ?_
      refine x_getr 0 (sc_210 hG) (by decide) (C := RX3) (T := TX3) (N := 6) rfl in_X3 (by decide) rfl wf_194 dX3_kindsThatFit_40 ?_
      refine x_aload_n dX3_kindsThatFit_43 0 rfl ?_
      refine x_getr 1 (sc_210 hG) (by decide) (C := RX3) (T := TX3) (N := 6) rfl in_X3 (by decide) rfl wf_195 dX3_kindsThatFit_44 ?_
      refine x_aload_n dX3_kindsThatFit_47 0 rfl ?_
      refine x_gi 5 5 rfl (sc_210 hG) (by decide) (C := RX3) (T := TX3) (N := 6) rfl in_X3 (by decide) rfl wf_199 dX3_kindsThatFit_48 ?_
      obtain ⟨H9, g8, h⟩ := hp_b1_e h
      refine x_ivv (As := [.ref (hp_ad G 211), .int (hp_I (H7 210 5))]) (ok_X2_foresee hG 211 (H7 210 5) H7 (tw_at211 hG) (rH7 _ _) rH7 _ g8) cal_X2_foresee (sc_199 hG) (by decide) (C := RX2) (T := TX2) (N := 8) rfl rfl ins_X2_foresee sel_X2_foresee wm_565 (by decide) rfl rfl (Nat.le_of_ble_eq_true rfl) dX3_kindsThatFit_51 (fun z9 => ?_)
      have rH9 := z9
      refine x_iload dX3_kindsThatFit_54 4 rfl ?_
      refine x_aload_n dX3_kindsThatFit_56 0 rfl ?_
      refine x_iload_n dX3_kindsThatFit_57 3 rfl ?_
      obtain ⟨c11, H12, g10, h⟩ := hp_b2_e h
      refine x_ivi (As := [.int (hp_I v3)]) (ok_X3_fits hG v3 H9 r3 rH9 _ g10) cal_X3_fits (sc_210 hG) (by decide) (C := RX3) (T := TX3) (N := 6) rfl rfl ins_X3_fits sel_X3_fits wm_716 (by decide) rfl rfl (Nat.le_of_ble_eq_true rfl) dX3_kindsThatFit_58 (fun z9 => ?_)
      obtain ⟨rc11, rH12⟩ := z9
      obtain ⟨m13, em13⟩ : ∃ z : Int, z = (if c11 = 0 then 0 else (hp_shl 1 v5)) := ⟨_, rfl⟩
      replace h := hp_let_e em13 h
      have rm13 := hp_re em13 (hp_rite (hp_rc rfl) (hp_rshl _ _))
      have kj : hp_R G l cX3_kindsThatFit 6 (some .int) "HeelPost$Foretold" (hp_rm 4) vv H' Z 72 [(0, .ref (hp_ad G 210)), (1, .ref (hp_ad G 15)), (2, .int (hp_I v2)), (3, .int (hp_I v3)), (5, .int (hp_I v5))] [.int (hp_I m13), .int (hp_I v4)] H12 := by
        refine x_ior dX3_kindsThatFit_72 ?_
        obtain ⟨v4_14, ev4_14⟩ : ∃ z : Int, z = (hp_or v4 m13) := ⟨_, rfl⟩
        replace h := hp_let_e ev4_14 h
        have rv4_14 := hp_re ev4_14 (hp_ror _ _)
        refine x_isE (L' := [(4, .int (hp_I v4_14)), (0, .ref (hp_ad G 210)), (1, .ref (hp_ad G 15)), (2, .int (hp_I v2)), (3, .int (hp_I v3)), (5, .int (hp_I v5))]) ev4_14 dX3_kindsThatFit_73 (by decide) rfl ?_
        obtain ⟨v5_15, ev5_15⟩ : ∃ z : Int, z = (hp_w (v5 + 1)) := ⟨_, rfl⟩
        replace h := hp_let_e ev5_15 h
        have rv5_15 := hp_re ev5_15 (hp_rw _)
        refine x_iiE (L' := [(5, .int (hp_I v5_15)), (4, .int (hp_I v4_14)), (0, .ref (hp_ad G 210)), (1, .ref (hp_ad G 15)), (2, .int (hp_I v2)), (3, .int (hp_I v3))]) ev5_15 dX3_kindsThatFit_75 5 rfl (by decide) rfl ?_
        refine x_goto (tgt := 14) dX3_kindsThatFit_78 (by decide) ?_
        exact x_sub [2, 3, 4, 5, 1, 0] rfl (ih v2 v3 v4_14 v5_15 H12 r2 r3 rv4_14 rv5_15 rH12 _ _ h kx)
      clear h
      refine x_ifeq (tgt := 71) dX3_kindsThatFit_61 (by decide) rc11 (fun hc16 => ?_) (fun hc16 => ?_)
      · refine x_iconst dX3_kindsThatFit_71 ?_
        have q9 := (em13.trans (if_pos hc16))
        subst q9
        exact x_sub [0, 1, 2, 3, 5] rfl kj
      · refine x_iconst dX3_kindsThatFit_64 ?_
        refine x_iload dX3_kindsThatFit_65 5 rfl ?_
        refine x_ishl dX3_kindsThatFit_67 ?_
        refine x_goto (tgt := 72) dX3_kindsThatFit_68 (by decide) ?_
        have q9 := (em13.trans (if_neg hc16))
        subst q9
        exact x_sub [0, 1, 2, 3, 5] rfl kj
set_option maxRecDepth 100000 in
theorem ok_X3_kindsThatFit {G : hp_G} (hG : hp_sh G = hp_shc) {l : Launch} (v2 : Int) (v3 : Int) (H : hp_H) (r2 : hp_r v2) (r3 : hp_r v3) (rH : hp_in H) (x : Int × hp_H) (h : f_X3_kindsThatFit v2 v3 H = some x) : hp_M G l yX3_kindsThatFit cX3_kindsThatFit 6 (some .int) (hp_rm 4) [.ref (hp_ad G 210), .ref (hp_ad G 15), .int (hp_I v2), .int (hp_I v3)] H (some (.int (hp_I x.1))) x.2 (hp_r x.1 ∧ hp_in x.2) := by
  obtain ⟨r, H'⟩ := x
  unfold f_X3_kindsThatFit at h
  refine hp_body "HeelPost$Foretold" (by decide) rfl ⟨rfl, rfl⟩ (Nat.le_of_ble_eq_true rfl) ?_
  show hp_R G l cX3_kindsThatFit 6 (some .int) "HeelPost$Foretold" (hp_rm 4) (some (.int (hp_I r))) H' (hp_r r ∧ hp_in H') 0 [(0, .ref (hp_ad G 210)), (1, .ref (hp_ad G 15)), (2, .int (hp_I v2)), (3, .int (hp_I v3))] [] H
  refine x_iconst dX3_kindsThatFit_0 ?_
  refine x_istore (L' := [(4, .int (hp_I 0)), (0, .ref (hp_ad G 210)), (1, .ref (hp_ad G 15)), (2, .int (hp_I v2)), (3, .int (hp_I v3))]) dX3_kindsThatFit_1 (by decide) rfl ?_
  refine x_aload_n dX3_kindsThatFit_3 1 rfl ?_
  refine x_getr 1 (sc_210 hG) (by decide) (C := RX3) (T := TX3) (N := 6) rfl in_X3 (by decide) rfl wf_195 dX3_kindsThatFit_4 ?_
  refine x_aload_n dX3_kindsThatFit_7 2 rfl ?_
  obtain ⟨H2, g1, h⟩ := hp_b1_e h
  refine x_ivv (As := [.ref (hp_ad G 15)]) (ok_X6_take hG 211 15 H (tw_at211 hG) (tw_at15 hG) rH _ g1) cal_X6_take (tw_0 (tw_at211 hG)) (tw_p (tw_at211 hG)) (C := RX6) (T := TX6) (N := 12) rfl rfl ins_X6_take sel_X6_take wm_564 (by decide) rfl rfl (Nat.le_of_ble_eq_true rfl) dX3_kindsThatFit_8 (fun z9 => ?_)
  have rH2 := z9
  refine x_iconst dX3_kindsThatFit_11 ?_
  refine x_istore (L' := [(5, .int (hp_I 1)), (4, .int (hp_I 0)), (0, .ref (hp_ad G 210)), (1, .ref (hp_ad G 15)), (2, .int (hp_I v2)), (3, .int (hp_I v3))]) dX3_kindsThatFit_12 (by decide) rfl ?_
  obtain ⟨v4_17, H18, g19, h⟩ := hp_b2_e h
  refine x_sub [2, 3, 4, 5, 1, 0] rfl (ok_X3_kindsThatFit_14 hG 1000 v2 v3 0 1 H2 r2 r3 (hp_rc rfl) (hp_rc rfl) rH2 _ _ g19 ?_)
  intro rv4_17 rH18
  refine x_iload dX3_kindsThatFit_81 0 rfl ?_
  cases h
  exact x_iret ⟨rv4_17, rH18⟩ dX3_kindsThatFit_83
set_option maxRecDepth 100000 in
theorem ok_X3_beginsThatFit_14 {G : hp_G} (hG : hp_sh G = hp_shc) {l : Launch} {vv : Option Value} {H' : hp_H} {Z : Prop} : ∀ (n : Nat) (v2 : Int) (v3 : Int) (v4 : Int) (v5 : Int) (H : hp_H), hp_r v2 → hp_r v3 → hp_r v4 → hp_r v5 → hp_in H → ∀ m4 : Int, ∀ Hm : hp_H, f_X3_beginsThatFit_14 n v2 v3 v4 v5 H = some (m4, Hm) → (hp_r m4 → hp_in Hm → hp_R G l cX3_beginsThatFit 6 (some .int) "HeelPost$Foretold" (hp_rm 4) vv H' Z 82 [(4, .int (hp_I m4))] [] Hm) → hp_R G l cX3_beginsThatFit 6 (some .int) "HeelPost$Foretold" (hp_rm 4) vv H' Z 14 [(0, .ref (hp_ad G 210)), (1, .ref (hp_ad G 15)), (2, .int (hp_I v2)), (3, .int (hp_I v3)), (4, .int (hp_I v4)), (5, .int (hp_I v5))] [] H := by
  intro n
  induction n with
  | zero =>
    intro v2 v3 v4 v5 H r2 r3 r4 r5 rH m4 Hm h kx
    exact hp_no h
  | succ n ih =>
    intro v2 v3 v4 v5 H r2 r3 r4 r5 rH m4 Hm h kx
    unfold f_X3_beginsThatFit_14 at h
    refine x_iload dX3_beginsThatFit_14 5 rfl ?_
    refine x_bipush rfl dX3_beginsThatFit_16 ?_
    refine x_icgt (tgt := 82) dX3_beginsThatFit_18 (by decide) r5 (hp_rc rfl) (fun hc3 => ?_) (fun hc3 => ?_)
    · replace h := hp_it hc3 h
      cases h
      exact x_sub [4] rfl (kx r4 rH)
    · replace h := hp_if hc3 h
      refine x_aload_n dX3_beginsThatFit_21 0 rfl ?_
      refine x_getr 1 (sc_210 hG) (by decide) (C := RX3) (T := TX3) (N := 6) rfl in_X3 (by decide) rfl wf_195 dX3_beginsThatFit_22 ?_
      refine x_aload_n dX3_beginsThatFit_25 1 rfl ?_
      obtain ⟨H5, g4, h⟩ := hp_b1_e h
      refine x_ivv (As := [.ref (hp_ad G 15)]) (ok_X6_takeLetters hG 211 15 H (tw_at211 hG) (tw_at15 hG) rH _ g4) cal_X6_takeLetters (tw_0 (tw_at211 hG)) (tw_p (tw_at211 hG)) (C := RX6) (T := TX6) (N := 12) rfl rfl ins_X6_takeLetters sel_X6_takeLetters wm_625 (by decide) rfl rfl (Nat.le_of_ble_eq_true rfl) dX3_beginsThatFit_26 (fun z9 => ?_)
      have rH5 := z9
      refine x_aload_n dX3_beginsThatFit_29 0 rfl ?_
      refine x_getr 1 (sc_210 hG) (by decide) (C := RX3) (T := TX3) (N := 6) rfl in_X3 (by decide) rfl wf_195 dX3_beginsThatFit_30 ?_
      refine x_getr (r := 215) 9 (tw_0 (tw_at211 hG)) (tw_p (tw_at211 hG)) (C := RX6) (T := TX6) (N := 12) rfl in_X6 (by decide) rfl wf_101 dX3_beginsThatFit_33 ?_
      refine x_iload_n dX3_beginsThatFit_36 2 rfl ?_
      refine x_iload dX3_beginsThatFit_37 5 rfl ?_
      obtain ⟨b6, h⟩ := hp_ck_e h
      obtain ⟨H7, eH7⟩ : ∃ z : hp_H, z = hp_up H5 215 v2 v5 := ⟨_, rfl⟩
      replace h := hp_let_e eH7 h
      have rH7 := hp_ine eH7 (hp_in_up rH5 r5)
      refine x_ias 6 rfl eH7 (sc_215 hG) (by decide) (Nat.le_of_ble_eq_true rfl) b6 dX3_beginsThatFit_39 ?_
      refine x_aload_n dX3_beginsThatFit_40 0 rfl ?_
      refine x_getr 0 (sc_210 hG) (by decide) (C := RX3) (T := TX3) (N := 6) rfl in_X3 (by decide) rfl wf_194 dX3_beginsThatFit_41 ?_
      refine x_aload_n dX3_beginsThatFit_44 0 rfl ?_
      refine x_getr 1 (sc_210 hG) (by decide) (C := RX3) (T := TX3) (N := 6) rfl in_X3 (by decide) rfl wf_195 dX3_beginsThatFit_45 ?_
      refine x_aload_n dX3_beginsThatFit_48 0 rfl ?_
      refine x_gi 5 5 rfl (sc_210 hG) (by decide) (C := RX3) (T := TX3) (N := 6) rfl in_X3 (by decide) rfl wf_199 dX3_beginsThatFit_49 ?_
      obtain ⟨H9, g8, h⟩ := hp_b1_e h
      refine x_ivv (As := [.ref (hp_ad G 211), .int (hp_I (H7 210 5))]) (ok_X2_foresee hG 211 (H7 210 5) H7 (tw_at211 hG) (rH7 _ _) rH7 _ g8) cal_X2_foresee (sc_199 hG) (by decide) (C := RX2) (T := TX2) (N := 8) rfl rfl ins_X2_foresee sel_X2_foresee wm_565 (by decide) rfl rfl (Nat.le_of_ble_eq_true rfl) dX3_beginsThatFit_52 (fun z9 => ?_)
      have rH9 := z9
      refine x_iload dX3_beginsThatFit_55 4 rfl ?_
      refine x_aload_n dX3_beginsThatFit_57 0 rfl ?_
      refine x_iload_n dX3_beginsThatFit_58 3 rfl ?_
      obtain ⟨c11, H12, g10, h⟩ := hp_b2_e h
      refine x_ivi (As := [.int (hp_I v3)]) (ok_X3_fits hG v3 H9 r3 rH9 _ g10) cal_X3_fits (sc_210 hG) (by decide) (C := RX3) (T := TX3) (N := 6) rfl rfl ins_X3_fits sel_X3_fits wm_716 (by decide) rfl rfl (Nat.le_of_ble_eq_true rfl) dX3_beginsThatFit_59 (fun z9 => ?_)
      obtain ⟨rc11, rH12⟩ := z9
      obtain ⟨m13, em13⟩ : ∃ z : Int, z = (if c11 = 0 then 0 else (hp_shl 1 v5)) := ⟨_, rfl⟩
      replace h := hp_let_e em13 h
      have rm13 := hp_re em13 (hp_rite (hp_rc rfl) (hp_rshl _ _))
      have kj : hp_R G l cX3_beginsThatFit 6 (some .int) "HeelPost$Foretold" (hp_rm 4) vv H' Z 73 [(0, .ref (hp_ad G 210)), (1, .ref (hp_ad G 15)), (2, .int (hp_I v2)), (3, .int (hp_I v3)), (5, .int (hp_I v5))] [.int (hp_I m13), .int (hp_I v4)] H12 := by
        refine x_ior dX3_beginsThatFit_73 ?_
        obtain ⟨v4_14, ev4_14⟩ : ∃ z : Int, z = (hp_or v4 m13) := ⟨_, rfl⟩
        replace h := hp_let_e ev4_14 h
        have rv4_14 := hp_re ev4_14 (hp_ror _ _)
        refine x_isE (L' := [(4, .int (hp_I v4_14)), (0, .ref (hp_ad G 210)), (1, .ref (hp_ad G 15)), (2, .int (hp_I v2)), (3, .int (hp_I v3)), (5, .int (hp_I v5))]) ev4_14 dX3_beginsThatFit_74 (by decide) rfl ?_
        obtain ⟨v5_15, ev5_15⟩ : ∃ z : Int, z = (hp_w (v5 + 1)) := ⟨_, rfl⟩
        replace h := hp_let_e ev5_15 h
        have rv5_15 := hp_re ev5_15 (hp_rw _)
        refine x_iiE (L' := [(5, .int (hp_I v5_15)), (4, .int (hp_I v4_14)), (0, .ref (hp_ad G 210)), (1, .ref (hp_ad G 15)), (2, .int (hp_I v2)), (3, .int (hp_I v3))]) ev5_15 dX3_beginsThatFit_76 5 rfl (by decide) rfl ?_
        refine x_goto (tgt := 14) dX3_beginsThatFit_79 (by decide) ?_
        exact x_sub [2, 3, 4, 5, 1, 0] rfl (ih v2 v3 v4_14 v5_15 H12 r2 r3 rv4_14 rv5_15 rH12 _ _ h kx)
      clear h
      refine x_ifeq (tgt := 72) dX3_beginsThatFit_62 (by decide) rc11 (fun hc16 => ?_) (fun hc16 => ?_)
      · refine x_iconst dX3_beginsThatFit_72 ?_
        have q9 := (em13.trans (if_pos hc16))
        subst q9
        exact x_sub [0, 1, 2, 3, 5] rfl kj
      · refine x_iconst dX3_beginsThatFit_65 ?_
        refine x_iload dX3_beginsThatFit_66 5 rfl ?_
        refine x_ishl dX3_beginsThatFit_68 ?_
        refine x_goto (tgt := 73) dX3_beginsThatFit_69 (by decide) ?_
        have q9 := (em13.trans (if_neg hc16))
        subst q9
        exact x_sub [0, 1, 2, 3, 5] rfl kj
set_option maxRecDepth 100000 in
theorem ok_X3_beginsThatFit {G : hp_G} (hG : hp_sh G = hp_shc) {l : Launch} (v2 : Int) (v3 : Int) (H : hp_H) (r2 : hp_r v2) (r3 : hp_r v3) (rH : hp_in H) (x : Int × hp_H) (h : f_X3_beginsThatFit v2 v3 H = some x) : hp_M G l yX3_beginsThatFit cX3_beginsThatFit 6 (some .int) (hp_rm 4) [.ref (hp_ad G 210), .ref (hp_ad G 15), .int (hp_I v2), .int (hp_I v3)] H (some (.int (hp_I x.1))) x.2 (hp_r x.1 ∧ hp_in x.2) := by
  obtain ⟨r, H'⟩ := x
  unfold f_X3_beginsThatFit at h
  refine hp_body "HeelPost$Foretold" (by decide) rfl ⟨rfl, rfl⟩ (Nat.le_of_ble_eq_true rfl) ?_
  show hp_R G l cX3_beginsThatFit 6 (some .int) "HeelPost$Foretold" (hp_rm 4) (some (.int (hp_I r))) H' (hp_r r ∧ hp_in H') 0 [(0, .ref (hp_ad G 210)), (1, .ref (hp_ad G 15)), (2, .int (hp_I v2)), (3, .int (hp_I v3))] [] H
  refine x_iconst dX3_beginsThatFit_0 ?_
  refine x_istore (L' := [(4, .int (hp_I 0)), (0, .ref (hp_ad G 210)), (1, .ref (hp_ad G 15)), (2, .int (hp_I v2)), (3, .int (hp_I v3))]) dX3_beginsThatFit_1 (by decide) rfl ?_
  refine x_aload_n dX3_beginsThatFit_3 1 rfl ?_
  refine x_getr 1 (sc_210 hG) (by decide) (C := RX3) (T := TX3) (N := 6) rfl in_X3 (by decide) rfl wf_195 dX3_beginsThatFit_4 ?_
  refine x_aload_n dX3_beginsThatFit_7 2 rfl ?_
  obtain ⟨H2, g1, h⟩ := hp_b1_e h
  refine x_ivv (As := [.ref (hp_ad G 15)]) (ok_X6_take hG 211 15 H (tw_at211 hG) (tw_at15 hG) rH _ g1) cal_X6_take (tw_0 (tw_at211 hG)) (tw_p (tw_at211 hG)) (C := RX6) (T := TX6) (N := 12) rfl rfl ins_X6_take sel_X6_take wm_564 (by decide) rfl rfl (Nat.le_of_ble_eq_true rfl) dX3_beginsThatFit_8 (fun z9 => ?_)
  have rH2 := z9
  refine x_iconst dX3_beginsThatFit_11 ?_
  refine x_istore (L' := [(5, .int (hp_I 0)), (4, .int (hp_I 0)), (0, .ref (hp_ad G 210)), (1, .ref (hp_ad G 15)), (2, .int (hp_I v2)), (3, .int (hp_I v3))]) dX3_beginsThatFit_12 (by decide) rfl ?_
  obtain ⟨v4_17, H18, g19, h⟩ := hp_b2_e h
  refine x_sub [2, 3, 4, 5, 1, 0] rfl (ok_X3_beginsThatFit_14 hG 1000 v2 v3 0 0 H2 r2 r3 (hp_rc rfl) (hp_rc rfl) rH2 _ _ g19 ?_)
  intro rv4_17 rH18
  refine x_iload dX3_beginsThatFit_82 0 rfl ?_
  cases h
  exact x_iret ⟨rv4_17, rH18⟩ dX3_beginsThatFit_84
set_option maxRecDepth 100000 in
theorem ok_X3_absentThatFit_27 {G : hp_G} (hG : hp_sh G = hp_shc) {l : Launch} {vv : Option Value} {H' : hp_H} {Z : Prop} : ∀ (n : Nat) (v2 : Int) (v3 : Int) (v4 : Int) (H : hp_H), hp_r v2 → hp_r v3 → hp_r v4 → hp_in H → ∀ m3 : Int, ∀ Hm : hp_H, f_X3_absentThatFit_27 n v2 v3 v4 H = some (m3, Hm) → (hp_r m3 → hp_in Hm → hp_R G l cX3_absentThatFit 5 (some .int) "HeelPost$Foretold" (hp_rm 5) vv H' Z 90 [(3, .int (hp_I m3))] [] Hm) → hp_R G l cX3_absentThatFit 5 (some .int) "HeelPost$Foretold" (hp_rm 5) vv H' Z 27 [(0, .ref (hp_ad G 210)), (1, .ref (hp_ad G 15)), (2, .int (hp_I v2)), (3, .int (hp_I v3)), (4, .int (hp_I v4))] [] H := by
  intro n
  induction n with
  | zero =>
    intro v2 v3 v4 H r2 r3 r4 rH m3 Hm h kx
    exact hp_no h
  | succ n ih =>
    intro v2 v3 v4 H r2 r3 r4 rH m3 Hm h kx
    unfold f_X3_absentThatFit_27 at h
    refine x_iload dX3_absentThatFit_27 4 rfl ?_
    refine x_aload_n dX3_absentThatFit_29 1 rfl ?_
    refine x_gi 2 2 rfl (tw_0 (tw_at15 hG)) (tw_p (tw_at15 hG)) (C := RX6) (T := TX6) (N := 12) rfl in_X6 (by decide) rfl wf_79 dX3_absentThatFit_30 ?_
    refine x_icge (tgt := 90) dX3_absentThatFit_33 (by decide) r4 (rH _ _) (fun hc7 => ?_) (fun hc7 => ?_)
    · replace h := hp_if hc7 h
      cases h
      exact x_sub [3] rfl (kx r3 rH)
    · replace h := hp_it hc7 h
      refine x_aload_n dX3_absentThatFit_36 0 rfl ?_
      refine x_getr 1 (sc_210 hG) (by decide) (C := RX3) (T := TX3) (N := 6) rfl in_X3 (by decide) rfl wf_195 dX3_absentThatFit_37 ?_
      refine x_aload_n dX3_absentThatFit_40 1 rfl ?_
      obtain ⟨H9, g8, h⟩ := hp_b1_e h
      refine x_ivv (As := [.ref (hp_ad G 15)]) (ok_X6_takeLetters hG 211 15 H (tw_at211 hG) (tw_at15 hG) rH _ g8) cal_X6_takeLetters (tw_0 (tw_at211 hG)) (tw_p (tw_at211 hG)) (C := RX6) (T := TX6) (N := 12) rfl rfl ins_X6_takeLetters sel_X6_takeLetters wm_625 (by decide) rfl rfl (Nat.le_of_ble_eq_true rfl) dX3_absentThatFit_41 (fun z9 => ?_)
      have rH9 := z9
      refine x_aload_n dX3_absentThatFit_44 0 rfl ?_
      refine x_getr 1 (sc_210 hG) (by decide) (C := RX3) (T := TX3) (N := 6) rfl in_X3 (by decide) rfl wf_195 dX3_absentThatFit_45 ?_
      refine x_aload_n dX3_absentThatFit_48 1 rfl ?_
      refine x_gi 5 5 rfl (tw_0 (tw_at15 hG)) (tw_p (tw_at15 hG)) (C := RX6) (T := TX6) (N := 12) rfl in_X6 (by decide) rfl wf_87 dX3_absentThatFit_49 ?_
      refine x_iconst dX3_absentThatFit_52 ?_
      refine x_iload dX3_absentThatFit_53 4 rfl ?_
      refine x_ishl dX3_absentThatFit_55 ?_
      refine x_ior dX3_absentThatFit_56 ?_
      obtain ⟨H10, eH10⟩ : ∃ z : hp_H, z = hp_up H9 211 5 (hp_or (H9 15 5) (hp_shl 1 v4)) := ⟨_, rfl⟩
      replace h := hp_let_e eH10 h
      have rH10 := hp_ine eH10 (hp_in_up rH9 (hp_ror _ _))
      refine x_pi 5 5 rfl tyX6 eH10 (tw_0 (tw_at211 hG)) (tw_p (tw_at211 hG)) (C := RX6) (T := TX6) (N := 12) rfl in_X6 tyX6_ok nmX6 (by decide) rfl rfl rfl wf_87 dX3_absentThatFit_57 ?_
      refine x_aload_n dX3_absentThatFit_60 1 rfl ?_
      refine x_iload dX3_absentThatFit_61 4 rfl ?_
      obtain ⟨c12, g11, h⟩ := hp_b1_e h
      refine x_ivi (As := [.int (hp_I v4)]) (ok_X6_isHome hG 15 v4 H10 (tw_at15 hG) r4 rH10 _ g11) cal_X6_isHome (tw_0 (tw_at15 hG)) (tw_p (tw_at15 hG)) (C := RX6) (T := TX6) (N := 12) rfl rfl ins_X6_isHome sel_X6_isHome wm_677 (by decide) rfl rfl (Nat.le_of_ble_eq_true rfl) dX3_absentThatFit_63 (fun z9 => ?_)
      have rc12 := z9
      obtain ⟨v3_13, H14, hm15, h⟩ := hp_b2_e h
      have kj : hp_r v3_13 → hp_in H14 → hp_R G l cX3_absentThatFit 5 (some .int) "HeelPost$Foretold" (hp_rm 5) vv H' Z 84 [(0, .ref (hp_ad G 210)), (1, .ref (hp_ad G 15)), (2, .int (hp_I v2)), (3, .int (hp_I v3_13)), (4, .int (hp_I v4))] [] H14 := by
        intro rv3_13 rH14
        obtain ⟨v4_16, ev4_16⟩ : ∃ z : Int, z = (hp_w (v4 + 1)) := ⟨_, rfl⟩
        replace h := hp_let_e ev4_16 h
        have rv4_16 := hp_re ev4_16 (hp_rw _)
        refine x_iiE (L' := [(4, .int (hp_I v4_16)), (0, .ref (hp_ad G 210)), (1, .ref (hp_ad G 15)), (2, .int (hp_I v2)), (3, .int (hp_I v3_13))]) ev4_16 dX3_absentThatFit_84 4 rfl (by decide) rfl ?_
        refine x_goto (tgt := 27) dX3_absentThatFit_87 (by decide) ?_
        exact x_sub [1, 2, 3, 4, 0] rfl (ih v2 v3_13 v4_16 H14 r2 rv3_13 rv4_16 rH14 _ _ h kx)
      clear h
      have h := hm15
      clear hm15
      refine x_ifne (tgt := 84) dX3_absentThatFit_66 (by decide) rc12 (fun hc17 => ?_) (fun hc17 => ?_)
      · replace h := hp_if hc17 h
        cases h
        exact x_sub [0, 1, 2, 3, 4] rfl (kj r3 rH10)
      · replace h := hp_it hc17 h
        refine x_aload_n dX3_absentThatFit_69 0 rfl ?_
        refine x_iload_n dX3_absentThatFit_70 2 rfl ?_
        obtain ⟨c19, H20, g18, h⟩ := hp_b2_e h
        refine x_ivi (As := [.int (hp_I v2)]) (ok_X3_fits hG v2 H10 r2 rH10 _ g18) cal_X3_fits (sc_210 hG) (by decide) (C := RX3) (T := TX3) (N := 6) rfl rfl ins_X3_fits sel_X3_fits wm_716 (by decide) rfl rfl (Nat.le_of_ble_eq_true rfl) dX3_absentThatFit_71 (fun z9 => ?_)
        obtain ⟨rc19, rH20⟩ := z9
        refine x_ifeq (tgt := 84) dX3_absentThatFit_74 (by decide) rc19 (fun hc21 => ?_) (fun hc21 => ?_)
        · replace h := hp_it hc21 h
          cases h
          exact x_sub [0, 1, 2, 3, 4] rfl (kj r3 rH20)
        · replace h := hp_if hc21 h
          refine x_iload_n dX3_absentThatFit_77 3 rfl ?_
          refine x_iconst dX3_absentThatFit_78 ?_
          refine x_iload dX3_absentThatFit_79 4 rfl ?_
          refine x_ishl dX3_absentThatFit_81 ?_
          refine x_ior dX3_absentThatFit_82 ?_
          obtain ⟨v3_22, ev3_22⟩ : ∃ z : Int, z = (hp_or v3 (hp_shl 1 v4)) := ⟨_, rfl⟩
          replace h := hp_let_e ev3_22 h
          have rv3_22 := hp_re ev3_22 (hp_ror _ _)
          refine x_isnE (L' := [(3, .int (hp_I v3_22)), (0, .ref (hp_ad G 210)), (1, .ref (hp_ad G 15)), (2, .int (hp_I v2)), (4, .int (hp_I v4))]) ev3_22 dX3_absentThatFit_83 rfl (by decide) rfl ?_
          cases h
          exact x_sub [1, 2, 3, 0, 4] rfl (kj rv3_22 rH20)
set_option maxRecDepth 100000 in
theorem ok_X3_absentThatFit {G : hp_G} (hG : hp_sh G = hp_shc) {l : Launch} (v2 : Int) (H : hp_H) (r2 : hp_r v2) (rH : hp_in H) (x : Int × hp_H) (h : f_X3_absentThatFit v2 H = some x) : hp_M G l yX3_absentThatFit cX3_absentThatFit 5 (some .int) (hp_rm 5) [.ref (hp_ad G 210), .ref (hp_ad G 15), .int (hp_I v2)] H (some (.int (hp_I x.1))) x.2 (hp_r x.1 ∧ hp_in x.2) := by
  obtain ⟨r, H'⟩ := x
  unfold f_X3_absentThatFit at h
  refine hp_body "HeelPost$Foretold" (by decide) rfl ⟨rfl, rfl⟩ (Nat.le_of_ble_eq_true rfl) ?_
  show hp_R G l cX3_absentThatFit 5 (some .int) "HeelPost$Foretold" (hp_rm 5) (some (.int (hp_I r))) H' (hp_r r ∧ hp_in H') 0 [(0, .ref (hp_ad G 210)), (1, .ref (hp_ad G 15)), (2, .int (hp_I v2))] [] H
  refine x_aload_n dX3_absentThatFit_0 0 rfl ?_
  refine x_aload_n dX3_absentThatFit_1 1 rfl ?_
  refine x_aload_n dX3_absentThatFit_2 0 rfl ?_
  refine x_gi 5 5 rfl (sc_210 hG) (by decide) (C := RX3) (T := TX3) (N := 6) rfl in_X3 (by decide) rfl wf_199 dX3_absentThatFit_3 ?_
  obtain ⟨H2, g1, h⟩ := hp_b1_e h
  refine x_ivv (As := [.ref (hp_ad G 15), .int (hp_I (H 210 5))]) (ok_X3_prepare hG (H 210 5) H (rH _ _) rH _ g1) cal_X3_prepare (sc_210 hG) (by decide) (C := RX3) (T := TX3) (N := 6) rfl rfl ins_X3_prepare sel_X3_prepare wm_560 (by decide) rfl rfl (Nat.le_of_ble_eq_true rfl) dX3_absentThatFit_6 (fun z9 => ?_)
  have rH2 := z9
  refine x_aload_n dX3_absentThatFit_9 0 rfl ?_
  refine x_iload_n dX3_absentThatFit_10 2 rfl ?_
  obtain ⟨c4, H5, g3, h⟩ := hp_b2_e h
  refine x_ivi (As := [.int (hp_I v2)]) (ok_X3_fits hG v2 H2 r2 rH2 _ g3) cal_X3_fits (sc_210 hG) (by decide) (C := RX3) (T := TX3) (N := 6) rfl rfl ins_X3_fits sel_X3_fits wm_716 (by decide) rfl rfl (Nat.le_of_ble_eq_true rfl) dX3_absentThatFit_11 (fun z9 => ?_)
  obtain ⟨rc4, rH5⟩ := z9
  obtain ⟨m6, em6⟩ : ∃ z : Int, z = (if c4 = 0 then 0 else 64) := ⟨_, rfl⟩
  replace h := hp_let_e em6 h
  have rm6 := hp_re em6 (hp_rite (hp_rc rfl) (hp_rc rfl))
  have kj : hp_R G l cX3_absentThatFit 5 (some .int) "HeelPost$Foretold" (hp_rm 5) (some (.int (hp_I r))) H' (hp_r r ∧ hp_in H') 23 [(0, .ref (hp_ad G 210)), (1, .ref (hp_ad G 15)), (2, .int (hp_I v2))] [.int (hp_I m6)] H5 := by
    refine x_istore_n (L' := [(3, .int (hp_I m6)), (0, .ref (hp_ad G 210)), (1, .ref (hp_ad G 15)), (2, .int (hp_I v2))]) dX3_absentThatFit_23 rfl (by decide) rfl ?_
    refine x_iconst dX3_absentThatFit_24 ?_
    refine x_istore (L' := [(4, .int (hp_I 0)), (3, .int (hp_I m6)), (0, .ref (hp_ad G 210)), (1, .ref (hp_ad G 15)), (2, .int (hp_I v2))]) dX3_absentThatFit_25 (by decide) rfl ?_
    obtain ⟨v3_23, H24, g25, h⟩ := hp_b2_e h
    refine x_sub [2, 3, 4, 1, 0] rfl (ok_X3_absentThatFit_27 hG 1000 v2 m6 0 H5 r2 rm6 (hp_rc rfl) rH5 _ _ g25 ?_)
    intro rv3_23 rH24
    refine x_iload_n dX3_absentThatFit_90 0 rfl ?_
    cases h
    exact x_iret ⟨rv3_23, rH24⟩ dX3_absentThatFit_91
  clear h
  refine x_ifeq (tgt := 22) dX3_absentThatFit_14 (by decide) rc4 (fun hc26 => ?_) (fun hc26 => ?_)
  · refine x_iconst dX3_absentThatFit_22 ?_
    have q9 := (em6.trans (if_pos hc26))
    subst q9
    exact x_sub [0, 1, 2] rfl kj
  · refine x_bipush rfl dX3_absentThatFit_17 ?_
    refine x_goto (tgt := 23) dX3_absentThatFit_19 (by decide) ?_
    have q9 := (em6.trans (if_neg hc26))
    subst q9
    exact x_sub [0, 1, 2] rfl kj
set_option maxRecDepth 100000 in
theorem ok_X3_goalsThatFit_14 {G : hp_G} (hG : hp_sh G = hp_shc) {l : Launch} {vv : Option Value} {H' : hp_H} {Z : Prop} : ∀ (n : Nat) (v2 : Int) (v3 : Int) (v4 : Int) (H : hp_H), hp_r v2 → hp_r v3 → hp_r v4 → hp_in H → ∀ m3 : Int, ∀ Hm : hp_H, f_X3_goalsThatFit_14 n v2 v3 v4 H = some (m3, Hm) → (hp_r m3 → hp_in Hm → hp_R G l cX3_goalsThatFit 5 (some .int) "HeelPost$Foretold" (hp_rm 5) vv H' Z 67 [(3, .int (hp_I m3))] [] Hm) → hp_R G l cX3_goalsThatFit 5 (some .int) "HeelPost$Foretold" (hp_rm 5) vv H' Z 14 [(0, .ref (hp_ad G 210)), (1, .ref (hp_ad G 15)), (2, .int (hp_I v2)), (3, .int (hp_I v3)), (4, .int (hp_I v4))] [] H := by
  intro n
  induction n with
  | zero =>
    intro v2 v3 v4 H r2 r3 r4 rH m3 Hm h kx
    exact hp_no h
  | succ n ih =>
    intro v2 v3 v4 H r2 r3 r4 rH m3 Hm h kx
    unfold f_X3_goalsThatFit_14 at h
    refine x_iload dX3_goalsThatFit_14 4 rfl ?_
    refine x_aload_n dX3_goalsThatFit_16 1 rfl ?_
    refine x_gi 0 0 rfl (tw_0 (tw_at15 hG)) (tw_p (tw_at15 hG)) (C := RX6) (T := TX6) (N := 12) rfl in_X6 (by decide) rfl wf_70 dX3_goalsThatFit_17 ?_
    refine x_icge (tgt := 67) dX3_goalsThatFit_20 (by decide) r4 (rH _ _) (fun hc3 => ?_) (fun hc3 => ?_)
    · replace h := hp_if hc3 h
      cases h
      exact x_sub [3] rfl (kx r3 rH)
    · replace h := hp_it hc3 h
      refine x_aload_n dX3_goalsThatFit_23 0 rfl ?_
      refine x_getr 1 (sc_210 hG) (by decide) (C := RX3) (T := TX3) (N := 6) rfl in_X3 (by decide) rfl wf_195 dX3_goalsThatFit_24 ?_
      refine x_aload_n dX3_goalsThatFit_27 1 rfl ?_
      obtain ⟨H5, g4, h⟩ := hp_b1_e h
      refine x_ivv (As := [.ref (hp_ad G 15)]) (ok_X6_takeLetters hG 211 15 H (tw_at211 hG) (tw_at15 hG) rH _ g4) cal_X6_takeLetters (tw_0 (tw_at211 hG)) (tw_p (tw_at211 hG)) (C := RX6) (T := TX6) (N := 12) rfl rfl ins_X6_takeLetters sel_X6_takeLetters wm_625 (by decide) rfl rfl (Nat.le_of_ble_eq_true rfl) dX3_goalsThatFit_28 (fun z9 => ?_)
      have rH5 := z9
      refine x_aload_n dX3_goalsThatFit_31 0 rfl ?_
      refine x_getr 1 (sc_210 hG) (by decide) (C := RX3) (T := TX3) (N := 6) rfl in_X3 (by decide) rfl wf_195 dX3_goalsThatFit_32 ?_
      refine x_getr (r := 217) 11 (tw_0 (tw_at211 hG)) (tw_p (tw_at211 hG)) (C := RX6) (T := TX6) (N := 12) rfl in_X6 (by decide) rfl wf_108 dX3_goalsThatFit_35 ?_
      refine x_iload_n dX3_goalsThatFit_38 2 rfl ?_
      refine x_iload dX3_goalsThatFit_39 4 rfl ?_
      obtain ⟨b6, h⟩ := hp_ck_e h
      obtain ⟨H7, eH7⟩ : ∃ z : hp_H, z = hp_up H5 217 v2 v4 := ⟨_, rfl⟩
      replace h := hp_let_e eH7 h
      have rH7 := hp_ine eH7 (hp_in_up rH5 r4)
      refine x_ias 4 rfl eH7 (sc_217 hG) (by decide) (Nat.le_of_ble_eq_true rfl) b6 dX3_goalsThatFit_41 ?_
      refine x_iload_n dX3_goalsThatFit_42 3 rfl ?_
      refine x_aload_n dX3_goalsThatFit_43 0 rfl ?_
      refine x_iload_n dX3_goalsThatFit_44 2 rfl ?_
      obtain ⟨c9, H10, g8, h⟩ := hp_b2_e h
      refine x_ivi (As := [.int (hp_I v2)]) (ok_X3_fits hG v2 H7 r2 rH7 _ g8) cal_X3_fits (sc_210 hG) (by decide) (C := RX3) (T := TX3) (N := 6) rfl rfl ins_X3_fits sel_X3_fits wm_716 (by decide) rfl rfl (Nat.le_of_ble_eq_true rfl) dX3_goalsThatFit_45 (fun z9 => ?_)
      obtain ⟨rc9, rH10⟩ := z9
      obtain ⟨m11, em11⟩ : ∃ z : Int, z = (if c9 = 0 then 0 else (hp_shl 1 v4)) := ⟨_, rfl⟩
      replace h := hp_let_e em11 h
      have rm11 := hp_re em11 (hp_rite (hp_rc rfl) (hp_rshl _ _))
      have kj : hp_R G l cX3_goalsThatFit 5 (some .int) "HeelPost$Foretold" (hp_rm 5) vv H' Z 59 [(0, .ref (hp_ad G 210)), (1, .ref (hp_ad G 15)), (2, .int (hp_I v2)), (4, .int (hp_I v4))] [.int (hp_I m11), .int (hp_I v3)] H10 := by
        refine x_ior dX3_goalsThatFit_59 ?_
        obtain ⟨v3_12, ev3_12⟩ : ∃ z : Int, z = (hp_or v3 m11) := ⟨_, rfl⟩
        replace h := hp_let_e ev3_12 h
        have rv3_12 := hp_re ev3_12 (hp_ror _ _)
        refine x_isnE (L' := [(3, .int (hp_I v3_12)), (0, .ref (hp_ad G 210)), (1, .ref (hp_ad G 15)), (2, .int (hp_I v2)), (4, .int (hp_I v4))]) ev3_12 dX3_goalsThatFit_60 rfl (by decide) rfl ?_
        obtain ⟨v4_13, ev4_13⟩ : ∃ z : Int, z = (hp_w (v4 + 1)) := ⟨_, rfl⟩
        replace h := hp_let_e ev4_13 h
        have rv4_13 := hp_re ev4_13 (hp_rw _)
        refine x_iiE (L' := [(4, .int (hp_I v4_13)), (3, .int (hp_I v3_12)), (0, .ref (hp_ad G 210)), (1, .ref (hp_ad G 15)), (2, .int (hp_I v2))]) ev4_13 dX3_goalsThatFit_61 4 rfl (by decide) rfl ?_
        refine x_goto (tgt := 14) dX3_goalsThatFit_64 (by decide) ?_
        exact x_sub [2, 3, 4, 1, 0] rfl (ih v2 v3_12 v4_13 H10 r2 rv3_12 rv4_13 rH10 _ _ h kx)
      clear h
      refine x_ifeq (tgt := 58) dX3_goalsThatFit_48 (by decide) rc9 (fun hc14 => ?_) (fun hc14 => ?_)
      · refine x_iconst dX3_goalsThatFit_58 ?_
        have q9 := (em11.trans (if_pos hc14))
        subst q9
        exact x_sub [0, 1, 2, 4] rfl kj
      · refine x_iconst dX3_goalsThatFit_51 ?_
        refine x_iload dX3_goalsThatFit_52 4 rfl ?_
        refine x_ishl dX3_goalsThatFit_54 ?_
        refine x_goto (tgt := 59) dX3_goalsThatFit_55 (by decide) ?_
        have q9 := (em11.trans (if_neg hc14))
        subst q9
        exact x_sub [0, 1, 2, 4] rfl kj
set_option maxRecDepth 100000 in
theorem ok_X3_goalsThatFit {G : hp_G} (hG : hp_sh G = hp_shc) {l : Launch} (v2 : Int) (H : hp_H) (r2 : hp_r v2) (rH : hp_in H) (x : Int × hp_H) (h : f_X3_goalsThatFit v2 H = some x) : hp_M G l yX3_goalsThatFit cX3_goalsThatFit 5 (some .int) (hp_rm 5) [.ref (hp_ad G 210), .ref (hp_ad G 15), .int (hp_I v2)] H (some (.int (hp_I x.1))) x.2 (hp_r x.1 ∧ hp_in x.2) := by
  obtain ⟨r, H'⟩ := x
  unfold f_X3_goalsThatFit at h
  refine hp_body "HeelPost$Foretold" (by decide) rfl ⟨rfl, rfl⟩ (Nat.le_of_ble_eq_true rfl) ?_
  show hp_R G l cX3_goalsThatFit 5 (some .int) "HeelPost$Foretold" (hp_rm 5) (some (.int (hp_I r))) H' (hp_r r ∧ hp_in H') 0 [(0, .ref (hp_ad G 210)), (1, .ref (hp_ad G 15)), (2, .int (hp_I v2))] [] H
  refine x_aload_n dX3_goalsThatFit_0 0 rfl ?_
  refine x_aload_n dX3_goalsThatFit_1 1 rfl ?_
  refine x_aload_n dX3_goalsThatFit_2 0 rfl ?_
  refine x_gi 5 5 rfl (sc_210 hG) (by decide) (C := RX3) (T := TX3) (N := 6) rfl in_X3 (by decide) rfl wf_199 dX3_goalsThatFit_3 ?_
  obtain ⟨H2, g1, h⟩ := hp_b1_e h
  refine x_ivv (As := [.ref (hp_ad G 15), .int (hp_I (H 210 5))]) (ok_X3_prepare hG (H 210 5) H (rH _ _) rH _ g1) cal_X3_prepare (sc_210 hG) (by decide) (C := RX3) (T := TX3) (N := 6) rfl rfl ins_X3_prepare sel_X3_prepare wm_560 (by decide) rfl rfl (Nat.le_of_ble_eq_true rfl) dX3_goalsThatFit_6 (fun z9 => ?_)
  have rH2 := z9
  refine x_iconst dX3_goalsThatFit_9 ?_
  refine x_istore_n (L' := [(3, .int (hp_I 0)), (0, .ref (hp_ad G 210)), (1, .ref (hp_ad G 15)), (2, .int (hp_I v2))]) dX3_goalsThatFit_10 rfl (by decide) rfl ?_
  refine x_iconst dX3_goalsThatFit_11 ?_
  refine x_istore (L' := [(4, .int (hp_I 0)), (3, .int (hp_I 0)), (0, .ref (hp_ad G 210)), (1, .ref (hp_ad G 15)), (2, .int (hp_I v2))]) dX3_goalsThatFit_12 (by decide) rfl ?_
  obtain ⟨v3_15, H16, g17, h⟩ := hp_b2_e h
  refine x_sub [2, 3, 4, 1, 0] rfl (ok_X3_goalsThatFit_14 hG 1000 v2 0 0 H2 r2 (hp_rc rfl) (hp_rc rfl) rH2 _ _ g17 ?_)
  intro rv3_15 rH16
  refine x_iload_n dX3_goalsThatFit_67 0 rfl ?_
  cases h
  exact x_iret ⟨rv3_15, rH16⟩ dX3_goalsThatFit_68
set_option maxRecDepth 100000 in
theorem ok_X3_tally_4 {G : hp_G} (hG : hp_sh G = hp_shc) {l : Launch} {vv : Option Value} {H' : hp_H} {Z : Prop} : ∀ (n : Nat) (v1 : Int) (v2 : Int) (H : hp_H), hp_r v1 → hp_r v2 → hp_in H → ∀ m1 : Int, ∀ Hm : hp_H, f_X3_tally_4 n v1 v2 H = some (m1, Hm) → (hp_r m1 → hp_in Hm → hp_R G l cX3_tally 4 (some .int) "HeelPost$Foretold" (hp_rm 1) vv H' Z 43 [(1, .int (hp_I m1))] [] Hm) → hp_R G l cX3_tally 4 (some .int) "HeelPost$Foretold" (hp_rm 1) vv H' Z 4 [(0, .ref (hp_ad G 210)), (1, .int (hp_I v1)), (2, .int (hp_I v2))] [] H := by
  intro n
  induction n with
  | zero =>
    intro v1 v2 H r1 r2 rH m1 Hm h kx
    exact hp_no h
  | succ n ih =>
    intro v1 v2 H r1 r2 rH m1 Hm h kx
    unfold f_X3_tally_4 at h
    refine x_iload_n dX3_tally_4 2 rfl ?_
    refine x_iconst dX3_tally_5 ?_
    refine x_icge (tgt := 43) dX3_tally_6 (by decide) r2 (hp_rc rfl) (fun hc1 => ?_) (fun hc1 => ?_)
    · replace h := hp_if hc1 h
      cases h
      exact x_sub [1] rfl (kx r1 rH)
    · replace h := hp_it hc1 h
      refine x_aload_n dX3_tally_9 0 rfl ?_
      refine x_getr 0 (sc_210 hG) (by decide) (C := RX3) (T := TX3) (N := 6) rfl in_X3 (by decide) rfl wf_194 dX3_tally_10 ?_
      refine x_iload_n dX3_tally_13 2 rfl ?_
      obtain ⟨c3, g2, h⟩ := hp_b1_e h
      refine x_ivi (As := [.int (hp_I v2)]) (ok_X2_carrierThen hG v2 H r2 rH _ g2) cal_X2_carrierThen (sc_199 hG) (by decide) (C := RX2) (T := TX2) (N := 8) rfl rfl ins_X2_carrierThen sel_X2_carrierThen wm_567 (by decide) rfl rfl (Nat.le_of_ble_eq_true rfl) dX3_tally_14 (fun z9 => ?_)
      have rc3 := z9
      refine x_istore_n (L' := [(3, .int (hp_I c3)), (0, .ref (hp_ad G 210)), (1, .int (hp_I v1)), (2, .int (hp_I v2))]) dX3_tally_17 rfl (by decide) rfl ?_
      refine x_iload_n dX3_tally_18 0 rfl ?_
      refine x_ldc (x := (-1000000)) wc_605 rfl dX3_tally_19 ?_
      obtain ⟨v1_4, H5, hm6, h⟩ := hp_b2_e h
      have kj : hp_r v1_4 → hp_in H5 → hp_R G l cX3_tally 4 (some .int) "HeelPost$Foretold" (hp_rm 1) vv H' Z 37 [(0, .ref (hp_ad G 210)), (1, .int (hp_I v1_4)), (2, .int (hp_I v2))] [] H5 := by
        intro rv1_4 rH5
        obtain ⟨v2_7, ev2_7⟩ : ∃ z : Int, z = (hp_w (v2 + 1)) := ⟨_, rfl⟩
        replace h := hp_let_e ev2_7 h
        have rv2_7 := hp_re ev2_7 (hp_rw _)
        refine x_iiE (L' := [(2, .int (hp_I v2_7)), (0, .ref (hp_ad G 210)), (1, .int (hp_I v1_4))]) ev2_7 dX3_tally_37 2 rfl (by decide) rfl ?_
        refine x_goto (tgt := 4) dX3_tally_40 (by decide) ?_
        exact x_sub [1, 2, 0] rfl (ih v1_4 v2_7 H5 rv1_4 rv2_7 rH5 _ _ h kx)
      clear h
      have h := hm6
      clear hm6
      refine x_iceq (tgt := 37) dX3_tally_21 (by decide) rc3 (hp_rc rfl) (fun hc8 => ?_) (fun hc8 => ?_)
      · replace h := hp_it hc8 h
        cases h
        exact x_sub [1, 2, 3] rfl (kj r1 rH)
      · replace h := hp_if hc8 h
        refine x_aload_n dX3_tally_24 1 rfl ?_
        refine x_getr 3 (sc_210 hG) (by decide) (C := RX3) (T := TX3) (N := 6) rfl in_X3 (by decide) rfl wf_197 dX3_tally_25 ?_
        refine x_iload_n dX3_tally_28 0 rfl ?_
        refine x_dup2 rfl rfl dX3_tally_29 ?_
        obtain ⟨b9, h⟩ := hp_ck_e h
        refine x_ia 6 rfl (sc_225 hG) (by decide) (Nat.le_of_ble_eq_true rfl) b9 dX3_tally_30 ?_
        refine x_iconst dX3_tally_31 ?_
        refine x_iadd dX3_tally_32 ?_
        obtain ⟨H10, eH10⟩ : ∃ z : hp_H, z = hp_up H 225 c3 (hp_w ((H 225 c3) + 1)) := ⟨_, rfl⟩
        replace h := hp_let_e eH10 h
        have rH10 := hp_ine eH10 (hp_in_up rH (hp_rw _))
        refine x_ias 6 rfl eH10 (sc_225 hG) (by decide) (Nat.le_of_ble_eq_true rfl) b9 dX3_tally_33 ?_
        obtain ⟨v1_11, ev1_11⟩ : ∃ z : Int, z = (hp_w (v1 + 1)) := ⟨_, rfl⟩
        replace h := hp_let_e ev1_11 h
        have rv1_11 := hp_re ev1_11 (hp_rw _)
        refine x_iiE (L' := [(1, .int (hp_I v1_11)), (3, .int (hp_I c3)), (0, .ref (hp_ad G 210)), (2, .int (hp_I v2))]) ev1_11 dX3_tally_34 2 rfl (by decide) rfl ?_
        cases h
        exact x_sub [2, 0, 3] rfl (kj rv1_11 rH10)
set_option maxRecDepth 100000 in
theorem ok_X3_tally {G : hp_G} (hG : hp_sh G = hp_shc) {l : Launch}  (H : hp_H) (rH : hp_in H) (x : Int × hp_H) (h : f_X3_tally  H = some x) : hp_M G l yX3_tally cX3_tally 4 (some .int) (hp_rm 1) [.ref (hp_ad G 210)] H (some (.int (hp_I x.1))) x.2 (hp_r x.1 ∧ hp_in x.2) := by
  obtain ⟨r, H'⟩ := x
  unfold f_X3_tally at h
  refine hp_body "HeelPost$Foretold" (by decide) rfl ⟨rfl, rfl⟩ (Nat.le_of_ble_eq_true rfl) ?_
  show hp_R G l cX3_tally 4 (some .int) "HeelPost$Foretold" (hp_rm 1) (some (.int (hp_I r))) H' (hp_r r ∧ hp_in H') 0 [(0, .ref (hp_ad G 210))] [] H
  refine x_iconst dX3_tally_0 ?_
  refine x_istore_n (L' := [(1, .int (hp_I 0)), (0, .ref (hp_ad G 210))]) dX3_tally_1 rfl (by decide) rfl ?_
  refine x_iconst dX3_tally_2 ?_
  refine x_istore_n (L' := [(2, .int (hp_I 0)), (1, .int (hp_I 0)), (0, .ref (hp_ad G 210))]) dX3_tally_3 rfl (by decide) rfl ?_
  obtain ⟨v1_12, H13, g14, h⟩ := hp_b2_e h
  refine x_sub [2, 1, 0] rfl (ok_X3_tally_4 hG 1000 0 0 H (hp_rc rfl) (hp_rc rfl) rH _ _ g14 ?_)
  intro rv1_12 rH13
  refine x_iload_n dX3_tally_43 0 rfl ?_
  cases h
  exact x_iret ⟨rv1_12, rH13⟩ dX3_tally_44
set_option maxRecDepth 100000 in
theorem ok_X3_busiest_9 {G : hp_G} (hG : hp_sh G = hp_shc) {l : Launch} {vv : Option Value} {H' : hp_H} {Z : Prop} : ∀ (n : Nat) (v2 : Int) (v3 : Int) (v4 : Int) (H : hp_H), hp_r v2 → hp_r v3 → hp_r v4 → hp_in H → ∀ Hm : hp_H, f_X3_busiest_9 n v2 v3 v4 H = some Hm → (hp_in Hm → hp_R G l cX3_busiest 6 (some .int) "HeelPost$Foretold" (hp_rm 5) vv H' Z 30 [(0, .ref (hp_ad G 210)), (1, .ref (hp_ad G 15)), (2, .int (hp_I v2)), (3, .int (hp_I v3))] [] Hm) → hp_R G l cX3_busiest 6 (some .int) "HeelPost$Foretold" (hp_rm 5) vv H' Z 9 [(0, .ref (hp_ad G 210)), (1, .ref (hp_ad G 15)), (2, .int (hp_I v2)), (3, .int (hp_I v3)), (4, .int (hp_I v4))] [] H := by
  intro n
  induction n with
  | zero =>
    intro v2 v3 v4 H r2 r3 r4 rH Hm h kx
    exact hp_no h
  | succ n ih =>
    intro v2 v3 v4 H r2 r3 r4 rH Hm h kx
    unfold f_X3_busiest_9 at h
    refine x_iload dX3_busiest_9 4 rfl ?_
    refine x_bipush rfl dX3_busiest_11 ?_
    refine x_icge (tgt := 30) dX3_busiest_13 (by decide) r4 (hp_rc rfl) (fun hc3 => ?_) (fun hc3 => ?_)
    · replace h := hp_if hc3 h
      cases h
      exact x_sub [0, 1, 2, 3] rfl (kx rH)
    · replace h := hp_it hc3 h
      refine x_aload_n dX3_busiest_16 0 rfl ?_
      refine x_getr 3 (sc_210 hG) (by decide) (C := RX3) (T := TX3) (N := 6) rfl in_X3 (by decide) rfl wf_197 dX3_busiest_17 ?_
      refine x_iload dX3_busiest_20 4 rfl ?_
      refine x_iconst dX3_busiest_22 ?_
      obtain ⟨b4, h⟩ := hp_ck_e h
      obtain ⟨H5, eH5⟩ : ∃ z : hp_H, z = hp_up H 225 v4 0 := ⟨_, rfl⟩
      replace h := hp_let_e eH5 h
      have rH5 := hp_ine eH5 (hp_in_up rH (hp_rc rfl))
      refine x_ias 6 rfl eH5 (sc_225 hG) (by decide) (Nat.le_of_ble_eq_true rfl) b4 dX3_busiest_23 ?_
      obtain ⟨v4_6, ev4_6⟩ : ∃ z : Int, z = (hp_w (v4 + 1)) := ⟨_, rfl⟩
      replace h := hp_let_e ev4_6 h
      have rv4_6 := hp_re ev4_6 (hp_rw _)
      refine x_iiE (L' := [(4, .int (hp_I v4_6)), (0, .ref (hp_ad G 210)), (1, .ref (hp_ad G 15)), (2, .int (hp_I v2)), (3, .int (hp_I v3))]) ev4_6 dX3_busiest_24 4 rfl (by decide) rfl ?_
      refine x_goto (tgt := 9) dX3_busiest_27 (by decide) ?_
      exact x_sub [1, 2, 3, 4, 0] rfl (ih v2 v3 v4_6 H5 r2 r3 rv4_6 rH5 _ h kx)
set_option maxRecDepth 100000 in
theorem ok_X3_busiest_33 {G : hp_G} (hG : hp_sh G = hp_shc) {l : Launch} {vv : Option Value} {H' : hp_H} {Z : Prop} : ∀ (n : Nat) (v2 : Int) (v3 : Int) (v4 : Int) (H : hp_H), hp_r v2 → hp_r v3 → hp_r v4 → hp_in H → ∀ Hm : hp_H, f_X3_busiest_33 n v2 v3 v4 H = some Hm → (hp_in Hm → hp_R G l cX3_busiest 6 (some .int) "HeelPost$Foretold" (hp_rm 5) vv H' Z 61 [(0, .ref (hp_ad G 210)), (1, .ref (hp_ad G 15)), (3, .int (hp_I v3))] [] Hm) → hp_R G l cX3_busiest 6 (some .int) "HeelPost$Foretold" (hp_rm 5) vv H' Z 33 [(0, .ref (hp_ad G 210)), (1, .ref (hp_ad G 15)), (2, .int (hp_I v2)), (3, .int (hp_I v3)), (4, .int (hp_I v4))] [] H := by
  intro n
  induction n with
  | zero =>
    intro v2 v3 v4 H r2 r3 r4 rH Hm h kx
    exact hp_no h
  | succ n ih =>
    intro v2 v3 v4 H r2 r3 r4 rH Hm h kx
    unfold f_X3_busiest_33 at h
    refine x_iload dX3_busiest_33 4 rfl ?_
    refine x_iload_n dX3_busiest_35 2 rfl ?_
    refine x_icge (tgt := 61) dX3_busiest_36 (by decide) r4 r2 (fun hc9 => ?_) (fun hc9 => ?_)
    · replace h := hp_if hc9 h
      cases h
      exact x_sub [0, 1, 3] rfl (kx rH)
    · replace h := hp_it hc9 h
      refine x_aload_n dX3_busiest_39 0 rfl ?_
      refine x_getr 0 (sc_210 hG) (by decide) (C := RX3) (T := TX3) (N := 6) rfl in_X3 (by decide) rfl wf_194 dX3_busiest_40 ?_
      refine x_aload_n dX3_busiest_43 0 rfl ?_
      refine x_getr 1 (sc_210 hG) (by decide) (C := RX3) (T := TX3) (N := 6) rfl in_X3 (by decide) rfl wf_195 dX3_busiest_44 ?_
      obtain ⟨H11, g10, h⟩ := hp_b1_e h
      refine x_ivv (As := [.ref (hp_ad G 211)]) (ok_X2_pass hG 211 H (tw_at211 hG) rH _ g10) cal_X2_pass (sc_199 hG) (by decide) (C := RX2) (T := TX2) (N := 8) rfl rfl ins_X2_pass sel_X2_pass wm_566 (by decide) rfl rfl (Nat.le_of_ble_eq_true rfl) dX3_busiest_47 (fun z9 => ?_)
      have rH11 := z9
      refine x_aload_n dX3_busiest_50 0 rfl ?_
      obtain ⟨c13, H14, g12, h⟩ := hp_b2_e h
      refine x_ivi (As := []) (ok_X3_tally hG H11 rH11 _ g12) cal_X3_tally (sc_210 hG) (by decide) (C := RX3) (T := TX3) (N := 6) rfl rfl ins_X3_tally sel_X3_tally wm_748 (by decide) rfl rfl (Nat.le_of_ble_eq_true rfl) dX3_busiest_51 (fun z9 => ?_)
      obtain ⟨rc13, rH14⟩ := z9
      refine x_pop rfl dX3_busiest_54 ?_
      obtain ⟨v4_15, ev4_15⟩ : ∃ z : Int, z = (hp_w (v4 + 1)) := ⟨_, rfl⟩
      replace h := hp_let_e ev4_15 h
      have rv4_15 := hp_re ev4_15 (hp_rw _)
      refine x_iiE (L' := [(4, .int (hp_I v4_15)), (0, .ref (hp_ad G 210)), (1, .ref (hp_ad G 15)), (2, .int (hp_I v2)), (3, .int (hp_I v3))]) ev4_15 dX3_busiest_55 4 rfl (by decide) rfl ?_
      refine x_goto (tgt := 33) dX3_busiest_58 (by decide) ?_
      exact x_sub [1, 2, 3, 4, 0] rfl (ih v2 v3 v4_15 H14 r2 r3 rv4_15 rH14 _ h kx)
set_option maxRecDepth 100000 in
theorem ok_X3_busiest_67 {G : hp_G} (hG : hp_sh G = hp_shc) {l : Launch} {vv : Option Value} {H' : hp_H} {Z : Prop} : ∀ (n : Nat) (v3 : Int) (v4 : Int) (v5 : Int) (H : hp_H), hp_r v3 → hp_r v4 → hp_r v5 → hp_in H → ∀ m4 : Int, f_X3_busiest_67 n v3 v4 v5 H = some m4 → (hp_r m4 → hp_R G l cX3_busiest 6 (some .int) "HeelPost$Foretold" (hp_rm 5) vv H' Z 108 [(0, .ref (hp_ad G 210)), (3, .int (hp_I v3)), (4, .int (hp_I m4))] [] H) → hp_R G l cX3_busiest 6 (some .int) "HeelPost$Foretold" (hp_rm 5) vv H' Z 67 [(0, .ref (hp_ad G 210)), (1, .ref (hp_ad G 15)), (3, .int (hp_I v3)), (4, .int (hp_I v4)), (5, .int (hp_I v5))] [] H := by
  intro n
  induction n with
  | zero =>
    intro v3 v4 v5 H r3 r4 r5 rH m4 h kx
    exact hp_no h
  | succ n ih =>
    intro v3 v4 v5 H r3 r4 r5 rH m4 h kx
    unfold f_X3_busiest_67 at h
    refine x_iload dX3_busiest_67 4 rfl ?_
    refine x_aload_n dX3_busiest_69 1 rfl ?_
    refine x_gi 2 2 rfl (tw_0 (tw_at15 hG)) (tw_p (tw_at15 hG)) (C := RX6) (T := TX6) (N := 12) rfl in_X6 (by decide) rfl wf_79 dX3_busiest_70 ?_
    refine x_icge (tgt := 108) dX3_busiest_73 (by decide) r5 (rH _ _) (fun hc18 => ?_) (fun hc18 => ?_)
    · replace h := hp_if hc18 h
      cases h
      exact x_sub [0, 2, 3] rfl (kx r4)
    · replace h := hp_it hc18 h
      refine x_aload_n dX3_busiest_76 0 rfl ?_
      refine x_getr 3 (sc_210 hG) (by decide) (C := RX3) (T := TX3) (N := 6) rfl in_X3 (by decide) rfl wf_197 dX3_busiest_77 ?_
      refine x_iload dX3_busiest_80 4 rfl ?_
      obtain ⟨b19, h⟩ := hp_ck_e h
      refine x_ia 6 rfl (sc_225 hG) (by decide) (Nat.le_of_ble_eq_true rfl) b19 dX3_busiest_82 ?_
      refine x_aload_n dX3_busiest_83 0 rfl ?_
      refine x_getr 3 (sc_210 hG) (by decide) (C := RX3) (T := TX3) (N := 6) rfl in_X3 (by decide) rfl wf_197 dX3_busiest_84 ?_
      refine x_iload dX3_busiest_87 3 rfl ?_
      obtain ⟨b20, h⟩ := hp_ck_e h
      refine x_ia 6 rfl (sc_225 hG) (by decide) (Nat.le_of_ble_eq_true rfl) b20 dX3_busiest_89 ?_
      obtain ⟨m21, em21⟩ : ∃ z : Int, z = (if (H 225 v4) < (H 225 v5) then v5 else v4) := ⟨_, rfl⟩
      replace h := hp_let_e em21 h
      have rm21 := hp_re em21 (hp_rite r5 r4)
      have kj : hp_R G l cX3_busiest 6 (some .int) "HeelPost$Foretold" (hp_rm 5) vv H' Z 100 [(0, .ref (hp_ad G 210)), (1, .ref (hp_ad G 15)), (3, .int (hp_I v3)), (5, .int (hp_I v5))] [.int (hp_I m21)] H := by
        refine x_istore (L' := [(4, .int (hp_I m21)), (0, .ref (hp_ad G 210)), (1, .ref (hp_ad G 15)), (3, .int (hp_I v3)), (5, .int (hp_I v5))]) dX3_busiest_100 (by decide) rfl ?_
        obtain ⟨v5_22, ev5_22⟩ : ∃ z : Int, z = (hp_w (v5 + 1)) := ⟨_, rfl⟩
        replace h := hp_let_e ev5_22 h
        have rv5_22 := hp_re ev5_22 (hp_rw _)
        refine x_iiE (L' := [(5, .int (hp_I v5_22)), (4, .int (hp_I m21)), (0, .ref (hp_ad G 210)), (1, .ref (hp_ad G 15)), (3, .int (hp_I v3))]) ev5_22 dX3_busiest_102 4 rfl (by decide) rfl ?_
        refine x_goto (tgt := 67) dX3_busiest_105 (by decide) ?_
        exact x_sub [2, 3, 4, 1, 0] rfl (ih v3 m21 v5_22 H r3 rm21 rv5_22 rH _ h kx)
      clear h
      refine x_icle (tgt := 98) dX3_busiest_90 (by decide) (rH _ _) (rH _ _) (fun hc23 => ?_) (fun hc23 => ?_)
      · refine x_iload dX3_busiest_98 3 rfl ?_
        have q9 := (em21.trans (if_neg hc23))
        subst q9
        exact x_sub [0, 1, 2, 4] rfl kj
      · refine x_iload dX3_busiest_93 4 rfl ?_
        refine x_goto (tgt := 100) dX3_busiest_95 (by decide) ?_
        have q9 := (em21.trans (if_pos hc23))
        subst q9
        exact x_sub [0, 1, 2, 4] rfl kj
set_option maxRecDepth 100000 in
theorem ok_X3_busiest {G : hp_G} (hG : hp_sh G = hp_shc) {l : Launch} (v2 : Int) (v3 : Int) (H : hp_H) (r2 : hp_r v2) (r3 : hp_r v3) (rH : hp_in H) (x : Int × hp_H) (h : f_X3_busiest v2 v3 H = some x) : hp_M G l yX3_busiest cX3_busiest 6 (some .int) (hp_rm 5) [.ref (hp_ad G 210), .ref (hp_ad G 15), .int (hp_I v2), .int (hp_I v3)] H (some (.int (hp_I x.1))) x.2 (hp_r x.1 ∧ hp_in x.2) := by
  obtain ⟨r, H'⟩ := x
  unfold f_X3_busiest at h
  refine hp_body "HeelPost$Foretold" (by decide) rfl ⟨rfl, rfl⟩ (Nat.le_of_ble_eq_true rfl) ?_
  show hp_R G l cX3_busiest 6 (some .int) "HeelPost$Foretold" (hp_rm 5) (some (.int (hp_I r))) H' (hp_r r ∧ hp_in H') 0 [(0, .ref (hp_ad G 210)), (1, .ref (hp_ad G 15)), (2, .int (hp_I v2)), (3, .int (hp_I v3))] [] H
  refine x_aload_n dX3_busiest_0 0 rfl ?_
  refine x_aload_n dX3_busiest_1 1 rfl ?_
  refine x_iload_n dX3_busiest_2 2 rfl ?_
  obtain ⟨H2, g1, h⟩ := hp_b1_e h
  refine x_ivv (As := [.ref (hp_ad G 15), .int (hp_I v2)]) (ok_X3_prepare hG v2 H r2 rH _ g1) cal_X3_prepare (sc_210 hG) (by decide) (C := RX3) (T := TX3) (N := 6) rfl rfl ins_X3_prepare sel_X3_prepare wm_560 (by decide) rfl rfl (Nat.le_of_ble_eq_true rfl) dX3_busiest_3 (fun z9 => ?_)
  have rH2 := z9
  refine x_iconst dX3_busiest_6 ?_
  refine x_istore (L' := [(4, .int (hp_I 0)), (0, .ref (hp_ad G 210)), (1, .ref (hp_ad G 15)), (2, .int (hp_I v2)), (3, .int (hp_I v3))]) dX3_busiest_7 (by decide) rfl ?_
  obtain ⟨H7, g8, h⟩ := hp_b1_e h
  refine x_sub [1, 2, 3, 4, 0] rfl (ok_X3_busiest_9 hG 1000 v2 v3 0 H2 r2 r3 (hp_rc rfl) rH2 _ g8 ?_)
  intro rH7
  refine x_iconst dX3_busiest_30 ?_
  refine x_istore (L' := [(4, .int (hp_I 0)), (0, .ref (hp_ad G 210)), (1, .ref (hp_ad G 15)), (2, .int (hp_I v2)), (3, .int (hp_I v3))]) dX3_busiest_31 (by decide) rfl ?_
  obtain ⟨H16, g17, h⟩ := hp_b1_e h
  refine x_sub [1, 2, 3, 4, 0] rfl (ok_X3_busiest_33 hG 1000 v2 v3 0 H7 r2 r3 (hp_rc rfl) rH7 _ g17 ?_)
  intro rH16
  refine x_iconst dX3_busiest_61 ?_
  refine x_istore (L' := [(4, .int (hp_I 0)), (0, .ref (hp_ad G 210)), (1, .ref (hp_ad G 15)), (3, .int (hp_I v3))]) dX3_busiest_62 (by decide) rfl ?_
  refine x_iconst dX3_busiest_64 ?_
  refine x_istore (L' := [(5, .int (hp_I 1)), (4, .int (hp_I 0)), (0, .ref (hp_ad G 210)), (1, .ref (hp_ad G 15)), (3, .int (hp_I v3))]) dX3_busiest_65 (by decide) rfl ?_
  obtain ⟨v4_24, g25, h⟩ := hp_b1_e h
  refine x_sub [2, 3, 4, 1, 0] rfl (ok_X3_busiest_67 hG 1000 v3 0 1 H16 r3 (hp_rc rfl) (hp_rc rfl) rH16 _ g25 ?_)
  intro rv4_24
  refine x_iload_n dX3_busiest_108 1 rfl ?_
  refine x_ifne (tgt := 117) dX3_busiest_109 (by decide) r3 (fun hc26 => ?_) (fun hc26 => ?_)
  · replace h := hp_if hc26 h
    refine x_aload_n dX3_busiest_117 0 rfl ?_
    refine x_getr 3 (sc_210 hG) (by decide) (C := RX3) (T := TX3) (N := 6) rfl in_X3 (by decide) rfl wf_197 dX3_busiest_118 ?_
    refine x_iload dX3_busiest_121 2 rfl ?_
    obtain ⟨b27, h⟩ := hp_ck_e h
    refine x_ia 6 rfl (sc_225 hG) (by decide) (Nat.le_of_ble_eq_true rfl) b27 dX3_busiest_123 ?_
    cases h
    exact x_iret ⟨(rH16 _ _), rH16⟩ dX3_busiest_124
  · replace h := hp_it hc26 h
    refine x_iload dX3_busiest_112 2 rfl ?_
    refine x_goto (tgt := 124) dX3_busiest_114 (by decide) ?_
    cases h
    exact x_iret ⟨rv4_24, rH16⟩ dX3_busiest_124
set_option maxRecDepth 100000 in
theorem ok_X3_power_5 {G : hp_G} (hG : hp_sh G = hp_shc) {l : Launch} {vv : Option Value} {H' : hp_H} {Z : Prop} : ∀ (n : Nat) (v0 : Int) (v2 : Int) (v3 : Int) (v5 : Int) (H : hp_H), hp_rl v0 → hp_r v2 → hp_rl v3 → hp_r v5 → hp_in H → ∀ m3 : Int, f_X3_power_5 n v0 v2 v3 v5 H = some m3 → (hp_rl m3 → hp_R G l cX3_power 6 (some .long) "HeelPost$Foretold" (hp_rm 0) vv H' Z 21 [(3, .long (hp_J m3))] [] H) → hp_R G l cX3_power 6 (some .long) "HeelPost$Foretold" (hp_rm 0) vv H' Z 5 [(0, .long (hp_J v0)), (2, .int (hp_I v2)), (3, .long (hp_J v3)), (5, .int (hp_I v5))] [] H := by
  intro n
  induction n with
  | zero =>
    intro v0 v2 v3 v5 H r0 r2 r3 r5 rH m3 h kx
    exact hp_no h
  | succ n ih =>
    intro v0 v2 v3 v5 H r0 r2 r3 r5 rH m3 h kx
    unfold f_X3_power_5 at h
    refine x_iload dX3_power_5 3 rfl ?_
    refine x_iload_n dX3_power_7 1 rfl ?_
    refine x_icge (tgt := 21) dX3_power_8 (by decide) r5 r2 (fun hc1 => ?_) (fun hc1 => ?_)
    · replace h := hp_if hc1 h
      cases h
      exact x_sub [2] rfl (kx r3)
    · replace h := hp_it hc1 h
      refine x_lload_n dX3_power_11 2 rfl ?_
      refine x_lload_n dX3_power_12 0 rfl ?_
      refine x_lmul dX3_power_13 ?_
      obtain ⟨v3_2, ev3_2⟩ : ∃ z : Int, z = (hp_wl (v3 * v0)) := ⟨_, rfl⟩
      replace h := hp_let_e ev3_2 h
      have rv3_2 := hp_rle ev3_2 (hp_rwl _)
      refine x_lsnE (L' := [(3, .long (hp_J v3_2)), (0, .long (hp_J v0)), (2, .int (hp_I v2)), (5, .int (hp_I v5))]) ev3_2 dX3_power_14 rfl (by decide) rfl ?_
      obtain ⟨v5_3, ev5_3⟩ : ∃ z : Int, z = (hp_w (v5 + 1)) := ⟨_, rfl⟩
      replace h := hp_let_e ev5_3 h
      have rv5_3 := hp_re ev5_3 (hp_rw _)
      refine x_iiE (L' := [(5, .int (hp_I v5_3)), (3, .long (hp_J v3_2)), (0, .long (hp_J v0)), (2, .int (hp_I v2))]) ev5_3 dX3_power_15 3 rfl (by decide) rfl ?_
      refine x_goto (tgt := 5) dX3_power_18 (by decide) ?_
      exact x_sub [2, 3, 1, 0] rfl (ih v0 v2 v3_2 v5_3 H r0 r2 rv3_2 rv5_3 rH _ h kx)
set_option maxRecDepth 100000 in
theorem ok_X3_power {G : hp_G} (hG : hp_sh G = hp_shc) {l : Launch} (v0 : Int) (v2 : Int) (H : hp_H) (r0 : hp_rl v0) (r2 : hp_r v2) (rH : hp_in H) (r : Int) (h : f_X3_power v0 v2 H = some r) : hp_M G l yX3_power cX3_power 6 (some .long) (hp_rm 0) [.long (hp_J v0), .int (hp_I v2)] H (some (.long (hp_J r))) H (hp_rl r) := by
  unfold f_X3_power at h
  refine hp_body "HeelPost$Foretold" (by decide) rfl ⟨rfl, rfl⟩ (Nat.le_of_ble_eq_true rfl) ?_
  show hp_R G l cX3_power 6 (some .long) "HeelPost$Foretold" (hp_rm 0) (some (.long (hp_J r))) H (hp_rl r) 0 [(0, .long (hp_J v0)), (2, .int (hp_I v2))] [] H
  refine x_lconst (x := 1) rfl dX3_power_0 ?_
  refine x_lstore_n (L' := [(3, .long (hp_J 1)), (0, .long (hp_J v0)), (2, .int (hp_I v2))]) dX3_power_1 rfl (by decide) rfl ?_
  refine x_iconst dX3_power_2 ?_
  refine x_istore (L' := [(5, .int (hp_I 0)), (3, .long (hp_J 1)), (0, .long (hp_J v0)), (2, .int (hp_I v2))]) dX3_power_3 (by decide) rfl ?_
  obtain ⟨v3_4, g5, h⟩ := hp_b1_e h
  refine x_sub [2, 3, 1, 0] rfl (ok_X3_power_5 hG 1000 v0 v2 1 0 H r0 r2 (hp_rlc rfl) (hp_rc rfl) rH _ g5 ?_)
  intro rv3_4
  refine x_lload_n dX3_power_21 0 rfl ?_
  cases h
  exact x_lret rv3_4 dX3_power_22
set_option maxRecDepth 100000 in
theorem ok_X3_commonDivisor_9 {G : hp_G} (hG : hp_sh G = hp_shc) {l : Launch} {vv : Option Value} {H' : hp_H} {Z : Prop} : ∀ (n : Nat) (v4 : Int) (v6 : Int) (v8 : Int) (H : hp_H), hp_rl v4 → hp_rl v6 → hp_r v8 → hp_in H → ∀ m6 : Int, f_X3_commonDivisor_9 n v4 v6 v8 H = some m6 → (hp_rl m6 → hp_R G l cX3_commonDivisor 11 (some .long) "HeelPost$Foretold" (hp_rm 0) vv H' Z 44 [(6, .long (hp_J m6))] [] H) → hp_R G l cX3_commonDivisor 11 (some .long) "HeelPost$Foretold" (hp_rm 0) vv H' Z 9 [(4, .long (hp_J v4)), (6, .long (hp_J v6)), (8, .int (hp_I v8))] [] H := by
  intro n
  induction n with
  | zero =>
    intro v4 v6 v8 H r4 r6 r8 rH m6 h kx
    exact hp_no h
  | succ n ih =>
    intro v4 v6 v8 H r4 r6 r8 rH m6 h kx
    unfold f_X3_commonDivisor_9 at h
    refine x_iload dX3_commonDivisor_9 2 rfl ?_
    refine x_bipush rfl dX3_commonDivisor_11 ?_
    refine x_icge (tgt := 44) dX3_commonDivisor_13 (by decide) r8 (hp_rc rfl) (fun hc1 => ?_) (fun hc1 => ?_)
    · replace h := hp_if hc1 h
      cases h
      exact x_sub [1] rfl (kx r6)
    · replace h := hp_it hc1 h
      refine x_lload dX3_commonDivisor_16 0 rfl ?_
      refine x_lconst (x := 0) rfl dX3_commonDivisor_18 ?_
      refine x_lcmp r4 (hp_rlc rfl) dX3_commonDivisor_19 ?_
      refine x_ifeq (tgt := 44) dX3_commonDivisor_20 (by decide) (hp_rcmp _ _) (fun hc2 => ?_) (fun hc2 => ?_)
      · replace h := hp_it hc2 h
        cases h
        exact x_sub [1] rfl (kx r6)
      · replace h := hp_if hc2 h
        refine x_lload dX3_commonDivisor_23 1 rfl ?_
        refine x_lload dX3_commonDivisor_25 0 rfl ?_
        obtain ⟨b3, h⟩ := hp_ck_e h
        refine x_lrem r6 r4 b3 dX3_commonDivisor_27 ?_
        obtain ⟨v9_4, ev9_4⟩ : ∃ z : Int, z = (Int.tmod v6 v4) := ⟨_, rfl⟩
        replace h := hp_let_e ev9_4 h
        have rv9_4 := hp_rle ev9_4 (hp_rreml r6)
        refine x_lsE (L' := [(9, .long (hp_J v9_4)), (4, .long (hp_J v4)), (6, .long (hp_J v6)), (8, .int (hp_I v8))]) ev9_4 dX3_commonDivisor_28 (by decide) rfl ?_
        refine x_lload dX3_commonDivisor_30 1 rfl ?_
        refine x_lstore (L' := [(6, .long (hp_J v4)), (9, .long (hp_J v9_4)), (4, .long (hp_J v4)), (8, .int (hp_I v8))]) dX3_commonDivisor_32 (by decide) rfl ?_
        refine x_lload dX3_commonDivisor_34 1 rfl ?_
        refine x_lstore (L' := [(4, .long (hp_J v9_4)), (6, .long (hp_J v4)), (9, .long (hp_J v9_4)), (8, .int (hp_I v8))]) dX3_commonDivisor_36 (by decide) rfl ?_
        obtain ⟨v8_5, ev8_5⟩ : ∃ z : Int, z = (hp_w (v8 + 1)) := ⟨_, rfl⟩
        replace h := hp_let_e ev8_5 h
        have rv8_5 := hp_re ev8_5 (hp_rw _)
        refine x_iiE (L' := [(8, .int (hp_I v8_5)), (4, .long (hp_J v9_4)), (6, .long (hp_J v4)), (9, .long (hp_J v9_4))]) ev8_5 dX3_commonDivisor_38 3 rfl (by decide) rfl ?_
        refine x_goto (tgt := 9) dX3_commonDivisor_41 (by decide) ?_
        exact x_sub [1, 2, 0] rfl (ih v9_4 v4 v8_5 H rv9_4 r4 rv8_5 rH _ h kx)
set_option maxRecDepth 100000 in
theorem ok_X3_commonDivisor {G : hp_G} (hG : hp_sh G = hp_shc) {l : Launch} (v0 : Int) (v2 : Int) (H : hp_H) (r0 : hp_rl v0) (r2 : hp_rl v2) (rH : hp_in H) (r : Int) (h : f_X3_commonDivisor v0 v2 H = some r) : hp_M G l yX3_commonDivisor cX3_commonDivisor 11 (some .long) (hp_rm 0) [.long (hp_J v0), .long (hp_J v2)] H (some (.long (hp_J r))) H (hp_rl r) := by
  unfold f_X3_commonDivisor at h
  refine hp_body "HeelPost$Foretold" (by decide) rfl ⟨rfl, rfl⟩ (Nat.le_of_ble_eq_true rfl) ?_
  show hp_R G l cX3_commonDivisor 11 (some .long) "HeelPost$Foretold" (hp_rm 0) (some (.long (hp_J r))) H (hp_rl r) 0 [(0, .long (hp_J v0)), (2, .long (hp_J v2))] [] H
  refine x_lload_n dX3_commonDivisor_0 0 rfl ?_
  refine x_lstore (L' := [(4, .long (hp_J v0)), (0, .long (hp_J v0)), (2, .long (hp_J v2))]) dX3_commonDivisor_1 (by decide) rfl ?_
  refine x_lload_n dX3_commonDivisor_3 2 rfl ?_
  refine x_lstore (L' := [(6, .long (hp_J v2)), (4, .long (hp_J v0)), (0, .long (hp_J v0)), (2, .long (hp_J v2))]) dX3_commonDivisor_4 (by decide) rfl ?_
  refine x_iconst dX3_commonDivisor_6 ?_
  refine x_istore (L' := [(8, .int (hp_I 0)), (6, .long (hp_J v2)), (4, .long (hp_J v0)), (0, .long (hp_J v0)), (2, .long (hp_J v2))]) dX3_commonDivisor_7 (by decide) rfl ?_
  obtain ⟨v6_6, g7, h⟩ := hp_b1_e h
  refine x_sub [2, 1, 0] rfl (ok_X3_commonDivisor_9 hG 1000 v0 v2 0 H r0 r2 (hp_rc rfl) rH _ g7 ?_)
  intro rv6_6
  refine x_lload dX3_commonDivisor_44 0 rfl ?_
  cases h
  exact x_lret rv6_6 dX3_commonDivisor_46
set_option maxRecDepth 100000 in
theorem ok_X3_likelihood_29 {G : hp_G} (hG : hp_sh G = hp_shc) {l : Launch} {vv : Option Value} {H' : hp_H} {Z : Prop} : ∀ (n : Nat) (v2 : Int) (v3 : Int) (v4 : Int) (v5 : Int) (v6 : Int) (v7 : Int) (v8 : Int) (v10 : Int) (H : hp_H), hp_r v2 → hp_r v3 → hp_r v4 → hp_r v5 → hp_r v6 → hp_r v7 → hp_rl v8 → hp_r v10 → hp_in H → ∀ m8 : Int, ∀ Hm : hp_H, f_X3_likelihood_29 n v2 v3 v4 v5 v6 v7 v8 v10 H = some (m8, Hm) → (hp_rl m8 → hp_in Hm → hp_R G l cX3_likelihood 14 (some .long) "HeelPost$Foretold" (hp_rm 5) vv H' Z 116 [(5, .int (hp_I v5)), (7, .int (hp_I v7)), (8, .long (hp_J m8))] [] Hm) → hp_R G l cX3_likelihood 14 (some .long) "HeelPost$Foretold" (hp_rm 5) vv H' Z 29 [(0, .ref (hp_ad G 210)), (1, .ref (hp_ad G 15)), (2, .int (hp_I v2)), (3, .int (hp_I v3)), (4, .int (hp_I v4)), (5, .int (hp_I v5)), (6, .int (hp_I v6)), (7, .int (hp_I v7)), (8, .long (hp_J v8)), (10, .int (hp_I v10))] [] H := by
  intro n
  induction n with
  | zero =>
    intro v2 v3 v4 v5 v6 v7 v8 v10 H r2 r3 r4 r5 r6 r7 r8 r10 rH m8 Hm h kx
    exact hp_no h
  | succ n ih =>
    intro v2 v3 v4 v5 v6 v7 v8 v10 H r2 r3 r4 r5 r6 r7 r8 r10 rH m8 Hm h kx
    unfold f_X3_likelihood_29 at h
    refine x_iload dX3_likelihood_29 9 rfl ?_
    refine x_iload dX3_likelihood_31 6 rfl ?_
    refine x_icgt (tgt := 116) dX3_likelihood_33 (by decide) r10 r6 (fun hc6 => ?_) (fun hc6 => ?_)
    · replace h := hp_it hc6 h
      cases h
      exact x_sub [5, 7, 8] rfl (kx r8 rH)
    · replace h := hp_if hc6 h
      refine x_iload dX3_likelihood_36 4 rfl ?_
      refine x_i2l r4 dX3_likelihood_38 ?_
      refine x_iload dX3_likelihood_39 9 rfl ?_
      obtain ⟨c8, g7, h⟩ := hp_b1_e h
      refine x_isi (As := [.int (hp_I v10)]) (ok_J6_bitCount_0f7a4 hG v10 H r10 rH _ g7) cal_J6_bitCount_0f7a4 stt_J6_bitCount_0f7a4 wm_659 (by decide) rfl rfl (Nat.le_of_ble_eq_true rfl) dX3_likelihood_41 (fun z9 => ?_)
      have rc8 := z9
      obtain ⟨c10, g9, h⟩ := hp_b1_e h
      refine x_isl (As := [.long (hp_J v4), .int (hp_I c8)]) (ok_X3_power hG v4 c8 H (hp_rrl r4) rc8 rH _ g9) cal_X3_power stt_X3_power wm_760 (by decide) rfl rfl (Nat.le_of_ble_eq_true rfl) dX3_likelihood_44 (fun z9 => ?_)
      have rc10 := z9
      refine x_bipush rfl dX3_likelihood_47 ?_
      refine x_iload dX3_likelihood_49 4 rfl ?_
      refine x_isub dX3_likelihood_51 ?_
      refine x_i2l (hp_rw _) dX3_likelihood_52 ?_
      refine x_iload dX3_likelihood_53 7 rfl ?_
      refine x_iload dX3_likelihood_55 9 rfl ?_
      refine x_iconst dX3_likelihood_57 ?_
      refine x_ixor dX3_likelihood_58 ?_
      refine x_iand dX3_likelihood_59 ?_
      obtain ⟨c12, g11, h⟩ := hp_b1_e h
      refine x_isi (As := [.int (hp_I (hp_and v7 (hp_xor v10 (-1))))]) (ok_J6_bitCount_0f7a4 hG (hp_and v7 (hp_xor v10 (-1))) H (hp_rand _ _) rH _ g11) cal_J6_bitCount_0f7a4 stt_J6_bitCount_0f7a4 wm_659 (by decide) rfl rfl (Nat.le_of_ble_eq_true rfl) dX3_likelihood_60 (fun z9 => ?_)
      have rc12 := z9
      obtain ⟨c14, g13, h⟩ := hp_b1_e h
      refine x_isl (As := [.long (hp_J (hp_w (10 - v4))), .int (hp_I c12)]) (ok_X3_power hG (hp_w (10 - v4)) c12 H (hp_rrl (hp_rw _)) rc12 rH _ g13) cal_X3_power stt_X3_power wm_760 (by decide) rfl rfl (Nat.le_of_ble_eq_true rfl) dX3_likelihood_63 (fun z9 => ?_)
      have rc14 := z9
      refine x_lmul dX3_likelihood_66 ?_
      obtain ⟨v11_15, ev11_15⟩ : ∃ z : Int, z = (hp_wl (c10 * c14)) := ⟨_, rfl⟩
      replace h := hp_let_e ev11_15 h
      have rv11_15 := hp_rle ev11_15 (hp_rwl _)
      refine x_lsE (L' := [(11, .long (hp_J v11_15)), (0, .ref (hp_ad G 210)), (1, .ref (hp_ad G 15)), (2, .int (hp_I v2)), (3, .int (hp_I v3)), (4, .int (hp_I v4)), (5, .int (hp_I v5)), (6, .int (hp_I v6)), (7, .int (hp_I v7)), (8, .long (hp_J v8)), (10, .int (hp_I v10))]) ev11_15 dX3_likelihood_67 (by decide) rfl ?_
      refine x_iload dX3_likelihood_69 10 rfl ?_
      refine x_iload dX3_likelihood_71 8 rfl ?_
      refine x_iconst dX3_likelihood_73 ?_
      refine x_ixor dX3_likelihood_74 ?_
      refine x_iand dX3_likelihood_75 ?_
      obtain ⟨v8_16, H17, hm18, h⟩ := hp_b2_e h
      have kj : hp_rl v8_16 → hp_in H17 → hp_R G l cX3_likelihood 14 (some .long) "HeelPost$Foretold" (hp_rm 5) vv H' Z 110 [(0, .ref (hp_ad G 210)), (1, .ref (hp_ad G 15)), (2, .int (hp_I v2)), (3, .int (hp_I v3)), (4, .int (hp_I v4)), (5, .int (hp_I v5)), (6, .int (hp_I v6)), (7, .int (hp_I v7)), (8, .long (hp_J v8_16)), (10, .int (hp_I v10))] [] H17 := by
        intro rv8_16 rH17
        obtain ⟨v10_19, ev10_19⟩ : ∃ z : Int, z = (hp_w (v10 + 1)) := ⟨_, rfl⟩
        replace h := hp_let_e ev10_19 h
        have rv10_19 := hp_re ev10_19 (hp_rw _)
        refine x_iiE (L' := [(10, .int (hp_I v10_19)), (0, .ref (hp_ad G 210)), (1, .ref (hp_ad G 15)), (2, .int (hp_I v2)), (3, .int (hp_I v3)), (4, .int (hp_I v4)), (5, .int (hp_I v5)), (6, .int (hp_I v6)), (7, .int (hp_I v7)), (8, .long (hp_J v8_16))]) ev10_19 dX3_likelihood_110 9 rfl (by decide) rfl ?_
        refine x_goto (tgt := 29) dX3_likelihood_113 (by decide) ?_
        exact x_sub [1, 2, 3, 4, 5, 6, 7, 8, 9, 0] rfl (ih v2 v3 v4 v5 v6 v7 v8_16 v10_19 H17 r2 r3 r4 r5 r6 r7 rv8_16 rv10_19 rH17 _ _ h kx)
      clear h
      have h := hm18
      clear hm18
      refine x_ifne (tgt := 110) dX3_likelihood_76 (by decide) (hp_rand _ _) (fun hc20 => ?_) (fun hc20 => ?_)
      · replace h := hp_if hc20 h
        cases h
        exact x_sub [1, 2, 3, 4, 5, 6, 7, 8, 9, 10] rfl (kj r8 rH)
      · replace h := hp_it hc20 h
        refine x_lload dX3_likelihood_79 0 rfl ?_
        refine x_lconst (x := 0) rfl dX3_likelihood_81 ?_
        refine x_lcmp rv11_15 (hp_rlc rfl) dX3_likelihood_82 ?_
        refine x_ifle (tgt := 110) dX3_likelihood_83 (by decide) (hp_rcmp _ _) (fun hc21 => ?_) (fun hc21 => ?_)
        · replace h := hp_if hc21 h
          cases h
          exact x_sub [1, 2, 3, 4, 5, 6, 7, 8, 9, 10] rfl (kj r8 rH)
        · replace h := hp_it hc21 h
          refine x_aload_n dX3_likelihood_86 1 rfl ?_
          refine x_aload_n dX3_likelihood_87 2 rfl ?_
          refine x_aload_n dX3_likelihood_88 2 rfl ?_
          refine x_gi 5 5 rfl (tw_0 (tw_at15 hG)) (tw_p (tw_at15 hG)) (C := RX6) (T := TX6) (N := 12) rfl in_X6 (by decide) rfl wf_87 dX3_likelihood_89 ?_
          refine x_iload dX3_likelihood_92 10 rfl ?_
          refine x_ior dX3_likelihood_94 ?_
          refine x_iload_n dX3_likelihood_95 3 rfl ?_
          refine x_iload_n dX3_likelihood_96 4 rfl ?_
          obtain ⟨c23, H24, g22, h⟩ := hp_b2_e h
          refine x_ivi (As := [.ref (hp_ad G 15), .int (hp_I (hp_or (H 15 5) v10)), .int (hp_I v2), .int (hp_I v3)]) (ok_X3_isThereWith hG (hp_or (H 15 5) v10) v2 v3 H (hp_ror _ _) r2 r3 rH _ g22) cal_X3_isThereWith (sc_210 hG) (by decide) (C := RX3) (T := TX3) (N := 6) rfl rfl ins_X3_isThereWith sel_X3_isThereWith wm_665 (by decide) rfl rfl (Nat.le_of_ble_eq_true rfl) dX3_likelihood_97 (fun z9 => ?_)
          obtain ⟨rc23, rH24⟩ := z9
          refine x_ifeq (tgt := 110) dX3_likelihood_100 (by decide) rc23 (fun hc25 => ?_) (fun hc25 => ?_)
          · replace h := hp_it hc25 h
            cases h
            exact x_sub [1, 2, 3, 4, 5, 6, 7, 8, 9, 10] rfl (kj r8 rH24)
          · replace h := hp_if hc25 h
            refine x_lload dX3_likelihood_103 9 rfl ?_
            refine x_lload dX3_likelihood_105 0 rfl ?_
            refine x_ladd dX3_likelihood_107 ?_
            obtain ⟨v8_26, ev8_26⟩ : ∃ z : Int, z = (hp_wl (v8 + v11_15)) := ⟨_, rfl⟩
            replace h := hp_let_e ev8_26 h
            have rv8_26 := hp_rle ev8_26 (hp_rwl _)
            refine x_lsE (L' := [(8, .long (hp_J v8_26)), (11, .long (hp_J v11_15)), (0, .ref (hp_ad G 210)), (1, .ref (hp_ad G 15)), (2, .int (hp_I v2)), (3, .int (hp_I v3)), (4, .int (hp_I v4)), (5, .int (hp_I v5)), (6, .int (hp_I v6)), (7, .int (hp_I v7)), (10, .int (hp_I v10))]) ev8_26 dX3_likelihood_108 (by decide) rfl ?_
            cases h
            exact x_sub [2, 3, 4, 5, 6, 7, 8, 9, 0, 10] rfl (kj rv8_26 rH24)
set_option maxRecDepth 100000 in
theorem ok_X3_likelihood {G : hp_G} (hG : hp_sh G = hp_shc) {l : Launch} (v2 : Int) (v3 : Int) (v4 : Int) (v5 : Int) (H : hp_H) (r2 : hp_r v2) (r3 : hp_r v3) (r4 : hp_r v4) (r5 : hp_r v5) (rH : hp_in H) (x : Int × hp_H) (h : f_X3_likelihood v2 v3 v4 v5 H = some x) : hp_M G l yX3_likelihood cX3_likelihood 14 (some .long) (hp_rm 5) [.ref (hp_ad G 210), .ref (hp_ad G 15), .int (hp_I v2), .int (hp_I v3), .int (hp_I v4), .int (hp_I v5)] H (some (.long (hp_J x.1))) x.2 (hp_rl x.1 ∧ hp_in x.2) := by
  obtain ⟨r, H'⟩ := x
  unfold f_X3_likelihood at h
  refine hp_body "HeelPost$Foretold" (by decide) rfl ⟨rfl, rfl⟩ (Nat.le_of_ble_eq_true rfl) ?_
  show hp_R G l cX3_likelihood 14 (some .long) "HeelPost$Foretold" (hp_rm 5) (some (.long (hp_J r))) H' (hp_rl r ∧ hp_in H') 0 [(0, .ref (hp_ad G 210)), (1, .ref (hp_ad G 15)), (2, .int (hp_I v2)), (3, .int (hp_I v3)), (4, .int (hp_I v4)), (5, .int (hp_I v5))] [] H
  refine x_aload_n dX3_likelihood_0 0 rfl ?_
  refine x_aload_n dX3_likelihood_1 1 rfl ?_
  refine x_iload_n dX3_likelihood_2 3 rfl ?_
  obtain ⟨H2, g1, h⟩ := hp_b1_e h
  refine x_ivv (As := [.ref (hp_ad G 15), .int (hp_I v3)]) (ok_X3_prepare hG v3 H r3 rH _ g1) cal_X3_prepare (sc_210 hG) (by decide) (C := RX3) (T := TX3) (N := 6) rfl rfl ins_X3_prepare sel_X3_prepare wm_560 (by decide) rfl rfl (Nat.le_of_ble_eq_true rfl) dX3_likelihood_3 (fun z9 => ?_)
  have rH2 := z9
  refine x_aload_n dX3_likelihood_6 1 rfl ?_
  obtain ⟨c4, g3, h⟩ := hp_b1_e h
  refine x_ivi (As := []) (ok_X6_everybody hG 15 H2 (tw_at15 hG) rH2 _ g3) cal_X6_everybody (tw_0 (tw_at15 hG)) (tw_p (tw_at15 hG)) (C := RX6) (T := TX6) (N := 12) rfl rfl ins_X6_everybody sel_X6_everybody wm_655 (by decide) rfl rfl (Nat.le_of_ble_eq_true rfl) dX3_likelihood_7 (fun z9 => ?_)
  have rc4 := z9
  refine x_istore (L' := [(6, .int (hp_I c4)), (0, .ref (hp_ad G 210)), (1, .ref (hp_ad G 15)), (2, .int (hp_I v2)), (3, .int (hp_I v3)), (4, .int (hp_I v4)), (5, .int (hp_I v5))]) dX3_likelihood_10 (by decide) rfl ?_
  refine x_iload dX3_likelihood_12 0 rfl ?_
  refine x_aload_n dX3_likelihood_14 2 rfl ?_
  refine x_gi 5 5 rfl (tw_0 (tw_at15 hG)) (tw_p (tw_at15 hG)) (C := RX6) (T := TX6) (N := 12) rfl in_X6 (by decide) rfl wf_87 dX3_likelihood_15 ?_
  refine x_iconst dX3_likelihood_18 ?_
  refine x_ixor dX3_likelihood_19 ?_
  refine x_iand dX3_likelihood_20 ?_
  obtain ⟨v7_5, ev7_5⟩ : ∃ z : Int, z = (hp_and c4 (hp_xor (H2 15 5) (-1))) := ⟨_, rfl⟩
  replace h := hp_let_e ev7_5 h
  have rv7_5 := hp_re ev7_5 (hp_rand _ _)
  refine x_isE (L' := [(7, .int (hp_I v7_5)), (6, .int (hp_I c4)), (0, .ref (hp_ad G 210)), (1, .ref (hp_ad G 15)), (2, .int (hp_I v2)), (3, .int (hp_I v3)), (4, .int (hp_I v4)), (5, .int (hp_I v5))]) ev7_5 dX3_likelihood_21 (by decide) rfl ?_
  refine x_lconst (x := 0) rfl dX3_likelihood_23 ?_
  refine x_lstore (L' := [(8, .long (hp_J 0)), (7, .int (hp_I v7_5)), (6, .int (hp_I c4)), (0, .ref (hp_ad G 210)), (1, .ref (hp_ad G 15)), (2, .int (hp_I v2)), (3, .int (hp_I v3)), (4, .int (hp_I v4)), (5, .int (hp_I v5))]) dX3_likelihood_24 (by decide) rfl ?_
  refine x_iconst dX3_likelihood_26 ?_
  refine x_istore (L' := [(10, .int (hp_I 0)), (8, .long (hp_J 0)), (7, .int (hp_I v7_5)), (6, .int (hp_I c4)), (0, .ref (hp_ad G 210)), (1, .ref (hp_ad G 15)), (2, .int (hp_I v2)), (3, .int (hp_I v3)), (4, .int (hp_I v4)), (5, .int (hp_I v5))]) dX3_likelihood_27 (by decide) rfl ?_
  obtain ⟨v8_27, H28, g29, h⟩ := hp_b2_e h
  refine x_sub [4, 5, 6, 7, 8, 9, 3, 2, 1, 0] rfl (ok_X3_likelihood_29 hG 1000 v2 v3 v4 v5 c4 v7_5 0 0 H2 r2 r3 r4 r5 rc4 rv7_5 (hp_rlc rfl) (hp_rc rfl) rH2 _ _ g29 ?_)
  intro rv8_27 rH28
  refine x_ldc2 (x := 10) wc_763 rfl dX3_likelihood_116 ?_
  refine x_iload dX3_likelihood_119 1 rfl ?_
  obtain ⟨c31, g30, h⟩ := hp_b1_e h
  refine x_isi (As := [.int (hp_I v7_5)]) (ok_J6_bitCount_0f7a4 hG v7_5 H28 rv7_5 rH28 _ g30) cal_J6_bitCount_0f7a4 stt_J6_bitCount_0f7a4 wm_659 (by decide) rfl rfl (Nat.le_of_ble_eq_true rfl) dX3_likelihood_121 (fun z9 => ?_)
  have rc31 := z9
  obtain ⟨c33, g32, h⟩ := hp_b1_e h
  refine x_isl (As := [.long (hp_J 10), .int (hp_I c31)]) (ok_X3_power hG 10 c31 H28 (hp_rlc rfl) rc31 rH28 _ g32) cal_X3_power stt_X3_power wm_760 (by decide) rfl rfl (Nat.le_of_ble_eq_true rfl) dX3_likelihood_124 (fun z9 => ?_)
  have rc33 := z9
  refine x_lstore (L' := [(10, .long (hp_J c33)), (5, .int (hp_I v5)), (7, .int (hp_I v7_5)), (8, .long (hp_J v8_27))]) dX3_likelihood_127 (by decide) rfl ?_
  refine x_lload dX3_likelihood_129 3 rfl ?_
  refine x_lload dX3_likelihood_131 0 rfl ?_
  obtain ⟨c35, g34, h⟩ := hp_b1_e h
  refine x_isl (As := [.long (hp_J v8_27), .long (hp_J c33)]) (ok_X3_commonDivisor hG v8_27 c33 H28 rv8_27 rc33 rH28 _ g34) cal_X3_commonDivisor stt_X3_commonDivisor wm_764 (by decide) rfl rfl (Nat.le_of_ble_eq_true rfl) dX3_likelihood_133 (fun z9 => ?_)
  have rc35 := z9
  refine x_lconst (x := 1) rfl dX3_likelihood_136 ?_
  refine x_maxl rc35 (hp_rlc rfl) wm_767 stt_maxl ini_Math cod_maxl (by decide) (Nat.le_of_ble_eq_true rfl) dX3_likelihood_137 ?_
  obtain ⟨v12_36, ev12_36⟩ : ∃ z : Int, z = (hp_max c35 1) := ⟨_, rfl⟩
  replace h := hp_let_e ev12_36 h
  have rv12_36 := hp_rle ev12_36 (hp_rmaxl rc35 (hp_rlc rfl))
  refine x_lsE (L' := [(12, .long (hp_J v12_36)), (10, .long (hp_J c33)), (5, .int (hp_I v5)), (7, .int (hp_I v7_5)), (8, .long (hp_J v8_27))]) ev12_36 dX3_likelihood_140 (by decide) rfl ?_
  refine x_iload dX3_likelihood_142 2 rfl ?_
  obtain ⟨m37, em37⟩ : ∃ z : Int, z = (if v5 = 0 then v8_27 else c33) := ⟨_, rfl⟩
  replace h := hp_let_e em37 h
  have rm37 := hp_rle em37 (hp_rlite rv8_27 rc33)
  have kj : hp_R G l cX3_likelihood 14 (some .long) "HeelPost$Foretold" (hp_rm 5) (some (.long (hp_J r))) H' (hp_rl r ∧ hp_in H') 154 [(12, .long (hp_J v12_36))] [.long (hp_J m37)] H28 := by
    refine x_lload dX3_likelihood_154 0 rfl ?_
    obtain ⟨b38, h⟩ := hp_ck_e h
    refine x_ldiv rm37 rv12_36 b38 dX3_likelihood_156 ?_
    cases h
    exact x_lret ⟨(hp_rwl _), rH28⟩ dX3_likelihood_157
  clear h
  refine x_ifne (tgt := 152) dX3_likelihood_144 (by decide) r5 (fun hc39 => ?_) (fun hc39 => ?_)
  · refine x_lload dX3_likelihood_152 1 rfl ?_
    have q9 := (em37.trans (if_neg hc39))
    subst q9
    exact x_sub [0] rfl kj
  · refine x_lload dX3_likelihood_147 4 rfl ?_
    refine x_goto (tgt := 154) dX3_likelihood_149 (by decide) ?_
    have q9 := (em37.trans (if_pos hc39))
    subst q9
    exact x_sub [0] rfl kj
set_option maxRecDepth 100000 in
theorem ok_X3_weeks_16 {G : hp_G} (hG : hp_sh G = hp_shc) {l : Launch} {vv : Option Value} {H' : hp_H} {Z : Prop} : ∀ (n : Nat) (v2 : Int) (v4 : Int) (v5 : Int) (v7 : Int) (v8 : Int) (H : hp_H), hp_r v2 → hp_r v4 → hp_rl v5 → hp_r v7 → hp_r v8 → hp_in H → ∀ m7 : Int, ∀ Hm : hp_H, f_X3_weeks_16 n v2 v4 v5 v7 v8 H = some (m7, Hm) → (hp_r m7 → hp_in Hm → hp_R G l cX3_weeks 10 (some .int) "HeelPost$Foretold" (hp_rm 5) vv H' Z 114 [(0, .ref (hp_ad G 210)), (4, .int (hp_I v4)), (7, .int (hp_I m7))] [] Hm) → hp_R G l cX3_weeks 10 (some .int) "HeelPost$Foretold" (hp_rm 5) vv H' Z 16 [(0, .ref (hp_ad G 210)), (1, .ref (hp_ad G 15)), (2, .int (hp_I v2)), (4, .int (hp_I v4)), (5, .long (hp_J v5)), (7, .int (hp_I v7)), (8, .int (hp_I v8))] [] H := by
  intro n
  induction n with
  | zero =>
    intro v2 v4 v5 v7 v8 H r2 r4 r5 r7 r8 rH m7 Hm h kx
    exact hp_no h
  | succ n ih =>
    intro v2 v4 v5 v7 v8 H r2 r4 r5 r7 r8 rH m7 Hm h kx
    unfold f_X3_weeks_16 at h
    refine x_iload dX3_weeks_16 6 rfl ?_
    refine x_iload_n dX3_weeks_18 2 rfl ?_
    refine x_icge (tgt := 114) dX3_weeks_19 (by decide) r8 r2 (fun hc3 => ?_) (fun hc3 => ?_)
    · replace h := hp_if hc3 h
      cases h
      exact x_sub [0, 3, 5] rfl (kx r7 rH)
    · replace h := hp_it hc3 h
      refine x_lload dX3_weeks_22 4 rfl ?_
      refine x_ldc2 (x := 16807) wc_779 rfl dX3_weeks_24 ?_
      refine x_lmul dX3_weeks_27 ?_
      refine x_ldc2 (x := 2147483647) wc_780 rfl dX3_weeks_28 ?_
      refine x_lrem (hp_rwl _) (hp_rlc rfl) (by decide) dX3_weeks_31 ?_
      obtain ⟨v5_4, ev5_4⟩ : ∃ z : Int, z = (Int.tmod (hp_wl (v5 * 16807)) 2147483647) := ⟨_, rfl⟩
      replace h := hp_let_e ev5_4 h
      have rv5_4 := hp_rle ev5_4 (hp_rreml (hp_rwl _))
      refine x_lsE (L' := [(5, .long (hp_J v5_4)), (0, .ref (hp_ad G 210)), (1, .ref (hp_ad G 15)), (2, .int (hp_I v2)), (4, .int (hp_I v4)), (7, .int (hp_I v7)), (8, .int (hp_I v8))]) ev5_4 dX3_weeks_32 (by decide) rfl ?_
      refine x_lload dX3_weeks_34 0 rfl ?_
      refine x_ldc2 (x := 5) wc_781 rfl dX3_weeks_36 ?_
      refine x_lrem rv5_4 (hp_rlc rfl) (by decide) dX3_weeks_39 ?_
      refine x_lconst (x := 0) rfl dX3_weeks_40 ?_
      refine x_lcmp (hp_rreml rv5_4) (hp_rlc rfl) dX3_weeks_41 ?_
      obtain ⟨H5, hm6, h⟩ := hp_b1_e h
      have kj : hp_in H5 → hp_R G l cX3_weeks 10 (some .int) "HeelPost$Foretold" (hp_rm 5) vv H' Z 88 [(0, .ref (hp_ad G 210)), (1, .ref (hp_ad G 15)), (2, .int (hp_I v2)), (4, .int (hp_I v4)), (5, .long (hp_J v5_4)), (7, .int (hp_I v7)), (8, .int (hp_I v8))] [] H5 := by
        intro rH5
        refine x_aload_n dX3_weeks_88 0 rfl ?_
        refine x_getr 0 (sc_210 hG) (by decide) (C := RX3) (T := TX3) (N := 6) rfl in_X3 (by decide) rfl wf_194 dX3_weeks_89 ?_
        refine x_aload_n dX3_weeks_92 0 rfl ?_
        refine x_getr 1 (sc_210 hG) (by decide) (C := RX3) (T := TX3) (N := 6) rfl in_X3 (by decide) rfl wf_195 dX3_weeks_93 ?_
        obtain ⟨H8, g7, h⟩ := hp_b1_e h
        refine x_ivv (As := [.ref (hp_ad G 211)]) (ok_X2_pass hG 211 H5 (tw_at211 hG) rH5 _ g7) cal_X2_pass (sc_199 hG) (by decide) (C := RX2) (T := TX2) (N := 8) rfl rfl ins_X2_pass sel_X2_pass wm_566 (by decide) rfl rfl (Nat.le_of_ble_eq_true rfl) dX3_weeks_96 (fun z9 => ?_)
        have rH8 := z9
        refine x_iload dX3_weeks_99 5 rfl ?_
        refine x_aload_n dX3_weeks_101 0 rfl ?_
        obtain ⟨c10, H11, g9, h⟩ := hp_b2_e h
        refine x_ivi (As := []) (ok_X3_tally hG H8 rH8 _ g9) cal_X3_tally (sc_210 hG) (by decide) (C := RX3) (T := TX3) (N := 6) rfl rfl ins_X3_tally sel_X3_tally wm_748 (by decide) rfl rfl (Nat.le_of_ble_eq_true rfl) dX3_weeks_102 (fun z9 => ?_)
        obtain ⟨rc10, rH11⟩ := z9
        refine x_iadd dX3_weeks_105 ?_
        obtain ⟨v7_12, ev7_12⟩ : ∃ z : Int, z = (hp_w (v7 + c10)) := ⟨_, rfl⟩
        replace h := hp_let_e ev7_12 h
        have rv7_12 := hp_re ev7_12 (hp_rw _)
        refine x_isE (L' := [(7, .int (hp_I v7_12)), (0, .ref (hp_ad G 210)), (1, .ref (hp_ad G 15)), (2, .int (hp_I v2)), (4, .int (hp_I v4)), (5, .long (hp_J v5_4)), (8, .int (hp_I v8))]) ev7_12 dX3_weeks_106 (by decide) rfl ?_
        obtain ⟨v8_13, ev8_13⟩ : ∃ z : Int, z = (hp_w (v8 + 1)) := ⟨_, rfl⟩
        replace h := hp_let_e ev8_13 h
        have rv8_13 := hp_re ev8_13 (hp_rw _)
        refine x_iiE (L' := [(8, .int (hp_I v8_13)), (7, .int (hp_I v7_12)), (0, .ref (hp_ad G 210)), (1, .ref (hp_ad G 15)), (2, .int (hp_I v2)), (4, .int (hp_I v4)), (5, .long (hp_J v5_4))]) ev8_13 dX3_weeks_108 6 rfl (by decide) rfl ?_
        refine x_goto (tgt := 16) dX3_weeks_111 (by decide) ?_
        exact x_sub [2, 3, 4, 5, 6, 1, 0] rfl (ih v2 v4 v5_4 v7_12 v8_13 H11 r2 r4 rv5_4 rv7_12 rv8_13 rH11 _ _ h kx)
      clear h
      have h := hm6
      clear hm6
      refine x_ifne (tgt := 88) dX3_weeks_42 (by decide) (hp_rcmp _ _) (fun hc14 => ?_) (fun hc14 => ?_)
      · replace h := hp_if hc14 h
        cases h
        exact x_sub [1, 2, 3, 4, 0, 5, 6] rfl (kj rH)
      · replace h := hp_it hc14 h
        refine x_aload_n dX3_weeks_45 2 rfl ?_
        refine x_gi 0 0 rfl (tw_0 (tw_at15 hG)) (tw_p (tw_at15 hG)) (C := RX6) (T := TX6) (N := 12) rfl in_X6 (by decide) rfl wf_70 dX3_weeks_46 ?_
        refine x_ifle (tgt := 88) dX3_weeks_49 (by decide) (rH _ _) (fun hc15 => ?_) (fun hc15 => ?_)
        · replace h := hp_if hc15 h
          cases h
          exact x_sub [1, 2, 3, 4, 0, 5, 6] rfl (kj rH)
        · replace h := hp_it hc15 h
          refine x_lload dX3_weeks_52 0 rfl ?_
          refine x_aload_n dX3_weeks_54 2 rfl ?_
          refine x_gi 0 0 rfl (tw_0 (tw_at15 hG)) (tw_p (tw_at15 hG)) (C := RX6) (T := TX6) (N := 12) rfl in_X6 (by decide) rfl wf_70 dX3_weeks_55 ?_
          refine x_i2l (rH _ _) dX3_weeks_58 ?_
          obtain ⟨b16, h⟩ := hp_ck_e h
          refine x_lrem rv5_4 (hp_rrl (rH _ _)) b16 dX3_weeks_59 ?_
          refine x_l2i dX3_weeks_60 ?_
          obtain ⟨v9_17, ev9_17⟩ : ∃ z : Int, z = (hp_w (Int.tmod v5_4 (H 15 0))) := ⟨_, rfl⟩
          replace h := hp_let_e ev9_17 h
          have rv9_17 := hp_re ev9_17 (hp_rw _)
          refine x_isE (L' := [(9, .int (hp_I v9_17)), (5, .long (hp_J v5_4)), (0, .ref (hp_ad G 210)), (1, .ref (hp_ad G 15)), (2, .int (hp_I v2)), (4, .int (hp_I v4)), (7, .int (hp_I v7)), (8, .int (hp_I v8))]) ev9_17 dX3_weeks_61 (by decide) rfl ?_
          refine x_aload_n dX3_weeks_63 2 rfl ?_
          refine x_getr 1 (sc_210 hG) (by decide) (C := RX3) (T := TX3) (N := 6) rfl in_X3 (by decide) rfl wf_195 dX3_weeks_64 ?_
          refine x_lload dX3_weeks_67 1 rfl ?_
          refine x_ldc2 (x := 4) wc_782 rfl dX3_weeks_69 ?_
          refine x_lrem rv5_4 (hp_rlc rfl) (by decide) dX3_weeks_72 ?_
          refine x_l2i dX3_weeks_73 ?_
          refine x_iload dX3_weeks_74 0 rfl ?_
          refine x_aload_n dX3_weeks_76 3 rfl ?_
          refine x_gi 0 0 rfl (tw_0 (tw_at15 hG)) (tw_p (tw_at15 hG)) (C := RX6) (T := TX6) (N := 12) rfl in_X6 (by decide) rfl wf_70 dX3_weeks_77 ?_
          refine x_iconst dX3_weeks_80 ?_
          refine x_isub dX3_weeks_81 ?_
          refine x_iload dX3_weeks_82 0 rfl ?_
          refine x_isub dX3_weeks_84 ?_
          obtain ⟨H19, g18, h⟩ := hp_b1_e h
          refine x_ivv (As := [.int (hp_I (hp_w (Int.tmod v5_4 4))), .int (hp_I v9_17), .int (hp_I (hp_w ((hp_w ((H 15 0) - 1)) - v9_17)))]) (ok_X6_putOut hG 211 (hp_w (Int.tmod v5_4 4)) v9_17 (hp_w ((hp_w ((H 15 0) - 1)) - v9_17)) H (tw_at211 hG) (hp_rw _) rv9_17 (hp_rw _) rH _ g18) cal_X6_putOut (tw_0 (tw_at211 hG)) (tw_p (tw_at211 hG)) (C := RX6) (T := TX6) (N := 12) rfl rfl ins_X6_putOut sel_X6_putOut wm_626 (by decide) rfl rfl (Nat.le_of_ble_eq_true rfl) dX3_weeks_85 (fun z9 => ?_)
          have rH19 := z9
          cases h
          exact x_sub [2, 3, 4, 5, 1, 6, 7] rfl (kj rH19)
set_option maxRecDepth 100000 in
theorem ok_X3_weeks {G : hp_G} (hG : hp_sh G = hp_shc) {l : Launch} (v2 : Int) (v3 : Int) (v4 : Int) (H : hp_H) (r2 : hp_r v2) (r3 : hp_r v3) (r4 : hp_r v4) (rH : hp_in H) (x : Int × hp_H) (h : f_X3_weeks v2 v3 v4 H = some x) : hp_M G l yX3_weeks cX3_weeks 10 (some .int) (hp_rm 5) [.ref (hp_ad G 210), .ref (hp_ad G 15), .int (hp_I v2), .int (hp_I v3), .int (hp_I v4)] H (some (.int (hp_I x.1))) x.2 (hp_r x.1 ∧ hp_in x.2) := by
  obtain ⟨r, H'⟩ := x
  unfold f_X3_weeks at h
  refine hp_body "HeelPost$Foretold" (by decide) rfl ⟨rfl, rfl⟩ (Nat.le_of_ble_eq_true rfl) ?_
  show hp_R G l cX3_weeks 10 (some .int) "HeelPost$Foretold" (hp_rm 5) (some (.int (hp_I r))) H' (hp_r r ∧ hp_in H') 0 [(0, .ref (hp_ad G 210)), (1, .ref (hp_ad G 15)), (2, .int (hp_I v2)), (3, .int (hp_I v3)), (4, .int (hp_I v4))] [] H
  refine x_aload_n dX3_weeks_0 0 rfl ?_
  refine x_aload_n dX3_weeks_1 1 rfl ?_
  refine x_iload_n dX3_weeks_2 2 rfl ?_
  obtain ⟨H2, g1, h⟩ := hp_b1_e h
  refine x_ivv (As := [.ref (hp_ad G 15), .int (hp_I v2)]) (ok_X3_prepare hG v2 H r2 rH _ g1) cal_X3_prepare (sc_210 hG) (by decide) (C := RX3) (T := TX3) (N := 6) rfl rfl ins_X3_prepare sel_X3_prepare wm_560 (by decide) rfl rfl (Nat.le_of_ble_eq_true rfl) dX3_weeks_3 (fun z9 => ?_)
  have rH2 := z9
  refine x_iload_n dX3_weeks_6 3 rfl ?_
  refine x_i2l r3 dX3_weeks_7 ?_
  refine x_lstore (L' := [(5, .long (hp_J v3)), (0, .ref (hp_ad G 210)), (1, .ref (hp_ad G 15)), (2, .int (hp_I v2)), (3, .int (hp_I v3)), (4, .int (hp_I v4))]) dX3_weeks_8 (by decide) rfl ?_
  refine x_iconst dX3_weeks_10 ?_
  refine x_istore (L' := [(7, .int (hp_I 0)), (5, .long (hp_J v3)), (0, .ref (hp_ad G 210)), (1, .ref (hp_ad G 15)), (2, .int (hp_I v2)), (3, .int (hp_I v3)), (4, .int (hp_I v4))]) dX3_weeks_11 (by decide) rfl ?_
  refine x_iconst dX3_weeks_13 ?_
  refine x_istore (L' := [(8, .int (hp_I 0)), (7, .int (hp_I 0)), (5, .long (hp_J v3)), (0, .ref (hp_ad G 210)), (1, .ref (hp_ad G 15)), (2, .int (hp_I v2)), (3, .int (hp_I v3)), (4, .int (hp_I v4))]) dX3_weeks_14 (by decide) rfl ?_
  obtain ⟨v7_20, H21, g22, h⟩ := hp_b2_e h
  refine x_sub [3, 4, 5, 7, 2, 1, 0] rfl (ok_X3_weeks_16 hG 1000 v2 v4 v3 0 0 H2 r2 r4 (hp_rrl r3) (hp_rc rfl) (hp_rc rfl) rH2 _ _ g22 ?_)
  intro rv7_20 rH21
  refine x_iload dX3_weeks_114 1 rfl ?_
  refine x_ifne (tgt := 132) dX3_weeks_116 (by decide) r4 (fun hc23 => ?_) (fun hc23 => ?_)
  · replace h := hp_if hc23 h
    refine x_iload dX3_weeks_132 2 rfl ?_
    cases h
    exact x_iret ⟨rv7_20, rH21⟩ dX3_weeks_134
  · replace h := hp_it hc23 h
    refine x_aload_n dX3_weeks_119 0 rfl ?_
    refine x_getr 1 (sc_210 hG) (by decide) (C := RX3) (T := TX3) (N := 6) rfl in_X3 (by decide) rfl wf_195 dX3_weeks_120 ?_
    obtain ⟨c25, g24, h⟩ := hp_b1_e h
    refine x_ivi (As := []) (ok_X6_arrived hG 211 H21 (tw_at211 hG) rH21 _ g24) cal_X6_arrived (tw_0 (tw_at211 hG)) (tw_p (tw_at211 hG)) (C := RX6) (T := TX6) (N := 12) rfl rfl ins_X6_arrived sel_X6_arrived wm_783 (by decide) rfl rfl (Nat.le_of_ble_eq_true rfl) dX3_weeks_123 (fun z9 => ?_)
    have rc25 := z9
    obtain ⟨c27, g26, h⟩ := hp_b1_e h
    refine x_isi (As := [.int (hp_I c25)]) (ok_J6_bitCount_0f7a4 hG c25 H21 rc25 rH21 _ g26) cal_J6_bitCount_0f7a4 stt_J6_bitCount_0f7a4 wm_659 (by decide) rfl rfl (Nat.le_of_ble_eq_true rfl) dX3_weeks_126 (fun z9 => ?_)
    have rc27 := z9
    refine x_goto (tgt := 134) dX3_weeks_129 (by decide) ?_
    cases h
    exact x_iret ⟨rc27, rH21⟩ dX3_weeks_134
