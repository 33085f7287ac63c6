/-! the bytecode does what the functions say: made by program (wip/whole/gen.py) -/
set_option maxRecDepth 100000 in
theorem ok_X0_size {G : hp_G} (hG : hp_sh G = hp_shc) {l : Launch}  (H : hp_H) (rH : hp_in H) (r : Int) (h : f_X0_size  H = some r) : hp_M G l yX0_size cX0_size 1 (some .int) (hp_rm 0) [.ref (hp_ad G 29)] H (some (.int (hp_I r))) H (hp_r r) := by
  unfold f_X0_size at h
  refine hp_body "HeelPost$Acts" (by decide) rfl ⟨rfl, rfl⟩ (Nat.le_of_ble_eq_true rfl) ?_
  show hp_R G l cX0_size 1 (some .int) "HeelPost$Acts" (hp_rm 0) (some (.int (hp_I r))) H (hp_r r) 0 [(0, .ref (hp_ad G 29))] [] H
  refine x_aload_n dX0_size_0 0 rfl ?_
  refine x_gi 2 2 rfl (sc_29 hG) (by decide) (C := RX0) (T := TX0) (N := 3) rfl in_X0 (by decide) rfl wf_146 dX0_size_1 ?_
  cases h
  exact x_iret (rH _ _) dX0_size_4
set_option maxRecDepth 100000 in
theorem ok_X0_forget {G : hp_G} (hG : hp_sh G = hp_shc) {l : Launch}  (H : hp_H) (rH : hp_in H) (H' : hp_H) (h : f_X0_forget  H = some H') : hp_M G l yX0_forget cX0_forget 1 none (hp_rm 0) [.ref (hp_ad G 29)] H none H' (hp_in H') := by
  unfold f_X0_forget at h
  refine hp_body "HeelPost$Acts" (by decide) rfl ⟨rfl, rfl⟩ (Nat.le_of_ble_eq_true rfl) ?_
  show hp_R G l cX0_forget 1 none "HeelPost$Acts" (hp_rm 0) none H' (hp_in H') 0 [(0, .ref (hp_ad G 29))] [] H
  refine x_aload_n dX0_forget_0 0 rfl ?_
  refine x_iconst dX0_forget_1 ?_
  obtain ⟨H1, eH1⟩ : ∃ z : hp_H, z = hp_up H 29 1 0 := ⟨_, rfl⟩
  replace h := hp_let_e eH1 h
  have rH1 := hp_ine eH1 (hp_in_up rH (hp_rc rfl))
  refine x_pi 1 1 rfl tyX0 eH1 (sc_29 hG) (by decide) (C := RX0) (T := TX0) (N := 3) rfl in_X0 tyX0_ok nmX0 (by decide) rfl rfl rfl wf_145 dX0_forget_2 ?_
  refine x_aload_n dX0_forget_5 0 rfl ?_
  refine x_iconst dX0_forget_6 ?_
  obtain ⟨H2, eH2⟩ : ∃ z : hp_H, z = hp_up H1 29 2 0 := ⟨_, rfl⟩
  replace h := hp_let_e eH2 h
  have rH2 := hp_ine eH2 (hp_in_up rH1 (hp_rc rfl))
  refine x_pi 2 2 rfl tyX0 eH2 (sc_29 hG) (by decide) (C := RX0) (T := TX0) (N := 3) rfl in_X0 tyX0_ok nmX0 (by decide) rfl rfl rfl wf_146 dX0_forget_7 ?_
  cases h
  exact x_vret rH2 dX0_forget_10
set_option maxRecDepth 100000 in
theorem ok_X0_keep {G : hp_G} (hG : hp_sh G = hp_shc) {l : Launch}  (H : hp_H) (rH : hp_in H) (H' : hp_H) (h : f_X0_keep  H = some H') : hp_M G l yX0_keep cX0_keep 2 none (hp_rm 2) [.ref (hp_ad G 29), .ref (hp_ad G 15)] H none H' (hp_in H') := by
  unfold f_X0_keep at h
  refine hp_body "HeelPost$Acts" (by decide) rfl ⟨rfl, rfl⟩ (Nat.le_of_ble_eq_true rfl) ?_
  show hp_R G l cX0_keep 2 none "HeelPost$Acts" (hp_rm 2) none H' (hp_in H') 0 [(0, .ref (hp_ad G 29)), (1, .ref (hp_ad G 15))] [] H
  refine x_aload_n dX0_keep_0 0 rfl ?_
  refine x_gi 2 2 rfl (sc_29 hG) (by decide) (C := RX0) (T := TX0) (N := 3) rfl in_X0 (by decide) rfl wf_146 dX0_keep_1 ?_
  refine x_bipush rfl dX0_keep_4 ?_
  obtain ⟨H1, hm2, h⟩ := hp_b1_e h
  have kj : hp_in H1 → hp_R G l cX0_keep 2 none "HeelPost$Acts" (hp_rm 2) none H' (hp_in H') 32 [(0, .ref (hp_ad G 29)), (1, .ref (hp_ad G 15))] [] H1 := by
    intro rH1
    refine x_aload_n dX0_keep_32 0 rfl ?_
    refine x_getr 0 (sc_29 hG) (by decide) (C := RX0) (T := TX0) (N := 3) rfl in_X0 (by decide) rfl wf_144 dX0_keep_33 ?_
    refine x_aload_n dX0_keep_36 0 rfl ?_
    refine x_gi 1 1 rfl (sc_29 hG) (by decide) (C := RX0) (T := TX0) (N := 3) rfl in_X0 (by decide) rfl wf_145 dX0_keep_37 ?_
    refine x_aload_n dX0_keep_40 0 rfl ?_
    refine x_gi 2 2 rfl (sc_29 hG) (by decide) (C := RX0) (T := TX0) (N := 3) rfl in_X0 (by decide) rfl wf_146 dX0_keep_41 ?_
    refine x_iadd dX0_keep_44 ?_
    refine x_bipush rfl dX0_keep_45 ?_
    refine x_irem (hp_rw _) (hp_rc rfl) (by decide) dX0_keep_47 ?_
    obtain ⟨b3, h⟩ := hp_ck_e h
    refine x_a3 24 rfl (sc_30 hG) (by decide) (by decide) b3 dX0_keep_48 ?_
    refine x_aload_n dX0_keep_49 1 rfl ?_
    obtain ⟨H5, g4, h⟩ := hp_b1_e h
    refine x_ivv (As := [.ref (hp_ad G 15)]) (ok_X6_take hG (31 + 7 * (Int.tmod (hp_w ((H1 29 1) + (H1 29 2))) 24)) 15 H1 (tw_bef hG b3) (tw_at15 hG) rH1 _ g4) cal_X6_take (tw_0 (tw_bef hG b3)) (tw_p (tw_bef hG b3)) (C := RX6) (T := TX6) (N := 12) rfl rfl ins_X6_take sel_X6_take wm_429 (by decide) rfl rfl (Nat.le_of_ble_eq_true rfl) dX0_keep_50 (fun z9 => ?_)
    have rH5 := z9
    refine x_aload_n dX0_keep_53 0 rfl ?_
    refine x_dup rfl dX0_keep_54 ?_
    refine x_gi 2 2 rfl (sc_29 hG) (by decide) (C := RX0) (T := TX0) (N := 3) rfl in_X0 (by decide) rfl wf_146 dX0_keep_55 ?_
    refine x_iconst dX0_keep_58 ?_
    refine x_iadd dX0_keep_59 ?_
    obtain ⟨H6, eH6⟩ : ∃ z : hp_H, z = hp_up H5 29 2 (hp_w ((H5 29 2) + 1)) := ⟨_, rfl⟩
    replace h := hp_let_e eH6 h
    have rH6 := hp_ine eH6 (hp_in_up rH5 (hp_rw _))
    refine x_pi 2 2 rfl tyX0 eH6 (sc_29 hG) (by decide) (C := RX0) (T := TX0) (N := 3) rfl in_X0 tyX0_ok nmX0 (by decide) rfl rfl rfl wf_146 dX0_keep_60 ?_
    cases h
    exact x_vret rH6 dX0_keep_63
  clear h
  have h := hm2
  clear hm2
  refine x_icne (tgt := 32) dX0_keep_6 (by decide) (rH _ _) (hp_rc rfl) (fun hc7 => ?_) (fun hc7 => ?_)
  · replace h := hp_if hc7 h
    cases h
    exact x_sub [0, 1] rfl (kj rH)
  · replace h := hp_it hc7 h
    refine x_aload_n dX0_keep_9 0 rfl ?_
    refine x_aload_n dX0_keep_10 0 rfl ?_
    refine x_gi 1 1 rfl (sc_29 hG) (by decide) (C := RX0) (T := TX0) (N := 3) rfl in_X0 (by decide) rfl wf_145 dX0_keep_11 ?_
    refine x_iconst dX0_keep_14 ?_
    refine x_iadd dX0_keep_15 ?_
    refine x_bipush rfl dX0_keep_16 ?_
    refine x_irem (hp_rw _) (hp_rc rfl) (by decide) dX0_keep_18 ?_
    obtain ⟨H8, eH8⟩ : ∃ z : hp_H, z = hp_up H 29 1 (Int.tmod (hp_w ((H 29 1) + 1)) 24) := ⟨_, rfl⟩
    replace h := hp_let_e eH8 h
    have rH8 := hp_ine eH8 (hp_in_up rH (hp_rrem (hp_rw _)))
    refine x_pi 1 1 rfl tyX0 eH8 (sc_29 hG) (by decide) (C := RX0) (T := TX0) (N := 3) rfl in_X0 tyX0_ok nmX0 (by decide) rfl rfl rfl wf_145 dX0_keep_19 ?_
    refine x_aload_n dX0_keep_22 0 rfl ?_
    refine x_dup rfl dX0_keep_23 ?_
    refine x_gi 2 2 rfl (sc_29 hG) (by decide) (C := RX0) (T := TX0) (N := 3) rfl in_X0 (by decide) rfl wf_146 dX0_keep_24 ?_
    refine x_iconst dX0_keep_27 ?_
    refine x_isub dX0_keep_28 ?_
    obtain ⟨H9, eH9⟩ : ∃ z : hp_H, z = hp_up H8 29 2 (hp_w ((H8 29 2) - 1)) := ⟨_, rfl⟩
    replace h := hp_let_e eH9 h
    have rH9 := hp_ine eH9 (hp_in_up rH8 (hp_rw _))
    refine x_pi 2 2 rfl tyX0 eH9 (sc_29 hG) (by decide) (C := RX0) (T := TX0) (N := 3) rfl in_X0 tyX0_ok nmX0 (by decide) rfl rfl rfl wf_146 dX0_keep_29 ?_
    cases h
    exact x_sub [0, 1] rfl (kj rH9)
set_option maxRecDepth 100000 in
theorem ok_X0_takeBack {G : hp_G} (hG : hp_sh G = hp_shc) {l : Launch}  (H : hp_H) (rH : hp_in H) (x : Int × hp_H) (h : f_X0_takeBack  H = some x) : hp_M G l yX0_takeBack cX0_takeBack 2 (some .boolean) (hp_rm 2) [.ref (hp_ad G 29), .ref (hp_ad G 15)] H (some (.int (hp_I x.1))) x.2 (hp_r x.1 ∧ hp_in x.2) := by
  obtain ⟨r, H'⟩ := x
  unfold f_X0_takeBack at h
  refine hp_body "HeelPost$Acts" (by decide) rfl ⟨rfl, rfl⟩ (Nat.le_of_ble_eq_true rfl) ?_
  show hp_R G l cX0_takeBack 2 (some .boolean) "HeelPost$Acts" (hp_rm 2) (some (.int (hp_I r))) H' (hp_r r ∧ hp_in H') 0 [(0, .ref (hp_ad G 29)), (1, .ref (hp_ad G 15))] [] H
  refine x_aload_n dX0_takeBack_0 0 rfl ?_
  refine x_gi 2 2 rfl (sc_29 hG) (by decide) (C := RX0) (T := TX0) (N := 3) rfl in_X0 (by decide) rfl wf_146 dX0_takeBack_1 ?_
  refine x_ifne (tgt := 9) dX0_takeBack_4 (by decide) (rH _ _) (fun hc1 => ?_) (fun hc1 => ?_)
  · replace h := hp_if hc1 h
    refine x_aload_n dX0_takeBack_9 0 rfl ?_
    refine x_dup rfl dX0_takeBack_10 ?_
    refine x_gi 2 2 rfl (sc_29 hG) (by decide) (C := RX0) (T := TX0) (N := 3) rfl in_X0 (by decide) rfl wf_146 dX0_takeBack_11 ?_
    refine x_iconst dX0_takeBack_14 ?_
    refine x_isub dX0_takeBack_15 ?_
    obtain ⟨H2, eH2⟩ : ∃ z : hp_H, z = hp_up H 29 2 (hp_w ((H 29 2) - 1)) := ⟨_, rfl⟩
    replace h := hp_let_e eH2 h
    have rH2 := hp_ine eH2 (hp_in_up rH (hp_rw _))
    refine x_pi 2 2 rfl tyX0 eH2 (sc_29 hG) (by decide) (C := RX0) (T := TX0) (N := 3) rfl in_X0 tyX0_ok nmX0 (by decide) rfl rfl rfl wf_146 dX0_takeBack_16 ?_
    refine x_aload_n dX0_takeBack_19 1 rfl ?_
    refine x_aload_n dX0_takeBack_20 0 rfl ?_
    refine x_getr 0 (sc_29 hG) (by decide) (C := RX0) (T := TX0) (N := 3) rfl in_X0 (by decide) rfl wf_144 dX0_takeBack_21 ?_
    refine x_aload_n dX0_takeBack_24 0 rfl ?_
    refine x_gi 1 1 rfl (sc_29 hG) (by decide) (C := RX0) (T := TX0) (N := 3) rfl in_X0 (by decide) rfl wf_145 dX0_takeBack_25 ?_
    refine x_aload_n dX0_takeBack_28 0 rfl ?_
    refine x_gi 2 2 rfl (sc_29 hG) (by decide) (C := RX0) (T := TX0) (N := 3) rfl in_X0 (by decide) rfl wf_146 dX0_takeBack_29 ?_
    refine x_iadd dX0_takeBack_32 ?_
    refine x_bipush rfl dX0_takeBack_33 ?_
    refine x_irem (hp_rw _) (hp_rc rfl) (by decide) dX0_takeBack_35 ?_
    obtain ⟨b3, h⟩ := hp_ck_e h
    refine x_a3 24 rfl (sc_30 hG) (by decide) (by decide) b3 dX0_takeBack_36 ?_
    obtain ⟨H5, g4, h⟩ := hp_b1_e h
    refine x_ivv (As := [.ref (hp_ad G (31 + 7 * (Int.tmod (hp_w ((H2 29 1) + (H2 29 2))) 24)))]) (ok_X6_take hG 15 (31 + 7 * (Int.tmod (hp_w ((H2 29 1) + (H2 29 2))) 24)) H2 (tw_at15 hG) (tw_bef hG b3) rH2 _ g4) cal_X6_take (tw_0 (tw_at15 hG)) (tw_p (tw_at15 hG)) (C := RX6) (T := TX6) (N := 12) rfl rfl ins_X6_take sel_X6_take wm_429 (by decide) rfl rfl (Nat.le_of_ble_eq_true rfl) dX0_takeBack_37 (fun z9 => ?_)
    have rH5 := z9
    refine x_iconst dX0_takeBack_40 ?_
    cases h
    exact x_zret ⟨(hp_rc rfl), rH5⟩ (Or.inr rfl) dX0_takeBack_41
  · replace h := hp_it hc1 h
    refine x_iconst dX0_takeBack_7 ?_
    cases h
    exact x_zret ⟨(hp_rc rfl), rH⟩ (Or.inl rfl) dX0_takeBack_8
set_option maxRecDepth 100000 in
theorem ok_X4_itemAt {G : hp_G} (hG : hp_sh G = hp_shc) {l : Launch} (v1 : Int) (v2 : Int) (H : hp_H) (r1 : hp_r v1) (r2 : hp_r v2) (rH : hp_in H) (r : Int) (h : f_X4_itemAt v1 v2 H = some r) : hp_M G l yX4_itemAt cX4_itemAt 3 (some .int) (hp_rm 0) [.ref (hp_ad G 1), .int (hp_I v1), .int (hp_I v2)] H (some (.int (hp_I r))) H (hp_r r) := by
  unfold f_X4_itemAt at h
  refine hp_body "HeelPost$Rows" (by decide) rfl ⟨rfl, rfl⟩ (Nat.le_of_ble_eq_true rfl) ?_
  show hp_R G l cX4_itemAt 3 (some .int) "HeelPost$Rows" (hp_rm 0) (some (.int (hp_I r))) H (hp_r r) 0 [(0, .ref (hp_ad G 1)), (1, .int (hp_I v1)), (2, .int (hp_I v2))] [] H
  refine x_aload_n dX4_itemAt_0 0 rfl ?_
  refine x_getr 0 (sc_1 hG) (by decide) (C := RX4) (T := TX4) (N := 3) rfl in_X4 (by decide) rfl wf_29 dX4_itemAt_1 ?_
  refine x_iload_n dX4_itemAt_4 1 rfl ?_
  obtain ⟨b1, h⟩ := hp_ck_e h
  refine x_a4 8 rfl (sc_2 hG) (by decide) (by decide) b1 dX4_itemAt_5 ?_
  refine x_iload_n dX4_itemAt_6 2 rfl ?_
  obtain ⟨b2, h⟩ := hp_ck_e h
  refine x_ia 40 rfl (sc_it hG b1) (sc_itp b1) (Nat.le_of_ble_eq_true rfl) b2 dX4_itemAt_7 ?_
  cases h
  exact x_iret (rH _ _) dX4_itemAt_8
set_option maxRecDepth 100000 in
theorem ok_X4_isRow {G : hp_G} (hG : hp_sh G = hp_shc) {l : Launch} (v0 : Int) (H : hp_H) (r0 : hp_r v0) (rH : hp_in H) (r : Int) (h : f_X4_isRow v0 H = some r) : hp_M G l yX4_isRow cX4_isRow 1 (some .boolean) (hp_rm 0) [.int (hp_I v0)] H (some (.int (hp_I r))) H (hp_r r) := by
  unfold f_X4_isRow at h
  refine hp_body "HeelPost$Rows" (by decide) rfl ⟨rfl, rfl⟩ (Nat.le_of_ble_eq_true rfl) ?_
  show hp_R G l cX4_isRow 1 (some .boolean) "HeelPost$Rows" (hp_rm 0) (some (.int (hp_I r))) H (hp_r r) 0 [(0, .int (hp_I v0))] [] H
  refine x_iload_n dX4_isRow_0 0 rfl ?_
  refine x_iflt (tgt := 14) dX4_isRow_1 (by decide) r0 (fun hc1 => ?_) (fun hc1 => ?_)
  · replace h := hp_it hc1 h
    refine x_iconst dX4_isRow_14 ?_
    cases h
    exact x_zret (hp_rc rfl) (Or.inl rfl) dX4_isRow_15
  · replace h := hp_if hc1 h
    refine x_iload_n dX4_isRow_4 0 rfl ?_
    refine x_bipush rfl dX4_isRow_5 ?_
    refine x_icge (tgt := 14) dX4_isRow_7 (by decide) r0 (hp_rc rfl) (fun hc2 => ?_) (fun hc2 => ?_)
    · replace h := hp_if hc2 h
      refine x_iconst dX4_isRow_14 ?_
      cases h
      exact x_zret (hp_rc rfl) (Or.inl rfl) dX4_isRow_15
    · replace h := hp_it hc2 h
      refine x_iconst dX4_isRow_10 ?_
      refine x_goto (tgt := 15) dX4_isRow_11 (by decide) ?_
      cases h
      exact x_zret (hp_rc rfl) (Or.inr rfl) dX4_isRow_15
set_option maxRecDepth 100000 in
theorem ok_X4_isThere {G : hp_G} (hG : hp_sh G = hp_shc) {l : Launch} (v1 : Int) (H : hp_H) (r1 : hp_r v1) (rH : hp_in H) (r : Int) (h : f_X4_isThere v1 H = some r) : hp_M G l yX4_isThere cX4_isThere 2 (some .boolean) (hp_rm 0) [.ref (hp_ad G 1), .int (hp_I v1)] H (some (.int (hp_I r))) H (hp_r r) := by
  unfold f_X4_isThere at h
  refine hp_body "HeelPost$Rows" (by decide) rfl ⟨rfl, rfl⟩ (Nat.le_of_ble_eq_true rfl) ?_
  show hp_R G l cX4_isThere 2 (some .boolean) "HeelPost$Rows" (hp_rm 0) (some (.int (hp_I r))) H (hp_r r) 0 [(0, .ref (hp_ad G 1)), (1, .int (hp_I v1))] [] H
  refine x_aload_n dX4_isThere_0 0 rfl ?_
  refine x_getr 1 (sc_1 hG) (by decide) (C := RX4) (T := TX4) (N := 3) rfl in_X4 (by decide) rfl wf_30 dX4_isThere_1 ?_
  refine x_iload_n dX4_isThere_4 1 rfl ?_
  obtain ⟨b1, h⟩ := hp_ck_e h
  refine x_ia 8 rfl (sc_11 hG) (by decide) (Nat.le_of_ble_eq_true rfl) b1 dX4_isThere_5 ?_
  refine x_iconst dX4_isThere_6 ?_
  refine x_iceq (tgt := 14) dX4_isThere_7 (by decide) (rH _ _) (hp_rc rfl) (fun hc2 => ?_) (fun hc2 => ?_)
  · replace h := hp_it hc2 h
    refine x_iconst dX4_isThere_14 ?_
    cases h
    exact x_zret (hp_rc rfl) (Or.inl rfl) dX4_isThere_15
  · replace h := hp_if hc2 h
    refine x_iconst dX4_isThere_10 ?_
    refine x_goto (tgt := 15) dX4_isThere_11 (by decide) ?_
    cases h
    exact x_zret (hp_rc rfl) (Or.inr rfl) dX4_isThere_15
set_option maxRecDepth 100000 in
theorem ok_X4_laneOf {G : hp_G} (hG : hp_sh G = hp_shc) {l : Launch} (v1 : Int) (H : hp_H) (r1 : hp_r v1) (rH : hp_in H) (r : Int) (h : f_X4_laneOf v1 H = some r) : hp_M G l yX4_laneOf cX4_laneOf 2 (some .int) (hp_rm 0) [.ref (hp_ad G 1), .int (hp_I v1)] H (some (.int (hp_I r))) H (hp_r r) := by
  unfold f_X4_laneOf at h
  refine hp_body "HeelPost$Rows" (by decide) rfl ⟨rfl, rfl⟩ (Nat.le_of_ble_eq_true rfl) ?_
  show hp_R G l cX4_laneOf 2 (some .int) "HeelPost$Rows" (hp_rm 0) (some (.int (hp_I r))) H (hp_r r) 0 [(0, .ref (hp_ad G 1)), (1, .int (hp_I v1))] [] H
  refine x_aload_n dX4_laneOf_0 0 rfl ?_
  refine x_getr 1 (sc_1 hG) (by decide) (C := RX4) (T := TX4) (N := 3) rfl in_X4 (by decide) rfl wf_30 dX4_laneOf_1 ?_
  refine x_iload_n dX4_laneOf_4 1 rfl ?_
  obtain ⟨b1, h⟩ := hp_ck_e h
  refine x_ia 8 rfl (sc_11 hG) (by decide) (Nat.le_of_ble_eq_true rfl) b1 dX4_laneOf_5 ?_
  cases h
  exact x_iret (rH _ _) dX4_laneOf_6
set_option maxRecDepth 100000 in
theorem ok_X4_lengthOf {G : hp_G} (hG : hp_sh G = hp_shc) {l : Launch} (v1 : Int) (H : hp_H) (r1 : hp_r v1) (rH : hp_in H) (r : Int) (h : f_X4_lengthOf v1 H = some r) : hp_M G l yX4_lengthOf cX4_lengthOf 2 (some .int) (hp_rm 0) [.ref (hp_ad G 1), .int (hp_I v1)] H (some (.int (hp_I r))) H (hp_r r) := by
  unfold f_X4_lengthOf at h
  refine hp_body "HeelPost$Rows" (by decide) rfl ⟨rfl, rfl⟩ (Nat.le_of_ble_eq_true rfl) ?_
  show hp_R G l cX4_lengthOf 2 (some .int) "HeelPost$Rows" (hp_rm 0) (some (.int (hp_I r))) H (hp_r r) 0 [(0, .ref (hp_ad G 1)), (1, .int (hp_I v1))] [] H
  refine x_aload_n dX4_lengthOf_0 0 rfl ?_
  refine x_getr 2 (sc_1 hG) (by decide) (C := RX4) (T := TX4) (N := 3) rfl in_X4 (by decide) rfl wf_31 dX4_lengthOf_1 ?_
  refine x_iload_n dX4_lengthOf_4 1 rfl ?_
  obtain ⟨b1, h⟩ := hp_ck_e h
  refine x_ia 8 rfl (sc_12 hG) (by decide) (Nat.le_of_ble_eq_true rfl) b1 dX4_lengthOf_5 ?_
  cases h
  exact x_iret (rH _ _) dX4_lengthOf_6
set_option maxRecDepth 100000 in
theorem ok_X4_howMany_4 {G : hp_G} (hG : hp_sh G = hp_shc) {l : Launch} {vv : Option Value} {H' : hp_H} {Z : Prop} : ∀ (n : Nat) (v1 : Int) (v2 : Int) (H : hp_H), hp_r v1 → hp_r v2 → hp_in H → ∀ m1 : Int, f_X4_howMany_4 n v1 v2 H = some m1 → (hp_r m1 → hp_R G l cX4_howMany 3 (some .int) "HeelPost$Rows" (hp_rm 1) vv H' Z 32 [(1, .int (hp_I m1))] [] H) → hp_R G l cX4_howMany 3 (some .int) "HeelPost$Rows" (hp_rm 1) vv H' Z 4 [(0, .ref (hp_ad G 1)), (1, .int (hp_I v1)), (2, .int (hp_I v2))] [] H := by
  intro n
  induction n with
  | zero =>
    intro v1 v2 H r1 r2 rH m1 h kx
    exact hp_no h
  | succ n ih =>
    intro v1 v2 H r1 r2 rH m1 h kx
    unfold f_X4_howMany_4 at h
    refine x_iload_n dX4_howMany_4 2 rfl ?_
    refine x_bipush rfl dX4_howMany_5 ?_
    refine x_icge (tgt := 32) dX4_howMany_7 (by decide) r2 (hp_rc rfl) (fun hc1 => ?_) (fun hc1 => ?_)
    · replace h := hp_if hc1 h
      cases h
      exact x_sub [1] rfl (kx r1)
    · replace h := hp_it hc1 h
      refine x_iload_n dX4_howMany_10 1 rfl ?_
      refine x_aload_n dX4_howMany_11 0 rfl ?_
      refine x_iload_n dX4_howMany_12 2 rfl ?_
      obtain ⟨c3, g2, h⟩ := hp_b1_e h
      refine x_ivi (As := [.int (hp_I v2)]) (ok_X4_isThere hG v2 H r2 rH _ g2) cal_X4_isThere (sc_1 hG) (by decide) (C := RX4) (T := TX4) (N := 3) rfl rfl ins_X4_isThere sel_X4_isThere wm_292 (by decide) rfl rfl (Nat.le_of_ble_eq_true rfl) dX4_howMany_13 (fun z9 => ?_)
      have rc3 := z9
      obtain ⟨m4, em4⟩ : ∃ z : Int, z = (if c3 = 0 then 0 else 1) := ⟨_, rfl⟩
      replace h := hp_let_e em4 h
      have rm4 := hp_re em4 (hp_rite (hp_rc rfl) (hp_rc rfl))
      have zm4 : m4 = 0 ∨ m4 = 1 := by rw [em4]; exact (hp_z01 (Or.inl rfl) (Or.inr rfl))
      have kj : hp_R G l cX4_howMany 3 (some .int) "HeelPost$Rows" (hp_rm 1) vv H' Z 24 [(0, .ref (hp_ad G 1)), (2, .int (hp_I v2))] [.int (hp_I m4), .int (hp_I v1)] H := by
        refine x_iadd dX4_howMany_24 ?_
        obtain ⟨v1_5, ev1_5⟩ : ∃ z : Int, z = (hp_w (v1 + m4)) := ⟨_, rfl⟩
        replace h := hp_let_e ev1_5 h
        have rv1_5 := hp_re ev1_5 (hp_rw _)
        refine x_isnE (L' := [(1, .int (hp_I v1_5)), (0, .ref (hp_ad G 1)), (2, .int (hp_I v2))]) ev1_5 dX4_howMany_25 rfl (by decide) rfl ?_
        obtain ⟨v2_6, ev2_6⟩ : ∃ z : Int, z = (hp_w (v2 + 1)) := ⟨_, rfl⟩
        replace h := hp_let_e ev2_6 h
        have rv2_6 := hp_re ev2_6 (hp_rw _)
        refine x_iiE (L' := [(2, .int (hp_I v2_6)), (1, .int (hp_I v1_5)), (0, .ref (hp_ad G 1))]) ev2_6 dX4_howMany_26 2 rfl (by decide) rfl ?_
        refine x_goto (tgt := 4) dX4_howMany_29 (by decide) ?_
        exact x_sub [2, 1, 0] rfl (ih v1_5 v2_6 H rv1_5 rv2_6 rH _ h kx)
      clear h
      refine x_ifeq (tgt := 23) dX4_howMany_16 (by decide) rc3 (fun hc7 => ?_) (fun hc7 => ?_)
      · refine x_iconst dX4_howMany_23 ?_
        have q9 := (em4.trans (if_pos hc7))
        subst q9
        exact x_sub [0, 2] rfl kj
      · refine x_iconst dX4_howMany_19 ?_
        refine x_goto (tgt := 24) dX4_howMany_20 (by decide) ?_
        have q9 := (em4.trans (if_neg hc7))
        subst q9
        exact x_sub [0, 2] rfl kj
set_option maxRecDepth 100000 in
theorem ok_X4_howMany {G : hp_G} (hG : hp_sh G = hp_shc) {l : Launch}  (H : hp_H) (rH : hp_in H) (r : Int) (h : f_X4_howMany  H = some r) : hp_M G l yX4_howMany cX4_howMany 3 (some .int) (hp_rm 1) [.ref (hp_ad G 1)] H (some (.int (hp_I r))) H (hp_r r) := by
  unfold f_X4_howMany at h
  refine hp_body "HeelPost$Rows" (by decide) rfl ⟨rfl, rfl⟩ (Nat.le_of_ble_eq_true rfl) ?_
  show hp_R G l cX4_howMany 3 (some .int) "HeelPost$Rows" (hp_rm 1) (some (.int (hp_I r))) H (hp_r r) 0 [(0, .ref (hp_ad G 1))] [] H
  refine x_iconst dX4_howMany_0 ?_
  refine x_istore_n (L' := [(1, .int (hp_I 0)), (0, .ref (hp_ad G 1))]) dX4_howMany_1 rfl (by decide) rfl ?_
  refine x_iconst dX4_howMany_2 ?_
  refine x_istore_n (L' := [(2, .int (hp_I 0)), (1, .int (hp_I 0)), (0, .ref (hp_ad G 1))]) dX4_howMany_3 rfl (by decide) rfl ?_
  obtain ⟨v1_8, g9, h⟩ := hp_b1_e h
  refine x_sub [2, 1, 0] rfl (ok_X4_howMany_4 hG 1000 0 0 H (hp_rc rfl) (hp_rc rfl) rH _ g9 ?_)
  intro rv1_8
  refine x_iload_n dX4_howMany_32 0 rfl ?_
  cases h
  exact x_iret rv1_8 dX4_howMany_33
set_option maxRecDepth 100000 in
theorem ok_X4_make_17 {G : hp_G} (hG : hp_sh G = hp_shc) {l : Launch} {vv : Option Value} {H' : hp_H} {Z : Prop} : ∀ (n : Nat) (v1 : Int) (v4 : Int) (H : hp_H), hp_r v1 → hp_r v4 → hp_in H → ∀ Hm : hp_H, f_X4_make_17 n v1 v4 H = some Hm → (hp_in Hm → hp_R G l cX4_make 5 none "HeelPost$Rows" (hp_rm 0) vv H' Z 40 [] [] Hm) → hp_R G l cX4_make 5 none "HeelPost$Rows" (hp_rm 0) vv H' Z 17 [(0, .ref (hp_ad G 1)), (1, .int (hp_I v1)), (4, .int (hp_I v4))] [] H := by
  intro n
  induction n with
  | zero =>
    intro v1 v4 H r1 r4 rH Hm h kx
    exact hp_no h
  | succ n ih =>
    intro v1 v4 H r1 r4 rH Hm h kx
    unfold f_X4_make_17 at h
    refine x_iload dX4_make_17 2 rfl ?_
    refine x_bipush rfl dX4_make_19 ?_
    refine x_icge (tgt := 40) dX4_make_21 (by decide) r4 (hp_rc rfl) (fun hc4 => ?_) (fun hc4 => ?_)
    · replace h := hp_if hc4 h
      cases h
      exact x_sub [] rfl (kx rH)
    · replace h := hp_it hc4 h
      refine x_aload_n dX4_make_24 0 rfl ?_
      refine x_getr 0 (sc_1 hG) (by decide) (C := RX4) (T := TX4) (N := 3) rfl in_X4 (by decide) rfl wf_29 dX4_make_25 ?_
      refine x_iload_n dX4_make_28 1 rfl ?_
      obtain ⟨b5, h⟩ := hp_ck_e h
      refine x_a4 8 rfl (sc_2 hG) (by decide) (by decide) b5 dX4_make_29 ?_
      refine x_iload dX4_make_30 2 rfl ?_
      refine x_iconst dX4_make_32 ?_
      obtain ⟨b6, h⟩ := hp_ck_e h
      obtain ⟨H7, eH7⟩ : ∃ z : hp_H, z = hp_up H (3 + v1) v4 0 := ⟨_, rfl⟩
      replace h := hp_let_e eH7 h
      have rH7 := hp_ine eH7 (hp_in_up rH (hp_rc rfl))
      refine x_ias 40 rfl eH7 (sc_it hG b5) (sc_itp b5) (Nat.le_of_ble_eq_true rfl) b6 dX4_make_33 ?_
      obtain ⟨v4_8, ev4_8⟩ : ∃ z : Int, z = (hp_w (v4 + 1)) := ⟨_, rfl⟩
      replace h := hp_let_e ev4_8 h
      have rv4_8 := hp_re ev4_8 (hp_rw _)
      refine x_iiE (L' := [(4, .int (hp_I v4_8)), (0, .ref (hp_ad G 1)), (1, .int (hp_I v1))]) ev4_8 dX4_make_34 2 rfl (by decide) rfl ?_
      refine x_goto (tgt := 17) dX4_make_37 (by decide) ?_
      exact x_sub [1, 2, 0] rfl (ih v1 v4_8 H7 r1 rv4_8 rH7 _ h kx)
set_option maxRecDepth 100000 in
theorem ok_X4_make {G : hp_G} (hG : hp_sh G = hp_shc) {l : Launch} (v1 : Int) (v2 : Int) (v3 : Int) (H : hp_H) (r1 : hp_r v1) (r2 : hp_r v2) (r3 : hp_r v3) (rH : hp_in H) (H' : hp_H) (h : f_X4_make v1 v2 v3 H = some H') : hp_M G l yX4_make cX4_make 5 none (hp_rm 0) [.ref (hp_ad G 1), .int (hp_I v1), .int (hp_I v2), .int (hp_I v3)] H none H' (hp_in H') := by
  unfold f_X4_make at h
  refine hp_body "HeelPost$Rows" (by decide) rfl ⟨rfl, rfl⟩ (Nat.le_of_ble_eq_true rfl) ?_
  show hp_R G l cX4_make 5 none "HeelPost$Rows" (hp_rm 0) none H' (hp_in H') 0 [(0, .ref (hp_ad G 1)), (1, .int (hp_I v1)), (2, .int (hp_I v2)), (3, .int (hp_I v3))] [] H
  refine x_aload_n dX4_make_0 0 rfl ?_
  refine x_getr 1 (sc_1 hG) (by decide) (C := RX4) (T := TX4) (N := 3) rfl in_X4 (by decide) rfl wf_30 dX4_make_1 ?_
  refine x_iload_n dX4_make_4 1 rfl ?_
  refine x_iload_n dX4_make_5 2 rfl ?_
  obtain ⟨b1, h⟩ := hp_ck_e h
  obtain ⟨H2, eH2⟩ : ∃ z : hp_H, z = hp_up H 11 v1 v2 := ⟨_, rfl⟩
  replace h := hp_let_e eH2 h
  have rH2 := hp_ine eH2 (hp_in_up rH r2)
  refine x_ias 8 rfl eH2 (sc_11 hG) (by decide) (Nat.le_of_ble_eq_true rfl) b1 dX4_make_6 ?_
  refine x_aload_n dX4_make_7 0 rfl ?_
  refine x_getr 2 (sc_1 hG) (by decide) (C := RX4) (T := TX4) (N := 3) rfl in_X4 (by decide) rfl wf_31 dX4_make_8 ?_
  refine x_iload_n dX4_make_11 1 rfl ?_
  refine x_iload_n dX4_make_12 3 rfl ?_
  obtain ⟨H3, eH3⟩ : ∃ z : hp_H, z = hp_up H2 12 v1 v3 := ⟨_, rfl⟩
  replace h := hp_let_e eH3 h
  have rH3 := hp_ine eH3 (hp_in_up rH2 r3)
  refine x_ias 8 rfl eH3 (sc_12 hG) (by decide) (Nat.le_of_ble_eq_true rfl) b1 dX4_make_13 ?_
  refine x_iconst dX4_make_14 ?_
  refine x_istore (L' := [(4, .int (hp_I 0)), (0, .ref (hp_ad G 1)), (1, .int (hp_I v1)), (2, .int (hp_I v2)), (3, .int (hp_I v3))]) dX4_make_15 (by decide) rfl ?_
  obtain ⟨H9, g10, h⟩ := hp_b1_e h
  refine x_sub [1, 2, 0] rfl (ok_X4_make_17 hG 1000 v1 0 H3 r1 (hp_rc rfl) rH3 _ g10 ?_)
  intro rH9
  cases h
  exact x_vret rH9 dX4_make_40
set_option maxRecDepth 100000 in
theorem ok_X4_lose {G : hp_G} (hG : hp_sh G = hp_shc) {l : Launch} (v1 : Int) (H : hp_H) (r1 : hp_r v1) (rH : hp_in H) (H' : hp_H) (h : f_X4_lose v1 H = some H') : hp_M G l yX4_lose cX4_lose 2 none (hp_rm 0) [.ref (hp_ad G 1), .int (hp_I v1)] H none H' (hp_in H') := by
  unfold f_X4_lose at h
  refine hp_body "HeelPost$Rows" (by decide) rfl ⟨rfl, rfl⟩ (Nat.le_of_ble_eq_true rfl) ?_
  show hp_R G l cX4_lose 2 none "HeelPost$Rows" (hp_rm 0) none H' (hp_in H') 0 [(0, .ref (hp_ad G 1)), (1, .int (hp_I v1))] [] H
  refine x_aload_n dX4_lose_0 0 rfl ?_
  refine x_getr 1 (sc_1 hG) (by decide) (C := RX4) (T := TX4) (N := 3) rfl in_X4 (by decide) rfl wf_30 dX4_lose_1 ?_
  refine x_iload_n dX4_lose_4 1 rfl ?_
  refine x_iconst dX4_lose_5 ?_
  obtain ⟨b1, h⟩ := hp_ck_e h
  obtain ⟨H2, eH2⟩ : ∃ z : hp_H, z = hp_up H 11 v1 (-1) := ⟨_, rfl⟩
  replace h := hp_let_e eH2 h
  have rH2 := hp_ine eH2 (hp_in_up rH (hp_rc rfl))
  refine x_ias 8 rfl eH2 (sc_11 hG) (by decide) (Nat.le_of_ble_eq_true rfl) b1 dX4_lose_6 ?_
  refine x_aload_n dX4_lose_7 0 rfl ?_
  refine x_getr 2 (sc_1 hG) (by decide) (C := RX4) (T := TX4) (N := 3) rfl in_X4 (by decide) rfl wf_31 dX4_lose_8 ?_
  refine x_iload_n dX4_lose_11 1 rfl ?_
  refine x_iconst dX4_lose_12 ?_
  obtain ⟨H3, eH3⟩ : ∃ z : hp_H, z = hp_up H2 12 v1 0 := ⟨_, rfl⟩
  replace h := hp_let_e eH3 h
  have rH3 := hp_ine eH3 (hp_in_up rH2 (hp_rc rfl))
  refine x_ias 8 rfl eH3 (sc_12 hG) (by decide) (Nat.le_of_ble_eq_true rfl) b1 dX4_lose_13 ?_
  cases h
  exact x_vret rH3 dX4_lose_14
set_option maxRecDepth 100000 in
theorem ok_X4_hasPlaces {G : hp_G} (hG : hp_sh G = hp_shc) {l : Launch} (v1 : Int) (v2 : Int) (v3 : Int) (H : hp_H) (r1 : hp_r v1) (r2 : hp_r v2) (r3 : hp_r v3) (rH : hp_in H) (r : Int) (h : f_X4_hasPlaces v1 v2 v3 H = some r) : hp_M G l yX4_hasPlaces cX4_hasPlaces 4 (some .boolean) (hp_rm 0) [.ref (hp_ad G 1), .int (hp_I v1), .int (hp_I v2), .int (hp_I v3)] H (some (.int (hp_I r))) H (hp_r r) := by
  unfold f_X4_hasPlaces at h
  refine hp_body "HeelPost$Rows" (by decide) rfl ⟨rfl, rfl⟩ (Nat.le_of_ble_eq_true rfl) ?_
  show hp_R G l cX4_hasPlaces 4 (some .boolean) "HeelPost$Rows" (hp_rm 0) (some (.int (hp_I r))) H (hp_r r) 0 [(0, .ref (hp_ad G 1)), (1, .int (hp_I v1)), (2, .int (hp_I v2)), (3, .int (hp_I v3))] [] H
  refine x_iload_n dX4_hasPlaces_0 2 rfl ?_
  refine x_iflt (tgt := 24) dX4_hasPlaces_1 (by decide) r2 (fun hc1 => ?_) (fun hc1 => ?_)
  · replace h := hp_it hc1 h
    refine x_iconst dX4_hasPlaces_24 ?_
    cases h
    exact x_zret (hp_rc rfl) (Or.inl rfl) dX4_hasPlaces_25
  · replace h := hp_if hc1 h
    refine x_iload_n dX4_hasPlaces_4 3 rfl ?_
    refine x_iflt (tgt := 24) dX4_hasPlaces_5 (by decide) r3 (fun hc2 => ?_) (fun hc2 => ?_)
    · replace h := hp_it hc2 h
      refine x_iconst dX4_hasPlaces_24 ?_
      cases h
      exact x_zret (hp_rc rfl) (Or.inl rfl) dX4_hasPlaces_25
    · replace h := hp_if hc2 h
      refine x_iload_n dX4_hasPlaces_8 2 rfl ?_
      refine x_aload_n dX4_hasPlaces_9 0 rfl ?_
      refine x_getr 2 (sc_1 hG) (by decide) (C := RX4) (T := TX4) (N := 3) rfl in_X4 (by decide) rfl wf_31 dX4_hasPlaces_10 ?_
      refine x_iload_n dX4_hasPlaces_13 1 rfl ?_
      obtain ⟨b3, h⟩ := hp_ck_e h
      refine x_ia 8 rfl (sc_12 hG) (by decide) (Nat.le_of_ble_eq_true rfl) b3 dX4_hasPlaces_14 ?_
      refine x_iload_n dX4_hasPlaces_15 3 rfl ?_
      refine x_isub dX4_hasPlaces_16 ?_
      refine x_icgt (tgt := 24) dX4_hasPlaces_17 (by decide) r2 (hp_rw _) (fun hc4 => ?_) (fun hc4 => ?_)
      · replace h := hp_it hc4 h
        refine x_iconst dX4_hasPlaces_24 ?_
        cases h
        exact x_zret (hp_rc rfl) (Or.inl rfl) dX4_hasPlaces_25
      · replace h := hp_if hc4 h
        refine x_iconst dX4_hasPlaces_20 ?_
        refine x_goto (tgt := 25) dX4_hasPlaces_21 (by decide) ?_
        cases h
        exact x_zret (hp_rc rfl) (Or.inr rfl) dX4_hasPlaces_25
set_option maxRecDepth 100000 in
theorem ok_X4_findingOf {G : hp_G} (hG : hp_sh G = hp_shc) {l : Launch} (v1 : Int) (v2 : Int) (v3 : Int) (H : hp_H) (r1 : hp_r v1) (r2 : hp_r v2) (r3 : hp_r v3) (rH : hp_in H) (r : Int) (h : f_X4_findingOf v1 v2 v3 H = some r) : hp_M G l yX4_findingOf cX4_findingOf 4 (some .int) (hp_rm 1) [.ref (hp_ad G 1), .int (hp_I v1), .int (hp_I v2), .int (hp_I v3)] H (some (.int (hp_I r))) H (hp_r r) := by
  unfold f_X4_findingOf at h
  refine hp_body "HeelPost$Rows" (by decide) rfl ⟨rfl, rfl⟩ (Nat.le_of_ble_eq_true rfl) ?_
  show hp_R G l cX4_findingOf 4 (some .int) "HeelPost$Rows" (hp_rm 1) (some (.int (hp_I r))) H (hp_r r) 0 [(0, .ref (hp_ad G 1)), (1, .int (hp_I v1)), (2, .int (hp_I v2)), (3, .int (hp_I v3))] [] H
  refine x_aload_n dX4_findingOf_0 0 rfl ?_
  refine x_iload_n dX4_findingOf_1 1 rfl ?_
  obtain ⟨c2, g1, h⟩ := hp_b1_e h
  refine x_ivi (As := [.int (hp_I v1)]) (ok_X4_isThere hG v1 H r1 rH _ g1) cal_X4_isThere (sc_1 hG) (by decide) (C := RX4) (T := TX4) (N := 3) rfl rfl ins_X4_isThere sel_X4_isThere wm_292 (by decide) rfl rfl (Nat.le_of_ble_eq_true rfl) dX4_findingOf_2 (fun z9 => ?_)
  have rc2 := z9
  refine x_ifne (tgt := 10) dX4_findingOf_5 (by decide) rc2 (fun hc3 => ?_) (fun hc3 => ?_)
  · replace h := hp_if hc3 h
    refine x_aload_n dX4_findingOf_10 0 rfl ?_
    refine x_iload_n dX4_findingOf_11 1 rfl ?_
    refine x_iload_n dX4_findingOf_12 2 rfl ?_
    refine x_iload_n dX4_findingOf_13 3 rfl ?_
    obtain ⟨c5, g4, h⟩ := hp_b1_e h
    refine x_ivi (As := [.int (hp_I v1), .int (hp_I v2), .int (hp_I v3)]) (ok_X4_hasPlaces hG v1 v2 v3 H r1 r2 r3 rH _ g4) cal_X4_hasPlaces (sc_1 hG) (by decide) (C := RX4) (T := TX4) (N := 3) rfl rfl ins_X4_hasPlaces sel_X4_hasPlaces wm_296 (by decide) rfl rfl (Nat.le_of_ble_eq_true rfl) dX4_findingOf_14 (fun z9 => ?_)
    have rc5 := z9
    refine x_ifeq (tgt := 24) dX4_findingOf_17 (by decide) rc5 (fun hc6 => ?_) (fun hc6 => ?_)
    · replace h := hp_it hc6 h
      refine x_iconst dX4_findingOf_24 ?_
      cases h
      exact x_iret (hp_rc rfl) dX4_findingOf_25
    · replace h := hp_if hc6 h
      refine x_iconst dX4_findingOf_20 ?_
      refine x_goto (tgt := 25) dX4_findingOf_21 (by decide) ?_
      cases h
      exact x_iret (hp_rc rfl) dX4_findingOf_25
  · replace h := hp_it hc3 h
    refine x_iconst dX4_findingOf_8 ?_
    cases h
    exact x_iret (hp_rc rfl) dX4_findingOf_9
set_option maxRecDepth 100000 in
theorem ok_X4_cut {G : hp_G} (hG : hp_sh G = hp_shc) {l : Launch} (v0 : Int) (v1 : Int) (H : hp_H) (r0 : hp_r v0) (r1 : hp_r v1) (rH : hp_in H) (r : Int) (h : f_X4_cut v0 v1 H = some r) : hp_M G l yX4_cut cX4_cut 2 (some .int) (hp_rm 0) [.int (hp_I v0), .int (hp_I v1)] H (some (.int (hp_I r))) H (hp_r r) := by
  unfold f_X4_cut at h
  refine hp_body "HeelPost$Rows" (by decide) rfl ⟨rfl, rfl⟩ (Nat.le_of_ble_eq_true rfl) ?_
  show hp_R G l cX4_cut 2 (some .int) "HeelPost$Rows" (hp_rm 0) (some (.int (hp_I r))) H (hp_r r) 0 [(0, .int (hp_I v0)), (1, .int (hp_I v1))] [] H
  refine x_iload_n dX4_cut_0 0 rfl ?_
  by_cases hc1 : v0 = 0
  · replace h := hp_it hc1 h
    refine x_look (tgt := 28) (off := 27) dX4_cut_1 r0 (by decide) (by rw [hc1]; rfl) (by decide) ?_
    refine x_iload_n dX4_cut_28 1 rfl ?_
    refine x_i2b dX4_cut_29 ?_
    cases h
    exact x_iret (hp_rw8 _) dX4_cut_30
  replace h := hp_if hc1 h
  by_cases hc2 : v0 = 1
  · replace h := hp_it hc2 h
    refine x_look (tgt := 31) (off := 30) dX4_cut_1 r0 (by decide) (by rw [hc2]; rfl) (by decide) ?_
    refine x_iload_n dX4_cut_31 1 rfl ?_
    refine x_i2s dX4_cut_32 ?_
    cases h
    exact x_iret (hp_rw16 _) dX4_cut_33
  replace h := hp_if hc2 h
  refine x_look (tgt := 34) (off := 33) dX4_cut_1 r0 (by decide) (by show Op.lookupswitch.offset [(0, 27), (1, 30)] _ _ = _; simp only [Op.lookupswitch.offset_cons, if_neg (Ne.symm hc1), if_neg (Ne.symm hc2)]; rfl) (by decide) ?_
  refine x_iload_n dX4_cut_34 1 rfl ?_
  cases h
  exact x_iret r1 dX4_cut_35
set_option maxRecDepth 100000 in
theorem ok_X4_put {G : hp_G} (hG : hp_sh G = hp_shc) {l : Launch} (v1 : Int) (v2 : Int) (v3 : Int) (H : hp_H) (r1 : hp_r v1) (r2 : hp_r v2) (r3 : hp_r v3) (rH : hp_in H) (x : Int × hp_H) (h : f_X4_put v1 v2 v3 H = some x) : hp_M G l yX4_put cX4_put 4 (some .int) (hp_rm 1) [.ref (hp_ad G 1), .int (hp_I v1), .int (hp_I v2), .int (hp_I v3)] H (some (.int (hp_I x.1))) x.2 (hp_r x.1 ∧ hp_in x.2) := by
  obtain ⟨r, H'⟩ := x
  unfold f_X4_put at h
  refine hp_body "HeelPost$Rows" (by decide) rfl ⟨rfl, rfl⟩ (Nat.le_of_ble_eq_true rfl) ?_
  show hp_R G l cX4_put 4 (some .int) "HeelPost$Rows" (hp_rm 1) (some (.int (hp_I r))) H' (hp_r r ∧ hp_in H') 0 [(0, .ref (hp_ad G 1)), (1, .int (hp_I v1)), (2, .int (hp_I v2)), (3, .int (hp_I v3))] [] H
  refine x_aload_n dX4_put_0 0 rfl ?_
  refine x_getr 0 (sc_1 hG) (by decide) (C := RX4) (T := TX4) (N := 3) rfl in_X4 (by decide) rfl wf_29 dX4_put_1 ?_
  refine x_iload_n dX4_put_4 1 rfl ?_
  obtain ⟨b1, h⟩ := hp_ck_e h
  refine x_a4 8 rfl (sc_2 hG) (by decide) (by decide) b1 dX4_put_5 ?_
  refine x_iload_n dX4_put_6 2 rfl ?_
  refine x_aload_n dX4_put_7 0 rfl ?_
  refine x_getr 1 (sc_1 hG) (by decide) (C := RX4) (T := TX4) (N := 3) rfl in_X4 (by decide) rfl wf_30 dX4_put_8 ?_
  refine x_iload_n dX4_put_11 1 rfl ?_
  refine x_ia 8 rfl (sc_11 hG) (by decide) (Nat.le_of_ble_eq_true rfl) b1 dX4_put_12 ?_
  refine x_iload_n dX4_put_13 3 rfl ?_
  obtain ⟨c3, g2, h⟩ := hp_b1_e h
  refine x_isi (As := [.int (hp_I (H 11 v1)), .int (hp_I v3)]) (ok_X4_cut hG (H 11 v1) v3 H (rH _ _) r3 rH _ g2) cal_X4_cut stt_X4_cut wm_304 (by decide) rfl rfl (Nat.le_of_ble_eq_true rfl) dX4_put_14 (fun z9 => ?_)
  have rc3 := z9
  obtain ⟨b4, h⟩ := hp_ck_e h
  obtain ⟨H5, eH5⟩ : ∃ z : hp_H, z = hp_up H (3 + v1) v2 c3 := ⟨_, rfl⟩
  replace h := hp_let_e eH5 h
  have rH5 := hp_ine eH5 (hp_in_up rH rc3)
  refine x_ias 40 rfl eH5 (sc_it hG b1) (sc_itp b1) (Nat.le_of_ble_eq_true rfl) b4 dX4_put_17 ?_
  refine x_aload_n dX4_put_18 0 rfl ?_
  refine x_getr 0 (sc_1 hG) (by decide) (C := RX4) (T := TX4) (N := 3) rfl in_X4 (by decide) rfl wf_29 dX4_put_19 ?_
  refine x_iload_n dX4_put_22 1 rfl ?_
  refine x_a4 8 rfl (sc_2 hG) (by decide) (by decide) b1 dX4_put_23 ?_
  refine x_iload_n dX4_put_24 2 rfl ?_
  refine x_ia 40 rfl (sc_it hG b1) (sc_itp b1) (Nat.le_of_ble_eq_true rfl) b4 dX4_put_25 ?_
  cases h
  exact x_iret ⟨(rH5 _ _), rH5⟩ dX4_put_26
set_option maxRecDepth 100000 in
theorem ok_X4_carryOver {G : hp_G} (hG : hp_sh G = hp_shc) {l : Launch} (v1 : Int) (v2 : Int) (v3 : Int) (v4 : Int) (v5 : Int) (H : hp_H) (r1 : hp_r v1) (r2 : hp_r v2) (r3 : hp_r v3) (r4 : hp_r v4) (r5 : hp_r v5) (rH : hp_in H) (H' : hp_H) (h : f_X4_carryOver v1 v2 v3 v4 v5 H = some H') : hp_M G l yX4_carryOver cX4_carryOver 6 none (hp_rm 1) [.ref (hp_ad G 1), .int (hp_I v1), .int (hp_I v2), .int (hp_I v3), .int (hp_I v4), .int (hp_I v5)] H none H' (hp_in H') := by
  unfold f_X4_carryOver at h
  refine hp_body "HeelPost$Rows" (by decide) rfl ⟨rfl, rfl⟩ (Nat.le_of_ble_eq_true rfl) ?_
  show hp_R G l cX4_carryOver 6 none "HeelPost$Rows" (hp_rm 1) none H' (hp_in H') 0 [(0, .ref (hp_ad G 1)), (1, .int (hp_I v1)), (2, .int (hp_I v2)), (3, .int (hp_I v3)), (4, .int (hp_I v4)), (5, .int (hp_I v5))] [] H
  refine x_aload_n dX4_carryOver_0 0 rfl ?_
  refine x_getr 0 (sc_1 hG) (by decide) (C := RX4) (T := TX4) (N := 3) rfl in_X4 (by decide) rfl wf_29 dX4_carryOver_1 ?_
  refine x_iload_n dX4_carryOver_4 1 rfl ?_
  obtain ⟨b1, h⟩ := hp_ck_e h
  refine x_a4 8 rfl (sc_2 hG) (by decide) (by decide) b1 dX4_carryOver_5 ?_
  refine x_iload_n dX4_carryOver_6 2 rfl ?_
  refine x_aload_n dX4_carryOver_7 0 rfl ?_
  refine x_getr 0 (sc_1 hG) (by decide) (C := RX4) (T := TX4) (N := 3) rfl in_X4 (by decide) rfl wf_29 dX4_carryOver_8 ?_
  refine x_iload_n dX4_carryOver_11 3 rfl ?_
  obtain ⟨b2, h⟩ := hp_ck_e h
  refine x_a4 8 rfl (sc_2 hG) (by decide) (by decide) b2 dX4_carryOver_12 ?_
  refine x_iload dX4_carryOver_13 4 rfl ?_
  refine x_iload dX4_carryOver_15 5 rfl ?_
  obtain ⟨b3, h⟩ := hp_ck_e h
  obtain ⟨H4, eH4⟩ : ∃ z : hp_H, z = hp_cpy H (3 + v1) v2 (3 + v3) v4 v5 := ⟨_, rfl⟩
  replace h := hp_let_e eH4 h
  have rH4 := hp_ine eH4 (hp_in_cpy rH)
  refine x_cpyE 40 40 rfl rfl eH4 (sc_it hG b1) (sc_itp b1) (sc_it hG b2) (sc_itp b2) (by decide) (by decide) b3 wm_321 (by decide) (Nat.le_of_ble_eq_true rfl) dX4_carryOver_17 ?_
  cases h
  exact x_vret rH4 dX4_carryOver_20
set_option maxRecDepth 100000 in
theorem ok_X5_add {G : hp_G} (hG : hp_sh G = hp_shc) {l : Launch} (v1 : Int) (H : hp_H) (r1 : hp_r v1) (rH : hp_in H) (x : Int × hp_H) (h : f_X5_add v1 H = some x) : hp_M G l yX5_add cX5_add 2 (some .boolean) (hp_rm 0) [.ref (hp_ad G 13), .int (hp_I v1)] H (some (.int (hp_I x.1))) x.2 (hp_r x.1 ∧ hp_in x.2) := by
  obtain ⟨r, H'⟩ := x
  unfold f_X5_add at h
  refine hp_body "HeelPost$Tape" (by decide) rfl ⟨rfl, rfl⟩ (Nat.le_of_ble_eq_true rfl) ?_
  show hp_R G l cX5_add 2 (some .boolean) "HeelPost$Tape" (hp_rm 0) (some (.int (hp_I r))) H' (hp_r r ∧ hp_in H') 0 [(0, .ref (hp_ad G 13)), (1, .int (hp_I v1))] [] H
  refine x_aload_n dX5_add_0 0 rfl ?_
  refine x_gi 1 1 rfl (sc_13 hG) (by decide) (C := RX5) (T := TX5) (N := 5) rfl in_X5 (by decide) rfl wf_47 dX5_add_1 ?_
  refine x_bipush rfl dX5_add_4 ?_
  refine x_iclt (tgt := 11) dX5_add_6 (by decide) (rH _ _) (hp_rc rfl) (fun hc1 => ?_) (fun hc1 => ?_)
  · replace h := hp_it hc1 h
    refine x_aload_n dX5_add_11 0 rfl ?_
    refine x_getr 0 (sc_13 hG) (by decide) (C := RX5) (T := TX5) (N := 5) rfl in_X5 (by decide) rfl wf_46 dX5_add_12 ?_
    refine x_aload_n dX5_add_15 0 rfl ?_
    refine x_gi 1 1 rfl (sc_13 hG) (by decide) (C := RX5) (T := TX5) (N := 5) rfl in_X5 (by decide) rfl wf_47 dX5_add_16 ?_
    refine x_iload_n dX5_add_19 1 rfl ?_
    obtain ⟨b2, h⟩ := hp_ck_e h
    obtain ⟨H3, eH3⟩ : ∃ z : hp_H, z = hp_up H 14 (H 13 1) v1 := ⟨_, rfl⟩
    replace h := hp_let_e eH3 h
    have rH3 := hp_ine eH3 (hp_in_up rH r1)
    refine x_ias 120 rfl eH3 (sc_14 hG) (by decide) (Nat.le_of_ble_eq_true rfl) b2 dX5_add_20 ?_
    refine x_aload_n dX5_add_21 0 rfl ?_
    refine x_dup rfl dX5_add_22 ?_
    refine x_gi 1 1 rfl (sc_13 hG) (by decide) (C := RX5) (T := TX5) (N := 5) rfl in_X5 (by decide) rfl wf_47 dX5_add_23 ?_
    refine x_iconst dX5_add_26 ?_
    refine x_iadd dX5_add_27 ?_
    obtain ⟨H4, eH4⟩ : ∃ z : hp_H, z = hp_up H3 13 1 (hp_w ((H3 13 1) + 1)) := ⟨_, rfl⟩
    replace h := hp_let_e eH4 h
    have rH4 := hp_ine eH4 (hp_in_up rH3 (hp_rw _))
    refine x_pi 1 1 rfl tyX5 eH4 (sc_13 hG) (by decide) (C := RX5) (T := TX5) (N := 5) rfl in_X5 tyX5_ok nmX5 (by decide) rfl rfl rfl wf_47 dX5_add_28 ?_
    refine x_iconst dX5_add_31 ?_
    cases h
    exact x_zret ⟨(hp_rc rfl), rH4⟩ (Or.inr rfl) dX5_add_32
  · replace h := hp_if hc1 h
    refine x_iconst dX5_add_9 ?_
    cases h
    exact x_zret ⟨(hp_rc rfl), rH⟩ (Or.inl rfl) dX5_add_10
set_option maxRecDepth 100000 in
theorem ok_X5_length {G : hp_G} (hG : hp_sh G = hp_shc) {l : Launch}  (H : hp_H) (rH : hp_in H) (r : Int) (h : f_X5_length  H = some r) : hp_M G l yX5_length cX5_length 1 (some .int) (hp_rm 0) [.ref (hp_ad G 13)] H (some (.int (hp_I r))) H (hp_r r) := by
  unfold f_X5_length at h
  refine hp_body "HeelPost$Tape" (by decide) rfl ⟨rfl, rfl⟩ (Nat.le_of_ble_eq_true rfl) ?_
  show hp_R G l cX5_length 1 (some .int) "HeelPost$Tape" (hp_rm 0) (some (.int (hp_I r))) H (hp_r r) 0 [(0, .ref (hp_ad G 13))] [] H
  refine x_aload_n dX5_length_0 0 rfl ?_
  refine x_gi 1 1 rfl (sc_13 hG) (by decide) (C := RX5) (T := TX5) (N := 5) rfl in_X5 (by decide) rfl wf_47 dX5_length_1 ?_
  cases h
  exact x_iret (rH _ _) dX5_length_4
set_option maxRecDepth 100000 in
theorem ok_X5_clear {G : hp_G} (hG : hp_sh G = hp_shc) {l : Launch}  (H : hp_H) (rH : hp_in H) (H' : hp_H) (h : f_X5_clear  H = some H') : hp_M G l yX5_clear cX5_clear 1 none (hp_rm 0) [.ref (hp_ad G 13)] H none H' (hp_in H') := by
  unfold f_X5_clear at h
  refine hp_body "HeelPost$Tape" (by decide) rfl ⟨rfl, rfl⟩ (Nat.le_of_ble_eq_true rfl) ?_
  show hp_R G l cX5_clear 1 none "HeelPost$Tape" (hp_rm 0) none H' (hp_in H') 0 [(0, .ref (hp_ad G 13))] [] H
  refine x_aload_n dX5_clear_0 0 rfl ?_
  refine x_iconst dX5_clear_1 ?_
  obtain ⟨H1, eH1⟩ : ∃ z : hp_H, z = hp_up H 13 1 0 := ⟨_, rfl⟩
  replace h := hp_let_e eH1 h
  have rH1 := hp_ine eH1 (hp_in_up rH (hp_rc rfl))
  refine x_pi 1 1 rfl tyX5 eH1 (sc_13 hG) (by decide) (C := RX5) (T := TX5) (N := 5) rfl in_X5 tyX5_ok nmX5 (by decide) rfl rfl rfl wf_47 dX5_clear_2 ?_
  cases h
  exact x_vret rH1 dX5_clear_5
set_option maxRecDepth 100000 in
theorem ok_X5_faultPlace {G : hp_G} (hG : hp_sh G = hp_shc) {l : Launch}  (H : hp_H) (rH : hp_in H) (r : Int) (h : f_X5_faultPlace  H = some r) : hp_M G l yX5_faultPlace cX5_faultPlace 1 (some .int) (hp_rm 0) [.ref (hp_ad G 13)] H (some (.int (hp_I r))) H (hp_r r) := by
  unfold f_X5_faultPlace at h
  refine hp_body "HeelPost$Tape" (by decide) rfl ⟨rfl, rfl⟩ (Nat.le_of_ble_eq_true rfl) ?_
  show hp_R G l cX5_faultPlace 1 (some .int) "HeelPost$Tape" (hp_rm 0) (some (.int (hp_I r))) H (hp_r r) 0 [(0, .ref (hp_ad G 13))] [] H
  refine x_aload_n dX5_faultPlace_0 0 rfl ?_
  refine x_gi 4 4 rfl (sc_13 hG) (by decide) (C := RX5) (T := TX5) (N := 5) rfl in_X5 (by decide) rfl wf_50 dX5_faultPlace_1 ?_
  cases h
  exact x_iret (rH _ _) dX5_faultPlace_4
set_option maxRecDepth 100000 in
theorem ok_X5_failAt {G : hp_G} (hG : hp_sh G = hp_shc) {l : Launch} (v1 : Int) (v2 : Int) (H : hp_H) (r1 : hp_r v1) (r2 : hp_r v2) (rH : hp_in H) (H' : hp_H) (h : f_X5_failAt v1 v2 H = some H') : hp_M G l yX5_failAt cX5_failAt 3 none (hp_rm 0) [.ref (hp_ad G 13), .int (hp_I v1), .int (hp_I v2)] H none H' (hp_in H') := by
  unfold f_X5_failAt at h
  refine hp_body "HeelPost$Tape" (by decide) rfl ⟨rfl, rfl⟩ (Nat.le_of_ble_eq_true rfl) ?_
  show hp_R G l cX5_failAt 3 none "HeelPost$Tape" (hp_rm 0) none H' (hp_in H') 0 [(0, .ref (hp_ad G 13)), (1, .int (hp_I v1)), (2, .int (hp_I v2))] [] H
  refine x_aload_n dX5_failAt_0 0 rfl ?_
  refine x_gi 3 3 rfl (sc_13 hG) (by decide) (C := RX5) (T := TX5) (N := 5) rfl in_X5 (by decide) rfl wf_49 dX5_failAt_1 ?_
  refine x_ifne (tgt := 17) dX5_failAt_4 (by decide) (rH _ _) (fun hc1 => ?_) (fun hc1 => ?_)
  · replace h := hp_if hc1 h
    cases h
    exact x_vret rH dX5_failAt_17
  · replace h := hp_it hc1 h
    refine x_aload_n dX5_failAt_7 0 rfl ?_
    refine x_iload_n dX5_failAt_8 1 rfl ?_
    obtain ⟨H2, eH2⟩ : ∃ z : hp_H, z = hp_up H 13 3 v1 := ⟨_, rfl⟩
    replace h := hp_let_e eH2 h
    have rH2 := hp_ine eH2 (hp_in_up rH r1)
    refine x_pi 3 3 rfl tyX5 eH2 (sc_13 hG) (by decide) (C := RX5) (T := TX5) (N := 5) rfl in_X5 tyX5_ok nmX5 (by decide) rfl rfl rfl wf_49 dX5_failAt_9 ?_
    refine x_aload_n dX5_failAt_12 0 rfl ?_
    refine x_iload_n dX5_failAt_13 2 rfl ?_
    obtain ⟨H3, eH3⟩ : ∃ z : hp_H, z = hp_up H2 13 4 v2 := ⟨_, rfl⟩
    replace h := hp_let_e eH3 h
    have rH3 := hp_ine eH3 (hp_in_up rH2 r2)
    refine x_pi 4 4 rfl tyX5 eH3 (sc_13 hG) (by decide) (C := RX5) (T := TX5) (N := 5) rfl in_X5 tyX5_ok nmX5 (by decide) rfl rfl rfl wf_50 dX5_failAt_14 ?_
    cases h
    exact x_vret rH3 dX5_failAt_17
set_option maxRecDepth 100000 in
theorem ok_X5_fail {G : hp_G} (hG : hp_sh G = hp_shc) {l : Launch} (v1 : Int) (H : hp_H) (r1 : hp_r v1) (rH : hp_in H) (H' : hp_H) (h : f_X5_fail v1 H = some H') : hp_M G l yX5_fail cX5_fail 2 none (hp_rm 1) [.ref (hp_ad G 13), .int (hp_I v1)] H none H' (hp_in H') := by
  unfold f_X5_fail at h
  refine hp_body "HeelPost$Tape" (by decide) rfl ⟨rfl, rfl⟩ (Nat.le_of_ble_eq_true rfl) ?_
  show hp_R G l cX5_fail 2 none "HeelPost$Tape" (hp_rm 1) none H' (hp_in H') 0 [(0, .ref (hp_ad G 13)), (1, .int (hp_I v1))] [] H
  refine x_aload_n dX5_fail_0 0 rfl ?_
  refine x_iload_n dX5_fail_1 1 rfl ?_
  refine x_aload_n dX5_fail_2 0 rfl ?_
  refine x_gi 2 2 rfl (sc_13 hG) (by decide) (C := RX5) (T := TX5) (N := 5) rfl in_X5 (by decide) rfl wf_48 dX5_fail_3 ?_
  obtain ⟨H2, g1, h⟩ := hp_b1_e h
  refine x_ivv (As := [.int (hp_I v1), .int (hp_I (H 13 2))]) (ok_X5_failAt hG v1 (H 13 2) H r1 (rH _ _) rH _ g1) cal_X5_failAt (sc_13 hG) (by decide) (C := RX5) (T := TX5) (N := 5) rfl rfl ins_X5_failAt sel_X5_failAt wm_369 (by decide) rfl rfl (Nat.le_of_ble_eq_true rfl) dX5_fail_6 (fun z9 => ?_)
  have rH2 := z9
  cases h
  exact x_vret rH2 dX5_fail_9
set_option maxRecDepth 100000 in
theorem ok_X5_readSign {G : hp_G} (hG : hp_sh G = hp_shc) {l : Launch} (v1 : Int) (H : hp_H) (r1 : hp_r v1) (rH : hp_in H) (H' : hp_H) (h : f_X5_readSign v1 H = some H') : hp_M G l yX5_readSign cX5_readSign 2 none (hp_rm 2) [.ref (hp_ad G 13), .int (hp_I v1)] H none H' (hp_in H') := by
  unfold f_X5_readSign at h
  refine hp_body "HeelPost$Tape" (by decide) rfl ⟨rfl, rfl⟩ (Nat.le_of_ble_eq_true rfl) ?_
  show hp_R G l cX5_readSign 2 none "HeelPost$Tape" (hp_rm 2) none H' (hp_in H') 0 [(0, .ref (hp_ad G 13)), (1, .int (hp_I v1))] [] H
  refine x_aload_n dX5_readSign_0 0 rfl ?_
  refine x_gi 2 2 rfl (sc_13 hG) (by decide) (C := RX5) (T := TX5) (N := 5) rfl in_X5 (by decide) rfl wf_48 dX5_readSign_1 ?_
  refine x_aload_n dX5_readSign_4 0 rfl ?_
  refine x_gi 1 1 rfl (sc_13 hG) (by decide) (C := RX5) (T := TX5) (N := 5) rfl in_X5 (by decide) rfl wf_47 dX5_readSign_5 ?_
  obtain ⟨H1, hm2, h⟩ := hp_b1_e h
  have kj : hp_in H1 → hp_R G l cX5_readSign 2 none "HeelPost$Tape" (hp_rm 2) none H' (hp_in H') 29 [(0, .ref (hp_ad G 13))] [] H1 := by
    intro rH1
    refine x_aload_n dX5_readSign_29 0 rfl ?_
    refine x_dup rfl dX5_readSign_30 ?_
    refine x_gi 2 2 rfl (sc_13 hG) (by decide) (C := RX5) (T := TX5) (N := 5) rfl in_X5 (by decide) rfl wf_48 dX5_readSign_31 ?_
    refine x_iconst dX5_readSign_34 ?_
    refine x_iadd dX5_readSign_35 ?_
    obtain ⟨H3, eH3⟩ : ∃ z : hp_H, z = hp_up H1 13 2 (hp_w ((H1 13 2) + 1)) := ⟨_, rfl⟩
    replace h := hp_let_e eH3 h
    have rH3 := hp_ine eH3 (hp_in_up rH1 (hp_rw _))
    refine x_pi 2 2 rfl tyX5 eH3 (sc_13 hG) (by decide) (C := RX5) (T := TX5) (N := 5) rfl in_X5 tyX5_ok nmX5 (by decide) rfl rfl rfl wf_48 dX5_readSign_36 ?_
    cases h
    exact x_vret rH3 dX5_readSign_39
  clear h
  have h := hm2
  clear hm2
  refine x_icge (tgt := 24) dX5_readSign_8 (by decide) (rH _ _) (rH _ _) (fun hc4 => ?_) (fun hc4 => ?_)
  · replace h := hp_if hc4 h
    refine x_aload_n dX5_readSign_24 0 rfl ?_
    refine x_iconst dX5_readSign_25 ?_
    obtain ⟨H10, g9, h⟩ := hp_b1_e h
    refine x_ivv (As := [.int (hp_I 1)]) (ok_X5_fail hG 1 H (hp_rc rfl) rH _ g9) cal_X5_fail (sc_13 hG) (by decide) (C := RX5) (T := TX5) (N := 5) rfl rfl ins_X5_fail sel_X5_fail wm_365 (by decide) rfl rfl (Nat.le_of_ble_eq_true rfl) dX5_readSign_26 (fun z9 => ?_)
    have rH10 := z9
    cases h
    exact x_sub [0] rfl (kj rH10)
  · replace h := hp_it hc4 h
    refine x_aload_n dX5_readSign_11 0 rfl ?_
    refine x_getr 0 (sc_13 hG) (by decide) (C := RX5) (T := TX5) (N := 5) rfl in_X5 (by decide) rfl wf_46 dX5_readSign_12 ?_
    refine x_aload_n dX5_readSign_15 0 rfl ?_
    refine x_gi 2 2 rfl (sc_13 hG) (by decide) (C := RX5) (T := TX5) (N := 5) rfl in_X5 (by decide) rfl wf_48 dX5_readSign_16 ?_
    obtain ⟨b5, h⟩ := hp_ck_e h
    refine x_ia 120 rfl (sc_14 hG) (by decide) (Nat.le_of_ble_eq_true rfl) b5 dX5_readSign_19 ?_
    refine x_iload_n dX5_readSign_20 1 rfl ?_
    refine x_iceq (tgt := 29) dX5_readSign_21 (by decide) (rH _ _) r1 (fun hc6 => ?_) (fun hc6 => ?_)
    · replace h := hp_it hc6 h
      cases h
      exact x_sub [0] rfl (kj rH)
    · replace h := hp_if hc6 h
      refine x_aload_n dX5_readSign_24 0 rfl ?_
      refine x_iconst dX5_readSign_25 ?_
      obtain ⟨H8, g7, h⟩ := hp_b1_e h
      refine x_ivv (As := [.int (hp_I 1)]) (ok_X5_fail hG 1 H (hp_rc rfl) rH _ g7) cal_X5_fail (sc_13 hG) (by decide) (C := RX5) (T := TX5) (N := 5) rfl rfl ins_X5_fail sel_X5_fail wm_365 (by decide) rfl rfl (Nat.le_of_ble_eq_true rfl) dX5_readSign_26 (fun z9 => ?_)
      have rH8 := z9
      cases h
      exact x_sub [0] rfl (kj rH8)
set_option maxRecDepth 100000 in
theorem ok_X5_isFigure {G : hp_G} (hG : hp_sh G = hp_shc) {l : Launch} (v0 : Int) (H : hp_H) (r0 : hp_r v0) (rH : hp_in H) (r : Int) (h : f_X5_isFigure v0 H = some r) : hp_M G l yX5_isFigure cX5_isFigure 1 (some .boolean) (hp_rm 0) [.int (hp_I v0)] H (some (.int (hp_I r))) H (hp_r r) := by
  unfold f_X5_isFigure at h
  refine hp_body "HeelPost$Tape" (by decide) rfl ⟨rfl, rfl⟩ (Nat.le_of_ble_eq_true rfl) ?_
  show hp_R G l cX5_isFigure 1 (some .boolean) "HeelPost$Tape" (hp_rm 0) (some (.int (hp_I r))) H (hp_r r) 0 [(0, .int (hp_I v0))] [] H
  refine x_iload_n dX5_isFigure_0 0 rfl ?_
  refine x_bipush rfl dX5_isFigure_1 ?_
  refine x_iclt (tgt := 16) dX5_isFigure_3 (by decide) r0 (hp_rc rfl) (fun hc1 => ?_) (fun hc1 => ?_)
  · replace h := hp_it hc1 h
    refine x_iconst dX5_isFigure_16 ?_
    cases h
    exact x_zret (hp_rc rfl) (Or.inl rfl) dX5_isFigure_17
  · replace h := hp_if hc1 h
    refine x_iload_n dX5_isFigure_6 0 rfl ?_
    refine x_bipush rfl dX5_isFigure_7 ?_
    refine x_icgt (tgt := 16) dX5_isFigure_9 (by decide) r0 (hp_rc rfl) (fun hc2 => ?_) (fun hc2 => ?_)
    · replace h := hp_it hc2 h
      refine x_iconst dX5_isFigure_16 ?_
      cases h
      exact x_zret (hp_rc rfl) (Or.inl rfl) dX5_isFigure_17
    · replace h := hp_if hc2 h
      refine x_iconst dX5_isFigure_12 ?_
      refine x_goto (tgt := 17) dX5_isFigure_13 (by decide) ?_
      cases h
      exact x_zret (hp_rc rfl) (Or.inr rfl) dX5_isFigure_17
set_option maxRecDepth 100000 in
theorem ok_X5_readNumber_11 {G : hp_G} (hG : hp_sh G = hp_shc) {l : Launch} {vv : Option Value} {H' : hp_H} {Z : Prop} : ∀ (n : Nat) (v1 : Int) (v2 : Int) (v3 : Int) (v4 : Int) (v5 : Int) (H : hp_H), hp_r v1 → hp_r v2 → hp_r v3 → hp_r v4 → hp_r v5 → hp_in H → ∀ m4 : Int, ∀ Hm : hp_H, f_X5_readNumber_11 n v1 v2 v3 v4 v5 H = some (m4, Hm) → (hp_r m4 → hp_in Hm → hp_R G l cX5_readNumber 6 (some .int) "HeelPost$Tape" (hp_rm 1) vv H' Z 77 [(0, .ref (hp_ad G 13)), (1, .int (hp_I v1)), (2, .int (hp_I v2)), (3, .int (hp_I v3)), (4, .int (hp_I m4))] [] Hm) → hp_R G l cX5_readNumber 6 (some .int) "HeelPost$Tape" (hp_rm 1) vv H' Z 11 [(0, .ref (hp_ad G 13)), (1, .int (hp_I v1)), (2, .int (hp_I v2)), (3, .int (hp_I v3)), (4, .int (hp_I v4)), (5, .int (hp_I v5))] [] H := by
  intro n
  induction n with
  | zero =>
    intro v1 v2 v3 v4 v5 H r1 r2 r3 r4 r5 rH m4 Hm h kx
    exact hp_no h
  | succ n ih =>
    intro v1 v2 v3 v4 v5 H r1 r2 r3 r4 r5 rH m4 Hm h kx
    unfold f_X5_readNumber_11 at h
    refine x_iload dX5_readNumber_11 5 rfl ?_
    refine x_aload_n dX5_readNumber_13 0 rfl ?_
    refine x_gi 1 1 rfl (sc_13 hG) (by decide) (C := RX5) (T := TX5) (N := 5) rfl in_X5 (by decide) rfl wf_47 dX5_readNumber_14 ?_
    refine x_icge (tgt := 77) dX5_readNumber_17 (by decide) r5 (rH _ _) (fun hc2 => ?_) (fun hc2 => ?_)
    · replace h := hp_if hc2 h
      cases h
      exact x_sub [0, 1, 2, 3, 4] rfl (kx r4 rH)
    · replace h := hp_it hc2 h
      refine x_aload_n dX5_readNumber_20 0 rfl ?_
      refine x_getr 0 (sc_13 hG) (by decide) (C := RX5) (T := TX5) (N := 5) rfl in_X5 (by decide) rfl wf_46 dX5_readNumber_21 ?_
      refine x_iload dX5_readNumber_24 5 rfl ?_
      obtain ⟨b3, h⟩ := hp_ck_e h
      refine x_ia 120 rfl (sc_14 hG) (by decide) (Nat.le_of_ble_eq_true rfl) b3 dX5_readNumber_26 ?_
      obtain ⟨c5, g4, h⟩ := hp_b1_e h
      refine x_isi (As := [.int (hp_I (H 14 v5))]) (ok_X5_isFigure hG (H 14 v5) H (rH _ _) rH _ g4) cal_X5_isFigure stt_X5_isFigure wm_377 (by decide) rfl rfl (Nat.le_of_ble_eq_true rfl) dX5_readNumber_27 (fun z9 => ?_)
      have rc5 := z9
      refine x_ifeq (tgt := 77) dX5_readNumber_30 (by decide) rc5 (fun hc6 => ?_) (fun hc6 => ?_)
      · replace h := hp_it hc6 h
        cases h
        exact x_sub [0, 1, 2, 3, 4] rfl (kx r4 rH)
      · replace h := hp_if hc6 h
        refine x_aload_n dX5_readNumber_33 0 rfl ?_
        refine x_gi 2 2 rfl (sc_13 hG) (by decide) (C := RX5) (T := TX5) (N := 5) rfl in_X5 (by decide) rfl wf_48 dX5_readNumber_34 ?_
        refine x_iload_n dX5_readNumber_37 3 rfl ?_
        refine x_isub dX5_readNumber_38 ?_
        refine x_iconst dX5_readNumber_39 ?_
        refine x_icgt (tgt := 77) dX5_readNumber_40 (by decide) (hp_rw _) (hp_rc rfl) (fun hc7 => ?_) (fun hc7 => ?_)
        · replace h := hp_it hc7 h
          cases h
          exact x_sub [0, 1, 2, 3, 4] rfl (kx r4 rH)
        · replace h := hp_if hc7 h
          refine x_iload dX5_readNumber_43 4 rfl ?_
          refine x_bipush rfl dX5_readNumber_45 ?_
          refine x_imul dX5_readNumber_47 ?_
          refine x_aload_n dX5_readNumber_48 0 rfl ?_
          refine x_getr 0 (sc_13 hG) (by decide) (C := RX5) (T := TX5) (N := 5) rfl in_X5 (by decide) rfl wf_46 dX5_readNumber_49 ?_
          refine x_iload dX5_readNumber_52 5 rfl ?_
          refine x_ia 120 rfl (sc_14 hG) (by decide) (Nat.le_of_ble_eq_true rfl) b3 dX5_readNumber_54 ?_
          refine x_iadd dX5_readNumber_55 ?_
          refine x_bipush rfl dX5_readNumber_56 ?_
          refine x_isub dX5_readNumber_58 ?_
          obtain ⟨v4_8, ev4_8⟩ : ∃ z : Int, z = (hp_w ((hp_w ((hp_w (v4 * 10)) + (H 14 v5))) - 48)) := ⟨_, rfl⟩
          replace h := hp_let_e ev4_8 h
          have rv4_8 := hp_re ev4_8 (hp_rw _)
          refine x_isE (L' := [(4, .int (hp_I v4_8)), (0, .ref (hp_ad G 13)), (1, .int (hp_I v1)), (2, .int (hp_I v2)), (3, .int (hp_I v3)), (5, .int (hp_I v5))]) ev4_8 dX5_readNumber_59 (by decide) rfl ?_
          refine x_aload_n dX5_readNumber_61 1 rfl ?_
          refine x_dup rfl dX5_readNumber_62 ?_
          refine x_gi 2 2 rfl (sc_13 hG) (by decide) (C := RX5) (T := TX5) (N := 5) rfl in_X5 (by decide) rfl wf_48 dX5_readNumber_63 ?_
          refine x_iconst dX5_readNumber_66 ?_
          refine x_iadd dX5_readNumber_67 ?_
          obtain ⟨H9, eH9⟩ : ∃ z : hp_H, z = hp_up H 13 2 (hp_w ((H 13 2) + 1)) := ⟨_, rfl⟩
          replace h := hp_let_e eH9 h
          have rH9 := hp_ine eH9 (hp_in_up rH (hp_rw _))
          refine x_pi 2 2 rfl tyX5 eH9 (sc_13 hG) (by decide) (C := RX5) (T := TX5) (N := 5) rfl in_X5 tyX5_ok nmX5 (by decide) rfl rfl rfl wf_48 dX5_readNumber_68 ?_
          obtain ⟨v5_10, ev5_10⟩ : ∃ z : Int, z = (hp_w (v5 + 1)) := ⟨_, rfl⟩
          replace h := hp_let_e ev5_10 h
          have rv5_10 := hp_re ev5_10 (hp_rw _)
          refine x_iiE (L' := [(5, .int (hp_I v5_10)), (4, .int (hp_I v4_8)), (0, .ref (hp_ad G 13)), (1, .int (hp_I v1)), (2, .int (hp_I v2)), (3, .int (hp_I v3))]) ev5_10 dX5_readNumber_71 5 rfl (by decide) rfl ?_
          refine x_goto (tgt := 11) dX5_readNumber_74 (by decide) ?_
          exact x_sub [2, 3, 4, 5, 1, 0] rfl (ih v1 v2 v3 v4_8 v5_10 H9 r1 r2 r3 rv4_8 rv5_10 rH9 _ _ h kx)
set_option maxRecDepth 100000 in
theorem ok_X5_readNumber {G : hp_G} (hG : hp_sh G = hp_shc) {l : Launch} (v1 : Int) (v2 : Int) (H : hp_H) (r1 : hp_r v1) (r2 : hp_r v2) (rH : hp_in H) (x : Int × hp_H) (h : f_X5_readNumber v1 v2 H = some x) : hp_M G l yX5_readNumber cX5_readNumber 6 (some .int) (hp_rm 1) [.ref (hp_ad G 13), .int (hp_I v1), .int (hp_I v2)] H (some (.int (hp_I x.1))) x.2 (hp_r x.1 ∧ hp_in x.2) := by
  obtain ⟨r, H'⟩ := x
  unfold f_X5_readNumber at h
  refine hp_body "HeelPost$Tape" (by decide) rfl ⟨rfl, rfl⟩ (Nat.le_of_ble_eq_true rfl) ?_
  show hp_R G l cX5_readNumber 6 (some .int) "HeelPost$Tape" (hp_rm 1) (some (.int (hp_I r))) H' (hp_r r ∧ hp_in H') 0 [(0, .ref (hp_ad G 13)), (1, .int (hp_I v1)), (2, .int (hp_I v2))] [] H
  refine x_aload_n dX5_readNumber_0 0 rfl ?_
  refine x_gi 2 2 rfl (sc_13 hG) (by decide) (C := RX5) (T := TX5) (N := 5) rfl in_X5 (by decide) rfl wf_48 dX5_readNumber_1 ?_
  obtain ⟨v3_1, ev3_1⟩ : ∃ z : Int, z = (H 13 2) := ⟨_, rfl⟩
  replace h := hp_let_e ev3_1 h
  have rv3_1 := hp_re ev3_1 (rH _ _)
  refine x_isnE (L' := [(3, .int (hp_I v3_1)), (0, .ref (hp_ad G 13)), (1, .int (hp_I v1)), (2, .int (hp_I v2))]) ev3_1 dX5_readNumber_4 rfl (by decide) rfl ?_
  refine x_iconst dX5_readNumber_5 ?_
  refine x_istore (L' := [(4, .int (hp_I 0)), (3, .int (hp_I v3_1)), (0, .ref (hp_ad G 13)), (1, .int (hp_I v1)), (2, .int (hp_I v2))]) dX5_readNumber_6 (by decide) rfl ?_
  refine x_iload_n dX5_readNumber_8 1 rfl ?_
  refine x_istore (L' := [(5, .int (hp_I v3_1)), (4, .int (hp_I 0)), (3, .int (hp_I v3_1)), (0, .ref (hp_ad G 13)), (1, .int (hp_I v1)), (2, .int (hp_I v2))]) dX5_readNumber_9 (by decide) rfl ?_
  obtain ⟨v4_11, H12, g13, h⟩ := hp_b2_e h
  refine x_sub [3, 4, 5, 2, 1, 0] rfl (ok_X5_readNumber_11 hG 1000 v1 v2 v3_1 0 v3_1 H r1 r2 rv3_1 (hp_rc rfl) rv3_1 rH _ _ g13 ?_)
  intro rv4_11 rH12
  refine x_aload_n dX5_readNumber_77 0 rfl ?_
  refine x_gi 2 2 rfl (sc_13 hG) (by decide) (C := RX5) (T := TX5) (N := 5) rfl in_X5 (by decide) rfl wf_48 dX5_readNumber_78 ?_
  refine x_iload_n dX5_readNumber_81 3 rfl ?_
  refine x_isub dX5_readNumber_82 ?_
  obtain ⟨v5_14, ev5_14⟩ : ∃ z : Int, z = (hp_w ((H12 13 2) - v3_1)) := ⟨_, rfl⟩
  replace h := hp_let_e ev5_14 h
  have rv5_14 := hp_re ev5_14 (hp_rw _)
  refine x_isE (L' := [(5, .int (hp_I v5_14)), (0, .ref (hp_ad G 13)), (1, .int (hp_I v1)), (2, .int (hp_I v2)), (3, .int (hp_I v3_1)), (4, .int (hp_I v4_11))]) ev5_14 dX5_readNumber_83 (by decide) rfl ?_
  refine x_iload dX5_readNumber_85 0 rfl ?_
  obtain ⟨H15, hm16, h⟩ := hp_b1_e h
  have kj : hp_in H15 → hp_R G l cX5_readNumber 6 (some .int) "HeelPost$Tape" (hp_rm 1) (some (.int (hp_I r))) H' (hp_r r ∧ hp_in H') 121 [(4, .int (hp_I v4_11))] [] H15 := by
    intro rH15
    refine x_iload dX5_readNumber_121 0 rfl ?_
    cases h
    exact x_iret ⟨rv4_11, rH15⟩ dX5_readNumber_123
  clear h
  have h := hm16
  clear hm16
  refine x_ifeq (tgt := 96) dX5_readNumber_87 (by decide) rv5_14 (fun hc17 => ?_) (fun hc17 => ?_)
  · replace h := hp_it hc17 h
    refine x_aload_n dX5_readNumber_96 1 rfl ?_
    refine x_iconst dX5_readNumber_97 ?_
    refine x_iload_n dX5_readNumber_98 4 rfl ?_
    obtain ⟨H19, g18, h⟩ := hp_b1_e h
    refine x_ivv (As := [.int (hp_I 1), .int (hp_I v3_1)]) (ok_X5_failAt hG 1 v3_1 H12 (hp_rc rfl) rv3_1 rH12 _ g18) cal_X5_failAt (sc_13 hG) (by decide) (C := RX5) (T := TX5) (N := 5) rfl rfl ins_X5_failAt sel_X5_failAt wm_369 (by decide) rfl rfl (Nat.le_of_ble_eq_true rfl) dX5_readNumber_99 (fun z9 => ?_)
    have rH19 := z9
    refine x_goto (tgt := 121) dX5_readNumber_102 (by decide) ?_
    cases h
    exact x_sub [5] rfl (kj rH19)
  · replace h := hp_if hc17 h
    refine x_iload dX5_readNumber_90 0 rfl ?_
    refine x_iconst dX5_readNumber_92 ?_
    refine x_icle (tgt := 105) dX5_readNumber_93 (by decide) rv5_14 (hp_rc rfl) (fun hc20 => ?_) (fun hc20 => ?_)
    · replace h := hp_if hc20 h
      refine x_iload dX5_readNumber_105 5 rfl ?_
      refine x_iload_n dX5_readNumber_107 2 rfl ?_
      refine x_iload_n dX5_readNumber_108 3 rfl ?_
      obtain ⟨c24, g23, h⟩ := hp_b1_e h
      refine x_isNi (As := [.int (hp_I v4_11), .int (hp_I v1), .int (hp_I v2)]) (ok_X7_within hG v4_11 v1 v2 H12 rv4_11 r1 r2 rH12 _ g23) cal_X7_within stt_X7_within (by decide) rfl rfl (Nat.le_of_ble_eq_true rfl) dX5_readNumber_109 (fun z9 => ?_)
      have rc24 := z9
      refine x_ifne (tgt := 121) dX5_readNumber_112 (by decide) rc24 (fun hc25 => ?_) (fun hc25 => ?_)
      · replace h := hp_if hc25 h
        cases h
        exact x_sub [5] rfl (kj rH12)
      · replace h := hp_it hc25 h
        refine x_aload_n dX5_readNumber_115 1 rfl ?_
        refine x_iconst dX5_readNumber_116 ?_
        refine x_iload_n dX5_readNumber_117 4 rfl ?_
        obtain ⟨H27, g26, h⟩ := hp_b1_e h
        refine x_ivv (As := [.int (hp_I 2), .int (hp_I v3_1)]) (ok_X5_failAt hG 2 v3_1 H12 (hp_rc rfl) rv3_1 rH12 _ g26) cal_X5_failAt (sc_13 hG) (by decide) (C := RX5) (T := TX5) (N := 5) rfl rfl ins_X5_failAt sel_X5_failAt wm_369 (by decide) rfl rfl (Nat.le_of_ble_eq_true rfl) dX5_readNumber_118 (fun z9 => ?_)
        have rH27 := z9
        cases h
        exact x_sub [5] rfl (kj rH27)
    · replace h := hp_it hc20 h
      refine x_aload_n dX5_readNumber_96 1 rfl ?_
      refine x_iconst dX5_readNumber_97 ?_
      refine x_iload_n dX5_readNumber_98 4 rfl ?_
      obtain ⟨H22, g21, h⟩ := hp_b1_e h
      refine x_ivv (As := [.int (hp_I 1), .int (hp_I v3_1)]) (ok_X5_failAt hG 1 v3_1 H12 (hp_rc rfl) rv3_1 rH12 _ g21) cal_X5_failAt (sc_13 hG) (by decide) (C := RX5) (T := TX5) (N := 5) rfl rfl ins_X5_failAt sel_X5_failAt wm_369 (by decide) rfl rfl (Nat.le_of_ble_eq_true rfl) dX5_readNumber_99 (fun z9 => ?_)
      have rH22 := z9
      refine x_goto (tgt := 121) dX5_readNumber_102 (by decide) ?_
      cases h
      exact x_sub [5] rfl (kj rH22)
set_option maxRecDepth 100000 in
theorem ok_X5_kindOf {G : hp_G} (hG : hp_sh G = hp_shc) {l : Launch} (v0 : Int) (H : hp_H) (r0 : hp_r v0) (rH : hp_in H) (r : Int) (h : f_X5_kindOf v0 H = some r) : hp_M G l yX5_kindOf cX5_kindOf 1 (some .int) (hp_rm 0) [.int (hp_I v0)] H (some (.int (hp_I r))) H (hp_r r) := by
  unfold f_X5_kindOf at h
  refine hp_body "HeelPost$Tape" (by decide) rfl ⟨rfl, rfl⟩ (Nat.le_of_ble_eq_true rfl) ?_
  show hp_R G l cX5_kindOf 1 (some .int) "HeelPost$Tape" (hp_rm 0) (some (.int (hp_I r))) H (hp_r r) 0 [(0, .int (hp_I v0))] [] H
  refine x_iload_n dX5_kindOf_0 0 rfl ?_
  by_cases hc1 : v0 = 98
  · replace h := hp_it hc1 h
    refine x_look (tgt := 60) (off := 59) dX5_kindOf_1 r0 (by decide) (by rw [hc1]; rfl) (by decide) ?_
    refine x_iconst dX5_kindOf_60 ?_
    cases h
    exact x_iret (hp_rc rfl) dX5_kindOf_61
  replace h := hp_if hc1 h
  by_cases hc2 : v0 = 99
  · replace h := hp_it hc2 h
    refine x_look (tgt := 54) (off := 53) dX5_kindOf_1 r0 (by decide) (by rw [hc2]; rfl) (by decide) ?_
    refine x_iconst dX5_kindOf_54 ?_
    cases h
    exact x_iret (hp_rc rfl) dX5_kindOf_55
  replace h := hp_if hc2 h
  by_cases hc3 : v0 = 100
  · replace h := hp_it hc3 h
    refine x_look (tgt := 56) (off := 55) dX5_kindOf_1 r0 (by decide) (by rw [hc3]; rfl) (by decide) ?_
    refine x_iconst dX5_kindOf_56 ?_
    cases h
    exact x_iret (hp_rc rfl) dX5_kindOf_57
  replace h := hp_if hc3 h
  by_cases hc4 : v0 = 109
  · replace h := hp_it hc4 h
    refine x_look (tgt := 58) (off := 57) dX5_kindOf_1 r0 (by decide) (by rw [hc4]; rfl) (by decide) ?_
    refine x_iconst dX5_kindOf_58 ?_
    cases h
    exact x_iret (hp_rc rfl) dX5_kindOf_59
  replace h := hp_if hc4 h
  by_cases hc5 : v0 = 119
  · replace h := hp_it hc5 h
    refine x_look (tgt := 52) (off := 51) dX5_kindOf_1 r0 (by decide) (by rw [hc5]; rfl) (by decide) ?_
    refine x_iconst dX5_kindOf_52 ?_
    cases h
    exact x_iret (hp_rc rfl) dX5_kindOf_53
  replace h := hp_if hc5 h
  refine x_look (tgt := 62) (off := 61) dX5_kindOf_1 r0 (by decide) (by show Op.lookupswitch.offset [(98, 59), (99, 53), (100, 55), (109, 57), (119, 51)] _ _ = _; simp only [Op.lookupswitch.offset_cons, if_neg (Ne.symm hc1), if_neg (Ne.symm hc2), if_neg (Ne.symm hc3), if_neg (Ne.symm hc4), if_neg (Ne.symm hc5)]; rfl) (by decide) ?_
  refine x_iconst dX5_kindOf_62 ?_
  cases h
  exact x_iret (hp_rc rfl) dX5_kindOf_63
set_option maxRecDepth 100000 in
theorem ok_X5_readSort {G : hp_G} (hG : hp_sh G = hp_shc) {l : Launch} (v1 : Int) (H : hp_H) (r1 : hp_r v1) (rH : hp_in H) (x : Int × hp_H) (h : f_X5_readSort v1 H = some x) : hp_M G l yX5_readSort cX5_readSort 3 (some .int) (hp_rm 2) [.ref (hp_ad G 13), .int (hp_I v1)] H (some (.int (hp_I x.1))) x.2 (hp_r x.1 ∧ hp_in x.2) := by
  obtain ⟨r, H'⟩ := x
  unfold f_X5_readSort at h
  refine hp_body "HeelPost$Tape" (by decide) rfl ⟨rfl, rfl⟩ (Nat.le_of_ble_eq_true rfl) ?_
  show hp_R G l cX5_readSort 3 (some .int) "HeelPost$Tape" (hp_rm 2) (some (.int (hp_I r))) H' (hp_r r ∧ hp_in H') 0 [(0, .ref (hp_ad G 13)), (1, .int (hp_I v1))] [] H
  refine x_aload_n dX5_readSort_0 0 rfl ?_
  refine x_gi 2 2 rfl (sc_13 hG) (by decide) (C := RX5) (T := TX5) (N := 5) rfl in_X5 (by decide) rfl wf_48 dX5_readSort_1 ?_
  refine x_aload_n dX5_readSort_4 0 rfl ?_
  refine x_gi 1 1 rfl (sc_13 hG) (by decide) (C := RX5) (T := TX5) (N := 5) rfl in_X5 (by decide) rfl wf_47 dX5_readSort_5 ?_
  obtain ⟨m1, hm2, h⟩ := hp_b1_e h
  have kj : hp_r m1 → hp_R G l cX5_readSort 3 (some .int) "HeelPost$Tape" (hp_rm 2) (some (.int (hp_I r))) H' (hp_r r ∧ hp_in H') 27 [(0, .ref (hp_ad G 13)), (1, .int (hp_I v1))] [.int (hp_I m1)] H := by
    intro rm1
    refine x_istore_n (L' := [(2, .int (hp_I m1)), (0, .ref (hp_ad G 13)), (1, .int (hp_I v1))]) dX5_readSort_27 rfl (by decide) rfl ?_
    refine x_iload_n dX5_readSort_28 0 rfl ?_
    obtain ⟨H3, hm4, h⟩ := hp_b1_e h
    have kj : hp_in H3 → hp_R G l cX5_readSort 3 (some .int) "HeelPost$Tape" (hp_rm 2) (some (.int (hp_I r))) H' (hp_r r ∧ hp_in H') 51 [(0, .ref (hp_ad G 13)), (2, .int (hp_I m1))] [] H3 := by
      intro rH3
      refine x_aload_n dX5_readSort_51 0 rfl ?_
      refine x_dup rfl dX5_readSort_52 ?_
      refine x_gi 2 2 rfl (sc_13 hG) (by decide) (C := RX5) (T := TX5) (N := 5) rfl in_X5 (by decide) rfl wf_48 dX5_readSort_53 ?_
      refine x_iconst dX5_readSort_56 ?_
      refine x_iadd dX5_readSort_57 ?_
      obtain ⟨H5, eH5⟩ : ∃ z : hp_H, z = hp_up H3 13 2 (hp_w ((H3 13 2) + 1)) := ⟨_, rfl⟩
      replace h := hp_let_e eH5 h
      have rH5 := hp_ine eH5 (hp_in_up rH3 (hp_rw _))
      refine x_pi 2 2 rfl tyX5 eH5 (sc_13 hG) (by decide) (C := RX5) (T := TX5) (N := 5) rfl in_X5 tyX5_ok nmX5 (by decide) rfl rfl rfl wf_48 dX5_readSort_58 ?_
      refine x_iload_n dX5_readSort_61 1 rfl ?_
      cases h
      exact x_iret ⟨rm1, rH5⟩ dX5_readSort_62
    clear h
    have h := hm4
    clear hm4
    refine x_ifne (tgt := 40) dX5_readSort_29 (by decide) rm1 (fun hc6 => ?_) (fun hc6 => ?_)
    · replace h := hp_if hc6 h
      refine x_iload_n dX5_readSort_40 2 rfl ?_
      refine x_bipush rfl dX5_readSort_41 ?_
      refine x_iclt (tgt := 51) dX5_readSort_43 (by decide) r1 (hp_rc rfl) (fun hc9 => ?_) (fun hc9 => ?_)
      · replace h := hp_it hc9 h
        cases h
        exact x_sub [1, 0] rfl (kj rH)
      · replace h := hp_if hc9 h
        refine x_aload_n dX5_readSort_46 1 rfl ?_
        refine x_iconst dX5_readSort_47 ?_
        obtain ⟨H11, g10, h⟩ := hp_b1_e h
        refine x_ivv (As := [.int (hp_I 3)]) (ok_X5_fail hG 3 H (hp_rc rfl) rH _ g10) cal_X5_fail (sc_13 hG) (by decide) (C := RX5) (T := TX5) (N := 5) rfl rfl ins_X5_fail sel_X5_fail wm_365 (by decide) rfl rfl (Nat.le_of_ble_eq_true rfl) dX5_readSort_48 (fun z9 => ?_)
        have rH11 := z9
        cases h
        exact x_sub [1, 0] rfl (kj rH11)
    · replace h := hp_it hc6 h
      refine x_aload_n dX5_readSort_32 1 rfl ?_
      refine x_iconst dX5_readSort_33 ?_
      obtain ⟨H8, g7, h⟩ := hp_b1_e h
      refine x_ivv (As := [.int (hp_I 1)]) (ok_X5_fail hG 1 H (hp_rc rfl) rH _ g7) cal_X5_fail (sc_13 hG) (by decide) (C := RX5) (T := TX5) (N := 5) rfl rfl ins_X5_fail sel_X5_fail wm_365 (by decide) rfl rfl (Nat.le_of_ble_eq_true rfl) dX5_readSort_34 (fun z9 => ?_)
      have rH8 := z9
      refine x_goto (tgt := 51) dX5_readSort_37 (by decide) ?_
      cases h
      exact x_sub [1, 0] rfl (kj rH8)
  clear h
  have h := hm2
  clear hm2
  refine x_icge (tgt := 26) dX5_readSort_8 (by decide) (rH _ _) (rH _ _) (fun hc12 => ?_) (fun hc12 => ?_)
  · replace h := hp_if hc12 h
    refine x_iconst dX5_readSort_26 ?_
    cases h
    exact x_sub [0, 1] rfl (kj (hp_rc rfl))
  · replace h := hp_it hc12 h
    refine x_aload_n dX5_readSort_11 0 rfl ?_
    refine x_getr 0 (sc_13 hG) (by decide) (C := RX5) (T := TX5) (N := 5) rfl in_X5 (by decide) rfl wf_46 dX5_readSort_12 ?_
    refine x_aload_n dX5_readSort_15 0 rfl ?_
    refine x_gi 2 2 rfl (sc_13 hG) (by decide) (C := RX5) (T := TX5) (N := 5) rfl in_X5 (by decide) rfl wf_48 dX5_readSort_16 ?_
    obtain ⟨b13, h⟩ := hp_ck_e h
    refine x_ia 120 rfl (sc_14 hG) (by decide) (Nat.le_of_ble_eq_true rfl) b13 dX5_readSort_19 ?_
    obtain ⟨c15, g14, h⟩ := hp_b1_e h
    refine x_isi (As := [.int (hp_I (H 14 (H 13 2)))]) (ok_X5_kindOf hG (H 14 (H 13 2)) H (rH _ _) rH _ g14) cal_X5_kindOf stt_X5_kindOf wm_389 (by decide) rfl rfl (Nat.le_of_ble_eq_true rfl) dX5_readSort_20 (fun z9 => ?_)
    have rc15 := z9
    refine x_goto (tgt := 27) dX5_readSort_23 (by decide) ?_
    cases h
    exact x_sub [0, 1] rfl (kj rc15)
set_option maxRecDepth 100000 in
theorem ok_X5_readPerson {G : hp_G} (hG : hp_sh G = hp_shc) {l : Launch}  (H : hp_H) (rH : hp_in H) (H' : hp_H) (h : f_X5_readPerson  H = some H') : hp_M G l yX5_readPerson cX5_readPerson 6 none (hp_rm 3) [.ref (hp_ad G 13), .ref (hp_ad G 22)] H none H' (hp_in H') := by
  unfold f_X5_readPerson at h
  refine hp_body "HeelPost$Tape" (by decide) rfl ⟨rfl, rfl⟩ (Nat.le_of_ble_eq_true rfl) ?_
  show hp_R G l cX5_readPerson 6 none "HeelPost$Tape" (hp_rm 3) none H' (hp_in H') 0 [(0, .ref (hp_ad G 13)), (1, .ref (hp_ad G 22))] [] H
  refine x_aload_n dX5_readPerson_0 0 rfl ?_
  refine x_aload_n dX5_readPerson_1 1 rfl ?_
  refine x_gi 2 2 rfl (tw_0 (tw_at22 hG)) (tw_p (tw_at22 hG)) (C := RX6) (T := TX6) (N := 12) rfl in_X6 (by decide) rfl wf_77 dX5_readPerson_2 ?_
  obtain ⟨c2, H3, g1, h⟩ := hp_b2_e h
  refine x_ivi (As := [.int (hp_I (H 22 2))]) (ok_X5_readSort hG (H 22 2) H (rH _ _) rH _ g1) cal_X5_readSort (sc_13 hG) (by decide) (C := RX5) (T := TX5) (N := 5) rfl rfl ins_X5_readSort sel_X5_readSort wm_385 (by decide) rfl rfl (Nat.le_of_ble_eq_true rfl) dX5_readPerson_5 (fun z9 => ?_)
  obtain ⟨rc2, rH3⟩ := z9
  refine x_istore_n (L' := [(2, .int (hp_I c2)), (0, .ref (hp_ad G 13)), (1, .ref (hp_ad G 22))]) dX5_readPerson_8 rfl (by decide) rfl ?_
  refine x_aload_n dX5_readPerson_9 1 rfl ?_
  refine x_iconst dX5_readPerson_10 ?_
  refine x_aload_n dX5_readPerson_11 2 rfl ?_
  refine x_gi 0 0 rfl (tw_0 (tw_at22 hG)) (tw_p (tw_at22 hG)) (C := RX6) (T := TX6) (N := 12) rfl in_X6 (by decide) rfl wf_69 dX5_readPerson_12 ?_
  refine x_iconst dX5_readPerson_15 ?_
  refine x_isub dX5_readPerson_16 ?_
  obtain ⟨c5, H6, g4, h⟩ := hp_b2_e h
  refine x_ivi (As := [.int (hp_I 0), .int (hp_I (hp_w ((H3 22 0) - 1)))]) (ok_X5_readNumber hG 0 (hp_w ((H3 22 0) - 1)) H3 (hp_rc rfl) (hp_rw _) rH3 _ g4) cal_X5_readNumber (sc_13 hG) (by decide) (C := RX5) (T := TX5) (N := 5) rfl rfl ins_X5_readNumber sel_X5_readNumber wm_373 (by decide) rfl rfl (Nat.le_of_ble_eq_true rfl) dX5_readPerson_17 (fun z9 => ?_)
  obtain ⟨rc5, rH6⟩ := z9
  refine x_istore_n (L' := [(3, .int (hp_I c5)), (2, .int (hp_I c2)), (0, .ref (hp_ad G 13)), (1, .ref (hp_ad G 22))]) dX5_readPerson_20 rfl (by decide) rfl ?_
  refine x_aload_n dX5_readPerson_21 2 rfl ?_
  refine x_bipush rfl dX5_readPerson_22 ?_
  obtain ⟨H8, g7, h⟩ := hp_b1_e h
  refine x_ivv (As := [.int (hp_I 44)]) (ok_X5_readSign hG 44 H6 (hp_rc rfl) rH6 _ g7) cal_X5_readSign (sc_13 hG) (by decide) (C := RX5) (T := TX5) (N := 5) rfl rfl ins_X5_readSign sel_X5_readSign wm_361 (by decide) rfl rfl (Nat.le_of_ble_eq_true rfl) dX5_readPerson_24 (fun z9 => ?_)
  have rH8 := z9
  refine x_aload_n dX5_readPerson_27 2 rfl ?_
  refine x_iconst dX5_readPerson_28 ?_
  refine x_aload_n dX5_readPerson_29 3 rfl ?_
  refine x_gi 0 0 rfl (tw_0 (tw_at22 hG)) (tw_p (tw_at22 hG)) (C := RX6) (T := TX6) (N := 12) rfl in_X6 (by decide) rfl wf_69 dX5_readPerson_30 ?_
  refine x_iconst dX5_readPerson_33 ?_
  refine x_isub dX5_readPerson_34 ?_
  obtain ⟨c10, H11, g9, h⟩ := hp_b2_e h
  refine x_ivi (As := [.int (hp_I 0), .int (hp_I (hp_w ((H8 22 0) - 1)))]) (ok_X5_readNumber hG 0 (hp_w ((H8 22 0) - 1)) H8 (hp_rc rfl) (hp_rw _) rH8 _ g9) cal_X5_readNumber (sc_13 hG) (by decide) (C := RX5) (T := TX5) (N := 5) rfl rfl ins_X5_readNumber sel_X5_readNumber wm_373 (by decide) rfl rfl (Nat.le_of_ble_eq_true rfl) dX5_readPerson_35 (fun z9 => ?_)
  obtain ⟨rc10, rH11⟩ := z9
  refine x_istore (L' := [(4, .int (hp_I c10)), (3, .int (hp_I c5)), (2, .int (hp_I c2)), (0, .ref (hp_ad G 13)), (1, .ref (hp_ad G 22))]) dX5_readPerson_38 (by decide) rfl ?_
  refine x_aload_n dX5_readPerson_40 3 rfl ?_
  refine x_bipush rfl dX5_readPerson_41 ?_
  obtain ⟨H13, g12, h⟩ := hp_b1_e h
  refine x_ivv (As := [.int (hp_I 44)]) (ok_X5_readSign hG 44 H11 (hp_rc rfl) rH11 _ g12) cal_X5_readSign (sc_13 hG) (by decide) (C := RX5) (T := TX5) (N := 5) rfl rfl ins_X5_readSign sel_X5_readSign wm_361 (by decide) rfl rfl (Nat.le_of_ble_eq_true rfl) dX5_readPerson_43 (fun z9 => ?_)
  have rH13 := z9
  refine x_aload_n dX5_readPerson_46 3 rfl ?_
  refine x_iconst dX5_readPerson_47 ?_
  refine x_bipush rfl dX5_readPerson_48 ?_
  obtain ⟨c15, H16, g14, h⟩ := hp_b2_e h
  refine x_ivi (As := [.int (hp_I 0), .int (hp_I 23)]) (ok_X5_readNumber hG 0 23 H13 (hp_rc rfl) (hp_rc rfl) rH13 _ g14) cal_X5_readNumber (sc_13 hG) (by decide) (C := RX5) (T := TX5) (N := 5) rfl rfl ins_X5_readNumber sel_X5_readNumber wm_373 (by decide) rfl rfl (Nat.le_of_ble_eq_true rfl) dX5_readPerson_50 (fun z9 => ?_)
  obtain ⟨rc15, rH16⟩ := z9
  refine x_istore (L' := [(5, .int (hp_I c15)), (4, .int (hp_I c10)), (3, .int (hp_I c5)), (2, .int (hp_I c2)), (0, .ref (hp_ad G 13)), (1, .ref (hp_ad G 22))]) dX5_readPerson_53 (by decide) rfl ?_
  refine x_aload_n dX5_readPerson_55 4 rfl ?_
  refine x_bipush rfl dX5_readPerson_56 ?_
  obtain ⟨H18, g17, h⟩ := hp_b1_e h
  refine x_ivv (As := [.int (hp_I 59)]) (ok_X5_readSign hG 59 H16 (hp_rc rfl) rH16 _ g17) cal_X5_readSign (sc_13 hG) (by decide) (C := RX5) (T := TX5) (N := 5) rfl rfl ins_X5_readSign sel_X5_readSign wm_361 (by decide) rfl rfl (Nat.le_of_ble_eq_true rfl) dX5_readPerson_58 (fun z9 => ?_)
  have rH18 := z9
  refine x_aload_n dX5_readPerson_61 4 rfl ?_
  refine x_gi 3 3 rfl (sc_13 hG) (by decide) (C := RX5) (T := TX5) (N := 5) rfl in_X5 (by decide) rfl wf_49 dX5_readPerson_62 ?_
  refine x_ifne (tgt := 78) dX5_readPerson_65 (by decide) (rH18 _ _) (fun hc19 => ?_) (fun hc19 => ?_)
  · replace h := hp_if hc19 h
    cases h
    exact x_vret rH18 dX5_readPerson_78
  · replace h := hp_it hc19 h
    refine x_aload_n dX5_readPerson_68 5 rfl ?_
    refine x_iload_n dX5_readPerson_69 3 rfl ?_
    refine x_iload_n dX5_readPerson_70 2 rfl ?_
    refine x_iload dX5_readPerson_71 1 rfl ?_
    refine x_iload dX5_readPerson_73 0 rfl ?_
    obtain ⟨H21, g20, h⟩ := hp_b1_e h
    refine x_ivv (As := [.int (hp_I c2), .int (hp_I c5), .int (hp_I c10), .int (hp_I c15)]) (ok_X6_settle hG 22 c2 c5 c10 c15 H18 (tw_at22 hG) rc2 rc5 rc10 rc15 rH18 _ g20) cal_X6_settle (tw_0 (tw_at22 hG)) (tw_p (tw_at22 hG)) (C := RX6) (T := TX6) (N := 12) rfl rfl ins_X6_settle sel_X6_settle wm_392 (by decide) rfl rfl (Nat.le_of_ble_eq_true rfl) dX5_readPerson_75 (fun z9 => ?_)
    have rH21 := z9
    cases h
    exact x_vret rH21 dX5_readPerson_78
set_option maxRecDepth 100000 in
theorem ok_X5_read_61 {G : hp_G} (hG : hp_sh G = hp_shc) {l : Launch} {vv : Option Value} {H' : hp_H} {Z : Prop} : ∀ (n : Nat) (v2 : Int) (H : hp_H), hp_r v2 → hp_in H → ∀ Hm : hp_H, f_X5_read_61 n v2 H = some Hm → (hp_in Hm → hp_R G l cX5_read 3 (some .int) "HeelPost$Tape" (hp_rm 4) vv H' Z 96 [(0, .ref (hp_ad G 13))] [] Hm) → hp_R G l cX5_read 3 (some .int) "HeelPost$Tape" (hp_rm 4) vv H' Z 61 [(0, .ref (hp_ad G 13)), (1, .ref (hp_ad G 22)), (2, .int (hp_I v2))] [] H := by
  intro n
  induction n with
  | zero =>
    intro v2 H r2 rH Hm h kx
    exact hp_no h
  | succ n ih =>
    intro v2 H r2 rH Hm h kx
    unfold f_X5_read_61 at h
    refine x_iload_n dX5_read_61 2 rfl ?_
    refine x_bipush rfl dX5_read_62 ?_
    refine x_icgt (tgt := 96) dX5_read_64 (by decide) r2 (hp_rc rfl) (fun hc21 => ?_) (fun hc21 => ?_)
    · replace h := hp_it hc21 h
      cases h
      exact x_sub [0] rfl (kx rH)
    · replace h := hp_if hc21 h
      refine x_aload_n dX5_read_67 0 rfl ?_
      refine x_gi 3 3 rfl (sc_13 hG) (by decide) (C := RX5) (T := TX5) (N := 5) rfl in_X5 (by decide) rfl wf_49 dX5_read_68 ?_
      refine x_ifne (tgt := 96) dX5_read_71 (by decide) (rH _ _) (fun hc22 => ?_) (fun hc22 => ?_)
      · replace h := hp_if hc22 h
        cases h
        exact x_sub [0] rfl (kx rH)
      · replace h := hp_it hc22 h
        refine x_aload_n dX5_read_74 0 rfl ?_
        refine x_gi 2 2 rfl (sc_13 hG) (by decide) (C := RX5) (T := TX5) (N := 5) rfl in_X5 (by decide) rfl wf_48 dX5_read_75 ?_
        refine x_aload_n dX5_read_78 0 rfl ?_
        refine x_gi 1 1 rfl (sc_13 hG) (by decide) (C := RX5) (T := TX5) (N := 5) rfl in_X5 (by decide) rfl wf_47 dX5_read_79 ?_
        refine x_icge (tgt := 96) dX5_read_82 (by decide) (rH _ _) (rH _ _) (fun hc23 => ?_) (fun hc23 => ?_)
        · replace h := hp_if hc23 h
          cases h
          exact x_sub [0] rfl (kx rH)
        · replace h := hp_it hc23 h
          refine x_aload_n dX5_read_85 0 rfl ?_
          refine x_aload_n dX5_read_86 1 rfl ?_
          obtain ⟨H25, g24, h⟩ := hp_b1_e h
          refine x_ivv (As := [.ref (hp_ad G 22)]) (ok_X5_readPerson hG H rH _ g24) cal_X5_readPerson (sc_13 hG) (by decide) (C := RX5) (T := TX5) (N := 5) rfl rfl ins_X5_readPerson sel_X5_readPerson wm_381 (by decide) rfl rfl (Nat.le_of_ble_eq_true rfl) dX5_read_87 (fun z9 => ?_)
          have rH25 := z9
          obtain ⟨v2_26, ev2_26⟩ : ∃ z : Int, z = (hp_w (v2 + 1)) := ⟨_, rfl⟩
          replace h := hp_let_e ev2_26 h
          have rv2_26 := hp_re ev2_26 (hp_rw _)
          refine x_iiE (L' := [(2, .int (hp_I v2_26)), (0, .ref (hp_ad G 13)), (1, .ref (hp_ad G 22))]) ev2_26 dX5_read_90 2 rfl (by decide) rfl ?_
          refine x_goto (tgt := 61) dX5_read_93 (by decide) ?_
          exact x_sub [1, 2, 0] rfl (ih v2_26 H25 rv2_26 rH25 _ h kx)
set_option maxRecDepth 100000 in
theorem ok_X5_read {G : hp_G} (hG : hp_sh G = hp_shc) {l : Launch}  (H : hp_H) (rH : hp_in H) (x : Int × hp_H) (h : f_X5_read  H = some x) : hp_M G l yX5_read cX5_read 3 (some .int) (hp_rm 4) [.ref (hp_ad G 13), .ref (hp_ad G 22)] H (some (.int (hp_I x.1))) x.2 (hp_r x.1 ∧ hp_in x.2) := by
  obtain ⟨r, H'⟩ := x
  unfold f_X5_read at h
  refine hp_body "HeelPost$Tape" (by decide) rfl ⟨rfl, rfl⟩ (Nat.le_of_ble_eq_true rfl) ?_
  show hp_R G l cX5_read 3 (some .int) "HeelPost$Tape" (hp_rm 4) (some (.int (hp_I r))) H' (hp_r r ∧ hp_in H') 0 [(0, .ref (hp_ad G 13)), (1, .ref (hp_ad G 22))] [] H
  refine x_aload_n dX5_read_0 0 rfl ?_
  refine x_iconst dX5_read_1 ?_
  obtain ⟨H1, eH1⟩ : ∃ z : hp_H, z = hp_up H 13 2 0 := ⟨_, rfl⟩
  replace h := hp_let_e eH1 h
  have rH1 := hp_ine eH1 (hp_in_up rH (hp_rc rfl))
  refine x_pi 2 2 rfl tyX5 eH1 (sc_13 hG) (by decide) (C := RX5) (T := TX5) (N := 5) rfl in_X5 tyX5_ok nmX5 (by decide) rfl rfl rfl wf_48 dX5_read_2 ?_
  refine x_aload_n dX5_read_5 0 rfl ?_
  refine x_iconst dX5_read_6 ?_
  obtain ⟨H2, eH2⟩ : ∃ z : hp_H, z = hp_up H1 13 3 0 := ⟨_, rfl⟩
  replace h := hp_let_e eH2 h
  have rH2 := hp_ine eH2 (hp_in_up rH1 (hp_rc rfl))
  refine x_pi 3 3 rfl tyX5 eH2 (sc_13 hG) (by decide) (C := RX5) (T := TX5) (N := 5) rfl in_X5 tyX5_ok nmX5 (by decide) rfl rfl rfl wf_49 dX5_read_7 ?_
  refine x_aload_n dX5_read_10 1 rfl ?_
  obtain ⟨H4, g3, h⟩ := hp_b1_e h
  refine x_ivv (As := []) (ok_X6_clear hG 22 H2 (tw_at22 hG) rH2 _ g3) cal_X6_clear (tw_0 (tw_at22 hG)) (tw_p (tw_at22 hG)) (C := RX6) (T := TX6) (N := 12) rfl rfl ins_X6_clear sel_X6_clear wm_357 (by decide) rfl rfl (Nat.le_of_ble_eq_true rfl) dX5_read_11 (fun z9 => ?_)
  have rH4 := z9
  refine x_aload_n dX5_read_14 0 rfl ?_
  refine x_bipush rfl dX5_read_15 ?_
  obtain ⟨H6, g5, h⟩ := hp_b1_e h
  refine x_ivv (As := [.int (hp_I 116)]) (ok_X5_readSign hG 116 H4 (hp_rc rfl) rH4 _ g5) cal_X5_readSign (sc_13 hG) (by decide) (C := RX5) (T := TX5) (N := 5) rfl rfl ins_X5_readSign sel_X5_readSign wm_361 (by decide) rfl rfl (Nat.le_of_ble_eq_true rfl) dX5_read_17 (fun z9 => ?_)
  have rH6 := z9
  refine x_aload_n dX5_read_20 1 rfl ?_
  refine x_aload_n dX5_read_21 0 rfl ?_
  refine x_iconst dX5_read_22 ?_
  refine x_bipush rfl dX5_read_23 ?_
  obtain ⟨c8, H9, g7, h⟩ := hp_b2_e h
  refine x_ivi (As := [.int (hp_I 2), .int (hp_I 9)]) (ok_X5_readNumber hG 2 9 H6 (hp_rc rfl) (hp_rc rfl) rH6 _ g7) cal_X5_readNumber (sc_13 hG) (by decide) (C := RX5) (T := TX5) (N := 5) rfl rfl ins_X5_readNumber sel_X5_readNumber wm_373 (by decide) rfl rfl (Nat.le_of_ble_eq_true rfl) dX5_read_25 (fun z9 => ?_)
  obtain ⟨rc8, rH9⟩ := z9
  obtain ⟨H10, eH10⟩ : ∃ z : hp_H, z = hp_up H9 22 0 c8 := ⟨_, rfl⟩
  replace h := hp_let_e eH10 h
  have rH10 := hp_ine eH10 (hp_in_up rH9 rc8)
  refine x_pi 0 0 rfl tyX6 eH10 (tw_0 (tw_at22 hG)) (tw_p (tw_at22 hG)) (C := RX6) (T := TX6) (N := 12) rfl in_X6 tyX6_ok nmX6 (by decide) rfl rfl rfl wf_69 dX5_read_28 ?_
  refine x_aload_n dX5_read_31 0 rfl ?_
  refine x_bipush rfl dX5_read_32 ?_
  obtain ⟨H12, g11, h⟩ := hp_b1_e h
  refine x_ivv (As := [.int (hp_I 44)]) (ok_X5_readSign hG 44 H10 (hp_rc rfl) rH10 _ g11) cal_X5_readSign (sc_13 hG) (by decide) (C := RX5) (T := TX5) (N := 5) rfl rfl ins_X5_readSign sel_X5_readSign wm_361 (by decide) rfl rfl (Nat.le_of_ble_eq_true rfl) dX5_read_34 (fun z9 => ?_)
  have rH12 := z9
  refine x_aload_n dX5_read_37 1 rfl ?_
  refine x_aload_n dX5_read_38 0 rfl ?_
  refine x_iconst dX5_read_39 ?_
  refine x_bipush rfl dX5_read_40 ?_
  obtain ⟨c14, H15, g13, h⟩ := hp_b2_e h
  refine x_ivi (As := [.int (hp_I 4), .int (hp_I 24)]) (ok_X5_readNumber hG 4 24 H12 (hp_rc rfl) (hp_rc rfl) rH12 _ g13) cal_X5_readNumber (sc_13 hG) (by decide) (C := RX5) (T := TX5) (N := 5) rfl rfl ins_X5_readNumber sel_X5_readNumber wm_373 (by decide) rfl rfl (Nat.le_of_ble_eq_true rfl) dX5_read_42 (fun z9 => ?_)
  obtain ⟨rc14, rH15⟩ := z9
  obtain ⟨H16, eH16⟩ : ∃ z : hp_H, z = hp_up H15 22 1 c14 := ⟨_, rfl⟩
  replace h := hp_let_e eH16 h
  have rH16 := hp_ine eH16 (hp_in_up rH15 rc14)
  refine x_pi 1 1 rfl tyX6 eH16 (tw_0 (tw_at22 hG)) (tw_p (tw_at22 hG)) (C := RX6) (T := TX6) (N := 12) rfl in_X6 tyX6_ok nmX6 (by decide) rfl rfl rfl wf_73 dX5_read_45 ?_
  refine x_aload_n dX5_read_48 0 rfl ?_
  refine x_bipush rfl dX5_read_49 ?_
  obtain ⟨H18, g17, h⟩ := hp_b1_e h
  refine x_ivv (As := [.int (hp_I 59)]) (ok_X5_readSign hG 59 H16 (hp_rc rfl) rH16 _ g17) cal_X5_readSign (sc_13 hG) (by decide) (C := RX5) (T := TX5) (N := 5) rfl rfl ins_X5_readSign sel_X5_readSign wm_361 (by decide) rfl rfl (Nat.le_of_ble_eq_true rfl) dX5_read_51 (fun z9 => ?_)
  have rH18 := z9
  refine x_aload_n dX5_read_54 0 rfl ?_
  refine x_aload_n dX5_read_55 1 rfl ?_
  obtain ⟨H20, g19, h⟩ := hp_b1_e h
  refine x_ivv (As := [.ref (hp_ad G 22)]) (ok_X5_readPerson hG H18 rH18 _ g19) cal_X5_readPerson (sc_13 hG) (by decide) (C := RX5) (T := TX5) (N := 5) rfl rfl ins_X5_readPerson sel_X5_readPerson wm_381 (by decide) rfl rfl (Nat.le_of_ble_eq_true rfl) dX5_read_56 (fun z9 => ?_)
  have rH20 := z9
  refine x_iconst dX5_read_59 ?_
  refine x_istore_n (L' := [(2, .int (hp_I 1)), (0, .ref (hp_ad G 13)), (1, .ref (hp_ad G 22))]) dX5_read_60 rfl (by decide) rfl ?_
  obtain ⟨H27, g28, h⟩ := hp_b1_e h
  refine x_sub [1, 2, 0] rfl (ok_X5_read_61 hG 1000 1 H20 (hp_rc rfl) rH20 _ g28 ?_)
  intro rH27
  refine x_aload_n dX5_read_96 0 rfl ?_
  refine x_gi 3 3 rfl (sc_13 hG) (by decide) (C := RX5) (T := TX5) (N := 5) rfl in_X5 (by decide) rfl wf_49 dX5_read_97 ?_
  cases h
  exact x_iret ⟨(rH27 _ _), rH27⟩ dX5_read_100
