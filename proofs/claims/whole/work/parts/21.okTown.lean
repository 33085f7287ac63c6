/-! the bytecode does what the functions say: made by program (wip/whole/gen.py) -/
set_option maxRecDepth 100000 in
theorem ok_X6_takeLetters_18 {G : hp_G} (hG : hp_sh G = hp_shc) {l : Launch} {vv : Option Value} {H' : hp_H} {Z : Prop} : ∀ (n : Nat) (t : Int) (u : Int) (v2 : Int) (H : hp_H), hp_tw G t → hp_tw G u → hp_r v2 → hp_in H → ∀ Hm : hp_H, f_X6_takeLetters_18 n t u v2 H = some Hm → (hp_in Hm → hp_R G l cX6_takeLetters 3 none "HeelPost$Town" (hp_rm 0) vv H' Z 53 [] [] Hm) → hp_R G l cX6_takeLetters 3 none "HeelPost$Town" (hp_rm 0) vv H' Z 18 [(0, .ref (hp_ad G t)), (1, .ref (hp_ad G u)), (2, .int (hp_I v2))] [] H := by
  intro n
  induction n with
  | zero =>
    intro t u v2 H ht hu r2 rH Hm h kx
    exact hp_no h
  | succ n ih =>
    intro t u v2 H ht hu r2 rH Hm h kx
    unfold f_X6_takeLetters_18 at h
    refine x_iload_n dX6_takeLetters_18 2 rfl ?_
    refine x_iconst dX6_takeLetters_19 ?_
    refine x_icge (tgt := 53) dX6_takeLetters_20 (by decide) r2 (hp_rc rfl) (fun hc3 => ?_) (fun hc3 => ?_)
    · replace h := hp_if hc3 h
      cases h
      exact x_sub [] rfl (kx rH)
    · replace h := hp_it hc3 h
      refine x_aload_n dX6_takeLetters_23 0 rfl ?_
      refine x_getr 10 (tw_0 ht) (tw_p ht) (C := RX6) (T := TX6) (N := 12) rfl in_X6 (by decide) rfl wf_102 dX6_takeLetters_24 ?_
      refine x_iload_n dX6_takeLetters_27 2 rfl ?_
      refine x_aload_n dX6_takeLetters_28 1 rfl ?_
      refine x_getr 10 (tw_0 hu) (tw_p hu) (C := RX6) (T := TX6) (N := 12) rfl in_X6 (by decide) rfl wf_102 dX6_takeLetters_29 ?_
      refine x_iload_n dX6_takeLetters_32 2 rfl ?_
      obtain ⟨b4, h⟩ := hp_ck_e h
      refine x_ia 4 rfl (tw_5 hu) (tw_p5 hu) (Nat.le_of_ble_eq_true rfl) b4 dX6_takeLetters_33 ?_
      obtain ⟨H5, eH5⟩ : ∃ z : hp_H, z = hp_up H (t + 5) v2 (H (u + 5) v2) := ⟨_, rfl⟩
      replace h := hp_let_e eH5 h
      have rH5 := hp_ine eH5 (hp_in_up rH (rH _ _))
      refine x_ias 4 rfl eH5 (tw_5 ht) (tw_p5 ht) (Nat.le_of_ble_eq_true rfl) b4 dX6_takeLetters_34 ?_
      refine x_aload_n dX6_takeLetters_35 0 rfl ?_
      refine x_getr 11 (tw_0 ht) (tw_p ht) (C := RX6) (T := TX6) (N := 12) rfl in_X6 (by decide) rfl wf_106 dX6_takeLetters_36 ?_
      refine x_iload_n dX6_takeLetters_39 2 rfl ?_
      refine x_aload_n dX6_takeLetters_40 1 rfl ?_
      refine x_getr 11 (tw_0 hu) (tw_p hu) (C := RX6) (T := TX6) (N := 12) rfl in_X6 (by decide) rfl wf_106 dX6_takeLetters_41 ?_
      refine x_iload_n dX6_takeLetters_44 2 rfl ?_
      refine x_ia 4 rfl (tw_6 hu) (tw_p6 hu) (Nat.le_of_ble_eq_true rfl) b4 dX6_takeLetters_45 ?_
      obtain ⟨H6, eH6⟩ : ∃ z : hp_H, z = hp_up H5 (t + 6) v2 (H5 (u + 6) v2) := ⟨_, rfl⟩
      replace h := hp_let_e eH6 h
      have rH6 := hp_ine eH6 (hp_in_up rH5 (rH5 _ _))
      refine x_ias 4 rfl eH6 (tw_6 ht) (tw_p6 ht) (Nat.le_of_ble_eq_true rfl) b4 dX6_takeLetters_46 ?_
      obtain ⟨v2_7, ev2_7⟩ : ∃ z : Int, z = (hp_w (v2 + 1)) := ⟨_, rfl⟩
      replace h := hp_let_e ev2_7 h
      have rv2_7 := hp_re ev2_7 (hp_rw _)
      refine x_iiE (L' := [(2, .int (hp_I v2_7)), (0, .ref (hp_ad G t)), (1, .ref (hp_ad G u))]) ev2_7 dX6_takeLetters_47 2 rfl (by decide) rfl ?_
      refine x_goto (tgt := 18) dX6_takeLetters_50 (by decide) ?_
      exact x_sub [1, 2, 0] rfl (ih t u v2_7 H6 ht hu rv2_7 rH6 _ h kx)
set_option maxRecDepth 100000 in
theorem ok_X6_takeLetters {G : hp_G} (hG : hp_sh G = hp_shc) {l : Launch} (t : Int) (u : Int) (H : hp_H) (ht : hp_tw G t) (hu : hp_tw G u) (rH : hp_in H) (H' : hp_H) (h : f_X6_takeLetters t u H = some H') : hp_M G l yX6_takeLetters cX6_takeLetters 3 none (hp_rm 0) [.ref (hp_ad G t), .ref (hp_ad G u)] H none H' (hp_in H') := by
  unfold f_X6_takeLetters at h
  refine hp_body "HeelPost$Town" (by decide) rfl ⟨rfl, rfl⟩ (Nat.le_of_ble_eq_true rfl) ?_
  show hp_R G l cX6_takeLetters 3 none "HeelPost$Town" (hp_rm 0) none H' (hp_in H') 0 [(0, .ref (hp_ad G t)), (1, .ref (hp_ad G u))] [] H
  refine x_aload_n dX6_takeLetters_0 0 rfl ?_
  refine x_aload_n dX6_takeLetters_1 1 rfl ?_
  refine x_gi 3 3 rfl (tw_0 hu) (tw_p hu) (C := RX6) (T := TX6) (N := 12) rfl in_X6 (by decide) rfl wf_81 dX6_takeLetters_2 ?_
  obtain ⟨H1, eH1⟩ : ∃ z : hp_H, z = hp_up H t 3 (H u 3) := ⟨_, rfl⟩
  replace h := hp_let_e eH1 h
  have rH1 := hp_ine eH1 (hp_in_up rH (rH _ _))
  refine x_pi 3 3 rfl tyX6 eH1 (tw_0 ht) (tw_p ht) (C := RX6) (T := TX6) (N := 12) rfl in_X6 tyX6_ok nmX6 (by decide) rfl rfl rfl wf_81 dX6_takeLetters_5 ?_
  refine x_aload_n dX6_takeLetters_8 0 rfl ?_
  refine x_aload_n dX6_takeLetters_9 1 rfl ?_
  refine x_gi 4 4 rfl (tw_0 hu) (tw_p hu) (C := RX6) (T := TX6) (N := 12) rfl in_X6 (by decide) rfl wf_83 dX6_takeLetters_10 ?_
  obtain ⟨H2, eH2⟩ : ∃ z : hp_H, z = hp_up H1 t 4 (H1 u 4) := ⟨_, rfl⟩
  replace h := hp_let_e eH2 h
  have rH2 := hp_ine eH2 (hp_in_up rH1 (rH1 _ _))
  refine x_pi 4 4 rfl tyX6 eH2 (tw_0 ht) (tw_p ht) (C := RX6) (T := TX6) (N := 12) rfl in_X6 tyX6_ok nmX6 (by decide) rfl rfl rfl wf_83 dX6_takeLetters_13 ?_
  refine x_iconst dX6_takeLetters_16 ?_
  refine x_istore_n (L' := [(2, .int (hp_I 0)), (0, .ref (hp_ad G t)), (1, .ref (hp_ad G u))]) dX6_takeLetters_17 rfl (by decide) rfl ?_
  obtain ⟨H8, g9, h⟩ := hp_b1_e h
  refine x_sub [1, 2, 0] rfl (ok_X6_takeLetters_18 hG 1000 t u 0 H2 ht hu (hp_rc rfl) rH2 _ g9 ?_)
  intro rH8
  cases h
  exact x_vret rH8 dX6_takeLetters_53
set_option maxRecDepth 100000 in
theorem ok_X6_take_34 {G : hp_G} (hG : hp_sh G = hp_shc) {l : Launch} {vv : Option Value} {H' : hp_H} {Z : Prop} : ∀ (n : Nat) (t : Int) (u : Int) (v2 : Int) (H : hp_H), hp_tw G t → hp_tw G u → hp_r v2 → hp_in H → ∀ Hm : hp_H, f_X6_take_34 n t u v2 H = some Hm → (hp_in Hm → hp_R G l cX6_take 3 none "HeelPost$Town" (hp_rm 1) vv H' Z 94 [(0, .ref (hp_ad G t)), (1, .ref (hp_ad G u))] [] Hm) → hp_R G l cX6_take 3 none "HeelPost$Town" (hp_rm 1) vv H' Z 34 [(0, .ref (hp_ad G t)), (1, .ref (hp_ad G u)), (2, .int (hp_I v2))] [] H := by
  intro n
  induction n with
  | zero =>
    intro t u v2 H ht hu r2 rH Hm h kx
    exact hp_no h
  | succ n ih =>
    intro t u v2 H ht hu r2 rH Hm h kx
    unfold f_X6_take_34 at h
    refine x_iload_n dX6_take_34 2 rfl ?_
    refine x_bipush rfl dX6_take_35 ?_
    refine x_icge (tgt := 94) dX6_take_37 (by decide) r2 (hp_rc rfl) (fun hc5 => ?_) (fun hc5 => ?_)
    · replace h := hp_if hc5 h
      cases h
      exact x_sub [0, 1] rfl (kx rH)
    · replace h := hp_it hc5 h
      refine x_aload_n dX6_take_40 0 rfl ?_
      refine x_getr 6 (tw_0 ht) (tw_p ht) (C := RX6) (T := TX6) (N := 12) rfl in_X6 (by decide) rfl wf_89 dX6_take_41 ?_
      refine x_iload_n dX6_take_44 2 rfl ?_
      refine x_aload_n dX6_take_45 1 rfl ?_
      refine x_getr 6 (tw_0 hu) (tw_p hu) (C := RX6) (T := TX6) (N := 12) rfl in_X6 (by decide) rfl wf_89 dX6_take_46 ?_
      refine x_iload_n dX6_take_49 2 rfl ?_
      obtain ⟨b6, h⟩ := hp_ck_e h
      refine x_ia 6 rfl (tw_1 hu) (tw_p1 hu) (Nat.le_of_ble_eq_true rfl) b6 dX6_take_50 ?_
      obtain ⟨H7, eH7⟩ : ∃ z : hp_H, z = hp_up H (t + 1) v2 (H (u + 1) v2) := ⟨_, rfl⟩
      replace h := hp_let_e eH7 h
      have rH7 := hp_ine eH7 (hp_in_up rH (rH _ _))
      refine x_ias 6 rfl eH7 (tw_1 ht) (tw_p1 ht) (Nat.le_of_ble_eq_true rfl) b6 dX6_take_51 ?_
      refine x_aload_n dX6_take_52 0 rfl ?_
      refine x_getr 7 (tw_0 ht) (tw_p ht) (C := RX6) (T := TX6) (N := 12) rfl in_X6 (by decide) rfl wf_94 dX6_take_53 ?_
      refine x_iload_n dX6_take_56 2 rfl ?_
      refine x_aload_n dX6_take_57 1 rfl ?_
      refine x_getr 7 (tw_0 hu) (tw_p hu) (C := RX6) (T := TX6) (N := 12) rfl in_X6 (by decide) rfl wf_94 dX6_take_58 ?_
      refine x_iload_n dX6_take_61 2 rfl ?_
      refine x_ia 6 rfl (tw_2 hu) (tw_p2 hu) (Nat.le_of_ble_eq_true rfl) b6 dX6_take_62 ?_
      obtain ⟨H8, eH8⟩ : ∃ z : hp_H, z = hp_up H7 (t + 2) v2 (H7 (u + 2) v2) := ⟨_, rfl⟩
      replace h := hp_let_e eH8 h
      have rH8 := hp_ine eH8 (hp_in_up rH7 (rH7 _ _))
      refine x_ias 6 rfl eH8 (tw_2 ht) (tw_p2 ht) (Nat.le_of_ble_eq_true rfl) b6 dX6_take_63 ?_
      refine x_aload_n dX6_take_64 0 rfl ?_
      refine x_getr 8 (tw_0 ht) (tw_p ht) (C := RX6) (T := TX6) (N := 12) rfl in_X6 (by decide) rfl wf_96 dX6_take_65 ?_
      refine x_iload_n dX6_take_68 2 rfl ?_
      refine x_aload_n dX6_take_69 1 rfl ?_
      refine x_getr 8 (tw_0 hu) (tw_p hu) (C := RX6) (T := TX6) (N := 12) rfl in_X6 (by decide) rfl wf_96 dX6_take_70 ?_
      refine x_iload_n dX6_take_73 2 rfl ?_
      refine x_ia 6 rfl (tw_3 hu) (tw_p3 hu) (Nat.le_of_ble_eq_true rfl) b6 dX6_take_74 ?_
      obtain ⟨H9, eH9⟩ : ∃ z : hp_H, z = hp_up H8 (t + 3) v2 (H8 (u + 3) v2) := ⟨_, rfl⟩
      replace h := hp_let_e eH9 h
      have rH9 := hp_ine eH9 (hp_in_up rH8 (rH8 _ _))
      refine x_ias 6 rfl eH9 (tw_3 ht) (tw_p3 ht) (Nat.le_of_ble_eq_true rfl) b6 dX6_take_75 ?_
      refine x_aload_n dX6_take_76 0 rfl ?_
      refine x_getr 9 (tw_0 ht) (tw_p ht) (C := RX6) (T := TX6) (N := 12) rfl in_X6 (by decide) rfl wf_98 dX6_take_77 ?_
      refine x_iload_n dX6_take_80 2 rfl ?_
      refine x_aload_n dX6_take_81 1 rfl ?_
      refine x_getr 9 (tw_0 hu) (tw_p hu) (C := RX6) (T := TX6) (N := 12) rfl in_X6 (by decide) rfl wf_98 dX6_take_82 ?_
      refine x_iload_n dX6_take_85 2 rfl ?_
      refine x_ia 6 rfl (tw_4 hu) (tw_p4 hu) (Nat.le_of_ble_eq_true rfl) b6 dX6_take_86 ?_
      obtain ⟨H10, eH10⟩ : ∃ z : hp_H, z = hp_up H9 (t + 4) v2 (H9 (u + 4) v2) := ⟨_, rfl⟩
      replace h := hp_let_e eH10 h
      have rH10 := hp_ine eH10 (hp_in_up rH9 (rH9 _ _))
      refine x_ias 6 rfl eH10 (tw_4 ht) (tw_p4 ht) (Nat.le_of_ble_eq_true rfl) b6 dX6_take_87 ?_
      obtain ⟨v2_11, ev2_11⟩ : ∃ z : Int, z = (hp_w (v2 + 1)) := ⟨_, rfl⟩
      replace h := hp_let_e ev2_11 h
      have rv2_11 := hp_re ev2_11 (hp_rw _)
      refine x_iiE (L' := [(2, .int (hp_I v2_11)), (0, .ref (hp_ad G t)), (1, .ref (hp_ad G u))]) ev2_11 dX6_take_88 2 rfl (by decide) rfl ?_
      refine x_goto (tgt := 34) dX6_take_91 (by decide) ?_
      exact x_sub [1, 2, 0] rfl (ih t u v2_11 H10 ht hu rv2_11 rH10 _ h kx)
set_option maxRecDepth 100000 in
theorem ok_X6_take {G : hp_G} (hG : hp_sh G = hp_shc) {l : Launch} (t : Int) (u : Int) (H : hp_H) (ht : hp_tw G t) (hu : hp_tw G u) (rH : hp_in H) (H' : hp_H) (h : f_X6_take t u H = some H') : hp_M G l yX6_take cX6_take 3 none (hp_rm 1) [.ref (hp_ad G t), .ref (hp_ad G u)] H none H' (hp_in H') := by
  unfold f_X6_take at h
  refine hp_body "HeelPost$Town" (by decide) rfl ⟨rfl, rfl⟩ (Nat.le_of_ble_eq_true rfl) ?_
  show hp_R G l cX6_take 3 none "HeelPost$Town" (hp_rm 1) none H' (hp_in H') 0 [(0, .ref (hp_ad G t)), (1, .ref (hp_ad G u))] [] H
  refine x_aload_n dX6_take_0 0 rfl ?_
  refine x_aload_n dX6_take_1 1 rfl ?_
  refine x_gi 0 0 rfl (tw_0 hu) (tw_p hu) (C := RX6) (T := TX6) (N := 12) rfl in_X6 (by decide) rfl wf_68 dX6_take_2 ?_
  obtain ⟨H1, eH1⟩ : ∃ z : hp_H, z = hp_up H t 0 (H u 0) := ⟨_, rfl⟩
  replace h := hp_let_e eH1 h
  have rH1 := hp_ine eH1 (hp_in_up rH (rH _ _))
  refine x_pi 0 0 rfl tyX6 eH1 (tw_0 ht) (tw_p ht) (C := RX6) (T := TX6) (N := 12) rfl in_X6 tyX6_ok nmX6 (by decide) rfl rfl rfl wf_68 dX6_take_5 ?_
  refine x_aload_n dX6_take_8 0 rfl ?_
  refine x_aload_n dX6_take_9 1 rfl ?_
  refine x_gi 1 1 rfl (tw_0 hu) (tw_p hu) (C := RX6) (T := TX6) (N := 12) rfl in_X6 (by decide) rfl wf_72 dX6_take_10 ?_
  obtain ⟨H2, eH2⟩ : ∃ z : hp_H, z = hp_up H1 t 1 (H1 u 1) := ⟨_, rfl⟩
  replace h := hp_let_e eH2 h
  have rH2 := hp_ine eH2 (hp_in_up rH1 (rH1 _ _))
  refine x_pi 1 1 rfl tyX6 eH2 (tw_0 ht) (tw_p ht) (C := RX6) (T := TX6) (N := 12) rfl in_X6 tyX6_ok nmX6 (by decide) rfl rfl rfl wf_72 dX6_take_13 ?_
  refine x_aload_n dX6_take_16 0 rfl ?_
  refine x_aload_n dX6_take_17 1 rfl ?_
  refine x_gi 2 2 rfl (tw_0 hu) (tw_p hu) (C := RX6) (T := TX6) (N := 12) rfl in_X6 (by decide) rfl wf_76 dX6_take_18 ?_
  obtain ⟨H3, eH3⟩ : ∃ z : hp_H, z = hp_up H2 t 2 (H2 u 2) := ⟨_, rfl⟩
  replace h := hp_let_e eH3 h
  have rH3 := hp_ine eH3 (hp_in_up rH2 (rH2 _ _))
  refine x_pi 2 2 rfl tyX6 eH3 (tw_0 ht) (tw_p ht) (C := RX6) (T := TX6) (N := 12) rfl in_X6 tyX6_ok nmX6 (by decide) rfl rfl rfl wf_76 dX6_take_21 ?_
  refine x_aload_n dX6_take_24 0 rfl ?_
  refine x_aload_n dX6_take_25 1 rfl ?_
  refine x_gi 5 5 rfl (tw_0 hu) (tw_p hu) (C := RX6) (T := TX6) (N := 12) rfl in_X6 (by decide) rfl wf_85 dX6_take_26 ?_
  obtain ⟨H4, eH4⟩ : ∃ z : hp_H, z = hp_up H3 t 5 (H3 u 5) := ⟨_, rfl⟩
  replace h := hp_let_e eH4 h
  have rH4 := hp_ine eH4 (hp_in_up rH3 (rH3 _ _))
  refine x_pi 5 5 rfl tyX6 eH4 (tw_0 ht) (tw_p ht) (C := RX6) (T := TX6) (N := 12) rfl in_X6 tyX6_ok nmX6 (by decide) rfl rfl rfl wf_85 dX6_take_29 ?_
  refine x_iconst dX6_take_32 ?_
  refine x_istore_n (L' := [(2, .int (hp_I 0)), (0, .ref (hp_ad G t)), (1, .ref (hp_ad G u))]) dX6_take_33 rfl (by decide) rfl ?_
  obtain ⟨H12, g13, h⟩ := hp_b1_e h
  refine x_sub [1, 2, 0] rfl (ok_X6_take_34 hG 1000 t u 0 H4 ht hu (hp_rc rfl) rH4 _ g13 ?_)
  intro rH12
  refine x_aload_n dX6_take_94 0 rfl ?_
  refine x_aload_n dX6_take_95 1 rfl ?_
  obtain ⟨H15, g14, h⟩ := hp_b1_e h
  refine x_ivv (As := [.ref (hp_ad G u)]) (ok_X6_takeLetters hG t u H12 ht hu rH12 _ g14) cal_X6_takeLetters (tw_0 ht) (tw_p ht) (C := RX6) (T := TX6) (N := 12) rfl rfl ins_X6_takeLetters sel_X6_takeLetters wm_409 (by decide) rfl rfl (Nat.le_of_ble_eq_true rfl) dX6_take_96 (fun z9 => ?_)
  have rH15 := z9
  cases h
  exact x_vret rH15 dX6_take_99
set_option maxRecDepth 100000 in
theorem ok_X6_isHome {G : hp_G} (hG : hp_sh G = hp_shc) {l : Launch} (t : Int) (v1 : Int) (H : hp_H) (ht : hp_tw G t) (r1 : hp_r v1) (rH : hp_in H) (r : Int) (h : f_X6_isHome t v1 H = some r) : hp_M G l yX6_isHome cX6_isHome 2 (some .boolean) (hp_rm 0) [.ref (hp_ad G t), .int (hp_I v1)] H (some (.int (hp_I r))) H (hp_r r) := by
  unfold f_X6_isHome at h
  refine hp_body "HeelPost$Town" (by decide) rfl ⟨rfl, rfl⟩ (Nat.le_of_ble_eq_true rfl) ?_
  show hp_R G l cX6_isHome 2 (some .boolean) "HeelPost$Town" (hp_rm 0) (some (.int (hp_I r))) H (hp_r r) 0 [(0, .ref (hp_ad G t)), (1, .int (hp_I v1))] [] H
  refine x_aload_n dX6_isHome_0 0 rfl ?_
  refine x_gi 5 5 rfl (tw_0 ht) (tw_p ht) (C := RX6) (T := TX6) (N := 12) rfl in_X6 (by decide) rfl wf_85 dX6_isHome_1 ?_
  refine x_iload_n dX6_isHome_4 1 rfl ?_
  refine x_ishr dX6_isHome_5 ?_
  refine x_iconst dX6_isHome_6 ?_
  refine x_iand dX6_isHome_7 ?_
  refine x_iconst dX6_isHome_8 ?_
  refine x_icne (tgt := 16) dX6_isHome_9 (by decide) (hp_rand _ _) (hp_rc rfl) (fun hc1 => ?_) (fun hc1 => ?_)
  · replace h := hp_if hc1 h
    refine x_iconst dX6_isHome_16 ?_
    cases h
    exact x_zret (hp_rc rfl) (Or.inl rfl) dX6_isHome_17
  · replace h := hp_it hc1 h
    refine x_iconst dX6_isHome_12 ?_
    refine x_goto (tgt := 17) dX6_isHome_13 (by decide) ?_
    cases h
    exact x_zret (hp_rc rfl) (Or.inr rfl) dX6_isHome_17
set_option maxRecDepth 100000 in
theorem ok_X6_stepsOf {G : hp_G} (hG : hp_sh G = hp_shc) {l : Launch} (v0 : Int) (v1 : Int) (v2 : Int) (H : hp_H) (r0 : hp_r v0) (r1 : hp_r v1) (r2 : hp_r v2) (rH : hp_in H) (r : Int) (h : f_X6_stepsOf v0 v1 v2 H = some r) : hp_M G l yX6_stepsOf cX6_stepsOf 3 (some .int) (hp_rm 0) [.int (hp_I v0), .int (hp_I v1), .int (hp_I v2)] H (some (.int (hp_I r))) H (hp_r r) := by
  unfold f_X6_stepsOf at h
  refine hp_body "HeelPost$Town" (by decide) rfl ⟨rfl, rfl⟩ (Nat.le_of_ble_eq_true rfl) ?_
  show hp_R G l cX6_stepsOf 3 (some .int) "HeelPost$Town" (hp_rm 0) (some (.int (hp_I r))) H (hp_r r) 0 [(0, .int (hp_I v0)), (1, .int (hp_I v1)), (2, .int (hp_I v2))] [] H
  refine x_iload_n dX6_stepsOf_0 0 rfl ?_
  by_cases hc1 : v0 = 3
  · replace h := hp_it hc1 h
    refine x_tabin (tgt := 28) 3 dX6_stepsOf_1 r0 hc1 (by decide) (by decide) rfl (by decide) ?_
    refine x_iload_n dX6_stepsOf_28 1 rfl ?_
    refine x_iconst dX6_stepsOf_29 ?_
    refine x_idiv r1 (hp_rc rfl) (by decide) dX6_stepsOf_30 ?_
    cases h
    exact x_iret (hp_rw _) dX6_stepsOf_31
  replace h := hp_if hc1 h
  by_cases hc2 : v0 = 4
  · replace h := hp_it hc2 h
    refine x_tabin (tgt := 32) 4 dX6_stepsOf_1 r0 hc2 (by decide) (by decide) rfl (by decide) ?_
    refine x_iload_n dX6_stepsOf_32 2 rfl ?_
    refine x_ifeq (tgt := 40) dX6_stepsOf_33 (by decide) r2 (fun hc3 => ?_) (fun hc3 => ?_)
    · replace h := hp_it hc3 h
      refine x_iload_n dX6_stepsOf_40 1 rfl ?_
      cases h
      exact x_iret r1 dX6_stepsOf_41
    · replace h := hp_if hc3 h
      refine x_iconst dX6_stepsOf_36 ?_
      refine x_goto (tgt := 41) dX6_stepsOf_37 (by decide) ?_
      cases h
      exact x_iret (hp_rc rfl) dX6_stepsOf_41
  replace h := hp_if hc2 h
  by_cases hc4 : v0 = 5
  · replace h := hp_it hc4 h
    refine x_tabin (tgt := 42) 5 dX6_stepsOf_1 r0 hc4 (by decide) (by decide) rfl (by decide) ?_
    refine x_iload_n dX6_stepsOf_42 2 rfl ?_
    refine x_ifeq (tgt := 50) dX6_stepsOf_43 (by decide) r2 (fun hc5 => ?_) (fun hc5 => ?_)
    · replace h := hp_it hc5 h
      refine x_iconst dX6_stepsOf_50 ?_
      refine x_iload_n dX6_stepsOf_51 1 rfl ?_
      refine x_imul dX6_stepsOf_52 ?_
      cases h
      exact x_iret (hp_rw _) dX6_stepsOf_53
    · replace h := hp_if hc5 h
      refine x_iconst dX6_stepsOf_46 ?_
      refine x_goto (tgt := 53) dX6_stepsOf_47 (by decide) ?_
      cases h
      exact x_iret (hp_rc rfl) dX6_stepsOf_53
  replace h := hp_if hc4 h
  have kd : hp_R G l cX6_stepsOf 3 (some .int) "HeelPost$Town" (hp_rm 0) (some (.int (hp_I r))) H (hp_r r) 54 [(0, .int (hp_I v0)), (1, .int (hp_I v1)), (2, .int (hp_I v2))] [] H := by
    refine x_iload_n dX6_stepsOf_54 1 rfl ?_
    cases h
    exact x_iret r1 dX6_stepsOf_55
  exact x_tabout (tgt := 54) dX6_stepsOf_1 r0 (by omega) (by decide) kd
set_option maxRecDepth 100000 in
theorem ok_X6_placeOnErrand {G : hp_G} (hG : hp_sh G = hp_shc) {l : Launch} (t : Int) (v1 : Int) (v2 : Int) (H : hp_H) (ht : hp_tw G t) (r1 : hp_r v1) (r2 : hp_r v2) (rH : hp_in H) (r : Int) (h : f_X6_placeOnErrand t v1 v2 H = some r) : hp_M G l yX6_placeOnErrand cX6_placeOnErrand 7 (some .int) (hp_rm 1) [.ref (hp_ad G t), .int (hp_I v1), .int (hp_I v2)] H (some (.int (hp_I r))) H (hp_r r) := by
  unfold f_X6_placeOnErrand at h
  refine hp_body "HeelPost$Town" (by decide) rfl ⟨rfl, rfl⟩ (Nat.le_of_ble_eq_true rfl) ?_
  show hp_R G l cX6_placeOnErrand 7 (some .int) "HeelPost$Town" (hp_rm 1) (some (.int (hp_I r))) H (hp_r r) 0 [(0, .ref (hp_ad G t)), (1, .int (hp_I v1)), (2, .int (hp_I v2))] [] H
  refine x_aload_n dX6_placeOnErrand_0 0 rfl ?_
  refine x_gi 1 1 rfl (tw_0 ht) (tw_p ht) (C := RX6) (T := TX6) (N := 12) rfl in_X6 (by decide) rfl wf_72 dX6_placeOnErrand_1 ?_
  refine x_iconst dX6_placeOnErrand_4 ?_
  refine x_icge (tgt := 15) dX6_placeOnErrand_5 (by decide) (rH _ _) (hp_rc rfl) (fun hc1 => ?_) (fun hc1 => ?_)
  · replace h := hp_if hc1 h
    refine x_iload_n dX6_placeOnErrand_15 2 rfl ?_
    refine x_aload_n dX6_placeOnErrand_16 0 rfl ?_
    refine x_gi 1 1 rfl (tw_0 ht) (tw_p ht) (C := RX6) (T := TX6) (N := 12) rfl in_X6 (by decide) rfl wf_72 dX6_placeOnErrand_17 ?_
    obtain ⟨b3, h⟩ := hp_ck_e h
    refine x_irem r2 (rH _ _) b3 dX6_placeOnErrand_20 ?_
    refine x_aload_n dX6_placeOnErrand_21 0 rfl ?_
    refine x_getr 9 (tw_0 ht) (tw_p ht) (C := RX6) (T := TX6) (N := 12) rfl in_X6 (by decide) rfl wf_98 dX6_placeOnErrand_22 ?_
    refine x_iload_n dX6_placeOnErrand_25 1 rfl ?_
    obtain ⟨b4, h⟩ := hp_ck_e h
    refine x_ia 6 rfl (tw_4 ht) (tw_p4 ht) (Nat.le_of_ble_eq_true rfl) b4 dX6_placeOnErrand_26 ?_
    refine x_isub dX6_placeOnErrand_27 ?_
    refine x_iconst dX6_placeOnErrand_28 ?_
    refine x_max (hp_rw _) (hp_rc rfl) wm_461 stt_max ini_Math cod_max (by decide) (Nat.le_of_ble_eq_true rfl) dX6_placeOnErrand_29 ?_
    obtain ⟨v3_5, ev3_5⟩ : ∃ z : Int, z = (hp_max (hp_w ((Int.tmod v2 (H t 1)) - (H (t + 4) v1))) 0) := ⟨_, rfl⟩
    replace h := hp_let_e ev3_5 h
    have rv3_5 := hp_re ev3_5 (hp_rmax (hp_rw _) (hp_rc rfl))
    refine x_isnE (L' := [(3, .int (hp_I v3_5)), (0, .ref (hp_ad G t)), (1, .int (hp_I v1)), (2, .int (hp_I v2))]) ev3_5 dX6_placeOnErrand_32 rfl (by decide) rfl ?_
    refine x_iload_n dX6_placeOnErrand_33 3 rfl ?_
    refine x_aload_n dX6_placeOnErrand_34 1 rfl ?_
    refine x_gi 1 1 rfl (tw_0 ht) (tw_p ht) (C := RX6) (T := TX6) (N := 12) rfl in_X6 (by decide) rfl wf_72 dX6_placeOnErrand_35 ?_
    refine x_idiv r2 (rH _ _) b3 dX6_placeOnErrand_38 ?_
    refine x_iconst dX6_placeOnErrand_39 ?_
    refine x_irem (hp_rw _) (hp_rc rfl) (by decide) dX6_placeOnErrand_40 ?_
    refine x_iconst dX6_placeOnErrand_41 ?_
    obtain ⟨m6, em6⟩ : ∃ z : Int, z = (if (Int.tmod (hp_w (Int.tdiv v2 (H t 1))) 2) = 1 then 1 else 0) := ⟨_, rfl⟩
    replace h := hp_let_e em6 h
    have rm6 := hp_re em6 (hp_rite (hp_rc rfl) (hp_rc rfl))
    have zm6 : m6 = 0 ∨ m6 = 1 := by rw [em6]; exact (hp_z01 (Or.inr rfl) (Or.inl rfl))
    have kj : hp_R G l cX6_placeOnErrand 7 (some .int) "HeelPost$Town" (hp_rm 1) (some (.int (hp_I r))) H (hp_r r) 50 [(0, .ref (hp_ad G t)), (1, .int (hp_I v1)), (3, .int (hp_I v3_5))] [.int (hp_I m6)] H := by
      refine x_istore (L' := [(4, .int (hp_I m6)), (0, .ref (hp_ad G t)), (1, .int (hp_I v1)), (3, .int (hp_I v3_5))]) dX6_placeOnErrand_50 (by decide) rfl ?_
      refine x_aload_n dX6_placeOnErrand_52 1 rfl ?_
      refine x_getr 8 (tw_0 ht) (tw_p ht) (C := RX6) (T := TX6) (N := 12) rfl in_X6 (by decide) rfl wf_96 dX6_placeOnErrand_53 ?_
      refine x_iload_n dX6_placeOnErrand_56 2 rfl ?_
      refine x_ia 6 rfl (tw_3 ht) (tw_p3 ht) (Nat.le_of_ble_eq_true rfl) b4 dX6_placeOnErrand_57 ?_
      refine x_aload_n dX6_placeOnErrand_58 1 rfl ?_
      refine x_getr 7 (tw_0 ht) (tw_p ht) (C := RX6) (T := TX6) (N := 12) rfl in_X6 (by decide) rfl wf_94 dX6_placeOnErrand_59 ?_
      refine x_iload_n dX6_placeOnErrand_62 2 rfl ?_
      refine x_ia 6 rfl (tw_2 ht) (tw_p2 ht) (Nat.le_of_ble_eq_true rfl) b4 dX6_placeOnErrand_63 ?_
      refine x_isub dX6_placeOnErrand_64 ?_
      obtain ⟨v5_7, ev5_7⟩ : ∃ z : Int, z = (hp_w ((H (t + 3) v1) - (H (t + 2) v1))) := ⟨_, rfl⟩
      replace h := hp_let_e ev5_7 h
      have rv5_7 := hp_re ev5_7 (hp_rw _)
      refine x_isE (L' := [(5, .int (hp_I v5_7)), (4, .int (hp_I m6)), (0, .ref (hp_ad G t)), (1, .int (hp_I v1)), (3, .int (hp_I v3_5))]) ev5_7 dX6_placeOnErrand_65 (by decide) rfl ?_
      refine x_aload_n dX6_placeOnErrand_67 2 rfl ?_
      refine x_getr 6 (tw_0 ht) (tw_p ht) (C := RX6) (T := TX6) (N := 12) rfl in_X6 (by decide) rfl wf_89 dX6_placeOnErrand_68 ?_
      refine x_iload_n dX6_placeOnErrand_71 3 rfl ?_
      refine x_ia 6 rfl (tw_1 ht) (tw_p1 ht) (Nat.le_of_ble_eq_true rfl) b4 dX6_placeOnErrand_72 ?_
      refine x_iload_n dX6_placeOnErrand_73 4 rfl ?_
      refine x_iload dX6_placeOnErrand_74 1 rfl ?_
      obtain ⟨c9, g8, h⟩ := hp_b1_e h
      refine x_isi (As := [.int (hp_I (H (t + 1) v1)), .int (hp_I v3_5), .int (hp_I m6)]) (ok_X6_stepsOf hG (H (t + 1) v1) v3_5 m6 H (rH _ _) rv3_5 rm6 rH _ g8) cal_X6_stepsOf stt_X6_stepsOf wm_462 (by decide) rfl rfl (Nat.le_of_ble_eq_true rfl) dX6_placeOnErrand_76 (fun z9 => ?_)
      have rc9 := z9
      refine x_iload dX6_placeOnErrand_79 0 rfl ?_
      refine x_abs rv5_7 wm_465 stt_abs ini_Math cod_abs (by decide) (Nat.le_of_ble_eq_true rfl) dX6_placeOnErrand_81 ?_
      refine x_min rc9 (hp_rabs rv5_7) wm_468 stt_min ini_Math cod_min (by decide) (Nat.le_of_ble_eq_true rfl) dX6_placeOnErrand_84 ?_
      obtain ⟨v6_10, ev6_10⟩ : ∃ z : Int, z = (hp_min c9 (hp_abs v5_7)) := ⟨_, rfl⟩
      replace h := hp_let_e ev6_10 h
      have rv6_10 := hp_re ev6_10 (hp_rmin rc9 (hp_rabs rv5_7))
      refine x_isE (L' := [(6, .int (hp_I v6_10)), (5, .int (hp_I v5_7)), (4, .int (hp_I m6)), (0, .ref (hp_ad G t)), (1, .int (hp_I v1)), (3, .int (hp_I v3_5))]) ev6_10 dX6_placeOnErrand_87 (by decide) rfl ?_
      refine x_iload dX6_placeOnErrand_89 1 rfl ?_
      refine x_ifge (tgt := 106) dX6_placeOnErrand_91 (by decide) rv5_7 (fun hc11 => ?_) (fun hc11 => ?_)
      · replace h := hp_if hc11 h
        refine x_aload_n dX6_placeOnErrand_106 3 rfl ?_
        refine x_getr 7 (tw_0 ht) (tw_p ht) (C := RX6) (T := TX6) (N := 12) rfl in_X6 (by decide) rfl wf_94 dX6_placeOnErrand_107 ?_
        refine x_iload_n dX6_placeOnErrand_110 4 rfl ?_
        refine x_ia 6 rfl (tw_2 ht) (tw_p2 ht) (Nat.le_of_ble_eq_true rfl) b4 dX6_placeOnErrand_111 ?_
        refine x_iload dX6_placeOnErrand_112 0 rfl ?_
        refine x_iadd dX6_placeOnErrand_114 ?_
        cases h
        exact x_iret (hp_rw _) dX6_placeOnErrand_115
      · replace h := hp_it hc11 h
        refine x_aload_n dX6_placeOnErrand_94 3 rfl ?_
        refine x_getr 7 (tw_0 ht) (tw_p ht) (C := RX6) (T := TX6) (N := 12) rfl in_X6 (by decide) rfl wf_94 dX6_placeOnErrand_95 ?_
        refine x_iload_n dX6_placeOnErrand_98 4 rfl ?_
        refine x_ia 6 rfl (tw_2 ht) (tw_p2 ht) (Nat.le_of_ble_eq_true rfl) b4 dX6_placeOnErrand_99 ?_
        refine x_iload dX6_placeOnErrand_100 0 rfl ?_
        refine x_isub dX6_placeOnErrand_102 ?_
        refine x_goto (tgt := 115) dX6_placeOnErrand_103 (by decide) ?_
        cases h
        exact x_iret (hp_rw _) dX6_placeOnErrand_115
    clear h
    refine x_icne (tgt := 49) dX6_placeOnErrand_42 (by decide) (hp_rrem (hp_rw _)) (hp_rc rfl) (fun hc12 => ?_) (fun hc12 => ?_)
    · refine x_iconst dX6_placeOnErrand_49 ?_
      have q9 := (em6.trans (if_neg hc12))
      subst q9
      exact x_sub [1, 2, 0] rfl kj
    · refine x_iconst dX6_placeOnErrand_45 ?_
      refine x_goto (tgt := 50) dX6_placeOnErrand_46 (by decide) ?_
      have q9 := (em6.trans (if_pos hc12))
      subst q9
      exact x_sub [1, 2, 0] rfl kj
  · replace h := hp_it hc1 h
    refine x_aload_n dX6_placeOnErrand_8 0 rfl ?_
    refine x_getr 7 (tw_0 ht) (tw_p ht) (C := RX6) (T := TX6) (N := 12) rfl in_X6 (by decide) rfl wf_94 dX6_placeOnErrand_9 ?_
    refine x_iload_n dX6_placeOnErrand_12 1 rfl ?_
    obtain ⟨b2, h⟩ := hp_ck_e h
    refine x_ia 6 rfl (tw_2 ht) (tw_p2 ht) (Nat.le_of_ble_eq_true rfl) b2 dX6_placeOnErrand_13 ?_
    cases h
    exact x_iret (rH _ _) dX6_placeOnErrand_14
set_option maxRecDepth 100000 in
theorem ok_X6_whereIs {G : hp_G} (hG : hp_sh G = hp_shc) {l : Launch} (t : Int) (v1 : Int) (v2 : Int) (H : hp_H) (ht : hp_tw G t) (r1 : hp_r v1) (r2 : hp_r v2) (rH : hp_in H) (r : Int) (h : f_X6_whereIs t v1 v2 H = some r) : hp_M G l yX6_whereIs cX6_whereIs 3 (some .int) (hp_rm 2) [.ref (hp_ad G t), .int (hp_I v1), .int (hp_I v2)] H (some (.int (hp_I r))) H (hp_r r) := by
  unfold f_X6_whereIs at h
  refine hp_body "HeelPost$Town" (by decide) rfl ⟨rfl, rfl⟩ (Nat.le_of_ble_eq_true rfl) ?_
  show hp_R G l cX6_whereIs 3 (some .int) "HeelPost$Town" (hp_rm 2) (some (.int (hp_I r))) H (hp_r r) 0 [(0, .ref (hp_ad G t)), (1, .int (hp_I v1)), (2, .int (hp_I v2))] [] H
  refine x_aload_n dX6_whereIs_0 0 rfl ?_
  refine x_iload_n dX6_whereIs_1 1 rfl ?_
  obtain ⟨c2, g1, h⟩ := hp_b1_e h
  refine x_ivi (As := [.int (hp_I v1)]) (ok_X6_isHome hG t v1 H ht r1 rH _ g1) cal_X6_isHome (tw_0 ht) (tw_p ht) (C := RX6) (T := TX6) (N := 12) rfl rfl ins_X6_isHome sel_X6_isHome wm_550 (by decide) rfl rfl (Nat.le_of_ble_eq_true rfl) dX6_whereIs_2 (fun z9 => ?_)
  have rc2 := z9
  refine x_ifeq (tgt := 17) dX6_whereIs_5 (by decide) rc2 (fun hc3 => ?_) (fun hc3 => ?_)
  · replace h := hp_it hc3 h
    refine x_aload_n dX6_whereIs_17 0 rfl ?_
    refine x_iload_n dX6_whereIs_18 1 rfl ?_
    refine x_aload_n dX6_whereIs_19 0 rfl ?_
    refine x_gi 3 3 rfl (tw_0 ht) (tw_p ht) (C := RX6) (T := TX6) (N := 12) rfl in_X6 (by decide) rfl wf_81 dX6_whereIs_20 ?_
    refine x_iload_n dX6_whereIs_23 2 rfl ?_
    refine x_iadd dX6_whereIs_24 ?_
    obtain ⟨c5, g4, h⟩ := hp_b1_e h
    refine x_ivi (As := [.int (hp_I v1), .int (hp_I (hp_w ((H t 3) + v2)))]) (ok_X6_placeOnErrand hG t v1 (hp_w ((H t 3) + v2)) H ht r1 (hp_rw _) rH _ g4) cal_X6_placeOnErrand (tw_0 ht) (tw_p ht) (C := RX6) (T := TX6) (N := 12) rfl rfl ins_X6_placeOnErrand sel_X6_placeOnErrand wm_551 (by decide) rfl rfl (Nat.le_of_ble_eq_true rfl) dX6_whereIs_25 (fun z9 => ?_)
    have rc5 := z9
    cases h
    exact x_iret rc5 dX6_whereIs_28
  · replace h := hp_if hc3 h
    refine x_aload_n dX6_whereIs_8 0 rfl ?_
    refine x_getr 7 (tw_0 ht) (tw_p ht) (C := RX6) (T := TX6) (N := 12) rfl in_X6 (by decide) rfl wf_94 dX6_whereIs_9 ?_
    refine x_iload_n dX6_whereIs_12 1 rfl ?_
    obtain ⟨b6, h⟩ := hp_ck_e h
    refine x_ia 6 rfl (tw_2 ht) (tw_p2 ht) (Nat.le_of_ble_eq_true rfl) b6 dX6_whereIs_13 ?_
    refine x_goto (tgt := 28) dX6_whereIs_14 (by decide) ?_
    cases h
    exact x_iret (rH _ _) dX6_whereIs_28
set_option maxRecDepth 100000 in
theorem ok_X6_isUnderWay {G : hp_G} (hG : hp_sh G = hp_shc) {l : Launch} (t : Int) (v1 : Int) (H : hp_H) (ht : hp_tw G t) (r1 : hp_r v1) (rH : hp_in H) (r : Int) (h : f_X6_isUnderWay t v1 H = some r) : hp_M G l yX6_isUnderWay cX6_isUnderWay 2 (some .boolean) (hp_rm 0) [.ref (hp_ad G t), .int (hp_I v1)] H (some (.int (hp_I r))) H (hp_r r) := by
  unfold f_X6_isUnderWay at h
  refine hp_body "HeelPost$Town" (by decide) rfl ⟨rfl, rfl⟩ (Nat.le_of_ble_eq_true rfl) ?_
  show hp_R G l cX6_isUnderWay 2 (some .boolean) "HeelPost$Town" (hp_rm 0) (some (.int (hp_I r))) H (hp_r r) 0 [(0, .ref (hp_ad G t)), (1, .int (hp_I v1))] [] H
  refine x_aload_n dX6_isUnderWay_0 0 rfl ?_
  refine x_gi 4 4 rfl (tw_0 ht) (tw_p ht) (C := RX6) (T := TX6) (N := 12) rfl in_X6 (by decide) rfl wf_83 dX6_isUnderWay_1 ?_
  refine x_iload_n dX6_isUnderWay_4 1 rfl ?_
  refine x_ishr dX6_isUnderWay_5 ?_
  refine x_iconst dX6_isUnderWay_6 ?_
  refine x_iand dX6_isUnderWay_7 ?_
  refine x_iconst dX6_isUnderWay_8 ?_
  refine x_icne (tgt := 31) dX6_isUnderWay_9 (by decide) (hp_rand _ _) (hp_rc rfl) (fun hc1 => ?_) (fun hc1 => ?_)
  · replace h := hp_if hc1 h
    refine x_iconst dX6_isUnderWay_31 ?_
    cases h
    exact x_zret (hp_rc rfl) (Or.inl rfl) dX6_isUnderWay_32
  · replace h := hp_it hc1 h
    refine x_aload_n dX6_isUnderWay_12 0 rfl ?_
    refine x_getr 10 (tw_0 ht) (tw_p ht) (C := RX6) (T := TX6) (N := 12) rfl in_X6 (by decide) rfl wf_102 dX6_isUnderWay_13 ?_
    refine x_iload_n dX6_isUnderWay_16 1 rfl ?_
    obtain ⟨b2, h⟩ := hp_ck_e h
    refine x_ia 4 rfl (tw_5 ht) (tw_p5 ht) (Nat.le_of_ble_eq_true rfl) b2 dX6_isUnderWay_17 ?_
    refine x_aload_n dX6_isUnderWay_18 0 rfl ?_
    refine x_getr 11 (tw_0 ht) (tw_p ht) (C := RX6) (T := TX6) (N := 12) rfl in_X6 (by decide) rfl wf_106 dX6_isUnderWay_19 ?_
    refine x_iload_n dX6_isUnderWay_22 1 rfl ?_
    refine x_ia 4 rfl (tw_6 ht) (tw_p6 ht) (Nat.le_of_ble_eq_true rfl) b2 dX6_isUnderWay_23 ?_
    refine x_iceq (tgt := 31) dX6_isUnderWay_24 (by decide) (rH _ _) (rH _ _) (fun hc3 => ?_) (fun hc3 => ?_)
    · replace h := hp_it hc3 h
      refine x_iconst dX6_isUnderWay_31 ?_
      cases h
      exact x_zret (hp_rc rfl) (Or.inl rfl) dX6_isUnderWay_32
    · replace h := hp_if hc3 h
      refine x_iconst dX6_isUnderWay_27 ?_
      refine x_goto (tgt := 32) dX6_isUnderWay_28 (by decide) ?_
      cases h
      exact x_zret (hp_rc rfl) (Or.inr rfl) dX6_isUnderWay_32
set_option maxRecDepth 100000 in
theorem ok_X6_isThere {G : hp_G} (hG : hp_sh G = hp_shc) {l : Launch} (t : Int) (v1 : Int) (H : hp_H) (ht : hp_tw G t) (r1 : hp_r v1) (rH : hp_in H) (r : Int) (h : f_X6_isThere t v1 H = some r) : hp_M G l yX6_isThere cX6_isThere 2 (some .boolean) (hp_rm 0) [.ref (hp_ad G t), .int (hp_I v1)] H (some (.int (hp_I r))) H (hp_r r) := by
  unfold f_X6_isThere at h
  refine hp_body "HeelPost$Town" (by decide) rfl ⟨rfl, rfl⟩ (Nat.le_of_ble_eq_true rfl) ?_
  show hp_R G l cX6_isThere 2 (some .boolean) "HeelPost$Town" (hp_rm 0) (some (.int (hp_I r))) H (hp_r r) 0 [(0, .ref (hp_ad G t)), (1, .int (hp_I v1))] [] H
  refine x_aload_n dX6_isThere_0 0 rfl ?_
  refine x_gi 4 4 rfl (tw_0 ht) (tw_p ht) (C := RX6) (T := TX6) (N := 12) rfl in_X6 (by decide) rfl wf_83 dX6_isThere_1 ?_
  refine x_iload_n dX6_isThere_4 1 rfl ?_
  refine x_ishr dX6_isThere_5 ?_
  refine x_iconst dX6_isThere_6 ?_
  refine x_iand dX6_isThere_7 ?_
  refine x_iconst dX6_isThere_8 ?_
  refine x_icne (tgt := 31) dX6_isThere_9 (by decide) (hp_rand _ _) (hp_rc rfl) (fun hc1 => ?_) (fun hc1 => ?_)
  · replace h := hp_if hc1 h
    refine x_iconst dX6_isThere_31 ?_
    cases h
    exact x_zret (hp_rc rfl) (Or.inl rfl) dX6_isThere_32
  · replace h := hp_it hc1 h
    refine x_aload_n dX6_isThere_12 0 rfl ?_
    refine x_getr 10 (tw_0 ht) (tw_p ht) (C := RX6) (T := TX6) (N := 12) rfl in_X6 (by decide) rfl wf_102 dX6_isThere_13 ?_
    refine x_iload_n dX6_isThere_16 1 rfl ?_
    obtain ⟨b2, h⟩ := hp_ck_e h
    refine x_ia 4 rfl (tw_5 ht) (tw_p5 ht) (Nat.le_of_ble_eq_true rfl) b2 dX6_isThere_17 ?_
    refine x_aload_n dX6_isThere_18 0 rfl ?_
    refine x_getr 11 (tw_0 ht) (tw_p ht) (C := RX6) (T := TX6) (N := 12) rfl in_X6 (by decide) rfl wf_106 dX6_isThere_19 ?_
    refine x_iload_n dX6_isThere_22 1 rfl ?_
    refine x_ia 4 rfl (tw_6 ht) (tw_p6 ht) (Nat.le_of_ble_eq_true rfl) b2 dX6_isThere_23 ?_
    refine x_icne (tgt := 31) dX6_isThere_24 (by decide) (rH _ _) (rH _ _) (fun hc3 => ?_) (fun hc3 => ?_)
    · replace h := hp_if hc3 h
      refine x_iconst dX6_isThere_31 ?_
      cases h
      exact x_zret (hp_rc rfl) (Or.inl rfl) dX6_isThere_32
    · replace h := hp_it hc3 h
      refine x_iconst dX6_isThere_27 ?_
      refine x_goto (tgt := 32) dX6_isThere_28 (by decide) ?_
      cases h
      exact x_zret (hp_rc rfl) (Or.inr rfl) dX6_isThere_32
set_option maxRecDepth 100000 in
theorem ok_X6_putOut {G : hp_G} (hG : hp_sh G = hp_shc) {l : Launch} (t : Int) (v1 : Int) (v2 : Int) (v3 : Int) (H : hp_H) (ht : hp_tw G t) (r1 : hp_r v1) (r2 : hp_r v2) (r3 : hp_r v3) (rH : hp_in H) (H' : hp_H) (h : f_X6_putOut t v1 v2 v3 H = some H') : hp_M G l yX6_putOut cX6_putOut 4 none (hp_rm 0) [.ref (hp_ad G t), .int (hp_I v1), .int (hp_I v2), .int (hp_I v3)] H none H' (hp_in H') := by
  unfold f_X6_putOut at h
  refine hp_body "HeelPost$Town" (by decide) rfl ⟨rfl, rfl⟩ (Nat.le_of_ble_eq_true rfl) ?_
  show hp_R G l cX6_putOut 4 none "HeelPost$Town" (hp_rm 0) none H' (hp_in H') 0 [(0, .ref (hp_ad G t)), (1, .int (hp_I v1)), (2, .int (hp_I v2)), (3, .int (hp_I v3))] [] H
  refine x_aload_n dX6_putOut_0 0 rfl ?_
  refine x_dup rfl dX6_putOut_1 ?_
  refine x_gi 4 4 rfl (tw_0 ht) (tw_p ht) (C := RX6) (T := TX6) (N := 12) rfl in_X6 (by decide) rfl wf_83 dX6_putOut_2 ?_
  refine x_iconst dX6_putOut_5 ?_
  refine x_iload_n dX6_putOut_6 1 rfl ?_
  refine x_ishl dX6_putOut_7 ?_
  refine x_ior dX6_putOut_8 ?_
  obtain ⟨H1, eH1⟩ : ∃ z : hp_H, z = hp_up H t 4 (hp_or (H t 4) (hp_shl 1 v1)) := ⟨_, rfl⟩
  replace h := hp_let_e eH1 h
  have rH1 := hp_ine eH1 (hp_in_up rH (hp_ror _ _))
  refine x_pi 4 4 rfl tyX6 eH1 (tw_0 ht) (tw_p ht) (C := RX6) (T := TX6) (N := 12) rfl in_X6 tyX6_ok nmX6 (by decide) rfl rfl rfl wf_83 dX6_putOut_9 ?_
  refine x_aload_n dX6_putOut_12 0 rfl ?_
  refine x_getr 10 (tw_0 ht) (tw_p ht) (C := RX6) (T := TX6) (N := 12) rfl in_X6 (by decide) rfl wf_102 dX6_putOut_13 ?_
  refine x_iload_n dX6_putOut_16 1 rfl ?_
  refine x_iload_n dX6_putOut_17 2 rfl ?_
  obtain ⟨b2, h⟩ := hp_ck_e h
  obtain ⟨H3, eH3⟩ : ∃ z : hp_H, z = hp_up H1 (t + 5) v1 v2 := ⟨_, rfl⟩
  replace h := hp_let_e eH3 h
  have rH3 := hp_ine eH3 (hp_in_up rH1 r2)
  refine x_ias 4 rfl eH3 (tw_5 ht) (tw_p5 ht) (Nat.le_of_ble_eq_true rfl) b2 dX6_putOut_18 ?_
  refine x_aload_n dX6_putOut_19 0 rfl ?_
  refine x_getr 11 (tw_0 ht) (tw_p ht) (C := RX6) (T := TX6) (N := 12) rfl in_X6 (by decide) rfl wf_106 dX6_putOut_20 ?_
  refine x_iload_n dX6_putOut_23 1 rfl ?_
  refine x_iload_n dX6_putOut_24 3 rfl ?_
  obtain ⟨H4, eH4⟩ : ∃ z : hp_H, z = hp_up H3 (t + 6) v1 v3 := ⟨_, rfl⟩
  replace h := hp_let_e eH4 h
  have rH4 := hp_ine eH4 (hp_in_up rH3 r3)
  refine x_ias 4 rfl eH4 (tw_6 ht) (tw_p6 ht) (Nat.le_of_ble_eq_true rfl) b2 dX6_putOut_25 ?_
  cases h
  exact x_vret rH4 dX6_putOut_26
set_option maxRecDepth 100000 in
theorem ok_X6_everybody {G : hp_G} (hG : hp_sh G = hp_shc) {l : Launch} (t : Int) (H : hp_H) (ht : hp_tw G t) (rH : hp_in H) (r : Int) (h : f_X6_everybody t H = some r) : hp_M G l yX6_everybody cX6_everybody 1 (some .int) (hp_rm 0) [.ref (hp_ad G t)] H (some (.int (hp_I r))) H (hp_r r) := by
  unfold f_X6_everybody at h
  refine hp_body "HeelPost$Town" (by decide) rfl ⟨rfl, rfl⟩ (Nat.le_of_ble_eq_true rfl) ?_
  show hp_R G l cX6_everybody 1 (some .int) "HeelPost$Town" (hp_rm 0) (some (.int (hp_I r))) H (hp_r r) 0 [(0, .ref (hp_ad G t))] [] H
  refine x_iconst dX6_everybody_0 ?_
  refine x_aload_n dX6_everybody_1 0 rfl ?_
  refine x_gi 2 2 rfl (tw_0 ht) (tw_p ht) (C := RX6) (T := TX6) (N := 12) rfl in_X6 (by decide) rfl wf_76 dX6_everybody_2 ?_
  refine x_ishl dX6_everybody_5 ?_
  refine x_iconst dX6_everybody_6 ?_
  refine x_isub dX6_everybody_7 ?_
  cases h
  exact x_iret (hp_rw _) dX6_everybody_8
set_option maxRecDepth 100000 in
theorem ok_J6_bitCount_0f7a4 {G : hp_G} (hG : hp_sh G = hp_shc) {l : Launch} (v0 : Int) (H : hp_H) (r0 : hp_r v0) (rH : hp_in H) (r : Int) (h : f_J6_bitCount_0f7a4 v0 H = some r) : hp_M G l yJ6_bitCount_0f7a4 cJ6_bitCount_0f7a4 1 (some .int) (hp_rm 0) [.int (hp_I v0)] H (some (.int (hp_I r))) H (hp_r r) := by
  unfold f_J6_bitCount_0f7a4 at h
  refine hp_body "java/lang/Integer" (by decide) rfl ⟨rfl, rfl⟩ (Nat.le_of_ble_eq_true rfl) ?_
  show hp_R G l cJ6_bitCount_0f7a4 1 (some .int) "java/lang/Integer" (hp_rm 0) (some (.int (hp_I r))) H (hp_r r) 0 [(0, .int (hp_I v0))] [] H
  refine x_iload_n dJ6_bitCount_0f7a4_0 0 rfl ?_
  refine x_iload_n dJ6_bitCount_0f7a4_1 0 rfl ?_
  refine x_iconst dJ6_bitCount_0f7a4_2 ?_
  refine x_iushr dJ6_bitCount_0f7a4_3 ?_
  refine x_ldcw (x := 1431655765) wc_662 rfl dJ6_bitCount_0f7a4_4 ?_
  refine x_iand dJ6_bitCount_0f7a4_7 ?_
  refine x_isub dJ6_bitCount_0f7a4_8 ?_
  obtain ⟨v0_1, ev0_1⟩ : ∃ z : Int, z = (hp_w (v0 - (hp_and (hp_ush v0 1) 1431655765))) := ⟨_, rfl⟩
  replace h := hp_let_e ev0_1 h
  have rv0_1 := hp_re ev0_1 (hp_rw _)
  refine x_isnE (L' := [(0, .int (hp_I v0_1))]) ev0_1 dJ6_bitCount_0f7a4_9 rfl (by decide) rfl ?_
  refine x_iload_n dJ6_bitCount_0f7a4_10 0 rfl ?_
  refine x_ldcw (x := 858993459) wc_663 rfl dJ6_bitCount_0f7a4_11 ?_
  refine x_iand dJ6_bitCount_0f7a4_14 ?_
  refine x_iload_n dJ6_bitCount_0f7a4_15 0 rfl ?_
  refine x_iconst dJ6_bitCount_0f7a4_16 ?_
  refine x_iushr dJ6_bitCount_0f7a4_17 ?_
  refine x_ldcw (x := 858993459) wc_663 rfl dJ6_bitCount_0f7a4_18 ?_
  refine x_iand dJ6_bitCount_0f7a4_21 ?_
  refine x_iadd dJ6_bitCount_0f7a4_22 ?_
  obtain ⟨v0_2, ev0_2⟩ : ∃ z : Int, z = (hp_w ((hp_and v0_1 858993459) + (hp_and (hp_ush v0_1 2) 858993459))) := ⟨_, rfl⟩
  replace h := hp_let_e ev0_2 h
  have rv0_2 := hp_re ev0_2 (hp_rw _)
  refine x_isnE (L' := [(0, .int (hp_I v0_2))]) ev0_2 dJ6_bitCount_0f7a4_23 rfl (by decide) rfl ?_
  refine x_iload_n dJ6_bitCount_0f7a4_24 0 rfl ?_
  refine x_iload_n dJ6_bitCount_0f7a4_25 0 rfl ?_
  refine x_iconst dJ6_bitCount_0f7a4_26 ?_
  refine x_iushr dJ6_bitCount_0f7a4_27 ?_
  refine x_iadd dJ6_bitCount_0f7a4_28 ?_
  refine x_ldcw (x := 252645135) wc_664 rfl dJ6_bitCount_0f7a4_29 ?_
  refine x_iand dJ6_bitCount_0f7a4_32 ?_
  obtain ⟨v0_3, ev0_3⟩ : ∃ z : Int, z = (hp_and (hp_w (v0_2 + (hp_ush v0_2 4))) 252645135) := ⟨_, rfl⟩
  replace h := hp_let_e ev0_3 h
  have rv0_3 := hp_re ev0_3 (hp_rand _ _)
  refine x_isnE (L' := [(0, .int (hp_I v0_3))]) ev0_3 dJ6_bitCount_0f7a4_33 rfl (by decide) rfl ?_
  refine x_iload_n dJ6_bitCount_0f7a4_34 0 rfl ?_
  refine x_iload_n dJ6_bitCount_0f7a4_35 0 rfl ?_
  refine x_bipush rfl dJ6_bitCount_0f7a4_36 ?_
  refine x_iushr dJ6_bitCount_0f7a4_38 ?_
  refine x_iadd dJ6_bitCount_0f7a4_39 ?_
  obtain ⟨v0_4, ev0_4⟩ : ∃ z : Int, z = (hp_w (v0_3 + (hp_ush v0_3 8))) := ⟨_, rfl⟩
  replace h := hp_let_e ev0_4 h
  have rv0_4 := hp_re ev0_4 (hp_rw _)
  refine x_isnE (L' := [(0, .int (hp_I v0_4))]) ev0_4 dJ6_bitCount_0f7a4_40 rfl (by decide) rfl ?_
  refine x_iload_n dJ6_bitCount_0f7a4_41 0 rfl ?_
  refine x_iload_n dJ6_bitCount_0f7a4_42 0 rfl ?_
  refine x_bipush rfl dJ6_bitCount_0f7a4_43 ?_
  refine x_iushr dJ6_bitCount_0f7a4_45 ?_
  refine x_iadd dJ6_bitCount_0f7a4_46 ?_
  obtain ⟨v0_5, ev0_5⟩ : ∃ z : Int, z = (hp_w (v0_4 + (hp_ush v0_4 16))) := ⟨_, rfl⟩
  replace h := hp_let_e ev0_5 h
  have rv0_5 := hp_re ev0_5 (hp_rw _)
  refine x_isnE (L' := [(0, .int (hp_I v0_5))]) ev0_5 dJ6_bitCount_0f7a4_47 rfl (by decide) rfl ?_
  refine x_iload_n dJ6_bitCount_0f7a4_48 0 rfl ?_
  refine x_bipush rfl dJ6_bitCount_0f7a4_49 ?_
  refine x_iand dJ6_bitCount_0f7a4_51 ?_
  cases h
  exact x_iret (hp_rand _ _) dJ6_bitCount_0f7a4_52
set_option maxRecDepth 100000 in
theorem ok_X6_arrived_4 {G : hp_G} (hG : hp_sh G = hp_shc) {l : Launch} {vv : Option Value} {H' : hp_H} {Z : Prop} : ∀ (n : Nat) (t : Int) (v1 : Int) (v2 : Int) (H : hp_H), hp_tw G t → hp_r v1 → hp_r v2 → hp_in H → ∀ m1 : Int, f_X6_arrived_4 n t v1 v2 H = some m1 → (hp_r m1 → hp_R G l cX6_arrived 3 (some .int) "HeelPost$Town" (hp_rm 1) vv H' Z 33 [(1, .int (hp_I m1))] [] H) → hp_R G l cX6_arrived 3 (some .int) "HeelPost$Town" (hp_rm 1) vv H' Z 4 [(0, .ref (hp_ad G t)), (1, .int (hp_I v1)), (2, .int (hp_I v2))] [] H := by
  intro n
  induction n with
  | zero =>
    intro t v1 v2 H ht r1 r2 rH m1 h kx
    exact hp_no h
  | succ n ih =>
    intro t v1 v2 H ht r1 r2 rH m1 h kx
    unfold f_X6_arrived_4 at h
    refine x_iload_n dX6_arrived_4 2 rfl ?_
    refine x_iconst dX6_arrived_5 ?_
    refine x_icge (tgt := 33) dX6_arrived_6 (by decide) r2 (hp_rc rfl) (fun hc1 => ?_) (fun hc1 => ?_)
    · replace h := hp_if hc1 h
      cases h
      exact x_sub [1] rfl (kx r1)
    · replace h := hp_it hc1 h
      refine x_iload_n dX6_arrived_9 1 rfl ?_
      refine x_aload_n dX6_arrived_10 0 rfl ?_
      refine x_iload_n dX6_arrived_11 2 rfl ?_
      obtain ⟨c3, g2, h⟩ := hp_b1_e h
      refine x_ivi (As := [.int (hp_I v2)]) (ok_X6_isThere hG t v2 H ht r2 rH _ g2) cal_X6_isThere (tw_0 ht) (tw_p ht) (C := RX6) (T := TX6) (N := 12) rfl rfl ins_X6_isThere sel_X6_isThere wm_494 (by decide) rfl rfl (Nat.le_of_ble_eq_true rfl) dX6_arrived_12 (fun z9 => ?_)
      have rc3 := z9
      obtain ⟨m4, em4⟩ : ∃ z : Int, z = (if c3 = 0 then 0 else (hp_shl 1 v2)) := ⟨_, rfl⟩
      replace h := hp_let_e em4 h
      have rm4 := hp_re em4 (hp_rite (hp_rc rfl) (hp_rshl _ _))
      have kj : hp_R G l cX6_arrived 3 (some .int) "HeelPost$Town" (hp_rm 1) vv H' Z 25 [(0, .ref (hp_ad G t)), (2, .int (hp_I v2))] [.int (hp_I m4), .int (hp_I v1)] H := by
        refine x_ior dX6_arrived_25 ?_
        obtain ⟨v1_5, ev1_5⟩ : ∃ z : Int, z = (hp_or v1 m4) := ⟨_, rfl⟩
        replace h := hp_let_e ev1_5 h
        have rv1_5 := hp_re ev1_5 (hp_ror _ _)
        refine x_isnE (L' := [(1, .int (hp_I v1_5)), (0, .ref (hp_ad G t)), (2, .int (hp_I v2))]) ev1_5 dX6_arrived_26 rfl (by decide) rfl ?_
        obtain ⟨v2_6, ev2_6⟩ : ∃ z : Int, z = (hp_w (v2 + 1)) := ⟨_, rfl⟩
        replace h := hp_let_e ev2_6 h
        have rv2_6 := hp_re ev2_6 (hp_rw _)
        refine x_iiE (L' := [(2, .int (hp_I v2_6)), (1, .int (hp_I v1_5)), (0, .ref (hp_ad G t))]) ev2_6 dX6_arrived_27 2 rfl (by decide) rfl ?_
        refine x_goto (tgt := 4) dX6_arrived_30 (by decide) ?_
        exact x_sub [2, 1, 0] rfl (ih t v1_5 v2_6 H ht rv1_5 rv2_6 rH _ h kx)
      clear h
      refine x_ifeq (tgt := 24) dX6_arrived_15 (by decide) rc3 (fun hc7 => ?_) (fun hc7 => ?_)
      · refine x_iconst dX6_arrived_24 ?_
        have q9 := (em4.trans (if_pos hc7))
        subst q9
        exact x_sub [0, 2] rfl kj
      · refine x_iconst dX6_arrived_18 ?_
        refine x_iload_n dX6_arrived_19 2 rfl ?_
        refine x_ishl dX6_arrived_20 ?_
        refine x_goto (tgt := 25) dX6_arrived_21 (by decide) ?_
        have q9 := (em4.trans (if_neg hc7))
        subst q9
        exact x_sub [0, 2] rfl kj
set_option maxRecDepth 100000 in
theorem ok_X6_arrived {G : hp_G} (hG : hp_sh G = hp_shc) {l : Launch} (t : Int) (H : hp_H) (ht : hp_tw G t) (rH : hp_in H) (r : Int) (h : f_X6_arrived t H = some r) : hp_M G l yX6_arrived cX6_arrived 3 (some .int) (hp_rm 1) [.ref (hp_ad G t)] H (some (.int (hp_I r))) H (hp_r r) := by
  unfold f_X6_arrived at h
  refine hp_body "HeelPost$Town" (by decide) rfl ⟨rfl, rfl⟩ (Nat.le_of_ble_eq_true rfl) ?_
  show hp_R G l cX6_arrived 3 (some .int) "HeelPost$Town" (hp_rm 1) (some (.int (hp_I r))) H (hp_r r) 0 [(0, .ref (hp_ad G t))] [] H
  refine x_iconst dX6_arrived_0 ?_
  refine x_istore_n (L' := [(1, .int (hp_I 0)), (0, .ref (hp_ad G t))]) dX6_arrived_1 rfl (by decide) rfl ?_
  refine x_iconst dX6_arrived_2 ?_
  refine x_istore_n (L' := [(2, .int (hp_I 0)), (1, .int (hp_I 0)), (0, .ref (hp_ad G t))]) dX6_arrived_3 rfl (by decide) rfl ?_
  obtain ⟨v1_8, g9, h⟩ := hp_b1_e h
  refine x_sub [2, 1, 0] rfl (ok_X6_arrived_4 hG 1000 t 0 0 H ht (hp_rc rfl) (hp_rc rfl) rH _ g9 ?_)
  intro rv1_8
  refine x_iload_n dX6_arrived_33 0 rfl ?_
  cases h
  exact x_iret rv1_8 dX6_arrived_34
set_option maxRecDepth 100000 in
theorem ok_X6_clear {G : hp_G} (hG : hp_sh G = hp_shc) {l : Launch} (t : Int) (H : hp_H) (ht : hp_tw G t) (rH : hp_in H) (H' : hp_H) (h : f_X6_clear t H = some H') : hp_M G l yX6_clear cX6_clear 1 none (hp_rm 0) [.ref (hp_ad G t)] H none H' (hp_in H') := by
  unfold f_X6_clear at h
  refine hp_body "HeelPost$Town" (by decide) rfl ⟨rfl, rfl⟩ (Nat.le_of_ble_eq_true rfl) ?_
  show hp_R G l cX6_clear 1 none "HeelPost$Town" (hp_rm 0) none H' (hp_in H') 0 [(0, .ref (hp_ad G t))] [] H
  refine x_aload_n dX6_clear_0 0 rfl ?_
  refine x_iconst dX6_clear_1 ?_
  obtain ⟨H1, eH1⟩ : ∃ z : hp_H, z = hp_up H t 0 0 := ⟨_, rfl⟩
  replace h := hp_let_e eH1 h
  have rH1 := hp_ine eH1 (hp_in_up rH (hp_rc rfl))
  refine x_pi 0 0 rfl tyX6 eH1 (tw_0 ht) (tw_p ht) (C := RX6) (T := TX6) (N := 12) rfl in_X6 tyX6_ok nmX6 (by decide) rfl rfl rfl wf_68 dX6_clear_2 ?_
  refine x_aload_n dX6_clear_5 0 rfl ?_
  refine x_iconst dX6_clear_6 ?_
  obtain ⟨H2, eH2⟩ : ∃ z : hp_H, z = hp_up H1 t 1 0 := ⟨_, rfl⟩
  replace h := hp_let_e eH2 h
  have rH2 := hp_ine eH2 (hp_in_up rH1 (hp_rc rfl))
  refine x_pi 1 1 rfl tyX6 eH2 (tw_0 ht) (tw_p ht) (C := RX6) (T := TX6) (N := 12) rfl in_X6 tyX6_ok nmX6 (by decide) rfl rfl rfl wf_72 dX6_clear_7 ?_
  refine x_aload_n dX6_clear_10 0 rfl ?_
  refine x_iconst dX6_clear_11 ?_
  obtain ⟨H3, eH3⟩ : ∃ z : hp_H, z = hp_up H2 t 2 0 := ⟨_, rfl⟩
  replace h := hp_let_e eH3 h
  have rH3 := hp_ine eH3 (hp_in_up rH2 (hp_rc rfl))
  refine x_pi 2 2 rfl tyX6 eH3 (tw_0 ht) (tw_p ht) (C := RX6) (T := TX6) (N := 12) rfl in_X6 tyX6_ok nmX6 (by decide) rfl rfl rfl wf_76 dX6_clear_12 ?_
  refine x_aload_n dX6_clear_15 0 rfl ?_
  refine x_iconst dX6_clear_16 ?_
  obtain ⟨H4, eH4⟩ : ∃ z : hp_H, z = hp_up H3 t 3 0 := ⟨_, rfl⟩
  replace h := hp_let_e eH4 h
  have rH4 := hp_ine eH4 (hp_in_up rH3 (hp_rc rfl))
  refine x_pi 3 3 rfl tyX6 eH4 (tw_0 ht) (tw_p ht) (C := RX6) (T := TX6) (N := 12) rfl in_X6 tyX6_ok nmX6 (by decide) rfl rfl rfl wf_81 dX6_clear_17 ?_
  refine x_aload_n dX6_clear_20 0 rfl ?_
  refine x_iconst dX6_clear_21 ?_
  obtain ⟨H5, eH5⟩ : ∃ z : hp_H, z = hp_up H4 t 4 0 := ⟨_, rfl⟩
  replace h := hp_let_e eH5 h
  have rH5 := hp_ine eH5 (hp_in_up rH4 (hp_rc rfl))
  refine x_pi 4 4 rfl tyX6 eH5 (tw_0 ht) (tw_p ht) (C := RX6) (T := TX6) (N := 12) rfl in_X6 tyX6_ok nmX6 (by decide) rfl rfl rfl wf_83 dX6_clear_22 ?_
  refine x_aload_n dX6_clear_25 0 rfl ?_
  refine x_iconst dX6_clear_26 ?_
  obtain ⟨H6, eH6⟩ : ∃ z : hp_H, z = hp_up H5 t 5 0 := ⟨_, rfl⟩
  replace h := hp_let_e eH6 h
  have rH6 := hp_ine eH6 (hp_in_up rH5 (hp_rc rfl))
  refine x_pi 5 5 rfl tyX6 eH6 (tw_0 ht) (tw_p ht) (C := RX6) (T := TX6) (N := 12) rfl in_X6 tyX6_ok nmX6 (by decide) rfl rfl rfl wf_85 dX6_clear_27 ?_
  cases h
  exact x_vret rH6 dX6_clear_30
set_option maxRecDepth 100000 in
theorem ok_X7_within {G : hp_G} (hG : hp_sh G = hp_shc) {l : Launch} (v0 : Int) (v1 : Int) (v2 : Int) (H : hp_H) (r0 : hp_r v0) (r1 : hp_r v1) (r2 : hp_r v2) (rH : hp_in H) (r : Int) (h : f_X7_within v0 v1 v2 H = some r) : hp_M G l yX7_within cX7_within 3 (some .boolean) (hp_rm 0) [.int (hp_I v0), .int (hp_I v1), .int (hp_I v2)] H (some (.int (hp_I r))) H (hp_r r) := by
  unfold f_X7_within at h
  refine hp_body "HeelPost" (by decide) rfl ⟨rfl, rfl⟩ (Nat.le_of_ble_eq_true rfl) ?_
  show hp_R G l cX7_within 3 (some .boolean) "HeelPost" (hp_rm 0) (some (.int (hp_I r))) H (hp_r r) 0 [(0, .int (hp_I v0)), (1, .int (hp_I v1)), (2, .int (hp_I v2))] [] H
  refine x_iload_n dX7_within_0 0 rfl ?_
  refine x_iload_n dX7_within_1 1 rfl ?_
  refine x_iclt (tgt := 14) dX7_within_2 (by decide) r0 r1 (fun hc1 => ?_) (fun hc1 => ?_)
  · replace h := hp_it hc1 h
    refine x_iconst dX7_within_14 ?_
    cases h
    exact x_zret (hp_rc rfl) (Or.inl rfl) dX7_within_15
  · replace h := hp_if hc1 h
    refine x_iload_n dX7_within_5 0 rfl ?_
    refine x_iload_n dX7_within_6 2 rfl ?_
    refine x_icgt (tgt := 14) dX7_within_7 (by decide) r0 r2 (fun hc2 => ?_) (fun hc2 => ?_)
    · replace h := hp_it hc2 h
      refine x_iconst dX7_within_14 ?_
      cases h
      exact x_zret (hp_rc rfl) (Or.inl rfl) dX7_within_15
    · replace h := hp_if hc2 h
      refine x_iconst dX7_within_10 ?_
      refine x_goto (tgt := 15) dX7_within_11 (by decide) ?_
      cases h
      exact x_zret (hp_rc rfl) (Or.inr rfl) dX7_within_15
set_option maxRecDepth 100000 in
theorem ok_X6_settle {G : hp_G} (hG : hp_sh G = hp_shc) {l : Launch} (t : Int) (v1 : Int) (v2 : Int) (v3 : Int) (v4 : Int) (H : hp_H) (ht : hp_tw G t) (r1 : hp_r v1) (r2 : hp_r v2) (r3 : hp_r v3) (r4 : hp_r v4) (rH : hp_in H) (H' : hp_H) (h : f_X6_settle t v1 v2 v3 v4 H = some H') : hp_M G l yX6_settle cX6_settle 5 none (hp_rm 0) [.ref (hp_ad G t), .int (hp_I v1), .int (hp_I v2), .int (hp_I v3), .int (hp_I v4)] H none H' (hp_in H') := by
  unfold f_X6_settle at h
  refine hp_body "HeelPost$Town" (by decide) rfl ⟨rfl, rfl⟩ (Nat.le_of_ble_eq_true rfl) ?_
  show hp_R G l cX6_settle 5 none "HeelPost$Town" (hp_rm 0) none H' (hp_in H') 0 [(0, .ref (hp_ad G t)), (1, .int (hp_I v1)), (2, .int (hp_I v2)), (3, .int (hp_I v3)), (4, .int (hp_I v4))] [] H
  refine x_aload_n dX6_settle_0 0 rfl ?_
  refine x_gi 2 2 rfl (tw_0 ht) (tw_p ht) (C := RX6) (T := TX6) (N := 12) rfl in_X6 (by decide) rfl wf_76 dX6_settle_1 ?_
  refine x_bipush rfl dX6_settle_4 ?_
  refine x_icge (tgt := 60) dX6_settle_6 (by decide) (rH _ _) (hp_rc rfl) (fun hc1 => ?_) (fun hc1 => ?_)
  · replace h := hp_if hc1 h
    cases h
    exact x_vret rH dX6_settle_60
  · replace h := hp_it hc1 h
    refine x_aload_n dX6_settle_9 0 rfl ?_
    refine x_getr 6 (tw_0 ht) (tw_p ht) (C := RX6) (T := TX6) (N := 12) rfl in_X6 (by decide) rfl wf_89 dX6_settle_10 ?_
    refine x_aload_n dX6_settle_13 0 rfl ?_
    refine x_gi 2 2 rfl (tw_0 ht) (tw_p ht) (C := RX6) (T := TX6) (N := 12) rfl in_X6 (by decide) rfl wf_76 dX6_settle_14 ?_
    refine x_iload_n dX6_settle_17 1 rfl ?_
    obtain ⟨b2, h⟩ := hp_ck_e h
    obtain ⟨H3, eH3⟩ : ∃ z : hp_H, z = hp_up H (t + 1) (H t 2) v1 := ⟨_, rfl⟩
    replace h := hp_let_e eH3 h
    have rH3 := hp_ine eH3 (hp_in_up rH r1)
    refine x_ias 6 rfl eH3 (tw_1 ht) (tw_p1 ht) (Nat.le_of_ble_eq_true rfl) b2 dX6_settle_18 ?_
    refine x_aload_n dX6_settle_19 0 rfl ?_
    refine x_getr 7 (tw_0 ht) (tw_p ht) (C := RX6) (T := TX6) (N := 12) rfl in_X6 (by decide) rfl wf_94 dX6_settle_20 ?_
    refine x_aload_n dX6_settle_23 0 rfl ?_
    refine x_gi 2 2 rfl (tw_0 ht) (tw_p ht) (C := RX6) (T := TX6) (N := 12) rfl in_X6 (by decide) rfl wf_76 dX6_settle_24 ?_
    refine x_iload_n dX6_settle_27 2 rfl ?_
    obtain ⟨b4, h⟩ := hp_ck_e h
    obtain ⟨H5, eH5⟩ : ∃ z : hp_H, z = hp_up H3 (t + 2) (H3 t 2) v2 := ⟨_, rfl⟩
    replace h := hp_let_e eH5 h
    have rH5 := hp_ine eH5 (hp_in_up rH3 r2)
    refine x_ias 6 rfl eH5 (tw_2 ht) (tw_p2 ht) (Nat.le_of_ble_eq_true rfl) b4 dX6_settle_28 ?_
    refine x_aload_n dX6_settle_29 0 rfl ?_
    refine x_getr 8 (tw_0 ht) (tw_p ht) (C := RX6) (T := TX6) (N := 12) rfl in_X6 (by decide) rfl wf_96 dX6_settle_30 ?_
    refine x_aload_n dX6_settle_33 0 rfl ?_
    refine x_gi 2 2 rfl (tw_0 ht) (tw_p ht) (C := RX6) (T := TX6) (N := 12) rfl in_X6 (by decide) rfl wf_76 dX6_settle_34 ?_
    refine x_iload_n dX6_settle_37 3 rfl ?_
    obtain ⟨b6, h⟩ := hp_ck_e h
    obtain ⟨H7, eH7⟩ : ∃ z : hp_H, z = hp_up H5 (t + 3) (H5 t 2) v3 := ⟨_, rfl⟩
    replace h := hp_let_e eH7 h
    have rH7 := hp_ine eH7 (hp_in_up rH5 r3)
    refine x_ias 6 rfl eH7 (tw_3 ht) (tw_p3 ht) (Nat.le_of_ble_eq_true rfl) b6 dX6_settle_38 ?_
    refine x_aload_n dX6_settle_39 0 rfl ?_
    refine x_getr 9 (tw_0 ht) (tw_p ht) (C := RX6) (T := TX6) (N := 12) rfl in_X6 (by decide) rfl wf_98 dX6_settle_40 ?_
    refine x_aload_n dX6_settle_43 0 rfl ?_
    refine x_gi 2 2 rfl (tw_0 ht) (tw_p ht) (C := RX6) (T := TX6) (N := 12) rfl in_X6 (by decide) rfl wf_76 dX6_settle_44 ?_
    refine x_iload dX6_settle_47 4 rfl ?_
    obtain ⟨b8, h⟩ := hp_ck_e h
    obtain ⟨H9, eH9⟩ : ∃ z : hp_H, z = hp_up H7 (t + 4) (H7 t 2) v4 := ⟨_, rfl⟩
    replace h := hp_let_e eH9 h
    have rH9 := hp_ine eH9 (hp_in_up rH7 r4)
    refine x_ias 6 rfl eH9 (tw_4 ht) (tw_p4 ht) (Nat.le_of_ble_eq_true rfl) b8 dX6_settle_49 ?_
    refine x_aload_n dX6_settle_50 0 rfl ?_
    refine x_dup rfl dX6_settle_51 ?_
    refine x_gi 2 2 rfl (tw_0 ht) (tw_p ht) (C := RX6) (T := TX6) (N := 12) rfl in_X6 (by decide) rfl wf_76 dX6_settle_52 ?_
    refine x_iconst dX6_settle_55 ?_
    refine x_iadd dX6_settle_56 ?_
    obtain ⟨H10, eH10⟩ : ∃ z : hp_H, z = hp_up H9 t 2 (hp_w ((H9 t 2) + 1)) := ⟨_, rfl⟩
    replace h := hp_let_e eH10 h
    have rH10 := hp_ine eH10 (hp_in_up rH9 (hp_rw _))
    refine x_pi 2 2 rfl tyX6 eH10 (tw_0 ht) (tw_p ht) (C := RX6) (T := TX6) (N := 12) rfl in_X6 tyX6_ok nmX6 (by decide) rfl rfl rfl wf_76 dX6_settle_57 ?_
    cases h
    exact x_vret rH10 dX6_settle_60
set_option maxRecDepth 100000 in
theorem ok_X6_stands {G : hp_G} (hG : hp_sh G = hp_shc) {l : Launch} (t : Int) (H : hp_H) (ht : hp_tw G t) (rH : hp_in H) (r : Int) (h : f_X6_stands t H = some r) : hp_M G l yX6_stands cX6_stands 1 (some .boolean) (hp_rm 0) [.ref (hp_ad G t)] H (some (.int (hp_I r))) H (hp_r r) := by
  unfold f_X6_stands at h
  refine hp_body "HeelPost$Town" (by decide) rfl ⟨rfl, rfl⟩ (Nat.le_of_ble_eq_true rfl) ?_
  show hp_R G l cX6_stands 1 (some .boolean) "HeelPost$Town" (hp_rm 0) (some (.int (hp_I r))) H (hp_r r) 0 [(0, .ref (hp_ad G t))] [] H
  refine x_aload_n dX6_stands_0 0 rfl ?_
  refine x_gi 0 0 rfl (tw_0 ht) (tw_p ht) (C := RX6) (T := TX6) (N := 12) rfl in_X6 (by decide) rfl wf_68 dX6_stands_1 ?_
  refine x_ifle (tgt := 11) dX6_stands_4 (by decide) (rH _ _) (fun hc1 => ?_) (fun hc1 => ?_)
  · replace h := hp_if hc1 h
    refine x_iconst dX6_stands_11 ?_
    cases h
    exact x_zret (hp_rc rfl) (Or.inl rfl) dX6_stands_12
  · replace h := hp_it hc1 h
    refine x_iconst dX6_stands_7 ?_
    refine x_goto (tgt := 12) dX6_stands_8 (by decide) ?_
    cases h
    exact x_zret (hp_rc rfl) (Or.inr rfl) dX6_stands_12
set_option maxRecDepth 100000 in
theorem ok_X6_isOut {G : hp_G} (hG : hp_sh G = hp_shc) {l : Launch} (t : Int) (v1 : Int) (H : hp_H) (ht : hp_tw G t) (r1 : hp_r v1) (rH : hp_in H) (r : Int) (h : f_X6_isOut t v1 H = some r) : hp_M G l yX6_isOut cX6_isOut 2 (some .boolean) (hp_rm 0) [.ref (hp_ad G t), .int (hp_I v1)] H (some (.int (hp_I r))) H (hp_r r) := by
  unfold f_X6_isOut at h
  refine hp_body "HeelPost$Town" (by decide) rfl ⟨rfl, rfl⟩ (Nat.le_of_ble_eq_true rfl) ?_
  show hp_R G l cX6_isOut 2 (some .boolean) "HeelPost$Town" (hp_rm 0) (some (.int (hp_I r))) H (hp_r r) 0 [(0, .ref (hp_ad G t)), (1, .int (hp_I v1))] [] H
  refine x_aload_n dX6_isOut_0 0 rfl ?_
  refine x_gi 4 4 rfl (tw_0 ht) (tw_p ht) (C := RX6) (T := TX6) (N := 12) rfl in_X6 (by decide) rfl wf_83 dX6_isOut_1 ?_
  refine x_iload_n dX6_isOut_4 1 rfl ?_
  refine x_ishr dX6_isOut_5 ?_
  refine x_iconst dX6_isOut_6 ?_
  refine x_iand dX6_isOut_7 ?_
  refine x_iconst dX6_isOut_8 ?_
  refine x_icne (tgt := 16) dX6_isOut_9 (by decide) (hp_rand _ _) (hp_rc rfl) (fun hc1 => ?_) (fun hc1 => ?_)
  · replace h := hp_if hc1 h
    refine x_iconst dX6_isOut_16 ?_
    cases h
    exact x_zret (hp_rc rfl) (Or.inl rfl) dX6_isOut_17
  · replace h := hp_it hc1 h
    refine x_iconst dX6_isOut_12 ?_
    refine x_goto (tgt := 17) dX6_isOut_13 (by decide) ?_
    cases h
    exact x_zret (hp_rc rfl) (Or.inr rfl) dX6_isOut_17
set_option maxRecDepth 100000 in
theorem ok_X6_peopleIn_4 {G : hp_G} (hG : hp_sh G = hp_shc) {l : Launch} {vv : Option Value} {H' : hp_H} {Z : Prop} : ∀ (n : Nat) (t : Int) (v1 : Int) (v2 : Int) (v3 : Int) (H : hp_H), hp_tw G t → hp_r v1 → hp_r v2 → hp_r v3 → hp_in H → ∀ m2 : Int, f_X6_peopleIn_4 n t v1 v2 v3 H = some m2 → (hp_r m2 → hp_R G l cX6_peopleIn 4 (some .int) "HeelPost$Town" (hp_rm 3) vv H' Z 38 [(2, .int (hp_I m2))] [] H) → hp_R G l cX6_peopleIn 4 (some .int) "HeelPost$Town" (hp_rm 3) vv H' Z 4 [(0, .ref (hp_ad G t)), (1, .int (hp_I v1)), (2, .int (hp_I v2)), (3, .int (hp_I v3))] [] H := by
  intro n
  induction n with
  | zero =>
    intro t v1 v2 v3 H ht r1 r2 r3 rH m2 h kx
    exact hp_no h
  | succ n ih =>
    intro t v1 v2 v3 H ht r1 r2 r3 rH m2 h kx
    unfold f_X6_peopleIn_4 at h
    refine x_iload_n dX6_peopleIn_4 3 rfl ?_
    refine x_aload_n dX6_peopleIn_5 0 rfl ?_
    refine x_gi 2 2 rfl (tw_0 ht) (tw_p ht) (C := RX6) (T := TX6) (N := 12) rfl in_X6 (by decide) rfl wf_76 dX6_peopleIn_6 ?_
    refine x_icge (tgt := 38) dX6_peopleIn_9 (by decide) r3 (rH _ _) (fun hc1 => ?_) (fun hc1 => ?_)
    · replace h := hp_if hc1 h
      cases h
      exact x_sub [2] rfl (kx r2)
    · replace h := hp_it hc1 h
      refine x_iload_n dX6_peopleIn_12 2 rfl ?_
      refine x_aload_n dX6_peopleIn_13 0 rfl ?_
      refine x_iload_n dX6_peopleIn_14 3 rfl ?_
      refine x_iconst dX6_peopleIn_15 ?_
      obtain ⟨c3, g2, h⟩ := hp_b1_e h
      refine x_ivi (As := [.int (hp_I v3), .int (hp_I 0)]) (ok_X6_whereIs hG t v3 0 H ht r3 (hp_rc rfl) rH _ g2) cal_X6_whereIs (tw_0 ht) (tw_p ht) (C := RX6) (T := TX6) (N := 12) rfl rfl ins_X6_whereIs sel_X6_whereIs wm_579 (by decide) rfl rfl (Nat.le_of_ble_eq_true rfl) dX6_peopleIn_16 (fun z9 => ?_)
      have rc3 := z9
      refine x_iload_n dX6_peopleIn_19 1 rfl ?_
      obtain ⟨m4, em4⟩ : ∃ z : Int, z = (if c3 = v1 then (hp_shl 1 v3) else 0) := ⟨_, rfl⟩
      replace h := hp_let_e em4 h
      have rm4 := hp_re em4 (hp_rite (hp_rshl _ _) (hp_rc rfl))
      have kj : hp_R G l cX6_peopleIn 4 (some .int) "HeelPost$Town" (hp_rm 3) vv H' Z 30 [(0, .ref (hp_ad G t)), (1, .int (hp_I v1)), (3, .int (hp_I v3))] [.int (hp_I m4), .int (hp_I v2)] H := by
        refine x_ior dX6_peopleIn_30 ?_
        obtain ⟨v2_5, ev2_5⟩ : ∃ z : Int, z = (hp_or v2 m4) := ⟨_, rfl⟩
        replace h := hp_let_e ev2_5 h
        have rv2_5 := hp_re ev2_5 (hp_ror _ _)
        refine x_isnE (L' := [(2, .int (hp_I v2_5)), (0, .ref (hp_ad G t)), (1, .int (hp_I v1)), (3, .int (hp_I v3))]) ev2_5 dX6_peopleIn_31 rfl (by decide) rfl ?_
        obtain ⟨v3_6, ev3_6⟩ : ∃ z : Int, z = (hp_w (v3 + 1)) := ⟨_, rfl⟩
        replace h := hp_let_e ev3_6 h
        have rv3_6 := hp_re ev3_6 (hp_rw _)
        refine x_iiE (L' := [(3, .int (hp_I v3_6)), (2, .int (hp_I v2_5)), (0, .ref (hp_ad G t)), (1, .int (hp_I v1))]) ev3_6 dX6_peopleIn_32 3 rfl (by decide) rfl ?_
        refine x_goto (tgt := 4) dX6_peopleIn_35 (by decide) ?_
        exact x_sub [2, 3, 1, 0] rfl (ih t v1 v2_5 v3_6 H ht r1 rv2_5 rv3_6 rH _ h kx)
      clear h
      refine x_icne (tgt := 29) dX6_peopleIn_20 (by decide) rc3 r1 (fun hc7 => ?_) (fun hc7 => ?_)
      · refine x_iconst dX6_peopleIn_29 ?_
        have q9 := (em4.trans (if_neg hc7))
        subst q9
        exact x_sub [0, 1, 3] rfl kj
      · refine x_iconst dX6_peopleIn_23 ?_
        refine x_iload_n dX6_peopleIn_24 3 rfl ?_
        refine x_ishl dX6_peopleIn_25 ?_
        refine x_goto (tgt := 30) dX6_peopleIn_26 (by decide) ?_
        have q9 := (em4.trans (if_pos hc7))
        subst q9
        exact x_sub [0, 1, 3] rfl kj
set_option maxRecDepth 100000 in
theorem ok_X6_peopleIn {G : hp_G} (hG : hp_sh G = hp_shc) {l : Launch} (t : Int) (v1 : Int) (H : hp_H) (ht : hp_tw G t) (r1 : hp_r v1) (rH : hp_in H) (r : Int) (h : f_X6_peopleIn t v1 H = some r) : hp_M G l yX6_peopleIn cX6_peopleIn 4 (some .int) (hp_rm 3) [.ref (hp_ad G t), .int (hp_I v1)] H (some (.int (hp_I r))) H (hp_r r) := by
  unfold f_X6_peopleIn at h
  refine hp_body "HeelPost$Town" (by decide) rfl ⟨rfl, rfl⟩ (Nat.le_of_ble_eq_true rfl) ?_
  show hp_R G l cX6_peopleIn 4 (some .int) "HeelPost$Town" (hp_rm 3) (some (.int (hp_I r))) H (hp_r r) 0 [(0, .ref (hp_ad G t)), (1, .int (hp_I v1))] [] H
  refine x_iconst dX6_peopleIn_0 ?_
  refine x_istore_n (L' := [(2, .int (hp_I 0)), (0, .ref (hp_ad G t)), (1, .int (hp_I v1))]) dX6_peopleIn_1 rfl (by decide) rfl ?_
  refine x_iconst dX6_peopleIn_2 ?_
  refine x_istore_n (L' := [(3, .int (hp_I 0)), (2, .int (hp_I 0)), (0, .ref (hp_ad G t)), (1, .int (hp_I v1))]) dX6_peopleIn_3 rfl (by decide) rfl ?_
  obtain ⟨v2_8, g9, h⟩ := hp_b1_e h
  refine x_sub [2, 3, 1, 0] rfl (ok_X6_peopleIn_4 hG 1000 t v1 0 0 H ht r1 (hp_rc rfl) (hp_rc rfl) rH _ g9 ?_)
  intro rv2_8
  refine x_iload_n dX6_peopleIn_38 0 rfl ?_
  cases h
  exact x_iret rv2_8 dX6_peopleIn_39
