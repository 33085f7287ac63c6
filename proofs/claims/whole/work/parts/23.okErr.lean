/-! the bytecode does what the functions say: made by program (wip/whole/gen.py) -/
set_option maxRecDepth 100000 in
theorem ok_X2_foreseeOne_19 {G : hp_G} (hG : hp_sh G = hp_shc) {l : Launch} {vv : Option Value} {H' : hp_H} {Z : Prop} : ∀ (n : Nat) (t : Int) (v2 : Int) (v3 : Int) (H : hp_H), hp_tw G t → hp_r v2 → hp_r v3 → hp_in H → ∀ Hm : hp_H, f_X2_foreseeOne_19 n t v2 v3 H = some Hm → (hp_in Hm → hp_R G l cX2_foreseeOne 5 none "HeelPost$Errands" (hp_rm 2) vv H' Z 118 [] [] Hm) → hp_R G l cX2_foreseeOne 5 none "HeelPost$Errands" (hp_rm 2) vv H' Z 19 [(0, .ref (hp_ad G 199)), (1, .ref (hp_ad G t)), (2, .int (hp_I v2)), (3, .int (hp_I v3))] [] H := by
  intro n
  induction n with
  | zero =>
    intro t v2 v3 H ht r2 r3 rH Hm h kx
    exact hp_no h
  | succ n ih =>
    intro t v2 v3 H ht r2 r3 rH Hm h kx
    unfold f_X2_foreseeOne_19 at h
    refine x_iload_n dX2_foreseeOne_19 3 rfl ?_
    refine x_aload_n dX2_foreseeOne_20 0 rfl ?_
    refine x_gi 5 5 rfl (sc_199 hG) (by decide) (C := RX2) (T := TX2) (N := 8) rfl in_X2 (by decide) rfl wf_166 dX2_foreseeOne_21 ?_
    refine x_icge (tgt := 118) dX2_foreseeOne_24 (by decide) r3 (rH _ _) (fun hc5 => ?_) (fun hc5 => ?_)
    · replace h := hp_if hc5 h
      cases h
      exact x_sub [] rfl (kx rH)
    · replace h := hp_it hc5 h
      refine x_aload_n dX2_foreseeOne_27 1 rfl ?_
      refine x_iload_n dX2_foreseeOne_28 2 rfl ?_
      refine x_aload_n dX2_foreseeOne_29 0 rfl ?_
      refine x_gi 4 4 rfl (sc_199 hG) (by decide) (C := RX2) (T := TX2) (N := 8) rfl in_X2 (by decide) rfl wf_165 dX2_foreseeOne_30 ?_
      refine x_iload_n dX2_foreseeOne_33 3 rfl ?_
      refine x_iadd dX2_foreseeOne_34 ?_
      refine x_iconst dX2_foreseeOne_35 ?_
      refine x_iadd dX2_foreseeOne_36 ?_
      obtain ⟨c7, g6, h⟩ := hp_b1_e h
      refine x_ivi (As := [.int (hp_I v2), .int (hp_I (hp_w ((hp_w ((H 199 4) + v3)) + 1)))]) (ok_X6_placeOnErrand hG t v2 (hp_w ((hp_w ((H 199 4) + v3)) + 1)) H ht r2 (hp_rw _) rH _ g6) cal_X6_placeOnErrand (tw_0 ht) (tw_p ht) (C := RX6) (T := TX6) (N := 12) rfl rfl ins_X6_placeOnErrand sel_X6_placeOnErrand wm_457 (by decide) rfl rfl (Nat.le_of_ble_eq_true rfl) dX2_foreseeOne_37 (fun z9 => ?_)
      have rc7 := z9
      refine x_istore (L' := [(4, .int (hp_I c7)), (0, .ref (hp_ad G 199)), (1, .ref (hp_ad G t)), (2, .int (hp_I v2)), (3, .int (hp_I v3))]) dX2_foreseeOne_40 (by decide) rfl ?_
      refine x_aload_n dX2_foreseeOne_42 1 rfl ?_
      refine x_getr 0 (sc_199 hG) (by decide) (C := RX2) (T := TX2) (N := 8) rfl in_X2 (by decide) rfl wf_161 dX2_foreseeOne_43 ?_
      refine x_iload_n dX2_foreseeOne_46 3 rfl ?_
      obtain ⟨b8, h⟩ := hp_ck_e h
      refine x_a4 6 rfl (sc_200 hG) (by decide) (by decide) b8 dX2_foreseeOne_47 ?_
      refine x_iload_n dX2_foreseeOne_48 4 rfl ?_
      refine x_iconst dX2_foreseeOne_49 ?_
      refine x_iadd dX2_foreseeOne_50 ?_
      refine x_iload dX2_foreseeOne_51 0 rfl ?_
      obtain ⟨b9, h⟩ := hp_ck_e h
      obtain ⟨H10, eH10⟩ : ∃ z : hp_H, z = hp_up H (201 + v2) (hp_w (v3 + 1)) c7 := ⟨_, rfl⟩
      replace h := hp_let_e eH10 h
      have rH10 := hp_ine eH10 (hp_in_up rH rc7)
      refine x_ias 199 rfl eH10 (sc_pl hG b8) (sc_plp b8) (Nat.le_of_ble_eq_true rfl) b9 dX2_foreseeOne_53 ?_
      refine x_aload_n dX2_foreseeOne_54 1 rfl ?_
      refine x_getr 1 (sc_199 hG) (by decide) (C := RX2) (T := TX2) (N := 8) rfl in_X2 (by decide) rfl wf_162 dX2_foreseeOne_55 ?_
      refine x_iload_n dX2_foreseeOne_58 4 rfl ?_
      refine x_dup2 rfl rfl dX2_foreseeOne_59 ?_
      obtain ⟨b11, h⟩ := hp_ck_e h
      refine x_ia 198 rfl (sc_207 hG) (by decide) (Nat.le_of_ble_eq_true rfl) b11 dX2_foreseeOne_60 ?_
      refine x_iload dX2_foreseeOne_61 0 rfl ?_
      refine x_aload_n dX2_foreseeOne_63 1 rfl ?_
      refine x_getr 0 (sc_199 hG) (by decide) (C := RX2) (T := TX2) (N := 8) rfl in_X2 (by decide) rfl wf_161 dX2_foreseeOne_64 ?_
      refine x_iload_n dX2_foreseeOne_67 3 rfl ?_
      refine x_a4 6 rfl (sc_200 hG) (by decide) (by decide) b8 dX2_foreseeOne_68 ?_
      refine x_iload_n dX2_foreseeOne_69 4 rfl ?_
      obtain ⟨b12, h⟩ := hp_ck_e h
      refine x_ia 199 rfl (sc_pl hG b8) (sc_plp b8) (Nat.le_of_ble_eq_true rfl) b12 dX2_foreseeOne_70 ?_
      obtain ⟨m13, em13⟩ : ∃ z : Int, z = (if (H10 (201 + v2) v3) < c7 then (hp_shl 1 v2) else 0) := ⟨_, rfl⟩
      replace h := hp_let_e em13 h
      have rm13 := hp_re em13 (hp_rite (hp_rshl _ _) (hp_rc rfl))
      have kj : hp_R G l cX2_foreseeOne 5 none "HeelPost$Errands" (hp_rm 2) vv H' Z 81 [(0, .ref (hp_ad G 199)), (1, .ref (hp_ad G t)), (2, .int (hp_I v2)), (3, .int (hp_I v3)), (4, .int (hp_I c7))] [.int (hp_I m13), .int (hp_I (H10 207 v3)), .int (hp_I v3), .ref (hp_ad G 207)] H10 := by
        refine x_ior dX2_foreseeOne_81 ?_
        obtain ⟨H14, eH14⟩ : ∃ z : hp_H, z = hp_up H10 207 v3 (hp_or (H10 207 v3) m13) := ⟨_, rfl⟩
        replace h := hp_let_e eH14 h
        have rH14 := hp_ine eH14 (hp_in_up rH10 (hp_ror _ _))
        refine x_ias 198 rfl eH14 (sc_207 hG) (by decide) (Nat.le_of_ble_eq_true rfl) b11 dX2_foreseeOne_82 ?_
        refine x_aload_n dX2_foreseeOne_83 0 rfl ?_
        refine x_getr 2 (sc_199 hG) (by decide) (C := RX2) (T := TX2) (N := 8) rfl in_X2 (by decide) rfl wf_163 dX2_foreseeOne_84 ?_
        refine x_iload_n dX2_foreseeOne_87 3 rfl ?_
        refine x_dup2 rfl rfl dX2_foreseeOne_88 ?_
        refine x_ia 198 rfl (sc_208 hG) (by decide) (Nat.le_of_ble_eq_true rfl) b11 dX2_foreseeOne_89 ?_
        refine x_iload dX2_foreseeOne_90 4 rfl ?_
        refine x_aload_n dX2_foreseeOne_92 0 rfl ?_
        refine x_getr 0 (sc_199 hG) (by decide) (C := RX2) (T := TX2) (N := 8) rfl in_X2 (by decide) rfl wf_161 dX2_foreseeOne_93 ?_
        refine x_iload_n dX2_foreseeOne_96 2 rfl ?_
        refine x_a4 6 rfl (sc_200 hG) (by decide) (by decide) b8 dX2_foreseeOne_97 ?_
        refine x_iload_n dX2_foreseeOne_98 3 rfl ?_
        refine x_ia 199 rfl (sc_pl hG b8) (sc_plp b8) (Nat.le_of_ble_eq_true rfl) b12 dX2_foreseeOne_99 ?_
        obtain ⟨m15, em15⟩ : ∃ z : Int, z = (if c7 < (H14 (201 + v2) v3) then (hp_shl 1 v2) else 0) := ⟨_, rfl⟩
        replace h := hp_let_e em15 h
        have rm15 := hp_re em15 (hp_rite (hp_rshl _ _) (hp_rc rfl))
        have kj : hp_R G l cX2_foreseeOne 5 none "HeelPost$Errands" (hp_rm 2) vv H' Z 110 [(0, .ref (hp_ad G 199)), (1, .ref (hp_ad G t)), (2, .int (hp_I v2)), (3, .int (hp_I v3))] [.int (hp_I m15), .int (hp_I (H14 208 v3)), .int (hp_I v3), .ref (hp_ad G 208)] H14 := by
          refine x_ior dX2_foreseeOne_110 ?_
          obtain ⟨H16, eH16⟩ : ∃ z : hp_H, z = hp_up H14 208 v3 (hp_or (H14 208 v3) m15) := ⟨_, rfl⟩
          replace h := hp_let_e eH16 h
          have rH16 := hp_ine eH16 (hp_in_up rH14 (hp_ror _ _))
          refine x_ias 198 rfl eH16 (sc_208 hG) (by decide) (Nat.le_of_ble_eq_true rfl) b11 dX2_foreseeOne_111 ?_
          obtain ⟨v3_17, ev3_17⟩ : ∃ z : Int, z = (hp_w (v3 + 1)) := ⟨_, rfl⟩
          replace h := hp_let_e ev3_17 h
          have rv3_17 := hp_re ev3_17 (hp_rw _)
          refine x_iiE (L' := [(3, .int (hp_I v3_17)), (0, .ref (hp_ad G 199)), (1, .ref (hp_ad G t)), (2, .int (hp_I v2))]) ev3_17 dX2_foreseeOne_112 3 rfl (by decide) rfl ?_
          refine x_goto (tgt := 19) dX2_foreseeOne_115 (by decide) ?_
          exact x_sub [1, 2, 3, 0] rfl (ih t v2 v3_17 H16 ht r2 rv3_17 rH16 _ h kx)
        clear h
        refine x_icge (tgt := 109) dX2_foreseeOne_100 (by decide) rc7 (rH14 _ _) (fun hc18 => ?_) (fun hc18 => ?_)
        · refine x_iconst dX2_foreseeOne_109 ?_
          have q9 := (em15.trans (if_neg hc18))
          subst q9
          exact x_sub [0, 1, 2, 3] rfl kj
        · refine x_iconst dX2_foreseeOne_103 ?_
          refine x_iload_n dX2_foreseeOne_104 2 rfl ?_
          refine x_ishl dX2_foreseeOne_105 ?_
          refine x_goto (tgt := 110) dX2_foreseeOne_106 (by decide) ?_
          have q9 := (em15.trans (if_pos hc18))
          subst q9
          exact x_sub [0, 1, 2, 3] rfl kj
      clear h
      refine x_icle (tgt := 80) dX2_foreseeOne_71 (by decide) rc7 (rH10 _ _) (fun hc19 => ?_) (fun hc19 => ?_)
      · refine x_iconst dX2_foreseeOne_80 ?_
        have q9 := (em13.trans (if_neg hc19))
        subst q9
        exact x_sub [1, 2, 3, 4, 0] rfl kj
      · refine x_iconst dX2_foreseeOne_74 ?_
        refine x_iload_n dX2_foreseeOne_75 3 rfl ?_
        refine x_ishl dX2_foreseeOne_76 ?_
        refine x_goto (tgt := 81) dX2_foreseeOne_77 (by decide) ?_
        have q9 := (em13.trans (if_pos hc19))
        subst q9
        exact x_sub [1, 2, 3, 4, 0] rfl kj
set_option maxRecDepth 100000 in
theorem ok_X2_foreseeOne {G : hp_G} (hG : hp_sh G = hp_shc) {l : Launch} (t : Int) (v2 : Int) (H : hp_H) (ht : hp_tw G t) (r2 : hp_r v2) (rH : hp_in H) (H' : hp_H) (h : f_X2_foreseeOne t v2 H = some H') : hp_M G l yX2_foreseeOne cX2_foreseeOne 5 none (hp_rm 2) [.ref (hp_ad G 199), .ref (hp_ad G t), .int (hp_I v2)] H none H' (hp_in H') := by
  unfold f_X2_foreseeOne at h
  refine hp_body "HeelPost$Errands" (by decide) rfl ⟨rfl, rfl⟩ (Nat.le_of_ble_eq_true rfl) ?_
  show hp_R G l cX2_foreseeOne 5 none "HeelPost$Errands" (hp_rm 2) none H' (hp_in H') 0 [(0, .ref (hp_ad G 199)), (1, .ref (hp_ad G t)), (2, .int (hp_I v2))] [] H
  refine x_aload_n dX2_foreseeOne_0 0 rfl ?_
  refine x_getr 0 (sc_199 hG) (by decide) (C := RX2) (T := TX2) (N := 8) rfl in_X2 (by decide) rfl wf_161 dX2_foreseeOne_1 ?_
  refine x_iload_n dX2_foreseeOne_4 2 rfl ?_
  obtain ⟨b1, h⟩ := hp_ck_e h
  refine x_a4 6 rfl (sc_200 hG) (by decide) (by decide) b1 dX2_foreseeOne_5 ?_
  refine x_iconst dX2_foreseeOne_6 ?_
  refine x_aload_n dX2_foreseeOne_7 1 rfl ?_
  refine x_iload_n dX2_foreseeOne_8 2 rfl ?_
  refine x_aload_n dX2_foreseeOne_9 0 rfl ?_
  refine x_gi 4 4 rfl (sc_199 hG) (by decide) (C := RX2) (T := TX2) (N := 8) rfl in_X2 (by decide) rfl wf_165 dX2_foreseeOne_10 ?_
  obtain ⟨c3, g2, h⟩ := hp_b1_e h
  refine x_ivi (As := [.int (hp_I v2), .int (hp_I (H 199 4))]) (ok_X6_placeOnErrand hG t v2 (H 199 4) H ht r2 (rH _ _) rH _ g2) cal_X6_placeOnErrand (tw_0 ht) (tw_p ht) (C := RX6) (T := TX6) (N := 12) rfl rfl ins_X6_placeOnErrand sel_X6_placeOnErrand wm_457 (by decide) rfl rfl (Nat.le_of_ble_eq_true rfl) dX2_foreseeOne_13 (fun z9 => ?_)
  have rc3 := z9
  obtain ⟨H4, eH4⟩ : ∃ z : hp_H, z = hp_up H (201 + v2) 0 c3 := ⟨_, rfl⟩
  replace h := hp_let_e eH4 h
  have rH4 := hp_ine eH4 (hp_in_up rH rc3)
  refine x_ias 199 rfl eH4 (sc_pl hG b1) (sc_plp b1) (Nat.le_of_ble_eq_true rfl) (by decide) dX2_foreseeOne_16 ?_
  refine x_iconst dX2_foreseeOne_17 ?_
  refine x_istore_n (L' := [(3, .int (hp_I 0)), (0, .ref (hp_ad G 199)), (1, .ref (hp_ad G t)), (2, .int (hp_I v2))]) dX2_foreseeOne_18 rfl (by decide) rfl ?_
  obtain ⟨H20, g21, h⟩ := hp_b1_e h
  refine x_sub [1, 2, 3, 0] rfl (ok_X2_foreseeOne_19 hG 1000 t v2 0 H4 ht r2 (hp_rc rfl) rH4 _ g21 ?_)
  intro rH20
  cases h
  exact x_vret rH20 dX2_foreseeOne_118
set_option maxRecDepth 100000 in
theorem ok_X2_foresee_25 {G : hp_G} (hG : hp_sh G = hp_shc) {l : Launch} {vv : Option Value} {H' : hp_H} {Z : Prop} : ∀ (n : Nat) (t : Int) (v3 : Int) (H : hp_H), hp_tw G t → hp_r v3 → hp_in H → ∀ Hm : hp_H, f_X2_foresee_25 n t v3 H = some Hm → (hp_in Hm → hp_R G l cX2_foresee 4 none "HeelPost$Errands" (hp_rm 3) vv H' Z 53 [(0, .ref (hp_ad G 199)), (1, .ref (hp_ad G t))] [] Hm) → hp_R G l cX2_foresee 4 none "HeelPost$Errands" (hp_rm 3) vv H' Z 25 [(0, .ref (hp_ad G 199)), (1, .ref (hp_ad G t)), (3, .int (hp_I v3))] [] H := by
  intro n
  induction n with
  | zero =>
    intro t v3 H ht r3 rH Hm h kx
    exact hp_no h
  | succ n ih =>
    intro t v3 H ht r3 rH Hm h kx
    unfold f_X2_foresee_25 at h
    refine x_iload_n dX2_foresee_25 2 rfl ?_
    refine x_aload_n dX2_foresee_26 0 rfl ?_
    refine x_gi 5 5 rfl (sc_199 hG) (by decide) (C := RX2) (T := TX2) (N := 8) rfl in_X2 (by decide) rfl wf_166 dX2_foresee_27 ?_
    refine x_icge (tgt := 53) dX2_foresee_30 (by decide) r3 (rH _ _) (fun hc3 => ?_) (fun hc3 => ?_)
    · replace h := hp_if hc3 h
      cases h
      exact x_sub [0, 1] rfl (kx rH)
    · replace h := hp_it hc3 h
      refine x_aload_n dX2_foresee_33 0 rfl ?_
      refine x_getr 1 (sc_199 hG) (by decide) (C := RX2) (T := TX2) (N := 8) rfl in_X2 (by decide) rfl wf_162 dX2_foresee_34 ?_
      refine x_iload_n dX2_foresee_37 2 rfl ?_
      refine x_iconst dX2_foresee_38 ?_
      obtain ⟨b4, h⟩ := hp_ck_e h
      obtain ⟨H5, eH5⟩ : ∃ z : hp_H, z = hp_up H 207 v3 0 := ⟨_, rfl⟩
      replace h := hp_let_e eH5 h
      have rH5 := hp_ine eH5 (hp_in_up rH (hp_rc rfl))
      refine x_ias 198 rfl eH5 (sc_207 hG) (by decide) (Nat.le_of_ble_eq_true rfl) b4 dX2_foresee_39 ?_
      refine x_aload_n dX2_foresee_40 0 rfl ?_
      refine x_getr 2 (sc_199 hG) (by decide) (C := RX2) (T := TX2) (N := 8) rfl in_X2 (by decide) rfl wf_163 dX2_foresee_41 ?_
      refine x_iload_n dX2_foresee_44 2 rfl ?_
      refine x_iconst dX2_foresee_45 ?_
      obtain ⟨H6, eH6⟩ : ∃ z : hp_H, z = hp_up H5 208 v3 0 := ⟨_, rfl⟩
      replace h := hp_let_e eH6 h
      have rH6 := hp_ine eH6 (hp_in_up rH5 (hp_rc rfl))
      refine x_ias 198 rfl eH6 (sc_208 hG) (by decide) (Nat.le_of_ble_eq_true rfl) b4 dX2_foresee_46 ?_
      obtain ⟨v3_7, ev3_7⟩ : ∃ z : Int, z = (hp_w (v3 + 1)) := ⟨_, rfl⟩
      replace h := hp_let_e ev3_7 h
      have rv3_7 := hp_re ev3_7 (hp_rw _)
      refine x_iiE (L' := [(3, .int (hp_I v3_7)), (0, .ref (hp_ad G 199)), (1, .ref (hp_ad G t))]) ev3_7 dX2_foresee_47 2 rfl (by decide) rfl ?_
      refine x_goto (tgt := 25) dX2_foresee_50 (by decide) ?_
      exact x_sub [1, 2, 0] rfl (ih t v3_7 H6 ht rv3_7 rH6 _ h kx)
set_option maxRecDepth 100000 in
theorem ok_X2_foresee_55 {G : hp_G} (hG : hp_sh G = hp_shc) {l : Launch} {vv : Option Value} {H' : hp_H} {Z : Prop} : ∀ (n : Nat) (t : Int) (v3 : Int) (H : hp_H), hp_tw G t → hp_r v3 → hp_in H → ∀ Hm : hp_H, f_X2_foresee_55 n t v3 H = some Hm → (hp_in Hm → hp_R G l cX2_foresee 4 none "HeelPost$Errands" (hp_rm 3) vv H' Z 75 [] [] Hm) → hp_R G l cX2_foresee 4 none "HeelPost$Errands" (hp_rm 3) vv H' Z 55 [(0, .ref (hp_ad G 199)), (1, .ref (hp_ad G t)), (3, .int (hp_I v3))] [] H := by
  intro n
  induction n with
  | zero =>
    intro t v3 H ht r3 rH Hm h kx
    exact hp_no h
  | succ n ih =>
    intro t v3 H ht r3 rH Hm h kx
    unfold f_X2_foresee_55 at h
    refine x_iload_n dX2_foresee_55 2 rfl ?_
    refine x_aload_n dX2_foresee_56 1 rfl ?_
    refine x_gi 2 2 rfl (tw_0 ht) (tw_p ht) (C := RX6) (T := TX6) (N := 12) rfl in_X6 (by decide) rfl wf_75 dX2_foresee_57 ?_
    refine x_icge (tgt := 75) dX2_foresee_60 (by decide) r3 (rH _ _) (fun hc10 => ?_) (fun hc10 => ?_)
    · replace h := hp_if hc10 h
      cases h
      exact x_sub [] rfl (kx rH)
    · replace h := hp_it hc10 h
      refine x_aload_n dX2_foresee_63 0 rfl ?_
      refine x_aload_n dX2_foresee_64 1 rfl ?_
      refine x_iload_n dX2_foresee_65 2 rfl ?_
      obtain ⟨H12, g11, h⟩ := hp_b1_e h
      refine x_ivv (As := [.ref (hp_ad G t), .int (hp_I v3)]) (ok_X2_foreseeOne hG t v3 H ht r3 rH _ g11) cal_X2_foreseeOne (sc_199 hG) (by decide) (C := RX2) (T := TX2) (N := 8) rfl rfl ins_X2_foreseeOne sel_X2_foreseeOne wm_453 (by decide) rfl rfl (Nat.le_of_ble_eq_true rfl) dX2_foresee_66 (fun z9 => ?_)
      have rH12 := z9
      obtain ⟨v3_13, ev3_13⟩ : ∃ z : Int, z = (hp_w (v3 + 1)) := ⟨_, rfl⟩
      replace h := hp_let_e ev3_13 h
      have rv3_13 := hp_re ev3_13 (hp_rw _)
      refine x_iiE (L' := [(3, .int (hp_I v3_13)), (0, .ref (hp_ad G 199)), (1, .ref (hp_ad G t))]) ev3_13 dX2_foresee_69 2 rfl (by decide) rfl ?_
      refine x_goto (tgt := 55) dX2_foresee_72 (by decide) ?_
      exact x_sub [1, 2, 0] rfl (ih t v3_13 H12 ht rv3_13 rH12 _ h kx)
set_option maxRecDepth 100000 in
theorem ok_X2_foresee {G : hp_G} (hG : hp_sh G = hp_shc) {l : Launch} (t : Int) (v2 : Int) (H : hp_H) (ht : hp_tw G t) (r2 : hp_r v2) (rH : hp_in H) (H' : hp_H) (h : f_X2_foresee t v2 H = some H') : hp_M G l yX2_foresee cX2_foresee 4 none (hp_rm 3) [.ref (hp_ad G 199), .ref (hp_ad G t), .int (hp_I v2)] H none H' (hp_in H') := by
  unfold f_X2_foresee at h
  refine hp_body "HeelPost$Errands" (by decide) rfl ⟨rfl, rfl⟩ (Nat.le_of_ble_eq_true rfl) ?_
  show hp_R G l cX2_foresee 4 none "HeelPost$Errands" (hp_rm 3) none H' (hp_in H') 0 [(0, .ref (hp_ad G 199)), (1, .ref (hp_ad G t)), (2, .int (hp_I v2))] [] H
  refine x_aload_n dX2_foresee_0 0 rfl ?_
  refine x_aload_n dX2_foresee_1 1 rfl ?_
  refine x_gi 3 3 rfl (tw_0 ht) (tw_p ht) (C := RX6) (T := TX6) (N := 12) rfl in_X6 (by decide) rfl wf_80 dX2_foresee_2 ?_
  obtain ⟨H1, eH1⟩ : ∃ z : hp_H, z = hp_up H 199 4 (H t 3) := ⟨_, rfl⟩
  replace h := hp_let_e eH1 h
  have rH1 := hp_ine eH1 (hp_in_up rH (rH _ _))
  refine x_pi 4 4 rfl tyX2 eH1 (sc_199 hG) (by decide) (C := RX2) (T := TX2) (N := 8) rfl in_X2 tyX2_ok nmX2 (by decide) rfl rfl rfl wf_165 dX2_foresee_5 ?_
  refine x_aload_n dX2_foresee_8 0 rfl ?_
  refine x_iload_n dX2_foresee_9 2 rfl ?_
  refine x_iconst dX2_foresee_10 ?_
  refine x_max r2 (hp_rc rfl) wm_447 stt_max ini_Math cod_max (by decide) (Nat.le_of_ble_eq_true rfl) dX2_foresee_11 ?_
  refine x_sipush rfl dX2_foresee_14 ?_
  refine x_min (hp_rmax r2 (hp_rc rfl)) (hp_rc rfl) wm_450 stt_min ini_Math cod_min (by decide) (Nat.le_of_ble_eq_true rfl) dX2_foresee_17 ?_
  obtain ⟨H2, eH2⟩ : ∃ z : hp_H, z = hp_up H1 199 5 (hp_min (hp_max v2 0) 198) := ⟨_, rfl⟩
  replace h := hp_let_e eH2 h
  have rH2 := hp_ine eH2 (hp_in_up rH1 (hp_rmin (hp_rmax r2 (hp_rc rfl)) (hp_rc rfl)))
  refine x_pi 5 5 rfl tyX2 eH2 (sc_199 hG) (by decide) (C := RX2) (T := TX2) (N := 8) rfl in_X2 tyX2_ok nmX2 (by decide) rfl rfl rfl wf_166 dX2_foresee_20 ?_
  refine x_iconst dX2_foresee_23 ?_
  refine x_istore_n (L' := [(3, .int (hp_I 0)), (0, .ref (hp_ad G 199)), (1, .ref (hp_ad G t)), (2, .int (hp_I v2))]) dX2_foresee_24 rfl (by decide) rfl ?_
  obtain ⟨H8, g9, h⟩ := hp_b1_e h
  refine x_sub [1, 2, 0] rfl (ok_X2_foresee_25 hG 1000 t 0 H2 ht (hp_rc rfl) rH2 _ g9 ?_)
  intro rH8
  refine x_iconst dX2_foresee_53 ?_
  refine x_istore_n (L' := [(3, .int (hp_I 0)), (0, .ref (hp_ad G 199)), (1, .ref (hp_ad G t))]) dX2_foresee_54 rfl (by decide) rfl ?_
  obtain ⟨H14, g15, h⟩ := hp_b1_e h
  refine x_sub [1, 2, 0] rfl (ok_X2_foresee_55 hG 1000 t 0 H8 ht (hp_rc rfl) rH8 _ g15 ?_)
  intro rH14
  cases h
  exact x_vret rH14 dX2_foresee_75
set_option maxRecDepth 100000 in
theorem ok_X2_carrierOf_72 {G : hp_G} (hG : hp_sh G = hp_shc) {l : Launch} {r : Int} : ∀ (n : Nat) (t : Int) (v2 : Int) (v3 : Int) (v5 : Int) (v6 : Int) (H : hp_H), hp_tw G t → hp_r v2 → hp_r v3 → hp_r v5 → hp_r v6 → hp_in H → f_X2_carrierOf_72 n t v2 v3 v5 v6 H = some r → hp_R G l cX2_carrierOf 7 (some .int) "HeelPost$Errands" (hp_rm 1) (some (.int (hp_I r))) H (hp_r r) 72 [(0, .ref (hp_ad G 199)), (1, .ref (hp_ad G t)), (2, .int (hp_I v2)), (3, .int (hp_I v3)), (5, .int (hp_I v5)), (6, .int (hp_I v6))] [] H := by
  intro n
  induction n with
  | zero =>
    intro t v2 v3 v5 v6 H ht r2 r3 r5 r6 rH h
    exact hp_no h
  | succ n ih =>
    intro t v2 v3 v5 v6 H ht r2 r3 r5 r6 rH h
    unfold f_X2_carrierOf_72 at h
    refine x_iload dX2_carrierOf_72 5 rfl ?_
    refine x_aload_n dX2_carrierOf_74 1 rfl ?_
    refine x_gi 2 2 rfl (tw_0 ht) (tw_p ht) (C := RX6) (T := TX6) (N := 12) rfl in_X6 (by decide) rfl wf_75 dX2_carrierOf_75 ?_
    refine x_icge (tgt := 119) dX2_carrierOf_78 (by decide) r6 (rH _ _) (fun hc9 => ?_) (fun hc9 => ?_)
    · replace h := hp_if hc9 h
      refine x_ldc (x := (-1000000)) wc_485 rfl dX2_carrierOf_119 ?_
      cases h
      exact x_iret (hp_rc rfl) dX2_carrierOf_121
    · replace h := hp_it hc9 h
      refine x_iload dX2_carrierOf_81 4 rfl ?_
      refine x_iload dX2_carrierOf_83 5 rfl ?_
      refine x_ishr dX2_carrierOf_85 ?_
      refine x_iconst dX2_carrierOf_86 ?_
      refine x_iand dX2_carrierOf_87 ?_
      refine x_iconst dX2_carrierOf_88 ?_
      refine x_icne (tgt := 113) dX2_carrierOf_89 (by decide) (hp_rand _ _) (hp_rc rfl) (fun hc10 => ?_) (fun hc10 => ?_)
      · replace h := hp_if hc10 h
        obtain ⟨v6_16, ev6_16⟩ : ∃ z : Int, z = (hp_w (v6 + 1)) := ⟨_, rfl⟩
        replace h := hp_let_e ev6_16 h
        have rv6_16 := hp_re ev6_16 (hp_rw _)
        refine x_iiE (L' := [(6, .int (hp_I v6_16)), (0, .ref (hp_ad G 199)), (1, .ref (hp_ad G t)), (2, .int (hp_I v2)), (3, .int (hp_I v3)), (5, .int (hp_I v5))]) ev6_16 dX2_carrierOf_113 5 rfl (by decide) rfl ?_
        refine x_goto (tgt := 72) dX2_carrierOf_116 (by decide) ?_
        exact x_sub [1, 2, 3, 4, 5, 0] rfl (ih t v2 v3 v5 v6_16 H ht r2 r3 r5 rv6_16 rH h)
      · replace h := hp_it hc10 h
        refine x_aload_n dX2_carrierOf_92 0 rfl ?_
        refine x_getr 0 (sc_199 hG) (by decide) (C := RX2) (T := TX2) (N := 8) rfl in_X2 (by decide) rfl wf_161 dX2_carrierOf_93 ?_
        refine x_iload dX2_carrierOf_96 5 rfl ?_
        obtain ⟨b11, h⟩ := hp_ck_e h
        refine x_a4 6 rfl (sc_200 hG) (by decide) (by decide) b11 dX2_carrierOf_98 ?_
        refine x_iload_n dX2_carrierOf_99 3 rfl ?_
        obtain ⟨b12, h⟩ := hp_ck_e h
        refine x_ia 199 rfl (sc_pl hG b11) (sc_plp b11) (Nat.le_of_ble_eq_true rfl) b12 dX2_carrierOf_100 ?_
        refine x_aload_n dX2_carrierOf_101 1 rfl ?_
        refine x_getr 10 (tw_0 ht) (tw_p ht) (C := RX6) (T := TX6) (N := 12) rfl in_X6 (by decide) rfl wf_103 dX2_carrierOf_102 ?_
        refine x_iload_n dX2_carrierOf_105 2 rfl ?_
        obtain ⟨b13, h⟩ := hp_ck_e h
        refine x_ia 4 rfl (tw_5 ht) (tw_p5 ht) (Nat.le_of_ble_eq_true rfl) b13 dX2_carrierOf_106 ?_
        refine x_icne (tgt := 113) dX2_carrierOf_107 (by decide) (rH _ _) (rH _ _) (fun hc14 => ?_) (fun hc14 => ?_)
        · replace h := hp_if hc14 h
          obtain ⟨v6_15, ev6_15⟩ : ∃ z : Int, z = (hp_w (v6 + 1)) := ⟨_, rfl⟩
          replace h := hp_let_e ev6_15 h
          have rv6_15 := hp_re ev6_15 (hp_rw _)
          refine x_iiE (L' := [(6, .int (hp_I v6_15)), (0, .ref (hp_ad G 199)), (1, .ref (hp_ad G t)), (2, .int (hp_I v2)), (3, .int (hp_I v3)), (5, .int (hp_I v5))]) ev6_15 dX2_carrierOf_113 5 rfl (by decide) rfl ?_
          refine x_goto (tgt := 72) dX2_carrierOf_116 (by decide) ?_
          exact x_sub [1, 2, 3, 4, 5, 0] rfl (ih t v2 v3 v5 v6_15 H ht r2 r3 r5 rv6_15 rH h)
        · replace h := hp_it hc14 h
          refine x_iload dX2_carrierOf_110 5 rfl ?_
          cases h
          exact x_iret r6 dX2_carrierOf_112
set_option maxRecDepth 100000 in
theorem ok_X2_carrierOf {G : hp_G} (hG : hp_sh G = hp_shc) {l : Launch} (t : Int) (v2 : Int) (v3 : Int) (H : hp_H) (ht : hp_tw G t) (r2 : hp_r v2) (r3 : hp_r v3) (rH : hp_in H) (r : Int) (h : f_X2_carrierOf t v2 v3 H = some r) : hp_M G l yX2_carrierOf cX2_carrierOf 7 (some .int) (hp_rm 1) [.ref (hp_ad G 199), .ref (hp_ad G t), .int (hp_I v2), .int (hp_I v3)] H (some (.int (hp_I r))) H (hp_r r) := by
  unfold f_X2_carrierOf at h
  refine hp_body "HeelPost$Errands" (by decide) rfl ⟨rfl, rfl⟩ (Nat.le_of_ble_eq_true rfl) ?_
  show hp_R G l cX2_carrierOf 7 (some .int) "HeelPost$Errands" (hp_rm 1) (some (.int (hp_I r))) H (hp_r r) 0 [(0, .ref (hp_ad G 199)), (1, .ref (hp_ad G t)), (2, .int (hp_I v2)), (3, .int (hp_I v3))] [] H
  refine x_aload_n dX2_carrierOf_0 1 rfl ?_
  refine x_iload_n dX2_carrierOf_1 2 rfl ?_
  obtain ⟨c2, g1, h⟩ := hp_b1_e h
  refine x_ivi (As := [.int (hp_I v2)]) (ok_X6_isUnderWay hG t v2 H ht r2 rH _ g1) cal_X6_isUnderWay (tw_0 ht) (tw_p ht) (C := RX6) (T := TX6) (N := 12) rfl rfl ins_X6_isUnderWay sel_X6_isUnderWay wm_481 (by decide) rfl rfl (Nat.le_of_ble_eq_true rfl) dX2_carrierOf_2 (fun z9 => ?_)
  have rc2 := z9
  refine x_ifne (tgt := 11) dX2_carrierOf_5 (by decide) rc2 (fun hc3 => ?_) (fun hc3 => ?_)
  · replace h := hp_if hc3 h
    refine x_aload_n dX2_carrierOf_11 1 rfl ?_
    refine x_getr 11 (tw_0 ht) (tw_p ht) (C := RX6) (T := TX6) (N := 12) rfl in_X6 (by decide) rfl wf_107 dX2_carrierOf_12 ?_
    refine x_iload_n dX2_carrierOf_15 2 rfl ?_
    obtain ⟨b4, h⟩ := hp_ck_e h
    refine x_ia 4 rfl (tw_6 ht) (tw_p6 ht) (Nat.le_of_ble_eq_true rfl) b4 dX2_carrierOf_16 ?_
    refine x_aload_n dX2_carrierOf_17 1 rfl ?_
    refine x_getr 10 (tw_0 ht) (tw_p ht) (C := RX6) (T := TX6) (N := 12) rfl in_X6 (by decide) rfl wf_103 dX2_carrierOf_18 ?_
    refine x_iload_n dX2_carrierOf_21 2 rfl ?_
    refine x_ia 4 rfl (tw_5 ht) (tw_p5 ht) (Nat.le_of_ble_eq_true rfl) b4 dX2_carrierOf_22 ?_
    obtain ⟨m5, hm6, h⟩ := hp_b1_e h
    have kj : hp_r m5 → hp_R G l cX2_carrierOf 7 (some .int) "HeelPost$Errands" (hp_rm 1) (some (.int (hp_I r))) H (hp_r r) 41 [(0, .ref (hp_ad G 199)), (1, .ref (hp_ad G t)), (2, .int (hp_I v2)), (3, .int (hp_I v3))] [.int (hp_I m5)] H := by
      intro rm5
      refine x_istore (L' := [(4, .int (hp_I m5)), (0, .ref (hp_ad G 199)), (1, .ref (hp_ad G t)), (2, .int (hp_I v2)), (3, .int (hp_I v3))]) dX2_carrierOf_41 (by decide) rfl ?_
      refine x_iload dX2_carrierOf_43 0 rfl ?_
      refine x_aload_n dX2_carrierOf_45 2 rfl ?_
      refine x_gi 5 5 rfl (tw_0 ht) (tw_p ht) (C := RX6) (T := TX6) (N := 12) rfl in_X6 (by decide) rfl wf_86 dX2_carrierOf_46 ?_
      refine x_iconst dX2_carrierOf_49 ?_
      refine x_ixor dX2_carrierOf_50 ?_
      refine x_iand dX2_carrierOf_51 ?_
      refine x_aload_n dX2_carrierOf_52 1 rfl ?_
      refine x_gi 6 6 rfl (sc_199 hG) (by decide) (C := RX2) (T := TX2) (N := 8) rfl in_X2 (by decide) rfl wf_167 dX2_carrierOf_53 ?_
      refine x_iconst dX2_carrierOf_56 ?_
      refine x_ixor dX2_carrierOf_57 ?_
      refine x_iand dX2_carrierOf_58 ?_
      obtain ⟨v5_7, ev5_7⟩ : ∃ z : Int, z = (hp_and (hp_and m5 (hp_xor (H t 5) (-1))) (hp_xor (H 199 6) (-1))) := ⟨_, rfl⟩
      replace h := hp_let_e ev5_7 h
      have rv5_7 := hp_re ev5_7 (hp_rand _ _)
      refine x_isE (L' := [(5, .int (hp_I v5_7)), (4, .int (hp_I m5)), (0, .ref (hp_ad G 199)), (1, .ref (hp_ad G t)), (2, .int (hp_I v2)), (3, .int (hp_I v3))]) ev5_7 dX2_carrierOf_59 (by decide) rfl ?_
      refine x_iload dX2_carrierOf_61 0 rfl ?_
      refine x_ifne (tgt := 69) dX2_carrierOf_63 (by decide) rv5_7 (fun hc8 => ?_) (fun hc8 => ?_)
      · replace h := hp_if hc8 h
        refine x_iconst dX2_carrierOf_69 ?_
        refine x_istore (L' := [(6, .int (hp_I 0)), (5, .int (hp_I v5_7)), (4, .int (hp_I m5)), (0, .ref (hp_ad G 199)), (1, .ref (hp_ad G t)), (2, .int (hp_I v2)), (3, .int (hp_I v3))]) dX2_carrierOf_70 (by decide) rfl ?_
        exact x_sub [3, 4, 5, 6, 1, 0] rfl (ok_X2_carrierOf_72 hG 1000 t v2 v3 v5_7 0 H ht r2 r3 rv5_7 (hp_rc rfl) rH h)
      · replace h := hp_it hc8 h
        refine x_ldc (x := (-1000000)) wc_485 rfl dX2_carrierOf_66 ?_
        cases h
        exact x_iret (hp_rc rfl) dX2_carrierOf_68
    clear h
    have h := hm6
    clear hm6
    refine x_icle (tgt := 35) dX2_carrierOf_23 (by decide) (rH _ _) (rH _ _) (fun hc17 => ?_) (fun hc17 => ?_)
    · replace h := hp_if hc17 h
      refine x_aload_n dX2_carrierOf_35 0 rfl ?_
      refine x_getr 2 (sc_199 hG) (by decide) (C := RX2) (T := TX2) (N := 8) rfl in_X2 (by decide) rfl wf_163 dX2_carrierOf_36 ?_
      refine x_iload_n dX2_carrierOf_39 3 rfl ?_
      obtain ⟨b19, h⟩ := hp_ck_e h
      refine x_ia 198 rfl (sc_208 hG) (by decide) (Nat.le_of_ble_eq_true rfl) b19 dX2_carrierOf_40 ?_
      cases h
      exact x_sub [0, 1, 2, 3] rfl (kj (rH _ _))
    · replace h := hp_it hc17 h
      refine x_aload_n dX2_carrierOf_26 0 rfl ?_
      refine x_getr 1 (sc_199 hG) (by decide) (C := RX2) (T := TX2) (N := 8) rfl in_X2 (by decide) rfl wf_162 dX2_carrierOf_27 ?_
      refine x_iload_n dX2_carrierOf_30 3 rfl ?_
      obtain ⟨b18, h⟩ := hp_ck_e h
      refine x_ia 198 rfl (sc_207 hG) (by decide) (Nat.le_of_ble_eq_true rfl) b18 dX2_carrierOf_31 ?_
      refine x_goto (tgt := 41) dX2_carrierOf_32 (by decide) ?_
      cases h
      exact x_sub [0, 1, 2, 3] rfl (kj (rH _ _))
  · replace h := hp_it hc3 h
    refine x_ldc (x := (-1000000)) wc_485 rfl dX2_carrierOf_8 ?_
    cases h
    exact x_iret (hp_rc rfl) dX2_carrierOf_10
set_option maxRecDepth 100000 in
theorem ok_X2_carryOn {G : hp_G} (hG : hp_sh G = hp_shc) {l : Launch} (t : Int) (v2 : Int) (v3 : Int) (H : hp_H) (ht : hp_tw G t) (r2 : hp_r v2) (r3 : hp_r v3) (rH : hp_in H) (H' : hp_H) (h : f_X2_carryOn t v2 v3 H = some H') : hp_M G l yX2_carryOn cX2_carryOn 7 none (hp_rm 1) [.ref (hp_ad G 199), .ref (hp_ad G t), .int (hp_I v2), .int (hp_I v3)] H none H' (hp_in H') := by
  unfold f_X2_carryOn at h
  refine hp_body "HeelPost$Errands" (by decide) rfl ⟨rfl, rfl⟩ (Nat.le_of_ble_eq_true rfl) ?_
  show hp_R G l cX2_carryOn 7 none "HeelPost$Errands" (hp_rm 1) none H' (hp_in H') 0 [(0, .ref (hp_ad G 199)), (1, .ref (hp_ad G t)), (2, .int (hp_I v2)), (3, .int (hp_I v3))] [] H
  refine x_aload_n dX2_carryOn_0 0 rfl ?_
  refine x_getr 3 (sc_199 hG) (by decide) (C := RX2) (T := TX2) (N := 8) rfl in_X2 (by decide) rfl wf_164 dX2_carryOn_1 ?_
  refine x_iload_n dX2_carryOn_4 2 rfl ?_
  obtain ⟨b1, h⟩ := hp_ck_e h
  refine x_ia 4 rfl (sc_209 hG) (by decide) (Nat.le_of_ble_eq_true rfl) b1 dX2_carryOn_5 ?_
  obtain ⟨v4_2, ev4_2⟩ : ∃ z : Int, z = (H 209 v2) := ⟨_, rfl⟩
  replace h := hp_let_e ev4_2 h
  have rv4_2 := hp_re ev4_2 (rH _ _)
  refine x_isE (L' := [(4, .int (hp_I v4_2)), (0, .ref (hp_ad G 199)), (1, .ref (hp_ad G t)), (2, .int (hp_I v2)), (3, .int (hp_I v3))]) ev4_2 dX2_carryOn_6 (by decide) rfl ?_
  refine x_aload_n dX2_carryOn_8 1 rfl ?_
  refine x_getr 0 (sc_199 hG) (by decide) (C := RX2) (T := TX2) (N := 8) rfl in_X2 (by decide) rfl wf_161 dX2_carryOn_9 ?_
  refine x_iload dX2_carryOn_12 0 rfl ?_
  obtain ⟨b3, h⟩ := hp_ck_e h
  refine x_a4 6 rfl (sc_200 hG) (by decide) (by decide) b3 dX2_carryOn_14 ?_
  refine x_iload_n dX2_carryOn_15 4 rfl ?_
  refine x_iconst dX2_carryOn_16 ?_
  refine x_iadd dX2_carryOn_17 ?_
  obtain ⟨b4, h⟩ := hp_ck_e h
  refine x_ia 199 rfl (sc_pl hG b3) (sc_plp b3) (Nat.le_of_ble_eq_true rfl) b4 dX2_carryOn_18 ?_
  obtain ⟨v5_5, ev5_5⟩ : ∃ z : Int, z = (H (201 + v4_2) (hp_w (v3 + 1))) := ⟨_, rfl⟩
  replace h := hp_let_e ev5_5 h
  have rv5_5 := hp_re ev5_5 (rH _ _)
  refine x_isE (L' := [(5, .int (hp_I v5_5)), (4, .int (hp_I v4_2)), (0, .ref (hp_ad G 199)), (1, .ref (hp_ad G t)), (2, .int (hp_I v2)), (3, .int (hp_I v3))]) ev5_5 dX2_carryOn_19 (by decide) rfl ?_
  refine x_aload_n dX2_carryOn_21 3 rfl ?_
  refine x_getr 11 (tw_0 ht) (tw_p ht) (C := RX6) (T := TX6) (N := 12) rfl in_X6 (by decide) rfl wf_107 dX2_carryOn_22 ?_
  refine x_iload_n dX2_carryOn_25 4 rfl ?_
  refine x_ia 4 rfl (tw_6 ht) (tw_p6 ht) (Nat.le_of_ble_eq_true rfl) b1 dX2_carryOn_26 ?_
  refine x_aload_n dX2_carryOn_27 3 rfl ?_
  refine x_getr 10 (tw_0 ht) (tw_p ht) (C := RX6) (T := TX6) (N := 12) rfl in_X6 (by decide) rfl wf_103 dX2_carryOn_28 ?_
  refine x_iload_n dX2_carryOn_31 4 rfl ?_
  refine x_ia 4 rfl (tw_5 ht) (tw_p5 ht) (Nat.le_of_ble_eq_true rfl) b1 dX2_carryOn_32 ?_
  obtain ⟨m6, em6⟩ : ∃ z : Int, z = (if (H (t + 5) v2) < (H (t + 6) v2) then 1 else 0) := ⟨_, rfl⟩
  replace h := hp_let_e em6 h
  have rm6 := hp_re em6 (hp_rite (hp_rc rfl) (hp_rc rfl))
  have zm6 : m6 = 0 ∨ m6 = 1 := by rw [em6]; exact (hp_z01 (Or.inr rfl) (Or.inl rfl))
  have kj : hp_R G l cX2_carryOn 7 none "HeelPost$Errands" (hp_rm 1) none H' (hp_in H') 41 [(0, .ref (hp_ad G 199)), (1, .ref (hp_ad G t)), (2, .int (hp_I v2)), (4, .int (hp_I v4_2)), (5, .int (hp_I v5_5))] [.int (hp_I m6)] H := by
    refine x_istore (L' := [(6, .int (hp_I m6)), (0, .ref (hp_ad G 199)), (1, .ref (hp_ad G t)), (2, .int (hp_I v2)), (4, .int (hp_I v4_2)), (5, .int (hp_I v5_5))]) dX2_carryOn_41 (by decide) rfl ?_
    refine x_aload_n dX2_carryOn_43 2 rfl ?_
    refine x_getr 10 (tw_0 ht) (tw_p ht) (C := RX6) (T := TX6) (N := 12) rfl in_X6 (by decide) rfl wf_103 dX2_carryOn_44 ?_
    refine x_iload_n dX2_carryOn_47 3 rfl ?_
    refine x_iload dX2_carryOn_48 0 rfl ?_
    obtain ⟨m7, hm8, h⟩ := hp_b1_e h
    have kj : hp_r m7 → hp_R G l cX2_carryOn 7 none "HeelPost$Errands" (hp_rm 1) none H' (hp_in H') 78 [(0, .ref (hp_ad G 199)), (1, .ref (hp_ad G t)), (4, .int (hp_I v4_2))] [.int (hp_I m7), .int (hp_I v2), .ref (hp_ad G (t + 5))] H := by
      intro rm7
      obtain ⟨H9, eH9⟩ : ∃ z : hp_H, z = hp_up H (t + 5) v2 m7 := ⟨_, rfl⟩
      replace h := hp_let_e eH9 h
      have rH9 := hp_ine eH9 (hp_in_up rH rm7)
      refine x_ias 4 rfl eH9 (tw_5 ht) (tw_p5 ht) (Nat.le_of_ble_eq_true rfl) b1 dX2_carryOn_78 ?_
      refine x_aload_n dX2_carryOn_79 1 rfl ?_
      refine x_getr 6 (tw_0 ht) (tw_p ht) (C := RX6) (T := TX6) (N := 12) rfl in_X6 (by decide) rfl wf_91 dX2_carryOn_80 ?_
      refine x_iload dX2_carryOn_83 2 rfl ?_
      refine x_ia 6 rfl (tw_1 ht) (tw_p1 ht) (Nat.le_of_ble_eq_true rfl) b3 dX2_carryOn_85 ?_
      refine x_iconst dX2_carryOn_86 ?_
      refine x_icne (tgt := 118) dX2_carryOn_87 (by decide) (rH9 _ _) (hp_rc rfl) (fun hc10 => ?_) (fun hc10 => ?_)
      · replace h := hp_if hc10 h
        refine x_aload_n dX2_carryOn_118 0 rfl ?_
        refine x_dup rfl dX2_carryOn_119 ?_
        refine x_gi 6 6 rfl (sc_199 hG) (by decide) (C := RX2) (T := TX2) (N := 8) rfl in_X2 (by decide) rfl wf_167 dX2_carryOn_120 ?_
        refine x_iconst dX2_carryOn_123 ?_
        refine x_iload dX2_carryOn_124 2 rfl ?_
        refine x_ishl dX2_carryOn_126 ?_
        refine x_ior dX2_carryOn_127 ?_
        obtain ⟨H14, eH14⟩ : ∃ z : hp_H, z = hp_up H9 199 6 (hp_or (H9 199 6) (hp_shl 1 v4_2)) := ⟨_, rfl⟩
        replace h := hp_let_e eH14 h
        have rH14 := hp_ine eH14 (hp_in_up rH9 (hp_ror _ _))
        refine x_pi 6 6 rfl tyX2 eH14 (sc_199 hG) (by decide) (C := RX2) (T := TX2) (N := 8) rfl in_X2 tyX2_ok nmX2 (by decide) rfl rfl rfl wf_167 dX2_carryOn_128 ?_
        cases h
        exact x_vret rH14 dX2_carryOn_131
      · replace h := hp_it hc10 h
        refine x_aload_n dX2_carryOn_90 0 rfl ?_
        refine x_gi 7 7 rfl (sc_199 hG) (by decide) (C := RX2) (T := TX2) (N := 8) rfl in_X2 (by decide) rfl wf_168 dX2_carryOn_91 ?_
        refine x_iload dX2_carryOn_94 2 rfl ?_
        refine x_ishr dX2_carryOn_96 ?_
        refine x_iconst dX2_carryOn_97 ?_
        refine x_iand dX2_carryOn_98 ?_
        refine x_ifne (tgt := 118) dX2_carryOn_99 (by decide) (hp_rand _ _) (fun hc11 => ?_) (fun hc11 => ?_)
        · replace h := hp_if hc11 h
          refine x_aload_n dX2_carryOn_118 0 rfl ?_
          refine x_dup rfl dX2_carryOn_119 ?_
          refine x_gi 6 6 rfl (sc_199 hG) (by decide) (C := RX2) (T := TX2) (N := 8) rfl in_X2 (by decide) rfl wf_167 dX2_carryOn_120 ?_
          refine x_iconst dX2_carryOn_123 ?_
          refine x_iload dX2_carryOn_124 2 rfl ?_
          refine x_ishl dX2_carryOn_126 ?_
          refine x_ior dX2_carryOn_127 ?_
          obtain ⟨H13, eH13⟩ : ∃ z : hp_H, z = hp_up H9 199 6 (hp_or (H9 199 6) (hp_shl 1 v4_2)) := ⟨_, rfl⟩
          replace h := hp_let_e eH13 h
          have rH13 := hp_ine eH13 (hp_in_up rH9 (hp_ror _ _))
          refine x_pi 6 6 rfl tyX2 eH13 (sc_199 hG) (by decide) (C := RX2) (T := TX2) (N := 8) rfl in_X2 tyX2_ok nmX2 (by decide) rfl rfl rfl wf_167 dX2_carryOn_128 ?_
          cases h
          exact x_vret rH13 dX2_carryOn_131
        · replace h := hp_it hc11 h
          refine x_aload_n dX2_carryOn_102 0 rfl ?_
          refine x_dup rfl dX2_carryOn_103 ?_
          refine x_gi 7 7 rfl (sc_199 hG) (by decide) (C := RX2) (T := TX2) (N := 8) rfl in_X2 (by decide) rfl wf_168 dX2_carryOn_104 ?_
          refine x_iconst dX2_carryOn_107 ?_
          refine x_iload dX2_carryOn_108 2 rfl ?_
          refine x_ishl dX2_carryOn_110 ?_
          refine x_ior dX2_carryOn_111 ?_
          obtain ⟨H12, eH12⟩ : ∃ z : hp_H, z = hp_up H9 199 7 (hp_or (H9 199 7) (hp_shl 1 v4_2)) := ⟨_, rfl⟩
          replace h := hp_let_e eH12 h
          have rH12 := hp_ine eH12 (hp_in_up rH9 (hp_ror _ _))
          refine x_pi 7 7 rfl tyX2 eH12 (sc_199 hG) (by decide) (C := RX2) (T := TX2) (N := 8) rfl in_X2 tyX2_ok nmX2 (by decide) rfl rfl rfl wf_168 dX2_carryOn_112 ?_
          refine x_goto (tgt := 131) dX2_carryOn_115 (by decide) ?_
          cases h
          exact x_vret rH12 dX2_carryOn_131
    clear h
    have h := hm8
    clear hm8
    refine x_ifeq (tgt := 67) dX2_carryOn_50 (by decide) rm6 (fun hc15 => ?_) (fun hc15 => ?_)
    · replace h := hp_it hc15 h
      refine x_iload dX2_carryOn_67 5 rfl ?_
      refine x_aload_n dX2_carryOn_69 2 rfl ?_
      refine x_getr 11 (tw_0 ht) (tw_p ht) (C := RX6) (T := TX6) (N := 12) rfl in_X6 (by decide) rfl wf_107 dX2_carryOn_70 ?_
      refine x_iload_n dX2_carryOn_73 3 rfl ?_
      refine x_ia 4 rfl (tw_6 ht) (tw_p6 ht) (Nat.le_of_ble_eq_true rfl) b1 dX2_carryOn_74 ?_
      refine x_max rv5_5 (rH _ _) wm_447 stt_max ini_Math cod_max (by decide) (Nat.le_of_ble_eq_true rfl) dX2_carryOn_75 ?_
      cases h
      exact x_sub [1, 2, 4] rfl (kj (hp_rmax rv5_5 (rH _ _)))
    · replace h := hp_if hc15 h
      refine x_iload dX2_carryOn_53 5 rfl ?_
      refine x_aload_n dX2_carryOn_55 2 rfl ?_
      refine x_getr 11 (tw_0 ht) (tw_p ht) (C := RX6) (T := TX6) (N := 12) rfl in_X6 (by decide) rfl wf_107 dX2_carryOn_56 ?_
      refine x_iload_n dX2_carryOn_59 3 rfl ?_
      refine x_ia 4 rfl (tw_6 ht) (tw_p6 ht) (Nat.le_of_ble_eq_true rfl) b1 dX2_carryOn_60 ?_
      refine x_min rv5_5 (rH _ _) wm_450 stt_min ini_Math cod_min (by decide) (Nat.le_of_ble_eq_true rfl) dX2_carryOn_61 ?_
      refine x_goto (tgt := 78) dX2_carryOn_64 (by decide) ?_
      cases h
      exact x_sub [1, 2, 4] rfl (kj (hp_rmin rv5_5 (rH _ _)))
  clear h
  refine x_icle (tgt := 40) dX2_carryOn_33 (by decide) (rH _ _) (rH _ _) (fun hc16 => ?_) (fun hc16 => ?_)
  · refine x_iconst dX2_carryOn_40 ?_
    have q9 := (em6.trans (if_neg hc16))
    subst q9
    exact x_sub [2, 3, 4, 1, 0] rfl kj
  · refine x_iconst dX2_carryOn_36 ?_
    refine x_goto (tgt := 41) dX2_carryOn_37 (by decide) ?_
    have q9 := (em6.trans (if_pos hc16))
    subst q9
    exact x_sub [2, 3, 4, 1, 0] rfl kj
set_option maxRecDepth 100000 in
theorem ok_X2_pass_35 {G : hp_G} (hG : hp_sh G = hp_shc) {l : Launch} {vv : Option Value} {H' : hp_H} {Z : Prop} : ∀ (n : Nat) (t : Int) (v2 : Int) (v3 : Int) (H : hp_H), hp_tw G t → hp_r v2 → hp_r v3 → hp_in H → ∀ Hm : hp_H, f_X2_pass_35 n t v2 v3 H = some Hm → (hp_in Hm → hp_R G l cX2_pass 4 none "HeelPost$Errands" (hp_rm 2) vv H' Z 77 [(1, .ref (hp_ad G t))] [] Hm) → hp_R G l cX2_pass 4 none "HeelPost$Errands" (hp_rm 2) vv H' Z 35 [(0, .ref (hp_ad G 199)), (1, .ref (hp_ad G t)), (2, .int (hp_I v2)), (3, .int (hp_I v3))] [] H := by
  intro n
  induction n with
  | zero =>
    intro t v2 v3 H ht r2 r3 rH Hm h kx
    exact hp_no h
  | succ n ih =>
    intro t v2 v3 H ht r2 r3 rH Hm h kx
    unfold f_X2_pass_35 at h
    refine x_iload_n dX2_pass_35 3 rfl ?_
    refine x_iconst dX2_pass_36 ?_
    refine x_icge (tgt := 77) dX2_pass_37 (by decide) r3 (hp_rc rfl) (fun hc6 => ?_) (fun hc6 => ?_)
    · replace h := hp_if hc6 h
      cases h
      exact x_sub [1] rfl (kx rH)
    · replace h := hp_it hc6 h
      refine x_aload_n dX2_pass_40 0 rfl ?_
      refine x_getr 3 (sc_199 hG) (by decide) (C := RX2) (T := TX2) (N := 8) rfl in_X2 (by decide) rfl wf_164 dX2_pass_41 ?_
      refine x_iload_n dX2_pass_44 3 rfl ?_
      refine x_aload_n dX2_pass_45 0 rfl ?_
      refine x_aload_n dX2_pass_46 1 rfl ?_
      refine x_iload_n dX2_pass_47 3 rfl ?_
      refine x_iload_n dX2_pass_48 2 rfl ?_
      obtain ⟨c8, g7, h⟩ := hp_b1_e h
      refine x_ivi (As := [.ref (hp_ad G t), .int (hp_I v3), .int (hp_I v2)]) (ok_X2_carrierOf hG t v3 v2 H ht r3 r2 rH _ g7) cal_X2_carrierOf (sc_199 hG) (by decide) (C := RX2) (T := TX2) (N := 8) rfl rfl ins_X2_carrierOf sel_X2_carrierOf wm_477 (by decide) rfl rfl (Nat.le_of_ble_eq_true rfl) dX2_pass_49 (fun z9 => ?_)
      have rc8 := z9
      obtain ⟨b9, h⟩ := hp_ck_e h
      obtain ⟨H10, eH10⟩ : ∃ z : hp_H, z = hp_up H 209 v3 c8 := ⟨_, rfl⟩
      replace h := hp_let_e eH10 h
      have rH10 := hp_ine eH10 (hp_in_up rH rc8)
      refine x_ias 4 rfl eH10 (sc_209 hG) (by decide) (Nat.le_of_ble_eq_true rfl) b9 dX2_pass_52 ?_
      refine x_aload_n dX2_pass_53 0 rfl ?_
      refine x_getr 3 (sc_199 hG) (by decide) (C := RX2) (T := TX2) (N := 8) rfl in_X2 (by decide) rfl wf_164 dX2_pass_54 ?_
      refine x_iload_n dX2_pass_57 3 rfl ?_
      refine x_ia 4 rfl (sc_209 hG) (by decide) (Nat.le_of_ble_eq_true rfl) b9 dX2_pass_58 ?_
      refine x_ldc (x := (-1000000)) wc_485 rfl dX2_pass_59 ?_
      obtain ⟨H11, hm12, h⟩ := hp_b1_e h
      have kj : hp_in H11 → hp_R G l cX2_pass 4 none "HeelPost$Errands" (hp_rm 2) vv H' Z 71 [(0, .ref (hp_ad G 199)), (1, .ref (hp_ad G t)), (2, .int (hp_I v2)), (3, .int (hp_I v3))] [] H11 := by
        intro rH11
        obtain ⟨v3_13, ev3_13⟩ : ∃ z : Int, z = (hp_w (v3 + 1)) := ⟨_, rfl⟩
        replace h := hp_let_e ev3_13 h
        have rv3_13 := hp_re ev3_13 (hp_rw _)
        refine x_iiE (L' := [(3, .int (hp_I v3_13)), (0, .ref (hp_ad G 199)), (1, .ref (hp_ad G t)), (2, .int (hp_I v2))]) ev3_13 dX2_pass_71 3 rfl (by decide) rfl ?_
        refine x_goto (tgt := 35) dX2_pass_74 (by decide) ?_
        exact x_sub [1, 2, 3, 0] rfl (ih t v2 v3_13 H11 ht r2 rv3_13 rH11 _ h kx)
      clear h
      have h := hm12
      clear hm12
      refine x_iceq (tgt := 71) dX2_pass_61 (by decide) (rH10 _ _) (hp_rc rfl) (fun hc14 => ?_) (fun hc14 => ?_)
      · replace h := hp_it hc14 h
        cases h
        exact x_sub [0, 1, 2, 3] rfl (kj rH10)
      · replace h := hp_if hc14 h
        refine x_aload_n dX2_pass_64 0 rfl ?_
        refine x_aload_n dX2_pass_65 1 rfl ?_
        refine x_iload_n dX2_pass_66 3 rfl ?_
        refine x_iload_n dX2_pass_67 2 rfl ?_
        obtain ⟨H16, g15, h⟩ := hp_b1_e h
        refine x_ivv (As := [.ref (hp_ad G t), .int (hp_I v3), .int (hp_I v2)]) (ok_X2_carryOn hG t v3 v2 H10 ht r3 r2 rH10 _ g15) cal_X2_carryOn (sc_199 hG) (by decide) (C := RX2) (T := TX2) (N := 8) rfl rfl ins_X2_carryOn sel_X2_carryOn wm_486 (by decide) rfl rfl (Nat.le_of_ble_eq_true rfl) dX2_pass_68 (fun z9 => ?_)
        have rH16 := z9
        cases h
        exact x_sub [0, 1, 2, 3] rfl (kj rH16)
set_option maxRecDepth 100000 in
theorem ok_X2_pass {G : hp_G} (hG : hp_sh G = hp_shc) {l : Launch} (t : Int) (H : hp_H) (ht : hp_tw G t) (rH : hp_in H) (H' : hp_H) (h : f_X2_pass t H = some H') : hp_M G l yX2_pass cX2_pass 4 none (hp_rm 2) [.ref (hp_ad G 199), .ref (hp_ad G t)] H none H' (hp_in H') := by
  unfold f_X2_pass at h
  refine hp_body "HeelPost$Errands" (by decide) rfl ⟨rfl, rfl⟩ (Nat.le_of_ble_eq_true rfl) ?_
  show hp_R G l cX2_pass 4 none "HeelPost$Errands" (hp_rm 2) none H' (hp_in H') 0 [(0, .ref (hp_ad G 199)), (1, .ref (hp_ad G t))] [] H
  refine x_aload_n dX2_pass_0 1 rfl ?_
  refine x_gi 3 3 rfl (tw_0 ht) (tw_p ht) (C := RX6) (T := TX6) (N := 12) rfl in_X6 (by decide) rfl wf_80 dX2_pass_1 ?_
  refine x_aload_n dX2_pass_4 0 rfl ?_
  refine x_gi 4 4 rfl (sc_199 hG) (by decide) (C := RX2) (T := TX2) (N := 8) rfl in_X2 (by decide) rfl wf_165 dX2_pass_5 ?_
  refine x_isub dX2_pass_8 ?_
  obtain ⟨v2_1, ev2_1⟩ : ∃ z : Int, z = (hp_w ((H t 3) - (H 199 4))) := ⟨_, rfl⟩
  replace h := hp_let_e ev2_1 h
  have rv2_1 := hp_re ev2_1 (hp_rw _)
  refine x_isnE (L' := [(2, .int (hp_I v2_1)), (0, .ref (hp_ad G 199)), (1, .ref (hp_ad G t))]) ev2_1 dX2_pass_9 rfl (by decide) rfl ?_
  refine x_iload_n dX2_pass_10 0 rfl ?_
  refine x_iflt (tgt := 22) dX2_pass_11 (by decide) rv2_1 (fun hc2 => ?_) (fun hc2 => ?_)
  · replace h := hp_it hc2 h
    cases h
    exact x_vret rH dX2_pass_22
  · replace h := hp_if hc2 h
    refine x_iload_n dX2_pass_14 0 rfl ?_
    refine x_aload_n dX2_pass_15 1 rfl ?_
    refine x_gi 5 5 rfl (sc_199 hG) (by decide) (C := RX2) (T := TX2) (N := 8) rfl in_X2 (by decide) rfl wf_166 dX2_pass_16 ?_
    refine x_iclt (tgt := 23) dX2_pass_19 (by decide) rv2_1 (rH _ _) (fun hc3 => ?_) (fun hc3 => ?_)
    · replace h := hp_it hc3 h
      refine x_aload_n dX2_pass_23 1 rfl ?_
      refine x_iconst dX2_pass_24 ?_
      obtain ⟨H4, eH4⟩ : ∃ z : hp_H, z = hp_up H 199 6 0 := ⟨_, rfl⟩
      replace h := hp_let_e eH4 h
      have rH4 := hp_ine eH4 (hp_in_up rH (hp_rc rfl))
      refine x_pi 6 6 rfl tyX2 eH4 (sc_199 hG) (by decide) (C := RX2) (T := TX2) (N := 8) rfl in_X2 tyX2_ok nmX2 (by decide) rfl rfl rfl wf_167 dX2_pass_25 ?_
      refine x_aload_n dX2_pass_28 1 rfl ?_
      refine x_iconst dX2_pass_29 ?_
      obtain ⟨H5, eH5⟩ : ∃ z : hp_H, z = hp_up H4 199 7 0 := ⟨_, rfl⟩
      replace h := hp_let_e eH5 h
      have rH5 := hp_ine eH5 (hp_in_up rH4 (hp_rc rfl))
      refine x_pi 7 7 rfl tyX2 eH5 (sc_199 hG) (by decide) (C := RX2) (T := TX2) (N := 8) rfl in_X2 tyX2_ok nmX2 (by decide) rfl rfl rfl wf_168 dX2_pass_30 ?_
      refine x_iconst dX2_pass_33 ?_
      refine x_istore_n (L' := [(3, .int (hp_I 0)), (2, .int (hp_I v2_1)), (0, .ref (hp_ad G 199)), (1, .ref (hp_ad G t))]) dX2_pass_34 rfl (by decide) rfl ?_
      obtain ⟨H17, g18, h⟩ := hp_b1_e h
      refine x_sub [2, 3, 1, 0] rfl (ok_X2_pass_35 hG 1000 t v2_1 0 H5 ht rv2_1 (hp_rc rfl) rH5 _ g18 ?_)
      intro rH17
      refine x_aload_n dX2_pass_77 0 rfl ?_
      refine x_dup rfl dX2_pass_78 ?_
      refine x_gi 3 3 rfl (tw_0 ht) (tw_p ht) (C := RX6) (T := TX6) (N := 12) rfl in_X6 (by decide) rfl wf_80 dX2_pass_79 ?_
      refine x_iconst dX2_pass_82 ?_
      refine x_iadd dX2_pass_83 ?_
      obtain ⟨H19, eH19⟩ : ∃ z : hp_H, z = hp_up H17 t 3 (hp_w ((H17 t 3) + 1)) := ⟨_, rfl⟩
      replace h := hp_let_e eH19 h
      have rH19 := hp_ine eH19 (hp_in_up rH17 (hp_rw _))
      refine x_pi 3 3 rfl tyX6 eH19 (tw_0 ht) (tw_p ht) (C := RX6) (T := TX6) (N := 12) rfl in_X6 tyX6_ok nmX6 (by decide) rfl rfl rfl wf_80 dX2_pass_84 ?_
      cases h
      exact x_vret rH19 dX2_pass_87
    · replace h := hp_if hc3 h
      cases h
      exact x_vret rH dX2_pass_22
set_option maxRecDepth 100000 in
theorem ok_X2_carrierThen {G : hp_G} (hG : hp_sh G = hp_shc) {l : Launch} (v1 : Int) (H : hp_H) (r1 : hp_r v1) (rH : hp_in H) (r : Int) (h : f_X2_carrierThen v1 H = some r) : hp_M G l yX2_carrierThen cX2_carrierThen 2 (some .int) (hp_rm 0) [.ref (hp_ad G 199), .int (hp_I v1)] H (some (.int (hp_I r))) H (hp_r r) := by
  unfold f_X2_carrierThen at h
  refine hp_body "HeelPost$Errands" (by decide) rfl ⟨rfl, rfl⟩ (Nat.le_of_ble_eq_true rfl) ?_
  show hp_R G l cX2_carrierThen 2 (some .int) "HeelPost$Errands" (hp_rm 0) (some (.int (hp_I r))) H (hp_r r) 0 [(0, .ref (hp_ad G 199)), (1, .int (hp_I v1))] [] H
  refine x_aload_n dX2_carrierThen_0 0 rfl ?_
  refine x_getr 3 (sc_199 hG) (by decide) (C := RX2) (T := TX2) (N := 8) rfl in_X2 (by decide) rfl wf_164 dX2_carrierThen_1 ?_
  refine x_iload_n dX2_carrierThen_4 1 rfl ?_
  obtain ⟨b1, h⟩ := hp_ck_e h
  refine x_ia 4 rfl (sc_209 hG) (by decide) (Nat.le_of_ble_eq_true rfl) b1 dX2_carrierThen_5 ?_
  cases h
  exact x_iret (rH _ _) dX2_carrierThen_6
