/-! the bytecode does what the functions say: made by program (wip/whole/gen.py) -/
set_option maxRecDepth 100000 in
theorem ok_X8_up {G : hp_G} (hG : hp_sh G = hp_shm) {l : Launch}  (H : hp_H) (rH : hp_in H) (r : Int) (h : f_X8_up  H = some r) : hp_M G l yX8_up cX8_up 1 (some .int) (hp_rm 0) [.ref (hp_ad G 0)] H (some (.int (hp_I r))) H (hp_r r) := by
  unfold f_X8_up at h
  refine hp_body "HeelPostModel" (by decide) rfl ⟨rfl, rfl⟩ (Nat.le_of_ble_eq_true rfl) ?_
  show hp_R G l cX8_up 1 (some .int) "HeelPostModel" (hp_rm 0) (some (.int (hp_I r))) H (hp_r r) 0 [(0, .ref (hp_ad G 0))] [] H
  refine x_iconst dX8_up_0 ?_
  refine x_aload_n dX8_up_1 0 rfl ?_
  refine x_getr 5 (sm_0 hG) (by decide) (C := RX8) (T := TX8) (N := 26) rfl in_X8 (by decide) rfl wf_862 dX8_up_2 ?_
  refine x_iconst dX8_up_5 ?_
  refine x_ia 41 rfl (sm_4 hG) (by decide) (Nat.le_of_ble_eq_true rfl) (by decide) dX8_up_6 ?_
  refine x_ishl dX8_up_7 ?_
  refine x_iconst dX8_up_8 ?_
  refine x_isub dX8_up_9 ?_
  refine x_aload_n dX8_up_10 0 rfl ?_
  refine x_getr 5 (sm_0 hG) (by decide) (C := RX8) (T := TX8) (N := 26) rfl in_X8 (by decide) rfl wf_862 dX8_up_11 ?_
  refine x_iconst dX8_up_14 ?_
  refine x_ia 41 rfl (sm_4 hG) (by decide) (Nat.le_of_ble_eq_true rfl) (by decide) dX8_up_15 ?_
  refine x_iconst dX8_up_16 ?_
  refine x_ixor dX8_up_17 ?_
  refine x_iand dX8_up_18 ?_
  cases h
  exact x_iret (hp_rand _ _) dX8_up_19
set_option maxRecDepth 100000 in
theorem ok_X8_crew_71 {G : hp_G} (hG : hp_sh G = hp_shm) {l : Launch} {vv : Option Value} {H' : hp_H} {Z : Prop} : ∀ (n : Nat) (v1 : Int) (v2 : Int) (v3 : Int) (v4 : Int) (v5 : Int) (v6 : Int) (H : hp_H), hp_r v1 → hp_r v2 → hp_r v3 → hp_r v4 → hp_r v5 → hp_r v6 → hp_in H → ∀ m5 : Int, ∀ Hm : hp_H, f_X8_crew_71 n v1 v2 v3 v4 v5 v6 H = some (m5, Hm) → (hp_r m5 → hp_in Hm → hp_R G l cX8_crew 7 (some .int) "HeelPostModel" (hp_rm 5) vv H' Z 155 [(3, .int (hp_I v3)), (5, .int (hp_I m5))] [] Hm) → hp_R G l cX8_crew 7 (some .int) "HeelPostModel" (hp_rm 5) vv H' Z 71 [(0, .ref (hp_ad G 0)), (1, .int (hp_I v1)), (2, .int (hp_I v2)), (3, .int (hp_I v3)), (4, .int (hp_I v4)), (5, .int (hp_I v5)), (6, .int (hp_I v6))] [] H := by
  intro n
  induction n with
  | zero =>
    intro v1 v2 v3 v4 v5 v6 H r1 r2 r3 r4 r5 r6 rH m5 Hm h kx
    exact hp_no h
  | succ n ih =>
    intro v1 v2 v3 v4 v5 v6 H r1 r2 r3 r4 r5 r6 rH m5 Hm h kx
    unfold f_X8_crew_71 at h
    refine x_iload dX8_crew_71 6 rfl ?_
    refine x_aload_n dX8_crew_73 0 rfl ?_
    obtain ⟨c16, g15, h⟩ := hp_b1_e h
    refine x_ivi (As := []) (ok_X8_up hG H rH _ g15) cal_X8_up (sm_0 hG) (by decide) (C := RX8) (T := TX8) (N := 26) rfl rfl ins_X8_up sel_X8_up wm_1175 (by decide) rfl rfl (Nat.le_of_ble_eq_true rfl) dX8_crew_74 (fun z9 => ?_)
    have rc16 := z9
    refine x_icgt (tgt := 155) dX8_crew_77 (by decide) r6 rc16 (fun hc17 => ?_) (fun hc17 => ?_)
    · replace h := hp_it hc17 h
      cases h
      exact x_sub [3, 5] rfl (kx r5 rH)
    · replace h := hp_if hc17 h
      refine x_iload dX8_crew_80 6 rfl ?_
      refine x_aload_n dX8_crew_82 0 rfl ?_
      obtain ⟨c19, g18, h⟩ := hp_b1_e h
      refine x_ivi (As := []) (ok_X8_up hG H rH _ g18) cal_X8_up (sm_0 hG) (by decide) (C := RX8) (T := TX8) (N := 26) rfl rfl ins_X8_up sel_X8_up wm_1175 (by decide) rfl rfl (Nat.le_of_ble_eq_true rfl) dX8_crew_83 (fun z9 => ?_)
      have rc19 := z9
      refine x_iconst dX8_crew_86 ?_
      refine x_ixor dX8_crew_87 ?_
      refine x_iand dX8_crew_88 ?_
      obtain ⟨v5_20, H21, hm22, h⟩ := hp_b2_e h
      have kj : hp_r v5_20 → hp_in H21 → hp_R G l cX8_crew 7 (some .int) "HeelPostModel" (hp_rm 5) vv H' Z 149 [(0, .ref (hp_ad G 0)), (1, .int (hp_I v1)), (2, .int (hp_I v2)), (3, .int (hp_I v3)), (4, .int (hp_I v4)), (5, .int (hp_I v5_20)), (6, .int (hp_I v6))] [] H21 := by
        intro rv5_20 rH21
        obtain ⟨v6_23, ev6_23⟩ : ∃ z : Int, z = (hp_w (v6 + 1)) := ⟨_, rfl⟩
        replace h := hp_let_e ev6_23 h
        have rv6_23 := hp_re ev6_23 (hp_rw _)
        refine x_iiE (L' := [(6, .int (hp_I v6_23)), (0, .ref (hp_ad G 0)), (1, .int (hp_I v1)), (2, .int (hp_I v2)), (3, .int (hp_I v3)), (4, .int (hp_I v4)), (5, .int (hp_I v5_20))]) ev6_23 dX8_crew_149 6 rfl (by decide) rfl ?_
        refine x_goto (tgt := 71) dX8_crew_152 (by decide) ?_
        exact x_sub [1, 2, 3, 4, 5, 6, 0] rfl (ih v1 v2 v3 v4 v5_20 v6_23 H21 r1 r2 r3 r4 rv5_20 rv6_23 rH21 _ _ h kx)
      clear h
      have h := hm22
      clear hm22
      refine x_ifne (tgt := 149) dX8_crew_89 (by decide) (hp_rand _ _) (fun hc24 => ?_) (fun hc24 => ?_)
      · replace h := hp_if hc24 h
        cases h
        exact x_sub [0, 1, 2, 3, 4, 5, 6] rfl (kj r5 rH)
      · replace h := hp_it hc24 h
        refine x_iload dX8_crew_92 5 rfl ?_
        refine x_ldc (x := (-1000000)) wc_989 rfl dX8_crew_94 ?_
        refine x_iceq (tgt := 112) dX8_crew_96 (by decide) r5 (hp_rc rfl) (fun hc25 => ?_) (fun hc25 => ?_)
        · replace h := hp_it hc25 h
          refine x_aload_n dX8_crew_112 0 rfl ?_
          obtain ⟨H27, g26, h⟩ := hp_b1_e h
          refine x_ivv (As := []) (ok_X8_layThen hG H rH _ g26) cal_X8_layThen (sm_0 hG) (by decide) (C := RX8) (T := TX8) (N := 26) rfl rfl ins_X8_layThen sel_X8_layThen wm_1135 (by decide) rfl rfl (Nat.le_of_ble_eq_true rfl) dX8_crew_113 (fun z9 => ?_)
          have rH27 := z9
          refine x_aload_n dX8_crew_116 0 rfl ?_
          refine x_getr 7 (sm_0 hG) (by decide) (C := RX8) (T := TX8) (N := 26) rfl in_X8 (by decide) rfl wf_864 dX8_crew_117 ?_
          refine x_iconst dX8_crew_120 ?_
          refine x_iload dX8_crew_121 4 rfl ?_
          refine x_iload dX8_crew_123 6 rfl ?_
          refine x_iconst dX8_crew_125 ?_
          refine x_ixor dX8_crew_126 ?_
          refine x_iand dX8_crew_127 ?_
          obtain ⟨H28, eH28⟩ : ∃ z : hp_H, z = hp_up H27 6 4 (hp_and v4 (hp_xor v6 (-1))) := ⟨_, rfl⟩
          replace h := hp_let_e eH28 h
          have rH28 := hp_ine eH28 (hp_in_up rH27 (hp_rand _ _))
          refine x_ias 41 rfl eH28 (sm_6 hG) (by decide) (Nat.le_of_ble_eq_true rfl) (by decide) dX8_crew_128 ?_
          refine x_aload_n dX8_crew_129 0 rfl ?_
          refine x_iload_n dX8_crew_130 1 rfl ?_
          refine x_iload_n dX8_crew_131 2 rfl ?_
          obtain ⟨c30, H31, g29, h⟩ := hp_b2_e h
          refine x_ivi (As := [.int (hp_I v1), .int (hp_I v2)]) (ok_X8_doneBy hG v1 v2 H28 r1 r2 rH28 _ g29) cal_X8_doneBy (sm_0 hG) (by decide) (C := RX8) (T := TX8) (N := 26) rfl rfl ins_X8_doneBy sel_X8_doneBy wm_1147 (by decide) rfl rfl (Nat.le_of_ble_eq_true rfl) dX8_crew_132 (fun z9 => ?_)
          obtain ⟨rc30, rH31⟩ := z9
          refine x_ldc (x := (-1000000)) wc_989 rfl dX8_crew_135 ?_
          obtain ⟨m32, em32⟩ : ∃ z : Int, z = (if c30 = (-1000000) then v5 else v6) := ⟨_, rfl⟩
          replace h := hp_let_e em32 h
          have rm32 := hp_re em32 (hp_rite r5 r6)
          have kj : hp_R G l cX8_crew 7 (some .int) "HeelPostModel" (hp_rm 5) vv H' Z 147 [(0, .ref (hp_ad G 0)), (1, .int (hp_I v1)), (2, .int (hp_I v2)), (3, .int (hp_I v3)), (4, .int (hp_I v4)), (6, .int (hp_I v6))] [.int (hp_I m32)] H31 := by
            refine x_istore (L' := [(5, .int (hp_I m32)), (0, .ref (hp_ad G 0)), (1, .int (hp_I v1)), (2, .int (hp_I v2)), (3, .int (hp_I v3)), (4, .int (hp_I v4)), (6, .int (hp_I v6))]) dX8_crew_147 (by decide) rfl ?_
            cases h
            exact x_sub [1, 2, 3, 4, 5, 0, 6] rfl (kj rm32 rH31)
          clear h
          refine x_iceq (tgt := 145) dX8_crew_137 (by decide) rc30 (hp_rc rfl) (fun hc33 => ?_) (fun hc33 => ?_)
          · refine x_iload dX8_crew_145 5 rfl ?_
            have q9 := (em32.trans (if_pos hc33))
            subst q9
            exact x_sub [0, 1, 2, 3, 4, 6] rfl kj
          · refine x_iload dX8_crew_140 6 rfl ?_
            refine x_goto (tgt := 147) dX8_crew_142 (by decide) ?_
            have q9 := (em32.trans (if_neg hc33))
            subst q9
            exact x_sub [0, 1, 2, 3, 4, 6] rfl kj
        · replace h := hp_if hc25 h
          refine x_iload dX8_crew_99 6 rfl ?_
          obtain ⟨c35, g34, h⟩ := hp_b1_e h
          refine x_isi (As := [.int (hp_I v6)]) (ok_X8_bits hG v6 H r6 rH _ g34) cal_X8_bits stt_X8_bits wm_1179 (by decide) rfl rfl (Nat.le_of_ble_eq_true rfl) dX8_crew_101 (fun z9 => ?_)
          have rc35 := z9
          refine x_iload dX8_crew_104 5 rfl ?_
          obtain ⟨c37, g36, h⟩ := hp_b1_e h
          refine x_isi (As := [.int (hp_I v5)]) (ok_X8_bits hG v5 H r5 rH _ g36) cal_X8_bits stt_X8_bits wm_1179 (by decide) rfl rfl (Nat.le_of_ble_eq_true rfl) dX8_crew_106 (fun z9 => ?_)
          have rc37 := z9
          refine x_icge (tgt := 149) dX8_crew_109 (by decide) rc35 rc37 (fun hc38 => ?_) (fun hc38 => ?_)
          · replace h := hp_if hc38 h
            cases h
            exact x_sub [0, 1, 2, 3, 4, 5, 6] rfl (kj r5 rH)
          · replace h := hp_it hc38 h
            refine x_aload_n dX8_crew_112 0 rfl ?_
            obtain ⟨H40, g39, h⟩ := hp_b1_e h
            refine x_ivv (As := []) (ok_X8_layThen hG H rH _ g39) cal_X8_layThen (sm_0 hG) (by decide) (C := RX8) (T := TX8) (N := 26) rfl rfl ins_X8_layThen sel_X8_layThen wm_1135 (by decide) rfl rfl (Nat.le_of_ble_eq_true rfl) dX8_crew_113 (fun z9 => ?_)
            have rH40 := z9
            refine x_aload_n dX8_crew_116 0 rfl ?_
            refine x_getr 7 (sm_0 hG) (by decide) (C := RX8) (T := TX8) (N := 26) rfl in_X8 (by decide) rfl wf_864 dX8_crew_117 ?_
            refine x_iconst dX8_crew_120 ?_
            refine x_iload dX8_crew_121 4 rfl ?_
            refine x_iload dX8_crew_123 6 rfl ?_
            refine x_iconst dX8_crew_125 ?_
            refine x_ixor dX8_crew_126 ?_
            refine x_iand dX8_crew_127 ?_
            obtain ⟨H41, eH41⟩ : ∃ z : hp_H, z = hp_up H40 6 4 (hp_and v4 (hp_xor v6 (-1))) := ⟨_, rfl⟩
            replace h := hp_let_e eH41 h
            have rH41 := hp_ine eH41 (hp_in_up rH40 (hp_rand _ _))
            refine x_ias 41 rfl eH41 (sm_6 hG) (by decide) (Nat.le_of_ble_eq_true rfl) (by decide) dX8_crew_128 ?_
            refine x_aload_n dX8_crew_129 0 rfl ?_
            refine x_iload_n dX8_crew_130 1 rfl ?_
            refine x_iload_n dX8_crew_131 2 rfl ?_
            obtain ⟨c43, H44, g42, h⟩ := hp_b2_e h
            refine x_ivi (As := [.int (hp_I v1), .int (hp_I v2)]) (ok_X8_doneBy hG v1 v2 H41 r1 r2 rH41 _ g42) cal_X8_doneBy (sm_0 hG) (by decide) (C := RX8) (T := TX8) (N := 26) rfl rfl ins_X8_doneBy sel_X8_doneBy wm_1147 (by decide) rfl rfl (Nat.le_of_ble_eq_true rfl) dX8_crew_132 (fun z9 => ?_)
            obtain ⟨rc43, rH44⟩ := z9
            refine x_ldc (x := (-1000000)) wc_989 rfl dX8_crew_135 ?_
            obtain ⟨m45, em45⟩ : ∃ z : Int, z = (if c43 = (-1000000) then v5 else v6) := ⟨_, rfl⟩
            replace h := hp_let_e em45 h
            have rm45 := hp_re em45 (hp_rite r5 r6)
            have kj : hp_R G l cX8_crew 7 (some .int) "HeelPostModel" (hp_rm 5) vv H' Z 147 [(0, .ref (hp_ad G 0)), (1, .int (hp_I v1)), (2, .int (hp_I v2)), (3, .int (hp_I v3)), (4, .int (hp_I v4)), (6, .int (hp_I v6))] [.int (hp_I m45)] H44 := by
              refine x_istore (L' := [(5, .int (hp_I m45)), (0, .ref (hp_ad G 0)), (1, .int (hp_I v1)), (2, .int (hp_I v2)), (3, .int (hp_I v3)), (4, .int (hp_I v4)), (6, .int (hp_I v6))]) dX8_crew_147 (by decide) rfl ?_
              cases h
              exact x_sub [1, 2, 3, 4, 5, 0, 6] rfl (kj rm45 rH44)
            clear h
            refine x_iceq (tgt := 145) dX8_crew_137 (by decide) rc43 (hp_rc rfl) (fun hc46 => ?_) (fun hc46 => ?_)
            · refine x_iload dX8_crew_145 5 rfl ?_
              have q9 := (em45.trans (if_pos hc46))
              subst q9
              exact x_sub [0, 1, 2, 3, 4, 6] rfl kj
            · refine x_iload dX8_crew_140 6 rfl ?_
              refine x_goto (tgt := 147) dX8_crew_142 (by decide) ?_
              have q9 := (em45.trans (if_neg hc46))
              subst q9
              exact x_sub [0, 1, 2, 3, 4, 6] rfl kj
set_option maxRecDepth 100000 in
theorem ok_X8_crew {G : hp_G} (hG : hp_sh G = hp_shm) {l : Launch} (v1 : Int) (v2 : Int) (v3 : Int) (H : hp_H) (r1 : hp_r v1) (r2 : hp_r v2) (r3 : hp_r v3) (rH : hp_in H) (x : Int × hp_H) (h : f_X8_crew v1 v2 v3 H = some x) : hp_M G l yX8_crew cX8_crew 7 (some .int) (hp_rm 5) [.ref (hp_ad G 0), .int (hp_I v1), .int (hp_I v2), .int (hp_I v3)] H (some (.int (hp_I x.1))) x.2 (hp_r x.1 ∧ hp_in x.2) := by
  obtain ⟨r, H'⟩ := x
  unfold f_X8_crew at h
  refine hp_body "HeelPostModel" (by decide) rfl ⟨rfl, rfl⟩ (Nat.le_of_ble_eq_true rfl) ?_
  show hp_R G l cX8_crew 7 (some .int) "HeelPostModel" (hp_rm 5) (some (.int (hp_I r))) H' (hp_r r ∧ hp_in H') 0 [(0, .ref (hp_ad G 0)), (1, .int (hp_I v1)), (2, .int (hp_I v2)), (3, .int (hp_I v3))] [] H
  refine x_aload_n dX8_crew_0 0 rfl ?_
  refine x_iconst dX8_crew_1 ?_
  obtain ⟨H1, eH1⟩ : ∃ z : hp_H, z = hp_up H 0 0 0 := ⟨_, rfl⟩
  replace h := hp_let_e eH1 h
  have rH1 := hp_ine eH1 (hp_in_up rH (hp_rc rfl))
  refine x_pi 0 0 rfl tyX8 eH1 (sm_0 hG) (by decide) (C := RX8) (T := TX8) (N := 26) rfl in_X8 tyX8_ok nmX8 (by decide) rfl rfl rfl wf_857 dX8_crew_2 ?_
  refine x_aload_n dX8_crew_5 0 rfl ?_
  refine x_iload_n dX8_crew_6 1 rfl ?_
  obtain ⟨c3, g2, h⟩ := hp_b1_e h
  refine x_ivi (As := [.int (hp_I v1)]) (ok_X8_isPosted hG v1 H1 r1 rH1 _ g2) cal_X8_isPosted (sm_0 hG) (by decide) (C := RX8) (T := TX8) (N := 26) rfl rfl ins_X8_isPosted sel_X8_isPosted wm_1077 (by decide) rfl rfl (Nat.le_of_ble_eq_true rfl) dX8_crew_7 (fun z9 => ?_)
  have rc3 := z9
  refine x_ifeq (tgt := 35) dX8_crew_10 (by decide) rc3 (fun hc4 => ?_) (fun hc4 => ?_)
  · replace h := hp_it hc4 h
    refine x_ldc (x := (-1000001)) wc_949 rfl dX8_crew_35 ?_
    cases h
    exact x_iret ⟨(hp_rc rfl), rH1⟩ dX8_crew_37
  · replace h := hp_if hc4 h
    refine x_iload_n dX8_crew_13 2 rfl ?_
    refine x_i2l r2 dX8_crew_14 ?_
    refine x_lconst (x := 1) rfl dX8_crew_15 ?_
    refine x_ldc2 (x := 99) wc_1130 rfl dX8_crew_16 ?_
    obtain ⟨c6, g5, h⟩ := hp_b1_e h
    refine x_isi (As := [.long (hp_J v2), .long (hp_J 1), .long (hp_J 99)]) (ok_X8_in hG v2 1 99 H1 (hp_rrl r2) (hp_rlc rfl) (hp_rlc rfl) rH1 _ g5) cal_X8_in stt_X8_in wm_945 (by decide) rfl rfl (Nat.le_of_ble_eq_true rfl) dX8_crew_19 (fun z9 => ?_)
    have rc6 := z9
    refine x_ifeq (tgt := 35) dX8_crew_22 (by decide) rc6 (fun hc7 => ?_) (fun hc7 => ?_)
    · replace h := hp_it hc7 h
      refine x_ldc (x := (-1000001)) wc_949 rfl dX8_crew_35 ?_
      cases h
      exact x_iret ⟨(hp_rc rfl), rH1⟩ dX8_crew_37
    · replace h := hp_if hc7 h
      refine x_iload_n dX8_crew_25 3 rfl ?_
      refine x_i2l r3 dX8_crew_26 ?_
      refine x_lconst (x := 0) rfl dX8_crew_27 ?_
      refine x_lconst (x := 1) rfl dX8_crew_28 ?_
      obtain ⟨c9, g8, h⟩ := hp_b1_e h
      refine x_isi (As := [.long (hp_J v3), .long (hp_J 0), .long (hp_J 1)]) (ok_X8_in hG v3 0 1 H1 (hp_rrl r3) (hp_rlc rfl) (hp_rlc rfl) rH1 _ g8) cal_X8_in stt_X8_in wm_945 (by decide) rfl rfl (Nat.le_of_ble_eq_true rfl) dX8_crew_29 (fun z9 => ?_)
      have rc9 := z9
      refine x_ifne (tgt := 38) dX8_crew_32 (by decide) rc9 (fun hc10 => ?_) (fun hc10 => ?_)
      · replace h := hp_if hc10 h
        refine x_aload_n dX8_crew_38 0 rfl ?_
        refine x_getr 5 (sm_0 hG) (by decide) (C := RX8) (T := TX8) (N := 26) rfl in_X8 (by decide) rfl wf_862 dX8_crew_39 ?_
        refine x_iload_n dX8_crew_42 1 rfl ?_
        obtain ⟨c12, g11, h⟩ := hp_b1_e h
        refine x_isi (As := [.ref (hp_ad G 4), .int (hp_I v1)]) (ok_X8_isOut hG 4 v1 H1 (sm_4 hG) (by decide) r1 rH1 _ g11) cal_X8_isOut stt_X8_isOut wm_1055 (by decide) rfl rfl (Nat.le_of_ble_eq_true rfl) dX8_crew_43 (fun z9 => ?_)
        have rc12 := z9
        refine x_ifne (tgt := 52) dX8_crew_46 (by decide) rc12 (fun hc13 => ?_) (fun hc13 => ?_)
        · replace h := hp_if hc13 h
          refine x_iconst dX8_crew_52 ?_
          refine x_aload_n dX8_crew_53 0 rfl ?_
          refine x_getr 5 (sm_0 hG) (by decide) (C := RX8) (T := TX8) (N := 26) rfl in_X8 (by decide) rfl wf_862 dX8_crew_54 ?_
          refine x_iconst dX8_crew_57 ?_
          refine x_ia 41 rfl (sm_4 hG) (by decide) (Nat.le_of_ble_eq_true rfl) (by decide) dX8_crew_58 ?_
          refine x_ishl dX8_crew_59 ?_
          refine x_iconst dX8_crew_60 ?_
          refine x_isub dX8_crew_61 ?_
          obtain ⟨v4_14, ev4_14⟩ : ∃ z : Int, z = (hp_w ((hp_shl 1 (H1 4 2)) - 1)) := ⟨_, rfl⟩
          replace h := hp_let_e ev4_14 h
          have rv4_14 := hp_re ev4_14 (hp_rw _)
          refine x_isE (L' := [(4, .int (hp_I v4_14)), (0, .ref (hp_ad G 0)), (1, .int (hp_I v1)), (2, .int (hp_I v2)), (3, .int (hp_I v3))]) ev4_14 dX8_crew_62 (by decide) rfl ?_
          refine x_ldc (x := (-1000000)) wc_989 rfl dX8_crew_64 ?_
          refine x_istore (L' := [(5, .int (hp_I (-1000000))), (4, .int (hp_I v4_14)), (0, .ref (hp_ad G 0)), (1, .int (hp_I v1)), (2, .int (hp_I v2)), (3, .int (hp_I v3))]) dX8_crew_66 (by decide) rfl ?_
          refine x_iconst dX8_crew_68 ?_
          refine x_istore (L' := [(6, .int (hp_I 0)), (5, .int (hp_I (-1000000))), (4, .int (hp_I v4_14)), (0, .ref (hp_ad G 0)), (1, .int (hp_I v1)), (2, .int (hp_I v2)), (3, .int (hp_I v3))]) dX8_crew_69 (by decide) rfl ?_
          obtain ⟨v5_47, H48, g49, h⟩ := hp_b2_e h
          refine x_sub [3, 4, 5, 6, 2, 1, 0] rfl (ok_X8_crew_71 hG 1000 v1 v2 v3 v4_14 (-1000000) 0 H1 r1 r2 r3 rv4_14 (hp_rc rfl) (hp_rc rfl) rH1 _ _ g49 ?_)
          intro rv5_47 rH48
          refine x_iload dX8_crew_155 1 rfl ?_
          refine x_ldc (x := (-1000000)) wc_989 rfl dX8_crew_157 ?_
          refine x_iceq (tgt := 167) dX8_crew_159 (by decide) rv5_47 (hp_rc rfl) (fun hc50 => ?_) (fun hc50 => ?_)
          · replace h := hp_it hc50 h
            refine x_iload dX8_crew_167 1 rfl ?_
            refine x_goto (tgt := 177) dX8_crew_169 (by decide) ?_
            cases h
            exact x_iret ⟨rv5_47, rH48⟩ dX8_crew_177
          · replace h := hp_if hc50 h
            refine x_iload_n dX8_crew_162 0 rfl ?_
            refine x_iconst dX8_crew_163 ?_
            refine x_icne (tgt := 172) dX8_crew_164 (by decide) r3 (hp_rc rfl) (fun hc51 => ?_) (fun hc51 => ?_)
            · replace h := hp_if hc51 h
              refine x_iload dX8_crew_172 1 rfl ?_
              obtain ⟨c53, g52, h⟩ := hp_b1_e h
              refine x_isi (As := [.int (hp_I v5_47)]) (ok_X8_bits hG v5_47 H48 rv5_47 rH48 _ g52) cal_X8_bits stt_X8_bits wm_1179 (by decide) rfl rfl (Nat.le_of_ble_eq_true rfl) dX8_crew_174 (fun z9 => ?_)
              have rc53 := z9
              cases h
              exact x_iret ⟨rc53, rH48⟩ dX8_crew_177
            · replace h := hp_it hc51 h
              refine x_iload dX8_crew_167 1 rfl ?_
              refine x_goto (tgt := 177) dX8_crew_169 (by decide) ?_
              cases h
              exact x_iret ⟨rv5_47, rH48⟩ dX8_crew_177
        · replace h := hp_it hc13 h
          refine x_ldc (x := (-1000002)) wc_1038 rfl dX8_crew_49 ?_
          cases h
          exact x_iret ⟨(hp_rc rfl), rH1⟩ dX8_crew_51
      · replace h := hp_it hc10 h
        refine x_ldc (x := (-1000001)) wc_949 rfl dX8_crew_35 ?_
        cases h
        exact x_iret ⟨(hp_rc rfl), rH1⟩ dX8_crew_37
set_option maxRecDepth 100000 in
theorem ok_X8_needed_64 {G : hp_G} (hG : hp_sh G = hp_shm) {l : Launch} {vv : Option Value} {H' : hp_H} {Z : Prop} : ∀ (n : Nat) (v1 : Int) (v2 : Int) (v3 : Int) (v4 : Int) (H : hp_H), hp_r v1 → hp_r v2 → hp_r v3 → hp_r v4 → hp_in H → ∀ m3 : Int, ∀ Hm : hp_H, f_X8_needed_64 n v1 v2 v3 v4 H = some (m3, Hm) → (hp_r m3 → hp_in Hm → hp_R G l cX8_needed 5 (some .int) "HeelPostModel" (hp_rm 5) vv H' Z 132 [(3, .int (hp_I m3))] [] Hm) → hp_R G l cX8_needed 5 (some .int) "HeelPostModel" (hp_rm 5) vv H' Z 64 [(0, .ref (hp_ad G 0)), (1, .int (hp_I v1)), (2, .int (hp_I v2)), (3, .int (hp_I v3)), (4, .int (hp_I v4))] [] H := by
  intro n
  induction n with
  | zero =>
    intro v1 v2 v3 v4 H r1 r2 r3 r4 rH m3 Hm h kx
    exact hp_no h
  | succ n ih =>
    intro v1 v2 v3 v4 H r1 r2 r3 r4 rH m3 Hm h kx
    unfold f_X8_needed_64 at h
    refine x_iload dX8_needed_64 4 rfl ?_
    refine x_aload_n dX8_needed_66 0 rfl ?_
    refine x_getr 5 (sm_0 hG) (by decide) (C := RX8) (T := TX8) (N := 26) rfl in_X8 (by decide) rfl wf_862 dX8_needed_67 ?_
    refine x_iconst dX8_needed_70 ?_
    refine x_ia 41 rfl (sm_4 hG) (by decide) (Nat.le_of_ble_eq_true rfl) (by decide) dX8_needed_71 ?_
    refine x_icge (tgt := 132) dX8_needed_72 (by decide) r4 (rH _ _) (fun hc17 => ?_) (fun hc17 => ?_)
    · replace h := hp_if hc17 h
      cases h
      exact x_sub [3] rfl (kx r3 rH)
    · replace h := hp_it hc17 h
      refine x_aload_n dX8_needed_75 0 rfl ?_
      obtain ⟨c19, g18, h⟩ := hp_b1_e h
      refine x_ivi (As := []) (ok_X8_up hG H rH _ g18) cal_X8_up (sm_0 hG) (by decide) (C := RX8) (T := TX8) (N := 26) rfl rfl ins_X8_up sel_X8_up wm_1175 (by decide) rfl rfl (Nat.le_of_ble_eq_true rfl) dX8_needed_76 (fun z9 => ?_)
      have rc19 := z9
      refine x_iload dX8_needed_79 4 rfl ?_
      obtain ⟨c21, g20, h⟩ := hp_b1_e h
      refine x_isi (As := [.int (hp_I c19), .int (hp_I v4)]) (ok_X8_has hG c19 v4 H rc19 r4 rH _ g20) cal_X8_has stt_X8_has wm_1064 (by decide) rfl rfl (Nat.le_of_ble_eq_true rfl) dX8_needed_81 (fun z9 => ?_)
      have rc21 := z9
      obtain ⟨v3_22, H23, hm24, h⟩ := hp_b2_e h
      have kj : hp_r v3_22 → hp_in H23 → hp_R G l cX8_needed 5 (some .int) "HeelPostModel" (hp_rm 5) vv H' Z 126 [(0, .ref (hp_ad G 0)), (1, .int (hp_I v1)), (2, .int (hp_I v2)), (3, .int (hp_I v3_22)), (4, .int (hp_I v4))] [] H23 := by
        intro rv3_22 rH23
        obtain ⟨v4_25, ev4_25⟩ : ∃ z : Int, z = (hp_w (v4 + 1)) := ⟨_, rfl⟩
        replace h := hp_let_e ev4_25 h
        have rv4_25 := hp_re ev4_25 (hp_rw _)
        refine x_iiE (L' := [(4, .int (hp_I v4_25)), (0, .ref (hp_ad G 0)), (1, .int (hp_I v1)), (2, .int (hp_I v2)), (3, .int (hp_I v3_22))]) ev4_25 dX8_needed_126 4 rfl (by decide) rfl ?_
        refine x_goto (tgt := 64) dX8_needed_129 (by decide) ?_
        exact x_sub [1, 2, 3, 4, 0] rfl (ih v1 v2 v3_22 v4_25 H23 r1 r2 rv3_22 rv4_25 rH23 _ _ h kx)
      clear h
      have h := hm24
      clear hm24
      refine x_ifeq (tgt := 126) dX8_needed_84 (by decide) rc21 (fun hc26 => ?_) (fun hc26 => ?_)
      · replace h := hp_it hc26 h
        cases h
        exact x_sub [0, 1, 2, 3, 4] rfl (kj r3 rH)
      · replace h := hp_if hc26 h
        refine x_aload_n dX8_needed_87 0 rfl ?_
        obtain ⟨H28, g27, h⟩ := hp_b1_e h
        refine x_ivv (As := []) (ok_X8_layThen hG H rH _ g27) cal_X8_layThen (sm_0 hG) (by decide) (C := RX8) (T := TX8) (N := 26) rfl rfl ins_X8_layThen sel_X8_layThen wm_1135 (by decide) rfl rfl (Nat.le_of_ble_eq_true rfl) dX8_needed_88 (fun z9 => ?_)
        have rH28 := z9
        refine x_aload_n dX8_needed_91 0 rfl ?_
        refine x_getr 7 (sm_0 hG) (by decide) (C := RX8) (T := TX8) (N := 26) rfl in_X8 (by decide) rfl wf_864 dX8_needed_92 ?_
        refine x_iconst dX8_needed_95 ?_
        refine x_dup2 rfl rfl dX8_needed_96 ?_
        refine x_ia 41 rfl (sm_6 hG) (by decide) (Nat.le_of_ble_eq_true rfl) (by decide) dX8_needed_97 ?_
        refine x_iconst dX8_needed_98 ?_
        refine x_iload dX8_needed_99 4 rfl ?_
        refine x_ishl dX8_needed_101 ?_
        refine x_ior dX8_needed_102 ?_
        obtain ⟨H29, eH29⟩ : ∃ z : hp_H, z = hp_up H28 6 4 (hp_or (H28 6 4) (hp_shl 1 v4)) := ⟨_, rfl⟩
        replace h := hp_let_e eH29 h
        have rH29 := hp_ine eH29 (hp_in_up rH28 (hp_ror _ _))
        refine x_ias 41 rfl eH29 (sm_6 hG) (by decide) (Nat.le_of_ble_eq_true rfl) (by decide) dX8_needed_103 ?_
        refine x_iload_n dX8_needed_104 3 rfl ?_
        refine x_aload_n dX8_needed_105 0 rfl ?_
        refine x_iload_n dX8_needed_106 1 rfl ?_
        refine x_iload_n dX8_needed_107 2 rfl ?_
        obtain ⟨c31, H32, g30, h⟩ := hp_b2_e h
        refine x_ivi (As := [.int (hp_I v1), .int (hp_I v2)]) (ok_X8_doneBy hG v1 v2 H29 r1 r2 rH29 _ g30) cal_X8_doneBy (sm_0 hG) (by decide) (C := RX8) (T := TX8) (N := 26) rfl rfl ins_X8_doneBy sel_X8_doneBy wm_1147 (by decide) rfl rfl (Nat.le_of_ble_eq_true rfl) dX8_needed_108 (fun z9 => ?_)
        obtain ⟨rc31, rH32⟩ := z9
        refine x_ldc (x := (-1000000)) wc_989 rfl dX8_needed_111 ?_
        obtain ⟨m33, em33⟩ : ∃ z : Int, z = (if c31 = (-1000000) then (hp_shl 1 v4) else 0) := ⟨_, rfl⟩
        replace h := hp_let_e em33 h
        have rm33 := hp_re em33 (hp_rite (hp_rshl _ _) (hp_rc rfl))
        have kj : hp_R G l cX8_needed 5 (some .int) "HeelPostModel" (hp_rm 5) vv H' Z 124 [(0, .ref (hp_ad G 0)), (1, .int (hp_I v1)), (2, .int (hp_I v2)), (4, .int (hp_I v4))] [.int (hp_I m33), .int (hp_I v3)] H32 := by
          refine x_ior dX8_needed_124 ?_
          obtain ⟨v3_34, ev3_34⟩ : ∃ z : Int, z = (hp_or v3 m33) := ⟨_, rfl⟩
          replace h := hp_let_e ev3_34 h
          have rv3_34 := hp_re ev3_34 (hp_ror _ _)
          refine x_isnE (L' := [(3, .int (hp_I v3_34)), (0, .ref (hp_ad G 0)), (1, .int (hp_I v1)), (2, .int (hp_I v2)), (4, .int (hp_I v4))]) ev3_34 dX8_needed_125 rfl (by decide) rfl ?_
          cases h
          exact x_sub [1, 2, 3, 0, 4] rfl (kj rv3_34 rH32)
        clear h
        refine x_icne (tgt := 123) dX8_needed_113 (by decide) rc31 (hp_rc rfl) (fun hc35 => ?_) (fun hc35 => ?_)
        · refine x_iconst dX8_needed_123 ?_
          have q9 := (em33.trans (if_neg hc35))
          subst q9
          exact x_sub [0, 1, 2, 4] rfl kj
        · refine x_iconst dX8_needed_116 ?_
          refine x_iload dX8_needed_117 4 rfl ?_
          refine x_ishl dX8_needed_119 ?_
          refine x_goto (tgt := 124) dX8_needed_120 (by decide) ?_
          have q9 := (em33.trans (if_pos hc35))
          subst q9
          exact x_sub [0, 1, 2, 4] rfl kj
set_option maxRecDepth 100000 in
theorem ok_X8_needed {G : hp_G} (hG : hp_sh G = hp_shm) {l : Launch} (v1 : Int) (v2 : Int) (H : hp_H) (r1 : hp_r v1) (r2 : hp_r v2) (rH : hp_in H) (x : Int × hp_H) (h : f_X8_needed v1 v2 H = some x) : hp_M G l yX8_needed cX8_needed 5 (some .int) (hp_rm 5) [.ref (hp_ad G 0), .int (hp_I v1), .int (hp_I v2)] H (some (.int (hp_I x.1))) x.2 (hp_r x.1 ∧ hp_in x.2) := by
  obtain ⟨r, H'⟩ := x
  unfold f_X8_needed at h
  refine hp_body "HeelPostModel" (by decide) rfl ⟨rfl, rfl⟩ (Nat.le_of_ble_eq_true rfl) ?_
  show hp_R G l cX8_needed 5 (some .int) "HeelPostModel" (hp_rm 5) (some (.int (hp_I r))) H' (hp_r r ∧ hp_in H') 0 [(0, .ref (hp_ad G 0)), (1, .int (hp_I v1)), (2, .int (hp_I v2))] [] H
  refine x_aload_n dX8_needed_0 0 rfl ?_
  refine x_iconst dX8_needed_1 ?_
  obtain ⟨H1, eH1⟩ : ∃ z : hp_H, z = hp_up H 0 0 0 := ⟨_, rfl⟩
  replace h := hp_let_e eH1 h
  have rH1 := hp_ine eH1 (hp_in_up rH (hp_rc rfl))
  refine x_pi 0 0 rfl tyX8 eH1 (sm_0 hG) (by decide) (C := RX8) (T := TX8) (N := 26) rfl in_X8 tyX8_ok nmX8 (by decide) rfl rfl rfl wf_857 dX8_needed_2 ?_
  refine x_aload_n dX8_needed_5 0 rfl ?_
  refine x_iload_n dX8_needed_6 1 rfl ?_
  obtain ⟨c3, g2, h⟩ := hp_b1_e h
  refine x_ivi (As := [.int (hp_I v1)]) (ok_X8_isPosted hG v1 H1 r1 rH1 _ g2) cal_X8_isPosted (sm_0 hG) (by decide) (C := RX8) (T := TX8) (N := 26) rfl rfl ins_X8_isPosted sel_X8_isPosted wm_1077 (by decide) rfl rfl (Nat.le_of_ble_eq_true rfl) dX8_needed_7 (fun z9 => ?_)
  have rc3 := z9
  refine x_ifeq (tgt := 25) dX8_needed_10 (by decide) rc3 (fun hc4 => ?_) (fun hc4 => ?_)
  · replace h := hp_it hc4 h
    refine x_ldc (x := (-1000001)) wc_949 rfl dX8_needed_25 ?_
    cases h
    exact x_iret ⟨(hp_rc rfl), rH1⟩ dX8_needed_27
  · replace h := hp_if hc4 h
    refine x_iload_n dX8_needed_13 2 rfl ?_
    refine x_i2l r2 dX8_needed_14 ?_
    refine x_lconst (x := 1) rfl dX8_needed_15 ?_
    refine x_ldc2 (x := 99) wc_1130 rfl dX8_needed_16 ?_
    obtain ⟨c6, g5, h⟩ := hp_b1_e h
    refine x_isi (As := [.long (hp_J v2), .long (hp_J 1), .long (hp_J 99)]) (ok_X8_in hG v2 1 99 H1 (hp_rrl r2) (hp_rlc rfl) (hp_rlc rfl) rH1 _ g5) cal_X8_in stt_X8_in wm_945 (by decide) rfl rfl (Nat.le_of_ble_eq_true rfl) dX8_needed_19 (fun z9 => ?_)
    have rc6 := z9
    refine x_ifne (tgt := 28) dX8_needed_22 (by decide) rc6 (fun hc7 => ?_) (fun hc7 => ?_)
    · replace h := hp_if hc7 h
      refine x_aload_n dX8_needed_28 0 rfl ?_
      refine x_getr 5 (sm_0 hG) (by decide) (C := RX8) (T := TX8) (N := 26) rfl in_X8 (by decide) rfl wf_862 dX8_needed_29 ?_
      refine x_iload_n dX8_needed_32 1 rfl ?_
      obtain ⟨c9, g8, h⟩ := hp_b1_e h
      refine x_isi (As := [.ref (hp_ad G 4), .int (hp_I v1)]) (ok_X8_isOut hG 4 v1 H1 (sm_4 hG) (by decide) r1 rH1 _ g8) cal_X8_isOut stt_X8_isOut wm_1055 (by decide) rfl rfl (Nat.le_of_ble_eq_true rfl) dX8_needed_33 (fun z9 => ?_)
      have rc9 := z9
      refine x_ifne (tgt := 42) dX8_needed_36 (by decide) rc9 (fun hc10 => ?_) (fun hc10 => ?_)
      · replace h := hp_if hc10 h
        refine x_aload_n dX8_needed_42 0 rfl ?_
        obtain ⟨H12, g11, h⟩ := hp_b1_e h
        refine x_ivv (As := []) (ok_X8_layThen hG H1 rH1 _ g11) cal_X8_layThen (sm_0 hG) (by decide) (C := RX8) (T := TX8) (N := 26) rfl rfl ins_X8_layThen sel_X8_layThen wm_1135 (by decide) rfl rfl (Nat.le_of_ble_eq_true rfl) dX8_needed_43 (fun z9 => ?_)
        have rH12 := z9
        refine x_aload_n dX8_needed_46 0 rfl ?_
        refine x_iload_n dX8_needed_47 1 rfl ?_
        refine x_iload_n dX8_needed_48 2 rfl ?_
        obtain ⟨c14, H15, g13, h⟩ := hp_b2_e h
        refine x_ivi (As := [.int (hp_I v1), .int (hp_I v2)]) (ok_X8_doneBy hG v1 v2 H12 r1 r2 rH12 _ g13) cal_X8_doneBy (sm_0 hG) (by decide) (C := RX8) (T := TX8) (N := 26) rfl rfl ins_X8_doneBy sel_X8_doneBy wm_1147 (by decide) rfl rfl (Nat.le_of_ble_eq_true rfl) dX8_needed_49 (fun z9 => ?_)
        obtain ⟨rc14, rH15⟩ := z9
        refine x_ldc (x := (-1000000)) wc_989 rfl dX8_needed_52 ?_
        refine x_icne (tgt := 59) dX8_needed_54 (by decide) rc14 (hp_rc rfl) (fun hc16 => ?_) (fun hc16 => ?_)
        · replace h := hp_if hc16 h
          refine x_iconst dX8_needed_59 ?_
          refine x_istore_n (L' := [(3, .int (hp_I 0)), (0, .ref (hp_ad G 0)), (1, .int (hp_I v1)), (2, .int (hp_I v2))]) dX8_needed_60 rfl (by decide) rfl ?_
          refine x_iconst dX8_needed_61 ?_
          refine x_istore (L' := [(4, .int (hp_I 0)), (3, .int (hp_I 0)), (0, .ref (hp_ad G 0)), (1, .int (hp_I v1)), (2, .int (hp_I v2))]) dX8_needed_62 (by decide) rfl ?_
          obtain ⟨v3_36, H37, g38, h⟩ := hp_b2_e h
          refine x_sub [2, 3, 4, 1, 0] rfl (ok_X8_needed_64 hG 1000 v1 v2 0 0 H15 r1 r2 (hp_rc rfl) (hp_rc rfl) rH15 _ _ g38 ?_)
          intro rv3_36 rH37
          refine x_iload_n dX8_needed_132 0 rfl ?_
          cases h
          exact x_iret ⟨rv3_36, rH37⟩ dX8_needed_133
        · replace h := hp_it hc16 h
          refine x_iconst dX8_needed_57 ?_
          cases h
          exact x_iret ⟨(hp_rc rfl), rH15⟩ dX8_needed_58
      · replace h := hp_it hc10 h
        refine x_ldc (x := (-1000002)) wc_1038 rfl dX8_needed_39 ?_
        cases h
        exact x_iret ⟨(hp_rc rfl), rH1⟩ dX8_needed_41
    · replace h := hp_it hc7 h
      refine x_ldc (x := (-1000001)) wc_949 rfl dX8_needed_25 ?_
      cases h
      exact x_iret ⟨(hp_rc rfl), rH1⟩ dX8_needed_27
set_option maxRecDepth 100000 in
theorem ok_X8_meet_31 {G : hp_G} (hG : hp_sh G = hp_shm) {l : Launch} {r : Int} {H' : hp_H} : ∀ (n : Nat) (v1 : Int) (v2 : Int) (v3 : Int) (H : hp_H), hp_r v1 → hp_r v2 → hp_r v3 → hp_in H → f_X8_meet_31 n v1 v2 v3 H = some (r, H') → hp_R G l cX8_meet 4 (some .int) "HeelPostModel" (hp_rm 2) (some (.int (hp_I r))) H' (hp_r r ∧ hp_in H') 31 [(0, .ref (hp_ad G 0)), (1, .int (hp_I v1)), (2, .int (hp_I v2)), (3, .int (hp_I v3))] [] H := by
  intro n
  induction n with
  | zero =>
    intro v1 v2 v3 H r1 r2 r3 rH h
    exact hp_no h
  | succ n ih =>
    intro v1 v2 v3 H r1 r2 r3 rH h
    unfold f_X8_meet_31 at h
    refine x_iload_n dX8_meet_31 3 rfl ?_
    refine x_bipush rfl dX8_meet_32 ?_
    refine x_icgt (tgt := 80) dX8_meet_34 (by decide) r3 (hp_rc rfl) (fun hc9 => ?_) (fun hc9 => ?_)
    · replace h := hp_it hc9 h
      refine x_ldc (x := (-1000000)) wc_989 rfl dX8_meet_80 ?_
      cases h
      exact x_iret ⟨(hp_rc rfl), rH⟩ dX8_meet_82
    · replace h := hp_if hc9 h
      refine x_aload_n dX8_meet_37 0 rfl ?_
      refine x_getr 5 (sm_0 hG) (by decide) (C := RX8) (T := TX8) (N := 26) rfl in_X8 (by decide) rfl wf_862 dX8_meet_38 ?_
      refine x_iload_n dX8_meet_41 1 rfl ?_
      refine x_aload_n dX8_meet_42 0 rfl ?_
      refine x_getr 5 (sm_0 hG) (by decide) (C := RX8) (T := TX8) (N := 26) rfl in_X8 (by decide) rfl wf_862 dX8_meet_43 ?_
      refine x_iconst dX8_meet_46 ?_
      refine x_ia 41 rfl (sm_4 hG) (by decide) (Nat.le_of_ble_eq_true rfl) (by decide) dX8_meet_47 ?_
      refine x_iload_n dX8_meet_48 3 rfl ?_
      refine x_iadd dX8_meet_49 ?_
      obtain ⟨c11, g10, h⟩ := hp_b1_e h
      refine x_isi (As := [.ref (hp_ad G 4), .int (hp_I v1), .int (hp_I (hp_w ((H 4 3) + v3)))]) (ok_X8_place hG 4 v1 (hp_w ((H 4 3) + v3)) H (sm_4 hG) (by decide) r1 (hp_rw _) rH _ g10) cal_X8_place stt_X8_place wm_1058 (by decide) rfl rfl (Nat.le_of_ble_eq_true rfl) dX8_meet_50 (fun z9 => ?_)
      have rc11 := z9
      refine x_aload_n dX8_meet_53 0 rfl ?_
      refine x_getr 5 (sm_0 hG) (by decide) (C := RX8) (T := TX8) (N := 26) rfl in_X8 (by decide) rfl wf_862 dX8_meet_54 ?_
      refine x_iload_n dX8_meet_57 2 rfl ?_
      refine x_aload_n dX8_meet_58 0 rfl ?_
      refine x_getr 5 (sm_0 hG) (by decide) (C := RX8) (T := TX8) (N := 26) rfl in_X8 (by decide) rfl wf_862 dX8_meet_59 ?_
      refine x_iconst dX8_meet_62 ?_
      refine x_ia 41 rfl (sm_4 hG) (by decide) (Nat.le_of_ble_eq_true rfl) (by decide) dX8_meet_63 ?_
      refine x_iload_n dX8_meet_64 3 rfl ?_
      refine x_iadd dX8_meet_65 ?_
      obtain ⟨c13, g12, h⟩ := hp_b1_e h
      refine x_isi (As := [.ref (hp_ad G 4), .int (hp_I v2), .int (hp_I (hp_w ((H 4 3) + v3)))]) (ok_X8_place hG 4 v2 (hp_w ((H 4 3) + v3)) H (sm_4 hG) (by decide) r2 (hp_rw _) rH _ g12) cal_X8_place stt_X8_place wm_1058 (by decide) rfl rfl (Nat.le_of_ble_eq_true rfl) dX8_meet_66 (fun z9 => ?_)
      have rc13 := z9
      refine x_icne (tgt := 74) dX8_meet_69 (by decide) rc11 rc13 (fun hc14 => ?_) (fun hc14 => ?_)
      · replace h := hp_if hc14 h
        obtain ⟨v3_15, ev3_15⟩ : ∃ z : Int, z = (hp_w (v3 + 1)) := ⟨_, rfl⟩
        replace h := hp_let_e ev3_15 h
        have rv3_15 := hp_re ev3_15 (hp_rw _)
        refine x_iiE (L' := [(3, .int (hp_I v3_15)), (0, .ref (hp_ad G 0)), (1, .int (hp_I v1)), (2, .int (hp_I v2))]) ev3_15 dX8_meet_74 3 rfl (by decide) rfl ?_
        refine x_goto (tgt := 31) dX8_meet_77 (by decide) ?_
        exact x_sub [1, 2, 3, 0] rfl (ih v1 v2 v3_15 H r1 r2 rv3_15 rH h)
      · replace h := hp_it hc14 h
        refine x_iload_n dX8_meet_72 3 rfl ?_
        cases h
        exact x_iret ⟨r3, rH⟩ dX8_meet_73
set_option maxRecDepth 100000 in
theorem ok_X8_meet {G : hp_G} (hG : hp_sh G = hp_shm) {l : Launch} (v1 : Int) (v2 : Int) (H : hp_H) (r1 : hp_r v1) (r2 : hp_r v2) (rH : hp_in H) (x : Int × hp_H) (h : f_X8_meet v1 v2 H = some x) : hp_M G l yX8_meet cX8_meet 4 (some .int) (hp_rm 2) [.ref (hp_ad G 0), .int (hp_I v1), .int (hp_I v2)] H (some (.int (hp_I x.1))) x.2 (hp_r x.1 ∧ hp_in x.2) := by
  obtain ⟨r, H'⟩ := x
  unfold f_X8_meet at h
  refine hp_body "HeelPostModel" (by decide) rfl ⟨rfl, rfl⟩ (Nat.le_of_ble_eq_true rfl) ?_
  show hp_R G l cX8_meet 4 (some .int) "HeelPostModel" (hp_rm 2) (some (.int (hp_I r))) H' (hp_r r ∧ hp_in H') 0 [(0, .ref (hp_ad G 0)), (1, .int (hp_I v1)), (2, .int (hp_I v2))] [] H
  refine x_aload_n dX8_meet_0 0 rfl ?_
  refine x_iconst dX8_meet_1 ?_
  obtain ⟨H1, eH1⟩ : ∃ z : hp_H, z = hp_up H 0 0 0 := ⟨_, rfl⟩
  replace h := hp_let_e eH1 h
  have rH1 := hp_ine eH1 (hp_in_up rH (hp_rc rfl))
  refine x_pi 0 0 rfl tyX8 eH1 (sm_0 hG) (by decide) (C := RX8) (T := TX8) (N := 26) rfl in_X8 tyX8_ok nmX8 (by decide) rfl rfl rfl wf_857 dX8_meet_2 ?_
  refine x_aload_n dX8_meet_5 0 rfl ?_
  refine x_iload_n dX8_meet_6 1 rfl ?_
  obtain ⟨c3, g2, h⟩ := hp_b1_e h
  refine x_ivi (As := [.int (hp_I v1)]) (ok_X8_isPerson hG v1 H1 r1 rH1 _ g2) cal_X8_isPerson (sm_0 hG) (by decide) (C := RX8) (T := TX8) (N := 26) rfl rfl ins_X8_isPerson sel_X8_isPerson wm_1100 (by decide) rfl rfl (Nat.le_of_ble_eq_true rfl) dX8_meet_7 (fun z9 => ?_)
  have rc3 := z9
  refine x_ifeq (tgt := 26) dX8_meet_10 (by decide) rc3 (fun hc4 => ?_) (fun hc4 => ?_)
  · replace h := hp_it hc4 h
    refine x_ldc (x := (-1000001)) wc_949 rfl dX8_meet_26 ?_
    cases h
    exact x_iret ⟨(hp_rc rfl), rH1⟩ dX8_meet_28
  · replace h := hp_if hc4 h
    refine x_aload_n dX8_meet_13 0 rfl ?_
    refine x_iload_n dX8_meet_14 2 rfl ?_
    obtain ⟨c6, g5, h⟩ := hp_b1_e h
    refine x_ivi (As := [.int (hp_I v2)]) (ok_X8_isPerson hG v2 H1 r2 rH1 _ g5) cal_X8_isPerson (sm_0 hG) (by decide) (C := RX8) (T := TX8) (N := 26) rfl rfl ins_X8_isPerson sel_X8_isPerson wm_1100 (by decide) rfl rfl (Nat.le_of_ble_eq_true rfl) dX8_meet_15 (fun z9 => ?_)
    have rc6 := z9
    refine x_ifeq (tgt := 26) dX8_meet_18 (by decide) rc6 (fun hc7 => ?_) (fun hc7 => ?_)
    · replace h := hp_it hc7 h
      refine x_ldc (x := (-1000001)) wc_949 rfl dX8_meet_26 ?_
      cases h
      exact x_iret ⟨(hp_rc rfl), rH1⟩ dX8_meet_28
    · replace h := hp_if hc7 h
      refine x_iload_n dX8_meet_21 1 rfl ?_
      refine x_iload_n dX8_meet_22 2 rfl ?_
      refine x_icne (tgt := 29) dX8_meet_23 (by decide) r1 r2 (fun hc8 => ?_) (fun hc8 => ?_)
      · replace h := hp_if hc8 h
        refine x_iconst dX8_meet_29 ?_
        refine x_istore_n (L' := [(3, .int (hp_I 0)), (0, .ref (hp_ad G 0)), (1, .int (hp_I v1)), (2, .int (hp_I v2))]) dX8_meet_30 rfl (by decide) rfl ?_
        exact x_sub [1, 2, 3, 0] rfl (ok_X8_meet_31 hG 1000 v1 v2 0 H1 r1 r2 (hp_rc rfl) rH1 h)
      · replace h := hp_it hc8 h
        refine x_ldc (x := (-1000001)) wc_949 rfl dX8_meet_26 ?_
        cases h
        exact x_iret ⟨(hp_rc rfl), rH1⟩ dX8_meet_28
set_option maxRecDepth 100000 in
theorem ok_X8_answer {G : hp_G} (hG : hp_sh G = hp_shm) {l : Launch} (v1 : Int) (H : hp_H) (r1 : hp_r v1) (rH : hp_in H) (x : Int × hp_H) (h : f_X8_answer v1 H = some x) : hp_M G l yX8_answer cX8_answer 4 (some .int) (hp_rm 5) [.ref (hp_ad G 0), .int (hp_I v1)] H (some (.int (hp_I x.1))) x.2 (hp_r x.1 ∧ hp_in x.2) := by
  obtain ⟨r, H'⟩ := x
  unfold f_X8_answer at h
  refine hp_body "HeelPostModel" (by decide) rfl ⟨rfl, rfl⟩ (Nat.le_of_ble_eq_true rfl) ?_
  show hp_R G l cX8_answer 4 (some .int) "HeelPostModel" (hp_rm 5) (some (.int (hp_I r))) H' (hp_r r ∧ hp_in H') 0 [(0, .ref (hp_ad G 0)), (1, .int (hp_I v1))] [] H
  refine x_aload_n dX8_answer_0 0 rfl ?_
  refine x_iconst dX8_answer_1 ?_
  obtain ⟨H1, eH1⟩ : ∃ z : hp_H, z = hp_up H 0 0 0 := ⟨_, rfl⟩
  replace h := hp_let_e eH1 h
  have rH1 := hp_ine eH1 (hp_in_up rH (hp_rc rfl))
  refine x_pi 0 0 rfl tyX8 eH1 (sm_0 hG) (by decide) (C := RX8) (T := TX8) (N := 26) rfl in_X8 tyX8_ok nmX8 (by decide) rfl rfl rfl wf_857 dX8_answer_2 ?_
  refine x_aload_n dX8_answer_5 0 rfl ?_
  refine x_iload_n dX8_answer_6 1 rfl ?_
  obtain ⟨c3, g2, h⟩ := hp_b1_e h
  refine x_ivi (As := [.int (hp_I v1)]) (ok_X8_isPosted hG v1 H1 r1 rH1 _ g2) cal_X8_isPosted (sm_0 hG) (by decide) (C := RX8) (T := TX8) (N := 26) rfl rfl ins_X8_isPosted sel_X8_isPosted wm_1077 (by decide) rfl rfl (Nat.le_of_ble_eq_true rfl) dX8_answer_7 (fun z9 => ?_)
  have rc3 := z9
  refine x_ifne (tgt := 16) dX8_answer_10 (by decide) rc3 (fun hc4 => ?_) (fun hc4 => ?_)
  · replace h := hp_if hc4 h
    refine x_aload_n dX8_answer_16 0 rfl ?_
    refine x_getr 5 (sm_0 hG) (by decide) (C := RX8) (T := TX8) (N := 26) rfl in_X8 (by decide) rfl wf_862 dX8_answer_17 ?_
    refine x_iload_n dX8_answer_20 1 rfl ?_
    obtain ⟨c6, g5, h⟩ := hp_b1_e h
    refine x_isi (As := [.ref (hp_ad G 4), .int (hp_I v1)]) (ok_X8_isOut hG 4 v1 H1 (sm_4 hG) (by decide) r1 rH1 _ g5) cal_X8_isOut stt_X8_isOut wm_1055 (by decide) rfl rfl (Nat.le_of_ble_eq_true rfl) dX8_answer_21 (fun z9 => ?_)
    have rc6 := z9
    refine x_ifne (tgt := 30) dX8_answer_24 (by decide) rc6 (fun hc7 => ?_) (fun hc7 => ?_)
    · replace h := hp_if hc7 h
      refine x_aload_n dX8_answer_30 0 rfl ?_
      obtain ⟨H9, g8, h⟩ := hp_b1_e h
      refine x_ivv (As := []) (ok_X8_layThen hG H1 rH1 _ g8) cal_X8_layThen (sm_0 hG) (by decide) (C := RX8) (T := TX8) (N := 26) rfl rfl ins_X8_layThen sel_X8_layThen wm_1135 (by decide) rfl rfl (Nat.le_of_ble_eq_true rfl) dX8_answer_31 (fun z9 => ?_)
      have rH9 := z9
      refine x_aload_n dX8_answer_34 0 rfl ?_
      refine x_iload_n dX8_answer_35 1 rfl ?_
      refine x_bipush rfl dX8_answer_36 ?_
      obtain ⟨c11, H12, g10, h⟩ := hp_b2_e h
      refine x_ivi (As := [.int (hp_I v1), .int (hp_I 99)]) (ok_X8_doneBy hG v1 99 H9 r1 (hp_rc rfl) rH9 _ g10) cal_X8_doneBy (sm_0 hG) (by decide) (C := RX8) (T := TX8) (N := 26) rfl rfl ins_X8_doneBy sel_X8_doneBy wm_1147 (by decide) rfl rfl (Nat.le_of_ble_eq_true rfl) dX8_answer_38 (fun z9 => ?_)
      obtain ⟨rc11, rH12⟩ := z9
      refine x_istore_n (L' := [(2, .int (hp_I c11)), (0, .ref (hp_ad G 0)), (1, .int (hp_I v1))]) dX8_answer_41 rfl (by decide) rfl ?_
      refine x_iload_n dX8_answer_42 0 rfl ?_
      refine x_ldc (x := (-1000000)) wc_989 rfl dX8_answer_43 ?_
      refine x_icne (tgt := 51) dX8_answer_45 (by decide) rc11 (hp_rc rfl) (fun hc13 => ?_) (fun hc13 => ?_)
      · replace h := hp_if hc13 h
        refine x_aload_n dX8_answer_51 1 rfl ?_
        refine x_getr 7 (sm_0 hG) (by decide) (C := RX8) (T := TX8) (N := 26) rfl in_X8 (by decide) rfl wf_864 dX8_answer_52 ?_
        refine x_iconst dX8_answer_55 ?_
        refine x_aload_n dX8_answer_56 1 rfl ?_
        refine x_getr 5 (sm_0 hG) (by decide) (C := RX8) (T := TX8) (N := 26) rfl in_X8 (by decide) rfl wf_862 dX8_answer_57 ?_
        refine x_iload_n dX8_answer_60 2 rfl ?_
        refine x_iconst dX8_answer_61 ?_
        obtain ⟨c15, g14, h⟩ := hp_b1_e h
        refine x_isi (As := [.ref (hp_ad G 4), .int (hp_I v1), .int (hp_I 2)]) (ok_X8_its hG 4 v1 2 H12 (sm_4 hG) (by decide) r1 (hp_rc rfl) rH12 _ g14) cal_X8_its stt_X8_its wm_1052 (by decide) rfl rfl (Nat.le_of_ble_eq_true rfl) dX8_answer_62 (fun z9 => ?_)
        have rc15 := z9
        refine x_aload_n dX8_answer_65 1 rfl ?_
        refine x_getr 5 (sm_0 hG) (by decide) (C := RX8) (T := TX8) (N := 26) rfl in_X8 (by decide) rfl wf_862 dX8_answer_66 ?_
        refine x_iload_n dX8_answer_69 2 rfl ?_
        refine x_iconst dX8_answer_70 ?_
        obtain ⟨c17, g16, h⟩ := hp_b1_e h
        refine x_isi (As := [.ref (hp_ad G 4), .int (hp_I v1), .int (hp_I 1)]) (ok_X8_its hG 4 v1 1 H12 (sm_4 hG) (by decide) r1 (hp_rc rfl) rH12 _ g16) cal_X8_its stt_X8_its wm_1052 (by decide) rfl rfl (Nat.le_of_ble_eq_true rfl) dX8_answer_71 (fun z9 => ?_)
        have rc17 := z9
        obtain ⟨H19, g18, h⟩ := hp_b1_e h
        refine x_isv (As := [.ref (hp_ad G 6), .int (hp_I 3), .int (hp_I c15), .int (hp_I c17)]) (ok_X8_posts hG 6 3 c15 c17 H12 (sm_6 hG) (by decide) (hp_rc rfl) rc15 rc17 rH12 _ g18) cal_X8_posts stt_X8_posts wm_1086 (by decide) rfl rfl (Nat.le_of_ble_eq_true rfl) dX8_answer_74 (fun z9 => ?_)
        have rH19 := z9
        refine x_aload_n dX8_answer_77 1 rfl ?_
        refine x_iconst dX8_answer_78 ?_
        refine x_bipush rfl dX8_answer_79 ?_
        obtain ⟨c21, H22, g20, h⟩ := hp_b2_e h
        refine x_ivi (As := [.int (hp_I 3), .int (hp_I 99)]) (ok_X8_doneBy hG 3 99 H19 (hp_rc rfl) (hp_rc rfl) rH19 _ g20) cal_X8_doneBy (sm_0 hG) (by decide) (C := RX8) (T := TX8) (N := 26) rfl rfl ins_X8_doneBy sel_X8_doneBy wm_1147 (by decide) rfl rfl (Nat.le_of_ble_eq_true rfl) dX8_answer_81 (fun z9 => ?_)
        obtain ⟨rc21, rH22⟩ := z9
        refine x_istore_n (L' := [(3, .int (hp_I c21)), (2, .int (hp_I c11)), (0, .ref (hp_ad G 0)), (1, .int (hp_I v1))]) dX8_answer_84 rfl (by decide) rfl ?_
        refine x_iload_n dX8_answer_85 0 rfl ?_
        refine x_ldc (x := (-1000000)) wc_989 rfl dX8_answer_86 ?_
        refine x_icne (tgt := 96) dX8_answer_88 (by decide) rc21 (hp_rc rfl) (fun hc23 => ?_) (fun hc23 => ?_)
        · replace h := hp_if hc23 h
          refine x_iload_n dX8_answer_96 1 rfl ?_
          refine x_iload_n dX8_answer_97 0 rfl ?_
          refine x_iadd dX8_answer_98 ?_
          cases h
          exact x_iret ⟨(hp_rw _), rH22⟩ dX8_answer_99
        · replace h := hp_it hc23 h
          refine x_ldc (x := (-1000000)) wc_989 rfl dX8_answer_91 ?_
          refine x_goto (tgt := 99) dX8_answer_93 (by decide) ?_
          cases h
          exact x_iret ⟨(hp_rc rfl), rH22⟩ dX8_answer_99
      · replace h := hp_it hc13 h
        refine x_ldc (x := (-1000000)) wc_989 rfl dX8_answer_48 ?_
        cases h
        exact x_iret ⟨(hp_rc rfl), rH12⟩ dX8_answer_50
    · replace h := hp_it hc7 h
      refine x_ldc (x := (-1000002)) wc_1038 rfl dX8_answer_27 ?_
      cases h
      exact x_iret ⟨(hp_rc rfl), rH1⟩ dX8_answer_29
  · replace h := hp_it hc4 h
    refine x_ldc (x := (-1000001)) wc_949 rfl dX8_answer_13 ?_
    cases h
    exact x_iret ⟨(hp_rc rfl), rH1⟩ dX8_answer_15
set_option maxRecDepth 100000 in
theorem ok_X8_isSo_6 {G : hp_G} (hG : hp_sh G = hp_shm) {l : Launch} {vv : Option Value} {H' : hp_H} {Z : Prop} : ∀ (n : Nat) (v1 : Int) (v2 : Int) (v3 : Int) (v4 : Int) (v5 : Int) (H : hp_H), hp_r v1 → hp_r v2 → hp_r v3 → hp_r v4 → hp_r v5 → hp_in H → ∀ m4 : Int, ∀ Hm : hp_H, f_X8_isSo_6 n v1 v2 v3 v4 v5 H = some (m4, Hm) → (hp_r m4 → hp_in Hm → hp_R G l cX8_isSo 7 (some .boolean) "HeelPostModel" (hp_rm 4) vv H' Z 61 [(4, .int (hp_I m4))] [] Hm) → hp_R G l cX8_isSo 7 (some .boolean) "HeelPostModel" (hp_rm 4) vv H' Z 6 [(0, .ref (hp_ad G 0)), (1, .int (hp_I v1)), (2, .int (hp_I v2)), (3, .int (hp_I v3)), (4, .int (hp_I v4)), (5, .int (hp_I v5))] [] H := by
  intro n
  induction n with
  | zero =>
    intro v1 v2 v3 v4 v5 H r1 r2 r3 r4 r5 rH m4 Hm h kx
    exact hp_no h
  | succ n ih =>
    intro v1 v2 v3 v4 v5 H r1 r2 r3 r4 r5 rH m4 Hm h kx
    unfold f_X8_isSo_6 at h
    refine x_iload dX8_isSo_6 5 rfl ?_
    refine x_iload_n dX8_isSo_8 3 rfl ?_
    refine x_icge (tgt := 61) dX8_isSo_9 (by decide) r5 r3 (fun hc1 => ?_) (fun hc1 => ?_)
    · replace h := hp_if hc1 h
      cases h
      exact x_sub [4] rfl (kx r4 rH)
    · replace h := hp_it hc1 h
      refine x_aload_n dX8_isSo_12 0 rfl ?_
      refine x_aload_n dX8_isSo_13 0 rfl ?_
      refine x_getr 7 (sm_0 hG) (by decide) (C := RX8) (T := TX8) (N := 26) rfl in_X8 (by decide) rfl wf_864 dX8_isSo_14 ?_
      obtain ⟨c3, H4, g2, h⟩ := hp_b2_e h
      refine x_ivi (As := [.ref (hp_ad G 6)]) (ok_X8_hour hG 6 H (sm_6 hG) (by decide) rH _ g2) cal_X8_hour (sm_0 hG) (by decide) (C := RX8) (T := TX8) (N := 26) rfl rfl ins_X8_hour sel_X8_hour wm_1044 (by decide) rfl rfl (Nat.le_of_ble_eq_true rfl) dX8_isSo_17 (fun z9 => ?_)
      obtain ⟨rc3, rH4⟩ := z9
      refine x_istore (L' := [(6, .int (hp_I c3)), (0, .ref (hp_ad G 0)), (1, .int (hp_I v1)), (2, .int (hp_I v2)), (3, .int (hp_I v3)), (4, .int (hp_I v4)), (5, .int (hp_I v5))]) dX8_isSo_20 (by decide) rfl ?_
      refine x_iload dX8_isSo_22 5 rfl ?_
      obtain ⟨m5, hm6, h⟩ := hp_b1_e h
      have kj : hp_r m5 → (m5 = 0 ∨ m5 = 1) → hp_R G l cX8_isSo 7 (some .boolean) "HeelPostModel" (hp_rm 4) vv H' Z 53 [(0, .ref (hp_ad G 0)), (1, .int (hp_I v1)), (2, .int (hp_I v2)), (3, .int (hp_I v3)), (5, .int (hp_I v5))] [.int (hp_I m5)] H4 := by
        intro rm5 zm5
        refine x_istore (L' := [(4, .int (hp_I m5)), (0, .ref (hp_ad G 0)), (1, .int (hp_I v1)), (2, .int (hp_I v2)), (3, .int (hp_I v3)), (5, .int (hp_I v5))]) dX8_isSo_53 (by decide) rfl ?_
        obtain ⟨v5_7, ev5_7⟩ : ∃ z : Int, z = (hp_w (v5 + 1)) := ⟨_, rfl⟩
        replace h := hp_let_e ev5_7 h
        have rv5_7 := hp_re ev5_7 (hp_rw _)
        refine x_iiE (L' := [(5, .int (hp_I v5_7)), (4, .int (hp_I m5)), (0, .ref (hp_ad G 0)), (1, .int (hp_I v1)), (2, .int (hp_I v2)), (3, .int (hp_I v3))]) ev5_7 dX8_isSo_55 5 rfl (by decide) rfl ?_
        refine x_goto (tgt := 6) dX8_isSo_58 (by decide) ?_
        exact x_sub [2, 3, 4, 5, 1, 0] rfl (ih v1 v2 v3 m5 v5_7 H4 r1 r2 r3 rm5 rv5_7 rH4 _ _ h kx)
      clear h
      have h := hm6
      clear hm6
      refine x_ifeq (tgt := 52) dX8_isSo_24 (by decide) r4 (fun hc8 => ?_) (fun hc8 => ?_)
      · replace h := hp_it hc8 h
        refine x_iconst dX8_isSo_52 ?_
        cases h
        exact x_sub [1, 2, 3, 4, 6] rfl (kj (hp_rc rfl) (Or.inl rfl))
      · replace h := hp_if hc8 h
        refine x_aload_n dX8_isSo_27 1 rfl ?_
        refine x_getr 7 (sm_0 hG) (by decide) (C := RX8) (T := TX8) (N := 26) rfl in_X8 (by decide) rfl wf_864 dX8_isSo_28 ?_
        refine x_iload_n dX8_isSo_31 2 rfl ?_
        refine x_iconst dX8_isSo_32 ?_
        obtain ⟨c10, g9, h⟩ := hp_b1_e h
        refine x_isi (As := [.ref (hp_ad G 6), .int (hp_I v1), .int (hp_I 1)]) (ok_X8_its hG 6 v1 1 H4 (sm_6 hG) (by decide) r1 (hp_rc rfl) rH4 _ g9) cal_X8_its stt_X8_its wm_1052 (by decide) rfl rfl (Nat.le_of_ble_eq_true rfl) dX8_isSo_33 (fun z9 => ?_)
        have rc10 := z9
        refine x_aload_n dX8_isSo_36 1 rfl ?_
        refine x_getr 4 (sm_0 hG) (by decide) (C := RX8) (T := TX8) (N := 26) rfl in_X8 (by decide) rfl wf_861 dX8_isSo_37 ?_
        refine x_iload_n dX8_isSo_40 3 rfl ?_
        refine x_iload dX8_isSo_41 6 rfl ?_
        refine x_iadd dX8_isSo_43 ?_
        obtain ⟨b11, h⟩ := hp_ck_e h
        refine x_ia 320 rfl (sm_3 hG) (by decide) (Nat.le_of_ble_eq_true rfl) b11 dX8_isSo_44 ?_
        refine x_icne (tgt := 52) dX8_isSo_45 (by decide) rc10 (rH4 _ _) (fun hc12 => ?_) (fun hc12 => ?_)
        · replace h := hp_if hc12 h
          refine x_iconst dX8_isSo_52 ?_
          cases h
          exact x_sub [1, 2, 3, 4, 6] rfl (kj (hp_rc rfl) (Or.inl rfl))
        · replace h := hp_it hc12 h
          refine x_iconst dX8_isSo_48 ?_
          refine x_goto (tgt := 53) dX8_isSo_49 (by decide) ?_
          cases h
          exact x_sub [1, 2, 3, 4, 6] rfl (kj (hp_rc rfl) (Or.inr rfl))
set_option maxRecDepth 100000 in
theorem ok_X8_isSo {G : hp_G} (hG : hp_sh G = hp_shm) {l : Launch} (v1 : Int) (v2 : Int) (v3 : Int) (H : hp_H) (r1 : hp_r v1) (r2 : hp_r v2) (r3 : hp_r v3) (rH : hp_in H) (x : Int × hp_H) (h : f_X8_isSo v1 v2 v3 H = some x) : hp_M G l yX8_isSo cX8_isSo 7 (some .boolean) (hp_rm 4) [.ref (hp_ad G 0), .int (hp_I v1), .int (hp_I v2), .int (hp_I v3)] H (some (.int (hp_I x.1))) x.2 (hp_r x.1 ∧ hp_in x.2) := by
  obtain ⟨r, H'⟩ := x
  unfold f_X8_isSo at h
  refine hp_body "HeelPostModel" (by decide) rfl ⟨rfl, rfl⟩ (Nat.le_of_ble_eq_true rfl) ?_
  show hp_R G l cX8_isSo 7 (some .boolean) "HeelPostModel" (hp_rm 4) (some (.int (hp_I r))) H' (hp_r r ∧ hp_in H') 0 [(0, .ref (hp_ad G 0)), (1, .int (hp_I v1)), (2, .int (hp_I v2)), (3, .int (hp_I v3))] [] H
  refine x_iconst dX8_isSo_0 ?_
  refine x_istore (L' := [(4, .int (hp_I 1)), (0, .ref (hp_ad G 0)), (1, .int (hp_I v1)), (2, .int (hp_I v2)), (3, .int (hp_I v3))]) dX8_isSo_1 (by decide) rfl ?_
  refine x_iconst dX8_isSo_3 ?_
  refine x_istore (L' := [(5, .int (hp_I 0)), (4, .int (hp_I 1)), (0, .ref (hp_ad G 0)), (1, .int (hp_I v1)), (2, .int (hp_I v2)), (3, .int (hp_I v3))]) dX8_isSo_4 (by decide) rfl ?_
  obtain ⟨v4_13, H14, g15, h⟩ := hp_b2_e h
  refine x_sub [2, 3, 4, 5, 1, 0] rfl (ok_X8_isSo_6 hG 1000 v1 v2 v3 1 0 H r1 r2 r3 (hp_rc rfl) (hp_rc rfl) rH _ _ g15 ?_)
  intro rv4_13 rH14
  refine x_iload dX8_isSo_61 0 rfl ?_
  obtain ⟨b16, h⟩ := hp_ck_e h
  cases h
  exact x_zret ⟨rv4_13, rH14⟩ b16 dX8_isSo_63
set_option maxRecDepth 100000 in
theorem ok_X8_rowFound {G : hp_G} (hG : hp_sh G = hp_shm) {l : Launch} (v1 : Int) (v2 : Int) (v3 : Int) (H : hp_H) (r1 : hp_r v1) (r2 : hp_r v2) (r3 : hp_r v3) (rH : hp_in H) (x : Int × hp_H) (h : f_X8_rowFound v1 v2 v3 H = some x) : hp_M G l yX8_rowFound cX8_rowFound 4 (some .int) (hp_rm 1) [.ref (hp_ad G 0), .int (hp_I v1), .int (hp_I v2), .int (hp_I v3)] H (some (.int (hp_I x.1))) x.2 (hp_r x.1 ∧ hp_in x.2) := by
  obtain ⟨r, H'⟩ := x
  unfold f_X8_rowFound at h
  refine hp_body "HeelPostModel" (by decide) rfl ⟨rfl, rfl⟩ (Nat.le_of_ble_eq_true rfl) ?_
  show hp_R G l cX8_rowFound 4 (some .int) "HeelPostModel" (hp_rm 1) (some (.int (hp_I r))) H' (hp_r r ∧ hp_in H') 0 [(0, .ref (hp_ad G 0)), (1, .int (hp_I v1)), (2, .int (hp_I v2)), (3, .int (hp_I v3))] [] H
  refine x_aload_n dX8_rowFound_0 0 rfl ?_
  refine x_getr 2 (sm_0 hG) (by decide) (C := RX8) (T := TX8) (N := 26) rfl in_X8 (by decide) rfl wf_859 dX8_rowFound_1 ?_
  refine x_iload_n dX8_rowFound_4 1 rfl ?_
  obtain ⟨b1, h⟩ := hp_ck_e h
  refine x_ia 8 rfl (sm_1 hG) (by decide) (Nat.le_of_ble_eq_true rfl) b1 dX8_rowFound_5 ?_
  refine x_ifge (tgt := 15) dX8_rowFound_6 (by decide) (rH _ _) (fun hc2 => ?_) (fun hc2 => ?_)
  · replace h := hp_if hc2 h
    refine x_iload_n dX8_rowFound_15 2 rfl ?_
    refine x_iflt (tgt := 35) dX8_rowFound_16 (by decide) r2 (fun hc6 => ?_) (fun hc6 => ?_)
    · replace h := hp_it hc6 h
      refine x_aload_n dX8_rowFound_35 0 rfl ?_
      refine x_iconst dX8_rowFound_36 ?_
      obtain ⟨c8, H9, g7, h⟩ := hp_b2_e h
      refine x_ivi (As := [.int (hp_I 2)]) (ok_X8_finding hG 2 H (hp_rc rfl) rH _ g7) cal_X8_finding (sm_0 hG) (by decide) (C := RX8) (T := TX8) (N := 26) rfl rfl ins_X8_finding sel_X8_finding wm_950 (by decide) rfl rfl (Nat.le_of_ble_eq_true rfl) dX8_rowFound_37 (fun z9 => ?_)
      obtain ⟨rc8, rH9⟩ := z9
      cases h
      exact x_iret ⟨rc8, rH9⟩ dX8_rowFound_40
    · replace h := hp_if hc6 h
      refine x_iload_n dX8_rowFound_19 2 rfl ?_
      refine x_i2l r2 dX8_rowFound_20 ?_
      refine x_iload_n dX8_rowFound_21 3 rfl ?_
      refine x_i2l r3 dX8_rowFound_22 ?_
      refine x_ladd dX8_rowFound_23 ?_
      refine x_aload_n dX8_rowFound_24 0 rfl ?_
      refine x_getr 3 (sm_0 hG) (by decide) (C := RX8) (T := TX8) (N := 26) rfl in_X8 (by decide) rfl wf_860 dX8_rowFound_25 ?_
      refine x_iload_n dX8_rowFound_28 1 rfl ?_
      refine x_ia 8 rfl (sm_2 hG) (by decide) (Nat.le_of_ble_eq_true rfl) b1 dX8_rowFound_29 ?_
      refine x_i2l (rH _ _) dX8_rowFound_30 ?_
      refine x_lcmp (hp_rwl _) (hp_rrl (rH _ _)) dX8_rowFound_31 ?_
      refine x_ifle (tgt := 41) dX8_rowFound_32 (by decide) (hp_rcmp _ _) (fun hc10 => ?_) (fun hc10 => ?_)
      · replace h := hp_if hc10 h
        refine x_aload_n dX8_rowFound_41 0 rfl ?_
        refine x_iconst dX8_rowFound_42 ?_
        obtain ⟨H14, eH14⟩ : ∃ z : hp_H, z = hp_up H 0 1 0 := ⟨_, rfl⟩
        replace h := hp_let_e eH14 h
        have rH14 := hp_ine eH14 (hp_in_up rH (hp_rc rfl))
        refine x_pi 1 1 rfl tyX8 eH14 (sm_0 hG) (by decide) (C := RX8) (T := TX8) (N := 26) rfl in_X8 tyX8_ok nmX8 (by decide) rfl rfl rfl wf_858 dX8_rowFound_43 ?_
        refine x_iconst dX8_rowFound_46 ?_
        cases h
        exact x_iret ⟨(hp_rc rfl), rH14⟩ dX8_rowFound_47
      · replace h := hp_it hc10 h
        refine x_aload_n dX8_rowFound_35 0 rfl ?_
        refine x_iconst dX8_rowFound_36 ?_
        obtain ⟨c12, H13, g11, h⟩ := hp_b2_e h
        refine x_ivi (As := [.int (hp_I 2)]) (ok_X8_finding hG 2 H (hp_rc rfl) rH _ g11) cal_X8_finding (sm_0 hG) (by decide) (C := RX8) (T := TX8) (N := 26) rfl rfl ins_X8_finding sel_X8_finding wm_950 (by decide) rfl rfl (Nat.le_of_ble_eq_true rfl) dX8_rowFound_37 (fun z9 => ?_)
        obtain ⟨rc12, rH13⟩ := z9
        cases h
        exact x_iret ⟨rc12, rH13⟩ dX8_rowFound_40
  · replace h := hp_it hc2 h
    refine x_aload_n dX8_rowFound_9 0 rfl ?_
    refine x_iconst dX8_rowFound_10 ?_
    obtain ⟨c4, H5, g3, h⟩ := hp_b2_e h
    refine x_ivi (As := [.int (hp_I 1)]) (ok_X8_finding hG 1 H (hp_rc rfl) rH _ g3) cal_X8_finding (sm_0 hG) (by decide) (C := RX8) (T := TX8) (N := 26) rfl rfl ins_X8_finding sel_X8_finding wm_950 (by decide) rfl rfl (Nat.le_of_ble_eq_true rfl) dX8_rowFound_11 (fun z9 => ?_)
    obtain ⟨rc4, rH5⟩ := z9
    cases h
    exact x_iret ⟨rc4, rH5⟩ dX8_rowFound_14
set_option maxRecDepth 100000 in
theorem ok_X8_who_103 {G : hp_G} (hG : hp_sh G = hp_shm) {l : Launch} {vv : Option Value} {H' : hp_H} {Z : Prop} : ∀ (n : Nat) (v1 : Int) (v2 : Int) (v3 : Int) (v4 : Int) (v5 : Int) (v6 : Int) (v8 : Int) (v9 : Int) (H : hp_H), hp_r v1 → hp_r v2 → hp_r v3 → hp_r v4 → hp_r v5 → hp_r v6 → hp_r v8 → hp_r v9 → hp_in H → ∀ m8 : Int, ∀ Hm : hp_H, f_X8_who_103 n v1 v2 v3 v4 v5 v6 v8 v9 H = some (m8, Hm) → (hp_r m8 → hp_in Hm → hp_R G l cX8_who 10 (some .int) "HeelPostModel" (hp_rm 5) vv H' Z 182 [(8, .int (hp_I m8))] [] Hm) → hp_R G l cX8_who 10 (some .int) "HeelPostModel" (hp_rm 5) vv H' Z 103 [(0, .ref (hp_ad G 0)), (1, .int (hp_I v1)), (2, .int (hp_I v2)), (3, .int (hp_I v3)), (4, .int (hp_I v4)), (5, .int (hp_I v5)), (6, .int (hp_I v6)), (8, .int (hp_I v8)), (9, .int (hp_I v9))] [] H := by
  intro n
  induction n with
  | zero =>
    intro v1 v2 v3 v4 v5 v6 v8 v9 H r1 r2 r3 r4 r5 r6 r8 r9 rH m8 Hm h kx
    exact hp_no h
  | succ n ih =>
    intro v1 v2 v3 v4 v5 v6 v8 v9 H r1 r2 r3 r4 r5 r6 r8 r9 rH m8 Hm h kx
    unfold f_X8_who_103 at h
    refine x_iload dX8_who_103 8 rfl ?_
    refine x_iload_n dX8_who_105 2 rfl ?_
    obtain ⟨m25, em25⟩ : ∃ z : Int, z = (if v2 = 0 then 5 else 23) := ⟨_, rfl⟩
    replace h := hp_let_e em25 h
    have rm25 := hp_re em25 (hp_rite (hp_rc rfl) (hp_rc rfl))
    have kj : hp_R G l cX8_who 10 (some .int) "HeelPostModel" (hp_rm 5) vv H' Z 115 [(0, .ref (hp_ad G 0)), (1, .int (hp_I v1)), (2, .int (hp_I v2)), (3, .int (hp_I v3)), (4, .int (hp_I v4)), (5, .int (hp_I v5)), (6, .int (hp_I v6)), (8, .int (hp_I v8)), (9, .int (hp_I v9))] [.int (hp_I m25), .int (hp_I v9)] H := by
      refine x_icgt (tgt := 182) dX8_who_115 (by decide) r9 rm25 (fun hc26 => ?_) (fun hc26 => ?_)
      · replace h := hp_it hc26 h
        cases h
        exact x_sub [7] rfl (kx r8 rH)
      · replace h := hp_if hc26 h
        refine x_aload_n dX8_who_118 0 rfl ?_
        obtain ⟨H28, g27, h⟩ := hp_b1_e h
        refine x_ivv (As := []) (ok_X8_layThen hG H rH _ g27) cal_X8_layThen (sm_0 hG) (by decide) (C := RX8) (T := TX8) (N := 26) rfl rfl ins_X8_layThen sel_X8_layThen wm_1135 (by decide) rfl rfl (Nat.le_of_ble_eq_true rfl) dX8_who_119 (fun z9 => ?_)
        have rH28 := z9
        refine x_aload_n dX8_who_122 0 rfl ?_
        refine x_getr 7 (sm_0 hG) (by decide) (C := RX8) (T := TX8) (N := 26) rfl in_X8 (by decide) rfl wf_864 dX8_who_123 ?_
        refine x_bipush rfl dX8_who_126 ?_
        refine x_iconst dX8_who_128 ?_
        refine x_iload_n dX8_who_129 1 rfl ?_
        refine x_imul dX8_who_130 ?_
        refine x_iadd dX8_who_131 ?_
        refine x_iload_n dX8_who_132 2 rfl ?_
        obtain ⟨m29, em29⟩ : ∃ z : Int, z = (if v2 = 0 then 0 else 3) := ⟨_, rfl⟩
        replace h := hp_let_e em29 h
        have rm29 := hp_re em29 (hp_rite (hp_rc rfl) (hp_rc rfl))
        have kj : hp_R G l cX8_who 10 (some .int) "HeelPostModel" (hp_rm 5) vv H' Z 141 [(0, .ref (hp_ad G 0)), (1, .int (hp_I v1)), (2, .int (hp_I v2)), (3, .int (hp_I v3)), (4, .int (hp_I v4)), (5, .int (hp_I v5)), (6, .int (hp_I v6)), (8, .int (hp_I v8)), (9, .int (hp_I v9))] [.int (hp_I m29), .int (hp_I (hp_w (17 + (hp_w (4 * v1))))), .ref (hp_ad G 6)] H28 := by
          refine x_iadd dX8_who_141 ?_
          refine x_iload dX8_who_142 8 rfl ?_
          obtain ⟨b30, h⟩ := hp_ck_e h
          obtain ⟨H31, eH31⟩ : ∃ z : hp_H, z = hp_up H28 6 (hp_w ((hp_w (17 + (hp_w (4 * v1)))) + m29)) v9 := ⟨_, rfl⟩
          replace h := hp_let_e eH31 h
          have rH31 := hp_ine eH31 (hp_in_up rH28 r9)
          refine x_ias 41 rfl eH31 (sm_6 hG) (by decide) (Nat.le_of_ble_eq_true rfl) b30 dX8_who_144 ?_
          refine x_iload dX8_who_145 7 rfl ?_
          refine x_aload_n dX8_who_147 0 rfl ?_
          refine x_iload_n dX8_who_148 3 rfl ?_
          refine x_bipush rfl dX8_who_149 ?_
          refine x_iload dX8_who_151 4 rfl ?_
          refine x_imul dX8_who_153 ?_
          refine x_iload dX8_who_154 5 rfl ?_
          refine x_iadd dX8_who_156 ?_
          refine x_iload dX8_who_157 6 rfl ?_
          obtain ⟨c33, H34, g32, h⟩ := hp_b2_e h
          refine x_ivi (As := [.int (hp_I v3), .int (hp_I (hp_w ((hp_w (40 * v4)) + v5))), .int (hp_I v6)]) (ok_X8_isSo hG v3 (hp_w ((hp_w (40 * v4)) + v5)) v6 H31 r3 (hp_rw _) r6 rH31 _ g32) cal_X8_isSo (sm_0 hG) (by decide) (C := RX8) (T := TX8) (N := 26) rfl rfl ins_X8_isSo sel_X8_isSo wm_1203 (by decide) rfl rfl (Nat.le_of_ble_eq_true rfl) dX8_who_159 (fun z9 => ?_)
          obtain ⟨rc33, rH34⟩ := z9
          obtain ⟨m35, em35⟩ : ∃ z : Int, z = (if c33 = 0 then 0 else (hp_shl 1 v9)) := ⟨_, rfl⟩
          replace h := hp_let_e em35 h
          have rm35 := hp_re em35 (hp_rite (hp_rc rfl) (hp_rshl _ _))
          have kj : hp_R G l cX8_who 10 (some .int) "HeelPostModel" (hp_rm 5) vv H' Z 173 [(0, .ref (hp_ad G 0)), (1, .int (hp_I v1)), (2, .int (hp_I v2)), (3, .int (hp_I v3)), (4, .int (hp_I v4)), (5, .int (hp_I v5)), (6, .int (hp_I v6)), (9, .int (hp_I v9))] [.int (hp_I m35), .int (hp_I v8)] H34 := by
            refine x_ior dX8_who_173 ?_
            obtain ⟨v8_36, ev8_36⟩ : ∃ z : Int, z = (hp_or v8 m35) := ⟨_, rfl⟩
            replace h := hp_let_e ev8_36 h
            have rv8_36 := hp_re ev8_36 (hp_ror _ _)
            refine x_isE (L' := [(8, .int (hp_I v8_36)), (0, .ref (hp_ad G 0)), (1, .int (hp_I v1)), (2, .int (hp_I v2)), (3, .int (hp_I v3)), (4, .int (hp_I v4)), (5, .int (hp_I v5)), (6, .int (hp_I v6)), (9, .int (hp_I v9))]) ev8_36 dX8_who_174 (by decide) rfl ?_
            obtain ⟨v9_37, ev9_37⟩ : ∃ z : Int, z = (hp_w (v9 + 1)) := ⟨_, rfl⟩
            replace h := hp_let_e ev9_37 h
            have rv9_37 := hp_re ev9_37 (hp_rw _)
            refine x_iiE (L' := [(9, .int (hp_I v9_37)), (8, .int (hp_I v8_36)), (0, .ref (hp_ad G 0)), (1, .int (hp_I v1)), (2, .int (hp_I v2)), (3, .int (hp_I v3)), (4, .int (hp_I v4)), (5, .int (hp_I v5)), (6, .int (hp_I v6))]) ev9_37 dX8_who_176 8 rfl (by decide) rfl ?_
            refine x_goto (tgt := 103) dX8_who_179 (by decide) ?_
            exact x_sub [2, 3, 4, 5, 6, 7, 8, 1, 0] rfl (ih v1 v2 v3 v4 v5 v6 v8_36 v9_37 H34 r1 r2 r3 r4 r5 r6 rv8_36 rv9_37 rH34 _ _ h kx)
          clear h
          refine x_ifeq (tgt := 172) dX8_who_162 (by decide) rc33 (fun hc38 => ?_) (fun hc38 => ?_)
          · refine x_iconst dX8_who_172 ?_
            have q9 := (em35.trans (if_pos hc38))
            subst q9
            exact x_sub [0, 1, 2, 3, 4, 5, 6, 8] rfl kj
          · refine x_iconst dX8_who_165 ?_
            refine x_iload dX8_who_166 8 rfl ?_
            refine x_ishl dX8_who_168 ?_
            refine x_goto (tgt := 173) dX8_who_169 (by decide) ?_
            have q9 := (em35.trans (if_neg hc38))
            subst q9
            exact x_sub [0, 1, 2, 3, 4, 5, 6, 8] rfl kj
        clear h
        refine x_ifne (tgt := 140) dX8_who_133 (by decide) r2 (fun hc39 => ?_) (fun hc39 => ?_)
        · refine x_iconst dX8_who_140 ?_
          have q9 := (em29.trans (if_neg hc39))
          subst q9
          exact x_sub [0, 1, 2, 3, 4, 5, 6, 7, 8] rfl kj
        · refine x_iconst dX8_who_136 ?_
          refine x_goto (tgt := 141) dX8_who_137 (by decide) ?_
          have q9 := (em29.trans (if_pos hc39))
          subst q9
          exact x_sub [0, 1, 2, 3, 4, 5, 6, 7, 8] rfl kj
    clear h
    refine x_ifne (tgt := 113) dX8_who_106 (by decide) r2 (fun hc40 => ?_) (fun hc40 => ?_)
    · refine x_bipush rfl dX8_who_113 ?_
      have q9 := (em25.trans (if_neg hc40))
      subst q9
      exact x_sub [0, 1, 2, 3, 4, 5, 6, 7, 8] rfl kj
    · refine x_iconst dX8_who_109 ?_
      refine x_goto (tgt := 115) dX8_who_110 (by decide) ?_
      have q9 := (em25.trans (if_pos hc40))
      subst q9
      exact x_sub [0, 1, 2, 3, 4, 5, 6, 7, 8] rfl kj
set_option maxRecDepth 100000 in
theorem ok_X8_who {G : hp_G} (hG : hp_sh G = hp_shm) {l : Launch} (v1 : Int) (v2 : Int) (v3 : Int) (v4 : Int) (v5 : Int) (v6 : Int) (H : hp_H) (r1 : hp_r v1) (r2 : hp_r v2) (r3 : hp_r v3) (r4 : hp_r v4) (r5 : hp_r v5) (r6 : hp_r v6) (rH : hp_in H) (x : Int × hp_H) (h : f_X8_who v1 v2 v3 v4 v5 v6 H = some x) : hp_M G l yX8_who cX8_who 10 (some .int) (hp_rm 5) [.ref (hp_ad G 0), .int (hp_I v1), .int (hp_I v2), .int (hp_I v3), .int (hp_I v4), .int (hp_I v5), .int (hp_I v6)] H (some (.int (hp_I x.1))) x.2 (hp_r x.1 ∧ hp_in x.2) := by
  obtain ⟨r, H'⟩ := x
  unfold f_X8_who at h
  refine hp_body "HeelPostModel" (by decide) rfl ⟨rfl, rfl⟩ (Nat.le_of_ble_eq_true rfl) ?_
  show hp_R G l cX8_who 10 (some .int) "HeelPostModel" (hp_rm 5) (some (.int (hp_I r))) H' (hp_r r ∧ hp_in H') 0 [(0, .ref (hp_ad G 0)), (1, .int (hp_I v1)), (2, .int (hp_I v2)), (3, .int (hp_I v3)), (4, .int (hp_I v4)), (5, .int (hp_I v5)), (6, .int (hp_I v6))] [] H
  refine x_aload_n dX8_who_0 0 rfl ?_
  refine x_iconst dX8_who_1 ?_
  obtain ⟨H1, eH1⟩ : ∃ z : hp_H, z = hp_up H 0 0 0 := ⟨_, rfl⟩
  replace h := hp_let_e eH1 h
  have rH1 := hp_ine eH1 (hp_in_up rH (hp_rc rfl))
  refine x_pi 0 0 rfl tyX8 eH1 (sm_0 hG) (by decide) (C := RX8) (T := TX8) (N := 26) rfl in_X8 tyX8_ok nmX8 (by decide) rfl rfl rfl wf_857 dX8_who_2 ?_
  refine x_aload_n dX8_who_5 0 rfl ?_
  refine x_iload_n dX8_who_6 1 rfl ?_
  obtain ⟨c3, g2, h⟩ := hp_b1_e h
  refine x_ivi (As := [.int (hp_I v1)]) (ok_X8_isPerson hG v1 H1 r1 rH1 _ g2) cal_X8_isPerson (sm_0 hG) (by decide) (C := RX8) (T := TX8) (N := 26) rfl rfl ins_X8_isPerson sel_X8_isPerson wm_1100 (by decide) rfl rfl (Nat.le_of_ble_eq_true rfl) dX8_who_7 (fun z9 => ?_)
  have rc3 := z9
  refine x_ifeq (tgt := 52) dX8_who_10 (by decide) rc3 (fun hc4 => ?_) (fun hc4 => ?_)
  · replace h := hp_it hc4 h
    refine x_ldc (x := (-1000001)) wc_949 rfl dX8_who_52 ?_
    cases h
    exact x_iret ⟨(hp_rc rfl), rH1⟩ dX8_who_54
  · replace h := hp_if hc4 h
    refine x_iload_n dX8_who_13 2 rfl ?_
    refine x_i2l r2 dX8_who_14 ?_
    refine x_lconst (x := 0) rfl dX8_who_15 ?_
    refine x_lconst (x := 1) rfl dX8_who_16 ?_
    obtain ⟨c6, g5, h⟩ := hp_b1_e h
    refine x_isi (As := [.long (hp_J v2), .long (hp_J 0), .long (hp_J 1)]) (ok_X8_in hG v2 0 1 H1 (hp_rrl r2) (hp_rlc rfl) (hp_rlc rfl) rH1 _ g5) cal_X8_in stt_X8_in wm_945 (by decide) rfl rfl (Nat.le_of_ble_eq_true rfl) dX8_who_17 (fun z9 => ?_)
    have rc6 := z9
    refine x_ifeq (tgt := 52) dX8_who_20 (by decide) rc6 (fun hc7 => ?_) (fun hc7 => ?_)
    · replace h := hp_it hc7 h
      refine x_ldc (x := (-1000001)) wc_949 rfl dX8_who_52 ?_
      cases h
      exact x_iret ⟨(hp_rc rfl), rH1⟩ dX8_who_54
    · replace h := hp_if hc7 h
      refine x_aload_n dX8_who_23 0 rfl ?_
      refine x_iload_n dX8_who_24 3 rfl ?_
      obtain ⟨c9, g8, h⟩ := hp_b1_e h
      refine x_ivi (As := [.int (hp_I v3)]) (ok_X8_isPosted hG v3 H1 r3 rH1 _ g8) cal_X8_isPosted (sm_0 hG) (by decide) (C := RX8) (T := TX8) (N := 26) rfl rfl ins_X8_isPosted sel_X8_isPosted wm_1077 (by decide) rfl rfl (Nat.le_of_ble_eq_true rfl) dX8_who_25 (fun z9 => ?_)
      have rc9 := z9
      refine x_ifeq (tgt := 52) dX8_who_28 (by decide) rc9 (fun hc10 => ?_) (fun hc10 => ?_)
      · replace h := hp_it hc10 h
        refine x_ldc (x := (-1000001)) wc_949 rfl dX8_who_52 ?_
        cases h
        exact x_iret ⟨(hp_rc rfl), rH1⟩ dX8_who_54
      · replace h := hp_if hc10 h
        refine x_iload dX8_who_31 4 rfl ?_
        obtain ⟨c12, g11, h⟩ := hp_b1_e h
        refine x_isi (As := [.int (hp_I v4)]) (ok_X8_isRow hG v4 H1 r4 rH1 _ g11) cal_X8_isRow stt_X8_isRow wm_941 (by decide) rfl rfl (Nat.le_of_ble_eq_true rfl) dX8_who_33 (fun z9 => ?_)
        have rc12 := z9
        refine x_ifeq (tgt := 52) dX8_who_36 (by decide) rc12 (fun hc13 => ?_) (fun hc13 => ?_)
        · replace h := hp_it hc13 h
          refine x_ldc (x := (-1000001)) wc_949 rfl dX8_who_52 ?_
          cases h
          exact x_iret ⟨(hp_rc rfl), rH1⟩ dX8_who_54
        · replace h := hp_if hc13 h
          refine x_iload dX8_who_39 6 rfl ?_
          refine x_i2l r6 dX8_who_41 ?_
          refine x_lconst (x := 1) rfl dX8_who_42 ?_
          refine x_ldc2 (x := 12) wc_1198 rfl dX8_who_43 ?_
          obtain ⟨c15, g14, h⟩ := hp_b1_e h
          refine x_isi (As := [.long (hp_J v6), .long (hp_J 1), .long (hp_J 12)]) (ok_X8_in hG v6 1 12 H1 (hp_rrl r6) (hp_rlc rfl) (hp_rlc rfl) rH1 _ g14) cal_X8_in stt_X8_in wm_945 (by decide) rfl rfl (Nat.le_of_ble_eq_true rfl) dX8_who_46 (fun z9 => ?_)
          have rc15 := z9
          refine x_ifne (tgt := 55) dX8_who_49 (by decide) rc15 (fun hc16 => ?_) (fun hc16 => ?_)
          · replace h := hp_if hc16 h
            refine x_aload_n dX8_who_55 0 rfl ?_
            refine x_getr 5 (sm_0 hG) (by decide) (C := RX8) (T := TX8) (N := 26) rfl in_X8 (by decide) rfl wf_862 dX8_who_56 ?_
            refine x_iload_n dX8_who_59 3 rfl ?_
            obtain ⟨c18, g17, h⟩ := hp_b1_e h
            refine x_isi (As := [.ref (hp_ad G 4), .int (hp_I v3)]) (ok_X8_isOut hG 4 v3 H1 (sm_4 hG) (by decide) r3 rH1 _ g17) cal_X8_isOut stt_X8_isOut wm_1055 (by decide) rfl rfl (Nat.le_of_ble_eq_true rfl) dX8_who_60 (fun z9 => ?_)
            have rc18 := z9
            refine x_ifne (tgt := 69) dX8_who_63 (by decide) rc18 (fun hc19 => ?_) (fun hc19 => ?_)
            · replace h := hp_if hc19 h
              refine x_aload_n dX8_who_69 0 rfl ?_
              refine x_iload dX8_who_70 4 rfl ?_
              refine x_iload dX8_who_72 5 rfl ?_
              refine x_iload dX8_who_74 6 rfl ?_
              obtain ⟨c21, H22, g20, h⟩ := hp_b2_e h
              refine x_ivi (As := [.int (hp_I v4), .int (hp_I v5), .int (hp_I v6)]) (ok_X8_rowFound hG v4 v5 v6 H1 r4 r5 r6 rH1 _ g20) cal_X8_rowFound (sm_0 hG) (by decide) (C := RX8) (T := TX8) (N := 26) rfl rfl ins_X8_rowFound sel_X8_rowFound wm_1199 (by decide) rfl rfl (Nat.le_of_ble_eq_true rfl) dX8_who_76 (fun z9 => ?_)
              obtain ⟨rc21, rH22⟩ := z9
              refine x_istore (L' := [(7, .int (hp_I c21)), (0, .ref (hp_ad G 0)), (1, .int (hp_I v1)), (2, .int (hp_I v2)), (3, .int (hp_I v3)), (4, .int (hp_I v4)), (5, .int (hp_I v5)), (6, .int (hp_I v6))]) dX8_who_79 (by decide) rfl ?_
              refine x_iload dX8_who_81 0 rfl ?_
              refine x_ifeq (tgt := 89) dX8_who_83 (by decide) rc21 (fun hc23 => ?_) (fun hc23 => ?_)
              · replace h := hp_it hc23 h
                refine x_iconst dX8_who_89 ?_
                refine x_istore (L' := [(8, .int (hp_I 0)), (7, .int (hp_I c21)), (0, .ref (hp_ad G 0)), (1, .int (hp_I v1)), (2, .int (hp_I v2)), (3, .int (hp_I v3)), (4, .int (hp_I v4)), (5, .int (hp_I v5)), (6, .int (hp_I v6))]) dX8_who_90 (by decide) rfl ?_
                refine x_iload_n dX8_who_92 4 rfl ?_
                obtain ⟨m24, em24⟩ : ∃ z : Int, z = (if v2 = 0 then 1 else 0) := ⟨_, rfl⟩
                replace h := hp_let_e em24 h
                have rm24 := hp_re em24 (hp_rite (hp_rc rfl) (hp_rc rfl))
                have zm24 : m24 = 0 ∨ m24 = 1 := by rw [em24]; exact (hp_z01 (Or.inr rfl) (Or.inl rfl))
                have kj : hp_R G l cX8_who 10 (some .int) "HeelPostModel" (hp_rm 5) (some (.int (hp_I r))) H' (hp_r r ∧ hp_in H') 101 [(0, .ref (hp_ad G 0)), (1, .int (hp_I v1)), (2, .int (hp_I v2)), (3, .int (hp_I v3)), (4, .int (hp_I v4)), (5, .int (hp_I v5)), (6, .int (hp_I v6)), (8, .int (hp_I 0))] [.int (hp_I m24)] H22 := by
                  refine x_istore (L' := [(9, .int (hp_I m24)), (0, .ref (hp_ad G 0)), (1, .int (hp_I v1)), (2, .int (hp_I v2)), (3, .int (hp_I v3)), (4, .int (hp_I v4)), (5, .int (hp_I v5)), (6, .int (hp_I v6)), (8, .int (hp_I 0))]) dX8_who_101 (by decide) rfl ?_
                  obtain ⟨v8_41, H42, g43, h⟩ := hp_b2_e h
                  refine x_sub [1, 2, 3, 4, 5, 6, 7, 8, 0] rfl (ok_X8_who_103 hG 1000 v1 v2 v3 v4 v5 v6 0 m24 H22 r1 r2 r3 r4 r5 r6 (hp_rc rfl) rm24 rH22 _ _ g43 ?_)
                  intro rv8_41 rH42
                  refine x_iload dX8_who_182 0 rfl ?_
                  cases h
                  exact x_iret ⟨rv8_41, rH42⟩ dX8_who_184
                clear h
                refine x_ifne (tgt := 100) dX8_who_93 (by decide) r2 (fun hc44 => ?_) (fun hc44 => ?_)
                · refine x_iconst dX8_who_100 ?_
                  have q9 := (em24.trans (if_neg hc44))
                  subst q9
                  exact x_sub [2, 3, 4, 5, 6, 7, 8, 0] rfl kj
                · refine x_iconst dX8_who_96 ?_
                  refine x_goto (tgt := 101) dX8_who_97 (by decide) ?_
                  have q9 := (em24.trans (if_pos hc44))
                  subst q9
                  exact x_sub [2, 3, 4, 5, 6, 7, 8, 0] rfl kj
              · replace h := hp_if hc23 h
                refine x_iload dX8_who_86 0 rfl ?_
                cases h
                exact x_iret ⟨rc21, rH22⟩ dX8_who_88
            · replace h := hp_it hc19 h
              refine x_ldc (x := (-1000002)) wc_1038 rfl dX8_who_66 ?_
              cases h
              exact x_iret ⟨(hp_rc rfl), rH1⟩ dX8_who_68
          · replace h := hp_it hc16 h
            refine x_ldc (x := (-1000001)) wc_949 rfl dX8_who_52 ?_
            cases h
            exact x_iret ⟨(hp_rc rfl), rH1⟩ dX8_who_54
set_option maxRecDepth 100000 in
theorem ok_X8_missing_99 {G : hp_G} (hG : hp_sh G = hp_shm) {l : Launch} {vv : Option Value} {H' : hp_H} {Z : Prop} : ∀ (n : Nat) (v1 : Int) (v2 : Int) (v3 : Int) (v4 : Int) (v6 : Int) (v7 : Int) (H : hp_H), hp_r v1 → hp_r v2 → hp_r v3 → hp_r v4 → hp_r v6 → hp_r v7 → hp_in H → ∀ m6 : Int, ∀ Hm : hp_H, f_X8_missing_99 n v1 v2 v3 v4 v6 v7 H = some (m6, Hm) → (hp_r m6 → hp_in Hm → hp_R G l cX8_missing 8 (some .int) "HeelPostModel" (hp_rm 5) vv H' Z 174 [(6, .int (hp_I m6))] [] Hm) → hp_R G l cX8_missing 8 (some .int) "HeelPostModel" (hp_rm 5) vv H' Z 99 [(0, .ref (hp_ad G 0)), (1, .int (hp_I v1)), (2, .int (hp_I v2)), (3, .int (hp_I v3)), (4, .int (hp_I v4)), (6, .int (hp_I v6)), (7, .int (hp_I v7))] [] H := by
  intro n
  induction n with
  | zero =>
    intro v1 v2 v3 v4 v6 v7 H r1 r2 r3 r4 r6 r7 rH m6 Hm h kx
    exact hp_no h
  | succ n ih =>
    intro v1 v2 v3 v4 v6 v7 H r1 r2 r3 r4 r6 r7 rH m6 Hm h kx
    unfold f_X8_missing_99 at h
    refine x_iload dX8_missing_99 6 rfl ?_
    refine x_aload_n dX8_missing_101 0 rfl ?_
    refine x_getr 5 (sm_0 hG) (by decide) (C := RX8) (T := TX8) (N := 26) rfl in_X8 (by decide) rfl wf_862 dX8_missing_102 ?_
    refine x_iconst dX8_missing_105 ?_
    refine x_ia 41 rfl (sm_4 hG) (by decide) (Nat.le_of_ble_eq_true rfl) (by decide) dX8_missing_106 ?_
    refine x_icge (tgt := 174) dX8_missing_107 (by decide) r7 (rH _ _) (fun hc24 => ?_) (fun hc24 => ?_)
    · replace h := hp_if hc24 h
      cases h
      exact x_sub [5] rfl (kx r6 rH)
    · replace h := hp_it hc24 h
      refine x_aload_n dX8_missing_110 0 rfl ?_
      obtain ⟨c26, g25, h⟩ := hp_b1_e h
      refine x_ivi (As := []) (ok_X8_up hG H rH _ g25) cal_X8_up (sm_0 hG) (by decide) (C := RX8) (T := TX8) (N := 26) rfl rfl ins_X8_up sel_X8_up wm_1175 (by decide) rfl rfl (Nat.le_of_ble_eq_true rfl) dX8_missing_111 (fun z9 => ?_)
      have rc26 := z9
      refine x_iload dX8_missing_114 6 rfl ?_
      obtain ⟨c28, g27, h⟩ := hp_b1_e h
      refine x_isi (As := [.int (hp_I c26), .int (hp_I v7)]) (ok_X8_has hG c26 v7 H rc26 r7 rH _ g27) cal_X8_has stt_X8_has wm_1064 (by decide) rfl rfl (Nat.le_of_ble_eq_true rfl) dX8_missing_116 (fun z9 => ?_)
      have rc28 := z9
      obtain ⟨v6_29, H30, hm31, h⟩ := hp_b2_e h
      have kj : hp_r v6_29 → hp_in H30 → hp_R G l cX8_missing 8 (some .int) "HeelPostModel" (hp_rm 5) vv H' Z 168 [(0, .ref (hp_ad G 0)), (1, .int (hp_I v1)), (2, .int (hp_I v2)), (3, .int (hp_I v3)), (4, .int (hp_I v4)), (6, .int (hp_I v6_29)), (7, .int (hp_I v7))] [] H30 := by
        intro rv6_29 rH30
        obtain ⟨v7_32, ev7_32⟩ : ∃ z : Int, z = (hp_w (v7 + 1)) := ⟨_, rfl⟩
        replace h := hp_let_e ev7_32 h
        have rv7_32 := hp_re ev7_32 (hp_rw _)
        refine x_iiE (L' := [(7, .int (hp_I v7_32)), (0, .ref (hp_ad G 0)), (1, .int (hp_I v1)), (2, .int (hp_I v2)), (3, .int (hp_I v3)), (4, .int (hp_I v4)), (6, .int (hp_I v6_29))]) ev7_32 dX8_missing_168 6 rfl (by decide) rfl ?_
        refine x_goto (tgt := 99) dX8_missing_171 (by decide) ?_
        exact x_sub [1, 2, 3, 4, 5, 6, 0] rfl (ih v1 v2 v3 v4 v6_29 v7_32 H30 r1 r2 r3 r4 rv6_29 rv7_32 rH30 _ _ h kx)
      clear h
      have h := hm31
      clear hm31
      refine x_ifeq (tgt := 168) dX8_missing_119 (by decide) rc28 (fun hc33 => ?_) (fun hc33 => ?_)
      · replace h := hp_it hc33 h
        cases h
        exact x_sub [0, 1, 2, 3, 4, 5, 6] rfl (kj r6 rH)
      · replace h := hp_if hc33 h
        refine x_aload_n dX8_missing_122 0 rfl ?_
        obtain ⟨H35, g34, h⟩ := hp_b1_e h
        refine x_ivv (As := []) (ok_X8_layThen hG H rH _ g34) cal_X8_layThen (sm_0 hG) (by decide) (C := RX8) (T := TX8) (N := 26) rfl rfl ins_X8_layThen sel_X8_layThen wm_1135 (by decide) rfl rfl (Nat.le_of_ble_eq_true rfl) dX8_missing_123 (fun z9 => ?_)
        have rH35 := z9
        refine x_aload_n dX8_missing_126 0 rfl ?_
        refine x_getr 7 (sm_0 hG) (by decide) (C := RX8) (T := TX8) (N := 26) rfl in_X8 (by decide) rfl wf_864 dX8_missing_127 ?_
        refine x_iconst dX8_missing_130 ?_
        refine x_dup2 rfl rfl dX8_missing_131 ?_
        refine x_ia 41 rfl (sm_6 hG) (by decide) (Nat.le_of_ble_eq_true rfl) (by decide) dX8_missing_132 ?_
        refine x_iconst dX8_missing_133 ?_
        refine x_iload dX8_missing_134 6 rfl ?_
        refine x_ishl dX8_missing_136 ?_
        refine x_ior dX8_missing_137 ?_
        obtain ⟨H36, eH36⟩ : ∃ z : hp_H, z = hp_up H35 6 4 (hp_or (H35 6 4) (hp_shl 1 v7)) := ⟨_, rfl⟩
        replace h := hp_let_e eH36 h
        have rH36 := hp_ine eH36 (hp_in_up rH35 (hp_ror _ _))
        refine x_ias 41 rfl eH36 (sm_6 hG) (by decide) (Nat.le_of_ble_eq_true rfl) (by decide) dX8_missing_138 ?_
        refine x_iload dX8_missing_139 5 rfl ?_
        refine x_aload_n dX8_missing_141 0 rfl ?_
        refine x_iload_n dX8_missing_142 1 rfl ?_
        refine x_bipush rfl dX8_missing_143 ?_
        refine x_iload_n dX8_missing_145 2 rfl ?_
        refine x_imul dX8_missing_146 ?_
        refine x_iload_n dX8_missing_147 3 rfl ?_
        refine x_iadd dX8_missing_148 ?_
        refine x_iload dX8_missing_149 4 rfl ?_
        obtain ⟨c38, H39, g37, h⟩ := hp_b2_e h
        refine x_ivi (As := [.int (hp_I v1), .int (hp_I (hp_w ((hp_w (40 * v2)) + v3))), .int (hp_I v4)]) (ok_X8_isSo hG v1 (hp_w ((hp_w (40 * v2)) + v3)) v4 H36 r1 (hp_rw _) r4 rH36 _ g37) cal_X8_isSo (sm_0 hG) (by decide) (C := RX8) (T := TX8) (N := 26) rfl rfl ins_X8_isSo sel_X8_isSo wm_1203 (by decide) rfl rfl (Nat.le_of_ble_eq_true rfl) dX8_missing_151 (fun z9 => ?_)
        obtain ⟨rc38, rH39⟩ := z9
        obtain ⟨m40, em40⟩ : ∃ z : Int, z = (if c38 = 0 then 0 else (hp_shl 1 v7)) := ⟨_, rfl⟩
        replace h := hp_let_e em40 h
        have rm40 := hp_re em40 (hp_rite (hp_rc rfl) (hp_rshl _ _))
        have kj : hp_R G l cX8_missing 8 (some .int) "HeelPostModel" (hp_rm 5) vv H' Z 165 [(0, .ref (hp_ad G 0)), (1, .int (hp_I v1)), (2, .int (hp_I v2)), (3, .int (hp_I v3)), (4, .int (hp_I v4)), (7, .int (hp_I v7))] [.int (hp_I m40), .int (hp_I v6)] H39 := by
          refine x_ior dX8_missing_165 ?_
          obtain ⟨v6_41, ev6_41⟩ : ∃ z : Int, z = (hp_or v6 m40) := ⟨_, rfl⟩
          replace h := hp_let_e ev6_41 h
          have rv6_41 := hp_re ev6_41 (hp_ror _ _)
          refine x_isE (L' := [(6, .int (hp_I v6_41)), (0, .ref (hp_ad G 0)), (1, .int (hp_I v1)), (2, .int (hp_I v2)), (3, .int (hp_I v3)), (4, .int (hp_I v4)), (7, .int (hp_I v7))]) ev6_41 dX8_missing_166 (by decide) rfl ?_
          cases h
          exact x_sub [1, 2, 3, 4, 5, 0, 6] rfl (kj rv6_41 rH39)
        clear h
        refine x_ifeq (tgt := 164) dX8_missing_154 (by decide) rc38 (fun hc42 => ?_) (fun hc42 => ?_)
        · refine x_iconst dX8_missing_164 ?_
          have q9 := (em40.trans (if_pos hc42))
          subst q9
          exact x_sub [0, 1, 2, 3, 4, 6] rfl kj
        · refine x_iconst dX8_missing_157 ?_
          refine x_iload dX8_missing_158 6 rfl ?_
          refine x_ishl dX8_missing_160 ?_
          refine x_goto (tgt := 165) dX8_missing_161 (by decide) ?_
          have q9 := (em40.trans (if_neg hc42))
          subst q9
          exact x_sub [0, 1, 2, 3, 4, 6] rfl kj
set_option maxRecDepth 100000 in
theorem ok_X8_missing {G : hp_G} (hG : hp_sh G = hp_shm) {l : Launch} (v1 : Int) (v2 : Int) (v3 : Int) (v4 : Int) (H : hp_H) (r1 : hp_r v1) (r2 : hp_r v2) (r3 : hp_r v3) (r4 : hp_r v4) (rH : hp_in H) (x : Int × hp_H) (h : f_X8_missing v1 v2 v3 v4 H = some x) : hp_M G l yX8_missing cX8_missing 8 (some .int) (hp_rm 5) [.ref (hp_ad G 0), .int (hp_I v1), .int (hp_I v2), .int (hp_I v3), .int (hp_I v4)] H (some (.int (hp_I x.1))) x.2 (hp_r x.1 ∧ hp_in x.2) := by
  obtain ⟨r, H'⟩ := x
  unfold f_X8_missing at h
  refine hp_body "HeelPostModel" (by decide) rfl ⟨rfl, rfl⟩ (Nat.le_of_ble_eq_true rfl) ?_
  show hp_R G l cX8_missing 8 (some .int) "HeelPostModel" (hp_rm 5) (some (.int (hp_I r))) H' (hp_r r ∧ hp_in H') 0 [(0, .ref (hp_ad G 0)), (1, .int (hp_I v1)), (2, .int (hp_I v2)), (3, .int (hp_I v3)), (4, .int (hp_I v4))] [] H
  refine x_aload_n dX8_missing_0 0 rfl ?_
  refine x_iconst dX8_missing_1 ?_
  obtain ⟨H1, eH1⟩ : ∃ z : hp_H, z = hp_up H 0 0 0 := ⟨_, rfl⟩
  replace h := hp_let_e eH1 h
  have rH1 := hp_ine eH1 (hp_in_up rH (hp_rc rfl))
  refine x_pi 0 0 rfl tyX8 eH1 (sm_0 hG) (by decide) (C := RX8) (T := TX8) (N := 26) rfl in_X8 tyX8_ok nmX8 (by decide) rfl rfl rfl wf_857 dX8_missing_2 ?_
  refine x_aload_n dX8_missing_5 0 rfl ?_
  refine x_iload_n dX8_missing_6 1 rfl ?_
  obtain ⟨c3, g2, h⟩ := hp_b1_e h
  refine x_ivi (As := [.int (hp_I v1)]) (ok_X8_isPosted hG v1 H1 r1 rH1 _ g2) cal_X8_isPosted (sm_0 hG) (by decide) (C := RX8) (T := TX8) (N := 26) rfl rfl ins_X8_isPosted sel_X8_isPosted wm_1077 (by decide) rfl rfl (Nat.le_of_ble_eq_true rfl) dX8_missing_7 (fun z9 => ?_)
  have rc3 := z9
  refine x_ifeq (tgt := 33) dX8_missing_10 (by decide) rc3 (fun hc4 => ?_) (fun hc4 => ?_)
  · replace h := hp_it hc4 h
    refine x_ldc (x := (-1000001)) wc_949 rfl dX8_missing_33 ?_
    cases h
    exact x_iret ⟨(hp_rc rfl), rH1⟩ dX8_missing_35
  · replace h := hp_if hc4 h
    refine x_iload_n dX8_missing_13 2 rfl ?_
    obtain ⟨c6, g5, h⟩ := hp_b1_e h
    refine x_isi (As := [.int (hp_I v2)]) (ok_X8_isRow hG v2 H1 r2 rH1 _ g5) cal_X8_isRow stt_X8_isRow wm_941 (by decide) rfl rfl (Nat.le_of_ble_eq_true rfl) dX8_missing_14 (fun z9 => ?_)
    have rc6 := z9
    refine x_ifeq (tgt := 33) dX8_missing_17 (by decide) rc6 (fun hc7 => ?_) (fun hc7 => ?_)
    · replace h := hp_it hc7 h
      refine x_ldc (x := (-1000001)) wc_949 rfl dX8_missing_33 ?_
      cases h
      exact x_iret ⟨(hp_rc rfl), rH1⟩ dX8_missing_35
    · replace h := hp_if hc7 h
      refine x_iload dX8_missing_20 4 rfl ?_
      refine x_i2l r4 dX8_missing_22 ?_
      refine x_lconst (x := 1) rfl dX8_missing_23 ?_
      refine x_ldc2 (x := 12) wc_1198 rfl dX8_missing_24 ?_
      obtain ⟨c9, g8, h⟩ := hp_b1_e h
      refine x_isi (As := [.long (hp_J v4), .long (hp_J 1), .long (hp_J 12)]) (ok_X8_in hG v4 1 12 H1 (hp_rrl r4) (hp_rlc rfl) (hp_rlc rfl) rH1 _ g8) cal_X8_in stt_X8_in wm_945 (by decide) rfl rfl (Nat.le_of_ble_eq_true rfl) dX8_missing_27 (fun z9 => ?_)
      have rc9 := z9
      refine x_ifne (tgt := 36) dX8_missing_30 (by decide) rc9 (fun hc10 => ?_) (fun hc10 => ?_)
      · replace h := hp_if hc10 h
        refine x_aload_n dX8_missing_36 0 rfl ?_
        refine x_getr 5 (sm_0 hG) (by decide) (C := RX8) (T := TX8) (N := 26) rfl in_X8 (by decide) rfl wf_862 dX8_missing_37 ?_
        refine x_iload_n dX8_missing_40 1 rfl ?_
        obtain ⟨c12, g11, h⟩ := hp_b1_e h
        refine x_isi (As := [.ref (hp_ad G 4), .int (hp_I v1)]) (ok_X8_isOut hG 4 v1 H1 (sm_4 hG) (by decide) r1 rH1 _ g11) cal_X8_isOut stt_X8_isOut wm_1055 (by decide) rfl rfl (Nat.le_of_ble_eq_true rfl) dX8_missing_41 (fun z9 => ?_)
        have rc12 := z9
        refine x_ifne (tgt := 50) dX8_missing_44 (by decide) rc12 (fun hc13 => ?_) (fun hc13 => ?_)
        · replace h := hp_if hc13 h
          refine x_aload_n dX8_missing_50 0 rfl ?_
          refine x_iload_n dX8_missing_51 2 rfl ?_
          refine x_iload_n dX8_missing_52 3 rfl ?_
          refine x_iload dX8_missing_53 4 rfl ?_
          obtain ⟨c15, H16, g14, h⟩ := hp_b2_e h
          refine x_ivi (As := [.int (hp_I v2), .int (hp_I v3), .int (hp_I v4)]) (ok_X8_rowFound hG v2 v3 v4 H1 r2 r3 r4 rH1 _ g14) cal_X8_rowFound (sm_0 hG) (by decide) (C := RX8) (T := TX8) (N := 26) rfl rfl ins_X8_rowFound sel_X8_rowFound wm_1199 (by decide) rfl rfl (Nat.le_of_ble_eq_true rfl) dX8_missing_55 (fun z9 => ?_)
          obtain ⟨rc15, rH16⟩ := z9
          refine x_istore (L' := [(5, .int (hp_I c15)), (0, .ref (hp_ad G 0)), (1, .int (hp_I v1)), (2, .int (hp_I v2)), (3, .int (hp_I v3)), (4, .int (hp_I v4))]) dX8_missing_58 (by decide) rfl ?_
          refine x_iload dX8_missing_60 0 rfl ?_
          refine x_ifeq (tgt := 68) dX8_missing_62 (by decide) rc15 (fun hc17 => ?_) (fun hc17 => ?_)
          · replace h := hp_it hc17 h
            refine x_aload_n dX8_missing_68 1 rfl ?_
            obtain ⟨H19, g18, h⟩ := hp_b1_e h
            refine x_ivv (As := []) (ok_X8_layThen hG H16 rH16 _ g18) cal_X8_layThen (sm_0 hG) (by decide) (C := RX8) (T := TX8) (N := 26) rfl rfl ins_X8_layThen sel_X8_layThen wm_1135 (by decide) rfl rfl (Nat.le_of_ble_eq_true rfl) dX8_missing_69 (fun z9 => ?_)
            have rH19 := z9
            refine x_aload_n dX8_missing_72 1 rfl ?_
            refine x_iload_n dX8_missing_73 2 rfl ?_
            refine x_bipush rfl dX8_missing_74 ?_
            refine x_iload_n dX8_missing_76 3 rfl ?_
            refine x_imul dX8_missing_77 ?_
            refine x_iload_n dX8_missing_78 4 rfl ?_
            refine x_iadd dX8_missing_79 ?_
            refine x_iload dX8_missing_80 5 rfl ?_
            obtain ⟨c21, H22, g20, h⟩ := hp_b2_e h
            refine x_ivi (As := [.int (hp_I v1), .int (hp_I (hp_w ((hp_w (40 * v2)) + v3))), .int (hp_I v4)]) (ok_X8_isSo hG v1 (hp_w ((hp_w (40 * v2)) + v3)) v4 H19 r1 (hp_rw _) r4 rH19 _ g20) cal_X8_isSo (sm_0 hG) (by decide) (C := RX8) (T := TX8) (N := 26) rfl rfl ins_X8_isSo sel_X8_isSo wm_1203 (by decide) rfl rfl (Nat.le_of_ble_eq_true rfl) dX8_missing_82 (fun z9 => ?_)
            obtain ⟨rc21, rH22⟩ := z9
            obtain ⟨m23, em23⟩ : ∃ z : Int, z = (if c21 = 0 then 0 else 64) := ⟨_, rfl⟩
            replace h := hp_let_e em23 h
            have rm23 := hp_re em23 (hp_rite (hp_rc rfl) (hp_rc rfl))
            have kj : hp_R G l cX8_missing 8 (some .int) "HeelPostModel" (hp_rm 5) (some (.int (hp_I r))) H' (hp_r r ∧ hp_in H') 94 [(0, .ref (hp_ad G 0)), (1, .int (hp_I v1)), (2, .int (hp_I v2)), (3, .int (hp_I v3)), (4, .int (hp_I v4))] [.int (hp_I m23)] H22 := by
              refine x_istore (L' := [(6, .int (hp_I m23)), (0, .ref (hp_ad G 0)), (1, .int (hp_I v1)), (2, .int (hp_I v2)), (3, .int (hp_I v3)), (4, .int (hp_I v4))]) dX8_missing_94 (by decide) rfl ?_
              refine x_iconst dX8_missing_96 ?_
              refine x_istore (L' := [(7, .int (hp_I 0)), (6, .int (hp_I m23)), (0, .ref (hp_ad G 0)), (1, .int (hp_I v1)), (2, .int (hp_I v2)), (3, .int (hp_I v3)), (4, .int (hp_I v4))]) dX8_missing_97 (by decide) rfl ?_
              obtain ⟨v6_43, H44, g45, h⟩ := hp_b2_e h
              refine x_sub [2, 3, 4, 5, 6, 1, 0] rfl (ok_X8_missing_99 hG 1000 v1 v2 v3 v4 m23 0 H22 r1 r2 r3 r4 rm23 (hp_rc rfl) rH22 _ _ g45 ?_)
              intro rv6_43 rH44
              refine x_iload dX8_missing_174 0 rfl ?_
              cases h
              exact x_iret ⟨rv6_43, rH44⟩ dX8_missing_176
            clear h
            refine x_ifeq (tgt := 93) dX8_missing_85 (by decide) rc21 (fun hc46 => ?_) (fun hc46 => ?_)
            · refine x_iconst dX8_missing_93 ?_
              have q9 := (em23.trans (if_pos hc46))
              subst q9
              exact x_sub [1, 2, 3, 4, 5] rfl kj
            · refine x_bipush rfl dX8_missing_88 ?_
              refine x_goto (tgt := 94) dX8_missing_90 (by decide) ?_
              have q9 := (em23.trans (if_neg hc46))
              subst q9
              exact x_sub [1, 2, 3, 4, 5] rfl kj
          · replace h := hp_if hc17 h
            refine x_iload dX8_missing_65 0 rfl ?_
            cases h
            exact x_iret ⟨rc15, rH16⟩ dX8_missing_67
        · replace h := hp_it hc13 h
          refine x_ldc (x := (-1000002)) wc_1038 rfl dX8_missing_47 ?_
          cases h
          exact x_iret ⟨(hp_rc rfl), rH1⟩ dX8_missing_49
      · replace h := hp_it hc10 h
        refine x_ldc (x := (-1000001)) wc_949 rfl dX8_missing_33 ?_
        cases h
        exact x_iret ⟨(hp_rc rfl), rH1⟩ dX8_missing_35
set_option maxRecDepth 100000 in
theorem ok_X8_goals_74 {G : hp_G} (hG : hp_sh G = hp_shm) {l : Launch} {vv : Option Value} {H' : hp_H} {Z : Prop} : ∀ (n : Nat) (v1 : Int) (v2 : Int) (v3 : Int) (v4 : Int) (v6 : Int) (v7 : Int) (H : hp_H), hp_r v1 → hp_r v2 → hp_r v3 → hp_r v4 → hp_r v6 → hp_r v7 → hp_in H → ∀ m6 : Int, ∀ Hm : hp_H, f_X8_goals_74 n v1 v2 v3 v4 v6 v7 H = some (m6, Hm) → (hp_r m6 → hp_in Hm → hp_R G l cX8_goals 8 (some .int) "HeelPostModel" (hp_rm 5) vv H' Z 138 [(6, .int (hp_I m6))] [] Hm) → hp_R G l cX8_goals 8 (some .int) "HeelPostModel" (hp_rm 5) vv H' Z 74 [(0, .ref (hp_ad G 0)), (1, .int (hp_I v1)), (2, .int (hp_I v2)), (3, .int (hp_I v3)), (4, .int (hp_I v4)), (6, .int (hp_I v6)), (7, .int (hp_I v7))] [] H := by
  intro n
  induction n with
  | zero =>
    intro v1 v2 v3 v4 v6 v7 H r1 r2 r3 r4 r6 r7 rH m6 Hm h kx
    exact hp_no h
  | succ n ih =>
    intro v1 v2 v3 v4 v6 v7 H r1 r2 r3 r4 r6 r7 rH m6 Hm h kx
    unfold f_X8_goals_74 at h
    refine x_iload dX8_goals_74 6 rfl ?_
    refine x_aload_n dX8_goals_76 0 rfl ?_
    refine x_getr 5 (sm_0 hG) (by decide) (C := RX8) (T := TX8) (N := 26) rfl in_X8 (by decide) rfl wf_862 dX8_goals_77 ?_
    refine x_iconst dX8_goals_80 ?_
    refine x_ia 41 rfl (sm_4 hG) (by decide) (Nat.le_of_ble_eq_true rfl) (by decide) dX8_goals_81 ?_
    refine x_icge (tgt := 138) dX8_goals_82 (by decide) r7 (rH _ _) (fun hc18 => ?_) (fun hc18 => ?_)
    · replace h := hp_if hc18 h
      cases h
      exact x_sub [5] rfl (kx r6 rH)
    · replace h := hp_it hc18 h
      refine x_aload_n dX8_goals_85 0 rfl ?_
      obtain ⟨H20, g19, h⟩ := hp_b1_e h
      refine x_ivv (As := []) (ok_X8_layThen hG H rH _ g19) cal_X8_layThen (sm_0 hG) (by decide) (C := RX8) (T := TX8) (N := 26) rfl rfl ins_X8_layThen sel_X8_layThen wm_1135 (by decide) rfl rfl (Nat.le_of_ble_eq_true rfl) dX8_goals_86 (fun z9 => ?_)
      have rH20 := z9
      refine x_aload_n dX8_goals_89 0 rfl ?_
      refine x_getr 7 (sm_0 hG) (by decide) (C := RX8) (T := TX8) (N := 26) rfl in_X8 (by decide) rfl wf_864 dX8_goals_90 ?_
      refine x_iconst dX8_goals_93 ?_
      refine x_iconst dX8_goals_94 ?_
      refine x_iload_n dX8_goals_95 1 rfl ?_
      refine x_imul dX8_goals_96 ?_
      refine x_iadd dX8_goals_97 ?_
      refine x_iconst dX8_goals_98 ?_
      refine x_iadd dX8_goals_99 ?_
      refine x_iload dX8_goals_100 6 rfl ?_
      obtain ⟨b21, h⟩ := hp_ck_e h
      obtain ⟨H22, eH22⟩ : ∃ z : hp_H, z = hp_up H20 6 (hp_w ((hp_w (5 + (hp_w (3 * v1)))) + 2)) v7 := ⟨_, rfl⟩
      replace h := hp_let_e eH22 h
      have rH22 := hp_ine eH22 (hp_in_up rH20 r7)
      refine x_ias 41 rfl eH22 (sm_6 hG) (by decide) (Nat.le_of_ble_eq_true rfl) b21 dX8_goals_102 ?_
      refine x_iload dX8_goals_103 5 rfl ?_
      refine x_aload_n dX8_goals_105 0 rfl ?_
      refine x_iload_n dX8_goals_106 1 rfl ?_
      refine x_bipush rfl dX8_goals_107 ?_
      refine x_iload_n dX8_goals_109 2 rfl ?_
      refine x_imul dX8_goals_110 ?_
      refine x_iload_n dX8_goals_111 3 rfl ?_
      refine x_iadd dX8_goals_112 ?_
      refine x_iload dX8_goals_113 4 rfl ?_
      obtain ⟨c24, H25, g23, h⟩ := hp_b2_e h
      refine x_ivi (As := [.int (hp_I v1), .int (hp_I (hp_w ((hp_w (40 * v2)) + v3))), .int (hp_I v4)]) (ok_X8_isSo hG v1 (hp_w ((hp_w (40 * v2)) + v3)) v4 H22 r1 (hp_rw _) r4 rH22 _ g23) cal_X8_isSo (sm_0 hG) (by decide) (C := RX8) (T := TX8) (N := 26) rfl rfl ins_X8_isSo sel_X8_isSo wm_1203 (by decide) rfl rfl (Nat.le_of_ble_eq_true rfl) dX8_goals_115 (fun z9 => ?_)
      obtain ⟨rc24, rH25⟩ := z9
      obtain ⟨m26, em26⟩ : ∃ z : Int, z = (if c24 = 0 then 0 else (hp_shl 1 v7)) := ⟨_, rfl⟩
      replace h := hp_let_e em26 h
      have rm26 := hp_re em26 (hp_rite (hp_rc rfl) (hp_rshl _ _))
      have kj : hp_R G l cX8_goals 8 (some .int) "HeelPostModel" (hp_rm 5) vv H' Z 129 [(0, .ref (hp_ad G 0)), (1, .int (hp_I v1)), (2, .int (hp_I v2)), (3, .int (hp_I v3)), (4, .int (hp_I v4)), (7, .int (hp_I v7))] [.int (hp_I m26), .int (hp_I v6)] H25 := by
        refine x_ior dX8_goals_129 ?_
        obtain ⟨v6_27, ev6_27⟩ : ∃ z : Int, z = (hp_or v6 m26) := ⟨_, rfl⟩
        replace h := hp_let_e ev6_27 h
        have rv6_27 := hp_re ev6_27 (hp_ror _ _)
        refine x_isE (L' := [(6, .int (hp_I v6_27)), (0, .ref (hp_ad G 0)), (1, .int (hp_I v1)), (2, .int (hp_I v2)), (3, .int (hp_I v3)), (4, .int (hp_I v4)), (7, .int (hp_I v7))]) ev6_27 dX8_goals_130 (by decide) rfl ?_
        obtain ⟨v7_28, ev7_28⟩ : ∃ z : Int, z = (hp_w (v7 + 1)) := ⟨_, rfl⟩
        replace h := hp_let_e ev7_28 h
        have rv7_28 := hp_re ev7_28 (hp_rw _)
        refine x_iiE (L' := [(7, .int (hp_I v7_28)), (6, .int (hp_I v6_27)), (0, .ref (hp_ad G 0)), (1, .int (hp_I v1)), (2, .int (hp_I v2)), (3, .int (hp_I v3)), (4, .int (hp_I v4))]) ev7_28 dX8_goals_132 6 rfl (by decide) rfl ?_
        refine x_goto (tgt := 74) dX8_goals_135 (by decide) ?_
        exact x_sub [2, 3, 4, 5, 6, 1, 0] rfl (ih v1 v2 v3 v4 v6_27 v7_28 H25 r1 r2 r3 r4 rv6_27 rv7_28 rH25 _ _ h kx)
      clear h
      refine x_ifeq (tgt := 128) dX8_goals_118 (by decide) rc24 (fun hc29 => ?_) (fun hc29 => ?_)
      · refine x_iconst dX8_goals_128 ?_
        have q9 := (em26.trans (if_pos hc29))
        subst q9
        exact x_sub [0, 1, 2, 3, 4, 6] rfl kj
      · refine x_iconst dX8_goals_121 ?_
        refine x_iload dX8_goals_122 6 rfl ?_
        refine x_ishl dX8_goals_124 ?_
        refine x_goto (tgt := 129) dX8_goals_125 (by decide) ?_
        have q9 := (em26.trans (if_neg hc29))
        subst q9
        exact x_sub [0, 1, 2, 3, 4, 6] rfl kj
set_option maxRecDepth 100000 in
theorem ok_X8_goals {G : hp_G} (hG : hp_sh G = hp_shm) {l : Launch} (v1 : Int) (v2 : Int) (v3 : Int) (v4 : Int) (H : hp_H) (r1 : hp_r v1) (r2 : hp_r v2) (r3 : hp_r v3) (r4 : hp_r v4) (rH : hp_in H) (x : Int × hp_H) (h : f_X8_goals v1 v2 v3 v4 H = some x) : hp_M G l yX8_goals cX8_goals 8 (some .int) (hp_rm 5) [.ref (hp_ad G 0), .int (hp_I v1), .int (hp_I v2), .int (hp_I v3), .int (hp_I v4)] H (some (.int (hp_I x.1))) x.2 (hp_r x.1 ∧ hp_in x.2) := by
  obtain ⟨r, H'⟩ := x
  unfold f_X8_goals at h
  refine hp_body "HeelPostModel" (by decide) rfl ⟨rfl, rfl⟩ (Nat.le_of_ble_eq_true rfl) ?_
  show hp_R G l cX8_goals 8 (some .int) "HeelPostModel" (hp_rm 5) (some (.int (hp_I r))) H' (hp_r r ∧ hp_in H') 0 [(0, .ref (hp_ad G 0)), (1, .int (hp_I v1)), (2, .int (hp_I v2)), (3, .int (hp_I v3)), (4, .int (hp_I v4))] [] H
  refine x_aload_n dX8_goals_0 0 rfl ?_
  refine x_iconst dX8_goals_1 ?_
  obtain ⟨H1, eH1⟩ : ∃ z : hp_H, z = hp_up H 0 0 0 := ⟨_, rfl⟩
  replace h := hp_let_e eH1 h
  have rH1 := hp_ine eH1 (hp_in_up rH (hp_rc rfl))
  refine x_pi 0 0 rfl tyX8 eH1 (sm_0 hG) (by decide) (C := RX8) (T := TX8) (N := 26) rfl in_X8 tyX8_ok nmX8 (by decide) rfl rfl rfl wf_857 dX8_goals_2 ?_
  refine x_aload_n dX8_goals_5 0 rfl ?_
  refine x_iload_n dX8_goals_6 1 rfl ?_
  obtain ⟨c3, g2, h⟩ := hp_b1_e h
  refine x_ivi (As := [.int (hp_I v1)]) (ok_X8_isPosted hG v1 H1 r1 rH1 _ g2) cal_X8_isPosted (sm_0 hG) (by decide) (C := RX8) (T := TX8) (N := 26) rfl rfl ins_X8_isPosted sel_X8_isPosted wm_1077 (by decide) rfl rfl (Nat.le_of_ble_eq_true rfl) dX8_goals_7 (fun z9 => ?_)
  have rc3 := z9
  refine x_ifeq (tgt := 33) dX8_goals_10 (by decide) rc3 (fun hc4 => ?_) (fun hc4 => ?_)
  · replace h := hp_it hc4 h
    refine x_ldc (x := (-1000001)) wc_949 rfl dX8_goals_33 ?_
    cases h
    exact x_iret ⟨(hp_rc rfl), rH1⟩ dX8_goals_35
  · replace h := hp_if hc4 h
    refine x_iload_n dX8_goals_13 2 rfl ?_
    obtain ⟨c6, g5, h⟩ := hp_b1_e h
    refine x_isi (As := [.int (hp_I v2)]) (ok_X8_isRow hG v2 H1 r2 rH1 _ g5) cal_X8_isRow stt_X8_isRow wm_941 (by decide) rfl rfl (Nat.le_of_ble_eq_true rfl) dX8_goals_14 (fun z9 => ?_)
    have rc6 := z9
    refine x_ifeq (tgt := 33) dX8_goals_17 (by decide) rc6 (fun hc7 => ?_) (fun hc7 => ?_)
    · replace h := hp_it hc7 h
      refine x_ldc (x := (-1000001)) wc_949 rfl dX8_goals_33 ?_
      cases h
      exact x_iret ⟨(hp_rc rfl), rH1⟩ dX8_goals_35
    · replace h := hp_if hc7 h
      refine x_iload dX8_goals_20 4 rfl ?_
      refine x_i2l r4 dX8_goals_22 ?_
      refine x_lconst (x := 1) rfl dX8_goals_23 ?_
      refine x_ldc2 (x := 12) wc_1198 rfl dX8_goals_24 ?_
      obtain ⟨c9, g8, h⟩ := hp_b1_e h
      refine x_isi (As := [.long (hp_J v4), .long (hp_J 1), .long (hp_J 12)]) (ok_X8_in hG v4 1 12 H1 (hp_rrl r4) (hp_rlc rfl) (hp_rlc rfl) rH1 _ g8) cal_X8_in stt_X8_in wm_945 (by decide) rfl rfl (Nat.le_of_ble_eq_true rfl) dX8_goals_27 (fun z9 => ?_)
      have rc9 := z9
      refine x_ifne (tgt := 36) dX8_goals_30 (by decide) rc9 (fun hc10 => ?_) (fun hc10 => ?_)
      · replace h := hp_if hc10 h
        refine x_aload_n dX8_goals_36 0 rfl ?_
        refine x_getr 5 (sm_0 hG) (by decide) (C := RX8) (T := TX8) (N := 26) rfl in_X8 (by decide) rfl wf_862 dX8_goals_37 ?_
        refine x_iload_n dX8_goals_40 1 rfl ?_
        obtain ⟨c12, g11, h⟩ := hp_b1_e h
        refine x_isi (As := [.ref (hp_ad G 4), .int (hp_I v1)]) (ok_X8_isOut hG 4 v1 H1 (sm_4 hG) (by decide) r1 rH1 _ g11) cal_X8_isOut stt_X8_isOut wm_1055 (by decide) rfl rfl (Nat.le_of_ble_eq_true rfl) dX8_goals_41 (fun z9 => ?_)
        have rc12 := z9
        refine x_ifne (tgt := 50) dX8_goals_44 (by decide) rc12 (fun hc13 => ?_) (fun hc13 => ?_)
        · replace h := hp_if hc13 h
          refine x_aload_n dX8_goals_50 0 rfl ?_
          refine x_iload_n dX8_goals_51 2 rfl ?_
          refine x_iload_n dX8_goals_52 3 rfl ?_
          refine x_iload dX8_goals_53 4 rfl ?_
          obtain ⟨c15, H16, g14, h⟩ := hp_b2_e h
          refine x_ivi (As := [.int (hp_I v2), .int (hp_I v3), .int (hp_I v4)]) (ok_X8_rowFound hG v2 v3 v4 H1 r2 r3 r4 rH1 _ g14) cal_X8_rowFound (sm_0 hG) (by decide) (C := RX8) (T := TX8) (N := 26) rfl rfl ins_X8_rowFound sel_X8_rowFound wm_1199 (by decide) rfl rfl (Nat.le_of_ble_eq_true rfl) dX8_goals_55 (fun z9 => ?_)
          obtain ⟨rc15, rH16⟩ := z9
          refine x_istore (L' := [(5, .int (hp_I c15)), (0, .ref (hp_ad G 0)), (1, .int (hp_I v1)), (2, .int (hp_I v2)), (3, .int (hp_I v3)), (4, .int (hp_I v4))]) dX8_goals_58 (by decide) rfl ?_
          refine x_iload dX8_goals_60 0 rfl ?_
          refine x_ifeq (tgt := 68) dX8_goals_62 (by decide) rc15 (fun hc17 => ?_) (fun hc17 => ?_)
          · replace h := hp_it hc17 h
            refine x_iconst dX8_goals_68 ?_
            refine x_istore (L' := [(6, .int (hp_I 0)), (5, .int (hp_I c15)), (0, .ref (hp_ad G 0)), (1, .int (hp_I v1)), (2, .int (hp_I v2)), (3, .int (hp_I v3)), (4, .int (hp_I v4))]) dX8_goals_69 (by decide) rfl ?_
            refine x_iconst dX8_goals_71 ?_
            refine x_istore (L' := [(7, .int (hp_I 0)), (6, .int (hp_I 0)), (5, .int (hp_I c15)), (0, .ref (hp_ad G 0)), (1, .int (hp_I v1)), (2, .int (hp_I v2)), (3, .int (hp_I v3)), (4, .int (hp_I v4))]) dX8_goals_72 (by decide) rfl ?_
            obtain ⟨v6_30, H31, g32, h⟩ := hp_b2_e h
            refine x_sub [3, 4, 5, 6, 7, 1, 0] rfl (ok_X8_goals_74 hG 1000 v1 v2 v3 v4 0 0 H16 r1 r2 r3 r4 (hp_rc rfl) (hp_rc rfl) rH16 _ _ g32 ?_)
            intro rv6_30 rH31
            refine x_iload dX8_goals_138 0 rfl ?_
            cases h
            exact x_iret ⟨rv6_30, rH31⟩ dX8_goals_140
          · replace h := hp_if hc17 h
            refine x_iload dX8_goals_65 0 rfl ?_
            cases h
            exact x_iret ⟨rc15, rH16⟩ dX8_goals_67
        · replace h := hp_it hc13 h
          refine x_ldc (x := (-1000002)) wc_1038 rfl dX8_goals_47 ?_
          cases h
          exact x_iret ⟨(hp_rc rfl), rH1⟩ dX8_goals_49
      · replace h := hp_it hc10 h
        refine x_ldc (x := (-1000001)) wc_949 rfl dX8_goals_33 ?_
        cases h
        exact x_iret ⟨(hp_rc rfl), rH1⟩ dX8_goals_35
set_option maxRecDepth 100000 in
theorem ok_X8_busy_46 {G : hp_G} (hG : hp_sh G = hp_shm) {l : Launch} {vv : Option Value} {H' : hp_H} {Z : Prop} : ∀ (n : Nat) (v1 : Int) (v2 : Int) (v3 : Int) (H : hp_H), hp_r v1 → hp_r v2 → hp_r v3 → hp_in H → ∀ Hm : hp_H, f_X8_busy_46 n v1 v2 v3 H = some Hm → (hp_in Hm → hp_R G l cX8_busy 6 (some .int) "HeelPostModel" (hp_rm 4) vv H' Z 65 [(0, .ref (hp_ad G 0)), (1, .int (hp_I v1)), (2, .int (hp_I v2))] [] Hm) → hp_R G l cX8_busy 6 (some .int) "HeelPostModel" (hp_rm 4) vv H' Z 46 [(0, .ref (hp_ad G 0)), (1, .int (hp_I v1)), (2, .int (hp_I v2)), (3, .int (hp_I v3))] [] H := by
  intro n
  induction n with
  | zero =>
    intro v1 v2 v3 H r1 r2 r3 rH Hm h kx
    exact hp_no h
  | succ n ih =>
    intro v1 v2 v3 H r1 r2 r3 rH Hm h kx
    unfold f_X8_busy_46 at h
    refine x_iload_n dX8_busy_46 3 rfl ?_
    refine x_bipush rfl dX8_busy_47 ?_
    refine x_icge (tgt := 65) dX8_busy_49 (by decide) r3 (hp_rc rfl) (fun hc13 => ?_) (fun hc13 => ?_)
    · replace h := hp_if hc13 h
      cases h
      exact x_sub [0, 1, 2] rfl (kx rH)
    · replace h := hp_it hc13 h
      refine x_aload_n dX8_busy_52 0 rfl ?_
      refine x_getr 21 (sm_0 hG) (by decide) (C := RX8) (T := TX8) (N := 26) rfl in_X8 (by decide) rfl wf_878 dX8_busy_53 ?_
      refine x_iload_n dX8_busy_56 3 rfl ?_
      refine x_iconst dX8_busy_57 ?_
      obtain ⟨b14, h⟩ := hp_ck_e h
      obtain ⟨H15, eH15⟩ : ∃ z : hp_H, z = hp_up H 11 v3 0 := ⟨_, rfl⟩
      replace h := hp_let_e eH15 h
      have rH15 := hp_ine eH15 (hp_in_up rH (hp_rc rfl))
      refine x_ias 6 rfl eH15 (sm_11 hG) (by decide) (Nat.le_of_ble_eq_true rfl) b14 dX8_busy_58 ?_
      obtain ⟨v3_16, ev3_16⟩ : ∃ z : Int, z = (hp_w (v3 + 1)) := ⟨_, rfl⟩
      replace h := hp_let_e ev3_16 h
      have rv3_16 := hp_re ev3_16 (hp_rw _)
      refine x_iiE (L' := [(3, .int (hp_I v3_16)), (0, .ref (hp_ad G 0)), (1, .int (hp_I v1)), (2, .int (hp_I v2))]) ev3_16 dX8_busy_59 3 rfl (by decide) rfl ?_
      refine x_goto (tgt := 46) dX8_busy_62 (by decide) ?_
      exact x_sub [1, 2, 3, 0] rfl (ih v1 v2 v3_16 H15 r1 r2 rv3_16 rH15 _ h kx)
set_option maxRecDepth 100000 in
theorem ok_X8_busy_85 {G : hp_G} (hG : hp_sh G = hp_shm) {l : Launch} {vv : Option Value} {H' : hp_H} {Z : Prop} : ∀ (n : Nat) (v1 : Int) (v2 : Int) (v3 : Int) (v5 : Int) (H : hp_H), hp_r v1 → hp_r v2 → hp_r v3 → hp_r v5 → hp_in H → ∀ Hm : hp_H, f_X8_busy_85 n v1 v2 v3 v5 H = some Hm → (hp_in Hm → hp_R G l cX8_busy 6 (some .int) "HeelPostModel" (hp_rm 4) vv H' Z 115 [(0, .ref (hp_ad G 0)), (1, .int (hp_I v1)), (2, .int (hp_I v2)), (3, .int (hp_I v3))] [] Hm) → hp_R G l cX8_busy 6 (some .int) "HeelPostModel" (hp_rm 4) vv H' Z 85 [(0, .ref (hp_ad G 0)), (1, .int (hp_I v1)), (2, .int (hp_I v2)), (3, .int (hp_I v3)), (5, .int (hp_I v5))] [] H := by
  intro n
  induction n with
  | zero =>
    intro v1 v2 v3 v5 H r1 r2 r3 r5 rH Hm h kx
    exact hp_no h
  | succ n ih =>
    intro v1 v2 v3 v5 H r1 r2 r3 r5 rH Hm h kx
    unfold f_X8_busy_85 at h
    refine x_iload dX8_busy_85 4 rfl ?_
    refine x_bipush rfl dX8_busy_87 ?_
    refine x_icge (tgt := 115) dX8_busy_89 (by decide) r5 (hp_rc rfl) (fun hc23 => ?_) (fun hc23 => ?_)
    · replace h := hp_if hc23 h
      cases h
      exact x_sub [0, 1, 2, 3] rfl (kx rH)
    · replace h := hp_it hc23 h
      refine x_aload_n dX8_busy_92 0 rfl ?_
      refine x_getr 21 (sm_0 hG) (by decide) (C := RX8) (T := TX8) (N := 26) rfl in_X8 (by decide) rfl wf_878 dX8_busy_93 ?_
      refine x_iload dX8_busy_96 4 rfl ?_
      refine x_dup2 rfl rfl dX8_busy_98 ?_
      obtain ⟨b24, h⟩ := hp_ck_e h
      refine x_ia 6 rfl (sm_11 hG) (by decide) (Nat.le_of_ble_eq_true rfl) b24 dX8_busy_99 ?_
      refine x_aload_n dX8_busy_100 0 rfl ?_
      refine x_getr 20 (sm_0 hG) (by decide) (C := RX8) (T := TX8) (N := 26) rfl in_X8 (by decide) rfl wf_877 dX8_busy_101 ?_
      refine x_iload dX8_busy_104 4 rfl ?_
      refine x_ia 6 rfl (sm_10 hG) (by decide) (Nat.le_of_ble_eq_true rfl) b24 dX8_busy_106 ?_
      refine x_iadd dX8_busy_107 ?_
      obtain ⟨H25, eH25⟩ : ∃ z : hp_H, z = hp_up H 11 v5 (hp_w ((H 11 v5) + (H 10 v5))) := ⟨_, rfl⟩
      replace h := hp_let_e eH25 h
      have rH25 := hp_ine eH25 (hp_in_up rH (hp_rw _))
      refine x_ias 6 rfl eH25 (sm_11 hG) (by decide) (Nat.le_of_ble_eq_true rfl) b24 dX8_busy_108 ?_
      obtain ⟨v5_26, ev5_26⟩ : ∃ z : Int, z = (hp_w (v5 + 1)) := ⟨_, rfl⟩
      replace h := hp_let_e ev5_26 h
      have rv5_26 := hp_re ev5_26 (hp_rw _)
      refine x_iiE (L' := [(5, .int (hp_I v5_26)), (0, .ref (hp_ad G 0)), (1, .int (hp_I v1)), (2, .int (hp_I v2)), (3, .int (hp_I v3))]) ev5_26 dX8_busy_109 4 rfl (by decide) rfl ?_
      refine x_goto (tgt := 85) dX8_busy_112 (by decide) ?_
      exact x_sub [1, 2, 3, 4, 0] rfl (ih v1 v2 v3 v5_26 H25 r1 r2 r3 rv5_26 rH25 _ h kx)
set_option maxRecDepth 100000 in
theorem ok_X8_busy_67 {G : hp_G} (hG : hp_sh G = hp_shm) {l : Launch} {vv : Option Value} {H' : hp_H} {Z : Prop} : ∀ (n : Nat) (v1 : Int) (v2 : Int) (v3 : Int) (H : hp_H), hp_r v1 → hp_r v2 → hp_r v3 → hp_in H → ∀ Hm : hp_H, f_X8_busy_67 n v1 v2 v3 H = some Hm → (hp_in Hm → hp_R G l cX8_busy 6 (some .int) "HeelPostModel" (hp_rm 4) vv H' Z 121 [(0, .ref (hp_ad G 0)), (2, .int (hp_I v2))] [] Hm) → hp_R G l cX8_busy 6 (some .int) "HeelPostModel" (hp_rm 4) vv H' Z 67 [(0, .ref (hp_ad G 0)), (1, .int (hp_I v1)), (2, .int (hp_I v2)), (3, .int (hp_I v3))] [] H := by
  intro n
  induction n with
  | zero =>
    intro v1 v2 v3 H r1 r2 r3 rH Hm h kx
    exact hp_no h
  | succ n ih =>
    intro v1 v2 v3 H r1 r2 r3 rH Hm h kx
    unfold f_X8_busy_67 at h
    refine x_iload_n dX8_busy_67 3 rfl ?_
    refine x_iload_n dX8_busy_68 1 rfl ?_
    refine x_icge (tgt := 121) dX8_busy_69 (by decide) r3 r1 (fun hc19 => ?_) (fun hc19 => ?_)
    · replace h := hp_if hc19 h
      cases h
      exact x_sub [0, 2] rfl (kx rH)
    · replace h := hp_it hc19 h
      refine x_aload_n dX8_busy_72 0 rfl ?_
      refine x_aload_n dX8_busy_73 0 rfl ?_
      refine x_getr 7 (sm_0 hG) (by decide) (C := RX8) (T := TX8) (N := 26) rfl in_X8 (by decide) rfl wf_864 dX8_busy_74 ?_
      obtain ⟨c21, H22, g20, h⟩ := hp_b2_e h
      refine x_ivi (As := [.ref (hp_ad G 6)]) (ok_X8_hour hG 6 H (sm_6 hG) (by decide) rH _ g20) cal_X8_hour (sm_0 hG) (by decide) (C := RX8) (T := TX8) (N := 26) rfl rfl ins_X8_hour sel_X8_hour wm_1044 (by decide) rfl rfl (Nat.le_of_ble_eq_true rfl) dX8_busy_77 (fun z9 => ?_)
      obtain ⟨rc21, rH22⟩ := z9
      refine x_istore (L' := [(4, .int (hp_I c21)), (0, .ref (hp_ad G 0)), (1, .int (hp_I v1)), (2, .int (hp_I v2)), (3, .int (hp_I v3))]) dX8_busy_80 (by decide) rfl ?_
      refine x_iconst dX8_busy_82 ?_
      refine x_istore (L' := [(5, .int (hp_I 0)), (4, .int (hp_I c21)), (0, .ref (hp_ad G 0)), (1, .int (hp_I v1)), (2, .int (hp_I v2)), (3, .int (hp_I v3))]) dX8_busy_83 (by decide) rfl ?_
      obtain ⟨H27, g28, h⟩ := hp_b1_e h
      refine x_sub [2, 3, 4, 5, 0] rfl (ok_X8_busy_85 hG 1000 v1 v2 v3 0 H22 r1 r2 r3 (hp_rc rfl) rH22 _ g28 ?_)
      intro rH27
      obtain ⟨v3_29, ev3_29⟩ : ∃ z : Int, z = (hp_w (v3 + 1)) := ⟨_, rfl⟩
      replace h := hp_let_e ev3_29 h
      have rv3_29 := hp_re ev3_29 (hp_rw _)
      refine x_iiE (L' := [(3, .int (hp_I v3_29)), (0, .ref (hp_ad G 0)), (1, .int (hp_I v1)), (2, .int (hp_I v2))]) ev3_29 dX8_busy_115 3 rfl (by decide) rfl ?_
      refine x_goto (tgt := 67) dX8_busy_118 (by decide) ?_
      exact x_sub [1, 2, 3, 0] rfl (ih v1 v2 v3_29 H27 r1 r2 rv3_29 rH27 _ h kx)
set_option maxRecDepth 100000 in
theorem ok_X8_busy_126 {G : hp_G} (hG : hp_sh G = hp_shm) {l : Launch} {vv : Option Value} {H' : hp_H} {Z : Prop} : ∀ (n : Nat) (v2 : Int) (v3 : Int) (v4 : Int) (H : hp_H), hp_r v2 → hp_r v3 → hp_r v4 → hp_in H → ∀ m3 : Int, f_X8_busy_126 n v2 v3 v4 H = some m3 → (hp_r m3 → hp_R G l cX8_busy 6 (some .int) "HeelPostModel" (hp_rm 4) vv H' Z 162 [(0, .ref (hp_ad G 0)), (2, .int (hp_I v2)), (3, .int (hp_I m3))] [] H) → hp_R G l cX8_busy 6 (some .int) "HeelPostModel" (hp_rm 4) vv H' Z 126 [(0, .ref (hp_ad G 0)), (2, .int (hp_I v2)), (3, .int (hp_I v3)), (4, .int (hp_I v4))] [] H := by
  intro n
  induction n with
  | zero =>
    intro v2 v3 v4 H r2 r3 r4 rH m3 h kx
    exact hp_no h
  | succ n ih =>
    intro v2 v3 v4 H r2 r3 r4 rH m3 h kx
    unfold f_X8_busy_126 at h
    refine x_iload dX8_busy_126 3 rfl ?_
    refine x_bipush rfl dX8_busy_128 ?_
    refine x_icge (tgt := 162) dX8_busy_130 (by decide) r4 (hp_rc rfl) (fun hc32 => ?_) (fun hc32 => ?_)
    · replace h := hp_if hc32 h
      cases h
      exact x_sub [0, 1, 2] rfl (kx r3)
    · replace h := hp_it hc32 h
      refine x_aload_n dX8_busy_133 0 rfl ?_
      refine x_getr 21 (sm_0 hG) (by decide) (C := RX8) (T := TX8) (N := 26) rfl in_X8 (by decide) rfl wf_878 dX8_busy_134 ?_
      refine x_iload dX8_busy_137 3 rfl ?_
      obtain ⟨b33, h⟩ := hp_ck_e h
      refine x_ia 6 rfl (sm_11 hG) (by decide) (Nat.le_of_ble_eq_true rfl) b33 dX8_busy_139 ?_
      refine x_aload_n dX8_busy_140 0 rfl ?_
      refine x_getr 21 (sm_0 hG) (by decide) (C := RX8) (T := TX8) (N := 26) rfl in_X8 (by decide) rfl wf_878 dX8_busy_141 ?_
      refine x_iload_n dX8_busy_144 2 rfl ?_
      obtain ⟨b34, h⟩ := hp_ck_e h
      refine x_ia 6 rfl (sm_11 hG) (by decide) (Nat.le_of_ble_eq_true rfl) b34 dX8_busy_145 ?_
      obtain ⟨m35, em35⟩ : ∃ z : Int, z = (if (H 11 v3) < (H 11 v4) then v4 else v3) := ⟨_, rfl⟩
      replace h := hp_let_e em35 h
      have rm35 := hp_re em35 (hp_rite r4 r3)
      have kj : hp_R G l cX8_busy 6 (some .int) "HeelPostModel" (hp_rm 4) vv H' Z 155 [(0, .ref (hp_ad G 0)), (2, .int (hp_I v2)), (4, .int (hp_I v4))] [.int (hp_I m35)] H := by
        refine x_istore_n (L' := [(3, .int (hp_I m35)), (0, .ref (hp_ad G 0)), (2, .int (hp_I v2)), (4, .int (hp_I v4))]) dX8_busy_155 rfl (by decide) rfl ?_
        obtain ⟨v4_36, ev4_36⟩ : ∃ z : Int, z = (hp_w (v4 + 1)) := ⟨_, rfl⟩
        replace h := hp_let_e ev4_36 h
        have rv4_36 := hp_re ev4_36 (hp_rw _)
        refine x_iiE (L' := [(4, .int (hp_I v4_36)), (3, .int (hp_I m35)), (0, .ref (hp_ad G 0)), (2, .int (hp_I v2))]) ev4_36 dX8_busy_156 3 rfl (by decide) rfl ?_
        refine x_goto (tgt := 126) dX8_busy_159 (by decide) ?_
        exact x_sub [2, 3, 1, 0] rfl (ih v2 m35 v4_36 H r2 rm35 rv4_36 rH _ h kx)
      clear h
      refine x_icle (tgt := 154) dX8_busy_146 (by decide) (rH _ _) (rH _ _) (fun hc37 => ?_) (fun hc37 => ?_)
      · refine x_iload_n dX8_busy_154 2 rfl ?_
        have q9 := (em35.trans (if_neg hc37))
        subst q9
        exact x_sub [0, 1, 3] rfl kj
      · refine x_iload dX8_busy_149 3 rfl ?_
        refine x_goto (tgt := 155) dX8_busy_151 (by decide) ?_
        have q9 := (em35.trans (if_pos hc37))
        subst q9
        exact x_sub [0, 1, 3] rfl kj
set_option maxRecDepth 100000 in
theorem ok_X8_busy {G : hp_G} (hG : hp_sh G = hp_shm) {l : Launch} (v1 : Int) (v2 : Int) (H : hp_H) (r1 : hp_r v1) (r2 : hp_r v2) (rH : hp_in H) (x : Int × hp_H) (h : f_X8_busy v1 v2 H = some x) : hp_M G l yX8_busy cX8_busy 6 (some .int) (hp_rm 4) [.ref (hp_ad G 0), .int (hp_I v1), .int (hp_I v2)] H (some (.int (hp_I x.1))) x.2 (hp_r x.1 ∧ hp_in x.2) := by
  obtain ⟨r, H'⟩ := x
  unfold f_X8_busy at h
  refine hp_body "HeelPostModel" (by decide) rfl ⟨rfl, rfl⟩ (Nat.le_of_ble_eq_true rfl) ?_
  show hp_R G l cX8_busy 6 (some .int) "HeelPostModel" (hp_rm 4) (some (.int (hp_I r))) H' (hp_r r ∧ hp_in H') 0 [(0, .ref (hp_ad G 0)), (1, .int (hp_I v1)), (2, .int (hp_I v2))] [] H
  refine x_aload_n dX8_busy_0 0 rfl ?_
  refine x_iconst dX8_busy_1 ?_
  obtain ⟨H1, eH1⟩ : ∃ z : hp_H, z = hp_up H 0 0 0 := ⟨_, rfl⟩
  replace h := hp_let_e eH1 h
  have rH1 := hp_ine eH1 (hp_in_up rH (hp_rc rfl))
  refine x_pi 0 0 rfl tyX8 eH1 (sm_0 hG) (by decide) (C := RX8) (T := TX8) (N := 26) rfl in_X8 tyX8_ok nmX8 (by decide) rfl rfl rfl wf_857 dX8_busy_2 ?_
  refine x_aload_n dX8_busy_5 0 rfl ?_
  obtain ⟨c3, g2, h⟩ := hp_b1_e h
  refine x_ivi (As := []) (ok_X8_isThere hG H1 rH1 _ g2) cal_X8_isThere (sm_0 hG) (by decide) (C := RX8) (T := TX8) (N := 26) rfl rfl ins_X8_isThere sel_X8_isThere wm_1034 (by decide) rfl rfl (Nat.le_of_ble_eq_true rfl) dX8_busy_6 (fun z9 => ?_)
  have rc3 := z9
  refine x_ifne (tgt := 15) dX8_busy_9 (by decide) rc3 (fun hc4 => ?_) (fun hc4 => ?_)
  · replace h := hp_if hc4 h
    refine x_iload_n dX8_busy_15 1 rfl ?_
    refine x_i2l r1 dX8_busy_16 ?_
    refine x_lconst (x := 1) rfl dX8_busy_17 ?_
    refine x_ldc2 (x := 99) wc_1130 rfl dX8_busy_18 ?_
    obtain ⟨c6, g5, h⟩ := hp_b1_e h
    refine x_isi (As := [.long (hp_J v1), .long (hp_J 1), .long (hp_J 99)]) (ok_X8_in hG v1 1 99 H1 (hp_rrl r1) (hp_rlc rfl) (hp_rlc rfl) rH1 _ g5) cal_X8_in stt_X8_in wm_945 (by decide) rfl rfl (Nat.le_of_ble_eq_true rfl) dX8_busy_21 (fun z9 => ?_)
    have rc6 := z9
    refine x_ifeq (tgt := 37) dX8_busy_24 (by decide) rc6 (fun hc7 => ?_) (fun hc7 => ?_)
    · replace h := hp_it hc7 h
      refine x_ldc (x := (-1000001)) wc_949 rfl dX8_busy_37 ?_
      cases h
      exact x_iret ⟨(hp_rc rfl), rH1⟩ dX8_busy_39
    · replace h := hp_if hc7 h
      refine x_iload_n dX8_busy_27 2 rfl ?_
      refine x_i2l r2 dX8_busy_28 ?_
      refine x_lconst (x := 0) rfl dX8_busy_29 ?_
      refine x_lconst (x := 1) rfl dX8_busy_30 ?_
      obtain ⟨c9, g8, h⟩ := hp_b1_e h
      refine x_isi (As := [.long (hp_J v2), .long (hp_J 0), .long (hp_J 1)]) (ok_X8_in hG v2 0 1 H1 (hp_rrl r2) (hp_rlc rfl) (hp_rlc rfl) rH1 _ g8) cal_X8_in stt_X8_in wm_945 (by decide) rfl rfl (Nat.le_of_ble_eq_true rfl) dX8_busy_31 (fun z9 => ?_)
      have rc9 := z9
      refine x_ifne (tgt := 40) dX8_busy_34 (by decide) rc9 (fun hc10 => ?_) (fun hc10 => ?_)
      · replace h := hp_if hc10 h
        refine x_aload_n dX8_busy_40 0 rfl ?_
        obtain ⟨H12, g11, h⟩ := hp_b1_e h
        refine x_ivv (As := []) (ok_X8_layThen hG H1 rH1 _ g11) cal_X8_layThen (sm_0 hG) (by decide) (C := RX8) (T := TX8) (N := 26) rfl rfl ins_X8_layThen sel_X8_layThen wm_1135 (by decide) rfl rfl (Nat.le_of_ble_eq_true rfl) dX8_busy_41 (fun z9 => ?_)
        have rH12 := z9
        refine x_iconst dX8_busy_44 ?_
        refine x_istore_n (L' := [(3, .int (hp_I 0)), (0, .ref (hp_ad G 0)), (1, .int (hp_I v1)), (2, .int (hp_I v2))]) dX8_busy_45 rfl (by decide) rfl ?_
        obtain ⟨H17, g18, h⟩ := hp_b1_e h
        refine x_sub [1, 2, 3, 0] rfl (ok_X8_busy_46 hG 1000 v1 v2 0 H12 r1 r2 (hp_rc rfl) rH12 _ g18 ?_)
        intro rH17
        refine x_iconst dX8_busy_65 ?_
        refine x_istore_n (L' := [(3, .int (hp_I 0)), (0, .ref (hp_ad G 0)), (1, .int (hp_I v1)), (2, .int (hp_I v2))]) dX8_busy_66 rfl (by decide) rfl ?_
        obtain ⟨H30, g31, h⟩ := hp_b1_e h
        refine x_sub [1, 2, 3, 0] rfl (ok_X8_busy_67 hG 1000 v1 v2 0 H17 r1 r2 (hp_rc rfl) rH17 _ g31 ?_)
        intro rH30
        refine x_iconst dX8_busy_121 ?_
        refine x_istore_n (L' := [(3, .int (hp_I 0)), (0, .ref (hp_ad G 0)), (2, .int (hp_I v2))]) dX8_busy_122 rfl (by decide) rfl ?_
        refine x_iconst dX8_busy_123 ?_
        refine x_istore (L' := [(4, .int (hp_I 1)), (3, .int (hp_I 0)), (0, .ref (hp_ad G 0)), (2, .int (hp_I v2))]) dX8_busy_124 (by decide) rfl ?_
        obtain ⟨v3_38, g39, h⟩ := hp_b1_e h
        refine x_sub [2, 3, 1, 0] rfl (ok_X8_busy_126 hG 1000 v2 0 1 H30 r2 (hp_rc rfl) (hp_rc rfl) rH30 _ g39 ?_)
        intro rv3_38
        refine x_iload_n dX8_busy_162 1 rfl ?_
        refine x_ifne (tgt := 170) dX8_busy_163 (by decide) r2 (fun hc40 => ?_) (fun hc40 => ?_)
        · replace h := hp_if hc40 h
          refine x_aload_n dX8_busy_170 0 rfl ?_
          refine x_getr 21 (sm_0 hG) (by decide) (C := RX8) (T := TX8) (N := 26) rfl in_X8 (by decide) rfl wf_878 dX8_busy_171 ?_
          refine x_iload_n dX8_busy_174 2 rfl ?_
          obtain ⟨b41, h⟩ := hp_ck_e h
          refine x_ia 6 rfl (sm_11 hG) (by decide) (Nat.le_of_ble_eq_true rfl) b41 dX8_busy_175 ?_
          cases h
          exact x_iret ⟨(rH30 _ _), rH30⟩ dX8_busy_176
        · replace h := hp_it hc40 h
          refine x_iload_n dX8_busy_166 2 rfl ?_
          refine x_goto (tgt := 176) dX8_busy_167 (by decide) ?_
          cases h
          exact x_iret ⟨rv3_38, rH30⟩ dX8_busy_176
      · replace h := hp_it hc10 h
        refine x_ldc (x := (-1000001)) wc_949 rfl dX8_busy_37 ?_
        cases h
        exact x_iret ⟨(hp_rc rfl), rH1⟩ dX8_busy_39
  · replace h := hp_it hc4 h
    refine x_ldc (x := (-1000002)) wc_1038 rfl dX8_busy_12 ?_
    cases h
    exact x_iret ⟨(hp_rc rfl), rH1⟩ dX8_busy_14
set_option maxRecDepth 100000 in
theorem ok_X8_sick_105 {G : hp_G} (hG : hp_sh G = hp_shm) {l : Launch} {vv : Option Value} {H' : hp_H} {Z : Prop} : ∀ (n : Nat) (v1 : Int) (v2 : Int) (v3 : Int) (v4 : Int) (v5 : Int) (v6 : Int) (v8 : Int) (v10 : Int) (v11 : Int) (v13 : Int) (H : hp_H), hp_r v1 → hp_r v2 → hp_r v3 → hp_r v4 → hp_r v5 → hp_rl v6 → hp_rl v8 → hp_r v10 → hp_rl v11 → hp_r v13 → hp_in H → ∀ m11 : Int, f_X8_sick_105 n v1 v2 v3 v4 v5 v6 v8 v10 v11 v13 H = some m11 → (hp_rl m11 → hp_R G l cX8_sick 16 (some .long) "HeelPostModel" (hp_rm 5) vv H' Z 162 [(0, .ref (hp_ad G 0)), (1, .int (hp_I v1)), (2, .int (hp_I v2)), (3, .int (hp_I v3)), (4, .int (hp_I v4)), (5, .int (hp_I v5)), (6, .long (hp_J v6)), (8, .long (hp_J v8)), (10, .int (hp_I v10)), (11, .long (hp_J m11))] [] H) → hp_R G l cX8_sick 16 (some .long) "HeelPostModel" (hp_rm 5) vv H' Z 105 [(0, .ref (hp_ad G 0)), (1, .int (hp_I v1)), (2, .int (hp_I v2)), (3, .int (hp_I v3)), (4, .int (hp_I v4)), (5, .int (hp_I v5)), (6, .long (hp_J v6)), (8, .long (hp_J v8)), (10, .int (hp_I v10)), (11, .long (hp_J v11)), (13, .int (hp_I v13))] [] H := by
  intro n
  induction n with
  | zero =>
    intro v1 v2 v3 v4 v5 v6 v8 v10 v11 v13 H r1 r2 r3 r4 r5 r6 r8 r10 r11 r13 rH m11 h kx
    exact hp_no h
  | succ n ih =>
    intro v1 v2 v3 v4 v5 v6 v8 v10 v11 v13 H r1 r2 r3 r4 r5 r6 r8 r10 r11 r13 rH m11 h kx
    unfold f_X8_sick_105 at h
    refine x_iload dX8_sick_105 10 rfl ?_
    refine x_aload_n dX8_sick_107 0 rfl ?_
    refine x_getr 5 (sm_0 hG) (by decide) (C := RX8) (T := TX8) (N := 26) rfl in_X8 (by decide) rfl wf_862 dX8_sick_108 ?_
    refine x_iconst dX8_sick_111 ?_
    refine x_ia 41 rfl (sm_4 hG) (by decide) (Nat.le_of_ble_eq_true rfl) (by decide) dX8_sick_112 ?_
    refine x_icge (tgt := 162) dX8_sick_113 (by decide) r13 (rH _ _) (fun hc21 => ?_) (fun hc21 => ?_)
    · replace h := hp_if hc21 h
      cases h
      exact x_sub [0, 1, 2, 3, 4, 5, 6, 7, 8, 9] rfl (kx r11)
    · replace h := hp_it hc21 h
      refine x_lload dX8_sick_116 9 rfl ?_
      refine x_iload dX8_sick_118 5 rfl ?_
      refine x_iload dX8_sick_120 10 rfl ?_
      obtain ⟨c23, g22, h⟩ := hp_b1_e h
      refine x_isi (As := [.int (hp_I v5), .int (hp_I v13)]) (ok_X8_has hG v5 v13 H r5 r13 rH _ g22) cal_X8_has stt_X8_has wm_1064 (by decide) rfl rfl (Nat.le_of_ble_eq_true rfl) dX8_sick_122 (fun z9 => ?_)
      have rc23 := z9
      obtain ⟨m24, hm25, h⟩ := hp_b1_e h
      have kj : hp_rl m24 → hp_R G l cX8_sick 16 (some .long) "HeelPostModel" (hp_rm 5) vv H' Z 153 [(0, .ref (hp_ad G 0)), (1, .int (hp_I v1)), (2, .int (hp_I v2)), (3, .int (hp_I v3)), (4, .int (hp_I v4)), (5, .int (hp_I v5)), (6, .long (hp_J v6)), (8, .long (hp_J v8)), (10, .int (hp_I v10)), (13, .int (hp_I v13))] [.long (hp_J m24), .long (hp_J v11)] H := by
        intro rm24
        refine x_lmul dX8_sick_153 ?_
        obtain ⟨v11_26, ev11_26⟩ : ∃ z : Int, z = (hp_wl (v11 * m24)) := ⟨_, rfl⟩
        replace h := hp_let_e ev11_26 h
        have rv11_26 := hp_rle ev11_26 (hp_rwl _)
        refine x_lsE (L' := [(11, .long (hp_J v11_26)), (0, .ref (hp_ad G 0)), (1, .int (hp_I v1)), (2, .int (hp_I v2)), (3, .int (hp_I v3)), (4, .int (hp_I v4)), (5, .int (hp_I v5)), (6, .long (hp_J v6)), (8, .long (hp_J v8)), (10, .int (hp_I v10)), (13, .int (hp_I v13))]) ev11_26 dX8_sick_154 (by decide) rfl ?_
        obtain ⟨v13_27, ev13_27⟩ : ∃ z : Int, z = (hp_w (v13 + 1)) := ⟨_, rfl⟩
        replace h := hp_let_e ev13_27 h
        have rv13_27 := hp_re ev13_27 (hp_rw _)
        refine x_iiE (L' := [(13, .int (hp_I v13_27)), (11, .long (hp_J v11_26)), (0, .ref (hp_ad G 0)), (1, .int (hp_I v1)), (2, .int (hp_I v2)), (3, .int (hp_I v3)), (4, .int (hp_I v4)), (5, .int (hp_I v5)), (6, .long (hp_J v6)), (8, .long (hp_J v8)), (10, .int (hp_I v10))]) ev13_27 dX8_sick_156 10 rfl (by decide) rfl ?_
        refine x_goto (tgt := 105) dX8_sick_159 (by decide) ?_
        exact x_sub [2, 3, 4, 5, 6, 7, 8, 9, 10, 1, 0] rfl (ih v1 v2 v3 v4 v5 v6 v8 v10 v11_26 v13_27 H r1 r2 r3 r4 r5 r6 r8 r10 rv11_26 rv13_27 rH _ h kx)
      clear h
      have h := hm25
      clear hm25
      refine x_ifne (tgt := 132) dX8_sick_125 (by decide) rc23 (fun hc28 => ?_) (fun hc28 => ?_)
      · replace h := hp_if hc28 h
        refine x_iload dX8_sick_132 8 rfl ?_
        refine x_iload dX8_sick_134 10 rfl ?_
        obtain ⟨c30, g29, h⟩ := hp_b1_e h
        refine x_isi (As := [.int (hp_I v10), .int (hp_I v13)]) (ok_X8_has hG v10 v13 H r10 r13 rH _ g29) cal_X8_has stt_X8_has wm_1064 (by decide) rfl rfl (Nat.le_of_ble_eq_true rfl) dX8_sick_136 (fun z9 => ?_)
        have rc30 := z9
        refine x_ifeq (tgt := 147) dX8_sick_139 (by decide) rc30 (fun hc31 => ?_) (fun hc31 => ?_)
        · replace h := hp_it hc31 h
          refine x_ldc2 (x := 10) wc_1223 rfl dX8_sick_147 ?_
          refine x_iload_n dX8_sick_150 3 rfl ?_
          refine x_i2l r3 dX8_sick_151 ?_
          refine x_lsub dX8_sick_152 ?_
          cases h
          exact x_sub [0, 1, 2, 3, 4, 5, 6, 7, 8, 10] rfl (kj (hp_rwl _))
        · replace h := hp_if hc31 h
          refine x_iload_n dX8_sick_142 3 rfl ?_
          refine x_i2l r3 dX8_sick_143 ?_
          refine x_goto (tgt := 153) dX8_sick_144 (by decide) ?_
          cases h
          exact x_sub [0, 1, 2, 3, 4, 5, 6, 7, 8, 10] rfl (kj (hp_rrl r3))
      · replace h := hp_it hc28 h
        refine x_lconst (x := 1) rfl dX8_sick_128 ?_
        refine x_goto (tgt := 153) dX8_sick_129 (by decide) ?_
        cases h
        exact x_sub [0, 1, 2, 3, 4, 5, 6, 7, 8, 10] rfl (kj (hp_rlc rfl))
set_option maxRecDepth 100000 in
theorem ok_X8_sick_82 {G : hp_G} (hG : hp_sh G = hp_shm) {l : Launch} {vv : Option Value} {H' : hp_H} {Z : Prop} : ∀ (n : Nat) (v1 : Int) (v2 : Int) (v3 : Int) (v4 : Int) (v5 : Int) (v6 : Int) (v8 : Int) (v10 : Int) (H : hp_H), hp_r v1 → hp_r v2 → hp_r v3 → hp_r v4 → hp_r v5 → hp_rl v6 → hp_rl v8 → hp_r v10 → hp_in H → ∀ m6 : Int, ∀ m8 : Int, ∀ Hm : hp_H, f_X8_sick_82 n v1 v2 v3 v4 v5 v6 v8 v10 H = some (m6, m8, Hm) → (hp_rl m6 → hp_rl m8 → hp_in Hm → hp_R G l cX8_sick 16 (some .long) "HeelPostModel" (hp_rm 5) vv H' Z 212 [(4, .int (hp_I v4)), (6, .long (hp_J m6)), (8, .long (hp_J m8))] [] Hm) → hp_R G l cX8_sick 16 (some .long) "HeelPostModel" (hp_rm 5) vv H' Z 82 [(0, .ref (hp_ad G 0)), (1, .int (hp_I v1)), (2, .int (hp_I v2)), (3, .int (hp_I v3)), (4, .int (hp_I v4)), (5, .int (hp_I v5)), (6, .long (hp_J v6)), (8, .long (hp_J v8)), (10, .int (hp_I v10))] [] H := by
  intro n
  induction n with
  | zero =>
    intro v1 v2 v3 v4 v5 v6 v8 v10 H r1 r2 r3 r4 r5 r6 r8 r10 rH m6 m8 Hm h kx
    exact hp_no h
  | succ n ih =>
    intro v1 v2 v3 v4 v5 v6 v8 v10 H r1 r2 r3 r4 r5 r6 r8 r10 rH m6 m8 Hm h kx
    unfold f_X8_sick_82 at h
    refine x_iload dX8_sick_82 8 rfl ?_
    refine x_iload dX8_sick_84 5 rfl ?_
    refine x_icgt (tgt := 212) dX8_sick_86 (by decide) r10 r5 (fun hc19 => ?_) (fun hc19 => ?_)
    · replace h := hp_it hc19 h
      cases h
      exact x_sub [4, 6, 7] rfl (kx r6 r8 rH)
    · replace h := hp_if hc19 h
      refine x_iload dX8_sick_89 8 rfl ?_
      refine x_iload dX8_sick_91 5 rfl ?_
      refine x_iconst dX8_sick_93 ?_
      refine x_ixor dX8_sick_94 ?_
      refine x_iand dX8_sick_95 ?_
      refine x_ifne (tgt := 206) dX8_sick_96 (by decide) (hp_rand _ _) (fun hc20 => ?_) (fun hc20 => ?_)
      · replace h := hp_if hc20 h
        obtain ⟨v10_45, ev10_45⟩ : ∃ z : Int, z = (hp_w (v10 + 1)) := ⟨_, rfl⟩
        replace h := hp_let_e ev10_45 h
        have rv10_45 := hp_re ev10_45 (hp_rw _)
        refine x_iiE (L' := [(10, .int (hp_I v10_45)), (0, .ref (hp_ad G 0)), (1, .int (hp_I v1)), (2, .int (hp_I v2)), (3, .int (hp_I v3)), (4, .int (hp_I v4)), (5, .int (hp_I v5)), (6, .long (hp_J v6)), (8, .long (hp_J v8))]) ev10_45 dX8_sick_206 8 rfl (by decide) rfl ?_
        refine x_goto (tgt := 82) dX8_sick_209 (by decide) ?_
        exact x_sub [1, 2, 3, 4, 5, 6, 7, 8, 0] rfl (ih v1 v2 v3 v4 v5 v6 v8 v10_45 H r1 r2 r3 r4 r5 r6 r8 rv10_45 rH _ _ _ h kx)
      · replace h := hp_it hc20 h
        refine x_lconst (x := 1) rfl dX8_sick_99 ?_
        refine x_lstore (L' := [(11, .long (hp_J 1)), (0, .ref (hp_ad G 0)), (1, .int (hp_I v1)), (2, .int (hp_I v2)), (3, .int (hp_I v3)), (4, .int (hp_I v4)), (5, .int (hp_I v5)), (6, .long (hp_J v6)), (8, .long (hp_J v8)), (10, .int (hp_I v10))]) dX8_sick_100 (by decide) rfl ?_
        refine x_iconst dX8_sick_102 ?_
        refine x_istore (L' := [(13, .int (hp_I 0)), (11, .long (hp_J 1)), (0, .ref (hp_ad G 0)), (1, .int (hp_I v1)), (2, .int (hp_I v2)), (3, .int (hp_I v3)), (4, .int (hp_I v4)), (5, .int (hp_I v5)), (6, .long (hp_J v6)), (8, .long (hp_J v8)), (10, .int (hp_I v10))]) dX8_sick_103 (by decide) rfl ?_
        obtain ⟨v11_32, g33, h⟩ := hp_b1_e h
        refine x_sub [2, 3, 4, 5, 6, 7, 8, 9, 10, 1, 0] rfl (ok_X8_sick_105 hG 1000 v1 v2 v3 v4 v5 v6 v8 v10 1 0 H r1 r2 r3 r4 r5 r6 r8 r10 (hp_rlc rfl) (hp_rc rfl) rH _ g33 ?_)
        intro rv11_32
        refine x_aload_n dX8_sick_162 0 rfl ?_
        obtain ⟨H35, g34, h⟩ := hp_b1_e h
        refine x_ivv (As := []) (ok_X8_layThen hG H rH _ g34) cal_X8_layThen (sm_0 hG) (by decide) (C := RX8) (T := TX8) (N := 26) rfl rfl ins_X8_layThen sel_X8_layThen wm_1135 (by decide) rfl rfl (Nat.le_of_ble_eq_true rfl) dX8_sick_163 (fun z9 => ?_)
        have rH35 := z9
        refine x_aload_n dX8_sick_166 0 rfl ?_
        refine x_getr 7 (sm_0 hG) (by decide) (C := RX8) (T := TX8) (N := 26) rfl in_X8 (by decide) rfl wf_864 dX8_sick_167 ?_
        refine x_iconst dX8_sick_170 ?_
        refine x_dup2 rfl rfl dX8_sick_171 ?_
        refine x_ia 41 rfl (sm_6 hG) (by decide) (Nat.le_of_ble_eq_true rfl) (by decide) dX8_sick_172 ?_
        refine x_iload dX8_sick_173 8 rfl ?_
        refine x_ior dX8_sick_175 ?_
        obtain ⟨H36, eH36⟩ : ∃ z : hp_H, z = hp_up H35 6 4 (hp_or (H35 6 4) v10) := ⟨_, rfl⟩
        replace h := hp_let_e eH36 h
        have rH36 := hp_ine eH36 (hp_in_up rH35 (hp_ror _ _))
        refine x_ias 41 rfl eH36 (sm_6 hG) (by decide) (Nat.le_of_ble_eq_true rfl) (by decide) dX8_sick_176 ?_
        refine x_lload dX8_sick_177 7 rfl ?_
        refine x_lload dX8_sick_179 9 rfl ?_
        refine x_ladd dX8_sick_181 ?_
        obtain ⟨v8_37, ev8_37⟩ : ∃ z : Int, z = (hp_wl (v8 + v11_32)) := ⟨_, rfl⟩
        replace h := hp_let_e ev8_37 h
        have rv8_37 := hp_rle ev8_37 (hp_rwl _)
        refine x_lsE (L' := [(8, .long (hp_J v8_37)), (0, .ref (hp_ad G 0)), (1, .int (hp_I v1)), (2, .int (hp_I v2)), (3, .int (hp_I v3)), (4, .int (hp_I v4)), (5, .int (hp_I v5)), (6, .long (hp_J v6)), (10, .int (hp_I v10)), (11, .long (hp_J v11_32))]) ev8_37 dX8_sick_182 (by decide) rfl ?_
        refine x_lload dX8_sick_184 7 rfl ?_
        refine x_aload_n dX8_sick_186 1 rfl ?_
        refine x_iload_n dX8_sick_187 2 rfl ?_
        refine x_iload_n dX8_sick_188 3 rfl ?_
        obtain ⟨c39, H40, g38, h⟩ := hp_b2_e h
        refine x_ivi (As := [.int (hp_I v1), .int (hp_I v2)]) (ok_X8_doneBy hG v1 v2 H36 r1 r2 rH36 _ g38) cal_X8_doneBy (sm_0 hG) (by decide) (C := RX8) (T := TX8) (N := 26) rfl rfl ins_X8_doneBy sel_X8_doneBy wm_1147 (by decide) rfl rfl (Nat.le_of_ble_eq_true rfl) dX8_sick_189 (fun z9 => ?_)
        obtain ⟨rc39, rH40⟩ := z9
        refine x_ldc (x := (-1000000)) wc_989 rfl dX8_sick_192 ?_
        obtain ⟨m41, em41⟩ : ∃ z : Int, z = (if c39 = (-1000000) then 0 else v11_32) := ⟨_, rfl⟩
        replace h := hp_let_e em41 h
        have rm41 := hp_rle em41 (hp_rlite (hp_rlc rfl) rv11_32)
        have kj : hp_R G l cX8_sick 16 (some .long) "HeelPostModel" (hp_rm 5) vv H' Z 203 [(0, .ref (hp_ad G 0)), (1, .int (hp_I v1)), (2, .int (hp_I v2)), (3, .int (hp_I v3)), (4, .int (hp_I v4)), (5, .int (hp_I v5)), (8, .long (hp_J v8_37)), (10, .int (hp_I v10))] [.long (hp_J m41), .long (hp_J v6)] H40 := by
          refine x_ladd dX8_sick_203 ?_
          obtain ⟨v6_42, ev6_42⟩ : ∃ z : Int, z = (hp_wl (v6 + m41)) := ⟨_, rfl⟩
          replace h := hp_let_e ev6_42 h
          have rv6_42 := hp_rle ev6_42 (hp_rwl _)
          refine x_lsE (L' := [(6, .long (hp_J v6_42)), (0, .ref (hp_ad G 0)), (1, .int (hp_I v1)), (2, .int (hp_I v2)), (3, .int (hp_I v3)), (4, .int (hp_I v4)), (5, .int (hp_I v5)), (8, .long (hp_J v8_37)), (10, .int (hp_I v10))]) ev6_42 dX8_sick_204 (by decide) rfl ?_
          obtain ⟨v10_43, ev10_43⟩ : ∃ z : Int, z = (hp_w (v10 + 1)) := ⟨_, rfl⟩
          replace h := hp_let_e ev10_43 h
          have rv10_43 := hp_re ev10_43 (hp_rw _)
          refine x_iiE (L' := [(10, .int (hp_I v10_43)), (6, .long (hp_J v6_42)), (0, .ref (hp_ad G 0)), (1, .int (hp_I v1)), (2, .int (hp_I v2)), (3, .int (hp_I v3)), (4, .int (hp_I v4)), (5, .int (hp_I v5)), (8, .long (hp_J v8_37))]) ev10_43 dX8_sick_206 8 rfl (by decide) rfl ?_
          refine x_goto (tgt := 82) dX8_sick_209 (by decide) ?_
          exact x_sub [2, 3, 4, 5, 6, 7, 1, 8, 0] rfl (ih v1 v2 v3 v4 v5 v6_42 v8_37 v10_43 H40 r1 r2 r3 r4 r5 rv6_42 rv8_37 rv10_43 rH40 _ _ _ h kx)
        clear h
        refine x_iceq (tgt := 202) dX8_sick_194 (by decide) rc39 (hp_rc rfl) (fun hc44 => ?_) (fun hc44 => ?_)
        · refine x_lconst (x := 0) rfl dX8_sick_202 ?_
          have q9 := (em41.trans (if_pos hc44))
          subst q9
          exact x_sub [1, 2, 3, 4, 5, 6, 0, 8] rfl kj
        · refine x_lload dX8_sick_197 9 rfl ?_
          refine x_goto (tgt := 203) dX8_sick_199 (by decide) ?_
          have q9 := (em41.trans (if_neg hc44))
          subst q9
          exact x_sub [1, 2, 3, 4, 5, 6, 0, 8] rfl kj
set_option maxRecDepth 100000 in
theorem ok_X8_sick_220 {G : hp_G} (hG : hp_sh G = hp_shm) {l : Launch} {vv : Option Value} {H' : hp_H} {Z : Prop} : ∀ (n : Nat) (v4 : Int) (v6 : Int) (v8 : Int) (v10 : Int) (v12 : Int) (H : hp_H), hp_r v4 → hp_rl v6 → hp_rl v8 → hp_rl v10 → hp_rl v12 → hp_in H → ∀ m10 : Int, f_X8_sick_220 n v4 v6 v8 v10 v12 H = some m10 → (hp_rl m10 → hp_R G l cX8_sick 16 (some .long) "HeelPostModel" (hp_rm 5) vv H' Z 245 [(4, .int (hp_I v4)), (6, .long (hp_J v6)), (8, .long (hp_J v8)), (10, .long (hp_J m10))] [] H) → hp_R G l cX8_sick 16 (some .long) "HeelPostModel" (hp_rm 5) vv H' Z 220 [(4, .int (hp_I v4)), (6, .long (hp_J v6)), (8, .long (hp_J v8)), (10, .long (hp_J v10)), (12, .long (hp_J v12))] [] H := by
  intro n
  induction n with
  | zero =>
    intro v4 v6 v8 v10 v12 H r4 r6 r8 r10 r12 rH m10 h kx
    exact hp_no h
  | succ n ih =>
    intro v4 v6 v8 v10 v12 H r4 r6 r8 r10 r12 rH m10 h kx
    unfold f_X8_sick_220 at h
    refine x_lload dX8_sick_220 4 rfl ?_
    refine x_lconst (x := 0) rfl dX8_sick_222 ?_
    refine x_lcmp r12 (hp_rlc rfl) dX8_sick_223 ?_
    refine x_ifeq (tgt := 245) dX8_sick_224 (by decide) (hp_rcmp _ _) (fun hc50 => ?_) (fun hc50 => ?_)
    · replace h := hp_it hc50 h
      cases h
      exact x_sub [0, 1, 2, 3] rfl (kx r10)
    · replace h := hp_if hc50 h
      refine x_lload dX8_sick_227 3 rfl ?_
      refine x_lload dX8_sick_229 4 rfl ?_
      obtain ⟨b51, h⟩ := hp_ck_e h
      refine x_lrem r10 r12 b51 dX8_sick_231 ?_
      obtain ⟨v14_52, ev14_52⟩ : ∃ z : Int, z = (Int.tmod v10 v12) := ⟨_, rfl⟩
      replace h := hp_let_e ev14_52 h
      have rv14_52 := hp_rle ev14_52 (hp_rreml r10)
      refine x_lsE (L' := [(14, .long (hp_J v14_52)), (4, .int (hp_I v4)), (6, .long (hp_J v6)), (8, .long (hp_J v8)), (10, .long (hp_J v10)), (12, .long (hp_J v12))]) ev14_52 dX8_sick_232 (by decide) rfl ?_
      refine x_lload dX8_sick_234 5 rfl ?_
      refine x_lstore (L' := [(10, .long (hp_J v12)), (14, .long (hp_J v14_52)), (4, .int (hp_I v4)), (6, .long (hp_J v6)), (8, .long (hp_J v8)), (12, .long (hp_J v12))]) dX8_sick_236 (by decide) rfl ?_
      refine x_lload dX8_sick_238 1 rfl ?_
      refine x_lstore (L' := [(12, .long (hp_J v14_52)), (10, .long (hp_J v12)), (14, .long (hp_J v14_52)), (4, .int (hp_I v4)), (6, .long (hp_J v6)), (8, .long (hp_J v8))]) dX8_sick_240 (by decide) rfl ?_
      refine x_goto (tgt := 220) dX8_sick_242 (by decide) ?_
      exact x_sub [3, 4, 5, 1, 0] rfl (ih v4 v6 v8 v12 v14_52 H r4 r6 r8 r12 rv14_52 rH _ h kx)
set_option maxRecDepth 100000 in
theorem ok_X8_sick {G : hp_G} (hG : hp_sh G = hp_shm) {l : Launch} (v1 : Int) (v2 : Int) (v3 : Int) (v4 : Int) (H : hp_H) (r1 : hp_r v1) (r2 : hp_r v2) (r3 : hp_r v3) (r4 : hp_r v4) (rH : hp_in H) (x : Int × hp_H) (h : f_X8_sick v1 v2 v3 v4 H = some x) : hp_M G l yX8_sick cX8_sick 16 (some .long) (hp_rm 5) [.ref (hp_ad G 0), .int (hp_I v1), .int (hp_I v2), .int (hp_I v3), .int (hp_I v4)] H (some (.long (hp_J x.1))) x.2 (hp_rl x.1 ∧ hp_in x.2) := by
  obtain ⟨r, H'⟩ := x
  unfold f_X8_sick at h
  refine hp_body "HeelPostModel" (by decide) rfl ⟨rfl, rfl⟩ (Nat.le_of_ble_eq_true rfl) ?_
  show hp_R G l cX8_sick 16 (some .long) "HeelPostModel" (hp_rm 5) (some (.long (hp_J r))) H' (hp_rl r ∧ hp_in H') 0 [(0, .ref (hp_ad G 0)), (1, .int (hp_I v1)), (2, .int (hp_I v2)), (3, .int (hp_I v3)), (4, .int (hp_I v4))] [] H
  refine x_aload_n dX8_sick_0 0 rfl ?_
  refine x_iconst dX8_sick_1 ?_
  obtain ⟨H1, eH1⟩ : ∃ z : hp_H, z = hp_up H 0 0 0 := ⟨_, rfl⟩
  replace h := hp_let_e eH1 h
  have rH1 := hp_ine eH1 (hp_in_up rH (hp_rc rfl))
  refine x_pi 0 0 rfl tyX8 eH1 (sm_0 hG) (by decide) (C := RX8) (T := TX8) (N := 26) rfl in_X8 tyX8_ok nmX8 (by decide) rfl rfl rfl wf_857 dX8_sick_2 ?_
  refine x_aload_n dX8_sick_5 0 rfl ?_
  refine x_iload_n dX8_sick_6 1 rfl ?_
  obtain ⟨c3, g2, h⟩ := hp_b1_e h
  refine x_ivi (As := [.int (hp_I v1)]) (ok_X8_isPosted hG v1 H1 r1 rH1 _ g2) cal_X8_isPosted (sm_0 hG) (by decide) (C := RX8) (T := TX8) (N := 26) rfl rfl ins_X8_isPosted sel_X8_isPosted wm_1077 (by decide) rfl rfl (Nat.le_of_ble_eq_true rfl) dX8_sick_7 (fun z9 => ?_)
  have rc3 := z9
  refine x_ifeq (tgt := 48) dX8_sick_10 (by decide) rc3 (fun hc4 => ?_) (fun hc4 => ?_)
  · replace h := hp_it hc4 h
    refine x_ldc2 (x := (-1000001)) wc_1224 rfl dX8_sick_48 ?_
    cases h
    exact x_lret ⟨(hp_rlc rfl), rH1⟩ dX8_sick_51
  · replace h := hp_if hc4 h
    refine x_iload_n dX8_sick_13 2 rfl ?_
    refine x_i2l r2 dX8_sick_14 ?_
    refine x_lconst (x := 0) rfl dX8_sick_15 ?_
    refine x_ldc2 (x := 99) wc_1130 rfl dX8_sick_16 ?_
    obtain ⟨c6, g5, h⟩ := hp_b1_e h
    refine x_isi (As := [.long (hp_J v2), .long (hp_J 0), .long (hp_J 99)]) (ok_X8_in hG v2 0 99 H1 (hp_rrl r2) (hp_rlc rfl) (hp_rlc rfl) rH1 _ g5) cal_X8_in stt_X8_in wm_945 (by decide) rfl rfl (Nat.le_of_ble_eq_true rfl) dX8_sick_19 (fun z9 => ?_)
    have rc6 := z9
    refine x_ifeq (tgt := 48) dX8_sick_22 (by decide) rc6 (fun hc7 => ?_) (fun hc7 => ?_)
    · replace h := hp_it hc7 h
      refine x_ldc2 (x := (-1000001)) wc_1224 rfl dX8_sick_48 ?_
      cases h
      exact x_lret ⟨(hp_rlc rfl), rH1⟩ dX8_sick_51
    · replace h := hp_if hc7 h
      refine x_iload_n dX8_sick_25 3 rfl ?_
      refine x_i2l r3 dX8_sick_26 ?_
      refine x_lconst (x := 0) rfl dX8_sick_27 ?_
      refine x_ldc2 (x := 10) wc_1223 rfl dX8_sick_28 ?_
      obtain ⟨c9, g8, h⟩ := hp_b1_e h
      refine x_isi (As := [.long (hp_J v3), .long (hp_J 0), .long (hp_J 10)]) (ok_X8_in hG v3 0 10 H1 (hp_rrl r3) (hp_rlc rfl) (hp_rlc rfl) rH1 _ g8) cal_X8_in stt_X8_in wm_945 (by decide) rfl rfl (Nat.le_of_ble_eq_true rfl) dX8_sick_31 (fun z9 => ?_)
      have rc9 := z9
      refine x_ifeq (tgt := 48) dX8_sick_34 (by decide) rc9 (fun hc10 => ?_) (fun hc10 => ?_)
      · replace h := hp_it hc10 h
        refine x_ldc2 (x := (-1000001)) wc_1224 rfl dX8_sick_48 ?_
        cases h
        exact x_lret ⟨(hp_rlc rfl), rH1⟩ dX8_sick_51
      · replace h := hp_if hc10 h
        refine x_iload dX8_sick_37 4 rfl ?_
        refine x_i2l r4 dX8_sick_39 ?_
        refine x_lconst (x := 0) rfl dX8_sick_40 ?_
        refine x_lconst (x := 1) rfl dX8_sick_41 ?_
        obtain ⟨c12, g11, h⟩ := hp_b1_e h
        refine x_isi (As := [.long (hp_J v4), .long (hp_J 0), .long (hp_J 1)]) (ok_X8_in hG v4 0 1 H1 (hp_rrl r4) (hp_rlc rfl) (hp_rlc rfl) rH1 _ g11) cal_X8_in stt_X8_in wm_945 (by decide) rfl rfl (Nat.le_of_ble_eq_true rfl) dX8_sick_42 (fun z9 => ?_)
        have rc12 := z9
        refine x_ifne (tgt := 52) dX8_sick_45 (by decide) rc12 (fun hc13 => ?_) (fun hc13 => ?_)
        · replace h := hp_if hc13 h
          refine x_aload_n dX8_sick_52 0 rfl ?_
          refine x_getr 5 (sm_0 hG) (by decide) (C := RX8) (T := TX8) (N := 26) rfl in_X8 (by decide) rfl wf_862 dX8_sick_53 ?_
          refine x_iload_n dX8_sick_56 1 rfl ?_
          obtain ⟨c15, g14, h⟩ := hp_b1_e h
          refine x_isi (As := [.ref (hp_ad G 4), .int (hp_I v1)]) (ok_X8_isOut hG 4 v1 H1 (sm_4 hG) (by decide) r1 rH1 _ g14) cal_X8_isOut stt_X8_isOut wm_1055 (by decide) rfl rfl (Nat.le_of_ble_eq_true rfl) dX8_sick_57 (fun z9 => ?_)
          have rc15 := z9
          refine x_ifne (tgt := 67) dX8_sick_60 (by decide) rc15 (fun hc16 => ?_) (fun hc16 => ?_)
          · replace h := hp_if hc16 h
            refine x_aload_n dX8_sick_67 0 rfl ?_
            obtain ⟨c18, g17, h⟩ := hp_b1_e h
            refine x_ivi (As := []) (ok_X8_up hG H1 rH1 _ g17) cal_X8_up (sm_0 hG) (by decide) (C := RX8) (T := TX8) (N := 26) rfl rfl ins_X8_up sel_X8_up wm_1175 (by decide) rfl rfl (Nat.le_of_ble_eq_true rfl) dX8_sick_68 (fun z9 => ?_)
            have rc18 := z9
            refine x_istore (L' := [(5, .int (hp_I c18)), (0, .ref (hp_ad G 0)), (1, .int (hp_I v1)), (2, .int (hp_I v2)), (3, .int (hp_I v3)), (4, .int (hp_I v4))]) dX8_sick_71 (by decide) rfl ?_
            refine x_lconst (x := 0) rfl dX8_sick_73 ?_
            refine x_lstore (L' := [(6, .long (hp_J 0)), (5, .int (hp_I c18)), (0, .ref (hp_ad G 0)), (1, .int (hp_I v1)), (2, .int (hp_I v2)), (3, .int (hp_I v3)), (4, .int (hp_I v4))]) dX8_sick_74 (by decide) rfl ?_
            refine x_lconst (x := 0) rfl dX8_sick_76 ?_
            refine x_lstore (L' := [(8, .long (hp_J 0)), (6, .long (hp_J 0)), (5, .int (hp_I c18)), (0, .ref (hp_ad G 0)), (1, .int (hp_I v1)), (2, .int (hp_I v2)), (3, .int (hp_I v3)), (4, .int (hp_I v4))]) dX8_sick_77 (by decide) rfl ?_
            refine x_iconst dX8_sick_79 ?_
            refine x_istore (L' := [(10, .int (hp_I 0)), (8, .long (hp_J 0)), (6, .long (hp_J 0)), (5, .int (hp_I c18)), (0, .ref (hp_ad G 0)), (1, .int (hp_I v1)), (2, .int (hp_I v2)), (3, .int (hp_I v3)), (4, .int (hp_I v4))]) dX8_sick_80 (by decide) rfl ?_
            obtain ⟨v6_46, v8_47, H48, g49, h⟩ := hp_b3_e h
            refine x_sub [4, 5, 6, 7, 8, 3, 2, 1, 0] rfl (ok_X8_sick_82 hG 1000 v1 v2 v3 v4 c18 0 0 0 H1 r1 r2 r3 r4 rc18 (hp_rlc rfl) (hp_rlc rfl) (hp_rc rfl) rH1 _ _ _ g49 ?_)
            intro rv6_46 rv8_47 rH48
            refine x_lload dX8_sick_212 1 rfl ?_
            refine x_lstore (L' := [(10, .long (hp_J v6_46)), (4, .int (hp_I v4)), (6, .long (hp_J v6_46)), (8, .long (hp_J v8_47))]) dX8_sick_214 (by decide) rfl ?_
            refine x_lload dX8_sick_216 3 rfl ?_
            refine x_lstore (L' := [(12, .long (hp_J v8_47)), (10, .long (hp_J v6_46)), (4, .int (hp_I v4)), (6, .long (hp_J v6_46)), (8, .long (hp_J v8_47))]) dX8_sick_218 (by decide) rfl ?_
            obtain ⟨v10_53, g54, h⟩ := hp_b1_e h
            refine x_sub [2, 3, 4, 1, 0] rfl (ok_X8_sick_220 hG 1000 v4 v6_46 v8_47 v6_46 v8_47 H48 r4 rv6_46 rv8_47 rv6_46 rv8_47 rH48 _ g54 ?_)
            intro rv10_53
            refine x_iload dX8_sick_245 0 rfl ?_
            obtain ⟨m55, em55⟩ : ∃ z : Int, z = (if v4 = 0 then v6_46 else v8_47) := ⟨_, rfl⟩
            replace h := hp_let_e em55 h
            have rm55 := hp_rle em55 (hp_rlite rv6_46 rv8_47)
            have kj : hp_R G l cX8_sick 16 (some .long) "HeelPostModel" (hp_rm 5) (some (.long (hp_J r))) H' (hp_rl r ∧ hp_in H') 257 [(10, .long (hp_J v10_53))] [.long (hp_J m55)] H48 := by
              refine x_lload dX8_sick_257 0 rfl ?_
              obtain ⟨b56, h⟩ := hp_ck_e h
              refine x_ldiv rm55 rv10_53 b56 dX8_sick_259 ?_
              cases h
              exact x_lret ⟨(hp_rwl _), rH48⟩ dX8_sick_260
            clear h
            refine x_ifne (tgt := 255) dX8_sick_247 (by decide) r4 (fun hc57 => ?_) (fun hc57 => ?_)
            · refine x_lload dX8_sick_255 2 rfl ?_
              have q9 := (em55.trans (if_neg hc57))
              subst q9
              exact x_sub [3] rfl kj
            · refine x_lload dX8_sick_250 1 rfl ?_
              refine x_goto (tgt := 257) dX8_sick_252 (by decide) ?_
              have q9 := (em55.trans (if_pos hc57))
              subst q9
              exact x_sub [3] rfl kj
          · replace h := hp_it hc16 h
            refine x_ldc2 (x := (-1000002)) wc_1225 rfl dX8_sick_63 ?_
            cases h
            exact x_lret ⟨(hp_rlc rfl), rH1⟩ dX8_sick_66
        · replace h := hp_it hc13 h
          refine x_ldc2 (x := (-1000001)) wc_1224 rfl dX8_sick_48 ?_
          cases h
          exact x_lret ⟨(hp_rlc rfl), rH1⟩ dX8_sick_51
set_option maxRecDepth 100000 in
theorem ok_X8_drawn_66 {G : hp_G} (hG : hp_sh G = hp_shm) {l : Launch} {vv : Option Value} {H' : hp_H} {Z : Prop} : ∀ (n : Nat) (v1 : Int) (v3 : Int) (v4 : Int) (v6 : Int) (v7 : Int) (H : hp_H), hp_r v1 → hp_r v3 → hp_rl v4 → hp_r v6 → hp_r v7 → hp_in H → ∀ m6 : Int, ∀ Hm : hp_H, f_X8_drawn_66 n v1 v3 v4 v6 v7 H = some (m6, Hm) → (hp_r m6 → hp_in Hm → hp_R G l cX8_drawn 9 (some .int) "HeelPostModel" (hp_rm 4) vv H' Z 154 [(0, .ref (hp_ad G 0)), (3, .int (hp_I v3)), (6, .int (hp_I m6))] [] Hm) → hp_R G l cX8_drawn 9 (some .int) "HeelPostModel" (hp_rm 4) vv H' Z 66 [(0, .ref (hp_ad G 0)), (1, .int (hp_I v1)), (3, .int (hp_I v3)), (4, .long (hp_J v4)), (6, .int (hp_I v6)), (7, .int (hp_I v7))] [] H := by
  intro n
  induction n with
  | zero =>
    intro v1 v3 v4 v6 v7 H r1 r3 r4 r6 r7 rH m6 Hm h kx
    exact hp_no h
  | succ n ih =>
    intro v1 v3 v4 v6 v7 H r1 r3 r4 r6 r7 rH m6 Hm h kx
    unfold f_X8_drawn_66 at h
    refine x_iload dX8_drawn_66 5 rfl ?_
    refine x_iload_n dX8_drawn_68 1 rfl ?_
    refine x_icge (tgt := 154) dX8_drawn_69 (by decide) r7 r1 (fun hc16 => ?_) (fun hc16 => ?_)
    · replace h := hp_if hc16 h
      cases h
      exact x_sub [0, 2, 4] rfl (kx r6 rH)
    · replace h := hp_it hc16 h
      refine x_lload dX8_drawn_72 3 rfl ?_
      refine x_ldc2 (x := 16807) wc_1231 rfl dX8_drawn_74 ?_
      refine x_lmul dX8_drawn_77 ?_
      refine x_ldc2 (x := 2147483647) wc_1232 rfl dX8_drawn_78 ?_
      refine x_lrem (hp_rwl _) (hp_rlc rfl) (by decide) dX8_drawn_81 ?_
      obtain ⟨v4_17, ev4_17⟩ : ∃ z : Int, z = (Int.tmod (hp_wl (v4 * 16807)) 2147483647) := ⟨_, rfl⟩
      replace h := hp_let_e ev4_17 h
      have rv4_17 := hp_rle ev4_17 (hp_rreml (hp_rwl _))
      refine x_lsE (L' := [(4, .long (hp_J v4_17)), (0, .ref (hp_ad G 0)), (1, .int (hp_I v1)), (3, .int (hp_I v3)), (6, .int (hp_I v6)), (7, .int (hp_I v7))]) ev4_17 dX8_drawn_82 (by decide) rfl ?_
      refine x_lload dX8_drawn_84 0 rfl ?_
      refine x_ldc2 (x := 5) wc_1117 rfl dX8_drawn_86 ?_
      refine x_lrem rv4_17 (hp_rlc rfl) (by decide) dX8_drawn_89 ?_
      refine x_lconst (x := 0) rfl dX8_drawn_90 ?_
      refine x_lcmp (hp_rreml rv4_17) (hp_rlc rfl) dX8_drawn_91 ?_
      obtain ⟨H18, hm19, h⟩ := hp_b1_e h
      have kj : hp_in H18 → hp_R G l cX8_drawn 9 (some .int) "HeelPostModel" (hp_rm 4) vv H' Z 135 [(0, .ref (hp_ad G 0)), (1, .int (hp_I v1)), (3, .int (hp_I v3)), (4, .long (hp_J v4_17)), (6, .int (hp_I v6)), (7, .int (hp_I v7))] [] H18 := by
        intro rH18
        refine x_iload dX8_drawn_135 4 rfl ?_
        refine x_aload_n dX8_drawn_137 0 rfl ?_
        refine x_aload_n dX8_drawn_138 0 rfl ?_
        refine x_getr 7 (sm_0 hG) (by decide) (C := RX8) (T := TX8) (N := 26) rfl in_X8 (by decide) rfl wf_864 dX8_drawn_139 ?_
        obtain ⟨c21, H22, g20, h⟩ := hp_b2_e h
        refine x_ivi (As := [.ref (hp_ad G 6)]) (ok_X8_hour hG 6 H18 (sm_6 hG) (by decide) rH18 _ g20) cal_X8_hour (sm_0 hG) (by decide) (C := RX8) (T := TX8) (N := 26) rfl rfl ins_X8_hour sel_X8_hour wm_1044 (by decide) rfl rfl (Nat.le_of_ble_eq_true rfl) dX8_drawn_142 (fun z9 => ?_)
        obtain ⟨rc21, rH22⟩ := z9
        refine x_iadd dX8_drawn_145 ?_
        obtain ⟨v6_23, ev6_23⟩ : ∃ z : Int, z = (hp_w (v6 + c21)) := ⟨_, rfl⟩
        replace h := hp_let_e ev6_23 h
        have rv6_23 := hp_re ev6_23 (hp_rw _)
        refine x_isE (L' := [(6, .int (hp_I v6_23)), (0, .ref (hp_ad G 0)), (1, .int (hp_I v1)), (3, .int (hp_I v3)), (4, .long (hp_J v4_17)), (7, .int (hp_I v7))]) ev6_23 dX8_drawn_146 (by decide) rfl ?_
        obtain ⟨v7_24, ev7_24⟩ : ∃ z : Int, z = (hp_w (v7 + 1)) := ⟨_, rfl⟩
        replace h := hp_let_e ev7_24 h
        have rv7_24 := hp_re ev7_24 (hp_rw _)
        refine x_iiE (L' := [(7, .int (hp_I v7_24)), (6, .int (hp_I v6_23)), (0, .ref (hp_ad G 0)), (1, .int (hp_I v1)), (3, .int (hp_I v3)), (4, .long (hp_J v4_17))]) ev7_24 dX8_drawn_148 5 rfl (by decide) rfl ?_
        refine x_goto (tgt := 66) dX8_drawn_151 (by decide) ?_
        exact x_sub [2, 3, 4, 5, 1, 0] rfl (ih v1 v3 v4_17 v6_23 v7_24 H22 r1 r3 rv4_17 rv6_23 rv7_24 rH22 _ _ h kx)
      clear h
      have h := hm19
      clear hm19
      refine x_ifne (tgt := 135) dX8_drawn_92 (by decide) (hp_rcmp _ _) (fun hc25 => ?_) (fun hc25 => ?_)
      · replace h := hp_if hc25 h
        cases h
        exact x_sub [1, 2, 3, 0, 4, 5] rfl (kj rH)
      · replace h := hp_it hc25 h
        refine x_lload dX8_drawn_95 0 rfl ?_
        refine x_aload_n dX8_drawn_97 1 rfl ?_
        refine x_getr 7 (sm_0 hG) (by decide) (C := RX8) (T := TX8) (N := 26) rfl in_X8 (by decide) rfl wf_864 dX8_drawn_98 ?_
        refine x_iconst dX8_drawn_101 ?_
        refine x_ia 41 rfl (sm_6 hG) (by decide) (Nat.le_of_ble_eq_true rfl) (by decide) dX8_drawn_102 ?_
        refine x_i2l (rH _ _) dX8_drawn_103 ?_
        obtain ⟨b26, h⟩ := hp_ck_e h
        refine x_lrem rv4_17 (hp_rrl (rH _ _)) b26 dX8_drawn_104 ?_
        refine x_l2i dX8_drawn_105 ?_
        obtain ⟨v8_27, ev8_27⟩ : ∃ z : Int, z = (hp_w (Int.tmod v4_17 (H 6 0))) := ⟨_, rfl⟩
        replace h := hp_let_e ev8_27 h
        have rv8_27 := hp_re ev8_27 (hp_rw _)
        refine x_isE (L' := [(8, .int (hp_I v8_27)), (4, .long (hp_J v4_17)), (0, .ref (hp_ad G 0)), (1, .int (hp_I v1)), (3, .int (hp_I v3)), (6, .int (hp_I v6)), (7, .int (hp_I v7))]) ev8_27 dX8_drawn_106 (by decide) rfl ?_
        refine x_aload_n dX8_drawn_108 2 rfl ?_
        refine x_getr 7 (sm_0 hG) (by decide) (C := RX8) (T := TX8) (N := 26) rfl in_X8 (by decide) rfl wf_864 dX8_drawn_109 ?_
        refine x_lload dX8_drawn_112 1 rfl ?_
        refine x_ldc2 (x := 4) wc_1233 rfl dX8_drawn_114 ?_
        refine x_lrem rv4_17 (hp_rlc rfl) (by decide) dX8_drawn_117 ?_
        refine x_l2i dX8_drawn_118 ?_
        refine x_iload dX8_drawn_119 0 rfl ?_
        refine x_aload_n dX8_drawn_121 2 rfl ?_
        refine x_getr 7 (sm_0 hG) (by decide) (C := RX8) (T := TX8) (N := 26) rfl in_X8 (by decide) rfl wf_864 dX8_drawn_122 ?_
        refine x_iconst dX8_drawn_125 ?_
        refine x_ia 41 rfl (sm_6 hG) (by decide) (Nat.le_of_ble_eq_true rfl) (by decide) dX8_drawn_126 ?_
        refine x_iconst dX8_drawn_127 ?_
        refine x_isub dX8_drawn_128 ?_
        refine x_iload dX8_drawn_129 0 rfl ?_
        refine x_isub dX8_drawn_131 ?_
        obtain ⟨H29, g28, h⟩ := hp_b1_e h
        refine x_isv (As := [.ref (hp_ad G 6), .int (hp_I (hp_w (Int.tmod v4_17 4))), .int (hp_I v8_27), .int (hp_I (hp_w ((hp_w ((H 6 0) - 1)) - v8_27)))]) (ok_X8_posts hG 6 (hp_w (Int.tmod v4_17 4)) v8_27 (hp_w ((hp_w ((H 6 0) - 1)) - v8_27)) H (sm_6 hG) (by decide) (hp_rw _) rv8_27 (hp_rw _) rH _ g28) cal_X8_posts stt_X8_posts wm_1086 (by decide) rfl rfl (Nat.le_of_ble_eq_true rfl) dX8_drawn_132 (fun z9 => ?_)
        have rH29 := z9
        cases h
        exact x_sub [2, 3, 4, 1, 5, 6] rfl (kj rH29)
set_option maxRecDepth 100000 in
theorem ok_X8_drawn {G : hp_G} (hG : hp_sh G = hp_shm) {l : Launch} (v1 : Int) (v2 : Int) (v3 : Int) (H : hp_H) (r1 : hp_r v1) (r2 : hp_r v2) (r3 : hp_r v3) (rH : hp_in H) (x : Int × hp_H) (h : f_X8_drawn v1 v2 v3 H = some x) : hp_M G l yX8_drawn cX8_drawn 9 (some .int) (hp_rm 4) [.ref (hp_ad G 0), .int (hp_I v1), .int (hp_I v2), .int (hp_I v3)] H (some (.int (hp_I x.1))) x.2 (hp_r x.1 ∧ hp_in x.2) := by
  obtain ⟨r, H'⟩ := x
  unfold f_X8_drawn at h
  refine hp_body "HeelPostModel" (by decide) rfl ⟨rfl, rfl⟩ (Nat.le_of_ble_eq_true rfl) ?_
  show hp_R G l cX8_drawn 9 (some .int) "HeelPostModel" (hp_rm 4) (some (.int (hp_I r))) H' (hp_r r ∧ hp_in H') 0 [(0, .ref (hp_ad G 0)), (1, .int (hp_I v1)), (2, .int (hp_I v2)), (3, .int (hp_I v3))] [] H
  refine x_aload_n dX8_drawn_0 0 rfl ?_
  refine x_iconst dX8_drawn_1 ?_
  obtain ⟨H1, eH1⟩ : ∃ z : hp_H, z = hp_up H 0 0 0 := ⟨_, rfl⟩
  replace h := hp_let_e eH1 h
  have rH1 := hp_ine eH1 (hp_in_up rH (hp_rc rfl))
  refine x_pi 0 0 rfl tyX8 eH1 (sm_0 hG) (by decide) (C := RX8) (T := TX8) (N := 26) rfl in_X8 tyX8_ok nmX8 (by decide) rfl rfl rfl wf_857 dX8_drawn_2 ?_
  refine x_aload_n dX8_drawn_5 0 rfl ?_
  obtain ⟨c3, g2, h⟩ := hp_b1_e h
  refine x_ivi (As := []) (ok_X8_isThere hG H1 rH1 _ g2) cal_X8_isThere (sm_0 hG) (by decide) (C := RX8) (T := TX8) (N := 26) rfl rfl ins_X8_isThere sel_X8_isThere wm_1034 (by decide) rfl rfl (Nat.le_of_ble_eq_true rfl) dX8_drawn_6 (fun z9 => ?_)
  have rc3 := z9
  refine x_ifne (tgt := 15) dX8_drawn_9 (by decide) rc3 (fun hc4 => ?_) (fun hc4 => ?_)
  · replace h := hp_if hc4 h
    refine x_iload_n dX8_drawn_15 1 rfl ?_
    refine x_i2l r1 dX8_drawn_16 ?_
    refine x_lconst (x := 0) rfl dX8_drawn_17 ?_
    refine x_ldc2 (x := 99) wc_1130 rfl dX8_drawn_18 ?_
    obtain ⟨c6, g5, h⟩ := hp_b1_e h
    refine x_isi (As := [.long (hp_J v1), .long (hp_J 0), .long (hp_J 99)]) (ok_X8_in hG v1 0 99 H1 (hp_rrl r1) (hp_rlc rfl) (hp_rlc rfl) rH1 _ g5) cal_X8_in stt_X8_in wm_945 (by decide) rfl rfl (Nat.le_of_ble_eq_true rfl) dX8_drawn_21 (fun z9 => ?_)
    have rc6 := z9
    refine x_ifeq (tgt := 49) dX8_drawn_24 (by decide) rc6 (fun hc7 => ?_) (fun hc7 => ?_)
    · replace h := hp_it hc7 h
      refine x_ldc (x := (-1000001)) wc_949 rfl dX8_drawn_49 ?_
      cases h
      exact x_iret ⟨(hp_rc rfl), rH1⟩ dX8_drawn_51
    · replace h := hp_if hc7 h
      refine x_iload_n dX8_drawn_27 2 rfl ?_
      refine x_i2l r2 dX8_drawn_28 ?_
      refine x_lconst (x := 1) rfl dX8_drawn_29 ?_
      refine x_ldc2 (x := 999999) wc_1230 rfl dX8_drawn_30 ?_
      obtain ⟨c9, g8, h⟩ := hp_b1_e h
      refine x_isi (As := [.long (hp_J v2), .long (hp_J 1), .long (hp_J 999999)]) (ok_X8_in hG v2 1 999999 H1 (hp_rrl r2) (hp_rlc rfl) (hp_rlc rfl) rH1 _ g8) cal_X8_in stt_X8_in wm_945 (by decide) rfl rfl (Nat.le_of_ble_eq_true rfl) dX8_drawn_33 (fun z9 => ?_)
      have rc9 := z9
      refine x_ifeq (tgt := 49) dX8_drawn_36 (by decide) rc9 (fun hc10 => ?_) (fun hc10 => ?_)
      · replace h := hp_it hc10 h
        refine x_ldc (x := (-1000001)) wc_949 rfl dX8_drawn_49 ?_
        cases h
        exact x_iret ⟨(hp_rc rfl), rH1⟩ dX8_drawn_51
      · replace h := hp_if hc10 h
        refine x_iload_n dX8_drawn_39 3 rfl ?_
        refine x_i2l r3 dX8_drawn_40 ?_
        refine x_lconst (x := 0) rfl dX8_drawn_41 ?_
        refine x_lconst (x := 1) rfl dX8_drawn_42 ?_
        obtain ⟨c12, g11, h⟩ := hp_b1_e h
        refine x_isi (As := [.long (hp_J v3), .long (hp_J 0), .long (hp_J 1)]) (ok_X8_in hG v3 0 1 H1 (hp_rrl r3) (hp_rlc rfl) (hp_rlc rfl) rH1 _ g11) cal_X8_in stt_X8_in wm_945 (by decide) rfl rfl (Nat.le_of_ble_eq_true rfl) dX8_drawn_43 (fun z9 => ?_)
        have rc12 := z9
        refine x_ifne (tgt := 52) dX8_drawn_46 (by decide) rc12 (fun hc13 => ?_) (fun hc13 => ?_)
        · replace h := hp_if hc13 h
          refine x_aload_n dX8_drawn_52 0 rfl ?_
          obtain ⟨H15, g14, h⟩ := hp_b1_e h
          refine x_ivv (As := []) (ok_X8_layThen hG H1 rH1 _ g14) cal_X8_layThen (sm_0 hG) (by decide) (C := RX8) (T := TX8) (N := 26) rfl rfl ins_X8_layThen sel_X8_layThen wm_1135 (by decide) rfl rfl (Nat.le_of_ble_eq_true rfl) dX8_drawn_53 (fun z9 => ?_)
          have rH15 := z9
          refine x_iload_n dX8_drawn_56 2 rfl ?_
          refine x_i2l r2 dX8_drawn_57 ?_
          refine x_lstore (L' := [(4, .long (hp_J v2)), (0, .ref (hp_ad G 0)), (1, .int (hp_I v1)), (2, .int (hp_I v2)), (3, .int (hp_I v3))]) dX8_drawn_58 (by decide) rfl ?_
          refine x_iconst dX8_drawn_60 ?_
          refine x_istore (L' := [(6, .int (hp_I 0)), (4, .long (hp_J v2)), (0, .ref (hp_ad G 0)), (1, .int (hp_I v1)), (2, .int (hp_I v2)), (3, .int (hp_I v3))]) dX8_drawn_61 (by decide) rfl ?_
          refine x_iconst dX8_drawn_63 ?_
          refine x_istore (L' := [(7, .int (hp_I 0)), (6, .int (hp_I 0)), (4, .long (hp_J v2)), (0, .ref (hp_ad G 0)), (1, .int (hp_I v1)), (2, .int (hp_I v2)), (3, .int (hp_I v3))]) dX8_drawn_64 (by decide) rfl ?_
          obtain ⟨v6_30, H31, g32, h⟩ := hp_b2_e h
          refine x_sub [3, 4, 6, 2, 1, 0] rfl (ok_X8_drawn_66 hG 1000 v1 v3 v2 0 0 H15 r1 r3 (hp_rrl r2) (hp_rc rfl) (hp_rc rfl) rH15 _ _ g32 ?_)
          intro rv6_30 rH31
          refine x_iload_n dX8_drawn_154 1 rfl ?_
          refine x_ifne (tgt := 171) dX8_drawn_155 (by decide) r3 (fun hc33 => ?_) (fun hc33 => ?_)
          · replace h := hp_if hc33 h
            refine x_iload dX8_drawn_171 2 rfl ?_
            cases h
            exact x_iret ⟨rv6_30, rH31⟩ dX8_drawn_173
          · replace h := hp_it hc33 h
            refine x_aload_n dX8_drawn_158 0 rfl ?_
            refine x_getr 7 (sm_0 hG) (by decide) (C := RX8) (T := TX8) (N := 26) rfl in_X8 (by decide) rfl wf_864 dX8_drawn_159 ?_
            obtain ⟨c35, g34, h⟩ := hp_b1_e h
            refine x_isi (As := [.ref (hp_ad G 6)]) (ok_X8_dones hG 6 H31 (sm_6 hG) (by decide) rH31 _ g34) cal_X8_dones stt_X8_dones wm_1067 (by decide) rfl rfl (Nat.le_of_ble_eq_true rfl) dX8_drawn_162 (fun z9 => ?_)
            have rc35 := z9
            obtain ⟨c37, g36, h⟩ := hp_b1_e h
            refine x_isi (As := [.int (hp_I c35)]) (ok_X8_bits hG c35 H31 rc35 rH31 _ g36) cal_X8_bits stt_X8_bits wm_1179 (by decide) rfl rfl (Nat.le_of_ble_eq_true rfl) dX8_drawn_165 (fun z9 => ?_)
            have rc37 := z9
            refine x_goto (tgt := 173) dX8_drawn_168 (by decide) ?_
            cases h
            exact x_iret ⟨rc37, rH31⟩ dX8_drawn_173
        · replace h := hp_it hc13 h
          refine x_ldc (x := (-1000001)) wc_949 rfl dX8_drawn_49 ?_
          cases h
          exact x_iret ⟨(hp_rc rfl), rH1⟩ dX8_drawn_51
  · replace h := hp_it hc4 h
    refine x_ldc (x := (-1000002)) wc_1038 rfl dX8_drawn_12 ?_
    cases h
    exact x_iret ⟨(hp_rc rfl), rH1⟩ dX8_drawn_14
set_option maxRecDepth 100000 in
theorem ok_X8_image_30 {G : hp_G} (hG : hp_sh G = hp_shm) {l : Launch} {vv : Option Value} {H' : hp_H} {Z : Prop} : ∀ (n : Nat) (v1 : Int) (v2 : Int) (H : hp_H), hp_r v1 → hp_r v2 → hp_in H → ∀ Hm : hp_H, f_X8_image_30 n v1 v2 H = some Hm → (hp_in Hm → hp_R G l cX8_image 3 (some .int) "HeelPostModel" (hp_rm 1) vv H' Z 59 [(0, .ref (hp_ad G 0)), (1, .int (hp_I v1))] [] Hm) → hp_R G l cX8_image 3 (some .int) "HeelPostModel" (hp_rm 1) vv H' Z 30 [(0, .ref (hp_ad G 0)), (1, .int (hp_I v1)), (2, .int (hp_I v2))] [] H := by
  intro n
  induction n with
  | zero =>
    intro v1 v2 H r1 r2 rH Hm h kx
    exact hp_no h
  | succ n ih =>
    intro v1 v2 H r1 r2 rH Hm h kx
    unfold f_X8_image_30 at h
    refine x_iload_n dX8_image_30 2 rfl ?_
    refine x_bipush rfl dX8_image_31 ?_
    refine x_icge (tgt := 59) dX8_image_33 (by decide) r2 (hp_rc rfl) (fun hc8 => ?_) (fun hc8 => ?_)
    · replace h := hp_if hc8 h
      cases h
      exact x_sub [0, 1] rfl (kx rH)
    · replace h := hp_it hc8 h
      refine x_aload_n dX8_image_36 0 rfl ?_
      refine x_getr 23 (sm_0 hG) (by decide) (C := RX8) (T := TX8) (N := 26) rfl in_X8 (by decide) rfl wf_880 dX8_image_37 ?_
      refine x_bipush rfl dX8_image_40 ?_
      refine x_iload_n dX8_image_42 1 rfl ?_
      refine x_imul dX8_image_43 ?_
      refine x_iload_n dX8_image_44 2 rfl ?_
      refine x_iadd dX8_image_45 ?_
      refine x_aload_n dX8_image_46 0 rfl ?_
      refine x_getr 5 (sm_0 hG) (by decide) (C := RX8) (T := TX8) (N := 26) rfl in_X8 (by decide) rfl wf_862 dX8_image_47 ?_
      refine x_iload_n dX8_image_50 2 rfl ?_
      obtain ⟨b9, h⟩ := hp_ck_e h
      refine x_ia 41 rfl (sm_4 hG) (by decide) (Nat.le_of_ble_eq_true rfl) b9 dX8_image_51 ?_
      obtain ⟨b10, h⟩ := hp_ck_e h
      obtain ⟨H11, eH11⟩ : ∃ z : hp_H, z = hp_up H 13 (hp_w ((hp_w (41 * v1)) + v2)) (H 4 v2) := ⟨_, rfl⟩
      replace h := hp_let_e eH11 h
      have rH11 := hp_ine eH11 (hp_in_up rH (rH _ _))
      refine x_ias 82 rfl eH11 (sm_13 hG) (by decide) (Nat.le_of_ble_eq_true rfl) b10 dX8_image_52 ?_
      obtain ⟨v2_12, ev2_12⟩ : ∃ z : Int, z = (hp_w (v2 + 1)) := ⟨_, rfl⟩
      replace h := hp_let_e ev2_12 h
      have rv2_12 := hp_re ev2_12 (hp_rw _)
      refine x_iiE (L' := [(2, .int (hp_I v2_12)), (0, .ref (hp_ad G 0)), (1, .int (hp_I v1))]) ev2_12 dX8_image_53 2 rfl (by decide) rfl ?_
      refine x_goto (tgt := 30) dX8_image_56 (by decide) ?_
      exact x_sub [1, 2, 0] rfl (ih v1 v2_12 H11 r1 rv2_12 rH11 _ h kx)
set_option maxRecDepth 100000 in
theorem ok_X8_image {G : hp_G} (hG : hp_sh G = hp_shm) {l : Launch} (v1 : Int) (H : hp_H) (r1 : hp_r v1) (rH : hp_in H) (x : Int × hp_H) (h : f_X8_image v1 H = some x) : hp_M G l yX8_image cX8_image 3 (some .int) (hp_rm 1) [.ref (hp_ad G 0), .int (hp_I v1)] H (some (.int (hp_I x.1))) x.2 (hp_r x.1 ∧ hp_in x.2) := by
  obtain ⟨r, H'⟩ := x
  unfold f_X8_image at h
  refine hp_body "HeelPostModel" (by decide) rfl ⟨rfl, rfl⟩ (Nat.le_of_ble_eq_true rfl) ?_
  show hp_R G l cX8_image 3 (some .int) "HeelPostModel" (hp_rm 1) (some (.int (hp_I r))) H' (hp_r r ∧ hp_in H') 0 [(0, .ref (hp_ad G 0)), (1, .int (hp_I v1))] [] H
  refine x_aload_n dX8_image_0 0 rfl ?_
  refine x_iconst dX8_image_1 ?_
  obtain ⟨H1, eH1⟩ : ∃ z : hp_H, z = hp_up H 0 0 0 := ⟨_, rfl⟩
  replace h := hp_let_e eH1 h
  have rH1 := hp_ine eH1 (hp_in_up rH (hp_rc rfl))
  refine x_pi 0 0 rfl tyX8 eH1 (sm_0 hG) (by decide) (C := RX8) (T := TX8) (N := 26) rfl in_X8 tyX8_ok nmX8 (by decide) rfl rfl rfl wf_857 dX8_image_2 ?_
  refine x_iload_n dX8_image_5 1 rfl ?_
  refine x_i2l r1 dX8_image_6 ?_
  refine x_lconst (x := 0) rfl dX8_image_7 ?_
  refine x_lconst (x := 1) rfl dX8_image_8 ?_
  obtain ⟨c3, g2, h⟩ := hp_b1_e h
  refine x_isi (As := [.long (hp_J v1), .long (hp_J 0), .long (hp_J 1)]) (ok_X8_in hG v1 0 1 H1 (hp_rrl r1) (hp_rlc rfl) (hp_rlc rfl) rH1 _ g2) cal_X8_in stt_X8_in wm_945 (by decide) rfl rfl (Nat.le_of_ble_eq_true rfl) dX8_image_9 (fun z9 => ?_)
  have rc3 := z9
  refine x_ifne (tgt := 18) dX8_image_12 (by decide) rc3 (fun hc4 => ?_) (fun hc4 => ?_)
  · replace h := hp_if hc4 h
    refine x_aload_n dX8_image_18 0 rfl ?_
    obtain ⟨c6, g5, h⟩ := hp_b1_e h
    refine x_ivi (As := []) (ok_X8_isThere hG H1 rH1 _ g5) cal_X8_isThere (sm_0 hG) (by decide) (C := RX8) (T := TX8) (N := 26) rfl rfl ins_X8_isThere sel_X8_isThere wm_1034 (by decide) rfl rfl (Nat.le_of_ble_eq_true rfl) dX8_image_19 (fun z9 => ?_)
    have rc6 := z9
    refine x_ifne (tgt := 28) dX8_image_22 (by decide) rc6 (fun hc7 => ?_) (fun hc7 => ?_)
    · replace h := hp_if hc7 h
      refine x_iconst dX8_image_28 ?_
      refine x_istore_n (L' := [(2, .int (hp_I 0)), (0, .ref (hp_ad G 0)), (1, .int (hp_I v1))]) dX8_image_29 rfl (by decide) rfl ?_
      obtain ⟨H13, g14, h⟩ := hp_b1_e h
      refine x_sub [1, 2, 0] rfl (ok_X8_image_30 hG 1000 v1 0 H1 r1 (hp_rc rfl) rH1 _ g14 ?_)
      intro rH13
      refine x_aload_n dX8_image_59 0 rfl ?_
      refine x_getr 22 (sm_0 hG) (by decide) (C := RX8) (T := TX8) (N := 26) rfl in_X8 (by decide) rfl wf_879 dX8_image_60 ?_
      refine x_iload_n dX8_image_63 1 rfl ?_
      refine x_iconst dX8_image_64 ?_
      obtain ⟨b15, h⟩ := hp_ck_e h
      obtain ⟨H16, eH16⟩ : ∃ z : hp_H, z = hp_up H13 12 v1 1 := ⟨_, rfl⟩
      replace h := hp_let_e eH16 h
      have rH16 := hp_ine eH16 (hp_in_up rH13 (hp_rc rfl))
      refine x_zas 2 rfl eH16 (sm_12 hG) (by decide) (Nat.le_of_ble_eq_true rfl) b15 rfl dX8_image_65 ?_
      refine x_iconst dX8_image_66 ?_
      cases h
      exact x_iret ⟨(hp_rc rfl), rH16⟩ dX8_image_67
    · replace h := hp_it hc7 h
      refine x_ldc (x := (-1000002)) wc_1038 rfl dX8_image_25 ?_
      cases h
      exact x_iret ⟨(hp_rc rfl), rH1⟩ dX8_image_27
  · replace h := hp_it hc4 h
    refine x_ldc (x := (-1000001)) wc_949 rfl dX8_image_15 ?_
    cases h
    exact x_iret ⟨(hp_rc rfl), rH1⟩ dX8_image_17
set_option maxRecDepth 100000 in
theorem ok_X8_restore_32 {G : hp_G} (hG : hp_sh G = hp_shm) {l : Launch} {vv : Option Value} {H' : hp_H} {Z : Prop} : ∀ (n : Nat) (v1 : Int) (v2 : Int) (H : hp_H), hp_r v1 → hp_r v2 → hp_in H → ∀ Hm : hp_H, f_X8_restore_32 n v1 v2 H = some Hm → (hp_in Hm → hp_R G l cX8_restore 3 (some .int) "HeelPostModel" (hp_rm 1) vv H' Z 61 [(0, .ref (hp_ad G 0))] [] Hm) → hp_R G l cX8_restore 3 (some .int) "HeelPostModel" (hp_rm 1) vv H' Z 32 [(0, .ref (hp_ad G 0)), (1, .int (hp_I v1)), (2, .int (hp_I v2))] [] H := by
  intro n
  induction n with
  | zero =>
    intro v1 v2 H r1 r2 rH Hm h kx
    exact hp_no h
  | succ n ih =>
    intro v1 v2 H r1 r2 rH Hm h kx
    unfold f_X8_restore_32 at h
    refine x_iload_n dX8_restore_32 2 rfl ?_
    refine x_bipush rfl dX8_restore_33 ?_
    refine x_icge (tgt := 61) dX8_restore_35 (by decide) r2 (hp_rc rfl) (fun hc7 => ?_) (fun hc7 => ?_)
    · replace h := hp_if hc7 h
      cases h
      exact x_sub [0] rfl (kx rH)
    · replace h := hp_it hc7 h
      refine x_aload_n dX8_restore_38 0 rfl ?_
      refine x_getr 5 (sm_0 hG) (by decide) (C := RX8) (T := TX8) (N := 26) rfl in_X8 (by decide) rfl wf_862 dX8_restore_39 ?_
      refine x_iload_n dX8_restore_42 2 rfl ?_
      refine x_aload_n dX8_restore_43 0 rfl ?_
      refine x_getr 23 (sm_0 hG) (by decide) (C := RX8) (T := TX8) (N := 26) rfl in_X8 (by decide) rfl wf_880 dX8_restore_44 ?_
      refine x_bipush rfl dX8_restore_47 ?_
      refine x_iload_n dX8_restore_49 1 rfl ?_
      refine x_imul dX8_restore_50 ?_
      refine x_iload_n dX8_restore_51 2 rfl ?_
      refine x_iadd dX8_restore_52 ?_
      obtain ⟨b8, h⟩ := hp_ck_e h
      refine x_ia 82 rfl (sm_13 hG) (by decide) (Nat.le_of_ble_eq_true rfl) b8 dX8_restore_53 ?_
      obtain ⟨b9, h⟩ := hp_ck_e h
      obtain ⟨H10, eH10⟩ : ∃ z : hp_H, z = hp_up H 4 v2 (H 13 (hp_w ((hp_w (41 * v1)) + v2))) := ⟨_, rfl⟩
      replace h := hp_let_e eH10 h
      have rH10 := hp_ine eH10 (hp_in_up rH (rH _ _))
      refine x_ias 41 rfl eH10 (sm_4 hG) (by decide) (Nat.le_of_ble_eq_true rfl) b9 dX8_restore_54 ?_
      obtain ⟨v2_11, ev2_11⟩ : ∃ z : Int, z = (hp_w (v2 + 1)) := ⟨_, rfl⟩
      replace h := hp_let_e ev2_11 h
      have rv2_11 := hp_re ev2_11 (hp_rw _)
      refine x_iiE (L' := [(2, .int (hp_I v2_11)), (0, .ref (hp_ad G 0)), (1, .int (hp_I v1))]) ev2_11 dX8_restore_55 2 rfl (by decide) rfl ?_
      refine x_goto (tgt := 32) dX8_restore_58 (by decide) ?_
      exact x_sub [1, 2, 0] rfl (ih v1 v2_11 H10 r1 rv2_11 rH10 _ h kx)
set_option maxRecDepth 100000 in
theorem ok_X8_restore {G : hp_G} (hG : hp_sh G = hp_shm) {l : Launch} (v1 : Int) (H : hp_H) (r1 : hp_r v1) (rH : hp_in H) (x : Int × hp_H) (h : f_X8_restore v1 H = some x) : hp_M G l yX8_restore cX8_restore 3 (some .int) (hp_rm 1) [.ref (hp_ad G 0), .int (hp_I v1)] H (some (.int (hp_I x.1))) x.2 (hp_r x.1 ∧ hp_in x.2) := by
  obtain ⟨r, H'⟩ := x
  unfold f_X8_restore at h
  refine hp_body "HeelPostModel" (by decide) rfl ⟨rfl, rfl⟩ (Nat.le_of_ble_eq_true rfl) ?_
  show hp_R G l cX8_restore 3 (some .int) "HeelPostModel" (hp_rm 1) (some (.int (hp_I r))) H' (hp_r r ∧ hp_in H') 0 [(0, .ref (hp_ad G 0)), (1, .int (hp_I v1))] [] H
  refine x_aload_n dX8_restore_0 0 rfl ?_
  refine x_iconst dX8_restore_1 ?_
  obtain ⟨H1, eH1⟩ : ∃ z : hp_H, z = hp_up H 0 0 0 := ⟨_, rfl⟩
  replace h := hp_let_e eH1 h
  have rH1 := hp_ine eH1 (hp_in_up rH (hp_rc rfl))
  refine x_pi 0 0 rfl tyX8 eH1 (sm_0 hG) (by decide) (C := RX8) (T := TX8) (N := 26) rfl in_X8 tyX8_ok nmX8 (by decide) rfl rfl rfl wf_857 dX8_restore_2 ?_
  refine x_iload_n dX8_restore_5 1 rfl ?_
  refine x_i2l r1 dX8_restore_6 ?_
  refine x_lconst (x := 0) rfl dX8_restore_7 ?_
  refine x_lconst (x := 1) rfl dX8_restore_8 ?_
  obtain ⟨c3, g2, h⟩ := hp_b1_e h
  refine x_isi (As := [.long (hp_J v1), .long (hp_J 0), .long (hp_J 1)]) (ok_X8_in hG v1 0 1 H1 (hp_rrl r1) (hp_rlc rfl) (hp_rlc rfl) rH1 _ g2) cal_X8_in stt_X8_in wm_945 (by decide) rfl rfl (Nat.le_of_ble_eq_true rfl) dX8_restore_9 (fun z9 => ?_)
  have rc3 := z9
  refine x_ifne (tgt := 18) dX8_restore_12 (by decide) rc3 (fun hc4 => ?_) (fun hc4 => ?_)
  · replace h := hp_if hc4 h
    refine x_aload_n dX8_restore_18 0 rfl ?_
    refine x_getr 22 (sm_0 hG) (by decide) (C := RX8) (T := TX8) (N := 26) rfl in_X8 (by decide) rfl wf_879 dX8_restore_19 ?_
    refine x_iload_n dX8_restore_22 1 rfl ?_
    obtain ⟨b5, h⟩ := hp_ck_e h
    refine x_za 2 rfl (sm_12 hG) (by decide) (Nat.le_of_ble_eq_true rfl) b5 dX8_restore_23 ?_
    refine x_ifne (tgt := 30) dX8_restore_24 (by decide) (rH1 _ _) (fun hc6 => ?_) (fun hc6 => ?_)
    · replace h := hp_if hc6 h
      refine x_iconst dX8_restore_30 ?_
      refine x_istore_n (L' := [(2, .int (hp_I 0)), (0, .ref (hp_ad G 0)), (1, .int (hp_I v1))]) dX8_restore_31 rfl (by decide) rfl ?_
      obtain ⟨H12, g13, h⟩ := hp_b1_e h
      refine x_sub [1, 2, 0] rfl (ok_X8_restore_32 hG 1000 v1 0 H1 r1 (hp_rc rfl) rH1 _ g13 ?_)
      intro rH12
      refine x_aload_n dX8_restore_61 0 rfl ?_
      refine x_iconst dX8_restore_62 ?_
      obtain ⟨H14, eH14⟩ : ∃ z : hp_H, z = hp_up H12 0 9 0 := ⟨_, rfl⟩
      replace h := hp_let_e eH14 h
      have rH14 := hp_ine eH14 (hp_in_up rH12 (hp_rc rfl))
      refine x_pi 9 9 rfl tyX8 eH14 (sm_0 hG) (by decide) (C := RX8) (T := TX8) (N := 26) rfl in_X8 tyX8_ok nmX8 (by decide) rfl rfl rfl wf_866 dX8_restore_63 ?_
      refine x_iconst dX8_restore_66 ?_
      cases h
      exact x_iret ⟨(hp_rc rfl), rH14⟩ dX8_restore_67
    · replace h := hp_it hc6 h
      refine x_ldc (x := (-1000002)) wc_1038 rfl dX8_restore_27 ?_
      cases h
      exact x_iret ⟨(hp_rc rfl), rH1⟩ dX8_restore_29
  · replace h := hp_it hc4 h
    refine x_ldc (x := (-1000001)) wc_949 rfl dX8_restore_15 ?_
    cases h
    exact x_iret ⟨(hp_rc rfl), rH1⟩ dX8_restore_17
set_option maxRecDepth 100000 in
theorem ok_X8_isOf {G : hp_G} (hG : hp_sh G = hp_shm) {l : Launch} (v0 : Int) (v1 : Int) (H : hp_H) (r0 : hp_r v0) (r1 : hp_r v1) (rH : hp_in H) (r : Int) (h : f_X8_isOf v0 v1 H = some r) : hp_M G l yX8_isOf cX8_isOf 2 (some .boolean) (hp_rm 0) [.int (hp_I v0), .int (hp_I v1)] H (some (.int (hp_I r))) H (hp_r r) := by
  unfold f_X8_isOf at h
  refine hp_body "HeelPostModel" (by decide) rfl ⟨rfl, rfl⟩ (Nat.le_of_ble_eq_true rfl) ?_
  show hp_R G l cX8_isOf 2 (some .boolean) "HeelPostModel" (hp_rm 0) (some (.int (hp_I r))) H (hp_r r) 0 [(0, .int (hp_I v0)), (1, .int (hp_I v1))] [] H
  refine x_iload_n dX8_isOf_0 1 rfl ?_
  refine x_ifeq (tgt := 29) dX8_isOf_1 (by decide) r1 (fun hc1 => ?_) (fun hc1 => ?_)
  · replace h := hp_it hc1 h
    refine x_iconst dX8_isOf_29 ?_
    refine x_goto (tgt := 34) dX8_isOf_30 (by decide) ?_
    cases h
    exact x_zret (hp_rc rfl) (Or.inr rfl) dX8_isOf_34
  · replace h := hp_if hc1 h
    refine x_iload_n dX8_isOf_4 0 rfl ?_
    refine x_iload_n dX8_isOf_5 1 rfl ?_
    refine x_iceq (tgt := 29) dX8_isOf_6 (by decide) r0 r1 (fun hc2 => ?_) (fun hc2 => ?_)
    · replace h := hp_it hc2 h
      refine x_iconst dX8_isOf_29 ?_
      refine x_goto (tgt := 34) dX8_isOf_30 (by decide) ?_
      cases h
      exact x_zret (hp_rc rfl) (Or.inr rfl) dX8_isOf_34
    · replace h := hp_if hc2 h
      refine x_iload_n dX8_isOf_9 1 rfl ?_
      refine x_iconst dX8_isOf_10 ?_
      refine x_icne (tgt := 19) dX8_isOf_11 (by decide) r1 (hp_rc rfl) (fun hc3 => ?_) (fun hc3 => ?_)
      · replace h := hp_if hc3 h
        refine x_iload_n dX8_isOf_19 1 rfl ?_
        refine x_iconst dX8_isOf_20 ?_
        refine x_icne (tgt := 33) dX8_isOf_21 (by decide) r1 (hp_rc rfl) (fun hc7 => ?_) (fun hc7 => ?_)
        · replace h := hp_if hc7 h
          refine x_iconst dX8_isOf_33 ?_
          cases h
          exact x_zret (hp_rc rfl) (Or.inl rfl) dX8_isOf_34
        · replace h := hp_it hc7 h
          refine x_iload_n dX8_isOf_24 0 rfl ?_
          refine x_iconst dX8_isOf_25 ?_
          refine x_icne (tgt := 33) dX8_isOf_26 (by decide) r0 (hp_rc rfl) (fun hc8 => ?_) (fun hc8 => ?_)
          · replace h := hp_if hc8 h
            refine x_iconst dX8_isOf_33 ?_
            cases h
            exact x_zret (hp_rc rfl) (Or.inl rfl) dX8_isOf_34
          · replace h := hp_it hc8 h
            refine x_iconst dX8_isOf_29 ?_
            refine x_goto (tgt := 34) dX8_isOf_30 (by decide) ?_
            cases h
            exact x_zret (hp_rc rfl) (Or.inr rfl) dX8_isOf_34
      · replace h := hp_it hc3 h
        refine x_iload_n dX8_isOf_14 0 rfl ?_
        refine x_iconst dX8_isOf_15 ?_
        refine x_iclt (tgt := 29) dX8_isOf_16 (by decide) r0 (hp_rc rfl) (fun hc4 => ?_) (fun hc4 => ?_)
        · replace h := hp_it hc4 h
          refine x_iconst dX8_isOf_29 ?_
          refine x_goto (tgt := 34) dX8_isOf_30 (by decide) ?_
          cases h
          exact x_zret (hp_rc rfl) (Or.inr rfl) dX8_isOf_34
        · replace h := hp_if hc4 h
          refine x_iload_n dX8_isOf_19 1 rfl ?_
          refine x_iconst dX8_isOf_20 ?_
          refine x_icne (tgt := 33) dX8_isOf_21 (by decide) r1 (hp_rc rfl) (fun hc5 => ?_) (fun hc5 => ?_)
          · replace h := hp_if hc5 h
            refine x_iconst dX8_isOf_33 ?_
            cases h
            exact x_zret (hp_rc rfl) (Or.inl rfl) dX8_isOf_34
          · replace h := hp_it hc5 h
            refine x_iload_n dX8_isOf_24 0 rfl ?_
            refine x_iconst dX8_isOf_25 ?_
            refine x_icne (tgt := 33) dX8_isOf_26 (by decide) r0 (hp_rc rfl) (fun hc6 => ?_) (fun hc6 => ?_)
            · replace h := hp_if hc6 h
              refine x_iconst dX8_isOf_33 ?_
              cases h
              exact x_zret (hp_rc rfl) (Or.inl rfl) dX8_isOf_34
            · replace h := hp_it hc6 h
              refine x_iconst dX8_isOf_29 ?_
              refine x_goto (tgt := 34) dX8_isOf_30 (by decide) ?_
              cases h
              exact x_zret (hp_rc rfl) (Or.inr rfl) dX8_isOf_34
set_option maxRecDepth 100000 in
theorem ok_X8_kind {G : hp_G} (hG : hp_sh G = hp_shm) {l : Launch} (v1 : Int) (H : hp_H) (r1 : hp_r v1) (rH : hp_in H) (x : Int × hp_H) (h : f_X8_kind v1 H = some x) : hp_M G l yX8_kind cX8_kind 2 (some .int) (hp_rm 2) [.ref (hp_ad G 0), .int (hp_I v1)] H (some (.int (hp_I x.1))) x.2 (hp_r x.1 ∧ hp_in x.2) := by
  obtain ⟨r, H'⟩ := x
  unfold f_X8_kind at h
  refine hp_body "HeelPostModel" (by decide) rfl ⟨rfl, rfl⟩ (Nat.le_of_ble_eq_true rfl) ?_
  show hp_R G l cX8_kind 2 (some .int) "HeelPostModel" (hp_rm 2) (some (.int (hp_I r))) H' (hp_r r ∧ hp_in H') 0 [(0, .ref (hp_ad G 0)), (1, .int (hp_I v1))] [] H
  refine x_aload_n dX8_kind_0 0 rfl ?_
  refine x_iconst dX8_kind_1 ?_
  obtain ⟨H1, eH1⟩ : ∃ z : hp_H, z = hp_up H 0 0 0 := ⟨_, rfl⟩
  replace h := hp_let_e eH1 h
  have rH1 := hp_ine eH1 (hp_in_up rH (hp_rc rfl))
  refine x_pi 0 0 rfl tyX8 eH1 (sm_0 hG) (by decide) (C := RX8) (T := TX8) (N := 26) rfl in_X8 tyX8_ok nmX8 (by decide) rfl rfl rfl wf_857 dX8_kind_2 ?_
  refine x_aload_n dX8_kind_5 0 rfl ?_
  refine x_iload_n dX8_kind_6 1 rfl ?_
  obtain ⟨c3, g2, h⟩ := hp_b1_e h
  refine x_ivi (As := [.int (hp_I v1)]) (ok_X8_isPerson hG v1 H1 r1 rH1 _ g2) cal_X8_isPerson (sm_0 hG) (by decide) (C := RX8) (T := TX8) (N := 26) rfl rfl ins_X8_isPerson sel_X8_isPerson wm_1100 (by decide) rfl rfl (Nat.le_of_ble_eq_true rfl) dX8_kind_7 (fun z9 => ?_)
  have rc3 := z9
  refine x_ifeq (tgt := 25) dX8_kind_10 (by decide) rc3 (fun hc4 => ?_) (fun hc4 => ?_)
  · replace h := hp_it hc4 h
    refine x_ldc (x := (-1000001)) wc_949 rfl dX8_kind_25 ?_
    cases h
    exact x_iret ⟨(hp_rc rfl), rH1⟩ dX8_kind_27
  · replace h := hp_if hc4 h
    refine x_aload_n dX8_kind_13 0 rfl ?_
    refine x_getr 5 (sm_0 hG) (by decide) (C := RX8) (T := TX8) (N := 26) rfl in_X8 (by decide) rfl wf_862 dX8_kind_14 ?_
    refine x_iload_n dX8_kind_17 1 rfl ?_
    refine x_iconst dX8_kind_18 ?_
    obtain ⟨c6, g5, h⟩ := hp_b1_e h
    refine x_isi (As := [.ref (hp_ad G 4), .int (hp_I v1), .int (hp_I 0)]) (ok_X8_of hG 4 v1 0 H1 (sm_4 hG) (by decide) r1 (hp_rc rfl) rH1 _ g5) cal_X8_of stt_X8_of wm_1061 (by decide) rfl rfl (Nat.le_of_ble_eq_true rfl) dX8_kind_19 (fun z9 => ?_)
    have rc6 := z9
    refine x_goto (tgt := 27) dX8_kind_22 (by decide) ?_
    cases h
    exact x_iret ⟨rc6, rH1⟩ dX8_kind_27
set_option maxRecDepth 100000 in
theorem ok_X8_as {G : hp_G} (hG : hp_sh G = hp_shm) {l : Launch} (v1 : Int) (v2 : Int) (H : hp_H) (r1 : hp_r v1) (r2 : hp_r v2) (rH : hp_in H) (x : Int × hp_H) (h : f_X8_as v1 v2 H = some x) : hp_M G l yX8_as cX8_as 3 (some .int) (hp_rm 2) [.ref (hp_ad G 0), .int (hp_I v1), .int (hp_I v2)] H (some (.int (hp_I x.1))) x.2 (hp_r x.1 ∧ hp_in x.2) := by
  obtain ⟨r, H'⟩ := x
  unfold f_X8_as at h
  refine hp_body "HeelPostModel" (by decide) rfl ⟨rfl, rfl⟩ (Nat.le_of_ble_eq_true rfl) ?_
  show hp_R G l cX8_as 3 (some .int) "HeelPostModel" (hp_rm 2) (some (.int (hp_I r))) H' (hp_r r ∧ hp_in H') 0 [(0, .ref (hp_ad G 0)), (1, .int (hp_I v1)), (2, .int (hp_I v2))] [] H
  refine x_aload_n dX8_as_0 0 rfl ?_
  refine x_iconst dX8_as_1 ?_
  obtain ⟨H1, eH1⟩ : ∃ z : hp_H, z = hp_up H 0 0 0 := ⟨_, rfl⟩
  replace h := hp_let_e eH1 h
  have rH1 := hp_ine eH1 (hp_in_up rH (hp_rc rfl))
  refine x_pi 0 0 rfl tyX8 eH1 (sm_0 hG) (by decide) (C := RX8) (T := TX8) (N := 26) rfl in_X8 tyX8_ok nmX8 (by decide) rfl rfl rfl wf_857 dX8_as_2 ?_
  refine x_aload_n dX8_as_5 0 rfl ?_
  refine x_iload_n dX8_as_6 1 rfl ?_
  obtain ⟨c3, g2, h⟩ := hp_b1_e h
  refine x_ivi (As := [.int (hp_I v1)]) (ok_X8_isPerson hG v1 H1 r1 rH1 _ g2) cal_X8_isPerson (sm_0 hG) (by decide) (C := RX8) (T := TX8) (N := 26) rfl rfl ins_X8_isPerson sel_X8_isPerson wm_1100 (by decide) rfl rfl (Nat.le_of_ble_eq_true rfl) dX8_as_7 (fun z9 => ?_)
  have rc3 := z9
  refine x_ifeq (tgt := 25) dX8_as_10 (by decide) rc3 (fun hc4 => ?_) (fun hc4 => ?_)
  · replace h := hp_it hc4 h
    refine x_ldc (x := (-1000001)) wc_949 rfl dX8_as_25 ?_
    cases h
    exact x_iret ⟨(hp_rc rfl), rH1⟩ dX8_as_27
  · replace h := hp_if hc4 h
    refine x_iload_n dX8_as_13 2 rfl ?_
    refine x_i2l r2 dX8_as_14 ?_
    refine x_lconst (x := 0) rfl dX8_as_15 ?_
    refine x_ldc2 (x := 5) wc_1117 rfl dX8_as_16 ?_
    obtain ⟨c6, g5, h⟩ := hp_b1_e h
    refine x_isi (As := [.long (hp_J v2), .long (hp_J 0), .long (hp_J 5)]) (ok_X8_in hG v2 0 5 H1 (hp_rrl r2) (hp_rlc rfl) (hp_rlc rfl) rH1 _ g5) cal_X8_in stt_X8_in wm_945 (by decide) rfl rfl (Nat.le_of_ble_eq_true rfl) dX8_as_19 (fun z9 => ?_)
    have rc6 := z9
    refine x_ifne (tgt := 28) dX8_as_22 (by decide) rc6 (fun hc7 => ?_) (fun hc7 => ?_)
    · replace h := hp_if hc7 h
      refine x_aload_n dX8_as_28 0 rfl ?_
      refine x_iconst dX8_as_29 ?_
      obtain ⟨H8, eH8⟩ : ∃ z : hp_H, z = hp_up H1 0 1 0 := ⟨_, rfl⟩
      replace h := hp_let_e eH8 h
      have rH8 := hp_ine eH8 (hp_in_up rH1 (hp_rc rfl))
      refine x_pi 1 1 rfl tyX8 eH8 (sm_0 hG) (by decide) (C := RX8) (T := TX8) (N := 26) rfl in_X8 tyX8_ok nmX8 (by decide) rfl rfl rfl wf_858 dX8_as_30 ?_
      refine x_aload_n dX8_as_33 0 rfl ?_
      refine x_getr 5 (sm_0 hG) (by decide) (C := RX8) (T := TX8) (N := 26) rfl in_X8 (by decide) rfl wf_862 dX8_as_34 ?_
      refine x_iload_n dX8_as_37 1 rfl ?_
      refine x_iconst dX8_as_38 ?_
      obtain ⟨c10, g9, h⟩ := hp_b1_e h
      refine x_isi (As := [.ref (hp_ad G 4), .int (hp_I v1), .int (hp_I 0)]) (ok_X8_of hG 4 v1 0 H8 (sm_4 hG) (by decide) r1 (hp_rc rfl) rH8 _ g9) cal_X8_of stt_X8_of wm_1061 (by decide) rfl rfl (Nat.le_of_ble_eq_true rfl) dX8_as_39 (fun z9 => ?_)
      have rc10 := z9
      refine x_iload_n dX8_as_42 2 rfl ?_
      obtain ⟨c12, g11, h⟩ := hp_b1_e h
      refine x_isi (As := [.int (hp_I c10), .int (hp_I v2)]) (ok_X8_isOf hG c10 v2 H8 rc10 r2 rH8 _ g11) cal_X8_isOf stt_X8_isOf wm_1250 (by decide) rfl rfl (Nat.le_of_ble_eq_true rfl) dX8_as_43 (fun z9 => ?_)
      have rc12 := z9
      refine x_ifeq (tgt := 53) dX8_as_46 (by decide) rc12 (fun hc13 => ?_) (fun hc13 => ?_)
      · replace h := hp_it hc13 h
        refine x_aload_n dX8_as_53 0 rfl ?_
        refine x_iconst dX8_as_54 ?_
        obtain ⟨c15, H16, g14, h⟩ := hp_b2_e h
        refine x_ivi (As := [.int (hp_I 3)]) (ok_X8_finding hG 3 H8 (hp_rc rfl) rH8 _ g14) cal_X8_finding (sm_0 hG) (by decide) (C := RX8) (T := TX8) (N := 26) rfl rfl ins_X8_finding sel_X8_finding wm_950 (by decide) rfl rfl (Nat.le_of_ble_eq_true rfl) dX8_as_55 (fun z9 => ?_)
        obtain ⟨rc15, rH16⟩ := z9
        cases h
        exact x_iret ⟨rc15, rH16⟩ dX8_as_58
      · replace h := hp_if hc13 h
        refine x_iload_n dX8_as_49 1 rfl ?_
        refine x_goto (tgt := 58) dX8_as_50 (by decide) ?_
        cases h
        exact x_iret ⟨r1, rH8⟩ dX8_as_58
    · replace h := hp_it hc7 h
      refine x_ldc (x := (-1000001)) wc_949 rfl dX8_as_25 ?_
      cases h
      exact x_iret ⟨(hp_rc rfl), rH1⟩ dX8_as_27
set_option maxRecDepth 100000 in
theorem ok_X8_began {G : hp_G} (hG : hp_sh G = hp_shm) {l : Launch} (v1 : Int) (H : hp_H) (r1 : hp_r v1) (rH : hp_in H) (H' : hp_H) (h : f_X8_began v1 H = some H') : hp_M G l yX8_began cX8_began 2 none (hp_rm 0) [.ref (hp_ad G 0), .int (hp_I v1)] H none H' (hp_in H') := by
  unfold f_X8_began at h
  refine hp_body "HeelPostModel" (by decide) rfl ⟨rfl, rfl⟩ (Nat.le_of_ble_eq_true rfl) ?_
  show hp_R G l cX8_began 2 none "HeelPostModel" (hp_rm 0) none H' (hp_in H') 0 [(0, .ref (hp_ad G 0)), (1, .int (hp_I v1))] [] H
  refine x_aload_n dX8_began_0 0 rfl ?_
  refine x_gi 25 25 rfl (sm_0 hG) (by decide) (C := RX8) (T := TX8) (N := 26) rfl in_X8 (by decide) rfl wf_882 dX8_began_1 ?_
  refine x_bipush rfl dX8_began_4 ?_
  refine x_icge (tgt := 29) dX8_began_6 (by decide) (rH _ _) (hp_rc rfl) (fun hc1 => ?_) (fun hc1 => ?_)
  · replace h := hp_if hc1 h
    cases h
    exact x_vret rH dX8_began_29
  · replace h := hp_it hc1 h
    refine x_aload_n dX8_began_9 0 rfl ?_
    refine x_getr 24 (sm_0 hG) (by decide) (C := RX8) (T := TX8) (N := 26) rfl in_X8 (by decide) rfl wf_881 dX8_began_10 ?_
    refine x_aload_n dX8_began_13 0 rfl ?_
    refine x_gi 25 25 rfl (sm_0 hG) (by decide) (C := RX8) (T := TX8) (N := 26) rfl in_X8 (by decide) rfl wf_882 dX8_began_14 ?_
    refine x_iload_n dX8_began_17 1 rfl ?_
    obtain ⟨b2, h⟩ := hp_ck_e h
    obtain ⟨H3, eH3⟩ : ∃ z : hp_H, z = hp_up H 14 (H 0 25) v1 := ⟨_, rfl⟩
    replace h := hp_let_e eH3 h
    have rH3 := hp_ine eH3 (hp_in_up rH r1)
    refine x_ias 16 rfl eH3 (sm_14 hG) (by decide) (Nat.le_of_ble_eq_true rfl) b2 dX8_began_18 ?_
    refine x_aload_n dX8_began_19 0 rfl ?_
    refine x_dup rfl dX8_began_20 ?_
    refine x_gi 25 25 rfl (sm_0 hG) (by decide) (C := RX8) (T := TX8) (N := 26) rfl in_X8 (by decide) rfl wf_882 dX8_began_21 ?_
    refine x_iconst dX8_began_24 ?_
    refine x_iadd dX8_began_25 ?_
    obtain ⟨H4, eH4⟩ : ∃ z : hp_H, z = hp_up H3 0 25 (hp_w ((H3 0 25) + 1)) := ⟨_, rfl⟩
    replace h := hp_let_e eH4 h
    have rH4 := hp_ine eH4 (hp_in_up rH3 (hp_rw _))
    refine x_pi 25 25 rfl tyX8 eH4 (sm_0 hG) (by decide) (C := RX8) (T := TX8) (N := 26) rfl in_X8 tyX8_ok nmX8 (by decide) rfl rfl rfl wf_882 dX8_began_26 ?_
    cases h
    exact x_vret rH4 dX8_began_29
set_option maxRecDepth 100000 in
theorem ok_X8_plainSize {G : hp_G} (hG : hp_sh G = hp_shm) {l : Launch} (v1 : Int) (H : hp_H) (r1 : hp_r v1) (rH : hp_in H) (x : Int × hp_H) (h : f_X8_plainSize v1 H = some x) : hp_M G l yX8_plainSize cX8_plainSize 2 (some .int) (hp_rm 1) [.ref (hp_ad G 0), .int (hp_I v1)] H (some (.int (hp_I x.1))) x.2 (hp_r x.1 ∧ hp_in x.2) := by
  obtain ⟨r, H'⟩ := x
  unfold f_X8_plainSize at h
  refine hp_body "HeelPostModel" (by decide) rfl ⟨rfl, rfl⟩ (Nat.le_of_ble_eq_true rfl) ?_
  show hp_R G l cX8_plainSize 2 (some .int) "HeelPostModel" (hp_rm 1) (some (.int (hp_I r))) H' (hp_r r ∧ hp_in H') 0 [(0, .ref (hp_ad G 0)), (1, .int (hp_I v1))] [] H
  refine x_aload_n dX8_plainSize_0 0 rfl ?_
  refine x_bipush rfl dX8_plainSize_1 ?_
  obtain ⟨H2, g1, h⟩ := hp_b1_e h
  refine x_ivv (As := [.int (hp_I 10)]) (ok_X8_began hG 10 H (hp_rc rfl) rH _ g1) cal_X8_began (sm_0 hG) (by decide) (C := RX8) (T := TX8) (N := 26) rfl rfl ins_X8_began sel_X8_began wm_1265 (by decide) rfl rfl (Nat.le_of_ble_eq_true rfl) dX8_plainSize_3 (fun z9 => ?_)
  have rH2 := z9
  refine x_aload_n dX8_plainSize_6 0 rfl ?_
  refine x_getr 5 (sm_0 hG) (by decide) (C := RX8) (T := TX8) (N := 26) rfl in_X8 (by decide) rfl wf_862 dX8_plainSize_7 ?_
  refine x_iload_n dX8_plainSize_10 1 rfl ?_
  refine x_iconst dX8_plainSize_11 ?_
  obtain ⟨c4, g3, h⟩ := hp_b1_e h
  refine x_isi (As := [.ref (hp_ad G 4), .int (hp_I v1), .int (hp_I 3)]) (ok_X8_of hG 4 v1 3 H2 (sm_4 hG) (by decide) r1 (hp_rc rfl) rH2 _ g3) cal_X8_of stt_X8_of wm_1061 (by decide) rfl rfl (Nat.le_of_ble_eq_true rfl) dX8_plainSize_12 (fun z9 => ?_)
  have rc4 := z9
  cases h
  exact x_iret ⟨rc4, rH2⟩ dX8_plainSize_15
set_option maxRecDepth 100000 in
theorem ok_X8_maidSize {G : hp_G} (hG : hp_sh G = hp_shm) {l : Launch} (v1 : Int) (H : hp_H) (r1 : hp_r v1) (rH : hp_in H) (x : Int × hp_H) (h : f_X8_maidSize v1 H = some x) : hp_M G l yX8_maidSize cX8_maidSize 4 (some .int) (hp_rm 2) [.ref (hp_ad G 0), .int (hp_I v1)] H (some (.int (hp_I x.1))) x.2 (hp_r x.1 ∧ hp_in x.2) := by
  obtain ⟨r, H'⟩ := x
  unfold f_X8_maidSize at h
  refine hp_body "HeelPostModel" (by decide) rfl ⟨rfl, rfl⟩ (Nat.le_of_ble_eq_true rfl) ?_
  show hp_R G l cX8_maidSize 4 (some .int) "HeelPostModel" (hp_rm 2) (some (.int (hp_I r))) H' (hp_r r ∧ hp_in H') 0 [(0, .ref (hp_ad G 0)), (1, .int (hp_I v1))] [] H
  refine x_aload_n dX8_maidSize_0 0 rfl ?_
  refine x_getr 5 (sm_0 hG) (by decide) (C := RX8) (T := TX8) (N := 26) rfl in_X8 (by decide) rfl wf_862 dX8_maidSize_1 ?_
  refine x_iload_n dX8_maidSize_4 1 rfl ?_
  refine x_iconst dX8_maidSize_5 ?_
  obtain ⟨c2, g1, h⟩ := hp_b1_e h
  refine x_isi (As := [.ref (hp_ad G 4), .int (hp_I v1), .int (hp_I 0)]) (ok_X8_of hG 4 v1 0 H (sm_4 hG) (by decide) r1 (hp_rc rfl) rH _ g1) cal_X8_of stt_X8_of wm_1061 (by decide) rfl rfl (Nat.le_of_ble_eq_true rfl) dX8_maidSize_6 (fun z9 => ?_)
  have rc2 := z9
  refine x_iconst dX8_maidSize_9 ?_
  obtain ⟨m3, em3⟩ : ∃ z : Int, z = (if c2 = 5 then 1 else 0) := ⟨_, rfl⟩
  replace h := hp_let_e em3 h
  have rm3 := hp_re em3 (hp_rite (hp_rc rfl) (hp_rc rfl))
  have zm3 : m3 = 0 ∨ m3 = 1 := by rw [em3]; exact (hp_z01 (Or.inr rfl) (Or.inl rfl))
  have kj : hp_R G l cX8_maidSize 4 (some .int) "HeelPostModel" (hp_rm 2) (some (.int (hp_I r))) H' (hp_r r ∧ hp_in H') 18 [(0, .ref (hp_ad G 0)), (1, .int (hp_I v1))] [.int (hp_I m3)] H := by
    refine x_istore_n (L' := [(2, .int (hp_I m3)), (0, .ref (hp_ad G 0)), (1, .int (hp_I v1))]) dX8_maidSize_18 rfl (by decide) rfl ?_
    refine x_iload_n dX8_maidSize_19 0 rfl ?_
    obtain ⟨H4, hm5, h⟩ := hp_b1_e h
    have kj : hp_in H4 → hp_R G l cX8_maidSize 4 (some .int) "HeelPostModel" (hp_rm 2) (some (.int (hp_I r))) H' (hp_r r ∧ hp_in H') 29 [(0, .ref (hp_ad G 0)), (1, .int (hp_I v1)), (2, .int (hp_I m3))] [] H4 := by
      intro rH4
      refine x_aload_n dX8_maidSize_29 0 rfl ?_
      refine x_bipush rfl dX8_maidSize_30 ?_
      obtain ⟨H7, g6, h⟩ := hp_b1_e h
      refine x_ivv (As := [.int (hp_I 13)]) (ok_X8_began hG 13 H4 (hp_rc rfl) rH4 _ g6) cal_X8_began (sm_0 hG) (by decide) (C := RX8) (T := TX8) (N := 26) rfl rfl ins_X8_began sel_X8_began wm_1265 (by decide) rfl rfl (Nat.le_of_ble_eq_true rfl) dX8_maidSize_32 (fun z9 => ?_)
      have rH7 := z9
      refine x_aload_n dX8_maidSize_35 0 rfl ?_
      refine x_iload_n dX8_maidSize_36 1 rfl ?_
      obtain ⟨c9, H10, g8, h⟩ := hp_b2_e h
      refine x_ivi (As := [.int (hp_I v1)]) (ok_X8_plainSize hG v1 H7 r1 rH7 _ g8) cal_X8_plainSize (sm_0 hG) (by decide) (C := RX8) (T := TX8) (N := 26) rfl rfl ins_X8_plainSize sel_X8_plainSize wm_1269 (by decide) rfl rfl (Nat.le_of_ble_eq_true rfl) dX8_maidSize_37 (fun z9 => ?_)
      obtain ⟨rc9, rH10⟩ := z9
      refine x_bipush rfl dX8_maidSize_40 ?_
      refine x_isub dX8_maidSize_42 ?_
      obtain ⟨v3_11, ev3_11⟩ : ∃ z : Int, z = (hp_w (c9 - 100)) := ⟨_, rfl⟩
      replace h := hp_let_e ev3_11 h
      have rv3_11 := hp_re ev3_11 (hp_rw _)
      refine x_isnE (L' := [(3, .int (hp_I v3_11)), (0, .ref (hp_ad G 0)), (1, .int (hp_I v1)), (2, .int (hp_I m3))]) ev3_11 dX8_maidSize_43 rfl (by decide) rfl ?_
      refine x_iload_n dX8_maidSize_44 3 rfl ?_
      refine x_ifeq (tgt := 54) dX8_maidSize_45 (by decide) rm3 (fun hc12 => ?_) (fun hc12 => ?_)
      · replace h := hp_it hc12 h
        refine x_iload_n dX8_maidSize_54 0 rfl ?_
        cases h
        exact x_iret ⟨rv3_11, rH10⟩ dX8_maidSize_55
      · replace h := hp_if hc12 h
        refine x_iconst dX8_maidSize_48 ?_
        refine x_iload_n dX8_maidSize_49 0 rfl ?_
        refine x_imul dX8_maidSize_50 ?_
        refine x_goto (tgt := 55) dX8_maidSize_51 (by decide) ?_
        cases h
        exact x_iret ⟨(hp_rw _), rH10⟩ dX8_maidSize_55
    clear h
    have h := hm5
    clear hm5
    refine x_ifeq (tgt := 29) dX8_maidSize_20 (by decide) rm3 (fun hc13 => ?_) (fun hc13 => ?_)
    · replace h := hp_it hc13 h
      cases h
      exact x_sub [1, 2, 0] rfl (kj rH)
    · replace h := hp_if hc13 h
      refine x_aload_n dX8_maidSize_23 1 rfl ?_
      refine x_bipush rfl dX8_maidSize_24 ?_
      obtain ⟨H15, g14, h⟩ := hp_b1_e h
      refine x_ivv (As := [.int (hp_I 14)]) (ok_X8_began hG 14 H (hp_rc rfl) rH _ g14) cal_X8_began (sm_0 hG) (by decide) (C := RX8) (T := TX8) (N := 26) rfl rfl ins_X8_began sel_X8_began wm_1265 (by decide) rfl rfl (Nat.le_of_ble_eq_true rfl) dX8_maidSize_26 (fun z9 => ?_)
      have rH15 := z9
      cases h
      exact x_sub [1, 2, 0] rfl (kj rH15)
  clear h
  refine x_icne (tgt := 17) dX8_maidSize_10 (by decide) rc2 (hp_rc rfl) (fun hc16 => ?_) (fun hc16 => ?_)
  · refine x_iconst dX8_maidSize_17 ?_
    have q9 := (em3.trans (if_neg hc16))
    subst q9
    exact x_sub [0, 1] rfl kj
  · refine x_iconst dX8_maidSize_13 ?_
    refine x_goto (tgt := 18) dX8_maidSize_14 (by decide) ?_
    have q9 := (em3.trans (if_pos hc16))
    subst q9
    exact x_sub [0, 1] rfl kj
set_option maxRecDepth 100000 in
theorem ok_X8_markOf {G : hp_G} (hG : hp_sh G = hp_shm) {l : Launch} (v1 : Int) (H : hp_H) (r1 : hp_r v1) (rH : hp_in H) (x : Int × hp_H) (h : f_X8_markOf v1 H = some x) : hp_M G l yX8_markOf cX8_markOf 4 (some .int) (hp_rm 3) [.ref (hp_ad G 0), .int (hp_I v1)] H (some (.int (hp_I x.1))) x.2 (hp_r x.1 ∧ hp_in x.2) := by
  obtain ⟨r, H'⟩ := x
  unfold f_X8_markOf at h
  refine hp_body "HeelPostModel" (by decide) rfl ⟨rfl, rfl⟩ (Nat.le_of_ble_eq_true rfl) ?_
  show hp_R G l cX8_markOf 4 (some .int) "HeelPostModel" (hp_rm 3) (some (.int (hp_I r))) H' (hp_r r ∧ hp_in H') 0 [(0, .ref (hp_ad G 0)), (1, .int (hp_I v1))] [] H
  refine x_aload_n dX8_markOf_0 0 rfl ?_
  refine x_getr 5 (sm_0 hG) (by decide) (C := RX8) (T := TX8) (N := 26) rfl in_X8 (by decide) rfl wf_862 dX8_markOf_1 ?_
  refine x_iload_n dX8_markOf_4 1 rfl ?_
  refine x_iconst dX8_markOf_5 ?_
  obtain ⟨c2, g1, h⟩ := hp_b1_e h
  refine x_isi (As := [.ref (hp_ad G 4), .int (hp_I v1), .int (hp_I 0)]) (ok_X8_of hG 4 v1 0 H (sm_4 hG) (by decide) r1 (hp_rc rfl) rH _ g1) cal_X8_of stt_X8_of wm_1061 (by decide) rfl rfl (Nat.le_of_ble_eq_true rfl) dX8_markOf_6 (fun z9 => ?_)
  have rc2 := z9
  refine x_istore_n (L' := [(2, .int (hp_I c2)), (0, .ref (hp_ad G 0)), (1, .int (hp_I v1))]) dX8_markOf_9 rfl (by decide) rfl ?_
  refine x_iload_n dX8_markOf_10 0 rfl ?_
  refine x_iconst dX8_markOf_11 ?_
  refine x_iclt (tgt := 35) dX8_markOf_12 (by decide) rc2 (hp_rc rfl) (fun hc3 => ?_) (fun hc3 => ?_)
  · replace h := hp_it hc3 h
    refine x_iload_n dX8_markOf_35 0 rfl ?_
    refine x_iconst dX8_markOf_36 ?_
    obtain ⟨H4, hm5, h⟩ := hp_b1_e h
    have kj : hp_in H4 → hp_R G l cX8_markOf 4 (some .int) "HeelPostModel" (hp_rm 3) (some (.int (hp_I r))) H' (hp_r r ∧ hp_in H') 56 [(0, .ref (hp_ad G 0)), (1, .int (hp_I v1)), (2, .int (hp_I c2))] [] H4 := by
      intro rH4
      refine x_aload_n dX8_markOf_56 0 rfl ?_
      refine x_bipush rfl dX8_markOf_57 ?_
      obtain ⟨H7, g6, h⟩ := hp_b1_e h
      refine x_ivv (As := [.int (hp_I 21)]) (ok_X8_began hG 21 H4 (hp_rc rfl) rH4 _ g6) cal_X8_began (sm_0 hG) (by decide) (C := RX8) (T := TX8) (N := 26) rfl rfl ins_X8_began sel_X8_began wm_1265 (by decide) rfl rfl (Nat.le_of_ble_eq_true rfl) dX8_markOf_59 (fun z9 => ?_)
      have rH7 := z9
      refine x_aload_n dX8_markOf_62 0 rfl ?_
      refine x_bipush rfl dX8_markOf_63 ?_
      obtain ⟨H9, g8, h⟩ := hp_b1_e h
      refine x_ivv (As := [.int (hp_I 20)]) (ok_X8_began hG 20 H7 (hp_rc rfl) rH7 _ g8) cal_X8_began (sm_0 hG) (by decide) (C := RX8) (T := TX8) (N := 26) rfl rfl ins_X8_began sel_X8_began wm_1265 (by decide) rfl rfl (Nat.le_of_ble_eq_true rfl) dX8_markOf_65 (fun z9 => ?_)
      have rH9 := z9
      refine x_iload_n dX8_markOf_68 1 rfl ?_
      refine x_aload_n dX8_markOf_69 0 rfl ?_
      refine x_getr 5 (sm_0 hG) (by decide) (C := RX8) (T := TX8) (N := 26) rfl in_X8 (by decide) rfl wf_862 dX8_markOf_70 ?_
      refine x_iload_n dX8_markOf_73 1 rfl ?_
      refine x_aload_n dX8_markOf_74 0 rfl ?_
      refine x_getr 5 (sm_0 hG) (by decide) (C := RX8) (T := TX8) (N := 26) rfl in_X8 (by decide) rfl wf_862 dX8_markOf_75 ?_
      refine x_iconst dX8_markOf_78 ?_
      refine x_ia 41 rfl (sm_4 hG) (by decide) (Nat.le_of_ble_eq_true rfl) (by decide) dX8_markOf_79 ?_
      obtain ⟨c11, g10, h⟩ := hp_b1_e h
      refine x_isi (As := [.ref (hp_ad G 4), .int (hp_I v1), .int (hp_I (H9 4 3))]) (ok_X8_place hG 4 v1 (H9 4 3) H9 (sm_4 hG) (by decide) r1 (rH9 _ _) rH9 _ g10) cal_X8_place stt_X8_place wm_1058 (by decide) rfl rfl (Nat.le_of_ble_eq_true rfl) dX8_markOf_80 (fun z9 => ?_)
      have rc11 := z9
      refine x_iadd dX8_markOf_83 ?_
      obtain ⟨v3_12, ev3_12⟩ : ∃ z : Int, z = (hp_w (v1 + c11)) := ⟨_, rfl⟩
      replace h := hp_let_e ev3_12 h
      have rv3_12 := hp_re ev3_12 (hp_rw _)
      refine x_isnE (L' := [(3, .int (hp_I v3_12)), (0, .ref (hp_ad G 0)), (1, .int (hp_I v1)), (2, .int (hp_I c2))]) ev3_12 dX8_markOf_84 rfl (by decide) rfl ?_
      refine x_iload_n dX8_markOf_85 3 rfl ?_
      refine x_iconst dX8_markOf_86 ?_
      refine x_icne (tgt := 94) dX8_markOf_87 (by decide) rc2 (hp_rc rfl) (fun hc13 => ?_) (fun hc13 => ?_)
      · replace h := hp_if hc13 h
        refine x_iload_n dX8_markOf_94 3 rfl ?_
        refine x_iconst dX8_markOf_95 ?_
        refine x_icne (tgt := 107) dX8_markOf_96 (by decide) rc2 (hp_rc rfl) (fun hc14 => ?_) (fun hc14 => ?_)
        · replace h := hp_if hc14 h
          refine x_iconst dX8_markOf_107 ?_
          refine x_iload_n dX8_markOf_108 0 rfl ?_
          refine x_imul dX8_markOf_109 ?_
          cases h
          exact x_iret ⟨(hp_rw _), rH9⟩ dX8_markOf_110
        · replace h := hp_it hc14 h
          refine x_iload_n dX8_markOf_99 0 rfl ?_
          refine x_sipush rfl dX8_markOf_100 ?_
          refine x_isub dX8_markOf_103 ?_
          refine x_goto (tgt := 110) dX8_markOf_104 (by decide) ?_
          cases h
          exact x_iret ⟨(hp_rw _), rH9⟩ dX8_markOf_110
      · replace h := hp_it hc13 h
        refine x_iload_n dX8_markOf_90 0 rfl ?_
        refine x_goto (tgt := 110) dX8_markOf_91 (by decide) ?_
        cases h
        exact x_iret ⟨rv3_12, rH9⟩ dX8_markOf_110
    clear h
    have h := hm5
    clear hm5
    refine x_iceq (tgt := 56) dX8_markOf_37 (by decide) rc2 (hp_rc rfl) (fun hc15 => ?_) (fun hc15 => ?_)
    · replace h := hp_it hc15 h
      cases h
      exact x_sub [1, 2, 0] rfl (kj rH)
    · replace h := hp_if hc15 h
      refine x_aload_n dX8_markOf_40 1 rfl ?_
      refine x_iload_n dX8_markOf_41 0 rfl ?_
      refine x_iconst dX8_markOf_42 ?_
      obtain ⟨m16, em16⟩ : ∃ z : Int, z = (if c2 = 3 then 22 else 24) := ⟨_, rfl⟩
      replace h := hp_let_e em16 h
      have rm16 := hp_re em16 (hp_rite (hp_rc rfl) (hp_rc rfl))
      have kj : hp_R G l cX8_markOf 4 (some .int) "HeelPostModel" (hp_rm 3) (some (.int (hp_I r))) H' (hp_r r ∧ hp_in H') 53 [(0, .ref (hp_ad G 0)), (1, .int (hp_I v1)), (2, .int (hp_I c2))] [.int (hp_I m16), .ref (hp_ad G 0)] H := by
        obtain ⟨H18, g17, h⟩ := hp_b1_e h
        refine x_ivv (As := [.int (hp_I m16)]) (ok_X8_began hG m16 H rm16 rH _ g17) cal_X8_began (sm_0 hG) (by decide) (C := RX8) (T := TX8) (N := 26) rfl rfl ins_X8_began sel_X8_began wm_1265 (by decide) rfl rfl (Nat.le_of_ble_eq_true rfl) dX8_markOf_53 (fun z9 => ?_)
        have rH18 := z9
        cases h
        exact x_sub [0, 1, 2] rfl (kj rH18)
      clear h
      refine x_icne (tgt := 51) dX8_markOf_43 (by decide) rc2 (hp_rc rfl) (fun hc19 => ?_) (fun hc19 => ?_)
      · refine x_bipush rfl dX8_markOf_51 ?_
        have q9 := (em16.trans (if_neg hc19))
        subst q9
        exact x_sub [1, 2, 0] rfl kj
      · refine x_bipush rfl dX8_markOf_46 ?_
        refine x_goto (tgt := 53) dX8_markOf_48 (by decide) ?_
        have q9 := (em16.trans (if_pos hc19))
        subst q9
        exact x_sub [1, 2, 0] rfl kj
  · replace h := hp_if hc3 h
    refine x_aload_n dX8_markOf_15 1 rfl ?_
    refine x_bipush rfl dX8_markOf_16 ?_
    obtain ⟨H21, g20, h⟩ := hp_b1_e h
    refine x_ivv (As := [.int (hp_I 23)]) (ok_X8_began hG 23 H (hp_rc rfl) rH _ g20) cal_X8_began (sm_0 hG) (by decide) (C := RX8) (T := TX8) (N := 26) rfl rfl ins_X8_began sel_X8_began wm_1265 (by decide) rfl rfl (Nat.le_of_ble_eq_true rfl) dX8_markOf_18 (fun z9 => ?_)
    have rH21 := z9
    refine x_aload_n dX8_markOf_21 1 rfl ?_
    refine x_bipush rfl dX8_markOf_22 ?_
    obtain ⟨H23, g22, h⟩ := hp_b1_e h
    refine x_ivv (As := [.int (hp_I 20)]) (ok_X8_began hG 20 H21 (hp_rc rfl) rH21 _ g22) cal_X8_began (sm_0 hG) (by decide) (C := RX8) (T := TX8) (N := 26) rfl rfl ins_X8_began sel_X8_began wm_1265 (by decide) rfl rfl (Nat.le_of_ble_eq_true rfl) dX8_markOf_24 (fun z9 => ?_)
    have rH23 := z9
    refine x_iload_n dX8_markOf_27 2 rfl ?_
    refine x_aload_n dX8_markOf_28 1 rfl ?_
    refine x_iload_n dX8_markOf_29 2 rfl ?_
    obtain ⟨c25, H26, g24, h⟩ := hp_b2_e h
    refine x_ivi (As := [.int (hp_I v1)]) (ok_X8_maidSize hG v1 H23 r1 rH23 _ g24) cal_X8_maidSize (sm_0 hG) (by decide) (C := RX8) (T := TX8) (N := 26) rfl rfl ins_X8_maidSize sel_X8_maidSize wm_1261 (by decide) rfl rfl (Nat.le_of_ble_eq_true rfl) dX8_markOf_30 (fun z9 => ?_)
    obtain ⟨rc25, rH26⟩ := z9
    refine x_isub dX8_markOf_33 ?_
    cases h
    exact x_iret ⟨(hp_rw _), rH26⟩ dX8_markOf_34
set_option maxRecDepth 100000 in
theorem ok_X8_sizeOf {G : hp_G} (hG : hp_sh G = hp_shm) {l : Launch} (v1 : Int) (H : hp_H) (r1 : hp_r v1) (rH : hp_in H) (x : Int × hp_H) (h : f_X8_sizeOf v1 H = some x) : hp_M G l yX8_sizeOf cX8_sizeOf 4 (some .int) (hp_rm 4) [.ref (hp_ad G 0), .int (hp_I v1)] H (some (.int (hp_I x.1))) x.2 (hp_r x.1 ∧ hp_in x.2) := by
  obtain ⟨r, H'⟩ := x
  unfold f_X8_sizeOf at h
  refine hp_body "HeelPostModel" (by decide) rfl ⟨rfl, rfl⟩ (Nat.le_of_ble_eq_true rfl) ?_
  show hp_R G l cX8_sizeOf 4 (some .int) "HeelPostModel" (hp_rm 4) (some (.int (hp_I r))) H' (hp_r r ∧ hp_in H') 0 [(0, .ref (hp_ad G 0)), (1, .int (hp_I v1))] [] H
  refine x_aload_n dX8_sizeOf_0 0 rfl ?_
  refine x_getr 5 (sm_0 hG) (by decide) (C := RX8) (T := TX8) (N := 26) rfl in_X8 (by decide) rfl wf_862 dX8_sizeOf_1 ?_
  refine x_iload_n dX8_sizeOf_4 1 rfl ?_
  refine x_iconst dX8_sizeOf_5 ?_
  obtain ⟨c2, g1, h⟩ := hp_b1_e h
  refine x_isi (As := [.ref (hp_ad G 4), .int (hp_I v1), .int (hp_I 0)]) (ok_X8_of hG 4 v1 0 H (sm_4 hG) (by decide) r1 (hp_rc rfl) rH _ g1) cal_X8_of stt_X8_of wm_1061 (by decide) rfl rfl (Nat.le_of_ble_eq_true rfl) dX8_sizeOf_6 (fun z9 => ?_)
  have rc2 := z9
  refine x_istore_n (L' := [(2, .int (hp_I c2)), (0, .ref (hp_ad G 0)), (1, .int (hp_I v1))]) dX8_sizeOf_9 rfl (by decide) rfl ?_
  refine x_iload_n dX8_sizeOf_10 0 rfl ?_
  refine x_iconst dX8_sizeOf_11 ?_
  refine x_iclt (tgt := 21) dX8_sizeOf_12 (by decide) rc2 (hp_rc rfl) (fun hc3 => ?_) (fun hc3 => ?_)
  · replace h := hp_it hc3 h
    refine x_iload_n dX8_sizeOf_21 0 rfl ?_
    refine x_iconst dX8_sizeOf_22 ?_
    obtain ⟨H4, hm5, h⟩ := hp_b1_e h
    have kj : hp_in H4 → hp_R G l cX8_sizeOf 4 (some .int) "HeelPostModel" (hp_rm 4) (some (.int (hp_I r))) H' (hp_r r ∧ hp_in H') 32 [(0, .ref (hp_ad G 0)), (1, .int (hp_I v1)), (2, .int (hp_I c2))] [] H4 := by
      intro rH4
      refine x_aload_n dX8_sizeOf_32 0 rfl ?_
      refine x_bipush rfl dX8_sizeOf_33 ?_
      obtain ⟨H7, g6, h⟩ := hp_b1_e h
      refine x_ivv (As := [.int (hp_I 11)]) (ok_X8_began hG 11 H4 (hp_rc rfl) rH4 _ g6) cal_X8_began (sm_0 hG) (by decide) (C := RX8) (T := TX8) (N := 26) rfl rfl ins_X8_began sel_X8_began wm_1265 (by decide) rfl rfl (Nat.le_of_ble_eq_true rfl) dX8_sizeOf_35 (fun z9 => ?_)
      have rH7 := z9
      refine x_aload_n dX8_sizeOf_38 0 rfl ?_
      refine x_iload_n dX8_sizeOf_39 1 rfl ?_
      obtain ⟨c9, H10, g8, h⟩ := hp_b2_e h
      refine x_ivi (As := [.int (hp_I v1)]) (ok_X8_plainSize hG v1 H7 r1 rH7 _ g8) cal_X8_plainSize (sm_0 hG) (by decide) (C := RX8) (T := TX8) (N := 26) rfl rfl ins_X8_plainSize sel_X8_plainSize wm_1269 (by decide) rfl rfl (Nat.le_of_ble_eq_true rfl) dX8_sizeOf_40 (fun z9 => ?_)
      obtain ⟨rc9, rH10⟩ := z9
      refine x_istore_n (L' := [(3, .int (hp_I c9)), (0, .ref (hp_ad G 0)), (1, .int (hp_I v1)), (2, .int (hp_I c2))]) dX8_sizeOf_43 rfl (by decide) rfl ?_
      refine x_iload_n dX8_sizeOf_44 0 rfl ?_
      refine x_aload_n dX8_sizeOf_45 1 rfl ?_
      refine x_iload_n dX8_sizeOf_46 2 rfl ?_
      obtain ⟨c12, H13, g11, h⟩ := hp_b2_e h
      refine x_ivi (As := [.int (hp_I v1)]) (ok_X8_markOf hG v1 H10 r1 rH10 _ g11) cal_X8_markOf (sm_0 hG) (by decide) (C := RX8) (T := TX8) (N := 26) rfl rfl ins_X8_markOf sel_X8_markOf wm_1273 (by decide) rfl rfl (Nat.le_of_ble_eq_true rfl) dX8_sizeOf_47 (fun z9 => ?_)
      obtain ⟨rc12, rH13⟩ := z9
      refine x_iadd dX8_sizeOf_50 ?_
      obtain ⟨v3_14, ev3_14⟩ : ∃ z : Int, z = (hp_w (c9 + c12)) := ⟨_, rfl⟩
      replace h := hp_let_e ev3_14 h
      have rv3_14 := hp_re ev3_14 (hp_rw _)
      refine x_isnE (L' := [(3, .int (hp_I v3_14)), (0, .ref (hp_ad G 0)), (1, .int (hp_I v1)), (2, .int (hp_I c2))]) ev3_14 dX8_sizeOf_51 rfl (by decide) rfl ?_
      refine x_iload_n dX8_sizeOf_52 3 rfl ?_
      refine x_iconst dX8_sizeOf_53 ?_
      refine x_icne (tgt := 62) dX8_sizeOf_54 (by decide) rc2 (hp_rc rfl) (fun hc15 => ?_) (fun hc15 => ?_)
      · replace h := hp_if hc15 h
        refine x_iload_n dX8_sizeOf_62 0 rfl ?_
        cases h
        exact x_iret ⟨rv3_14, rH13⟩ dX8_sizeOf_63
      · replace h := hp_it hc15 h
        refine x_iload_n dX8_sizeOf_57 0 rfl ?_
        refine x_ineg dX8_sizeOf_58 ?_
        refine x_goto (tgt := 63) dX8_sizeOf_59 (by decide) ?_
        cases h
        exact x_iret ⟨(hp_rw _), rH13⟩ dX8_sizeOf_63
    clear h
    have h := hm5
    clear hm5
    refine x_icne (tgt := 32) dX8_sizeOf_23 (by decide) rc2 (hp_rc rfl) (fun hc16 => ?_) (fun hc16 => ?_)
    · replace h := hp_if hc16 h
      cases h
      exact x_sub [1, 2, 0] rfl (kj rH)
    · replace h := hp_it hc16 h
      refine x_aload_n dX8_sizeOf_26 1 rfl ?_
      refine x_bipush rfl dX8_sizeOf_27 ?_
      obtain ⟨H18, g17, h⟩ := hp_b1_e h
      refine x_ivv (As := [.int (hp_I 12)]) (ok_X8_began hG 12 H (hp_rc rfl) rH _ g17) cal_X8_began (sm_0 hG) (by decide) (C := RX8) (T := TX8) (N := 26) rfl rfl ins_X8_began sel_X8_began wm_1265 (by decide) rfl rfl (Nat.le_of_ble_eq_true rfl) dX8_sizeOf_29 (fun z9 => ?_)
      have rH18 := z9
      cases h
      exact x_sub [1, 2, 0] rfl (kj rH18)
  · replace h := hp_if hc3 h
    refine x_aload_n dX8_sizeOf_15 1 rfl ?_
    refine x_iload_n dX8_sizeOf_16 2 rfl ?_
    obtain ⟨c20, H21, g19, h⟩ := hp_b2_e h
    refine x_ivi (As := [.int (hp_I v1)]) (ok_X8_maidSize hG v1 H r1 rH _ g19) cal_X8_maidSize (sm_0 hG) (by decide) (C := RX8) (T := TX8) (N := 26) rfl rfl ins_X8_maidSize sel_X8_maidSize wm_1261 (by decide) rfl rfl (Nat.le_of_ble_eq_true rfl) dX8_sizeOf_17 (fun z9 => ?_)
    obtain ⟨rc20, rH21⟩ := z9
    cases h
    exact x_iret ⟨rc20, rH21⟩ dX8_sizeOf_20
set_option maxRecDepth 100000 in
theorem ok_X8_ask {G : hp_G} (hG : hp_sh G = hp_shm) {l : Launch} (v1 : Int) (v2 : Int) (H : hp_H) (r1 : hp_r v1) (r2 : hp_r v2) (rH : hp_in H) (x : Int × hp_H) (h : f_X8_ask v1 v2 H = some x) : hp_M G l yX8_ask cX8_ask 3 (some .int) (hp_rm 5) [.ref (hp_ad G 0), .int (hp_I v1), .int (hp_I v2)] H (some (.int (hp_I x.1))) x.2 (hp_r x.1 ∧ hp_in x.2) := by
  obtain ⟨r, H'⟩ := x
  unfold f_X8_ask at h
  refine hp_body "HeelPostModel" (by decide) rfl ⟨rfl, rfl⟩ (Nat.le_of_ble_eq_true rfl) ?_
  show hp_R G l cX8_ask 3 (some .int) "HeelPostModel" (hp_rm 5) (some (.int (hp_I r))) H' (hp_r r ∧ hp_in H') 0 [(0, .ref (hp_ad G 0)), (1, .int (hp_I v1)), (2, .int (hp_I v2))] [] H
  refine x_aload_n dX8_ask_0 0 rfl ?_
  refine x_iconst dX8_ask_1 ?_
  obtain ⟨H1, eH1⟩ : ∃ z : hp_H, z = hp_up H 0 0 0 := ⟨_, rfl⟩
  replace h := hp_let_e eH1 h
  have rH1 := hp_ine eH1 (hp_in_up rH (hp_rc rfl))
  refine x_pi 0 0 rfl tyX8 eH1 (sm_0 hG) (by decide) (C := RX8) (T := TX8) (N := 26) rfl in_X8 tyX8_ok nmX8 (by decide) rfl rfl rfl wf_857 dX8_ask_2 ?_
  refine x_aload_n dX8_ask_5 0 rfl ?_
  refine x_iload_n dX8_ask_6 1 rfl ?_
  obtain ⟨c3, g2, h⟩ := hp_b1_e h
  refine x_ivi (As := [.int (hp_I v1)]) (ok_X8_isPerson hG v1 H1 r1 rH1 _ g2) cal_X8_isPerson (sm_0 hG) (by decide) (C := RX8) (T := TX8) (N := 26) rfl rfl ins_X8_isPerson sel_X8_isPerson wm_1100 (by decide) rfl rfl (Nat.le_of_ble_eq_true rfl) dX8_ask_7 (fun z9 => ?_)
  have rc3 := z9
  refine x_ifeq (tgt := 23) dX8_ask_10 (by decide) rc3 (fun hc4 => ?_) (fun hc4 => ?_)
  · replace h := hp_it hc4 h
    refine x_ldc (x := (-1000001)) wc_949 rfl dX8_ask_23 ?_
    cases h
    exact x_iret ⟨(hp_rc rfl), rH1⟩ dX8_ask_25
  · replace h := hp_if hc4 h
    refine x_iload_n dX8_ask_13 2 rfl ?_
    refine x_i2l r2 dX8_ask_14 ?_
    refine x_lconst (x := 0) rfl dX8_ask_15 ?_
    refine x_lconst (x := 1) rfl dX8_ask_16 ?_
    obtain ⟨c6, g5, h⟩ := hp_b1_e h
    refine x_isi (As := [.long (hp_J v2), .long (hp_J 0), .long (hp_J 1)]) (ok_X8_in hG v2 0 1 H1 (hp_rrl r2) (hp_rlc rfl) (hp_rlc rfl) rH1 _ g5) cal_X8_in stt_X8_in wm_945 (by decide) rfl rfl (Nat.le_of_ble_eq_true rfl) dX8_ask_17 (fun z9 => ?_)
    have rc6 := z9
    refine x_ifne (tgt := 26) dX8_ask_20 (by decide) rc6 (fun hc7 => ?_) (fun hc7 => ?_)
    · replace h := hp_if hc7 h
      refine x_aload_n dX8_ask_26 0 rfl ?_
      refine x_iconst dX8_ask_27 ?_
      obtain ⟨H8, eH8⟩ : ∃ z : hp_H, z = hp_up H1 0 25 0 := ⟨_, rfl⟩
      replace h := hp_let_e eH8 h
      have rH8 := hp_ine eH8 (hp_in_up rH1 (hp_rc rfl))
      refine x_pi 25 25 rfl tyX8 eH8 (sm_0 hG) (by decide) (C := RX8) (T := TX8) (N := 26) rfl in_X8 tyX8_ok nmX8 (by decide) rfl rfl rfl wf_882 dX8_ask_28 ?_
      refine x_iload_n dX8_ask_31 2 rfl ?_
      refine x_ifne (tgt := 43) dX8_ask_32 (by decide) r2 (fun hc9 => ?_) (fun hc9 => ?_)
      · replace h := hp_if hc9 h
        refine x_aload_n dX8_ask_43 0 rfl ?_
        refine x_iload_n dX8_ask_44 1 rfl ?_
        obtain ⟨c14, H15, g13, h⟩ := hp_b2_e h
        refine x_ivi (As := [.int (hp_I v1)]) (ok_X8_markOf hG v1 H8 r1 rH8 _ g13) cal_X8_markOf (sm_0 hG) (by decide) (C := RX8) (T := TX8) (N := 26) rfl rfl ins_X8_markOf sel_X8_markOf wm_1273 (by decide) rfl rfl (Nat.le_of_ble_eq_true rfl) dX8_ask_45 (fun z9 => ?_)
        obtain ⟨rc14, rH15⟩ := z9
        cases h
        exact x_iret ⟨rc14, rH15⟩ dX8_ask_48
      · replace h := hp_it hc9 h
        refine x_aload_n dX8_ask_35 0 rfl ?_
        refine x_iload_n dX8_ask_36 1 rfl ?_
        obtain ⟨c11, H12, g10, h⟩ := hp_b2_e h
        refine x_ivi (As := [.int (hp_I v1)]) (ok_X8_sizeOf hG v1 H8 r1 rH8 _ g10) cal_X8_sizeOf (sm_0 hG) (by decide) (C := RX8) (T := TX8) (N := 26) rfl rfl ins_X8_sizeOf sel_X8_sizeOf wm_1257 (by decide) rfl rfl (Nat.le_of_ble_eq_true rfl) dX8_ask_37 (fun z9 => ?_)
        obtain ⟨rc11, rH12⟩ := z9
        refine x_goto (tgt := 48) dX8_ask_40 (by decide) ?_
        cases h
        exact x_iret ⟨rc11, rH12⟩ dX8_ask_48
    · replace h := hp_it hc7 h
      refine x_ldc (x := (-1000001)) wc_949 rfl dX8_ask_23 ?_
      cases h
      exact x_iret ⟨(hp_rc rfl), rH1⟩ dX8_ask_25
set_option maxRecDepth 100000 in
theorem ok_X8_trace {G : hp_G} (hG : hp_sh G = hp_shm) {l : Launch} (v1 : Int) (H : hp_H) (r1 : hp_r v1) (rH : hp_in H) (x : Int × hp_H) (h : f_X8_trace v1 H = some x) : hp_M G l yX8_trace cX8_trace 2 (some .int) (hp_rm 1) [.ref (hp_ad G 0), .int (hp_I v1)] H (some (.int (hp_I x.1))) x.2 (hp_r x.1 ∧ hp_in x.2) := by
  obtain ⟨r, H'⟩ := x
  unfold f_X8_trace at h
  refine hp_body "HeelPostModel" (by decide) rfl ⟨rfl, rfl⟩ (Nat.le_of_ble_eq_true rfl) ?_
  show hp_R G l cX8_trace 2 (some .int) "HeelPostModel" (hp_rm 1) (some (.int (hp_I r))) H' (hp_r r ∧ hp_in H') 0 [(0, .ref (hp_ad G 0)), (1, .int (hp_I v1))] [] H
  refine x_aload_n dX8_trace_0 0 rfl ?_
  refine x_iconst dX8_trace_1 ?_
  obtain ⟨H1, eH1⟩ : ∃ z : hp_H, z = hp_up H 0 0 0 := ⟨_, rfl⟩
  replace h := hp_let_e eH1 h
  have rH1 := hp_ine eH1 (hp_in_up rH (hp_rc rfl))
  refine x_pi 0 0 rfl tyX8 eH1 (sm_0 hG) (by decide) (C := RX8) (T := TX8) (N := 26) rfl in_X8 tyX8_ok nmX8 (by decide) rfl rfl rfl wf_857 dX8_trace_2 ?_
  refine x_iload_n dX8_trace_5 1 rfl ?_
  refine x_i2l r1 dX8_trace_6 ?_
  refine x_lconst (x := 0) rfl dX8_trace_7 ?_
  refine x_aload_n dX8_trace_8 0 rfl ?_
  refine x_gi 25 25 rfl (sm_0 hG) (by decide) (C := RX8) (T := TX8) (N := 26) rfl in_X8 (by decide) rfl wf_882 dX8_trace_9 ?_
  refine x_iconst dX8_trace_12 ?_
  refine x_isub dX8_trace_13 ?_
  refine x_i2l (hp_rw _) dX8_trace_14 ?_
  obtain ⟨c3, g2, h⟩ := hp_b1_e h
  refine x_isi (As := [.long (hp_J v1), .long (hp_J 0), .long (hp_J (hp_w ((H1 0 25) - 1)))]) (ok_X8_in hG v1 0 (hp_w ((H1 0 25) - 1)) H1 (hp_rrl r1) (hp_rlc rfl) (hp_rrl (hp_rw _)) rH1 _ g2) cal_X8_in stt_X8_in wm_945 (by decide) rfl rfl (Nat.le_of_ble_eq_true rfl) dX8_trace_15 (fun z9 => ?_)
  have rc3 := z9
  refine x_ifeq (tgt := 30) dX8_trace_18 (by decide) rc3 (fun hc4 => ?_) (fun hc4 => ?_)
  · replace h := hp_it hc4 h
    refine x_ldc (x := (-1000000)) wc_989 rfl dX8_trace_30 ?_
    cases h
    exact x_iret ⟨(hp_rc rfl), rH1⟩ dX8_trace_32
  · replace h := hp_if hc4 h
    refine x_aload_n dX8_trace_21 0 rfl ?_
    refine x_getr 24 (sm_0 hG) (by decide) (C := RX8) (T := TX8) (N := 26) rfl in_X8 (by decide) rfl wf_881 dX8_trace_22 ?_
    refine x_iload_n dX8_trace_25 1 rfl ?_
    obtain ⟨b5, h⟩ := hp_ck_e h
    refine x_ia 16 rfl (sm_14 hG) (by decide) (Nat.le_of_ble_eq_true rfl) b5 dX8_trace_26 ?_
    refine x_goto (tgt := 32) dX8_trace_27 (by decide) ?_
    cases h
    exact x_iret ⟨(rH1 _ _), rH1⟩ dX8_trace_32
set_option maxRecDepth 100000 in
theorem ok_X8_count_58 {G : hp_G} (hG : hp_sh G = hp_shm) {l : Launch} {vv : Option Value} {H' : hp_H} {Z : Prop} : ∀ (n : Nat) (v2 : Int) (v3 : Int) (H : hp_H), hp_r v2 → hp_r v3 → hp_in H → ∀ m2 : Int, f_X8_count_58 n v2 v3 H = some m2 → (hp_r m2 → hp_R G l cX8_count 4 (some .int) "HeelPostModel" (hp_rm 3) vv H' Z 87 [(2, .int (hp_I m2))] [] H) → hp_R G l cX8_count 4 (some .int) "HeelPostModel" (hp_rm 3) vv H' Z 58 [(0, .ref (hp_ad G 0)), (2, .int (hp_I v2)), (3, .int (hp_I v3))] [] H := by
  intro n
  induction n with
  | zero =>
    intro v2 v3 H r2 r3 rH m2 h kx
    exact hp_no h
  | succ n ih =>
    intro v2 v3 H r2 r3 rH m2 h kx
    unfold f_X8_count_58 at h
    refine x_iload_n dX8_count_58 2 rfl ?_
    refine x_bipush rfl dX8_count_59 ?_
    refine x_icge (tgt := 87) dX8_count_61 (by decide) r3 (hp_rc rfl) (fun hc3 => ?_) (fun hc3 => ?_)
    · replace h := hp_if hc3 h
      cases h
      exact x_sub [1] rfl (kx r2)
    · replace h := hp_it hc3 h
      refine x_iload_n dX8_count_64 1 rfl ?_
      refine x_aload_n dX8_count_65 0 rfl ?_
      refine x_getr 2 (sm_0 hG) (by decide) (C := RX8) (T := TX8) (N := 26) rfl in_X8 (by decide) rfl wf_859 dX8_count_66 ?_
      refine x_iload_n dX8_count_69 2 rfl ?_
      obtain ⟨b4, h⟩ := hp_ck_e h
      refine x_ia 8 rfl (sm_1 hG) (by decide) (Nat.le_of_ble_eq_true rfl) b4 dX8_count_70 ?_
      obtain ⟨m5, em5⟩ : ∃ z : Int, z = (if (H 1 v3) < 0 then 0 else 1) := ⟨_, rfl⟩
      replace h := hp_let_e em5 h
      have rm5 := hp_re em5 (hp_rite (hp_rc rfl) (hp_rc rfl))
      have zm5 : m5 = 0 ∨ m5 = 1 := by rw [em5]; exact (hp_z01 (Or.inl rfl) (Or.inr rfl))
      have kj : hp_R G l cX8_count 4 (some .int) "HeelPostModel" (hp_rm 3) vv H' Z 79 [(0, .ref (hp_ad G 0)), (3, .int (hp_I v3))] [.int (hp_I m5), .int (hp_I v2)] H := by
        refine x_iadd dX8_count_79 ?_
        obtain ⟨v2_6, ev2_6⟩ : ∃ z : Int, z = (hp_w (v2 + m5)) := ⟨_, rfl⟩
        replace h := hp_let_e ev2_6 h
        have rv2_6 := hp_re ev2_6 (hp_rw _)
        refine x_isnE (L' := [(2, .int (hp_I v2_6)), (0, .ref (hp_ad G 0)), (3, .int (hp_I v3))]) ev2_6 dX8_count_80 rfl (by decide) rfl ?_
        obtain ⟨v3_7, ev3_7⟩ : ∃ z : Int, z = (hp_w (v3 + 1)) := ⟨_, rfl⟩
        replace h := hp_let_e ev3_7 h
        have rv3_7 := hp_re ev3_7 (hp_rw _)
        refine x_iiE (L' := [(3, .int (hp_I v3_7)), (2, .int (hp_I v2_6)), (0, .ref (hp_ad G 0))]) ev3_7 dX8_count_81 2 rfl (by decide) rfl ?_
        refine x_goto (tgt := 58) dX8_count_84 (by decide) ?_
        exact x_sub [2, 1, 0] rfl (ih v2_6 v3_7 H rv2_6 rv3_7 rH _ h kx)
      clear h
      refine x_iflt (tgt := 78) dX8_count_71 (by decide) (rH _ _) (fun hc8 => ?_) (fun hc8 => ?_)
      · refine x_iconst dX8_count_78 ?_
        have q9 := (em5.trans (if_pos hc8))
        subst q9
        exact x_sub [0, 2] rfl kj
      · refine x_iconst dX8_count_74 ?_
        refine x_goto (tgt := 79) dX8_count_75 (by decide) ?_
        have q9 := (em5.trans (if_neg hc8))
        subst q9
        exact x_sub [0, 2] rfl kj
set_option maxRecDepth 100000 in
theorem ok_X8_count {G : hp_G} (hG : hp_sh G = hp_shm) {l : Launch} (v1 : Int) (H : hp_H) (r1 : hp_r v1) (rH : hp_in H) (x : Int × hp_H) (h : f_X8_count v1 H = some x) : hp_M G l yX8_count cX8_count 4 (some .int) (hp_rm 3) [.ref (hp_ad G 0), .int (hp_I v1)] H (some (.int (hp_I x.1))) x.2 (hp_r x.1 ∧ hp_in x.2) := by
  obtain ⟨r, H'⟩ := x
  unfold f_X8_count at h
  refine hp_body "HeelPostModel" (by decide) rfl ⟨rfl, rfl⟩ (Nat.le_of_ble_eq_true rfl) ?_
  show hp_R G l cX8_count 4 (some .int) "HeelPostModel" (hp_rm 3) (some (.int (hp_I r))) H' (hp_r r ∧ hp_in H') 0 [(0, .ref (hp_ad G 0)), (1, .int (hp_I v1))] [] H
  refine x_aload_n dX8_count_0 0 rfl ?_
  refine x_iconst dX8_count_1 ?_
  obtain ⟨H1, eH1⟩ : ∃ z : hp_H, z = hp_up H 0 0 0 := ⟨_, rfl⟩
  replace h := hp_let_e eH1 h
  have rH1 := hp_ine eH1 (hp_in_up rH (hp_rc rfl))
  refine x_pi 0 0 rfl tyX8 eH1 (sm_0 hG) (by decide) (C := RX8) (T := TX8) (N := 26) rfl in_X8 tyX8_ok nmX8 (by decide) rfl rfl rfl wf_857 dX8_count_2 ?_
  refine x_iconst dX8_count_5 ?_
  refine x_istore_n (L' := [(2, .int (hp_I 0)), (0, .ref (hp_ad G 0)), (1, .int (hp_I v1))]) dX8_count_6 rfl (by decide) rfl ?_
  refine x_iload_n dX8_count_7 2 rfl ?_
  by_cases hc2 : v1 = 0
  · replace h := hp_it hc2 h
    refine x_tabin (tgt := 56) 0 dX8_count_8 r1 hc2 (by decide) (by decide) rfl (by decide) ?_
    refine x_iconst dX8_count_56 ?_
    refine x_istore_n (L' := [(3, .int (hp_I 0)), (2, .int (hp_I 0)), (0, .ref (hp_ad G 0)), (1, .int (hp_I v1))]) dX8_count_57 rfl (by decide) rfl ?_
    obtain ⟨v2_9, g10, h⟩ := hp_b1_e h
    refine x_sub [2, 1, 0] rfl (ok_X8_count_58 hG 1000 0 0 H1 (hp_rc rfl) (hp_rc rfl) rH1 _ g10 ?_)
    intro rv2_9
    refine x_iload_n dX8_count_87 0 rfl ?_
    cases h
    exact x_iret ⟨rv2_9, rH1⟩ dX8_count_88
  replace h := hp_if hc2 h
  by_cases hc11 : v1 = 1
  · replace h := hp_it hc11 h
    refine x_tabin (tgt := 89) 1 dX8_count_8 r1 hc11 (by decide) (by decide) rfl (by decide) ?_
    refine x_aload_n dX8_count_89 1 rfl ?_
    refine x_getr 5 (sm_0 hG) (by decide) (C := RX8) (T := TX8) (N := 26) rfl in_X8 (by decide) rfl wf_862 dX8_count_90 ?_
    refine x_iconst dX8_count_93 ?_
    refine x_ia 41 rfl (sm_4 hG) (by decide) (Nat.le_of_ble_eq_true rfl) (by decide) dX8_count_94 ?_
    cases h
    exact x_iret ⟨(rH1 _ _), rH1⟩ dX8_count_95
  replace h := hp_if hc11 h
  by_cases hc12 : v1 = 2
  · replace h := hp_it hc12 h
    refine x_tabin (tgt := 96) 2 dX8_count_8 r1 hc12 (by decide) (by decide) rfl (by decide) ?_
    refine x_aload_n dX8_count_96 1 rfl ?_
    refine x_getr 5 (sm_0 hG) (by decide) (C := RX8) (T := TX8) (N := 26) rfl in_X8 (by decide) rfl wf_862 dX8_count_97 ?_
    refine x_iconst dX8_count_100 ?_
    refine x_ia 41 rfl (sm_4 hG) (by decide) (Nat.le_of_ble_eq_true rfl) (by decide) dX8_count_101 ?_
    cases h
    exact x_iret ⟨(rH1 _ _), rH1⟩ dX8_count_102
  replace h := hp_if hc12 h
  by_cases hc13 : v1 = 3
  · replace h := hp_it hc13 h
    refine x_tabin (tgt := 103) 3 dX8_count_8 r1 hc13 (by decide) (by decide) rfl (by decide) ?_
    refine x_aload_n dX8_count_103 1 rfl ?_
    refine x_getr 5 (sm_0 hG) (by decide) (C := RX8) (T := TX8) (N := 26) rfl in_X8 (by decide) rfl wf_862 dX8_count_104 ?_
    refine x_iconst dX8_count_107 ?_
    refine x_ia 41 rfl (sm_4 hG) (by decide) (Nat.le_of_ble_eq_true rfl) (by decide) dX8_count_108 ?_
    cases h
    exact x_iret ⟨(rH1 _ _), rH1⟩ dX8_count_109
  replace h := hp_if hc13 h
  by_cases hc14 : v1 = 4
  · replace h := hp_it hc14 h
    refine x_tabin (tgt := 110) 4 dX8_count_8 r1 hc14 (by decide) (by decide) rfl (by decide) ?_
    refine x_aload_n dX8_count_110 1 rfl ?_
    refine x_getr 5 (sm_0 hG) (by decide) (C := RX8) (T := TX8) (N := 26) rfl in_X8 (by decide) rfl wf_862 dX8_count_111 ?_
    obtain ⟨c16, g15, h⟩ := hp_b1_e h
    refine x_isi (As := [.ref (hp_ad G 4)]) (ok_X8_outs hG 4 H1 (sm_4 hG) (by decide) rH1 _ g15) cal_X8_outs stt_X8_outs wm_1089 (by decide) rfl rfl (Nat.le_of_ble_eq_true rfl) dX8_count_114 (fun z9 => ?_)
    have rc16 := z9
    cases h
    exact x_iret ⟨rc16, rH1⟩ dX8_count_117
  replace h := hp_if hc14 h
  by_cases hc17 : v1 = 5
  · replace h := hp_it hc17 h
    refine x_tabin (tgt := 118) 5 dX8_count_8 r1 hc17 (by decide) (by decide) rfl (by decide) ?_
    refine x_aload_n dX8_count_118 1 rfl ?_
    refine x_getr 5 (sm_0 hG) (by decide) (C := RX8) (T := TX8) (N := 26) rfl in_X8 (by decide) rfl wf_862 dX8_count_119 ?_
    refine x_iconst dX8_count_122 ?_
    refine x_ia 41 rfl (sm_4 hG) (by decide) (Nat.le_of_ble_eq_true rfl) (by decide) dX8_count_123 ?_
    cases h
    exact x_iret ⟨(rH1 _ _), rH1⟩ dX8_count_124
  replace h := hp_if hc17 h
  by_cases hc18 : v1 = 6
  · replace h := hp_it hc18 h
    refine x_tabin (tgt := 125) 6 dX8_count_8 r1 hc18 (by decide) (by decide) rfl (by decide) ?_
    refine x_aload_n dX8_count_125 1 rfl ?_
    refine x_gi 9 9 rfl (sm_0 hG) (by decide) (C := RX8) (T := TX8) (N := 26) rfl in_X8 (by decide) rfl wf_866 dX8_count_126 ?_
    cases h
    exact x_iret ⟨(rH1 _ _), rH1⟩ dX8_count_129
  replace h := hp_if hc18 h
  by_cases hc19 : v1 = 7
  · replace h := hp_it hc19 h
    refine x_tabin (tgt := 130) 7 dX8_count_8 r1 hc19 (by decide) (by decide) rfl (by decide) ?_
    refine x_aload_n dX8_count_130 1 rfl ?_
    refine x_gi 11 11 rfl (sm_0 hG) (by decide) (C := RX8) (T := TX8) (N := 26) rfl in_X8 (by decide) rfl wf_868 dX8_count_131 ?_
    cases h
    exact x_iret ⟨(rH1 _ _), rH1⟩ dX8_count_134
  replace h := hp_if hc19 h
  have kd : hp_R G l cX8_count 4 (some .int) "HeelPostModel" (hp_rm 3) (some (.int (hp_I r))) H' (hp_r r ∧ hp_in H') 135 [(2, .int (hp_I 0)), (0, .ref (hp_ad G 0)), (1, .int (hp_I v1))] [] H1 := by
    refine x_ldc (x := (-1000001)) wc_949 rfl dX8_count_135 ?_
    cases h
    exact x_iret ⟨(hp_rc rfl), rH1⟩ dX8_count_137
  exact x_tabout (tgt := 135) dX8_count_8 r1 (by omega) (by decide) kd
set_option maxRecDepth 100000 in
theorem ok_X8_status {G : hp_G} (hG : hp_sh G = hp_shm) {l : Launch}  (H : hp_H) (rH : hp_in H) (x : Int × hp_H) (h : f_X8_status  H = some x) : hp_M G l yX8_status cX8_status 1 (some .int) (hp_rm 0) [.ref (hp_ad G 0)] H (some (.int (hp_I x.1))) x.2 (hp_r x.1 ∧ hp_in x.2) := by
  obtain ⟨r, H'⟩ := x
  unfold f_X8_status at h
  refine hp_body "HeelPostModel" (by decide) rfl ⟨rfl, rfl⟩ (Nat.le_of_ble_eq_true rfl) ?_
  show hp_R G l cX8_status 1 (some .int) "HeelPostModel" (hp_rm 0) (some (.int (hp_I r))) H' (hp_r r ∧ hp_in H') 0 [(0, .ref (hp_ad G 0))] [] H
  refine x_aload_n dX8_status_0 0 rfl ?_
  refine x_iconst dX8_status_1 ?_
  obtain ⟨H1, eH1⟩ : ∃ z : hp_H, z = hp_up H 0 0 0 := ⟨_, rfl⟩
  replace h := hp_let_e eH1 h
  have rH1 := hp_ine eH1 (hp_in_up rH (hp_rc rfl))
  refine x_pi 0 0 rfl tyX8 eH1 (sm_0 hG) (by decide) (C := RX8) (T := TX8) (N := 26) rfl in_X8 tyX8_ok nmX8 (by decide) rfl rfl rfl wf_857 dX8_status_2 ?_
  refine x_aload_n dX8_status_5 0 rfl ?_
  refine x_gi 1 1 rfl (sm_0 hG) (by decide) (C := RX8) (T := TX8) (N := 26) rfl in_X8 (by decide) rfl wf_858 dX8_status_6 ?_
  cases h
  exact x_iret ⟨(rH1 _ _), rH1⟩ dX8_status_9
