/-! the bytecode does what the functions say: made by program (wip/whole/gen.py) -/
set_option maxRecDepth 100000 in
theorem ok_X8_isOut {G : hp_G} (hG : hp_sh G = hp_shm) {l : Launch} (a : Int) (v1 : Int) (H : hp_H) (ha : (hp_sh G)[(a).toNat]? = some (1, 41, [])) (ha0 : 0 ≤ a) (r1 : hp_r v1) (rH : hp_in H) (r : Int) (h : f_X8_isOut a v1 H = some r) : hp_M G l yX8_isOut cX8_isOut 2 (some .boolean) (hp_rm 1) [.ref (hp_ad G a), .int (hp_I v1)] H (some (.int (hp_I r))) H (hp_r r) := by
  unfold f_X8_isOut at h
  refine hp_body "HeelPostModel" (by decide) rfl ⟨rfl, rfl⟩ (Nat.le_of_ble_eq_true rfl) ?_
  show hp_R G l cX8_isOut 2 (some .boolean) "HeelPostModel" (hp_rm 1) (some (.int (hp_I r))) H (hp_r r) 0 [(0, .ref (hp_ad G a)), (1, .int (hp_I v1))] [] H
  refine x_aload_n dX8_isOut_0 0 rfl ?_
  refine x_iload_n dX8_isOut_1 1 rfl ?_
  refine x_iconst dX8_isOut_2 ?_
  obtain ⟨c2, g1, h⟩ := hp_b1_e h
  refine x_isi (As := [.ref (hp_ad G a), .int (hp_I v1), .int (hp_I 0)]) (ok_X8_its hG a v1 0 H ha ha0 r1 (hp_rc rfl) rH _ g1) cal_X8_its stt_X8_its wm_1052 (by decide) rfl rfl (Nat.le_of_ble_eq_true rfl) dX8_isOut_3 (fun z9 => ?_)
  have rc2 := z9
  refine x_iconst dX8_isOut_6 ?_
  refine x_icne (tgt := 14) dX8_isOut_7 (by decide) rc2 (hp_rc rfl) (fun hc3 => ?_) (fun hc3 => ?_)
  · replace h := hp_if hc3 h
    refine x_iconst dX8_isOut_14 ?_
    cases h
    exact x_zret (hp_rc rfl) (Or.inl rfl) dX8_isOut_15
  · replace h := hp_it hc3 h
    refine x_iconst dX8_isOut_10 ?_
    refine x_goto (tgt := 15) dX8_isOut_11 (by decide) ?_
    cases h
    exact x_zret (hp_rc rfl) (Or.inr rfl) dX8_isOut_15
set_option maxRecDepth 100000 in
theorem ok_X8_isDone {G : hp_G} (hG : hp_sh G = hp_shm) {l : Launch} (a : Int) (v1 : Int) (H : hp_H) (ha : (hp_sh G)[(a).toNat]? = some (1, 41, [])) (ha0 : 0 ≤ a) (r1 : hp_r v1) (rH : hp_in H) (r : Int) (h : f_X8_isDone a v1 H = some r) : hp_M G l yX8_isDone cX8_isDone 2 (some .boolean) (hp_rm 2) [.ref (hp_ad G a), .int (hp_I v1)] H (some (.int (hp_I r))) H (hp_r r) := by
  unfold f_X8_isDone at h
  refine hp_body "HeelPostModel" (by decide) rfl ⟨rfl, rfl⟩ (Nat.le_of_ble_eq_true rfl) ?_
  show hp_R G l cX8_isDone 2 (some .boolean) "HeelPostModel" (hp_rm 2) (some (.int (hp_I r))) H (hp_r r) 0 [(0, .ref (hp_ad G a)), (1, .int (hp_I v1))] [] H
  refine x_aload_n dX8_isDone_0 0 rfl ?_
  refine x_iload_n dX8_isDone_1 1 rfl ?_
  obtain ⟨c2, g1, h⟩ := hp_b1_e h
  refine x_isi (As := [.ref (hp_ad G a), .int (hp_I v1)]) (ok_X8_isOut hG a v1 H ha ha0 r1 rH _ g1) cal_X8_isOut stt_X8_isOut wm_1055 (by decide) rfl rfl (Nat.le_of_ble_eq_true rfl) dX8_isDone_2 (fun z9 => ?_)
  have rc2 := z9
  refine x_ifeq (tgt := 27) dX8_isDone_5 (by decide) rc2 (fun hc3 => ?_) (fun hc3 => ?_)
  · replace h := hp_it hc3 h
    refine x_iconst dX8_isDone_27 ?_
    cases h
    exact x_zret (hp_rc rfl) (Or.inl rfl) dX8_isDone_28
  · replace h := hp_if hc3 h
    refine x_aload_n dX8_isDone_8 0 rfl ?_
    refine x_iload_n dX8_isDone_9 1 rfl ?_
    refine x_iconst dX8_isDone_10 ?_
    obtain ⟨c5, g4, h⟩ := hp_b1_e h
    refine x_isi (As := [.ref (hp_ad G a), .int (hp_I v1), .int (hp_I 1)]) (ok_X8_its hG a v1 1 H ha ha0 r1 (hp_rc rfl) rH _ g4) cal_X8_its stt_X8_its wm_1052 (by decide) rfl rfl (Nat.le_of_ble_eq_true rfl) dX8_isDone_11 (fun z9 => ?_)
    have rc5 := z9
    refine x_aload_n dX8_isDone_14 0 rfl ?_
    refine x_iload_n dX8_isDone_15 1 rfl ?_
    refine x_iconst dX8_isDone_16 ?_
    obtain ⟨c7, g6, h⟩ := hp_b1_e h
    refine x_isi (As := [.ref (hp_ad G a), .int (hp_I v1), .int (hp_I 2)]) (ok_X8_its hG a v1 2 H ha ha0 r1 (hp_rc rfl) rH _ g6) cal_X8_its stt_X8_its wm_1052 (by decide) rfl rfl (Nat.le_of_ble_eq_true rfl) dX8_isDone_17 (fun z9 => ?_)
    have rc7 := z9
    refine x_icne (tgt := 27) dX8_isDone_20 (by decide) rc5 rc7 (fun hc8 => ?_) (fun hc8 => ?_)
    · replace h := hp_if hc8 h
      refine x_iconst dX8_isDone_27 ?_
      cases h
      exact x_zret (hp_rc rfl) (Or.inl rfl) dX8_isDone_28
    · replace h := hp_it hc8 h
      refine x_iconst dX8_isDone_23 ?_
      refine x_goto (tgt := 28) dX8_isDone_24 (by decide) ?_
      cases h
      exact x_zret (hp_rc rfl) (Or.inr rfl) dX8_isDone_28
set_option maxRecDepth 100000 in
theorem ok_X8_place {G : hp_G} (hG : hp_sh G = hp_shm) {l : Launch} (a : Int) (v1 : Int) (v2 : Int) (H : hp_H) (ha : (hp_sh G)[(a).toNat]? = some (1, 41, [])) (ha0 : 0 ≤ a) (r1 : hp_r v1) (r2 : hp_r v2) (rH : hp_in H) (r : Int) (h : f_X8_place a v1 v2 H = some r) : hp_M G l yX8_place cX8_place 10 (some .int) (hp_rm 1) [.ref (hp_ad G a), .int (hp_I v1), .int (hp_I v2)] H (some (.int (hp_I r))) H (hp_r r) := by
  unfold f_X8_place at h
  refine hp_body "HeelPostModel" (by decide) rfl ⟨rfl, rfl⟩ (Nat.le_of_ble_eq_true rfl) ?_
  show hp_R G l cX8_place 10 (some .int) "HeelPostModel" (hp_rm 1) (some (.int (hp_I r))) H (hp_r r) 0 [(0, .ref (hp_ad G a)), (1, .int (hp_I v1)), (2, .int (hp_I v2))] [] H
  refine x_aload_n dX8_place_0 0 rfl ?_
  refine x_iload_n dX8_place_1 1 rfl ?_
  refine x_iconst dX8_place_2 ?_
  obtain ⟨c2, g1, h⟩ := hp_b1_e h
  refine x_isi (As := [.ref (hp_ad G a), .int (hp_I v1), .int (hp_I 1)]) (ok_X8_of hG a v1 1 H ha ha0 r1 (hp_rc rfl) rH _ g1) cal_X8_of stt_X8_of wm_1061 (by decide) rfl rfl (Nat.le_of_ble_eq_true rfl) dX8_place_3 (fun z9 => ?_)
  have rc2 := z9
  refine x_istore_n (L' := [(3, .int (hp_I c2)), (0, .ref (hp_ad G a)), (1, .int (hp_I v1)), (2, .int (hp_I v2))]) dX8_place_6 rfl (by decide) rfl ?_
  refine x_aload_n dX8_place_7 1 rfl ?_
  refine x_iload_n dX8_place_8 2 rfl ?_
  refine x_iconst dX8_place_9 ?_
  obtain ⟨c4, g3, h⟩ := hp_b1_e h
  refine x_isi (As := [.ref (hp_ad G a), .int (hp_I v1), .int (hp_I 2)]) (ok_X8_of hG a v1 2 H ha ha0 r1 (hp_rc rfl) rH _ g3) cal_X8_of stt_X8_of wm_1061 (by decide) rfl rfl (Nat.le_of_ble_eq_true rfl) dX8_place_10 (fun z9 => ?_)
  have rc4 := z9
  refine x_istore (L' := [(4, .int (hp_I c4)), (3, .int (hp_I c2)), (0, .ref (hp_ad G a)), (1, .int (hp_I v1)), (2, .int (hp_I v2))]) dX8_place_13 (by decide) rfl ?_
  refine x_aload_n dX8_place_15 2 rfl ?_
  refine x_iconst dX8_place_16 ?_
  refine x_ia 41 rfl ha ha0 (Nat.le_of_ble_eq_true rfl) (by decide) dX8_place_17 ?_
  refine x_iload_n dX8_place_18 3 rfl ?_
  obtain ⟨c6, g5, h⟩ := hp_b1_e h
  refine x_isi (As := [.int (hp_I (H a 4)), .int (hp_I v1)]) (ok_X8_has hG (H a 4) v1 H (rH _ _) r1 rH _ g5) cal_X8_has stt_X8_has wm_1064 (by decide) rfl rfl (Nat.le_of_ble_eq_true rfl) dX8_place_19 (fun z9 => ?_)
  have rc6 := z9
  refine x_ifeq (tgt := 27) dX8_place_22 (by decide) rc6 (fun hc7 => ?_) (fun hc7 => ?_)
  · replace h := hp_it hc7 h
    refine x_aload_n dX8_place_27 2 rfl ?_
    refine x_iload_n dX8_place_28 3 rfl ?_
    refine x_iconst dX8_place_29 ?_
    obtain ⟨c9, g8, h⟩ := hp_b1_e h
    refine x_isi (As := [.ref (hp_ad G a), .int (hp_I v1), .int (hp_I 0)]) (ok_X8_of hG a v1 0 H ha ha0 r1 (hp_rc rfl) rH _ g8) cal_X8_of stt_X8_of wm_1061 (by decide) rfl rfl (Nat.le_of_ble_eq_true rfl) dX8_place_30 (fun z9 => ?_)
    have rc9 := z9
    refine x_istore (L' := [(5, .int (hp_I c9)), (4, .int (hp_I c4)), (3, .int (hp_I c2)), (0, .ref (hp_ad G a)), (1, .int (hp_I v1)), (2, .int (hp_I v2))]) dX8_place_33 (by decide) rfl ?_
    refine x_iload_n dX8_place_35 5 rfl ?_
    refine x_aload_n dX8_place_36 3 rfl ?_
    refine x_iconst dX8_place_37 ?_
    refine x_ia 41 rfl ha ha0 (Nat.le_of_ble_eq_true rfl) (by decide) dX8_place_38 ?_
    obtain ⟨b10, h⟩ := hp_ck_e h
    refine x_irem r2 (rH _ _) b10 dX8_place_39 ?_
    obtain ⟨v6_11, ev6_11⟩ : ∃ z : Int, z = (Int.tmod v2 (H a 1)) := ⟨_, rfl⟩
    replace h := hp_let_e ev6_11 h
    have rv6_11 := hp_re ev6_11 (hp_rrem r2)
    refine x_isE (L' := [(6, .int (hp_I v6_11)), (5, .int (hp_I c9)), (4, .int (hp_I c4)), (3, .int (hp_I c2)), (0, .ref (hp_ad G a)), (1, .int (hp_I v1)), (2, .int (hp_I v2))]) ev6_11 dX8_place_40 (by decide) rfl ?_
    refine x_iload_n dX8_place_42 6 rfl ?_
    refine x_aload_n dX8_place_43 4 rfl ?_
    refine x_iconst dX8_place_44 ?_
    refine x_ia 41 rfl ha ha0 (Nat.le_of_ble_eq_true rfl) (by decide) dX8_place_45 ?_
    refine x_idiv r2 (rH _ _) b10 dX8_place_46 ?_
    obtain ⟨v7_12, ev7_12⟩ : ∃ z : Int, z = (hp_w (Int.tdiv v2 (H a 1))) := ⟨_, rfl⟩
    replace h := hp_let_e ev7_12 h
    have rv7_12 := hp_re ev7_12 (hp_rw _)
    refine x_isE (L' := [(7, .int (hp_I v7_12)), (6, .int (hp_I v6_11)), (5, .int (hp_I c9)), (4, .int (hp_I c4)), (3, .int (hp_I c2)), (0, .ref (hp_ad G a)), (1, .int (hp_I v1)), (2, .int (hp_I v2))]) ev7_12 dX8_place_47 (by decide) rfl ?_
    refine x_iload dX8_place_49 1 rfl ?_
    refine x_aload_n dX8_place_51 5 rfl ?_
    refine x_iload_n dX8_place_52 6 rfl ?_
    refine x_iconst dX8_place_53 ?_
    obtain ⟨c14, g13, h⟩ := hp_b1_e h
    refine x_isi (As := [.ref (hp_ad G a), .int (hp_I v1), .int (hp_I 3)]) (ok_X8_of hG a v1 3 H ha ha0 r1 (hp_rc rfl) rH _ g13) cal_X8_of stt_X8_of wm_1061 (by decide) rfl rfl (Nat.le_of_ble_eq_true rfl) dX8_place_54 (fun z9 => ?_)
    have rc14 := z9
    obtain ⟨m15, hm16, h⟩ := hp_b1_e h
    have kj : hp_r m15 → hp_R G l cX8_place 10 (some .int) "HeelPostModel" (hp_rm 1) (some (.int (hp_I r))) H (hp_r r) 73 [(3, .int (hp_I c2)), (4, .int (hp_I c4)), (5, .int (hp_I c9)), (7, .int (hp_I v7_12))] [.int (hp_I m15)] H := by
      intro rm15
      refine x_istore (L' := [(8, .int (hp_I m15)), (3, .int (hp_I c2)), (4, .int (hp_I c4)), (5, .int (hp_I c9)), (7, .int (hp_I v7_12))]) dX8_place_73 (by decide) rfl ?_
      refine x_iload dX8_place_75 3 rfl ?_
      refine x_iconst dX8_place_77 ?_
      obtain ⟨m17, em17⟩ : ∃ z : Int, z = (if c9 = 3 then (hp_w (Int.tdiv m15 2)) else (if c9 < 4 then (if c9 = 5 then (hp_w (2 * m15)) else m15) else (if (Int.tmod v7_12 2) = 1 then 0 else (if c9 = 5 then (hp_w (2 * m15)) else m15)))) := ⟨_, rfl⟩
      replace h := hp_let_e em17 h
      have rm17 := hp_re em17 (hp_rite (hp_rw _) (hp_rite (hp_rite (hp_rw _) rm15) (hp_rite (hp_rc rfl) (hp_rite (hp_rw _) rm15))))
      have kj : hp_R G l cX8_place 10 (some .int) "HeelPostModel" (hp_rm 1) (some (.int (hp_I r))) H (hp_r r) 121 [(3, .int (hp_I c2)), (4, .int (hp_I c4))] [.int (hp_I m17)] H := by
        refine x_istore (L' := [(8, .int (hp_I m17)), (3, .int (hp_I c2)), (4, .int (hp_I c4))]) dX8_place_121 (by decide) rfl ?_
        refine x_iload dX8_place_123 2 rfl ?_
        refine x_iload_n dX8_place_125 1 rfl ?_
        obtain ⟨m18, em18⟩ : ∃ z : Int, z = (if c2 < c4 then (hp_w (c4 - c2)) else (hp_w (c2 - c4))) := ⟨_, rfl⟩
        replace h := hp_let_e em18 h
        have rm18 := hp_re em18 (hp_rite (hp_rw _) (hp_rw _))
        have kj : hp_R G l cX8_place 10 (some .int) "HeelPostModel" (hp_rm 1) (some (.int (hp_I r))) H (hp_r r) 140 [(3, .int (hp_I c2)), (4, .int (hp_I c4)), (8, .int (hp_I m17))] [.int (hp_I m18)] H := by
          refine x_istore (L' := [(9, .int (hp_I m18)), (3, .int (hp_I c2)), (4, .int (hp_I c4)), (8, .int (hp_I m17))]) dX8_place_140 (by decide) rfl ?_
          refine x_iload dX8_place_142 3 rfl ?_
          refine x_iload dX8_place_144 0 rfl ?_
          obtain ⟨m19, em19⟩ : ∃ z : Int, z = (if m18 < m17 then m18 else m17) := ⟨_, rfl⟩
          replace h := hp_let_e em19 h
          have rm19 := hp_re em19 (hp_rite rm18 rm17)
          have kj : hp_R G l cX8_place 10 (some .int) "HeelPostModel" (hp_rm 1) (some (.int (hp_I r))) H (hp_r r) 156 [(3, .int (hp_I c2)), (4, .int (hp_I c4))] [.int (hp_I m19)] H := by
            refine x_istore (L' := [(8, .int (hp_I m19)), (3, .int (hp_I c2)), (4, .int (hp_I c4))]) dX8_place_156 (by decide) rfl ?_
            refine x_iload dX8_place_158 2 rfl ?_
            refine x_iload_n dX8_place_160 1 rfl ?_
            refine x_icle (tgt := 171) dX8_place_161 (by decide) rc4 rc2 (fun hc20 => ?_) (fun hc20 => ?_)
            · replace h := hp_if hc20 h
              refine x_iload_n dX8_place_171 1 rfl ?_
              refine x_iload dX8_place_172 0 rfl ?_
              refine x_isub dX8_place_174 ?_
              cases h
              exact x_iret (hp_rw _) dX8_place_175
            · replace h := hp_it hc20 h
              refine x_iload_n dX8_place_164 1 rfl ?_
              refine x_iload dX8_place_165 0 rfl ?_
              refine x_iadd dX8_place_167 ?_
              refine x_goto (tgt := 175) dX8_place_168 (by decide) ?_
              cases h
              exact x_iret (hp_rw _) dX8_place_175
          clear h
          refine x_icle (tgt := 154) dX8_place_146 (by decide) rm17 rm18 (fun hc21 => ?_) (fun hc21 => ?_)
          · refine x_iload dX8_place_154 3 rfl ?_
            have q9 := (em19.trans (if_neg hc21))
            subst q9
            exact x_sub [1, 2] rfl kj
          · refine x_iload dX8_place_149 0 rfl ?_
            refine x_goto (tgt := 156) dX8_place_151 (by decide) ?_
            have q9 := (em19.trans (if_pos hc21))
            subst q9
            exact x_sub [1, 2] rfl kj
        clear h
        refine x_icle (tgt := 136) dX8_place_126 (by decide) rc4 rc2 (fun hc22 => ?_) (fun hc22 => ?_)
        · refine x_iload_n dX8_place_136 1 rfl ?_
          refine x_iload dX8_place_137 2 rfl ?_
          refine x_isub dX8_place_139 ?_
          have q9 := (em18.trans (if_neg hc22))
          subst q9
          exact x_sub [1, 2, 0] rfl kj
        · refine x_iload dX8_place_129 2 rfl ?_
          refine x_iload_n dX8_place_131 1 rfl ?_
          refine x_isub dX8_place_132 ?_
          refine x_goto (tgt := 140) dX8_place_133 (by decide) ?_
          have q9 := (em18.trans (if_pos hc22))
          subst q9
          exact x_sub [1, 2, 0] rfl kj
      clear h
      refine x_icne (tgt := 88) dX8_place_78 (by decide) rc9 (hp_rc rfl) (fun hc23 => ?_) (fun hc23 => ?_)
      · refine x_iload dX8_place_88 3 rfl ?_
        refine x_iconst dX8_place_90 ?_
        refine x_iclt (tgt := 106) dX8_place_91 (by decide) rc9 (hp_rc rfl) (fun hc24 => ?_) (fun hc24 => ?_)
        · refine x_iload dX8_place_106 3 rfl ?_
          refine x_iconst dX8_place_108 ?_
          refine x_icne (tgt := 119) dX8_place_109 (by decide) rc9 (hp_rc rfl) (fun hc25 => ?_) (fun hc25 => ?_)
          · refine x_iload dX8_place_119 0 rfl ?_
            have q9 := (((em17.trans (if_neg hc23)).trans (if_pos hc24)).trans (if_neg hc25))
            subst q9
            exact x_sub [1, 2] rfl kj
          · refine x_iconst dX8_place_112 ?_
            refine x_iload dX8_place_113 0 rfl ?_
            refine x_imul dX8_place_115 ?_
            refine x_goto (tgt := 121) dX8_place_116 (by decide) ?_
            have q9 := (((em17.trans (if_neg hc23)).trans (if_pos hc24)).trans (if_pos hc25))
            subst q9
            exact x_sub [1, 2] rfl kj
        · refine x_iload dX8_place_94 4 rfl ?_
          refine x_iconst dX8_place_96 ?_
          refine x_irem rv7_12 (hp_rc rfl) (by decide) dX8_place_97 ?_
          refine x_iconst dX8_place_98 ?_
          refine x_icne (tgt := 106) dX8_place_99 (by decide) (hp_rrem rv7_12) (hp_rc rfl) (fun hc26 => ?_) (fun hc26 => ?_)
          · refine x_iload dX8_place_106 3 rfl ?_
            refine x_iconst dX8_place_108 ?_
            refine x_icne (tgt := 119) dX8_place_109 (by decide) rc9 (hp_rc rfl) (fun hc27 => ?_) (fun hc27 => ?_)
            · refine x_iload dX8_place_119 0 rfl ?_
              have q9 := ((((em17.trans (if_neg hc23)).trans (if_neg hc24)).trans (if_neg hc26)).trans (if_neg hc27))
              subst q9
              exact x_sub [1, 2] rfl kj
            · refine x_iconst dX8_place_112 ?_
              refine x_iload dX8_place_113 0 rfl ?_
              refine x_imul dX8_place_115 ?_
              refine x_goto (tgt := 121) dX8_place_116 (by decide) ?_
              have q9 := ((((em17.trans (if_neg hc23)).trans (if_neg hc24)).trans (if_neg hc26)).trans (if_pos hc27))
              subst q9
              exact x_sub [1, 2] rfl kj
          · refine x_iconst dX8_place_102 ?_
            refine x_goto (tgt := 121) dX8_place_103 (by decide) ?_
            have q9 := (((em17.trans (if_neg hc23)).trans (if_neg hc24)).trans (if_pos hc26))
            subst q9
            exact x_sub [1, 2] rfl kj
      · refine x_iload dX8_place_81 0 rfl ?_
        refine x_iconst dX8_place_83 ?_
        refine x_idiv rm15 (hp_rc rfl) (by decide) dX8_place_84 ?_
        refine x_goto (tgt := 121) dX8_place_85 (by decide) ?_
        have q9 := (em17.trans (if_pos hc23))
        subst q9
        exact x_sub [1, 2] rfl kj
    clear h
    have h := hm16
    clear hm16
    refine x_icle (tgt := 72) dX8_place_57 (by decide) rv6_11 rc14 (fun hc28 => ?_) (fun hc28 => ?_)
    · replace h := hp_if hc28 h
      refine x_iconst dX8_place_72 ?_
      cases h
      exact x_sub [4, 3, 2, 0] rfl (kj (hp_rc rfl))
    · replace h := hp_it hc28 h
      refine x_iload dX8_place_60 1 rfl ?_
      refine x_aload_n dX8_place_62 5 rfl ?_
      refine x_iload_n dX8_place_63 6 rfl ?_
      refine x_iconst dX8_place_64 ?_
      obtain ⟨c30, g29, h⟩ := hp_b1_e h
      refine x_isi (As := [.ref (hp_ad G a), .int (hp_I v1), .int (hp_I 3)]) (ok_X8_of hG a v1 3 H ha ha0 r1 (hp_rc rfl) rH _ g29) cal_X8_of stt_X8_of wm_1061 (by decide) rfl rfl (Nat.le_of_ble_eq_true rfl) dX8_place_65 (fun z9 => ?_)
      have rc30 := z9
      refine x_isub dX8_place_68 ?_
      refine x_goto (tgt := 73) dX8_place_69 (by decide) ?_
      cases h
      exact x_sub [4, 3, 2, 0] rfl (kj (hp_rw _))
  · replace h := hp_if hc7 h
    refine x_iload_n dX8_place_25 1 rfl ?_
    cases h
    exact x_iret rc2 dX8_place_26
set_option maxRecDepth 100000 in
theorem ok_X8_findCarriers_2 {G : hp_G} (hG : hp_sh G = hp_shm) {l : Launch} {vv : Option Value} {H' : hp_H} {Z : Prop} : ∀ (n : Nat) (a : Int) (v2 : Int) (H : hp_H), (hp_sh G)[(a).toNat]? = some (1, 41, []) → 0 ≤ a → hp_r v2 → hp_in H → ∀ Hm : hp_H, f_X8_findCarriers_2 n a v2 H = some Hm → (hp_in Hm → hp_R G l cX8_findCarriers 9 none "HeelPostModel" (hp_rm 2) vv H' Z 21 [(0, .ref (hp_ad G 0)), (1, .ref (hp_ad G a))] [] Hm) → hp_R G l cX8_findCarriers 9 none "HeelPostModel" (hp_rm 2) vv H' Z 2 [(0, .ref (hp_ad G 0)), (1, .ref (hp_ad G a)), (2, .int (hp_I v2))] [] H := by
  intro n
  induction n with
  | zero =>
    intro a v2 H ha ha0 r2 rH Hm h kx
    exact hp_no h
  | succ n ih =>
    intro a v2 H ha ha0 r2 rH Hm h kx
    unfold f_X8_findCarriers_2 at h
    refine x_iload_n dX8_findCarriers_2 2 rfl ?_
    refine x_bipush rfl dX8_findCarriers_3 ?_
    refine x_icge (tgt := 21) dX8_findCarriers_5 (by decide) r2 (hp_rc rfl) (fun hc1 => ?_) (fun hc1 => ?_)
    · replace h := hp_if hc1 h
      cases h
      exact x_sub [0, 1] rfl (kx rH)
    · replace h := hp_it hc1 h
      refine x_aload_n dX8_findCarriers_8 0 rfl ?_
      refine x_getr 20 (sm_0 hG) (by decide) (C := RX8) (T := TX8) (N := 26) rfl in_X8 (by decide) rfl wf_877 dX8_findCarriers_9 ?_
      refine x_iload_n dX8_findCarriers_12 2 rfl ?_
      refine x_iconst dX8_findCarriers_13 ?_
      obtain ⟨b2, h⟩ := hp_ck_e h
      obtain ⟨H3, eH3⟩ : ∃ z : hp_H, z = hp_up H 10 v2 0 := ⟨_, rfl⟩
      replace h := hp_let_e eH3 h
      have rH3 := hp_ine eH3 (hp_in_up rH (hp_rc rfl))
      refine x_ias 6 rfl eH3 (sm_10 hG) (by decide) (Nat.le_of_ble_eq_true rfl) b2 dX8_findCarriers_14 ?_
      obtain ⟨v2_4, ev2_4⟩ : ∃ z : Int, z = (hp_w (v2 + 1)) := ⟨_, rfl⟩
      replace h := hp_let_e ev2_4 h
      have rv2_4 := hp_re ev2_4 (hp_rw _)
      refine x_iiE (L' := [(2, .int (hp_I v2_4)), (0, .ref (hp_ad G 0)), (1, .ref (hp_ad G a))]) ev2_4 dX8_findCarriers_15 2 rfl (by decide) rfl ?_
      refine x_goto (tgt := 2) dX8_findCarriers_18 (by decide) ?_
      exact x_sub [1, 2, 0] rfl (ih a v2_4 H3 ha ha0 rv2_4 rH3 _ h kx)
set_option maxRecDepth 100000 in
theorem ok_X8_findCarriers_54 {G : hp_G} (hG : hp_sh G = hp_shm) {l : Launch} {vv : Option Value} {H' : hp_H} {Z : Prop} : ∀ (n : Nat) (a : Int) (v2 : Int) (v3 : Int) (v4 : Int) (v5 : Int) (H : hp_H), (hp_sh G)[(a).toNat]? = some (1, 41, []) → 0 ≤ a → hp_r v2 → hp_r v3 → hp_r v4 → hp_r v5 → hp_in H → ∀ Hm : hp_H, f_X8_findCarriers_54 n a v2 v3 v4 v5 H = some Hm → (hp_in Hm → hp_R G l cX8_findCarriers 9 none "HeelPostModel" (hp_rm 2) vv H' Z 214 [(0, .ref (hp_ad G 0)), (1, .ref (hp_ad G a)), (2, .int (hp_I v2))] [] Hm) → hp_R G l cX8_findCarriers 9 none "HeelPostModel" (hp_rm 2) vv H' Z 54 [(0, .ref (hp_ad G 0)), (1, .ref (hp_ad G a)), (2, .int (hp_I v2)), (3, .int (hp_I v3)), (4, .int (hp_I v4)), (5, .int (hp_I v5))] [] H := by
  intro n
  induction n with
  | zero =>
    intro a v2 v3 v4 v5 H ha ha0 r2 r3 r4 r5 rH Hm h kx
    exact hp_no h
  | succ n ih =>
    intro a v2 v3 v4 v5 H ha ha0 r2 r3 r4 r5 rH Hm h kx
    unfold f_X8_findCarriers_54 at h
    refine x_iload dX8_findCarriers_54 5 rfl ?_
    refine x_aload_n dX8_findCarriers_56 1 rfl ?_
    refine x_iconst dX8_findCarriers_57 ?_
    refine x_ia 41 rfl ha ha0 (Nat.le_of_ble_eq_true rfl) (by decide) dX8_findCarriers_58 ?_
    refine x_icge (tgt := 214) dX8_findCarriers_59 (by decide) r5 (rH _ _) (fun hc14 => ?_) (fun hc14 => ?_)
    · replace h := hp_if hc14 h
      cases h
      exact x_sub [0, 1, 2] rfl (kx rH)
    · replace h := hp_it hc14 h
      refine x_aload_n dX8_findCarriers_62 1 rfl ?_
      refine x_iload_n dX8_findCarriers_63 2 rfl ?_
      obtain ⟨c16, g15, h⟩ := hp_b1_e h
      refine x_isi (As := [.ref (hp_ad G a), .int (hp_I v2)]) (ok_X8_isOut hG a v2 H ha ha0 r2 rH _ g15) cal_X8_isOut stt_X8_isOut wm_1055 (by decide) rfl rfl (Nat.le_of_ble_eq_true rfl) dX8_findCarriers_64 (fun z9 => ?_)
      have rc16 := z9
      refine x_ifeq (tgt := 214) dX8_findCarriers_67 (by decide) rc16 (fun hc17 => ?_) (fun hc17 => ?_)
      · replace h := hp_it hc17 h
        cases h
        exact x_sub [0, 1, 2] rfl (kx rH)
      · replace h := hp_if hc17 h
        refine x_iload_n dX8_findCarriers_70 3 rfl ?_
        refine x_iload dX8_findCarriers_71 4 rfl ?_
        refine x_iceq (tgt := 214) dX8_findCarriers_73 (by decide) r3 r4 (fun hc18 => ?_) (fun hc18 => ?_)
        · replace h := hp_it hc18 h
          cases h
          exact x_sub [0, 1, 2] rfl (kx rH)
        · replace h := hp_if hc18 h
          refine x_aload_n dX8_findCarriers_76 0 rfl ?_
          refine x_getr 19 (sm_0 hG) (by decide) (C := RX8) (T := TX8) (N := 26) rfl in_X8 (by decide) rfl wf_876 dX8_findCarriers_77 ?_
          refine x_iload_n dX8_findCarriers_80 2 rfl ?_
          obtain ⟨b19, h⟩ := hp_ck_e h
          refine x_ia 4 rfl (sm_9 hG) (by decide) (Nat.le_of_ble_eq_true rfl) b19 dX8_findCarriers_81 ?_
          refine x_ldc (x := (-1000000)) wc_989 rfl dX8_findCarriers_82 ?_
          refine x_icne (tgt := 214) dX8_findCarriers_84 (by decide) (rH _ _) (hp_rc rfl) (fun hc20 => ?_) (fun hc20 => ?_)
          · replace h := hp_if hc20 h
            cases h
            exact x_sub [0, 1, 2] rfl (kx rH)
          · replace h := hp_it hc20 h
            refine x_aload_n dX8_findCarriers_87 1 rfl ?_
            refine x_iload dX8_findCarriers_88 5 rfl ?_
            refine x_aload_n dX8_findCarriers_90 1 rfl ?_
            refine x_iconst dX8_findCarriers_91 ?_
            refine x_ia 41 rfl ha ha0 (Nat.le_of_ble_eq_true rfl) (by decide) dX8_findCarriers_92 ?_
            refine x_iconst dX8_findCarriers_93 ?_
            refine x_iadd dX8_findCarriers_94 ?_
            obtain ⟨c22, g21, h⟩ := hp_b1_e h
            refine x_isi (As := [.ref (hp_ad G a), .int (hp_I v5), .int (hp_I (hp_w ((H a 3) + 1)))]) (ok_X8_place hG a v5 (hp_w ((H a 3) + 1)) H ha ha0 r5 (hp_rw _) rH _ g21) cal_X8_place stt_X8_place wm_1058 (by decide) rfl rfl (Nat.le_of_ble_eq_true rfl) dX8_findCarriers_95 (fun z9 => ?_)
            have rc22 := z9
            refine x_istore (L' := [(6, .int (hp_I c22)), (0, .ref (hp_ad G 0)), (1, .ref (hp_ad G a)), (2, .int (hp_I v2)), (3, .int (hp_I v3)), (4, .int (hp_I v4)), (5, .int (hp_I v5))]) dX8_findCarriers_98 (by decide) rfl ?_
            refine x_iload dX8_findCarriers_100 5 rfl ?_
            refine x_iload_n dX8_findCarriers_102 4 rfl ?_
            obtain ⟨m23, em23⟩ : ∃ z : Int, z = (if v3 < v4 then (if v3 < c22 then 1 else 0) else (if c22 < v3 then 1 else 0)) := ⟨_, rfl⟩
            replace h := hp_let_e em23 h
            have rm23 := hp_re em23 (hp_rite (hp_rite (hp_rc rfl) (hp_rc rfl)) (hp_rite (hp_rc rfl) (hp_rc rfl)))
            have zm23 : m23 = 0 ∨ m23 = 1 := by rw [em23]; exact (hp_z01 (hp_z01 (Or.inr rfl) (Or.inl rfl)) (hp_z01 (Or.inr rfl) (Or.inl rfl)))
            have kj : hp_R G l cX8_findCarriers 9 none "HeelPostModel" (hp_rm 2) vv H' Z 131 [(0, .ref (hp_ad G 0)), (1, .ref (hp_ad G a)), (2, .int (hp_I v2)), (3, .int (hp_I v3)), (4, .int (hp_I v4)), (5, .int (hp_I v5))] [.int (hp_I m23)] H := by
              refine x_istore (L' := [(7, .int (hp_I m23)), (0, .ref (hp_ad G 0)), (1, .ref (hp_ad G a)), (2, .int (hp_I v2)), (3, .int (hp_I v3)), (4, .int (hp_I v4)), (5, .int (hp_I v5))]) dX8_findCarriers_131 (by decide) rfl ?_
              refine x_aload_n dX8_findCarriers_133 1 rfl ?_
              refine x_getr 20 (sm_0 hG) (by decide) (C := RX8) (T := TX8) (N := 26) rfl in_X8 (by decide) rfl wf_877 dX8_findCarriers_134 ?_
              refine x_iload dX8_findCarriers_137 6 rfl ?_
              obtain ⟨b24, h⟩ := hp_ck_e h
              refine x_ia 6 rfl (sm_10 hG) (by decide) (Nat.le_of_ble_eq_true rfl) b24 dX8_findCarriers_139 ?_
              refine x_aload_n dX8_findCarriers_140 2 rfl ?_
              refine x_iload dX8_findCarriers_141 6 rfl ?_
              refine x_iconst dX8_findCarriers_143 ?_
              obtain ⟨c26, g25, h⟩ := hp_b1_e h
              refine x_isi (As := [.ref (hp_ad G a), .int (hp_I v5), .int (hp_I 0)]) (ok_X8_of hG a v5 0 H ha ha0 r5 (hp_rc rfl) rH _ g25) cal_X8_of stt_X8_of wm_1061 (by decide) rfl rfl (Nat.le_of_ble_eq_true rfl) dX8_findCarriers_144 (fun z9 => ?_)
              have rc26 := z9
              refine x_iconst dX8_findCarriers_147 ?_
              obtain ⟨m27, em27⟩ : ∃ z : Int, z = (if c26 = 2 then 2 else 1) := ⟨_, rfl⟩
              replace h := hp_let_e em27 h
              have rm27 := hp_re em27 (hp_rite (hp_rc rfl) (hp_rc rfl))
              have kj : hp_R G l cX8_findCarriers 9 none "HeelPostModel" (hp_rm 2) vv H' Z 156 [(0, .ref (hp_ad G 0)), (1, .ref (hp_ad G a)), (2, .int (hp_I v2)), (3, .int (hp_I v3)), (4, .int (hp_I v4)), (5, .int (hp_I v5)), (7, .int (hp_I m23))] [.int (hp_I m27), .int (hp_I (H 10 v5))] H := by
                obtain ⟨m28, em28⟩ : ∃ z : Int, z = (if (H 10 v5) < m27 then 1 else 0) := ⟨_, rfl⟩
                replace h := hp_let_e em28 h
                have rm28 := hp_re em28 (hp_rite (hp_rc rfl) (hp_rc rfl))
                have zm28 : m28 = 0 ∨ m28 = 1 := by rw [em28]; exact (hp_z01 (Or.inr rfl) (Or.inl rfl))
                have kj : hp_R G l cX8_findCarriers 9 none "HeelPostModel" (hp_rm 2) vv H' Z 164 [(0, .ref (hp_ad G 0)), (1, .ref (hp_ad G a)), (2, .int (hp_I v2)), (3, .int (hp_I v3)), (4, .int (hp_I v4)), (5, .int (hp_I v5)), (7, .int (hp_I m23))] [.int (hp_I m28)] H := by
                  refine x_istore (L' := [(8, .int (hp_I m28)), (0, .ref (hp_ad G 0)), (1, .ref (hp_ad G a)), (2, .int (hp_I v2)), (3, .int (hp_I v3)), (4, .int (hp_I v4)), (5, .int (hp_I v5)), (7, .int (hp_I m23))]) dX8_findCarriers_164 (by decide) rfl ?_
                  refine x_aload_n dX8_findCarriers_166 2 rfl ?_
                  refine x_iload dX8_findCarriers_167 6 rfl ?_
                  refine x_aload_n dX8_findCarriers_169 2 rfl ?_
                  refine x_iconst dX8_findCarriers_170 ?_
                  refine x_ia 41 rfl ha ha0 (Nat.le_of_ble_eq_true rfl) (by decide) dX8_findCarriers_171 ?_
                  obtain ⟨c30, g29, h⟩ := hp_b1_e h
                  refine x_isi (As := [.ref (hp_ad G a), .int (hp_I v5), .int (hp_I (H a 3))]) (ok_X8_place hG a v5 (H a 3) H ha ha0 r5 (rH _ _) rH _ g29) cal_X8_place stt_X8_place wm_1058 (by decide) rfl rfl (Nat.le_of_ble_eq_true rfl) dX8_findCarriers_172 (fun z9 => ?_)
                  have rc30 := z9
                  refine x_iload_n dX8_findCarriers_175 4 rfl ?_
                  obtain ⟨H31, hm32, h⟩ := hp_b1_e h
                  have kj : hp_in H31 → hp_R G l cX8_findCarriers 9 none "HeelPostModel" (hp_rm 2) vv H' Z 208 [(0, .ref (hp_ad G 0)), (1, .ref (hp_ad G a)), (2, .int (hp_I v2)), (3, .int (hp_I v3)), (4, .int (hp_I v4)), (5, .int (hp_I v5))] [] H31 := by
                    intro rH31
                    obtain ⟨v5_33, ev5_33⟩ : ∃ z : Int, z = (hp_w (v5 + 1)) := ⟨_, rfl⟩
                    replace h := hp_let_e ev5_33 h
                    have rv5_33 := hp_re ev5_33 (hp_rw _)
                    refine x_iiE (L' := [(5, .int (hp_I v5_33)), (0, .ref (hp_ad G 0)), (1, .ref (hp_ad G a)), (2, .int (hp_I v2)), (3, .int (hp_I v3)), (4, .int (hp_I v4))]) ev5_33 dX8_findCarriers_208 5 rfl (by decide) rfl ?_
                    refine x_goto (tgt := 54) dX8_findCarriers_211 (by decide) ?_
                    exact x_sub [1, 2, 3, 4, 5, 0] rfl (ih a v2 v3 v4 v5_33 H31 ha ha0 r2 r3 r4 rv5_33 rH31 _ h kx)
                  clear h
                  have h := hm32
                  clear hm32
                  refine x_icne (tgt := 208) dX8_findCarriers_176 (by decide) rc30 r3 (fun hc34 => ?_) (fun hc34 => ?_)
                  · replace h := hp_if hc34 h
                    cases h
                    exact x_sub [1, 2, 3, 4, 5, 6] rfl (kj rH)
                  · replace h := hp_it hc34 h
                    refine x_iload dX8_findCarriers_179 7 rfl ?_
                    refine x_ifeq (tgt := 208) dX8_findCarriers_181 (by decide) rm23 (fun hc35 => ?_) (fun hc35 => ?_)
                    · replace h := hp_it hc35 h
                      cases h
                      exact x_sub [1, 2, 3, 4, 5, 6] rfl (kj rH)
                    · replace h := hp_if hc35 h
                      refine x_iload dX8_findCarriers_184 0 rfl ?_
                      refine x_ifeq (tgt := 208) dX8_findCarriers_186 (by decide) rm28 (fun hc36 => ?_) (fun hc36 => ?_)
                      · replace h := hp_it hc36 h
                        cases h
                        exact x_sub [1, 2, 3, 4, 5, 6] rfl (kj rH)
                      · replace h := hp_if hc36 h
                        refine x_aload_n dX8_findCarriers_189 1 rfl ?_
                        refine x_getr 19 (sm_0 hG) (by decide) (C := RX8) (T := TX8) (N := 26) rfl in_X8 (by decide) rfl wf_876 dX8_findCarriers_190 ?_
                        refine x_iload_n dX8_findCarriers_193 3 rfl ?_
                        refine x_iload dX8_findCarriers_194 6 rfl ?_
                        obtain ⟨H37, eH37⟩ : ∃ z : hp_H, z = hp_up H 9 v2 v5 := ⟨_, rfl⟩
                        replace h := hp_let_e eH37 h
                        have rH37 := hp_ine eH37 (hp_in_up rH r5)
                        refine x_ias 4 rfl eH37 (sm_9 hG) (by decide) (Nat.le_of_ble_eq_true rfl) b19 dX8_findCarriers_196 ?_
                        refine x_aload_n dX8_findCarriers_197 1 rfl ?_
                        refine x_getr 20 (sm_0 hG) (by decide) (C := RX8) (T := TX8) (N := 26) rfl in_X8 (by decide) rfl wf_877 dX8_findCarriers_198 ?_
                        refine x_iload dX8_findCarriers_201 6 rfl ?_
                        refine x_dup2 rfl rfl dX8_findCarriers_203 ?_
                        refine x_ia 6 rfl (sm_10 hG) (by decide) (Nat.le_of_ble_eq_true rfl) b24 dX8_findCarriers_204 ?_
                        refine x_iconst dX8_findCarriers_205 ?_
                        refine x_iadd dX8_findCarriers_206 ?_
                        obtain ⟨H38, eH38⟩ : ∃ z : hp_H, z = hp_up H37 10 v5 (hp_w ((H37 10 v5) + 1)) := ⟨_, rfl⟩
                        replace h := hp_let_e eH38 h
                        have rH38 := hp_ine eH38 (hp_in_up rH37 (hp_rw _))
                        refine x_ias 6 rfl eH38 (sm_10 hG) (by decide) (Nat.le_of_ble_eq_true rfl) b24 dX8_findCarriers_207 ?_
                        cases h
                        exact x_sub [1, 2, 3, 4, 5, 6] rfl (kj rH38)
                clear h
                refine x_icge (tgt := 163) dX8_findCarriers_156 (by decide) (rH _ _) rm27 (fun hc39 => ?_) (fun hc39 => ?_)
                · refine x_iconst dX8_findCarriers_163 ?_
                  have q9 := (em28.trans (if_neg hc39))
                  subst q9
                  exact x_sub [0, 1, 2, 3, 4, 5, 6] rfl kj
                · refine x_iconst dX8_findCarriers_159 ?_
                  refine x_goto (tgt := 164) dX8_findCarriers_160 (by decide) ?_
                  have q9 := (em28.trans (if_pos hc39))
                  subst q9
                  exact x_sub [0, 1, 2, 3, 4, 5, 6] rfl kj
              clear h
              refine x_icne (tgt := 155) dX8_findCarriers_148 (by decide) rc26 (hp_rc rfl) (fun hc40 => ?_) (fun hc40 => ?_)
              · refine x_iconst dX8_findCarriers_155 ?_
                have q9 := (em27.trans (if_neg hc40))
                subst q9
                exact x_sub [1, 2, 3, 4, 5, 6, 0] rfl kj
              · refine x_iconst dX8_findCarriers_151 ?_
                refine x_goto (tgt := 156) dX8_findCarriers_152 (by decide) ?_
                have q9 := (em27.trans (if_pos hc40))
                subst q9
                exact x_sub [1, 2, 3, 4, 5, 6, 0] rfl kj
            clear h
            refine x_icle (tgt := 120) dX8_findCarriers_103 (by decide) r4 r3 (fun hc41 => ?_) (fun hc41 => ?_)
            · refine x_iload dX8_findCarriers_120 0 rfl ?_
              refine x_iload_n dX8_findCarriers_122 4 rfl ?_
              refine x_icge (tgt := 130) dX8_findCarriers_123 (by decide) rc22 r3 (fun hc43 => ?_) (fun hc43 => ?_)
              · refine x_iconst dX8_findCarriers_130 ?_
                have q9 := ((em23.trans (if_neg hc41)).trans (if_neg hc43))
                subst q9
                exact x_sub [1, 2, 3, 4, 5, 6] rfl kj
              · refine x_iconst dX8_findCarriers_126 ?_
                refine x_goto (tgt := 131) dX8_findCarriers_127 (by decide) ?_
                have q9 := ((em23.trans (if_neg hc41)).trans (if_pos hc43))
                subst q9
                exact x_sub [1, 2, 3, 4, 5, 6] rfl kj
            · refine x_iload dX8_findCarriers_106 0 rfl ?_
              refine x_iload_n dX8_findCarriers_108 4 rfl ?_
              refine x_icle (tgt := 116) dX8_findCarriers_109 (by decide) rc22 r3 (fun hc42 => ?_) (fun hc42 => ?_)
              · refine x_iconst dX8_findCarriers_116 ?_
                refine x_goto (tgt := 131) dX8_findCarriers_117 (by decide) ?_
                have q9 := ((em23.trans (if_pos hc41)).trans (if_neg hc42))
                subst q9
                exact x_sub [1, 2, 3, 4, 5, 6] rfl kj
              · refine x_iconst dX8_findCarriers_112 ?_
                refine x_goto (tgt := 131) dX8_findCarriers_113 (by decide) ?_
                have q9 := ((em23.trans (if_pos hc41)).trans (if_pos hc42))
                subst q9
                exact x_sub [1, 2, 3, 4, 5, 6] rfl kj
set_option maxRecDepth 100000 in
theorem ok_X8_findCarriers_23 {G : hp_G} (hG : hp_sh G = hp_shm) {l : Launch} {vv : Option Value} {H' : hp_H} {Z : Prop} : ∀ (n : Nat) (a : Int) (v2 : Int) (H : hp_H), (hp_sh G)[(a).toNat]? = some (1, 41, []) → 0 ≤ a → hp_r v2 → hp_in H → ∀ Hm : hp_H, f_X8_findCarriers_23 n a v2 H = some Hm → (hp_in Hm → hp_R G l cX8_findCarriers 9 none "HeelPostModel" (hp_rm 2) vv H' Z 220 [] [] Hm) → hp_R G l cX8_findCarriers 9 none "HeelPostModel" (hp_rm 2) vv H' Z 23 [(0, .ref (hp_ad G 0)), (1, .ref (hp_ad G a)), (2, .int (hp_I v2))] [] H := by
  intro n
  induction n with
  | zero =>
    intro a v2 H ha ha0 r2 rH Hm h kx
    exact hp_no h
  | succ n ih =>
    intro a v2 H ha ha0 r2 rH Hm h kx
    unfold f_X8_findCarriers_23 at h
    refine x_iload_n dX8_findCarriers_23 2 rfl ?_
    refine x_iconst dX8_findCarriers_24 ?_
    refine x_icge (tgt := 220) dX8_findCarriers_25 (by decide) r2 (hp_rc rfl) (fun hc7 => ?_) (fun hc7 => ?_)
    · replace h := hp_if hc7 h
      cases h
      exact x_sub [] rfl (kx rH)
    · replace h := hp_it hc7 h
      refine x_aload_n dX8_findCarriers_28 0 rfl ?_
      refine x_getr 19 (sm_0 hG) (by decide) (C := RX8) (T := TX8) (N := 26) rfl in_X8 (by decide) rfl wf_876 dX8_findCarriers_29 ?_
      refine x_iload_n dX8_findCarriers_32 2 rfl ?_
      refine x_ldc (x := (-1000000)) wc_989 rfl dX8_findCarriers_33 ?_
      obtain ⟨b8, h⟩ := hp_ck_e h
      obtain ⟨H9, eH9⟩ : ∃ z : hp_H, z = hp_up H 9 v2 (-1000000) := ⟨_, rfl⟩
      replace h := hp_let_e eH9 h
      have rH9 := hp_ine eH9 (hp_in_up rH (hp_rc rfl))
      refine x_ias 4 rfl eH9 (sm_9 hG) (by decide) (Nat.le_of_ble_eq_true rfl) b8 dX8_findCarriers_35 ?_
      refine x_aload_n dX8_findCarriers_36 1 rfl ?_
      refine x_iload_n dX8_findCarriers_37 2 rfl ?_
      refine x_iconst dX8_findCarriers_38 ?_
      obtain ⟨c11, g10, h⟩ := hp_b1_e h
      refine x_isi (As := [.ref (hp_ad G a), .int (hp_I v2), .int (hp_I 1)]) (ok_X8_its hG a v2 1 H9 ha ha0 r2 (hp_rc rfl) rH9 _ g10) cal_X8_its stt_X8_its wm_1052 (by decide) rfl rfl (Nat.le_of_ble_eq_true rfl) dX8_findCarriers_39 (fun z9 => ?_)
      have rc11 := z9
      refine x_istore_n (L' := [(3, .int (hp_I c11)), (0, .ref (hp_ad G 0)), (1, .ref (hp_ad G a)), (2, .int (hp_I v2))]) dX8_findCarriers_42 rfl (by decide) rfl ?_
      refine x_aload_n dX8_findCarriers_43 2 rfl ?_
      refine x_iload_n dX8_findCarriers_44 3 rfl ?_
      refine x_iconst dX8_findCarriers_45 ?_
      obtain ⟨c13, g12, h⟩ := hp_b1_e h
      refine x_isi (As := [.ref (hp_ad G a), .int (hp_I v2), .int (hp_I 2)]) (ok_X8_its hG a v2 2 H9 ha ha0 r2 (hp_rc rfl) rH9 _ g12) cal_X8_its stt_X8_its wm_1052 (by decide) rfl rfl (Nat.le_of_ble_eq_true rfl) dX8_findCarriers_46 (fun z9 => ?_)
      have rc13 := z9
      refine x_istore (L' := [(4, .int (hp_I c13)), (3, .int (hp_I c11)), (0, .ref (hp_ad G 0)), (1, .ref (hp_ad G a)), (2, .int (hp_I v2))]) dX8_findCarriers_49 (by decide) rfl ?_
      refine x_iconst dX8_findCarriers_51 ?_
      refine x_istore (L' := [(5, .int (hp_I 0)), (4, .int (hp_I c13)), (3, .int (hp_I c11)), (0, .ref (hp_ad G 0)), (1, .ref (hp_ad G a)), (2, .int (hp_I v2))]) dX8_findCarriers_52 (by decide) rfl ?_
      obtain ⟨H44, g45, h⟩ := hp_b1_e h
      refine x_sub [3, 4, 5, 2, 1, 0] rfl (ok_X8_findCarriers_54 hG 1000 a v2 c11 c13 0 H9 ha ha0 r2 rc11 rc13 (hp_rc rfl) rH9 _ g45 ?_)
      intro rH44
      obtain ⟨v2_46, ev2_46⟩ : ∃ z : Int, z = (hp_w (v2 + 1)) := ⟨_, rfl⟩
      replace h := hp_let_e ev2_46 h
      have rv2_46 := hp_re ev2_46 (hp_rw _)
      refine x_iiE (L' := [(2, .int (hp_I v2_46)), (0, .ref (hp_ad G 0)), (1, .ref (hp_ad G a))]) ev2_46 dX8_findCarriers_214 2 rfl (by decide) rfl ?_
      refine x_goto (tgt := 23) dX8_findCarriers_217 (by decide) ?_
      exact x_sub [1, 2, 0] rfl (ih a v2_46 H44 ha ha0 rv2_46 rH44 _ h kx)
set_option maxRecDepth 100000 in
theorem ok_X8_findCarriers {G : hp_G} (hG : hp_sh G = hp_shm) {l : Launch} (a : Int) (H : hp_H) (ha : (hp_sh G)[(a).toNat]? = some (1, 41, [])) (ha0 : 0 ≤ a) (rH : hp_in H) (H' : hp_H) (h : f_X8_findCarriers a H = some H') : hp_M G l yX8_findCarriers cX8_findCarriers 9 none (hp_rm 2) [.ref (hp_ad G 0), .ref (hp_ad G a)] H none H' (hp_in H') := by
  unfold f_X8_findCarriers at h
  refine hp_body "HeelPostModel" (by decide) rfl ⟨rfl, rfl⟩ (Nat.le_of_ble_eq_true rfl) ?_
  show hp_R G l cX8_findCarriers 9 none "HeelPostModel" (hp_rm 2) none H' (hp_in H') 0 [(0, .ref (hp_ad G 0)), (1, .ref (hp_ad G a))] [] H
  refine x_iconst dX8_findCarriers_0 ?_
  refine x_istore_n (L' := [(2, .int (hp_I 0)), (0, .ref (hp_ad G 0)), (1, .ref (hp_ad G a))]) dX8_findCarriers_1 rfl (by decide) rfl ?_
  obtain ⟨H5, g6, h⟩ := hp_b1_e h
  refine x_sub [1, 2, 0] rfl (ok_X8_findCarriers_2 hG 1000 a 0 H ha ha0 (hp_rc rfl) rH _ g6 ?_)
  intro rH5
  refine x_iconst dX8_findCarriers_21 ?_
  refine x_istore_n (L' := [(2, .int (hp_I 0)), (0, .ref (hp_ad G 0)), (1, .ref (hp_ad G a))]) dX8_findCarriers_22 rfl (by decide) rfl ?_
  obtain ⟨H47, g48, h⟩ := hp_b1_e h
  refine x_sub [1, 2, 0] rfl (ok_X8_findCarriers_23 hG 1000 a 0 H5 ha ha0 (hp_rc rfl) rH5 _ g48 ?_)
  intro rH47
  cases h
  exact x_vret rH47 dX8_findCarriers_220
set_option maxRecDepth 100000 in
theorem ok_X8_hour_9 {G : hp_G} (hG : hp_sh G = hp_shm) {l : Launch} {vv : Option Value} {H' : hp_H} {Z : Prop} : ∀ (n : Nat) (a : Int) (v2 : Int) (v3 : Int) (H : hp_H), (hp_sh G)[(a).toNat]? = some (1, 41, []) → 0 ≤ a → hp_r v2 → hp_r v3 → hp_in H → ∀ m2 : Int, ∀ Hm : hp_H, f_X8_hour_9 n a v2 v3 H = some (m2, Hm) → (hp_r m2 → hp_in Hm → hp_R G l cX8_hour 8 (some .int) "HeelPostModel" (hp_rm 3) vv H' Z 124 [(1, .ref (hp_ad G a)), (2, .int (hp_I m2))] [] Hm) → hp_R G l cX8_hour 8 (some .int) "HeelPostModel" (hp_rm 3) vv H' Z 9 [(0, .ref (hp_ad G 0)), (1, .ref (hp_ad G a)), (2, .int (hp_I v2)), (3, .int (hp_I v3))] [] H := by
  intro n
  induction n with
  | zero =>
    intro a v2 v3 H ha ha0 r2 r3 rH m2 Hm h kx
    exact hp_no h
  | succ n ih =>
    intro a v2 v3 H ha ha0 r2 r3 rH m2 Hm h kx
    unfold f_X8_hour_9 at h
    refine x_iload_n dX8_hour_9 3 rfl ?_
    refine x_iconst dX8_hour_10 ?_
    refine x_icge (tgt := 124) dX8_hour_11 (by decide) r3 (hp_rc rfl) (fun hc3 => ?_) (fun hc3 => ?_)
    · replace h := hp_if hc3 h
      cases h
      exact x_sub [1, 2] rfl (kx r2 rH)
    · replace h := hp_it hc3 h
      refine x_aload_n dX8_hour_14 0 rfl ?_
      refine x_getr 19 (sm_0 hG) (by decide) (C := RX8) (T := TX8) (N := 26) rfl in_X8 (by decide) rfl wf_876 dX8_hour_15 ?_
      refine x_iload_n dX8_hour_18 3 rfl ?_
      obtain ⟨b4, h⟩ := hp_ck_e h
      refine x_ia 4 rfl (sm_9 hG) (by decide) (Nat.le_of_ble_eq_true rfl) b4 dX8_hour_19 ?_
      refine x_ldc (x := (-1000000)) wc_989 rfl dX8_hour_20 ?_
      obtain ⟨v2_5, H6, hm7, h⟩ := hp_b2_e h
      have kj : hp_r v2_5 → hp_in H6 → hp_R G l cX8_hour 8 (some .int) "HeelPostModel" (hp_rm 3) vv H' Z 118 [(0, .ref (hp_ad G 0)), (1, .ref (hp_ad G a)), (2, .int (hp_I v2_5)), (3, .int (hp_I v3))] [] H6 := by
        intro rv2_5 rH6
        obtain ⟨v3_8, ev3_8⟩ : ∃ z : Int, z = (hp_w (v3 + 1)) := ⟨_, rfl⟩
        replace h := hp_let_e ev3_8 h
        have rv3_8 := hp_re ev3_8 (hp_rw _)
        refine x_iiE (L' := [(3, .int (hp_I v3_8)), (0, .ref (hp_ad G 0)), (1, .ref (hp_ad G a)), (2, .int (hp_I v2_5))]) ev3_8 dX8_hour_118 3 rfl (by decide) rfl ?_
        refine x_goto (tgt := 9) dX8_hour_121 (by decide) ?_
        exact x_sub [1, 2, 3, 0] rfl (ih a v2_5 v3_8 H6 ha ha0 rv2_5 rv3_8 rH6 _ _ h kx)
      clear h
      have h := hm7
      clear hm7
      refine x_iceq (tgt := 118) dX8_hour_22 (by decide) (rH _ _) (hp_rc rfl) (fun hc9 => ?_) (fun hc9 => ?_)
      · replace h := hp_it hc9 h
        cases h
        exact x_sub [0, 1, 2, 3] rfl (kj r2 rH)
      · replace h := hp_if hc9 h
        refine x_aload_n dX8_hour_25 1 rfl ?_
        refine x_iload_n dX8_hour_26 3 rfl ?_
        refine x_iconst dX8_hour_27 ?_
        obtain ⟨c11, g10, h⟩ := hp_b1_e h
        refine x_isi (As := [.ref (hp_ad G a), .int (hp_I v3), .int (hp_I 1)]) (ok_X8_its hG a v3 1 H ha ha0 r3 (hp_rc rfl) rH _ g10) cal_X8_its stt_X8_its wm_1052 (by decide) rfl rfl (Nat.le_of_ble_eq_true rfl) dX8_hour_28 (fun z9 => ?_)
        have rc11 := z9
        refine x_istore (L' := [(4, .int (hp_I c11)), (0, .ref (hp_ad G 0)), (1, .ref (hp_ad G a)), (2, .int (hp_I v2)), (3, .int (hp_I v3))]) dX8_hour_31 (by decide) rfl ?_
        refine x_aload_n dX8_hour_33 2 rfl ?_
        refine x_iload_n dX8_hour_34 4 rfl ?_
        refine x_iconst dX8_hour_35 ?_
        obtain ⟨c13, g12, h⟩ := hp_b1_e h
        refine x_isi (As := [.ref (hp_ad G a), .int (hp_I v3), .int (hp_I 2)]) (ok_X8_its hG a v3 2 H ha ha0 r3 (hp_rc rfl) rH _ g12) cal_X8_its stt_X8_its wm_1052 (by decide) rfl rfl (Nat.le_of_ble_eq_true rfl) dX8_hour_36 (fun z9 => ?_)
        have rc13 := z9
        refine x_istore (L' := [(5, .int (hp_I c13)), (4, .int (hp_I c11)), (0, .ref (hp_ad G 0)), (1, .ref (hp_ad G a)), (2, .int (hp_I v2)), (3, .int (hp_I v3))]) dX8_hour_39 (by decide) rfl ?_
        refine x_aload_n dX8_hour_41 3 rfl ?_
        refine x_aload_n dX8_hour_42 2 rfl ?_
        refine x_getr 19 (sm_0 hG) (by decide) (C := RX8) (T := TX8) (N := 26) rfl in_X8 (by decide) rfl wf_876 dX8_hour_43 ?_
        refine x_iload_n dX8_hour_46 5 rfl ?_
        refine x_ia 4 rfl (sm_9 hG) (by decide) (Nat.le_of_ble_eq_true rfl) b4 dX8_hour_47 ?_
        refine x_aload_n dX8_hour_48 3 rfl ?_
        refine x_iconst dX8_hour_49 ?_
        refine x_ia 41 rfl ha ha0 (Nat.le_of_ble_eq_true rfl) (by decide) dX8_hour_50 ?_
        refine x_iconst dX8_hour_51 ?_
        refine x_iadd dX8_hour_52 ?_
        obtain ⟨c15, g14, h⟩ := hp_b1_e h
        refine x_isi (As := [.ref (hp_ad G a), .int (hp_I (H 9 v3)), .int (hp_I (hp_w ((H a 3) + 1)))]) (ok_X8_place hG a (H 9 v3) (hp_w ((H a 3) + 1)) H ha ha0 (rH _ _) (hp_rw _) rH _ g14) cal_X8_place stt_X8_place wm_1058 (by decide) rfl rfl (Nat.le_of_ble_eq_true rfl) dX8_hour_53 (fun z9 => ?_)
        have rc15 := z9
        refine x_istore (L' := [(6, .int (hp_I c15)), (5, .int (hp_I c13)), (4, .int (hp_I c11)), (0, .ref (hp_ad G 0)), (1, .ref (hp_ad G a)), (2, .int (hp_I v2)), (3, .int (hp_I v3))]) dX8_hour_56 (by decide) rfl ?_
        refine x_iload dX8_hour_58 1 rfl ?_
        refine x_iload dX8_hour_60 2 rfl ?_
        obtain ⟨m16, em16⟩ : ∃ z : Int, z = (if c11 < c13 then (if c13 < c15 then 1 else 0) else (if c15 < c13 then 1 else 0)) := ⟨_, rfl⟩
        replace h := hp_let_e em16 h
        have rm16 := hp_re em16 (hp_rite (hp_rite (hp_rc rfl) (hp_rc rfl)) (hp_rite (hp_rc rfl) (hp_rc rfl)))
        have zm16 : m16 = 0 ∨ m16 = 1 := by rw [em16]; exact (hp_z01 (hp_z01 (Or.inr rfl) (Or.inl rfl)) (hp_z01 (Or.inr rfl) (Or.inl rfl)))
        have kj : hp_R G l cX8_hour 8 (some .int) "HeelPostModel" (hp_rm 3) vv H' Z 92 [(0, .ref (hp_ad G 0)), (1, .ref (hp_ad G a)), (2, .int (hp_I v2)), (3, .int (hp_I v3)), (5, .int (hp_I c13)), (6, .int (hp_I c15))] [.int (hp_I m16)] H := by
          refine x_istore (L' := [(7, .int (hp_I m16)), (0, .ref (hp_ad G 0)), (1, .ref (hp_ad G a)), (2, .int (hp_I v2)), (3, .int (hp_I v3)), (5, .int (hp_I c13)), (6, .int (hp_I c15))]) dX8_hour_92 (by decide) rfl ?_
          refine x_aload_n dX8_hour_94 2 rfl ?_
          refine x_iconst dX8_hour_95 ?_
          refine x_iconst dX8_hour_96 ?_
          refine x_iload_n dX8_hour_97 4 rfl ?_
          refine x_imul dX8_hour_98 ?_
          refine x_iadd dX8_hour_99 ?_
          refine x_iconst dX8_hour_100 ?_
          refine x_iadd dX8_hour_101 ?_
          refine x_iload dX8_hour_102 0 rfl ?_
          obtain ⟨m17, em17⟩ : ∃ z : Int, z = (if m16 = 0 then c15 else c13) := ⟨_, rfl⟩
          replace h := hp_let_e em17 h
          have rm17 := hp_re em17 (hp_rite rc15 rc13)
          have kj : hp_R G l cX8_hour 8 (some .int) "HeelPostModel" (hp_rm 3) vv H' Z 114 [(0, .ref (hp_ad G 0)), (1, .ref (hp_ad G a)), (2, .int (hp_I v2)), (3, .int (hp_I v3))] [.int (hp_I m17), .int (hp_I (hp_w ((hp_w (5 + (hp_w (3 * v3)))) + 1))), .ref (hp_ad G a)] H := by
            obtain ⟨b18, h⟩ := hp_ck_e h
            obtain ⟨H19, eH19⟩ : ∃ z : hp_H, z = hp_up H a (hp_w ((hp_w (5 + (hp_w (3 * v3)))) + 1)) m17 := ⟨_, rfl⟩
            replace h := hp_let_e eH19 h
            have rH19 := hp_ine eH19 (hp_in_up rH rm17)
            refine x_ias 41 rfl eH19 ha ha0 (Nat.le_of_ble_eq_true rfl) b18 dX8_hour_114 ?_
            obtain ⟨v2_20, ev2_20⟩ : ∃ z : Int, z = (hp_w (v2 + 1)) := ⟨_, rfl⟩
            replace h := hp_let_e ev2_20 h
            have rv2_20 := hp_re ev2_20 (hp_rw _)
            refine x_iiE (L' := [(2, .int (hp_I v2_20)), (0, .ref (hp_ad G 0)), (1, .ref (hp_ad G a)), (3, .int (hp_I v3))]) ev2_20 dX8_hour_115 2 rfl (by decide) rfl ?_
            cases h
            exact x_sub [1, 2, 0, 3] rfl (kj rv2_20 rH19)
          clear h
          refine x_ifeq (tgt := 112) dX8_hour_104 (by decide) rm16 (fun hc21 => ?_) (fun hc21 => ?_)
          · refine x_iload dX8_hour_112 6 rfl ?_
            have q9 := (em17.trans (if_pos hc21))
            subst q9
            exact x_sub [1, 2, 3, 4] rfl kj
          · refine x_iload dX8_hour_107 5 rfl ?_
            refine x_goto (tgt := 114) dX8_hour_109 (by decide) ?_
            have q9 := (em17.trans (if_neg hc21))
            subst q9
            exact x_sub [1, 2, 3, 4] rfl kj
        clear h
        refine x_icle (tgt := 80) dX8_hour_62 (by decide) rc13 rc11 (fun hc22 => ?_) (fun hc22 => ?_)
        · refine x_iload dX8_hour_80 0 rfl ?_
          refine x_iload dX8_hour_82 1 rfl ?_
          refine x_icge (tgt := 91) dX8_hour_84 (by decide) rc15 rc13 (fun hc24 => ?_) (fun hc24 => ?_)
          · refine x_iconst dX8_hour_91 ?_
            have q9 := ((em16.trans (if_neg hc22)).trans (if_neg hc24))
            subst q9
            exact x_sub [3, 4, 5, 6, 1, 0] rfl kj
          · refine x_iconst dX8_hour_87 ?_
            refine x_goto (tgt := 92) dX8_hour_88 (by decide) ?_
            have q9 := ((em16.trans (if_neg hc22)).trans (if_pos hc24))
            subst q9
            exact x_sub [3, 4, 5, 6, 1, 0] rfl kj
        · refine x_iload dX8_hour_65 0 rfl ?_
          refine x_iload dX8_hour_67 1 rfl ?_
          refine x_icle (tgt := 76) dX8_hour_69 (by decide) rc15 rc13 (fun hc23 => ?_) (fun hc23 => ?_)
          · refine x_iconst dX8_hour_76 ?_
            refine x_goto (tgt := 92) dX8_hour_77 (by decide) ?_
            have q9 := ((em16.trans (if_pos hc22)).trans (if_neg hc23))
            subst q9
            exact x_sub [3, 4, 5, 6, 1, 0] rfl kj
          · refine x_iconst dX8_hour_72 ?_
            refine x_goto (tgt := 92) dX8_hour_73 (by decide) ?_
            have q9 := ((em16.trans (if_pos hc22)).trans (if_pos hc23))
            subst q9
            exact x_sub [3, 4, 5, 6, 1, 0] rfl kj
set_option maxRecDepth 100000 in
theorem ok_X8_hour {G : hp_G} (hG : hp_sh G = hp_shm) {l : Launch} (a : Int) (H : hp_H) (ha : (hp_sh G)[(a).toNat]? = some (1, 41, [])) (ha0 : 0 ≤ a) (rH : hp_in H) (x : Int × hp_H) (h : f_X8_hour a H = some x) : hp_M G l yX8_hour cX8_hour 8 (some .int) (hp_rm 3) [.ref (hp_ad G 0), .ref (hp_ad G a)] H (some (.int (hp_I x.1))) x.2 (hp_r x.1 ∧ hp_in x.2) := by
  obtain ⟨r, H'⟩ := x
  unfold f_X8_hour at h
  refine hp_body "HeelPostModel" (by decide) rfl ⟨rfl, rfl⟩ (Nat.le_of_ble_eq_true rfl) ?_
  show hp_R G l cX8_hour 8 (some .int) "HeelPostModel" (hp_rm 3) (some (.int (hp_I r))) H' (hp_r r ∧ hp_in H') 0 [(0, .ref (hp_ad G 0)), (1, .ref (hp_ad G a))] [] H
  refine x_iconst dX8_hour_0 ?_
  refine x_istore_n (L' := [(2, .int (hp_I 0)), (0, .ref (hp_ad G 0)), (1, .ref (hp_ad G a))]) dX8_hour_1 rfl (by decide) rfl ?_
  refine x_aload_n dX8_hour_2 1 rfl ?_
  refine x_aload_n dX8_hour_3 2 rfl ?_
  obtain ⟨H2, g1, h⟩ := hp_b1_e h
  refine x_ivv (As := [.ref (hp_ad G a)]) (ok_X8_findCarriers hG a H ha ha0 rH _ g1) cal_X8_findCarriers (sm_0 hG) (by decide) (C := RX8) (T := TX8) (N := 26) rfl rfl ins_X8_findCarriers sel_X8_findCarriers wm_1048 (by decide) rfl rfl (Nat.le_of_ble_eq_true rfl) dX8_hour_4 (fun z9 => ?_)
  have rH2 := z9
  refine x_iconst dX8_hour_7 ?_
  refine x_istore_n (L' := [(3, .int (hp_I 0)), (2, .int (hp_I 0)), (0, .ref (hp_ad G 0)), (1, .ref (hp_ad G a))]) dX8_hour_8 rfl (by decide) rfl ?_
  obtain ⟨v2_25, H26, g27, h⟩ := hp_b2_e h
  refine x_sub [2, 3, 1, 0] rfl (ok_X8_hour_9 hG 1000 a 0 0 H2 ha ha0 (hp_rc rfl) (hp_rc rfl) rH2 _ _ g27 ?_)
  intro rv2_25 rH26
  refine x_aload_n dX8_hour_124 0 rfl ?_
  refine x_iconst dX8_hour_125 ?_
  refine x_dup2 rfl rfl dX8_hour_126 ?_
  refine x_ia 41 rfl ha ha0 (Nat.le_of_ble_eq_true rfl) (by decide) dX8_hour_127 ?_
  refine x_iconst dX8_hour_128 ?_
  refine x_iadd dX8_hour_129 ?_
  obtain ⟨H28, eH28⟩ : ∃ z : hp_H, z = hp_up H26 a 3 (hp_w ((H26 a 3) + 1)) := ⟨_, rfl⟩
  replace h := hp_let_e eH28 h
  have rH28 := hp_ine eH28 (hp_in_up rH26 (hp_rw _))
  refine x_ias 41 rfl eH28 ha ha0 (Nat.le_of_ble_eq_true rfl) (by decide) dX8_hour_130 ?_
  refine x_iload_n dX8_hour_131 1 rfl ?_
  cases h
  exact x_iret ⟨rv2_25, rH28⟩ dX8_hour_132
set_option maxRecDepth 100000 in
theorem ok_X8_hoursOf_2 {G : hp_G} (hG : hp_sh G = hp_shm) {l : Launch} {vv : Option Value} {H' : hp_H} {Z : Prop} : ∀ (n : Nat) (a : Int) (v2 : Int) (v3 : Int) (H : hp_H), (hp_sh G)[(a).toNat]? = some (1, 41, []) → 0 ≤ a → hp_r v2 → hp_r v3 → hp_in H → ∀ Hm : hp_H, f_X8_hoursOf_2 n a v2 v3 H = some Hm → (hp_in Hm → hp_R G l cX8_hoursOf 5 none "HeelPostModel" (hp_rm 4) vv H' Z 20 [] [] Hm) → hp_R G l cX8_hoursOf 5 none "HeelPostModel" (hp_rm 4) vv H' Z 2 [(0, .ref (hp_ad G 0)), (1, .ref (hp_ad G a)), (2, .int (hp_I v2)), (3, .int (hp_I v3))] [] H := by
  intro n
  induction n with
  | zero =>
    intro a v2 v3 H ha ha0 r2 r3 rH Hm h kx
    exact hp_no h
  | succ n ih =>
    intro a v2 v3 H ha ha0 r2 r3 rH Hm h kx
    unfold f_X8_hoursOf_2 at h
    refine x_iload_n dX8_hoursOf_2 3 rfl ?_
    refine x_iload_n dX8_hoursOf_3 2 rfl ?_
    refine x_icge (tgt := 20) dX8_hoursOf_4 (by decide) r3 r2 (fun hc1 => ?_) (fun hc1 => ?_)
    · replace h := hp_if hc1 h
      cases h
      exact x_sub [] rfl (kx rH)
    · replace h := hp_it hc1 h
      refine x_aload_n dX8_hoursOf_7 0 rfl ?_
      refine x_aload_n dX8_hoursOf_8 1 rfl ?_
      obtain ⟨c3, H4, g2, h⟩ := hp_b2_e h
      refine x_ivi (As := [.ref (hp_ad G a)]) (ok_X8_hour hG a H ha ha0 rH _ g2) cal_X8_hour (sm_0 hG) (by decide) (C := RX8) (T := TX8) (N := 26) rfl rfl ins_X8_hour sel_X8_hour wm_1044 (by decide) rfl rfl (Nat.le_of_ble_eq_true rfl) dX8_hoursOf_9 (fun z9 => ?_)
      obtain ⟨rc3, rH4⟩ := z9
      refine x_istore (L' := [(4, .int (hp_I c3)), (0, .ref (hp_ad G 0)), (1, .ref (hp_ad G a)), (2, .int (hp_I v2)), (3, .int (hp_I v3))]) dX8_hoursOf_12 (by decide) rfl ?_
      obtain ⟨v3_5, ev3_5⟩ : ∃ z : Int, z = (hp_w (v3 + 1)) := ⟨_, rfl⟩
      replace h := hp_let_e ev3_5 h
      have rv3_5 := hp_re ev3_5 (hp_rw _)
      refine x_iiE (L' := [(3, .int (hp_I v3_5)), (4, .int (hp_I c3)), (0, .ref (hp_ad G 0)), (1, .ref (hp_ad G a)), (2, .int (hp_I v2))]) ev3_5 dX8_hoursOf_14 4 rfl (by decide) rfl ?_
      refine x_goto (tgt := 2) dX8_hoursOf_17 (by decide) ?_
      exact x_sub [2, 3, 4, 0] rfl (ih a v2 v3_5 H4 ha ha0 r2 rv3_5 rH4 _ h kx)
set_option maxRecDepth 100000 in
theorem ok_X8_hoursOf {G : hp_G} (hG : hp_sh G = hp_shm) {l : Launch} (a : Int) (v2 : Int) (H : hp_H) (ha : (hp_sh G)[(a).toNat]? = some (1, 41, [])) (ha0 : 0 ≤ a) (r2 : hp_r v2) (rH : hp_in H) (H' : hp_H) (h : f_X8_hoursOf a v2 H = some H') : hp_M G l yX8_hoursOf cX8_hoursOf 5 none (hp_rm 4) [.ref (hp_ad G 0), .ref (hp_ad G a), .int (hp_I v2)] H none H' (hp_in H') := by
  unfold f_X8_hoursOf at h
  refine hp_body "HeelPostModel" (by decide) rfl ⟨rfl, rfl⟩ (Nat.le_of_ble_eq_true rfl) ?_
  show hp_R G l cX8_hoursOf 5 none "HeelPostModel" (hp_rm 4) none H' (hp_in H') 0 [(0, .ref (hp_ad G 0)), (1, .ref (hp_ad G a)), (2, .int (hp_I v2))] [] H
  refine x_iconst dX8_hoursOf_0 ?_
  refine x_istore_n (L' := [(3, .int (hp_I 0)), (0, .ref (hp_ad G 0)), (1, .ref (hp_ad G a)), (2, .int (hp_I v2))]) dX8_hoursOf_1 rfl (by decide) rfl ?_
  obtain ⟨H6, g7, h⟩ := hp_b1_e h
  refine x_sub [1, 2, 3, 0] rfl (ok_X8_hoursOf_2 hG 1000 a v2 0 H ha ha0 r2 (hp_rc rfl) rH _ g7 ?_)
  intro rH6
  cases h
  exact x_vret rH6 dX8_hoursOf_20
set_option maxRecDepth 100000 in
theorem ok_X8_posts {G : hp_G} (hG : hp_sh G = hp_shm) {l : Launch} (a : Int) (v1 : Int) (v2 : Int) (v3 : Int) (H : hp_H) (ha : (hp_sh G)[(a).toNat]? = some (1, 41, [])) (ha0 : 0 ≤ a) (r1 : hp_r v1) (r2 : hp_r v2) (r3 : hp_r v3) (rH : hp_in H) (H' : hp_H) (h : f_X8_posts a v1 v2 v3 H = some H') : hp_M G l yX8_posts cX8_posts 4 none (hp_rm 0) [.ref (hp_ad G a), .int (hp_I v1), .int (hp_I v2), .int (hp_I v3)] H none H' (hp_in H') := by
  unfold f_X8_posts at h
  refine hp_body "HeelPostModel" (by decide) rfl ⟨rfl, rfl⟩ (Nat.le_of_ble_eq_true rfl) ?_
  show hp_R G l cX8_posts 4 none "HeelPostModel" (hp_rm 0) none H' (hp_in H') 0 [(0, .ref (hp_ad G a)), (1, .int (hp_I v1)), (2, .int (hp_I v2)), (3, .int (hp_I v3))] [] H
  refine x_aload_n dX8_posts_0 0 rfl ?_
  refine x_iconst dX8_posts_1 ?_
  refine x_iconst dX8_posts_2 ?_
  refine x_iload_n dX8_posts_3 1 rfl ?_
  refine x_imul dX8_posts_4 ?_
  refine x_iadd dX8_posts_5 ?_
  refine x_iconst dX8_posts_6 ?_
  obtain ⟨b1, h⟩ := hp_ck_e h
  obtain ⟨H2, eH2⟩ : ∃ z : hp_H, z = hp_up H a (hp_w (5 + (hp_w (3 * v1)))) 1 := ⟨_, rfl⟩
  replace h := hp_let_e eH2 h
  have rH2 := hp_ine eH2 (hp_in_up rH (hp_rc rfl))
  refine x_ias 41 rfl eH2 ha ha0 (Nat.le_of_ble_eq_true rfl) b1 dX8_posts_7 ?_
  refine x_aload_n dX8_posts_8 0 rfl ?_
  refine x_iconst dX8_posts_9 ?_
  refine x_iconst dX8_posts_10 ?_
  refine x_iload_n dX8_posts_11 1 rfl ?_
  refine x_imul dX8_posts_12 ?_
  refine x_iadd dX8_posts_13 ?_
  refine x_iconst dX8_posts_14 ?_
  refine x_iadd dX8_posts_15 ?_
  refine x_iload_n dX8_posts_16 2 rfl ?_
  obtain ⟨b3, h⟩ := hp_ck_e h
  obtain ⟨H4, eH4⟩ : ∃ z : hp_H, z = hp_up H2 a (hp_w ((hp_w (5 + (hp_w (3 * v1)))) + 1)) v2 := ⟨_, rfl⟩
  replace h := hp_let_e eH4 h
  have rH4 := hp_ine eH4 (hp_in_up rH2 r2)
  refine x_ias 41 rfl eH4 ha ha0 (Nat.le_of_ble_eq_true rfl) b3 dX8_posts_17 ?_
  refine x_aload_n dX8_posts_18 0 rfl ?_
  refine x_iconst dX8_posts_19 ?_
  refine x_iconst dX8_posts_20 ?_
  refine x_iload_n dX8_posts_21 1 rfl ?_
  refine x_imul dX8_posts_22 ?_
  refine x_iadd dX8_posts_23 ?_
  refine x_iconst dX8_posts_24 ?_
  refine x_iadd dX8_posts_25 ?_
  refine x_iload_n dX8_posts_26 3 rfl ?_
  obtain ⟨b5, h⟩ := hp_ck_e h
  obtain ⟨H6, eH6⟩ : ∃ z : hp_H, z = hp_up H4 a (hp_w ((hp_w (5 + (hp_w (3 * v1)))) + 2)) v3 := ⟨_, rfl⟩
  replace h := hp_let_e eH6 h
  have rH6 := hp_ine eH6 (hp_in_up rH4 r3)
  refine x_ias 41 rfl eH6 ha ha0 (Nat.le_of_ble_eq_true rfl) b5 dX8_posts_27 ?_
  cases h
  exact x_vret rH6 dX8_posts_28
set_option maxRecDepth 100000 in
theorem ok_X8_outs_4 {G : hp_G} (hG : hp_sh G = hp_shm) {l : Launch} {vv : Option Value} {H' : hp_H} {Z : Prop} : ∀ (n : Nat) (a : Int) (v1 : Int) (v2 : Int) (H : hp_H), (hp_sh G)[(a).toNat]? = some (1, 41, []) → 0 ≤ a → hp_r v1 → hp_r v2 → hp_in H → ∀ m1 : Int, f_X8_outs_4 n a v1 v2 H = some m1 → (hp_r m1 → hp_R G l cX8_outs 3 (some .int) "HeelPostModel" (hp_rm 2) vv H' Z 33 [(1, .int (hp_I m1))] [] H) → hp_R G l cX8_outs 3 (some .int) "HeelPostModel" (hp_rm 2) vv H' Z 4 [(0, .ref (hp_ad G a)), (1, .int (hp_I v1)), (2, .int (hp_I v2))] [] H := by
  intro n
  induction n with
  | zero =>
    intro a v1 v2 H ha ha0 r1 r2 rH m1 h kx
    exact hp_no h
  | succ n ih =>
    intro a v1 v2 H ha ha0 r1 r2 rH m1 h kx
    unfold f_X8_outs_4 at h
    refine x_iload_n dX8_outs_4 2 rfl ?_
    refine x_iconst dX8_outs_5 ?_
    refine x_icge (tgt := 33) dX8_outs_6 (by decide) r2 (hp_rc rfl) (fun hc1 => ?_) (fun hc1 => ?_)
    · replace h := hp_if hc1 h
      cases h
      exact x_sub [1] rfl (kx r1)
    · replace h := hp_it hc1 h
      refine x_iload_n dX8_outs_9 1 rfl ?_
      refine x_aload_n dX8_outs_10 0 rfl ?_
      refine x_iload_n dX8_outs_11 2 rfl ?_
      obtain ⟨c3, g2, h⟩ := hp_b1_e h
      refine x_isi (As := [.ref (hp_ad G a), .int (hp_I v2)]) (ok_X8_isOut hG a v2 H ha ha0 r2 rH _ g2) cal_X8_isOut stt_X8_isOut wm_1055 (by decide) rfl rfl (Nat.le_of_ble_eq_true rfl) dX8_outs_12 (fun z9 => ?_)
      have rc3 := z9
      obtain ⟨m4, em4⟩ : ∃ z : Int, z = (if c3 = 0 then 0 else (hp_shl 1 v2)) := ⟨_, rfl⟩
      replace h := hp_let_e em4 h
      have rm4 := hp_re em4 (hp_rite (hp_rc rfl) (hp_rshl _ _))
      have kj : hp_R G l cX8_outs 3 (some .int) "HeelPostModel" (hp_rm 2) vv H' Z 25 [(0, .ref (hp_ad G a)), (2, .int (hp_I v2))] [.int (hp_I m4), .int (hp_I v1)] H := by
        refine x_ior dX8_outs_25 ?_
        obtain ⟨v1_5, ev1_5⟩ : ∃ z : Int, z = (hp_or v1 m4) := ⟨_, rfl⟩
        replace h := hp_let_e ev1_5 h
        have rv1_5 := hp_re ev1_5 (hp_ror _ _)
        refine x_isnE (L' := [(1, .int (hp_I v1_5)), (0, .ref (hp_ad G a)), (2, .int (hp_I v2))]) ev1_5 dX8_outs_26 rfl (by decide) rfl ?_
        obtain ⟨v2_6, ev2_6⟩ : ∃ z : Int, z = (hp_w (v2 + 1)) := ⟨_, rfl⟩
        replace h := hp_let_e ev2_6 h
        have rv2_6 := hp_re ev2_6 (hp_rw _)
        refine x_iiE (L' := [(2, .int (hp_I v2_6)), (1, .int (hp_I v1_5)), (0, .ref (hp_ad G a))]) ev2_6 dX8_outs_27 2 rfl (by decide) rfl ?_
        refine x_goto (tgt := 4) dX8_outs_30 (by decide) ?_
        exact x_sub [2, 1, 0] rfl (ih a v1_5 v2_6 H ha ha0 rv1_5 rv2_6 rH _ h kx)
      clear h
      refine x_ifeq (tgt := 24) dX8_outs_15 (by decide) rc3 (fun hc7 => ?_) (fun hc7 => ?_)
      · refine x_iconst dX8_outs_24 ?_
        have q9 := (em4.trans (if_pos hc7))
        subst q9
        exact x_sub [0, 2] rfl kj
      · refine x_iconst dX8_outs_18 ?_
        refine x_iload_n dX8_outs_19 2 rfl ?_
        refine x_ishl dX8_outs_20 ?_
        refine x_goto (tgt := 25) dX8_outs_21 (by decide) ?_
        have q9 := (em4.trans (if_neg hc7))
        subst q9
        exact x_sub [0, 2] rfl kj
set_option maxRecDepth 100000 in
theorem ok_X8_outs {G : hp_G} (hG : hp_sh G = hp_shm) {l : Launch} (a : Int) (H : hp_H) (ha : (hp_sh G)[(a).toNat]? = some (1, 41, [])) (ha0 : 0 ≤ a) (rH : hp_in H) (r : Int) (h : f_X8_outs a H = some r) : hp_M G l yX8_outs cX8_outs 3 (some .int) (hp_rm 2) [.ref (hp_ad G a)] H (some (.int (hp_I r))) H (hp_r r) := by
  unfold f_X8_outs at h
  refine hp_body "HeelPostModel" (by decide) rfl ⟨rfl, rfl⟩ (Nat.le_of_ble_eq_true rfl) ?_
  show hp_R G l cX8_outs 3 (some .int) "HeelPostModel" (hp_rm 2) (some (.int (hp_I r))) H (hp_r r) 0 [(0, .ref (hp_ad G a))] [] H
  refine x_iconst dX8_outs_0 ?_
  refine x_istore_n (L' := [(1, .int (hp_I 0)), (0, .ref (hp_ad G a))]) dX8_outs_1 rfl (by decide) rfl ?_
  refine x_iconst dX8_outs_2 ?_
  refine x_istore_n (L' := [(2, .int (hp_I 0)), (1, .int (hp_I 0)), (0, .ref (hp_ad G a))]) dX8_outs_3 rfl (by decide) rfl ?_
  obtain ⟨v1_8, g9, h⟩ := hp_b1_e h
  refine x_sub [2, 1, 0] rfl (ok_X8_outs_4 hG 1000 a 0 0 H ha ha0 (hp_rc rfl) (hp_rc rfl) rH _ g9 ?_)
  intro rv1_8
  refine x_iload_n dX8_outs_33 0 rfl ?_
  cases h
  exact x_iret rv1_8 dX8_outs_34
set_option maxRecDepth 100000 in
theorem ok_X8_dones_4 {G : hp_G} (hG : hp_sh G = hp_shm) {l : Launch} {vv : Option Value} {H' : hp_H} {Z : Prop} : ∀ (n : Nat) (a : Int) (v1 : Int) (v2 : Int) (H : hp_H), (hp_sh G)[(a).toNat]? = some (1, 41, []) → 0 ≤ a → hp_r v1 → hp_r v2 → hp_in H → ∀ m1 : Int, f_X8_dones_4 n a v1 v2 H = some m1 → (hp_r m1 → hp_R G l cX8_dones 3 (some .int) "HeelPostModel" (hp_rm 3) vv H' Z 33 [(1, .int (hp_I m1))] [] H) → hp_R G l cX8_dones 3 (some .int) "HeelPostModel" (hp_rm 3) vv H' Z 4 [(0, .ref (hp_ad G a)), (1, .int (hp_I v1)), (2, .int (hp_I v2))] [] H := by
  intro n
  induction n with
  | zero =>
    intro a v1 v2 H ha ha0 r1 r2 rH m1 h kx
    exact hp_no h
  | succ n ih =>
    intro a v1 v2 H ha ha0 r1 r2 rH m1 h kx
    unfold f_X8_dones_4 at h
    refine x_iload_n dX8_dones_4 2 rfl ?_
    refine x_iconst dX8_dones_5 ?_
    refine x_icge (tgt := 33) dX8_dones_6 (by decide) r2 (hp_rc rfl) (fun hc1 => ?_) (fun hc1 => ?_)
    · replace h := hp_if hc1 h
      cases h
      exact x_sub [1] rfl (kx r1)
    · replace h := hp_it hc1 h
      refine x_iload_n dX8_dones_9 1 rfl ?_
      refine x_aload_n dX8_dones_10 0 rfl ?_
      refine x_iload_n dX8_dones_11 2 rfl ?_
      obtain ⟨c3, g2, h⟩ := hp_b1_e h
      refine x_isi (As := [.ref (hp_ad G a), .int (hp_I v2)]) (ok_X8_isDone hG a v2 H ha ha0 r2 rH _ g2) cal_X8_isDone stt_X8_isDone wm_1070 (by decide) rfl rfl (Nat.le_of_ble_eq_true rfl) dX8_dones_12 (fun z9 => ?_)
      have rc3 := z9
      obtain ⟨m4, em4⟩ : ∃ z : Int, z = (if c3 = 0 then 0 else (hp_shl 1 v2)) := ⟨_, rfl⟩
      replace h := hp_let_e em4 h
      have rm4 := hp_re em4 (hp_rite (hp_rc rfl) (hp_rshl _ _))
      have kj : hp_R G l cX8_dones 3 (some .int) "HeelPostModel" (hp_rm 3) vv H' Z 25 [(0, .ref (hp_ad G a)), (2, .int (hp_I v2))] [.int (hp_I m4), .int (hp_I v1)] H := by
        refine x_ior dX8_dones_25 ?_
        obtain ⟨v1_5, ev1_5⟩ : ∃ z : Int, z = (hp_or v1 m4) := ⟨_, rfl⟩
        replace h := hp_let_e ev1_5 h
        have rv1_5 := hp_re ev1_5 (hp_ror _ _)
        refine x_isnE (L' := [(1, .int (hp_I v1_5)), (0, .ref (hp_ad G a)), (2, .int (hp_I v2))]) ev1_5 dX8_dones_26 rfl (by decide) rfl ?_
        obtain ⟨v2_6, ev2_6⟩ : ∃ z : Int, z = (hp_w (v2 + 1)) := ⟨_, rfl⟩
        replace h := hp_let_e ev2_6 h
        have rv2_6 := hp_re ev2_6 (hp_rw _)
        refine x_iiE (L' := [(2, .int (hp_I v2_6)), (1, .int (hp_I v1_5)), (0, .ref (hp_ad G a))]) ev2_6 dX8_dones_27 2 rfl (by decide) rfl ?_
        refine x_goto (tgt := 4) dX8_dones_30 (by decide) ?_
        exact x_sub [2, 1, 0] rfl (ih a v1_5 v2_6 H ha ha0 rv1_5 rv2_6 rH _ h kx)
      clear h
      refine x_ifeq (tgt := 24) dX8_dones_15 (by decide) rc3 (fun hc7 => ?_) (fun hc7 => ?_)
      · refine x_iconst dX8_dones_24 ?_
        have q9 := (em4.trans (if_pos hc7))
        subst q9
        exact x_sub [0, 2] rfl kj
      · refine x_iconst dX8_dones_18 ?_
        refine x_iload_n dX8_dones_19 2 rfl ?_
        refine x_ishl dX8_dones_20 ?_
        refine x_goto (tgt := 25) dX8_dones_21 (by decide) ?_
        have q9 := (em4.trans (if_neg hc7))
        subst q9
        exact x_sub [0, 2] rfl kj
set_option maxRecDepth 100000 in
theorem ok_X8_dones {G : hp_G} (hG : hp_sh G = hp_shm) {l : Launch} (a : Int) (H : hp_H) (ha : (hp_sh G)[(a).toNat]? = some (1, 41, [])) (ha0 : 0 ≤ a) (rH : hp_in H) (r : Int) (h : f_X8_dones a H = some r) : hp_M G l yX8_dones cX8_dones 3 (some .int) (hp_rm 3) [.ref (hp_ad G a)] H (some (.int (hp_I r))) H (hp_r r) := by
  unfold f_X8_dones at h
  refine hp_body "HeelPostModel" (by decide) rfl ⟨rfl, rfl⟩ (Nat.le_of_ble_eq_true rfl) ?_
  show hp_R G l cX8_dones 3 (some .int) "HeelPostModel" (hp_rm 3) (some (.int (hp_I r))) H (hp_r r) 0 [(0, .ref (hp_ad G a))] [] H
  refine x_iconst dX8_dones_0 ?_
  refine x_istore_n (L' := [(1, .int (hp_I 0)), (0, .ref (hp_ad G a))]) dX8_dones_1 rfl (by decide) rfl ?_
  refine x_iconst dX8_dones_2 ?_
  refine x_istore_n (L' := [(2, .int (hp_I 0)), (1, .int (hp_I 0)), (0, .ref (hp_ad G a))]) dX8_dones_3 rfl (by decide) rfl ?_
  obtain ⟨v1_8, g9, h⟩ := hp_b1_e h
  refine x_sub [2, 1, 0] rfl (ok_X8_dones_4 hG 1000 a 0 0 H ha ha0 (hp_rc rfl) (hp_rc rfl) rH _ g9 ?_)
  intro rv1_8
  refine x_iload_n dX8_dones_33 0 rfl ?_
  cases h
  exact x_iret rv1_8 dX8_dones_34
set_option maxRecDepth 100000 in
theorem ok_X8_layThen_2 {G : hp_G} (hG : hp_sh G = hp_shm) {l : Launch} {vv : Option Value} {H' : hp_H} {Z : Prop} : ∀ (n : Nat) (v1 : Int) (H : hp_H), hp_r v1 → hp_in H → ∀ Hm : hp_H, f_X8_layThen_2 n v1 H = some Hm → (hp_in Hm → hp_R G l cX8_layThen 2 none "HeelPostModel" (hp_rm 0) vv H' Z 26 [] [] Hm) → hp_R G l cX8_layThen 2 none "HeelPostModel" (hp_rm 0) vv H' Z 2 [(0, .ref (hp_ad G 0)), (1, .int (hp_I v1))] [] H := by
  intro n
  induction n with
  | zero =>
    intro v1 H r1 rH Hm h kx
    exact hp_no h
  | succ n ih =>
    intro v1 H r1 rH Hm h kx
    unfold f_X8_layThen_2 at h
    refine x_iload_n dX8_layThen_2 1 rfl ?_
    refine x_bipush rfl dX8_layThen_3 ?_
    refine x_icge (tgt := 26) dX8_layThen_5 (by decide) r1 (hp_rc rfl) (fun hc1 => ?_) (fun hc1 => ?_)
    · replace h := hp_if hc1 h
      cases h
      exact x_sub [] rfl (kx rH)
    · replace h := hp_it hc1 h
      refine x_aload_n dX8_layThen_8 0 rfl ?_
      refine x_getr 7 (sm_0 hG) (by decide) (C := RX8) (T := TX8) (N := 26) rfl in_X8 (by decide) rfl wf_864 dX8_layThen_9 ?_
      refine x_iload_n dX8_layThen_12 1 rfl ?_
      refine x_aload_n dX8_layThen_13 0 rfl ?_
      refine x_getr 5 (sm_0 hG) (by decide) (C := RX8) (T := TX8) (N := 26) rfl in_X8 (by decide) rfl wf_862 dX8_layThen_14 ?_
      refine x_iload_n dX8_layThen_17 1 rfl ?_
      obtain ⟨b2, h⟩ := hp_ck_e h
      refine x_ia 41 rfl (sm_4 hG) (by decide) (Nat.le_of_ble_eq_true rfl) b2 dX8_layThen_18 ?_
      obtain ⟨H3, eH3⟩ : ∃ z : hp_H, z = hp_up H 6 v1 (H 4 v1) := ⟨_, rfl⟩
      replace h := hp_let_e eH3 h
      have rH3 := hp_ine eH3 (hp_in_up rH (rH _ _))
      refine x_ias 41 rfl eH3 (sm_6 hG) (by decide) (Nat.le_of_ble_eq_true rfl) b2 dX8_layThen_19 ?_
      obtain ⟨v1_4, ev1_4⟩ : ∃ z : Int, z = (hp_w (v1 + 1)) := ⟨_, rfl⟩
      replace h := hp_let_e ev1_4 h
      have rv1_4 := hp_re ev1_4 (hp_rw _)
      refine x_iiE (L' := [(1, .int (hp_I v1_4)), (0, .ref (hp_ad G 0))]) ev1_4 dX8_layThen_20 1 rfl (by decide) rfl ?_
      refine x_goto (tgt := 2) dX8_layThen_23 (by decide) ?_
      exact x_sub [1, 0] rfl (ih v1_4 H3 rv1_4 rH3 _ h kx)
set_option maxRecDepth 100000 in
theorem ok_X8_layThen {G : hp_G} (hG : hp_sh G = hp_shm) {l : Launch}  (H : hp_H) (rH : hp_in H) (H' : hp_H) (h : f_X8_layThen  H = some H') : hp_M G l yX8_layThen cX8_layThen 2 none (hp_rm 0) [.ref (hp_ad G 0)] H none H' (hp_in H') := by
  unfold f_X8_layThen at h
  refine hp_body "HeelPostModel" (by decide) rfl ⟨rfl, rfl⟩ (Nat.le_of_ble_eq_true rfl) ?_
  show hp_R G l cX8_layThen 2 none "HeelPostModel" (hp_rm 0) none H' (hp_in H') 0 [(0, .ref (hp_ad G 0))] [] H
  refine x_iconst dX8_layThen_0 ?_
  refine x_istore_n (L' := [(1, .int (hp_I 0)), (0, .ref (hp_ad G 0))]) dX8_layThen_1 rfl (by decide) rfl ?_
  obtain ⟨H5, g6, h⟩ := hp_b1_e h
  refine x_sub [1, 0] rfl (ok_X8_layThen_2 hG 1000 0 H (hp_rc rfl) rH _ g6 ?_)
  intro rH5
  cases h
  exact x_vret rH5 dX8_layThen_26
set_option maxRecDepth 100000 in
theorem ok_X8_doneBy_2 {G : hp_G} (hG : hp_sh G = hp_shm) {l : Launch} {r : Int} {H' : hp_H} : ∀ (n : Nat) (v1 : Int) (v2 : Int) (v3 : Int) (H : hp_H), hp_r v1 → hp_r v2 → hp_r v3 → hp_in H → f_X8_doneBy_2 n v1 v2 v3 H = some (r, H') → hp_R G l cX8_doneBy 5 (some .int) "HeelPostModel" (hp_rm 4) (some (.int (hp_I r))) H' (hp_r r ∧ hp_in H') 2 [(0, .ref (hp_ad G 0)), (1, .int (hp_I v1)), (2, .int (hp_I v2)), (3, .int (hp_I v3))] [] H := by
  intro n
  induction n with
  | zero =>
    intro v1 v2 v3 H r1 r2 r3 rH h
    exact hp_no h
  | succ n ih =>
    intro v1 v2 v3 H r1 r2 r3 rH h
    unfold f_X8_doneBy_2 at h
    refine x_iload_n dX8_doneBy_2 3 rfl ?_
    refine x_iload_n dX8_doneBy_3 2 rfl ?_
    refine x_icgt (tgt := 36) dX8_doneBy_4 (by decide) r3 r2 (fun hc1 => ?_) (fun hc1 => ?_)
    · replace h := hp_it hc1 h
      refine x_ldc (x := (-1000000)) wc_989 rfl dX8_doneBy_36 ?_
      cases h
      exact x_iret ⟨(hp_rc rfl), rH⟩ dX8_doneBy_38
    · replace h := hp_if hc1 h
      refine x_aload_n dX8_doneBy_7 0 rfl ?_
      refine x_getr 7 (sm_0 hG) (by decide) (C := RX8) (T := TX8) (N := 26) rfl in_X8 (by decide) rfl wf_864 dX8_doneBy_8 ?_
      refine x_iload_n dX8_doneBy_11 1 rfl ?_
      obtain ⟨c3, g2, h⟩ := hp_b1_e h
      refine x_isi (As := [.ref (hp_ad G 6), .int (hp_I v1)]) (ok_X8_isDone hG 6 v1 H (sm_6 hG) (by decide) r1 rH _ g2) cal_X8_isDone stt_X8_isDone wm_1070 (by decide) rfl rfl (Nat.le_of_ble_eq_true rfl) dX8_doneBy_12 (fun z9 => ?_)
      have rc3 := z9
      refine x_ifeq (tgt := 20) dX8_doneBy_15 (by decide) rc3 (fun hc4 => ?_) (fun hc4 => ?_)
      · replace h := hp_it hc4 h
        refine x_aload_n dX8_doneBy_20 0 rfl ?_
        refine x_aload_n dX8_doneBy_21 0 rfl ?_
        refine x_getr 7 (sm_0 hG) (by decide) (C := RX8) (T := TX8) (N := 26) rfl in_X8 (by decide) rfl wf_864 dX8_doneBy_22 ?_
        obtain ⟨c6, H7, g5, h⟩ := hp_b2_e h
        refine x_ivi (As := [.ref (hp_ad G 6)]) (ok_X8_hour hG 6 H (sm_6 hG) (by decide) rH _ g5) cal_X8_hour (sm_0 hG) (by decide) (C := RX8) (T := TX8) (N := 26) rfl rfl ins_X8_hour sel_X8_hour wm_1044 (by decide) rfl rfl (Nat.le_of_ble_eq_true rfl) dX8_doneBy_25 (fun z9 => ?_)
        obtain ⟨rc6, rH7⟩ := z9
        refine x_istore (L' := [(4, .int (hp_I c6)), (0, .ref (hp_ad G 0)), (1, .int (hp_I v1)), (2, .int (hp_I v2)), (3, .int (hp_I v3))]) dX8_doneBy_28 (by decide) rfl ?_
        obtain ⟨v3_8, ev3_8⟩ : ∃ z : Int, z = (hp_w (v3 + 1)) := ⟨_, rfl⟩
        replace h := hp_let_e ev3_8 h
        have rv3_8 := hp_re ev3_8 (hp_rw _)
        refine x_iiE (L' := [(3, .int (hp_I v3_8)), (4, .int (hp_I c6)), (0, .ref (hp_ad G 0)), (1, .int (hp_I v1)), (2, .int (hp_I v2))]) ev3_8 dX8_doneBy_30 4 rfl (by decide) rfl ?_
        refine x_goto (tgt := 2) dX8_doneBy_33 (by decide) ?_
        exact x_sub [2, 3, 4, 0] rfl (ih v1 v2 v3_8 H7 r1 r2 rv3_8 rH7 h)
      · replace h := hp_if hc4 h
        refine x_iload_n dX8_doneBy_18 3 rfl ?_
        cases h
        exact x_iret ⟨r3, rH⟩ dX8_doneBy_19
set_option maxRecDepth 100000 in
theorem ok_X8_doneBy {G : hp_G} (hG : hp_sh G = hp_shm) {l : Launch} (v1 : Int) (v2 : Int) (H : hp_H) (r1 : hp_r v1) (r2 : hp_r v2) (rH : hp_in H) (x : Int × hp_H) (h : f_X8_doneBy v1 v2 H = some x) : hp_M G l yX8_doneBy cX8_doneBy 5 (some .int) (hp_rm 4) [.ref (hp_ad G 0), .int (hp_I v1), .int (hp_I v2)] H (some (.int (hp_I x.1))) x.2 (hp_r x.1 ∧ hp_in x.2) := by
  obtain ⟨r, H'⟩ := x
  unfold f_X8_doneBy at h
  refine hp_body "HeelPostModel" (by decide) rfl ⟨rfl, rfl⟩ (Nat.le_of_ble_eq_true rfl) ?_
  show hp_R G l cX8_doneBy 5 (some .int) "HeelPostModel" (hp_rm 4) (some (.int (hp_I r))) H' (hp_r r ∧ hp_in H') 0 [(0, .ref (hp_ad G 0)), (1, .int (hp_I v1)), (2, .int (hp_I v2))] [] H
  refine x_iconst dX8_doneBy_0 ?_
  refine x_istore_n (L' := [(3, .int (hp_I 0)), (0, .ref (hp_ad G 0)), (1, .int (hp_I v1)), (2, .int (hp_I v2))]) dX8_doneBy_1 rfl (by decide) rfl ?_
  exact x_sub [1, 2, 3, 0] rfl (ok_X8_doneBy_2 hG 1000 v1 v2 0 H r1 r2 (hp_rc rfl) rH h)
set_option maxRecDepth 100000 in
theorem ok_X8_keep_11 {G : hp_G} (hG : hp_sh G = hp_shm) {l : Launch} {vv : Option Value} {H' : hp_H} {Z : Prop} : ∀ (n : Nat) (v1 : Int) (H : hp_H), hp_r v1 → hp_in H → ∀ Hm : hp_H, f_X8_keep_11 n v1 H = some Hm → (hp_in Hm → hp_R G l cX8_keep 2 none "HeelPostModel" (hp_rm 0) vv H' Z 39 [(0, .ref (hp_ad G 0))] [] Hm) → hp_R G l cX8_keep 2 none "HeelPostModel" (hp_rm 0) vv H' Z 11 [(0, .ref (hp_ad G 0)), (1, .int (hp_I v1))] [] H := by
  intro n
  induction n with
  | zero =>
    intro v1 H r1 rH Hm h kx
    exact hp_no h
  | succ n ih =>
    intro v1 H r1 rH Hm h kx
    unfold f_X8_keep_11 at h
    refine x_iload_n dX8_keep_11 1 rfl ?_
    refine x_sipush rfl dX8_keep_12 ?_
    refine x_icge (tgt := 39) dX8_keep_15 (by decide) r1 (hp_rc rfl) (fun hc2 => ?_) (fun hc2 => ?_)
    · replace h := hp_if hc2 h
      cases h
      exact x_sub [0] rfl (kx rH)
    · replace h := hp_it hc2 h
      refine x_aload_n dX8_keep_18 0 rfl ?_
      refine x_getr 8 (sm_0 hG) (by decide) (C := RX8) (T := TX8) (N := 26) rfl in_X8 (by decide) rfl wf_865 dX8_keep_19 ?_
      refine x_iload_n dX8_keep_22 1 rfl ?_
      refine x_aload_n dX8_keep_23 0 rfl ?_
      refine x_getr 8 (sm_0 hG) (by decide) (C := RX8) (T := TX8) (N := 26) rfl in_X8 (by decide) rfl wf_865 dX8_keep_24 ?_
      refine x_iload_n dX8_keep_27 1 rfl ?_
      refine x_bipush rfl dX8_keep_28 ?_
      refine x_iadd dX8_keep_30 ?_
      obtain ⟨b3, h⟩ := hp_ck_e h
      refine x_ia 984 rfl (sm_7 hG) (by decide) (Nat.le_of_ble_eq_true rfl) b3 dX8_keep_31 ?_
      obtain ⟨b4, h⟩ := hp_ck_e h
      obtain ⟨H5, eH5⟩ : ∃ z : hp_H, z = hp_up H 7 v1 (H 7 (hp_w (v1 + 41))) := ⟨_, rfl⟩
      replace h := hp_let_e eH5 h
      have rH5 := hp_ine eH5 (hp_in_up rH (rH _ _))
      refine x_ias 984 rfl eH5 (sm_7 hG) (by decide) (Nat.le_of_ble_eq_true rfl) b4 dX8_keep_32 ?_
      obtain ⟨v1_6, ev1_6⟩ : ∃ z : Int, z = (hp_w (v1 + 1)) := ⟨_, rfl⟩
      replace h := hp_let_e ev1_6 h
      have rv1_6 := hp_re ev1_6 (hp_rw _)
      refine x_iiE (L' := [(1, .int (hp_I v1_6)), (0, .ref (hp_ad G 0))]) ev1_6 dX8_keep_33 1 rfl (by decide) rfl ?_
      refine x_goto (tgt := 11) dX8_keep_36 (by decide) ?_
      exact x_sub [1, 0] rfl (ih v1_6 H5 rv1_6 rH5 _ h kx)
set_option maxRecDepth 100000 in
theorem ok_X8_keep_51 {G : hp_G} (hG : hp_sh G = hp_shm) {l : Launch} {vv : Option Value} {H' : hp_H} {Z : Prop} : ∀ (n : Nat) (v1 : Int) (H : hp_H), hp_r v1 → hp_in H → ∀ Hm : hp_H, f_X8_keep_51 n v1 H = some Hm → (hp_in Hm → hp_R G l cX8_keep 2 none "HeelPostModel" (hp_rm 0) vv H' Z 83 [(0, .ref (hp_ad G 0))] [] Hm) → hp_R G l cX8_keep 2 none "HeelPostModel" (hp_rm 0) vv H' Z 51 [(0, .ref (hp_ad G 0)), (1, .int (hp_I v1))] [] H := by
  intro n
  induction n with
  | zero =>
    intro v1 H r1 rH Hm h kx
    exact hp_no h
  | succ n ih =>
    intro v1 H r1 rH Hm h kx
    unfold f_X8_keep_51 at h
    refine x_iload_n dX8_keep_51 1 rfl ?_
    refine x_bipush rfl dX8_keep_52 ?_
    refine x_icge (tgt := 83) dX8_keep_54 (by decide) r1 (hp_rc rfl) (fun hc10 => ?_) (fun hc10 => ?_)
    · replace h := hp_if hc10 h
      cases h
      exact x_sub [0] rfl (kx rH)
    · replace h := hp_it hc10 h
      refine x_aload_n dX8_keep_57 0 rfl ?_
      refine x_getr 8 (sm_0 hG) (by decide) (C := RX8) (T := TX8) (N := 26) rfl in_X8 (by decide) rfl wf_865 dX8_keep_58 ?_
      refine x_bipush rfl dX8_keep_61 ?_
      refine x_aload_n dX8_keep_63 0 rfl ?_
      refine x_gi 9 9 rfl (sm_0 hG) (by decide) (C := RX8) (T := TX8) (N := 26) rfl in_X8 (by decide) rfl wf_866 dX8_keep_64 ?_
      refine x_imul dX8_keep_67 ?_
      refine x_iload_n dX8_keep_68 1 rfl ?_
      refine x_iadd dX8_keep_69 ?_
      refine x_aload_n dX8_keep_70 0 rfl ?_
      refine x_getr 5 (sm_0 hG) (by decide) (C := RX8) (T := TX8) (N := 26) rfl in_X8 (by decide) rfl wf_862 dX8_keep_71 ?_
      refine x_iload_n dX8_keep_74 1 rfl ?_
      obtain ⟨b11, h⟩ := hp_ck_e h
      refine x_ia 41 rfl (sm_4 hG) (by decide) (Nat.le_of_ble_eq_true rfl) b11 dX8_keep_75 ?_
      obtain ⟨b12, h⟩ := hp_ck_e h
      obtain ⟨H13, eH13⟩ : ∃ z : hp_H, z = hp_up H 7 (hp_w ((hp_w (41 * (H 0 9))) + v1)) (H 4 v1) := ⟨_, rfl⟩
      replace h := hp_let_e eH13 h
      have rH13 := hp_ine eH13 (hp_in_up rH (rH _ _))
      refine x_ias 984 rfl eH13 (sm_7 hG) (by decide) (Nat.le_of_ble_eq_true rfl) b12 dX8_keep_76 ?_
      obtain ⟨v1_14, ev1_14⟩ : ∃ z : Int, z = (hp_w (v1 + 1)) := ⟨_, rfl⟩
      replace h := hp_let_e ev1_14 h
      have rv1_14 := hp_re ev1_14 (hp_rw _)
      refine x_iiE (L' := [(1, .int (hp_I v1_14)), (0, .ref (hp_ad G 0))]) ev1_14 dX8_keep_77 1 rfl (by decide) rfl ?_
      refine x_goto (tgt := 51) dX8_keep_80 (by decide) ?_
      exact x_sub [1, 0] rfl (ih v1_14 H13 rv1_14 rH13 _ h kx)
set_option maxRecDepth 100000 in
theorem ok_X8_keep {G : hp_G} (hG : hp_sh G = hp_shm) {l : Launch}  (H : hp_H) (rH : hp_in H) (H' : hp_H) (h : f_X8_keep  H = some H') : hp_M G l yX8_keep cX8_keep 2 none (hp_rm 0) [.ref (hp_ad G 0)] H none H' (hp_in H') := by
  unfold f_X8_keep at h
  refine hp_body "HeelPostModel" (by decide) rfl ⟨rfl, rfl⟩ (Nat.le_of_ble_eq_true rfl) ?_
  show hp_R G l cX8_keep 2 none "HeelPostModel" (hp_rm 0) none H' (hp_in H') 0 [(0, .ref (hp_ad G 0))] [] H
  refine x_aload_n dX8_keep_0 0 rfl ?_
  refine x_gi 9 9 rfl (sm_0 hG) (by decide) (C := RX8) (T := TX8) (N := 26) rfl in_X8 (by decide) rfl wf_866 dX8_keep_1 ?_
  refine x_bipush rfl dX8_keep_4 ?_
  refine x_icne (tgt := 49) dX8_keep_6 (by decide) (rH _ _) (hp_rc rfl) (fun hc1 => ?_) (fun hc1 => ?_)
  · replace h := hp_if hc1 h
    refine x_iconst dX8_keep_49 ?_
    refine x_istore_n (L' := [(1, .int (hp_I 0)), (0, .ref (hp_ad G 0))]) dX8_keep_50 rfl (by decide) rfl ?_
    obtain ⟨H18, g19, h⟩ := hp_b1_e h
    refine x_sub [1, 0] rfl (ok_X8_keep_51 hG 1000 0 H (hp_rc rfl) rH _ g19 ?_)
    intro rH18
    refine x_aload_n dX8_keep_83 0 rfl ?_
    refine x_dup rfl dX8_keep_84 ?_
    refine x_gi 9 9 rfl (sm_0 hG) (by decide) (C := RX8) (T := TX8) (N := 26) rfl in_X8 (by decide) rfl wf_866 dX8_keep_85 ?_
    refine x_iconst dX8_keep_88 ?_
    refine x_iadd dX8_keep_89 ?_
    obtain ⟨H20, eH20⟩ : ∃ z : hp_H, z = hp_up H18 0 9 (hp_w ((H18 0 9) + 1)) := ⟨_, rfl⟩
    replace h := hp_let_e eH20 h
    have rH20 := hp_ine eH20 (hp_in_up rH18 (hp_rw _))
    refine x_pi 9 9 rfl tyX8 eH20 (sm_0 hG) (by decide) (C := RX8) (T := TX8) (N := 26) rfl in_X8 tyX8_ok nmX8 (by decide) rfl rfl rfl wf_866 dX8_keep_90 ?_
    cases h
    exact x_vret rH20 dX8_keep_93
  · replace h := hp_it hc1 h
    refine x_iconst dX8_keep_9 ?_
    refine x_istore_n (L' := [(1, .int (hp_I 0)), (0, .ref (hp_ad G 0))]) dX8_keep_10 rfl (by decide) rfl ?_
    obtain ⟨H7, g8, h⟩ := hp_b1_e h
    refine x_sub [1, 0] rfl (ok_X8_keep_11 hG 1000 0 H (hp_rc rfl) rH _ g8 ?_)
    intro rH7
    refine x_aload_n dX8_keep_39 0 rfl ?_
    refine x_dup rfl dX8_keep_40 ?_
    refine x_gi 9 9 rfl (sm_0 hG) (by decide) (C := RX8) (T := TX8) (N := 26) rfl in_X8 (by decide) rfl wf_866 dX8_keep_41 ?_
    refine x_iconst dX8_keep_44 ?_
    refine x_isub dX8_keep_45 ?_
    obtain ⟨H9, eH9⟩ : ∃ z : hp_H, z = hp_up H7 0 9 (hp_w ((H7 0 9) - 1)) := ⟨_, rfl⟩
    replace h := hp_let_e eH9 h
    have rH9 := hp_ine eH9 (hp_in_up rH7 (hp_rw _))
    refine x_pi 9 9 rfl tyX8 eH9 (sm_0 hG) (by decide) (C := RX8) (T := TX8) (N := 26) rfl in_X8 tyX8_ok nmX8 (by decide) rfl rfl rfl wf_866 dX8_keep_46 ?_
    refine x_iconst dX8_keep_49 ?_
    refine x_istore_n (L' := [(1, .int (hp_I 0)), (0, .ref (hp_ad G 0))]) dX8_keep_50 rfl (by decide) rfl ?_
    obtain ⟨H15, g16, h⟩ := hp_b1_e h
    refine x_sub [1, 0] rfl (ok_X8_keep_51 hG 1000 0 H9 (hp_rc rfl) rH9 _ g16 ?_)
    intro rH15
    refine x_aload_n dX8_keep_83 0 rfl ?_
    refine x_dup rfl dX8_keep_84 ?_
    refine x_gi 9 9 rfl (sm_0 hG) (by decide) (C := RX8) (T := TX8) (N := 26) rfl in_X8 (by decide) rfl wf_866 dX8_keep_85 ?_
    refine x_iconst dX8_keep_88 ?_
    refine x_iadd dX8_keep_89 ?_
    obtain ⟨H17, eH17⟩ : ∃ z : hp_H, z = hp_up H15 0 9 (hp_w ((H15 0 9) + 1)) := ⟨_, rfl⟩
    replace h := hp_let_e eH17 h
    have rH17 := hp_ine eH17 (hp_in_up rH15 (hp_rw _))
    refine x_pi 9 9 rfl tyX8 eH17 (sm_0 hG) (by decide) (C := RX8) (T := TX8) (N := 26) rfl in_X8 tyX8_ok nmX8 (by decide) rfl rfl rfl wf_866 dX8_keep_90 ?_
    cases h
    exact x_vret rH17 dX8_keep_93
set_option maxRecDepth 100000 in
theorem ok_X8_hours_49 {G : hp_G} (hG : hp_sh G = hp_shm) {l : Launch} {vv : Option Value} {H' : hp_H} {Z : Prop} : ∀ (n : Nat) (v1 : Int) (v2 : Int) (H : hp_H), hp_r v1 → hp_r v2 → hp_in H → ∀ Hm : hp_H, f_X8_hours_49 n v1 v2 H = some Hm → (hp_in Hm → hp_R G l cX8_hours 4 (some .int) "HeelPostModel" (hp_rm 4) vv H' Z 73 [(0, .ref (hp_ad G 0))] [] Hm) → hp_R G l cX8_hours 4 (some .int) "HeelPostModel" (hp_rm 4) vv H' Z 49 [(0, .ref (hp_ad G 0)), (1, .int (hp_I v1)), (2, .int (hp_I v2))] [] H := by
  intro n
  induction n with
  | zero =>
    intro v1 v2 H r1 r2 rH Hm h kx
    exact hp_no h
  | succ n ih =>
    intro v1 v2 H r1 r2 rH Hm h kx
    unfold f_X8_hours_49 at h
    refine x_iload_n dX8_hours_49 2 rfl ?_
    refine x_iload_n dX8_hours_50 1 rfl ?_
    refine x_icge (tgt := 73) dX8_hours_51 (by decide) r2 r1 (fun hc9 => ?_) (fun hc9 => ?_)
    · replace h := hp_if hc9 h
      cases h
      exact x_sub [0] rfl (kx rH)
    · replace h := hp_it hc9 h
      refine x_aload_n dX8_hours_54 0 rfl ?_
      obtain ⟨H11, g10, h⟩ := hp_b1_e h
      refine x_ivv (As := []) (ok_X8_keep hG H rH _ g10) cal_X8_keep (sm_0 hG) (by decide) (C := RX8) (T := TX8) (N := 26) rfl rfl ins_X8_keep sel_X8_keep wm_1040 (by decide) rfl rfl (Nat.le_of_ble_eq_true rfl) dX8_hours_55 (fun z9 => ?_)
      have rH11 := z9
      refine x_aload_n dX8_hours_58 0 rfl ?_
      refine x_aload_n dX8_hours_59 0 rfl ?_
      refine x_getr 5 (sm_0 hG) (by decide) (C := RX8) (T := TX8) (N := 26) rfl in_X8 (by decide) rfl wf_862 dX8_hours_60 ?_
      obtain ⟨c13, H14, g12, h⟩ := hp_b2_e h
      refine x_ivi (As := [.ref (hp_ad G 4)]) (ok_X8_hour hG 4 H11 (sm_4 hG) (by decide) rH11 _ g12) cal_X8_hour (sm_0 hG) (by decide) (C := RX8) (T := TX8) (N := 26) rfl rfl ins_X8_hour sel_X8_hour wm_1044 (by decide) rfl rfl (Nat.le_of_ble_eq_true rfl) dX8_hours_63 (fun z9 => ?_)
      obtain ⟨rc13, rH14⟩ := z9
      refine x_istore_n (L' := [(3, .int (hp_I c13)), (0, .ref (hp_ad G 0)), (1, .int (hp_I v1)), (2, .int (hp_I v2))]) dX8_hours_66 rfl (by decide) rfl ?_
      obtain ⟨v2_15, ev2_15⟩ : ∃ z : Int, z = (hp_w (v2 + 1)) := ⟨_, rfl⟩
      replace h := hp_let_e ev2_15 h
      have rv2_15 := hp_re ev2_15 (hp_rw _)
      refine x_iiE (L' := [(2, .int (hp_I v2_15)), (3, .int (hp_I c13)), (0, .ref (hp_ad G 0)), (1, .int (hp_I v1))]) ev2_15 dX8_hours_67 3 rfl (by decide) rfl ?_
      refine x_goto (tgt := 49) dX8_hours_70 (by decide) ?_
      exact x_sub [2, 3, 0] rfl (ih v1 v2_15 H14 r1 rv2_15 rH14 _ h kx)
set_option maxRecDepth 100000 in
theorem ok_X8_hours {G : hp_G} (hG : hp_sh G = hp_shm) {l : Launch} (v1 : Int) (H : hp_H) (r1 : hp_r v1) (rH : hp_in H) (x : Int × hp_H) (h : f_X8_hours v1 H = some x) : hp_M G l yX8_hours cX8_hours 4 (some .int) (hp_rm 4) [.ref (hp_ad G 0), .int (hp_I v1)] H (some (.int (hp_I x.1))) x.2 (hp_r x.1 ∧ hp_in x.2) := by
  obtain ⟨r, H'⟩ := x
  unfold f_X8_hours at h
  refine hp_body "HeelPostModel" (by decide) rfl ⟨rfl, rfl⟩ (Nat.le_of_ble_eq_true rfl) ?_
  show hp_R G l cX8_hours 4 (some .int) "HeelPostModel" (hp_rm 4) (some (.int (hp_I r))) H' (hp_r r ∧ hp_in H') 0 [(0, .ref (hp_ad G 0)), (1, .int (hp_I v1))] [] H
  refine x_aload_n dX8_hours_0 0 rfl ?_
  refine x_iconst dX8_hours_1 ?_
  obtain ⟨H1, eH1⟩ : ∃ z : hp_H, z = hp_up H 0 0 0 := ⟨_, rfl⟩
  replace h := hp_let_e eH1 h
  have rH1 := hp_ine eH1 (hp_in_up rH (hp_rc rfl))
  refine x_pi 0 0 rfl tyX8 eH1 (sm_0 hG) (by decide) (C := RX8) (T := TX8) (N := 26) rfl in_X8 tyX8_ok nmX8 (by decide) rfl rfl rfl wf_857 dX8_hours_2 ?_
  refine x_aload_n dX8_hours_5 0 rfl ?_
  obtain ⟨c3, g2, h⟩ := hp_b1_e h
  refine x_ivi (As := []) (ok_X8_isThere hG H1 rH1 _ g2) cal_X8_isThere (sm_0 hG) (by decide) (C := RX8) (T := TX8) (N := 26) rfl rfl ins_X8_isThere sel_X8_isThere wm_1034 (by decide) rfl rfl (Nat.le_of_ble_eq_true rfl) dX8_hours_6 (fun z9 => ?_)
  have rc3 := z9
  refine x_ifne (tgt := 15) dX8_hours_9 (by decide) rc3 (fun hc4 => ?_) (fun hc4 => ?_)
  · replace h := hp_if hc4 h
    refine x_iload_n dX8_hours_15 1 rfl ?_
    refine x_i2l r1 dX8_hours_16 ?_
    refine x_lconst (x := 1) rfl dX8_hours_17 ?_
    refine x_ldc2 (x := 24) wc_1039 rfl dX8_hours_18 ?_
    obtain ⟨c6, g5, h⟩ := hp_b1_e h
    refine x_isi (As := [.long (hp_J v1), .long (hp_J 1), .long (hp_J 24)]) (ok_X8_in hG v1 1 24 H1 (hp_rrl r1) (hp_rlc rfl) (hp_rlc rfl) rH1 _ g5) cal_X8_in stt_X8_in wm_945 (by decide) rfl rfl (Nat.le_of_ble_eq_true rfl) dX8_hours_21 (fun z9 => ?_)
    have rc6 := z9
    refine x_ifne (tgt := 30) dX8_hours_24 (by decide) rc6 (fun hc7 => ?_) (fun hc7 => ?_)
    · replace h := hp_if hc7 h
      refine x_aload_n dX8_hours_30 0 rfl ?_
      refine x_getr 5 (sm_0 hG) (by decide) (C := RX8) (T := TX8) (N := 26) rfl in_X8 (by decide) rfl wf_862 dX8_hours_31 ?_
      refine x_iconst dX8_hours_34 ?_
      refine x_ia 41 rfl (sm_4 hG) (by decide) (Nat.le_of_ble_eq_true rfl) (by decide) dX8_hours_35 ?_
      refine x_iload_n dX8_hours_36 1 rfl ?_
      refine x_iadd dX8_hours_37 ?_
      refine x_sipush rfl dX8_hours_38 ?_
      refine x_icle (tgt := 47) dX8_hours_41 (by decide) (hp_rw _) (hp_rc rfl) (fun hc8 => ?_) (fun hc8 => ?_)
      · replace h := hp_if hc8 h
        refine x_iconst dX8_hours_47 ?_
        refine x_istore_n (L' := [(2, .int (hp_I 0)), (0, .ref (hp_ad G 0)), (1, .int (hp_I v1))]) dX8_hours_48 rfl (by decide) rfl ?_
        obtain ⟨H16, g17, h⟩ := hp_b1_e h
        refine x_sub [1, 2, 0] rfl (ok_X8_hours_49 hG 1000 v1 0 H1 r1 (hp_rc rfl) rH1 _ g17 ?_)
        intro rH16
        refine x_aload_n dX8_hours_73 0 rfl ?_
        refine x_getr 5 (sm_0 hG) (by decide) (C := RX8) (T := TX8) (N := 26) rfl in_X8 (by decide) rfl wf_862 dX8_hours_74 ?_
        obtain ⟨c19, g18, h⟩ := hp_b1_e h
        refine x_isi (As := [.ref (hp_ad G 4)]) (ok_X8_dones hG 4 H16 (sm_4 hG) (by decide) rH16 _ g18) cal_X8_dones stt_X8_dones wm_1067 (by decide) rfl rfl (Nat.le_of_ble_eq_true rfl) dX8_hours_77 (fun z9 => ?_)
        have rc19 := z9
        cases h
        exact x_iret ⟨rc19, rH16⟩ dX8_hours_80
      · replace h := hp_it hc8 h
        refine x_ldc (x := (-1000003)) wc_972 rfl dX8_hours_44 ?_
        cases h
        exact x_iret ⟨(hp_rc rfl), rH1⟩ dX8_hours_46
    · replace h := hp_it hc7 h
      refine x_ldc (x := (-1000001)) wc_949 rfl dX8_hours_27 ?_
      cases h
      exact x_iret ⟨(hp_rc rfl), rH1⟩ dX8_hours_29
  · replace h := hp_it hc4 h
    refine x_ldc (x := (-1000002)) wc_1038 rfl dX8_hours_12 ?_
    cases h
    exact x_iret ⟨(hp_rc rfl), rH1⟩ dX8_hours_14
set_option maxRecDepth 100000 in
theorem ok_X8_post {G : hp_G} (hG : hp_sh G = hp_shm) {l : Launch} (v1 : Int) (v2 : Int) (v3 : Int) (H : hp_H) (r1 : hp_r v1) (r2 : hp_r v2) (r3 : hp_r v3) (rH : hp_in H) (x : Int × hp_H) (h : f_X8_post v1 v2 v3 H = some x) : hp_M G l yX8_post cX8_post 4 (some .int) (hp_rm 3) [.ref (hp_ad G 0), .int (hp_I v1), .int (hp_I v2), .int (hp_I v3)] H (some (.int (hp_I x.1))) x.2 (hp_r x.1 ∧ hp_in x.2) := by
  obtain ⟨r, H'⟩ := x
  unfold f_X8_post at h
  refine hp_body "HeelPostModel" (by decide) rfl ⟨rfl, rfl⟩ (Nat.le_of_ble_eq_true rfl) ?_
  show hp_R G l cX8_post 4 (some .int) "HeelPostModel" (hp_rm 3) (some (.int (hp_I r))) H' (hp_r r ∧ hp_in H') 0 [(0, .ref (hp_ad G 0)), (1, .int (hp_I v1)), (2, .int (hp_I v2)), (3, .int (hp_I v3))] [] H
  refine x_aload_n dX8_post_0 0 rfl ?_
  refine x_iconst dX8_post_1 ?_
  obtain ⟨H1, eH1⟩ : ∃ z : hp_H, z = hp_up H 0 0 0 := ⟨_, rfl⟩
  replace h := hp_let_e eH1 h
  have rH1 := hp_ine eH1 (hp_in_up rH (hp_rc rfl))
  refine x_pi 0 0 rfl tyX8 eH1 (sm_0 hG) (by decide) (C := RX8) (T := TX8) (N := 26) rfl in_X8 tyX8_ok nmX8 (by decide) rfl rfl rfl wf_857 dX8_post_2 ?_
  refine x_aload_n dX8_post_5 0 rfl ?_
  refine x_iload_n dX8_post_6 1 rfl ?_
  obtain ⟨c3, g2, h⟩ := hp_b1_e h
  refine x_ivi (As := [.int (hp_I v1)]) (ok_X8_isPosted hG v1 H1 r1 rH1 _ g2) cal_X8_isPosted (sm_0 hG) (by decide) (C := RX8) (T := TX8) (N := 26) rfl rfl ins_X8_isPosted sel_X8_isPosted wm_1077 (by decide) rfl rfl (Nat.le_of_ble_eq_true rfl) dX8_post_7 (fun z9 => ?_)
  have rc3 := z9
  refine x_ifeq (tgt := 29) dX8_post_10 (by decide) rc3 (fun hc4 => ?_) (fun hc4 => ?_)
  · replace h := hp_it hc4 h
    refine x_ldc (x := (-1000001)) wc_949 rfl dX8_post_29 ?_
    cases h
    exact x_iret ⟨(hp_rc rfl), rH1⟩ dX8_post_31
  · replace h := hp_if hc4 h
    refine x_aload_n dX8_post_13 0 rfl ?_
    refine x_iload_n dX8_post_14 2 rfl ?_
    obtain ⟨c6, g5, h⟩ := hp_b1_e h
    refine x_ivi (As := [.int (hp_I v2)]) (ok_X8_isLane hG v2 H1 r2 rH1 _ g5) cal_X8_isLane (sm_0 hG) (by decide) (C := RX8) (T := TX8) (N := 26) rfl rfl ins_X8_isLane sel_X8_isLane wm_1082 (by decide) rfl rfl (Nat.le_of_ble_eq_true rfl) dX8_post_15 (fun z9 => ?_)
    have rc6 := z9
    refine x_ifeq (tgt := 29) dX8_post_18 (by decide) rc6 (fun hc7 => ?_) (fun hc7 => ?_)
    · replace h := hp_it hc7 h
      refine x_ldc (x := (-1000001)) wc_949 rfl dX8_post_29 ?_
      cases h
      exact x_iret ⟨(hp_rc rfl), rH1⟩ dX8_post_31
    · replace h := hp_if hc7 h
      refine x_aload_n dX8_post_21 0 rfl ?_
      refine x_iload_n dX8_post_22 3 rfl ?_
      obtain ⟨c9, g8, h⟩ := hp_b1_e h
      refine x_ivi (As := [.int (hp_I v3)]) (ok_X8_isLane hG v3 H1 r3 rH1 _ g8) cal_X8_isLane (sm_0 hG) (by decide) (C := RX8) (T := TX8) (N := 26) rfl rfl ins_X8_isLane sel_X8_isLane wm_1082 (by decide) rfl rfl (Nat.le_of_ble_eq_true rfl) dX8_post_23 (fun z9 => ?_)
      have rc9 := z9
      refine x_ifne (tgt := 32) dX8_post_26 (by decide) rc9 (fun hc10 => ?_) (fun hc10 => ?_)
      · replace h := hp_if hc10 h
        refine x_aload_n dX8_post_32 0 rfl ?_
        obtain ⟨H12, g11, h⟩ := hp_b1_e h
        refine x_ivv (As := []) (ok_X8_keep hG H1 rH1 _ g11) cal_X8_keep (sm_0 hG) (by decide) (C := RX8) (T := TX8) (N := 26) rfl rfl ins_X8_keep sel_X8_keep wm_1040 (by decide) rfl rfl (Nat.le_of_ble_eq_true rfl) dX8_post_33 (fun z9 => ?_)
        have rH12 := z9
        refine x_aload_n dX8_post_36 0 rfl ?_
        refine x_getr 5 (sm_0 hG) (by decide) (C := RX8) (T := TX8) (N := 26) rfl in_X8 (by decide) rfl wf_862 dX8_post_37 ?_
        refine x_iload_n dX8_post_40 1 rfl ?_
        refine x_iload_n dX8_post_41 2 rfl ?_
        refine x_iload_n dX8_post_42 3 rfl ?_
        obtain ⟨H14, g13, h⟩ := hp_b1_e h
        refine x_isv (As := [.ref (hp_ad G 4), .int (hp_I v1), .int (hp_I v2), .int (hp_I v3)]) (ok_X8_posts hG 4 v1 v2 v3 H12 (sm_4 hG) (by decide) r1 r2 r3 rH12 _ g13) cal_X8_posts stt_X8_posts wm_1086 (by decide) rfl rfl (Nat.le_of_ble_eq_true rfl) dX8_post_43 (fun z9 => ?_)
        have rH14 := z9
        refine x_aload_n dX8_post_46 0 rfl ?_
        refine x_getr 5 (sm_0 hG) (by decide) (C := RX8) (T := TX8) (N := 26) rfl in_X8 (by decide) rfl wf_862 dX8_post_47 ?_
        obtain ⟨c16, g15, h⟩ := hp_b1_e h
        refine x_isi (As := [.ref (hp_ad G 4)]) (ok_X8_outs hG 4 H14 (sm_4 hG) (by decide) rH14 _ g15) cal_X8_outs stt_X8_outs wm_1089 (by decide) rfl rfl (Nat.le_of_ble_eq_true rfl) dX8_post_50 (fun z9 => ?_)
        have rc16 := z9
        cases h
        exact x_iret ⟨rc16, rH14⟩ dX8_post_53
      · replace h := hp_it hc10 h
        refine x_ldc (x := (-1000001)) wc_949 rfl dX8_post_29 ?_
        cases h
        exact x_iret ⟨(hp_rc rfl), rH1⟩ dX8_post_31
set_option maxRecDepth 100000 in
theorem ok_X8_callBack_46 {G : hp_G} (hG : hp_sh G = hp_shm) {l : Launch} {vv : Option Value} {H' : hp_H} {Z : Prop} : ∀ (n : Nat) (v1 : Int) (v2 : Int) (v3 : Int) (H : hp_H), hp_r v1 → hp_r v2 → hp_r v3 → hp_in H → ∀ Hm : hp_H, f_X8_callBack_46 n v1 v2 v3 H = some Hm → (hp_in Hm → hp_R G l cX8_callBack 4 (some .int) "HeelPostModel" (hp_rm 2) vv H' Z 70 [(2, .int (hp_I v2))] [] Hm) → hp_R G l cX8_callBack 4 (some .int) "HeelPostModel" (hp_rm 2) vv H' Z 46 [(0, .ref (hp_ad G 0)), (1, .int (hp_I v1)), (2, .int (hp_I v2)), (3, .int (hp_I v3))] [] H := by
  intro n
  induction n with
  | zero =>
    intro v1 v2 v3 H r1 r2 r3 rH Hm h kx
    exact hp_no h
  | succ n ih =>
    intro v1 v2 v3 H r1 r2 r3 rH Hm h kx
    unfold f_X8_callBack_46 at h
    refine x_iload_n dX8_callBack_46 3 rfl ?_
    refine x_iconst dX8_callBack_47 ?_
    refine x_icge (tgt := 70) dX8_callBack_48 (by decide) r3 (hp_rc rfl) (fun hc12 => ?_) (fun hc12 => ?_)
    · replace h := hp_if hc12 h
      cases h
      exact x_sub [2] rfl (kx rH)
    · replace h := hp_it hc12 h
      refine x_aload_n dX8_callBack_51 0 rfl ?_
      refine x_getr 5 (sm_0 hG) (by decide) (C := RX8) (T := TX8) (N := 26) rfl in_X8 (by decide) rfl wf_862 dX8_callBack_52 ?_
      refine x_iconst dX8_callBack_55 ?_
      refine x_iconst dX8_callBack_56 ?_
      refine x_iload_n dX8_callBack_57 1 rfl ?_
      refine x_imul dX8_callBack_58 ?_
      refine x_iadd dX8_callBack_59 ?_
      refine x_iload_n dX8_callBack_60 3 rfl ?_
      refine x_iadd dX8_callBack_61 ?_
      refine x_iconst dX8_callBack_62 ?_
      obtain ⟨b13, h⟩ := hp_ck_e h
      obtain ⟨H14, eH14⟩ : ∃ z : hp_H, z = hp_up H 4 (hp_w ((hp_w (5 + (hp_w (3 * v1)))) + v3)) 0 := ⟨_, rfl⟩
      replace h := hp_let_e eH14 h
      have rH14 := hp_ine eH14 (hp_in_up rH (hp_rc rfl))
      refine x_ias 41 rfl eH14 (sm_4 hG) (by decide) (Nat.le_of_ble_eq_true rfl) b13 dX8_callBack_63 ?_
      obtain ⟨v3_15, ev3_15⟩ : ∃ z : Int, z = (hp_w (v3 + 1)) := ⟨_, rfl⟩
      replace h := hp_let_e ev3_15 h
      have rv3_15 := hp_re ev3_15 (hp_rw _)
      refine x_iiE (L' := [(3, .int (hp_I v3_15)), (0, .ref (hp_ad G 0)), (1, .int (hp_I v1)), (2, .int (hp_I v2))]) ev3_15 dX8_callBack_64 3 rfl (by decide) rfl ?_
      refine x_goto (tgt := 46) dX8_callBack_67 (by decide) ?_
      exact x_sub [1, 2, 3, 0] rfl (ih v1 v2 v3_15 H14 r1 r2 rv3_15 rH14 _ h kx)
set_option maxRecDepth 100000 in
theorem ok_X8_callBack {G : hp_G} (hG : hp_sh G = hp_shm) {l : Launch} (v1 : Int) (H : hp_H) (r1 : hp_r v1) (rH : hp_in H) (x : Int × hp_H) (h : f_X8_callBack v1 H = some x) : hp_M G l yX8_callBack cX8_callBack 4 (some .int) (hp_rm 2) [.ref (hp_ad G 0), .int (hp_I v1)] H (some (.int (hp_I x.1))) x.2 (hp_r x.1 ∧ hp_in x.2) := by
  obtain ⟨r, H'⟩ := x
  unfold f_X8_callBack at h
  refine hp_body "HeelPostModel" (by decide) rfl ⟨rfl, rfl⟩ (Nat.le_of_ble_eq_true rfl) ?_
  show hp_R G l cX8_callBack 4 (some .int) "HeelPostModel" (hp_rm 2) (some (.int (hp_I r))) H' (hp_r r ∧ hp_in H') 0 [(0, .ref (hp_ad G 0)), (1, .int (hp_I v1))] [] H
  refine x_aload_n dX8_callBack_0 0 rfl ?_
  refine x_iconst dX8_callBack_1 ?_
  obtain ⟨H1, eH1⟩ : ∃ z : hp_H, z = hp_up H 0 0 0 := ⟨_, rfl⟩
  replace h := hp_let_e eH1 h
  have rH1 := hp_ine eH1 (hp_in_up rH (hp_rc rfl))
  refine x_pi 0 0 rfl tyX8 eH1 (sm_0 hG) (by decide) (C := RX8) (T := TX8) (N := 26) rfl in_X8 tyX8_ok nmX8 (by decide) rfl rfl rfl wf_857 dX8_callBack_2 ?_
  refine x_aload_n dX8_callBack_5 0 rfl ?_
  refine x_iload_n dX8_callBack_6 1 rfl ?_
  obtain ⟨c3, g2, h⟩ := hp_b1_e h
  refine x_ivi (As := [.int (hp_I v1)]) (ok_X8_isPosted hG v1 H1 r1 rH1 _ g2) cal_X8_isPosted (sm_0 hG) (by decide) (C := RX8) (T := TX8) (N := 26) rfl rfl ins_X8_isPosted sel_X8_isPosted wm_1077 (by decide) rfl rfl (Nat.le_of_ble_eq_true rfl) dX8_callBack_7 (fun z9 => ?_)
  have rc3 := z9
  refine x_ifne (tgt := 16) dX8_callBack_10 (by decide) rc3 (fun hc4 => ?_) (fun hc4 => ?_)
  · replace h := hp_if hc4 h
    refine x_aload_n dX8_callBack_16 0 rfl ?_
    refine x_getr 5 (sm_0 hG) (by decide) (C := RX8) (T := TX8) (N := 26) rfl in_X8 (by decide) rfl wf_862 dX8_callBack_17 ?_
    refine x_iload_n dX8_callBack_20 1 rfl ?_
    obtain ⟨c6, g5, h⟩ := hp_b1_e h
    refine x_isi (As := [.ref (hp_ad G 4), .int (hp_I v1)]) (ok_X8_isOut hG 4 v1 H1 (sm_4 hG) (by decide) r1 rH1 _ g5) cal_X8_isOut stt_X8_isOut wm_1055 (by decide) rfl rfl (Nat.le_of_ble_eq_true rfl) dX8_callBack_21 (fun z9 => ?_)
    have rc6 := z9
    refine x_ifne (tgt := 30) dX8_callBack_24 (by decide) rc6 (fun hc7 => ?_) (fun hc7 => ?_)
    · replace h := hp_if hc7 h
      refine x_aload_n dX8_callBack_30 0 rfl ?_
      obtain ⟨H9, g8, h⟩ := hp_b1_e h
      refine x_ivv (As := []) (ok_X8_keep hG H1 rH1 _ g8) cal_X8_keep (sm_0 hG) (by decide) (C := RX8) (T := TX8) (N := 26) rfl rfl ins_X8_keep sel_X8_keep wm_1040 (by decide) rfl rfl (Nat.le_of_ble_eq_true rfl) dX8_callBack_31 (fun z9 => ?_)
      have rH9 := z9
      refine x_aload_n dX8_callBack_34 0 rfl ?_
      refine x_getr 5 (sm_0 hG) (by decide) (C := RX8) (T := TX8) (N := 26) rfl in_X8 (by decide) rfl wf_862 dX8_callBack_35 ?_
      refine x_iload_n dX8_callBack_38 1 rfl ?_
      refine x_iconst dX8_callBack_39 ?_
      obtain ⟨c11, g10, h⟩ := hp_b1_e h
      refine x_isi (As := [.ref (hp_ad G 4), .int (hp_I v1), .int (hp_I 1)]) (ok_X8_its hG 4 v1 1 H9 (sm_4 hG) (by decide) r1 (hp_rc rfl) rH9 _ g10) cal_X8_its stt_X8_its wm_1052 (by decide) rfl rfl (Nat.le_of_ble_eq_true rfl) dX8_callBack_40 (fun z9 => ?_)
      have rc11 := z9
      refine x_istore_n (L' := [(2, .int (hp_I c11)), (0, .ref (hp_ad G 0)), (1, .int (hp_I v1))]) dX8_callBack_43 rfl (by decide) rfl ?_
      refine x_iconst dX8_callBack_44 ?_
      refine x_istore_n (L' := [(3, .int (hp_I 0)), (2, .int (hp_I c11)), (0, .ref (hp_ad G 0)), (1, .int (hp_I v1))]) dX8_callBack_45 rfl (by decide) rfl ?_
      obtain ⟨H16, g17, h⟩ := hp_b1_e h
      refine x_sub [2, 3, 1, 0] rfl (ok_X8_callBack_46 hG 1000 v1 c11 0 H9 r1 rc11 (hp_rc rfl) rH9 _ g17 ?_)
      intro rH16
      refine x_iload_n dX8_callBack_70 0 rfl ?_
      cases h
      exact x_iret ⟨rc11, rH16⟩ dX8_callBack_71
    · replace h := hp_it hc7 h
      refine x_ldc (x := (-1000002)) wc_1038 rfl dX8_callBack_27 ?_
      cases h
      exact x_iret ⟨(hp_rc rfl), rH1⟩ dX8_callBack_29
  · replace h := hp_it hc4 h
    refine x_ldc (x := (-1000001)) wc_949 rfl dX8_callBack_13 ?_
    cases h
    exact x_iret ⟨(hp_rc rfl), rH1⟩ dX8_callBack_15
set_option maxRecDepth 100000 in
theorem ok_X8_begin {G : hp_G} (hG : hp_sh G = hp_shm) {l : Launch} (v1 : Int) (v2 : Int) (H : hp_H) (r1 : hp_r v1) (r2 : hp_r v2) (rH : hp_in H) (x : Int × hp_H) (h : f_X8_begin v1 v2 H = some x) : hp_M G l yX8_begin cX8_begin 4 (some .int) (hp_rm 2) [.ref (hp_ad G 0), .int (hp_I v1), .int (hp_I v2)] H (some (.int (hp_I x.1))) x.2 (hp_r x.1 ∧ hp_in x.2) := by
  obtain ⟨r, H'⟩ := x
  unfold f_X8_begin at h
  refine hp_body "HeelPostModel" (by decide) rfl ⟨rfl, rfl⟩ (Nat.le_of_ble_eq_true rfl) ?_
  show hp_R G l cX8_begin 4 (some .int) "HeelPostModel" (hp_rm 2) (some (.int (hp_I r))) H' (hp_r r ∧ hp_in H') 0 [(0, .ref (hp_ad G 0)), (1, .int (hp_I v1)), (2, .int (hp_I v2))] [] H
  refine x_aload_n dX8_begin_0 0 rfl ?_
  refine x_iconst dX8_begin_1 ?_
  obtain ⟨H1, eH1⟩ : ∃ z : hp_H, z = hp_up H 0 0 0 := ⟨_, rfl⟩
  replace h := hp_let_e eH1 h
  have rH1 := hp_ine eH1 (hp_in_up rH (hp_rc rfl))
  refine x_pi 0 0 rfl tyX8 eH1 (sm_0 hG) (by decide) (C := RX8) (T := TX8) (N := 26) rfl in_X8 tyX8_ok nmX8 (by decide) rfl rfl rfl wf_857 dX8_begin_2 ?_
  refine x_aload_n dX8_begin_5 0 rfl ?_
  refine x_iload_n dX8_begin_6 1 rfl ?_
  obtain ⟨c3, g2, h⟩ := hp_b1_e h
  refine x_ivi (As := [.int (hp_I v1)]) (ok_X8_isPerson hG v1 H1 r1 rH1 _ g2) cal_X8_isPerson (sm_0 hG) (by decide) (C := RX8) (T := TX8) (N := 26) rfl rfl ins_X8_isPerson sel_X8_isPerson wm_1100 (by decide) rfl rfl (Nat.le_of_ble_eq_true rfl) dX8_begin_7 (fun z9 => ?_)
  have rc3 := z9
  refine x_ifeq (tgt := 25) dX8_begin_10 (by decide) rc3 (fun hc4 => ?_) (fun hc4 => ?_)
  · replace h := hp_it hc4 h
    refine x_ldc (x := (-1000001)) wc_949 rfl dX8_begin_25 ?_
    cases h
    exact x_iret ⟨(hp_rc rfl), rH1⟩ dX8_begin_27
  · replace h := hp_if hc4 h
    refine x_iload_n dX8_begin_13 2 rfl ?_
    refine x_i2l r2 dX8_begin_14 ?_
    refine x_lconst (x := 0) rfl dX8_begin_15 ?_
    refine x_ldc2 (x := 23) wc_1104 rfl dX8_begin_16 ?_
    obtain ⟨c6, g5, h⟩ := hp_b1_e h
    refine x_isi (As := [.long (hp_J v2), .long (hp_J 0), .long (hp_J 23)]) (ok_X8_in hG v2 0 23 H1 (hp_rrl r2) (hp_rlc rfl) (hp_rlc rfl) rH1 _ g5) cal_X8_in stt_X8_in wm_945 (by decide) rfl rfl (Nat.le_of_ble_eq_true rfl) dX8_begin_19 (fun z9 => ?_)
    have rc6 := z9
    refine x_ifne (tgt := 28) dX8_begin_22 (by decide) rc6 (fun hc7 => ?_) (fun hc7 => ?_)
    · replace h := hp_if hc7 h
      refine x_aload_n dX8_begin_28 0 rfl ?_
      obtain ⟨H9, g8, h⟩ := hp_b1_e h
      refine x_ivv (As := []) (ok_X8_keep hG H1 rH1 _ g8) cal_X8_keep (sm_0 hG) (by decide) (C := RX8) (T := TX8) (N := 26) rfl rfl ins_X8_keep sel_X8_keep wm_1040 (by decide) rfl rfl (Nat.le_of_ble_eq_true rfl) dX8_begin_29 (fun z9 => ?_)
      have rH9 := z9
      refine x_aload_n dX8_begin_32 0 rfl ?_
      refine x_getr 5 (sm_0 hG) (by decide) (C := RX8) (T := TX8) (N := 26) rfl in_X8 (by decide) rfl wf_862 dX8_begin_33 ?_
      refine x_iload_n dX8_begin_36 1 rfl ?_
      refine x_iconst dX8_begin_37 ?_
      obtain ⟨c11, g10, h⟩ := hp_b1_e h
      refine x_isi (As := [.ref (hp_ad G 4), .int (hp_I v1), .int (hp_I 3)]) (ok_X8_of hG 4 v1 3 H9 (sm_4 hG) (by decide) r1 (hp_rc rfl) rH9 _ g10) cal_X8_of stt_X8_of wm_1061 (by decide) rfl rfl (Nat.le_of_ble_eq_true rfl) dX8_begin_38 (fun z9 => ?_)
      have rc11 := z9
      refine x_istore_n (L' := [(3, .int (hp_I c11)), (0, .ref (hp_ad G 0)), (1, .int (hp_I v1)), (2, .int (hp_I v2))]) dX8_begin_41 rfl (by decide) rfl ?_
      refine x_aload_n dX8_begin_42 1 rfl ?_
      refine x_getr 5 (sm_0 hG) (by decide) (C := RX8) (T := TX8) (N := 26) rfl in_X8 (by decide) rfl wf_862 dX8_begin_43 ?_
      refine x_bipush rfl dX8_begin_46 ?_
      refine x_iconst dX8_begin_48 ?_
      refine x_iload_n dX8_begin_49 2 rfl ?_
      refine x_imul dX8_begin_50 ?_
      refine x_iadd dX8_begin_51 ?_
      refine x_iconst dX8_begin_52 ?_
      refine x_iadd dX8_begin_53 ?_
      refine x_iload_n dX8_begin_54 3 rfl ?_
      obtain ⟨b12, h⟩ := hp_ck_e h
      obtain ⟨H13, eH13⟩ : ∃ z : hp_H, z = hp_up H9 4 (hp_w ((hp_w (17 + (hp_w (4 * v1)))) + 3)) v2 := ⟨_, rfl⟩
      replace h := hp_let_e eH13 h
      have rH13 := hp_ine eH13 (hp_in_up rH9 r2)
      refine x_ias 41 rfl eH13 (sm_4 hG) (by decide) (Nat.le_of_ble_eq_true rfl) b12 dX8_begin_55 ?_
      refine x_iload_n dX8_begin_56 0 rfl ?_
      cases h
      exact x_iret ⟨rc11, rH13⟩ dX8_begin_57
    · replace h := hp_it hc7 h
      refine x_ldc (x := (-1000001)) wc_949 rfl dX8_begin_25 ?_
      cases h
      exact x_iret ⟨(hp_rc rfl), rH1⟩ dX8_begin_27
set_option maxRecDepth 100000 in
theorem ok_X8_stay {G : hp_G} (hG : hp_sh G = hp_shm) {l : Launch} (v1 : Int) (v2 : Int) (H : hp_H) (r1 : hp_r v1) (r2 : hp_r v2) (rH : hp_in H) (x : Int × hp_H) (h : f_X8_stay v1 v2 H = some x) : hp_M G l yX8_stay cX8_stay 3 (some .int) (hp_rm 2) [.ref (hp_ad G 0), .int (hp_I v1), .int (hp_I v2)] H (some (.int (hp_I x.1))) x.2 (hp_r x.1 ∧ hp_in x.2) := by
  obtain ⟨r, H'⟩ := x
  unfold f_X8_stay at h
  refine hp_body "HeelPostModel" (by decide) rfl ⟨rfl, rfl⟩ (Nat.le_of_ble_eq_true rfl) ?_
  show hp_R G l cX8_stay 3 (some .int) "HeelPostModel" (hp_rm 2) (some (.int (hp_I r))) H' (hp_r r ∧ hp_in H') 0 [(0, .ref (hp_ad G 0)), (1, .int (hp_I v1)), (2, .int (hp_I v2))] [] H
  refine x_aload_n dX8_stay_0 0 rfl ?_
  refine x_iconst dX8_stay_1 ?_
  obtain ⟨H1, eH1⟩ : ∃ z : hp_H, z = hp_up H 0 0 0 := ⟨_, rfl⟩
  replace h := hp_let_e eH1 h
  have rH1 := hp_ine eH1 (hp_in_up rH (hp_rc rfl))
  refine x_pi 0 0 rfl tyX8 eH1 (sm_0 hG) (by decide) (C := RX8) (T := TX8) (N := 26) rfl in_X8 tyX8_ok nmX8 (by decide) rfl rfl rfl wf_857 dX8_stay_2 ?_
  refine x_aload_n dX8_stay_5 0 rfl ?_
  refine x_iload_n dX8_stay_6 1 rfl ?_
  obtain ⟨c3, g2, h⟩ := hp_b1_e h
  refine x_ivi (As := [.int (hp_I v1)]) (ok_X8_isPerson hG v1 H1 r1 rH1 _ g2) cal_X8_isPerson (sm_0 hG) (by decide) (C := RX8) (T := TX8) (N := 26) rfl rfl ins_X8_isPerson sel_X8_isPerson wm_1100 (by decide) rfl rfl (Nat.le_of_ble_eq_true rfl) dX8_stay_7 (fun z9 => ?_)
  have rc3 := z9
  refine x_ifeq (tgt := 23) dX8_stay_10 (by decide) rc3 (fun hc4 => ?_) (fun hc4 => ?_)
  · replace h := hp_it hc4 h
    refine x_ldc (x := (-1000001)) wc_949 rfl dX8_stay_23 ?_
    cases h
    exact x_iret ⟨(hp_rc rfl), rH1⟩ dX8_stay_25
  · replace h := hp_if hc4 h
    refine x_iload_n dX8_stay_13 2 rfl ?_
    refine x_i2l r2 dX8_stay_14 ?_
    refine x_lconst (x := 0) rfl dX8_stay_15 ?_
    refine x_lconst (x := 1) rfl dX8_stay_16 ?_
    obtain ⟨c6, g5, h⟩ := hp_b1_e h
    refine x_isi (As := [.long (hp_J v2), .long (hp_J 0), .long (hp_J 1)]) (ok_X8_in hG v2 0 1 H1 (hp_rrl r2) (hp_rlc rfl) (hp_rlc rfl) rH1 _ g5) cal_X8_in stt_X8_in wm_945 (by decide) rfl rfl (Nat.le_of_ble_eq_true rfl) dX8_stay_17 (fun z9 => ?_)
    have rc6 := z9
    refine x_ifne (tgt := 26) dX8_stay_20 (by decide) rc6 (fun hc7 => ?_) (fun hc7 => ?_)
    · replace h := hp_if hc7 h
      refine x_aload_n dX8_stay_26 0 rfl ?_
      refine x_getr 5 (sm_0 hG) (by decide) (C := RX8) (T := TX8) (N := 26) rfl in_X8 (by decide) rfl wf_862 dX8_stay_27 ?_
      refine x_iconst dX8_stay_30 ?_
      refine x_ia 41 rfl (sm_4 hG) (by decide) (Nat.le_of_ble_eq_true rfl) (by decide) dX8_stay_31 ?_
      refine x_iload_n dX8_stay_32 1 rfl ?_
      refine x_ishr dX8_stay_33 ?_
      refine x_iconst dX8_stay_34 ?_
      refine x_iand dX8_stay_35 ?_
      refine x_iload_n dX8_stay_36 2 rfl ?_
      refine x_icne (tgt := 43) dX8_stay_37 (by decide) (hp_rand _ _) r2 (fun hc8 => ?_) (fun hc8 => ?_)
      · replace h := hp_if hc8 h
        refine x_aload_n dX8_stay_43 0 rfl ?_
        obtain ⟨H10, g9, h⟩ := hp_b1_e h
        refine x_ivv (As := []) (ok_X8_keep hG H1 rH1 _ g9) cal_X8_keep (sm_0 hG) (by decide) (C := RX8) (T := TX8) (N := 26) rfl rfl ins_X8_keep sel_X8_keep wm_1040 (by decide) rfl rfl (Nat.le_of_ble_eq_true rfl) dX8_stay_44 (fun z9 => ?_)
        have rH10 := z9
        refine x_aload_n dX8_stay_47 0 rfl ?_
        refine x_getr 5 (sm_0 hG) (by decide) (C := RX8) (T := TX8) (N := 26) rfl in_X8 (by decide) rfl wf_862 dX8_stay_48 ?_
        refine x_iconst dX8_stay_51 ?_
        refine x_dup2 rfl rfl dX8_stay_52 ?_
        refine x_ia 41 rfl (sm_4 hG) (by decide) (Nat.le_of_ble_eq_true rfl) (by decide) dX8_stay_53 ?_
        refine x_iconst dX8_stay_54 ?_
        refine x_iload_n dX8_stay_55 1 rfl ?_
        refine x_ishl dX8_stay_56 ?_
        refine x_ixor dX8_stay_57 ?_
        obtain ⟨H11, eH11⟩ : ∃ z : hp_H, z = hp_up H10 4 4 (hp_xor (H10 4 4) (hp_shl 1 v1)) := ⟨_, rfl⟩
        replace h := hp_let_e eH11 h
        have rH11 := hp_ine eH11 (hp_in_up rH10 (hp_rxor _ _))
        refine x_ias 41 rfl eH11 (sm_4 hG) (by decide) (Nat.le_of_ble_eq_true rfl) (by decide) dX8_stay_58 ?_
        refine x_aload_n dX8_stay_59 0 rfl ?_
        refine x_getr 5 (sm_0 hG) (by decide) (C := RX8) (T := TX8) (N := 26) rfl in_X8 (by decide) rfl wf_862 dX8_stay_60 ?_
        refine x_iconst dX8_stay_63 ?_
        refine x_ia 41 rfl (sm_4 hG) (by decide) (Nat.le_of_ble_eq_true rfl) (by decide) dX8_stay_64 ?_
        cases h
        exact x_iret ⟨(rH11 _ _), rH11⟩ dX8_stay_65
      · replace h := hp_it hc8 h
        refine x_ldc (x := (-1000002)) wc_1038 rfl dX8_stay_40 ?_
        cases h
        exact x_iret ⟨(hp_rc rfl), rH1⟩ dX8_stay_42
    · replace h := hp_it hc7 h
      refine x_ldc (x := (-1000001)) wc_949 rfl dX8_stay_23 ?_
      cases h
      exact x_iret ⟨(hp_rc rfl), rH1⟩ dX8_stay_25
set_option maxRecDepth 100000 in
theorem ok_X8_undo_27 {G : hp_G} (hG : hp_sh G = hp_shm) {l : Launch} {vv : Option Value} {H' : hp_H} {Z : Prop} : ∀ (n : Nat) (v1 : Int) (H : hp_H), hp_r v1 → hp_in H → ∀ Hm : hp_H, f_X8_undo_27 n v1 H = some Hm → (hp_in Hm → hp_R G l cX8_undo 2 (some .int) "HeelPostModel" (hp_rm 0) vv H' Z 59 [(0, .ref (hp_ad G 0))] [] Hm) → hp_R G l cX8_undo 2 (some .int) "HeelPostModel" (hp_rm 0) vv H' Z 27 [(0, .ref (hp_ad G 0)), (1, .int (hp_I v1))] [] H := by
  intro n
  induction n with
  | zero =>
    intro v1 H r1 rH Hm h kx
    exact hp_no h
  | succ n ih =>
    intro v1 H r1 rH Hm h kx
    unfold f_X8_undo_27 at h
    refine x_iload_n dX8_undo_27 1 rfl ?_
    refine x_bipush rfl dX8_undo_28 ?_
    refine x_icge (tgt := 59) dX8_undo_30 (by decide) r1 (hp_rc rfl) (fun hc4 => ?_) (fun hc4 => ?_)
    · replace h := hp_if hc4 h
      cases h
      exact x_sub [0] rfl (kx rH)
    · replace h := hp_it hc4 h
      refine x_aload_n dX8_undo_33 0 rfl ?_
      refine x_getr 5 (sm_0 hG) (by decide) (C := RX8) (T := TX8) (N := 26) rfl in_X8 (by decide) rfl wf_862 dX8_undo_34 ?_
      refine x_iload_n dX8_undo_37 1 rfl ?_
      refine x_aload_n dX8_undo_38 0 rfl ?_
      refine x_getr 8 (sm_0 hG) (by decide) (C := RX8) (T := TX8) (N := 26) rfl in_X8 (by decide) rfl wf_865 dX8_undo_39 ?_
      refine x_bipush rfl dX8_undo_42 ?_
      refine x_aload_n dX8_undo_44 0 rfl ?_
      refine x_gi 9 9 rfl (sm_0 hG) (by decide) (C := RX8) (T := TX8) (N := 26) rfl in_X8 (by decide) rfl wf_866 dX8_undo_45 ?_
      refine x_imul dX8_undo_48 ?_
      refine x_iload_n dX8_undo_49 1 rfl ?_
      refine x_iadd dX8_undo_50 ?_
      obtain ⟨b5, h⟩ := hp_ck_e h
      refine x_ia 984 rfl (sm_7 hG) (by decide) (Nat.le_of_ble_eq_true rfl) b5 dX8_undo_51 ?_
      obtain ⟨b6, h⟩ := hp_ck_e h
      obtain ⟨H7, eH7⟩ : ∃ z : hp_H, z = hp_up H 4 v1 (H 7 (hp_w ((hp_w (41 * (H 0 9))) + v1))) := ⟨_, rfl⟩
      replace h := hp_let_e eH7 h
      have rH7 := hp_ine eH7 (hp_in_up rH (rH _ _))
      refine x_ias 41 rfl eH7 (sm_4 hG) (by decide) (Nat.le_of_ble_eq_true rfl) b6 dX8_undo_52 ?_
      obtain ⟨v1_8, ev1_8⟩ : ∃ z : Int, z = (hp_w (v1 + 1)) := ⟨_, rfl⟩
      replace h := hp_let_e ev1_8 h
      have rv1_8 := hp_re ev1_8 (hp_rw _)
      refine x_iiE (L' := [(1, .int (hp_I v1_8)), (0, .ref (hp_ad G 0))]) ev1_8 dX8_undo_53 1 rfl (by decide) rfl ?_
      refine x_goto (tgt := 27) dX8_undo_56 (by decide) ?_
      exact x_sub [1, 0] rfl (ih v1_8 H7 rv1_8 rH7 _ h kx)
set_option maxRecDepth 100000 in
theorem ok_X8_undo {G : hp_G} (hG : hp_sh G = hp_shm) {l : Launch}  (H : hp_H) (rH : hp_in H) (x : Int × hp_H) (h : f_X8_undo  H = some x) : hp_M G l yX8_undo cX8_undo 2 (some .int) (hp_rm 0) [.ref (hp_ad G 0)] H (some (.int (hp_I x.1))) x.2 (hp_r x.1 ∧ hp_in x.2) := by
  obtain ⟨r, H'⟩ := x
  unfold f_X8_undo at h
  refine hp_body "HeelPostModel" (by decide) rfl ⟨rfl, rfl⟩ (Nat.le_of_ble_eq_true rfl) ?_
  show hp_R G l cX8_undo 2 (some .int) "HeelPostModel" (hp_rm 0) (some (.int (hp_I r))) H' (hp_r r ∧ hp_in H') 0 [(0, .ref (hp_ad G 0))] [] H
  refine x_aload_n dX8_undo_0 0 rfl ?_
  refine x_iconst dX8_undo_1 ?_
  obtain ⟨H1, eH1⟩ : ∃ z : hp_H, z = hp_up H 0 0 0 := ⟨_, rfl⟩
  replace h := hp_let_e eH1 h
  have rH1 := hp_ine eH1 (hp_in_up rH (hp_rc rfl))
  refine x_pi 0 0 rfl tyX8 eH1 (sm_0 hG) (by decide) (C := RX8) (T := TX8) (N := 26) rfl in_X8 tyX8_ok nmX8 (by decide) rfl rfl rfl wf_857 dX8_undo_2 ?_
  refine x_aload_n dX8_undo_5 0 rfl ?_
  refine x_gi 9 9 rfl (sm_0 hG) (by decide) (C := RX8) (T := TX8) (N := 26) rfl in_X8 (by decide) rfl wf_866 dX8_undo_6 ?_
  refine x_ifne (tgt := 15) dX8_undo_9 (by decide) (rH1 _ _) (fun hc2 => ?_) (fun hc2 => ?_)
  · replace h := hp_if hc2 h
    refine x_aload_n dX8_undo_15 0 rfl ?_
    refine x_dup rfl dX8_undo_16 ?_
    refine x_gi 9 9 rfl (sm_0 hG) (by decide) (C := RX8) (T := TX8) (N := 26) rfl in_X8 (by decide) rfl wf_866 dX8_undo_17 ?_
    refine x_iconst dX8_undo_20 ?_
    refine x_isub dX8_undo_21 ?_
    obtain ⟨H3, eH3⟩ : ∃ z : hp_H, z = hp_up H1 0 9 (hp_w ((H1 0 9) - 1)) := ⟨_, rfl⟩
    replace h := hp_let_e eH3 h
    have rH3 := hp_ine eH3 (hp_in_up rH1 (hp_rw _))
    refine x_pi 9 9 rfl tyX8 eH3 (sm_0 hG) (by decide) (C := RX8) (T := TX8) (N := 26) rfl in_X8 tyX8_ok nmX8 (by decide) rfl rfl rfl wf_866 dX8_undo_22 ?_
    refine x_iconst dX8_undo_25 ?_
    refine x_istore_n (L' := [(1, .int (hp_I 0)), (0, .ref (hp_ad G 0))]) dX8_undo_26 rfl (by decide) rfl ?_
    obtain ⟨H9, g10, h⟩ := hp_b1_e h
    refine x_sub [1, 0] rfl (ok_X8_undo_27 hG 1000 0 H3 (hp_rc rfl) rH3 _ g10 ?_)
    intro rH9
    refine x_aload_n dX8_undo_59 0 rfl ?_
    refine x_gi 9 9 rfl (sm_0 hG) (by decide) (C := RX8) (T := TX8) (N := 26) rfl in_X8 (by decide) rfl wf_866 dX8_undo_60 ?_
    cases h
    exact x_iret ⟨(rH9 _ _), rH9⟩ dX8_undo_63
  · replace h := hp_it hc2 h
    refine x_ldc (x := (-1000002)) wc_1038 rfl dX8_undo_12 ?_
    cases h
    exact x_iret ⟨(hp_rc rfl), rH1⟩ dX8_undo_14
set_option maxRecDepth 100000 in
theorem ok_X8_person {G : hp_G} (hG : hp_sh G = hp_shm) {l : Launch} (v1 : Int) (v2 : Int) (H : hp_H) (r1 : hp_r v1) (r2 : hp_r v2) (rH : hp_in H) (x : Int × hp_H) (h : f_X8_person v1 v2 H = some x) : hp_M G l yX8_person cX8_person 3 (some .int) (hp_rm 2) [.ref (hp_ad G 0), .int (hp_I v1), .int (hp_I v2)] H (some (.int (hp_I x.1))) x.2 (hp_r x.1 ∧ hp_in x.2) := by
  obtain ⟨r, H'⟩ := x
  unfold f_X8_person at h
  refine hp_body "HeelPostModel" (by decide) rfl ⟨rfl, rfl⟩ (Nat.le_of_ble_eq_true rfl) ?_
  show hp_R G l cX8_person 3 (some .int) "HeelPostModel" (hp_rm 2) (some (.int (hp_I r))) H' (hp_r r ∧ hp_in H') 0 [(0, .ref (hp_ad G 0)), (1, .int (hp_I v1)), (2, .int (hp_I v2))] [] H
  refine x_aload_n dX8_person_0 0 rfl ?_
  refine x_iconst dX8_person_1 ?_
  obtain ⟨H1, eH1⟩ : ∃ z : hp_H, z = hp_up H 0 0 0 := ⟨_, rfl⟩
  replace h := hp_let_e eH1 h
  have rH1 := hp_ine eH1 (hp_in_up rH (hp_rc rfl))
  refine x_pi 0 0 rfl tyX8 eH1 (sm_0 hG) (by decide) (C := RX8) (T := TX8) (N := 26) rfl in_X8 tyX8_ok nmX8 (by decide) rfl rfl rfl wf_857 dX8_person_2 ?_
  refine x_aload_n dX8_person_5 0 rfl ?_
  refine x_iload_n dX8_person_6 1 rfl ?_
  obtain ⟨c3, g2, h⟩ := hp_b1_e h
  refine x_ivi (As := [.int (hp_I v1)]) (ok_X8_isPerson hG v1 H1 r1 rH1 _ g2) cal_X8_isPerson (sm_0 hG) (by decide) (C := RX8) (T := TX8) (N := 26) rfl rfl ins_X8_isPerson sel_X8_isPerson wm_1100 (by decide) rfl rfl (Nat.le_of_ble_eq_true rfl) dX8_person_7 (fun z9 => ?_)
  have rc3 := z9
  refine x_ifeq (tgt := 25) dX8_person_10 (by decide) rc3 (fun hc4 => ?_) (fun hc4 => ?_)
  · replace h := hp_it hc4 h
    refine x_ldc (x := (-1000001)) wc_949 rfl dX8_person_25 ?_
    cases h
    exact x_iret ⟨(hp_rc rfl), rH1⟩ dX8_person_27
  · replace h := hp_if hc4 h
    refine x_iload_n dX8_person_13 2 rfl ?_
    refine x_i2l r2 dX8_person_14 ?_
    refine x_lconst (x := 0) rfl dX8_person_15 ?_
    refine x_ldc2 (x := 5) wc_1117 rfl dX8_person_16 ?_
    obtain ⟨c6, g5, h⟩ := hp_b1_e h
    refine x_isi (As := [.long (hp_J v2), .long (hp_J 0), .long (hp_J 5)]) (ok_X8_in hG v2 0 5 H1 (hp_rrl r2) (hp_rlc rfl) (hp_rlc rfl) rH1 _ g5) cal_X8_in stt_X8_in wm_945 (by decide) rfl rfl (Nat.le_of_ble_eq_true rfl) dX8_person_19 (fun z9 => ?_)
    have rc6 := z9
    refine x_ifne (tgt := 28) dX8_person_22 (by decide) rc6 (fun hc7 => ?_) (fun hc7 => ?_)
    · replace h := hp_if hc7 h
      refine x_iload_n dX8_person_28 2 rfl ?_
      refine x_iconst dX8_person_29 ?_
      refine x_icge (tgt := 47) dX8_person_30 (by decide) r2 (hp_rc rfl) (fun hc8 => ?_) (fun hc8 => ?_)
      · replace h := hp_if hc8 h
        refine x_iload_n dX8_person_47 2 rfl ?_
        refine x_iconst dX8_person_48 ?_
        refine x_icge (tgt := 73) dX8_person_49 (by decide) r2 (hp_rc rfl) (fun hc11 => ?_) (fun hc11 => ?_)
        · replace h := hp_if hc11 h
          refine x_aload_n dX8_person_73 0 rfl ?_
          refine x_getr 5 (sm_0 hG) (by decide) (C := RX8) (T := TX8) (N := 26) rfl in_X8 (by decide) rfl wf_862 dX8_person_74 ?_
          refine x_iconst dX8_person_77 ?_
          refine x_ia 41 rfl (sm_4 hG) (by decide) (Nat.le_of_ble_eq_true rfl) (by decide) dX8_person_78 ?_
          refine x_iload_n dX8_person_79 1 rfl ?_
          refine x_ishr dX8_person_80 ?_
          refine x_iconst dX8_person_81 ?_
          refine x_iand dX8_person_82 ?_
          cases h
          exact x_iret ⟨(hp_rand _ _), rH1⟩ dX8_person_83
        · replace h := hp_it hc11 h
          refine x_aload_n dX8_person_52 0 rfl ?_
          refine x_getr 5 (sm_0 hG) (by decide) (C := RX8) (T := TX8) (N := 26) rfl in_X8 (by decide) rfl wf_862 dX8_person_53 ?_
          refine x_iload_n dX8_person_56 1 rfl ?_
          refine x_aload_n dX8_person_57 0 rfl ?_
          refine x_getr 5 (sm_0 hG) (by decide) (C := RX8) (T := TX8) (N := 26) rfl in_X8 (by decide) rfl wf_862 dX8_person_58 ?_
          refine x_iconst dX8_person_61 ?_
          refine x_ia 41 rfl (sm_4 hG) (by decide) (Nat.le_of_ble_eq_true rfl) (by decide) dX8_person_62 ?_
          refine x_iload_n dX8_person_63 2 rfl ?_
          refine x_iadd dX8_person_64 ?_
          refine x_iconst dX8_person_65 ?_
          refine x_isub dX8_person_66 ?_
          obtain ⟨c13, g12, h⟩ := hp_b1_e h
          refine x_isi (As := [.ref (hp_ad G 4), .int (hp_I v1), .int (hp_I (hp_w ((hp_w ((H1 4 3) + v2)) - 3)))]) (ok_X8_place hG 4 v1 (hp_w ((hp_w ((H1 4 3) + v2)) - 3)) H1 (sm_4 hG) (by decide) r1 (hp_rw _) rH1 _ g12) cal_X8_place stt_X8_place wm_1058 (by decide) rfl rfl (Nat.le_of_ble_eq_true rfl) dX8_person_67 (fun z9 => ?_)
          have rc13 := z9
          refine x_goto (tgt := 83) dX8_person_70 (by decide) ?_
          cases h
          exact x_iret ⟨rc13, rH1⟩ dX8_person_83
      · replace h := hp_it hc8 h
        refine x_aload_n dX8_person_33 0 rfl ?_
        refine x_getr 5 (sm_0 hG) (by decide) (C := RX8) (T := TX8) (N := 26) rfl in_X8 (by decide) rfl wf_862 dX8_person_34 ?_
        refine x_iload_n dX8_person_37 1 rfl ?_
        refine x_iconst dX8_person_38 ?_
        refine x_iload_n dX8_person_39 2 rfl ?_
        refine x_iadd dX8_person_40 ?_
        obtain ⟨c10, g9, h⟩ := hp_b1_e h
        refine x_isi (As := [.ref (hp_ad G 4), .int (hp_I v1), .int (hp_I (hp_w (1 + v2)))]) (ok_X8_of hG 4 v1 (hp_w (1 + v2)) H1 (sm_4 hG) (by decide) r1 (hp_rw _) rH1 _ g9) cal_X8_of stt_X8_of wm_1061 (by decide) rfl rfl (Nat.le_of_ble_eq_true rfl) dX8_person_41 (fun z9 => ?_)
        have rc10 := z9
        refine x_goto (tgt := 83) dX8_person_44 (by decide) ?_
        cases h
        exact x_iret ⟨rc10, rH1⟩ dX8_person_83
    · replace h := hp_it hc7 h
      refine x_ldc (x := (-1000001)) wc_949 rfl dX8_person_25 ?_
      cases h
      exact x_iret ⟨(hp_rc rfl), rH1⟩ dX8_person_27
set_option maxRecDepth 100000 in
theorem ok_X8_letter {G : hp_G} (hG : hp_sh G = hp_shm) {l : Launch} (v1 : Int) (v2 : Int) (H : hp_H) (r1 : hp_r v1) (r2 : hp_r v2) (rH : hp_in H) (x : Int × hp_H) (h : f_X8_letter v1 v2 H = some x) : hp_M G l yX8_letter cX8_letter 3 (some .int) (hp_rm 3) [.ref (hp_ad G 0), .int (hp_I v1), .int (hp_I v2)] H (some (.int (hp_I x.1))) x.2 (hp_r x.1 ∧ hp_in x.2) := by
  obtain ⟨r, H'⟩ := x
  unfold f_X8_letter at h
  refine hp_body "HeelPostModel" (by decide) rfl ⟨rfl, rfl⟩ (Nat.le_of_ble_eq_true rfl) ?_
  show hp_R G l cX8_letter 3 (some .int) "HeelPostModel" (hp_rm 3) (some (.int (hp_I r))) H' (hp_r r ∧ hp_in H') 0 [(0, .ref (hp_ad G 0)), (1, .int (hp_I v1)), (2, .int (hp_I v2))] [] H
  refine x_aload_n dX8_letter_0 0 rfl ?_
  refine x_iconst dX8_letter_1 ?_
  obtain ⟨H1, eH1⟩ : ∃ z : hp_H, z = hp_up H 0 0 0 := ⟨_, rfl⟩
  replace h := hp_let_e eH1 h
  have rH1 := hp_ine eH1 (hp_in_up rH (hp_rc rfl))
  refine x_pi 0 0 rfl tyX8 eH1 (sm_0 hG) (by decide) (C := RX8) (T := TX8) (N := 26) rfl in_X8 tyX8_ok nmX8 (by decide) rfl rfl rfl wf_857 dX8_letter_2 ?_
  refine x_aload_n dX8_letter_5 0 rfl ?_
  refine x_iload_n dX8_letter_6 1 rfl ?_
  obtain ⟨c3, g2, h⟩ := hp_b1_e h
  refine x_ivi (As := [.int (hp_I v1)]) (ok_X8_isPosted hG v1 H1 r1 rH1 _ g2) cal_X8_isPosted (sm_0 hG) (by decide) (C := RX8) (T := TX8) (N := 26) rfl rfl ins_X8_isPosted sel_X8_isPosted wm_1077 (by decide) rfl rfl (Nat.le_of_ble_eq_true rfl) dX8_letter_7 (fun z9 => ?_)
  have rc3 := z9
  refine x_ifeq (tgt := 40) dX8_letter_10 (by decide) rc3 (fun hc4 => ?_) (fun hc4 => ?_)
  · replace h := hp_it hc4 h
    refine x_ldc (x := (-1000001)) wc_949 rfl dX8_letter_40 ?_
    cases h
    exact x_iret ⟨(hp_rc rfl), rH1⟩ dX8_letter_42
  · replace h := hp_if hc4 h
    refine x_iload_n dX8_letter_13 2 rfl ?_
    refine x_i2l r2 dX8_letter_14 ?_
    refine x_lconst (x := 0) rfl dX8_letter_15 ?_
    refine x_ldc2 (x := 3) wc_1081 rfl dX8_letter_16 ?_
    obtain ⟨c6, g5, h⟩ := hp_b1_e h
    refine x_isi (As := [.long (hp_J v2), .long (hp_J 0), .long (hp_J 3)]) (ok_X8_in hG v2 0 3 H1 (hp_rrl r2) (hp_rlc rfl) (hp_rlc rfl) rH1 _ g5) cal_X8_in stt_X8_in wm_945 (by decide) rfl rfl (Nat.le_of_ble_eq_true rfl) dX8_letter_19 (fun z9 => ?_)
    have rc6 := z9
    refine x_ifeq (tgt := 40) dX8_letter_22 (by decide) rc6 (fun hc7 => ?_) (fun hc7 => ?_)
    · replace h := hp_it hc7 h
      refine x_ldc (x := (-1000001)) wc_949 rfl dX8_letter_40 ?_
      cases h
      exact x_iret ⟨(hp_rc rfl), rH1⟩ dX8_letter_42
    · replace h := hp_if hc7 h
      refine x_iload_n dX8_letter_25 2 rfl ?_
      refine x_ifle (tgt := 43) dX8_letter_26 (by decide) r2 (fun hc8 => ?_) (fun hc8 => ?_)
      · replace h := hp_if hc8 h
        refine x_aload_n dX8_letter_43 0 rfl ?_
        refine x_aload_n dX8_letter_44 0 rfl ?_
        refine x_getr 5 (sm_0 hG) (by decide) (C := RX8) (T := TX8) (N := 26) rfl in_X8 (by decide) rfl wf_862 dX8_letter_45 ?_
        obtain ⟨H19, g18, h⟩ := hp_b1_e h
        refine x_ivv (As := [.ref (hp_ad G 4)]) (ok_X8_findCarriers hG 4 H1 (sm_4 hG) (by decide) rH1 _ g18) cal_X8_findCarriers (sm_0 hG) (by decide) (C := RX8) (T := TX8) (N := 26) rfl rfl ins_X8_findCarriers sel_X8_findCarriers wm_1048 (by decide) rfl rfl (Nat.le_of_ble_eq_true rfl) dX8_letter_48 (fun z9 => ?_)
        have rH19 := z9
        refine x_iload_n dX8_letter_51 2 rfl ?_
        refine x_iconst dX8_letter_52 ?_
        refine x_icge (tgt := 68) dX8_letter_53 (by decide) r2 (hp_rc rfl) (fun hc20 => ?_) (fun hc20 => ?_)
        · replace h := hp_if hc20 h
          refine x_aload_n dX8_letter_68 0 rfl ?_
          refine x_getr 19 (sm_0 hG) (by decide) (C := RX8) (T := TX8) (N := 26) rfl in_X8 (by decide) rfl wf_876 dX8_letter_69 ?_
          refine x_iload_n dX8_letter_72 1 rfl ?_
          obtain ⟨b23, h⟩ := hp_ck_e h
          refine x_ia 4 rfl (sm_9 hG) (by decide) (Nat.le_of_ble_eq_true rfl) b23 dX8_letter_73 ?_
          cases h
          exact x_iret ⟨(rH19 _ _), rH19⟩ dX8_letter_74
        · replace h := hp_it hc20 h
          refine x_aload_n dX8_letter_56 0 rfl ?_
          refine x_getr 5 (sm_0 hG) (by decide) (C := RX8) (T := TX8) (N := 26) rfl in_X8 (by decide) rfl wf_862 dX8_letter_57 ?_
          refine x_iload_n dX8_letter_60 1 rfl ?_
          refine x_iload_n dX8_letter_61 2 rfl ?_
          obtain ⟨c22, g21, h⟩ := hp_b1_e h
          refine x_isi (As := [.ref (hp_ad G 4), .int (hp_I v1), .int (hp_I v2)]) (ok_X8_its hG 4 v1 v2 H19 (sm_4 hG) (by decide) r1 r2 rH19 _ g21) cal_X8_its stt_X8_its wm_1052 (by decide) rfl rfl (Nat.le_of_ble_eq_true rfl) dX8_letter_62 (fun z9 => ?_)
          have rc22 := z9
          refine x_goto (tgt := 74) dX8_letter_65 (by decide) ?_
          cases h
          exact x_iret ⟨rc22, rH19⟩ dX8_letter_74
      · replace h := hp_it hc8 h
        refine x_aload_n dX8_letter_29 0 rfl ?_
        refine x_getr 5 (sm_0 hG) (by decide) (C := RX8) (T := TX8) (N := 26) rfl in_X8 (by decide) rfl wf_862 dX8_letter_30 ?_
        refine x_iload_n dX8_letter_33 1 rfl ?_
        obtain ⟨c10, g9, h⟩ := hp_b1_e h
        refine x_isi (As := [.ref (hp_ad G 4), .int (hp_I v1)]) (ok_X8_isOut hG 4 v1 H1 (sm_4 hG) (by decide) r1 rH1 _ g9) cal_X8_isOut stt_X8_isOut wm_1055 (by decide) rfl rfl (Nat.le_of_ble_eq_true rfl) dX8_letter_34 (fun z9 => ?_)
        have rc10 := z9
        refine x_ifne (tgt := 43) dX8_letter_37 (by decide) rc10 (fun hc11 => ?_) (fun hc11 => ?_)
        · replace h := hp_if hc11 h
          refine x_aload_n dX8_letter_43 0 rfl ?_
          refine x_aload_n dX8_letter_44 0 rfl ?_
          refine x_getr 5 (sm_0 hG) (by decide) (C := RX8) (T := TX8) (N := 26) rfl in_X8 (by decide) rfl wf_862 dX8_letter_45 ?_
          obtain ⟨H13, g12, h⟩ := hp_b1_e h
          refine x_ivv (As := [.ref (hp_ad G 4)]) (ok_X8_findCarriers hG 4 H1 (sm_4 hG) (by decide) rH1 _ g12) cal_X8_findCarriers (sm_0 hG) (by decide) (C := RX8) (T := TX8) (N := 26) rfl rfl ins_X8_findCarriers sel_X8_findCarriers wm_1048 (by decide) rfl rfl (Nat.le_of_ble_eq_true rfl) dX8_letter_48 (fun z9 => ?_)
          have rH13 := z9
          refine x_iload_n dX8_letter_51 2 rfl ?_
          refine x_iconst dX8_letter_52 ?_
          refine x_icge (tgt := 68) dX8_letter_53 (by decide) r2 (hp_rc rfl) (fun hc14 => ?_) (fun hc14 => ?_)
          · replace h := hp_if hc14 h
            refine x_aload_n dX8_letter_68 0 rfl ?_
            refine x_getr 19 (sm_0 hG) (by decide) (C := RX8) (T := TX8) (N := 26) rfl in_X8 (by decide) rfl wf_876 dX8_letter_69 ?_
            refine x_iload_n dX8_letter_72 1 rfl ?_
            obtain ⟨b17, h⟩ := hp_ck_e h
            refine x_ia 4 rfl (sm_9 hG) (by decide) (Nat.le_of_ble_eq_true rfl) b17 dX8_letter_73 ?_
            cases h
            exact x_iret ⟨(rH13 _ _), rH13⟩ dX8_letter_74
          · replace h := hp_it hc14 h
            refine x_aload_n dX8_letter_56 0 rfl ?_
            refine x_getr 5 (sm_0 hG) (by decide) (C := RX8) (T := TX8) (N := 26) rfl in_X8 (by decide) rfl wf_862 dX8_letter_57 ?_
            refine x_iload_n dX8_letter_60 1 rfl ?_
            refine x_iload_n dX8_letter_61 2 rfl ?_
            obtain ⟨c16, g15, h⟩ := hp_b1_e h
            refine x_isi (As := [.ref (hp_ad G 4), .int (hp_I v1), .int (hp_I v2)]) (ok_X8_its hG 4 v1 v2 H13 (sm_4 hG) (by decide) r1 r2 rH13 _ g15) cal_X8_its stt_X8_its wm_1052 (by decide) rfl rfl (Nat.le_of_ble_eq_true rfl) dX8_letter_62 (fun z9 => ?_)
            have rc16 := z9
            refine x_goto (tgt := 74) dX8_letter_65 (by decide) ?_
            cases h
            exact x_iret ⟨rc16, rH13⟩ dX8_letter_74
        · replace h := hp_it hc11 h
          refine x_ldc (x := (-1000001)) wc_949 rfl dX8_letter_40 ?_
          cases h
          exact x_iret ⟨(hp_rc rfl), rH1⟩ dX8_letter_42
set_option maxRecDepth 100000 in
theorem ok_X8_lane_20 {G : hp_G} (hG : hp_sh G = hp_shm) {l : Launch} {vv : Option Value} {H' : hp_H} {Z : Prop} : ∀ (n : Nat) (v1 : Int) (v2 : Int) (v3 : Int) (H : hp_H), hp_r v1 → hp_r v2 → hp_r v3 → hp_in H → ∀ m2 : Int, f_X8_lane_20 n v1 v2 v3 H = some m2 → (hp_r m2 → hp_R G l cX8_lane 4 (some .int) "HeelPostModel" (hp_rm 2) vv H' Z 64 [(2, .int (hp_I m2))] [] H) → hp_R G l cX8_lane 4 (some .int) "HeelPostModel" (hp_rm 2) vv H' Z 20 [(0, .ref (hp_ad G 0)), (1, .int (hp_I v1)), (2, .int (hp_I v2)), (3, .int (hp_I v3))] [] H := by
  intro n
  induction n with
  | zero =>
    intro v1 v2 v3 H r1 r2 r3 rH m2 h kx
    exact hp_no h
  | succ n ih =>
    intro v1 v2 v3 H r1 r2 r3 rH m2 h kx
    unfold f_X8_lane_20 at h
    refine x_iload_n dX8_lane_20 3 rfl ?_
    refine x_aload_n dX8_lane_21 0 rfl ?_
    refine x_getr 5 (sm_0 hG) (by decide) (C := RX8) (T := TX8) (N := 26) rfl in_X8 (by decide) rfl wf_862 dX8_lane_22 ?_
    refine x_iconst dX8_lane_25 ?_
    refine x_ia 41 rfl (sm_4 hG) (by decide) (Nat.le_of_ble_eq_true rfl) (by decide) dX8_lane_26 ?_
    refine x_icge (tgt := 64) dX8_lane_27 (by decide) r3 (rH _ _) (fun hc5 => ?_) (fun hc5 => ?_)
    · replace h := hp_if hc5 h
      cases h
      exact x_sub [2] rfl (kx r2)
    · replace h := hp_it hc5 h
      refine x_iload_n dX8_lane_30 2 rfl ?_
      refine x_aload_n dX8_lane_31 0 rfl ?_
      refine x_getr 5 (sm_0 hG) (by decide) (C := RX8) (T := TX8) (N := 26) rfl in_X8 (by decide) rfl wf_862 dX8_lane_32 ?_
      refine x_iload_n dX8_lane_35 3 rfl ?_
      refine x_aload_n dX8_lane_36 0 rfl ?_
      refine x_getr 5 (sm_0 hG) (by decide) (C := RX8) (T := TX8) (N := 26) rfl in_X8 (by decide) rfl wf_862 dX8_lane_37 ?_
      refine x_iconst dX8_lane_40 ?_
      refine x_ia 41 rfl (sm_4 hG) (by decide) (Nat.le_of_ble_eq_true rfl) (by decide) dX8_lane_41 ?_
      obtain ⟨c7, g6, h⟩ := hp_b1_e h
      refine x_isi (As := [.ref (hp_ad G 4), .int (hp_I v3), .int (hp_I (H 4 3))]) (ok_X8_place hG 4 v3 (H 4 3) H (sm_4 hG) (by decide) r3 (rH _ _) rH _ g6) cal_X8_place stt_X8_place wm_1058 (by decide) rfl rfl (Nat.le_of_ble_eq_true rfl) dX8_lane_42 (fun z9 => ?_)
      have rc7 := z9
      refine x_iload_n dX8_lane_45 1 rfl ?_
      obtain ⟨m8, em8⟩ : ∃ z : Int, z = (if c7 = v1 then (hp_shl 1 v3) else 0) := ⟨_, rfl⟩
      replace h := hp_let_e em8 h
      have rm8 := hp_re em8 (hp_rite (hp_rshl _ _) (hp_rc rfl))
      have kj : hp_R G l cX8_lane 4 (some .int) "HeelPostModel" (hp_rm 2) vv H' Z 56 [(0, .ref (hp_ad G 0)), (1, .int (hp_I v1)), (3, .int (hp_I v3))] [.int (hp_I m8), .int (hp_I v2)] H := by
        refine x_ior dX8_lane_56 ?_
        obtain ⟨v2_9, ev2_9⟩ : ∃ z : Int, z = (hp_or v2 m8) := ⟨_, rfl⟩
        replace h := hp_let_e ev2_9 h
        have rv2_9 := hp_re ev2_9 (hp_ror _ _)
        refine x_isnE (L' := [(2, .int (hp_I v2_9)), (0, .ref (hp_ad G 0)), (1, .int (hp_I v1)), (3, .int (hp_I v3))]) ev2_9 dX8_lane_57 rfl (by decide) rfl ?_
        obtain ⟨v3_10, ev3_10⟩ : ∃ z : Int, z = (hp_w (v3 + 1)) := ⟨_, rfl⟩
        replace h := hp_let_e ev3_10 h
        have rv3_10 := hp_re ev3_10 (hp_rw _)
        refine x_iiE (L' := [(3, .int (hp_I v3_10)), (2, .int (hp_I v2_9)), (0, .ref (hp_ad G 0)), (1, .int (hp_I v1))]) ev3_10 dX8_lane_58 3 rfl (by decide) rfl ?_
        refine x_goto (tgt := 20) dX8_lane_61 (by decide) ?_
        exact x_sub [2, 3, 1, 0] rfl (ih v1 v2_9 v3_10 H r1 rv2_9 rv3_10 rH _ h kx)
      clear h
      refine x_icne (tgt := 55) dX8_lane_46 (by decide) rc7 r1 (fun hc11 => ?_) (fun hc11 => ?_)
      · refine x_iconst dX8_lane_55 ?_
        have q9 := (em8.trans (if_neg hc11))
        subst q9
        exact x_sub [0, 1, 3] rfl kj
      · refine x_iconst dX8_lane_49 ?_
        refine x_iload_n dX8_lane_50 3 rfl ?_
        refine x_ishl dX8_lane_51 ?_
        refine x_goto (tgt := 56) dX8_lane_52 (by decide) ?_
        have q9 := (em8.trans (if_pos hc11))
        subst q9
        exact x_sub [0, 1, 3] rfl kj
set_option maxRecDepth 100000 in
theorem ok_X8_lane {G : hp_G} (hG : hp_sh G = hp_shm) {l : Launch} (v1 : Int) (H : hp_H) (r1 : hp_r v1) (rH : hp_in H) (x : Int × hp_H) (h : f_X8_lane v1 H = some x) : hp_M G l yX8_lane cX8_lane 4 (some .int) (hp_rm 2) [.ref (hp_ad G 0), .int (hp_I v1)] H (some (.int (hp_I x.1))) x.2 (hp_r x.1 ∧ hp_in x.2) := by
  obtain ⟨r, H'⟩ := x
  unfold f_X8_lane at h
  refine hp_body "HeelPostModel" (by decide) rfl ⟨rfl, rfl⟩ (Nat.le_of_ble_eq_true rfl) ?_
  show hp_R G l cX8_lane 4 (some .int) "HeelPostModel" (hp_rm 2) (some (.int (hp_I r))) H' (hp_r r ∧ hp_in H') 0 [(0, .ref (hp_ad G 0)), (1, .int (hp_I v1))] [] H
  refine x_aload_n dX8_lane_0 0 rfl ?_
  refine x_iconst dX8_lane_1 ?_
  obtain ⟨H1, eH1⟩ : ∃ z : hp_H, z = hp_up H 0 0 0 := ⟨_, rfl⟩
  replace h := hp_let_e eH1 h
  have rH1 := hp_ine eH1 (hp_in_up rH (hp_rc rfl))
  refine x_pi 0 0 rfl tyX8 eH1 (sm_0 hG) (by decide) (C := RX8) (T := TX8) (N := 26) rfl in_X8 tyX8_ok nmX8 (by decide) rfl rfl rfl wf_857 dX8_lane_2 ?_
  refine x_aload_n dX8_lane_5 0 rfl ?_
  refine x_iload_n dX8_lane_6 1 rfl ?_
  obtain ⟨c3, g2, h⟩ := hp_b1_e h
  refine x_ivi (As := [.int (hp_I v1)]) (ok_X8_isLane hG v1 H1 r1 rH1 _ g2) cal_X8_isLane (sm_0 hG) (by decide) (C := RX8) (T := TX8) (N := 26) rfl rfl ins_X8_isLane sel_X8_isLane wm_1082 (by decide) rfl rfl (Nat.le_of_ble_eq_true rfl) dX8_lane_7 (fun z9 => ?_)
  have rc3 := z9
  refine x_ifne (tgt := 16) dX8_lane_10 (by decide) rc3 (fun hc4 => ?_) (fun hc4 => ?_)
  · replace h := hp_if hc4 h
    refine x_iconst dX8_lane_16 ?_
    refine x_istore_n (L' := [(2, .int (hp_I 0)), (0, .ref (hp_ad G 0)), (1, .int (hp_I v1))]) dX8_lane_17 rfl (by decide) rfl ?_
    refine x_iconst dX8_lane_18 ?_
    refine x_istore_n (L' := [(3, .int (hp_I 0)), (2, .int (hp_I 0)), (0, .ref (hp_ad G 0)), (1, .int (hp_I v1))]) dX8_lane_19 rfl (by decide) rfl ?_
    obtain ⟨v2_12, g13, h⟩ := hp_b1_e h
    refine x_sub [2, 3, 1, 0] rfl (ok_X8_lane_20 hG 1000 v1 0 0 H1 r1 (hp_rc rfl) (hp_rc rfl) rH1 _ g13 ?_)
    intro rv2_12
    refine x_iload_n dX8_lane_64 0 rfl ?_
    cases h
    exact x_iret ⟨rv2_12, rH1⟩ dX8_lane_65
  · replace h := hp_it hc4 h
    refine x_ldc (x := (-1000001)) wc_949 rfl dX8_lane_13 ?_
    cases h
    exact x_iret ⟨(hp_rc rfl), rH1⟩ dX8_lane_15
set_option maxRecDepth 100000 in
theorem ok_X8_ahead {G : hp_G} (hG : hp_sh G = hp_shm) {l : Launch} (v1 : Int) (v2 : Int) (H : hp_H) (r1 : hp_r v1) (r2 : hp_r v2) (rH : hp_in H) (x : Int × hp_H) (h : f_X8_ahead v1 v2 H = some x) : hp_M G l yX8_ahead cX8_ahead 3 (some .int) (hp_rm 2) [.ref (hp_ad G 0), .int (hp_I v1), .int (hp_I v2)] H (some (.int (hp_I x.1))) x.2 (hp_r x.1 ∧ hp_in x.2) := by
  obtain ⟨r, H'⟩ := x
  unfold f_X8_ahead at h
  refine hp_body "HeelPostModel" (by decide) rfl ⟨rfl, rfl⟩ (Nat.le_of_ble_eq_true rfl) ?_
  show hp_R G l cX8_ahead 3 (some .int) "HeelPostModel" (hp_rm 2) (some (.int (hp_I r))) H' (hp_r r ∧ hp_in H') 0 [(0, .ref (hp_ad G 0)), (1, .int (hp_I v1)), (2, .int (hp_I v2))] [] H
  refine x_aload_n dX8_ahead_0 0 rfl ?_
  refine x_iconst dX8_ahead_1 ?_
  obtain ⟨H1, eH1⟩ : ∃ z : hp_H, z = hp_up H 0 0 0 := ⟨_, rfl⟩
  replace h := hp_let_e eH1 h
  have rH1 := hp_ine eH1 (hp_in_up rH (hp_rc rfl))
  refine x_pi 0 0 rfl tyX8 eH1 (sm_0 hG) (by decide) (C := RX8) (T := TX8) (N := 26) rfl in_X8 tyX8_ok nmX8 (by decide) rfl rfl rfl wf_857 dX8_ahead_2 ?_
  refine x_aload_n dX8_ahead_5 0 rfl ?_
  refine x_iload_n dX8_ahead_6 1 rfl ?_
  obtain ⟨c3, g2, h⟩ := hp_b1_e h
  refine x_ivi (As := [.int (hp_I v1)]) (ok_X8_isPerson hG v1 H1 r1 rH1 _ g2) cal_X8_isPerson (sm_0 hG) (by decide) (C := RX8) (T := TX8) (N := 26) rfl rfl ins_X8_isPerson sel_X8_isPerson wm_1100 (by decide) rfl rfl (Nat.le_of_ble_eq_true rfl) dX8_ahead_7 (fun z9 => ?_)
  have rc3 := z9
  refine x_ifeq (tgt := 44) dX8_ahead_10 (by decide) rc3 (fun hc4 => ?_) (fun hc4 => ?_)
  · replace h := hp_it hc4 h
    refine x_ldc (x := (-1000001)) wc_949 rfl dX8_ahead_44 ?_
    cases h
    exact x_iret ⟨(hp_rc rfl), rH1⟩ dX8_ahead_46
  · replace h := hp_if hc4 h
    refine x_iload_n dX8_ahead_13 2 rfl ?_
    refine x_i2l r2 dX8_ahead_14 ?_
    refine x_lconst (x := 0) rfl dX8_ahead_15 ?_
    refine x_ldc2 (x := 99) wc_1130 rfl dX8_ahead_16 ?_
    obtain ⟨c6, g5, h⟩ := hp_b1_e h
    refine x_isi (As := [.long (hp_J v2), .long (hp_J 0), .long (hp_J 99)]) (ok_X8_in hG v2 0 99 H1 (hp_rrl r2) (hp_rlc rfl) (hp_rlc rfl) rH1 _ g5) cal_X8_in stt_X8_in wm_945 (by decide) rfl rfl (Nat.le_of_ble_eq_true rfl) dX8_ahead_19 (fun z9 => ?_)
    have rc6 := z9
    refine x_ifeq (tgt := 44) dX8_ahead_22 (by decide) rc6 (fun hc7 => ?_) (fun hc7 => ?_)
    · replace h := hp_it hc7 h
      refine x_ldc (x := (-1000001)) wc_949 rfl dX8_ahead_44 ?_
      cases h
      exact x_iret ⟨(hp_rc rfl), rH1⟩ dX8_ahead_46
    · replace h := hp_if hc7 h
      refine x_aload_n dX8_ahead_25 0 rfl ?_
      refine x_getr 5 (sm_0 hG) (by decide) (C := RX8) (T := TX8) (N := 26) rfl in_X8 (by decide) rfl wf_862 dX8_ahead_26 ?_
      refine x_iload_n dX8_ahead_29 1 rfl ?_
      refine x_aload_n dX8_ahead_30 0 rfl ?_
      refine x_getr 5 (sm_0 hG) (by decide) (C := RX8) (T := TX8) (N := 26) rfl in_X8 (by decide) rfl wf_862 dX8_ahead_31 ?_
      refine x_iconst dX8_ahead_34 ?_
      refine x_ia 41 rfl (sm_4 hG) (by decide) (Nat.le_of_ble_eq_true rfl) (by decide) dX8_ahead_35 ?_
      refine x_iload_n dX8_ahead_36 2 rfl ?_
      refine x_iadd dX8_ahead_37 ?_
      obtain ⟨c9, g8, h⟩ := hp_b1_e h
      refine x_isi (As := [.ref (hp_ad G 4), .int (hp_I v1), .int (hp_I (hp_w ((H1 4 3) + v2)))]) (ok_X8_place hG 4 v1 (hp_w ((H1 4 3) + v2)) H1 (sm_4 hG) (by decide) r1 (hp_rw _) rH1 _ g8) cal_X8_place stt_X8_place wm_1058 (by decide) rfl rfl (Nat.le_of_ble_eq_true rfl) dX8_ahead_38 (fun z9 => ?_)
      have rc9 := z9
      refine x_goto (tgt := 46) dX8_ahead_41 (by decide) ?_
      cases h
      exact x_iret ⟨rc9, rH1⟩ dX8_ahead_46
set_option maxRecDepth 100000 in
theorem ok_X8_letterAhead {G : hp_G} (hG : hp_sh G = hp_shm) {l : Launch} (v1 : Int) (v2 : Int) (H : hp_H) (r1 : hp_r v1) (r2 : hp_r v2) (rH : hp_in H) (x : Int × hp_H) (h : f_X8_letterAhead v1 v2 H = some x) : hp_M G l yX8_letterAhead cX8_letterAhead 3 (some .int) (hp_rm 5) [.ref (hp_ad G 0), .int (hp_I v1), .int (hp_I v2)] H (some (.int (hp_I x.1))) x.2 (hp_r x.1 ∧ hp_in x.2) := by
  obtain ⟨r, H'⟩ := x
  unfold f_X8_letterAhead at h
  refine hp_body "HeelPostModel" (by decide) rfl ⟨rfl, rfl⟩ (Nat.le_of_ble_eq_true rfl) ?_
  show hp_R G l cX8_letterAhead 3 (some .int) "HeelPostModel" (hp_rm 5) (some (.int (hp_I r))) H' (hp_r r ∧ hp_in H') 0 [(0, .ref (hp_ad G 0)), (1, .int (hp_I v1)), (2, .int (hp_I v2))] [] H
  refine x_aload_n dX8_letterAhead_0 0 rfl ?_
  refine x_iconst dX8_letterAhead_1 ?_
  obtain ⟨H1, eH1⟩ : ∃ z : hp_H, z = hp_up H 0 0 0 := ⟨_, rfl⟩
  replace h := hp_let_e eH1 h
  have rH1 := hp_ine eH1 (hp_in_up rH (hp_rc rfl))
  refine x_pi 0 0 rfl tyX8 eH1 (sm_0 hG) (by decide) (C := RX8) (T := TX8) (N := 26) rfl in_X8 tyX8_ok nmX8 (by decide) rfl rfl rfl wf_857 dX8_letterAhead_2 ?_
  refine x_aload_n dX8_letterAhead_5 0 rfl ?_
  refine x_iload_n dX8_letterAhead_6 1 rfl ?_
  obtain ⟨c3, g2, h⟩ := hp_b1_e h
  refine x_ivi (As := [.int (hp_I v1)]) (ok_X8_isPosted hG v1 H1 r1 rH1 _ g2) cal_X8_isPosted (sm_0 hG) (by decide) (C := RX8) (T := TX8) (N := 26) rfl rfl ins_X8_isPosted sel_X8_isPosted wm_1077 (by decide) rfl rfl (Nat.le_of_ble_eq_true rfl) dX8_letterAhead_7 (fun z9 => ?_)
  have rc3 := z9
  refine x_ifeq (tgt := 25) dX8_letterAhead_10 (by decide) rc3 (fun hc4 => ?_) (fun hc4 => ?_)
  · replace h := hp_it hc4 h
    refine x_ldc (x := (-1000001)) wc_949 rfl dX8_letterAhead_25 ?_
    cases h
    exact x_iret ⟨(hp_rc rfl), rH1⟩ dX8_letterAhead_27
  · replace h := hp_if hc4 h
    refine x_iload_n dX8_letterAhead_13 2 rfl ?_
    refine x_i2l r2 dX8_letterAhead_14 ?_
    refine x_lconst (x := 0) rfl dX8_letterAhead_15 ?_
    refine x_ldc2 (x := 99) wc_1130 rfl dX8_letterAhead_16 ?_
    obtain ⟨c6, g5, h⟩ := hp_b1_e h
    refine x_isi (As := [.long (hp_J v2), .long (hp_J 0), .long (hp_J 99)]) (ok_X8_in hG v2 0 99 H1 (hp_rrl r2) (hp_rlc rfl) (hp_rlc rfl) rH1 _ g5) cal_X8_in stt_X8_in wm_945 (by decide) rfl rfl (Nat.le_of_ble_eq_true rfl) dX8_letterAhead_19 (fun z9 => ?_)
    have rc6 := z9
    refine x_ifne (tgt := 28) dX8_letterAhead_22 (by decide) rc6 (fun hc7 => ?_) (fun hc7 => ?_)
    · replace h := hp_if hc7 h
      refine x_aload_n dX8_letterAhead_28 0 rfl ?_
      refine x_getr 5 (sm_0 hG) (by decide) (C := RX8) (T := TX8) (N := 26) rfl in_X8 (by decide) rfl wf_862 dX8_letterAhead_29 ?_
      refine x_iload_n dX8_letterAhead_32 1 rfl ?_
      obtain ⟨c9, g8, h⟩ := hp_b1_e h
      refine x_isi (As := [.ref (hp_ad G 4), .int (hp_I v1)]) (ok_X8_isOut hG 4 v1 H1 (sm_4 hG) (by decide) r1 rH1 _ g8) cal_X8_isOut stt_X8_isOut wm_1055 (by decide) rfl rfl (Nat.le_of_ble_eq_true rfl) dX8_letterAhead_33 (fun z9 => ?_)
      have rc9 := z9
      refine x_ifne (tgt := 42) dX8_letterAhead_36 (by decide) rc9 (fun hc10 => ?_) (fun hc10 => ?_)
      · replace h := hp_if hc10 h
        refine x_aload_n dX8_letterAhead_42 0 rfl ?_
        obtain ⟨H12, g11, h⟩ := hp_b1_e h
        refine x_ivv (As := []) (ok_X8_layThen hG H1 rH1 _ g11) cal_X8_layThen (sm_0 hG) (by decide) (C := RX8) (T := TX8) (N := 26) rfl rfl ins_X8_layThen sel_X8_layThen wm_1135 (by decide) rfl rfl (Nat.le_of_ble_eq_true rfl) dX8_letterAhead_43 (fun z9 => ?_)
        have rH12 := z9
        refine x_aload_n dX8_letterAhead_46 0 rfl ?_
        refine x_aload_n dX8_letterAhead_47 0 rfl ?_
        refine x_getr 7 (sm_0 hG) (by decide) (C := RX8) (T := TX8) (N := 26) rfl in_X8 (by decide) rfl wf_864 dX8_letterAhead_48 ?_
        refine x_iload_n dX8_letterAhead_51 2 rfl ?_
        obtain ⟨H14, g13, h⟩ := hp_b1_e h
        refine x_ivv (As := [.ref (hp_ad G 6), .int (hp_I v2)]) (ok_X8_hoursOf hG 6 v2 H12 (sm_6 hG) (by decide) r2 rH12 _ g13) cal_X8_hoursOf (sm_0 hG) (by decide) (C := RX8) (T := TX8) (N := 26) rfl rfl ins_X8_hoursOf sel_X8_hoursOf wm_1139 (by decide) rfl rfl (Nat.le_of_ble_eq_true rfl) dX8_letterAhead_52 (fun z9 => ?_)
        have rH14 := z9
        refine x_aload_n dX8_letterAhead_55 0 rfl ?_
        refine x_getr 7 (sm_0 hG) (by decide) (C := RX8) (T := TX8) (N := 26) rfl in_X8 (by decide) rfl wf_864 dX8_letterAhead_56 ?_
        refine x_iload_n dX8_letterAhead_59 1 rfl ?_
        refine x_iconst dX8_letterAhead_60 ?_
        obtain ⟨c16, g15, h⟩ := hp_b1_e h
        refine x_isi (As := [.ref (hp_ad G 6), .int (hp_I v1), .int (hp_I 1)]) (ok_X8_its hG 6 v1 1 H14 (sm_6 hG) (by decide) r1 (hp_rc rfl) rH14 _ g15) cal_X8_its stt_X8_its wm_1052 (by decide) rfl rfl (Nat.le_of_ble_eq_true rfl) dX8_letterAhead_61 (fun z9 => ?_)
        have rc16 := z9
        cases h
        exact x_iret ⟨rc16, rH14⟩ dX8_letterAhead_64
      · replace h := hp_it hc10 h
        refine x_ldc (x := (-1000002)) wc_1038 rfl dX8_letterAhead_39 ?_
        cases h
        exact x_iret ⟨(hp_rc rfl), rH1⟩ dX8_letterAhead_41
    · replace h := hp_it hc7 h
      refine x_ldc (x := (-1000001)) wc_949 rfl dX8_letterAhead_25 ?_
      cases h
      exact x_iret ⟨(hp_rc rfl), rH1⟩ dX8_letterAhead_27
set_option maxRecDepth 100000 in
theorem ok_X8_arrives {G : hp_G} (hG : hp_sh G = hp_shm) {l : Launch} (v1 : Int) (H : hp_H) (r1 : hp_r v1) (rH : hp_in H) (x : Int × hp_H) (h : f_X8_arrives v1 H = some x) : hp_M G l yX8_arrives cX8_arrives 2 (some .int) (hp_rm 5) [.ref (hp_ad G 0), .int (hp_I v1)] H (some (.int (hp_I x.1))) x.2 (hp_r x.1 ∧ hp_in x.2) := by
  obtain ⟨r, H'⟩ := x
  unfold f_X8_arrives at h
  refine hp_body "HeelPostModel" (by decide) rfl ⟨rfl, rfl⟩ (Nat.le_of_ble_eq_true rfl) ?_
  show hp_R G l cX8_arrives 2 (some .int) "HeelPostModel" (hp_rm 5) (some (.int (hp_I r))) H' (hp_r r ∧ hp_in H') 0 [(0, .ref (hp_ad G 0)), (1, .int (hp_I v1))] [] H
  refine x_aload_n dX8_arrives_0 0 rfl ?_
  refine x_iconst dX8_arrives_1 ?_
  obtain ⟨H1, eH1⟩ : ∃ z : hp_H, z = hp_up H 0 0 0 := ⟨_, rfl⟩
  replace h := hp_let_e eH1 h
  have rH1 := hp_ine eH1 (hp_in_up rH (hp_rc rfl))
  refine x_pi 0 0 rfl tyX8 eH1 (sm_0 hG) (by decide) (C := RX8) (T := TX8) (N := 26) rfl in_X8 tyX8_ok nmX8 (by decide) rfl rfl rfl wf_857 dX8_arrives_2 ?_
  refine x_aload_n dX8_arrives_5 0 rfl ?_
  refine x_iload_n dX8_arrives_6 1 rfl ?_
  obtain ⟨c3, g2, h⟩ := hp_b1_e h
  refine x_ivi (As := [.int (hp_I v1)]) (ok_X8_isPosted hG v1 H1 r1 rH1 _ g2) cal_X8_isPosted (sm_0 hG) (by decide) (C := RX8) (T := TX8) (N := 26) rfl rfl ins_X8_isPosted sel_X8_isPosted wm_1077 (by decide) rfl rfl (Nat.le_of_ble_eq_true rfl) dX8_arrives_7 (fun z9 => ?_)
  have rc3 := z9
  refine x_ifne (tgt := 16) dX8_arrives_10 (by decide) rc3 (fun hc4 => ?_) (fun hc4 => ?_)
  · replace h := hp_if hc4 h
    refine x_aload_n dX8_arrives_16 0 rfl ?_
    refine x_getr 5 (sm_0 hG) (by decide) (C := RX8) (T := TX8) (N := 26) rfl in_X8 (by decide) rfl wf_862 dX8_arrives_17 ?_
    refine x_iload_n dX8_arrives_20 1 rfl ?_
    obtain ⟨c6, g5, h⟩ := hp_b1_e h
    refine x_isi (As := [.ref (hp_ad G 4), .int (hp_I v1)]) (ok_X8_isOut hG 4 v1 H1 (sm_4 hG) (by decide) r1 rH1 _ g5) cal_X8_isOut stt_X8_isOut wm_1055 (by decide) rfl rfl (Nat.le_of_ble_eq_true rfl) dX8_arrives_21 (fun z9 => ?_)
    have rc6 := z9
    refine x_ifne (tgt := 30) dX8_arrives_24 (by decide) rc6 (fun hc7 => ?_) (fun hc7 => ?_)
    · replace h := hp_if hc7 h
      refine x_aload_n dX8_arrives_30 0 rfl ?_
      obtain ⟨H9, g8, h⟩ := hp_b1_e h
      refine x_ivv (As := []) (ok_X8_layThen hG H1 rH1 _ g8) cal_X8_layThen (sm_0 hG) (by decide) (C := RX8) (T := TX8) (N := 26) rfl rfl ins_X8_layThen sel_X8_layThen wm_1135 (by decide) rfl rfl (Nat.le_of_ble_eq_true rfl) dX8_arrives_31 (fun z9 => ?_)
      have rH9 := z9
      refine x_aload_n dX8_arrives_34 0 rfl ?_
      refine x_iload_n dX8_arrives_35 1 rfl ?_
      refine x_bipush rfl dX8_arrives_36 ?_
      obtain ⟨c11, H12, g10, h⟩ := hp_b2_e h
      refine x_ivi (As := [.int (hp_I v1), .int (hp_I 99)]) (ok_X8_doneBy hG v1 99 H9 r1 (hp_rc rfl) rH9 _ g10) cal_X8_doneBy (sm_0 hG) (by decide) (C := RX8) (T := TX8) (N := 26) rfl rfl ins_X8_doneBy sel_X8_doneBy wm_1147 (by decide) rfl rfl (Nat.le_of_ble_eq_true rfl) dX8_arrives_38 (fun z9 => ?_)
      obtain ⟨rc11, rH12⟩ := z9
      cases h
      exact x_iret ⟨rc11, rH12⟩ dX8_arrives_41
    · replace h := hp_it hc7 h
      refine x_ldc (x := (-1000002)) wc_1038 rfl dX8_arrives_27 ?_
      cases h
      exact x_iret ⟨(hp_rc rfl), rH1⟩ dX8_arrives_29
  · replace h := hp_it hc4 h
    refine x_ldc (x := (-1000001)) wc_949 rfl dX8_arrives_13 ?_
    cases h
    exact x_iret ⟨(hp_rc rfl), rH1⟩ dX8_arrives_15
set_option maxRecDepth 100000 in
theorem ok_X8_carriers_51 {G : hp_G} (hG : hp_sh G = hp_shm) {l : Launch} {vv : Option Value} {H' : hp_H} {Z : Prop} : ∀ (n : Nat) (v1 : Int) (v2 : Int) (v3 : Int) (v4 : Int) (H : hp_H), hp_r v1 → hp_r v2 → hp_r v3 → hp_r v4 → hp_in H → ∀ m3 : Int, ∀ Hm : hp_H, f_X8_carriers_51 n v1 v2 v3 v4 H = some (m3, Hm) → (hp_r m3 → hp_in Hm → hp_R G l cX8_carriers 6 (some .int) "HeelPostModel" (hp_rm 4) vv H' Z 99 [(3, .int (hp_I m3))] [] Hm) → hp_R G l cX8_carriers 6 (some .int) "HeelPostModel" (hp_rm 4) vv H' Z 51 [(0, .ref (hp_ad G 0)), (1, .int (hp_I v1)), (2, .int (hp_I v2)), (3, .int (hp_I v3)), (4, .int (hp_I v4))] [] H := by
  intro n
  induction n with
  | zero =>
    intro v1 v2 v3 v4 H r1 r2 r3 r4 rH m3 Hm h kx
    exact hp_no h
  | succ n ih =>
    intro v1 v2 v3 v4 H r1 r2 r3 r4 rH m3 Hm h kx
    unfold f_X8_carriers_51 at h
    refine x_iload dX8_carriers_51 4 rfl ?_
    refine x_iload_n dX8_carriers_53 2 rfl ?_
    refine x_icge (tgt := 99) dX8_carriers_54 (by decide) r4 r2 (fun hc13 => ?_) (fun hc13 => ?_)
    · replace h := hp_if hc13 h
      cases h
      exact x_sub [3] rfl (kx r3 rH)
    · replace h := hp_it hc13 h
      refine x_aload_n dX8_carriers_57 0 rfl ?_
      refine x_aload_n dX8_carriers_58 0 rfl ?_
      refine x_getr 7 (sm_0 hG) (by decide) (C := RX8) (T := TX8) (N := 26) rfl in_X8 (by decide) rfl wf_864 dX8_carriers_59 ?_
      obtain ⟨c15, H16, g14, h⟩ := hp_b2_e h
      refine x_ivi (As := [.ref (hp_ad G 6)]) (ok_X8_hour hG 6 H (sm_6 hG) (by decide) rH _ g14) cal_X8_hour (sm_0 hG) (by decide) (C := RX8) (T := TX8) (N := 26) rfl rfl ins_X8_hour sel_X8_hour wm_1044 (by decide) rfl rfl (Nat.le_of_ble_eq_true rfl) dX8_carriers_62 (fun z9 => ?_)
      obtain ⟨rc15, rH16⟩ := z9
      refine x_istore (L' := [(5, .int (hp_I c15)), (0, .ref (hp_ad G 0)), (1, .int (hp_I v1)), (2, .int (hp_I v2)), (3, .int (hp_I v3)), (4, .int (hp_I v4))]) dX8_carriers_65 (by decide) rfl ?_
      refine x_iload_n dX8_carriers_67 4 rfl ?_
      refine x_aload_n dX8_carriers_68 1 rfl ?_
      refine x_getr 19 (sm_0 hG) (by decide) (C := RX8) (T := TX8) (N := 26) rfl in_X8 (by decide) rfl wf_876 dX8_carriers_69 ?_
      refine x_iload_n dX8_carriers_72 2 rfl ?_
      obtain ⟨b17, h⟩ := hp_ck_e h
      refine x_ia 4 rfl (sm_9 hG) (by decide) (Nat.le_of_ble_eq_true rfl) b17 dX8_carriers_73 ?_
      refine x_ldc (x := (-1000000)) wc_989 rfl dX8_carriers_74 ?_
      obtain ⟨m18, hm19, h⟩ := hp_b1_e h
      have kj : hp_r m18 → hp_R G l cX8_carriers 6 (some .int) "HeelPostModel" (hp_rm 4) vv H' Z 91 [(0, .ref (hp_ad G 0)), (1, .int (hp_I v1)), (2, .int (hp_I v2)), (4, .int (hp_I v4))] [.int (hp_I m18), .int (hp_I v3)] H16 := by
        intro rm18
        refine x_ior dX8_carriers_91 ?_
        obtain ⟨v3_20, ev3_20⟩ : ∃ z : Int, z = (hp_or v3 m18) := ⟨_, rfl⟩
        replace h := hp_let_e ev3_20 h
        have rv3_20 := hp_re ev3_20 (hp_ror _ _)
        refine x_isnE (L' := [(3, .int (hp_I v3_20)), (0, .ref (hp_ad G 0)), (1, .int (hp_I v1)), (2, .int (hp_I v2)), (4, .int (hp_I v4))]) ev3_20 dX8_carriers_92 rfl (by decide) rfl ?_
        obtain ⟨v4_21, ev4_21⟩ : ∃ z : Int, z = (hp_w (v4 + 1)) := ⟨_, rfl⟩
        replace h := hp_let_e ev4_21 h
        have rv4_21 := hp_re ev4_21 (hp_rw _)
        refine x_iiE (L' := [(4, .int (hp_I v4_21)), (3, .int (hp_I v3_20)), (0, .ref (hp_ad G 0)), (1, .int (hp_I v1)), (2, .int (hp_I v2))]) ev4_21 dX8_carriers_93 4 rfl (by decide) rfl ?_
        refine x_goto (tgt := 51) dX8_carriers_96 (by decide) ?_
        exact x_sub [2, 3, 4, 1, 0] rfl (ih v1 v2 v3_20 v4_21 H16 r1 r2 rv3_20 rv4_21 rH16 _ _ h kx)
      clear h
      have h := hm19
      clear hm19
      refine x_iceq (tgt := 90) dX8_carriers_76 (by decide) (rH16 _ _) (hp_rc rfl) (fun hc22 => ?_) (fun hc22 => ?_)
      · replace h := hp_it hc22 h
        refine x_iconst dX8_carriers_90 ?_
        cases h
        exact x_sub [1, 2, 3, 5] rfl (kj (hp_rc rfl))
      · replace h := hp_if hc22 h
        refine x_iconst dX8_carriers_79 ?_
        refine x_aload_n dX8_carriers_80 1 rfl ?_
        refine x_getr 19 (sm_0 hG) (by decide) (C := RX8) (T := TX8) (N := 26) rfl in_X8 (by decide) rfl wf_876 dX8_carriers_81 ?_
        refine x_iload_n dX8_carriers_84 2 rfl ?_
        refine x_ia 4 rfl (sm_9 hG) (by decide) (Nat.le_of_ble_eq_true rfl) b17 dX8_carriers_85 ?_
        refine x_ishl dX8_carriers_86 ?_
        refine x_goto (tgt := 91) dX8_carriers_87 (by decide) ?_
        cases h
        exact x_sub [1, 2, 3, 5] rfl (kj (hp_rshl _ _))
set_option maxRecDepth 100000 in
theorem ok_X8_carriers {G : hp_G} (hG : hp_sh G = hp_shm) {l : Launch} (v1 : Int) (v2 : Int) (H : hp_H) (r1 : hp_r v1) (r2 : hp_r v2) (rH : hp_in H) (x : Int × hp_H) (h : f_X8_carriers v1 v2 H = some x) : hp_M G l yX8_carriers cX8_carriers 6 (some .int) (hp_rm 4) [.ref (hp_ad G 0), .int (hp_I v1), .int (hp_I v2)] H (some (.int (hp_I x.1))) x.2 (hp_r x.1 ∧ hp_in x.2) := by
  obtain ⟨r, H'⟩ := x
  unfold f_X8_carriers at h
  refine hp_body "HeelPostModel" (by decide) rfl ⟨rfl, rfl⟩ (Nat.le_of_ble_eq_true rfl) ?_
  show hp_R G l cX8_carriers 6 (some .int) "HeelPostModel" (hp_rm 4) (some (.int (hp_I r))) H' (hp_r r ∧ hp_in H') 0 [(0, .ref (hp_ad G 0)), (1, .int (hp_I v1)), (2, .int (hp_I v2))] [] H
  refine x_aload_n dX8_carriers_0 0 rfl ?_
  refine x_iconst dX8_carriers_1 ?_
  obtain ⟨H1, eH1⟩ : ∃ z : hp_H, z = hp_up H 0 0 0 := ⟨_, rfl⟩
  replace h := hp_let_e eH1 h
  have rH1 := hp_ine eH1 (hp_in_up rH (hp_rc rfl))
  refine x_pi 0 0 rfl tyX8 eH1 (sm_0 hG) (by decide) (C := RX8) (T := TX8) (N := 26) rfl in_X8 tyX8_ok nmX8 (by decide) rfl rfl rfl wf_857 dX8_carriers_2 ?_
  refine x_aload_n dX8_carriers_5 0 rfl ?_
  refine x_iload_n dX8_carriers_6 1 rfl ?_
  obtain ⟨c3, g2, h⟩ := hp_b1_e h
  refine x_ivi (As := [.int (hp_I v1)]) (ok_X8_isPosted hG v1 H1 r1 rH1 _ g2) cal_X8_isPosted (sm_0 hG) (by decide) (C := RX8) (T := TX8) (N := 26) rfl rfl ins_X8_isPosted sel_X8_isPosted wm_1077 (by decide) rfl rfl (Nat.le_of_ble_eq_true rfl) dX8_carriers_7 (fun z9 => ?_)
  have rc3 := z9
  refine x_ifeq (tgt := 25) dX8_carriers_10 (by decide) rc3 (fun hc4 => ?_) (fun hc4 => ?_)
  · replace h := hp_it hc4 h
    refine x_ldc (x := (-1000001)) wc_949 rfl dX8_carriers_25 ?_
    cases h
    exact x_iret ⟨(hp_rc rfl), rH1⟩ dX8_carriers_27
  · replace h := hp_if hc4 h
    refine x_iload_n dX8_carriers_13 2 rfl ?_
    refine x_i2l r2 dX8_carriers_14 ?_
    refine x_lconst (x := 1) rfl dX8_carriers_15 ?_
    refine x_ldc2 (x := 99) wc_1130 rfl dX8_carriers_16 ?_
    obtain ⟨c6, g5, h⟩ := hp_b1_e h
    refine x_isi (As := [.long (hp_J v2), .long (hp_J 1), .long (hp_J 99)]) (ok_X8_in hG v2 1 99 H1 (hp_rrl r2) (hp_rlc rfl) (hp_rlc rfl) rH1 _ g5) cal_X8_in stt_X8_in wm_945 (by decide) rfl rfl (Nat.le_of_ble_eq_true rfl) dX8_carriers_19 (fun z9 => ?_)
    have rc6 := z9
    refine x_ifne (tgt := 28) dX8_carriers_22 (by decide) rc6 (fun hc7 => ?_) (fun hc7 => ?_)
    · replace h := hp_if hc7 h
      refine x_aload_n dX8_carriers_28 0 rfl ?_
      refine x_getr 5 (sm_0 hG) (by decide) (C := RX8) (T := TX8) (N := 26) rfl in_X8 (by decide) rfl wf_862 dX8_carriers_29 ?_
      refine x_iload_n dX8_carriers_32 1 rfl ?_
      obtain ⟨c9, g8, h⟩ := hp_b1_e h
      refine x_isi (As := [.ref (hp_ad G 4), .int (hp_I v1)]) (ok_X8_isOut hG 4 v1 H1 (sm_4 hG) (by decide) r1 rH1 _ g8) cal_X8_isOut stt_X8_isOut wm_1055 (by decide) rfl rfl (Nat.le_of_ble_eq_true rfl) dX8_carriers_33 (fun z9 => ?_)
      have rc9 := z9
      refine x_ifne (tgt := 42) dX8_carriers_36 (by decide) rc9 (fun hc10 => ?_) (fun hc10 => ?_)
      · replace h := hp_if hc10 h
        refine x_aload_n dX8_carriers_42 0 rfl ?_
        obtain ⟨H12, g11, h⟩ := hp_b1_e h
        refine x_ivv (As := []) (ok_X8_layThen hG H1 rH1 _ g11) cal_X8_layThen (sm_0 hG) (by decide) (C := RX8) (T := TX8) (N := 26) rfl rfl ins_X8_layThen sel_X8_layThen wm_1135 (by decide) rfl rfl (Nat.le_of_ble_eq_true rfl) dX8_carriers_43 (fun z9 => ?_)
        have rH12 := z9
        refine x_iconst dX8_carriers_46 ?_
        refine x_istore_n (L' := [(3, .int (hp_I 0)), (0, .ref (hp_ad G 0)), (1, .int (hp_I v1)), (2, .int (hp_I v2))]) dX8_carriers_47 rfl (by decide) rfl ?_
        refine x_iconst dX8_carriers_48 ?_
        refine x_istore (L' := [(4, .int (hp_I 0)), (3, .int (hp_I 0)), (0, .ref (hp_ad G 0)), (1, .int (hp_I v1)), (2, .int (hp_I v2))]) dX8_carriers_49 (by decide) rfl ?_
        obtain ⟨v3_23, H24, g25, h⟩ := hp_b2_e h
        refine x_sub [2, 3, 4, 1, 0] rfl (ok_X8_carriers_51 hG 1000 v1 v2 0 0 H12 r1 r2 (hp_rc rfl) (hp_rc rfl) rH12 _ _ g25 ?_)
        intro rv3_23 rH24
        refine x_iload_n dX8_carriers_99 0 rfl ?_
        cases h
        exact x_iret ⟨rv3_23, rH24⟩ dX8_carriers_100
      · replace h := hp_it hc10 h
        refine x_ldc (x := (-1000002)) wc_1038 rfl dX8_carriers_39 ?_
        cases h
        exact x_iret ⟨(hp_rc rfl), rH1⟩ dX8_carriers_41
    · replace h := hp_it hc7 h
      refine x_ldc (x := (-1000001)) wc_949 rfl dX8_carriers_25 ?_
      cases h
      exact x_iret ⟨(hp_rc rfl), rH1⟩ dX8_carriers_27
set_option maxRecDepth 100000 in
theorem ok_X8_bestHour_50 {G : hp_G} (hG : hp_sh G = hp_shm) {l : Launch} {vv : Option Value} {H' : hp_H} {Z : Prop} : ∀ (n : Nat) (v1 : Int) (v2 : Int) (v3 : Int) (v4 : Int) (v5 : Int) (v6 : Int) (H : hp_H), hp_r v1 → hp_r v2 → hp_r v3 → hp_r v4 → hp_r v5 → hp_r v6 → hp_in H → ∀ m4 : Int, ∀ m5 : Int, ∀ Hm : hp_H, f_X8_bestHour_50 n v1 v2 v3 v4 v5 v6 H = some (m4, m5, Hm) → (hp_r m4 → hp_r m5 → hp_in Hm → hp_R G l cX8_bestHour 9 (some .int) "HeelPostModel" (hp_rm 5) vv H' Z 165 [(3, .int (hp_I v3)), (4, .int (hp_I m4)), (5, .int (hp_I m5))] [] Hm) → hp_R G l cX8_bestHour 9 (some .int) "HeelPostModel" (hp_rm 5) vv H' Z 50 [(0, .ref (hp_ad G 0)), (1, .int (hp_I v1)), (2, .int (hp_I v2)), (3, .int (hp_I v3)), (4, .int (hp_I v4)), (5, .int (hp_I v5)), (6, .int (hp_I v6))] [] H := by
  intro n
  induction n with
  | zero =>
    intro v1 v2 v3 v4 v5 v6 H r1 r2 r3 r4 r5 r6 rH m4 m5 Hm h kx
    exact hp_no h
  | succ n ih =>
    intro v1 v2 v3 v4 v5 v6 H r1 r2 r3 r4 r5 r6 rH m4 m5 Hm h kx
    unfold f_X8_bestHour_50 at h
    refine x_iload dX8_bestHour_50 6 rfl ?_
    refine x_aload_n dX8_bestHour_52 0 rfl ?_
    refine x_getr 5 (sm_0 hG) (by decide) (C := RX8) (T := TX8) (N := 26) rfl in_X8 (by decide) rfl wf_862 dX8_bestHour_53 ?_
    refine x_iconst dX8_bestHour_56 ?_
    refine x_ia 41 rfl (sm_4 hG) (by decide) (Nat.le_of_ble_eq_true rfl) (by decide) dX8_bestHour_57 ?_
    refine x_icge (tgt := 165) dX8_bestHour_58 (by decide) r6 (rH _ _) (fun hc12 => ?_) (fun hc12 => ?_)
    · replace h := hp_if hc12 h
      cases h
      exact x_sub [3, 4, 5] rfl (kx r4 r5 rH)
    · replace h := hp_it hc12 h
      refine x_aload_n dX8_bestHour_61 0 rfl ?_
      obtain ⟨H14, g13, h⟩ := hp_b1_e h
      refine x_ivv (As := []) (ok_X8_layThen hG H rH _ g13) cal_X8_layThen (sm_0 hG) (by decide) (C := RX8) (T := TX8) (N := 26) rfl rfl ins_X8_layThen sel_X8_layThen wm_1135 (by decide) rfl rfl (Nat.le_of_ble_eq_true rfl) dX8_bestHour_62 (fun z9 => ?_)
      have rH14 := z9
      refine x_aload_n dX8_bestHour_65 0 rfl ?_
      refine x_aload_n dX8_bestHour_66 0 rfl ?_
      refine x_getr 7 (sm_0 hG) (by decide) (C := RX8) (T := TX8) (N := 26) rfl in_X8 (by decide) rfl wf_864 dX8_bestHour_67 ?_
      refine x_iload dX8_bestHour_70 6 rfl ?_
      obtain ⟨H16, g15, h⟩ := hp_b1_e h
      refine x_ivv (As := [.ref (hp_ad G 6), .int (hp_I v6)]) (ok_X8_hoursOf hG 6 v6 H14 (sm_6 hG) (by decide) r6 rH14 _ g15) cal_X8_hoursOf (sm_0 hG) (by decide) (C := RX8) (T := TX8) (N := 26) rfl rfl ins_X8_hoursOf sel_X8_hoursOf wm_1139 (by decide) rfl rfl (Nat.le_of_ble_eq_true rfl) dX8_bestHour_72 (fun z9 => ?_)
      have rH16 := z9
      refine x_aload_n dX8_bestHour_75 0 rfl ?_
      refine x_getr 7 (sm_0 hG) (by decide) (C := RX8) (T := TX8) (N := 26) rfl in_X8 (by decide) rfl wf_864 dX8_bestHour_76 ?_
      refine x_iconst dX8_bestHour_79 ?_
      refine x_iload_n dX8_bestHour_80 1 rfl ?_
      refine x_iload_n dX8_bestHour_81 2 rfl ?_
      obtain ⟨H18, g17, h⟩ := hp_b1_e h
      refine x_isv (As := [.ref (hp_ad G 6), .int (hp_I 3), .int (hp_I v1), .int (hp_I v2)]) (ok_X8_posts hG 6 3 v1 v2 H16 (sm_6 hG) (by decide) (hp_rc rfl) r1 r2 rH16 _ g17) cal_X8_posts stt_X8_posts wm_1086 (by decide) rfl rfl (Nat.le_of_ble_eq_true rfl) dX8_bestHour_82 (fun z9 => ?_)
      have rH18 := z9
      refine x_aload_n dX8_bestHour_85 0 rfl ?_
      refine x_iconst dX8_bestHour_86 ?_
      refine x_bipush rfl dX8_bestHour_87 ?_
      refine x_iload dX8_bestHour_89 6 rfl ?_
      refine x_isub dX8_bestHour_91 ?_
      obtain ⟨c20, H21, g19, h⟩ := hp_b2_e h
      refine x_ivi (As := [.int (hp_I 3), .int (hp_I (hp_w (99 - v6)))]) (ok_X8_doneBy hG 3 (hp_w (99 - v6)) H18 (hp_rc rfl) (hp_rw _) rH18 _ g19) cal_X8_doneBy (sm_0 hG) (by decide) (C := RX8) (T := TX8) (N := 26) rfl rfl ins_X8_doneBy sel_X8_doneBy wm_1147 (by decide) rfl rfl (Nat.le_of_ble_eq_true rfl) dX8_bestHour_92 (fun z9 => ?_)
      obtain ⟨rc20, rH21⟩ := z9
      refine x_istore (L' := [(7, .int (hp_I c20)), (0, .ref (hp_ad G 0)), (1, .int (hp_I v1)), (2, .int (hp_I v2)), (3, .int (hp_I v3)), (4, .int (hp_I v4)), (5, .int (hp_I v5)), (6, .int (hp_I v6))]) dX8_bestHour_95 (by decide) rfl ?_
      refine x_iload dX8_bestHour_97 0 rfl ?_
      refine x_ldc (x := (-1000000)) wc_989 rfl dX8_bestHour_99 ?_
      obtain ⟨m22, em22⟩ : ∃ z : Int, z = (if c20 = (-1000000) then 0 else (if v4 = (-1000000) then 1 else (if v5 < (hp_w (v6 + c20)) then 0 else 1))) := ⟨_, rfl⟩
      replace h := hp_let_e em22 h
      have rm22 := hp_re em22 (hp_rite (hp_rc rfl) (hp_rite (hp_rc rfl) (hp_rite (hp_rc rfl) (hp_rc rfl))))
      have zm22 : m22 = 0 ∨ m22 = 1 := by rw [em22]; exact (hp_z01 (Or.inl rfl) (hp_z01 (Or.inr rfl) (hp_z01 (Or.inl rfl) (Or.inr rfl))))
      have kj : hp_R G l cX8_bestHour 9 (some .int) "HeelPostModel" (hp_rm 5) vv H' Z 126 [(0, .ref (hp_ad G 0)), (1, .int (hp_I v1)), (2, .int (hp_I v2)), (3, .int (hp_I v3)), (4, .int (hp_I v4)), (5, .int (hp_I v5)), (6, .int (hp_I v6)), (7, .int (hp_I c20))] [.int (hp_I m22)] H21 := by
        refine x_istore (L' := [(8, .int (hp_I m22)), (0, .ref (hp_ad G 0)), (1, .int (hp_I v1)), (2, .int (hp_I v2)), (3, .int (hp_I v3)), (4, .int (hp_I v4)), (5, .int (hp_I v5)), (6, .int (hp_I v6)), (7, .int (hp_I c20))]) dX8_bestHour_126 (by decide) rfl ?_
        refine x_iload dX8_bestHour_128 0 rfl ?_
        obtain ⟨m23, em23⟩ : ∃ z : Int, z = (if m22 = 0 then v4 else v6) := ⟨_, rfl⟩
        replace h := hp_let_e em23 h
        have rm23 := hp_re em23 (hp_rite r4 r6)
        have kj : hp_R G l cX8_bestHour 9 (some .int) "HeelPostModel" (hp_rm 5) vv H' Z 140 [(0, .ref (hp_ad G 0)), (1, .int (hp_I v1)), (2, .int (hp_I v2)), (3, .int (hp_I v3)), (5, .int (hp_I v5)), (6, .int (hp_I v6)), (7, .int (hp_I c20)), (8, .int (hp_I m22))] [.int (hp_I m23)] H21 := by
          refine x_istore (L' := [(4, .int (hp_I m23)), (0, .ref (hp_ad G 0)), (1, .int (hp_I v1)), (2, .int (hp_I v2)), (3, .int (hp_I v3)), (5, .int (hp_I v5)), (6, .int (hp_I v6)), (7, .int (hp_I c20)), (8, .int (hp_I m22))]) dX8_bestHour_140 (by decide) rfl ?_
          refine x_iload dX8_bestHour_142 8 rfl ?_
          obtain ⟨m24, em24⟩ : ∃ z : Int, z = (if m22 = 0 then v5 else (hp_w (v6 + c20))) := ⟨_, rfl⟩
          replace h := hp_let_e em24 h
          have rm24 := hp_re em24 (hp_rite r5 (hp_rw _))
          have kj : hp_R G l cX8_bestHour 9 (some .int) "HeelPostModel" (hp_rm 5) vv H' Z 157 [(0, .ref (hp_ad G 0)), (1, .int (hp_I v1)), (2, .int (hp_I v2)), (3, .int (hp_I v3)), (4, .int (hp_I m23)), (6, .int (hp_I v6))] [.int (hp_I m24)] H21 := by
            refine x_istore (L' := [(5, .int (hp_I m24)), (0, .ref (hp_ad G 0)), (1, .int (hp_I v1)), (2, .int (hp_I v2)), (3, .int (hp_I v3)), (4, .int (hp_I m23)), (6, .int (hp_I v6))]) dX8_bestHour_157 (by decide) rfl ?_
            obtain ⟨v6_25, ev6_25⟩ : ∃ z : Int, z = (hp_w (v6 + 1)) := ⟨_, rfl⟩
            replace h := hp_let_e ev6_25 h
            have rv6_25 := hp_re ev6_25 (hp_rw _)
            refine x_iiE (L' := [(6, .int (hp_I v6_25)), (5, .int (hp_I m24)), (0, .ref (hp_ad G 0)), (1, .int (hp_I v1)), (2, .int (hp_I v2)), (3, .int (hp_I v3)), (4, .int (hp_I m23))]) ev6_25 dX8_bestHour_159 6 rfl (by decide) rfl ?_
            refine x_goto (tgt := 50) dX8_bestHour_162 (by decide) ?_
            exact x_sub [2, 3, 4, 5, 6, 1, 0] rfl (ih v1 v2 v3 m23 m24 v6_25 H21 r1 r2 r3 rm23 rm24 rv6_25 rH21 _ _ _ h kx)
          clear h
          refine x_ifeq (tgt := 155) dX8_bestHour_144 (by decide) rm22 (fun hc26 => ?_) (fun hc26 => ?_)
          · refine x_iload dX8_bestHour_155 5 rfl ?_
            have q9 := (em24.trans (if_pos hc26))
            subst q9
            exact x_sub [1, 2, 3, 4, 0, 6] rfl kj
          · refine x_iload dX8_bestHour_147 6 rfl ?_
            refine x_iload dX8_bestHour_149 7 rfl ?_
            refine x_iadd dX8_bestHour_151 ?_
            refine x_goto (tgt := 157) dX8_bestHour_152 (by decide) ?_
            have q9 := (em24.trans (if_neg hc26))
            subst q9
            exact x_sub [1, 2, 3, 4, 0, 6] rfl kj
        clear h
        refine x_ifeq (tgt := 138) dX8_bestHour_130 (by decide) rm22 (fun hc27 => ?_) (fun hc27 => ?_)
        · refine x_iload dX8_bestHour_138 5 rfl ?_
          have q9 := (em23.trans (if_pos hc27))
          subst q9
          exact x_sub [1, 2, 3, 4, 6, 7, 8, 0] rfl kj
        · refine x_iload dX8_bestHour_133 7 rfl ?_
          refine x_goto (tgt := 140) dX8_bestHour_135 (by decide) ?_
          have q9 := (em23.trans (if_neg hc27))
          subst q9
          exact x_sub [1, 2, 3, 4, 6, 7, 8, 0] rfl kj
      clear h
      refine x_iceq (tgt := 125) dX8_bestHour_101 (by decide) rc20 (hp_rc rfl) (fun hc28 => ?_) (fun hc28 => ?_)
      · refine x_iconst dX8_bestHour_125 ?_
        have q9 := (em22.trans (if_pos hc28))
        subst q9
        exact x_sub [1, 2, 3, 4, 5, 6, 7, 0] rfl kj
      · refine x_iload dX8_bestHour_104 5 rfl ?_
        refine x_ldc (x := (-1000000)) wc_989 rfl dX8_bestHour_106 ?_
        refine x_iceq (tgt := 121) dX8_bestHour_108 (by decide) r4 (hp_rc rfl) (fun hc29 => ?_) (fun hc29 => ?_)
        · refine x_iconst dX8_bestHour_121 ?_
          refine x_goto (tgt := 126) dX8_bestHour_122 (by decide) ?_
          have q9 := ((em22.trans (if_neg hc28)).trans (if_pos hc29))
          subst q9
          exact x_sub [1, 2, 3, 4, 5, 6, 7, 0] rfl kj
        · refine x_iload dX8_bestHour_111 7 rfl ?_
          refine x_iload dX8_bestHour_113 0 rfl ?_
          refine x_iadd dX8_bestHour_115 ?_
          refine x_iload dX8_bestHour_116 6 rfl ?_
          refine x_icgt (tgt := 125) dX8_bestHour_118 (by decide) (hp_rw _) r5 (fun hc30 => ?_) (fun hc30 => ?_)
          · refine x_iconst dX8_bestHour_125 ?_
            have q9 := (((em22.trans (if_neg hc28)).trans (if_neg hc29)).trans (if_pos hc30))
            subst q9
            exact x_sub [1, 2, 3, 4, 5, 6, 7, 0] rfl kj
          · refine x_iconst dX8_bestHour_121 ?_
            refine x_goto (tgt := 126) dX8_bestHour_122 (by decide) ?_
            have q9 := (((em22.trans (if_neg hc28)).trans (if_neg hc29)).trans (if_neg hc30))
            subst q9
            exact x_sub [1, 2, 3, 4, 5, 6, 7, 0] rfl kj
set_option maxRecDepth 100000 in
theorem ok_X8_bestHour {G : hp_G} (hG : hp_sh G = hp_shm) {l : Launch} (v1 : Int) (v2 : Int) (v3 : Int) (H : hp_H) (r1 : hp_r v1) (r2 : hp_r v2) (r3 : hp_r v3) (rH : hp_in H) (x : Int × hp_H) (h : f_X8_bestHour v1 v2 v3 H = some x) : hp_M G l yX8_bestHour cX8_bestHour 9 (some .int) (hp_rm 5) [.ref (hp_ad G 0), .int (hp_I v1), .int (hp_I v2), .int (hp_I v3)] H (some (.int (hp_I x.1))) x.2 (hp_r x.1 ∧ hp_in x.2) := by
  obtain ⟨r, H'⟩ := x
  unfold f_X8_bestHour at h
  refine hp_body "HeelPostModel" (by decide) rfl ⟨rfl, rfl⟩ (Nat.le_of_ble_eq_true rfl) ?_
  show hp_R G l cX8_bestHour 9 (some .int) "HeelPostModel" (hp_rm 5) (some (.int (hp_I r))) H' (hp_r r ∧ hp_in H') 0 [(0, .ref (hp_ad G 0)), (1, .int (hp_I v1)), (2, .int (hp_I v2)), (3, .int (hp_I v3))] [] H
  refine x_aload_n dX8_bestHour_0 0 rfl ?_
  refine x_iconst dX8_bestHour_1 ?_
  obtain ⟨H1, eH1⟩ : ∃ z : hp_H, z = hp_up H 0 0 0 := ⟨_, rfl⟩
  replace h := hp_let_e eH1 h
  have rH1 := hp_ine eH1 (hp_in_up rH (hp_rc rfl))
  refine x_pi 0 0 rfl tyX8 eH1 (sm_0 hG) (by decide) (C := RX8) (T := TX8) (N := 26) rfl in_X8 tyX8_ok nmX8 (by decide) rfl rfl rfl wf_857 dX8_bestHour_2 ?_
  refine x_aload_n dX8_bestHour_5 0 rfl ?_
  refine x_iload_n dX8_bestHour_6 1 rfl ?_
  obtain ⟨c3, g2, h⟩ := hp_b1_e h
  refine x_ivi (As := [.int (hp_I v1)]) (ok_X8_isLane hG v1 H1 r1 rH1 _ g2) cal_X8_isLane (sm_0 hG) (by decide) (C := RX8) (T := TX8) (N := 26) rfl rfl ins_X8_isLane sel_X8_isLane wm_1082 (by decide) rfl rfl (Nat.le_of_ble_eq_true rfl) dX8_bestHour_7 (fun z9 => ?_)
  have rc3 := z9
  refine x_ifeq (tgt := 36) dX8_bestHour_10 (by decide) rc3 (fun hc4 => ?_) (fun hc4 => ?_)
  · replace h := hp_it hc4 h
    refine x_ldc (x := (-1000001)) wc_949 rfl dX8_bestHour_36 ?_
    cases h
    exact x_iret ⟨(hp_rc rfl), rH1⟩ dX8_bestHour_38
  · replace h := hp_if hc4 h
    refine x_aload_n dX8_bestHour_13 0 rfl ?_
    refine x_iload_n dX8_bestHour_14 2 rfl ?_
    obtain ⟨c6, g5, h⟩ := hp_b1_e h
    refine x_ivi (As := [.int (hp_I v2)]) (ok_X8_isLane hG v2 H1 r2 rH1 _ g5) cal_X8_isLane (sm_0 hG) (by decide) (C := RX8) (T := TX8) (N := 26) rfl rfl ins_X8_isLane sel_X8_isLane wm_1082 (by decide) rfl rfl (Nat.le_of_ble_eq_true rfl) dX8_bestHour_15 (fun z9 => ?_)
    have rc6 := z9
    refine x_ifeq (tgt := 36) dX8_bestHour_18 (by decide) rc6 (fun hc7 => ?_) (fun hc7 => ?_)
    · replace h := hp_it hc7 h
      refine x_ldc (x := (-1000001)) wc_949 rfl dX8_bestHour_36 ?_
      cases h
      exact x_iret ⟨(hp_rc rfl), rH1⟩ dX8_bestHour_38
    · replace h := hp_if hc7 h
      refine x_iload_n dX8_bestHour_21 1 rfl ?_
      refine x_iload_n dX8_bestHour_22 2 rfl ?_
      refine x_iceq (tgt := 36) dX8_bestHour_23 (by decide) r1 r2 (fun hc8 => ?_) (fun hc8 => ?_)
      · replace h := hp_it hc8 h
        refine x_ldc (x := (-1000001)) wc_949 rfl dX8_bestHour_36 ?_
        cases h
        exact x_iret ⟨(hp_rc rfl), rH1⟩ dX8_bestHour_38
      · replace h := hp_if hc8 h
        refine x_iload_n dX8_bestHour_26 3 rfl ?_
        refine x_i2l r3 dX8_bestHour_27 ?_
        refine x_lconst (x := 0) rfl dX8_bestHour_28 ?_
        refine x_lconst (x := 1) rfl dX8_bestHour_29 ?_
        obtain ⟨c10, g9, h⟩ := hp_b1_e h
        refine x_isi (As := [.long (hp_J v3), .long (hp_J 0), .long (hp_J 1)]) (ok_X8_in hG v3 0 1 H1 (hp_rrl r3) (hp_rlc rfl) (hp_rlc rfl) rH1 _ g9) cal_X8_in stt_X8_in wm_945 (by decide) rfl rfl (Nat.le_of_ble_eq_true rfl) dX8_bestHour_30 (fun z9 => ?_)
        have rc10 := z9
        refine x_ifne (tgt := 39) dX8_bestHour_33 (by decide) rc10 (fun hc11 => ?_) (fun hc11 => ?_)
        · replace h := hp_if hc11 h
          refine x_ldc (x := (-1000000)) wc_989 rfl dX8_bestHour_39 ?_
          refine x_istore (L' := [(4, .int (hp_I (-1000000))), (0, .ref (hp_ad G 0)), (1, .int (hp_I v1)), (2, .int (hp_I v2)), (3, .int (hp_I v3))]) dX8_bestHour_41 (by decide) rfl ?_
          refine x_ldc (x := (-1000000)) wc_989 rfl dX8_bestHour_43 ?_
          refine x_istore (L' := [(5, .int (hp_I (-1000000))), (4, .int (hp_I (-1000000))), (0, .ref (hp_ad G 0)), (1, .int (hp_I v1)), (2, .int (hp_I v2)), (3, .int (hp_I v3))]) dX8_bestHour_45 (by decide) rfl ?_
          refine x_iconst dX8_bestHour_47 ?_
          refine x_istore (L' := [(6, .int (hp_I 0)), (5, .int (hp_I (-1000000))), (4, .int (hp_I (-1000000))), (0, .ref (hp_ad G 0)), (1, .int (hp_I v1)), (2, .int (hp_I v2)), (3, .int (hp_I v3))]) dX8_bestHour_48 (by decide) rfl ?_
          obtain ⟨v4_31, v5_32, H33, g34, h⟩ := hp_b3_e h
          refine x_sub [3, 4, 5, 6, 2, 1, 0] rfl (ok_X8_bestHour_50 hG 1000 v1 v2 v3 (-1000000) (-1000000) 0 H1 r1 r2 r3 (hp_rc rfl) (hp_rc rfl) (hp_rc rfl) rH1 _ _ _ g34 ?_)
          intro rv4_31 rv5_32 rH33
          refine x_iload_n dX8_bestHour_165 0 rfl ?_
          refine x_ifne (tgt := 174) dX8_bestHour_166 (by decide) r3 (fun hc35 => ?_) (fun hc35 => ?_)
          · replace h := hp_if hc35 h
            refine x_iload dX8_bestHour_174 2 rfl ?_
            cases h
            exact x_iret ⟨rv5_32, rH33⟩ dX8_bestHour_176
          · replace h := hp_it hc35 h
            refine x_iload dX8_bestHour_169 1 rfl ?_
            refine x_goto (tgt := 176) dX8_bestHour_171 (by decide) ?_
            cases h
            exact x_iret ⟨rv4_31, rH33⟩ dX8_bestHour_176
        · replace h := hp_it hc11 h
          refine x_ldc (x := (-1000001)) wc_949 rfl dX8_bestHour_36 ?_
          cases h
          exact x_iret ⟨(hp_rc rfl), rH1⟩ dX8_bestHour_38
set_option maxRecDepth 100000 in
theorem ok_X8_spotsBy_5 {G : hp_G} (hG : hp_sh G = hp_shm) {l : Launch} {vv : Option Value} {H' : hp_H} {Z : Prop} : ∀ (n : Nat) (v1 : Int) (v2 : Int) (v3 : Int) (v4 : Int) (H : hp_H), hp_r v1 → hp_r v2 → hp_r v3 → hp_r v4 → hp_in H → ∀ m3 : Int, ∀ Hm : hp_H, f_X8_spotsBy_5 n v1 v2 v3 v4 H = some (m3, Hm) → (hp_r m3 → hp_in Hm → hp_R G l cX8_spotsBy 5 (some .int) "HeelPostModel" (hp_rm 5) vv H' Z 59 [(3, .int (hp_I m3))] [] Hm) → hp_R G l cX8_spotsBy 5 (some .int) "HeelPostModel" (hp_rm 5) vv H' Z 5 [(0, .ref (hp_ad G 0)), (1, .int (hp_I v1)), (2, .int (hp_I v2)), (3, .int (hp_I v3)), (4, .int (hp_I v4))] [] H := by
  intro n
  induction n with
  | zero =>
    intro v1 v2 v3 v4 H r1 r2 r3 r4 rH m3 Hm h kx
    exact hp_no h
  | succ n ih =>
    intro v1 v2 v3 v4 H r1 r2 r3 r4 rH m3 Hm h kx
    unfold f_X8_spotsBy_5 at h
    refine x_iload dX8_spotsBy_5 4 rfl ?_
    refine x_aload_n dX8_spotsBy_7 0 rfl ?_
    refine x_getr 5 (sm_0 hG) (by decide) (C := RX8) (T := TX8) (N := 26) rfl in_X8 (by decide) rfl wf_862 dX8_spotsBy_8 ?_
    refine x_iconst dX8_spotsBy_11 ?_
    refine x_ia 41 rfl (sm_4 hG) (by decide) (Nat.le_of_ble_eq_true rfl) (by decide) dX8_spotsBy_12 ?_
    refine x_icge (tgt := 59) dX8_spotsBy_13 (by decide) r4 (rH _ _) (fun hc1 => ?_) (fun hc1 => ?_)
    · replace h := hp_if hc1 h
      cases h
      exact x_sub [3] rfl (kx r3 rH)
    · replace h := hp_it hc1 h
      refine x_aload_n dX8_spotsBy_16 0 rfl ?_
      obtain ⟨H3, g2, h⟩ := hp_b1_e h
      refine x_ivv (As := []) (ok_X8_layThen hG H rH _ g2) cal_X8_layThen (sm_0 hG) (by decide) (C := RX8) (T := TX8) (N := 26) rfl rfl ins_X8_layThen sel_X8_layThen wm_1135 (by decide) rfl rfl (Nat.le_of_ble_eq_true rfl) dX8_spotsBy_17 (fun z9 => ?_)
      have rH3 := z9
      refine x_aload_n dX8_spotsBy_20 0 rfl ?_
      refine x_getr 7 (sm_0 hG) (by decide) (C := RX8) (T := TX8) (N := 26) rfl in_X8 (by decide) rfl wf_864 dX8_spotsBy_21 ?_
      refine x_iconst dX8_spotsBy_24 ?_
      refine x_iload dX8_spotsBy_25 4 rfl ?_
      refine x_iload_n dX8_spotsBy_27 1 rfl ?_
      obtain ⟨H5, g4, h⟩ := hp_b1_e h
      refine x_isv (As := [.ref (hp_ad G 6), .int (hp_I 3), .int (hp_I v4), .int (hp_I v1)]) (ok_X8_posts hG 6 3 v4 v1 H3 (sm_6 hG) (by decide) (hp_rc rfl) r4 r1 rH3 _ g4) cal_X8_posts stt_X8_posts wm_1086 (by decide) rfl rfl (Nat.le_of_ble_eq_true rfl) dX8_spotsBy_28 (fun z9 => ?_)
      have rH5 := z9
      refine x_iload_n dX8_spotsBy_31 3 rfl ?_
      refine x_aload_n dX8_spotsBy_32 0 rfl ?_
      refine x_iconst dX8_spotsBy_33 ?_
      refine x_iload_n dX8_spotsBy_34 2 rfl ?_
      obtain ⟨c7, H8, g6, h⟩ := hp_b2_e h
      refine x_ivi (As := [.int (hp_I 3), .int (hp_I v2)]) (ok_X8_doneBy hG 3 v2 H5 (hp_rc rfl) r2 rH5 _ g6) cal_X8_doneBy (sm_0 hG) (by decide) (C := RX8) (T := TX8) (N := 26) rfl rfl ins_X8_doneBy sel_X8_doneBy wm_1147 (by decide) rfl rfl (Nat.le_of_ble_eq_true rfl) dX8_spotsBy_35 (fun z9 => ?_)
      obtain ⟨rc7, rH8⟩ := z9
      refine x_ldc (x := (-1000000)) wc_989 rfl dX8_spotsBy_38 ?_
      obtain ⟨m9, em9⟩ : ∃ z : Int, z = (if c7 = (-1000000) then 0 else (hp_shl 1 v4)) := ⟨_, rfl⟩
      replace h := hp_let_e em9 h
      have rm9 := hp_re em9 (hp_rite (hp_rc rfl) (hp_rshl _ _))
      have kj : hp_R G l cX8_spotsBy 5 (some .int) "HeelPostModel" (hp_rm 5) vv H' Z 51 [(0, .ref (hp_ad G 0)), (1, .int (hp_I v1)), (2, .int (hp_I v2)), (4, .int (hp_I v4))] [.int (hp_I m9), .int (hp_I v3)] H8 := by
        refine x_ior dX8_spotsBy_51 ?_
        obtain ⟨v3_10, ev3_10⟩ : ∃ z : Int, z = (hp_or v3 m9) := ⟨_, rfl⟩
        replace h := hp_let_e ev3_10 h
        have rv3_10 := hp_re ev3_10 (hp_ror _ _)
        refine x_isnE (L' := [(3, .int (hp_I v3_10)), (0, .ref (hp_ad G 0)), (1, .int (hp_I v1)), (2, .int (hp_I v2)), (4, .int (hp_I v4))]) ev3_10 dX8_spotsBy_52 rfl (by decide) rfl ?_
        obtain ⟨v4_11, ev4_11⟩ : ∃ z : Int, z = (hp_w (v4 + 1)) := ⟨_, rfl⟩
        replace h := hp_let_e ev4_11 h
        have rv4_11 := hp_re ev4_11 (hp_rw _)
        refine x_iiE (L' := [(4, .int (hp_I v4_11)), (3, .int (hp_I v3_10)), (0, .ref (hp_ad G 0)), (1, .int (hp_I v1)), (2, .int (hp_I v2))]) ev4_11 dX8_spotsBy_53 4 rfl (by decide) rfl ?_
        refine x_goto (tgt := 5) dX8_spotsBy_56 (by decide) ?_
        exact x_sub [2, 3, 4, 1, 0] rfl (ih v1 v2 v3_10 v4_11 H8 r1 r2 rv3_10 rv4_11 rH8 _ _ h kx)
      clear h
      refine x_iceq (tgt := 50) dX8_spotsBy_40 (by decide) rc7 (hp_rc rfl) (fun hc12 => ?_) (fun hc12 => ?_)
      · refine x_iconst dX8_spotsBy_50 ?_
        have q9 := (em9.trans (if_pos hc12))
        subst q9
        exact x_sub [0, 1, 2, 4] rfl kj
      · refine x_iconst dX8_spotsBy_43 ?_
        refine x_iload dX8_spotsBy_44 4 rfl ?_
        refine x_ishl dX8_spotsBy_46 ?_
        refine x_goto (tgt := 51) dX8_spotsBy_47 (by decide) ?_
        have q9 := (em9.trans (if_neg hc12))
        subst q9
        exact x_sub [0, 1, 2, 4] rfl kj
set_option maxRecDepth 100000 in
theorem ok_X8_spotsBy {G : hp_G} (hG : hp_sh G = hp_shm) {l : Launch} (v1 : Int) (v2 : Int) (H : hp_H) (r1 : hp_r v1) (r2 : hp_r v2) (rH : hp_in H) (x : Int × hp_H) (h : f_X8_spotsBy v1 v2 H = some x) : hp_M G l yX8_spotsBy cX8_spotsBy 5 (some .int) (hp_rm 5) [.ref (hp_ad G 0), .int (hp_I v1), .int (hp_I v2)] H (some (.int (hp_I x.1))) x.2 (hp_r x.1 ∧ hp_in x.2) := by
  obtain ⟨r, H'⟩ := x
  unfold f_X8_spotsBy at h
  refine hp_body "HeelPostModel" (by decide) rfl ⟨rfl, rfl⟩ (Nat.le_of_ble_eq_true rfl) ?_
  show hp_R G l cX8_spotsBy 5 (some .int) "HeelPostModel" (hp_rm 5) (some (.int (hp_I r))) H' (hp_r r ∧ hp_in H') 0 [(0, .ref (hp_ad G 0)), (1, .int (hp_I v1)), (2, .int (hp_I v2))] [] H
  refine x_iconst dX8_spotsBy_0 ?_
  refine x_istore_n (L' := [(3, .int (hp_I 0)), (0, .ref (hp_ad G 0)), (1, .int (hp_I v1)), (2, .int (hp_I v2))]) dX8_spotsBy_1 rfl (by decide) rfl ?_
  refine x_iconst dX8_spotsBy_2 ?_
  refine x_istore (L' := [(4, .int (hp_I 0)), (3, .int (hp_I 0)), (0, .ref (hp_ad G 0)), (1, .int (hp_I v1)), (2, .int (hp_I v2))]) dX8_spotsBy_3 (by decide) rfl ?_
  obtain ⟨v3_13, H14, g15, h⟩ := hp_b2_e h
  refine x_sub [2, 3, 4, 1, 0] rfl (ok_X8_spotsBy_5 hG 1000 v1 v2 0 0 H r1 r2 (hp_rc rfl) (hp_rc rfl) rH _ _ g15 ?_)
  intro rv3_13 rH14
  refine x_iload_n dX8_spotsBy_59 0 rfl ?_
  cases h
  exact x_iret ⟨rv3_13, rH14⟩ dX8_spotsBy_60
set_option maxRecDepth 100000 in
theorem ok_X8_spots {G : hp_G} (hG : hp_sh G = hp_shm) {l : Launch} (v1 : Int) (v2 : Int) (H : hp_H) (r1 : hp_r v1) (r2 : hp_r v2) (rH : hp_in H) (x : Int × hp_H) (h : f_X8_spots v1 v2 H = some x) : hp_M G l yX8_spots cX8_spots 3 (some .int) (hp_rm 6) [.ref (hp_ad G 0), .int (hp_I v1), .int (hp_I v2)] H (some (.int (hp_I x.1))) x.2 (hp_r x.1 ∧ hp_in x.2) := by
  obtain ⟨r, H'⟩ := x
  unfold f_X8_spots at h
  refine hp_body "HeelPostModel" (by decide) rfl ⟨rfl, rfl⟩ (Nat.le_of_ble_eq_true rfl) ?_
  show hp_R G l cX8_spots 3 (some .int) "HeelPostModel" (hp_rm 6) (some (.int (hp_I r))) H' (hp_r r ∧ hp_in H') 0 [(0, .ref (hp_ad G 0)), (1, .int (hp_I v1)), (2, .int (hp_I v2))] [] H
  refine x_aload_n dX8_spots_0 0 rfl ?_
  refine x_iconst dX8_spots_1 ?_
  obtain ⟨H1, eH1⟩ : ∃ z : hp_H, z = hp_up H 0 0 0 := ⟨_, rfl⟩
  replace h := hp_let_e eH1 h
  have rH1 := hp_ine eH1 (hp_in_up rH (hp_rc rfl))
  refine x_pi 0 0 rfl tyX8 eH1 (sm_0 hG) (by decide) (C := RX8) (T := TX8) (N := 26) rfl in_X8 tyX8_ok nmX8 (by decide) rfl rfl rfl wf_857 dX8_spots_2 ?_
  refine x_aload_n dX8_spots_5 0 rfl ?_
  refine x_iload_n dX8_spots_6 1 rfl ?_
  obtain ⟨c3, g2, h⟩ := hp_b1_e h
  refine x_ivi (As := [.int (hp_I v1)]) (ok_X8_isLane hG v1 H1 r1 rH1 _ g2) cal_X8_isLane (sm_0 hG) (by decide) (C := RX8) (T := TX8) (N := 26) rfl rfl ins_X8_isLane sel_X8_isLane wm_1082 (by decide) rfl rfl (Nat.le_of_ble_eq_true rfl) dX8_spots_7 (fun z9 => ?_)
  have rc3 := z9
  refine x_ifeq (tgt := 34) dX8_spots_10 (by decide) rc3 (fun hc4 => ?_) (fun hc4 => ?_)
  · replace h := hp_it hc4 h
    refine x_ldc (x := (-1000001)) wc_949 rfl dX8_spots_34 ?_
    cases h
    exact x_iret ⟨(hp_rc rfl), rH1⟩ dX8_spots_36
  · replace h := hp_if hc4 h
    refine x_iload_n dX8_spots_13 2 rfl ?_
    refine x_i2l r2 dX8_spots_14 ?_
    refine x_lconst (x := 1) rfl dX8_spots_15 ?_
    refine x_ldc2 (x := 99) wc_1130 rfl dX8_spots_16 ?_
    obtain ⟨c6, g5, h⟩ := hp_b1_e h
    refine x_isi (As := [.long (hp_J v2), .long (hp_J 1), .long (hp_J 99)]) (ok_X8_in hG v2 1 99 H1 (hp_rrl r2) (hp_rlc rfl) (hp_rlc rfl) rH1 _ g5) cal_X8_in stt_X8_in wm_945 (by decide) rfl rfl (Nat.le_of_ble_eq_true rfl) dX8_spots_19 (fun z9 => ?_)
    have rc6 := z9
    refine x_ifeq (tgt := 34) dX8_spots_22 (by decide) rc6 (fun hc7 => ?_) (fun hc7 => ?_)
    · replace h := hp_it hc7 h
      refine x_ldc (x := (-1000001)) wc_949 rfl dX8_spots_34 ?_
      cases h
      exact x_iret ⟨(hp_rc rfl), rH1⟩ dX8_spots_36
    · replace h := hp_if hc7 h
      refine x_aload_n dX8_spots_25 0 rfl ?_
      refine x_iload_n dX8_spots_26 1 rfl ?_
      refine x_iload_n dX8_spots_27 2 rfl ?_
      obtain ⟨c9, H10, g8, h⟩ := hp_b2_e h
      refine x_ivi (As := [.int (hp_I v1), .int (hp_I v2)]) (ok_X8_spotsBy hG v1 v2 H1 r1 r2 rH1 _ g8) cal_X8_spotsBy (sm_0 hG) (by decide) (C := RX8) (T := TX8) (N := 26) rfl rfl ins_X8_spotsBy sel_X8_spotsBy wm_1163 (by decide) rfl rfl (Nat.le_of_ble_eq_true rfl) dX8_spots_28 (fun z9 => ?_)
      obtain ⟨rc9, rH10⟩ := z9
      refine x_goto (tgt := 36) dX8_spots_31 (by decide) ?_
      cases h
      exact x_iret ⟨rc9, rH10⟩ dX8_spots_36
set_option maxRecDepth 100000 in
theorem ok_X8_cutOff_19 {G : hp_G} (hG : hp_sh G = hp_shm) {l : Launch} {vv : Option Value} {H' : hp_H} {Z : Prop} : ∀ (n : Nat) (v1 : Int) (v2 : Int) (H : hp_H), hp_r v1 → hp_r v2 → hp_in H → ∀ m1 : Int, ∀ Hm : hp_H, f_X8_cutOff_19 n v1 v2 H = some (m1, Hm) → (hp_r m1 → hp_in Hm → hp_R G l cX8_cutOff 3 (some .int) "HeelPostModel" (hp_rm 6) vv H' Z 61 [(1, .int (hp_I m1))] [] Hm) → hp_R G l cX8_cutOff 3 (some .int) "HeelPostModel" (hp_rm 6) vv H' Z 19 [(0, .ref (hp_ad G 0)), (1, .int (hp_I v1)), (2, .int (hp_I v2))] [] H := by
  intro n
  induction n with
  | zero =>
    intro v1 v2 H r1 r2 rH m1 Hm h kx
    exact hp_no h
  | succ n ih =>
    intro v1 v2 H r1 r2 rH m1 Hm h kx
    unfold f_X8_cutOff_19 at h
    refine x_iload_n dX8_cutOff_19 2 rfl ?_
    refine x_aload_n dX8_cutOff_20 0 rfl ?_
    refine x_getr 5 (sm_0 hG) (by decide) (C := RX8) (T := TX8) (N := 26) rfl in_X8 (by decide) rfl wf_862 dX8_cutOff_21 ?_
    refine x_iconst dX8_cutOff_24 ?_
    refine x_ia 41 rfl (sm_4 hG) (by decide) (Nat.le_of_ble_eq_true rfl) (by decide) dX8_cutOff_25 ?_
    refine x_icge (tgt := 61) dX8_cutOff_26 (by decide) r2 (rH _ _) (fun hc5 => ?_) (fun hc5 => ?_)
    · replace h := hp_if hc5 h
      cases h
      exact x_sub [1] rfl (kx r1 rH)
    · replace h := hp_it hc5 h
      refine x_iload_n dX8_cutOff_29 1 rfl ?_
      refine x_aload_n dX8_cutOff_30 0 rfl ?_
      refine x_iload_n dX8_cutOff_31 2 rfl ?_
      refine x_bipush rfl dX8_cutOff_32 ?_
      obtain ⟨c7, H8, g6, h⟩ := hp_b2_e h
      refine x_ivi (As := [.int (hp_I v2), .int (hp_I 99)]) (ok_X8_spotsBy hG v2 99 H r2 (hp_rc rfl) rH _ g6) cal_X8_spotsBy (sm_0 hG) (by decide) (C := RX8) (T := TX8) (N := 26) rfl rfl ins_X8_spotsBy sel_X8_spotsBy wm_1163 (by decide) rfl rfl (Nat.le_of_ble_eq_true rfl) dX8_cutOff_34 (fun z9 => ?_)
      obtain ⟨rc7, rH8⟩ := z9
      refine x_iconst dX8_cutOff_37 ?_
      refine x_iload_n dX8_cutOff_38 2 rfl ?_
      refine x_ishl dX8_cutOff_39 ?_
      refine x_iconst dX8_cutOff_40 ?_
      refine x_ixor dX8_cutOff_41 ?_
      refine x_iand dX8_cutOff_42 ?_
      obtain ⟨m9, em9⟩ : ∃ z : Int, z = (if (hp_and c7 (hp_xor (hp_shl 1 v2) (-1))) = 0 then (hp_shl 1 v2) else 0) := ⟨_, rfl⟩
      replace h := hp_let_e em9 h
      have rm9 := hp_re em9 (hp_rite (hp_rshl _ _) (hp_rc rfl))
      have kj : hp_R G l cX8_cutOff 3 (some .int) "HeelPostModel" (hp_rm 6) vv H' Z 53 [(0, .ref (hp_ad G 0)), (2, .int (hp_I v2))] [.int (hp_I m9), .int (hp_I v1)] H8 := by
        refine x_ior dX8_cutOff_53 ?_
        obtain ⟨v1_10, ev1_10⟩ : ∃ z : Int, z = (hp_or v1 m9) := ⟨_, rfl⟩
        replace h := hp_let_e ev1_10 h
        have rv1_10 := hp_re ev1_10 (hp_ror _ _)
        refine x_isnE (L' := [(1, .int (hp_I v1_10)), (0, .ref (hp_ad G 0)), (2, .int (hp_I v2))]) ev1_10 dX8_cutOff_54 rfl (by decide) rfl ?_
        obtain ⟨v2_11, ev2_11⟩ : ∃ z : Int, z = (hp_w (v2 + 1)) := ⟨_, rfl⟩
        replace h := hp_let_e ev2_11 h
        have rv2_11 := hp_re ev2_11 (hp_rw _)
        refine x_iiE (L' := [(2, .int (hp_I v2_11)), (1, .int (hp_I v1_10)), (0, .ref (hp_ad G 0))]) ev2_11 dX8_cutOff_55 2 rfl (by decide) rfl ?_
        refine x_goto (tgt := 19) dX8_cutOff_58 (by decide) ?_
        exact x_sub [2, 1, 0] rfl (ih v1_10 v2_11 H8 rv1_10 rv2_11 rH8 _ _ h kx)
      clear h
      refine x_ifne (tgt := 52) dX8_cutOff_43 (by decide) (hp_rand _ _) (fun hc12 => ?_) (fun hc12 => ?_)
      · refine x_iconst dX8_cutOff_52 ?_
        have q9 := (em9.trans (if_neg hc12))
        subst q9
        exact x_sub [0, 2] rfl kj
      · refine x_iconst dX8_cutOff_46 ?_
        refine x_iload_n dX8_cutOff_47 2 rfl ?_
        refine x_ishl dX8_cutOff_48 ?_
        refine x_goto (tgt := 53) dX8_cutOff_49 (by decide) ?_
        have q9 := (em9.trans (if_pos hc12))
        subst q9
        exact x_sub [0, 2] rfl kj
set_option maxRecDepth 100000 in
theorem ok_X8_cutOff {G : hp_G} (hG : hp_sh G = hp_shm) {l : Launch}  (H : hp_H) (rH : hp_in H) (x : Int × hp_H) (h : f_X8_cutOff  H = some x) : hp_M G l yX8_cutOff cX8_cutOff 3 (some .int) (hp_rm 6) [.ref (hp_ad G 0)] H (some (.int (hp_I x.1))) x.2 (hp_r x.1 ∧ hp_in x.2) := by
  obtain ⟨r, H'⟩ := x
  unfold f_X8_cutOff at h
  refine hp_body "HeelPostModel" (by decide) rfl ⟨rfl, rfl⟩ (Nat.le_of_ble_eq_true rfl) ?_
  show hp_R G l cX8_cutOff 3 (some .int) "HeelPostModel" (hp_rm 6) (some (.int (hp_I r))) H' (hp_r r ∧ hp_in H') 0 [(0, .ref (hp_ad G 0))] [] H
  refine x_aload_n dX8_cutOff_0 0 rfl ?_
  refine x_iconst dX8_cutOff_1 ?_
  obtain ⟨H1, eH1⟩ : ∃ z : hp_H, z = hp_up H 0 0 0 := ⟨_, rfl⟩
  replace h := hp_let_e eH1 h
  have rH1 := hp_ine eH1 (hp_in_up rH (hp_rc rfl))
  refine x_pi 0 0 rfl tyX8 eH1 (sm_0 hG) (by decide) (C := RX8) (T := TX8) (N := 26) rfl in_X8 tyX8_ok nmX8 (by decide) rfl rfl rfl wf_857 dX8_cutOff_2 ?_
  refine x_aload_n dX8_cutOff_5 0 rfl ?_
  obtain ⟨c3, g2, h⟩ := hp_b1_e h
  refine x_ivi (As := []) (ok_X8_isThere hG H1 rH1 _ g2) cal_X8_isThere (sm_0 hG) (by decide) (C := RX8) (T := TX8) (N := 26) rfl rfl ins_X8_isThere sel_X8_isThere wm_1034 (by decide) rfl rfl (Nat.le_of_ble_eq_true rfl) dX8_cutOff_6 (fun z9 => ?_)
  have rc3 := z9
  refine x_ifne (tgt := 15) dX8_cutOff_9 (by decide) rc3 (fun hc4 => ?_) (fun hc4 => ?_)
  · replace h := hp_if hc4 h
    refine x_iconst dX8_cutOff_15 ?_
    refine x_istore_n (L' := [(1, .int (hp_I 0)), (0, .ref (hp_ad G 0))]) dX8_cutOff_16 rfl (by decide) rfl ?_
    refine x_iconst dX8_cutOff_17 ?_
    refine x_istore_n (L' := [(2, .int (hp_I 0)), (1, .int (hp_I 0)), (0, .ref (hp_ad G 0))]) dX8_cutOff_18 rfl (by decide) rfl ?_
    obtain ⟨v1_13, H14, g15, h⟩ := hp_b2_e h
    refine x_sub [2, 1, 0] rfl (ok_X8_cutOff_19 hG 1000 0 0 H1 (hp_rc rfl) (hp_rc rfl) rH1 _ _ g15 ?_)
    intro rv1_13 rH14
    refine x_iload_n dX8_cutOff_61 0 rfl ?_
    cases h
    exact x_iret ⟨rv1_13, rH14⟩ dX8_cutOff_62
  · replace h := hp_it hc4 h
    refine x_ldc (x := (-1000002)) wc_1038 rfl dX8_cutOff_12 ?_
    cases h
    exact x_iret ⟨(hp_rc rfl), rH1⟩ dX8_cutOff_14
