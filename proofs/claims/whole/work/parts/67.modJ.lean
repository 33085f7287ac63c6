/-! missing, goals -/
theorem mh_ms_99 {l r i n : Int} {M0 : hp_H} (hm : sq_ok (M0 4)) (hh : M0 4 3 ≤ 999) (hl : 0 ≤ l ∧ l < 4) (hr : 0 ≤ r ∧ r < 8) (hn : 1 ≤ n ∧ n ≤ 12) (hi : 0 ≤ i ∧ i + n ≤ 40) : ∀ (q : Nat) (x p : Int) (M : hp_H), 0 ≤ p → p ≤ M0 4 2 → (M0 4 2 - p).toNat < q → hp_r x → fi M0 M → ∃ M', f_X8_missing_99 q l r i n x p M = some (sq_abs (M0 4) l n (fun j => M0 3 (40 * r + i + j)) (M0 4 2 - p).toNat p x, M') ∧ fi M0 M' := by
  intro q
  induction q with
  | zero => intro x p M _ _ h; omega
  | succ q ih =>
    intro x p M l0 l1 hq hx hf
    have a2 := hm.2.2.1
    have a4 := hm.2.2.2.2.1
    have w40 : hp_w (hp_w (40 * r) + i) = 40 * r + i := by rw [pu_w (x := 40 * r) (by omega), pu_w (by omega)]
    rw [f_X8_missing_99, hf.e4]
    by_cases hv : p < M0 4 2
    · rw [if_pos hv, m_up, pu_b1, mo_has (by omega), pu_b1, hf.e4, bi_up (by omega) ⟨l0, hv⟩, pu_01, show (M0 4 2 - p).toNat = (M0 4 2 - (p + 1)).toNat + 1 by omega, sq_abs]
      by_cases hb : bi (M0 4 4) p = false
      · obtain ⟨M2, g1, g2, g3⟩ := mo_lay hf.2
        rw [hf.e4] at g2
        have hs := mh_home g3.2 (hp_or (M2 6 4) (hp_shl 1 p))
        have ho := hp_or_in (x := M0 4 4) (y := hp_shl 1 p) a4 (hp_sh_in (by omega))
        have e6 : hp_up M2 6 4 (hp_or (M2 6 4) (hp_shl 1 p)) 6 = sq_hm (M0 4) (hp_or (M0 4 4) (hp_shl 1 p)) := by rw [hs.2, g2]
        have e3 : sq_hm (M0 4) (hp_or (M0 4 4) (hp_shl 1 p)) 3 = M0 4 3 := by unfold sq_hm; rw [if_neg (by omega)]
        have f3 := (hf.tr g3).tr hs.1
        obtain ⟨M4, v1, v2⟩ := mh_isSo (l := l) (off := 40 * r + i) (n := n) hl hn (by omega) hs.1.2 (by rw [e6]; exact sq_hm_ok hm ho) (by rw [e6, e3]; omega)
        rw [e6, f3.e3] at v1
        have ff := f3.tr v2
        rw [if_pos (by simp [hb]), g1, pu_b1, pu_let, w40, v1, pu_b2, pu_let, pu_let, pu_b2, pu_let, pu_w (by omega), pu_01]
        by_cases hd : sq_fit l (fun j => M0 3 (40 * r + i + j)) n.toNat 0 (sq_hm (M0 4) (hp_or (M0 4 4) (hp_shl 1 p))) = true
        · rw [if_pos hd, if_pos ⟨hb, hd⟩]
          exact ih _ (p + 1) M4 (by omega) (by omega) (by omega) (hp_ror _ _) ff
        · rw [if_neg hd, if_neg (fun q => hd q.2), hp_or0 hx]
          exact ih _ (p + 1) M4 (by omega) (by omega) (by omega) hx ff
      · rw [if_neg (by simp; simpa using hb), pu_b2, pu_let, pu_w (by omega), if_neg (fun q => hb q.1)]
        exact ih _ (p + 1) M (by omega) (by omega) (by omega) hx hf
    · rw [if_neg hv, show (M0 4 2 - p).toNat = 0 by omega]
      exact ⟨M, rfl, hf⟩
theorem mh_go_74 {l r i n : Int} {M0 : hp_H} (hm : sq_ok (M0 4)) (hh : M0 4 3 ≤ 999) (hl : 0 ≤ l ∧ l < 4) (hr : 0 ≤ r ∧ r < 8) (hn : 1 ≤ n ∧ n ≤ 12) (hi : 0 ≤ i ∧ i + n ≤ 40) : ∀ (q : Nat) (x v : Int) (M : hp_H), 0 ≤ v → v ≤ M0 4 0 → (M0 4 0 - v).toNat < q → fi M0 M → ∃ M', f_X8_goals_74 q l r i n x v M = some (sq_vals (M0 4) (7 + 3 * l) l n (fun j => M0 3 (40 * r + i + j)) (M0 4 0 - v).toNat v x, M') ∧ fi M0 M' := by
  have a0 := hm.1
  intro q
  induction q with
  | zero => intro x v M _ _ h; omega
  | succ q ih =>
    intro x v M v0 v1 hq hf
    rw [f_X8_goals_74, hf.e4]
    by_cases hv : v < M0 4 0
    · have hj : 0 ≤ 7 + 3 * l ∧ 7 + 3 * l < 41 := by omega
      have hok2 : sq_ok (sq_set (M0 4) (7 + 3 * l) v) := sq_goal_ok hm hl ⟨v0, hv⟩
      have e3 : sq_set (M0 4) (7 + 3 * l) v 3 = M0 4 3 := by unfold sq_set; rw [if_neg (by omega)]
      obtain ⟨M2, M3, g1, g2, g3⟩ := mh_try (l := l) (off := 40 * r + i) (n := n) hok2 (by rw [e3]; exact hh) hl hn (by omega) hj hf
      have w40 : hp_w (hp_w (40 * r) + i) = 40 * r + i := by rw [pu_w (x := 40 * r) (by omega), pu_w (by omega)]
      have w17 : hp_w (hp_w (5 + hp_w (3 * l)) + 2) = 7 + 3 * l := by rw [pu_w (x := 3 * l) (by omega), pu_w (x := 5 + 3 * l) (by omega), pu_w (by omega)]; omega
      rw [if_pos hv, g1, pu_b1, w17, pu_ck hj, pu_let, w40, g2, pu_b2, pu_let, pu_let, pu_let, pu_w (by omega), show (M0 4 0 - v).toNat = (M0 4 0 - (v + 1)).toNat + 1 by omega, sq_vals, pu_01]
      exact ih _ (v + 1) M3 (by omega) (by omega) (by omega) g3
    · rw [if_neg hv, show (M0 4 0 - v).toNat = 0 by omega]
      exact ⟨M, rfl, hf⟩
theorem up44 (M : hp_H) {b : Int} (hb : b ≠ 0) : hp_up (hp_up M 0 0 0) 0 1 0 b = M b := by rw [pu_upa hb, pu_upa hb]
theorem op_goals {C M : hp_H} (h : iv C M) (l r i n : Int) (hri : hp_r i) : op2 (f_X7_goals l r i n C) (f_X8_goals l r i n M) := by
  have ivq := iv_q h (fc.rf C) (fm_z h.2.1)
  have z0 := iv_z0 h.2.1
  have hm := iv_m h
  have hc := c_told h (c := True) l r i n
  rw [if_pos trivial] at hc
  unfold f_X7_goals f_X8_goals
  rw [hc, pu_let, m_posted, up4 M (by omega), pu_b1, pu_01, mo_isRow, pu_b1, pu_01, mo_in, pu_b1, pu_01]
  by_cases hl : 0 < M 4 0 ∧ 0 ≤ l ∧ l ≤ 3
  · rw [if_pos hl]
    by_cases hr : 0 ≤ r ∧ r ≤ 7
    · rw [if_pos hr]
      by_cases hn : 1 ≤ n ∧ n ≤ 12
      · have hg : (True ∧ (0 ≤ r ∧ r ≤ 7) ∧ (1 ≤ n ∧ n ≤ 12)) ∧ 0 < M 4 0 ∧ 0 ≤ l ∧ l ≤ 3 := ⟨⟨trivial, hr, hn⟩, hl⟩
        rw [if_pos hn, mo_isOut (by omega), up4 M (by omega), pu_b1, pu_01]
        by_cases ho : M 4 (5 + 3 * l) = 1
        · rw [g3a hg ho, if_pos rfl, c_finding h (by omega) hri hn, pu_b1, if_pos ho, m_rowFound (by omega) hri hn, pu_b2]
          rw [show sq_fd (hp_up M 0 0 0) r i n = sq_fd M r i n by unfold sq_fd; rw [up4 M (by omega), up4 M (by omega)]]
          have iv2 := iv_st ivq (sq_fd M r i n)
          by_cases hd : sq_fd M r i n = 0
          · obtain ⟨hok, hh⟩ := iv_ok h (by omega)
            obtain ⟨C1, d1, d2, d3, d4, d5⟩ := c_heard h (r := r) (i := i) (n := n) (by omega) hn hd
            rw [hd] at iv2 ⊢
            rw [if_pos rfl, if_pos rfl, if_pos rfl, d1, pu_b1, pu_b2, if_pos rfl]
            have z2 : iv_z (hp_up (hp_up M 0 0 0) 0 1 0) := fun k hk => by rw [pu_upa (by omega), pu_upa (by omega)]; exact z0 k hk
            have a0 := hok.1
            have a2 := hok.2.2.1
            obtain ⟨M3, w1, w2⟩ := mh_go_74 (l := l) (r := r) (i := i) (n := n) (M0 := hp_up (hp_up M 0 0 0) 0 1 0) (by rw [up44 M (by omega)]; exact hok) (by rw [up44 M (by omega)]; exact hh) (by omega) (by omega) hn d5 1000 0 0 _ (by omega) (by rw [up44 M (by omega)]; omega) (by rw [up44 M (by omega)]; omega) (fi.rf z2)
            rw [up44 M (by omega), up44 M (by omega), Int.sub_zero] at w1
            obtain ⟨C2, k1, k2⟩ := fo_goals (l := l) (n := n) (by omega) hn hh d3 hok d4 ho
            rw [w1, pu_b2, k1, pu_b2]
            exact ⟨_, _, M3, rfl, rfl, iv_q iv2 (fc_up (d2.tr k2.fc) 0) (fi_fm w2)⟩
          · have hfd : sq_fd M r i n = 1 ∨ sq_fd M r i n = 2 := by unfold sq_fd at hd ⊢; (repeat' split) <;> simp_all
            rw [if_neg hd, if_neg hd, if_neg (by omega)]
            unfold f_X7_found
            rw [pu_let, pu_b2, pu_b2, pu_w (by omega), if_neg (by omega)]
            exact ⟨_, _, _, rfl, rfl, iv2⟩
        · rw [g3b hg ho, if_neg n2, pu_b2, if_neg n2, if_neg ho]
          exact ⟨_, C, _, rfl, rfl, ivq⟩
      · have hg : ¬ ((True ∧ (0 ≤ r ∧ r ≤ 7) ∧ (1 ≤ n ∧ n ≤ 12)) ∧ 0 < M 4 0 ∧ 0 ≤ l ∧ l ≤ 3) := fun q => hn q.1.2.2
        rw [g3c hg, if_neg n1, pu_b2, if_neg n1, if_neg hn]
        exact ⟨_, C, _, rfl, rfl, ivq⟩
    · have hg : ¬ ((True ∧ (0 ≤ r ∧ r ≤ 7) ∧ (1 ≤ n ∧ n ≤ 12)) ∧ 0 < M 4 0 ∧ 0 ≤ l ∧ l ≤ 3) := fun q => hr q.1.2.1
      rw [g3c hg, if_neg n1, pu_b2, if_neg n1, if_neg hr]
      exact ⟨_, C, _, rfl, rfl, ivq⟩
  · have hg : ¬ ((True ∧ (0 ≤ r ∧ r ≤ 7) ∧ (1 ≤ n ∧ n ≤ 12)) ∧ 0 < M 4 0 ∧ 0 ≤ l ∧ l ≤ 3) := fun q => hl q.2
    rw [g3c hg, if_neg n1, pu_b2, if_neg n1, if_neg hl]
    exact ⟨_, C, _, rfl, rfl, ivq⟩
theorem op_missing {C M : hp_H} (h : iv C M) (l r i n : Int) (hri : hp_r i) : op2 (f_X7_missing l r i n C) (f_X8_missing l r i n M) := by
  have ivq := iv_q h (fc.rf C) (fm_z h.2.1)
  have z0 := iv_z0 h.2.1
  have hm := iv_m h
  have hc := c_told h (c := True) l r i n
  rw [if_pos trivial] at hc
  unfold f_X7_missing f_X8_missing
  rw [hc, pu_let, m_posted, up4 M (by omega), pu_b1, pu_01, mo_isRow, pu_b1, pu_01, mo_in, pu_b1, pu_01]
  by_cases hl : 0 < M 4 0 ∧ 0 ≤ l ∧ l ≤ 3
  · rw [if_pos hl]
    by_cases hr : 0 ≤ r ∧ r ≤ 7
    · rw [if_pos hr]
      by_cases hn : 1 ≤ n ∧ n ≤ 12
      · have hg : (True ∧ (0 ≤ r ∧ r ≤ 7) ∧ (1 ≤ n ∧ n ≤ 12)) ∧ 0 < M 4 0 ∧ 0 ≤ l ∧ l ≤ 3 := ⟨⟨trivial, hr, hn⟩, hl⟩
        rw [if_pos hn, mo_isOut (by omega), up4 M (by omega), pu_b1, pu_01]
        by_cases ho : M 4 (5 + 3 * l) = 1
        · rw [g3a hg ho, if_pos rfl, c_finding h (by omega) hri hn, pu_b1, if_pos ho, m_rowFound (by omega) hri hn, pu_b2]
          rw [show sq_fd (hp_up M 0 0 0) r i n = sq_fd M r i n by unfold sq_fd; rw [up4 M (by omega), up4 M (by omega)]]
          have iv2 := iv_st ivq (sq_fd M r i n)
          by_cases hd : sq_fd M r i n = 0
          · obtain ⟨hok, hh⟩ := iv_ok h (by omega)
            obtain ⟨C1, d1, d2, d3, d4, d5⟩ := c_heard h (r := r) (i := i) (n := n) (by omega) hn hd
            rw [hd] at iv2 ⊢
            rw [if_pos rfl, if_pos rfl, if_pos rfl, d1, pu_b1, pu_b2, if_pos rfl]
            have z2 : iv_z (hp_up (hp_up M 0 0 0) 0 1 0) := fun k hk => by rw [pu_upa (by omega), pu_upa (by omega)]; exact z0 k hk
            have a0 := hok.1
            have a2 := hok.2.2.1
            have w40 : hp_w (hp_w (40 * r) + i) = 40 * r + i := by rw [pu_w (x := 40 * r) (by omega), pu_w (by omega)]
            obtain ⟨M2, g1, g2, g3⟩ := mo_lay z2
            rw [up44 M (by omega)] at g2
            obtain ⟨M3, v1, v2⟩ := mh_isSo (l := l) (off := 40 * r + i) (n := n) (by omega) hn (by omega) g3.2 (by rw [g2]; exact hok) (by rw [g2]; exact hh)
            rw [g2, g3.e3, up44 M (by omega)] at v1
            obtain ⟨M4, w1, w2⟩ := mh_ms_99 (l := l) (r := r) (i := i) (n := n) (M0 := hp_up (hp_up M 0 0 0) 0 1 0) (by rw [up44 M (by omega)]; exact hok) (by rw [up44 M (by omega)]; exact hh) (by omega) (by omega) hn d5 1000 (if sq_fit l (fun j => M 3 (40 * r + i + j)) n.toNat 0 (M 4) = true then 64 else 0) 0 M3 (by omega) (by rw [up44 M (by omega)]; omega) (by rw [up44 M (by omega)]; omega) (by unfold hp_r; split <;> omega) (g3.tr v2)
            rw [up44 M (by omega), up44 M (by omega), Int.sub_zero] at w1
            obtain ⟨C2, k1, k2⟩ := fo_absent (l := l) (n := n) (by omega) hn hh d3 hok d4 ho
            rw [g1, pu_b1, w40, v1, pu_b2, pu_let, pu_01, w1, pu_b2, k1, pu_b2]
            exact ⟨_, _, M4, rfl, rfl, iv_q iv2 (fc_up (d2.tr k2.fc) 0) (fi_fm w2)⟩
          · have hfd : sq_fd M r i n = 1 ∨ sq_fd M r i n = 2 := by unfold sq_fd at hd ⊢; (repeat' split) <;> simp_all
            rw [if_neg hd, if_neg hd, if_neg (by omega)]
            unfold f_X7_found
            rw [pu_let, pu_b2, pu_b2, pu_w (by omega), if_neg (by omega)]
            exact ⟨_, _, _, rfl, rfl, iv2⟩
        · rw [g3b hg ho, if_neg n2, pu_b2, if_neg n2, if_neg ho]
          exact ⟨_, C, _, rfl, rfl, ivq⟩
      · have hg : ¬ ((True ∧ (0 ≤ r ∧ r ≤ 7) ∧ (1 ≤ n ∧ n ≤ 12)) ∧ 0 < M 4 0 ∧ 0 ≤ l ∧ l ≤ 3) := fun q => hn q.1.2.2
        rw [g3c hg, if_neg n1, pu_b2, if_neg n1, if_neg hn]
        exact ⟨_, C, _, rfl, rfl, ivq⟩
    · have hg : ¬ ((True ∧ (0 ≤ r ∧ r ≤ 7) ∧ (1 ≤ n ∧ n ≤ 12)) ∧ 0 < M 4 0 ∧ 0 ≤ l ∧ l ≤ 3) := fun q => hr q.1.2.1
      rw [g3c hg, if_neg n1, pu_b2, if_neg n1, if_neg hr]
      exact ⟨_, C, _, rfl, rfl, ivq⟩
  · have hg : ¬ ((True ∧ (0 ≤ r ∧ r ≤ 7) ∧ (1 ≤ n ∧ n ≤ 12)) ∧ 0 < M 4 0 ∧ 0 ≤ l ∧ l ≤ 3) := fun q => hl q.2
    rw [g3c hg, if_neg n1, pu_b2, if_neg n1, if_neg hl]
    exact ⟨_, C, _, rfl, rfl, ivq⟩
