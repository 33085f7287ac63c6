theorem c_there {C M : hp_H} (h : iv C M) {r : Int} (hr : 0 ≤ r ∧ r < 8) : f_X4_isThere r C = some (if M 1 r < 0 then 0 else 1) := by
  obtain ⟨b1, b2, b3, b4, b5⟩ := h.2.2.2.2.1 r hr.1 hr.2
  unfold f_X4_isThere
  rw [pu_ck hr, b1]
  by_cases h1 : M 1 r < 0
  · rw [if_pos h1, if_pos (show M 1 r = -1 by omega)]
  · rw [if_neg h1, if_neg (show ¬ M 1 r = -1 by omega)]
theorem c_places {C M : hp_H} (h : iv C M) {r i n : Int} (hr : 0 ≤ r ∧ r < 8) (h1 : ¬ M 1 r < 0) (hn : hp_r n) : f_X4_hasPlaces r i n C = some (if 0 ≤ i ∧ 0 ≤ n ∧ i + n ≤ M 2 r then 1 else 0) := by
  obtain ⟨b1, b2, b3, b4, b5⟩ := h.2.2.2.2.1 r hr.1 hr.2
  unfold hp_r at hn
  unfold f_X4_hasPlaces
  by_cases h2 : i < 0
  · rw [if_pos h2, if_neg (show ¬ (0 ≤ i ∧ 0 ≤ n ∧ i + n ≤ M 2 r) by omega)]
  · by_cases h3 : n < 0
    · rw [if_neg h2, if_pos h3, if_neg (show ¬ (0 ≤ i ∧ 0 ≤ n ∧ i + n ≤ M 2 r) by omega)]
    · rw [if_neg h2, if_neg h3, pu_ck hr, b3 (by omega), pu_w (by omega)]
      by_cases h4 : M 2 r - n < i
      · rw [if_pos h4, if_neg (show ¬ (0 ≤ i ∧ 0 ≤ n ∧ i + n ≤ M 2 r) by omega)]
      · rw [if_neg h4, if_pos (show 0 ≤ i ∧ 0 ≤ n ∧ i + n ≤ M 2 r by omega)]
theorem cmp_pos (a b : Int) : 0 < hp_cmp a b ↔ b < a := by
  unfold hp_cmp
  (repeat' split) <;> omega
theorem op_copy {C M : hp_H} (h : iv C M) (r1 i r2 j n : Int) (hi : hp_r i) (hj : hp_r j) (hn : hp_r n) : op2 (f_X7_copy r1 i r2 j n C) (f_X8_copy r1 i r2 j n M) := by
  have ivq := iv_q h (fc.rf C) (fm_z h.2.1)
  unfold f_X7_copy f_X8_copy f_X4_laneOf
  rw [c_isRow, c_isRow, pu_b1, pu_01, pu_b1, pu_01, pu_let, mo_isRow, mo_isRow, pu_b1, pu_01, pu_b1, pu_01]
  by_cases hr : 0 ≤ r1 ∧ r1 ≤ 7
  · rw [if_pos hr, if_pos hr]
    have hr1 : 0 ≤ r1 ∧ r1 < 8 := by omega
    by_cases hs : 0 ≤ r2 ∧ r2 ≤ 7
    · have hr2 : 0 ≤ r2 ∧ r2 < 8 := by omega
      obtain ⟨b1, b2, b3, b4, b5⟩ := h.2.2.2.2.1 r1 hr1.1 hr1.2
      obtain ⟨d1, d2, d3, d4, d5⟩ := h.2.2.2.2.1 r2 hr2.1 hr2.2
      rw [if_pos hs, if_pos hs, c_there h hr1, c_there h hr2, pu_b1, pu_10, pu_b1, pu_10, pu_let, pu_ck hr1, pu_ck hr2, up44 M (by omega)]
      by_cases h1 : M 1 r1 < 0
      · rw [if_pos h1, if_pos h1, pu_ck hr1]
        exact ⟨_, _, _, rfl, rfl, iv_fd ivq 1⟩
      · rw [if_neg h1, if_neg h1]
        by_cases h2 : M 1 r2 < 0
        · rw [if_pos h2, if_pos h2, pu_ck hr1, pu_ck hr2]
          exact ⟨_, _, _, rfl, rfl, iv_fd ivq 1⟩
        · rw [if_neg h2, if_neg h2, pu_ck hr1, pu_ck hr2, pu_b1, pu_b1, b1, d1]
          by_cases h3 : M 1 r1 = M 1 r2
          · rw [if_pos h3, if_pos h3, c_places h hr1 h1 hn, c_places h hr2 h2 hn, pu_b1, pu_01, pu_b1, pu_01, up44 M (by omega)]
            unfold hp_r at hi hj hn
            rw [pu_wl (x := i + n) (by omega), pu_wl (x := j + n) (by omega)]
            by_cases g1 : 0 ≤ i ∧ 0 ≤ n ∧ i + n ≤ M 2 r1
            · by_cases g2 : 0 ≤ j ∧ 0 ≤ n ∧ j + n ≤ M 2 r2
              · rw [if_pos g1, if_pos g2, if_neg (show ¬ i < 0 by omega), if_neg (show ¬ j < 0 by omega), if_neg (show ¬ n < 0 by omega), if_neg (fun q => by have := (cmp_pos _ _).mp q; omega), if_neg (fun q => by have := (cmp_pos _ _).mp q; omega), pu_let, m_cp hr1 hr2 (by omega) (by omega) (by omega), pu_b1]
                unfold f_X4_carryOver
                rw [pu_ck hr1, pu_ck hr2, pu_ck (by omega), pu_let, pu_b1]
                refine ⟨_, _, hp_cpy (hp_up (hp_up M 0 0 0) 0 1 0) 3 (40 * r1 + i) 3 (40 * r2 + j) n, rfl, rfl, iv_rf (iv_st ivq 0) (fcr (fun b hb => ?_) 0) (fun b _ _ b3 => ?_) ?_⟩
                · funext x; unfold hp_cpy; rw [if_neg (by omega)]
                · funext x; unfold hp_cpy; rw [if_neg (by omega)]
                · intro x x0 x1
                  obtain ⟨c1, c2, c3, c4, c5⟩ := h.2.2.2.2.1 x x0 x1
                  rw [pu_upa (show (11 : Int) ≠ 0 by omega), pu_upa (show (12 : Int) ≠ 0 by omega), pu_upa (show (3 + x : Int) ≠ 0 by omega)]
                  have e11 : hp_cpy C (3 + r1) i (3 + r2) j n 11 = C 11 := by funext y; unfold hp_cpy; rw [if_neg (by omega)]
                  have e12 : hp_cpy C (3 + r1) i (3 + r2) j n 12 = C 12 := by funext y; unfold hp_cpy; rw [if_neg (by omega)]
                  have m1 : hp_cpy (hp_up (hp_up M 0 0 0) 0 1 0) 3 (40 * r1 + i) 3 (40 * r2 + j) n 1 = M 1 := by funext y; unfold hp_cpy; rw [if_neg (by omega), up44 M (by omega)]
                  have m2 : hp_cpy (hp_up (hp_up M 0 0 0) 0 1 0) 3 (40 * r1 + i) 3 (40 * r2 + j) n 2 = M 2 := by funext y; unfold hp_cpy; rw [if_neg (by omega), up44 M (by omega)]
                  rw [e11, e12, m1, m2]
                  refine ⟨c1, c2, c3, c4, fun k k0 k1 => ?_⟩
                  unfold hp_cpy
                  rw [up44 M (by omega)]
                  by_cases hx : x = r2 ∧ j ≤ k ∧ k < j + n
                  · rw [if_pos (by omega), if_pos (by omega), b5 _ (by omega) (by omega), hx.1, show 40 * r1 + i + (40 * r2 + k - (40 * r2 + j)) = 40 * r1 + (i + (k - j)) by omega]
                  · rw [if_neg (by omega), if_neg (by omega)]
                    exact c5 k k0 k1
              · rw [if_pos g1, if_neg g2, if_neg (show ¬ i < 0 by omega)]
                by_cases e1 : j < 0
                · rw [if_pos e1]
                  exact ⟨_, _, _, rfl, rfl, iv_fd ivq 2⟩
                · rw [if_neg e1, if_neg (show ¬ n < 0 by omega), if_neg (fun q => by have := (cmp_pos _ _).mp q; omega), if_pos ((cmp_pos _ _).mpr (show M 2 r2 < j + n by omega))]
                  exact ⟨_, _, _, rfl, rfl, iv_fd ivq 2⟩
            · rw [if_neg g1]
              by_cases e0 : i < 0
              · rw [if_pos e0]
                exact ⟨_, _, _, rfl, rfl, iv_fd ivq 2⟩
              · rw [if_neg e0]
                by_cases e1 : j < 0
                · rw [if_pos e1]
                  exact ⟨_, _, _, rfl, rfl, iv_fd ivq 2⟩
                · rw [if_neg e1]
                  by_cases e2 : n < 0
                  · rw [if_pos e2]
                    exact ⟨_, _, _, rfl, rfl, iv_fd ivq 2⟩
                  · rw [if_neg e2, if_pos ((cmp_pos _ _).mpr (show M 2 r1 < i + n by omega))]
                    exact ⟨_, _, _, rfl, rfl, iv_fd ivq 2⟩
          · rw [if_neg h3, if_neg h3]
            exact ⟨_, _, _, rfl, rfl, iv_fd ivq 5⟩
    · rw [if_neg hs, if_neg hs]
      exact ⟨_, _, _, rfl, rfl, ivq⟩
  · rw [if_neg hr, if_neg hr]
    exact ⟨_, _, _, rfl, rfl, ivq⟩
