/-! rows and the tape: what changes them -/
theorem iv_rf {C C' M M' : hp_H} (h : iv C M) (hc : ∀ b, (b < 3 ∨ 12 < b) → C' b = C b) (hm : ∀ b, b ≠ 1 → b ≠ 2 → b ≠ 3 → M' b = M b) (hr' : iv_r C' M') : iv C' M' := by
  obtain ⟨ht, hz, ha, hi, hr, hp, hs, hk⟩ := h
  have e4 := hm 4 (by omega) (by omega) (by omega)
  have e0 := hm 0 (by omega) (by omega) (by omega)
  refine ⟨⟨?_, ?_⟩, ?_, ?_, ?_, hr', ?_, ?_, ?_⟩
  · rw [e4]; exact tr_fr ht.1 (fun b b1 b2 => hc b (by omega))
  · rw [e4]; exact ht.2
  · intro k hk; rw [e4, hm 6 (by omega) (by omega) (by omega)]; exact hz k hk
  · unfold iv_a
    rw [hc 29 (by omega), e0, hm 7 (by omega) (by omega) (by omega)]
    obtain ⟨a1, a2, a3, a4⟩ := ha
    refine ⟨a1, a2, a3, fun i i0 i1 => ?_⟩
    obtain ⟨b1, b2⟩ := a4 i i0 i1
    have hq := sq_tm (h := C 29 1 + i) (d := 24) (by omega) (by omega)
    exact ⟨tr_fr b1 (fun b h1 h2 => hc b (by omega)), b2⟩
  · intro k k0 k1
    rw [hm 12 (by omega) (by omega) (by omega), hm 13 (by omega) (by omega) (by omega), hc (230 + 7 * k) (by omega)]
    rcases hi k k0 k1 with h | ⟨h1, h2, h3⟩
    · exact Or.inl h
    · exact Or.inr ⟨h1, tr_fr h2 (fun b g1 g2 => hc b (by omega)), h3⟩
  · unfold iv_p
    rw [hc 13 (by omega), hc 14 (by omega), e0, hm 8 (by omega) (by omega) (by omega)]
    exact hp
  · unfold iv_s
    rw [hc 0 (by omega), e0]
    exact hs
  · unfold iv_k
    rw [hc 227 (by omega), hc 228 (by omega), e0, hm 14 (by omega) (by omega) (by omega)]
    exact hk
theorem fcr {C C' : hp_H} (h : ∀ b, (b < 3 ∨ 12 < b) → C' b = C b) (v : Int) : ∀ b, (b < 3 ∨ 12 < b) → hp_up C' 0 10 v b = hp_up C 0 10 v b := fun b hb => by
  funext j
  rw [pu_up, pu_up, h b hb]
theorem iv_fd {C M : hp_H} (h : iv C M) (v : Int) : iv (hp_up C 0 10 v) (hp_up (hp_up M 0 1 0) 0 1 v) := by
  have g := iv_st (iv_st h 0) v
  have e1 : hp_up (hp_up C 0 10 0) 0 10 v = hp_up C 0 10 v := by funext b j; simp only [pu_up]; split <;> rfl
  rw [e1] at g; exact g
theorem op_drop {C M : hp_H} (h : iv C M) (r : Int) : op2 (f_X7_drop r C) (f_X8_drop r M) := by
  have ivq := iv_q h (fc.rf C) (fm_z h.2.1)
  unfold f_X7_drop f_X8_drop f_X4_isThere f_X4_lengthOf
  rw [c_isRow, pu_b1, pu_01, pu_let, mo_isRow, pu_b1, pu_01]
  by_cases hr : 0 ≤ r ∧ r ≤ 7
  · obtain ⟨b1, b2, b3, b4, b5⟩ := h.2.2.2.2.1 r hr.1 (by omega)
    have hr8 : 0 ≤ r ∧ r < 8 := by omega
    rw [if_pos hr, if_pos hr, pu_let, pu_ck hr8, pu_ck hr8, pu_ck hr8, up44 M (by omega), b1]
    by_cases h1 : M 1 r < 0
    · have h2 : M 1 r = -1 := by omega
      rw [if_pos h1, if_pos h2, pu_b1, if_pos rfl]
      exact ⟨_, _, _, rfl, rfl, iv_fd ivq 1⟩
    · have h2 : ¬ M 1 r = -1 := by omega
      unfold f_X4_lose
      rw [if_neg h1, if_neg h2, pu_b1, if_neg (show ¬ (1 : Int) = 0 by omega), pu_b1, pu_ck hr8, pu_let, pu_let, pu_let, pu_b1]
      refine ⟨_, _, hp_up (hp_up (hp_up M 0 0 0) 0 1 0) 1 r (-1), rfl, ?_, iv_rf (iv_st ivq 0) (fcr (fun b hb => by rw [pu_upa (by omega), pu_upa (by omega)]) 0) (fun b b1 _ _ => pu_upa b1) ?_⟩
      · rw [pu_upa (show (2 : Int) ≠ 1 by omega), up44 M (by omega), b3 (by omega)]
      · intro x x0 x1
        obtain ⟨c1, c2, c3, c4, c5⟩ := h.2.2.2.2.1 x x0 x1
        rw [pu_upa (show (11 : Int) ≠ 0 by omega), pu_upa (show (12 : Int) ≠ 0 by omega), pu_upa (show (3 + x : Int) ≠ 0 by omega), pu_upa (show (11 : Int) ≠ 12 by omega), pu_upa (show (3 + x : Int) ≠ 12 by omega), pu_upa (show (3 + x : Int) ≠ 11 by omega), pu_upa (show (2 : Int) ≠ 1 by omega), pu_upa (show (3 : Int) ≠ 1 by omega), up44 M (by omega), up44 M (by omega)]
        by_cases hx : x = r
        · subst hx
          rw [pu_ups, pu_ups]
          exact ⟨rfl, by omega, fun q => by omega, c4, c5⟩
        · rw [pu_upj hx, pu_upj hx, pu_upj hx, pu_upa (show (12 : Int) ≠ 11 by omega), up44 M (by omega)]
          exact ⟨c1, c2, c3, c4, c5⟩
  · rw [if_neg hr, if_neg hr]
    exact ⟨_, _, _, rfl, rfl, ivq⟩
theorem op_set {C M : hp_H} (h : iv C M) (r i v : Int) (hi : hp_r i) : op2 (f_X7_set r i v C) (f_X8_set r i v M) := by
  have ivq := iv_q h (fc.rf C) (fm_z h.2.1)
  unfold f_X7_set f_X8_set
  rw [c_isRow, pu_b1, pu_01, pu_let, mo_isRow, pu_b1, pu_01]
  by_cases hr : 0 ≤ r ∧ r ≤ 7
  · obtain ⟨b1, b2, b3, b4, b5⟩ := h.2.2.2.2.1 r hr.1 (by omega)
    have hr8 : 0 ≤ r ∧ r < 8 := by omega
    rw [if_pos hr, if_pos hr, c_finding h hr8 hi (by omega), pu_b1, pu_let, pu_ck hr8, up44 M (by omega), up44 M (by omega)]
    unfold sq_fd
    by_cases h1 : M 1 r < 0
    · rw [if_pos h1, if_pos h1, if_neg (show ¬ (1 : Int) = 0 by omega)]
      exact ⟨_, _, _, rfl, rfl, iv_fd ivq 1⟩
    · rw [if_neg h1, if_neg h1, pu_w (x := M 2 r - 1) (by omega), mo_in, pu_b1, pu_01]
      by_cases h2 : 0 ≤ i ∧ i + 1 ≤ M 2 r
      · have h3 : 0 ≤ i ∧ i ≤ M 2 r - 1 := by omega
        have w40 : hp_w (hp_w (40 * r) + i) = 40 * r + i := by rw [pu_w (x := 40 * r) (by omega), pu_w (by omega)]
        unfold f_X4_put f_X4_cut
        rw [if_pos h2, if_pos rfl, if_pos h3, pu_ck hr8, b1, w40]
        have e : ∃ z, (if M 1 r = 0 then some (hp_w8 v) else if M 1 r = 1 then some (hp_w16 v) else some v : Option Int) = some z := by (repeat' split) <;> exact ⟨_, rfl⟩
        obtain ⟨z, hz⟩ := e
        rw [hz, pu_b1, pu_b1, pu_ck (by omega), pu_ck (by omega), pu_let, pu_let, pu_b2, pu_ups, pu_ups]
        refine ⟨_, _, _, rfl, rfl, iv_rf (iv_st ivq 0) (fcr (fun b hb => by rw [pu_upa (by omega)]) 0) (fun b _ _ b1 => pu_upa b1) ?_⟩
        intro x x0 x1
        obtain ⟨c1, c2, c3, c4, c5⟩ := h.2.2.2.2.1 x x0 x1
        rw [pu_upa (show (11 : Int) ≠ 0 by omega), pu_upa (show (12 : Int) ≠ 0 by omega), pu_upa (show (3 + x : Int) ≠ 0 by omega), pu_upa (show (11 : Int) ≠ 3 + r by omega), pu_upa (show (12 : Int) ≠ 3 + r by omega), pu_upa (show (1 : Int) ≠ 3 by omega), pu_upa (show (2 : Int) ≠ 3 by omega), up44 M (by omega), up44 M (by omega)]
        refine ⟨c1, c2, c3, c4, fun j j0 j1 => ?_⟩
        by_cases hx : x = r ∧ j = i
        · obtain ⟨rfl, rfl⟩ := hx
          rw [pu_ups, pu_ups]
        · rw [pu_up, if_neg (by omega), pu_upj (show 40 * x + j ≠ 40 * r + i by omega), up44 M (by omega)]
          exact c5 j j0 j1
      · have h3 : ¬ (0 ≤ i ∧ i ≤ M 2 r - 1) := by omega
        rw [if_neg h2, if_neg h3, if_neg (show ¬ (2 : Int) = 0 by omega)]
        exact ⟨_, _, _, rfl, rfl, iv_fd ivq 2⟩
  · rw [if_neg hr, if_neg hr]
    exact ⟨_, _, _, rfl, rfl, ivq⟩
theorem iv_tf {C C' M M' : hp_H} (h : iv C M) (hc : ∀ b, b ≠ 13 → b ≠ 14 → C' b = C b) (hm : ∀ b, b ≠ 0 → b ≠ 8 → M' b = M b) (hj : ∀ j, j ≠ 11 → M' 0 j = M 0 j) (hp' : iv_p C' M') : iv C' M' := by
  obtain ⟨ht, hz, ha, hi, hr, hp, hs, hk⟩ := h
  have e4 := hm 4 (by omega) (by omega)
  refine ⟨⟨?_, ?_⟩, ?_, ?_, ?_, ?_, hp', ?_, ?_⟩
  · rw [e4]; exact tr_fr ht.1 (fun b b1 b2 => hc b (by omega) (by omega))
  · rw [e4]; exact ht.2
  · intro k hk; rw [e4, hm 6 (by omega) (by omega)]; exact hz k hk
  · unfold iv_a
    rw [hc 29 (by omega) (by omega), hj 9 (by omega), hm 7 (by omega) (by omega)]
    obtain ⟨a1, a2, a3, a4⟩ := ha
    refine ⟨a1, a2, a3, fun i i0 i1 => ?_⟩
    obtain ⟨b1, b2⟩ := a4 i i0 i1
    have hq := sq_tm (h := C 29 1 + i) (d := 24) (by omega) (by omega)
    exact ⟨tr_fr b1 (fun b h1 h2 => hc b (by omega) (by omega)), b2⟩
  · intro k k0 k1
    rw [hm 12 (by omega) (by omega), hm 13 (by omega) (by omega), hc (230 + 7 * k) (by omega) (by omega)]
    rcases hi k k0 k1 with h | ⟨h1, h2, h3⟩
    · exact Or.inl h
    · exact Or.inr ⟨h1, tr_fr h2 (fun b g1 g2 => hc b (by omega) (by omega)), h3⟩
  · intro r r0 r1
    rw [hc 11 (by omega) (by omega), hc 12 (by omega) (by omega), hc (3 + r) (by omega) (by omega), hm 1 (by omega) (by omega), hm 2 (by omega) (by omega), hm 3 (by omega) (by omega)]
    exact hr r r0 r1
  · unfold iv_s
    rw [hc 0 (by omega) (by omega), hj 18 (by omega), hj 1 (by omega)]
    exact hs
  · unfold iv_k
    rw [hc 227 (by omega) (by omega), hc 228 (by omega) (by omega), hj 25 (by omega), hm 14 (by omega) (by omega)]
    exact hk
theorem op_feed {C M : hp_H} (h : iv C M) (v : Int) : op2 (f_X7_feed v C) (f_X8_feed v M) := by
  have ivq := iv_q h (fc.rf C) (fm_z h.2.1)
  obtain ⟨p1, p2, p3⟩ := h.2.2.2.2.2.1
  unfold f_X7_feed f_X8_feed
  rw [g_within, pu_b1, pu_01, pu_let, mo_in, pu_b1, pu_01]
  by_cases hv : 0 ≤ v ∧ v ≤ 255
  · rw [if_pos hv, if_pos hv, pu_upj (show (11 : Int) ≠ 0 by omega)]
    unfold f_X5_add
    rw [p1]
    by_cases hl : M 0 11 < 120
    · have h2 : ¬ M 0 11 = 120 := by omega
      rw [if_pos hl, if_neg h2, pu_ck (by omega), pu_ck (by omega), pu_let, pu_let, pu_b2, if_neg (show ¬ (1 : Int) = 0 by omega), pu_let, pu_let]
      unfold f_X5_length
      rw [pu_b1, pu_upa (show (13 : Int) ≠ 14 by omega), p1, pu_upa (show (0 : Int) ≠ 8 by omega), pu_upj (show (11 : Int) ≠ 0 by omega), pu_w (by omega), pu_ups, pu_ups]
      refine ⟨_, _, _, rfl, rfl, iv_tf ivq (fun b b1 b2 => by rw [pu_upa b1, pu_upa b2]) (fun b b1 b2 => by rw [pu_upa b1, pu_upa b2]) (fun j hj => by rw [pu_upj hj, pu_upa (show (0 : Int) ≠ 8 by omega)]) ⟨by rw [pu_ups, pu_ups], by rw [pu_ups]; omega, fun i i0 i1 => ?_⟩⟩
      rw [pu_ups] at i1
      rw [pu_upa (show (14 : Int) ≠ 13 by omega), pu_upa (show (8 : Int) ≠ 0 by omega)]
      by_cases hi : i = M 0 11
      · subst hi; rw [pu_ups, pu_ups]; exact ⟨rfl, hv⟩
      · rw [pu_upj hi, pu_upj hi, up4 M (by omega)]; exact p3 i i0 (by omega)
    · have h2 : M 0 11 = 120 := by omega
      rw [if_neg hl, if_pos h2, pu_b2, if_pos rfl]
      exact ⟨_, _, _, rfl, rfl, ivq⟩
  · rw [if_neg hv, if_neg hv]
    exact ⟨_, _, _, rfl, rfl, ivq⟩
theorem c_make_17 {r : Int} (hr : 0 ≤ r ∧ r < 8) (H : hp_H) : f_X4_make_17 1000 r 0 H = some (hp_fill H (3 + r) 0 0 40 (fun _ => 0)) := by
  refine lp_fill (F := fun q v H => f_X4_make_17 q r v H) (src := fun _ _ => 0) ?_ (fun _ _ _ _ => rfl) 1000 0 H (by omega) (by omega) (by omega)
  intro q v H h0 hN
  show f_X4_make_17 (q + 1) r v H = _
  rw [f_X4_make_17]
  by_cases hv : v < 40
  · rw [if_pos hv, if_pos hv, pu_ck hr, pu_ck (by omega), pu_let, pu_let, pu_w (by omega), Int.zero_add]
  · rw [if_neg hv, if_neg hv]
theorem m_row_65 {r v : Int} (hr : 0 ≤ r ∧ r < 8) (H : hp_H) : f_X8_row_65 1000 r v 0 H = some (hp_fill H 3 (40 * r) 0 40 (fun _ => 0)) := by
  refine lp_fill (F := fun q k H => f_X8_row_65 q r v k H) (src := fun _ _ => 0) ?_ (fun _ _ _ _ => rfl) 1000 0 H (by omega) (by omega) (by omega)
  intro q k H h0 hN
  show f_X8_row_65 (q + 1) r v k H = _
  rw [f_X8_row_65]
  by_cases hv : k < 40
  · rw [if_pos hv, if_pos hv, pu_w (x := 40 * r) (by omega), pu_w (x := 40 * r + k) (by omega), pu_ck (by omega), pu_let, pu_let, pu_w (by omega)]
  · rw [if_neg hv, if_neg hv]
theorem op_row {C M : hp_H} (h : iv C M) (r l n : Int) : op2 (f_X7_row r l n C) (f_X8_row r l n M) := by
  have ivq := iv_q h (fc.rf C) (fm_z h.2.1)
  unfold f_X7_row f_X8_row
  rw [c_isRow, pu_b1, pu_01, pu_let, mo_isRow, pu_b1, pu_01, g_within, mo_in, pu_b1, pu_b1, pu_01, pu_01]
  by_cases hr : 0 ≤ r ∧ r ≤ 7
  · have hr8 : 0 ≤ r ∧ r < 8 := by omega
    rw [if_pos hr, if_pos hr]
    by_cases hl : 0 ≤ l ∧ l ≤ 2
    · rw [if_pos hl, if_pos hl]
      by_cases h1 : 40 < n
      · rw [if_pos h1, if_pos h1]
        exact ⟨_, _, _, rfl, rfl, ivq⟩
      · rw [if_neg h1, if_neg h1, pu_let]
        by_cases h2 : n < 0
        · rw [if_pos h2, if_pos h2]
          exact ⟨_, _, _, rfl, rfl, iv_fd ivq 4⟩
        · unfold f_X4_make
          rw [if_neg h2, if_neg h2, pu_ck hr8, pu_ck hr8, pu_let, pu_let, c_make_17 hr8, pu_b1, pu_b1, pu_let, pu_let, m_row_65 hr8, pu_b1]
          refine ⟨_, _, _, rfl, rfl, iv_rf (iv_st ivq 0) (fcr (fun b hb => by rw [fi_ne (by omega), pu_upa (by omega), pu_upa (by omega)]) 0) (fun b b1 b2 b3 => by rw [fi_ne b3, pu_upa b2, pu_upa b1]) ?_⟩
          intro x x0 x1
          obtain ⟨c1, c2, c3, c4, c5⟩ := h.2.2.2.2.1 x x0 x1
          rw [pu_upa (show (11 : Int) ≠ 0 by omega), pu_upa (show (12 : Int) ≠ 0 by omega), pu_upa (show (3 + x : Int) ≠ 0 by omega), fi_ne (show (11 : Int) ≠ 3 + r by omega), fi_ne (show (12 : Int) ≠ 3 + r by omega), fi_ne (show (1 : Int) ≠ 3 by omega), fi_ne (show (2 : Int) ≠ 3 by omega), pu_upa (show (11 : Int) ≠ 12 by omega), pu_upa (show (1 : Int) ≠ 2 by omega)]
          by_cases hx : x = r
          · subst hx
            rw [pu_ups, pu_ups, pu_ups, pu_ups]
            refine ⟨rfl, by omega, fun _ => rfl, by omega, fun j j0 j1 => ?_⟩
            rw [fi_in (by omega), fi_in (by omega)]
          · rw [pu_upj hx, pu_upj hx, pu_upj hx, pu_upj hx, pu_upj hx, pu_upa (show (2 : Int) ≠ 1 by omega), up44 M (by omega), up44 M (by omega)]
            refine ⟨c1, c2, c3, c4, fun j j0 j1 => ?_⟩
            rw [fi_ne (show (3 + x : Int) ≠ 3 + r by omega), pu_upa (show (3 + x : Int) ≠ 12 by omega), pu_upa (show (3 + x : Int) ≠ 11 by omega), fi_out (by omega), pu_upa (show (3 : Int) ≠ 2 by omega), pu_upa (show (3 : Int) ≠ 1 by omega), up44 M (by omega)]
            exact c5 j j0 j1
    · rw [if_neg hl, if_neg hl]
      exact ⟨_, _, _, rfl, rfl, ivq⟩
  · rw [if_neg hr, if_neg hr]
    exact ⟨_, _, _, rfl, rfl, ivq⟩
