/-! the town as a whole: images -/
theorem iv_mk {C C' M M' : hp_H} (h : iv C M) (hc : ∀ b, (b < 15 ∨ b = 227 ∨ b = 228) → C' b = C b) (hm : ∀ b, (b = 1 ∨ b = 2 ∨ b = 3 ∨ b = 8 ∨ b = 14) → M' b = M b) (hj : ∀ j, j ≠ 0 → j ≠ 9 → M' 0 j = M 0 j) (ht : iv_t C' M') (hz : iv_z M') (ha : iv_a C' M') (hi : iv_i C' M') : iv C' M' := by
  obtain ⟨-, -, -, -, hr, hp, hs, hk⟩ := h
  refine ⟨ht, hz, ha, hi, ?_, ?_, ?_, ?_⟩
  · intro r r0 r1
    rw [hc 11 (by omega), hc 12 (by omega), hc (3 + r) (by omega), hm 1 (by omega), hm 2 (by omega), hm 3 (by omega)]
    exact hr r r0 r1
  · unfold iv_p
    rw [hc 13 (by omega), hc 14 (by omega), hj 11 (by omega) (by omega), hm 8 (by omega)]
    exact hp
  · unfold iv_s
    rw [hc 0 (by omega), hj 18 (by omega) (by omega), hj 1 (by omega) (by omega)]
    exact hs
  · unfold iv_k
    rw [hc 227 (by omega), hc 228 (by omega), hj 25 (by omega) (by omega), hm 14 (by omega)]
    exact hk
theorem m_img_30 {v : Int} (hv : 0 ≤ v ∧ v < 2) (H : hp_H) : f_X8_image_30 1000 v 0 H = some (hp_fill H 13 (41 * v) 0 41 (H 4)) := by
  refine lp_fill (F := fun q k H => f_X8_image_30 q v k H) (src := fun H k => H 4 k) ?_ (fun H k j x => by rw [pu_upa (show (4 : Int) ≠ 13 by omega)]) 1000 0 H (by omega) (by omega) (by omega)
  intro q k H h0 hN
  show f_X8_image_30 (q + 1) v k H = _
  rw [f_X8_image_30]
  by_cases hk : k < 41
  · rw [if_pos hk, if_pos hk, pu_ck (by omega), pu_w (x := 41 * v) (by omega), pu_w (x := 41 * v + k) (by omega), pu_ck (by omega), pu_let, pu_let, pu_w (by omega)]
  · rw [if_neg hk, if_neg hk]
theorem op_image {C M : hp_H} (h : iv C M) (v : Int) : op2 (f_X7_image v C) (f_X8_image v M) := by
  have ivq := iv_q h (fc.rf C) (fm_z h.2.1)
  unfold f_X7_image f_X8_image
  rw [g_within, pu_b1, pu_01, pu_let, mo_in, pu_b1, pu_01, g_stands h.1.1, pu_b1, pu_01, m_there, up4 M (by omega), pu_b1, pu_01]
  by_cases hv : 0 ≤ v ∧ v ≤ 1
  · rw [if_pos hv, if_pos hv]
    by_cases h0 : 0 < M 4 0
    · obtain ⟨hok, hh⟩ := iv_ok h (by omega)
      have a2 := hok.2.2.1
      obtain ⟨C', g1, g2, g3, g4, g5⟩ := to_take (t := 230 + 7 * v) (u := 15) (by unfold ap; omega) C
      have gt := to_take_tr g3 g4 g5 h.1.1 (by omega)
      rw [if_pos h0, if_pos h0, pu_ck (by omega), g1, pu_b1, m_img_30 (by omega), pu_b1, pu_ck (by omega), pu_let]
      have e4 : ∀ b, b ≠ 12 → b ≠ 13 → hp_up (hp_fill (hp_up M 0 0 0) 13 (41 * v) 0 41 (hp_up M 0 0 0 4)) 12 v 1 b = hp_up M 0 0 0 b := fun b b1 b2 => by rw [pu_upa b1, fi_ne b2]
      refine ⟨_, C', _, rfl, rfl, iv_mk ivq (fun b hb => g2 b (by omega)) (fun b hb => e4 b (by omega) (by omega)) (fun j _ _ => by rw [e4 0 (by omega) (by omega)]) ⟨?_, ?_⟩ ?_ ?_ ?_⟩
      · rw [e4 4 (by omega) (by omega)]
        exact tr_fr ivq.1.1 (fun b b1 b2 => g2 b (by omega))
      · rw [e4 4 (by omega) (by omega)]
        exact ivq.1.2
      · intro k hk
        rw [e4 4 (by omega) (by omega), e4 6 (by omega) (by omega)]
        exact ivq.2.1 k hk
      · unfold iv_a
        rw [g2 29 (by omega), e4 0 (by omega) (by omega), e4 7 (by omega) (by omega)]
        obtain ⟨a1, a2, a3, a4⟩ := ivq.2.2.1
        refine ⟨a1, a2, a3, fun i i0 i1 => ?_⟩
        obtain ⟨b1, b2⟩ := a4 i i0 i1
        have hq := sq_tm (h := C 29 1 + i) (d := 24) (by omega) (by omega)
        exact ⟨tr_fr b1 (fun b h1 h2 => g2 b (by omega)), b2⟩
      · intro k k0 k1
        by_cases hk : k = v
        · subst hk
          right
          have e13 : ∀ j, 0 ≤ j → j < 41 → hp_up (hp_fill (hp_up M 0 0 0) 13 (41 * k) 0 41 (hp_up M 0 0 0 4)) 12 k 1 13 (41 * k + j) = M 4 j := fun j j0 j1 => by
            rw [pu_upa (show (13 : Int) ≠ 12 by omega), fi_in (by omega), up4 M (by omega), show 41 * k + j - 41 * k = j by omega]
          have he : sq_eq (M 4) (fun j => hp_up (hp_fill (hp_up M 0 0 0) 13 (41 * k) 0 41 (hp_up M 0 0 0 4)) 12 k 1 13 (41 * k + j)) := fun j j0 j1 => (e13 j j0 j1).symm
          exact ⟨pu_ups _ _ _ _, tr_eq gt he (by omega), sq_ok_eq hok he, by rw [e13 3 (by omega) (by omega)]; exact hh⟩
        · rw [pu_upj hk, fi_ne (show (12 : Int) ≠ 13 by omega), g2 (230 + 7 * k) (by omega), pu_upa (show (13 : Int) ≠ 12 by omega)]
          rcases ivq.2.2.2.1 k k0 k1 with q | ⟨q1, q2, q3⟩
          · exact Or.inl q
          · right
            have he : sq_eq (fun j => hp_up M 0 0 0 13 (41 * k + j)) (fun j => hp_fill (hp_up M 0 0 0) 13 (41 * v) 0 41 (hp_up M 0 0 0 4) 13 (41 * k + j)) := fun j j0 j1 => by
              show _ = hp_fill _ _ _ _ _ _ _ _
              rw [fi_out (by omega)]
            have ok2 := q3.1.2.2.1
            refine ⟨q1, tr_eq (tr_fr q2 (fun b b1 b2 => g2 b (by omega))) he ok2.2, sq_ok_eq q3.1 he, ?_⟩
            rw [fi_out (by omega)]
            exact q3.2
    · rw [if_neg h0, if_neg h0]
      exact ⟨_, _, _, rfl, rfl, ivq⟩
  · rw [if_neg hv, if_neg hv]
    exact ⟨_, _, _, rfl, rfl, ivq⟩
