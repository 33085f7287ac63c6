theorem m_res_32 {v : Int} (hv : 0 ≤ v ∧ v < 2) (H : hp_H) : f_X8_restore_32 1000 v 0 H = some (hp_fill H 4 0 0 41 (fun k => H 13 (41 * v + k))) := by
  refine lp_fill (F := fun q k H => f_X8_restore_32 q v k H) (src := fun H k => H 13 (41 * v + k)) ?_ (fun H k j x => by rw [pu_upa (show (13 : Int) ≠ 4 by omega)]) 1000 0 H (by omega) (by omega) (by omega)
  intro q k H h0 hN
  show f_X8_restore_32 (q + 1) v k H = _
  rw [f_X8_restore_32]
  by_cases hk : k < 41
  · rw [if_pos hk, if_pos hk, pu_w (x := 41 * v) (by omega), pu_w (x := 41 * v + k) (by omega), pu_ck (by omega), pu_ck (by omega), pu_let, pu_let, pu_w (by omega), Int.zero_add]
  · rw [if_neg hk, if_neg hk]
theorem op_restore {C M : hp_H} (h : iv C M) (v : Int) : op2 (f_X7_restore v C) (f_X8_restore v M) := by
  have ivq := iv_q h (fc.rf C) (fm_z h.2.1)
  unfold f_X7_restore f_X8_restore f_X6_stands
  rw [g_within, pu_b1, pu_01, pu_let, mo_in, pu_b1, pu_01]
  by_cases hv : 0 ≤ v ∧ v ≤ 1
  · have hv2 : 0 ≤ v ∧ v < 2 := by omega
    rw [if_pos hv, if_pos hv, pu_ck hv2, pu_ck hv2, up4 M (by omega)]
    rcases h.2.2.2.1 v hv2.1 hv2.2 with ⟨q1, q2⟩ | ⟨q1, q2, q3, q4⟩
    · rw [q1, q2, if_pos rfl, if_neg (show ¬ (0 : Int) < 0 by omega), pu_b1, if_pos rfl]
      exact ⟨_, _, _, rfl, rfl, ivq⟩
    · have c0 : 0 < C (230 + 7 * v) 0 := by
        have := q3.1
        rw [q2.1]
        omega
      obtain ⟨C', g1, g2, g3, g4, g5⟩ := to_take (t := 15) (u := 230 + 7 * v) (by unfold ap; omega) C
      have gt := to_take_tr g3 g4 g5 q2 q3.2.2.1.2
      unfold f_X0_forget
      rw [q1, if_neg (show ¬ (1 : Int) = 0 by omega), if_pos c0, pu_b1, if_neg (show ¬ (1 : Int) = 0 by omega), g1, pu_b1, m_res_32 hv2, pu_b1, pu_let, pu_let, pu_let, pu_b1]
      have ec : ∀ b, b ≠ 29 → hp_up (hp_up C' 29 1 0) 29 2 0 b = C' b := fun b hb => by rw [pu_upa hb, pu_upa hb]
      have e4 : ∀ b, b ≠ 4 → hp_fill (hp_up M 0 0 0) 4 0 0 41 (fun k => hp_up M 0 0 0 13 (41 * v + k)) b = hp_up M 0 0 0 b := fun b b1 => fi_ne b1
      have em : ∀ b, b ≠ 0 → hp_up (hp_fill (hp_up M 0 0 0) 4 0 0 41 (fun k => hp_up M 0 0 0 13 (41 * v + k))) 0 9 0 b = hp_fill (hp_up M 0 0 0) 4 0 0 41 (fun k => hp_up M 0 0 0 13 (41 * v + k)) b := fun b hb => pu_upa hb
      have he : sq_eq (fun j => M 13 (41 * v + j)) (hp_fill (hp_up M 0 0 0) 4 0 0 41 (fun k => hp_up M 0 0 0 13 (41 * v + k)) 4) := fun j j0 j1 => by
        rw [fi_in (by omega), up4 M (by omega), Int.sub_zero]
      refine ⟨_, _, _, rfl, rfl, iv_mk ivq (fun b hb => by rw [ec b (by omega), g2 b (by omega)]) (fun b hb => by rw [em b (by omega), e4 b (by omega)]) (fun j j0 j9 => by rw [pu_upj j9, e4 0 (by omega)]) ⟨?_, ?_⟩ ?_ ?_ ?_⟩
      · rw [em 4 (by omega)]
        exact tr_eq (tr_fr gt (fun b b1 b2 => ec b (by omega))) he q3.2.2.1.2
      · rw [em 4 (by omega)]
        exact Or.inl ⟨sq_ok_eq q3 he, by rw [← he 3 (by omega) (by omega)]; exact q4⟩
      · intro k hk
        rw [em 4 (by omega), em 6 (by omega), e4 6 (by omega), fi_out (by omega)]
        exact ivq.2.1 k hk
      · refine ⟨by rw [pu_ups, pu_ups], by rw [pu_ups]; omega, ?_, fun i i0 i1 => by rw [pu_ups] at i1; omega⟩
        rw [pu_upj (show (1 : Int) ≠ 2 by omega), pu_ups]
        omega
      · intro k k0 k1
        rw [em 12 (by omega), em 13 (by omega), e4 12 (by omega), e4 13 (by omega), ec (230 + 7 * k) (by omega), g2 (230 + 7 * k) (by omega)]
        rcases ivq.2.2.2.1 k k0 k1 with q | ⟨q1, q2, q3⟩
        · exact Or.inl q
        · exact Or.inr ⟨q1, tr_fr q2 (fun b b1 b2 => by rw [ec b (by omega), g2 b (by omega)]), q3⟩
  · rw [if_neg hv, if_neg hv]
    exact ⟨_, _, _, rfl, rfl, ivq⟩
