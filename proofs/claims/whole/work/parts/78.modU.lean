theorem m_un_27 {c : Int} (hc : 0 ≤ c ∧ c < 24) : ∀ (n : Nat) (k : Int) (H : hp_H), 0 ≤ k → k ≤ 41 → (41 - k).toNat < n → H 0 9 = c → f_X8_undo_27 n k H = some (hp_fill H 4 0 k 41 (fun k => H 7 (41 * c + k))) := by
  intro n
  induction n with
  | zero => intro k H _ _ h; omega
  | succ n ih =>
    intro k H k0 k1 hn h9
    rw [f_X8_undo_27, h9]
    by_cases hk : k < 41
    · rw [if_pos hk, pu_w (x := 41 * c) (by omega), pu_w (x := 41 * c + k) (by omega), pu_ck (by omega), pu_ck (by omega), pu_let, pu_let, pu_w (by omega), ih (k + 1) _ (by omega) (by omega) (by omega) (by rw [pu_upa (by omega)]; exact h9)]
      congr 1
      funext b j
      unfold hp_fill
      by_cases hb : b = 4 ∧ 0 + k ≤ j ∧ j < 0 + 41
      · rw [if_pos hb]
        by_cases hj : j = k
        · rw [if_neg (by omega), pu_up, if_pos ⟨hb.1, hj⟩, hj, Int.sub_zero]
        · rw [if_pos (by omega), pu_upa (show (7 : Int) ≠ 4 by omega)]
      · rw [if_neg hb, if_neg (by omega), pu_up, if_neg (by omega)]
    · rw [if_neg hk]
      congr 1
      funext b j
      unfold hp_fill
      rw [if_neg (by omega)]
theorem op_undo {C M : hp_H} (h : iv C M) : op2 (f_X7_undo C) (f_X8_undo M) := by
  have ivq := iv_q h (fc.rf C) (fm_z h.2.1)
  obtain ⟨a1, a2, a3, a4⟩ := h.2.2.1
  unfold f_X7_undo f_X8_undo f_X0_takeBack f_X0_size
  rw [pu_let, pu_let, a1, pu_upj (show (9 : Int) ≠ 0 by omega)]
  by_cases h0 : M 0 9 = 0
  · rw [if_pos h0, if_pos h0, pu_b2, if_pos rfl]
    exact ⟨_, _, _, rfl, rfl, ivq⟩
  · obtain ⟨b1, b2, b3⟩ := a4 (M 0 9 - 1) (by omega) (by omega)
    have hq := sq_tm (h := C 29 1 + (M 0 9 - 1)) (d := 24) (by omega) (by omega)
    obtain ⟨C', g1, g2, g3, g4, g5⟩ := to_take (t := 15) (u := 31 + 7 * (C 29 1 + (M 0 9 - 1)).tmod 24) (by unfold ap; omega) (hp_up C 29 2 (M 0 9 - 1))
    have gt := to_take_tr g3 g4 g5 (tr_fr b1 (fun b h1 h2 => pu_upa (by omega))) b2.2.2.1.2
    rw [if_neg h0, if_neg h0, pu_w (x := M 0 9 - 1) (by omega), pu_let, pu_upj (show (1 : Int) ≠ 2 by omega), pu_ups, pu_w (x := C 29 1 + (M 0 9 - 1)) (by omega), pu_ck hq, g1, pu_b1, pu_b2, if_neg (show ¬ (1 : Int) = 0 by omega), pu_b1, m_un_27 (c := M 0 9 - 1) (by omega) 1000 0 _ (by omega) (by omega) (by omega) (pu_ups _ _ _ _), pu_b1]
    have e4 : ∀ b, b ≠ 4 → hp_fill (hp_up (hp_up M 0 0 0) 0 9 (M 0 9 - 1)) 4 0 0 41 (fun k => hp_up (hp_up M 0 0 0) 0 9 (M 0 9 - 1) 7 (41 * (M 0 9 - 1) + k)) b = hp_up (hp_up M 0 0 0) 0 9 (M 0 9 - 1) b := fun b b1 => fi_ne b1
    have ez : ∀ b, b ≠ 0 → hp_up (hp_up M 0 0 0) 0 9 (M 0 9 - 1) b = M b := fun b hb => by rw [pu_upa hb, pu_upa hb]
    have he : sq_eq (fun k => M 7 (41 * (M 0 9 - 1) + k)) (hp_fill (hp_up (hp_up M 0 0 0) 0 9 (M 0 9 - 1)) 4 0 0 41 (fun k => hp_up (hp_up M 0 0 0) 0 9 (M 0 9 - 1) 7 (41 * (M 0 9 - 1) + k)) 4) := fun j j0 j1 => by
      rw [fi_in (by omega), ez 7 (by omega), Int.sub_zero]
    have c29 : C' 29 = hp_up C 29 2 (M 0 9 - 1) 29 := g2 29 (by omega)
    refine ⟨M 0 9 - 1, C', hp_fill (hp_up (hp_up M 0 0 0) 0 9 (M 0 9 - 1)) 4 0 0 41 (fun k => hp_up (hp_up M 0 0 0) 0 9 (M 0 9 - 1) 7 (41 * (M 0 9 - 1) + k)), ?_, ?_, iv_mk ivq (fun b hb => by rw [g2 b (by omega), pu_upa (by omega)]) (fun b hb => by rw [e4 b (by omega), ez b (by omega), up4 M (by omega)]) (fun j j0 j9 => by rw [e4 0 (by omega), pu_upj j9]) ⟨?_, ?_⟩ ?_ ?_ ?_⟩
    · rw [c29, pu_ups]
    · rw [e4 0 (by omega), pu_ups]
    · exact tr_eq gt he b2.2.2.1.2
    · exact Or.inl ⟨sq_ok_eq b2 he, by rw [← he 3 (by omega) (by omega)]; exact b3⟩
    · intro k hk
      rw [e4 6 (by omega), ez 6 (by omega), fi_out (by omega), ez 4 (by omega)]
      exact h.2.1 k hk
    · unfold iv_a
      rw [c29, pu_ups, pu_upj (show (1 : Int) ≠ 2 by omega), e4 0 (by omega), pu_ups, e4 7 (by omega), ez 7 (by omega)]
      refine ⟨rfl, by omega, a3, fun i i0 i1 => ?_⟩
      obtain ⟨d1, d2⟩ := a4 i i0 (by omega)
      have hq := sq_tm (h := C 29 1 + i) (d := 24) (by omega) (by omega)
      exact ⟨tr_fr d1 (fun b h1 h2 => by rw [g2 b (by omega), pu_upa (by omega)]), d2⟩
    · intro k k0 k1
      rw [e4 12 (by omega), e4 13 (by omega), ez 12 (by omega), ez 13 (by omega), g2 (230 + 7 * k) (by omega), pu_upa (by omega)]
      rcases h.2.2.2.1 k k0 k1 with q | ⟨q1, q2, q3⟩
      · exact Or.inl q
      · exact Or.inr ⟨q1, tr_fr q2 (fun b b1 b2 => by rw [g2 b (by omega), pu_upa (by omega)]), q3⟩
