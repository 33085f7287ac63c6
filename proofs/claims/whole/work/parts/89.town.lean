/-! the town that is told -/
theorem m_tn_126 (H : hp_H) : f_X8_town_126 1000 0 H = some (hp_fill H 4 0 0 41 (H 5)) := by
  refine lp_fill (F := fun q k H => f_X8_town_126 q k H) (src := fun H k => H 5 k) ?_ (fun H k j x => by rw [pu_upa (show (5 : Int) ≠ 4 by omega)]) 1000 0 H (by omega) (by omega) (by omega)
  intro q k H h0 hN
  show f_X8_town_126 (q + 1) k H = _
  rw [f_X8_town_126]
  by_cases hk : k < 41
  · rw [if_pos hk, if_pos hk, pu_ck (by omega), pu_let, pu_let, pu_w (by omega), Int.zero_add]
  · rw [if_neg hk, if_neg hk]
theorem m_tn_11 (H : hp_H) : f_X8_town_11 1000 0 H = some (hp_fill H 5 0 0 41 (fun _ => 0)) := by
  refine lp_fill (F := fun q k H => f_X8_town_11 q k H) (src := fun _ _ => 0) ?_ (fun H k j x => rfl) 1000 0 H (by omega) (by omega) (by omega)
  intro q k H h0 hN
  show f_X8_town_11 (q + 1) k H = _
  rw [f_X8_town_11]
  by_cases hk : k < 41
  · rw [if_pos hk, if_pos hk, pu_ck (by omega), pu_let, pu_let, pu_w (by omega), Int.zero_add]
  · rw [if_neg hk, if_neg hk]
theorem iv_rd {C C' M M' : hp_H} (h : iv C M) (hc : ∀ b, b ≠ 0 → b ≠ 13 → (b < 22 ∨ 28 < b) → C' b = C b) (hm : ∀ b, b ≠ 0 → b ≠ 5 → M' b = M b) (hj : ∀ j, j ≠ 0 → (j < 11 ∨ 18 < j) → M' 0 j = M 0 j) (h13 : C' 13 1 = 0) (h11 : M' 0 11 = 0) (h9 : C' 0 9 = M' 0 18) (h10 : C' 0 10 = C 0 10) : iv C' M' := by
  obtain ⟨ht, hz, ha, hi, hr, hp, hs, hk⟩ := h
  have e4 := hm 4 (by omega) (by omega)
  refine ⟨⟨?_, ?_⟩, ?_, ?_, ?_, ?_, ?_, ?_, ?_⟩
  · rw [e4]; exact tr_fr ht.1 (fun b b1 b2 => hc b (by omega) (by omega) (by omega))
  · rw [e4]; exact ht.2
  · intro k hk; rw [e4, hm 6 (by omega) (by omega)]; exact hz k hk
  · unfold iv_a
    rw [hc 29 (by omega) (by omega) (by omega), hj 9 (by omega) (by omega), hm 7 (by omega) (by omega)]
    obtain ⟨a1, a2, a3, a4⟩ := ha
    refine ⟨a1, a2, a3, fun i i0 i1 => ?_⟩
    obtain ⟨b1, b2⟩ := a4 i i0 i1
    have hq := sq_tm (h := C 29 1 + i) (d := 24) (by omega) (by omega)
    exact ⟨tr_fr b1 (fun b h1 h2 => hc b (by omega) (by omega) (by omega)), b2⟩
  · intro k k0 k1
    rw [hm 12 (by omega) (by omega), hm 13 (by omega) (by omega), hc (230 + 7 * k) (by omega) (by omega) (by omega)]
    rcases hi k k0 k1 with h | ⟨h1, h2, h3⟩
    · exact Or.inl h
    · exact Or.inr ⟨h1, tr_fr h2 (fun b g1 g2 => hc b (by omega) (by omega) (by omega)), h3⟩
  · intro r r0 r1
    rw [hc 11 (by omega) (by omega) (by omega), hc 12 (by omega) (by omega) (by omega), hc (3 + r) (by omega) (by omega) (by omega), hm 1 (by omega) (by omega), hm 2 (by omega) (by omega), hm 3 (by omega) (by omega)]
    exact hr r r0 r1
  · unfold iv_p
    rw [h13, h11]
    exact ⟨rfl, by omega, fun i i0 i1 => by omega⟩
  · unfold iv_s
    rw [h9, h10, hj 1 (by omega) (by omega)]
    exact ⟨rfl, hs.2⟩
  · unfold iv_k
    rw [hc 227 (by omega) (by omega) (by omega), hc 228 (by omega) (by omega) (by omega), hj 25 (by omega) (by omega), hm 14 (by omega) (by omega)]
    exact hk
def tl_c (c2 : Int) (H3 : hp_H) : Option (Int × hp_H) := hp_b1 (f_X5_clear H3) (fun H5 => if c2 = 0 then hp_b1 (f_X6_take 15 22 H5) (fun H8 => hp_b1 (f_X0_forget H8) (fun H10 => some ((H10 15 2), H10))) else hp_let (hp_up H5 0 9 c2) (fun H11 => hp_b1 (f_X5_faultPlace H11) (fun c13 => some ((hp_w ((-1000100) - c13)), H11))))
def tl_m (M : hp_H) : Option (Int × hp_H) := hp_b2 (f_X8_failed M) (fun c34 H35 => if c34 = 0 then hp_let (hp_up H35 0 9 0) (fun H37 => hp_b1 (f_X8_town_126 1000 0 H37) (fun H42 => some ((H42 4 2), H42))) else some ((hp_w ((-1000100) - (H35 0 17))), H35))
theorem m_failF {M : hp_H} (h : 0 < M 0 16) : (hp_let (hp_up M 0 11 0) (fun H3 => hp_let ((if 0 < (H3 0 16) then (H3 0 16) else (H3 0 18)) : Int) (fun m4 => hp_let (hp_up H3 0 18 m4) (fun H5 => if 0 < (H5 0 16) then some ((1 : Int), H5) else some (0, H5))))) = some (1, hp_up (hp_up M 0 11 0) 0 18 (M 0 16)) := by
  rw [pu_let, pu_let, pu_let, pu_upj (show (16 : Int) ≠ 11 by omega), if_pos h, pu_upj (show (16 : Int) ≠ 18 by omega), pu_upj (show (16 : Int) ≠ 11 by omega), if_pos h]
theorem tl_bad {C0 M0 C M1 : hp_H} (h0 : iv C0 M0) (hz : rz C0 C M0 M1) (h1 : 0 < M1 0 16) (h2 : C 13 3 = M1 0 16) (h3 : C 13 4 = M1 0 17) : ∃ x C' M', tl_c (C 13 3) C = some (x, C') ∧ (hp_w ((-1000100) - (hp_up (hp_up M1 0 11 0) 0 18 (M1 0 16) 0 17)), hp_up (hp_up M1 0 11 0) 0 18 (M1 0 16)) = (x, M') ∧ iv C' M' := by
  unfold tl_c f_X5_clear f_X5_faultPlace
  rw [pu_let, pu_b1, if_neg (by omega), pu_let, pu_b1, pu_upa (show (13 : Int) ≠ 0 by omega), pu_upj (show (4 : Int) ≠ 1 by omega), h3, pu_upj (show (17 : Int) ≠ 18 by omega), pu_upj (show (17 : Int) ≠ 11 by omega)]
  refine ⟨_, _, _, rfl, rfl, iv_rd h0 (fun b b0 b13 hb => by rw [pu_upa b0, pu_upa b13, hz.1 b b13 hb]) (fun b b0 b5 => by rw [pu_upa b0, pu_upa b0, hz.2.1 b b0 b5]) (fun j j0 hj => by rw [pu_upj (by omega), pu_upj (by omega), hz.2.2 j (by omega)]) (by rw [pu_upa (by omega), pu_ups]) (by rw [pu_upj (by omega), pu_ups]) (by rw [pu_ups, pu_ups]; exact h2) (by rw [pu_upj (by omega), pu_upa (by omega), hz.1 0 (by omega) (by omega)])⟩
theorem rt_ok {C M : hp_H} (h : rt C M) (h1 : 1 ≤ M 5 2) : sq_ok (M 5) := by
  obtain ⟨-, ⟨s3, s4⟩, s5, s0, s1, s2, s6⟩ := h
  exact ⟨s0, s1, by omega, by omega, by omega, fun l l0 l4 => ⟨Or.inl (s5 l l0 l4), fun q => by have := s5 l l0 l4; omega⟩, s6⟩
theorem tn_end {C0 M0 C M : hp_H} (h0 : iv C0 M0) (hz : rz C0 C M0 M) (he : en C M) : op2 (tl_c (C 13 3) C) (tl_m M) := by
  unfold tl_m f_X8_failed
  rcases he with ⟨e1, e2, e3, e4, e5⟩ | ⟨e1, e2, e3, e4⟩ | ⟨e1, e2, e3, e4⟩
  · have hok := rt_ok e4 e5
    have c09 : C 0 = C0 0 := hz.1 0 (by omega) (by omega)
    have ivq : iv (hp_up C 13 1 0) (hp_up (hp_up M 0 11 0) 0 18 (M 0 18)) := iv_rd h0 (fun b b0 b13 hb => by rw [pu_upa b13, hz.1 b b13 hb]) (fun b b0 b5 => by rw [pu_upa b0, pu_upa b0, hz.2.1 b b0 b5]) (fun j j0 hj => by rw [pu_upj (by omega), pu_upj (by omega), hz.2.2 j (by omega)]) (pu_ups _ _ _ _) (by rw [pu_upj (by omega), pu_ups]) (by rw [pu_ups, pu_upa (by omega), c09, hz.2.2 18 (by omega)]; exact h0.2.2.2.2.2.2.1.1) (by rw [pu_upa (by omega), c09])
    rw [if_pos e2, if_pos e3, pu_b1, pu_let, pu_let, pu_let, pu_upj (show (16 : Int) ≠ 11 by omega), e2, if_neg (show ¬ (0 : Int) < 0 by omega), pu_upj (show (18 : Int) ≠ 11 by omega), pu_upj (show (16 : Int) ≠ 18 by omega), pu_upj (show (16 : Int) ≠ 11 by omega), e2, if_neg (show ¬ (0 : Int) < 0 by omega), pu_b2, if_pos rfl, pu_let, m_tn_126, pu_b1]
    unfold tl_c f_X5_clear f_X0_forget
    rw [pu_let, pu_b1, if_pos e1]
    have t22 : tr (hp_up C 13 1 0) 22 (M 5) := tr_fr e4.1 (fun b _ _ => pu_upa (by omega))
    have m5 : hp_up (hp_up M 0 11 0) 0 18 (M 0 18) 5 = M 5 := by rw [pu_upa (by omega), pu_upa (by omega)]
    generalize hp_up C 13 1 0 = D at ivq t22 ⊢
    generalize hp_up (hp_up M 0 11 0) 0 18 (M 0 18) = N at ivq m5 ⊢
    obtain ⟨C', g1, g2, g3, g4, g5⟩ := to_take (t := 15) (u := 22) (by unfold ap; omega) D
    have gt := to_take_tr g3 g4 g5 t22 hok.2.2.1.2
    rw [g1, pu_b1, pu_let, pu_let, pu_b1]
    have ec : ∀ b, b ≠ 29 → hp_up (hp_up C' 29 1 0) 29 2 0 b = C' b := fun b hb => by rw [pu_upa hb, pu_upa hb]
    have n5 : hp_up N 0 9 0 5 = M 5 := by rw [pu_upa (by omega), m5]
    have e4' : ∀ b, b ≠ 0 → b ≠ 4 → hp_fill (hp_up N 0 9 0) 4 0 0 41 (hp_up N 0 9 0 5) b = N b := fun b b0 b4 => by rw [fi_ne b4, pu_upa b0]
    have he : sq_eq (M 5) (hp_fill (hp_up N 0 9 0) 4 0 0 41 (hp_up N 0 9 0 5) 4) := fun j j0 j1 => by
      rw [fi_in (by omega), n5, Int.sub_zero]
    refine ⟨M 5 2, hp_up (hp_up C' 29 1 0) 29 2 0, hp_fill (hp_up N 0 9 0) 4 0 0 41 (hp_up N 0 9 0 5), ?_, ?_, iv_mk ivq (fun b hb => by rw [ec b (by omega), g2 b (by omega)]) (fun b hb => e4' b (by omega) (by omega)) (fun j j0 j9 => by rw [fi_ne (by omega), pu_upj j9]) ⟨?_, ?_⟩ ?_ ?_ ?_⟩
    · rw [ec 15 (by omega), gt.2.2.1]
    · rw [← he 2 (by omega) (by omega)]
    · exact tr_eq (tr_fr gt (fun b b1 b2 => ec b (by omega))) he hok.2.2.1.2
    · exact Or.inl ⟨sq_ok_eq hok he, by rw [← he 3 (by omega) (by omega), e4.2.1.1]; omega⟩
    · intro k hk
      rw [e4' 6 (by omega) (by omega), fi_out (by omega), pu_upa (by omega)]
      exact ivq.2.1 k hk
    · unfold iv_a
      rw [pu_ups, pu_upj (show (1 : Int) ≠ 2 by omega), pu_ups, fi_ne (show (0 : Int) ≠ 4 by omega), pu_ups]
      exact ⟨rfl, by omega, by omega, fun i i0 i1 => by omega⟩
    · intro k k0 k1
      rw [e4' 12 (by omega) (by omega), e4' 13 (by omega) (by omega), ec (230 + 7 * k) (by omega), g2 (230 + 7 * k) (by omega)]
      rcases ivq.2.2.2.1 k k0 k1 with q | ⟨q1, q2, q3⟩
      · exact Or.inl q
      · exact Or.inr ⟨q1, tr_fr q2 (fun b b1 b2 => by rw [ec b (by omega), g2 b (by omega)]), q3⟩
  · obtain ⟨x, C', M', w1, w2, w3⟩ := tl_bad h0 hz e2 e3 e4
    rw [if_neg e1, pu_b1, m_failF e2, pu_b2, if_neg (show ¬ (1 : Int) = 0 by omega), w2]
    exact ⟨x, C', M', w1, rfl, w3⟩
  · unfold f_X8_bad
    have f16 : hp_up (hp_up M 0 16 1) 0 17 (M 0 13) 0 16 = 1 := by rw [pu_upj (by omega), pu_ups]
    have f17 : hp_up (hp_up M 0 16 1) 0 17 (M 0 13) 0 17 = M 0 13 := pu_ups _ _ _ _
    have hz2 : rz C0 C M0 (hp_up (hp_up M 0 16 1) 0 17 (M 0 13)) := ⟨hz.1, fun b b0 b5 => by rw [pu_upa b0, pu_upa b0, hz.2.1 b b0 b5], fun j hj => by rw [pu_upj (by omega), pu_upj (by omega), hz.2.2 j hj]⟩
    rw [if_pos e1, if_neg e2, if_pos e1, pu_let, pu_let, pu_upj (show (13 : Int) ≠ 16 by omega), pu_b1, pu_b1]
    generalize hp_up (hp_up M 0 16 1) 0 17 (M 0 13) = M1 at f16 f17 hz2 ⊢
    obtain ⟨x, C', M', w1, w2, w3⟩ := tl_bad h0 hz2 (by omega) (by omega) (by omega)
    rw [m_failF (by omega), pu_b2, if_neg (show ¬ (1 : Int) = 0 by omega), w2]
    exact ⟨x, C', M', w1, rfl, w3⟩
theorem rd_oth {B : Int} {C C' M M' : hp_H} (h : rd B C M) (h1 : C' 13 = C 13) (h2 : C' 14 = C 14) (h3 : M' 0 = M 0) (h4 : M' 8 = M 8) : rd B C' M' := by
  unfold rd iv_p
  rw [h1, h2, h3, h4]
  exact h
theorem op_town {C M : hp_H} (h : iv C M) : op2 (f_X7_town C) (f_X8_town M) := by
  have ivq := iv_q h (fc.rf C) (fm_z h.2.1)
  unfold f_X7_town f_X8_town f_X5_read f_X8_startUp f_X6_clear
  rw [pu_let (hp_up M 0 0 0)]
  generalize hp_up M 0 0 0 = N at ivq ⊢
  obtain ⟨p1, p2, p3⟩ := ivq.2.2.2.2.2.1
  -- the reference begins
  have a12 : hp_up (hp_up N 0 12 0) 0 16 0 0 12 = 0 := by rw [pu_upj (by omega), pu_ups]
  have a16 : hp_up (hp_up N 0 12 0) 0 16 0 0 16 = 0 := pu_ups _ _ _ _
  have aj : ∀ j, j ≠ 12 → j ≠ 16 → hp_up (hp_up N 0 12 0) 0 16 0 0 j = N 0 j := fun j j1 j2 => by rw [pu_upj j2, pu_upj j1]
  have ab : ∀ b, b ≠ 0 → hp_up (hp_up N 0 12 0) 0 16 0 b = N b := fun b hb => by rw [pu_upa hb, pu_upa hb]
  rw [pu_let (hp_up N 0 12 0), pu_let (hp_up (hp_up N 0 12 0) 0 16 0)]
  generalize hp_up (hp_up N 0 12 0) 0 16 0 = N1 at a12 a16 aj ab ⊢
  have a11 := aj 11 (by omega) (by omega)
  have a8 := ab 8 (by omega)
  obtain ⟨N2, u1, u2, u3, u4, u5⟩ := nt_tok (H := N1) (by omega) (by omega) (by omega) (fun i i0 i1 => by rw [a8]; exact (p3 i i0 (by omega)).2)
  rw [u1, pu_b1, pu_b1, m_tn_11, pu_b1]
  have f5 : ∀ b, b ≠ 5 → hp_fill N2 5 0 0 41 (fun _ => 0) b = N2 b := fun b hb => fi_ne hb
  have f5z : ∀ k, 0 ≤ k → k < 41 → hp_fill N2 5 0 0 41 (fun _ => 0) 5 k = 0 := fun k k0 k1 => fi_in (by omega)
  generalize hp_fill N2 5 0 0 41 (fun _ => 0) = N3 at f5 f5z ⊢
  have n0 := f5 0 (by omega)
  have n8 : N3 8 = N 8 := by rw [f5 8 (by omega), u2 8 (by omega), a8]
  have n11 : N3 0 11 = N 0 11 := by rw [n0, u3 11 (by omega), a11]
  have n16 : N3 0 16 = 0 := by rw [n0, u3 16 (by omega), a16]
  -- the class begins
  have b1 : ∀ j, j ≠ 2 → j ≠ 3 → hp_up (hp_up C 13 2 0) 13 3 0 13 j = C 13 j := fun j j1 j2 => by rw [pu_upj j2, pu_upj j1]
  have b2 : hp_up (hp_up C 13 2 0) 13 3 0 13 2 = 0 := by rw [pu_upj (by omega), pu_ups]
  have b3 : hp_up (hp_up C 13 2 0) 13 3 0 13 3 = 0 := pu_ups _ _ _ _
  have bb : ∀ b, b ≠ 13 → hp_up (hp_up C 13 2 0) 13 3 0 b = C b := fun b hb => by rw [pu_upa hb, pu_upa hb]
  rw [pu_let (hp_up C 13 2 0), pu_let (hp_up (hp_up C 13 2 0) 13 3 0)]
  generalize hp_up (hp_up C 13 2 0) 13 3 0 = C1 at b1 b2 b3 bb ⊢
  rw [pu_let (hp_up C1 22 0 0), pu_let (hp_up (hp_up C1 22 0 0) 22 1 0), pu_let (hp_up (hp_up (hp_up C1 22 0 0) 22 1 0) 22 2 0), pu_let (hp_up (hp_up (hp_up (hp_up C1 22 0 0) 22 1 0) 22 2 0) 22 3 0), pu_let (hp_up (hp_up (hp_up (hp_up (hp_up C1 22 0 0) 22 1 0) 22 2 0) 22 3 0) 22 4 0), pu_let (hp_up (hp_up (hp_up (hp_up (hp_up (hp_up C1 22 0 0) 22 1 0) 22 2 0) 22 3 0) 22 4 0) 22 5 0), pu_b1]
  have cb : ∀ b, b ≠ 22 → hp_up (hp_up (hp_up (hp_up (hp_up (hp_up C1 22 0 0) 22 1 0) 22 2 0) 22 3 0) 22 4 0) 22 5 0 b = C1 b := fun b hb => by rw [pu_upa hb, pu_upa hb, pu_upa hb, pu_upa hb, pu_upa hb, pu_upa hb]
  have cz : ∀ j, 0 ≤ j → j < 6 → hp_up (hp_up (hp_up (hp_up (hp_up (hp_up C1 22 0 0) 22 1 0) 22 2 0) 22 3 0) 22 4 0) 22 5 0 22 j = 0 := fun j j0 j6 => by
    simp only [pu_up, true_and]
    (repeat' split) <;> omega
  generalize hp_up (hp_up (hp_up (hp_up (hp_up (hp_up C1 22 0 0) 22 1 0) 22 2 0) 22 3 0) 22 4 0) 22 5 0 = C2 at cb cz ⊢
  have c13 : C2 13 = C1 13 := cb 13 (by omega)
  have c14 : C2 14 = C 14 := by rw [cb 14 (by omega), bb 14 (by omega)]
  have r0 : rd 120 C2 N3 := by
    refine ⟨?_, by rw [c13, b2]; omega, by rw [c13, b3, n16], by omega, fun _ => ⟨by rw [c13, b2, n0, u4, a12], by rw [c13, b2, n11]; omega, ?_⟩, fun q => absurd n16 q⟩
    · unfold iv_p
      rw [c13, c14, n11, n8, b1 1 (by omega) (by omega)]
      exact ⟨p1, p2, p3⟩
    · rw [a12, a8, a11] at u5
      rw [c13, b2, n8, n11, n0]
      exact u5
  have z0 : rz C C2 N N3 := ⟨fun b b13 hb => by rw [cb b (by omega), bb b b13], fun b b0 b5 => by rw [f5 b b5, u2 b b0, ab b b0], fun j hj => by rw [n0, u3 j (by omega), aj j (by omega) (by omega)]⟩
  -- what stands ahead of the people
  obtain ⟨x, C3, N4, d1, d2, d3, d4, d5⟩ := st_t r0 (by omega)
  obtain ⟨v1, w1, C4, N5, e1, e2, e3, e4, e5⟩ := st_number (lo := 2) (hi := 9) (hi' := 9) d5 (by omega) (fun _ => rfl)
  have r4 : rd (120 + 1 + 3) (hp_up C4 22 0 v1) (hp_up N5 5 0 w1) := rd_oth e4 (pu_upa (by omega)) (pu_upa (by omega)) (pu_upa (by omega)) (pu_upa (by omega))
  obtain ⟨C5, N6, g1, g2, g3, g4⟩ := st_sign (v := 44) r4 (by omega) (Or.inl rfl)
  obtain ⟨v2, w2, C6, N7, i1, i2, i3, i4, i5⟩ := st_number (lo := 4) (hi := 24) (hi' := 24) g4 (by omega) (fun _ => rfl)
  have r6 : rd (120 + 1 + 3 + 1 + 3) (hp_up C6 22 1 v2) (hp_up N7 5 1 w2) := rd_oth i4 (pu_upa (by omega)) (pu_upa (by omega)) (pu_upa (by omega)) (pu_upa (by omega))
  obtain ⟨C7, N8, j1, j2, j3, j4⟩ := st_sign (v := 59) r6 (by omega) (Or.inr rfl)
  rw [d1, pu_b1, d2, pu_b1, d3, pu_b1, e1, pu_b2, e2, pu_b2, pu_let (hp_up C4 22 0 v1), pu_let (hp_up N5 5 0 w1), g1, pu_b1, g2, pu_b1, i1, pu_b2, i2, pu_b2, pu_let (hp_up C6 22 1 v2), pu_let (hp_up N7 5 1 w2), j1, pu_b1, j2, pu_b1]
  have z1 : rz C C7 N N8 := by
    refine ⟨fun b b13 hb => ?_, fun b b0 b5 => ?_, fun j hj => ?_⟩
    · rw [j3.1 b b13, pu_upa (by omega), i3.1 b b13, g3.1 b b13, pu_upa (by omega), e3.1 b b13, d4.1 b b13, z0.1 b b13 hb]
    · rw [j3.2.2.1 b b0, pu_upa b5, i3.2.2.1 b b0, g3.2.2.1 b b0, pu_upa b5, e3.2.2.1 b b0, d4.2.2.1 b b0, z0.2.1 b b0 b5]
    · rw [j3.2.2.2.1 j hj, pu_upa (by omega), i3.2.2.2.1 j hj, g3.2.2.2.1 j hj, pu_upa (by omega), e3.2.2.2.1 j hj, d4.2.2.2.1 j hj, z0.2.2 j hj]
  have hrt : N8 0 16 = 0 → rt C7 N8 ∧ N8 5 2 = 0 := fun q => by
    have q7 : N7 0 16 = 0 := by have := j3.nf q; rw [pu_upa (by omega)] at this; exact this
    have q6 := i3.nf q7
    have q5 : N5 0 16 = 0 := by have := g3.nf q6; rw [pu_upa (by omega)] at this; exact this
    obtain ⟨x1, x2, x3⟩ := e5 q5
    obtain ⟨y1, y2, y3⟩ := i5 q7
    have k22 : ∀ j, C7 22 j = if j = 1 then v2 else if j = 0 then v1 else C2 22 j := fun j => by
      rw [j3.1 22 (by omega), pu_up, i3.1 22 (by omega), g3.1 22 (by omega), pu_up, e3.1 22 (by omega), d4.1 22 (by omega)]
      simp only [true_and]
    have k5 : ∀ j, N8 5 j = if j = 1 then v2 else if j = 0 then v1 else N3 5 j := fun j => by
      rw [j3.2.2.1 5 (by omega), pu_up, i3.2.2.1 5 (by omega), g3.2.2.1 5 (by omega), pu_up, e3.2.2.1 5 (by omega), d4.2.2.1 5 (by omega), ← x1, ← y1]
      simp only [true_and]
    have k50 : N8 5 0 = v1 := by rw [k5, if_neg (by omega), if_pos rfl]
    have k51 : N8 5 1 = v2 := by rw [k5, if_pos rfl]
    have k5z : ∀ j, 2 ≤ j → j < 41 → N8 5 j = 0 := fun j j0 j1 => by rw [k5, if_neg (by omega), if_neg (by omega), f5z j (by omega) j1]
    have k2z : ∀ j, 2 ≤ j → j < 6 → C7 22 j = 0 := fun j j0 j1 => by rw [k22, if_neg (by omega), if_neg (by omega), cz j (by omega) j1]
    refine ⟨⟨⟨?_, ?_, ?_, ?_, ?_, ?_, fun l l0 l4 => ?_, fun l l0 l4 ho => ?_, fun p p0 pm => ?_⟩, ⟨k5z 3 (by omega) (by omega), k5z 4 (by omega) (by omega)⟩, fun l l0 l4 => k5z _ (by omega) (by omega), by omega, by omega, ?_, fun p p0 pm => ?_⟩, k5z 2 (by omega) (by omega)⟩
    · rw [k22, if_neg (by omega), if_pos rfl, k50]
    · rw [k22, if_pos rfl, k51]
    · rw [k2z 2 (by omega) (by omega), k5z 2 (by omega) (by omega)]
    · rw [k2z 3 (by omega) (by omega), k5z 3 (by omega) (by omega)]
    · rw [k2z 5 (by omega) (by omega), k5z 4 (by omega) (by omega)]
    · rw [k2z 4 (by omega) (by omega)]; omega
    · rw [k2z 4 (by omega) (by omega), bi_0, k5z _ (by omega) (by omega)]
      simp
    · rw [k5z _ (by omega) (by omega)] at ho
      omega
    · rw [k5z 2 (by omega) (by omega)] at pm
      omega
    · rw [k5z 2 (by omega) (by omega)]
      omega
    · rw [k5z 2 (by omega) (by omega)] at pm
      omega
  -- the people
  rw [m_sort, pu_b1, pu_01]
  by_cases hs : N8 0 16 = 0 ∧ N8 0 14 = 2 ∧ kd (N8 0 15) ≠ 0
  · obtain ⟨q1, q2⟩ := hrt hs.1
    obtain ⟨k1, -, -⟩ := ks j4 hs.1
    obtain ⟨C8, N9, y1, y2, y3, y4, y5⟩ := sp_ok j4 (by omega) hs.1 (k1.mp hs.2) q1
    obtain ⟨C9, N10, t1, t2, t3, t4⟩ := pp_lp 6 1 1000 1000 _ C8 N9 (by omega) (by omega) (by omega) (by omega) (by omega) y4 (fun z => ⟨(y5 z).2.1, by rw [(y5 z).2.2, q2]; omega, by omega⟩)
    rw [if_pos hs, pu_b1, m_sort, pu_b1, pu_01, if_pos hs, y2, pu_b1, t2, pu_b1, y1, pu_b1, t1, pu_b1, pu_b2]
    exact tn_end ivq ((z1.tr y3.z).tr t3) t4
  · obtain ⟨C8, N9, y1, y2, y3, y4, y5, -, -⟩ := sp_bad j4 (by omega) (fun z => by
      obtain ⟨k1, -, -⟩ := ks j4 z
      by_cases hk : kc C7 = 0
      · exact hk
      · exact absurd ⟨z, k1.mpr hk⟩ hs)
    have hs9 : ¬ (N9 0 16 = 0 ∧ N9 0 14 = 2 ∧ kd (N9 0 15) ≠ 0) := fun z => y5 z.1
    obtain ⟨C9, N10, t1, t2, t3, t4⟩ := pp_lp 6 1 1000 1000 _ C8 N9 (by omega) (by omega) (by omega) (by omega) (by omega) y4 (fun z => absurd z y5)
    have e10 : N10 = N9 := by
      have w := t2
      rw [show (1000 : Nat) = 999 + 1 from rfl, f_X8_town_90, m_sort, pu_b1, pu_01, if_neg hs9] at w
      exact (Option.some.inj w).symm
    rw [if_neg hs, y2, pu_b1, pu_b1, m_sort, pu_b1, pu_01, if_neg hs9, y1, pu_b1, t1, pu_b1, pu_b2]
    rw [e10] at t3 t4
    exact tn_end ivq ((z1.tr y3.z).tr t3) t4
