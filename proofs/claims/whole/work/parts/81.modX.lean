theorem ke_new {C M : hp_H} (h : iv C M) (hok : sq_ok (M 4)) (hh : M 4 3 ≤ 999) (hc : M 0 9 < 24) : ∃ C1, f_X6_take (31 + 7 * (C 29 1 + M 0 9).tmod 24) 15 C = some C1 ∧ (∀ b, (b < 31 ∨ 198 < b) → C1 b = C b) ∧ iv (hp_up C1 29 2 (M 0 9 + 1)) (hp_up (hp_fill M 7 (41 * M 0 9) 0 41 (M 4)) 0 9 (M 0 9 + 1)) := by
  obtain ⟨a1, a2, a3, a4⟩ := h.2.2.1
  have hq := sq_tm (h := C 29 1 + M 0 9) (d := 24) (by omega) (by omega)
  obtain ⟨C1, g1, g2, g3, g4, g5⟩ := to_take (t := 31 + 7 * (C 29 1 + M 0 9).tmod 24) (u := 15) (by unfold ap; omega) C
  have gt := to_take_tr g3 g4 g5 h.1.1 hok.2.2.1.2
  have gf : ∀ b, (b < 31 ∨ 198 < b) → C1 b = C b := fun b hb => g2 b (by omega)
  have ec : ∀ b, b ≠ 29 → hp_up C1 29 2 (M 0 9 + 1) b = C1 b := fun b hb => pu_upa hb
  have em : ∀ b, b ≠ 0 → b ≠ 7 → hp_up (hp_fill M 7 (41 * M 0 9) 0 41 (M 4)) 0 9 (M 0 9 + 1) b = M b := fun b b0 b7 => by rw [pu_upa b0, fi_ne b7]
  refine ⟨C1, g1, gf, iv_mk h (fun b hb => by rw [ec b (by omega), gf b (by omega)]) (fun b hb => em b (by omega) (by omega)) (fun j j0 j9 => by rw [pu_upj j9, fi_ne (by omega)]) ⟨?_, ?_⟩ ?_ ?_ ?_⟩
  · rw [em 4 (by omega) (by omega)]; exact tr_fr h.1.1 (fun b b1 b2 => by rw [ec b (by omega), gf b (by omega)])
  · rw [em 4 (by omega) (by omega)]; exact h.1.2
  · intro k hk; rw [em 4 (by omega) (by omega), em 6 (by omega) (by omega)]; exact h.2.1 k hk
  · unfold iv_a
    rw [pu_ups, pu_upj (show (1 : Int) ≠ 2 by omega), gf 29 (by omega), pu_ups, pu_upa (show (7 : Int) ≠ 0 by omega)]
    refine ⟨rfl, by omega, a3, fun i i0 i1 => ?_⟩
    by_cases hi : i = M 0 9
    · subst hi
      have he : sq_eq (M 4) (fun k => hp_fill M 7 (41 * M 0 9) 0 41 (M 4) 7 (41 * M 0 9 + k)) := fun k k0 k1 => by
        show _ = hp_fill _ _ _ _ _ _ _ _
        rw [fi_in (by omega), show 41 * M 0 9 + k - 41 * M 0 9 = k by omega]
      refine ⟨tr_eq (tr_fr gt (fun b b1 b2 => ec b (by omega))) he hok.2.2.1.2, sq_ok_eq hok he, ?_⟩
      have := he 3 (by omega) (by omega)
      simp only at this
      rw [← this]
      exact hh
    · obtain ⟨b1, b2, b3⟩ := a4 i i0 (by omega)
      have hq2 := sq_tm (h := C 29 1 + i) (d := 24) (by omega) (by omega)
      have hne : (C 29 1 + i).tmod 24 ≠ (C 29 1 + M 0 9).tmod 24 := by
        rw [tm24 (show 0 ≤ C 29 1 + i by omega), tm24 (show 0 ≤ C 29 1 + M 0 9 by omega)]
        omega
      have he : sq_eq (fun k => M 7 (41 * i + k)) (fun k => hp_fill M 7 (41 * M 0 9) 0 41 (M 4) 7 (41 * i + k)) := fun k k0 k1 => by
        show _ = hp_fill _ _ _ _ _ _ _ _
        rw [fi_out (by omega)]
      refine ⟨tr_eq (tr_fr b1 (fun b g1 g3 => by rw [ec b (by omega), g2 b (by omega)])) he b2.2.2.1.2, sq_ok_eq b2 he, ?_⟩
      have := he 3 (by omega) (by omega)
      simp only at this
      rw [← this]
      exact b3
  · intro k k0 k1
    rw [em 12 (by omega) (by omega), em 13 (by omega) (by omega), ec (230 + 7 * k) (by omega), gf (230 + 7 * k) (by omega)]
    rcases h.2.2.2.1 k k0 k1 with q | ⟨q1, q2, q3⟩
    · exact Or.inl q
    · exact Or.inr ⟨q1, tr_fr q2 (fun b b1 b2 => by rw [ec b (by omega), gf b (by omega)]), q3⟩
theorem ke_keep {C M : hp_H} (h : iv C M) (hok : sq_ok (M 4)) (hh : M 4 3 ≤ 999) : ∃ C' M', f_X0_keep C = some C' ∧ f_X8_keep M = some M' ∧ iv C' M' ∧ (∀ b, b ≠ 29 → (b < 31 ∨ 198 < b) → C' b = C b) ∧ (∀ b, b ≠ 0 → b ≠ 7 → M' b = M b) := by
  obtain ⟨a1, a2, a3, a4⟩ := h.2.2.1
  unfold f_X0_keep f_X8_keep
  rw [a1]
  by_cases hc : M 0 9 = 24
  · have ho := ke_old h hc
    have fC0 : ∀ b, b ≠ 29 → hp_up (hp_up C 29 1 ((C 29 1 + 1).tmod 24)) 29 2 23 b = C b := fun b hb => by rw [pu_upa hb, pu_upa hb]
    have fM0 : ∀ b, b ≠ 0 → b ≠ 7 → hp_up (hp_fill M 7 0 0 943 (fun k => M 7 (k + 41))) 0 9 23 b = M b := fun b b0 b7 => by rw [pu_upa b0, fi_ne b7]
    have e29 : hp_up (hp_up C 29 1 ((C 29 1 + 1).tmod 24)) 29 2 23 29 2 = 23 := pu_ups _ _ _ _
    have e9 : hp_up (hp_fill M 7 0 0 943 (fun k => M 7 (k + 41))) 0 9 23 0 9 = 23 := pu_ups _ _ _ _
    rw [if_pos hc, if_pos hc, pu_let, pu_w (x := C 29 1 + 1) (by omega), pu_let, pu_upj (show (2 : Int) ≠ 1 by omega), a1, hc, show hp_w ((24 : Int) - 1) = 23 from pu_w (by omega), pu_b1, m_ke_11 1000 0 M (by omega) (by omega) (by omega), pu_b1, pu_let, fi_ne (show (0 : Int) ≠ 7 by omega), hc, show hp_w ((24 : Int) - 1) = 23 from pu_w (by omega)]
    generalize hp_up (hp_up C 29 1 ((C 29 1 + 1).tmod 24)) 29 2 23 = C0 at ho fC0 e29 ⊢
    generalize hp_up (hp_fill M 7 0 0 943 (fun k => M 7 (k + 41))) 0 9 23 = M0 at ho fM0 e9 ⊢
    have e4 : M0 4 = M 4 := fM0 4 (by omega) (by omega)
    obtain ⟨C1, g1, g2, g3⟩ := ke_new ho (by rw [e4]; exact hok) (by rw [e4]; exact hh) (by rw [e9]; omega)
    have b3 := ho.2.2.1.2.2.1
    rw [e9] at g1 g3
    have hq := sq_tm (h := C0 29 1 + 23) (d := 24) (by omega) (by omega)
    rw [e29, pu_w (x := C0 29 1 + 23) (by omega), pu_ck hq, g1, pu_b1, pu_let, g2 29 (by omega), e29, pu_w (x := (23 : Int) + 1) (by omega), m_ke_51 (c := 23) (by omega) 1000 0 M0 (by omega) (by omega) (by omega) e9, pu_b1, pu_let, fi_ne (show (0 : Int) ≠ 7 by omega), e9, pu_w (x := (23 : Int) + 1) (by omega)]
    exact ⟨_, _, rfl, rfl, g3, fun b b1 b2 => by rw [pu_upa b1, g2 b b2, fC0 b b1], fun b b0 b7 => by rw [pu_upa b0, fi_ne b7, fM0 b b0 b7]⟩
  · obtain ⟨C1, g1, g2, g3⟩ := ke_new h hok hh (by omega)
    have hq := sq_tm (h := C 29 1 + M 0 9) (d := 24) (by omega) (by omega)
    rw [if_neg hc, if_neg hc, pu_b1, a1, pu_w (x := C 29 1 + M 0 9) (by omega), pu_ck hq, g1, pu_b1, pu_let, g2 29 (by omega), a1, pu_w (x := M 0 9 + 1) (by omega), m_ke_51 (c := M 0 9) (by omega) 1000 0 M (by omega) (by omega) (by omega) rfl, pu_b1, pu_let, fi_ne (show (0 : Int) ≠ 7 by omega), pu_w (x := M 0 9 + 1) (by omega)]
    exact ⟨_, _, rfl, rfl, g3, fun b b1 b2 => by rw [pu_upa b1, g2 b b2], fun b b0 b7 => by rw [pu_upa b0, fi_ne b7]⟩
/-- only the town changes -/
theorem iv_tn {C C' M M' : hp_H} (h : iv C M) (hc : ∀ b, (b < 15 ∨ (21 < b ∧ b < 199) ∨ 209 < b) → C' b = C b) (hm : ∀ b, b ≠ 4 → b ≠ 9 → b ≠ 10 → M' b = M b) (ht : tr C' 15 (M' 4)) (hok : sq_ok (M' 4)) (hh : M' 4 3 ≤ 999) (hz : ∀ k, (k < 0 ∨ 41 ≤ k) → M' 4 k = 0) : iv C' M' := by
  refine iv_mk h (fun b hb => hc b (by omega)) (fun b hb => hm b (by omega) (by omega) (by omega)) (fun j _ _ => by rw [hm 0 (by omega) (by omega) (by omega)]) ⟨ht, Or.inl ⟨hok, hh⟩⟩ ?_ ?_ ?_
  · intro k hk
    rw [hm 6 (by omega) (by omega) (by omega)]
    exact ⟨hz k hk, (h.2.1 k hk).2⟩
  · unfold iv_a
    rw [hc 29 (by omega), hm 0 (by omega) (by omega) (by omega), hm 7 (by omega) (by omega) (by omega)]
    obtain ⟨a1, a2, a3, a4⟩ := h.2.2.1
    refine ⟨a1, a2, a3, fun i i0 i1 => ?_⟩
    obtain ⟨b1, b2⟩ := a4 i i0 i1
    have hq := sq_tm (h := C 29 1 + i) (d := 24) (by omega) (by omega)
    exact ⟨tr_fr b1 (fun b h1 h2 => hc b (by omega)), b2⟩
  · intro k k0 k1
    rw [hm 12 (by omega) (by omega) (by omega), hm 13 (by omega) (by omega) (by omega), hc (230 + 7 * k) (by omega)]
    rcases h.2.2.2.1 k k0 k1 with q | ⟨q1, q2, q3⟩
    · exact Or.inl q
    · exact Or.inr ⟨q1, tr_fr q2 (fun b b1 b2 => hc b (by omega)), q3⟩
