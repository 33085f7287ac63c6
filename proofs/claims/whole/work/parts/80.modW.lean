theorem tm24 {x : Int} (h : 0 ≤ x) : x.tmod 24 = x % 24 := Int.tmod_eq_emod_of_nonneg h
/-- the oldest goes -/
theorem ke_old {C M : hp_H} (h : iv C M) (hc : M 0 9 = 24) : iv (hp_up (hp_up C 29 1 ((C 29 1 + 1).tmod 24)) 29 2 23) (hp_up (hp_fill M 7 0 0 943 (fun k => M 7 (k + 41))) 0 9 23) := by
  obtain ⟨a1, a2, a3, a4⟩ := h.2.2.1
  have ec : ∀ b, b ≠ 29 → hp_up (hp_up C 29 1 ((C 29 1 + 1).tmod 24)) 29 2 23 b = C b := fun b hb => by rw [pu_upa hb, pu_upa hb]
  have em : ∀ b, b ≠ 0 → b ≠ 7 → hp_up (hp_fill M 7 0 0 943 (fun k => M 7 (k + 41))) 0 9 23 b = M b := fun b b0 b7 => by rw [pu_upa b0, fi_ne b7]
  refine iv_mk h (fun b hb => ec b (by omega)) (fun b hb => em b (by omega) (by omega)) (fun j j0 j9 => by rw [pu_upj j9, fi_ne (by omega)]) ⟨?_, ?_⟩ ?_ ?_ ?_
  · rw [em 4 (by omega) (by omega)]; exact tr_fr h.1.1 (fun b b1 b2 => ec b (by omega))
  · rw [em 4 (by omega) (by omega)]; exact h.1.2
  · intro k hk; rw [em 4 (by omega) (by omega), em 6 (by omega) (by omega)]; exact h.2.1 k hk
  · unfold iv_a
    rw [pu_ups, pu_upj (show (1 : Int) ≠ 2 by omega), pu_ups, pu_ups, pu_upa (show (7 : Int) ≠ 0 by omega)]
    have hq := sq_tm (h := C 29 1 + 1) (d := 24) (by omega) (by omega)
    refine ⟨rfl, by omega, hq, fun i i0 i1 => ?_⟩
    obtain ⟨b1, b2, b3⟩ := a4 (i + 1) (by omega) (by omega)
    have he : sq_eq (fun k => M 7 (41 * (i + 1) + k)) (fun k => hp_fill M 7 0 0 943 (fun k => M 7 (k + 41)) 7 (41 * i + k)) := fun k k0 k1 => by
      show _ = hp_fill _ _ _ _ _ _ _ _
      rw [fi_in (by omega), show 41 * i + k - 0 + 41 = 41 * (i + 1) + k by omega]
    have e24 : ((C 29 1 + 1).tmod 24 + i).tmod 24 = (C 29 1 + (i + 1)).tmod 24 := by
      rw [tm24 (show 0 ≤ C 29 1 + 1 by omega), tm24 (show 0 ≤ (C 29 1 + 1) % 24 + i by omega), tm24 (show 0 ≤ C 29 1 + (i + 1) by omega)]
      omega
    have hq2 := sq_tm (h := C 29 1 + (i + 1)) (d := 24) (by omega) (by omega)
    rw [e24]
    refine ⟨tr_eq (tr_fr b1 (fun b g1 g2 => ec b (by omega))) he b2.2.2.1.2, sq_ok_eq b2 he, ?_⟩
    have := he 3 (by omega) (by omega)
    simp only at this
    rw [← this]
    exact b3
  · intro k k0 k1
    rw [em 12 (by omega) (by omega), em 13 (by omega) (by omega), ec (230 + 7 * k) (by omega)]
    rcases h.2.2.2.1 k k0 k1 with q | ⟨q1, q2, q3⟩
    · exact Or.inl q
    · exact Or.inr ⟨q1, tr_fr q2 (fun b b1 b2 => ec b (by omega)), q3⟩
