theorem tr_be {H : hp_H} {t p x : Int} {m : Int → Int} (h : tr H t m) (hp : 0 ≤ p ∧ p < m 2) : tr (hp_up H (t + 4) p x) t (sq_set m (20 + 4 * p) x) := by
  obtain ⟨a0, a1, a2, a3, a5, a4, b, c, d⟩ := h
  have e : ∀ k, k ≠ 20 + 4 * p → sq_set m (20 + 4 * p) x k = m k := fun k hk => if_neg hk
  refine ⟨by rw [e 0 (by omega), pu_upa (by omega)]; exact a0, by rw [e 1 (by omega), pu_upa (by omega)]; exact a1, by rw [e 2 (by omega), pu_upa (by omega)]; exact a2, by rw [e 3 (by omega), pu_upa (by omega)]; exact a3, by rw [e 4 (by omega), pu_upa (by omega)]; exact a5, by rw [pu_upa (by omega)]; exact a4, fun l l0 l4 => by rw [e _ (by omega), pu_upa (by omega)]; exact b l l0 l4, fun l l0 l4 ho => ?_, fun q q0 qm => ?_⟩
  · rw [e _ (by omega)] at ho
    rw [e _ (by omega), e _ (by omega), pu_upa (by omega), pu_upa (by omega)]
    exact c l l0 l4 ho
  · rw [e _ (by omega)] at qm
    obtain ⟨d1, d2, d3, d4⟩ := d q q0 qm
    rw [e (17 + 4 * q) (by omega), e (18 + 4 * q) (by omega), e (19 + 4 * q) (by omega), pu_upa (show t + 1 ≠ t + 4 by omega), pu_upa (show t + 2 ≠ t + 4 by omega), pu_upa (show t + 3 ≠ t + 4 by omega)]
    refine ⟨d1, d2, d3, ?_⟩
    by_cases hq : q = p
    · subst hq
      rw [pu_ups]
      unfold sq_set
      rw [if_pos rfl]
    · rw [pu_upj hq, e _ (by omega)]
      exact d4
theorem tr_hm {H : hp_H} {t : Int} {m : Int → Int} (x : Int) (ht : tr H t m) : tr (hp_up H t 5 x) t (sq_hm m x) := by
  obtain ⟨a0, a1, a2, a3, a5, a4, b, c, d⟩ := ht
  have e : ∀ k, k ≠ 4 → sq_hm m x k = m k := fun k hk => if_neg hk
  refine ⟨by rw [e 0 (by omega), pu_upj (by omega)]; exact a0, by rw [e 1 (by omega), pu_upj (by omega)]; exact a1, by rw [e 2 (by omega), pu_upj (by omega)]; exact a2, by rw [e 3 (by omega), pu_upj (by omega)]; exact a3, by rw [pu_ups]; rfl, by rw [pu_upj (by omega)]; exact a4, fun l l0 l4 => by rw [e _ (by omega), pu_upj (by omega)]; exact b l l0 l4, fun l l0 l4 ho => ?_, fun p p0 pm => ?_⟩
  · rw [e _ (by omega)] at ho
    rw [e _ (by omega), e _ (by omega), pu_upa (by omega), pu_upa (by omega)]
    exact c l l0 l4 ho
  · rw [e _ (by omega)] at pm
    rw [e _ (by omega), e _ (by omega), e _ (by omega), e _ (by omega), pu_upa (by omega), pu_upa (by omega), pu_upa (by omega), pu_upa (by omega)]
    exact d p p0 pm
theorem op_begin {C M : hp_H} (h : iv C M) (v n : Int) : op2 (f_X7_begin v n C) (f_X8_begin v n M) := by
  have ivq := iv_q h (fc.rf C) (fm_z h.2.1)
  unfold f_X7_begin f_X8_begin
  rw [pu_let (hp_up M 0 0 0)]
  generalize hp_up M 0 0 0 = N at ivq ⊢
  have hm := iv_m ivq
  rw [g_person ivq.1.1, pu_b1, pu_01, m_person hm.1, pu_b1, pu_01, g_within, pu_b1, pu_01, mo_in, pu_b1, pu_01]
  by_cases hp : 0 ≤ v ∧ v < N 4 2
  · rw [if_pos hp, if_pos hp]
    by_cases hn : 0 ≤ n ∧ n ≤ 23
    · obtain ⟨hok, hh⟩ := iv_ok ivq (by omega)
      obtain ⟨C', N', k1, k2, k3, k4, k5⟩ := ke_keep ivq hok hh
      have a2 := hok.2.2.1
      have hv : 0 ≤ v ∧ v < 6 := by omega
      have e4 := k5 4 (by omega) (by omega)
      have d4 : C 19 v = N 4 (20 + 4 * v) := (ivq.1.1.2.2.2.2.2.2.2.2 v hp.1 hp.2).2.2.2
      rw [if_pos hn, if_pos hn, pu_ck hv, pu_let (C 19 v), k1, pu_b1, pu_let, k2, pu_b1, mo_of3 hv, pu_b1, pu_w (x := 4 * v) (by omega), pu_w (x := 17 + 4 * v) (by omega), pu_w (x := 17 + 4 * v + 3) (by omega), pu_ck (by omega), pu_let, e4, d4]
      have t1 : tr C' 15 (N 4) := by rw [← e4]; exact k3.1.1
      have ht : tr (hp_up C' 19 v n) 15 (sq_set (N 4) (20 + 4 * v) n) := tr_be (t := 15) t1 hp
      have em : hp_up N' 4 (17 + 4 * v + 3) n 4 = sq_set (N 4) (20 + 4 * v) n := by
        funext k
        unfold sq_set
        rw [pu_up, e4]
        by_cases hk : k = 20 + 4 * v
        · rw [if_pos (by omega), if_pos hk]
        · rw [if_neg (by omega), if_neg hk]
      refine ⟨_, _, _, rfl, rfl, iv_tn k3 (fun b hb => pu_upa (by omega)) (fun b b4 _ _ => pu_upa b4) ?_ ?_ ?_ ?_⟩
      · rw [em]; exact ht
      · rw [em]; exact sq_set_ok hok hp _ (by omega)
      · rw [em]; unfold sq_set; rw [if_neg (by omega)]; exact hh
      · intro k hk; rw [em]; unfold sq_set; rw [if_neg (by omega)]; exact (ivq.2.1 k hk).1
    · rw [if_neg hn, if_neg hn]
      exact ⟨_, _, _, rfl, rfl, ivq⟩
  · rw [if_neg hp, if_neg hp]
    exact ⟨_, _, _, rfl, rfl, ivq⟩
theorem hp_xor63 : ∀ x y : Fin 64, 0 ≤ hp_xor (x.val : Int) (y.val : Int) ∧ hp_xor (x.val : Int) (y.val : Int) ≤ 63 := by decide +kernel
theorem hp_xor_in {x y : Int} (hx : 0 ≤ x ∧ x ≤ 63) (hy : 0 ≤ y ∧ y ≤ 63) : 0 ≤ hp_xor x y ∧ hp_xor x y ≤ 63 := by
  have := hp_xor63 ⟨x.toNat, by omega⟩ ⟨y.toNat, by omega⟩
  simp only [hp_tn hx.1, hp_tn hy.1] at this
  exact this
theorem op_stay {C M : hp_H} (h : iv C M) (v n : Int) : op2 (f_X7_stay v n C) (f_X8_stay v n M) := by
  have ivq := iv_q h (fc.rf C) (fm_z h.2.1)
  unfold f_X7_stay f_X8_stay
  rw [pu_let (hp_up M 0 0 0)]
  generalize hp_up M 0 0 0 = N at ivq ⊢
  have hm := iv_m ivq
  rw [g_person ivq.1.1, pu_b1, pu_01, m_person hm.1, pu_b1, pu_01, g_within, pu_b1, pu_01, mo_in, pu_b1, pu_01]
  by_cases hp : 0 ≤ v ∧ v < N 4 2
  · rw [if_pos hp, if_pos hp]
    by_cases hn : 0 ≤ n ∧ n ≤ 1
    · obtain ⟨hok, hh⟩ := iv_ok ivq (by omega)
      have a2 := hok.2.2.1
      have a4 := hok.2.2.2.2.1
      have hv : 0 ≤ v ∧ v < 6 := by omega
      rw [if_pos hn, if_pos hn, to_isHome ivq.1.1 (by omega), pu_b1, pu_let (if n = 1 then (1 : Int) else 0), show (if n = 1 then (1 : Int) else 0) = n by split <;> omega, bi_t (by omega)]
      by_cases hs : (if bi (N 4 4) v = true then (1 : Int) else 0) = n
      · rw [if_pos hs, if_pos hs]
        exact ⟨_, _, _, rfl, rfl, ivq⟩
      · obtain ⟨C', N', k1, k2, k3, k4, k5⟩ := ke_keep ivq hok hh
        have e4 := k5 4 (by omega) (by omega)
        have t1 : tr C' 15 (N 4) := by rw [← e4]; exact k3.1.1
        rw [if_neg hs, if_neg hs, k1, pu_b1, pu_let, k2, pu_b1, pu_let, pu_ups, pu_ups, t1.2.2.2.2.1, e4]
        have em : hp_up N' 4 4 (hp_xor (N 4 4) (hp_shl 1 v)) 4 = sq_hm (N 4) (hp_xor (N 4 4) (hp_shl 1 v)) := by
          funext k
          unfold sq_hm
          rw [pu_up, e4]
          by_cases hk : k = 4
          · rw [if_pos (by omega), if_pos hk]
          · rw [if_neg (by omega), if_neg hk]
        refine ⟨_, _, _, rfl, rfl, iv_tn k3 (fun b hb => pu_upa (by omega)) (fun b b4 _ _ => pu_upa b4) ?_ ?_ ?_ ?_⟩
        · rw [em]; exact tr_hm _ t1
        · rw [em]; exact sq_hm_ok hok (hp_xor_in a4 (hp_sh_in hv))
        · rw [em]; unfold sq_hm; rw [if_neg (by omega)]; exact hh
        · intro k hk; rw [em]; unfold sq_hm; rw [if_neg (by omega)]; exact (ivq.2.1 k hk).1
    · rw [if_neg hn, if_neg hn]
      exact ⟨_, _, _, rfl, rfl, ivq⟩
  · rw [if_neg hp, if_neg hp]
    exact ⟨_, _, _, rfl, rfl, ivq⟩
theorem op_post {C M : hp_H} (h : iv C M) (l a g : Int) : op2 (f_X7_post l a g C) (f_X8_post l a g M) := by
  have ivq := iv_q h (fc.rf C) (fm_z h.2.1)
  unfold f_X7_post f_X8_post
  rw [pu_let (hp_up M 0 0 0)]
  generalize hp_up M 0 0 0 = N at ivq ⊢
  have hm := iv_m ivq
  rw [g_letter ivq.1.1, pu_b1, pu_01, m_posted, pu_b1, pu_01, g_lane ivq.1.1, pu_b1, pu_01, m_lane hm.2, pu_b1, pu_01, g_lane ivq.1.1, pu_b1, pu_01, m_lane hm.2, pu_b1, pu_01]
  by_cases hl : 0 < N 4 0 ∧ 0 ≤ l ∧ l ≤ 3
  · rw [if_pos hl, if_pos hl]
    by_cases ha : 0 ≤ a ∧ a < N 4 0
    · rw [if_pos ha, if_pos ha]
      by_cases hg : 0 ≤ g ∧ g < N 4 0
      · obtain ⟨hok, hh⟩ := iv_ok ivq (by omega)
        have a2 := hok.2.2.1
        obtain ⟨C', N', k1, k2, k3, k4, k5⟩ := ke_keep ivq hok hh
        have e4 := k5 4 (by omega) (by omega)
        have t1 : tr C' 15 (N 4) := by rw [← e4]; exact k3.1.1
        obtain ⟨C2, g1, g2, g3⟩ := to_putOut (l := l) (lane := a) (goal := g) t1 (by omega) a2.2
        obtain ⟨N2, w1, w2, w3⟩ := mo_posts (a := 4) (l := l) (lane := a) (goal := g) (H := N') (by omega)
        rw [if_pos hg, if_pos hg, k1, pu_b1, g1, pu_b1, k2, pu_b1, w1, pu_b1, mo_outs, pu_b1, tr_outs g3, w3, e4]
        refine ⟨_, _, _, rfl, rfl, iv_tn k3 (fun b hb => g2 b (by omega) (by omega) (by omega)) (fun b b4 _ _ => w2 b b4) ?_ ?_ ?_ ?_⟩
        · rw [w3, e4]; exact g3
        · rw [w3, e4]; exact sq_post_ok hok (by omega) (by omega) ha hg
        · rw [w3, e4]; unfold sq_post; rw [if_neg (by omega), if_neg (by omega), if_neg (by omega)]; exact hh
        · intro k hk; rw [w3, e4]; unfold sq_post; rw [if_neg (by omega), if_neg (by omega), if_neg (by omega)]; exact (ivq.2.1 k hk).1
      · rw [if_neg hg, if_neg hg]
        exact ⟨_, _, _, rfl, rfl, ivq⟩
    · rw [if_neg ha, if_neg ha]
      exact ⟨_, _, _, rfl, rfl, ivq⟩
  · rw [if_neg hl, if_neg hl]
    exact ⟨_, _, _, rfl, rfl, ivq⟩
