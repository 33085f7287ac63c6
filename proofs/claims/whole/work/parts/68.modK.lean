/-! drawn, as, count, trace -/
theorem sq_dones_in (m : Int → Int) : 0 ≤ sq_dones m ∧ sq_dones m ≤ 15 := by
  unfold sq_dones sq_bit
  (repeat' split) <;> decide +kernel
theorem fo_weeks {H : hp_H} {m : Int → Int} {n x w : Int} (ht : tr H 15 m) (hm : sq_ok m) (hn : 0 ≤ n ∧ n ≤ 99) (hx : 0 ≤ x ∧ x ≤ 999999) (hh : m 3 ≤ 999) : ∃ H', f_X3_weeks n x w H = some (if w = 0 then sq_cnt (sq_dones (sq_wk n.toNat x m 0).1) else (sq_wk n.toNat x m 0).2, H') ∧ fc H H' := by
  have a3 := hm.2.2.2.1
  obtain ⟨H2, g1, g2, g3, g4⟩ := fo_prepare (n := n) ht hm (by omega)
  have t15 := fs_tr g2 ht (by omega)
  obtain ⟨H3, k1, k2, k3⟩ := fo_wk_16 (f := m 3) (n := n) (what := w) hm hn.2 (by omega) 1000 0 x 0 m H2 (by omega) (by omega) (by omega) (by omega) (by omega) (by omega) (by omega) t15 g3 hm g4 rfl rfl rfl (fun _ _ => rfl) (by omega)
  rw [Int.sub_zero] at k1 k3
  have hd := sq_dones_in (sq_wk n.toNat x m 0).1
  unfold f_X3_weeks
  rw [g1, pu_b1, k1, pu_b2]
  refine ⟨H3, ?_, g2.fc.tr k2⟩
  by_cases hw : w = 0
  · rw [if_pos hw, if_pos hw, to_arrived k3, pu_b1, fo_bc _ (by omega), pu_b1]
  · rw [if_neg hw, if_neg hw]
theorem mh_dr_66 {n w : Int} (hn : n ≤ 99) : ∀ (q : Nat) (x t k : Int) (M : hp_H), 0 ≤ k → k ≤ n → (n - k).toNat < q → 0 ≤ x → x ≤ 2147483647 → 0 ≤ t → t ≤ 4 * k → iv_z M → sq_ok (M 6) → M 6 3 + (n - k) ≤ 2000 → ∃ M', f_X8_drawn_66 q n w x t k M = some ((sq_wk (n - k).toNat x (M 6) t).2, M') ∧ fi M M' ∧ M' 6 = (sq_wk (n - k).toNat x (M 6) t).1 := by
  intro q
  induction q with
  | zero => intro x t k M _ _ h; omega
  | succ q ih =>
    intro x t k M k0 k1 hq x0 x1 t0 t1 hz hm hh
    have a0 := hm.1
    rw [f_X8_drawn_66]
    by_cases hv : k < n
    · have hx := sq_x_in x0
      have h5 := sq_tm (d := 5) hx.1 (by omega)
      have h4m := sq_tm (d := 4) hx.1 (by omega)
      have hl := sq_tm (d := M 6 0) hx.1 (by omega)
      rw [if_pos hv, pu_wl (x := x * 16807) (by omega), show (x * 16807).tmod 2147483647 = sq_x x from rfl, pu_let]
      have key : ∃ M2, (if hp_cmp ((sq_x x).tmod 5) 0 = 0 then hp_ck (¬ M 6 0 = 0) (hp_let (hp_w ((sq_x x).tmod (M 6 0))) fun v9_17 => hp_b1 (f_X8_posts 6 (hp_w ((sq_x x).tmod 4)) v9_17 (hp_w (hp_w (M 6 0 - 1) - v9_17)) M) fun H19 => some H19) else some M) = some M2 ∧ fi M M2 ∧ M2 6 = sq_w1 (M 6) (sq_x x) := by
        unfold sq_w1
        by_cases hc : (sq_x x).tmod 5 = 0
        · obtain ⟨M2, g1, g2, g3⟩ := mh_posts (l := (sq_x x).tmod 4) (lane := (sq_x x).tmod (M 6 0)) (goal := M 6 0 - 1 - (sq_x x).tmod (M 6 0)) hz h4m
          rw [if_pos ((hp_cmp0 _).mpr hc), pu_ck (by omega), pu_let, pu_w (x := (sq_x x).tmod (M 6 0)) (by omega), pu_w (x := (sq_x x).tmod 4) (by omega), pu_w (x := M 6 0 - 1) (by omega), pu_w (x := M 6 0 - 1 - (sq_x x).tmod (M 6 0)) (by omega), if_pos hc, g1, pu_b1]
          exact ⟨M2, rfl, g2, g3⟩
        · rw [if_neg (fun q => hc ((hp_cmp0 _).mp q)), if_neg hc]
          exact ⟨M, rfl, fi.rf hz, rfl⟩
      obtain ⟨M2, g1, g2, g3⟩ := key
      have hok := sq_w1_ok hm hx.1
      have e33 : sq_w1 (M 6) (sq_x x) 3 = M 6 3 := sq_w1_at hx.1 (by omega)
      obtain ⟨M3, r1, r2, r3, -⟩ := mh_hour g2.2 (by rw [g3]; exact hok)
      rw [g3] at r1 r3
      have hnn := sq_n_in (sq_w1 (M 6) (sq_x x))
      have e34 : sq_hr (sq_w1 (M 6) (sq_x x)) 3 = M 6 3 + 1 := by show sq_w1 (M 6) (sq_x x) 3 + 1 = _; rw [e33]
      obtain ⟨M4, s1, s2, s3⟩ := ih (sq_x x) (t + sq_n (sq_w1 (M 6) (sq_x x))) (k + 1) M3 (by omega) (by omega) (by omega) hx.1 (by omega) (by omega) (by omega) r2.2 (by rw [r3]; exact sq_hr_ok hok (by omega)) (by rw [r3, e34]; omega)
      rw [r3] at s1 s3
      rw [g1, pu_b1, r1, pu_b2, pu_let, pu_let, pu_w (x := t + sq_n (sq_w1 (M 6) (sq_x x))) (by omega), pu_w (x := k + 1) (by omega), s1, show (n - k).toNat = (n - (k + 1)).toNat + 1 by omega]
      exact ⟨M4, rfl, (g2.tr r2).tr s2, s3⟩
    · rw [if_neg hv, show (n - k).toNat = 0 by omega]
      exact ⟨M, rfl, fi.rf hz, rfl⟩
theorem op_drawn {C M : hp_H} (h : iv C M) (n x w : Int) : op2 (f_X7_drawn n x w C) (f_X8_drawn n x w M) := by
  have ivq := iv_q h (fc.rf C) (fm_z h.2.1)
  have z0 := iv_z0 h.2.1
  unfold f_X7_drawn f_X8_drawn
  rw [g_stands h.1.1, pu_b1, pu_01, pu_let, m_there, up4 M (by omega), pu_b1, pu_01, g_within, pu_b1, pu_01, g_within, pu_b1, pu_01, g_within, pu_b1, pu_01, mo_in, pu_b1, pu_01, mo_in, pu_b1, pu_01, mo_in, pu_b1, pu_01]
  by_cases hl : 0 < M 4 0
  · rw [if_pos hl, if_pos hl]
    by_cases hn : 0 ≤ n ∧ n ≤ 99
    · rw [if_pos hn, if_pos hn]
      by_cases hx : 1 ≤ x ∧ x ≤ 999999
      · rw [if_pos hx, if_pos hx]
        by_cases hw : 0 ≤ w ∧ w ≤ 1
        · obtain ⟨hok, hh⟩ := iv_ok h (by omega)
          have a3 := hok.2.2.2.1
          obtain ⟨C', k1, k2⟩ := fo_weeks h.1.1 hok (n := n) (x := x) (w := w) hn (by omega) hh
          obtain ⟨M2, g1, g2, g3⟩ := mo_lay z0
          rw [up4 M (by omega)] at g2
          obtain ⟨M3, r1, r2, r3⟩ := mh_dr_66 (n := n) (w := w) hn.2 1000 x 0 0 M2 (by omega) (by omega) (by omega) (by omega) (by omega) (by omega) (by omega) g3.2 (by rw [g2]; exact hok) (by rw [g2]; omega)
          rw [g2, Int.sub_zero] at r1 r3
          have ff := iv_q h k2 (fi.fm h.2.1 (g3.tr r2))
          rw [if_pos hw, if_pos hw, k1, pu_b2, g1, pu_b1, r1, pu_b2]
          by_cases h0 : w = 0
          · rw [if_pos h0, if_pos h0, mo_dones, pu_b1, mh_bits, pu_b1, r3]
            exact ⟨_, C', M3, rfl, rfl, ff⟩
          · rw [if_neg h0, if_neg h0]
            exact ⟨_, C', M3, rfl, rfl, ff⟩
        · rw [if_neg hw, if_neg hw]
          exact ⟨_, _, _, rfl, rfl, ivq⟩
      · rw [if_neg hx, if_neg hx]
        exact ⟨_, _, _, rfl, rfl, ivq⟩
    · rw [if_neg hn, if_neg hn]
      exact ⟨_, _, _, rfl, rfl, ivq⟩
  · rw [if_neg hl, if_neg hl]
    exact ⟨_, _, _, rfl, rfl, ivq⟩
theorem c_isOne {a b : Int} (H : hp_H) (ha : 1 ≤ a ∧ a ≤ 5) (hb : 0 ≤ b ∧ b ≤ 5) : f_X1_isOne a b H = f_X8_isOf a b H := by
  have h1 : a = 1 ∨ a = 2 ∨ a = 3 ∨ a = 4 ∨ a = 5 := by omega
  have h2 : b = 0 ∨ b = 1 ∨ b = 2 ∨ b = 3 ∨ b = 4 ∨ b = 5 := by omega
  rcases h1 with rfl | rfl | rfl | rfl | rfl <;> rcases h2 with rfl | rfl | rfl | rfl | rfl | rfl <;> rfl
theorem m_isOf (a b : Int) (H H' : hp_H) : f_X8_isOf a b H = f_X8_isOf a b H' := rfl
theorem m_isOf2 (a b : Int) (H : hp_H) : ∃ x, f_X8_isOf a b H = some x := by
  unfold f_X8_isOf
  (repeat' split) <;> exact ⟨_, rfl⟩
theorem op_as {C M : hp_H} (h : iv C M) (p k : Int) : op2 (f_X7_as p k C) (f_X8_as p k M) := by
  have ivq := iv_q h (fc.rf C) (fm_z h.2.1)
  have hm := iv_m h
  unfold f_X7_as f_X8_as
  rw [g_person h.1.1, pu_let, m_person (by rw [up4 M (by omega)]; exact hm.1), up4 M (by omega), pu_b1, pu_b1, pu_01, pu_01, g_within, mo_in, pu_b1, pu_b1, pu_01, pu_01]
  by_cases hp : 0 ≤ p ∧ p < M 4 2
  · rw [if_pos hp, if_pos hp]
    by_cases hk : 0 ≤ k ∧ k ≤ 5
    · obtain ⟨hok, hh⟩ := iv_ok h (by omega)
      have d := h.1.1.2.2.2.2.2.2.2.2 p hp.1 hp.2
      have e := (hok.2.2.2.2.2.2 p hp.1 hp.2).1
      have d1 : C 16 p = M 4 (17 + 4 * p) := d.1
      rw [if_pos hk, if_pos hk, pu_ck (by omega), d1, c_isOne C e hk, pu_let, mo_of0 (by omega), pu_b1, up44 M (by omega), m_isOf _ _ (hp_up (hp_up M 0 0 0) 0 1 0) C]
      obtain ⟨x, hx⟩ := m_isOf2 (M 4 (17 + 4 * p)) k C
      rw [hx, pu_b1, pu_b1]
      by_cases h0 : x = 0
      · rw [if_pos h0, if_pos h0]
        exact ⟨_, _, _, rfl, rfl, iv_st (iv_st ivq 0) 3 |> fun g => by
          have e1 : hp_up (hp_up C 0 10 0) 0 10 3 = hp_up C 0 10 3 := by funext b j; simp only [pu_up]; split <;> rfl
          rw [e1] at g; exact g⟩
      · rw [if_neg h0, if_neg h0]
        exact ⟨_, _, _, rfl, rfl, iv_st ivq 0⟩
    · rw [if_neg hk, if_neg hk]
      exact ⟨_, _, _, rfl, rfl, ivq⟩
  · rw [if_neg hp, if_neg hp]
    exact ⟨_, _, _, rfl, rfl, ivq⟩
theorem bi_16 : ∀ x : Fin 16, ∀ p : Fin 32, 4 ≤ p.val → bi (x.val : Int) (p.val : Int) = false := by decide +kernel
theorem bi_lt16 {x p : Int} (hx : 0 ≤ x ∧ x < 16) (hp : 4 ≤ p ∧ p < 32) : bi x p = false := by
  have := bi_16 ⟨x.toNat, by omega⟩ ⟨p.toNat, by omega⟩ (by show 4 ≤ p.toNat; omega)
  simp only [hp_tn hx.1, hp_tn (show 0 ≤ p by omega)] at this
  exact this
theorem bi_bit {c : Prop} [Decidable c] {k p : Int} (hk : 0 ≤ k ∧ k < 32) (hp : 0 ≤ p ∧ p < 32) : bi (sq_bit c k) p = (decide c && decide (p = k)) := by
  unfold sq_bit
  by_cases h : c
  · rw [if_pos h, bi_sh1 hk hp]; simp [h]
  · rw [if_neg h, bi_0]; simp [h]
theorem tr_outs {H : hp_H} {t : Int} {m : Int → Int} (h : tr H t m) : H t 4 = sq_outs m := by
  obtain ⟨-, -, -, -, -, h4, hb, -⟩ := h
  refine bi_ext ⟨by omega, by omega⟩ (hp_ror _ _) (fun p p0 p1 => ?_)
  unfold sq_outs
  rw [bi_or, bi_or, bi_or, bi_or, bi_0, bi_bit (by omega) ⟨p0, p1⟩, bi_bit (by omega) ⟨p0, p1⟩, bi_bit (by omega) ⟨p0, p1⟩, bi_bit (by omega) ⟨p0, p1⟩]
  by_cases hp : 4 ≤ p
  · rw [bi_lt16 h4 ⟨hp, p1⟩]
    simp [show p ≠ 0 by omega, show p ≠ 1 by omega, show p ≠ 2 by omega, show p ≠ 3 by omega]
  · have hc : p = 0 ∨ p = 1 ∨ p = 2 ∨ p = 3 := by omega
    have hq := hb p p0 (by omega)
    rcases hc with rfl | rfl | rfl | rfl <;> simp at hq ⊢ <;> (cases hz : bi (H t 4) _ <;> simp_all)
theorem cnt_eq {C M : hp_H} (h : iv C M) : ∀ (q : Nat) (x r : Int), 0 ≤ r → r ≤ 8 → (8 - r).toNat < q → 0 ≤ x → x ≤ r → ∃ y, f_X4_howMany_4 q x r C = some y ∧ f_X8_count_58 q x r (hp_up M 0 0 0) = some y := by
  intro q
  induction q with
  | zero => intro x r _ _ h; omega
  | succ q ih =>
    intro x r r0 r1 hq x0 x1
    rw [f_X4_howMany_4, f_X8_count_58, up4 M (by omega)]
    by_cases hv : r < 8
    · obtain ⟨b1, b2, b3, b4, b5⟩ := h.2.2.2.2.1 r r0 hv
      unfold f_X4_isThere
      rw [if_pos hv, if_pos hv, pu_ck ⟨r0, hv⟩, pu_ck ⟨r0, hv⟩, b1, pu_let, pu_let, pu_let]
      by_cases h1 : M 1 r < 0
      · have h2 : M 1 r = -1 := by omega
        rw [if_pos h2, pu_b1, pu_let, pu_let, pu_let, if_pos rfl, if_pos h1, pu_w (x := x + 0) (by omega), pu_w (x := r + 1) (by omega)]
        exact ih (x + 0) (r + 1) (by omega) (by omega) (by omega) (by omega) (by omega)
      · have h2 : ¬ M 1 r = -1 := by omega
        rw [if_neg h2, pu_b1, pu_let, pu_let, pu_let, if_neg (show ¬ (1 : Int) = 0 by omega), if_neg h1, pu_w (x := x + 1) (by omega), pu_w (x := r + 1) (by omega)]
        exact ih (x + 1) (r + 1) (by omega) (by omega) (by omega) (by omega) (by omega)
    · rw [if_neg hv, if_neg hv]
      exact ⟨x, rfl, rfl⟩
theorem op_count {C M : hp_H} (h : iv C M) (w : Int) : op1 C (f_X7_count w C) (f_X8_count w M) := by
  have ivq := iv_q h (fc.rf C) (fm_z h.2.1)
  unfold f_X7_count f_X8_count f_X4_howMany f_X0_size f_X5_length
  rw [pu_let, up4 M (by omega), mo_outs, up4 M (by omega), ← tr_outs h.1.1, pu_upj (show (9 : Int) ≠ 0 by omega), pu_upj (show (11 : Int) ≠ 0 by omega)]
  obtain ⟨y, y1, y2⟩ := cnt_eq h 1000 0 0 (by omega) (by omega) (by omega) (by omega) (by omega)
  rw [y1, y2, pu_b1, pu_b1, pu_b1, pu_b1, pu_b1, pu_b1, h.1.1.1, h.1.1.2.2.1, h.1.1.2.2.2.1, h.1.1.2.2.2.2.1, h.2.2.1.1, h.2.2.2.2.2.1.1]
  (repeat' split) <;> exact ⟨_, _, rfl, rfl, ivq⟩
theorem op_trace {C M : hp_H} (h : iv C M) (i : Int) : op1 C (f_X7_trace i C) (f_X8_trace i M) := by
  have ivq := iv_q h (fc.rf C) (fm_z h.2.1)
  obtain ⟨k1, k2, k3⟩ := h.2.2.2.2.2.2.2
  unfold f_X7_trace f_X8_trace f_X1_traced
  rw [pu_let, pu_upj (show (25 : Int) ≠ 0 by omega), pu_w (by omega), mo_in, pu_b1, pu_01, k1, up4 M (by omega)]
  by_cases h1 : i < 0
  · rw [if_pos h1, if_neg (show ¬ (0 ≤ i ∧ i ≤ M 0 25 - 1) by omega), pu_b1]
    exact ⟨_, _, rfl, rfl, ivq⟩
  · rw [if_neg h1]
    by_cases h2 : i < M 0 25
    · rw [if_pos h2, if_pos (show 0 ≤ i ∧ i ≤ M 0 25 - 1 by omega), pu_ck (by omega), pu_ck (by omega), pu_b1, k3 i (by omega) h2]
      exact ⟨_, _, rfl, rfl, ivq⟩
    · rw [if_neg h2, if_neg (show ¬ (0 ≤ i ∧ i ≤ M 0 25 - 1) by omega), pu_b1]
      exact ⟨_, _, rfl, rfl, ivq⟩
