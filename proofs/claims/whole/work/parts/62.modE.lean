theorem fi.e4 {M M' : hp_H} (h : fi M M') : M' 4 = M 4 := h.1 4 (by omega) (by omega) (by omega) (by omega)
/-- a town is laid, a letter put out, and it runs -/
theorem mh_sp_5 {goal n : Int} {M0 : hp_H} (hm : sq_ok (M0 4)) (hg : 0 ≤ goal ∧ goal < M0 4 0) (hn : 0 ≤ n ∧ n ≤ 99) (hh : M0 4 3 ≤ 999) : ∀ (q : Nat) (x lane : Int) (M : hp_H), 0 ≤ lane → lane ≤ M0 4 0 → (M0 4 0 - lane).toNat < q → fi M0 M → ∃ M', f_X8_spotsBy_5 q goal n x lane M = some (sq_spots (M0 4) goal n (M0 4 0 - lane).toNat lane x, M') ∧ fi M0 M' := by
  intro q
  induction q with
  | zero => intro x lane M _ _ h; omega
  | succ q ih =>
    intro x lane M l0 l1 hq hf
    have a0 := hm.1
    rw [f_X8_spotsBy_5, hf.e4]
    by_cases hv : lane < M0 4 0
    · obtain ⟨M2, g1, g2, g3⟩ := mo_lay hf.2
      rw [hf.e4] at g2
      obtain ⟨M3, q1, q2, q3⟩ := mh_posts (l := 3) (lane := lane) (goal := goal) g3.2 (by omega)
      rw [g2] at q3
      have hok3 := sq_post_ok hm (l := 3) (a := lane) (g := goal) (by omega) (by omega) (by omega) (by omega)
      have e3 : sq_post (M0 4) 3 lane goal 3 = M0 4 3 := by unfold sq_post; rw [if_neg (by omega), if_neg (by omega), if_neg (by omega)]
      obtain ⟨M4, j, v1, v2, -⟩ := mh_doneBy (l := 3) (most := n) q2.2 (by omega) (by rw [q3]; exact hok3) (by omega) (by rw [q3, e3]; omega)
      rw [q3] at v1
      obtain ⟨M5, r1, r2⟩ := ih (hp_or x (if sq_by 3 (n + 1).toNat 0 (sq_post (M0 4) 3 lane goal) = NN then 0 else hp_shl 1 lane)) (lane + 1) M4 (by omega) (by omega) (by omega) (((hf.tr g3).tr q2).tr v2)
      rw [if_pos hv, g1, pu_b1, q1, pu_b1, v1, pu_b2, pu_let, pu_let, pu_let, pu_w (by omega), show (M0 4 0 - lane).toNat = (M0 4 0 - (lane + 1)).toNat + 1 by omega]
      exact ⟨M5, r1, r2⟩
    · rw [if_neg hv, show (M0 4 0 - lane).toNat = 0 by omega]
      exact ⟨M, rfl, hf⟩
theorem mh_spotsBy {goal n : Int} {M : hp_H} (hz : iv_z M) (hm : sq_ok (M 4)) (hg : 0 ≤ goal ∧ goal < M 4 0) (hn : 0 ≤ n ∧ n ≤ 99) (hh : M 4 3 ≤ 999) : ∃ M', f_X8_spotsBy goal n M = some (sq_spots (M 4) goal n (M 4 0).toNat 0 0, M') ∧ fi M M' := by
  have a0 := hm.1
  obtain ⟨M', g1, g2⟩ := mh_sp_5 hm hg hn hh 1000 0 0 M (by omega) (by omega) (by omega) (fi.rf hz)
  unfold f_X8_spotsBy
  rw [g1, pu_b2, Int.sub_zero]
  exact ⟨M', rfl, g2⟩
theorem op_spots {C M : hp_H} (h : iv C M) (goal n : Int) : op2 (f_X7_spots goal n C) (f_X8_spots goal n M) := by
  have ivq := iv_q h (fc.rf C) (fm_z h.2.1)
  have z0 := iv_z0 h.2.1
  have hm := iv_m h
  unfold f_X7_spots f_X8_spots
  rw [g_lane h.1.1, pu_let, m_lane (by rw [up4 M (by omega)]; exact hm.2), up4 M (by omega), pu_b1, pu_b1, pu_01, pu_01, g_span, mo_in, pu_b1, pu_b1, pu_01, pu_01]
  by_cases hp : 0 ≤ goal ∧ goal < M 4 0
  · rw [if_pos hp, if_pos hp]
    by_cases hn : 1 ≤ n ∧ n ≤ 99
    · obtain ⟨hok, hh⟩ := iv_ok h (by omega)
      obtain ⟨C', k1, k2⟩ := fo_spots (goal := goal) (n := n) h.1.1 hok hp (by omega) hh
      obtain ⟨M', g1, g2⟩ := mh_spotsBy (goal := goal) (n := n) z0 (by rw [up4 M (by omega)]; exact hok) (by rw [up4 M (by omega)]; exact hp) (by omega) (by rw [up4 M (by omega)]; exact hh)
      rw [up4 M (by omega)] at g1
      rw [if_pos hn, if_pos hn, k1, pu_b2, g1, pu_b2]
      exact ⟨_, C', M', rfl, rfl, iv_q h k2.fc (fi.fm h.2.1 g2)⟩
    · rw [if_neg hn, if_neg hn]
      exact ⟨_, _, _, rfl, rfl, ivq⟩
  · rw [if_neg hp, if_neg hp]
    exact ⟨_, _, _, rfl, rfl, ivq⟩
theorem mo_findf {M : hp_H} (hz : iv_z M) (hm : sq_ok (M 4)) : ∃ M', f_X8_findCarriers 4 M = some M' ∧ fi M M' ∧ (∀ j, 0 ≤ j → j < 4 → M' 9 j = sq_c (M 4) j) := by
  obtain ⟨M', g1, g2, g3, -⟩ := mo_find (a := 4) (by omega) hm
  exact ⟨M', g1, ⟨fun b _ b2 b3 _ => g2 b b2 b3, fun k hk => by rw [g2 4 (by omega) (by omega), g2 6 (by omega) (by omega)]; exact hz k hk⟩, g3⟩
theorem op_letter {C M : hp_H} (h : iv C M) (l w : Int) : op2 (f_X7_letter l w C) (f_X8_letter l w M) := by
  have ivq := iv_q h (fc.rf C) (fm_z h.2.1)
  have z0 := iv_z0 h.2.1
  unfold f_X7_letter f_X8_letter
  rw [g_letter h.1.1, pu_b1, pu_01, pu_let, m_posted, up4 M (by omega), pu_b1, pu_01]
  by_cases hl : 0 < M 4 0 ∧ 0 ≤ l ∧ l ≤ 3
  · obtain ⟨hok, hh⟩ := iv_ok h (by omega)
    obtain ⟨b1, b2⟩ := hok.2.2.2.2.2.1 l (by omega) (by omega)
    obtain ⟨M', g1, g2, g3⟩ := mo_findf z0 (by rw [up4 M (by omega)]; exact hok)
    have e4 := g2.e4
    rw [up4 M (by omega)] at e4 g3
    have ivf := iv_q h (fc.rf C) (fi.fm h.2.1 g2)
    rw [if_pos hl, if_pos hl, to_isOut h.1.1 (by omega), pu_b1, pu_b1, pu_01, pu_01, mo_in, pu_b1, pu_01, mo_isOut (by omega), up4 M (by omega), pu_b1, pu_01]
    have hc : w = 0 ∨ w = 1 ∨ w = 2 ∨ w = 3 ∨ ¬ (0 ≤ w ∧ w ≤ 3) := by omega
    rcases hc with rfl | rfl | rfl | rfl | hw
    · have t1 : (0 : Int) ≤ 0 ∧ (0 : Int) ≤ 3 := by omega
      have t2 : ¬ (0 : Int) < 0 := by omega
      have t3 : (0 : Int) < 3 := by omega
      rw [if_pos rfl, if_pos t1, if_neg t2, g1, pu_b1, if_pos t3, mo_its0 (by omega), pu_b1, e4]
      rcases b1 with e | e
      · rw [if_neg (show ¬ M 4 (5 + 3 * l) = 1 by omega), e]
        exact ⟨_, _, _, rfl, rfl, ivf⟩
      · rw [if_pos e, e]
        exact ⟨_, _, _, rfl, rfl, ivf⟩
    all_goals first
      | (by_cases ho : M 4 (5 + 3 * l) = 1
         · have ht := h.1.1.2.2.2.2.2.2.2.1 l (by omega) (by omega) ho
           first
           | (rw [if_neg (by omega), if_pos ho, if_pos rfl, pu_ck (by omega), if_pos (by omega), if_pos (by omega), if_pos ho, g1, pu_b1, if_pos (by omega), mo_its1 (by omega), pu_b1, e4]
              exact ⟨_, _, _, rfl, by rw [← ht.1]; rfl, ivf⟩)
           | (rw [if_neg (by omega), if_pos ho, if_neg (by omega), if_pos rfl, pu_ck (by omega), if_pos (by omega), if_pos (by omega), if_pos ho, g1, pu_b1, if_pos (by omega), mo_its2 (by omega), pu_b1, e4]
              exact ⟨_, _, _, rfl, by rw [← ht.2]; rfl, ivf⟩)
           | (obtain ⟨C', k1, k2⟩ := fo_next h.1.1 hok (l := l) (by omega) hh
              rw [if_neg (by omega), if_pos ho, if_neg (by omega), if_neg (by omega), if_pos rfl, k1, pu_b2, if_pos (by omega), if_pos (by omega), if_pos ho, g1, pu_b1, if_neg (by omega), pu_ck (by omega), g3 l (by omega) (by omega)]
              exact ⟨_, _, _, rfl, rfl, iv_q h k2.fc (fi.fm h.2.1 g2)⟩)
           | (rw [if_neg (by omega), if_pos ho, if_neg (by omega), if_neg (by omega), if_neg (by omega), if_neg hw]
              exact ⟨_, _, _, rfl, rfl, ivq⟩)
         · first
           | (rw [if_neg (by omega), if_neg ho, if_pos (by omega), if_pos (by omega), if_neg ho]
              exact ⟨_, _, _, rfl, rfl, ivq⟩)
           | (rw [if_neg (by omega), if_neg ho, if_neg hw]
              exact ⟨_, _, _, rfl, rfl, ivq⟩))
  · rw [if_neg hl, if_neg hl]
    exact ⟨_, C, _, rfl, rfl, ivq⟩
theorem mh_ca_51 {l n : Int} (hl : 0 ≤ l ∧ l < 4) (hn : n ≤ 99) : ∀ (q : Nat) (x k : Int) (M : hp_H), 0 ≤ k → k ≤ n → (n - k).toNat < q → iv_z M → sq_ok (M 6) → M 6 3 + (n - k) ≤ 2000 → ∃ M', f_X8_carriers_51 q l n x k M = some (sq_cars l (n - k).toNat (M 6) x, M') ∧ fi M M' := by
  intro q
  induction q with
  | zero => intro x k M _ _ h; omega
  | succ q ih =>
    intro x k M k0 k1 hq hz hm hh
    rw [f_X8_carriers_51]
    by_cases hv : k < n
    · obtain ⟨M2, g1, g2, g3, g4, -, -⟩ := mh_hour hz hm
      have e3 : M2 6 3 = M 6 3 + 1 := by rw [g3]; rfl
      obtain ⟨M3, r1, r2⟩ := ih (hp_or x (if sq_c (M 6) l = NN then 0 else hp_shl 1 (sq_c (M 6) l))) (k + 1) M2 (by omega) (by omega) (by omega) g2.2 (by rw [g3]; exact sq_hr_ok hm (by omega)) (by rw [e3]; omega)
      rw [if_pos hv, g1, pu_b2, pu_ck hl, g4 l hl.1 hl.2]
      have e5 : (if sq_c (M 6) l = -1000000 then some 0 else some (hp_shl 1 (sq_c (M 6) l)) : Option Int) = some (if sq_c (M 6) l = NN then 0 else hp_shl 1 (sq_c (M 6) l)) := by
        show _ = some (if sq_c (M 6) l = -1000000 then 0 else _)
        split <;> rfl
      rw [e5, pu_b1, pu_let, pu_let, pu_w (by omega), show (n - k).toNat = (n - (k + 1)).toNat + 1 by omega, r1, g3]
      exact ⟨M3, rfl, g2.tr r2⟩
    · rw [if_neg hv, show (n - k).toNat = 0 by omega]
      exact ⟨M, rfl, fi.rf hz⟩
theorem op_carriers {C M : hp_H} (h : iv C M) (l n : Int) : op2 (f_X7_carriers l n C) (f_X8_carriers l n M) := by
  have ivq := iv_q h (fc.rf C) (fm_z h.2.1)
  have z0 := iv_z0 h.2.1
  unfold f_X7_carriers f_X8_carriers
  rw [g_span, pu_b1, g_refusal h.1.1, pu_b1, pu_let, m_posted, up4 M (by omega), pu_b1, pu_01, mo_in, pu_b1, pu_01]
  by_cases hl : 0 < M 4 0 ∧ 0 ≤ l ∧ l ≤ 3
  · rw [if_pos hl, mo_isOut (by omega), up4 M (by omega), pu_b1, pu_01]
    by_cases hn : 1 ≤ n ∧ n ≤ 99
    · have hg : (1 ≤ n ∧ n ≤ 99) ∧ 0 < M 4 0 ∧ 0 ≤ l ∧ l ≤ 3 := ⟨hn, hl⟩
      by_cases ho : M 4 (5 + 3 * l) = 1
      · obtain ⟨hok, hh⟩ := iv_ok h (by omega)
        have a3 := hok.2.2.2.1
        obtain ⟨C', k1, k2⟩ := fo_carriers h.1.1 hok (l := l) (n := n) (by omega) (by omega) hh
        obtain ⟨M2, g1, g2, g3⟩ := mo_lay z0
        rw [up4 M (by omega)] at g2
        obtain ⟨M3, w1, w2⟩ := mh_ca_51 (l := l) (n := n) (by omega) (by omega) 1000 0 0 M2 (by omega) (by omega) (by omega) g3.2 (by rw [g2]; exact hok) (by rw [g2]; omega)
        rw [g3a hg ho, if_pos rfl, k1, pu_b2, if_pos hn, if_pos ho, g1, pu_b1, w1, pu_b2, g2, Int.sub_zero]
        exact ⟨_, C', M3, rfl, rfl, iv_q h k2.fc (fi.fm h.2.1 (g3.tr w2))⟩
      · rw [g3b hg ho, if_neg n2, if_pos hn, if_neg ho]
        exact ⟨_, C, _, rfl, rfl, ivq⟩
    · have hg : ¬ ((1 ≤ n ∧ n ≤ 99) ∧ 0 < M 4 0 ∧ 0 ≤ l ∧ l ≤ 3) := fun q => hn q.1
      rw [g3c hg, if_neg n1, if_neg hn]
      exact ⟨_, C, _, rfl, rfl, ivq⟩
  · have hg : ¬ ((1 ≤ n ∧ n ≤ 99) ∧ 0 < M 4 0 ∧ 0 ≤ l ∧ l ≤ 3) := fun q => hl q.2
    rw [g3c hg, if_neg n1, if_neg hl]
    exact ⟨_, C, _, rfl, rfl, ivq⟩
theorem mh_me_31 {p o : Int} {M : hp_H} (hm : sq_ok (M 4)) (hp : 0 ≤ p ∧ p < M 4 2) (ho : 0 ≤ o ∧ o < M 4 2) : ∀ (q : Nat) (k : Int), 0 ≤ k → k ≤ 100 → (100 - k).toNat < q → f_X8_meet_31 q p o k M = some (sq_meet (M 4) p o (100 - k).toNat k, M) := by
  intro q
  induction q with
  | zero => intro k _ _ h; omega
  | succ q ih =>
    intro k k0 k1 hq
    have a3 := hm.2.2.2.1
    rw [f_X8_meet_31]
    by_cases hv : 99 < k
    · rw [if_pos hv, show (100 - k).toNat = 0 by omega]
      rfl
    · rw [if_neg hv, pu_w (by omega), mo_place hm hp.1 hp.2 (by omega), mo_place hm ho.1 ho.2 (by omega), pu_b1, pu_b1, show (100 - k).toNat = (100 - (k + 1)).toNat + 1 by omega]
      unfold sq_meet
      by_cases he : sq_place (M 4) p (M 4 3 + k) = sq_place (M 4) o (M 4 3 + k)
      · rw [if_pos he, if_pos he]
      · rw [if_neg he, if_neg he, pu_let, pu_w (by omega), ih (k + 1) (by omega) (by omega) (by omega)]
theorem op_meet {C M : hp_H} (h : iv C M) (p o : Int) : op1 C (f_X7_meet p o C) (f_X8_meet p o M) := by
  have hm := iv_m h
  unfold f_X7_meet f_X8_meet
  rw [g_person h.1.1, g_person h.1.1, pu_let, m_person (by rw [up4 M (by omega)]; exact hm.1), m_person (by rw [up4 M (by omega)]; exact hm.1), up4 M (by omega), pu_b1, pu_b1, pu_b1, pu_b1, pu_01, pu_01, pu_01, pu_01]
  have ivq := iv_q h (fc.rf C) (fm_z h.2.1)
  by_cases hp : 0 ≤ p ∧ p < M 4 2
  · rw [if_pos hp, if_pos hp]
    by_cases ho : 0 ≤ o ∧ o < M 4 2
    · obtain ⟨hok, hh⟩ := iv_ok h (by omega)
      rw [if_pos ho, if_pos ho]
      by_cases he : p = o
      · rw [if_pos he, if_pos he]
        exact ⟨_, _, rfl, rfl, ivq⟩
      · rw [if_neg he, if_neg he, fo_meet h.1.1 hok hp ho, pu_b1, mh_me_31 (by rw [up4 M (by omega)]; exact hok) (by rw [up4 M (by omega)]; exact hp) (by rw [up4 M (by omega)]; exact ho) 1000 0 (by omega) (by omega) (by omega), up4 M (by omega)]
        exact ⟨_, _, rfl, rfl, ivq⟩
    · rw [if_neg ho, if_neg ho]
      exact ⟨_, _, rfl, rfl, ivq⟩
  · rw [if_neg hp, if_neg hp]
    exact ⟨_, _, rfl, rfl, ivq⟩
