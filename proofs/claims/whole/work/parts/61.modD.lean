/-- the reference's own frame while it foretells -/
def fi (M M' : hp_H) : Prop := (∀ b, b ≠ 6 → b ≠ 9 → b ≠ 10 → b ≠ 11 → M' b = M b) ∧ iv_z M'
theorem fi.tr {M M' M2 : hp_H} (h : fi M M') (h2 : fi M' M2) : fi M M2 := ⟨fun b b1 b2 b3 b4 => by rw [h2.1 b b1 b2 b3 b4, h.1 b b1 b2 b3 b4], h2.2⟩
theorem fi.rf {M : hp_H} (h : iv_z M) : fi M M := ⟨fun _ _ _ _ _ => rfl, h⟩
theorem fi.fm {M M' : hp_H} (hz : iv_z M) (h : fi (hp_up M 0 0 0) M') : fm M M' := ⟨fun b b0 b1 b2 b3 b4 => by rw [h.1 b b1 b2 b3 b4, pu_upa b0], fun j j0 => by rw [h.1 0 (by omega) (by omega) (by omega) (by omega), pu_upj j0], fun k hk => (h.2 k hk).2⟩
theorem iv_z0 {M : hp_H} (hz : iv_z M) : iv_z (hp_up M 0 0 0) := fun k hk => by rw [pu_upa (by omega), pu_upa (by omega)]; exact hz k hk
theorem sq_hrs_out {m : Int → Int} {i : Nat} {k : Int} (hk : k < 0 ∨ 41 ≤ k) : sq_hrs m i k = m k := sq_hrs_at m (by omega) i
theorem mo_lay {M : hp_H} (hz : iv_z M) : ∃ M', f_X8_layThen M = some M' ∧ M' 6 = M 4 ∧ fi M M' := by
  refine ⟨_, mo_layThen M, ?_, fun b b1 _ _ _ => fi_ne b1, fun k hk => ?_⟩
  · funext k
    by_cases hk : 0 ≤ k ∧ k < 41
    · rw [fi_in (by omega), Int.sub_zero]
    · rw [fi_out (by omega), (hz k (by omega)).1, (hz k (by omega)).2]
  · rw [fi_ne (by omega), fi_out (by omega)]
    exact hz k hk
theorem fi_of {M M' : hp_H} (hz : iv_z M) (h1 : ∀ b, b ≠ 6 → b ≠ 9 → b ≠ 10 → M' b = M b) (h6 : ∀ k, (k < 0 ∨ 41 ≤ k) → M' 6 k = M 6 k) : fi M M' := ⟨fun b b1 b2 b3 _ => h1 b b1 b2 b3, fun k hk => ⟨by rw [h1 4 (by omega) (by omega) (by omega)]; exact (hz k hk).1, by rw [h6 k hk]; exact (hz k hk).2⟩⟩
theorem mh_hour {M : hp_H} (hz : iv_z M) (hm : sq_ok (M 6)) : ∃ M', f_X8_hour 6 M = some (sq_n (M 6), M') ∧ fi M M' ∧ M' 6 = sq_hr (M 6) ∧ (∀ j, 0 ≤ j → j < 4 → M' 9 j = sq_c (M 6) j) ∧ (∀ p, 0 ≤ p → p < 6 → M' 10 p = sq_ld (M 6) 4 p) ∧ M' 11 = M 11 := by
  obtain ⟨M', g1, g2, g3, g4, g5⟩ := mo_hour (a := 6) (by omega) hm
  exact ⟨M', g1, fi_of hz g2 (fun k hk => by rw [g3, sq_hr_at _ (by omega)]), g3, g4, g5, g2 11 (by omega) (by omega) (by omega)⟩
theorem mh_hours {n : Int} {M : hp_H} (hz : iv_z M) (hm : sq_ok (M 6)) (h0 : 0 ≤ n ∧ n ≤ 300) (hh : M 6 3 + n ≤ 2000) : ∃ M', f_X8_hoursOf 6 n M = some M' ∧ fi M M' ∧ M' 6 = sq_hrs (M 6) n.toNat := by
  obtain ⟨M', g1, g2, g3⟩ := mo_hoursOf (a := 6) (by omega) hm h0 hh
  exact ⟨M', g1, fi_of hz g2 (fun k hk => by rw [g3, sq_hrs_out hk]), g3⟩
theorem mh_posts {l lane goal : Int} {M : hp_H} (hz : iv_z M) (hl : 0 ≤ l ∧ l < 4) : ∃ M', f_X8_posts 6 l lane goal M = some M' ∧ fi M M' ∧ M' 6 = sq_post (M 6) l lane goal := by
  obtain ⟨M', g1, g2, g3⟩ := mo_posts (a := 6) (l := l) (lane := lane) (goal := goal) (H := M) hl
  refine ⟨M', g1, fi_of hz (fun b b1 _ _ => g2 b b1) (fun k hk => ?_), g3⟩
  rw [g3]
  unfold sq_post
  rw [if_neg (by omega), if_neg (by omega), if_neg (by omega)]
theorem mh_db_2 {l : Int} (hl : 0 ≤ l ∧ l < 4) : ∀ (n r : Nat) (most k : Int) (H : hp_H), 0 ≤ k → k ≤ 200 → -300 ≤ most → most ≤ 200 → r = (most + 1 - k).toNat → r < n → sq_ok (H 6) → H 6 3 + r ≤ 1900 → ∃ H', ∃ i : Nat, f_X8_doneBy_2 n l most k H = some (sq_by l r k (H 6), H') ∧ (∀ b, b ≠ 6 → b ≠ 9 → b ≠ 10 → H' b = H b) ∧ H' 6 = sq_hrs (H 6) i ∧ i ≤ r ∧ (sq_by l r k (H 6) ≠ NN → sq_by l r k (H 6) = k + i) := by
  intro n
  induction n with
  | zero => intro r most k H _ _ _ _ _ h; omega
  | succ n ih =>
    intro r most k H h0 h2 hm0 hm1 hr hn hm hh
    rw [f_X8_doneBy_2]
    by_cases hv : most < k
    · rw [if_pos hv, show r = 0 by omega]
      exact ⟨H, 0, rfl, fun _ _ _ _ => rfl, rfl, by omega, fun q => absurd rfl q⟩
    · obtain ⟨r2, rfl⟩ : ∃ r2, r = r2 + 1 := ⟨r - 1, by omega⟩
      rw [if_neg hv, mo_isDone hl, pu_b1, pu_01]
      unfold sq_by
      by_cases hd : H 6 (5 + 3 * l) = 1 ∧ H 6 (6 + 3 * l) = H 6 (7 + 3 * l)
      · rw [if_pos hd, if_pos hd]
        exact ⟨H, 0, rfl, fun _ _ _ _ => rfl, rfl, by omega, fun _ => by simp⟩
      · rw [if_neg hd, if_neg hd]
        obtain ⟨H2, e2, f2, c2, -, -⟩ := mo_hour (a := 6) (by omega) hm
        rw [e2, pu_b2, pu_let, pu_w (by omega)]
        have h33 : H2 6 3 = H 6 3 + 1 := by rw [c2]; rfl
        by_cases hk : k + 1 ≤ 200
        · obtain ⟨H3, i, e3, f3, c3, d3, d4⟩ := ih r2 most (k + 1) H2 (by omega) hk hm0 hm1 (by omega) (by omega) (by rw [c2]; exact sq_hr_ok hm (by omega)) (by rw [h33]; omega)
          rw [c2] at e3 c3 d4
          refine ⟨H3, i + 1, e3, fun b b1 b2 b3 => by rw [f3 b b1 b2 b3, f2 b b1 b2 b3], by rw [c3, sq_hrs_s], by omega, fun hne => by rw [d4 hne]; omega⟩
        · have e0 : r2 = 0 := by omega
          subst e0
          obtain ⟨n2, rfl⟩ : ∃ n2, n = n2 + 1 := ⟨n - 1, by omega⟩
          rw [f_X8_doneBy_2, if_pos (by omega)]
          exact ⟨H2, 1, rfl, f2, c2, by omega, fun q => absurd rfl q⟩
theorem mh_doneBy {l most : Int} {M : hp_H} (hz : iv_z M) (hl : 0 ≤ l ∧ l < 4) (hm : sq_ok (M 6)) (h1 : -300 ≤ most ∧ most ≤ 200) (hh : M 6 3 ≤ 1600) : ∃ M', ∃ i : Nat, f_X8_doneBy l most M = some (sq_by l (most + 1).toNat 0 (M 6), M') ∧ fi M M' ∧ M' 6 = sq_hrs (M 6) i ∧ i ≤ (most + 1).toNat ∧ (sq_by l (most + 1).toNat 0 (M 6) ≠ NN → sq_by l (most + 1).toNat 0 (M 6) = i) := by
  unfold f_X8_doneBy
  obtain ⟨M', i, g1, g2, g3, g4, g5⟩ := mh_db_2 hl 1000 _ most 0 M (by omega) (by omega) h1.1 h1.2 (by rw [Int.sub_zero]) (by omega) hm (by omega)
  exact ⟨M', i, g1, fi_of hz g2 (fun k hk => by rw [g3, sq_hrs_out hk]), g3, g4, fun q => by rw [g5 q]; omega⟩
theorem mh_home {M : hp_H} (hz : iv_z M) (x : Int) : fi M (hp_up M 6 4 x) ∧ hp_up M 6 4 x 6 = sq_hm (M 6) x := by
  refine ⟨⟨fun b b1 _ _ _ => pu_upa b1, fun k hk => ⟨by rw [pu_upa (by omega)]; exact (hz k hk).1, by rw [pu_upj (by omega)]; exact (hz k hk).2⟩⟩, ?_⟩
  funext k
  unfold sq_hm
  by_cases hk : k = 4
  · subst hk; rw [pu_ups]; simp
  · rw [pu_upj hk, if_neg hk]
/-! the guard of a question on a letter -/
theorem g3a {g o : Prop} [Decidable g] [Decidable o] (hg : g) (ho : o) : (if g then (if o then (0 : Int) else -1000002) else -1000001) = 0 := by rw [if_pos hg, if_pos ho]
theorem g3b {g o : Prop} [Decidable g] [Decidable o] (hg : g) (ho : ¬ o) : (if g then (if o then (0 : Int) else -1000002) else -1000001) = -1000002 := by rw [if_pos hg, if_neg ho]
theorem g3c {g o : Prop} [Decidable g] [Decidable o] (hg : ¬ g) : (if g then (if o then (0 : Int) else -1000002) else -1000001) = -1000001 := by rw [if_neg hg]
theorem n2 : ¬ (-1000002 : Int) = 0 := by omega
theorem n1 : ¬ (-1000001 : Int) = 0 := by omega
theorem op_letterAhead {C M : hp_H} (h : iv C M) (l n : Int) : op2 (f_X7_letterAhead l n C) (f_X8_letterAhead l n M) := by
  have ivq := iv_q h (fc.rf C) (fm_z h.2.1)
  have z0 := iv_z0 h.2.1
  unfold f_X7_letterAhead f_X8_letterAhead
  rw [g_within, pu_b1, g_refusal h.1.1, pu_b1, pu_let, m_posted, up4 M (by omega), pu_b1, pu_01, mo_in, pu_b1, pu_01]
  by_cases hl : 0 < M 4 0 ∧ 0 ≤ l ∧ l ≤ 3
  · rw [if_pos hl, mo_isOut (by omega), up4 M (by omega), pu_b1, pu_01]
    by_cases hn : 0 ≤ n ∧ n ≤ 99
    · have hg : (0 ≤ n ∧ n ≤ 99) ∧ 0 < M 4 0 ∧ 0 ≤ l ∧ l ≤ 3 := ⟨hn, hl⟩
      by_cases ho : M 4 (5 + 3 * l) = 1
      · obtain ⟨hok, hh⟩ := iv_ok h (by omega)
        have a3 := hok.2.2.2.1
        obtain ⟨C', k1, k2⟩ := fo_placeBehind h.1.1 hok (by omega) ho hn hh
        obtain ⟨M2, g1, g2, g3⟩ := mo_lay z0
        rw [up4 M (by omega)] at g2
        obtain ⟨M3, w1, w2, w3⟩ := mh_hours (n := n) g3.2 (by rw [g2]; exact hok) (by omega) (by rw [g2]; omega)
        rw [g3a hg ho, if_pos rfl, k1, pu_b2, if_pos hn, if_pos ho, g1, pu_b1, w1, pu_b1, mo_its1 (by omega), pu_b1, w3, g2]
        exact ⟨_, C', M3, rfl, rfl, iv_q h k2.fc (fi.fm h.2.1 (g3.tr w2))⟩
      · rw [g3b hg ho, if_neg n2, if_pos hn, if_neg ho]
        exact ⟨_, C, _, rfl, rfl, ivq⟩
    · have hg : ¬ ((0 ≤ n ∧ n ≤ 99) ∧ 0 < M 4 0 ∧ 0 ≤ l ∧ l ≤ 3) := fun q => hn q.1
      rw [g3c hg, if_neg n1, if_neg hn]
      exact ⟨_, C, _, rfl, rfl, ivq⟩
  · have hg : ¬ ((0 ≤ n ∧ n ≤ 99) ∧ 0 < M 4 0 ∧ 0 ≤ l ∧ l ≤ 3) := fun q => hl q.2
    rw [g3c hg, if_neg n1, if_neg hl]
    exact ⟨_, C, _, rfl, rfl, ivq⟩
theorem op_arrives {C M : hp_H} (h : iv C M) (l : Int) : op2 (f_X7_arrives l C) (f_X8_arrives l M) := by
  have ivq := iv_q h (fc.rf C) (fm_z h.2.1)
  have z0 := iv_z0 h.2.1
  have gr := g_refusal h.1.1 l (c := True)
  rw [if_pos trivial] at gr
  unfold f_X7_arrives f_X8_arrives
  rw [gr, pu_b1, pu_let, m_posted, up4 M (by omega), pu_b1, pu_01]
  by_cases hl : 0 < M 4 0 ∧ 0 ≤ l ∧ l ≤ 3
  · have hg : True ∧ 0 < M 4 0 ∧ 0 ≤ l ∧ l ≤ 3 := ⟨trivial, hl⟩
    rw [if_pos hl, mo_isOut (by omega), up4 M (by omega), pu_b1, pu_01]
    by_cases ho : M 4 (5 + 3 * l) = 1
    · obtain ⟨hok, hh⟩ := iv_ok h (by omega)
      have a3 := hok.2.2.2.1
      obtain ⟨C', k1, k2⟩ := fo_arrival h.1.1 hok (l := l) (by omega) hh
      obtain ⟨M2, g1, g2, g3⟩ := mo_lay z0
      rw [up4 M (by omega)] at g2
      obtain ⟨M3, i, w1, w2, -⟩ := mh_doneBy (l := l) (most := 99) g3.2 (by omega) (by rw [g2]; exact hok) (by omega) (by rw [g2]; omega)
      rw [g2] at w1
      have w1 : f_X8_doneBy l 99 M2 = some (sq_by l 100 0 (M 4), M3) := w1
      rw [g3a hg ho, if_pos rfl, k1, pu_b2, if_pos ho, g1, pu_b1, w1, pu_b2]
      exact ⟨_, C', M3, rfl, rfl, iv_q h k2.fc (fi.fm h.2.1 (g3.tr w2))⟩
    · rw [g3b hg ho, if_neg n2, if_neg ho]
      exact ⟨_, C, _, rfl, rfl, ivq⟩
  · have hg : ¬ (True ∧ 0 < M 4 0 ∧ 0 ≤ l ∧ l ≤ 3) := fun q => hl q.2
    rw [g3c hg, if_neg n1, if_neg hl]
    exact ⟨_, C, _, rfl, rfl, ivq⟩
theorem op_answer {C M : hp_H} (h : iv C M) (l : Int) : op2 (f_X7_answer l C) (f_X8_answer l M) := by
  have ivq := iv_q h (fc.rf C) (fm_z h.2.1)
  have z0 := iv_z0 h.2.1
  have gr := g_refusal h.1.1 l (c := True)
  rw [if_pos trivial] at gr
  unfold f_X7_answer f_X8_answer
  rw [gr, pu_b1, pu_let, m_posted, up4 M (by omega), pu_b1, pu_01]
  by_cases hl : 0 < M 4 0 ∧ 0 ≤ l ∧ l ≤ 3
  · have hg : True ∧ 0 < M 4 0 ∧ 0 ≤ l ∧ l ≤ 3 := ⟨trivial, hl⟩
    rw [if_pos hl, mo_isOut (by omega), up4 M (by omega), pu_b1, pu_01]
    by_cases ho : M 4 (5 + 3 * l) = 1
    · obtain ⟨hok, hh⟩ := iv_ok h (by omega)
      have a0 := hok.1
      have a3 := hok.2.2.2.1
      obtain ⟨C', k1, k2⟩ := fo_answer h.1.1 hok (l := l) (by omega) ho hh
      obtain ⟨M2, g1, g2, g3⟩ := mo_lay z0
      rw [up4 M (by omega)] at g2
      obtain ⟨M3, i, w1, w2, w3, w4, w5⟩ := mh_doneBy (l := l) (most := 99) g3.2 (by omega) (by rw [g2]; exact hok) (by omega) (by rw [g2]; omega)
      rw [g2] at w1 w3 w5
      have w1 : f_X8_doneBy l 99 M2 = some (sq_by l 100 0 (M 4), M3) := w1
      have w5 : sq_by l 100 0 (M 4) ≠ NN → sq_by l 100 0 (M 4) = i := w5
      rw [g3a hg ho, if_pos rfl, k1, pu_b2, if_pos ho, g1, pu_b1, w1, pu_b2]
      unfold sq_ans
      by_cases hq : sq_by l 100 0 (M 4) = NN
      · rw [if_pos (show _ = (-1000000 : Int) from hq), if_pos hq]
        exact ⟨_, C', M3, rfl, rfl, iv_q h k2.fc (fi.fm h.2.1 (g3.tr w2))⟩
      · have e4 : M3 4 = M 4 := by rw [(g3.tr w2).1 4 (by omega) (by omega) (by omega) (by omega), up4 M (by omega)]
        have hlw := (hok.2.2.2.2.2.1 l (by omega) (by omega)).2 ho
        rw [if_neg (show ¬ _ = (-1000000 : Int) from hq), if_neg hq, mo_its2 (by omega), mo_its1 (by omega), pu_b1, pu_b1, e4]
        obtain ⟨M4, q1, q2, q3⟩ := mh_posts (l := 3) (lane := M 4 (7 + 3 * l)) (goal := M 4 (6 + 3 * l)) w2.2 (by omega)
        rw [w3] at q3
        have hok2 := sq_hrs_ok hok i (by omega)
        have e0 : sq_hrs (M 4) i 0 = M 4 0 := sq_hrs_at _ (by omega) i
        have hok3 := sq_post_ok hok2 (l := 3) (a := M 4 (7 + 3 * l)) (g := M 4 (6 + 3 * l)) (by omega) (by omega) (by omega) (by omega)
        have e3 : sq_post (sq_hrs (M 4) i) 3 (M 4 (7 + 3 * l)) (M 4 (6 + 3 * l)) 3 = M 4 3 + i := by unfold sq_post; rw [if_neg (by omega), if_neg (by omega), if_neg (by omega), sq_hrs_3]
        obtain ⟨M5, j, v1, v2, -⟩ := mh_doneBy (l := 3) (most := 99) q2.2 (by omega) (by rw [q3]; exact hok3) (by omega) (by rw [q3, e3]; omega)
        rw [q3] at v1
        have v1 : f_X8_doneBy 3 99 M4 = some (sq_by 3 100 0 (sq_post (sq_hrs (M 4) i) 3 (M 4 (7 + 3 * l)) (M 4 (6 + 3 * l))), M5) := v1
        have hb := sq_by_sh l 100 0 (M 4)
        have hb2 := sq_by_sh 3 100 0 (sq_post (sq_hrs (M 4) i) 3 (M 4 (7 + 3 * l)) (M 4 (6 + 3 * l)))
        have hi := w5 hq
        rw [q1, pu_b1, v1, pu_b2, show (sq_by l 100 0 (M 4)).toNat = i by omega]
        have ff := fi.fm h.2.1 (((g3.tr w2).tr q2).tr v2)
        dsimp only
        by_cases hr : sq_by 3 100 0 (sq_post (sq_hrs (M 4) i) 3 (M 4 (7 + 3 * l)) (M 4 (6 + 3 * l))) = NN
        · rw [if_pos (show _ = (-1000000 : Int) from hr), if_pos hr]
          exact ⟨_, C', M5, rfl, rfl, iv_q h k2.fc ff⟩
        · rw [if_neg (show ¬ _ = (-1000000 : Int) from hr), if_neg hr, pu_w (by omega)]
          exact ⟨_, C', M5, rfl, rfl, iv_q h k2.fc ff⟩
    · rw [g3b hg ho, if_neg n2, if_neg ho]
      exact ⟨_, C, _, rfl, rfl, ivq⟩
  · have hg : ¬ (True ∧ 0 < M 4 0 ∧ 0 ≤ l ∧ l ≤ 3) := fun q => hl q.2
    rw [g3c hg, if_neg n1, if_neg hl]
    exact ⟨_, C, _, rfl, rfl, ivq⟩
