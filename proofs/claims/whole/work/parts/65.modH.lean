/-! busy -/
theorem mh_bz_46 {n w : Int} (H : hp_H) : f_X8_busy_46 1000 n w 0 H = some (hp_fill H 11 0 0 6 (fun _ => 0)) := by
  refine lp_fill (F := fun q v H => f_X8_busy_46 q n w v H) (src := fun _ _ => 0) ?_ (fun _ _ _ _ => rfl) 1000 0 H (by omega) (by omega) (by omega)
  intro q v H h0 hN
  show f_X8_busy_46 (q + 1) n w v H = _
  rw [f_X8_busy_46]
  by_cases hv : v < 6
  · rw [if_pos hv, if_pos hv, pu_ck (by omega), pu_let, pu_let, pu_w (by omega), Int.zero_add]
  · rw [if_neg hv, if_neg hv]
theorem mh_bz_85 {n w k : Int} : ∀ (q : Nat) (p : Int) (M : hp_H), 0 ≤ p → p ≤ 6 → (6 - p).toNat < q → (∀ j, p ≤ j → j < 6 → (0 ≤ M 11 j ∧ M 11 j ≤ 1000) ∧ 0 ≤ M 10 j ∧ M 10 j ≤ 4) → ∃ M', f_X8_busy_85 q n w k p M = some M' ∧ (∀ b, b ≠ 11 → M' b = M b) ∧ (∀ j, j < p → M' 11 j = M 11 j) ∧ (∀ j, p ≤ j → j < 6 → M' 11 j = M 11 j + M 10 j) := by
  intro q
  induction q with
  | zero => intro p M _ _ h; omega
  | succ q ih =>
    intro p M p0 p1 hq hb
    rw [f_X8_busy_85]
    by_cases hv : p < 6
    · have hbp := hb p (by omega) hv
      rw [if_pos hv, pu_ck ⟨p0, hv⟩, pu_let, pu_let, pu_w (by omega), pu_w (by omega)]
      have q1 : ∀ y, p + 1 ≤ y → y < 6 → hp_up M 11 p (M 11 p + M 10 p) 11 y = M 11 y := fun y _ _ => pu_upj (by omega)
      have hst : ∃ M', f_X8_busy_85 q n w k (p + 1) (hp_up M 11 p (M 11 p + M 10 p)) = some M' ∧ (∀ b, b ≠ 11 → M' b = hp_up M 11 p (M 11 p + M 10 p) b) ∧ (∀ j, j < p + 1 → M' 11 j = hp_up M 11 p (M 11 p + M 10 p) 11 j) ∧ (∀ j, p + 1 ≤ j → j < 6 → M' 11 j = hp_up M 11 p (M 11 p + M 10 p) 11 j + hp_up M 11 p (M 11 p + M 10 p) 10 j) := by
        refine ih (p + 1) _ (by omega) (by omega) (by omega) (fun j j0 j1 => ?_)
        rw [pu_upa (show (10 : Int) ≠ 11 by omega), pu_upj (by omega)]
        exact hb j (by omega) j1
      obtain ⟨M', r1, r2, r3, r4⟩ := hst
      refine ⟨M', r1, fun b hb => by rw [r2 b hb, pu_upa hb], fun j j1 => by rw [r3 j (by omega), pu_upj (by omega)], fun j j0 j1 => ?_⟩
      by_cases hj : j = p
      · subst hj; rw [r3 j (by omega), pu_ups]
      · rw [r4 j (by omega) j1, pu_upj hj, pu_upa (show (10 : Int) ≠ 11 by omega)]
    · rw [if_neg hv]
      exact ⟨M, rfl, fun _ _ => rfl, fun _ _ => rfl, fun j _ _ => by omega⟩
theorem mh_bz_67 {n w : Int} (hn : n ≤ 99) : ∀ (q : Nat) (k : Int) (o : Int → Int) (M : hp_H), 0 ≤ k → k ≤ n → (n - k).toNat < q → iv_z M → sq_ok (M 6) → M 6 3 + (n - k) ≤ 2000 → (∀ p, 0 ≤ p → p < 6 → M 11 p = o p ∧ 0 ≤ o p ∧ o p ≤ 4 * k) → ∃ M', f_X8_busy_67 q n w k M = some M' ∧ fi M M' ∧ (∀ p, 0 ≤ p → p < 6 → M' 11 p = sq_of (n - k).toNat (M 6) o p) := by
  intro q
  induction q with
  | zero => intro k o M _ _ h; omega
  | succ q ih =>
    intro k o M k0 k1 hq hz hm hh ho
    rw [f_X8_busy_67]
    by_cases hv : k < n
    · obtain ⟨M2, g1, g2, g3, -, g5, g6⟩ := mh_hour hz hm
      have e3 : M2 6 3 = M 6 3 + 1 := by rw [g3]; rfl
      have ld := fun p => sq_ld_in (m := M 6) 4 p
      obtain ⟨M3, r1, r2, r3, r4⟩ := mh_bz_85 (n := n) (w := w) (k := k) 1000 0 M2 (by omega) (by omega) (by omega) (fun j j0 j1 => by
        rw [g5 j j0 j1, g6, (ho j j0 j1).1]
        have := ho j j0 j1
        have := ld j
        omega)
      have hz3 : fi M2 M3 := ⟨fun b _ _ _ b4 => r2 b b4, fun j hj => by rw [r2 4 (by omega), r2 6 (by omega)]; exact g2.2 j hj⟩
      have h6 : M3 6 = sq_hr (M 6) := by rw [r2 6 (by omega), g3]
      have hst := ih (k + 1) (fun p => o p + sq_ld (M 6) 4 p) M3 (by omega) (by omega) (by omega) hz3.2 (by rw [h6]; exact sq_hr_ok hm (by omega)) (by rw [h6, show sq_hr (M 6) 3 = M 6 3 + 1 from rfl]; omega) (fun p p0 p1 => by
        rw [r4 p p0 p1, g5 p p0 p1, g6, (ho p p0 p1).1]
        have := ho p p0 p1
        have := ld p
        exact ⟨rfl, by omega, by omega⟩)
      obtain ⟨M4, s1, s2, s3⟩ := hst
      rw [if_pos hv, g1, pu_b2, r1, pu_b1, pu_let, pu_w (by omega), s1, show (n - k).toNat = (n - (k + 1)).toNat + 1 by omega]
      refine ⟨M4, rfl, (g2.tr hz3).tr s2, fun p p0 p1 => ?_⟩
      rw [s3 p p0 p1, h6]
      rfl
    · rw [if_neg hv, show (n - k).toNat = 0 by omega]
      exact ⟨M, rfl, fi.rf hz, fun p p0 p1 => (ho p p0 p1).1⟩
theorem mh_bz_126 {w : Int} {M : hp_H} {o : Int → Int} (ho : ∀ p, 0 ≤ p → p < 6 → M 11 p = o p) : ∀ (q : Nat) (b p : Int), 0 ≤ b → b < p → b < 6 → p ≤ 6 → (6 - p).toNat < q → f_X8_busy_126 q w b p M = some (sq_mx o (6 - p).toNat p b) := by
  intro q
  induction q with
  | zero => intro b p _ _ _ _ h; omega
  | succ q ih =>
    intro b p b0 bp b6 p6 hq
    rw [f_X8_busy_126]
    by_cases hp : p < 6
    · rw [if_pos hp, pu_ck (by omega), pu_ck (by omega), pu_let, pu_let, pu_w (by omega), ho b b0 b6, ho p (by omega) (by omega), ih _ (p + 1) (by split <;> omega) (by split <;> omega) (by split <;> omega) (by omega) (by omega), show (6 - p).toNat = (6 - (p + 1)).toNat + 1 by omega]
      rfl
    · rw [if_neg hp, show (6 - p).toNat = 0 by omega]
      rfl
theorem op_busy {C M : hp_H} (h : iv C M) (n w : Int) : op2 (f_X7_busy n w C) (f_X8_busy n w M) := by
  have ivq := iv_q h (fc.rf C) (fm_z h.2.1)
  have z0 := iv_z0 h.2.1
  unfold f_X7_busy f_X8_busy
  rw [g_stands h.1.1, pu_b1, pu_01, pu_let, m_there, up4 M (by omega), pu_b1, pu_01, g_span, pu_b1, pu_01, g_within, pu_b1, pu_01, mo_in, pu_b1, pu_01, mo_in, pu_b1, pu_01]
  by_cases hl : 0 < M 4 0
  · rw [if_pos hl, if_pos hl]
    by_cases hn : 1 ≤ n ∧ n ≤ 99
    · rw [if_pos hn, if_pos hn]
      by_cases hw : 0 ≤ w ∧ w ≤ 1
      · obtain ⟨hok, hh⟩ := iv_ok h (by omega)
        have a3 := hok.2.2.2.1
        obtain ⟨C', k1, k2⟩ := fo_busiest h.1.1 hok (n := n) (what := w) hn hh
        obtain ⟨M2, g1, g2, g3⟩ := mo_lay z0
        rw [up4 M (by omega)] at g2
        have f2 : fi M2 (hp_fill M2 11 0 0 6 (fun _ => 0)) := ⟨fun b _ _ _ b4 => fi_ne b4, fun j hj => by rw [fi_ne (by omega), fi_ne (by omega)]; exact g3.2 j hj⟩
        have e6 : hp_fill M2 11 0 0 6 (fun _ => 0) 6 = M 4 := by rw [fi_ne (by omega), g2]
        obtain ⟨M3, r1, r2, r3⟩ := mh_bz_67 (n := n) (w := w) hn.2 1000 0 (fun _ => 0) (hp_fill M2 11 0 0 6 (fun _ => 0)) (by omega) (by omega) (by omega) f2.2 (by rw [e6]; exact hok) (by rw [e6]; omega) (fun p p0 p1 => ⟨fi_in (by omega), by omega, by omega⟩)
        rw [e6, Int.sub_zero] at r3
        have ff := iv_q h k2 (fi.fm h.2.1 ((g3.tr f2).tr r2))
        have hb := sq_mx_in (o := sq_of n.toNat (M 4) (fun _ => 0)) 5 1 0 (by omega) (by omega)
        rw [if_pos hw, if_pos hw, k1, pu_b2, g1, pu_b1, mh_bz_46, pu_b1, r1, pu_b1, mh_bz_126 r3 1000 0 1 (by omega) (by omega) (by omega) (by omega) (by omega), pu_b1, show (6 - 1 : Int).toNat = 5 from rfl]
        by_cases h0 : w = 0
        · rw [if_pos h0, if_pos h0]
          exact ⟨_, C', M3, rfl, rfl, ff⟩
        · rw [if_neg h0, if_neg h0, pu_ck (by omega), r3 _ hb.1 (by omega)]
          exact ⟨_, C', M3, rfl, rfl, ff⟩
      · rw [if_neg hw, if_neg hw]
        exact ⟨_, _, _, rfl, rfl, ivq⟩
    · rw [if_neg hn, if_neg hn]
      exact ⟨_, _, _, rfl, rfl, ivq⟩
  · rw [if_neg hl, if_neg hl]
    exact ⟨_, _, _, rfl, rfl, ivq⟩
/-! bestHour -/
theorem sq_by_lim (l : Int) : ∀ (r R : Nat) (k : Int) (m : Int → Int), r ≤ R → 0 ≤ k → sq_by l r k m = if sq_by l R k m ≠ NN ∧ sq_by l R k m < k + r then sq_by l R k m else NN
  | 0, R, k, m, _, h0 => by
    have := sq_by_sh l R k m
    rw [if_neg (fun q => by rcases this with h | h; exact q.1 h; have := q.2; omega)]
    rfl
  | r + 1, 0, k, m, h, h0 => by omega
  | r + 1, R + 1, k, m, h, h0 => by
    rw [sq_by, sq_by]
    by_cases hd : m (5 + 3 * l) = 1 ∧ m (6 + 3 * l) = m (7 + 3 * l)
    · rw [if_pos hd, if_pos hd, if_pos ⟨by unfold NN; omega, by omega⟩]
    · rw [if_neg hd, if_neg hd, sq_by_lim l r R (k + 1) _ (by omega) (by omega), show k + 1 + (r : Int) = k + ((r + 1 : Nat) : Int) by omega]
theorem mh_bh_50 {lane goal what : Int} {M0 : hp_H} (hm : sq_ok (M0 4)) (hg : 0 ≤ goal ∧ goal < M0 4 0) (hla : 0 ≤ lane ∧ lane < M0 4 0) (hh : M0 4 3 ≤ 999) : ∀ (q : Nat) (bs v5 k b : Int) (M : hp_H), 0 ≤ k → k ≤ M0 4 1 → (M0 4 1 - k).toNat < q → (bs = NN → v5 = NN ∧ b = 99) → (bs ≠ NN → v5 = b) → 0 ≤ b → b ≤ 99 → fi M0 M → ∃ M', f_X8_bestHour_50 q lane goal what bs v5 k M = some ((sq_best lane goal (M0 4 1 - k).toNat k (sq_hrs (M0 4) k.toNat) bs b).1, if (sq_best lane goal (M0 4 1 - k).toNat k (sq_hrs (M0 4) k.toNat) bs b).1 = NN then NN else (sq_best lane goal (M0 4 1 - k).toNat k (sq_hrs (M0 4) k.toNat) bs b).2, M') ∧ fi M0 M' := by
  have a1 := hm.2.1
  have a3 := hm.2.2.2.1
  intro q
  induction q with
  | zero => intro bs v5 k b M _ _ h; omega
  | succ q ih =>
    intro bs v5 k b M k0 k1 hq hb1 hb2 b0 b9 hf
    rw [f_X8_bestHour_50, hf.e4]
    by_cases hv : k < M0 4 1
    · obtain ⟨M2, g1, g2, g3⟩ := mo_lay hf.2
      rw [hf.e4] at g2
      obtain ⟨M3, w1, w2, w3⟩ := mh_hours (n := k) g3.2 (by rw [g2]; exact hm) (by omega) (by rw [g2]; omega)
      rw [g2] at w3
      obtain ⟨M4, q1, q2, q3⟩ := mh_posts (l := 3) (lane := lane) (goal := goal) w2.2 (by omega)
      rw [w3] at q3
      have e0 : sq_hrs (M0 4) k.toNat 0 = M0 4 0 := sq_hrs_at _ (by omega) _
      have hok3 := sq_post_ok (sq_hrs_ok hm k.toNat (by omega)) (l := 3) (a := lane) (g := goal) (by omega) (by omega) (by omega) (by omega)
      have e3 : sq_post (sq_hrs (M0 4) k.toNat) 3 lane goal 3 = M0 4 3 + k := by unfold sq_post; rw [if_neg (by omega), if_neg (by omega), if_neg (by omega), sq_hrs_3]; omega
      obtain ⟨M5, j, v1, v2, -⟩ := mh_doneBy (l := 3) (most := 99 - k) q2.2 (by omega) (by rw [q3]; exact hok3) (by omega) (by rw [q3, e3]; omega)
      rw [q3] at v1
      have ff := (((hf.tr g3).tr w2).tr q2).tr v2
      rw [if_pos hv, g1, pu_b1, w1, pu_b1, q1, pu_b1, pu_w (x := 99 - k) (by omega), v1, pu_b2, pu_let, pu_let, pu_let, pu_let, pu_w (x := k + 1) (by omega), show (M0 4 1 - k).toNat = (M0 4 1 - (k + 1)).toNat + 1 by omega, sq_best]
      have hr := sq_by_lim 3 (b - k + 1).toNat (99 - k + 1).toNat 0 (sq_post (sq_hrs (M0 4) k.toNat) 3 lane goal) (by omega) (by omega)
      have hsh := sq_by_sh 3 (99 - k + 1).toNat 0 (sq_post (sq_hrs (M0 4) k.toNat) 3 lane goal)
      generalize sq_by 3 (b - k + 1).toNat 0 (sq_post (sq_hrs (M0 4) k.toNat) 3 lane goal) = d at hr ⊢
      generalize sq_by 3 (99 - k + 1).toNat 0 (sq_post (sq_hrs (M0 4) k.toNat) 3 lane goal) = c at hr hsh ⊢
      have ehr : sq_hr (sq_hrs (M0 4) k.toNat) = sq_hrs (M0 4) (k + 1).toNat := by rw [show (k + 1).toNat = k.toNat + 1 by omega]; rfl
      rw [ehr]
      by_cases hc : c = NN
      · have ed : d = NN := by rw [hr, if_neg (fun q => q.1 hc)]
        rw [if_pos ed, if_pos (show c = -1000000 from hc), if_pos rfl, if_pos rfl]
        exact ih bs v5 (k + 1) b M5 (by omega) (by omega) (by omega) hb1 hb2 b0 b9 ff
      · have hsh : 0 ≤ c ∧ c < 0 + ((99 - k + 1).toNat : Int) := by rcases hsh with h | h; exact absurd h hc; exact h
        have hcn : ¬ c = NN := hc
        rw [if_neg (show ¬ c = -1000000 from hc), pu_w (x := k + c) (by omega)]
        by_cases hn : bs = NN
        · have := hb1 hn
          have ed : d = c := by rw [hr, if_pos ⟨hc, by omega⟩]
          rw [if_pos (show bs = -1000000 from hn), if_neg (show ¬ (1 : Int) = 0 by omega), if_neg (show ¬ (1 : Int) = 0 by omega), ed, if_neg hcn]
          exact ih k (k + c) (k + 1) (k + c) M5 (by omega) (by omega) (by omega) (fun q => by unfold NN at q; omega) (fun _ => rfl) (by omega) (by omega) ff
        · have := hb2 hn
          rw [if_neg (show ¬ bs = -1000000 from hn)]
          by_cases hlt : v5 < k + c
          · have ed : d = NN := by rw [hr, if_neg (fun q => by have := q.2; omega)]
            rw [if_pos hlt, if_pos rfl, if_pos rfl, if_pos ed]
            exact ih bs v5 (k + 1) b M5 (by omega) (by omega) (by omega) hb1 hb2 b0 b9 ff
          · have ed : d = c := by rw [hr, if_pos ⟨hc, by omega⟩]
            rw [if_neg hlt, if_neg (show ¬ (1 : Int) = 0 by omega), if_neg (show ¬ (1 : Int) = 0 by omega), ed, if_neg hcn]
            exact ih k (k + c) (k + 1) (k + c) M5 (by omega) (by omega) (by omega) (fun q => by unfold NN at q; omega) (fun _ => rfl) (by omega) (by omega) ff
    · rw [if_neg hv, show (M0 4 1 - k).toNat = 0 by omega]
      refine ⟨M, ?_, hf⟩
      unfold sq_best
      dsimp only
      by_cases hn : bs = NN
      · rw [if_pos hn, (hb1 hn).1]
      · rw [if_neg hn, hb2 hn]
theorem op_bestHour {C M : hp_H} (h : iv C M) (lane goal w : Int) : op2 (f_X7_bestHour lane goal w C) (f_X8_bestHour lane goal w M) := by
  have ivq := iv_q h (fc.rf C) (fm_z h.2.1)
  have z0 := iv_z0 h.2.1
  have hm := iv_m h
  unfold f_X7_bestHour f_X8_bestHour
  rw [g_lane h.1.1, g_lane h.1.1, pu_let, m_lane (by rw [up4 M (by omega)]; exact hm.2), m_lane (by rw [up4 M (by omega)]; exact hm.2), up4 M (by omega), pu_b1, pu_b1, pu_b1, pu_b1, pu_01, pu_01, pu_01, pu_01, g_within, mo_in, pu_b1, pu_b1, pu_01, pu_01]
  by_cases h1 : 0 ≤ lane ∧ lane < M 4 0
  · rw [if_pos h1, if_pos h1]
    by_cases h2 : 0 ≤ goal ∧ goal < M 4 0
    · rw [if_pos h2, if_pos h2]
      by_cases he : lane = goal
      · rw [if_pos he, if_pos he]
        exact ⟨_, _, _, rfl, rfl, ivq⟩
      · rw [if_neg he, if_neg he]
        by_cases hw : 0 ≤ w ∧ w ≤ 1
        · obtain ⟨hok, hh⟩ := iv_ok h (by omega)
          have a1 := hok.2.1
          obtain ⟨C', k1, k2⟩ := fo_soonest (lane := lane) (goal := goal) (what := w) h.1.1 hok h1 h2 hh
          obtain ⟨M', g1, g2⟩ := mh_bh_50 (M0 := hp_up M 0 0 0) (lane := lane) (goal := goal) (what := w) (by rw [up4 M (by omega)]; exact hok) (by rw [up4 M (by omega)]; exact h2) (by rw [up4 M (by omega)]; exact h1) (by rw [up4 M (by omega)]; exact hh) 1000 (-1000000) (-1000000) 0 99 _ (by omega) (by rw [up4 M (by omega)]; omega) (by rw [up4 M (by omega)]; omega) (fun _ => ⟨rfl, rfl⟩) (fun q => absurd rfl q) (by omega) (by omega) (fi.rf z0)
          rw [up4 M (by omega), Int.sub_zero, show sq_hrs (M 4) (0 : Int).toNat = M 4 from rfl, show (-1000000 : Int) = NN from rfl] at g1
          have ff := iv_q h k2.fc (fi.fm h.2.1 g2)
          rw [if_pos hw, if_pos hw, k1, pu_b2, show (-1000000 : Int) = NN from rfl, g1, pu_b3]
          by_cases h0 : w = 0
          · rw [if_pos h0, if_pos h0]
            exact ⟨_, C', M', rfl, rfl, ff⟩
          · rw [if_neg h0, if_neg h0]
            exact ⟨_, C', M', rfl, rfl, ff⟩
        · rw [if_neg hw, if_neg hw]
          exact ⟨_, _, _, rfl, rfl, ivq⟩
    · rw [if_neg h2, if_neg h2]
      exact ⟨_, _, _, rfl, rfl, ivq⟩
  · rw [if_neg h1, if_neg h1]
    exact ⟨_, _, _, rfl, rfl, ivq⟩
