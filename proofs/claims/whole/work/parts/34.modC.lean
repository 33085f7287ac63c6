theorem sq_hrs_s (m : Int → Int) : ∀ r : Nat, sq_hrs (sq_hr m) r = sq_hrs m (r + 1)
  | 0 => rfl
  | r + 1 => by show sq_hr (sq_hrs (sq_hr m) r) = sq_hr (sq_hrs m (r + 1)); rw [sq_hrs_s m r]
theorem mo_hr_9 {a : Int} {m : Int → Int} (ha : a ≠ 9 ∧ a ≠ 10) (hm : sq_ok m) : ∀ (n : Nat) (l : Int) (H : hp_H), 0 ≤ l → l ≤ 4 → (4 - l).toNat < n → H a = sq_mv m l → (∀ j, 0 ≤ j → j < 4 → H 9 j = sq_c m j) →
    ∃ H', f_X8_hour_9 n a (sq_np m l) l H = some (sq_np m 4, H') ∧ (∀ b, b ≠ a → H' b = H b) ∧ H' a = sq_mv m 4 := by
  intro n
  induction n with
  | zero => intro l H _ _ h; omega
  | succ n ih =>
    intro l H h0 h4 hn hH h9
    rw [f_X8_hour_9]
    by_cases hl : l < 4
    · have hl4 : 0 ≤ l ∧ l < 4 := ⟨h0, hl⟩
      have hnp := sq_np_in m l
      have a3 := hm.2.2.2.1
      have hok : sq_ok (H a) := by rw [hH]; exact sq_mv_ok hm l
      rw [if_pos hl, pu_ck hl4, pu_w (x := l + 1) (by omega), pu_w (x := 3 * l) (by omega), pu_w (x := 5 + 3 * l) (by omega), pu_w (x := 5 + 3 * l + 1) (by omega), show 5 + 3 * l + 1 = 6 + 3 * l by omega, pu_w (x := sq_np m l + 1) (by omega)]
      simp only [pu_let, pu_ck (show 0 ≤ 6 + 3 * l ∧ 6 + 3 * l < 41 by omega)]
      have key : ∃ H2, (if H 9 l = -1000000 then some (sq_np m l, H) else hp_b1 (f_X8_its a l 1 H) fun c11 => hp_b1 (f_X8_its a l 2 H) fun c13 => hp_b1 (f_X8_place a (H 9 l) (hp_w (H a 3 + 1)) H) fun c15 => some (sq_np m l + 1, hp_up H a (6 + 3 * l) (if (if c11 < c13 then if c13 < c15 then (1 : Int) else 0 else if c15 < c13 then 1 else 0) = 0 then c15 else c13))) = some (sq_np m (l + 1), H2) ∧ (∀ b, b ≠ a → H2 b = H b) ∧ H2 a = sq_mv m (l + 1) := by
        rw [sq_np_s m l h0 hl]
        have hc := h9 l h0 hl
        by_cases hq : sq_c m l = NN
        · rw [if_pos (show H 9 l = -1000000 by rw [hc]; exact hq), if_pos hq, Int.add_zero]
          refine ⟨H, rfl, fun _ _ => rfl, ?_⟩
          rw [hH]
          funext k
          by_cases hk : k = 6 + 3 * l
          · subst hk
            rw [sq_mv_w m _ l h0 hl, sq_mv_w m _ l h0 hl, if_neg (by omega), if_pos (by omega)]
            unfold sq_to
            rw [if_pos hq]
          · have : l = 0 ∨ l = 1 ∨ l = 2 ∨ l = 3 := by omega
            rcases this with rfl | rfl | rfl | rfl <;> (unfold sq_mv; simp at hk; simp [hk])
        · rw [if_neg (show ¬ H 9 l = -1000000 by rw [hc]; exact hq), if_neg hq]
          have hcin : 0 ≤ sq_c m l ∧ sq_c m l < m 2 := by
            rcases sq_car_in hm l (sq_ld m l.toNat) with h | h
            · exact absurd h hq
            · exact h
          have e3 : H a 3 = m 3 := by rw [hH]; exact sq_mv_at m l (by omega)
          rw [mo_its1 hl4, mo_its2 hl4, pu_b1, pu_b1, hc, e3, pu_w (x := m 3 + 1) (by omega), mo_place hok hcin.1 (by rw [hH, sq_mv_at m l (by omega)]; exact hcin.2) (by omega), pu_b1]
          have ep : sq_place (H a) (sq_c m l) (m 3 + 1) = sq_place m (sq_c m l) (m 3 + 1) := by
            rw [hH]
            exact sq_place_congr (sq_mv_at m l (by omega)) (sq_mv_at m l (by omega)) (fun j hj => sq_mv_at m l (by omega)) hcin.1
          have e6 : H a (6 + 3 * l) = m (6 + 3 * l) := by rw [hH, sq_mv_w m l l h0 hl, if_neg (by omega)]
          have e7 : H a (7 + 3 * l) = m (7 + 3 * l) := by rw [hH]; exact sq_mv_at m l (by omega)
          rw [ep, e6, e7]
          have et : (if (if m (6 + 3 * l) < m (7 + 3 * l) then if m (7 + 3 * l) < sq_place m (sq_c m l) (m 3 + 1) then (1 : Int) else 0 else if sq_place m (sq_c m l) (m 3 + 1) < m (7 + 3 * l) then 1 else 0) = 0 then sq_place m (sq_c m l) (m 3 + 1) else m (7 + 3 * l)) = sq_to m l := by
            unfold sq_to
            rw [if_neg hq]
          rw [et]
          refine ⟨_, rfl, fun b hb => pu_upa hb, ?_⟩
          funext k
          by_cases hk : k = 6 + 3 * l
          · subst hk
            rw [pu_ups, sq_mv_w m _ l h0 hl, if_pos (by omega)]
          · rw [pu_upj hk, hH]
            have : l = 0 ∨ l = 1 ∨ l = 2 ∨ l = 3 := by omega
            rcases this with rfl | rfl | rfl | rfl <;> (unfold sq_mv; simp at hk; simp [hk])
      obtain ⟨H2, k1, k2, k3⟩ := key
      rw [k1, pu_b2]
      obtain ⟨H3, e3, f3, c3⟩ := ih (l + 1) H2 (by omega) (by omega) (by omega) k3 (fun j j0 j4 => by rw [k2 9 (fun q => ha.1 q.symm)]; exact h9 j j0 j4)
      exact ⟨H3, e3, fun b hb => by rw [f3 b hb, k2 b hb], c3⟩
    · rw [if_neg hl]
      have : l = 4 := by omega
      subst this
      exact ⟨H, rfl, fun _ _ => rfl, hH⟩
theorem mo_hour {a : Int} {H : hp_H} (ha : a ≠ 9 ∧ a ≠ 10) (hm : sq_ok (H a)) : ∃ H', f_X8_hour a H = some (sq_n (H a), H') ∧ (∀ b, b ≠ a → b ≠ 9 → b ≠ 10 → H' b = H b) ∧ H' a = sq_hr (H a) ∧ (∀ j, 0 ≤ j → j < 4 → H' 9 j = sq_c (H a) j) ∧ (∀ p, 0 ≤ p → p < 6 → H' 10 p = sq_ld (H a) 4 p) := by
  unfold f_X8_hour
  obtain ⟨H2, e2, f2, c2, l2⟩ := mo_find ha hm
  have a3 := hm.2.2.2.1
  rw [e2, pu_b1]
  have e0 : sq_np (H a) 0 = 0 := by unfold sq_np; simp
  have e4 : sq_np (H a) 4 = sq_n (H a) := by unfold sq_np sq_n; simp
  have em : H2 a = sq_mv (H a) 0 := by rw [f2 a ha.1 ha.2]; funext k; unfold sq_mv; simp
  obtain ⟨H3, e3, f3, c3⟩ := mo_hr_9 (a := a) (m := H a) ha hm 1000 0 H2 (by omega) (by omega) (by omega) em c2
  rw [e0] at e3
  rw [e3, pu_b2, pu_let, e4]
  have h3 : H3 a 3 = H a 3 := by rw [c3]; exact sq_mv_at _ _ (by omega)
  rw [h3, pu_w (by omega)]
  refine ⟨_, rfl, fun b b1 b2 b3 => by rw [pu_upa b1, f3 b b1, f2 b b2 b3], ?_, fun j j0 j4 => by rw [pu_upa (fun q => ha.1 q.symm), f3 9 (fun q => ha.1 q.symm)]; exact c2 j j0 j4, fun p p0 p6 => by rw [pu_upa (fun q => ha.2 q.symm), f3 10 (fun q => ha.2 q.symm)]; exact l2 p p0 p6⟩
  funext k
  unfold sq_hr
  by_cases hk : k = 3
  · subst hk; rw [pu_ups]; simp
  · rw [pu_upj hk, c3]
    unfold sq_mv
    simp [hk]
theorem mo_ho_2 {a : Int} (ha : a ≠ 9 ∧ a ≠ 10) : ∀ (n : Nat) (v k : Int) (H : hp_H), 0 ≤ k → k ≤ v → v ≤ 300 → (v - k).toNat < n → sq_ok (H a) → H a 3 + (v - k) ≤ 2000 → ∃ H', f_X8_hoursOf_2 n a v k H = some H' ∧ (∀ b, b ≠ a → b ≠ 9 → b ≠ 10 → H' b = H b) ∧ H' a = sq_hrs (H a) (v - k).toNat := by
  intro n
  induction n with
  | zero => intro v k H _ _ _ h; omega
  | succ n ih =>
    intro v k H h0 hk h3 hn hm hh
    rw [f_X8_hoursOf_2]
    by_cases hv : k < v
    · obtain ⟨H2, e2, f2, c2, -, -⟩ := mo_hour ha hm
      rw [if_pos hv, e2, pu_b2, pu_let, pu_w (by omega)]
      have h33 : H2 a 3 = H a 3 + 1 := by rw [c2]; rfl
      obtain ⟨H3, e3, f3, c3⟩ := ih v (k + 1) H2 (by omega) (by omega) h3 (by omega) (by rw [c2]; exact sq_hr_ok hm (by omega)) (by rw [h33]; omega)
      refine ⟨H3, e3, fun b b1 b2 b3 => by rw [f3 b b1 b2 b3, f2 b b1 b2 b3], ?_⟩
      rw [c3, c2, show (v - k).toNat = (v - (k + 1)).toNat + 1 by omega]
      exact sq_hrs_s _ _
    · rw [if_neg hv]
      exact ⟨H, rfl, fun _ _ _ _ => rfl, by rw [show (v - k).toNat = 0 by omega]; rfl⟩
theorem mo_hoursOf {a n : Int} {H : hp_H} (ha : a ≠ 9 ∧ a ≠ 10) (hm : sq_ok (H a)) (h0 : 0 ≤ n ∧ n ≤ 300) (hh : H a 3 + n ≤ 2000) : ∃ H', f_X8_hoursOf a n H = some H' ∧ (∀ b, b ≠ a → b ≠ 9 → b ≠ 10 → H' b = H b) ∧ H' a = sq_hrs (H a) n.toNat := by
  unfold f_X8_hoursOf
  obtain ⟨H2, e2, f2, c2⟩ := mo_ho_2 ha 1000 n 0 H (by omega) h0.1 h0.2 (by omega) hm (by omega)
  rw [e2, pu_b1]
  exact ⟨H2, rfl, f2, by rw [c2]; congr 1; omega⟩
theorem mo_posts {a l lane goal : Int} {H : hp_H} (hl : 0 ≤ l ∧ l < 4) : ∃ H', f_X8_posts a l lane goal H = some H' ∧ (∀ b, b ≠ a → H' b = H b) ∧ H' a = sq_post (H a) l lane goal := by
  unfold f_X8_posts
  rw [pu_w (x := 3 * l) (by omega), pu_w (x := 5 + 3 * l) (by omega), pu_w (x := 5 + 3 * l + 1) (by omega), pu_w (x := 5 + 3 * l + 2) (by omega), pu_ck (by omega), pu_let, pu_ck (by omega), pu_let, pu_ck (by omega), pu_let]
  refine ⟨_, rfl, fun b hb => by rw [pu_upa hb, pu_upa hb, pu_upa hb], ?_⟩
  funext k
  unfold sq_post
  rw [pu_up, pu_up, pu_up]
  by_cases k1 : k = 5 + 3 * l
  · rw [if_neg (by omega), if_neg (by omega), if_pos ⟨rfl, k1⟩, if_pos k1]
  · by_cases k2 : k = 6 + 3 * l
    · rw [if_neg (by omega), if_pos ⟨rfl, by omega⟩, if_neg k1, if_pos k2]
    · by_cases k3 : k = 7 + 3 * l
      · rw [if_pos ⟨rfl, by omega⟩, if_neg k1, if_neg k2, if_pos k3]
      · rw [if_neg (by omega), if_neg (by omega), if_neg (by omega), if_neg k1, if_neg k2, if_neg k3]
def sq_bit (c : Prop) [Decidable c] (k : Int) : Int := if c then hp_shl 1 k else 0
/-- which letters are out; which are at their goals -/
def sq_outs (m : Int → Int) : Int := hp_or (hp_or (hp_or (hp_or 0 (sq_bit (m 5 = 1) 0)) (sq_bit (m 8 = 1) 1)) (sq_bit (m 11 = 1) 2)) (sq_bit (m 14 = 1) 3)
def sq_dones (m : Int → Int) : Int := hp_or (hp_or (hp_or (hp_or 0 (sq_bit (m 5 = 1 ∧ m 6 = m 7) 0)) (sq_bit (m 8 = 1 ∧ m 9 = m 10) 1)) (sq_bit (m 11 = 1 ∧ m 12 = m 13) 2)) (sq_bit (m 14 = 1 ∧ m 15 = m 16) 3)
theorem pu_01 {c : Prop} [Decidable c] {α : Type} {x y : α} : (if (if c then (1 : Int) else 0) = 0 then x else y) = if c then y else x := by
  by_cases h : c
  · rw [if_pos h, if_pos h, if_neg (by omega)]
  · rw [if_neg h, if_neg h, if_pos rfl]
theorem mo_outs (a : Int) (H : hp_H) : f_X8_outs a H = some (sq_outs (H a)) := by
  unfold f_X8_outs
  have st : ∀ n (x l : Int), 0 ≤ l → l < 4 → f_X8_outs_4 (n + 1) a x l H = f_X8_outs_4 n a (hp_or x (sq_bit (H a (5 + 3 * l) = 1) l)) (l + 1) H := fun n x l h0 h4 => by
    rw [f_X8_outs_4, if_pos h4, mo_isOut ⟨h0, h4⟩, pu_b1, pu_let, pu_let, pu_let, pu_01, pu_w (by omega)]
    rfl
  rw [st 999 0 0 (by omega) (by omega), st 998 _ (0 + 1) (by omega) (by omega), st 997 _ (0 + 1 + 1) (by omega) (by omega), st 996 _ (0 + 1 + 1 + 1) (by omega) (by omega), f_X8_outs_4, if_neg (by omega), pu_b1]
  rfl
theorem mo_dones (a : Int) (H : hp_H) : f_X8_dones a H = some (sq_dones (H a)) := by
  unfold f_X8_dones
  have st : ∀ n (x l : Int), 0 ≤ l → l < 4 → f_X8_dones_4 (n + 1) a x l H = f_X8_dones_4 n a (hp_or x (sq_bit (H a (5 + 3 * l) = 1 ∧ H a (6 + 3 * l) = H a (7 + 3 * l)) l)) (l + 1) H := fun n x l h0 h4 => by
    rw [f_X8_dones_4, if_pos h4, mo_isDone ⟨h0, h4⟩, pu_b1, pu_let, pu_let, pu_let, pu_01, pu_w (by omega)]
    rfl
  rw [st 999 0 0 (by omega) (by omega), st 998 _ (0 + 1) (by omega) (by omega), st 997 _ (0 + 1 + 1) (by omega) (by omega), st 996 _ (0 + 1 + 1 + 1) (by omega) (by omega), f_X8_dones_4, if_neg (by omega), pu_b1]
  rfl
/-- the row 41 long, as 'then' is laid: what lies beyond stays -/
theorem mo_layThen (H : hp_H) : f_X8_layThen H = some (hp_fill H 6 0 0 41 (H 4)) := by
  unfold f_X8_layThen
  rw [lp_fill (F := fun n v H => f_X8_layThen_2 n v H) (N := 41) (c := 6) (off := 0) (src := fun H => H 4) ?_ (fun H v j x => by rw [pu_upa (by omega)]) 1000 0 H (by omega) (by omega) (by omega), pu_b1]
  intro n v H h0 hN
  show f_X8_layThen_2 (n + 1) v H = _
  rw [f_X8_layThen_2]
  by_cases hv : v < 41
  · rw [if_pos hv, if_pos hv, pu_ck (by omega), pu_let, pu_let, pu_w (by omega), Int.zero_add]
  · rw [if_neg hv, if_neg hv]
/-- behind how many hours, of r at most, from k on -/
def sq_by (l : Int) : Nat → Int → (Int → Int) → Int
  | 0, _, _ => NN
  | r + 1, k, m => if m (5 + 3 * l) = 1 ∧ m (6 + 3 * l) = m (7 + 3 * l) then k else sq_by l r (k + 1) (sq_hr m)
theorem mo_db_2 {l : Int} (hl : 0 ≤ l ∧ l < 4) : ∀ (n r : Nat) (most k : Int) (H : hp_H), 0 ≤ k → k ≤ 200 → -300 ≤ most → most ≤ 200 → r = (most + 1 - k).toNat → r < n → sq_ok (H 6) → H 6 3 + r ≤ 1900 → ∃ H', f_X8_doneBy_2 n l most k H = some (sq_by l r k (H 6), H') ∧ (∀ b, b ≠ 6 → b ≠ 9 → b ≠ 10 → H' b = H b) := by
  intro n
  induction n with
  | zero => intro r most k H _ _ _ _ _ h; omega
  | succ n ih =>
    intro r most k H h0 h2 hm0 hm1 hr hn hm hh
    rw [f_X8_doneBy_2]
    by_cases hv : most < k
    · rw [if_pos hv, show r = 0 by omega]
      exact ⟨H, rfl, fun _ _ _ _ => rfl⟩
    · obtain ⟨r2, rfl⟩ : ∃ r2, r = r2 + 1 := ⟨r - 1, by omega⟩
      rw [if_neg hv, mo_isDone hl, pu_b1, pu_01]
      unfold sq_by
      by_cases hd : H 6 (5 + 3 * l) = 1 ∧ H 6 (6 + 3 * l) = H 6 (7 + 3 * l)
      · rw [if_pos hd, if_pos hd]
        exact ⟨H, rfl, fun _ _ _ _ => rfl⟩
      · rw [if_neg hd, if_neg hd]
        obtain ⟨H2, e2, f2, c2, -, -⟩ := mo_hour (a := 6) (by omega) hm
        rw [e2, pu_b2, pu_let, pu_w (by omega)]
        have h33 : H2 6 3 = H 6 3 + 1 := by rw [c2]; rfl
        by_cases hk : k + 1 ≤ 200
        · obtain ⟨H3, e3, f3⟩ := ih r2 most (k + 1) H2 (by omega) hk hm0 hm1 (by omega) (by omega) (by rw [c2]; exact sq_hr_ok hm (by omega)) (by rw [h33]; omega)
          exact ⟨H3, by rw [e3, c2], fun b b1 b2 b3 => by rw [f3 b b1 b2 b3, f2 b b1 b2 b3]⟩
        · have e0 : r2 = 0 := by omega
          subst e0
          obtain ⟨n2, rfl⟩ : ∃ n2, n = n2 + 1 := ⟨n - 1, by omega⟩
          rw [f_X8_doneBy_2, if_pos (by omega)]
          exact ⟨H2, rfl, f2⟩
theorem mo_doneBy {l most : Int} {H : hp_H} (hl : 0 ≤ l ∧ l < 4) (hm : sq_ok (H 6)) (h1 : -300 ≤ most ∧ most ≤ 200) (hh : H 6 3 ≤ 1600) : ∃ H', f_X8_doneBy l most H = some (sq_by l (most + 1).toNat 0 (H 6), H') ∧ (∀ b, b ≠ 6 → b ≠ 9 → b ≠ 10 → H' b = H b) := by
  unfold f_X8_doneBy
  exact mo_db_2 hl 1000 _ most 0 H (by omega) (by omega) h1.1 h1.2 (by rw [Int.sub_zero]) (by omega) hm (by omega)
