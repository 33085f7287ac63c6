/-- two Towns that lie apart -/
def ap (t u : Int) : Prop := t + 6 < u ∨ u + 6 < t
theorem to_tl_18 {t u : Int} (hd : ap t u) : ∀ (n : Nat) (v : Int) (H : hp_H), 0 ≤ v → v ≤ 4 → (4 - v).toNat < n → ∃ H', f_X6_takeLetters_18 n t u v H = some H' ∧ (∀ b, b ≠ t + 5 → b ≠ t + 6 → H' b = H b) ∧ (∀ l, v ≤ l → l < 4 → H' (t + 5) l = H (u + 5) l ∧ H' (t + 6) l = H (u + 6) l) ∧ (∀ l, l < v → H' (t + 5) l = H (t + 5) l ∧ H' (t + 6) l = H (t + 6) l) := by
  unfold ap at hd
  intro n
  induction n with
  | zero => intro v H _ _ h; omega
  | succ n ih =>
    intro v H h0 h4 hn
    rw [f_X6_takeLetters_18]
    by_cases hv : v < 4
    · rw [if_pos hv, pu_ck (by omega), pu_let, pu_let, pu_let, pu_w (by omega)]
      obtain ⟨H3, e3, f3, c3, d3⟩ := ih (v + 1) (hp_up (hp_up H (t + 5) v (H (u + 5) v)) (t + 6) v (hp_up H (t + 5) v (H (u + 5) v) (u + 6) v)) (by omega) (by omega) (by omega)
      have q6 : hp_up H (t + 5) v (H (u + 5) v) (u + 6) v = H (u + 6) v := by rw [pu_upa (by omega)]
      rw [q6] at e3 f3 c3 d3 ⊢
      refine ⟨H3, e3, fun b b1 b2 => by rw [f3 b b1 b2, pu_upa b2, pu_upa b1], fun l l1 l2 => ?_, fun l l1 => ?_⟩
      · by_cases hl : l = v
        · subst hl
          obtain ⟨g1, g2⟩ := d3 l (by omega)
          rw [g1, g2, pu_upa (by omega), pu_ups, pu_ups]
          exact ⟨rfl, rfl⟩
        · obtain ⟨g1, g2⟩ := c3 l (by omega) l2
          rw [g1, g2, pu_upa (by omega), pu_upa (by omega), pu_upa (by omega), pu_upa (by omega)]
          exact ⟨rfl, rfl⟩
      · obtain ⟨g1, g2⟩ := d3 l (by omega)
        rw [g1, g2, pu_upj (by omega), pu_upj (by omega), pu_upj (by omega), pu_upj (by omega)]
        exact ⟨rfl, rfl⟩
    · rw [if_neg hv]
      exact ⟨H, rfl, fun _ _ _ => rfl, fun l l1 l2 => by omega, fun l l1 => ⟨rfl, rfl⟩⟩
theorem to_takeL {t u : Int} (hd : ap t u) (H : hp_H) : ∃ H', f_X6_takeLetters t u H = some H' ∧ (∀ b, b ≠ t → b ≠ t + 5 → b ≠ t + 6 → H' b = H b) ∧ (∀ j, j ≠ 3 → j ≠ 4 → H' t j = H t j) ∧ H' t 3 = H u 3 ∧ H' t 4 = H u 4 ∧ (∀ l, 0 ≤ l → l < 4 → H' (t + 5) l = H (u + 5) l ∧ H' (t + 6) l = H (u + 6) l) := by
  have hd2 := hd
  unfold ap at hd2
  unfold f_X6_takeLetters
  rw [pu_let, pu_let]
  obtain ⟨H3, e3, f3, c3, d3⟩ := to_tl_18 hd 1000 0 (hp_up (hp_up H t 3 (H u 3)) t 4 (hp_up H t 3 (H u 3) u 4)) (by omega) (by omega) (by omega)
  rw [e3, pu_b1]
  refine ⟨H3, rfl, fun b b1 b2 b3 => by rw [f3 b b2 b3, pu_upa b1, pu_upa b1], fun j j3 j4 => by rw [f3 t (by omega) (by omega), pu_upj j4, pu_upj j3], by rw [f3 t (by omega) (by omega), pu_upj (by omega), pu_ups], by rw [f3 t (by omega) (by omega), pu_ups, pu_upa (by omega)], fun l l0 l4 => ?_⟩
  obtain ⟨g1, g2⟩ := c3 l l0 l4
  rw [g1, g2, pu_upa (by omega), pu_upa (by omega), pu_upa (by omega), pu_upa (by omega)]
  exact ⟨rfl, rfl⟩
theorem to_tk_34 {t u : Int} (hd : ap t u) : ∀ (n : Nat) (v : Int) (H : hp_H), 0 ≤ v → v ≤ 6 → (6 - v).toNat < n → ∃ H', f_X6_take_34 n t u v H = some H' ∧ (∀ b, b ≠ t + 1 → b ≠ t + 2 → b ≠ t + 3 → b ≠ t + 4 → H' b = H b) ∧ (∀ l, v ≤ l → l < 6 → H' (t + 1) l = H (u + 1) l ∧ H' (t + 2) l = H (u + 2) l ∧ H' (t + 3) l = H (u + 3) l ∧ H' (t + 4) l = H (u + 4) l) ∧ (∀ l, l < v → H' (t + 1) l = H (t + 1) l ∧ H' (t + 2) l = H (t + 2) l ∧ H' (t + 3) l = H (t + 3) l ∧ H' (t + 4) l = H (t + 4) l) := by
  unfold ap at hd
  intro n
  induction n with
  | zero => intro v H _ _ h; omega
  | succ n ih =>
    intro v H h0 h4 hn
    rw [f_X6_take_34]
    by_cases hv : v < 6
    · rw [if_pos hv, pu_ck (by omega), pu_let, pu_let, pu_let, pu_let, pu_let, pu_w (by omega)]
      have q2 : hp_up H (t + 1) v (H (u + 1) v) (u + 2) v = H (u + 2) v := by rw [pu_upa (by omega)]
      rw [q2]
      have q3 : hp_up (hp_up H (t + 1) v (H (u + 1) v)) (t + 2) v (H (u + 2) v) (u + 3) v = H (u + 3) v := by rw [pu_upa (by omega), pu_upa (by omega)]
      rw [q3]
      have q4 : hp_up (hp_up (hp_up H (t + 1) v (H (u + 1) v)) (t + 2) v (H (u + 2) v)) (t + 3) v (H (u + 3) v) (u + 4) v = H (u + 4) v := by rw [pu_upa (by omega), pu_upa (by omega), pu_upa (by omega)]
      rw [q4]
      obtain ⟨H3, e3, f3, c3, d3⟩ := ih (v + 1) (hp_up (hp_up (hp_up (hp_up H (t + 1) v (H (u + 1) v)) (t + 2) v (H (u + 2) v)) (t + 3) v (H (u + 3) v)) (t + 4) v (H (u + 4) v)) (by omega) (by omega) (by omega)
      refine ⟨H3, e3, fun b b1 b2 b3 b4 => by rw [f3 b b1 b2 b3 b4, pu_upa b4, pu_upa b3, pu_upa b2, pu_upa b1], fun l l1 l2 => ?_, fun l l1 => ?_⟩
      · by_cases hl : l = v
        · subst hl
          obtain ⟨g1, g2, g3, g4⟩ := d3 l (by omega)
          rw [g1, g2, g3, g4, pu_ups, pu_upa (by omega), pu_upa (by omega), pu_upa (by omega), pu_ups, pu_upa (by omega), pu_upa (by omega), pu_ups, pu_upa (by omega), pu_ups]
          exact ⟨rfl, rfl, rfl, rfl⟩
        · obtain ⟨g1, g2, g3, g4⟩ := c3 l (by omega) l2
          have z : ∀ i, 1 ≤ i → i ≤ 4 → hp_up (hp_up (hp_up (hp_up H (t + 1) v (H (u + 1) v)) (t + 2) v (H (u + 2) v)) (t + 3) v (H (u + 3) v)) (t + 4) v (H (u + 4) v) (u + i) = H (u + i) := fun i i1 i2 => by rw [pu_upa (by omega), pu_upa (by omega), pu_upa (by omega), pu_upa (by omega)]
          rw [g1, g2, g3, g4, z 1 (by omega) (by omega), z 2 (by omega) (by omega), z 3 (by omega) (by omega), z 4 (by omega) (by omega)]
          exact ⟨rfl, rfl, rfl, rfl⟩
      · obtain ⟨g1, g2, g3, g4⟩ := d3 l (by omega)
        have z : ∀ b, hp_up (hp_up (hp_up (hp_up H (t + 1) v (H (u + 1) v)) (t + 2) v (H (u + 2) v)) (t + 3) v (H (u + 3) v)) (t + 4) v (H (u + 4) v) b l = H b l := fun b => by rw [pu_upj (by omega), pu_upj (by omega), pu_upj (by omega), pu_upj (by omega)]
        rw [g1, g2, g3, g4, z, z, z, z]
        exact ⟨rfl, rfl, rfl, rfl⟩
    · rw [if_neg hv]
      exact ⟨H, rfl, fun _ _ _ _ _ => rfl, fun l l1 l2 => by omega, fun l l1 => ⟨rfl, rfl, rfl, rfl⟩⟩
/-- what a Town copied holds -/
theorem to_take {t u : Int} (hd : ap t u) (H : hp_H) : ∃ H', f_X6_take t u H = some H' ∧ (∀ b, (b < t ∨ t + 6 < b) → H' b = H b) ∧ (∀ j, 0 ≤ j → j < 6 → H' t j = H u j) ∧ (∀ p, 0 ≤ p → p < 6 → H' (t + 1) p = H (u + 1) p ∧ H' (t + 2) p = H (u + 2) p ∧ H' (t + 3) p = H (u + 3) p ∧ H' (t + 4) p = H (u + 4) p) ∧ (∀ l, 0 ≤ l → l < 4 → H' (t + 5) l = H (u + 5) l ∧ H' (t + 6) l = H (u + 6) l) := by
  have hd2 := hd
  unfold ap at hd2
  unfold f_X6_take
  rw [pu_let, pu_let, pu_let, pu_let]
  have q1 : hp_up H t 0 (H u 0) u 1 = H u 1 := by rw [pu_upa (by omega)]
  rw [q1]
  have q2 : hp_up (hp_up H t 0 (H u 0)) t 1 (H u 1) u 2 = H u 2 := by rw [pu_upa (by omega), pu_upa (by omega)]
  rw [q2]
  have q3 : hp_up (hp_up (hp_up H t 0 (H u 0)) t 1 (H u 1)) t 2 (H u 2) u 5 = H u 5 := by rw [pu_upa (by omega), pu_upa (by omega), pu_upa (by omega)]
  rw [q3]
  generalize hK : hp_up (hp_up (hp_up (hp_up H t 0 (H u 0)) t 1 (H u 1)) t 2 (H u 2)) t 5 (H u 5) = K
  have k0 : ∀ b, b ≠ t → K b = H b := fun b hb => by rw [← hK, pu_upa hb, pu_upa hb, pu_upa hb, pu_upa hb]
  obtain ⟨H3, e3, f3, c3, -⟩ := to_tk_34 hd 1000 0 K (by omega) (by omega) (by omega)
  rw [e3, pu_b1]
  obtain ⟨H4, e4, f4, g4, h43, h44, c4⟩ := to_takeL hd H3
  rw [e4, pu_b1]
  have ku : ∀ i, 0 ≤ i → i ≤ 6 → H3 (u + i) = H (u + i) := fun i i0 i6 => by rw [f3 (u + i) (by omega) (by omega) (by omega) (by omega), k0 (u + i) (by omega)]
  have ku0 : H3 u = H u := by have := ku 0 (by omega) (by omega); rw [Int.add_zero] at this; exact this
  refine ⟨H4, rfl, fun b hb => by rw [f4 b (by omega) (by omega) (by omega), f3 b (by omega) (by omega) (by omega) (by omega), k0 b (by omega)], fun j j0 j6 => ?_, fun p p0 p6 => ?_, fun l l0 l4 => ?_⟩
  · have : j = 0 ∨ j = 1 ∨ j = 2 ∨ j = 3 ∨ j = 4 ∨ j = 5 := by omega
    rcases this with rfl | rfl | rfl | rfl | rfl | rfl
    · rw [g4 0 (by omega) (by omega), f3 t (by omega) (by omega) (by omega) (by omega), ← hK, pu_upj (by omega), pu_upj (by omega), pu_upj (by omega), pu_ups]
    · rw [g4 1 (by omega) (by omega), f3 t (by omega) (by omega) (by omega) (by omega), ← hK, pu_upj (by omega), pu_upj (by omega), pu_ups]
    · rw [g4 2 (by omega) (by omega), f3 t (by omega) (by omega) (by omega) (by omega), ← hK, pu_upj (by omega), pu_ups]
    · rw [h43, ku0]
    · rw [h44, ku0]
    · rw [g4 5 (by omega) (by omega), f3 t (by omega) (by omega) (by omega) (by omega), ← hK, pu_ups]
  · obtain ⟨g1, g2, g3, g5⟩ := c3 p p0 p6
    rw [f4 (t + 1) (by omega) (by omega) (by omega), f4 (t + 2) (by omega) (by omega) (by omega), f4 (t + 3) (by omega) (by omega) (by omega), f4 (t + 4) (by omega) (by omega) (by omega), g1, g2, g3, g5, k0 (u + 1) (by omega), k0 (u + 2) (by omega), k0 (u + 3) (by omega), k0 (u + 4) (by omega)]
    exact ⟨rfl, rfl, rfl, rfl⟩
  · obtain ⟨g1, g2⟩ := c4 l l0 l4
    rw [g1, g2, ku 5 (by omega) (by omega), ku 6 (by omega) (by omega)]
    exact ⟨rfl, rfl⟩
theorem to_take_tr {t u : Int} {H H' : hp_H} (h1 : ∀ j, 0 ≤ j → j < 6 → H' t j = H u j) (h2 : ∀ p, 0 ≤ p → p < 6 → H' (t + 1) p = H (u + 1) p ∧ H' (t + 2) p = H (u + 2) p ∧ H' (t + 3) p = H (u + 3) p ∧ H' (t + 4) p = H (u + 4) p) (h3 : ∀ l, 0 ≤ l → l < 4 → H' (t + 5) l = H (u + 5) l ∧ H' (t + 6) l = H (u + 6) l) {m : Int → Int} (h : tr H u m) (hm : m 2 ≤ 6) : tr H' t m := by
  obtain ⟨a0, a1, a2, a3, a5, a4, b, c, d⟩ := h
  refine ⟨by rw [h1 0 (by omega) (by omega)]; exact a0, by rw [h1 1 (by omega) (by omega)]; exact a1, by rw [h1 2 (by omega) (by omega)]; exact a2, by rw [h1 3 (by omega) (by omega)]; exact a3, by rw [h1 5 (by omega) (by omega)]; exact a5, by rw [h1 4 (by omega) (by omega)]; exact a4, fun l h0 h4 => by rw [h1 4 (by omega) (by omega)]; exact b l h0 h4, fun l h0 h4 ho => by rw [(h3 l h0 h4).1, (h3 l h0 h4).2]; exact c l h0 h4 ho, fun p h0 hp => ?_⟩
  obtain ⟨g1, g2, g3, g4⟩ := h2 p h0 (by omega)
  rw [g1, g2, g3, g4]
  exact d p h0 hp
/-- letters anew: the Town u's letters and hour, the rest as t has it -/
theorem to_takeL_tr {t u : Int} (hd : ap t u) {H : hp_H} {m m' : Int → Int} (hu : tr H u m) (ht : tr H t m') (h1 : m' 0 = m 0) (h2 : ∀ j, 17 ≤ j → m' j = m j) (h3 : m' 1 = m 1) (h4 : m' 2 = m 2) : ∃ H', f_X6_takeLetters t u H = some H' ∧ (∀ b, b ≠ t → b ≠ t + 5 → b ≠ t + 6 → H' b = H b) ∧ tr H' t (fun k => if k = 4 then m' 4 else m k) := by
  obtain ⟨H4, e4, f4, g4, h43, h44, c4⟩ := to_takeL hd H
  refine ⟨H4, e4, f4, ?_⟩
  obtain ⟨a0, a1, a2, a3, a5, a4, b, c, d⟩ := hu
  obtain ⟨x0, x1, x2, x3, x5, x4, y, z, w⟩ := ht
  have e : ∀ k, k ≠ 4 → (fun k => if k = 4 then m' 4 else m k) k = m k := fun k hk => if_neg hk
  refine ⟨by rw [e 0 (by omega), g4 0 (by omega) (by omega), x0]; exact h1, by rw [e 1 (by omega), g4 1 (by omega) (by omega), x1]; exact h3, by rw [e 2 (by omega), g4 2 (by omega) (by omega), x2]; exact h4, by rw [e 3 (by omega), h43]; exact a3, by rw [g4 5 (by omega) (by omega), x5]; rfl, by rw [h44]; exact a4, fun l l0 l4 => by rw [e (5 + 3 * l) (by omega), h44]; exact b l l0 l4, fun l l0 l4 ho => ?_, fun p p0 hp => ?_⟩
  · rw [e (5 + 3 * l) (by omega)] at ho
    rw [e (6 + 3 * l) (by omega), e (7 + 3 * l) (by omega), (c4 l l0 l4).1, (c4 l l0 l4).2]
    exact c l l0 l4 ho
  · rw [e 2 (by omega), ← h4] at hp
    obtain ⟨w1, w2, w3, w4⟩ := w p p0 hp
    rw [e (17 + 4 * p) (by omega), e (18 + 4 * p) (by omega), e (19 + 4 * p) (by omega), e (20 + 4 * p) (by omega), f4 (t + 1) (by omega) (by omega) (by omega), f4 (t + 2) (by omega) (by omega) (by omega), f4 (t + 3) (by omega) (by omega) (by omega), f4 (t + 4) (by omega) (by omega) (by omega), w1, w2, w3, w4, h2 _ (by omega), h2 _ (by omega), h2 _ (by omega), h2 _ (by omega)]
    exact ⟨rfl, rfl, rfl, rfl⟩
