/-! the reference's functions: what they answer -/
theorem mo_in (v lo hi : Int) (H : hp_H) : f_X8_in v lo hi H = some (if lo ≤ v ∧ v ≤ hi then 1 else 0) := by
  unfold f_X8_in hp_cmp
  by_cases h1 : v < lo
  · rw [if_pos (by rw [if_neg (by omega), if_neg (by omega)]; omega), if_neg (by omega)]
  · rw [if_neg (by (repeat' split) <;> omega)]
    by_cases h2 : hi < v
    · rw [if_pos (by rw [if_pos h2]; omega), if_neg (by omega)]
    · rw [if_neg (by rw [if_neg h2]; split <;> omega), if_pos (by omega)]
theorem mo_isRow (r : Int) (H : hp_H) : f_X8_isRow r H = some (if 0 ≤ r ∧ r ≤ 7 then 1 else 0) := by
  unfold f_X8_isRow
  rw [mo_in, pu_b1, pu_ck (by split <;> simp)]
theorem mo_of {a p k : Int} {H : hp_H} (hp : 0 ≤ p ∧ p < 6) (hk : 0 ≤ k ∧ k < 4) : f_X8_of a p k H = some (H a (17 + 4 * p + k)) := by
  unfold f_X8_of
  rw [pu_w (x := 4 * p) (by omega), pu_w (x := 17 + 4 * p) (by omega), pu_w (x := 17 + 4 * p + k) (by omega), pu_ck (by omega)]
theorem mo_of0 {a p : Int} {H : hp_H} (hp : 0 ≤ p ∧ p < 6) : f_X8_of a p 0 H = some (H a (17 + 4 * p)) := by rw [mo_of hp (by omega), show 17 + 4 * p + 0 = 17 + 4 * p by omega]
theorem mo_of1 {a p : Int} {H : hp_H} (hp : 0 ≤ p ∧ p < 6) : f_X8_of a p 1 H = some (H a (18 + 4 * p)) := by rw [mo_of hp (by omega), show 17 + 4 * p + 1 = 18 + 4 * p by omega]
theorem mo_of2 {a p : Int} {H : hp_H} (hp : 0 ≤ p ∧ p < 6) : f_X8_of a p 2 H = some (H a (19 + 4 * p)) := by rw [mo_of hp (by omega), show 17 + 4 * p + 2 = 19 + 4 * p by omega]
theorem mo_of3 {a p : Int} {H : hp_H} (hp : 0 ≤ p ∧ p < 6) : f_X8_of a p 3 H = some (H a (20 + 4 * p)) := by rw [mo_of hp (by omega), show 17 + 4 * p + 3 = 20 + 4 * p by omega]
theorem mo_its {a l k : Int} {H : hp_H} (hl : 0 ≤ l ∧ l < 4) (hk : 0 ≤ k ∧ k < 3) : f_X8_its a l k H = some (H a (5 + 3 * l + k)) := by
  unfold f_X8_its
  rw [pu_w (x := 3 * l) (by omega), pu_w (x := 5 + 3 * l) (by omega), pu_w (x := 5 + 3 * l + k) (by omega), pu_ck (by omega)]
theorem mo_its0 {a l : Int} {H : hp_H} (hl : 0 ≤ l ∧ l < 4) : f_X8_its a l 0 H = some (H a (5 + 3 * l)) := by rw [mo_its hl (by omega), show 5 + 3 * l + 0 = 5 + 3 * l by omega]
theorem mo_its1 {a l : Int} {H : hp_H} (hl : 0 ≤ l ∧ l < 4) : f_X8_its a l 1 H = some (H a (6 + 3 * l)) := by rw [mo_its hl (by omega), show 5 + 3 * l + 1 = 6 + 3 * l by omega]
theorem mo_its2 {a l : Int} {H : hp_H} (hl : 0 ≤ l ∧ l < 4) : f_X8_its a l 2 H = some (H a (7 + 3 * l)) := by rw [mo_its hl (by omega), show 5 + 3 * l + 2 = 7 + 3 * l by omega]
theorem mo_isOut {a l : Int} {H : hp_H} (hl : 0 ≤ l ∧ l < 4) : f_X8_isOut a l H = some (if H a (5 + 3 * l) = 1 then 1 else 0) := by
  unfold f_X8_isOut
  rw [mo_its0 hl, pu_b1]
  split <;> rfl
theorem mo_isDone {a l : Int} {H : hp_H} (hl : 0 ≤ l ∧ l < 4) : f_X8_isDone a l H = some (if H a (5 + 3 * l) = 1 ∧ H a (6 + 3 * l) = H a (7 + 3 * l) then 1 else 0) := by
  unfold f_X8_isDone
  rw [mo_isOut hl, pu_b1, mo_its1 hl, mo_its2 hl, pu_b1, pu_b1]
  by_cases h1 : H a (5 + 3 * l) = 1
  · rw [if_pos h1, if_neg (by omega)]
    by_cases h2 : H a (6 + 3 * l) = H a (7 + 3 * l)
    · rw [if_pos h2, if_pos ⟨h1, h2⟩]
    · rw [if_neg h2, if_neg (fun q => h2 q.2)]
  · rw [if_neg h1, if_pos rfl, if_neg (fun q => h1 q.1)]
theorem mo_has {x p : Int} {H : hp_H} (hp : 0 ≤ p ∧ p < 32) : f_X8_has x p H = some (if bi x p = true then 1 else 0) := by
  unfold f_X8_has
  rw [bi_t hp]
  cases bi x p <;> rfl
theorem mo_place {a p h : Int} {H : hp_H} (hm : sq_ok (H a)) (h0 : 0 ≤ p) (hp : p < H a 2) (hh : 0 ≤ h ∧ h ≤ 3000) : f_X8_place a p h H = some (sq_place (H a) p h) := by
  have hm2 := hm
  obtain ⟨a0, a1, a2, a3, a4, a5, a6⟩ := hm2
  obtain ⟨b1, b2, b3, b4⟩ := a6 p h0 hp
  have hp6 : 0 ≤ p ∧ p < 6 := by omega
  have c1 := sq_tm hh.1 (show 0 < H a 1 by omega)
  have c2 := sq_td hh.1 (show 0 < H a 1 by omega)
  unfold f_X8_place sq_place
  rw [mo_of1 hp6, mo_of2 hp6, mo_of0 hp6, mo_of3 hp6, mo_has (x := H a 4) (by omega)]
  simp only [pu_b1]
  by_cases hb : bi (H a 4) p = true
  · rw [if_pos hb, if_pos hb, if_neg (by omega)]
  · rw [if_neg hb, if_neg hb, if_pos rfl, pu_ck (by omega)]
    simp only [pu_let]
    rw [pu_w (x := h.tdiv (H a 1)) (by omega)]
    unfold sq_go
    have hg0 : 0 ≤ (if H a (20 + 4 * p) < h.tmod (H a 1) then h.tmod (H a 1) - H a (20 + 4 * p) else 0) ∧ (if H a (20 + 4 * p) < h.tmod (H a 1) then h.tmod (H a 1) - H a (20 + 4 * p) else 0) ≤ 24 := by split <;> omega
    have e1 : (if H a (20 + 4 * p) < h.tmod (H a 1) then some (hp_w (h.tmod (H a 1) - H a (20 + 4 * p))) else some 0) = some (if H a (20 + 4 * p) < h.tmod (H a 1) then h.tmod (H a 1) - H a (20 + 4 * p) else 0) := by
      split
      · rw [pu_w (by omega)]
      · rfl
    rw [e1, pu_b1]
    dsimp only
    generalize (if H a (20 + 4 * p) < h.tmod (H a 1) then h.tmod (H a 1) - H a (20 + 4 * p) else 0) = g0 at *
    have e2 := sq_t2 g0 hg0.1
    rw [pu_w (x := g0.tdiv 2) (by omega), pu_w (x := 2 * g0) (by omega)]
    have hg1 : 0 ≤ (if H a (17 + 4 * p) = 3 then g0.tdiv 2 else if H a (17 + 4 * p) < 4 then (if H a (17 + 4 * p) = 5 then 2 * g0 else g0) else if (h.tdiv (H a 1)).tmod 2 = 1 then 0 else (if H a (17 + 4 * p) = 5 then 2 * g0 else g0)) := by (repeat' split) <;> omega
    generalize (if H a (17 + 4 * p) = 3 then g0.tdiv 2 else if H a (17 + 4 * p) < 4 then (if H a (17 + 4 * p) = 5 then 2 * g0 else g0) else if (h.tdiv (H a 1)).tmod 2 = 1 then 0 else (if H a (17 + 4 * p) = 5 then 2 * g0 else g0)) = g1 at *
    rw [pu_w (x := H a (19 + 4 * p) - H a (18 + 4 * p)) (by omega), pu_w (x := H a (18 + 4 * p) - H a (19 + 4 * p)) (by omega)]
    by_cases hft : H a (18 + 4 * p) < H a (19 + 4 * p)
    · rw [if_pos hft, if_pos hft, if_pos hft]
      rw [pu_w (by split <;> omega)]
    · rw [if_neg hft, if_neg hft, if_neg hft]
      rw [pu_w (by split <;> omega)]
theorem sq_first_congr {m : Int → Int} {a g : Int} {ld ld2 : Int → Int} : ∀ (n : Nat) (p : Int), (∀ q, p ≤ q → q < p + n → ld q = ld2 q) → sq_first m a g ld n p = sq_first m a g ld2 n p
  | 0, _, _ => rfl
  | n + 1, p, h => by
    unfold sq_first
    rw [show sq_canb m a g ld p = sq_canb m a g ld2 p by unfold sq_canb; rw [h p (by omega) (by omega)]]
    rw [sq_first_congr n (p + 1) (fun q h1 h2 => h q (by omega) (by omega))]
theorem mo_fc_stop {a l at_ g p : Int} {H : hp_H} (n : Nat) (hl : 0 ≤ l ∧ l < 4) (hs : H 9 l ≠ NN ∨ H a (5 + 3 * l) ≠ 1 ∨ at_ = g ∨ H a 2 ≤ p) : f_X8_findCarriers_54 (n + 1) a l at_ g p H = some H := by
  unfold f_X8_findCarriers_54
  by_cases h1 : p < H a 2
  · rw [if_pos h1, mo_isOut hl, pu_b1]
    by_cases h2 : H a (5 + 3 * l) = 1
    · rw [if_pos h2, if_neg (by omega)]
      by_cases h3 : at_ = g
      · rw [if_pos h3]
      · rw [if_neg h3, pu_ck hl, if_neg]
        intro h4
        rcases hs with q | q | q | q
        · exact q h4
        · exact q h2
        · exact h3 q
        · omega
    · rw [if_neg h2, if_pos rfl]
  · rw [if_neg h1]
theorem mo_fc_in {a l at_ g : Int} {m : Int → Int} (ha : a ≠ 9 ∧ a ≠ 10) (hm : sq_ok m) (hl : 0 ≤ l ∧ l < 4) (ho : m (5 + 3 * l) = 1) (hg : at_ ≠ g) : ∀ (n : Nat) (p : Int) (H : hp_H), (m 2 - p).toNat + 1 < n → 0 ≤ p → H a = m → H 9 l = NN → (∀ q, 0 ≤ q → q < 6 → 0 ≤ H 10 q ∧ H 10 q ≤ 4) →
    f_X8_findCarriers_54 n a l at_ g p H = some (if sq_first m at_ g (H 10) (m 2 - p).toNat p = NN then H else hp_up (hp_up H 9 l (sq_first m at_ g (H 10) (m 2 - p).toNat p)) 10 (sq_first m at_ g (H 10) (m 2 - p).toNat p) (H 10 (sq_first m at_ g (H 10) (m 2 - p).toNat p) + 1)) := by
  intro n
  induction n with
  | zero => intro p H h; omega
  | succ n ih =>
    intro p H hn h0 hH h9 hb
    have a2 := hm.2.2.1
    have a3 := hm.2.2.2.1
    by_cases hp : p < m 2
    · have hk : (m 2 - p).toNat = (m 2 - (p + 1)).toNat + 1 := by omega
      have hp6 : 0 ≤ p ∧ p < 6 := by omega
      have hHm : sq_ok (H a) := by rw [hH]; exact hm
      rw [hk]
      unfold f_X8_findCarriers_54 sq_first
      rw [if_pos (by rw [hH]; exact hp), mo_isOut hl, pu_b1, hH, if_pos ho, if_neg (by omega), if_neg hg, pu_ck hl, if_pos (show H 9 l = -1000000 from h9)]
      rw [pu_w (x := m 3 + 1) (by omega), mo_place hHm h0 (by rw [hH]; exact hp) (by omega), mo_place hHm h0 (by rw [hH]; exact hp) (by omega), hH, mo_of0 hp6, hH]
      simp only [pu_b1, pu_let]
      rw [pu_ck hp6]
      rw [pu_w (x := p + 1) (by omega)]
      have key : (if sq_place m p (m 3) = at_ then if (if at_ < g then (if at_ < sq_place m p (m 3 + 1) then (1 : Int) else 0) else (if sq_place m p (m 3 + 1) < at_ then 1 else 0)) = 0 then some H else if (if H 10 p < (if m (17 + 4 * p) = 2 then 2 else 1) then (1 : Int) else 0) = 0 then some H else some (hp_up (hp_up H 9 l p) 10 p (hp_w (hp_up H 9 l p 10 p + 1))) else some H) = some (if sq_canb m at_ g (H 10) p = true then hp_up (hp_up H 9 l p) 10 p (H 10 p + 1) else H) := by
        have hbp := hb p hp6.1 hp6.2
        rw [pu_upa (show (10 : Int) ≠ 9 by omega), pu_w (x := H 10 p + 1) (by omega)]
        unfold sq_canb
        by_cases q1 : sq_place m p (m 3) = at_
        · rw [if_pos q1]
          by_cases q2 : at_ < g
          · rw [if_pos q2, if_pos q2]
            by_cases q3 : at_ < sq_place m p (m 3 + 1)
            · by_cases q4 : H 10 p < (if m (17 + 4 * p) = 2 then 2 else 1)
              · simp [q1, q3, q4]
              · simp [q1, q3, q4]
            · simp [q1, q3]
          · rw [if_neg q2, if_neg q2]
            by_cases q3 : sq_place m p (m 3 + 1) < at_
            · by_cases q4 : H 10 p < (if m (17 + 4 * p) = 2 then 2 else 1)
              · simp [q1, q3, q4]
              · simp [q1, q3, q4]
            · simp [q1, q3]
        · rw [if_neg q1]
          simp [q1]
      rw [key, pu_b1]
      by_cases hc : sq_canb m at_ g (H 10) p = true
      · have hpn : p ≠ NN := by unfold NN; omega
        rw [if_pos hc, if_pos hc, if_neg hpn]
        obtain ⟨n2, rfl⟩ : ∃ n2, n = n2 + 1 := ⟨n - 1, by omega⟩
        refine mo_fc_stop n2 hl (Or.inl ?_)
        rw [pu_upa (show (9 : Int) ≠ 10 by omega), pu_ups]
        exact hpn
      · rw [if_neg hc, if_neg hc]
        exact ih (p + 1) H (by omega) (by omega) hH h9 hb
    · obtain ⟨n2, rfl⟩ : ∃ n2, n = n2 := ⟨n, rfl⟩
      rw [mo_fc_stop n hl (Or.inr (Or.inr (Or.inr (by rw [hH]; omega)))), show (m 2 - p).toNat = 0 by omega]
      rfl
