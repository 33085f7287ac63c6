/-! copy -/
theorem m_cp_up {r1 i r2 j n : Int} (h1 : 0 ≤ r1 ∧ r1 < 8) (h2 : 0 ≤ r2 ∧ r2 < 8) (hi : 0 ≤ i ∧ i + n ≤ 40) (hj : 0 ≤ j ∧ j + n ≤ 40) (ho : 40 * r2 + j ≤ 40 * r1 + i ∨ 40 * r1 + i + n ≤ 40 * r2 + j) : ∀ (q : Nat) (k : Int) (H : hp_H), 0 ≤ k → k ≤ n → (n - k).toNat < q → f_X8_copy_143 q r1 i r2 j n 1 k H = some (hp_cpy H 3 (40 * r1 + i + k) 3 (40 * r2 + j + k) (n - k)) := by
  intro q
  induction q with
  | zero => intro k H _ _ h; omega
  | succ q ih =>
    intro k H k0 k1 hq
    rw [f_X8_copy_143]
    by_cases hv : k < n
    · rw [if_pos hv, if_neg (show ¬ (1 : Int) = 0 by omega), pu_let, pu_w (x := 40 * r1) (by omega), pu_w (x := 40 * r1 + i) (by omega), pu_w (x := 40 * r1 + i + k) (by omega), pu_w (x := 40 * r2) (by omega), pu_w (x := 40 * r2 + j) (by omega), pu_w (x := 40 * r2 + j + k) (by omega), pu_ck (by omega), pu_ck (by omega), pu_let, pu_let, pu_w (by omega), ih (k + 1) _ (by omega) (by omega) (by omega)]
      congr 1
      funext c x
      unfold hp_cpy
      by_cases hc : c = 3 ∧ 40 * r2 + j + k ≤ x ∧ x < 40 * r2 + j + k + (n - k)
      · obtain ⟨rfl, hc1, hc2⟩ := hc
        rw [if_pos (show (3 : Int) = 3 ∧ 40 * r2 + j + k ≤ x ∧ x < 40 * r2 + j + k + (n - k) from ⟨rfl, hc1, hc2⟩)]
        by_cases hx : x = 40 * r2 + j + k
        · subst hx
          rw [if_neg (by omega), pu_ups, show 40 * r1 + i + k + (40 * r2 + j + k - (40 * r2 + j + k)) = 40 * r1 + i + k by omega]
        · rw [if_pos ⟨rfl, by omega, by omega⟩, pu_upj (by omega), show 40 * r1 + i + (k + 1) + (x - (40 * r2 + j + (k + 1))) = 40 * r1 + i + k + (x - (40 * r2 + j + k)) by omega]
      · rw [if_neg hc, if_neg (by omega), pu_up, if_neg (by omega)]
    · rw [if_neg hv, show n - k = 0 by omega]
      congr 1
      funext c x
      unfold hp_cpy
      rw [if_neg (by omega)]
theorem m_cp_dn {r1 i r2 j n : Int} (h1 : 0 ≤ r1 ∧ r1 < 8) (h2 : 0 ≤ r2 ∧ r2 < 8) (hi : 0 ≤ i ∧ i + n ≤ 40) (hj : 0 ≤ j ∧ j + n ≤ 40) (ho : 40 * r1 + i ≤ 40 * r2 + j ∨ 40 * r2 + j + n ≤ 40 * r1 + i) : ∀ (q : Nat) (k : Int) (H : hp_H), 0 ≤ k → k ≤ n → (n - k).toNat < q → f_X8_copy_143 q r1 i r2 j n 0 k H = some (hp_cpy H 3 (40 * r1 + i) 3 (40 * r2 + j) (n - k)) := by
  intro q
  induction q with
  | zero => intro k H _ _ h; omega
  | succ q ih =>
    intro k H k0 k1 hq
    rw [f_X8_copy_143]
    by_cases hv : k < n
    · rw [if_pos hv, if_pos rfl, pu_let, pu_w (x := n - 1) (by omega), pu_w (x := n - 1 - k) (by omega), pu_w (x := 40 * r1) (by omega), pu_w (x := 40 * r1 + i) (by omega), pu_w (x := 40 * r1 + i + (n - 1 - k)) (by omega), pu_w (x := 40 * r2) (by omega), pu_w (x := 40 * r2 + j) (by omega), pu_w (x := 40 * r2 + j + (n - 1 - k)) (by omega), pu_ck (by omega), pu_ck (by omega), pu_let, pu_let, pu_w (by omega), ih (k + 1) _ (by omega) (by omega) (by omega)]
      congr 1
      funext c x
      unfold hp_cpy
      by_cases hc : c = 3 ∧ 40 * r2 + j ≤ x ∧ x < 40 * r2 + j + (n - k)
      · obtain ⟨rfl, hc1, hc2⟩ := hc
        rw [if_pos (show (3 : Int) = 3 ∧ 40 * r2 + j ≤ x ∧ x < 40 * r2 + j + (n - k) from ⟨rfl, hc1, hc2⟩)]
        by_cases hx : x = 40 * r2 + j + (n - 1 - k)
        · subst hx
          rw [if_neg (by omega), pu_ups, show 40 * r1 + i + (40 * r2 + j + (n - 1 - k) - (40 * r2 + j)) = 40 * r1 + i + (n - 1 - k) by omega]
        · rw [if_pos ⟨rfl, by omega, by omega⟩, pu_upj (by omega)]
      · rw [if_neg hc, if_neg (by omega), pu_up, if_neg (by omega)]
    · rw [if_neg hv, show n - k = 0 by omega]
      congr 1
      funext c x
      unfold hp_cpy
      rw [if_neg (by omega)]
theorem m_cp {r1 i r2 j n : Int} (h1 : 0 ≤ r1 ∧ r1 < 8) (h2 : 0 ≤ r2 ∧ r2 < 8) (hn : 0 ≤ n) (hi : 0 ≤ i ∧ i + n ≤ 40) (hj : 0 ≤ j ∧ j + n ≤ 40) (H : hp_H) : f_X8_copy_143 1000 r1 i r2 j n (if i < j then 0 else 1) 0 H = some (hp_cpy H 3 (40 * r1 + i) 3 (40 * r2 + j) n) := by
  by_cases h : i < j
  · rw [if_pos h, m_cp_dn h1 h2 hi hj (by omega) 1000 0 H (by omega) (by omega) (by omega), Int.sub_zero]
  · rw [if_neg h, m_cp_up h1 h2 hi hj (by omega) 1000 0 H (by omega) (by omega) (by omega), Int.sub_zero, Int.add_zero, Int.add_zero]
