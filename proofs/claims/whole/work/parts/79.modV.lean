/-! keep: what was is kept -/
theorem m_ke_51 {c : Int} (hc : 0 ≤ c ∧ c < 24) : ∀ (n : Nat) (k : Int) (H : hp_H), 0 ≤ k → k ≤ 41 → (41 - k).toNat < n → H 0 9 = c → f_X8_keep_51 n k H = some (hp_fill H 7 (41 * c) k 41 (H 4)) := by
  intro n
  induction n with
  | zero => intro k H _ _ h; omega
  | succ n ih =>
    intro k H k0 k1 hn h9
    rw [f_X8_keep_51, h9]
    by_cases hk : k < 41
    · rw [if_pos hk, pu_w (x := 41 * c) (by omega), pu_w (x := 41 * c + k) (by omega), pu_ck (by omega), pu_ck (by omega), pu_let, pu_let, pu_w (by omega), ih (k + 1) _ (by omega) (by omega) (by omega) (by rw [pu_upa (by omega)]; exact h9)]
      congr 1
      funext b j
      unfold hp_fill
      by_cases hb : b = 7 ∧ 41 * c + k ≤ j ∧ j < 41 * c + 41
      · rw [if_pos hb]
        by_cases hj : j = 41 * c + k
        · rw [if_neg (by omega), pu_up, if_pos ⟨hb.1, hj⟩, hj, show 41 * c + k - 41 * c = k by omega]
        · rw [if_pos (by omega), pu_upa (show (4 : Int) ≠ 7 by omega)]
      · rw [if_neg hb, if_neg (by omega), pu_up, if_neg (by omega)]
    · rw [if_neg hk]
      congr 1
      funext b j
      unfold hp_fill
      rw [if_neg (by omega)]
theorem m_ke_11 : ∀ (n : Nat) (k : Int) (H : hp_H), 0 ≤ k → k ≤ 943 → (943 - k).toNat < n → f_X8_keep_11 n k H = some (hp_fill H 7 0 k 943 (fun k => H 7 (k + 41))) := by
  intro n
  induction n with
  | zero => intro k H _ _ h; omega
  | succ n ih =>
    intro k H k0 k1 hn
    rw [f_X8_keep_11]
    by_cases hk : k < 943
    · rw [if_pos hk, pu_w (x := k + 41) (by omega), pu_ck (by omega), pu_ck (by omega), pu_let, pu_let, pu_w (by omega), ih (k + 1) _ (by omega) (by omega) (by omega)]
      congr 1
      funext b j
      unfold hp_fill
      by_cases hb : b = 7 ∧ 0 + k ≤ j ∧ j < 0 + 943
      · rw [if_pos hb]
        by_cases hj : j = k
        · rw [if_neg (by omega), pu_up, if_pos ⟨hb.1, hj⟩, hj, Int.sub_zero]
        · rw [if_pos (by omega)]
          show hp_up H 7 k (H 7 (k + 41)) 7 (j - 0 + 41) = H 7 (j - 0 + 41)
          rw [pu_upj (by omega)]
      · rw [if_neg hb, if_neg (by omega), pu_up, if_neg (by omega)]
    · rw [if_neg hk]
      congr 1
      funext b j
      unfold hp_fill
      rw [if_neg (by omega)]
