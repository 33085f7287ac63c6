/-! numbers of the text -/
def rn (T : Int → Int) (L a f x : Int) : Prop :=
  (f = 0 ∧ (L ≤ a ∨ ¬ dg T a)) ∨
  (f = 1 ∧ a < L ∧ dg T a ∧ (L ≤ a + 1 ∨ ¬ dg T (a + 1)) ∧ x = T a - 48) ∨
  (f = 2 ∧ a + 1 < L ∧ dg T a ∧ dg T (a + 1) ∧ (L ≤ a + 2 ∨ ¬ dg T (a + 2)) ∧ x = 10 * (T a - 48) + T (a + 1) - 48) ∨
  (f = 3 ∧ a + 2 < L ∧ dg T a ∧ dg T (a + 1) ∧ dg T (a + 2))
theorem c_fig (v : Int) (H : hp_H) : f_X5_isFigure v H = some (if 48 ≤ v ∧ v ≤ 57 then 1 else 0) := by
  unfold f_X5_isFigure
  by_cases h1 : v < 48
  · rw [if_pos h1, if_neg (by omega)]
  · rw [if_neg h1]
    by_cases h2 : 57 < v
    · rw [if_pos h2, if_neg (by omega)]
    · rw [if_neg h2, if_pos (by omega)]
theorem rn_stop {n : Nat} {C : hp_H} {lo hi a v i : Int} (i0 : 0 ≤ i) (hL : C 13 1 ≤ 120) (h : C 13 1 ≤ i ∨ ¬ dg (C 14) i) : f_X5_readNumber_11 (n + 1) lo hi a v i C = some (v, C) := by
  rw [f_X5_readNumber_11]
  by_cases c : i < C 13 1
  · have hd : ¬ (48 ≤ C 14 i ∧ C 14 i ≤ 57) := by
      rcases h with h | h
      · omega
      · exact h
    rw [if_pos c, pu_ck (by omega), c_fig, pu_b1, pu_01, if_neg hd]
  · rw [if_neg c]
theorem rn_go {n : Nat} {C : hp_H} {lo hi a v i : Int} (i0 : 0 ≤ i) (hL : C 13 1 ≤ 120) (c : i < C 13 1) (hd : dg (C 14) i) (hq : C 13 2 - a ≤ 2) (ha : 0 ≤ a ∧ a ≤ 2000) (h2 : 0 ≤ C 13 2 ∧ C 13 2 ≤ 3000) : f_X5_readNumber_11 (n + 1) lo hi a v i C = f_X5_readNumber_11 n lo hi a (hp_w (hp_w (hp_w (v * 10) + C 14 i) - 48)) (i + 1) (hp_up C 13 2 (C 13 2 + 1)) := by
  have hd2 : 48 ≤ C 14 i ∧ C 14 i ≤ 57 := hd
  rw [f_X5_readNumber_11, if_pos c, pu_ck (by omega), c_fig, pu_b1, pu_01, if_pos hd2, pu_w (x := C 13 2 - a) (by omega), if_neg (by omega), pu_let, pu_let, pu_let, pu_w (x := C 13 2 + 1) (by omega), pu_w (x := i + 1) (by omega)]
theorem rn_end {n : Nat} {C : hp_H} {lo hi a v i : Int} (i0 : 0 ≤ i) (hL : C 13 1 ≤ 120) (hq : 2 < C 13 2 - a) (ha : 0 ≤ a ∧ a ≤ 2000) (h2 : 0 ≤ C 13 2 ∧ C 13 2 ≤ 3000) : f_X5_readNumber_11 (n + 1) lo hi a v i C = some (v, C) := by
  rw [f_X5_readNumber_11]
  by_cases c : i < C 13 1
  · rw [if_pos c, pu_ck (by omega), c_fig, pu_b1, pu_01, pu_w (x := C 13 2 - a) (by omega), if_pos hq]
    split <;> rfl
  · rw [if_neg c]
theorem rn_lp {C : hp_H} {T : Int → Int} {L a lo hi : Int} (h1 : C 13 1 = L) (h2 : C 13 2 = a) (hL : L ≤ 120) (ha : 0 ≤ a ∧ a ≤ 2000) (hT : ∀ i, 0 ≤ i → i < L → C 14 i = T i) : ∃ x f C', f_X5_readNumber_11 1000 lo hi a 0 a C = some (x, C') ∧ (∀ b, b ≠ 13 → C' b = C b) ∧ (∀ j, j ≠ 2 → C' 13 j = C 13 j) ∧ C' 13 2 = a + f ∧ (0 ≤ f ∧ f ≤ 3) ∧ rn T L a f x := by
  have td : ∀ i, 0 ≤ i → i < L → (dg (C 14) i ↔ dg T i) := fun i i0 i1 => by unfold dg; rw [hT i i0 i1]
  have tn : ∀ i, 0 ≤ i → ¬ (i < L ∧ dg T i) → L ≤ i ∨ ¬ dg T i := fun i i0 q => by
    by_cases c : i < L
    · exact Or.inr (fun d => q ⟨c, d⟩)
    · exact Or.inl (by omega)
  have tc : ∀ i, 0 ≤ i → ¬ (i < L ∧ dg T i) → L ≤ i ∨ ¬ dg (C 14) i := fun i i0 q => by
    by_cases c : i < L
    · exact Or.inr (fun d => q ⟨c, (td i i0 c).mp d⟩)
    · exact Or.inl (by omega)
  by_cases c0 : a < L ∧ dg T a
  · have d0 : 48 ≤ T a ∧ T a ≤ 57 := c0.2
    have s1 : f_X5_readNumber_11 1000 lo hi a 0 a C = f_X5_readNumber_11 999 lo hi a (T a - 48) (a + 1) (hp_up C 13 2 (a + 1)) := by
      have := rn_go (n := 999) (C := C) (lo := lo) (hi := hi) (a := a) (v := 0) (i := a) ha.1 (by omega) (by omega) ((td a ha.1 c0.1).mpr c0.2) (by omega) ha (by omega)
      rw [show hp_w (0 * 10) = 0 from pu_w (by omega), hT a ha.1 c0.1, pu_w (x := 0 + T a) (by omega), pu_w (x := 0 + T a - 48) (by omega), Int.zero_add, h2] at this
      exact this
    rw [s1]
    have e2 : hp_up C 13 2 (a + 1) 13 2 = a + 1 := pu_ups _ _ _ _
    have ej : ∀ j, j ≠ 2 → hp_up C 13 2 (a + 1) 13 j = C 13 j := fun j hj => pu_upj hj
    have eb : ∀ b, b ≠ 13 → hp_up C 13 2 (a + 1) b = C b := fun b hb => pu_upa hb
    generalize hp_up C 13 2 (a + 1) = D at e2 ej eb ⊢
    have e1 := ej 1 (by omega)
    have e14 := eb 14 (by omega)
    by_cases c1 : a + 1 < L ∧ dg T (a + 1)
    · have d1 : 48 ≤ T (a + 1) ∧ T (a + 1) ≤ 57 := c1.2
      have s2 : f_X5_readNumber_11 999 lo hi a (T a - 48) (a + 1) D = f_X5_readNumber_11 998 lo hi a (10 * (T a - 48) + T (a + 1) - 48) (a + 1 + 1) (hp_up D 13 2 (a + 2)) := by
        have := rn_go (n := 998) (C := D) (lo := lo) (hi := hi) (a := a) (v := T a - 48) (i := a + 1) (by omega) (by omega) (by omega) (by rw [e14]; exact (td (a + 1) (by omega) c1.1).mpr c1.2) (by omega) ha (by omega)
        rw [pu_w (x := (T a - 48) * 10) (by omega), e14, hT (a + 1) (by omega) c1.1, pu_w (x := (T a - 48) * 10 + T (a + 1)) (by omega), pu_w (x := (T a - 48) * 10 + T (a + 1) - 48) (by omega), e2, show a + 1 + 1 = a + 2 by omega, show (T a - 48) * 10 + T (a + 1) - 48 = 10 * (T a - 48) + T (a + 1) - 48 by omega] at this
        rw [show a + 1 + 1 = a + 2 by omega]
        exact this
      rw [s2]
      have g2 : hp_up D 13 2 (a + 2) 13 2 = a + 2 := pu_ups _ _ _ _
      have gj : ∀ j, j ≠ 2 → hp_up D 13 2 (a + 2) 13 j = C 13 j := fun j hj => by rw [pu_upj hj, ej j hj]
      have gb : ∀ b, b ≠ 13 → hp_up D 13 2 (a + 2) b = C b := fun b hb => by rw [pu_upa hb, eb b hb]
      generalize hp_up D 13 2 (a + 2) = E at g2 gj gb ⊢
      have g1 := gj 1 (by omega)
      have g14 := gb 14 (by omega)
      rw [show a + 1 + 1 = a + 2 by omega]
      by_cases c2 : a + 2 < L ∧ dg T (a + 2)
      · have d2 : 48 ≤ T (a + 2) ∧ T (a + 2) ≤ 57 := c2.2
        obtain ⟨x, s3⟩ : ∃ x, f_X5_readNumber_11 998 lo hi a (10 * (T a - 48) + T (a + 1) - 48) (a + 2) E = f_X5_readNumber_11 997 lo hi a x (a + 2 + 1) (hp_up E 13 2 (E 13 2 + 1)) := ⟨_, rn_go (n := 997) (C := E) (lo := lo) (hi := hi) (a := a) (v := 10 * (T a - 48) + T (a + 1) - 48) (i := a + 2) (by omega) (by omega) (by omega) (by rw [g14]; exact (td (a + 2) (by omega) c2.1).mpr c2.2) (by omega) ha (by omega)⟩
        have k2 : hp_up E 13 2 (E 13 2 + 1) 13 2 = a + 3 := by rw [pu_ups]; omega
        have kj : ∀ j, j ≠ 2 → hp_up E 13 2 (E 13 2 + 1) 13 j = C 13 j := fun j hj => by rw [pu_upj hj, gj j hj]
        have kb : ∀ b, b ≠ 13 → hp_up E 13 2 (E 13 2 + 1) b = C b := fun b hb => by rw [pu_upa hb, gb b hb]
        generalize hp_up E 13 2 (E 13 2 + 1) = F at s3 k2 kj kb
        have k1 := kj 1 (by omega)
        have s4 : f_X5_readNumber_11 997 lo hi a x (a + 2 + 1) F = some (x, F) := rn_end (n := 996) (by omega) (by omega) (by omega) ha (by omega)
        rw [s3, s4]
        exact ⟨x, 3, F, rfl, kb, kj, k2, by omega, Or.inr (Or.inr (Or.inr ⟨rfl, c2.1, c0.2, c1.2, c2.2⟩))⟩
      · have s3 : f_X5_readNumber_11 998 lo hi a (10 * (T a - 48) + T (a + 1) - 48) (a + 2) E = some (10 * (T a - 48) + T (a + 1) - 48, E) := rn_stop (n := 997) (by omega) (by omega) (by rw [g1, h1, g14]; exact tc (a + 2) (by omega) c2)
        rw [s3]
        exact ⟨_, 2, E, rfl, gb, gj, g2, by omega, Or.inr (Or.inr (Or.inl ⟨rfl, c1.1, c0.2, c1.2, tn (a + 2) (by omega) c2, rfl⟩))⟩
    · have s2 : f_X5_readNumber_11 999 lo hi a (T a - 48) (a + 1) D = some (T a - 48, D) := rn_stop (n := 998) (by omega) (by omega) (by rw [e1, h1, e14]; exact tc (a + 1) (by omega) c1)
      rw [s2]
      exact ⟨_, 1, D, rfl, eb, ej, e2, by omega, Or.inr (Or.inl ⟨rfl, c0.1, c0.2, tn (a + 1) (by omega) c1, rfl⟩)⟩
  · have s1 : f_X5_readNumber_11 1000 lo hi a 0 a C = some (0, C) := rn_stop (n := 999) ha.1 (by omega) (by rw [h1]; exact tc a ha.1 c0)
    rw [s1]
    exact ⟨0, 0, C, rfl, fun _ _ => rfl, fun _ _ => rfl, by omega, by omega, Or.inl ⟨rfl, tn a ha.1 c0⟩⟩
theorem tk_num {T : Int → Int} {L a cur tok val f x : Int} (h : tk T L a cur tok val) (hf : rn T L a f x) : (tok = 3 ∧ (f = 1 ∨ f = 2) ∧ val = x ∧ cur = a + f ∧ a + f ≤ L) ∨ (tok ≠ 3 ∧ (f = 0 ∨ f = 3)) := by
  unfold tk dg at h
  unfold rn dg at hf
  rcases h with h | h | h | h | h | h | h <;> rcases hf with hf | hf | hf | hf <;> omega
theorem st_number {B lo hi hi' : Int} {C M : hp_H} (h : rd B C M) (hB : 120 ≤ B ∧ B ≤ 1000) (he : M 0 16 = 0 → hi = hi') : ∃ c d C' M', f_X5_readNumber lo hi C = some (c, C') ∧ f_X8_number lo hi' M = some (d, M') ∧ rc C C' M M' ∧ rd (B + 3) C' M' ∧ (M' 0 16 = 0 → c = d ∧ lo ≤ c ∧ c ≤ hi) := by
  obtain ⟨p1, p2, p3⟩ := h.1
  have ha := h.2.1
  have h3 := h.2.2.1
  obtain ⟨x, f, D, l1, l2, l3, l4, l5, l6⟩ := rn_lp (C := C) (T := M 8) (lo := lo) (hi := hi) p1 rfl p2.2 ⟨ha.1, by omega⟩ (fun i i0 i1 => (p3 i i0 i1).1)
  have d3 : D 13 3 = M 0 16 := by rw [l3 3 (by omega), h3]
  unfold f_X5_readNumber f_X5_failAt f_X8_number
  rw [pu_let, l1, pu_b2, l4, show C 13 2 + f - C 13 2 = f by omega, pu_w (x := f) (by omega), pu_let, g_within, pu_b1, pu_01, d3]
  by_cases hf : M 0 16 = 0
  · obtain ⟨g1, g2, g3⟩ := h.2.2.2.2.1 hf
    rw [if_pos hf, if_pos hf, if_pos hf]
    have bad : ∀ k : Int, 0 < k → ∃ M', f_X8_bad k M = some M' ∧ rc C (hp_up (hp_up D 13 3 k) 13 4 (C 13 2)) M M' ∧ rd (B + 3) (hp_up (hp_up D 13 3 k) 13 4 (C 13 2)) M' ∧ M' 0 16 = k ∧ M' 0 16 ≠ 0 := fun k hk =>
      rd_bad (C' := hp_up (hp_up D 13 3 k) 13 4 (C 13 2)) (k := k) (B' := B + 3) h hf hk (fun b hb => by rw [pu_upa hb, pu_upa hb, l2 b hb]) (by rw [pu_upj (by omega), pu_upj (by omega), l3 1 (by omega)]) (by rw [pu_upj (by omega), pu_upj (by omega), l4]; omega) (by rw [pu_upj (by omega), pu_ups]) (pu_ups _ _ _ _)
    rcases tk_num g3 l6 with ⟨t1, t2, t3, t4, t5⟩ | ⟨t1, t2⟩
    · rw [if_pos t1, pu_b1, if_pos hf, mo_in, pu_b1, pu_01, if_neg (show ¬ f = 0 by omega), if_neg (show ¬ 2 < f by omega), ← he hf, t3]
      by_cases hw : lo ≤ x ∧ x ≤ hi
      · obtain ⟨M', u1, u2, u3, u4⟩ := rd_acc (C' := D) (d := f) (B' := B + 3) h hf (by omega) t4 t5 (by omega) l2 (l3 1 (by omega)) l4 (l3 3 (by omega))
        rw [if_pos hw, if_pos hw, pu_b1, pu_b1, pu_let, if_pos hf, u1, pu_b1, t3]
        exact ⟨x, x, D, M', rfl, rfl, u2, u3, fun _ => ⟨rfl, hw.1, hw.2⟩⟩
      · obtain ⟨M', u1, u2, u3, u4, u5⟩ := bad 2 (by omega)
        rw [if_neg hw, if_neg hw, pu_let, pu_let, pu_b1, pu_b1, u1, pu_b1, pu_b1, if_neg u5, pu_let, mu_f u5, pu_b1]
        exact ⟨x, lo, _, M', rfl, rfl, u2, u3, fun q => absurd q u5⟩
    · obtain ⟨M', u1, u2, u3, u4, u5⟩ := bad 1 (by omega)
      rw [if_neg t1, u1, pu_b1, pu_b1, if_neg u5, pu_b1, if_neg u5, pu_let lo, mu_f u5, pu_b1, pu_let (hp_up D 13 3 1), pu_let (hp_up (hp_up D 13 3 1) 13 4 (C 13 2)), pu_b1]
      have e : (if f = 0 then some (hp_up (hp_up D 13 3 1) 13 4 (C 13 2)) else if 2 < f then some (hp_up (hp_up D 13 3 1) 13 4 (C 13 2)) else if lo ≤ x ∧ x ≤ hi then some D else hp_b1 (hp_let (hp_up D 13 3 2) (fun H2 => hp_let (hp_up H2 13 4 (C 13 2)) (fun H3 => some H3))) (fun H27 => some H27)) = some (hp_up (hp_up D 13 3 1) 13 4 (C 13 2)) := by
        rcases t2 with t2 | t2
        · rw [if_pos t2]
        · rw [if_neg (by omega), if_pos (by omega)]
      rw [e, pu_b1]
      exact ⟨x, lo, _, M', rfl, rfl, u2, u3, fun q => absurd q u5⟩
  · obtain ⟨u1, u2⟩ := rd_fault (C' := D) (B' := B + 3) h hf l2 (l3 1 (by omega)) (by omega) (l3 3 (by omega)) (l3 4 (by omega))
    simp only [if_neg hf, pu_b1, ite_self, pu_let, mu_f hf]
    exact ⟨x, lo, D, M, rfl, rfl, u1, u2, fun q => absurd q hf⟩
