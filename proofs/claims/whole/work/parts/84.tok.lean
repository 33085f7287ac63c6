/-! the text: the class's reading and the reference's tokens -/
def dg (T : Int → Int) (i : Int) : Prop := 48 ≤ T i ∧ T i ≤ 57
/-- the token at a, of L bytes: how far it goes, its sort, its value -/
def tk (T : Int → Int) (L a cur tok val : Int) : Prop :=
  (a = L ∧ tok = 1) ∨
  (a < L ∧ (97 ≤ T a ∧ T a ≤ 122) ∧ tok = 2 ∧ val = T a ∧ cur = a + 1) ∨
  (a < L ∧ (T a = 44 ∨ T a = 59) ∧ tok = 4 ∧ val = T a ∧ cur = a + 1) ∨
  (a < L ∧ dg T a ∧ (L ≤ a + 1 ∨ ¬ dg T (a + 1)) ∧ tok = 3 ∧ val = T a - 48 ∧ cur = a + 1) ∨
  (a + 1 < L ∧ dg T a ∧ dg T (a + 1) ∧ (L ≤ a + 2 ∨ ¬ dg T (a + 2)) ∧ tok = 3 ∧ val = 10 * (T a - 48) + T (a + 1) - 48 ∧ cur = a + 2) ∨
  (a + 2 < L ∧ dg T a ∧ dg T (a + 1) ∧ dg T (a + 2) ∧ tok = 0) ∨
  (a < L ∧ ¬ dg T a ∧ ¬ (97 ≤ T a ∧ T a ≤ 122) ∧ T a ≠ 44 ∧ T a ≠ 59 ∧ tok = 0)
theorem nt_stop {n : Nat} {H : hp_H} (h0 : 0 ≤ H 0 12) (h2 : H 0 11 ≤ 120) (h : H 0 11 ≤ H 0 12 ∨ ¬ dg (H 8) (H 0 12)) : f_X8_nextToken_165 (n + 1) H = some H := by
  rw [f_X8_nextToken_165]
  by_cases hc : H 0 12 < H 0 11
  · have hd : ¬ (48 ≤ H 8 (H 0 12) ∧ H 8 (H 0 12) ≤ 57) := by
      rcases h with h | h
      · omega
      · exact h
    rw [if_pos hc, pu_ck (by omega), mo_in, pu_b1, pu_01, if_neg hd]
  · rw [if_neg hc]
theorem nt_go {n : Nat} {H : hp_H} (h0 : 0 ≤ H 0 12) (h2 : H 0 11 ≤ 120) (hc : H 0 12 < H 0 11) (hd : dg (H 8) (H 0 12)) : ∃ x, f_X8_nextToken_165 (n + 1) H = f_X8_nextToken_165 n (hp_up (hp_up H 0 15 x) 0 12 (H 0 12 + 1)) ∧ (H 0 12 = H 0 13 + 1 → 0 ≤ H 0 15 → H 0 15 ≤ 9 → x = 10 * H 0 15 + H 8 (H 0 12) - 48) := by
  rw [f_X8_nextToken_165]
  have hd2 : 48 ≤ H 8 (H 0 12) ∧ H 8 (H 0 12) ≤ 57 := hd
  rw [if_pos hc, pu_ck (by omega), mo_in, pu_b1, pu_01, if_pos hd2]
  by_cases hq : hp_w (H 0 12 - H 0 13) < 2
  · rw [if_pos hq, pu_b1, pu_let, pu_let, pu_upj (show (12 : Int) ≠ 15 by omega), pu_w (x := H 0 12 + 1) (by omega)]
    exact ⟨_, rfl, fun e v0 v1 => by rw [pu_w (x := 10 * H 0 15) (by omega), pu_w (x := 10 * H 0 15 + H 8 (H 0 12)) (by omega), pu_w (by omega)]⟩
  · rw [if_neg hq, pu_b1, pu_let, pu_let, pu_upj (show (12 : Int) ≠ 15 by omega), pu_w (x := H 0 12 + 1) (by omega)]
    exact ⟨_, rfl, fun e => by rw [pu_w (by omega)] at hq; omega⟩
/-- the rest of a number -/
theorem nt_any : ∀ (n : Nat) (H : hp_H), 0 ≤ H 0 12 → H 0 11 ≤ 120 → (H 0 11 - H 0 12).toNat < n → ∃ H', f_X8_nextToken_165 n H = some H' ∧ (∀ b, b ≠ 0 → H' b = H b) ∧ (∀ j, j ≠ 12 → j ≠ 15 → H' 0 j = H 0 j) ∧ H 0 12 ≤ H' 0 12 ∧ (H' 0 12 ≤ H 0 11 ∨ H' 0 12 = H 0 12) := by
  intro n
  induction n with
  | zero => intro H _ _ h; omega
  | succ n ih =>
    intro H h0 h2 hn
    by_cases hc : H 0 12 < H 0 11 ∧ dg (H 8) (H 0 12)
    · obtain ⟨x, g1, -⟩ := nt_go (n := n) h0 h2 hc.1 hc.2
      have e12 : hp_up (hp_up H 0 15 x) 0 12 (H 0 12 + 1) 0 12 = H 0 12 + 1 := pu_ups _ _ _ _
      have e : ∀ j, j ≠ 12 → j ≠ 15 → hp_up (hp_up H 0 15 x) 0 12 (H 0 12 + 1) 0 j = H 0 j := fun j j1 j2 => by rw [pu_upj j1, pu_upj j2]
      have eb : ∀ b, b ≠ 0 → hp_up (hp_up H 0 15 x) 0 12 (H 0 12 + 1) b = H b := fun b hb => by rw [pu_upa hb, pu_upa hb]
      rw [g1]
      obtain ⟨H', w1, w2, w3, w4, w5⟩ := ih (hp_up (hp_up H 0 15 x) 0 12 (H 0 12 + 1)) (by rw [e12]; omega) (by rw [e 11 (by omega) (by omega)]; exact h2) (by rw [e12, e 11 (by omega) (by omega)]; omega)
      rw [e12] at w4 w5
      rw [e 11 (by omega) (by omega)] at w5
      exact ⟨H', w1, fun b hb => by rw [w2 b hb, eb b hb], fun j j1 j2 => by rw [w3 j j1 j2, e j j1 j2], by omega, by omega⟩
    · rw [nt_stop h0 h2 (by
        by_cases h1 : H 0 12 < H 0 11
        · exact Or.inr (fun q => hc ⟨h1, q⟩)
        · exact Or.inl (by omega))]
      exact ⟨H, rfl, fun _ _ => rfl, fun _ _ _ => rfl, by omega, Or.inr rfl⟩
/-- a number's token: behind its first figure -/
theorem nt_num {H : hp_H} {a : Int} (h0 : 0 ≤ a) (h1 : a < H 0 11) (h2 : H 0 11 ≤ 120) (h12 : H 0 12 = a + 1) (h13 : H 0 13 = a) (h15 : H 0 15 = H 8 a - 48) (hd : dg (H 8) a) : ∃ H', f_X8_nextToken_165 1000 H = some H' ∧ (∀ b, b ≠ 0 → H' b = H b) ∧ (∀ j, j ≠ 12 → j ≠ 15 → H' 0 j = H 0 j) ∧ (a ≤ H' 0 12 ∧ H' 0 12 ≤ 120) ∧ tk (H 8) (H 0 11) a (H' 0 12) (if 2 < H' 0 12 - a then 0 else 3) (H' 0 15) := by
  have hd2 : 48 ≤ H 8 a ∧ H 8 a ≤ 57 := hd
  by_cases c1 : a + 1 < H 0 11 ∧ dg (H 8) (a + 1)
  · obtain ⟨x, g1, g2⟩ := nt_go (n := 999) (H := H) (by omega) h2 (by omega) (by rw [h12]; exact c1.2)
    have d1 : 48 ≤ H 8 (a + 1) ∧ H 8 (a + 1) ≤ 57 := c1.2
    have hx := g2 (by omega) (by omega) (by omega)
    rw [h12, h15] at hx
    rw [h12] at g1
    have e12 : hp_up (hp_up H 0 15 x) 0 12 (a + 1 + 1) 0 12 = a + 2 := by rw [pu_ups]; omega
    have e15 : hp_up (hp_up H 0 15 x) 0 12 (a + 1 + 1) 0 15 = x := by rw [pu_upj (by omega), pu_ups]
    have e : ∀ j, j ≠ 12 → j ≠ 15 → hp_up (hp_up H 0 15 x) 0 12 (a + 1 + 1) 0 j = H 0 j := fun j j1 j2 => by rw [pu_upj j1, pu_upj j2]
    have eb : ∀ b, b ≠ 0 → hp_up (hp_up H 0 15 x) 0 12 (a + 1 + 1) b = H b := fun b hb => by rw [pu_upa hb, pu_upa hb]
    generalize hp_up (hp_up H 0 15 x) 0 12 (a + 1 + 1) = K at g1 e12 e15 e eb
    have g1 : f_X8_nextToken_165 1000 H = f_X8_nextToken_165 (998 + 1) K := g1
    rw [g1]
    have e11 := e 11 (by omega) (by omega)
    by_cases c2 : a + 2 < H 0 11 ∧ dg (H 8) (a + 2)
    · obtain ⟨y, w1, -⟩ := nt_go (n := 998) (H := K) (by omega) (by omega) (by omega) (by rw [e12, eb 8 (by omega)]; exact c2.2)
      rw [w1]
      have f12 : hp_up (hp_up K 0 15 y) 0 12 (K 0 12 + 1) 0 12 = a + 3 := by rw [pu_ups]; omega
      have f : ∀ j, j ≠ 12 → j ≠ 15 → hp_up (hp_up K 0 15 y) 0 12 (K 0 12 + 1) 0 j = K 0 j := fun j j1 j2 => by rw [pu_upj j1, pu_upj j2]
      have fb : ∀ b, b ≠ 0 → hp_up (hp_up K 0 15 y) 0 12 (K 0 12 + 1) b = K b := fun b hb => by rw [pu_upa hb, pu_upa hb]
      have f11 := f 11 (by omega) (by omega)
      obtain ⟨H', u1, u2, u3, u4, u5⟩ := nt_any 998 (hp_up (hp_up K 0 15 y) 0 12 (K 0 12 + 1)) (by omega) (by omega) (by omega)
      refine ⟨H', u1, fun b hb => by rw [u2 b hb, fb b hb, eb b hb], fun j j1 j2 => by rw [u3 j j1 j2, f j j1 j2, e j j1 j2], by omega, ?_⟩
      rw [if_pos (by omega)]
      exact Or.inr (Or.inr (Or.inr (Or.inr (Or.inr (Or.inl ⟨c2.1, hd, c1.2, c2.2, rfl⟩)))))
    · have c3 : H 0 11 ≤ a + 2 ∨ ¬ dg (H 8) (a + 2) := by
        by_cases h1 : a + 2 < H 0 11
        · exact Or.inr (fun q => c2 ⟨h1, q⟩)
        · exact Or.inl (by omega)
      rw [nt_stop (n := 998) (H := K) (by omega) (by omega) (by rw [e11, e12, eb 8 (by omega)]; exact c3)]
      refine ⟨K, rfl, eb, e, by omega, ?_⟩
      rw [if_neg (by omega), e12, e15]
      exact Or.inr (Or.inr (Or.inr (Or.inr (Or.inl ⟨c1.1, hd, c1.2, c3, rfl, hx, rfl⟩))))
  · have c3 : H 0 11 ≤ a + 1 ∨ ¬ dg (H 8) (a + 1) := by
      by_cases h1 : a + 1 < H 0 11
      · exact Or.inr (fun q => c1 ⟨h1, q⟩)
      · exact Or.inl (by omega)
    have g1 : f_X8_nextToken_165 1000 H = some H := nt_stop (n := 999) (H := H) (by omega) h2 (by rw [h12]; exact c3)
    refine ⟨H, g1, fun _ _ => rfl, fun _ _ _ => rfl, by omega, ?_⟩
    rw [if_neg (by omega), h12, h15]
    exact Or.inr (Or.inr (Or.inr (Or.inl ⟨h1, hd, c3, rfl, rfl, rfl⟩)))
/-- the next token -/
theorem nt_tok {H : hp_H} (h0 : 0 ≤ H 0 12) (h1 : H 0 12 ≤ H 0 11) (h2 : H 0 11 ≤ 120) (hT : ∀ i, 0 ≤ i → i < H 0 11 → 0 ≤ H 8 i ∧ H 8 i ≤ 255) : ∃ H', f_X8_nextToken H = some H' ∧ (∀ b, b ≠ 0 → H' b = H b) ∧ (∀ j, (j < 12 ∨ 15 < j) → H' 0 j = H 0 j) ∧ H' 0 13 = H 0 12 ∧ tk (H 8) (H 0 11) (H 0 12) (H' 0 12) (H' 0 14) (H' 0 15) := by
  unfold f_X8_nextToken
  rw [pu_let (hp_up H 0 13 (H 0 12))]
  have k13 : hp_up H 0 13 (H 0 12) 0 13 = H 0 12 := pu_ups _ _ _ _
  have kj : ∀ j, j ≠ 13 → hp_up H 0 13 (H 0 12) 0 j = H 0 j := fun j hj => pu_upj hj
  have kb : ∀ b, b ≠ 0 → hp_up H 0 13 (H 0 12) b = H b := fun b hb => pu_upa hb
  generalize hp_up H 0 13 (H 0 12) = K at k13 kj kb ⊢
  have k12 := kj 12 (by omega)
  have k11 := kj 11 (by omega)
  have k8 := kb 8 (by omega)
  have hT2 := hT (H 0 12) h0
  rw [k12, k11, k8]
  by_cases hl : H 0 12 < H 0 11
  · have hv := hT2 hl
    rw [if_pos hl, pu_ck (by omega), pu_b1, pu_let (hp_up K 0 15 (H 8 (H 0 12)))]
    have q15 : hp_up K 0 15 (H 8 (H 0 12)) 0 15 = H 8 (H 0 12) := pu_ups _ _ _ _
    have qj : ∀ j, j ≠ 15 → hp_up K 0 15 (H 8 (H 0 12)) 0 j = K 0 j := fun j hj => pu_upj hj
    have qb : ∀ b, b ≠ 0 → hp_up K 0 15 (H 8 (H 0 12)) b = K b := fun b hb => pu_upa hb
    generalize hp_up K 0 15 (H 8 (H 0 12)) = Q at q15 qj qb ⊢
    have q12 := qj 12 (by omega)
    have q11 := qj 11 (by omega)
    rw [q12, q11, k12, k11, q15, if_neg (show ¬ H 0 12 = H 0 11 by omega), mo_in, pu_b1, pu_01, mo_in, pu_b1, pu_01]
    have key : ∀ m5 : Int, m5 ≠ 3 → tk (H 8) (H 0 11) (H 0 12) (H 0 12 + 1) m5 (H 8 (H 0 12)) → ∃ H', (hp_let (hp_up Q 0 14 m5) (fun H7 => hp_let ((if (H7 0 12) < (H7 0 11) then 1 else 0) : Int) (fun m8 => hp_let (hp_up H7 0 12 (hp_w ((H7 0 12) + m8))) (fun H9 => if (H9 0 14) = 3 then hp_let (hp_up H9 0 15 (hp_w ((H9 0 15) - 48))) (fun H11 => hp_b1 (f_X8_nextToken_165 1000 H11) (fun H22 => hp_let ((if 2 < (hp_w ((H22 0 12) - (H22 0 13))) then 0 else 3) : Int) (fun m24 => hp_let (hp_up H22 0 14 m24) (fun H25 => some H25)))) else some H9)))) = some H' ∧ (∀ b, b ≠ 0 → H' b = H b) ∧ (∀ j, (j < 12 ∨ 15 < j) → H' 0 j = H 0 j) ∧ H' 0 13 = H 0 12 ∧ tk (H 8) (H 0 11) (H 0 12) (H' 0 12) (H' 0 14) (H' 0 15) := by
      intro m5 hm ht
      rw [pu_let (hp_up Q 0 14 m5), pu_let, pu_let, pu_upj (show (12 : Int) ≠ 14 by omega), pu_upj (show (11 : Int) ≠ 14 by omega), q12, q11, k12, k11, if_pos hl, pu_w (by omega), pu_upj (show (14 : Int) ≠ 12 by omega), pu_ups, if_neg hm]
      refine ⟨_, rfl, fun b hb => by rw [pu_upa hb, pu_upa hb, qb b hb, kb b hb], fun j hj => by rw [pu_upj (by omega), pu_upj (by omega), qj j (by omega), kj j (by omega)], by rw [pu_upj (by omega), pu_upj (by omega), qj 13 (by omega), k13], ?_⟩
      rw [pu_ups, pu_upj (show (14 : Int) ≠ 12 by omega), pu_ups, pu_upj (show (15 : Int) ≠ 12 by omega), pu_upj (show (15 : Int) ≠ 14 by omega), q15]
      exact ht
    by_cases c1 : 97 ≤ H 8 (H 0 12) ∧ H 8 (H 0 12) ≤ 122
    · rw [if_pos c1, pu_b1]
      exact key 2 (by omega) (Or.inr (Or.inl ⟨hl, c1, rfl, rfl, rfl⟩))
    · rw [if_neg c1]
      by_cases c2 : 48 ≤ H 8 (H 0 12) ∧ H 8 (H 0 12) ≤ 57
      · rw [if_pos c2, pu_b1, pu_let (hp_up Q 0 14 3), pu_let, pu_let, pu_upj (show (12 : Int) ≠ 14 by omega), pu_upj (show (11 : Int) ≠ 14 by omega), q12, q11, k12, k11, if_pos hl, pu_w (x := H 0 12 + 1) (by omega), pu_upj (show (14 : Int) ≠ 12 by omega), pu_ups, if_pos rfl, pu_upj (show (15 : Int) ≠ 12 by omega), pu_upj (show (15 : Int) ≠ 14 by omega), q15, pu_w (x := H 8 (H 0 12) - 48) (by omega), pu_let (hp_up (hp_up (hp_up Q 0 14 3) 0 12 (H 0 12 + 1)) 0 15 (H 8 (H 0 12) - 48))]
        have r12 : hp_up (hp_up (hp_up Q 0 14 3) 0 12 (H 0 12 + 1)) 0 15 (H 8 (H 0 12) - 48) 0 12 = H 0 12 + 1 := by rw [pu_upj (by omega), pu_ups]
        have r15 : hp_up (hp_up (hp_up Q 0 14 3) 0 12 (H 0 12 + 1)) 0 15 (H 8 (H 0 12) - 48) 0 15 = H 8 (H 0 12) - 48 := pu_ups _ _ _ _
        have rj : ∀ j, j ≠ 12 → j ≠ 14 → j ≠ 15 → hp_up (hp_up (hp_up Q 0 14 3) 0 12 (H 0 12 + 1)) 0 15 (H 8 (H 0 12) - 48) 0 j = K 0 j := fun j j1 j2 j3 => by rw [pu_upj j3, pu_upj j1, pu_upj j2, qj j j3]
        have rb : ∀ b, b ≠ 0 → hp_up (hp_up (hp_up Q 0 14 3) 0 12 (H 0 12 + 1)) 0 15 (H 8 (H 0 12) - 48) b = H b := fun b hb => by rw [pu_upa hb, pu_upa hb, pu_upa hb, qb b hb, kb b hb]
        generalize hp_up (hp_up (hp_up Q 0 14 3) 0 12 (H 0 12 + 1)) 0 15 (H 8 (H 0 12) - 48) = R at r12 r15 rj rb ⊢
        have r11 : R 0 11 = H 0 11 := by rw [rj 11 (by omega) (by omega) (by omega), k11]
        have r13 : R 0 13 = H 0 12 := by rw [rj 13 (by omega) (by omega) (by omega), k13]
        obtain ⟨H', u1, u2, u3, u4, u5⟩ := nt_num (H := R) (a := H 0 12) h0 (by omega) (by omega) r12 r13 (by rw [rb 8 (by omega)]; exact r15) (by rw [rb 8 (by omega)]; exact c2)
        rw [rb 8 (by omega), r11] at u5
        rw [u1, pu_b1, u3 13 (by omega) (by omega), r13, pu_w (x := H' 0 12 - H 0 12) (by omega), pu_let, pu_let]
        refine ⟨_, rfl, fun b hb => by rw [pu_upa hb, u2 b hb, rb b hb], fun j hj => by rw [pu_upj (by omega), u3 j (by omega) (by omega), rj j (by omega) (by omega) (by omega), kj j (by omega)], by rw [pu_upj (by omega), u3 13 (by omega) (by omega), r13], ?_⟩
        rw [pu_upj (show (12 : Int) ≠ 14 by omega), pu_ups, pu_upj (show (15 : Int) ≠ 14 by omega)]
        exact u5
      · rw [if_neg c2]
        by_cases c3 : H 8 (H 0 12) = 44
        · rw [if_pos c3, pu_b1]
          exact key 4 (by omega) (Or.inr (Or.inr (Or.inl ⟨hl, Or.inl c3, rfl, rfl, rfl⟩)))
        · rw [if_neg c3]
          by_cases c4 : H 8 (H 0 12) = 59
          · rw [if_pos c4, pu_b1]
            exact key 4 (by omega) (Or.inr (Or.inr (Or.inl ⟨hl, Or.inr c4, rfl, rfl, rfl⟩)))
          · rw [if_neg c4, pu_b1]
            exact key 0 (by omega) (Or.inr (Or.inr (Or.inr (Or.inr (Or.inr (Or.inr ⟨hl, c2, c1, c3, c4, rfl⟩))))))
  · have he : H 0 12 = H 0 11 := by omega
    rw [if_neg hl, pu_b1, pu_let (hp_up K 0 15 (-1000000))]
    rw [pu_upj (show (12 : Int) ≠ 15 by omega), pu_upj (show (11 : Int) ≠ 15 by omega), k12, k11, if_pos he, pu_b1, pu_let (hp_up (hp_up K 0 15 (-1000000)) 0 14 1), pu_let, pu_let, pu_upj (show (12 : Int) ≠ 14 by omega), pu_upj (show (11 : Int) ≠ 14 by omega), pu_upj (show (12 : Int) ≠ 15 by omega), pu_upj (show (11 : Int) ≠ 15 by omega), k12, k11, if_neg hl, pu_w (by omega), pu_upj (show (14 : Int) ≠ 12 by omega), pu_ups, if_neg (show ¬ (1 : Int) = 3 by omega)]
    refine ⟨_, rfl, fun b hb => by rw [pu_upa hb, pu_upa hb, pu_upa hb, kb b hb], fun j hj => by rw [pu_upj (by omega), pu_upj (by omega), pu_upj (by omega), kj j (by omega)], by rw [pu_upj (by omega), pu_upj (by omega), pu_upj (by omega), k13], ?_⟩
    exact Or.inl ⟨he, by rw [pu_upj (show (14 : Int) ≠ 12 by omega), pu_ups]⟩
