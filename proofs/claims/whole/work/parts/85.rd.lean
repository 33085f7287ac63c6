/-- both read: B bounds where the class is (askew, behind a fault) -/
def rd (B : Int) (C M : hp_H) : Prop := iv_p C M ∧ (0 ≤ C 13 2 ∧ C 13 2 ≤ B) ∧ C 13 3 = M 0 16 ∧ 0 ≤ M 0 16 ∧ (M 0 16 = 0 → M 0 13 = C 13 2 ∧ C 13 2 ≤ M 0 11 ∧ tk (M 8) (M 0 11) (C 13 2) (M 0 12) (M 0 14) (M 0 15)) ∧ (M 0 16 ≠ 0 → C 13 4 = M 0 17)
def rc (C C' M M' : hp_H) : Prop := (∀ b, b ≠ 13 → C' b = C b) ∧ C' 13 1 = C 13 1 ∧ (∀ b, b ≠ 0 → M' b = M b) ∧ (∀ j, (j < 12 ∨ 17 < j) → M' 0 j = M 0 j) ∧ (M 0 16 ≠ 0 → M' = M)
theorem rc.nf {C C' M M' : hp_H} (h : rc C C' M M') (h0 : M' 0 16 = 0) : M 0 16 = 0 := by
  by_cases q : M 0 16 = 0
  · exact q
  · rw [h.2.2.2.2 q] at h0
    exact h0
theorem rc.tr {C C' C2 M M' M2 : hp_H} (h : rc C C' M M') (h2 : rc C' C2 M' M2) : rc C C2 M M2 := ⟨fun b hb => by rw [h2.1 b hb, h.1 b hb], by rw [h2.2.1, h.2.1], fun b hb => by rw [h2.2.2.1 b hb, h.2.2.1 b hb], fun j hj => by rw [h2.2.2.2.1 j hj, h.2.2.2.1 j hj], fun q => by
  have e := h.2.2.2.2 q
  rw [h2.2.2.2.2 (by rw [e]; exact q), e]⟩
theorem rd_fault {B B' : Int} {C C' M : hp_H} (h : rd B C M) (hf : M 0 16 ≠ 0) (hc : ∀ b, b ≠ 13 → C' b = C b) (h1 : C' 13 1 = C 13 1) (h2 : 0 ≤ C' 13 2 ∧ C' 13 2 ≤ B') (h3 : C' 13 3 = C 13 3) (h4 : C' 13 4 = C 13 4) : rc C C' M M ∧ rd B' C' M := by
  obtain ⟨p, -, e3, e0, -, g⟩ := h
  refine ⟨⟨hc, h1, fun _ _ => rfl, fun _ _ => rfl, fun _ => rfl⟩, ?_, h2, by rw [h3]; exact e3, e0, fun q => absurd q hf, fun q => by rw [h4]; exact g q⟩
  unfold iv_p
  rw [hc 14 (by omega), h1]
  exact p
theorem rd_acc {B B' d : Int} {C C' M : hp_H} (h : rd B C M) (h0 : M 0 16 = 0) (hd : 0 ≤ d) (hcur : M 0 12 = C 13 2 + d) (hl : C 13 2 + d ≤ M 0 11) (hB : 120 ≤ B') (hc : ∀ b, b ≠ 13 → C' b = C b) (h1 : C' 13 1 = C 13 1) (h2 : C' 13 2 = C 13 2 + d) (h3 : C' 13 3 = C 13 3) : ∃ M', f_X8_must 1 M = some M' ∧ rc C C' M M' ∧ rd B' C' M' ∧ M' 0 16 = 0 := by
  obtain ⟨p, ⟨a0, a1⟩, e3, e0, g, -⟩ := h
  obtain ⟨g1, g2, g3⟩ := g h0
  obtain ⟨p1, p2, p3⟩ := p
  obtain ⟨M', u1, u2, u3, u4, u5⟩ := nt_tok (H := M) (by omega) (by omega) p2.2 (fun i i0 i1 => (p3 i i0 i1).2)
  have e16 : M' 0 16 = 0 := by rw [u3 16 (by omega)]; exact h0
  have e11 := u3 11 (by omega)
  have e8 := u2 8 (by omega)
  refine ⟨M', ?_, ⟨hc, h1, u2, fun j hj => u3 j (by omega), fun q => absurd h0 q⟩, ⟨?_, by omega, by omega, by omega, fun _ => ⟨by omega, by omega, ?_⟩, fun q => absurd e16 q⟩, e16⟩
  · unfold f_X8_must
    rw [if_neg (show ¬ (1 : Int) = 0 by omega), pu_b1, if_pos h0, u1, pu_b1]
  · unfold iv_p
    rw [hc 14 (by omega), h1, e11, e8]
    exact ⟨p1, p2, p3⟩
  · rw [e8, e11, h2, ← hcur]
    exact u5
theorem rd_bad {B B' k : Int} {C C' M : hp_H} (h : rd B C M) (h0 : M 0 16 = 0) (hk : 0 < k) (hc : ∀ b, b ≠ 13 → C' b = C b) (h1 : C' 13 1 = C 13 1) (h2 : 0 ≤ C' 13 2 ∧ C' 13 2 ≤ B') (h3 : C' 13 3 = k) (h4 : C' 13 4 = C 13 2) : ∃ M', f_X8_bad k M = some M' ∧ rc C C' M M' ∧ rd B' C' M' ∧ M' 0 16 = k ∧ M' 0 16 ≠ 0 := by
  obtain ⟨p, ⟨a0, a1⟩, e3, e0, g, -⟩ := h
  obtain ⟨g1, g2, g3⟩ := g h0
  unfold f_X8_bad
  rw [if_pos h0, pu_let, pu_let, pu_upj (show (13 : Int) ≠ 16 by omega)]
  have f16 : hp_up (hp_up M 0 16 k) 0 17 (M 0 13) 0 16 = k := by rw [pu_upj (by omega), pu_ups]
  have f17 : hp_up (hp_up M 0 16 k) 0 17 (M 0 13) 0 17 = M 0 13 := pu_ups _ _ _ _
  have fj : ∀ j, (j < 12 ∨ 17 < j) → hp_up (hp_up M 0 16 k) 0 17 (M 0 13) 0 j = M 0 j := fun j hj => by rw [pu_upj (by omega), pu_upj (by omega)]
  have fb : ∀ b, b ≠ 0 → hp_up (hp_up M 0 16 k) 0 17 (M 0 13) b = M b := fun b hb => by rw [pu_upa hb, pu_upa hb]
  refine ⟨_, rfl, ⟨hc, h1, fb, fj, fun q => absurd h0 q⟩, ⟨?_, h2, by rw [f16]; exact h3, by rw [f16]; omega, fun q => by rw [f16] at q; omega, fun _ => by rw [f17, h4]; omega⟩, f16, by rw [f16]; omega⟩
  unfold iv_p
  rw [hc 14 (by omega), h1, fj 11 (by omega), fb 8 (by omega)]
  exact p
theorem mu_f {x : Int} {M : hp_H} (hf : M 0 16 ≠ 0) : f_X8_must x M = some M := by
  unfold f_X8_must f_X8_bad
  rw [if_neg hf, pu_b1, ite_self, pu_b1, if_neg hf]
theorem mu_0 {M M' : hp_H} (hb : f_X8_bad 1 M = some M') (h1 : M' 0 16 ≠ 0) : f_X8_must 0 M = some M' := by
  unfold f_X8_must
  rw [if_pos rfl, hb, pu_b1, pu_b1, if_neg h1]
/-- a sign, or the letter t -/
theorem st_must {B v x : Int} {C M : hp_H} (h : rd B C M) (hB : 120 ≤ B ∧ B ≤ 1000) (hx : M 0 16 = 0 → (x = 1 ∧ C 13 2 < M 0 11 ∧ M 8 (C 13 2) = v ∧ M 0 12 = C 13 2 + 1) ∨ (x = 0 ∧ ¬ (C 13 2 < M 0 11 ∧ M 8 (C 13 2) = v))) : ∃ C' M', f_X5_readSign v C = some C' ∧ f_X8_must x M = some M' ∧ rc C C' M M' ∧ rd (B + 1) C' M' := by
  obtain ⟨p1, p2, p3⟩ := h.1
  have ha := h.2.1
  have h3 := h.2.2.1
  unfold f_X5_readSign f_X5_fail f_X5_failAt
  by_cases hf : M 0 16 = 0
  · rcases hx hf with ⟨x1, x2, x3, x4⟩ | ⟨x1, x2⟩
    · have e14 := (p3 _ ha.1 x2).1
      rw [p1, if_pos x2, pu_ck (by omega), if_pos (by rw [e14]; exact x3), pu_b1, pu_let, pu_w (by omega), x1]
      obtain ⟨M', u1, u2, u3, -⟩ := rd_acc (C' := hp_up C 13 2 (C 13 2 + 1)) (d := 1) (B' := B + 1) h hf (by omega) x4 (by omega) (by omega) (fun b hb => pu_upa hb) (pu_upj (by omega)) (pu_ups _ _ _ _) (pu_upj (by omega))
      exact ⟨_, M', rfl, u1, u2, u3⟩
    · rw [h3, if_pos hf, pu_let, pu_let, pu_b1, pu_b1, p1, x1]
      have fin : ∃ C' M', hp_let (hp_up (hp_up (hp_up C 13 3 1) 13 4 (C 13 2)) 13 2 (hp_w (hp_up (hp_up C 13 3 1) 13 4 (C 13 2) 13 2 + 1))) (fun H3 => some H3) = some C' ∧ f_X8_must 0 M = some M' ∧ rc C C' M M' ∧ rd (B + 1) C' M' := by
        rw [pu_let, pu_upj (show (2 : Int) ≠ 4 by omega), pu_upj (show (2 : Int) ≠ 3 by omega), pu_w (by omega)]
        obtain ⟨M', u1, u2, u3, u4, u5⟩ := rd_bad (C' := hp_up (hp_up (hp_up C 13 3 1) 13 4 (C 13 2)) 13 2 (C 13 2 + 1)) (k := 1) (B' := B + 1) h hf (by omega) (fun b hb => by rw [pu_upa hb, pu_upa hb, pu_upa hb]) (by rw [pu_upj (by omega), pu_upj (by omega), pu_upj (by omega)]) (by rw [pu_ups]; omega) (by rw [pu_upj (by omega), pu_upj (by omega), pu_ups]) (by rw [pu_upj (by omega), pu_ups])
        exact ⟨_, M', rfl, mu_0 u1 u5, u2, u3⟩
      by_cases hl : C 13 2 < M 0 11
      · have e14 := (p3 _ ha.1 hl).1
        rw [if_pos hl, pu_ck (by omega), if_neg (fun q => x2 ⟨hl, by rw [← e14]; exact q⟩), pu_b1]
        exact fin
      · rw [if_neg hl, pu_b1]
        exact fin
  · rw [h3, if_neg hf, pu_b1, pu_b1, ite_self, p1, mu_f hf]
    have fin : ∃ C' M', hp_let (hp_up C 13 2 (hp_w (C 13 2 + 1))) (fun H3 => some H3) = some C' ∧ some M = some M' ∧ rc C C' M M' ∧ rd (B + 1) C' M' := by
      rw [pu_let, pu_w (by omega)]
      obtain ⟨u1, u2⟩ := rd_fault (C' := hp_up C 13 2 (C 13 2 + 1)) (B' := B + 1) h hf (fun b hb => pu_upa hb) (pu_upj (by omega)) (by rw [pu_ups]; omega) (pu_upj (by omega)) (pu_upj (by omega))
      exact ⟨_, M, rfl, rfl, u1, u2⟩
    by_cases hl : C 13 2 < M 0 11
    · rw [if_pos hl, pu_ck (by omega), pu_b1]
      exact fin
    · rw [if_neg hl, pu_b1]
      exact fin
theorem tk_cur {T : Int → Int} {L a cur tok val v : Int} (h : tk T L a cur tok val) (hv : v = 44 ∨ v = 59) : (tok = 4 ∧ val = v → a < L ∧ T a = v ∧ cur = a + 1) ∧ (a < L ∧ T a = v → tok = 4 ∧ val = v) := by
  unfold tk dg at h
  constructor
  · intro q
    rcases h with h | h | h | h | h | h | h <;> omega
  · intro q
    rcases h with h | h | h | h | h | h | h <;> omega
theorem tk_let {T : Int → Int} {L a cur tok val v : Int} (h : tk T L a cur tok val) (hv : 97 ≤ v ∧ v ≤ 122) : (tok = 2 ∧ val = v → a < L ∧ T a = v ∧ cur = a + 1) ∧ (a < L ∧ T a = v → tok = 2 ∧ val = v) := by
  unfold tk dg at h
  constructor
  · intro q
    rcases h with h | h | h | h | h | h | h <;> omega
  · intro q
    rcases h with h | h | h | h | h | h | h <;> omega
theorem st_sign {B v : Int} {C M : hp_H} (h : rd B C M) (hB : 120 ≤ B ∧ B ≤ 1000) (hv : v = 44 ∨ v = 59) : ∃ C' M', f_X5_readSign v C = some C' ∧ f_X8_mustSign v M = some M' ∧ rc C C' M M' ∧ rd (B + 1) C' M' := by
  unfold f_X8_mustSign
  rw [pu_let]
  obtain ⟨C', M', u1, u2, u3, u4⟩ := st_must (v := v) (x := if M 0 14 = 4 then (if M 0 15 = v then 1 else 0) else 0) h hB (fun h0 => by
    obtain ⟨g1, g2, g3⟩ := h.2.2.2.2.1 h0
    obtain ⟨k1, k2⟩ := tk_cur g3 hv
    by_cases c1 : M 0 14 = 4
    · by_cases c2 : M 0 15 = v
      · rw [if_pos c1, if_pos c2]
        exact Or.inl ⟨rfl, (k1 ⟨c1, c2⟩).1, (k1 ⟨c1, c2⟩).2.1, (k1 ⟨c1, c2⟩).2.2⟩
      · rw [if_pos c1, if_neg c2]
        exact Or.inr ⟨rfl, fun q => c2 (k2 q).2⟩
    · rw [if_neg c1]
      exact Or.inr ⟨rfl, fun q => c1 (k2 q).1⟩)
  rw [u2, pu_b1]
  exact ⟨C', M', u1, rfl, u3, u4⟩
theorem st_t {B : Int} {C M : hp_H} (h : rd B C M) (hB : 120 ≤ B ∧ B ≤ 1000) : ∃ x C' M', f_X8_isLetter 116 M = some x ∧ f_X5_readSign 116 C = some C' ∧ f_X8_must x M = some M' ∧ rc C C' M M' ∧ rd (B + 1) C' M' := by
  have e : f_X8_isLetter 116 M = some (if M 0 16 = 0 ∧ M 0 14 = 2 ∧ M 0 15 = 116 then 1 else 0) := by
    unfold f_X8_isLetter
    by_cases c0 : M 0 16 = 0
    · by_cases c1 : M 0 14 = 2
      · by_cases c2 : M 0 15 = 116
        · rw [if_pos c0, if_pos c1, if_pos c2, if_pos ⟨c0, c1, c2⟩]
        · rw [if_pos c0, if_pos c1, if_neg c2, if_neg (fun q => c2 q.2.2)]
      · rw [if_pos c0, if_neg c1, if_neg (fun q => c1 q.2.1)]
    · rw [if_neg c0, if_neg (fun q => c0 q.1)]
  obtain ⟨C', M', u1, u2, u3, u4⟩ := st_must (v := 116) (x := if M 0 16 = 0 ∧ M 0 14 = 2 ∧ M 0 15 = 116 then 1 else 0) h hB (fun h0 => by
    obtain ⟨g1, g2, g3⟩ := h.2.2.2.2.1 h0
    obtain ⟨k1, k2⟩ := tk_let (v := 116) g3 (by omega)
    by_cases c : M 0 14 = 2 ∧ M 0 15 = 116
    · have hc : M 0 16 = 0 ∧ M 0 14 = 2 ∧ M 0 15 = 116 := ⟨h0, c⟩
      rw [if_pos hc]
      exact Or.inl ⟨rfl, (k1 c).1, (k1 c).2.1, (k1 c).2.2⟩
    · rw [if_neg (fun q => c q.2)]
      exact Or.inr ⟨rfl, fun q => c (k2 q)⟩)
  exact ⟨_, C', M', e, u1, u2, u3, u4⟩
