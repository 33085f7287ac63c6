/-! what one was told: who, missing, goals -/
theorem iv_st {C M : hp_H} (h : iv C M) (v : Int) : iv (hp_up C 0 10 v) (hp_up M 0 1 v) := by
  obtain ⟨ht, hz, ha, hi, hr, hp, hs, hk⟩ := h
  have c : ∀ b : Int, b ≠ 0 → hp_up C 0 10 v b = C b := fun b hb => pu_upa hb
  have m : ∀ b : Int, b ≠ 0 → hp_up M 0 1 v b = M b := fun b hb => pu_upa hb
  have mj : ∀ j : Int, j ≠ 1 → hp_up M 0 1 v 0 j = M 0 j := fun j hj => pu_upj hj
  have e4 := m 4 (by omega)
  refine ⟨⟨?_, ?_⟩, ?_, ?_, ?_, ?_, ?_, ?_, ?_⟩
  · rw [e4]; exact tr_fr ht.1 (fun b b1 b2 => c b (by omega))
  · rw [e4]; exact ht.2
  · intro k hk; rw [e4, m 6 (by omega)]; exact hz k hk
  · unfold iv_a
    rw [c 29 (by omega), mj 9 (by omega), m 7 (by omega)]
    obtain ⟨a1, a2, a3, a4⟩ := ha
    refine ⟨a1, a2, a3, fun i i0 i1 => ?_⟩
    obtain ⟨b1, b2⟩ := a4 i i0 i1
    have hq := sq_tm (h := C 29 1 + i) (d := 24) (by omega) (by omega)
    exact ⟨tr_fr b1 (fun b h1 h2 => c b (by omega)), b2⟩
  · intro k k0 k1
    rw [m 12 (by omega), m 13 (by omega), c (230 + 7 * k) (by omega)]
    rcases hi k k0 k1 with h | ⟨h1, h2, h3⟩
    · exact Or.inl h
    · exact Or.inr ⟨h1, tr_fr h2 (fun b g1 g2 => c b (by omega)), h3⟩
  · intro r r0 r1
    rw [c 11 (by omega), c 12 (by omega), c (3 + r) (by omega), m 1 (by omega), m 2 (by omega), m 3 (by omega)]
    exact hr r r0 r1
  · unfold iv_p
    rw [c 13 (by omega), c 14 (by omega), mj 11 (by omega), m 8 (by omega)]
    exact hp
  · exact ⟨by rw [pu_upj (by omega), mj 18 (by omega)]; exact hs.1, by rw [pu_ups, pu_ups]⟩
  · unfold iv_k
    rw [c 227 (by omega), c 228 (by omega), mj 25 (by omega), m 14 (by omega)]
    exact hk
theorem fi_fm {M M' : hp_H} (h : fi M M') : fm M M' := ⟨fun b _ b1 b2 b3 b4 => h.1 b b1 b2 b3 b4, fun j _ => by rw [h.1 0 (by omega) (by omega) (by omega) (by omega)], fun k hk => (h.2 k hk).2⟩
theorem fc_up {C C' : hp_H} (h : fc C C') (v : Int) : fc (hp_up C 0 10 v) (hp_up C' 0 10 v) := fun b hb => by
  funext j
  rw [pu_up, pu_up, h b hb]
/-- what the row gives: 1 there is none, 2 no such places, 0 -/
def sq_fd (M : hp_H) (r i n : Int) : Int := if M 1 r < 0 then 1 else if 0 ≤ i ∧ i + n ≤ M 2 r then 0 else 2
theorem m_rowFound {M : hp_H} {r i n : Int} (hr : 0 ≤ r ∧ r < 8) (hi : hp_r i) (hn : 1 ≤ n ∧ n ≤ 12) : f_X8_rowFound r i n M = some (if sq_fd M r i n = 0 then 0 else -1000010 - sq_fd M r i n, hp_up M 0 1 (sq_fd M r i n)) := by
  unfold hp_r at hi
  unfold f_X8_rowFound sq_fd
  rw [pu_ck hr]
  by_cases h1 : M 1 r < 0
  · rw [if_pos h1, if_pos h1]; rfl
  · rw [if_neg h1, if_neg h1]
    by_cases h2 : i < 0
    · have h4 : ¬ (0 ≤ i ∧ i + n ≤ M 2 r) := by omega
      rw [if_pos h2, if_neg h4]; rfl
    · rw [if_neg h2, pu_wl (by omega)]
      by_cases h3 : i + n ≤ M 2 r
      · have h4 : 0 ≤ i ∧ i + n ≤ M 2 r := by omega
        have h5 : ¬ 0 < hp_cmp (i + n) (M 2 r) := by unfold hp_cmp; (repeat' split) <;> omega
        rw [if_neg h5, if_pos h4]; rfl
      · have h4 : ¬ (0 ≤ i ∧ i + n ≤ M 2 r) := by omega
        have h5 : 0 < hp_cmp (i + n) (M 2 r) := by unfold hp_cmp; rw [if_pos (by omega)]; omega
        rw [if_pos h5, if_neg h4]; rfl
theorem c_finding {C M : hp_H} (h : iv C M) {r i n : Int} (hr : 0 ≤ r ∧ r < 8) (hi : hp_r i) (hn : 1 ≤ n ∧ n ≤ 12) : f_X4_findingOf r i n C = some (sq_fd M r i n) := by
  unfold hp_r at hi
  obtain ⟨b1, b2, b3, b4, b5⟩ := h.2.2.2.2.1 r hr.1 hr.2
  unfold f_X4_findingOf f_X4_isThere f_X4_hasPlaces sq_fd
  rw [pu_ck hr, b1]
  by_cases h1 : M 1 r < 0
  · rw [if_pos h1, if_pos (by omega), pu_b1]; rfl
  · have e := b3 (by omega)
    rw [if_neg h1, if_neg (by omega), pu_b1, if_neg (by omega)]
    by_cases h2 : i < 0
    · rw [if_pos h2, if_neg (by omega), pu_b1]; rfl
    · rw [if_neg h2, if_neg (by omega), pu_ck hr, e, pu_w (by omega)]
      by_cases h3 : i + n ≤ M 2 r
      · rw [if_neg (by omega), if_pos (by omega), pu_b1]; rfl
      · rw [if_pos (by omega), if_neg (by omega), pu_b1]; rfl
theorem c_isRow (r : Int) (H : hp_H) : f_X4_isRow r H = some (if 0 ≤ r ∧ r ≤ 7 then 1 else 0) := by
  unfold f_X4_isRow
  by_cases h1 : r < 0
  · rw [if_pos h1, if_neg (by omega)]
  · rw [if_neg h1]
    by_cases h2 : r < 8
    · rw [if_pos h2, if_pos (by omega)]
    · rw [if_neg h2, if_neg (by omega)]
theorem c_told {C M : hp_H} (h : iv C M) {c : Prop} [Decidable c] (l r i n : Int) : f_X7_refusalOfTold l (if c then 1 else 0) r i n C = if (if (c ∧ (0 ≤ r ∧ r ≤ 7) ∧ (1 ≤ n ∧ n ≤ 12)) ∧ 0 < M 4 0 ∧ 0 ≤ l ∧ l ≤ 3 then (if M 4 (5 + 3 * l) = 1 then (0 : Int) else -1000002) else -1000001) = 0 then hp_b1 (f_X4_findingOf r i n C) (fun c7 => if c7 = 0 then hp_b1 (f_X3_hear r i n C) (fun H10 => some (0, H10)) else hp_b2 (f_X7_found c7 C) (fun c12 H13 => some (c12, H13))) else some (if (c ∧ (0 ≤ r ∧ r ≤ 7) ∧ (1 ≤ n ∧ n ≤ 12)) ∧ 0 < M 4 0 ∧ 0 ≤ l ∧ l ≤ 3 then (if M 4 (5 + 3 * l) = 1 then (0 : Int) else -1000002) else -1000001, C) := by
  unfold f_X7_refusalOfTold
  rw [pu_01, c_isRow, pu_b1, pu_01, g_within, pu_b1, pu_01]
  have e1 : (if c then (if 0 ≤ r ∧ r ≤ 7 then (if 1 ≤ n ∧ n ≤ 12 then some 1 else some 0) else some 0) else some 0 : Option Int) = some (if c ∧ (0 ≤ r ∧ r ≤ 7) ∧ (1 ≤ n ∧ n ≤ 12) then 1 else 0) := by
    by_cases h1 : c
    · by_cases h2 : 0 ≤ r ∧ r ≤ 7
      · by_cases h3 : 1 ≤ n ∧ n ≤ 12
        · rw [if_pos h1, if_pos h2, if_pos h3, if_pos ⟨h1, h2, h3⟩]
        · rw [if_pos h1, if_pos h2, if_neg h3, if_neg (fun q => h3 q.2.2)]
      · rw [if_pos h1, if_neg h2, if_neg (fun q => h2 q.2.1)]
    · rw [if_neg h1, if_neg (fun q => h1 q.1)]
  rw [e1, pu_b1, g_refusal h.1.1, pu_b1]
/-- the row holds: it is heard -/
theorem c_heard {C M : hp_H} (h : iv C M) {r i n : Int} (hr : 0 ≤ r ∧ r < 8) (hn : 1 ≤ n ∧ n ≤ 12) (hf : sq_fd M r i n = 0) : ∃ C', f_X3_hear r i n C = some C' ∧ fc C C' ∧ tr C' 15 (M 4) ∧ he_ C' n (fun j => M 3 (40 * r + i + j)) ∧ 0 ≤ i ∧ i + n ≤ 40 := by
  obtain ⟨b1, b2, b3, b4, b5⟩ := h.2.2.2.2.1 r hr.1 hr.2
  have hi : 0 ≤ i ∧ i + n ≤ 40 := by
    unfold sq_fd at hf
    by_cases h1 : M 1 r < 0
    · rw [if_pos h1] at hf; omega
    · rw [if_neg h1] at hf
      by_cases h2 : 0 ≤ i ∧ i + n ≤ M 2 r
      · omega
      · rw [if_neg h2] at hf; omega
  obtain ⟨C', g1, g2, g3, g4⟩ := fo_hear (H := C) hr hn hi
  refine ⟨C', g1, fun b hb => g2 b (by omega) (by omega), tr_fr h.1.1 (fun b h1 h2 => g2 b (by omega) (by omega)), ⟨g3, fun j j0 jn => ?_⟩, hi⟩
  rw [g4 j j0 jn, b5 (i + j) (by omega) (by omega), show 40 * r + (i + j) = 40 * r + i + j by omega]
theorem mh_so_6 {l off n : Int} (hl : 0 ≤ l ∧ l < 4) (hn : 1 ≤ n ∧ n ≤ 12) (ho : 0 ≤ off ∧ off + n ≤ 320) : ∀ (q : Nat) (b : Bool) (k : Int) (M : hp_H), 0 ≤ k → k ≤ n → (n - k).toNat < q → iv_z M → sq_ok (M 6) → M 6 3 + (n - k) ≤ 2000 → ∃ M', f_X8_isSo_6 q l off n (if b = true then 1 else 0) k M = some (if (b && sq_fit l (fun j => M 3 (off + j)) (n - k).toNat k (M 6)) = true then 1 else 0, M') ∧ fi M M' := by
  intro q
  induction q with
  | zero => intro b k M _ _ h; omega
  | succ q ih =>
    intro b k M k0 k1 hq hz hm hh
    rw [f_X8_isSo_6]
    by_cases hv : k < n
    · obtain ⟨M2, g1, g2, g3, -⟩ := mh_hour hz hm
      have e3 : M2 3 = M 3 := g2.1 3 (by omega) (by omega) (by omega) (by omega)
      have key : (if (if b = true then (1 : Int) else 0) = 0 then some 0 else hp_b1 (f_X8_its 6 l 1 M2) (fun c10 => hp_ck (0 ≤ (hp_w (off + k)) ∧ (hp_w (off + k)) < 320) (if c10 = (M2 3 (hp_w (off + k))) then some 1 else some 0)) : Option Int) = some (if (b && decide (sq_hr (M 6) (6 + 3 * l) = M 3 (off + k))) = true then 1 else 0) := by
        rw [mo_its1 hl, pu_b1, pu_w (by omega), pu_ck (by omega), e3, g3]
        cases b
        · simp
        · by_cases hd : sq_hr (M 6) (6 + 3 * l) = M 3 (off + k)
          · simp [hd]
          · simp [hd]
      obtain ⟨M3, r1, r2⟩ := ih (b && decide (sq_hr (M 6) (6 + 3 * l) = M 3 (off + k))) (k + 1) M2 (by omega) (by omega) (by omega) g2.2 (by rw [g3]; exact sq_hr_ok hm (by omega)) (by rw [g3, show sq_hr (M 6) 3 = M 6 3 + 1 from rfl]; omega)
      rw [e3, g3] at r1
      rw [if_pos hv, g1, pu_b2, key, pu_b1, pu_let, pu_w (by omega), r1, show (n - k).toNat = (n - (k + 1)).toNat + 1 by omega, sq_fit, Bool.and_assoc]
      exact ⟨M3, rfl, g2.tr r2⟩
    · rw [if_neg hv, show (n - k).toNat = 0 by omega]
      exact ⟨M, by simp [sq_fit], fi.rf hz⟩
theorem mh_isSo {l off n : Int} {M : hp_H} (hl : 0 ≤ l ∧ l < 4) (hn : 1 ≤ n ∧ n ≤ 12) (ho : 0 ≤ off ∧ off + n ≤ 320) (hz : iv_z M) (hm : sq_ok (M 6)) (hh : M 6 3 ≤ 999) : ∃ M', f_X8_isSo l off n M = some (if sq_fit l (fun j => M 3 (off + j)) n.toNat 0 (M 6) = true then 1 else 0, M') ∧ fi M M' := by
  obtain ⟨M', g1, g2⟩ := mh_so_6 hl hn ho 1000 true 0 M (by omega) (by omega) (by omega) hz hm (by omega)
  rw [if_pos rfl, Int.sub_zero, Bool.true_and] at g1
  unfold f_X8_isSo
  rw [g1, pu_b2, pu_ck (by split <;> simp)]
  exact ⟨M', rfl, g2⟩
theorem fi.e3 {M M' : hp_H} (h : fi M M') : M' 3 = M 3 := h.1 3 (by omega) (by omega) (by omega) (by omega)
theorem mh_set {M : hp_H} (hz : iv_z M) (j x : Int) (hj : 0 ≤ j ∧ j < 41) : fi M (hp_up M 6 j x) ∧ hp_up M 6 j x 6 = sq_set (M 6) j x := by
  refine ⟨⟨fun b b1 _ _ _ => pu_upa b1, fun k hk => ⟨by rw [pu_upa (by omega)]; exact (hz k hk).1, by rw [pu_upj (by omega)]; exact (hz k hk).2⟩⟩, ?_⟩
  funext k
  unfold sq_set
  by_cases hk : k = j
  · subst hk; rw [pu_ups, if_pos rfl]
  · rw [pu_upj hk, if_neg hk]
/-- one value is laid and tried -/
theorem mh_try {M0 M : hp_H} {l off n j v : Int} (hm : sq_ok (sq_set (M0 4) j v)) (hh : sq_set (M0 4) j v 3 ≤ 999) (hl : 0 ≤ l ∧ l < 4) (hn : 1 ≤ n ∧ n ≤ 12) (ho : 0 ≤ off ∧ off + n ≤ 320) (hj : 0 ≤ j ∧ j < 41) (hf : fi M0 M) : ∃ M2 M3, f_X8_layThen M = some M2 ∧ f_X8_isSo l off n (hp_up M2 6 j v) = some (if sq_fit l (fun j => M0 3 (off + j)) n.toNat 0 (sq_set (M0 4) j v) = true then 1 else 0, M3) ∧ fi M0 M3 := by
  obtain ⟨M2, g1, g2, g3⟩ := mo_lay hf.2
  rw [hf.e4] at g2
  obtain ⟨s1, s2⟩ := mh_set g3.2 j v hj
  rw [g2] at s2
  have f3 := (hf.tr g3).tr s1
  obtain ⟨M3, v1, v2⟩ := mh_isSo (l := l) (off := off) (n := n) hl hn ho s1.2 (by rw [s2]; exact hm) (by rw [s2]; exact hh)
  rw [s2, f3.e3] at v1
  exact ⟨M2, M3, g1, v1, f3.tr v2⟩
theorem mh_wh_103 {p w l r i n : Int} {M0 : hp_H} (hm : sq_ok (M0 4)) (hh : M0 4 3 ≤ 999) (hp : 0 ≤ p ∧ p < M0 4 2) (hw : 0 ≤ w ∧ w ≤ 1) (hl : 0 ≤ l ∧ l < 4) (hr : 0 ≤ r ∧ r < 8) (hn : 1 ≤ n ∧ n ≤ 12) (hi : 0 ≤ i ∧ i + n ≤ 40) : ∀ (q : Nat) (x v : Int) (M : hp_H), (if w = 0 then 1 else 0) ≤ v → v ≤ (if w = 0 then 5 else 23) + 1 → ((if w = 0 then 5 else 23) + 1 - v).toNat < q → fi M0 M → ∃ M', f_X8_who_103 q p w l r i n x v M = some (sq_vals (M0 4) (17 + 4 * p + (if w = 0 then 0 else 3)) l n (fun j => M0 3 (40 * r + i + j)) ((if w = 0 then 5 else 23) + 1 - v).toNat v x, M') ∧ fi M0 M' := by
  have a2 := hm.2.2.1
  intro q
  induction q with
  | zero => intro x v M _ _ h; omega
  | succ q ih =>
    intro x v M v0 v1 hq hf
    rw [f_X8_who_103, pu_let]
    by_cases hv : (if w = 0 then (5 : Int) else 23) < v
    · rw [if_pos hv, show ((if w = 0 then (5 : Int) else 23) + 1 - v).toNat = 0 by omega]
      exact ⟨M, rfl, hf⟩
    · have hc : w = 0 ∨ w = 1 := by omega
      have hw5 : (if w = 0 then (5 : Int) else 23) ≤ 23 := by split <;> omega
      have hj : 0 ≤ 17 + 4 * p + (if w = 0 then 0 else 3) ∧ 17 + 4 * p + (if w = 0 then 0 else 3) < 41 := by split <;> omega
      have hok2 : sq_ok (sq_set (M0 4) (17 + 4 * p + (if w = 0 then 0 else 3)) v) := by
        refine sq_set_ok hm hp _ ?_
        rcases hc with rfl | rfl
        · left; simp at v0 hv ⊢; omega
        · right; simp at v0 hv ⊢; omega
      have e3 : sq_set (M0 4) (17 + 4 * p + (if w = 0 then 0 else 3)) v 3 = M0 4 3 := by unfold sq_set; rw [if_neg (by split <;> omega)]
      obtain ⟨M2, M3, g1, g2, g3⟩ := mh_try (l := l) (off := 40 * r + i) (n := n) hok2 (by rw [e3]; exact hh) hl hn (by omega) hj hf
      have w40 : hp_w (hp_w (40 * r) + i) = 40 * r + i := by rw [pu_w (x := 40 * r) (by omega), pu_w (by omega)]
      have w17 : hp_w (hp_w (17 + hp_w (4 * p)) + (if w = 0 then 0 else 3)) = 17 + 4 * p + (if w = 0 then 0 else 3) := by rw [pu_w (x := 4 * p) (by omega), pu_w (x := 17 + 4 * p) (by omega), pu_w (by omega)]
      rw [if_neg hv, g1, pu_b1, pu_let, w17, pu_ck hj, pu_let, w40, g2, pu_b2, pu_let, pu_let, pu_let, pu_w (by omega), show ((if w = 0 then (5 : Int) else 23) + 1 - v).toNat = ((if w = 0 then (5 : Int) else 23) + 1 - (v + 1)).toNat + 1 by omega, sq_vals, pu_01]
      exact ih _ (v + 1) M3 (by omega) (by omega) (by omega) g3
theorem op_who {C M : hp_H} (h : iv C M) (p w l r i n : Int) (hri : hp_r i) : op2 (f_X7_who p w l r i n C) (f_X8_who p w l r i n M) := by
  have ivq := iv_q h (fc.rf C) (fm_z h.2.1)
  have z0 := iv_z0 h.2.1
  have hm := iv_m h
  have e1 : (if 0 ≤ p ∧ p < M 4 2 then (if 0 ≤ w ∧ w ≤ 1 then some 1 else some 0) else some 0 : Option Int) = some (if (0 ≤ p ∧ p < M 4 2) ∧ (0 ≤ w ∧ w ≤ 1) then 1 else 0) := by
    by_cases h1 : 0 ≤ p ∧ p < M 4 2
    · by_cases h2 : 0 ≤ w ∧ w ≤ 1
      · rw [if_pos h1, if_pos h2, if_pos ⟨h1, h2⟩]
      · rw [if_pos h1, if_neg h2, if_neg (fun q => h2 q.2)]
    · rw [if_neg h1, if_neg (fun q => h1 q.1)]
  have hc := c_told h (c := (0 ≤ p ∧ p < M 4 2) ∧ (0 ≤ w ∧ w ≤ 1)) l r i n
  unfold f_X7_who f_X8_who
  rw [g_person h.1.1, pu_b1, pu_01, g_within, pu_b1, pu_01, e1, pu_b1, hc, pu_let, m_person (by rw [up4 M (by omega)]; exact hm.1), up4 M (by omega), pu_b1, pu_01, mo_in, pu_b1, pu_01, m_posted, up4 M (by omega), pu_b1, pu_01, mo_isRow, pu_b1, pu_01, mo_in, pu_b1, pu_01]
  by_cases h1 : 0 ≤ p ∧ p < M 4 2
  · rw [if_pos h1]
    by_cases h2 : 0 ≤ w ∧ w ≤ 1
    · rw [if_pos h2]
      by_cases hl : 0 < M 4 0 ∧ 0 ≤ l ∧ l ≤ 3
      · rw [if_pos hl]
        by_cases hr : 0 ≤ r ∧ r ≤ 7
        · rw [if_pos hr]
          by_cases hn : 1 ≤ n ∧ n ≤ 12
          · have hg : (((0 ≤ p ∧ p < M 4 2) ∧ (0 ≤ w ∧ w ≤ 1)) ∧ (0 ≤ r ∧ r ≤ 7) ∧ (1 ≤ n ∧ n ≤ 12)) ∧ 0 < M 4 0 ∧ 0 ≤ l ∧ l ≤ 3 := ⟨⟨⟨h1, h2⟩, hr, hn⟩, hl⟩
            rw [if_pos hn, mo_isOut (by omega), up4 M (by omega), pu_b1, pu_01]
            by_cases ho : M 4 (5 + 3 * l) = 1
            · rw [g3a hg ho, if_pos rfl, c_finding h (by omega) hri hn, pu_b1, if_pos ho, m_rowFound (by omega) hri hn, pu_b2]
              rw [show sq_fd (hp_up M 0 0 0) r i n = sq_fd M r i n by unfold sq_fd; rw [up4 M (by omega), up4 M (by omega)]]
              have iv2 := iv_st ivq (sq_fd M r i n)
              by_cases hd : sq_fd M r i n = 0
              · obtain ⟨hok, hh⟩ := iv_ok h (by omega)
                obtain ⟨C1, d1, d2, d3, d4, d5⟩ := c_heard h (r := r) (i := i) (n := n) (by omega) hn hd
                rw [hd] at iv2 ⊢
                rw [if_pos rfl, if_pos rfl, if_pos rfl, d1, pu_b1, pu_b2, if_pos rfl, pu_let]
                have z2 : iv_z (hp_up (hp_up M 0 0 0) 0 1 0) := fun k hk => by rw [pu_upa (by omega), pu_upa (by omega)]; exact z0 k hk
                have u4 : ∀ b : Int, b ≠ 0 → hp_up (hp_up M 0 0 0) 0 1 0 b = M b := fun b hb => by rw [pu_upa hb, pu_upa hb]
                obtain ⟨M3, w1, w2⟩ := mh_wh_103 (p := p) (w := w) (l := l) (r := r) (i := i) (n := n) (M0 := hp_up (hp_up M 0 0 0) 0 1 0) (by rw [u4 4 (by omega)]; exact hok) (by rw [u4 4 (by omega)]; exact hh) (by rw [u4 4 (by omega)]; exact h1) h2 (by omega) (by omega) hn d5 1000 0 (if w = 0 then 1 else 0) _ (by omega) (by split <;> omega) (by split <;> omega) (fi.rf z2)
                rw [u4 4 (by omega), u4 3 (by omega)] at w1
                obtain ⟨⟨C2, k1, k2⟩, ⟨C3, k3, k4⟩⟩ := fo_kinds (p := p) (l := l) (n := n) (by omega) hn hh d3 hok h1 d4 ho
                rw [w1, pu_b2]
                have hc : w = 0 ∨ w = 1 := by omega
                rcases hc with rfl | rfl
                · rw [if_pos rfl, k1, pu_b2, pu_b2]
                  refine ⟨_, _, M3, rfl, ?_, iv_q iv2 (fc_up (d2.tr k2.fc) 0) (fi_fm w2)⟩
                  rw [if_pos rfl, if_pos rfl, if_pos rfl, Int.add_zero]
                  rfl
                · rw [if_neg (by omega), k3, pu_b2, pu_b2]
                  refine ⟨_, _, M3, rfl, ?_, iv_q iv2 (fc_up (d2.tr k4.fc) 0) (fi_fm w2)⟩
                  rw [if_neg (by omega), if_neg (by omega), if_neg (by omega), show 17 + 4 * p + 3 = 20 + 4 * p by omega]
                  rfl
              · have hfd : sq_fd M r i n = 1 ∨ sq_fd M r i n = 2 := by unfold sq_fd at hd ⊢; (repeat' split) <;> simp_all
                rw [if_neg hd, if_neg hd, if_neg (by omega)]
                unfold f_X7_found
                rw [pu_let, pu_b2, pu_b2, pu_w (by omega), if_neg (by omega)]
                exact ⟨_, _, _, rfl, rfl, iv2⟩
            · rw [g3b hg ho, if_neg n2, pu_b2, if_neg n2, if_neg ho]
              exact ⟨_, C, _, rfl, rfl, ivq⟩
          · have hg : ¬ ((((0 ≤ p ∧ p < M 4 2) ∧ (0 ≤ w ∧ w ≤ 1)) ∧ (0 ≤ r ∧ r ≤ 7) ∧ (1 ≤ n ∧ n ≤ 12)) ∧ 0 < M 4 0 ∧ 0 ≤ l ∧ l ≤ 3) := fun q => hn q.1.2.2
            rw [g3c hg, if_neg n1, pu_b2, if_neg n1, if_neg hn]
            exact ⟨_, C, _, rfl, rfl, ivq⟩
        · have hg : ¬ ((((0 ≤ p ∧ p < M 4 2) ∧ (0 ≤ w ∧ w ≤ 1)) ∧ (0 ≤ r ∧ r ≤ 7) ∧ (1 ≤ n ∧ n ≤ 12)) ∧ 0 < M 4 0 ∧ 0 ≤ l ∧ l ≤ 3) := fun q => hr q.1.2.1
          rw [g3c hg, if_neg n1, pu_b2, if_neg n1, if_neg hr]
          exact ⟨_, C, _, rfl, rfl, ivq⟩
      · have hg : ¬ ((((0 ≤ p ∧ p < M 4 2) ∧ (0 ≤ w ∧ w ≤ 1)) ∧ (0 ≤ r ∧ r ≤ 7) ∧ (1 ≤ n ∧ n ≤ 12)) ∧ 0 < M 4 0 ∧ 0 ≤ l ∧ l ≤ 3) := fun q => hl q.2
        rw [g3c hg, if_neg n1, pu_b2, if_neg n1, if_neg hl]
        exact ⟨_, C, _, rfl, rfl, ivq⟩
    · have hg : ¬ ((((0 ≤ p ∧ p < M 4 2) ∧ (0 ≤ w ∧ w ≤ 1)) ∧ (0 ≤ r ∧ r ≤ 7) ∧ (1 ≤ n ∧ n ≤ 12)) ∧ 0 < M 4 0 ∧ 0 ≤ l ∧ l ≤ 3) := fun q => h2 q.1.1.2
      rw [g3c hg, if_neg n1, pu_b2, if_neg n1, if_neg h2]
      exact ⟨_, C, _, rfl, rfl, ivq⟩
  · have hg : ¬ ((((0 ≤ p ∧ p < M 4 2) ∧ (0 ≤ w ∧ w ≤ 1)) ∧ (0 ≤ r ∧ r ≤ 7) ∧ (1 ≤ n ∧ n ≤ 12)) ∧ 0 < M 4 0 ∧ 0 ≤ l ∧ l ≤ 3) := fun q => h1 q.1.1.1
    rw [g3c hg, if_neg n1, pu_b2, if_neg n1, if_neg h1]
    exact ⟨_, C, _, rfl, rfl, ivq⟩
