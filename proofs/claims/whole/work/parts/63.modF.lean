/-! cutOff -/
theorem sq_spots_bi {m : Int → Int} {goal n : Int} : ∀ (r : Nat) (lane x : Int), 0 ≤ lane → lane + r ≤ 32 → ∀ p, 0 ≤ p → p < 32 → bi (sq_spots m goal n r lane x) p = (bi x p || (decide (lane ≤ p ∧ p < lane + r) && decide (sq_by 3 (n + 1).toNat 0 (sq_post m 3 p goal) ≠ NN)))
  | 0, lane, x, _, _, p, _, _ => by simp [sq_spots, show ¬ (lane ≤ p ∧ p < lane) by omega]
  | r + 1, lane, x, l0, l1, p, p0, p1 => by
    rw [sq_spots, sq_spots_bi r (lane + 1) _ (by omega) (by omega) p p0 p1, bi_or]
    by_cases hpl : p = lane
    · subst hpl
      rw [show (decide (p + 1 ≤ p ∧ p < p + 1 + (r : Int))) = false by simp; omega, show (decide (p ≤ p ∧ p < p + ((r + 1 : Nat) : Int))) = true by simp; omega]
      by_cases hs : sq_by 3 (n + 1).toNat 0 (sq_post m 3 p goal) = NN
      · rw [if_pos hs, bi_0]; simp [hs]
      · rw [if_neg hs, bi_sh1 (by omega) (by omega)]; simp [hs]
    · have e1 : bi (if sq_by 3 (n + 1).toNat 0 (sq_post m 3 lane goal) = NN then 0 else hp_shl 1 lane) p = false := by
        split
        · exact bi_0 p
        · rw [bi_sh1 (by omega) (by omega)]; simp [hpl]
      have e2 : (decide (lane + 1 ≤ p ∧ p < lane + 1 + (r : Int))) = decide (lane ≤ p ∧ p < lane + ((r + 1 : Nat) : Int)) := by
        congr 1
        exact propext ⟨fun h => by omega, fun h => by omega⟩
      rw [e1, e2]; simp
theorem sq_any_iff {m : Int → Int} {goal : Int} : ∀ (r : Nat) (lane : Int), sq_any m goal r lane = true ↔ ∃ p, lane ≤ p ∧ p < lane + r ∧ p ≠ goal ∧ sq_by 3 100 0 (sq_post m 3 p goal) ≠ NN
  | 0, lane => by simp [sq_any]; intro p h1 h2; omega
  | r + 1, lane => by
    rw [sq_any, Bool.or_eq_true, sq_any_iff r (lane + 1)]
    constructor
    · rintro (h | ⟨p, h1, h2, h3, h4⟩)
      · simp at h
        exact ⟨lane, by omega, by omega, h.1, h.2⟩
      · exact ⟨p, by omega, by omega, h3, h4⟩
    · rintro ⟨p, h1, h2, h3, h4⟩
      by_cases hp : p = lane
      · subst hp; left; simp; exact ⟨h3, h4⟩
      · right; exact ⟨p, by omega, by omega, h3, h4⟩
theorem hp_z_bi {x : Int} (hx : hp_r x) : x = 0 ↔ ∀ p, 0 ≤ p → p < 32 → bi x p = false := by
  constructor
  · intro h p _ _; rw [h, bi_0]
  · intro h; exact bi_ext hx hp_r0 (fun p p0 p1 => by rw [h p p0 p1, bi_0])
theorem mh_co_19 {M0 : hp_H} (hm : sq_ok (M0 4)) (hh : M0 4 3 ≤ 999) : ∀ (q : Nat) (x goal : Int) (M : hp_H), 0 ≤ goal → goal ≤ M0 4 0 → (M0 4 0 - goal).toNat < q → hp_r x → fi M0 M → ∃ x' M', f_X8_cutOff_19 q x goal M = some (x', M') ∧ fi M0 M' ∧ hp_r x' ∧ (∀ p, 0 ≤ p → p < 32 → bi x' p = (bi x p || (decide (goal ≤ p ∧ p < M0 4 0) && !sq_any (M0 4) p (M0 4 0).toNat 0))) := by
  have a0 := hm.1
  intro q
  induction q with
  | zero => intro x goal M _ _ h; omega
  | succ q ih =>
    intro x goal M l0 lm hq hx hf
    rw [f_X8_cutOff_19, hf.e4]
    by_cases hl : goal < M0 4 0
    · obtain ⟨M2, g1, g2⟩ := mh_spotsBy (goal := goal) (n := 99) hf.2 (by rw [hf.e4]; exact hm) (by rw [hf.e4]; exact ⟨l0, hl⟩) (by omega) (by rw [hf.e4]; exact hh)
      rw [hf.e4] at g1
      rw [if_pos hl, g1, pu_b2, pu_let, pu_let, pu_let, pu_w (by omega)]
      obtain ⟨x', M3, r1, r2, r3, r4⟩ := ih (hp_or x (if hp_and (sq_spots (M0 4) goal 99 (M0 4 0).toNat 0 0) (hp_xor (hp_shl 1 goal) (-1)) = 0 then hp_shl 1 goal else 0)) (goal + 1) M2 (by omega) (by omega) (by omega) (hp_ror _ _) (hf.tr g2)
      refine ⟨x', M3, r1, r2, r3, fun p p0 p1 => ?_⟩
      have key : hp_and (sq_spots (M0 4) goal 99 (M0 4 0).toNat 0 0) (hp_xor (hp_shl 1 goal) (-1)) = 0 ↔ sq_any (M0 4) goal (M0 4 0).toNat 0 = false := by
        rw [hp_z_bi (hp_rand _ _), ← Bool.not_eq_true, sq_any_iff]
        constructor
        · rintro h ⟨p, h1, h2, h3, h4⟩
          have := h p h1 (by omega)
          rw [bi_and, bi_not (by omega), bi_sh1 (by omega) (by omega), sq_spots_bi _ _ _ (by omega) (by omega) p (by omega) (by omega), bi_0, show (99 + 1 : Int).toNat = 100 by rfl] at this
          simp [h3, h4] at this
          omega
        · intro h p p0 p1
          rw [bi_and, bi_not (by omega), bi_sh1 (by omega) (by omega), sq_spots_bi _ _ _ (by omega) (by omega) p (by omega) (by omega), bi_0, show (99 + 1 : Int).toNat = 100 by rfl]
          by_cases h3 : p = goal
          · simp [h3]
          · by_cases h4 : sq_by 3 100 0 (sq_post (M0 4) 3 p goal) = NN
            · simp [h4]
            · by_cases h5 : (0 : Int) ≤ p ∧ p < 0 + ((M0 4 0).toNat : Int)
              · exact absurd ⟨p, h5.1, h5.2, h3, h4⟩ h
              · rw [show decide ((0 : Int) ≤ p ∧ p < 0 + ((M0 4 0).toNat : Int)) = false by simp only [decide_eq_false h5]]
                simp
      rw [r4 p p0 p1, bi_or]
      by_cases hpg : p = goal
      · subst hpg
        rw [show decide (p + 1 ≤ p ∧ p < M0 4 0) = false by simp; omega, show decide (p ≤ p ∧ p < M0 4 0) = true by simp; omega]
        by_cases ha : sq_any (M0 4) p (M0 4 0).toNat 0 = false
        · rw [if_pos (key.mpr ha), bi_sh1 (by omega) (by omega), ha]; simp
        · rw [if_neg (fun h => ha (key.mp h)), bi_0]; simp [ha]
      · have e1 : bi (if hp_and (sq_spots (M0 4) goal 99 (M0 4 0).toNat 0 0) (hp_xor (hp_shl 1 goal) (-1)) = 0 then hp_shl 1 goal else 0) p = false := by
          split
          · rw [bi_sh1 (by omega) (by omega)]; simp [hpg]
          · exact bi_0 p
        have e2 : decide (goal + 1 ≤ p ∧ p < M0 4 0) = decide (goal ≤ p ∧ p < M0 4 0) := by
          congr 1
          exact propext ⟨fun h => by omega, fun h => by omega⟩
        rw [e1, e2]; simp
    · rw [if_neg hl]
      refine ⟨x, M, rfl, hf, hx, fun p p0 p1 => ?_⟩
      simp [show ¬ (goal ≤ p ∧ p < M0 4 0) by omega]
theorem op_cutOff {C M : hp_H} (h : iv C M) : op2 (f_X7_cutOff C) (f_X8_cutOff M) := by
  have ivq := iv_q h (fc.rf C) (fm_z h.2.1)
  have z0 := iv_z0 h.2.1
  unfold f_X7_cutOff f_X8_cutOff
  rw [g_stands h.1.1, pu_b1, pu_01, pu_let, m_there, up4 M (by omega), pu_b1, pu_01]
  by_cases hl : 0 < M 4 0
  · obtain ⟨hok, hh⟩ := iv_ok h (by omega)
    obtain ⟨x, C', k1, k2, k3, k4⟩ := fo_unreached h.1.1 hok hh
    obtain ⟨x', M', g1, g2, g3, g4⟩ := mh_co_19 (M0 := hp_up M 0 0 0) (by rw [up4 M (by omega)]; exact hok) (by rw [up4 M (by omega)]; exact hh) 1000 0 0 _ (by omega) (by rw [up4 M (by omega)]; omega) (by rw [up4 M (by omega)]; have := hok.1; omega) hp_r0 (fi.rf z0)
    have e : x' = x := bi_ext g3 k3 (fun p p0 p1 => by
      rw [g4 p p0 p1, k4 p p0 p1, bi_0, up4 M (by omega)]
      by_cases hp : p < M 4 0
      · simp [hp, p0]
      · simp [hp])
    rw [if_pos hl, if_pos hl, k1, pu_b2, g1, pu_b2, e]
    exact ⟨_, C', M', rfl, rfl, iv_q h k2.fc (fi.fm h.2.1 g2)⟩
  · rw [if_neg hl, if_neg hl]
    exact ⟨_, _, _, rfl, rfl, ivq⟩
/-! needed -/
theorem m_up (M : hp_H) : f_X8_up M = some (hp_and (sq_all (M 4)) (hp_xor (M 4 4) (-1))) := rfl
theorem bi_up {m : Int → Int} (h2 : 1 ≤ m 2 ∧ m 2 ≤ 6) {p : Int} (hp : 0 ≤ p ∧ p < m 2) : bi (hp_and (sq_all m) (hp_xor (m 4) (-1))) p = !bi (m 4) p := by
  rw [bi_and, bi_not (by omega)]
  unfold sq_all
  rw [bi_all' (by omega) (by omega)]
  simp [hp.2]
theorem hp_or0 {x : Int} (hx : hp_r x) : hp_or x 0 = x := bi_ext (hp_ror _ _) hx (fun p _ _ => by rw [bi_or, bi_0]; simp)
theorem mh_ne_64 {l n : Int} {M0 : hp_H} (hm : sq_ok (M0 4)) (hl : 0 ≤ l ∧ l < 4) (hn : 0 ≤ n ∧ n ≤ 99) (hh : M0 4 3 ≤ 999) : ∀ (q : Nat) (x p : Int) (M : hp_H), 0 ≤ p → p ≤ M0 4 2 → (M0 4 2 - p).toNat < q → hp_r x → fi M0 M → ∃ M', f_X8_needed_64 q l n x p M = some (sq_need (M0 4) l n (M0 4 2 - p).toNat p x, M') ∧ fi M0 M' := by
  intro q
  induction q with
  | zero => intro x p M _ _ h; omega
  | succ q ih =>
    intro x p M l0 l1 hq hx hf
    have a2 := hm.2.2.1
    have a4 := hm.2.2.2.2.1
    rw [f_X8_needed_64, hf.e4]
    by_cases hv : p < M0 4 2
    · rw [if_pos hv, m_up, pu_b1, mo_has (by omega), pu_b1, hf.e4, bi_up (by omega) ⟨l0, hv⟩, pu_01, show (M0 4 2 - p).toNat = (M0 4 2 - (p + 1)).toNat + 1 by omega, sq_need]
      by_cases hb : bi (M0 4 4) p = false
      · obtain ⟨M2, g1, g2, g3⟩ := mo_lay hf.2
        rw [hf.e4] at g2
        have hs := mh_home g3.2 (hp_or (M2 6 4) (hp_shl 1 p))
        have ho := hp_or_in (x := M0 4 4) (y := hp_shl 1 p) a4 (hp_sh_in (by omega))
        have e6 : hp_up M2 6 4 (hp_or (M2 6 4) (hp_shl 1 p)) 6 = sq_hm (M0 4) (hp_or (M0 4 4) (hp_shl 1 p)) := by rw [hs.2, g2]
        have e3 : sq_hm (M0 4) (hp_or (M0 4 4) (hp_shl 1 p)) 3 = M0 4 3 := by unfold sq_hm; rw [if_neg (by omega)]
        obtain ⟨M4, j, v1, v2, -⟩ := mh_doneBy (l := l) (most := n) hs.1.2 hl (by rw [e6]; exact sq_hm_ok hm ho) (by omega) (by rw [e6, e3]; omega)
        rw [e6] at v1
        rw [if_pos (by simp [hb]), g1, pu_b1, pu_let, v1, pu_b2, pu_let, pu_let, pu_b2, pu_let, pu_w (by omega)]
        have ff := ((hf.tr g3).tr hs.1).tr v2
        by_cases hd : sq_by l (n + 1).toNat 0 (sq_hm (M0 4) (hp_or (M0 4 4) (hp_shl 1 p))) = NN
        · rw [if_pos (show _ = (-1000000 : Int) from hd), if_pos ⟨hb, hd⟩]
          exact ih _ (p + 1) M4 (by omega) (by omega) (by omega) (hp_ror _ _) ff
        · rw [if_neg (show ¬ _ = (-1000000 : Int) from hd), if_neg (fun q => hd q.2)]
          rw [hp_or0 hx]
          exact ih _ (p + 1) M4 (by omega) (by omega) (by omega) hx ff
      · rw [if_neg (by simp; simpa using hb), pu_b2, pu_let, pu_w (by omega), if_neg (fun q => hb q.1)]
        exact ih _ (p + 1) M (by omega) (by omega) (by omega) hx hf
    · rw [if_neg hv, show (M0 4 2 - p).toNat = 0 by omega]
      exact ⟨M, rfl, hf⟩
theorem op_needed {C M : hp_H} (h : iv C M) (l n : Int) : op2 (f_X7_needed l n C) (f_X8_needed l n M) := by
  have ivq := iv_q h (fc.rf C) (fm_z h.2.1)
  have z0 := iv_z0 h.2.1
  unfold f_X7_needed f_X8_needed
  rw [g_span, pu_b1, g_refusal h.1.1, pu_b1, pu_let, m_posted, up4 M (by omega), pu_b1, pu_01, mo_in, pu_b1, pu_01]
  by_cases hl : 0 < M 4 0 ∧ 0 ≤ l ∧ l ≤ 3
  · rw [if_pos hl, mo_isOut (by omega), up4 M (by omega), pu_b1, pu_01]
    by_cases hn : 1 ≤ n ∧ n ≤ 99
    · have hg : (1 ≤ n ∧ n ≤ 99) ∧ 0 < M 4 0 ∧ 0 ≤ l ∧ l ≤ 3 := ⟨hn, hl⟩
      by_cases ho : M 4 (5 + 3 * l) = 1
      · obtain ⟨hok, hh⟩ := iv_ok h (by omega)
        have a2 := hok.2.2.1
        have a3 := hok.2.2.2.1
        obtain ⟨C', k1, k2⟩ := fo_needed h.1.1 hok (l := l) (n := n) (by omega) (by omega) hh
        obtain ⟨M2, g1, g2, g3⟩ := mo_lay z0
        rw [up4 M (by omega)] at g2
        obtain ⟨M3, i, w1, w2, -⟩ := mh_doneBy (l := l) (most := n) g3.2 (by omega) (by rw [g2]; exact hok) (by omega) (by rw [g2]; omega)
        rw [g2] at w1
        rw [g3a hg ho, if_pos rfl, k1, pu_b2, if_pos hn, if_pos ho, g1, pu_b1, w1, pu_b2]
        have ff := g3.tr w2
        by_cases hd : sq_by l (n + 1).toNat 0 (M 4) = NN
        · rw [if_pos hd, if_pos (show _ = (-1000000 : Int) from hd)]
          exact ⟨_, C', M3, rfl, rfl, iv_q h k2.fc (fi.fm h.2.1 ff)⟩
        · obtain ⟨M5, v1, v2⟩ := mh_ne_64 (M0 := hp_up M 0 0 0) (l := l) (n := n) (by rw [up4 M (by omega)]; exact hok) (by omega) (by omega) (by rw [up4 M (by omega)]; exact hh) 1000 0 0 M3 (by omega) (by rw [up4 M (by omega)]; omega) (by rw [up4 M (by omega)]; omega) hp_r0 ff
          rw [up4 M (by omega), Int.sub_zero] at v1
          rw [if_neg hd, if_neg (show ¬ _ = (-1000000 : Int) from hd), v1, pu_b2]
          exact ⟨_, C', M5, rfl, rfl, iv_q h k2.fc (fi.fm h.2.1 v2)⟩
      · rw [g3b hg ho, if_neg n2, if_pos hn, if_neg ho]
        exact ⟨_, C, _, rfl, rfl, ivq⟩
    · have hg : ¬ ((1 ≤ n ∧ n ≤ 99) ∧ 0 < M 4 0 ∧ 0 ≤ l ∧ l ≤ 3) := fun q => hn q.1
      rw [g3c hg, if_neg n1, if_neg hn]
      exact ⟨_, C, _, rfl, rfl, ivq⟩
  · have hg : ¬ ((1 ≤ n ∧ n ≤ 99) ∧ 0 < M 4 0 ∧ 0 ≤ l ∧ l ≤ 3) := fun q => hl q.2
    rw [g3c hg, if_neg n1, if_neg hl]
    exact ⟨_, C, _, rfl, rfl, ivq⟩
