theorem to_fs_25 {t n : Int} (hn : 0 ≤ n ∧ n ≤ 198) : ∀ (k : Nat) (v : Int) (H : hp_H), 0 ≤ v → v ≤ n → (n - v).toNat < k → H 199 5 = n → ∃ H', f_X2_foresee_25 k t v H = some H' ∧ (∀ b, b ≠ 207 → b ≠ 208 → H' b = H b) ∧ (∀ j, v ≤ j → j < n → H' 207 j = 0 ∧ H' 208 j = 0) ∧ (∀ j, j < v → H' 207 j = H 207 j ∧ H' 208 j = H 208 j) := by
  intro k
  induction k with
  | zero => intro v H _ _ h; omega
  | succ k ih =>
    intro v H v0 vn hk h5
    rw [f_X2_foresee_25, h5]
    by_cases hv : v < n
    · rw [if_pos hv, pu_ck (by omega), pu_let, pu_let, pu_let, pu_w (by omega)]
      obtain ⟨H2, g1, g2, g3, g4⟩ := ih (v + 1) (hp_up (hp_up H 207 v 0) 208 v 0) (by omega) (by omega) (by omega) (by rw [pu_upa (by omega), pu_upa (by omega)]; exact h5)
      refine ⟨H2, g1, fun b b1 b2 => by rw [g2 b b1 b2, pu_upa b2, pu_upa b1], fun j j1 j2 => ?_, fun j j1 => ?_⟩
      · by_cases hj : j = v
        · subst hj
          obtain ⟨x1, x2⟩ := g4 j (by omega)
          rw [x1, x2, pu_upa (by omega), pu_ups, pu_ups]
          exact ⟨rfl, rfl⟩
        · exact g3 j (by omega) j2
      · obtain ⟨x1, x2⟩ := g4 j (by omega)
        rw [x1, x2, pu_upj (by omega), pu_upj (by omega), pu_upj (by omega), pu_upj (by omega)]
        exact ⟨rfl, rfl⟩
    · rw [if_neg hv]
      exact ⟨H, rfl, fun _ _ _ => rfl, fun j j1 j2 => by omega, fun j _ => ⟨rfl, rfl⟩⟩
theorem to_fo_19 {t f n q : Int} {m : Int → Int} (hm : sq_ok m) (hE : et t) (hn : 0 ≤ n ∧ n ≤ 198) (hf : 0 ≤ f ∧ f ≤ 2000) (q0 : 0 ≤ q) (qm : q < m 2) : ∀ (k : Nat) (v : Int) (H : hp_H), 0 ≤ v → v ≤ n → (n - v).toNat < k → tr H t m → H 199 4 = f → H 199 5 = n → H (201 + q) v = sq_go m q (f + v) →
    ∃ H', f_X2_foreseeOne_19 k t q v H = some H' ∧ (∀ b, b ≠ 201 + q → b ≠ 207 → b ≠ 208 → H' b = H b) ∧ (∀ j, v ≤ j → j ≤ n → H' (201 + q) j = sq_go m q (f + j)) ∧ (∀ j, j < v → H' (201 + q) j = H (201 + q) j ∧ H' 207 j = H 207 j ∧ H' 208 j = H 208 j) ∧
      (∀ j, v ≤ j → j < n → H' 207 j = hp_or (H 207 j) (if sq_go m q (f + j) < sq_go m q (f + j + 1) then hp_shl 1 q else 0) ∧ H' 208 j = hp_or (H 208 j) (if sq_go m q (f + j + 1) < sq_go m q (f + j) then hp_shl 1 q else 0)) := by
  have hE2 := hE
  unfold et at hE2
  have a2 := hm.2.2.1
  intro k
  induction k with
  | zero => intro v H _ _ h; omega
  | succ k ih =>
    intro v H v0 vn hk ht h4 h5 hc
    rw [f_X2_foreseeOne_19, h5]
    by_cases hv : v < n
    · rw [if_pos hv, h4, pu_w (x := f + v) (by omega), pu_w (x := f + v + 1) (by omega), to_errand ht hm q0 qm (by omega), pu_b1, pu_ck (by omega), pu_w (x := v + 1) (by omega), pu_ck (by omega), pu_let, pu_ck (by omega), pu_ck (by omega)]
      have ec : hp_up H (201 + q) (v + 1) (sq_go m q (f + v + 1)) (201 + q) v = sq_go m q (f + v) := by rw [pu_upj (by omega)]; exact hc
      have e7 : hp_up H (201 + q) (v + 1) (sq_go m q (f + v + 1)) 207 v = H 207 v := by rw [pu_upa (by omega)]
      rw [ec, e7]
      simp only [pu_let]
      generalize hx : (if sq_go m q (f + v) < sq_go m q (f + v + 1) then hp_shl 1 q else 0) = x
      have ec2 : hp_up (hp_up H (201 + q) (v + 1) (sq_go m q (f + v + 1))) 207 v (hp_or (H 207 v) x) (201 + q) v = sq_go m q (f + v) := by rw [pu_upa (by omega)]; exact ec
      have e8 : hp_up (hp_up H (201 + q) (v + 1) (sq_go m q (f + v + 1))) 207 v (hp_or (H 207 v) x) 208 v = H 208 v := by rw [pu_upa (by omega), pu_upa (by omega)]
      rw [ec2, e8]
      generalize hy : (if sq_go m q (f + v + 1) < sq_go m q (f + v) then hp_shl 1 q else 0) = y
      generalize hK : hp_up (hp_up (hp_up H (201 + q) (v + 1) (sq_go m q (f + v + 1))) 207 v (hp_or (H 207 v) x)) 208 v (hp_or (H 208 v) y) = K
      have fK : ∀ b, b ≠ 201 + q → b ≠ 207 → b ≠ 208 → K b = H b := fun b b1 b2 b3 => by rw [← hK, pu_upa b3, pu_upa b2, pu_upa b1]
      have cK : K (201 + q) (v + 1) = sq_go m q (f + (v + 1)) := by rw [← hK, pu_upa (by omega), pu_upa (by omega), pu_ups, show f + (v + 1) = f + v + 1 by omega]
      have kq : ∀ j, j ≠ v + 1 → K (201 + q) j = H (201 + q) j := fun j hj => by rw [← hK, pu_upa (by omega), pu_upa (by omega), pu_upj hj]
      have k7 : ∀ j, j ≠ v → K 207 j = H 207 j := fun j hj => by rw [← hK, pu_upa (by omega), pu_upj hj, pu_upa (by omega)]
      have k8 : ∀ j, j ≠ v → K 208 j = H 208 j := fun j hj => by rw [← hK, pu_upj hj, pu_upa (by omega), pu_upa (by omega)]
      have k7v : K 207 v = hp_or (H 207 v) x := by rw [← hK, pu_upa (by omega), pu_ups]
      have k8v : K 208 v = hp_or (H 208 v) y := by rw [← hK, pu_ups]
      obtain ⟨H2, g1, g2, g3, g4, g5⟩ := ih (v + 1) K (by omega) (by omega) (by omega) (tr_fr ht (fun b b1 b2 => fK b (by omega) (by omega) (by omega))) (by rw [fK 199 (by omega) (by omega) (by omega)]; exact h4) (by rw [fK 199 (by omega) (by omega) (by omega)]; exact h5) cK
      refine ⟨H2, g1, fun b b1 b2 b3 => by rw [g2 b b1 b2 b3, fK b b1 b2 b3], fun j j1 j2 => ?_, fun j j1 => ?_, fun j j1 j2 => ?_⟩
      · by_cases hj : j = v
        · subst hj
          rw [(g4 j (by omega)).1, kq j (by omega)]
          exact hc
        · exact g3 j (by omega) j2
      · obtain ⟨x1, x2, x3⟩ := g4 j (by omega)
        rw [x1, x2, x3, kq j (by omega), k7 j (by omega), k8 j (by omega)]
        exact ⟨rfl, rfl, rfl⟩
      · by_cases hj : j = v
        · subst hj
          obtain ⟨x1, x2, x3⟩ := g4 j (by omega)
          rw [x2, x3, k7v, k8v, hx, hy]
          exact ⟨rfl, rfl⟩
        · obtain ⟨x1, x2⟩ := g5 j (by omega) j2
          rw [x1, x2, k7 j hj, k8 j hj]
          exact ⟨rfl, rfl⟩
    · rw [if_neg hv]
      have : v = n := by omega
      subst this
      exact ⟨H, rfl, fun _ _ _ _ => rfl, fun j j1 j2 => by rw [show j = v by omega]; exact hc, fun j _ => ⟨rfl, rfl, rfl⟩, fun j j1 j2 => by omega⟩
theorem to_foreseeOne {t f n q : Int} {m : Int → Int} {H : hp_H} (hm : sq_ok m) (hE : et t) (hn : 0 ≤ n ∧ n ≤ 198) (hf : 0 ≤ f ∧ f ≤ 2000) (q0 : 0 ≤ q) (qm : q < m 2) (ht : tr H t m) (h4 : H 199 4 = f) (h5 : H 199 5 = n) :
    ∃ H', f_X2_foreseeOne t q H = some H' ∧ (∀ b, b ≠ 201 + q → b ≠ 207 → b ≠ 208 → H' b = H b) ∧ (∀ j, 0 ≤ j → j ≤ n → H' (201 + q) j = sq_go m q (f + j)) ∧
      (∀ j, 0 ≤ j → j < n → H' 207 j = hp_or (H 207 j) (if sq_go m q (f + j) < sq_go m q (f + j + 1) then hp_shl 1 q else 0) ∧ H' 208 j = hp_or (H 208 j) (if sq_go m q (f + j + 1) < sq_go m q (f + j) then hp_shl 1 q else 0)) := by
  have hE2 := hE
  unfold et at hE2
  have a2 := hm.2.2.1
  unfold f_X2_foreseeOne
  rw [pu_ck (by omega), h4, to_errand ht hm q0 qm (by omega), pu_b1, pu_let]
  obtain ⟨H2, g1, g2, g3, g4, g5⟩ := to_fo_19 (t := t) (f := f) (n := n) (q := q) hm hE hn hf q0 qm 1000 0 (hp_up H (201 + q) 0 (sq_go m q f)) (by omega) hn.1 (by omega) (tr_fr ht (fun b b1 b2 => pu_upa (by omega))) (by rw [pu_upa (by omega)]; exact h4) (by rw [pu_upa (by omega)]; exact h5) (by rw [pu_ups, Int.add_zero])
  rw [g1, pu_b1]
  refine ⟨H2, rfl, fun b b1 b2 b3 => by rw [g2 b b1 b2 b3, pu_upa b1], g3, fun j j0 jn => ?_⟩
  obtain ⟨x1, x2⟩ := g5 j j0 jn
  rw [x1, x2, pu_upa (by omega), pu_upa (by omega)]
  exact ⟨rfl, rfl⟩
theorem bi_ite {c : Prop} [Decidable c] {q p : Int} (hq : 0 ≤ q ∧ q < 32) (hp : 0 ≤ p ∧ p < 32) : bi (if c then hp_shl 1 q else 0) p = (decide c && decide (p = q)) := by
  by_cases h : c
  · rw [if_pos h, bi_sh1 hq hp]; simp [h]
  · rw [if_neg h, bi_0]; simp [h]
theorem to_fs_55 {t f n : Int} {m : Int → Int} (hm : sq_ok m) (hE : et t) (hn : 0 ≤ n ∧ n ≤ 198) (hf : 0 ≤ f ∧ f ≤ 2000) : ∀ (k : Nat) (q : Int) (H : hp_H), 0 ≤ q → q ≤ m 2 → (m 2 - q).toNat < k → tr H t m → H 199 4 = f → H 199 5 = n →
    (∀ p, 0 ≤ p → p < q → ∀ h, 0 ≤ h → h ≤ n → H (201 + p) h = sq_go m p (f + h)) →
    (∀ h, 0 ≤ h → h < n → ∀ p, 0 ≤ p → p < 6 → bi (H 207 h) p = (decide (p < q) && decide (sq_go m p (f + h) < sq_go m p (f + h + 1))) ∧ bi (H 208 h) p = (decide (p < q) && decide (sq_go m p (f + h + 1) < sq_go m p (f + h)))) →
    ∃ H', f_X2_foresee_55 k t q H = some H' ∧ (∀ b, b < 201 ∨ 208 < b → H' b = H b) ∧ er H' m f n := by
  have hE2 := hE
  unfold et at hE2
  have a2 := hm.2.2.1
  intro k
  induction k with
  | zero => intro q H _ _ h; omega
  | succ k ih =>
    intro q H q0 qm hk ht h4 h5 hp hb
    rw [f_X2_foresee_55, ht.2.2.1]
    by_cases hq : q < m 2
    · obtain ⟨H2, g1, g2, g3, g4⟩ := to_foreseeOne hm hE hn hf q0 hq ht h4 h5
      rw [if_pos hq, g1, pu_b1, pu_let, pu_w (by omega)]
      have g199 : H2 199 = H 199 := g2 199 (by omega) (by omega) (by omega)
      obtain ⟨H3, k1, k2, k3⟩ := ih (q + 1) H2 (by omega) (by omega) (by omega) (tr_fr ht (fun b b1 b2 => g2 b (by omega) (by omega) (by omega))) (by rw [g199]; exact h4) (by rw [g199]; exact h5) (fun p p0 pq h h0 hn2 => by
        by_cases hpq : p = q
        · subst hpq; exact g3 h h0 hn2
        · rw [g2 (201 + p) (by omega) (by omega) (by omega)]; exact hp p p0 (by omega) h h0 hn2) (fun h h0 hn2 p p0 p6 => by
        obtain ⟨x1, x2⟩ := g4 h h0 hn2
        obtain ⟨y1, y2⟩ := hb h h0 hn2 p p0 p6
        rw [x1, x2, bi_or, bi_or, bi_ite (by omega) (by omega), bi_ite (by omega) (by omega), y1, y2]
        by_cases hpq : p = q
        · subst hpq
          simp [show p < p + 1 by omega]
        · have : (p < q + 1) ↔ (p < q) := by omega
          simp [hpq, this])
      exact ⟨H3, k1, fun b hb2 => by rw [k2 b hb2, g2 b (by omega) (by omega) (by omega)], k3⟩
    · rw [if_neg hq]
      have : q = m 2 := by omega
      subst this
      refine ⟨H, rfl, fun _ _ => rfl, h4, h5, hp, fun h h0 hn2 p p0 pm => ?_⟩
      obtain ⟨y1, y2⟩ := hb h h0 hn2 p p0 (by omega)
      rw [y1, y2]
      simp [pm]
/-- PEOPLE foreseen for n hours from the Town's hour on -/
theorem to_foresee {t n : Int} {m : Int → Int} {H : hp_H} (ht : tr H t m) (hm : sq_ok m) (hE : et t) (hn : 0 ≤ n ∧ n ≤ 198) :
    ∃ H', f_X2_foresee t n H = some H' ∧ (∀ b, b ≠ 199 → (b < 201 ∨ 208 < b) → H' b = H b) ∧ (∀ j, j ≠ 4 → j ≠ 5 → H' 199 j = H 199 j) ∧ er H' m (m 3) n := by
  have hE2 := hE
  unfold et at hE2
  have a2 := hm.2.2.1
  have a3 := hm.2.2.2.1
  unfold f_X2_foresee
  have e1 : hp_min (hp_max n 0) 198 = n := by unfold hp_min hp_max; (repeat' split) <;> omega
  rw [pu_let, pu_let, e1, ht.2.2.2.1]
  generalize hK : hp_up (hp_up H 199 4 (m 3)) 199 5 n = K
  have fK : ∀ b, b ≠ 199 → K b = H b := fun b hb => by rw [← hK, pu_upa hb, pu_upa hb]
  have k4 : K 199 4 = m 3 := by rw [← hK, pu_upj (by omega), pu_ups]
  have k5 : K 199 5 = n := by rw [← hK, pu_ups]
  obtain ⟨H2, g1, g2, g3, -⟩ := to_fs_25 (t := t) hn 1000 0 K (by omega) hn.1 (by omega) k5
  rw [g1, pu_b1]
  have g199 : H2 199 = K 199 := g2 199 (by omega) (by omega)
  obtain ⟨H3, k1, k2, k3⟩ := to_fs_55 (t := t) (f := m 3) (n := n) hm hE hn a3 1000 0 H2 (by omega) (by omega) (by omega) (tr_fr ht (fun b b1 b2 => by rw [g2 b (by omega) (by omega), fK b (by omega)])) (by rw [g199]; exact k4) (by rw [g199]; exact k5) (fun p p0 pq => by omega) (fun h h0 hn2 p p0 p6 => by
    obtain ⟨x1, x2⟩ := g3 h h0 hn2
    rw [x1, x2, bi_0]
    have : ¬ p < 0 := by omega
    simp [this])
  rw [k1, pu_b1]
  refine ⟨H3, rfl, fun b b1 b2 => by rw [k2 b b2, g2 b (by omega) (by omega), fK b b1], fun j j4 j5 => ?_, k3⟩
  rw [k2 199 (by omega), g199, ← hK, pu_upj j5, pu_upj j4]
