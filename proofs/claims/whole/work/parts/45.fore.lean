/-! Foretold: the trial -/
/-- an hour's frame for the trial -/
def fp (H H' : hp_H) : Prop := ∀ b, b ≠ 211 → b ≠ 216 → b ≠ 199 → b ≠ 209 → H' b = H b
theorem fp.rf (H : hp_H) : fp H H := fun _ _ _ _ _ => rfl
theorem fp.tr {H H' H2 : hp_H} (h : fp H H') (h2 : fp H' H2) : fp H H2 := fun b b1 b2 b3 b4 => by rw [h2 b b1 b2 b3 b4, h b b1 b2 b3 b4]
theorem sq_by_sh (l : Int) : ∀ (r : Nat) (k : Int) (m : Int → Int), sq_by l r k m = NN ∨ (k ≤ sq_by l r k m ∧ sq_by l r k m < k + r)
  | 0, k, m => Or.inl rfl
  | r + 1, k, m => by
    unfold sq_by
    split
    · exact Or.inr ⟨by omega, by omega⟩
    · rcases sq_by_sh l r (k + 1) (sq_hr m) with h | h
      · exact Or.inl h
      · exact Or.inr ⟨by omega, by omega⟩
theorem fo_pass {H : hp_H} {m m0 : Int → Int} {f n : Int} (ht : tr H 211 m) (hm : sq_ok m) (he : er H m0 f n) (h1 : m 1 = m0 1) (h2 : m 2 = m0 2) (h3 : ∀ j, 17 ≤ j → m j = m0 j) (h0 : f ≤ m 3) (hn : m 3 < f + n) (hn2 : n ≤ 198) (hf0 : 0 ≤ f) : ∃ H', f_X2_pass 211 H = some H' ∧ fp H H' ∧ tr H' 211 (sq_hr m) ∧ er H' m0 f n ∧ (∀ j, 0 ≤ j → j < 4 → H' 209 j = sq_c m j) := by
  obtain ⟨H', g1, g2, g3, g4, g5⟩ := to_pass ht hm (by unfold et; omega) (er_congr he h1 h2 h3) h0 hn hn2 hf0
  exact ⟨H', g1, fun b b1 b2 b3 b4 => g2 b b1 (by omega) b3 b4, g3, er_congr g4 (by rw [sq_hr_at m (by omega)]; exact h1.symm) (by rw [sq_hr_at m (by omega)]; exact h2.symm) (fun j hj => by rw [sq_hr_at m (by omega)]; exact (h3 j hj).symm), g5⟩
theorem fo_gut_2 {l f n : Int} {m0 : Int → Int} (hl : 0 ≤ l ∧ l < 4) (hn2 : n ≤ 198) (hf0 : 0 ≤ f) : ∀ (q r : Nat) (most k : Int) (m : Int → Int) (H : hp_H), 0 ≤ k → k ≤ 200 → -300 ≤ most → most ≤ 200 → r = (most + 1 - k).toNat → r < q → tr H 211 m → sq_ok m → er H m0 f n → m 1 = m0 1 → m 2 = m0 2 → (∀ j, 17 ≤ j → m j = m0 j) → f ≤ m 3 → m 3 + (most - k) ≤ f + n → m 3 + r ≤ 1900 →
    ∃ H', ∃ i : Nat, f_X3_goUntilThere_2 q l most k H = some (sq_by l r k m, H') ∧ fp H H' ∧ tr H' 211 (sq_hrs m i) ∧ er H' m0 f n ∧ i ≤ r ∧ (sq_by l r k m ≠ NN → sq_by l r k m = k + i) := by
  intro q
  induction q with
  | zero => intro r most k m H _ _ _ _ _ h; omega
  | succ q ih =>
    intro r most k m H k0 k2 hm0 hm1 hr hq ht hm he h1 h2 h3 h0 hn hh
    rw [f_X3_goUntilThere_2]
    by_cases hv : most < k
    · rw [if_pos hv, show r = 0 by omega]
      exact ⟨H, 0, rfl, fp.rf H, ht, he, by omega, fun q => absurd rfl q⟩
    · obtain ⟨r2, rfl⟩ : ∃ r2, r = r2 + 1 := ⟨r - 1, by omega⟩
      rw [if_neg hv, to_isThere ht hl, pu_b1, pu_01]
      unfold sq_by
      by_cases hd : m (5 + 3 * l) = 1 ∧ m (6 + 3 * l) = m (7 + 3 * l)
      · rw [if_pos hd, if_pos hd]
        exact ⟨H, 0, rfl, fp.rf H, ht, he, by omega, fun _ => by simp⟩
      · rw [if_neg hd, if_neg hd, pu_w (x := k + 1) (by omega)]
        simp only [pu_let]
        by_cases hk : k < most
        · obtain ⟨H2, g1, g2, g3, g4, -⟩ := fo_pass ht hm he h1 h2 h3 h0 (by omega) hn2 hf0
          rw [if_pos hk, g1, pu_b1, pu_b1]
          have e3 : sq_hr m 3 = m 3 + 1 := rfl
          obtain ⟨H3, i, k1, k3, k4, k5, k6, k7⟩ := ih r2 most (k + 1) (sq_hr m) H2 (by omega) (by omega) hm0 hm1 (by omega) (by omega) g3 (sq_hr_ok hm (by omega)) g4 (by rw [sq_hr_at m (by omega)]; exact h1) (by rw [sq_hr_at m (by omega)]; exact h2) (fun j hj => by rw [sq_hr_at m (by omega)]; exact h3 j hj) (by omega) (by omega) (by omega)
          refine ⟨H3, i + 1, k1, g2.tr k3, ?_, k5, by omega, fun hne => ?_⟩
          · rw [← sq_hrs_s]; exact k4
          · rw [k7 hne]; omega
        · have : r2 = 0 := by omega
          subst this
          rw [if_neg hk, pu_b1]
          obtain ⟨q2, rfl⟩ : ∃ q2, q = q2 + 1 := ⟨q - 1, by omega⟩
          rw [f_X3_goUntilThere_2, if_pos (by omega)]
          exact ⟨H, 0, rfl, fp.rf H, ht, he, by omega, fun q => absurd rfl q⟩
theorem fo_gut {l f n most : Int} {m m0 : Int → Int} {H : hp_H} (hl : 0 ≤ l ∧ l < 4) (hn2 : n ≤ 198) (hf0 : 0 ≤ f) (hm1 : -300 ≤ most ∧ most ≤ 200) (ht : tr H 211 m) (hm : sq_ok m) (he : er H m0 f n) (h1 : m 1 = m0 1) (h2 : m 2 = m0 2) (h3 : ∀ j, 17 ≤ j → m j = m0 j) (h0 : f ≤ m 3) (hn : m 3 + most ≤ f + n) (hh : m 3 ≤ 1600) :
    ∃ H', ∃ i : Nat, f_X3_goUntilThere l most H = some (sq_by l (most + 1).toNat 0 m, H') ∧ fp H H' ∧ tr H' 211 (sq_hrs m i) ∧ er H' m0 f n ∧ i ≤ (most + 1).toNat ∧ (sq_by l (most + 1).toNat 0 m ≠ NN → sq_by l (most + 1).toNat 0 m = i) := by
  unfold f_X3_goUntilThere
  obtain ⟨H', i, g1, g2, g3, g4, g5, g6⟩ := fo_gut_2 (f := f) (n := n) (m0 := m0) hl hn2 hf0 1000 (most + 1).toNat most 0 m H (by omega) (by omega) hm1.1 hm1.2 (by rw [Int.sub_zero]) (by omega) ht hm he h1 h2 h3 h0 (by omega) (by omega)
  exact ⟨H', i, g1, g2, g3, g4, g5, fun h => by rw [g6 h]; omega⟩
/-- what the Foretold may change, but for what was heard and counted -/
def fs (H H' : hp_H) : Prop := ∀ b, (b < 199 ∨ b = 210 ∨ 224 < b) → H' b = H b
theorem fs.rf (H : hp_H) : fs H H := fun _ _ => rfl
theorem fs.tr {H H' H2 : hp_H} (h : fs H H') (h2 : fs H' H2) : fs H H2 := fun b hb => by rw [h2 b hb, h b hb]
theorem fp.fs {H H' : hp_H} (h : fp H H') : fs H H' := fun b hb => h b (by omega) (by omega) (by omega) (by omega)
theorem fs_tr {H H' : hp_H} (h : fs H H') {t : Int} {m : Int → Int} (ht : tr H t m) (hb : t + 6 < 199 ∨ 224 < t) : tr H' t m := tr_fr ht (fun b b1 b2 => h b (by omega))
theorem fo_prepare {H : hp_H} {m : Int → Int} {n : Int} (ht : tr H 15 m) (hm : sq_ok m) (hn : 0 ≤ n ∧ n ≤ 198) : ∃ H', f_X3_prepare n H = some H' ∧ fs H H' ∧ tr H' 211 m ∧ er H' m (m 3) n := by
  have a2 := hm.2.2.1
  unfold f_X3_prepare
  obtain ⟨H2, e1, e2, e3, e4, e5⟩ := to_take (t := 211) (u := 15) (by unfold ap; omega) H
  rw [e1, pu_b1]
  have t2 : tr H2 211 m := to_take_tr e3 e4 e5 ht a2.2
  have t15 : tr H2 15 m := tr_fr ht (fun b b1 b2 => e2 b (by omega))
  obtain ⟨H3, g1, g2, -, g4⟩ := to_foresee t15 hm (by unfold et; omega) hn
  rw [g1, pu_b1]
  exact ⟨H3, rfl, fun b hb => by rw [g2 b (by omega) (by omega), e2 b (by omega)], tr_fr t2 (fun b b1 b2 => g2 b (by omega) (by omega)), g4⟩
/-- a trial is begun anew: the letters of now, those who stay at home as they were -/
theorem fo_anew {H : hp_H} {m m' : Int → Int} (ht : tr H 15 m) (h2 : tr H 211 m') (e0 : m' 0 = m 0) (e1 : m' 1 = m 1) (e2 : m' 2 = m 2) (e17 : ∀ j, 17 ≤ j → m' j = m j) : ∃ H', f_X6_takeLetters 211 15 H = some H' ∧ (∀ b, b ≠ 211 → b ≠ 216 → b ≠ 217 → H' b = H b) ∧ tr H' 211 (fun k => if k = 4 then m' 4 else m k) := by
  obtain ⟨H', g1, g2, g3⟩ := to_takeL_tr (t := 211) (u := 15) (by unfold ap; omega) ht h2 e0 e17 e1 e2
  exact ⟨H', g1, fun b b1 b2 b3 => g2 b b1 (by omega) (by omega), g3⟩
/-- AT HOME of the trial is set -/
def sq_hm (m : Int → Int) (x : Int) : Int → Int := fun k => if k = 4 then x else m k
theorem fo_home {H : hp_H} {m : Int → Int} (x : Int) (ht : tr H 211 m) : tr (hp_up H 211 5 x) 211 (sq_hm m x) := by
  obtain ⟨a0, a1, a2, a3, a5, a4, b, c, d⟩ := ht
  have e : ∀ k, k ≠ 4 → sq_hm m x k = m k := fun k hk => if_neg hk
  refine ⟨by rw [e 0 (by omega), pu_upj (by omega)]; exact a0, by rw [e 1 (by omega), pu_upj (by omega)]; exact a1, by rw [e 2 (by omega), pu_upj (by omega)]; exact a2, by rw [e 3 (by omega), pu_upj (by omega)]; exact a3, by rw [pu_ups]; rfl, by rw [pu_upj (by omega)]; exact a4, fun l l0 l4 => by rw [e _ (by omega), pu_upj (by omega)]; exact b l l0 l4, fun l l0 l4 ho => ?_, fun p p0 pm => ?_⟩
  · rw [e _ (by omega)] at ho
    rw [e _ (by omega), e _ (by omega), pu_upa (by omega), pu_upa (by omega)]
    exact c l l0 l4 ho
  · rw [e _ (by omega)] at pm
    rw [e _ (by omega), e _ (by omega), e _ (by omega), e _ (by omega), pu_upa (by omega), pu_upa (by omega), pu_upa (by omega), pu_upa (by omega)]
    exact d p p0 pm
theorem sq_hm_ok {m : Int → Int} (hm : sq_ok m) {x : Int} (hx : 0 ≤ x ∧ x ≤ 63) : sq_ok (sq_hm m x) := by
  have e : ∀ k, k ≠ 4 → sq_hm m x k = m k := fun k hk => if_neg hk
  obtain ⟨a0, a1, a2, a3, a4, a5, a6⟩ := hm
  refine ⟨by rw [e 0 (by omega)]; exact a0, by rw [e 1 (by omega)]; exact a1, by rw [e 2 (by omega)]; exact a2, by rw [e 3 (by omega)]; exact a3, hx, fun l l0 l4 => ?_, fun p p0 pm => ?_⟩
  · rw [e _ (by omega), e _ (by omega), e _ (by omega), e _ (by omega)]; exact a5 l l0 l4
  · rw [e _ (by omega)] at pm
    rw [e _ (by omega), e _ (by omega), e _ (by omega), e _ (by omega), e _ (by omega)]; exact a6 p p0 pm
theorem sq_hm_id (m : Int → Int) : sq_hm m (m 4) = m := by funext k; unfold sq_hm; split <;> simp_all
/-- the trial has now's people and law -/
def pp (H : hp_H) (m : Int → Int) : Prop := ∃ m', tr H 211 m' ∧ m' 0 = m 0 ∧ m' 1 = m 1 ∧ m' 2 = m 2 ∧ (∀ j, 17 ≤ j → m' j = m j)
theorem pp_of {H : hp_H} {m m' : Int → Int} (h : tr H 211 m') (h0 : m' 0 = m 0) (h1 : m' 1 = m 1) (h2 : m' 2 = m 2) (h3 : ∀ j, 17 ≤ j → m' j = m j) : pp H m := ⟨m', h, h0, h1, h2, h3⟩
/-- isThereWith: whether letter l is there behind n hours, if those of x stay at home -/
theorem fo_itw {H : hp_H} {m : Int → Int} {x l n N : Int} (hl : 0 ≤ l ∧ l < 4) (ht : tr H 15 m) (hm : sq_ok m) (hp : pp H m) (he : er H m (m 3) N) (hx : 0 ≤ x ∧ x ≤ 63) (hn : 0 ≤ n ∧ n ≤ N) (hN : N ≤ 198) (hh : m 3 ≤ 1600) :
    ∃ H', f_X3_isThereWith x l n H = some (if sq_by l (n + 1).toNat 0 (sq_hm m x) = NN then 0 else 1, H') ∧ fs H H' ∧ pp H' m ∧ er H' m (m 3) N := by
  have a3 := hm.2.2.2.1
  obtain ⟨m', p1, p2, p3, p4, p5⟩ := hp
  obtain ⟨H2, g1, g2, g3⟩ := fo_anew ht p1 p2 p3 p4 p5
  unfold f_X3_isThereWith
  rw [g1, pu_b1, pu_let]
  have t3 : tr (hp_up H2 211 5 x) 211 (sq_hm m x) := by
    have := fo_home x g3
    have e : sq_hm (fun k => if k = 4 then m' 4 else m k) x = sq_hm m x := by funext k; unfold sq_hm; split <;> simp_all
    rw [e] at this
    exact this
  have f3 : fs H (hp_up H2 211 5 x) := fun b hb => by rw [pu_upa (by omega), g2 b (by omega) (by omega) (by omega)]
  have he3 : er (hp_up H2 211 5 x) m (m 3) N := er_fr he (by rw [pu_upa (by omega), g2 199 (by omega) (by omega) (by omega)]) (by rw [pu_upa (by omega), g2 199 (by omega) (by omega) (by omega)]) (fun b b1 b2 => by rw [pu_upa (by omega), g2 b (by omega) (by omega) (by omega)]) hm.2.2.1.2
  have e : ∀ k, k ≠ 4 → sq_hm m x k = m k := fun k hk => if_neg hk
  obtain ⟨H4, i, k1, k2, k3, k4, k5, -⟩ := fo_gut (l := l) (f := m 3) (n := N) (most := n) (m0 := m) hl hN a3.1 (by omega) t3 (sq_hm_ok hm hx) he3 (e 1 (by omega)) (e 2 (by omega)) (fun j hj => e j (by omega)) (by rw [e 3 (by omega)]; omega) (by rw [e 3 (by omega)]; omega) (by rw [e 3 (by omega)]; exact hh)
  rw [k1, pu_b2]
  refine ⟨H4, ?_, f3.tr k2.fs, pp_of k3 (by rw [sq_hrs_at _ (by omega), e 0 (by omega)]) (by rw [sq_hrs_at _ (by omega), e 1 (by omega)]) (by rw [sq_hrs_at _ (by omega), e 2 (by omega)]) (fun j hj => by rw [sq_hrs_at _ (by omega), e j (by omega)]), k4⟩
  by_cases hq : sq_by l (n + 1).toNat 0 (sq_hm m x) = NN
  · rw [if_pos (show _ = (-1000000 : Int) from hq), if_pos hq]
  · rw [if_neg (show ¬ _ = (-1000000 : Int) from hq), if_neg hq]
/-- reaches: whether letter 3, posted now, is there -/
theorem fo_rea {H : hp_H} {m : Int → Int} {lane goal n N : Int} (ht : tr H 15 m) (hm : sq_ok m) (hp : pp H m) (h4 : H 211 5 = m 4) (he : er H m (m 3) N) (h1 : 0 ≤ lane ∧ lane < m 0) (h2 : 0 ≤ goal ∧ goal < m 0) (hn : 0 ≤ n ∧ n ≤ N) (hN : N ≤ 198) (hh : m 3 ≤ 1600) :
    ∃ H', f_X3_reaches lane goal n H = some (if sq_by 3 (n + 1).toNat 0 (sq_post m 3 lane goal) = NN then 0 else 1, H') ∧ fs H H' ∧ pp H' m ∧ H' 211 5 = m 4 ∧ er H' m (m 3) N := by
  have a2 := hm.2.2.1
  have a3 := hm.2.2.2.1
  obtain ⟨m', p1, p2, p3, p4, p5⟩ := hp
  obtain ⟨H2, g1, g2, g3⟩ := fo_anew ht p1 p2 p3 p4 p5
  unfold f_X3_reaches
  rw [g1, pu_b1]
  have e4 : m' 4 = m 4 := by rw [← p1.2.2.2.2.1]; exact h4
  have em : (fun k => if k = 4 then m' 4 else m k) = m := by funext k; split <;> simp_all
  rw [em] at g3
  obtain ⟨H3, q1, q2, q3⟩ := to_putOut (l := 3) (lane := lane) (goal := goal) g3 (by omega) a2.2
  rw [q1, pu_b1]
  have e : ∀ k, k ≠ 14 ∧ k ≠ 15 ∧ k ≠ 16 → sq_post m 3 lane goal k = m k := fun k hk => by unfold sq_post; simp [hk]
  have f3 : fs H H3 := fun b hb => by rw [q2 b (by omega) (by omega) (by omega), g2 b (by omega) (by omega) (by omega)]
  have he3 : er H3 m (m 3) N := er_fr he (by rw [q2 199 (by omega) (by omega) (by omega), g2 199 (by omega) (by omega) (by omega)]) (by rw [q2 199 (by omega) (by omega) (by omega), g2 199 (by omega) (by omega) (by omega)]) (fun b b1 b2 => by rw [q2 b (by omega) (by omega) (by omega), g2 b (by omega) (by omega) (by omega)]) a2.2
  obtain ⟨H4, i, k1, k2, k3, k4, k5, -⟩ := fo_gut (l := 3) (f := m 3) (n := N) (most := n) (m0 := m) (by omega) hN a3.1 (by omega) q3 (sq_post_ok hm (by omega) (by omega) h1 h2) he3 (e 1 (by omega)) (e 2 (by omega)) (fun j hj => e j (by omega)) (by rw [e 3 (by omega)]; omega) (by rw [e 3 (by omega)]; omega) (by rw [e 3 (by omega)]; exact hh)
  rw [k1, pu_b2]
  refine ⟨H4, ?_, f3.tr k2.fs, pp_of k3 (by rw [sq_hrs_at _ (by omega), e 0 (by omega)]) (by rw [sq_hrs_at _ (by omega), e 1 (by omega)]) (by rw [sq_hrs_at _ (by omega), e 2 (by omega)]) (fun j hj => by rw [sq_hrs_at _ (by omega), e j (by omega)]), by rw [k3.2.2.2.2.1, sq_hrs_at _ (by omega), e 4 (by omega)], k4⟩
  by_cases hq : sq_by 3 (n + 1).toNat 0 (sq_post m 3 lane goal) = NN
  · rw [if_pos (show _ = (-1000000 : Int) from hq), if_pos hq]
  · rw [if_neg (show ¬ _ = (-1000000 : Int) from hq), if_neg hq]
