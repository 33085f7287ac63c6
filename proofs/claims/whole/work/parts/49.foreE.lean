/-! what was heard -/
theorem fo_hear {H : hp_H} {r i n : Int} (hr : 0 ≤ r ∧ r < 8) (hn : 1 ≤ n ∧ n ≤ 12) (hi : 0 ≤ i ∧ i + n ≤ 40) : ∃ H', f_X3_hear r i n H = some H' ∧ (∀ b, b ≠ 210 → b ≠ 226 → H' b = H b) ∧ H' 210 5 = n ∧ (∀ j, 0 ≤ j → j < n → H' 226 j = H (3 + r) (i + j)) := by
  have key : ∀ (q : Nat) (v : Int) (K : hp_H), 0 ≤ v → v ≤ n → (n - v).toNat < q → K 210 5 = n → ∃ K', f_X3_hear_14 q r i v K = some K' ∧ (∀ b, b ≠ 226 → K' b = K b) ∧ (∀ j, v ≤ j → j < n → K' 226 j = K (3 + r) (i + j)) ∧ (∀ j, j < v → K' 226 j = K 226 j) := by
    intro q
    induction q with
    | zero => intro v K _ _ h; omega
    | succ q ih =>
      intro v K v0 vn hq hK
      rw [f_X3_hear_14, hK]
      by_cases hv : v < n
      · unfold f_X4_itemAt
        rw [if_pos hv, pu_w (x := i + v) (by omega), pu_ck hr, pu_ck (by omega), pu_b1, pu_ck (by omega), pu_let, pu_let, pu_w (by omega)]
        obtain ⟨K2, g1, g2, g3, g4⟩ := ih (v + 1) (hp_up K 226 v (K (3 + r) (i + v))) (by omega) (by omega) (by omega) (by rw [pu_upa (by omega)]; exact hK)
        refine ⟨K2, g1, fun b hb => by rw [g2 b hb, pu_upa hb], fun j j1 j2 => ?_, fun j j1 => ?_⟩
        · by_cases hj : j = v
          · subst hj; rw [g4 j (by omega), pu_ups]
          · rw [g3 j (by omega) j2, pu_upa (by omega)]
        · rw [g4 j (by omega), pu_upj (by omega)]
      · rw [if_neg hv]
        exact ⟨K, rfl, fun _ _ => rfl, fun j j1 j2 => by omega, fun _ _ => rfl⟩
  unfold f_X3_hear
  have e1 : hp_min n 12 = n := by unfold hp_min; split <;> omega
  rw [pu_let, e1]
  obtain ⟨K, g1, g2, g3, -⟩ := key 1000 0 (hp_up H 210 5 n) (by omega) (by omega) (by omega) (pu_ups _ _ _ _)
  rw [g1, pu_b1]
  exact ⟨K, rfl, fun b b1 b2 => by rw [g2 b b2, pu_upa b1], by rw [g2 210 (by omega), pu_ups], fun j j0 jn => by rw [g3 j j0 jn, pu_upa (by omega)]⟩
/-- whether letter l goes as g tells, for r hours from h on -/
def sq_fit (l : Int) (g : Int → Int) : Nat → Int → (Int → Int) → Bool
  | 0, _, _ => true
  | r + 1, h, m => decide (sq_hr m (6 + 3 * l) = g h) && sq_fit l g r (h + 1) (sq_hr m)
/-- what was heard lies there -/
def he_ (H : hp_H) (n : Int) (g : Int → Int) : Prop := H 210 5 = n ∧ ∀ j, 0 ≤ j → j < n → H 226 j = g j
theorem fs_he {H H' : hp_H} (h : fs H H') {n : Int} {g : Int → Int} (hh : he_ H n g) : he_ H' n g := ⟨by rw [h 210 (by omega)]; exact hh.1, fun j j0 jn => by rw [h 226 (by omega)]; exact hh.2 j j0 jn⟩
theorem fo_ft_2 {l f n : Int} {m0 g : Int → Int} (hl : 0 ≤ l ∧ l < 4) (hn : 1 ≤ n ∧ n ≤ 12) (hf0 : 0 ≤ f ∧ f ≤ 1500) : ∀ (q : Nat) (k : Int) (m : Int → Int) (H : hp_H), 0 ≤ k → k ≤ n → (n - k).toNat < q → tr H 211 m → sq_ok m → er H m0 f n → he_ H n g → m (5 + 3 * l) = 1 → m 1 = m0 1 → m 2 = m0 2 → (∀ j, 17 ≤ j → m j = m0 j) → m 3 = f + k →
    ∃ H', ∃ i : Nat, f_X3_fits_2 q l k H = some (if sq_fit l g (n - k).toNat k m = true then 1 else 0, H') ∧ fp H H' ∧ tr H' 211 (sq_hrs m i) ∧ er H' m0 f n := by
  intro q
  induction q with
  | zero => intro k m H _ _ h; omega
  | succ q ih =>
    intro k m H k0 kn hq ht hm he hg ho h1 h2 h3 h4
    rw [f_X3_fits_2, hg.1]
    by_cases hk : k < n
    · obtain ⟨H2, g1, g2, g3, g4, -⟩ := fo_pass ht hm he h1 h2 h3 (by omega) (by omega) (by omega) hf0.1
      have hg2 : he_ H2 n g := fs_he g2.fs hg
      have hlc : H2 216 l = sq_hr m (6 + 3 * l) := (g3.2.2.2.2.2.2.2.1 l hl.1 hl.2 (by rw [sq_hr_at m (by omega)]; exact ho)).1
      rw [if_pos hk, g1, pu_b1, pu_ck hl, pu_ck (by omega), hlc, hg2.2 k k0 hk, show (n - k).toNat = (n - (k + 1)).toNat + 1 by omega, sq_fit]
      by_cases hc : sq_hr m (6 + 3 * l) = g k
      · rw [if_pos hc, pu_let, pu_w (by omega)]
        have e3 : sq_hr m 3 = m 3 + 1 := rfl
        obtain ⟨H3, i, k1, k2, k3, k4⟩ := ih (k + 1) (sq_hr m) H2 (by omega) (by omega) (by omega) g3 (sq_hr_ok hm (by omega)) g4 hg2 (by rw [sq_hr_at m (by omega)]; exact ho) (by rw [sq_hr_at m (by omega)]; exact h1) (by rw [sq_hr_at m (by omega)]; exact h2) (fun j hj => by rw [sq_hr_at m (by omega)]; exact h3 j hj) (by omega)
        refine ⟨H3, i + 1, ?_, g2.tr k2, ?_, k4⟩
        · rw [k1]; simp [hc]
        · rw [← sq_hrs_s]; exact k3
      · rw [if_neg hc]
        exact ⟨H2, 1, by simp [hc], g2, g3, g4⟩
    · rw [if_neg hk]
      exact ⟨H, 0, by rw [show (n - k).toNat = 0 by omega]; rfl, fp.rf H, ht, he⟩
theorem fo_fits {l n : Int} {m g : Int → Int} {H : hp_H} (hl : 0 ≤ l ∧ l < 4) (hn : 1 ≤ n ∧ n ≤ 12) (hh : m 3 ≤ 999) (ht : tr H 211 m) (hm : sq_ok m) (he : er H m (m 3) n) (hg : he_ H n g) (ho : m (5 + 3 * l) = 1) : ∃ H', ∃ i : Nat, f_X3_fits l H = some (if sq_fit l g n.toNat 0 m = true then 1 else 0, H') ∧ fp H H' ∧ tr H' 211 (sq_hrs m i) ∧ er H' m (m 3) n := by
  have a3 := hm.2.2.2.1
  unfold f_X3_fits
  obtain ⟨H', i, g1, g2⟩ := fo_ft_2 (l := l) (f := m 3) (n := n) (m0 := m) (g := g) hl hn (by omega) 1000 0 m H (by omega) (by omega) (by omega) ht hm he hg ho rfl rfl (fun _ _ => rfl) (by omega)
  rw [Int.sub_zero] at g1
  exact ⟨H', i, g1, g2⟩
/-- a row with one slot otherwise -/
def sq_set (m : Int → Int) (j v : Int) : Int → Int := fun k => if k = j then v else m k
theorem sq_set_ok {m : Int → Int} (hm : sq_ok m) {p v : Int} (hp : 0 ≤ p ∧ p < m 2) (j : Int) (hj : (j = 17 + 4 * p ∧ 1 ≤ v ∧ v ≤ 5) ∨ (j = 20 + 4 * p ∧ 0 ≤ v ∧ v ≤ 23)) : sq_ok (sq_set m j v) := by
  have e : ∀ k, k ≠ j → sq_set m j v k = m k := fun k hk => if_neg hk
  obtain ⟨a0, a1, a2, a3, a4, a5, a6⟩ := hm
  refine ⟨by rw [e 0 (by omega)]; exact a0, by rw [e 1 (by omega)]; exact a1, by rw [e 2 (by omega)]; exact a2, by rw [e 3 (by omega)]; exact a3, by rw [e 4 (by omega)]; exact a4, fun l l0 l4 => ?_, fun q q0 qm => ?_⟩
  · rw [e _ (by omega), e _ (by omega), e _ (by omega), e _ (by omega)]; exact a5 l l0 l4
  · rw [e _ (by omega)] at qm
    have b := a6 q q0 qm
    rw [e (18 + 4 * q) (by omega), e (19 + 4 * q) (by omega), e 0 (by omega)]
    refine ⟨?_, b.2.1, b.2.2.1, ?_⟩
    · by_cases h : 17 + 4 * q = j
      · rw [h]; unfold sq_set; rw [if_pos rfl]; omega
      · rw [e _ h]; exact b.1
    · by_cases h : 20 + 4 * q = j
      · rw [h]; unfold sq_set; rw [if_pos rfl]; omega
      · rw [e _ h]; exact b.2.2.2
/-- letters anew, the people as the trial has them -/
theorem to_takeL_tr2 {t u : Int} (hd : ap t u) {H : hp_H} {m m' : Int → Int} (hu : tr H u m) (ht : tr H t m') (h1 : m' 0 = m 0) (h3 : m' 1 = m 1) (h4 : m' 2 = m 2) : ∃ H', f_X6_takeLetters t u H = some H' ∧ (∀ b, b ≠ t → b ≠ t + 5 → b ≠ t + 6 → H' b = H b) ∧ tr H' t (fun k => if k = 4 ∨ 17 ≤ k then m' k else m k) := by
  obtain ⟨H4, e4, f4, g4, h43, h44, c4⟩ := to_takeL hd H
  refine ⟨H4, e4, f4, ?_⟩
  obtain ⟨a0, a1, a2, a3, a5, a4, b, c, d⟩ := hu
  obtain ⟨x0, x1, x2, x3, x5, x4, y, z, w⟩ := ht
  have e : ∀ k, k ≠ 4 → k < 17 → (fun k => if k = 4 ∨ 17 ≤ k then m' k else m k) k = m k := fun k hk hk2 => if_neg (by omega)
  have e' : ∀ k, 17 ≤ k → (fun k => if k = 4 ∨ 17 ≤ k then m' k else m k) k = m' k := fun k hk => if_pos (by omega)
  refine ⟨by rw [e 0 (by omega) (by omega), g4 0 (by omega) (by omega), x0]; exact h1, by rw [e 1 (by omega) (by omega), g4 1 (by omega) (by omega), x1]; exact h3, by rw [e 2 (by omega) (by omega), g4 2 (by omega) (by omega), x2]; exact h4, by rw [e 3 (by omega) (by omega), h43]; exact a3, by rw [g4 5 (by omega) (by omega), x5]; rfl, by rw [h44]; exact a4, fun l l0 l4 => by rw [e (5 + 3 * l) (by omega) (by omega), h44]; exact b l l0 l4, fun l l0 l4 ho => ?_, fun p p0 hp => ?_⟩
  · rw [e (5 + 3 * l) (by omega) (by omega)] at ho
    rw [e (6 + 3 * l) (by omega) (by omega), e (7 + 3 * l) (by omega) (by omega), (c4 l l0 l4).1, (c4 l l0 l4).2]
    exact c l l0 l4 ho
  · rw [e 2 (by omega) (by omega), ← h4] at hp
    obtain ⟨w1, w2, w3, w4⟩ := w p p0 hp
    rw [e' (17 + 4 * p) (by omega), e' (18 + 4 * p) (by omega), e' (19 + 4 * p) (by omega), e' (20 + 4 * p) (by omega), f4 (t + 1) (by omega) (by omega) (by omega), f4 (t + 2) (by omega) (by omega) (by omega), f4 (t + 3) (by omega) (by omega) (by omega), f4 (t + 4) (by omega) (by omega) (by omega)]
    exact ⟨w1, w2, w3, w4⟩
/-- KINDS or BEGINS that fit: from v on, r of them -/
def sq_vals (m : Int → Int) (j l n : Int) (g : Int → Int) : Nat → Int → Int → Int
  | 0, _, x => x
  | r + 1, v, x => sq_vals m j l n g r (v + 1) (hp_or x (if sq_fit l g n.toNat 0 (sq_set m j v) = true then hp_shl 1 v else 0))
/-- one value is tried: the kind, or when it begins -/
theorem fo_try {H : hp_H} {m m' g : Int → Int} {p l n v a j : Int} (hl : 0 ≤ l ∧ l < 4) (hn : 1 ≤ n ∧ n ≤ 12) (hh : m 3 ≤ 999) (ht : tr H 15 m) (hm : sq_ok m) (hp : 0 ≤ p ∧ p < m 2) (hg : he_ H n g) (ho : m (5 + 3 * l) = 1) (hj : (a = 212 ∧ j = 17 + 4 * p ∧ 1 ≤ v ∧ v ≤ 5) ∨ (a = 215 ∧ j = 20 + 4 * p ∧ 0 ≤ v ∧ v ≤ 23)) (h2 : tr H 211 m') (e0 : m' 0 = m 0) (e1 : m' 1 = m 1) (e2 : m' 2 = m 2) (e4 : m' 4 = m 4) (e17 : ∀ k, 17 ≤ k → k ≠ j → m' k = m k) :
    ∃ H2 H3 H4, ∃ i : Nat, f_X6_takeLetters 211 15 H = some H2 ∧ f_X2_foresee 211 (hp_up H2 a p v 210 5) (hp_up H2 a p v) = some H3 ∧ f_X3_fits l H3 = some (if sq_fit l g n.toNat 0 (sq_set m j v) = true then 1 else 0, H4) ∧ fs H H4 ∧ tr H4 211 (sq_hrs (sq_set m j v) i) := by
  have a2 := hm.2.2.1
  obtain ⟨H2, g1, g2, g3⟩ := to_takeL_tr2 (t := 211) (u := 15) (by unfold ap; omega) ht h2 e0 e1 e2
  have hok : sq_ok (sq_set m j v) := sq_set_ok hm hp j (by omega)
  have e : ∀ k, k ≠ j → sq_set m j v k = m k := fun k hk => if_neg hk
  have t3 : tr (hp_up H2 a p v) 211 (sq_set m j v) := by
    obtain ⟨x0, x1, x2, x3, x5, x4, y, z, w⟩ := g3
    have q : ∀ k, k ≠ 4 → k < 17 → (fun k => if k = 4 ∨ 17 ≤ k then m' k else m k) k = m k := fun k hk hk2 => if_neg (by omega)
    have q' : ∀ k, 17 ≤ k → (fun k => if k = 4 ∨ 17 ≤ k then m' k else m k) k = m' k := fun k hk => if_pos (by omega)
    have q4 : (fun k => if k = 4 ∨ 17 ≤ k then m' k else m k) 4 = m 4 := by rw [← e4]; exact if_pos (by omega)
    rw [q 0 (by omega) (by omega)] at x0
    rw [q 1 (by omega) (by omega)] at x1
    rw [q 2 (by omega) (by omega)] at x2
    rw [q 3 (by omega) (by omega)] at x3
    rw [q4] at x5
    refine ⟨by rw [e 0 (by omega), pu_upa (by omega)]; exact x0, by rw [e 1 (by omega), pu_upa (by omega)]; exact x1, by rw [e 2 (by omega), pu_upa (by omega)]; exact x2, by rw [e 3 (by omega), pu_upa (by omega)]; exact x3, by rw [e 4 (by omega), pu_upa (by omega)]; exact x5, by rw [pu_upa (by omega)]; exact x4, fun l l0 l4 => ?_, fun l l0 l4 ho => ?_, fun r r0 rm => ?_⟩
    · rw [e (5 + 3 * l) (by omega), pu_upa (by omega)]
      have := y l l0 l4
      rw [q (5 + 3 * l) (by omega) (by omega)] at this
      exact this
    · rw [e (5 + 3 * l) (by omega)] at ho
      rw [e (6 + 3 * l) (by omega), e (7 + 3 * l) (by omega), pu_upa (by omega), pu_upa (by omega)]
      have := z l l0 l4 (by rw [q (5 + 3 * l) (by omega) (by omega)]; exact ho)
      rw [q (6 + 3 * l) (by omega) (by omega), q (7 + 3 * l) (by omega) (by omega)] at this
      exact this
    · rw [e 2 (by omega)] at rm
      have := w r r0 (by rw [q 2 (by omega) (by omega)]; exact rm)
      rw [q' (17 + 4 * r) (by omega), q' (18 + 4 * r) (by omega), q' (19 + 4 * r) (by omega), q' (20 + 4 * r) (by omega)] at this
      obtain ⟨w1, w2, w3, w4⟩ := this
      rw [e (18 + 4 * r) (by omega), e (19 + 4 * r) (by omega), pu_upa (show (211 : Int) + 2 ≠ a by omega), pu_upa (show (211 : Int) + 3 ≠ a by omega), w2, w3, e17 (18 + 4 * r) (by omega) (by omega), e17 (19 + 4 * r) (by omega) (by omega)]
      refine ⟨?_, rfl, rfl, ?_⟩
      · by_cases hr : 17 + 4 * r = j
        · have ha : a = 212 := by omega
          have hrp : r = p := by omega
          subst ha; subst hrp
          rw [hr]
          unfold sq_set
          rw [if_pos rfl]
          exact pu_ups _ _ _ _
        · rw [e _ hr, ← e17 _ (by omega) hr, ← w1, pu_up, if_neg (by omega)]
      · by_cases hr : 20 + 4 * r = j
        · have ha : a = 215 := by omega
          have hrp : r = p := by omega
          subst ha; subst hrp
          rw [hr]
          unfold sq_set
          rw [if_pos rfl]
          exact pu_ups _ _ _ _
        · rw [e _ hr, ← e17 _ (by omega) hr, ← w4, pu_up, if_neg (by omega)]
  have fr2 : fs H (hp_up H2 a p v) := fun b hb => by rw [pu_upa (by omega), g2 b (by omega) (by omega) (by omega)]
  have hg2 := fs_he fr2 hg
  obtain ⟨H3, k1, k2, -, k4⟩ := to_foresee (n := n) t3 hok (by unfold et; omega) (by omega)
  have t4 : tr H3 211 (sq_set m j v) := tr_fr t3 (fun b b1 b2 => k2 b (by omega) (by omega))
  have hg3 : he_ H3 n g := fs_he (fun b hb => k2 b (by omega) (by omega)) hg2
  obtain ⟨H4, i, w1, w2, w3, -⟩ := fo_fits (g := g) hl hn (by rw [e 3 (by omega)]; exact hh) t4 hok k4 hg3 (by rw [e _ (by omega)]; exact ho)
  exact ⟨H2, H3, H4, i, g1, by rw [hg2.1]; exact k1, w1, fr2.tr ((show fs _ H3 from fun b hb => k2 b (by omega) (by omega)).tr w2.fs), w3⟩
theorem fo_ki_14 {m g : Int → Int} {p l n : Int} (hl : 0 ≤ l ∧ l < 4) (hn : 1 ≤ n ∧ n ≤ 12) (hh : m 3 ≤ 999) (hm : sq_ok m) (hp : 0 ≤ p ∧ p < m 2) (ho : m (5 + 3 * l) = 1) : ∀ (q : Nat) (x v : Int) (m' : Int → Int) (H : hp_H), 1 ≤ v → v ≤ 6 → (6 - v).toNat < q → tr H 15 m → he_ H n g → tr H 211 m' → m' 0 = m 0 → m' 1 = m 1 → m' 2 = m 2 → m' 4 = m 4 → (∀ k, 17 ≤ k → k ≠ 17 + 4 * p → m' k = m k) →
    ∃ H', f_X3_kindsThatFit_14 q p l x v H = some (sq_vals m (17 + 4 * p) l n g (6 - v).toNat v x, H') ∧ fs H H' := by
  have a2 := hm.2.2.1
  intro q
  induction q with
  | zero => intro x v m' H _ _ h; omega
  | succ q ih =>
    intro x v m' H v0 vn hq ht hg h2 e0 e1 e2 e4 e17
    rw [f_X3_kindsThatFit_14]
    by_cases hv : 5 < v
    · rw [if_pos hv, show (6 - v).toNat = 0 by omega]
      exact ⟨H, rfl, fs.rf H⟩
    · obtain ⟨H2, H3, H4, i, g1, g2, g3, g4, g5⟩ := fo_try (a := 212) (v := v) hl hn hh ht hm hp hg ho (Or.inl ⟨rfl, rfl, by omega⟩) h2 e0 e1 e2 e4 e17
      rw [if_neg hv, g1, pu_b1, pu_ck (by omega), pu_let, g2, pu_b1, g3, pu_b2, pu_let, pu_let, pu_let, pu_01, pu_w (by omega), show (6 - v).toNat = (6 - (v + 1)).toNat + 1 by omega]
      have e : ∀ k, k ≠ 17 + 4 * p → sq_set m (17 + 4 * p) v k = m k := fun k hk => if_neg hk
      obtain ⟨H5, k1, k2⟩ := ih (hp_or x (if sq_fit l g n.toNat 0 (sq_set m (17 + 4 * p) v) = true then hp_shl 1 v else 0)) (v + 1) _ H4 (by omega) (by omega) (by omega) (fs_tr g4 ht (by omega)) (fs_he g4 hg) g5 (by rw [sq_hrs_at _ (by omega), e _ (by omega)]) (by rw [sq_hrs_at _ (by omega), e _ (by omega)]) (by rw [sq_hrs_at _ (by omega), e _ (by omega)]) (by rw [sq_hrs_at _ (by omega), e _ (by omega)]) (fun k hk hk2 => by rw [sq_hrs_at _ (by omega), e _ hk2])
      exact ⟨H5, k1, g4.tr k2⟩
theorem fo_be_14 {m g : Int → Int} {p l n : Int} (hl : 0 ≤ l ∧ l < 4) (hn : 1 ≤ n ∧ n ≤ 12) (hh : m 3 ≤ 999) (hm : sq_ok m) (hp : 0 ≤ p ∧ p < m 2) (ho : m (5 + 3 * l) = 1) : ∀ (q : Nat) (x v : Int) (m' : Int → Int) (H : hp_H), 0 ≤ v → v ≤ 24 → (24 - v).toNat < q → tr H 15 m → he_ H n g → tr H 211 m' → m' 0 = m 0 → m' 1 = m 1 → m' 2 = m 2 → m' 4 = m 4 → (∀ k, 17 ≤ k → k ≠ 20 + 4 * p → m' k = m k) →
    ∃ H', f_X3_beginsThatFit_14 q p l x v H = some (sq_vals m (20 + 4 * p) l n g (24 - v).toNat v x, H') ∧ fs H H' := by
  have a2 := hm.2.2.1
  intro q
  induction q with
  | zero => intro x v m' H _ _ h; omega
  | succ q ih =>
    intro x v m' H v0 vn hq ht hg h2 e0 e1 e2 e4 e17
    rw [f_X3_beginsThatFit_14]
    by_cases hv : 23 < v
    · rw [if_pos hv, show (24 - v).toNat = 0 by omega]
      exact ⟨H, rfl, fs.rf H⟩
    · obtain ⟨H2, H3, H4, i, g1, g2, g3, g4, g5⟩ := fo_try (a := 215) (v := v) hl hn hh ht hm hp hg ho (Or.inr ⟨rfl, rfl, by omega⟩) h2 e0 e1 e2 e4 e17
      rw [if_neg hv, g1, pu_b1, pu_ck (by omega), pu_let, g2, pu_b1, g3, pu_b2, pu_let, pu_let, pu_let, pu_01, pu_w (by omega), show (24 - v).toNat = (24 - (v + 1)).toNat + 1 by omega]
      have e : ∀ k, k ≠ 20 + 4 * p → sq_set m (20 + 4 * p) v k = m k := fun k hk => if_neg hk
      obtain ⟨H5, k1, k2⟩ := ih (hp_or x (if sq_fit l g n.toNat 0 (sq_set m (20 + 4 * p) v) = true then hp_shl 1 v else 0)) (v + 1) _ H4 (by omega) (by omega) (by omega) (fs_tr g4 ht (by omega)) (fs_he g4 hg) g5 (by rw [sq_hrs_at _ (by omega), e _ (by omega)]) (by rw [sq_hrs_at _ (by omega), e _ (by omega)]) (by rw [sq_hrs_at _ (by omega), e _ (by omega)]) (by rw [sq_hrs_at _ (by omega), e _ (by omega)]) (fun k hk hk2 => by rw [sq_hrs_at _ (by omega), e _ hk2])
      exact ⟨H5, k1, g4.tr k2⟩
theorem fo_kinds {H : hp_H} {m g : Int → Int} {p l n : Int} (hl : 0 ≤ l ∧ l < 4) (hn : 1 ≤ n ∧ n ≤ 12) (hh : m 3 ≤ 999) (ht : tr H 15 m) (hm : sq_ok m) (hp : 0 ≤ p ∧ p < m 2) (hg : he_ H n g) (ho : m (5 + 3 * l) = 1) : (∃ H', f_X3_kindsThatFit p l H = some (sq_vals m (17 + 4 * p) l n g 5 1 0, H') ∧ fs H H') ∧ (∃ H', f_X3_beginsThatFit p l H = some (sq_vals m (20 + 4 * p) l n g 24 0 0, H') ∧ fs H H') := by
  have a2 := hm.2.2.1
  obtain ⟨H2, e1, e2, e3, e4, e5⟩ := to_take (t := 211) (u := 15) (by unfold ap; omega) H
  have t2 : tr H2 211 m := to_take_tr e3 e4 e5 ht a2.2
  have f2 : fs H H2 := fun b hb => e2 b (by omega)
  constructor
  · obtain ⟨H3, k1, k2⟩ := fo_ki_14 (g := g) hl hn hh hm hp ho 1000 0 1 m H2 (by omega) (by omega) (by omega) (fs_tr f2 ht (by omega)) (fs_he f2 hg) t2 rfl rfl rfl rfl (fun _ _ _ => rfl)
    have k1 : f_X3_kindsThatFit_14 1000 p l 0 1 H2 = some (sq_vals m (17 + 4 * p) l n g 5 1 0, H3) := k1
    unfold f_X3_kindsThatFit
    rw [e1, pu_b1, k1, pu_b2]
    exact ⟨H3, rfl, f2.tr k2⟩
  · obtain ⟨H3, k1, k2⟩ := fo_be_14 (g := g) hl hn hh hm hp ho 1000 0 0 m H2 (by omega) (by omega) (by omega) (fs_tr f2 ht (by omega)) (fs_he f2 hg) t2 rfl rfl rfl rfl (fun _ _ _ => rfl)
    have k1 : f_X3_beginsThatFit_14 1000 p l 0 0 H2 = some (sq_vals m (20 + 4 * p) l n g 24 0 0, H3) := k1
    unfold f_X3_beginsThatFit
    rw [e1, pu_b1, k1, pu_b2]
    exact ⟨H3, rfl, f2.tr k2⟩
