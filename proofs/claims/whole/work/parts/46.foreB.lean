/-! what is foretold: the class's answers, in the row's words -/
theorem fo_next {H : hp_H} {m : Int → Int} {l : Int} (ht : tr H 15 m) (hm : sq_ok m) (hl : 0 ≤ l ∧ l < 4) (hh : m 3 ≤ 999) : ∃ H', f_X3_nextCarrier l H = some (sq_c m l, H') ∧ fs H H' := by
  have a3 := hm.2.2.2.1
  obtain ⟨H2, g1, g2, g3, g4⟩ := fo_prepare (n := 1) ht hm (by omega)
  obtain ⟨H3, k1, k2, k3, k4, k5⟩ := fo_pass g3 hm g4 rfl rfl (fun _ _ => rfl) (by omega) (by omega) (by omega) a3.1
  unfold f_X3_nextCarrier f_X2_carrierThen
  rw [g1, pu_b1, k1, pu_b1, pu_ck hl, pu_b1, k5 l hl.1 hl.2]
  exact ⟨H3, rfl, g2.tr k2.fs⟩
theorem fo_pb_9 {l f n : Int} {m0 : Int → Int} (hn2 : n ≤ 198) (hf0 : 0 ≤ f ∧ f ≤ 1500) : ∀ (q : Nat) (k : Int) (m : Int → Int) (H : hp_H), 0 ≤ k → k ≤ n → (n - k).toNat < q → tr H 211 m → sq_ok m → er H m0 f n → m 1 = m0 1 → m 2 = m0 2 → (∀ j, 17 ≤ j → m j = m0 j) → m 3 = f + k →
    ∃ H', f_X3_placeBehind_9 q l n k H = some H' ∧ fp H H' ∧ tr H' 211 (sq_hrs m (n - k).toNat) := by
  intro q
  induction q with
  | zero => intro k m H _ _ h; omega
  | succ q ih =>
    intro k m H k0 kn hq ht hm he h1 h2 h3 h4
    rw [f_X3_placeBehind_9]
    by_cases hk : k < n
    · obtain ⟨H2, g1, g2, g3, g4, -⟩ := fo_pass ht hm he h1 h2 h3 (by omega) (by omega) hn2 hf0.1
      rw [if_pos hk, g1, pu_b1, pu_let, pu_w (by omega)]
      have e3 : sq_hr m 3 = m 3 + 1 := rfl
      obtain ⟨H3, k1, k2, k3⟩ := ih (k + 1) (sq_hr m) H2 (by omega) (by omega) (by omega) g3 (sq_hr_ok hm (by omega)) g4 (by rw [sq_hr_at m (by omega)]; exact h1) (by rw [sq_hr_at m (by omega)]; exact h2) (fun j hj => by rw [sq_hr_at m (by omega)]; exact h3 j hj) (by omega)
      refine ⟨H3, k1, g2.tr k2, ?_⟩
      rw [show (n - k).toNat = (n - (k + 1)).toNat + 1 by omega, ← sq_hrs_s]
      exact k3
    · rw [if_neg hk]
      exact ⟨H, rfl, fp.rf H, by rw [show (n - k).toNat = 0 by omega]; exact ht⟩
theorem fo_placeBehind {H : hp_H} {m : Int → Int} {l n : Int} (ht : tr H 15 m) (hm : sq_ok m) (hl : 0 ≤ l ∧ l < 4) (ho : m (5 + 3 * l) = 1) (hn : 0 ≤ n ∧ n ≤ 99) (hh : m 3 ≤ 999) : ∃ H', f_X3_placeBehind l n H = some (sq_hrs m n.toNat (6 + 3 * l), H') ∧ fs H H' := by
  have a3 := hm.2.2.2.1
  obtain ⟨H2, g1, g2, g3, g4⟩ := fo_prepare (n := n) ht hm (by omega)
  obtain ⟨H3, k1, k2, k3⟩ := fo_pb_9 (l := l) (f := m 3) (n := n) (m0 := m) (by omega) (by omega) 1000 0 m H2 (by omega) (by omega) (by omega) g3 hm g4 rfl rfl (fun _ _ => rfl) (by omega)
  unfold f_X3_placeBehind
  rw [g1, pu_b1, k1, pu_b1, pu_ck hl]
  rw [Int.sub_zero] at k3
  have := (k3.2.2.2.2.2.2.2.1 l hl.1 hl.2 (by rw [sq_hrs_at m (by omega)]; exact ho)).1
  exact ⟨H3, by rw [← this]; rfl, g2.tr k2.fs⟩
theorem fo_arrival {H : hp_H} {m : Int → Int} {l : Int} (ht : tr H 15 m) (hm : sq_ok m) (hl : 0 ≤ l ∧ l < 4) (hh : m 3 ≤ 999) : ∃ H', f_X3_arrival l H = some (sq_by l 100 0 m, H') ∧ fs H H' := by
  have a3 := hm.2.2.2.1
  obtain ⟨H2, g1, g2, g3, g4⟩ := fo_prepare (n := 99) ht hm (by omega)
  obtain ⟨H3, i, k1, k2, -⟩ := fo_gut (l := l) (f := m 3) (n := 99) (most := 99) (m0 := m) hl (by omega) a3.1 (by omega) g3 hm g4 rfl rfl (fun _ _ => rfl) (by omega) (by omega) (by omega)
  unfold f_X3_arrival
  rw [g1, pu_b1, k1, pu_b2]
  exact ⟨H3, rfl, g2.tr k2.fs⟩
theorem pu_10 {c : Prop} [Decidable c] {α : Type} {x y : α} : (if (if c then (0 : Int) else 1) = 0 then x else y) = if c then x else y := by
  by_cases h : c
  · rw [if_pos h, if_pos h, if_pos rfl]
  · rw [if_neg h, if_neg h, if_neg (by omega)]
def sq_cars (l : Int) : Nat → (Int → Int) → Int → Int
  | 0, _, x => x
  | r + 1, m, x => sq_cars l r (sq_hr m) (hp_or x (if sq_c m l = NN then 0 else hp_shl 1 (sq_c m l)))
theorem fo_cs_12 {l f n : Int} {m0 : Int → Int} (hl : 0 ≤ l ∧ l < 4) (hn2 : n ≤ 198) (hf0 : 0 ≤ f ∧ f ≤ 1500) : ∀ (q : Nat) (k x : Int) (m : Int → Int) (H : hp_H), 0 ≤ k → k ≤ n → (n - k).toNat < q → tr H 211 m → sq_ok m → er H m0 f n → m 1 = m0 1 → m 2 = m0 2 → (∀ j, 17 ≤ j → m j = m0 j) → m 3 = f + k →
    ∃ H', f_X3_carriersOf_12 q l n x k H = some (sq_cars l (n - k).toNat m x, H') ∧ fp H H' := by
  intro q
  induction q with
  | zero => intro k x m H _ _ h; omega
  | succ q ih =>
    intro k x m H k0 kn hq ht hm he h1 h2 h3 h4
    rw [f_X3_carriersOf_12]
    by_cases hk : k < n
    · obtain ⟨H2, g1, g2, g3, g4, g5⟩ := fo_pass ht hm he h1 h2 h3 (by omega) (by omega) hn2 hf0.1
      unfold f_X2_carrierThen
      rw [if_pos hk, g1, pu_b1, pu_ck hl, pu_b1, pu_let, pu_let, pu_let, pu_w (by omega), g5 l hl.1 hl.2]
      have e3 : sq_hr m 3 = m 3 + 1 := rfl
      obtain ⟨H3, k1, k2⟩ := ih (k + 1) (hp_or x (if sq_c m l = -1000000 then 0 else hp_shl 1 (sq_c m l))) (sq_hr m) H2 (by omega) (by omega) (by omega) g3 (sq_hr_ok hm (by omega)) g4 (by rw [sq_hr_at m (by omega)]; exact h1) (by rw [sq_hr_at m (by omega)]; exact h2) (fun j hj => by rw [sq_hr_at m (by omega)]; exact h3 j hj) (by omega)
      refine ⟨H3, ?_, g2.tr k2⟩
      rw [k1, show (n - k).toNat = (n - (k + 1)).toNat + 1 by omega]
      rfl
    · rw [if_neg hk]
      exact ⟨H, by rw [show (n - k).toNat = 0 by omega]; rfl, fp.rf H⟩
theorem fo_carriers {H : hp_H} {m : Int → Int} {l n : Int} (ht : tr H 15 m) (hm : sq_ok m) (hl : 0 ≤ l ∧ l < 4) (hn : 0 ≤ n ∧ n ≤ 99) (hh : m 3 ≤ 999) : ∃ H', f_X3_carriersOf l n H = some (sq_cars l n.toNat m 0, H') ∧ fs H H' := by
  have a3 := hm.2.2.2.1
  obtain ⟨H2, g1, g2, g3, g4⟩ := fo_prepare (n := n) ht hm (by omega)
  obtain ⟨H3, k1, k2⟩ := fo_cs_12 (l := l) (f := m 3) (n := n) (m0 := m) hl (by omega) (by omega) 1000 0 0 m H2 (by omega) (by omega) (by omega) g3 hm g4 rfl rfl (fun _ _ => rfl) (by omega)
  unfold f_X3_carriersOf
  rw [g1, pu_b1, k1, pu_b2, Int.sub_zero]
  exact ⟨H3, rfl, g2.tr k2.fs⟩
/-- whether letter 3, posted in a lane for a goal, is there behind n hours -/
def sq_rch (m : Int → Int) (lane goal n : Int) : Prop := sq_by 3 (n + 1).toNat 0 (sq_post m 3 lane goal) ≠ NN
def sq_spots (m : Int → Int) (goal n : Int) : Nat → Int → Int → Int
  | 0, _, x => x
  | r + 1, lane, x => sq_spots m goal n r (lane + 1) (hp_or x (if sq_by 3 (n + 1).toNat 0 (sq_post m 3 lane goal) = NN then 0 else hp_shl 1 lane))
theorem fo_sp_12 {goal n : Int} {m : Int → Int} (hm : sq_ok m) (hg : 0 ≤ goal ∧ goal < m 0) (hn : 0 ≤ n ∧ n ≤ 198) (hh : m 3 ≤ 999) : ∀ (q : Nat) (lane x : Int) (H : hp_H), 0 ≤ lane → lane ≤ m 0 → (m 0 - lane).toNat < q → tr H 15 m → pp H m → H 211 5 = m 4 → er H m (m 3) n →
    ∃ H', f_X3_spotsFor_12 q goal n x lane H = some (sq_spots m goal n (m 0 - lane).toNat lane x, H') ∧ fs H H' := by
  have a0 := hm.1
  intro q
  induction q with
  | zero => intro lane x H _ _ h; omega
  | succ q ih =>
    intro lane x H l0 lm hq ht hp h5 he
    rw [f_X3_spotsFor_12, ht.1]
    by_cases hl : lane < m 0
    · obtain ⟨H2, g1, g2, g3, g4, g5⟩ := fo_rea (lane := lane) (goal := goal) (n := n) ht hm hp h5 he (by omega) hg (by omega) hn.2 (by omega)
      rw [if_pos hl, g1, pu_b2, pu_let, pu_let, pu_let, pu_w (by omega), pu_10]
      obtain ⟨H3, k1, k2⟩ := ih (lane + 1) (hp_or x (if sq_by 3 (n + 1).toNat 0 (sq_post m 3 lane goal) = NN then 0 else hp_shl 1 lane)) H2 (by omega) (by omega) (by omega) (fs_tr g2 ht (by omega)) g3 g4 g5
      refine ⟨H3, ?_, g2.tr k2⟩
      rw [k1, show (m 0 - lane).toNat = (m 0 - (lane + 1)).toNat + 1 by omega]
      rfl
    · rw [if_neg hl]
      exact ⟨H, by rw [show (m 0 - lane).toNat = 0 by omega]; rfl, fs.rf H⟩
theorem fo_spots {H : hp_H} {m : Int → Int} {goal n : Int} (ht : tr H 15 m) (hm : sq_ok m) (hg : 0 ≤ goal ∧ goal < m 0) (hn : 0 ≤ n ∧ n ≤ 99) (hh : m 3 ≤ 999) : ∃ H', f_X3_spotsFor goal n H = some (sq_spots m goal n (m 0).toNat 0 0, H') ∧ fs H H' := by
  have a0 := hm.1
  obtain ⟨H2, g1, g2, g3, g4⟩ := fo_prepare (n := n) ht hm (by omega)
  obtain ⟨H3, k1, k2⟩ := fo_sp_12 (goal := goal) (n := n) hm hg (by omega) hh 1000 0 0 H2 (by omega) (by omega) (by omega) (fs_tr g2 ht (by omega)) (pp_of g3 rfl rfl rfl (fun _ _ => rfl)) g3.2.2.2.2.1 g4
  unfold f_X3_spotsFor
  rw [g1, pu_b1, k1, pu_b2, Int.sub_zero]
  exact ⟨H3, rfl, g2.tr k2⟩
def sq_meet (m : Int → Int) (p o : Int) : Nat → Int → Int
  | 0, _ => NN
  | r + 1, k => if sq_place m p (m 3 + k) = sq_place m o (m 3 + k) then k else sq_meet m p o r (k + 1)
theorem fo_meet {H : hp_H} {m : Int → Int} {p o : Int} (ht : tr H 15 m) (hm : sq_ok m) (hp : 0 ≤ p ∧ p < m 2) (ho : 0 ≤ o ∧ o < m 2) : f_X3_meeting p o H = some (sq_meet m p o 100 0) := by
  have key : ∀ (q : Nat) (k : Int), 0 ≤ k → k ≤ 100 → (100 - k).toNat < q → f_X3_meeting_3 q p o k H = some (sq_meet m p o (100 - k).toNat k) := by
    intro q
    induction q with
    | zero => intro k _ _ h; omega
    | succ q ih =>
      intro k k0 k1 hq
      rw [f_X3_meeting_3]
      by_cases hk : 99 < k
      · rw [if_pos hk, show (100 - k).toNat = 0 by omega]
        rfl
      · rw [if_neg hk, to_where ht hm hp.1 hp.2 (by omega), to_where ht hm ho.1 ho.2 (by omega), pu_b1, pu_b1, pu_let, pu_w (by omega), ih (k + 1) (by omega) (by omega) (by omega), show (100 - k).toNat = (100 - (k + 1)).toNat + 1 by omega]
        rw [sq_meet]
        split <;> rfl
  unfold f_X3_meeting
  rw [key 1000 0 (by omega) (by omega) (by omega)]
  rfl
def sq_ans (m : Int → Int) (l : Int) : Int :=
  if sq_by l 100 0 m = NN then NN else
    let b := sq_by 3 100 0 (sq_post (sq_hrs m (sq_by l 100 0 m).toNat) 3 (m (7 + 3 * l)) (m (6 + 3 * l)))
    if b = NN then NN else sq_by l 100 0 m + b
theorem fo_answer {H : hp_H} {m : Int → Int} {l : Int} (ht : tr H 15 m) (hm : sq_ok m) (hl : 0 ≤ l ∧ l < 4) (ho : m (5 + 3 * l) = 1) (hh : m 3 ≤ 999) : ∃ H', f_X3_answerTo l H = some (sq_ans m l, H') ∧ fs H H' := by
  have a2 := hm.2.2.1
  have a3 := hm.2.2.2.1
  obtain ⟨H2, g1, g2, g3, g4⟩ := fo_prepare (n := 198) ht hm (by omega)
  obtain ⟨H3, i, k1, k2, k3, k4, k5, k6⟩ := fo_gut (l := l) (f := m 3) (n := 198) (most := 99) (m0 := m) hl (by omega) a3.1 (by omega) g3 hm g4 rfl rfl (fun _ _ => rfl) (by omega) (by omega) (by omega)
  have k1 : f_X3_goUntilThere l 99 H2 = some (sq_by l 100 0 m, H3) := k1
  have k6 : sq_by l 100 0 m ≠ NN → sq_by l 100 0 m = i := k6
  unfold f_X3_answerTo sq_ans
  rw [g1, pu_b1, k1, pu_b2]
  by_cases hq : sq_by l 100 0 m = NN
  · rw [if_pos (show _ = (-1000000 : Int) from hq), if_pos hq]
    exact ⟨H3, rfl, g2.tr k2.fs⟩
  · rw [if_neg (show ¬ _ = (-1000000 : Int) from hq), if_neg hq, pu_ck hl]
    have hq2 := k6 hq
    have hb := sq_by_sh l 100 0 m
    have hlw := (hm.2.2.2.2.2.1 l hl.1 hl.2).2 ho
    have t15 := fs_tr (g2.tr k2.fs) ht (by omega)
    have hlc := t15.2.2.2.2.2.2.2.1 l hl.1 hl.2 ho
    have e20 : H3 20 l = m (6 + 3 * l) := hlc.1
    have e21 : H3 21 l = m (7 + 3 * l) := hlc.2
    rw [e20, e21]
    have e : ∀ k, k ≠ 3 ∧ k ≠ 6 ∧ k ≠ 9 ∧ k ≠ 12 ∧ k ≠ 15 → sq_hrs m i k = m k := fun k hk => sq_hrs_at m hk i
    obtain ⟨H4, q1, q2, q3⟩ := to_putOut (l := 3) (lane := m (7 + 3 * l)) (goal := m (6 + 3 * l)) k3 (by omega) (by rw [e 2 (by omega)]; exact a2.2)
    rw [q1, pu_b1]
    have e2 : ∀ k, k ≠ 14 ∧ k ≠ 15 ∧ k ≠ 16 → sq_post (sq_hrs m i) 3 (m (7 + 3 * l)) (m (6 + 3 * l)) k = sq_hrs m i k := fun k hk => by unfold sq_post; simp [hk]
    have hok := sq_hrs_ok hm i (by omega)
    obtain ⟨H5, j, w1, w2, -⟩ := fo_gut (l := 3) (f := m 3) (n := 198) (most := 99) (m0 := m) (by omega) (by omega) a3.1 (by omega) q3 (sq_post_ok hok (by omega) (by omega) (by rw [e 0 (by omega)]; omega) (by rw [e 0 (by omega)]; omega)) (er_fr k4 (by rw [q2 199 (by omega) (by omega) (by omega)]) (by rw [q2 199 (by omega) (by omega) (by omega)]) (fun b b1 b2 => q2 b (by omega) (by omega) (by omega)) a2.2) (by rw [e2 1 (by omega), e 1 (by omega)]) (by rw [e2 2 (by omega), e 2 (by omega)]) (fun j hj => by rw [e2 j (by omega), e j (by omega)]) (by rw [e2 3 (by omega), sq_hrs_3]; omega) (by rw [e2 3 (by omega), sq_hrs_3]; omega) (by rw [e2 3 (by omega), sq_hrs_3]; omega)
    have w1 : f_X3_goUntilThere 3 99 H4 = some (sq_by 3 100 0 (sq_post (sq_hrs m i) 3 (m (7 + 3 * l)) (m (6 + 3 * l))), H5) := w1
    rw [w1, pu_b2]
    have hb2 := sq_by_sh 3 100 0 (sq_post (sq_hrs m i) 3 (m (7 + 3 * l)) (m (6 + 3 * l)))
    dsimp only
    rw [show (sq_by l 100 0 m).toNat = i by omega]
    have ff : fs H H5 := (g2.tr k2.fs).tr ((show fs H3 H4 from fun b hb => q2 b (by omega) (by omega) (by omega)).tr w2.fs)
    by_cases hr : sq_by 3 100 0 (sq_post (sq_hrs m i) 3 (m (7 + 3 * l)) (m (6 + 3 * l))) = NN
    · rw [if_pos (show _ = (-1000000 : Int) from hr), if_pos hr]
      exact ⟨H5, rfl, ff⟩
    · rw [if_neg (show ¬ _ = (-1000000 : Int) from hr), if_neg hr, pu_w (by omega)]
      exact ⟨H5, rfl, ff⟩
