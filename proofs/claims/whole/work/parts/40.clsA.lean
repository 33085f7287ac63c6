/-! the class's Town: which row it stands for -/
def tr (H : hp_H) (t : Int) (m : Int → Int) : Prop :=
  H t 0 = m 0 ∧ H t 1 = m 1 ∧ H t 2 = m 2 ∧ H t 3 = m 3 ∧ H t 5 = m 4 ∧ (0 ≤ H t 4 ∧ H t 4 < 16) ∧
  (∀ l, 0 ≤ l → l < 4 → (bi (H t 4) l = true ↔ m (5 + 3 * l) = 1)) ∧
  (∀ l, 0 ≤ l → l < 4 → m (5 + 3 * l) = 1 → H (t + 5) l = m (6 + 3 * l) ∧ H (t + 6) l = m (7 + 3 * l)) ∧
  (∀ p, 0 ≤ p → p < m 2 → H (t + 1) p = m (17 + 4 * p) ∧ H (t + 2) p = m (18 + 4 * p) ∧ H (t + 3) p = m (19 + 4 * p) ∧ H (t + 4) p = m (20 + 4 * p))
theorem tr_fr {H H' : hp_H} {t : Int} {m : Int → Int} (h : tr H t m) (hf : ∀ b, t ≤ b → b ≤ t + 6 → H' b = H b) : tr H' t m := by
  unfold tr
  rw [hf t (by omega) (by omega), hf (t + 1) (by omega) (by omega), hf (t + 2) (by omega) (by omega), hf (t + 3) (by omega) (by omega), hf (t + 4) (by omega) (by omega), hf (t + 5) (by omega) (by omega), hf (t + 6) (by omega) (by omega)]
  exact h
/-- rows that are alike where it counts -/
def sq_eq (m m' : Int → Int) : Prop := ∀ k, 0 ≤ k → k < 41 → m k = m' k
theorem sq_eq.symm {m m' : Int → Int} (h : sq_eq m m') : sq_eq m' m := fun k h1 h2 => (h k h1 h2).symm
theorem tr_eq {H : hp_H} {t : Int} {m m' : Int → Int} (h : tr H t m) (he : sq_eq m m') (h2 : m 2 ≤ 6) : tr H t m' := by
  obtain ⟨a0, a1, a2, a3, a5, a4, b, c, d⟩ := h
  refine ⟨by rw [← he 0 (by omega) (by omega)]; exact a0, by rw [← he 1 (by omega) (by omega)]; exact a1, by rw [← he 2 (by omega) (by omega)]; exact a2, by rw [← he 3 (by omega) (by omega)]; exact a3, by rw [← he 4 (by omega) (by omega)]; exact a5, a4, fun l h0 h4 => ?_, fun l h0 h4 ho => ?_, fun p h0 hp => ?_⟩
  · rw [← he (5 + 3 * l) (by omega) (by omega)]; exact b l h0 h4
  · rw [← he (5 + 3 * l) (by omega) (by omega)] at ho
    rw [← he (6 + 3 * l) (by omega) (by omega), ← he (7 + 3 * l) (by omega) (by omega)]
    exact c l h0 h4 ho
  · rw [← he 2 (by omega) (by omega)] at hp
    rw [← he (17 + 4 * p) (by omega) (by omega), ← he (18 + 4 * p) (by omega) (by omega), ← he (19 + 4 * p) (by omega) (by omega), ← he (20 + 4 * p) (by omega) (by omega)]
    exact d p h0 hp
theorem sq_ok_eq {m m' : Int → Int} (h : sq_ok m) (he : sq_eq m m') : sq_ok m' := by
  obtain ⟨a0, a1, a2, a3, a4, a5, a6⟩ := h
  refine ⟨by rw [← he 0 (by omega) (by omega)]; exact a0, by rw [← he 1 (by omega) (by omega)]; exact a1, by rw [← he 2 (by omega) (by omega)]; exact a2, by rw [← he 3 (by omega) (by omega)]; exact a3, by rw [← he 4 (by omega) (by omega)]; exact a4, fun l h0 h4 => ?_, fun p h0 hp => ?_⟩
  · rw [← he (5 + 3 * l) (by omega) (by omega), ← he (6 + 3 * l) (by omega) (by omega), ← he (7 + 3 * l) (by omega) (by omega), ← he 0 (by omega) (by omega)]
    exact a5 l h0 h4
  · rw [← he 2 (by omega) (by omega)] at hp
    rw [← he (17 + 4 * p) (by omega) (by omega), ← he (18 + 4 * p) (by omega) (by omega), ← he (19 + 4 * p) (by omega) (by omega), ← he (20 + 4 * p) (by omega) (by omega), ← he 0 (by omega) (by omega)]
    exact a6 p h0 hp
theorem to_isOut {H : hp_H} {t l : Int} {m : Int → Int} (h : tr H t m) (hl : 0 ≤ l ∧ l < 4) : f_X6_isOut t l H = some (if m (5 + 3 * l) = 1 then 1 else 0) := by
  have hb := h.2.2.2.2.2.2.1 l hl.1 hl.2
  unfold f_X6_isOut
  by_cases ho : m (5 + 3 * l) = 1
  · rw [if_pos ((bi_t1 (by omega)).mpr (hb.mpr ho)), if_pos ho]
  · rw [if_neg (fun q => ho (hb.mp ((bi_t1 (by omega)).mp q))), if_neg ho]
theorem to_isThere {H : hp_H} {t l : Int} {m : Int → Int} (h : tr H t m) (hl : 0 ≤ l ∧ l < 4) : f_X6_isThere t l H = some (if m (5 + 3 * l) = 1 ∧ m (6 + 3 * l) = m (7 + 3 * l) then 1 else 0) := by
  have hb := h.2.2.2.2.2.2.1 l hl.1 hl.2
  unfold f_X6_isThere
  by_cases ho : m (5 + 3 * l) = 1
  · have hc := h.2.2.2.2.2.2.2.1 l hl.1 hl.2 ho
    rw [if_pos ((bi_t1 (by omega)).mpr (hb.mpr ho)), pu_ck hl, hc.1, hc.2]
    by_cases he : m (6 + 3 * l) = m (7 + 3 * l)
    · rw [if_pos he, if_pos ⟨ho, he⟩]
    · rw [if_neg he, if_neg (fun q => he q.2)]
  · rw [if_neg (fun q => ho (hb.mp ((bi_t1 (by omega)).mp q))), if_neg (fun q => ho q.1)]
theorem to_isUnderWay {H : hp_H} {t l : Int} {m : Int → Int} (h : tr H t m) (hl : 0 ≤ l ∧ l < 4) : f_X6_isUnderWay t l H = some (if m (5 + 3 * l) = 1 ∧ m (6 + 3 * l) ≠ m (7 + 3 * l) then 1 else 0) := by
  have hb := h.2.2.2.2.2.2.1 l hl.1 hl.2
  unfold f_X6_isUnderWay
  by_cases ho : m (5 + 3 * l) = 1
  · have hc := h.2.2.2.2.2.2.2.1 l hl.1 hl.2 ho
    rw [if_pos ((bi_t1 (by omega)).mpr (hb.mpr ho)), pu_ck hl, hc.1, hc.2]
    by_cases he : m (6 + 3 * l) = m (7 + 3 * l)
    · rw [if_pos he, if_neg (fun q => q.2 he)]
    · rw [if_neg he, if_pos ⟨ho, he⟩]
  · rw [if_neg (fun q => ho (hb.mp ((bi_t1 (by omega)).mp q))), if_neg (fun q => ho q.1)]
theorem to_arrived {H : hp_H} {t : Int} {m : Int → Int} (h : tr H t m) : f_X6_arrived t H = some (sq_dones m) := by
  unfold f_X6_arrived
  have st : ∀ n (x l : Int), 0 ≤ l → l < 4 → f_X6_arrived_4 (n + 1) t x l H = f_X6_arrived_4 n t (hp_or x (sq_bit (m (5 + 3 * l) = 1 ∧ m (6 + 3 * l) = m (7 + 3 * l)) l)) (l + 1) H := fun n x l h0 h4 => by
    rw [f_X6_arrived_4, if_pos h4, to_isThere h ⟨h0, h4⟩, pu_b1, pu_let, pu_let, pu_let, pu_01, pu_w (by omega)]
    rfl
  rw [st 999 0 0 (by omega) (by omega), st 998 _ (0 + 1) (by omega) (by omega), st 997 _ (0 + 1 + 1) (by omega) (by omega), st 996 _ (0 + 1 + 1 + 1) (by omega) (by omega), f_X6_arrived_4, if_neg (by omega), pu_b1]
  rfl
theorem to_isHome {H : hp_H} {t p : Int} {m : Int → Int} (h : tr H t m) (hp : 0 ≤ p ∧ p < 32) : f_X6_isHome t p H = some (if bi (m 4) p = true then 1 else 0) := by
  unfold f_X6_isHome
  rw [h.2.2.2.2.1, bi_t hp]
  cases bi (m 4) p <;> rfl
theorem to_steps (H : hp_H) {k g d : Int} (hk : 1 ≤ k ∧ k ≤ 5) (hg : 0 ≤ g ∧ g ≤ 1000) : f_X6_stepsOf k g (if d = 1 then 1 else 0) H = some (if k = 3 then g.tdiv 2 else if k < 4 then (if k = 5 then 2 * g else g) else if d = 1 then 0 else (if k = 5 then 2 * g else g)) := by
  have e2 := sq_t2 g hg.1
  unfold f_X6_stepsOf
  rw [pu_w (x := g.tdiv 2) (by omega), pu_w (x := 2 * g) (by omega), pu_01]
  have : k = 1 ∨ k = 2 ∨ k = 3 ∨ k = 4 ∨ k = 5 := by omega
  rcases this with rfl | rfl | rfl | rfl | rfl
  · simp
  · simp
  · simp
  · by_cases hd : d = 1 <;> simp [hd]
  · by_cases hd : d = 1 <;> simp [hd]
theorem to_errand {H : hp_H} {t p h : Int} {m : Int → Int} (ht : tr H t m) (hm : sq_ok m) (h0 : 0 ≤ p) (hp : p < m 2) (hh : 0 ≤ h ∧ h ≤ 3000) : f_X6_placeOnErrand t p h H = some (sq_go m p h) := by
  have hm2 := hm
  obtain ⟨a0, a1, a2, a3, a4, a5, a6⟩ := hm2
  obtain ⟨b1, b2, b3, b4⟩ := a6 p h0 hp
  obtain ⟨d1, d2, d3, d4⟩ := ht.2.2.2.2.2.2.2.2 p h0 hp
  have c1 := sq_tm hh.1 (show 0 < m 1 by omega)
  have c2 := sq_td hh.1 (show 0 < m 1 by omega)
  unfold f_X6_placeOnErrand
  rw [ht.2.1, d1, d2, d3, d4, if_neg (by omega), pu_ck (by omega), pu_ck (by omega), pu_let, pu_let, pu_let, pu_w (x := h.tmod (m 1) - m (20 + 4 * p)) (by omega), pu_w (x := h.tdiv (m 1)) (by omega), pu_w (x := m (19 + 4 * p) - m (18 + 4 * p)) (by omega)]
  have eg : hp_max (h.tmod (m 1) - m (20 + 4 * p)) 0 = if m (20 + 4 * p) < h.tmod (m 1) then h.tmod (m 1) - m (20 + 4 * p) else 0 := by unfold hp_max; (repeat' split) <;> omega
  rw [eg]
  have hg0 : 0 ≤ (if m (20 + 4 * p) < h.tmod (m 1) then h.tmod (m 1) - m (20 + 4 * p) else 0) ∧ (if m (20 + 4 * p) < h.tmod (m 1) then h.tmod (m 1) - m (20 + 4 * p) else 0) ≤ 24 := by split <;> omega
  unfold sq_go
  dsimp only
  generalize (if m (20 + 4 * p) < h.tmod (m 1) then h.tmod (m 1) - m (20 + 4 * p) else 0) = g0 at *
  have e2 := sq_t2 g0 hg0.1
  rw [to_steps H b1 (by omega), pu_b1, pu_let]
  have hg1 : 0 ≤ (if m (17 + 4 * p) = 3 then g0.tdiv 2 else if m (17 + 4 * p) < 4 then (if m (17 + 4 * p) = 5 then 2 * g0 else g0) else if (h.tdiv (m 1)).tmod 2 = 1 then 0 else (if m (17 + 4 * p) = 5 then 2 * g0 else g0)) ∧ (if m (17 + 4 * p) = 3 then g0.tdiv 2 else if m (17 + 4 * p) < 4 then (if m (17 + 4 * p) = 5 then 2 * g0 else g0) else if (h.tdiv (m 1)).tmod 2 = 1 then 0 else (if m (17 + 4 * p) = 5 then 2 * g0 else g0)) ≤ 60 := by (repeat' split) <;> omega
  generalize (if m (17 + 4 * p) = 3 then g0.tdiv 2 else if m (17 + 4 * p) < 4 then (if m (17 + 4 * p) = 5 then 2 * g0 else g0) else if (h.tdiv (m 1)).tmod 2 = 1 then 0 else (if m (17 + 4 * p) = 5 then 2 * g0 else g0)) = g1 at *
  have ew : hp_min g1 (hp_abs (m (19 + 4 * p) - m (18 + 4 * p))) = if (if m (18 + 4 * p) < m (19 + 4 * p) then m (19 + 4 * p) - m (18 + 4 * p) else m (18 + 4 * p) - m (19 + 4 * p)) < g1 then (if m (18 + 4 * p) < m (19 + 4 * p) then m (19 + 4 * p) - m (18 + 4 * p) else m (18 + 4 * p) - m (19 + 4 * p)) else g1 := by
    unfold hp_abs hp_min
    rw [pu_w (x := 0 - (m (19 + 4 * p) - m (18 + 4 * p))) (by omega)]
    generalize m (18 + 4 * p) = f at *
    generalize m (19 + 4 * p) = t at *
    (repeat' split) <;> omega
  rw [ew]
  generalize hG : (if (if m (18 + 4 * p) < m (19 + 4 * p) then m (19 + 4 * p) - m (18 + 4 * p) else m (18 + 4 * p) - m (19 + 4 * p)) < g1 then (if m (18 + 4 * p) < m (19 + 4 * p) then m (19 + 4 * p) - m (18 + 4 * p) else m (18 + 4 * p) - m (19 + 4 * p)) else g1) = g2 at *
  have hg2 : 0 ≤ g2 ∧ g2 ≤ 60 ∧ (m (18 + 4 * p) = m (19 + 4 * p) → g2 = 0) := by
    rw [← hG]
    generalize m (18 + 4 * p) = f at *
    generalize m (19 + 4 * p) = t at *
    refine ⟨?_, ?_, fun _ => ?_⟩ <;> (repeat' split) <;> omega
  rw [pu_w (x := m (18 + 4 * p) - g2) (by omega), pu_w (x := m (18 + 4 * p) + g2) (by omega)]
  by_cases hft : m (18 + 4 * p) < m (19 + 4 * p)
  · rw [if_neg (by omega), if_pos hft]
  · rw [if_neg hft]
    by_cases he : m (18 + 4 * p) = m (19 + 4 * p)
    · rw [if_neg (by omega), hg2.2.2 he, Int.add_zero, Int.sub_zero]
    · rw [if_pos (by omega)]
theorem to_where {H : hp_H} {t p n : Int} {m : Int → Int} (ht : tr H t m) (hm : sq_ok m) (h0 : 0 ≤ p) (hp : p < m 2) (hn : 0 ≤ n ∧ n ≤ 500) : f_X6_whereIs t p n H = some (sq_place m p (m 3 + n)) := by
  have a2 := hm.2.2.1
  have a3 := hm.2.2.2.1
  unfold f_X6_whereIs sq_place
  rw [to_isHome ht (by omega), pu_b1, pu_01, ht.2.2.2.1, pu_w (by omega), to_errand ht hm h0 hp (by omega), pu_b1, pu_ck (by omega), (ht.2.2.2.2.2.2.2.2 p h0 hp).2.1]
  split <;> rfl
/-- who is in a lane -/
def sq_ppl (m : Int → Int) (lane h : Int) : Nat → Int → Int → Int
  | 0, _, x => x
  | n + 1, p, x => sq_ppl m lane h n (p + 1) (hp_or x (if sq_place m p h = lane then hp_shl 1 p else 0))
theorem to_ppl {H : hp_H} {t lane : Int} {m : Int → Int} (ht : tr H t m) (hm : sq_ok m) : f_X6_peopleIn t lane H = some (sq_ppl m lane (m 3) (m 2).toNat 0 0) := by
  have a2 := hm.2.2.1
  have key : ∀ (n : Nat) (x p : Int), 0 ≤ p → (m 2 - p).toNat < n → f_X6_peopleIn_4 n t lane x p H = some (sq_ppl m lane (m 3) (m 2 - p).toNat p x) := by
    intro n
    induction n with
    | zero => intro x p _ h; omega
    | succ n ih =>
      intro x p h0 hn
      rw [f_X6_peopleIn_4, ht.2.2.1]
      by_cases hp : p < m 2
      · rw [if_pos hp, to_where ht hm h0 hp (by omega), pu_b1, pu_let, pu_let, pu_let, pu_w (by omega), ih _ _ (by omega) (by omega), show (m 2 - p).toNat = (m 2 - (p + 1)).toNat + 1 by omega, Int.add_zero]
        rfl
      · rw [if_neg hp, show (m 2 - p).toNat = 0 by omega]
        rfl
  unfold f_X6_peopleIn
  rw [key 1000 0 0 (by omega) (by omega), pu_b1, Int.sub_zero]
theorem to_putOut {H : hp_H} {t l lane goal : Int} {m : Int → Int} (h : tr H t m) (hl : 0 ≤ l ∧ l < 4) (hm2 : m 2 ≤ 6) : ∃ H', f_X6_putOut t l lane goal H = some H' ∧ (∀ b, b ≠ t → b ≠ t + 5 → b ≠ t + 6 → H' b = H b) ∧ tr H' t (sq_post m l lane goal) := by
  unfold f_X6_putOut
  rw [pu_let, pu_ck hl, pu_let, pu_let]
  refine ⟨_, rfl, fun b b1 b2 b3 => by rw [pu_upa b3, pu_upa b2, pu_upa b1], ?_⟩
  obtain ⟨a0, a1, a2, a3, a5, a4, b, c, d⟩ := h
  have e : ∀ k, k ≠ 5 + 3 * l ∧ k ≠ 6 + 3 * l ∧ k ≠ 7 + 3 * l → sq_post m l lane goal k = m k := fun k hk => by unfold sq_post; simp [hk]
  have et : ∀ j, j ≠ 4 → hp_up (hp_up (hp_up H t 4 (hp_or (H t 4) (hp_shl 1 l))) (t + 5) l lane) (t + 6) l goal t j = H t j := fun j hj => by rw [pu_upa (by omega), pu_upa (by omega), pu_upj hj]
  have et4 : hp_up (hp_up (hp_up H t 4 (hp_or (H t 4) (hp_shl 1 l))) (t + 5) l lane) (t + 6) l goal t 4 = hp_or (H t 4) (hp_shl 1 l) := by rw [pu_upa (by omega), pu_upa (by omega), pu_ups]
  have eo : ∀ i, 1 ≤ i → i ≤ 4 → hp_up (hp_up (hp_up H t 4 (hp_or (H t 4) (hp_shl 1 l))) (t + 5) l lane) (t + 6) l goal (t + i) = H (t + i) := fun i h1 h2 => by rw [pu_upa (by omega), pu_upa (by omega), pu_upa (by omega)]
  refine ⟨by rw [et 0 (by omega), e 0 (by omega)]; exact a0, by rw [et 1 (by omega), e 1 (by omega)]; exact a1, by rw [et 2 (by omega), e 2 (by omega)]; exact a2, by rw [et 3 (by omega), e 3 (by omega)]; exact a3, by rw [et 5 (by omega), e 4 (by omega)]; exact a5, ?_, fun j h0 h4 => ?_, fun j h0 h4 ho => ?_, fun p h0 hp => ?_⟩
  · rw [et4]
    have : ∀ x : Fin 16, ∀ y : Fin 4, 0 ≤ hp_or (x.val : Int) (hp_shl 1 (y.val : Int)) ∧ hp_or (x.val : Int) (hp_shl 1 (y.val : Int)) < 16 := by decide +kernel
    have := this ⟨(H t 4).toNat, by omega⟩ ⟨l.toNat, by omega⟩
    simp only [hp_tn a4.1, hp_tn hl.1] at this
    exact this
  · rw [et4, bi_or, bi_sh1 (by omega) (by omega)]
    by_cases hj : j = l
    · subst hj
      simp [sq_post]
    · rw [e (5 + 3 * j) (by omega)]
      simp [hj]
      exact b j h0 h4
  · by_cases hj : j = l
    · subst hj
      have q1 : sq_post m j lane goal (6 + 3 * j) = lane := by unfold sq_post; rw [if_neg (by omega), if_pos rfl]
      have q2 : sq_post m j lane goal (7 + 3 * j) = goal := by unfold sq_post; rw [if_neg (by omega), if_neg (by omega), if_pos rfl]
      rw [q1, q2, pu_ups, pu_upa (by omega), pu_ups]
      exact ⟨rfl, rfl⟩
    · rw [e (5 + 3 * j) (by omega)] at ho
      rw [e (6 + 3 * j) (by omega), e (7 + 3 * j) (by omega), pu_upj hj, pu_upj hj, pu_upj hj, pu_upj hj, pu_upa (by omega), pu_upa (by omega)]
      exact c j h0 h4 ho
  · rw [e 2 (by omega)] at hp
    rw [e (17 + 4 * p) (by omega), e (18 + 4 * p) (by omega), e (19 + 4 * p) (by omega), e (20 + 4 * p) (by omega), eo 1 (by omega) (by omega), eo 2 (by omega) (by omega), eo 3 (by omega) (by omega), eo 4 (by omega) (by omega)]
    exact d p h0 hp
