theorem sq_car_mv {m : Int → Int} {l : Int} (hm : sq_ok m) (hl : 0 ≤ l ∧ l < 4) (ld : Int → Int) : sq_car (sq_mv m l) l ld = sq_car m l ld := by
  have e : ∀ k, k ≠ 6 ∧ k ≠ 9 ∧ k ≠ 12 ∧ k ≠ 15 → sq_mv m l k = m k := fun k hk => sq_mv_at m l hk
  unfold sq_car
  rw [e (5 + 3 * l) (by omega), e (7 + 3 * l) (by omega), sq_mv_w m l l hl.1 hl.2, if_neg (show ¬ l < l by omega), e 2 (by omega)]
  have key : ∀ (n : Nat) (p : Int), 0 ≤ p → sq_first (sq_mv m l) (m (6 + 3 * l)) (m (7 + 3 * l)) ld n p = sq_first m (m (6 + 3 * l)) (m (7 + 3 * l)) ld n p := by
    intro n
    induction n with
    | zero => intro p _; rfl
    | succ n ih =>
      intro p p0
      unfold sq_first
      rw [ih (p + 1) (by omega)]
      have : sq_canb (sq_mv m l) (m (6 + 3 * l)) (m (7 + 3 * l)) ld p = sq_canb m (m (6 + 3 * l)) (m (7 + 3 * l)) ld p := by
        unfold sq_canb
        rw [e 3 (by omega), e (17 + 4 * p) (by omega)]
        have hp : ∀ h, sq_place (sq_mv m l) p h = sq_place m p h := fun h => sq_place_congr (e 1 (by omega)) (e 4 (by omega)) (fun j hj => e j (by omega)) p0
        rw [hp, hp]
      rw [this]
  rw [key _ 0 (by omega)]
theorem to_ps_35 {t f n : Int} {m : Int → Int} (hm : sq_ok m) (hE : et t) (h0 : f ≤ m 3) (hn : m 3 < f + n) (hn2 : n ≤ 198) : ∀ (k : Nat) (l : Int) (H : hp_H), 0 ≤ l → l ≤ 4 → (4 - l).toNat < k → tr H t (sq_mv m l) → er H m f n → la H m (sq_ld m l.toNat) → (∀ j, 0 ≤ j → j < l → H 209 j = sq_c m j) →
    ∃ H', f_X2_pass_35 k t (m 3 - f) l H = some H' ∧ (∀ b, b ≠ t + 5 → b ≠ 199 → b ≠ 209 → H' b = H b) ∧ tr H' t (sq_mv m 4) ∧ er H' m f n ∧ (∀ j, 0 ≤ j → j < 4 → H' 209 j = sq_c m j) ∧ (∀ j, j ≠ 6 → j ≠ 7 → H' 199 j = H 199 j) := by
  have hE2 := hE
  unfold et at hE2
  have a2 := hm.2.2.1
  intro k
  induction k with
  | zero => intro l H _ _ h; omega
  | succ k ih =>
    intro l H l0 l4 hk ht he hla hc
    rw [f_X2_pass_35]
    by_cases hl : l < 4
    · have hl4 : 0 ≤ l ∧ l < 4 := ⟨l0, hl⟩
      have e : ∀ k, k ≠ 6 ∧ k ≠ 9 ∧ k ≠ 12 ∧ k ≠ 15 → sq_mv m l k = m k := fun k hk => sq_mv_at m l hk
      have hok := sq_mv_ok hm l
      have e3 : sq_mv m l 3 = m 3 := e 3 (by omega)
      have he2 : er H (sq_mv m l) f n := er_congr he (e 1 (by omega)) (e 2 (by omega)) (fun j hj => e j (by omega))
      have hla2 : la H (sq_mv m l) (sq_ld m l.toNat) := fun p p0 pm => by rw [e (17 + 4 * p) (by omega)]; exact hla p p0 (by rw [e 2 (by omega)] at pm; exact pm)
      have hco := to_carrierOf (l := l) ht hok he2 hl4 (by rw [e3]; exact h0) (by rw [e3]; exact hn) hn2 hla2
      rw [e3, sq_car_mv hm hl4] at hco
      have hcc : sq_car m l (sq_ld m l.toNat) = sq_c m l := rfl
      rw [hcc] at hco
      rw [if_pos hl, hco, pu_b1, pu_ck hl4, pu_let, pu_ups, pu_w (x := l + 1) (by omega)]
      simp only [pu_let]
      have hadd : sq_ld m (l + 1).toNat = sq_add (sq_ld m l.toNat) (sq_c m l) := by
        rw [show (l + 1).toNat = l.toNat + 1 by omega]
        show sq_add _ (sq_car m (l.toNat : Int) _) = _
        rw [hp_tn l0]
        rfl
      have key : ∃ H2, (if sq_c m l = -1000000 then some (hp_up H 209 l (sq_c m l)) else hp_b1 (f_X2_carryOn t l (m 3 - f) (hp_up H 209 l (sq_c m l))) fun H16 => some H16) = some H2 ∧ (∀ b, b ≠ t + 5 → b ≠ 199 → b ≠ 209 → H2 b = H b) ∧ tr H2 t (sq_mv m (l + 1)) ∧ er H2 m f n ∧ la H2 m (sq_ld m (l + 1).toNat) ∧ (∀ j, 0 ≤ j → j < l + 1 → H2 209 j = sq_c m j) ∧ (∀ j, j ≠ 6 → j ≠ 7 → H2 199 j = H 199 j) := by
        have ht1 : tr (hp_up H 209 l (sq_c m l)) t (sq_mv m l) := tr_fr ht (fun b b1 b2 => pu_upa (by omega))
        have hc1 : ∀ j, 0 ≤ j → j < l + 1 → hp_up H 209 l (sq_c m l) 209 j = sq_c m j := fun j j0 j1 => by
          by_cases hj : j = l
          · subst hj; rw [pu_ups]
          · rw [pu_upj hj]; exact hc j j0 (by omega)
        by_cases hq : sq_c m l = NN
        · rw [if_pos (show sq_c m l = -1000000 from hq)]
          refine ⟨_, rfl, fun b b1 b2 b3 => pu_upa b3, ?_, er_fr he (by rw [pu_upa (by omega)]) (by rw [pu_upa (by omega)]) (fun b b1 b2 => pu_upa (by omega)) a2.2, ?_, hc1, fun j _ _ => by rw [pu_upa (by omega)]⟩
          · have : sq_mv m (l + 1) = sq_mv m l := by
              funext k
              by_cases hk : k = 6 + 3 * l
              · subst hk
                rw [sq_mv_w m _ l l0 hl, sq_mv_w m _ l l0 hl, if_neg (show ¬ l < l by omega), if_pos (by omega)]
                unfold sq_to
                rw [if_pos hq]
              · have : l = 0 ∨ l = 1 ∨ l = 2 ∨ l = 3 := by omega
                rcases this with rfl | rfl | rfl | rfl <;> (unfold sq_mv; simp at hk; simp [hk])
            rw [this]; exact ht1
          · rw [hadd]
            unfold sq_add
            rw [if_pos hq]
            intro p p0 pm
            rw [pu_upa (show (199 : Int) ≠ 209 by omega)]
            exact hla p p0 pm
        · rw [if_neg (show ¬ sq_c m l = -1000000 from hq)]
          have he3 : er (hp_up H 209 l (sq_c m l)) (sq_mv m l) f n := er_fr he2 (by rw [pu_upa (by omega)]) (by rw [pu_upa (by omega)]) (fun b b1 b2 => pu_upa (by omega)) (by rw [e 2 (by omega)]; exact a2.2)
          have hla3 : la (hp_up H 209 l (sq_c m l)) (sq_mv m l) (sq_ld m l.toNat) := fun p p0 pm => by rw [pu_upa (show (199 : Int) ≠ 209 by omega)]; exact hla2 p p0 pm
          have ecar : sq_car (sq_mv m l) l (sq_ld m l.toNat) = sq_c m l := sq_car_mv hm hl4 _
          obtain ⟨H2, k1, k2, k3, k4, k5, k6⟩ := to_carryOn (l := l) ht1 hok hE he3 hl4 (by rw [e3]; exact h0) (by rw [e3]; exact hn) hn2 hla3 (fun p => (sq_ld_in l.toNat p).1) (by rw [pu_ups, ecar]) (by rw [ecar]; exact hq)
          rw [e3] at k1 k5
          rw [k1, pu_b1]
          have hcin : 0 ≤ sq_c m l := by
            rcases sq_car_in hm l (sq_ld m l.toNat) with h | h
            · exact absurd h hq
            · exact h.1
          rw [ecar] at k5 k6
          rw [sq_place_congr (m := m) (e 1 (by omega)) (e 4 (by omega)) (fun j hj => e j (by omega)) hcin, sq_mv_w m l l l0 hl, if_neg (show ¬ l < l by omega), e (7 + 3 * l) (by omega)] at k5
          have et_ : H2 (t + 5) l = sq_to m l := by
            rw [k5]
            unfold sq_to
            rw [if_neg hq]
          refine ⟨H2, rfl, fun b b1 b2 b3 => by rw [k2 b b1 b2, pu_upa b3], ?_, ?_, ?_, fun j j0 j1 => by rw [k2 209 (by omega) (by omega)]; exact hc1 j j0 j1, fun j j6 j7 => by rw [k3 j j6 j7, pu_upa (by omega)]⟩
          · obtain ⟨a0, a1, a2', a3, a5, a4, b, c, d⟩ := ht1
            have e' : ∀ k, k ≠ 6 ∧ k ≠ 9 ∧ k ≠ 12 ∧ k ≠ 15 → sq_mv m (l + 1) k = sq_mv m l k := fun k hk => by rw [sq_mv_at m (l + 1) hk, sq_mv_at m l hk]
            refine ⟨by rw [e' 0 (by omega), k2 t (by omega) (by omega)]; exact a0, by rw [e' 1 (by omega), k2 t (by omega) (by omega)]; exact a1, by rw [e' 2 (by omega), k2 t (by omega) (by omega)]; exact a2', by rw [e' 3 (by omega), k2 t (by omega) (by omega)]; exact a3, by rw [e' 4 (by omega), k2 t (by omega) (by omega)]; exact a5, by rw [k2 t (by omega) (by omega)]; exact a4, fun j j0 j4 => by rw [e' (5 + 3 * j) (by omega), k2 t (by omega) (by omega)]; exact b j j0 j4, fun j j0 j4 ho => ?_, fun p p0 pm => ?_⟩
            · rw [e' (5 + 3 * j) (by omega)] at ho
              rw [e' (7 + 3 * j) (by omega), k2 (t + 6) (by omega) (by omega)]
              refine ⟨?_, (c j j0 j4 ho).2⟩
              by_cases hj : j = l
              · subst hj
                rw [et_, sq_mv_w m _ j j0 j4, if_pos (by omega)]
              · rw [k4 j hj, (c j j0 j4 ho).1, sq_mv_w m _ j j0 j4, sq_mv_w m _ j j0 j4]
                by_cases hjl : j < l
                · rw [if_pos hjl, if_pos (by omega)]
                · rw [if_neg hjl, if_neg (by omega)]
            · rw [e' 2 (by omega)] at pm
              rw [e' (17 + 4 * p) (by omega), e' (18 + 4 * p) (by omega), e' (19 + 4 * p) (by omega), e' (20 + 4 * p) (by omega), k2 (t + 1) (by omega) (by omega), k2 (t + 2) (by omega) (by omega), k2 (t + 3) (by omega) (by omega), k2 (t + 4) (by omega) (by omega)]
              exact d p p0 pm
          · exact er_fr he (by rw [k3 4 (by omega) (by omega), pu_upa (by omega)]) (by rw [k3 5 (by omega) (by omega), pu_upa (by omega)]) (fun b b1 b2 => by rw [k2 b (by omega) (by omega), pu_upa (by omega)]) a2.2
          · rw [hadd]
            intro p p0 pm
            have := k6 p p0 (by rw [e 2 (by omega)]; exact pm)
            rw [e (17 + 4 * p) (by omega)] at this
            exact this
      obtain ⟨H2, k1, k2, k3, k4, k5, k6, k7⟩ := key
      rw [k1, pu_b1]
      obtain ⟨H3, g1, g2, g3, g4, g5, g6⟩ := ih (l + 1) H2 (by omega) (by omega) (by omega) k3 k4 k5 k6
      exact ⟨H3, g1, fun b b1 b2 b3 => by rw [g2 b b1 b2 b3, k2 b b1 b2 b3], g3, g4, g5, fun j j6 j7 => by rw [g6 j j6 j7, k7 j j6 j7]⟩
    · rw [if_neg hl]
      have : l = 4 := by omega
      subst this
      exact ⟨H, rfl, fun _ _ _ _ => rfl, ht, he, hc, fun _ _ _ => rfl⟩
/-- an hour passes in a Town, as the row's does -/
theorem to_pass {t f n : Int} {m : Int → Int} {H : hp_H} (ht : tr H t m) (hm : sq_ok m) (hE : et t) (he : er H m f n) (h0 : f ≤ m 3) (hn : m 3 < f + n) (hn2 : n ≤ 198) (hf0 : 0 ≤ f) :
    ∃ H', f_X2_pass t H = some H' ∧ (∀ b, b ≠ t → b ≠ t + 5 → b ≠ 199 → b ≠ 209 → H' b = H b) ∧ tr H' t (sq_hr m) ∧ er H' (sq_hr m) f n ∧ (∀ j, 0 ≤ j → j < 4 → H' 209 j = sq_c m j) := by
  have hE2 := hE
  unfold et at hE2
  have a2 := hm.2.2.1
  have a3 := hm.2.2.2.1
  unfold f_X2_pass
  rw [pu_let, ht.2.2.2.1, he.1, he.2.1, pu_w (by omega), if_neg (by omega), if_pos (by omega), pu_let, pu_let]
  have em : sq_mv m 0 = m := by funext k; unfold sq_mv; simp
  have fr0 : ∀ b, b ≠ 199 → hp_up (hp_up H 199 6 0) 199 7 0 b = H b := fun b hb => by rw [pu_upa hb, pu_upa hb]
  obtain ⟨H3, g1, g2, g3, g4, g5, g6⟩ := to_ps_35 (t := t) (f := f) (n := n) hm hE h0 hn hn2 1000 0 (hp_up (hp_up H 199 6 0) 199 7 0) (by omega) (by omega) (by omega) (by rw [em]; exact tr_fr ht (fun b b1 b2 => fr0 b (by omega))) (er_fr he (by rw [pu_upj (by omega), pu_upj (by omega)]) (by rw [pu_upj (by omega), pu_upj (by omega)]) (fun b b1 b2 => fr0 b (by omega)) a2.2) (fun p p0 pm => by
    rw [pu_upj (show (6 : Int) ≠ 7 by omega), pu_ups, pu_ups, bi_0]
    have : sq_ld m (0 : Int).toNat p = 0 := rfl
    rw [this]
    constructor
    · constructor
      · intro q; cases q
      · intro q; split at q <;> omega
    · constructor
      · intro q; cases q
      · intro q; omega) (fun j j0 j1 => by omega)
  have h3 : H3 t 3 = m 3 := by rw [g3.2.2.2.1, sq_mv_at m 4 (by omega)]
  rw [g1, pu_b1, pu_let, h3, pu_w (by omega)]
  have ehr : ∀ k, k ≠ 3 → sq_hr m k = sq_mv m 4 k := fun k hk => by unfold sq_hr sq_mv; simp [hk]
  refine ⟨_, rfl, fun b b1 b2 b3 b4 => by rw [pu_upa b1, g2 b b2 b3 b4, fr0 b b3], ?_, ?_, fun j j0 j4 => by rw [pu_upa (by omega)]; exact g5 j j0 j4⟩
  · obtain ⟨x0, x1, x2, x3, x5, x4, y, z, w⟩ := g3
    refine ⟨by rw [ehr 0 (by omega), pu_upj (by omega)]; exact x0, by rw [ehr 1 (by omega), pu_upj (by omega)]; exact x1, by rw [ehr 2 (by omega), pu_upj (by omega)]; exact x2, by rw [pu_ups]; rfl, by rw [ehr 4 (by omega), pu_upj (by omega)]; exact x5, by rw [pu_upj (by omega)]; exact x4, fun j j0 j4 => by rw [ehr _ (by omega), pu_upj (by omega)]; exact y j j0 j4, fun j j0 j4 ho => ?_, fun p p0 pm => ?_⟩
    · rw [ehr _ (by omega)] at ho
      rw [ehr _ (by omega), ehr _ (by omega), pu_upa (by omega), pu_upa (by omega)]
      exact z j j0 j4 ho
    · rw [ehr _ (by omega)] at pm
      rw [ehr _ (by omega), ehr _ (by omega), ehr _ (by omega), ehr _ (by omega), pu_upa (by omega), pu_upa (by omega), pu_upa (by omega), pu_upa (by omega)]
      exact w p p0 pm
  · refine er_congr (m := m) (er_fr g4 (by rw [pu_upa (by omega)]) (by rw [pu_upa (by omega)]) (fun b b1 b2 => pu_upa (by omega)) a2.2) (sq_hr_at m (by omega)) (sq_hr_at m (by omega)) (fun j hj => sq_hr_at m (by omega))
