/-! Errands: what is foreseen, and an hour -/
def er (H : hp_H) (m : Int → Int) (f n : Int) : Prop :=
  H 199 4 = f ∧ H 199 5 = n ∧ (∀ p, 0 ≤ p → p < m 2 → ∀ h, 0 ≤ h → h ≤ n → H (201 + p) h = sq_go m p (f + h)) ∧
  (∀ h, 0 ≤ h → h < n → ∀ p, 0 ≤ p → p < m 2 → (bi (H 207 h) p = true ↔ sq_go m p (f + h) < sq_go m p (f + h + 1)) ∧ (bi (H 208 h) p = true ↔ sq_go m p (f + h + 1) < sq_go m p (f + h)))
theorem er_fr {H H' : hp_H} {m : Int → Int} {f n : Int} (h : er H m f n) (h1 : H' 199 4 = H 199 4) (h2 : H' 199 5 = H 199 5) (hf : ∀ b, 200 < b → b < 209 → H' b = H b) (hm : m 2 ≤ 6) : er H' m f n := by
  obtain ⟨a, b, c, d⟩ := h
  refine ⟨by rw [h1]; exact a, by rw [h2]; exact b, fun p p0 pm h h0 hn => by rw [hf (201 + p) (by omega) (by omega)]; exact c p p0 pm h h0 hn, fun h h0 hn p p0 pm => by rw [hf 207 (by omega) (by omega), hf 208 (by omega) (by omega)]; exact d h h0 hn p p0 pm⟩
theorem er_congr {H : hp_H} {m m' : Int → Int} {f n : Int} (h : er H m f n) (h1 : m' 1 = m 1) (h2 : m' 2 = m 2) (h3 : ∀ j, 17 ≤ j → m' j = m j) : er H m' f n := by
  obtain ⟨a, b, c, d⟩ := h
  refine ⟨a, b, fun p p0 pm h h0 hn => ?_, fun h h0 hn p p0 pm => ?_⟩
  · rw [sq_go_congr h1 h3 p0]; exact c p p0 (by omega) h h0 hn
  · rw [sq_go_congr h1 h3 p0, sq_go_congr h1 h3 p0]; exact d h h0 hn p p0 (by omega)
/-- a Town that lies apart from the Errands -/
def et (t : Int) : Prop := t + 6 < 199 ∨ 210 < t
/-- PEOPLE who carry all they can, children who carry one -/
def la (H : hp_H) (m : Int → Int) (ld : Int → Int) : Prop := ∀ p, 0 ≤ p → p < m 2 → (bi (H 199 6) p = true ↔ (if m (17 + 4 * p) = 2 then 2 else 1) ≤ ld p) ∧ (bi (H 199 7) p = true ↔ m (17 + 4 * p) = 2 ∧ 1 ≤ ld p)
theorem to_co_72 {H : hp_H} {t l h x : Int} {r : Int → Int} {ld : Int → Int} (ht : tr H t r) (hm : sq_ok r) (hl : 0 ≤ l ∧ l < 4) (ho : r (5 + 3 * l) = 1) (hh : 0 ≤ h ∧ h < 198) (hx : ∀ p, 0 ≤ p → p < r 2 → (bi x p = true ∧ H (201 + p) h = r (6 + 3 * l) ↔ sq_canb r (r (6 + 3 * l)) (r (7 + 3 * l)) ld p = true)) :
    ∀ (n : Nat) (p : Int), 0 ≤ p → (r 2 - p).toNat < n → f_X2_carrierOf_72 n t l h x p H = some (sq_first r (r (6 + 3 * l)) (r (7 + 3 * l)) ld (r 2 - p).toNat p) := by
  have a2 := hm.2.2.1
  intro n
  induction n with
  | zero => intro p _ h; omega
  | succ n ih =>
    intro p p0 hn
    rw [f_X2_carrierOf_72, ht.2.2.1]
    by_cases hp : p < r 2
    · have hk : (r 2 - p).toNat = (r 2 - (p + 1)).toNat + 1 := by omega
      have hxp := hx p p0 hp
      have hc := (ht.2.2.2.2.2.2.2.1 l hl.1 hl.2 ho).1
      rw [if_pos hp, hk, pu_ck (by omega), pu_ck (by omega), pu_ck hl, hc, pu_let, pu_w (by omega), ih (p + 1) (by omega) (by omega)]
      show _ = some (if sq_canb r (r (6 + 3 * l)) (r (7 + 3 * l)) ld p = true then p else _)
      by_cases hb : bi x p = true
      · rw [if_pos ((bi_t1 (by omega)).mpr hb)]
        by_cases he : H (201 + p) h = r (6 + 3 * l)
        · rw [if_pos he, if_pos (hxp.mp ⟨hb, he⟩)]
        · rw [if_neg he, if_neg (fun q => he (hxp.mpr q).2)]
      · rw [if_neg (fun q => hb ((bi_t1 (by omega)).mp q)), if_neg (fun q => hb (hxp.mpr q).1)]
    · rw [if_neg hp, show (r 2 - p).toNat = 0 by omega]
      rfl
theorem sq_canb_iff (m : Int → Int) (a g : Int) (ld : Int → Int) (p : Int) : sq_canb m a g ld p = true ↔ sq_place m p (m 3) = a ∧ (if a < g then a < sq_place m p (m 3 + 1) else sq_place m p (m 3 + 1) < a) ∧ ld p < (if m (17 + 4 * p) = 2 then 2 else 1) := by
  unfold sq_canb
  by_cases h : a < g
  · rw [if_pos h, if_pos h]; simp [and_assoc]
  · rw [if_neg h, if_neg h]; simp [and_assoc]
theorem to_carrierOf {H : hp_H} {t l f n : Int} {r : Int → Int} {ld : Int → Int} (ht : tr H t r) (hm : sq_ok r) (he : er H r f n) (hl : 0 ≤ l ∧ l < 4) (h0 : f ≤ r 3) (hn : r 3 < f + n) (hn2 : n ≤ 198) (hla : la H r ld) : f_X2_carrierOf t l (r 3 - f) H = some (sq_car r l ld) := by
  have a2 := hm.2.2.1
  have a3 := hm.2.2.2.1
  unfold f_X2_carrierOf
  rw [to_isUnderWay ht hl, pu_b1, pu_01]
  unfold sq_car
  by_cases hu : r (5 + 3 * l) = 1 ∧ r (6 + 3 * l) ≠ r (7 + 3 * l)
  · rw [if_pos hu, if_pos hu, pu_ck hl, pu_ck (by omega), pu_ck (by omega)]
    have hc := ht.2.2.2.2.2.2.2.1 l hl.1 hl.2 hu.1
    rw [hc.1, hc.2]
    have e1 : (if r (6 + 3 * l) < r (7 + 3 * l) then some (H 207 (r 3 - f)) else some (H 208 (r 3 - f))) = some (if r (6 + 3 * l) < r (7 + 3 * l) then H 207 (r 3 - f) else H 208 (r 3 - f)) := by split <;> rfl
    rw [e1, pu_b1, pu_let, ht.2.2.2.2.1]
    have hx : ∀ p, 0 ≤ p → p < r 2 → (bi (hp_and (hp_and (if r (6 + 3 * l) < r (7 + 3 * l) then H 207 (r 3 - f) else H 208 (r 3 - f)) (hp_xor (r 4) (-1))) (hp_xor (H 199 6) (-1))) p = true ∧ H (201 + p) (r 3 - f) = r (6 + 3 * l) ↔ sq_canb r (r (6 + 3 * l)) (r (7 + 3 * l)) ld p = true) := by
      intro p p0 pm
      rw [sq_canb_iff, bi_and, bi_and, bi_not (by omega), bi_not (by omega), he.2.2.1 p p0 pm (r 3 - f) (by omega) (by omega)]
      have hL := (hla p p0 pm).1
      obtain ⟨g1, g2⟩ := he.2.2.2 (r 3 - f) (by omega) (by omega) p p0 pm
      rw [show f + (r 3 - f) = r 3 by omega] at g1 g2 ⊢
      unfold sq_place
      by_cases hb : bi (r 4) p = true
      · rw [if_pos hb, if_pos hb]
        simp only [hb]
        constructor
        · rintro ⟨q, -⟩; simp at q
        · rintro ⟨q1, q2, -⟩
          exfalso
          rw [q1] at q2
          split at q2 <;> omega
      · rw [if_neg hb, if_neg hb]
        have hbf : bi (r 4) p = false := by cases h : bi (r 4) p <;> simp_all
        have hlb : (!bi (H 199 6) p) = true ↔ ld p < (if r (17 + 4 * p) = 2 then 2 else 1) := by
          rw [Bool.not_eq_true', ← Bool.not_eq_true, hL]
          omega
        simp only [hbf, Bool.and_eq_true, Bool.not_false, and_true, hlb]
        by_cases hud : r (6 + 3 * l) < r (7 + 3 * l)
        · simp only [if_pos hud, g1]
          constructor
          · rintro ⟨⟨q1, q2⟩, q3⟩; exact ⟨q3, by omega, q2⟩
          · rintro ⟨q3, q1, q2⟩; exact ⟨⟨by omega, q2⟩, q3⟩
        · simp only [if_neg hud, g2]
          constructor
          · rintro ⟨⟨q1, q2⟩, q3⟩; exact ⟨q3, by omega, q2⟩
          · rintro ⟨q3, q1, q2⟩; exact ⟨⟨by omega, q2⟩, q3⟩
    generalize hp_and (hp_and (if r (6 + 3 * l) < r (7 + 3 * l) then H 207 (r 3 - f) else H 208 (r 3 - f)) (hp_xor (r 4) (-1))) (hp_xor (H 199 6) (-1)) = x at hx ⊢
    by_cases hx0 : x = 0
    · rw [if_pos hx0]
      congr 1
      rcases sq_first_in r (r (6 + 3 * l)) (r (7 + 3 * l)) ld (r 2).toNat 0 with q | ⟨q1, q2, q3⟩
      · exact q.symm
      · exfalso
        have := ((hx _ q1 (by omega)).mpr q3).1
        rw [hx0, bi_0] at this
        cases this
    · rw [if_neg hx0, to_co_72 ht hm hl hu.1 (by omega) hx 1000 0 (by omega) (by omega), Int.sub_zero]
  · rw [if_neg hu, if_neg hu]
    rfl
theorem to_carryOn {H : hp_H} {t l f n : Int} {r : Int → Int} {ld : Int → Int} (ht : tr H t r) (hm : sq_ok r) (hE : et t) (he : er H r f n) (hl : 0 ≤ l ∧ l < 4) (h0 : f ≤ r 3) (hn : r 3 < f + n) (hn2 : n ≤ 198) (hla : la H r ld) (hld : ∀ p, 0 ≤ ld p) (hc : H 209 l = sq_car r l ld) (hcn : sq_car r l ld ≠ NN) :
    ∃ H', f_X2_carryOn t l (r 3 - f) H = some H' ∧ (∀ b, b ≠ t + 5 → b ≠ 199 → H' b = H b) ∧ (∀ j, j ≠ 6 → j ≠ 7 → H' 199 j = H 199 j) ∧ (∀ j, j ≠ l → H' (t + 5) j = H (t + 5) j) ∧
      H' (t + 5) l = (if (if r (6 + 3 * l) < r (7 + 3 * l) then (if r (7 + 3 * l) < sq_place r (sq_car r l ld) (r 3 + 1) then (1 : Int) else 0) else (if sq_place r (sq_car r l ld) (r 3 + 1) < r (7 + 3 * l) then 1 else 0)) = 0 then sq_place r (sq_car r l ld) (r 3 + 1) else r (7 + 3 * l)) ∧ la H' r (sq_add ld (sq_car r l ld)) := by
  have a2 := hm.2.2.1
  have a3 := hm.2.2.2.1
  unfold et at hE
  have hcin : 0 ≤ sq_car r l ld ∧ sq_car r l ld < r 2 := by
    rcases sq_car_in hm l ld with h | h
    · exact absurd h hcn
    · exact h
  have hu : r (5 + 3 * l) = 1 ∧ r (6 + 3 * l) ≠ r (7 + 3 * l) := Decidable.byContradiction fun q => hcn (by unfold sq_car; rw [if_neg q])
  have hcan : sq_canb r (r (6 + 3 * l)) (r (7 + 3 * l)) ld (sq_car r l ld) = true := by
    have e : sq_car r l ld = sq_first r (r (6 + 3 * l)) (r (7 + 3 * l)) ld (r 2).toNat 0 := by unfold sq_car; rw [if_pos hu]
    rcases sq_first_in r (r (6 + 3 * l)) (r (7 + 3 * l)) ld (r 2).toNat 0 with q | ⟨q1, q2, q3⟩
    · exact absurd (e.trans q) hcn
    · rw [e]; exact q3
  generalize sq_car r l ld = c at *
  obtain ⟨k1, k2, k3⟩ := (sq_canb_iff _ _ _ _ _).mp hcan
  have hnb : ¬ bi (r 4) c = true := by
    intro hb
    unfold sq_place at k1 k2
    rw [if_pos hb] at k1 k2
    rw [k1] at k2
    split at k2 <;> omega
  have epl : sq_place r c (r 3 + 1) = sq_go r c (r 3 + 1) := by unfold sq_place; rw [if_neg hnb]
  have hlc := ht.2.2.2.2.2.2.2.1 l hl.1 hl.2 hu.1
  have hkc := (ht.2.2.2.2.2.2.2.2 c hcin.1 hcin.2).1
  have hnx := he.2.2.1 c hcin.1 hcin.2 (r 3 - f + 1) (by omega) (by omega)
  rw [show f + (r 3 - f + 1) = r 3 + 1 by omega, ← epl] at hnx
  unfold f_X2_carryOn
  rw [pu_ck hl, pu_let, hc, pu_ck (by omega), pu_w (by omega), pu_ck (by omega), pu_let, pu_let, pu_01, hlc.1, hlc.2, hnx]
  have e7 : (if r (6 + 3 * l) < r (7 + 3 * l) then some (hp_min (sq_place r c (r 3 + 1)) (r (7 + 3 * l))) else some (hp_max (sq_place r c (r 3 + 1)) (r (7 + 3 * l)))) = some (if (if r (6 + 3 * l) < r (7 + 3 * l) then (if r (7 + 3 * l) < sq_place r c (r 3 + 1) then (1 : Int) else 0) else (if sq_place r c (r 3 + 1) < r (7 + 3 * l) then 1 else 0)) = 0 then sq_place r c (r 3 + 1) else r (7 + 3 * l)) := by
    unfold hp_min hp_max
    split
    · rw [pu_01]
    · rw [pu_01]
  rw [e7, pu_b1, pu_let]
  generalize (if (if r (6 + 3 * l) < r (7 + 3 * l) then (if r (7 + 3 * l) < sq_place r c (r 3 + 1) then (1 : Int) else 0) else (if sq_place r c (r 3 + 1) < r (7 + 3 * l) then 1 else 0)) = 0 then sq_place r c (r 3 + 1) else r (7 + 3 * l)) = y
  rw [pu_upa (show t + 1 ≠ t + 5 by omega), hkc, pu_upa (show (199 : Int) ≠ t + 5 by omega)]
  have hadd : ∀ p, sq_add ld c p = if p = c then ld p + 1 else ld p := fun p => by unfold sq_add; rw [if_neg hcn]
  have hl0 := hld c
  have hLc := hla c hcin.1 hcin.2
  by_cases hk : r (17 + 4 * c) = 2
  · rw [if_pos hk] at k3 hLc ⊢
    by_cases hh : hp_and (hp_shr (H 199 7) c) 1 = 0
    · rw [if_pos hh, pu_let]
      have hb7 : ¬ bi (H 199 7) c = true := fun q => by rw [(bi_t1 (by omega)).mpr q] at hh; omega
      have hld0 : ld c = 0 := by
        have : ¬ 1 ≤ ld c := fun q => hb7 (hLc.2.mpr ⟨hk, q⟩)
        omega
      refine ⟨_, rfl, fun b b1 b2 => by rw [pu_upa b2, pu_upa b1], fun j j6 j7 => by rw [pu_upj j7, pu_upa (by omega)], fun j jl => by rw [pu_upa (by omega), pu_upj jl], by rw [pu_upa (by omega), pu_ups], fun p p0 pm => ?_⟩
      have hLp := hla p p0 pm
      rw [hadd, pu_upj (show (6 : Int) ≠ 7 by omega), pu_upa (show (199 : Int) ≠ t + 5 by omega), pu_ups, bi_or, bi_sh1 (by omega) (by omega)]
      by_cases hpc : p = c
      · subst hpc
        rw [if_pos rfl, hk, if_pos rfl, hld0]
        refine ⟨?_, by simp⟩
        rw [hk, if_pos rfl, hld0] at hLp
        rw [hLp.1]
        omega
      · rw [if_neg hpc]
        simp only [hpc, decide_false, Bool.or_false]
        exact hLp
    · rw [if_neg hh, pu_let]
      have hb7 : bi (H 199 7) c = true := by
        cases hb : bi (H 199 7) c with
        | true => rfl
        | false => exfalso; apply hh; rw [bi_t (by omega), hb]; rfl
      have hld1 : ld c = 1 := by
        have := (hLc.2.mp hb7).2
        omega
      refine ⟨_, rfl, fun b b1 b2 => by rw [pu_upa b2, pu_upa b1], fun j j6 j7 => by rw [pu_upj j6, pu_upa (by omega)], fun j jl => by rw [pu_upa (by omega), pu_upj jl], by rw [pu_upa (by omega), pu_ups], fun p p0 pm => ?_⟩
      have hLp := hla p p0 pm
      rw [hadd, pu_upj (show (7 : Int) ≠ 6 by omega), pu_upa (show (199 : Int) ≠ t + 5 by omega), pu_ups, bi_or, bi_sh1 (by omega) (by omega)]
      by_cases hpc : p = c
      · subst hpc
        rw [if_pos rfl, hk, if_pos rfl, hld1, hb7]
        simp
      · rw [if_neg hpc]
        simp only [hpc, decide_false, Bool.or_false]
        exact hLp
  · rw [if_neg hk] at k3 hLc ⊢
    rw [pu_let]
    have hld0 : ld c = 0 := by omega
    refine ⟨_, rfl, fun b b1 b2 => by rw [pu_upa b2, pu_upa b1], fun j j6 j7 => by rw [pu_upj j6, pu_upa (by omega)], fun j jl => by rw [pu_upa (by omega), pu_upj jl], by rw [pu_upa (by omega), pu_ups], fun p p0 pm => ?_⟩
    have hLp := hla p p0 pm
    rw [hadd, pu_upj (show (7 : Int) ≠ 6 by omega), pu_upa (show (199 : Int) ≠ t + 5 by omega), pu_ups, bi_or, bi_sh1 (by omega) (by omega)]
    by_cases hpc : p = c
    · subst hpc
      rw [if_pos rfl, if_neg hk, hld0]
      refine ⟨by simp, ?_⟩
      rw [hLp.2]
      omega
    · rw [if_neg hpc]
      simp only [hpc, decide_false, Bool.or_false]
      exact hLp
