/-- H with places off + v .. off + N - 1 of cell c as s tells -/
def hp_fill (H : hp_H) (c off v N : Int) (s : Int → Int) : hp_H := fun b j => if b = c ∧ off + v ≤ j ∧ j < off + N then s (j - off) else H b j
theorem lp_fill {F : Nat → Int → hp_H → Option hp_H} {N c off : Int} {src : hp_H → Int → Int} (hF : ∀ n v H, 0 ≤ v → v ≤ N → F (n + 1) v H = if v < N then F n (v + 1) (hp_up H c (off + v) (src H v)) else some H) (hs : ∀ H v j x, src (hp_up H c j x) v = src H v) :
    ∀ (n : Nat) (v : Int) (H : hp_H), 0 ≤ v → v ≤ N → (N - v).toNat < n → F n v H = some (hp_fill H c off v N (src H)) := by
  intro n
  induction n with
  | zero => intro v H _ _ h; omega
  | succ n ih =>
    intro v H h0 hN hn
    rw [hF n v H h0 hN]
    by_cases hv : v < N
    · rw [if_pos hv, ih (v + 1) _ (by omega) (by omega) (by omega)]
      congr 1
      funext b j
      unfold hp_fill
      by_cases h1 : b = c ∧ off + v ≤ j ∧ j < off + N
      · rw [if_pos h1]
        by_cases h2 : j = off + v
        · rw [if_neg (by omega), pu_up, if_pos ⟨h1.1, h2⟩, h2]
          congr 1
          omega
        · rw [if_pos (by omega)]
          exact hs H _ _ _
      · rw [if_neg h1, if_neg (by omega), pu_up, if_neg (by omega)]
    · rw [if_neg hv]
      congr 1
      funext b j
      unfold hp_fill
      rw [if_neg (by omega)]
theorem fi_ne {H : hp_H} {c off v N : Int} {s : Int → Int} {b : Int} (h : b ≠ c) : hp_fill H c off v N s b = H b := funext fun j => if_neg (fun q => h q.1)
theorem fi_in {H : hp_H} {c off v N : Int} {s : Int → Int} {j : Int} (h : off + v ≤ j ∧ j < off + N) : hp_fill H c off v N s c j = s (j - off) := if_pos ⟨rfl, h⟩
theorem fi_out {H : hp_H} {c off v N : Int} {s : Int → Int} {b j : Int} (h : j < off + v ∨ off + N ≤ j) : hp_fill H c off v N s b j = H b j := if_neg (fun q => by omega)
theorem mo_fc_2 (a : Int) (H : hp_H) : f_X8_findCarriers_2 1000 a 0 H = some (hp_fill H 10 0 0 6 (fun _ => 0)) := by
  refine lp_fill (F := fun n v H => f_X8_findCarriers_2 n a v H) (src := fun _ _ => 0) ?_ (fun _ _ _ _ => rfl) 1000 0 H (by omega) (by omega) (by omega)
  intro n v H h0 hN
  show f_X8_findCarriers_2 (n + 1) a v H = _
  rw [f_X8_findCarriers_2]
  by_cases hv : v < 6
  · rw [if_pos hv, if_pos hv, pu_ck (by omega)]
    simp only [pu_let]
    rw [pu_w (x := v + 1) (by omega), Int.zero_add]
  · rw [if_neg hv, if_neg hv]
theorem sq_ld_in {m : Int → Int} : ∀ (l : Nat) (p : Int), 0 ≤ sq_ld m l p ∧ sq_ld m l p ≤ l
  | 0, p => by simp [sq_ld]
  | l + 1, p => by
    have h := sq_ld_in (m := m) l p
    unfold sq_ld sq_add
    by_cases h1 : sq_car m (l : Int) (sq_ld m l) = NN
    · rw [if_pos h1]; omega
    · rw [if_neg h1]
      split <;> omega
theorem mo_fc_23 {a : Int} {m : Int → Int} (ha : a ≠ 9 ∧ a ≠ 10) (hm : sq_ok m) : ∀ (n : Nat) (l : Int) (H : hp_H), 0 ≤ l → l ≤ 4 → (4 - l).toNat < n → H a = m → (∀ j, 0 ≤ j → j < l → H 9 j = sq_c m j) → (∀ p, 0 ≤ p → p < 6 → H 10 p = sq_ld m l.toNat p) →
    ∃ H', f_X8_findCarriers_23 n a l H = some H' ∧ (∀ b, b ≠ 9 → b ≠ 10 → H' b = H b) ∧ (∀ j, 0 ≤ j → j < 4 → H' 9 j = sq_c m j) ∧ (∀ p, 0 ≤ p → p < 6 → H' 10 p = sq_ld m 4 p) := by
  intro n
  induction n with
  | zero => intro l H _ _ h; omega
  | succ n ih =>
    intro l H h0 h4 hn hH h9 h10
    unfold f_X8_findCarriers_23
    by_cases hl : l < 4
    · have hl4 : 0 ≤ l ∧ l < 4 := ⟨h0, hl⟩
      rw [if_pos hl, pu_ck hl4]
      simp only [pu_let]
      have a2 := hm.2.2.1
      rw [mo_its1 hl4, mo_its2 hl4, pu_b1, pu_b1, pu_upa ha.1, hH, pu_w (x := l + 1) (by omega)]
      have hcar : ∃ H2, f_X8_findCarriers_54 1000 a l (m (6 + 3 * l)) (m (7 + 3 * l)) 0 (hp_up H 9 l (-1000000)) = some H2 ∧ (∀ b, b ≠ 9 → b ≠ 10 → H2 b = H b) ∧ (∀ j, 0 ≤ j → j < l + 1 → H2 9 j = sq_c m j) ∧ (∀ p, 0 ≤ p → p < 6 → H2 10 p = sq_ld m (l.toNat + 1) p) := by
        have e10 : hp_up H 9 l (-1000000) 10 = H 10 := pu_upa (by omega)
        have ea : hp_up H 9 l (-1000000) a = m := by rw [pu_upa ha.1]; exact hH
        by_cases hc : m (5 + 3 * l) = 1 ∧ m (6 + 3 * l) ≠ m (7 + 3 * l)
        · have hb : ∀ q, 0 ≤ q → q < 6 → 0 ≤ hp_up H 9 l (-1000000) 10 q ∧ hp_up H 9 l (-1000000) 10 q ≤ 4 := fun q q0 q6 => by
            rw [e10, h10 q q0 q6]
            have := sq_ld_in (m := m) l.toNat q
            omega
          refine ⟨_, mo_fc_in ha hm hl4 hc.1 hc.2 1000 0 _ (by omega) (by omega) ea (pu_ups _ _ _ _) hb, ?_⟩
          have ef : sq_first m (m (6 + 3 * l)) (m (7 + 3 * l)) (hp_up H 9 l (-1000000) 10) (m 2 - 0).toNat 0 = sq_c m l := by
            rw [e10]
            unfold sq_c sq_car
            rw [if_pos hc, show (m 2 - 0).toNat = (m 2).toNat by omega]
            exact sq_first_congr _ _ (fun q q0 q6 => h10 q q0 (by omega))
          rw [ef]
          have hcl : sq_car m (l.toNat : Int) (sq_ld m l.toNat) = sq_c m l := by unfold sq_c; rw [hp_tn h0]
          by_cases hq : sq_c m l = NN
          · rw [if_pos hq]
            refine ⟨fun b b1 b2 => pu_upa b1, fun j j0 j1 => ?_, fun p p0 p1 => ?_⟩
            · by_cases hj : j = l
              · subst hj; rw [pu_ups, hq]; rfl
              · rw [pu_upj hj]; exact h9 j j0 (by omega)
            · rw [e10, h10 p p0 p1]
              show _ = sq_add _ _ p
              rw [hcl]
              unfold sq_add
              rw [if_pos hq]
          · rw [if_neg hq]
            refine ⟨fun b b1 b2 => by rw [pu_upa b2, pu_upa b1, pu_upa b1], fun j j0 j1 => ?_, fun p p0 p1 => ?_⟩
            · rw [pu_upa (show (9 : Int) ≠ 10 by omega)]
              by_cases hj : j = l
              · subst hj; rw [pu_ups]
              · rw [pu_upj hj, pu_upj hj]; exact h9 j j0 (by omega)
            · show _ = sq_add _ _ p
              rw [hcl]
              unfold sq_add
              rw [if_neg hq]
              have e11 : hp_up (hp_up H 9 l (-1000000)) 9 l (sq_c m l) 10 = H 10 := by rw [pu_upa (show (10 : Int) ≠ 9 by omega), e10]
              by_cases hpc : p = sq_c m l
              · rw [if_pos hpc, ← hpc, pu_ups, e10, h10 p p0 p1]
              · rw [if_neg hpc, pu_upj hpc, e11]; exact h10 p p0 p1
        · refine ⟨_, mo_fc_stop 999 hl4 ?_, ?_⟩
          · by_cases q1 : m (5 + 3 * l) = 1
            · exact Or.inr (Or.inr (Or.inl (Decidable.byContradiction fun q2 => hc ⟨q1, q2⟩)))
            · exact Or.inr (Or.inl (by rw [ea]; exact q1))
          · have hq : sq_c m l = NN := by unfold sq_c sq_car; rw [if_neg hc]
            have hcl : sq_car m (l.toNat : Int) (sq_ld m l.toNat) = NN := by rw [← hq]; unfold sq_c; rw [hp_tn h0]
            refine ⟨fun b b1 b2 => pu_upa b1, fun j j0 j1 => ?_, fun p p0 p1 => ?_⟩
            · by_cases hj : j = l
              · subst hj; rw [pu_ups, hq]; rfl
              · rw [pu_upj hj]; exact h9 j j0 (by omega)
            · rw [e10, h10 p p0 p1]
              show _ = sq_add _ _ p
              unfold sq_add
              rw [if_pos hcl]
      obtain ⟨H2, e2, f2, c2, l2⟩ := hcar
      rw [e2, pu_b1]
      obtain ⟨H3, e3, f3, c3, l3⟩ := ih (l + 1) H2 (by omega) (by omega) (by omega) (by rw [f2 a ha.1 ha.2]; exact hH) c2 (by rw [show (l + 1).toNat = l.toNat + 1 by omega]; exact l2)
      exact ⟨H3, e3, fun b b1 b2 => by rw [f3 b b1 b2, f2 b b1 b2], c3, l3⟩
    · rw [if_neg hl]
      have : l = 4 := by omega
      subst this
      exact ⟨H, rfl, fun _ _ _ => rfl, h9, h10⟩
theorem mo_find {a : Int} {H : hp_H} (ha : a ≠ 9 ∧ a ≠ 10) (hm : sq_ok (H a)) : ∃ H', f_X8_findCarriers a H = some H' ∧ (∀ b, b ≠ 9 → b ≠ 10 → H' b = H b) ∧ (∀ j, 0 ≤ j → j < 4 → H' 9 j = sq_c (H a) j) ∧ (∀ p, 0 ≤ p → p < 6 → H' 10 p = sq_ld (H a) 4 p) := by
  unfold f_X8_findCarriers
  rw [mo_fc_2, pu_b1]
  obtain ⟨H3, e3, f3, c3, l3⟩ := mo_fc_23 (a := a) (m := H a) ha hm 1000 0 (hp_fill H 10 0 0 6 (fun _ => 0)) (by omega) (by omega) (by omega) (fi_ne ha.2) (fun j _ _ => by omega) (fun p p0 p6 => by rw [fi_in (by omega)]; rfl)
  rw [e3, pu_b1]
  exact ⟨H3, rfl, fun b b1 b2 => by rw [f3 b b1 b2]; exact fi_ne b2, c3, l3⟩
/-- the row with the first l letters moved -/
def sq_mv (m : Int → Int) (l : Int) : Int → Int := fun k => if k = 6 ∧ 0 < l then sq_to m 0 else if k = 9 ∧ 1 < l then sq_to m 1 else if k = 12 ∧ 2 < l then sq_to m 2 else if k = 15 ∧ 3 < l then sq_to m 3 else m k
theorem sq_mv_at (m : Int → Int) (l : Int) {k : Int} (h : k ≠ 6 ∧ k ≠ 9 ∧ k ≠ 12 ∧ k ≠ 15) : sq_mv m l k = m k := by unfold sq_mv; simp [h]
theorem sq_mv_w (m : Int → Int) (l j : Int) (h0 : 0 ≤ j) (h4 : j < 4) : sq_mv m l (6 + 3 * j) = if j < l then sq_to m j else m (6 + 3 * j) := by
  have : j = 0 ∨ j = 1 ∨ j = 2 ∨ j = 3 := by omega
  rcases this with rfl | rfl | rfl | rfl <;> simp [sq_mv]
theorem sq_mv_ok {m : Int → Int} (hm : sq_ok m) (l : Int) : sq_ok (sq_mv m l) := by
  have e : ∀ k, k ≠ 6 ∧ k ≠ 9 ∧ k ≠ 12 ∧ k ≠ 15 → sq_mv m l k = m k := fun k hk => sq_mv_at m l hk
  have hm2 := hm
  obtain ⟨a0, a1, a2, a3, a4, a5, a6⟩ := hm
  refine ⟨by rw [e 0 (by omega)]; exact a0, by rw [e 1 (by omega)]; exact a1, by rw [e 2 (by omega)]; exact a2, by rw [e 3 (by omega)]; exact a3, by rw [e 4 (by omega)]; exact a4, fun j h1 h2 => ?_, fun p h1 h2 => ?_⟩
  · rw [e (5 + 3 * j) (by omega), e (7 + 3 * j) (by omega), sq_mv_w m l j h1 h2, e 0 (by omega)]
    refine ⟨(a5 j h1 h2).1, fun ho => ?_⟩
    have q1 := sq_to_in hm2 h1 h2 ho
    have q2 := (a5 j h1 h2).2 ho
    split <;> omega
  · rw [e 2 (by omega)] at h2
    rw [e (17 + 4 * p) (by omega), e (18 + 4 * p) (by omega), e (19 + 4 * p) (by omega), e (20 + 4 * p) (by omega), e 0 (by omega)]
    exact a6 p h1 h2
theorem sq_go_congr {m m' : Int → Int} {p h : Int} (h1 : m' 1 = m 1) (h2 : ∀ j, 17 ≤ j → m' j = m j) (hp : 0 ≤ p) : sq_go m' p h = sq_go m p h := by
  unfold sq_go
  rw [h1, h2 (17 + 4 * p) (by omega), h2 (18 + 4 * p) (by omega), h2 (19 + 4 * p) (by omega), h2 (20 + 4 * p) (by omega)]
theorem sq_place_congr {m m' : Int → Int} {p h : Int} (h1 : m' 1 = m 1) (h4 : m' 4 = m 4) (h2 : ∀ j, 17 ≤ j → m' j = m j) (hp : 0 ≤ p) : sq_place m' p h = sq_place m p h := by
  unfold sq_place
  rw [h4, h2 (18 + 4 * p) (by omega), sq_go_congr h1 h2 hp]
def sq_np (m : Int → Int) (l : Int) : Int := (if 0 < l ∧ sq_c m 0 ≠ NN then 1 else 0) + (if 1 < l ∧ sq_c m 1 ≠ NN then 1 else 0) + (if 2 < l ∧ sq_c m 2 ≠ NN then 1 else 0) + (if 3 < l ∧ sq_c m 3 ≠ NN then 1 else 0)
theorem sq_np_s (m : Int → Int) (l : Int) (h0 : 0 ≤ l) (h4 : l < 4) : sq_np m (l + 1) = sq_np m l + (if sq_c m l = NN then 0 else 1) := by
  have : l = 0 ∨ l = 1 ∨ l = 2 ∨ l = 3 := by omega
  unfold sq_np
  rcases this with rfl | rfl | rfl | rfl <;> (simp; try (split <;> omega))
theorem sq_np_in (m : Int → Int) (l : Int) : 0 ≤ sq_np m l ∧ sq_np m l ≤ 4 := by
  unfold sq_np
  have e : ∀ (c : Prop) [Decidable c], 0 ≤ (if c then (1 : Int) else 0) ∧ (if c then (1 : Int) else 0) ≤ 1 := fun c _ => by split <;> omega
  have h0 := e (0 < l ∧ sq_c m 0 ≠ NN)
  have h1 := e (1 < l ∧ sq_c m 1 ≠ NN)
  have h2 := e (2 < l ∧ sq_c m 2 ≠ NN)
  have h3 := e (3 < l ∧ sq_c m 3 ≠ NN)
  omega
