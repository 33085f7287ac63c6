/-! what a town's row means: a row m of 41 numbers, as the reference has it -/
def NN : Int := -1000000
/-- where one is who goes on his errand -/
def sq_go (m : Int → Int) (p h : Int) : Int :=
  let c := h.tmod (m 1)
  let g0 := if m (20 + 4 * p) < c then c - m (20 + 4 * p) else 0
  let g1 := if m (17 + 4 * p) = 3 then g0.tdiv 2 else if m (17 + 4 * p) < 4 then (if m (17 + 4 * p) = 5 then 2 * g0 else g0) else if (h.tdiv (m 1)).tmod 2 = 1 then 0 else (if m (17 + 4 * p) = 5 then 2 * g0 else g0)
  let w := if m (18 + 4 * p) < m (19 + 4 * p) then m (19 + 4 * p) - m (18 + 4 * p) else m (18 + 4 * p) - m (19 + 4 * p)
  let g2 := if w < g1 then w else g1
  if m (18 + 4 * p) < m (19 + 4 * p) then m (18 + 4 * p) + g2 else m (18 + 4 * p) - g2
def sq_place (m : Int → Int) (p h : Int) : Int := if bi (m 4) p = true then m (18 + 4 * p) else sq_go m p h
/-- whether a person may take a letter -/
def sq_can (m : Int → Int) (at_ goal : Int) (ld : Int → Int) (p : Int) : Prop :=
  sq_place m p (m 3) = at_ ∧ (if at_ < goal then at_ < sq_place m p (m 3 + 1) else sq_place m p (m 3 + 1) < at_) ∧ ld p < (if m (17 + 4 * p) = 2 then 2 else 1)

def sq_canb (m : Int → Int) (at_ goal : Int) (ld : Int → Int) (p : Int) : Bool :=
  decide (sq_place m p (m 3) = at_) && (if at_ < goal then decide (at_ < sq_place m p (m 3 + 1)) else decide (sq_place m p (m 3 + 1) < at_)) && decide (ld p < (if m (17 + 4 * p) = 2 then 2 else 1))
/-- the first of p, p + 1 .. (n of them) who may -/
def sq_first (m : Int → Int) (at_ goal : Int) (ld : Int → Int) : Nat → Int → Int
  | 0, _ => NN
  | n + 1, p => if sq_canb m at_ goal ld p = true then p else sq_first m at_ goal ld n (p + 1)
/-- who carries letter l, if those carry ld already -/
def sq_car (m : Int → Int) (l : Int) (ld : Int → Int) : Int :=
  if m (5 + 3 * l) = 1 ∧ m (6 + 3 * l) ≠ m (7 + 3 * l) then sq_first m (m (6 + 3 * l)) (m (7 + 3 * l)) ld (m 2).toNat 0 else NN
def sq_add (ld : Int → Int) (c : Int) : Int → Int := if c = NN then ld else fun p => if p = c then ld p + 1 else ld p
def sq_ld (m : Int → Int) : Nat → Int → Int
  | 0 => fun _ => 0
  | l + 1 => sq_add (sq_ld m l) (sq_car m (l : Int) (sq_ld m l))
/-- who carries letter l in this hour -/
def sq_c (m : Int → Int) (l : Int) : Int := sq_car m l (sq_ld m l.toNat)
/-- where it is then -/
def sq_to (m : Int → Int) (l : Int) : Int :=
  if sq_c m l = NN then m (6 + 3 * l) else
    let nx := sq_place m (sq_c m l) (m 3 + 1)
    if (if m (6 + 3 * l) < m (7 + 3 * l) then (if m (7 + 3 * l) < nx then (1 : Int) else 0) else (if nx < m (7 + 3 * l) then 1 else 0)) = 0 then nx else m (7 + 3 * l)
/-- the row behind an hour -/
def sq_hr (m : Int → Int) : Int → Int := fun k => if k = 3 then m 3 + 1 else if k = 6 then sq_to m 0 else if k = 9 then sq_to m 1 else if k = 12 then sq_to m 2 else if k = 15 then sq_to m 3 else m k
def sq_n (m : Int → Int) : Int := (if sq_c m 0 = NN then 0 else 1) + (if sq_c m 1 = NN then 0 else 1) + (if sq_c m 2 = NN then 0 else 1) + (if sq_c m 3 = NN then 0 else 1)
def sq_hrs (m : Int → Int) : Nat → Int → Int
  | 0 => m
  | n + 1 => sq_hr (sq_hrs m n)
def sq_done (m : Int → Int) (l : Int) : Prop := m (5 + 3 * l) = 1 ∧ m (6 + 3 * l) = m (7 + 3 * l)
def sq_post (m : Int → Int) (l lane goal : Int) : Int → Int := fun k => if k = 5 + 3 * l then 1 else if k = 6 + 3 * l then lane else if k = 7 + 3 * l then goal else m k
/-- a row of a town that stands -/
def sq_ok (m : Int → Int) : Prop :=
  (2 ≤ m 0 ∧ m 0 ≤ 9) ∧ (4 ≤ m 1 ∧ m 1 ≤ 24) ∧ (1 ≤ m 2 ∧ m 2 ≤ 6) ∧ (0 ≤ m 3 ∧ m 3 ≤ 2000) ∧ (0 ≤ m 4 ∧ m 4 ≤ 63) ∧
  (∀ l, 0 ≤ l → l < 4 → (m (5 + 3 * l) = 0 ∨ m (5 + 3 * l) = 1) ∧ (m (5 + 3 * l) = 1 → 0 ≤ m (6 + 3 * l) ∧ m (6 + 3 * l) < m 0 ∧ 0 ≤ m (7 + 3 * l) ∧ m (7 + 3 * l) < m 0)) ∧
  (∀ p, 0 ≤ p → p < m 2 → (1 ≤ m (17 + 4 * p) ∧ m (17 + 4 * p) ≤ 5) ∧ (0 ≤ m (18 + 4 * p) ∧ m (18 + 4 * p) < m 0) ∧ (0 ≤ m (19 + 4 * p) ∧ m (19 + 4 * p) < m 0) ∧ (0 ≤ m (20 + 4 * p) ∧ m (20 + 4 * p) ≤ 23))
theorem sq_tm {h d : Int} (hh : 0 ≤ h) (hd : 0 < d) : 0 ≤ h.tmod d ∧ h.tmod d < d := ⟨Int.tmod_nonneg d hh, Int.tmod_lt_of_pos h hd⟩
theorem sq_td {h d : Int} (hh : 0 ≤ h) (hd : 0 < d) : 0 ≤ h.tdiv d ∧ h.tdiv d ≤ h := by
  rw [Int.tdiv_eq_ediv_of_nonneg hh]
  exact ⟨Int.ediv_nonneg hh (by omega), Int.ediv_le_self d hh⟩
theorem sq_t2 (g : Int) (h : 0 ≤ g) : g.tdiv 2 = g / 2 := Int.tdiv_eq_ediv_of_nonneg h
/-- where one is lies between his two lanes -/
theorem sq_go_in {m : Int → Int} {p h : Int} (hm : sq_ok m) (h0 : 0 ≤ p) (hp : p < m 2) (hh : 0 ≤ h) : 0 ≤ sq_go m p h ∧ sq_go m p h < m 0 := by
  obtain ⟨a0, a1, a2, a3, a4, a5, a6⟩ := hm
  obtain ⟨b1, b2, b3, b4⟩ := a6 p h0 hp
  have c1 := sq_tm hh (show 0 < m 1 by omega)
  unfold sq_go
  have e2 := sq_t2 (if m (20 + 4 * p) < h.tmod (m 1) then h.tmod (m 1) - m (20 + 4 * p) else 0) (by split <;> omega)
  simp only [e2]
  generalize h.tmod (m 1) = c at *
  generalize m (17 + 4 * p) = k at *
  generalize m (18 + 4 * p) = f at *
  generalize m (19 + 4 * p) = t at *
  generalize m (20 + 4 * p) = b at *
  generalize hd : (h.tdiv (m 1)).tmod 2 = d at *
  have hg0 : 0 ≤ (if b < c then c - b else 0) := by split <;> omega
  generalize (if b < c then c - b else 0) = g0 at *
  have hg1 : 0 ≤ (if k = 3 then g0 / 2 else if k < 4 then (if k = 5 then 2 * g0 else g0) else if d = 1 then 0 else (if k = 5 then 2 * g0 else g0)) := by (repeat' split) <;> omega
  generalize (if k = 3 then g0 / 2 else if k < 4 then (if k = 5 then 2 * g0 else g0) else if d = 1 then 0 else (if k = 5 then 2 * g0 else g0)) = g1 at *
  (repeat' split) <;> omega
theorem sq_place_in {m : Int → Int} {p h : Int} (hm : sq_ok m) (h0 : 0 ≤ p) (hp : p < m 2) (hh : 0 ≤ h) : 0 ≤ sq_place m p h ∧ sq_place m p h < m 0 := by
  unfold sq_place
  split
  · exact (hm.2.2.2.2.2.2 p h0 hp).2.1
  · exact sq_go_in hm h0 hp hh
theorem sq_first_in (m : Int → Int) (a g : Int) (ld : Int → Int) : ∀ (n : Nat) (p : Int), sq_first m a g ld n p = NN ∨ (p ≤ sq_first m a g ld n p ∧ sq_first m a g ld n p < p + n ∧ sq_canb m a g ld (sq_first m a g ld n p) = true)
  | 0, p => Or.inl rfl
  | n + 1, p => by
    unfold sq_first
    split
    · exact Or.inr ⟨by omega, by omega, by assumption⟩
    · rcases sq_first_in m a g ld n (p + 1) with h | ⟨h1, h2, h3⟩
      · exact Or.inl h
      · exact Or.inr ⟨by omega, by omega, h3⟩
theorem sq_car_in {m : Int → Int} (hm : sq_ok m) (l : Int) (ld : Int → Int) : sq_car m l ld = NN ∨ (0 ≤ sq_car m l ld ∧ sq_car m l ld < m 2) := by
  unfold sq_car
  split
  · rcases sq_first_in m (m (6 + 3 * l)) (m (7 + 3 * l)) ld (m 2).toNat 0 with h | ⟨h1, h2, -⟩
    · exact Or.inl h
    · have := hm.2.2.1
      exact Or.inr ⟨h1, by omega⟩
  · exact Or.inl rfl
theorem sq_to_in {m : Int → Int} (hm : sq_ok m) {l : Int} (h0 : 0 ≤ l) (h4 : l < 4) (ho : m (5 + 3 * l) = 1) : 0 ≤ sq_to m l ∧ sq_to m l < m 0 := by
  have hl := (hm.2.2.2.2.2.1 l h0 h4).2 ho
  unfold sq_to
  split
  · exact ⟨hl.1, hl.2.1⟩
  · rename_i hc
    rcases sq_car_in hm l (sq_ld m l.toNat) with h | h
    · exact absurd h hc
    · have h3 := hm.2.2.2.1
      have hp := sq_place_in (h := m 3 + 1) hm h.1 h.2 (by omega)
      dsimp only
      (repeat' split) <;> first | exact hp | exact ⟨hl.2.2.1, hl.2.2.2⟩
/-- slots of a row that an hour leaves -/
theorem sq_hr_at (m : Int → Int) {k : Int} (h : k ≠ 3 ∧ k ≠ 6 ∧ k ≠ 9 ∧ k ≠ 12 ∧ k ≠ 15) : sq_hr m k = m k := by
  unfold sq_hr
  simp [h]
theorem sq_hr_w (m : Int → Int) {l : Int} (h0 : 0 ≤ l) (h4 : l < 4) : sq_hr m (6 + 3 * l) = sq_to m l := by
  have : l = 0 ∨ l = 1 ∨ l = 2 ∨ l = 3 := by omega
  rcases this with rfl | rfl | rfl | rfl <;> rfl
theorem sq_hr_ok {m : Int → Int} (hm : sq_ok m) (h : m 3 < 2000) : sq_ok (sq_hr m) := by
  have e0 := sq_hr_at m (k := 0) (by omega)
  have e1 := sq_hr_at m (k := 1) (by omega)
  have e2 := sq_hr_at m (k := 2) (by omega)
  have e4 := sq_hr_at m (k := 4) (by omega)
  have e3 : sq_hr m 3 = m 3 + 1 := rfl
  have hm2 := hm
  obtain ⟨a0, a1, a2, a3, a4, a5, a6⟩ := hm
  refine ⟨by rw [e0]; exact a0, by rw [e1]; exact a1, by rw [e2]; exact a2, by rw [e3]; omega, by rw [e4]; exact a4, fun l h1 h2 => ?_, fun p h1 h2 => ?_⟩
  · rw [sq_hr_at m (k := 5 + 3 * l) (by omega), sq_hr_at m (k := 7 + 3 * l) (by omega), sq_hr_w m h1 h2, e0]
    refine ⟨(a5 l h1 h2).1, fun ho => ?_⟩
    have := sq_to_in hm2 h1 h2 ho
    have := (a5 l h1 h2).2 ho
    omega
  · rw [e2] at h2
    rw [sq_hr_at m (k := 17 + 4 * p) (by omega), sq_hr_at m (k := 18 + 4 * p) (by omega), sq_hr_at m (k := 19 + 4 * p) (by omega), sq_hr_at m (k := 20 + 4 * p) (by omega), e0]
    exact a6 p h1 h2
theorem sq_hrs_at (m : Int → Int) {k : Int} (h : k ≠ 3 ∧ k ≠ 6 ∧ k ≠ 9 ∧ k ≠ 12 ∧ k ≠ 15) : ∀ n : Nat, sq_hrs m n k = m k
  | 0 => rfl
  | n + 1 => by show sq_hr (sq_hrs m n) k = m k; rw [sq_hr_at _ h, sq_hrs_at m h n]
theorem sq_hrs_3 (m : Int → Int) : ∀ n : Nat, sq_hrs m n 3 = m 3 + n
  | 0 => by simp [sq_hrs]
  | n + 1 => by show sq_hrs m n 3 + 1 = _; rw [sq_hrs_3 m n]; omega
theorem sq_hrs_ok {m : Int → Int} (hm : sq_ok m) : ∀ n : Nat, m 3 + n ≤ 2000 → sq_ok (sq_hrs m n)
  | 0, _ => hm
  | n + 1, h => sq_hr_ok (sq_hrs_ok hm n (by omega)) (by rw [sq_hrs_3]; omega)
theorem sq_post_ok {m : Int → Int} (hm : sq_ok m) {l a g : Int} (h0 : 0 ≤ l) (h4 : l < 4) (ha : 0 ≤ a ∧ a < m 0) (hg : 0 ≤ g ∧ g < m 0) : sq_ok (sq_post m l a g) := by
  have e : ∀ k, k ≠ 5 + 3 * l ∧ k ≠ 6 + 3 * l ∧ k ≠ 7 + 3 * l → sq_post m l a g k = m k := fun k hk => by unfold sq_post; simp [hk]
  obtain ⟨a0, a1, a2, a3, a4, a5, a6⟩ := hm
  refine ⟨by rw [e 0 (by omega)]; exact a0, by rw [e 1 (by omega)]; exact a1, by rw [e 2 (by omega)]; exact a2, by rw [e 3 (by omega)]; exact a3, by rw [e 4 (by omega)]; exact a4, fun l2 h1 h2 => ?_, fun p h1 h2 => ?_⟩
  · rw [e 0 (by omega)]
    by_cases hl : l2 = l
    · subst hl
      refine ⟨Or.inr (by simp [sq_post]), fun _ => ?_⟩
      have q1 : sq_post m l2 a g (6 + 3 * l2) = a := by unfold sq_post; rw [if_neg (by omega), if_pos rfl]
      have q2 : sq_post m l2 a g (7 + 3 * l2) = g := by unfold sq_post; rw [if_neg (by omega), if_neg (by omega), if_pos rfl]
      rw [q1, q2]; omega
    · rw [e (5 + 3 * l2) (by omega), e (6 + 3 * l2) (by omega), e (7 + 3 * l2) (by omega)]
      exact a5 l2 h1 h2
  · rw [e 2 (by omega)] at h2
    rw [e (17 + 4 * p) (by omega), e (18 + 4 * p) (by omega), e (19 + 4 * p) (by omega), e (20 + 4 * p) (by omega), e 0 (by omega)]
    exact a6 p h1 h2
