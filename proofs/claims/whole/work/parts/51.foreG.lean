/-- the frame of all that is foretold -/
def fc (H H' : hp_H) : Prop := ∀ b, (b < 199 ∨ 226 < b) → H' b = H b
theorem fs.fc {H H' : hp_H} (h : fs H H') : fc H H' := fun b hb => h b (by omega)
theorem fc.tr {H H' H2 : hp_H} (h : fc H H') (h2 : fc H' H2) : fc H H2 := fun b hb => by rw [h2 b hb, h b hb]
/-- how often each carries -/
def sq_of : Nat → (Int → Int) → (Int → Int) → Int → Int
  | 0, _, o => o
  | r + 1, m, o => sq_of r (sq_hr m) (fun p => o p + sq_ld m 4 p)
def sq_mx (o : Int → Int) : Nat → Int → Int → Int
  | 0, _, b => b
  | r + 1, p, b => sq_mx o r (p + 1) (if o b < o p then p else b)
theorem fo_bu_33 {f n what : Int} {m0 : Int → Int} (hn2 : n ≤ 99) (hf0 : 0 ≤ f ∧ f ≤ 1500) : ∀ (q : Nat) (k : Int) (m o : Int → Int) (H : hp_H), 0 ≤ k → k ≤ n → (n - k).toNat < q → tr H 211 m → sq_ok m → er H m0 f n → m 1 = m0 1 → m 2 = m0 2 → (∀ j, 17 ≤ j → m j = m0 j) → m 3 = f + k → (∀ p, 0 ≤ p → p < 6 → H 225 p = o p ∧ 0 ≤ o p ∧ o p ≤ 4 * k) →
    ∃ H', f_X3_busiest_33 q n what k H = some H' ∧ (∀ b, b ≠ 211 → b ≠ 216 → b ≠ 199 → b ≠ 209 → b ≠ 225 → H' b = H b) ∧ (∀ p, 0 ≤ p → p < 6 → H' 225 p = sq_of (n - k).toNat m o p) := by
  intro q
  induction q with
  | zero => intro k m o H _ _ h; omega
  | succ q ih =>
    intro k m o H k0 kn hq ht hm he h1 h2 h3 h4 ho
    rw [f_X3_busiest_33]
    by_cases hk : k < n
    · obtain ⟨H2, g1, g2, g3, g4, g5⟩ := fo_pass ht hm he h1 h2 h3 (by omega) (by omega) (by omega) hf0.1
      have g225 : H2 225 = H 225 := g2 225 (by omega) (by omega) (by omega) (by omega)
      obtain ⟨H3, k1, k2, k3⟩ := fo_tally hm g5 (fun p p0 p6 => by rw [g225]; have := ho p p0 p6; omega)
      rw [if_pos hk, g1, pu_b1, k1, pu_b2, pu_let, pu_w (by omega), show (n - k).toNat = (n - (k + 1)).toNat + 1 by omega]
      have e3 : sq_hr m 3 = m 3 + 1 := rfl
      have ld := fun p => sq_ld_in (m := m) 4 p
      obtain ⟨H4, w1, w2, w3⟩ := ih (k + 1) (sq_hr m) (fun p => o p + sq_ld m 4 p) H3 (by omega) (by omega) (by omega) (tr_fr g3 (fun b b1 b2 => k2 b (by omega))) (sq_hr_ok hm (by omega)) (er_fr g4 (by rw [k2 199 (by omega)]) (by rw [k2 199 (by omega)]) (fun b b1 b2 => k2 b (by omega)) (by have := hm.2.2.1; omega)) (by rw [sq_hr_at m (by omega)]; exact h1) (by rw [sq_hr_at m (by omega)]; exact h2) (fun j hj => by rw [sq_hr_at m (by omega)]; exact h3 j hj) (by omega) (fun p p0 p6 => by
        have a := ho p p0 p6
        have b := ld p
        refine ⟨by rw [k3 p p0 p6, g225, a.1], ?_, ?_⟩ <;> omega)
      exact ⟨H4, w1, fun b b1 b2 b3 b4 b5 => by rw [w2 b b1 b2 b3 b4 b5, k2 b b5, g2 b b1 b2 b3 b4], w3⟩
    · rw [if_neg hk]
      exact ⟨H, rfl, fun _ _ _ _ _ _ => rfl, fun p p0 p6 => by rw [show (n - k).toNat = 0 by omega]; exact (ho p p0 p6).1⟩
theorem sq_of_in : ∀ (r : Nat) (m o : Int → Int) (p : Int), 0 ≤ o p → 0 ≤ sq_of r m o p
  | 0, m, o, p, h => h
  | r + 1, m, o, p, h => sq_of_in r (sq_hr m) _ p (by have := sq_ld_in (m := m) 4 p; omega)
/-- who isn't there carries nothing -/
theorem sq_of_no {p : Int} : ∀ (r : Nat) (m o : Int → Int), sq_ok m → m 3 + r ≤ 2000 → m 2 ≤ p → 0 ≤ p → o p = 0 → sq_of r m o p = 0
  | 0, m, o, _, _, _, _, h => h
  | r + 1, m, o, hm, hr, hp, p0, h => by
    refine sq_of_no r (sq_hr m) _ (sq_hr_ok hm (by omega)) (by show m 3 + 1 + r ≤ 2000; omega) (by rw [sq_hr_at m (by omega)]; exact hp) p0 ?_
    show o p + sq_ld m 4 p = 0
    rw [h, sq_ld4 p0]
    have key : ∀ l, sq_c m l ≠ p := fun l q => by
      rcases sq_car_in hm l (sq_ld m l.toNat) with h | h
      · have : sq_c m l = NN := h
        rw [this] at q
        unfold NN at q
        omega
      · have : sq_c m l < m 2 := h.2
        omega
    rw [if_neg (key 0), if_neg (key 1), if_neg (key 2), if_neg (key 3)]
    omega
theorem sq_mx_in {o : Int → Int} : ∀ (r : Nat) (p b : Int), 0 ≤ b → b < p → 0 ≤ sq_mx o r p b ∧ sq_mx o r p b < p + r
  | 0, p, b, h0, h => ⟨h0, by show b < _; omega⟩
  | r + 1, p, b, h0, h => by
    have := sq_mx_in (o := o) r (p + 1) (if o b < o p then p else b) (by split <;> omega) (by split <;> omega)
    exact ⟨this.1, by have := this.2; show sq_mx o r (p + 1) _ < _; omega⟩
/-- zeros behind change nothing -/
theorem sq_mx_z {o : Int → Int} : ∀ (r : Nat) (p b : Int), (∀ q, p ≤ q → q < p + r → o q = 0) → 0 ≤ o b → sq_mx o r p b = b
  | 0, p, b, _, _ => rfl
  | r + 1, p, b, h, hb => by
    rw [sq_mx, if_neg (by rw [h p (by omega) (by omega)]; omega)]
    exact sq_mx_z r (p + 1) b (fun q h1 h2 => h q (by omega) (by omega)) hb
theorem sq_mx_app {o : Int → Int} : ∀ (r s : Nat) (p b : Int), sq_mx o (r + s) p b = sq_mx o s (p + r) (sq_mx o r p b)
  | 0, s, p, b => by show sq_mx o (0 + s) p b = sq_mx o s (p + 0) b; rw [Nat.zero_add, Int.add_zero]
  | r + 1, s, p, b => by
    rw [show r + 1 + s = (r + s) + 1 by omega, sq_mx, sq_mx, sq_mx_app r s]
    congr 1
    omega
theorem fo_bu_67 {H : hp_H} {m o : Int → Int} {what : Int} (ht : H 15 2 = m 2) (hm : m 2 ≤ 6) (ho : ∀ p, 0 ≤ p → p < 6 → H 225 p = o p) : ∀ (q : Nat) (b p : Int), 0 ≤ b → b < p → b < 6 → (m 2 - p).toNat < q → f_X3_busiest_67 q what b p H = some (sq_mx o (m 2 - p).toNat p b) := by
  intro q
  induction q with
  | zero => intro b p _ _ _ h; omega
  | succ q ih =>
    intro b p b0 bp b6 hq
    rw [f_X3_busiest_67, ht]
    by_cases hp : p < m 2
    · rw [if_pos hp, pu_ck (by omega), pu_ck (by omega), pu_let, pu_let, pu_w (by omega), ho b b0 b6, ho p (by omega) (by omega), ih _ (p + 1) (by split <;> omega) (by split <;> omega) (by split <;> omega) (by omega), show (m 2 - p).toNat = (m 2 - (p + 1)).toNat + 1 by omega]
      rfl
    · rw [if_neg hp, show (m 2 - p).toNat = 0 by omega]
      rfl
theorem fo_bu_9 {n what : Int} (H : hp_H) : f_X3_busiest_9 1000 n what 0 H = some (hp_fill H 225 0 0 6 (fun _ => 0)) := by
  refine lp_fill (F := fun q v H => f_X3_busiest_9 q n what v H) (src := fun _ _ => 0) ?_ (fun _ _ _ _ => rfl) 1000 0 H (by omega) (by omega) (by omega)
  intro q v H h0 hN
  show f_X3_busiest_9 (q + 1) n what v H = _
  rw [f_X3_busiest_9]
  by_cases hv : v < 6
  · rw [if_pos hv, if_pos hv, pu_ck (by omega), pu_let, pu_let, pu_w (by omega), Int.zero_add]
  · rw [if_neg hv, if_neg hv]
theorem fo_busiest {H : hp_H} {m : Int → Int} {n what : Int} (ht : tr H 15 m) (hm : sq_ok m) (hn : 1 ≤ n ∧ n ≤ 99) (hh : m 3 ≤ 999) : ∃ H', f_X3_busiest n what H = some (if what = 0 then sq_mx (sq_of n.toNat m (fun _ => 0)) 5 1 0 else sq_of n.toNat m (fun _ => 0) (sq_mx (sq_of n.toNat m (fun _ => 0)) 5 1 0), H') ∧ fc H H' := by
  have a2 := hm.2.2.1
  have a3 := hm.2.2.2.1
  obtain ⟨H2, g1, g2, g3, g4⟩ := fo_prepare (n := n) ht hm (by omega)
  have t15 := fs_tr g2 ht (by omega)
  have fr : ∀ b, b ≠ 225 → hp_fill H2 225 0 0 6 (fun _ => 0) b = H2 b := fun b hb => fi_ne hb
  obtain ⟨H3, k1, k2, k3⟩ := fo_bu_33 (f := m 3) (n := n) (what := what) (m0 := m) hn.2 (by omega) 1000 0 m (fun _ => 0) (hp_fill H2 225 0 0 6 (fun _ => 0)) (by omega) (by omega) (by omega) (tr_fr g3 (fun b b1 b2 => fr b (by omega))) hm (er_fr g4 (by rw [fr 199 (by omega)]) (by rw [fr 199 (by omega)]) (fun b b1 b2 => fr b (by omega)) a2.2) rfl rfl (fun _ _ => rfl) (by omega) (fun p p0 p6 => ⟨fi_in (by omega), by omega, by omega⟩)
  rw [Int.sub_zero] at k3
  have fr3 : fc H H3 := fun b hb => by rw [k2 b (by omega) (by omega) (by omega) (by omega) (by omega), fr b (by omega), g2 b (by omega)]
  have e15 : H3 15 2 = m 2 := by rw [fr3 15 (by omega)]; exact ht.2.2.1
  have w1 := fo_bu_67 (what := what) e15 a2.2 k3 1000 0 1 (by omega) (by omega) (by omega) (by omega)
  have hb := sq_mx_in (o := sq_of n.toNat m (fun _ => 0)) (m 2 - 1).toNat 1 0 (by omega) (by omega)
  have hmx : sq_mx (sq_of n.toNat m (fun _ => 0)) 5 1 0 = sq_mx (sq_of n.toNat m (fun _ => 0)) (m 2 - 1).toNat 1 0 := by
    rw [show (5 : Nat) = (m 2 - 1).toNat + (6 - m 2).toNat by omega, sq_mx_app]
    refine sq_mx_z _ _ _ (fun q q1 q2 => sq_of_no _ _ _ hm (by omega) (by omega) (by omega) rfl) (sq_of_in _ _ _ _ (by omega))
  unfold f_X3_busiest
  rw [g1, pu_b1, fo_bu_9, pu_b1, k1, pu_b1, w1, pu_b1, ← hmx]
  rw [← hmx] at hb
  refine ⟨H3, ?_, fr3⟩
  by_cases hw : what = 0
  · rw [if_pos hw, if_pos hw]
  · rw [if_neg hw, if_neg hw, pu_ck (by omega), k3 _ hb.1 (by omega)]
/-! weeks -/
def sq_x (x : Int) : Int := (x * 16807).tmod 2147483647
def sq_w1 (m : Int → Int) (x : Int) : Int → Int := if x.tmod 5 = 0 then sq_post m (x.tmod 4) (x.tmod (m 0)) (m 0 - 1 - x.tmod (m 0)) else m
def sq_wk : Nat → Int → (Int → Int) → Int → (Int → Int) × Int
  | 0, _, m, t => (m, t)
  | r + 1, x, m, t => sq_wk r (sq_x x) (sq_hr (sq_w1 m (sq_x x))) (t + sq_n (sq_w1 m (sq_x x)))
theorem sq_x_in {x : Int} (h : 0 ≤ x) : 0 ≤ sq_x x ∧ sq_x x < 2147483647 := sq_tm (by omega) (by omega)
theorem sq_w1_ok {m : Int → Int} (hm : sq_ok m) {x : Int} (hx : 0 ≤ x) : sq_ok (sq_w1 m x) := by
  have a0 := hm.1
  unfold sq_w1
  split
  · have h4 := sq_tm (d := 4) hx (by omega)
    have hl := sq_tm (d := m 0) hx (by omega)
    exact sq_post_ok hm h4.1 h4.2 hl (by omega)
  · exact hm
theorem sq_w1_at {m : Int → Int} {x k : Int} (hx : 0 ≤ x) (hk : k < 5 ∨ 17 ≤ k) : sq_w1 m x k = m k := by
  have h4 := sq_tm (d := 4) hx (by omega)
  unfold sq_w1
  split
  · unfold sq_post
    rw [if_neg (by omega), if_neg (by omega), if_neg (by omega)]
  · rfl
theorem sq_n_in (m : Int → Int) : 0 ≤ sq_n m ∧ sq_n m ≤ 4 := by
  unfold sq_n
  have e : ∀ (c : Prop) [Decidable c], 0 ≤ (if c then (0 : Int) else 1) ∧ (if c then (0 : Int) else 1) ≤ 1 := fun c _ => by split <;> omega
  have h0 := e (sq_c m 0 = NN)
  have h1 := e (sq_c m 1 = NN)
  have h2 := e (sq_c m 2 = NN)
  have h3 := e (sq_c m 3 = NN)
  omega
theorem hp_cmp0 (a : Int) : hp_cmp a 0 = 0 ↔ a = 0 := by unfold hp_cmp; (repeat' split) <;> omega
theorem fo_tallyW {H : hp_H} {m : Int → Int} (hm : sq_ok m) (hc : ∀ j, 0 ≤ j → j < 4 → H 209 j = sq_c m j) : ∃ H', f_X3_tally H = some (sq_n m, H') ∧ (∀ b, b ≠ 225 → H' b = H b) := by
  have a2 := hm.2.2.1
  have key : ∀ (n : Nat) (l : Int) (K : hp_H), 0 ≤ l → l ≤ 4 → (4 - l).toNat < n → (∀ b, b ≠ 225 → K b = H b) → ∃ K', f_X3_tally_4 n (sq_np m l) l K = some (sq_np m 4, K') ∧ (∀ b, b ≠ 225 → K' b = H b) := by
    intro n
    induction n with
    | zero => intro l K _ _ h; omega
    | succ n ih =>
      intro l K l0 l4 hn hK
      rw [f_X3_tally_4]
      by_cases hl : l < 4
      · have hnp := sq_np_in m l
        unfold f_X2_carrierThen
        rw [if_pos hl, pu_ck ⟨l0, hl⟩, pu_b1, hK 209 (by omega), hc l l0 hl]
        have hs := sq_np_s m l l0 hl
        by_cases hq : sq_c m l = NN
        · rw [if_pos (show _ = (-1000000 : Int) from hq), pu_b2, pu_let, pu_w (by omega)]
          rw [if_pos hq, Int.add_zero] at hs
          rw [← hs]
          exact ih (l + 1) K (by omega) (by omega) (by omega) hK
        · have hin : 0 ≤ sq_c m l ∧ sq_c m l < m 2 := by
            rcases sq_car_in hm l (sq_ld m l.toNat) with h | h
            · exact absurd h hq
            · exact h
          rw [if_neg hq] at hs
          rw [if_neg (show ¬ _ = (-1000000 : Int) from hq), pu_ck (by omega), pu_let, pu_let, pu_b2, pu_let, pu_w (x := l + 1) (by omega), pu_w (x := sq_np m l + 1) (by omega), ← hs]
          exact ih (l + 1) _ (by omega) (by omega) (by omega) (fun b hb => by rw [pu_upa hb]; exact hK b hb)
      · rw [if_neg hl]
        have : l = 4 := by omega
        subst this
        exact ⟨K, rfl, hK⟩
  obtain ⟨K, g1, g2⟩ := key 1000 0 H (by omega) (by omega) (by omega) (fun _ _ => rfl)
  have e0 : sq_np m 0 = 0 := by unfold sq_np; simp
  have e4 : sq_np m 4 = sq_n m := by unfold sq_np sq_n; simp
  rw [e0, e4] at g1
  unfold f_X3_tally
  rw [g1, pu_b2]
  exact ⟨K, rfl, g2⟩
theorem fo_wk_16 {f n what : Int} {m0 : Int → Int} (hm0 : sq_ok m0) (hn2 : n ≤ 99) (hf0 : 0 ≤ f ∧ f ≤ 1500) : ∀ (q : Nat) (k x t : Int) (m : Int → Int) (H : hp_H), 0 ≤ k → k ≤ n → (n - k).toNat < q → 0 ≤ x → x ≤ 2147483647 → 0 ≤ t → t ≤ 4 * k → tr H 15 m0 → tr H 211 m → sq_ok m → er H m0 f n → m 0 = m0 0 → m 1 = m0 1 → m 2 = m0 2 → (∀ j, 17 ≤ j → m j = m0 j) → m 3 = f + k →
    ∃ H', f_X3_weeks_16 q n what x t k H = some ((sq_wk (n - k).toNat x m t).2, H') ∧ fc H H' ∧ tr H' 211 (sq_wk (n - k).toNat x m t).1 := by
  have a0 := hm0.1
  have a2 := hm0.2.2.1
  intro q
  induction q with
  | zero => intro k x t m H _ _ h; omega
  | succ q ih =>
    intro k x t m H k0 kn hq x0 x1 t0 t1 ht15 ht hm he e0 h1 h2 h3 h4
    rw [f_X3_weeks_16]
    by_cases hk : k < n
    · have hx := sq_x_in x0
      have h5 := sq_tm (d := 5) hx.1 (by omega)
      have h4m := sq_tm (d := 4) hx.1 (by omega)
      have hl := sq_tm (d := m0 0) hx.1 (by omega)
      rw [if_pos hk, pu_wl (x := x * 16807) (by omega), show (x * 16807).tmod 2147483647 = sq_x x from rfl, pu_let]
      have key : ∃ H2, (if hp_cmp ((sq_x x).tmod 5) 0 = 0 then if 0 < H 15 0 then hp_ck (¬ H 15 0 = 0) (hp_let (hp_w ((sq_x x).tmod (H 15 0))) fun v9_17 => hp_b1 (f_X6_putOut 211 (hp_w ((sq_x x).tmod 4)) v9_17 (hp_w (hp_w (H 15 0 - 1) - v9_17)) H) fun H19 => some H19) else some H else some H) = some H2 ∧ (∀ b, b ≠ 211 → b ≠ 216 → b ≠ 217 → H2 b = H b) ∧ tr H2 211 (sq_w1 m (sq_x x)) := by
        unfold sq_w1
        rw [ht15.1]
        by_cases hc : (sq_x x).tmod 5 = 0
        · rw [if_pos ((hp_cmp0 _).mpr hc), if_pos (by omega), pu_ck (by omega), pu_let, pu_w (x := (sq_x x).tmod (m0 0)) (by omega), pu_w (x := (sq_x x).tmod 4) (by omega), pu_w (x := m0 0 - 1) (by omega), pu_w (x := m0 0 - 1 - (sq_x x).tmod (m0 0)) (by omega), if_pos hc, e0]
          obtain ⟨H2, g1, g2, g3⟩ := to_putOut (l := (sq_x x).tmod 4) (lane := (sq_x x).tmod (m0 0)) (goal := m0 0 - 1 - (sq_x x).tmod (m0 0)) ht h4m (by omega)
          rw [g1, pu_b1]
          exact ⟨H2, rfl, fun b b1 b2 b3 => g2 b b1 (by omega) (by omega), g3⟩
        · rw [if_neg (fun q => hc ((hp_cmp0 _).mp q)), if_neg hc]
          exact ⟨H, rfl, fun _ _ _ _ => rfl, ht⟩
      obtain ⟨H2, g1, g2, g3⟩ := key
      rw [g1, pu_b1]
      have hok := sq_w1_ok hm hx.1
      have ew : ∀ k, (k < 5 ∨ 17 ≤ k) → sq_w1 m (sq_x x) k = m k := fun k hk => sq_w1_at hx.1 hk
      obtain ⟨H3, k1, k2, k3, k4, k5⟩ := fo_pass (m0 := m0) g3 hok (er_fr he (by rw [g2 199 (by omega) (by omega) (by omega)]) (by rw [g2 199 (by omega) (by omega) (by omega)]) (fun b b1 b2 => g2 b (by omega) (by omega) (by omega)) a2.2) (by rw [ew 1 (by omega)]; exact h1) (by rw [ew 2 (by omega)]; exact h2) (fun j hj => by rw [ew j (by omega)]; exact h3 j hj) (by rw [ew 3 (by omega)]; omega) (by rw [ew 3 (by omega)]; omega) (by omega) hf0.1
      obtain ⟨H4, w1, w2⟩ := fo_tallyW hok k5
      have hnn := sq_n_in (sq_w1 m (sq_x x))
      rw [k1, pu_b1, w1, pu_b2, pu_let, pu_let, pu_w (x := t + sq_n (sq_w1 m (sq_x x))) (by omega), pu_w (x := k + 1) (by omega), show (n - k).toNat = (n - (k + 1)).toNat + 1 by omega]
      have f4 : fc H H4 := fun b hb => by rw [w2 b (by omega), k2 b (by omega) (by omega) (by omega) (by omega), g2 b (by omega) (by omega) (by omega)]
      have e3 : sq_hr (sq_w1 m (sq_x x)) 3 = m 3 + 1 := by show sq_w1 m (sq_x x) 3 + 1 = _; rw [ew 3 (by omega)]
      obtain ⟨H5, z1, z2, z3⟩ := ih (k + 1) (sq_x x) (t + sq_n (sq_w1 m (sq_x x))) (sq_hr (sq_w1 m (sq_x x))) H4 (by omega) (by omega) (by omega) hx.1 (by omega) (by omega) (by omega) (tr_fr ht15 (fun b b1 b2 => f4 b (by omega))) (tr_fr k3 (fun b b1 b2 => w2 b (by omega))) (sq_hr_ok hok (by rw [ew 3 (by omega)]; omega)) (er_fr k4 (by rw [w2 199 (by omega)]) (by rw [w2 199 (by omega)]) (fun b b1 b2 => w2 b (by omega)) a2.2) (by rw [sq_hr_at _ (by omega), ew 0 (by omega)]; exact e0) (by rw [sq_hr_at _ (by omega), ew 1 (by omega)]; exact h1) (by rw [sq_hr_at _ (by omega), ew 2 (by omega)]; exact h2) (fun j hj => by rw [sq_hr_at _ (by omega), ew j (by omega)]; exact h3 j hj) (by omega)
      exact ⟨H5, z1, f4.tr z2, z3⟩
    · rw [if_neg hk, show (n - k).toNat = 0 by omega]
      exact ⟨H, rfl, fun _ _ => rfl, ht⟩
