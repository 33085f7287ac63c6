/-! ask: the bodies, and the traces they leave -/
theorem iv_kf {C C' M M' : hp_H} (h : iv C M) (hc : ∀ b, b ≠ 227 → b ≠ 228 → C' b = C b) (hm : ∀ b, b ≠ 0 → b ≠ 14 → M' b = M b) (hj : ∀ j, j ≠ 25 → M' 0 j = M 0 j) (hk' : iv_k C' M') : iv C' M' := by
  obtain ⟨ht, hz, ha, hi, hr, hp, hs, hk⟩ := h
  have e4 := hm 4 (by omega) (by omega)
  refine ⟨⟨?_, ?_⟩, ?_, ?_, ?_, ?_, ?_, ?_, hk'⟩
  · rw [e4]; exact tr_fr ht.1 (fun b b1 b2 => hc b (by omega) (by omega))
  · rw [e4]; exact ht.2
  · intro k hk; rw [e4, hm 6 (by omega) (by omega)]; exact hz k hk
  · unfold iv_a
    rw [hc 29 (by omega) (by omega), hj 9 (by omega), hm 7 (by omega) (by omega)]
    obtain ⟨a1, a2, a3, a4⟩ := ha
    refine ⟨a1, a2, a3, fun i i0 i1 => ?_⟩
    obtain ⟨b1, b2⟩ := a4 i i0 i1
    have hq := sq_tm (h := C 29 1 + i) (d := 24) (by omega) (by omega)
    exact ⟨tr_fr b1 (fun b h1 h2 => hc b (by omega) (by omega)), b2⟩
  · intro k k0 k1
    rw [hm 12 (by omega) (by omega), hm 13 (by omega) (by omega), hc (230 + 7 * k) (by omega) (by omega)]
    rcases hi k k0 k1 with h | ⟨h1, h2, h3⟩
    · exact Or.inl h
    · exact Or.inr ⟨h1, tr_fr h2 (fun b g1 g2 => hc b (by omega) (by omega)), h3⟩
  · intro r r0 r1
    rw [hc 11 (by omega) (by omega), hc 12 (by omega) (by omega), hc (3 + r) (by omega) (by omega), hm 1 (by omega) (by omega), hm 2 (by omega) (by omega), hm 3 (by omega) (by omega)]
    exact hr r r0 r1
  · unfold iv_p
    rw [hc 13 (by omega) (by omega), hc 14 (by omega) (by omega), hj 11 (by omega), hm 8 (by omega) (by omega)]
    exact hp
  · exact ⟨by rw [hc 0 (by omega) (by omega), hj 18 (by omega)]; exact hs.1, by rw [hc 0 (by omega) (by omega), hj 1 (by omega)]; exact hs.2⟩
theorem op_leave {C M : hp_H} (h : iv C M) (v : Int) : ∃ C' M', f_X1_leave v C = some C' ∧ f_X8_began v M = some M' ∧ iv C' M' ∧ M' 4 = M 4 := by
  obtain ⟨k1, k2, k3⟩ := h.2.2.2.2.2.2.2
  unfold f_X1_leave f_X8_began
  rw [k1]
  by_cases h1 : M 0 25 < 16
  · rw [if_pos h1, if_pos h1, pu_ck (by omega), pu_ck (by omega), pu_let, pu_let, pu_let, pu_let, pu_upa (show (227 : Int) ≠ 228 by omega), k1, pu_upa (show (0 : Int) ≠ 14 by omega), pu_w (by omega)]
    refine ⟨_, _, rfl, rfl, iv_kf h (fun b b1 b2 => by rw [pu_upa b1, pu_upa b2]) (fun b b1 b2 => by rw [pu_upa b1, pu_upa b2]) (fun j hj => by rw [pu_upj hj, pu_upa (by omega)]) ⟨by rw [pu_ups, pu_ups], by rw [pu_ups]; omega, fun i i0 i1 => ?_⟩, by rw [pu_upa (by omega), pu_upa (by omega)]⟩
    rw [pu_ups] at i1
    rw [pu_upa (show (228 : Int) ≠ 227 by omega), pu_upa (show (14 : Int) ≠ 0 by omega)]
    by_cases hi : i = M 0 25
    · subst hi; rw [pu_ups, pu_ups]
    · rw [pu_upj hi, pu_upj hi]; exact k3 i i0 (by omega)
  · rw [if_neg h1, if_neg h1]
    exact ⟨_, _, rfl, rfl, h, rfl⟩
def sq_body (kd w : Int) : Int := if w = 0 then (if kd = 2 then 12 else if kd = 4 then 13 else if kd = 5 then 14 else 11) else (if kd = 1 then 21 else if kd = 2 then 24 else if kd = 3 then 22 else 23)
theorem ak_asked {g : Int → Int → Int → hp_H → Option (Int × hp_H)} {p w d kd : Int} {C : hp_H} (hp : 0 ≤ p ∧ p < 6) (hw : w = 0 ∨ w = 1) (hk : 1 ≤ kd ∧ kd ≤ 5) (h : C 16 p = kd) (hd : 0 ≤ d ∧ d ≤ 100) : f_X1_asked g p w d C = hp_b2 (g p (sq_body kd w) (d + 1) C) (fun c H => some (c, H)) := by
  unfold f_X1_asked
  rw [pu_let, pu_ck hp, h, pu_let, pu_w (by omega)]
  have h1 : kd = 1 ∨ kd = 2 ∨ kd = 3 ∨ kd = 4 ∨ kd = 5 := by omega
  rcases hw with rfl | rfl <;> rcases h1 with rfl | rfl | rfl | rfl | rfl <;> rfl
theorem iv_kd {C M : hp_H} (h : iv C M) {p : Int} (hp : 0 ≤ p ∧ p < M 4 2) : C 16 p = M 4 (17 + 4 * p) ∧ C 19 p = M 4 (20 + 4 * p) := ⟨(h.1.1.2.2.2.2.2.2.2.2 p hp.1 hp.2).1, (h.1.1.2.2.2.2.2.2.2.2 p hp.1 hp.2).2.2.2⟩
/-- both answer alike, and what holds stays, the town unchanged -/
def ok2 (M : hp_H) (c r : Option (Int × hp_H)) : Prop := ∃ x C' M', c = some (x, C') ∧ r = some (x, M') ∧ iv C' M' ∧ M' 4 = M 4
theorem ak_10 {C M : hp_H} (h : iv C M) {p d : Int} (hp : 0 ≤ p ∧ p < M 4 2) (hd : d ≤ 12) (n : Nat) : ok2 M (f_X1_given (n + 1) p 10 d C) (f_X8_plainSize p M) := by
  have hm := iv_m h
  obtain ⟨C1, M1, l1, l2, l3, l4⟩ := op_leave h 10
  unfold f_X8_plainSize
  rw [f_X1_given, if_neg (by omega), l1, pu_b1, pu_let, if_pos rfl, pu_ck (by omega), l2, pu_b1, mo_of3 (by omega), pu_b1, (iv_kd l3 (by rw [l4]; exact hp)).2]
  exact ⟨_, C1, M1, rfl, rfl, l3, l4⟩
theorem ak_13 {C M : hp_H} (h : iv C M) {p d : Int} (hp : 0 ≤ p ∧ p < M 4 2) (hd : 0 ≤ d ∧ d ≤ 11) (n : Nat) : ok2 M (f_X1_given (n + 2) p 13 d C) (hp_b1 (f_X8_began 13 M) (fun H7 => hp_b2 (f_X8_plainSize p H7) (fun c9 H10 => some (hp_w (c9 - 100), H10)))) := by
  obtain ⟨C1, M1, l1, l2, l3, l4⟩ := op_leave h 13
  obtain ⟨x, C2, M2, a1, a2, a3, a4⟩ := ak_10 l3 (p := p) (d := d + 1) (by rw [l4]; exact hp) (by omega) n
  rw [f_X1_given, if_neg (by omega), l1, pu_b1, pu_let, if_neg (by omega), if_neg (by omega), if_neg (by omega), if_pos rfl, pu_w (x := d + 1) (by omega), a1, pu_b2, l2, pu_b1, a2, pu_b2]
  exact ⟨_, C2, M2, rfl, rfl, a3, by rw [a4, l4]⟩
theorem ak_maid {C M : hp_H} (h : iv C M) {p d : Int} (hp : 0 ≤ p ∧ p < M 4 2) (hd : 0 ≤ d ∧ d ≤ 10) (hk : M 4 (17 + 4 * p) = 4 ∨ M 4 (17 + 4 * p) = 5) (n : Nat) : ok2 M (f_X1_given (n + 3) p (sq_body (M 4 (17 + 4 * p)) 0) d C) (f_X8_maidSize p M) := by
  have hm := iv_m h
  unfold f_X8_maidSize
  rw [mo_of0 (by omega), pu_b1, pu_let]
  rcases hk with e | e
  · rw [e, show sq_body 4 0 = 13 from rfl, show (if (4 : Int) = 5 then (1 : Int) else 0) = 0 from rfl, if_pos rfl, pu_b1]
    obtain ⟨x, C2, M2, a1, a2, a3, a4⟩ := ak_13 h hp (d := d) (by omega) (n + 1)
    refine ⟨x, C2, M2, a1, ?_, a3, a4⟩
    rw [← a2]
    rfl
  · obtain ⟨C1, M1, l1, l2, l3, l4⟩ := op_leave h 14
    obtain ⟨x, C2, M2, a1, a2, a3, a4⟩ := ak_13 l3 (p := p) (d := d + 1) (by rw [l4]; exact hp) (by omega) n
    rw [e, show sq_body 5 0 = 14 from rfl, if_pos rfl, if_neg (by omega), l2, pu_b1, pu_b1, f_X1_given, if_neg (by omega), l1, pu_b1, pu_let, if_neg (by omega), if_neg (by omega), if_neg (by omega), if_neg (by omega), if_pos rfl, pu_w (x := d + 1) (by omega), a1, pu_b2]
    refine ⟨hp_w (x * 2), C2, M2, rfl, ?_, a3, by rw [a4, l4]⟩
    obtain ⟨M3, q1⟩ : ∃ M3, f_X8_began 13 M1 = some M3 := by
      obtain ⟨_, M3, -, q1, -⟩ := op_leave l3 13
      exact ⟨M3, q1⟩
    rw [q1, pu_b1] at a2 ⊢
    cases hz : f_X8_plainSize p M3 with
    | none => rw [hz] at a2; exact absurd a2 (by simp [hp_b2])
    | some y =>
      rw [hz] at a2
      have a2 : some (hp_w (y.1 - 100), y.2) = some (x, M2) := a2
      injection a2 with a2
      injection a2 with a5 a6
      show some (hp_w (2 * hp_w (y.1 - 100)), y.2) = _
      rw [a5, a6, Int.mul_comm]
theorem ak_21 {C M : hp_H} (h : iv C M) {p d : Int} (hp : 0 ≤ p ∧ p < M 4 2) (hd : 0 ≤ d ∧ d ≤ 11) (n : Nat) : ∃ C' M' M1, f_X1_given (n + 2) p 21 d C = some (hp_w (p + sq_place (M 4) p (M 4 3)), C') ∧ f_X8_began 21 M = some M1 ∧ f_X8_began 20 M1 = some M' ∧ f_X8_place 4 p (M' 4 3) M' = some (sq_place (M 4) p (M 4 3)) ∧ iv C' M' ∧ M' 4 = M 4 := by
  obtain ⟨hok, hh⟩ := iv_ok h (by omega)
  have a3 := hok.2.2.2.1
  obtain ⟨C1, M1, l1, l2, l3, l4⟩ := op_leave h 21
  obtain ⟨C2, M2, q1, q2, q3, q4⟩ := op_leave l3 20
  have e4 : M2 4 = M 4 := by rw [q4, l4]
  refine ⟨C2, M2, M1, ?_, l2, q2, ?_, q3, e4⟩
  · rw [f_X1_given, if_neg (by omega), l1, pu_b1, pu_let, if_neg (by omega), if_neg (by omega), if_neg (by omega), if_neg (by omega), if_neg (by omega), if_neg (by omega), if_pos rfl, pu_w (x := d + 1) (by omega), f_X1_given, if_neg (by omega), q1, pu_b1, pu_let, if_neg (by omega), if_neg (by omega), if_neg (by omega), if_neg (by omega), if_neg (by omega), if_pos rfl, pu_b2, to_where q3.1.1 (by rw [e4]; exact hok) hp.1 (by rw [e4]; exact hp.2) (by omega), pu_b1, e4, Int.add_zero]
  · rw [mo_place (by rw [e4]; exact hok) hp.1 (by rw [e4]; exact hp.2) (by rw [e4]; omega), e4]
theorem ak_mark {C M : hp_H} (h : iv C M) {p d : Int} (hp : 0 ≤ p ∧ p < M 4 2) (hd : 0 ≤ d ∧ d ≤ 6) (n : Nat) : ok2 M (f_X1_given (n + 4) p (sq_body (M 4 (17 + 4 * p)) 1) d C) (f_X8_markOf p M) := by
  have hm := iv_m h
  obtain ⟨hok, hh⟩ := iv_ok h (by omega)
  have hk := (hok.2.2.2.2.2.2 p hp.1 hp.2).1
  unfold f_X8_markOf
  rw [mo_of0 (by omega), pu_b1]
  have h1 : M 4 (17 + 4 * p) = 1 ∨ M 4 (17 + 4 * p) = 2 ∨ M 4 (17 + 4 * p) = 3 ∨ M 4 (17 + 4 * p) = 4 ∨ M 4 (17 + 4 * p) = 5 := by omega
  by_cases h4 : M 4 (17 + 4 * p) < 4
  · rw [if_pos h4]
    by_cases e1 : M 4 (17 + 4 * p) = 1
    · obtain ⟨C1, M2, M1, a1, a2, a3, a4, a5, a6⟩ := ak_21 h hp (d := d) (by omega) (n + 2)
      rw [if_pos e1, pu_b1, a2, pu_b1, a3, pu_b1, a4, pu_b1, pu_let, if_pos e1, e1, show sq_body 1 1 = 21 from rfl]
      exact ⟨_, C1, M2, a1, rfl, a5, a6⟩
    · by_cases e3 : M 4 (17 + 4 * p) = 3
      · obtain ⟨C0, M0, l1, l2, l3, l4⟩ := op_leave h 22
        obtain ⟨C1, M2, M1, a1, a2, a3, a4, a5, a6⟩ := ak_21 l3 (p := p) (d := d + 1) (by rw [l4]; exact hp) (by omega) (n + 1)
        rw [l4] at a1 a4
        rw [if_neg e1, if_pos e3, pu_let, l2, pu_b1, pu_b1, a2, pu_b1, a3, pu_b1, a4, pu_b1, pu_let, if_neg e1, if_pos e3, e3, show sq_body 3 1 = 22 from rfl, f_X1_given, if_neg (show ¬ 12 < d by omega), l1, pu_b1, pu_let, pu_w (x := d + 1) (by omega), if_neg (by omega), if_neg (by omega), if_neg (by omega), if_neg (by omega), if_neg (by omega), if_neg (by omega), if_neg (by omega), if_pos rfl, a1, pu_b2]
        exact ⟨_, C1, M2, rfl, rfl, a5, by rw [a6, l4]⟩
      · have e2 : M 4 (17 + 4 * p) = 2 := by omega
        obtain ⟨C0, M0, l1, l2, l3, l4⟩ := op_leave h 24
        obtain ⟨C1, M2, M1, a1, a2, a3, a4, a5, a6⟩ := ak_21 l3 (p := p) (d := d + 1) (by rw [l4]; exact hp) (by omega) (n + 1)
        rw [l4] at a1 a4
        rw [if_neg e1, if_neg e3, pu_let, l2, pu_b1, pu_b1, a2, pu_b1, a3, pu_b1, a4, pu_b1, pu_let, if_neg e1, if_neg e3, e2, show sq_body 2 1 = 24 from rfl, f_X1_given, if_neg (show ¬ 12 < d by omega), l1, pu_b1, pu_let, pu_w (x := d + 1) (by omega), if_neg (by omega), if_neg (by omega), if_neg (by omega), if_neg (by omega), if_neg (by omega), if_neg (by omega), if_neg (by omega), if_neg (by omega), if_neg (by omega), if_pos rfl, a1, pu_b2, Int.mul_comm]
        exact ⟨_, C1, M2, rfl, rfl, a5, by rw [a6, l4]⟩
  · have hb : sq_body (M 4 (17 + 4 * p)) 1 = 23 := by
      rcases h1 with e | e | e | e | e
      · omega
      · omega
      · omega
      · rw [e]; rfl
      · rw [e]; rfl
    obtain ⟨C0, M0, l1, l2, l3, l4⟩ := op_leave h 23
    obtain ⟨C1, M1, q1, q2, q3, q4⟩ := op_leave l3 20
    have e4 : M1 4 = M 4 := by rw [q4, l4]
    obtain ⟨x, C2, M2, a1, a2, a3, a4⟩ := ak_maid q3 (p := p) (d := d + 1 + 1) (by rw [e4]; exact hp) (by omega) (by rw [e4]; omega) n
    have hkd := (iv_kd q3 (p := p) (by rw [e4]; exact hp)).1
    rw [if_neg h4, hb, l2, pu_b1, q2, pu_b1, a2, pu_b2, f_X1_given, if_neg (show ¬ 12 < d by omega), l1, pu_b1, pu_let, pu_w (x := d + 1) (by omega), if_neg (by omega), if_neg (by omega), if_neg (by omega), if_neg (by omega), if_neg (by omega), if_neg (by omega), if_neg (by omega), if_neg (by omega), if_pos rfl, f_X1_given, if_neg (show ¬ 12 < d + 1 by omega), q1, pu_b1, pu_let, if_neg (by omega), if_neg (by omega), if_neg (by omega), if_neg (by omega), if_neg (by omega), if_pos rfl, pu_b2, ak_asked (by omega) (Or.inl rfl) (by rw [e4]; exact hk) hkd (by omega), a1, pu_b2, pu_b2]
    exact ⟨_, C2, M2, rfl, rfl, a3, by rw [a4, e4]⟩
theorem ak_11 {C M : hp_H} (h : iv C M) {p d : Int} (hp : 0 ≤ p ∧ p < M 4 2) (hd : 0 ≤ d ∧ d ≤ 4) (n : Nat) : ok2 M (f_X1_given (n + 5) p 11 d C) (hp_b1 (f_X8_began 11 M) (fun H7 => hp_b2 (f_X8_plainSize p H7) (fun c9 H10 => hp_b2 (f_X8_markOf p H10) (fun c12 H13 => some (hp_w (c9 + c12), H13))))) := by
  have hm := iv_m h
  obtain ⟨hok, hh⟩ := iv_ok h (by omega)
  have hk := (hok.2.2.2.2.2.2 p hp.1 hp.2).1
  obtain ⟨C0, M0, l1, l2, l3, l4⟩ := op_leave h 11
  obtain ⟨x, C1, M1, a1, a2, a3, a4⟩ := ak_10 l3 (p := p) (d := d + 1) (by rw [l4]; exact hp) (by omega) (n + 3)
  have e4 : M1 4 = M 4 := by rw [a4, l4]
  obtain ⟨y, C2, M2, b1, b2, b3, b4⟩ := ak_mark a3 (p := p) (d := d + 1 + 1) (by rw [e4]; exact hp) (by omega) n
  have hkd := (iv_kd a3 (p := p) (by rw [e4]; exact hp)).1
  rw [l2, pu_b1, a2, pu_b2, b2, pu_b2, f_X1_given, if_neg (show ¬ 12 < d by omega), l1, pu_b1, pu_let, pu_w (x := d + 1) (by omega), if_neg (by omega), if_pos rfl, a1, pu_b2, ak_asked (by omega) (Or.inr rfl) (by rw [e4]; exact hk) hkd (by omega), b1, pu_b2, pu_b2]
  exact ⟨_, C2, M2, rfl, rfl, b3, by rw [b4, e4]⟩
theorem ak_size {C M : hp_H} (h : iv C M) {p d : Int} (hp : 0 ≤ p ∧ p < M 4 2) (hd : 0 ≤ d ∧ d ≤ 3) (n : Nat) : ok2 M (f_X1_given (n + 6) p (sq_body (M 4 (17 + 4 * p)) 0) d C) (f_X8_sizeOf p M) := by
  have hm := iv_m h
  obtain ⟨hok, hh⟩ := iv_ok h (by omega)
  have hk := (hok.2.2.2.2.2.2 p hp.1 hp.2).1
  unfold f_X8_sizeOf
  rw [mo_of0 (by omega), pu_b1]
  by_cases h4 : M 4 (17 + 4 * p) < 4
  · rw [if_pos h4]
    by_cases e2 : M 4 (17 + 4 * p) = 2
    · obtain ⟨C0, M0, l1, l2, l3, l4⟩ := op_leave h 12
      obtain ⟨x, C1, M1, a1, a2, a3, a4⟩ := ak_11 l3 (p := p) (d := d + 1) (by rw [l4]; exact hp) (by omega) n
      rw [if_pos e2, l2, pu_b1, pu_b1, e2, show sq_body 2 0 = 12 from rfl, f_X1_given, if_neg (show ¬ 12 < d by omega), l1, pu_b1, pu_let, pu_w (x := d + 1) (by omega), if_neg (by omega), if_neg (by omega), if_pos rfl, a1, pu_b2]
      refine ⟨hp_w (-x), C1, M1, rfl, ?_, a3, by rw [a4, l4]⟩
      revert a2
      cases f_X8_began 11 M0 with
      | none => intro a2; exact absurd a2 (by simp [hp_b1])
      | some H7 =>
        rw [pu_b1, pu_b1]
        cases f_X8_plainSize p H7 with
        | none => intro a2; exact absurd a2 (by simp [hp_b2])
        | some y =>
          obtain ⟨y1, y2⟩ := y
          rw [pu_b2, pu_b2]
          cases f_X8_markOf p y2 with
          | none => intro a2; exact absurd a2 (by simp [hp_b2])
          | some z =>
            obtain ⟨z1, z2⟩ := z
            rw [pu_b2, pu_b2, pu_let, if_pos rfl]
            intro a2
            injection a2 with a2
            injection a2 with a5 a6
            rw [a5, a6]
    · have hb : sq_body (M 4 (17 + 4 * p)) 0 = 11 := by
        have : M 4 (17 + 4 * p) = 1 ∨ M 4 (17 + 4 * p) = 3 := by omega
        rcases this with e | e <;> rw [e] <;> rfl
      obtain ⟨x, C1, M1, a1, a2, a3, a4⟩ := ak_11 h hp (d := d) (by omega) (n + 1)
      rw [if_neg e2, pu_b1, hb]
      refine ⟨x, C1, M1, a1, ?_, a3, a4⟩
      rw [← a2]
      simp only [pu_let, if_neg e2]
  · rw [if_neg h4]
    obtain ⟨x, C1, M1, a1, a2, a3, a4⟩ := ak_maid h hp (d := d) (by omega) (by omega) (n + 3)
    rw [a2, pu_b2]
    exact ⟨x, C1, M1, a1, rfl, a3, a4⟩
theorem op_ask {C M : hp_H} (h : iv C M) (p w : Int) : op2 (f_X7_ask p w C) (f_X8_ask p w M) := by
  have ivq := iv_q h (fc.rf C) (fm_z h.2.1)
  have hm := iv_m h
  unfold f_X7_ask f_X8_ask
  rw [g_person h.1.1, pu_let, m_person (by rw [up4 M (by omega)]; exact hm.1), up4 M (by omega), pu_b1, pu_b1, pu_01, pu_01, g_within, mo_in, pu_b1, pu_b1, pu_01, pu_01]
  by_cases hp : 0 ≤ p ∧ p < M 4 2
  · rw [if_pos hp, if_pos hp]
    by_cases hw : 0 ≤ w ∧ w ≤ 1
    · obtain ⟨hok, hh⟩ := iv_ok h (by omega)
      have hk := (hok.2.2.2.2.2.2 p hp.1 hp.2).1
      have e4 : hp_up (hp_up M 0 0 0) 0 25 0 4 = M 4 := by rw [pu_upa (by omega), pu_upa (by omega)]
      have ivs : iv (hp_up C 227 1 0) (hp_up (hp_up M 0 0 0) 0 25 0) := iv_kf ivq (fun b b1 _ => pu_upa b1) (fun b b1 _ => pu_upa b1) (fun j hj => pu_upj hj) ⟨by rw [pu_ups, pu_ups], by rw [pu_ups]; omega, fun i i0 i1 => by rw [pu_ups] at i1; omega⟩
      have hkd := (iv_kd ivs (p := p) (by rw [e4]; exact hp)).1
      rw [if_pos hw, if_pos hw, pu_let]
      unfold f_X1_put
      have hw2 : w = 0 ∨ w = 1 := by omega
      rw [pu_let, ak_asked (by omega) hw2 (by rw [e4]; exact hk) hkd (by omega)]
      rcases hw2 with rfl | rfl
      · obtain ⟨x, C1, M1, a1, a2, a3, a4⟩ := ak_size ivs (p := p) (d := 0 + 1) (by rw [e4]; exact hp) (by omega) 8
        rw [a1, pu_b2, pu_b2, pu_b2, if_pos rfl, a2, pu_b2]
        exact ⟨x, C1, M1, rfl, rfl, a3⟩
      · obtain ⟨x, C1, M1, a1, a2, a3, a4⟩ := ak_mark ivs (p := p) (d := 0 + 1) (by rw [e4]; exact hp) (by omega) 10
        rw [a1, pu_b2, pu_b2, pu_b2, if_neg (by omega), a2, pu_b2]
        exact ⟨x, C1, M1, rfl, rfl, a3⟩
    · rw [if_neg hw, if_neg hw]
      exact ⟨_, _, _, rfl, rfl, ivq⟩
  · rw [if_neg hp, if_neg hp]
    exact ⟨_, _, _, rfl, rfl, ivq⟩
