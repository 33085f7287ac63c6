/-! sorts; the people of the text -/
def kd (x : Int) : Int := if x = 98 then 5 else if x = 99 then 2 else if x = 100 then 3 else if x = 109 then 4 else if x = 119 then 1 else 0
def kc (C : hp_H) : Int := if C 13 2 < C 13 1 then kd (C 14 (C 13 2)) else 0
theorem kd_in (x : Int) : 0 ≤ kd x ∧ kd x ≤ 5 ∧ (kd x ≠ 0 → 97 ≤ x ∧ x ≤ 122) := by
  unfold kd
  (repeat' split) <;> omega
theorem c_kind (v : Int) (H : hp_H) : f_X5_kindOf v H = some (kd v) := by
  unfold f_X5_kindOf kd
  (repeat' split) <;> rfl
theorem m_kind (v : Int) (H : hp_H) : f_X8_kindBy v H = some (if kd v = 0 then -1000000 else kd v) := by
  unfold f_X8_kindBy kd
  (repeat' split) <;> first | rfl | (exfalso; omega)
theorem m_sort (M : hp_H) : f_X8_isSort M = some (if M 0 16 = 0 ∧ M 0 14 = 2 ∧ kd (M 0 15) ≠ 0 then 1 else 0) := by
  unfold f_X8_isSort
  rw [m_kind, pu_b1]
  by_cases c0 : M 0 16 = 0
  · by_cases c1 : M 0 14 = 2
    · by_cases c2 : kd (M 0 15) = 0
      · rw [if_pos c0, if_pos c1, if_pos c2, if_pos rfl, if_neg (fun q => q.2.2 c2)]
      · have := kd_in (M 0 15)
        rw [if_pos c0, if_pos c1, if_neg c2, if_neg (by omega), if_pos ⟨c0, c1, c2⟩]
    · rw [if_pos c0, if_neg c1, if_neg (fun q => c1 q.2.1)]
  · rw [if_neg c0, if_neg (fun q => c0 q.1)]
/-- whether a sort stands there, as both see it -/
theorem ks {B : Int} {C M : hp_H} (h : rd B C M) (h0 : M 0 16 = 0) : (M 0 14 = 2 ∧ kd (M 0 15) ≠ 0 ↔ kc C ≠ 0) ∧ (kc C ≠ 0 → kd (M 0 15) = kc C ∧ M 0 12 = C 13 2 + 1 ∧ C 13 2 + 1 ≤ M 0 11) ∧ (M 0 14 = 1 ↔ ¬ C 13 2 < M 0 11) := by
  obtain ⟨p1, p2, p3⟩ := h.1
  obtain ⟨g1, g2, g3⟩ := h.2.2.2.2.1 h0
  have ha := h.2.1
  unfold kc
  rw [p1]
  have t1 : M 0 14 = 1 ↔ ¬ C 13 2 < M 0 11 := by
    unfold tk dg at g3
    constructor
    · intro q; rcases g3 with g | g | g | g | g | g | g <;> omega
    · intro q; rcases g3 with g | g | g | g | g | g | g <;> omega
  by_cases hl : C 13 2 < M 0 11
  · rw [if_pos hl, (p3 _ ha.1 hl).1]
    have k1 := kd_in (M 8 (C 13 2))
    refine ⟨⟨fun q => ?_, fun q => ?_⟩, fun q => ?_, t1⟩
    · obtain ⟨q1, q2⟩ := q
      have k2 := kd_in (M 0 15)
      have := (tk_let (v := M 0 15) g3 (k2.2.2 q2)).1 ⟨q1, rfl⟩
      rw [this.2.1]
      exact q2
    · have := (tk_let (v := M 8 (C 13 2)) g3 (k1.2.2 q)).2 ⟨hl, rfl⟩
      exact ⟨this.1, by rw [this.2]; exact q⟩
    · have := (tk_let (v := M 8 (C 13 2)) g3 (k1.2.2 q)).2 ⟨hl, rfl⟩
      have w := (tk_let (v := M 8 (C 13 2)) g3 (k1.2.2 q)).1 this
      exact ⟨by rw [this.2], w.2.2, by omega⟩
  · rw [if_neg hl]
    refine ⟨⟨fun q => ?_, fun q => absurd rfl q⟩, fun q => absurd rfl q, t1⟩
    have k2 := kd_in (M 0 15)
    have := (tk_let (v := M 0 15) g3 (k2.2.2 q.2)).1 ⟨q.1, rfl⟩
    exact absurd this.1 hl
theorem c_sort0 {B n : Int} {C M : hp_H} (h : rd B C M) : f_X5_readSort n C = hp_b1 ((if kc C = 0 then hp_b1 (f_X5_failAt 1 (C 13 2) C) (fun H8 => some H8) else if n < 6 then some C else hp_b1 (f_X5_failAt 3 (C 13 2) C) (fun H11 => some H11)) : Option (hp_H)) (fun H3 => hp_let (hp_up H3 13 2 (hp_w ((H3 13 2) + 1))) (fun H5 => some (kc C, H5))) := by
  obtain ⟨p1, p2, p3⟩ := h.1
  have ha := h.2.1
  have e : ∀ k, f_X5_fail k C = f_X5_failAt k (C 13 2) C := fun k => by
    unfold f_X5_fail
    cases f_X5_failAt k (C 13 2) C <;> rfl
  unfold f_X5_readSort kc
  rw [e, e]
  by_cases hl : C 13 2 < C 13 1
  · rw [if_pos hl, pu_ck (by omega), c_kind, pu_b1, pu_b1, if_pos hl]
  · rw [if_neg hl, pu_b1, if_neg hl]
theorem st_sortF {B n : Int} {C M : hp_H} (h : rd B C M) (hB : 120 ≤ B ∧ B ≤ 1000) (hf : M 0 16 ≠ 0) : ∃ C', f_X5_readSort n C = some (kc C, C') ∧ rc C C' M M ∧ rd (B + 1) C' M := by
  have ha := h.2.1
  rw [c_sort0 h]
  unfold f_X5_failAt
  rw [h.2.2.1]
  simp only [if_neg hf, pu_b1, ite_self, pu_let]
  rw [pu_w (by omega)]
  obtain ⟨u1, u2⟩ := rd_fault (C' := hp_up C 13 2 (C 13 2 + 1)) (B' := B + 1) h hf (fun b hb => pu_upa hb) (pu_upj (by omega)) (by rw [pu_ups]; omega) (pu_upj (by omega)) (pu_upj (by omega))
  exact ⟨_, rfl, u1, u2⟩
theorem st_sortB {B k : Int} {C M : hp_H} (h : rd B C M) (hB : 120 ≤ B ∧ B ≤ 1000) (h0 : M 0 16 = 0) (hk : 0 < k) : ∃ M', f_X8_bad k M = some M' ∧ rc C (hp_up (hp_up (hp_up C 13 3 k) 13 4 (C 13 2)) 13 2 (C 13 2 + 1)) M M' ∧ rd (B + 1) (hp_up (hp_up (hp_up C 13 3 k) 13 4 (C 13 2)) 13 2 (C 13 2 + 1)) M' ∧ M' 0 16 = k ∧ M' 0 16 ≠ 0 := by
  have ha := h.2.1
  exact rd_bad (k := k) (B' := B + 1) h h0 hk (fun b hb => by rw [pu_upa hb, pu_upa hb, pu_upa hb]) (by rw [pu_upj (by omega), pu_upj (by omega), pu_upj (by omega)]) (by rw [pu_ups]; omega) (by rw [pu_upj (by omega), pu_upj (by omega), pu_ups]) (by rw [pu_upj (by omega), pu_ups])
theorem st_sortZ {B n : Int} {C M : hp_H} (h : rd B C M) (hB : 120 ≤ B ∧ B ≤ 1000) (h0 : M 0 16 = 0) (hk : kc C = 0) : ∃ C' M', f_X5_readSort n C = some (kc C, C') ∧ f_X8_bad 1 M = some M' ∧ rc C C' M M' ∧ rd (B + 1) C' M' ∧ M' 0 16 = 1 ∧ M' 0 16 ≠ 0 := by
  have ha := h.2.1
  rw [c_sort0 h]
  unfold f_X5_failAt
  rw [h.2.2.1, if_pos hk, if_pos h0, pu_let, pu_let, pu_b1, pu_b1, pu_let, pu_upj (show (2 : Int) ≠ 4 by omega), pu_upj (show (2 : Int) ≠ 3 by omega), pu_w (by omega)]
  obtain ⟨M', u1, u2, u3, u4, u5⟩ := st_sortB (k := 1) h hB h0 (by omega)
  exact ⟨_, M', rfl, u1, u2, u3, u4, u5⟩
theorem st_sort6 {B n : Int} {C M : hp_H} (h : rd B C M) (hB : 120 ≤ B ∧ B ≤ 1000) (h0 : M 0 16 = 0) (hk : kc C ≠ 0) (hn : ¬ n < 6) : ∃ C' M', f_X5_readSort n C = some (kc C, C') ∧ f_X8_bad 3 M = some M' ∧ rc C C' M M' ∧ rd (B + 1) C' M' ∧ M' 0 16 = 3 ∧ M' 0 16 ≠ 0 := by
  have ha := h.2.1
  rw [c_sort0 h]
  unfold f_X5_failAt
  rw [h.2.2.1, if_neg hk, if_neg hn, if_pos h0, pu_let, pu_let, pu_b1, pu_b1, pu_let, pu_upj (show (2 : Int) ≠ 4 by omega), pu_upj (show (2 : Int) ≠ 3 by omega), pu_w (by omega)]
  obtain ⟨M', u1, u2, u3, u4, u5⟩ := st_sortB (k := 3) h hB h0 (by omega)
  exact ⟨_, M', rfl, u1, u2, u3, u4, u5⟩
theorem st_sortK {B n : Int} {C M : hp_H} (h : rd B C M) (hB : 120 ≤ B ∧ B ≤ 1000) (h0 : M 0 16 = 0) (hk : kc C ≠ 0) (hn : n < 6) : ∃ C' M', f_X5_readSort n C = some (kc C, C') ∧ f_X8_must 1 M = some M' ∧ rc C C' M M' ∧ rd (B + 1) C' M' ∧ M' 0 16 = 0 := by
  have ha := h.2.1
  obtain ⟨-, k2, -⟩ := ks h h0
  obtain ⟨k3, k4, k5⟩ := k2 hk
  rw [c_sort0 h, if_neg hk, if_pos hn, pu_b1, pu_let, pu_w (by omega)]
  obtain ⟨M', u1, u2, u3, u4⟩ := rd_acc (C' := hp_up C 13 2 (C 13 2 + 1)) (d := 1) (B' := B + 1) h h0 (by omega) k4 k5 (by omega) (fun b hb => pu_upa hb) (pu_upj (by omega)) (pu_ups _ _ _ _) (pu_upj (by omega))
  exact ⟨_, M', rfl, u1, u2, u3, u4⟩
theorem bad_f {k : Int} {M : hp_H} (hf : M 0 16 ≠ 0) : f_X8_bad k M = some M := by
  unfold f_X8_bad
  rw [if_neg hf]
/-- no sort stands there, or there was a fault -/
theorem sp_bad {B : Int} {C M : hp_H} (h : rd B C M) (hB : 120 ≤ B ∧ B ≤ 880) (hk : M 0 16 = 0 → kc C = 0) : ∃ C' M', f_X5_readPerson C = some C' ∧ f_X8_bad 1 M = some M' ∧ rq C C' M M' ∧ rd (B + 13) C' M' ∧ M' 0 16 ≠ 0 ∧ (M 0 16 = 0 → M' 0 16 = 1) ∧ (∀ b, b ≠ 0 → M' b = M b) := by
  rw [rp_c_of]
  have e13 : B + 13 = B + 1 + 12 := by omega
  by_cases hf : M 0 16 = 0
  · obtain ⟨C1, M1, u1, u2, u3, u4, u5, u6⟩ := st_sortZ (n := C 22 2) h (by omega) hf (hk hf)
    obtain ⟨C2, M2, v1, v2, v3, v4, v5⟩ := st_rest (k := kc C) u4 (by omega) (fun q => absurd q u6)
    have e : M2 = M1 := v3.2.2.2.2 u6
    rw [u1, pu_b2, v1]
    subst e
    exact ⟨C2, M2, rfl, u2, u3.q.tr v3, by rw [e13]; exact v4, u6, fun _ => u5, u3.2.2.1⟩
  · obtain ⟨C1, u1, u3, u4⟩ := st_sortF (n := C 22 2) h (by omega) hf
    obtain ⟨C2, M2, v1, v2, v3, v4, v5⟩ := st_rest (k := kc C) u4 (by omega) (fun q => absurd q hf)
    have e : M2 = M := v3.2.2.2.2 hf
    rw [u1, pu_b2, v1]
    subst e
    exact ⟨C2, M2, rfl, bad_f hf, u3.q.tr v3, by rw [e13]; exact v4, hf, fun q => absurd q hf, fun _ _ => rfl⟩
/-- a sort stands there -/
theorem sp_ok {B : Int} {C M : hp_H} (h : rd B C M) (hB : 120 ≤ B ∧ B ≤ 880) (h0 : M 0 16 = 0) (hk : kc C ≠ 0) (hr : rt C M) : ∃ C' M', f_X5_readPerson C = some C' ∧ f_X8_readPerson M = some M' ∧ rq C C' M M' ∧ rd (B + 13) C' M' ∧ (M' 0 16 = 0 → M 5 2 < 6 ∧ rt C' M' ∧ M' 5 2 = M 5 2 + 1) := by
  rw [rp_c_of, rp_m_of]
  have e13 : B + 13 = B + 1 + 12 := by omega
  obtain ⟨-, k2, -⟩ := ks h h0
  obtain ⟨k3, k4, k5⟩ := k2 hk
  have hkd := kd_in (M 0 15)
  have s2 := hr.2.2.2.2.2.1
  rw [m_kind, pu_b1, if_neg (show ¬ kd (M 0 15) = 0 by rw [k3]; exact hk), k3]
  rw [k3] at hkd
  have c2 : C 22 2 = M 5 2 := hr.1.2.2.1
  by_cases h6 : M 5 2 = 6
  · obtain ⟨C1, M1, u1, u2, u3, u4, u5, u6⟩ := st_sort6 (n := C 22 2) h (by omega) h0 hk (by omega)
    obtain ⟨C2, M2, v1, v2, v3, v4, v5⟩ := st_rest (k := kc C) u4 (by omega) (fun q => absurd q u6)
    have e : M2 = M1 := v3.2.2.2.2 u6
    rw [u1, pu_b2, v1, if_pos h6, u2, pu_b1, pu_b1, mu_f u6, pu_b1, v2]
    exact ⟨C2, M2, rfl, rfl, u3.q.tr v3, by rw [e13]; exact v4, fun q => by rw [e] at q; exact absurd q u6⟩
  · obtain ⟨C1, M1, u1, u2, u3, u4, u5⟩ := st_sortK (n := C 22 2) h (by omega) h0 hk (by omega)
    have m5 : M1 5 = M 5 := u3.2.2.1 5 (by omega)
    obtain ⟨C2, M2, v1, v2, v3, v4, v5⟩ := st_rest (k := kc C) u4 (by omega) (fun _ => ⟨rt_fr hr (fun b _ _ => u3.1 b (by omega)) m5, by omega, by rw [m5]; omega⟩)
    rw [u1, pu_b2, v1, if_neg h6, pu_b1, u2, pu_b1, v2]
    rw [m5] at v5
    exact ⟨C2, M2, rfl, rfl, u3.q.tr v3, by rw [e13]; exact v4, fun q => ⟨by omega, (v5 q).2⟩⟩
/-- where both are behind all people -/
def en (C M : hp_H) : Prop := (C 13 3 = 0 ∧ M 0 16 = 0 ∧ M 0 14 = 1 ∧ rt C M ∧ 1 ≤ M 5 2) ∨ (M 0 16 ≠ 0 ∧ 0 < M 0 16 ∧ C 13 3 = M 0 16 ∧ C 13 4 = M 0 17) ∨ (M 0 16 = 0 ∧ M 0 14 ≠ 1 ∧ C 13 3 = 1 ∧ C 13 4 = M 0 13)
def rz (C C' M M' : hp_H) : Prop := (∀ b, b ≠ 13 → (b < 22 ∨ 28 < b) → C' b = C b) ∧ (∀ b, b ≠ 0 → b ≠ 5 → M' b = M b) ∧ (∀ j, (j < 12 ∨ 17 < j) → M' 0 j = M 0 j)
theorem rq.z {C C' M M' : hp_H} (h : rq C C' M M') : rz C C' M M' := ⟨h.1, h.2.2.1, h.2.2.2.1⟩
theorem rz.tr {C C' C2 M M' M2 : hp_H} (h : rz C C' M M') (h2 : rz C' C2 M' M2) : rz C C2 M M2 := ⟨fun b hb b2 => by rw [h2.1 b hb b2, h.1 b hb b2], fun b hb b2 => by rw [h2.2.1 b hb b2, h.2.1 b hb b2], fun j hj => by rw [h2.2.2 j hj, h.2.2 j hj]⟩
theorem rz.rf (C M : hp_H) : rz C C M M := ⟨fun _ _ _ => rfl, fun _ _ _ => rfl, fun _ _ => rfl⟩
theorem rd_dn {B : Int} {C M : hp_H} (h : rd B C M) (h0 : M 0 16 = 0) : rd 120 C M := ⟨h.1, ⟨h.2.1.1, by have := (h.2.2.2.2.1 h0).2.1; have := h.1.2.1; omega⟩, h.2.2⟩
/-- the loops over people -/
theorem pp_lp : ∀ (n : Nat) (p : Int) (q q' : Nat) (B : Int) (C M : hp_H), n = (7 - p).toNat → n < q → n < q' → 1 ≤ p → p ≤ 7 → rd B C M → (M 0 16 = 0 → rt C M ∧ M 5 2 = p ∧ p ≤ 6) → ∃ C' M', f_X5_read_61 q p C = some C' ∧ f_X8_town_90 q' M = some M' ∧ rz C C' M M' ∧ en C' M' := by
  intro n
  induction n with
  | zero =>
    intro p q q' B C M hn hq hq' p1 p7 h hr
    obtain ⟨q, rfl⟩ : ∃ k, q = k + 1 := ⟨q - 1, by omega⟩
    obtain ⟨q', rfl⟩ : ∃ k, q' = k + 1 := ⟨q' - 1, by omega⟩
    have hf : M 0 16 ≠ 0 := fun z => by have := (hr z).2.2; omega
    have h0 := h.2.2.2.1
    rw [f_X5_read_61, f_X8_town_90, if_pos (by omega), m_sort, pu_b1, pu_01, if_neg (fun z => hf z.1)]
    exact ⟨C, M, rfl, rfl, rz.rf C M, Or.inr (Or.inl ⟨hf, by omega, h.2.2.1, h.2.2.2.2.2 hf⟩)⟩
  | succ n ih =>
    intro p q q' B C M hn hq hq' p1 p7 h hr
    obtain ⟨q, rfl⟩ : ∃ k, q = k + 1 := ⟨q - 1, by omega⟩
    obtain ⟨q', rfl⟩ : ∃ k, q' = k + 1 := ⟨q' - 1, by omega⟩
    have h0 := h.2.2.2.1
    rw [f_X5_read_61, f_X8_town_90, if_neg (by omega), m_sort, pu_b1, pu_01, h.2.2.1, h.1.1]
    by_cases hf : M 0 16 = 0
    · obtain ⟨hrt, hp, hp6⟩ := hr hf
      obtain ⟨k1, k2, k3⟩ := ks h hf
      have hd := rd_dn h hf
      rw [if_pos hf]
      by_cases hl : C 13 2 < M 0 11
      · rw [if_pos hl]
        by_cases hk : kc C = 0
        · obtain ⟨C2, M2, u1, u2, u3, u4, u5, u6, u7⟩ := sp_bad hd (by omega) (fun _ => hk)
          have hns : ¬ (M 0 16 = 0 ∧ M 0 14 = 2 ∧ kd (M 0 15) ≠ 0) := fun z => (k1.mp z.2) hk
          obtain ⟨q, rfl⟩ : ∃ k, q = k + 1 := ⟨q - 1, by omega⟩
          have c3 : C2 13 3 = 1 := by rw [u4.2.2.1]; exact u6 hf
          have c4 : C2 13 4 = M 0 13 := by
            rw [u4.2.2.2.2.2 u5]
            unfold f_X8_bad at u2
            rw [if_pos hf, pu_let, pu_let, pu_upj (show (13 : Int) ≠ 16 by omega)] at u2
            have e := Option.some.inj u2
            rw [← e, pu_ups]
          rw [u1, pu_b1, pu_let, if_neg hns, pu_w (by omega), f_X5_read_61]
          have fin : ∃ C' M', (if 6 < p + 1 then some C2 else if C2 13 3 = 0 then if C2 13 2 < C2 13 1 then hp_b1 (f_X5_readPerson C2) (fun H25 => hp_let (hp_w (p + 1 + 1)) (fun v2_26 => f_X5_read_61 q v2_26 H25)) else some C2 else some C2) = some C' ∧ some M = some M' ∧ rz C C' M M' ∧ en C' M' := by
            refine ⟨C2, M, ?_, rfl, ⟨u3.1, fun _ _ _ => rfl, fun _ _ => rfl⟩, Or.inr (Or.inr ⟨hf, fun z => (k3.mp z) hl, c3, c4⟩)⟩
            rw [if_neg (show ¬ C2 13 3 = 0 by omega), ite_self]
          exact fin
        · obtain ⟨C2, M2, u1, u2, u3, u4, u5⟩ := sp_ok hd (by omega) hf hk hrt
          have hs : M 0 16 = 0 ∧ M 0 14 = 2 ∧ kd (M 0 15) ≠ 0 := ⟨hf, k1.mpr hk⟩
          obtain ⟨C3, M3, v1, v2, v3, v4⟩ := ih (p + 1) q q' (120 + 13) C2 M2 (by omega) (by omega) (by omega) (by omega) (by omega) u4 (fun z => ⟨(u5 z).2.1, by rw [(u5 z).2.2, hp], by have := (u5 z).1; omega⟩)
          rw [u1, pu_b1, pu_let, pu_w (by omega), v1, if_pos hs, u2, pu_b1, v2]
          exact ⟨C3, M3, rfl, rfl, u3.z.tr v3, v4⟩
      · have t1 : M 0 14 = 1 := k3.mpr hl
        rw [if_neg hl, if_neg (fun z => by have := z.2.1; omega)]
        exact ⟨C, M, rfl, rfl, rz.rf C M, Or.inl ⟨by rw [h.2.2.1]; exact hf, hf, t1, hrt, by omega⟩⟩
    · rw [if_neg hf, if_neg (fun z => hf z.1)]
      exact ⟨C, M, rfl, rfl, rz.rf C M, Or.inr (Or.inl ⟨hf, by omega, h.2.2.1, h.2.2.2.2.2 hf⟩)⟩
