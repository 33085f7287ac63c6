/-! class and reference: what holds between them -/
def sq_no (m : Int → Int) : Prop := ∀ k, 0 ≤ k → k < 41 → m k = 0
def iv_t (C M : hp_H) : Prop := tr C 15 (M 4) ∧ ((sq_ok (M 4) ∧ M 4 3 ≤ 999) ∨ sq_no (M 4))
def iv_z (M : hp_H) : Prop := ∀ k, (k < 0 ∨ 41 ≤ k) → M 4 k = 0 ∧ M 6 k = 0
def iv_a (C M : hp_H) : Prop := C 29 2 = M 0 9 ∧ (0 ≤ M 0 9 ∧ M 0 9 ≤ 24) ∧ (0 ≤ C 29 1 ∧ C 29 1 < 24) ∧ (∀ i, 0 ≤ i → i < M 0 9 → tr C (31 + 7 * (C 29 1 + i).tmod 24) (fun k => M 7 (41 * i + k)) ∧ sq_ok (fun k => M 7 (41 * i + k)) ∧ M 7 (41 * i + 3) ≤ 999)
def iv_i (C M : hp_H) : Prop := ∀ k, 0 ≤ k → k < 2 → (M 12 k = 0 ∧ C (230 + 7 * k) 0 = 0) ∨ (M 12 k = 1 ∧ tr C (230 + 7 * k) (fun j => M 13 (41 * k + j)) ∧ sq_ok (fun j => M 13 (41 * k + j)) ∧ M 13 (41 * k + 3) ≤ 999)
def iv_r (C M : hp_H) : Prop := ∀ r, 0 ≤ r → r < 8 → C 11 r = M 1 r ∧ (-1 ≤ M 1 r ∧ M 1 r ≤ 2) ∧ (0 ≤ M 1 r → C 12 r = M 2 r) ∧ (0 ≤ M 2 r ∧ M 2 r ≤ 40) ∧ (∀ i, 0 ≤ i → i < 40 → C (3 + r) i = M 3 (40 * r + i))
def iv_p (C M : hp_H) : Prop := C 13 1 = M 0 11 ∧ (0 ≤ M 0 11 ∧ M 0 11 ≤ 120) ∧ (∀ i, 0 ≤ i → i < M 0 11 → C 14 i = M 8 i ∧ 0 ≤ M 8 i ∧ M 8 i ≤ 255)
def iv_s (C M : hp_H) : Prop := C 0 9 = M 0 18 ∧ C 0 10 = M 0 1
def iv_k (C M : hp_H) : Prop := C 227 1 = M 0 25 ∧ (0 ≤ M 0 25 ∧ M 0 25 ≤ 16) ∧ (∀ i, 0 ≤ i → i < M 0 25 → C 228 i = M 14 i)
def iv (C M : hp_H) : Prop := iv_t C M ∧ iv_z M ∧ iv_a C M ∧ iv_i C M ∧ iv_r C M ∧ iv_p C M ∧ iv_s C M ∧ iv_k C M
/-- what the reference's questions change -/
def fm (M M' : hp_H) : Prop := (∀ b, b ≠ 0 → b ≠ 6 → b ≠ 9 → b ≠ 10 → b ≠ 11 → M' b = M b) ∧ (∀ j, j ≠ 0 → M' 0 j = M 0 j) ∧ (∀ k, (k < 0 ∨ 41 ≤ k) → M' 6 k = 0)
theorem iv_q {C C' M M' : hp_H} (h : iv C M) (hc : fc C C') (hm : fm M M') : iv C' M' := by
  obtain ⟨ht, hz, ha, hi, hr, hp, hs, hk⟩ := h
  obtain ⟨m1, m2, m3⟩ := hm
  have e4 := m1 4 (by omega) (by omega) (by omega) (by omega) (by omega)
  refine ⟨⟨?_, ?_⟩, ?_, ?_, ?_, ?_, ?_, ?_, ?_⟩
  · rw [e4]; exact tr_fr ht.1 (fun b b1 b2 => hc b (by omega))
  · rw [e4]; exact ht.2
  · intro k hk; rw [e4]; exact ⟨(hz k hk).1, m3 k hk⟩
  · unfold iv_a
    rw [hc 29 (by omega), m2 9 (by omega), m1 7 (by omega) (by omega) (by omega) (by omega) (by omega)]
    obtain ⟨a1, a2, a3, a4⟩ := ha
    refine ⟨a1, a2, a3, fun i i0 i1 => ?_⟩
    obtain ⟨b1, b2⟩ := a4 i i0 i1
    have hq := sq_tm (h := C 29 1 + i) (d := 24) (by omega) (by omega)
    exact ⟨tr_fr b1 (fun b h1 h2 => hc b (by omega)), b2⟩
  · intro k k0 k1
    rw [m1 12 (by omega) (by omega) (by omega) (by omega) (by omega), m1 13 (by omega) (by omega) (by omega) (by omega) (by omega), hc (230 + 7 * k) (by omega)]
    rcases hi k k0 k1 with h | ⟨h1, h2, h3⟩
    · exact Or.inl h
    · exact Or.inr ⟨h1, tr_fr h2 (fun b g1 g2 => hc b (by omega)), h3⟩
  · intro r r0 r1
    rw [hc 11 (by omega), hc 12 (by omega), hc (3 + r) (by omega), m1 1 (by omega) (by omega) (by omega) (by omega) (by omega), m1 2 (by omega) (by omega) (by omega) (by omega) (by omega), m1 3 (by omega) (by omega) (by omega) (by omega) (by omega)]
    exact hr r r0 r1
  · unfold iv_p
    rw [hc 13 (by omega), hc 14 (by omega), m2 11 (by omega), m1 8 (by omega) (by omega) (by omega) (by omega) (by omega)]
    exact hp
  · unfold iv_s
    rw [hc 0 (by omega), m2 18 (by omega), m2 1 (by omega)]
    exact hs
  · unfold iv_k
    rw [hc 227 (by omega), hc 228 (by omega), m2 25 (by omega), m1 14 (by omega) (by omega) (by omega) (by omega) (by omega)]
    exact hk
theorem fc.rf (H : hp_H) : fc H H := fun _ _ => rfl
theorem fm_z {M : hp_H} (hz : iv_z M) : fm M (hp_up M 0 0 0) := ⟨fun b b0 _ _ _ _ => pu_upa b0, fun j j0 => pu_upj j0, fun k hk => by rw [pu_upa (by omega)]; exact (hz k hk).2⟩
theorem fm.tr {M M' M2 : hp_H} (h : fm M M') (h2 : fm M' M2) : fm M M2 := ⟨fun b b0 b1 b2 b3 b4 => by rw [h2.1 b b0 b1 b2 b3 b4, h.1 b b0 b1 b2 b3 b4], fun j j0 => by rw [h2.2.1 j j0, h.2.1 j j0], h2.2.2⟩
/-- a question: both answer r, and what holds stays -/
def op2 (c : Option (Int × hp_H)) (r : Option (Int × hp_H)) : Prop := ∃ x C' M', c = some (x, C') ∧ r = some (x, M') ∧ iv C' M'
def op1 (C : hp_H) (c : Option Int) (r : Option (Int × hp_H)) : Prop := ∃ x M', c = some x ∧ r = some (x, M') ∧ iv C M'
/-! guards -/
theorem g_within (v lo hi : Int) (H : hp_H) : f_X7_within v lo hi H = some (if lo ≤ v ∧ v ≤ hi then 1 else 0) := by
  unfold f_X7_within
  by_cases h1 : v < lo
  · rw [if_pos h1, if_neg (by omega)]
  · rw [if_neg h1]
    by_cases h2 : hi < v
    · rw [if_pos h2, if_neg (by omega)]
    · rw [if_neg h2, if_pos (by omega)]
theorem g_span (v : Int) (H : hp_H) : f_X7_isSpan v H = some (if 1 ≤ v ∧ v ≤ 99 then 1 else 0) := by
  unfold f_X7_isSpan
  rw [g_within, pu_b1, pu_ck (by split <;> simp)]
theorem g_person {C : hp_H} {m : Int → Int} (ht : tr C 15 m) (v : Int) : f_X7_isPerson v C = some (if 0 ≤ v ∧ v < m 2 then 1 else 0) := by
  unfold f_X7_isPerson
  rw [ht.2.2.1]
  by_cases h1 : v < 0
  · rw [if_pos h1, if_neg (by omega)]
  · rw [if_neg h1]
    by_cases h2 : v < m 2
    · rw [if_pos h2, if_pos (by omega)]
    · rw [if_neg h2, if_neg (by omega)]
theorem g_lane {C : hp_H} {m : Int → Int} (ht : tr C 15 m) (v : Int) : f_X7_isLane v C = some (if 0 ≤ v ∧ v < m 0 then 1 else 0) := by
  unfold f_X7_isLane
  rw [ht.1]
  by_cases h1 : v < 0
  · rw [if_pos h1, if_neg (by omega)]
  · rw [if_neg h1]
    by_cases h2 : v < m 0
    · rw [if_pos h2, if_pos (by omega)]
    · rw [if_neg h2, if_neg (by omega)]
theorem g_stands {C : hp_H} {m : Int → Int} (ht : tr C 15 m) : f_X6_stands 15 C = some (if 0 < m 0 then 1 else 0) := by
  unfold f_X6_stands
  rw [ht.1]
  split <;> rfl
theorem g_letter {C : hp_H} {m : Int → Int} (ht : tr C 15 m) (v : Int) : f_X7_isLetter v C = some (if 0 < m 0 ∧ 0 ≤ v ∧ v ≤ 3 then 1 else 0) := by
  unfold f_X7_isLetter
  rw [g_stands ht, pu_b1, pu_01, g_within, pu_b1, pu_01]
  by_cases h1 : 0 < m 0
  · rw [if_pos h1]
    by_cases h2 : 0 ≤ v ∧ v ≤ 3
    · rw [if_pos h2, if_pos ⟨h1, h2⟩]
    · rw [if_neg h2, if_neg (fun q => h2 q.2)]
  · rw [if_neg h1, if_neg (fun q => h1 q.1)]
theorem g_refusal {C : hp_H} {m : Int → Int} (ht : tr C 15 m) (v : Int) {c : Prop} [Decidable c] : f_X7_refusalOf v (if c then 1 else 0) C = some (if c ∧ 0 < m 0 ∧ 0 ≤ v ∧ v ≤ 3 then (if m (5 + 3 * v) = 1 then 0 else -1000002) else -1000001) := by
  unfold f_X7_refusalOf
  rw [pu_01]
  by_cases h0 : c
  · rw [if_pos h0, g_letter ht, pu_b1, pu_01]
    by_cases h1 : 0 < m 0 ∧ 0 ≤ v ∧ v ≤ 3
    · rw [if_pos h1, if_pos ⟨h0, h1⟩, to_isOut ht (by omega), pu_b1, pu_01]
      split <;> rfl
    · rw [if_neg h1, if_neg (fun q => h1 q.2)]
  · rw [if_neg h0, if_neg (fun q => h0 q.1)]
theorem m_there (M : hp_H) : f_X8_isThere M = some (if 0 < M 4 0 then 1 else 0) := by unfold f_X8_isThere; split <;> rfl
theorem m_person {M : hp_H} (h : 0 ≤ M 4 2 ∧ M 4 2 ≤ 6) (v : Int) : f_X8_isPerson v M = some (if 0 ≤ v ∧ v < M 4 2 then 1 else 0) := by
  unfold f_X8_isPerson
  rw [mo_in, pu_b1, pu_ck (by split <;> simp), pu_w (by omega)]
  congr 1
  by_cases h2 : 0 ≤ v ∧ v < M 4 2
  · rw [if_pos h2, if_pos (by omega)]
  · rw [if_neg h2, if_neg (by omega)]
theorem m_lane {M : hp_H} (h : 0 ≤ M 4 0 ∧ M 4 0 ≤ 9) (v : Int) : f_X8_isLane v M = some (if 0 ≤ v ∧ v < M 4 0 then 1 else 0) := by
  unfold f_X8_isLane
  rw [mo_in, pu_b1, pu_ck (by split <;> simp), pu_w (by omega)]
  congr 1
  by_cases h2 : 0 ≤ v ∧ v < M 4 0
  · rw [if_pos h2, if_pos (by omega)]
  · rw [if_neg h2, if_neg (by omega)]
theorem m_posted (M : hp_H) (v : Int) : f_X8_isPosted v M = some (if 0 < M 4 0 ∧ 0 ≤ v ∧ v ≤ 3 then 1 else 0) := by
  unfold f_X8_isPosted
  rw [m_there, pu_b1, pu_01, mo_in, pu_b1, pu_01]
  by_cases h1 : 0 < M 4 0
  · rw [if_pos h1]
    by_cases h2 : 0 ≤ v ∧ v ≤ 3
    · rw [if_pos h2, if_pos ⟨h1, h2⟩]
    · rw [if_neg h2, if_neg (fun q => h2 q.2)]
  · rw [if_neg h1, if_neg (fun q => h1 q.1)]
/-- a town, or none -/
theorem iv_m {C M : hp_H} (h : iv C M) : (0 ≤ M 4 2 ∧ M 4 2 ≤ 6) ∧ (0 ≤ M 4 0 ∧ M 4 0 ≤ 9) := by
  rcases h.1.2 with ⟨h1, -⟩ | h1
  · have a0 := h1.1
    have a2 := h1.2.2.1
    omega
  · have := h1 0 (by omega) (by omega)
    have := h1 2 (by omega) (by omega)
    omega
theorem iv_ok {C M : hp_H} (h : iv C M) (h0 : 0 < M 4 0 ∨ 0 < M 4 2) : sq_ok (M 4) ∧ M 4 3 ≤ 999 := by
  rcases h.1.2 with h1 | h1
  · exact h1
  · have := h1 0 (by omega) (by omega)
    have := h1 2 (by omega) (by omega)
    omega
theorem up4 (M : hp_H) {b : Int} (hb : b ≠ 0) : hp_up M 0 0 0 b = M b := pu_upa hb
/-! the plain questions -/
theorem op_fault {C M : hp_H} (h : iv C M) : op1 C (f_X7_fault C) (f_X8_fault M) := by
  unfold f_X7_fault f_X8_fault
  rw [pu_let, pu_upj (by omega)]
  exact ⟨_, _, rfl, by rw [h.2.2.2.2.2.2.1.1], iv_q h (fc.rf C) (fm_z h.2.1)⟩
theorem op_status {C M : hp_H} (h : iv C M) : op1 C (f_X7_status C) (f_X8_status M) := by
  unfold f_X7_status f_X8_status
  rw [pu_let, pu_upj (by omega)]
  exact ⟨_, _, rfl, by rw [h.2.2.2.2.2.2.1.2], iv_q h (fc.rf C) (fm_z h.2.1)⟩
theorem op_kind {C M : hp_H} (h : iv C M) (v : Int) : op1 C (f_X7_kind v C) (f_X8_kind v M) := by
  have hm := iv_m h
  unfold f_X7_kind f_X8_kind
  rw [g_person h.1.1, pu_let, m_person (by rw [up4 M (by omega)]; exact hm.1), up4 M (by omega), pu_b1, pu_b1, pu_01, pu_01]
  have ivq := iv_q h (fc.rf C) (fm_z h.2.1)
  by_cases hp : 0 ≤ v ∧ v < M 4 2
  · rw [if_pos hp, if_pos hp, pu_ck (by omega), mo_of0 (by omega), pu_b1, up4 M (by omega)]
    exact ⟨_, _, rfl, by rw [← (h.1.1.2.2.2.2.2.2.2.2 v hp.1 hp.2).1]; rfl, ivq⟩
  · rw [if_neg hp, if_neg hp]
    exact ⟨_, _, rfl, rfl, ivq⟩
theorem op_ahead {C M : hp_H} (h : iv C M) (v n : Int) : op1 C (f_X7_ahead v n C) (f_X8_ahead v n M) := by
  have hm := iv_m h
  unfold f_X7_ahead f_X8_ahead
  rw [g_person h.1.1, pu_let, m_person (by rw [up4 M (by omega)]; exact hm.1), up4 M (by omega), pu_b1, pu_b1, pu_01, pu_01, g_within, mo_in, pu_b1, pu_b1, pu_01, pu_01]
  have ivq := iv_q h (fc.rf C) (fm_z h.2.1)
  by_cases hp : 0 ≤ v ∧ v < M 4 2
  · rw [if_pos hp, if_pos hp]
    by_cases hn : 0 ≤ n ∧ n ≤ 99
    · obtain ⟨hok, hh⟩ := iv_ok h (by omega)
      have a3 := hok.2.2.2.1
      rw [if_pos hn, if_pos hn, to_where h.1.1 hok hp.1 hp.2 (by omega), pu_b1, pu_w (by omega), mo_place (by rw [up4 M (by omega)]; exact hok) hp.1 (by rw [up4 M (by omega)]; exact hp.2) (by omega), up4 M (by omega), pu_b1]
      exact ⟨_, _, rfl, rfl, ivq⟩
    · rw [if_neg hn, if_neg hn]
      exact ⟨_, _, rfl, rfl, ivq⟩
  · rw [if_neg hp, if_neg hp]
    exact ⟨_, _, rfl, rfl, ivq⟩
theorem op_lane {C M : hp_H} (h : iv C M) (v : Int) : op1 C (f_X7_lane v C) (f_X8_lane v M) := by
  have hm := iv_m h
  unfold f_X7_lane f_X8_lane
  rw [g_lane h.1.1, pu_let, m_lane (by rw [up4 M (by omega)]; exact hm.2), up4 M (by omega), pu_b1, pu_b1, pu_01, pu_01]
  have ivq := iv_q h (fc.rf C) (fm_z h.2.1)
  by_cases hp : 0 ≤ v ∧ v < M 4 0
  · obtain ⟨hok, hh⟩ := iv_ok h (by omega)
    have a3 := hok.2.2.2.1
    have key : ∀ (n : Nat) (x p : Int), 0 ≤ p → (M 4 2 - p).toNat < n → f_X8_lane_20 n v x p (hp_up M 0 0 0) = some (sq_ppl (M 4) v (M 4 3) (M 4 2 - p).toNat p x) := by
      intro n
      induction n with
      | zero => intro x p _ h; omega
      | succ n ih =>
        intro x p p0 hn
        rw [f_X8_lane_20, up4 M (by omega)]
        by_cases hp : p < M 4 2
        · rw [if_pos hp, mo_place (by rw [up4 M (by omega)]; exact hok) p0 (by rw [up4 M (by omega)]; exact hp) (by omega), up4 M (by omega), pu_b1, pu_let, pu_let, pu_let, pu_w (by omega), ih _ _ (by omega) (by omega), show (M 4 2 - p).toNat = (M 4 2 - (p + 1)).toNat + 1 by omega]
          rfl
        · rw [if_neg hp, show (M 4 2 - p).toNat = 0 by omega]
          rfl
    rw [if_pos hp, if_pos hp, to_ppl h.1.1 hok, pu_b1, key 1000 0 0 (by omega) (by omega), pu_b1, Int.sub_zero]
    exact ⟨_, _, rfl, rfl, ivq⟩
  · rw [if_neg hp, if_neg hp]
    exact ⟨_, _, rfl, rfl, ivq⟩
theorem op_person {C M : hp_H} (h : iv C M) (v w : Int) : op1 C (f_X7_person v w C) (f_X8_person v w M) := by
  have hm := iv_m h
  unfold f_X7_person f_X8_person
  rw [g_person h.1.1, pu_let, m_person (by rw [up4 M (by omega)]; exact hm.1), up4 M (by omega), pu_b1, pu_b1, pu_01, pu_01, mo_in, pu_b1, pu_01]
  have ivq := iv_q h (fc.rf C) (fm_z h.2.1)
  by_cases hp : 0 ≤ v ∧ v < M 4 2
  · obtain ⟨hok, hh⟩ := iv_ok h (by omega)
    have a3 := hok.2.2.2.1
    have d := h.1.1.2.2.2.2.2.2.2.2 v hp.1 hp.2
    have ep : ∀ x, 0 ≤ x → x ≤ 3000 → f_X8_place 4 v x (hp_up M 0 0 0) = some (sq_place (M 4) v x) := fun x x0 x1 => by rw [mo_place (by rw [up4 M (by omega)]; exact hok) hp.1 (by rw [up4 M (by omega)]; exact hp.2) ⟨x0, x1⟩, up4 M (by omega)]
    rw [if_pos hp, if_pos hp, pu_ck (by omega), pu_ck (by omega), pu_ck (by omega), to_where h.1.1 hok hp.1 hp.2 (by omega), to_where h.1.1 hok hp.1 hp.2 (by omega), to_isHome h.1.1 (by omega), pu_b1, pu_b1, pu_b1, pu_01]
    by_cases hw : 0 ≤ w ∧ w ≤ 5
    · rw [if_pos hw]
      have hc : w = 0 ∨ w = 1 ∨ w = 2 ∨ w = 3 ∨ w = 4 ∨ w = 5 := by omega
      rcases hc with rfl | rfl | rfl | rfl | rfl | rfl
      · refine ⟨_, _, rfl, ?_, ivq⟩
        rw [if_pos (by omega), pu_w (by omega), mo_of (by omega) (by omega), pu_b1, up4 M (by omega), show 17 + 4 * v + (1 + 0) = 18 + 4 * v by omega, ← d.2.1]
        rfl
      · refine ⟨_, _, rfl, ?_, ivq⟩
        rw [if_pos (by omega), pu_w (by omega), mo_of (by omega) (by omega), pu_b1, up4 M (by omega), show 17 + 4 * v + (1 + 1) = 19 + 4 * v by omega, ← d.2.2.1]
        rfl
      · refine ⟨_, _, rfl, ?_, ivq⟩
        rw [if_pos (by omega), pu_w (by omega), mo_of (by omega) (by omega), pu_b1, up4 M (by omega), show 17 + 4 * v + (1 + 2) = 20 + 4 * v by omega, ← d.2.2.2]
        rfl
      · refine ⟨_, _, rfl, ?_, ivq⟩
        rw [if_neg (by omega), if_pos (by omega), pu_w (x := M 4 3 + 3) (by omega), pu_w (by omega), ep _ (by omega) (by omega), pu_b1, show M 4 3 + 3 - 3 = M 4 3 + 0 by omega]
      · refine ⟨_, _, rfl, ?_, ivq⟩
        rw [if_neg (by omega), if_pos (by omega), pu_w (x := M 4 3 + 4) (by omega), pu_w (by omega), ep _ (by omega) (by omega), pu_b1, show M 4 3 + 4 - 3 = M 4 3 + 1 by omega]
      · refine ⟨if bi (M 4 4) v = true then 1 else 0, _, ?_, ?_, ivq⟩
        · show (if bi (M 4 4) v = true then some (1 : Int) else some 0) = _
          split <;> rfl
        · rw [if_neg (by omega), if_neg (by omega), bi_t (by omega)]
    · rw [if_neg hw]
      refine ⟨_, _, ?_, rfl, ivq⟩
      rw [if_neg (by omega), if_neg (by omega), if_neg (by omega), if_neg (by omega), if_neg (by omega), if_neg (by omega)]
  · rw [if_neg hp, if_neg hp]
    exact ⟨_, _, rfl, rfl, ivq⟩
