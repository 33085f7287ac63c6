/-! a person of the text -/
def rt (C M : hp_H) : Prop := tr C 22 (M 5) ∧ (M 5 3 = 0 ∧ M 5 4 = 0) ∧ (∀ l, 0 ≤ l → l < 4 → M 5 (5 + 3 * l) = 0) ∧ (2 ≤ M 5 0 ∧ M 5 0 ≤ 9) ∧ (4 ≤ M 5 1 ∧ M 5 1 ≤ 24) ∧ (0 ≤ M 5 2 ∧ M 5 2 ≤ 6) ∧ (∀ p, 0 ≤ p → p < M 5 2 → (1 ≤ M 5 (17 + 4 * p) ∧ M 5 (17 + 4 * p) ≤ 5) ∧ (0 ≤ M 5 (18 + 4 * p) ∧ M 5 (18 + 4 * p) < M 5 0) ∧ (0 ≤ M 5 (19 + 4 * p) ∧ M 5 (19 + 4 * p) < M 5 0) ∧ (0 ≤ M 5 (20 + 4 * p) ∧ M 5 (20 + 4 * p) ≤ 23))
theorem rt_fr {C C' M M' : hp_H} (h : rt C M) (hc : ∀ b, 22 ≤ b → b ≤ 28 → C' b = C b) (hm : M' 5 = M 5) : rt C' M' := by
  unfold rt
  rw [hm]
  exact ⟨tr_fr h.1 (fun b b1 b2 => hc b b1 (by omega)), h.2⟩
def rq (C C' M M' : hp_H) : Prop := (∀ b, b ≠ 13 → (b < 22 ∨ 28 < b) → C' b = C b) ∧ C' 13 1 = C 13 1 ∧ (∀ b, b ≠ 0 → b ≠ 5 → M' b = M b) ∧ (∀ j, (j < 12 ∨ 17 < j) → M' 0 j = M 0 j) ∧ (M 0 16 ≠ 0 → M' = M)
theorem rc.q {C C' M M' : hp_H} (h : rc C C' M M') : rq C C' M M' := ⟨fun b b1 _ => h.1 b b1, h.2.1, fun b b0 _ => h.2.2.1 b b0, h.2.2.2.1, h.2.2.2.2⟩
theorem rq.nf {C C' M M' : hp_H} (h : rq C C' M M') (h0 : M' 0 16 = 0) : M 0 16 = 0 := by
  by_cases q : M 0 16 = 0
  · exact q
  · rw [h.2.2.2.2 q] at h0
    exact h0
theorem rq.tr {C C' C2 M M' M2 : hp_H} (h : rq C C' M M') (h2 : rq C' C2 M' M2) : rq C C2 M M2 := ⟨fun b hb b2 => by rw [h2.1 b hb b2, h.1 b hb b2], by rw [h2.2.1, h.2.1], fun b hb b2 => by rw [h2.2.2.1 b hb b2, h.2.2.1 b hb b2], fun j hj => by rw [h2.2.2.2.1 j hj, h.2.2.2.1 j hj], fun q => by
  have e := h.2.2.2.2 q
  rw [h2.2.2.2.2 (by rw [e]; exact q), e]⟩
def rp_c (k : Int) (H3 : hp_H) : Option hp_H := hp_b2 (f_X5_readNumber 0 (hp_w ((H3 22 0) - 1)) H3) (fun c5 H6 => hp_b1 (f_X5_readSign 44 H6) (fun H8 => hp_b2 (f_X5_readNumber 0 (hp_w ((H8 22 0) - 1)) H8) (fun c10 H11 => hp_b1 (f_X5_readSign 44 H11) (fun H13 => hp_b2 (f_X5_readNumber 0 23 H13) (fun c15 H16 => hp_b1 (f_X5_readSign 59 H16) (fun H18 => if (H18 13 3) = 0 then hp_b1 (f_X6_settle 22 k c5 c10 c15 H18) (fun H21 => some H21) else some H18))))))
def rp_s (c2 c8 c13 c18 : Int) (H21 : hp_H) : Option hp_H := hp_let (hp_w (17 + (hp_w (4 * (H21 5 2))))) (fun v5_23 => hp_ck (0 ≤ v5_23 ∧ v5_23 < 41) (hp_let (hp_up H21 5 v5_23 c2) (fun H25 => hp_ck (0 ≤ (hp_w (v5_23 + 1)) ∧ (hp_w (v5_23 + 1)) < 41) (hp_let (hp_up H25 5 (hp_w (v5_23 + 1)) c8) (fun H27 => hp_ck (0 ≤ (hp_w (v5_23 + 2)) ∧ (hp_w (v5_23 + 2)) < 41) (hp_let (hp_up H27 5 (hp_w (v5_23 + 2)) c13) (fun H29 => hp_ck (0 ≤ (hp_w (v5_23 + 3)) ∧ (hp_w (v5_23 + 3)) < 41) (hp_let (hp_up H29 5 (hp_w (v5_23 + 3)) c18) (fun H31 => hp_let (hp_up H31 5 2 (hp_w ((H31 5 2) + 1))) (fun H32 => some H32))))))))))
def rp_m (c2 : Int) (H6 : hp_H) : Option hp_H := hp_b2 (f_X8_number 0 (hp_w ((H6 5 0) - 1)) H6) (fun c8 H9 => hp_b1 (f_X8_mustSign 44 H9) (fun H11 => hp_b2 (f_X8_number 0 (hp_w ((H11 5 0) - 1)) H11) (fun c13 H14 => hp_b1 (f_X8_mustSign 44 H14) (fun H16 => hp_b2 (f_X8_number 0 23 H16) (fun c18 H19 => hp_b1 (f_X8_mustSign 59 H19) (fun H21 => if (H21 0 16) = 0 then rp_s c2 c8 c13 c18 H21 else some H21))))))
theorem rp_c_of (H : hp_H) : f_X5_readPerson H = hp_b2 (f_X5_readSort (H 22 2) H) (fun c2 H3 => rp_c c2 H3) := rfl
theorem rp_m_of (H : hp_H) : f_X8_readPerson H = hp_b1 (f_X8_kindBy (H 0 15) H) (fun c2 => hp_b1 ((if (H 5 2) = 6 then hp_b1 (f_X8_bad 3 H) (fun H35 => some H35) else some H) : Option (hp_H)) (fun H3 => hp_b1 (f_X8_must 1 H3) (fun H6 => rp_m c2 H6))) := rfl
def sq_ps (m : Int → Int) (n k a b c : Int) : Int → Int := fun j => if j = 2 then n + 1 else if j = 20 + 4 * n then c else if j = 19 + 4 * n then b else if j = 18 + 4 * n then a else if j = 17 + 4 * n then k else m j
theorem m_settle {H : hp_H} {k a b c n : Int} (hn : H 5 2 = n) (h0 : 0 ≤ n ∧ n < 6) : ∃ H', rp_s k a b c H = some H' ∧ (∀ b, b ≠ 5 → H' b = H b) ∧ H' 5 = sq_ps (H 5) n k a b c := by
  unfold rp_s
  rw [hn, pu_w (x := 4 * n) (by omega), pu_w (x := 17 + 4 * n) (by omega), pu_let, pu_ck (by omega), pu_let, pu_w (x := 17 + 4 * n + 1) (by omega), pu_ck (by omega), pu_let, pu_w (x := 17 + 4 * n + 2) (by omega), pu_ck (by omega), pu_let, pu_w (x := 17 + 4 * n + 3) (by omega), pu_ck (by omega), pu_let, pu_let, pu_upj (by omega), pu_upj (by omega), pu_upj (by omega), pu_upj (by omega), hn, pu_w (x := n + 1) (by omega)]
  refine ⟨_, rfl, fun b hb => by rw [pu_upa hb, pu_upa hb, pu_upa hb, pu_upa hb, pu_upa hb], ?_⟩
  funext j
  unfold sq_ps
  simp only [pu_up, true_and]
  (repeat' split) <;> first | rfl | omega
theorem c_settle {H : hp_H} {k a b c n : Int} (hn : H 22 2 = n) (h0 : 0 ≤ n ∧ n < 6) : ∃ H', f_X6_settle 22 k a b c H = some H' ∧ (∀ b, (b < 22 ∨ 26 < b) → H' b = H b) ∧ (∀ j, j ≠ 2 → H' 22 j = H 22 j) ∧ H' 22 2 = n + 1 ∧ (∀ p, p ≠ n → H' 23 p = H 23 p ∧ H' 24 p = H 24 p ∧ H' 25 p = H 25 p ∧ H' 26 p = H 26 p) ∧ H' 23 n = k ∧ H' 24 n = a ∧ H' 25 n = b ∧ H' 26 n = c := by
  unfold f_X6_settle
  have e1 : (22 : Int) + 1 = 23 := by omega
  have e2 : (22 : Int) + 2 = 24 := by omega
  have e3 : (22 : Int) + 3 = 25 := by omega
  have e4 : (22 : Int) + 4 = 26 := by omega
  rw [hn, if_pos (by omega), pu_ck h0, e1, e2, e3, e4, pu_let, pu_upa (show (22 : Int) ≠ 23 by omega), hn, pu_ck h0, pu_let, pu_upa (show (22 : Int) ≠ 24 by omega), pu_upa (show (22 : Int) ≠ 23 by omega), hn, pu_ck h0, pu_let, pu_upa (show (22 : Int) ≠ 25 by omega), pu_upa (show (22 : Int) ≠ 24 by omega), pu_upa (show (22 : Int) ≠ 23 by omega), hn, pu_ck h0, pu_let, pu_let, pu_upa (show (22 : Int) ≠ 26 by omega), pu_upa (show (22 : Int) ≠ 25 by omega), pu_upa (show (22 : Int) ≠ 24 by omega), pu_upa (show (22 : Int) ≠ 23 by omega), hn, pu_w (x := n + 1) (by omega)]
  refine ⟨_, rfl, fun b hb => by rw [pu_upa (by omega), pu_upa (by omega), pu_upa (by omega), pu_upa (by omega), pu_upa (by omega)], fun j hj => by rw [pu_upj hj, pu_upa (by omega), pu_upa (by omega), pu_upa (by omega), pu_upa (by omega)], pu_ups _ _ _ _, fun p hp => ⟨?_, ?_, ?_, ?_⟩, ?_, ?_, ?_, ?_⟩
  · rw [pu_upa (by omega), pu_upa (by omega), pu_upa (by omega), pu_upa (by omega), pu_upj hp]
  · rw [pu_upa (by omega), pu_upa (by omega), pu_upa (by omega), pu_upj hp, pu_upa (by omega)]
  · rw [pu_upa (by omega), pu_upa (by omega), pu_upj hp, pu_upa (by omega), pu_upa (by omega)]
  · rw [pu_upa (by omega), pu_upj hp, pu_upa (by omega), pu_upa (by omega), pu_upa (by omega)]
  · rw [pu_upa (by omega), pu_upa (by omega), pu_upa (by omega), pu_upa (by omega), pu_ups]
  · rw [pu_upa (by omega), pu_upa (by omega), pu_upa (by omega), pu_ups]
  · rw [pu_upa (by omega), pu_upa (by omega), pu_ups]
  · rw [pu_upa (by omega), pu_ups]
theorem rt_settle {C C' M M' : hp_H} {k a b c n : Int} (h : rt C M) (hn : M 5 2 = n) (h6 : n < 6) (hk : 1 ≤ k ∧ k ≤ 5) (ha : 0 ≤ a ∧ a < M 5 0) (hb : 0 ≤ b ∧ b < M 5 0) (hc : 0 ≤ c ∧ c ≤ 23)
    (w1 : ∀ b, (b < 22 ∨ 26 < b) → C' b = C b) (w2 : ∀ j, j ≠ 2 → C' 22 j = C 22 j) (w3 : C' 22 2 = n + 1) (w4 : ∀ p, p ≠ n → C' 23 p = C 23 p ∧ C' 24 p = C 24 p ∧ C' 25 p = C 25 p ∧ C' 26 p = C 26 p) (w5 : C' 23 n = k) (w6 : C' 24 n = a) (w7 : C' 25 n = b) (w8 : C' 26 n = c) (hm : M' 5 = sq_ps (M 5) n k a b c) : rt C' M' := by
  obtain ⟨⟨t0, t1, t2, t3, t5, t4, u, v, w⟩, ⟨s3, s4⟩, s5, s0, s1, s2, s6⟩ := h
  have e : ∀ j, j ≠ 2 → (j < 17 + 4 * n ∨ 20 + 4 * n < j) → sq_ps (M 5) n k a b c j = M 5 j := fun j j2 jn => by
    unfold sq_ps
    rw [if_neg j2, if_neg (by omega), if_neg (by omega), if_neg (by omega), if_neg (by omega)]
  have f2 : sq_ps (M 5) n k a b c 2 = n + 1 := if_pos rfl
  have f17 : sq_ps (M 5) n k a b c (17 + 4 * n) = k := by unfold sq_ps; rw [if_neg (by omega), if_neg (by omega), if_neg (by omega), if_neg (by omega), if_pos rfl]
  have f18 : sq_ps (M 5) n k a b c (18 + 4 * n) = a := by unfold sq_ps; rw [if_neg (by omega), if_neg (by omega), if_neg (by omega), if_pos rfl]
  have f19 : sq_ps (M 5) n k a b c (19 + 4 * n) = b := by unfold sq_ps; rw [if_neg (by omega), if_neg (by omega), if_pos rfl]
  have f20 : sq_ps (M 5) n k a b c (20 + 4 * n) = c := by unfold sq_ps; rw [if_neg (by omega), if_pos rfl]
  unfold rt
  rw [hm]
  refine ⟨⟨by rw [e 0 (by omega) (by omega), w2 0 (by omega)]; exact t0, by rw [e 1 (by omega) (by omega), w2 1 (by omega)]; exact t1, by rw [f2, w3], by rw [e 3 (by omega) (by omega), w2 3 (by omega)]; exact t3, by rw [e 4 (by omega) (by omega), w2 5 (by omega)]; exact t5, by rw [w2 4 (by omega)]; exact t4, fun l l0 l4 => ?_, fun l l0 l4 ho => ?_, fun p p0 pm => ?_⟩, ⟨by rw [e 3 (by omega) (by omega)]; exact s3, by rw [e 4 (by omega) (by omega)]; exact s4⟩, fun l l0 l4 => by rw [e _ (by omega) (by omega)]; exact s5 l l0 l4, by rw [e 0 (by omega) (by omega)]; exact s0, by rw [e 1 (by omega) (by omega)]; exact s1, by rw [f2]; omega, fun p p0 pm => ?_⟩
  · rw [e _ (by omega) (by omega), w2 4 (by omega)]
    exact u l l0 l4
  · rw [e _ (by omega) (by omega), s5 l l0 l4] at ho
    omega
  · rw [f2] at pm
    by_cases hp : p = n
    · subst hp
      rw [f17, f18, f19, f20]
      exact ⟨w5, w6, w7, w8⟩
    · obtain ⟨x1, x2, x3, x4⟩ := w4 p hp
      obtain ⟨y1, y2, y3, y4⟩ := w p p0 (by omega)
      rw [e _ (by omega) (by omega), e _ (by omega) (by omega), e _ (by omega) (by omega), e _ (by omega) (by omega)]
      exact ⟨x1.trans y1, x2.trans y2, x3.trans y3, x4.trans y4⟩
  · rw [f2] at pm
    rw [e 0 (by omega) (by omega)]
    by_cases hp : p = n
    · subst hp
      rw [f17, f18, f19, f20]
      exact ⟨hk, ha, hb, hc⟩
    · rw [e _ (by omega) (by omega), e _ (by omega) (by omega), e _ (by omega) (by omega), e _ (by omega) (by omega)]
      exact s6 p p0 (by omega)
/-- what is behind the sort -/
theorem st_rest {B k : Int} {C M : hp_H} (h : rd B C M) (hB : 120 ≤ B ∧ B ≤ 900) (hr : M 0 16 = 0 → rt C M ∧ (1 ≤ k ∧ k ≤ 5) ∧ M 5 2 < 6) : ∃ C' M', rp_c k C = some C' ∧ rp_m k M = some M' ∧ rq C C' M M' ∧ rd (B + 12) C' M' ∧ (M' 0 16 = 0 → M 0 16 = 0 ∧ rt C' M' ∧ M' 5 2 = M 5 2 + 1) := by
  obtain ⟨c1, d1, C1, M1, a1, a2, a3, a4, a5⟩ := st_number (lo := 0) (hi := hp_w (C 22 0 - 1)) (hi' := hp_w (M 5 0 - 1)) h (by omega) (fun h0 => by rw [(hr h0).1.1.1])
  obtain ⟨C2, M2, b1, b2, b3, b4⟩ := st_sign (v := 44) a4 (by omega) (Or.inl rfl)
  have r2 := a3.tr b3
  obtain ⟨c3, d3, C3, M3, e1, e2, e3, e4, e5⟩ := st_number (lo := 0) (hi := hp_w (C2 22 0 - 1)) (hi' := hp_w (M2 5 0 - 1)) b4 (by omega) (fun h0 => by rw [r2.1 22 (by omega), r2.2.2.1 5 (by omega), (hr (r2.nf h0)).1.1.1])
  obtain ⟨C4, M4, g1, g2, g3, g4⟩ := st_sign (v := 44) e4 (by omega) (Or.inl rfl)
  obtain ⟨c5, d5, C5, M5, i1, i2, i3, i4, i5⟩ := st_number (lo := 0) (hi := 23) (hi' := 23) g4 (by omega) (fun _ => rfl)
  obtain ⟨C6, M6, j1, j2, j3, j4⟩ := st_sign (v := 59) i4 (by omega) (Or.inr rfl)
  have r6 := (((r2.tr e3).tr g3).tr i3).tr j3
  unfold rp_c rp_m
  rw [a1, pu_b2, b1, pu_b1, e1, pu_b2, g1, pu_b1, i1, pu_b2, j1, pu_b1, a2, pu_b2, b2, pu_b1, e2, pu_b2, g2, pu_b1, i2, pu_b2, j2, pu_b1, j4.2.2.1]
  have hB6 : rd (B + 12) C6 M6 := by
    rw [show B + 12 = B + 3 + 1 + 3 + 1 + 3 + 1 by omega]
    exact j4
  by_cases hf : M6 0 16 = 0
  · have f5 := j3.nf hf
    have f4 := i3.nf f5
    have f3 := g3.nf f4
    have f2 := e3.nf f3
    have f1 := b3.nf f2
    have f0 := a3.nf f1
    obtain ⟨hrt, hk, h6⟩ := hr f0
    have s0 := hrt.2.2.2.1
    have s2 := hrt.2.2.2.2.2.1
    obtain ⟨x1, x2, x3⟩ := a5 f1
    obtain ⟨y1, y2, y3⟩ := e5 f3
    obtain ⟨z1, z2, z3⟩ := i5 f5
    rw [hrt.1.1, pu_w (by omega)] at x3
    rw [r2.1 22 (by omega), hrt.1.1, pu_w (by omega)] at y3
    have m5 : M6 5 = M 5 := r6.2.2.1 5 (by omega)
    have q22 : C6 22 2 = M 5 2 := by rw [r6.1 22 (by omega)]; exact hrt.1.2.2.1
    obtain ⟨C7, w0, w1, w2, w3, w4, w5, w6, w7, w8⟩ := c_settle (H := C6) (k := k) (a := c1) (b := c3) (c := c5) q22 (by omega)
    obtain ⟨M7, v0, v1, v2⟩ := m_settle (H := M6) (k := k) (a := d1) (b := d3) (c := d5) (n := M 5 2) (by rw [m5]) (by omega)
    rw [if_pos hf, if_pos hf, w0, pu_b1, v0]
    rw [m5, ← x1, ← y1, ← z1] at v2
    have m0 : M7 0 = M6 0 := v1 0 (by omega)
    have m8 : M7 8 = M6 8 := v1 8 (by omega)
    have c13 : C7 13 = C6 13 := w1 13 (by omega)
    have c14 : C7 14 = C6 14 := w1 14 (by omega)
    refine ⟨C7, M7, rfl, rfl, ⟨fun b b1 b2 => by rw [w1 b (by omega), r6.1 b b1], by rw [c13]; exact r6.2.1, fun b b0 b5 => by rw [v1 b b5, r6.2.2.1 b b0], fun j hj => by rw [m0]; exact r6.2.2.2.1 j hj, fun q => absurd f0 q⟩, ?_, fun _ => ⟨f0, ?_, ?_⟩⟩
    · unfold rd iv_p
      rw [m0, m8, c13, c14]
      exact hB6
    · refine rt_settle (C := C6) (M := M6) (k := k) (a := c1) (b := c3) (c := c5) (n := M 5 2) (rt_fr hrt (fun b _ _ => r6.1 b (by omega)) m5) (by rw [m5]) h6 hk (by rw [m5]; omega) (by rw [m5]; omega) ⟨z2, z3⟩ w1 w2 w3 w4 w5 w6 w7 w8 (by rw [m5]; exact v2)
    · rw [v2]
      exact if_pos rfl
  · rw [if_neg hf, if_neg hf]
    exact ⟨C6, M6, rfl, rfl, r6.q, hB6, fun q => absurd q hf⟩
