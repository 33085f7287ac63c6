/-- a row whose letter l is called back -/
def sq_cb (m : Int → Int) (l : Int) : Int → Int := fun k => if 5 + 3 * l ≤ k ∧ k < 8 + 3 * l then 0 else m k
theorem sq_cb_ok {m : Int → Int} (hm : sq_ok m) {l : Int} (hl : 0 ≤ l ∧ l < 4) : sq_ok (sq_cb m l) := by
  have e : ∀ k, ¬ (5 + 3 * l ≤ k ∧ k < 8 + 3 * l) → sq_cb m l k = m k := fun k hk => if_neg hk
  obtain ⟨a0, a1, a2, a3, a4, a5, a6⟩ := hm
  refine ⟨by rw [e 0 (by omega)]; exact a0, by rw [e 1 (by omega)]; exact a1, by rw [e 2 (by omega)]; exact a2, by rw [e 3 (by omega)]; exact a3, by rw [e 4 (by omega)]; exact a4, fun j j0 j4 => ?_, fun q q0 qm => ?_⟩
  · by_cases hj : j = l
    · subst hj
      have z : sq_cb m j (5 + 3 * j) = 0 := if_pos (by omega)
      rw [z]
      exact ⟨Or.inl rfl, fun q => by omega⟩
    · rw [e _ (by omega), e _ (by omega), e _ (by omega), e _ (by omega)]
      exact a5 j j0 j4
  · rw [e _ (by omega)] at qm
    rw [e (17 + 4 * q) (by omega), e (18 + 4 * q) (by omega), e (19 + 4 * q) (by omega), e (20 + 4 * q) (by omega), e 0 (by omega)]
    exact a6 q q0 qm
theorem hp_an16 : ∀ x : Fin 16, ∀ y : Fin 4, 0 ≤ hp_and (x.val : Int) (hp_xor (hp_shl 1 (y.val : Int)) (-1)) ∧ hp_and (x.val : Int) (hp_xor (hp_shl 1 (y.val : Int)) (-1)) < 16 := by decide +kernel
theorem tr_cb {H : hp_H} {t l : Int} {m : Int → Int} (h : tr H t m) (hl : 0 ≤ l ∧ l < 4) (hm2 : m 2 ≤ 6) : tr (hp_up H t 4 (hp_and (H t 4) (hp_xor (hp_shl 1 l) (-1)))) t (sq_cb m l) := by
  obtain ⟨a0, a1, a2, a3, a5, a4, b, c, d⟩ := h
  have e : ∀ k, ¬ (5 + 3 * l ≤ k ∧ k < 8 + 3 * l) → sq_cb m l k = m k := fun k hk => if_neg hk
  refine ⟨by rw [e 0 (by omega), pu_upj (by omega)]; exact a0, by rw [e 1 (by omega), pu_upj (by omega)]; exact a1, by rw [e 2 (by omega), pu_upj (by omega)]; exact a2, by rw [e 3 (by omega), pu_upj (by omega)]; exact a3, by rw [e 4 (by omega), pu_upj (by omega)]; exact a5, ?_, fun j j0 j4 => ?_, fun j j0 j4 ho => ?_, fun p p0 pm => ?_⟩
  · rw [pu_ups]
    have := hp_an16 ⟨(H t 4).toNat, by omega⟩ ⟨l.toNat, by omega⟩
    simp only [hp_tn a4.1, hp_tn hl.1] at this
    exact this
  · rw [pu_ups, bi_and, bi_not (by omega), bi_sh1 (by omega) (by omega)]
    by_cases hj : j = l
    · subst hj
      have z : sq_cb m j (5 + 3 * j) = 0 := if_pos (by omega)
      rw [z]
      simp
    · rw [e _ (by omega)]
      simp [hj]
      exact b j j0 j4
  · by_cases hj : j = l
    · subst hj
      have z : sq_cb m j (5 + 3 * j) = 0 := if_pos (by omega)
      rw [z] at ho
      omega
    · rw [e _ (by omega)] at ho
      rw [e _ (by omega), e _ (by omega), pu_upa (by omega), pu_upa (by omega)]
      exact c j j0 j4 ho
  · rw [e _ (by omega)] at pm
    rw [e _ (by omega), e _ (by omega), e _ (by omega), e _ (by omega), pu_upa (by omega), pu_upa (by omega), pu_upa (by omega), pu_upa (by omega)]
    exact d p p0 pm
theorem m_cb_46 {l x : Int} (hl : 0 ≤ l ∧ l < 4) (H : hp_H) : f_X8_callBack_46 1000 l x 0 H = some (hp_fill H 4 (5 + 3 * l) 0 3 (fun _ => 0)) := by
  refine lp_fill (F := fun q k H => f_X8_callBack_46 q l x k H) (src := fun _ _ => 0) ?_ (fun H k j x => rfl) 1000 0 H (by omega) (by omega) (by omega)
  intro q k H h0 hN
  show f_X8_callBack_46 (q + 1) l x k H = _
  rw [f_X8_callBack_46]
  by_cases hk : k < 3
  · rw [if_pos hk, if_pos hk, pu_w (x := 3 * l) (by omega), pu_w (x := 5 + 3 * l) (by omega), pu_w (x := 5 + 3 * l + k) (by omega), pu_ck (by omega), pu_let, pu_let, pu_w (by omega)]
  · rw [if_neg hk, if_neg hk]
theorem op_callBack {C M : hp_H} (h : iv C M) (l : Int) : op2 (f_X7_callBack l C) (f_X8_callBack l M) := by
  have ivq := iv_q h (fc.rf C) (fm_z h.2.1)
  unfold f_X7_callBack f_X8_callBack
  rw [pu_let (hp_up M 0 0 0)]
  generalize hp_up M 0 0 0 = N at ivq ⊢
  have gr := g_refusal ivq.1.1 l (c := True)
  rw [if_pos trivial] at gr
  rw [gr, pu_b1, m_posted, pu_b1, pu_01]
  by_cases hl : 0 < N 4 0 ∧ 0 ≤ l ∧ l ≤ 3
  · have hg : True ∧ 0 < N 4 0 ∧ 0 ≤ l ∧ l ≤ 3 := ⟨trivial, hl⟩
    have hl4 : 0 ≤ l ∧ l < 4 := by omega
    rw [if_pos hl, mo_isOut hl4, pu_b1, pu_01]
    by_cases ho : N 4 (5 + 3 * l) = 1
    · obtain ⟨hok, hh⟩ := iv_ok ivq (by omega)
      have a2 := hok.2.2.1
      obtain ⟨C', N', k1, k2, k3, k4, k5⟩ := ke_keep ivq hok hh
      have e4 := k5 4 (by omega) (by omega)
      have t1 : tr C' 15 (N 4) := by rw [← e4]; exact k3.1.1
      have d5 : C' 20 l = N 4 (6 + 3 * l) := (t1.2.2.2.2.2.2.2.1 l hl4.1 hl4.2 ho).1
      rw [g3a hg ho, if_pos rfl, k1, pu_b1, pu_let, pu_ck hl4, pu_upa (show (20 : Int) ≠ 15 by omega), d5, if_pos ho, k2, pu_b1, mo_its1 hl4, pu_b1, m_cb_46 hl4, pu_b1, e4]
      have em : hp_fill N' 4 (5 + 3 * l) 0 3 (fun _ => 0) 4 = sq_cb (N 4) l := by
        funext k
        unfold sq_cb
        by_cases hk : 5 + 3 * l ≤ k ∧ k < 8 + 3 * l
        · rw [if_pos hk, fi_in (by omega)]
        · rw [if_neg hk, fi_out (by omega), e4]
      refine ⟨_, _, _, rfl, rfl, iv_tn k3 (fun b hb => pu_upa (by omega)) (fun b b4 _ _ => fi_ne b4) ?_ ?_ ?_ ?_⟩
      · rw [em]; exact tr_cb t1 hl4 a2.2
      · rw [em]; exact sq_cb_ok hok hl4
      · rw [em]; unfold sq_cb; rw [if_neg (by omega)]; exact hh
      · intro k hk; rw [em]; unfold sq_cb; rw [if_neg (by omega)]; exact (ivq.2.1 k hk).1
    · rw [g3b hg ho, if_neg n2, if_neg ho]
      exact ⟨_, C, _, rfl, rfl, ivq⟩
  · rw [g3c (fun q => hl q.2), if_neg n1, if_neg hl]
    exact ⟨_, C, _, rfl, rfl, ivq⟩
theorem hr_lp {f n : Int} (hn : n ≤ 24) (hf : 0 ≤ f) (hfn : f + n ≤ 999) : ∀ (q : Nat) (k : Int) (C M : hp_H), 0 ≤ k → k ≤ n → (n - k).toNat < q → iv C M → sq_ok (M 4) → M 4 3 = f + k → er C (M 4) f n → ∃ C' M', f_X7_hours_58 q n k C = some C' ∧ f_X8_hours_49 q n k M = some M' ∧ iv C' M' := by
  intro q
  induction q with
  | zero => intro k C M _ _ h; omega
  | succ q ih =>
    intro k C M k0 k1 hq h hok h3 he
    rw [f_X7_hours_58, f_X8_hours_49]
    by_cases hk : k < n
    · obtain ⟨C1, M1, u1, u2, u3, u4, u5⟩ := ke_keep h hok (by omega)
      have e4 := u5 4 (by omega) (by omega)
      have a2 := hok.2.2.1
      have t1 : tr C1 15 (M 4) := by rw [← e4]; exact u3.1.1
      have c199 : C1 199 = C 199 := u4 199 (by omega) (by omega)
      have er1 : er C1 (M 4) f n := er_fr he (by rw [c199]) (by rw [c199]) (fun b b1 b2 => u4 b (by omega) (by omega)) a2.2
      obtain ⟨C2, g1, g2, g3, g4, -⟩ := to_pass t1 hok (by unfold et; omega) er1 (by omega) (by omega) (by omega) hf
      obtain ⟨M2, w1, w2, w3, -, -⟩ := mo_hour (a := 4) (H := M1) (by omega) (by rw [e4]; exact hok)
      rw [e4] at w3
      have h3' : M2 4 3 = f + (k + 1) := by rw [w3]; show M 4 3 + 1 = _; omega
      have ok2 : sq_ok (M2 4) := by rw [w3]; exact sq_hr_ok hok (by omega)
      have iv2 : iv C2 M2 := iv_tn u3 (fun b hb => g2 b (by omega) (by omega) (by omega) (by omega)) (fun b b4 b9 b10 => w2 b b4 b9 b10) (by rw [w3]; exact g3) ok2 (by omega) (fun x hx => by rw [w3, sq_hr_at _ (by omega)]; exact (h.2.1 x hx).1)
      obtain ⟨C3, M3, x1, x2, x3⟩ := ih (k + 1) C2 M2 (by omega) (by omega) (by omega) iv2 ok2 h3' (by rw [w3]; exact g4)
      rw [if_pos hk, if_pos hk, u1, pu_b1, g1, pu_b1, pu_let, u2, pu_b1, w1, pu_b2, pu_let, pu_w (by omega), x1, x2]
      exact ⟨C3, M3, rfl, rfl, x3⟩
    · rw [if_neg hk, if_neg hk]
      exact ⟨C, M, rfl, rfl, h⟩
theorem op_hours {C M : hp_H} (h : iv C M) (n : Int) : op2 (f_X7_hours n C) (f_X8_hours n M) := by
  have ivq := iv_q h (fc.rf C) (fm_z h.2.1)
  unfold f_X7_hours f_X8_hours
  rw [pu_let (hp_up M 0 0 0)]
  generalize hp_up M 0 0 0 = N at ivq ⊢
  rw [g_stands ivq.1.1, pu_b1, pu_01, m_there, pu_b1, pu_01, g_within, pu_b1, pu_01, mo_in, pu_b1, pu_01]
  by_cases h0 : 0 < N 4 0
  · rw [if_pos h0, if_pos h0]
    by_cases hn : 1 ≤ n ∧ n ≤ 24
    · obtain ⟨hok, hh⟩ := iv_ok ivq (by omega)
      have a3 := hok.2.2.2.1
      rw [if_pos hn, if_pos hn, ivq.1.1.2.2.2.1, pu_w (x := N 4 3 + n) (by omega)]
      by_cases hf : 999 < N 4 3 + n
      · rw [if_pos hf, if_pos hf]
        exact ⟨_, _, _, rfl, rfl, ivq⟩
      · obtain ⟨C1, g1, g2, g3, g4⟩ := to_foresee (n := n) ivq.1.1 hok (by unfold et; omega) (by omega)
        have iv1 : iv C1 N := iv_q ivq (fun b hb => g2 b (by omega) (by omega)) ⟨fun _ _ _ _ _ _ => rfl, fun _ _ => rfl, fun k hk => (ivq.2.1 k hk).2⟩
        obtain ⟨C2, N2, x1, x2, x3⟩ := hr_lp (f := N 4 3) (n := n) (by omega) (by omega) (by omega) 1000 0 C1 N (by omega) (by omega) (by omega) iv1 hok (by omega) g4
        rw [if_neg hf, if_neg hf, g1, pu_b1, x1, pu_b1, to_arrived x3.1.1, pu_b1, x2, pu_b1, mo_dones, pu_b1]
        exact ⟨_, _, _, rfl, rfl, x3⟩
    · rw [if_neg hn, if_neg hn]
      exact ⟨_, _, _, rfl, rfl, ivq⟩
  · rw [if_neg h0, if_neg h0]
    exact ⟨_, _, _, rfl, rfl, ivq⟩
