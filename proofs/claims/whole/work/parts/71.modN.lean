theorem sq_gcd {s u : Int} (hs : 0 ≤ s) (hu : 0 < u) : (0 : Int) < ((Nat.gcd s.toNat u.toNat : Nat) : Int) := by
  have := Nat.gcd_pos_of_pos_right s.toNat (show 0 < u.toNat by omega)
  omega
theorem fo_likelihood {H : hp_H} {m : Int → Int} {l n k w : Int} (ht : tr H 15 m) (hm : sq_ok m) (hl : 0 ≤ l ∧ l < 4) (hn : 0 ≤ n ∧ n ≤ 99) (hk : 0 ≤ k ∧ k ≤ 10) (hh : m 3 ≤ 999) (hb : 0 ≤ sq_ss m l n k (sq_upm m) (sq_upm m + 1).toNat 0 0 ∧ sq_ss m l n k (sq_upm m) (sq_upm m + 1).toNat 0 0 ≤ 64000000) : ∃ H', f_X3_likelihood l n k w H = some (hp_wl ((if w = 0 then sq_ss m l n k (sq_upm m) (sq_upm m + 1).toNat 0 0 else 10 ^ (sq_cnt (sq_upm m)).toNat).tdiv ((Nat.gcd (sq_ss m l n k (sq_upm m) (sq_upm m + 1).toNat 0 0).toNat (10 ^ (sq_cnt (sq_upm m)).toNat : Int).toNat : Nat) : Int)), H') ∧ fs H H' ∧ 0 < (10 ^ (sq_cnt (sq_upm m)).toNat : Int) ∧ (10 ^ (sq_cnt (sq_upm m)).toNat : Int) ≤ 1000000 := by
  have a2 := hm.2.2.1
  have hu := sq_upm_in hm
  obtain ⟨H2, g1, g2, g3, g4⟩ := fo_prepare (n := n) ht hm (by omega)
  have t15 := fs_tr g2 ht (by omega)
  obtain ⟨H3, k1, k2⟩ := fo_li_29 (m := m) (l := l) (n := n) (k := k) (w := w) hl hm hn hk hh 1000 0 0 H2 (by omega) (by omega) (by omega) (by omega) (by omega) t15 (pp_of g3 rfl rfl rfl (fun _ _ => rfl)) g4
  rw [Int.sub_zero, sq_ss_up hm] at k1
  have c1 := (sq_cn_eq hm hu.1 hu.2.1).2
  have p1 := fo_power (x := 10) (n := sq_cnt (sq_upm m)) H3 (by omega) c1
  have hpos : 0 < (10 ^ (sq_cnt (sq_upm m)).toNat : Int) := Int.pow_pos (by omega)
  have hg := sq_gcd hb.1 hpos
  have hcd := fo_cd H3 26 (sq_ss m l n k (sq_upm m) (sq_upm m + 1).toNat 0 0).toNat (10 ^ (sq_cnt (sq_upm m)).toNat : Int).toNat 1000 0 (by omega) (by omega) (by omega) (by omega)
  rw [hp_tn hb.1, hp_tn (by omega)] at hcd
  unfold f_X3_likelihood f_X6_everybody
  rw [g1, pu_b1, t15.2.2.1, pu_b1, t15.2.2.2.2.1, pu_let, show hp_w (hp_shl 1 (m 2) - 1) = sq_all m from rfl, show hp_and (sq_all m) (hp_xor (m 4) (-1)) = sq_upm m from rfl, k1, pu_b2, fo_bc H3 (by omega), pu_b1, p1.1, pu_b1]
  unfold f_X3_commonDivisor
  rw [hcd, pu_b1, pu_b1, pu_let, pu_let]
  have hmx : hp_max ((Nat.gcd (sq_ss m l n k (sq_upm m) (sq_upm m + 1).toNat 0 0).toNat (10 ^ (sq_cnt (sq_upm m)).toNat : Int).toNat : Nat) : Int) 1 = ((Nat.gcd (sq_ss m l n k (sq_upm m) (sq_upm m + 1).toNat 0 0).toNat (10 ^ (sq_cnt (sq_upm m)).toNat : Int).toNat : Nat) : Int) := by
    unfold hp_max; rw [if_neg (by omega)]
  rw [hmx, pu_ck (by omega)]
  exact ⟨H3, rfl, g2.tr k2, hpos, p1.2.2⟩
theorem op_sick {C M : hp_H} (h : iv C M) (l n k w : Int) : op2 (f_X7_sick l n k w C) (f_X8_sick l n k w M) := by
  have ivq := iv_q h (fc.rf C) (fm_z h.2.1)
  have z0 := iv_z0 h.2.1
  have e1 : (if 0 ≤ n ∧ n ≤ 99 then (if 0 ≤ k ∧ k ≤ 10 then (if 0 ≤ w ∧ w ≤ 1 then some 1 else some 0) else some 0) else some 0 : Option Int) = some (if (0 ≤ n ∧ n ≤ 99) ∧ (0 ≤ k ∧ k ≤ 10) ∧ (0 ≤ w ∧ w ≤ 1) then 1 else 0) := by
    by_cases h1 : 0 ≤ n ∧ n ≤ 99
    · by_cases h2 : 0 ≤ k ∧ k ≤ 10
      · by_cases h3 : 0 ≤ w ∧ w ≤ 1
        · rw [if_pos h1, if_pos h2, if_pos h3, if_pos ⟨h1, h2, h3⟩]
        · rw [if_pos h1, if_pos h2, if_neg h3, if_neg (fun q => h3 q.2.2)]
      · rw [if_pos h1, if_neg h2, if_neg (fun q => h2 q.2.1)]
    · rw [if_neg h1, if_neg (fun q => h1 q.1)]
  unfold f_X7_sick f_X8_sick
  rw [g_within, pu_b1, pu_01, g_within, pu_b1, pu_01, g_within, pu_b1, pu_01, e1, pu_b1, g_refusal h.1.1, pu_b1, pu_let, m_posted, up4 M (by omega), pu_b1, pu_01, mo_in, pu_b1, pu_01, mo_in, pu_b1, pu_01, mo_in, pu_b1, pu_01]
  by_cases hl : 0 < M 4 0 ∧ 0 ≤ l ∧ l ≤ 3
  · rw [if_pos hl, mo_isOut (by omega), up4 M (by omega), pu_b1, pu_01]
    by_cases hn : 0 ≤ n ∧ n ≤ 99
    · by_cases hk : 0 ≤ k ∧ k ≤ 10
      · by_cases hw : 0 ≤ w ∧ w ≤ 1
        · have hg : ((0 ≤ n ∧ n ≤ 99) ∧ (0 ≤ k ∧ k ≤ 10) ∧ (0 ≤ w ∧ w ≤ 1)) ∧ 0 < M 4 0 ∧ 0 ≤ l ∧ l ≤ 3 := ⟨⟨hn, hk, hw⟩, hl⟩
          by_cases ho : M 4 (5 + 3 * l) = 1
          · obtain ⟨hok, hh⟩ := iv_ok h (by omega)
            have hu := sq_upm_in hok
            obtain ⟨M3, w1, w2, w3⟩ := mh_si_82 (M0 := hp_up M 0 0 0) (l := l) (n := n) (k := k) (w := w) (by rw [up4 M (by omega)]; exact hok) (by omega) hn hk (by rw [up4 M (by omega)]; exact hh) 1000 0 0 0 _ (by omega) (by rw [up4 M (by omega)]; omega) (by rw [up4 M (by omega)]; omega) (by omega) (by omega) (by omega) (by omega) (fi.rf z0)
            rw [up4 M (by omega), Int.sub_zero] at w1 w3
            obtain ⟨C', k1, k2, k3, k4⟩ := fo_likelihood h.1.1 hok (l := l) (n := n) (k := k) (w := w) (by omega) hn hk hh w3
            have ett : sq_tt (sq_upm (M 4)) k (sq_upm (M 4) + 1).toNat 0 0 = 10 ^ (sq_cnt (sq_upm (M 4))).toNat := by
              have := sq_tt_all ⟨(sq_upm (M 4)).toNat, by omega⟩ ⟨k.toNat, by omega⟩
              simp only [hp_tn hu.1, hp_tn hk.1] at this
              rw [show (sq_upm (M 4) + 1).toNat = (sq_upm (M 4)).toNat + 1 by omega]
              exact this
            rw [ett] at w1
            have hgp := sq_gcd w3.1 k3
            have hcd := mh_cd (w := w) (s := sq_ss (M 4) l n k (sq_upm (M 4)) (sq_upm (M 4) + 1).toNat 0 0) (t := 10 ^ (sq_cnt (sq_upm (M 4))).toNat) M3 26 (10 ^ (sq_cnt (sq_upm (M 4))).toNat : Int).toNat (sq_ss (M 4) l n k (sq_upm (M 4)) (sq_upm (M 4) + 1).toNat 0 0).toNat 1000 (by omega) (by omega)
            rw [hp_tn w3.1, hp_tn (by omega), Nat.gcd_comm] at hcd
            rw [g3a hg ho, if_pos rfl, k1, pu_b2, if_pos hn, if_pos hk, if_pos hw, if_pos ho, m_up, up4 M (by omega), pu_b1, show hp_and (sq_all (M 4)) (hp_xor (M 4 4) (-1)) = sq_upm (M 4) from rfl, w1, pu_b3, hcd, pu_b1, pu_let, pu_ck (by omega)]
            exact ⟨_, C', M3, rfl, rfl, iv_q h k2.fc (fi.fm h.2.1 w2)⟩
          · rw [g3b hg ho, if_neg n2, if_pos hn, if_pos hk, if_pos hw, if_neg ho]
            exact ⟨_, C, _, rfl, rfl, ivq⟩
        · have hg : ¬ (((0 ≤ n ∧ n ≤ 99) ∧ (0 ≤ k ∧ k ≤ 10) ∧ (0 ≤ w ∧ w ≤ 1)) ∧ 0 < M 4 0 ∧ 0 ≤ l ∧ l ≤ 3) := fun q => hw q.1.2.2
          rw [g3c hg, if_neg n1, if_pos hn, if_pos hk, if_neg hw]
          exact ⟨_, C, _, rfl, rfl, ivq⟩
      · have hg : ¬ (((0 ≤ n ∧ n ≤ 99) ∧ (0 ≤ k ∧ k ≤ 10) ∧ (0 ≤ w ∧ w ≤ 1)) ∧ 0 < M 4 0 ∧ 0 ≤ l ∧ l ≤ 3) := fun q => hk q.1.2.1
        rw [g3c hg, if_neg n1, if_pos hn, if_neg hk]
        exact ⟨_, C, _, rfl, rfl, ivq⟩
    · have hg : ¬ (((0 ≤ n ∧ n ≤ 99) ∧ (0 ≤ k ∧ k ≤ 10) ∧ (0 ≤ w ∧ w ≤ 1)) ∧ 0 < M 4 0 ∧ 0 ≤ l ∧ l ≤ 3) := fun q => hn q.1.1
      rw [g3c hg, if_neg n1, if_neg hn]
      exact ⟨_, C, _, rfl, rfl, ivq⟩
  · have hg : ¬ (((0 ≤ n ∧ n ≤ 99) ∧ (0 ≤ k ∧ k ≤ 10) ∧ (0 ≤ w ∧ w ≤ 1)) ∧ 0 < M 4 0 ∧ 0 ≤ l ∧ l ≤ 3) := fun q => hl q.2
    rw [g3c hg, if_neg n1, if_neg hl]
    exact ⟨_, C, _, rfl, rfl, ivq⟩
