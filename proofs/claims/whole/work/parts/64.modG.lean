/-! crew -/
theorem mh_bits_s {x v k : Int} {H : hp_H} (n : Nat) (hk : 0 ≤ k ∧ k < 9) (hv : 0 ≤ v ∧ v ≤ 100) : f_X8_bits_4 (n + 1) x v k H = f_X8_bits_4 n x (v + hp_and (hp_shr x k) 1) (k + 1) H := by
  have b : 0 ≤ hp_and (hp_shr x k) 1 ∧ hp_and (hp_shr x k) 1 ≤ 1 := by rw [bi_and1]; split <;> omega
  rw [f_X8_bits_4, if_pos hk.2, pu_let, pu_let, pu_w (by omega), pu_w (by omega)]
theorem mh_bits (x : Int) (H : hp_H) : f_X8_bits x H = some (sq_cnt x) := by
  have b : ∀ k, 0 ≤ hp_and (hp_shr x k) 1 ∧ hp_and (hp_shr x k) 1 ≤ 1 := fun k => by rw [bi_and1]; split <;> omega
  have b0 := b 0
  have b1 := b 1
  have b2 := b 2
  have b3 := b 3
  have b4 := b 4
  have b5 := b 5
  have b6 := b 6
  have b7 := b 7
  have b8 := b 8
  unfold f_X8_bits
  have e : f_X8_bits_4 1000 x 0 0 H = some (sq_cnt x) := by
    show f_X8_bits_4 (990 + 1 + 1 + 1 + 1 + 1 + 1 + 1 + 1 + 1 + 1) x 0 0 H = _
    rw [mh_bits_s _ (by omega) (by omega), mh_bits_s _ (by omega) (by simp only [Int.zero_add, Int.reduceAdd] at *; omega), mh_bits_s _ (by omega) (by simp only [Int.zero_add, Int.reduceAdd] at *; omega), mh_bits_s _ (by omega) (by simp only [Int.zero_add, Int.reduceAdd] at *; omega), mh_bits_s _ (by omega) (by simp only [Int.zero_add, Int.reduceAdd] at *; omega), mh_bits_s _ (by omega) (by simp only [Int.zero_add, Int.reduceAdd] at *; omega), mh_bits_s _ (by omega) (by simp only [Int.zero_add, Int.reduceAdd] at *; omega), mh_bits_s _ (by omega) (by simp only [Int.zero_add, Int.reduceAdd] at *; omega), mh_bits_s _ (by omega) (by simp only [Int.zero_add, Int.reduceAdd] at *; omega), f_X8_bits_4, if_neg (by omega)]
    unfold sq_cnt
    simp only [Int.zero_add, Int.reduceAdd]
  rw [e, pu_b1]
theorem sq_set63 : ∀ k : Fin 7, ∀ s h : Fin 64, s.val ≤ 2 ^ k.val - 1 → ((hp_and (s.val : Int) (hp_xor (hp_and (2 ^ k.val - 1) (hp_xor (h.val : Int) (-1))) (-1)) = 0 ↔ hp_and (s.val : Int) (h.val : Int) = 0) ∧ (hp_and (s.val : Int) (h.val : Int) = 0 → (s.val : Int) ≤ hp_and (2 ^ k.val - 1) (hp_xor (h.val : Int) (-1)))) := by decide +kernel
theorem sq_setup {m : Int → Int} (hm : sq_ok m) {s : Int} (h0 : 0 ≤ s) (h1 : s ≤ sq_all m) : (hp_and s (hp_xor (hp_and (sq_all m) (hp_xor (m 4) (-1))) (-1)) = 0 ↔ hp_and s (m 4) = 0) ∧ (hp_and s (m 4) = 0 → s ≤ hp_and (sq_all m) (hp_xor (m 4) (-1))) := by
  have a2 := hm.2.2.1
  have a4 := hm.2.2.2.2.1
  have ha := sq_all_in (m := m) (by omega)
  have hv := sq_all_v ⟨(m 2).toNat, by omega⟩
  simp only [hp_tn (show 0 ≤ m 2 by omega)] at hv
  have hv : sq_all m = 2 ^ (m 2).toNat - 1 := hv
  have := sq_set63 ⟨(m 2).toNat, by omega⟩ ⟨s.toNat, by omega⟩ ⟨(m 4).toNat, by omega⟩ (by
    have h2 : (m 2).toNat = 0 ∨ (m 2).toNat = 1 ∨ (m 2).toNat = 2 ∨ (m 2).toNat = 3 ∨ (m 2).toNat = 4 ∨ (m 2).toNat = 5 ∨ (m 2).toNat = 6 := by omega
    rw [hv] at h1
    show s.toNat ≤ 2 ^ (m 2).toNat - 1
    rcases h2 with h | h | h | h | h | h | h <;> rw [h] at h1 ⊢ <;> simp at h1 ⊢ <;> omega)
  simp only [hp_tn h0, hp_tn a4.1, ← hv] at this
  exact this
theorem sq_crew_app {m : Int → Int} {l n : Int} : ∀ (r s : Nat) (set best : Int), sq_crew m l n (r + s) set best = sq_crew m l n s (set + r) (sq_crew m l n r set best)
  | 0, s, set, best => by simp [sq_crew]
  | r + 1, s, set, best => by
    rw [show r + 1 + s = (r + s) + 1 by omega, sq_crew, sq_crew_app r s, sq_crew, show set + 1 + (r : Int) = set + ((r + 1 : Nat) : Int) by omega]
theorem sq_crew_no {m : Int → Int} {l n : Int} : ∀ (r : Nat) (set best : Int), (∀ j, set ≤ j → j < set + r → hp_and j (m 4) ≠ 0) → sq_crew m l n r set best = best
  | 0, set, best, _ => rfl
  | r + 1, set, best, h => by
    rw [sq_crew, sq_crew_no r (set + 1) _ (fun j j0 j1 => h j (by omega) (by omega))]
    unfold sq_cstep
    rw [if_neg (fun q => h set (by omega) (by omega) q.1)]
theorem sq_crew_up {m : Int → Int} {l n : Int} (hm : sq_ok m) : sq_crewA m l n = sq_crew m l n (hp_and (sq_all m) (hp_xor (m 4) (-1)) + 1).toNat 0 NN := by
  have a2 := hm.2.2.1
  have ha := sq_all_in (m := m) (by omega)
  have hu := hp_andn_in ha hm.2.2.2.2.1
  unfold sq_crewA
  rw [show (sq_all m + 1).toNat = (hp_and (sq_all m) (hp_xor (m 4) (-1)) + 1).toNat + (sq_all m - hp_and (sq_all m) (hp_xor (m 4) (-1))).toNat by omega, sq_crew_app, sq_crew_no]
  intro j j0 j1 hj
  have := (sq_setup hm (s := j) (by omega) (by omega)).2 hj
  omega
theorem mh_cr_71 {l n what : Int} {M0 : hp_H} (hm : sq_ok (M0 4)) (hl : 0 ≤ l ∧ l < 4) (hn : 0 ≤ n ∧ n ≤ 99) (hh : M0 4 3 ≤ 999) : ∀ (q : Nat) (best set : Int) (M : hp_H), 0 ≤ set → set ≤ hp_and (sq_all (M0 4)) (hp_xor (M0 4 4) (-1)) + 1 → (hp_and (sq_all (M0 4)) (hp_xor (M0 4 4) (-1)) + 1 - set).toNat < q → fi M0 M → ∃ M', f_X8_crew_71 q l n what (sq_all (M0 4)) best set M = some (sq_crew (M0 4) l n (hp_and (sq_all (M0 4)) (hp_xor (M0 4 4) (-1)) + 1 - set).toNat set best, M') ∧ fi M0 M' := by
  have a2 := hm.2.2.1
  have a4 := hm.2.2.2.2.1
  have ha := sq_all_in (m := M0 4) (by omega)
  have hu := hp_andn_in ha a4
  intro q
  induction q with
  | zero => intro best set M _ _ h; omega
  | succ q ih =>
    intro best set M l0 l1 hq hf
    rw [f_X8_crew_71, m_up, hf.e4, pu_b1]
    by_cases hv : hp_and (sq_all (M0 4)) (hp_xor (M0 4 4) (-1)) < set
    · rw [if_pos hv, show (hp_and (sq_all (M0 4)) (hp_xor (M0 4 4) (-1)) + 1 - set).toNat = 0 by omega]
      exact ⟨M, rfl, hf⟩
    · rw [if_neg hv, pu_b1]
      have fin : ∀ (b2 : Int) (M2 : hp_H), fi M0 M2 → b2 = sq_cstep (M0 4) l n set best → ∃ M', hp_let (hp_w (set + 1)) (fun v => f_X8_crew_71 q l n what (sq_all (M0 4)) b2 v M2) = some (sq_crew (M0 4) l n (hp_and (sq_all (M0 4)) (hp_xor (M0 4 4) (-1)) + 1 - set).toNat set best, M') ∧ fi M0 M' := by
        intro b2 M2 f2 e2
        obtain ⟨M3, r1, r2⟩ := ih b2 (set + 1) M2 (by omega) (by omega) (by omega) f2
        rw [pu_let, pu_w (by omega), r1, e2, show (hp_and (sq_all (M0 4)) (hp_xor (M0 4 4) (-1)) + 1 - set).toNat = (hp_and (sq_all (M0 4)) (hp_xor (M0 4 4) (-1)) + 1 - (set + 1)).toNat + 1 by omega]
        exact ⟨M3, rfl, r2⟩
      obtain ⟨M2, g1, g2, g3⟩ := mo_lay hf.2
      rw [hf.e4] at g2
      have hs := mh_home g3.2 (hp_and (sq_all (M0 4)) (hp_xor set (-1)))
      have hx := hp_andn_in ha (y := set) (by omega)
      rw [g2] at hs
      have e3 : sq_hm (M0 4) (hp_and (sq_all (M0 4)) (hp_xor set (-1))) 3 = M0 4 3 := by unfold sq_hm; rw [if_neg (by omega)]
      obtain ⟨M4, j, v1, v2, -⟩ := mh_doneBy (l := l) (most := n) hs.1.2 hl (by rw [hs.2]; exact sq_hm_ok hm (by omega)) (by omega) (by rw [hs.2, e3]; omega)
      rw [hs.2] at v1
      have ff := ((hf.tr g3).tr hs.1).tr v2
      have hset := (sq_setup hm (s := set) l0 (by omega)).1
      by_cases hA : hp_and set (hp_xor (hp_and (sq_all (M0 4)) (hp_xor (M0 4 4) (-1))) (-1)) = 0
      · have hA2 := hset.mp hA
        rw [if_pos hA]
        by_cases hB : best = NN
        · rw [if_pos (show best = -1000000 from hB), g1, pu_b1, pu_let, v1, pu_b2, pu_let, pu_b2]
          refine fin _ M4 ff ?_
          unfold sq_cstep
          by_cases hD : sq_by l (n + 1).toNat 0 (sq_hm (M0 4) (hp_and (sq_all (M0 4)) (hp_xor set (-1)))) = NN
          · rw [if_pos (show _ = (-1000000 : Int) from hD), if_neg (fun q => q.2.2 hD)]
          · rw [if_neg (show ¬ _ = (-1000000 : Int) from hD), if_pos ⟨hA2, Or.inl hB, hD⟩]
        · rw [if_neg (show ¬ best = -1000000 from hB), mh_bits, mh_bits, pu_b1, pu_b1]
          by_cases hC : sq_cnt set < sq_cnt best
          · rw [if_pos hC, g1, pu_b1, pu_let, v1, pu_b2, pu_let, pu_b2]
            refine fin _ M4 ff ?_
            unfold sq_cstep
            by_cases hD : sq_by l (n + 1).toNat 0 (sq_hm (M0 4) (hp_and (sq_all (M0 4)) (hp_xor set (-1)))) = NN
            · rw [if_pos (show _ = (-1000000 : Int) from hD), if_neg (fun q => q.2.2 hD)]
            · rw [if_neg (show ¬ _ = (-1000000 : Int) from hD), if_pos ⟨hA2, Or.inr hC, hD⟩]
          · rw [if_neg hC, pu_b2]
            refine fin _ M hf ?_
            unfold sq_cstep
            rw [if_neg (fun q => by rcases q.2.1 with h | h; exact hB h; exact hC h)]
      · rw [if_neg hA, pu_b2]
        refine fin _ M hf ?_
        unfold sq_cstep
        rw [if_neg (fun q => hA (hset.mpr q.1))]
theorem op_crew {C M : hp_H} (h : iv C M) (l n w : Int) : op2 (f_X7_crew l n w C) (f_X8_crew l n w M) := by
  have ivq := iv_q h (fc.rf C) (fm_z h.2.1)
  have z0 := iv_z0 h.2.1
  have e1 : (if 1 ≤ n ∧ n ≤ 99 then (if 0 ≤ w ∧ w ≤ 1 then some 1 else some 0) else some 0 : Option Int) = some (if (1 ≤ n ∧ n ≤ 99) ∧ (0 ≤ w ∧ w ≤ 1) then 1 else 0) := by
    by_cases h1 : 1 ≤ n ∧ n ≤ 99
    · by_cases h2 : 0 ≤ w ∧ w ≤ 1
      · rw [if_pos h1, if_pos h2, if_pos ⟨h1, h2⟩]
      · rw [if_pos h1, if_neg h2, if_neg (fun q => h2 q.2)]
    · rw [if_neg h1, if_neg (fun q => h1 q.1)]
  unfold f_X7_crew f_X8_crew
  rw [g_span, pu_b1, pu_01, g_within, pu_b1, pu_01, e1, pu_b1, g_refusal h.1.1, pu_b1, pu_let, m_posted, up4 M (by omega), pu_b1, pu_01, mo_in, pu_b1, pu_01, mo_in, pu_b1, pu_01]
  by_cases hl : 0 < M 4 0 ∧ 0 ≤ l ∧ l ≤ 3
  · rw [if_pos hl, mo_isOut (by omega), up4 M (by omega), pu_b1, pu_01]
    by_cases hn : 1 ≤ n ∧ n ≤ 99
    · by_cases hw : 0 ≤ w ∧ w ≤ 1
      · have hg : ((1 ≤ n ∧ n ≤ 99) ∧ (0 ≤ w ∧ w ≤ 1)) ∧ 0 < M 4 0 ∧ 0 ≤ l ∧ l ≤ 3 := ⟨⟨hn, hw⟩, hl⟩
        by_cases ho : M 4 (5 + 3 * l) = 1
        · obtain ⟨hok, hh⟩ := iv_ok h (by omega)
          have a2 := hok.2.2.1
          have ha := sq_all_in (m := M 4) (by omega)
          have hu := hp_andn_in ha hok.2.2.2.2.1
          obtain ⟨C', k1, k2, k3⟩ := fo_fewest h.1.1 hok (l := l) (n := n) (what := w) (by omega) (by omega) hh
          obtain ⟨M3, w1, w2⟩ := mh_cr_71 (M0 := hp_up M 0 0 0) (l := l) (n := n) (what := w) (by rw [up4 M (by omega)]; exact hok) (by omega) (by omega) (by rw [up4 M (by omega)]; exact hh) 1000 (-1000000) 0 _ (by omega) (by rw [up4 M (by omega)]; omega) (by rw [up4 M (by omega)]; omega) (fi.rf z0)
          rw [up4 M (by omega), Int.sub_zero, show (-1000000 : Int) = NN from rfl, ← sq_crew_up hok] at w1
          have ff := iv_q h k2.fc (fi.fm h.2.1 w2)
          rw [g3a hg ho, if_pos rfl, k1, pu_b2, if_pos hn, if_pos hw, if_pos ho, pu_let]
          rw [show hp_b2 (f_X8_crew_71 1000 l n w (hp_w (hp_shl 1 (M 4 2) - 1)) (-1000000) 0 (hp_up M 0 0 0)) _ = hp_b2 (some (sq_crewA (M 4) l n, M3)) _ from congrArg (fun z => hp_b2 z _) w1, pu_b2]
          by_cases hb : sq_crewA (M 4) l n = NN
          · rw [if_pos (show _ = (-1000000 : Int) from hb), if_pos hb, hb]
            refine ⟨_, C', M3, ?_, rfl, ff⟩
            split <;> rfl
          · rw [if_neg (show ¬ _ = (-1000000 : Int) from hb), if_neg hb]
            have hc : w = 0 ∨ w = 1 := by omega
            rcases hc with rfl | rfl
            · rw [if_neg (show ¬ (0 : Int) = 1 by omega), mh_bits, pu_b1, if_pos rfl]
              exact ⟨_, C', M3, rfl, rfl, ff⟩
            · rw [if_pos rfl, if_neg (show ¬ (1 : Int) = 0 by omega)]
              exact ⟨_, C', M3, rfl, rfl, ff⟩
        · rw [g3b hg ho, if_neg n2, if_pos hn, if_pos hw, if_neg ho]
          exact ⟨_, C, _, rfl, rfl, ivq⟩
      · have hg : ¬ (((1 ≤ n ∧ n ≤ 99) ∧ (0 ≤ w ∧ w ≤ 1)) ∧ 0 < M 4 0 ∧ 0 ≤ l ∧ l ≤ 3) := fun q => hw q.1.2
        rw [g3c hg, if_neg n1, if_pos hn, if_neg hw]
        exact ⟨_, C, _, rfl, rfl, ivq⟩
    · have hg : ¬ (((1 ≤ n ∧ n ≤ 99) ∧ (0 ≤ w ∧ w ≤ 1)) ∧ 0 < M 4 0 ∧ 0 ≤ l ∧ l ≤ 3) := fun q => hn q.1.1
      rw [g3c hg, if_neg n1, if_neg hn]
      exact ⟨_, C, _, rfl, rfl, ivq⟩
  · have hg : ¬ (((1 ≤ n ∧ n ≤ 99) ∧ (0 ≤ w ∧ w ≤ 1)) ∧ 0 < M 4 0 ∧ 0 ≤ l ∧ l ≤ 3) := fun q => hl q.2
    rw [g3c hg, if_neg n1, if_neg hl]
    exact ⟨_, C, _, rfl, rfl, ivq⟩
