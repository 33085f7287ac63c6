def sq_abs (m : Int → Int) (l n : Int) (g : Int → Int) : Nat → Int → Int → Int
  | 0, _, x => x
  | r + 1, p, x => sq_abs m l n g r (p + 1) (if bi (m 4) p = false ∧ sq_fit l g n.toNat 0 (sq_hm m (hp_or (m 4) (hp_shl 1 p))) = true then hp_or x (hp_shl 1 p) else x)
theorem fo_ab_27 {m g : Int → Int} {l n : Int} (hl : 0 ≤ l ∧ l < 4) (hn : 1 ≤ n ∧ n ≤ 12) (hh : m 3 ≤ 999) (hm : sq_ok m) (ho : m (5 + 3 * l) = 1) : ∀ (q : Nat) (x p : Int) (H : hp_H), 0 ≤ p → p ≤ m 2 → (m 2 - p).toNat < q → tr H 15 m → he_ H n g → pp H m → er H m (m 3) n →
    ∃ H', f_X3_absentThatFit_27 q l x p H = some (sq_abs m l n g (m 2 - p).toNat p x, H') ∧ fs H H' := by
  have a2 := hm.2.2.1
  have a4 := hm.2.2.2.2.1
  intro q
  induction q with
  | zero => intro x p H _ _ h; omega
  | succ q ih =>
    intro x p H p0 pm hq ht hg hp he
    rw [f_X3_absentThatFit_27, ht.2.2.1]
    by_cases hpp : p < m 2
    · have hor := hp_or_in a4 (hp_sh_in (p := p) (by omega))
      obtain ⟨m', p1, p2, p3, p4, p5⟩ := hp
      obtain ⟨H2, g1, g2, g3⟩ := fo_anew ht p1 p2 p3 p4 p5
      rw [if_pos hpp, g1, pu_b1, pu_let]
      have h15 : H2 15 = H 15 := g2 15 (by omega) (by omega) (by omega)
      have t3 := fo_home (hp_or (H2 15 5) (hp_shl 1 p)) g3
      rw [show sq_hm (fun k => if k = 4 then m' 4 else m k) (hp_or (H2 15 5) (hp_shl 1 p)) = sq_hm m (hp_or (H2 15 5) (hp_shl 1 p)) by funext k; unfold sq_hm; split <;> simp_all] at t3
      rw [show hp_or (H2 15 5) (hp_shl 1 p) = hp_or (m 4) (hp_shl 1 p) by rw [h15, ht.2.2.2.2.1]] at t3 ⊢
      generalize hK : hp_up H2 211 5 (hp_or (m 4) (hp_shl 1 p)) = K at t3 ⊢
      have fK : ∀ b, b ≠ 211 → b ≠ 216 → b ≠ 217 → K b = H b := fun b b1 b2 b3 => by rw [← hK, pu_upa b1, g2 b b1 b2 b3]
      have fs3 : fs H K := fun b hb => fK b (by omega) (by omega) (by omega)
      have t15 : tr K 15 m := fs_tr fs3 ht (by omega)
      have e : ∀ k, k ≠ 4 → sq_hm m (hp_or (m 4) (hp_shl 1 p)) k = m k := fun k hk => if_neg hk
      have he3 : er K m (m 3) n := er_fr he (by rw [fK 199 (by omega) (by omega) (by omega)]) (by rw [fK 199 (by omega) (by omega) (by omega)]) (fun b b1 b2 => fK b (by omega) (by omega) (by omega)) a2.2
      rw [to_isHome t15 (by omega), pu_b1, pu_01]
      have key : ∃ H4, (if bi (m 4) p = true then some (x, K) else hp_b2 (f_X3_fits l K) fun c19 H20 => if c19 = 0 then some (x, H20) else hp_let (hp_or x (hp_shl 1 p)) (fun v3_22 => some (v3_22, H20))) = some (if bi (m 4) p = false ∧ sq_fit l g n.toNat 0 (sq_hm m (hp_or (m 4) (hp_shl 1 p))) = true then hp_or x (hp_shl 1 p) else x, H4) ∧ fs K H4 ∧ pp H4 m ∧ er H4 m (m 3) n := by
        cases hb : bi (m 4) p
        · rw [if_neg (by simp)]
          have he4 : er K (sq_hm m (hp_or (m 4) (hp_shl 1 p))) (sq_hm m (hp_or (m 4) (hp_shl 1 p)) 3) n := by
            rw [e 3 (by omega)]
            exact er_congr he3 (e 1 (by omega)) (e 2 (by omega)) (fun j hj => e j (by omega))
          obtain ⟨H4, i, w1, w2, w3, w4⟩ := fo_fits (g := g) hl hn (by rw [e 3 (by omega)]; exact hh) t3 (sq_hm_ok hm hor) he4 (fs_he fs3 hg) (by rw [e _ (by omega)]; exact ho)
          rw [w1, pu_b2, pu_01, pu_let]
          refine ⟨H4, ?_, w2.fs, pp_of w3 (by rw [sq_hrs_at _ (by omega), e _ (by omega)]) (by rw [sq_hrs_at _ (by omega), e _ (by omega)]) (by rw [sq_hrs_at _ (by omega), e _ (by omega)]) (fun j hj => by rw [sq_hrs_at _ (by omega), e _ (by omega)]), ?_⟩
          · cases hf : sq_fit l g n.toNat 0 (sq_hm m (hp_or (m 4) (hp_shl 1 p)))
            · rw [if_neg (by simp), if_neg (by simp)]
            · rw [if_pos rfl, if_pos ⟨rfl, rfl⟩]
          · rw [e 3 (by omega)] at w4
            exact er_congr w4 (e 1 (by omega)).symm (e 2 (by omega)).symm (fun j hj => (e j (by omega)).symm)
        · rw [if_pos rfl, if_neg (by simp)]
          exact ⟨K, rfl, fs.rf K, pp_of t3 (e 0 (by omega)) (e 1 (by omega)) (e 2 (by omega)) (fun j hj => e j (by omega)), he3⟩
      obtain ⟨H4, k1, k2, k3, k4⟩ := key
      rw [k1, pu_b2, pu_let, pu_w (by omega), show (m 2 - p).toNat = (m 2 - (p + 1)).toNat + 1 by omega]
      obtain ⟨H5, z1, z2⟩ := ih (if bi (m 4) p = false ∧ sq_fit l g n.toNat 0 (sq_hm m (hp_or (m 4) (hp_shl 1 p))) = true then hp_or x (hp_shl 1 p) else x) (p + 1) H4 (by omega) (by omega) (by omega) (fs_tr k2 t15 (by omega)) (fs_he (fs3.tr k2) hg) k3 k4
      exact ⟨H5, z1, (fs3.tr k2).tr z2⟩
    · rw [if_neg hpp]
      exact ⟨H, by rw [show (m 2 - p).toNat = 0 by omega]; rfl, fs.rf H⟩
theorem fo_absent {H : hp_H} {m g : Int → Int} {l n : Int} (hl : 0 ≤ l ∧ l < 4) (hn : 1 ≤ n ∧ n ≤ 12) (hh : m 3 ≤ 999) (ht : tr H 15 m) (hm : sq_ok m) (hg : he_ H n g) (ho : m (5 + 3 * l) = 1) : ∃ H', f_X3_absentThatFit l H = some (sq_abs m l n g (m 2).toNat 0 (if sq_fit l g n.toNat 0 m = true then 64 else 0), H') ∧ fs H H' := by
  have a2 := hm.2.2.1
  obtain ⟨H2, g1, g2, g3, g4⟩ := fo_prepare (n := n) ht hm (by omega)
  have t15 := fs_tr g2 ht (by omega)
  obtain ⟨H3, i, w1, w2, w3, w4⟩ := fo_fits (g := g) hl hn hh g3 hm g4 (fs_he g2 hg) ho
  obtain ⟨H4, k1, k2⟩ := fo_ab_27 (g := g) hl hn hh hm ho 1000 (if sq_fit l g n.toNat 0 m = true then 64 else 0) 0 H3 (by omega) (by omega) (by omega) (fs_tr w2.fs t15 (by omega)) (fs_he (g2.tr w2.fs) hg) (pp_of w3 (by rw [sq_hrs_at _ (by omega)]) (by rw [sq_hrs_at _ (by omega)]) (by rw [sq_hrs_at _ (by omega)]) (fun j hj => by rw [sq_hrs_at _ (by omega)])) w4
  unfold f_X3_absentThatFit
  rw [hg.1, g1, pu_b1, w1, pu_b2, pu_let, pu_01, k1, pu_b2, Int.sub_zero]
  exact ⟨H4, rfl, (g2.tr w2.fs).tr k2⟩
/-- the trial's goal is set -/
theorem fo_goal {H : hp_H} {m : Int → Int} {l v : Int} (hl : 0 ≤ l ∧ l < 4) (ht : tr H 211 m) : tr (hp_up H 217 l v) 211 (sq_set m (7 + 3 * l) v) := by
  obtain ⟨a0, a1, a2, a3, a5, a4, b, c, d⟩ := ht
  have e : ∀ k, k ≠ 7 + 3 * l → sq_set m (7 + 3 * l) v k = m k := fun k hk => if_neg hk
  refine ⟨by rw [e 0 (by omega), pu_upa (by omega)]; exact a0, by rw [e 1 (by omega), pu_upa (by omega)]; exact a1, by rw [e 2 (by omega), pu_upa (by omega)]; exact a2, by rw [e 3 (by omega), pu_upa (by omega)]; exact a3, by rw [e 4 (by omega), pu_upa (by omega)]; exact a5, by rw [pu_upa (by omega)]; exact a4, fun j j0 j4 => by rw [e _ (by omega), pu_upa (by omega)]; exact b j j0 j4, fun j j0 j4 ho => ?_, fun p p0 pm => ?_⟩
  · rw [e _ (by omega)] at ho
    rw [e (6 + 3 * j) (by omega), pu_upa (show (211 : Int) + 5 ≠ 217 by omega)]
    refine ⟨(c j j0 j4 ho).1, ?_⟩
    by_cases hj : j = l
    · subst hj
      unfold sq_set
      rw [if_pos rfl]
      exact pu_ups _ _ _ _
    · rw [e _ (by omega), pu_upj hj]
      exact (c j j0 j4 ho).2
  · rw [e _ (by omega)] at pm
    rw [e _ (by omega), e _ (by omega), e _ (by omega), e _ (by omega), pu_upa (by omega), pu_upa (by omega), pu_upa (by omega), pu_upa (by omega)]
    exact d p p0 pm
theorem sq_goal_ok {m : Int → Int} (hm : sq_ok m) {l v : Int} (hl : 0 ≤ l ∧ l < 4) (hv : 0 ≤ v ∧ v < m 0) : sq_ok (sq_set m (7 + 3 * l) v) := by
  have e : ∀ k, k ≠ 7 + 3 * l → sq_set m (7 + 3 * l) v k = m k := fun k hk => if_neg hk
  obtain ⟨a0, a1, a2, a3, a4, a5, a6⟩ := hm
  refine ⟨by rw [e 0 (by omega)]; exact a0, by rw [e 1 (by omega)]; exact a1, by rw [e 2 (by omega)]; exact a2, by rw [e 3 (by omega)]; exact a3, by rw [e 4 (by omega)]; exact a4, fun j j0 j4 => ?_, fun q q0 qm => ?_⟩
  · rw [e (5 + 3 * j) (by omega), e (6 + 3 * j) (by omega), e 0 (by omega)]
    refine ⟨(a5 j j0 j4).1, fun ho => ?_⟩
    have b := (a5 j j0 j4).2 ho
    by_cases hj : j = l
    · subst hj
      have : sq_set m (7 + 3 * j) v (7 + 3 * j) = v := if_pos rfl
      rw [this]; omega
    · rw [e _ (by omega)]; exact b
  · rw [e _ (by omega)] at qm
    rw [e _ (by omega), e _ (by omega), e _ (by omega), e _ (by omega), e _ (by omega)]
    exact a6 q q0 qm
theorem fo_go_14 {m g : Int → Int} {l n : Int} (hl : 0 ≤ l ∧ l < 4) (hn : 1 ≤ n ∧ n ≤ 12) (hh : m 3 ≤ 999) (hm : sq_ok m) (ho : m (5 + 3 * l) = 1) : ∀ (q : Nat) (x v : Int) (H : hp_H), 0 ≤ v → v ≤ m 0 → (m 0 - v).toNat < q → tr H 15 m → he_ H n g → pp H m → H 211 5 = m 4 → er H m (m 3) n →
    ∃ H', f_X3_goalsThatFit_14 q l x v H = some (sq_vals m (7 + 3 * l) l n g (m 0 - v).toNat v x, H') ∧ fs H H' := by
  have a0 := hm.1
  have a2 := hm.2.2.1
  intro q
  induction q with
  | zero => intro x v H _ _ h; omega
  | succ q ih =>
    intro x v H v0 vm hq ht hg hp h5 he
    rw [f_X3_goalsThatFit_14, ht.1]
    by_cases hv : v < m 0
    · obtain ⟨m', p1, p2, p3, p4, p5⟩ := hp
      obtain ⟨H2, g1, g2, g3⟩ := fo_anew ht p1 p2 p3 p4 p5
      have e4' : m' 4 = m 4 := by rw [← p1.2.2.2.2.1]; exact h5
      have em : (fun k => if k = 4 then m' 4 else m k) = m := by funext k; split <;> simp_all
      rw [em] at g3
      rw [if_pos hv, g1, pu_b1, pu_ck hl, pu_let]
      have t3 := fo_goal (v := v) hl g3
      generalize hK : hp_up H2 217 l v = K at t3 ⊢
      have fK : ∀ b, b ≠ 211 → b ≠ 216 → b ≠ 217 → K b = H b := fun b b1 b2 b3 => by rw [← hK, pu_upa b3, g2 b b1 b2 b3]
      have fs3 : fs H K := fun b hb => fK b (by omega) (by omega) (by omega)
      have e : ∀ k, k ≠ 7 + 3 * l → sq_set m (7 + 3 * l) v k = m k := fun k hk => if_neg hk
      have he3 : er K m (m 3) n := er_fr he (by rw [fK 199 (by omega) (by omega) (by omega)]) (by rw [fK 199 (by omega) (by omega) (by omega)]) (fun b b1 b2 => fK b (by omega) (by omega) (by omega)) a2.2
      have he4 : er K (sq_set m (7 + 3 * l) v) (sq_set m (7 + 3 * l) v 3) n := by
        rw [e 3 (by omega)]
        exact er_congr he3 (e 1 (by omega)) (e 2 (by omega)) (fun j hj => e j (by omega))
      obtain ⟨H4, i, w1, w2, w3, w4⟩ := fo_fits (g := g) hl hn (by rw [e 3 (by omega)]; exact hh) t3 (sq_goal_ok hm hl (by omega)) he4 (fs_he fs3 hg) (by rw [e _ (by omega)]; exact ho)
      rw [w1, pu_b2, pu_let, pu_let, pu_let, pu_01, pu_w (by omega), show (m 0 - v).toNat = (m 0 - (v + 1)).toNat + 1 by omega]
      rw [e 3 (by omega)] at w4
      obtain ⟨H5, z1, z2⟩ := ih (hp_or x (if sq_fit l g n.toNat 0 (sq_set m (7 + 3 * l) v) = true then hp_shl 1 v else 0)) (v + 1) H4 (by omega) (by omega) (by omega) (fs_tr (fs3.tr w2.fs) ht (by omega)) (fs_he (fs3.tr w2.fs) hg) (pp_of w3 (by rw [sq_hrs_at _ (by omega), e _ (by omega)]) (by rw [sq_hrs_at _ (by omega), e _ (by omega)]) (by rw [sq_hrs_at _ (by omega), e _ (by omega)]) (fun j hj => by rw [sq_hrs_at _ (by omega), e _ (by omega)])) (by rw [w3.2.2.2.2.1, sq_hrs_at _ (by omega), e _ (by omega)]) (er_congr w4 (e 1 (by omega)).symm (e 2 (by omega)).symm (fun j hj => (e j (by omega)).symm))
      exact ⟨H5, z1, (fs3.tr w2.fs).tr z2⟩
    · rw [if_neg hv]
      exact ⟨H, by rw [show (m 0 - v).toNat = 0 by omega]; rfl, fs.rf H⟩
theorem fo_goals {H : hp_H} {m g : Int → Int} {l n : Int} (hl : 0 ≤ l ∧ l < 4) (hn : 1 ≤ n ∧ n ≤ 12) (hh : m 3 ≤ 999) (ht : tr H 15 m) (hm : sq_ok m) (hg : he_ H n g) (ho : m (5 + 3 * l) = 1) : ∃ H', f_X3_goalsThatFit l H = some (sq_vals m (7 + 3 * l) l n g (m 0).toNat 0 0, H') ∧ fs H H' := by
  have a0 := hm.1
  obtain ⟨H2, g1, g2, g3, g4⟩ := fo_prepare (n := n) ht hm (by omega)
  obtain ⟨H4, k1, k2⟩ := fo_go_14 (g := g) hl hn hh hm ho 1000 0 0 H2 (by omega) (by omega) (by omega) (fs_tr g2 ht (by omega)) (fs_he g2 hg) (pp_of g3 rfl rfl rfl (fun _ _ => rfl)) g3.2.2.2.2.1 g4
  unfold f_X3_goalsThatFit
  rw [hg.1, g1, pu_b1, k1, pu_b2, Int.sub_zero]
  exact ⟨H4, rfl, g2.tr k2⟩
/-! counts -/
theorem sq_ld4 {m : Int → Int} {p : Int} (hp : 0 ≤ p) : sq_ld m 4 p = (if sq_c m 0 = p then 1 else 0) + (if sq_c m 1 = p then 1 else 0) + (if sq_c m 2 = p then 1 else 0) + (if sq_c m 3 = p then 1 else 0) := by
  have st : ∀ l : Nat, sq_ld m (l + 1) p = sq_ld m l p + (if sq_c m (l : Int) = p then 1 else 0) := fun l => by
    show sq_add (sq_ld m l) (sq_car m (l : Int) (sq_ld m l)) p = _
    have e : sq_car m (l : Int) (sq_ld m l) = sq_c m (l : Int) := by unfold sq_c; rw [Int.toNat_natCast]
    rw [e]
    unfold sq_add
    by_cases h : sq_c m (l : Int) = NN
    · rw [if_pos h, if_neg (by rw [h]; unfold NN; omega)]
      omega
    · rw [if_neg h]
      by_cases h2 : p = sq_c m (l : Int)
      · rw [if_pos h2, if_pos h2.symm]
      · rw [if_neg h2, if_neg (fun q => h2 q.symm)]
        omega
  rw [st 3, st 2, st 1, st 0]
  show 0 + _ + _ + _ + _ = _
  simp
theorem fo_tally {H : hp_H} {m : Int → Int} (hm : sq_ok m) (hc : ∀ j, 0 ≤ j → j < 4 → H 209 j = sq_c m j) (hb : ∀ p, 0 ≤ p → p < 6 → 0 ≤ H 225 p ∧ H 225 p ≤ 1000) : ∃ H', f_X3_tally H = some (sq_n m, H') ∧ (∀ b, b ≠ 225 → H' b = H b) ∧ (∀ p, 0 ≤ p → p < 6 → H' 225 p = H 225 p + sq_ld m 4 p) := by
  have a2 := hm.2.2.1
  have st : ∀ (n : Nat) (x l : Int) (K : hp_H), 0 ≤ l → l < 4 → 0 ≤ x → x ≤ 4 → (∀ b, b ≠ 225 → K b = H b) → (∀ p, 0 ≤ p → p < 6 → 0 ≤ K 225 p ∧ K 225 p ≤ 1004) → ∃ K', f_X3_tally_4 (n + 1) x l K = f_X3_tally_4 n (x + if sq_c m l = NN then 0 else 1) (l + 1) K' ∧ (∀ b, b ≠ 225 → K' b = H b) ∧ (∀ p, 0 ≤ p → p < 6 → K' 225 p = K 225 p + if sq_c m l = p then 1 else 0) := by
    intro n x l K l0 l4 x0 x4 hK hKb
    unfold f_X2_carrierThen at *
    rw [f_X3_tally_4, if_pos l4]
    unfold f_X2_carrierThen
    rw [pu_ck ⟨l0, l4⟩, pu_b1, hK 209 (by omega), hc l l0 l4]
    by_cases hq : sq_c m l = NN
    · rw [if_pos (show _ = (-1000000 : Int) from hq), pu_b2, pu_let, pu_w (by omega), if_pos hq, Int.add_zero]
      exact ⟨K, rfl, hK, fun p p0 _ => by rw [if_neg (by rw [hq]; unfold NN; omega)]; omega⟩
    · have hin : 0 ≤ sq_c m l ∧ sq_c m l < m 2 := by
        rcases sq_car_in hm l (sq_ld m l.toNat) with h | h
        · exact absurd h hq
        · exact h
      have := hKb (sq_c m l) hin.1 (by omega)
      rw [if_neg (show ¬ _ = (-1000000 : Int) from hq), pu_ck (by omega), pu_let, pu_let, pu_b2, pu_let, pu_w (by omega), pu_w (by omega), pu_w (by omega), if_neg hq]
      refine ⟨_, rfl, fun b b1 => by rw [pu_upa b1]; exact hK b b1, fun p p0 p6 => ?_⟩
      by_cases hp : p = sq_c m l
      · rw [if_pos hp.symm, hp, pu_ups]
      · rw [if_neg (fun q => hp q.symm), pu_upj hp]; omega
  unfold f_X3_tally
  have n0 : ∀ l, 0 ≤ (if sq_c m l = NN then (0 : Int) else 1) ∧ (if sq_c m l = NN then (0 : Int) else 1) ≤ 1 := fun l => by split <;> omega
  have i0 : ∀ l p, 0 ≤ (if sq_c m l = p then (1 : Int) else 0) ∧ (if sq_c m l = p then (1 : Int) else 0) ≤ 1 := fun l p => by split <;> omega
  have u0 := n0 0
  have u1 := n0 1
  have u2 := n0 2
  obtain ⟨K1, a1, b1, c1⟩ := st 999 0 0 H (by omega) (by omega) (by omega) (by omega) (fun _ _ => rfl) (fun p p0 p6 => by have := hb p p0 p6; omega)
  obtain ⟨K2, a2', b2, c2⟩ := st 998 _ (0 + 1) K1 (by omega) (by omega) (show 0 ≤ 0 + (if sq_c m 0 = NN then (0 : Int) else 1) by omega) (by omega) b1 (fun p p0 p6 => by have := hb p p0 p6; have := i0 0 p; rw [c1 p p0 p6]; omega)
  obtain ⟨K3, a3, b3, c3⟩ := st 997 _ (0 + 1 + 1) K2 (by omega) (by omega) (show 0 ≤ 0 + (if sq_c m 0 = NN then (0 : Int) else 1) + (if sq_c m (0 + 1) = NN then (0 : Int) else 1) by have := n0 (0 + 1); omega) (by have := n0 (0 + 1); omega) b2 (fun p p0 p6 => by have := hb p p0 p6; have := i0 0 p; have := i0 (0 + 1) p; rw [c2 p p0 p6, c1 p p0 p6]; omega)
  obtain ⟨K4, a4, b4, c4⟩ := st 996 _ (0 + 1 + 1 + 1) K3 (by omega) (by omega) (show 0 ≤ 0 + (if sq_c m 0 = NN then (0 : Int) else 1) + (if sq_c m (0 + 1) = NN then (0 : Int) else 1) + (if sq_c m (0 + 1 + 1) = NN then (0 : Int) else 1) by have := n0 (0 + 1); have := n0 (0 + 1 + 1); omega) (by have := n0 (0 + 1); have := n0 (0 + 1 + 1); omega) b3 (fun p p0 p6 => by have := hb p p0 p6; have := i0 0 p; have := i0 (0 + 1) p; have := i0 (0 + 1 + 1) p; rw [c3 p p0 p6, c2 p p0 p6, c1 p p0 p6]; omega)
  rw [a1, a2', a3, a4, f_X3_tally_4, if_neg (by omega), pu_b2]
  refine ⟨K4, ?_, b4, fun p p0 p6 => ?_⟩
  · congr 2
    show 0 + (if sq_c m 0 = NN then (0 : Int) else 1) + (if sq_c m 1 = NN then (0 : Int) else 1) + (if sq_c m 2 = NN then (0 : Int) else 1) + (if sq_c m 3 = NN then (0 : Int) else 1) = sq_n m
    unfold sq_n
    omega
  · rw [c4 p p0 p6, c3 p p0 p6, c2 p p0 p6, c1 p p0 p6, sq_ld4 p0]
    show H 225 p + (if sq_c m 0 = p then (1 : Int) else 0) + (if sq_c m 1 = p then (1 : Int) else 0) + (if sq_c m 2 = p then (1 : Int) else 0) + (if sq_c m 3 = p then (1 : Int) else 0) = _
    omega
