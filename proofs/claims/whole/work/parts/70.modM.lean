def sq_tt (up k : Int) : Nat → Int → Int → Int
  | 0, _, t => t
  | r + 1, set, t => sq_tt up k r (set + 1) (if hp_and set (hp_xor up (-1)) = 0 then t + sq_ww up k set else t)
theorem sq_tt_all : ∀ up : Fin 64, ∀ k : Fin 11, sq_tt up.val k.val (up.val + 1) 0 0 = 10 ^ (sq_cnt up.val).toNat := by decide +kernel
def sq_ss (m : Int → Int) (l n k up : Int) : Nat → Int → Int → Int
  | 0, _, t => t
  | r + 1, set, t => sq_ss m l n k up r (set + 1) (if hp_and set (hp_xor up (-1)) = 0 ∧ sq_by l (n + 1).toNat 0 (sq_hm m (hp_or (m 4) set)) ≠ NN then t + sq_ww up k set else t)
theorem sq_ss_app {m : Int → Int} {l n k up : Int} : ∀ (r s : Nat) (set t : Int), sq_ss m l n k up (r + s) set t = sq_ss m l n k up s (set + r) (sq_ss m l n k up r set t)
  | 0, s, set, t => by simp [sq_ss]
  | r + 1, s, set, t => by
    rw [show r + 1 + s = (r + s) + 1 by omega, sq_ss, sq_ss_app r s, sq_ss, show set + 1 + (r : Int) = set + ((r + 1 : Nat) : Int) by omega]
theorem sq_ss_no {m : Int → Int} {l n k up : Int} : ∀ (r : Nat) (set t : Int), (∀ j, set ≤ j → j < set + r → hp_and j (hp_xor up (-1)) ≠ 0) → sq_ss m l n k up r set t = t
  | 0, set, t, _ => rfl
  | r + 1, set, t, h => by
    rw [sq_ss, sq_ss_no r (set + 1) _ (fun j j0 j1 => h j (by omega) (by omega)), if_neg (fun q => h set (by omega) (by omega) q.1)]
def sq_upm (m : Int → Int) : Int := hp_and (sq_all m) (hp_xor (m 4) (-1))
theorem sq_upm_in {m : Int → Int} (hm : sq_ok m) : 0 ≤ sq_upm m ∧ sq_upm m ≤ sq_all m ∧ sq_all m ≤ 63 := by
  have a2 := hm.2.2.1
  have ha := sq_all_in (m := m) (by omega)
  have hu := hp_andn_in ha hm.2.2.2.2.1
  unfold sq_upm
  omega
theorem sq_ss_up {m : Int → Int} {l n k : Int} (hm : sq_ok m) : sq_ss m l n k (sq_upm m) (sq_all m + 1).toNat 0 0 = sq_ss m l n k (sq_upm m) (sq_upm m + 1).toNat 0 0 := by
  have hu := sq_upm_in hm
  rw [show (sq_all m + 1).toNat = (sq_upm m + 1).toNat + (sq_all m - sq_upm m).toNat by omega, sq_ss_app, sq_ss_no]
  intro j j0 j1 hj
  have hs := sq_setup hm (s := j) (by omega) (by omega)
  have := hs.2 (hs.1.mp hj)
  unfold sq_upm at j0 j1
  omega
theorem sq_sub {up set : Int} (h : hp_and set (hp_xor up (-1)) = 0) {p : Int} (hp : 0 ≤ p ∧ p < 32) (hb : bi set p = true) : bi up p = true := by
  have : bi (hp_and set (hp_xor up (-1))) p = false := by rw [h, bi_0]
  rw [bi_and, bi_not hp, hb] at this
  simpa using this
theorem sq_ww_cn {m : Int → Int} (hm : sq_ok m) {k set : Int} (h0 : 0 ≤ set) (h1 : set ≤ sq_upm m) : k ^ (sq_cn set (m 2).toNat) * (10 - k) ^ (sq_cn (hp_and (sq_upm m) (hp_xor set (-1))) (m 2).toNat) = sq_ww (sq_upm m) k set := by
  have hu := sq_upm_in hm
  have hx := hp_andn_in (x := sq_upm m) (y := set) (by omega) (by omega)
  rw [(sq_cn_eq hm h0 (by omega)).1, (sq_cn_eq hm (x := hp_and (sq_upm m) (hp_xor set (-1))) (by omega) (by omega)).1]
  rfl
theorem sq_ww_in {m : Int → Int} (hm : sq_ok m) {k set : Int} (hk : 0 ≤ k ∧ k ≤ 10) (h0 : 0 ≤ set) (h1 : set ≤ sq_upm m) (hs : hp_and set (hp_xor (sq_upm m) (-1)) = 0) : 0 ≤ sq_ww (sq_upm m) k set ∧ sq_ww (sq_upm m) k set ≤ 1000000 := by
  have a2 := hm.2.2.1
  have := mh_si_105 (l := 0) (n := 0) (k := k) (w := 0) (up := sq_upm m) (set := set) (a6 := 0) (a8 := 0) (M := fun _ _ => m 2) a2 hk (fun p p0 p1 hb => sq_sub hs (by omega) hb) 1000 0 (by omega) (by simp; omega) (by simp [sq_cn])
  rw [sq_ww_cn hm h0 h1] at this
  exact this.2
theorem mh_si_82 {l n k w : Int} {M0 : hp_H} (hm : sq_ok (M0 4)) (hl : 0 ≤ l ∧ l < 4) (hn : 0 ≤ n ∧ n ≤ 99) (hk : 0 ≤ k ∧ k ≤ 10) (hh : M0 4 3 ≤ 999) : ∀ (q : Nat) (s t set : Int) (M : hp_H), 0 ≤ set → set ≤ sq_upm (M0 4) + 1 → (sq_upm (M0 4) + 1 - set).toNat < q → 0 ≤ s → s ≤ 1000000 * set → 0 ≤ t → t ≤ 1000000 * set → fi M0 M → ∃ M', f_X8_sick_82 q l n k w (sq_upm (M0 4)) s t set M = some (sq_ss (M0 4) l n k (sq_upm (M0 4)) (sq_upm (M0 4) + 1 - set).toNat set s, sq_tt (sq_upm (M0 4)) k (sq_upm (M0 4) + 1 - set).toNat set t, M') ∧ fi M0 M' ∧ 0 ≤ sq_ss (M0 4) l n k (sq_upm (M0 4)) (sq_upm (M0 4) + 1 - set).toNat set s ∧ sq_ss (M0 4) l n k (sq_upm (M0 4)) (sq_upm (M0 4) + 1 - set).toNat set s ≤ 64000000 := by
  have a2 := hm.2.2.1
  have a4 := hm.2.2.2.2.1
  have hu := sq_upm_in hm
  intro q
  induction q with
  | zero => intro s t set M _ _ h; omega
  | succ q ih =>
    intro s t set M l0 l1 hq s0 s1 t0 t1 hf
    rw [f_X8_sick_82]
    by_cases hv : sq_upm (M0 4) < set
    · rw [if_pos hv, show (sq_upm (M0 4) + 1 - set).toNat = 0 by omega]
      exact ⟨M, rfl, hf, s0, by show s ≤ _; omega⟩
    · rw [if_neg hv, show (sq_upm (M0 4) + 1 - set).toNat = (sq_upm (M0 4) + 1 - (set + 1)).toNat + 1 by omega, sq_ss, sq_tt]
      by_cases hA : hp_and set (hp_xor (sq_upm (M0 4)) (-1)) = 0
      · have hw := sq_ww_in hm hk l0 (by omega) hA
        have h105 := (mh_si_105 (l := l) (n := n) (k := k) (w := w) (up := sq_upm (M0 4)) (set := set) (a6 := s) (a8 := t) (M := M) (by rw [hf.e4]; exact a2) hk (fun p p0 p1 hb => sq_sub hA (by rw [hf.e4] at p1; omega) hb) 1000 0 (by rw [hf.e4]; omega) (by rw [hf.e4]; simp; omega) (by simp [sq_cn])).1
        rw [hf.e4, sq_ww_cn hm l0 (by omega)] at h105
        have h105 : f_X8_sick_105 1000 l n k w (sq_upm (M0 4)) s t set 1 0 M = some (sq_ww (sq_upm (M0 4)) k set) := by
          rw [← h105]; simp [sq_cn]
        obtain ⟨M2, g1, g2, g3⟩ := mo_lay hf.2
        rw [hf.e4] at g2
        have hs := mh_home g3.2 (hp_or (M2 6 4) set)
        have ho := hp_or_in (x := M0 4 4) (y := set) a4 (by omega)
        have e6 : hp_up M2 6 4 (hp_or (M2 6 4) set) 6 = sq_hm (M0 4) (hp_or (M0 4 4) set) := by rw [hs.2, g2]
        have e3 : sq_hm (M0 4) (hp_or (M0 4 4) set) 3 = M0 4 3 := by unfold sq_hm; rw [if_neg (by omega)]
        obtain ⟨M4, j, v1, v2, -⟩ := mh_doneBy (l := l) (most := n) hs.1.2 hl (by rw [e6]; exact sq_hm_ok hm ho) (by omega) (by rw [e6, e3]; omega)
        rw [e6] at v1
        have ff := ((hf.tr g3).tr hs.1).tr v2
        rw [if_pos hA, h105, pu_b1, g1, pu_b1, pu_let, pu_let, v1, pu_b2, pu_let, pu_let, pu_let, pu_w (by omega), if_pos hA, pu_wl (x := t + sq_ww (sq_upm (M0 4)) k set) (by omega)]
        by_cases hd : sq_by l (n + 1).toNat 0 (sq_hm (M0 4) (hp_or (M0 4 4) set)) = NN
        · rw [if_pos (show _ = (-1000000 : Int) from hd), if_neg (fun q => q.2 hd), Int.add_zero, pu_wl (by omega)]
          exact ih s _ (set + 1) M4 (by omega) (by omega) (by omega) s0 (by omega) (by omega) (by omega) ff
        · rw [if_neg (show ¬ _ = (-1000000 : Int) from hd), if_pos ⟨hA, hd⟩, pu_wl (by omega)]
          exact ih _ _ (set + 1) M4 (by omega) (by omega) (by omega) (by omega) (by omega) (by omega) (by omega) ff
      · rw [if_neg hA, if_neg hA, if_neg (fun q => hA q.1), pu_let, pu_w (by omega)]
        exact ih s t (set + 1) M (by omega) (by omega) (by omega) s0 (by omega) t0 (by omega) hf
theorem fo_li_29 {m : Int → Int} {l n k w : Int} (hl : 0 ≤ l ∧ l < 4) (hm : sq_ok m) (hn : 0 ≤ n ∧ n ≤ 99) (hk : 0 ≤ k ∧ k ≤ 10) (hh : m 3 ≤ 999) : ∀ (q : Nat) (s set : Int) (H : hp_H), 0 ≤ set → set ≤ sq_all m + 1 → (sq_all m + 1 - set).toNat < q → 0 ≤ s → s ≤ 1000000 * set → tr H 15 m → pp H m → er H m (m 3) n →
    ∃ H', f_X3_likelihood_29 q l n k w (sq_all m) (sq_upm m) s set H = some (sq_ss m l n k (sq_upm m) (sq_all m + 1 - set).toNat set s, H') ∧ fs H H' := by
  have a2 := hm.2.2.1
  have a4 := hm.2.2.2.2.1
  have hu := sq_upm_in hm
  intro q
  induction q with
  | zero => intro s set H _ _ h; omega
  | succ q ih =>
    intro s set H l0 l1 hq s0 s1 ht hp he
    rw [f_X3_likelihood_29]
    by_cases hv : sq_all m < set
    · rw [if_pos hv, show (sq_all m + 1 - set).toNat = 0 by omega]
      exact ⟨H, rfl, fs.rf H⟩
    · have hx := hp_andn_in (x := sq_upm m) (y := set) (by omega) (by omega)
      have c1 := (sq_cn_eq hm l0 (show set ≤ sq_all m by omega)).2
      have c2 := (sq_cn_eq hm hx.1 (show hp_and (sq_upm m) (hp_xor set (-1)) ≤ sq_all m by omega)).2
      have p1 := fo_power (x := k) (n := sq_cnt set) H hk c1
      have p2 := fo_power (x := 10 - k) (n := sq_cnt (hp_and (sq_upm m) (hp_xor set (-1)))) H (by omega) c2
      have b0 := Int.mul_nonneg p1.2.1 p2.2.1
      have b1 : k ^ (sq_cnt set).toNat * (10 - k) ^ (sq_cnt (hp_and (sq_upm m) (hp_xor set (-1)))).toNat ≤ 1000000 * 1000000 := Int.mul_le_mul p1.2.2 p2.2.2 p2.2.1 (by omega)
      rw [if_neg hv, fo_bc H (by omega), pu_b1, p1.1, pu_b1, fo_bc H (by omega), pu_b1, pu_w (x := 10 - k) (by omega), p2.1, pu_b1, pu_wl (by omega), pu_let, show k ^ (sq_cnt set).toNat * (10 - k) ^ (sq_cnt (hp_and (sq_upm m) (hp_xor set (-1)))).toNat = sq_ww (sq_upm m) k set from rfl, show (sq_all m + 1 - set).toNat = (sq_all m + 1 - (set + 1)).toNat + 1 by omega, sq_ss]
      by_cases hA : hp_and set (hp_xor (sq_upm m) (-1)) = 0
      · have hsu := sq_setup hm (s := set) l0 (by omega)
        have hle : set ≤ sq_upm m := hsu.2 (hsu.1.mp hA)
        have hw := sq_ww_in hm hk l0 hle hA
        rw [if_pos hA]
        by_cases hc : sq_ww (sq_upm m) k set = 0
        · rw [if_neg (by rw [hc]; decide), pu_b2, pu_let, pu_w (by omega), hc, Int.add_zero, ite_self]
          exact ih s (set + 1) H (by omega) (by omega) (by omega) s0 (by omega) ht hp he
        · have ho := hp_or_in (x := m 4) (y := set) a4 (by omega)
          obtain ⟨H2, g1, g2, g3, g4⟩ := fo_itw (x := hp_or (m 4) set) (l := l) (n := n) (N := n) hl ht hm hp he ho (by omega) (by omega) (by omega)
          have t2 := fs_tr g2 ht (by omega)
          rw [if_pos (by unfold hp_cmp; rw [if_pos (by omega)]; omega), ht.2.2.2.2.1, g1, pu_b2, pu_10]
          by_cases hd : sq_by l (n + 1).toNat 0 (sq_hm m (hp_or (m 4) set)) = NN
          · rw [if_pos hd, pu_b2, pu_let, pu_w (by omega), if_neg (fun q => q.2 hd)]
            obtain ⟨H3, r1, r2⟩ := ih s (set + 1) H2 (by omega) (by omega) (by omega) s0 (by omega) t2 g3 g4
            exact ⟨H3, r1, g2.tr r2⟩
          · rw [if_neg hd, pu_let, pu_b2, pu_let, pu_w (by omega), if_pos ⟨hA, hd⟩, pu_wl (by omega)]
            obtain ⟨H3, r1, r2⟩ := ih (s + sq_ww (sq_upm m) k set) (set + 1) H2 (by omega) (by omega) (by omega) (by omega) (by omega) t2 g3 g4
            exact ⟨H3, r1, g2.tr r2⟩
      · rw [if_neg hA, pu_b2, pu_let, pu_w (by omega), if_neg (fun q => hA q.1)]
        exact ih s (set + 1) H (by omega) (by omega) (by omega) s0 (by omega) ht hp he
