def sq_best (lane goal : Int) : Nat → Int → (Int → Int) → Int → Int → Int × Int
  | 0, _, _, bs, b => (bs, b)
  | r + 1, k, m, bs, b => if sq_by 3 (b - k + 1).toNat 0 (sq_post m 3 lane goal) = NN then sq_best lane goal r (k + 1) (sq_hr m) bs b else sq_best lane goal r (k + 1) (sq_hr m) k (k + sq_by 3 (b - k + 1).toNat 0 (sq_post m 3 lane goal))
theorem fo_so_26 {lane goal what : Int} {m0 : Int → Int} (hm0 : sq_ok m0) (hh : m0 3 ≤ 999) (h1 : 0 ≤ lane ∧ lane < m0 0) (h2 : 0 ≤ goal ∧ goal < m0 0) : ∀ (q : Nat) (k bs b : Int) (m : Int → Int) (H : hp_H), 0 ≤ k → k ≤ m0 1 → (m0 1 - k).toNat < q → 0 ≤ b → b ≤ 99 → tr H 15 m0 → tr H 218 m → sq_ok m → pp H m0 → H 211 5 = m0 4 → er H m0 (m0 3) 99 → m 0 = m0 0 → m 1 = m0 1 → m 2 = m0 2 → m 4 = m0 4 → (∀ j, 17 ≤ j → m j = m0 j) → m 3 = m0 3 + k →
    ∃ H', f_X3_soonest_26 q lane goal what bs b k H = some ((sq_best lane goal (m0 1 - k).toNat k m bs b).1, (sq_best lane goal (m0 1 - k).toNat k m bs b).2, H') ∧ fs H H' := by
  have a1 := hm0.2.1
  have a2 := hm0.2.2.1
  have a3 := hm0.2.2.2.1
  intro q
  induction q with
  | zero => intro k bs b m H _ _ h; omega
  | succ q ih =>
    intro k bs b m H k0 kn hq b0 b9 ht tl hm hp h5 he e0 e1 e2 e4 e17 e3
    rw [f_X3_soonest_26, ht.2.1]
    by_cases hk : k < m0 1
    · obtain ⟨m', p1, p2, p3, p4, p5⟩ := hp
      obtain ⟨H2, g1, g2, g3⟩ := to_takeL_tr (t := 211) (u := 218) (by unfold ap; omega) tl p1 (by rw [p2, e0]) (fun j hj => by rw [p5 j hj, e17 j hj]) (by rw [p3, e1]) (by rw [p4, e2])
      have e4' : m' 4 = m 4 := by rw [e4, ← p1.2.2.2.2.1]; exact h5
      have em : (fun k => if k = 4 then m' 4 else m k) = m := by funext k; split <;> simp_all
      rw [em] at g3
      rw [if_pos hk, g1, pu_b1]
      obtain ⟨H3, q1, q2, q3⟩ := to_putOut (l := 3) (lane := lane) (goal := goal) g3 (by omega) (by omega)
      rw [q1, pu_b1, pu_w (x := b - k) (by omega)]
      have fr3 : ∀ x, x ≠ 211 → x ≠ 216 → x ≠ 217 → H3 x = H x := fun x x1 x2 x3 => by rw [q2 x x1 (by omega) (by omega), g2 x x1 (by omega) (by omega)]
      have ep : ∀ k, k ≠ 14 ∧ k ≠ 15 ∧ k ≠ 16 → sq_post m 3 lane goal k = m k := fun k hk => by unfold sq_post; simp [hk]
      have he3 : er H3 m0 (m0 3) 99 := er_fr he (by rw [fr3 199 (by omega) (by omega) (by omega)]) (by rw [fr3 199 (by omega) (by omega) (by omega)]) (fun x x1 x2 => fr3 x (by omega) (by omega) (by omega)) a2.2
      obtain ⟨H4, i, k1, k2, k3, k4, k5, -⟩ := fo_gut (l := 3) (f := m0 3) (n := 99) (most := b - k) (m0 := m0) (by omega) (by omega) a3.1 (by omega) q3 (sq_post_ok hm (by omega) (by omega) (by omega) (by omega)) he3 (by rw [ep 1 (by omega)]; exact e1) (by rw [ep 2 (by omega)]; exact e2) (fun j hj => by rw [ep j (by omega)]; exact e17 j hj) (by rw [ep 3 (by omega)]; omega) (by rw [ep 3 (by omega)]; omega) (by rw [ep 3 (by omega)]; omega)
      rw [k1, pu_b2]
      have tl4 : tr H4 218 m := tr_fr tl (fun x x1 x2 => by rw [k2 x (by omega) (by omega) (by omega) (by omega), fr3 x (by omega) (by omega) (by omega)])
      have t15 : tr H4 15 m0 := tr_fr ht (fun x x1 x2 => by rw [k2 x (by omega) (by omega) (by omega) (by omega), fr3 x (by omega) (by omega) (by omega)])
      obtain ⟨H5, w1, w2, w3, w4, -⟩ := to_pass tl4 hm (by unfold et; omega) (er_congr k4 e1 e2 e17) (by omega) (by omega) (by omega) a3.1
      have hby := sq_by_sh 3 (b - k + 1).toNat 0 (sq_post m 3 lane goal)
      have es : (if sq_by 3 (b - k + 1).toNat 0 (sq_post m 3 lane goal) = -1000000 then some (bs, b) else hp_let (hp_w (k + sq_by 3 (b - k + 1).toNat 0 (sq_post m 3 lane goal))) (fun v6_20 => some (k, v6_20))) = some (if sq_by 3 (b - k + 1).toNat 0 (sq_post m 3 lane goal) = NN then (bs, b) else (k, k + sq_by 3 (b - k + 1).toNat 0 (sq_post m 3 lane goal))) := by
        by_cases hq : sq_by 3 (b - k + 1).toNat 0 (sq_post m 3 lane goal) = NN
        · rw [if_pos (show _ = (-1000000 : Int) from hq), if_pos hq]
        · rw [if_neg (show ¬ _ = (-1000000 : Int) from hq), if_neg hq, pu_let, pu_w (by omega)]
      have eb : ∃ bs2 b2, (if sq_by 3 (b - k + 1).toNat 0 (sq_post m 3 lane goal) = NN then (bs, b) else (k, k + sq_by 3 (b - k + 1).toNat 0 (sq_post m 3 lane goal))) = (bs2, b2) ∧ 0 ≤ b2 ∧ b2 ≤ 99 ∧ sq_best lane goal ((m0 1 - (k + 1)).toNat + 1) k m bs b = sq_best lane goal (m0 1 - (k + 1)).toNat (k + 1) (sq_hr m) bs2 b2 := by
        by_cases hq : sq_by 3 (b - k + 1).toNat 0 (sq_post m 3 lane goal) = NN
        · refine ⟨bs, b, if_pos hq, b0, b9, ?_⟩
          rw [sq_best, if_pos hq]
        · refine ⟨k, _, if_neg hq, by omega, by omega, ?_⟩
          rw [sq_best, if_neg hq]
      obtain ⟨bs2, b2, eb1, eb2, eb3, eb4⟩ := eb
      rw [es, eb1, pu_b2, w1, pu_b1, pu_let, pu_w (by omega)]
      have t5 : tr H5 211 (sq_hrs (sq_post m 3 lane goal) i) := tr_fr k3 (fun x x1 x2 => w2 x (by omega) (by omega) (by omega) (by omega))
      have ei : ∀ k, k ≠ 3 ∧ k ≠ 6 ∧ k ≠ 9 ∧ k ≠ 12 ∧ k ≠ 15 → k ≠ 14 ∧ k ≠ 16 → sq_hrs (sq_post m 3 lane goal) i k = m k := fun k hk hk2 => by rw [sq_hrs_at _ hk, ep k (by omega)]
      have eh3 : sq_hr m 3 = m 3 + 1 := rfl
      obtain ⟨H6, z1, z2⟩ := ih (k + 1) bs2 b2 (sq_hr m) H5 (by omega) (by omega) (by omega) eb2 eb3 (tr_fr t15 (fun x x1 x2 => w2 x (by omega) (by omega) (by omega) (by omega))) w3 (sq_hr_ok hm (by omega)) (pp_of t5 (by rw [ei 0 (by omega) (by omega), e0]) (by rw [ei 1 (by omega) (by omega), e1]) (by rw [ei 2 (by omega) (by omega), e2]) (fun j hj => by rw [ei j (by omega) (by omega), e17 j hj])) (by rw [t5.2.2.2.2.1, ei 4 (by omega) (by omega), e4]) (er_congr w4 (by rw [sq_hr_at m (by omega), e1]) (by rw [sq_hr_at m (by omega), e2]) (fun j hj => by rw [sq_hr_at m (by omega), e17 j hj])) (by rw [sq_hr_at m (by omega), e0]) (by rw [sq_hr_at m (by omega), e1]) (by rw [sq_hr_at m (by omega), e2]) (by rw [sq_hr_at m (by omega), e4]) (fun j hj => by rw [sq_hr_at m (by omega), e17 j hj]) (by omega)
      refine ⟨H6, ?_, ?_⟩
      · rw [z1, show (m0 1 - k).toNat = (m0 1 - (k + 1)).toNat + 1 by omega, eb4]
      · have f1 : fs H H3 := fun x hx => fr3 x (by omega) (by omega) (by omega)
        have f2 : fs H4 H5 := fun x hx => w2 x (by omega) (by omega) (by omega) (by omega)
        exact ((f1.tr k2.fs).tr f2).tr z2
    · rw [if_neg hk]
      exact ⟨H, by rw [show (m0 1 - k).toNat = 0 by omega]; rfl, fs.rf H⟩
theorem fo_soonest {H : hp_H} {m : Int → Int} {lane goal what : Int} (ht : tr H 15 m) (hm : sq_ok m) (h1 : 0 ≤ lane ∧ lane < m 0) (h2 : 0 ≤ goal ∧ goal < m 0) (hh : m 3 ≤ 999) : ∃ H', f_X3_soonest lane goal what H = some (if what = 0 then (sq_best lane goal (m 1).toNat 0 m NN 99).1 else if (sq_best lane goal (m 1).toNat 0 m NN 99).1 = NN then NN else (sq_best lane goal (m 1).toNat 0 m NN 99).2, H') ∧ fs H H' := by
  have a1 := hm.2.1
  have a2 := hm.2.2.1
  obtain ⟨H2, g1, g2, g3, g4⟩ := fo_prepare (n := 99) ht hm (by omega)
  obtain ⟨H3, e1, e2, e3, e4, e5⟩ := to_take (t := 218) (u := 15) (by unfold ap; omega) H2
  have t15 := fs_tr g2 ht (by omega)
  have f3 : fs H2 H3 := fun b hb => e2 b (by omega)
  obtain ⟨H4, k1, k2⟩ := fo_so_26 (lane := lane) (goal := goal) (what := what) hm hh h1 h2 1000 0 NN 99 m H3 (by omega) (by omega) (by omega) (by omega) (by omega) (fs_tr f3 t15 (by omega)) (to_take_tr e3 e4 e5 t15 a2.2) hm (pp_of (tr_fr g3 (fun x x1 x2 => e2 x (by omega))) rfl rfl rfl (fun _ _ => rfl)) (by rw [e2 211 (by omega)]; exact g3.2.2.2.2.1) (er_fr g4 (by rw [e2 199 (by omega)]) (by rw [e2 199 (by omega)]) (fun x x1 x2 => e2 x (by omega)) a2.2) rfl rfl rfl rfl (fun _ _ => rfl) (by omega)
  have k1 : f_X3_soonest_26 1000 lane goal what (-1000000) 99 0 H3 = _ := k1
  rw [Int.sub_zero] at k1
  unfold f_X3_soonest
  rw [g1, pu_b1, e1, pu_b1, k1, pu_b3]
  refine ⟨H4, ?_, (g2.tr f3).tr k2⟩
  by_cases hw : what = 0
  · rw [if_pos hw, if_pos hw]
  · rw [if_neg hw, if_neg hw]
    by_cases hb : (sq_best lane goal (m 1).toNat 0 m NN 99).1 = NN
    · rw [if_pos (show _ = (-1000000 : Int) from hb), if_pos hb, hb]
    · rw [if_neg (show ¬ _ = (-1000000 : Int) from hb), if_neg hb]
/-- whether any other lane's letter comes to the goal -/
def sq_any (m : Int → Int) (goal : Int) : Nat → Int → Bool
  | 0, _ => false
  | r + 1, lane => (decide (lane ≠ goal) && decide (sq_by 3 100 0 (sq_post m 3 lane goal) ≠ NN)) || sq_any m goal r (lane + 1)
theorem fo_un_29 {goal : Int} {m : Int → Int} (hm : sq_ok m) (hg : 0 ≤ goal ∧ goal < m 0) (hh : m 3 ≤ 999) : ∀ (q : Nat) (lane x : Int) (H : hp_H), 0 ≤ lane → lane ≤ m 0 → (m 0 - lane).toNat < q → hp_r x → tr H 15 m → pp H m → H 211 5 = m 4 → er H m (m 3) 99 →
    ∃ x' H', f_X3_unreached_29 q x goal lane H = some (x', H') ∧ fs H H' ∧ pp H' m ∧ H' 211 5 = m 4 ∧ er H' m (m 3) 99 ∧ hp_r x' ∧ (∀ p, 0 ≤ p → p < 32 → bi x' p = (bi x p && !(decide (p = goal) && sq_any m goal (m 0 - lane).toNat lane))) := by
  have a0 := hm.1
  intro q
  induction q with
  | zero => intro lane x H _ _ h; omega
  | succ q ih =>
    intro lane x H l0 lm hq hx ht hp h5 he
    rw [f_X3_unreached_29, ht.1]
    by_cases hl : lane < m 0
    · rw [if_pos hl]
      by_cases hb : bi x goal = true
      · rw [if_pos ((bi_t1 (by omega)).mpr hb)]
        have key : ∃ y H2, (if lane = goal then some (-1, H) else hp_b2 (f_X3_reaches lane goal 99 H) fun c14 H15 => if c14 = 0 then some (-1, H15) else some (hp_xor (hp_shl 1 goal) (-1), H15)) = some (if (decide (lane ≠ goal) && decide (sq_by 3 100 0 (sq_post m 3 lane goal) ≠ NN)) = true then hp_xor (hp_shl 1 goal) (-1) else -1, H2) ∧ y = (if (decide (lane ≠ goal) && decide (sq_by 3 100 0 (sq_post m 3 lane goal) ≠ NN)) = true then hp_xor (hp_shl 1 goal) (-1) else -1) ∧ fs H H2 ∧ pp H2 m ∧ H2 211 5 = m 4 ∧ er H2 m (m 3) 99 := by
          by_cases hlg : lane = goal
          · rw [if_pos hlg]
            exact ⟨_, H, by simp [hlg], rfl, fs.rf H, hp, h5, he⟩
          · obtain ⟨H2, g1, g2, g3, g4, g5⟩ := fo_rea (lane := lane) (goal := goal) (n := 99) ht hm hp h5 he (by omega) hg (by omega) (by omega) (by omega)
            have g1 : f_X3_reaches lane goal 99 H = some (if sq_by 3 100 0 (sq_post m 3 lane goal) = NN then 0 else 1, H2) := g1
            rw [if_neg hlg, g1, pu_b2, pu_10]
            refine ⟨_, H2, ?_, rfl, g2, g3, g4, g5⟩
            by_cases hr : sq_by 3 100 0 (sq_post m 3 lane goal) = NN
            · simp [hr]
            · simp [hr, hlg]
        obtain ⟨y, H2, g1, gy, g2, g3, g4, g5⟩ := key
        rw [g1, pu_b2, pu_let, pu_let, pu_w (by omega), ← gy]
        obtain ⟨x', H3, k1, k2, k3, k4, k5, k6, k7⟩ := ih (lane + 1) (hp_and x y) H2 (by omega) (by omega) (by omega) (hp_rand _ _) (fs_tr g2 ht (by omega)) g3 g4 g5
        refine ⟨x', H3, k1, g2.tr k2, k3, k4, k5, k6, fun p p0 p1 => ?_⟩
        rw [k7 p p0 p1, bi_and, gy, show (m 0 - lane).toNat = (m 0 - (lane + 1)).toNat + 1 by omega, sq_any]
        cases hd : (decide (lane ≠ goal) && decide (sq_by 3 100 0 (sq_post m 3 lane goal) ≠ NN))
        · rw [if_neg (by simp), bi_m1 ⟨p0, p1⟩]
          simp
        · rw [if_pos rfl, bi_not ⟨p0, p1⟩, bi_sh1 (by omega) ⟨p0, p1⟩]
          by_cases hpg : p = goal <;> simp [hpg]
      · rw [if_neg (fun q => hb ((bi_t1 (by omega)).mp q))]
        refine ⟨x, H, rfl, fs.rf H, hp, h5, he, hx, fun p p0 p1 => ?_⟩
        by_cases hpg : p = goal
        · have hb' : bi x goal = false := by cases h : bi x goal <;> simp_all
          rw [hpg, hb']; simp
        · simp [hpg]
    · rw [if_neg hl]
      refine ⟨x, H, rfl, fs.rf H, hp, h5, he, hx, fun p p0 p1 => ?_⟩
      rw [show (m 0 - lane).toNat = 0 by omega]
      simp [sq_any]
theorem fo_un_18 {m : Int → Int} (hm : sq_ok m) (hh : m 3 ≤ 999) : ∀ (q : Nat) (goal x : Int) (H : hp_H), 0 ≤ goal → goal ≤ m 0 → (m 0 - goal).toNat < q → hp_r x → tr H 15 m → pp H m → H 211 5 = m 4 → er H m (m 3) 99 →
    ∃ x' H', f_X3_unreached_18 q x goal H = some (x', H') ∧ fs H H' ∧ hp_r x' ∧ (∀ p, 0 ≤ p → p < 32 → bi x' p = (bi x p && !(decide (goal ≤ p ∧ p < m 0) && sq_any m p (m 0).toNat 0))) := by
  have a0 := hm.1
  intro q
  induction q with
  | zero => intro goal x H _ _ h; omega
  | succ q ih =>
    intro goal x H l0 lm hq hx ht hp h5 he
    rw [f_X3_unreached_18, ht.1]
    by_cases hl : goal < m 0
    · obtain ⟨x2, H2, g1, g2, g3, g4, g5, g6, g7⟩ := fo_un_29 (goal := goal) hm ⟨l0, hl⟩ hh 1000 0 x H (by omega) (by omega) (by omega) hx ht hp h5 he
      rw [if_pos hl, g1, pu_b2, pu_let, pu_w (by omega)]
      obtain ⟨x', H3, k1, k2, k3, k4⟩ := ih (goal + 1) x2 H2 (by omega) (by omega) (by omega) g6 (fs_tr g2 ht (by omega)) g3 g4 g5
      refine ⟨x', H3, k1, g2.tr k2, k3, fun p p0 p1 => ?_⟩
      rw [k4 p p0 p1, g7 p p0 p1, Int.sub_zero]
      by_cases hpg : p = goal
      · subst hpg
        simp [hl, show ¬ (p + 1 ≤ p) by omega]
      · by_cases h3 : goal ≤ p ∧ p < m 0
        · simp [hpg, h3, show goal + 1 ≤ p by omega]
        · simp [hpg, h3, show ¬ (goal + 1 ≤ p ∧ p < m 0) by omega]
    · rw [if_neg hl]
      refine ⟨x, H, rfl, fs.rf H, hx, fun p p0 p1 => ?_⟩
      simp [show ¬ (goal ≤ p ∧ p < m 0) by omega]
theorem bi_all : ∀ n : Fin 10, ∀ p : Fin 32, bi (hp_w (hp_shl 1 (n.val : Int) - 1)) (p.val : Int) = decide (p.val < n.val) := by decide +kernel
theorem bi_all' {n p : Int} (hn : 0 ≤ n ∧ n ≤ 9) (hp : 0 ≤ p ∧ p < 32) : bi (hp_w (hp_shl 1 n - 1)) p = decide (p < n) := by
  have := bi_all ⟨n.toNat, by omega⟩ ⟨p.toNat, by omega⟩
  simp only [hp_tn hn.1, hp_tn hp.1] at this
  rw [this]
  congr 1
  exact propext ⟨fun h => by omega, fun h => by omega⟩
theorem fo_unreached {H : hp_H} {m : Int → Int} (ht : tr H 15 m) (hm : sq_ok m) (hh : m 3 ≤ 999) : ∃ x H', f_X3_unreached H = some (x, H') ∧ fs H H' ∧ hp_r x ∧ (∀ p, 0 ≤ p → p < 32 → bi x p = (decide (p < m 0) && !sq_any m p (m 0).toNat 0)) := by
  have a0 := hm.1
  obtain ⟨H2, g1, g2, g3, g4⟩ := fo_prepare (n := 99) ht hm (by omega)
  have t15 := fs_tr g2 ht (by omega)
  obtain ⟨x, H3, k1, k2, k3, k4⟩ := fo_un_18 hm hh 1000 0 (hp_w (hp_shl 1 (m 0) - 1)) H2 (by omega) (by omega) (by omega) (hp_rw _) t15 (pp_of g3 rfl rfl rfl (fun _ _ => rfl)) g3.2.2.2.2.1 g4
  unfold f_X3_unreached
  rw [g1, pu_b1, pu_let, t15.1, k1, pu_b2]
  refine ⟨x, H3, rfl, g2.tr k2, k3, fun p p0 p1 => ?_⟩
  rw [k4 p p0 p1, bi_all' (by omega) ⟨p0, p1⟩]
  by_cases hp : p < m 0
  · simp [hp, p0]
  · simp [hp]
