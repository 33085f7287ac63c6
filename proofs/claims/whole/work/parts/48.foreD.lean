def sq_cnt (x : Int) : Int := hp_and (hp_shr x 0) 1 + hp_and (hp_shr x 1) 1 + hp_and (hp_shr x 2) 1 + hp_and (hp_shr x 3) 1 + hp_and (hp_shr x 4) 1 + hp_and (hp_shr x 5) 1 + hp_and (hp_shr x 6) 1 + hp_and (hp_shr x 7) 1 + hp_and (hp_shr x 8) 1
def sq_bc (v0 : Int) : Int :=
  let v1 := hp_w (v0 - hp_and (hp_ush v0 1) 1431655765)
  let v2 := hp_w (hp_and v1 858993459 + hp_and (hp_ush v1 2) 858993459)
  let v3 := hp_and (hp_w (v2 + hp_ush v2 4)) 252645135
  let v4 := hp_w (v3 + hp_ush v3 8)
  let v5 := hp_w (v4 + hp_ush v4 16)
  hp_and v5 63
theorem sq_bc_cnt : ∀ x : Fin 64, sq_bc (x.val : Int) = sq_cnt (x.val : Int) := by decide +kernel
theorem fo_bc {x : Int} (H : hp_H) (hx : 0 ≤ x ∧ x ≤ 63) : f_J6_bitCount_0f7a4 x H = some (sq_cnt x) := by
  have h : f_J6_bitCount_0f7a4 x H = some (sq_bc x) := rfl
  rw [h]
  have := sq_bc_cnt ⟨x.toNat, by omega⟩
  simp only [hp_tn hx.1] at this
  rw [this]
/-- all people; those of them who are up -/
def sq_all (m : Int → Int) : Int := hp_w (hp_shl 1 (m 2) - 1)
theorem sq_all_v : ∀ n : Fin 7, hp_w (hp_shl 1 (n.val : Int) - 1) = 2 ^ n.val - 1 := by decide +kernel
theorem sq_all_in {m : Int → Int} (h : 0 ≤ m 2 ∧ m 2 ≤ 6) : 0 ≤ sq_all m ∧ sq_all m ≤ 63 := by
  have := sq_all_v ⟨(m 2).toNat, by omega⟩
  simp only [hp_tn h.1] at this
  unfold sq_all
  rw [this]
  have h2 : (m 2).toNat = 0 ∨ (m 2).toNat = 1 ∨ (m 2).toNat = 2 ∨ (m 2).toNat = 3 ∨ (m 2).toNat = 4 ∨ (m 2).toNat = 5 ∨ (m 2).toNat = 6 := by omega
  rcases h2 with h | h | h | h | h | h | h <;> rw [h] <;> decide
theorem hp_and63 : ∀ x y : Fin 64, 0 ≤ hp_and (x.val : Int) (hp_xor (y.val : Int) (-1)) ∧ hp_and (x.val : Int) (hp_xor (y.val : Int) (-1)) ≤ (x.val : Int) := by decide +kernel
theorem hp_andn_in {x y : Int} (hx : 0 ≤ x ∧ x ≤ 63) (hy : 0 ≤ y ∧ y ≤ 63) : 0 ≤ hp_and x (hp_xor y (-1)) ∧ hp_and x (hp_xor y (-1)) ≤ x := by
  have := hp_and63 ⟨x.toNat, by omega⟩ ⟨y.toNat, by omega⟩
  simp only [hp_tn hx.1, hp_tn hy.1] at this
  exact this
theorem hp_or63 : ∀ x : Fin 64, ∀ y : Fin 64, 0 ≤ hp_or (x.val : Int) (y.val : Int) ∧ hp_or (x.val : Int) (y.val : Int) ≤ 63 := by decide +kernel
theorem hp_or_in {x y : Int} (hx : 0 ≤ x ∧ x ≤ 63) (hy : 0 ≤ y ∧ y ≤ 63) : 0 ≤ hp_or x y ∧ hp_or x y ≤ 63 := by
  have := hp_or63 ⟨x.toNat, by omega⟩ ⟨y.toNat, by omega⟩
  simp only [hp_tn hx.1, hp_tn hy.1] at this
  exact this
theorem hp_sh63 : ∀ y : Fin 6, 0 ≤ hp_shl 1 (y.val : Int) ∧ hp_shl 1 (y.val : Int) ≤ 63 := by decide +kernel
theorem hp_sh_in {p : Int} (hp : 0 ≤ p ∧ p < 6) : 0 ≤ hp_shl 1 p ∧ hp_shl 1 p ≤ 63 := by
  have := hp_sh63 ⟨p.toNat, by omega⟩
  simp only [hp_tn hp.1] at this
  exact this
/-- the step of the crew: the set if it is better and does, else what was -/
def sq_cstep (m : Int → Int) (l n set best : Int) : Int :=
  if hp_and set (m 4) = 0 ∧ (best = NN ∨ sq_cnt set < sq_cnt best) ∧ sq_by l (n + 1).toNat 0 (sq_hm m (hp_and (sq_all m) (hp_xor set (-1)))) ≠ NN then set else best
def sq_crew (m : Int → Int) (l n : Int) : Nat → Int → Int → Int
  | 0, _, best => best
  | r + 1, set, best => sq_crew m l n r (set + 1) (sq_cstep m l n set best)
theorem fo_fe_19 {m : Int → Int} {l n what : Int} (hl : 0 ≤ l ∧ l < 4) (hm : sq_ok m) (hn : 0 ≤ n ∧ n ≤ 198) (hh : m 3 ≤ 999) : ∀ (q : Nat) (best set : Int) (H : hp_H), 0 ≤ set → set ≤ sq_all m + 1 → (sq_all m + 1 - set).toNat < q → (best = NN ∨ (0 ≤ best ∧ best ≤ 63)) → tr H 15 m → pp H m → er H m (m 3) n →
    ∃ H', f_X3_fewest_19 q l n what (sq_all m) best set H = some (sq_crew m l n (sq_all m + 1 - set).toNat set best, H') ∧ fs H H' ∧ (sq_crew m l n (sq_all m + 1 - set).toNat set best = NN ∨ (0 ≤ sq_crew m l n (sq_all m + 1 - set).toNat set best ∧ sq_crew m l n (sq_all m + 1 - set).toNat set best ≤ 63)) := by
  have a2 := hm.2.2.1
  have ha := sq_all_in (m := m) (by omega)
  intro q
  induction q with
  | zero => intro best set H _ _ h; omega
  | succ q ih =>
    intro best set H s0 sm hq hb ht hp he
    rw [f_X3_fewest_19]
    by_cases hs : sq_all m < set
    · rw [if_pos hs, show (sq_all m + 1 - set).toNat = 0 by omega]
      exact ⟨H, rfl, fs.rf H, hb⟩
    · rw [if_neg hs]
      have e1 : (if best = -1000000 then some 1 else hp_b1 (f_J6_bitCount_0f7a4 set H) fun c20 => hp_b1 (f_J6_bitCount_0f7a4 best H) fun c22 => if c20 < c22 then some 1 else some 0) = some (if best = NN ∨ sq_cnt set < sq_cnt best then (1 : Int) else 0) := by
        rcases hb with h | h
        · rw [if_pos (show best = -1000000 from h), if_pos (Or.inl h)]
        · have hne : ¬ best = NN := by unfold NN; omega
          rw [if_neg (show ¬ best = -1000000 from hne), fo_bc H (by omega), pu_b1, fo_bc H h, pu_b1]
          by_cases hc : sq_cnt set < sq_cnt best
          · rw [if_pos hc, if_pos (Or.inr hc)]
          · rw [if_neg hc, if_neg (fun q => q.elim hne hc)]
      rw [e1, pu_b1, ht.2.2.2.2.1]
      have key : ∃ H2, (if hp_and set (m 4) = 0 then if (if best = NN ∨ sq_cnt set < sq_cnt best then (1 : Int) else 0) = 0 then some (best, H) else hp_b2 (f_X3_isThereWith (hp_and (sq_all m) (hp_xor set (-1))) l n H) fun c15 H16 => if c15 = 0 then some (best, H16) else some (set, H16) else some (best, H)) = some (sq_cstep m l n set best, H2) ∧ fs H H2 ∧ pp H2 m ∧ er H2 m (m 3) n := by
        unfold sq_cstep
        by_cases h1 : hp_and set (m 4) = 0
        · rw [if_pos h1, pu_01]
          by_cases h2 : best = NN ∨ sq_cnt set < sq_cnt best
          · rw [if_pos h2]
            have hx := hp_andn_in ha (show 0 ≤ set ∧ set ≤ 63 by omega)
            obtain ⟨H2, g1, g2, g3, g4⟩ := fo_itw (x := hp_and (sq_all m) (hp_xor set (-1))) (l := l) (n := n) hl ht hm hp he (by omega) (by omega) hn.2 (by omega)
            rw [g1, pu_b2, pu_10]
            by_cases h3 : sq_by l (n + 1).toNat 0 (sq_hm m (hp_and (sq_all m) (hp_xor set (-1)))) = NN
            · rw [if_pos h3, if_neg (fun q => q.2.2 h3)]
              exact ⟨H2, rfl, g2, g3, g4⟩
            · rw [if_neg h3, if_pos ⟨h1, h2, h3⟩]
              exact ⟨H2, rfl, g2, g3, g4⟩
          · rw [if_neg h2, if_neg (fun q => h2 q.2.1)]
            exact ⟨H, rfl, fs.rf H, hp, he⟩
        · rw [if_neg h1, if_neg (fun q => h1 q.1)]
          exact ⟨H, rfl, fs.rf H, hp, he⟩
      obtain ⟨H2, g1, g2, g3, g4⟩ := key
      rw [g1, pu_b2, pu_let, pu_w (by omega)]
      have hb2 : sq_cstep m l n set best = NN ∨ (0 ≤ sq_cstep m l n set best ∧ sq_cstep m l n set best ≤ 63) := by
        unfold sq_cstep
        split
        · exact Or.inr (by omega)
        · exact hb
      obtain ⟨H3, k1, k2, k3⟩ := ih (sq_cstep m l n set best) (set + 1) H2 (by omega) (by omega) (by omega) hb2 (fs_tr g2 ht (by omega)) g3 g4
      rw [show (sq_all m + 1 - set).toNat = (sq_all m + 1 - (set + 1)).toNat + 1 by omega]
      exact ⟨H3, k1, g2.tr k2, k3⟩
def sq_crewA (m : Int → Int) (l n : Int) : Int := sq_crew m l n (sq_all m + 1).toNat 0 NN
theorem fo_fewest {H : hp_H} {m : Int → Int} {l n what : Int} (ht : tr H 15 m) (hm : sq_ok m) (hl : 0 ≤ l ∧ l < 4) (hn : 0 ≤ n ∧ n ≤ 99) (hh : m 3 ≤ 999) : ∃ H', f_X3_fewest l n what H = some (if what = 0 then (if sq_crewA m l n = NN then NN else sq_cnt (sq_crewA m l n)) else sq_crewA m l n, H') ∧ fs H H' ∧ (sq_crewA m l n = NN ∨ (0 ≤ sq_crewA m l n ∧ sq_crewA m l n ≤ 63)) := by
  have a2 := hm.2.2.1
  have ha := sq_all_in (m := m) (by omega)
  obtain ⟨H2, g1, g2, g3, g4⟩ := fo_prepare (n := n) ht hm (by omega)
  have t15 := fs_tr g2 ht (by omega)
  obtain ⟨H3, k1, k2, k3⟩ := fo_fe_19 (m := m) (l := l) (n := n) (what := what) hl hm (by omega) hh 1000 NN 0 H2 (by omega) (by omega) (by omega) (Or.inl rfl) t15 (pp_of g3 rfl rfl rfl (fun _ _ => rfl)) g4
  rw [Int.sub_zero] at k1 k3
  have k1 : f_X3_fewest_19 1000 l n what (sq_all m) (-1000000) 0 H2 = some (sq_crewA m l n, H3) := k1
  have k3 : sq_crewA m l n = NN ∨ (0 ≤ sq_crewA m l n ∧ sq_crewA m l n ≤ 63) := k3
  unfold f_X3_fewest f_X6_everybody
  rw [g1, pu_b1, t15.2.2.1, pu_b1, show hp_w (hp_shl 1 (m 2) - 1) = sq_all m from rfl, k1, pu_b2]
  refine ⟨H3, ?_, g2.tr k2, k3⟩
  by_cases hw : what = 0
  · rw [if_pos hw, if_pos hw]
    rcases k3 with h | h
    · rw [if_pos (show _ = (-1000000 : Int) from h), if_pos h, h]
    · have hne : ¬ sq_crewA m l n = NN := by unfold NN; omega
      rw [if_neg (show ¬ _ = (-1000000 : Int) from hne), if_neg hne, fo_bc H3 h, pu_b1]
  · rw [if_neg hw, if_neg hw]
def sq_need (m : Int → Int) (l n : Int) : Nat → Int → Int → Int
  | 0, _, x => x
  | r + 1, p, x => sq_need m l n r (p + 1) (if bi (m 4) p = false ∧ sq_by l (n + 1).toNat 0 (sq_hm m (hp_or (m 4) (hp_shl 1 p))) = NN then hp_or x (hp_shl 1 p) else x)
theorem fo_ne_28 {m : Int → Int} {l n : Int} (hl : 0 ≤ l ∧ l < 4) (hm : sq_ok m) (hn : 0 ≤ n ∧ n ≤ 198) (hh : m 3 ≤ 999) : ∀ (q : Nat) (x p : Int) (H : hp_H), 0 ≤ p → p ≤ m 2 → (m 2 - p).toNat < q → tr H 15 m → pp H m → er H m (m 3) n →
    ∃ H', f_X3_neededFor_28 q l n x p H = some (sq_need m l n (m 2 - p).toNat p x, H') ∧ fs H H' := by
  have a2 := hm.2.2.1
  have a4 := hm.2.2.2.2.1
  intro q
  induction q with
  | zero => intro x p H _ _ h; omega
  | succ q ih =>
    intro x p H p0 pm hq ht hp he
    rw [f_X3_neededFor_28, ht.2.2.1]
    by_cases hpp : p < m 2
    · have hor := hp_or_in a4 (hp_sh_in (p := p) (by omega))
      rw [if_pos hpp, to_isHome ht (by omega), pu_b1, pu_01, ht.2.2.2.2.1]
      have key : ∃ H2, (if bi (m 4) p = true then some (x, H) else hp_b2 (f_X3_isThereWith (hp_or (m 4) (hp_shl 1 p)) l n H) fun c16 H17 => if c16 = 0 then hp_let (hp_or x (hp_shl 1 p)) (fun v4_19 => some (v4_19, H17)) else some (x, H17)) = some (if bi (m 4) p = false ∧ sq_by l (n + 1).toNat 0 (sq_hm m (hp_or (m 4) (hp_shl 1 p))) = NN then hp_or x (hp_shl 1 p) else x, H2) ∧ fs H H2 ∧ pp H2 m ∧ er H2 m (m 3) n := by
        cases hb : bi (m 4) p
        · rw [if_neg (by simp)]
          obtain ⟨H2, g1, g2, g3, g4⟩ := fo_itw (x := hp_or (m 4) (hp_shl 1 p)) (l := l) (n := n) hl ht hm hp he hor (by omega) hn.2 (by omega)
          rw [g1, pu_b2, pu_10, pu_let]
          by_cases h3 : sq_by l (n + 1).toNat 0 (sq_hm m (hp_or (m 4) (hp_shl 1 p))) = NN
          · rw [if_pos h3, if_pos ⟨rfl, h3⟩]
            exact ⟨H2, rfl, g2, g3, g4⟩
          · rw [if_neg h3, if_neg (fun q => h3 q.2)]
            exact ⟨H2, rfl, g2, g3, g4⟩
        · rw [if_pos rfl, if_neg (by simp)]
          exact ⟨H, rfl, fs.rf H, hp, he⟩
      obtain ⟨H2, g1, g2, g3, g4⟩ := key
      rw [g1, pu_b2, pu_let, pu_w (by omega)]
      obtain ⟨H3, k1, k2⟩ := ih (if bi (m 4) p = false ∧ sq_by l (n + 1).toNat 0 (sq_hm m (hp_or (m 4) (hp_shl 1 p))) = NN then hp_or x (hp_shl 1 p) else x) (p + 1) H2 (by omega) (by omega) (by omega) (fs_tr g2 ht (by omega)) g3 g4
      rw [show (m 2 - p).toNat = (m 2 - (p + 1)).toNat + 1 by omega]
      exact ⟨H3, k1, g2.tr k2⟩
    · rw [if_neg hpp]
      exact ⟨H, by rw [show (m 2 - p).toNat = 0 by omega]; rfl, fs.rf H⟩
theorem fo_needed {H : hp_H} {m : Int → Int} {l n : Int} (ht : tr H 15 m) (hm : sq_ok m) (hl : 0 ≤ l ∧ l < 4) (hn : 0 ≤ n ∧ n ≤ 99) (hh : m 3 ≤ 999) : ∃ H', f_X3_neededFor l n H = some (if sq_by l (n + 1).toNat 0 m = NN then 0 else sq_need m l n (m 2).toNat 0 0, H') ∧ fs H H' := by
  have a2 := hm.2.2.1
  have a4 := hm.2.2.2.2.1
  obtain ⟨H2, g1, g2, g3, g4⟩ := fo_prepare (n := n) ht hm (by omega)
  have t15 := fs_tr g2 ht (by omega)
  obtain ⟨H3, k1, k2, k3, k4⟩ := fo_itw (x := m 4) (l := l) (n := n) hl t15 hm (pp_of g3 rfl rfl rfl (fun _ _ => rfl)) g4 a4 (by omega) (by omega) (by omega)
  rw [sq_hm_id] at k1
  unfold f_X3_neededFor
  rw [g1, pu_b1, t15.2.2.2.2.1, k1, pu_b2, pu_10]
  by_cases hq : sq_by l (n + 1).toNat 0 m = NN
  · rw [if_pos hq, if_pos hq]
    exact ⟨H3, rfl, g2.tr k2⟩
  · rw [if_neg hq, if_neg hq]
    obtain ⟨H4, w1, w2⟩ := fo_ne_28 (m := m) (l := l) (n := n) hl hm (by omega) hh 1000 0 0 H3 (by omega) (by omega) (by omega) (fs_tr k2 t15 (by omega)) k3 k4
    rw [w1, pu_b2, Int.sub_zero]
    exact ⟨H4, rfl, (g2.tr k2).tr w2⟩
