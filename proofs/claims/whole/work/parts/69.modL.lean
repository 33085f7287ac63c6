/-! sick: the ways, their sum, the common divisor -/
def sq_cn (x : Int) : Nat → Nat
  | 0 => 0
  | p + 1 => sq_cn x p + (if bi x p = true then 1 else 0)
theorem sq_cn_cnt : ∀ x : Fin 64, ∀ j : Fin 7, x.val < 2 ^ j.val → ((sq_cn x.val j.val : Nat) : Int) = sq_cnt x.val := by decide +kernel
theorem sq_cn_le (x : Int) : ∀ p : Nat, sq_cn x p ≤ p
  | 0 => Nat.le_refl _
  | p + 1 => by have := sq_cn_le x p; rw [sq_cn]; split <;> omega
theorem sq_cn_eq {m : Int → Int} (hm : sq_ok m) {x : Int} (h0 : 0 ≤ x) (h1 : x ≤ sq_all m) : sq_cn x (m 2).toNat = (sq_cnt x).toNat ∧ 0 ≤ sq_cnt x ∧ sq_cnt x ≤ 6 := by
  have a2 := hm.2.2.1
  have ha := sq_all_in (m := m) (by omega)
  have hv := sq_all_v ⟨(m 2).toNat, by omega⟩
  simp only [hp_tn (show 0 ≤ m 2 by omega)] at hv
  have hv : sq_all m = 2 ^ (m 2).toNat - 1 := hv
  have := sq_cn_cnt ⟨x.toNat, by omega⟩ ⟨(m 2).toNat, by omega⟩ (by
    have h2 : (m 2).toNat = 0 ∨ (m 2).toNat = 1 ∨ (m 2).toNat = 2 ∨ (m 2).toNat = 3 ∨ (m 2).toNat = 4 ∨ (m 2).toNat = 5 ∨ (m 2).toNat = 6 := by omega
    rw [hv] at h1
    show x.toNat < 2 ^ (m 2).toNat
    rcases h2 with h | h | h | h | h | h | h <;> rw [h] at h1 ⊢ <;> simp at h1 ⊢ <;> omega)
  simp only [hp_tn h0] at this
  have hle := sq_cn_le x (m 2).toNat
  omega
def sq_ww (up k set : Int) : Int := k ^ (sq_cnt set).toNat * (10 - k) ^ (sq_cnt (hp_and up (hp_xor set (-1)))).toNat
theorem mh_si_105 {l n k w up set a6 a8 : Int} {M : hp_H} (h2 : 1 ≤ M 4 2 ∧ M 4 2 ≤ 6) (hk : 0 ≤ k ∧ k ≤ 10) (hs : ∀ p, 0 ≤ p → p < M 4 2 → bi set p = true → bi up p = true) : ∀ (q p : Nat), (p : Int) ≤ M 4 2 → (M 4 2 - p).toNat < q → 0 ≤ k ^ (sq_cn set p) * (10 - k) ^ (sq_cn (hp_and up (hp_xor set (-1))) p) ∧ k ^ (sq_cn set p) * (10 - k) ^ (sq_cn (hp_and up (hp_xor set (-1))) p) ≤ 10 ^ p → f_X8_sick_105 q l n k w up a6 a8 set (k ^ (sq_cn set p) * (10 - k) ^ (sq_cn (hp_and up (hp_xor set (-1))) p)) p M = some (k ^ (sq_cn set (M 4 2).toNat) * (10 - k) ^ (sq_cn (hp_and up (hp_xor set (-1))) (M 4 2).toNat)) ∧ 0 ≤ k ^ (sq_cn set (M 4 2).toNat) * (10 - k) ^ (sq_cn (hp_and up (hp_xor set (-1))) (M 4 2).toNat) ∧ k ^ (sq_cn set (M 4 2).toNat) * (10 - k) ^ (sq_cn (hp_and up (hp_xor set (-1))) (M 4 2).toNat) ≤ 1000000 := by
  intro q
  induction q with
  | zero => intro p _ h; omega
  | succ q ih =>
    intro p pm hq hv
    rw [f_X8_sick_105]
    by_cases hp : (p : Int) < M 4 2
    · have hpow : (10 : Int) ^ p ≤ 1000000 := by
        have : p = 0 ∨ p = 1 ∨ p = 2 ∨ p = 3 ∨ p = 4 ∨ p = 5 := by omega
        rcases this with h | h | h | h | h | h <;> rw [h] <;> decide
      have e : ∃ f, (if (if bi up p = true then (1 : Int) else 0) = 0 then some 1 else hp_b1 (f_X8_has set p M) (fun c30 => if c30 = 0 then some (hp_wl (10 - k)) else some k) : Option Int) = some f ∧ 0 ≤ f ∧ f ≤ 10 ∧ k ^ (sq_cn set (p + 1)) * (10 - k) ^ (sq_cn (hp_and up (hp_xor set (-1))) (p + 1)) = k ^ (sq_cn set p) * (10 - k) ^ (sq_cn (hp_and up (hp_xor set (-1))) p) * f := by
        rw [mo_has (by omega), pu_b1, pu_01, pu_01, pu_wl (by omega), sq_cn, sq_cn, bi_and, bi_not (by omega)]
        by_cases h1 : bi up p = true
        · rw [if_pos h1, h1]
          by_cases h3 : bi set p = true
          · rw [if_pos h3, if_pos h3, h3]
            exact ⟨k, rfl, hk.1, hk.2, by simp [Int.pow_succ, Int.mul_assoc, Int.mul_comm, Int.mul_left_comm]⟩
          · rw [if_neg h3, if_neg h3, show bi set p = false by simpa using h3]
            exact ⟨10 - k, rfl, by omega, by omega, by simp [Int.pow_succ, Int.mul_assoc]⟩
        · have h3 : ¬ bi set p = true := fun q => h1 (hs p (by omega) hp q)
          rw [if_neg h1, if_neg h3, show bi up p = false by simpa using h1]
          exact ⟨1, rfl, by omega, by omega, by simp⟩
      obtain ⟨f, f1, f2, f3, f4⟩ := e
      have b1 := Int.mul_nonneg hv.1 f2
      have b2 : k ^ (sq_cn set p) * (10 - k) ^ (sq_cn (hp_and up (hp_xor set (-1))) p) * f ≤ 10 ^ p * 10 := Int.mul_le_mul hv.2 f3 f2 (by have := hv.1; have := hv.2; omega)
      rw [if_pos hp, mo_has (by omega), pu_b1, f1, pu_b1, pu_let, pu_let, pu_wl (by omega), pu_w (by omega), ← f4]
      rw [← f4] at b1 b2
      exact ih (p + 1) (by omega) (by omega) ⟨b1, by rw [Int.pow_succ]; exact b2⟩
    · rw [if_neg hp, show (M 4 2).toNat = p by omega]
      refine ⟨rfl, hv.1, Int.le_trans hv.2 ?_⟩
      have : p = 0 ∨ p = 1 ∨ p = 2 ∨ p = 3 ∨ p = 4 ∨ p = 5 ∨ p = 6 := by omega
      rcases this with h | h | h | h | h | h | h <;> rw [h] <;> decide
theorem fo_pow {x n : Int} (H : hp_H) (hx : 0 ≤ x ∧ x ≤ 10) (hn : n ≤ 6) : ∀ (q p : Nat), (p : Int) ≤ n → (n - p).toNat < q → 0 ≤ x ^ p ∧ x ^ p ≤ 10 ^ p → f_X3_power_5 q x n (x ^ p) p H = some (x ^ n.toNat) ∧ 0 ≤ x ^ n.toNat ∧ x ^ n.toNat ≤ 1000000 := by
  intro q
  induction q with
  | zero => intro p _ h; omega
  | succ q ih =>
    intro p pm hq hv
    rw [f_X3_power_5]
    by_cases hp : (p : Int) < n
    · have hpow : (10 : Int) ^ p ≤ 1000000 := by
        have : p = 0 ∨ p = 1 ∨ p = 2 ∨ p = 3 ∨ p = 4 ∨ p = 5 := by omega
        rcases this with h | h | h | h | h | h <;> rw [h] <;> decide
      have b1 := Int.mul_nonneg hv.1 hx.1
      have b2 : x ^ p * x ≤ 10 ^ p * 10 := Int.mul_le_mul hv.2 hx.2 hx.1 (by have := hv.1; have := hv.2; omega)
      rw [if_pos hp, pu_let, pu_let, pu_wl (by omega), pu_w (by omega), ← Int.pow_succ]
      rw [← Int.pow_succ] at b1 b2
      exact ih (p + 1) (by omega) (by omega) ⟨b1, by rw [Int.pow_succ (10 : Int)]; exact b2⟩
    · rw [if_neg hp, show n.toNat = p by omega]
      refine ⟨rfl, hv.1, Int.le_trans hv.2 ?_⟩
      have : p = 0 ∨ p = 1 ∨ p = 2 ∨ p = 3 ∨ p = 4 ∨ p = 5 ∨ p = 6 := by omega
      rcases this with h | h | h | h | h | h | h <;> rw [h] <;> decide
theorem fo_power {x n : Int} (H : hp_H) (hx : 0 ≤ x ∧ x ≤ 10) (hn : 0 ≤ n ∧ n ≤ 6) : f_X3_power x n H = some (x ^ n.toNat) ∧ 0 ≤ x ^ n.toNat ∧ x ^ n.toNat ≤ 1000000 := by
  have h := fo_pow H hx hn.2 1000 0 (by omega) (by omega) (by simp)
  unfold f_X3_power
  refine ⟨?_, h.2⟩
  have h1 := h.1
  rw [Int.pow_zero] at h1
  rw [show f_X3_power_5 1000 x n 1 0 H = some (x ^ n.toNat) from h1, pu_b1]
/-- the common divisor -/
theorem gc_lt {a c : Nat} (h0 : 0 < c) (h1 : c < a) : 2 * (a % c) < a := by
  by_cases h : 2 * c ≤ a
  · have := Nat.mod_lt a h0; omega
  · rw [Nat.mod_eq_sub_mod (by omega), Nat.mod_eq_of_lt (by omega)]; omega
theorem fo_cd (H : hp_H) : ∀ (j : Nat) (a b q : Nat) (i : Int), a < 2 ^ j → 0 ≤ i → i + 2 * j < 64 → 2 * j < q → f_X3_commonDivisor_9 q a b i H = some ((Nat.gcd a b : Nat) : Int)
  | 0, a, b, q, i, h, h0, h1, h2 => by
    obtain ⟨q, rfl⟩ : ∃ q', q = q' + 1 := ⟨q - 1, by omega⟩
    have : a = 0 := by simp at h; exact h
    subst this
    rw [f_X3_commonDivisor_9, if_pos (by omega), if_pos (by decide), Nat.gcd_zero_left]
  | j + 1, a, b, q, i, h, h0, h1, h2 => by
    obtain ⟨q, rfl⟩ : ∃ q', q = q' + 1 + 1 := ⟨q - 2, by omega⟩
    rw [f_X3_commonDivisor_9, if_pos (by omega)]
    by_cases ha : a = 0
    · subst ha
      rw [if_pos (by decide), Nat.gcd_zero_left]
    · rw [if_neg (fun q => ha (by have := (hp_cmp0 _).mp q; omega)), pu_ck (by omega), pu_let, pu_let, pu_w (by omega), ← Int.ofNat_tmod, f_X3_commonDivisor_9, if_pos (by omega)]
      by_cases hc : b % a = 0
      · rw [hc, if_pos (by decide), Nat.gcd_rec, hc, Nat.gcd_zero_left]
      · have hl := Nat.mod_lt b (show 0 < a by omega)
        have h3 := gc_lt (show 0 < b % a by omega) hl
        rw [if_neg (fun q => hc (by have := (hp_cmp0 _).mp q; omega)), pu_ck (by omega), pu_let, pu_let, pu_w (by omega), ← Int.ofNat_tmod, fo_cd H j (a % (b % a)) (b % a) q (i + 1 + 1) (by rw [Nat.pow_succ] at h; omega) (by omega) (by omega) (by omega), ← Nat.gcd_rec, ← Nat.gcd_rec]
theorem mh_cd {w s t : Int} (H : hp_H) : ∀ (j : Nat) (a b q : Nat), a < 2 ^ j → 2 * j < q → f_X8_sick_220 q w s t b a H = some ((Nat.gcd a b : Nat) : Int)
  | 0, a, b, q, h, h2 => by
    obtain ⟨q, rfl⟩ : ∃ q', q = q' + 1 := ⟨q - 1, by omega⟩
    have : a = 0 := by simp at h; exact h
    subst this
    rw [f_X8_sick_220, if_pos (by decide), Nat.gcd_zero_left]
  | j + 1, a, b, q, h, h2 => by
    obtain ⟨q, rfl⟩ : ∃ q', q = q' + 1 + 1 := ⟨q - 2, by omega⟩
    rw [f_X8_sick_220]
    by_cases ha : a = 0
    · subst ha
      rw [if_pos (by decide), Nat.gcd_zero_left]
    · rw [if_neg (fun q => ha (by have := (hp_cmp0 _).mp q; omega)), pu_ck (by omega), pu_let, ← Int.ofNat_tmod, f_X8_sick_220]
      by_cases hc : b % a = 0
      · rw [hc, if_pos (by decide), Nat.gcd_rec, hc, Nat.gcd_zero_left]
      · have hl := Nat.mod_lt b (show 0 < a by omega)
        have h3 := gc_lt (show 0 < b % a by omega) hl
        rw [if_neg (fun q => hc (by have := (hp_cmp0 _).mp q; omega)), pu_ck (by omega), pu_let, ← Int.ofNat_tmod, mh_cd H j (a % (b % a)) (b % a) q (by rw [Nat.pow_succ] at h; omega) (by omega), ← Nat.gcd_rec, ← Nat.gcd_rec]
