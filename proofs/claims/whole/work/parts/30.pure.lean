/-! pure words: evaluation of the functions, bits -/
theorem pu_w {x : Int} (h : -2147483648 ≤ x ∧ x < 2147483648) : hp_w x = x := hp_wr h
theorem pu_wl {x : Int} (h : -9223372036854775808 ≤ x ∧ x < 9223372036854775808) : hp_wl x = x := hp_wlr h
theorem pu_ck {α : Type} {c : Prop} [Decidable c] {o : Option α} (h : c) : hp_ck c o = o := if_pos h
theorem pu_let {α β : Type} (x : α) (k : α → β) : hp_let x k = k x := rfl
theorem pu_b1 {α β : Type} (a : α) (k : α → Option β) : hp_b1 (some a) k = k a := rfl
theorem pu_b2 {α β γ : Type} (a : α) (b : β) (k : α → β → Option γ) : hp_b2 (some (a, b)) k = k a b := rfl
theorem pu_b3 {α β γ δ : Type} (a : α) (b : β) (c : γ) (k : α → β → γ → Option δ) : hp_b3 (some (a, b, c)) k = k a b c := rfl
theorem pu_b4 {α β γ δ ε : Type} (a : α) (b : β) (c : γ) (d : δ) (k : α → β → γ → δ → Option ε) : hp_b4 (some (a, b, c, d)) k = k a b c d := rfl
theorem pu_up (H : hp_H) (a i v b j : Int) : hp_up H a i v b j = if b = a ∧ j = i then v else H b j := rfl
theorem pu_ups (H : hp_H) (a i v : Int) : hp_up H a i v a i = v := hp_up_self H a i v
theorem pu_upa {H : hp_H} {a i v b : Int} (h : b ≠ a) : hp_up H a i v b = H b := funext fun j => hp_up_ne (fun q => h q.1)
theorem pu_upj {H : hp_H} {a i v b j : Int} (h : j ≠ i) : hp_up H a i v b j = H b j := hp_up_ne (fun q => h q.2)
/-! bits -/
def bi (x : Int) (p : Int) : Bool := (hp_I x).toBitVec.getLsbD p.toNat
theorem bi_I {x : Int32} (p : Int) : bi x.toInt p = x.toBitVec.getLsbD p.toNat := by unfold bi; rw [hp_Io]
theorem bi_and (a b p : Int) : bi (hp_and a b) p = (bi a p && bi b p) := by
  unfold hp_and; rw [bi_I]; unfold bi
  simp [Int32.toBitVec_and]
theorem bi_or (a b p : Int) : bi (hp_or a b) p = (bi a p || bi b p) := by
  unfold hp_or; rw [bi_I]; unfold bi
  simp [Int32.toBitVec_or]
theorem bi_xor (a b p : Int) : bi (hp_xor a b) p = (bi a p ^^ bi b p) := by
  unfold hp_xor; rw [bi_I]; unfold bi
  simp [Int32.toBitVec_xor]
theorem bi_m1 {p : Int} (h : 0 ≤ p ∧ p < 32) : bi (-1) p = true := by
  obtain ⟨k, rfl⟩ : ∃ k : Nat, p = (k : Int) := ⟨p.toNat, by omega⟩
  have hk : k < 32 := by omega
  unfold bi
  show BitVec.getLsbD _ k = true
  have : (hp_I (-1)).toBitVec = BitVec.allOnes 32 := by decide
  rw [this, BitVec.getLsbD_allOnes]
  exact decide_eq_true hk
theorem bi_not {a p : Int} (h : 0 ≤ p ∧ p < 32) : bi (hp_xor a (-1)) p = !bi a p := by rw [bi_xor, bi_m1 h]; simp
theorem bi_0 (p : Int) : bi 0 p = false := by
  unfold bi
  have : (hp_I 0).toBitVec = 0#32 := by decide
  rw [this]; simp
theorem bi_1 (p : Int) : bi 1 p = decide (p.toNat = 0) := by
  unfold bi
  have : (hp_I 1).toBitVec = 1#32 := by decide
  rw [this]; simp
theorem bi_ext {x y : Int} (hx : hp_r x) (hy : hp_r y) (h : ∀ p, 0 ≤ p → p < 32 → bi x p = bi y p) : x = y := by
  have : hp_I x = hp_I y := by
    apply Int32.toBitVec_inj.mp
    apply BitVec.eq_of_getLsbD_eq
    intro i hi
    have := h (i : Int) (by omega) (by omega)
    unfold bi at this
    simpa using this
  exact (hp_eq hx hy).mp this
theorem bi_big {x p : Int} (h : 32 ≤ p) : bi x p = false := by
  unfold bi
  exact BitVec.getLsbD_of_ge _ _ (by omega)
theorem bi_amt : ∀ n : Nat, n < 32 → ((hp_I (n : Int) &&& 31).toBitVec.smod 32).toNat = n := by decide +kernel
theorem bi_shl {x k p : Int} (hk : 0 ≤ k ∧ k < 32) (hp : 0 ≤ p ∧ p < 32) : bi (hp_shl x k) p = (decide (k ≤ p) && bi x (p - k)) := by
  obtain ⟨n, rfl⟩ : ∃ n : Nat, k = (n : Int) := ⟨k.toNat, by omega⟩
  obtain ⟨q, rfl⟩ : ∃ q : Nat, p = (q : Int) := ⟨p.toNat, by omega⟩
  unfold hp_shl
  rw [bi_I]
  unfold bi
  rw [Int32.toBitVec_shiftLeft, BitVec.shiftLeft_eq', show ((hp_I (n : Int) &&& 31).toBitVec.smod 32).toNat = n from bi_amt n (by omega), BitVec.getLsbD_shiftLeft]
  show (decide ((q : Int).toNat < 32) && !decide ((q : Int).toNat < n) && _) = _
  rw [Int.toNat_natCast, show ((q : Int) - n).toNat = q - n by omega]
  by_cases h1 : n ≤ q
  · simp [show q < 32 by omega, h1, show ¬ q < n by omega]
  · simp [h1, show q < n by omega]
theorem bi_shr {x k p : Int} (hk : 0 ≤ k ∧ k < 32) (hp : 0 ≤ p ∧ k + p < 32) : bi (hp_shr x k) p = bi x (k + p) := by
  obtain ⟨n, rfl⟩ : ∃ n : Nat, k = (n : Int) := ⟨k.toNat, by omega⟩
  obtain ⟨q, rfl⟩ : ∃ q : Nat, p = (q : Int) := ⟨p.toNat, by omega⟩
  unfold hp_shr
  rw [bi_I]
  unfold bi
  rw [Int32.toBitVec_shiftRight, BitVec.sshiftRight_eq', show ((hp_I (n : Int) &&& 31).toBitVec.smod 32).toNat = n from bi_amt n (by omega), BitVec.getLsbD_sshiftRight]
  rw [Int.toNat_natCast, show ((n : Int) + q).toNat = n + q by omega]
  simp [show ¬ 32 ≤ q by omega, show n + q < 32 by omega]
theorem bi_and1 (x : Int) : hp_and x 1 = if bi x 0 = true then 1 else 0 := by
  refine bi_ext (hp_rand _ _) (hp_rite (hp_rc rfl) (hp_rc rfl)) (fun p h1 h2 => ?_)
  rw [bi_and, bi_1]
  by_cases hp : p = 0
  · subst hp
    cases hb : bi x 0 <;> simp [bi_0, bi_1]
  · have h3 : p.toNat ≠ 0 := by omega
    split <;> simp [bi_0, bi_1, h3]
/-- the test of a bit, as both sides write it -/
theorem bi_t {x p : Int} (hp : 0 ≤ p ∧ p < 32) : hp_and (hp_shr x p) 1 = if bi x p = true then 1 else 0 := by
  rw [bi_and1, bi_shr hp (by omega), Int.add_zero]
theorem bi_t1 {x p : Int} (hp : 0 ≤ p ∧ p < 32) : hp_and (hp_shr x p) 1 = 1 ↔ bi x p = true := by
  rw [bi_t hp]; split <;> simp_all
theorem bi_sh1 {k p : Int} (hk : 0 ≤ k ∧ k < 32) (hp : 0 ≤ p ∧ p < 32) : bi (hp_shl 1 k) p = decide (p = k) := by
  rw [bi_shl hk hp, bi_1]
  by_cases h : p = k
  · subst h; simp
  · by_cases h2 : k ≤ p
    · have : (p - k).toNat ≠ 0 := by omega
      simp [h, this]
    · simp [h, h2]
