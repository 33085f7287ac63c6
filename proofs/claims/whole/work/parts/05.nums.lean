/-! numbers: a JVM int as a mathematical one -/
abbrev hp_H : Type := Int → Int → Int
def hp_I (x : Int) : Int32 := Int32.ofInt x
def hp_J (x : Int) : Int64 := Int64.ofInt x
def hp_w (x : Int) : Int := (x + 2147483648) % 4294967296 - 2147483648
def hp_wl (x : Int) : Int := (x + 9223372036854775808) % 18446744073709551616 - 9223372036854775808
def hp_w8 (x : Int) : Int := (x + 128) % 256 - 128
def hp_w16 (x : Int) : Int := (x + 32768) % 65536 - 32768
def hp_r (x : Int) : Prop := -2147483648 ≤ x ∧ x < 2147483648
def hp_rl (x : Int) : Prop := -9223372036854775808 ≤ x ∧ x < 9223372036854775808
def hp_in (H : hp_H) : Prop := ∀ a i, hp_r (H a i)
def hp_up (H : hp_H) (a i v : Int) : hp_H := fun b j => if b = a ∧ j = i then v else H b j
theorem hp_w_b (x : Int) : hp_w x = x.bmod 4294967296 := by
  unfold hp_w Int.bmod
  have h1 := Int.emod_nonneg x (show (4294967296 : Int) ≠ 0 by decide)
  have h2 := Int.emod_lt_of_pos x (show (0 : Int) < 4294967296 by decide)
  dsimp only
  split <;> omega
theorem hp_wl_b (x : Int) : hp_wl x = x.bmod 18446744073709551616 := by
  unfold hp_wl Int.bmod
  have h1 := Int.emod_nonneg x (show (18446744073709551616 : Int) ≠ 0 by decide)
  have h2 := Int.emod_lt_of_pos x (show (0 : Int) < 18446744073709551616 by decide)
  dsimp only
  split <;> omega
theorem hp_w8_b (x : Int) : hp_w8 x = x.bmod 256 := by
  unfold hp_w8 Int.bmod
  dsimp only
  split <;> omega
theorem hp_w16_b (x : Int) : hp_w16 x = x.bmod 65536 := by
  unfold hp_w16 Int.bmod
  dsimp only
  split <;> omega
theorem hp_rw (x : Int) : hp_r (hp_w x) := by unfold hp_r hp_w; omega
theorem hp_rwl (x : Int) : hp_rl (hp_wl x) := by unfold hp_rl hp_wl; omega
theorem hp_rw8 (x : Int) : hp_r (hp_w8 x) := by unfold hp_r hp_w8; omega
theorem hp_rw16 (x : Int) : hp_r (hp_w16 x) := by unfold hp_r hp_w16; omega
theorem hp_wr {x : Int} (h : hp_r x) : hp_w x = x := by unfold hp_r at h; unfold hp_w; omega
theorem hp_wlr {x : Int} (h : hp_rl x) : hp_wl x = x := by unfold hp_rl at h; unfold hp_wl; omega
theorem hp_rrl {x : Int} (h : hp_r x) : hp_rl x := by unfold hp_r at h; unfold hp_rl; omega
theorem hp_rite {c : Prop} [Decidable c] {x y : Int} (h : hp_r x) (h2 : hp_r y) : hp_r (if c then x else y) := by split <;> assumption
theorem hp_rlite {c : Prop} [Decidable c] {x y : Int} (h : hp_rl x) (h2 : hp_rl y) : hp_rl (if c then x else y) := by split <;> assumption
theorem hp_in_up {H : hp_H} {a i v : Int} (h : hp_in H) (hv : hp_r v) : hp_in (hp_up H a i v) := by
  intro b j
  unfold hp_up
  split
  · exact hv
  · exact h b j
theorem hp_It {x : Int} (h : hp_r x) : (hp_I x).toInt = x := Int32.toInt_ofInt_of_le h.1 h.2
theorem hp_Jt {x : Int} (h : hp_rl x) : (hp_J x).toInt = x := Int64.toInt_ofInt_of_le h.1 h.2
theorem hp_Iw (x : Int) : hp_I (hp_w x) = hp_I x := Int32.toInt_inj.mp (by
  rw [hp_It (hp_rw x), hp_w_b]
  exact (Int32.toInt_ofInt (n := x)).symm)
theorem hp_Jw (x : Int) : hp_J (hp_wl x) = hp_J x := Int64.toInt_inj.mp (by
  rw [hp_Jt (hp_rwl x), hp_wl_b]
  exact (Int64.toInt_ofInt (n := x)).symm)
theorem hp_Io (x : Int32) : hp_I x.toInt = x := Int32.ofInt_toInt x
theorem hp_Jo (x : Int64) : hp_J x.toInt = x := Int64.ofInt_toInt x
theorem hp_rt (x : Int32) : hp_r x.toInt := ⟨Int32.le_toInt x, Int32.toInt_lt x⟩
theorem hp_rlt (x : Int64) : hp_rl x.toInt := ⟨Int64.le_toInt x, Int64.toInt_lt x⟩
theorem hp_add (a b : Int) : hp_I a + hp_I b = hp_I (hp_w (a + b)) := by rw [hp_Iw]; exact (Int32.ofInt_add a b).symm
theorem hp_sub (a b : Int) : hp_I a - hp_I b = hp_I (hp_w (a - b)) := by rw [hp_Iw]; exact (Int32.ofInt_sub a b).symm
theorem hp_mul (a b : Int) : hp_I a * hp_I b = hp_I (hp_w (a * b)) := by rw [hp_Iw]; exact (Int32.ofInt_mul a b).symm
theorem hp_neg (a : Int) : -hp_I a = hp_I (hp_w (-a)) := by rw [hp_Iw]; exact (Int32.ofInt_neg a).symm
theorem hp_addl (a b : Int) : hp_J a + hp_J b = hp_J (hp_wl (a + b)) := by rw [hp_Jw]; exact (Int64.ofInt_add a b).symm
theorem hp_subl (a b : Int) : hp_J a - hp_J b = hp_J (hp_wl (a - b)) := by rw [hp_Jw]; exact (Int64.ofInt_sub a b).symm
theorem hp_mull (a b : Int) : hp_J a * hp_J b = hp_J (hp_wl (a * b)) := by rw [hp_Jw]; exact (Int64.ofInt_mul a b).symm
theorem hp_lt {a b : Int} (ha : hp_r a) (hb : hp_r b) : hp_I a < hp_I b ↔ a < b := by rw [Int32.lt_iff_toInt_lt, hp_It ha, hp_It hb]
theorem hp_le {a b : Int} (ha : hp_r a) (hb : hp_r b) : hp_I a ≤ hp_I b ↔ a ≤ b := by rw [Int32.le_iff_toInt_le, hp_It ha, hp_It hb]
theorem hp_eq {a b : Int} (ha : hp_r a) (hb : hp_r b) : hp_I a = hp_I b ↔ a = b := by rw [← Int32.toInt_inj, hp_It ha, hp_It hb]
theorem hp_ltl {a b : Int} (ha : hp_rl a) (hb : hp_rl b) : hp_J a < hp_J b ↔ a < b := by rw [Int64.lt_iff_toInt_lt, hp_Jt ha, hp_Jt hb]
theorem hp_eql {a b : Int} (ha : hp_rl a) (hb : hp_rl b) : hp_J a = hp_J b ↔ a = b := by rw [← Int64.toInt_inj, hp_Jt ha, hp_Jt hb]
theorem hp_r0 : hp_r 0 := by unfold hp_r; omega
theorem hp_rl0 : hp_rl 0 := by unfold hp_rl; omega
theorem hp_div {a b : Int} (ha : hp_r a) (hb : hp_r b) : hp_I a / hp_I b = hp_I (hp_w (a.tdiv b)) := Int32.toInt_inj.mp (by
  rw [Int32.toInt_div, hp_It ha, hp_It hb, hp_It (hp_rw _), hp_w_b])
theorem hp_divl {a b : Int} (ha : hp_rl a) (hb : hp_rl b) : hp_J a / hp_J b = hp_J (hp_wl (a.tdiv b)) := Int64.toInt_inj.mp (by
  rw [Int64.toInt_div, hp_Jt ha, hp_Jt hb, hp_Jt (hp_rwl _), hp_wl_b])
theorem hp_rem {a b : Int} (ha : hp_r a) (hb : hp_r b) : hp_I a - hp_I a / hp_I b * hp_I b = hp_I (a.tmod b) := by
  rw [hp_div ha hb, hp_Iw, hp_mul, hp_Iw, hp_sub, hp_Iw, Int.tmod_def, Int.mul_comm]
theorem hp_reml {a b : Int} (ha : hp_rl a) (hb : hp_rl b) : hp_J a - hp_J a / hp_J b * hp_J b = hp_J (a.tmod b) := by
  rw [hp_divl ha hb, hp_Jw, hp_mull, hp_Jw, hp_subl, hp_Jw, Int.tmod_def, Int.mul_comm]
theorem hp_rrem {a b : Int} (ha : hp_r a) : hp_r (a.tmod b) := by
  have h1 := Int.natAbs_tmod a b
  have h2 := Nat.mod_le a.natAbs b.natAbs
  have h3 : 0 ≤ a → 0 ≤ a.tmod b := fun h => Int.tmod_nonneg b h
  have h4 : a ≤ 0 → a.tmod b ≤ 0 := fun h => by
    have h5 := Int.tmod_nonneg (a := -a) b (by omega)
    rw [Int.neg_tmod] at h5
    omega
  unfold hp_r at *
  omega
theorem hp_rreml {a b : Int} (ha : hp_rl a) : hp_rl (a.tmod b) := by
  have h1 := Int.natAbs_tmod a b
  have h2 := Nat.mod_le a.natAbs b.natAbs
  have h3 : 0 ≤ a → 0 ≤ a.tmod b := fun h => Int.tmod_nonneg b h
  have h4 : a ≤ 0 → a.tmod b ≤ 0 := fun h => by
    have h5 := Int.tmod_nonneg (a := -a) b (by omega)
    rw [Int.neg_tmod] at h5
    omega
  unfold hp_rl at *
  omega
def hp_and (a b : Int) : Int := (hp_I a &&& hp_I b).toInt
def hp_or (a b : Int) : Int := (hp_I a ||| hp_I b).toInt
def hp_xor (a b : Int) : Int := (hp_I a ^^^ hp_I b).toInt
def hp_shl (a b : Int) : Int := (hp_I a <<< (hp_I b &&& 31)).toInt
def hp_shr (a b : Int) : Int := (hp_I a >>> (hp_I b &&& 31)).toInt
def hp_ush (a b : Int) : Int := ((hp_I a).toUInt32 >>> ((hp_I b).toUInt32 &&& Int32.toUInt32 31)).toInt32.toInt
def hp_cmp (a b : Int) : Int := if b < a then 1 else if a = b then 0 else -1
def hp_max (a b : Int) : Int := if a < b then b else a
def hp_min (a b : Int) : Int := if b < a then b else a
def hp_abs (a : Int) : Int := if 0 ≤ a then a else hp_w (0 - a)
theorem hp_cmp_I {a b : Int} (ha : hp_rl a) (hb : hp_rl b) : lg_cmp (hp_J a) (hp_J b) = hp_I (hp_cmp a b) := by
  unfold lg_cmp hp_cmp
  show (if hp_J b < hp_J a then (1 : Int32) else if hp_J a = hp_J b then 0 else -1) = _
  by_cases h : b < a
  · rw [if_pos ((hp_ltl hb ha).mpr h), if_pos h]; rfl
  · rw [if_neg (fun q => h ((hp_ltl hb ha).mp q)), if_neg h]
    by_cases h2 : a = b
    · rw [if_pos ((hp_eql ha hb).mpr h2), if_pos h2]; rfl
    · rw [if_neg (fun q => h2 ((hp_eql ha hb).mp q)), if_neg h2]; rfl
theorem hp_rcmp (a b : Int) : hp_r (hp_cmp a b) := by unfold hp_cmp hp_r; (repeat' split) <;> omega
theorem hp_l2i (a : Int) : (hp_J a).toInt32 = hp_I (hp_w a) := by rw [hp_Iw]; exact Int64.toInt32_ofInt
theorem hp_i2l {a : Int} (h : hp_r a) : (hp_I a).toInt64 = hp_J a := Int64.toInt_inj.mp (by rw [Int32.toInt_toInt64, hp_It h, hp_Jt (hp_rrl h)])
theorem hp_i2b (a : Int) : (hp_I a).toInt8.toInt32 = hp_I (hp_w8 a) := Int32.toInt_inj.mp (by
  rw [Int8.toInt_toInt32, hp_It (hp_rw8 a), hp_w8_b, show (hp_I a).toInt8 = Int8.ofInt a from Int32.toInt8_ofInt]
  exact Int8.toInt_ofInt)
theorem hp_i2s (a : Int) : (hp_I a).toInt16.toInt32 = hp_I (hp_w16 a) := Int32.toInt_inj.mp (by
  rw [Int16.toInt_toInt32, hp_It (hp_rw16 a), hp_w16_b, show (hp_I a).toInt16 = Int16.ofInt a from Int32.toInt16_ofInt]
  exact Int16.toInt_ofInt)
/-- an index -/
theorem hp_ix {i : Int} {n : Nat} (h : 0 ≤ i ∧ i < n) (hn : n ≤ 65536) : vp_in (hp_I i) n ∧ (hp_I i).toNatClampNeg = i.toNat := by
  have hr : hp_r i := by unfold hp_r; omega
  refine ⟨vp_in_iff.mpr (by rw [hp_It hr]; exact h), ?_⟩
  show (hp_I i).toInt.toNat = _
  rw [hp_It hr]
theorem hp_tn {i : Int} (h : 0 ≤ i) : ((i.toNat : Nat) : Int) = i := Int.toNat_of_nonneg h
