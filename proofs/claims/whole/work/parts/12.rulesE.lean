/-! pure words of the functions, and the rules as the walks use them -/
def hp_let {α β : Type} (x : α) (k : α → β) : β := k x
theorem hp_let_e {α β : Type} {x z : α} {k : α → β} {y : β} (hz : z = x) (h : hp_let x k = y) : k z = y := by subst hz; exact h
def hp_ck {α : Type} (c : Prop) [Decidable c] (o : Option α) : Option α := if c then o else none
theorem hp_ck_e {α : Type} {c : Prop} [Decidable c] {o : Option α} {y : α} (h : hp_ck c o = some y) : c ∧ o = some y := by
  unfold hp_ck at h
  split at h
  · exact ⟨by assumption, h⟩
  · cases h
def hp_b1 {α β : Type} (o : Option α) (k : α → Option β) : Option β := match o with | none => none | some a => k a
def hp_b2 {α β γ : Type} (o : Option (α × β)) (k : α → β → Option γ) : Option γ := match o with | none => none | some (a, b) => k a b
def hp_b3 {α β γ δ : Type} (o : Option (α × β × γ)) (k : α → β → γ → Option δ) : Option δ := match o with | none => none | some (a, b, c) => k a b c
def hp_b4 {α β γ δ ε : Type} (o : Option (α × β × γ × δ)) (k : α → β → γ → δ → Option ε) : Option ε := match o with | none => none | some (a, b, c, d) => k a b c d
def hp_b5 {α β γ δ ε ζ : Type} (o : Option (α × β × γ × δ × ε)) (k : α → β → γ → δ → ε → Option ζ) : Option ζ := match o with | none => none | some (a, b, c, d, e) => k a b c d e
theorem hp_b1_e {α β : Type} {o : Option α} {k : α → Option β} {y : β} (h : hp_b1 o k = some y) : ∃ a, o = some a ∧ k a = some y := by
  unfold hp_b1 at h
  split at h
  · cases h
  · exact ⟨_, rfl, h⟩
theorem hp_b2_e {α β γ : Type} {o : Option (α × β)} {k : α → β → Option γ} {y : γ} (h : hp_b2 o k = some y) : ∃ a b, o = some (a, b) ∧ k a b = some y := by
  unfold hp_b2 at h
  split at h
  · cases h
  · exact ⟨_, _, rfl, h⟩
theorem hp_b3_e {α β γ δ : Type} {o : Option (α × β × γ)} {k : α → β → γ → Option δ} {y : δ} (h : hp_b3 o k = some y) : ∃ a b c, o = some (a, b, c) ∧ k a b c = some y := by
  unfold hp_b3 at h
  split at h
  · cases h
  · exact ⟨_, _, _, rfl, h⟩
theorem hp_b4_e {α β γ δ ε : Type} {o : Option (α × β × γ × δ)} {k : α → β → γ → δ → Option ε} {y : ε} (h : hp_b4 o k = some y) : ∃ a b c d, o = some (a, b, c, d) ∧ k a b c d = some y := by
  unfold hp_b4 at h
  split at h
  · cases h
  · exact ⟨_, _, _, _, rfl, h⟩
theorem hp_b5_e {α β γ δ ε ζ : Type} {o : Option (α × β × γ × δ × ε)} {k : α → β → γ → δ → ε → Option ζ} {y : ζ} (h : hp_b5 o k = some y) : ∃ a b c d e, o = some (a, b, c, d, e) ∧ k a b c d e = some y := by
  unfold hp_b5 at h
  split at h
  · cases h
  · exact ⟨_, _, _, _, _, rfl, h⟩
theorem hp_it {α : Type} {c : Prop} [Decidable c] {a b : Option α} {y : Option α} (hc : c) (h : (if c then a else b) = y) : a = y := by rwa [if_pos hc] at h
theorem hp_if {α : Type} {c : Prop} [Decidable c] {a b : Option α} {y : Option α} (hc : ¬ c) (h : (if c then a else b) = y) : b = y := by rwa [if_neg hc] at h
theorem hp_no {α : Type} {x : α} {P : Prop} (h : (none : Option α) = some x) : P := by cases h
theorem hp_rc {x : Int} (h : (decide (-2147483648 ≤ x) && decide (x < 2147483648)) = true) : hp_r x := by
  simp only [Bool.and_eq_true, decide_eq_true_eq] at h
  exact h
theorem hp_rlc {x : Int} (h : (decide (-9223372036854775808 ≤ x) && decide (x < 9223372036854775808)) = true) : hp_rl x := by
  simp only [Bool.and_eq_true, decide_eq_true_eq] at h
  exact h
theorem hp_re {z e : Int} (he : z = e) (h : hp_r e) : hp_r z := he ▸ h
theorem hp_rle {z e : Int} (he : z = e) (h : hp_rl e) : hp_rl z := he ▸ h
theorem hp_ine {z e : hp_H} (he : z = e) (h : hp_in e) : hp_in z := he ▸ h
theorem hp_ri (x : Int32) : hp_r x.toInt := hp_rt x
theorem hp_rand (a b : Int) : hp_r (hp_and a b) := hp_rt _
theorem hp_ror (a b : Int) : hp_r (hp_or a b) := hp_rt _
theorem hp_rxor (a b : Int) : hp_r (hp_xor a b) := hp_rt _
theorem hp_rshl (a b : Int) : hp_r (hp_shl a b) := hp_rt _
theorem hp_rshr (a b : Int) : hp_r (hp_shr a b) := hp_rt _
theorem hp_rush (a b : Int) : hp_r (hp_ush a b) := hp_rt _
theorem hp_rtab (a i : Int) : hp_r (hp_tab a i) := by
  have key : ∀ (l : List Int), (∀ x ∈ l, hp_r x) → hp_r (l.getD i.toNat 0) := by
    intro l hl
    rw [List.getD_eq_getElem?_getD]
    cases h : l[i.toNat]? with
    | none => exact hp_r0
    | some x => exact hl x (List.mem_of_getElem? h)
  unfold hp_tab
  refine hp_rite (key _ ?_) (hp_rite (key _ ?_) (key _ ?_)) <;> (intro x hx; simp only [List.mem_cons, List.not_mem_nil, or_false] at hx; rcases hx with h | h | h | h | h | h <;> (subst h; exact hp_rc rfl))
theorem hp_z01 {c : Prop} [Decidable c] {x y : Int} (h : x = 0 ∨ x = 1) (h2 : y = 0 ∨ y = 1) : (if c then x else y) = 0 ∨ (if c then x else y) = 1 := by split <;> assumption
section HE
variable {G : hp_G} {l : Launch} {cc : ByteArray} {nL : Nat} {ret : Option FieldType} {own : String} {R : Room} {v : Option Value} {H' : hp_H} {Z : Prop} {pc : Nat} {L L' : List (Nat × Value)} {st : List Value} {H : hp_H}
theorem x_sub (ks : List Nat) (hL : lv_pick L ks = L') (k : hp_R G l cc nL ret own R v H' Z pc L' st H) : hp_R G l cc nL ret own R v H' Z pc L st H := by
  intro p e s m args below meth c hC Hc locs ls hW hT hS hl
  exact k p e s m args below meth c hC Hc locs ls hW hT hS (lv_sub hl ks hL)
theorem x_isE {i : Nat} {a z : Int} (he : z = a) (hd : decode cc pc = .ok (.istore i, 2)) (hn : i < nL) (hL : (i, Value.int (hp_I z)) :: L.filter (fun q => !(q.1 == i) && !(q.1 + 1 == i && q.2.category == 2)) = L') (k : hp_R G l cc nL ret own R v H' Z (pc + 2) L' st H) : hp_R G l cc nL ret own R v H' Z pc L (.int (hp_I a) :: st) H := by subst he; exact x_istore hd hn hL k
theorem x_isnE {f : Fin 4} {i : Nat} {a z : Int} (he : z = a) (hd : decode cc pc = .ok (.istore_n f, 1)) (hi : (f : Nat) = i) (hn : i < nL) (hL : (i, Value.int (hp_I z)) :: L.filter (fun q => !(q.1 == i) && !(q.1 + 1 == i && q.2.category == 2)) = L') (k : hp_R G l cc nL ret own R v H' Z (pc + 1) L' st H) : hp_R G l cc nL ret own R v H' Z pc L (.int (hp_I a) :: st) H := by subst he; exact x_istore_n hd hi hn hL k
theorem x_lsE {i : Nat} {a z : Int} (he : z = a) (hd : decode cc pc = .ok (.lstore i, 2)) (hn : i + 1 < nL) (hL : (i, Value.long (hp_J z)) :: L.filter (fun q => !(q.1 == i) && (!(q.1 == i + 1) && !(q.1 + 1 == i && q.2.category == 2))) = L') (k : hp_R G l cc nL ret own R v H' Z (pc + 2) L' st H) : hp_R G l cc nL ret own R v H' Z pc L (.long (hp_J a) :: st) H := by subst he; exact x_lstore hd hn hL k
theorem x_lsnE {f : Fin 4} {i : Nat} {a z : Int} (he : z = a) (hd : decode cc pc = .ok (.lstore_n f, 1)) (hi : (f : Nat) = i) (hn : i + 1 < nL) (hL : (i, Value.long (hp_J z)) :: L.filter (fun q => !(q.1 == i) && (!(q.1 == i + 1) && !(q.1 + 1 == i && q.2.category == 2))) = L') (k : hp_R G l cc nL ret own R v H' Z (pc + 1) L' st H) : hp_R G l cc nL ret own R v H' Z pc L (.long (hp_J a) :: st) H := by subst he; exact x_lstore_n hd hi hn hL k
theorem x_iiE {i : Nat} {n x z : Int} (he : z = hp_w (x + n)) (hd : decode cc pc = .ok (.iinc i n, 3)) (j : Nat) (hj : L[j]? = some (i, .int (hp_I x))) (hn : i < nL) (hL : (i, Value.int (hp_I z)) :: L.filter (fun q => !(q.1 == i) && !(q.1 + 1 == i && q.2.category == 2)) = L') (k : hp_R G l cc nL ret own R v H' Z (pc + 3) L' st H) : hp_R G l cc nL ret own R v H' Z pc L st H := by subst he; exact x_iinc hd j hj hn hL k
theorem x_gi {a : Int} {ci : Nat} {fs : List (Option Int)} {C : String} {T : u_T} {N idx : Nat} (k : Nat) (kI : Int) (hkI : (k : Int) = kI) (hs : (hp_sh G)[a.toNat]? = some (0, ci, fs)) (h0 : 0 ≤ a) (hc : vwCl[ci]? = some (C, T, N)) (hin : ∀ w ∈ u_ws C T N, w ∈ hp_tb) (hk : k < N) (hw : fs[k]? = some none) (hf : Cond.fieldLink own idx (T k).1 (T k).2.1 (T k).2.2.1 ∈ hp_tb) (hd : decode cc pc = .ok (.getfield idx, 3)) (kk : hp_R G l cc nL ret own R v H' Z (pc + 3) L (.int (hp_I (H a kI)) :: st) H) : hp_R G l cc nL ret own R v H' Z pc L (.ref (hp_ad G a) :: st) H := by subst hkI; exact x_geti k hs h0 hc hin hk hw hf hd kk
theorem x_pi {a x : Int} {ci : Nat} {fs : List (Option Int)} {C : String} {T : u_T} {N idx : Nat} {Hn : hp_H} (k : Nat) (kI : Int) (hkI : (k : Int) = kI) (ty0 : Nat → FieldType) (he : Hn = hp_up H a kI x) (hs : (hp_sh G)[a.toNat]? = some (0, ci, fs)) (h0 : 0 ≤ a) (hc : vwCl[ci]? = some (C, T, N)) (hin : ∀ w ∈ u_ws C T N, w ∈ hp_tb) (hty : ∀ k, k < N → parseFieldDescriptor (T k).2.2.1 = some (ty0 k)) (hnm : ∀ a, a < N → ∀ b, b < N → a ≠ b → (T a).2.1 ≠ (T b).2.1) (hk : k < N) (hi : ty0 k = .int) (hfin : (T k).2.2.2 = false) (hw : fs[k]? = some none) (hf : Cond.fieldLink own idx (T k).1 (T k).2.1 (T k).2.2.1 ∈ hp_tb) (hd : decode cc pc = .ok (.putfield idx, 3)) (kk : hp_R G l cc nL ret own R v H' Z (pc + 3) L st Hn) : hp_R G l cc nL ret own R v H' Z pc L (.int (hp_I x) :: .ref (hp_ad G a) :: st) H := by subst hkI; subst he; exact x_puti k ty0 hs h0 hc hin hty hnm hk hi hfin hw hf hd kk
theorem x_ia {a i : Int} {n : Nat} (nI : Int) (hnI : (n : Int) = nI) {fs : List (Option Int)} (hs : (hp_sh G)[a.toNat]? = some (1, n, fs)) (h0 : 0 ≤ a) (hn : n ≤ 65536) (hi : 0 ≤ i ∧ i < nI) (hd : decode cc pc = .ok (.iaload, 1)) (kk : hp_R G l cc nL ret own R v H' Z (pc + 1) L (.int (hp_I (H a i)) :: st) H) : hp_R G l cc nL ret own R v H' Z pc L (.int (hp_I i) :: .ref (hp_ad G a) :: st) H := by subst hnI; exact x_iald hs h0 hn hi hd kk
theorem x_za {a i : Int} {n : Nat} (nI : Int) (hnI : (n : Int) = nI) {fs : List (Option Int)} (hs : (hp_sh G)[a.toNat]? = some (2, n, fs)) (h0 : 0 ≤ a) (hn : n ≤ 65536) (hi : 0 ≤ i ∧ i < nI) (hd : decode cc pc = .ok (.baload, 1)) (kk : hp_R G l cc nL ret own R v H' Z (pc + 1) L (.int (hp_I (H a i)) :: st) H) : hp_R G l cc nL ret own R v H' Z pc L (.int (hp_I i) :: .ref (hp_ad G a) :: st) H := by subst hnI; exact x_zald hs h0 hn hi hd kk
theorem x_ias {a i x : Int} {n : Nat} {Hn : hp_H} (nI : Int) (hnI : (n : Int) = nI) (he : Hn = hp_up H a i x) {fs : List (Option Int)} (hs : (hp_sh G)[a.toNat]? = some (1, n, fs)) (h0 : 0 ≤ a) (hn : n ≤ 65536) (hi : 0 ≤ i ∧ i < nI) (hd : decode cc pc = .ok (.iastore, 1)) (kk : hp_R G l cc nL ret own R v H' Z (pc + 1) L st Hn) : hp_R G l cc nL ret own R v H' Z pc L (.int (hp_I x) :: .int (hp_I i) :: .ref (hp_ad G a) :: st) H := by subst hnI; subst he; exact x_iast hs h0 hn hi hd kk
theorem x_zas {a i x : Int} {n : Nat} {Hn : hp_H} (nI : Int) (hnI : (n : Int) = nI) (he : Hn = hp_up H a i x) {fs : List (Option Int)} (hs : (hp_sh G)[a.toNat]? = some (2, n, fs)) (h0 : 0 ≤ a) (hn : n ≤ 65536) (hi : 0 ≤ i ∧ i < nI) (hx : vp_nar .boolean (hp_I x) = hp_I x) (hd : decode cc pc = .ok (.bastore, 1)) (kk : hp_R G l cc nL ret own R v H' Z (pc + 1) L st Hn) : hp_R G l cc nL ret own R v H' Z pc L (.int (hp_I x) :: .int (hp_I i) :: .ref (hp_ad G a) :: st) H := by subst hnI; subst he; exact x_zast hs h0 hn hi hx hd kk
theorem x_a3 {a i b0 b1 : Int} {n : Nat} (nI : Int) (hnI : (n : Int) = nI) (hs : (hp_sh G)[a.toNat]? = some (3, n, [some b0, some b1])) (h0 : 0 ≤ a) (hn : n ≤ 65536) (hi : 0 ≤ i ∧ i < nI) (hd : decode cc pc = .ok (.aaload, 1)) (kk : hp_R G l cc nL ret own R v H' Z (pc + 1) L (.ref (hp_ad G (b0 + b1 * i)) :: st) H) : hp_R G l cc nL ret own R v H' Z pc L (.int (hp_I i) :: .ref (hp_ad G a) :: st) H := by subst hnI; exact x_aald3 hs h0 hn hi hd kk
theorem x_a4 {a i b0 : Int} {n : Nat} (nI : Int) (hnI : (n : Int) = nI) (hs : (hp_sh G)[a.toNat]? = some (4, n, [some b0, some 1])) (h0 : 0 ≤ a) (hn : n ≤ 65536) (hi : 0 ≤ i ∧ i < nI) (hd : decode cc pc = .ok (.aaload, 1)) (kk : hp_R G l cc nL ret own R v H' Z (pc + 1) L (.ref (hp_ad G (b0 + i)) :: st) H) : hp_R G l cc nL ret own R v H' Z pc L (.int (hp_I i) :: .ref (hp_ad G a) :: st) H := by
  subst hnI
  refine x_aald4 hs h0 hn hi hd ?_
  rw [Int.one_mul]
  exact kk
theorem x_gs {idx : Nat} (k : Nat) (kI : Int) (hkI : -(k : Int) = kI) (h1 : 1 ≤ k) (h2 : k ≤ 3) (hf : Cond.fieldLink own idx "HeelPost$Asks" (hp_sn k) "[I" ∈ hp_tb) (hd : decode cc pc = .ok (.getstatic idx, 3)) (kk : hp_R G l cc nL ret own R v H' Z (pc + 3) L (.ref (hp_ad G kI) :: st) H) : hp_R G l cc nL ret own R v H' Z pc L st H := by subst hkI; exact x_gets k h1 h2 hf hd kk
theorem x_cpyE {d idx : Nat} {a i b j n : Int} {n0 n1 : Nat} {Hn : hp_H} (nI mI : Int) (hnI : (n0 : Int) = nI) (hmI : (n1 : Int) = mI) (he : Hn = hp_cpy H a i b j n) {fs gs : List (Option Int)} (hs : (hp_sh G)[a.toNat]? = some (1, n0, fs)) (h0 : 0 ≤ a) (hs2 : (hp_sh G)[b.toNat]? = some (1, n1, gs)) (h02 : 0 ≤ b) (hn0 : n0 ≤ 65536) (hn1 : n1 ≤ 65536) (hc : 0 ≤ i ∧ 0 ≤ j ∧ 0 ≤ n ∧ i + n ≤ nI ∧ j + n ≤ mI) (hlink : Cond.methodLink own idx arraycopyName ∈ hp_tb) (hR : 1 ≤ d) (h8 : (st.map fun v => v.category).sum ≤ 8) (hd : decode cc pc = .ok (.invokestatic idx, 3)) (kk : hp_R G l cc nL ret own (hp_rm d) v H' Z (pc + 3) L st Hn) : hp_R G l cc nL ret own (hp_rm d) v H' Z pc L (.int (hp_I n) :: .int (hp_I j) :: .ref (hp_ad G b) :: .int (hp_I i) :: .ref (hp_ad G a) :: st) H := by subst hnI; subst hmI; subst he; exact x_copy hs h0 hs2 h02 hn0 hn1 hc.1 hc.2.1 hc.2.2.1 hc.2.2.2.1 hc.2.2.2.2 hlink nat_cpy stt_cpy ini_System hR h8 hd kk
theorem x_ivi {d d2 : Nat} {y : MethodName} {cy : ByteArray} {ny n idx ci : Nat} {ry : Option FieldType} {b : Int} {fs : List (Option Int)} {C : String} {T : u_T} {N : Nat} {As st0 : List Value} {w1 : Int32} {H1 : hp_H} {Z1 : Prop} (hM : hp_M G l y cy ny ry (hp_rm d2) (.ref (hp_ad G b) :: As) H (some (.int w1)) H1 Z1) (hy : hp_cal y cy ny ry n) (hs : (hp_sh G)[b.toNat]? = some (0, ci, fs)) (h0 : 0 ≤ b) (hc : vwCl[ci]? = some (C, T, N)) (hyC : y.cls = C)
    (hinst : Cond.instanceMethod y ∈ hp_tb) (hsel : Cond.selects C y y ∈ hp_tb) (hlink : Cond.methodLink own idx y ∈ hp_tb) (hR : d2 + 1 ≤ d ∧ 8 + (ny + 11) + 64 * d2 ≤ 64 * d) (hn : As.length = n) (hst : st0 = As.reverse ++ .ref (hp_ad G b) :: st) (h8 : (st.map fun v => v.category).sum ≤ 8) (hd : decode cc pc = .ok (.invokevirtual idx, 3))
    (kk : Z1 → hp_R G l cc nL ret own (hp_rm d) v H' Z (pc + 3) L (.int w1 :: st) H1) : hp_R G l cc nL ret own (hp_rm d) v H' Z pc L st0 H := x_iv hM hy hs h0 hc hyC hinst hsel hlink hR hn hst h8 hd kk
theorem x_ivl {d d2 : Nat} {y : MethodName} {cy : ByteArray} {ny n idx ci : Nat} {ry : Option FieldType} {b : Int} {fs : List (Option Int)} {C : String} {T : u_T} {N : Nat} {As st0 : List Value} {w1 : Int64} {H1 : hp_H} {Z1 : Prop} (hM : hp_M G l y cy ny ry (hp_rm d2) (.ref (hp_ad G b) :: As) H (some (.long w1)) H1 Z1) (hy : hp_cal y cy ny ry n) (hs : (hp_sh G)[b.toNat]? = some (0, ci, fs)) (h0 : 0 ≤ b) (hc : vwCl[ci]? = some (C, T, N)) (hyC : y.cls = C)
    (hinst : Cond.instanceMethod y ∈ hp_tb) (hsel : Cond.selects C y y ∈ hp_tb) (hlink : Cond.methodLink own idx y ∈ hp_tb) (hR : d2 + 1 ≤ d ∧ 8 + (ny + 11) + 64 * d2 ≤ 64 * d) (hn : As.length = n) (hst : st0 = As.reverse ++ .ref (hp_ad G b) :: st) (h8 : (st.map fun v => v.category).sum ≤ 8) (hd : decode cc pc = .ok (.invokevirtual idx, 3))
    (kk : Z1 → hp_R G l cc nL ret own (hp_rm d) v H' Z (pc + 3) L (.long w1 :: st) H1) : hp_R G l cc nL ret own (hp_rm d) v H' Z pc L st0 H := x_iv hM hy hs h0 hc hyC hinst hsel hlink hR hn hst h8 hd kk
theorem x_ivv {d d2 : Nat} {y : MethodName} {cy : ByteArray} {ny n idx ci : Nat} {ry : Option FieldType} {b : Int} {fs : List (Option Int)} {C : String} {T : u_T} {N : Nat} {As st0 : List Value}  {H1 : hp_H} {Z1 : Prop} (hM : hp_M G l y cy ny ry (hp_rm d2) (.ref (hp_ad G b) :: As) H none H1 Z1) (hy : hp_cal y cy ny ry n) (hs : (hp_sh G)[b.toNat]? = some (0, ci, fs)) (h0 : 0 ≤ b) (hc : vwCl[ci]? = some (C, T, N)) (hyC : y.cls = C)
    (hinst : Cond.instanceMethod y ∈ hp_tb) (hsel : Cond.selects C y y ∈ hp_tb) (hlink : Cond.methodLink own idx y ∈ hp_tb) (hR : d2 + 1 ≤ d ∧ 8 + (ny + 11) + 64 * d2 ≤ 64 * d) (hn : As.length = n) (hst : st0 = As.reverse ++ .ref (hp_ad G b) :: st) (h8 : (st.map fun v => v.category).sum ≤ 8) (hd : decode cc pc = .ok (.invokevirtual idx, 3))
    (kk : Z1 → hp_R G l cc nL ret own (hp_rm d) v H' Z (pc + 3) L st H1) : hp_R G l cc nL ret own (hp_rm d) v H' Z pc L st0 H := x_iv hM hy hs h0 hc hyC hinst hsel hlink hR hn hst h8 hd kk
theorem x_isi {d d2 : Nat} {y : MethodName} {cy : ByteArray} {ny n idx : Nat} {ry : Option FieldType} {As st0 : List Value} {w1 : Int32} {H1 : hp_H} {Z1 : Prop} (hM : hp_M G l y cy ny ry (hp_rm d2) As H (some (.int w1)) H1 Z1) (hy : hp_cal y cy ny ry n)
    (hstat : Cond.static y ∈ hp_tb) (hlink : Cond.methodLink own idx y ∈ hp_tb) (hR : d2 + 1 ≤ d ∧ 8 + (ny + 11) + 64 * d2 ≤ 64 * d) (hn : As.length = n) (hst : st0 = As.reverse ++ st) (h8 : (st.map fun v => v.category).sum ≤ 8) (hd : decode cc pc = .ok (.invokestatic idx, 3))
    (kk : Z1 → hp_R G l cc nL ret own (hp_rm d) v H' Z (pc + 3) L (.int w1 :: st) H1) : hp_R G l cc nL ret own (hp_rm d) v H' Z pc L st0 H := x_is hM hy hstat hlink hR hn hst h8 hd kk
theorem x_isl {d d2 : Nat} {y : MethodName} {cy : ByteArray} {ny n idx : Nat} {ry : Option FieldType} {As st0 : List Value} {w1 : Int64} {H1 : hp_H} {Z1 : Prop} (hM : hp_M G l y cy ny ry (hp_rm d2) As H (some (.long w1)) H1 Z1) (hy : hp_cal y cy ny ry n)
    (hstat : Cond.static y ∈ hp_tb) (hlink : Cond.methodLink own idx y ∈ hp_tb) (hR : d2 + 1 ≤ d ∧ 8 + (ny + 11) + 64 * d2 ≤ 64 * d) (hn : As.length = n) (hst : st0 = As.reverse ++ st) (h8 : (st.map fun v => v.category).sum ≤ 8) (hd : decode cc pc = .ok (.invokestatic idx, 3))
    (kk : Z1 → hp_R G l cc nL ret own (hp_rm d) v H' Z (pc + 3) L (.long w1 :: st) H1) : hp_R G l cc nL ret own (hp_rm d) v H' Z pc L st0 H := x_is hM hy hstat hlink hR hn hst h8 hd kk
theorem x_isv {d d2 : Nat} {y : MethodName} {cy : ByteArray} {ny n idx : Nat} {ry : Option FieldType} {As st0 : List Value}  {H1 : hp_H} {Z1 : Prop} (hM : hp_M G l y cy ny ry (hp_rm d2) As H none H1 Z1) (hy : hp_cal y cy ny ry n)
    (hstat : Cond.static y ∈ hp_tb) (hlink : Cond.methodLink own idx y ∈ hp_tb) (hR : d2 + 1 ≤ d ∧ 8 + (ny + 11) + 64 * d2 ≤ 64 * d) (hn : As.length = n) (hst : st0 = As.reverse ++ st) (h8 : (st.map fun v => v.category).sum ≤ 8) (hd : decode cc pc = .ok (.invokestatic idx, 3))
    (kk : Z1 → hp_R G l cc nL ret own (hp_rm d) v H' Z (pc + 3) L st H1) : hp_R G l cc nL ret own (hp_rm d) v H' Z pc L st0 H := x_is hM hy hstat hlink hR hn hst h8 hd kk
theorem x_isNi {d d2 : Nat} {cy : ByteArray} {ny n : Nat} {ry : Option FieldType} {As st0 : List Value} {w1 : Int32} {H1 : hp_H} {Z1 : Prop} (hM : hp_M G l ⟨"HeelPost", "within", "(III)Z"⟩ cy ny ry (hp_rm d2) As H (some (.int w1)) H1 Z1) (hy : hp_cal ⟨"HeelPost", "within", "(III)Z"⟩ cy ny ry n)
    (hstat : Cond.static ⟨"HeelPost", "within", "(III)Z"⟩ ∈ hp_tb) (hR : d2 + 1 ≤ d ∧ 8 + (ny + 11) + 64 * d2 ≤ 64 * d) (hn : As.length = n) (hst : st0 = As.reverse ++ st) (h8 : (st.map fun v => v.category).sum ≤ 8) (hd : decode cc pc = .ok (.invokestatic 76, 3))
    (kk : Z1 → hp_R G l cc nL ret "HeelPost$Tape" (hp_rm d) v H' Z (pc + 3) L (.int w1 :: st) H1) : hp_R G l cc nL ret "HeelPost$Tape" (hp_rm d) v H' Z pc L st0 H := x_isN hM hy hstat hR hn hst h8 hd kk
theorem x_isNl {d d2 : Nat} {cy : ByteArray} {ny n : Nat} {ry : Option FieldType} {As st0 : List Value} {w1 : Int64} {H1 : hp_H} {Z1 : Prop} (hM : hp_M G l ⟨"HeelPost", "within", "(III)Z"⟩ cy ny ry (hp_rm d2) As H (some (.long w1)) H1 Z1) (hy : hp_cal ⟨"HeelPost", "within", "(III)Z"⟩ cy ny ry n)
    (hstat : Cond.static ⟨"HeelPost", "within", "(III)Z"⟩ ∈ hp_tb) (hR : d2 + 1 ≤ d ∧ 8 + (ny + 11) + 64 * d2 ≤ 64 * d) (hn : As.length = n) (hst : st0 = As.reverse ++ st) (h8 : (st.map fun v => v.category).sum ≤ 8) (hd : decode cc pc = .ok (.invokestatic 76, 3))
    (kk : Z1 → hp_R G l cc nL ret "HeelPost$Tape" (hp_rm d) v H' Z (pc + 3) L (.long w1 :: st) H1) : hp_R G l cc nL ret "HeelPost$Tape" (hp_rm d) v H' Z pc L st0 H := x_isN hM hy hstat hR hn hst h8 hd kk
theorem x_isNv {d d2 : Nat} {cy : ByteArray} {ny n : Nat} {ry : Option FieldType} {As st0 : List Value}  {H1 : hp_H} {Z1 : Prop} (hM : hp_M G l ⟨"HeelPost", "within", "(III)Z"⟩ cy ny ry (hp_rm d2) As H none H1 Z1) (hy : hp_cal ⟨"HeelPost", "within", "(III)Z"⟩ cy ny ry n)
    (hstat : Cond.static ⟨"HeelPost", "within", "(III)Z"⟩ ∈ hp_tb) (hR : d2 + 1 ≤ d ∧ 8 + (ny + 11) + 64 * d2 ≤ 64 * d) (hn : As.length = n) (hst : st0 = As.reverse ++ st) (h8 : (st.map fun v => v.category).sum ≤ 8) (hd : decode cc pc = .ok (.invokestatic 76, 3))
    (kk : Z1 → hp_R G l cc nL ret "HeelPost$Tape" (hp_rm d) v H' Z (pc + 3) L st H1) : hp_R G l cc nL ret "HeelPost$Tape" (hp_rm d) v H' Z pc L st0 H := x_isN hM hy hstat hR hn hst h8 hd kk
end HE
