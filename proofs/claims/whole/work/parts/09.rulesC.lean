/-! rules: ends, calls, the JDK's own -/
def hp_rm (d : Nat) : Room := { frames := d, cells := 0, slots := 0, locals := 64 * d }
theorem hp_W.fin {G : hp_G} {H : hp_H} {s t : State} {Hc : Heap} (h : hp_W G H s Hc) (ht : t.heap = Hc) (hW : s.WarmedH t.vm) : hp_W G H t t.heap := by
  rw [ht]
  exact ⟨h.1, va_K.moved hW.alike h.2.1, h.2.2.1, h.2.2.2.warm hW⟩
section HC
variable {G : hp_G} {l : Launch} {cc : ByteArray} {nL : Nat} {ret : Option FieldType} {own : String} {R : Room} {v : Option Value} {H' : hp_H} {Z : Prop} {pc : Nat} {L L' : List (Nat × Value)} {st : List Value} {H : hp_H}
theorem x_iret {x : Int} (hz : Z) (hd : decode cc pc = .ok (.ireturn, 1)) : hp_R G l cc nL (some .int) own R (some (.int (hp_I x))) H Z pc L [.int (hp_I x)] H := by
  intro p e s m args below meth c hC Hc locs ls hW hT hS hl
  have hlocks := hC.2.2.2.2.2.2
  exact W.iret hC.1 hC.2.1 hC.2.2.1 (fun t ht hw => ⟨⟨rfl, hz, hW.fin ht hw⟩, hS.F ht⟩) hS.2.2 hd
theorem x_zret {x : Int} (hz : Z) (hx : x = 0 ∨ x = 1) (hd : decode cc pc = .ok (.ireturn, 1)) : hp_R G l cc nL (some .boolean) own R (some (.int (hp_I x))) H Z pc L [.int (hp_I x)] H := by
  intro p e s m args below meth c hC Hc locs ls hW hT hS hl
  have hlocks := hC.2.2.2.2.2.2
  exact W.zret hC.1 hC.2.1 hC.2.2.1 (by rcases hx with rfl | rfl <;> rfl) (fun t ht hw => ⟨⟨rfl, hz, hW.fin ht hw⟩, hS.F ht⟩) hS.2.2 hd
theorem x_lret {x : Int} (hz : Z) (hd : decode cc pc = .ok (.lreturn, 1)) : hp_R G l cc nL (some .long) own R (some (.long (hp_J x))) H Z pc L [.long (hp_J x)] H := by
  intro p e s m args below meth c hC Hc locs ls hW hT hS hl
  have hlocks := hC.2.2.2.2.2.2
  exact W.lret hC.1 hC.2.1 hC.2.2.1 (fun t ht hw => ⟨⟨rfl, hz, hW.fin ht hw⟩, hS.F ht⟩) hS.2.2 hd
theorem x_vret (hz : Z) (hd : decode cc pc = .ok (.return_, 1)) : hp_R G l cc nL none own R none H Z pc L [] H := by
  intro p e s m args below meth c hC Hc locs ls hW hT hS hl
  have hlocks := hC.2.2.2.2.2.2
  exact W.vret hC.1 hC.2.1 hC.2.2.1 (fun t ht hw => ⟨⟨rfl, hz, hW.fin ht hw⟩, hS.F ht⟩) hS.2.2 hd
/-- behind a call -/
theorem hp_back {p : Program} {e : Env} {s : State} {m : MethodId} {args : Array Value} {below : List Frame} {meth : Method} {c : Code} {Hc : Heap} {locs : List Loc} {ls : Array Slot} {st0 : List Value} {v1 : Option Value} {H1 : hp_H} {Z1 : Prop} {a : Array Value} (hC : hp_C cc nL ret own p s m args meth c) (hr : va_Run p l e R s m args below meth c Hc locs 0 0 0 0 (F0 m pc ls st0) st (hp_Q G v1 H1 Z1 a) (hp_A G)) (hT : hp_St G s s.heap) (hS : va_S (hp_A G) s.heap Hc locs) (hl : lv_has ls nL L)
    (kk : Z1 → hp_R G l cc nL ret own R v H' Z (pc + 3) L (v1.toList ++ st) H1) : W p l e R s m args below meth c Hc locs 0 0 (MQ below (hp_Q G v H' Z) args s 0 0 (hp_A G)) (F0 m pc ls st0) := by
  intro T hTh X
  obtain ⟨v2, st₀, t, T', L2, h0, X', hL, e1, e2, ⟨⟨hv, hz, hw⟩, hf1, hf2⟩, go⟩ := hr T hTh X
  cases hv
  rw [h0] at hf1 hf2
  have hal : s.vm.Alike t.vm := by rw [← e2]; exact X'.warmed.alike
  have hS1 : va_S (hp_A G) s.heap T'.heap (locs ++ L2) := ⟨Nat.le_trans hS.1 (by rw [e1]; exact hf1), fun q h1 h2 => by rw [e1, hf2 q (Nat.lt_of_lt_of_le h1 hS.1) h2]; exact hS.2.1 q h1 h2, fun q hq => by
    rcases List.mem_append.mp hq with h | h
    · exact hS.2.2 q h
    · exact hL q h⟩
  have hW1 : hp_W G H1 s T'.heap := by
    rw [e1]
    exact ⟨hw.1, va_K.moved hal.symm hw.2.1, hw.2.2.1, hT.kept (fun q h1 h2 => by rw [← e1]; exact hS1.2.1 q h1 h2)⟩
  obtain ⟨t2, a1, b1⟩ := kk hz p e s m args below meth c hC T'.heap (locs ++ L2) ls hW1 hT hS1 hl T' rfl X'
  exact ⟨t2, go t2 a1, b1⟩
/-- what a method's own words say, once a method -/
def hp_cal (y : MethodName) (cy : ByteArray) (ny : Nat) (ry : Option FieldType) (n : Nat) : Prop :=
  Cond.code y cy ny ry ∈ hp_tb ∧ Cond.initialized y.cls ∈ hp_tb ∧ y.cls ≠ "java/lang/invoke/MethodHandle" ∧ y.cls ≠ "java/lang/invoke/VarHandle" ∧ (parseMethodDescriptor y.desc).map (fun d => d.parameters.length) = some n
theorem hp_pre {s : State} {Hc : Heap} {As : List Value} (hW : hp_W G H s Hc) : PreS s Hc (hp_Pc G As H) As :=
  ⟨hp_blind G As H, fun U hU hw => ⟨rfl, hW.fin hU hw⟩⟩
theorem hp_cb {s : State} {args : Array Value} {y : MethodName} {cy : ByteArray} {ny n idx d d2 : Nat} {ry : Option FieldType} (hts : ∀ w ∈ hp_tb, w.before args s = true) (hy : hp_cal y cy ny ry n) (hlink : Cond.methodLink own idx y ∈ hp_tb) (hR : d2 + 1 ≤ d ∧ 8 + (ny + 11) + 64 * d2 ≤ 64 * d) : CallB (hp_rm d) s args own idx y cy ny ry (hp_wd y cy ny ry) (hp_rm d2) 0 0 n :=
  callB_of n hts (hp_goodIn (fun _ h => h) hy.1) rfl rfl rfl (hts _ hy.2.1) (hts _ hlink) hy.2.2 hR
theorem x_iv {d d2 : Nat} {y : MethodName} {cy : ByteArray} {ny n idx ci : Nat} {ry : Option FieldType} {b : Int} {fs : List (Option Int)} {C : String} {T : u_T} {N : Nat} {As st0 : List Value} {v1 : Option Value} {H1 : hp_H} {Z1 : Prop} (hM : hp_M G l y cy ny ry (hp_rm d2) (.ref (hp_ad G b) :: As) H v1 H1 Z1) (hy : hp_cal y cy ny ry n) (hs : (hp_sh G)[b.toNat]? = some (0, ci, fs)) (h0 : 0 ≤ b) (hc : vwCl[ci]? = some (C, T, N)) (hyC : y.cls = C)
    (hinst : Cond.instanceMethod y ∈ hp_tb) (hsel : Cond.selects C y y ∈ hp_tb) (hlink : Cond.methodLink own idx y ∈ hp_tb) (hR : d2 + 1 ≤ d ∧ 8 + (ny + 11) + 64 * d2 ≤ 64 * d) (hn : As.length = n) (hst : st0 = As.reverse ++ .ref (hp_ad G b) :: st) (h8 : (st.map fun v => v.category).sum ≤ 8) (hd : decode cc pc = .ok (.invokevirtual idx, 3))
    (kk : Z1 → hp_R G l cc nL ret own (hp_rm d) v H' Z (pc + 3) L (v1.toList ++ st) H1) : hp_R G l cc nL ret own (hp_rm d) v H' Z pc L st0 H := by
  intro p e s m args below meth c hC Hc locs ls hW hT hS hl
  have he : (hp_ws G H)[b.toNat]? = some (hp_ad G b, .inr (ci, hp_sl G (H b) 0 fs)) := hp_wsg (sh := (0, ci, fs)) hs h0
  have hp := hp_pre (As := .ref (hp_ad G b) :: As) hW
  refine hp_back (a := (Value.ref (hp_ad G b) :: As).toArray) hC ?_ hT hS hl kk
  exact va_runV (As := As) (rest := st) (C := C) ⟨hC.1, hC.2.1, hC.2.2.2.1, hC.2.2.2.2.1, hC.2.2.2.2.2.1⟩ hM ⟨hp_cb hC.2.2.2.2.2.1 hy hlink hR, hC.2.2.2.2.2.1 _ hinst, hC.2.2.2.2.2.1 _ hsel⟩ ⟨hp.1, va_recv hW.2.1 hW.1 (ci := ci) hc he, hp.2⟩ rfl hn hl.1 hst (lv_room h8) hd ⟨Nat.le_refl _, Nat.le_refl _⟩
theorem x_is {d d2 : Nat} {y : MethodName} {cy : ByteArray} {ny n idx : Nat} {ry : Option FieldType} {As st0 : List Value} {v1 : Option Value} {H1 : hp_H} {Z1 : Prop} (hM : hp_M G l y cy ny ry (hp_rm d2) As H v1 H1 Z1) (hy : hp_cal y cy ny ry n)
    (hstat : Cond.static y ∈ hp_tb) (hlink : Cond.methodLink own idx y ∈ hp_tb) (hR : d2 + 1 ≤ d ∧ 8 + (ny + 11) + 64 * d2 ≤ 64 * d) (hn : As.length = n) (hst : st0 = As.reverse ++ st) (h8 : (st.map fun v => v.category).sum ≤ 8) (hd : decode cc pc = .ok (.invokestatic idx, 3))
    (kk : Z1 → hp_R G l cc nL ret own (hp_rm d) v H' Z (pc + 3) L (v1.toList ++ st) H1) : hp_R G l cc nL ret own (hp_rm d) v H' Z pc L st0 H := by
  intro p e s m args below meth c hC Hc locs ls hW hT hS hl
  refine hp_back (a := As.toArray) hC ?_ hT hS hl kk
  exact va_runS (As := As) (rest := st) ⟨hC.1, hC.2.1, hC.2.2.2.1, hC.2.2.2.2.1, hC.2.2.2.2.2.1⟩ hM ⟨hp_cb hC.2.2.2.2.2.1 hy hlink hR, hC.2.2.2.2.2.1 _ hstat⟩ (hp_pre hW) rfl hn hl.1 hst (lv_room h8) hd ⟨Nat.le_refl _, Nat.le_refl _⟩
/-- the nest mate's static method -/
theorem x_isN {d d2 : Nat} {cy : ByteArray} {ny n : Nat} {ry : Option FieldType} {As st0 : List Value} {v1 : Option Value} {H1 : hp_H} {Z1 : Prop} (hM : hp_M G l ⟨"HeelPost", "within", "(III)Z"⟩ cy ny ry (hp_rm d2) As H v1 H1 Z1) (hy : hp_cal ⟨"HeelPost", "within", "(III)Z"⟩ cy ny ry n)
    (hstat : Cond.static ⟨"HeelPost", "within", "(III)Z"⟩ ∈ hp_tb) (hR : d2 + 1 ≤ d ∧ 8 + (ny + 11) + 64 * d2 ≤ 64 * d) (hn : As.length = n) (hst : st0 = As.reverse ++ st) (h8 : (st.map fun v => v.category).sum ≤ 8) (hd : decode cc pc = .ok (.invokestatic 76, 3))
    (kk : Z1 → hp_R G l cc nL ret "HeelPost$Tape" (hp_rm d) v H' Z (pc + 3) L (v1.toList ++ st) H1) : hp_R G l cc nL ret "HeelPost$Tape" (hp_rm d) v H' Z pc L st0 H := by
  intro p e s m args below meth c hC Hc locs ls hW hT hS hl
  refine hp_back (a := As.toArray) hC ?_ hT hS hl kk
  exact va_runSN (As := As) (rest := st) ⟨hC.1, hC.2.1, hC.2.2.2.1, hC.2.2.2.2.1, hC.2.2.2.2.2.1⟩ hM ⟨va_cnB n hC.2.2.2.2.2.1 (hp_goodIn (fun _ h => h) hy.1) rfl rfl rfl hT.2 (hC.2.2.2.2.2.1 _ hy.2.1) hy.2.2 hR, hC.2.2.2.2.2.1 _ hstat, trivial⟩ (hp_pre hW) rfl hn hl.1 hst (lv_room h8) hd ⟨Nat.le_refl _, Nat.le_refl _⟩
theorem hp_maxI {a b : Int} (ha : hp_r a) (hb : hp_r b) : (if hp_I a < hp_I b then hp_I b else hp_I a) = hp_I (hp_max a b) := by
  unfold hp_max
  by_cases h : a < b
  · rw [if_pos ((hp_lt ha hb).mpr h), if_pos h]
  · rw [if_neg (fun q => h ((hp_lt ha hb).mp q)), if_neg h]
theorem hp_minI {a b : Int} (ha : hp_r a) (hb : hp_r b) : (if hp_I b < hp_I a then hp_I b else hp_I a) = hp_I (hp_min a b) := by
  unfold hp_min
  by_cases h : b < a
  · rw [if_pos ((hp_lt hb ha).mpr h), if_pos h]
  · rw [if_neg (fun q => h ((hp_lt hb ha).mp q)), if_neg h]
theorem hp_absI {a : Int} (ha : hp_r a) : (if 0 ≤ hp_I a then hp_I a else 0 - hp_I a) = hp_I (hp_abs a) := by
  unfold hp_abs
  show (if hp_I 0 ≤ hp_I a then hp_I a else hp_I 0 - hp_I a) = _
  by_cases h : 0 ≤ a
  · rw [if_pos ((hp_le hp_r0 ha).mpr h), if_pos h]
  · rw [if_neg (fun q => h ((hp_le hp_r0 ha).mp q)), if_neg h, hp_sub]
theorem hp_maxJ {a b : Int} (ha : hp_rl a) (hb : hp_rl b) : (if hp_J b < hp_J a then hp_J a else hp_J b) = hp_J (hp_max a b) := by
  unfold hp_max
  by_cases h : b < a
  · rw [if_pos ((hp_ltl hb ha).mpr h), if_neg (by omega)]
  · rw [if_neg (fun q => h ((hp_ltl hb ha).mp q))]
    by_cases h2 : a < b
    · rw [if_pos h2]
    · rw [if_neg h2, show a = b by omega]
theorem hp_rmax {a b : Int} (ha : hp_r a) (hb : hp_r b) : hp_r (hp_max a b) := hp_rite hb ha
theorem hp_rmin {a b : Int} (ha : hp_r a) (hb : hp_r b) : hp_r (hp_min a b) := hp_rite hb ha
theorem hp_rabs {a : Int} (ha : hp_r a) : hp_r (hp_abs a) := hp_rite ha (hp_rw _)
theorem hp_rmaxl {a b : Int} (ha : hp_rl a) (hb : hp_rl b) : hp_rl (hp_max a b) := hp_rlite hb ha
theorem x_max {d idx : Nat} {a b : Int} (ha : hp_r a) (hb : hp_r b) (hlink : Cond.methodLink own idx Lib.Math.max.name ∈ hp_tb) (hstat : Cond.static Lib.Math.max.name ∈ hp_tb) (hini : Cond.initialized "java/lang/Math" ∈ hp_tb) (hcode : Cond.code Lib.Math.max.name Lib.Math.max.code 2 (some .int) ∈ hp_tb) (hR : 1 ≤ d) (h8 : (st.map fun v => v.category).sum ≤ 8) (hd : decode cc pc = .ok (.invokestatic idx, 3)) (kk : hp_R G l cc nL ret own (hp_rm d) v H' Z (pc + 3) L (.int (hp_I (hp_max a b)) :: st) H) : hp_R G l cc nL ret own (hp_rm d) v H' Z pc L (.int (hp_I b) :: .int (hp_I a) :: st) H := by
  intro p e s m args below meth c hC Hc locs ls hW hT hS hl
  have hts := hC.2.2.2.2.2.1
  refine va_mmax hC.1 hC.2.1 (hC.2.2.2.1.trans hl.1.symm) hC.2.2.2.2.1 (hts _ hlink) (hts _ hstat) (hts _ hini) (hts _ hcode) hR (by show _ + 13 ≤ 64 * d; omega) (Nat.zero_le _) (Nat.zero_le _) hd ?_
  rw [hp_maxI ha hb]
  exact kk p e s m args below meth c hC Hc locs ls hW hT hS hl
theorem x_min {d idx : Nat} {a b : Int} (ha : hp_r a) (hb : hp_r b) (hlink : Cond.methodLink own idx Lib.Math.min.name ∈ hp_tb) (hstat : Cond.static Lib.Math.min.name ∈ hp_tb) (hini : Cond.initialized "java/lang/Math" ∈ hp_tb) (hcode : Cond.code Lib.Math.min.name Lib.Math.min.code 2 (some .int) ∈ hp_tb) (hR : 1 ≤ d) (h8 : (st.map fun v => v.category).sum ≤ 8) (hd : decode cc pc = .ok (.invokestatic idx, 3)) (kk : hp_R G l cc nL ret own (hp_rm d) v H' Z (pc + 3) L (.int (hp_I (hp_min a b)) :: st) H) : hp_R G l cc nL ret own (hp_rm d) v H' Z pc L (.int (hp_I b) :: .int (hp_I a) :: st) H := by
  intro p e s m args below meth c hC Hc locs ls hW hT hS hl
  have hts := hC.2.2.2.2.2.1
  refine va_mmin hC.1 hC.2.1 (hC.2.2.2.1.trans hl.1.symm) hC.2.2.2.2.1 (hts _ hlink) (hts _ hstat) (hts _ hini) (hts _ hcode) hR (by show _ + 13 ≤ 64 * d; omega) (Nat.zero_le _) (Nat.zero_le _) hd ?_
  rw [hp_minI ha hb]
  exact kk p e s m args below meth c hC Hc locs ls hW hT hS hl
theorem x_abs {d idx : Nat} {a : Int} (ha : hp_r a) (hlink : Cond.methodLink own idx Lib.Math.abs.name ∈ hp_tb) (hstat : Cond.static Lib.Math.abs.name ∈ hp_tb) (hini : Cond.initialized "java/lang/Math" ∈ hp_tb) (hcode : Cond.code Lib.Math.abs.name Lib.Math.abs.code 1 (some .int) ∈ hp_tb) (hR : 1 ≤ d) (h8 : (st.map fun v => v.category).sum ≤ 8) (hd : decode cc pc = .ok (.invokestatic idx, 3)) (kk : hp_R G l cc nL ret own (hp_rm d) v H' Z (pc + 3) L (.int (hp_I (hp_abs a)) :: st) H) : hp_R G l cc nL ret own (hp_rm d) v H' Z pc L (.int (hp_I a) :: st) H := by
  intro p e s m args below meth c hC Hc locs ls hW hT hS hl
  have hts := hC.2.2.2.2.2.1
  refine va_mabs hC.1 hC.2.1 (hC.2.2.2.1.trans hl.1.symm) hC.2.2.2.2.1 (hts _ hlink) (hts _ hstat) (hts _ hini) (hts _ hcode) hR (by show _ + 13 ≤ 64 * d; omega) (Nat.zero_le _) (Nat.zero_le _) hd ?_
  rw [hp_absI ha]
  exact kk p e s m args below meth c hC Hc locs ls hW hT hS hl
theorem x_maxl {d idx : Nat} {a b : Int} (ha : hp_rl a) (hb : hp_rl b) (hlink : Cond.methodLink own idx Lib.MathLoose.max_long.x ∈ hp_tb) (hstat : Cond.static Lib.MathLoose.max_long.x ∈ hp_tb) (hini : Cond.initialized "java/lang/Math" ∈ hp_tb) (hcode : Cond.code Lib.MathLoose.max_long.x Lib.MathLoose.max_long.code 4 (some .long) ∈ hp_tb) (hR : 1 ≤ d) (h8 : (st.map fun v => v.category).sum ≤ 8) (hd : decode cc pc = .ok (.invokestatic idx, 3)) (kk : hp_R G l cc nL ret own (hp_rm d) v H' Z (pc + 3) L (.long (hp_J (hp_max a b)) :: st) H) : hp_R G l cc nL ret own (hp_rm d) v H' Z pc L (.long (hp_J b) :: .long (hp_J a) :: st) H := by
  intro p e s m args below meth c hC Hc locs ls hW hT hS hl
  have hts := hC.2.2.2.2.2.1
  refine va_mmax_long hC.1 hC.2.1 (hC.2.2.2.1.trans hl.1.symm) hC.2.2.2.2.1 (hts _ hlink) (hts _ hstat) (hts _ hini) (hts _ hcode) hR (by show _ + 15 ≤ 64 * d; omega) (Nat.zero_le _) (Nat.zero_le _) hd ?_
  rw [hp_maxJ ha hb]
  exact kk p e s m args below meth c hC Hc locs ls hW hT hS hl
/-- System.arraycopy of ints -/
def hp_cpy (H : hp_H) (a i b j n : Int) : hp_H := fun c k => if c = b ∧ j ≤ k ∧ k < j + n then H a (i + (k - j)) else H c k
theorem hp_in_cpy {H : hp_H} {a i b j n : Int} (h : hp_in H) : hp_in (hp_cpy H a i b j n) := by
  intro c k
  unfold hp_cpy
  split
  · exact h _ _
  · exact h c k
theorem x_copy {d idx : Nat} {a i b j n : Int} {n0 n1 : Nat} {fs gs : List (Option Int)} (hs : (hp_sh G)[a.toNat]? = some (1, n0, fs)) (h0 : 0 ≤ a) (hs2 : (hp_sh G)[b.toNat]? = some (1, n1, gs)) (h02 : 0 ≤ b) (hn0 : n0 ≤ 65536) (hn1 : n1 ≤ 65536) (hi : 0 ≤ i) (hj : 0 ≤ j) (hn : 0 ≤ n) (hin : i + n ≤ n0) (hjn : j + n ≤ n1) (hlink : Cond.methodLink own idx arraycopyName ∈ hp_tb) (hnat : Cond.native arraycopyName ∈ hp_tb) (hstat : Cond.static arraycopyName ∈ hp_tb) (hini : Cond.initialized "java/lang/System" ∈ hp_tb) (hR : 1 ≤ d) (h8 : (st.map fun v => v.category).sum ≤ 8) (hd : decode cc pc = .ok (.invokestatic idx, 3)) (kk : hp_R G l cc nL ret own (hp_rm d) v H' Z (pc + 3) L st (hp_cpy H a i b j n)) : hp_R G l cc nL ret own (hp_rm d) v H' Z pc L (.int (hp_I n) :: .int (hp_I j) :: .ref (hp_ad G b) :: .int (hp_I i) :: .ref (hp_ad G a) :: st) H := by
  intro p e s m args below meth c hC Hc locs ls hW hT hS hl
  have hts := hC.2.2.2.2.2.1
  have he : (hp_ws G H)[a.toNat]? = some (hp_ad G a, .inl (G.2.2.1 0, n0, .inl (fun j => hp_I (H a (j : Int))))) := hp_wsg (sh := (1, n0, fs)) hs h0
  have he2 : (hp_ws G H)[b.toNat]? = some (hp_ad G b, .inl (G.2.2.1 0, n1, .inl (fun j => hp_I (H b (j : Int))))) := hp_wsg (sh := (1, n1, gs)) hs2 h02
  have r1 : hp_r i := by unfold hp_r; omega
  have r2 : hp_r j := by unfold hp_r; omega
  have r3 : hp_r n := by unfold hp_r; omega
  have c1 : (hp_I i).toNatClampNeg = i.toNat := by show (hp_I i).toInt.toNat = _; rw [hp_It r1]
  have c2 : (hp_I j).toNatClampNeg = j.toNat := by show (hp_I j).toInt.toNat = _; rw [hp_It r2]
  have c3 : (hp_I n).toNatClampNeg = n.toNat := by show (hp_I n).toInt.toNat = _; rw [hp_It r3]
  have hset : (hp_ws G H).set b.toNat (hp_ad G b, .inl (G.2.2.1 0, n1, .inl (va_cpy (fun j => hp_I (H a (j : Int))) (fun j => hp_I (H b (j : Int))) (hp_I i).toNatClampNeg (hp_I j).toNatClampNeg (hp_I n).toNatClampNeg))) = hp_ws G (hp_cpy H a i b j n) := by
    refine hp_wss (sh := (1, n1, gs)) hs2 h02 ?_ (fun b9 hb => funext fun k => if_neg (fun q => hb q.1))
    rw [c1, c2, c3]
    show _ = Sum.inl (G.2.2.1 0, n1, Sum.inl (fun k : Nat => hp_I (hp_cpy H a i b j n b (k : Int))))
    have hfun : va_cpy (fun j => hp_I (H a (j : Int))) (fun j => hp_I (H b (j : Int))) i.toNat j.toNat n.toNat = (fun k : Nat => hp_I (hp_cpy H a i b j n b (k : Int))) := by
      funext k
      unfold va_cpy hp_cpy
      by_cases hk : j.toNat ≤ k ∧ k < j.toNat + n.toNat
      · rw [if_pos hk, if_pos ⟨rfl, by omega, by omega⟩]
        show hp_I (H a ((i.toNat + (k - j.toNat) : Nat) : Int)) = _
        rw [show ((i.toNat + (k - j.toNat) : Nat) : Int) = i + ((k : Int) - j) by omega]
      · rw [if_neg hk, if_neg (fun q => hk (by omega))]
    rw [hfun]
  refine va_copyi (D := G.1) (ty := .int) hC.1 hC.2.1 (hC.2.2.2.1.trans hl.1.symm) hC.2.2.2.2.1 (hts _ hlink) (hts _ hnat) (hts _ hstat) (hts _ hini) hW.2.1 hW.1 hW.2.2.1 hS a.toNat b.toNat 0 0 he he2 rfl rfl rfl (fun q => by have := (hp_lt r1 hp_r0).mp q; omega) (fun q => by have := (hp_lt r2 hp_r0).mp q; omega) (fun q => by have := (hp_lt r3 hp_r0).mp q; omega) (by rw [c1, c3]; omega) (by rw [c2, c3]; omega) (fun _ _ => rfl) hR (by
    have : nativeFrameWords "java/lang/System" "arraycopy" 5 + 11 ≤ 40 := by decide
    show _ ≤ 64 * d
    omega) hd (fun H1 locs1 hP1 hD1 hS1 => ?_)
  rw [hset] at hP1 hD1
  exact kk p e s m args below meth c hC H1 locs1 ls ⟨hP1, hW.2.1, hD1, hT.kept hS1.2.1⟩ hT hS1 hl
end HC
