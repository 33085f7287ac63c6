/-! rules: an instruction each -/
section HR
variable {G : hp_G} {l : Launch} {cc : ByteArray} {nL : Nat} {ret : Option FieldType} {own : String} {R : Room} {v : Option Value} {H' : hp_H} {Z : Prop} {pc : Nat} {L L' : List (Nat × Value)} {st : List Value} {H : hp_H}
theorem x_iconst {n : Int} (hd : decode cc pc = .ok (.iconst n, 1)) (k : hp_R G l cc nL ret own R v H' Z (pc + 1) L (.int (hp_I n) :: st) H) : hp_R G l cc nL ret own R v H' Z pc L st H := by
  intro p e s m args below meth c hC Hc locs ls hW hT hS hl
  exact lv_iconst hC.1 hC.2.1 hd rfl (k p e s m args below meth c hC Hc locs ls hW hT hS hl)
theorem x_bipush {n : Int} (hv : (Int8.ofInt n).toInt32 = hp_I n) (hd : decode cc pc = .ok (.bipush n, 2)) (k : hp_R G l cc nL ret own R v H' Z (pc + 2) L (.int (hp_I n) :: st) H) : hp_R G l cc nL ret own R v H' Z pc L st H := by
  intro p e s m args below meth c hC Hc locs ls hW hT hS hl
  exact lv_bipush hC.1 hC.2.1 hd hv (k p e s m args below meth c hC Hc locs ls hW hT hS hl)
theorem x_sipush {n : Int} (hv : (Int16.ofInt n).toInt32 = hp_I n) (hd : decode cc pc = .ok (.sipush n, 3)) (k : hp_R G l cc nL ret own R v H' Z (pc + 3) L (.int (hp_I n) :: st) H) : hp_R G l cc nL ret own R v H' Z pc L st H := by
  intro p e s m args below meth c hC Hc locs ls hW hT hS hl
  exact lv_sipush hC.1 hC.2.1 hd hv (k p e s m args below meth c hC Hc locs ls hW hT hS hl)
theorem x_lconst {n : Fin 2} {x : Int} (hv : Int64.ofNat (n : Nat) = hp_J x) (hd : decode cc pc = .ok (.lconst n, 1)) (k : hp_R G l cc nL ret own R v H' Z (pc + 1) L (.long (hp_J x) :: st) H) : hp_R G l cc nL ret own R v H' Z pc L st H := by
  intro p e s m args below meth c hC Hc locs ls hW hT hS hl
  exact lv_lconst hC.1 hC.2.1 hd hv (k p e s m args below meth c hC Hc locs ls hW hT hS hl)
theorem x_ldc {idx : Nat} {w : Int32} {x : Int} (hw : Cond.constant own idx w ∈ hp_tb) (hv : w = hp_I x) (hd : decode cc pc = .ok (.ldc idx, 2)) (k : hp_R G l cc nL ret own R v H' Z (pc + 2) L (.int (hp_I x) :: st) H) : hp_R G l cc nL ret own R v H' Z pc L st H := by
  intro p e s m args below meth c hC Hc locs ls hW hT hS hl
  subst hv
  exact lv_ldc hC.1 hC.2.1 hC.2.2.2.2.1 (hC.2.2.2.2.2.1 _ hw) hd (k p e s m args below meth c hC Hc locs ls hW hT hS hl)
theorem x_ldcw {idx : Nat} {w : Int32} {x : Int} (hw : Cond.constant own idx w ∈ hp_tb) (hv : w = hp_I x) (hd : decode cc pc = .ok (.ldc_w idx, 3)) (k : hp_R G l cc nL ret own R v H' Z (pc + 3) L (.int (hp_I x) :: st) H) : hp_R G l cc nL ret own R v H' Z pc L st H := by
  intro p e s m args below meth c hC Hc locs ls hW hT hS hl
  subst hv
  exact lv_ldcw hC.1 hC.2.1 hC.2.2.2.2.1 (hC.2.2.2.2.2.1 _ hw) hd (k p e s m args below meth c hC Hc locs ls hW hT hS hl)
theorem x_ldc2 {idx : Nat} {w : Int64} {x : Int} (hw : Cond.constantLong own idx w ∈ hp_tb) (hv : w = hp_J x) (hd : decode cc pc = .ok (.ldc2_w idx, 3)) (k : hp_R G l cc nL ret own R v H' Z (pc + 3) L (.long (hp_J x) :: st) H) : hp_R G l cc nL ret own R v H' Z pc L st H := by
  intro p e s m args below meth c hC Hc locs ls hW hT hS hl
  subst hv
  exact lv_ldc2 hC.1 hC.2.1 hC.2.2.2.2.1 (hC.2.2.2.2.2.1 _ hw) hd (k p e s m args below meth c hC Hc locs ls hW hT hS hl)
theorem x_iload_n {i : Fin 4} {x : Int32} (hd : decode cc pc = .ok (.iload_n i, 1)) (j : Nat) (hj : L[j]? = some ((i : Nat), .int x)) (k : hp_R G l cc nL ret own R v H' Z (pc + 1) L (.int x :: st) H) : hp_R G l cc nL ret own R v H' Z pc L st H := by
  intro p e s m args below meth c hC Hc locs ls hW hT hS hl
  exact lv_iload_n hC.1 hC.2.1 hd rfl (lv_at hl j hj) (k p e s m args below meth c hC Hc locs ls hW hT hS hl)
theorem x_iload {i : Nat} {x : Int32} (hd : decode cc pc = .ok (.iload i, 2)) (j : Nat) (hj : L[j]? = some (i, .int x)) (k : hp_R G l cc nL ret own R v H' Z (pc + 2) L (.int x :: st) H) : hp_R G l cc nL ret own R v H' Z pc L st H := by
  intro p e s m args below meth c hC Hc locs ls hW hT hS hl
  exact lv_iload hC.1 hC.2.1 hd (lv_at hl j hj) (k p e s m args below meth c hC Hc locs ls hW hT hS hl)
theorem x_istore {i : Nat} {x : Int32} (hd : decode cc pc = .ok (.istore i, 2)) (hn : i < nL) (hL : (i, Value.int x) :: L.filter (fun q => !(q.1 == i) && !(q.1 + 1 == i && q.2.category == 2)) = L') (k : hp_R G l cc nL ret own R v H' Z (pc + 2) L' st H) : hp_R G l cc nL ret own R v H' Z pc L (.int x :: st) H := by
  intro p e s m args below meth c hC Hc locs ls hW hT hS hl
  exact lv_istore hC.1 hC.2.1 hd hl hn hL (fun ls' hl' => k p e s m args below meth c hC Hc locs ls' hW hT hS hl')
theorem x_istore_n {f : Fin 4} {i : Nat} {x : Int32} (hd : decode cc pc = .ok (.istore_n f, 1)) (hi : (f : Nat) = i) (hn : i < nL) (hL : (i, Value.int x) :: L.filter (fun q => !(q.1 == i) && !(q.1 + 1 == i && q.2.category == 2)) = L') (k : hp_R G l cc nL ret own R v H' Z (pc + 1) L' st H) : hp_R G l cc nL ret own R v H' Z pc L (.int x :: st) H := by
  intro p e s m args below meth c hC Hc locs ls hW hT hS hl
  exact lv_istore_n hC.1 hC.2.1 hd hi hl hn hL (fun ls' hl' => k p e s m args below meth c hC Hc locs ls' hW hT hS hl')
theorem x_lload_n {i : Fin 4} {x : Int64} (hd : decode cc pc = .ok (.lload_n i, 1)) (j : Nat) (hj : L[j]? = some ((i : Nat), .long x)) (k : hp_R G l cc nL ret own R v H' Z (pc + 1) L (.long x :: st) H) : hp_R G l cc nL ret own R v H' Z pc L st H := by
  intro p e s m args below meth c hC Hc locs ls hW hT hS hl
  exact lv_lload_n hC.1 hC.2.1 hd rfl (lv_at hl j hj) (k p e s m args below meth c hC Hc locs ls hW hT hS hl)
theorem x_lload {i : Nat} {x : Int64} (hd : decode cc pc = .ok (.lload i, 2)) (j : Nat) (hj : L[j]? = some (i, .long x)) (k : hp_R G l cc nL ret own R v H' Z (pc + 2) L (.long x :: st) H) : hp_R G l cc nL ret own R v H' Z pc L st H := by
  intro p e s m args below meth c hC Hc locs ls hW hT hS hl
  exact lv_lload hC.1 hC.2.1 hd (lv_at hl j hj) (k p e s m args below meth c hC Hc locs ls hW hT hS hl)
theorem x_lstore {i : Nat} {x : Int64} (hd : decode cc pc = .ok (.lstore i, 2)) (hn : i + 1 < nL) (hL : (i, Value.long x) :: L.filter (fun q => !(q.1 == i) && (!(q.1 == i + 1) && !(q.1 + 1 == i && q.2.category == 2))) = L') (k : hp_R G l cc nL ret own R v H' Z (pc + 2) L' st H) : hp_R G l cc nL ret own R v H' Z pc L (.long x :: st) H := by
  intro p e s m args below meth c hC Hc locs ls hW hT hS hl
  exact lv_lstore hC.1 hC.2.1 hd hl hn hL (fun ls' hl' => k p e s m args below meth c hC Hc locs ls' hW hT hS hl')
theorem x_lstore_n {f : Fin 4} {i : Nat} {x : Int64} (hd : decode cc pc = .ok (.lstore_n f, 1)) (hi : (f : Nat) = i) (hn : i + 1 < nL) (hL : (i, Value.long x) :: L.filter (fun q => !(q.1 == i) && (!(q.1 == i + 1) && !(q.1 + 1 == i && q.2.category == 2))) = L') (k : hp_R G l cc nL ret own R v H' Z (pc + 1) L' st H) : hp_R G l cc nL ret own R v H' Z pc L (.long x :: st) H := by
  intro p e s m args below meth c hC Hc locs ls hW hT hS hl
  exact lv_lstore_n hC.1 hC.2.1 hd hi hl hn hL (fun ls' hl' => k p e s m args below meth c hC Hc locs ls' hW hT hS hl')
theorem x_aload_n {i : Fin 4} {x : Nat} (hd : decode cc pc = .ok (.aload_n i, 1)) (j : Nat) (hj : L[j]? = some ((i : Nat), .ref x)) (k : hp_R G l cc nL ret own R v H' Z (pc + 1) L (.ref x :: st) H) : hp_R G l cc nL ret own R v H' Z pc L st H := by
  intro p e s m args below meth c hC Hc locs ls hW hT hS hl
  exact lv_aload_n hC.1 hC.2.1 hd rfl (lv_at hl j hj) (k p e s m args below meth c hC Hc locs ls hW hT hS hl)
theorem x_aload {i : Nat} {x : Nat} (hd : decode cc pc = .ok (.aload i, 2)) (j : Nat) (hj : L[j]? = some (i, .ref x)) (k : hp_R G l cc nL ret own R v H' Z (pc + 2) L (.ref x :: st) H) : hp_R G l cc nL ret own R v H' Z pc L st H := by
  intro p e s m args below meth c hC Hc locs ls hW hT hS hl
  exact lv_aload hC.1 hC.2.1 hd (lv_at hl j hj) (k p e s m args below meth c hC Hc locs ls hW hT hS hl)
theorem x_astore {i : Nat} {x : Nat} (hd : decode cc pc = .ok (.astore i, 2)) (hn : i < nL) (hL : (i, Value.ref x) :: L.filter (fun q => !(q.1 == i) && !(q.1 + 1 == i && q.2.category == 2)) = L') (k : hp_R G l cc nL ret own R v H' Z (pc + 2) L' st H) : hp_R G l cc nL ret own R v H' Z pc L (.ref x :: st) H := by
  intro p e s m args below meth c hC Hc locs ls hW hT hS hl
  exact lv_astore hC.1 hC.2.1 hd hl hn hL (fun ls' hl' => k p e s m args below meth c hC Hc locs ls' hW hT hS hl')
theorem x_astore_n {f : Fin 4} {i : Nat} {x : Nat} (hd : decode cc pc = .ok (.astore_n f, 1)) (hi : (f : Nat) = i) (hn : i < nL) (hL : (i, Value.ref x) :: L.filter (fun q => !(q.1 == i) && !(q.1 + 1 == i && q.2.category == 2)) = L') (k : hp_R G l cc nL ret own R v H' Z (pc + 1) L' st H) : hp_R G l cc nL ret own R v H' Z pc L (.ref x :: st) H := by
  intro p e s m args below meth c hC Hc locs ls hW hT hS hl
  exact lv_astore_n hC.1 hC.2.1 hd hi hl hn hL (fun ls' hl' => k p e s m args below meth c hC Hc locs ls' hW hT hS hl')
theorem x_iinc {i : Nat} {n x : Int} (hd : decode cc pc = .ok (.iinc i n, 3)) (j : Nat) (hj : L[j]? = some (i, .int (hp_I x))) (hn : i < nL) (hL : (i, Value.int (hp_I (hp_w (x + n)))) :: L.filter (fun q => !(q.1 == i) && !(q.1 + 1 == i && q.2.category == 2)) = L') (k : hp_R G l cc nL ret own R v H' Z (pc + 3) L' st H) : hp_R G l cc nL ret own R v H' Z pc L st H := by
  intro p e s m args below meth c hC Hc locs ls hW hT hS hl
  exact lv_iinc hC.1 hC.2.1 hd hl hj (hp_add x n) hn hL (fun ls' hl' => k p e s m args below meth c hC Hc locs ls' hW hT hS hl')
theorem x_iadd {a b : Int}  (hd : decode cc pc = .ok (.iadd, 1)) (k : hp_R G l cc nL ret own R v H' Z (pc + 1) L (.int (hp_I (hp_w (a + b))) :: st) H) : hp_R G l cc nL ret own R v H' Z pc L (.int (hp_I b) :: .int (hp_I a) :: st) H := by
  intro p e s m args below meth c hC Hc locs ls hW hT hS hl
  have k9 := k p e s m args below meth c hC Hc locs ls hW hT hS hl
  rw [← hp_add] at k9
  exact lv_iadd hC.1 hC.2.1 hd  k9
theorem x_isub {a b : Int}  (hd : decode cc pc = .ok (.isub, 1)) (k : hp_R G l cc nL ret own R v H' Z (pc + 1) L (.int (hp_I (hp_w (a - b))) :: st) H) : hp_R G l cc nL ret own R v H' Z pc L (.int (hp_I b) :: .int (hp_I a) :: st) H := by
  intro p e s m args below meth c hC Hc locs ls hW hT hS hl
  have k9 := k p e s m args below meth c hC Hc locs ls hW hT hS hl
  rw [← hp_sub] at k9
  exact lv_isub hC.1 hC.2.1 hd  k9
theorem x_imul {a b : Int}  (hd : decode cc pc = .ok (.imul, 1)) (k : hp_R G l cc nL ret own R v H' Z (pc + 1) L (.int (hp_I (hp_w (a * b))) :: st) H) : hp_R G l cc nL ret own R v H' Z pc L (.int (hp_I b) :: .int (hp_I a) :: st) H := by
  intro p e s m args below meth c hC Hc locs ls hW hT hS hl
  have k9 := k p e s m args below meth c hC Hc locs ls hW hT hS hl
  rw [← hp_mul] at k9
  exact lv_imul hC.1 hC.2.1 hd  k9
theorem x_ladd {a b : Int}  (hd : decode cc pc = .ok (.ladd, 1)) (k : hp_R G l cc nL ret own R v H' Z (pc + 1) L (.long (hp_J (hp_wl (a + b))) :: st) H) : hp_R G l cc nL ret own R v H' Z pc L (.long (hp_J b) :: .long (hp_J a) :: st) H := by
  intro p e s m args below meth c hC Hc locs ls hW hT hS hl
  have k9 := k p e s m args below meth c hC Hc locs ls hW hT hS hl
  rw [← hp_addl] at k9
  exact lv_ladd hC.1 hC.2.1 hd  k9
theorem x_lsub {a b : Int}  (hd : decode cc pc = .ok (.lsub, 1)) (k : hp_R G l cc nL ret own R v H' Z (pc + 1) L (.long (hp_J (hp_wl (a - b))) :: st) H) : hp_R G l cc nL ret own R v H' Z pc L (.long (hp_J b) :: .long (hp_J a) :: st) H := by
  intro p e s m args below meth c hC Hc locs ls hW hT hS hl
  have k9 := k p e s m args below meth c hC Hc locs ls hW hT hS hl
  rw [← hp_subl] at k9
  exact lv_lsub hC.1 hC.2.1 hd  k9
theorem x_lmul {a b : Int}  (hd : decode cc pc = .ok (.lmul, 1)) (k : hp_R G l cc nL ret own R v H' Z (pc + 1) L (.long (hp_J (hp_wl (a * b))) :: st) H) : hp_R G l cc nL ret own R v H' Z pc L (.long (hp_J b) :: .long (hp_J a) :: st) H := by
  intro p e s m args below meth c hC Hc locs ls hW hT hS hl
  have k9 := k p e s m args below meth c hC Hc locs ls hW hT hS hl
  rw [← hp_mull] at k9
  exact lv_lmul hC.1 hC.2.1 hd  k9
theorem x_idiv {a b : Int} (ha : hp_r a) (hb : hp_r b) (h0 : ¬ b = 0) (hd : decode cc pc = .ok (.idiv, 1)) (k : hp_R G l cc nL ret own R v H' Z (pc + 1) L (.int (hp_I (hp_w (a.tdiv b))) :: st) H) : hp_R G l cc nL ret own R v H' Z pc L (.int (hp_I b) :: .int (hp_I a) :: st) H := by
  intro p e s m args below meth c hC Hc locs ls hW hT hS hl
  have k9 := k p e s m args below meth c hC Hc locs ls hW hT hS hl
  rw [← hp_div ha hb] at k9
  exact lv_idiv hC.1 hC.2.1 hd (fun q => h0 ((hp_eq hb hp_r0).mp q)) k9
theorem x_irem {a b : Int} (ha : hp_r a) (hb : hp_r b) (h0 : ¬ b = 0) (hd : decode cc pc = .ok (.irem, 1)) (k : hp_R G l cc nL ret own R v H' Z (pc + 1) L (.int (hp_I (a.tmod b)) :: st) H) : hp_R G l cc nL ret own R v H' Z pc L (.int (hp_I b) :: .int (hp_I a) :: st) H := by
  intro p e s m args below meth c hC Hc locs ls hW hT hS hl
  have k9 := k p e s m args below meth c hC Hc locs ls hW hT hS hl
  rw [← hp_rem ha hb] at k9
  exact lv_irem hC.1 hC.2.1 hd (fun q => h0 ((hp_eq hb hp_r0).mp q)) k9
theorem x_ldiv {a b : Int} (ha : hp_rl a) (hb : hp_rl b) (h0 : ¬ b = 0) (hd : decode cc pc = .ok (.ldiv, 1)) (k : hp_R G l cc nL ret own R v H' Z (pc + 1) L (.long (hp_J (hp_wl (a.tdiv b))) :: st) H) : hp_R G l cc nL ret own R v H' Z pc L (.long (hp_J b) :: .long (hp_J a) :: st) H := by
  intro p e s m args below meth c hC Hc locs ls hW hT hS hl
  have k9 := k p e s m args below meth c hC Hc locs ls hW hT hS hl
  rw [← hp_divl ha hb] at k9
  exact lv_ldiv hC.1 hC.2.1 hd (fun q => h0 ((hp_eql hb hp_rl0).mp q)) k9
theorem x_lrem {a b : Int} (ha : hp_rl a) (hb : hp_rl b) (h0 : ¬ b = 0) (hd : decode cc pc = .ok (.lrem, 1)) (k : hp_R G l cc nL ret own R v H' Z (pc + 1) L (.long (hp_J (a.tmod b)) :: st) H) : hp_R G l cc nL ret own R v H' Z pc L (.long (hp_J b) :: .long (hp_J a) :: st) H := by
  intro p e s m args below meth c hC Hc locs ls hW hT hS hl
  have k9 := k p e s m args below meth c hC Hc locs ls hW hT hS hl
  rw [← hp_reml ha hb] at k9
  exact lv_lrem hC.1 hC.2.1 hd (fun q => h0 ((hp_eql hb hp_rl0).mp q)) k9
theorem x_iand {a b : Int} (hd : decode cc pc = .ok (.iand, 1)) (k : hp_R G l cc nL ret own R v H' Z (pc + 1) L (.int (hp_I (hp_and a b)) :: st) H) : hp_R G l cc nL ret own R v H' Z pc L (.int (hp_I b) :: .int (hp_I a) :: st) H := by
  intro p e s m args below meth c hC Hc locs ls hW hT hS hl
  have k9 := k p e s m args below meth c hC Hc locs ls hW hT hS hl
  rw [show hp_I (hp_and a b) = _ from hp_Io _] at k9
  exact lv_iand hC.1 hC.2.1 hd k9
theorem x_ior {a b : Int} (hd : decode cc pc = .ok (.ior, 1)) (k : hp_R G l cc nL ret own R v H' Z (pc + 1) L (.int (hp_I (hp_or a b)) :: st) H) : hp_R G l cc nL ret own R v H' Z pc L (.int (hp_I b) :: .int (hp_I a) :: st) H := by
  intro p e s m args below meth c hC Hc locs ls hW hT hS hl
  have k9 := k p e s m args below meth c hC Hc locs ls hW hT hS hl
  rw [show hp_I (hp_or a b) = _ from hp_Io _] at k9
  exact lv_ior hC.1 hC.2.1 hd k9
theorem x_ixor {a b : Int} (hd : decode cc pc = .ok (.ixor, 1)) (k : hp_R G l cc nL ret own R v H' Z (pc + 1) L (.int (hp_I (hp_xor a b)) :: st) H) : hp_R G l cc nL ret own R v H' Z pc L (.int (hp_I b) :: .int (hp_I a) :: st) H := by
  intro p e s m args below meth c hC Hc locs ls hW hT hS hl
  have k9 := k p e s m args below meth c hC Hc locs ls hW hT hS hl
  rw [show hp_I (hp_xor a b) = _ from hp_Io _] at k9
  exact lv_ixor hC.1 hC.2.1 hd k9
theorem x_ishl {a b : Int} (hd : decode cc pc = .ok (.ishl, 1)) (k : hp_R G l cc nL ret own R v H' Z (pc + 1) L (.int (hp_I (hp_shl a b)) :: st) H) : hp_R G l cc nL ret own R v H' Z pc L (.int (hp_I b) :: .int (hp_I a) :: st) H := by
  intro p e s m args below meth c hC Hc locs ls hW hT hS hl
  have k9 := k p e s m args below meth c hC Hc locs ls hW hT hS hl
  rw [show hp_I (hp_shl a b) = _ from hp_Io _] at k9
  exact lv_ishl hC.1 hC.2.1 hd k9
theorem x_ishr {a b : Int} (hd : decode cc pc = .ok (.ishr, 1)) (k : hp_R G l cc nL ret own R v H' Z (pc + 1) L (.int (hp_I (hp_shr a b)) :: st) H) : hp_R G l cc nL ret own R v H' Z pc L (.int (hp_I b) :: .int (hp_I a) :: st) H := by
  intro p e s m args below meth c hC Hc locs ls hW hT hS hl
  have k9 := k p e s m args below meth c hC Hc locs ls hW hT hS hl
  rw [show hp_I (hp_shr a b) = _ from hp_Io _] at k9
  exact lv_ishr hC.1 hC.2.1 hd k9
theorem x_iushr {a b : Int} (hd : decode cc pc = .ok (.iushr, 1)) (k : hp_R G l cc nL ret own R v H' Z (pc + 1) L (.int (hp_I (hp_ush a b)) :: st) H) : hp_R G l cc nL ret own R v H' Z pc L (.int (hp_I b) :: .int (hp_I a) :: st) H := by
  intro p e s m args below meth c hC Hc locs ls hW hT hS hl
  have k9 := k p e s m args below meth c hC Hc locs ls hW hT hS hl
  rw [show hp_I (hp_ush a b) = _ from hp_Io _] at k9
  exact lv_iushr hC.1 hC.2.1 hd rfl k9
theorem x_ineg {a : Int} (hd : decode cc pc = .ok (.ineg, 1)) (k : hp_R G l cc nL ret own R v H' Z (pc + 1) L (.int (hp_I (hp_w (-a))) :: st) H) : hp_R G l cc nL ret own R v H' Z pc L (.int (hp_I a) :: st) H := by
  intro p e s m args below meth c hC Hc locs ls hW hT hS hl
  have k9 := k p e s m args below meth c hC Hc locs ls hW hT hS hl
  rw [← hp_neg] at k9
  exact lv_ineg hC.1 hC.2.1 hd k9
theorem x_i2l {a : Int} (ha : hp_r a) (hd : decode cc pc = .ok (.i2l, 1)) (k : hp_R G l cc nL ret own R v H' Z (pc + 1) L (.long (hp_J a) :: st) H) : hp_R G l cc nL ret own R v H' Z pc L (.int (hp_I a) :: st) H := by
  intro p e s m args below meth c hC Hc locs ls hW hT hS hl
  exact lv_i2l hC.1 hC.2.1 hd (hp_i2l ha) (k p e s m args below meth c hC Hc locs ls hW hT hS hl)
theorem x_l2i {a : Int} (hd : decode cc pc = .ok (.l2i, 1)) (k : hp_R G l cc nL ret own R v H' Z (pc + 1) L (.int (hp_I (hp_w a)) :: st) H) : hp_R G l cc nL ret own R v H' Z pc L (.long (hp_J a) :: st) H := by
  intro p e s m args below meth c hC Hc locs ls hW hT hS hl
  exact lv_l2i hC.1 hC.2.1 hd (hp_l2i a) (k p e s m args below meth c hC Hc locs ls hW hT hS hl)
theorem x_i2b {a : Int} (hd : decode cc pc = .ok (.i2b, 1)) (k : hp_R G l cc nL ret own R v H' Z (pc + 1) L (.int (hp_I (hp_w8 a)) :: st) H) : hp_R G l cc nL ret own R v H' Z pc L (.int (hp_I a) :: st) H := by
  intro p e s m args below meth c hC Hc locs ls hW hT hS hl
  exact lv_i2b hC.1 hC.2.1 hd (hp_i2b a) (k p e s m args below meth c hC Hc locs ls hW hT hS hl)
theorem x_i2s {a : Int} (hd : decode cc pc = .ok (.i2s, 1)) (k : hp_R G l cc nL ret own R v H' Z (pc + 1) L (.int (hp_I (hp_w16 a)) :: st) H) : hp_R G l cc nL ret own R v H' Z pc L (.int (hp_I a) :: st) H := by
  intro p e s m args below meth c hC Hc locs ls hW hT hS hl
  exact lv_i2s hC.1 hC.2.1 hd (hp_i2s a) (k p e s m args below meth c hC Hc locs ls hW hT hS hl)
theorem x_lcmp {a b : Int} (ha : hp_rl a) (hb : hp_rl b) (hd : decode cc pc = .ok (.lcmp, 1)) (k : hp_R G l cc nL ret own R v H' Z (pc + 1) L (.int (hp_I (hp_cmp a b)) :: st) H) : hp_R G l cc nL ret own R v H' Z pc L (.long (hp_J b) :: .long (hp_J a) :: st) H := by
  intro p e s m args below meth c hC Hc locs ls hW hT hS hl
  have k9 := k p e s m args below meth c hC Hc locs ls hW hT hS hl
  rw [← hp_cmp_I ha hb] at k9
  exact W.lcmp hC.1 hC.2.1 hd k9
theorem x_dup {w : Value} (hc : w.category = 1) (hd : decode cc pc = .ok (.dup, 1)) (k : hp_R G l cc nL ret own R v H' Z (pc + 1) L (w :: w :: st) H) : hp_R G l cc nL ret own R v H' Z pc L (w :: st) H := by
  intro p e s m args below meth c hC Hc locs ls hW hT hS hl
  exact lv_dup hC.1 hC.2.1 hd hc (k p e s m args below meth c hC Hc locs ls hW hT hS hl)
theorem x_pop {w : Value} (hc : w.category = 1) (hd : decode cc pc = .ok (.pop, 1)) (k : hp_R G l cc nL ret own R v H' Z (pc + 1) L st H) : hp_R G l cc nL ret own R v H' Z pc L (w :: st) H := by
  intro p e s m args below meth c hC Hc locs ls hW hT hS hl
  exact lv_pop hC.1 hC.2.1 hd hc (k p e s m args below meth c hC Hc locs ls hW hT hS hl)
theorem x_dup2 {w u : Value} (hc : w.category = 1) (hc2 : u.category = 1) (hd : decode cc pc = .ok (.dup2, 1)) (k : hp_R G l cc nL ret own R v H' Z (pc + 1) L (w :: u :: w :: u :: st) H) : hp_R G l cc nL ret own R v H' Z pc L (w :: u :: st) H := by
  intro p e s m args below meth c hC Hc locs ls hW hT hS hl
  exact lv_dup2_11 hC.1 hC.2.1 hd hc hc2 (k p e s m args below meth c hC Hc locs ls hW hT hS hl)
theorem x_ifeq {a off : Int} {tgt : Nat} (hd : decode cc pc = .ok (.ifCond .eq off, 3)) (ht : (pc : Int) + off = (tgt : Int)) (ha : hp_r a) (kt : a = 0 → hp_R G l cc nL ret own R v H' Z tgt L st H) (kf : ¬ a = 0 → hp_R G l cc nL ret own R v H' Z (pc + 3) L st H) : hp_R G l cc nL ret own R v H' Z pc L (.int (hp_I a) :: st) H := by
  intro p e s m args below meth c hC Hc locs ls hW hT hS hl
  have q9 := hp_eq ha hp_r0
  exact lv_if_eq hC.1 hC.2.1 hd ht (fun q => kt (q9.mp q) p e s m args below meth c hC Hc locs ls hW hT hS hl) (fun q => kf (fun z => q (q9.mpr z)) p e s m args below meth c hC Hc locs ls hW hT hS hl)
theorem x_ifne {a off : Int} {tgt : Nat} (hd : decode cc pc = .ok (.ifCond .ne off, 3)) (ht : (pc : Int) + off = (tgt : Int)) (ha : hp_r a) (kt : ¬ a = 0 → hp_R G l cc nL ret own R v H' Z tgt L st H) (kf : a = 0 → hp_R G l cc nL ret own R v H' Z (pc + 3) L st H) : hp_R G l cc nL ret own R v H' Z pc L (.int (hp_I a) :: st) H := by
  intro p e s m args below meth c hC Hc locs ls hW hT hS hl
  have q9 := hp_eq ha hp_r0
  exact lv_if_ne hC.1 hC.2.1 hd ht (fun q => kt (fun z => q (q9.mpr z)) p e s m args below meth c hC Hc locs ls hW hT hS hl) (fun q => kf (q9.mp q) p e s m args below meth c hC Hc locs ls hW hT hS hl)
theorem x_iflt {a off : Int} {tgt : Nat} (hd : decode cc pc = .ok (.ifCond .lt off, 3)) (ht : (pc : Int) + off = (tgt : Int)) (ha : hp_r a) (kt : a < 0 → hp_R G l cc nL ret own R v H' Z tgt L st H) (kf : ¬ a < 0 → hp_R G l cc nL ret own R v H' Z (pc + 3) L st H) : hp_R G l cc nL ret own R v H' Z pc L (.int (hp_I a) :: st) H := by
  intro p e s m args below meth c hC Hc locs ls hW hT hS hl
  have q9 := hp_lt ha hp_r0
  exact lv_if_lt hC.1 hC.2.1 hd ht (fun q => kt (q9.mp q) p e s m args below meth c hC Hc locs ls hW hT hS hl) (fun q => kf (fun z => q (q9.mpr z)) p e s m args below meth c hC Hc locs ls hW hT hS hl)
theorem x_ifge {a off : Int} {tgt : Nat} (hd : decode cc pc = .ok (.ifCond .ge off, 3)) (ht : (pc : Int) + off = (tgt : Int)) (ha : hp_r a) (kt : ¬ a < 0 → hp_R G l cc nL ret own R v H' Z tgt L st H) (kf : a < 0 → hp_R G l cc nL ret own R v H' Z (pc + 3) L st H) : hp_R G l cc nL ret own R v H' Z pc L (.int (hp_I a) :: st) H := by
  intro p e s m args below meth c hC Hc locs ls hW hT hS hl
  have q9 := hp_lt ha hp_r0
  exact lv_if_ge hC.1 hC.2.1 hd ht (fun q => kt (fun z => Int32.not_le.mpr (q9.mpr z) q) p e s m args below meth c hC Hc locs ls hW hT hS hl) (fun q => kf (q9.mp (Int32.not_le.mp q)) p e s m args below meth c hC Hc locs ls hW hT hS hl)
theorem x_ifgt {a off : Int} {tgt : Nat} (hd : decode cc pc = .ok (.ifCond .gt off, 3)) (ht : (pc : Int) + off = (tgt : Int)) (ha : hp_r a) (kt : 0 < a → hp_R G l cc nL ret own R v H' Z tgt L st H) (kf : ¬ 0 < a → hp_R G l cc nL ret own R v H' Z (pc + 3) L st H) : hp_R G l cc nL ret own R v H' Z pc L (.int (hp_I a) :: st) H := by
  intro p e s m args below meth c hC Hc locs ls hW hT hS hl
  have q9 := hp_lt hp_r0 ha
  exact lv_if_gt hC.1 hC.2.1 hd ht (fun q => kt (q9.mp q) p e s m args below meth c hC Hc locs ls hW hT hS hl) (fun q => kf (fun z => q (q9.mpr z)) p e s m args below meth c hC Hc locs ls hW hT hS hl)
theorem x_ifle {a off : Int} {tgt : Nat} (hd : decode cc pc = .ok (.ifCond .le off, 3)) (ht : (pc : Int) + off = (tgt : Int)) (ha : hp_r a) (kt : ¬ 0 < a → hp_R G l cc nL ret own R v H' Z tgt L st H) (kf : 0 < a → hp_R G l cc nL ret own R v H' Z (pc + 3) L st H) : hp_R G l cc nL ret own R v H' Z pc L (.int (hp_I a) :: st) H := by
  intro p e s m args below meth c hC Hc locs ls hW hT hS hl
  have q9 := hp_lt hp_r0 ha
  exact lv_if_le hC.1 hC.2.1 hd ht (fun q => kt (fun z => Int32.not_le.mpr (q9.mpr z) q) p e s m args below meth c hC Hc locs ls hW hT hS hl) (fun q => kf (q9.mp (Int32.not_le.mp q)) p e s m args below meth c hC Hc locs ls hW hT hS hl)
theorem x_iceq {a b off : Int} {tgt : Nat} (hd : decode cc pc = .ok (.if_icmp .eq off, 3)) (ht : (pc : Int) + off = (tgt : Int)) (ha : hp_r a) (hb : hp_r b) (kt : a = b → hp_R G l cc nL ret own R v H' Z tgt L st H) (kf : ¬ a = b → hp_R G l cc nL ret own R v H' Z (pc + 3) L st H) : hp_R G l cc nL ret own R v H' Z pc L (.int (hp_I b) :: .int (hp_I a) :: st) H := by
  intro p e s m args below meth c hC Hc locs ls hW hT hS hl
  have q9 := hp_eq ha hb
  exact lv_icmp_eq hC.1 hC.2.1 hd ht (fun q => kt (q9.mp q) p e s m args below meth c hC Hc locs ls hW hT hS hl) (fun q => kf (fun z => q (q9.mpr z)) p e s m args below meth c hC Hc locs ls hW hT hS hl)
theorem x_icne {a b off : Int} {tgt : Nat} (hd : decode cc pc = .ok (.if_icmp .ne off, 3)) (ht : (pc : Int) + off = (tgt : Int)) (ha : hp_r a) (hb : hp_r b) (kt : ¬ a = b → hp_R G l cc nL ret own R v H' Z tgt L st H) (kf : a = b → hp_R G l cc nL ret own R v H' Z (pc + 3) L st H) : hp_R G l cc nL ret own R v H' Z pc L (.int (hp_I b) :: .int (hp_I a) :: st) H := by
  intro p e s m args below meth c hC Hc locs ls hW hT hS hl
  have q9 := hp_eq ha hb
  exact lv_icmp_ne hC.1 hC.2.1 hd ht (fun q => kt (fun z => q (q9.mpr z)) p e s m args below meth c hC Hc locs ls hW hT hS hl) (fun q => kf (q9.mp q) p e s m args below meth c hC Hc locs ls hW hT hS hl)
theorem x_iclt {a b off : Int} {tgt : Nat} (hd : decode cc pc = .ok (.if_icmp .lt off, 3)) (ht : (pc : Int) + off = (tgt : Int)) (ha : hp_r a) (hb : hp_r b) (kt : a < b → hp_R G l cc nL ret own R v H' Z tgt L st H) (kf : ¬ a < b → hp_R G l cc nL ret own R v H' Z (pc + 3) L st H) : hp_R G l cc nL ret own R v H' Z pc L (.int (hp_I b) :: .int (hp_I a) :: st) H := by
  intro p e s m args below meth c hC Hc locs ls hW hT hS hl
  have q9 := hp_lt ha hb
  exact lv_icmp_lt hC.1 hC.2.1 hd ht (fun q => kt (q9.mp q) p e s m args below meth c hC Hc locs ls hW hT hS hl) (fun q => kf (fun z => q (q9.mpr z)) p e s m args below meth c hC Hc locs ls hW hT hS hl)
theorem x_icge {a b off : Int} {tgt : Nat} (hd : decode cc pc = .ok (.if_icmp .ge off, 3)) (ht : (pc : Int) + off = (tgt : Int)) (ha : hp_r a) (hb : hp_r b) (kt : ¬ a < b → hp_R G l cc nL ret own R v H' Z tgt L st H) (kf : a < b → hp_R G l cc nL ret own R v H' Z (pc + 3) L st H) : hp_R G l cc nL ret own R v H' Z pc L (.int (hp_I b) :: .int (hp_I a) :: st) H := by
  intro p e s m args below meth c hC Hc locs ls hW hT hS hl
  have q9 := hp_lt ha hb
  exact lv_icmp_ge hC.1 hC.2.1 hd ht (fun q => kt (fun z => Int32.not_le.mpr (q9.mpr z) q) p e s m args below meth c hC Hc locs ls hW hT hS hl) (fun q => kf (q9.mp (Int32.not_le.mp q)) p e s m args below meth c hC Hc locs ls hW hT hS hl)
theorem x_icgt {a b off : Int} {tgt : Nat} (hd : decode cc pc = .ok (.if_icmp .gt off, 3)) (ht : (pc : Int) + off = (tgt : Int)) (ha : hp_r a) (hb : hp_r b) (kt : b < a → hp_R G l cc nL ret own R v H' Z tgt L st H) (kf : ¬ b < a → hp_R G l cc nL ret own R v H' Z (pc + 3) L st H) : hp_R G l cc nL ret own R v H' Z pc L (.int (hp_I b) :: .int (hp_I a) :: st) H := by
  intro p e s m args below meth c hC Hc locs ls hW hT hS hl
  have q9 := hp_lt hb ha
  exact lv_icmp_gt hC.1 hC.2.1 hd ht (fun q => kt (q9.mp q) p e s m args below meth c hC Hc locs ls hW hT hS hl) (fun q => kf (fun z => q (q9.mpr z)) p e s m args below meth c hC Hc locs ls hW hT hS hl)
theorem x_icle {a b off : Int} {tgt : Nat} (hd : decode cc pc = .ok (.if_icmp .le off, 3)) (ht : (pc : Int) + off = (tgt : Int)) (ha : hp_r a) (hb : hp_r b) (kt : ¬ b < a → hp_R G l cc nL ret own R v H' Z tgt L st H) (kf : b < a → hp_R G l cc nL ret own R v H' Z (pc + 3) L st H) : hp_R G l cc nL ret own R v H' Z pc L (.int (hp_I b) :: .int (hp_I a) :: st) H := by
  intro p e s m args below meth c hC Hc locs ls hW hT hS hl
  have q9 := hp_lt hb ha
  exact lv_icmp_le hC.1 hC.2.1 hd ht (fun q => kt (fun z => Int32.not_le.mpr (q9.mpr z) q) p e s m args below meth c hC Hc locs ls hW hT hS hl) (fun q => kf (q9.mp (Int32.not_le.mp q)) p e s m args below meth c hC Hc locs ls hW hT hS hl)
theorem x_goto {off : Int} {tgt : Nat} (hd : decode cc pc = .ok (.goto off, 3)) (ht : (pc : Int) + off = (tgt : Int)) (k : hp_R G l cc nL ret own R v H' Z tgt L st H) : hp_R G l cc nL ret own R v H' Z pc L st H := by
  intro p e s m args below meth c hC Hc locs ls hW hT hS hl
  exact lv_goto hC.1 hC.2.1 hd ht (k p e s m args below meth c hC Hc locs ls hW hT hS hl)
theorem x_tabin {a dflt lo hi off : Int} {offs : Array Int} {len tgt : Nat} (c : Int) (hd : decode cc pc = .ok (.tableswitch dflt lo hi offs, len)) (hr : hp_r a) (hc : a = c) (h1 : ¬ c < lo) (h2 : ¬ hi < c) (ho : offs[(c - lo).toNat]? = some off) (ht : (pc : Int) + off = (tgt : Int)) (k : hp_R G l cc nL ret own R v H' Z tgt L st H) : hp_R G l cc nL ret own R v H' Z pc L (.int (hp_I a) :: st) H := by
  subst hc
  intro p e s m args below meth c hC Hc locs ls hW hT hS hl
  exact lv_tableIn hC.1 hC.2.1 hd (by rw [hp_It hr]; exact h1) (by rw [hp_It hr]; exact h2) (by rw [hp_It hr]; exact ho) ht (k p e s m args below meth c hC Hc locs ls hW hT hS hl)
theorem x_tabout {a dflt lo hi : Int} {offs : Array Int} {len tgt : Nat} (hd : decode cc pc = .ok (.tableswitch dflt lo hi offs, len)) (hr : hp_r a) (h : a < lo ∨ hi < a) (ht : (pc : Int) + dflt = (tgt : Int)) (k : hp_R G l cc nL ret own R v H' Z tgt L st H) : hp_R G l cc nL ret own R v H' Z pc L (.int (hp_I a) :: st) H := by
  intro p e s m args below meth c hC Hc locs ls hW hT hS hl
  exact lv_tableOut hC.1 hC.2.1 hd (by rw [hp_It hr]; exact h) ht (k p e s m args below meth c hC Hc locs ls hW hT hS hl)
theorem x_look {a dflt off : Int} {ps : Array (Int × Int)} {len tgt : Nat} (hd : decode cc pc = .ok (.lookupswitch dflt ps, len)) (hr : hp_r a) (hp : (ps.toList.zip (ps.toList.drop 1)).all (fun (a, next) => a.1 < next.1) = true) (ho : Op.lookupswitch.offset ps.toList dflt a = off) (ht : (pc : Int) + off = (tgt : Int)) (k : hp_R G l cc nL ret own R v H' Z tgt L st H) : hp_R G l cc nL ret own R v H' Z pc L (.int (hp_I a) :: st) H := by
  intro p e s m args below meth c hC Hc locs ls hW hT hS hl
  exact lv_lookup hC.1 hC.2.1 hd hp (by rw [hp_It hr]; exact ho) ht (k p e s m args below meth c hC Hc locs ls hW hT hS hl)
end HR
