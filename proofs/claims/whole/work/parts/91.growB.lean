/-! rules that make cells, that write them, that call constructors -/
theorem g_nat {n : Int} {N : Nat} (hn : n = (N : Int)) (hN : N ≤ 65536) : ¬ hp_I n < 0 ∧ (hp_I n).toNatClampNeg = N := by
  have hr : hp_r n := by unfold hp_r; omega
  refine ⟨fun q => ?_, ?_⟩
  · have := (hp_lt hr hp_r0).mp q
    omega
  · show (hp_I n).toInt.toNat = _
    rw [hp_It hr]
    omega
section GS
variable {G : hp_G} {l : Launch} {cc : ByteArray} {nL d MC MS n0 : Nat} {own : String} {fin : List va_E} {pc : Nat} {L L' : List (Nat × Value)} {st : List Value} {ws : List va_E} {cells slots : Nat}
theorem g_new {idx N : Nat} {C : String} {T : u_T} (ci : Nat) (ty : Nat → FieldType) (fs : List Value) (hlen : ws.length = n0 + cells) (hcl : vwCl[ci]? = some (C, T, N)) (hin : ∀ w ∈ u_ws C T N, w ∈ hp_tb) (hty : ∀ k, k < N → parseFieldDescriptor (T k).2.2.1 = some (ty k)) (hlk : Cond.classLink own idx C ∈ hp_tb) (hinst : Cond.instantiable C N ∈ hp_tb) (hini : Cond.initialized C ∈ hp_tb) (hfs : ∀ j, j < N → defaultValue (ty j) = vp_V fs j) (hc : cells + 1 ≤ MC) (hs : slots + N ≤ MS) (hd : decode cc pc = .ok (.new idx, 3))
    (k : g_R G l cc nL own d MC MS n0 fin (pc + 3) L (.ref (G.2.1 + ws.length) :: st) (ws ++ [.inr (ci, fs)]) (cells + 1) (slots + N)) : g_R G l cc nL own d MC MS n0 fin pc L st ws cells slots := by
  intro p e s m args below meth c hC hi h0 Hc locs ls hW hS hl
  have hts := hC.2.2.2.2.2.1
  refine va_new (ci := ci) (fs := fs) (C := C) (T := T) (N := N) (D := G.1) (A := gA G) hC.1 hC.2.1 hts hin ty hty hC.2.2.2.2.1 (hts _ hlk) (hts _ hinst) (hts _ hini) hW.2.1 hW.1 (gw_D _ _) hS (fun q hq => by show G.2.1 ≤ q; omega) hcl hfs hc hs hd (fun q H1 hP hD hS => ?_)
  refine g_size (fun hz => ?_)
  have hq : q < H1.size := (hP ws.length (q, .inr (ci, fs)) (by rw [List.getElem?_append_right (by rw [gw_len]; exact Nat.le_refl _), gw_len, Nat.sub_self]; rfl)).lt
  have ea := g_addr (n := ws.length) rfl hD (by omega)
  subst ea
  rw [gw_app] at hP
  exact k p e s m args below meth c hC hi h0 H1 locs ls ⟨hP, hW.2.1, hW.2.2⟩ hS hl
theorem g_newi {n : Int} (N : Nat) (hlen : ws.length = n0 + cells) (hn : n = (N : Int)) (hN : N ≤ 65536) (harr : Cond.arrayClass .int ∈ hp_tb) (hc : cells + 1 ≤ MC) (hs : slots + N ≤ MS) (hd : decode cc pc = .ok (.newarray .int, 2))
    (k : g_R G l cc nL own d MC MS n0 fin (pc + 2) L (.ref (G.2.1 + ws.length) :: st) (ws ++ [.inl (G.2.2.1 0, N, .inl (fun _ => hp_I 0))]) (cells + 1) (slots + N)) : g_R G l cc nL own d MC MS n0 fin pc L (.int (hp_I n) :: st) ws cells slots := by
  intro p e s m args below meth c hC hi h0 Hc locs ls hW hS hl
  have hts := hC.2.2.2.2.2.1
  obtain ⟨n1, n2⟩ := g_nat hn hN
  refine va_newa (atype := .int) (ty := .int) (D := G.1) (A := gA G) (a0 := (N, .inl (fun _ => hp_I 0))) hC.1 hC.2.1 (hts _ harr) rfl hW.2.1 hW.1 (gw_D _ _) hS (fun q hq => by show G.2.1 ≤ q; omega) (fun cA => rfl) n1 n2 (by show N * 4 ≤ _; omega) hc hs hd (fun q cA H1 hK hP hD hS => ?_)
  have ec : cA = G.2.2.1 0 := Option.some.inj (((hK.2 4 (cA, .int) rfl).2 : s.vm.findClass ("[" ++ FieldType.int.toString) = some cA).symm.trans (hW.2.1.2 0 (G.2.2.1 0, .int) rfl).2)
  subst ec
  refine g_size (fun hz => ?_)
  have hq : q < H1.size := (hP ws.length (q, .inl (G.2.2.1 0, N, .inl (fun _ => hp_I 0))) (by rw [List.getElem?_append_right (by rw [gw_len]; exact Nat.le_refl _), gw_len, Nat.sub_self]; rfl)).lt
  have ea := g_addr (n := ws.length) rfl hD (by omega)
  subst ea
  rw [gw_app] at hP
  exact k p e s m args below meth c hC hi h0 H1 locs ls ⟨hP, hW.2.1, hW.2.2⟩ hS hl
theorem g_newz {n : Int} (N : Nat) (hlen : ws.length = n0 + cells) (hn : n = (N : Int)) (hN : N ≤ 65536) (harr : Cond.arrayClass .boolean ∈ hp_tb) (hc : cells + 1 ≤ MC) (hs : slots + N ≤ MS) (hd : decode cc pc = .ok (.newarray .boolean, 2))
    (k : g_R G l cc nL own d MC MS n0 fin (pc + 2) L (.ref (G.2.1 + ws.length) :: st) (ws ++ [.inl (G.2.2.1 1, N, .inl (fun _ => hp_I 0))]) (cells + 1) (slots + N)) : g_R G l cc nL own d MC MS n0 fin pc L (.int (hp_I n) :: st) ws cells slots := by
  intro p e s m args below meth c hC hi h0 Hc locs ls hW hS hl
  have hts := hC.2.2.2.2.2.1
  obtain ⟨n1, n2⟩ := g_nat hn hN
  refine va_newa (atype := .boolean) (ty := .boolean) (D := G.1) (A := gA G) (a0 := (N, .inl (fun _ => hp_I 0))) hC.1 hC.2.1 (hts _ harr) rfl hW.2.1 hW.1 (gw_D _ _) hS (fun q hq => by show G.2.1 ≤ q; omega) (fun cA => rfl) n1 n2 (by show N * 1 ≤ _; omega) hc hs hd (fun q cA H1 hK hP hD hS => ?_)
  have ec : cA = G.2.2.1 1 := Option.some.inj (((hK.2 4 (cA, .boolean) rfl).2 : s.vm.findClass ("[" ++ FieldType.boolean.toString) = some cA).symm.trans (hW.2.1.2 1 (G.2.2.1 1, .boolean) rfl).2)
  subst ec
  refine g_size (fun hz => ?_)
  have hq : q < H1.size := (hP ws.length (q, .inl (G.2.2.1 1, N, .inl (fun _ => hp_I 0))) (by rw [List.getElem?_append_right (by rw [gw_len]; exact Nat.le_refl _), gw_len, Nat.sub_self]; rfl)).lt
  have ea := g_addr (n := ws.length) rfl hD (by omega)
  subst ea
  rw [gw_app] at hP
  exact k p e s m args below meth c hC hi h0 H1 locs ls ⟨hP, hW.2.1, hW.2.2⟩ hS hl
theorem g_newq {n : Int} {idx : Nat} (N : Nat) (hlen : ws.length = n0 + cells) (hn : n = (N : Int)) (hN : N ≤ 65536) (hlk : Cond.classLink own idx "HeelPost$Town" ∈ hp_tb) (hc : cells + 1 ≤ MC) (hs : slots + N ≤ MS) (hd : decode cc pc = .ok (.anewarray idx, 3))
    (k : g_R G l cc nL own d MC MS n0 fin (pc + 3) L (.ref (G.2.1 + ws.length) :: st) (ws ++ [.inl (G.2.2.1 2, N, .inr (.inr (.inr (.inr (fun _ => none)))))]) (cells + 1) (slots + N)) : g_R G l cc nL own d MC MS n0 fin pc L (.int (hp_I n) :: st) ws cells slots := by
  intro p e s m args below meth c hC hi h0 Hc locs ls hW hS hl
  have hts := hC.2.2.2.2.2.1
  obtain ⟨n1, n2⟩ := g_nat hn hN
  refine va_newq (C := "HeelPost$Town") (D := G.1) (A := gA G) hC.1 hC.2.1 hC.2.2.2.2.1 (hts _ hlk) hW.2.2.2.1 hW.2.1 hW.1 (gw_D _ _) hS (fun q hq => by show G.2.1 ≤ q; omega) n1 n2 (by omega) hc hs hd (fun q cA H1 hK hP hD hS => ?_)
  have ec : cA = G.2.2.1 2 := by
    obtain ⟨kA, comp, -, -, -, f1⟩ := (hK.2 4 (cA, .object "HeelPost$Town") rfl).2
    obtain ⟨kA2, comp2, -, -, -, f2⟩ := (hW.2.1.2 2 (G.2.2.1 2, .object "HeelPost$Town") rfl).2
    exact Option.some.inj (f1.symm.trans f2)
  subst ec
  refine g_size (fun hz => ?_)
  have hq : q < H1.size := (hP ws.length (q, .inl (G.2.2.1 2, N, .inr (.inr (.inr (.inr (fun _ => none)))))) (by rw [List.getElem?_append_right (by rw [gw_len]; exact Nat.le_refl _), gw_len, Nat.sub_self]; rfl)).lt
  have ea := g_addr (n := ws.length) rfl hD (by omega)
  subst ea
  rw [gw_app] at hP
  exact k p e s m args below meth c hC hi h0 H1 locs ls ⟨hP, hW.2.1, hW.2.2⟩ hS hl
theorem g_putF {idx N : Nat} {C : String} {T : u_T} (a ci : Nat) (ty0 : Nat → FieldType) {fs : List Value} {v : Value} {ty : FieldType} (hw : ws[a]? = some (.inr (ci, fs))) (hcl : vwCl[ci]? = some (C, T, N)) (hin : ∀ w ∈ u_ws C T N, w ∈ hp_tb) (hty : ∀ k, k < N → parseFieldDescriptor (T k).2.2.1 = some (ty0 k)) (hnm : ∀ a, a < N → ∀ b, b < N → a ≠ b → (T a).2.1 ≠ (T b).2.1) (j : Nat) (hj : j < N) (hlk : Cond.fieldLink own idx (T j).1 (T j).2.1 (T j).2.2.1 ∈ hp_tb) (hfin : (T j).2.2.2 = true) (hdecl : (T j).1 = own) (hd0 : ty0 j = ty) (hn : narrow ty v = v) (hfit : fits ty v = true) (hlf : j < fs.length) (hd : decode cc pc = .ok (.putfield idx, 3))
    (k : g_R G l cc nL own d MC MS n0 fin (pc + 3) L st (ws.set a (.inr (ci, fs.set j v))) cells slots) : g_R G l cc nL own d MC MS n0 fin pc L (v :: .ref (G.2.1 + a) :: st) ws cells slots := by
  intro p e s m args below meth c hC hi h0 Hc locs ls hW hS hl
  have hts := hC.2.2.2.2.2.1
  have ha : a < ws.length := (List.getElem?_eq_some_iff.mp hw).1
  refine va_putF (D := G.1) (ci := ci) (v := v) (ty := ty) (C := C) (T := T) (N := N) (A := gA G) hC.1 hC.2.1 hts hin ty0 hty hnm hC.2.2.2.2.1 hW.2.1 hW.1 (gw_D _ _) hS a (gw_get hw) hcl j hj (hts _ hlk) (fun _ h9 => h9) hfin hi hdecl (by rw [hty j hj, hd0]) hn hfit hlf hd (fun H1 locs1 hP1 hD1 hS1 => ?_)
  rw [gw_set ha] at hP1
  exact k p e s m args below meth c hC hi h0 H1 locs1 ls ⟨hP1, hW.2.1, hW.2.2⟩ hS1 hl
theorem g_get {idx N : Nat} {C : String} {T : u_T} (a ci : Nat) {fs : List Value} {v : Value} (hw : ws[a]? = some (.inr (ci, fs))) (hcl : vwCl[ci]? = some (C, T, N)) (hin : ∀ w ∈ u_ws C T N, w ∈ hp_tb) (j : Nat) (hj : j < N) (hlk : Cond.fieldLink own idx (T j).1 (T j).2.1 (T j).2.2.1 ∈ hp_tb) (hv : fs[j]? = some v) (hd : decode cc pc = .ok (.getfield idx, 3))
    (k : g_R G l cc nL own d MC MS n0 fin (pc + 3) L (v :: st) ws cells slots) : g_R G l cc nL own d MC MS n0 fin pc L (.ref (G.2.1 + a) :: st) ws cells slots := by
  intro p e s m args below meth c hC hi h0 Hc locs ls hW hS hl
  have hts := hC.2.2.2.2.2.1
  exact va_get (D := G.1) (ci := ci) (v := v) (C := C) (T := T) (N := N) hC.1 hC.2.1 hts hin hC.2.2.2.2.1 hW.2.1 hW.1 a (gw_get hw) hcl j hj (hts _ hlk) (fun _ h9 => h9) hv hd (k p e s m args below meth c hC hi h0 Hc locs ls hW hS hl)
theorem g_iast {i x : Int} {n : Nat} {f : Nat → Int32} (a : Nat) (hw : ws[a]? = some (.inl (G.2.2.1 0, n, .inl f))) (hn : n ≤ 65536) (hii : 0 ≤ i ∧ i < n) (hd : decode cc pc = .ok (.iastore, 1))
    (k : g_R G l cc nL own d MC MS n0 fin (pc + 1) L st (ws.set a (.inl (G.2.2.1 0, n, .inl (upd f i.toNat (hp_I x))))) cells slots) : g_R G l cc nL own d MC MS n0 fin pc L (.int (hp_I x) :: .int (hp_I i) :: .ref (G.2.1 + a) :: st) ws cells slots := by
  intro p e s m args below meth c hC hi h0 Hc locs ls hW hS hl
  obtain ⟨h1, h2⟩ := hp_ix hii hn
  have ha : a < ws.length := (List.getElem?_eq_some_iff.mp hw).1
  refine va_iast (D := G.1) (A := gA G) hC.1 hC.2.1 hW.2.1 hW.1 (gw_D _ _) hS a 0 (gw_get hw) rfl h1 hd (fun H1 locs1 hP1 hD1 hS1 => ?_)
  rw [gw_set ha, h2] at hP1
  exact k p e s m args below meth c hC hi h0 H1 locs1 ls ⟨hP1, hW.2.1, hW.2.2⟩ hS1 hl
theorem g_astq {i : Int} {n : Nat} {f : Nat → Option Nat} {vs : List Value} (a b : Nat) (hw : ws[a]? = some (.inl (G.2.2.1 2, n, .inr (.inr (.inr (.inr f)))))) (hv : ws[b]? = some (.inr (6, vs))) (hn : n ≤ 65536) (hii : 0 ≤ i ∧ i < n) (hd : decode cc pc = .ok (.aastore, 1))
    (k : g_R G l cc nL own d MC MS n0 fin (pc + 1) L st (ws.set a (.inl (G.2.2.1 2, n, .inr (.inr (.inr (.inr (va_up f i.toNat (some (G.2.1 + b))))))))) cells slots) : g_R G l cc nL own d MC MS n0 fin pc L (.ref (G.2.1 + b) :: .int (hp_I i) :: .ref (G.2.1 + a) :: st) ws cells slots := by
  intro p e s m args below meth c hC hi h0 Hc locs ls hW hS hl
  obtain ⟨h1, h2⟩ := hp_ix hii hn
  have ha : a < ws.length := (List.getElem?_eq_some_iff.mp hw).1
  refine va_astq (D := G.1) (A := gA G) (r := (RX6, TX6, 12)) hC.1 hC.2.1 hW.2.1 hW.1 (gw_D _ _) hS a 2 b 6 (gw_get hw) rfl (gw_get hv) rfl h1 hd (fun H1 locs1 hP1 hD1 hS1 => ?_)
  rw [gw_set ha, h2] at hP1
  exact k p e s m args below meth c hC hi h0 H1 locs1 ls ⟨hP1, hW.2.1, hW.2.2⟩ hS1 hl
/-- behind a constructor's call -/
theorem g_back {p : Program} {e : Env} {s : State} {m : MethodId} {args : Array Value} {below : List Frame} {meth : Method} {c : Code} {Hc : Heap} {locs : List Loc} {ls : Array Slot} {st0 : List Value} {ws2 : List va_E} {c2 m2 : Nat} {a : Array Value} (hC : hp_C cc nL none own p s m args meth c) (hi : meth.name = "<init>") (h0 : s.heap.size = G.2.1 + n0) (hW : gW G ws s Hc) (hS : va_S (gA G) s.heap Hc locs) (hl : lv_has ls nL L) (hr : va_Run p l e (g_rm d MC MS) s m args below meth c Hc locs cells slots c2 m2 (F0 m pc ls st0) st (g_Q G ws2 a) (gA G))
    (kk : g_R G l cc nL own d MC MS n0 fin (pc + 3) L st ws2 (cells + c2) (slots + m2)) : W p l e (g_rm d MC MS) s m args below meth c Hc locs cells slots (MQ below (g_Q G fin) args s MC MS (gA G)) (F0 m pc ls st0) := by
  intro T hTh X
  obtain ⟨v2, st₀, t, T', L2, h9, X', hL, e1, e2, ⟨⟨hv, hw⟩, hf1, hf2⟩, go⟩ := hr T hTh X
  cases hv
  rw [h9] at hf1 hf2
  have hal : s.vm.Alike t.vm := by rw [← e2]; exact X'.warmed.alike
  have hS1 : va_S (gA G) s.heap T'.heap (locs ++ L2) := ⟨Nat.le_trans hS.1 (by rw [e1]; exact hf1), fun q h1 h2 => by rw [e1, hf2 q (Nat.lt_of_lt_of_le h1 hS.1) h2]; exact hS.2.1 q h1 h2, fun q hq => by
    rcases List.mem_append.mp hq with h | h
    · exact hS.2.2 q h
    · exact hL q h⟩
  have hW1 : gW G ws2 s T'.heap := by
    rw [e1]
    exact ⟨hw.1, va_K.moved hal.symm hw.2.1, hW.2.2⟩
  obtain ⟨t2, a1, b1⟩ := kk p e s m args below meth c hC hi h0 T'.heap (locs ++ L2) ls hW1 hS1 hl T' rfl X'
  exact ⟨t2, go t2 a1, b1⟩
theorem g_pre {s : State} {Hc : Heap} {As : List Value} (hW : gW G ws s Hc) (hz : Hc.size = G.2.1 + ws.length) : PreS s Hc (g_Pc G As ws) As :=
  ⟨g_blind G As ws, fun U hU hw => ⟨rfl, by rw [hU]; exact hz, hW.fin hU hw⟩⟩
theorem g_callI {y : MethodName} {cy : ByteArray} {ny n idx d2 c2 m2 b : Nat} {As st0 : List Value} {ws2 : List va_E} (hM : g_M G l y cy ny d2 (.ref b :: As) ws ws2 c2 m2) (hlen : ws.length = n0 + cells) (hpos : 0 < ws.length) (hy : hp_cal y cy ny none n) (hyn : y.name = "<init>") (hinst : Cond.instanceMethod y ∈ hp_tb) (hlink : Cond.methodLink own idx y ∈ hp_tb) (hR : d2 + 1 ≤ d ∧ 8 + (ny + 11) + 64 * d2 ≤ 64 * d) (hn : As.length = n) (hst : st0 = As.reverse ++ .ref b :: st) (h8 : (st.map fun v => v.category).sum ≤ 8) (hc : cells + c2 ≤ MC) (hs : slots + m2 ≤ MS) (hd : decode cc pc = .ok (.invokespecial idx, 3))
    (kk : g_R G l cc nL own d MC MS n0 fin (pc + 3) L st ws2 (cells + c2) (slots + m2)) : g_R G l cc nL own d MC MS n0 fin pc L st0 ws cells slots := by
  intro p e s m args below meth c hC hi h0 Hc locs ls hW hS hl
  refine g_size (fun hz => ?_)
  have hz2 := hW.lt (k := ws.length - 1) (by omega)
  have hts := hC.2.2.2.2.2.1
  refine g_back (a := (Value.ref b :: As).toArray) hC hi h0 hW hS hl ?_ kk
  exact va_runI (As := As) (rest := st) ⟨hC.1, hC.2.1, hC.2.2.2.1, hC.2.2.2.2.1, hts⟩ hM ⟨callB_of n hts (hp_goodIn (fun _ h => h) hy.1) rfl rfl rfl (hts _ hy.2.1) (hts _ hlink) hy.2.2 hR, hyn, hts _ hinst⟩ (g_pre hW (by omega)) rfl hn hl.1 hst (lv_room h8) hd ⟨hc, hs⟩
theorem g_callN {y : MethodName} {cy : ByteArray} {ny n idx d2 c2 m2 b : Nat} {As st0 : List Value} {ws2 : List va_E} (hM : g_M G l y cy ny d2 (.ref b :: As) ws ws2 c2 m2) (hlen : ws.length = n0 + cells) (hpos : 0 < ws.length) (hy : hp_cal y cy ny none n) (hyn : y.name = "<init>") (hinst : Cond.instanceMethod y ∈ hp_tb) (hlink : (own, idx, y) ∈ gNl) (hR : d2 + 1 ≤ d ∧ 8 + (ny + 11) + 64 * d2 ≤ 64 * d) (hn : As.length = n) (hst : st0 = As.reverse ++ .ref b :: st) (h8 : (st.map fun v => v.category).sum ≤ 8) (hc : cells + c2 ≤ MC) (hs : slots + m2 ≤ MS) (hd : decode cc pc = .ok (.invokespecial idx, 3))
    (kk : g_R G l cc nL own d MC MS n0 fin (pc + 3) L st ws2 (cells + c2) (slots + m2)) : g_R G l cc nL own d MC MS n0 fin pc L st0 ws cells slots := by
  intro p e s m args below meth c hC hi h0 Hc locs ls hW hS hl
  refine g_size (fun hz => ?_)
  have hz2 := hW.lt (k := ws.length - 1) (by omega)
  have hts := hC.2.2.2.2.2.1
  refine g_back (a := (Value.ref b :: As).toArray) hC hi h0 hW hS hl ?_ kk
  exact va_runIN (As := As) (rest := st) ⟨hC.1, hC.2.1, hC.2.2.2.1, hC.2.2.2.2.1, hts⟩ hM ⟨va_cnB n hts (hp_goodIn (fun _ h => h) hy.1) rfl rfl rfl (hW.2.2.1 _ hlink) (hts _ hy.2.1) hy.2.2 hR, hyn, hts _ hinst⟩ (g_pre hW (by omega)) rfl hn hl.1 hst (lv_room h8) hd ⟨hc, hs⟩
/-- rows of rows -/
theorem g_mna {n k9 : Int} {idx : Nat} (N K : Nat) (hlen : ws.length = n0 + cells) (hpos : 0 < ws.length) (hn : n = (N : Int)) (hN : N ≤ 65536) (hk : k9 = (K : Int)) (hK9 : K ≤ 65536) (hlk : Cond.classLink own idx "[[I" ∈ hp_tb) (harr : Cond.arrayClass .int ∈ hp_tb) (hc : cells + (1 + N) ≤ MC) (hs : slots + (N + N * K) ≤ MS) (hd : decode cc pc = .ok (.multianewarray idx 2, 4))
    (k : g_R G l cc nL own d MC MS n0 fin (pc + 4) L (.ref (G.2.1 + ws.length) :: st) (ws ++ [.inl (G.2.2.1 3, N, .inr (.inr (.inr (.inr (fun i => if i < N then some (G.2.1 + ws.length + 1 + i) else none)))))] ++ List.replicate N (.inl (G.2.2.1 0, K, .inl (fun _ => hp_I 0)))) (cells + 1 + N) (slots + N + N * K)) : g_R G l cc nL own d MC MS n0 fin pc L (.int (hp_I k9) :: .int (hp_I n) :: st) ws cells slots := by
  intro p e s m args below meth c hC hi h0 Hc locs ls hW hS hl
  have hts := hC.2.2.2.2.2.1
  obtain ⟨n1, n2⟩ := g_nat hn hN
  obtain ⟨k1, k2⟩ := g_nat hk hK9
  refine g_size (fun hz => ?_)
  have hz2 := hW.lt (k := ws.length - 1) (by omega)
  have hsz : Hc.size = G.2.1 + ws.length := by omega
  intro T hT Xs
  obtain ⟨vm₁, cA, comp, L2, fA, fC, hL2, X', step⟩ := ma_mna Xs hC.1 (own := own) (index := idx) hC.2.2.2.2.1 (hts _ hlk) hW.2.2.2.2 (hts _ harr) (g := F0 m pc ls (.int (hp_I k9) :: .int (hp_I n) :: st)) rfl (by rw [hC.2.1]; exact hd) rfl n1 n2 k1 k2 hN hK9 hc hs
  have eA : cA = G.2.2.1 3 := Option.some.inj (fA.symm.trans (hW.2.1.2 3 (G.2.2.1 3, .array .int) rfl).2)
  have eC : comp = G.2.2.1 0 := Option.some.inj ((fC : s.vm.findClass ("[" ++ FieldType.int.toString) = some comp).symm.trans (hW.2.1.2 0 (G.2.2.1 0, .int) rfl).2)
  subst eA
  subst eC
  have hTh : (T.setVm vm₁).heap = Hc := hT
  have f1 := ma_size (T := T.setVm vm₁) (cO := G.2.2.1 3) (cI := G.2.2.1 0) (N := N) (K := K) N
  have f2 := ma_at (T := T.setVm vm₁) (cO := G.2.2.1 3) (cI := G.2.2.1 0) (N := N) (K := K) N
  have f3 := fun (x : Nat) hx => ma_old (T := T.setVm vm₁) (cO := G.2.2.1 3) (cI := G.2.2.1 0) (N := N) (K := K) (x := x) hx N
  have f4 := fun (j : Nat) => ma_row (T := T.setVm vm₁) (cO := G.2.2.1 3) (cI := G.2.2.1 0) (N := N) (K := K) (j := j) N
  generalize ma_fill (T.setVm vm₁) (G.2.2.1 3) (G.2.2.1 0) N K N = F at X' step f1 f2 f3 f4
  rw [hTh] at f1 f2 f3 f4
  have hold : ∀ x : Nat, x < Hc.size → F.heap[x]? = Hc[x]? := f3
  have hrow : ∀ j : Nat, j < N → F.heap[Hc.size + 1 + j]? = some (vp_cell (G.2.2.1 0) (K, .inl (fun _ => hp_I 0))) := fun j hj => by
    rw [f4 j hj]
    show some ({ cls := G.2.2.1 0, slots := Array.replicate K (.int 0), vm := .none } : Cell) = some (arrV (G.2.2.1 0) K (fun _ => .int 0))
    rw [arrV_new]
  have hP1 : va_P G.1 vwCl (gw G.2.1 (ws ++ [.inl (G.2.2.1 3, N, .inr (.inr (.inr (.inr (fun i => if i < N then some (G.2.1 + ws.length + 1 + i) else none)))))] ++ List.replicate N (.inl (G.2.2.1 0, K, .inl (fun _ => hp_I 0))))) F.heap := by
    intro k q hq
    obtain ⟨e1, e2⟩ := gw_at hq
    obtain ⟨q1, q2⟩ := q
    have e1 : q1 = G.2.1 + k := e1
    subst e1
    rcases Nat.lt_trichotomy k ws.length with h | h | h
    · rw [List.append_assoc, List.getElem?_append_left h] at e2
      exact (hW.1 k _ (gw_get e2)).kept (hold _ (by show G.2.1 + k < _; omega))
    · subst h
      rw [List.append_assoc, List.getElem?_append_right (Nat.le_refl _), Nat.sub_self] at e2
      cases e2
      show F.heap[G.2.1 + ws.length]? = some (vp_cell _ _)
      rw [← hsz, f2]
      rfl
    · rw [List.getElem?_append_right (by simp; omega)] at e2
      have hm := List.mem_of_getElem? e2
      have hlt : k - (ws ++ [Sum.inl (G.2.2.1 3, N, Sum.inr (Sum.inr (Sum.inr (Sum.inr (fun i => if i < N then some (G.2.1 + ws.length + 1 + i) else none)))))]).length < (List.replicate N (Sum.inl (G.2.2.1 0, K, Sum.inl (fun _ => hp_I 0)) : va_E)).length := (List.getElem?_eq_some_iff.mp e2).1
      simp only [List.length_append, List.length_cons, List.length_nil, List.length_replicate] at hlt
      have e3 := (List.mem_replicate.mp hm).2
      subst e3
      show F.heap[G.2.1 + k]? = some (vp_cell _ _)
      have := hrow (k - ws.length - 1) (by omega)
      rw [show Hc.size + 1 + (k - ws.length - 1) = G.2.1 + k by omega] at this
      exact this
  have hS1 : va_S (gA G) s.heap F.heap (locs ++ L2) := ⟨Nat.le_trans hS.1 (by rw [f1]; omega), fun x h1 h2 => (hold x (Nat.lt_of_lt_of_le h1 hS.1)).trans (hS.2.1 x h1 h2), fun q hq => by
    rcases List.mem_append.mp hq with h | h
    · exact hS.2.2 q h
    · show G.2.1 ≤ q.base
      rw [hL2 q h, hT, hsz]
      omega⟩
  obtain ⟨t, a1, b1⟩ := k p e s m args below meth c hC hi h0 F.heap (locs ++ L2) ls ⟨hP1, hW.2.1, hW.2.2⟩ hS1 hl F rfl X'
  rw [hT, hsz] at step
  exact ⟨t, step t a1, b1⟩
end GS
