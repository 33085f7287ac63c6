/-! the start: what the tables and the statement's premises say -/
theorem st_1 {s : State} {b : Nat} (hts : ∀ w ∈ lw_tbl, w.before #[Value.ref b] s = true) (hgv : (Jvm.Cond.and given_1 narrow_1).before #[Value.ref b] s = true) : ∃ t : Nat, va_Z "HeelPost$Asks" (hp_sn 1) "[I" (.ref t) (lA s) s s.heap ∧ va_T .int t 6 (fun j => .int (hp_I (hp_tab (-((1 : Nat) : Int)) (j : Int)))) (lA s) s s.heap := by
  have hs := flat_of_before _ hgv
  have hA : ∀ a : Nat, a < s.heap.size → ¬ lA s a := fun a h z => by have z : s.heap.size ≤ a := z; omega
  obtain ⟨t, ht, hT⟩ := va_Tof (args := #[Value.ref b]) (s := s) (tm := .static "HeelPost$Asks" "KIND_ABOVE" "[I") (ty := .int) (N := 6) (f := fun j => .int (hp_I (hp_tab (-((1 : Nat) : Int)) (j : Int)))) (A := lA s) (by decide) (hs _ (by decide +kernel)) (va_eqt (z := 6) (hs _ (by decide +kernel))) (fun j hj => by
    match j, hj with
    | 0, _ => exact va_eqt (z := 0) (hs (.eq (.elem (.static "HeelPost$Asks" "KIND_ABOVE" "[I") (.int 0)) (.int 0)) (by decide +kernel))
    | 1, _ => exact va_eqt (z := 0) (hs (.eq (.elem (.static "HeelPost$Asks" "KIND_ABOVE" "[I") (.int 1)) (.int 0)) (by decide +kernel))
    | 2, _ => exact va_eqt (z := 1) (hs (.eq (.elem (.static "HeelPost$Asks" "KIND_ABOVE" "[I") (.int 2)) (.int 1)) (by decide +kernel))
    | 3, _ => exact va_eqt (z := 1) (hs (.eq (.elem (.static "HeelPost$Asks" "KIND_ABOVE" "[I") (.int 3)) (.int 1)) (by decide +kernel))
    | 4, _ => exact va_eqt (z := 0) (hs (.eq (.elem (.static "HeelPost$Asks" "KIND_ABOVE" "[I") (.int 4)) (.int 0)) (by decide +kernel))
    | 5, _ => exact va_eqt (z := 4) (hs (.eq (.elem (.static "HeelPost$Asks" "KIND_ABOVE" "[I") (.int 5)) (.int 4)) (by decide +kernel))
    | j + 6, h => exact absurd h (by omega)) hA
  exact ⟨t, va_Zof (hts (.laysStatic "HeelPost$Asks" "KIND_ABOVE" "[I") (List.mem_of_getElem? (i := 859) (by decide +kernel))) (hts _ (List.mem_filter.mp cal_X1_init.2.1).1) ht hA, hT⟩
theorem st_2 {s : State} {b : Nat} (hts : ∀ w ∈ lw_tbl, w.before #[Value.ref b] s = true) (hgv : (Jvm.Cond.and given_1 narrow_1).before #[Value.ref b] s = true) : ∃ t : Nat, va_Z "HeelPost$Asks" (hp_sn 2) "[I" (.ref t) (lA s) s s.heap ∧ va_T .int t 6 (fun j => .int (hp_I (hp_tab (-((2 : Nat) : Int)) (j : Int)))) (lA s) s s.heap := by
  have hs := flat_of_before _ hgv
  have hA : ∀ a : Nat, a < s.heap.size → ¬ lA s a := fun a h z => by have z : s.heap.size ≤ a := z; omega
  obtain ⟨t, ht, hT⟩ := va_Tof (args := #[Value.ref b]) (s := s) (tm := .static "HeelPost$Asks" "SIZE_BODIES" "[I") (ty := .int) (N := 6) (f := fun j => .int (hp_I (hp_tab (-((2 : Nat) : Int)) (j : Int)))) (A := lA s) (by decide) (hs _ (by decide +kernel)) (va_eqt (z := 6) (hs _ (by decide +kernel))) (fun j hj => by
    match j, hj with
    | 0, _ => exact va_eqt (z := 10) (hs (.eq (.elem (.static "HeelPost$Asks" "SIZE_BODIES" "[I") (.int 0)) (.int 10)) (by decide +kernel))
    | 1, _ => exact va_eqt (z := 11) (hs (.eq (.elem (.static "HeelPost$Asks" "SIZE_BODIES" "[I") (.int 1)) (.int 11)) (by decide +kernel))
    | 2, _ => exact va_eqt (z := 12) (hs (.eq (.elem (.static "HeelPost$Asks" "SIZE_BODIES" "[I") (.int 2)) (.int 12)) (by decide +kernel))
    | 3, _ => exact va_eqt (z := 0) (hs (.eq (.elem (.static "HeelPost$Asks" "SIZE_BODIES" "[I") (.int 3)) (.int 0)) (by decide +kernel))
    | 4, _ => exact va_eqt (z := 13) (hs (.eq (.elem (.static "HeelPost$Asks" "SIZE_BODIES" "[I") (.int 4)) (.int 13)) (by decide +kernel))
    | 5, _ => exact va_eqt (z := 14) (hs (.eq (.elem (.static "HeelPost$Asks" "SIZE_BODIES" "[I") (.int 5)) (.int 14)) (by decide +kernel))
    | j + 6, h => exact absurd h (by omega)) hA
  exact ⟨t, va_Zof (hts (.laysStatic "HeelPost$Asks" "SIZE_BODIES" "[I") (List.mem_of_getElem? (i := 873) (by decide +kernel))) (hts _ (List.mem_filter.mp cal_X1_init.2.1).1) ht hA, hT⟩
theorem st_3 {s : State} {b : Nat} (hts : ∀ w ∈ lw_tbl, w.before #[Value.ref b] s = true) (hgv : (Jvm.Cond.and given_1 narrow_1).before #[Value.ref b] s = true) : ∃ t : Nat, va_Z "HeelPost$Asks" (hp_sn 3) "[I" (.ref t) (lA s) s s.heap ∧ va_T .int t 6 (fun j => .int (hp_I (hp_tab (-((3 : Nat) : Int)) (j : Int)))) (lA s) s s.heap := by
  have hs := flat_of_before _ hgv
  have hA : ∀ a : Nat, a < s.heap.size → ¬ lA s a := fun a h z => by have z : s.heap.size ≤ a := z; omega
  obtain ⟨t, ht, hT⟩ := va_Tof (args := #[Value.ref b]) (s := s) (tm := .static "HeelPost$Asks" "MARK_BODIES" "[I") (ty := .int) (N := 6) (f := fun j => .int (hp_I (hp_tab (-((3 : Nat) : Int)) (j : Int)))) (A := lA s) (by decide) (hs _ (by decide +kernel)) (va_eqt (z := 6) (hs _ (by decide +kernel))) (fun j hj => by
    match j, hj with
    | 0, _ => exact va_eqt (z := 20) (hs (.eq (.elem (.static "HeelPost$Asks" "MARK_BODIES" "[I") (.int 0)) (.int 20)) (by decide +kernel))
    | 1, _ => exact va_eqt (z := 21) (hs (.eq (.elem (.static "HeelPost$Asks" "MARK_BODIES" "[I") (.int 1)) (.int 21)) (by decide +kernel))
    | 2, _ => exact va_eqt (z := 24) (hs (.eq (.elem (.static "HeelPost$Asks" "MARK_BODIES" "[I") (.int 2)) (.int 24)) (by decide +kernel))
    | 3, _ => exact va_eqt (z := 22) (hs (.eq (.elem (.static "HeelPost$Asks" "MARK_BODIES" "[I") (.int 3)) (.int 22)) (by decide +kernel))
    | 4, _ => exact va_eqt (z := 23) (hs (.eq (.elem (.static "HeelPost$Asks" "MARK_BODIES" "[I") (.int 4)) (.int 23)) (by decide +kernel))
    | 5, _ => exact va_eqt (z := 0) (hs (.eq (.elem (.static "HeelPost$Asks" "MARK_BODIES" "[I") (.int 5)) (.int 0)) (by decide +kernel))
    | j + 6, h => exact absurd h (by omega)) hA
  exact ⟨t, va_Zof (hts (.laysStatic "HeelPost$Asks" "MARK_BODIES" "[I") (List.mem_of_getElem? (i := 875) (by decide +kernel))) (hts _ (List.mem_filter.mp cal_X1_init.2.1).1) ht hA, hT⟩
theorem gN_start {s : State} {b : Nat} (hts : ∀ w ∈ lw_tbl, w.before #[Value.ref b] s = true) : gN s := by
  refine ⟨fun w hw => ?_, va_AO.of (hts (.arrayOver (.object "HeelPost$Town")) (List.mem_of_getElem? (i := 197) (by decide +kernel))), va_AOA.of (hts (.arrayOver (.array .int)) (List.mem_of_getElem? (i := 83) (by decide +kernel)))⟩
  have hw2 : w = ("HeelPost", 18, yX5_init) ∨ w = ("HeelPost", 25, yX6_init) ∨ w = ("HeelPost$Acts", 17, yX6_init) ∨ w = ("HeelPost", 42, yX2_init) ∨ w = ("HeelPost$Foretold", 11, yX6_init) ∨ w = ("HeelPost", 58, yX1_init) := by
    simpa [gNl] using hw
  rcases hw2 with rfl | rfl | rfl | rfl | rfl | rfl
  · exact va_Nw.of rfl (hts _ (List.mem_of_getElem? (i := 97) (by decide +kernel)))
  · exact va_Nw.of rfl (hts _ (List.mem_of_getElem? (i := 119) (by decide +kernel)))
  · exact va_Nw.of rfl (hts _ (List.mem_of_getElem? (i := 198) (by decide +kernel)))
  · exact va_Nw.of rfl (hts _ (List.mem_of_getElem? (i := 211) (by decide +kernel)))
  · exact va_Nw.of rfl (hts _ (List.mem_of_getElem? (i := 248) (by decide +kernel)))
  · exact va_Nw.of rfl (hts _ (List.mem_of_getElem? (i := 270) (by decide +kernel)))
theorem nest_start {s : State} {b : Nat} (hts : ∀ w ∈ lw_tbl, w.before #[Value.ref b] s = true) : va_Nw hp_nest s := va_Nw.of rfl (hts hp_nest (List.mem_of_getElem? (i := 435) (by decide +kernel)))
theorem arr_start {s : State} {b : Nat} {ty : FieldType} (hno : ∀ C, ty ≠ .object C) (h : (Cond.arrayClass ty).before #[Value.ref b] s = true) : ∃ cA : ClassId, ArrOfT s cA ty ∧ va_RA s cA ty := by
  obtain ⟨cA, kA, comp, h1, h2, h3⟩ := Cond.arrayClass_spec h
  refine ⟨cA, fun n z => ⟨(fun k h => by cases h), kA, h2, comp, h3⟩, ?_⟩
  cases ty with
  | object C => exact absurd rfl (hno C)
  | _ => exact h1
theorem town_start {s : State} (h : va_AO "HeelPost$Town" s) : ∃ cA : ClassId, ArrOfT s cA (.object "HeelPost$Town") ∧ va_RA s cA (.object "HeelPost$Town") := by
  obtain ⟨comp, cA, kA, h1, h2, h3, h4, h5⟩ := Cond.arrayOver_spec h
  exact ⟨cA, fun n z => ⟨(fun k h => by cases h), kA, h3, comp, h4⟩, kA, comp, h3, h4, h1, h5⟩
theorem rows_start {s : State} (h : va_AOA .int s) : ∃ cA : ClassId, ArrOfT s cA (.array .int) ∧ va_RA s cA (.array .int) := by
  obtain ⟨comp, cA, kA, h1, h3, h4, h5⟩ := ma_over h
  exact ⟨cA, fun n z => ⟨(fun k h => by cases h), kA, h3, comp, h4⟩, h5⟩
theorem cls_start {s : State} {b : Nat} (hts : ∀ w ∈ hp_tb, w.before #[Value.ref b] s = true) : ∃ D : va_G, ∀ (k : Nat) (q : vw_C), vwCl[k]? = some q → u_Kn s q.1 q.2.1 q.2.2 (D.1 k) (D.2 k) := by
  obtain ⟨c0, i0, h0⟩ := u_known (C := RX0) (T := TX0) (N := 3) (n := 3) hts in_X0 (hts _ inst_X0)
  obtain ⟨c1, i1, h1⟩ := u_known (C := RX1) (T := TX1) (N := 2) (n := 2) hts in_X1 (hts _ inst_X1)
  obtain ⟨c2, i2, h2⟩ := u_known (C := RX2) (T := TX2) (N := 8) (n := 8) hts in_X2 (hts _ inst_X2)
  obtain ⟨c3, i3, h3⟩ := u_known (C := RX3) (T := TX3) (N := 6) (n := 6) hts in_X3 (hts _ inst_X3)
  obtain ⟨c4, i4, h4⟩ := u_known (C := RX4) (T := TX4) (N := 3) (n := 3) hts in_X4 (hts _ inst_X4)
  obtain ⟨c5, i5, h5⟩ := u_known (C := RX5) (T := TX5) (N := 5) (n := 5) hts in_X5 (hts _ inst_X5)
  obtain ⟨c6, i6, h6⟩ := u_known (C := RX6) (T := TX6) (N := 12) (n := 12) hts in_X6 (hts _ inst_X6)
  obtain ⟨c7, i7, h7⟩ := u_known (C := RX7) (T := TX7) (N := 11) (n := 11) hts in_X7 (hts _ inst_X7)
  obtain ⟨c8, i8, h8⟩ := u_known (C := RX8) (T := TX8) (N := 26) (n := 26) hts in_X8 (hts _ inst_X8)
  refine ⟨(fun k => if k = 0 then c0 else if k = 1 then c1 else if k = 2 then c2 else if k = 3 then c3 else if k = 4 then c4 else if k = 5 then c5 else if k = 6 then c6 else if k = 7 then c7 else c8, fun k => if k = 0 then i0 else if k = 1 then i1 else if k = 2 then i2 else if k = 3 then i3 else if k = 4 then i4 else if k = 5 then i5 else if k = 6 then i6 else if k = 7 then i7 else i8), ?_⟩
  intro k q hq
  match k, hq with
  | 0, hq => cases hq; exact h0
  | 1, hq => cases hq; exact h1
  | 2, hq => cases hq; exact h2
  | 3, hq => cases hq; exact h3
  | 4, hq => cases hq; exact h4
  | 5, hq => cases hq; exact h5
  | 6, hq => cases hq; exact h6
  | 7, hq => cases hq; exact h7
  | 8, hq => cases hq; exact h8
  | k + 9, hq => simp [vwCl] at hq
theorem st_narrow {G : hp_G} {s : State} (hG : s.heap.size ≤ G.2.1) (h : ∀ k : Nat, 1 ≤ k → k ≤ 3 → va_Z "HeelPost$Asks" (hp_sn k) "[I" (.ref (G.2.2.2.1 k)) (lA s) s s.heap ∧ va_T .int (G.2.2.2.1 k) 6 (fun j => .int (hp_I (hp_tab (-(k : Int)) (j : Int)))) (lA s) s s.heap) (hn : va_Nw hp_nest s) : hp_St G s s.heap := by
  have hA : ∀ q, hp_A G q → lA s q := fun q hq => Nat.le_trans hG hq.1
  exact ⟨fun k h1 h2 => ⟨(h k h1 h2).1.narrow hA, (h k h1 h2).2.narrow hA⟩, hn⟩
/-- a constructor's call in the law -/
theorem l_ctor {p : Program} {l : Launch} {e : Env} {s : State} {m : MethodId} {below : List Frame} {meth : Method} {c : Code} {b : Nat} {Hc : Heap} {locs : List Loc} {cells slots : Nat} {Q : State → Prop} {G : hp_G} {pc : Nat} {ls : Array Slot} {st st0 : List Value} {ws ws2 : List va_E} {y : MethodName} {cy : ByteArray} {ny idx d2 c2 m2 bb : Nat} (S : CallFix p m c cL_law 4 s #[Value.ref b] hp_tb "HeelPostLaw") (hM : g_M G l y cy ny d2 [.ref bb] ws ws2 c2 m2) (hy : hp_cal y cy ny none 0) (hyn : y.name = "<init>") (hinst : Cond.instanceMethod y ∈ hp_tb) (hlink : Cond.methodLink "HeelPostLaw" idx y ∈ hp_tb) (hd2 : d2 ≤ 60) (hny : ny ≤ 100) (hst : st0 = .ref bb :: st) (h8 : (st.map fun v => v.category).sum ≤ 8) (hG : s.heap.size ≤ G.2.1) (hl : ls.size = 4) (hc : cells + c2 ≤ 600000) (hs : slots + m2 ≤ 7302250) (hd : decode cL_law pc = .ok (.invokespecial idx, 3))
    (hW : gW G ws s Hc) (hz : Hc.size = G.2.1 + ws.length) (hS : va_S (lA s) s.heap Hc locs)
    (kk : ∀ (H1 : Heap) (locs1 : List Loc), gW G ws2 s H1 → va_S (lA s) s.heap H1 locs1 → (∀ q : Nat, q < Hc.size → q < G.2.1 → H1[q]? = Hc[q]?) → W p l e room_1 s m #[Value.ref b] below meth c H1 locs1 (cells + c2) (slots + m2) Q (F0 m (pc + 3) ls st)) : W p l e room_1 s m #[Value.ref b] below meth c Hc locs cells slots Q (F0 m pc ls st0) := by
  have hts := S.2.2.2.2
  have run := va_runI (R := room_1) (e := e) (below := below) (meth := meth) (locs := locs) (cells := cells) (slots := slots) (g := F0 m pc ls st0) (b := bb) (As := []) (rest := st) S hM ⟨callB_of 0 hts (hp_goodIn (fun _ h => h) hy.1) rfl rfl rfl (hts _ hy.2.1) (hts _ hlink) hy.2.2 ⟨by show d2 + 1 ≤ 2048; omega, by show 8 + (ny + 11) + 64 * d2 ≤ 84000; omega⟩, hyn, hts _ hinst⟩ (g_pre hW hz) rfl rfl hl hst (lv_room h8) hd ⟨hc, hs⟩
  intro T hTh X
  obtain ⟨v2, st₀, t, T', L2, h9, X', hL, e1, e2, ⟨⟨hv, hw⟩, hf1, hf2⟩, go⟩ := run T hTh X
  cases hv
  rw [h9] at hf1 hf2
  have hal : s.vm.Alike t.vm := by rw [← e2]; exact X'.warmed.alike
  have hS1 : va_S (lA s) s.heap T'.heap (locs ++ L2) := ⟨Nat.le_trans hS.1 (by rw [e1]; exact hf1), fun q h1 h2 => by rw [e1, hf2 q (Nat.lt_of_lt_of_le h1 hS.1) (fun z => h2 (Nat.le_trans hG z))]; exact hS.2.1 q h1 h2, fun q hq => by
    rcases List.mem_append.mp hq with h | h
    · exact hS.2.2 q h
    · exact Nat.le_trans hG (hL q h)⟩
  have hW1 : gW G ws2 s T'.heap := by
    rw [e1]
    exact ⟨hw.1, va_K.moved hal.symm hw.2.1, hW.2.2⟩
  obtain ⟨t2, a1, b1⟩ := kk T'.heap (locs ++ L2) hW1 hS1 (fun q h1 h2 => by rw [e1]; exact hf2 q h1 (fun z => by have z : G.2.1 ≤ q := z; omega)) T' rfl X'
  exact ⟨t2, go t2 a1, b1⟩
theorem post_len (G : hp_G) : (c_post G).length = 244 := by
  show (p_8 G ++ ga G 2 2 230 7 :: c_towns G 230 2).length + 1 = 244
  rw [List.length_append, p_8l, List.length_cons, c_towns_len]
set_option maxHeartbeats 4000000 in
/-- THE LAW, from its entry -/
theorem whole_start {p : Program} {e : Env} {s : State} {m : MethodId} {below : List Frame} {meth : Method} {c : Code} (l : Launch) (hflags : l.flags = flags0) {b L : Nat} {xs : Nat → Int32} (hL : L ≤ 448) (C0 : lw_At p s m meth c b L xs) : W p l e room_1 s m #[Value.ref b] below meth c s.heap [] 0 0 (lw_Z below #[Value.ref b] s) (entryFrame m ([Value.ref b] : List Value).toArray 4) := by
  obtain ⟨hx, hb, hr, hml, hown, hts0, hX, hbl, hlocks, hgv⟩ := id C0
  have hts : ∀ w ∈ hp_tb, w.before #[Value.ref b] s = true := fun w hw => hts0 w (List.mem_filter.mp hw).1
  obtain ⟨D, hD⟩ := cls_start hts
  have hN := gN_start hts0
  obtain ⟨a0, hi1, hi2⟩ := arr_start (ty := .int) (fun C q => by cases q) (hts _ wa_int)
  obtain ⟨a1, hz1, hz2⟩ := arr_start (ty := .boolean) (fun C q => by cases q) (hts _ wa_bool)
  obtain ⟨a2, ht1, ht2⟩ := town_start hN.2.1
  obtain ⟨a3, hr1, hr2⟩ := rows_start hN.2.2
  obtain ⟨t1, z1, y1⟩ := st_1 hts0 hgv
  obtain ⟨t2, z2, y2⟩ := st_2 hts0 hgv
  obtain ⟨t3, z3, y3⟩ := st_3 hts0 hgv
  have mk : ∃ (ty st : Nat → Nat), ty 0 = a0 ∧ ty 1 = a1 ∧ ty 2 = a2 ∧ ty 3 = a3 ∧ st 1 = t1 ∧ st 2 = t2 ∧ st 3 = t3 := ⟨fun k => if k = 0 then a0 else if k = 1 then a1 else if k = 2 then a2 else a3, fun k => if k = 1 then t1 else if k = 2 then t2 else t3, rfl, rfl, rfl, rfl, rfl, rfl, rfl⟩
  obtain ⟨ty, sta, e0, e1, e2, e3, f1, f2, f3⟩ := mk
  obtain ⟨Gc, hGc⟩ : ∃ G : hp_G, G = (D, s.heap.size, ty, sta, hp_shc) := ⟨_, rfl⟩
  obtain ⟨Gm, hGm⟩ : ∃ G : hp_G, G = (D, s.heap.size + 244, ty, sta, hp_shm) := ⟨_, rfl⟩
  have cD : Gc.1 = D := by rw [hGc]
  have cB : Gc.2.1 = s.heap.size := by rw [hGc]
  have cS : hp_sh Gc = hp_shc := by rw [hGc]; rfl
  have mD : Gm.1 = D := by rw [hGm]
  have mB : Gm.2.1 = s.heap.size + 244 := by rw [hGm]
  have mS : hp_sh Gm = hp_shm := by rw [hGm]; rfl
  have hstat : ∀ k : Nat, 1 ≤ k → k ≤ 3 → va_Z "HeelPost$Asks" (hp_sn k) "[I" (.ref (sta k)) (lA s) s s.heap ∧ va_T .int (sta k) 6 (fun j => .int (hp_I (hp_tab (-(k : Int)) (j : Int)))) (lA s) s s.heap := fun k k1 k3 => by
    match k, k1, k3 with
    | 1, _, _ => rw [f1]; exact ⟨z1, y1⟩
    | 2, _, _ => rw [f2]; exact ⟨z2, y2⟩
    | 3, _, _ => rw [f3]; exact ⟨z3, y3⟩
  have hnest := nest_start hts0
  have Sc : hp_St Gc s s.heap := st_narrow (by omega) (by rw [hGc]; exact hstat) hnest
  have Sm : hp_St Gm s s.heap := st_narrow (by omega) (by rw [hGm]; exact hstat) hnest
  have htys : ∀ (k : Nat) (q : ClassId × FieldType), [(ty 0, FieldType.int), (ty 1, .boolean), (ty 2, .object "HeelPost$Town"), (ty 3, .array .int)][k]? = some q → ArrOfT s q.1 q.2 ∧ va_RA s q.1 q.2 := fun k q hq => by
    match k, hq with
    | 0, hq => cases hq; rw [e0]; exact ⟨hi1, hi2⟩
    | 1, hq => cases hq; rw [e1]; exact ⟨hz1, hz2⟩
    | 2, hq => cases hq; rw [e2]; exact ⟨ht1, ht2⟩
    | 3, hq => cases hq; rw [e3]; exact ⟨hr1, hr2⟩
    | k + 4, hq => simp at hq
  have Kc : va_K Gc.1 vwCl (hp_tys Gc) s := by rw [hGc]; exact ⟨hD, htys⟩
  have Km : va_K Gm.1 vwCl (hp_tys Gm) s := by rw [hGm]; exact ⟨hD, htys⟩
  have S : CallFix p m c cL_law 4 s #[Value.ref b] hp_tb "HeelPostLaw" := ⟨hx, hb, hml, hown, hts⟩
  have X : lx p s m meth c b L xs Gc Gm := ⟨C0, hL, cS, mS, cB, mB, Sc, Sm⟩
  have hA : ∀ q : Nat, s.heap.size ≤ q → lA s q := fun _ h => h
  have hl := lv_entry ([.ref b]) (n := 4) (Nat.le_of_ble_eq_true rfl)
  rw [lg_entry_eq]
  generalize (lg_sl ([.ref b]) ++ List.replicate (4 - (lg_sl ([.ref b])).length) Slot.unset).toArray = ls at hl ⊢
  have hl : lv_has ls 4 [(0, .ref b)] := hl
  have hS0 : va_S (lA s) s.heap s.heap [] := va_S.rf
  have hP0 : va_P Gc.1 vwCl (gw Gc.2.1 []) s.heap := fun k q h => by simp [gw] at h
  have hDA : ∀ ws : List va_E, va_D (lA s) (gw Gc.2.1 ws) := fun ws => by
    have := gw_D Gc.2.1 ws
    rw [cB] at this
    rw [cB]
    exact this
  -- the class's object
  refine va_new (D := Gc.1) (A := lA s) (ci := 7) (fs := fr7) (C := RX7) (T := TX7) (N := 11) hx hb hts in_X7 tyX7 tyX7_ok hown (hts _ wk_13) (hts _ inst_X7) (hts _ cal_X7_init.2.1) Kc hP0 (hDA []) hS0 hA rfl df_X7 (Nat.le_of_ble_eq_true rfl) (Nat.le_of_ble_eq_true rfl) dL_law_0 (fun q H1 hP1 hD1 hS1 => ?_)
  refine g_size (fun hsz => ?_)
  have hq1 : q < H1.size := (hP1 0 (q, .inr (7, fr7)) rfl).lt
  have ea : q = Gc.2.1 + 0 := g_addr (ws := []) (n := 0) rfl (by rw [cB]; rw [cB] at hD1; exact hD1) (by omega)
  subst ea
  have hP1 : va_P Gc.1 vwCl (gw Gc.2.1 ([] ++ [.inr (7, fr7)])) H1 := hP1
  refine lv_dup hx hb dL_law_3 rfl ?_
  refine l_ctor (G := Gc) (bb := Gc.2.1 + 0) (st := [.ref (Gc.2.1 + 0)]) S c_X7 cal_X7_init rfl ins_X7_init wm_15 (by decide) (by decide) rfl (Nat.le_of_ble_eq_true rfl) (by omega) hl.1 (Nat.le_of_ble_eq_true rfl) (Nat.le_of_ble_eq_true rfl) dL_law_4 ⟨hP1, Kc, hN⟩ (by show H1.size = Gc.2.1 + 1; omega) hS1 (fun H2 locs2 hW2 hS2 hk2 => ?_)
  refine lv_astore_n (lv' := [(1, .ref (Gc.2.1 + 0)), (0, .ref b)]) hx hb dL_law_7 rfl hl (by decide) rfl (fun ls hl => ?_)
  -- the reference's object
  refine va_new (D := Gc.1) (A := lA s) (ci := 8) (fs := fr8) (C := RX8) (T := TX8) (N := 26) hx hb hts in_X8 tyX8 tyX8_ok hown (hts _ wk_851) (hts _ inst_X8) (hts _ cal_X8_init.2.1) Kc hW2.1 (hDA _) hS2 hA rfl df_X8 (Nat.le_of_ble_eq_true rfl) (Nat.le_of_ble_eq_true rfl) dL_law_8 (fun q H3 hP3 hD3 hS3 => ?_)
  refine g_size (fun hsz3 => ?_)
  have hlen : ([] ++ c_post Gc).length = 244 := post_len Gc
  have hat : (gw Gc.2.1 ([] ++ c_post Gc) ++ [(q, Sum.inr (8, fr8))])[244]? = some (q, .inr (8, fr8)) := by
    rw [List.getElem?_append_right (by rw [gw_len, hlen]; exact Nat.le_refl _), gw_len, hlen]
    rfl
  have hq3 : q < H3.size := (hP3 244 (q, .inr (8, fr8)) hat).lt
  have ea : q = Gc.2.1 + 244 := g_addr (n := 244) hlen (by rw [cB]; rw [cB] at hD3; exact hD3) (by omega)
  subst ea
  have eB : Gc.2.1 + 244 = Gm.2.1 + 0 := by omega
  have hPm : va_P Gm.1 vwCl (gw Gm.2.1 ([] ++ [.inr (8, fr8)])) H3 := by
    intro k x hk
    have hk0 : k < 1 := (List.getElem?_eq_some_iff.mp hk).1
    have : k = 0 := by omega
    subst this
    cases hk
    rw [mD, ← cD]
    show va_at Gc.1 vwCl (Gm.2.1 + 0, .inr (8, fr8)) H3
    rw [← eB]
    exact hP3 244 _ hat
  have hPc : va_P Gc.1 vwCl (gw Gc.2.1 ([] ++ c_post Gc)) H3 := fun k x hk => hP3 k x (by rw [List.getElem?_append_left (List.getElem?_eq_some_iff.mp hk).1]; exact hk)
  rw [eB]
  refine lv_dup hx hb dL_law_11 rfl ?_
  refine l_ctor (G := Gm) (bb := Gm.2.1 + 0) (st := [.ref (Gm.2.1 + 0)]) S c_X8 cal_X8_init rfl ins_X8_init wm_853 (by decide) (by decide) rfl (Nat.le_of_ble_eq_true rfl) (by omega) hl.1 (Nat.le_of_ble_eq_true rfl) (Nat.le_of_ble_eq_true rfl) dL_law_12 ⟨hPm, Km, hN⟩ (by show H3.size = Gm.2.1 + 1; omega) hS3 (fun H4 locs4 hW4 hS4 hk4 => ?_)
  refine lv_astore_n (lv' := [(2, .ref (Gm.2.1 + 0)), (1, .ref (Gc.2.1 + 0)), (0, .ref b)]) hx hb dL_law_15 rfl hl (by decide) rfl (fun ls hl => ?_)
  refine lv_iconst (v := hp_I 0) hx hb dL_law_16 rfl ?_
  refine lv_istore_n (lv' := [(3, .int (hp_I 0)), (2, .ref (Gm.2.1 + 0)), (1, .ref (Gc.2.1 + 0)), (0, .ref b)]) hx hb dL_law_17 rfl hl (by decide) rfl (fun ls hl => ?_)
  have hPc4 : va_P Gc.1 vwCl (gw Gc.2.1 ([] ++ c_post Gc)) H4 := hPc.kept (fun k x hk => by
    have h1 := (gw_at hk).1
    have h2 := (List.getElem?_eq_some_iff.mp hk).1
    rw [gw_len, hlen] at h2
    exact hk4 x.1 ((hPc k x hk).lt) (by omega))
  have Sc4 : hp_St Gc s H4 := Sc.kept (fun a h1 h2 => hS4.2.1 a h1 (fun z => by have z : s.heap.size ≤ a := z; omega))
  have Sm4 : hp_St Gm s H4 := Sm.kept (fun a h1 h2 => hS4.2.1 a h1 (fun z => by have z : s.heap.size ≤ a := z; omega))
  have hWc : hp_W Gc H0c s H4 := hp_W_of (ws := [] ++ c_post Gc) (by rw [cS]; exact post_cl Gc) ⟨hPc4, Kc, hN⟩ Sc4
  have hWm : hp_W Gm H0m s H4 := hp_W_of (ws := [] ++ c_model Gm) (by rw [mS]; exact c_model_cl Gm) hW4 Sm4
  exact l_loop X (L + 9) 0 H0c H0m (by omega) (by omega) iv0 in0c in0m H4 locs4 ls hWc hWm hS4 hl
