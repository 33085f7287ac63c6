/-! THE CLAIM OUT OF ONE WALK OF THE LAW'S BODY. Your part is whole_start (and what it stands on); all else here is the same for every law, but numbers. -/
def R_law : String := "HeelPostLaw"
def lw_P (b : Addr) (xs : List Int32) (args : Array Value) (s : State) : Prop := args = #[.ref b] ∧ s.IntsAt b xs ∧ xs.length ≤ 448 ∧ (Jvm.Cond.and given_1 narrow_1).before args s = true
def lw_Q (_ : Array Value) (s : State) (o : Outcome) (t : State) : Prop := o = .returned (some (.int 1)) ∧ Framed s o t [] 600000 7302250
def lw_Z (below : List Frame) (a : Array Value) (s : State) : State → Prop := fun t => ∃ o, t.status = .running ∧ Ended t below o ∧ lw_Q a s o t
/-- the law's own end, with 1 on the stack, nothing written that was there before, its room as the claim has it -/
theorem lw_ret {p : Program} {l : Launch} {e : Env} {s : State} {m : MethodId} {below : List Frame} {meth : Method} {c : Code} {b : Nat} (hx : p.tables.exec = Jvm.exec) (hb : c.code = code) (hr : meth.sig.returnType = ret) (hlocks : meth.locks = false) {pc : Nat} {H : Heap} {ls : Array Slot} (hdg : decode code pc = .ok (.ireturn, 1)) : W p l e room_1 s m #[Value.ref b] below meth c H [] 600000 7302250 (lw_Z below #[Value.ref b] s) (F0 m pc ls [.int 1]) := by
  intro T hT X
  obtain ⟨fs, hret, hrun, hended, hW, hframe⟩ := X.leave (v := some (.int 1)) (hlocks := hlocks) (fun h => by rw [hr] at h; cases h)
  have hmeth' : T.vm.method? m = some meth := X.method'
  refine ⟨T.setFrames fs, ?_, .returned (some (.int 1)), hrun, hended, rfl, ⟨_, rfl⟩, hW, hframe⟩
  jvm_step X.here [X.here.top, hx, hb, hdg, hmeth', hr, ret, narrow_b1]
  (try refine ⟨rfl, ?_⟩); (try refine ⟨rfl, ?_⟩)
  first | (intro acts; rw [hret _ acts rfl rfl rfl]) | rw [hret _ _ rfl rfl rfl]
  exact Steps.refl _
/-- what holds at the law's entry: the machine, the code, the tables' words (any of lw_tbl by 'hts w (by decide +kernel)'), the script of L ints xs at the cell b, what the Statement gives of the start (any of its parts by flat_of_before) -/
def lw_At (p : Program) (s : State) (m : MethodId) (meth : Method) (c : Code) (b L : Nat) (xs : Nat → Int32) : Prop :=
  p.tables.exec = Jvm.exec ∧ c.code = code ∧ meth.sig.returnType = ret ∧ c.maxLocals = 4 ∧ s.vm.findClass R_law = some m.cls ∧ (∀ w ∈ lw_tbl, w.before #[Value.ref b] s = true) ∧ va_X b L xs s s.heap ∧ b < s.heap.size ∧ meth.locks = false ∧ (Jvm.Cond.and given_1 narrow_1).before #[Value.ref b] s = true
/-! at the start -/
theorem iv0 : iv H0c H0m := by
  have c0 : ∀ a j, a ≠ 11 → H0c a j = 0 := fun a j h => if_neg h
  have m0 : ∀ a j, a ≠ 1 → H0m a j = 0 := fun a j h => if_neg h
  refine ⟨⟨⟨?_, ?_, ?_, ?_, ?_, ?_, fun l l0 l4 => ?_, fun l l0 l4 ho => ?_, fun p p0 pm => ?_⟩, Or.inr (fun k _ _ => m0 4 k (by omega))⟩, fun k _ => ⟨m0 4 k (by omega), m0 6 k (by omega)⟩, ⟨?_, ?_, ?_, fun i i0 i1 => ?_⟩, fun k k0 k1 => Or.inl ⟨m0 12 k (by omega), c0 _ _ (by omega)⟩, fun r r0 r1 => ⟨?_, ?_, fun q => ?_, ?_, fun i i0 i1 => ?_⟩, ⟨?_, ?_, fun i i0 i1 => ?_⟩, ⟨?_, ?_⟩, ⟨?_, ?_, fun i i0 i1 => ?_⟩⟩
  · rw [c0 _ _ (by omega), m0 _ _ (by omega)]
  · rw [c0 _ _ (by omega), m0 _ _ (by omega)]
  · rw [c0 _ _ (by omega), m0 _ _ (by omega)]
  · rw [c0 _ _ (by omega), m0 _ _ (by omega)]
  · rw [c0 _ _ (by omega), m0 _ _ (by omega)]
  · rw [c0 _ _ (by omega)]; omega
  · rw [c0 _ _ (by omega), m0 _ _ (by omega), bi_0]; simp
  · rw [m0 _ _ (by omega)] at ho; omega
  · rw [m0 _ _ (by omega)] at pm; omega
  · rw [c0 _ _ (by omega), m0 _ _ (by omega)]
  · rw [m0 _ _ (by omega)]; omega
  · rw [c0 _ _ (by omega)]; omega
  · rw [m0 _ _ (by omega)] at i1; omega
  · rfl
  · have : H0m 1 r = -1 := rfl
    omega
  · have : H0m 1 r = -1 := rfl
    omega
  · rw [m0 _ _ (by omega)]; omega
  · rw [c0 _ _ (by omega), m0 _ _ (by omega)]
  · rw [c0 _ _ (by omega), m0 _ _ (by omega)]
  · rw [m0 _ _ (by omega)]; omega
  · rw [m0 _ _ (by omega)] at i1; omega
  · rw [c0 _ _ (by omega), m0 _ _ (by omega)]
  · rw [c0 _ _ (by omega), m0 _ _ (by omega)]
  · rw [c0 _ _ (by omega), m0 _ _ (by omega)]
  · rw [m0 _ _ (by omega)]; omega
  · rw [m0 _ _ (by omega)] at i1; omega
theorem in0c : hp_in H0c := fun a j => by unfold H0c; exact hp_rite (hp_rc rfl) (hp_rc rfl)
theorem in0m : hp_in H0m := fun a j => by unfold H0m; exact hp_rite (hp_rc rfl) (hp_rc rfl)
/-! the law's own walk -/
def lX (xs : Nat → Int32) (j : Nat) : Int := (xs j).toInt
def lA (s : State) : Nat → Prop := fun q => s.heap.size ≤ q
def lx (p : Program) (s : State) (m : MethodId) (meth : Method) (c : Code) (b L : Nat) (xs : Nat → Int32) (Gc Gm : hp_G) : Prop :=
  lw_At p s m meth c b L xs ∧ L ≤ 448 ∧ hp_sh Gc = hp_shc ∧ hp_sh Gm = hp_shm ∧ Gc.2.1 = s.heap.size ∧ Gm.2.1 = s.heap.size + 244 ∧ hp_St Gc s s.heap ∧ hp_St Gm s s.heap
def lr (l : Launch) (p : Program) (e : Env) (s : State) (m : MethodId) (below : List Frame) (meth : Method) (c : Code) (b : Nat) (Gc Gm : hp_G) (pc : Nat) (i : Nat) (st : List Value) (C M : hp_H) : Prop :=
  ∀ (Hc : Heap) (locs : List Loc) (ls : Array Slot), hp_W Gc C s Hc → hp_W Gm M s Hc → va_S (lA s) s.heap Hc locs → lv_has ls 4 [(3, .int (hp_I (i : Int))), (2, .ref (hp_ad Gm 0)), (1, .ref (hp_ad Gc 0)), (0, .ref b)] →
    W p l e room_1 s m #[Value.ref b] below meth c Hc locs 259 5187 (lw_Z below #[Value.ref b] s) (F0 m pc ls st)
section LR
variable {l : Launch} {p : Program} {e : Env} {s : State} {m : MethodId} {below : List Frame} {meth : Method} {c : Code} {b L : Nat} {xs : Nat → Int32} {Gc Gm : hp_G} {pc i : Nat} {st st0 : List Value} {C M C' M' : hp_H}
theorem lx_ts (X : lx p s m meth c b L xs Gc Gm) : ∀ w ∈ hp_tb, w.before #[Value.ref b] s = true := fun w hw => X.1.2.2.2.2.2.1 w (List.mem_filter.mp hw).1
theorem l_aload1 (X : lx p s m meth c b L xs Gc Gm) (hd : decode cL_law pc = .ok (.aload_n 1, 1)) (k : lr l p e s m below meth c b Gc Gm (pc + 1) i (.ref (hp_ad Gc 0) :: st) C M) : lr l p e s m below meth c b Gc Gm pc i st C M := by
  intro Hc locs ls hWc hWm hS hl
  exact lv_aload_n X.1.1 X.1.2.1 hd rfl (lv_at hl 2 rfl) (k Hc locs ls hWc hWm hS hl)
theorem l_aload2 (X : lx p s m meth c b L xs Gc Gm) (hd : decode cL_law pc = .ok (.aload_n 2, 1)) (k : lr l p e s m below meth c b Gc Gm (pc + 1) i (.ref (hp_ad Gm 0) :: st) C M) : lr l p e s m below meth c b Gc Gm pc i st C M := by
  intro Hc locs ls hWc hWm hS hl
  exact lv_aload_n X.1.1 X.1.2.1 hd rfl (lv_at hl 1 rfl) (k Hc locs ls hWc hWm hS hl)
theorem l_sld (X : lx p s m meth c b L xs Gc Gm) {j : Nat} (hj : j < L) (hd : decode cL_law pc = .ok (.iaload, 1)) (k : lr l p e s m below meth c b Gc Gm (pc + 1) i (.int (hp_I (lX xs j)) :: st) C M) : lr l p e s m below meth c b Gc Gm pc i (.int (hp_I (j : Int)) :: .ref b :: st) C M := by
  intro Hc locs ls hWc hWm hS hl
  have hL := X.2.1
  obtain ⟨h1, h2⟩ := hp_ix (i := (j : Int)) (n := L) ⟨by omega, by omega⟩ (by omega)
  have k9 := k Hc locs ls hWc hWm hS hl
  unfold lX at k9
  rw [hp_Io] at k9
  refine va_sld X.1.1 X.1.2.1 X.1.2.2.2.2.2.2.1 X.1.2.2.2.2.2.2.2.1 (A := lA s) (fun q => by have := X.1.2.2.2.2.2.2.2.1; have q : s.heap.size ≤ b := q; omega) hS h1 hd ?_
  rw [h2, Int.toNat_natCast]
  exact k9
theorem l_arg (X : lx p s m meth c b L xs Gc Gm) {n : Int} (k : Nat) (hi : i + 7 ≤ L) (hk : k < 7) (hn : n = (k : Int)) (d0 : decode cL_law pc = .ok (.aload_n 0, 1)) (d1 : decode cL_law (pc + 1) = .ok (.iload_n 3, 1)) (d2 : decode cL_law (pc + 2) = .ok (.iconst n, 1)) (d3 : decode cL_law (pc + 3) = .ok (.iadd, 1)) (d4 : decode cL_law (pc + 4) = .ok (.iaload, 1)) (kk : lr l p e s m below meth c b Gc Gm (pc + 5) i (.int (hp_I (lX xs (i + k))) :: st) C M) : lr l p e s m below meth c b Gc Gm pc i st C M := by
  intro Hc locs ls hWc hWm hS hl
  have hL := X.2.1
  refine lv_aload_n X.1.1 X.1.2.1 d0 rfl (lv_at hl 3 rfl) ?_
  refine lv_iload_n X.1.1 X.1.2.1 d1 rfl (lv_at hl 0 rfl) ?_
  refine lv_iconst (v := hp_I n) X.1.1 X.1.2.1 d2 rfl ?_
  refine lv_iadd X.1.1 X.1.2.1 d3 ?_
  rw [hp_add, pu_w (by omega), show (i : Int) + n = ((i + k : Nat) : Int) by omega]
  exact l_sld X (by omega) d4 kk Hc locs ls hWc hWm hS hl
theorem l_arg6 (X : lx p s m meth c b L xs Gc Gm) (hi : i + 7 ≤ L) (d0 : decode cL_law pc = .ok (.aload_n 0, 1)) (d1 : decode cL_law (pc + 1) = .ok (.iload_n 3, 1)) (d2 : decode cL_law (pc + 2) = .ok (.bipush 6, 2)) (d3 : decode cL_law (pc + 4) = .ok (.iadd, 1)) (d4 : decode cL_law (pc + 5) = .ok (.iaload, 1)) (kk : lr l p e s m below meth c b Gc Gm (pc + 6) i (.int (hp_I (lX xs (i + 6))) :: st) C M) : lr l p e s m below meth c b Gc Gm pc i st C M := by
  intro Hc locs ls hWc hWm hS hl
  have hL := X.2.1
  refine lv_aload_n X.1.1 X.1.2.1 d0 rfl (lv_at hl 3 rfl) ?_
  refine lv_iload_n X.1.1 X.1.2.1 d1 rfl (lv_at hl 0 rfl) ?_
  refine lv_bipush (v := hp_I 6) X.1.1 X.1.2.1 d2 rfl ?_
  refine lv_iadd X.1.1 X.1.2.1 d3 ?_
  rw [hp_add, pu_w (by omega), show (i : Int) + 6 = ((i + 6 : Nat) : Int) by omega]
  exact l_sld X (by omega) d4 kk Hc locs ls hWc hWm hS hl
theorem shc_len : hp_shc.length = 244 := by decide +kernel
/-- what the other side's call leaves -/
theorem hp_W.keptA {G : hp_G} {H : hp_H} {A : Nat → Prop} {Hc H1 : Heap} (h : hp_W G H s Hc) (hT : hp_St G s H1) (hA : ∀ q, hp_A G q → ¬ A q) (hk : ∀ q : Nat, q < Hc.size → ¬ A q → H1[q]? = Hc[q]?) : hp_W G H s H1 :=
  ⟨h.1.kept (fun k x hx => hk x.1 ((h.1 k x hx).lt) (hA _ (h.2.2.1.2 k x hx))), h.2.1, h.2.2.1, hT⟩
theorem l_callC (X : lx p s m meth c b L xs Gc Gm) {y : MethodName} {cy : ByteArray} {ny n idx d2 : Nat} {ry : Option FieldType} {As : List Value} {v1 : Option Value} {Z1 : Prop} (hM : hp_M Gc l y cy ny ry (hp_rm d2) (.ref (hp_ad Gc 0) :: As) C v1 C' Z1) (hy : hp_cal y cy ny ry n) (hyC : y.cls = "HeelPost") (hinst : Cond.instanceMethod y ∈ hp_tb) (hsel : Cond.selects "HeelPost" y y ∈ hp_tb) (hlink : Cond.methodLink "HeelPostLaw" idx y ∈ hp_tb) (hd2 : d2 ≤ 60) (hny : ny ≤ 100) (hn : As.length = n) (hst : st0 = As.reverse ++ .ref (hp_ad Gc 0) :: st) (h8 : (st.map fun v => v.category).sum ≤ 8) (hd : decode cL_law pc = .ok (.invokevirtual idx, 3))
    (kk : Z1 → lr l p e s m below meth c b Gc Gm (pc + 3) i (v1.toList ++ st) C' M) : lr l p e s m below meth c b Gc Gm pc i st0 C M := by
  intro Hc locs ls hWc hWm hS hl
  have hts := lx_ts X
  have he : (hp_ws Gc C)[(0 : Int).toNat]? = some (hp_ad Gc 0, .inr (7, _)) := hp_wsg (sh := (0, 7, _)) (sc_0 X.2.2.1) (by decide)
  have hpr := hp_pre (As := .ref (hp_ad Gc 0) :: As) hWc
  have run := va_runV (R := room_1) (e := e) (below := below) (meth := meth) (locs := locs) (g := F0 m pc ls st0) (As := As) (rest := st) (C := "HeelPost") (cells := 259) (slots := 5187) ⟨X.1.1, X.1.2.1, X.1.2.2.2.1, X.1.2.2.2.2.1, hts⟩ hM ⟨callB_of n hts (hp_goodIn (fun _ h => h) hy.1) rfl rfl rfl (hts _ hy.2.1) (hts _ hlink) hy.2.2 ⟨by show d2 + 1 ≤ 2048; omega, by show 8 + (ny + 11) + 64 * d2 ≤ 84000; omega⟩, hts _ hinst, hts _ hsel⟩ ⟨hpr.1, va_recv hWc.2.1 hWc.1 (ci := 7) (q := (RX7, TX7, 11)) rfl he, hpr.2⟩ rfl hn hl.1 hst (lv_room h8) hd ⟨Nat.le_of_ble_eq_true rfl, Nat.le_of_ble_eq_true rfl⟩
  intro T hTh Xs
  obtain ⟨v2, st₀, t, T', L2, h0, X', hL, e1, e2, ⟨⟨hv, hz, hw⟩, hf1, hf2⟩, go⟩ := run T hTh Xs
  cases hv
  rw [h0] at hf1 hf2
  have hB1 := X.2.2.2.2.1
  have hB2 := X.2.2.2.2.2.1
  have hal : s.vm.Alike t.vm := by rw [← e2]; exact X'.warmed.alike
  have hAc : ∀ q, hp_A Gc q → s.heap.size ≤ q ∧ q < s.heap.size + 244 := fun q hq => by
    have h1 := hq.1
    have h2 := hq.2
    rw [X.2.2.1, shc_len] at h2
    omega
  have hS1 : va_S (lA s) s.heap T'.heap (locs ++ L2) := ⟨Nat.le_trans hS.1 (by rw [e1]; exact hf1), fun q h1 h2 => by rw [e1, hf2 q (Nat.lt_of_lt_of_le h1 hS.1) (fun z => h2 (hAc q z).1)]; exact hS.2.1 q h1 h2, fun q hq => by
    rcases List.mem_append.mp hq with h | h
    · exact hS.2.2 q h
    · exact (hAc _ (hL q h)).1⟩
  have hTc : hp_St Gc s T'.heap := X.2.2.2.2.2.2.1.kept (fun a h1 h2 => hS1.2.1 a h1 (fun z => by have z : s.heap.size ≤ a := z; omega))
  have hTm : hp_St Gm s T'.heap := X.2.2.2.2.2.2.2.kept (fun a h1 h2 => hS1.2.1 a h1 (fun z => by have z : s.heap.size ≤ a := z; omega))
  have hWc1 : hp_W Gc C' s T'.heap := by
    refine ⟨?_, va_K.moved hal.symm hw.2.1, hw.2.2.1, hTc⟩
    rw [e1]
    exact hw.1
  have hWm1 : hp_W Gm M s T'.heap := hWm.keptA hTm (A := hp_A Gc) (fun q hq z => by have := (hAc q z).2; have := hq.1; omega) (fun q h1 h2 => by rw [e1]; exact hf2 q h1 h2)
  obtain ⟨t2, a1, b1⟩ := kk hz T'.heap (locs ++ L2) ls hWc1 hWm1 hS1 hl T' rfl X'
  exact ⟨t2, go t2 a1, b1⟩
theorem l_callM (X : lx p s m meth c b L xs Gc Gm) {y : MethodName} {cy : ByteArray} {ny n idx d2 : Nat} {ry : Option FieldType} {As : List Value} {v1 : Option Value} {Z1 : Prop} (hM : hp_M Gm l y cy ny ry (hp_rm d2) (.ref (hp_ad Gm 0) :: As) M v1 M' Z1) (hy : hp_cal y cy ny ry n) (hyC : y.cls = "HeelPostModel") (hinst : Cond.instanceMethod y ∈ hp_tb) (hsel : Cond.selects "HeelPostModel" y y ∈ hp_tb) (hlink : Cond.methodLink "HeelPostLaw" idx y ∈ hp_tb) (hd2 : d2 ≤ 60) (hny : ny ≤ 100) (hn : As.length = n) (hst : st0 = As.reverse ++ .ref (hp_ad Gm 0) :: st) (h8 : (st.map fun v => v.category).sum ≤ 8) (hd : decode cL_law pc = .ok (.invokevirtual idx, 3))
    (kk : Z1 → lr l p e s m below meth c b Gc Gm (pc + 3) i (v1.toList ++ st) C M') : lr l p e s m below meth c b Gc Gm pc i st0 C M := by
  intro Hc locs ls hWc hWm hS hl
  have hts := lx_ts X
  have he : (hp_ws Gm M)[(0 : Int).toNat]? = some (hp_ad Gm 0, .inr (8, _)) := hp_wsg (sh := (0, 8, _)) (sm_0 X.2.2.2.1) (by decide)
  have hpr := hp_pre (As := .ref (hp_ad Gm 0) :: As) hWm
  have run := va_runV (R := room_1) (e := e) (below := below) (meth := meth) (locs := locs) (g := F0 m pc ls st0) (As := As) (rest := st) (C := "HeelPostModel") (cells := 259) (slots := 5187) ⟨X.1.1, X.1.2.1, X.1.2.2.2.1, X.1.2.2.2.2.1, hts⟩ hM ⟨callB_of n hts (hp_goodIn (fun _ h => h) hy.1) rfl rfl rfl (hts _ hy.2.1) (hts _ hlink) hy.2.2 ⟨by show d2 + 1 ≤ 2048; omega, by show 8 + (ny + 11) + 64 * d2 ≤ 84000; omega⟩, hts _ hinst, hts _ hsel⟩ ⟨hpr.1, va_recv hWm.2.1 hWm.1 (ci := 8) (q := (RX8, TX8, 26)) rfl he, hpr.2⟩ rfl hn hl.1 hst (lv_room h8) hd ⟨Nat.le_of_ble_eq_true rfl, Nat.le_of_ble_eq_true rfl⟩
  intro T hTh Xs
  obtain ⟨v2, st₀, t, T', L2, h0, X', hL, e1, e2, ⟨⟨hv, hz, hw⟩, hf1, hf2⟩, go⟩ := run T hTh Xs
  cases hv
  rw [h0] at hf1 hf2
  have hB1 := X.2.2.2.2.1
  have hB2 := X.2.2.2.2.2.1
  have hal : s.vm.Alike t.vm := by rw [← e2]; exact X'.warmed.alike
  have hAm : ∀ q, hp_A Gm q → s.heap.size + 244 ≤ q := fun q hq => by
    have h1 := hq.1
    omega
  have hS1 : va_S (lA s) s.heap T'.heap (locs ++ L2) := ⟨Nat.le_trans hS.1 (by rw [e1]; exact hf1), fun q h1 h2 => by rw [e1, hf2 q (Nat.lt_of_lt_of_le h1 hS.1) (fun z => h2 (show s.heap.size ≤ q by have := hAm q z; omega))]; exact hS.2.1 q h1 h2, fun q hq => by
    rcases List.mem_append.mp hq with h | h
    · exact hS.2.2 q h
    · have := hAm _ (hL q h)
      show s.heap.size ≤ _
      omega⟩
  have hTc : hp_St Gc s T'.heap := X.2.2.2.2.2.2.1.kept (fun a h1 h2 => hS1.2.1 a h1 (fun z => by have z : s.heap.size ≤ a := z; omega))
  have hTm : hp_St Gm s T'.heap := X.2.2.2.2.2.2.2.kept (fun a h1 h2 => hS1.2.1 a h1 (fun z => by have z : s.heap.size ≤ a := z; omega))
  have hWm1 : hp_W Gm M' s T'.heap := by
    refine ⟨?_, va_K.moved hal.symm hw.2.1, hw.2.2.1, hTm⟩
    rw [e1]
    exact hw.1
  have hWc1 : hp_W Gc C s T'.heap := hWc.keptA hTc (A := hp_A Gm) (fun q hq z => by
    have h1 := hAm q z
    have h2 := hq.2
    rw [X.2.2.1, shc_len] at h2
    omega) (fun q h1 h2 => by rw [e1]; exact hf2 q h1 h2)
  obtain ⟨t2, a1, b1⟩ := kk hz T'.heap (locs ++ L2) ls hWc1 hWm1 hS1 hl T' rfl X'
  exact ⟨t2, go t2 a1, b1⟩
theorem l_eq (X : lx p s m meth c b L xs Gc Gm) {x off : Int} (hd : decode cL_law pc = .ok (.if_icmp .eq off, 3)) (ht : (pc : Int) + off = ((1538 : Nat) : Int)) (k : lr l p e s m below meth c b Gc Gm 1538 i [] C M) : lr l p e s m below meth c b Gc Gm pc i [.int (hp_I x), .int (hp_I x)] C M := by
  intro Hc locs ls hWc hWm hS hl
  exact lv_icmp_eq (tgt := 1538) X.1.1 X.1.2.1 hd ht (fun _ => k Hc locs ls hWc hWm hS hl) (fun q => absurd rfl q)
theorem l_eql (X : lx p s m meth c b L xs Gc Gm) {x off : Int} (hr : hp_rl x) (hd0 : decode cL_law pc = .ok (.lcmp, 1)) (hd : decode cL_law (pc + 1) = .ok (.ifCond .eq off, 3)) (ht : ((pc + 1 : Nat) : Int) + off = ((1538 : Nat) : Int)) (k : lr l p e s m below meth c b Gc Gm 1538 i [] C M) : lr l p e s m below meth c b Gc Gm pc i [.long (hp_J x), .long (hp_J x)] C M := by
  intro Hc locs ls hWc hWm hS hl
  refine W.lcmp X.1.1 X.1.2.1 hd0 ?_
  rw [hp_cmp_I hr hr]
  have hz : hp_cmp x x = 0 := by unfold hp_cmp; rw [if_neg (Int.lt_irrefl x), if_pos rfl]
  rw [hz]
  exact lv_if_eq (tgt := 1538) X.1.1 X.1.2.1 hd ht (fun _ => k Hc locs ls hWc hWm hS hl) (fun q => absurd rfl q)
end LR
