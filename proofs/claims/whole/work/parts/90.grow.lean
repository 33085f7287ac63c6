/-! constructors: a world that grows, its cells one behind another from the base on -/
def gw (B : Nat) (ws : List va_E) : va_W := ws.zipIdx.map (fun q => (B + q.2, q.1))
theorem gw_len (B : Nat) (ws : List va_E) : (gw B ws).length = ws.length := by
  unfold gw
  simp
theorem gw_get {B : Nat} {ws : List va_E} {k : Nat} {x : va_E} (h : ws[k]? = some x) : (gw B ws)[k]? = some (B + k, x) := by
  unfold gw
  rw [List.getElem?_map, List.getElem?_zipIdx, h]
  simp
theorem gw_at {B : Nat} {ws : List va_E} {k : Nat} {q : Nat × va_E} (h : (gw B ws)[k]? = some q) : q.1 = B + k ∧ ws[k]? = some q.2 := by
  have hk : k < ws.length := by rw [← gw_len B ws]; exact (List.getElem?_eq_some_iff.mp h).1
  obtain ⟨x, hx⟩ : ∃ x, ws[k]? = some x := ⟨ws[k], List.getElem?_eq_getElem hk⟩
  rw [gw_get hx] at h
  cases h
  exact ⟨rfl, hx⟩
theorem gw_app (B : Nat) (ws : List va_E) (x : va_E) : gw B ws ++ [(B + ws.length, x)] = gw B (ws ++ [x]) := by
  apply List.ext_getElem?
  intro j
  rcases Nat.lt_trichotomy j ws.length with h | h | h
  · rw [List.getElem?_append_left (by rw [gw_len]; exact h), gw_get (x := ws[j]) (List.getElem?_eq_getElem h), gw_get (x := ws[j])]
    rw [List.getElem?_append_left h]
    exact List.getElem?_eq_getElem h
  · subst h
    rw [List.getElem?_append_right (by rw [gw_len]; exact Nat.le_refl _), gw_len, Nat.sub_self, gw_get (x := x) (by rw [List.getElem?_append_right (Nat.le_refl _), Nat.sub_self]; rfl)]
    rfl
  · rw [List.getElem?_eq_none_iff.mpr (by rw [List.length_append, gw_len]; simp; omega), List.getElem?_eq_none_iff.mpr (by rw [gw_len]; simp; omega)]
theorem gw_set {B : Nat} {ws : List va_E} {k : Nat} {x : va_E} (h : k < ws.length) : (gw B ws).set k (B + k, x) = gw B (ws.set k x) := by
  apply List.ext_getElem?
  intro j
  by_cases hj : j = k
  · subst hj
    rw [List.getElem?_set_self (by rw [gw_len]; exact h), gw_get (x := x) (List.getElem?_set_self h)]
  · rw [List.getElem?_set_ne (Ne.symm hj)]
    by_cases hl : j < ws.length
    · rw [gw_get (x := ws[j]) (List.getElem?_eq_getElem hl), gw_get (x := ws[j]) (by rw [List.getElem?_set_ne (Ne.symm hj)]; exact List.getElem?_eq_getElem hl)]
    · rw [List.getElem?_eq_none_iff.mpr (by rw [gw_len]; omega), List.getElem?_eq_none_iff.mpr (by rw [gw_len, List.length_set]; omega)]
theorem gw_D (B : Nat) (ws : List va_E) : va_D (fun q => B ≤ q) (gw B ws) := by
  refine ⟨fun i j p q hp hq he => ?_, fun k q hq => ?_⟩
  · have h1 := (gw_at hp).1
    have h2 := (gw_at hq).1
    omega
  · have h1 := (gw_at hq).1
    show B ≤ q.1
    omega
def gNl : List (String × Nat × MethodName) := [("HeelPost", 18, yX5_init), ("HeelPost", 25, yX6_init), ("HeelPost$Acts", 17, yX6_init), ("HeelPost", 42, yX2_init), ("HeelPost$Foretold", 11, yX6_init), ("HeelPost", 58, yX1_init)]
def gN (U : State) : Prop := (∀ w ∈ gNl, va_Nw (.methodLinkNest w.1 w.2.1 w.2.2 "HeelPost") U) ∧ va_AO "HeelPost$Town" U ∧ va_AOA .int U
theorem aoa_moved {t : FieldType} {u U : State} (hvm : u.vm.Alike U.vm) (h : va_AOA t u) : va_AOA t U := by
  unfold va_AOA Cond.before Cond.holds at h ⊢
  simp only [Cond.value, beq_iff_eq, hvm.findClass] at h ⊢
  cases hc : u.vm.findClass (FieldType.array t).toString with
  | none => simp [hc] at h
  | some comp =>
    simp only [hc, Option.bind_some, Option.bind_eq_some_iff, Option.map_eq_some_iff] at h ⊢
    obtain ⟨c, hi, k, hk, hb⟩ := h
    obtain ⟨k', hk', he⟩ := hvm.2.2 _ _ hk
    have hkind : k'.kind = k.kind := by rw [he]
    refine ⟨c, ?_, k', hk', ?_⟩
    · have h9 := va_idx_bare U.vm comp
      first | rw [hvm.bare_eq] at h9 | rw [← hvm.bare_eq] at h9
      rw [va_idx_bare] at h9
      exact h9.symm.trans hi
    · rw [hkind]
      exact hb
theorem gN.warm {s U : State} (hW : s.WarmedH U.vm) (h : gN s) : gN U := ⟨fun w hw => va_Nw.warmM hW (h.1 w hw), va_AO.moved hW.alike h.2.1, aoa_moved hW.alike h.2.2⟩
theorem gN.same {s U : State} (hv : s.vm = U.vm) (h : gN s) : gN U := ⟨fun w hw => va_Nw.same rfl hv (h.1 w hw), va_AO.moved (hv ▸ Vm.Alike.refl s.vm) h.2.1, aoa_moved (hv ▸ Vm.Alike.refl s.vm) h.2.2⟩
def gA (G : hp_G) : Nat → Prop := fun q => G.2.1 ≤ q
def gW (G : hp_G) (ws : List va_E) (U : State) (Hc : Heap) : Prop := va_P G.1 vwCl (gw G.2.1 ws) Hc ∧ va_K G.1 vwCl (hp_tys G) U ∧ gN U
def g_rm (d c m : Nat) : Room := { frames := d, cells := c, slots := m, locals := 64 * d }
def g_Pc (G : hp_G) (As : List Value) (ws : List va_E) : Array Value → State → Prop := va_Pc As (fun U => U.heap.size = G.2.1 + ws.length ∧ gW G ws U U.heap)
def g_Q (G : hp_G) (ws' : List va_E) : Array Value → State → Outcome → State → Prop := fun _ st o t => (o = .returned none ∧ gW G ws' t t.heap) ∧ va_F (gA G) st t
/-- a constructor's contract -/
def g_M (G : hp_G) (l : Launch) (y : MethodName) (cc : ByteArray) (nL d : Nat) (As : List Value) (ws ws' : List va_E) (c m : Nat) : Prop :=
  Met l y (hp_wd y cc nL none) (g_rm d c m) (g_Pc G As ws) (g_Q G ws') c m (gA G)
def g_R (G : hp_G) (l : Launch) (cc : ByteArray) (nL : Nat) (own : String) (d MC MS n0 : Nat) (fin : List va_E) (pc : Nat) (L : List (Nat × Value)) (st : List Value) (ws : List va_E) (cells slots : Nat) : Prop :=
  ∀ (p : Program) (e : Env) (s : State) (m : MethodId) (args : Array Value) (below : List Frame) (meth : Method) (c : Code), hp_C cc nL none own p s m args meth c → meth.name = "<init>" → s.heap.size = G.2.1 + n0 →
    ∀ (Hc : Heap) (locs : List Loc) (ls : Array Slot), gW G ws s Hc → va_S (gA G) s.heap Hc locs → lv_has ls nL L →
      W p l e (g_rm d MC MS) s m args below meth c Hc locs cells slots (MQ below (g_Q G fin) args s MC MS (gA G)) (F0 m pc ls st)
theorem gW.fin {G : hp_G} {ws : List va_E} {s t : State} {Hc : Heap} (h : gW G ws s Hc) (ht : t.heap = Hc) (hW : s.WarmedH t.vm) : gW G ws t t.heap := by
  rw [ht]
  exact ⟨h.1, va_K.moved hW.alike h.2.1, h.2.2.warm hW⟩
theorem gW.lt {G : hp_G} {ws : List va_E} {s : State} {Hc : Heap} (h : gW G ws s Hc) {k : Nat} (hk : k < ws.length) : G.2.1 + k < Hc.size := (h.1 k _ (gw_get (x := ws[k]) (List.getElem?_eq_getElem hk))).lt
theorem g_blind (G : hp_G) (As : List Value) (ws : List va_E) : FrameBlind (g_Pc G As ws) := by
  intro a U g mk h
  exact ⟨h.1, h.2.1, h.2.2.1, va_K.moved (Vm.Alike.refl U.vm) h.2.2.2.1, h.2.2.2.2.same rfl⟩
theorem g_body {G : hp_G} {l : Launch} {y : MethodName} {cc : ByteArray} {nL d MC MS : Nat} {As : List Value} {ws fin : List va_E} (own : String) (hy : plainName y.cls = true) (ho : y.cls = own) (hn : y.name = "<init>") (hlen : (lg_sl As).length ≤ nL) (k : g_R G l cc nL own d MC MS ws.length fin 0 (lv_args 0 As) [] ws 0 0) : g_M G l y cc nL d As ws fin MC MS := by
  refine Met.ofW (cc := cc) (maxL := nL) (ret := none) hy rfl ?_
  intro p e s m args below meth c s₁ B hml hv
  obtain ⟨rfl, hsz, hW⟩ := hv
  have hts := atoms_spec (ws := hp_wd y cc nL none) B.pre
  have hown : s.vm.findClass own = some m.cls := by rw [← ho]; exact findClass_of_methodNamed B.named
  have hin : meth.name = "<init>" := by rw [← hn]; exact (name_of_methodNamed B.named B.method).1
  have hl := lv_entry As (n := nL) hlen
  rw [lg_entry_eq]
  generalize (lg_sl As ++ List.replicate (nL - (lg_sl As).length) Slot.unset).toArray = ls at hl ⊢
  exact k p e s m As.toArray below meth c ⟨B.exec, B.bytes, B.returns, hml, hown, fun w hw => hts w (List.mem_cons_of_mem _ hw), B.notSynchronized⟩ hin hsz s.heap [] ls hW va_S.rf hl
/-- how many cells there are -/
theorem g_size {p : Program} {l : Launch} {e : Env} {R : Room} {s : State} {m : MethodId} {args : Array Value} {below : List Frame} {meth : Method} {c : Code} {Hc : Heap} {locs : List Loc} {cells slots : Nat} {Q : State → Prop} {g : JFrame} (k : Hc.size ≤ s.heap.size + cells → W p l e R s m args below meth c Hc locs cells slots Q g) : W p l e R s m args below meth c Hc locs cells slots Q g := fun T hT X => k (by rw [← hT]; exact X.heapSize) T hT X
/-- a fresh cell's address -/
theorem g_addr {B n q : Nat} {ws : List va_E} {e : va_E} (hn : ws.length = n) (hD : va_D (fun q => B ≤ q) (gw B ws ++ [(q, e)])) (hq : q < B + n + 1) : q = B + n := by
  have h0 : B ≤ q := hD.2 n (q, e) (by rw [List.getElem?_append_right (by rw [gw_len]; omega), gw_len, hn, Nat.sub_self]; rfl)
  rcases Nat.lt_or_ge q (B + n) with h | h
  · exfalso
    have hk : q - B < ws.length := by omega
    have h1 : (gw B ws ++ [(q, e)])[q - B]? = some (B + (q - B), ws[q - B]) := by
      rw [List.getElem?_append_left (by rw [gw_len]; exact hk)]
      exact gw_get (List.getElem?_eq_getElem hk)
    have h2 : (gw B ws ++ [(q, e)])[n]? = some (q, e) := by
      rw [List.getElem?_append_right (by rw [gw_len]; omega), gw_len, hn, Nat.sub_self]
      rfl
    have := hD.1 _ _ _ _ h1 h2 (by show B + (q - B) = q; omega)
    omega
  · omega
section GR
variable {G : hp_G} {l : Launch} {cc : ByteArray} {nL d MC MS n0 : Nat} {own : String} {fin : List va_E} {pc : Nat} {L L' : List (Nat × Value)} {st : List Value} {ws : List va_E} {cells slots : Nat}
theorem g_iconst {n : Int} (hd : decode cc pc = .ok (.iconst n, 1)) (k : g_R G l cc nL own d MC MS n0 fin (pc + 1) L (.int (hp_I n) :: st) ws cells slots) : g_R G l cc nL own d MC MS n0 fin pc L st ws cells slots := by
  intro p e s m args below meth c hC hi h0 Hc locs ls hW hS hl
  exact lv_iconst hC.1 hC.2.1 hd rfl (k p e s m args below meth c hC hi h0 Hc locs ls hW hS hl)
theorem g_bipush {n : Int} (hv : (Int8.ofInt n).toInt32 = hp_I n) (hd : decode cc pc = .ok (.bipush n, 2)) (k : g_R G l cc nL own d MC MS n0 fin (pc + 2) L (.int (hp_I n) :: st) ws cells slots) : g_R G l cc nL own d MC MS n0 fin pc L st ws cells slots := by
  intro p e s m args below meth c hC hi h0 Hc locs ls hW hS hl
  exact lv_bipush hC.1 hC.2.1 hd hv (k p e s m args below meth c hC hi h0 Hc locs ls hW hS hl)
theorem g_sipush {n : Int} (hv : (Int16.ofInt n).toInt32 = hp_I n) (hd : decode cc pc = .ok (.sipush n, 3)) (k : g_R G l cc nL own d MC MS n0 fin (pc + 3) L (.int (hp_I n) :: st) ws cells slots) : g_R G l cc nL own d MC MS n0 fin pc L st ws cells slots := by
  intro p e s m args below meth c hC hi h0 Hc locs ls hW hS hl
  exact lv_sipush hC.1 hC.2.1 hd hv (k p e s m args below meth c hC hi h0 Hc locs ls hW hS hl)
theorem g_iload_n {i : Fin 4} {x : Int32} (hd : decode cc pc = .ok (.iload_n i, 1)) (j : Nat) (hj : L[j]? = some ((i : Nat), .int x)) (k : g_R G l cc nL own d MC MS n0 fin (pc + 1) L (.int x :: st) ws cells slots) : g_R G l cc nL own d MC MS n0 fin pc L st ws cells slots := by
  intro p e s m args below meth c hC hi h0 Hc locs ls hW hS hl
  exact lv_iload_n hC.1 hC.2.1 hd rfl (lv_at hl j hj) (k p e s m args below meth c hC hi h0 Hc locs ls hW hS hl)
theorem g_istore_n {f : Fin 4} {i : Nat} {x : Int32} (hd : decode cc pc = .ok (.istore_n f, 1)) (hi : (f : Nat) = i) (hn : i < nL) (hL : (i, Value.int x) :: L.filter (fun q => !(q.1 == i) && !(q.1 + 1 == i && q.2.category == 2)) = L') (k : g_R G l cc nL own d MC MS n0 fin (pc + 1) L' st ws cells slots) : g_R G l cc nL own d MC MS n0 fin pc L (.int x :: st) ws cells slots := by
  intro p e s m args below meth c hC hi2 h0 Hc locs ls hW hS hl
  exact lv_istore_n hC.1 hC.2.1 hd hi hl hn hL (fun ls' hl' => k p e s m args below meth c hC hi2 h0 Hc locs ls' hW hS hl')
theorem g_aload_n {i : Fin 4} {x : Nat} (hd : decode cc pc = .ok (.aload_n i, 1)) (j : Nat) (hj : L[j]? = some ((i : Nat), .ref x)) (k : g_R G l cc nL own d MC MS n0 fin (pc + 1) L (.ref x :: st) ws cells slots) : g_R G l cc nL own d MC MS n0 fin pc L st ws cells slots := by
  intro p e s m args below meth c hC hi h0 Hc locs ls hW hS hl
  exact lv_aload_n hC.1 hC.2.1 hd rfl (lv_at hl j hj) (k p e s m args below meth c hC hi h0 Hc locs ls hW hS hl)
theorem g_iinc {i : Nat} {n x : Int} (hd : decode cc pc = .ok (.iinc i n, 3)) (j : Nat) (hj : L[j]? = some (i, .int (hp_I x))) (hn : i < nL) (hL : (i, Value.int (hp_I (hp_w (x + n)))) :: L.filter (fun q => !(q.1 == i) && !(q.1 + 1 == i && q.2.category == 2)) = L') (k : g_R G l cc nL own d MC MS n0 fin (pc + 3) L' st ws cells slots) : g_R G l cc nL own d MC MS n0 fin pc L st ws cells slots := by
  intro p e s m args below meth c hC hi h0 Hc locs ls hW hS hl
  exact lv_iinc hC.1 hC.2.1 hd hl hj (hp_add x n) hn hL (fun ls' hl' => k p e s m args below meth c hC hi h0 Hc locs ls' hW hS hl')
theorem g_dup {w : Value} (hc : w.category = 1) (hd : decode cc pc = .ok (.dup, 1)) (k : g_R G l cc nL own d MC MS n0 fin (pc + 1) L (w :: w :: st) ws cells slots) : g_R G l cc nL own d MC MS n0 fin pc L (w :: st) ws cells slots := by
  intro p e s m args below meth c hC hi h0 Hc locs ls hW hS hl
  exact lv_dup hC.1 hC.2.1 hd hc (k p e s m args below meth c hC hi h0 Hc locs ls hW hS hl)
theorem g_icge {a b off : Int} {tgt : Nat} (hd : decode cc pc = .ok (.if_icmp .ge off, 3)) (ht : (pc : Int) + off = (tgt : Int)) (ha : hp_r a) (hb : hp_r b) (kt : ¬ a < b → g_R G l cc nL own d MC MS n0 fin tgt L st ws cells slots) (kf : a < b → g_R G l cc nL own d MC MS n0 fin (pc + 3) L st ws cells slots) : g_R G l cc nL own d MC MS n0 fin pc L (.int (hp_I b) :: .int (hp_I a) :: st) ws cells slots := by
  intro p e s m args below meth c hC hi h0 Hc locs ls hW hS hl
  have q9 := hp_lt ha hb
  exact lv_icmp_ge hC.1 hC.2.1 hd ht (fun q => kt (fun z => Int32.not_le.mpr (q9.mpr z) q) p e s m args below meth c hC hi h0 Hc locs ls hW hS hl) (fun q => kf (q9.mp (Int32.not_le.mp q)) p e s m args below meth c hC hi h0 Hc locs ls hW hS hl)
theorem g_goto {off : Int} {tgt : Nat} (hd : decode cc pc = .ok (.goto off, 3)) (ht : (pc : Int) + off = (tgt : Int)) (k : g_R G l cc nL own d MC MS n0 fin tgt L st ws cells slots) : g_R G l cc nL own d MC MS n0 fin pc L st ws cells slots := by
  intro p e s m args below meth c hC hi h0 Hc locs ls hW hS hl
  exact lv_goto hC.1 hC.2.1 hd ht (k p e s m args below meth c hC hi h0 Hc locs ls hW hS hl)
theorem g_obj {idx : Nat} {a : Nat} (hlink : Cond.methodLink own idx Lib.objectInit ∈ hp_tb) (hinst : Cond.instanceMethod Lib.objectInit ∈ hp_tb) (hcode : Cond.code Lib.objectInit ⟨#[0xb1]⟩ 1 none ∈ hp_tb) (h1 : 1 ≤ d) (hd : decode cc pc = .ok (.invokespecial idx, 3)) (k : g_R G l cc nL own d MC MS n0 fin (pc + 3) L [] ws cells slots) : g_R G l cc nL own d MC MS n0 fin pc L [.ref a] ws cells slots := by
  intro p e s m args below meth c hC hi h0 Hc locs ls hW hS hl
  have hts := hC.2.2.2.2.2.1
  exact W.objInit hC.1 hC.2.1 hC.2.2.2.2.1 (hts _ hlink) (hts _ hinst) (hts _ hcode) rfl (hl.1.trans hC.2.2.2.1.symm) rfl hd h1 (by show 0 + 0 + 12 ≤ 64 * d; omega) (k p e s m args below meth c hC hi h0 Hc locs ls hW hS hl)
theorem g_vret (hw : ws = fin) (hc : cells = MC) (hm : slots = MS) (hd : decode cc pc = .ok (.return_, 1)) : g_R G l cc nL own d MC MS n0 fin pc L [] ws cells slots := by
  subst hw
  subst hc
  subst hm
  intro p e s m args below meth c hC hi h0 Hc locs ls hW hS hl
  have hlocks := hC.2.2.2.2.2.2
  exact W.vret hC.1 hC.2.1 hC.2.2.1 (fun t ht hw => ⟨⟨rfl, hW.fin ht hw⟩, hS.F ht⟩) hS.2.2 hd
end GR
