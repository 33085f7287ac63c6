/-! rows of rows: an array of two dimensions of ints, over the machine's own word for it -/
def ma_out (cO : ClassId) (N h0 i : Nat) : Cell := arrV cO N (fun j => va_rf (if j < i then some (h0 + 1 + j) else none))
def ma_in (cI : ClassId) (K : Nat) : Cell := { cls := cI, slots := Array.replicate K (.int 0), vm := .none }
theorem ma_out0 (cO : ClassId) (N h0 : Nat) : ma_out cO N h0 0 = { cls := cO, slots := Array.replicate N .null, vm := .none } := by
  rw [arrV_new]
  refine congrArg (arrV cO N) (funext fun j => ?_)
  simp [va_rf]
theorem ma_outS (cO : ClassId) (N h0 i : Nat) : (ma_out cO N h0 i).setSlot i (.ref (h0 + 1 + i)) = ma_out cO N h0 (i + 1) := by
  unfold ma_out
  rw [arrV_store]
  refine congrArg (arrV cO N) (funext fun j => ?_)
  by_cases e : j = i
  · subst e
    simp [updV, va_rf]
  · by_cases h : j < i
    · simp [updV, e, h, Nat.lt_succ_of_lt h]
    · simp [updV, e, h, show ¬ j < i + 1 by omega]
theorem ma_outN (cO : ClassId) (N h0 i : Nat) : (ma_out cO N h0 i).slots.size = N := by
  unfold ma_out arrV
  simp
/-- the state behind the first i rows -/
def ma_fill (T : State) (cO cI : ClassId) (N K : Nat) : Nat → State
  | 0 => T.pushCell (ma_out cO N T.heap.size 0)
  | i + 1 => ((ma_fill T cO cI N K i).pushCell (ma_in cI K)).setCell T.heap.size (ma_out cO N T.heap.size (i + 1))
section MA
variable {T : State} {cO cI : ClassId} {N K : Nat}
theorem ma_vm : ∀ i : Nat, (ma_fill T cO cI N K i).vm = T.vm
  | 0 => rfl
  | i + 1 => ma_vm i
theorem ma_heap (i : Nat) : (ma_fill T cO cI N K (i + 1)).heap = ((ma_fill T cO cI N K i).heap.push (ma_in cI K)).setIfInBounds T.heap.size (ma_out cO N T.heap.size (i + 1)) := rfl
theorem ma_size : ∀ i : Nat, (ma_fill T cO cI N K i).heap.size = T.heap.size + 1 + i
  | 0 => by
    show (T.heap.push _).size = _
    rw [Array.size_push]
  | i + 1 => by
    rw [ma_heap, Array.size_setIfInBounds, Array.size_push, ma_size i]
    omega
theorem ma_old {x : Nat} (hx : x < T.heap.size) : ∀ i : Nat, (ma_fill T cO cI N K i).heap[x]? = T.heap[x]?
  | 0 => by
    show (T.heap.push _)[x]? = _
    rw [Array.getElem?_push, if_neg (by omega)]
  | i + 1 => by
    rw [ma_heap, Array.getElem?_setIfInBounds, if_neg (by omega), Array.getElem?_push, if_neg (by rw [ma_size i]; omega), ma_old hx i]
theorem ma_at : ∀ i : Nat, (ma_fill T cO cI N K i).heap[T.heap.size]? = some (ma_out cO N T.heap.size i)
  | 0 => by
    show (T.heap.push _)[T.heap.size]? = _
    rw [Array.getElem?_push, if_pos rfl]
  | i + 1 => by
    rw [ma_heap, Array.getElem?_setIfInBounds, if_pos rfl, if_pos (by rw [Array.size_push, ma_size i]; omega)]
theorem ma_row {j : Nat} : ∀ i : Nat, j < i → (ma_fill T cO cI N K i).heap[T.heap.size + 1 + j]? = some (ma_in cI K)
  | 0, h => absurd h (Nat.not_lt_zero j)
  | i + 1, h => by
    rw [ma_heap, Array.getElem?_setIfInBounds, if_neg (by omega), Array.getElem?_push, ma_size i]
    by_cases e : j = i
    · subst e
      rw [if_pos rfl]
    · rw [if_neg (by omega)]
      exact ma_row i (by omega)
theorem ma_stand {p : Program} {l : Launch} {e : Env} {R : Room} {s : State} {m : MethodId} {args : Array Value} {below : List Frame} {meth : Method} {c : Code} {locs : List Loc} {cells slots : Nat} (X : Stand p l e R s m args below meth c T locs cells slots) :
    ∀ i : Nat, ∃ L2 : List Loc, (∀ q ∈ L2, q.base = T.heap.size) ∧ Stand p l e R s m args below meth c (ma_fill T cO cI N K i) (locs ++ L2) (cells + 1 + i) (slots + N + i * K)
  | 0 => by
    refine ⟨[], fun q hq => (List.not_mem_nil hq).elim, ?_⟩
    have h := X.pushed (ma_out cO N T.heap.size 0)
    rw [ma_outN] at h
    rw [List.append_nil, Nat.zero_mul]
    exact h
  | i + 1 => by
    obtain ⟨L2, hL, Xi⟩ := ma_stand X i
    have h := (Xi.pushed (ma_in cI K)).stored (a := T.heap.size) (cell := ma_out cO N T.heap.size i) (by
      show ((ma_fill T cO cI N K i).heap.push _)[T.heap.size]? = _
      rw [Array.getElem?_push, if_neg (by rw [ma_size i]; omega)]
      exact ma_at i) i (.ref (T.heap.size + 1 + i))
    rw [ma_outS, List.append_assoc] at h
    have hk : (ma_in cI K).slots.size = K := by
      unfold ma_in
      simp
    rw [hk] at h
    refine ⟨L2 ++ [⟨T.heap.size, i⟩], fun q hq => ?_, ?_⟩
    · rcases List.mem_append.mp hq with h | h
      · exact hL q h
      · rw [List.mem_singleton.mp h]
    · rw [Nat.succ_mul, ← Nat.add_assoc, ← Nat.add_assoc]
      exact h
/-- one row: made, and put into its place -/
theorem ma_step {E : CtlPost} {e : Env} {d : Bool} {acts : List Action} {g : JFrame} {kO kI : Class} {comp : ClassId} {k : Int32} {i : Nat} {Q : Unit → Pre} (hO : T.vm.classes[cO]? = some kO) (hkO : kO.kind = .array cI (.array .int)) (hI : T.vm.classes[cI]? = some kI) (hkI : kI.kind = .array comp .int) (hk : ¬ k < 0) (hK : k.toNatClampNeg = K) (hlim : ¬ K > e.platform.arrayLengthLimit) (hheap : ¬ K * 4 > e.platform.maxHeapBytes) (hi : i < N)
    (hr1 : (ma_fill T cO cI N K i).heap.size < e.platform.maxCells) (hr2 : (ma_fill T cO cI N K i).slotsUsed + K ≤ e.platform.maxSlots) (hq : ∀ acts', Q () true acts' ((ma_fill T cO cI N K (i + 1)).setTop g)) :
    wp (Op.multianewarray.make cI [k] >>= fun a => Jvm.writeLoc T.heap.size i (.ref a)) Q E e d acts ((ma_fill T cO cI N K i).setTop g) := by
  have hI2 : ((ma_fill T cO cI N K i).setTop g).vm.classes[cI]? = some kI := by
    rw [State.vm_setTop, ma_vm i]
    exact hI
  have hO2 : (ma_fill T cO cI N K i).vm.classes[cO]? = some kO := by
    rw [ma_vm i]
    exact hO
  rw [wp_bind', Op.multianewarray.make]
  simp only [wp_bind', hk, if_false, wp_pure', W.theClass, hI2, Option.some.injEq, exists_eq_left', hkI, hK]
  refine W.newArray_of (s := (ma_fill T cO cI N K i).setTop g) hI2 hkI hlim hheap hr1 hr2 rfl (fun acts' => ?_)
  rw [W.writeLoc]
  refine ⟨ma_out cO N T.heap.size i, ?_, ?_, ?_, ?_, ?_⟩
  · show ((ma_fill T cO cI N K i).heap.push _)[T.heap.size]? = _
    rw [Array.getElem?_push, if_neg (by rw [ma_size i]; omega)]
    exact ma_at i
  · intro h
    cases h
  · rw [ma_outN]
    exact hi
  · show (ma_fill T cO cI N K i).fitsSlot cO .none i (.ref _) = true
    simp [State.fitsSlot, State.slotType?, hO2, hkO]
    rfl
  · have e1 : ((ma_fill T cO cI N K i).setTop g).heap.size = T.heap.size + 1 + i := ma_size i
    rw [e1, ma_outS]
    exact hq _
end MA
section MB
variable {T : State} {cO cI : ClassId} {N K : Nat} {E : CtlPost} {e : Env} {d : Bool} {acts : List Action} {g : JFrame}
theorem ma_make {kO kI : Class} {comp : ClassId} {n k : Int32} {Q : Addr → Pre} (hO : T.vm.classes[cO]? = some kO) (hkO : kO.kind = .array cI (.array .int)) (hI : T.vm.classes[cI]? = some kI) (hkI : kI.kind = .array comp .int) (hn : ¬ n < 0) (hN : n.toNatClampNeg = N) (hk : ¬ k < 0) (hK : k.toNatClampNeg = K)
    (hlN : ¬ N > e.platform.arrayLengthLimit) (hhN : ¬ N * 4 > e.platform.maxHeapBytes) (hlK : ¬ K > e.platform.arrayLengthLimit) (hhK : ¬ K * 4 > e.platform.maxHeapBytes) (h1 : T.heap.size < e.platform.maxCells) (h2 : T.slotsUsed + N ≤ e.platform.maxSlots)
    (hr : ∀ i, i < N → (ma_fill T cO cI N K i).heap.size < e.platform.maxCells ∧ (ma_fill T cO cI N K i).slotsUsed + K ≤ e.platform.maxSlots) (hq : ∀ d' acts', Q T.heap.size d' acts' ((ma_fill T cO cI N K N).setTop g)) :
    wp (Op.multianewarray.make cO [n, k]) Q E e d acts (T.setTop g) := by
  have hO2 : (T.setTop g).vm.classes[cO]? = some kO := hO
  rw [Op.multianewarray.make]
  simp only [wp_bind', hn, if_false, wp_pure', W.theClass, hO2, Option.some.injEq, exists_eq_left', hkO, hN]
  refine W.newArray_of (s := T.setTop g) hO2 hkO hlN hhN h1 h2 rfl (fun acts' => ?_)
  have h0 : (T.setTop g).pushCell { cls := cO, slots := Array.replicate N .null } = (ma_fill T cO cI N K 0).setTop g := by
    show (T.pushCell _).setTop g = (T.pushCell (ma_out cO N T.heap.size 0)).setTop g
    rw [ma_out0]
  rw [h0]
  have hf : [k].find? (fun x => decide (x < 0)) = none := by simp [hk]
  simp only [hf, ite_self, wp_pure', Std.Legacy.Range.forIn_eq_forIn_range', wp_bind']
  refine wp_forIn_inv (fun rest s' => ∃ i, i ≤ N ∧ rest = List.range' i (N - i) 1 ∧ s' = (ma_fill T cO cI N K i).setTop g) _ _ ⟨0, Nat.zero_le _, ?_, rfl⟩ (fun x rest s' d' acts' Q' hI9 hQ => ?_) (fun s' d' acts' hI9 => ?_)
  · simp [Std.Legacy.Range.size]
  · obtain ⟨i, hi, hrest, rfl⟩ := hI9
    have hlt : i < N := by
      rcases Nat.lt_or_ge i N with h | h
      · exact h
      · rw [Nat.sub_eq_zero_of_le h] at hrest
        cases hrest
    rw [show N - i = (N - (i + 1)) + 1 by omega, List.range'_succ] at hrest
    have ex : x = i := (List.cons.inj hrest).1
    have er : rest = List.range' (i + 1) (N - (i + 1)) 1 := (List.cons.inj hrest).2
    rw [ex]
    obtain ⟨r1, r2⟩ := hr i hlt
    have hs := fun {Q9 : Unit → Pre} hq9 => ma_step (E := E) (e := e) (d := d') (acts := acts') (g := g) (Q := Q9) hO hkO hI hkI hk hK hlK hhK hlt r1 r2 hq9
    simp only [wp_bind', wp_pure'] at hs ⊢
    exact @hs (fun _ => Q' (ForInStep.yield PUnit.unit)) (fun acts9 => hQ _ _ _ ⟨i + 1, hlt, er, rfl⟩)
  · obtain ⟨i, hi, hrest, rfl⟩ := hI9
    have hge : N ≤ i := by
      rcases Nat.lt_or_ge i N with h | h
      · rw [show N - i = (N - (i + 1)) + 1 by omega, List.range'_succ] at hrest
        cases hrest
      · exact h
    rw [show i = N by omega]
    exact hq _ _
theorem ma_wp {index : Nat} {kO kI : Class} {comp : ClassId} {n k : Int32} {rest : List Value} {Q : Unit → Pre} (hs : T.topJava?.isSome) (hrd : T.vm.classReady g.method.cls index cO) (hstack : g.stack = .int k :: .int n :: rest) (hO : T.vm.classes[cO]? = some kO) (hkO : kO.kind = .array cI (.array .int)) (hI : T.vm.classes[cI]? = some kI) (hkI : kI.kind = .array comp .int) (hn : ¬ n < 0) (hN : n.toNatClampNeg = N) (hk : ¬ k < 0) (hK : k.toNatClampNeg = K)
    (hlN : ¬ N > e.platform.arrayLengthLimit) (hhN : ¬ N * 4 > e.platform.maxHeapBytes) (hlK : ¬ K > e.platform.arrayLengthLimit) (hhK : ¬ K * 4 > e.platform.maxHeapBytes) (h1 : T.heap.size < e.platform.maxCells) (h2 : T.slotsUsed + N ≤ e.platform.maxSlots)
    (hr : ∀ i, i < N → (ma_fill T cO cI N K i).heap.size < e.platform.maxCells ∧ (ma_fill T cO cI N K i).slotsUsed + K ≤ e.platform.maxSlots) (hsN : (ma_fill T cO cI N K N).topJava?.isSome) (hq : ∀ acts', Q () true acts' ((ma_fill T cO cI N K N).setTop { g with stack := .ref T.heap.size :: rest })) :
    wp (Op.multianewarray.sem index 2) Q E e d acts (T.setTop g) := by
  simp only [Op.multianewarray.sem, wp_bind', W.resolveClassAt_ready (State.method?_setTop g hs) hrd, Jvm.popN, W.pop, State.topJava?_setTop' _ hs, Option.some.injEq, exists_eq_left', hstack, exists_cons_eq, List.cons.injEq, State.setTop_setTop, wp_pure', List.nil_append, List.cons_append, List.mapM_cons, List.mapM_nil]
  refine ma_make hO hkO hI hkI hn hN hk hK hlN hhN hlK hhK h1 h2 hr (fun d' acts' => ?_)
  show ∃ f, ((ma_fill T cO cI N K N).setTop { g with stack := rest }).topJava? = some f ∧ Q () true acts' (((ma_fill T cO cI N K N).setTop { g with stack := rest }).setTop { f with stack := .ref T.heap.size :: f.stack })
  refine ⟨_, State.topJava?_setTop' _ hsN, ?_⟩
  rw [State.setTop_setTop]
  exact hq acts'
theorem ma_cold {index c : Nat} {vm' : Vm} {Q : Unit → Pre} (hs : T.topJava?.isSome) (hg : (Jvm.resolveClass g.method.cls index).Gives e.toSetting T.vm (.ok c) vm') (hr : vm'.classReady g.method.cls index c) (hsz : vm'.classes.size ≤ T.vm.classes.size) :
    wp (Op.multianewarray.sem index 2) Q E e d acts (T.setTop g) ↔ wp (Op.multianewarray.sem index 2) Q E e d acts ((T.setVm vm').setTop g) := by
  simp only [Op.multianewarray.sem, wp_bind']
  exact W.resolveClassAt_transfer (s := T.setTop g) (State.method?_setTop g hs) hg hr hsz
end MB
/-- what is known of an array over an array's type -/
theorem ma_over {t : FieldType} {s : State} (h : va_AOA t s) : ∃ (comp c : ClassId) (k : Class), s.vm.findClass (FieldType.array t).toString = some comp ∧ s.vm.classes[c]? = some k ∧ k.kind = .array comp (.array t) ∧ s.vm.findClass ("[" ++ (FieldType.array t).toString) = some c := by
  unfold va_AOA Cond.before Cond.holds at h
  simp only [Cond.value, beq_iff_eq] at h
  cases hc : s.vm.findClass (FieldType.array t).toString with
  | none => simp [hc] at h
  | some comp =>
    simp only [hc, Option.bind_some, Option.bind_eq_some_iff, Option.map_eq_some_iff] at h
    obtain ⟨c, hi, k, hk, hb⟩ := h
    obtain ⟨hlt, hp, -⟩ := Array.findIdx?_eq_some_iff_getElem.mp hi
    have hkk : s.vm.classes[c] = k := (Array.getElem?_eq_some_iff.mp hk).2
    rw [hkk] at hp
    cases hkind : k.kind with
    | array component ty =>
      rw [hkind] at hb hp
      simp at hb hp
      exact ⟨comp, c, k, rfl, hk, by rw [hkind, hp, hb.1], hb.2⟩
    | _ => rw [hkind] at hb; simp at hb
theorem ma_mna {p : Program} {l : Launch} {e : Env} {R : Room} {s : State} {m : MethodId} {args : Array Value} {below : List Frame} {meth : Method} {c : Code} {T : State} {locs : List Loc} {cells slots : Nat} (X : Stand p l e R s m args below meth c T locs cells slots) (hexec : p.tables.exec = Jvm.exec) {own : String} {index : Nat} (hown : s.vm.findClass own = some m.cls) (hclink : (Cond.classLink own index "[[I").before args s = true) (hover : va_AOA .int s) (harr : (Cond.arrayClass .int).before args s = true)
    {g : JFrame} (hg : g.method = m) (hdg : decode c.code g.pc = .ok (.multianewarray index 2, 4)) {n k : Int32} {rest : List Value} (hstack : g.stack = .int k :: .int n :: rest) {N K : Nat} (hn : ¬ n < 0) (hN : n.toNatClampNeg = N) (hk : ¬ k < 0) (hK : k.toNatClampNeg = K) (hbN : N ≤ 65536) (hbK : K ≤ 65536) (hcells : cells + (1 + N) ≤ R.cells) (hslots : slots + (N + N * K) ≤ R.slots) :
    ∃ (vm₁ : Vm) (cO cI : ClassId) (L2 : List Loc), s.vm.findClass ("[" ++ (FieldType.array .int).toString) = some cO ∧ s.vm.findClass ("[" ++ FieldType.int.toString) = some cI ∧ (∀ q ∈ L2, q.base = T.heap.size) ∧
      Stand p l e R s m args below meth c (ma_fill (T.setVm vm₁) cO cI N K N) (locs ++ L2) (cells + 1 + N) (slots + N + N * K) ∧
      ∀ target, Steps p.tables e below ((ma_fill (T.setVm vm₁) cO cI N K N).setTop { g with pc := g.pc + 4, stack := .ref T.heap.size :: rest }) target → Steps p.tables e below (T.setTop g) target := by
  subst hg
  have hpl : e.platform.magicAccessors = ({} : Platform).magicAccessors := by rw [X.admits.platform]
  obtain ⟨comp, cO, kO, hcomp, hkO, hkindO, hnameO⟩ := ma_over hover
  obtain ⟨cI, kI, cc0, hnameI, hkI, hkindI⟩ := Cond.arrayClass_spec harr
  have e1 : comp = cI := Option.some.inj (hcomp.symm.trans hnameI)
  subst e1
  obtain ⟨cl, hfcl, hcl⟩ := Cond.classLink_spec hown hclink e.platform hpl
  have e2 : cl = cO := Option.some.inj (hfcl.symm.trans hnameO)
  subst e2
  obtain ⟨hg₁, hwarm₁, hready₁⟩ := State.classEntry (e := e) X.warmed hcl
  have hsz : (T.vm.noted g.method.cls index (.cls cl)).classes.size ≤ T.vm.classes.size := by
    rw [Vm.size_noted]
    exact Nat.le_refl _
  generalize T.vm.noted g.method.cls index (.cls cl) = vm₁ at hg₁ hwarm₁ hready₁ hsz
  have hal : s.vm.Alike vm₁ := hwarm₁.alike
  obtain ⟨kO₁, hkO₁, heO⟩ := hal.2.2 _ _ hkO
  have hkindO₁ : kO₁.kind = .array comp (.array .int) := by rw [heO]; exact hkindO
  obtain ⟨kI₁, hkI₁, heI⟩ := hal.2.2 _ _ hkI
  have hkindI₁ : kI₁.kind = .array cc0 .int := by rw [heI]; exact hkindI
  have X₁ := X.noted hwarm₁
  obtain ⟨L2, hL2, XN⟩ := ma_stand (cO := cl) (cI := comp) (N := N) (K := K) X₁ N
  refine ⟨vm₁, cl, comp, L2, hnameO, hnameI, hL2, XN, fun target hrest => ?_⟩
  obtain ⟨a1, a2⟩ := X₁.roomAbove (a := 1) (b := N) (by omega) (by omega)
  have hr : ∀ i, i < N → (ma_fill (T.setVm vm₁) cl comp N K i).heap.size < e.platform.maxCells ∧ (ma_fill (T.setVm vm₁) cl comp N K i).slotsUsed + K ≤ e.platform.maxSlots := fun i hi => by
    obtain ⟨L9, -, Xi⟩ := ma_stand (cO := cl) (cI := comp) (N := N) (K := K) X₁ i
    have hm : i * K + K ≤ N * K := by
      rw [← Nat.succ_mul]
      exact Nat.mul_le_mul_right K hi
    obtain ⟨b1, b2⟩ := Xi.roomAbove (a := 1) (b := K) (by omega) (by omega)
    exact ⟨b1, b2⟩
  refine Steps.instr (c := c) (by simpa using X.here) ?_
  rw [hdg]
  show wpRun (p.tables.exec (.multianewarray index 2)) _ _ e (T.setTop g)
  rw [hexec]
  show wp (Op.multianewarray.sem index 2) _ _ e false [] (T.setTop g)
  rw [ma_cold X.here.top hg₁ hready₁ hsz]
  refine ma_wp (cO := cl) (cI := comp) (N := N) (K := K) X₁.here.top hready₁ hstack hkO₁ hkindO₁ hkI₁ hkindI₁ hn hN hk hK (by rw [Launch.admits_arrayLengthLimit X.admits]; omega) (by rw [Launch.admits_maxHeapBytes X.admits]; omega) (by rw [Launch.admits_arrayLengthLimit X.admits]; omega) (by rw [Launch.admits_maxHeapBytes X.admits]; omega) a1 a2 hr XN.here.top (fun acts' acts => ?_)
  rw [afterInstr_ok]
  exact hrest
