/-! the world: cells in a fixed order from a base on; objects' references are fixed, ints lie in a table of cells and slots -/
/-- (0, class, fields: none an int, some a reference), (1, n, _) ints, (2, n, _) booleans, (3 Towns, 4 rows of ints; n, [base, stride]) -/
abbrev hp_S : Type := Nat × Nat × List (Option Int)
/-- tables of fields, base, array types, static arrays, cells -/
abbrev hp_G : Type := va_G × Nat × (Nat → ClassId) × (Nat → Nat) × List hp_S
def hp_sh (G : hp_G) : List hp_S := G.2.2.2.2
def hp_ad (G : hp_G) (a : Int) : Nat := if a < 0 then G.2.2.2.1 (-a).toNat else G.2.1 + a.toNat
def hp_A (G : hp_G) : Nat → Prop := fun q => G.2.1 ≤ q ∧ q < G.2.1 + (hp_sh G).length
def hp_sl (G : hp_G) (h : Int → Int) : Nat → List (Option Int) → List Value
  | _, [] => []
  | j, none :: r => .int (hp_I (h (j : Int))) :: hp_sl G h (j + 1) r
  | j, some a :: r => .ref (hp_ad G a) :: hp_sl G h (j + 1) r
def hp_rfs (G : hp_G) (l : List (Option Int)) (j : Nat) : Option Nat := some (hp_ad G ((l.getD 0 none).getD 0 + (l.getD 1 none).getD 0 * (j : Int)))
def hp_ce (G : hp_G) (sh : hp_S) (h : Int → Int) : va_E := match sh.1 with
  | 0 => .inr (sh.2.1, hp_sl G h 0 sh.2.2)
  | 1 => .inl (G.2.2.1 0, sh.2.1, .inl (fun j => hp_I (h (j : Int))))
  | 2 => .inl (G.2.2.1 1, sh.2.1, .inl (fun j => hp_I (h (j : Int))))
  | 3 => .inl (G.2.2.1 2, sh.2.1, .inr (.inr (.inr (.inr (hp_rfs G sh.2.2)))))
  | _ => .inl (G.2.2.1 3, sh.2.1, .inr (.inr (.inr (.inr (hp_rfs G sh.2.2)))))
def hp_ws (G : hp_G) (H : hp_H) : va_W := (hp_sh G).zipIdx.map (fun q => (G.2.1 + q.2, hp_ce G q.1 (H (q.2 : Int))))
theorem hp_ws_get {G : hp_G} {H : hp_H} {k : Nat} {sh : hp_S} (h : (hp_sh G)[k]? = some sh) : (hp_ws G H)[k]? = some (G.2.1 + k, hp_ce G sh (H (k : Int))) := by
  unfold hp_ws
  rw [List.getElem?_map, List.getElem?_zipIdx, h]
  simp
theorem hp_ws_len (G : hp_G) (H : hp_H) : (hp_ws G H).length = (hp_sh G).length := by
  unfold hp_ws
  simp
theorem hp_ws_set {G : hp_G} {H H' : hp_H} {k : Nat} {sh : hp_S} {e : va_E} (h : (hp_sh G)[k]? = some sh) (he : e = hp_ce G sh (H' (k : Int))) (ho : ∀ j : Nat, j ≠ k → H' (j : Int) = H (j : Int)) : (hp_ws G H).set k (G.2.1 + k, e) = hp_ws G H' := by
  apply List.ext_getElem?
  intro j
  by_cases hj : j = k
  · subst hj
    have hl : j < (hp_ws G H).length := by rw [hp_ws_len]; exact (List.getElem?_eq_some_iff.mp h).1
    rw [List.getElem?_set_self hl, hp_ws_get h, he]
  · rw [List.getElem?_set_ne (Ne.symm hj)]
    cases hx : (hp_sh G)[j]? with
    | none =>
      have h1 : (hp_sh G).length ≤ j := List.getElem?_eq_none_iff.mp hx
      rw [List.getElem?_eq_none_iff.mpr (by rw [hp_ws_len]; exact h1), List.getElem?_eq_none_iff.mpr (by rw [hp_ws_len]; exact h1)]
    | some x => rw [hp_ws_get hx, hp_ws_get hx, ho j hj]
/-- what each static table holds: 1 KIND_ABOVE, 2 SIZE_BODIES, 3 MARK_BODIES -/
def hp_tab (a i : Int) : Int := if a = -1 then ([0, 0, 1, 1, 0, 4] : List Int).getD i.toNat 0 else if a = -2 then ([10, 11, 12, 0, 13, 14] : List Int).getD i.toNat 0 else ([20, 21, 24, 22, 23, 0] : List Int).getD i.toNat 0
def hp_sn (k : Nat) : String := if k = 1 then "KIND_ABOVE" else if k = 2 then "SIZE_BODIES" else "MARK_BODIES"
def hp_nest : Cond := .methodLinkNest "HeelPost$Tape" 76 ⟨"HeelPost", "within", "(III)Z"⟩ "HeelPost"
/-- what the machine's tables say beside: the static tables, and the nest mate's method -/
def hp_St (G : hp_G) (U : State) (Hc : Heap) : Prop :=
  (∀ k : Nat, 1 ≤ k → k ≤ 3 → va_Z "HeelPost$Asks" (hp_sn k) "[I" (.ref (G.2.2.2.1 k)) (hp_A G) U Hc ∧ va_T .int (G.2.2.2.1 k) 6 (fun j => .int (hp_I (hp_tab (-(k : Int)) (j : Int)))) (hp_A G) U Hc) ∧ va_Nw hp_nest U
def hp_tys (G : hp_G) : List (ClassId × FieldType) := [(G.2.2.1 0, .int), (G.2.2.1 1, .boolean), (G.2.2.1 2, .object "HeelPost$Town"), (G.2.2.1 3, .array .int)]
def hp_W (G : hp_G) (H : hp_H) (U : State) (Hc : Heap) : Prop :=
  va_P G.1 vwCl (hp_ws G H) Hc ∧ va_K G.1 vwCl (hp_tys G) U ∧ va_D (hp_A G) (hp_ws G H) ∧ hp_St G U Hc
theorem hp_St.kept {G : hp_G} {U : State} {H H1 : Heap} (h : hp_St G U H) (hq : ∀ a : Nat, a < H.size → ¬ hp_A G a → H1[a]? = H[a]?) : hp_St G U H1 := ⟨fun k h1 h2 => ⟨(h.1 k h1 h2).1.kept hq, (h.1 k h1 h2).2.kept hq⟩, h.2⟩
theorem hp_St.warm {G : hp_G} {s U : State} {H : Heap} (hW : s.WarmedH U.vm) (h : hp_St G s H) : hp_St G U H := ⟨fun k h1 h2 => ⟨(h.1 k h1 h2).1.moved hW.alike, (h.1 k h1 h2).2.moved hW.alike⟩, va_Nw.warmM hW h.2⟩
theorem hp_St.same {G : hp_G} {s U : State} {H : Heap} (hv : s.vm = U.vm) (h : hp_St G s H) : hp_St G U H := ⟨fun k h1 h2 => ⟨(h.1 k h1 h2).1.moved (hv ▸ Vm.Alike.refl s.vm), (h.1 k h1 h2).2.moved (hv ▸ Vm.Alike.refl s.vm)⟩, va_Nw.same rfl hv h.2⟩
theorem hp_W.same {G : hp_G} {H : hp_H} {s U : State} {Hc : Heap} (hv : s.vm = U.vm) (h : hp_W G H s Hc) : hp_W G H U Hc := ⟨h.1, va_K.moved (hv ▸ Vm.Alike.refl s.vm) h.2.1, h.2.2.1, h.2.2.2.same hv⟩
/-- the words that every method has: all good ones of the tables -/
def hp_tb : List Cond := lw_tbl.filter goodWord
theorem hp_tb_of {w : Cond} (h : w ∈ lw_tbl) (hg : goodWord w = true) : w ∈ hp_tb := List.mem_filter.mpr ⟨h, hg⟩
theorem hp_tb_at {w : Cond} (i : Nat) (h : lw_tbl[i]? = some w) (hg : goodWord w = true) : w ∈ hp_tb := hp_tb_of (List.mem_of_getElem? h) hg
theorem hp_tb_good {w : Cond} (h : w ∈ hp_tb) : (w.onTables && w.keeps) = true ∨ ∃ ty, w = .arrayClass ty := good_of_word (List.mem_filter.mp h).2
abbrev hp_wd (y : MethodName) (cc : ByteArray) (nL : Nat) (ret : Option FieldType) : List Cond := .code y cc nL ret :: hp_tb
theorem hp_goodIn {big : List Cond} {y : MethodName} {cc : ByteArray} {nL : Nat} {ret : Option FieldType} (hs : ∀ w ∈ hp_tb, w ∈ big) (h : Cond.code y cc nL ret ∈ hp_tb) : GoodIn big (hp_wd y cc nL ret) := by
  intro w hw
  rcases List.mem_cons.mp hw with e | e
  · rw [e]; exact ⟨hs _ h, hp_tb_good h⟩
  · exact ⟨hs _ e, hp_tb_good e⟩
/-- a method's end -/
def hp_Q (G : hp_G) (v : Option Value) (H' : hp_H) (Z : Prop) : Array Value → State → Outcome → State → Prop := fun _ st o t => (o = .returned v ∧ Z ∧ hp_W G H' t t.heap) ∧ va_F (hp_A G) st t
def hp_Pc (G : hp_G) (As : List Value) (H : hp_H) : Array Value → State → Prop := va_Pc As (fun U => hp_W G H U U.heap)
/-- a method's contract: from H it answers v and leaves H' -/
def hp_M (G : hp_G) (l : Launch) (y : MethodName) (cc : ByteArray) (nL : Nat) (ret : Option FieldType) (R : Room) (As : List Value) (H : hp_H) (v : Option Value) (H' : hp_H) (Z : Prop) : Prop :=
  Met l y (hp_wd y cc nL ret) R (hp_Pc G As H) (hp_Q G v H' Z) 0 0 (hp_A G)
def hp_C (cc : ByteArray) (nL : Nat) (ret : Option FieldType) (own : String) (p : Program) (s : State) (m : MethodId) (args : Array Value) (meth : Method) (c : Code) : Prop :=
  p.tables.exec = Jvm.exec ∧ c.code = cc ∧ meth.sig.returnType = ret ∧ c.maxLocals = nL ∧ s.vm.findClass own = some m.cls ∧ (∀ w ∈ hp_tb, w.before args s = true) ∧ meth.locks = false
/-- within a method, at pc: it comes to its end with v and H' -/
def hp_R (G : hp_G) (l : Launch) (cc : ByteArray) (nL : Nat) (ret : Option FieldType) (own : String) (R : Room) (v : Option Value) (H' : hp_H) (Z : Prop) (pc : Nat) (L : List (Nat × Value)) (st : List Value) (H : hp_H) : Prop :=
  ∀ (p : Program) (e : Env) (s : State) (m : MethodId) (args : Array Value) (below : List Frame) (meth : Method) (c : Code), hp_C cc nL ret own p s m args meth c →
    ∀ (Hc : Heap) (locs : List Loc) (ls : Array Slot), hp_W G H s Hc → hp_St G s s.heap → va_S (hp_A G) s.heap Hc locs → lv_has ls nL L →
      W p l e R s m args below meth c Hc locs 0 0 (MQ below (hp_Q G v H' Z) args s 0 0 (hp_A G)) (F0 m pc ls st)
theorem hp_blind (G : hp_G) (As : List Value) (H : hp_H) : FrameBlind (hp_Pc G As H) := by
  intro a U g mk h
  exact ⟨h.1, hp_W.same (s := U) rfl h.2⟩
/-- a method's contract out of its body -/
theorem hp_body {G : hp_G} {l : Launch} {y : MethodName} {cc : ByteArray} {nL : Nat} {ret : Option FieldType} {R : Room} {As : List Value} {H H' : hp_H} {v : Option Value} {Z : Prop} (own : String) (hy : plainName y.cls = true) (ho : y.cls = own) (hc : R.cells = 0 ∧ R.slots = 0) (hlen : (lg_sl As).length ≤ nL) (k : hp_R G l cc nL ret own R v H' Z 0 (lv_args 0 As) [] H) : hp_M G l y cc nL ret R As H v H' Z := by
  refine Met.ofW (cc := cc) (maxL := nL) (ret := ret) hy rfl ?_
  intro p e s m args below meth c s₁ B hml hv
  obtain ⟨rfl, hW⟩ := hv
  have hts := atoms_spec (ws := hp_wd y cc nL ret) B.pre
  have hown : s.vm.findClass own = some m.cls := by rw [← ho]; exact findClass_of_methodNamed B.named
  have hl := lv_entry As (n := nL) hlen
  rw [lg_entry_eq]
  generalize (lg_sl As ++ List.replicate (nL - (lg_sl As).length) Slot.unset).toArray = ls at hl ⊢
  exact k p e s m As.toArray below meth c ⟨B.exec, B.bytes, B.returns, hml, hown, fun w hw => hts w (List.mem_cons_of_mem _ hw), B.notSynchronized⟩ s.heap [] ls hW hW.2.2.2 va_S.rf hl
