/-! ===== BEGIN words of one list among another's, by their places ===== -/
theorem goodIn_r {big : List Cond} (ws : List Cond) (ps : List Nat) (hp : ws = ps.filterMap (fun i => big[i]?)) (h : ws.all goodWord = true) : GoodIn big ws := by
  intro w hw
  have h1 := List.all_eq_true.mp h w hw
  rw [hp] at hw
  obtain ⟨i, -, hi⟩ := List.mem_filterMap.mp hw
  have hm : w ∈ big := by first | exact List.mem_of_getElem? hi | exact List.getElem?_mem hi
  exact ⟨hm, good_of_word h1⟩
theorem goodIn_app {big a b : List Cond} (ha : GoodIn big a) (hb : GoodIn big b) : GoodIn big (a ++ b) := fun w h => (List.mem_append.mp h).elim (ha w) (hb w)
theorem goodIn_ca {big a b : List Cond} {c : Cond} (ha : GoodIn big (c :: a)) (hb : GoodIn big b) : GoodIn big (c :: (a ++ b)) := fun w h => (List.mem_cons.mp h).elim (fun e => ha w (List.mem_cons.mpr (Or.inl e))) (fun h => (List.mem_append.mp h).elim (fun h => ha w (List.mem_cons.mpr (Or.inr h))) (hb w))
theorem goodIn_sub {big ws : List Cond} (hm : ∀ w ∈ ws, w ∈ big) (h : ws.all goodWord = true) : GoodIn big ws := fun w hw => ⟨hm w hw, good_of_word (List.all_eq_true.mp h w hw)⟩
/-! ===== END ===== -/

/-! ===== BEGIN new T[n][m]: the outer array a place, the inner ones among the pooled ===== -/
/-- f, but v at every address of l -/
def vr_up {α : Type} (f : Nat → α) (l : List Nat) (v : α) : Nat → α := fun a => if a ∈ l then v else f a
theorem vr_up_in {α : Type} {f : Nat → α} {l : List Nat} {v : α} {a : Nat} (h : a ∈ l) : vr_up f l v a = v := if_pos h
theorem vr_up_ne {α : Type} {f : Nat → α} {l : List Nat} {v : α} {a : Nat} (h : a ∉ l) : vr_up f l v a = f a := if_neg h
theorem vr_rows {L l : List Nat} {f : Nat → va_E} {e : va_E} (h : ∀ a, a ∈ l → a ∉ L) : va_pl L f ++ l.map (fun a => (a, e)) = va_pl (L ++ l) (vr_up f l e) := by
  unfold va_pl
  rw [List.map_append]
  congr 1
  · apply List.map_congr_left
    intro a ha
    rw [vr_up_ne (fun q => h a q ha)]
  · apply List.map_congr_left
    intro a ha
    rw [vr_up_in ha]
theorem vr_lay {X rows : va_W} {x : Nat × va_E} {pl : va_W} {D : va_G} {cl : List vw_C} {H : Heap} (hP : va_P D cl (((X ++ pl) ++ [x]) ++ rows) H) : va_P D cl ((X ++ [x]) ++ (pl ++ rows)) H := by
  rw [List.append_assoc (X ++ pl)] at hP
  have h := va_P.swap hP
  rw [← List.append_assoc X] at h
  have h2 := va_P.swap h
  rw [List.append_assoc (X ++ [x])] at h2
  exact h2
theorem vr_layD {X rows : va_W} {x : Nat × va_E} {pl : va_W} {A : Nat → Prop} (hD : va_D A (((X ++ pl) ++ [x]) ++ rows)) : va_D A ((X ++ [x]) ++ (pl ++ rows)) := by
  rw [List.append_assoc (X ++ pl)] at hD
  have h := va_D.swap hD
  rw [← List.append_assoc X] at h
  have h2 := va_D.swap h
  rw [List.append_assoc (X ++ [x])] at h2
  exact h2
theorem vr_outer (c : ClassId) (N h0 : Nat) : ∀ i : Nat, Jvm.Free.Multi.outerC c N h0 i = arrV c N (fun j => va_rf (if j < i then some (h0 + 1 + j) else none))
  | 0 => by
    show ({ cls := c, slots := Array.replicate N .null, vm := .none } : Cell) = _
    rw [arrV_new]
    refine congrArg (arrV c N) (funext fun j => ?_)
    simp [va_rf]
  | i + 1 => by
    show (Jvm.Free.Multi.outerC c N h0 i).setSlot i (.ref (h0 + 1 + i)) = _
    rw [vr_outer c N h0 i, arrV_store]
    refine congrArg (arrV c N) (funext fun j => ?_)
    by_cases e : j = i
    · subst e
      simp [updV, va_rf]
    · by_cases h : j < i
      · simp [updV, e, h, Nat.lt_succ_of_lt h]
      · simp [updV, e, h, show ¬ j < i + 1 by omega]
/-- of an array over an array's type, as va_AO says it of an object's -/
def va_AOA (t : FieldType) (U : State) : Prop := (Cond.arrayOver (.array t)).before #[] U = true
theorem va_AOA.of {t : FieldType} {A : Array Value} {U : State} (h : (Cond.arrayOver (.array t)).before A U = true) : va_AOA t U := h
theorem va_AOA.use {t : FieldType} {A : Array Value} {U : State} (h : va_AOA t U) : (Cond.arrayOver (.array t)).before A U = true := h
section VGM
variable {p : Program} {l : Launch} {e : Env} {R : Room} {s : State} {m : MethodId} {args : Array Value} {below : List Frame} {meth : Method} {c : Code} {H : Heap} {locs : List Loc} {cells slots : Nat} {Q : State → Prop}
variable {cc : ByteArray} {pc : Nat} {ls : Array Slot} {rest : List Value} {D : va_G} {cl : List vw_C} {A : Nat → Prop} {a : Nat} {tys : List (ClassId × FieldType)} {ws : va_W} {H0 : Heap}
theorem va_mna {X : va_W} {L : List Nat} {f : Nat → va_E} {cc : ByteArray} (hexec : p.tables.exec = Jvm.exec) (hb : c.code = cc) {own : String} {index : Nat} {ty : FieldType} {cy : ClassId} (hown : s.vm.findClass own = some m.cls) (hclink : (Cond.classLink own index ("[" ++ (FieldType.array ty).toString)).before args s = true) (hover : va_AOA ty s) (harr : (Cond.arrayClass ty).before args s = true) (hcy : s.vm.findClass (FieldType.array ty).toString = some cy)
    (hK : va_K D cl tys s) (hP : va_P D cl (X ++ va_pl L f) H) (hD : va_D A (X ++ va_pl L f)) (hS : va_S A H0 H locs) (hA : ∀ q, H0.size ≤ q → A q) {n k : Int32} {N' K' : Nat} {z : vp_A} (hn : ¬ n < 0) (hk : ¬ k < 0) (hN : n.toNatClampNeg = N') (hM : k.toNatClampNeg = K')
    (hb1 : N' * 4 ≤ 536870912) (hb2 : K' * componentBytes ty ≤ 536870912) (hb3 : K' ≤ 536870912) (hdf : fits ty (defaultValue ty) = true) (hdd : (defaultValue ty).isDefault = true) (hcells : cells + (1 + N') ≤ R.cells) (hslots : slots + (N' + N' * K') ≤ R.slots) (hz : ∀ c : ClassId, Jvm.Free.Multi.innerC c K' (defaultValue ty) = vp_cell c z) (hdg : decode cc pc = .ok (.multianewarray index 2, 4))
    (kk : ∀ (q : Nat) (r : Nat → Nat) (cA : ClassId) (H1 : Heap), (∀ i j : Nat, i < N' → j < N' → r i = r j → i = j) → (∀ i : Nat, i < N' → r i ∉ L) → va_K D cl (tys ++ [(cA, .array ty)]) s →
      va_P D cl ((X ++ [(q, .inl (cA, N', .inr (.inr (.inr (.inr (fun i => if i < N' then some (r i) else none))))))]) ++ va_pl (L ++ (List.range N').map r) (vr_up f ((List.range N').map r) (.inl (cy, z)))) H1 → va_D A ((X ++ [(q, .inl (cA, N', .inr (.inr (.inr (.inr (fun i => if i < N' then some (r i) else none))))))]) ++ va_pl (L ++ (List.range N').map r) (vr_up f ((List.range N').map r) (.inl (cy, z)))) → va_S A H0 H1 locs →
      W p l e R s m args below meth c H1 locs (cells + 1 + N') (slots + N' + N' * K') Q (F0 m (pc + 4) ls (.ref q :: rest))) : W p l e R s m args below meth c H locs cells slots Q (F0 m pc ls (.int k :: .int n :: rest)) := by
  subst hN
  subst hM
  intro T hT Xs
  obtain ⟨vm₁, cA, comp, -, fA, fC, hO, -, X', step⟩ := Xs.multianewarray2F hexec hown hclink (va_AOA.use hover) harr (g := F0 m pc ls (.int k :: .int n :: rest)) rfl (by rw [hb]; exact hdg) rfl hn hk hb1 hb2 hb3 hdf hdd hcells hslots
  have ec : some cy = some comp := hcy.symm.trans fC
  cases ec
  generalize hF : Jvm.Free.Multi.fill (T.setVm vm₁) cA cy n.toNatClampNeg k.toNatClampNeg (defaultValue ty) n.toNatClampNeg = F at X' step
  have hTh : (T.setVm vm₁).heap = H := hT
  obtain ⟨f1, f2, -, -⟩ := Jvm.Free.Multi.fill_facts (T.setVm vm₁) cA cy n.toNatClampNeg k.toNatClampNeg (defaultValue ty) n.toNatClampNeg
  rw [hF, hTh] at f1 f2
  have hold : ∀ x : Nat, x < H.size → F.heap[x]? = H[x]? := fun x hx => by
    have := Jvm.Free.Multi.fill_old (T.setVm vm₁) cA cy n.toNatClampNeg k.toNatClampNeg (defaultValue ty) (a := x) (by rw [hTh]; exact hx) n.toNatClampNeg
    rw [hF, hTh] at this
    exact this
  have hrow : ∀ j : Nat, j < n.toNatClampNeg → F.heap[H.size + 1 + j]? = some (vp_cell cy z) := fun j hj => by
    have := Jvm.Free.Multi.fill_inner (T.setVm vm₁) cA cy n.toNatClampNeg k.toNatClampNeg (defaultValue ty) n.toNatClampNeg j hj
    rw [hF, hTh, hz] at this
    exact this
  have hout : Jvm.Free.Multi.outerC cA n.toNatClampNeg H.size n.toNatClampNeg = vp_cell cA (n.toNatClampNeg, .inr (.inr (.inr (.inr (fun i => if i < n.toNatClampNeg then some (H.size + 1 + i) else none))))) := by
    rw [vp_cell_q]
    exact vr_outer cA n.toNatClampNeg H.size n.toNatClampNeg
  rw [hout] at f2
  have hlt : ∀ a, a ∈ L → a < H.size := fun a ha => by
    obtain ⟨k9, hk9⟩ := va_pl_get (X := X) (f := f) ha
    exact (hP k9 _ hk9).lt
  have hnl : ∀ i : Nat, i < n.toNatClampNeg → H.size + 1 + i ∉ L := fun i _ h => by
    have := hlt _ h
    omega
  have hnm : ∀ a, a ∈ (List.range n.toNatClampNeg).map (fun i => H.size + 1 + i) → a ∉ L := fun a ha h => by
    obtain ⟨i, -, rfl⟩ := List.mem_map.mp ha
    have := hlt _ h
    omega
  have hP0 : va_P D cl (X ++ va_pl L f) F.heap := hP.kept (fun k9 x hx => hold x.1 ((hP k9 x hx).lt))
  have hP1 : va_P D cl ((X ++ va_pl L f) ++ [(H.size, .inl (cA, n.toNatClampNeg, .inr (.inr (.inr (.inr (fun i => if i < n.toNatClampNeg then some (H.size + 1 + i) else none))))))]) F.heap := hP0.app (fun k9 x hx => by
    have h0 : k9 < 1 := (List.getElem?_eq_some_iff.mp hx).1
    rw [show k9 = 0 by omega] at hx
    cases hx
    exact f2)
  have hP2 : va_P D cl (((X ++ va_pl L f) ++ [(H.size, .inl (cA, n.toNatClampNeg, .inr (.inr (.inr (.inr (fun i => if i < n.toNatClampNeg then some (H.size + 1 + i) else none))))))]) ++ ((List.range n.toNatClampNeg).map (fun i => H.size + 1 + i)).map (fun a => (a, .inl (cy, z)))) F.heap := hP1.app (fun k9 x hx => by
    obtain ⟨a, ha, rfl⟩ := List.mem_map.mp (List.mem_of_getElem? hx)
    obtain ⟨i, hi, rfl⟩ := List.mem_map.mp ha
    exact hrow i (List.mem_range.mp hi))
  have hD2 : va_D A (((X ++ va_pl L f) ++ [(H.size, .inl (cA, n.toNatClampNeg, .inr (.inr (.inr (.inr (fun i => if i < n.toNatClampNeg then some (H.size + 1 + i) else none))))))]) ++ ((List.range n.toNatClampNeg).map (fun i => H.size + 1 + i)).map (fun a => (a, .inl (cy, z)))) := by
    have hD1 := hD.push (e := .inl (cA, n.toNatClampNeg, .inr (.inr (.inr (.inr (fun i => if i < n.toNatClampNeg then some (H.size + 1 + i) else none)))))) hP rfl (hA _ hS.1)
    generalize hW1 : (X ++ va_pl L f) ++ [(H.size, .inl (cA, n.toNatClampNeg, .inr (.inr (.inr (.inr (fun i => if i < n.toNatClampNeg then some (H.size + 1 + i) else none))))))] = W1 at hD1 hP1 ⊢
    have hle : ∀ (k9 : Nat) (x : Nat × va_E), W1[k9]? = some x → x.1 ≤ H.size := fun k9 x hx => by
      rw [← hW1] at hx
      by_cases hl : k9 < (X ++ va_pl L f).length
      · rw [List.getElem?_append_left hl] at hx
        exact Nat.le_of_lt ((hP k9 x hx).lt)
      · rw [List.getElem?_append_right (by omega)] at hx
        have h0 : k9 - (X ++ va_pl L f).length < 1 := (List.getElem?_eq_some_iff.mp hx).1
        rw [show k9 - (X ++ va_pl L f).length = 0 by omega] at hx
        cases hx
        exact Nat.le_refl _
    have hr : ∀ (k9 : Nat) (x : Nat × va_E), (((List.range n.toNatClampNeg).map (fun i => H.size + 1 + i)).map (fun a => ((a, .inl (cy, z)) : Nat × va_E)))[k9]? = some x → x.1 = H.size + 1 + k9 := fun k9 x hx => by
      rw [List.getElem?_map, List.getElem?_map] at hx
      by_cases h9 : k9 < n.toNatClampNeg
      · rw [List.getElem?_range h9] at hx
        cases hx
        rfl
      · have hn0 : (List.range n.toNatClampNeg)[k9]? = none := List.getElem?_eq_none (by rw [List.length_range]; omega)
        rw [hn0] at hx
        cases hx
    refine ⟨fun i j x y hi hj hxy => ?_, fun k9 x hx => ?_⟩
    · by_cases h1 : i < W1.length <;> by_cases h2 : j < W1.length
      · rw [List.getElem?_append_left h1] at hi
        rw [List.getElem?_append_left h2] at hj
        exact hD1.1 i j x y hi hj hxy
      · rw [List.getElem?_append_left h1] at hi
        rw [List.getElem?_append_right (by omega)] at hj
        have := hle _ _ hi
        have := hr _ _ hj
        omega
      · rw [List.getElem?_append_right (by omega)] at hi
        rw [List.getElem?_append_left h2] at hj
        have := hle _ _ hj
        have := hr _ _ hi
        omega
      · rw [List.getElem?_append_right (by omega)] at hi hj
        have := hr _ _ hi
        have := hr _ _ hj
        omega
    · by_cases h1 : k9 < W1.length
      · rw [List.getElem?_append_left h1] at hx
        exact hD1.2 k9 x hx
      · rw [List.getElem?_append_right (by omega)] at hx
        have := hr _ _ hx
        exact hA _ (by have := hS.1; omega)
  have hAr : ArrOfT s cA (.array ty) := fun N9 z9 => by
    obtain ⟨-, k9, hk9, cm9, hkk9⟩ := (hO 0 0 0).1
    exact ⟨(fun q hq => by cases hq), k9, hk9, cm9, hkk9⟩
  have hK2 : va_K D cl (tys ++ [(cA, .array ty)]) s := ⟨hK.1, fun k9 x hx => by
    by_cases hl : k9 < tys.length
    · rw [List.getElem?_append_left hl] at hx
      exact hK.2 k9 x hx
    · rw [List.getElem?_append_right (by omega)] at hx
      have h0 : k9 - tys.length < 1 := (List.getElem?_eq_some_iff.mp hx).1
      rw [show k9 - tys.length = 0 by omega] at hx
      cases hx
      exact ⟨hAr, fA⟩⟩
  obtain ⟨t, a1, b1⟩ := kk H.size (fun i => H.size + 1 + i) cA F.heap (fun i j _ _ h => by have h9 : H.size + 1 + i = H.size + 1 + j := h; omega) hnl hK2 (by rw [← vr_rows hnm]; exact vr_lay hP2) (by rw [← vr_rows hnm]; exact vr_layD hD2) ⟨by rw [f1]; have := hS.1; omega, fun x h1 h2 => (hold x (Nat.lt_of_lt_of_le h1 hS.1)).trans (hS.2.1 x h1 h2), hS.2.2⟩ F rfl X'
  refine ⟨t, step t ?_, b1⟩
  have e : T.heap.size = H.size := by rw [hT]
  rw [e]
  exact a1
end VGM
/-! ===== END ===== -/

def RX0 : String := "HeelPost$Acts"
def TX0 : u_T := fun k => match k with
  | 0 => ("HeelPost$Acts", "before", "[LHeelPost$Town;", true)
  | 1 => ("HeelPost$Acts", "oldest", "I", false)
  | _ => ("HeelPost$Acts", "size", "I", false)
def tyX0 : Nat → FieldType := fun k => match k with
  | 0 => .array (.object "HeelPost$Town")
  | 1 => .int
  | _ => .int
theorem nmX0 : ∀ a, a < 3 → ∀ b, b < 3 → a ≠ b → (TX0 a).2.1 ≠ (TX0 b).2.1 := by decide +kernel
theorem tyX0_ok : ∀ k, k < 3 → parseFieldDescriptor (TX0 k).2.2.1 = some (tyX0 k) := by decide +kernel
abbrev cX0_init : ByteArray := prog_2_method_1_code
def yX0_init : MethodName := ⟨RX0, "<init>", "()V"⟩
abbrev cX0_size : ByteArray := prog_2_method_2_code
def yX0_size : MethodName := ⟨RX0, "size", "()I"⟩
abbrev cX0_forget : ByteArray := prog_2_method_3_code
def yX0_forget : MethodName := ⟨RX0, "forget", "()V"⟩
abbrev cX0_keep : ByteArray := prog_2_method_4_code
def yX0_keep : MethodName := ⟨RX0, "keep", "(LHeelPost$Town;)V"⟩
abbrev cX0_takeBack : ByteArray := prog_2_method_5_code
def yX0_takeBack : MethodName := ⟨RX0, "takeBack", "(LHeelPost$Town;)Z"⟩
def RX1 : String := "HeelPost$Asks"
def TX1 : u_T := fun k => match k with
  | 0 => ("HeelPost$Asks", "traces", "[I", true)
  | _ => ("HeelPost$Asks", "length", "I", false)
def tyX1 : Nat → FieldType := fun k => match k with
  | 0 => .array .int
  | _ => .int
theorem nmX1 : ∀ a, a < 2 → ∀ b, b < 2 → a ≠ b → (TX1 a).2.1 ≠ (TX1 b).2.1 := by decide +kernel
theorem tyX1_ok : ∀ k, k < 2 → parseFieldDescriptor (TX1 k).2.2.1 = some (tyX1 k) := by decide +kernel
abbrev cX1_init : ByteArray := prog_3_method_1_code
def yX1_init : MethodName := ⟨RX1, "<init>", "()V"⟩
abbrev cX1_isOne : ByteArray := prog_3_method_2_code
def yX1_isOne : MethodName := ⟨RX1, "isOne", "(II)Z"⟩
abbrev cX1_traced : ByteArray := prog_3_method_3_code
def yX1_traced : MethodName := ⟨RX1, "traced", "(I)I"⟩
abbrev cX1_put : ByteArray := prog_3_method_4_code
def yX1_put : MethodName := ⟨RX1, "put", "(LHeelPost$Town;II)I"⟩
abbrev cX1_asked : ByteArray := prog_3_method_5_code
def yX1_asked : MethodName := ⟨RX1, "asked", "(LHeelPost$Town;III)I"⟩
abbrev cX1_given : ByteArray := prog_3_method_6_code
def yX1_given : MethodName := ⟨RX1, "given", "(LHeelPost$Town;III)I"⟩
abbrev cX1_leave : ByteArray := prog_3_method_7_code
def yX1_leave : MethodName := ⟨RX1, "leave", "(I)V"⟩
def RX2 : String := "HeelPost$Errands"
def TX2 : u_T := fun k => match k with
  | 0 => ("HeelPost$Errands", "places", "[[I", true)
  | 1 => ("HeelPost$Errands", "goingUp", "[I", true)
  | 2 => ("HeelPost$Errands", "goingDown", "[I", true)
  | 3 => ("HeelPost$Errands", "carriers", "[I", true)
  | 4 => ("HeelPost$Errands", "first", "I", false)
  | 5 => ("HeelPost$Errands", "span", "I", false)
  | 6 => ("HeelPost$Errands", "laden", "I", false)
  | _ => ("HeelPost$Errands", "halfLaden", "I", false)
def tyX2 : Nat → FieldType := fun k => match k with
  | 0 => .array (.array .int)
  | 1 => .array .int
  | 2 => .array .int
  | 3 => .array .int
  | 4 => .int
  | 5 => .int
  | 6 => .int
  | _ => .int
theorem nmX2 : ∀ a, a < 8 → ∀ b, b < 8 → a ≠ b → (TX2 a).2.1 ≠ (TX2 b).2.1 := by decide +kernel
theorem tyX2_ok : ∀ k, k < 8 → parseFieldDescriptor (TX2 k).2.2.1 = some (tyX2 k) := by decide +kernel
abbrev cX2_init : ByteArray := prog_4_method_1_code
def yX2_init : MethodName := ⟨RX2, "<init>", "()V"⟩
abbrev cX2_foresee : ByteArray := prog_4_method_2_code
def yX2_foresee : MethodName := ⟨RX2, "foresee", "(LHeelPost$Town;I)V"⟩
abbrev cX2_foreseeOne : ByteArray := prog_4_method_3_code
def yX2_foreseeOne : MethodName := ⟨RX2, "foreseeOne", "(LHeelPost$Town;I)V"⟩
abbrev cX2_pass : ByteArray := prog_4_method_4_code
def yX2_pass : MethodName := ⟨RX2, "pass", "(LHeelPost$Town;)V"⟩
abbrev cX2_carrierOf : ByteArray := prog_4_method_5_code
def yX2_carrierOf : MethodName := ⟨RX2, "carrierOf", "(LHeelPost$Town;II)I"⟩
abbrev cX2_carryOn : ByteArray := prog_4_method_6_code
def yX2_carryOn : MethodName := ⟨RX2, "carryOn", "(LHeelPost$Town;II)V"⟩
abbrev cX2_carrierThen : ByteArray := prog_4_method_7_code
def yX2_carrierThen : MethodName := ⟨RX2, "carrierThen", "(I)I"⟩
def RX3 : String := "HeelPost$Foretold"
def TX3 : u_T := fun k => match k with
  | 0 => ("HeelPost$Foretold", "errands", "LHeelPost$Errands;", true)
  | 1 => ("HeelPost$Foretold", "trial", "LHeelPost$Town;", true)
  | 2 => ("HeelPost$Foretold", "later", "LHeelPost$Town;", true)
  | 3 => ("HeelPost$Foretold", "carried", "[I", true)
  | 4 => ("HeelPost$Foretold", "heard", "[I", true)
  | _ => ("HeelPost$Foretold", "heardHours", "I", false)
def tyX3 : Nat → FieldType := fun k => match k with
  | 0 => .object "HeelPost$Errands"
  | 1 => .object "HeelPost$Town"
  | 2 => .object "HeelPost$Town"
  | 3 => .array .int
  | 4 => .array .int
  | _ => .int
theorem nmX3 : ∀ a, a < 6 → ∀ b, b < 6 → a ≠ b → (TX3 a).2.1 ≠ (TX3 b).2.1 := by decide +kernel
theorem tyX3_ok : ∀ k, k < 6 → parseFieldDescriptor (TX3 k).2.2.1 = some (tyX3 k) := by decide +kernel
abbrev cX3_init : ByteArray := prog_5_method_1_code
def yX3_init : MethodName := ⟨RX3, "<init>", "(LHeelPost$Errands;)V"⟩
abbrev cX3_prepare : ByteArray := prog_5_method_2_code
def yX3_prepare : MethodName := ⟨RX3, "prepare", "(LHeelPost$Town;I)V"⟩
abbrev cX3_goUntilThere : ByteArray := prog_5_method_3_code
def yX3_goUntilThere : MethodName := ⟨RX3, "goUntilThere", "(II)I"⟩
abbrev cX3_nextCarrier : ByteArray := prog_5_method_4_code
def yX3_nextCarrier : MethodName := ⟨RX3, "nextCarrier", "(LHeelPost$Town;I)I"⟩
abbrev cX3_placeBehind : ByteArray := prog_5_method_5_code
def yX3_placeBehind : MethodName := ⟨RX3, "placeBehind", "(LHeelPost$Town;II)I"⟩
abbrev cX3_arrival : ByteArray := prog_5_method_6_code
def yX3_arrival : MethodName := ⟨RX3, "arrival", "(LHeelPost$Town;I)I"⟩
abbrev cX3_carriersOf : ByteArray := prog_5_method_7_code
def yX3_carriersOf : MethodName := ⟨RX3, "carriersOf", "(LHeelPost$Town;II)I"⟩
abbrev cX3_soonest : ByteArray := prog_5_method_8_code
def yX3_soonest : MethodName := ⟨RX3, "soonest", "(LHeelPost$Town;III)I"⟩
abbrev cX3_reaches : ByteArray := prog_5_method_9_code
def yX3_reaches : MethodName := ⟨RX3, "reaches", "(LHeelPost$Town;III)Z"⟩
abbrev cX3_spotsFor : ByteArray := prog_5_method_10_code
def yX3_spotsFor : MethodName := ⟨RX3, "spotsFor", "(LHeelPost$Town;II)I"⟩
abbrev cX3_unreached : ByteArray := prog_5_method_11_code
def yX3_unreached : MethodName := ⟨RX3, "unreached", "(LHeelPost$Town;)I"⟩
abbrev cX3_isThereWith : ByteArray := prog_5_method_12_code
def yX3_isThereWith : MethodName := ⟨RX3, "isThereWith", "(LHeelPost$Town;III)Z"⟩
abbrev cX3_fewest : ByteArray := prog_5_method_13_code
def yX3_fewest : MethodName := ⟨RX3, "fewest", "(LHeelPost$Town;III)I"⟩
abbrev cX3_neededFor : ByteArray := prog_5_method_14_code
def yX3_neededFor : MethodName := ⟨RX3, "neededFor", "(LHeelPost$Town;II)I"⟩
abbrev cX3_meeting : ByteArray := prog_5_method_15_code
def yX3_meeting : MethodName := ⟨RX3, "meeting", "(LHeelPost$Town;II)I"⟩
abbrev cX3_answerTo : ByteArray := prog_5_method_16_code
def yX3_answerTo : MethodName := ⟨RX3, "answerTo", "(LHeelPost$Town;I)I"⟩
abbrev cX3_hear : ByteArray := prog_5_method_17_code
def yX3_hear : MethodName := ⟨RX3, "hear", "(LHeelPost$Rows;III)V"⟩
abbrev cX3_fits : ByteArray := prog_5_method_18_code
def yX3_fits : MethodName := ⟨RX3, "fits", "(I)Z"⟩
abbrev cX3_kindsThatFit : ByteArray := prog_5_method_19_code
def yX3_kindsThatFit : MethodName := ⟨RX3, "kindsThatFit", "(LHeelPost$Town;II)I"⟩
abbrev cX3_beginsThatFit : ByteArray := prog_5_method_20_code
def yX3_beginsThatFit : MethodName := ⟨RX3, "beginsThatFit", "(LHeelPost$Town;II)I"⟩
abbrev cX3_absentThatFit : ByteArray := prog_5_method_21_code
def yX3_absentThatFit : MethodName := ⟨RX3, "absentThatFit", "(LHeelPost$Town;I)I"⟩
abbrev cX3_goalsThatFit : ByteArray := prog_5_method_22_code
def yX3_goalsThatFit : MethodName := ⟨RX3, "goalsThatFit", "(LHeelPost$Town;I)I"⟩
abbrev cX3_busiest : ByteArray := prog_5_method_23_code
def yX3_busiest : MethodName := ⟨RX3, "busiest", "(LHeelPost$Town;II)I"⟩
abbrev cX3_tally : ByteArray := prog_5_method_24_code
def yX3_tally : MethodName := ⟨RX3, "tally", "()I"⟩
abbrev cX3_likelihood : ByteArray := prog_5_method_25_code
def yX3_likelihood : MethodName := ⟨RX3, "likelihood", "(LHeelPost$Town;IIII)J"⟩
abbrev cX3_power : ByteArray := prog_5_method_26_code
def yX3_power : MethodName := ⟨RX3, "power", "(JI)J"⟩
abbrev cX3_commonDivisor : ByteArray := prog_5_method_27_code
def yX3_commonDivisor : MethodName := ⟨RX3, "commonDivisor", "(JJ)J"⟩
abbrev cX3_weeks : ByteArray := prog_5_method_28_code
def yX3_weeks : MethodName := ⟨RX3, "weeks", "(LHeelPost$Town;III)I"⟩
def RX4 : String := "HeelPost$Rows"
def TX4 : u_T := fun k => match k with
  | 0 => ("HeelPost$Rows", "items", "[[I", true)
  | 1 => ("HeelPost$Rows", "lanes", "[I", true)
  | _ => ("HeelPost$Rows", "lengths", "[I", true)
def tyX4 : Nat → FieldType := fun k => match k with
  | 0 => .array (.array .int)
  | 1 => .array .int
  | _ => .array .int
theorem nmX4 : ∀ a, a < 3 → ∀ b, b < 3 → a ≠ b → (TX4 a).2.1 ≠ (TX4 b).2.1 := by decide +kernel
theorem tyX4_ok : ∀ k, k < 3 → parseFieldDescriptor (TX4 k).2.2.1 = some (tyX4 k) := by decide +kernel
abbrev cX4_init : ByteArray := prog_6_method_1_code
def yX4_init : MethodName := ⟨RX4, "<init>", "()V"⟩
abbrev cX4_isRow : ByteArray := prog_6_method_2_code
def yX4_isRow : MethodName := ⟨RX4, "isRow", "(I)Z"⟩
abbrev cX4_isThere : ByteArray := prog_6_method_3_code
def yX4_isThere : MethodName := ⟨RX4, "isThere", "(I)Z"⟩
abbrev cX4_laneOf : ByteArray := prog_6_method_4_code
def yX4_laneOf : MethodName := ⟨RX4, "laneOf", "(I)I"⟩
abbrev cX4_lengthOf : ByteArray := prog_6_method_5_code
def yX4_lengthOf : MethodName := ⟨RX4, "lengthOf", "(I)I"⟩
abbrev cX4_howMany : ByteArray := prog_6_method_6_code
def yX4_howMany : MethodName := ⟨RX4, "howMany", "()I"⟩
abbrev cX4_make : ByteArray := prog_6_method_7_code
def yX4_make : MethodName := ⟨RX4, "make", "(III)V"⟩
abbrev cX4_lose : ByteArray := prog_6_method_8_code
def yX4_lose : MethodName := ⟨RX4, "lose", "(I)V"⟩
abbrev cX4_hasPlaces : ByteArray := prog_6_method_9_code
def yX4_hasPlaces : MethodName := ⟨RX4, "hasPlaces", "(III)Z"⟩
abbrev cX4_findingOf : ByteArray := prog_6_method_10_code
def yX4_findingOf : MethodName := ⟨RX4, "findingOf", "(III)I"⟩
abbrev cX4_itemAt : ByteArray := prog_6_method_11_code
def yX4_itemAt : MethodName := ⟨RX4, "itemAt", "(II)I"⟩
abbrev cX4_put : ByteArray := prog_6_method_12_code
def yX4_put : MethodName := ⟨RX4, "put", "(III)I"⟩
abbrev cX4_carryOver : ByteArray := prog_6_method_13_code
def yX4_carryOver : MethodName := ⟨RX4, "carryOver", "(IIIII)V"⟩
abbrev cX4_cut : ByteArray := prog_6_method_14_code
def yX4_cut : MethodName := ⟨RX4, "cut", "(II)I"⟩
def RX5 : String := "HeelPost$Tape"
def TX5 : u_T := fun k => match k with
  | 0 => ("HeelPost$Tape", "bytes", "[I", true)
  | 1 => ("HeelPost$Tape", "length", "I", false)
  | 2 => ("HeelPost$Tape", "at", "I", false)
  | 3 => ("HeelPost$Tape", "faultNumber", "I", false)
  | _ => ("HeelPost$Tape", "faultPlace", "I", false)
def tyX5 : Nat → FieldType := fun k => match k with
  | 0 => .array .int
  | 1 => .int
  | 2 => .int
  | 3 => .int
  | _ => .int
theorem nmX5 : ∀ a, a < 5 → ∀ b, b < 5 → a ≠ b → (TX5 a).2.1 ≠ (TX5 b).2.1 := by decide +kernel
theorem tyX5_ok : ∀ k, k < 5 → parseFieldDescriptor (TX5 k).2.2.1 = some (tyX5 k) := by decide +kernel
abbrev cX5_init : ByteArray := prog_7_method_1_code
def yX5_init : MethodName := ⟨RX5, "<init>", "()V"⟩
abbrev cX5_add : ByteArray := prog_7_method_2_code
def yX5_add : MethodName := ⟨RX5, "add", "(I)Z"⟩
abbrev cX5_length : ByteArray := prog_7_method_3_code
def yX5_length : MethodName := ⟨RX5, "length", "()I"⟩
abbrev cX5_clear : ByteArray := prog_7_method_4_code
def yX5_clear : MethodName := ⟨RX5, "clear", "()V"⟩
abbrev cX5_faultPlace : ByteArray := prog_7_method_5_code
def yX5_faultPlace : MethodName := ⟨RX5, "faultPlace", "()I"⟩
abbrev cX5_read : ByteArray := prog_7_method_6_code
def yX5_read : MethodName := ⟨RX5, "read", "(LHeelPost$Town;)I"⟩
abbrev cX5_readPerson : ByteArray := prog_7_method_7_code
def yX5_readPerson : MethodName := ⟨RX5, "readPerson", "(LHeelPost$Town;)V"⟩
abbrev cX5_readSort : ByteArray := prog_7_method_8_code
def yX5_readSort : MethodName := ⟨RX5, "readSort", "(I)I"⟩
abbrev cX5_kindOf : ByteArray := prog_7_method_9_code
def yX5_kindOf : MethodName := ⟨RX5, "kindOf", "(I)I"⟩
abbrev cX5_readSign : ByteArray := prog_7_method_10_code
def yX5_readSign : MethodName := ⟨RX5, "readSign", "(I)V"⟩
abbrev cX5_readNumber : ByteArray := prog_7_method_11_code
def yX5_readNumber : MethodName := ⟨RX5, "readNumber", "(II)I"⟩
abbrev cX5_isFigure : ByteArray := prog_7_method_12_code
def yX5_isFigure : MethodName := ⟨RX5, "isFigure", "(I)Z"⟩
abbrev cX5_fail : ByteArray := prog_7_method_13_code
def yX5_fail : MethodName := ⟨RX5, "fail", "(I)V"⟩
abbrev cX5_failAt : ByteArray := prog_7_method_14_code
def yX5_failAt : MethodName := ⟨RX5, "failAt", "(II)V"⟩
def RX6 : String := "HeelPost$Town"
def TX6 : u_T := fun k => match k with
  | 0 => ("HeelPost$Town", "lanes", "I", false)
  | 1 => ("HeelPost$Town", "hoursOfDay", "I", false)
  | 2 => ("HeelPost$Town", "people", "I", false)
  | 3 => ("HeelPost$Town", "hour", "I", false)
  | 4 => ("HeelPost$Town", "out", "I", false)
  | 5 => ("HeelPost$Town", "home", "I", false)
  | 6 => ("HeelPost$Town", "kinds", "[I", true)
  | 7 => ("HeelPost$Town", "from", "[I", true)
  | 8 => ("HeelPost$Town", "to", "[I", true)
  | 9 => ("HeelPost$Town", "begins", "[I", true)
  | 10 => ("HeelPost$Town", "lies", "[I", true)
  | _ => ("HeelPost$Town", "goal", "[I", true)
def tyX6 : Nat → FieldType := fun k => match k with
  | 0 => .int
  | 1 => .int
  | 2 => .int
  | 3 => .int
  | 4 => .int
  | 5 => .int
  | 6 => .array .int
  | 7 => .array .int
  | 8 => .array .int
  | 9 => .array .int
  | 10 => .array .int
  | _ => .array .int
theorem nmX6 : ∀ a, a < 12 → ∀ b, b < 12 → a ≠ b → (TX6 a).2.1 ≠ (TX6 b).2.1 := by decide +kernel
theorem tyX6_ok : ∀ k, k < 12 → parseFieldDescriptor (TX6 k).2.2.1 = some (tyX6 k) := by decide +kernel
abbrev cX6_init : ByteArray := prog_8_method_1_code
def yX6_init : MethodName := ⟨RX6, "<init>", "()V"⟩
abbrev cX6_stands : ByteArray := prog_8_method_2_code
def yX6_stands : MethodName := ⟨RX6, "stands", "()Z"⟩
abbrev cX6_clear : ByteArray := prog_8_method_3_code
def yX6_clear : MethodName := ⟨RX6, "clear", "()V"⟩
abbrev cX6_take : ByteArray := prog_8_method_4_code
def yX6_take : MethodName := ⟨RX6, "take", "(LHeelPost$Town;)V"⟩
abbrev cX6_takeLetters : ByteArray := prog_8_method_5_code
def yX6_takeLetters : MethodName := ⟨RX6, "takeLetters", "(LHeelPost$Town;)V"⟩
abbrev cX6_settle : ByteArray := prog_8_method_6_code
def yX6_settle : MethodName := ⟨RX6, "settle", "(IIII)V"⟩
abbrev cX6_putOut : ByteArray := prog_8_method_7_code
def yX6_putOut : MethodName := ⟨RX6, "putOut", "(III)V"⟩
abbrev cX6_isOut : ByteArray := prog_8_method_8_code
def yX6_isOut : MethodName := ⟨RX6, "isOut", "(I)Z"⟩
abbrev cX6_isThere : ByteArray := prog_8_method_9_code
def yX6_isThere : MethodName := ⟨RX6, "isThere", "(I)Z"⟩
abbrev cX6_isUnderWay : ByteArray := prog_8_method_10_code
def yX6_isUnderWay : MethodName := ⟨RX6, "isUnderWay", "(I)Z"⟩
abbrev cX6_arrived : ByteArray := prog_8_method_11_code
def yX6_arrived : MethodName := ⟨RX6, "arrived", "()I"⟩
abbrev cX6_isHome : ByteArray := prog_8_method_12_code
def yX6_isHome : MethodName := ⟨RX6, "isHome", "(I)Z"⟩
abbrev cX6_everybody : ByteArray := prog_8_method_13_code
def yX6_everybody : MethodName := ⟨RX6, "everybody", "()I"⟩
abbrev cX6_whereIs : ByteArray := prog_8_method_14_code
def yX6_whereIs : MethodName := ⟨RX6, "whereIs", "(II)I"⟩
abbrev cX6_peopleIn : ByteArray := prog_8_method_15_code
def yX6_peopleIn : MethodName := ⟨RX6, "peopleIn", "(I)I"⟩
abbrev cX6_placeOnErrand : ByteArray := prog_8_method_16_code
def yX6_placeOnErrand : MethodName := ⟨RX6, "placeOnErrand", "(II)I"⟩
abbrev cX6_stepsOf : ByteArray := prog_8_method_17_code
def yX6_stepsOf : MethodName := ⟨RX6, "stepsOf", "(IIZ)I"⟩
def RX7 : String := "HeelPost"
def TX7 : u_T := fun k => match k with
  | 0 => ("HeelPost", "rows", "LHeelPost$Rows;", true)
  | 1 => ("HeelPost", "tape", "LHeelPost$Tape;", true)
  | 2 => ("HeelPost", "now", "LHeelPost$Town;", true)
  | 3 => ("HeelPost", "told", "LHeelPost$Town;", true)
  | 4 => ("HeelPost", "acts", "LHeelPost$Acts;", true)
  | 5 => ("HeelPost", "errands", "LHeelPost$Errands;", true)
  | 6 => ("HeelPost", "foretold", "LHeelPost$Foretold;", true)
  | 7 => ("HeelPost", "asks", "LHeelPost$Asks;", true)
  | 8 => ("HeelPost", "images", "[LHeelPost$Town;", true)
  | 9 => ("HeelPost", "latestFault", "I", false)
  | _ => ("HeelPost", "latestFinding", "I", false)
def tyX7 : Nat → FieldType := fun k => match k with
  | 0 => .object "HeelPost$Rows"
  | 1 => .object "HeelPost$Tape"
  | 2 => .object "HeelPost$Town"
  | 3 => .object "HeelPost$Town"
  | 4 => .object "HeelPost$Acts"
  | 5 => .object "HeelPost$Errands"
  | 6 => .object "HeelPost$Foretold"
  | 7 => .object "HeelPost$Asks"
  | 8 => .array (.object "HeelPost$Town")
  | 9 => .int
  | _ => .int
theorem nmX7 : ∀ a, a < 11 → ∀ b, b < 11 → a ≠ b → (TX7 a).2.1 ≠ (TX7 b).2.1 := by decide +kernel
theorem tyX7_ok : ∀ k, k < 11 → parseFieldDescriptor (TX7 k).2.2.1 = some (tyX7 k) := by decide +kernel
abbrev cX7_init : ByteArray := prog_1_method_1_code
def yX7_init : MethodName := ⟨RX7, "<init>", "()V"⟩
abbrev cX7_row : ByteArray := prog_1_method_2_code
def yX7_row : MethodName := ⟨RX7, "row", "(III)I"⟩
abbrev cX7_set : ByteArray := prog_1_method_3_code
def yX7_set : MethodName := ⟨RX7, "set", "(III)I"⟩
abbrev cX7_copy : ByteArray := prog_1_method_4_code
def yX7_copy : MethodName := ⟨RX7, "copy", "(IIIII)I"⟩
abbrev cX7_drop : ByteArray := prog_1_method_5_code
def yX7_drop : MethodName := ⟨RX7, "drop", "(I)I"⟩
abbrev cX7_feed : ByteArray := prog_1_method_6_code
def yX7_feed : MethodName := ⟨RX7, "feed", "(I)I"⟩
abbrev cX7_town : ByteArray := prog_1_method_7_code
def yX7_town : MethodName := ⟨RX7, "town", "()I"⟩
abbrev cX7_fault : ByteArray := prog_1_method_8_code
def yX7_fault : MethodName := ⟨RX7, "fault", "()I"⟩
abbrev cX7_undo : ByteArray := prog_1_method_9_code
def yX7_undo : MethodName := ⟨RX7, "undo", "()I"⟩
abbrev cX7_hours : ByteArray := prog_1_method_10_code
def yX7_hours : MethodName := ⟨RX7, "hours", "(I)I"⟩
abbrev cX7_post : ByteArray := prog_1_method_11_code
def yX7_post : MethodName := ⟨RX7, "post", "(III)I"⟩
abbrev cX7_callBack : ByteArray := prog_1_method_12_code
def yX7_callBack : MethodName := ⟨RX7, "callBack", "(I)I"⟩
abbrev cX7_begin : ByteArray := prog_1_method_13_code
def yX7_begin : MethodName := ⟨RX7, "begin", "(II)I"⟩
abbrev cX7_stay : ByteArray := prog_1_method_14_code
def yX7_stay : MethodName := ⟨RX7, "stay", "(II)I"⟩
abbrev cX7_person : ByteArray := prog_1_method_15_code
def yX7_person : MethodName := ⟨RX7, "person", "(II)I"⟩
abbrev cX7_letter : ByteArray := prog_1_method_16_code
def yX7_letter : MethodName := ⟨RX7, "letter", "(II)I"⟩
abbrev cX7_lane : ByteArray := prog_1_method_17_code
def yX7_lane : MethodName := ⟨RX7, "lane", "(I)I"⟩
abbrev cX7_ahead : ByteArray := prog_1_method_18_code
def yX7_ahead : MethodName := ⟨RX7, "ahead", "(II)I"⟩
abbrev cX7_letterAhead : ByteArray := prog_1_method_19_code
def yX7_letterAhead : MethodName := ⟨RX7, "letterAhead", "(II)I"⟩
abbrev cX7_arrives : ByteArray := prog_1_method_20_code
def yX7_arrives : MethodName := ⟨RX7, "arrives", "(I)I"⟩
abbrev cX7_carriers : ByteArray := prog_1_method_21_code
def yX7_carriers : MethodName := ⟨RX7, "carriers", "(II)I"⟩
abbrev cX7_bestHour : ByteArray := prog_1_method_22_code
def yX7_bestHour : MethodName := ⟨RX7, "bestHour", "(III)I"⟩
abbrev cX7_spots : ByteArray := prog_1_method_23_code
def yX7_spots : MethodName := ⟨RX7, "spots", "(II)I"⟩
abbrev cX7_cutOff : ByteArray := prog_1_method_24_code
def yX7_cutOff : MethodName := ⟨RX7, "cutOff", "()I"⟩
abbrev cX7_crew : ByteArray := prog_1_method_25_code
def yX7_crew : MethodName := ⟨RX7, "crew", "(III)I"⟩
abbrev cX7_needed : ByteArray := prog_1_method_26_code
def yX7_needed : MethodName := ⟨RX7, "needed", "(II)I"⟩
abbrev cX7_meet : ByteArray := prog_1_method_27_code
def yX7_meet : MethodName := ⟨RX7, "meet", "(II)I"⟩
abbrev cX7_answer : ByteArray := prog_1_method_28_code
def yX7_answer : MethodName := ⟨RX7, "answer", "(I)I"⟩
abbrev cX7_who : ByteArray := prog_1_method_29_code
def yX7_who : MethodName := ⟨RX7, "who", "(IIIIII)I"⟩
abbrev cX7_missing : ByteArray := prog_1_method_30_code
def yX7_missing : MethodName := ⟨RX7, "missing", "(IIII)I"⟩
abbrev cX7_goals : ByteArray := prog_1_method_31_code
def yX7_goals : MethodName := ⟨RX7, "goals", "(IIII)I"⟩
abbrev cX7_busy : ByteArray := prog_1_method_32_code
def yX7_busy : MethodName := ⟨RX7, "busy", "(II)I"⟩
abbrev cX7_sick : ByteArray := prog_1_method_33_code
def yX7_sick : MethodName := ⟨RX7, "sick", "(IIII)J"⟩
abbrev cX7_drawn : ByteArray := prog_1_method_34_code
def yX7_drawn : MethodName := ⟨RX7, "drawn", "(III)I"⟩
abbrev cX7_image : ByteArray := prog_1_method_35_code
def yX7_image : MethodName := ⟨RX7, "image", "(I)I"⟩
abbrev cX7_restore : ByteArray := prog_1_method_36_code
def yX7_restore : MethodName := ⟨RX7, "restore", "(I)I"⟩
abbrev cX7_kind : ByteArray := prog_1_method_37_code
def yX7_kind : MethodName := ⟨RX7, "kind", "(I)I"⟩
abbrev cX7_as : ByteArray := prog_1_method_38_code
def yX7_as : MethodName := ⟨RX7, "as", "(II)I"⟩
abbrev cX7_ask : ByteArray := prog_1_method_39_code
def yX7_ask : MethodName := ⟨RX7, "ask", "(II)I"⟩
abbrev cX7_trace : ByteArray := prog_1_method_40_code
def yX7_trace : MethodName := ⟨RX7, "trace", "(I)I"⟩
abbrev cX7_count : ByteArray := prog_1_method_41_code
def yX7_count : MethodName := ⟨RX7, "count", "(I)I"⟩
abbrev cX7_status : ByteArray := prog_1_method_42_code
def yX7_status : MethodName := ⟨RX7, "status", "()I"⟩
abbrev cX7_within : ByteArray := prog_1_method_43_code
def yX7_within : MethodName := ⟨RX7, "within", "(III)Z"⟩
abbrev cX7_isSpan : ByteArray := prog_1_method_44_code
def yX7_isSpan : MethodName := ⟨RX7, "isSpan", "(I)Z"⟩
abbrev cX7_isPerson : ByteArray := prog_1_method_45_code
def yX7_isPerson : MethodName := ⟨RX7, "isPerson", "(I)Z"⟩
abbrev cX7_isLane : ByteArray := prog_1_method_46_code
def yX7_isLane : MethodName := ⟨RX7, "isLane", "(I)Z"⟩
abbrev cX7_isLetter : ByteArray := prog_1_method_47_code
def yX7_isLetter : MethodName := ⟨RX7, "isLetter", "(I)Z"⟩
abbrev cX7_refusalOf : ByteArray := prog_1_method_48_code
def yX7_refusalOf : MethodName := ⟨RX7, "refusalOf", "(IZ)I"⟩
abbrev cX7_refusalOfTold : ByteArray := prog_1_method_49_code
def yX7_refusalOfTold : MethodName := ⟨RX7, "refusalOfTold", "(IZIII)I"⟩
abbrev cX7_found : ByteArray := prog_1_method_50_code
def yX7_found : MethodName := ⟨RX7, "found", "(I)I"⟩
abbrev cX7_unfound : ByteArray := prog_1_method_51_code
def yX7_unfound : MethodName := ⟨RX7, "unfound", "(I)I"⟩
def RX8 : String := "HeelPostModel"
def TX8 : u_T := fun k => match k with
  | 0 => ("HeelPostModel", "thrown", "I", false)
  | 1 => ("HeelPostModel", "status", "I", false)
  | 2 => ("HeelPostModel", "lane", "[I", true)
  | 3 => ("HeelPostModel", "many", "[I", true)
  | 4 => ("HeelPostModel", "item", "[I", true)
  | 5 => ("HeelPostModel", "town", "[I", true)
  | 6 => ("HeelPostModel", "fresh", "[I", true)
  | 7 => ("HeelPostModel", "then", "[I", true)
  | 8 => ("HeelPostModel", "was", "[I", true)
  | 9 => ("HeelPostModel", "acts", "I", false)
  | 10 => ("HeelPostModel", "tape", "[I", true)
  | 11 => ("HeelPostModel", "taped", "I", false)
  | 12 => ("HeelPostModel", "cursor", "I", false)
  | 13 => ("HeelPostModel", "start", "I", false)
  | 14 => ("HeelPostModel", "token", "I", false)
  | 15 => ("HeelPostModel", "value", "I", false)
  | 16 => ("HeelPostModel", "fault", "I", false)
  | 17 => ("HeelPostModel", "faultAt", "I", false)
  | 18 => ("HeelPostModel", "latest", "I", false)
  | 19 => ("HeelPostModel", "carrier", "[I", true)
  | 20 => ("HeelPostModel", "load", "[I", true)
  | 21 => ("HeelPostModel", "often", "[I", true)
  | 22 => ("HeelPostModel", "isKept", "[Z", true)
  | 23 => ("HeelPostModel", "kept", "[I", true)
  | 24 => ("HeelPostModel", "trace", "[I", true)
  | _ => ("HeelPostModel", "traced", "I", false)
def tyX8 : Nat → FieldType := fun k => match k with
  | 0 => .int
  | 1 => .int
  | 2 => .array .int
  | 3 => .array .int
  | 4 => .array .int
  | 5 => .array .int
  | 6 => .array .int
  | 7 => .array .int
  | 8 => .array .int
  | 9 => .int
  | 10 => .array .int
  | 11 => .int
  | 12 => .int
  | 13 => .int
  | 14 => .int
  | 15 => .int
  | 16 => .int
  | 17 => .int
  | 18 => .int
  | 19 => .array .int
  | 20 => .array .int
  | 21 => .array .int
  | 22 => .array .boolean
  | 23 => .array .int
  | 24 => .array .int
  | _ => .int
theorem nmX8 : ∀ a, a < 26 → ∀ b, b < 26 → a ≠ b → (TX8 a).2.1 ≠ (TX8 b).2.1 := by decide +kernel
theorem tyX8_ok : ∀ k, k < 26 → parseFieldDescriptor (TX8 k).2.2.1 = some (tyX8 k) := by decide +kernel
abbrev cX8_init : ByteArray := prog_10_method_1_code
def yX8_init : MethodName := ⟨RX8, "<init>", "()V"⟩
abbrev cX8_in : ByteArray := prog_10_method_3_code
def yX8_in : MethodName := ⟨RX8, "in", "(JJJ)Z"⟩
abbrev cX8_finding : ByteArray := prog_10_method_4_code
def yX8_finding : MethodName := ⟨RX8, "finding", "(I)I"⟩
abbrev cX8_isRow : ByteArray := prog_10_method_5_code
def yX8_isRow : MethodName := ⟨RX8, "isRow", "(I)Z"⟩
abbrev cX8_row : ByteArray := prog_10_method_6_code
def yX8_row : MethodName := ⟨RX8, "row", "(III)I"⟩
abbrev cX8_set : ByteArray := prog_10_method_7_code
def yX8_set : MethodName := ⟨RX8, "set", "(III)I"⟩
abbrev cX8_copy : ByteArray := prog_10_method_8_code
def yX8_copy : MethodName := ⟨RX8, "copy", "(IIIII)I"⟩
abbrev cX8_drop : ByteArray := prog_10_method_9_code
def yX8_drop : MethodName := ⟨RX8, "drop", "(I)I"⟩
abbrev cX8_feed : ByteArray := prog_10_method_10_code
def yX8_feed : MethodName := ⟨RX8, "feed", "(I)I"⟩
abbrev cX8_bad : ByteArray := prog_10_method_11_code
def yX8_bad : MethodName := ⟨RX8, "bad", "(I)V"⟩
abbrev cX8_nextToken : ByteArray := prog_10_method_12_code
def yX8_nextToken : MethodName := ⟨RX8, "nextToken", "()V"⟩
abbrev cX8_must : ByteArray := prog_10_method_13_code
def yX8_must : MethodName := ⟨RX8, "must", "(Z)V"⟩
abbrev cX8_isLetter : ByteArray := prog_10_method_14_code
def yX8_isLetter : MethodName := ⟨RX8, "isLetter", "(I)Z"⟩
abbrev cX8_number : ByteArray := prog_10_method_15_code
def yX8_number : MethodName := ⟨RX8, "number", "(II)I"⟩
abbrev cX8_mustSign : ByteArray := prog_10_method_16_code
def yX8_mustSign : MethodName := ⟨RX8, "mustSign", "(I)V"⟩
abbrev cX8_startUp : ByteArray := prog_10_method_17_code
def yX8_startUp : MethodName := ⟨RX8, "startUp", "()V"⟩
abbrev cX8_failed : ByteArray := prog_10_method_18_code
def yX8_failed : MethodName := ⟨RX8, "failed", "()Z"⟩
abbrev cX8_fault : ByteArray := prog_10_method_19_code
def yX8_fault : MethodName := ⟨RX8, "fault", "()I"⟩
abbrev cX8_kindBy : ByteArray := prog_10_method_20_code
def yX8_kindBy : MethodName := ⟨RX8, "kindBy", "(I)I"⟩
abbrev cX8_isSort : ByteArray := prog_10_method_21_code
def yX8_isSort : MethodName := ⟨RX8, "isSort", "()Z"⟩
abbrev cX8_readPerson : ByteArray := prog_10_method_22_code
def yX8_readPerson : MethodName := ⟨RX8, "readPerson", "()V"⟩
abbrev cX8_town : ByteArray := prog_10_method_23_code
def yX8_town : MethodName := ⟨RX8, "town", "()I"⟩
abbrev cX8_isThere : ByteArray := prog_10_method_24_code
def yX8_isThere : MethodName := ⟨RX8, "isThere", "()Z"⟩
abbrev cX8_isPerson : ByteArray := prog_10_method_25_code
def yX8_isPerson : MethodName := ⟨RX8, "isPerson", "(I)Z"⟩
abbrev cX8_isLane : ByteArray := prog_10_method_26_code
def yX8_isLane : MethodName := ⟨RX8, "isLane", "(I)Z"⟩
abbrev cX8_isPosted : ByteArray := prog_10_method_27_code
def yX8_isPosted : MethodName := ⟨RX8, "isPosted", "(I)Z"⟩
abbrev cX8_bits : ByteArray := prog_10_method_28_code
def yX8_bits : MethodName := ⟨RX8, "bits", "(I)I"⟩
abbrev cX8_has : ByteArray := prog_10_method_29_code
def yX8_has : MethodName := ⟨RX8, "has", "(II)Z"⟩
abbrev cX8_of : ByteArray := prog_10_method_30_code
def yX8_of : MethodName := ⟨RX8, "of", "([III)I"⟩
abbrev cX8_its : ByteArray := prog_10_method_31_code
def yX8_its : MethodName := ⟨RX8, "its", "([III)I"⟩
abbrev cX8_isOut : ByteArray := prog_10_method_32_code
def yX8_isOut : MethodName := ⟨RX8, "isOut", "([II)Z"⟩
abbrev cX8_isDone : ByteArray := prog_10_method_33_code
def yX8_isDone : MethodName := ⟨RX8, "isDone", "([II)Z"⟩
abbrev cX8_place : ByteArray := prog_10_method_34_code
def yX8_place : MethodName := ⟨RX8, "place", "([III)I"⟩
abbrev cX8_findCarriers : ByteArray := prog_10_method_35_code
def yX8_findCarriers : MethodName := ⟨RX8, "findCarriers", "([I)V"⟩
abbrev cX8_hour : ByteArray := prog_10_method_36_code
def yX8_hour : MethodName := ⟨RX8, "hour", "([I)I"⟩
abbrev cX8_hoursOf : ByteArray := prog_10_method_37_code
def yX8_hoursOf : MethodName := ⟨RX8, "hoursOf", "([II)V"⟩
abbrev cX8_posts : ByteArray := prog_10_method_38_code
def yX8_posts : MethodName := ⟨RX8, "posts", "([IIII)V"⟩
abbrev cX8_outs : ByteArray := prog_10_method_39_code
def yX8_outs : MethodName := ⟨RX8, "outs", "([I)I"⟩
abbrev cX8_dones : ByteArray := prog_10_method_40_code
def yX8_dones : MethodName := ⟨RX8, "dones", "([I)I"⟩
abbrev cX8_layThen : ByteArray := prog_10_method_41_code
def yX8_layThen : MethodName := ⟨RX8, "layThen", "()V"⟩
abbrev cX8_doneBy : ByteArray := prog_10_method_42_code
def yX8_doneBy : MethodName := ⟨RX8, "doneBy", "(II)I"⟩
abbrev cX8_keep : ByteArray := prog_10_method_43_code
def yX8_keep : MethodName := ⟨RX8, "keep", "()V"⟩
abbrev cX8_hours : ByteArray := prog_10_method_44_code
def yX8_hours : MethodName := ⟨RX8, "hours", "(I)I"⟩
abbrev cX8_post : ByteArray := prog_10_method_45_code
def yX8_post : MethodName := ⟨RX8, "post", "(III)I"⟩
abbrev cX8_callBack : ByteArray := prog_10_method_46_code
def yX8_callBack : MethodName := ⟨RX8, "callBack", "(I)I"⟩
abbrev cX8_begin : ByteArray := prog_10_method_47_code
def yX8_begin : MethodName := ⟨RX8, "begin", "(II)I"⟩
abbrev cX8_stay : ByteArray := prog_10_method_48_code
def yX8_stay : MethodName := ⟨RX8, "stay", "(II)I"⟩
abbrev cX8_undo : ByteArray := prog_10_method_49_code
def yX8_undo : MethodName := ⟨RX8, "undo", "()I"⟩
abbrev cX8_person : ByteArray := prog_10_method_50_code
def yX8_person : MethodName := ⟨RX8, "person", "(II)I"⟩
abbrev cX8_letter : ByteArray := prog_10_method_51_code
def yX8_letter : MethodName := ⟨RX8, "letter", "(II)I"⟩
abbrev cX8_lane : ByteArray := prog_10_method_52_code
def yX8_lane : MethodName := ⟨RX8, "lane", "(I)I"⟩
abbrev cX8_ahead : ByteArray := prog_10_method_53_code
def yX8_ahead : MethodName := ⟨RX8, "ahead", "(II)I"⟩
abbrev cX8_letterAhead : ByteArray := prog_10_method_54_code
def yX8_letterAhead : MethodName := ⟨RX8, "letterAhead", "(II)I"⟩
abbrev cX8_arrives : ByteArray := prog_10_method_55_code
def yX8_arrives : MethodName := ⟨RX8, "arrives", "(I)I"⟩
abbrev cX8_carriers : ByteArray := prog_10_method_56_code
def yX8_carriers : MethodName := ⟨RX8, "carriers", "(II)I"⟩
abbrev cX8_bestHour : ByteArray := prog_10_method_57_code
def yX8_bestHour : MethodName := ⟨RX8, "bestHour", "(III)I"⟩
abbrev cX8_spotsBy : ByteArray := prog_10_method_58_code
def yX8_spotsBy : MethodName := ⟨RX8, "spotsBy", "(II)I"⟩
abbrev cX8_spots : ByteArray := prog_10_method_59_code
def yX8_spots : MethodName := ⟨RX8, "spots", "(II)I"⟩
abbrev cX8_cutOff : ByteArray := prog_10_method_60_code
def yX8_cutOff : MethodName := ⟨RX8, "cutOff", "()I"⟩
abbrev cX8_up : ByteArray := prog_10_method_61_code
def yX8_up : MethodName := ⟨RX8, "up", "()I"⟩
abbrev cX8_crew : ByteArray := prog_10_method_62_code
def yX8_crew : MethodName := ⟨RX8, "crew", "(III)I"⟩
abbrev cX8_needed : ByteArray := prog_10_method_63_code
def yX8_needed : MethodName := ⟨RX8, "needed", "(II)I"⟩
abbrev cX8_meet : ByteArray := prog_10_method_64_code
def yX8_meet : MethodName := ⟨RX8, "meet", "(II)I"⟩
abbrev cX8_answer : ByteArray := prog_10_method_65_code
def yX8_answer : MethodName := ⟨RX8, "answer", "(I)I"⟩
abbrev cX8_isSo : ByteArray := prog_10_method_66_code
def yX8_isSo : MethodName := ⟨RX8, "isSo", "(III)Z"⟩
abbrev cX8_rowFound : ByteArray := prog_10_method_67_code
def yX8_rowFound : MethodName := ⟨RX8, "rowFound", "(III)I"⟩
abbrev cX8_who : ByteArray := prog_10_method_68_code
def yX8_who : MethodName := ⟨RX8, "who", "(IIIIII)I"⟩
abbrev cX8_missing : ByteArray := prog_10_method_69_code
def yX8_missing : MethodName := ⟨RX8, "missing", "(IIII)I"⟩
abbrev cX8_goals : ByteArray := prog_10_method_70_code
def yX8_goals : MethodName := ⟨RX8, "goals", "(IIII)I"⟩
abbrev cX8_busy : ByteArray := prog_10_method_71_code
def yX8_busy : MethodName := ⟨RX8, "busy", "(II)I"⟩
abbrev cX8_sick : ByteArray := prog_10_method_72_code
def yX8_sick : MethodName := ⟨RX8, "sick", "(IIII)J"⟩
abbrev cX8_drawn : ByteArray := prog_10_method_73_code
def yX8_drawn : MethodName := ⟨RX8, "drawn", "(III)I"⟩
abbrev cX8_image : ByteArray := prog_10_method_74_code
def yX8_image : MethodName := ⟨RX8, "image", "(I)I"⟩
abbrev cX8_restore : ByteArray := prog_10_method_75_code
def yX8_restore : MethodName := ⟨RX8, "restore", "(I)I"⟩
abbrev cX8_isOf : ByteArray := prog_10_method_76_code
def yX8_isOf : MethodName := ⟨RX8, "isOf", "(II)Z"⟩
abbrev cX8_kind : ByteArray := prog_10_method_77_code
def yX8_kind : MethodName := ⟨RX8, "kind", "(I)I"⟩
abbrev cX8_as : ByteArray := prog_10_method_78_code
def yX8_as : MethodName := ⟨RX8, "as", "(II)I"⟩
abbrev cX8_began : ByteArray := prog_10_method_79_code
def yX8_began : MethodName := ⟨RX8, "began", "(I)V"⟩
abbrev cX8_plainSize : ByteArray := prog_10_method_80_code
def yX8_plainSize : MethodName := ⟨RX8, "plainSize", "(I)I"⟩
abbrev cX8_maidSize : ByteArray := prog_10_method_81_code
def yX8_maidSize : MethodName := ⟨RX8, "maidSize", "(I)I"⟩
abbrev cX8_markOf : ByteArray := prog_10_method_82_code
def yX8_markOf : MethodName := ⟨RX8, "markOf", "(I)I"⟩
abbrev cX8_sizeOf : ByteArray := prog_10_method_83_code
def yX8_sizeOf : MethodName := ⟨RX8, "sizeOf", "(I)I"⟩
abbrev cX8_ask : ByteArray := prog_10_method_84_code
def yX8_ask : MethodName := ⟨RX8, "ask", "(II)I"⟩
abbrev cX8_trace : ByteArray := prog_10_method_85_code
def yX8_trace : MethodName := ⟨RX8, "trace", "(I)I"⟩
abbrev cX8_count : ByteArray := prog_10_method_86_code
def yX8_count : MethodName := ⟨RX8, "count", "(I)I"⟩
abbrev cX8_status : ByteArray := prog_10_method_87_code
def yX8_status : MethodName := ⟨RX8, "status", "()I"⟩
def RJ6 : String := "java/lang/Integer"
abbrev cJ6_bitCount_0f7a4 : ByteArray := prog_11_method_49_code
def yJ6_bitCount_0f7a4 : MethodName := ⟨RJ6, "bitCount", "(I)I"⟩
def RJ9 : String := "java/lang/Math"
abbrev cJ9_abs_0f7a4 : ByteArray := prog_12_method_59_code
def yJ9_abs_0f7a4 : MethodName := ⟨RJ9, "abs", "(I)I"⟩
abbrev cJ9_max_7cf53 : ByteArray := prog_12_method_65_code
def yJ9_max_7cf53 : MethodName := ⟨RJ9, "max", "(II)I"⟩
abbrev cJ9_max_f86c9 : ByteArray := prog_12_method_66_code
def yJ9_max_f86c9 : MethodName := ⟨RJ9, "max", "(JJ)J"⟩
abbrev cJ9_min_7cf53 : ByteArray := prog_12_method_69_code
def yJ9_min_7cf53 : MethodName := ⟨RJ9, "min", "(II)I"⟩
def RJ10 : String := "java/lang/System"
def RL : String := "HeelPostLaw"
abbrev cL_law : ByteArray := code
def yL_law : MethodName := ⟨RL, "law", "([I)Z"⟩
abbrev vwCl : List vw_C := [(RX0, TX0, 3), (RX1, TX1, 2), (RX2, TX2, 8), (RX3, TX3, 6), (RX4, TX4, 3), (RX5, TX5, 5), (RX6, TX6, 12), (RX7, TX7, 11), (RX8, TX8, 26)]
