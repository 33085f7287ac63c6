/-! rules: fields and arrays of the world -/
theorem hp_sl_get (G : hp_G) (h : Int → Int) : ∀ (fs : List (Option Int)) (j k : Nat), (hp_sl G h j fs)[k]? = (fs[k]?).map (fun o => match o with | none => .int (hp_I (h ((j + k : Nat) : Int))) | some a => .ref (hp_ad G a))
  | [], j, k => by simp [hp_sl]
  | none :: r, j, 0 => by simp [hp_sl]
  | some a :: r, j, 0 => by simp [hp_sl]
  | none :: r, j, k + 1 => by
    have := hp_sl_get G h r (j + 1) k
    simp only [hp_sl, List.getElem?_cons_succ]
    rw [this, show j + 1 + k = j + (k + 1) by omega]
  | some a :: r, j, k + 1 => by
    have := hp_sl_get G h r (j + 1) k
    simp only [hp_sl, List.getElem?_cons_succ]
    rw [this, show j + 1 + k = j + (k + 1) by omega]
theorem hp_sl_len (G : hp_G) (h : Int → Int) : ∀ (fs : List (Option Int)) (j : Nat), (hp_sl G h j fs).length = fs.length
  | [], j => by simp [hp_sl]
  | none :: r, j => by simp [hp_sl, hp_sl_len G h r (j + 1)]
  | some a :: r, j => by simp [hp_sl, hp_sl_len G h r (j + 1)]
theorem hp_sl_set {G : hp_G} {h h' : Int → Int} {fs : List (Option Int)} {k : Nat} {x : Int} (hf : fs[k]? = some none) (hk : h' (k : Int) = x) (ho : ∀ j : Nat, j ≠ k → h' (j : Int) = h (j : Int)) : (hp_sl G h 0 fs).set k (.int (hp_I x)) = hp_sl G h' 0 fs := by
  apply List.ext_getElem?
  intro j
  by_cases hj : j = k
  · subst hj
    have hl : j < (hp_sl G h 0 fs).length := by rw [hp_sl_len]; exact (List.getElem?_eq_some_iff.mp hf).1
    rw [List.getElem?_set_self hl, hp_sl_get, hf]
    simp [hk]
  · rw [List.getElem?_set_ne (Ne.symm hj), hp_sl_get, hp_sl_get]
    cases fs[j]? with
    | none => rfl
    | some o => cases o with
      | none => simp [ho j hj]
      | some a => rfl
theorem hp_ad_pos {G : hp_G} {a : Int} (h : 0 ≤ a) : hp_ad G a = G.2.1 + a.toNat := if_neg (Int.not_lt.mpr h)
theorem hp_up_self (H : hp_H) (a i v : Int) : hp_up H a i v a i = v := if_pos ⟨rfl, rfl⟩
theorem hp_up_ne {H : hp_H} {a i v b j : Int} (h : ¬ (b = a ∧ j = i)) : hp_up H a i v b j = H b j := if_neg h
theorem hp_wsg {G : hp_G} {H : hp_H} {a : Int} {sh : hp_S} (hs : (hp_sh G)[a.toNat]? = some sh) (h0 : 0 ≤ a) : (hp_ws G H)[a.toNat]? = some (hp_ad G a, hp_ce G sh (H a)) := by
  have h := hp_ws_get (H := H) hs
  rw [hp_tn h0] at h
  rw [hp_ad_pos h0]
  exact h
theorem hp_wss {G : hp_G} {H H' : hp_H} {a : Int} {sh : hp_S} {e : va_E} (hs : (hp_sh G)[a.toNat]? = some sh) (h0 : 0 ≤ a) (he : e = hp_ce G sh (H' a)) (ho : ∀ b : Int, b ≠ a → H' b = H b) : (hp_ws G H).set a.toNat (hp_ad G a, e) = hp_ws G H' := by
  rw [hp_ad_pos h0]
  refine hp_ws_set hs (by rw [hp_tn h0]; exact he) (fun j hj => ho _ (fun q => hj ?_))
  omega
section HB
variable {G : hp_G} {l : Launch} {cc : ByteArray} {nL : Nat} {ret : Option FieldType} {own : String} {R : Room} {v : Option Value} {H' : hp_H} {Z : Prop} {pc : Nat} {L L' : List (Nat × Value)} {st : List Value} {H : hp_H}
theorem x_get {a : Int} {ci : Nat} {fs : List (Option Int)} {C : String} {T : u_T} {N idx : Nat} (k : Nat) {w : Value} (hs : (hp_sh G)[a.toNat]? = some (0, ci, fs)) (h0 : 0 ≤ a) (hc : vwCl[ci]? = some (C, T, N)) (hin : ∀ w ∈ u_ws C T N, w ∈ hp_tb) (hk : k < N) (hw : (hp_sl G (H a) 0 fs)[k]? = some w) (hf : Cond.fieldLink own idx (T k).1 (T k).2.1 (T k).2.2.1 ∈ hp_tb) (hd : decode cc pc = .ok (.getfield idx, 3)) (kk : hp_R G l cc nL ret own R v H' Z (pc + 3) L (w :: st) H) : hp_R G l cc nL ret own R v H' Z pc L (.ref (hp_ad G a) :: st) H := by
  intro p e s m args below meth c hC Hc locs ls hW hT hS hl
  have he : (hp_ws G H)[a.toNat]? = some (hp_ad G a, .inr (ci, hp_sl G (H a) 0 fs)) := hp_wsg (sh := (0, ci, fs)) hs h0
  exact va_get (D := G.1) (ci := ci) (v := w) (C := C) (T := T) (N := N) hC.1 hC.2.1 hC.2.2.2.2.2.1 hin hC.2.2.2.2.1 hW.2.1 hW.1 a.toNat he hc k hk (hC.2.2.2.2.2.1 _ hf) (fun _ h9 => h9) hw hd (kk p e s m args below meth c hC Hc locs ls hW hT hS hl)
theorem x_geti {a : Int} {ci : Nat} {fs : List (Option Int)} {C : String} {T : u_T} {N idx : Nat} (k : Nat) (hs : (hp_sh G)[a.toNat]? = some (0, ci, fs)) (h0 : 0 ≤ a) (hc : vwCl[ci]? = some (C, T, N)) (hin : ∀ w ∈ u_ws C T N, w ∈ hp_tb) (hk : k < N) (hw : fs[k]? = some none) (hf : Cond.fieldLink own idx (T k).1 (T k).2.1 (T k).2.2.1 ∈ hp_tb) (hd : decode cc pc = .ok (.getfield idx, 3)) (kk : hp_R G l cc nL ret own R v H' Z (pc + 3) L (.int (hp_I (H a (k : Int))) :: st) H) : hp_R G l cc nL ret own R v H' Z pc L (.ref (hp_ad G a) :: st) H :=
  x_get k hs h0 hc hin hk (w := .int (hp_I (H a (k : Int)))) (by rw [hp_sl_get, hw]; simp) hf hd kk
theorem x_getr {a r : Int} {ci : Nat} {fs : List (Option Int)} {C : String} {T : u_T} {N idx : Nat} (k : Nat) (hs : (hp_sh G)[a.toNat]? = some (0, ci, fs)) (h0 : 0 ≤ a) (hc : vwCl[ci]? = some (C, T, N)) (hin : ∀ w ∈ u_ws C T N, w ∈ hp_tb) (hk : k < N) (hw : fs[k]? = some (some r)) (hf : Cond.fieldLink own idx (T k).1 (T k).2.1 (T k).2.2.1 ∈ hp_tb) (hd : decode cc pc = .ok (.getfield idx, 3)) (kk : hp_R G l cc nL ret own R v H' Z (pc + 3) L (.ref (hp_ad G r) :: st) H) : hp_R G l cc nL ret own R v H' Z pc L (.ref (hp_ad G a) :: st) H :=
  x_get k hs h0 hc hin hk (w := .ref (hp_ad G r)) (by rw [hp_sl_get, hw]; rfl) hf hd kk
theorem x_puti {a x : Int} {ci : Nat} {fs : List (Option Int)} {C : String} {T : u_T} {N idx : Nat} (k : Nat) (ty0 : Nat → FieldType) (hs : (hp_sh G)[a.toNat]? = some (0, ci, fs)) (h0 : 0 ≤ a) (hc : vwCl[ci]? = some (C, T, N)) (hin : ∀ w ∈ u_ws C T N, w ∈ hp_tb) (hty : ∀ k, k < N → parseFieldDescriptor (T k).2.2.1 = some (ty0 k)) (hnm : ∀ a, a < N → ∀ b, b < N → a ≠ b → (T a).2.1 ≠ (T b).2.1) (hk : k < N) (hi : ty0 k = .int) (hfin : (T k).2.2.2 = false) (hw : fs[k]? = some none) (hf : Cond.fieldLink own idx (T k).1 (T k).2.1 (T k).2.2.1 ∈ hp_tb) (hd : decode cc pc = .ok (.putfield idx, 3)) (kk : hp_R G l cc nL ret own R v H' Z (pc + 3) L st (hp_up H a (k : Int) x)) : hp_R G l cc nL ret own R v H' Z pc L (.int (hp_I x) :: .ref (hp_ad G a) :: st) H := by
  intro p e s m args below meth c hC Hc locs ls hW hT hS hl
  have he : (hp_ws G H)[a.toNat]? = some (hp_ad G a, .inr (ci, hp_sl G (H a) 0 fs)) := hp_wsg (sh := (0, ci, fs)) hs h0
  have hset : (hp_ws G H).set a.toNat (hp_ad G a, .inr (ci, (hp_sl G (H a) 0 fs).set k (.int (hp_I x)))) = hp_ws G (hp_up H a (k : Int) x) := by
    refine hp_wss (sh := (0, ci, fs)) hs h0 ?_ (fun b hb => funext fun j => hp_up_ne (fun q => hb q.1))
    show _ = Sum.inr (ci, hp_sl G (hp_up H a (k : Int) x a) 0 fs)
    rw [hp_sl_set (h' := hp_up H a (k : Int) x a) hw (hp_up_self H a k x) (fun j hj => hp_up_ne (fun q => hj (by have := q.2; omega)))]
  refine va_put (D := G.1) (ci := ci) (v := .int (hp_I x)) (ty := .int) (C := C) (T := T) (N := N) hC.1 hC.2.1 hC.2.2.2.2.2.1 hin ty0 hty hnm hC.2.2.2.2.1 hW.2.1 hW.1 hW.2.2.1 hS a.toNat he hc k hk (hC.2.2.2.2.2.1 _ hf) (fun _ h9 => h9) hfin (by rw [hty k hk, hi]) rfl rfl (by rw [hp_sl_len]; exact (List.getElem?_eq_some_iff.mp hw).1) hd (fun H1 locs1 hP1 hD1 hS1 => ?_)
  rw [hset] at hP1 hD1
  exact kk p e s m args below meth c hC H1 locs1 ls ⟨hP1, hW.2.1, hD1, hT.kept hS1.2.1⟩ hT hS1 hl
theorem x_iald {a i : Int} {n : Nat} {fs : List (Option Int)} (hs : (hp_sh G)[a.toNat]? = some (1, n, fs)) (h0 : 0 ≤ a) (hn : n ≤ 65536) (hi : 0 ≤ i ∧ i < n) (hd : decode cc pc = .ok (.iaload, 1)) (kk : hp_R G l cc nL ret own R v H' Z (pc + 1) L (.int (hp_I (H a i)) :: st) H) : hp_R G l cc nL ret own R v H' Z pc L (.int (hp_I i) :: .ref (hp_ad G a) :: st) H := by
  intro p e s m args below meth c hC Hc locs ls hW hT hS hl
  have he : (hp_ws G H)[a.toNat]? = some (hp_ad G a, .inl (G.2.2.1 0, n, .inl (fun j => hp_I (H a (j : Int))))) := hp_wsg (sh := (1, n, fs)) hs h0
  obtain ⟨h1, h2⟩ := hp_ix hi hn
  refine va_iald (D := G.1) hC.1 hC.2.1 hW.2.1 hW.1 a.toNat 0 he rfl h1 hd ?_
  rw [h2, hp_tn hi.1]
  exact kk p e s m args below meth c hC Hc locs ls hW hT hS hl
theorem x_zald {a i : Int} {n : Nat} {fs : List (Option Int)} (hs : (hp_sh G)[a.toNat]? = some (2, n, fs)) (h0 : 0 ≤ a) (hn : n ≤ 65536) (hi : 0 ≤ i ∧ i < n) (hd : decode cc pc = .ok (.baload, 1)) (kk : hp_R G l cc nL ret own R v H' Z (pc + 1) L (.int (hp_I (H a i)) :: st) H) : hp_R G l cc nL ret own R v H' Z pc L (.int (hp_I i) :: .ref (hp_ad G a) :: st) H := by
  intro p e s m args below meth c hC Hc locs ls hW hT hS hl
  have he : (hp_ws G H)[a.toNat]? = some (hp_ad G a, .inl (G.2.2.1 1, n, .inl (fun j => hp_I (H a (j : Int))))) := hp_wsg (sh := (2, n, fs)) hs h0
  obtain ⟨h1, h2⟩ := hp_ix hi hn
  refine va_zald (D := G.1) hC.1 hC.2.1 hW.2.1 hW.1 a.toNat 1 he rfl h1 hd ?_
  rw [h2, hp_tn hi.1]
  exact kk p e s m args below meth c hC Hc locs ls hW hT hS hl
theorem hp_updI {H : hp_H} {a i x : Int} (h0 : 0 ≤ i) : upd (fun j => hp_I (H a (j : Int))) i.toNat (hp_I x) = fun j : Nat => hp_I (hp_up H a i x a (j : Int)) := by
  funext j
  unfold upd hp_up
  by_cases hj : j = i.toNat
  · subst hj
    rw [if_pos rfl, if_pos ⟨rfl, hp_tn h0⟩]
  · rw [if_neg hj, if_neg (fun q => hj (by have := q.2; omega))]
theorem x_iast {a i x : Int} {n : Nat} {fs : List (Option Int)} (hs : (hp_sh G)[a.toNat]? = some (1, n, fs)) (h0 : 0 ≤ a) (hn : n ≤ 65536) (hi : 0 ≤ i ∧ i < n) (hd : decode cc pc = .ok (.iastore, 1)) (kk : hp_R G l cc nL ret own R v H' Z (pc + 1) L st (hp_up H a i x)) : hp_R G l cc nL ret own R v H' Z pc L (.int (hp_I x) :: .int (hp_I i) :: .ref (hp_ad G a) :: st) H := by
  intro p e s m args below meth c hC Hc locs ls hW hT hS hl
  have he : (hp_ws G H)[a.toNat]? = some (hp_ad G a, .inl (G.2.2.1 0, n, .inl (fun j => hp_I (H a (j : Int))))) := hp_wsg (sh := (1, n, fs)) hs h0
  obtain ⟨h1, h2⟩ := hp_ix hi hn
  have hset : (hp_ws G H).set a.toNat (hp_ad G a, .inl (G.2.2.1 0, n, .inl (upd (fun j => hp_I (H a (j : Int))) (hp_I i).toNatClampNeg (hp_I x)))) = hp_ws G (hp_up H a i x) := by
    refine hp_wss (sh := (1, n, fs)) hs h0 ?_ (fun b hb => funext fun j => hp_up_ne (fun q => hb q.1))
    rw [h2, hp_updI hi.1]
    rfl
  refine va_iast (D := G.1) hC.1 hC.2.1 hW.2.1 hW.1 hW.2.2.1 hS a.toNat 0 he rfl h1 hd (fun H1 locs1 hP1 hD1 hS1 => ?_)
  rw [hset] at hP1 hD1
  exact kk p e s m args below meth c hC H1 locs1 ls ⟨hP1, hW.2.1, hD1, hT.kept hS1.2.1⟩ hT hS1 hl
theorem x_zast {a i x : Int} {n : Nat} {fs : List (Option Int)} (hs : (hp_sh G)[a.toNat]? = some (2, n, fs)) (h0 : 0 ≤ a) (hn : n ≤ 65536) (hi : 0 ≤ i ∧ i < n) (hx : vp_nar .boolean (hp_I x) = hp_I x) (hd : decode cc pc = .ok (.bastore, 1)) (kk : hp_R G l cc nL ret own R v H' Z (pc + 1) L st (hp_up H a i x)) : hp_R G l cc nL ret own R v H' Z pc L (.int (hp_I x) :: .int (hp_I i) :: .ref (hp_ad G a) :: st) H := by
  intro p e s m args below meth c hC Hc locs ls hW hT hS hl
  have he : (hp_ws G H)[a.toNat]? = some (hp_ad G a, .inl (G.2.2.1 1, n, .inl (fun j => hp_I (H a (j : Int))))) := hp_wsg (sh := (2, n, fs)) hs h0
  obtain ⟨h1, h2⟩ := hp_ix hi hn
  have hset : (hp_ws G H).set a.toNat (hp_ad G a, .inl (G.2.2.1 1, n, .inl (upd (fun j => hp_I (H a (j : Int))) (hp_I i).toNatClampNeg (vp_nar .boolean (hp_I x))))) = hp_ws G (hp_up H a i x) := by
    refine hp_wss (sh := (2, n, fs)) hs h0 ?_ (fun b hb => funext fun j => hp_up_ne (fun q => hb q.1))
    rw [h2, hx, hp_updI hi.1]
    rfl
  refine va_zast (D := G.1) hC.1 hC.2.1 hW.2.1 hW.1 hW.2.2.1 hS a.toNat 1 he rfl h1 hd (fun H1 locs1 hP1 hD1 hS1 => ?_)
  rw [hset] at hP1 hD1
  exact kk p e s m args below meth c hC H1 locs1 ls ⟨hP1, hW.2.1, hD1, hT.kept hS1.2.1⟩ hT hS1 hl
/-- a Town out of an array of them, a row out of a table of ints -/
theorem x_aald3 {a i b0 b1 : Int} {n : Nat} (hs : (hp_sh G)[a.toNat]? = some (3, n, [some b0, some b1])) (h0 : 0 ≤ a) (hn : n ≤ 65536) (hi : 0 ≤ i ∧ i < n) (hd : decode cc pc = .ok (.aaload, 1)) (kk : hp_R G l cc nL ret own R v H' Z (pc + 1) L (.ref (hp_ad G (b0 + b1 * i)) :: st) H) : hp_R G l cc nL ret own R v H' Z pc L (.int (hp_I i) :: .ref (hp_ad G a) :: st) H := by
  intro p e s m args below meth c hC Hc locs ls hW hT hS hl
  have he : (hp_ws G H)[a.toNat]? = some (hp_ad G a, .inl (G.2.2.1 2, n, .inr (.inr (.inr (.inr (hp_rfs G [some b0, some b1])))))) := hp_wsg (sh := (3, n, [some b0, some b1])) hs h0
  obtain ⟨h1, h2⟩ := hp_ix hi hn
  refine va_aldq (D := G.1) hC.1 hC.2.1 hW.2.1 hW.1 a.toNat 2 he rfl h1 hd ?_
  rw [h2]
  have e9 : va_rf (hp_rfs G [some b0, some b1] i.toNat) = .ref (hp_ad G (b0 + b1 * i)) := by
    show Value.ref (hp_ad G (b0 + b1 * (i.toNat : Int))) = _
    rw [hp_tn hi.1]
  rw [e9]
  exact kk p e s m args below meth c hC Hc locs ls hW hT hS hl
theorem x_aald4 {a i b0 b1 : Int} {n : Nat} (hs : (hp_sh G)[a.toNat]? = some (4, n, [some b0, some b1])) (h0 : 0 ≤ a) (hn : n ≤ 65536) (hi : 0 ≤ i ∧ i < n) (hd : decode cc pc = .ok (.aaload, 1)) (kk : hp_R G l cc nL ret own R v H' Z (pc + 1) L (.ref (hp_ad G (b0 + b1 * i)) :: st) H) : hp_R G l cc nL ret own R v H' Z pc L (.int (hp_I i) :: .ref (hp_ad G a) :: st) H := by
  intro p e s m args below meth c hC Hc locs ls hW hT hS hl
  have he : (hp_ws G H)[a.toNat]? = some (hp_ad G a, .inl (G.2.2.1 3, n, .inr (.inr (.inr (.inr (hp_rfs G [some b0, some b1])))))) := hp_wsg (sh := (4, n, [some b0, some b1])) hs h0
  obtain ⟨h1, h2⟩ := hp_ix hi hn
  have hlt : (hp_I i).toNatClampNeg < n := Nat.not_le.mp fun q => h1 (Or.inr q)
  have e9 : va_rf (hp_rfs G [some b0, some b1] (hp_I i).toNatClampNeg) = .ref (hp_ad G (b0 + b1 * i)) := by
    rw [h2]
    show Value.ref (hp_ad G (b0 + b1 * (i.toNat : Int))) = _
    rw [hp_tn hi.1]
  refine W.aald (v := va_rf (hp_rfs G [some b0, some b1] (hp_I i).toNatClampNeg)) (ty := .array .int) hC.1 hC.2.1 (hW.1 _ _ he) ((hW.2.1.2 3 (G.2.2.1 3, .array .int) rfl).1 n (fun j => va_rf (hp_rfs G [some b0, some b1] j))) rfl (fun q => by cases q) (by show ¬ (_ ∨ (arrV _ _ _).slots.size ≤ _); rw [arrV_size]; exact h1) (by show (arrV _ _ _).slots[_]? = _; rw [arrV_read _ _ hlt]) rfl rfl hd ?_
  rw [e9]
  exact kk p e s m args below meth c hC Hc locs ls hW hT hS hl
/-- the static tables -/
theorem x_gets {idx : Nat} (k : Nat) (h1 : 1 ≤ k) (h2 : k ≤ 3) (hf : Cond.fieldLink own idx "HeelPost$Asks" (hp_sn k) "[I" ∈ hp_tb) (hd : decode cc pc = .ok (.getstatic idx, 3)) (kk : hp_R G l cc nL ret own R v H' Z (pc + 3) L (.ref (hp_ad G (-(k : Int))) :: st) H) : hp_R G l cc nL ret own R v H' Z pc L st H := by
  intro p e s m args below meth c hC Hc locs ls hW hT hS hl
  have e9 : hp_ad G (-(k : Int)) = G.2.2.2.1 k := by
    unfold hp_ad
    rw [if_pos (by omega), show (- -(k : Int)).toNat = k by omega]
  have k9 := kk p e s m args below meth c hC Hc locs ls hW hT hS hl
  rw [e9] at k9
  exact va_gets hC.1 hC.2.1 (hT.1 k h1 h2).1 hS hC.2.2.2.2.1 (hC.2.2.2.2.2.1 _ hf) (fun _ h9 => h9) hd k9
theorem x_tab {a i : Int} (ha : a = -1 ∨ a = -2 ∨ a = -3) (hi : 0 ≤ i ∧ i < 6) (hd : decode cc pc = .ok (.iaload, 1)) (kk : hp_R G l cc nL ret own R v H' Z (pc + 1) L (.int (hp_I (hp_tab a i)) :: st) H) : hp_R G l cc nL ret own R v H' Z pc L (.int (hp_I i) :: .ref (hp_ad G a) :: st) H := by
  intro p e s m args below meth c hC Hc locs ls hW hT hS hl
  obtain ⟨k, hk1, hk2, rfl⟩ : ∃ k : Nat, 1 ≤ k ∧ k ≤ 3 ∧ a = -(k : Int) := by
    rcases ha with h | h | h
    · exact ⟨1, by omega, by omega, h⟩
    · exact ⟨2, by omega, by omega, h⟩
    · exact ⟨3, by omega, by omega, h⟩
  have e9 : hp_ad G (-(k : Int)) = G.2.2.2.1 k := by
    unfold hp_ad
    rw [if_pos (by omega), show (- -(k : Int)).toNat = k by omega]
  obtain ⟨q1, q2⟩ := hp_ix (n := 6) hi (by omega)
  rw [e9]
  refine va_ti hC.1 hC.2.1 (hT.1 k hk1 hk2).2 hS q1 (v := .int (hp_I (hp_tab (-(k : Int)) i))) (by rw [q2, hp_tn hi.1]) hd ?_
  exact kk p e s m args below meth c hC Hc locs ls hW hT hS hl
end HB
