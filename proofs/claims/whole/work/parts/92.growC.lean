theorem wk_13 : Cond.classLink "HeelPostLaw" 7 "HeelPost" ∈ hp_tb := hp_tb_at 68 (by decide +kernel) rfl
theorem inst_X7 : Cond.instantiable RX7 11 ∈ hp_tb := hp_tb_at 69 (by decide +kernel) rfl
theorem ins_obj : Cond.instanceMethod Lib.objectInit ∈ hp_tb := hp_tb_at 74 (by decide +kernel) rfl
theorem cod_obj : Cond.code Lib.objectInit ⟨#[0xb1]⟩ 1 none ∈ hp_tb := hp_tb_at 75 (by decide +kernel) rfl
theorem wk_21 : Cond.classLink "HeelPost" 7 "HeelPost$Rows" ∈ hp_tb := hp_tb_at 76 (by decide +kernel) rfl
theorem inst_X4 : Cond.instantiable RX4 3 ∈ hp_tb := hp_tb_at 77 (by decide +kernel) rfl
theorem wk_27 : Cond.classLink "HeelPost$Rows" 11 "[[I" ∈ hp_tb := hp_tb_at 82 (by decide +kernel) rfl
theorem wa_int : Cond.arrayClass .int ∈ hp_tb := hp_tb_at 94 (by decide +kernel) rfl
theorem wk_40 : Cond.classLink "HeelPost" 16 "HeelPost$Tape" ∈ hp_tb := hp_tb_at 95 (by decide +kernel) rfl
theorem inst_X5 : Cond.instantiable RX5 5 ∈ hp_tb := hp_tb_at 96 (by decide +kernel) rfl
theorem wk_62 : Cond.classLink "HeelPost" 23 "HeelPost$Town" ∈ hp_tb := hp_tb_at 117 (by decide +kernel) rfl
theorem inst_X6 : Cond.instantiable RX6 12 ∈ hp_tb := hp_tb_at 118 (by decide +kernel) rfl
theorem wk_135 : Cond.classLink "HeelPost" 33 "HeelPost$Acts" ∈ hp_tb := hp_tb_at 190 (by decide +kernel) rfl
theorem inst_X0 : Cond.instantiable RX0 3 ∈ hp_tb := hp_tb_at 191 (by decide +kernel) rfl
theorem wk_141 : Cond.classLink "HeelPost$Acts" 9 "HeelPost$Town" ∈ hp_tb := hp_tb_at 196 (by decide +kernel) rfl
theorem wk_154 : Cond.classLink "HeelPost" 40 "HeelPost$Errands" ∈ hp_tb := hp_tb_at 209 (by decide +kernel) rfl
theorem inst_X2 : Cond.instantiable RX2 8 ∈ hp_tb := hp_tb_at 210 (by decide +kernel) rfl
theorem wk_160 : Cond.classLink "HeelPost$Errands" 11 "[[I" ∈ hp_tb := hp_tb_at 215 (by decide +kernel) rfl
theorem wk_186 : Cond.classLink "HeelPost" 47 "HeelPost$Foretold" ∈ hp_tb := hp_tb_at 241 (by decide +kernel) rfl
theorem inst_X3 : Cond.instantiable RX3 6 ∈ hp_tb := hp_tb_at 242 (by decide +kernel) rfl
theorem wk_192 : Cond.classLink "HeelPost$Foretold" 9 "HeelPost$Town" ∈ hp_tb := hp_tb_at 247 (by decide +kernel) rfl
theorem wk_213 : Cond.classLink "HeelPost" 56 "HeelPost$Asks" ∈ hp_tb := hp_tb_at 268 (by decide +kernel) rfl
theorem inst_X1 : Cond.instantiable RX1 2 ∈ hp_tb := hp_tb_at 269 (by decide +kernel) rfl
theorem wk_851 : Cond.classLink "HeelPostLaw" 10 "HeelPostModel" ∈ hp_tb := hp_tb_at 906 (by decide +kernel) rfl
theorem inst_X8 : Cond.instantiable RX8 26 ∈ hp_tb := hp_tb_at 907 (by decide +kernel) rfl
theorem wa_bool : Cond.arrayClass .boolean ∈ hp_tb := hp_tb_at 991 (by decide +kernel) rfl
/-! the cells of the world, as the constructors leave them -/
def gz (G : hp_G) (N : Nat) : va_E := .inl (G.2.2.1 0, N, .inl (fun _ => hp_I 0))
def gf (G : hp_G) (a : Nat) : Value := .ref (G.2.1 + a)
def i0 : Value := .int (hp_I 0)
def fr6 : List Value := [i0, i0, i0, i0, i0, i0, .null, .null, .null, .null, .null, .null]
def fr4 : List Value := [.null, .null, .null]
def fr5 : List Value := [.null, i0, i0, i0, i0]
def fr0 : List Value := [.null, i0, i0]
def fr2 : List Value := [.null, .null, .null, .null, i0, i0, i0, i0]
def fr3 : List Value := [.null, .null, .null, .null, .null, i0]
def fr1 : List Value := [.null, i0]
def fr7 : List Value := [.null, .null, .null, .null, .null, .null, .null, .null, .null, i0, i0]
def fr8 : List Value := [i0, i0, .null, .null, .null, .null, .null, .null, .null, i0, .null, i0, i0, i0, i0, i0, i0, i0, i0, .null, .null, .null, .null, .null, .null, i0]
def ga (G : hp_G) (t N b s : Nat) : va_E := .inl (G.2.2.1 t, N, .inr (.inr (.inr (.inr (hp_rfs G [some (b : Int), some (s : Int)])))))
def c_town (G : hp_G) (n : Nat) : List va_E := [.inr (6, [i0, i0, i0, i0, i0, i0, gf G (n + 1), gf G (n + 2), gf G (n + 3), gf G (n + 4), gf G (n + 5), gf G (n + 6)]), gz G 6, gz G 6, gz G 6, gz G 6, gz G 4, gz G 4]
def c_tape (G : hp_G) (n : Nat) : List va_E := [.inr (5, [gf G (n + 1), i0, i0, i0, i0]), gz G 120]
def c_asks (G : hp_G) (n : Nat) : List va_E := [.inr (1, [gf G (n + 1), i0]), gz G 16]
def c_rows (G : hp_G) (n : Nat) : List va_E := [.inr (4, [gf G (n + 1), gf G (n + 10), gf G (n + 11)]), ga G 3 8 (n + 2) 1, gz G 40, gz G 40, gz G 40, gz G 40, gz G 40, gz G 40, gz G 40, gz G 40, .inl (G.2.2.1 0, 8, .inl (fun _ => hp_I (-1))), gz G 8]
def c_errands (G : hp_G) (n : Nat) : List va_E := [.inr (2, [gf G (n + 1), gf G (n + 8), gf G (n + 9), gf G (n + 10), i0, i0, i0, i0]), ga G 3 6 (n + 2) 1, gz G 199, gz G 199, gz G 199, gz G 199, gz G 199, gz G 199, gz G 198, gz G 198, gz G 4]
/-- k towns from n on -/
def c_towns (G : hp_G) (n : Nat) : Nat → List va_E
  | 0 => []
  | k + 1 => c_towns G n k ++ c_town G (n + 7 * k)
theorem c_towns_len (G : hp_G) (n : Nat) : ∀ k, (c_towns G n k).length = 7 * k
  | 0 => rfl
  | k + 1 => by
    show (c_towns G n k ++ c_town G (n + 7 * k)).length = _
    rw [List.length_append, c_towns_len G n k]
    show 7 * k + 7 = _
    omega
def c_acts (G : hp_G) (n : Nat) : List va_E := .inr (0, [gf G (n + 1), i0, i0]) :: ga G 2 24 (n + 2) 7 :: c_towns G (n + 2) 24
def c_fore (G : hp_G) (n e : Nat) : List va_E := .inr (3, [gf G e, gf G (n + 1), gf G (n + 8), gf G (n + 15), gf G (n + 16), i0]) :: (c_town G (n + 1) ++ (c_town G (n + 8) ++ [gz G 6, gz G 12]))
/-! rules over a world with a beginning -/
theorem q_len {pre : List va_E} {n : Nat} (hp : pre.length = n) (w : List va_E) : (pre ++ w).length = n + w.length := by rw [List.length_append, hp]
theorem q_at {pre w : List va_E} {n j : Nat} {x : va_E} (hp : pre.length = n) (h : w[j]? = some x) : (pre ++ w)[n + j]? = some x := by
  rw [List.getElem?_append_right (by omega), hp, show n + j - n = j by omega]
  exact h
theorem q_set {pre w : List va_E} {n j : Nat} {x : va_E} (hp : pre.length = n) : (pre ++ w).set (n + j) x = pre ++ w.set j x := by
  rw [List.set_append_right _ _ (show pre.length ≤ n + j by omega), hp, show n + j - n = j by omega]
def ce_q (x y : va_E) : Prop := ∀ (D : va_G) (cl : List vw_C) (a : Nat) (H : Heap), va_at D cl (a, x) H → va_at D cl (a, y) H
theorem ce_arr {c : ClassId} {N : Nat} {f g : Nat → Int32} (h : ∀ j, j < N → f j = g j) : ce_q (.inl (c, N, .inl f)) (.inl (c, N, .inl g)) := by
  intro D cl a H hx
  have e : arrV c N (fun j => .int (f j)) = arrV c N (fun j => .int (g j)) := by
    unfold arrV
    congr 2
    funext j
    simp only [h j.val j.isLt]
  have hx : H[a]? = some (arrV c N (fun j => .int (f j))) := hx
  rw [e] at hx
  exact hx
theorem ce_ref {c : ClassId} {N : Nat} {f g : Nat → Option Nat} (h : ∀ j, j < N → f j = g j) : ce_q (.inl (c, N, .inr (.inr (.inr (.inr f))))) (.inl (c, N, .inr (.inr (.inr (.inr g))))) := by
  intro D cl a H hx
  have e : arrV c N (fun j => va_rf (f j)) = arrV c N (fun j => va_rf (g j)) := by
    unfold arrV
    congr 2
    funext j
    simp only [h j.val j.isLt]
  have hx : H[a]? = some (arrV c N (fun j => va_rf (f j))) := hx
  rw [e] at hx
  exact hx
theorem hp_rfs_at (G : hp_G) (b s j : Nat) : hp_rfs G [some (b : Int), some (s : Int)] j = some (G.2.1 + (b + s * j)) := by
  show some (hp_ad G ((b : Int) + (s : Int) * (j : Int))) = _
  rw [hp_ad_pos (by rw [← Int.natCast_mul, ← Int.natCast_add]; exact Int.natCast_nonneg _), show ((b : Int) + (s : Int) * (j : Int)).toNat = b + s * j by rw [← Int.natCast_mul, ← Int.natCast_add]; exact Int.toNat_natCast _]
section GT
variable {G : hp_G} {l : Launch} {cc : ByteArray} {nL d MC MS n0 : Nat} {own : String} {fin : List va_E} {pc : Nat} {L L' : List (Nat × Value)} {st : List Value} {pre w : List va_E} {n cells slots : Nat}
theorem q_newi {m : Int} (N : Nat) (hp : pre.length = n) (hlen : n + w.length = n0 + cells) (hn : m = (N : Int)) (hN : N ≤ 65536) (hc : cells + 1 ≤ MC) (hs : slots + N ≤ MS) (hd : decode cc pc = .ok (.newarray .int, 2))
    (k : g_R G l cc nL own d MC MS n0 fin (pc + 2) L (.ref (G.2.1 + (n + w.length)) :: st) (pre ++ (w ++ [gz G N])) (cells + 1) (slots + N)) : g_R G l cc nL own d MC MS n0 fin pc L (.int (hp_I m) :: st) (pre ++ w) cells slots := by
  refine g_newi N (by rw [q_len hp]; exact hlen) hn hN wa_int hc hs hd ?_
  rw [q_len hp, List.append_assoc]
  exact k
theorem q_newq {m : Int} {idx : Nat} (N : Nat) (hp : pre.length = n) (hlen : n + w.length = n0 + cells) (hn : m = (N : Int)) (hN : N ≤ 65536) (hlk : Cond.classLink own idx "HeelPost$Town" ∈ hp_tb) (hc : cells + 1 ≤ MC) (hs : slots + N ≤ MS) (hd : decode cc pc = .ok (.anewarray idx, 3))
    (k : g_R G l cc nL own d MC MS n0 fin (pc + 3) L (.ref (G.2.1 + (n + w.length)) :: st) (pre ++ (w ++ [.inl (G.2.2.1 2, N, .inr (.inr (.inr (.inr (fun _ => none)))))])) (cells + 1) (slots + N)) : g_R G l cc nL own d MC MS n0 fin pc L (.int (hp_I m) :: st) (pre ++ w) cells slots := by
  refine g_newq N (by rw [q_len hp]; exact hlen) hn hN hlk hc hs hd ?_
  rw [q_len hp, List.append_assoc]
  exact k
theorem q_new {idx N : Nat} {C : String} {T : u_T} (ci : Nat) (ty : Nat → FieldType) (fs : List Value) (hp : pre.length = n) (hlen : n + w.length = n0 + cells) (hcl : vwCl[ci]? = some (C, T, N)) (hin : ∀ w ∈ u_ws C T N, w ∈ hp_tb) (hty : ∀ k, k < N → parseFieldDescriptor (T k).2.2.1 = some (ty k)) (hlk : Cond.classLink own idx C ∈ hp_tb) (hinst : Cond.instantiable C N ∈ hp_tb) (hini : Cond.initialized C ∈ hp_tb) (hfs : ∀ j, j < N → defaultValue (ty j) = vp_V fs j) (hc : cells + 1 ≤ MC) (hs : slots + N ≤ MS) (hd : decode cc pc = .ok (.new idx, 3))
    (k : g_R G l cc nL own d MC MS n0 fin (pc + 3) L (.ref (G.2.1 + (n + w.length)) :: st) (pre ++ (w ++ [.inr (ci, fs)])) (cells + 1) (slots + N)) : g_R G l cc nL own d MC MS n0 fin pc L st (pre ++ w) cells slots := by
  refine g_new ci ty fs (by rw [q_len hp]; exact hlen) hcl hin hty hlk hinst hini hfs hc hs hd ?_
  rw [q_len hp, List.append_assoc]
  exact k
theorem q_putF {idx N : Nat} {C : String} {T : u_T} (a ci : Nat) (ty0 : Nat → FieldType) {fs : List Value} {v : Value} {ty : FieldType} (hp : pre.length = n) (hw : w[a]? = some (.inr (ci, fs))) (hcl : vwCl[ci]? = some (C, T, N)) (hin : ∀ w ∈ u_ws C T N, w ∈ hp_tb) (hty : ∀ k, k < N → parseFieldDescriptor (T k).2.2.1 = some (ty0 k)) (hnm : ∀ a, a < N → ∀ b, b < N → a ≠ b → (T a).2.1 ≠ (T b).2.1) (j : Nat) (hj : j < N) (hlk : Cond.fieldLink own idx (T j).1 (T j).2.1 (T j).2.2.1 ∈ hp_tb) (hfin : (T j).2.2.2 = true) (hdecl : (T j).1 = own) (hd0 : ty0 j = ty) (hn : narrow ty v = v) (hfit : fits ty v = true) (hlf : j < fs.length) (hd : decode cc pc = .ok (.putfield idx, 3))
    (k : g_R G l cc nL own d MC MS n0 fin (pc + 3) L st (pre ++ w.set a (.inr (ci, fs.set j v))) cells slots) : g_R G l cc nL own d MC MS n0 fin pc L (v :: .ref (G.2.1 + (n + a)) :: st) (pre ++ w) cells slots := by
  refine g_putF (n + a) ci ty0 (q_at hp hw) hcl hin hty hnm j hj hlk hfin hdecl hd0 hn hfit hlf hd ?_
  rw [q_set hp]
  exact k
theorem q_get {idx N : Nat} {C : String} {T : u_T} (a ci : Nat) {fs : List Value} {v : Value} (hp : pre.length = n) (hw : w[a]? = some (.inr (ci, fs))) (hcl : vwCl[ci]? = some (C, T, N)) (hin : ∀ w ∈ u_ws C T N, w ∈ hp_tb) (j : Nat) (hj : j < N) (hlk : Cond.fieldLink own idx (T j).1 (T j).2.1 (T j).2.2.1 ∈ hp_tb) (hv : fs[j]? = some v) (hd : decode cc pc = .ok (.getfield idx, 3))
    (k : g_R G l cc nL own d MC MS n0 fin (pc + 3) L (v :: st) (pre ++ w) cells slots) : g_R G l cc nL own d MC MS n0 fin pc L (.ref (G.2.1 + (n + a)) :: st) (pre ++ w) cells slots :=
  g_get (n + a) ci (q_at hp hw) hcl hin j hj hlk hv hd k
theorem q_iast {i x : Int} {m : Nat} {f : Nat → Int32} (a : Nat) (hp : pre.length = n) (hw : w[a]? = some (.inl (G.2.2.1 0, m, .inl f))) (hn : m ≤ 65536) (hii : 0 ≤ i ∧ i < m) (hd : decode cc pc = .ok (.iastore, 1))
    (k : g_R G l cc nL own d MC MS n0 fin (pc + 1) L st (pre ++ w.set a (.inl (G.2.2.1 0, m, .inl (upd f i.toNat (hp_I x))))) cells slots) : g_R G l cc nL own d MC MS n0 fin pc L (.int (hp_I x) :: .int (hp_I i) :: .ref (G.2.1 + (n + a)) :: st) (pre ++ w) cells slots := by
  refine g_iast (n + a) (q_at hp hw) hn hii hd ?_
  rw [q_set hp]
  exact k
theorem q_astq {i : Int} {m : Nat} {f : Nat → Option Nat} {vs : List Value} (a b : Nat) (hp : pre.length = n) (hw : w[a]? = some (.inl (G.2.2.1 2, m, .inr (.inr (.inr (.inr f)))))) (hv : w[b]? = some (.inr (6, vs))) (hn : m ≤ 65536) (hii : 0 ≤ i ∧ i < m) (hd : decode cc pc = .ok (.aastore, 1))
    (k : g_R G l cc nL own d MC MS n0 fin (pc + 1) L st (pre ++ w.set a (.inl (G.2.2.1 2, m, .inr (.inr (.inr (.inr (va_up f i.toNat (some (G.2.1 + (n + b))))))))) ) cells slots) : g_R G l cc nL own d MC MS n0 fin pc L (.ref (G.2.1 + (n + b)) :: .int (hp_I i) :: .ref (G.2.1 + (n + a)) :: st) (pre ++ w) cells slots := by
  refine g_astq (n + a) (n + b) (q_at hp hw) (q_at hp hv) hn hii hd ?_
  rw [q_set hp]
  exact k
theorem q_cast {ws ws' : List va_E} (h : ws = ws') (k : g_R G l cc nL own d MC MS n0 fin pc L st ws' cells slots) : g_R G l cc nL own d MC MS n0 fin pc L st ws cells slots := by
  subst h
  exact k
theorem q_conv {x : va_E} (a : Nat) (y : va_E) (hp : pre.length = n) (hw : w[a]? = some x) (hq : ce_q x y) (k : g_R G l cc nL own d MC MS n0 fin pc L st (pre ++ w.set a y) cells slots) : g_R G l cc nL own d MC MS n0 fin pc L st (pre ++ w) cells slots := by
  intro p e s m args below meth c hC hi h0 Hc locs ls hW hS hl
  refine k p e s m args below meth c hC hi h0 Hc locs ls ⟨?_, hW.2.1, hW.2.2⟩ hS hl
  rw [← q_set hp]
  have ha : n + a < (pre ++ w).length := (List.getElem?_eq_some_iff.mp (q_at hp hw)).1
  intro j q hj
  obtain ⟨e1, e2⟩ := gw_at hj
  obtain ⟨q1, q2⟩ := q
  have e1 : q1 = G.2.1 + j := e1
  subst e1
  by_cases hja : j = n + a
  · subst hja
    rw [List.getElem?_set_self ha] at e2
    cases e2
    exact hq _ _ _ _ (hW.1 (n + a) _ (gw_get (q_at hp hw)))
  · rw [List.getElem?_set_ne (Ne.symm hja)] at e2
    exact hW.1 j _ (gw_get e2)
theorem q_mna {m k9 : Int} {idx : Nat} (N K : Nat) (hp : pre.length = n) (hlen : n + w.length = n0 + cells) (hpos : 0 < w.length) (hn : m = (N : Int)) (hN : N ≤ 65536) (hk : k9 = (K : Int)) (hK9 : K ≤ 65536) (hlk : Cond.classLink own idx "[[I" ∈ hp_tb) (hc : cells + (1 + N) ≤ MC) (hs : slots + (N + N * K) ≤ MS) (hd : decode cc pc = .ok (.multianewarray idx 2, 4))
    (k : g_R G l cc nL own d MC MS n0 fin (pc + 4) L (.ref (G.2.1 + (n + w.length)) :: st) (pre ++ (w ++ ga G 3 N (n + w.length + 1) 1 :: List.replicate N (gz G K))) (cells + 1 + N) (slots + N + N * K)) : g_R G l cc nL own d MC MS n0 fin pc L (.int (hp_I k9) :: .int (hp_I m) :: st) (pre ++ w) cells slots := by
  refine g_mna N K (by rw [q_len hp]; exact hlen) (by rw [q_len hp]; omega) hn hN hk hK9 hlk wa_int hc hs hd ?_
  rw [q_len hp]
  refine q_cast (ws' := pre ++ (w ++ .inl (G.2.2.1 3, N, .inr (.inr (.inr (.inr (fun i => if i < N then some (G.2.1 + (n + w.length) + 1 + i) else none))))) :: List.replicate N (gz G K))) (by simp [gz]) ?_
  refine q_conv w.length (ga G 3 N (n + w.length + 1) 1) hp (by rw [List.getElem?_append_right (Nat.le_refl _), Nat.sub_self]; rfl) (ce_ref (fun j hj => by rw [if_pos hj, hp_rfs_at]; congr 1; omega)) ?_
  refine q_cast (ws' := pre ++ (w ++ ga G 3 N (n + w.length + 1) 1 :: List.replicate N (gz G K))) ?_ k
  congr 1
  rw [List.set_append_right _ _ (Nat.le_refl _), Nat.sub_self]
  rfl
theorem q_callI {y : MethodName} {cy : ByteArray} {ny np idx d2 c2 m2 b : Nat} {As st0 : List Value} {fr : va_E} {blk : List va_E} (hM : g_M G l y cy ny d2 (.ref b :: As) ((pre ++ w) ++ [fr]) ((pre ++ w) ++ blk) c2 m2) (hp : pre.length = n) (hlen : n + (w.length + 1) = n0 + cells) (hy : hp_cal y cy ny none np) (hyn : y.name = "<init>") (hinst : Cond.instanceMethod y ∈ hp_tb) (hlink : Cond.methodLink own idx y ∈ hp_tb) (hR : d2 + 1 ≤ d ∧ 8 + (ny + 11) + 64 * d2 ≤ 64 * d) (hn : As.length = np) (hst : st0 = As.reverse ++ .ref b :: st) (h8 : (st.map fun v => v.category).sum ≤ 8) (hc : cells + c2 ≤ MC) (hs : slots + m2 ≤ MS) (hd : decode cc pc = .ok (.invokespecial idx, 3))
    (kk : g_R G l cc nL own d MC MS n0 fin (pc + 3) L st (pre ++ (w ++ blk)) (cells + c2) (slots + m2)) : g_R G l cc nL own d MC MS n0 fin pc L st0 (pre ++ (w ++ [fr])) cells slots := by
  rw [← List.append_assoc]
  refine g_callI hM (by simp; omega) (by simp; omega) hy hyn hinst hlink hR hn hst h8 hc hs hd ?_
  rw [List.append_assoc]
  exact kk
theorem q_callN {y : MethodName} {cy : ByteArray} {ny np idx d2 c2 m2 b : Nat} {As st0 : List Value} {fr : va_E} {blk : List va_E} (hM : g_M G l y cy ny d2 (.ref b :: As) ((pre ++ w) ++ [fr]) ((pre ++ w) ++ blk) c2 m2) (hp : pre.length = n) (hlen : n + (w.length + 1) = n0 + cells) (hy : hp_cal y cy ny none np) (hyn : y.name = "<init>") (hinst : Cond.instanceMethod y ∈ hp_tb) (hlink : (own, idx, y) ∈ gNl) (hR : d2 + 1 ≤ d ∧ 8 + (ny + 11) + 64 * d2 ≤ 64 * d) (hn : As.length = np) (hst : st0 = As.reverse ++ .ref b :: st) (h8 : (st.map fun v => v.category).sum ≤ 8) (hc : cells + c2 ≤ MC) (hs : slots + m2 ≤ MS) (hd : decode cc pc = .ok (.invokespecial idx, 3))
    (kk : g_R G l cc nL own d MC MS n0 fin (pc + 3) L st (pre ++ (w ++ blk)) (cells + c2) (slots + m2)) : g_R G l cc nL own d MC MS n0 fin pc L st0 (pre ++ (w ++ [fr])) cells slots := by
  rw [← List.append_assoc]
  refine g_callN hM (by simp; omega) (by simp; omega) hy hyn hinst hlink hR hn hst h8 hc hs hd ?_
  rw [List.append_assoc]
  exact kk
end GT
