/-! the law's loop -/
theorem l_next {l : Launch} {p : Program} {e : Env} {s : State} {m : MethodId} {below : List Frame} {meth : Method} {c : Code} {b L : Nat} {xs : Nat → Int32} {Gc Gm : hp_G} {i : Nat} {C M : hp_H} (X : lx p s m meth c b L xs Gc Gm) (hi : i + 7 ≤ L) (k : lr l p e s m below meth c b Gc Gm 18 (i + 7) [] C M) : lr l p e s m below meth c b Gc Gm 1538 i [] C M := by
  intro Hc locs ls hWc hWm hS hl
  have hL := X.2.1
  refine lv_iinc (lv' := [(3, .int (hp_I (hp_w ((i : Int) + 7)))), (2, .ref (hp_ad Gm 0)), (1, .ref (hp_ad Gc 0)), (0, .ref b)]) X.1.1 X.1.2.1 dL_law_1538 hl (k := 0) rfl (hp_add (i : Int) 7) (by decide) rfl (fun ls' hl' => ?_)
  rw [pu_w (by omega), show (i : Int) + 7 = ((i + 7 : Nat) : Int) by omega] at hl'
  refine lv_goto (tgt := 18) X.1.1 X.1.2.1 dL_law_1541 (by decide) ?_
  exact k Hc locs ls' hWc hWm hS hl'
theorem l_switch {l : Launch} {p : Program} {e : Env} {s : State} {m : MethodId} {below : List Frame} {meth : Method} {c : Code} {b L : Nat} {xs : Nat → Int32} {Gc Gm : hp_G} {i : Nat} {C M : hp_H} (X : lx p s m meth c b L xs Gc Gm) (hi : i + 7 ≤ L) (h : iv C M) (rC : hp_in C) (rM : hp_in M) (kk : ∀ C2 M2, iv C2 M2 → hp_in C2 → hp_in M2 → lr l p e s m below meth c b Gc Gm 1538 i [] C2 M2) : lr l p e s m below meth c b Gc Gm 30 i [.int (hp_I (lX xs i))] C M := by
  intro Hc locs ls hWc hWm hS hl
  refine lv_bipush (v := hp_I 63) X.1.1 X.1.2.1 dL_law_30 rfl ?_
  refine lv_iand X.1.1 X.1.2.1 dL_law_32 ?_
  rw [show hp_I (lX xs i) &&& hp_I 63 = hp_I (hp_and (lX xs i) 63) from (hp_Io _).symm]
  have hr := hp_rand (lX xs i) 63
  generalize hp_and (lX xs i) 63 = a at hr ⊢
  by_cases c0 : a = 0
  · exact lv_tableIn (tgt := 212) X.1.1 X.1.2.1 dL_law_33 (by rw [hp_It hr, c0]; decide) (by rw [hp_It hr, c0]; decide) (by rw [hp_It hr, c0]; rfl) (by decide) (lc_0 X hi h rC rM kk Hc locs ls hWc hWm hS hl)
  by_cases c1 : a = 1
  · exact lv_tableIn (tgt := 255) X.1.1 X.1.2.1 dL_law_33 (by rw [hp_It hr, c1]; decide) (by rw [hp_It hr, c1]; decide) (by rw [hp_It hr, c1]; rfl) (by decide) (lc_1 X hi h rC rM kk Hc locs ls hWc hWm hS hl)
  by_cases c2 : a = 2
  · exact lv_tableIn (tgt := 298) X.1.1 X.1.2.1 dL_law_33 (by rw [hp_It hr, c2]; decide) (by rw [hp_It hr, c2]; decide) (by rw [hp_It hr, c2]; rfl) (by decide) (lc_2 X hi h rC rM kk Hc locs ls hWc hWm hS hl)
  by_cases c3 : a = 3
  · exact lv_tableIn (tgt := 361) X.1.1 X.1.2.1 dL_law_33 (by rw [hp_It hr, c3]; decide) (by rw [hp_It hr, c3]; decide) (by rw [hp_It hr, c3]; rfl) (by decide) (lc_3 X hi h rC rM kk Hc locs ls hWc hWm hS hl)
  by_cases c4 : a = 4
  · exact lv_tableIn (tgt := 384) X.1.1 X.1.2.1 dL_law_33 (by rw [hp_It hr, c4]; decide) (by rw [hp_It hr, c4]; decide) (by rw [hp_It hr, c4]; rfl) (by decide) (lc_4 X hi h rC rM kk Hc locs ls hWc hWm hS hl)
  by_cases c5 : a = 5
  · exact lv_tableIn (tgt := 407) X.1.1 X.1.2.1 dL_law_33 (by rw [hp_It hr, c5]; decide) (by rw [hp_It hr, c5]; decide) (by rw [hp_It hr, c5]; rfl) (by decide) (lc_5 X hi h rC rM kk Hc locs ls hWc hWm hS hl)
  by_cases c6 : a = 6
  · exact lv_tableIn (tgt := 420) X.1.1 X.1.2.1 dL_law_33 (by rw [hp_It hr, c6]; decide) (by rw [hp_It hr, c6]; decide) (by rw [hp_It hr, c6]; rfl) (by decide) (lc_6 X hi h rC rM kk Hc locs ls hWc hWm hS hl)
  by_cases c7 : a = 7
  · exact lv_tableIn (tgt := 433) X.1.1 X.1.2.1 dL_law_33 (by rw [hp_It hr, c7]; decide) (by rw [hp_It hr, c7]; decide) (by rw [hp_It hr, c7]; rfl) (by decide) (lc_7 X hi h rC rM kk Hc locs ls hWc hWm hS hl)
  by_cases c8 : a = 8
  · exact lv_tableIn (tgt := 446) X.1.1 X.1.2.1 dL_law_33 (by rw [hp_It hr, c8]; decide) (by rw [hp_It hr, c8]; decide) (by rw [hp_It hr, c8]; rfl) (by decide) (lc_8 X hi h rC rM kk Hc locs ls hWc hWm hS hl)
  by_cases c9 : a = 9
  · exact lv_tableIn (tgt := 469) X.1.1 X.1.2.1 dL_law_33 (by rw [hp_It hr, c9]; decide) (by rw [hp_It hr, c9]; decide) (by rw [hp_It hr, c9]; rfl) (by decide) (lc_9 X hi h rC rM kk Hc locs ls hWc hWm hS hl)
  by_cases c10 : a = 10
  · exact lv_tableIn (tgt := 512) X.1.1 X.1.2.1 dL_law_33 (by rw [hp_It hr, c10]; decide) (by rw [hp_It hr, c10]; decide) (by rw [hp_It hr, c10]; rfl) (by decide) (lc_10 X hi h rC rM kk Hc locs ls hWc hWm hS hl)
  by_cases c11 : a = 11
  · exact lv_tableIn (tgt := 535) X.1.1 X.1.2.1 dL_law_33 (by rw [hp_It hr, c11]; decide) (by rw [hp_It hr, c11]; decide) (by rw [hp_It hr, c11]; rfl) (by decide) (lc_11 X hi h rC rM kk Hc locs ls hWc hWm hS hl)
  by_cases c12 : a = 12
  · exact lv_tableIn (tgt := 568) X.1.1 X.1.2.1 dL_law_33 (by rw [hp_It hr, c12]; decide) (by rw [hp_It hr, c12]; decide) (by rw [hp_It hr, c12]; rfl) (by decide) (lc_12 X hi h rC rM kk Hc locs ls hWc hWm hS hl)
  by_cases c13 : a = 13
  · exact lv_tableIn (tgt := 601) X.1.1 X.1.2.1 dL_law_33 (by rw [hp_It hr, c13]; decide) (by rw [hp_It hr, c13]; decide) (by rw [hp_It hr, c13]; rfl) (by decide) (lc_13 X hi h rC rM kk Hc locs ls hWc hWm hS hl)
  by_cases c14 : a = 14
  · exact lv_tableIn (tgt := 634) X.1.1 X.1.2.1 dL_law_33 (by rw [hp_It hr, c14]; decide) (by rw [hp_It hr, c14]; decide) (by rw [hp_It hr, c14]; rfl) (by decide) (lc_14 X hi h rC rM kk Hc locs ls hWc hWm hS hl)
  by_cases c15 : a = 15
  · exact lv_tableIn (tgt := 667) X.1.1 X.1.2.1 dL_law_33 (by rw [hp_It hr, c15]; decide) (by rw [hp_It hr, c15]; decide) (by rw [hp_It hr, c15]; rfl) (by decide) (lc_15 X hi h rC rM kk Hc locs ls hWc hWm hS hl)
  by_cases c16 : a = 16
  · exact lv_tableIn (tgt := 690) X.1.1 X.1.2.1 dL_law_33 (by rw [hp_It hr, c16]; decide) (by rw [hp_It hr, c16]; decide) (by rw [hp_It hr, c16]; rfl) (by decide) (lc_16 X hi h rC rM kk Hc locs ls hWc hWm hS hl)
  by_cases c17 : a = 17
  · exact lv_tableIn (tgt := 723) X.1.1 X.1.2.1 dL_law_33 (by rw [hp_It hr, c17]; decide) (by rw [hp_It hr, c17]; decide) (by rw [hp_It hr, c17]; rfl) (by decide) (lc_17 X hi h rC rM kk Hc locs ls hWc hWm hS hl)
  by_cases c18 : a = 18
  · exact lv_tableIn (tgt := 756) X.1.1 X.1.2.1 dL_law_33 (by rw [hp_It hr, c18]; decide) (by rw [hp_It hr, c18]; decide) (by rw [hp_It hr, c18]; rfl) (by decide) (lc_18 X hi h rC rM kk Hc locs ls hWc hWm hS hl)
  by_cases c19 : a = 19
  · exact lv_tableIn (tgt := 779) X.1.1 X.1.2.1 dL_law_33 (by rw [hp_It hr, c19]; decide) (by rw [hp_It hr, c19]; decide) (by rw [hp_It hr, c19]; rfl) (by decide) (lc_19 X hi h rC rM kk Hc locs ls hWc hWm hS hl)
  by_cases c20 : a = 20
  · exact lv_tableIn (tgt := 812) X.1.1 X.1.2.1 dL_law_33 (by rw [hp_It hr, c20]; decide) (by rw [hp_It hr, c20]; decide) (by rw [hp_It hr, c20]; rfl) (by decide) (lc_20 X hi h rC rM kk Hc locs ls hWc hWm hS hl)
  by_cases c21 : a = 21
  · exact lv_tableIn (tgt := 855) X.1.1 X.1.2.1 dL_law_33 (by rw [hp_It hr, c21]; decide) (by rw [hp_It hr, c21]; decide) (by rw [hp_It hr, c21]; rfl) (by decide) (lc_21 X hi h rC rM kk Hc locs ls hWc hWm hS hl)
  by_cases c22 : a = 22
  · exact lv_tableIn (tgt := 888) X.1.1 X.1.2.1 dL_law_33 (by rw [hp_It hr, c22]; decide) (by rw [hp_It hr, c22]; decide) (by rw [hp_It hr, c22]; rfl) (by decide) (lc_22 X hi h rC rM kk Hc locs ls hWc hWm hS hl)
  by_cases c23 : a = 23
  · exact lv_tableIn (tgt := 901) X.1.1 X.1.2.1 dL_law_33 (by rw [hp_It hr, c23]; decide) (by rw [hp_It hr, c23]; decide) (by rw [hp_It hr, c23]; rfl) (by decide) (lc_23 X hi h rC rM kk Hc locs ls hWc hWm hS hl)
  by_cases c24 : a = 24
  · exact lv_tableIn (tgt := 944) X.1.1 X.1.2.1 dL_law_33 (by rw [hp_It hr, c24]; decide) (by rw [hp_It hr, c24]; decide) (by rw [hp_It hr, c24]; rfl) (by decide) (lc_24 X hi h rC rM kk Hc locs ls hWc hWm hS hl)
  by_cases c25 : a = 25
  · exact lv_tableIn (tgt := 977) X.1.1 X.1.2.1 dL_law_33 (by rw [hp_It hr, c25]; decide) (by rw [hp_It hr, c25]; decide) (by rw [hp_It hr, c25]; rfl) (by decide) (lc_25 X hi h rC rM kk Hc locs ls hWc hWm hS hl)
  by_cases c26 : a = 26
  · exact lv_tableIn (tgt := 1010) X.1.1 X.1.2.1 dL_law_33 (by rw [hp_It hr, c26]; decide) (by rw [hp_It hr, c26]; decide) (by rw [hp_It hr, c26]; rfl) (by decide) (lc_26 X hi h rC rM kk Hc locs ls hWc hWm hS hl)
  by_cases c27 : a = 27
  · exact lv_tableIn (tgt := 1033) X.1.1 X.1.2.1 dL_law_33 (by rw [hp_It hr, c27]; decide) (by rw [hp_It hr, c27]; decide) (by rw [hp_It hr, c27]; rfl) (by decide) (lc_27 X hi h rC rM kk Hc locs ls hWc hWm hS hl)
  by_cases c28 : a = 28
  · exact lv_tableIn (tgt := 1108) X.1.1 X.1.2.1 dL_law_33 (by rw [hp_It hr, c28]; decide) (by rw [hp_It hr, c28]; decide) (by rw [hp_It hr, c28]; rfl) (by decide) (lc_28 X hi h rC rM kk Hc locs ls hWc hWm hS hl)
  by_cases c29 : a = 29
  · exact lv_tableIn (tgt := 1161) X.1.1 X.1.2.1 dL_law_33 (by rw [hp_It hr, c29]; decide) (by rw [hp_It hr, c29]; decide) (by rw [hp_It hr, c29]; rfl) (by decide) (lc_29 X hi h rC rM kk Hc locs ls hWc hWm hS hl)
  by_cases c30 : a = 30
  · exact lv_tableIn (tgt := 1214) X.1.1 X.1.2.1 dL_law_33 (by rw [hp_It hr, c30]; decide) (by rw [hp_It hr, c30]; decide) (by rw [hp_It hr, c30]; rfl) (by decide) (lc_30 X hi h rC rM kk Hc locs ls hWc hWm hS hl)
  by_cases c31 : a = 31
  · exact lv_tableIn (tgt := 1247) X.1.1 X.1.2.1 dL_law_33 (by rw [hp_It hr, c31]; decide) (by rw [hp_It hr, c31]; decide) (by rw [hp_It hr, c31]; rfl) (by decide) (lc_31 X hi h rC rM kk Hc locs ls hWc hWm hS hl)
  by_cases c32 : a = 32
  · exact lv_tableIn (tgt := 1301) X.1.1 X.1.2.1 dL_law_33 (by rw [hp_It hr, c32]; decide) (by rw [hp_It hr, c32]; decide) (by rw [hp_It hr, c32]; rfl) (by decide) (lc_32 X hi h rC rM kk Hc locs ls hWc hWm hS hl)
  by_cases c33 : a = 33
  · exact lv_tableIn (tgt := 1344) X.1.1 X.1.2.1 dL_law_33 (by rw [hp_It hr, c33]; decide) (by rw [hp_It hr, c33]; decide) (by rw [hp_It hr, c33]; rfl) (by decide) (lc_33 X hi h rC rM kk Hc locs ls hWc hWm hS hl)
  by_cases c34 : a = 34
  · exact lv_tableIn (tgt := 1367) X.1.1 X.1.2.1 dL_law_33 (by rw [hp_It hr, c34]; decide) (by rw [hp_It hr, c34]; decide) (by rw [hp_It hr, c34]; rfl) (by decide) (lc_34 X hi h rC rM kk Hc locs ls hWc hWm hS hl)
  by_cases c35 : a = 35
  · exact lv_tableIn (tgt := 1390) X.1.1 X.1.2.1 dL_law_33 (by rw [hp_It hr, c35]; decide) (by rw [hp_It hr, c35]; decide) (by rw [hp_It hr, c35]; rfl) (by decide) (lc_35 X hi h rC rM kk Hc locs ls hWc hWm hS hl)
  by_cases c36 : a = 36
  · exact lv_tableIn (tgt := 1413) X.1.1 X.1.2.1 dL_law_33 (by rw [hp_It hr, c36]; decide) (by rw [hp_It hr, c36]; decide) (by rw [hp_It hr, c36]; rfl) (by decide) (lc_36 X hi h rC rM kk Hc locs ls hWc hWm hS hl)
  by_cases c37 : a = 37
  · exact lv_tableIn (tgt := 1446) X.1.1 X.1.2.1 dL_law_33 (by rw [hp_It hr, c37]; decide) (by rw [hp_It hr, c37]; decide) (by rw [hp_It hr, c37]; rfl) (by decide) (lc_37 X hi h rC rM kk Hc locs ls hWc hWm hS hl)
  by_cases c38 : a = 38
  · exact lv_tableIn (tgt := 1479) X.1.1 X.1.2.1 dL_law_33 (by rw [hp_It hr, c38]; decide) (by rw [hp_It hr, c38]; decide) (by rw [hp_It hr, c38]; rfl) (by decide) (lc_38 X hi h rC rM kk Hc locs ls hWc hWm hS hl)
  by_cases c39 : a = 39
  · exact lv_tableIn (tgt := 1502) X.1.1 X.1.2.1 dL_law_33 (by rw [hp_It hr, c39]; decide) (by rw [hp_It hr, c39]; decide) (by rw [hp_It hr, c39]; rfl) (by decide) (lc_39 X hi h rC rM kk Hc locs ls hWc hWm hS hl)
  by_cases c40 : a = 40
  · exact lv_tableIn (tgt := 1525) X.1.1 X.1.2.1 dL_law_33 (by rw [hp_It hr, c40]; decide) (by rw [hp_It hr, c40]; decide) (by rw [hp_It hr, c40]; rfl) (by decide) (lc_40 X hi h rC rM kk Hc locs ls hWc hWm hS hl)
  exact lv_tableOut (tgt := 1538) X.1.1 X.1.2.1 dL_law_33 (by rw [hp_It hr]; omega) (by decide) (kk C M h rC rM Hc locs ls hWc hWm hS hl)
theorem l_loop {l : Launch} {p : Program} {e : Env} {s : State} {m : MethodId} {below : List Frame} {meth : Method} {c : Code} {b L : Nat} {xs : Nat → Int32} {Gc Gm : hp_G} (X : lx p s m meth c b L xs Gc Gm) : ∀ (q i : Nat) (C M : hp_H), L + 8 - i < q → i ≤ L + 7 → iv C M → hp_in C → hp_in M → lr l p e s m below meth c b Gc Gm 18 i [] C M := by
  intro q
  induction q with
  | zero => intro i C M hq; omega
  | succ q ih =>
    intro i C M hq hi h rC rM
    have hL := X.2.1
    intro Hc locs ls hWc hWm hS hl
    have hbl := X.1.2.2.2.2.2.2.2.1
    refine lv_iload_n X.1.1 X.1.2.1 dL_law_18 rfl (lv_at hl 0 rfl) ?_
    refine lv_aload_n X.1.1 X.1.2.1 dL_law_19 rfl (lv_at hl 3 rfl) ?_
    refine va_slen X.1.1 X.1.2.1 X.1.2.2.2.2.2.2.1 hbl (A := lA s) (fun z => by have z : s.heap.size ≤ b := z; omega) hS dL_law_20 ?_
    rw [show Int32.ofNat L = hp_I (L : Int) from Int32.toInt_inj.mp (by rw [hp_It (by unfold hp_r; omega)]; exact nI_toInt (by omega))]
    refine lv_bipush (v := hp_I 7) X.1.1 X.1.2.1 dL_law_21 rfl ?_
    refine lv_isub X.1.1 X.1.2.1 dL_law_23 ?_
    rw [hp_sub, pu_w (by omega)]
    have q9 := hp_lt (a := (L : Int) - 7) (b := (i : Int)) (by unfold hp_r; omega) (by unfold hp_r; omega)
    refine lv_icmp_gt (tgt := 1544) X.1.1 X.1.2.1 dL_law_24 (by decide) (fun z => ?_) (fun z => ?_)
    · refine va_forget (fun q hq => hS.2.2 q hq) ?_
      refine W.widen (k := 600000) (n := 7302250) (Nat.le_of_ble_eq_true rfl) (Nat.le_of_ble_eq_true rfl) ?_
      refine lv_iconst (v := 1) X.1.1 X.1.2.1 dL_law_1544 rfl ?_
      exact lw_ret X.1.1 X.1.2.1 X.1.2.2.1 X.1.2.2.2.2.2.2.2.2.1 dL_law_1545
    · have hlt : ¬ (L : Int) - 7 < (i : Int) := fun y => z (q9.mpr y)
      have hi7 : i + 7 ≤ L := by omega
      refine lv_aload_n X.1.1 X.1.2.1 dL_law_27 rfl (lv_at hl 3 rfl) ?_
      refine lv_iload_n X.1.1 X.1.2.1 dL_law_28 rfl (lv_at hl 0 rfl) ?_
      exact l_sld X (by omega) dL_law_29 (l_switch X hi7 h rC rM (fun C2 M2 h2 r1 r2 => l_next X hi7 (ih (i + 7) C2 M2 (by omega) (by omega) h2 r1 r2))) Hc locs ls hWc hWm hS hl
