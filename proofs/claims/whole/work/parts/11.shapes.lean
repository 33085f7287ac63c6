/-! the cells of the class, and of the reference: what lies where -/
def hp_shc : List hp_S := [(0, 7, [some 1, some 13, some 15, some 22, some 29, some 199, some 210, some 227, some 229, none, none]), (0, 4, [some 2, some 11, some 12]), (4, 8, [some 3, some 1]), (1, 40, []), (1, 40, []), (1, 40, []), (1, 40, []), (1, 40, []), (1, 40, []), (1, 40, []), (1, 40, []), (1, 8, []), (1, 8, []), (0, 5, [some 14, none, none, none, none]), (1, 120, []), (0, 6, [none, none, none, none, none, none, some 16, some 17, some 18, some 19, some 20, some 21]), (1, 6, []), (1, 6, []), (1, 6, []), (1, 6, []), (1, 4, []), (1, 4, []), (0, 6, [none, none, none, none, none, none, some 23, some 24, some 25, some 26, some 27, some 28]), (1, 6, []), (1, 6, []), (1, 6, []), (1, 6, []), (1, 4, []), (1, 4, []), (0, 0, [some 30, none, none]), (3, 24, [some 31, some 7]), (0, 6, [none, none, none, none, none, none, some 32, some 33, some 34, some 35, some 36, some 37]), (1, 6, []), (1, 6, []), (1, 6, []), (1, 6, []), (1, 4, []), (1, 4, []), (0, 6, [none, none, none, none, none, none, some 39, some 40, some 41, some 42, some 43, some 44]), (1, 6, []), (1, 6, []), (1, 6, []), (1, 6, []), (1, 4, []), (1, 4, []), (0, 6, [none, none, none, none, none, none, some 46, some 47, some 48, some 49, some 50, some 51]), (1, 6, []), (1, 6, []), (1, 6, []), (1, 6, []), (1, 4, []), (1, 4, []), (0, 6, [none, none, none, none, none, none, some 53, some 54, some 55, some 56, some 57, some 58]), (1, 6, []), (1, 6, []), (1, 6, []), (1, 6, []), (1, 4, []), (1, 4, []), (0, 6, [none, none, none, none, none, none, some 60, some 61, some 62, some 63, some 64, some 65]), (1, 6, []), (1, 6, []), (1, 6, []), (1, 6, []), (1, 4, []), (1, 4, []), (0, 6, [none, none, none, none, none, none, some 67, some 68, some 69, some 70, some 71, some 72]), (1, 6, []), (1, 6, []), (1, 6, []), (1, 6, []), (1, 4, []), (1, 4, []), (0, 6, [none, none, none, none, none, none, some 74, some 75, some 76, some 77, some 78, some 79]), (1, 6, []), (1, 6, []), (1, 6, []), (1, 6, []), (1, 4, []), (1, 4, []), (0, 6, [none, none, none, none, none, none, some 81, some 82, some 83, some 84, some 85, some 86]), (1, 6, []), (1, 6, []), (1, 6, []), (1, 6, []), (1, 4, []), (1, 4, []), (0, 6, [none, none, none, none, none, none, some 88, some 89, some 90, some 91, some 92, some 93]), (1, 6, []), (1, 6, []), (1, 6, []), (1, 6, []), (1, 4, []), (1, 4, []), (0, 6, [none, none, none, none, none, none, some 95, some 96, some 97, some 98, some 99, some 100]), (1, 6, []), (1, 6, []), (1, 6, []), (1, 6, []), (1, 4, []), (1, 4, []), (0, 6, [none, none, none, none, none, none, some 102, some 103, some 104, some 105, some 106, some 107]), (1, 6, []), (1, 6, []), (1, 6, []), (1, 6, []), (1, 4, []), (1, 4, []), (0, 6, [none, none, none, none, none, none, some 109, some 110, some 111, some 112, some 113, some 114]), (1, 6, []), (1, 6, []), (1, 6, []), (1, 6, []), (1, 4, []), (1, 4, []), (0, 6, [none, none, none, none, none, none, some 116, some 117, some 118, some 119, some 120, some 121]), (1, 6, []), (1, 6, []), (1, 6, []), (1, 6, []), (1, 4, []), (1, 4, []), (0, 6, [none, none, none, none, none, none, some 123, some 124, some 125, some 126, some 127, some 128]), (1, 6, []), (1, 6, []), (1, 6, []), (1, 6, []), (1, 4, []), (1, 4, []), (0, 6, [none, none, none, none, none, none, some 130, some 131, some 132, some 133, some 134, some 135]), (1, 6, []), (1, 6, []), (1, 6, []), (1, 6, []), (1, 4, []), (1, 4, []), (0, 6, [none, none, none, none, none, none, some 137, some 138, some 139, some 140, some 141, some 142]), (1, 6, []), (1, 6, []), (1, 6, []), (1, 6, []), (1, 4, []), (1, 4, []), (0, 6, [none, none, none, none, none, none, some 144, some 145, some 146, some 147, some 148, some 149]), (1, 6, []), (1, 6, []), (1, 6, []), (1, 6, []), (1, 4, []), (1, 4, []), (0, 6, [none, none, none, none, none, none, some 151, some 152, some 153, some 154, some 155, some 156]), (1, 6, []), (1, 6, []), (1, 6, []), (1, 6, []), (1, 4, []), (1, 4, []), (0, 6, [none, none, none, none, none, none, some 158, some 159, some 160, some 161, some 162, some 163]), (1, 6, []), (1, 6, []), (1, 6, []), (1, 6, []), (1, 4, []), (1, 4, []), (0, 6, [none, none, none, none, none, none, some 165, some 166, some 167, some 168, some 169, some 170]), (1, 6, []), (1, 6, []), (1, 6, []), (1, 6, []), (1, 4, []), (1, 4, []), (0, 6, [none, none, none, none, none, none, some 172, some 173, some 174, some 175, some 176, some 177]), (1, 6, []), (1, 6, []), (1, 6, []), (1, 6, []), (1, 4, []), (1, 4, []), (0, 6, [none, none, none, none, none, none, some 179, some 180, some 181, some 182, some 183, some 184]), (1, 6, []), (1, 6, []), (1, 6, []), (1, 6, []), (1, 4, []), (1, 4, []), (0, 6, [none, none, none, none, none, none, some 186, some 187, some 188, some 189, some 190, some 191]), (1, 6, []), (1, 6, []), (1, 6, []), (1, 6, []), (1, 4, []), (1, 4, []), (0, 6, [none, none, none, none, none, none, some 193, some 194, some 195, some 196, some 197, some 198]), (1, 6, []), (1, 6, []), (1, 6, []), (1, 6, []), (1, 4, []), (1, 4, []), (0, 2, [some 200, some 207, some 208, some 209, none, none, none, none]), (4, 6, [some 201, some 1]), (1, 199, []), (1, 199, []), (1, 199, []), (1, 199, []), (1, 199, []), (1, 199, []), (1, 198, []), (1, 198, []), (1, 4, []), (0, 3, [some 199, some 211, some 218, some 225, some 226, none]), (0, 6, [none, none, none, none, none, none, some 212, some 213, some 214, some 215, some 216, some 217]), (1, 6, []), (1, 6, []), (1, 6, []), (1, 6, []), (1, 4, []), (1, 4, []), (0, 6, [none, none, none, none, none, none, some 219, some 220, some 221, some 222, some 223, some 224]), (1, 6, []), (1, 6, []), (1, 6, []), (1, 6, []), (1, 4, []), (1, 4, []), (1, 6, []), (1, 12, []), (0, 1, [some 228, none]), (1, 16, []), (3, 2, [some 230, some 7]), (0, 6, [none, none, none, none, none, none, some 231, some 232, some 233, some 234, some 235, some 236]), (1, 6, []), (1, 6, []), (1, 6, []), (1, 6, []), (1, 4, []), (1, 4, []), (0, 6, [none, none, none, none, none, none, some 238, some 239, some 240, some 241, some 242, some 243]), (1, 6, []), (1, 6, []), (1, 6, []), (1, 6, []), (1, 4, []), (1, 4, [])]
def hp_shm : List hp_S := [(0, 8, [none, none, some 1, some 2, some 3, some 4, some 5, some 6, some 7, none, some 8, none, none, none, none, none, none, none, none, some 9, some 10, some 11, some 12, some 13, some 14, none]), (1, 8, []), (1, 8, []), (1, 320, []), (1, 41, []), (1, 41, []), (1, 41, []), (1, 984, []), (1, 120, []), (1, 4, []), (1, 6, []), (1, 6, []), (2, 2, []), (1, 82, []), (1, 16, [])]
theorem sc_0 {G : hp_G} (hG : hp_sh G = hp_shc) : (hp_sh G)[(0 : Int).toNat]? = some (0, 7, [some 1, some 13, some 15, some 22, some 29, some 199, some 210, some 227, some 229, none, none]) := by rw [hG]; rfl
theorem sc_1 {G : hp_G} (hG : hp_sh G = hp_shc) : (hp_sh G)[(1 : Int).toNat]? = some (0, 4, [some 2, some 11, some 12]) := by rw [hG]; rfl
theorem sc_2 {G : hp_G} (hG : hp_sh G = hp_shc) : (hp_sh G)[(2 : Int).toNat]? = some (4, 8, [some 3, some 1]) := by rw [hG]; rfl
theorem sc_11 {G : hp_G} (hG : hp_sh G = hp_shc) : (hp_sh G)[(11 : Int).toNat]? = some (1, 8, []) := by rw [hG]; rfl
theorem sc_12 {G : hp_G} (hG : hp_sh G = hp_shc) : (hp_sh G)[(12 : Int).toNat]? = some (1, 8, []) := by rw [hG]; rfl
theorem sc_13 {G : hp_G} (hG : hp_sh G = hp_shc) : (hp_sh G)[(13 : Int).toNat]? = some (0, 5, [some 14, none, none, none, none]) := by rw [hG]; rfl
theorem sc_14 {G : hp_G} (hG : hp_sh G = hp_shc) : (hp_sh G)[(14 : Int).toNat]? = some (1, 120, []) := by rw [hG]; rfl
theorem sc_29 {G : hp_G} (hG : hp_sh G = hp_shc) : (hp_sh G)[(29 : Int).toNat]? = some (0, 0, [some 30, none, none]) := by rw [hG]; rfl
theorem sc_30 {G : hp_G} (hG : hp_sh G = hp_shc) : (hp_sh G)[(30 : Int).toNat]? = some (3, 24, [some 31, some 7]) := by rw [hG]; rfl
theorem sc_199 {G : hp_G} (hG : hp_sh G = hp_shc) : (hp_sh G)[(199 : Int).toNat]? = some (0, 2, [some 200, some 207, some 208, some 209, none, none, none, none]) := by rw [hG]; rfl
theorem sc_200 {G : hp_G} (hG : hp_sh G = hp_shc) : (hp_sh G)[(200 : Int).toNat]? = some (4, 6, [some 201, some 1]) := by rw [hG]; rfl
theorem sc_207 {G : hp_G} (hG : hp_sh G = hp_shc) : (hp_sh G)[(207 : Int).toNat]? = some (1, 198, []) := by rw [hG]; rfl
theorem sc_208 {G : hp_G} (hG : hp_sh G = hp_shc) : (hp_sh G)[(208 : Int).toNat]? = some (1, 198, []) := by rw [hG]; rfl
theorem sc_209 {G : hp_G} (hG : hp_sh G = hp_shc) : (hp_sh G)[(209 : Int).toNat]? = some (1, 4, []) := by rw [hG]; rfl
theorem sc_210 {G : hp_G} (hG : hp_sh G = hp_shc) : (hp_sh G)[(210 : Int).toNat]? = some (0, 3, [some 199, some 211, some 218, some 225, some 226, none]) := by rw [hG]; rfl
theorem sc_225 {G : hp_G} (hG : hp_sh G = hp_shc) : (hp_sh G)[(225 : Int).toNat]? = some (1, 6, []) := by rw [hG]; rfl
theorem sc_226 {G : hp_G} (hG : hp_sh G = hp_shc) : (hp_sh G)[(226 : Int).toNat]? = some (1, 12, []) := by rw [hG]; rfl
theorem sc_227 {G : hp_G} (hG : hp_sh G = hp_shc) : (hp_sh G)[(227 : Int).toNat]? = some (0, 1, [some 228, none]) := by rw [hG]; rfl
theorem sc_228 {G : hp_G} (hG : hp_sh G = hp_shc) : (hp_sh G)[(228 : Int).toNat]? = some (1, 16, []) := by rw [hG]; rfl
theorem sc_229 {G : hp_G} (hG : hp_sh G = hp_shc) : (hp_sh G)[(229 : Int).toNat]? = some (3, 2, [some 230, some 7]) := by rw [hG]; rfl
theorem sm_0 {G : hp_G} (hG : hp_sh G = hp_shm) : (hp_sh G)[(0 : Int).toNat]? = some (0, 8, [none, none, some 1, some 2, some 3, some 4, some 5, some 6, some 7, none, some 8, none, none, none, none, none, none, none, none, some 9, some 10, some 11, some 12, some 13, some 14, none]) := by rw [hG]; rfl
theorem sm_1 {G : hp_G} (hG : hp_sh G = hp_shm) : (hp_sh G)[(1 : Int).toNat]? = some (1, 8, []) := by rw [hG]; rfl
theorem sm_2 {G : hp_G} (hG : hp_sh G = hp_shm) : (hp_sh G)[(2 : Int).toNat]? = some (1, 8, []) := by rw [hG]; rfl
theorem sm_3 {G : hp_G} (hG : hp_sh G = hp_shm) : (hp_sh G)[(3 : Int).toNat]? = some (1, 320, []) := by rw [hG]; rfl
theorem sm_4 {G : hp_G} (hG : hp_sh G = hp_shm) : (hp_sh G)[(4 : Int).toNat]? = some (1, 41, []) := by rw [hG]; rfl
theorem sm_5 {G : hp_G} (hG : hp_sh G = hp_shm) : (hp_sh G)[(5 : Int).toNat]? = some (1, 41, []) := by rw [hG]; rfl
theorem sm_6 {G : hp_G} (hG : hp_sh G = hp_shm) : (hp_sh G)[(6 : Int).toNat]? = some (1, 41, []) := by rw [hG]; rfl
theorem sm_7 {G : hp_G} (hG : hp_sh G = hp_shm) : (hp_sh G)[(7 : Int).toNat]? = some (1, 984, []) := by rw [hG]; rfl
theorem sm_8 {G : hp_G} (hG : hp_sh G = hp_shm) : (hp_sh G)[(8 : Int).toNat]? = some (1, 120, []) := by rw [hG]; rfl
theorem sm_9 {G : hp_G} (hG : hp_sh G = hp_shm) : (hp_sh G)[(9 : Int).toNat]? = some (1, 4, []) := by rw [hG]; rfl
theorem sm_10 {G : hp_G} (hG : hp_sh G = hp_shm) : (hp_sh G)[(10 : Int).toNat]? = some (1, 6, []) := by rw [hG]; rfl
theorem sm_11 {G : hp_G} (hG : hp_sh G = hp_shm) : (hp_sh G)[(11 : Int).toNat]? = some (1, 6, []) := by rw [hG]; rfl
theorem sm_12 {G : hp_G} (hG : hp_sh G = hp_shm) : (hp_sh G)[(12 : Int).toNat]? = some (2, 2, []) := by rw [hG]; rfl
theorem sm_13 {G : hp_G} (hG : hp_sh G = hp_shm) : (hp_sh G)[(13 : Int).toNat]? = some (1, 82, []) := by rw [hG]; rfl
theorem sm_14 {G : hp_G} (hG : hp_sh G = hp_shm) : (hp_sh G)[(14 : Int).toNat]? = some (1, 16, []) := by rw [hG]; rfl
/-- a Town's cells from t on -/
def hp_tw (G : hp_G) (t : Int) : Prop := 0 ≤ t ∧ (hp_sh G)[t.toNat]? = some (0, 6, [none, none, none, none, none, none, some (t + 1), some (t + 2), some (t + 3), some (t + 4), some (t + 5), some (t + 6)]) ∧ (hp_sh G)[(t + 1).toNat]? = some (1, 6, []) ∧ (hp_sh G)[(t + 2).toNat]? = some (1, 6, []) ∧ (hp_sh G)[(t + 3).toNat]? = some (1, 6, []) ∧ (hp_sh G)[(t + 4).toNat]? = some (1, 6, []) ∧ (hp_sh G)[(t + 5).toNat]? = some (1, 4, []) ∧ (hp_sh G)[(t + 6).toNat]? = some (1, 4, [])
theorem tw_p {G : hp_G} {t : Int} (h : hp_tw G t) : 0 ≤ t := h.1
theorem tw_0 {G : hp_G} {t : Int} (h : hp_tw G t) : (hp_sh G)[t.toNat]? = some (0, 6, [none, none, none, none, none, none, some (t + 1), some (t + 2), some (t + 3), some (t + 4), some (t + 5), some (t + 6)]) := h.2.1
theorem tw_1 {G : hp_G} {t : Int} (h : hp_tw G t) : (hp_sh G)[(t + 1).toNat]? = some (1, 6, []) := h.2.2.1
theorem tw_2 {G : hp_G} {t : Int} (h : hp_tw G t) : (hp_sh G)[(t + 2).toNat]? = some (1, 6, []) := h.2.2.2.1
theorem tw_3 {G : hp_G} {t : Int} (h : hp_tw G t) : (hp_sh G)[(t + 3).toNat]? = some (1, 6, []) := h.2.2.2.2.1
theorem tw_4 {G : hp_G} {t : Int} (h : hp_tw G t) : (hp_sh G)[(t + 4).toNat]? = some (1, 6, []) := h.2.2.2.2.2.1
theorem tw_5 {G : hp_G} {t : Int} (h : hp_tw G t) : (hp_sh G)[(t + 5).toNat]? = some (1, 4, []) := h.2.2.2.2.2.2.1
theorem tw_6 {G : hp_G} {t : Int} (h : hp_tw G t) : (hp_sh G)[(t + 6).toNat]? = some (1, 4, []) := h.2.2.2.2.2.2.2
theorem tw_p1 {G : hp_G} {t : Int} (h : hp_tw G t) : 0 ≤ t + 1 := by have := h.1; omega
theorem tw_p2 {G : hp_G} {t : Int} (h : hp_tw G t) : 0 ≤ t + 2 := by have := h.1; omega
theorem tw_p3 {G : hp_G} {t : Int} (h : hp_tw G t) : 0 ≤ t + 3 := by have := h.1; omega
theorem tw_p4 {G : hp_G} {t : Int} (h : hp_tw G t) : 0 ≤ t + 4 := by have := h.1; omega
theorem tw_p5 {G : hp_G} {t : Int} (h : hp_tw G t) : 0 ≤ t + 5 := by have := h.1; omega
theorem tw_p6 {G : hp_G} {t : Int} (h : hp_tw G t) : 0 ≤ t + 6 := by have := h.1; omega
theorem tw_at15 {G : hp_G} (hG : hp_sh G = hp_shc) : hp_tw G 15 := by unfold hp_tw; rw [hG]; exact ⟨by decide, rfl, rfl, rfl, rfl, rfl, rfl, rfl⟩
theorem tw_at22 {G : hp_G} (hG : hp_sh G = hp_shc) : hp_tw G 22 := by unfold hp_tw; rw [hG]; exact ⟨by decide, rfl, rfl, rfl, rfl, rfl, rfl, rfl⟩
theorem tw_at211 {G : hp_G} (hG : hp_sh G = hp_shc) : hp_tw G 211 := by unfold hp_tw; rw [hG]; exact ⟨by decide, rfl, rfl, rfl, rfl, rfl, rfl, rfl⟩
theorem tw_at218 {G : hp_G} (hG : hp_sh G = hp_shc) : hp_tw G 218 := by unfold hp_tw; rw [hG]; exact ⟨by decide, rfl, rfl, rfl, rfl, rfl, rfl, rfl⟩
theorem tw_bef {G : hp_G} {i : Int} (hG : hp_sh G = hp_shc) (h : 0 ≤ i ∧ i < 24) : hp_tw G (31 + 7 * i) := by
  obtain ⟨k, rfl⟩ : ∃ k : Nat, i = (k : Int) := ⟨i.toNat, by omega⟩
  have hk : k < 24 := by omega
  unfold hp_tw
  rw [hG]
  match k, hk with
  | 0, _ => exact ⟨by decide, rfl, rfl, rfl, rfl, rfl, rfl, rfl⟩
  | 1, _ => exact ⟨by decide, rfl, rfl, rfl, rfl, rfl, rfl, rfl⟩
  | 2, _ => exact ⟨by decide, rfl, rfl, rfl, rfl, rfl, rfl, rfl⟩
  | 3, _ => exact ⟨by decide, rfl, rfl, rfl, rfl, rfl, rfl, rfl⟩
  | 4, _ => exact ⟨by decide, rfl, rfl, rfl, rfl, rfl, rfl, rfl⟩
  | 5, _ => exact ⟨by decide, rfl, rfl, rfl, rfl, rfl, rfl, rfl⟩
  | 6, _ => exact ⟨by decide, rfl, rfl, rfl, rfl, rfl, rfl, rfl⟩
  | 7, _ => exact ⟨by decide, rfl, rfl, rfl, rfl, rfl, rfl, rfl⟩
  | 8, _ => exact ⟨by decide, rfl, rfl, rfl, rfl, rfl, rfl, rfl⟩
  | 9, _ => exact ⟨by decide, rfl, rfl, rfl, rfl, rfl, rfl, rfl⟩
  | 10, _ => exact ⟨by decide, rfl, rfl, rfl, rfl, rfl, rfl, rfl⟩
  | 11, _ => exact ⟨by decide, rfl, rfl, rfl, rfl, rfl, rfl, rfl⟩
  | 12, _ => exact ⟨by decide, rfl, rfl, rfl, rfl, rfl, rfl, rfl⟩
  | 13, _ => exact ⟨by decide, rfl, rfl, rfl, rfl, rfl, rfl, rfl⟩
  | 14, _ => exact ⟨by decide, rfl, rfl, rfl, rfl, rfl, rfl, rfl⟩
  | 15, _ => exact ⟨by decide, rfl, rfl, rfl, rfl, rfl, rfl, rfl⟩
  | 16, _ => exact ⟨by decide, rfl, rfl, rfl, rfl, rfl, rfl, rfl⟩
  | 17, _ => exact ⟨by decide, rfl, rfl, rfl, rfl, rfl, rfl, rfl⟩
  | 18, _ => exact ⟨by decide, rfl, rfl, rfl, rfl, rfl, rfl, rfl⟩
  | 19, _ => exact ⟨by decide, rfl, rfl, rfl, rfl, rfl, rfl, rfl⟩
  | 20, _ => exact ⟨by decide, rfl, rfl, rfl, rfl, rfl, rfl, rfl⟩
  | 21, _ => exact ⟨by decide, rfl, rfl, rfl, rfl, rfl, rfl, rfl⟩
  | 22, _ => exact ⟨by decide, rfl, rfl, rfl, rfl, rfl, rfl, rfl⟩
  | 23, _ => exact ⟨by decide, rfl, rfl, rfl, rfl, rfl, rfl, rfl⟩
  | k + 24, h => exact absurd h (by omega)
theorem tw_img {G : hp_G} {i : Int} (hG : hp_sh G = hp_shc) (h : 0 ≤ i ∧ i < 2) : hp_tw G (230 + 7 * i) := by
  obtain ⟨k, rfl⟩ : ∃ k : Nat, i = (k : Int) := ⟨i.toNat, by omega⟩
  have hk : k < 2 := by omega
  unfold hp_tw
  rw [hG]
  match k, hk with
  | 0, _ => exact ⟨by decide, rfl, rfl, rfl, rfl, rfl, rfl, rfl⟩
  | 1, _ => exact ⟨by decide, rfl, rfl, rfl, rfl, rfl, rfl, rfl⟩
  | k + 2, h => exact absurd h (by omega)
theorem sc_it {G : hp_G} {i : Int} (hG : hp_sh G = hp_shc) (h : 0 ≤ i ∧ i < 8) : (hp_sh G)[(3 + i).toNat]? = some (1, 40, []) := by
  obtain ⟨k, rfl⟩ : ∃ k : Nat, i = (k : Int) := ⟨i.toNat, by omega⟩
  have hk : k < 8 := by omega
  rw [hG]
  match k, hk with
  | 0, _ => rfl
  | 1, _ => rfl
  | 2, _ => rfl
  | 3, _ => rfl
  | 4, _ => rfl
  | 5, _ => rfl
  | 6, _ => rfl
  | 7, _ => rfl
  | k + 8, h => exact absurd h (by omega)
theorem sc_itp {i : Int} (h : 0 ≤ i ∧ i < 8) : 0 ≤ 3 + i := by omega
theorem sc_pl {G : hp_G} {i : Int} (hG : hp_sh G = hp_shc) (h : 0 ≤ i ∧ i < 6) : (hp_sh G)[(201 + i).toNat]? = some (1, 199, []) := by
  obtain ⟨k, rfl⟩ : ∃ k : Nat, i = (k : Int) := ⟨i.toNat, by omega⟩
  have hk : k < 6 := by omega
  rw [hG]
  match k, hk with
  | 0, _ => rfl
  | 1, _ => rfl
  | 2, _ => rfl
  | 3, _ => rfl
  | 4, _ => rfl
  | 5, _ => rfl
  | k + 6, h => exact absurd h (by omega)
theorem sc_plp {i : Int} (h : 0 ≤ i ∧ i < 6) : 0 ≤ 201 + i := by omega
