section ZL
variable {n0 d rc rs pc : Nat} {X : z_X} {lv lv' : List (Nat × Value)} {st : List Value} {K : z_K} {I : z_I} {L : z_L} {Q : z_R}
theorem z_ldc {idx : Nat} (v : Int32) (hd : decode X.2.1 pc = .ok (.ldc idx, 2)) (hw : Cond.constant X.1.cls idx v ∈ lw_good) (k : Z n0 X d rc rs (pc + 2) lv (.int v :: st) K I L Q) : Z n0 X d rc rs pc lv st K I L Q := by
  intro p l e R s m args below meth c G mc ms H locs cells slots ls hC hH hS hl hc1 hc2
  exact lv_ldc hC.hx hC.hb hC.hown (hC.hw hw) hd (k p l e R s m args below meth c G mc ms H locs cells slots ls hC hH hS hl hc1 hc2)
theorem z_ldc_w {idx : Nat} (v : Int32) (hd : decode X.2.1 pc = .ok (.ldc_w idx, 3)) (hw : Cond.constant X.1.cls idx v ∈ lw_good) (k : Z n0 X d rc rs (pc + 3) lv (.int v :: st) K I L Q) : Z n0 X d rc rs pc lv st K I L Q := by
  intro p l e R s m args below meth c G mc ms H locs cells slots ls hC hH hS hl hc1 hc2
  exact lv_ldcw hC.hx hC.hb hC.hown (hC.hw hw) hd (k p l e R s m args below meth c G mc ms H locs cells slots ls hC hH hS hl hc1 hc2)
theorem z_ldc2_w {idx : Nat} (v : Int64) (hd : decode X.2.1 pc = .ok (.ldc2_w idx, 3)) (hw : Cond.constantLong X.1.cls idx v ∈ lw_good) (k : Z n0 X d rc rs (pc + 3) lv (.long v :: st) K I L Q) : Z n0 X d rc rs pc lv st K I L Q := by
  intro p l e R s m args below meth c G mc ms H locs cells slots ls hC hH hS hl hc1 hc2
  exact lv_ldc2 hC.hx hC.hb hC.hown (hC.hw hw) hd (k p l e R s m args below meth c G mc ms H locs cells slots ls hC hH hS hl hc1 hc2)
theorem z_tabIn {dflt lo hi : Int} {offs : Array Int} {len : Nat} {x : Int32} {off : Int} (tgt : Nat) (hd : decode X.2.1 pc = .ok (.tableswitch dflt lo hi offs, len)) (h1 : ¬ x.toInt < lo) (h2 : ¬ hi < x.toInt) (ho : offs[(x.toInt - lo).toNat]? = some off) (ht : (pc : Int) + off = (tgt : Int)) (k : Z n0 X d rc rs tgt lv st K I L Q) : Z n0 X d rc rs pc lv (.int x :: st) K I L Q := by
  intro p l e R s m args below meth c G mc ms H locs cells slots ls hC hH hS hl hc1 hc2
  exact lv_tableIn hC.hx hC.hb hd h1 h2 ho ht (k p l e R s m args below meth c G mc ms H locs cells slots ls hC hH hS hl hc1 hc2)
theorem z_tabOut {dflt lo hi : Int} {offs : Array Int} {len : Nat} {x : Int32} (tgt : Nat) (hd : decode X.2.1 pc = .ok (.tableswitch dflt lo hi offs, len)) (h1 : x.toInt < lo ∨ hi < x.toInt) (ht : (pc : Int) + dflt = (tgt : Int)) (k : Z n0 X d rc rs tgt lv st K I L Q) : Z n0 X d rc rs pc lv (.int x :: st) K I L Q := by
  intro p l e R s m args below meth c G mc ms H locs cells slots ls hC hH hS hl hc1 hc2
  exact lv_tableOut hC.hx hC.hb hd h1 ht (k p l e R s m args below meth c G mc ms H locs cells slots ls hC hH hS hl hc1 hc2)
theorem z_nti {x : Int32} {n : Int} (hn : -2147483648 ≤ n ∧ n < 2147483648) (h : ¬ x = Int32.ofInt n) : x.toInt ≠ n := fun q => h (by rw [← q]; simp)
theorem z_i01 {c : Prop} [Decidable c] : (if c then (0 : Int32) else 1) = 0 ↔ c := by by_cases h : c <;> simp [h]
theorem z_i01n {c : Prop} [Decidable c] (g : ¬ (if c then (0 : Int32) else 1) = 0) : ¬ c := fun z => g (z_i01.mpr z)
theorem z_i10 {c : Prop} [Decidable c] : (if c then (1 : Int32) else 0) = 0 ↔ ¬ c := by by_cases h : c <;> simp [h]
theorem z_i10n {c : Prop} [Decidable c] (g : ¬ (if c then (1 : Int32) else 0) = 0) : c := Classical.byContradiction (fun z => g (z_i10.mpr z))
theorem z_bite {x : Int32} (h : x = 0 ∨ x = 1) : z_b x := h
theorem zr_cat (o : Option Nat) : (zr n0 o).category = 1 := by cases o <;> rfl
theorem z_tout_0_9 {x : Int32} (g0 : ¬ x = 0) (g1 : ¬ x = 1) (g2 : ¬ x = 2) (g3 : ¬ x = 3) (g4 : ¬ x = 4) (g5 : ¬ x = 5) (g6 : ¬ x = 6) (g7 : ¬ x = 7) (g8 : ¬ x = 8) (g9 : ¬ x = 9) : x.toInt < 0 ∨ 9 < x.toInt := by
  have := z_nti (n := 0) (by decide) g0
  have := z_nti (n := 1) (by decide) g1
  have := z_nti (n := 2) (by decide) g2
  have := z_nti (n := 3) (by decide) g3
  have := z_nti (n := 4) (by decide) g4
  have := z_nti (n := 5) (by decide) g5
  have := z_nti (n := 6) (by decide) g6
  have := z_nti (n := 7) (by decide) g7
  have := z_nti (n := 8) (by decide) g8
  have := z_nti (n := 9) (by decide) g9
  omega
theorem z_tout_10030_10032 {x : Int32} (g10030 : ¬ x = 10030) (g10031 : ¬ x = 10031) (g10032 : ¬ x = 10032) : x.toInt < 10030 ∨ 10032 < x.toInt := by
  have := z_nti (n := 10030) (by decide) g10030
  have := z_nti (n := 10031) (by decide) g10031
  have := z_nti (n := 10032) (by decide) g10032
  omega
end ZL
/-- the arrays of the reference: field, number, kind, length -/
def m_arr : List (Nat × Nat × Nat × Nat) := [(2, 60, 20, 2100), (3, 61, 20, 2100), (4, 62, 20, 2100), (5, 63, 20, 2100), (7, 64, 20, 12), (8, 65, 20, 96), (10, 66, 20, 16), (11, 67, 20, 16), (12, 68, 20, 16), (13, 69, 21, 16), (14, 70, 20, 160), (15, 71, 20, 160), (16, 72, 21, 160), (17, 73, 20, 160), (18, 74, 20, 160), (19, 75, 20, 8), (20, 76, 20, 60), (23, 77, 20, 7200), (24, 78, 20, 120), (25, 79, 20, 120), (26, 80, 20, 120), (27, 81, 20, 120), (35, 82, 20, 10), (36, 83, 20, 10), (37, 84, 20, 8), (40, 85, 22, 70), (42, 86, 20, 70), (48, 87, 20, 160), (50, 88, 20, 40), (51, 89, 20, 40), (52, 90, 20, 40), (53, 91, 20, 40), (54, 92, 20, 10), (55, 93, 20, 10), (57, 94, 20, 16), (58, 95, 20, 81), (59, 96, 20, 81), (60, 97, 20, 11), (63, 98, 20, 20), (64, 99, 20, 20), (65, 100, 20, 20), (66, 101, 20, 20), (67, 102, 20, 20), (68, 103, 20, 20), (69, 104, 20, 20), (70, 105, 20, 20), (71, 106, 20, 20), (72, 107, 20, 20), (73, 108, 20, 120), (74, 109, 20, 120), (78, 110, 20, 12), (79, 111, 20, 2), (80, 112, 22, 6), (82, 113, 20, 6), (83, 114, 20, 24), (86, 115, 20, 162), (87, 116, 20, 162), (90, 117, 20, 4), (91, 118, 20, 4), (92, 119, 20, 96), (93, 120, 20, 4), (94, 121, 20, 4), (95, 122, 20, 4), (96, 123, 20, 96), (97, 124, 20, 4), (98, 125, 20, 4), (99, 126, 20, 4), (100, 127, 20, 4), (101, 128, 20, 4), (102, 129, 20, 4), (103, 130, 20, 192), (104, 131, 20, 4), (105, 132, 20, 12), (108, 133, 20, 30), (109, 134, 20, 30), (110, 135, 20, 30), (111, 136, 20, 30), (112, 137, 20, 30), (113, 138, 20, 30), (115, 139, 20, 12), (116, 140, 20, 12), (117, 141, 20, 96), (118, 142, 20, 96), (119, 143, 20, 12), (120, 144, 20, 144), (121, 145, 20, 144), (122, 146, 20, 144), (123, 147, 20, 5), (125, 148, 20, 6), (126, 149, 20, 6), (127, 150, 20, 6), (128, 151, 20, 6)]
def MLay (K : z_K) : Prop := 59 < K.1 ∧ (K.2.1 59).1 = 13 ∧ ∀ q ∈ m_arr, K.2.2 59 q.1 = some q.2.1 ∧ q.2.1 < K.1 ∧ K.2.1 q.2.1 = (q.2.2.1, q.2.2.2)
theorem ma_2 {K : z_K} (h : MLay K) : K.2.2 59 2 = some 60 ∧ 60 < K.1 ∧ K.2.1 60 = (20, 2100) := h.2.2 (2, 60, 20, 2100) (List.mem_of_getElem? (i := 0) rfl)
theorem ma_3 {K : z_K} (h : MLay K) : K.2.2 59 3 = some 61 ∧ 61 < K.1 ∧ K.2.1 61 = (20, 2100) := h.2.2 (3, 61, 20, 2100) (List.mem_of_getElem? (i := 1) rfl)
theorem ma_4 {K : z_K} (h : MLay K) : K.2.2 59 4 = some 62 ∧ 62 < K.1 ∧ K.2.1 62 = (20, 2100) := h.2.2 (4, 62, 20, 2100) (List.mem_of_getElem? (i := 2) rfl)
theorem ma_5 {K : z_K} (h : MLay K) : K.2.2 59 5 = some 63 ∧ 63 < K.1 ∧ K.2.1 63 = (20, 2100) := h.2.2 (5, 63, 20, 2100) (List.mem_of_getElem? (i := 3) rfl)
theorem ma_7 {K : z_K} (h : MLay K) : K.2.2 59 7 = some 64 ∧ 64 < K.1 ∧ K.2.1 64 = (20, 12) := h.2.2 (7, 64, 20, 12) (List.mem_of_getElem? (i := 4) rfl)
theorem ma_8 {K : z_K} (h : MLay K) : K.2.2 59 8 = some 65 ∧ 65 < K.1 ∧ K.2.1 65 = (20, 96) := h.2.2 (8, 65, 20, 96) (List.mem_of_getElem? (i := 5) rfl)
theorem ma_10 {K : z_K} (h : MLay K) : K.2.2 59 10 = some 66 ∧ 66 < K.1 ∧ K.2.1 66 = (20, 16) := h.2.2 (10, 66, 20, 16) (List.mem_of_getElem? (i := 6) rfl)
theorem ma_11 {K : z_K} (h : MLay K) : K.2.2 59 11 = some 67 ∧ 67 < K.1 ∧ K.2.1 67 = (20, 16) := h.2.2 (11, 67, 20, 16) (List.mem_of_getElem? (i := 7) rfl)
theorem ma_12 {K : z_K} (h : MLay K) : K.2.2 59 12 = some 68 ∧ 68 < K.1 ∧ K.2.1 68 = (20, 16) := h.2.2 (12, 68, 20, 16) (List.mem_of_getElem? (i := 8) rfl)
theorem ma_13 {K : z_K} (h : MLay K) : K.2.2 59 13 = some 69 ∧ 69 < K.1 ∧ K.2.1 69 = (21, 16) := h.2.2 (13, 69, 21, 16) (List.mem_of_getElem? (i := 9) rfl)
theorem ma_14 {K : z_K} (h : MLay K) : K.2.2 59 14 = some 70 ∧ 70 < K.1 ∧ K.2.1 70 = (20, 160) := h.2.2 (14, 70, 20, 160) (List.mem_of_getElem? (i := 10) rfl)
theorem ma_15 {K : z_K} (h : MLay K) : K.2.2 59 15 = some 71 ∧ 71 < K.1 ∧ K.2.1 71 = (20, 160) := h.2.2 (15, 71, 20, 160) (List.mem_of_getElem? (i := 11) rfl)
theorem ma_16 {K : z_K} (h : MLay K) : K.2.2 59 16 = some 72 ∧ 72 < K.1 ∧ K.2.1 72 = (21, 160) := h.2.2 (16, 72, 21, 160) (List.mem_of_getElem? (i := 12) rfl)
theorem ma_17 {K : z_K} (h : MLay K) : K.2.2 59 17 = some 73 ∧ 73 < K.1 ∧ K.2.1 73 = (20, 160) := h.2.2 (17, 73, 20, 160) (List.mem_of_getElem? (i := 13) rfl)
theorem ma_18 {K : z_K} (h : MLay K) : K.2.2 59 18 = some 74 ∧ 74 < K.1 ∧ K.2.1 74 = (20, 160) := h.2.2 (18, 74, 20, 160) (List.mem_of_getElem? (i := 14) rfl)
theorem ma_19 {K : z_K} (h : MLay K) : K.2.2 59 19 = some 75 ∧ 75 < K.1 ∧ K.2.1 75 = (20, 8) := h.2.2 (19, 75, 20, 8) (List.mem_of_getElem? (i := 15) rfl)
theorem ma_20 {K : z_K} (h : MLay K) : K.2.2 59 20 = some 76 ∧ 76 < K.1 ∧ K.2.1 76 = (20, 60) := h.2.2 (20, 76, 20, 60) (List.mem_of_getElem? (i := 16) rfl)
theorem ma_23 {K : z_K} (h : MLay K) : K.2.2 59 23 = some 77 ∧ 77 < K.1 ∧ K.2.1 77 = (20, 7200) := h.2.2 (23, 77, 20, 7200) (List.mem_of_getElem? (i := 17) rfl)
theorem ma_24 {K : z_K} (h : MLay K) : K.2.2 59 24 = some 78 ∧ 78 < K.1 ∧ K.2.1 78 = (20, 120) := h.2.2 (24, 78, 20, 120) (List.mem_of_getElem? (i := 18) rfl)
theorem ma_25 {K : z_K} (h : MLay K) : K.2.2 59 25 = some 79 ∧ 79 < K.1 ∧ K.2.1 79 = (20, 120) := h.2.2 (25, 79, 20, 120) (List.mem_of_getElem? (i := 19) rfl)
theorem ma_26 {K : z_K} (h : MLay K) : K.2.2 59 26 = some 80 ∧ 80 < K.1 ∧ K.2.1 80 = (20, 120) := h.2.2 (26, 80, 20, 120) (List.mem_of_getElem? (i := 20) rfl)
theorem ma_27 {K : z_K} (h : MLay K) : K.2.2 59 27 = some 81 ∧ 81 < K.1 ∧ K.2.1 81 = (20, 120) := h.2.2 (27, 81, 20, 120) (List.mem_of_getElem? (i := 21) rfl)
theorem ma_35 {K : z_K} (h : MLay K) : K.2.2 59 35 = some 82 ∧ 82 < K.1 ∧ K.2.1 82 = (20, 10) := h.2.2 (35, 82, 20, 10) (List.mem_of_getElem? (i := 22) rfl)
theorem ma_36 {K : z_K} (h : MLay K) : K.2.2 59 36 = some 83 ∧ 83 < K.1 ∧ K.2.1 83 = (20, 10) := h.2.2 (36, 83, 20, 10) (List.mem_of_getElem? (i := 23) rfl)
theorem ma_37 {K : z_K} (h : MLay K) : K.2.2 59 37 = some 84 ∧ 84 < K.1 ∧ K.2.1 84 = (20, 8) := h.2.2 (37, 84, 20, 8) (List.mem_of_getElem? (i := 24) rfl)
theorem ma_40 {K : z_K} (h : MLay K) : K.2.2 59 40 = some 85 ∧ 85 < K.1 ∧ K.2.1 85 = (22, 70) := h.2.2 (40, 85, 22, 70) (List.mem_of_getElem? (i := 25) rfl)
theorem ma_42 {K : z_K} (h : MLay K) : K.2.2 59 42 = some 86 ∧ 86 < K.1 ∧ K.2.1 86 = (20, 70) := h.2.2 (42, 86, 20, 70) (List.mem_of_getElem? (i := 26) rfl)
theorem ma_48 {K : z_K} (h : MLay K) : K.2.2 59 48 = some 87 ∧ 87 < K.1 ∧ K.2.1 87 = (20, 160) := h.2.2 (48, 87, 20, 160) (List.mem_of_getElem? (i := 27) rfl)
theorem ma_50 {K : z_K} (h : MLay K) : K.2.2 59 50 = some 88 ∧ 88 < K.1 ∧ K.2.1 88 = (20, 40) := h.2.2 (50, 88, 20, 40) (List.mem_of_getElem? (i := 28) rfl)
theorem ma_51 {K : z_K} (h : MLay K) : K.2.2 59 51 = some 89 ∧ 89 < K.1 ∧ K.2.1 89 = (20, 40) := h.2.2 (51, 89, 20, 40) (List.mem_of_getElem? (i := 29) rfl)
theorem ma_52 {K : z_K} (h : MLay K) : K.2.2 59 52 = some 90 ∧ 90 < K.1 ∧ K.2.1 90 = (20, 40) := h.2.2 (52, 90, 20, 40) (List.mem_of_getElem? (i := 30) rfl)
theorem ma_53 {K : z_K} (h : MLay K) : K.2.2 59 53 = some 91 ∧ 91 < K.1 ∧ K.2.1 91 = (20, 40) := h.2.2 (53, 91, 20, 40) (List.mem_of_getElem? (i := 31) rfl)
theorem ma_54 {K : z_K} (h : MLay K) : K.2.2 59 54 = some 92 ∧ 92 < K.1 ∧ K.2.1 92 = (20, 10) := h.2.2 (54, 92, 20, 10) (List.mem_of_getElem? (i := 32) rfl)
theorem ma_55 {K : z_K} (h : MLay K) : K.2.2 59 55 = some 93 ∧ 93 < K.1 ∧ K.2.1 93 = (20, 10) := h.2.2 (55, 93, 20, 10) (List.mem_of_getElem? (i := 33) rfl)
theorem ma_57 {K : z_K} (h : MLay K) : K.2.2 59 57 = some 94 ∧ 94 < K.1 ∧ K.2.1 94 = (20, 16) := h.2.2 (57, 94, 20, 16) (List.mem_of_getElem? (i := 34) rfl)
theorem ma_58 {K : z_K} (h : MLay K) : K.2.2 59 58 = some 95 ∧ 95 < K.1 ∧ K.2.1 95 = (20, 81) := h.2.2 (58, 95, 20, 81) (List.mem_of_getElem? (i := 35) rfl)
theorem ma_59 {K : z_K} (h : MLay K) : K.2.2 59 59 = some 96 ∧ 96 < K.1 ∧ K.2.1 96 = (20, 81) := h.2.2 (59, 96, 20, 81) (List.mem_of_getElem? (i := 36) rfl)
theorem ma_60 {K : z_K} (h : MLay K) : K.2.2 59 60 = some 97 ∧ 97 < K.1 ∧ K.2.1 97 = (20, 11) := h.2.2 (60, 97, 20, 11) (List.mem_of_getElem? (i := 37) rfl)
theorem ma_63 {K : z_K} (h : MLay K) : K.2.2 59 63 = some 98 ∧ 98 < K.1 ∧ K.2.1 98 = (20, 20) := h.2.2 (63, 98, 20, 20) (List.mem_of_getElem? (i := 38) rfl)
theorem ma_64 {K : z_K} (h : MLay K) : K.2.2 59 64 = some 99 ∧ 99 < K.1 ∧ K.2.1 99 = (20, 20) := h.2.2 (64, 99, 20, 20) (List.mem_of_getElem? (i := 39) rfl)
theorem ma_65 {K : z_K} (h : MLay K) : K.2.2 59 65 = some 100 ∧ 100 < K.1 ∧ K.2.1 100 = (20, 20) := h.2.2 (65, 100, 20, 20) (List.mem_of_getElem? (i := 40) rfl)
theorem ma_66 {K : z_K} (h : MLay K) : K.2.2 59 66 = some 101 ∧ 101 < K.1 ∧ K.2.1 101 = (20, 20) := h.2.2 (66, 101, 20, 20) (List.mem_of_getElem? (i := 41) rfl)
theorem ma_67 {K : z_K} (h : MLay K) : K.2.2 59 67 = some 102 ∧ 102 < K.1 ∧ K.2.1 102 = (20, 20) := h.2.2 (67, 102, 20, 20) (List.mem_of_getElem? (i := 42) rfl)
theorem ma_68 {K : z_K} (h : MLay K) : K.2.2 59 68 = some 103 ∧ 103 < K.1 ∧ K.2.1 103 = (20, 20) := h.2.2 (68, 103, 20, 20) (List.mem_of_getElem? (i := 43) rfl)
theorem ma_69 {K : z_K} (h : MLay K) : K.2.2 59 69 = some 104 ∧ 104 < K.1 ∧ K.2.1 104 = (20, 20) := h.2.2 (69, 104, 20, 20) (List.mem_of_getElem? (i := 44) rfl)
theorem ma_70 {K : z_K} (h : MLay K) : K.2.2 59 70 = some 105 ∧ 105 < K.1 ∧ K.2.1 105 = (20, 20) := h.2.2 (70, 105, 20, 20) (List.mem_of_getElem? (i := 45) rfl)
theorem ma_71 {K : z_K} (h : MLay K) : K.2.2 59 71 = some 106 ∧ 106 < K.1 ∧ K.2.1 106 = (20, 20) := h.2.2 (71, 106, 20, 20) (List.mem_of_getElem? (i := 46) rfl)
theorem ma_72 {K : z_K} (h : MLay K) : K.2.2 59 72 = some 107 ∧ 107 < K.1 ∧ K.2.1 107 = (20, 20) := h.2.2 (72, 107, 20, 20) (List.mem_of_getElem? (i := 47) rfl)
theorem ma_73 {K : z_K} (h : MLay K) : K.2.2 59 73 = some 108 ∧ 108 < K.1 ∧ K.2.1 108 = (20, 120) := h.2.2 (73, 108, 20, 120) (List.mem_of_getElem? (i := 48) rfl)
theorem ma_74 {K : z_K} (h : MLay K) : K.2.2 59 74 = some 109 ∧ 109 < K.1 ∧ K.2.1 109 = (20, 120) := h.2.2 (74, 109, 20, 120) (List.mem_of_getElem? (i := 49) rfl)
theorem ma_78 {K : z_K} (h : MLay K) : K.2.2 59 78 = some 110 ∧ 110 < K.1 ∧ K.2.1 110 = (20, 12) := h.2.2 (78, 110, 20, 12) (List.mem_of_getElem? (i := 50) rfl)
theorem ma_79 {K : z_K} (h : MLay K) : K.2.2 59 79 = some 111 ∧ 111 < K.1 ∧ K.2.1 111 = (20, 2) := h.2.2 (79, 111, 20, 2) (List.mem_of_getElem? (i := 51) rfl)
theorem ma_80 {K : z_K} (h : MLay K) : K.2.2 59 80 = some 112 ∧ 112 < K.1 ∧ K.2.1 112 = (22, 6) := h.2.2 (80, 112, 22, 6) (List.mem_of_getElem? (i := 52) rfl)
theorem ma_82 {K : z_K} (h : MLay K) : K.2.2 59 82 = some 113 ∧ 113 < K.1 ∧ K.2.1 113 = (20, 6) := h.2.2 (82, 113, 20, 6) (List.mem_of_getElem? (i := 53) rfl)
theorem ma_83 {K : z_K} (h : MLay K) : K.2.2 59 83 = some 114 ∧ 114 < K.1 ∧ K.2.1 114 = (20, 24) := h.2.2 (83, 114, 20, 24) (List.mem_of_getElem? (i := 54) rfl)
theorem ma_86 {K : z_K} (h : MLay K) : K.2.2 59 86 = some 115 ∧ 115 < K.1 ∧ K.2.1 115 = (20, 162) := h.2.2 (86, 115, 20, 162) (List.mem_of_getElem? (i := 55) rfl)
theorem ma_87 {K : z_K} (h : MLay K) : K.2.2 59 87 = some 116 ∧ 116 < K.1 ∧ K.2.1 116 = (20, 162) := h.2.2 (87, 116, 20, 162) (List.mem_of_getElem? (i := 56) rfl)
theorem ma_90 {K : z_K} (h : MLay K) : K.2.2 59 90 = some 117 ∧ 117 < K.1 ∧ K.2.1 117 = (20, 4) := h.2.2 (90, 117, 20, 4) (List.mem_of_getElem? (i := 57) rfl)
theorem ma_91 {K : z_K} (h : MLay K) : K.2.2 59 91 = some 118 ∧ 118 < K.1 ∧ K.2.1 118 = (20, 4) := h.2.2 (91, 118, 20, 4) (List.mem_of_getElem? (i := 58) rfl)
theorem ma_92 {K : z_K} (h : MLay K) : K.2.2 59 92 = some 119 ∧ 119 < K.1 ∧ K.2.1 119 = (20, 96) := h.2.2 (92, 119, 20, 96) (List.mem_of_getElem? (i := 59) rfl)
theorem ma_93 {K : z_K} (h : MLay K) : K.2.2 59 93 = some 120 ∧ 120 < K.1 ∧ K.2.1 120 = (20, 4) := h.2.2 (93, 120, 20, 4) (List.mem_of_getElem? (i := 60) rfl)
theorem ma_94 {K : z_K} (h : MLay K) : K.2.2 59 94 = some 121 ∧ 121 < K.1 ∧ K.2.1 121 = (20, 4) := h.2.2 (94, 121, 20, 4) (List.mem_of_getElem? (i := 61) rfl)
theorem ma_95 {K : z_K} (h : MLay K) : K.2.2 59 95 = some 122 ∧ 122 < K.1 ∧ K.2.1 122 = (20, 4) := h.2.2 (95, 122, 20, 4) (List.mem_of_getElem? (i := 62) rfl)
theorem ma_96 {K : z_K} (h : MLay K) : K.2.2 59 96 = some 123 ∧ 123 < K.1 ∧ K.2.1 123 = (20, 96) := h.2.2 (96, 123, 20, 96) (List.mem_of_getElem? (i := 63) rfl)
theorem ma_97 {K : z_K} (h : MLay K) : K.2.2 59 97 = some 124 ∧ 124 < K.1 ∧ K.2.1 124 = (20, 4) := h.2.2 (97, 124, 20, 4) (List.mem_of_getElem? (i := 64) rfl)
theorem ma_98 {K : z_K} (h : MLay K) : K.2.2 59 98 = some 125 ∧ 125 < K.1 ∧ K.2.1 125 = (20, 4) := h.2.2 (98, 125, 20, 4) (List.mem_of_getElem? (i := 65) rfl)
theorem ma_99 {K : z_K} (h : MLay K) : K.2.2 59 99 = some 126 ∧ 126 < K.1 ∧ K.2.1 126 = (20, 4) := h.2.2 (99, 126, 20, 4) (List.mem_of_getElem? (i := 66) rfl)
theorem ma_100 {K : z_K} (h : MLay K) : K.2.2 59 100 = some 127 ∧ 127 < K.1 ∧ K.2.1 127 = (20, 4) := h.2.2 (100, 127, 20, 4) (List.mem_of_getElem? (i := 67) rfl)
theorem ma_101 {K : z_K} (h : MLay K) : K.2.2 59 101 = some 128 ∧ 128 < K.1 ∧ K.2.1 128 = (20, 4) := h.2.2 (101, 128, 20, 4) (List.mem_of_getElem? (i := 68) rfl)
theorem ma_102 {K : z_K} (h : MLay K) : K.2.2 59 102 = some 129 ∧ 129 < K.1 ∧ K.2.1 129 = (20, 4) := h.2.2 (102, 129, 20, 4) (List.mem_of_getElem? (i := 69) rfl)
theorem ma_103 {K : z_K} (h : MLay K) : K.2.2 59 103 = some 130 ∧ 130 < K.1 ∧ K.2.1 130 = (20, 192) := h.2.2 (103, 130, 20, 192) (List.mem_of_getElem? (i := 70) rfl)
theorem ma_104 {K : z_K} (h : MLay K) : K.2.2 59 104 = some 131 ∧ 131 < K.1 ∧ K.2.1 131 = (20, 4) := h.2.2 (104, 131, 20, 4) (List.mem_of_getElem? (i := 71) rfl)
theorem ma_105 {K : z_K} (h : MLay K) : K.2.2 59 105 = some 132 ∧ 132 < K.1 ∧ K.2.1 132 = (20, 12) := h.2.2 (105, 132, 20, 12) (List.mem_of_getElem? (i := 72) rfl)
theorem ma_108 {K : z_K} (h : MLay K) : K.2.2 59 108 = some 133 ∧ 133 < K.1 ∧ K.2.1 133 = (20, 30) := h.2.2 (108, 133, 20, 30) (List.mem_of_getElem? (i := 73) rfl)
theorem ma_109 {K : z_K} (h : MLay K) : K.2.2 59 109 = some 134 ∧ 134 < K.1 ∧ K.2.1 134 = (20, 30) := h.2.2 (109, 134, 20, 30) (List.mem_of_getElem? (i := 74) rfl)
theorem ma_110 {K : z_K} (h : MLay K) : K.2.2 59 110 = some 135 ∧ 135 < K.1 ∧ K.2.1 135 = (20, 30) := h.2.2 (110, 135, 20, 30) (List.mem_of_getElem? (i := 75) rfl)
theorem ma_111 {K : z_K} (h : MLay K) : K.2.2 59 111 = some 136 ∧ 136 < K.1 ∧ K.2.1 136 = (20, 30) := h.2.2 (111, 136, 20, 30) (List.mem_of_getElem? (i := 76) rfl)
theorem ma_112 {K : z_K} (h : MLay K) : K.2.2 59 112 = some 137 ∧ 137 < K.1 ∧ K.2.1 137 = (20, 30) := h.2.2 (112, 137, 20, 30) (List.mem_of_getElem? (i := 77) rfl)
theorem ma_113 {K : z_K} (h : MLay K) : K.2.2 59 113 = some 138 ∧ 138 < K.1 ∧ K.2.1 138 = (20, 30) := h.2.2 (113, 138, 20, 30) (List.mem_of_getElem? (i := 78) rfl)
theorem ma_115 {K : z_K} (h : MLay K) : K.2.2 59 115 = some 139 ∧ 139 < K.1 ∧ K.2.1 139 = (20, 12) := h.2.2 (115, 139, 20, 12) (List.mem_of_getElem? (i := 79) rfl)
theorem ma_116 {K : z_K} (h : MLay K) : K.2.2 59 116 = some 140 ∧ 140 < K.1 ∧ K.2.1 140 = (20, 12) := h.2.2 (116, 140, 20, 12) (List.mem_of_getElem? (i := 80) rfl)
theorem ma_117 {K : z_K} (h : MLay K) : K.2.2 59 117 = some 141 ∧ 141 < K.1 ∧ K.2.1 141 = (20, 96) := h.2.2 (117, 141, 20, 96) (List.mem_of_getElem? (i := 81) rfl)
theorem ma_118 {K : z_K} (h : MLay K) : K.2.2 59 118 = some 142 ∧ 142 < K.1 ∧ K.2.1 142 = (20, 96) := h.2.2 (118, 142, 20, 96) (List.mem_of_getElem? (i := 82) rfl)
theorem ma_119 {K : z_K} (h : MLay K) : K.2.2 59 119 = some 143 ∧ 143 < K.1 ∧ K.2.1 143 = (20, 12) := h.2.2 (119, 143, 20, 12) (List.mem_of_getElem? (i := 83) rfl)
theorem ma_120 {K : z_K} (h : MLay K) : K.2.2 59 120 = some 144 ∧ 144 < K.1 ∧ K.2.1 144 = (20, 144) := h.2.2 (120, 144, 20, 144) (List.mem_of_getElem? (i := 84) rfl)
theorem ma_121 {K : z_K} (h : MLay K) : K.2.2 59 121 = some 145 ∧ 145 < K.1 ∧ K.2.1 145 = (20, 144) := h.2.2 (121, 145, 20, 144) (List.mem_of_getElem? (i := 85) rfl)
theorem ma_122 {K : z_K} (h : MLay K) : K.2.2 59 122 = some 146 ∧ 146 < K.1 ∧ K.2.1 146 = (20, 144) := h.2.2 (122, 146, 20, 144) (List.mem_of_getElem? (i := 86) rfl)
theorem ma_123 {K : z_K} (h : MLay K) : K.2.2 59 123 = some 147 ∧ 147 < K.1 ∧ K.2.1 147 = (20, 5) := h.2.2 (123, 147, 20, 5) (List.mem_of_getElem? (i := 87) rfl)
theorem ma_125 {K : z_K} (h : MLay K) : K.2.2 59 125 = some 148 ∧ 148 < K.1 ∧ K.2.1 148 = (20, 6) := h.2.2 (125, 148, 20, 6) (List.mem_of_getElem? (i := 88) rfl)
theorem ma_126 {K : z_K} (h : MLay K) : K.2.2 59 126 = some 149 ∧ 149 < K.1 ∧ K.2.1 149 = (20, 6) := h.2.2 (126, 149, 20, 6) (List.mem_of_getElem? (i := 89) rfl)
theorem ma_127 {K : z_K} (h : MLay K) : K.2.2 59 127 = some 150 ∧ 150 < K.1 ∧ K.2.1 150 = (20, 6) := h.2.2 (127, 150, 20, 6) (List.mem_of_getElem? (i := 90) rfl)
theorem ma_128 {K : z_K} (h : MLay K) : K.2.2 59 128 = some 151 ∧ 151 < K.1 ∧ K.2.1 151 = (20, 6) := h.2.2 (128, 151, 20, 6) (List.mem_of_getElem? (i := 91) rfl)
