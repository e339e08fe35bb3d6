section ZC
variable {n0 d rc rs pc : Nat} {X : z_X} {lv lv' : List (Nat × Value)} {st : List Value} {K : z_K} {I : z_I} {L : z_L} {Q : z_R}
theorem z_mmax {idx : Nat} {x y : Int32} (hd : decode X.2.1 pc = .ok (.invokestatic idx, 3)) (hw : Cond.methodLink X.1.cls idx Lib.Math.max.name ∈ lw_good) (hd1 : 1 ≤ d) (hcat : (st.map fun v => v.category).sum ≤ 8) (k : Z n0 X d rc rs (pc + 3) lv (.int (if x < y then y else x) :: st) K I L Q) : Z n0 X d rc rs pc lv (.int y :: .int x :: st) K I L Q := by
  intro p l e R s m args below meth c G mc ms H locs cells slots ls hC hH hS hl hc1 hc2
  have hR := hC.hR
  exact va_mmax hC.hx hC.hb (hC.hml.trans hl.1.symm) hC.hown (hC.hw hw) (hC.hw wg_798) (hC.hw wg_119) (hC.hw wg_799) (by rw [hR]; exact hd1) (by rw [hR]; show _ + 13 ≤ 60 * d + 20; omega) (by rw [hR]; show cells ≤ mc; omega) (by rw [hR]; show slots ≤ ms; omega) hd (k p l e R s m args below meth c G mc ms H locs cells slots ls hC hH hS hl hc1 hc2)
theorem z_mmin {idx : Nat} {x y : Int32} (hd : decode X.2.1 pc = .ok (.invokestatic idx, 3)) (hw : Cond.methodLink X.1.cls idx Lib.Math.min.name ∈ lw_good) (hd1 : 1 ≤ d) (hcat : (st.map fun v => v.category).sum ≤ 8) (k : Z n0 X d rc rs (pc + 3) lv (.int (if y < x then y else x) :: st) K I L Q) : Z n0 X d rc rs pc lv (.int y :: .int x :: st) K I L Q := by
  intro p l e R s m args below meth c G mc ms H locs cells slots ls hC hH hS hl hc1 hc2
  have hR := hC.hR
  exact va_mmin hC.hx hC.hb (hC.hml.trans hl.1.symm) hC.hown (hC.hw hw) (hC.hw wg_722) (hC.hw wg_119) (hC.hw wg_723) (by rw [hR]; exact hd1) (by rw [hR]; show _ + 13 ≤ 60 * d + 20; omega) (by rw [hR]; show cells ≤ mc; omega) (by rw [hR]; show slots ≤ ms; omega) hd (k p l e R s m args below meth c G mc ms H locs cells slots ls hC hH hS hl hc1 hc2)
theorem z_mabs {idx : Nat} {x : Int32} (hd : decode X.2.1 pc = .ok (.invokestatic idx, 3)) (hw : Cond.methodLink X.1.cls idx Lib.Math.abs.name ∈ lw_good) (hd1 : 1 ≤ d) (hcat : (st.map fun v => v.category).sum ≤ 8) (k : Z n0 X d rc rs (pc + 3) lv (.int (if 0 ≤ x then x else 0 - x) :: st) K I L Q) : Z n0 X d rc rs pc lv (.int x :: st) K I L Q := by
  intro p l e R s m args below meth c G mc ms H locs cells slots ls hC hH hS hl hc1 hc2
  have hR := hC.hR
  exact va_mabs hC.hx hC.hb (hC.hml.trans hl.1.symm) hC.hown (hC.hw hw) (hC.hw wg_1216) (hC.hw wg_119) (hC.hw wg_1217) (by rw [hR]; exact hd1) (by rw [hR]; show _ + 13 ≤ 60 * d + 20; omega) (by rw [hR]; show cells ≤ mc; omega) (by rw [hR]; show slots ≤ ms; omega) hd (k p l e R s m args below meth c G mc ms H locs cells slots ls hC hH hS hl hc1 hc2)
theorem z_mabsl {idx : Nat} {x : Int64} (hd : decode X.2.1 pc = .ok (.invokestatic idx, 3)) (hw : Cond.methodLink X.1.cls idx Lib.MathLoose.abs_long.x ∈ lw_good) (hd1 : 1 ≤ d) (hcat : (st.map fun v => v.category).sum ≤ 8) (k : Z n0 X d rc rs (pc + 3) lv (.long (if 0 < x then x else -x) :: st) K I L Q) : Z n0 X d rc rs pc lv (.long x :: st) K I L Q := by
  intro p l e R s m args below meth c G mc ms H locs cells slots ls hC hH hS hl hc1 hc2
  have hR := hC.hR
  exact va_mabs_long hC.hx hC.hb (hC.hml.trans hl.1.symm) hC.hown (hC.hw hw) (hC.hw wg_922) (hC.hw wg_119) (hC.hw wg_923) (by rw [hR]; exact hd1) (by rw [hR]; show _ + 13 ≤ 60 * d + 20; omega) (by rw [hR]; show cells ≤ mc; omega) (by rw [hR]; show slots ≤ ms; omega) hd (k p l e R s m args below meth c G mc ms H locs cells slots ls hC hH hS hl hc1 hc2)
theorem z_sgl {idx : Nat} {x : Int32} {li : Fin 4} (i j : Nat) (hd1 : decode X.2.1 pc = .ok (.getstatic idx, 3)) (hd2 : decode X.2.1 (pc + 3) = .ok (.iload_n li, 1)) (hd3 : decode X.2.1 (pc + 3 + 1) = .ok (.iaload, 1)) (hi : i < 3) (hw : Cond.fieldLink X.1.cls idx RX12 (z_sn i) "[I" ∈ lw_good) (hj : lv[j]? = some ((li : Nat), .int x)) (hin : vp_in x 6)
    (k : Z n0 X d rc rs (pc + 3 + 1 + 1) lv (.int (z_sf i x.toNatClampNeg) :: st) K I L Q) : Z n0 X d rc rs pc lv st K I L Q := by
  intro p l e R s m args below meth c G mc ms H locs cells slots ls hC hH hS hl hc1 hc2
  obtain ⟨q1, q2, q3, q4⟩ := hC.hSt
  obtain ⟨hZ, -, h6, hf⟩ := q3 i hi
  obtain ⟨hX, hlt⟩ := q2 i (by omega)
  refine va_gets hC.hx hC.hb hZ hS hC.hown (hC.hw hw) (fun _ h => h) hd1 ?_
  refine lv_iload_n hC.hx hC.hb hd2 rfl (lv_at hl j hj) ?_
  have hb6 : x.toNatClampNeg < 6 := Nat.not_le.mp fun q => hin (Or.inr q)
  refine va_sld hC.hx hC.hb hX (Nat.lt_of_lt_of_le hlt q1) (Nat.not_le.mpr hlt) hS (by rw [h6]; exact hin) hd3 ?_
  rw [hf _ hb6]
  exact k p l e R s m args below meth c G mc ms H locs cells slots ls hC hH hS hl hc1 hc2
theorem z_callSN0 {Y : z_X} {idx d1 : Nat} {host : String} {As : List Value} (hd : decode X.2.1 pc = .ok (.invokestatic idx, 3)) (hy : z_hy Y As.length) (hw1 : Cond.methodLinkNest X.1.cls idx Y.1 host ∈ lw_nest) (hw2 : Cond.static Y.1 ∈ lw_good) (hd1 : d1 + 1 ≤ d) (hcat : (st.map fun v => v.category).sum ≤ 8)
    (h : RM0 n0 Y d1 As K I L (fun v I' L' => Z n0 X d rc rs (pc + 3) lv (v.toList ++ st) K I' L' Q)) : Z n0 X d rc rs pc lv (As.reverse ++ st) K I L Q :=
  z_callSN (mc1 := 0) (ms1 := 0) hd hy hw1 hw2 hd1 hcat (RM0.to h (fun _ _ _ h => h))
theorem z_less {rc' rs' : Nat} (h1 : rc' ≤ rc) (h2 : rs' ≤ rs) (k : Z n0 X d rc' rs' pc lv st K I L Q) : Z n0 X d rc rs pc lv st K I L Q := by
  intro p l e R s m args below meth c G mc ms H locs cells slots ls hC hH hS hl hc1 hc2
  exact k p l e R s m args below meth c G mc ms H locs cells slots ls hC hH hS hl (by omega) (by omega)
theorem RM0.any {mc ms : Nat} {As : List Value} {q : z_q} (hp : plainName X.1.cls = true) : True := trivial
end ZC
def c_obj : List (Nat × Nat) := [(0, 12), (5, 7), (8, 2), (22, 1), (25, 4), (36, 10), (39, 10), (42, 10), (45, 10), (48, 10), (52, 9)]
/-- an object, its field, the array there, kind and length -/
def c_arr : List (Nat × Nat × Nat × Nat × Nat) := [(0, 1, 1, 20, 8), (0, 2, 2, 41, 88), (0, 3, 3, 30, 12), (0, 7, 4, 35, 16), (0, 12, 21, 38, 20), (0, 17, 51, 33, 12), (5, 0, 6, 20, 60), (5, 5, 7, 20, 60), (8, 3, 9, 20, 8), (8, 4, 10, 20, 16), (8, 5, 11, 20, 160), (8, 6, 12, 20, 160), (8, 7, 13, 20, 10), (8, 8, 14, 20, 10), (8, 9, 15, 35, 16), (8, 10, 16, 22, 60), (8, 11, 17, 20, 10), (8, 12, 18, 20, 80), (8, 13, 19, 20, 80), (8, 14, 20, 20, 10), (22, 0, 23, 20, 12), (22, 1, 24, 20, 2), (25, 0, 26, 20, 6), (25, 1, 27, 35, 4), (25, 2, 28, 20, 4), (25, 3, 29, 40, 4), (25, 5, 30, 20, 96), (25, 6, 31, 20, 4), (25, 7, 32, 20, 4), (25, 8, 33, 20, 4), (25, 9, 34, 20, 12), (25, 11, 35, 20, 12), (36, 0, 37, 20, 24), (36, 1, 38, 20, 24), (39, 0, 40, 20, 24), (39, 1, 41, 20, 24), (42, 0, 43, 20, 24), (42, 1, 44, 20, 24), (45, 0, 46, 20, 24), (45, 1, 47, 20, 24), (48, 0, 49, 20, 24), (48, 1, 50, 20, 24), (52, 0, 53, 20, 5), (52, 1, 54, 20, 30), (52, 2, 55, 20, 6), (52, 4, 56, 20, 5), (52, 5, 57, 20, 6), (52, 6, 58, 20, 6)]
def c_ptr : List (Nat × Nat × Nat) := [(0, 10, 5), (0, 11, 8), (0, 14, 22), (0, 15, 25), (0, 16, 48), (0, 19, 52), (29, 0, 36), (29, 1, 39), (29, 2, 42), (29, 3, 45)]
def CLay (K : z_K) : Prop := (∀ q ∈ c_obj, q.1 < K.1 ∧ (K.2.1 q.1).1 = q.2) ∧ (∀ q ∈ c_arr, K.2.2 q.1 q.2.1 = some q.2.2.1 ∧ q.2.2.1 < K.1 ∧ K.2.1 q.2.2.1 = (q.2.2.2.1, q.2.2.2.2)) ∧ (∀ q ∈ c_ptr, K.2.2 q.1 q.2.1 = some q.2.2)
theorem co_0 {K : z_K} (h : CLay K) : 0 < K.1 ∧ (K.2.1 0).1 = 12 := h.1 (0, 12) (List.mem_of_getElem? (i := 0) rfl)
theorem co_5 {K : z_K} (h : CLay K) : 5 < K.1 ∧ (K.2.1 5).1 = 7 := h.1 (5, 7) (List.mem_of_getElem? (i := 1) rfl)
theorem co_8 {K : z_K} (h : CLay K) : 8 < K.1 ∧ (K.2.1 8).1 = 2 := h.1 (8, 2) (List.mem_of_getElem? (i := 2) rfl)
theorem co_22 {K : z_K} (h : CLay K) : 22 < K.1 ∧ (K.2.1 22).1 = 1 := h.1 (22, 1) (List.mem_of_getElem? (i := 3) rfl)
theorem co_25 {K : z_K} (h : CLay K) : 25 < K.1 ∧ (K.2.1 25).1 = 4 := h.1 (25, 4) (List.mem_of_getElem? (i := 4) rfl)
theorem co_36 {K : z_K} (h : CLay K) : 36 < K.1 ∧ (K.2.1 36).1 = 10 := h.1 (36, 10) (List.mem_of_getElem? (i := 5) rfl)
theorem co_39 {K : z_K} (h : CLay K) : 39 < K.1 ∧ (K.2.1 39).1 = 10 := h.1 (39, 10) (List.mem_of_getElem? (i := 6) rfl)
theorem co_42 {K : z_K} (h : CLay K) : 42 < K.1 ∧ (K.2.1 42).1 = 10 := h.1 (42, 10) (List.mem_of_getElem? (i := 7) rfl)
theorem co_45 {K : z_K} (h : CLay K) : 45 < K.1 ∧ (K.2.1 45).1 = 10 := h.1 (45, 10) (List.mem_of_getElem? (i := 8) rfl)
theorem co_48 {K : z_K} (h : CLay K) : 48 < K.1 ∧ (K.2.1 48).1 = 10 := h.1 (48, 10) (List.mem_of_getElem? (i := 9) rfl)
theorem co_52 {K : z_K} (h : CLay K) : 52 < K.1 ∧ (K.2.1 52).1 = 9 := h.1 (52, 9) (List.mem_of_getElem? (i := 10) rfl)
theorem ca_1 {K : z_K} (h : CLay K) : K.2.2 0 1 = some 1 ∧ 1 < K.1 ∧ K.2.1 1 = (20, 8) := h.2.1 (0, 1, 1, 20, 8) (List.mem_of_getElem? (i := 0) rfl)
theorem ca_2 {K : z_K} (h : CLay K) : K.2.2 0 2 = some 2 ∧ 2 < K.1 ∧ K.2.1 2 = (41, 88) := h.2.1 (0, 2, 2, 41, 88) (List.mem_of_getElem? (i := 1) rfl)
theorem ca_3 {K : z_K} (h : CLay K) : K.2.2 0 3 = some 3 ∧ 3 < K.1 ∧ K.2.1 3 = (30, 12) := h.2.1 (0, 3, 3, 30, 12) (List.mem_of_getElem? (i := 2) rfl)
theorem ca_4 {K : z_K} (h : CLay K) : K.2.2 0 7 = some 4 ∧ 4 < K.1 ∧ K.2.1 4 = (35, 16) := h.2.1 (0, 7, 4, 35, 16) (List.mem_of_getElem? (i := 3) rfl)
theorem ca_21 {K : z_K} (h : CLay K) : K.2.2 0 12 = some 21 ∧ 21 < K.1 ∧ K.2.1 21 = (38, 20) := h.2.1 (0, 12, 21, 38, 20) (List.mem_of_getElem? (i := 4) rfl)
theorem ca_51 {K : z_K} (h : CLay K) : K.2.2 0 17 = some 51 ∧ 51 < K.1 ∧ K.2.1 51 = (33, 12) := h.2.1 (0, 17, 51, 33, 12) (List.mem_of_getElem? (i := 5) rfl)
theorem ca_6 {K : z_K} (h : CLay K) : K.2.2 5 0 = some 6 ∧ 6 < K.1 ∧ K.2.1 6 = (20, 60) := h.2.1 (5, 0, 6, 20, 60) (List.mem_of_getElem? (i := 6) rfl)
theorem ca_7 {K : z_K} (h : CLay K) : K.2.2 5 5 = some 7 ∧ 7 < K.1 ∧ K.2.1 7 = (20, 60) := h.2.1 (5, 5, 7, 20, 60) (List.mem_of_getElem? (i := 7) rfl)
theorem ca_9 {K : z_K} (h : CLay K) : K.2.2 8 3 = some 9 ∧ 9 < K.1 ∧ K.2.1 9 = (20, 8) := h.2.1 (8, 3, 9, 20, 8) (List.mem_of_getElem? (i := 8) rfl)
theorem ca_10 {K : z_K} (h : CLay K) : K.2.2 8 4 = some 10 ∧ 10 < K.1 ∧ K.2.1 10 = (20, 16) := h.2.1 (8, 4, 10, 20, 16) (List.mem_of_getElem? (i := 9) rfl)
theorem ca_11 {K : z_K} (h : CLay K) : K.2.2 8 5 = some 11 ∧ 11 < K.1 ∧ K.2.1 11 = (20, 160) := h.2.1 (8, 5, 11, 20, 160) (List.mem_of_getElem? (i := 10) rfl)
theorem ca_12 {K : z_K} (h : CLay K) : K.2.2 8 6 = some 12 ∧ 12 < K.1 ∧ K.2.1 12 = (20, 160) := h.2.1 (8, 6, 12, 20, 160) (List.mem_of_getElem? (i := 11) rfl)
theorem ca_13 {K : z_K} (h : CLay K) : K.2.2 8 7 = some 13 ∧ 13 < K.1 ∧ K.2.1 13 = (20, 10) := h.2.1 (8, 7, 13, 20, 10) (List.mem_of_getElem? (i := 12) rfl)
theorem ca_14 {K : z_K} (h : CLay K) : K.2.2 8 8 = some 14 ∧ 14 < K.1 ∧ K.2.1 14 = (20, 10) := h.2.1 (8, 8, 14, 20, 10) (List.mem_of_getElem? (i := 13) rfl)
theorem ca_15 {K : z_K} (h : CLay K) : K.2.2 8 9 = some 15 ∧ 15 < K.1 ∧ K.2.1 15 = (35, 16) := h.2.1 (8, 9, 15, 35, 16) (List.mem_of_getElem? (i := 14) rfl)
theorem ca_16 {K : z_K} (h : CLay K) : K.2.2 8 10 = some 16 ∧ 16 < K.1 ∧ K.2.1 16 = (22, 60) := h.2.1 (8, 10, 16, 22, 60) (List.mem_of_getElem? (i := 15) rfl)
theorem ca_17 {K : z_K} (h : CLay K) : K.2.2 8 11 = some 17 ∧ 17 < K.1 ∧ K.2.1 17 = (20, 10) := h.2.1 (8, 11, 17, 20, 10) (List.mem_of_getElem? (i := 16) rfl)
theorem ca_18 {K : z_K} (h : CLay K) : K.2.2 8 12 = some 18 ∧ 18 < K.1 ∧ K.2.1 18 = (20, 80) := h.2.1 (8, 12, 18, 20, 80) (List.mem_of_getElem? (i := 17) rfl)
theorem ca_19 {K : z_K} (h : CLay K) : K.2.2 8 13 = some 19 ∧ 19 < K.1 ∧ K.2.1 19 = (20, 80) := h.2.1 (8, 13, 19, 20, 80) (List.mem_of_getElem? (i := 18) rfl)
theorem ca_20 {K : z_K} (h : CLay K) : K.2.2 8 14 = some 20 ∧ 20 < K.1 ∧ K.2.1 20 = (20, 10) := h.2.1 (8, 14, 20, 20, 10) (List.mem_of_getElem? (i := 19) rfl)
theorem ca_23 {K : z_K} (h : CLay K) : K.2.2 22 0 = some 23 ∧ 23 < K.1 ∧ K.2.1 23 = (20, 12) := h.2.1 (22, 0, 23, 20, 12) (List.mem_of_getElem? (i := 20) rfl)
theorem ca_24 {K : z_K} (h : CLay K) : K.2.2 22 1 = some 24 ∧ 24 < K.1 ∧ K.2.1 24 = (20, 2) := h.2.1 (22, 1, 24, 20, 2) (List.mem_of_getElem? (i := 21) rfl)
theorem ca_26 {K : z_K} (h : CLay K) : K.2.2 25 0 = some 26 ∧ 26 < K.1 ∧ K.2.1 26 = (20, 6) := h.2.1 (25, 0, 26, 20, 6) (List.mem_of_getElem? (i := 22) rfl)
theorem ca_27 {K : z_K} (h : CLay K) : K.2.2 25 1 = some 27 ∧ 27 < K.1 ∧ K.2.1 27 = (35, 4) := h.2.1 (25, 1, 27, 35, 4) (List.mem_of_getElem? (i := 23) rfl)
theorem ca_28 {K : z_K} (h : CLay K) : K.2.2 25 2 = some 28 ∧ 28 < K.1 ∧ K.2.1 28 = (20, 4) := h.2.1 (25, 2, 28, 20, 4) (List.mem_of_getElem? (i := 24) rfl)
theorem ca_29 {K : z_K} (h : CLay K) : K.2.2 25 3 = some 29 ∧ 29 < K.1 ∧ K.2.1 29 = (40, 4) := h.2.1 (25, 3, 29, 40, 4) (List.mem_of_getElem? (i := 25) rfl)
theorem ca_30 {K : z_K} (h : CLay K) : K.2.2 25 5 = some 30 ∧ 30 < K.1 ∧ K.2.1 30 = (20, 96) := h.2.1 (25, 5, 30, 20, 96) (List.mem_of_getElem? (i := 26) rfl)
theorem ca_31 {K : z_K} (h : CLay K) : K.2.2 25 6 = some 31 ∧ 31 < K.1 ∧ K.2.1 31 = (20, 4) := h.2.1 (25, 6, 31, 20, 4) (List.mem_of_getElem? (i := 27) rfl)
theorem ca_32 {K : z_K} (h : CLay K) : K.2.2 25 7 = some 32 ∧ 32 < K.1 ∧ K.2.1 32 = (20, 4) := h.2.1 (25, 7, 32, 20, 4) (List.mem_of_getElem? (i := 28) rfl)
theorem ca_33 {K : z_K} (h : CLay K) : K.2.2 25 8 = some 33 ∧ 33 < K.1 ∧ K.2.1 33 = (20, 4) := h.2.1 (25, 8, 33, 20, 4) (List.mem_of_getElem? (i := 29) rfl)
theorem ca_34 {K : z_K} (h : CLay K) : K.2.2 25 9 = some 34 ∧ 34 < K.1 ∧ K.2.1 34 = (20, 12) := h.2.1 (25, 9, 34, 20, 12) (List.mem_of_getElem? (i := 30) rfl)
theorem ca_35 {K : z_K} (h : CLay K) : K.2.2 25 11 = some 35 ∧ 35 < K.1 ∧ K.2.1 35 = (20, 12) := h.2.1 (25, 11, 35, 20, 12) (List.mem_of_getElem? (i := 31) rfl)
theorem ca_37 {K : z_K} (h : CLay K) : K.2.2 36 0 = some 37 ∧ 37 < K.1 ∧ K.2.1 37 = (20, 24) := h.2.1 (36, 0, 37, 20, 24) (List.mem_of_getElem? (i := 32) rfl)
theorem ca_38 {K : z_K} (h : CLay K) : K.2.2 36 1 = some 38 ∧ 38 < K.1 ∧ K.2.1 38 = (20, 24) := h.2.1 (36, 1, 38, 20, 24) (List.mem_of_getElem? (i := 33) rfl)
theorem ca_40 {K : z_K} (h : CLay K) : K.2.2 39 0 = some 40 ∧ 40 < K.1 ∧ K.2.1 40 = (20, 24) := h.2.1 (39, 0, 40, 20, 24) (List.mem_of_getElem? (i := 34) rfl)
theorem ca_41 {K : z_K} (h : CLay K) : K.2.2 39 1 = some 41 ∧ 41 < K.1 ∧ K.2.1 41 = (20, 24) := h.2.1 (39, 1, 41, 20, 24) (List.mem_of_getElem? (i := 35) rfl)
theorem ca_43 {K : z_K} (h : CLay K) : K.2.2 42 0 = some 43 ∧ 43 < K.1 ∧ K.2.1 43 = (20, 24) := h.2.1 (42, 0, 43, 20, 24) (List.mem_of_getElem? (i := 36) rfl)
theorem ca_44 {K : z_K} (h : CLay K) : K.2.2 42 1 = some 44 ∧ 44 < K.1 ∧ K.2.1 44 = (20, 24) := h.2.1 (42, 1, 44, 20, 24) (List.mem_of_getElem? (i := 37) rfl)
theorem ca_46 {K : z_K} (h : CLay K) : K.2.2 45 0 = some 46 ∧ 46 < K.1 ∧ K.2.1 46 = (20, 24) := h.2.1 (45, 0, 46, 20, 24) (List.mem_of_getElem? (i := 38) rfl)
theorem ca_47 {K : z_K} (h : CLay K) : K.2.2 45 1 = some 47 ∧ 47 < K.1 ∧ K.2.1 47 = (20, 24) := h.2.1 (45, 1, 47, 20, 24) (List.mem_of_getElem? (i := 39) rfl)
theorem ca_49 {K : z_K} (h : CLay K) : K.2.2 48 0 = some 49 ∧ 49 < K.1 ∧ K.2.1 49 = (20, 24) := h.2.1 (48, 0, 49, 20, 24) (List.mem_of_getElem? (i := 40) rfl)
theorem ca_50 {K : z_K} (h : CLay K) : K.2.2 48 1 = some 50 ∧ 50 < K.1 ∧ K.2.1 50 = (20, 24) := h.2.1 (48, 1, 50, 20, 24) (List.mem_of_getElem? (i := 41) rfl)
theorem ca_53 {K : z_K} (h : CLay K) : K.2.2 52 0 = some 53 ∧ 53 < K.1 ∧ K.2.1 53 = (20, 5) := h.2.1 (52, 0, 53, 20, 5) (List.mem_of_getElem? (i := 42) rfl)
theorem ca_54 {K : z_K} (h : CLay K) : K.2.2 52 1 = some 54 ∧ 54 < K.1 ∧ K.2.1 54 = (20, 30) := h.2.1 (52, 1, 54, 20, 30) (List.mem_of_getElem? (i := 43) rfl)
theorem ca_55 {K : z_K} (h : CLay K) : K.2.2 52 2 = some 55 ∧ 55 < K.1 ∧ K.2.1 55 = (20, 6) := h.2.1 (52, 2, 55, 20, 6) (List.mem_of_getElem? (i := 44) rfl)
theorem ca_56 {K : z_K} (h : CLay K) : K.2.2 52 4 = some 56 ∧ 56 < K.1 ∧ K.2.1 56 = (20, 5) := h.2.1 (52, 4, 56, 20, 5) (List.mem_of_getElem? (i := 45) rfl)
theorem ca_57 {K : z_K} (h : CLay K) : K.2.2 52 5 = some 57 ∧ 57 < K.1 ∧ K.2.1 57 = (20, 6) := h.2.1 (52, 5, 57, 20, 6) (List.mem_of_getElem? (i := 46) rfl)
theorem ca_58 {K : z_K} (h : CLay K) : K.2.2 52 6 = some 58 ∧ 58 < K.1 ∧ K.2.1 58 = (20, 6) := h.2.1 (52, 6, 58, 20, 6) (List.mem_of_getElem? (i := 47) rfl)
theorem cp_5 {K : z_K} (h : CLay K) : K.2.2 0 10 = some 5 := h.2.2 (0, 10, 5) (List.mem_of_getElem? (i := 0) rfl)
theorem cp_8 {K : z_K} (h : CLay K) : K.2.2 0 11 = some 8 := h.2.2 (0, 11, 8) (List.mem_of_getElem? (i := 1) rfl)
theorem cp_22 {K : z_K} (h : CLay K) : K.2.2 0 14 = some 22 := h.2.2 (0, 14, 22) (List.mem_of_getElem? (i := 2) rfl)
theorem cp_25 {K : z_K} (h : CLay K) : K.2.2 0 15 = some 25 := h.2.2 (0, 15, 25) (List.mem_of_getElem? (i := 3) rfl)
theorem cp_48 {K : z_K} (h : CLay K) : K.2.2 0 16 = some 48 := h.2.2 (0, 16, 48) (List.mem_of_getElem? (i := 4) rfl)
theorem cp_52 {K : z_K} (h : CLay K) : K.2.2 0 19 = some 52 := h.2.2 (0, 19, 52) (List.mem_of_getElem? (i := 5) rfl)
theorem cp_36 {K : z_K} (h : CLay K) : K.2.2 29 0 = some 36 := h.2.2 (29, 0, 36) (List.mem_of_getElem? (i := 6) rfl)
theorem cp_39 {K : z_K} (h : CLay K) : K.2.2 29 1 = some 39 := h.2.2 (29, 1, 39) (List.mem_of_getElem? (i := 7) rfl)
theorem cp_42 {K : z_K} (h : CLay K) : K.2.2 29 2 = some 42 := h.2.2 (29, 2, 42) (List.mem_of_getElem? (i := 8) rfl)
theorem cp_45 {K : z_K} (h : CLay K) : K.2.2 29 3 = some 45 := h.2.2 (29, 3, 45) (List.mem_of_getElem? (i := 9) rfl)
