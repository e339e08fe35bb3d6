/-! the first state, and the law's entry -/
def cE : ctT := ((0, fun _ => (0, 0), fun _ _ => none), fun _ _ => 0, fun _ _ => 0)
def cA0 : ctT := cN 12 cE
def cA1 : ctT := cSS cA0
def cA2 : ctT := cN 13 cA1
theorem cA1_n : cA1.1.1 = 59 := by decide +kernel
theorem cA1_o : ∀ q ∈ c_obj, q.1 < 59 ∧ (cA1.1.2.1 q.1).1 = q.2 := by decide +kernel
theorem cA1_a : ∀ q ∈ c_arr, q.1 < 59 ∧ q.2.2.1 < 59 ∧ cA1.1.2.2 q.1 q.2.1 = some q.2.2.1 ∧ cA1.1.2.1 q.2.2.1 = (q.2.2.2.1, q.2.2.2.2) := by decide +kernel
theorem cA1_p : ∀ q ∈ c_ptr, q.1 < 59 ∧ cA1.1.2.2 q.1 q.2.1 = some q.2.2 := by decide +kernel
theorem cA1_c : ∀ j, j < 6 → cA1.2.1 26 j = z_sf 0 j := by decide +kernel
/-- all ints but the cloth's are 0 -/
def cZ (S : ctT) : Prop := ∀ a j, a ≠ 26 → S.2.1 a j = 0
theorem cZ_A {o : Nat} {f : Nat × Nat × Nat} {S : ctT} (h : cZ S) : cZ (ctA o S f) := fun a j hn => by
  show (zI0 S.2.1 S.1.1) a j = 0
  unfold zI0
  by_cases e : a = S.1.1
  · rw [if_pos e]
  · rw [if_neg e]; exact h a j hn
theorem cZ_F {o : Nat} : ∀ (fs : ctL) (S : ctT), cZ S → cZ (fs.foldl (ctA o) S) := by
  intro fs
  induction fs with
  | nil => intro S h; exact h
  | cons f fs ih => intro S h; exact ih (ctA o S f) (cZ_A h)
theorem cZ_N {c : Nat} {S : ctT} (h : cZ S) : cZ (cN c S) := fun a j hn => by
  show (zI0 S.2.1 S.1.1) a j = 0
  unfold zI0
  by_cases e : a = S.1.1
  · rw [if_pos e]
  · rw [if_neg e]; exact h a j hn
theorem cZ_O {o c f : Nat} {fs : ctL} {S : ctT} (h : cZ S) : cZ (cO o c f fs S) := cZ_F (o := S.1.1) fs (cN c S) (cZ_N h)
theorem cZ_C {o : Nat} {S : ctT} (h : cZ S) (e : S.1.1 = 26) : cZ (cCl o S) := fun a j hn => by
  show (zIc S.2.1 S.1.1) a j = 0
  unfold zIc
  rw [if_neg (by omega)]
  exact h a j hn
theorem cZ_L {o : Nat} {S : ctT} (h : cZ S) (e : S.1.1 = 26) : cZ (cL o S) := by
  unfold cL cSh
  exact cZ_O (cZ_O (cZ_O (cZ_O (cZ_F (o := o) cF4 _ (cZ_C h e)))))
theorem cZ_y {o f : Nat} {S : ctT} (h : cZ S) (e : S.1.1 = 25) : cZ (cLy o f S) := cZ_L (o := S.1.1) (S := cN 4 S) (cZ_N h) (by show S.1.1 + 1 = 26; omega)
theorem cA0_z : cZ cA0 := cZ_N (fun _ _ _ => rfl)
theorem cA1_25 : (cSb (cSa cA0)).1.1 = 25 := by decide +kernel
theorem cA1_z : cZ cA1 := by
  have h : cZ (cSb (cSa cA0)) := by
    unfold cSb cSa
    exact cZ_O (cZ_A (cZ_O (cZ_O (cZ_F (o := 0) cF12 _ cA0_z))))
  unfold cA1 cSS cSd cSc
  exact cZ_O (cZ_A (cZ_O (cZ_y h cA1_25)))
/-- a row of references that the first four arrays hold stays as it was -/
theorem cS_row {S : ctT} {a : Nat} (h0 : a ≠ 0) (ha : a < (cF12.foldl (ctA 0) S).1.1) : (cSS S).1.2.2 a = (cF12.foldl (ctA 0) S).1.2.2 a := by
  unfold cSS cSd cSc cSb cSa
  generalize cF12.foldl (ctA 0) S = T1 at *
  obtain ⟨a1, -, a3⟩ := cO_old (o := 0) (c := 7) (f := 10) (fs := cF7) (S := T1)
  generalize cO 0 7 10 cF7 T1 = T2 at *
  obtain ⟨b1, -, b3⟩ := cO_old (o := 0) (c := 2) (f := 11) (fs := cF2) (S := T2)
  generalize cO 0 2 11 cF2 T2 = T3 at *
  obtain ⟨c1, -, c3⟩ := ct_old 0 [(12, 38, 20)] T3 (by omega)
  change T3.1.1 ≤ (ctA 0 T3 (12, 38, 20)).1.1 at c1
  change ∀ a, a < T3.1.1 → a ≠ 0 → (ctA 0 T3 (12, 38, 20)).1.2.2 a = T3.1.2.2 a at c3
  generalize ctA 0 T3 (12, 38, 20) = T4 at *
  obtain ⟨d1, -, d3⟩ := cO_old (o := 0) (c := 1) (f := 14) (fs := cF1) (S := T4)
  generalize cO 0 1 14 cF1 T4 = T5 at *
  obtain ⟨e1, -, e3⟩ := cLy_old (o := 0) (f := 15) (S := T5)
  generalize cLy 0 15 T5 = T6 at *
  obtain ⟨f1, -, f3⟩ := cO_old (o := 0) (c := 10) (f := 16) (fs := cF10) (S := T6)
  generalize cO 0 10 16 cF10 T6 = T7 at *
  obtain ⟨g1, -, g3⟩ := ct_old 0 [(17, 33, 12)] T7 (by omega)
  change T7.1.1 ≤ (ctA 0 T7 (17, 33, 12)).1.1 at g1
  change ∀ a, a < T7.1.1 → a ≠ 0 → (ctA 0 T7 (17, 33, 12)).1.2.2 a = T7.1.2.2 a at g3
  generalize ctA 0 T7 (17, 33, 12) = T8 at *
  obtain ⟨i1, -, i3⟩ := cO_old (o := 0) (c := 9) (f := 19) (fs := cF9) (S := T8)
  rw [i3 a (by omega) h0, g3 a (by omega) h0, f3 a (by omega) h0, e3 a (by omega) h0, d3 a (by omega) h0, c3 a (by omega) h0, b3 a (by omega) h0, a3 a ha h0]
theorem cF12_nd : (cF12.map Prod.fst).Nodup := by decide +kernel
theorem cA1_2 (k : Nat) : cA1.1.2.2 2 k = none := by
  have e1 : cA0.1.1 = 1 := rfl
  obtain ⟨f1, -, -, -, f5, -, -, -, -⟩ := ct_facts 0 cF12 cA0 (by omega) (ct_dist cF12 cF12_nd)
  have hl : cF12.length = 4 := rfl
  rw [e1, hl] at f1
  have g := (f5 1 (2, 41, 88) rfl).2.2 k
  rw [e1] at g
  show (cSS cA0).1.2.2 2 k = none
  rw [cS_row (a := 2) (by omega) (by omega)]
  exact g
theorem cA2_n : cA2.1.1 = 60 := by
  show cA1.1.1 + 1 = 60
  rw [cA1_n]
theorem cA2_s {a : Nat} (h : a < 59) : cA2.1.2.1 a = cA1.1.2.1 a := by
  show (zN cA1.1 13 0).2.1 a = _
  unfold zN
  show (if a = cA1.1.1 then _ else cA1.1.2.1 a) = _
  rw [if_neg (by rw [cA1_n]; omega)]
theorem cA2_13 : cA2.1.2.1 59 = (13, 0) := by
  show (zN cA1.1 13 0).2.1 59 = _
  unfold zN
  show (if 59 = cA1.1.1 then ((13, 0) : Nat × Nat) else cA1.1.2.1 59) = _
  rw [if_pos cA1_n.symm]
theorem cA2_r {a : Nat} (h : a < 59) : cA2.1.2.2 a = cA1.1.2.2 a := by
  show (zN cA1.1 13 0).2.2 a = _
  unfold zN
  show (if a = cA1.1.1 then _ else cA1.1.2.2 a) = _
  rw [if_neg (by rw [cA1_n]; omega)]
theorem cA2_z : cZ cA2 := cZ_N cA1_z
theorem cN_i {c a : Nat} {S : ctT} (h : a ≠ S.1.1) : (cN c S).2.1 a = S.2.1 a := by
  unfold cN zI0
  simp [h]
theorem cA2_c {j : Nat} (h : j < 6) : cA2.2.1 26 j = z_sf 0 j := by
  unfold cA2
  rw [cN_i (by rw [cA1_n]; omega)]
  exact cA1_c j h
theorem inv_first : Inv 0 (mS cA2).1 (mS cA2).2.1 := by
  obtain ⟨s1, s2, s3, s4, s5, s6, s7⟩ := mS_facts cA2 cA2_n (by rw [cA2_13])
  refine inv0 ⟨fun q hq => ?_, fun q hq => ?_, fun q hq => ?_⟩ s4 (by omega) (fun a j h1 h2 h3 => ?_) (fun j hj => ⟨?_, s7 j hj⟩) (fun k => ?_)
  · obtain ⟨h1, h2⟩ := cA1_o q hq
    exact ⟨by omega, by rw [s2 _ (by omega), cA2_s h1]; exact h2⟩
  · obtain ⟨h1, h2, h3, h4⟩ := cA1_a q hq
    exact ⟨by rw [s3 _ h1, cA2_r h1]; exact h3, by omega, by rw [s2 _ (by omega), cA2_s h2]; exact h4⟩
  · obtain ⟨h1, h2⟩ := cA1_p q hq
    rw [s3 _ h1, cA2_r h1]; exact h2
  · by_cases h : a < 60
    · rw [s5 a h]; exact cA2_z a j h2
    · exact s6 a j (by omega) h1 h3
  · rw [s5 26 (by omega)]; exact cA2_c hj
  · rw [s3 2 (by omega), cA2_r (by omega)]; exact cA1_2 k
theorem dL_law_0 : decode cL_law 0 = .ok (.new 7, 3) := by decide +kernel
theorem dL_law_3 : decode cL_law 3 = .ok (.dup, 1) := by decide +kernel
theorem dL_law_4 : decode cL_law 4 = .ok (.invokespecial 9, 3) := by decide +kernel
theorem dL_law_7 : decode cL_law 7 = .ok (.astore_n 1, 1) := by decide +kernel
theorem dL_law_8 : decode cL_law 8 = .ok (.new 10, 3) := by decide +kernel
theorem dL_law_11 : decode cL_law 11 = .ok (.dup, 1) := by decide +kernel
theorem dL_law_12 : decode cL_law 12 = .ok (.invokespecial 12, 3) := by decide +kernel
theorem dL_law_15 : decode cL_law 15 = .ok (.astore_n 2, 1) := by decide +kernel
theorem dL_law_16 : decode cL_law 16 = .ok (.iconst 0, 1) := by decide +kernel
theorem dL_law_17 : decode cL_law 17 = .ok (.istore_n 3, 1) := by decide +kernel
set_option maxRecDepth 100000 in
set_option maxHeartbeats 4000000 in
theorem law_entry {G : z_G} {n0 b Lx : Nat} {xs : Nat → Int32} (hG : G.2.2.2 3 = (b, Lx, xs)) (hLx : Lx ≤ 4608) : ZG G n0 xL_law 1399 4248 138272 0 [(0, .ref b)] [] cE.1 cE.2.1 cE.2.2 (fun v _ _ _ => v = some (.int 1)) := by
  refine yg_new (c := 12) (rc := 4247) (rs := 138252) dL_law_0 (by decide) wg_124 wg_125 wg_106 ?_
  refine yg_dup dL_law_3 rfl ?_
  refine yg_callI (Y := xX12_init) (rc := 4189) (rs := 136809) (mc1 := 58) (ms1 := 1443) (d1 := 1397 + 1) (k := 0) (As := []) dL_law_4 hy_X12_init rfl rfl wg_126 wg_127 (by omega) (Nat.le_of_ble_eq_true rfl) ?_
  refine c12_init (d := 1395) (S := cA0) ⟨Nat.lt_succ_self 0, rfl⟩ ?_
  change ZG G n0 xL_law 1399 4189 136809 7 [(0, .ref b)] [.ref (n0 + 0)] cA1.1 cA1.2.1 cA1.2.2 (fun v _ _ _ => v = some (.int 1))
  refine yg_astore_n [1, 0] [(0, .ref b), (1, .ref (n0 + 0))] dL_law_7 (by decide) rfl ?_
  refine yg_new (c := 13) (rc := 4188) (rs := 136680) dL_law_8 (by decide) wg_1380 wg_1381 wg_113 ?_
  change ZG G n0 xL_law 1399 4188 136680 11 [(0, .ref b), (1, .ref (n0 + 0))] [.ref (n0 + cA1.1.1)] cA2.1 cA2.2.1 cA2.2.2 (fun v _ _ _ => v = some (.int 1))
  rw [cA1_n]
  refine yg_dup dL_law_11 rfl ?_
  refine yg_callI (Y := xX13_init) (rc := 4096) (rs := 116736) (mc1 := 92) (ms1 := 19944) (d1 := 1397 + 1) (k := 59) (As := []) dL_law_12 hy_X13_init rfl rfl wg_1382 wg_1383 (by omega) (Nat.le_of_ble_eq_true rfl) ?_
  refine c13_init (d := 1397) (by rw [cA2_n]; omega) (by rw [cA2_13]) ?_
  change ZG G n0 xL_law 1399 4096 116736 15 [(0, .ref b), (1, .ref (n0 + 0))] [.ref (n0 + 59)] (mS cA2).1 (mS cA2).2.1 (mS cA2).2.2 (fun v _ _ _ => v = some (.int 1))
  refine yg_astore_n [1, 2, 0] [(0, .ref b), (1, .ref (n0 + 0)), (2, .ref (n0 + 59))] dL_law_15 (by decide) rfl ?_
  refine yg_iconst (nI (9 * 0)) dL_law_16 (by decide) ?_
  refine yg_istore_n [1, 2, 3, 0] [(0, .ref b), (1, .ref (n0 + 0)), (2, .ref (n0 + 59)), (3, .int (nI (9 * 0)))] dL_law_17 (by decide) rfl ?_
  exact law_inv hG hLx (by omega) inv_first
