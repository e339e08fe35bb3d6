/-! the component's constructors -/
section CLN
variable {n0 d rc rs pc : Nat} {X : z_X} {lv : List (Nat × Value)} {st : List Value} {K : z_K} {I : z_I} {L : z_L} {Q : z_R}
/-- the row that a clone of the first cloth fills -/
def zIc (I : z_I) (k : Nat) : z_I := fun a => if a = k then (fun j => z_sf 0 j) else I a
/-- the old array of the class's static is copied -/
theorem z_clone {i1 i2 i3 : Nat} {host : String} (hd1 : decode X.2.1 pc = .ok (.getstatic i1, 3)) (hd2 : decode X.2.1 (pc + 3) = .ok (.invokevirtual i2, 3)) (hd3 : decode X.2.1 (pc + 3 + 3) = .ok (.checkcast i3, 3))
    (hw1 : Cond.fieldLinkNest X.1.cls i1 RX12 "CLOTH_AT_FIRST" "[I" host ∈ lw_nest) (hw2 : Cond.methodLink X.1.cls i2 ({ cls := "[I", name := "clone", desc := "()Ljava/lang/Object;" } : MethodName) ∈ lw_good) (hw3 : Cond.classLink X.1.cls i3 "[I" ∈ lw_good) (hdd : 1 ≤ d) (hcat : (st.map fun v => v.category).sum ≤ 8)
    (kk : Z n0 X d rc rs (pc + 3 + 3 + 3) lv (.ref (n0 + K.1) :: st) (zN K 20 6) (zIc I K.1) (zL0 L K.1) Q) : Z n0 X d (rc + 1) (rs + 6) pc lv st K I L Q := by
  intro p l e R s m args below meth c G mc ms H locs cells slots ls hC hH hS hl hc1 hc2
  have hR := hC.hR
  obtain ⟨q1, q2, q3, q4⟩ := hC.hSt
  obtain ⟨hZ, ⟨scr, o1, o2, o3, o4⟩, h6, hf⟩ := q3 0 (by omega)
  obtain ⟨⟨scr', x1, x2, x3, x4, x5⟩, hlt⟩ := q2 0 (by omega)
  cases o1.symm.trans x1
  rw [h6] at x4 x5
  have hnm : s.vm.findClass "[I" = some (G.2.2.1 20) := va_nm_int (hC.hK.2 0 _ rfl).2
  have hcls : scr.cls = G.2.2.1 20 := Option.some.inj (o3.symm.trans hnm)
  have hsl : scr.slots = (arrV (G.2.2.1 20) 6 (fun j => .int (z_sf 0 j))).slots := Array.ext_getElem? (fun j => by
    by_cases hj : j < 6
    · rw [arrV_read _ _ hj, x5 j hj, hf j hj]
    · rw [Array.getElem?_eq_none (by omega), Array.getElem?_eq_none (by rw [arrV_size]; omega)])
  have hce : ({ cls := scr.cls, slots := scr.slots } : Cell) = vp_cell (G.2.2.1 20) (6, .inl (fun j => z_sf 0 j)) := by
    rw [hcls, hsl, vp_cell_i]
    rfl
  obtain ⟨c0, t0, f1, f2, f3⟩ := Cond.castable_spec (va_Nw.use (A := args) rfl (hC.hn wn_273))
  cases o3.symm.trans f1
  refine va_getsN hC.hx hC.hb hZ hS hC.hown (va_Nw.use rfl (hC.hn hw1)) (fun _ h => h) hd1 ?_
  intro T hT Xs
  have hcellT : T.heap[(G.2.2.2 0).1]? = some scr := by
    rw [hT, hS.2.1 _ (Nat.lt_of_lt_of_le hlt q1) (Nat.not_le.mpr hlt)]
    exact x1
  obtain ⟨-, kA, hkA, comp, hkind⟩ := State.isArrayOf_alike Xs.warmed.alike x2
  obtain ⟨-, kS, hkS, compS, hkindS⟩ := x2
  obtain ⟨vm', X', stp⟩ := Xs.cloneArray hC.hx hC.hown (hC.hw hw2) (hC.hw wg_269) (hC.hw wg_270) (hC.hw wg_271) (hC.hw wg_272) (a := (G.2.2.2 0).1) (cell := scr) hcellT (fun k h => by rw [h] at o2; cases o2) x3 o3 f2 f3
    (fun i v hv => by
      have hk' : T.vm.classes[scr.cls]? = some kA := hkA
      by_cases hi : i < 6
      · rw [x5 i hi] at hv
        cases hv
        simp [State.fitsSlot, State.slotType?, hk', hkind, fits]
      · rw [Array.getElem?_eq_none (by omega)] at hv
        cases hv)
    (g := F0 m (pc + 3) ls (.ref (G.2.2.2 0).1 :: st)) rfl (hl.1.trans hC.hml.symm) rfl (by rw [hC.hb]; exact hd2) (by rw [hR]; exact hdd) (by rw [hR]; show 2 * 0 + _ + 14 ≤ 60 * d + 20; omega) (by rw [hR]; show cells + 1 ≤ mc; omega) (by rw [hR, x4]; show slots + 6 ≤ ms; omega) (hloader := Vm.clonesLoader_of_array hkS hkindS)
  rw [hce, x4] at X'
  rw [hce] at stp
  generalize hH1 : H.push (vp_cell (G.2.2.1 20) (6, .inl (fun j => z_sf 0 j))) = H1
  have z2 : H1.size = H.size + 1 := by rw [← hH1, Array.size_push]
  have e1 : H1[H.size]? = some (vp_cell (G.2.2.1 20) (6, .inl (fun j => z_sf 0 j))) := by rw [← hH1, Array.getElem?_push_size]
  have o2' : ∀ q : Nat, q < H.size → H1[q]? = H[q]? := fun q hq => by rw [← hH1, Array.getElem?_push, if_neg (Nat.ne_of_lt hq)]
  have hs6 : (zN K 20 6).2.1 K.1 = (20, 6) := by simp [zN]
  have hH' : z_H n0 G (zN K 20 6) (zIc I K.1) (zL0 L K.1) H1 := z_H_push hH rfl (fun j hj => z_E_congr (by simp [zN, Nat.ne_of_lt hj]) (by simp [zN, Nat.ne_of_lt hj]) (by simp [zIc, Nat.ne_of_lt hj]) (by simp [zL0, Nat.ne_of_lt hj])) z2 o2' (by
    rw [z_E_int hs6 (Or.inl rfl)]
    show H1[n0 + K.1]? = some (vp_cell _ _)
    rw [← hH.1, e1]
    simp [zIc])
  have hS' : va_S (z_A n0) s.heap H1 locs := ⟨Nat.le_trans hS.1 (by omega), fun x g1 g2 => (o2' x (Nat.lt_of_lt_of_le g1 hS.1)).trans (hS.2.1 x g1 g2), hS.2.2⟩
  have k1 := kk p l e R s m args below meth c G mc ms H1 locs (cells + 1) (slots + 6) ls hC hH' hS' hl (by omega) (by omega)
  have k2 := va_castA hC.hx hC.hb hC.hown (hC.hw hw3) hH'.2 K.1 ((z_ws_get (Nat.lt_succ_self K.1)).trans (by rw [z_E_int hs6 (Or.inl rfl)])) hnm hd3 k1
  obtain ⟨t, b1, b2⟩ := k2 ((T.setVm vm').pushCell (vp_cell (G.2.2.1 20) (6, .inl (fun j => z_sf 0 j)))) (by rw [← hH1, ← hT]; rfl) X'
  refine ⟨t, stp t ?_, b2⟩
  rw [hT, hH.1]
  exact b1
end CLN
theorem dX4_init_0 : decode cX4_init 0 = .ok (.aload_n 0, 1) := by decide +kernel
theorem dX4_init_1 : decode cX4_init 1 = .ok (.invokespecial 3, 3) := by decide +kernel
theorem dX4_init_4 : decode cX4_init 4 = .ok (.aload_n 0, 1) := by decide +kernel
theorem dX4_init_5 : decode cX4_init 5 = .ok (.getstatic 9, 3) := by decide +kernel
theorem dX4_init_8 : decode cX4_init 8 = .ok (.invokevirtual 13, 3) := by decide +kernel
theorem dX4_init_11 : decode cX4_init 11 = .ok (.checkcast 14, 3) := by decide +kernel
theorem dX4_init_14 : decode cX4_init 14 = .ok (.putfield 18, 3) := by decide +kernel
theorem dX4_init_17 : decode cX4_init 17 = .ok (.aload_n 0, 1) := by decide +kernel
theorem dX4_init_18 : decode cX4_init 18 = .ok (.iconst 4, 1) := by decide +kernel
theorem dX4_init_19 : decode cX4_init 19 = .ok (.anewarray 23, 3) := by decide +kernel
theorem dX4_init_22 : decode cX4_init 22 = .ok (.putfield 25, 3) := by decide +kernel
theorem dX4_init_25 : decode cX4_init 25 = .ok (.aload_n 0, 1) := by decide +kernel
theorem dX4_init_26 : decode cX4_init 26 = .ok (.iconst 4, 1) := by decide +kernel
theorem dX4_init_27 : decode cX4_init 27 = .ok (.newarray .int, 2) := by decide +kernel
theorem dX4_init_29 : decode cX4_init 29 = .ok (.putfield 29, 3) := by decide +kernel
theorem dX4_init_32 : decode cX4_init 32 = .ok (.aload_n 0, 1) := by decide +kernel
theorem dX4_init_33 : decode cX4_init 33 = .ok (.iconst 4, 1) := by decide +kernel
theorem dX4_init_34 : decode cX4_init 34 = .ok (.anewarray 32, 3) := by decide +kernel
theorem dX4_init_37 : decode cX4_init 37 = .ok (.putfield 34, 3) := by decide +kernel
theorem dX4_init_40 : decode cX4_init 40 = .ok (.aload_n 0, 1) := by decide +kernel
theorem dX4_init_41 : decode cX4_init 41 = .ok (.bipush 96, 2) := by decide +kernel
theorem dX4_init_43 : decode cX4_init 43 = .ok (.newarray .int, 2) := by decide +kernel
theorem dX4_init_45 : decode cX4_init 45 = .ok (.putfield 38, 3) := by decide +kernel
theorem dX4_init_48 : decode cX4_init 48 = .ok (.aload_n 0, 1) := by decide +kernel
theorem dX4_init_49 : decode cX4_init 49 = .ok (.iconst 4, 1) := by decide +kernel
theorem dX4_init_50 : decode cX4_init 50 = .ok (.newarray .int, 2) := by decide +kernel
theorem dX4_init_52 : decode cX4_init 52 = .ok (.putfield 41, 3) := by decide +kernel
theorem dX4_init_55 : decode cX4_init 55 = .ok (.aload_n 0, 1) := by decide +kernel
theorem dX4_init_56 : decode cX4_init 56 = .ok (.iconst 4, 1) := by decide +kernel
theorem dX4_init_57 : decode cX4_init 57 = .ok (.newarray .int, 2) := by decide +kernel
theorem dX4_init_59 : decode cX4_init 59 = .ok (.putfield 44, 3) := by decide +kernel
theorem dX4_init_62 : decode cX4_init 62 = .ok (.aload_n 0, 1) := by decide +kernel
theorem dX4_init_63 : decode cX4_init 63 = .ok (.iconst 4, 1) := by decide +kernel
theorem dX4_init_64 : decode cX4_init 64 = .ok (.newarray .int, 2) := by decide +kernel
theorem dX4_init_66 : decode cX4_init 66 = .ok (.putfield 47, 3) := by decide +kernel
theorem dX4_init_69 : decode cX4_init 69 = .ok (.aload_n 0, 1) := by decide +kernel
theorem dX4_init_70 : decode cX4_init 70 = .ok (.bipush 12, 2) := by decide +kernel
theorem dX4_init_72 : decode cX4_init 72 = .ok (.newarray .int, 2) := by decide +kernel
theorem dX4_init_74 : decode cX4_init 74 = .ok (.putfield 50, 3) := by decide +kernel
theorem dX4_init_77 : decode cX4_init 77 = .ok (.aload_n 0, 1) := by decide +kernel
theorem dX4_init_78 : decode cX4_init 78 = .ok (.bipush 12, 2) := by decide +kernel
theorem dX4_init_80 : decode cX4_init 80 = .ok (.newarray .int, 2) := by decide +kernel
theorem dX4_init_82 : decode cX4_init 82 = .ok (.putfield 53, 3) := by decide +kernel
theorem dX4_init_85 : decode cX4_init 85 = .ok (.iconst 0, 1) := by decide +kernel
theorem dX4_init_86 : decode cX4_init 86 = .ok (.istore_n 1, 1) := by decide +kernel
theorem dX4_init_87 : decode cX4_init 87 = .ok (.iload_n 1, 1) := by decide +kernel
theorem dX4_init_88 : decode cX4_init 88 = .ok (.iconst 4, 1) := by decide +kernel
theorem dX4_init_89 : decode cX4_init 89 = .ok (.if_icmp .ge 22, 3) := by decide +kernel
theorem dX4_init_92 : decode cX4_init 92 = .ok (.aload_n 0, 1) := by decide +kernel
theorem dX4_init_93 : decode cX4_init 93 = .ok (.getfield 34, 3) := by decide +kernel
theorem dX4_init_96 : decode cX4_init 96 = .ok (.iload_n 1, 1) := by decide +kernel
theorem dX4_init_97 : decode cX4_init 97 = .ok (.new 32, 3) := by decide +kernel
theorem dX4_init_100 : decode cX4_init 100 = .ok (.dup, 1) := by decide +kernel
theorem dX4_init_101 : decode cX4_init 101 = .ok (.invokespecial 56, 3) := by decide +kernel
theorem dX4_init_104 : decode cX4_init 104 = .ok (.aastore, 1) := by decide +kernel
theorem dX4_init_105 : decode cX4_init 105 = .ok (.iinc 1 1, 3) := by decide +kernel
theorem dX4_init_108 : decode cX4_init 108 = .ok (.goto (-21), 3) := by decide +kernel
theorem dX4_init_111 : decode cX4_init 111 = .ok (.return_, 1) := by decide +kernel
theorem dX12_init_0 : decode cX12_init 0 = .ok (.aload_n 0, 1) := by decide +kernel
theorem dX12_init_1 : decode cX12_init 1 = .ok (.invokespecial 1, 3) := by decide +kernel
theorem dX12_init_4 : decode cX12_init 4 = .ok (.aload_n 0, 1) := by decide +kernel
theorem dX12_init_5 : decode cX12_init 5 = .ok (.bipush 8, 2) := by decide +kernel
theorem dX12_init_7 : decode cX12_init 7 = .ok (.newarray .int, 2) := by decide +kernel
theorem dX12_init_9 : decode cX12_init 9 = .ok (.putfield 9, 3) := by decide +kernel
theorem dX12_init_12 : decode cX12_init 12 = .ok (.aload_n 0, 1) := by decide +kernel
theorem dX12_init_13 : decode cX12_init 13 = .ok (.bipush 88, 2) := by decide +kernel
theorem dX12_init_15 : decode cX12_init 15 = .ok (.anewarray 13, 3) := by decide +kernel
theorem dX12_init_18 : decode cX12_init 18 = .ok (.putfield 15, 3) := by decide +kernel
theorem dX12_init_21 : decode cX12_init 21 = .ok (.aload_n 0, 1) := by decide +kernel
theorem dX12_init_22 : decode cX12_init 22 = .ok (.bipush 12, 2) := by decide +kernel
theorem dX12_init_24 : decode cX12_init 24 = .ok (.anewarray 19, 3) := by decide +kernel
theorem dX12_init_27 : decode cX12_init 27 = .ok (.putfield 21, 3) := by decide +kernel
theorem dX12_init_30 : decode cX12_init 30 = .ok (.aload_n 0, 1) := by decide +kernel
theorem dX12_init_31 : decode cX12_init 31 = .ok (.bipush 16, 2) := by decide +kernel
theorem dX12_init_33 : decode cX12_init 33 = .ok (.anewarray 25, 3) := by decide +kernel
theorem dX12_init_36 : decode cX12_init 36 = .ok (.putfield 27, 3) := by decide +kernel
theorem dX12_init_39 : decode cX12_init 39 = .ok (.aload_n 0, 1) := by decide +kernel
theorem dX12_init_40 : decode cX12_init 40 = .ok (.new 31, 3) := by decide +kernel
theorem dX12_init_43 : decode cX12_init 43 = .ok (.dup, 1) := by decide +kernel
theorem dX12_init_44 : decode cX12_init 44 = .ok (.invokespecial 33, 3) := by decide +kernel
theorem dX12_init_47 : decode cX12_init 47 = .ok (.putfield 34, 3) := by decide +kernel
theorem dX12_init_50 : decode cX12_init 50 = .ok (.aload_n 0, 1) := by decide +kernel
theorem dX12_init_51 : decode cX12_init 51 = .ok (.new 38, 3) := by decide +kernel
theorem dX12_init_54 : decode cX12_init 54 = .ok (.dup, 1) := by decide +kernel
theorem dX12_init_55 : decode cX12_init 55 = .ok (.invokespecial 40, 3) := by decide +kernel
theorem dX12_init_58 : decode cX12_init 58 = .ok (.putfield 41, 3) := by decide +kernel
theorem dX12_init_61 : decode cX12_init 61 = .ok (.aload_n 0, 1) := by decide +kernel
theorem dX12_init_62 : decode cX12_init 62 = .ok (.bipush 20, 2) := by decide +kernel
theorem dX12_init_64 : decode cX12_init 64 = .ok (.anewarray 45, 3) := by decide +kernel
theorem dX12_init_67 : decode cX12_init 67 = .ok (.putfield 47, 3) := by decide +kernel
theorem dX12_init_70 : decode cX12_init 70 = .ok (.aload_n 0, 1) := by decide +kernel
theorem dX12_init_71 : decode cX12_init 71 = .ok (.new 51, 3) := by decide +kernel
theorem dX12_init_74 : decode cX12_init 74 = .ok (.dup, 1) := by decide +kernel
theorem dX12_init_75 : decode cX12_init 75 = .ok (.invokespecial 53, 3) := by decide +kernel
theorem dX12_init_78 : decode cX12_init 78 = .ok (.putfield 54, 3) := by decide +kernel
theorem dX12_init_81 : decode cX12_init 81 = .ok (.aload_n 0, 1) := by decide +kernel
theorem dX12_init_82 : decode cX12_init 82 = .ok (.new 58, 3) := by decide +kernel
theorem dX12_init_85 : decode cX12_init 85 = .ok (.dup, 1) := by decide +kernel
theorem dX12_init_86 : decode cX12_init 86 = .ok (.invokespecial 60, 3) := by decide +kernel
theorem dX12_init_89 : decode cX12_init 89 = .ok (.putfield 61, 3) := by decide +kernel
theorem dX12_init_92 : decode cX12_init 92 = .ok (.aload_n 0, 1) := by decide +kernel
theorem dX12_init_93 : decode cX12_init 93 = .ok (.new 65, 3) := by decide +kernel
theorem dX12_init_96 : decode cX12_init 96 = .ok (.dup, 1) := by decide +kernel
theorem dX12_init_97 : decode cX12_init 97 = .ok (.invokespecial 67, 3) := by decide +kernel
theorem dX12_init_100 : decode cX12_init 100 = .ok (.putfield 68, 3) := by decide +kernel
theorem dX12_init_103 : decode cX12_init 103 = .ok (.aload_n 0, 1) := by decide +kernel
theorem dX12_init_104 : decode cX12_init 104 = .ok (.bipush 12, 2) := by decide +kernel
theorem dX12_init_106 : decode cX12_init 106 = .ok (.anewarray 72, 3) := by decide +kernel
theorem dX12_init_109 : decode cX12_init 109 = .ok (.putfield 74, 3) := by decide +kernel
theorem dX12_init_112 : decode cX12_init 112 = .ok (.aload_n 0, 1) := by decide +kernel
theorem dX12_init_113 : decode cX12_init 113 = .ok (.new 78, 3) := by decide +kernel
theorem dX12_init_116 : decode cX12_init 116 = .ok (.dup, 1) := by decide +kernel
theorem dX12_init_117 : decode cX12_init 117 = .ok (.invokespecial 80, 3) := by decide +kernel
theorem dX12_init_120 : decode cX12_init 120 = .ok (.putfield 81, 3) := by decide +kernel
theorem dX12_init_123 : decode cX12_init 123 = .ok (.return_, 1) := by decide +kernel
/-- a new object of class c, nothing in it -/
def cN (c : Nat) (S : ctT) : ctT := (zN S.1 c 0, zI0 S.2.1 S.1.1, zL0 S.2.2 S.1.1)
/-- the first cloth's copy becomes field 0 of o -/
def cCl (o : Nat) (S : ctT) : ctT := (zR (zN S.1 20 6) o 0 (some S.1.1), zIc S.2.1 S.1.1, zL0 S.2.2 S.1.1)
def cP (o f v : Nat) (S : ctT) : ctT := (zR S.1 o f (some v), S.2.1, S.2.2)
def cF1 : ctL := [(0, 20, 12), (1, 20, 2)]
def cF2 : ctL := [(3, 20, 8), (4, 20, 16), (5, 20, 160), (6, 20, 160), (7, 20, 10), (8, 20, 10), (9, 35, 16), (10, 22, 60), (11, 20, 10), (12, 20, 80), (13, 20, 80), (14, 20, 10)]
def cF4 : ctL := [(1, 35, 4), (2, 20, 4), (3, 40, 4), (5, 20, 96), (6, 20, 4), (7, 20, 4), (8, 20, 4), (9, 20, 12), (11, 20, 12)]
def cF7 : ctL := [(0, 20, 60), (5, 20, 60)]
def cF9 : ctL := [(0, 20, 5), (1, 20, 30), (2, 20, 6), (4, 20, 5), (5, 20, 6), (6, 20, 6)]
def cF10 : ctL := [(0, 20, 24), (1, 20, 24)]
def cF12 : ctL := [(1, 20, 8), (2, 41, 88), (3, 30, 12), (7, 35, 16)]
/-- a new object of class c with its arrays becomes field f of o -/
def cO (o c f : Nat) (fs : ctL) (S : ctT) : ctT := cP o f S.1.1 (fs.foldl (ctA S.1.1) (cN c S))
theorem ct_old (o : Nat) : ∀ (fs : ctL) (S : ctT), o < S.1.1 → S.1.1 ≤ (fs.foldl (ctA o) S).1.1 ∧ (∀ a, a < S.1.1 → (fs.foldl (ctA o) S).1.2.1 a = S.1.2.1 a) ∧ (∀ a, a < S.1.1 → a ≠ o → (fs.foldl (ctA o) S).1.2.2 a = S.1.2.2 a) := by
  intro fs
  induction fs with
  | nil => intro S _; exact ⟨Nat.le_refl _, fun _ _ => rfl, fun _ _ _ => rfl⟩
  | cons f fs ih =>
    intro S ho
    obtain ⟨a1, a2, a3⟩ := ih (ctA o S f) (Nat.lt_succ_of_lt ho)
    have h1 : (ctA o S f).1.1 = S.1.1 + 1 := rfl
    rw [h1] at a1 a2 a3
    refine ⟨by simp only [List.foldl_cons]; omega, fun a ha => ?_, fun a ha hn => ?_⟩
    · rw [List.foldl_cons, a2 a (by omega)]; simp [ctA, zR, zN, Nat.ne_of_lt ha]
    · rw [List.foldl_cons, a3 a (by omega) hn]; simp [ctA, zR, zN, Nat.ne_of_lt ha, hn]
/-- what a new object leaves of the old ones -/
theorem cO_old {o c f : Nat} {fs : ctL} {S : ctT} : S.1.1 < (cO o c f fs S).1.1 ∧ (∀ a, a < S.1.1 → (cO o c f fs S).1.2.1 a = S.1.2.1 a) ∧ (∀ a, a < S.1.1 → a ≠ o → (cO o c f fs S).1.2.2 a = S.1.2.2 a) := by
  obtain ⟨a1, a2, a3⟩ := ct_old S.1.1 fs (cN c S) (Nat.lt_succ_self _)
  have h1 : (cN c S).1.1 = S.1.1 + 1 := rfl
  rw [h1] at a1 a2 a3
  refine ⟨by show _ < (fs.foldl (ctA S.1.1) (cN c S)).1.1; omega, fun a ha => ?_, fun a ha hn => ?_⟩
  · show (fs.foldl (ctA S.1.1) (cN c S)).1.2.1 a = _
    rw [a2 a (by omega)]; simp [cN, zN, Nat.ne_of_lt ha]
  · show (zR (fs.foldl (ctA S.1.1) (cN c S)).1 o f (some S.1.1)).2.2 a = _
    rw [zR_ne hn, a3 a (by omega) (by omega)]; simp [cN, zN, Nat.ne_of_lt ha]
set_option maxRecDepth 100000 in
set_option maxHeartbeats 4000000 in
theorem c4_arr {n0 d o : Nat} {S : ctT} {Q : z_R} (ho : o < S.1.1) (hc : (S.1.2.1 o).1 = 4) (h : Z n0 xX4_init (d + 2) 12 220 85 [(0, .ref (n0 + o))] [] (cF4.foldl (ctA o) (cCl o S)).1 (cF4.foldl (ctA o) (cCl o S)).2.1 (cF4.foldl (ctA o) (cCl o S)).2.2 Q) : RM n0 xX4_init (d + 2) 22 370 [.ref (n0 + o)] S.1 S.2.1 S.2.2 Q := by
  obtain ⟨K, I, L⟩ := S
  refine z_entry (by decide) (Nat.le_of_ble_eq_true rfl) ?_
  change Z n0 xX4_init (d + 2) 22 370 0 [(0, .ref (n0 + o))] [] K I L Q
  refine z_aload_n 0 dX4_init_0 rfl ?_
  refine z_objInit dX4_init_1 wg_265 wg_130 wg_131 (by omega) ?_
  refine z_aload_n 0 dX4_init_4 rfl ?_
  refine z_clone (rc := 21) (rs := 364) dX4_init_5 dX4_init_8 dX4_init_11 wn_266 wg_268 wg_274 (by omega) (Nat.le_of_ble_eq_true rfl) ?_
  obtain ⟨ho, hc⟩ := ctF_ok (t := 20) (n := 6) _ _ ho hc
  refine fp_4_18 (some _) rfl rfl dX4_init_14 ho hc ?_
  refine z_aload_n 0 dX4_init_17 rfl ?_
  refine z_iconst 4 dX4_init_18 (by decide) ?_
  refine z_newqO (t := 35) (N := 4) (rc := 20) (rs := 360) dX4_init_19 (by unfold z_rt; decide) wg_275 wn_137 (by decide) (by decide) (by decide) (fun hf => ?_)
  obtain ⟨ho, hc⟩ := hf _ _ ho hc
  refine fp_4_25 (some _) rfl rfl dX4_init_22 ho hc ?_
  refine z_aload_n 0 dX4_init_25 rfl ?_
  refine z_iconst 4 dX4_init_26 (by decide) ?_
  refine z_newaO (t := 20) (N := 4) (rc := 19) (rs := 356) dX4_init_27 (Or.inl ⟨rfl, rfl⟩) wg_171 (by decide) (by decide) (by decide) (fun hf => ?_)
  obtain ⟨ho, hc⟩ := hf _ _ ho hc
  refine fp_4_29 (some _) rfl rfl dX4_init_29 ho hc ?_
  refine z_aload_n 0 dX4_init_32 rfl ?_
  refine z_iconst 4 dX4_init_33 (by decide) ?_
  refine z_newqO (t := 40) (N := 4) (rc := 18) (rs := 352) dX4_init_34 (by unfold z_rt; decide) wg_276 wn_277 (by decide) (by decide) (by decide) (fun hf => ?_)
  obtain ⟨ho, hc⟩ := hf _ _ ho hc
  refine fp_4_34 (some _) rfl rfl dX4_init_37 ho hc ?_
  refine z_aload_n 0 dX4_init_40 rfl ?_
  refine z_bipush 96 dX4_init_41 (by decide) ?_
  refine z_newaO (t := 20) (N := 96) (rc := 17) (rs := 256) dX4_init_43 (Or.inl ⟨rfl, rfl⟩) wg_171 (by decide) (by decide) (by decide) (fun hf => ?_)
  obtain ⟨ho, hc⟩ := hf _ _ ho hc
  refine fp_4_38 (some _) rfl rfl dX4_init_45 ho hc ?_
  refine z_aload_n 0 dX4_init_48 rfl ?_
  refine z_iconst 4 dX4_init_49 (by decide) ?_
  refine z_newaO (t := 20) (N := 4) (rc := 16) (rs := 252) dX4_init_50 (Or.inl ⟨rfl, rfl⟩) wg_171 (by decide) (by decide) (by decide) (fun hf => ?_)
  obtain ⟨ho, hc⟩ := hf _ _ ho hc
  refine fp_4_41 (some _) rfl rfl dX4_init_52 ho hc ?_
  refine z_aload_n 0 dX4_init_55 rfl ?_
  refine z_iconst 4 dX4_init_56 (by decide) ?_
  refine z_newaO (t := 20) (N := 4) (rc := 15) (rs := 248) dX4_init_57 (Or.inl ⟨rfl, rfl⟩) wg_171 (by decide) (by decide) (by decide) (fun hf => ?_)
  obtain ⟨ho, hc⟩ := hf _ _ ho hc
  refine fp_4_44 (some _) rfl rfl dX4_init_59 ho hc ?_
  refine z_aload_n 0 dX4_init_62 rfl ?_
  refine z_iconst 4 dX4_init_63 (by decide) ?_
  refine z_newaO (t := 20) (N := 4) (rc := 14) (rs := 244) dX4_init_64 (Or.inl ⟨rfl, rfl⟩) wg_171 (by decide) (by decide) (by decide) (fun hf => ?_)
  obtain ⟨ho, hc⟩ := hf _ _ ho hc
  refine fp_4_47 (some _) rfl rfl dX4_init_66 ho hc ?_
  refine z_aload_n 0 dX4_init_69 rfl ?_
  refine z_bipush 12 dX4_init_70 (by decide) ?_
  refine z_newaO (t := 20) (N := 12) (rc := 13) (rs := 232) dX4_init_72 (Or.inl ⟨rfl, rfl⟩) wg_171 (by decide) (by decide) (by decide) (fun hf => ?_)
  obtain ⟨ho, hc⟩ := hf _ _ ho hc
  refine fp_4_50 (some _) rfl rfl dX4_init_74 ho hc ?_
  refine z_aload_n 0 dX4_init_77 rfl ?_
  refine z_bipush 12 dX4_init_78 (by decide) ?_
  refine z_newaO (t := 20) (N := 12) (rc := 12) (rs := 220) dX4_init_80 (Or.inl ⟨rfl, rfl⟩) wg_171 (by decide) (by decide) (by decide) (fun hf => ?_)
  obtain ⟨ho, hc⟩ := hf _ _ ho hc
  refine fp_4_53 (some _) rfl rfl dX4_init_82 ho hc ?_
  exact h
/-- the laying's four shapes -/
def cSh (a i : Nat) (S : ctT) : ctT := cO a 10 i cF10 S
set_option maxRecDepth 100000 in
set_option maxHeartbeats 4000000 in
theorem c4_it {n0 d o a rc rs i : Nat} {S : ctT} {Q : z_R} (hi : i < 4) (ho : o < S.1.1) (hc : (S.1.2.1 o).1 = 4) (h3 : S.1.2.2 o 3 = some a) (ha : a < S.1.1) (hs : S.1.2.1 a = (40, 4))
    (h : Z n0 xX4_init (d + 2) rc rs 87 [(0, .ref (n0 + o)), (1, .int (nI (i + 1)))] [] (cSh a i S).1 (cSh a i S).2.1 (cSh a i S).2.2 Q) : Z n0 xX4_init (d + 2) (rc + 3) (rs + 55) 87 [(0, .ref (n0 + o)), (1, .int (nI i))] [] S.1 S.2.1 S.2.2 Q := by
  refine z_iload_n 1 dX4_init_87 rfl ?_
  refine z_iconst 4 dX4_init_88 (by decide) ?_
  refine z_icmp_ge 111 dX4_init_89 (by decide) (fun q => absurd (q_lt.mpr (by rw [q_nI (by omega)]; show (i : Int) < 4; omega)) q) (fun _ => ?_)
  refine z_aload_n 0 dX4_init_92 rfl ?_
  refine fg_4_34 (some a) rfl dX4_init_93 ho hc h3 ?_
  refine z_iload_n 1 dX4_init_96 rfl ?_
  refine z_new (c := 10) (rc := rc + 2) (rs := rs + 48) dX4_init_97 (by decide) wg_276 wg_278 wg_111 ?_
  refine z_dup dX4_init_100 rfl ?_
  refine z_callIN (Y := xX10_init) (rc := rc) (rs := rs) (mc1 := 2) (ms1 := 48) (d1 := d + 1) (k := S.1.1) (As := []) dX4_init_101 hy_X10_init rfl rfl wn_279 wg_280 (by omega) (Nat.le_of_ble_eq_true rfl) ?_
  refine ct_X10_init (Nat.lt_succ_self _) (by simp [zN]) ?_
  obtain ⟨a1, a2, a3⟩ := ct_old S.1.1 cF10 (cN 10 S) (Nat.lt_succ_self _)
  have h1 : (cN 10 S).1.1 = S.1.1 + 1 := rfl
  rw [h1] at a1 a2 a3
  change Z n0 xX4_init (d + 2) rc rs 104 [(0, .ref (n0 + o)), (1, .int (nI i))] [.ref (n0 + S.1.1), .int (nI i), .ref (n0 + a)] (cF10.foldl (ctA S.1.1) (cN 10 S)).1 (cF10.foldl (ctA S.1.1) (cN 10 S)).2.1 (cF10.foldl (ctA S.1.1) (cN 10 S)).2.2 Q
  refine z_aast (t := 40) (n := 4) dX4_init_104 (by omega) (by rw [a2 a (by omega)]; simp [cN, zN, Nat.ne_of_lt ha, hs]) (by unfold z_rt; decide) (q_inn hi (by omega)) (by omega) (by rw [a2 S.1.1 (by omega)]; simp [cN, zN]) ?_
  rw [q_cl (by omega)]
  refine z_iinc (nI (i + 1)) [1, 0] [(0, .ref (n0 + o)), (1, .int (nI (i + 1)))] (j := 1) dX4_init_105 rfl (by
    have : i = 0 ∨ i = 1 ∨ i = 2 ∨ i = 3 := by omega
    rcases this with e | e | e | e <;> subst e <;> decide) (by decide) rfl ?_
  refine z_goto 87 dX4_init_108 (by decide) ?_
  exact h
theorem cSh_keep {o a i : Nat} {S : ctT} (hoa : o ≠ a) (ho : o < S.1.1) (hc : (S.1.2.1 o).1 = 4) (h3 : S.1.2.2 o 3 = some a) (ha : a < S.1.1) (hs : S.1.2.1 a = (40, 4)) : o < (cSh a i S).1.1 ∧ ((cSh a i S).1.2.1 o).1 = 4 ∧ (cSh a i S).1.2.2 o 3 = some a ∧ a < (cSh a i S).1.1 ∧ (cSh a i S).1.2.1 a = (40, 4) := by
  obtain ⟨a1, a2, a3⟩ := cO_old (o := a) (c := 10) (f := i) (fs := cF10) (S := S)
  exact ⟨Nat.lt_trans ho a1, by show ((cO a 10 i cF10 S).1.2.1 o).1 = 4; rw [a2 o ho]; exact hc, by show (cO a 10 i cF10 S).1.2.2 o 3 = _; rw [a3 o ho hoa]; exact h3, Nat.lt_trans ha a1, by show (cO a 10 i cF10 S).1.2.1 a = _; rw [a2 a ha]; exact hs⟩
/-- what the laying's constructor leaves -/
def cL (o : Nat) (S : ctT) : ctT := cSh (S.1.1 + 3) 3 (cSh (S.1.1 + 3) 2 (cSh (S.1.1 + 3) 1 (cSh (S.1.1 + 3) 0 (cF4.foldl (ctA o) (cCl o S)))))
theorem cF4_nd : (cF4.map Prod.fst).Nodup := by decide +kernel
theorem cCl_keep {o c : Nat} {S : ctT} (ho : o < S.1.1) (hc : (S.1.2.1 o).1 = c) : o < (cCl o S).1.1 ∧ ((cCl o S).1.2.1 o).1 = c := by
  refine ⟨Nat.lt_succ_of_lt ho, ?_⟩
  show ((zN S.1 20 6).2.1 o).1 = c
  simp [zN, Nat.ne_of_lt ho, hc]
set_option maxRecDepth 100000 in
theorem c4_init {n0 d o : Nat} {S : ctT} {Q : z_R} (ho : o < S.1.1) (hc : (S.1.2.1 o).1 = 4) (h : Q none (cL o S).1 (cL o S).2.1 (cL o S).2.2) : RM n0 xX4_init (d + 2) 22 370 [.ref (n0 + o)] S.1 S.2.1 S.2.2 Q := by
  obtain ⟨ho', hc'⟩ := cCl_keep ho hc
  obtain ⟨f1, f2, f3, f4, f5, -, -, -, -⟩ := ct_facts o cF4 (cCl o S) ho' (ct_dist cF4 cF4_nd)
  have hn : (cCl o S).1.1 = S.1.1 + 1 := rfl
  obtain ⟨g1, g2, -⟩ := f5 2 (3, 40, 4) rfl
  rw [hn] at f1 f2 g1 g2
  have hl : cF4.length = 9 := rfl
  rw [hl] at f1
  have e3 : S.1.1 + 1 + 2 = S.1.1 + 3 := by omega
  rw [e3] at g1 g2
  have k0 : o < (cF4.foldl (ctA o) (cCl o S)).1.1 ∧ ((cF4.foldl (ctA o) (cCl o S)).1.2.1 o).1 = 4 := ⟨by omega, by rw [f2 o (by omega)]; exact hc'⟩
  have hoa : o ≠ S.1.1 + 3 := by omega
  refine c4_arr ho hc ?_
  unfold cL at h
  generalize cF4.foldl (ctA o) (cCl o S) = T at *
  refine z_iconst (nI 0) dX4_init_85 (by decide) ?_
  refine z_istore_n [1, 0] [(0, .ref (n0 + o)), (1, .int (nI 0))] dX4_init_86 (by decide) rfl ?_
  have ha : S.1.1 + 3 < T.1.1 := by omega
  generalize S.1.1 + 3 = a at *
  have m1 := cSh_keep (i := 0) hoa k0.1 k0.2 g1 ha g2
  have m2 := cSh_keep (i := 1) hoa m1.1 m1.2.1 m1.2.2.1 m1.2.2.2.1 m1.2.2.2.2
  have m3 := cSh_keep (i := 2) hoa m2.1 m2.2.1 m2.2.2.1 m2.2.2.2.1 m2.2.2.2.2
  refine c4_it (rc := 9) (rs := 165) (by omega) k0.1 k0.2 g1 ha g2 ?_
  refine c4_it (rc := 6) (rs := 110) (by omega) m1.1 m1.2.1 m1.2.2.1 m1.2.2.2.1 m1.2.2.2.2 ?_
  refine c4_it (rc := 3) (rs := 55) (by omega) m2.1 m2.2.1 m2.2.2.1 m2.2.2.2.1 m2.2.2.2.2 ?_
  refine c4_it (rc := 0) (rs := 0) (by omega) m3.1 m3.2.1 m3.2.2.1 m3.2.2.2.1 m3.2.2.2.2 ?_
  refine z_iload_n 1 dX4_init_87 rfl ?_
  refine z_iconst 4 dX4_init_88 (by decide) ?_
  refine z_icmp_ge 111 dX4_init_89 (by decide) (fun _ => ?_) (fun q => absurd q (by decide))
  exact z_vret dX4_init_111 rfl h
theorem cL_old {o : Nat} {S : ctT} (ho : o < S.1.1) : S.1.1 < (cL o S).1.1 ∧ (∀ a, a < S.1.1 → (cL o S).1.2.1 a = S.1.2.1 a) ∧ (∀ a, a < S.1.1 → a ≠ o → (cL o S).1.2.2 a = S.1.2.2 a) := by
  have hn : (cCl o S).1.1 = S.1.1 + 1 := rfl
  obtain ⟨a1, a2, a3⟩ := ct_old o cF4 (cCl o S) (by omega)
  rw [hn] at a1 a2 a3
  have b2 : ∀ a, a < S.1.1 → (cCl o S).1.2.1 a = S.1.2.1 a := fun a ha => by
    show (zN S.1 20 6).2.1 a = _
    simp [zN, Nat.ne_of_lt ha]
  have b3 : ∀ a, a < S.1.1 → a ≠ o → (cCl o S).1.2.2 a = S.1.2.2 a := fun a ha h => by
    show (zR (zN S.1 20 6) o 0 (some S.1.1)).2.2 a = _
    rw [zR_ne h]
    simp [zN, Nat.ne_of_lt ha]
  unfold cL
  generalize cF4.foldl (ctA o) (cCl o S) = T at *
  obtain ⟨c1, c2, c3⟩ := cO_old (o := S.1.1 + 3) (c := 10) (f := 0) (fs := cF10) (S := T)
  change T.1.1 < (cSh (S.1.1 + 3) 0 T).1.1 at c1
  change ∀ a, a < T.1.1 → (cSh (S.1.1 + 3) 0 T).1.2.1 a = T.1.2.1 a at c2
  change ∀ a, a < T.1.1 → a ≠ S.1.1 + 3 → (cSh (S.1.1 + 3) 0 T).1.2.2 a = T.1.2.2 a at c3
  generalize cSh (S.1.1 + 3) 0 T = T1 at *
  obtain ⟨d1, d2, d3⟩ := cO_old (o := S.1.1 + 3) (c := 10) (f := 1) (fs := cF10) (S := T1)
  change T1.1.1 < (cSh (S.1.1 + 3) 1 T1).1.1 at d1
  change ∀ a, a < T1.1.1 → (cSh (S.1.1 + 3) 1 T1).1.2.1 a = T1.1.2.1 a at d2
  change ∀ a, a < T1.1.1 → a ≠ S.1.1 + 3 → (cSh (S.1.1 + 3) 1 T1).1.2.2 a = T1.1.2.2 a at d3
  generalize cSh (S.1.1 + 3) 1 T1 = T2 at *
  obtain ⟨e1, e2, e3⟩ := cO_old (o := S.1.1 + 3) (c := 10) (f := 2) (fs := cF10) (S := T2)
  change T2.1.1 < (cSh (S.1.1 + 3) 2 T2).1.1 at e1
  change ∀ a, a < T2.1.1 → (cSh (S.1.1 + 3) 2 T2).1.2.1 a = T2.1.2.1 a at e2
  change ∀ a, a < T2.1.1 → a ≠ S.1.1 + 3 → (cSh (S.1.1 + 3) 2 T2).1.2.2 a = T2.1.2.2 a at e3
  generalize cSh (S.1.1 + 3) 2 T2 = T3 at *
  obtain ⟨f1, f2, f3⟩ := cO_old (o := S.1.1 + 3) (c := 10) (f := 3) (fs := cF10) (S := T3)
  change T3.1.1 < (cSh (S.1.1 + 3) 3 T3).1.1 at f1
  change ∀ a, a < T3.1.1 → (cSh (S.1.1 + 3) 3 T3).1.2.1 a = T3.1.2.1 a at f2
  change ∀ a, a < T3.1.1 → a ≠ S.1.1 + 3 → (cSh (S.1.1 + 3) 3 T3).1.2.2 a = T3.1.2.2 a at f3
  refine ⟨by omega, fun a ha => ?_, fun a ha h => ?_⟩
  · rw [f2 a (by omega), e2 a (by omega), d2 a (by omega), c2 a (by omega), a2 a (by omega), b2 a ha]
  · rw [f3 a (by omega) (by omega), e3 a (by omega) (by omega), d3 a (by omega) (by omega), c3 a (by omega) (by omega), a3 a (by omega) h, b3 a ha h]
/-- the laying as field f of o -/
def cLy (o f : Nat) (S : ctT) : ctT := cP o f S.1.1 (cL S.1.1 (cN 4 S))
theorem cLy_old {o f : Nat} {S : ctT} : S.1.1 < (cLy o f S).1.1 ∧ (∀ a, a < S.1.1 → (cLy o f S).1.2.1 a = S.1.2.1 a) ∧ (∀ a, a < S.1.1 → a ≠ o → (cLy o f S).1.2.2 a = S.1.2.2 a) := by
  obtain ⟨a1, a2, a3⟩ := cL_old (o := S.1.1) (S := cN 4 S) (Nat.lt_succ_self _)
  have h1 : (cN 4 S).1.1 = S.1.1 + 1 := rfl
  rw [h1] at a1 a2 a3
  refine ⟨by show _ < (cL S.1.1 (cN 4 S)).1.1; omega, fun a ha => ?_, fun a ha hn => ?_⟩
  · show (cL S.1.1 (cN 4 S)).1.2.1 a = _
    rw [a2 a (by omega)]; simp [cN, zN, Nat.ne_of_lt ha]
  · show (zR (cL S.1.1 (cN 4 S)).1 o f (some S.1.1)).2.2 a = _
    rw [zR_ne hn, a3 a (by omega) (by omega)]; simp [cN, zN, Nat.ne_of_lt ha]
set_option maxRecDepth 100000 in
set_option maxHeartbeats 4000000 in
theorem c12_7 {n0 d rc rs : Nat} {S : ctT} {Q : z_R} (ho : 0 < S.1.1) (hc : (S.1.2.1 0).1 = 12) (h : Z n0 xX12_init (d + 3) rc rs 50 [(0, .ref (n0 + 0))] [] (cO 0 7 10 cF7 S).1 (cO 0 7 10 cF7 S).2.1 (cO 0 7 10 cF7 S).2.2 Q) : Z n0 xX12_init (d + 3) (rc + 3) (rs + 128) 39 [(0, .ref (n0 + 0))] [] S.1 S.2.1 S.2.2 Q := by
  refine z_aload_n 0 dX12_init_39 rfl ?_
  refine z_new (c := 7) (rc := rc + 2) (rs := rs + 120) dX12_init_40 (by decide) wg_138 wg_139 wg_107 ?_
  refine z_dup dX12_init_43 rfl ?_
  refine z_callIN (Y := xX7_init) (rc := rc) (rs := rs) (mc1 := 2) (ms1 := 120) (d1 := d + 2) (k := S.1.1) (As := []) dX12_init_44 hy_X7_init rfl rfl wn_140 wg_141 (by omega) (Nat.le_of_ble_eq_true rfl) ?_
  refine ct_X7_init (Nat.lt_succ_self _) (by simp [zN]) ?_
  obtain ⟨a1, a2, a3⟩ := ct_old S.1.1 cF7 (cN 7 S) (Nat.lt_succ_self _)
  have h1 : (cN 7 S).1.1 = S.1.1 + 1 := rfl
  rw [h1] at a1 a2 a3
  change Z n0 xX12_init (d + 3) rc rs 47 [(0, .ref (n0 + 0))] [.ref (n0 + S.1.1), .ref (n0 + 0)] (cF7.foldl (ctA S.1.1) (cN 7 S)).1 (cF7.foldl (ctA S.1.1) (cN 7 S)).2.1 (cF7.foldl (ctA S.1.1) (cN 7 S)).2.2 Q
  exact fp_12_34 (some S.1.1) rfl rfl dX12_init_47 (by omega) (by rw [a2 0 (by omega)]; simp [cN, zN, Nat.ne_of_lt ho, hc]) h
set_option maxRecDepth 100000 in
set_option maxHeartbeats 4000000 in
theorem c12_2 {n0 d rc rs : Nat} {S : ctT} {Q : z_R} (ho : 0 < S.1.1) (hc : (S.1.2.1 0).1 = 12) (h : Z n0 xX12_init (d + 3) rc rs 61 [(0, .ref (n0 + 0))] [] (cO 0 2 11 cF2 S).1 (cO 0 2 11 cF2 S).2.1 (cO 0 2 11 cF2 S).2.2 Q) : Z n0 xX12_init (d + 3) (rc + 13) (rs + 636) 50 [(0, .ref (n0 + 0))] [] S.1 S.2.1 S.2.2 Q := by
  refine z_aload_n 0 dX12_init_50 rfl ?_
  refine z_new (c := 2) (rc := rc + 12) (rs := rs + 620) dX12_init_51 (by decide) wg_172 wg_173 wg_108 ?_
  refine z_dup dX12_init_54 rfl ?_
  refine z_callIN (Y := xX2_init) (rc := rc) (rs := rs) (mc1 := 12) (ms1 := 620) (d1 := d + 2) (k := S.1.1) (As := []) dX12_init_55 hy_X2_init rfl rfl wn_174 wg_175 (by omega) (Nat.le_of_ble_eq_true rfl) ?_
  refine ct_X2_init (Nat.lt_succ_self _) (by simp [zN]) ?_
  obtain ⟨a1, a2, a3⟩ := ct_old S.1.1 cF2 (cN 2 S) (Nat.lt_succ_self _)
  have h1 : (cN 2 S).1.1 = S.1.1 + 1 := rfl
  rw [h1] at a1 a2 a3
  change Z n0 xX12_init (d + 3) rc rs 58 [(0, .ref (n0 + 0))] [.ref (n0 + S.1.1), .ref (n0 + 0)] (cF2.foldl (ctA S.1.1) (cN 2 S)).1 (cF2.foldl (ctA S.1.1) (cN 2 S)).2.1 (cF2.foldl (ctA S.1.1) (cN 2 S)).2.2 Q
  exact fp_12_41 (some S.1.1) rfl rfl dX12_init_58 (by omega) (by rw [a2 0 (by omega)]; simp [cN, zN, Nat.ne_of_lt ho, hc]) h
set_option maxRecDepth 100000 in
set_option maxHeartbeats 4000000 in
theorem c12_1 {n0 d rc rs : Nat} {S : ctT} {Q : z_R} (ho : 0 < S.1.1) (hc : (S.1.2.1 0).1 = 12) (h : Z n0 xX12_init (d + 3) rc rs 81 [(0, .ref (n0 + 0))] [] (cO 0 1 14 cF1 S).1 (cO 0 1 14 cF1 S).2.1 (cO 0 1 14 cF1 S).2.2 Q) : Z n0 xX12_init (d + 3) (rc + 3) (rs + 19) 70 [(0, .ref (n0 + 0))] [] S.1 S.2.1 S.2.2 Q := by
  refine z_aload_n 0 dX12_init_70 rfl ?_
  refine z_new (c := 1) (rc := rc + 2) (rs := rs + 14) dX12_init_71 (by decide) wg_235 wg_236 wg_109 ?_
  refine z_dup dX12_init_74 rfl ?_
  refine z_callIN (Y := xX1_init) (rc := rc) (rs := rs) (mc1 := 2) (ms1 := 14) (d1 := d + 2) (k := S.1.1) (As := []) dX12_init_75 hy_X1_init rfl rfl wn_237 wg_238 (by omega) (Nat.le_of_ble_eq_true rfl) ?_
  refine ct_X1_init (Nat.lt_succ_self _) (by simp [zN]) ?_
  obtain ⟨a1, a2, a3⟩ := ct_old S.1.1 cF1 (cN 1 S) (Nat.lt_succ_self _)
  have h1 : (cN 1 S).1.1 = S.1.1 + 1 := rfl
  rw [h1] at a1 a2 a3
  change Z n0 xX12_init (d + 3) rc rs 78 [(0, .ref (n0 + 0))] [.ref (n0 + S.1.1), .ref (n0 + 0)] (cF1.foldl (ctA S.1.1) (cN 1 S)).1 (cF1.foldl (ctA S.1.1) (cN 1 S)).2.1 (cF1.foldl (ctA S.1.1) (cN 1 S)).2.2 Q
  exact fp_12_54 (some S.1.1) rfl rfl dX12_init_78 (by omega) (by rw [a2 0 (by omega)]; simp [cN, zN, Nat.ne_of_lt ho, hc]) h
set_option maxRecDepth 100000 in
set_option maxHeartbeats 4000000 in
theorem c12_10 {n0 d rc rs : Nat} {S : ctT} {Q : z_R} (ho : 0 < S.1.1) (hc : (S.1.2.1 0).1 = 12) (h : Z n0 xX12_init (d + 3) rc rs 103 [(0, .ref (n0 + 0))] [] (cO 0 10 16 cF10 S).1 (cO 0 10 16 cF10 S).2.1 (cO 0 10 16 cF10 S).2.2 Q) : Z n0 xX12_init (d + 3) (rc + 3) (rs + 55) 92 [(0, .ref (n0 + 0))] [] S.1 S.2.1 S.2.2 Q := by
  refine z_aload_n 0 dX12_init_92 rfl ?_
  refine z_new (c := 10) (rc := rc + 2) (rs := rs + 48) dX12_init_93 (by decide) wg_358 wg_278 wg_111 ?_
  refine z_dup dX12_init_96 rfl ?_
  refine z_callIN (Y := xX10_init) (rc := rc) (rs := rs) (mc1 := 2) (ms1 := 48) (d1 := d + 2) (k := S.1.1) (As := []) dX12_init_97 hy_X10_init rfl rfl wn_359 wg_280 (by omega) (Nat.le_of_ble_eq_true rfl) ?_
  refine ct_X10_init (Nat.lt_succ_self _) (by simp [zN]) ?_
  obtain ⟨a1, a2, a3⟩ := ct_old S.1.1 cF10 (cN 10 S) (Nat.lt_succ_self _)
  have h1 : (cN 10 S).1.1 = S.1.1 + 1 := rfl
  rw [h1] at a1 a2 a3
  change Z n0 xX12_init (d + 3) rc rs 100 [(0, .ref (n0 + 0))] [.ref (n0 + S.1.1), .ref (n0 + 0)] (cF10.foldl (ctA S.1.1) (cN 10 S)).1 (cF10.foldl (ctA S.1.1) (cN 10 S)).2.1 (cF10.foldl (ctA S.1.1) (cN 10 S)).2.2 Q
  exact fp_12_68 (some S.1.1) rfl rfl dX12_init_100 (by omega) (by rw [a2 0 (by omega)]; simp [cN, zN, Nat.ne_of_lt ho, hc]) h
set_option maxRecDepth 100000 in
set_option maxHeartbeats 4000000 in
theorem c12_9 {n0 d rc rs : Nat} {S : ctT} {Q : z_R} (ho : 0 < S.1.1) (hc : (S.1.2.1 0).1 = 12) (h : Z n0 xX12_init (d + 3) rc rs 123 [(0, .ref (n0 + 0))] [] (cO 0 9 19 cF9 S).1 (cO 0 9 19 cF9 S).2.1 (cO 0 9 19 cF9 S).2.2 Q) : Z n0 xX12_init (d + 3) (rc + 7) (rs + 66) 112 [(0, .ref (n0 + 0))] [] S.1 S.2.1 S.2.2 Q := by
  refine z_aload_n 0 dX12_init_112 rfl ?_
  refine z_new (c := 9) (rc := rc + 6) (rs := rs + 58) dX12_init_113 (by decide) wg_362 wg_363 wg_112 ?_
  refine z_dup dX12_init_116 rfl ?_
  refine z_callIN (Y := xX9_init) (rc := rc) (rs := rs) (mc1 := 6) (ms1 := 58) (d1 := d + 2) (k := S.1.1) (As := []) dX12_init_117 hy_X9_init rfl rfl wn_364 wg_365 (by omega) (Nat.le_of_ble_eq_true rfl) ?_
  refine ct_X9_init (Nat.lt_succ_self _) (by simp [zN]) ?_
  obtain ⟨a1, a2, a3⟩ := ct_old S.1.1 cF9 (cN 9 S) (Nat.lt_succ_self _)
  have h1 : (cN 9 S).1.1 = S.1.1 + 1 := rfl
  rw [h1] at a1 a2 a3
  change Z n0 xX12_init (d + 3) rc rs 120 [(0, .ref (n0 + 0))] [.ref (n0 + S.1.1), .ref (n0 + 0)] (cF9.foldl (ctA S.1.1) (cN 9 S)).1 (cF9.foldl (ctA S.1.1) (cN 9 S)).2.1 (cF9.foldl (ctA S.1.1) (cN 9 S)).2.2 Q
  exact fp_12_81 (some S.1.1) rfl rfl dX12_init_120 (by omega) (by rw [a2 0 (by omega)]; simp [cN, zN, Nat.ne_of_lt ho, hc]) h
set_option maxRecDepth 100000 in
set_option maxHeartbeats 4000000 in
theorem c12_4 {n0 d rc rs : Nat} {S : ctT} {Q : z_R} (ho : 0 < S.1.1) (hc : (S.1.2.1 0).1 = 12) (h : Z n0 xX12_init (d + 3) rc rs 92 [(0, .ref (n0 + 0))] [] (cLy 0 15 S).1 (cLy 0 15 S).2.1 (cLy 0 15 S).2.2 Q) : Z n0 xX12_init (d + 3) (rc + 23) (rs + 383) 81 [(0, .ref (n0 + 0))] [] S.1 S.2.1 S.2.2 Q := by
  refine z_aload_n 0 dX12_init_81 rfl ?_
  refine z_new (c := 4) (rc := rc + 22) (rs := rs + 370) dX12_init_82 (by decide) wg_260 wg_261 wg_110 ?_
  refine z_dup dX12_init_85 rfl ?_
  refine z_callI (Y := xX4_init) (rc := rc) (rs := rs) (mc1 := 22) (ms1 := 370) (d1 := d + 2) (k := S.1.1) (As := []) dX12_init_86 hy_X4_init rfl rfl wg_262 wg_263 (by omega) (Nat.le_of_ble_eq_true rfl) ?_
  refine c4_init (S := cN 4 S) (Nat.lt_succ_self _) (by simp [cN, zN]) ?_
  obtain ⟨a1, a2, a3⟩ := cL_old (o := S.1.1) (S := cN 4 S) (Nat.lt_succ_self _)
  have h1 : (cN 4 S).1.1 = S.1.1 + 1 := rfl
  rw [h1] at a1 a2 a3
  change Z n0 xX12_init (d + 3) rc rs 89 [(0, .ref (n0 + 0))] [.ref (n0 + S.1.1), .ref (n0 + 0)] (cL S.1.1 (cN 4 S)).1 (cL S.1.1 (cN 4 S)).2.1 (cL S.1.1 (cN 4 S)).2.2 Q
  exact fp_12_61 (some S.1.1) rfl rfl dX12_init_89 (by omega) (by rw [a2 0 (by omega)]; simp [cN, zN, Nat.ne_of_lt ho, hc]) h
/-- what the house's constructor leaves -/
def cSa (S : ctT) : ctT := cO 0 2 11 cF2 (cO 0 7 10 cF7 (cF12.foldl (ctA 0) S))
def cSb (S : ctT) : ctT := cO 0 1 14 cF1 (ctA 0 S (12, 38, 20))
def cSc (S : ctT) : ctT := cO 0 10 16 cF10 (cLy 0 15 S)
def cSd (S : ctT) : ctT := cO 0 9 19 cF9 (ctA 0 S (17, 33, 12))
def cSS (S : ctT) : ctT := cSd (cSc (cSb (cSa S)))
def cK (S : ctT) : Prop := 0 < S.1.1 ∧ (S.1.2.1 0).1 = 12
theorem cK_O {c f : Nat} {fs : ctL} {S : ctT} (h : cK S) : cK (cO 0 c f fs S) := by
  obtain ⟨a1, a2, a3⟩ := cO_old (o := 0) (c := c) (f := f) (fs := fs) (S := S)
  exact ⟨Nat.lt_trans h.1 a1, by rw [a2 0 h.1]; exact h.2⟩
theorem cK_L {f : Nat} {S : ctT} (h : cK S) : cK (cLy 0 f S) := by
  obtain ⟨a1, a2, a3⟩ := cLy_old (o := 0) (f := f) (S := S)
  exact ⟨Nat.lt_trans h.1 a1, by rw [a2 0 h.1]; exact h.2⟩
theorem cK_A {f : Nat × Nat × Nat} {S : ctT} (h : cK S) : cK (ctA 0 S f) := ct_keep [f] S h.1 h.2
theorem cK_F {fs : ctL} {S : ctT} (h : cK S) : cK (fs.foldl (ctA 0) S) := ct_keep fs S h.1 h.2
set_option maxRecDepth 100000 in
set_option maxHeartbeats 4000000 in
theorem c12_arr {n0 d rc rs : Nat} {S : ctT} {Q : z_R} (hk : cK S) (h : Z n0 xX12_init (d + 3) rc rs 39 [(0, .ref (n0 + 0))] [] (cF12.foldl (ctA 0) S).1 (cF12.foldl (ctA 0) S).2.1 (cF12.foldl (ctA 0) S).2.2 Q) : RM n0 xX12_init (d + 3) (rc + 4) (rs + 124) [.ref (n0 + 0)] S.1 S.2.1 S.2.2 Q := by
  obtain ⟨ho, hc⟩ := hk
  obtain ⟨K, I, L⟩ := S
  refine z_entry (by decide) (Nat.le_of_ble_eq_true rfl) ?_
  change Z n0 xX12_init (d + 3) (rc + 4) (rs + 124) 0 [(0, .ref (n0 + 0))] [] K I L Q
  refine z_aload_n 0 dX12_init_0 rfl ?_
  refine z_objInit dX12_init_1 wg_129 wg_130 wg_131 (by omega) ?_
  refine z_aload_n 0 dX12_init_4 rfl ?_
  refine z_bipush 8 dX12_init_5 (by decide) ?_
  refine z_newaO (t := 20) (N := 8) (rc := rc + 3) (rs := rs + 116) dX12_init_7 (Or.inl ⟨rfl, rfl⟩) wg_171 (by decide) (by decide) (by decide) (fun hf => ?_)
  obtain ⟨ho, hc⟩ := hf _ _ ho hc
  refine fp_12_9 (some _) rfl rfl dX12_init_9 ho hc ?_
  refine z_aload_n 0 dX12_init_12 rfl ?_
  refine z_bipush 88 dX12_init_13 (by decide) ?_
  refine z_newqO (t := 41) (N := 88) (rc := rc + 2) (rs := rs + 28) dX12_init_15 (by unfold z_rt; decide) wg_132 wn_133 (by decide) (by decide) (by decide) (fun hf => ?_)
  obtain ⟨ho, hc⟩ := hf _ _ ho hc
  refine fp_12_15 (some _) rfl rfl dX12_init_18 ho hc ?_
  refine z_aload_n 0 dX12_init_21 rfl ?_
  refine z_bipush 12 dX12_init_22 (by decide) ?_
  refine z_newqO (t := 30) (N := 12) (rc := rc + 1) (rs := rs + 16) dX12_init_24 (by unfold z_rt; decide) wg_134 wn_135 (by decide) (by decide) (by decide) (fun hf => ?_)
  obtain ⟨ho, hc⟩ := hf _ _ ho hc
  refine fp_12_21 (some _) rfl rfl dX12_init_27 ho hc ?_
  refine z_aload_n 0 dX12_init_30 rfl ?_
  refine z_bipush 16 dX12_init_31 (by decide) ?_
  refine z_newqO (t := 35) (N := 16) (rc := rc) (rs := rs) dX12_init_33 (by unfold z_rt; decide) wg_136 wn_137 (by decide) (by decide) (by decide) (fun hf => ?_)
  obtain ⟨ho, hc⟩ := hf _ _ ho hc
  exact fp_12_27 (some _) rfl rfl dX12_init_36 ho hc h
theorem c12_a1 {n0 d rc rs : Nat} {S : ctT} {Q : z_R} (hk : cK S) (h : Z n0 xX12_init (d + 3) rc rs 70 [(0, .ref (n0 + 0))] [] (ctA 0 S (12, 38, 20)).1 (ctA 0 S (12, 38, 20)).2.1 (ctA 0 S (12, 38, 20)).2.2 Q) : Z n0 xX12_init (d + 3) (rc + 1) (rs + 20) 61 [(0, .ref (n0 + 0))] [] S.1 S.2.1 S.2.2 Q := by
  obtain ⟨ho, hc⟩ := hk
  refine z_aload_n 0 dX12_init_61 rfl ?_
  refine z_bipush 20 dX12_init_62 (by decide) ?_
  refine z_newqO (t := 38) (N := 20) (rc := rc) (rs := rs) dX12_init_64 (by unfold z_rt; decide) wg_233 wn_234 (by decide) (by decide) (by decide) (fun hf => ?_)
  obtain ⟨ho, hc⟩ := hf _ _ ho hc
  exact fp_12_47 (some _) rfl rfl dX12_init_67 ho hc h
theorem c12_a2 {n0 d rc rs : Nat} {S : ctT} {Q : z_R} (hk : cK S) (h : Z n0 xX12_init (d + 3) rc rs 112 [(0, .ref (n0 + 0))] [] (ctA 0 S (17, 33, 12)).1 (ctA 0 S (17, 33, 12)).2.1 (ctA 0 S (17, 33, 12)).2.2 Q) : Z n0 xX12_init (d + 3) (rc + 1) (rs + 12) 103 [(0, .ref (n0 + 0))] [] S.1 S.2.1 S.2.2 Q := by
  obtain ⟨ho, hc⟩ := hk
  refine z_aload_n 0 dX12_init_103 rfl ?_
  refine z_bipush 12 dX12_init_104 (by decide) ?_
  refine z_newqO (t := 33) (N := 12) (rc := rc) (rs := rs) dX12_init_106 (by unfold z_rt; decide) wg_360 wn_361 (by decide) (by decide) (by decide) (fun hf => ?_)
  obtain ⟨ho, hc⟩ := hf _ _ ho hc
  exact fp_12_74 (some _) rfl rfl dX12_init_109 ho hc h
set_option maxRecDepth 100000 in
theorem c12_init {n0 d : Nat} {S : ctT} {Q : z_R} (hk : cK S) (h : Q none (cSS S).1 (cSS S).2.1 (cSS S).2.2) : RM n0 xX12_init (d + 3) 58 1443 [.ref (n0 + 0)] S.1 S.2.1 S.2.2 Q := by
  have k1 : cK (cF12.foldl (ctA 0) S) := cK_F hk
  refine c12_arr (rc := 54) (rs := 1319) hk ?_
  unfold cSS cSd cSc cSb cSa at h
  generalize cF12.foldl (ctA 0) S = T1 at *
  refine c12_7 (rc := 51) (rs := 1191) k1.1 k1.2 ?_
  have k2 : cK (cO 0 7 10 cF7 T1) := cK_O k1
  generalize cO 0 7 10 cF7 T1 = T2 at *
  refine c12_2 (rc := 38) (rs := 555) k2.1 k2.2 ?_
  have k3 : cK (cO 0 2 11 cF2 T2) := cK_O k2
  generalize cO 0 2 11 cF2 T2 = T3 at *
  refine c12_a1 (rc := 37) (rs := 535) k3 ?_
  have k4 : cK (ctA 0 T3 (12, 38, 20)) := cK_A k3
  generalize ctA 0 T3 (12, 38, 20) = T4 at *
  refine c12_1 (rc := 34) (rs := 516) k4.1 k4.2 ?_
  have k5 : cK (cO 0 1 14 cF1 T4) := cK_O k4
  generalize cO 0 1 14 cF1 T4 = T5 at *
  refine c12_4 (rc := 11) (rs := 133) k5.1 k5.2 ?_
  have k6 : cK (cLy 0 15 T5) := cK_L k5
  generalize cLy 0 15 T5 = T6 at *
  refine c12_10 (rc := 8) (rs := 78) k6.1 k6.2 ?_
  have k7 : cK (cO 0 10 16 cF10 T6) := cK_O k6
  generalize cO 0 10 16 cF10 T6 = T7 at *
  refine c12_a2 (rc := 7) (rs := 66) k7 ?_
  have k8 : cK (ctA 0 T7 (17, 33, 12)) := cK_A k7
  generalize ctA 0 T7 (17, 33, 12) = T8 at *
  refine c12_9 (rc := 0) (rs := 0) k8.1 k8.2 ?_
  exact z_vret dX12_init_123 rfl h
