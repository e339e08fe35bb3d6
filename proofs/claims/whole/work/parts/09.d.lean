/-! the array copy, and the clone of a table of the class -/
section ZD
variable {n0 d rc rs pc : Nat} {X : z_X} {lv lv' : List (Nat × Value)} {st : List Value} {K : z_K} {I : z_I} {L : z_L} {Q : z_R}
def zC (I : z_I) (a0 a1 sp dp n : Nat) : z_I := fun a => if a = a1 then va_cpy (I a0) (I a1) sp dp n else I a
theorem z_nn {z : Int32} (hz : ¬ z < 0) : z.toInt = (z.toNatClampNeg : Int) := by
  have hz0 : (0 : Int) ≤ z.toInt := by
    have := Int32.not_lt.mp hz
    simpa using Int32.le_iff_toInt_le.mp this
  show z.toInt = ((z.toInt.toNat : Nat) : Int)
  omega
set_option maxHeartbeats 4000000 in
theorem z_acopy {idx a0 a1 l0 l1 : Nat} {sp dp n : Int32} (hd : decode X.2.1 pc = .ok (.invokestatic idx, 3)) (hw : Cond.methodLink X.1.cls idx arraycopyName ∈ lw_good) (hw2 : Cond.native arraycopyName ∈ lw_good) (hw3 : Cond.static arraycopyName ∈ lw_good) (hw4 : Cond.initialized "java/lang/System" ∈ lw_good)
    (ha0 : a0 < K.1) (hs0 : K.2.1 a0 = (20, l0)) (ha1 : a1 < K.1) (hs1 : K.2.1 a1 = (20, l1)) (h1 : ¬ sp < 0) (h2 : ¬ dp < 0) (h3 : ¬ n < 0) (h4 : sp.toNatClampNeg + n.toNatClampNeg ≤ l0) (h5 : dp.toNatClampNeg + n.toNatClampNeg ≤ l1) (hd1 : 1 ≤ d)
    (kk : Z n0 X d rc rs (pc + 3) lv [] K (zC I a0 a1 sp.toNatClampNeg dp.toNatClampNeg n.toNatClampNeg) L Q) : Z n0 X d rc rs pc lv [.int n, .int dp, .ref (n0 + a1), .int sp, .ref (n0 + a0)] K I L Q := by
  intro p l e R s m args below meth c G mc ms H locs cells slots ls hC hH hS hl hc1 hc2
  have hR := hC.hR
  have hnf : nativeFrameWords "java/lang/System" "arraycopy" 5 + 11 ≤ 80 := by decide +kernel
  have he0 := hH.2 a0 _ (z_ws_get ha0)
  rw [z_E_int hs0 (Or.inl rfl)] at he0
  have he1 := hH.2 a1 _ (z_ws_get ha1)
  rw [z_E_int hs1 (Or.inl rfl)] at he1
  have hc0 : H[n0 + a0]? = some (vp_cell (G.2.2.1 20) (l0, .inl (I a0))) := he0
  have hc1' : H[n0 + a1]? = some (vp_cell (G.2.2.1 20) (l1, .inl (I a1))) := he1
  intro T hT Xs
  obtain ⟨-, k0, hk0, cm0, hkk0⟩ := (hC.hK.2 0 _ rfl).1 l0 (fun j => .int (I a0 j))
  obtain ⟨-, k1, hk1, cm1, hkk1⟩ := (hC.hK.2 0 _ rfl).1 l1 (fun j => .int (I a1 j))
  obtain ⟨vm', X', step⟩ := Xs.arraycopy hC.hx hC.hown (hC.hw hw) (hC.hw hw2) (hC.hw hw3) (hC.hw hw4) (src := n0 + a0) (dst := n0 + a1) (cs := vp_cell (G.2.2.1 20) (l0, .inl (I a0))) (cd := vp_cell (G.2.2.1 20) (l1, .inl (I a1))) (srcPos := sp) (destPos := dp) (n := n) (by rw [hT]; exact hc0) (by rw [hT]; exact hc1')
    (fun _ h => by cases h) (fun _ h => by cases h) (fun h => by cases h) (fun h => by cases h) hk0 hk1 hkk0 hkk1 (by simp [refKind]) h1 h2 h3
    (by rw [z_nn h1, z_nn h3]; show ¬ _ > ((arrV (G.2.2.1 20) l0 (fun j => .int (I a0 j))).slots.size : Int); rw [arrV_size]; omega)
    (by rw [z_nn h2, z_nn h3]; show ¬ _ > ((arrV (G.2.2.1 20) l1 (fun j => .int (I a1 j))).slots.size : Int); rw [arrV_size]; omega)
    (fun vm₁ _ i hi => by
      have e : (vp_cell (G.2.2.1 20) (l0, .inl (I a0))).slots.getD (sp.toNatClampNeg + i) .null = .int (I a0 (sp.toNatClampNeg + i)) := by
        show (arrV (G.2.2.1 20) l0 (fun j => .int (I a0 j))).slots.getD _ _ = _
        rw [Array.getD_eq_getD_getElem?, arrV_read _ _ (by omega)]
        rfl
      refine ⟨?_, ?_⟩
      · rw [e]; rfl
      · rw [e]; exact trivial)
    (g := F0 m pc ls [.int n, .int dp, .ref (n0 + a1), .int sp, .ref (n0 + a0)]) rfl (by rw [hC.hml]; exact hl.1) (rest := []) rfl (by rw [hC.hb]; exact hd) (by rw [hR]; exact hd1) (by rw [hR]; show 2 * 0 + 0 + _ ≤ 60 * d + 20; omega)
  have e1 : copied (vp_cell (G.2.2.1 20) (l0, .inl (I a0))) (vp_cell (G.2.2.1 20) (l1, .inl (I a1))) sp dp n = vp_cell (G.2.2.1 20) (l1, .inl (va_cpy (I a0) (I a1) sp.toNatClampNeg dp.toNatClampNeg n.toNatClampNeg)) := va_copied (fun z => .int z) _ _ (I a0) (I a1) h4
  rw [e1] at X' step
  have hlt : n0 + a1 < H.size := (Array.getElem?_eq_some_iff.mp hc1').1
  generalize hv : vp_cell (G.2.2.1 20) (l1, .inl (va_cpy (I a0) (I a1) sp.toNatClampNeg dp.toNatClampNeg n.toNatClampNeg)) = nc at X' step
  have hheap : ((T.setVm vm').setCell (n0 + a1) nc).heap = H.setIfInBounds (n0 + a1) nc := by rw [← hT]; rfl
  have oq : ∀ q : Nat, q ≠ n0 + a1 → (H.setIfInBounds (n0 + a1) nc)[q]? = H[q]? := fun q hq => by simp [Array.getElem?_setIfInBounds, Ne.symm hq]
  have hat : (H.setIfInBounds (n0 + a1) nc)[n0 + a1]? = some nc := by simp [Array.getElem?_setIfInBounds, hlt]
  have hz : (H.setIfInBounds (n0 + a1) nc).size = H.size := by simp
  have k1 := fun (lo : List Loc) (hlo : ∀ q ∈ lo, z_A n0 q.base) => kk p l e R s m args below meth c G mc ms (H.setIfInBounds (n0 + a1) nc) (locs ++ lo) cells slots ls hC (z_H_set hH ha1 rfl (fun i hi => z_E_congr rfl rfl (by unfold zC; rw [if_neg hi]) rfl) hz oq (by
    rw [z_E_int hs1 (Or.inl rfl)]
    show (H.setIfInBounds (n0 + a1) nc)[n0 + a1]? = some (vp_cell _ _)
    rw [hat, ← hv]
    unfold zC
    rw [if_pos rfl])) ⟨by rw [hz]; exact hS.1, fun q g1 g2 => by rw [oq q (fun e => g2 (by rw [e]; exact Nat.le_add_right n0 a1))]; exact hS.2.1 q g1 g2, fun q hq => by
      rcases List.mem_append.mp hq with h | h
      · exact hS.2.2 q h
      · exact hlo q h⟩ hl hc1 hc2
  obtain ⟨t, b1, b2⟩ := k1 _ (by
    intro q hq
    simp at hq
    obtain ⟨_, _, -, rfl⟩ := hq
    exact Nat.le_add_right n0 a1) _ hheap X'
  exact ⟨t, step t b1, b2⟩
end ZD
