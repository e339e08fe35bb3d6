/-! a walk at one fixed G: for the law's own body, which reads its script -/
def ZG (G : z_G) (n0 : Nat) (X : z_X) (d rc rs pc : Nat) (lv : List (Nat × Value)) (st : List Value) (K : z_K) (I : z_I) (L : z_L) (Q : z_R) : Prop :=
  ∀ (p : Program) (l : Launch) (e : Env) (R : Room) (s : State) (m : MethodId) (args : Array Value) (below : List Frame) (meth : Method) (c : Code) (mc ms : Nat) (H : Heap) (locs : List Loc) (cells slots : Nat) (ls : Array Slot),
    z_C n0 X d mc ms G p R s m args meth c → z_H n0 G K I L H → va_S (z_A n0) s.heap H locs → lv_has ls X.2.2.1 lv → cells + rc ≤ mc → slots + rs ≤ ms →
    W p l e R s m args below meth c H locs cells slots (MQ below (z_Q n0 G Q) args s mc ms (z_A n0)) (F0 m pc ls st)
section ZGR
variable {G : z_G} {n0 d rc rs pc : Nat} {X : z_X} {lv lv' : List (Nat × Value)} {st : List Value} {K : z_K} {I : z_I} {L : z_L} {Q : z_R}
theorem yg_iconst {n : Int} (v : Int32) (hd : decode X.2.1 pc = .ok (.iconst n, 1)) (hv : Int32.ofInt n = v) (k : ZG G n0 X d rc rs (pc + 1) lv (.int v :: st) K I L Q) : ZG G n0 X d rc rs pc lv st K I L Q := by
  intro p l e R s m args below meth c mc ms H locs cells slots ls hC hH hS hl hc1 hc2
  exact lv_iconst hC.1 hC.2.1 hd hv (k p l e R s m args below meth c mc ms H locs cells slots ls hC hH hS hl hc1 hc2)
theorem yg_bipush {n : Int} (v : Int32) (hd : decode X.2.1 pc = .ok (.bipush n, 2)) (hv : (Int8.ofInt n).toInt32 = v) (k : ZG G n0 X d rc rs (pc + 2) lv (.int v :: st) K I L Q) : ZG G n0 X d rc rs pc lv st K I L Q := by
  intro p l e R s m args below meth c mc ms H locs cells slots ls hC hH hS hl hc1 hc2
  exact lv_bipush hC.1 hC.2.1 hd hv (k p l e R s m args below meth c mc ms H locs cells slots ls hC hH hS hl hc1 hc2)
theorem yg_iload_n {i : Fin 4} {x : Int32} (j : Nat) (hd : decode X.2.1 pc = .ok (.iload_n i, 1)) (hj : lv[j]? = some ((i : Nat), .int x)) (k : ZG G n0 X d rc rs (pc + 1) lv (.int x :: st) K I L Q) : ZG G n0 X d rc rs pc lv st K I L Q := by
  intro p l e R s m args below meth c mc ms H locs cells slots ls hC hH hS hl hc1 hc2
  exact lv_iload_n hC.1 hC.2.1 hd rfl (lv_at hl j hj) (k p l e R s m args below meth c mc ms H locs cells slots ls hC hH hS hl hc1 hc2)
theorem yg_aload_n {i : Fin 4} {x : Nat} (j : Nat) (hd : decode X.2.1 pc = .ok (.aload_n i, 1)) (hj : lv[j]? = some ((i : Nat), .ref x)) (k : ZG G n0 X d rc rs (pc + 1) lv (.ref x :: st) K I L Q) : ZG G n0 X d rc rs pc lv st K I L Q := by
  intro p l e R s m args below meth c mc ms H locs cells slots ls hC hH hS hl hc1 hc2
  exact lv_aload_n hC.1 hC.2.1 hd rfl (lv_at hl j hj) (k p l e R s m args below meth c mc ms H locs cells slots ls hC hH hS hl hc1 hc2)
theorem yg_iadd {x y : Int32} (hd : decode X.2.1 pc = .ok (.iadd, 1))  (k : ZG G n0 X d rc rs (pc + 1) lv (.int (x + y) :: st) K I L Q) : ZG G n0 X d rc rs pc lv (.int y :: .int x :: st) K I L Q := by
  intro p l e R s m args below meth c mc ms H locs cells slots ls hC hH hS hl hc1 hc2
  exact lv_iadd hC.1 hC.2.1 hd (k p l e R s m args below meth c mc ms H locs cells slots ls hC hH hS hl hc1 hc2)
theorem yg_isub {x y : Int32} (hd : decode X.2.1 pc = .ok (.isub, 1))  (k : ZG G n0 X d rc rs (pc + 1) lv (.int (x - y) :: st) K I L Q) : ZG G n0 X d rc rs pc lv (.int y :: .int x :: st) K I L Q := by
  intro p l e R s m args below meth c mc ms H locs cells slots ls hC hH hS hl hc1 hc2
  exact lv_isub hC.1 hC.2.1 hd (k p l e R s m args below meth c mc ms H locs cells slots ls hC hH hS hl hc1 hc2)
theorem yg_iand {x y : Int32} (hd : decode X.2.1 pc = .ok (.iand, 1))  (k : ZG G n0 X d rc rs (pc + 1) lv (.int (x &&& y) :: st) K I L Q) : ZG G n0 X d rc rs pc lv (.int y :: .int x :: st) K I L Q := by
  intro p l e R s m args below meth c mc ms H locs cells slots ls hC hH hS hl hc1 hc2
  exact lv_iand hC.1 hC.2.1 hd (k p l e R s m args below meth c mc ms H locs cells slots ls hC hH hS hl hc1 hc2)
theorem yg_land {x y : Int64} (hd : decode X.2.1 pc = .ok (.land, 1))  (k : ZG G n0 X d rc rs (pc + 1) lv (.long (x &&& y) :: st) K I L Q) : ZG G n0 X d rc rs pc lv (.long y :: .long x :: st) K I L Q := by
  intro p l e R s m args below meth c mc ms H locs cells slots ls hC hH hS hl hc1 hc2
  exact lv_land hC.1 hC.2.1 hd (k p l e R s m args below meth c mc ms H locs cells slots ls hC hH hS hl hc1 hc2)
theorem yg_lor {x y : Int64} (hd : decode X.2.1 pc = .ok (.lor, 1))  (k : ZG G n0 X d rc rs (pc + 1) lv (.long (x ||| y) :: st) K I L Q) : ZG G n0 X d rc rs pc lv (.long y :: .long x :: st) K I L Q := by
  intro p l e R s m args below meth c mc ms H locs cells slots ls hC hH hS hl hc1 hc2
  exact lv_lor hC.1 hC.2.1 hd (k p l e R s m args below meth c mc ms H locs cells slots ls hC hH hS hl hc1 hc2)
theorem yg_lshl {x : Int64} {y : Int32} (hd : decode X.2.1 pc = .ok (.lshl, 1))  (k : ZG G n0 X d rc rs (pc + 1) lv (.long (x <<< (y.toInt64 &&& 63)) :: st) K I L Q) : ZG G n0 X d rc rs pc lv (.int y :: .long x :: st) K I L Q := by
  intro p l e R s m args below meth c mc ms H locs cells slots ls hC hH hS hl hc1 hc2
  exact lv_lshl hC.1 hC.2.1 hd rfl (k p l e R s m args below meth c mc ms H locs cells slots ls hC hH hS hl hc1 hc2)
theorem yg_i2l {x : Int32} (hd : decode X.2.1 pc = .ok (.i2l, 1))  (k : ZG G n0 X d rc rs (pc + 1) lv (.long x.toInt64 :: st) K I L Q) : ZG G n0 X d rc rs pc lv (.int x :: st) K I L Q := by
  intro p l e R s m args below meth c mc ms H locs cells slots ls hC hH hS hl hc1 hc2
  exact lv_i2l hC.1 hC.2.1 hd rfl (k p l e R s m args below meth c mc ms H locs cells slots ls hC hH hS hl hc1 hc2)
theorem yg_lcmp {x y : Int64} (hd : decode X.2.1 pc = .ok (.lcmp, 1))  (k : ZG G n0 X d rc rs (pc + 1) lv (.int (lg_cmp x y) :: st) K I L Q) : ZG G n0 X d rc rs pc lv (.long y :: .long x :: st) K I L Q := by
  intro p l e R s m args below meth c mc ms H locs cells slots ls hC hH hS hl hc1 hc2
  exact W.lcmp hC.1 hC.2.1 hd (k p l e R s m args below meth c mc ms H locs cells slots ls hC hH hS hl hc1 hc2)
theorem yg_dup {v : Value} (hd : decode X.2.1 pc = .ok (.dup, 1)) (hv : v.category = 1) (k : ZG G n0 X d rc rs (pc + 1) lv (v :: v :: st) K I L Q) : ZG G n0 X d rc rs pc lv (v :: st) K I L Q := by
  intro p l e R s m args below meth c mc ms H locs cells slots ls hC hH hS hl hc1 hc2
  exact lv_dup hC.1 hC.2.1 hd hv (k p l e R s m args below meth c mc ms H locs cells slots ls hC hH hS hl hc1 hc2)
theorem yg_istore_n {i : Fin 4} {x : Int32} (ks : List Nat) (lv' : List (Nat × Value)) (hd : decode X.2.1 pc = .ok (.istore_n i, 1)) (hn : (i : Nat) < X.2.2.1) (hl1 : lv_pick (((i : Nat), .int x) :: lv.filter (fun q => !(q.1 == (i : Nat)) && !(q.1 + 1 == (i : Nat) && q.2.category == 2))) ks = lv') (k : ZG G n0 X d rc rs (pc + 1) lv' st K I L Q) : ZG G n0 X d rc rs pc lv (.int x :: st) K I L Q := by
  intro p l e R s m args below meth c mc ms H locs cells slots ls hC hH hS hl hc1 hc2
  exact lv_istore_n hC.1 hC.2.1 hd rfl hl hn rfl (fun ls hl => k p l e R s m args below meth c mc ms H locs cells slots ls hC hH hS (lv_sub hl ks hl1) hc1 hc2)
theorem yg_astore_n {i : Fin 4} {x : Nat} (ks : List Nat) (lv' : List (Nat × Value)) (hd : decode X.2.1 pc = .ok (.astore_n i, 1)) (hn : (i : Nat) < X.2.2.1) (hl1 : lv_pick (((i : Nat), .ref x) :: lv.filter (fun q => !(q.1 == (i : Nat)) && !(q.1 + 1 == (i : Nat) && q.2.category == 2))) ks = lv') (k : ZG G n0 X d rc rs (pc + 1) lv' st K I L Q) : ZG G n0 X d rc rs pc lv (.ref x :: st) K I L Q := by
  intro p l e R s m args below meth c mc ms H locs cells slots ls hC hH hS hl hc1 hc2
  exact lv_astore_n hC.1 hC.2.1 hd rfl hl hn rfl (fun ls hl => k p l e R s m args below meth c mc ms H locs cells slots ls hC hH hS (lv_sub hl ks hl1) hc1 hc2)
theorem yg_iinc {i j : Nat} {n : Int} {x : Int32} (v : Int32) (ks : List Nat) (lv' : List (Nat × Value)) (hd : decode X.2.1 pc = .ok (.iinc i n, 3)) (hj : lv[j]? = some (i, .int x)) (hv : x + Int32.ofInt n = v) (hn : i < X.2.2.1) (hl1 : lv_pick ((i, .int v) :: lv.filter (fun q => !(q.1 == i) && !(q.1 + 1 == i && q.2.category == 2))) ks = lv') (k : ZG G n0 X d rc rs (pc + 3) lv' st K I L Q) : ZG G n0 X d rc rs pc lv st K I L Q := by
  intro p l e R s m args below meth c mc ms H locs cells slots ls hC hH hS hl hc1 hc2
  exact lv_iinc hC.1 hC.2.1 hd hl hj hv hn rfl (fun ls hl => k p l e R s m args below meth c mc ms H locs cells slots ls hC hH hS (lv_sub hl ks hl1) hc1 hc2)
theorem yg_goto {off : Int} (tgt : Nat) (hd : decode X.2.1 pc = .ok (.goto off, 3)) (ht : (pc : Int) + off = (tgt : Int)) (k : ZG G n0 X d rc rs tgt lv st K I L Q) : ZG G n0 X d rc rs pc lv st K I L Q := by
  intro p l e R s m args below meth c mc ms H locs cells slots ls hC hH hS hl hc1 hc2
  exact lv_goto hC.1 hC.2.1 hd ht (k p l e R s m args below meth c mc ms H locs cells slots ls hC hH hS hl hc1 hc2)
theorem yg_icmp_eq {x y : Int32} {off : Int} (tgt : Nat) (hd : decode X.2.1 pc = .ok (.if_icmp .eq off, 3)) (ht : (pc : Int) + off = (tgt : Int)) (kt : x = y → ZG G n0 X d rc rs tgt lv st K I L Q) (kf : ¬ (x = y) → ZG G n0 X d rc rs (pc + 3) lv st K I L Q) : ZG G n0 X d rc rs pc lv (.int y :: .int x :: st) K I L Q := by
  intro p l e R s m args below meth c mc ms H locs cells slots ls hC hH hS hl hc1 hc2
  exact lv_icmp_eq hC.1 hC.2.1 hd ht (fun q => kt (by simpa using q) p l e R s m args below meth c mc ms H locs cells slots ls hC hH hS hl hc1 hc2) (fun q => kf (by simpa using q) p l e R s m args below meth c mc ms H locs cells slots ls hC hH hS hl hc1 hc2)
theorem yg_icmp_gt {x y : Int32} {off : Int} (tgt : Nat) (hd : decode X.2.1 pc = .ok (.if_icmp .gt off, 3)) (ht : (pc : Int) + off = (tgt : Int)) (kt : y < x → ZG G n0 X d rc rs tgt lv st K I L Q) (kf : ¬ (y < x) → ZG G n0 X d rc rs (pc + 3) lv st K I L Q) : ZG G n0 X d rc rs pc lv (.int y :: .int x :: st) K I L Q := by
  intro p l e R s m args below meth c mc ms H locs cells slots ls hC hH hS hl hc1 hc2
  exact lv_icmp_gt hC.1 hC.2.1 hd ht (fun q => kt (by simpa using q) p l e R s m args below meth c mc ms H locs cells slots ls hC hH hS hl hc1 hc2) (fun q => kf (by simpa using q) p l e R s m args below meth c mc ms H locs cells slots ls hC hH hS hl hc1 hc2)
theorem yg_if_eq {x : Int32} {off : Int} (tgt : Nat) (hd : decode X.2.1 pc = .ok (.ifCond .eq off, 3)) (ht : (pc : Int) + off = (tgt : Int)) (kt : x = 0 → ZG G n0 X d rc rs tgt lv st K I L Q) (kf : ¬ (x = 0) → ZG G n0 X d rc rs (pc + 3) lv st K I L Q) : ZG G n0 X d rc rs pc lv (.int x :: st) K I L Q := by
  intro p l e R s m args below meth c mc ms H locs cells slots ls hC hH hS hl hc1 hc2
  exact lv_if_eq hC.1 hC.2.1 hd ht (fun q => kt (by simpa using q) p l e R s m args below meth c mc ms H locs cells slots ls hC hH hS hl hc1 hc2) (fun q => kf (by simpa using q) p l e R s m args below meth c mc ms H locs cells slots ls hC hH hS hl hc1 hc2)
theorem yg_ldc2_w {idx : Nat} (v : Int64) (hd : decode X.2.1 pc = .ok (.ldc2_w idx, 3)) (hw : Cond.constantLong X.1.cls idx v ∈ lw_good) (k : ZG G n0 X d rc rs (pc + 3) lv (.long v :: st) K I L Q) : ZG G n0 X d rc rs pc lv st K I L Q := by
  intro p l e R s m args below meth c mc ms H locs cells slots ls hC hH hS hl hc1 hc2
  exact lv_ldc2 hC.hx hC.hb hC.hown (hC.hw hw) hd (k p l e R s m args below meth c mc ms H locs cells slots ls hC hH hS hl hc1 hc2)
theorem yg_tabIn {dflt lo hi : Int} {offs : Array Int} {len : Nat} {x : Int32} {off : Int} (tgt : Nat) (hd : decode X.2.1 pc = .ok (.tableswitch dflt lo hi offs, len)) (h1 : ¬ x.toInt < lo) (h2 : ¬ hi < x.toInt) (ho : offs[(x.toInt - lo).toNat]? = some off) (ht : (pc : Int) + off = (tgt : Int)) (k : ZG G n0 X d rc rs tgt lv st K I L Q) : ZG G n0 X d rc rs pc lv (.int x :: st) K I L Q := by
  intro p l e R s m args below meth c mc ms H locs cells slots ls hC hH hS hl hc1 hc2
  exact lv_tableIn hC.hx hC.hb hd h1 h2 ho ht (k p l e R s m args below meth c mc ms H locs cells slots ls hC hH hS hl hc1 hc2)
theorem yg_tabOut {dflt lo hi : Int} {offs : Array Int} {len : Nat} {x : Int32} (tgt : Nat) (hd : decode X.2.1 pc = .ok (.tableswitch dflt lo hi offs, len)) (h1 : x.toInt < lo ∨ hi < x.toInt) (ht : (pc : Int) + dflt = (tgt : Int)) (k : ZG G n0 X d rc rs tgt lv st K I L Q) : ZG G n0 X d rc rs pc lv (.int x :: st) K I L Q := by
  intro p l e R s m args below meth c mc ms H locs cells slots ls hC hH hS hl hc1 hc2
  exact lv_tableOut hC.hx hC.hb hd h1 ht (k p l e R s m args below meth c mc ms H locs cells slots ls hC hH hS hl hc1 hc2)
theorem yg_new {idx c : Nat} (hd : decode X.2.1 pc = .ok (.new idx, 3)) (hc14 : c < 14) (hw1 : Cond.classLink X.1.cls idx (z_Rn c) ∈ lw_good) (hw2 : Cond.instantiable (z_Rn c) (z_N c) ∈ lw_good) (hw3 : Cond.initialized (z_Rn c) ∈ lw_good)
    (kk : ZG G n0 X d rc rs (pc + 3) lv (.ref (n0 + K.1) :: st) (zN K c 0) (zI0 I K.1) (zL0 L K.1) Q) : ZG G n0 X d (rc + 1) (rs + z_N c) pc lv st K I L Q := by
  intro p l e R s m args below meth c' mc ms H locs cells slots ls hC hH hS hl hc1 hc2
  have hKn := hC.hK.1 c _ (z_cl hc14)
  have hR := hC.hR
  refine W.newcK hC.hx hC.hb hC.hown (hC.hw hw1) (hC.hw hw2) (hC.hw hw3) rfl hd (by rw [hR]; show cells + 1 ≤ mc; omega) (by rw [hR]; show slots + z_N c ≤ ms; omega) hKn.2.1 hH.1 fun H1 kC hkC e1 z1 o1 => ?_
  have z2 : H1.size = H.size + 1 := by rw [z1, hH.1]
  have o2 : ∀ q : Nat, q < H.size → H1[q]? = H[q]? := fun q hq => o1 q (by rw [← hH.1]; exact hq)
  refine kk p l e R s m args below meth c' mc ms H1 locs (cells + 1) (slots + z_N c) ls hC (z_H_push hH rfl (fun j hj => z_E_congr (by simp [zN, Nat.ne_of_lt hj]) (by simp [zN, Nat.ne_of_lt hj]) (by simp [zI0, Nat.ne_of_lt hj]) (by simp [zL0, Nat.ne_of_lt hj])) z2 o2 ?_) ⟨Nat.le_trans hS.1 (by omega), fun x g1 g2 => (o2 x (Nat.lt_of_lt_of_le g1 hS.1)).trans (hS.2.1 x g1 g2), hS.2.2⟩ hl (by omega) (by omega)
  rw [z_E_obj (c := c) (by simp [zN]) hc14]
  refine ⟨_, z_cl hc14, t_OB.to (u_born (z_ty c) hC.hts (hC.hlay hc14) hKn hkC e1 (z_tyok hc14)) (fun i hi => ?_)⟩
  rw [z_fs_V hi]
  obtain ⟨f1, f2⟩ := z_flt hc14 i hi
  generalize z_ty c i = ty at f1 f2
  cases ty <;> first | exact absurd rfl f1 | exact absurd rfl f2 | simp [z_fv, defaultValue, zI0, zL0, zN, zr, va_rf]
theorem yg_zret {v : Int32} (hd : decode X.2.1 pc = .ok (.ireturn, 1)) (hr : X.2.2.2 = some .boolean) (hn : narrow .boolean (.int v) = .int v) (hQ : Q (some (.int v)) K I L) : ZG G n0 X d rc rs pc lv [.int v] K I L Q := by
  intro p l e R s m args below meth c' mc ms H locs cells slots ls hC hH hS hl hc1 hc2
  refine W.widen (k := mc) (n := ms) (by omega) (by omega) ?_
  exact W.zret hC.hx hC.hb (hC.hr.trans hr) hn (fun t ht hW => ⟨⟨_, K, I, L, rfl, hQ, by rw [ht]; exact hH⟩, hS.F ht⟩) hS.2.2 hd hC.hlk
theorem yg_after {p : Program} {l : Launch} {e : Env} {R : Room} {s : State} {m : MethodId} {args : Array Value} {below : List Frame} {meth : Method} {c : Code} {mc ms mc1 ms1 : Nat} {H : Heap} {locs : List Loc} {cells slots : Nat} {ls : Array Slot} {stk rest : List Value} {a : Array Value}
    (hC : z_C n0 X d mc ms G p R s m args meth c) (hS : va_S (z_A n0) s.heap H locs) (hl : lv_has ls X.2.2.1 lv) (hc1 : cells + (rc + mc1) ≤ mc) (hc2 : slots + (rs + ms1) ≤ ms)
    (run : va_Run p l e R s m args below meth c H locs cells slots mc1 ms1 (F0 m pc ls stk) rest (z_Q n0 G (fun v K' I' L' => ZG G n0 X d rc rs (pc + 3) lv (v.toList ++ rest) K' I' L' Q) a) (z_A n0)) :
    W p l e R s m args below meth c H locs cells slots (MQ below (z_Q n0 G Q) args s mc ms (z_A n0)) (F0 m pc ls stk) := by
  intro T hT Xs
  obtain ⟨v, st₀, t, T', L0, h0, X', hL, e1, e2, ⟨⟨v', K', I', L', hv, hQ, hH'⟩, hF⟩, goes⟩ := run T hT Xs
  cases hv
  unfold va_F at hF
  rw [h0] at hF
  have hk := hQ p l e R s m args below meth c mc ms T'.heap (locs ++ L0) (cells + mc1) (slots + ms1) ls hC (by rw [e1]; exact hH') ⟨by rw [e1]; exact Nat.le_trans hS.1 hF.1, fun q g1 g2 => by rw [e1, hF.2 q (Nat.lt_of_lt_of_le g1 hS.1) g2]; exact hS.2.1 q g1 g2, fun q hq => by
    rcases List.mem_append.mp hq with h | h
    · exact hS.2.2 q h
    · exact hL q h⟩ hl (by omega) (by omega)
  obtain ⟨t2, a1, b1⟩ := hk T' rfl X'
  exact ⟨t2, goes t2 a1, b1⟩
theorem yg_callI {Y : z_X} {idx mc1 ms1 d1 k : Nat} {As : List Value} (hd : decode X.2.1 pc = .ok (.invokespecial idx, 3)) (hy : z_hy Y As.length) (hy2 : Y.2.2.2 = none) (hy3 : Y.1.name = "<init>") (hw1 : Cond.methodLink X.1.cls idx Y.1 ∈ lw_good) (hw2 : Cond.instanceMethod Y.1 ∈ lw_good) (hd1 : d1 + 1 ≤ d) (hcat : (st.map fun v => v.category).sum ≤ 8)
    (h : RM n0 Y d1 mc1 ms1 (.ref (n0 + k) :: As) K I L (fun v K' I' L' => ZG G n0 X d rc rs (pc + 3) lv (v.toList ++ st) K' I' L' Q)) : ZG G n0 X d (rc + mc1) (rs + ms1) pc lv (As.reverse ++ .ref (n0 + k) :: st) K I L Q := by
  intro p l e R s m args below meth c' mc ms H locs cells slots ls hC hH hS hl hc1 hc2
  have hR := hC.hR
  obtain ⟨Y1, Y2, Y3, Y4⟩ := Y
  dsimp only at hy2
  subst hy2
  refine yg_after hC hS hl hc1 hc2 (va_runI ⟨hC.hx, hC.hb, hC.hml, hC.hown, hC.hts⟩ (h l G) ⟨callB_of As.length hC.hts (z_goodIn hy.2.2.1) rfl rfl rfl (hC.hw hy.2.2.2) (hC.hw hw1) hy.1 (by rw [hR]; have := hy.2.1; dsimp only at this; exact ⟨hd1, by show 8 + (Y3 + 11) + (60 * d1 + 20) ≤ 60 * d + 20; omega⟩), hy3, hC.hw hw2⟩ (z_pre hC.hK hC.hSt hH hS) rfl rfl hl.1 rfl (lv_room hcat) hd (by rw [hR]; exact ⟨by show cells + mc1 ≤ mc; omega, by show slots + ms1 ≤ ms; omega⟩))
theorem yg_callV {Y : z_X} {idx mc1 ms1 d1 k c : Nat} {As : List Value} (hd : decode X.2.1 pc = .ok (.invokevirtual idx, 3)) (hy : z_hy Y As.length) (hk : k < K.1) (hc : (K.2.1 k).1 = c) (hc14 : c < 14) (hw1 : Cond.methodLink X.1.cls idx Y.1 ∈ lw_good) (hw2 : Cond.instanceMethod Y.1 ∈ lw_good) (hw3 : Cond.selects (z_Rn c) Y.1 Y.1 ∈ lw_good) (hd1 : d1 + 1 ≤ d) (hcat : (st.map fun v => v.category).sum ≤ 8)
    (h : RM n0 Y d1 mc1 ms1 (.ref (n0 + k) :: As) K I L (fun v K' I' L' => ZG G n0 X d rc rs (pc + 3) lv (v.toList ++ st) K' I' L' Q)) : ZG G n0 X d (rc + mc1) (rs + ms1) pc lv (As.reverse ++ .ref (n0 + k) :: st) K I L Q := by
  intro p l e R s m args below meth c' mc ms H locs cells slots ls hC hH hS hl hc1 hc2
  have hR := hC.hR
  have he : (z_ws n0 G K I L)[k]? = some (n0 + k, .inr (c, z_fs n0 K I L c k)) := (z_ws_get hk).trans (by rw [z_E_obj hc hc14])
  refine yg_after hC hS hl hc1 hc2 (va_runV (C := z_Rn c) ⟨hC.hx, hC.hb, hC.hml, hC.hown, hC.hts⟩ (h l G) ⟨callB_of As.length hC.hts (z_goodIn hy.2.2.1) rfl rfl rfl (hC.hw hy.2.2.2) (hC.hw hw1) hy.1 (by rw [hR]; have := hy.2.1; exact ⟨hd1, by show 8 + (Y.2.2.1 + 11) + (60 * d1 + 20) ≤ 60 * d + 20; omega⟩), hC.hw hw2, hC.hw hw3⟩ ⟨z_W_blind, va_recv hC.hK hH.2 (z_cl hc14) he, (z_pre hC.hK hC.hSt hH hS).2⟩ rfl rfl hl.1 rfl (lv_room hcat) hd (by rw [hR]; exact ⟨by show cells + mc1 ≤ mc; omega, by show slots + ms1 ≤ ms; omega⟩))
theorem yg_sld {b Lx : Nat} {xs : Nat → Int32} {i : Int32} (hG : G.2.2.2 3 = (b, Lx, xs)) (hd : decode X.2.1 pc = .ok (.iaload, 1)) (hin : vp_in i Lx) (kk : ZG G n0 X d rc rs (pc + 1) lv (.int (xs i.toNatClampNeg) :: st) K I L Q) : ZG G n0 X d rc rs pc lv (.int i :: .ref b :: st) K I L Q := by
  intro p l e R s m args below meth c mc ms H locs cells slots ls hC hH hS hl hc1 hc2
  obtain ⟨hX, hlt⟩ := hC.hSt.2.1 3 (by omega)
  rw [hG] at hX hlt
  exact va_sld hC.hx hC.hb hX (Nat.lt_of_lt_of_le hlt hC.hSt.1) (fun z => Nat.not_lt.mpr z hlt) hS hin hd (kk p l e R s m args below meth c mc ms H locs cells slots ls hC hH hS hl hc1 hc2)
theorem yg_slen {b Lx : Nat} {xs : Nat → Int32} (hG : G.2.2.2 3 = (b, Lx, xs)) (hd : decode X.2.1 pc = .ok (.arraylength, 1)) (kk : ZG G n0 X d rc rs (pc + 1) lv (.int (Int32.ofNat Lx) :: st) K I L Q) : ZG G n0 X d rc rs pc lv (.ref b :: st) K I L Q := by
  intro p l e R s m args below meth c mc ms H locs cells slots ls hC hH hS hl hc1 hc2
  obtain ⟨hX, hlt⟩ := hC.hSt.2.1 3 (by omega)
  rw [hG] at hX hlt
  exact va_slen hC.hx hC.hb hX (Nat.lt_of_lt_of_le hlt hC.hSt.1) (fun z => Nat.not_lt.mpr z hlt) hS hd (kk p l e R s m args below meth c mc ms H locs cells slots ls hC hH hS hl hc1 hc2)
theorem yg_callV0 {Y : z_X} {idx d1 k c : Nat} {As : List Value} (hd : decode X.2.1 pc = .ok (.invokevirtual idx, 3)) (hy : z_hy Y As.length) (hk : k < K.1) (hc : (K.2.1 k).1 = c) (hc14 : c < 14) (hw1 : Cond.methodLink X.1.cls idx Y.1 ∈ lw_good) (hw2 : Cond.instanceMethod Y.1 ∈ lw_good) (hw3 : Cond.selects (z_Rn c) Y.1 Y.1 ∈ lw_good) (hd1 : d1 + 1 ≤ d) (hcat : (st.map fun v => v.category).sum ≤ 8)
    (h : RM0 n0 Y d1 (.ref (n0 + k) :: As) K I L (fun v I' L' => ZG G n0 X d rc rs (pc + 3) lv (v.toList ++ st) K I' L' Q)) : ZG G n0 X d rc rs pc lv (As.reverse ++ .ref (n0 + k) :: st) K I L Q :=
  yg_callV (mc1 := 0) (ms1 := 0) hd hy hk hc hc14 hw1 hw2 hw3 hd1 hcat (RM0.to h (fun _ _ _ h => h))
theorem ZG.less {rc' rs' : Nat} (h1 : rc' ≤ rc) (h2 : rs' ≤ rs) (h : ZG G n0 X d rc' rs' pc lv st K I L Q) : ZG G n0 X d rc rs pc lv st K I L Q := by
  intro p l e R s m args below meth c mc ms H locs cells slots ls hC hH hS hl hc1 hc2
  exact h p l e R s m args below meth c mc ms H locs cells slots ls hC hH hS hl (by omega) (by omega)
end ZGR
