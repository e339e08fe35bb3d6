/-! a walk of the law's body where the reference's object is known for one of its class -/
def Pers (H H' : Heap) : Prop := ∀ (a : Nat) (c : Cell), H[a]? = some c → ∃ c' : Cell, H'[a]? = some c' ∧ c'.cls = c.cls ∧ c'.vm = c.vm
theorem Met_pers {l : Launch} {y : MethodName} {ws : List Cond} {rm : Room} {Pc : Array Value → State → Prop} {Qc : Array Value → State → Outcome → State → Prop} {mc ms : Nat} {free : Addr → Prop} (h : Met l y ws rm Pc Qc mc ms free) : Met l y ws rm Pc (fun a st o t => Qc a st o t ∧ Pers st.heap t.heap) mc ms free := by
  intro p e g1 g2 g3 s m args below g4 g5 g6 g7
  obtain ⟨n, o, f1, f2, f3, f4, L, fe, f5⟩ := h p e g1 g2 g3 s m args below g4 g5 g6 g7
  refine ⟨n, o, f1, f2, f3, ⟨f4, fun a c hc => ?_⟩, L, fe, f5⟩
  obtain ⟨c', e1, e2, _⟩ := fe.2.2.2.2.2.2.2 a c hc
  exact ⟨c', e1, by rw [e2], by rw [e2]⟩
def rcv (n0 : Nat) (s : State) (H : Heap) : Prop := ∃ cell : Cell, H[n0 + 59]? = some cell ∧ cell.vm.isStatics = false ∧ s.vm.findClass RX13 = some cell.cls
theorem rcv_pers {n0 : Nat} {s : State} {H H' : Heap} (h : rcv n0 s H) (hp : Pers H H') : rcv n0 s H' := by
  obtain ⟨c, h1, h2, h3⟩ := h
  obtain ⟨c', e1, e2, e3⟩ := hp _ c h1
  exact ⟨c', e1, by rw [e3]; exact h2, by rw [e2]; exact h3⟩
def ZH (G : z_G) (n0 : Nat) (X : z_X) (d rc rs pc : Nat) (lv : List (Nat × Value)) (st : List Value) (K : z_K) (I : z_I) (L : z_L) (Q : z_R) : Prop :=
  ∀ (p : Program) (l : Launch) (e : Env) (R : Room) (s : State) (m : MethodId) (args : Array Value) (below : List Frame) (meth : Method) (c : Code) (mc ms : Nat) (H : Heap) (locs : List Loc) (cells slots : Nat) (ls : Array Slot),
    z_C n0 X d mc ms G p R s m args meth c → z_H n0 G K I L H → va_S (z_A n0) s.heap H locs → lv_has ls X.2.2.1 lv → cells + rc ≤ mc → slots + rs ≤ ms → rcv n0 s H →
    W p l e R s m args below meth c H locs cells slots (MQ below (z_Q n0 G Q) args s mc ms (z_A n0)) (F0 m pc ls st)
section ZHR
variable {G : z_G} {n0 d rc rs pc : Nat} {X : z_X} {lv lv' : List (Nat × Value)} {st : List Value} {K : z_K} {I : z_I} {L : z_L} {Q : z_R}
theorem ZH.ofG (h : ZG G n0 X d rc rs pc lv st K I L Q) : ZH G n0 X d rc rs pc lv st K I L Q := fun p l e R s m args below meth c mc ms H locs cells slots ls hC hH hS hl hc1 hc2 _ => h p l e R s m args below meth c mc ms H locs cells slots ls hC hH hS hl hc1 hc2
theorem ZG.ofH (hk : 59 < K.1) (hc : (K.2.1 59).1 = 13) (h : ZH G n0 X d rc rs pc lv st K I L Q) : ZG G n0 X d rc rs pc lv st K I L Q := by
  intro p l e R s m args below meth c mc ms H locs cells slots ls hC hH hS hl hc1 hc2
  have he : (z_ws n0 G K I L)[59]? = some (n0 + 59, .inr (13, z_fs n0 K I L 13 59)) := (z_ws_get hk).trans (by rw [z_E_obj hc (by decide)])
  exact h p l e R s m args below meth c mc ms H locs cells slots ls hC hH hS hl hc1 hc2 (va_recv hC.hK hH.2 (z_cl (by decide)) he)
theorem yh_iconst {n : Int} (v : Int32) (hd : decode X.2.1 pc = .ok (.iconst n, 1)) (hv : Int32.ofInt n = v) (k : ZH G n0 X d rc rs (pc + 1) lv (.int v :: st) K I L Q) : ZH G n0 X d rc rs pc lv st K I L Q := by
  intro p l e R s m args below meth c mc ms H locs cells slots ls hC hH hS hl hc1 hc2 hrv
  exact lv_iconst hC.1 hC.2.1 hd hv (k p l e R s m args below meth c mc ms H locs cells slots ls hC hH hS hl hc1 hc2 hrv)
theorem yh_bipush {n : Int} (v : Int32) (hd : decode X.2.1 pc = .ok (.bipush n, 2)) (hv : (Int8.ofInt n).toInt32 = v) (k : ZH G n0 X d rc rs (pc + 2) lv (.int v :: st) K I L Q) : ZH G n0 X d rc rs pc lv st K I L Q := by
  intro p l e R s m args below meth c mc ms H locs cells slots ls hC hH hS hl hc1 hc2 hrv
  exact lv_bipush hC.1 hC.2.1 hd hv (k p l e R s m args below meth c mc ms H locs cells slots ls hC hH hS hl hc1 hc2 hrv)
theorem yh_iload_n {i : Fin 4} {x : Int32} (j : Nat) (hd : decode X.2.1 pc = .ok (.iload_n i, 1)) (hj : lv[j]? = some ((i : Nat), .int x)) (k : ZH G n0 X d rc rs (pc + 1) lv (.int x :: st) K I L Q) : ZH G n0 X d rc rs pc lv st K I L Q := by
  intro p l e R s m args below meth c mc ms H locs cells slots ls hC hH hS hl hc1 hc2 hrv
  exact lv_iload_n hC.1 hC.2.1 hd rfl (lv_at hl j hj) (k p l e R s m args below meth c mc ms H locs cells slots ls hC hH hS hl hc1 hc2 hrv)
theorem yh_aload_n {i : Fin 4} {x : Nat} (j : Nat) (hd : decode X.2.1 pc = .ok (.aload_n i, 1)) (hj : lv[j]? = some ((i : Nat), .ref x)) (k : ZH G n0 X d rc rs (pc + 1) lv (.ref x :: st) K I L Q) : ZH G n0 X d rc rs pc lv st K I L Q := by
  intro p l e R s m args below meth c mc ms H locs cells slots ls hC hH hS hl hc1 hc2 hrv
  exact lv_aload_n hC.1 hC.2.1 hd rfl (lv_at hl j hj) (k p l e R s m args below meth c mc ms H locs cells slots ls hC hH hS hl hc1 hc2 hrv)
theorem yh_iadd {x y : Int32} (hd : decode X.2.1 pc = .ok (.iadd, 1))  (k : ZH G n0 X d rc rs (pc + 1) lv (.int (x + y) :: st) K I L Q) : ZH G n0 X d rc rs pc lv (.int y :: .int x :: st) K I L Q := by
  intro p l e R s m args below meth c mc ms H locs cells slots ls hC hH hS hl hc1 hc2 hrv
  exact lv_iadd hC.1 hC.2.1 hd (k p l e R s m args below meth c mc ms H locs cells slots ls hC hH hS hl hc1 hc2 hrv)
theorem yh_isub {x y : Int32} (hd : decode X.2.1 pc = .ok (.isub, 1))  (k : ZH G n0 X d rc rs (pc + 1) lv (.int (x - y) :: st) K I L Q) : ZH G n0 X d rc rs pc lv (.int y :: .int x :: st) K I L Q := by
  intro p l e R s m args below meth c mc ms H locs cells slots ls hC hH hS hl hc1 hc2 hrv
  exact lv_isub hC.1 hC.2.1 hd (k p l e R s m args below meth c mc ms H locs cells slots ls hC hH hS hl hc1 hc2 hrv)
theorem yh_iand {x y : Int32} (hd : decode X.2.1 pc = .ok (.iand, 1))  (k : ZH G n0 X d rc rs (pc + 1) lv (.int (x &&& y) :: st) K I L Q) : ZH G n0 X d rc rs pc lv (.int y :: .int x :: st) K I L Q := by
  intro p l e R s m args below meth c mc ms H locs cells slots ls hC hH hS hl hc1 hc2 hrv
  exact lv_iand hC.1 hC.2.1 hd (k p l e R s m args below meth c mc ms H locs cells slots ls hC hH hS hl hc1 hc2 hrv)
theorem yh_land {x y : Int64} (hd : decode X.2.1 pc = .ok (.land, 1))  (k : ZH G n0 X d rc rs (pc + 1) lv (.long (x &&& y) :: st) K I L Q) : ZH G n0 X d rc rs pc lv (.long y :: .long x :: st) K I L Q := by
  intro p l e R s m args below meth c mc ms H locs cells slots ls hC hH hS hl hc1 hc2 hrv
  exact lv_land hC.1 hC.2.1 hd (k p l e R s m args below meth c mc ms H locs cells slots ls hC hH hS hl hc1 hc2 hrv)
theorem yh_lor {x y : Int64} (hd : decode X.2.1 pc = .ok (.lor, 1))  (k : ZH G n0 X d rc rs (pc + 1) lv (.long (x ||| y) :: st) K I L Q) : ZH G n0 X d rc rs pc lv (.long y :: .long x :: st) K I L Q := by
  intro p l e R s m args below meth c mc ms H locs cells slots ls hC hH hS hl hc1 hc2 hrv
  exact lv_lor hC.1 hC.2.1 hd (k p l e R s m args below meth c mc ms H locs cells slots ls hC hH hS hl hc1 hc2 hrv)
theorem yh_lshl {x : Int64} {y : Int32} (hd : decode X.2.1 pc = .ok (.lshl, 1))  (k : ZH G n0 X d rc rs (pc + 1) lv (.long (x <<< (y.toInt64 &&& 63)) :: st) K I L Q) : ZH G n0 X d rc rs pc lv (.int y :: .long x :: st) K I L Q := by
  intro p l e R s m args below meth c mc ms H locs cells slots ls hC hH hS hl hc1 hc2 hrv
  exact lv_lshl hC.1 hC.2.1 hd rfl (k p l e R s m args below meth c mc ms H locs cells slots ls hC hH hS hl hc1 hc2 hrv)
theorem yh_i2l {x : Int32} (hd : decode X.2.1 pc = .ok (.i2l, 1))  (k : ZH G n0 X d rc rs (pc + 1) lv (.long x.toInt64 :: st) K I L Q) : ZH G n0 X d rc rs pc lv (.int x :: st) K I L Q := by
  intro p l e R s m args below meth c mc ms H locs cells slots ls hC hH hS hl hc1 hc2 hrv
  exact lv_i2l hC.1 hC.2.1 hd rfl (k p l e R s m args below meth c mc ms H locs cells slots ls hC hH hS hl hc1 hc2 hrv)
theorem yh_lcmp {x y : Int64} (hd : decode X.2.1 pc = .ok (.lcmp, 1))  (k : ZH G n0 X d rc rs (pc + 1) lv (.int (lg_cmp x y) :: st) K I L Q) : ZH G n0 X d rc rs pc lv (.long y :: .long x :: st) K I L Q := by
  intro p l e R s m args below meth c mc ms H locs cells slots ls hC hH hS hl hc1 hc2 hrv
  exact W.lcmp hC.1 hC.2.1 hd (k p l e R s m args below meth c mc ms H locs cells slots ls hC hH hS hl hc1 hc2 hrv)
theorem yh_iinc {i j : Nat} {n : Int} {x : Int32} (v : Int32) (ks : List Nat) (lv' : List (Nat × Value)) (hd : decode X.2.1 pc = .ok (.iinc i n, 3)) (hj : lv[j]? = some (i, .int x)) (hv : x + Int32.ofInt n = v) (hn : i < X.2.2.1) (hl1 : lv_pick ((i, .int v) :: lv.filter (fun q => !(q.1 == i) && !(q.1 + 1 == i && q.2.category == 2))) ks = lv') (k : ZH G n0 X d rc rs (pc + 3) lv' st K I L Q) : ZH G n0 X d rc rs pc lv st K I L Q := by
  intro p l e R s m args below meth c mc ms H locs cells slots ls hC hH hS hl hc1 hc2 hrv
  exact lv_iinc hC.1 hC.2.1 hd hl hj hv hn rfl (fun ls hl => k p l e R s m args below meth c mc ms H locs cells slots ls hC hH hS (lv_sub hl ks hl1) hc1 hc2 hrv)
theorem yh_goto {off : Int} (tgt : Nat) (hd : decode X.2.1 pc = .ok (.goto off, 3)) (ht : (pc : Int) + off = (tgt : Int)) (k : ZH G n0 X d rc rs tgt lv st K I L Q) : ZH G n0 X d rc rs pc lv st K I L Q := by
  intro p l e R s m args below meth c mc ms H locs cells slots ls hC hH hS hl hc1 hc2 hrv
  exact lv_goto hC.1 hC.2.1 hd ht (k p l e R s m args below meth c mc ms H locs cells slots ls hC hH hS hl hc1 hc2 hrv)
theorem yh_icmp_eq {x y : Int32} {off : Int} (tgt : Nat) (hd : decode X.2.1 pc = .ok (.if_icmp .eq off, 3)) (ht : (pc : Int) + off = (tgt : Int)) (kt : x = y → ZH G n0 X d rc rs tgt lv st K I L Q) (kf : ¬ (x = y) → ZH G n0 X d rc rs (pc + 3) lv st K I L Q) : ZH G n0 X d rc rs pc lv (.int y :: .int x :: st) K I L Q := by
  intro p l e R s m args below meth c mc ms H locs cells slots ls hC hH hS hl hc1 hc2 hrv
  exact lv_icmp_eq hC.1 hC.2.1 hd ht (fun q => kt (by simpa using q) p l e R s m args below meth c mc ms H locs cells slots ls hC hH hS hl hc1 hc2 hrv) (fun q => kf (by simpa using q) p l e R s m args below meth c mc ms H locs cells slots ls hC hH hS hl hc1 hc2 hrv)
theorem yh_icmp_gt {x y : Int32} {off : Int} (tgt : Nat) (hd : decode X.2.1 pc = .ok (.if_icmp .gt off, 3)) (ht : (pc : Int) + off = (tgt : Int)) (kt : y < x → ZH G n0 X d rc rs tgt lv st K I L Q) (kf : ¬ (y < x) → ZH G n0 X d rc rs (pc + 3) lv st K I L Q) : ZH G n0 X d rc rs pc lv (.int y :: .int x :: st) K I L Q := by
  intro p l e R s m args below meth c mc ms H locs cells slots ls hC hH hS hl hc1 hc2 hrv
  exact lv_icmp_gt hC.1 hC.2.1 hd ht (fun q => kt (by simpa using q) p l e R s m args below meth c mc ms H locs cells slots ls hC hH hS hl hc1 hc2 hrv) (fun q => kf (by simpa using q) p l e R s m args below meth c mc ms H locs cells slots ls hC hH hS hl hc1 hc2 hrv)
theorem yh_if_eq {x : Int32} {off : Int} (tgt : Nat) (hd : decode X.2.1 pc = .ok (.ifCond .eq off, 3)) (ht : (pc : Int) + off = (tgt : Int)) (kt : x = 0 → ZH G n0 X d rc rs tgt lv st K I L Q) (kf : ¬ (x = 0) → ZH G n0 X d rc rs (pc + 3) lv st K I L Q) : ZH G n0 X d rc rs pc lv (.int x :: st) K I L Q := by
  intro p l e R s m args below meth c mc ms H locs cells slots ls hC hH hS hl hc1 hc2 hrv
  exact lv_if_eq hC.1 hC.2.1 hd ht (fun q => kt (by simpa using q) p l e R s m args below meth c mc ms H locs cells slots ls hC hH hS hl hc1 hc2 hrv) (fun q => kf (by simpa using q) p l e R s m args below meth c mc ms H locs cells slots ls hC hH hS hl hc1 hc2 hrv)
theorem yh_ldc2_w {idx : Nat} (v : Int64) (hd : decode X.2.1 pc = .ok (.ldc2_w idx, 3)) (hw : Cond.constantLong X.1.cls idx v ∈ lw_good) (k : ZH G n0 X d rc rs (pc + 3) lv (.long v :: st) K I L Q) : ZH G n0 X d rc rs pc lv st K I L Q := by
  intro p l e R s m args below meth c mc ms H locs cells slots ls hC hH hS hl hc1 hc2 hrv
  exact lv_ldc2 hC.hx hC.hb hC.hown (hC.hw hw) hd (k p l e R s m args below meth c mc ms H locs cells slots ls hC hH hS hl hc1 hc2 hrv)
theorem yh_tabIn {dflt lo hi : Int} {offs : Array Int} {len : Nat} {x : Int32} {off : Int} (tgt : Nat) (hd : decode X.2.1 pc = .ok (.tableswitch dflt lo hi offs, len)) (h1 : ¬ x.toInt < lo) (h2 : ¬ hi < x.toInt) (ho : offs[(x.toInt - lo).toNat]? = some off) (ht : (pc : Int) + off = (tgt : Int)) (k : ZH G n0 X d rc rs tgt lv st K I L Q) : ZH G n0 X d rc rs pc lv (.int x :: st) K I L Q := by
  intro p l e R s m args below meth c mc ms H locs cells slots ls hC hH hS hl hc1 hc2 hrv
  exact lv_tableIn hC.hx hC.hb hd h1 h2 ho ht (k p l e R s m args below meth c mc ms H locs cells slots ls hC hH hS hl hc1 hc2 hrv)
theorem yh_tabOut {dflt lo hi : Int} {offs : Array Int} {len : Nat} {x : Int32} (tgt : Nat) (hd : decode X.2.1 pc = .ok (.tableswitch dflt lo hi offs, len)) (h1 : x.toInt < lo ∨ hi < x.toInt) (ht : (pc : Int) + dflt = (tgt : Int)) (k : ZH G n0 X d rc rs tgt lv st K I L Q) : ZH G n0 X d rc rs pc lv (.int x :: st) K I L Q := by
  intro p l e R s m args below meth c mc ms H locs cells slots ls hC hH hS hl hc1 hc2 hrv
  exact lv_tableOut hC.hx hC.hb hd h1 ht (k p l e R s m args below meth c mc ms H locs cells slots ls hC hH hS hl hc1 hc2 hrv)
theorem yh_zret {v : Int32} (hd : decode X.2.1 pc = .ok (.ireturn, 1)) (hr : X.2.2.2 = some .boolean) (hn : narrow .boolean (.int v) = .int v) (hQ : Q (some (.int v)) K I L) : ZH G n0 X d rc rs pc lv [.int v] K I L Q := by
  intro p l e R s m args below meth c' mc ms H locs cells slots ls hC hH hS hl hc1 hc2 hrv
  refine W.widen (k := mc) (n := ms) (by omega) (by omega) ?_
  exact W.zret hC.hx hC.hb (hC.hr.trans hr) hn (fun t ht hW => ⟨⟨_, K, I, L, rfl, hQ, by rw [ht]; exact hH⟩, hS.F ht⟩) hS.2.2 hd hC.hlk
theorem yh_sld {b Lx : Nat} {xs : Nat → Int32} {i : Int32} (hG : G.2.2.2 3 = (b, Lx, xs)) (hd : decode X.2.1 pc = .ok (.iaload, 1)) (hin : vp_in i Lx) (kk : ZH G n0 X d rc rs (pc + 1) lv (.int (xs i.toNatClampNeg) :: st) K I L Q) : ZH G n0 X d rc rs pc lv (.int i :: .ref b :: st) K I L Q := by
  intro p l e R s m args below meth c mc ms H locs cells slots ls hC hH hS hl hc1 hc2 hrv
  obtain ⟨hX, hlt⟩ := hC.hSt.2.1 3 (by omega)
  rw [hG] at hX hlt
  exact va_sld hC.hx hC.hb hX (Nat.lt_of_lt_of_le hlt hC.hSt.1) (fun z => Nat.not_lt.mpr z hlt) hS hin hd (kk p l e R s m args below meth c mc ms H locs cells slots ls hC hH hS hl hc1 hc2 hrv)
theorem yh_slen {b Lx : Nat} {xs : Nat → Int32} (hG : G.2.2.2 3 = (b, Lx, xs)) (hd : decode X.2.1 pc = .ok (.arraylength, 1)) (kk : ZH G n0 X d rc rs (pc + 1) lv (.int (Int32.ofNat Lx) :: st) K I L Q) : ZH G n0 X d rc rs pc lv (.ref b :: st) K I L Q := by
  intro p l e R s m args below meth c mc ms H locs cells slots ls hC hH hS hl hc1 hc2 hrv
  obtain ⟨hX, hlt⟩ := hC.hSt.2.1 3 (by omega)
  rw [hG] at hX hlt
  exact va_slen hC.hx hC.hb hX (Nat.lt_of_lt_of_le hlt hC.hSt.1) (fun z => Nat.not_lt.mpr z hlt) hS hd (kk p l e R s m args below meth c mc ms H locs cells slots ls hC hH hS hl hc1 hc2 hrv)
theorem yh_after {p : Program} {l : Launch} {e : Env} {R : Room} {s : State} {m : MethodId} {args : Array Value} {below : List Frame} {meth : Method} {c : Code} {mc ms mc1 ms1 : Nat} {H : Heap} {locs : List Loc} {cells slots : Nat} {ls : Array Slot} {stk rest : List Value} {a : Array Value}
    (hC : z_C n0 X d mc ms G p R s m args meth c) (hS : va_S (z_A n0) s.heap H locs) (hl : lv_has ls X.2.2.1 lv) (hc1 : cells + (rc + mc1) ≤ mc) (hc2 : slots + (rs + ms1) ≤ ms) (hr : rcv n0 s H)
    (run : va_Run p l e R s m args below meth c H locs cells slots mc1 ms1 (F0 m pc ls stk) rest ((fun a st o t => z_Q n0 G (fun v K' I' L' => ZH G n0 X d rc rs (pc + 3) lv (v.toList ++ rest) K' I' L' Q) a st o t ∧ Pers st.heap t.heap) a) (z_A n0)) :
    W p l e R s m args below meth c H locs cells slots (MQ below (z_Q n0 G Q) args s mc ms (z_A n0)) (F0 m pc ls stk) := by
  intro T hT Xs
  obtain ⟨v, st₀, t, T', L0, h0, X', hL, e1, e2, ⟨⟨⟨v', K', I', L', hv, hQ, hH'⟩, hF⟩, hP⟩, goes⟩ := run T hT Xs
  cases hv
  unfold va_F at hF
  rw [h0] at hF hP
  have hk := hQ p l e R s m args below meth c mc ms T'.heap (locs ++ L0) (cells + mc1) (slots + ms1) ls hC (by rw [e1]; exact hH') ⟨by rw [e1]; exact Nat.le_trans hS.1 hF.1, fun q g1 g2 => by rw [e1, hF.2 q (Nat.lt_of_lt_of_le g1 hS.1) g2]; exact hS.2.1 q g1 g2, fun q hq => by
    rcases List.mem_append.mp hq with h | h
    · exact hS.2.2 q h
    · exact hL q h⟩ hl (by omega) (by omega) (by rw [e1]; exact rcv_pers hr hP)
  obtain ⟨t2, a1, b1⟩ := hk T' rfl X'
  exact ⟨t2, goes t2 a1, b1⟩
theorem yh_callV {Y : z_X} {idx mc1 ms1 d1 k c : Nat} {As : List Value} (hd : decode X.2.1 pc = .ok (.invokevirtual idx, 3)) (hy : z_hy Y As.length) (hk : k < K.1) (hc : (K.2.1 k).1 = c) (hc14 : c < 14) (hw1 : Cond.methodLink X.1.cls idx Y.1 ∈ lw_good) (hw2 : Cond.instanceMethod Y.1 ∈ lw_good) (hw3 : Cond.selects (z_Rn c) Y.1 Y.1 ∈ lw_good) (hd1 : d1 + 1 ≤ d) (hcat : (st.map fun v => v.category).sum ≤ 8)
    (h : RM n0 Y d1 mc1 ms1 (.ref (n0 + k) :: As) K I L (fun v K' I' L' => ZH G n0 X d rc rs (pc + 3) lv (v.toList ++ st) K' I' L' Q)) : ZH G n0 X d (rc + mc1) (rs + ms1) pc lv (As.reverse ++ .ref (n0 + k) :: st) K I L Q := by
  intro p l e R s m args below meth c' mc ms H locs cells slots ls hC hH hS hl hc1 hc2 hr
  have hR := hC.hR
  have he : (z_ws n0 G K I L)[k]? = some (n0 + k, .inr (c, z_fs n0 K I L c k)) := (z_ws_get hk).trans (by rw [z_E_obj hc hc14])
  exact yh_after hC hS hl hc1 hc2 hr (va_runV (C := z_Rn c) ⟨hC.hx, hC.hb, hC.hml, hC.hown, hC.hts⟩ (Met_pers (h l G)) ⟨callB_of As.length hC.hts (z_goodIn hy.2.2.1) rfl rfl rfl (hC.hw hy.2.2.2) (hC.hw hw1) hy.1 (by rw [hR]; have := hy.2.1; exact ⟨hd1, by show 8 + (Y.2.2.1 + 11) + (60 * d1 + 20) ≤ 60 * d + 20; omega⟩), hC.hw hw2, hC.hw hw3⟩ ⟨z_W_blind, va_recv hC.hK hH.2 (z_cl hc14) he, (z_pre hC.hK hC.hSt hH hS).2⟩ rfl rfl hl.1 rfl (lv_room hcat) hd (by rw [hR]; exact ⟨by show cells + mc1 ≤ mc; omega, by show slots + ms1 ≤ ms; omega⟩))
theorem yh_callM {Y : z_X} {idx d1 : Nat} {As : List Value} (hd : decode X.2.1 pc = .ok (.invokevirtual idx, 3)) (hy : z_hy Y As.length) (hw1 : Cond.methodLink X.1.cls idx Y.1 ∈ lw_good) (hw2 : Cond.instanceMethod Y.1 ∈ lw_good) (hw3 : Cond.selects RX13 Y.1 Y.1 ∈ lw_good) (hd1 : d1 + 1 ≤ d) (hcat : (st.map fun v => v.category).sum ≤ 8)
    (h : RM0 n0 Y d1 (.ref (n0 + 59) :: As) K I L (fun v I' L' => ZH G n0 X d rc rs (pc + 3) lv (v.toList ++ st) K I' L' Q)) : ZH G n0 X d rc rs pc lv (As.reverse ++ .ref (n0 + 59) :: st) K I L Q := by
  intro p l e R s m args below meth c' mc ms H locs cells slots ls hC hH hS hl hc1 hc2 hr
  have hR := hC.hR
  have h' : RM n0 Y d1 0 0 (.ref (n0 + 59) :: As) K I L (fun v K' I' L' => ZH G n0 X d rc rs (pc + 3) lv (v.toList ++ st) K' I' L' Q) := RM0.to h (fun _ _ _ h => h)
  exact yh_after (mc1 := 0) (ms1 := 0) hC hS hl hc1 hc2 hr (va_runV (C := RX13) ⟨hC.hx, hC.hb, hC.hml, hC.hown, hC.hts⟩ (Met_pers (h' l G)) ⟨callB_of As.length hC.hts (z_goodIn hy.2.2.1) rfl rfl rfl (hC.hw hy.2.2.2) (hC.hw hw1) hy.1 (by rw [hR]; have := hy.2.1; exact ⟨hd1, by show 8 + (Y.2.2.1 + 11) + (60 * d1 + 20) ≤ 60 * d + 20; omega⟩), hC.hw hw2, hC.hw hw3⟩ ⟨z_W_blind, hr, (z_pre hC.hK hC.hSt hH hS).2⟩ rfl rfl hl.1 rfl (lv_room hcat) hd (by rw [hR]; exact ⟨by show cells + 0 ≤ mc; omega, by show slots + 0 ≤ ms; omega⟩))
end ZHR
