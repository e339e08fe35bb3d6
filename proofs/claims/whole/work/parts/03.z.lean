/-! A layer over the kit: the cells from n0 on are numbered 0, 1, .. in the order in which they are made; a state is K (how many, what each is, its references), I (its ints), L (its longs). -/
abbrev z_K : Type := Nat × (Nat → Nat × Nat) × (Nat → Nat → Option Nat)
abbrev z_I : Type := Nat → Nat → Int32
abbrev z_L : Type := Nat → Nat → Int64
abbrev z_G : Type := (Nat → ClassId) × (Nat → Nat → Nat) × (Nat → ClassId) × (Nat → Nat × Nat × (Nat → Int32))
abbrev z_X : Type := MethodName × ByteArray × Nat × Option FieldType
abbrev z_R : Type := Option Value → z_K → z_I → z_L → Prop
def zr (n0 : Nat) (o : Option Nat) : Value := va_rf (o.map (fun q => n0 + q))
def z_A (n0 : Nat) : Nat → Prop := fun q => n0 ≤ q
def zI (I : z_I) (k j : Nat) (v : Int32) : z_I := fun a => if a = k then (fun b => if b = j then v else I a b) else I a
def zL (L : z_L) (k j : Nat) (v : Int64) : z_L := fun a => if a = k then (fun b => if b = j then v else L a b) else L a
def zR (K : z_K) (k j : Nat) (v : Option Nat) : z_K := (K.1, K.2.1, fun a => if a = k then (fun b => if b = j then v else K.2.2 a b) else K.2.2 a)
def zN (K : z_K) (t n : Nat) : z_K := (K.1 + 1, (fun a => if a = K.1 then (t, n) else K.2.1 a), fun a => if a = K.1 then (fun _ => none) else K.2.2 a)
def zI0 (I : z_I) (k : Nat) : z_I := fun a => if a = k then (fun _ => 0) else I a
def zL0 (L : z_L) (k : Nat) : z_L := fun a => if a = k then (fun _ => 0) else L a
def z_ty (c : Nat) : Nat → FieldType := match c with
  | 0 => tyX0
  | 1 => tyX1
  | 2 => tyX2
  | 3 => tyX3
  | 4 => tyX4
  | 5 => tyX5
  | 6 => tyX6
  | 7 => tyX7
  | 8 => tyX8
  | 9 => tyX9
  | 10 => tyX10
  | 11 => tyX11
  | 12 => tyX12
  | _ => tyX13
def z_N (c : Nat) : Nat := match c with
  | 0 => 10
  | 1 => 5
  | 2 => 16
  | 3 => 8
  | 4 => 13
  | 5 => 11
  | 6 => 4
  | 7 => 8
  | 8 => 14
  | 9 => 8
  | 10 => 7
  | 11 => 3
  | 12 => 20
  | _ => 129
def z_Rn (c : Nat) : String := match c with
  | 0 => RX0
  | 1 => RX1
  | 2 => RX2
  | 3 => RX3
  | 4 => RX4
  | 5 => RX5
  | 6 => RX6
  | 7 => RX7
  | 8 => RX8
  | 9 => RX9
  | 10 => RX10
  | 11 => RX11
  | 12 => RX12
  | _ => RX13
def z_T (c : Nat) : u_T := match c with
  | 0 => TX0
  | 1 => TX1
  | 2 => TX2
  | 3 => TX3
  | 4 => TX4
  | 5 => TX5
  | 6 => TX6
  | 7 => TX7
  | 8 => TX8
  | 9 => TX9
  | 10 => TX10
  | 11 => TX11
  | 12 => TX12
  | _ => TX13
def z_fv (n0 : Nat) (K : z_K) (I : z_I) (L : z_L) (t : FieldType) (k j : Nat) : Value := match t with
  | .long => .long (L k j)
  | .object _ => zr n0 (K.2.2 k j)
  | .array _ => zr n0 (K.2.2 k j)
  | _ => .int (I k j)
def z_fs (n0 : Nat) (K : z_K) (I : z_I) (L : z_L) (c k : Nat) : List Value := (List.range (z_N c)).map (fun j => z_fv n0 K I L (z_ty c j) k j)
def z_E (n0 : Nat) (G : z_G) (K : z_K) (I : z_I) (L : z_L) (k : Nat) : va_E :=
  if (K.2.1 k).1 < 14 then .inr ((K.2.1 k).1, z_fs n0 K I L (K.2.1 k).1 k)
  else if (K.2.1 k).1 < 22 then .inl (G.2.2.1 (K.2.1 k).1, (K.2.1 k).2, .inl (I k))
  else if (K.2.1 k).1 = 22 then .inl (G.2.2.1 22, (K.2.1 k).2, .inr (.inl (L k)))
  else .inl (G.2.2.1 (K.2.1 k).1, (K.2.1 k).2, .inr (.inr (.inr (.inr (fun j => (K.2.2 k j).map (fun q => n0 + q))))))
def z_ws (n0 : Nat) (G : z_G) (K : z_K) (I : z_I) (L : z_L) : va_W := (List.range K.1).map (fun k => (n0 + k, z_E n0 G K I L k))
/-- the arrays' classes: of ints 20, booleans 21, longs 22, of objects of class c 30 + c -/
def z_tys (G : z_G) : List (ClassId × FieldType) := [(G.2.2.1 20, .int), (G.2.2.1 21, .boolean), (G.2.2.1 22, .long), (G.2.2.1 41, .object RX11), (G.2.2.1 30, .object RX0), (G.2.2.1 35, .object RX5), (G.2.2.1 38, .object RX8), (G.2.2.1 33, .object RX3), (G.2.2.1 36, .object RX6), (G.2.2.1 40, .object RX10)]
def z_ti (t : Nat) : Nat := match t with
  | 20 => 0 | 21 => 1 | 22 => 2 | 41 => 3 | 30 => 4 | 35 => 5 | 38 => 6 | 33 => 7 | 36 => 8 | _ => 9
def z_H (n0 : Nat) (G : z_G) (K : z_K) (I : z_I) (L : z_L) (H : Heap) : Prop := H.size = n0 + K.1 ∧ va_P (G.1, G.2.1) vwCl (z_ws n0 G K I L) H
theorem z_ws_get {n0 : Nat} {G : z_G} {K : z_K} {I : z_I} {L : z_L} {k : Nat} (h : k < K.1) : (z_ws n0 G K I L)[k]? = some (n0 + k, z_E n0 G K I L k) := by
  simp [z_ws, h]
theorem z_ws_len {n0 : Nat} {G : z_G} {K : z_K} {I : z_I} {L : z_L} : (z_ws n0 G K I L).length = K.1 := by simp [z_ws]
theorem z_ws_inv {n0 : Nat} {G : z_G} {K : z_K} {I : z_I} {L : z_L} {k : Nat} {q : Nat × va_E} (h : (z_ws n0 G K I L)[k]? = some q) : k < K.1 ∧ q = (n0 + k, z_E n0 G K I L k) := by
  have hk : k < K.1 := by
    have := (List.getElem?_eq_some_iff.mp h).1
    rwa [z_ws_len] at this
  rw [z_ws_get hk] at h
  exact ⟨hk, (Option.some.inj h).symm⟩
theorem z_ws_D {n0 : Nat} {G : z_G} {K : z_K} {I : z_I} {L : z_L} : va_D (z_A n0) (z_ws n0 G K I L) := by
  refine ⟨fun i j x y hi hj h => ?_, fun k q hk => ?_⟩
  · obtain ⟨h1, rfl⟩ := z_ws_inv hi
    obtain ⟨h2, rfl⟩ := z_ws_inv hj
    simp at h
    exact h
  · obtain ⟨h1, rfl⟩ := z_ws_inv hk
    exact Nat.le_add_right n0 k
/-- a cell changes: the world behind it -/
theorem z_H_set {n0 : Nat} {G : z_G} {K K' : z_K} {I I' : z_I} {L L' : z_L} {H H1 : Heap} {k : Nat} (h : z_H n0 G K I L H) (hk : k < K.1) (hn : K'.1 = K.1) (ho : ∀ j, j ≠ k → z_E n0 G K' I' L' j = z_E n0 G K I L j)
    (hz : H1.size = H.size) (oq : ∀ q : Nat, q ≠ n0 + k → H1[q]? = H[q]?) (he : va_at (G.1, G.2.1) vwCl (n0 + k, z_E n0 G K' I' L' k) H1) : z_H n0 G K' I' L' H1 := by
  refine ⟨by rw [hz, h.1, hn], fun j q hj => ?_⟩
  obtain ⟨h1, rfl⟩ := z_ws_inv hj
  rw [hn] at h1
  by_cases hjk : j = k
  · subst hjk; exact he
  · rw [ho j hjk]
    exact (h.2 j _ (z_ws_get h1)).kept (oq _ (by simp; omega))
theorem z_H_push {n0 : Nat} {G : z_G} {K K' : z_K} {I I' : z_I} {L L' : z_L} {H H1 : Heap} (h : z_H n0 G K I L H) (hn : K'.1 = K.1 + 1) (ho : ∀ j, j < K.1 → z_E n0 G K' I' L' j = z_E n0 G K I L j)
    (hz : H1.size = H.size + 1) (oq : ∀ q : Nat, q < H.size → H1[q]? = H[q]?) (he : va_at (G.1, G.2.1) vwCl (n0 + K.1, z_E n0 G K' I' L' K.1) H1) : z_H n0 G K' I' L' H1 := by
  refine ⟨by rw [hz, h.1, hn]; omega, fun j q hj => ?_⟩
  obtain ⟨h1, rfl⟩ := z_ws_inv hj
  rw [hn] at h1
  by_cases hjk : j = K.1
  · subst hjk; exact he
  · have hlt : j < K.1 := by omega
    rw [ho j hlt]
    exact (h.2 j _ (z_ws_get hlt)).kept (oq _ (by rw [h.1]; simp; omega))
def z_isN (w : Cond) : Bool := match w with
  | .fieldLinkNest _ _ _ _ _ _ => true
  | .methodLinkNest _ _ _ _ => true
  | .castable _ _ => true
  | .arrayOver (.object _) => true
  | _ => false
def lw_good : List Cond := lw_tbl.filter goodWord
def lw_nest : List Cond := lw_tbl.filter z_isN
theorem z_warm {w : Cond} (h : z_isN w = true) {s U : State} (hW : s.WarmedH U.vm) (hZ : va_Nw w s) : va_Nw w U := by
  cases w <;> simp only [z_isN] at h <;> first | exact hZ.warmF hW | exact hZ.warmM hW | exact hZ.warmC hW | (rename_i t; cases t <;> simp only [z_isN] at h <;> first | exact va_AO.moved hW.alike hZ | exact absurd h (by decide)) | exact absurd h (by decide)
theorem z_nsame {w : Cond} (h : z_isN w = true) {u U : State} (hv : u.vm = U.vm) (hZ : va_Nw w u) : va_Nw w U := by
  cases w <;> simp only [z_isN] at h <;> first | exact hZ.same rfl hv | (rename_i t; cases t <;> simp only [z_isN] at h <;> first | exact va_AO.moved (hv ▸ Vm.Alike.refl _) hZ | exact absurd h (by decide)) | exact absurd h (by decide)
/-- what is old: three tables of the class and the script, and where the class's statics are -/
def z_sn (i : Nat) : String := match i with
  | 0 => "CLOTH_AT_FIRST" | 1 => "CLOTH_LEAST" | _ => "CLOTH_MOST"
def z_sf (i j : Nat) : Int32 := match i, j with
  | 0, 0 => 12 | 0, 1 => 10 | 1, 0 => 1 | 1, 1 => 1 | 2, 0 => 24 | 2, 1 => 500 | 2, 2 => 1 | 2, 3 => 12 | 2, 4 => 50 | 2, 5 => 50 | _, _ => 0
def z_St (n0 : Nat) (G : z_G) (U : State) : Prop := n0 ≤ U.heap.size ∧ (∀ i, i < 4 → va_X (G.2.2.2 i).1 (G.2.2.2 i).2.1 (G.2.2.2 i).2.2 U U.heap ∧ (G.2.2.2 i).1 < n0)
  ∧ (∀ i, i < 3 → va_Z RX12 (z_sn i) "[I" (.ref (G.2.2.2 i).1) (z_A n0) U U.heap ∧ va_O "[I" (G.2.2.2 i).1 (z_A n0) U U.heap ∧ (G.2.2.2 i).2.1 = 6 ∧ ∀ j, j < 6 → (G.2.2.2 i).2.2 j = z_sf i j)
  ∧ (∀ w ∈ lw_nest, va_Nw w U)
def z_W (n0 : Nat) (G : z_G) (K : z_K) (I : z_I) (L : z_L) (U : State) : Prop := z_H n0 G K I L U.heap ∧ va_K (G.1, G.2.1) vwCl (z_tys G) U ∧ z_St n0 G U
def z_rm (d mc ms : Nat) : Room := { frames := d, cells := mc, slots := ms, locals := 60 * d + 20 }
def z_cw (X : z_X) : Cond := .code X.1 X.2.1 X.2.2.1 X.2.2.2
def z_Q (n0 : Nat) (G : z_G) (Q : z_R) : Array Value → State → Outcome → State → Prop := fun _ st o t => (∃ v K I L, o = .returned v ∧ Q v K I L ∧ z_H n0 G K I L t.heap) ∧ va_F (z_A n0) st t
/-- a method's contract -/
def RM (n0 : Nat) (X : z_X) (d mc ms : Nat) (As : List Value) (K : z_K) (I : z_I) (L : z_L) (Q : z_R) : Prop :=
  ∀ (l : Launch) (G : z_G), Met l X.1 (z_cw X :: lw_good) (z_rm d mc ms) (va_Pc As (z_W n0 G K I L)) (z_Q n0 G Q) mc ms (z_A n0)
/-- the surroundings of a method's body -/
def z_C (n0 : Nat) (X : z_X) (d mc ms : Nat) (G : z_G) (p : Program) (R : Room) (s : State) (m : MethodId) (args : Array Value) (meth : Method) (c : Code) : Prop :=
  p.tables.exec = Jvm.exec ∧ c.code = X.2.1 ∧ c.maxLocals = X.2.2.1 ∧ meth.sig.returnType = X.2.2.2 ∧ meth.locks = false ∧ s.vm.findClass X.1.cls = some m.cls ∧ (∀ w ∈ z_cw X :: lw_good, w.before args s = true)
  ∧ va_K (G.1, G.2.1) vwCl (z_tys G) s ∧ z_St n0 G s ∧ R = z_rm d mc ms ∧ meth.name = X.1.name
/-- from here on the body comes to its end, with Q -/
def Z (n0 : Nat) (X : z_X) (d rc rs pc : Nat) (lv : List (Nat × Value)) (st : List Value) (K : z_K) (I : z_I) (L : z_L) (Q : z_R) : Prop :=
  ∀ (p : Program) (l : Launch) (e : Env) (R : Room) (s : State) (m : MethodId) (args : Array Value) (below : List Frame) (meth : Method) (c : Code) (G : z_G) (mc ms : Nat) (H : Heap) (locs : List Loc) (cells slots : Nat) (ls : Array Slot),
    z_C n0 X d mc ms G p R s m args meth c → z_H n0 G K I L H → va_S (z_A n0) s.heap H locs → lv_has ls X.2.2.1 lv → cells + rc ≤ mc → slots + rs ≤ ms →
    W p l e R s m args below meth c H locs cells slots (MQ below (z_Q n0 G Q) args s mc ms (z_A n0)) (F0 m pc ls st)
section ZR
variable {n0 d rc rs pc : Nat} {X : z_X} {lv lv' : List (Nat × Value)} {st : List Value} {K : z_K} {I : z_I} {L : z_L} {Q : z_R}
theorem z_iconst {n : Int} (v : Int32) (hd : decode X.2.1 pc = .ok (.iconst n, 1)) (hv : Int32.ofInt n = v) (k : Z n0 X d rc rs (pc + 1) lv (.int v :: st) K I L Q) : Z n0 X d rc rs pc lv st K I L Q := by
  intro p l e R s m args below meth c G mc ms H locs cells slots ls hC hH hS hl hc1 hc2
  exact lv_iconst hC.1 hC.2.1 hd hv (k p l e R s m args below meth c G mc ms H locs cells slots ls hC hH hS hl hc1 hc2)
theorem z_bipush {n : Int} (v : Int32) (hd : decode X.2.1 pc = .ok (.bipush n, 2)) (hv : (Int8.ofInt n).toInt32 = v) (k : Z n0 X d rc rs (pc + 2) lv (.int v :: st) K I L Q) : Z n0 X d rc rs pc lv st K I L Q := by
  intro p l e R s m args below meth c G mc ms H locs cells slots ls hC hH hS hl hc1 hc2
  exact lv_bipush hC.1 hC.2.1 hd hv (k p l e R s m args below meth c G mc ms H locs cells slots ls hC hH hS hl hc1 hc2)
theorem z_sipush {n : Int} (v : Int32) (hd : decode X.2.1 pc = .ok (.sipush n, 3)) (hv : (Int16.ofInt n).toInt32 = v) (k : Z n0 X d rc rs (pc + 3) lv (.int v :: st) K I L Q) : Z n0 X d rc rs pc lv st K I L Q := by
  intro p l e R s m args below meth c G mc ms H locs cells slots ls hC hH hS hl hc1 hc2
  exact lv_sipush hC.1 hC.2.1 hd hv (k p l e R s m args below meth c G mc ms H locs cells slots ls hC hH hS hl hc1 hc2)
theorem z_lconst {n : Fin 2} (v : Int64) (hd : decode X.2.1 pc = .ok (.lconst n, 1)) (hv : Int64.ofNat (n : Nat) = v) (k : Z n0 X d rc rs (pc + 1) lv (.long v :: st) K I L Q) : Z n0 X d rc rs pc lv st K I L Q := by
  intro p l e R s m args below meth c G mc ms H locs cells slots ls hC hH hS hl hc1 hc2
  exact lv_lconst hC.1 hC.2.1 hd hv (k p l e R s m args below meth c G mc ms H locs cells slots ls hC hH hS hl hc1 hc2)
theorem z_null  (hd : decode X.2.1 pc = .ok (.aconst_null, 1))  (k : Z n0 X d rc rs (pc + 1) lv (.null :: st) K I L Q) : Z n0 X d rc rs pc lv st K I L Q := by
  intro p l e R s m args below meth c G mc ms H locs cells slots ls hC hH hS hl hc1 hc2
  exact lv_null hC.1 hC.2.1 hd (k p l e R s m args below meth c G mc ms H locs cells slots ls hC hH hS hl hc1 hc2)
theorem z_iload {i : Nat} {x : Int32} (j : Nat) (hd : decode X.2.1 pc = .ok (.iload i, 2)) (hj : lv[j]? = some (i, .int x)) (k : Z n0 X d rc rs (pc + 2) lv (.int x :: st) K I L Q) : Z n0 X d rc rs pc lv st K I L Q := by
  intro p l e R s m args below meth c G mc ms H locs cells slots ls hC hH hS hl hc1 hc2
  exact lv_iload hC.1 hC.2.1 hd (lv_at hl j hj) (k p l e R s m args below meth c G mc ms H locs cells slots ls hC hH hS hl hc1 hc2)
theorem z_iload_n {i : Fin 4} {x : Int32} (j : Nat) (hd : decode X.2.1 pc = .ok (.iload_n i, 1)) (hj : lv[j]? = some ((i : Nat), .int x)) (k : Z n0 X d rc rs (pc + 1) lv (.int x :: st) K I L Q) : Z n0 X d rc rs pc lv st K I L Q := by
  intro p l e R s m args below meth c G mc ms H locs cells slots ls hC hH hS hl hc1 hc2
  exact lv_iload_n hC.1 hC.2.1 hd rfl (lv_at hl j hj) (k p l e R s m args below meth c G mc ms H locs cells slots ls hC hH hS hl hc1 hc2)
theorem z_lload {i : Nat} {x : Int64} (j : Nat) (hd : decode X.2.1 pc = .ok (.lload i, 2)) (hj : lv[j]? = some (i, .long x)) (k : Z n0 X d rc rs (pc + 2) lv (.long x :: st) K I L Q) : Z n0 X d rc rs pc lv st K I L Q := by
  intro p l e R s m args below meth c G mc ms H locs cells slots ls hC hH hS hl hc1 hc2
  exact lv_lload hC.1 hC.2.1 hd (lv_at hl j hj) (k p l e R s m args below meth c G mc ms H locs cells slots ls hC hH hS hl hc1 hc2)
theorem z_lload_n {i : Fin 4} {x : Int64} (j : Nat) (hd : decode X.2.1 pc = .ok (.lload_n i, 1)) (hj : lv[j]? = some ((i : Nat), .long x)) (k : Z n0 X d rc rs (pc + 1) lv (.long x :: st) K I L Q) : Z n0 X d rc rs pc lv st K I L Q := by
  intro p l e R s m args below meth c G mc ms H locs cells slots ls hC hH hS hl hc1 hc2
  exact lv_lload_n hC.1 hC.2.1 hd rfl (lv_at hl j hj) (k p l e R s m args below meth c G mc ms H locs cells slots ls hC hH hS hl hc1 hc2)
theorem z_aload {i : Nat} {x : Nat} (j : Nat) (hd : decode X.2.1 pc = .ok (.aload i, 2)) (hj : lv[j]? = some (i, .ref x)) (k : Z n0 X d rc rs (pc + 2) lv (.ref x :: st) K I L Q) : Z n0 X d rc rs pc lv st K I L Q := by
  intro p l e R s m args below meth c G mc ms H locs cells slots ls hC hH hS hl hc1 hc2
  exact lv_aload hC.1 hC.2.1 hd (lv_at hl j hj) (k p l e R s m args below meth c G mc ms H locs cells slots ls hC hH hS hl hc1 hc2)
theorem z_aload_n {i : Fin 4} {x : Nat} (j : Nat) (hd : decode X.2.1 pc = .ok (.aload_n i, 1)) (hj : lv[j]? = some ((i : Nat), .ref x)) (k : Z n0 X d rc rs (pc + 1) lv (.ref x :: st) K I L Q) : Z n0 X d rc rs pc lv st K I L Q := by
  intro p l e R s m args below meth c G mc ms H locs cells slots ls hC hH hS hl hc1 hc2
  exact lv_aload_n hC.1 hC.2.1 hd rfl (lv_at hl j hj) (k p l e R s m args below meth c G mc ms H locs cells slots ls hC hH hS hl hc1 hc2)
theorem z_aloadN {i : Nat} (j : Nat) (hd : decode X.2.1 pc = .ok (.aload i, 2)) (hj : lv[j]? = some (i, .null)) (k : Z n0 X d rc rs (pc + 2) lv (.null :: st) K I L Q) : Z n0 X d rc rs pc lv st K I L Q := by
  intro p l e R s m args below meth c G mc ms H locs cells slots ls hC hH hS hl hc1 hc2
  exact lv_aloadN hC.1 hC.2.1 hd (lv_at hl j hj) (k p l e R s m args below meth c G mc ms H locs cells slots ls hC hH hS hl hc1 hc2)
theorem z_aload_nN {i : Fin 4} (j : Nat) (hd : decode X.2.1 pc = .ok (.aload_n i, 1)) (hj : lv[j]? = some ((i : Nat), .null)) (k : Z n0 X d rc rs (pc + 1) lv (.null :: st) K I L Q) : Z n0 X d rc rs pc lv st K I L Q := by
  intro p l e R s m args below meth c G mc ms H locs cells slots ls hC hH hS hl hc1 hc2
  exact lv_aload_nN hC.1 hC.2.1 hd rfl (lv_at hl j hj) (k p l e R s m args below meth c G mc ms H locs cells slots ls hC hH hS hl hc1 hc2)
theorem z_aloadO {i : Nat} {x : Option Nat} (j : Nat) (hd : decode X.2.1 pc = .ok (.aload i, 2)) (hj : lv[j]? = some (i, zr n0 x)) (k : Z n0 X d rc rs (pc + 2) lv (zr n0 x :: st) K I L Q) : Z n0 X d rc rs pc lv st K I L Q := by
  cases x with
  | none => exact z_aloadN j hd hj k
  | some q => exact z_aload j hd hj k
theorem z_aload_nO {i : Fin 4} {x : Option Nat} (j : Nat) (hd : decode X.2.1 pc = .ok (.aload_n i, 1)) (hj : lv[j]? = some ((i : Nat), zr n0 x)) (k : Z n0 X d rc rs (pc + 1) lv (zr n0 x :: st) K I L Q) : Z n0 X d rc rs pc lv st K I L Q := by
  cases x with
  | none => exact z_aload_nN j hd hj k
  | some q => exact z_aload_n j hd hj k
theorem z_iadd {x y : Int32} (hd : decode X.2.1 pc = .ok (.iadd, 1))  (k : Z n0 X d rc rs (pc + 1) lv (.int (x + y) :: st) K I L Q) : Z n0 X d rc rs pc lv (.int y :: .int x :: st) K I L Q := by
  intro p l e R s m args below meth c G mc ms H locs cells slots ls hC hH hS hl hc1 hc2
  exact lv_iadd hC.1 hC.2.1 hd (k p l e R s m args below meth c G mc ms H locs cells slots ls hC hH hS hl hc1 hc2)
theorem z_isub {x y : Int32} (hd : decode X.2.1 pc = .ok (.isub, 1))  (k : Z n0 X d rc rs (pc + 1) lv (.int (x - y) :: st) K I L Q) : Z n0 X d rc rs pc lv (.int y :: .int x :: st) K I L Q := by
  intro p l e R s m args below meth c G mc ms H locs cells slots ls hC hH hS hl hc1 hc2
  exact lv_isub hC.1 hC.2.1 hd (k p l e R s m args below meth c G mc ms H locs cells slots ls hC hH hS hl hc1 hc2)
theorem z_imul {x y : Int32} (hd : decode X.2.1 pc = .ok (.imul, 1))  (k : Z n0 X d rc rs (pc + 1) lv (.int (x * y) :: st) K I L Q) : Z n0 X d rc rs pc lv (.int y :: .int x :: st) K I L Q := by
  intro p l e R s m args below meth c G mc ms H locs cells slots ls hC hH hS hl hc1 hc2
  exact lv_imul hC.1 hC.2.1 hd (k p l e R s m args below meth c G mc ms H locs cells slots ls hC hH hS hl hc1 hc2)
theorem z_iand {x y : Int32} (hd : decode X.2.1 pc = .ok (.iand, 1))  (k : Z n0 X d rc rs (pc + 1) lv (.int (x &&& y) :: st) K I L Q) : Z n0 X d rc rs pc lv (.int y :: .int x :: st) K I L Q := by
  intro p l e R s m args below meth c G mc ms H locs cells slots ls hC hH hS hl hc1 hc2
  exact lv_iand hC.1 hC.2.1 hd (k p l e R s m args below meth c G mc ms H locs cells slots ls hC hH hS hl hc1 hc2)
theorem z_ior {x y : Int32} (hd : decode X.2.1 pc = .ok (.ior, 1))  (k : Z n0 X d rc rs (pc + 1) lv (.int (x ||| y) :: st) K I L Q) : Z n0 X d rc rs pc lv (.int y :: .int x :: st) K I L Q := by
  intro p l e R s m args below meth c G mc ms H locs cells slots ls hC hH hS hl hc1 hc2
  exact lv_ior hC.1 hC.2.1 hd (k p l e R s m args below meth c G mc ms H locs cells slots ls hC hH hS hl hc1 hc2)
theorem z_ixor {x y : Int32} (hd : decode X.2.1 pc = .ok (.ixor, 1))  (k : Z n0 X d rc rs (pc + 1) lv (.int (x ^^^ y) :: st) K I L Q) : Z n0 X d rc rs pc lv (.int y :: .int x :: st) K I L Q := by
  intro p l e R s m args below meth c G mc ms H locs cells slots ls hC hH hS hl hc1 hc2
  exact lv_ixor hC.1 hC.2.1 hd (k p l e R s m args below meth c G mc ms H locs cells slots ls hC hH hS hl hc1 hc2)
theorem z_ishl {x y : Int32} (hd : decode X.2.1 pc = .ok (.ishl, 1))  (k : Z n0 X d rc rs (pc + 1) lv (.int (x <<< (y &&& 31)) :: st) K I L Q) : Z n0 X d rc rs pc lv (.int y :: .int x :: st) K I L Q := by
  intro p l e R s m args below meth c G mc ms H locs cells slots ls hC hH hS hl hc1 hc2
  exact lv_ishl hC.1 hC.2.1 hd (k p l e R s m args below meth c G mc ms H locs cells slots ls hC hH hS hl hc1 hc2)
theorem z_ishr {x y : Int32} (hd : decode X.2.1 pc = .ok (.ishr, 1))  (k : Z n0 X d rc rs (pc + 1) lv (.int (x >>> (y &&& 31)) :: st) K I L Q) : Z n0 X d rc rs pc lv (.int y :: .int x :: st) K I L Q := by
  intro p l e R s m args below meth c G mc ms H locs cells slots ls hC hH hS hl hc1 hc2
  exact lv_ishr hC.1 hC.2.1 hd (k p l e R s m args below meth c G mc ms H locs cells slots ls hC hH hS hl hc1 hc2)
theorem z_ladd {x y : Int64} (hd : decode X.2.1 pc = .ok (.ladd, 1))  (k : Z n0 X d rc rs (pc + 1) lv (.long (x + y) :: st) K I L Q) : Z n0 X d rc rs pc lv (.long y :: .long x :: st) K I L Q := by
  intro p l e R s m args below meth c G mc ms H locs cells slots ls hC hH hS hl hc1 hc2
  exact lv_ladd hC.1 hC.2.1 hd (k p l e R s m args below meth c G mc ms H locs cells slots ls hC hH hS hl hc1 hc2)
theorem z_lsub {x y : Int64} (hd : decode X.2.1 pc = .ok (.lsub, 1))  (k : Z n0 X d rc rs (pc + 1) lv (.long (x - y) :: st) K I L Q) : Z n0 X d rc rs pc lv (.long y :: .long x :: st) K I L Q := by
  intro p l e R s m args below meth c G mc ms H locs cells slots ls hC hH hS hl hc1 hc2
  exact lv_lsub hC.1 hC.2.1 hd (k p l e R s m args below meth c G mc ms H locs cells slots ls hC hH hS hl hc1 hc2)
theorem z_lmul {x y : Int64} (hd : decode X.2.1 pc = .ok (.lmul, 1))  (k : Z n0 X d rc rs (pc + 1) lv (.long (x * y) :: st) K I L Q) : Z n0 X d rc rs pc lv (.long y :: .long x :: st) K I L Q := by
  intro p l e R s m args below meth c G mc ms H locs cells slots ls hC hH hS hl hc1 hc2
  exact lv_lmul hC.1 hC.2.1 hd (k p l e R s m args below meth c G mc ms H locs cells slots ls hC hH hS hl hc1 hc2)
theorem z_land {x y : Int64} (hd : decode X.2.1 pc = .ok (.land, 1))  (k : Z n0 X d rc rs (pc + 1) lv (.long (x &&& y) :: st) K I L Q) : Z n0 X d rc rs pc lv (.long y :: .long x :: st) K I L Q := by
  intro p l e R s m args below meth c G mc ms H locs cells slots ls hC hH hS hl hc1 hc2
  exact lv_land hC.1 hC.2.1 hd (k p l e R s m args below meth c G mc ms H locs cells slots ls hC hH hS hl hc1 hc2)
theorem z_lor {x y : Int64} (hd : decode X.2.1 pc = .ok (.lor, 1))  (k : Z n0 X d rc rs (pc + 1) lv (.long (x ||| y) :: st) K I L Q) : Z n0 X d rc rs pc lv (.long y :: .long x :: st) K I L Q := by
  intro p l e R s m args below meth c G mc ms H locs cells slots ls hC hH hS hl hc1 hc2
  exact lv_lor hC.1 hC.2.1 hd (k p l e R s m args below meth c G mc ms H locs cells slots ls hC hH hS hl hc1 hc2)
theorem z_idiv {x y : Int32} (hd : decode X.2.1 pc = .ok (.idiv, 1)) (hne : ¬ y = 0) (k : Z n0 X d rc rs (pc + 1) lv (.int (x / y) :: st) K I L Q) : Z n0 X d rc rs pc lv (.int y :: .int x :: st) K I L Q := by
  intro p l e R s m args below meth c G mc ms H locs cells slots ls hC hH hS hl hc1 hc2
  exact lv_idiv hC.1 hC.2.1 hd hne (k p l e R s m args below meth c G mc ms H locs cells slots ls hC hH hS hl hc1 hc2)
theorem z_irem {x y : Int32} (hd : decode X.2.1 pc = .ok (.irem, 1)) (hne : ¬ y = 0) (k : Z n0 X d rc rs (pc + 1) lv (.int (x - x / y * y) :: st) K I L Q) : Z n0 X d rc rs pc lv (.int y :: .int x :: st) K I L Q := by
  intro p l e R s m args below meth c G mc ms H locs cells slots ls hC hH hS hl hc1 hc2
  exact lv_irem hC.1 hC.2.1 hd hne (k p l e R s m args below meth c G mc ms H locs cells slots ls hC hH hS hl hc1 hc2)
theorem z_ldiv {x y : Int64} (hd : decode X.2.1 pc = .ok (.ldiv, 1)) (hne : ¬ y = 0) (k : Z n0 X d rc rs (pc + 1) lv (.long (x / y) :: st) K I L Q) : Z n0 X d rc rs pc lv (.long y :: .long x :: st) K I L Q := by
  intro p l e R s m args below meth c G mc ms H locs cells slots ls hC hH hS hl hc1 hc2
  exact lv_ldiv hC.1 hC.2.1 hd hne (k p l e R s m args below meth c G mc ms H locs cells slots ls hC hH hS hl hc1 hc2)
theorem z_lrem {x y : Int64} (hd : decode X.2.1 pc = .ok (.lrem, 1)) (hne : ¬ y = 0) (k : Z n0 X d rc rs (pc + 1) lv (.long (x - x / y * y) :: st) K I L Q) : Z n0 X d rc rs pc lv (.long y :: .long x :: st) K I L Q := by
  intro p l e R s m args below meth c G mc ms H locs cells slots ls hC hH hS hl hc1 hc2
  exact lv_lrem hC.1 hC.2.1 hd hne (k p l e R s m args below meth c G mc ms H locs cells slots ls hC hH hS hl hc1 hc2)
theorem z_iushr {x y : Int32} (hd : decode X.2.1 pc = .ok (.iushr, 1))  (k : Z n0 X d rc rs (pc + 1) lv (.int (x.toUInt32 >>> (y.toUInt32 &&& Int32.toUInt32 31)).toInt32 :: st) K I L Q) : Z n0 X d rc rs pc lv (.int y :: .int x :: st) K I L Q := by
  intro p l e R s m args below meth c G mc ms H locs cells slots ls hC hH hS hl hc1 hc2
  exact lv_iushr hC.1 hC.2.1 hd rfl (k p l e R s m args below meth c G mc ms H locs cells slots ls hC hH hS hl hc1 hc2)
theorem z_lshr {x : Int64} {y : Int32} (hd : decode X.2.1 pc = .ok (.lshr, 1))  (k : Z n0 X d rc rs (pc + 1) lv (.long (x >>> (y.toInt64 &&& 63)) :: st) K I L Q) : Z n0 X d rc rs pc lv (.int y :: .long x :: st) K I L Q := by
  intro p l e R s m args below meth c G mc ms H locs cells slots ls hC hH hS hl hc1 hc2
  exact lv_lshr hC.1 hC.2.1 hd rfl (k p l e R s m args below meth c G mc ms H locs cells slots ls hC hH hS hl hc1 hc2)
theorem z_lshl {x : Int64} {y : Int32} (hd : decode X.2.1 pc = .ok (.lshl, 1))  (k : Z n0 X d rc rs (pc + 1) lv (.long (x <<< (y.toInt64 &&& 63)) :: st) K I L Q) : Z n0 X d rc rs pc lv (.int y :: .long x :: st) K I L Q := by
  intro p l e R s m args below meth c G mc ms H locs cells slots ls hC hH hS hl hc1 hc2
  exact lv_lshl hC.1 hC.2.1 hd rfl (k p l e R s m args below meth c G mc ms H locs cells slots ls hC hH hS hl hc1 hc2)
theorem z_lushr {x : Int64} {y : Int32} (hd : decode X.2.1 pc = .ok (.lushr, 1))  (k : Z n0 X d rc rs (pc + 1) lv (.long (x.toUInt64 >>> (y.toInt64.toUInt64 &&& Int64.toUInt64 63)).toInt64 :: st) K I L Q) : Z n0 X d rc rs pc lv (.int y :: .long x :: st) K I L Q := by
  intro p l e R s m args below meth c G mc ms H locs cells slots ls hC hH hS hl hc1 hc2
  exact lv_lushr hC.1 hC.2.1 hd rfl (k p l e R s m args below meth c G mc ms H locs cells slots ls hC hH hS hl hc1 hc2)
theorem z_ineg {x : Int32} (hd : decode X.2.1 pc = .ok (.ineg, 1))  (k : Z n0 X d rc rs (pc + 1) lv (.int (-x) :: st) K I L Q) : Z n0 X d rc rs pc lv (.int x :: st) K I L Q := by
  intro p l e R s m args below meth c G mc ms H locs cells slots ls hC hH hS hl hc1 hc2
  exact lv_ineg hC.1 hC.2.1 hd (k p l e R s m args below meth c G mc ms H locs cells slots ls hC hH hS hl hc1 hc2)
theorem z_lneg {x : Int64} (hd : decode X.2.1 pc = .ok (.lneg, 1))  (k : Z n0 X d rc rs (pc + 1) lv (.long (-x) :: st) K I L Q) : Z n0 X d rc rs pc lv (.long x :: st) K I L Q := by
  intro p l e R s m args below meth c G mc ms H locs cells slots ls hC hH hS hl hc1 hc2
  exact lv_lneg hC.1 hC.2.1 hd (k p l e R s m args below meth c G mc ms H locs cells slots ls hC hH hS hl hc1 hc2)
theorem z_i2l {x : Int32} (hd : decode X.2.1 pc = .ok (.i2l, 1))  (k : Z n0 X d rc rs (pc + 1) lv (.long x.toInt64 :: st) K I L Q) : Z n0 X d rc rs pc lv (.int x :: st) K I L Q := by
  intro p l e R s m args below meth c G mc ms H locs cells slots ls hC hH hS hl hc1 hc2
  exact lv_i2l hC.1 hC.2.1 hd rfl (k p l e R s m args below meth c G mc ms H locs cells slots ls hC hH hS hl hc1 hc2)
theorem z_l2i {x : Int64} (hd : decode X.2.1 pc = .ok (.l2i, 1))  (k : Z n0 X d rc rs (pc + 1) lv (.int x.toInt32 :: st) K I L Q) : Z n0 X d rc rs pc lv (.long x :: st) K I L Q := by
  intro p l e R s m args below meth c G mc ms H locs cells slots ls hC hH hS hl hc1 hc2
  exact lv_l2i hC.1 hC.2.1 hd rfl (k p l e R s m args below meth c G mc ms H locs cells slots ls hC hH hS hl hc1 hc2)
theorem z_lcmp {x y : Int64} (hd : decode X.2.1 pc = .ok (.lcmp, 1))  (k : Z n0 X d rc rs (pc + 1) lv (.int (lg_cmp x y) :: st) K I L Q) : Z n0 X d rc rs pc lv (.long y :: .long x :: st) K I L Q := by
  intro p l e R s m args below meth c G mc ms H locs cells slots ls hC hH hS hl hc1 hc2
  exact W.lcmp hC.1 hC.2.1 hd (k p l e R s m args below meth c G mc ms H locs cells slots ls hC hH hS hl hc1 hc2)
theorem z_dup {v : Value} (hd : decode X.2.1 pc = .ok (.dup, 1)) (hv : v.category = 1) (k : Z n0 X d rc rs (pc + 1) lv (v :: v :: st) K I L Q) : Z n0 X d rc rs pc lv (v :: st) K I L Q := by
  intro p l e R s m args below meth c G mc ms H locs cells slots ls hC hH hS hl hc1 hc2
  exact lv_dup hC.1 hC.2.1 hd hv (k p l e R s m args below meth c G mc ms H locs cells slots ls hC hH hS hl hc1 hc2)
theorem z_dup_x1 {v w : Value} (hd : decode X.2.1 pc = .ok (.dup_x1, 1)) (hv : v.category = 1) (hw : w.category = 1) (k : Z n0 X d rc rs (pc + 1) lv (v :: w :: v :: st) K I L Q) : Z n0 X d rc rs pc lv (v :: w :: st) K I L Q := by
  intro p l e R s m args below meth c G mc ms H locs cells slots ls hC hH hS hl hc1 hc2
  exact lv_dup_x1 hC.1 hC.2.1 hd hv hw (k p l e R s m args below meth c G mc ms H locs cells slots ls hC hH hS hl hc1 hc2)
theorem z_dup2 {v w : Value} (hd : decode X.2.1 pc = .ok (.dup2, 1)) (hv : v.category = 1) (hw : w.category = 1) (k : Z n0 X d rc rs (pc + 1) lv (v :: w :: v :: w :: st) K I L Q) : Z n0 X d rc rs pc lv (v :: w :: st) K I L Q := by
  intro p l e R s m args below meth c G mc ms H locs cells slots ls hC hH hS hl hc1 hc2
  exact lv_dup2_11 hC.1 hC.2.1 hd hv hw (k p l e R s m args below meth c G mc ms H locs cells slots ls hC hH hS hl hc1 hc2)
theorem z_istore {i : Nat} {x : Int32} (ks : List Nat) (lv' : List (Nat × Value)) (hd : decode X.2.1 pc = .ok (.istore i, 2)) (hn : i < X.2.2.1) (hl1 : lv_pick ((i, .int x) :: lv.filter (fun q => !(q.1 == i) && !(q.1 + 1 == i && q.2.category == 2))) ks = lv') (k : Z n0 X d rc rs (pc + 2) lv' st K I L Q) : Z n0 X d rc rs pc lv (.int x :: st) K I L Q := by
  intro p l e R s m args below meth c G mc ms H locs cells slots ls hC hH hS hl hc1 hc2
  exact lv_istore hC.1 hC.2.1 hd hl hn rfl (fun ls hl => k p l e R s m args below meth c G mc ms H locs cells slots ls hC hH hS (lv_sub hl ks hl1) hc1 hc2)
theorem z_istore_n {i : Fin 4} {x : Int32} (ks : List Nat) (lv' : List (Nat × Value)) (hd : decode X.2.1 pc = .ok (.istore_n i, 1)) (hn : (i : Nat) < X.2.2.1) (hl1 : lv_pick (((i : Nat), .int x) :: lv.filter (fun q => !(q.1 == (i : Nat)) && !(q.1 + 1 == (i : Nat) && q.2.category == 2))) ks = lv') (k : Z n0 X d rc rs (pc + 1) lv' st K I L Q) : Z n0 X d rc rs pc lv (.int x :: st) K I L Q := by
  intro p l e R s m args below meth c G mc ms H locs cells slots ls hC hH hS hl hc1 hc2
  exact lv_istore_n hC.1 hC.2.1 hd rfl hl hn rfl (fun ls hl => k p l e R s m args below meth c G mc ms H locs cells slots ls hC hH hS (lv_sub hl ks hl1) hc1 hc2)
theorem z_astore {i : Nat} {x : Nat} (ks : List Nat) (lv' : List (Nat × Value)) (hd : decode X.2.1 pc = .ok (.astore i, 2)) (hn : i < X.2.2.1) (hl1 : lv_pick ((i, .ref x) :: lv.filter (fun q => !(q.1 == i) && !(q.1 + 1 == i && q.2.category == 2))) ks = lv') (k : Z n0 X d rc rs (pc + 2) lv' st K I L Q) : Z n0 X d rc rs pc lv (.ref x :: st) K I L Q := by
  intro p l e R s m args below meth c G mc ms H locs cells slots ls hC hH hS hl hc1 hc2
  exact lv_astore hC.1 hC.2.1 hd hl hn rfl (fun ls hl => k p l e R s m args below meth c G mc ms H locs cells slots ls hC hH hS (lv_sub hl ks hl1) hc1 hc2)
theorem z_astore_n {i : Fin 4} {x : Nat} (ks : List Nat) (lv' : List (Nat × Value)) (hd : decode X.2.1 pc = .ok (.astore_n i, 1)) (hn : (i : Nat) < X.2.2.1) (hl1 : lv_pick (((i : Nat), .ref x) :: lv.filter (fun q => !(q.1 == (i : Nat)) && !(q.1 + 1 == (i : Nat) && q.2.category == 2))) ks = lv') (k : Z n0 X d rc rs (pc + 1) lv' st K I L Q) : Z n0 X d rc rs pc lv (.ref x :: st) K I L Q := by
  intro p l e R s m args below meth c G mc ms H locs cells slots ls hC hH hS hl hc1 hc2
  exact lv_astore_n hC.1 hC.2.1 hd rfl hl hn rfl (fun ls hl => k p l e R s m args below meth c G mc ms H locs cells slots ls hC hH hS (lv_sub hl ks hl1) hc1 hc2)
theorem z_lstore {i : Nat} {x : Int64} (ks : List Nat) (lv' : List (Nat × Value)) (hd : decode X.2.1 pc = .ok (.lstore i, 2)) (hn : i + 1 < X.2.2.1) (hl1 : lv_pick ((i, .long x) :: lv.filter (fun q => !(q.1 == i) && (!(q.1 == i + 1) && !(q.1 + 1 == i && q.2.category == 2)))) ks = lv') (k : Z n0 X d rc rs (pc + 2) lv' st K I L Q) : Z n0 X d rc rs pc lv (.long x :: st) K I L Q := by
  intro p l e R s m args below meth c G mc ms H locs cells slots ls hC hH hS hl hc1 hc2
  exact lv_lstore hC.1 hC.2.1 hd hl hn rfl (fun ls hl => k p l e R s m args below meth c G mc ms H locs cells slots ls hC hH hS (lv_sub hl ks hl1) hc1 hc2)
theorem z_lstore_n {i : Fin 4} {x : Int64} (ks : List Nat) (lv' : List (Nat × Value)) (hd : decode X.2.1 pc = .ok (.lstore_n i, 1)) (hn : (i : Nat) + 1 < X.2.2.1) (hl1 : lv_pick (((i : Nat), .long x) :: lv.filter (fun q => !(q.1 == (i : Nat)) && (!(q.1 == (i : Nat) + 1) && !(q.1 + 1 == (i : Nat) && q.2.category == 2)))) ks = lv') (k : Z n0 X d rc rs (pc + 1) lv' st K I L Q) : Z n0 X d rc rs pc lv (.long x :: st) K I L Q := by
  intro p l e R s m args below meth c G mc ms H locs cells slots ls hC hH hS hl hc1 hc2
  exact lv_lstore_n hC.1 hC.2.1 hd rfl hl hn rfl (fun ls hl => k p l e R s m args below meth c G mc ms H locs cells slots ls hC hH hS (lv_sub hl ks hl1) hc1 hc2)
theorem z_astoreO {i : Nat} {x : Option Nat} (ks : List Nat) (lv' : List (Nat × Value)) (hd : decode X.2.1 pc = .ok (.astore i, 2)) (hn : i < X.2.2.1) (hl1 : ∀ v : Value, v = zr n0 x → lv_pick ((i, v) :: lv.filter (fun q => !(q.1 == i) && !(q.1 + 1 == i && q.2.category == 2))) ks = lv') (k : Z n0 X d rc rs (pc + 2) lv' st K I L Q) : Z n0 X d rc rs pc lv (zr n0 x :: st) K I L Q := by
  cases x with
  | none =>
    intro p l e R s m args below meth c G mc ms H locs cells slots ls hC hH hS hl hc1 hc2
    exact lv_astoreN hC.1 hC.2.1 hd hl hn rfl (fun ls hl => k p l e R s m args below meth c G mc ms H locs cells slots ls hC hH hS (lv_sub hl ks (hl1 _ rfl)) hc1 hc2)
  | some q => exact z_astore ks lv' hd hn (hl1 _ rfl) k
theorem z_astore_nO {i : Fin 4} {x : Option Nat} (ks : List Nat) (lv' : List (Nat × Value)) (hd : decode X.2.1 pc = .ok (.astore_n i, 1)) (hn : (i : Nat) < X.2.2.1) (hl1 : ∀ v : Value, v = zr n0 x → lv_pick (((i : Nat), v) :: lv.filter (fun q => !(q.1 == (i : Nat)) && !(q.1 + 1 == (i : Nat) && q.2.category == 2))) ks = lv') (k : Z n0 X d rc rs (pc + 1) lv' st K I L Q) : Z n0 X d rc rs pc lv (zr n0 x :: st) K I L Q := by
  cases x with
  | none =>
    intro p l e R s m args below meth c G mc ms H locs cells slots ls hC hH hS hl hc1 hc2
    exact lv_astore_nN hC.1 hC.2.1 hd rfl hl hn rfl (fun ls hl => k p l e R s m args below meth c G mc ms H locs cells slots ls hC hH hS (lv_sub hl ks (hl1 _ rfl)) hc1 hc2)
  | some q => exact z_astore_n ks lv' hd hn (hl1 _ rfl) k
theorem z_iinc {i j : Nat} {n : Int} {x : Int32} (v : Int32) (ks : List Nat) (lv' : List (Nat × Value)) (hd : decode X.2.1 pc = .ok (.iinc i n, 3)) (hj : lv[j]? = some (i, .int x)) (hv : x + Int32.ofInt n = v) (hn : i < X.2.2.1) (hl1 : lv_pick ((i, .int v) :: lv.filter (fun q => !(q.1 == i) && !(q.1 + 1 == i && q.2.category == 2))) ks = lv') (k : Z n0 X d rc rs (pc + 3) lv' st K I L Q) : Z n0 X d rc rs pc lv st K I L Q := by
  intro p l e R s m args below meth c G mc ms H locs cells slots ls hC hH hS hl hc1 hc2
  exact lv_iinc hC.1 hC.2.1 hd hl hj hv hn rfl (fun ls hl => k p l e R s m args below meth c G mc ms H locs cells slots ls hC hH hS (lv_sub hl ks hl1) hc1 hc2)
theorem z_sub (ks : List Nat) (h : lv_pick lv ks = lv') (k : Z n0 X d rc rs pc lv' st K I L Q) : Z n0 X d rc rs pc lv st K I L Q := by
  intro p l e R s m args below meth c G mc ms H locs cells slots ls hC hH hS hl hc1 hc2
  exact k p l e R s m args below meth c G mc ms H locs cells slots ls hC hH hS (lv_sub hl ks h) hc1 hc2
theorem z_goto {off : Int} (tgt : Nat) (hd : decode X.2.1 pc = .ok (.goto off, 3)) (ht : (pc : Int) + off = (tgt : Int)) (k : Z n0 X d rc rs tgt lv st K I L Q) : Z n0 X d rc rs pc lv st K I L Q := by
  intro p l e R s m args below meth c G mc ms H locs cells slots ls hC hH hS hl hc1 hc2
  exact lv_goto hC.1 hC.2.1 hd ht (k p l e R s m args below meth c G mc ms H locs cells slots ls hC hH hS hl hc1 hc2)
theorem z_icmp_eq {x y : Int32} {off : Int} (tgt : Nat) (hd : decode X.2.1 pc = .ok (.if_icmp .eq off, 3)) (ht : (pc : Int) + off = (tgt : Int)) (kt : x = y → Z n0 X d rc rs tgt lv st K I L Q) (kf : ¬ (x = y) → Z n0 X d rc rs (pc + 3) lv st K I L Q) : Z n0 X d rc rs pc lv (.int y :: .int x :: st) K I L Q := by
  intro p l e R s m args below meth c G mc ms H locs cells slots ls hC hH hS hl hc1 hc2
  exact lv_icmp_eq hC.1 hC.2.1 hd ht (fun q => kt (by simpa using q) p l e R s m args below meth c G mc ms H locs cells slots ls hC hH hS hl hc1 hc2) (fun q => kf (by simpa using q) p l e R s m args below meth c G mc ms H locs cells slots ls hC hH hS hl hc1 hc2)
theorem z_icmp_ne {x y : Int32} {off : Int} (tgt : Nat) (hd : decode X.2.1 pc = .ok (.if_icmp .ne off, 3)) (ht : (pc : Int) + off = (tgt : Int)) (kt : ¬ (x = y) → Z n0 X d rc rs tgt lv st K I L Q) (kf : x = y → Z n0 X d rc rs (pc + 3) lv st K I L Q) : Z n0 X d rc rs pc lv (.int y :: .int x :: st) K I L Q := by
  intro p l e R s m args below meth c G mc ms H locs cells slots ls hC hH hS hl hc1 hc2
  exact lv_icmp_ne hC.1 hC.2.1 hd ht (fun q => kt (by simpa using q) p l e R s m args below meth c G mc ms H locs cells slots ls hC hH hS hl hc1 hc2) (fun q => kf (by simpa using q) p l e R s m args below meth c G mc ms H locs cells slots ls hC hH hS hl hc1 hc2)
theorem z_icmp_lt {x y : Int32} {off : Int} (tgt : Nat) (hd : decode X.2.1 pc = .ok (.if_icmp .lt off, 3)) (ht : (pc : Int) + off = (tgt : Int)) (kt : x < y → Z n0 X d rc rs tgt lv st K I L Q) (kf : ¬ (x < y) → Z n0 X d rc rs (pc + 3) lv st K I L Q) : Z n0 X d rc rs pc lv (.int y :: .int x :: st) K I L Q := by
  intro p l e R s m args below meth c G mc ms H locs cells slots ls hC hH hS hl hc1 hc2
  exact lv_icmp_lt hC.1 hC.2.1 hd ht (fun q => kt (by simpa using q) p l e R s m args below meth c G mc ms H locs cells slots ls hC hH hS hl hc1 hc2) (fun q => kf (by simpa using q) p l e R s m args below meth c G mc ms H locs cells slots ls hC hH hS hl hc1 hc2)
theorem z_icmp_ge {x y : Int32} {off : Int} (tgt : Nat) (hd : decode X.2.1 pc = .ok (.if_icmp .ge off, 3)) (ht : (pc : Int) + off = (tgt : Int)) (kt : ¬ (x < y) → Z n0 X d rc rs tgt lv st K I L Q) (kf : x < y → Z n0 X d rc rs (pc + 3) lv st K I L Q) : Z n0 X d rc rs pc lv (.int y :: .int x :: st) K I L Q := by
  intro p l e R s m args below meth c G mc ms H locs cells slots ls hC hH hS hl hc1 hc2
  exact lv_icmp_ge hC.1 hC.2.1 hd ht (fun q => kt (by simpa using q) p l e R s m args below meth c G mc ms H locs cells slots ls hC hH hS hl hc1 hc2) (fun q => kf (by simpa using q) p l e R s m args below meth c G mc ms H locs cells slots ls hC hH hS hl hc1 hc2)
theorem z_icmp_gt {x y : Int32} {off : Int} (tgt : Nat) (hd : decode X.2.1 pc = .ok (.if_icmp .gt off, 3)) (ht : (pc : Int) + off = (tgt : Int)) (kt : y < x → Z n0 X d rc rs tgt lv st K I L Q) (kf : ¬ (y < x) → Z n0 X d rc rs (pc + 3) lv st K I L Q) : Z n0 X d rc rs pc lv (.int y :: .int x :: st) K I L Q := by
  intro p l e R s m args below meth c G mc ms H locs cells slots ls hC hH hS hl hc1 hc2
  exact lv_icmp_gt hC.1 hC.2.1 hd ht (fun q => kt (by simpa using q) p l e R s m args below meth c G mc ms H locs cells slots ls hC hH hS hl hc1 hc2) (fun q => kf (by simpa using q) p l e R s m args below meth c G mc ms H locs cells slots ls hC hH hS hl hc1 hc2)
theorem z_icmp_le {x y : Int32} {off : Int} (tgt : Nat) (hd : decode X.2.1 pc = .ok (.if_icmp .le off, 3)) (ht : (pc : Int) + off = (tgt : Int)) (kt : ¬ (y < x) → Z n0 X d rc rs tgt lv st K I L Q) (kf : y < x → Z n0 X d rc rs (pc + 3) lv st K I L Q) : Z n0 X d rc rs pc lv (.int y :: .int x :: st) K I L Q := by
  intro p l e R s m args below meth c G mc ms H locs cells slots ls hC hH hS hl hc1 hc2
  exact lv_icmp_le hC.1 hC.2.1 hd ht (fun q => kt (by simpa using q) p l e R s m args below meth c G mc ms H locs cells slots ls hC hH hS hl hc1 hc2) (fun q => kf (by simpa using q) p l e R s m args below meth c G mc ms H locs cells slots ls hC hH hS hl hc1 hc2)
theorem z_if_eq {x : Int32} {off : Int} (tgt : Nat) (hd : decode X.2.1 pc = .ok (.ifCond .eq off, 3)) (ht : (pc : Int) + off = (tgt : Int)) (kt : x = 0 → Z n0 X d rc rs tgt lv st K I L Q) (kf : ¬ (x = 0) → Z n0 X d rc rs (pc + 3) lv st K I L Q) : Z n0 X d rc rs pc lv (.int x :: st) K I L Q := by
  intro p l e R s m args below meth c G mc ms H locs cells slots ls hC hH hS hl hc1 hc2
  exact lv_if_eq hC.1 hC.2.1 hd ht (fun q => kt (by simpa using q) p l e R s m args below meth c G mc ms H locs cells slots ls hC hH hS hl hc1 hc2) (fun q => kf (by simpa using q) p l e R s m args below meth c G mc ms H locs cells slots ls hC hH hS hl hc1 hc2)
theorem z_if_ne {x : Int32} {off : Int} (tgt : Nat) (hd : decode X.2.1 pc = .ok (.ifCond .ne off, 3)) (ht : (pc : Int) + off = (tgt : Int)) (kt : ¬ (x = 0) → Z n0 X d rc rs tgt lv st K I L Q) (kf : x = 0 → Z n0 X d rc rs (pc + 3) lv st K I L Q) : Z n0 X d rc rs pc lv (.int x :: st) K I L Q := by
  intro p l e R s m args below meth c G mc ms H locs cells slots ls hC hH hS hl hc1 hc2
  exact lv_if_ne hC.1 hC.2.1 hd ht (fun q => kt (by simpa using q) p l e R s m args below meth c G mc ms H locs cells slots ls hC hH hS hl hc1 hc2) (fun q => kf (by simpa using q) p l e R s m args below meth c G mc ms H locs cells slots ls hC hH hS hl hc1 hc2)
theorem z_if_lt {x : Int32} {off : Int} (tgt : Nat) (hd : decode X.2.1 pc = .ok (.ifCond .lt off, 3)) (ht : (pc : Int) + off = (tgt : Int)) (kt : x < 0 → Z n0 X d rc rs tgt lv st K I L Q) (kf : ¬ (x < 0) → Z n0 X d rc rs (pc + 3) lv st K I L Q) : Z n0 X d rc rs pc lv (.int x :: st) K I L Q := by
  intro p l e R s m args below meth c G mc ms H locs cells slots ls hC hH hS hl hc1 hc2
  exact lv_if_lt hC.1 hC.2.1 hd ht (fun q => kt (by simpa using q) p l e R s m args below meth c G mc ms H locs cells slots ls hC hH hS hl hc1 hc2) (fun q => kf (by simpa using q) p l e R s m args below meth c G mc ms H locs cells slots ls hC hH hS hl hc1 hc2)
theorem z_if_ge {x : Int32} {off : Int} (tgt : Nat) (hd : decode X.2.1 pc = .ok (.ifCond .ge off, 3)) (ht : (pc : Int) + off = (tgt : Int)) (kt : ¬ (x < 0) → Z n0 X d rc rs tgt lv st K I L Q) (kf : x < 0 → Z n0 X d rc rs (pc + 3) lv st K I L Q) : Z n0 X d rc rs pc lv (.int x :: st) K I L Q := by
  intro p l e R s m args below meth c G mc ms H locs cells slots ls hC hH hS hl hc1 hc2
  exact lv_if_ge hC.1 hC.2.1 hd ht (fun q => kt (by simpa using q) p l e R s m args below meth c G mc ms H locs cells slots ls hC hH hS hl hc1 hc2) (fun q => kf (by simpa using q) p l e R s m args below meth c G mc ms H locs cells slots ls hC hH hS hl hc1 hc2)
theorem z_if_gt {x : Int32} {off : Int} (tgt : Nat) (hd : decode X.2.1 pc = .ok (.ifCond .gt off, 3)) (ht : (pc : Int) + off = (tgt : Int)) (kt : 0 < x → Z n0 X d rc rs tgt lv st K I L Q) (kf : ¬ (0 < x) → Z n0 X d rc rs (pc + 3) lv st K I L Q) : Z n0 X d rc rs pc lv (.int x :: st) K I L Q := by
  intro p l e R s m args below meth c G mc ms H locs cells slots ls hC hH hS hl hc1 hc2
  exact lv_if_gt hC.1 hC.2.1 hd ht (fun q => kt (by simpa using q) p l e R s m args below meth c G mc ms H locs cells slots ls hC hH hS hl hc1 hc2) (fun q => kf (by simpa using q) p l e R s m args below meth c G mc ms H locs cells slots ls hC hH hS hl hc1 hc2)
theorem z_if_le {x : Int32} {off : Int} (tgt : Nat) (hd : decode X.2.1 pc = .ok (.ifCond .le off, 3)) (ht : (pc : Int) + off = (tgt : Int)) (kt : ¬ (0 < x) → Z n0 X d rc rs tgt lv st K I L Q) (kf : 0 < x → Z n0 X d rc rs (pc + 3) lv st K I L Q) : Z n0 X d rc rs pc lv (.int x :: st) K I L Q := by
  intro p l e R s m args below meth c G mc ms H locs cells slots ls hC hH hS hl hc1 hc2
  exact lv_if_le hC.1 hC.2.1 hd ht (fun q => kt (by simpa using q) p l e R s m args below meth c G mc ms H locs cells slots ls hC hH hS hl hc1 hc2) (fun q => kf (by simpa using q) p l e R s m args below meth c G mc ms H locs cells slots ls hC hH hS hl hc1 hc2)
theorem zl_lt (x y : Int64) : lg_cmp x y < 0 ↔ x < y := by
  unfold lg_cmp
  split
  · rename_i h; exact ⟨fun q => absurd q (by decide), fun q => absurd h (Int64.not_lt.mpr (Int64.le_of_lt q))⟩
  · split
    · rename_i h; subst h; exact ⟨fun q => absurd q (by decide), fun q => absurd q (by simp)⟩
    · rename_i h1 h2; exact ⟨fun _ => Int64.lt_of_le_of_ne (Int64.not_lt.mp h1) h2, fun _ => by decide⟩
theorem zl_gt (x y : Int64) : 0 < lg_cmp x y ↔ y < x := by
  unfold lg_cmp
  split
  · rename_i h; exact ⟨fun _ => h, fun _ => by decide⟩
  · split
    · rename_i h; subst h; exact ⟨fun q => absurd q (by decide), fun q => absurd q (by simp)⟩
    · rename_i h1 h2; exact ⟨fun q => absurd q (by decide), fun q => absurd q h1⟩
theorem zl_eq (x y : Int64) : lg_cmp x y = 0 ↔ x = y := by
  unfold lg_cmp
  split
  · rename_i h; exact ⟨fun q => absurd q (by decide), fun q => by subst q; exact absurd h (by simp)⟩
  · split
    · rename_i h; exact ⟨fun _ => h, fun _ => rfl⟩
    · rename_i h1 h2; exact ⟨fun q => absurd q (by decide), fun q => absurd q h2⟩
theorem z_lif_eq {x y : Int64} {off : Int} (tgt : Nat) (hd : decode X.2.1 pc = .ok (.lcmp, 1)) (hd2 : decode X.2.1 (pc + 1) = .ok (.ifCond .eq off, 3)) (ht : ((pc + 1 : Nat) : Int) + off = (tgt : Int)) (kt : x = y → Z n0 X d rc rs tgt lv st K I L Q) (kf : ¬ (x = y) → Z n0 X d rc rs (pc + 1 + 3) lv st K I L Q) : Z n0 X d rc rs pc lv (.long y :: .long x :: st) K I L Q :=
  z_lcmp hd (z_if_eq tgt hd2 ht (fun q => kt (((zl_eq x y)).mp q)) (fun q => kf (fun z => q (((zl_eq x y)).mpr z))))
theorem z_lif_ne {x y : Int64} {off : Int} (tgt : Nat) (hd : decode X.2.1 pc = .ok (.lcmp, 1)) (hd2 : decode X.2.1 (pc + 1) = .ok (.ifCond .ne off, 3)) (ht : ((pc + 1 : Nat) : Int) + off = (tgt : Int)) (kt : ¬ (x = y) → Z n0 X d rc rs tgt lv st K I L Q) (kf : x = y → Z n0 X d rc rs (pc + 1 + 3) lv st K I L Q) : Z n0 X d rc rs pc lv (.long y :: .long x :: st) K I L Q :=
  z_lcmp hd (z_if_ne tgt hd2 ht (fun q => kt (fun z => q (((zl_eq x y)).mpr z))) (fun q => kf (((zl_eq x y)).mp q)))
theorem z_lif_lt {x y : Int64} {off : Int} (tgt : Nat) (hd : decode X.2.1 pc = .ok (.lcmp, 1)) (hd2 : decode X.2.1 (pc + 1) = .ok (.ifCond .lt off, 3)) (ht : ((pc + 1 : Nat) : Int) + off = (tgt : Int)) (kt : x < y → Z n0 X d rc rs tgt lv st K I L Q) (kf : ¬ (x < y) → Z n0 X d rc rs (pc + 1 + 3) lv st K I L Q) : Z n0 X d rc rs pc lv (.long y :: .long x :: st) K I L Q :=
  z_lcmp hd (z_if_lt tgt hd2 ht (fun q => kt (((zl_lt x y)).mp q)) (fun q => kf (fun z => q (((zl_lt x y)).mpr z))))
theorem z_lif_ge {x y : Int64} {off : Int} (tgt : Nat) (hd : decode X.2.1 pc = .ok (.lcmp, 1)) (hd2 : decode X.2.1 (pc + 1) = .ok (.ifCond .ge off, 3)) (ht : ((pc + 1 : Nat) : Int) + off = (tgt : Int)) (kt : ¬ (x < y) → Z n0 X d rc rs tgt lv st K I L Q) (kf : x < y → Z n0 X d rc rs (pc + 1 + 3) lv st K I L Q) : Z n0 X d rc rs pc lv (.long y :: .long x :: st) K I L Q :=
  z_lcmp hd (z_if_ge tgt hd2 ht (fun q => kt (fun z => q (((zl_lt x y)).mpr z))) (fun q => kf (((zl_lt x y)).mp q)))
theorem z_lif_gt {x y : Int64} {off : Int} (tgt : Nat) (hd : decode X.2.1 pc = .ok (.lcmp, 1)) (hd2 : decode X.2.1 (pc + 1) = .ok (.ifCond .gt off, 3)) (ht : ((pc + 1 : Nat) : Int) + off = (tgt : Int)) (kt : y < x → Z n0 X d rc rs tgt lv st K I L Q) (kf : ¬ (y < x) → Z n0 X d rc rs (pc + 1 + 3) lv st K I L Q) : Z n0 X d rc rs pc lv (.long y :: .long x :: st) K I L Q :=
  z_lcmp hd (z_if_gt tgt hd2 ht (fun q => kt (((zl_gt x y)).mp q)) (fun q => kf (fun z => q (((zl_gt x y)).mpr z))))
theorem z_lif_le {x y : Int64} {off : Int} (tgt : Nat) (hd : decode X.2.1 pc = .ok (.lcmp, 1)) (hd2 : decode X.2.1 (pc + 1) = .ok (.ifCond .le off, 3)) (ht : ((pc + 1 : Nat) : Int) + off = (tgt : Int)) (kt : ¬ (y < x) → Z n0 X d rc rs tgt lv st K I L Q) (kf : y < x → Z n0 X d rc rs (pc + 1 + 3) lv st K I L Q) : Z n0 X d rc rs pc lv (.long y :: .long x :: st) K I L Q :=
  z_lcmp hd (z_if_le tgt hd2 ht (fun q => kt (fun z => q (((zl_gt x y)).mpr z))) (fun q => kf (((zl_gt x y)).mp q)))
theorem z_ifnull {x : Option Nat} {off : Int} (tgt : Nat) (hd : decode X.2.1 pc = .ok (.ifnull off, 3)) (ht : (pc : Int) + off = (tgt : Int)) (kt : x = none → Z n0 X d rc rs tgt lv st K I L Q) (kf : ∀ q, x = some q → Z n0 X d rc rs (pc + 3) lv st K I L Q) : Z n0 X d rc rs pc lv (zr n0 x :: st) K I L Q := by
  cases x with
  | none =>
    intro p l e R s m args below meth c G mc ms H locs cells slots ls hC hH hS hl hc1 hc2
    exact lv_ifnullN hC.1 hC.2.1 hd ht (kt rfl p l e R s m args below meth c G mc ms H locs cells slots ls hC hH hS hl hc1 hc2)
  | some q =>
    intro p l e R s m args below meth c G mc ms H locs cells slots ls hC hH hS hl hc1 hc2
    exact lv_ifnull hC.1 hC.2.1 hd (kf q rfl p l e R s m args below meth c G mc ms H locs cells slots ls hC hH hS hl hc1 hc2)
theorem z_ifnonnull {x : Option Nat} {off : Int} (tgt : Nat) (hd : decode X.2.1 pc = .ok (.ifnonnull off, 3)) (ht : (pc : Int) + off = (tgt : Int)) (kt : ∀ q, x = some q → Z n0 X d rc rs tgt lv st K I L Q) (kf : x = none → Z n0 X d rc rs (pc + 3) lv st K I L Q) : Z n0 X d rc rs pc lv (zr n0 x :: st) K I L Q := by
  cases x with
  | none =>
    intro p l e R s m args below meth c G mc ms H locs cells slots ls hC hH hS hl hc1 hc2
    exact lv_ifnonnullN hC.1 hC.2.1 hd (kf rfl p l e R s m args below meth c G mc ms H locs cells slots ls hC hH hS hl hc1 hc2)
  | some q =>
    intro p l e R s m args below meth c G mc ms H locs cells slots ls hC hH hS hl hc1 hc2
    exact lv_ifnonnull hC.1 hC.2.1 hd ht (kt q rfl p l e R s m args below meth c G mc ms H locs cells slots ls hC hH hS hl hc1 hc2)
theorem z_acmp_ne {x y : Option Nat} {off : Int} (tgt : Nat) (hd : decode X.2.1 pc = .ok (.if_acmp .ne off, 3)) (ht : (pc : Int) + off = (tgt : Int)) (kt : ¬ x = y → Z n0 X d rc rs tgt lv st K I L Q) (kf : x = y → Z n0 X d rc rs (pc + 3) lv st K I L Q) : Z n0 X d rc rs pc lv (zr n0 y :: zr n0 x :: st) K I L Q := by
  intro p l e R s m args below meth c G mc ms H locs cells slots ls hC hH hS hl hc1 hc2
  have hinj : x.map (fun q => n0 + q) = y.map (fun q => n0 + q) → x = y := by
    intro h
    cases x <;> cases y <;> simp at h ⊢
    exact h
  exact lv_acmp_ne hC.1 hC.2.1 hd ht (fun q => kt (fun z => q (by rw [z])) p l e R s m args below meth c G mc ms H locs cells slots ls hC hH hS hl hc1 hc2) (fun q => kf (hinj q) p l e R s m args below meth c G mc ms H locs cells slots ls hC hH hS hl hc1 hc2)
end ZR
