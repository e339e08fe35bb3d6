/-! memory, returns, calls, entry: over the layer's states -/
section ZCF
variable {n0 d mc ms : Nat} {X : z_X} {G : z_G} {p : Program} {R : Room} {s : State} {m : MethodId} {args : Array Value} {meth : Method} {c : Code}
theorem z_C.hx (h : z_C n0 X d mc ms G p R s m args meth c) : p.tables.exec = Jvm.exec := h.1
theorem z_C.hb (h : z_C n0 X d mc ms G p R s m args meth c) : c.code = X.2.1 := h.2.1
theorem z_C.hml (h : z_C n0 X d mc ms G p R s m args meth c) : c.maxLocals = X.2.2.1 := h.2.2.1
theorem z_C.hr (h : z_C n0 X d mc ms G p R s m args meth c) : meth.sig.returnType = X.2.2.2 := h.2.2.2.1
theorem z_C.hlk (h : z_C n0 X d mc ms G p R s m args meth c) : meth.locks = false := h.2.2.2.2.1
theorem z_C.hown (h : z_C n0 X d mc ms G p R s m args meth c) : s.vm.findClass X.1.cls = some m.cls := h.2.2.2.2.2.1
theorem z_C.hts (h : z_C n0 X d mc ms G p R s m args meth c) : ∀ w ∈ z_cw X :: lw_good, w.before args s = true := h.2.2.2.2.2.2.1
theorem z_C.hw (h : z_C n0 X d mc ms G p R s m args meth c) {w : Cond} (hw : w ∈ lw_good) : w.before args s = true := h.hts w (List.mem_cons_of_mem _ hw)
theorem z_C.hK (h : z_C n0 X d mc ms G p R s m args meth c) : va_K (G.1, G.2.1) vwCl (z_tys G) s := h.2.2.2.2.2.2.2.1
theorem z_C.hSt (h : z_C n0 X d mc ms G p R s m args meth c) : z_St n0 G s := h.2.2.2.2.2.2.2.2.1
theorem z_C.hR (h : z_C n0 X d mc ms G p R s m args meth c) : R = z_rm d mc ms := h.2.2.2.2.2.2.2.2.2.1
theorem z_C.hnm (h : z_C n0 X d mc ms G p R s m args meth c) : meth.name = X.1.name := h.2.2.2.2.2.2.2.2.2.2
theorem z_C.hlay (_ : z_C n0 X d mc ms G p R s m args meth c) {k : Nat} (hk : k < 14) : ∀ w ∈ u_ws (z_Rn k) (z_T k) (z_N k), w ∈ z_cw X :: lw_good := fun w hw => List.mem_cons_of_mem _ (z_lays hk w hw)
theorem z_C.hn (h : z_C n0 X d mc ms G p R s m args meth c) {w : Cond} (hw : w ∈ lw_nest) : va_Nw w s := h.hSt.2.2.2 w hw
end ZCF
section ZEE
variable {n0 : Nat} {G : z_G} {K K' : z_K} {I I' : z_I} {L L' : z_L} {k c t n j : Nat}
theorem z_E_obj (h : (K.2.1 k).1 = c) (hc : c < 14) : z_E n0 G K I L k = .inr (c, z_fs n0 K I L c k) := by
  subst h; unfold z_E; rw [if_pos hc]
theorem z_E_int (h : K.2.1 k = (t, n)) (ht : t = 20 ∨ t = 21) : z_E n0 G K I L k = .inl (G.2.2.1 t, n, .inl (I k)) := by
  unfold z_E; rw [h]; rcases ht with rfl | rfl <;> simp
theorem z_E_long (h : K.2.1 k = (22, n)) : z_E n0 G K I L k = .inl (G.2.2.1 22, n, .inr (.inl (L k))) := by
  unfold z_E; rw [h]; simp
theorem z_E_ref (h : K.2.1 k = (t, n)) (ht : 22 < t) : z_E n0 G K I L k = .inl (G.2.2.1 t, n, .inr (.inr (.inr (.inr (fun j => (K.2.2 k j).map (fun q => n0 + q)))))) := by
  unfold z_E; rw [h]
  have h1 : ¬ t < 14 := by omega
  have h2 : ¬ t < 22 := by omega
  have h3 : ¬ t = 22 := by omega
  simp [h1, h2, h3]
theorem z_fv_congr (h1 : K'.2.2 k = K.2.2 k) (h2 : I' k = I k) (h3 : L' k = L k) (ty : FieldType) : z_fv n0 K' I' L' ty k j = z_fv n0 K I L ty k j := by
  unfold z_fv; rw [h1, h2, h3]
theorem z_E_congr (h0 : K'.2.1 k = K.2.1 k) (h1 : K'.2.2 k = K.2.2 k) (h2 : I' k = I k) (h3 : L' k = L k) : z_E n0 G K' I' L' k = z_E n0 G K I L k := by
  unfold z_E z_fs
  rw [h0, h1, h2, h3]
  simp only [z_fv_congr h1 h2 h3]
theorem z_fs_get (hj : j < z_N c) : (z_fs n0 K I L c k)[j]? = some (z_fv n0 K I L (z_ty c j) k j) := by simp [z_fs, hj]
theorem z_fs_V (hj : j < z_N c) : vp_V (z_fs n0 K I L c k) j = z_fv n0 K I L (z_ty c j) k j := by simp [vp_V, z_fs_get hj, List.getD]
end ZEE
theorem z_flt {c : Nat} (hc : c < 14) : ∀ i, i < z_N c → ¬ z_ty c i = .float ∧ ¬ z_ty c i = .double := by
  match c, hc with
  | 0, _ => decide +kernel
  | 1, _ => decide +kernel
  | 2, _ => decide +kernel
  | 3, _ => decide +kernel
  | 4, _ => decide +kernel
  | 5, _ => decide +kernel
  | 6, _ => decide +kernel
  | 7, _ => decide +kernel
  | 8, _ => decide +kernel
  | 9, _ => decide +kernel
  | 10, _ => decide +kernel
  | 11, _ => decide +kernel
  | 12, _ => decide +kernel
  | 13, _ => decide +kernel
theorem z_St_moved {n0 : Nat} {G : z_G} {s U : State} {H : Heap} {locs : List Loc} (h : z_St n0 G s) (hU : U.heap = H) (hS : va_S (z_A n0) s.heap H locs) (hW : s.WarmedH U.vm) : z_St n0 G U := by
  obtain ⟨h1, h2, h3, h4⟩ := h
  refine ⟨by rw [hU]; exact Nat.le_trans h1 hS.1, fun i hi => ?_, fun i hi => ?_, fun w hw => z_warm (List.mem_filter.mp hw).2 hW (h4 w hw)⟩
  · obtain ⟨⟨scr, q1, q2⟩, q3⟩ := h2 i hi
    refine ⟨?_, q3⟩
    have : va_X (G.2.2.2 i).1 (G.2.2.2 i).2.1 (G.2.2.2 i).2.2 s U.heap := ⟨scr, by rw [hU, hS.2.1 _ (Nat.lt_of_lt_of_le q3 h1) (Nat.not_le.mpr q3)]; exact q1, q2⟩
    exact this.moved hW.alike
  · obtain ⟨q1, qo, q2⟩ := h3 i hi
    exact ⟨(q1.kept (H1 := U.heap) (fun a ha hA => by rw [hU]; exact hS.2.1 a ha hA)).moved hW.alike, (qo.kept (H1 := U.heap) (fun a ha hA => by rw [hU]; exact hS.2.1 a ha hA)).moved hW.alike, q2⟩
theorem z_W_blind {n0 : Nat} {G : z_G} {K : z_K} {I : z_I} {L : z_L} {As : List Value} : FrameBlind (va_Pc As (z_W n0 G K I L)) := by
  intro a U g mk ⟨h0, h1, h2, h3, h4, h5, h6⟩
  exact ⟨h0, h1, va_K.moved (u := U) (U := U.calling g mk a) (Vm.Alike.refl U.vm) h2, h3, fun i hi => ⟨(h4 i hi).1.moved (Vm.Alike.refl U.vm), (h4 i hi).2⟩, fun i hi => ⟨(h5 i hi).1.moved (Vm.Alike.refl U.vm), (h5 i hi).2.1.moved (Vm.Alike.refl U.vm), (h5 i hi).2.2⟩, fun w hw => z_nsame (u := U) (List.mem_filter.mp hw).2 rfl (h6 w hw)⟩
section ZM
variable {n0 d rc rs pc : Nat} {X : z_X} {lv lv' : List (Nat × Value)} {st : List Value} {K : z_K} {I : z_I} {L : z_L} {Q : z_R}
theorem z_get {idx c j k : Nat} (v : Value) (hd : decode X.2.1 pc = .ok (.getfield idx, 3)) (hk : k < K.1) (hc : (K.2.1 k).1 = c) (hc14 : c < 14) (hj : j < z_N c)
    (hw : Cond.fieldLink X.1.cls idx (z_T c j).1 (z_T c j).2.1 (z_T c j).2.2.1 ∈ lw_good ∨ ∃ host, Cond.fieldLinkNest X.1.cls idx (z_T c j).1 (z_T c j).2.1 (z_T c j).2.2.1 host ∈ lw_nest)
    (hv : z_fv n0 K I L (z_ty c j) k j = v) (kk : Z n0 X d rc rs (pc + 3) lv (v :: st) K I L Q) : Z n0 X d rc rs pc lv (.ref (n0 + k) :: st) K I L Q := by
  intro p l e R s m args below meth c' G mc ms H locs cells slots ls hC hH hS hl hc1 hc2
  have he : (z_ws n0 G K I L)[k]? = some (n0 + k, .inr (c, z_fs n0 K I L c k)) := (z_ws_get hk).trans (by rw [z_E_obj hc hc14])
  have k1 := kk p l e R s m args below meth c' G mc ms H locs cells slots ls hC hH hS hl hc1 hc2
  rcases hw with hw | ⟨host, hw⟩
  · exact va_get hC.hx hC.hb hC.hts (hC.hlay hc14) hC.hown hC.hK hH.2 k he (z_cl hc14) j hj (hC.hw hw) (fun _ h => h) ((z_fs_get hj).trans (by rw [hv])) hd k1
  · exact va_getN hC.hx hC.hb hC.hts (hC.hlay hc14) hC.hown hC.hK hH.2 k he (z_cl hc14) j hj (va_Nw.use rfl (hC.hn hw)) (fun _ h => h) ((z_fs_get hj).trans (by rw [hv])) hd k1
theorem z_put {idx c j k : Nat} {v : Value} {K' : z_K} {I' : z_I} {L' : z_L} (hd : decode X.2.1 pc = .ok (.putfield idx, 3)) (hk : k < K.1) (hc : (K.2.1 k).1 = c) (hc14 : c < 14) (hj : j < z_N c)
    (hw : (Cond.fieldLink X.1.cls idx (z_T c j).1 (z_T c j).2.1 (z_T c j).2.2.1 ∈ lw_good ∧ ((z_T c j).2.2.2 = false ∨ ((z_T c j).2.2.2 = true ∧ X.1.name = "<init>" ∧ (z_T c j).1 = X.1.cls))) ∨ ∃ host, Cond.fieldLinkNest X.1.cls idx (z_T c j).1 (z_T c j).2.1 (z_T c j).2.2.1 host ∈ lw_nest ∧ (z_T c j).2.2.2 = false)
    (hn : narrow (z_ty c j) v = v) (hfit : fits (z_ty c j) v = true) (h1 : K'.1 = K.1) (h2 : K'.2.1 = K.2.1) (h3 : ∀ i, i ≠ k → K'.2.2 i = K.2.2 i ∧ I' i = I i ∧ L' i = L i)
    (h4 : ∀ i, i < z_N c → z_fv n0 K' I' L' (z_ty c i) k i = if i = j then v else z_fv n0 K I L (z_ty c i) k i) (kk : Z n0 X d rc rs (pc + 3) lv st K' I' L' Q) : Z n0 X d rc rs pc lv (v :: .ref (n0 + k) :: st) K I L Q := by
  intro p l e R s m args below meth c' G mc ms H locs cells slots ls hC hH hS hl hc1 hc2
  have he : (z_ws n0 G K I L)[k]? = some (n0 + k, .inr (c, z_fs n0 K I L c k)) := (z_ws_get hk).trans (by rw [z_E_obj hc hc14])
  have hap := va_apart (own := X.1.cls) hC.hts (hC.hlay hc14) (z_ty c) (z_tyok hc14) (z_nm hc14) hC.hK (z_cl hc14)
  obtain ⟨r, g1, cell, q1, q2, q3, q4⟩ := hH.2 k _ he
  have hr : r = (z_Rn c, z_T c, z_N c) := Option.some.inj (g1.symm.trans (z_cl hc14))
  subst hr
  obtain ⟨hSl, hfc, kC, hkC, hkind⟩ := hC.hK.1 c _ (z_cl hc14)
  obtain ⟨cf, kf, fi, f, hi, hsl⟩ := hSl j hj
  have hst := (u_facts hfc hkC (u_lays hC.hts (hC.hlay hc14) hj) hi).1
  have hlay := hC.hts _ (hC.hlay hc14 _ (u_in_lay hj))
  unfold u_lay at hlay
  have fin : ∀ H' : Heap, H'[n0 + k]? = some (cell.setSlot f.slot v) → H'.size = H.size → (∀ q, q ≠ n0 + k → H'[q]? = H[q]?) → W p l e R s m args below meth c' H' (locs ++ [⟨n0 + k, f.slot⟩]) cells slots (MQ below (z_Q n0 G Q) args s mc ms (z_A n0)) (F0 m (pc + 3) ls st) := by
    intro H' e1 e2 e3
    rw [hsl] at e1 ⊢
    refine kk p l e R s m args below meth c' G mc ms H' _ cells slots ls hC (z_H_set hH hk h1 (fun i hi => z_E_congr (by rw [h2]) (h3 i hi).1 (h3 i hi).2.1 (h3 i hi).2.2) e2 e3 ?_) (hS.put e2 e3 (Nat.le_add_right n0 k)) hl hc1 hc2
    rw [z_E_obj (by rw [h2]; exact hc) hc14]
    refine ⟨_, z_cl hc14, t_OB.to (V := updV (vp_V (z_fs n0 K I L c k)) j v) ⟨_, e1, q2, q3, t_set q4 hap hj v⟩ (fun i hi => ?_)⟩
    rw [z_fs_V hi, h4 i hi]
    unfold updV
    split
    · rfl
    · rw [z_fs_V hi]
  rcases hw with ⟨hw, hfin | ⟨hfin, hinit, hdecl⟩⟩ | ⟨host, hw, hfin⟩
  · rw [if_neg (by rw [hfin]; decide)] at hlay
    have h6 := u_store hfc hkC hkind hlay hi (z_tyok hc14 j hj) hn hfit
    exact W.putK hC.hx hC.hb (f := f) ⟨hC.hown, hC.hw hw, ⟨_, _, _, hi⟩, hst⟩ (by rw [q2]; exact h6) q1 q3 (by rw [hsl]; exact k2_hasslot (q4 j hj)) rfl rfl hd fin
  · rw [if_pos hfin] at hlay
    have hcf : m.cls = cf := by
      obtain ⟨_, _, c'', _, _, _, -, -, hf', -, -, -, hown2, -⟩ := Cond.laysFinal_spec hlay
      have e1 : c'' = cf := by have := hi.symm.trans hf'; simp at this; exact this.1.symm
      rw [hdecl] at hown2
      rw [← e1]; exact Option.some.inj (hC.hown.symm.trans hown2)
    have h6 := u_fits hfc hkC hkind (Or.inr hlay) hi (z_tyok hc14 j hj) hn hfit
    exact W.putFinK hC.hx hC.hb hC.hown (hC.hw hw) hi hst hcf (by rw [hC.hnm, hinit]) (by rw [q2]; exact h6) q1 q3 (by rw [hsl]; exact k2_hasslot (q4 j hj)) rfl rfl hd fin
  · rw [if_neg (by rw [hfin]; decide)] at hlay
    have h6 := u_store hfc hkC hkind hlay hi (z_tyok hc14 j hj) hn hfit
    exact va_WputK hC.hx hC.hb (f := f) hC.hown (va_Nw.use rfl (hC.hn hw)) hi hst (by rw [q2]; exact h6) q1 q3 (by rw [hsl]; exact k2_hasslot (q4 j hj)) rfl rfl hd fin
theorem z_iald {n a : Nat} {i : Int32} (v : Int32) (hd : decode X.2.1 pc = .ok (.iaload, 1)) (ha : a < K.1) (hs : K.2.1 a = (20, n)) (hin : vp_in i n) (hv : I a i.toNatClampNeg = v) (kk : Z n0 X d rc rs (pc + 1) lv (.int v :: st) K I L Q) : Z n0 X d rc rs pc lv (.int i :: .ref (n0 + a) :: st) K I L Q := by
  intro p l e R s m args below meth c' G mc ms H locs cells slots ls hC hH hS hl hc1 hc2
  exact va_iald hC.hx hC.hb hC.hK hH.2 a 0 ((z_ws_get ha).trans (by rw [z_E_int hs (Or.inl rfl)])) rfl hin hd (by rw [hv]; exact kk p l e R s m args below meth c' G mc ms H locs cells slots ls hC hH hS hl hc1 hc2)
theorem z_zald {n a : Nat} {i : Int32} (v : Int32) (hd : decode X.2.1 pc = .ok (.baload, 1)) (ha : a < K.1) (hs : K.2.1 a = (21, n)) (hin : vp_in i n) (hv : I a i.toNatClampNeg = v) (kk : Z n0 X d rc rs (pc + 1) lv (.int v :: st) K I L Q) : Z n0 X d rc rs pc lv (.int i :: .ref (n0 + a) :: st) K I L Q := by
  intro p l e R s m args below meth c' G mc ms H locs cells slots ls hC hH hS hl hc1 hc2
  exact va_zald hC.hx hC.hb hC.hK hH.2 a 1 ((z_ws_get ha).trans (by rw [z_E_int hs (Or.inr rfl)])) rfl hin hd (by rw [hv]; exact kk p l e R s m args below meth c' G mc ms H locs cells slots ls hC hH hS hl hc1 hc2)
theorem z_lald {n a : Nat} {i : Int32} (v : Int64) (hd : decode X.2.1 pc = .ok (.laload, 1)) (ha : a < K.1) (hs : K.2.1 a = (22, n)) (hin : vp_in i n) (hv : L a i.toNatClampNeg = v) (kk : Z n0 X d rc rs (pc + 1) lv (.long v :: st) K I L Q) : Z n0 X d rc rs pc lv (.int i :: .ref (n0 + a) :: st) K I L Q := by
  intro p l e R s m args below meth c' G mc ms H locs cells slots ls hC hH hS hl hc1 hc2
  exact va_lald hC.hx hC.hb hC.hK hH.2 a 2 ((z_ws_get ha).trans (by rw [z_E_long hs])) rfl hin hd (by rw [hv]; exact kk p l e R s m args below meth c' G mc ms H locs cells slots ls hC hH hS hl hc1 hc2)
def z_rt (t : Nat) : Prop := t = 41 ∨ t = 30 ∨ t = 35 ∨ t = 38 ∨ t = 33 ∨ t = 36 ∨ t = 40
theorem z_tys_get {G : z_G} {t : Nat} (h : z_rt t) : (z_tys G)[z_ti t]? = some (G.2.2.1 t, .object (z_Rn (t - 30))) := by
  rcases h with rfl | rfl | rfl | rfl | rfl | rfl | rfl <;> rfl
theorem z_rt_lt {t : Nat} (h : z_rt t) : 22 < t ∧ t - 30 < 14 := by
  unfold z_rt at h; omega
theorem z_aald {n a t : Nat} {i : Int32} (v : Option Nat) (hd : decode X.2.1 pc = .ok (.aaload, 1)) (ha : a < K.1) (hs : K.2.1 a = (t, n)) (ht : z_rt t) (hin : vp_in i n) (hv : K.2.2 a i.toNatClampNeg = v) (kk : Z n0 X d rc rs (pc + 1) lv (zr n0 v :: st) K I L Q) : Z n0 X d rc rs pc lv (.int i :: .ref (n0 + a) :: st) K I L Q := by
  intro p l e R s m args below meth c' G mc ms H locs cells slots ls hC hH hS hl hc1 hc2
  exact va_aldq hC.hx hC.hb hC.hK hH.2 a (z_ti t) ((z_ws_get ha).trans (by rw [z_E_ref hs (z_rt_lt ht).1])) (z_tys_get ht) hin hd (by rw [hv]; exact kk p l e R s m args below meth c' G mc ms H locs cells slots ls hC hH hS hl hc1 hc2)
theorem zI_ne {a k j : Nat} {v : Int32} (h : a ≠ k) : zI I k j v a = I a := by unfold zI; rw [if_neg h]
theorem zI_at {k j : Nat} {v : Int32} : zI I k j v k = fun b => if b = j then v else I k b := by unfold zI; rw [if_pos rfl]
theorem zL_ne {a k j : Nat} {v : Int64} (h : a ≠ k) : zL L k j v a = L a := by unfold zL; rw [if_neg h]
theorem zL_at {k j : Nat} {v : Int64} : zL L k j v k = fun b => if b = j then v else L k b := by unfold zL; rw [if_pos rfl]
theorem zR_ne {a k j : Nat} {v : Option Nat} (h : a ≠ k) : (zR K k j v).2.2 a = K.2.2 a := by simp [zR, h]
theorem zR_at {k j : Nat} {v : Option Nat} : (zR K k j v).2.2 k = fun b => if b = j then v else K.2.2 k b := by simp [zR]
theorem z_iast {n a : Nat} {i x : Int32} (hd : decode X.2.1 pc = .ok (.iastore, 1)) (ha : a < K.1) (hs : K.2.1 a = (20, n)) (hin : vp_in i n) (kk : Z n0 X d rc rs (pc + 1) lv st K (zI I a i.toNatClampNeg x) L Q) : Z n0 X d rc rs pc lv (.int x :: .int i :: .ref (n0 + a) :: st) K I L Q := by
  intro p l e R s m args below meth c' G mc ms H locs cells slots ls hC hH hS hl hc1 hc2
  have he := hH.2 a _ (z_ws_get ha)
  rw [z_E_int hs (Or.inl rfl)] at he
  refine W.iast hC.hx hC.hb he ((hC.hK.2 0 _ rfl).1 n (fun j => .int (I a j))) (fun q => by cases q) (by show ¬ (i < 0 ∨ (arrV _ _ _).slots.size ≤ _); rw [arrV_size]; exact hin) rfl rfl hd fun H1 e1 z1 oq => ?_
  refine kk p l e R s m args below meth c' G mc ms H1 _ cells slots ls hC (z_H_set hH ha rfl (fun i hi => z_E_congr rfl rfl (zI_ne hi) rfl) z1 oq ?_) (hS.put z1 oq (Nat.le_add_right n0 a)) hl hc1 hc2
  rw [z_E_int hs (Or.inl rfl)]
  show H1[n0 + a]? = some (vp_cell _ _)
  rw [e1, zI_at, vp_cell_i, vp_cell_i, arrV_store]
  congr 2
  funext q
  unfold updV
  split <;> rfl
theorem z_zast {n a : Nat} {i x : Int32} (y : Int32) (hd : decode X.2.1 pc = .ok (.bastore, 1)) (ha : a < K.1) (hs : K.2.1 a = (21, n)) (hin : vp_in i n) (hy : narrow .boolean (.int x) = .int y) (kk : Z n0 X d rc rs (pc + 1) lv st K (zI I a i.toNatClampNeg y) L Q) : Z n0 X d rc rs pc lv (.int x :: .int i :: .ref (n0 + a) :: st) K I L Q := by
  intro p l e R s m args below meth c' G mc ms H locs cells slots ls hC hH hS hl hc1 hc2
  have he := hH.2 a _ (z_ws_get ha)
  rw [z_E_int hs (Or.inr rfl)] at he
  refine W.zast hC.hx hC.hb he ((hC.hK.2 1 _ rfl).1 n (fun j => .int (I a j))) (fun q => by cases q) (by show ¬ (i < 0 ∨ (arrV _ _ _).slots.size ≤ _); rw [arrV_size]; exact hin) rfl rfl hd fun H1 e1 z1 oq => ?_
  rw [hy] at e1
  refine kk p l e R s m args below meth c' G mc ms H1 _ cells slots ls hC (z_H_set hH ha rfl (fun i hi => z_E_congr rfl rfl (zI_ne hi) rfl) z1 oq ?_) (hS.put z1 oq (Nat.le_add_right n0 a)) hl hc1 hc2
  rw [z_E_int hs (Or.inr rfl)]
  show H1[n0 + a]? = some (vp_cell _ _)
  rw [e1, zI_at, vp_cell_i, vp_cell_i, arrV_store]
  congr 2
  funext q
  unfold updV
  split <;> rfl
theorem z_last {n a : Nat} {i : Int32} {x : Int64} (hd : decode X.2.1 pc = .ok (.lastore, 1)) (ha : a < K.1) (hs : K.2.1 a = (22, n)) (hin : vp_in i n) (kk : Z n0 X d rc rs (pc + 1) lv st K I (zL L a i.toNatClampNeg x) Q) : Z n0 X d rc rs pc lv (.long x :: .int i :: .ref (n0 + a) :: st) K I L Q := by
  intro p l e R s m args below meth c' G mc ms H locs cells slots ls hC hH hS hl hc1 hc2
  have he := hH.2 a _ (z_ws_get ha)
  rw [z_E_long hs] at he
  refine W.last hC.hx hC.hb he ((hC.hK.2 2 _ rfl).1 n (fun j => .long (L a j))) (fun q => by cases q) (by show ¬ (i < 0 ∨ (arrV _ _ _).slots.size ≤ _); rw [arrV_size]; exact hin) rfl rfl hd fun H1 e1 z1 oq => ?_
  refine kk p l e R s m args below meth c' G mc ms H1 _ cells slots ls hC (z_H_set hH ha rfl (fun i hi => z_E_congr rfl rfl rfl (zL_ne hi)) z1 oq ?_) (hS.put z1 oq (Nat.le_add_right n0 a)) hl hc1 hc2
  rw [z_E_long hs]
  show H1[n0 + a]? = some (vp_cell _ _)
  rw [e1, zL_at, vp_cell_l, vp_cell_l, arrV_store]
  congr 2
  funext q
  unfold updV
  split <;> rfl
theorem z_aast {n a t v : Nat} {i : Int32} (hd : decode X.2.1 pc = .ok (.aastore, 1)) (ha : a < K.1) (hs : K.2.1 a = (t, n)) (ht : z_rt t) (hin : vp_in i n) (hv : v < K.1) (hvc : (K.2.1 v).1 = t - 30) (kk : Z n0 X d rc rs (pc + 1) lv st (zR K a i.toNatClampNeg (some v)) I L Q) : Z n0 X d rc rs pc lv (.ref (n0 + v) :: .int i :: .ref (n0 + a) :: st) K I L Q := by
  intro p l e R s m args below meth c' G mc ms H locs cells slots ls hC hH hS hl hc1 hc2
  have he := hH.2 a _ (z_ws_get ha)
  rw [z_E_ref hs (z_rt_lt ht).1] at he
  have hlt : i.toNatClampNeg < n := Nat.not_le.mp fun q => hin (Or.inr q)
  have h0 : ¬ i < 0 := fun q => hin (Or.inl q)
  have hv2 := hH.2 v _ (z_ws_get hv)
  rw [z_E_obj hvc (z_rt_lt ht).2] at hv2
  obtain ⟨r', hr', cellV, g1, g2, g3, -⟩ := hv2
  have hcls := (hC.hK.1 (t - 30) _ (z_cl (z_rt_lt ht).2)).2
  obtain ⟨kA, comp, k1, k2, k3, -⟩ := (hC.hK.2 (z_ti t) _ (z_tys_get ht)).2
  have hcomp : comp = G.1 (t - 30) := Option.some.inj (k3.symm.trans hcls.1)
  subst hcomp
  obtain ⟨kC, hkC, -⟩ := hcls.2
  refine W.aast hC.hx hC.hb he (fun q h => by cases h) (fun h => by cases h) k1 k2 rfl hkC ⟨h0, by show _ < (arrV _ _ _).slots.size; rw [arrV_size]; exact hlt⟩ g1 (fun q h => by rw [g3] at h; cases h) (by rw [g2]; exact hkC) (by rw [g2]; exact va_assign hcls) rfl rfl hd fun H1 e1 z1 oq => ?_
  refine kk p l e R s m args below meth c' G mc ms H1 _ cells slots ls hC (z_H_set hH ha rfl (fun i hi => z_E_congr rfl (zR_ne hi) rfl rfl) z1 oq ?_) (hS.put z1 oq (Nat.le_add_right n0 a)) hl hc1 hc2
  rw [z_E_ref (K := zR K a i.toNatClampNeg (some v)) hs (z_rt_lt ht).1]
  show H1[n0 + a]? = some (vp_cell _ _)
  rw [e1, zR_at, vp_cell_q, vp_cell_q, arrV_store]
  congr 2
  funext q
  unfold updV
  split
  · rename_i h; simp [h, va_rf]
  · rename_i h; simp [h]
theorem z_alen {n a t : Nat} (v : Int32) (hd : decode X.2.1 pc = .ok (.arraylength, 1)) (ha : a < K.1) (hs : K.2.1 a = (20, n)) (hv : Int32.ofNat n = v) (kk : Z n0 X d rc rs (pc + 1) lv (.int v :: st) K I L Q) : Z n0 X d rc rs pc lv (.ref (n0 + a) :: st) K I L Q := by
  intro p l e R s m args below meth c' G mc ms H locs cells slots ls hC hH hS hl hc1 hc2
  exact va_alen hC.hx hC.hb hC.hK hH.2 a 0 ((z_ws_get ha).trans (by rw [z_E_int hs (Or.inl rfl)])) rfl hv hd (kk p l e R s m args below meth c' G mc ms H locs cells slots ls hC hH hS hl hc1 hc2)
theorem z_new {idx c : Nat} (hd : decode X.2.1 pc = .ok (.new idx, 3)) (hc14 : c < 14) (hw1 : Cond.classLink X.1.cls idx (z_Rn c) ∈ lw_good) (hw2 : Cond.instantiable (z_Rn c) (z_N c) ∈ lw_good) (hw3 : Cond.initialized (z_Rn c) ∈ lw_good)
    (kk : Z n0 X d rc rs (pc + 3) lv (.ref (n0 + K.1) :: st) (zN K c 0) (zI0 I K.1) (zL0 L K.1) Q) : Z n0 X d (rc + 1) (rs + z_N c) pc lv st K I L Q := by
  intro p l e R s m args below meth c' G mc ms H locs cells slots ls hC hH hS hl hc1 hc2
  have hKn := hC.hK.1 c _ (z_cl hc14)
  have hR := hC.hR
  refine W.newcK hC.hx hC.hb hC.hown (hC.hw hw1) (hC.hw hw2) (hC.hw hw3) rfl hd (by rw [hR]; show cells + 1 ≤ mc; omega) (by rw [hR]; show slots + z_N c ≤ ms; omega) hKn.2.1 hH.1 fun H1 kC hkC e1 z1 o1 => ?_
  have z2 : H1.size = H.size + 1 := by rw [z1, hH.1]
  have o2 : ∀ q : Nat, q < H.size → H1[q]? = H[q]? := fun q hq => o1 q (by rw [← hH.1]; exact hq)
  refine kk p l e R s m args below meth c' G mc ms H1 locs (cells + 1) (slots + z_N c) ls hC (z_H_push hH rfl (fun j hj => z_E_congr (by simp [zN, Nat.ne_of_lt hj]) (by simp [zN, Nat.ne_of_lt hj]) (by simp [zI0, Nat.ne_of_lt hj]) (by simp [zL0, Nat.ne_of_lt hj])) z2 o2 ?_) ⟨Nat.le_trans hS.1 (by omega), fun x g1 g2 => (o2 x (Nat.lt_of_lt_of_le g1 hS.1)).trans (hS.2.1 x g1 g2), hS.2.2⟩ hl (by omega) (by omega)
  rw [z_E_obj (c := c) (by simp [zN]) hc14]
  refine ⟨_, z_cl hc14, t_OB.to (u_born (z_ty c) hC.hts (hC.hlay hc14) hKn hkC e1 (z_tyok hc14)) (fun i hi => ?_)⟩
  rw [z_fs_V hi]
  obtain ⟨f1, f2⟩ := z_flt hc14 i hi
  generalize z_ty c i = ty at f1 f2
  cases ty <;> first | exact absurd rfl f1 | exact absurd rfl f2 | simp [z_fv, defaultValue, zI0, zL0, zN, zr, va_rf]
theorem z_newa {at0 : ArrayType} {t : Nat} {n : Int32} (hd : decode X.2.1 pc = .ok (.newarray at0, 2)) (ht : (at0 = .int ∧ t = 20) ∨ (at0 = .boolean ∧ t = 21) ∨ (at0 = .long ∧ t = 22)) (hw : Cond.arrayClass (newarray.typeOf at0) ∈ lw_good) (hn : ¬ n < 0) (hb : n.toNatClampNeg ≤ 60000)
    (kk : Z n0 X d rc rs (pc + 2) lv (.ref (n0 + K.1) :: st) (zN K t n.toNatClampNeg) (zI0 I K.1) (zL0 L K.1) Q) : Z n0 X d (rc + 1) (rs + n.toNatClampNeg) pc lv (.int n :: st) K I L Q := by
  intro p l e R s m args below meth c' G mc ms H locs cells slots ls hC hH hS hl hc1 hc2
  have hR := hC.hR
  refine va_newaK hC.hx hC.hb (hC.hw hw) rfl hd rfl hn rfl (by rcases ht with ⟨rfl, -⟩ | ⟨rfl, -⟩ | ⟨rfl, -⟩ <;> simp [componentBytes, newarray.typeOf] <;> omega) (by rw [hR]; show cells + 1 ≤ mc; omega) (by rw [hR]; show slots + n.toNatClampNeg ≤ ms; omega) hH.1 fun H1 cA e1 z1 o1 hAr hNm => ?_
  have z2 : H1.size = H.size + 1 := by rw [z1, hH.1]
  have o2 : ∀ q : Nat, q < H.size → H1[q]? = H[q]? := fun q hq => o1 q (by rw [← hH.1]; exact hq)
  refine kk p l e R s m args below meth c' G mc ms H1 locs (cells + 1) (slots + n.toNatClampNeg) ls hC (z_H_push hH rfl (fun j hj => z_E_congr (by simp [zN, Nat.ne_of_lt hj]) (by simp [zN, Nat.ne_of_lt hj]) (by simp [zI0, Nat.ne_of_lt hj]) (by simp [zL0, Nat.ne_of_lt hj])) z2 o2 ?_) ⟨Nat.le_trans hS.1 (by omega), fun x g1 g2 => (o2 x (Nat.lt_of_lt_of_le g1 hS.1)).trans (hS.2.1 x g1 g2), hS.2.2⟩ hl (by omega) (by omega)
  rcases ht with ⟨rfl, rfl⟩ | ⟨rfl, rfl⟩ | ⟨rfl, rfl⟩
  · have hcA : cA = G.2.2.1 20 := Option.some.inj (hNm.symm.trans (hC.hK.2 0 _ rfl).2)
    rw [z_E_int (t := 20) (n := n.toNatClampNeg) (by simp [zN]) (Or.inl rfl), ← hcA]
    show H1[n0 + K.1]? = some (vp_cell _ _)
    rw [e1, vp_cell_i]; simp [zI0, defaultValue, newarray.typeOf]
  · have hcA : cA = G.2.2.1 21 := Option.some.inj (hNm.symm.trans (hC.hK.2 1 _ rfl).2)
    rw [z_E_int (t := 21) (n := n.toNatClampNeg) (by simp [zN]) (Or.inr rfl), ← hcA]
    show H1[n0 + K.1]? = some (vp_cell _ _)
    rw [e1, vp_cell_i]; simp [zI0, defaultValue, newarray.typeOf]
  · have hcA : cA = G.2.2.1 22 := Option.some.inj (hNm.symm.trans (hC.hK.2 2 _ rfl).2)
    rw [z_E_long (n := n.toNatClampNeg) (by simp [zN]), ← hcA]
    show H1[n0 + K.1]? = some (vp_cell _ _)
    rw [e1, vp_cell_l]; simp [zL0, defaultValue, newarray.typeOf]
theorem z_newq {idx t : Nat} {n : Int32} (hd : decode X.2.1 pc = .ok (.anewarray idx, 3)) (ht : z_rt t) (hw : Cond.classLink X.1.cls idx (z_Rn (t - 30)) ∈ lw_good) (hw2 : Cond.arrayOver (.object (z_Rn (t - 30))) ∈ lw_nest) (hn : ¬ n < 0) (hb : n.toNatClampNeg ≤ 60000)
    (kk : Z n0 X d rc rs (pc + 3) lv (.ref (n0 + K.1) :: st) (zN K t n.toNatClampNeg) (zI0 I K.1) (zL0 L K.1) Q) : Z n0 X d (rc + 1) (rs + n.toNatClampNeg) pc lv (.int n :: st) K I L Q := by
  intro p l e R s m args below meth c' G mc ms H locs cells slots ls hC hH hS hl hc1 hc2
  have hR := hC.hR
  refine W.anew hC.hx hC.hb hC.hown (hC.hw hw) (hC.hn hw2) rfl hd rfl hn (by omega) (by rw [hR]; show cells + 1 ≤ mc; omega) (by rw [hR]; show slots + n.toNatClampNeg ≤ ms; omega) fun cA kA comp f1 f2 f3 f4 => ?_
  generalize hH1 : H.push ({ cls := cA, slots := Array.replicate n.toNatClampNeg .null, vm := .none } : Cell) = H1
  have z2 : H1.size = H.size + 1 := by rw [← hH1, Array.size_push]
  have e1 : H1[H.size]? = some (arrV cA n.toNatClampNeg (fun _ => .null)) := by rw [← hH1, Array.getElem?_push_size, ← arrV_new]
  have o2 : ∀ q : Nat, q < H.size → H1[q]? = H[q]? := fun q hq => by rw [← hH1, Array.getElem?_push, if_neg (Nat.ne_of_lt hq)]
  have k1 := kk p l e R s m args below meth c' G mc ms H1 locs (cells + 1) (slots + n.toNatClampNeg) ls hC (z_H_push hH rfl (fun j hj => z_E_congr (by simp [zN, Nat.ne_of_lt hj]) (by simp [zN, Nat.ne_of_lt hj]) (by simp [zI0, Nat.ne_of_lt hj]) (by simp [zL0, Nat.ne_of_lt hj])) z2 o2 ?_) ⟨Nat.le_trans hS.1 (by omega), fun x g1 g2 => (o2 x (Nat.lt_of_lt_of_le g1 hS.1)).trans (hS.2.1 x g1 g2), hS.2.2⟩ hl (by omega) (by omega)
  · rw [← hH.1] at k1
    exact k1
  · obtain ⟨kA', comp', -, -, -, k4⟩ := (hC.hK.2 (z_ti t) _ (z_tys_get ht)).2
    have hcA : cA = G.2.2.1 t := Option.some.inj (f1.symm.trans k4)
    rw [z_E_ref (t := t) (n := n.toNatClampNeg) (by simp [zN]) (z_rt_lt ht).1, ← hcA]
    show H1[n0 + K.1]? = some (vp_cell _ _)
    rw [← hH.1, e1, vp_cell_q]; simp [zN, va_rf]
theorem z_objInit {idx k : Nat} (hd : decode X.2.1 pc = .ok (.invokespecial idx, 3)) (hw : Cond.methodLink X.1.cls idx Lib.objectInit ∈ lw_good) (hw2 : Cond.instanceMethod Lib.objectInit ∈ lw_good) (hw3 : Cond.code Lib.objectInit ⟨#[0xb1]⟩ 1 none ∈ lw_good) (hd1 : 1 ≤ d)
    (kk : Z n0 X d rc rs (pc + 3) lv [] K I L Q) : Z n0 X d rc rs pc lv [.ref k] K I L Q := by
  intro p l e R s m args below meth c' G mc ms H locs cells slots ls hC hH hS hl hc1 hc2
  have hR := hC.hR
  refine W.objInit hC.hx hC.hb hC.hown (hC.hw hw) (hC.hw hw2) (hC.hw hw3) rfl (by rw [hC.hml]; exact hl.1) rfl hd (by rw [hR]; exact hd1) (by rw [hR]; show 2 * 0 + 0 + 12 ≤ 60 * d + 20; omega) ?_
  exact kk p l e R s m args below meth c' G mc ms H locs cells slots ls hC hH hS hl hc1 hc2
theorem z_iret {v : Int32} (hd : decode X.2.1 pc = .ok (.ireturn, 1)) (hr : X.2.2.2 = some .int) (hQ : Q (some (.int v)) K I L) : Z n0 X d rc rs pc lv [.int v] K I L Q := by
  intro p l e R s m args below meth c' G mc ms H locs cells slots ls hC hH hS hl hc1 hc2
  refine W.widen (k := mc) (n := ms) (by omega) (by omega) ?_
  exact W.iret hC.hx hC.hb (hC.hr.trans hr) (fun t ht hW => ⟨⟨_, K, I, L, rfl, hQ, by rw [ht]; exact hH⟩, hS.F ht⟩) hS.2.2 hd hC.hlk
theorem z_zret {v : Int32} (hd : decode X.2.1 pc = .ok (.ireturn, 1)) (hr : X.2.2.2 = some .boolean) (hn : narrow .boolean (.int v) = .int v) (hQ : Q (some (.int v)) K I L) : Z n0 X d rc rs pc lv [.int v] K I L Q := by
  intro p l e R s m args below meth c' G mc ms H locs cells slots ls hC hH hS hl hc1 hc2
  refine W.widen (k := mc) (n := ms) (by omega) (by omega) ?_
  exact W.zret hC.hx hC.hb (hC.hr.trans hr) hn (fun t ht hW => ⟨⟨_, K, I, L, rfl, hQ, by rw [ht]; exact hH⟩, hS.F ht⟩) hS.2.2 hd hC.hlk
theorem z_lret {v : Int64} (hd : decode X.2.1 pc = .ok (.lreturn, 1)) (hr : X.2.2.2 = some .long) (hQ : Q (some (.long v)) K I L) : Z n0 X d rc rs pc lv [.long v] K I L Q := by
  intro p l e R s m args below meth c' G mc ms H locs cells slots ls hC hH hS hl hc1 hc2
  refine W.widen (k := mc) (n := ms) (by omega) (by omega) ?_
  exact W.lret hC.hx hC.hb (hC.hr.trans hr) (fun t ht hW => ⟨⟨_, K, I, L, rfl, hQ, by rw [ht]; exact hH⟩, hS.F ht⟩) hS.2.2 hd hC.hlk
theorem z_vret (hd : decode X.2.1 pc = .ok (.return_, 1)) (hr : X.2.2.2 = none) (hQ : Q none K I L) : Z n0 X d rc rs pc lv [] K I L Q := by
  intro p l e R s m args below meth c' G mc ms H locs cells slots ls hC hH hS hl hc1 hc2
  refine W.widen (k := mc) (n := ms) (by omega) (by omega) ?_
  exact W.vret hC.hx hC.hb (hC.hr.trans hr) (fun t ht hW => ⟨⟨_, K, I, L, rfl, hQ, by rw [ht]; exact hH⟩, hS.F ht⟩) hS.2.2 hd hC.hlk
theorem z_aret {o : Option Nat} {rt : FieldType} (hd : decode X.2.1 pc = .ok (.areturn, 1)) (hr : X.2.2.2 = some rt) (hrt : (∃ n, rt = .object n) ∨ ∃ t, rt = .array t) (hQ : Q (some (zr n0 o)) K I L) : Z n0 X d rc rs pc lv [zr n0 o] K I L Q := by
  intro p l e R s m args below meth c' G mc ms H locs cells slots ls hC hH hS hl hc1 hc2
  refine W.widen (k := mc) (n := ms) (by omega) (by omega) ?_
  exact W.aret hC.hx hC.hb (hC.hr.trans hr) hrt (by cases o with | none => exact Or.inl rfl | some q => exact Or.inr ⟨_, rfl⟩) (fun t ht hW => ⟨⟨_, K, I, L, rfl, hQ, by rw [ht]; exact hH⟩, hS.F ht⟩) hS.2.2 hd hC.hlk
/-- a body that comes to its end is a contract -/
theorem z_entry {mc ms : Nat} {As : List Value} (hp : plainName X.1.cls = true) (hlen : (lg_sl As).length ≤ X.2.2.1) (h : Z n0 X d mc ms 0 (lv_args 0 As) [] K I L Q) : RM n0 X d mc ms As K I L Q := by
  intro l G
  refine Met.ofW (cc := X.2.1) (maxL := X.2.2.1) (ret := X.2.2.2) hp rfl ?_
  intro p e s m args below meth c s₁ B hml hv
  obtain ⟨rfl, hH, hK, hSt⟩ := hv
  have hl := lv_entry As (n := X.2.2.1) hlen
  rw [lg_entry_eq]
  exact h p l e _ s m _ below meth c G mc ms s.heap [] 0 0 _ ⟨B.exec, B.bytes, hml, B.returns, B.notSynchronized, findClass_of_methodNamed B.named, atoms_spec (ws := z_cw X :: lw_good) B.pre, hK, hSt, rfl, (name_of_methodNamed B.named B.method).1⟩ hH va_S.rf hl (by omega) (by omega)
theorem z_goodIn {Y : z_X} {c : Cond} (h : z_cw Y ∈ lw_good) : GoodIn (c :: lw_good) (z_cw Y :: lw_good) := by
  have g : ∀ w, w ∈ lw_good → w ∈ c :: lw_good ∧ ((w.onTables && w.keeps) = true ∨ ∃ ty, w = .arrayClass ty) := fun w hw => ⟨List.mem_cons_of_mem _ hw, good_of_word (List.mem_filter.mp hw).2⟩
  intro w hw
  rcases List.mem_cons.mp hw with rfl | hw
  · exact g _ h
  · exact g _ hw
def z_hy (Y : z_X) (n : Nat) : Prop := (Y.1.cls ≠ "java/lang/invoke/MethodHandle" ∧ Y.1.cls ≠ "java/lang/invoke/VarHandle" ∧ (parseMethodDescriptor Y.1.desc).map (fun d => d.parameters.length) = some n) ∧ Y.2.2.1 ≤ 41 ∧ z_cw Y ∈ lw_good ∧ Cond.initialized Y.1.cls ∈ lw_good
theorem z_after {p : Program} {l : Launch} {e : Env} {R : Room} {s : State} {m : MethodId} {args : Array Value} {below : List Frame} {meth : Method} {c : Code} {G : z_G} {mc ms mc1 ms1 : Nat} {H : Heap} {locs : List Loc} {cells slots : Nat} {ls : Array Slot} {stk rest : List Value} {a : Array Value}
    (hC : z_C n0 X d mc ms G p R s m args meth c) (hS : va_S (z_A n0) s.heap H locs) (hl : lv_has ls X.2.2.1 lv) (hc1 : cells + (rc + mc1) ≤ mc) (hc2 : slots + (rs + ms1) ≤ ms)
    (run : va_Run p l e R s m args below meth c H locs cells slots mc1 ms1 (F0 m pc ls stk) rest (z_Q n0 G (fun v K' I' L' => Z n0 X d rc rs (pc + 3) lv (v.toList ++ rest) K' I' L' Q) a) (z_A n0)) :
    W p l e R s m args below meth c H locs cells slots (MQ below (z_Q n0 G Q) args s mc ms (z_A n0)) (F0 m pc ls stk) := by
  intro T hT Xs
  obtain ⟨v, st₀, t, T', L0, h0, X', hL, e1, e2, ⟨⟨v', K', I', L', hv, hQ, hH'⟩, hF⟩, goes⟩ := run T hT Xs
  cases hv
  unfold va_F at hF
  rw [h0] at hF
  have hk := hQ p l e R s m args below meth c G mc ms T'.heap (locs ++ L0) (cells + mc1) (slots + ms1) ls hC (by rw [e1]; exact hH') ⟨by rw [e1]; exact Nat.le_trans hS.1 hF.1, fun q g1 g2 => by rw [e1, hF.2 q (Nat.lt_of_lt_of_le g1 hS.1) g2]; exact hS.2.1 q g1 g2, fun q hq => by
    rcases List.mem_append.mp hq with h | h
    · exact hS.2.2 q h
    · exact hL q h⟩ hl (by omega) (by omega)
  obtain ⟨t2, a1, b1⟩ := hk T' rfl X'
  exact ⟨t2, goes t2 a1, b1⟩
theorem z_pre {s : State} {H : Heap} {G : z_G} {locs : List Loc} {As : List Value} (hK : va_K (G.1, G.2.1) vwCl (z_tys G) s) (hSt : z_St n0 G s) (hH : z_H n0 G K I L H) (hS : va_S (z_A n0) s.heap H locs) : PreS s H (va_Pc As (z_W n0 G K I L)) As :=
  ⟨z_W_blind, fun U hU hW => ⟨rfl, by rw [hU]; exact hH, va_K.moved hW.alike hK, z_St_moved hSt hU hS hW⟩⟩
theorem z_callS {Y : z_X} {idx mc1 ms1 d1 : Nat} {As : List Value} (hd : decode X.2.1 pc = .ok (.invokestatic idx, 3)) (hy : z_hy Y As.length) (hw1 : Cond.methodLink X.1.cls idx Y.1 ∈ lw_good) (hw2 : Cond.static Y.1 ∈ lw_good) (hd1 : d1 + 1 ≤ d) (hcat : (st.map fun v => v.category).sum ≤ 8)
    (h : RM n0 Y d1 mc1 ms1 As K I L (fun v K' I' L' => Z n0 X d rc rs (pc + 3) lv (v.toList ++ st) K' I' L' Q)) : Z n0 X d (rc + mc1) (rs + ms1) pc lv (As.reverse ++ st) K I L Q := by
  intro p l e R s m args below meth c' G mc ms H locs cells slots ls hC hH hS hl hc1 hc2
  have hR := hC.hR
  refine z_after hC hS hl hc1 hc2 (va_runS ⟨hC.hx, hC.hb, hC.hml, hC.hown, hC.hts⟩ (h l G) ⟨callB_of As.length hC.hts (z_goodIn hy.2.2.1) rfl rfl rfl (hC.hw hy.2.2.2) (hC.hw hw1) hy.1 (by rw [hR]; have := hy.2.1; exact ⟨hd1, by show 8 + (Y.2.2.1 + 11) + (60 * d1 + 20) ≤ 60 * d + 20; omega⟩), hC.hw hw2⟩ (z_pre hC.hK hC.hSt hH hS) rfl rfl hl.1 rfl (lv_room hcat) hd (by rw [hR]; exact ⟨by show cells + mc1 ≤ mc; omega, by show slots + ms1 ≤ ms; omega⟩))
theorem z_callSN {Y : z_X} {idx mc1 ms1 d1 : Nat} {host : String} {As : List Value} (hd : decode X.2.1 pc = .ok (.invokestatic idx, 3)) (hy : z_hy Y As.length) (hw1 : Cond.methodLinkNest X.1.cls idx Y.1 host ∈ lw_nest) (hw2 : Cond.static Y.1 ∈ lw_good) (hd1 : d1 + 1 ≤ d) (hcat : (st.map fun v => v.category).sum ≤ 8)
    (h : RM n0 Y d1 mc1 ms1 As K I L (fun v K' I' L' => Z n0 X d rc rs (pc + 3) lv (v.toList ++ st) K' I' L' Q)) : Z n0 X d (rc + mc1) (rs + ms1) pc lv (As.reverse ++ st) K I L Q := by
  intro p l e R s m args below meth c' G mc ms H locs cells slots ls hC hH hS hl hc1 hc2
  have hR := hC.hR
  refine z_after hC hS hl hc1 hc2 (va_runSN ⟨hC.hx, hC.hb, hC.hml, hC.hown, hC.hts⟩ (h l G) ⟨va_cnB As.length hC.hts (z_goodIn hy.2.2.1) rfl rfl rfl (hC.hn hw1) (hC.hw hy.2.2.2) hy.1 (by rw [hR]; have := hy.2.1; exact ⟨hd1, by show 8 + (Y.2.2.1 + 11) + (60 * d1 + 20) ≤ 60 * d + 20; omega⟩), hC.hw hw2, trivial⟩ (z_pre hC.hK hC.hSt hH hS) rfl rfl hl.1 rfl (lv_room hcat) hd (by rw [hR]; exact ⟨by show cells + mc1 ≤ mc; omega, by show slots + ms1 ≤ ms; omega⟩))
theorem z_callI {Y : z_X} {idx mc1 ms1 d1 k : Nat} {As : List Value} (hd : decode X.2.1 pc = .ok (.invokespecial idx, 3)) (hy : z_hy Y As.length) (hy2 : Y.2.2.2 = none) (hy3 : Y.1.name = "<init>") (hw1 : Cond.methodLink X.1.cls idx Y.1 ∈ lw_good) (hw2 : Cond.instanceMethod Y.1 ∈ lw_good) (hd1 : d1 + 1 ≤ d) (hcat : (st.map fun v => v.category).sum ≤ 8)
    (h : RM n0 Y d1 mc1 ms1 (.ref (n0 + k) :: As) K I L (fun v K' I' L' => Z n0 X d rc rs (pc + 3) lv (v.toList ++ st) K' I' L' Q)) : Z n0 X d (rc + mc1) (rs + ms1) pc lv (As.reverse ++ .ref (n0 + k) :: st) K I L Q := by
  intro p l e R s m args below meth c' G mc ms H locs cells slots ls hC hH hS hl hc1 hc2
  have hR := hC.hR
  obtain ⟨Y1, Y2, Y3, Y4⟩ := Y
  dsimp only at hy2
  subst hy2
  refine z_after hC hS hl hc1 hc2 (va_runI ⟨hC.hx, hC.hb, hC.hml, hC.hown, hC.hts⟩ (h l G) ⟨callB_of As.length hC.hts (z_goodIn hy.2.2.1) rfl rfl rfl (hC.hw hy.2.2.2) (hC.hw hw1) hy.1 (by rw [hR]; have := hy.2.1; dsimp only at this; exact ⟨hd1, by show 8 + (Y3 + 11) + (60 * d1 + 20) ≤ 60 * d + 20; omega⟩), hy3, hC.hw hw2⟩ (z_pre hC.hK hC.hSt hH hS) rfl rfl hl.1 rfl (lv_room hcat) hd (by rw [hR]; exact ⟨by show cells + mc1 ≤ mc; omega, by show slots + ms1 ≤ ms; omega⟩))
theorem z_callIN {Y : z_X} {idx mc1 ms1 d1 k : Nat} {host : String} {As : List Value} (hd : decode X.2.1 pc = .ok (.invokespecial idx, 3)) (hy : z_hy Y As.length) (hy2 : Y.2.2.2 = none) (hy3 : Y.1.name = "<init>") (hw1 : Cond.methodLinkNest X.1.cls idx Y.1 host ∈ lw_nest) (hw2 : Cond.instanceMethod Y.1 ∈ lw_good) (hd1 : d1 + 1 ≤ d) (hcat : (st.map fun v => v.category).sum ≤ 8)
    (h : RM n0 Y d1 mc1 ms1 (.ref (n0 + k) :: As) K I L (fun v K' I' L' => Z n0 X d rc rs (pc + 3) lv (v.toList ++ st) K' I' L' Q)) : Z n0 X d (rc + mc1) (rs + ms1) pc lv (As.reverse ++ .ref (n0 + k) :: st) K I L Q := by
  intro p l e R s m args below meth c' G mc ms H locs cells slots ls hC hH hS hl hc1 hc2
  have hR := hC.hR
  obtain ⟨Y1, Y2, Y3, Y4⟩ := Y
  dsimp only at hy2
  subst hy2
  refine z_after hC hS hl hc1 hc2 (va_runIN ⟨hC.hx, hC.hb, hC.hml, hC.hown, hC.hts⟩ (h l G) ⟨va_cnB As.length hC.hts (z_goodIn hy.2.2.1) rfl rfl rfl (hC.hn hw1) (hC.hw hy.2.2.2) hy.1 (by rw [hR]; have := hy.2.1; dsimp only at this; exact ⟨hd1, by show 8 + (Y3 + 11) + (60 * d1 + 20) ≤ 60 * d + 20; omega⟩), hy3, hC.hw hw2⟩ (z_pre hC.hK hC.hSt hH hS) rfl rfl hl.1 rfl (lv_room hcat) hd (by rw [hR]; exact ⟨by show cells + mc1 ≤ mc; omega, by show slots + ms1 ≤ ms; omega⟩))
theorem z_callV {Y : z_X} {idx mc1 ms1 d1 k c : Nat} {As : List Value} (hd : decode X.2.1 pc = .ok (.invokevirtual idx, 3)) (hy : z_hy Y As.length) (hk : k < K.1) (hc : (K.2.1 k).1 = c) (hc14 : c < 14) (hw1 : Cond.methodLink X.1.cls idx Y.1 ∈ lw_good) (hw2 : Cond.instanceMethod Y.1 ∈ lw_good) (hw3 : Cond.selects (z_Rn c) Y.1 Y.1 ∈ lw_good) (hd1 : d1 + 1 ≤ d) (hcat : (st.map fun v => v.category).sum ≤ 8)
    (h : RM n0 Y d1 mc1 ms1 (.ref (n0 + k) :: As) K I L (fun v K' I' L' => Z n0 X d rc rs (pc + 3) lv (v.toList ++ st) K' I' L' Q)) : Z n0 X d (rc + mc1) (rs + ms1) pc lv (As.reverse ++ .ref (n0 + k) :: st) K I L Q := by
  intro p l e R s m args below meth c' G mc ms H locs cells slots ls hC hH hS hl hc1 hc2
  have hR := hC.hR
  have he : (z_ws n0 G K I L)[k]? = some (n0 + k, .inr (c, z_fs n0 K I L c k)) := (z_ws_get hk).trans (by rw [z_E_obj hc hc14])
  refine z_after hC hS hl hc1 hc2 (va_runV (C := z_Rn c) ⟨hC.hx, hC.hb, hC.hml, hC.hown, hC.hts⟩ (h l G) ⟨callB_of As.length hC.hts (z_goodIn hy.2.2.1) rfl rfl rfl (hC.hw hy.2.2.2) (hC.hw hw1) hy.1 (by rw [hR]; have := hy.2.1; exact ⟨hd1, by show 8 + (Y.2.2.1 + 11) + (60 * d1 + 20) ≤ 60 * d + 20; omega⟩), hC.hw hw2, hC.hw hw3⟩ ⟨z_W_blind, va_recv hC.hK hH.2 (z_cl hc14) he, (z_pre hC.hK hC.hSt hH hS).2⟩ rfl rfl hl.1 rfl (lv_room hcat) hd (by rw [hR]; exact ⟨by show cells + mc1 ≤ mc; omega, by show slots + ms1 ≤ ms; omega⟩))
end ZM
