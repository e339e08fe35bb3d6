/-! calls that make objects -/
section AL
variable {n0 d dr dd mc ms : Nat} {K : z_K} {I : z_I} {L : z_L} {P : z_K → z_I → z_L → Prop}
def OpAQ (n0 : Nat) (xr : z_X) (dr : Nat) (As : List Value) (P : z_K → z_I → z_L → Prop) : z_R := fun v K1 I1 L1 => ∃ r : Int32, v = some (.int r) ∧ OpR n0 xr dr As K1 I1 L1 (P K1) r
def OpA (n0 : Nat) (xc xr : z_X) (d dr mc ms : Nat) (As : List Value) (K : z_K) (I : z_I) (L : z_L) (P : z_K → z_I → z_L → Prop) : Prop :=
  RM n0 xc d mc ms (.ref (n0 + 0) :: As) K I L (OpAQ n0 xr dr As P)
theorem op_rfK {xr : z_X} {As : List Value} {w : Int32} (k : Nat) (hC : CLay K) (h1 : 1 ≤ k) (h7 : k ≤ 7) (hw : w.toInt = -(k : Int)) (h : OpR n0 xr dr As K (zI I 1 k (I 1 k + 1)) L (P K) w) :
    RM0 n0 xX12_refuse dd [.ref (n0 + 0), .int w] K I L (fun vv I6 L7 => ∃ r8 : Int32, vv = some (.int r8) ∧ OpAQ n0 xr dr As P (some (.int r8)) K I6 L7) :=
  c12_refuse k hC h1 h7 hw ⟨_, rfl, _, rfl, h⟩
/-- n cells more from b on; all that was there is as it was -/
def Ext (K K' : z_K) (I I' : z_I) (L L' : z_L) (b n : Nat) : Prop := K.1 = b ∧ K'.1 = b + n ∧ (∀ a, a < b → K'.2.1 a = K.2.1 a) ∧ (∀ a, a < b → K'.2.2 a = K.2.2 a) ∧ (∀ a, a < b → I' a = I a) ∧ (∀ a, a < b → L' a = L a)
theorem CLay.ext {K' : z_K} (h : CLay K) (hn : K.1 ≤ K'.1) (hs : ∀ a, a < 59 → K'.2.1 a = K.2.1 a) (hr : ∀ a, a < 59 → K'.2.2 a = K.2.2 a) : CLay K' := by
  have b1 : ∀ q ∈ c_obj, q.1 < 59 := by decide
  have b2 : ∀ q ∈ c_arr, q.1 < 59 ∧ q.2.2.1 < 59 := by decide
  have b3 : ∀ q ∈ c_ptr, q.1 < 59 := by decide
  refine ⟨fun q hq => ?_, fun q hq => ?_, fun q hq => ?_⟩
  · rw [hs _ (b1 q hq)]; exact ⟨Nat.lt_of_lt_of_le (h.1 q hq).1 hn, (h.1 q hq).2⟩
  · rw [hs _ (b2 q hq).2, hr _ (b2 q hq).1]; exact ⟨(h.2.1 q hq).1, Nat.lt_of_lt_of_le (h.2.1 q hq).2.1 hn, (h.2.1 q hq).2.2⟩
  · rw [hr _ (b3 q hq)]; exact h.2.2 q hq
theorem CLay.zR {a j : Nat} {v : Option Nat} (h : CLay K) (ha : (∀ q ∈ c_arr, q.1 ≠ a) ∧ ∀ q ∈ c_ptr, q.1 ≠ a) : CLay (zR K a j v) := by
  refine ⟨h.1, fun q hq => ?_, fun q hq => ?_⟩
  · rw [zR_ne (ha.1 q hq)]; exact h.2.1 q hq
  · rw [zR_ne (ha.2 q hq)]; exact h.2.2 q hq
theorem MLay.ext {K' : z_K} (h : MLay K) (hn : K.1 ≤ K'.1) (hs : ∀ a, a < 152 → K'.2.1 a = K.2.1 a) (hr : K'.2.2 59 = K.2.2 59) : MLay K' := by
  have b2 : ∀ q ∈ m_arr, q.2.1 < 152 := by decide
  refine ⟨Nat.lt_of_lt_of_le h.1 hn, by rw [hs 59 (by omega)]; exact h.2.1, fun q hq => ?_⟩
  rw [hs _ (b2 q hq), hr]
  exact ⟨(h.2.2 q hq).1, Nat.lt_of_lt_of_le (h.2.2 q hq).2.1 hn, (h.2.2 q hq).2.2⟩
theorem MLay.zR {a j : Nat} {v : Option Nat} (h : MLay K) (ha : a ≠ 59) : MLay (zR K a j v) := h.ext (Nat.le_refl _) (fun _ _ => rfl) (zR_ne (Ne.symm ha))
theorem z_new_ok {K1 : z_K} {t b : Nat} (hb : K.1 = b) (hK1 : K1 = zN K t 0) : K1.1 = b + 1 ∧ (K1.2.1 b).1 = t ∧ (∀ a, a < b → K1.2.1 a = K.2.1 a) ∧ (∀ a, a < b → K1.2.2 a = K.2.2 a) ∧ (∀ k, K1.2.2 b k = none) := by
  subst hK1; subst hb
  refine ⟨rfl, by simp [zN], fun a ha => by simp [zN, Nat.ne_of_lt ha], fun a ha => by simp [zN, Nat.ne_of_lt ha], fun k => by simp [zN]⟩
theorem zI0_ok {I1 : z_I} {b : Nat} (h : I1 = zI0 I b) : (∀ a, a < b → I1 a = I a) ∧ ∀ k, I1 b k = 0 := by
  subst h
  exact ⟨fun a ha => by simp [zI0, Nat.ne_of_lt ha], fun k => by simp [zI0]⟩
theorem zL0_ok {I1 : z_L} {b : Nat} (h : I1 = zL0 L b) : (∀ a, a < b → I1 a = L a) ∧ ∀ k, I1 b k = 0 := by
  subst h
  exact ⟨fun a ha => by simp [zL0, Nat.ne_of_lt ha], fun k => by simp [zL0]⟩
theorem ct_dis {fs : List (Nat × Nat × Nat)} (h : (fs.map (fun x => x.1)).Nodup) : ∀ (i j : Nat) (x y : Nat × Nat × Nat), fs[i]? = some x → fs[j]? = some y → x.1 = y.1 → i = j := by
  intro i j x y hi hj e
  have hl : i < (fs.map (fun x => x.1)).length := by rw [List.length_map]; exact (List.getElem?_eq_some_iff.mp hi).1
  refine (List.getElem?_inj hl h).mp ?_
  rw [List.getElem?_map, List.getElem?_map, hi, hj]
  simp [e]
/-- an edition's cells: from b on -/
def EdB (K : z_K) (I : z_I) (b : Nat) (dy : Int32) : Prop := (K.2.1 b).1 = 3 ∧ K.2.1 (b + 1) = (35, 8) ∧ K.2.1 (b + 2) = (20, 8) ∧ K.2.1 (b + 3) = (20, 12) ∧ K.2.1 (b + 4) = (20, 12) ∧ K.2.1 (b + 5) = (20, 12) ∧ K.2.2 b 1 = some (b + 1) ∧ K.2.2 b 2 = some (b + 2) ∧ K.2.2 b 4 = some (b + 3) ∧ K.2.2 b 5 = some (b + 4) ∧ K.2.2 b 6 = some (b + 5) ∧ I b 0 = dy ∧ I b 3 = 0 ∧ I b 7 = 0
theorem c3_init {Q : z_R} {K0 : z_K} {I0 : z_I} {L0 : z_L} {b : Nat} {dy : Int32} (hb : K0.1 = b) (hK : K = zN K0 3 0) (hI : I = zI0 I0 b) (hL : L = zL0 L0 b) (h : ∀ K' I' L', Ext K0 K' I0 I' L0 L' b 6 → EdB K' I' b dy → Q none K' I' L') : RM n0 xX3_init (d + 1) 5 52 [.ref (n0 + b), .int dy] K I L Q := by
  obtain ⟨f1, f2, f3, f4, f5⟩ := z_new_ok hb hK
  obtain ⟨i1, i2⟩ := zI0_ok hI
  obtain ⟨l1, l2⟩ := zL0_ok hL
  refine ct_X3_init (by omega) f2 ?_
  obtain ⟨a1, a2, a3, a4, a5, a6, a7, a8, a9⟩ := ct_facts b [(1, 35, 8), (2, 20, 8), (4, 20, 12), (5, 20, 12), (6, 20, 12)] (K, I, L) (show b < K.1 by omega) (ct_dis (by decide))
  generalize List.foldl (ctA b) (K, I, L) [(1, 35, 8), (2, 20, 8), (4, 20, 12), (5, 20, 12), (6, 20, 12)] = S at a1 a2 a3 a4 a5 a6 a7 a8 a9 ⊢
  dsimp only at a1 a2 a3 a4 a5 a6 a7 a8 a9
  rw [f1] at a1 a2 a3 a5 a6 a7 a8 a9
  have b0 := a5 0 _ rfl
  have b1 := a5 1 _ rfl
  have b2 := a5 2 _ rfl
  have b3 := a5 3 _ rfl
  have b4 := a5 4 _ rfl
  refine h _ _ _ ⟨hb, by rw [a1]; rfl, fun a ha => by rw [a2 a (by omega), f3 a ha], fun a ha => by rw [a3 a (by omega) (by omega), f4 a ha], fun a ha => ?_, fun a ha => by rw [a7 a (by omega), l1 a ha]⟩ ⟨by rw [a2 b (by omega)]; exact f2, b0.2.1, b1.2.1, b2.2.1, b3.2.1, b4.2.1, b0.1, b1.1, b2.1, b3.1, b4.1, zI_s, ?_, ?_⟩
  · show zI S.2.1 b 0 dy a = I0 a
    rw [zI_r (by omega), a6 a (by omega), i1 a ha]
  · show zI S.2.1 b 0 dy b 3 = 0
    rw [zI_d (by omega), a6 b (by omega), i2]
  · show zI S.2.1 b 0 dy b 7 = 0
    rw [zI_d (by omega), a6 b (by omega), i2]
theorem op_edition {ne : Nat} (hC : CLay K) (hM : MLay K) (h152 : 152 ≤ K.1) (hd : I 0 0 = I 59 0) (hn : I 0 18 = nI ne) (hn2 : I 59 114 = nI ne) (hb : ne ≤ 12) (hr : ∀ k, 1 ≤ k → k ≤ 7 → P K (rfI I k) L)
    (hs : ne < 12 → ∀ K' I' L', Ext K K' I I' L L' K.1 6 → EdB K' I' K.1 (I 59 0) → P (zR K' 51 ne (some K.1)) (zI (zI (zI I' 0 18 (nI (ne + 1))) 139 ne (I 59 0)) 59 114 (nI (ne + 1))) L') : OpA n0 xX12_edition xX13_edition (d + 2) (d + 1) 6 60 [] K I L P := by
  refine wp_X12_edition hC ?_
  by_cases hlt : ne < 12
  · refine ip (by rw [hn]; exact nI_lt (b := 12) hlt (by omega)) (fun b hb2 K1 hK1 I1 hI1 L1 hL1 => ?_)
    obtain ⟨f1, f2, f3, f4, f5⟩ := z_new_ok hb2 hK1
    obtain ⟨i1, i2⟩ := zI0_ok hI1
    have hC1 : CLay K1 := hC.ext (by omega) (fun a ha => f3 a (by omega)) (fun a ha => f4 a (by omega))
    refine ⟨hC1, c3_init hb2 hK1 hI1 hL1 (fun K' I' L' hE hEd => ?_)⟩
    have hE' := hE
    obtain ⟨x1, x2, x3, x4, x5, x6⟩ := hE
    have hC2 : CLay K' := hC.ext (by omega) (fun a ha => x3 a (by omega)) (fun a ha => x4 a (by omega))
    have hM2 : MLay K' := hM.ext (by omega) (fun a ha => x3 a (by omega)) (x4 59 (by omega))
    have y0 : I' 0 = I 0 := x5 0 (by omega)
    have y59 : I' 59 = I 59 := x5 59 (by omega)
    refine ⟨rfl, hC2, by rw [hn]; exact q_inn (by omega) (by omega), by omega, hEd.1, _, rfl, ?_⟩
    rw [y0, hn, q_cl (by omega), ← nI_succ]
    have z59 : ∀ j, (zI I' 0 18 (nI (ne + 1))) 59 j = I 59 j := fun j => by rw [zI_r (by omega), y59]
    refine wp_X13_edition (hM2.zR (by omega)) (iq ?_ ?_)
    · rw [z59, hn2]
      intro z
      have := q_eq.mp z
      rw [q_nI (by omega)] at this
      have e2' : (12 : Int32).toInt = 12 := rfl
      omega
    · rw [z59, z59, hn2, q_cl (by omega), ← nI_succ]
      refine ⟨q_inn (by omega) (by omega), by rw [nI_pred], ?_⟩
      have hI0 : I1 0 0 = I 59 0 := by rw [i1 0 (by omega), hd]
      rw [hI0] at hEd
      subst hb2
      exact hs hlt K' I' L' hE' hEd
  · have : ne = 12 := by omega
    subst this
    refine iq (by rw [hn]; decide) (op_rfK 6 hC (by omega) (by omega) rfl (wp_X13_edition hM (ip ?_ (op_rr 6 hM (by omega) rfl (hr 6 (by omega) (by omega))))))
    show (I 59 114) = 12
    rw [hn2]; rfl
end AL
