/-! calls on both, one behind the other: the answers are the same, and P holds then. P is any: the invariant comes last. -/
theorem ip {c : Prop} [Decidable c] {a b : Prop} (hc : c) (h : a) : if c then a else b := by rw [if_pos hc]; exact h
theorem iq {c : Prop} [Decidable c] {a b : Prop} (hc : ¬ c) (h : b) : if c then a else b := by rw [if_neg hc]; exact h
section OP
variable {n0 d dr dd : Nat} {K : z_K} {I : z_I} {L : z_L} {P : z_I → z_L → Prop}
def OpR (n0 : Nat) (xr : z_X) (dr : Nat) (As : List Value) (K : z_K) (I : z_I) (L : z_L) (P : z_I → z_L → Prop) (r : Int32) : Prop :=
  RM0 n0 xr dr (.ref (n0 + 59) :: As) K I L (fun v2 I2 L2 => v2 = some (.int r) ∧ P I2 L2)
def OpQ (n0 : Nat) (xr : z_X) (dr : Nat) (As : List Value) (K : z_K) (P : z_I → z_L → Prop) : z_q :=
  fun v I1 L1 => ∃ r : Int32, v = some (.int r) ∧ OpR n0 xr dr As K I1 L1 P r
def Op0 (n0 : Nat) (xc xr : z_X) (d dr : Nat) (As : List Value) (K : z_K) (I : z_I) (L : z_L) (P : z_I → z_L → Prop) : Prop :=
  RM0 n0 xc d (.ref (n0 + 0) :: As) K I L (OpQ n0 xr dr As K P)
def rfI (I : z_I) (k : Nat) : z_I := zI (zI I 1 k (I 1 k + 1)) 75 k (I 75 k + 1)
theorem op_rf {xr : z_X} {As : List Value} {w : Int32} (k : Nat) (hC : CLay K) (h1 : 1 ≤ k) (h7 : k ≤ 7) (hw : w.toInt = -(k : Int)) (h : OpR n0 xr dr As K (zI I 1 k (I 1 k + 1)) L P w) :
    RM0 n0 xX12_refuse dd [.ref (n0 + 0), .int w] K I L (fun vv I6 L7 => ∃ r8 : Int32, vv = some (.int r8) ∧ OpQ n0 xr dr As K P (some (.int r8)) I6 L7) :=
  c12_refuse k hC h1 h7 hw ⟨_, rfl, _, rfl, h⟩
theorem op_rfA {xr : z_X} {As : List Value} {w : Int32} (k : Nat) (hC : CLay K) (h1 : 1 ≤ k) (h7 : k ≤ 7) (hw : w.toInt = -(k : Int)) (h : OpR n0 xr dr As K (zI I 1 k (I 1 k + 1)) L P (1000000000 - w)) :
    RM0 n0 xX12_refuseApart (dd + 1) [.ref (n0 + 0), .int w] K I L (fun vv I6 L7 => ∃ r8 : Int32, vv = some (.int r8) ∧ OpQ n0 xr dr As K P (some (.int r8)) I6 L7) :=
  c12_refuseApart k hC h1 h7 hw ⟨_, rfl, _, rfl, h⟩
theorem op_rr {w : Int32} (k : Nat) (hM : MLay K) (h7 : k ≤ 7) (hw : w.toInt = -(k : Int)) (h : P (zI I 75 k (I 75 k + 1)) L) :
    RM0 n0 xX13_refuse dd [.ref (n0 + 59), .int w] K I L (fun vv I6 L7 => ∃ r8 : Int32, vv = some (.int r8) ∧ (some (Value.int r8) = some (Value.int w) ∧ P I6 L7)) :=
  c13_refuse k hM h7 hw ⟨_, rfl, rfl, h⟩
theorem op_rrA {w : Int32} (k : Nat) (hM : MLay K) (h7 : k ≤ 7) (hw : w.toInt = -(k : Int)) (h : P (zI I 75 k (I 75 k + 1)) L) :
    RM0 n0 xX13_refuseFar dd [.ref (n0 + 59), .int w] K I L (fun vv I6 L7 => ∃ r8 : Int32, vv = some (.int r8) ∧ (some (Value.int r8) = some (Value.int (1000000000 - w)) ∧ P I6 L7)) :=
  c13_refuseFar k hM h7 hw ⟨_, rfl, rfl, h⟩
theorem op_days {p : Int32} (hC : CLay K) (hM : MLay K) (hd : I 0 0 = I 59 0) (hr : ∀ k, 1 ≤ k → k ≤ 7 → P (rfI I k) L)
    (hs : 1 ≤ p.toInt → ¬ (1000 - I 59 0) < p → P (zI (zI I 0 0 (I 59 0 + p)) 59 0 (I 59 0 + p)) L) : Op0 n0 xX12_days xX13_days (d + 1) (d + 1) [.int p] K I L P := by
  refine wp_X12_days hC ?_
  rw [hd]
  by_cases g1 : p < 1
  · exact ip g1 (op_rf 4 hC (by omega) (by omega) rfl (wp_X13_days hM (ip g1 (op_rr 4 hM (by omega) rfl (hr 4 (by omega) (by omega))))))
  · refine iq g1 ?_
    by_cases g2 : (1000 - (I 59 0)) < p
    · exact ip g2 (op_rf 6 hC (by omega) (by omega) rfl (wp_X13_days hM (iq g1 (ip g2 (op_rr 6 hM (by omega) rfl (hr 6 (by omega) (by omega)))))))
    · refine iq g2 ⟨_, rfl, wp_X13_days hM (iq g1 (iq g2 ⟨rfl, hs ?_ g2⟩))⟩
      have : ¬ p.toInt < 1 := fun q => g1 (q_lt.mpr q)
      omega
theorem op_free (hC : CLay K) (hM : MLay K) (hd : I 22 2 = I 59 77) (hs : P (zI (zI I 22 2 0) 59 77 0) L) : Op0 n0 xX12_free xX13_free d d [] K I L P := by
  refine wp_X12_free hC ?_
  rw [hd]
  exact ⟨_, rfl, wp_X13_free hM ⟨rfl, hs⟩⟩
theorem op_clear (hC : CLay K) (hM : MLay K) (hd : I 25 4 = I 59 89) (hs : P (zI (zI I 25 4 0) 59 89 0) L) : Op0 n0 xX12_clear xX13_clear d d [] K I L P := by
  refine wp_X12_clear hC ?_
  rw [hd]
  exact ⟨_, rfl, wp_X13_clear hM ⟨rfl, hs⟩⟩
theorem op_put {p : Int32} {b : Nat} (hC : CLay K) (hM : MLay K) (hd : I 25 12 = nI b) (hd2 : I 59 106 = nI b) (hb : b ≤ 12) (hr : ∀ k, 1 ≤ k → k ≤ 7 → P (rfI I k) L)
    (hs : b < 12 → 0 ≤ p.toInt → p.toInt ≤ 95 → P (zI (zI (zI (zI I 35 b p) 25 12 (nI (b + 1))) 132 b p) 59 106 (nI (b + 1))) L) : Op0 n0 xX12_put xX13_put (d + 1) (d + 1) [.int p] K I L P := by
  have h12 : (nI 12 : Int32) = 12 := rfl
  refine wp_X12_put hC (c12_outside hC ⟨_, rfl, ?_⟩)
  rcases bnd_cases p 0 95 with ⟨e, g⟩ | ⟨e, g0, g⟩ | ⟨e, g0, g⟩ <;> rw [e]
  · exact iq (by decide) (op_rf 4 hC (by omega) (by omega) rfl (wp_X13_put hM (ip (q_lt.mpr g) (op_rr 4 hM (by omega) rfl (hr 4 (by omega) (by omega))))))
  · have g1 : ¬ p < 0 := fun q => by have := q_lt.mp q; simp at this; simp at g0; omega
    exact iq (by decide) (op_rf 6 hC (by omega) (by omega) rfl (wp_X13_put hM (iq g1 (ip (q_lt.mpr g) (op_rr 6 hM (by omega) rfl (hr 6 (by omega) (by omega)))))))
  · have e0 : (0 : Int32).toInt = 0 := rfl
    have e95 : (95 : Int32).toInt = 95 := rfl
    have g1 : ¬ p < 0 := fun q => by have := q_lt.mp q; omega
    have g2 : ¬ 95 < p := fun q => by have := q_lt.mp q; omega
    refine ip rfl ?_
    rw [hd]
    by_cases hb2 : b < 12
    · have c1 : (nI b : Int32) < 12 := by rw [← h12]; exact nI_lt hb2 (by omega)
      have c2 : ¬ (nI b : Int32) = 12 := fun q => by rw [q] at c1; exact absurd c1 (by decide)
      refine ip c1 ⟨q_inn hb2 (by omega), _, rfl, wp_X13_put hM (iq g1 (iq g2 (iq (by show ¬ (I 59 106) = 12; rw [hd2]; exact c2) ⟨?_, ?_, ?_⟩)))⟩
      · show vp_in (I 59 106) 12; rw [hd2]; exact q_inn hb2 (by omega)
      · show some (Value.int (I 59 106 + 1)) = _; rw [hd2]
      · show P (zI (zI (zI (zI I 35 (nI b).toNatClampNeg p) 25 12 (nI b + 1)) 132 (I 59 106).toNatClampNeg p) 59 106 (I 59 106 + 1)) L
        rw [hd2, q_cl (by omega), ← nI_succ]
        exact hs hb2 (by omega) (by omega)
    · have hb3 : b = 12 := by omega
      subst hb3
      exact iq (by decide) (op_rf 6 hC (by omega) (by omega) rfl (wp_X13_put hM (iq g1 (iq g2 (ip (by show (I 59 106) = 12; rw [hd2]; rfl) (op_rr 6 hM (by omega) rfl (hr 6 (by omega) (by omega))))))))
end OP
