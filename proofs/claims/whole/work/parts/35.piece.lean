section PCE
variable {n0 d : Nat} {K : z_K} {I : z_I} {L : z_L} {np : Nat} {q : z_q} {p0 p1 p2 : Int32}
def pcT (n0 d : Nat) (K : z_K) (I : z_I) (L : z_L) (np : Nat) (q : z_q) (p0 p1 p2 : Int32) : Prop := (if p1 < 3 then RM0 n0 xX13_refuse d [.ref (n0 + 59), .int (-4)] K I L (fun vv I1 L1 => ∃ r : Int32, vv = some (.int r) ∧ q (some (.int r)) I1 L1) else if 10 < p1 then RM0 n0 xX13_refuse d [.ref (n0 + 59), .int (-6)] K I L (fun vv I1 L1 => ∃ r : Int32, vv = some (.int r) ∧ q (some (.int r)) I1 L1) else if np = 16 then RM0 n0 xX13_refuse d [.ref (n0 + 59), .int (-6)] K I L (fun vv I1 L1 => ∃ r : Int32, vv = some (.int r) ∧ q (some (.int r)) I1 L1) else q (some (.int (nI np))) (zI (zI (zI (zI I 66 np p0) 67 np p1) 68 np p2) 59 9 (nI (np + 1))) L)
theorem pcT_e (h16 : np ≤ 16) (h : pcT n0 d K I L np q p0 p1 p2) : (if p1 < 3 then RM0 n0 xX13_refuse d [.ref (n0 + 59), .int (-4)] K I L (fun vv I1 L1 => ∃ r : Int32, vv = some (.int r) ∧ q (some (.int r)) I1 L1) else if 10 < p1 then RM0 n0 xX13_refuse d [.ref (n0 + 59), .int (-6)] K I L (fun vv I1 L1 => ∃ r : Int32, vv = some (.int r) ∧ q (some (.int r)) I1 L1) else if nI np = 16 then RM0 n0 xX13_refuse d [.ref (n0 + 59), .int (-6)] K I L (fun vv I1 L1 => ∃ r : Int32, vv = some (.int r) ∧ q (some (.int r)) I1 L1) else vp_in (nI np) 16 ∧ q (some (.int (nI np + 1 - 1))) (zI (zI (zI (zI I 66 (nI np).toNatClampNeg p0) 67 (nI np).toNatClampNeg p1) 68 (nI np).toNatClampNeg p2) 59 9 (nI np + 1)) L) := by
  unfold pcT at h
  by_cases h1 : p1 < 3
  · rw [if_pos h1] at h ⊢; exact h
  rw [if_neg h1] at h ⊢
  by_cases h2 : 10 < p1
  · rw [if_pos h2] at h ⊢; exact h
  rw [if_neg h2] at h ⊢
  by_cases h3 : np = 16
  · rw [if_pos h3] at h
    rw [if_pos (by rw [h3]; rfl)]; exact h
  · rw [if_neg h3] at h
    rw [if_neg (fun z => h3 (by have := q_eq.mp z; rw [q_nI (by omega)] at this; have e2' : (16 : Int32).toInt = 16 := rfl; omega)), q_cl (by omega), ← nI_succ, nI_pred]
    exact ⟨q_inn (by omega) (by omega), h⟩
end PCE
