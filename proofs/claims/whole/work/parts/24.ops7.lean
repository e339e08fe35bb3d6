section OP7
variable {n0 d dr dd : Nat} {K : z_K} {I : z_I} {L : z_L} {P : z_I → z_L → Prop} {Q : z_q} {np nb ns ne : Nat} {pid bid pts sid eid : Nat → Nat}
def mn (a b : Int32) : Int32 := if b < a then b else a
def mx (a b : Int32) : Int32 := if a < b then b else a
theorem mn_i (a b : Int32) : (mn a b).toInt = min a.toInt b.toInt := by
  unfold mn
  by_cases h : b < a
  · rw [if_pos h]; have := q_lt.mp h; omega
  · rw [if_neg h]; have : ¬ b.toInt < a.toInt := fun q => h (q_lt.mpr q); omega
theorem mx_i (a b : Int32) : (mx a b).toInt = max a.toInt b.toInt := by
  unfold mx
  by_cases h : a < b
  · rw [if_pos h]; have := q_lt.mp h; omega
  · rw [if_neg h]; have : ¬ a.toInt < b.toInt := fun q => h (q_lt.mpr q); omega
theorem ch7 {c0 c1 c2 c3 c4 c5 c6 A S : Prop} [Decidable c0] [Decidable c1] [Decidable c2] [Decidable c3] [Decidable c4] [Decidable c5] [Decidable c6] (h : c0 ∨ c1 ∨ c2 ∨ c3 ∨ c4 ∨ c5 ∨ c6) (a : A) :
    (if c0 then A else (if c1 then A else (if c2 then A else (if c3 then A else (if c4 then A else (if c5 then A else (if c6 then A else S))))))) := by
  by_cases h0 : c0
  · exact ip h0 a
  refine iq h0 ?_
  by_cases h1 : c1
  · exact ip h1 a
  refine iq h1 ?_
  by_cases h2 : c2
  · exact ip h2 a
  refine iq h2 ?_
  by_cases h3 : c3
  · exact ip h3 a
  refine iq h3 ?_
  by_cases h4 : c4
  · exact ip h4 a
  refine iq h4 ?_
  by_cases h5 : c5
  · exact ip h5 a
  refine iq h5 (ip ?_ a)
  rcases h with h | h | h | h | h | h | h
  · exact absurd h h0
  · exact absurd h h1
  · exact absurd h h2
  · exact absurd h h3
  · exact absurd h h4
  · exact absurd h h5
  · exact h
theorem ch7n {c0 c1 c2 c3 c4 c5 c6 A S : Prop} [Decidable c0] [Decidable c1] [Decidable c2] [Decidable c3] [Decidable c4] [Decidable c5] [Decidable c6] (h : ¬ (c0 ∨ c1 ∨ c2 ∨ c3 ∨ c4 ∨ c5 ∨ c6)) (s : S) :
    (if c0 then A else (if c1 then A else (if c2 then A else (if c3 then A else (if c4 then A else (if c5 then A else (if c6 then A else S))))))) :=
  iq (fun q => h (Or.inl q)) (iq (fun q => h (Or.inr (Or.inl q))) (iq (fun q => h (Or.inr (Or.inr (Or.inl q)))) (iq (fun q => h (Or.inr (Or.inr (Or.inr (Or.inl q))))) (iq (fun q => h (Or.inr (Or.inr (Or.inr (Or.inr (Or.inl q)))))) (iq (fun q => h (Or.inr (Or.inr (Or.inr (Or.inr (Or.inr (Or.inl q))))))) (iq (fun q => h (Or.inr (Or.inr (Or.inr (Or.inr (Or.inr (Or.inr q))))))) s))))))
/-- six numbers and a sum behind c conditions -/
def cdI (I : z_I) (a b c : Nat) (p0 p1 p2 p3 p4 p5 p6 : Int32) : z_I := zI (zI (zI (zI (zI (zI (zI I a (6 * c) p0) a (6 * c + 1) p1) a (6 * c + 2) p2) a (6 * c + 3) p3) a (6 * c + 4) p4) a (6 * c + 5) p5) b c p6
theorem op_condition {p0 p1 p2 p3 p4 p5 p6 : Int32} {c : Nat} (hC : CLay K) (hM : MLay K) (hc : I 22 2 = nI c) (hc2 : I 59 77 = nI c) (hcb : c ≤ 2) (hr : ∀ k, 1 ≤ k → k ≤ 7 → P (rfI I k) L)
    (hs : c < 2 → (∀ p ∈ [p0, p1, p2, p3, p4, p5], -99 ≤ p.toInt ∧ p.toInt ≤ 99) → -9999 ≤ p6.toInt → p6.toInt ≤ 9999 → P (zI (cdI (zI (cdI I 23 24 c p0 p1 p2 p3 p4 p5 p6) 22 2 (nI (c + 1))) 110 111 c p0 p1 p2 p3 p4 p5 p6) 59 77 (nI (c + 1))) L) : Op0 n0 xX12_condition xX13_condition (d + 1) (d + 1) [.int p0, .int p1, .int p2, .int p3, .int p4, .int p5, .int p6] K I L P := by
  have e1 : (-99 : Int32).toInt = -99 := rfl
  have e2 : (99 : Int32).toInt = 99 := rfl
  have e3 : (-9999 : Int32).toInt = -9999 := rfl
  have e4 : (9999 : Int32).toInt = 9999 := rfl
  have hmn := mn_i (mn (mn p0 p1) (mn p2 p3)) (mn p4 p5)
  rw [mn_i (mn p0 p1), mn_i p0, mn_i p2, mn_i p4] at hmn
  have hmx := mx_i (mx (mx p0 p1) (mx p2 p3)) (mx p4 p5)
  rw [mx_i (mx p0 p1), mx_i p0, mx_i p2, mx_i p4] at hmx
  have q6 : ∀ j, ((6 : Int32) * nI c + nI j) = nI (6 * c + j) := fun j => q_6j
  refine wp_X12_condition hC ?_
  by_cases g4 : p0 < (-99) ∨ p1 < (-99) ∨ p2 < (-99) ∨ p3 < (-99) ∨ p4 < (-99) ∨ p5 < (-99) ∨ p6 < (-9999)
  · have bad : OpR n0 xX13_condition (d + 1) [.int p0, .int p1, .int p2, .int p3, .int p4, .int p5, .int p6] K (zI I 1 4 (I 1 4 + 1)) L P (-4) :=
      wp_X13_condition hM (ch7 g4 (op_rr 4 hM (by omega) rfl (hr 4 (by omega) (by omega))))
    by_cases h1 : mn (mn (mn p0 p1) (mn p2 p3)) (mn p4 p5) < (-99)
    · exact ip h1 (op_rf 4 hC (by omega) (by omega) rfl bad)
    · refine iq h1 (ip ?_ (op_rf 4 hC (by omega) (by omega) rfl bad))
      have h1' : ¬ (mn (mn (mn p0 p1) (mn p2 p3)) (mn p4 p5)).toInt < -99 := fun q => h1 (q_lt.mpr q)
      simp only [q_lt] at g4 ⊢
      omega
  · have h1 : ¬ mn (mn (mn p0 p1) (mn p2 p3)) (mn p4 p5) < (-99) := fun q => by
      have := q_lt.mp q
      apply g4
      simp only [q_lt]
      omega
    have h2 : ¬ p6 < (-9999) := fun q => g4 (by simp [q])
    refine iq h1 (iq h2 ?_)
    by_cases g6 : 99 < p0 ∨ 99 < p1 ∨ 99 < p2 ∨ 99 < p3 ∨ 99 < p4 ∨ 99 < p5 ∨ 9999 < p6
    · have bad : OpR n0 xX13_condition (d + 1) [.int p0, .int p1, .int p2, .int p3, .int p4, .int p5, .int p6] K (zI I 1 6 (I 1 6 + 1)) L P (-6) :=
        wp_X13_condition hM (ch7n g4 (ch7 g6 (op_rr 6 hM (by omega) rfl (hr 6 (by omega) (by omega)))))
      by_cases h3 : 99 < mx (mx (mx p0 p1) (mx p2 p3)) (mx p4 p5)
      · exact ip h3 (op_rf 6 hC (by omega) (by omega) rfl bad)
      · refine iq h3 (ip ?_ (op_rf 6 hC (by omega) (by omega) rfl bad))
        have h3' : ¬ 99 < (mx (mx (mx p0 p1) (mx p2 p3)) (mx p4 p5)).toInt := fun q => h3 (q_lt.mpr q)
        simp only [q_lt] at g6 ⊢
        omega
    · have h3 : ¬ 99 < mx (mx (mx p0 p1) (mx p2 p3)) (mx p4 p5) := fun q => by
        have := q_lt.mp q
        apply g6
        simp only [q_lt]
        omega
      have h4 : ¬ 9999 < p6 := fun q => g6 (by simp [q])
      refine iq h3 (iq h4 ?_)
      rw [hc]
      by_cases hlt : c < 2
      · refine ip (nI_lt (b := 2) hlt (by omega)) (wp_X1_add hC (ip (by rw [hc]; exact nI_lt (b := 2) hlt (by omega)) ?_))
        rw [hc]
        have c6 : (nI c * 6 : Int32) = nI (6 * c) := by rw [show (6 : Int32) = nI 6 from rfl, q_nmul, Nat.mul_comm]
        have c6' : (6 * nI c : Int32) = nI (6 * c) := by rw [show (6 : Int32) = nI 6 from rfl, q_nmul]
        have a1 : ∀ j, nI (6 * c) + nI j = nI (6 * c + j) := fun j => q_nadd
        rw [c6, show (1 : Int32) = nI 1 from rfl, show (2 : Int32) = nI 2 from rfl, show (3 : Int32) = nI 3 from rfl, show (4 : Int32) = nI 4 from rfl, show (5 : Int32) = nI 5 from rfl, a1, a1, a1, a1, a1, q_cl (by omega), q_cl (by omega), q_cl (by omega), q_cl (by omega), q_cl (by omega), q_cl (by omega), q_cl (by omega)]
        refine ⟨q_inn (by omega) (by omega), q_inn (by omega) (by omega), q_inn (by omega) (by omega), q_inn (by omega) (by omega), q_inn (by omega) (by omega), q_inn (by omega) (by omega), q_inn (by omega) (by omega), _, rfl, _, rfl, wp_X13_condition hM (ch7n g4 (ch7n g6 (iq ?_ ?_)))⟩
        · show ¬ (I 59 77) = 2
          rw [hc2]
          intro z
          have := q_eq.mp z
          rw [q_nI (by omega)] at this
          have e2' : (2 : Int32).toInt = 2 := rfl
          omega
        · show vp_in (6 * (I 59 77)) 12 ∧ vp_in ((6 * (I 59 77)) + 1) 12 ∧ vp_in ((6 * (I 59 77)) + 2) 12 ∧ vp_in ((6 * (I 59 77)) + 3) 12 ∧ vp_in ((6 * (I 59 77)) + 4) 12 ∧ vp_in ((6 * (I 59 77)) + 5) 12 ∧ vp_in (I 59 77) 2 ∧ some (Value.int (I 59 77 + 1)) = _ ∧ P (zI (zI (zI (zI (zI (zI (zI (zI _ 110 ((6 * (I 59 77)).toNatClampNeg) p0) 110 (((6 * (I 59 77)) + 1).toNatClampNeg) p1) 110 (((6 * (I 59 77)) + 2).toNatClampNeg) p2) 110 (((6 * (I 59 77)) + 3).toNatClampNeg) p3) 110 (((6 * (I 59 77)) + 4).toNatClampNeg) p4) 110 (((6 * (I 59 77)) + 5).toNatClampNeg) p5) 111 ((I 59 77).toNatClampNeg) p6) 59 77 ((I 59 77) + 1)) L
          rw [hc2, c6', show (1 : Int32) = nI 1 from rfl, show (2 : Int32) = nI 2 from rfl, show (3 : Int32) = nI 3 from rfl, show (4 : Int32) = nI 4 from rfl, show (5 : Int32) = nI 5 from rfl, a1, a1, a1, a1, a1, q_cl (by omega), q_cl (by omega), q_cl (by omega), q_cl (by omega), q_cl (by omega), q_cl (by omega), q_cl (by omega), q_nadd]
          refine ⟨q_inn (by omega) (by omega), q_inn (by omega) (by omega), q_inn (by omega) (by omega), q_inn (by omega) (by omega), q_inn (by omega) (by omega), q_inn (by omega) (by omega), q_inn (by omega) (by omega), rfl, hs hlt ?_ ?_ ?_⟩
          · intro p hp
            simp only [q_lt] at g4 g6
            simp at hp
            rcases hp with rfl | rfl | rfl | rfl | rfl | rfl <;> omega
          · simp only [q_lt] at g4; omega
          · simp only [q_lt] at g6; omega
      · have : c = 2 := by omega
        subst this
        refine iq (by decide) (op_rf 6 hC (by omega) (by omega) rfl (wp_X13_condition hM (ch7n g4 (ch7n g6 (ip ?_ (op_rr 6 hM (by omega) rfl (hr 6 (by omega) (by omega))))))))
        show (I 59 77) = 2
        rw [hc2]; rfl
end OP7
