def insN (f : Nat → Bool) : Nat → Bool
  | 0 => false
  | k + 1 => insN f k ^^ f k
def wkB (I : z_I) (N : Nat) (a b : Int) (k : Nat) : Bool := decide (k ≠ N) && ckB (I 115 k).toInt (I 116 k).toInt (I 115 (k + 1)).toInt (I 116 (k + 1)).toInt a b
section INS
variable {n0 d : Nat} {K : z_K} {I : z_I} {L : z_L} {Q : z_q}
theorem c13_crosses {x y u v a b : Int64} (hM : MLay K) (hx : -100000000 ≤ x.toInt ∧ x.toInt ≤ 100000000) (hy : -100000000 ≤ y.toInt ∧ y.toInt ≤ 100000000) (hu : -100000000 ≤ u.toInt ∧ u.toInt ≤ 100000000) (hv : -100000000 ≤ v.toInt ∧ v.toInt ≤ 100000000) (ha : -100000000 ≤ a.toInt ∧ a.toInt ≤ 100000000) (hb : -100000000 ≤ b.toInt ∧ b.toInt ≤ 100000000)
    (h : Q (some (.int (bI (ckB x.toInt y.toInt u.toInt v.toInt a.toInt b.toInt = true)))) I L) : RM0 n0 xX13_crosses d [.long x, .long y, .long u, .long v, .long a, .long b] K I L Q := by
  have d1 : (b - y).toInt = b.toInt - y.toInt := q_lsub (by omega) (by omega)
  have d2 : (u - x).toInt = u.toInt - x.toInt := q_lsub (by omega) (by omega)
  have d3 : (a - x).toInt = a.toInt - x.toInt := q_lsub (by omega) (by omega)
  have d4 : (v - y).toInt = v.toInt - y.toInt := q_lsub (by omega) (by omega)
  obtain ⟨e1, e2⟩ := mul_b (a := b.toInt - y.toInt) (b := u.toInt - x.toInt) (A := 200000000) (B := 200000000) (by omega) (by omega) (by omega) (by omega)
  obtain ⟨e3, e4⟩ := mul_b (a := a.toInt - x.toInt) (b := v.toInt - y.toInt) (A := 200000000) (B := 200000000) (by omega) (by omega) (by omega) (by omega)
  have p1 : ((b - y) * (u - x)).toInt = (b.toInt - y.toInt) * (u.toInt - x.toInt) := by rw [q_lmul (by rw [d1, d2]; omega) (by rw [d1, d2]; omega), d1, d2]
  have p2 : ((a - x) * (v - y)).toInt = (a.toInt - x.toInt) * (v.toInt - y.toInt) := by rw [q_lmul (by rw [d3, d4]; omega) (by rw [d3, d4]; omega), d3, d4]
  have p3 : ((b - y) * (u - x) - (a - x) * (v - y)).toInt = (u.toInt - x.toInt) * (b.toInt - y.toInt) - (a.toInt - x.toInt) * (v.toInt - y.toInt) := by
    rw [q_lsub (by rw [p1, p2]; omega) (by rw [p1, p2]; omega), p1, p2, Int.mul_comm (b.toInt - y.toInt)]
  have z0 : (0 : Int64).toInt = 0 := rfl
  have inner : (¬ ((b.toInt < y.toInt) ↔ (b.toInt < v.toInt))) → (if y < v then (if (0 : Int64) < ((b - y) * (u - x) - (a - x) * (v - y)) then Q (some (.int 1)) I L else Q (some (.int 0)) I L) else (if ((b - y) * (u - x) - (a - x) * (v - y)) < (0 : Int64) then Q (some (.int 1)) I L else Q (some (.int 0)) I L)) := by
    intro hx'
    by_cases c : y < v
    · refine ip c ?_
      have c' := q_ltL.mp c
      by_cases g : (0 : Int64) < ((b - y) * (u - x) - (a - x) * (v - y))
      · refine ip g ?_
        have := q_ltL.mp g
        rw [z0, p3] at this
        rw [bI_t (show ckB _ _ _ _ _ _ = true from decide_eq_true ⟨hx', by rw [if_pos c']; omega⟩)] at h
        exact h
      · refine iq g ?_
        have := mt q_ltL.mpr g
        rw [z0, p3] at this
        rw [bI_f (fun z => by have := (of_decide_eq_true z).2; rw [if_pos c'] at this; omega)] at h
        exact h
    · refine iq c ?_
      have c' : ¬ y.toInt < v.toInt := fun z => c (q_ltL.mpr z)
      by_cases g : ((b - y) * (u - x) - (a - x) * (v - y)) < (0 : Int64)
      · refine ip g ?_
        have := q_ltL.mp g
        rw [z0, p3] at this
        rw [bI_t (show ckB _ _ _ _ _ _ = true from decide_eq_true ⟨hx', by rw [if_neg c']; omega⟩)] at h
        exact h
      · refine iq g ?_
        have := mt q_ltL.mpr g
        rw [z0, p3] at this
        rw [bI_f (fun z => by have := (of_decide_eq_true z).2; rw [if_neg c'] at this; omega)] at h
        exact h
  have none' : ((b.toInt < y.toInt) ↔ (b.toInt < v.toInt)) → Q (some (.int 0)) I L := by
    intro w
    rw [bI_f (fun z => (of_decide_eq_true z).1 w)] at h
    exact h
  refine wp_X13_crosses hM ?_
  by_cases c1 : b < y
  · refine ip c1 ?_
    by_cases c2 : b < v
    · exact ip c2 (none' ⟨fun _ => q_ltL.mp c2, fun _ => q_ltL.mp c1⟩)
    · exact iq c2 (inner (fun w => c2 (q_ltL.mpr (w.mp (q_ltL.mp c1)))))
  · refine iq c1 ?_
    by_cases c2 : b < v
    · exact ip c2 (inner (fun w => c1 (q_ltL.mpr (w.mpr (q_ltL.mp c2)))))
    · exact iq c2 (none' ⟨fun w => absurd (q_ltL.mpr w) c1, fun w => absurd (q_ltL.mpr w) c2⟩)
theorem c13_isInside {a b : Int64} {m N : Nat} (hM : MLay K) (hm : I 59 88 = nI (m + 1)) (hm2 : m < 162) (hN : I 59 61 = nI N) (hN2 : N < 162) (hw : ∀ k, k ≤ m → ckW (I 115 k) ∧ ckW (I 116 k)) (ha : -100000000 ≤ a.toInt ∧ a.toInt ≤ 100000000) (hb : -100000000 ≤ b.toInt ∧ b.toInt ≤ 100000000)
    (h : Q (some (.int (bI (insN (wkB I N a.toInt b.toInt) m = true)))) I L) : RM0 n0 xX13_isInside (d + 1) [.ref (n0 + 59), .long a, .long b] K I L Q := by
  have lp : ∀ w k, k + w = m → Z n0 xX13_isInside (d + 1) 0 0 6 [(0, .ref (n0 + 59)), (1, .long a), (3, .long b), (5, .int (bI (insN (wkB I N a.toInt b.toInt) k = true))), (6, .int (nI k))] [] K I L (z_q0 K Q) := by
    intro w
    induction w with
    | zero =>
      intro k hk
      have : k = m := by omega
      subst this
      refine wp_X13_isInside_6 hM ?_
      rw [hm, ← nI_succ]
      exact iq (fun z => by have := q_lt.mp z; omega) ⟨bI_b, h⟩
    | succ w ih =>
      intro k hk
      have nx := ih (k + 1) (by omega)
      refine wp_X13_isInside_6 hM ?_
      rw [hm, hN, ← nI_succ]
      refine ip (nI_lt (by omega) (by omega)) ?_
      by_cases e : k = N
      · subst e
        refine ip rfl ?_
        have : insN (wkB I k a.toInt b.toInt) (k + 1) = insN (wkB I k a.toInt b.toInt) k := by
          show (_ ^^ (decide (k ≠ k) && _)) = _
          rw [decide_eq_false (fun z => z rfl), Bool.false_and, Bool.xor_false]
        rw [this] at nx
        cases q : insN (wkB I k a.toInt b.toInt) k with
        | true => rw [q] at nx; exact nx
        | false => rw [q] at nx; exact nx
      · refine iq (fun z => e ((q_ni (by omega) (by omega)).mp z)) ?_
        rw [q_cl (n := k) (by omega), q_cl (n := k + 1) (by omega)]
        obtain ⟨w1, w2⟩ := hw k (by omega)
        obtain ⟨w3, w4⟩ := hw (k + 1) (by omega)
        unfold ckW at w1 w2 w3 w4
        refine ⟨q_inn (by omega) (by omega), q_inn (by omega) (by omega), c13_crosses hM (by rw [q_i2l]; exact w1) (by rw [q_i2l]; exact w2) (by rw [q_i2l]; exact w3) (by rw [q_i2l]; exact w4) ha hb ⟨_, rfl, ?_⟩⟩
        rw [q_i2l, q_i2l, q_i2l, q_i2l]
        have : insN (wkB I N a.toInt b.toInt) (k + 1) = (insN (wkB I N a.toInt b.toInt) k ^^ ckB (I 115 k).toInt (I 116 k).toInt (I 115 (k + 1)).toInt (I 116 (k + 1)).toInt a.toInt b.toInt) := by
          show (_ ^^ (decide (k ≠ N) && _)) = _
          rw [decide_eq_true e, Bool.true_and]
        rw [this] at nx
        cases q : insN (wkB I N a.toInt b.toInt) k <;> cases q2 : ckB (I 115 k).toInt (I 116 k).toInt (I 115 (k + 1)).toInt (I 116 (k + 1)).toInt a.toInt b.toInt <;> rw [q, q2] at nx <;> exact nx
  exact wp_X13_isInside hM (lp m 0 (by omega))
end INS
