section MKR
variable {n0 d dr dd : Nat} {K : z_K} {I : z_I} {L : z_L} {P : z_I → z_L → Prop} {Q : z_q} {nm : Nat}
theorem q_ndiv {a b : Nat} (ha : a < 2 ^ 31) (hb : b < 2 ^ 31) : nI a / nI b = nI (a / b) := by
  have hdl : a / b ≤ a := Nat.div_le_self a b
  have hne : nI b ≠ -1 := fun e => by
    have := q_eq.mp e
    rw [q_nI hb] at this
    have e2' : (-1 : Int32).toInt = -1 := rfl
    omega
  refine q_eq.mpr ?_
  rw [Int32.toInt_div_of_ne_right _ _ hne, q_nI ha, q_nI hb, q_nI (by omega)]
  exact (Int.ofNat_tdiv a b).symm
theorem q_nmod {a : Nat} (ha : a < 2 ^ 31) : nI a - nI a / 10 * 10 = nI (a % 10) := by
  rw [show (10 : Int32) = nI 10 from rfl, q_ndiv ha (by omega), q_nmul]
  have h1 : (nI a).toInt = (a : Int) := q_nI ha
  have h2 : (nI (a / 10 * 10)).toInt = ((a / 10 * 10 : Nat) : Int) := q_nI (by omega)
  refine q_eq.mpr ?_
  rw [q_sub (by rw [h1, h2]; omega) (by rw [h1, h2]; omega), h1, h2, q_nI (by omega)]
  omega
/-- the digits of p, written from place j on -/
def mkI (I : z_I) (n p j : Nat) : z_I := fun a => if a = 54 then (fun k => if 5 * n + j ≤ k ∧ k < 5 * n + 5 then nI (p / 10 ^ (k - 5 * n) % 10) else I a k) else I a
theorem c9_add_loop {n p : Nat} {w : Int32} (hC : CLay K) (hb : n < 6) (hp : p < 2 ^ 31) : ∀ (m j : Nat) (I : z_I), j + m = 5 → I 52 3 = nI n → Q (some (.int (nI n))) (zI (zI (mkI I n p j) 55 n w) 52 3 (nI (n + 1))) L → Z n0 xX9_add d 0 0 19 [(0, .ref (n0 + 52)), (2, .int w), (3, .int (nI (p / 10 ^ j))), (4, .int (nI j))] [] K I L (z_q0 K Q) := by
  intro m
  induction m with
  | zero =>
    intro j I hj hn h
    have : j = 5 := by omega
    subst this
    refine wp_X9_add_19 hC (iq (by decide) ?_)
    have e : mkI I n p 5 = I := by
      funext a k
      unfold mkI
      split
      · show (if 5 * n + 5 ≤ k ∧ k < 5 * n + 5 then _ else I a k) = I a k
        rw [if_neg (by omega)]
      · rfl
    rw [e] at h
    rw [hn, q_cl (by omega), ← nI_succ]
    exact ⟨q_inn (by omega) (by omega), h⟩
  | succ m ih =>
    intro j I hj hn h
    have hpj : p / 10 ^ j ≤ p := Nat.div_le_self _ _
    refine wp_X9_add_19 hC (ip (show nI j < nI 5 from nI_lt (by omega) (by omega)) ?_)
    rw [hn, show nI n * 5 + nI j = nI (5 * n + j) by rw [show (5 : Int32) = nI 5 from rfl, q_nmul, q_nadd, Nat.mul_comm], q_cl (by omega), ← nI_succ, q_nmod (by omega), show (nI (p / 10 ^ j) / 10 : Int32) = nI (p / 10 ^ (j + 1)) by rw [show (10 : Int32) = nI 10 from rfl, q_ndiv (by omega) (by omega), Nat.div_div_eq_div_mul, Nat.pow_succ]]
    refine ⟨q_inn (by omega) (by omega), ih (j + 1) _ (by omega) (by rw [zI_r (by omega)]; exact hn) ?_⟩
    have e : mkI (zI I 54 (5 * n + j) (nI (p / 10 ^ j % 10))) n p (j + 1) = mkI I n p j := by
      funext a k
      unfold mkI
      by_cases ha : a = 54
      · simp only [if_pos ha]
        by_cases hk : 5 * n + (j + 1) ≤ k ∧ k < 5 * n + 5
        · rw [if_pos hk, if_pos (by omega)]
        · rw [if_neg hk, zI_v]
          by_cases hkj : k = 5 * n + j
          · rw [if_pos ⟨ha, hkj⟩, if_pos (by omega), hkj, Nat.add_sub_cancel_left]
          · rw [if_neg (fun q => hkj q.2), if_neg (by omega)]
      · simp only [if_neg ha]
        rw [zI_r ha]
    rw [e]
    exact h
theorem mkI_re {n p j : Nat} : RE (mkI I n p j) I := fun a h1 h2 => by unfold mkI; rw [if_neg (by omega)]
theorem op_marker {p w : Int32} (hC : CLay K) (hM : MLay K) (hn : I 52 3 = nI nm) (hn2 : I 59 124 = nI nm) (hb : nm ≤ 6) (hr : ∀ k, 1 ≤ k → k ≤ 7 → P (rfI I k) L)
    (hs : ∀ pn, 1 ≤ pn → pn ≤ 99999 → nm < 6 → p = nI pn → 1 ≤ w.toInt → w.toInt ≤ 9999 → P (zI (zI (zI (zI (zI (mkI I nm pn 0) 55 nm w) 52 3 (nI (nm + 1))) 148 nm (nI pn)) 149 nm w) 59 124 (nI (nm + 1))) L) : Op0 n0 xX12_marker xX13_marker (d + 2) (d + 2) [.int p, .int w] K I L P := by
  have c1 : (1 : Int32).toInt = 1 := rfl
  have c2 : (99999 : Int32).toInt = 99999 := rfl
  have c3 : (9999 : Int32).toInt = 9999 := rfl
  refine wp_X12_marker hC ?_
  by_cases h1 : p < 1
  · exact ip h1 (op_rf 4 hC (by omega) (by omega) rfl (wp_X13_marker hM (ip h1 (op_rr 4 hM (by omega) rfl (hr 4 (by omega) (by omega))))))
  refine iq h1 ?_
  by_cases h2 : w < 1
  · exact ip h2 (op_rf 4 hC (by omega) (by omega) rfl (wp_X13_marker hM (iq h1 (ip h2 (op_rr 4 hM (by omega) rfl (hr 4 (by omega) (by omega)))))))
  refine iq h2 ?_
  by_cases h3 : 99999 < p
  · exact ip h3 (op_rf 6 hC (by omega) (by omega) rfl (wp_X13_marker hM (iq h1 (iq h2 (ip h3 (op_rr 6 hM (by omega) rfl (hr 6 (by omega) (by omega))))))))
  refine iq h3 ?_
  by_cases h4 : 9999 < w
  · exact ip h4 (op_rf 6 hC (by omega) (by omega) rfl (wp_X13_marker hM (iq h1 (iq h2 (iq h3 (ip h4 (op_rr 6 hM (by omega) rfl (hr 6 (by omega) (by omega)))))))))
  refine iq h4 ?_
  have h1' := mt q_lt.mpr h1
  have h2' := mt q_lt.mpr h2
  have h3' := mt q_lt.mpr h3
  have h4' := mt q_lt.mpr h4
  rw [hn]
  by_cases h5 : nm < 6
  · obtain ⟨pn, rfl, hp1, ep⟩ := q_of (show 0 ≤ p.toInt by omega)
    have h5' : nI nm < 6 := nI_lt (b := 6) h5 (by omega)
    refine ip h5' (wp_X9_add hC (by
      rw [hn]
      refine ip h5' ?_
      have hz := c9_add_loop (n0 := n0) (d := d + 1) (K := K) (L := L) (Q := fun vv I1 L1 => ∃ r : Int32, vv = some (.int r) ∧ OpQ n0 xX13_marker (d + 2) [.int (nI pn), .int w] K P (some (.int r)) I1 L1) (n := nm) (p := pn) (w := w) hC h5 hp1 5 0 I rfl hn ?_
      · rw [show pn / 10 ^ 0 = pn by simp] at hz
        exact hz
      · refine ⟨_, rfl, _, rfl, wp_X13_marker hM (iq h1 (iq h2 (iq h3 (iq h4 ?_))))⟩
        have hre : RE (zI (zI (mkI I nm pn 0) 55 nm w) 52 3 (nI (nm + 1))) I := (mkI_re.z (Or.inl (by omega))).z (Or.inl (by omega))
        rw [hre 59 (by omega) (by omega), hn2, q_cl (by omega), ← nI_succ]
        refine iq (fun z => ?_) ⟨q_inn (by omega) (by omega), by rw [nI_pred], hs pn (by omega) (by omega) h5 rfl (by omega) (by omega)⟩
        have := q_eq.mp z
        rw [q_nI (by omega)] at this
        have e2' : (6 : Int32).toInt = 6 := rfl
        omega))
  · have : nm = 6 := by omega
    subst this
    refine iq (by decide) (op_rf 6 hC (by omega) (by omega) rfl (wp_X13_marker hM (iq h1 (iq h2 (iq h3 (iq h4 (ip ?_ (op_rr 6 hM (by omega) rfl (hr 6 (by omega) (by omega))))))))))
    rw [zI_r (by omega), hn2]; rfl
end MKR
