def cvB (W : Nat → Int32 × Int32) (N M : Nat) (kd s : Int32) (c q w : Nat) : Bool := crB (vtD W N M w).1 (vtD W N M w).2 (vtD W N M (w + 1)).1 (vtD W N M (w + 1)).2 s c q ^^ (decide (kd = 1) && crB (vtD W N M (N + 1 + w)).1 (vtD W N M (N + 1 + w)).2 (vtD W N M (N + 1 + (w + 1))).1 (vtD W N M (N + 1 + (w + 1))).2 s c q)
section C1C
variable {n0 d : Nat} {K : z_K} {I : z_I} {L : z_L} {Q : z_q} {N M o c : Nat} {W : Nat → Int32 × Int32} {s kd : Int32}
theorem c10_cv58 (hC : CLay K) (ho : o < K.1) (hc : (K.2.1 o).1 = 10) (hr : K.2.2 o 0 = some c) (hcl : c < K.1) (hs : K.2.1 c = (20, 24)) (o1 : c ≠ 8) (o2 : c ≠ 18) (o3 : c ≠ 19) (o4 : c ≠ o) (hN : 1 ≤ N ∧ N ≤ 80) (h15 : I 8 15 = nI N) (hw : ∀ n, n < N → I 18 n = (W n).1 ∧ I 19 n = (W n).2) (h5 : I o 5 = mnV (fun q => (vtx W N q).1) M) (h6 : I o 6 = mnV (fun q => (vtx W N q).2) M)
    (h : ∀ I', Fz (fun a _ => a = c) I I' → (∀ k, k < 24 → ∀ q, q < 32 → tb (I' c k) q = (tb (I c k) q ^^ insN (cvB W N M kd s k q) N)) → Z n0 xX10_cover (d + 1) 0 0 58 [(0, .ref (n0 + o)), (1, .ref (n0 + 8)), (3, .int s), (4, .int (if kd = 1 then 1 else 0)), (5, .int (2 * (W 0).1)), (6, .int (nI N))] [] K I' L (z_q0 K Q)) :
    ∀ w k I1, k + w = N → Fz (fun a _ => a = c) I I1 → (∀ b, b < 24 → ∀ q, q < 32 → tb (I1 c b) q = (tb (I c b) q ^^ insN (cvB W N M kd s b q) k)) → Z n0 xX10_cover (d + 1) 0 0 58 [(0, .ref (n0 + o)), (1, .ref (n0 + 8)), (3, .int s), (4, .int (if kd = 1 then 1 else 0)), (5, .int (2 * (W 0).1)), (6, .int (nI k))] [] K I1 L (z_q0 K Q) := by
  intro w
  induction w with
  | zero => intro k I1 hk f1 t1; rw [show k = N by omega] at t1 ⊢; exact h I1 f1 t1
  | succ w ih =>
    intro k I1 hk f1 t1
    have q18 := ca_18 hC
    have q19 := ca_19 hC
    have q8 := co_8 hC
    have en : (if nI (k + 1) < nI N then nI (k + 1) else 0) = nI (if k + 1 < N then k + 1 else 0) := n_if (e := 0) (by omega) (by omega)
    have eb : (if k + 1 < N then k + 1 else 0) < N := by split <;> omega
    have ec : W (if k + 1 < N then k + 1 else 0) = cWk W N (k + 1) := by unfold cWk; split <;> rfl
    have w1 : ∀ n, n < N → I1 18 n = (W n).1 ∧ I1 19 n = (W n).2 := fun n hn => by rw [f1 18 n (by omega), f1 19 n (by omega)]; exact hw n hn
    have e5 : I1 o 5 = mnV (fun q => (vtx W N q).1) M := by rw [f1 o 5 (by omega)]; exact h5
    have e6 : I1 o 6 = mnV (fun q => (vtx W N q).2) M := by rw [f1 o 6 (by omega)]; exact h6
    refine wp_X10_cover_58 ⟨q8.1, q8.2, ?_⟩
    rw [f1 8 15 (by omega), h15, ← nI_succ, en]
    refine ip (nI_lt (by omega) (by omega)) ⟨19, q19.1, 80, q19.2.1, q19.2.2, q_inn (by omega) (by omega), ho, hc, q_inn (by omega) (by omega), 18, q18.1, 80, q18.2.1, q18.2.2, q_inn (by omega) (by omega), q_inn (by omega) (by omega), ?_⟩
    rw [q_cl (by omega), q_cl (by omega), (w1 k (by omega)).1, (w1 k (by omega)).2, (w1 _ eb).1, (w1 _ eb).2, e5, e6, ec]
    have v0 : vtx W N k = W k := by rw [vtx_lo (by omega), cWk_l (by omega)]
    have v1 : vtx W N (k + 1) = cWk W N (k + 1) := vtx_lo (by omega)
    have v2 : vtx W N (N + 1 + k) = (2 * (W 0).1 - (W k).1, (W k).2) := by rw [vtx_hi, cWk_l (by omega)]
    have v3 : vtx W N (N + 1 + (k + 1)) = (2 * (W 0).1 - (cWk W N (k + 1)).1, (cWk W N (k + 1)).2) := vtx_hi
    refine c10_cross ho hc hr hcl hs (fun I2 f2 t2 => ⟨rfl, ?_⟩)
    have st : ∀ b q, insN (cvB W N M kd s b q) (k + 1) = (insN (cvB W N M kd s b q) k ^^ cvB W N M kd s b q k) := fun _ _ => rfl
    by_cases g : kd = 1
    · rw [if_pos g] at ih ⊢
      refine iq (by decide) ?_
      rw [f2 o 5 (by omega), e5]
      refine c10_cross ho hc hr hcl hs (fun I3 f3 t3 => ⟨rfl, ih (k + 1) I3 (by omega) ((f1.trans f2).trans f3) (fun b hb q hq => ?_)⟩)
      rw [t3 b hb q hq, t2 b hb q hq, t1 b hb q hq, st, Bool.xor_assoc, Bool.xor_assoc]
      unfold cvB vtD
      rw [v0, v1, v2, v3, decide_eq_true g, Bool.true_and]
    · rw [if_neg g] at ih ⊢
      refine ip rfl (ih (k + 1) I2 (by omega) (f1.trans f2) (fun b hb q hq => ?_))
      rw [t2 b hb q hq, t1 b hb q hq, st, Bool.xor_assoc]
      unfold cvB vtD
      rw [v0, v1, decide_eq_false g, Bool.false_and, Bool.xor_false]
end C1C
