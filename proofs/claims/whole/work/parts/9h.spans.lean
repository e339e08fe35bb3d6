section C10
variable {n0 d : Nat} {K : z_K} {I : z_I} {L : z_L} {Q : z_q} {N o p : Nat} {W : Nat → Int32 × Int32} {s : Int32}
theorem c10_sp35 (hC : CLay K) (ho : o < K.1) (hc : (K.2.1 o).1 = 10) (o1 : o ≠ 8) (o2 : o ≠ 18) (o3 : o ≠ 19) (hN : 1 ≤ N ∧ N ≤ 80) (h15 : I 8 15 = nI N) (hw : ∀ n, n < N → I 18 n = (W n).1 ∧ I 19 n = (W n).2)
    (h : ∀ I', Fz (fun a j => a = o ∧ (j = 5 ∨ j = 6)) I I' → I' o 5 = mnV (fun q => (W q).1) N → I' o 6 = mnV (fun q => (W q).2) N → Z n0 xX10_spans (d + 1) 0 0 35 [(0, .ref (n0 + o)), (1, .ref (n0 + 8)), (2, .ref (n0 + p)), (3, .int s), (4, .int (mxV (fun q => (W q).1) N)), (5, .int (mxV (fun q => (W q).2) N)), (6, .int (nI N))] [] K I' L (z_q0 K Q)) :
    ∀ w k I1, k + w = N → Fz (fun a j => a = o ∧ (j = 5 ∨ j = 6)) I I1 → I1 o 5 = mnV (fun q => (W q).1) k → I1 o 6 = mnV (fun q => (W q).2) k → Z n0 xX10_spans (d + 1) 0 0 35 [(0, .ref (n0 + o)), (1, .ref (n0 + 8)), (2, .ref (n0 + p)), (3, .int s), (4, .int (mxV (fun q => (W q).1) k)), (5, .int (mxV (fun q => (W q).2) k)), (6, .int (nI k))] [] K I1 L (z_q0 K Q) := by
  intro w
  induction w with
  | zero => intro k I1 hk f1 e5 e6; rw [show k = N by omega] at e5 e6 ⊢; exact h I1 f1 e5 e6
  | succ w ih =>
    intro k I1 hk f1 e5 e6
    obtain ⟨a1, a2⟩ := hw k (by omega)
    have w1 : I1 18 k = (W k).1 := by rw [f1 18 k (by omega)]; exact a1
    have w2 : I1 19 k = (W k).2 := by rw [f1 19 k (by omega)]; exact a2
    have q18 := ca_18 hC
    have q19 := ca_19 hC
    have q8 := co_8 hC
    refine wp_X10_spans_35 ⟨q8.1, q8.2, ?_⟩
    rw [f1 8 15 (by omega), h15]
    refine ip (nI_lt (by omega) (by omega)) ⟨ho, hc, 18, q18.1, 80, q18.2.1, q18.2.2, q_inn (by omega) (by omega), 19, q19.1, 80, q19.2.1, q19.2.2, q_inn (by omega) (by omega), ?_⟩
    rw [q_cl (by omega), ← nI_succ]
    (repeat (first | rw [zI_s] | rw [zI_d (by omega)]))
    rw [w1, w2, e5, e6]
    refine ih (k + 1) _ (by omega) ((f1.z ⟨rfl, Or.inl rfl⟩).z ⟨rfl, Or.inr rfl⟩) ?_ ?_
    · rw [zI_d (by omega), zI_s]; rfl
    · rw [zI_s]; rfl
end C10
