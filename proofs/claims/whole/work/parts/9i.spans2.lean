section C1S
variable {n0 d : Nat} {K : z_K} {I : z_I} {L : z_L} {Q : z_q} {N o pp : Nat} {W : Nat → Int32 × Int32} {s : Int32}
theorem mnV_1 {f : Nat → Int32} : mnV f 1 = f 0 := by
  show (if f 0 < f 0 then f 0 else f 0) = f 0
  split <;> rfl
theorem mxV_1 {f : Nat → Int32} : mxV f 1 = f 0 := by
  show (if f 0 < f 0 then f 0 else f 0) = f 0
  split <;> rfl
theorem wd_if {a b : Prop} [Decidable a] [Decidable b] : (if a then (0 : Int32) else if b then 0 else 1) = if (decide a || decide b) = true then 0 else 1 := by
  by_cases h1 : a
  · rw [if_pos h1, decide_eq_true h1]; rfl
  · rw [if_neg h1, decide_eq_false h1]
    by_cases h2 : b
    · rw [if_pos h2, decide_eq_true h2]; rfl
    · rw [if_neg h2, decide_eq_false h2]; rfl
theorem c10_spans (hC : CLay K) (ho : o < K.1) (hc : (K.2.1 o).1 = 10) (o1 : o ≠ 8) (o2 : o ≠ 18) (o3 : o ≠ 19) (hN : 1 ≤ N ∧ N ≤ 80) (h15 : I 8 15 = nI N) (hw : ∀ n, n < N → I 18 n = (W n).1 ∧ I 19 n = (W n).2) (hp : pp < K.1) (hp5 : (K.2.1 pp).1 = 5) (op : o ≠ pp) (hb : ∀ k, k < N → -2000000 ≤ (W k).1.toInt ∧ (W k).1.toInt ≤ 2000000)
    (h : ∀ I', Fz (fun a j => a = o ∧ (j = 5 ∨ j = 6)) I I' → I' o 5 = mnV (fun q => (vtx W N q).1) (vtN (I pp 1) N) → I' o 6 = mnV (fun q => (vtx W N q).2) (vtN (I pp 1) N) → Q (some (.int (if wdB W N (vtN (I pp 1) N) s = true then 0 else 1))) I' L) :
    RM0 n0 xX10_spans (d + 1) [.ref (n0 + o), .ref (n0 + 8), .ref (n0 + pp), .int s] K I L Q := by
  have q18 := ca_18 hC
  have q19 := ca_19 hC
  have q8 := co_8 hC
  obtain ⟨a1, a2⟩ := hw 0 (by omega)
  refine wp_X10_spans ⟨q8.1, q8.2, 18, q18.1, 80, q18.2.1, q18.2.2, q_inn (c := 0) (by omega) (by omega), ho, hc, 19, q19.1, 80, q19.2.1, q19.2.2, q_inn (c := 0) (by omega) (by omega), ?_⟩
  (repeat (first | rw [zI_s] | rw [zI_d (by omega)]))
  rw [a1, a2]
  have st := c10_sp35 (n0 := n0) (d := d) (K := K) (I := I) (L := L) (Q := Q) (p := pp) (W := W) (s := s) hC ho hc o1 o2 o3 hN h15 hw ?_ (N - 1) 1 (zI (zI I o 5 (W 0).1) o 6 (W 0).2) (by omega) ((Fz.rfl'.z ⟨rfl, Or.inl rfl⟩).z ⟨rfl, Or.inr rfl⟩) (by rw [zI_d (by omega), zI_s, mnV_1]) (by rw [zI_s, mnV_1])
  · rw [mxV_1, mxV_1] at st
    exact st
  · intro I' f' e5 e6
    have w1 : I' 18 0 = (W 0).1 := by rw [f' 18 0 (by omega)]; exact a1
    refine wp_X10_spans_35 ⟨q8.1, q8.2, ?_⟩
    rw [f' 8 15 (by omega), h15]
    refine iq (fun z => by have := q_lt.mp z; omega) ⟨hp, hp5, ?_⟩
    rw [f' pp 1 (by omega)]
    by_cases c : I pp 1 = 1
    · have eM : vtN (I pp 1) N = 2 * N + 2 := if_pos c
      rw [eM] at h
      obtain ⟨sx1, sx2⟩ := sp_x hN.1 hb
      obtain ⟨sy1, sy2⟩ := sp_y (W := W) hN.1
      refine ip c ⟨18, q18.1, 80, q18.2.1, q18.2.2, q_inn (c := 0) (by omega) (by omega), ho, hc, ?_⟩
      (repeat (first | rw [zI_s] | rw [zI_d (by omega)]))
      rw [w1, e5, e6, ← sx1, ← sx2, ← sy1, ← sy2, wd_if]
      exact h _ (f'.z ⟨rfl, Or.inl rfl⟩) zI_s (by rw [zI_d (by omega), e6, sy1])
    · have eM : vtN (I pp 1) N = N + 1 := if_neg c
      rw [eM] at h
      obtain ⟨sx1, sx2⟩ := sp_open (M := N + 1) (W := W) hN.1 Prod.fst (Nat.le_refl _) (fun k h1 h2 => by omega)
      obtain ⟨sy1, sy2⟩ := sp_open (M := N + 1) (W := W) hN.1 Prod.snd (Nat.le_refl _) (fun k h1 h2 => by omega)
      refine iq c ⟨ho, hc, ?_⟩
      rw [e5, e6, ← sx1, ← sx2, ← sy1, ← sy2, wd_if]
      exact h I' f' (by rw [e5]; exact sx1.symm) (by rw [e6]; exact sy1.symm)
end C1S
