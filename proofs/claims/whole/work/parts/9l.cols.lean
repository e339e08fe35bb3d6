section COL
variable {N : Nat} {W : Nat → Int32 × Int32} {s kd : Int32} {c q : Nat}
/-- a column's bits behind the loop of cover -/
theorem cv_col (hN : 1 ≤ N) (hw : ∀ k, k < N → (-2000000 ≤ (W k).1.toInt ∧ (W k).1.toInt ≤ 2000000) ∧ (-2000000 ≤ (W k).2.toInt ∧ (W k).2.toInt ≤ 2000000)) (h0 : 1 ≤ s.toInt) (h1 : s.toInt ≤ 100000) (hc : c < 24) : insN (cvB W N (vtN kd N) kd s c q) N = (decide (q < 24) && clB W N (vtN kd N) s c q) := by
  by_cases h : q < 24
  · rw [decide_eq_true h, Bool.true_and]; exact cv_cl hN hw h0 h1 hc h
  · rw [decide_eq_false h, Bool.false_and]
    refine (insN_c (f := fun _ => false) N (fun k _ => ?_)).trans (insN_f N)
    unfold cvB crB
    rw [decide_eq_false h, Bool.false_and, Bool.false_and, Bool.and_false]
    rfl
end COL
