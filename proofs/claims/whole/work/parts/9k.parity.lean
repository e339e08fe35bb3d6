section PAR
variable {N : Nat} {W : Nat → Int32 × Int32} {s kd : Int32} {c q : Nat}
theorem insN_add {f : Nat → Bool} {a : Nat} : ∀ b, insN f (a + b) = (insN f a ^^ insN (fun k => f (a + k)) b) := by
  intro b
  induction b with
  | zero => show insN f a = (insN f a ^^ false); rw [Bool.xor_false]
  | succ b ih => show (insN f (a + b) ^^ f (a + b)) = (insN f a ^^ (insN (fun k => f (a + k)) b ^^ f (a + b))); rw [ih, Bool.xor_assoc]
theorem insN_xor {f g : Nat → Bool} : ∀ n, insN (fun k => f k ^^ g k) n = (insN f n ^^ insN g n) := by
  intro n
  induction n with
  | zero => rfl
  | succ n ih =>
    show (insN (fun k => f k ^^ g k) n ^^ (f n ^^ g n)) = ((insN f n ^^ f n) ^^ (insN g n ^^ g n))
    rw [ih]
    cases insN f n <;> cases insN g n <;> cases f n <;> cases g n <;> rfl
theorem insN_f : ∀ n, insN (fun _ => false) n = false := by
  intro n
  induction n with
  | zero => rfl
  | succ n ih => show (insN (fun _ => false) n ^^ false) = false; rw [ih]; rfl
/-- the turned over cells are those within -/
theorem cv_cl (hN : 1 ≤ N) (hw : ∀ k, k < N → (-2000000 ≤ (W k).1.toInt ∧ (W k).1.toInt ≤ 2000000) ∧ (-2000000 ≤ (W k).2.toInt ∧ (W k).2.toInt ≤ 2000000)) (h0 : 1 ≤ s.toInt) (h1 : s.toInt ≤ 100000) (hc : c < 24) (hq : q < 24) : insN (cvB W N (vtN kd N) kd s c q) N = clB W N (vtN kd N) s c q := by
  have ck : ∀ a b, crB (vtD W N (vtN kd N) a).1 (vtD W N (vtN kd N) a).2 (vtD W N (vtN kd N) b).1 (vtD W N (vtN kd N) b).2 s c q = ckB (vtD W N (vtN kd N) a).1.toInt (vtD W N (vtN kd N) a).2.toInt (vtD W N (vtN kd N) b).1.toInt (vtD W N (vtN kd N) b).2.toInt ((2 * (c : Int) + 1) * s.toInt) ((2 * (q : Int) + 1) * s.toInt) := fun a b =>
    crB_ck h0 h1 (vtD_b hN hw a).1 (vtD_b hN hw a).2 (vtD_b hN hw b).1 (vtD_b hN hw b).2 hc hq
  have lo : insN (fun k => crB (vtD W N (vtN kd N) k).1 (vtD W N (vtN kd N) k).2 (vtD W N (vtN kd N) (k + 1)).1 (vtD W N (vtN kd N) (k + 1)).2 s c q) N = insN (vkB W N (vtN kd N) ((2 * (c : Int) + 1) * s.toInt) ((2 * (q : Int) + 1) * s.toInt)) N := insN_c N (fun k hk => by
    unfold vkB
    rw [decide_eq_true (show k ≠ N by omega), Bool.true_and]
    exact ck k (k + 1))
  have e : insN (cvB W N (vtN kd N) kd s c q) N = (insN (fun k => crB (vtD W N (vtN kd N) k).1 (vtD W N (vtN kd N) k).2 (vtD W N (vtN kd N) (k + 1)).1 (vtD W N (vtN kd N) (k + 1)).2 s c q) N ^^ insN (fun k => decide (kd = 1) && crB (vtD W N (vtN kd N) (N + 1 + k)).1 (vtD W N (vtN kd N) (N + 1 + k)).2 (vtD W N (vtN kd N) (N + 1 + (k + 1))).1 (vtD W N (vtN kd N) (N + 1 + (k + 1))).2 s c q) N) := insN_xor N
  rw [e, lo]
  unfold clB
  by_cases g : kd = 1
  · have eM : vtN kd N - 1 = N + 1 + N := by unfold vtN; rw [if_pos g]; omega
    rw [eM, insN_add (a := N + 1) N]
    congr 1
    · show _ = (insN _ N ^^ vkB W N (vtN kd N) _ _ N)
      rw [show ∀ a b, vkB W N (vtN kd N) a b N = false from fun a b => by unfold vkB; rw [decide_eq_false (fun z => z rfl), Bool.false_and], Bool.xor_false]
    · refine insN_c N (fun k hk => ?_)
      unfold vkB
      rw [decide_eq_true g, Bool.true_and, decide_eq_true (show N + 1 + k ≠ N by omega), Bool.true_and]
      exact ck (N + 1 + k) (N + 1 + (k + 1))
  · have eM : vtN kd N - 1 = N := by unfold vtN; rw [if_neg g]; omega
    have z : insN (fun k => decide (kd = 1) && crB (vtD W N (vtN kd N) (N + 1 + k)).1 (vtD W N (vtN kd N) (N + 1 + k)).2 (vtD W N (vtN kd N) (N + 1 + (k + 1))).1 (vtD W N (vtN kd N) (N + 1 + (k + 1))).2 s c q) N = false := (insN_c (f := fun _ => false) N (fun k _ => by rw [decide_eq_false g, Bool.false_and])).trans (insN_f N)
    rw [eM, z, Bool.xor_false]
end PAR
