/-! constructors: arrays made one behind the other -/
section CT
variable {n0 d rc rs pc : Nat} {X : z_X} {lv : List (Nat × Value)} {st : List Value} {K : z_K} {I : z_I} {L : z_L} {Q : z_R}
def ctF (K : z_K) (t n : Nat) : Prop := ∀ o c : Nat, o < K.1 → (K.2.1 o).1 = c → o < (zN K t n).1 ∧ ((zN K t n).2.1 o).1 = c
theorem ctF_ok {t n : Nat} : ctF K t n := fun o c h1 h2 => ⟨Nat.lt_succ_of_lt h1, by simp [zN, Nat.ne_of_lt h1, h2]⟩
theorem z_newaO {at0 : ArrayType} {t N : Nat} {n : Int32} (hd : decode X.2.1 pc = .ok (.newarray at0, 2)) (ht : (at0 = .int ∧ t = 20) ∨ (at0 = .boolean ∧ t = 21) ∨ (at0 = .long ∧ t = 22)) (hw : Cond.arrayClass (newarray.typeOf at0) ∈ lw_good) (hn : ¬ n < 0) (hb : n.toNatClampNeg ≤ 60000) (hN : n.toNatClampNeg = N)
    (kk : ctF K t N → Z n0 X d rc rs (pc + 2) lv (.ref (n0 + K.1) :: st) (zN K t N) (zI0 I K.1) (zL0 L K.1) Q) : Z n0 X d (rc + 1) (rs + N) pc lv (.int n :: st) K I L Q := by
  subst hN
  exact z_newa hd ht hw hn hb (kk ctF_ok)
theorem z_newqO {idx t N : Nat} {n : Int32} (hd : decode X.2.1 pc = .ok (.anewarray idx, 3)) (ht : z_rt t) (hw : Cond.classLink X.1.cls idx (z_Rn (t - 30)) ∈ lw_good) (hw2 : Cond.arrayOver (.object (z_Rn (t - 30))) ∈ lw_nest) (hn : ¬ n < 0) (hb : n.toNatClampNeg ≤ 60000) (hN : n.toNatClampNeg = N)
    (kk : ctF K t N → Z n0 X d rc rs (pc + 3) lv (.ref (n0 + K.1) :: st) (zN K t N) (zI0 I K.1) (zL0 L K.1) Q) : Z n0 X d (rc + 1) (rs + N) pc lv (.int n :: st) K I L Q := by
  subst hN
  exact z_newq hd ht hw hw2 hn hb (kk ctF_ok)
abbrev ctT : Type := z_K × z_I × z_L
/-- an array is made and becomes the field f.1 of o; f.2: kind and length -/
def ctA (o : Nat) (S : ctT) (f : Nat × Nat × Nat) : ctT := (zR (zN S.1 f.2.1 f.2.2) o f.1 (some S.1.1), zI0 S.2.1 S.1.1, zL0 S.2.2 S.1.1)
/-- the cloth's six numbers -/
def ctC (o : Nat) (S : ctT) (j : Nat) : ctT := (zR (zN S.1 20 6) o j (some S.1.1), zI (zI (zI (zI (zI (zI (zI0 S.2.1 S.1.1) S.1.1 0 12) S.1.1 1 10) S.1.1 2 0) S.1.1 3 0) S.1.1 4 0) S.1.1 5 0, zL0 S.2.2 S.1.1)
/-- what such a row of arrays leaves -/
theorem ct_facts (o : Nat) : ∀ (fs : List (Nat × Nat × Nat)) (S : ctT), o < S.1.1 → (∀ (i j : Nat) (x y : Nat × Nat × Nat), fs[i]? = some x → fs[j]? = some y → x.1 = y.1 → i = j) →
    (fs.foldl (ctA o) S).1.1 = S.1.1 + fs.length ∧ (∀ a, a < S.1.1 → (fs.foldl (ctA o) S).1.2.1 a = S.1.2.1 a) ∧ (∀ a, a < S.1.1 → a ≠ o → (fs.foldl (ctA o) S).1.2.2 a = S.1.2.2 a)
    ∧ (∀ j, (∀ x ∈ fs, x.1 ≠ j) → (fs.foldl (ctA o) S).1.2.2 o j = S.1.2.2 o j) ∧ (∀ (i : Nat) (x : Nat × Nat × Nat), fs[i]? = some x → (fs.foldl (ctA o) S).1.2.2 o x.1 = some (S.1.1 + i) ∧ (fs.foldl (ctA o) S).1.2.1 (S.1.1 + i) = (x.2.1, x.2.2) ∧ (∀ k, (fs.foldl (ctA o) S).1.2.2 (S.1.1 + i) k = none))
    ∧ (∀ a, a < S.1.1 → (fs.foldl (ctA o) S).2.1 a = S.2.1 a) ∧ (∀ a, a < S.1.1 → (fs.foldl (ctA o) S).2.2 a = S.2.2 a) ∧ (∀ i, i < fs.length → ∀ k, (fs.foldl (ctA o) S).2.1 (S.1.1 + i) k = 0) ∧ (∀ i, i < fs.length → ∀ k, (fs.foldl (ctA o) S).2.2 (S.1.1 + i) k = 0) := by
  intro fs
  induction fs with
  | nil =>
    intro S ho hd
    refine ⟨rfl, fun _ _ => rfl, fun _ _ _ => rfl, fun _ _ => rfl, fun i x h => by simp at h, fun _ _ => rfl, fun _ _ => rfl, fun i h => absurd h (Nat.not_lt_zero i), fun i h => absurd h (Nat.not_lt_zero i)⟩
  | cons f fs ih =>
    intro S ho hd
    have h1 : (ctA o S f).1.1 = S.1.1 + 1 := rfl
    obtain ⟨a1, a2, a3, a4, a5, a6, a7, a8, a9⟩ := ih (ctA o S f) (by rw [h1]; omega) (fun i j x y hi hj e => by
      have := hd (i + 1) (j + 1) x y hi hj e
      omega)
    have hfo : ∀ x ∈ fs, x.1 ≠ f.1 := fun x hx e => by
      obtain ⟨i, hi⟩ := List.getElem?_of_mem hx
      have := hd (i + 1) 0 x f hi rfl e
      omega
    simp only [List.foldl_cons, List.length_cons]
    rw [h1] at a1 a2 a3 a5 a6 a7 a8 a9
    have hne : o ≠ S.1.1 := Nat.ne_of_lt ho
    refine ⟨by rw [a1]; omega, fun a ha => ?_, fun a ha hao => ?_, fun j hj => ?_, fun i x hx => ?_, fun a ha => ?_, fun a ha => ?_, fun i hi k => ?_, fun i hi k => ?_⟩
    · rw [a2 a (by omega)]; simp [ctA, zR, zN, Nat.ne_of_lt ha]
    · rw [a3 a (by omega) hao]; simp [ctA, zR, zN, Nat.ne_of_lt ha, hao]
    · rw [a4 j (fun x hx => hj x (List.mem_cons_of_mem _ hx))]
      have hjf : j ≠ f.1 := fun e => hj f List.mem_cons_self e.symm
      simp [ctA, zR, zN, hjf, hne]
    · cases i with
      | zero =>
        simp at hx
        subst hx
        refine ⟨?_, ?_, fun k => ?_⟩
        · rw [a4 f.1 hfo]; simp [ctA, zR]
        · rw [Nat.add_zero, a2 _ (by omega)]; simp [ctA, zR, zN]
        · rw [Nat.add_zero, a3 _ (by omega) (Ne.symm hne)]; simp [ctA, zR, zN, Ne.symm hne]
      | succ i =>
        have := a5 i x (by simpa using hx)
        rw [show S.1.1 + (i + 1) = S.1.1 + 1 + i by omega]
        exact this
    · rw [a6 a (by omega)]; simp [ctA, zI0, Nat.ne_of_lt ha]
    · rw [a7 a (by omega)]; simp [ctA, zL0, Nat.ne_of_lt ha]
    · cases i with
      | zero => rw [Nat.add_zero, a6 _ (by omega)]; simp [ctA, zI0]
      | succ i => rw [show S.1.1 + (i + 1) = S.1.1 + 1 + i by omega]; exact a8 i (by simp at hi; omega) k
    · cases i with
      | zero => rw [Nat.add_zero, a7 _ (by omega)]; simp [ctA, zL0]
      | succ i => rw [show S.1.1 + (i + 1) = S.1.1 + 1 + i by omega]; exact a9 i (by simp at hi; omega) k
end CT
