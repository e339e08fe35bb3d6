/-! a rule's text: what its reading makes -/
def nxT (T : Nat → Int32) (n i : Nat) : Int32 := if i < n then T i else (-1)
def numR (T : Nat → Int32) (n : Nat) : Nat → Nat → Int32 → Nat × Int32
  | 0, i, v => (i, v)
  | k + 1, i, v => if ¬ nxT T n i < 48 ∧ ¬ 57 < nxT T n i then numR T n k (i + 1) (v * 10 + nxT T n i - 48) else (i, v)
def bnS (r : Option (Nat ⊕ Nat × List Int32)) (g : Nat → List Int32 → Option (Nat ⊕ Nat × List Int32)) : Option (Nat ⊕ Nat × List Int32) :=
  match r with
  | none => none
  | some (Sum.inl e) => some (Sum.inl e)
  | some (Sum.inr q) => g q.1 q.2
/-- kinds: 0 a unit, 1 what goes on in a term, 2 a term, 3 what goes on in a sum, 4 a sum, 5 a bracket -/
def pS (T : Nat → Int32) (n : Nat) (pt : Int32) : Nat → Nat → Nat → Nat → Option (Nat ⊕ Nat × List Int32)
  | 0, _, _, _ => none
  | f + 1, kd, d, i =>
    if kd = 0 then
      if ¬ nxT T n i < 48 ∧ ¬ 57 < nxT T n i then some (Sum.inr ((numR T n 4 i 0).1, [(numR T n 4 i 0).2]))
      else if ¬ nxT T n i < 97 ∧ nxT T n i < 105 then some (Sum.inr (i + 1, [10000 + nxT T n i - 97]))
      else if nxT T n i = 120 ∨ nxT T n i = 121 then (if (nxT T n (i + 1) - 48 < 0 ∨ 9 < nxT T n (i + 1) - 48) ∨ ¬ nxT T n (i + 1) - 48 < pt then some (Sum.inl (i + 1)) else some (Sum.inr (i + 2, [(if nxT T n i = 120 then 10010 else 10020) + (nxT T n (i + 1) - 48)])))
      else if nxT T n i = 114 then bnS (pS T n pt f 5 d (i + 1)) (fun i2 c2 => some (Sum.inr (i2, c2 ++ [10034])))
      else pS T n pt f 5 d i
    else if kd = 1 then
      if nxT T n i = 42 ∨ nxT T n i = 47 then bnS (pS T n pt f 0 d (i + 1)) (fun i2 c2 => bnS (pS T n pt f 1 d i2) (fun i3 c3 => some (Sum.inr (i3, c2 ++ [if nxT T n i = 42 then 10032 else 10033] ++ c3))))
      else some (Sum.inr (i, []))
    else if kd = 2 then bnS (pS T n pt f 0 d i) (fun i1 c1 => bnS (pS T n pt f 1 d i1) (fun i2 c2 => some (Sum.inr (i2, c1 ++ c2))))
    else if kd = 3 then
      if nxT T n i = 43 ∨ nxT T n i = 45 then bnS (pS T n pt f 2 d (i + 1)) (fun i2 c2 => bnS (pS T n pt f 3 d i2) (fun i3 c3 => some (Sum.inr (i3, c2 ++ [if nxT T n i = 43 then 10030 else 10031] ++ c3))))
      else some (Sum.inr (i, []))
    else if kd = 4 then bnS (pS T n pt f 2 d i) (fun i1 c1 => bnS (pS T n pt f 3 d i1) (fun i2 c2 => some (Sum.inr (i2, c1 ++ c2))))
    else
      if nxT T n i = 40 ∧ d < 5 then bnS (pS T n pt f 4 (d + 1) (i + 1)) (fun i2 c2 => if nxT T n i2 = 41 then some (Sum.inr (i2 + 1, c2)) else some (Sum.inl i2))
      else some (Sum.inl i)
section PSP
variable {T : Nat → Int32} {n : Nat} {pt : Int32} {f d i : Nat}
theorem pS_0 : pS T n pt (f + 1) 0 d i = (if ¬ nxT T n i < 48 ∧ ¬ 57 < nxT T n i then some (Sum.inr ((numR T n 4 i 0).1, [(numR T n 4 i 0).2]))
      else if ¬ nxT T n i < 97 ∧ nxT T n i < 105 then some (Sum.inr (i + 1, [10000 + nxT T n i - 97]))
      else if nxT T n i = 120 ∨ nxT T n i = 121 then (if (nxT T n (i + 1) - 48 < 0 ∨ 9 < nxT T n (i + 1) - 48) ∨ ¬ nxT T n (i + 1) - 48 < pt then some (Sum.inl (i + 1)) else some (Sum.inr (i + 2, [(if nxT T n i = 120 then 10010 else 10020) + (nxT T n (i + 1) - 48)])))
      else if nxT T n i = 114 then bnS (pS T n pt f 5 d (i + 1)) (fun i2 c2 => some (Sum.inr (i2, c2 ++ [10034])))
      else pS T n pt f 5 d i) := rfl
theorem pS_1 : pS T n pt (f + 1) 1 d i = (if nxT T n i = 42 ∨ nxT T n i = 47 then bnS (pS T n pt f 0 d (i + 1)) (fun i2 c2 => bnS (pS T n pt f 1 d i2) (fun i3 c3 => some (Sum.inr (i3, c2 ++ [if nxT T n i = 42 then 10032 else 10033] ++ c3)))) else some (Sum.inr (i, []))) := rfl
theorem pS_2 : pS T n pt (f + 1) 2 d i = bnS (pS T n pt f 0 d i) (fun i1 c1 => bnS (pS T n pt f 1 d i1) (fun i2 c2 => some (Sum.inr (i2, c1 ++ c2)))) := rfl
theorem pS_3 : pS T n pt (f + 1) 3 d i = (if nxT T n i = 43 ∨ nxT T n i = 45 then bnS (pS T n pt f 2 d (i + 1)) (fun i2 c2 => bnS (pS T n pt f 3 d i2) (fun i3 c3 => some (Sum.inr (i3, c2 ++ [if nxT T n i = 43 then 10030 else 10031] ++ c3)))) else some (Sum.inr (i, []))) := rfl
theorem pS_4 : pS T n pt (f + 1) 4 d i = bnS (pS T n pt f 2 d i) (fun i1 c1 => bnS (pS T n pt f 3 d i1) (fun i2 c2 => some (Sum.inr (i2, c1 ++ c2)))) := rfl
theorem pS_5 : pS T n pt (f + 1) 5 d i = (if nxT T n i = 40 ∧ d < 5 then bnS (pS T n pt f 4 (d + 1) (i + 1)) (fun i2 c2 => if nxT T n i2 = 41 then some (Sum.inr (i2 + 1, c2)) else some (Sum.inl i2)) else some (Sum.inl i)) := rfl
theorem nx_lt (h : nxT T n i ≠ -1) : i < n := by
  unfold nxT at h
  by_cases g : i < n
  · exact g
  · rw [if_neg g] at h; exact absurd rfl h
theorem nx_lt48 (h : ¬ nxT T n i < 48) : i < n := nx_lt (fun z => h (by rw [z]; decide))
theorem bn_s {r : Option (Nat ⊕ Nat × List Int32)} {g : Nat → List Int32 → Option (Nat ⊕ Nat × List Int32)} {x : Nat × List Int32} (h : bnS r g = some (Sum.inr x)) : ∃ j c, r = some (Sum.inr (j, c)) ∧ g j c = some (Sum.inr x) := by
  cases r with
  | none => cases h
  | some r =>
    cases r with
    | inl e => cases h
    | inr q => exact ⟨q.1, q.2, rfl, h⟩
theorem numR_le : ∀ k i v, i ≤ n → i ≤ (numR T n k i v).1 ∧ (numR T n k i v).1 ≤ n := by
  intro k
  induction k with
  | zero => intro i v h; exact ⟨Nat.le_refl _, h⟩
  | succ k ih =>
    intro i v h
    show i ≤ (if ¬ nxT T n i < 48 ∧ ¬ 57 < nxT T n i then numR T n k (i + 1) (v * 10 + nxT T n i - 48) else (i, v)).1 ∧ (if ¬ nxT T n i < 48 ∧ ¬ 57 < nxT T n i then numR T n k (i + 1) (v * 10 + nxT T n i - 48) else (i, v)).1 ≤ n
    by_cases g : ¬ nxT T n i < 48 ∧ ¬ 57 < nxT T n i
    · rw [if_pos g]
      have := ih (i + 1) (v * 10 + nxT T n i - 48) (nx_lt48 g.1)
      omega
    · rw [if_neg g]; exact ⟨Nat.le_refl _, h⟩
theorem numR_d {k : Nat} {v : Int32} (g : ¬ nxT T n i < 48 ∧ ¬ 57 < nxT T n i) : numR T n (k + 1) i v = numR T n k (i + 1) (v * 10 + nxT T n i - 48) := if_pos g
/-- where the reading ends, and how many codes it made -/
theorem pS_pos : ∀ f kd d i j c, i ≤ n → pS T n pt f kd d i = some (Sum.inr (j, c)) → j ≤ n ∧ i ≤ j ∧ (kd ≠ 1 → kd ≠ 3 → i < j) ∧ c.length ≤ j - i := by
  intro f
  induction f with
  | zero => intro kd d i j c _ h; cases h
  | succ f ih =>
    intro kd d i j c hi h
    by_cases k0 : kd = 0
    · subst k0
      rw [pS_0] at h
      by_cases g1 : ¬ nxT T n i < 48 ∧ ¬ 57 < nxT T n i
      · rw [if_pos g1] at h
        have h' := Prod.mk.inj (Sum.inr.inj (Option.some.inj h))
        rw [← h'.1, ← h'.2, numR_d g1]
        have := numR_le (T := T) 3 (i + 1) (0 * 10 + nxT T n i - 48) (nx_lt48 g1.1)
        refine ⟨this.2, by omega, fun _ _ => by omega, ?_⟩
        show 1 ≤ _
        omega
      · rw [if_neg g1] at h
        by_cases g2 : ¬ nxT T n i < 97 ∧ nxT T n i < 105
        · rw [if_pos g2] at h
          have h' := Prod.mk.inj (Sum.inr.inj (Option.some.inj h))
          have hl : i < n := nx_lt (fun z => g2.1 (by rw [z]; decide))
          rw [← h'.1, ← h'.2]
          refine ⟨by omega, by omega, fun _ _ => by omega, ?_⟩
          show 1 ≤ _
          omega
        · rw [if_neg g2] at h
          by_cases g3 : nxT T n i = 120 ∨ nxT T n i = 121
          · rw [if_pos g3] at h
            have hl : i < n := nx_lt (fun z => by rw [z] at g3; rcases g3 with g | g <;> exact absurd g (by decide))
            by_cases g4 : (nxT T n (i + 1) - 48 < 0 ∨ 9 < nxT T n (i + 1) - 48) ∨ ¬ nxT T n (i + 1) - 48 < pt
            · rw [if_pos g4] at h; cases h
            · rw [if_neg g4] at h
              have h' := Prod.mk.inj (Sum.inr.inj (Option.some.inj h))
              have hl2 : i + 1 < n := nx_lt (fun z => g4 (Or.inl (Or.inl (by rw [z]; decide))))
              rw [← h'.1, ← h'.2]
              refine ⟨by omega, by omega, fun _ _ => by omega, ?_⟩
              show 1 ≤ _
              omega
          · rw [if_neg g3] at h
            by_cases g5 : nxT T n i = 114
            · rw [if_pos g5] at h
              have hl : i < n := nx_lt (fun z => by rw [z] at g5; exact absurd g5 (by decide))
              obtain ⟨j1, c1, e1, h⟩ := bn_s h
              have h' := Prod.mk.inj (Sum.inr.inj (Option.some.inj h))
              obtain ⟨a1, a2, a3, a4⟩ := ih 5 d (i + 1) j1 c1 hl e1
              have a3 := a3 (by decide) (by decide)
              rw [← h'.1, ← h'.2, List.length_append]
              refine ⟨a1, by omega, fun _ _ => by omega, ?_⟩
              show c1.length + 1 ≤ _
              omega
            · rw [if_neg g5] at h
              obtain ⟨a1, a2, a3, a4⟩ := ih 5 d i j c hi h
              exact ⟨a1, a2, fun _ _ => a3 (by decide) (by decide), a4⟩
    by_cases k1 : kd = 1
    · subst k1
      rw [pS_1] at h
      by_cases g : nxT T n i = 42 ∨ nxT T n i = 47
      · rw [if_pos g] at h
        have hl : i < n := nx_lt (fun z => by rw [z] at g; rcases g with g | g <;> exact absurd g (by decide))
        obtain ⟨j1, c1, e1, h⟩ := bn_s h
        obtain ⟨j2, c2, e2, h⟩ := bn_s h
        have h' := Prod.mk.inj (Sum.inr.inj (Option.some.inj h))
        obtain ⟨a1, a2, a3, a4⟩ := ih 0 d (i + 1) j1 c1 hl e1
        have a3 := a3 (by decide) (by decide)
        obtain ⟨b1, b2, b3, b4⟩ := ih 1 d j1 j2 c2 a1 e2
        rw [← h'.1, ← h'.2, List.length_append, List.length_append]
        refine ⟨b1, by omega, fun z _ => absurd rfl z, ?_⟩
        show c1.length + 1 + c2.length ≤ _
        omega
      · rw [if_neg g] at h
        have h' := Prod.mk.inj (Sum.inr.inj (Option.some.inj h))
        rw [← h'.1, ← h'.2]
        exact ⟨hi, Nat.le_refl _, fun z _ => absurd rfl z, Nat.zero_le _⟩
    by_cases k2 : kd = 2
    · subst k2
      rw [pS_2] at h
      obtain ⟨j1, c1, e1, h⟩ := bn_s h
      obtain ⟨j2, c2, e2, h⟩ := bn_s h
      have h' := Prod.mk.inj (Sum.inr.inj (Option.some.inj h))
      obtain ⟨a1, a2, a3, a4⟩ := ih 0 d i j1 c1 hi e1
      have a3 := a3 (by decide) (by decide)
      obtain ⟨b1, b2, b3, b4⟩ := ih 1 d j1 j2 c2 a1 e2
      rw [← h'.1, ← h'.2, List.length_append]
      exact ⟨b1, by omega, fun _ _ => by omega, by omega⟩
    by_cases k3 : kd = 3
    · subst k3
      rw [pS_3] at h
      by_cases g : nxT T n i = 43 ∨ nxT T n i = 45
      · rw [if_pos g] at h
        have hl : i < n := nx_lt (fun z => by rw [z] at g; rcases g with g | g <;> exact absurd g (by decide))
        obtain ⟨j1, c1, e1, h⟩ := bn_s h
        obtain ⟨j2, c2, e2, h⟩ := bn_s h
        have h' := Prod.mk.inj (Sum.inr.inj (Option.some.inj h))
        obtain ⟨a1, a2, a3, a4⟩ := ih 2 d (i + 1) j1 c1 hl e1
        have a3 := a3 (by decide) (by decide)
        obtain ⟨b1, b2, b3, b4⟩ := ih 3 d j1 j2 c2 a1 e2
        rw [← h'.1, ← h'.2, List.length_append, List.length_append]
        refine ⟨b1, by omega, fun _ z => absurd rfl z, ?_⟩
        show c1.length + 1 + c2.length ≤ _
        omega
      · rw [if_neg g] at h
        have h' := Prod.mk.inj (Sum.inr.inj (Option.some.inj h))
        rw [← h'.1, ← h'.2]
        exact ⟨hi, Nat.le_refl _, fun _ z => absurd rfl z, Nat.zero_le _⟩
    by_cases k4 : kd = 4
    · subst k4
      rw [pS_4] at h
      obtain ⟨j1, c1, e1, h⟩ := bn_s h
      obtain ⟨j2, c2, e2, h⟩ := bn_s h
      have h' := Prod.mk.inj (Sum.inr.inj (Option.some.inj h))
      obtain ⟨a1, a2, a3, a4⟩ := ih 2 d i j1 c1 hi e1
      have a3 := a3 (by decide) (by decide)
      obtain ⟨b1, b2, b3, b4⟩ := ih 3 d j1 j2 c2 a1 e2
      rw [← h'.1, ← h'.2, List.length_append]
      exact ⟨b1, by omega, fun _ _ => by omega, by omega⟩
    · have h5 : pS T n pt (f + 1) kd d i = (if nxT T n i = 40 ∧ d < 5 then bnS (pS T n pt f 4 (d + 1) (i + 1)) (fun i2 c2 => if nxT T n i2 = 41 then some (Sum.inr (i2 + 1, c2)) else some (Sum.inl i2)) else some (Sum.inl i)) := by
        show (if kd = 0 then _ else if kd = 1 then _ else if kd = 2 then _ else if kd = 3 then _ else if kd = 4 then _ else _) = _
        rw [if_neg k0, if_neg k1, if_neg k2, if_neg k3, if_neg k4]
      rw [h5] at h
      by_cases g : nxT T n i = 40 ∧ d < 5
      · rw [if_pos g] at h
        have hl : i < n := nx_lt (fun z => by have := g.1; rw [z] at this; exact absurd this (by decide))
        obtain ⟨j1, c1, e1, h⟩ := bn_s h
        obtain ⟨a1, a2, a3, a4⟩ := ih 4 (d + 1) (i + 1) j1 c1 hl e1
        have a3 := a3 (by decide) (by decide)
        by_cases g2 : nxT T n j1 = 41
        · rw [if_pos g2] at h
          have hl2 : j1 < n := nx_lt (fun z => by rw [z] at g2; exact absurd g2 (by decide))
          have h' := Prod.mk.inj (Sum.inr.inj (Option.some.inj h))
          rw [← h'.1, ← h'.2]
          exact ⟨by omega, by omega, fun _ _ => by omega, by omega⟩
        · rw [if_neg g2] at h; cases h
      · rw [if_neg g] at h; cases h
end PSP
