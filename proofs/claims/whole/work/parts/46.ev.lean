/-! what a rule's code is worth, and the reference's piles -/
theorem zL_s {L : z_L} {k j : Nat} {v : Int64} : zL L k j v k j = v := by simp [zL]
theorem zL_d {L : z_L} {k j a b : Nat} {v : Int64} (h : ¬ (a = k ∧ b = j)) : zL L k j v a b = L a b := by
  unfold zL
  by_cases h1 : a = k
  · rw [if_pos h1]
    exact if_neg (fun q => h ⟨h1, q⟩)
  · rw [if_neg h1]
def inR (v : Int64) : Bool := decide (-1000000 ≤ v.toInt ∧ v.toInt ≤ 1000000)
/-- broken; values, the last first; measures named; points named -/
def evP (v : Int64) (s : Bool × List Int64 × Int32 × Int32) : Bool × List Int64 × Int32 × Int32 := (s.1 || !inR v, (if (s.1 || !inR v) = true then 0 else v) :: s.2.1, s.2.2)
def aop (op : Int32) (a b : Int64) : Int64 := if op = 10030 then a + b else if op = 10031 then a - b else if op = 10032 then a * b else a / b
def evW (op : Int32) (s : Bool × List Int64 × Int32 × Int32) : Bool × List Int64 × Int32 × Int32 :=
  match s.2.1 with
  | b :: a :: w => if op = 10033 ∧ b = 0 then evP (aop op a 1) (true, w, s.2.2) else evP (aop op a b) (s.1, w, s.2.2)
  | _ => s
noncomputable def evR (s : Bool × List Int64 × Int32 × Int32) : Bool × List Int64 × Int32 × Int32 :=
  match s.2.1 with
  | v :: w => if v < 0 then (true, 0 :: w, s.2.2) else (s.1, rtL v :: w, s.2.2)
  | _ => s
noncomputable def evC (ms rx ry : Nat → Int32) (s : Bool × List Int64 × Int32 × Int32) (u : Int32) : Bool × List Int64 × Int32 × Int32 :=
  if u < 10000 then evP u.toInt64 s
  else if u < 10008 then evP (ms (u - 10000).toNatClampNeg).toInt64 (s.1, s.2.1, s.2.2.1 ||| ((1 : Int32) <<< ((u - 10000) &&& 31 : Int32)), s.2.2.2)
  else if u < 10020 then evP (rx (u - 10010).toNatClampNeg).toInt64 (s.1, s.2.1, s.2.2.1, s.2.2.2 ||| ((1 : Int32) <<< ((u - 10010) &&& 31 : Int32)))
  else if u < 10030 then evP (ry (u - 10020).toNatClampNeg).toInt64 (s.1, s.2.1, s.2.2.1, s.2.2.2 ||| ((1 : Int32) <<< ((u - 10020) &&& 31 : Int32)))
  else if u = 10034 then evR s
  else evW u s
noncomputable def evs (ms rx ry : Nat → Int32) (s : Bool × List Int64 × Int32 × Int32) (cs : List Int32) : Bool × List Int64 × Int32 × Int32 := cs.foldl (evC ms rx ry) s
def stk {α : Type} (g : Nat → α) : List α → Prop
  | [] => True
  | x :: xs => g xs.length = x ∧ stk g xs
def opC (sg : Int32) : Int32 := if sg = 43 then 10030 else if sg = 45 then 10031 else if sg = 42 then 10032 else 10033
section EVL
variable {ms rx ry : Nat → Int32} {s : Bool × List Int64 × Int32 × Int32} {cs cs' : List Int32} {T : Nat → Int32} {n : Nat} {pt : Int32}
theorem evs_app : evs ms rx ry s (cs ++ cs') = evs ms rx ry (evs ms rx ry s cs) cs' := List.foldl_append
theorem evP_l {v : Int64} : (evP v s).2.1.length = s.2.1.length + 1 := rfl
theorem evW_l {op : Int32} (h : 2 ≤ s.2.1.length) : (evW op s).2.1.length = s.2.1.length - 1 := by
  obtain ⟨b, V, r⟩ := s
  match V, h with
  | x :: y :: w, _ =>
    show (if op = 10033 ∧ x = 0 then evP (aop op y 1) (true, w, r) else evP (aop op y x) (b, w, r)).2.1.length = w.length + 1 + 1 - 1
    split <;> rfl
theorem evR_l (h : 1 ≤ s.2.1.length) : (evR s).2.1.length = s.2.1.length := by
  obtain ⟨b, V, r⟩ := s
  match V, h with
  | x :: w, _ =>
    show (if x < 0 then (true, 0 :: w, r) else (b, rtL x :: w, r)).2.1.length = w.length + 1
    split <;> rfl
theorem stk_cong {α : Type} {g g' : Nat → α} : ∀ (xs : List α), (∀ k, k < xs.length → g' k = g k) → stk g xs → stk g' xs := by
  intro xs
  induction xs with
  | nil => intro _ _; trivial
  | cons x xs ih =>
    intro h hs
    have hl : (x :: xs).length = xs.length + 1 := rfl
    exact ⟨(h _ (by omega)).trans hs.1, ih (fun k hk => h k (by omega)) hs.2⟩
theorem u_small {u : Int32} (h : 0 ≤ u.toInt) (h2 : u.toInt < 10000) : evC ms rx ry s u = evP u.toInt64 s := if_pos (q_lt.mpr h2)
theorem evC_op {u : Int32} (h : u = 10030 ∨ u = 10031 ∨ u = 10032 ∨ u = 10033) : evC ms rx ry s u = evW u s := by
  rcases h with h | h | h | h <;> subst h <;> rfl
theorem evC_rt : evC ms rx ry s 10034 = evR s := rfl
theorem evC_m {k : Nat} (hk : k < 8) : evC ms rx ry s (10000 + nI (97 + k) - 97) = evP (ms k).toInt64 (s.1, s.2.1, s.2.2.1 ||| ((1 : Int32) <<< (nI k &&& 31 : Int32)), s.2.2.2) := by
  have : k = 0 ∨ k = 1 ∨ k = 2 ∨ k = 3 ∨ k = 4 ∨ k = 5 ∨ k = 6 ∨ k = 7 := by omega
  rcases this with h | h | h | h | h | h | h | h <;> subst h <;> rfl
theorem evC_x {k : Nat} (hk : k < 10) : evC ms rx ry s (10010 + nI k) = evP (rx k).toInt64 (s.1, s.2.1, s.2.2.1, s.2.2.2 ||| ((1 : Int32) <<< (nI k &&& 31 : Int32))) := by
  have : k = 0 ∨ k = 1 ∨ k = 2 ∨ k = 3 ∨ k = 4 ∨ k = 5 ∨ k = 6 ∨ k = 7 ∨ k = 8 ∨ k = 9 := by omega
  rcases this with h | h | h | h | h | h | h | h | h | h <;> subst h <;> rfl
theorem evC_y {k : Nat} (hk : k < 10) : evC ms rx ry s (10020 + nI k) = evP (ry k).toInt64 (s.1, s.2.1, s.2.2.1, s.2.2.2 ||| ((1 : Int32) <<< (nI k &&& 31 : Int32))) := by
  have : k = 0 ∨ k = 1 ∨ k = 2 ∨ k = 3 ∨ k = 4 ∨ k = 5 ∨ k = 6 ∨ k = 7 ∨ k = 8 ∨ k = 9 := by omega
  rcases this with h | h | h | h | h | h | h | h | h | h <;> subst h <;> rfl
/-- a digit as a number -/
theorem dg_n {x : Int32} (h : ¬ x < 48 ∧ ¬ 57 < x) : ∃ k, k < 10 ∧ x = nI (48 + k) := by
  have h1 := mt q_lt.mpr h.1
  have h2 := mt q_lt.mpr h.2
  have e1 : (48 : Int32).toInt = 48 := rfl
  have e2 : (57 : Int32).toInt = 57 := rfl
  obtain ⟨m, rfl, hm, em⟩ := q_of (show 0 ≤ x.toInt by omega)
  exact ⟨m - 48, by omega, by rw [show 48 + (m - 48) = m from by omega]⟩
theorem numR_v : ∀ k i a, a < 10 ^ (4 - k) → k ≤ 4 → ∃ b, (numR T n k i (nI a)).2 = nI b ∧ b < 10000 := by
  intro k
  induction k with
  | zero => intro i a ha _; exact ⟨a, rfl, ha⟩
  | succ k ih =>
    intro i a ha hk
    have hp : 10 ^ (4 - k) = 10 * 10 ^ (4 - (k + 1)) := by rw [show 4 - k = (4 - (k + 1)) + 1 from by omega, Nat.pow_succ, Nat.mul_comm]
    by_cases g : ¬ nxT T n i < 48 ∧ ¬ 57 < nxT T n i
    · rw [numR_d g]
      obtain ⟨t, ht, et⟩ := dg_n g
      have e : nI a * 10 + nxT T n i - 48 = nI (a * 10 + t) := by
        rw [et, show nI (48 + t) = 48 + nI t from by rw [← q_nadd]; rfl, show (10 : Int32) = nI 10 from rfl, q_nmul, ← q_nadd (a := a * 10)]
        rw [Int32.add_comm 48 (nI t), ← Int32.add_assoc, Int32.add_sub_cancel]
      rw [e]
      exact ih (i + 1) _ (by omega) (by omega)
    · have e : numR T n (k + 1) i (nI a) = (i, nI a) := if_neg g
      rw [e]
      have : 10 ^ (4 - (k + 1)) ≤ 10 ^ 4 := Nat.pow_le_pow_right (by decide) (by omega)
      exact ⟨a, rfl, by have : (10 : Nat) ^ 4 = 10000 := rfl; omega⟩
/-- how many values a code leaves -/
theorem evs_len : ∀ f kd d i j c, pS T n pt f kd d i = some (Sum.inr (j, c)) → ∀ s : Bool × List Int64 × Int32 × Int32, (kd ≠ 1 → kd ≠ 3 → (evs ms rx ry s c).2.1.length = s.2.1.length + 1) ∧ (1 ≤ s.2.1.length → (kd = 1 ∨ kd = 3) → (evs ms rx ry s c).2.1.length = s.2.1.length) := by
  intro f
  induction f with
  | zero => intro kd d i j c h; cases h
  | succ f ih =>
    intro kd d i j c h s
    by_cases k0 : kd = 0
    · subst k0
      refine ⟨fun _ _ => ?_, fun _ z => absurd z (by decide)⟩
      rw [pS_0] at h
      by_cases g1 : ¬ nxT T n i < 48 ∧ ¬ 57 < nxT T n i
      · rw [if_pos g1] at h
        have h' := Prod.mk.inj (Sum.inr.inj (Option.some.inj h))
        rw [← h'.2]
        obtain ⟨b, hb, hb2⟩ := numR_v (T := T) (n := n) 4 i 0 (by decide) (by decide)
        have e0 : (numR T n 4 i 0).2 = nI b := hb
        show (evC ms rx ry s (numR T n 4 i 0).2).2.1.length = _
        rw [e0, u_small (by rw [q_nI (by omega)]; omega) (by rw [q_nI (by omega)]; omega)]
        rfl
      · rw [if_neg g1] at h
        by_cases g2 : ¬ nxT T n i < 97 ∧ nxT T n i < 105
        · rw [if_pos g2] at h
          have h' := Prod.mk.inj (Sum.inr.inj (Option.some.inj h))
          rw [← h'.2]
          have h1 := mt q_lt.mpr g2.1
          have h2 := q_lt.mp g2.2
          have e1 : (97 : Int32).toInt = 97 := rfl
          have e2 : (105 : Int32).toInt = 105 := rfl
          obtain ⟨m, em, hm, em2⟩ := q_of (show 0 ≤ (nxT T n i).toInt by omega)
          show (evC ms rx ry s (10000 + nxT T n i - 97)).2.1.length = _
          rw [em, show m = 97 + (m - 97) from by omega, evC_m (by omega)]
          rfl
        · rw [if_neg g2] at h
          by_cases g3 : nxT T n i = 120 ∨ nxT T n i = 121
          · rw [if_pos g3] at h
            by_cases g4 : (nxT T n (i + 1) - 48 < 0 ∨ 9 < nxT T n (i + 1) - 48) ∨ ¬ nxT T n (i + 1) - 48 < pt
            · rw [if_pos g4] at h; cases h
            · rw [if_neg g4] at h
              have h' := Prod.mk.inj (Sum.inr.inj (Option.some.inj h))
              rw [← h'.2]
              have h1 := mt q_lt.mpr (fun z => g4 (Or.inl (Or.inl z)))
              have h2 := mt q_lt.mpr (fun z => g4 (Or.inl (Or.inr z)))
              have e1 : (0 : Int32).toInt = 0 := rfl
              have e2 : (9 : Int32).toInt = 9 := rfl
              obtain ⟨m, em, hm, em2⟩ := q_of (show 0 ≤ (nxT T n (i + 1) - 48).toInt by omega)
              show (evC ms rx ry s ((if nxT T n i = 120 then 10010 else 10020) + (nxT T n (i + 1) - 48))).2.1.length = _
              rw [em]
              by_cases g5 : nxT T n i = 120
              · rw [if_pos g5, evC_x (by omega)]; rfl
              · rw [if_neg g5, evC_y (by omega)]; rfl
          · rw [if_neg g3] at h
            by_cases g5 : nxT T n i = 114
            · rw [if_pos g5] at h
              obtain ⟨j1, c1, e1, h⟩ := bn_s h
              have h' := Prod.mk.inj (Sum.inr.inj (Option.some.inj h))
              have l1 := (ih 5 d (i + 1) j1 c1 e1 s).1 (by decide) (by decide)
              rw [← h'.2, evs_app]
              show (evR (evs ms rx ry s c1)).2.1.length = _
              rw [evR_l (by omega), l1]
            · rw [if_neg g5] at h
              exact (ih 5 d i j c h s).1 (by decide) (by decide)
    by_cases k1 : kd = 1
    · subst k1
      refine ⟨fun z => absurd rfl z, fun hs _ => ?_⟩
      rw [pS_1] at h
      by_cases g : nxT T n i = 42 ∨ nxT T n i = 47
      · rw [if_pos g] at h
        obtain ⟨j1, c1, e1, h⟩ := bn_s h
        obtain ⟨j2, c2, e2, h⟩ := bn_s h
        have h' := Prod.mk.inj (Sum.inr.inj (Option.some.inj h))
        have l1 := (ih 0 d (i + 1) j1 c1 e1 s).1 (by decide) (by decide)
        rw [← h'.2, evs_app, evs_app]
        have l2 : (evs ms rx ry (evs ms rx ry s c1) [if nxT T n i = 42 then 10032 else 10033]).2.1.length = s.2.1.length := by
          show (evC ms rx ry (evs ms rx ry s c1) (if nxT T n i = 42 then 10032 else 10033)).2.1.length = _
          rw [evC_op (by split <;> decide), evW_l (by omega), l1]; rfl
        rw [(ih 1 d j1 j2 c2 e2 _).2 (by omega) (Or.inl rfl), l2]
      · rw [if_neg g] at h
        have h' := Prod.mk.inj (Sum.inr.inj (Option.some.inj h))
        rw [← h'.2]; rfl
    by_cases k2 : kd = 2
    · subst k2
      refine ⟨fun _ _ => ?_, fun _ z => absurd z (by decide)⟩
      rw [pS_2] at h
      obtain ⟨j1, c1, e1, h⟩ := bn_s h
      obtain ⟨j2, c2, e2, h⟩ := bn_s h
      have h' := Prod.mk.inj (Sum.inr.inj (Option.some.inj h))
      have l1 := (ih 0 d i j1 c1 e1 s).1 (by decide) (by decide)
      rw [← h'.2, evs_app, (ih 1 d j1 j2 c2 e2 _).2 (by omega) (Or.inl rfl), l1]
    by_cases k3 : kd = 3
    · subst k3
      refine ⟨fun _ z => absurd rfl z, fun hs _ => ?_⟩
      rw [pS_3] at h
      by_cases g : nxT T n i = 43 ∨ nxT T n i = 45
      · rw [if_pos g] at h
        obtain ⟨j1, c1, e1, h⟩ := bn_s h
        obtain ⟨j2, c2, e2, h⟩ := bn_s h
        have h' := Prod.mk.inj (Sum.inr.inj (Option.some.inj h))
        have l1 := (ih 2 d (i + 1) j1 c1 e1 s).1 (by decide) (by decide)
        rw [← h'.2, evs_app, evs_app]
        have l2 : (evs ms rx ry (evs ms rx ry s c1) [if nxT T n i = 43 then 10030 else 10031]).2.1.length = s.2.1.length := by
          show (evC ms rx ry (evs ms rx ry s c1) (if nxT T n i = 43 then 10030 else 10031)).2.1.length = _
          rw [evC_op (by split <;> decide), evW_l (by omega), l1]; rfl
        rw [(ih 3 d j1 j2 c2 e2 _).2 (by omega) (Or.inr rfl), l2]
      · rw [if_neg g] at h
        have h' := Prod.mk.inj (Sum.inr.inj (Option.some.inj h))
        rw [← h'.2]; rfl
    by_cases k4 : kd = 4
    · subst k4
      refine ⟨fun _ _ => ?_, fun _ z => absurd z (by decide)⟩
      rw [pS_4] at h
      obtain ⟨j1, c1, e1, h⟩ := bn_s h
      obtain ⟨j2, c2, e2, h⟩ := bn_s h
      have h' := Prod.mk.inj (Sum.inr.inj (Option.some.inj h))
      have l1 := (ih 2 d i j1 c1 e1 s).1 (by decide) (by decide)
      rw [← h'.2, evs_app, (ih 3 d j1 j2 c2 e2 _).2 (by omega) (Or.inr rfl), l1]
    · refine ⟨fun _ _ => ?_, fun _ z => absurd z (by omega)⟩
      have h5 : pS T n pt (f + 1) kd d i = (if nxT T n i = 40 ∧ d < 5 then bnS (pS T n pt f 4 (d + 1) (i + 1)) (fun i2 c2 => if nxT T n i2 = 41 then some (Sum.inr (i2 + 1, c2)) else some (Sum.inl i2)) else some (Sum.inl i)) := by
        show (if kd = 0 then _ else if kd = 1 then _ else if kd = 2 then _ else if kd = 3 then _ else if kd = 4 then _ else _) = _
        rw [if_neg k0, if_neg k1, if_neg k2, if_neg k3, if_neg k4]
      rw [h5] at h
      by_cases g : nxT T n i = 40 ∧ d < 5
      · rw [if_pos g] at h
        obtain ⟨j1, c1, e1, h⟩ := bn_s h
        by_cases g2 : nxT T n j1 = 41
        · rw [if_pos g2] at h
          have h' := Prod.mk.inj (Sum.inr.inj (Option.some.inj h))
          rw [← h'.2]
          exact (ih 4 (d + 1) (i + 1) j1 c1 e1 s).1 (by decide) (by decide)
        · rw [if_neg g2] at h; cases h
      · rw [if_neg g] at h; cases h
end EVL
