/-! rule -/
def TxM (I : z_I) (n : Nat) : Prop := I 5 1 = nI n ∧ I 59 21 = nI n ∧ n ≤ 60 ∧ ∀ k, k < n → I 6 k = I 76 k ∧ 0 ≤ (I 6 k).toInt
/-- what the reading of a text may change -/
def rlS (a j : Nat) : Prop := rdS a j ∨ rtS a j ∨ (a = 5 ∧ j = 1) ∨ (a = 59 ∧ (j = 28 ∨ j = 30 ∨ j = 21 ∨ j = 32))
def ruS (a j : Nat) : Prop := rlS a j ∨ (a = 0 ∧ j = 9) ∨ (a = 59 ∧ j = 22) ∨ (77 ≤ a ∧ a ≤ 81)
/-- the state behind a rule that reads: b the new object, its codes behind it -/
def RuF (K K' : z_K) (I I' : z_I) (L L' : z_L) (pid : Nat → Nat) (i j n nr : Nat) (fr : Int32) (x y : List Int32) : Prop :=
  K'.1 = K.1 + 3 ∧ (∀ a, a < K.1 → K'.2.1 a = K.2.1 a) ∧ (K'.2.1 K.1).1 = 6 ∧ K'.2.1 (K.1 + 1) = (20, x.length) ∧ K'.2.1 (K.1 + 2) = (20, y.length)
  ∧ (∀ a, a < K.1 → ∀ t, ¬ (a = pid i + 1 ∧ t = j) → K'.2.2 a t = K.2.2 a t) ∧ K'.2.2 (pid i + 1) j = some K.1 ∧ K'.2.2 K.1 1 = some (K.1 + 1) ∧ K'.2.2 K.1 2 = some (K.1 + 2) ∧ K'.2.2 K.1 3 = K.2.2 (pid i + 1) j
  ∧ (∀ a, a < K.1 → ∀ t, ¬ ruS a t → I' a t = I a t) ∧ I' K.1 0 = fr ∧ segT (I' (K.1 + 1)) 0 x ∧ segT (I' (K.1 + 2)) 0 y ∧ I' 0 9 = nI (nr + 1) ∧ I' 59 22 = nI (nr + 1) ∧ I' 5 1 = 0 ∧ I' 59 21 = 0
  ∧ (∀ k, I' 77 k = if 60 * nr ≤ k ∧ k < 60 * nr + n then I 76 (k - 60 * nr) else I 77 k) ∧ (∀ r, I' 78 r = if r = nr then nI n else I 78 r) ∧ (∀ r, I' 79 r = if r = nr then nI i else I 79 r) ∧ (∀ r, I' 80 r = if r = nr then nI j else I 80 r) ∧ (∀ r, I' 81 r = if r = nr then fr else I 81 r)
  ∧ ∀ a, a < K.1 → a ≠ 85 → L' a = L a
section RLE
variable {n0 d e : Nat} {K : z_K} {I : z_I} {L : z_L} {Q : z_q} {np nr n : Nat} {pid pts : Nat → Nat} {P : z_K → z_I → z_L → Prop} {i j : Nat}
theorem zN_sn {t m a : Nat} (h : a ≠ K.1) : (zN K t m).2.1 a = K.2.1 a := if_neg h
theorem zN_ss {t m : Nat} : (zN K t m).2.1 K.1 = (t, m) := if_pos rfl
theorem zN_rn {t m a : Nat} (h : a ≠ K.1) : (zN K t m).2.2 a = K.2.2 a := if_neg h
theorem zI0_n {b a : Nat} (h : a ≠ b) : zI0 I b a = I a := if_neg h
theorem zL0_n {b a : Nat} (h : a ≠ b) : zL0 L b a = L a := if_neg h
theorem zC_n {a0 a1 sp dp m a : Nat} (h : a ≠ a1) : zC I a0 a1 sp dp m a = I a := if_neg h
theorem zC_s {a0 a1 sp m k : Nat} (h : k < m) : zC I a0 a1 sp 0 m a1 k = I a0 (sp + k) := by
  show (if a1 = a1 then va_cpy (I a0) (I a1) sp 0 m else I a1) k = _
  rw [if_pos rfl]
  exact (if_pos ⟨Nat.zero_le _, by omega⟩ : (va_cpy (I a0) (I a1) sp 0 m) k = I a0 (sp + (k - 0)))
theorem segT_sh {g g' : Nat → Int32} : ∀ (xs : List Int32) (c c' : Nat), (∀ k, k < xs.length → g' (c' + k) = g (c + k)) → segT g c xs → segT g' c' xs := by
  intro xs
  induction xs with
  | nil => intro c c' _ _; trivial
  | cons x xs ih =>
    intro c c' h hs
    have hl : (x :: xs).length = xs.length + 1 := rfl
    refine ⟨(h 0 (by omega)).trans hs.1, ih (c + 1) (c' + 1) (fun k hk => ?_) hs.2⟩
    have := h (k + 1) (by omega)
    rw [show c' + 1 + k = c' + (k + 1) from by omega, show c + 1 + k = c + (k + 1) from by omega]
    exact this
def cpT (I : z_I) (nr m : Nat) : z_I := fun a => if a = 77 then (fun k => if 60 * nr ≤ k ∧ k < 60 * nr + m then I 76 (k - 60 * nr) else I 77 k) else I a
theorem cpT_n {m a : Nat} (h : a ≠ 77) : cpT I nr m a = I a := if_neg h
theorem cpT_s {m : Nat} : zI (cpT I nr m) 77 (60 * nr + m) (I 76 m) = cpT I nr (m + 1) := by
  funext a k
  rw [zI_v]
  by_cases ha : a = 77
  · subst ha
    show (if 77 = 77 ∧ k = 60 * nr + m then I 76 m else (if 60 * nr ≤ k ∧ k < 60 * nr + m then I 76 (k - 60 * nr) else I 77 k)) = (if 60 * nr ≤ k ∧ k < 60 * nr + (m + 1) then I 76 (k - 60 * nr) else I 77 k)
    by_cases hk : k = 60 * nr + m
    · rw [if_pos ⟨rfl, hk⟩, if_pos (by omega), show k - 60 * nr = m from by omega]
    · rw [if_neg (fun z => hk z.2)]
      by_cases h2 : 60 * nr ≤ k ∧ k < 60 * nr + m
      · rw [if_pos h2, if_pos (by omega)]
      · rw [if_neg h2, if_neg (by omega)]
  · rw [if_neg (fun z => ha z.1), cpT_n ha, cpT_n ha]
theorem cpT_0 : cpT I nr 0 = I := by
  funext a k
  by_cases ha : a = 77
  · subst ha
    exact if_neg (by omega)
  · rw [cpT_n ha]
theorem c13_rule_l {p k fr : Int32} (hM : MLay K) (h120 : nr < 120) (hn60 : n ≤ 60) (h30 : I 59 30 = nI n) (h22 : I 59 22 = nI nr) (h : Q (some (.int (nI (nr + 1)))) (zI (zI (zI (zI (zI (cpT I nr n) 78 nr (nI n)) 79 nr p) 80 nr k) 81 nr fr) 59 22 (nI (nr + 1))) L) : ∀ w m, m + w = n → Z n0 xX13_rule (d + 1) 0 0 114 [(0, .ref (n0 + 59)), (1, .int p), (2, .int k), (3, .int fr), (4, .int (nI m))] [] K (cpT I nr m) L (z_q0 K Q) := by
  have e60 : (60 : Int32) = nI 60 := rfl
  intro w
  induction w with
  | zero =>
    intro m hm
    have : m = n := by omega
    subst this
    refine wp_X13_rule_114 hM ?_
    rw [cpT_n (a := 59) (by omega), h30, h22, q_cl (n := nr) (by omega), ← nI_succ, ← nI_succ]
    exact iq (fun z => by have := q_lt.mp z; omega) ⟨q_inn (by omega) (by omega), h⟩
  | succ w ih =>
    intro m hm
    refine wp_X13_rule_114 hM ?_
    rw [cpT_n (a := 59) (by omega), cpT_n (a := 76) (by omega), h30, h22, e60, q_nmul, q_nadd, q_cl (n := 60 * nr + m) (by omega), q_cl (n := m) (by omega), ← nI_succ, ← nI_succ, cpT_s]
    exact ip (nI_lt (by omega) (by omega)) ⟨q_inn (by omega) (by omega), q_inn (by omega) (by omega), ih (m + 1) (by omega)⟩
end RLE
section PTL
variable {T : Nat → Int32} {n : Nat} {pt : Int32} {x y : List Int32}
theorem pT_xy (h : pT T n pt = some (Sum.inr (x, y))) : ∃ j j2, pS T n pt 484 4 0 0 = some (Sum.inr (j, x)) ∧ pS T n pt 484 4 0 (j + 1) = some (Sum.inr (j2, y)) := by
  unfold pT at h
  cases e1 : pS T n pt 484 4 0 0 with
  | none => rw [e1] at h; cases h
  | some r1 =>
    cases r1 with
    | inl e => rw [e1] at h; cases h
    | inr q =>
      rw [e1] at h
      have h1 : (if nxT T n q.1 = 44 then (match pS T n pt 484 4 0 (q.1 + 1) with | none => none | some (Sum.inl e) => some (Sum.inl e) | some (Sum.inr q2) => if q2.1 < n then some (Sum.inl q2.1) else some (Sum.inr (q.2, q2.2))) else some (Sum.inl q.1)) = some (Sum.inr (x, y)) := h
      by_cases g : nxT T n q.1 = 44
      · rw [if_pos g] at h1
        cases e2 : pS T n pt 484 4 0 (q.1 + 1) with
        | none => rw [e2] at h1; cases h1
        | some r2 =>
          cases r2 with
          | inl e => rw [e2] at h1; cases h1
          | inr q2 =>
            rw [e2] at h1
            have h2 : (if q2.1 < n then some (Sum.inl q2.1) else some (Sum.inr (q.2, q2.2))) = some (Sum.inr (x, y)) := h1
            by_cases g2 : q2.1 < n
            · rw [if_pos g2] at h2; cases h2
            · rw [if_neg g2] at h2
              have h3 := Prod.mk.inj (Sum.inr.inj (Option.some.inj h2))
              exact ⟨q.1, q2.1, by rw [← h3.1], by rw [← h3.2]; exact e2⟩
      · rw [if_neg g] at h1; cases h1
theorem ev_ne {f d i j : Nat} {c : List Int32} (h : pS T n pt f 4 d i = some (Sum.inr (j, c))) : 1 ≤ c.length := by
  cases c with
  | nil =>
    have := (evs_len (ms := fun _ => 0) (rx := fun _ => 0) (ry := fun _ => 0) f 4 d i j [] h (false, [], 0, 0)).1 (by decide) (by decide)
    exact absurd this (by decide)
  | cons a c => show 1 ≤ c.length + 1; omega
theorem pT_x (h : pT T n pt = some (Sum.inr (x, y))) : 1 ≤ x.length := by
  obtain ⟨j, j2, h1, h2⟩ := pT_xy h
  exact ev_ne h1
theorem pT_y (h : pT T n pt = some (Sum.inr (x, y))) : 1 ≤ y.length := by
  obtain ⟨j, j2, h1, h2⟩ := pT_xy h
  exact ev_ne h2
end PTL
