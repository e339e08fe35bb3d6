/-! least and most of the corners, from those of the ways -/
section SPN
variable {N M : Nat} {W : Nat → Int32 × Int32} {f : Nat → Int32} {v : Int32}
theorem mnV_le : ∀ k q, q < k → (mnV f k).toInt ≤ (f q).toInt := by
  intro k
  induction k with
  | zero => intro q h; omega
  | succ k ih =>
    intro q h
    show (if f k < mnV f k then f k else mnV f k).toInt ≤ _
    by_cases c : f k < mnV f k
    · rw [if_pos c]
      have := q_lt.mp c
      by_cases e : q = k
      · rw [e]; exact Int.le_refl _
      · have := ih q (by omega); omega
    · rw [if_neg c]
      have := mt q_lt.mpr c
      by_cases e : q = k
      · rw [e]; omega
      · exact ih q (by omega)
theorem mxV_le : ∀ k q, q < k → (f q).toInt ≤ (mxV f k).toInt := by
  intro k
  induction k with
  | zero => intro q h; omega
  | succ k ih =>
    intro q h
    show _ ≤ (if mxV f k < f k then f k else mxV f k).toInt
    by_cases c : mxV f k < f k
    · rw [if_pos c]
      have := q_lt.mp c
      by_cases e : q = k
      · rw [e]; exact Int.le_refl _
      · have := ih q (by omega); omega
    · rw [if_neg c]
      have := mt q_lt.mpr c
      by_cases e : q = k
      · rw [e]; omega
      · exact ih q (by omega)
theorem mxV_e : ∀ k, ∃ q, (q < k ∨ q = 0) ∧ mxV f k = f q := by
  intro k
  induction k with
  | zero => exact ⟨0, Or.inr rfl, rfl⟩
  | succ k ih =>
    obtain ⟨q, hq, e⟩ := ih
    show ∃ q, _ ∧ (if mxV f k < f k then f k else mxV f k) = f q
    by_cases c : mxV f k < f k
    · rw [if_pos c]; exact ⟨k, Or.inl (by omega), rfl⟩
    · rw [if_neg c]; exact ⟨q, by omega, e⟩
theorem mnV_u (h1 : 1 ≤ M) (ha : ∃ q, q < M ∧ f q = v) (hl : ∀ q, q < M → v.toInt ≤ (f q).toInt) : mnV f M = v := by
  obtain ⟨q, hq, e⟩ := ha
  obtain ⟨r, hr, er⟩ := mnV_e (f := f) M
  have a := mnV_le (f := f) M q hq
  have b := hl r (by omega)
  rw [e] at a
  rw [← er] at b
  exact q_eq.mpr (by omega)
theorem mxV_u (h1 : 1 ≤ M) (ha : ∃ q, q < M ∧ f q = v) (hl : ∀ q, q < M → (f q).toInt ≤ v.toInt) : mxV f M = v := by
  obtain ⟨q, hq, e⟩ := ha
  obtain ⟨r, hr, er⟩ := mxV_e (f := f) M
  have a := mxV_le (f := f) M q hq
  have b := hl r (by omega)
  rw [e] at a
  rw [← er] at b
  exact q_eq.mpr (by omega)
/-- a corner before the fold is a way's -/
theorem cWk_e (hN : 1 ≤ N) (k : Nat) : ∃ q, q < N ∧ cWk W N k = W q := by
  unfold cWk
  by_cases c : k < N
  · exact ⟨k, c, if_pos c⟩
  · exact ⟨0, by omega, if_neg c⟩
theorem cWk_l {q : Nat} (hq : q < N) : cWk W N q = W q := if_pos hq
/-- both values stand in all corners as in the ways -/
theorem sp_open (hN : 1 ≤ N) (h : Int32 × Int32 → Int32) (hM : N + 1 ≤ M) (hh : ∀ k, N + 1 ≤ k → k < M → ∃ q, q < N ∧ h (vtx W N k) = h (W q)) : mnV (fun q => h (vtx W N q)) M = mnV (fun q => h (W q)) N ∧ mxV (fun q => h (vtx W N q)) M = mxV (fun q => h (W q)) N := by
  have all : ∀ k, k < M → ∃ q, q < N ∧ h (vtx W N k) = h (W q) := by
    intro k hk
    by_cases c : k < N + 1
    · obtain ⟨q, hq, e⟩ := cWk_e (W := W) hN k
      exact ⟨q, hq, by rw [vtx_lo c, e]⟩
    · exact hh k (by omega) hk
  constructor
  · obtain ⟨r, hr, er⟩ := mnV_e (f := fun q => h (W q)) N
    refine mnV_u (by omega) ⟨r, by omega, ?_⟩ (fun k hk => ?_)
    · rw [er]; show h (vtx W N r) = h (W r); rw [vtx_lo (by omega), cWk_l (by omega)]
    · obtain ⟨q, hq, e⟩ := all k hk
      show _ ≤ (h (vtx W N k)).toInt
      rw [e]; exact mnV_le (f := fun q => h (W q)) N q hq
  · obtain ⟨r, hr, er⟩ := mxV_e (f := fun q => h (W q)) N
    refine mxV_u (by omega) ⟨r, by omega, ?_⟩ (fun k hk => ?_)
    · rw [er]; show h (vtx W N r) = h (W r); rw [vtx_lo (by omega), cWk_l (by omega)]
    · obtain ⟨q, hq, e⟩ := all k hk
      show (h (vtx W N k)).toInt ≤ _
      rw [e]; exact mxV_le (f := fun q => h (W q)) N q hq
theorem sp_y (hN : 1 ≤ N) : mnV (fun q => (vtx W N q).2) (2 * N + 2) = mnV (fun q => (W q).2) N ∧ mxV (fun q => (vtx W N q).2) (2 * N + 2) = mxV (fun q => (W q).2) N :=
  sp_open hN Prod.snd (by omega) (fun k h1 h2 => by
    obtain ⟨q, hq, e⟩ := cWk_e (W := W) hN (k - (N + 1))
    refine ⟨q, hq, ?_⟩
    have := vtx_hi (W := W) (N := N) (k := k - (N + 1))
    rw [show N + 1 + (k - (N + 1)) = k by omega] at this
    rw [this, e])
theorem sp_x (hN : 1 ≤ N) (hw : ∀ k, k < N → -2000000 ≤ (W k).1.toInt ∧ (W k).1.toInt ≤ 2000000) :
    mnV (fun q => (vtx W N q).1) (2 * N + 2) = (if (2 * (W 0).1 - mxV (fun q => (W q).1) N) < mnV (fun q => (W q).1) N then (2 * (W 0).1 - mxV (fun q => (W q).1) N) else mnV (fun q => (W q).1) N)
    ∧ mxV (fun q => (vtx W N q).1) (2 * N + 2) = (if mxV (fun q => (W q).1) N < (2 * (W 0).1 - mnV (fun q => (W q).1) N) then (2 * (W 0).1 - mnV (fun q => (W q).1) N) else mxV (fun q => (W q).1) N) := by
  obtain ⟨a, ha, ea⟩ := mnV_e (f := fun q => (W q).1) N
  obtain ⟨b, hb, eb⟩ := mxV_e (f := fun q => (W q).1) N
  have la := mnV_le (f := fun q => (W q).1) N
  have lb := mxV_le (f := fun q => (W q).1) N
  have e2 : (2 : Int32).toInt = 2 := rfl
  have w0 := hw 0 (by omega)
  have m2 : (2 * (W 0).1).toInt = 2 * (W 0).1.toInt := by rw [q_mul (by rw [e2]; omega) (by rw [e2]; omega), e2]
  have ms : ∀ q, q < N → (2 * (W 0).1 - (W q).1).toInt = 2 * (W 0).1.toInt - (W q).1.toInt := fun q hq => by have := hw q hq; rw [q_sub (by rw [m2]; omega) (by rw [m2]; omega), m2]
  have ma := ms a (by omega)
  have mb := ms b (by omega)
  have ea' : mnV (fun q => (W q).1) N = (W a).1 := ea
  have eb' : mxV (fun q => (W q).1) N = (W b).1 := eb
  rw [ea', eb']
  rw [ea'] at la
  rw [eb'] at lb
  have lo : ∀ k, k < N + 1 → ∃ q, q < N ∧ (vtx W N k).1 = (W q).1 := fun k hk => by
    obtain ⟨q, hq, e⟩ := cWk_e (W := W) hN k
    exact ⟨q, hq, by rw [vtx_lo hk, e]⟩
  have hi : ∀ k, N + 1 ≤ k → k < 2 * N + 2 → ∃ q, q < N ∧ (vtx W N k).1 = 2 * (W 0).1 - (W q).1 := fun k h1 h2 => by
    obtain ⟨q, hq, e⟩ := cWk_e (W := W) hN (k - (N + 1))
    refine ⟨q, hq, ?_⟩
    have := vtx_hi (W := W) (N := N) (k := k - (N + 1))
    rw [show N + 1 + (k - (N + 1)) = k by omega] at this
    rw [this, e]
  have at1 : ∀ q, q < N → (vtx W N q).1 = (W q).1 := fun q hq => by rw [vtx_lo (by omega), cWk_l hq]
  have at2 : ∀ q, q < N → (vtx W N (N + 1 + q)).1 = 2 * (W 0).1 - (W q).1 := fun q hq => by rw [vtx_hi, cWk_l hq]
  constructor
  · by_cases c : (2 * (W 0).1 - (W b).1) < (W a).1
    · rw [if_pos c]
      have c' := q_lt.mp c
      refine mnV_u (by omega) ⟨N + 1 + b, by omega, at2 b (by omega)⟩ (fun k hk => ?_)
      show _ ≤ (vtx W N k).1.toInt
      by_cases g : k < N + 1
      · obtain ⟨q, hq, e⟩ := lo k g
        have : (W a).1.toInt ≤ (W q).1.toInt := la q hq
        rw [e]; omega
      · obtain ⟨q, hq, e⟩ := hi k (by omega) hk
        have : (W q).1.toInt ≤ (W b).1.toInt := lb q hq
        rw [e, ms q hq, mb]; omega
    · rw [if_neg c]
      have c' := mt q_lt.mpr c
      refine mnV_u (by omega) ⟨a, by omega, at1 a (by omega)⟩ (fun k hk => ?_)
      show _ ≤ (vtx W N k).1.toInt
      by_cases g : k < N + 1
      · obtain ⟨q, hq, e⟩ := lo k g
        have : (W a).1.toInt ≤ (W q).1.toInt := la q hq
        rw [e]; omega
      · obtain ⟨q, hq, e⟩ := hi k (by omega) hk
        have : (W q).1.toInt ≤ (W b).1.toInt := lb q hq
        rw [e, ms q hq]; omega
  · by_cases c : (W b).1 < (2 * (W 0).1 - (W a).1)
    · rw [if_pos c]
      have c' := q_lt.mp c
      refine mxV_u (by omega) ⟨N + 1 + a, by omega, at2 a (by omega)⟩ (fun k hk => ?_)
      show (vtx W N k).1.toInt ≤ _
      by_cases g : k < N + 1
      · obtain ⟨q, hq, e⟩ := lo k g
        have : (W q).1.toInt ≤ (W b).1.toInt := lb q hq
        rw [e]; omega
      · obtain ⟨q, hq, e⟩ := hi k (by omega) hk
        have : (W a).1.toInt ≤ (W q).1.toInt := la q hq
        rw [e, ms q hq, ma]; omega
    · rw [if_neg c]
      have c' := mt q_lt.mpr c
      refine mxV_u (by omega) ⟨b, by omega, at1 b (by omega)⟩ (fun k hk => ?_)
      show (vtx W N k).1.toInt ≤ _
      by_cases g : k < N + 1
      · obtain ⟨q, hq, e⟩ := lo k g
        have : (W q).1.toInt ≤ (W b).1.toInt := lb q hq
        rw [e]; omega
      · obtain ⟨q, hq, e⟩ := hi k (by omega) hk
        have : (W a).1.toInt ≤ (W q).1.toInt := la q hq
        rw [e, ms q hq]; omega
end SPN
