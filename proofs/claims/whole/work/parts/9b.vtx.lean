/-! the corners of a piece's cells: the ways, closed, and turned over at the fold -/
def cWk (W : Nat → Int32 × Int32) (N k : Nat) : Int32 × Int32 := if k < N then W k else W 0
def vtx (W : Nat → Int32 × Int32) (N k : Nat) : Int32 × Int32 := if k < N + 1 then cWk W N k else (2 * (W 0).1 - (cWk W N (k - (N + 1))).1, (cWk W N (k - (N + 1))).2)
def vtN (kd : Int32) (N : Nat) : Nat := if kd = 1 then 2 * N + 2 else N + 1
def fcS (a j : Nat) : Prop := a = 115 ∨ a = 116 ∨ (a = 59 ∧ j = 88)
def mnV (f : Nat → Int32) : Nat → Int32
  | 0 => f 0
  | k + 1 => if f k < mnV f k then f k else mnV f k
def mxV (f : Nat → Int32) : Nat → Int32
  | 0 => f 0
  | k + 1 => if mxV f k < f k then f k else mxV f k
section VTX
variable {n0 d : Nat} {K : z_K} {I : z_I} {L : z_L} {Q : z_q} {p N : Nat} {W : Nat → Int32 × Int32}
theorem vtx_lo {k : Nat} (h : k < N + 1) : vtx W N k = cWk W N k := if_pos h
theorem vtx_hi {k : Nat} : vtx W N (N + 1 + k) = (2 * (W 0).1 - (cWk W N k).1, (cWk W N k).2) := by
  unfold vtx
  rw [if_neg (by omega), Nat.add_sub_cancel_left]
theorem c13_fc17 (hM : MLay K) (hp : p < 16) (hN : 1 ≤ N ∧ N ≤ 80) (h61 : I 59 61 = nI N) (hc : ∀ n, n ≤ N → I 95 n = (cWk W N n).1 ∧ I 96 n = (cWk W N n).2) (h92 : I 92 0 = (W 0).1)
    (h : ∀ I', Fz fcS I I' → I' 59 88 = nI (vtN (I 66 p) N) → (∀ q, q < vtN (I 66 p) N → I' 115 q = (vtx W N q).1 ∧ I' 116 q = (vtx W N q).2) → Z n0 xX13_findCells (d + 1) 0 0 157 [(0, .ref (n0 + 59)), (2, .int (I' 115 0)), (3, .int (I' 116 0)), (4, .int (I' 115 0)), (5, .int (I' 116 0)), (6, .int 0)] [] K I' L (z_q0 K Q)) :
    ∀ w k I1, k + w = N + 1 → Fz fcS I I1 → I1 59 88 = nI (if I 66 p = 1 ∧ 0 < k then 2 * N + 2 else N + 1) → (∀ q, q < k → I1 115 q = (vtx W N q).1 ∧ I1 116 q = (vtx W N q).2) → (I 66 p = 1 → ∀ q, q < k → I1 115 (N + 1 + q) = (vtx W N (N + 1 + q)).1 ∧ I1 116 (N + 1 + q) = (vtx W N (N + 1 + q)).2) → Z n0 xX13_findCells (d + 1) 0 0 17 [(0, .ref (n0 + 59)), (1, .int (nI p)), (2, .int (nI k))] [] K I1 L (z_q0 K Q) := by
  intro w
  induction w with
  | zero =>
    intro k I1 hk f1 h88 v1 v2
    have : k = N + 1 := by omega
    subst this
    refine wp_X13_findCells_17 hM ?_
    rw [f1 59 61 (by unfold fcS; omega), h61]
    refine ip (nI_lt (by omega) (by omega)) (h I1 f1 ?_ (fun q hq => ?_))
    · rw [h88]
      unfold vtN
      by_cases c : I 66 p = 1
      · rw [if_pos c, if_pos ⟨c, by omega⟩]
      · rw [if_neg c, if_neg (fun z => c z.1)]
    · by_cases e : q < N + 1
      · exact v1 q e
      · unfold vtN at hq
        by_cases c : I 66 p = 1
        · rw [if_pos c] at hq
          have := v2 c (q - (N + 1)) (by omega)
          rw [show N + 1 + (q - (N + 1)) = q by omega] at this
          exact this
        · rw [if_neg c] at hq
          omega
  | succ w ih =>
    intro k I1 hk f1 h88 v1 v2
    obtain ⟨c1, c2⟩ := hc k (by omega)
    have lo : vtx W N k = cWk W N k := vtx_lo (by omega)
    have e95 : I1 95 k = (vtx W N k).1 := by rw [f1 95 k (by unfold fcS; omega), lo]; exact c1
    have e96 : I1 96 k = (vtx W N k).2 := by rw [f1 96 k (by unfold fcS; omega), lo]; exact c2
    have e92 : I1 92 0 = (W 0).1 := by rw [f1 92 0 (by unfold fcS; omega)]; exact h92
    refine wp_X13_findCells_17 hM ?_
    rw [f1 59 61 (by unfold fcS; omega), h61, f1 66 _ (by unfold fcS; omega), q_cl (n := p) (by omega), q_cl (n := k) (by omega), e95, e96, e92]
    refine iq (fun z => by have := (q_nlt (by omega) (by omega)).mp z; omega) ⟨q_inn (by omega) (by omega), q_inn (by omega) (by omega), q_inn (by omega) (by omega), ?_⟩
    by_cases c : I 66 p = 1
    · refine ip c ?_
      rw [← nI_succ, ← nI_succ, q_nadd, q_cl (by omega), show (2 : Int32) * nI N + 2 = nI (2 * N + 2) by rw [show (2 : Int32) = nI 2 from rfl, q_nmul, q_nadd]]
      refine ⟨q_inn (by omega) (by omega), ih (k + 1) _ (by omega) (((((f1.z (Or.inl rfl)).z (Or.inr (Or.inl rfl))).z (Or.inl rfl)).z (Or.inr (Or.inl rfl))).z (Or.inr (Or.inr ⟨rfl, rfl⟩))) ?_ (fun q hq => ?_) (fun _ q hq => ?_)⟩
      · rw [zI_s, if_pos ⟨c, by omega⟩]
      · by_cases e : q = k
        · subst e
          rw [zI_r (by omega), zI_r (by omega), zI_d (by omega), zI_r (by omega), zI_s, zI_r (by omega), zI_d (by omega), zI_r (by omega), zI_s]
          exact ⟨rfl, rfl⟩
        · rw [zI_r (by omega), zI_r (by omega), zI_d (by omega), zI_r (by omega), zI_d (by omega), zI_r (by omega), zI_d (by omega), zI_r (by omega), zI_d (by omega), zI_r (by omega)]
          exact v1 q (by omega)
      · by_cases e : q = k
        · subst e
          rw [zI_r (by omega), zI_r (by omega), zI_s, zI_r (by omega), zI_s, vtx_hi, lo]
          exact ⟨rfl, rfl⟩
        · rw [zI_r (by omega), zI_r (by omega), zI_d (by omega), zI_r (by omega), zI_d (by omega), zI_r (by omega), zI_d (by omega), zI_r (by omega), zI_d (by omega), zI_r (by omega)]
          exact v2 c q (by omega)
    · refine iq c ?_
      rw [← nI_succ]
      refine ih (k + 1) _ (by omega) ((f1.z (Or.inl rfl)).z (Or.inr (Or.inl rfl))) ?_ (fun q hq => ?_) (fun z => absurd z c)
      · rw [zI_r (by omega), zI_r (by omega), h88, if_neg (fun z => c z.1), if_neg (fun z => c z.1)]
      · by_cases e : q = k
        · subst e
          rw [zI_r (by omega), zI_s, zI_s]
          exact ⟨rfl, rfl⟩
        · rw [zI_r (by omega), zI_d (by omega), zI_d (by omega), zI_r (by omega)]
          exact v1 q (by omega)
theorem c13_fc157 {M : Nat} (hM : MLay K) (hMM : M ≤ 162) (h88 : I 59 88 = nI M)
    (h : (if (24 * (I 113 1)) < ((mxV (I 115) M - mnV (I 115) M) : Int32) then Q (some (.int 0)) I L else (if (24 * (I 113 1)) < ((mxV (I 116) M - mnV (I 116) M) : Int32) then Q (some (.int 0)) I L else Z n0 xX13_findCells (d + 1) 0 0 307 [(0, .ref (n0 + 59)), (2, .int (mnV (I 115) M)), (3, .int (mnV (I 116) M)), (6, .int (I 113 1)), (7, .int 0)] [] K I L (z_q0 K Q)))) :
    ∀ w k, k + w = M → Z n0 xX13_findCells (d + 1) 0 0 157 [(0, .ref (n0 + 59)), (2, .int (mnV (I 115) k)), (3, .int (mnV (I 116) k)), (4, .int (mxV (I 115) k)), (5, .int (mxV (I 116) k)), (6, .int (nI k))] [] K I L (z_q0 K Q) := by
  intro w
  induction w with
  | zero =>
    intro k hk
    have : k = M := by omega
    subst this
    refine wp_X13_findCells_157 hM ?_
    rw [h88]
    exact iq (fun z => by have := q_lt.mp z; omega) h
  | succ w ih =>
    intro k hk
    refine wp_X13_findCells_157 hM ?_
    rw [h88]
    refine ip (nI_lt (by omega) (by omega)) ⟨q_inn (by omega) (by omega), ?_⟩
    rw [q_cl (by omega), ← nI_succ]
    exact ih (k + 1) (by omega)
end VTX
