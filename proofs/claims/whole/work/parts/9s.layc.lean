/-! the component's laying: free, flip, the first place -/
/-- shapes and cloth, as the component has them -/
def LyC (K : z_K) (I : z_I) (E : lyE) (N : Nat) : Prop := CLay K ∧ lyG E N ∧ I 25 4 = nI N ∧ (I 26 0 = nI E.2.2.2.1 ∧ I 26 2 = nI E.2.2.2.2.1 ∧ I 26 3 = nI E.2.2.2.2.2) ∧ ∀ i, i < N → K.2.2 29 i = some (36 + 3 * i) ∧ ShL K (36 + 3 * i) ∧ I (36 + 3 * i) 2 = nI (E.1 i) ∧ I (36 + 3 * i) 3 = nI (E.2.1 i) ∧ ∀ t, t ≤ 1 → ∀ k, k < 24 → ∀ q, q < 32 → tb (I (36 + 3 * i + 1 + t) k) q = E.2.2.1 i t k q
/-- the cloth's cells -/
def TkI (I : z_I) (a : Nat) (T : Nat → Nat → Bool) : Prop := ∀ x, x < 96 → ∀ q, q < 32 → tb (I a x) q = T x q
/-- a place, as it is kept -/
def PlI (I : z_I) (a b c j n : Nat) : Prop := I a j = nI (n / 48) ∧ I b j = nI (n / 2 % 24) ∧ I c j = nI (n % 2)
def lyQ (a j : Nat) : Prop := (30 ≤ a ∧ a ≤ 34) ∨ (a = 25 ∧ j = 10)
section LYC
variable {n0 d N : Nat} {K : z_K} {I I' : z_I} {L : z_L} {Q : z_q} {E : lyE} {T : Nat → Nat → Bool} {i c r t : Nat}
theorem LyC.fr (h : LyC K I E N) (hI : Fz lyQ I I') : LyC K I' E N := by
  obtain ⟨h1, h2, h3, ⟨h4, h5, h6⟩, h7⟩ := h
  have hN := h2.1
  refine ⟨h1, h2, by rw [hI 25 4 (by unfold lyQ; omega)]; exact h3, ⟨by rw [hI 26 0 (by unfold lyQ; omega)]; exact h4, by rw [hI 26 2 (by unfold lyQ; omega)]; exact h5, by rw [hI 26 3 (by unfold lyQ; omega)]; exact h6⟩, fun i hi => ?_⟩
  obtain ⟨a1, a2, a3, a4, a5⟩ := h7 i hi
  refine ⟨a1, a2, by rw [hI _ 2 (by unfold lyQ; omega)]; exact a3, by rw [hI _ 3 (by unfold lyQ; omega)]; exact a4, fun t ht k hk q hq => by rw [hI _ k (by unfold lyQ; omega)]; exact a5 t ht k hk q hq⟩
theorem TkI.fr {a : Nat} (h : TkI I a T) (e : I' a = I a) : TkI I' a T := fun x hx q hq => by rw [e]; exact h x hx q hq
theorem putT_s {b : Nat → Nat → Bool} {k x q : Nat} : putT T b (k + 1) c r x q = (putT T b k c r x q ^^ (decide (x = c + k) && shf b r k q)) := by
  unfold putT
  by_cases e : x = c + k
  · subst e
    rw [decide_eq_true (show c ≤ c + k ∧ c + k < c + (k + 1) by omega), decide_eq_false (show ¬ (c ≤ c + k ∧ c + k < c + k) by omega), decide_eq_true (rfl : c + k = c + k), show c + k - c = k by omega]
    cases T (c + k) q <;> cases shf b r k q <;> rfl
  · rw [decide_eq_false e, show decide (c ≤ x ∧ x < c + (k + 1)) = decide (c ≤ x ∧ x < c + k) from decide_eq_decide.mpr (by omega), Bool.false_and, Bool.xor_false]
theorem c4_cellsOf (hE : LyC K I E N) (hi : i < N) (h33 : I 33 i = nI t) (ht : t ≤ 1) (h : Q (some (.ref (n0 + (36 + 3 * i + 1 + t)))) I L) : RM0 n0 xX4_cellsOf d [.ref (n0 + 25), .int (nI i)] K I L Q := by
  have hN := hE.2.1.1
  obtain ⟨a1, a2, _⟩ := hE.2.2.2.2 i hi
  obtain ⟨o1, o2, o3, o4, o5, o6, o7, o8⟩ := a2
  refine wp_X4_cellsOf hE.1 ⟨q_inn (by omega) (by omega), ?_⟩
  rw [q_cl (by omega), h33]
  by_cases e : t = 0
  · subst e
    exact ip rfl ⟨_, a1, by omega, o4, _, o5, h⟩
  · have : t = 1 := by omega
    subst this
    exact iq (by decide) ⟨_, a1, by omega, o4, _, o6, h⟩
theorem c4_isFree (hE : LyC K I E N) (hi : i < N) (h31 : I 31 i = nI c) (h32 : I 32 i = nI r) (h33 : I 33 i = nI t) (hc : c + E.1 i ≤ 96) (hr : r < 32) (ht : t ≤ 1) (hT : TkI I 30 T) (h : Q (some (.int (bI (frP T (E.2.2.1 i t) (E.1 i) c r)))) I L) : RM0 n0 xX4_isFree (d + 1) [.ref (n0 + 25), .int (nI i)] K I L Q := by
  have hN := hE.2.1.1
  have hw := (hE.2.1.2.1 i hi).1
  obtain ⟨a1, a2, a3, a4, a5⟩ := hE.2.2.2.2 i hi
  obtain ⟨o1, o2, o3, o4, o5, o6, o7, o8⟩ := a2
  have hs : K.2.1 (36 + 3 * i + 1 + t) = (20, 24) := by
    by_cases e : t = 0
    · subst e; exact o7
    · have : t = 1 := by omega
      subst this; exact o8
  have lp : ∀ m k, k + m = E.1 i → (∀ k', k' < k → ∀ q, q < 32 → (shf (E.2.2.1 i t) r k' q && T (c + k') q) = false) → Z n0 xX4_isFree (d + 1) 0 0 8 [(0, .ref (n0 + 25)), (1, .int (nI i)), (2, .ref (n0 + (36 + 3 * i + 1 + t))), (3, .int (nI k))] [] K I L (z_q0 K Q) := by
    intro m
    induction m with
    | zero =>
      intro k hk hf
      refine wp_X4_isFree_8 (a2 := some (36 + 3 * i + 1 + t)) hE.1 ⟨q_inn (by omega) (by omega), _, by rw [q_cl (by omega)]; exact a1, by omega, o4, ?_⟩
      rw [a3]
      refine iq (fun z => by have := (q_nlt (by omega) (by omega)).mp z; omega) ?_
      have : frP T (E.2.2.1 i t) (E.1 i) c r := fun k' hk' => hf k' (by omega)
      rw [bI_t this] at h
      exact h
    | succ m ih =>
      intro k hk hf
      refine wp_X4_isFree_8 (a2 := some (36 + 3 * i + 1 + t)) hE.1 ⟨q_inn (by omega) (by omega), _, by rw [q_cl (by omega)]; exact a1, by omega, o4, ?_⟩
      rw [a3, q_cl (n := i) (by omega), h31, h32, q_nadd, q_cl (n := k) (by omega), q_cl (n := c + k) (by omega)]
      refine ip (nI_lt (by omega) (by omega)) ⟨_, rfl, 24, by omega, hs, q_inn (by omega) (by omega), q_inn (by omega) (by omega), ?_⟩
      have eb : ∀ q, q < 32 → tb ((I (36 + 3 * i + 1 + t) k <<< (nI r &&& 31 : Int32)) &&& I 30 (c + k)) q = (shf (E.2.2.1 i t) r k q && T (c + k) q) := fun q hq => by
        rw [tb_and, tb_shl hr hq, hT _ (by omega) q hq, a5 t ht k (by omega) _ (by omega)]
        rfl
      by_cases g : ((I (36 + 3 * i + 1 + t) k <<< (nI r &&& 31 : Int32)) &&& I 30 (c + k)) = 0
      · refine ip g ?_
        rw [← nI_succ]
        refine ih (k + 1) (by omega) (fun k' hk' q hq => ?_)
        by_cases e : k' = k
        · subst e; rw [← eb q hq, g, tb_0]
        · exact hf k' (by omega) q hq
      · refine iq g ?_
        have : ¬ frP T (E.2.2.1 i t) (E.1 i) c r := fun z => g (tb_ext (fun q hq => by rw [eb q hq, tb_0]; exact z k (by omega) q hq))
        rw [bI_f this] at h
        exact h
  refine wp_X4_isFree hE.1 (c4_cellsOf hE hi h33 ht ⟨_, rfl, ?_⟩)
  exact lp (E.1 i) 0 (by omega) (fun k' hk' => by omega)
theorem c4_flip (hE : LyC K I E N) (hi : i < N) (h31 : I 31 i = nI c) (h32 : I 32 i = nI r) (h33 : I 33 i = nI t) (hc : c + E.1 i ≤ 96) (hr : r < 32) (ht : t ≤ 1) (hT : TkI I 30 T) (h : ∀ I', Fz (fun a _ => a = 30) I I' → TkI I' 30 (putT T (E.2.2.1 i t) (E.1 i) c r) → Q none I' L) : RM0 n0 xX4_flip (d + 1) [.ref (n0 + 25), .int (nI i)] K I L Q := by
  have hN := hE.2.1.1
  have hw := (hE.2.1.2.1 i hi).1
  obtain ⟨a1, a2, a3, a4, a5⟩ := hE.2.2.2.2 i hi
  obtain ⟨o1, o2, o3, o4, o5, o6, o7, o8⟩ := a2
  have hs : K.2.1 (36 + 3 * i + 1 + t) = (20, 24) := by
    by_cases e : t = 0
    · subst e; exact o7
    · have : t = 1 := by omega
      subst this; exact o8
  have lp : ∀ m k I1, k + m = E.1 i → Fz (fun a _ => a = 30) I I1 → TkI I1 30 (putT T (E.2.2.1 i t) k c r) → Z n0 xX4_flip (d + 1) 0 0 8 [(0, .ref (n0 + 25)), (1, .int (nI i)), (2, .ref (n0 + (36 + 3 * i + 1 + t))), (3, .int (nI k))] [] K I1 L (z_q0 K Q) := by
    intro m
    induction m with
    | zero =>
      intro k I1 hk f1 t1
      refine wp_X4_flip_8 (a2 := some (36 + 3 * i + 1 + t)) hE.1 ⟨q_inn (by omega) (by omega), _, by rw [q_cl (by omega)]; exact a1, by omega, o4, ?_⟩
      rw [f1 _ 2 (by omega), a3]
      refine iq (fun z => by have := (q_nlt (by omega) (by omega)).mp z; omega) (h I1 f1 ?_)
      rw [show k = E.1 i by omega] at t1
      exact t1
    | succ m ih =>
      intro k I1 hk f1 t1
      refine wp_X4_flip_8 (a2 := some (36 + 3 * i + 1 + t)) hE.1 ⟨q_inn (by omega) (by omega), _, by rw [q_cl (by omega)]; exact a1, by omega, o4, ?_⟩
      rw [f1 _ 2 (by omega), a3, q_cl (n := i) (by omega), f1 31 i (by omega), f1 32 i (by omega), h31, h32, q_nadd, q_cl (n := k) (by omega), q_cl (n := c + k) (by omega)]
      refine ip (nI_lt (by omega) (by omega)) ⟨q_inn (by omega) (by omega), _, rfl, 24, by omega, hs, q_inn (by omega) (by omega), ?_⟩
      rw [f1 _ k (by omega), ← nI_succ]
      refine ih (k + 1) _ (by omega) (Fz.z (S := fun a _ => a = 30) f1 rfl) (fun x hx q hq => ?_)
      rw [putT_s]
      by_cases e : x = c + k
      · subst e
        rw [zI_s, tb_xor, t1 _ hx q hq, tb_shl hr hq, a5 t ht k (by omega) _ (by omega), decide_eq_true rfl]
        rfl
      · rw [zI_d (by omega), t1 x hx q hq, decide_eq_false e, Bool.false_and, Bool.xor_false]
  refine wp_X4_flip hE.1 (c4_cellsOf hE hi h33 ht ⟨_, rfl, ?_⟩)
  refine lp (E.1 i) 0 I (by omega) Fz.rfl' (fun x hx q hq => ?_)
  rw [hT x hx q hq]
  unfold putT
  rw [decide_eq_false (by omega), Bool.false_and, Bool.xor_false]
end LYC
