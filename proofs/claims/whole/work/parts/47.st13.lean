/-! the reference reads a text -/
def rrS (a j : Nat) : Prop := (a = 59 ∧ (j = 31 ∨ j = 33 ∨ j = 34 ∨ j = 38 ∨ j = 39 ∨ j = 41 ∨ j = 43 ∨ j = 44 ∨ j = 45)) ∨ a = 86
/-- the text that stands to be read -/
def TxR (I : z_I) (T : Nat → Int32) (n : Nat) (pt : Int32) (ms rx ry : Nat → Int32) : Prop := I 59 30 = nI n ∧ n ≤ 60 ∧ I 59 32 = pt ∧ pt.toInt ≤ 10 ∧ I 84 = ms ∧ I 82 = rx ∧ I 83 = ry ∧ ((I 59 28 = 0 ∧ ∀ k, k < n → I 76 k = T k) ∨ (¬ I 59 28 = 0 ∧ ∃ r, r < 120 ∧ I 59 29 = nI (60 * r) ∧ ∀ k, k < n → I 77 (60 * r + k) = T k))
/-- the piles: signs S and values of s, the last first; i read, dp brackets open -/
def StR (I0 : z_I) (L0 : z_L) (I : z_I) (L : z_L) (i : Nat) (S : List Int32) (s : Bool × List Int64 × Int32 × Int32) (dp : Nat) : Prop :=
  Fz rrS I0 I ∧ (∀ a, a ≠ 85 → L a = L0 a) ∧ I 59 31 = nI i ∧ I 59 44 = nI dp ∧ I 59 43 = nI S.length ∧ stk (I 86) S ∧ I 59 41 = nI s.2.1.length ∧ stk (L 85) s.2.1 ∧ I 59 34 = bI (s.1 = true) ∧ I 59 38 = s.2.2.1 ∧ I 59 39 = s.2.2.2 ∧ I 59 33 = 0 ∧ I 59 45 = 0
section S13
variable {n0 d : Nat} {K : z_K} {I I0 : z_I} {L L0 : z_L} {Q : z_q} {T ms rx ry : Nat → Int32} {n i dp : Nat} {pt : Int32} {S : List Int32} {s : Bool × List Int64 × Int32 × Int32}
theorem TxR.fz (h : TxR I0 T n pt ms rx ry) (hz : Fz rrS I0 I) : TxR I T n pt ms rx ry := by
  obtain ⟨h1, h2, h3, h4, h5, h6, h7, h8⟩ := h
  refine ⟨?_, h2, ?_, h4, ?_, ?_, ?_, ?_⟩
  · rw [hz 59 30 (fun z => by unfold rrS at z; omega)]; exact h1
  · rw [hz 59 32 (fun z => by unfold rrS at z; omega)]; exact h3
  · rw [← h5]; funext k; exact hz 84 k (fun z => by unfold rrS at z; omega)
  · rw [← h6]; funext k; exact hz 82 k (fun z => by unfold rrS at z; omega)
  · rw [← h7]; funext k; exact hz 83 k (fun z => by unfold rrS at z; omega)
  · rw [hz 59 28 (fun z => by unfold rrS at z; omega), hz 59 29 (fun z => by unfold rrS at z; omega)]
    rcases h8 with ⟨a, b⟩ | ⟨a, r, b, c, e⟩
    · exact Or.inl ⟨a, fun k hk => by rw [hz 76 k (fun z => by unfold rrS at z; omega)]; exact b k hk⟩
    · exact Or.inr ⟨a, r, b, c, fun k hk => by rw [hz 77 _ (fun z => by unfold rrS at z; omega)]; exact e k hk⟩
theorem c13_here (hM : MLay K) (hT : TxR I T n pt ms rx ry) (hi : I 59 31 = nI i) (hin : i ≤ n) (h : Q (some (.int (nxT T n i))) I L) : RM0 n0 xX13_here d [.ref (n0 + 59)] K I L Q := by
  obtain ⟨h1, h2, h3, h4, h5, h6, h7, h8⟩ := hT
  refine wp_X13_here hM ?_
  rw [h1, hi]
  have hlt : (nI i < nI n) → i < n := fun z => by have := q_lt.mp z; rw [q_nI (by omega), q_nI (by omega)] at this; omega
  rcases h8 with ⟨a, b⟩ | ⟨a, r, b, c, e⟩
  · refine ⟨fun z _ => q_inn (by have := hlt z; omega) (by omega), fun _ z => absurd a z, ?_⟩
    rw [q_cl (by omega)]
    unfold nxT at h
    by_cases g : i < n
    · rw [if_pos g] at h; rw [if_pos (nI_lt g (by omega)), if_pos a, b i g]; exact h
    · rw [if_neg g] at h; rw [if_neg (fun z => g (hlt z))]; exact h
  · rw [c, q_nadd]
    refine ⟨fun _ z => absurd z a, fun z _ => q_inn (by have := hlt z; omega) (by omega), ?_⟩
    rw [q_cl (n := 60 * r + i) (by omega)]
    unfold nxT at h
    by_cases g : i < n
    · rw [if_pos g] at h; rw [if_pos (nI_lt g (by omega)), if_neg a, e i g]; exact h
    · rw [if_neg g] at h; rw [if_neg (fun z => g (hlt z))]; exact h
theorem StR.at {j : Nat} {v : Int32} (h : StR I0 L0 I L i S s dp) (hv : v = nI j) : StR I0 L0 (zI I 59 31 v) L j S s dp := by
  obtain ⟨h1, h2, h3, h4, h5, h6, h7, h8, h9, h10, h11, h12, h13⟩ := h
  refine ⟨h1.z (Or.inl ⟨rfl, by omega⟩), h2, by rw [zI_s, hv], ?_, ?_, ?_, ?_, h8, ?_, ?_, ?_, ?_, ?_⟩
  · rw [zI_d (by omega)]; exact h4
  · rw [zI_d (by omega)]; exact h5
  · rw [zI_r (by omega)]; exact h6
  · rw [zI_d (by omega)]; exact h7
  · rw [zI_d (by omega)]; exact h9
  · rw [zI_d (by omega)]; exact h10
  · rw [zI_d (by omega)]; exact h11
  · rw [zI_d (by omega)]; exact h12
  · rw [zI_d (by omega)]; exact h13
theorem StR.nm {v w : Int32} {j : Nat} (h : StR I0 L0 I L i S s dp) (hj : j = 38 ∨ j = 39) (hv : v = if j = 38 then w else s.2.2.1) (hw : w = w) (u : Int32) (hu : u = if j = 38 then s.2.2.2 else w) : StR I0 L0 (zI I 59 j w) L i S (s.1, s.2.1, v, u) dp := by
  obtain ⟨h1, h2, h3, h4, h5, h6, h7, h8, h9, h10, h11, h12, h13⟩ := h
  refine ⟨h1.z (Or.inl ⟨rfl, by omega⟩), h2, ?_, ?_, ?_, ?_, ?_, h8, ?_, ?_, ?_, ?_, ?_⟩
  · rw [zI_d (by omega)]; exact h3
  · rw [zI_d (by omega)]; exact h4
  · rw [zI_d (by omega)]; exact h5
  · rw [zI_r (by omega)]; exact h6
  · rw [zI_d (by omega)]; exact h7
  · rw [zI_d (by omega)]; exact h9
  · rcases hj with e | e
    · subst e; rw [zI_s, hv, if_pos rfl]
    · subst e; rw [zI_d (by omega), hv, if_neg (by decide)]; exact h10
  · rcases hj with e | e
    · subst e; rw [zI_d (by omega), hu, if_pos rfl]; exact h11
    · subst e; rw [zI_s, hu, if_neg (by decide)]
  · rw [zI_d (by omega)]; exact h12
  · rw [zI_d (by omega)]; exact h13
theorem StR.bad {w : Int32} (h : StR I0 L0 I L i S s dp) (hw : w = 0) : StR I0 L0 (zI I 59 33 w) L i S s dp := by
  have e : zI I 59 33 w = I := by
    funext a j
    rw [zI_v]
    by_cases g : a = 59 ∧ j = 33
    · rw [if_pos g, g.1, g.2, hw]; exact h.2.2.2.2.2.2.2.2.2.2.2.1.symm
    · rw [if_neg g]
  rw [e]; exact h
theorem StR.push {v : Int64} (h : StR I0 L0 I L i S s dp) : StR I0 L0 (zI (zI I 59 34 (bI ((evP v s).1 = true))) 59 41 (nI (s.2.1.length + 1))) (zL L 85 s.2.1.length (if (s.1 || !inR v) = true then 0 else v)) i S (evP v s) dp := by
  obtain ⟨h1, h2, h3, h4, h5, h6, h7, h8, h9, h10, h11, h12, h13⟩ := h
  refine ⟨(h1.z (Or.inl ⟨rfl, by omega⟩)).z (Or.inl ⟨rfl, by omega⟩), fun a ha => ?_, ?_, ?_, ?_, ?_, ?_, ⟨?_, ?_⟩, ?_, ?_, ?_, ?_, ?_⟩
  · rw [zL_ne ha]; exact h2 a ha
  · rw [zI_d (by omega), zI_d (by omega)]; exact h3
  · rw [zI_d (by omega), zI_d (by omega)]; exact h4
  · rw [zI_d (by omega), zI_d (by omega)]; exact h5
  · rw [zI_r (by omega), zI_r (by omega)]; exact h6
  · rw [zI_s]; rfl
  · rw [zL_s]
  · exact stk_cong _ (fun k hk => zL_d (by omega)) h8
  · rw [zI_d (by omega), zI_s]
  · rw [zI_d (by omega), zI_d (by omega)]; exact h10
  · rw [zI_d (by omega), zI_d (by omega)]; exact h11
  · rw [zI_d (by omega), zI_d (by omega)]; exact h12
  · rw [zI_d (by omega), zI_d (by omega)]; exact h13
theorem c13_push {v : Int64} (hM : MLay K) (h : StR I0 L0 I L i S s dp) (hl : s.2.1.length < 70) (hq : ∀ I' L', StR I0 L0 I' L' i S (evP v s) dp → Q none I' L') : RM0 n0 xX13_push (d + 1) [.ref (n0 + 59), .long v] K I L Q := by
  have hp := h.push (v := v)
  obtain ⟨h1, h2, h3, h4, h5, h6, h7, h8, h9, h10, h11, h12, h13⟩ := h
  have hq := hq _ _ hp
  refine wp_X13_push hM ?_
  rw [h9, h7, q_cl (by omega), ← nI_succ]
  have ev1 : (evP v s).1 = (s.1 || !inR v) := rfl
  rw [ev1] at hq
  cases hs : s.1 with
  | true =>
    rw [hs] at hq
    rw [bI_t rfl]
    refine iq (by decide) ⟨q_inn hl (by omega), ?_⟩
    rw [if_neg (by decide)]
    rw [Bool.true_or, bI_t rfl, if_pos rfl] at hq
    exact hq
  | false =>
    rw [hs] at hq
    rw [bI_f (by decide)]
    refine ip rfl (c13_in hM ⟨_, rfl, ?_⟩)
    rw [h7, q_cl (by omega), ← nI_succ]
    refine ⟨q_inn hl (by omega), ?_⟩
    rw [Bool.false_or] at hq
    by_cases g : -1000000 ≤ v.toInt ∧ v.toInt ≤ 1000000
    · have e : inR v = true := decide_eq_true g
      rw [e, Bool.not_true, bI_f (by decide), if_neg (by decide)] at hq
      rw [bI_t (show (-1000000 : Int64).toInt ≤ v.toInt ∧ v.toInt ≤ (1000000 : Int64).toInt from g), if_neg (by decide), if_pos rfl]
      exact hq
    · have e : inR v = false := decide_eq_false g
      rw [e, Bool.not_false, bI_t rfl, if_pos rfl] at hq
      rw [bI_f (show ¬ ((-1000000 : Int64).toInt ≤ v.toInt ∧ v.toInt ≤ (1000000 : Int64).toInt) from g), if_pos rfl, if_neg (by decide)]
      exact hq
theorem c13_topSign (hM : MLay K) (h : StR I0 L0 I L i S s dp) (hl : S.length < 70) (hq : Q (some (.int (S.headD 0))) I L) : RM0 n0 xX13_topSign d [.ref (n0 + 59)] K I L Q := by
  obtain ⟨h1, h2, h3, h4, h5, h6, h7, h8, h9, h10, h11, h12, h13⟩ := h
  refine wp_X13_topSign hM ?_
  rw [h5]
  cases S with
  | nil => exact ⟨fun z => absurd rfl z, hq⟩
  | cons x xs =>
    have e : nI (x :: xs).length - 1 = nI xs.length := nI_pred _
    have hl' : xs.length + 1 < 70 := hl
    rw [e, q_cl (by omega)]
    refine ⟨fun _ => q_inn (by omega) (by omega), ?_⟩
    rw [if_neg (fun z => by have := q_eq.mp z; rw [q_nI (by omega)] at this; have e0 : (0 : Int32).toInt = 0 := rfl; have : (x :: xs).length = xs.length + 1 := rfl; omega), h6.1]
    exact hq
theorem StR.pop {x : Int32} (h : StR I0 L0 I L i (x :: S) s dp) : StR I0 L0 (zI I 59 43 (nI S.length)) L i S s dp := by
  obtain ⟨h1, h2, h3, h4, h5, h6, h7, h8, h9, h10, h11, h12, h13⟩ := h
  refine ⟨h1.z (Or.inl ⟨rfl, by omega⟩), h2, ?_, ?_, ?_, ?_, ?_, h8, ?_, ?_, ?_, ?_, ?_⟩
  · rw [zI_d (by omega)]; exact h3
  · rw [zI_d (by omega)]; exact h4
  · rw [zI_s]
  · rw [zI_r (by omega)]; exact h6.2
  · rw [zI_d (by omega)]; exact h7
  · rw [zI_d (by omega)]; exact h9
  · rw [zI_d (by omega)]; exact h10
  · rw [zI_d (by omega)]; exact h11
  · rw [zI_d (by omega)]; exact h12
  · rw [zI_d (by omega)]; exact h13
theorem StR.drop {V : List Int64} {b : Bool} (h : StR I0 L0 I L i S s dp) (hV : ∃ x y, s.2.1 = x :: y :: V) (w : Int32) (hw : w = bI (b = true)) : StR I0 L0 (zI (zI I 59 41 (nI V.length)) 59 34 w) L i S (b, V, s.2.2) dp := by
  obtain ⟨h1, h2, h3, h4, h5, h6, h7, h8, h9, h10, h11, h12, h13⟩ := h
  obtain ⟨x, y, e⟩ := hV
  rw [e] at h8
  refine ⟨(h1.z (Or.inl ⟨rfl, by omega⟩)).z (Or.inl ⟨rfl, by omega⟩), h2, ?_, ?_, ?_, ?_, ?_, h8.2.2, ?_, ?_, ?_, ?_, ?_⟩
  · rw [zI_d (by omega), zI_d (by omega)]; exact h3
  · rw [zI_d (by omega), zI_d (by omega)]; exact h4
  · rw [zI_d (by omega), zI_d (by omega)]; exact h5
  · rw [zI_r (by omega), zI_r (by omega)]; exact h6
  · rw [zI_d (by omega), zI_s]
  · rw [zI_s, hw]
  · rw [zI_d (by omega), zI_d (by omega)]; exact h10
  · rw [zI_d (by omega), zI_d (by omega)]; exact h11
  · rw [zI_d (by omega), zI_d (by omega)]; exact h12
  · rw [zI_d (by omega), zI_d (by omega)]; exact h13
end S13
