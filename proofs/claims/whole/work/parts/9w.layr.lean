/-! the reference's laying -/
def LyM (K : z_K) (I : z_I) (E : lyE) (N : Nat) : Prop := MLay K ∧ lyG E N ∧ I 59 89 = nI N ∧ (I 113 0 = nI E.2.2.2.1 ∧ I 113 2 = nI E.2.2.2.2.1 ∧ I 113 3 = nI E.2.2.2.2.2) ∧ ∀ i, i < N → I 120 i = nI (E.1 i) ∧ I 121 i = nI (E.2.1 i) ∧ ∀ t, t ≤ 1 → ∀ k, k < 24 → ∀ q, q < 32 → tb (I 130 (48 * i + 24 * t + k)) q = E.2.2.1 i t k q
def lmQ (a _j : Nat) : Prop := (123 ≤ a ∧ a ≤ 129) ∨ a = 131
section LYM
variable {n0 d N : Nat} {K : z_K} {I I' : z_I} {L : z_L} {Q : z_q} {E : lyE} {T : Nat → Nat → Bool} {i c r t : Nat}
theorem LyM.fr (h : LyM K I E N) (hI : Fz lmQ I I') : LyM K I' E N := by
  obtain ⟨h1, h2, h3, ⟨h4, h5, h6⟩, h7⟩ := h
  refine ⟨h1, h2, by rw [hI 59 89 (by unfold lmQ; omega)]; exact h3, ⟨by rw [hI 113 0 (by unfold lmQ; omega)]; exact h4, by rw [hI 113 2 (by unfold lmQ; omega)]; exact h5, by rw [hI 113 3 (by unfold lmQ; omega)]; exact h6⟩, fun i hi => ?_⟩
  obtain ⟨a1, a2, a3⟩ := h7 i hi
  refine ⟨by rw [hI 120 _ (by unfold lmQ; omega)]; exact a1, by rw [hI 121 _ (by unfold lmQ; omega)]; exact a2, fun t ht k hk q hq => by rw [hI 130 _ (by unfold lmQ; omega)]; exact a3 t ht k hk q hq⟩
theorem ix_130 {k : Nat} : (48 : Int32) * nI i + 24 * nI t + nI k = nI (48 * i + 24 * t + k) := by
  rw [show (48 : Int32) * nI i = nI (48 * i) from q_nmul (a := 48), show (24 : Int32) * nI t = nI (24 * t) from q_nmul (a := 24), q_nadd, q_nadd]
theorem c13_canLie (hE : LyM K I E N) (hi : i < N) (hc : c ≤ 95) (hr : r ≤ 95) (ht : t ≤ 95) (hT : TkI I 123 T) (h : Q (some (.int (bI (okP E T i c r t)))) I L) : RM0 n0 xX13_canLie d [.ref (n0 + 59), .int (nI i), .int (nI c), .int (nI r), .int (nI t)] K I L Q := by
  have hN := hE.2.1.1
  obtain ⟨⟨hw1, hw2⟩, ⟨hh1, hh2⟩, _⟩ := hE.2.1.2.1 i hi
  obtain ⟨hcw, how, hst⟩ := hE.2.1.2.2
  obtain ⟨a3, a4, a5⟩ := hE.2.2.2.2 i hi
  have no : ¬ okP E T i c r t → Q (some (.int 0)) I L := fun z => by rw [bI_f z] at h; exact h
  have lp : c + E.1 i ≤ 96 → r + E.2.1 i ≤ E.2.2.2.1 → t ≤ 1 → (t = 1 → E.2.2.2.2.1 ≠ 1) → c % sdN E = 0 → ∀ m k, k + m = E.1 i → (∀ k', k' < k → ∀ q, q < 32 → (shf (E.2.2.1 i t) r k' q && T (c + k') q) = false) → Z n0 xX13_canLie d 0 0 79 [(0, .ref (n0 + 59)), (1, .int (nI i)), (2, .int (nI c)), (3, .int (nI r)), (4, .int (nI t)), (5, .int (nI k))] [] K I L (z_q0 K Q) := by
    intro k1 k2 k3 k4 k5 m
    induction m with
    | zero =>
      intro k hk hf
      refine wp_X13_canLie_79 hE.1 ⟨q_inn (by omega) (by omega), ?_⟩
      rw [q_cl (n := i) (by omega), a3]
      refine iq (fun z => by have := (q_nlt (by omega) (by omega)).mp z; omega) ?_
      rw [bI_t (show okP E T i c r t from ⟨k1, k2, k3, k4, k5, fun k' hk' => hf k' (by omega)⟩)] at h
      exact h
    | succ m ih =>
      intro k hk hf
      refine wp_X13_canLie_79 hE.1 ⟨q_inn (by omega) (by omega), ?_⟩
      rw [q_cl (n := i) (by omega), a3, ix_130, q_nadd, q_cl (n := c + k) (by omega), q_cl (n := 48 * i + 24 * t + k) (by omega)]
      refine ip (nI_lt (by omega) (by omega)) ⟨q_inn (by omega) (by omega), q_inn (by omega) (by omega), ?_⟩
      have eb : ∀ q, q < 32 → tb (I 123 (c + k) &&& (I 130 (48 * i + 24 * t + k) <<< (nI r &&& 31 : Int32))) q = (shf (E.2.2.1 i t) r k q && T (c + k) q) := fun q hq => by
        rw [tb_and, tb_shl (by omega) hq, hT _ (by omega) q hq, a5 t k3 k (by omega) _ (by omega), Bool.and_comm]
        rfl
      by_cases g : (I 123 (c + k) &&& (I 130 (48 * i + 24 * t + k) <<< (nI r &&& 31 : Int32))) = 0
      · refine ip g ?_
        rw [← nI_succ]
        refine ih (k + 1) (by omega) (fun k' hk' q hq => ?_)
        by_cases e : k' = k
        · subst e; rw [← eb q hq, g, tb_0]
        · exact hf k' (by omega) q hq
      · exact iq g (no (fun z => g (tb_ext (fun q hq => by rw [eb q hq, tb_0]; exact z.2.2.2.2.2 k (by omega) q hq))))
  have tail : t ≤ 1 → (t = 1 → E.2.2.2.2.1 ≠ 1) → (vp_in (nI i) 4 ∧ (if 96 < (nI c + I 120 (nI i).toNatClampNeg : Int32) then Q (some (.int 0)) I L else (if I 113 0 < (nI r + I 121 (nI i).toNatClampNeg : Int32) then Q (some (.int 0)) I L else (if 0 < (I 113 3 : Int32) then ¬ (I 113 3 : Int32) = 0 ∧ (if (nI c - nI c / I 113 3 * I 113 3 : Int32) = 0 then Z n0 xX13_canLie d 0 0 79 [(0, .ref (n0 + 59)), (1, .int (nI i)), (2, .int (nI c)), (3, .int (nI r)), (4, .int (nI t)), (5, .int 0)] [] K I L (z_q0 K Q) else Q (some (.int 0)) I L) else Z n0 xX13_canLie d 0 0 79 [(0, .ref (n0 + 59)), (1, .int (nI i)), (2, .int (nI c)), (3, .int (nI r)), (4, .int (nI t)), (5, .int 0)] [] K I L (z_q0 K Q))))) := by
    intro t1 t2
    refine ⟨q_inn (by omega) (by omega), ?_⟩
    rw [q_cl (n := i) (by omega), a3, a4, hE.2.2.2.1.1, hE.2.2.2.1.2.2, q_nadd, q_nadd]
    by_cases g1 : 96 < c + E.1 i
    · exact ip (nI_lt (a := 96) g1 (by omega)) (no (fun z => by have := z.1; omega))
    · refine iq (fun z => g1 ((q_nlt (a := 96) (by omega) (by omega)).mp z)) ?_
      by_cases g2 : E.2.2.2.1 < r + E.2.1 i
      · exact ip (nI_lt g2 (by omega)) (no (fun z => by have := z.2.1; omega))
      · refine iq (fun z => g2 ((q_nlt (by omega) (by omega)).mp z)) ?_
        by_cases g3 : 0 < E.2.2.2.2.2
        · refine ip (nI_lt (a := 0) g3 (by omega)) ⟨fun z => by have := (q_ni (b := 0) (by omega) (by omega)).mp z; omega, ?_⟩
          have es : sdN E = E.2.2.2.2.2 := by unfold sdN; split <;> omega
          rw [q_nmd (by omega) (by omega), ← es]
          have hm : c % sdN E ≤ c := Nat.mod_le _ _
          by_cases g4 : c % sdN E = 0
          · exact ip (by rw [g4]; rfl) (lp (by omega) (by omega) t1 t2 g4 (E.1 i) 0 (by omega) (fun k' hk' => by omega))
          · exact iq (fun z => g4 ((q_ni (b := 0) (by omega) (by omega)).mp z)) (no (fun z => g4 z.2.2.2.2.1))
        · refine iq (fun z => g3 ((q_nlt (a := 0) (by omega) (by omega)).mp z)) ?_
          have es : sdN E = 1 := by unfold sdN; split <;> omega
          exact lp (by omega) (by omega) t1 t2 (by rw [es]; exact Nat.mod_one c) (E.1 i) 0 (by omega) (fun k' hk' => by omega)
  refine wp_X13_canLie hE.1 ?_
  rw [hE.2.2.2.1.2.1]
  by_cases g1 : 1 < t
  · exact ip (nI_lt (a := 1) g1 (by omega)) (no (fun z => by have := z.2.2.1; omega))
  · refine iq (fun z => g1 ((q_nlt (a := 1) (by omega) (by omega)).mp z)) ?_
    by_cases g2 : t = 1
    · refine ip (by rw [g2]; rfl) ?_
      by_cases g3 : E.2.2.2.2.1 = 1
      · exact ip (by rw [g3]; rfl) (no (fun z => z.2.2.2.1 g2 g3))
      · exact iq (fun z => g3 ((q_ni (b := 1) (by omega) (by omega)).mp z)) (tail (by omega) (fun _ => g3))
    · exact iq (fun z => g2 ((q_ni (b := 1) (by omega) (by omega)).mp z)) (tail (by omega) (fun z => absurd z g2))
theorem c13_lie (hE : LyM K I E N) (hi : i < N) (hT : TkI I 123 T) (ok : okP E T i c r t) (h : ∀ I', Fz (fun a j => a = 123 ∨ ((a = 124 ∨ a = 125 ∨ a = 126) ∧ j = i)) I I' → TkI I' 123 (putT T (E.2.2.1 i t) (E.1 i) c r) → I' 124 i = nI c → I' 125 i = nI r → I' 126 i = nI t → Q none I' L) : RM0 n0 xX13_lie d [.ref (n0 + 59), .int (nI i), .int (nI c), .int (nI r), .int (nI t)] K I L Q := by
  have hN := hE.2.1.1
  obtain ⟨⟨hw1, hw2⟩, ⟨hh1, hh2⟩, _⟩ := hE.2.1.2.1 i hi
  have hcw := hE.2.1.2.2.1
  obtain ⟨a3, a4, a5⟩ := hE.2.2.2.2 i hi
  obtain ⟨k1, k2, k3, k4, k5, k6⟩ := ok
  have lp : ∀ m k I1, k + m = E.1 i → Fz (fun a j => a = 123 ∨ ((a = 124 ∨ a = 125 ∨ a = 126) ∧ j = i)) I I1 → TkI I1 123 (putT T (E.2.2.1 i t) k c r) → Z n0 xX13_lie d 0 0 3 [(0, .ref (n0 + 59)), (1, .int (nI i)), (2, .int (nI c)), (3, .int (nI r)), (4, .int (nI t)), (5, .int (nI k))] [] K I1 L (z_q0 K Q) := by
    intro m
    induction m with
    | zero =>
      intro k I1 hk f1 t1
      refine wp_X13_lie_3 hE.1 ⟨q_inn (by omega) (by omega), ?_⟩
      rw [q_cl (n := i) (by omega), f1 120 _ (by omega), a3]
      refine iq (fun z => by have := (q_nlt (by omega) (by omega)).mp z; omega) (h _ (((f1.z (Or.inr ⟨Or.inl rfl, rfl⟩)).z (Or.inr ⟨Or.inr (Or.inl rfl), rfl⟩)).z (Or.inr ⟨Or.inr (Or.inr rfl), rfl⟩)) ?_ ?_ ?_ zI_s)
      · rw [show k = E.1 i by omega] at t1
        exact t1.fr (by rw [zI_r (by omega), zI_r (by omega), zI_r (by omega)])
      · rw [zI_r (by omega), zI_r (by omega), zI_s]
      · rw [zI_r (by omega), zI_s]
    | succ m ih =>
      intro k I1 hk f1 t1
      refine wp_X13_lie_3 hE.1 ⟨q_inn (by omega) (by omega), ?_⟩
      rw [q_cl (n := i) (by omega), f1 120 _ (by omega), a3, ix_130, q_nadd, q_cl (n := c + k) (by omega), q_cl (n := 48 * i + 24 * t + k) (by omega)]
      refine ip (nI_lt (by omega) (by omega)) ⟨q_inn (by omega) (by omega), q_inn (by omega) (by omega), ?_⟩
      rw [f1 130 _ (by omega), ← nI_succ]
      refine ih (k + 1) _ (by omega) (f1.z (Or.inl rfl)) (fun x hx q hq => ?_)
      rw [putT_s]
      by_cases e : x = c + k
      · subst e
        have hfr := k6 k (by omega) q hq
        have ep : putT T (E.2.2.1 i t) k c r (c + k) q = T (c + k) q := by
          unfold putT
          rw [decide_eq_false (show ¬ (c ≤ c + k ∧ c + k < c + k) by omega), Bool.false_and, Bool.xor_false]
        rw [zI_s, tb_or, t1 _ hx q hq, tb_shl (by omega) hq, a5 t k3 k (by omega) _ (by omega), decide_eq_true rfl, ep]
        show (T (c + k) q || shf (E.2.2.1 i t) r k q) = (T (c + k) q ^^ (true && shf (E.2.2.1 i t) r k q))
        revert hfr
        cases T (c + k) q <;> cases shf (E.2.2.1 i t) r k q <;> intro z <;> first | rfl | exact absurd z (by decide)
      · rw [zI_d (by omega), t1 x hx q hq, decide_eq_false e, Bool.false_and, Bool.xor_false]
  refine wp_X13_lie hE.1 (lp (E.1 i) 0 I (by omega) Fz.rfl' (fun x hx q hq => ?_))
  rw [hT x hx q hq]
  unfold putT
  rw [decide_eq_false (by omega), Bool.false_and, Bool.xor_false]
def lkS (i a j : Nat) : Prop := a = 123 ∨ ((a = 124 ∨ a = 125 ∨ a = 126) ∧ j = i)
theorem c13_layFirst (hE : LyM K I E N) (hi : i < N) (hT : TkI I 123 T)
    (hS : ∀ n I', plN E T i = some n → Fz (lkS i) I I' → TkI I' 123 (putT T (E.2.2.1 i (n % 2)) (E.1 i) (n / 48) (n / 2 % 24)) → PlI I' 124 125 126 i n → Q (some (.int 1)) I' L)
    (hZ : plN E T i = none → Q (some (.int 0)) I L) :
    RM0 n0 xX13_layFirst (d + 1) [.ref (n0 + 59), .int (nI i)] K I L Q := by
  have hN := hE.2.1.1
  obtain ⟨⟨hw1, hw2⟩, ⟨hh1, hh2⟩, _⟩ := hE.2.1.2.1 i hi
  have hcw := hE.2.1.2.2.1
  obtain ⟨a3, a4, a5⟩ := hE.2.2.2.2 i hi
  have l30 : ∀ c r, c < 96 → r + E.2.1 i ≤ E.2.2.2.1 → ((∀ n, n < (c * 24 + (r + 1)) * 2 → plP E T i n = false) → Z n0 xX13_layFirst (d + 1) 0 0 10 [(0, .ref (n0 + 59)), (1, .int (nI i)), (2, .int (nI c)), (3, .int (nI (r + 1)))] [] K I L (z_q0 K Q)) → ∀ m t, t + m = 2 → (∀ n, n < (c * 24 + r) * 2 + t → plP E T i n = false) → Z n0 xX13_layFirst (d + 1) 0 0 30 [(0, .ref (n0 + 59)), (1, .int (nI i)), (2, .int (nI c)), (3, .int (nI r)), (4, .int (nI t))] [] K I L (z_q0 K Q) := by
    intro c r hc hr nx m
    induction m with
    | zero =>
      intro t hm z1
      refine wp_X13_layFirst_30 hE.1 ?_
      rw [← nI_succ (n := r)]
      refine iq (fun z => by have := (q_nlt (b := 2) (by omega) (by omega)).mp z; omega) (nx (fun n hn => z1 n (by omega)))
    | succ m ih =>
      intro t hm z1
      have d1 : ((c * 24 + r) * 2 + t) / 48 = c := by omega
      have d2 : ((c * 24 + r) * 2 + t) / 2 % 24 = r := by omega
      have d3 : ((c * 24 + r) * 2 + t) % 2 = t := by omega
      refine wp_X13_layFirst_30 hE.1 (ip (nI_lt (b := 2) (by omega) (by omega)) (c13_canLie hE hi (by omega) (by omega) (by omega) hT ⟨_, rfl, ?_⟩))
      by_cases g : okP E T i c r t
      · rw [bI_t g]
        have en : plN E T i = some ((c * 24 + r) * 2 + t) := by
          refine frs_s (p := fun n => plP E T i n) ?_ 4608 0 (Nat.zero_le _) (by omega) (fun q _ hq => z1 q hq)
          refine decide_eq_true ?_
          rw [d1, d2, d3]; exact g
        refine iq (by decide) (c13_lie hE hi hT g (fun I' f' t' e1 e2 e3 => ⟨rfl, hS _ I' en f' ?_ ?_⟩))
        · rw [d1, d2, d3]; exact t'
        · unfold PlI; rw [d1, d2, d3]; exact ⟨e1, e2, e3⟩
      · rw [bI_f g, ← nI_succ]
        refine ip rfl (ih (t + 1) (by omega) (fun n hn => ?_))
        by_cases e : n = (c * 24 + r) * 2 + t
        · subst e
          refine plP_f (fun ok => g ?_)
          rw [d1, d2, d3] at ok
          exact ok
        · exact z1 n (by omega)
  have l10 : ∀ c, c < 96 → ((∀ n, n < (c + 1) * 48 → plP E T i n = false) → Z n0 xX13_layFirst (d + 1) 0 0 2 [(0, .ref (n0 + 59)), (1, .int (nI i)), (2, .int (nI (c + 1)))] [] K I L (z_q0 K Q)) → ∀ m r, r + m = 24 → (∀ n, n < (c * 24 + r) * 2 → plP E T i n = false) → Z n0 xX13_layFirst (d + 1) 0 0 10 [(0, .ref (n0 + 59)), (1, .int (nI i)), (2, .int (nI c)), (3, .int (nI r))] [] K I L (z_q0 K Q) := by
    intro c hc nx
    have out : ∀ r, r ≤ 24 → E.2.2.2.1 < r + E.2.1 i → (∀ n, n < (c * 24 + r) * 2 → plP E T i n = false) → Z n0 xX13_layFirst (d + 1) 0 0 10 [(0, .ref (n0 + 59)), (1, .int (nI i)), (2, .int (nI c)), (3, .int (nI r))] [] K I L (z_q0 K Q) := by
      intro r hr g z1
      refine wp_X13_layFirst_10 hE.1 ⟨q_inn (by omega) (by omega), ?_⟩
      rw [q_cl (by omega), a4, hE.2.2.2.1.1, q_nadd, ← nI_succ]
      refine ip (nI_lt (by omega) (by omega)) (nx (fun n hn => ?_))
      by_cases e : n < (c * 24 + r) * 2
      · exact z1 n e
      · refine plP_f (fun ok => ?_)
        have k2 := ok.2.1
        have : r ≤ n / 2 % 24 := by omega
        omega
    intro m
    induction m with
    | zero => intro r hm z1; exact out r (by omega) (by omega) z1
    | succ m ih =>
      intro r hm z1
      by_cases g : E.2.2.2.1 < r + E.2.1 i
      · exact out r (by omega) g z1
      · refine wp_X13_layFirst_10 hE.1 ⟨q_inn (by omega) (by omega), ?_⟩
        rw [q_cl (by omega), a4, hE.2.2.2.1.1, q_nadd]
        refine iq (fun z => g ((q_nlt (by omega) (by omega)).mp z)) ?_
        exact l30 c r hc (by omega) (fun z => ih (r + 1) (by omega) z) 2 0 (by omega) z1
  have l2 : ∀ m c, c + m = 96 → (∀ n, n < c * 48 → plP E T i n = false) → Z n0 xX13_layFirst (d + 1) 0 0 2 [(0, .ref (n0 + 59)), (1, .int (nI i)), (2, .int (nI c))] [] K I L (z_q0 K Q) := by
    intro m
    induction m with
    | zero =>
      intro c hm z1
      have : c = 96 := by omega
      subst this
      exact wp_X13_layFirst_2 hE.1 (iq (by decide) (hZ (frs_n (p := fun n => plP E T i n) 4608 0 (fun n _ hn => z1 n (by omega)))))
    | succ m ih =>
      intro c hm z1
      exact wp_X13_layFirst_2 hE.1 (ip (nI_lt (b := 96) (by omega) (by omega)) (l10 c (by omega) (fun z => ih (c + 1) (by omega) z) 24 0 (by omega) (fun n hn => z1 n (by omega))))
  exact wp_X13_layFirst hE.1 (l2 96 0 (by omega) (fun n hn => by omega))
theorem c13_clearCloth (hM : MLay K) (h : ∀ I', Fz (fun a _ => a = 123) I I' → TkI I' 123 (fun _ _ => false) → Q none I' L) : RM0 n0 xX13_clearCloth d [.ref (n0 + 59)] K I L Q := by
  have lp : ∀ m k I1, k + m = 96 → Fz (fun a _ => a = 123) I I1 → (∀ x, x < k → I1 123 x = 0) → Z n0 xX13_clearCloth d 0 0 2 [(0, .ref (n0 + 59)), (1, .int (nI k))] [] K I1 L (z_q0 K Q) := by
    intro m
    induction m with
    | zero =>
      intro k I1 hk f1 z1
      have : k = 96 := by omega
      subst this
      exact wp_X13_clearCloth_2 hM (iq (by decide) (h I1 f1 (fun x hx q hq => by rw [z1 x hx, tb_0])))
    | succ m ih =>
      intro k I1 hk f1 z1
      refine wp_X13_clearCloth_2 hM (ip (nI_lt (b := 96) (by omega) (by omega)) ⟨q_inn (by omega) (by omega), ?_⟩)
      rw [q_cl (by omega), ← nI_succ]
      refine ih (k + 1) _ (by omega) (Fz.z (S := fun a _ => a = 123) f1 rfl) (fun x hx => ?_)
      by_cases e : x = k
      · subst e; exact zI_s
      · rw [zI_d (by omega)]; exact z1 x (by omega)
  exact wp_X13_clearCloth hM (lp 96 0 I (by omega) Fz.rfl' (fun x hx => by omega))
theorem c13_longOf {reach : Nat} (hM : MLay K) (hT : TkI I 123 T) (hR : rch T reach) (hr : reach ≤ 96) (h : Q (some (.int (nI reach))) I L) : RM0 n0 xX13_longOf d [.ref (n0 + 59)] K I L Q := by
  have hz : ∀ x, x < 96 → (I 123 x = 0 ↔ ∀ q, q < 32 → T x q = false) := fun x hx => ⟨fun z q hq => by rw [← hT x hx q hq, z, tb_0], fun z => tb_ext (fun q hq => by rw [hT x hx q hq, tb_0]; exact z q hq)⟩
  have lp : ∀ m k v, k + m = 96 → v ≤ k → (v = 0 ∨ ∃ q, q < 32 ∧ T (v - 1) q = true) → (∀ x, v ≤ x → x < k → ∀ q, q < 32 → T x q = false) → Z n0 xX13_longOf d 0 0 4 [(0, .ref (n0 + 59)), (1, .int (nI v)), (2, .int (nI k))] [] K I L (z_q0 K Q) := by
    intro m
    induction m with
    | zero =>
      intro k v hk hv h1 h2
      have : k = 96 := by omega
      subst this
      refine wp_X13_longOf_4 hM (iq (by decide) ?_)
      have ev : v = reach := by
        have a1 : ¬ v < reach := fun z => by
          rcases hR.2 with e | ⟨q, hq, e⟩
          · omega
          · rw [h2 (reach - 1) (by omega) (by omega) q hq] at e; exact absurd e (by decide)
        have a2 : ¬ reach < v := fun z => by
          rcases h1 with e | ⟨q, hq, e⟩
          · omega
          · have := hR.1 _ q hq e; omega
        omega
      rw [ev]
      exact h
    | succ m ih =>
      intro k v hk hv h1 h2
      refine wp_X13_longOf_4 hM (ip (nI_lt (b := 96) (by omega) (by omega)) ⟨q_inn (by omega) (by omega), ?_⟩)
      rw [q_cl (by omega), ← nI_succ]
      by_cases g : I 123 k = 0
      · rw [if_pos g]
        refine ih (k + 1) v (by omega) (by omega) h1 (fun x a b => ?_)
        by_cases e : x = k
        · subst e; exact (hz x (by omega)).mp g
        · exact h2 x a (by omega)
      · rw [if_neg g]
        refine ih (k + 1) (k + 1) (by omega) (by omega) (Or.inr ?_) (fun x a b => by omega)
        refine Classical.byContradiction (fun n => g ((hz k (by omega)).mpr (fun q hq => ?_)))
        cases e : T k q with
        | false => rfl
        | true => exact absurd ⟨q, hq, e⟩ n
  exact wp_X13_longOf hM (lp 96 0 0 (by omega) (by omega) (Or.inl rfl) (fun x a b => by omega))
end LYM
