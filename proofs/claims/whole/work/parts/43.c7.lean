/-! the component's reading of a text -/
def txS (a j : Nat) : Prop := (a = 5 ∧ (j = 2 ∨ j = 3 ∨ j = 6)) ∨ a = 7
def segT (g : Nat → Int32) : Nat → List Int32 → Prop
  | _, [] => True
  | c, x :: xs => g c = x ∧ segT g (c + 1) xs
def TxI (I : z_I) (T : Nat → Int32) (n : Nat) (pt : Int32) (i c : Nat) : Prop := I 6 = T ∧ I 5 1 = nI n ∧ n ≤ 60 ∧ I 5 4 = pt ∧ I 5 3 = nI i ∧ I 5 6 = nI c ∧ c ≤ i ∧ i ≤ n
def MdI (I I' : z_I) (c j : Nat) (cs : List Int32) : Prop := Fz txS I I' ∧ I' 5 3 = nI j ∧ I' 5 6 = nI (c + cs.length) ∧ (∀ k, k < c → I' 7 k = I 7 k) ∧ segT (I' 7) c cs
def RsP (I : z_I) (L : z_L) (c : Nat) (Q : z_q) : (Nat ⊕ Nat × List Int32) → Prop
  | Sum.inl e => ∀ I', Fz txS I I' → I' 5 2 = nI e → Q (some (.int 0)) I' L
  | Sum.inr q => ∀ I', MdI I I' c q.1 q.2 → Q (some (.int 1)) I' L
theorem Fz.trans {S : Nat → Nat → Prop} {I I1 I2 : z_I} (h1 : Fz S I I1) (h2 : Fz S I1 I2) : Fz S I I2 := fun a j h => (h2 a j h).trans (h1 a j h)
theorem Fz.rfl' {S : Nat → Nat → Prop} {I : z_I} : Fz S I I := fun _ _ _ => rfl
theorem Fz.z {S : Nat → Nat → Prop} {I I1 : z_I} {a j : Nat} {v : Int32} (h1 : Fz S I I1) (hs : S a j) : Fz S I (zI I1 a j v) := fun b k h => (zI_d (fun z => h (by rw [z.1, z.2]; exact hs))).trans (h1 b k h)
section SEG
variable {g g' : Nat → Int32}
theorem segT_app : ∀ (xs ys : List Int32) (c : Nat), segT g c (xs ++ ys) ↔ segT g c xs ∧ segT g (c + xs.length) ys := by
  intro xs
  induction xs with
  | nil => intro ys c; exact ⟨fun h => ⟨trivial, h⟩, fun h => h.2⟩
  | cons x xs ih =>
    intro ys c
    show (g c = x ∧ segT g (c + 1) (xs ++ ys)) ↔ (g c = x ∧ segT g (c + 1) xs) ∧ segT g (c + (xs.length + 1)) ys
    rw [ih, show c + (xs.length + 1) = c + 1 + xs.length from by omega]
    exact ⟨fun h => ⟨⟨h.1, h.2.1⟩, h.2.2⟩, fun h => ⟨h.1.1, h.1.2, h.2⟩⟩
theorem segT_cong : ∀ (xs : List Int32) (c : Nat), (∀ k, c ≤ k → k < c + xs.length → g' k = g k) → segT g c xs → segT g' c xs := by
  intro xs
  induction xs with
  | nil => intro c _ _; trivial
  | cons x xs ih =>
    intro c h hs
    have hl : (x :: xs).length = xs.length + 1 := rfl
    exact ⟨(h c (Nat.le_refl _) (by omega)).trans hs.1, ih (c + 1) (fun k h1 h2 => h k (by omega) (by omega)) hs.2⟩
end SEG
section RD7
variable {n0 d e : Nat} {K : z_K} {I I0 I1 : z_I} {L : z_L} {Q : z_q} {T : Nat → Int32} {n : Nat} {pt : Int32} {f i c j : Nat} {cs cs' : List Int32}
theorem MdI.rf (h : TxI I T n pt i c) : MdI I I c i [] := ⟨Fz.rfl', h.2.2.2.2.1, h.2.2.2.2.2.1, fun _ _ => rfl, trivial⟩
theorem MdI.step {v : Int32} (h : MdI I I0 c j cs) (hv : v = nI i) : MdI I (zI I0 5 3 v) c i cs := by
  subst hv
  refine ⟨h.1.z (Or.inl ⟨rfl, Or.inr (Or.inl rfl)⟩), zI_s, ?_, fun k hk => ?_, ?_⟩
  · rw [zI_d (by omega)]; exact h.2.2.1
  · rw [zI_d (by omega)]; exact h.2.2.2.1 k hk
  · exact segT_cong cs c (fun k _ _ => zI_d (by omega)) h.2.2.2.2
theorem MdI.emit {v : Int32} (h : MdI I I0 c j cs) (hv : I0 5 6 = nI (c + cs.length)) : MdI I (zI (zI I0 7 (c + cs.length) v) 5 6 (nI (c + cs.length + 1))) c j (cs ++ [v]) := by
  refine ⟨(h.1.z (Or.inr rfl)).z (Or.inl ⟨rfl, Or.inr (Or.inr rfl)⟩), ?_, ?_, fun k hk => ?_, ?_⟩
  · rw [zI_d (by omega), zI_d (by omega)]; exact h.2.1
  · rw [zI_s, List.length_append]; rfl
  · rw [zI_d (by omega), zI_d (by omega)]; exact h.2.2.2.1 k hk
  · refine (segT_app cs [v] c).mpr ⟨segT_cong cs c (fun k h1 h2 => ?_) h.2.2.2.2, ?_, trivial⟩
    · rw [zI_d (by omega), zI_d (by omega)]
    · rw [zI_d (by omega), zI_s]
theorem MdI.trans (h : MdI I I0 c i cs) (h2 : MdI I0 I1 (c + cs.length) j cs') : MdI I I1 c j (cs ++ cs') := by
  refine ⟨h.1.trans h2.1, h2.2.1, ?_, fun k hk => ?_, ?_⟩
  · rw [h2.2.2.1, List.length_append, Nat.add_assoc]
  · rw [h2.2.2.2.1 k (by omega), h.2.2.2.1 k hk]
  · exact (segT_app cs cs' c).mpr ⟨segT_cong cs c (fun k h1 h3 => h2.2.2.2.1 k h3) h.2.2.2.2, h2.2.2.2.2⟩
theorem TxI.md (h : TxI I T n pt i c) (hm : MdI I I0 c j cs) (h1 : c + cs.length ≤ j) (h2 : j ≤ n) : TxI I0 T n pt j (c + cs.length) := by
  have hS : ∀ a k, ¬ txS a k → I0 a k = I a k := hm.1
  refine ⟨?_, ?_, h.2.2.1, ?_, hm.2.1, hm.2.2.1, h1, h2⟩
  · rw [← h.1]; funext k; exact hS 6 k (fun z => by unfold txS at z; omega)
  · rw [hS 5 1 (fun z => by unfold txS at z; omega)]; exact h.2.1
  · rw [hS 5 4 (fun z => by unfold txS at z; omega)]; exact h.2.2.2.1
theorem TxI.step {v : Int32} (h : TxI I T n pt i c) (hi : i < n) (hv : v = nI (i + 1)) : TxI (zI I 5 3 v) T n pt (i + 1) c := by
  have h1 := h.2.2.2.2.2.2.1
  have := h.md ((MdI.rf h).step hv) (by show c + 0 ≤ _; omega) (by omega)
  exact this
theorem c7_next (hC : CLay K) (h : TxI I T n pt i c) (hq : Q (some (.int (nxT T n i))) I L) : RM0 n0 xX7_next d [.ref (n0 + 5)] K I L Q := by
  obtain ⟨t1, t2, t3, t4, t5, t6, t7, t8⟩ := h
  refine wp_X7_next hC ⟨fun z => ?_, ?_⟩
  · rw [t5]; rw [t5, t2] at z
    have := q_lt.mp z
    rw [q_nI (by omega), q_nI (by omega)] at this
    exact q_inn (by omega) (by omega)
  · rw [t5, t2, t1, q_cl (by omega)]
    unfold nxT at hq
    by_cases g : i < n
    · rw [if_pos g] at hq; rw [if_pos (nI_lt g (by omega))]; exact hq
    · rw [if_neg g] at hq
      rw [if_neg (fun z => by have := q_lt.mp z; rw [q_nI (by omega), q_nI (by omega)] at this; omega)]; exact hq
theorem c7_emit {v : Int32} (hC : CLay K) (hm : MdI I I0 c j cs) (hc : c + cs.length < 60) (h : ∀ I', MdI I I' c j (cs ++ [v]) → Q (some (.int 1)) I' L) : RM0 n0 xX7_emit (d + 1) [.ref (n0 + 5), .int v] K I0 L Q := by
  have h6 := hm.2.2.1
  refine wp_X7_emit hC ?_
  rw [h6]
  refine ip (nI_lt (b := 60) hc (by omega)) ⟨q_inn hc (by omega), ?_⟩
  rw [q_cl (by omega), ← nI_succ]
  exact h _ (hm.emit h6)
theorem c7_fail (hC : CLay K) (hf : Fz txS I I0) (hj : I0 5 3 = nI j) (h : ∀ I', Fz txS I I' → I' 5 2 = nI j → Q (some (.int 0)) I' L) : RM0 n0 xX7_failHere d [.ref (n0 + 5)] K I0 L Q := by
  refine wp_X7_failHere hC (h _ (hf.z (Or.inl ⟨rfl, Or.inl rfl⟩)) ?_)
  rw [zI_s, hj]
theorem dg_t {x : Int32} (h : ¬ x < 48 ∧ ¬ 57 < x) : (if x < 48 then (0 : Int32) else if 57 < x then 0 else 1) = 1 := by rw [if_neg h.1, if_neg h.2]
theorem dg_f {x : Int32} (h : ¬ (¬ x < 48 ∧ ¬ 57 < x)) : (if x < 48 then (0 : Int32) else if 57 < x then 0 else 1) = 0 := by
  by_cases a : x < 48
  · rw [if_pos a]
  · by_cases b : 57 < x
    · rw [if_neg a, if_pos b]
    · exact absurd ⟨a, b⟩ h
theorem c7_number_l (hC : CLay K) (hc : c < 60) : ∀ w k j v I0, k + w = 4 → MdI I I0 c j [] → TxI I0 T n pt j c → RsP I L c Q (Sum.inr ((numR T n w j v).1, [(numR T n w j v).2])) → Z n0 xX7_readNumber (d + 2) 0 0 4 [(0, .ref (n0 + 5)), (1, .int v), (2, .int (nI k))] [] K I0 L (z_q0 K Q) := by
  intro w
  induction w with
  | zero =>
    intro k j v I0 hk hm hT h
    have : k = 4 := by omega
    subst this
    exact wp_X7_readNumber_4 hC (iq (by decide) (c7_emit hC hm hc (fun I' h' => ⟨_, rfl, Or.inr rfl, h _ h'⟩)))
  | succ w ih =>
    intro k j v I0 hk hm hT h
    refine wp_X7_readNumber_4 hC (ip (nI_lt (b := 4) (by omega) (by omega)) (c7_next hC hT ⟨_, rfl, wp_X7_isDigit hC ⟨_, rfl, ?_⟩⟩))
    by_cases g : ¬ nxT T n j < 48 ∧ ¬ 57 < nxT T n j
    · rw [dg_t g]
      rw [numR_d g] at h
      refine iq (by decide) (c7_next hC hT ⟨_, rfl, ?_⟩)
      rw [hT.2.2.2.2.1, ← nI_succ, ← nI_succ]
      exact ih (k + 1) (j + 1) _ _ (by omega) (hm.step rfl) (hT.step (nx_lt48 g.1) rfl) h
    · rw [dg_f g]
      have e : numR T n (w + 1) j v = (j, v) := if_neg g
      rw [e] at h
      exact ip rfl (c7_emit hC hm hc (fun I' h' => ⟨_, rfl, Or.inr rfl, h _ h'⟩))
theorem c7_number (hC : CLay K) (hc : c < 60) (hT : TxI I T n pt i c) (h : RsP I L c Q (Sum.inr ((numR T n 4 i 0).1, [(numR T n 4 i 0).2]))) : RM0 n0 xX7_readNumber (d + 2) [.ref (n0 + 5)] K I L Q :=
  wp_X7_readNumber hC (c7_number_l hC hc 4 0 i 0 I (by omega) (MdI.rf hT) hT h)
theorem c7_point {a : Int32} (hC : CLay K) (hc : c < 60) (hm : MdI I I0 c j []) (hT : TxI I0 T n pt j c) (h1 : ((nxT T n j - 48 < 0 ∨ 9 < nxT T n j - 48) ∨ ¬ nxT T n j - 48 < pt) → RsP I L c Q (Sum.inl j)) (h2 : ¬ ((nxT T n j - 48 < 0 ∨ 9 < nxT T n j - 48) ∨ ¬ nxT T n j - 48 < pt) → RsP I L c Q (Sum.inr (j + 1, [a + (nxT T n j - 48)]))) : RM0 n0 xX7_readPoint (d + 2) [.ref (n0 + 5), .int a] K I0 L Q := by
  refine wp_X7_readPoint hC (c7_next hC hT ⟨_, rfl, ?_⟩)
  have fl : ((nxT T n j - 48 < 0 ∨ 9 < nxT T n j - 48) ∨ ¬ nxT T n j - 48 < pt) → RM0 n0 xX7_failHere (d + 1) [.ref (n0 + 5)] K I0 L (fun vv I5 L6 => ∃ r7 : Int32, vv = some (.int r7) ∧ z_b r7 ∧ Q (some (.int r7)) I5 L6) := fun z => c7_fail (j := j) hC hm.1 hT.2.2.2.2.1 (fun I' a1 a2 => ⟨_, rfl, Or.inl rfl, h1 z I' a1 a2⟩)
  by_cases a1 : nxT T n j - 48 < 0
  · exact ip a1 (fl (Or.inl (Or.inl a1)))
  · by_cases a2 : 9 < nxT T n j - 48
    · exact iq a1 (ip a2 (fl (Or.inl (Or.inr a2))))
    · rw [hT.2.2.2.1]
      by_cases a3 : nxT T n j - 48 < pt
      · have ng : ¬ ((nxT T n j - 48 < 0 ∨ 9 < nxT T n j - 48) ∨ ¬ nxT T n j - 48 < pt) := fun z => z.elim (fun z => z.elim a1 a2) (fun z => z a3)
        have hl : j < n := nx_lt (fun z => a1 (by rw [z]; decide))
        refine iq a1 (iq a2 (ip a3 ?_))
        rw [hT.2.2.2.2.1, ← nI_succ]
        exact c7_emit hC (hm.step rfl) hc (fun I' h' => ⟨_, rfl, Or.inr rfl, h2 ng _ h'⟩)
      · exact iq a1 (iq a2 (iq a3 (fl (Or.inr a3))))
def c7G0 (n0 e : Nat) (K : z_K) (L : z_L) (T : Nat → Int32) (n : Nat) (pt : Int32) (f : Nat) : Prop := ∀ (m dd i c : Nat) (I : z_I) (Q : z_q), m + dd = 5 → TxI I T n pt i c → 8 * (n - i) + 2 ≤ f → (∀ r, pS T n pt f 0 dd i = some r → RsP I L c Q r) → RM0 n0 xX7_readUnit (e + 1 + 4 * m + 2) [.ref (n0 + 5), .int (nI dd)] K I L Q
def c7G1 (n0 e : Nat) (K : z_K) (L : z_L) (T : Nat → Int32) (n : Nat) (pt : Int32) (f : Nat) : Prop := ∀ (m dd i c k : Nat) (I : z_I) (Q : z_q), m + dd = 5 → TxI I T n pt i c → k ≤ i → 8 * (n - i) + 1 ≤ f → (∀ r, pS T n pt f 1 dd i = some r → RsP I L c Q r) → Z n0 xX7_readTerm (e + 1 + 4 * m + 3) 0 0 8 [(0, .ref (n0 + 5)), (1, .int (nI dd)), (2, .int 1), (3, .int (nI k))] [] K I L (z_q0 K Q)
def c7G2 (n0 e : Nat) (K : z_K) (L : z_L) (T : Nat → Int32) (n : Nat) (pt : Int32) (f : Nat) : Prop := ∀ (m dd i c : Nat) (I : z_I) (Q : z_q), m + dd = 5 → TxI I T n pt i c → 8 * (n - i) + 3 ≤ f → (∀ r, pS T n pt f 2 dd i = some r → RsP I L c Q r) → RM0 n0 xX7_readTerm (e + 1 + 4 * m + 3) [.ref (n0 + 5), .int (nI dd)] K I L Q
def c7G3 (n0 e : Nat) (K : z_K) (L : z_L) (T : Nat → Int32) (n : Nat) (pt : Int32) (f : Nat) : Prop := ∀ (m dd i c k : Nat) (I : z_I) (Q : z_q), m + dd = 5 → TxI I T n pt i c → k ≤ i → 8 * (n - i) + 1 ≤ f → (∀ r, pS T n pt f 3 dd i = some r → RsP I L c Q r) → Z n0 xX7_readSum (e + 1 + 4 * m + 4) 0 0 8 [(0, .ref (n0 + 5)), (1, .int (nI dd)), (2, .int 1), (3, .int (nI k))] [] K I L (z_q0 K Q)
def c7G4 (n0 e : Nat) (K : z_K) (L : z_L) (T : Nat → Int32) (n : Nat) (pt : Int32) (f : Nat) : Prop := ∀ (m dd i c : Nat) (I : z_I) (Q : z_q), m + dd = 5 → TxI I T n pt i c → 8 * (n - i) + 4 ≤ f → (∀ r, pS T n pt f 4 dd i = some r → RsP I L c Q r) → RM0 n0 xX7_readSum (e + 1 + 4 * m + 4) [.ref (n0 + 5), .int (nI dd)] K I L Q
def c7G5 (n0 e : Nat) (K : z_K) (L : z_L) (T : Nat → Int32) (n : Nat) (pt : Int32) (f : Nat) : Prop := ∀ (m dd i c : Nat) (I : z_I) (Q : z_q), m + dd = 5 → TxI I T n pt i c → 8 * (n - i) + 1 ≤ f → (∀ r, pS T n pt f 5 dd i = some r → RsP I L c Q r) → RM0 n0 xX7_readBracket (e + 1 + 4 * m + 1) [.ref (n0 + 5), .int (nI dd)] K I L Q
theorem RsP.md {r : Nat ⊕ Nat × List Int32} {Q' : z_q} (hm : MdI I I0 c i cs) (hl : ∀ e, r = Sum.inl e → RsP I L c Q (Sum.inl e)) (hr : ∀ q I1, r = Sum.inr q → MdI I I1 c q.1 (cs ++ q.2) → MdI I0 I1 (c + cs.length) q.1 q.2 → Q' (some (.int 1)) I1 L) (h0 : ∀ I1, Q (some (.int 0)) I1 L → Q' (some (.int 0)) I1 L) : RsP I0 L (c + cs.length) Q' r := by
  cases r with
  | inl e => exact fun I' a1 a2 => h0 _ (hl e rfl I' (hm.1.trans a1) a2)
  | inr q => exact fun I' a1 => hr q I' rfl (hm.trans a1) a1
theorem c7_G5 (hC : CLay K) (h4 : c7G4 n0 e K L T n pt f) : c7G5 n0 e K L T n pt (f + 1) := by
  intro m dd i c I Q hm hT hf h
  rw [pS_5] at h
  refine wp_X7_readBracket hC (c7_next hC hT ⟨_, rfl, ?_⟩)
  have h60 := hT.2.2.1
  by_cases g : nxT T n i = 40
  · refine ip g ?_
    have hl : i < n := nx_lt (fun z => by rw [z] at g; exact absurd g (by decide))
    by_cases gd : dd < 5
    · obtain ⟨m', rfl⟩ : ∃ m', m = m' + 1 := ⟨m - 1, by omega⟩
      rw [if_pos ⟨g, gd⟩] at h
      refine ip (nI_lt (b := 5) gd (by omega)) ?_
      rw [hT.2.2.2.2.1, ← nI_succ, ← nI_succ, show e + 1 + 4 * (m' + 1) = e + 1 + 4 * m' + 4 from by omega]
      have hT1 := hT.step hl (v := nI (i + 1)) rfl
      have hM1 := (MdI.rf hT).step (v := nI (i + 1)) rfl
      refine h4 m' (dd + 1) (i + 1) c _ _ (by omega) hT1 (by omega) (fun r hr => ?_)
      rw [hr] at h
      refine RsP.md (cs := []) (Q := Q) hM1 (fun e he => h _ (by rw [he]; rfl)) (fun q I1 hq a1 a2 => ⟨_, rfl, iq (by decide) ?_⟩) (fun I1 hq => ⟨_, rfl, ip rfl hq⟩)
      subst hq
      have ps := pS_pos f 4 (dd + 1) (i + 1) q.1 q.2 (by omega) hr
      have c1 := hT.2.2.2.2.2.2.1
      have hT2 : TxI I1 T n pt q.1 (c + q.2.length) := hT1.md a2 (by omega) ps.1
      refine c7_next hC hT2 ⟨_, rfl, ?_⟩
      have h' : ∀ r, (if nxT T n q.1 = 41 then some (Sum.inr (q.1 + 1, q.2)) else some (Sum.inl q.1)) = some r → RsP I L c Q r := h
      by_cases g2 : nxT T n q.1 = 41
      · rw [if_pos g2] at h'
        refine ip g2 ?_
        rw [hT2.2.2.2.2.1, ← nI_succ]
        exact h' _ rfl _ (a1.step rfl)
      · rw [if_neg g2] at h'
        exact iq g2 (c7_fail (j := q.1) hC a1.1 hT2.2.2.2.2.1 (fun I' b1 b2 => ⟨_, rfl, Or.inl rfl, h' _ rfl I' b1 b2⟩))
    · rw [if_neg (fun z => gd z.2)] at h
      exact iq (fun z => gd (by have := q_lt.mp z; rw [q_nI (by omega)] at this; have e5 : (5 : Int32).toInt = 5 := rfl; omega)) (c7_fail (j := i) hC Fz.rfl' hT.2.2.2.2.1 (fun I' b1 b2 => ⟨_, rfl, Or.inl rfl, h _ rfl I' b1 b2⟩))
  · rw [if_neg (fun z => g z.1)] at h
    exact iq g (c7_fail (j := i) hC Fz.rfl' hT.2.2.2.2.1 (fun I' b1 b2 => ⟨_, rfl, Or.inl rfl, h _ rfl I' b1 b2⟩))
theorem c7_G0 (hC : CLay K) (h5 : c7G5 n0 e K L T n pt f) : c7G0 n0 e K L T n pt (f + 1) := by
  intro m dd i c I Q hm hT hf h
  rw [pS_0] at h
  have h60 := hT.2.2.1
  have hci := hT.2.2.2.2.2.2.1
  refine wp_X7_readUnit hC (c7_next hC hT ⟨_, rfl, wp_X7_isDigit hC ⟨_, rfl, ?_⟩⟩)
  rw [hT.2.2.2.2.1, ← nI_succ]
  by_cases g1 : ¬ nxT T n i < 48 ∧ ¬ 57 < nxT T n i
  · rw [if_pos g1] at h
    rw [dg_t g1]
    have hl := nx_lt48 g1.1
    refine iq (by decide) ?_
    rw [show e + 1 + 4 * m + 1 = e + 4 * m + 2 from by omega]
    exact c7_number hC (by omega) hT (fun I' h' => ⟨_, rfl, Or.inr rfl, h _ rfl I' h'⟩)
  rw [if_neg g1] at h
  rw [dg_f g1]
  refine ip rfl ?_
  by_cases g2 : ¬ nxT T n i < 97 ∧ nxT T n i < 105
  · rw [if_pos g2] at h
    have hl : i < n := nx_lt (fun z => g2.1 (by rw [z]; decide))
    exact iq g2.1 (ip g2.2 (c7_emit hC ((MdI.rf hT).step rfl) (by show c + 0 < 60; omega) (fun I' h' => ⟨_, rfl, Or.inr rfl, h _ rfl I' h'⟩)))
  rw [if_neg g2] at h
  have fin : ∀ {X Y : Prop}, X → (if nxT T n i < 97 then X else if nxT T n i < 105 then Y else X) := by
    intro X Y hX
    by_cases a : nxT T n i < 97
    · exact ip a hX
    · exact iq a (iq (fun z => g2 ⟨a, z⟩) hX)
  refine fin ?_
  by_cases g3 : nxT T n i = 120 ∨ nxT T n i = 121
  · rw [if_pos g3] at h
    have hl : i < n := nx_lt (fun z => by rw [z] at g3; rcases g3 with g | g <;> exact absurd g (by decide))
    have key := fun (Q' : z_q) (h0 : ∀ I', Q (some (.int 0)) I' L → Q' (some (.int 0)) I' L) (h1 : ∀ I', Q (some (.int 1)) I' L → Q' (some (.int 1)) I' L) => c7_point (n0 := n0) (d := e + 4 * m) (a := if nxT T n i = 120 then 10010 else 10020) (Q := Q') (L := L) hC (show c < 60 by omega) ((MdI.rf hT).step (v := nI (i + 1)) rfl) (hT.step hl rfl) (fun z I' a1 a2 => h0 _ (h (Sum.inl (i + 1)) (by rw [if_pos z]) I' a1 a2)) (fun z I' a1 => h1 _ (h (Sum.inr (i + 2, [(if nxT T n i = 120 then 10010 else 10020) + (nxT T n (i + 1) - 48)])) (by rw [if_neg z]) I' a1))
    have lv : e + 1 + 4 * m + 1 = e + 4 * m + 2 := by omega
    by_cases a : nxT T n i = 120
    · refine ip a ?_
      rw [lv]
      exact key _ (fun I' q => ⟨_, rfl, Or.inl rfl, q⟩) (fun I' q => ⟨_, rfl, Or.inr rfl, q⟩)
    · refine iq a (ip (g3.resolve_left a) ?_)
      rw [lv]
      exact key _ (fun I' q => ⟨_, rfl, Or.inl rfl, q⟩) (fun I' q => ⟨_, rfl, Or.inr rfl, q⟩)
  rw [if_neg g3] at h
  refine iq (fun z => g3 (Or.inl z)) (iq (fun z => g3 (Or.inr z)) ?_)
  by_cases g5 : nxT T n i = 114
  · rw [if_pos g5] at h
    have hl : i < n := nx_lt (fun z => by rw [z] at g5; exact absurd g5 (by decide))
    refine ip g5 ?_
    have hT1 := hT.step hl (v := nI (i + 1)) rfl
    have hM1 := (MdI.rf hT).step (v := nI (i + 1)) rfl
    refine h5 m dd (i + 1) c _ _ hm hT1 (by omega) (fun r hr => ?_)
    rw [hr] at h
    refine RsP.md (cs := []) (Q := Q) hM1 (fun e he => h _ (by rw [he]; rfl)) (fun q I1 hq a1 a2 => ⟨_, rfl, iq (by decide) ?_⟩) (fun I1 hq => ⟨_, rfl, ip rfl hq⟩)
    subst hq
    have ps := pS_pos f 5 dd (i + 1) q.1 q.2 (by omega) hr
    exact c7_emit hC a1 (by show c + q.2.length < 60; omega) (fun I' h' => ⟨_, rfl, h _ rfl I' h'⟩)
  · rw [if_neg g5] at h
    refine iq g5 (h5 m dd i c _ _ hm hT (by omega) (fun r hr => ?_))
    have hh := h r hr
    cases r with
    | inl e => exact fun I' a1 a2 => ⟨_, rfl, Or.inl rfl, hh I' a1 a2⟩
    | inr q => exact fun I' a1 => ⟨_, rfl, Or.inr rfl, hh I' a1⟩
end RD7
