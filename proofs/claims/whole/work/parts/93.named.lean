/-! what a rule's codes name -/
def uB (nm : Nat → Int32) (u : Int32) : Int32 := if u < 10000 then 0 else if u < 10008 then (1 : Int32) <<< ((u - 10000) &&& 31 : Int32) else if u < 10010 then 0 else if u < 10020 then nm (u - 10010).toNatClampNeg else if u < 10030 then nm (u - 10020).toNatClampNeg else 0
def cB (nm : Nat → Int32) (b : Int32) (c : List Int32) : Int32 := c.foldl (fun b u => b ||| uB nm u) b
def orF (f : Nat → Int32) : Nat → Int32
  | 0 => 0
  | n + 1 => orF f n ||| f n
def rB (nm : Nat → Int32) (k : Nat) (m : Int32 × Int32) : Int32 := m.1 ||| orF (fun q => if tb m.2 q = true then nm q else 0) k
section NMD
variable {n0 d : Nat} {K : z_K} {I : z_I} {L : z_L} {Q : z_q} {nm : Nat → Int32} {j k a : Nat} {ms rx ry : Nat → Int32}
theorem q_nlt {a b : Nat} (ha : a < 2 ^ 31) (hb : b < 2 ^ 31) : (nI a < nI b) ↔ a < b := by rw [q_lt, q_nI ha, q_nI hb]; omega
theorem nI_sb {a b : Nat} : nI (a + b) - nI a = nI b := by
  rw [q_nsub (by omega), Nat.add_sub_cancel_left]
theorem z_or {x : Int32} : 0 ||| x = x := tb_ext (fun i hi => by rw [tb_or, tb_0, Bool.false_or])
theorem or_a {x y z : Int32} : x ||| y ||| z = x ||| (y ||| z) := tb_ext (fun i hi => by rw [tb_or, tb_or, tb_or, tb_or, Bool.or_assoc])
theorem uB_n (h : k < 10000) : uB nm (nI k) = 0 := by
  unfold uB
  rw [if_pos (by exact (q_nlt (b := 10000) (by omega) (by omega)).mpr h)]
theorem uB_m (h : k < 8) : uB nm (nI (10000 + k)) = (1 : Int32) <<< (nI k &&& 31 : Int32) := by
  unfold uB
  rw [if_neg (fun z => by have := (q_nlt (b := 10000) (by omega) (by omega)).mp z; omega), if_pos (by exact (q_nlt (b := 10008) (by omega) (by omega)).mpr (by omega)), show (10000 : Int32) = nI 10000 from rfl, nI_sb]
theorem uB_x (h : k < 10) : uB nm (nI (10010 + k)) = nm k := by
  unfold uB
  rw [if_neg (fun z => by have := (q_nlt (b := 10000) (by omega) (by omega)).mp z; omega), if_neg (fun z => by have := (q_nlt (b := 10008) (by omega) (by omega)).mp z; omega), if_neg (fun z => by have := (q_nlt (b := 10010) (by omega) (by omega)).mp z; omega), if_pos (by exact (q_nlt (b := 10020) (by omega) (by omega)).mpr (by omega)), show (10010 : Int32) = nI 10010 from rfl, nI_sb, q_cl (by omega)]
theorem uB_y (h : k < 10) : uB nm (nI (10020 + k)) = nm k := by
  unfold uB
  rw [if_neg (fun z => by have := (q_nlt (b := 10000) (by omega) (by omega)).mp z; omega), if_neg (fun z => by have := (q_nlt (b := 10008) (by omega) (by omega)).mp z; omega), if_neg (fun z => by have := (q_nlt (b := 10010) (by omega) (by omega)).mp z; omega), if_neg (fun z => by have := (q_nlt (b := 10020) (by omega) (by omega)).mp z; omega), if_pos (by exact (q_nlt (b := 10030) (by omega) (by omega)).mpr (by omega)), show (10020 : Int32) = nI 10020 from rfl, nI_sb, q_cl (by omega)]
theorem uB_o (h : 10030 ≤ k) (h2 : k < 10035) : uB nm (nI k) = 0 := by
  unfold uB
  rw [if_neg (fun z => by have := (q_nlt (b := 10000) (by omega) (by omega)).mp z; omega), if_neg (fun z => by have := (q_nlt (b := 10008) (by omega) (by omega)).mp z; omega), if_neg (fun z => by have := (q_nlt (b := 10010) (by omega) (by omega)).mp z; omega), if_neg (fun z => by have := (q_nlt (b := 10020) (by omega) (by omega)).mp z; omega), if_neg (fun z => by have := (q_nlt (b := 10030) (by omega) (by omega)).mp z; omega)]
/-- the kinds of units, by their number -/
def kU (j : Nat) (u : Int32) : Prop := (∃ k, k < 10000 ∧ u = nI k) ∨ (∃ k, k < 8 ∧ u = nI (10000 + k)) ∨ (∃ k, k < j ∧ u = nI (10010 + k)) ∨ (∃ k, k < j ∧ u = nI (10020 + k)) ∨ ∃ k, 10030 ≤ k ∧ k < 10035 ∧ u = nI k
theorem wf_k : ∀ (c : List Int32) (m m' : Nat), wfC j c m m' → ∀ u, u ∈ c → kU j u := by
  intro c
  induction c with
  | nil => intro m m' _ u hu; cases hu
  | cons v c ih =>
    intro m m' h u hu
    have hv : kU j v ∧ ∃ m1, wfC j c m1 m' := by
      rcases h with ⟨a1, a2⟩ | ⟨a1, a2, a3⟩ | ⟨a1, a2, a3⟩
      · refine ⟨?_, _, a2⟩
        rcases a1 with ⟨t, ht, e⟩ | ⟨t, ht, e⟩ | ⟨t, ht, e⟩
        · by_cases c1 : t < 10000
          · exact Or.inl ⟨t, c1, e⟩
          · exact Or.inr (Or.inl ⟨t - 10000, by omega, by rw [e, show 10000 + (t - 10000) = t by omega]⟩)
        · exact Or.inr (Or.inr (Or.inl ⟨t, ht, e⟩))
        · exact Or.inr (Or.inr (Or.inr (Or.inl ⟨t, ht, e⟩)))
      · exact ⟨Or.inr (Or.inr (Or.inr (Or.inr ⟨10034, by omega, by omega, a1⟩))), _, a3⟩
      · refine ⟨Or.inr (Or.inr (Or.inr (Or.inr ?_))), _, a3⟩
        rcases a1 with e | e | e | e
        · exact ⟨10030, by omega, by omega, e⟩
        · exact ⟨10031, by omega, by omega, e⟩
        · exact ⟨10032, by omega, by omega, e⟩
        · exact ⟨10033, by omega, by omega, e⟩
    obtain ⟨hv1, m1, hv2⟩ := hv
    rcases List.mem_cons.mp hu with e | e
    · rw [e]; exact hv1
    · exact ih m1 m' hv2 u e
theorem cB_a : ∀ (c : List Int32) (b : Int32), cB nm b c = b ||| cB nm 0 c := by
  intro c
  induction c with
  | nil => intro b; exact or_z.symm
  | cons u c ih =>
    intro b
    show cB nm (b ||| uB nm u) c = b ||| cB nm (0 ||| uB nm u) c
    rw [ih (b ||| uB nm u), ih (0 ||| uB nm u), z_or, or_a]
theorem orF_in {f : Nat → Int32} {b : Nat → Bool} {q : Nat} : ∀ n, q < n → orF (fun i => if (b i || decide (i = q)) = true then f i else 0) n = orF (fun i => if b i = true then f i else 0) n ||| f q := by
  have out : ∀ n, n ≤ q → orF (fun i => if (b i || decide (i = q)) = true then f i else 0) n = orF (fun i => if b i = true then f i else 0) n := by
    intro n
    induction n with
    | zero => intro _; rfl
    | succ n ih =>
      intro h
      show orF _ n ||| (if (b n || decide (n = q)) = true then f n else 0) = orF _ n ||| (if b n = true then f n else 0)
      rw [ih (by omega), decide_eq_false (show ¬ n = q by omega), Bool.or_false]
  intro n
  induction n with
  | zero => intro h; omega
  | succ n ih =>
    intro h
    show orF _ n ||| (if (b n || decide (n = q)) = true then f n else 0) = orF _ n ||| (if b n = true then f n else 0) ||| f q
    by_cases c : q = n
    · subst c
      rw [out q (Nat.le_refl _), decide_eq_true (rfl : q = q), Bool.or_true, if_pos rfl]
      refine tb_ext (fun i hi => ?_)
      rw [tb_or, tb_or, tb_or]
      by_cases e : b q = true
      · rw [if_pos e]; cases tb (f q) i <;> simp
      · rw [if_neg e, tb_0]; simp
    · rw [ih (by omega), decide_eq_false (show ¬ n = q by omega), Bool.or_false]
      refine tb_ext (fun i hi => ?_)
      rw [tb_or, tb_or, tb_or, tb_or]
      cases tb (f q) i <;> simp
theorem rB_p {m1 m2 : Int32} {q : Nat} (hq : q < k) (hk : k ≤ 10) : rB nm k (m1, m2 ||| ((1 : Int32) <<< (nI q &&& 31 : Int32))) = rB nm k (m1, m2) ||| nm q := by
  unfold rB
  show m1 ||| orF (fun i => if tb (m2 ||| ((1 : Int32) <<< (nI q &&& 31 : Int32))) i = true then nm i else 0) k = m1 ||| orF (fun i => if tb m2 i = true then nm i else 0) k ||| nm q
  rw [or_a, ← orF_in k hq]
  congr 1
  have : ∀ n, n ≤ k → orF (fun i => if tb (m2 ||| ((1 : Int32) <<< (nI q &&& 31 : Int32))) i = true then nm i else 0) n = orF (fun i => if (tb m2 i || decide (i = q)) = true then nm i else 0) n := by
    intro n
    induction n with
    | zero => intro _; rfl
    | succ n ih =>
      intro h
      show orF _ n ||| (if tb (m2 ||| ((1 : Int32) <<< (nI q &&& 31 : Int32))) n = true then nm n else 0) = orF _ n ||| (if (tb m2 n || decide (n = q)) = true then nm n else 0)
      rw [ih (by omega), tb_or, tb_one (by omega) (by omega)]
  exact this k (Nat.le_refl _)
theorem rB_m {m1 m2 x : Int32} : rB nm k (m1 ||| x, m2) = rB nm k (m1, m2) ||| x := by
  unfold rB
  refine tb_ext (fun i hi => ?_)
  rw [tb_or, tb_or, tb_or, tb_or]
  cases tb x i <;> simp
theorem evW_w {op : Int32} {s : Bool × List Int64 × Int32 × Int32} : (evW op s).2.2 = s.2.2 := by
  obtain ⟨b, V, r⟩ := s
  match V with
  | [] => rfl
  | [x] => rfl
  | x :: y :: w =>
    show (if op = 10033 ∧ x = 0 then evP (aop op y 1) (true, w, r) else evP (aop op y x) (b, w, r)).2.2 = r
    split <;> rfl
theorem evR_w {s : Bool × List Int64 × Int32 × Int32} : (evR s).2.2 = s.2.2 := by
  obtain ⟨b, V, r⟩ := s
  match V with
  | [] => rfl
  | x :: w =>
    show (if x < 0 then (true, 0 :: w, r) else (b, rtL x :: w, r)).2.2 = r
    split <;> rfl
theorem evC_r {s : Bool × List Int64 × Int32 × Int32} {u : Int32} (hk : k ≤ 10) (h : kU k u) : rB nm k (evC ms rx ry s u).2.2 = rB nm k s.2.2 ||| uB nm u := by
  unfold evC
  rcases h with ⟨t, ht, e⟩ | ⟨t, ht, e⟩ | ⟨t, ht, e⟩ | ⟨t, ht, e⟩ | ⟨t, ht, ht2, e⟩
  · rw [e, uB_n ht, if_pos (by exact (q_nlt (b := 10000) (by omega) (by omega)).mpr ht), or_z]; rfl
  · rw [e, uB_m ht, if_neg (fun z => by have := (q_nlt (b := 10000) (by omega) (by omega)).mp z; omega), if_pos (by exact (q_nlt (b := 10008) (by omega) (by omega)).mpr (by omega)), show (10000 : Int32) = nI 10000 from rfl, nI_sb]
    exact rB_m
  · rw [e, uB_x (by omega), if_neg (fun z => by have := (q_nlt (b := 10000) (by omega) (by omega)).mp z; omega), if_neg (fun z => by have := (q_nlt (b := 10008) (by omega) (by omega)).mp z; omega), if_pos (by exact (q_nlt (b := 10020) (by omega) (by omega)).mpr (by omega)), show (10010 : Int32) = nI 10010 from rfl, nI_sb]
    exact rB_p ht hk
  · rw [e, uB_y (by omega), if_neg (fun z => by have := (q_nlt (b := 10000) (by omega) (by omega)).mp z; omega), if_neg (fun z => by have := (q_nlt (b := 10008) (by omega) (by omega)).mp z; omega), if_neg (fun z => by have := (q_nlt (b := 10020) (by omega) (by omega)).mp z; omega), if_pos (by exact (q_nlt (b := 10030) (by omega) (by omega)).mpr (by omega)), show (10020 : Int32) = nI 10020 from rfl, nI_sb]
    exact rB_p ht hk
  · rw [e, uB_o ht ht2, if_neg (fun z => by have := (q_nlt (b := 10000) (by omega) (by omega)).mp z; omega), if_neg (fun z => by have := (q_nlt (b := 10008) (by omega) (by omega)).mp z; omega), if_neg (fun z => by have := (q_nlt (b := 10020) (by omega) (by omega)).mp z; omega), if_neg (fun z => by have := (q_nlt (b := 10030) (by omega) (by omega)).mp z; omega), or_z]
    split
    · rw [evR_w]
    · rw [evW_w]
theorem evs_r (hk : k ≤ 10) : ∀ (c : List Int32) (s : Bool × List Int64 × Int32 × Int32), (∀ u, u ∈ c → kU k u) → rB nm k (evs ms rx ry s c).2.2 = cB nm (rB nm k s.2.2) c := by
  intro c
  induction c with
  | nil => intro s _; rfl
  | cons u c ih =>
    intro s h
    show rB nm k (evs ms rx ry (evC ms rx ry s u) c).2.2 = cB nm (rB nm k s.2.2 ||| uB nm u) c
    rw [ih _ (fun v hv => h v (List.mem_cons_of_mem _ hv)), evC_r hk (h u List.mem_cons_self)]
/-- the component's working of a code -/
theorem c2_named_l {N : Nat} (hC : CLay K) (hj : j ≤ 10) (ha : a < K.1) (hs : K.2.1 a = (20, N)) (hN : N ≤ 60) : ∀ (c : List Int32) (k : Nat) (b : Int32), k + c.length = N → segT (I a) k c → (∀ u, u ∈ c → kU j u) → Q (some (.int (cB (I 17) b c))) I L → Z n0 xX2_namedIn (d + 1) 0 0 4 [(0, .ref (n0 + 8)), (1, .ref (n0 + a)), (2, .int b), (3, .int (nI k))] [] K I L (z_q0 K Q) := by
  intro c
  induction c with
  | nil =>
    intro k b hk hg hw h
    have hk' : k = N := hk
    subst hk'
    exact wp_X2_namedIn_4 hC ⟨k, ha, hs, iq (fun z => by have := q_lt.mp z; have e : Int32.ofNat k = nI k := rfl; rw [e] at this; omega) h⟩
  | cons u c ih =>
    intro k b hk hg hw h
    have hk' : k + (c.length + 1) = N := hk
    have hu : I a k = u := hg.1
    refine wp_X2_namedIn_4 hC ⟨N, ha, hs, ip (nI_lt (by omega) (by omega)) ⟨q_inn (by omega) (by omega), ?_⟩⟩
    rw [q_cl (by omega), hu, ← nI_succ]
    have nx : Z n0 xX2_namedIn (d + 1) 0 0 4 [(0, .ref (n0 + 8)), (1, .ref (n0 + a)), (2, .int (b ||| uB (I 17) u)), (3, .int (nI (k + 1)))] [] K I L (z_q0 K Q) := ih (k + 1) _ (by omega) hg.2 (fun v hv => hw v (List.mem_cons_of_mem _ hv)) h
    rcases hw u List.mem_cons_self with ⟨t, ht, e⟩ | ⟨t, ht, e⟩ | ⟨t, ht, e⟩ | ⟨t, ht, e⟩ | ⟨t, ht, ht2, e⟩
    · rw [e, uB_n ht, or_z] at nx
      rw [e]
      refine wp_X2_pointOf hC (ip ((q_nlt (b := 10010) (by omega) (by omega)).mpr (by omega)) ⟨_, rfl, ?_⟩)
      rw [if_pos (by exact (q_nlt (b := 10020) (by omega) (by omega)).mpr (by omega))]
      refine ⟨fun z => absurd (by decide) z, ?_⟩
      rw [if_pos (by exact (q_nlt (b := 10000) (by omega) (by omega)).mpr ht), if_pos (by decide)]
      exact nx
    · rw [e, uB_m ht] at nx
      rw [e]
      refine wp_X2_pointOf hC (ip ((q_nlt (b := 10010) (by omega) (by omega)).mpr (by omega)) ⟨_, rfl, ?_⟩)
      rw [if_pos (by exact (q_nlt (b := 10020) (by omega) (by omega)).mpr (by omega))]
      refine ⟨fun z => absurd (by decide) z, ?_⟩
      rw [if_neg (fun z => by have := (q_nlt (b := 10000) (by omega) (by omega)).mp z; omega), if_pos (by exact (q_nlt (b := 10008) (by omega) (by omega)).mpr (by omega)), if_pos (by decide), show (10000 : Int32) = nI 10000 from rfl, nI_sb]
      exact nx
    · rw [e, uB_x (by omega)] at nx
      rw [e]
      refine wp_X2_pointOf hC (iq (fun z => by have := (q_nlt (b := 10010) (by omega) (by omega)).mp z; omega) (ip ((q_nlt (b := 10020) (by omega) (by omega)).mpr (by omega)) ⟨_, rfl, ?_⟩))
      rw [show (10010 : Int32) = nI 10010 from rfl, nI_sb, q_cl (by omega)]
      refine ⟨fun _ => q_inn (by omega) (by omega), ?_⟩
      rw [if_neg (fun z => by have := (q_nlt (b := 10000) (by omega) (by omega)).mp z; omega), if_neg (fun z => by have := (q_nlt (b := 10008) (by omega) (by omega)).mp z; omega), if_neg (nI_pos (by omega))]
      exact nx
    · rw [e, uB_y (by omega)] at nx
      rw [e]
      refine wp_X2_pointOf hC (iq (fun z => by have := (q_nlt (b := 10010) (by omega) (by omega)).mp z; omega) (iq (fun z => by have := (q_nlt (b := 10020) (by omega) (by omega)).mp z; omega) ⟨_, rfl, ?_⟩))
      rw [if_neg (fun z => by have := (q_nlt (b := 10020) (by omega) (by omega)).mp z; omega), if_pos (by exact (q_nlt (b := 10030) (by omega) (by omega)).mpr (by omega)), show (10020 : Int32) = nI 10020 from rfl, nI_sb, q_cl (by omega)]
      refine ⟨fun _ => q_inn (by omega) (by omega), ?_⟩
      rw [if_neg (fun z => by have := (q_nlt (b := 10000) (by omega) (by omega)).mp z; omega), if_neg (fun z => by have := (q_nlt (b := 10008) (by omega) (by omega)).mp z; omega), if_neg (nI_pos (by omega))]
      exact nx
    · rw [e, uB_o ht ht2, or_z] at nx
      rw [e]
      refine wp_X2_pointOf hC (iq (fun z => by have := (q_nlt (b := 10010) (by omega) (by omega)).mp z; omega) (iq (fun z => by have := (q_nlt (b := 10020) (by omega) (by omega)).mp z; omega) ⟨_, rfl, ?_⟩))
      rw [if_neg (fun z => by have := (q_nlt (b := 10020) (by omega) (by omega)).mp z; omega), if_neg (fun z => by have := (q_nlt (b := 10030) (by omega) (by omega)).mp z; omega)]
      refine ⟨fun z => absurd (by decide) z, ?_⟩
      rw [if_neg (fun z => by have := (q_nlt (b := 10000) (by omega) (by omega)).mp z; omega), if_neg (fun z => by have := (q_nlt (b := 10008) (by omega) (by omega)).mp z; omega), if_pos (by decide)]
      exact nx
end NMD
