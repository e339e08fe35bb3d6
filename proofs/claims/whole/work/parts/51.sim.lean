/-! the reference's reading follows the text -/
def zzR (n0 d : Nat) (K : z_K) (Q : z_q) (w : Int32) (I : z_I) (L : z_L) : Prop := Z n0 xX13_readSum (d + 6) 0 0 22 [(0, .ref (n0 + 59)), (1, .int w)] [] K I L (z_q0 K Q)
def HBd (I0 : z_I) (L0 : z_L) (Q : z_q) (e : Nat) : Prop := ∀ I' L', BdR I0 L0 I' L' e → Q (some (.int 0)) I' L'
def TmR (I0 : z_I) (L0 : z_L) (j : Nat) (a S : List Int32) (s1 : Bool × List Int64 × Int32 × Int32) (dp : Nat) (I : z_I) (L : z_L) : Prop := ∃ m s', mOK m ∧ StR I0 L0 I L j (m ++ (a ++ S)) s' dp ∧ apW m s' = s1 ∧ m.length + a.length + 1 ≤ s'.2.1.length ∧ s'.2.1.length ≤ j ∧ (m ++ (a ++ S)).length ≤ j ∧ okV s'
def SmR (I0 : z_I) (L0 : z_L) (j : Nat) (S : List Int32) (s1 : Bool × List Int64 × Int32 × Int32) (dp : Nat) (I : z_I) (L : z_L) : Prop := ∃ a s2, aOK a ∧ TmR I0 L0 j a S s2 dp I L ∧ apW a s2 = s1
def R0R (n0 d : Nat) (K : z_K) (Q : z_q) (I0 : z_I) (L0 : z_L) (T : Nat → Int32) (n : Nat) (pt : Int32) (ms rx ry : Nat → Int32) (f : Nat) : Prop := ∀ (dp i : Nat) (S : List Int32) (s : Bool × List Int64 × Int32 × Int32) (I : z_I) (L : z_L) (r : Nat ⊕ Nat × List Int32), dp ≤ 5 → i ≤ n → StR I0 L0 I L i S s dp → S.length ≤ i → s.2.1.length ≤ i → okV s → pS T n pt f 0 dp i = some r → (∀ e, r = Sum.inl e → HBd I0 L0 Q e) → (∀ j c, r = Sum.inr (j, c) → ∀ I' L', StR I0 L0 I' L' j S (evs ms rx ry s c) dp → zzR n0 d K Q 0 I' L') → zzR n0 d K Q 1 I L
def R1R (n0 d : Nat) (K : z_K) (Q : z_q) (I0 : z_I) (L0 : z_L) (T : Nat → Int32) (n : Nat) (pt : Int32) (ms rx ry : Nat → Int32) (f : Nat) : Prop := ∀ (dp i : Nat) (a S : List Int32) (s1 : Bool × List Int64 × Int32 × Int32) (I : z_I) (L : z_L) (r : Nat ⊕ Nat × List Int32), dp ≤ 5 → aOK a → bOK S → i ≤ n → TmR I0 L0 i a S s1 dp I L → pS T n pt f 1 dp i = some r → (∀ e, r = Sum.inl e → HBd I0 L0 Q e) → (∀ j c, r = Sum.inr (j, c) → ¬ (nxT T n j = 42 ∨ nxT T n j = 47) → ∀ I' L', TmR I0 L0 j a S (evs ms rx ry s1 c) dp I' L' → zzR n0 d K Q 0 I' L') → zzR n0 d K Q 0 I L
def R2R (n0 d : Nat) (K : z_K) (Q : z_q) (I0 : z_I) (L0 : z_L) (T : Nat → Int32) (n : Nat) (pt : Int32) (ms rx ry : Nat → Int32) (f : Nat) : Prop := ∀ (dp i : Nat) (a S : List Int32) (s : Bool × List Int64 × Int32 × Int32) (I : z_I) (L : z_L) (r : Nat ⊕ Nat × List Int32), dp ≤ 5 → aOK a → bOK S → i ≤ n → StR I0 L0 I L i (a ++ S) s dp → (a ++ S).length ≤ i → a.length ≤ s.2.1.length → s.2.1.length ≤ i → okV s → pS T n pt f 2 dp i = some r → (∀ e, r = Sum.inl e → HBd I0 L0 Q e) → (∀ j c, r = Sum.inr (j, c) → ¬ (nxT T n j = 42 ∨ nxT T n j = 47) → ∀ I' L', TmR I0 L0 j a S (evs ms rx ry s c) dp I' L' → zzR n0 d K Q 0 I' L') → zzR n0 d K Q 1 I L
def R3R (n0 d : Nat) (K : z_K) (Q : z_q) (I0 : z_I) (L0 : z_L) (T : Nat → Int32) (n : Nat) (pt : Int32) (ms rx ry : Nat → Int32) (f : Nat) : Prop := ∀ (dp i : Nat) (S : List Int32) (s1 : Bool × List Int64 × Int32 × Int32) (I : z_I) (L : z_L) (r : Nat ⊕ Nat × List Int32), dp ≤ 5 → bOK S → i ≤ n → ¬ (nxT T n i = 42 ∨ nxT T n i = 47) → SmR I0 L0 i S s1 dp I L → pS T n pt f 3 dp i = some r → (∀ e, r = Sum.inl e → HBd I0 L0 Q e) → (∀ j c, r = Sum.inr (j, c) → ¬ (nxT T n j = 42 ∨ nxT T n j = 47) ∧ ¬ (nxT T n j = 43 ∨ nxT T n j = 45) → ∀ I' L', SmR I0 L0 j S (evs ms rx ry s1 c) dp I' L' → zzR n0 d K Q 0 I' L') → zzR n0 d K Q 0 I L
def R4R (n0 d : Nat) (K : z_K) (Q : z_q) (I0 : z_I) (L0 : z_L) (T : Nat → Int32) (n : Nat) (pt : Int32) (ms rx ry : Nat → Int32) (f : Nat) : Prop := ∀ (dp i : Nat) (S : List Int32) (s : Bool × List Int64 × Int32 × Int32) (I : z_I) (L : z_L) (r : Nat ⊕ Nat × List Int32), dp ≤ 5 → bOK S → i ≤ n → StR I0 L0 I L i S s dp → S.length ≤ i → s.2.1.length ≤ i → okV s → pS T n pt f 4 dp i = some r → (∀ e, r = Sum.inl e → HBd I0 L0 Q e) → (∀ j c, r = Sum.inr (j, c) → ¬ (nxT T n j = 42 ∨ nxT T n j = 47) ∧ ¬ (nxT T n j = 43 ∨ nxT T n j = 45) → ∀ I' L', SmR I0 L0 j S (evs ms rx ry s c) dp I' L' → zzR n0 d K Q 0 I' L') → zzR n0 d K Q 1 I L
def R5R (n0 d : Nat) (K : z_K) (Q : z_q) (I0 : z_I) (L0 : z_L) (T : Nat → Int32) (n : Nat) (pt : Int32) (ms rx ry : Nat → Int32) (f : Nat) : Prop := ∀ (dp i : Nat) (sg : Int32) (S : List Int32) (s : Bool × List Int64 × Int32 × Int32) (I : z_I) (L : z_L) (r : Nat ⊕ Nat × List Int32), (sg = 40 ∨ sg = 114) → nxT T n i = 40 → dp < 5 → StR I0 L0 I L (i + 1) (sg :: S) s (dp + 1) → S.length ≤ i → s.2.1.length ≤ i → okV s → pS T n pt f 5 dp i = some r → (∀ e, r = Sum.inl e → HBd I0 L0 Q e) → (∀ j c, r = Sum.inr (j, c) → ∀ I' L', StR I0 L0 I' L' j S (if sg = 114 then evR (evs ms rx ry s c) else evs ms rx ry s c) dp → zzR n0 d K Q 0 I' L') → zzR n0 d K Q 1 I L
section SIM
variable {n0 d : Nat} {K : z_K} {I I0 : z_I} {L L0 : z_L} {Q : z_q} {T ms rx ry : Nat → Int32} {n i dp f : Nat} {pt : Int32} {S R m a : List Int32} {s : Bool × List Int64 × Int32 × Int32}
theorem okV_C {u : Int32} (h : okV s) : okV (evC ms rx ry s u) := by
  unfold evC
  split
  · exact okV_P h
  · split
    · exact okV_P h
    · split
      · exact okV_P h
      · split
        · exact okV_P h
        · split
          · obtain ⟨b, V, r⟩ := s
            match V, h with
            | [], h => exact h
            | x :: w, h =>
              show okV (if x < 0 then (true, 0 :: w, r) else (b, rtL x :: w, r))
              have hw : ∀ v, v ∈ w → -1000000 ≤ v.toInt ∧ v.toInt ≤ 1000000 := fun v hv => h v (List.mem_cons_of_mem _ hv)
              have hx := h x List.mem_cons_self
              split
              · intro v hv
                rcases List.mem_cons.mp hv with e | e
                · rw [e]; decide
                · exact hw v e
              · rename_i gx
                intro v hv
                rcases List.mem_cons.mp hv with e | e
                · rw [e]
                  by_cases ex : ∃ r, isR x r
                  · obtain ⟨r0, hr⟩ := ex
                    rw [rtL_e hr]
                    have := isR_le hr hx.2
                    omega
                  · exfalso
                    exact ex (rt_ex (by have := mt q_ltL.mpr gx; have e0 : (0 : Int64).toInt = 0 := rfl; omega) hx.2)
                · exact hw v e
          · exact okV_W h
theorem okV_s : ∀ (c : List Int32) (s : Bool × List Int64 × Int32 × Int32), okV s → okV (evs ms rx ry s c) := by
  intro c
  induction c with
  | nil => intro s h; exact h
  | cons u c ih => intro s h; exact ih _ (okV_C h)
theorem zz_u (hM : MLay K) (h : StR I0 L0 I L i S s dp) (hu : RM0 n0 xX13_readUnit (d + 5) [.ref (n0 + 59)] K I L (fun vv I' L' => ∃ r : Int32, vv = some (.int r) ∧ zzR n0 d K Q r I' L')) : zzR n0 d K Q 1 I L :=
  wp_X13_readSum_22 hM (ip h.2.2.2.2.2.2.2.2.2.2.2.1 (ip h.2.2.2.2.2.2.2.2.2.2.2.2 (iq (by decide) hu)))
theorem zz_s (hM : MLay K) (h : StR I0 L0 I L i S s dp) (hu : RM0 n0 xX13_readSign (d + 5) [.ref (n0 + 59)] K I L (fun vv I' L' => ∃ r : Int32, vv = some (.int r) ∧ zzR n0 d K Q r I' L')) : zzR n0 d K Q 0 I L :=
  wp_X13_readSum_22 hM (ip h.2.2.2.2.2.2.2.2.2.2.2.1 (ip h.2.2.2.2.2.2.2.2.2.2.2.2 (ip rfl hu)))
theorem zz_b {w : Int32} {e : Nat} (hM : MLay K) (h : BdR I0 L0 I L e) (hb : HBd I0 L0 Q e) : zzR n0 d K Q w I L := by
  refine wp_X13_readSum_22 hM (iq h.2.2.2 ?_)
  rw [if_neg h.2.2.2]
  exact hb I L h
theorem pS5_bad {r : Nat ⊕ Nat × List Int32} (h : pS T n pt f 5 dp i = some r) (g : ¬ (nxT T n i = 40 ∧ dp < 5)) : r = Sum.inl i := by
  cases f with
  | zero => cases h
  | succ f => rw [pS_5, if_neg g] at h; exact (Option.some.inj h).symm
theorem R5s (hM : MLay K) (hT : TxR I0 T n pt ms rx ry) (h4 : R4R n0 d K Q I0 L0 T n pt ms rx ry f) : R5R n0 d K Q I0 L0 T n pt ms rx ry (f + 1) := by
  intro dp i sg S s I L r hsg hx hd h hS hv hok hp hb hk
  have hl : i < n := nx_lt (fun z => by rw [z] at hx; exact absurd hx (by decide))
  have h60 := hT.2.1
  rw [pS_5, if_pos ⟨hx, hd⟩] at hp
  cases e4 : pS T n pt f 4 (dp + 1) (i + 1) with
  | none => rw [e4] at hp; cases hp
  | some r4 =>
    rw [e4] at hp
    refine h4 (dp + 1) (i + 1) (sg :: S) s I L r4 (by omega) (Or.inr ⟨sg, S, rfl, hsg⟩) (by omega) h (by show S.length + 1 ≤ _; omega) (by omega) hok e4 (fun e he => ?_) (fun j c hjc hno I' L' hSm => ?_)
    · rw [he] at hp
      exact hb e (Option.some.inj hp).symm
    · rw [hjc] at hp e4
      have hp' : (if nxT T n j = 41 then some (Sum.inr (j + 1, c)) else some (Sum.inl j)) = some r := hp
      have ps := pS_pos f 4 (dp + 1) (i + 1) j c (by omega) e4
      obtain ⟨a, s2, ha, ⟨m, s', hm, st, ew, hv1, hv2, hl2, hok2⟩, ea⟩ := hSm
      have lm := apW_l (s := s') (Or.inl hm) (by omega)
      have la : (a ++ (sg :: S)).length ≤ (m ++ (a ++ (sg :: S))).length := by simp only [List.length_append]; omega
      refine zz_s hM st (c13_rs_oth hM hT ps.1 st hm ha (Or.inr ⟨sg, S, rfl, hsg⟩) (by omega) hv1 (by omega) hok2 hno (by omega) (fun _ => by omega) (fun g S' eS I2 L2 z => ⟨_, rfl, ?_⟩) (fun g S' eS I2 L2 z => ⟨_, rfl, ?_⟩) (fun g I2 L2 z => ⟨_, rfl, ?_⟩))
      · rw [if_pos g] at hp'
        have e1 := (List.cons.inj eS).1
        have e2 := (List.cons.inj eS).2
        refine hk (j + 1) c (Option.some.inj hp').symm I2 L2 ?_
        rw [if_neg (by rw [e1]; decide), ← ea, ← ew, e2]
        exact z
      · rw [if_pos g] at hp'
        have e1 := (List.cons.inj eS).1
        have e2 := (List.cons.inj eS).2
        refine hk (j + 1) c (Option.some.inj hp').symm I2 L2 ?_
        rw [if_pos e1, ← ea, ← ew, e2]
        exact z
      · have g' : ¬ nxT T n j = 41 := fun w => g ⟨w, by simp⟩
        rw [if_neg g'] at hp'
        rw [if_neg (by simp)]
        refine zz_b (e := j) hM ⟨?_, z.2.1, ?_, ?_⟩ (hb j (Option.some.inj hp').symm)
        · exact (z.1.z (Or.inl ⟨rfl, by omega⟩)).z (Or.inl ⟨rfl, by omega⟩)
        · rw [zI_d (by omega), zI_d (by omega)]; exact z.2.2.1
        · rw [zI_s]; decide
theorem R0s (hM : MLay K) (hT : TxR I0 T n pt ms rx ry) (hbt : ∀ k, k < n → 0 ≤ (T k).toInt) (h5 : R5R n0 d K Q I0 L0 T n pt ms rx ry f) : R0R n0 d K Q I0 L0 T n pt ms rx ry (f + 1) := by
  intro dp i S s I L r hdp hi h hS hv hok hp hb hk
  have h60 := hT.2.1
  rw [pS_0] at hp
  by_cases g1 : ¬ nxT T n i < 48 ∧ ¬ 57 < nxT T n i
  · rw [if_pos g1] at hp
    refine zz_u hM h (c13_ru_d hM hT hi h (by omega) g1 (fun I' L' z => ⟨_, rfl, hk _ _ (Option.some.inj hp).symm I' L' ?_⟩))
    obtain ⟨b, hb1, hb2⟩ := numR_v (T := T) (n := n) 4 i 0 (by decide) (by decide)
    have e0 : (numR T n 4 i 0).2 = nI b := hb1
    have e : evs ms rx ry s [(numR T n 4 i 0).2] = evP ((numR T n 4 i 0).2).toInt64 s := by
      show evC ms rx ry s (numR T n 4 i 0).2 = _
      rw [e0, u_small (by rw [q_nI (by omega)]; omega) (by rw [q_nI (by omega)]; omega)]
    rw [e]; exact z
  rw [if_neg g1] at hp
  by_cases g2 : ¬ nxT T n i < 97 ∧ nxT T n i < 105
  · rw [if_pos g2] at hp
    exact zz_u hM h (c13_ru_m hM hT hi h (by omega) g2 (fun I' L' z => ⟨_, rfl, hk _ _ (Option.some.inj hp).symm I' L' z⟩))
  rw [if_neg g2] at hp
  by_cases g3 : nxT T n i = 120 ∨ nxT T n i = 121
  · rw [if_pos g3] at hp
    have hl : i < n := nx_lt (fun z => by rw [z] at g3; rcases g3 with g | g <;> exact absurd g (by decide))
    have hb1 : -1 ≤ (nxT T n (i + 1)).toInt := by
      unfold nxT
      by_cases g : i + 1 < n
      · rw [if_pos g]; have := hbt _ g; omega
      · rw [if_neg g]; decide
    refine zz_u hM h (c13_ru_xy hM hT hl hb1 h (by omega) g3 (fun g I' L' z => ⟨_, rfl, ?_⟩) (fun g I' L' z => ⟨_, rfl, ?_⟩))
    · rw [if_pos g] at hp
      exact zz_b hM z (hb _ (Option.some.inj hp).symm)
    · rw [if_neg g] at hp
      exact hk _ _ (Option.some.inj hp).symm I' L' z
  rw [if_neg g3] at hp
  by_cases g5 : nxT T n i = 114
  · rw [if_pos g5] at hp
    have hl : i < n := nx_lt (fun z => by rw [z] at g5; exact absurd g5 (by decide))
    cases e5 : pS T n pt f 5 dp (i + 1) with
    | none => rw [e5] at hp; cases hp
    | some r5 =>
      rw [e5] at hp
      refine zz_u hM h (c13_ru_r hM hT hl h (by omega) hdp g5 (fun g I' L' z => ⟨_, rfl, ?_⟩) (fun g I' L' z => ⟨_, rfl, ?_⟩))
      · rw [pS5_bad e5 g] at hp
        exact zz_b hM z (hb _ (Option.some.inj hp).symm)
      · refine h5 dp (i + 1) 114 S s I' L' r5 (Or.inr rfl) g.1 g.2 z (by omega) (by omega) hok e5 (fun e he => ?_) (fun j c hjc I2 L2 z2 => ?_)
        · rw [he] at hp
          exact hb e (Option.some.inj hp).symm
        · rw [hjc] at hp
          refine hk j (c ++ [10034]) (Option.some.inj hp).symm I2 L2 ?_
          rw [if_pos rfl] at z2
          rw [evs_app]
          exact z2
  · rw [if_neg g5] at hp
    by_cases g6 : nxT T n i = 40
    · refine zz_u hM h (c13_ru_o hM hT hi h (by omega) hdp g6 (fun g I' L' z => ⟨_, rfl, ?_⟩) (fun g I' L' z => ⟨_, rfl, ?_⟩))
      · exact zz_b hM z (hb _ (pS5_bad hp (fun w => by omega)))
      · refine h5 dp i 40 S s I' L' r (Or.inl rfl) g6 g z (by omega) (by omega) hok hp hb (fun j c hjc I2 L2 z2 => hk j c hjc I2 L2 ?_)
        rw [if_neg (by decide)] at z2
        exact z2
    · exact zz_u hM h (c13_ru_bad hM hT hi h (by omega) g1 g2 g3 g5 g6 (fun I' L' z => ⟨_, rfl, zz_b hM z (hb _ (pS5_bad hp (fun w => g6 w.1)))⟩))
theorem R1s (hM : MLay K) (hT : TxR I0 T n pt ms rx ry) (h0 : R0R n0 d K Q I0 L0 T n pt ms rx ry f) (h1 : R1R n0 d K Q I0 L0 T n pt ms rx ry f) : R1R n0 d K Q I0 L0 T n pt ms rx ry (f + 1) := by
  intro dp i a S s1 I L r hdp ha hS hi hTm hp hb hk
  have h60 := hT.2.1
  rw [pS_1] at hp
  by_cases g : nxT T n i = 42 ∨ nxT T n i = 47
  · rw [if_pos g] at hp
    have hl : i < n := nx_lt (fun z => by rw [z] at g; rcases g with g | g <;> exact absurd g (by decide))
    obtain ⟨m, s', hm, st, ew, hv1, hv2, hl2, hok2⟩ := hTm
    have la : (a ++ S).length ≤ (m ++ (a ++ S)).length := by simp only [List.length_append]; omega
    have lm := apW_l (s := s') (Or.inl hm) (by omega)
    have lm1 : m.length ≤ 1 := by rcases hm with e | e | e <;> subst e <;> decide
    refine zz_s hM st (c13_rs_mul hM hT hi st hm ha hS (by omega) hv1 (by omega) g (fun I1 L1 z => ⟨_, rfl, ?_⟩))
    rw [ew] at z lm
    have ok1 : okV s1 := by rw [← ew]; exact apW_ok hok2
    cases e0 : pS T n pt f 0 dp (i + 1) with
    | none => rw [e0] at hp; cases hp
    | some r0 =>
      rw [e0] at hp
      refine h0 dp (i + 1) (nxT T n i :: (a ++ S)) s1 I1 L1 r0 hdp (by omega) z (by show (a ++ S).length + 1 ≤ _; omega) (by omega) ok1 e0 (fun e he => ?_) (fun j c hjc I2 L2 z2 => ?_)
      · rw [he] at hp; exact hb e (Option.some.inj hp).symm
      · rw [hjc] at hp e0
        have ps := pS_pos f 0 dp (i + 1) j c (by omega) e0
        have ps3 := ps.2.2.1 (by decide) (by decide)
        have hp' : bnS (pS T n pt f 1 dp j) (fun i3 c3 => some (Sum.inr (i3, c ++ [if nxT T n i = 42 then 10032 else 10033] ++ c3))) = some r := hp
        have len := (evs_len (ms := ms) (rx := rx) (ry := ry) f 0 dp (i + 1) j c e0 s1).1 (by decide) (by decide)
        have eop : opC (nxT T n i) = if nxT T n i = 42 then 10032 else 10033 := by
          rcases g with e | e <;> rw [e] <;> decide
        cases e1 : pS T n pt f 1 dp j with
        | none => rw [e1] at hp'; cases hp'
        | some r1 =>
          rw [e1] at hp'
          refine h1 dp j a S (evW (opC (nxT T n i)) (evs ms rx ry s1 c)) I2 L2 r1 hdp ha hS ps.1 ⟨[nxT T n i], evs ms rx ry s1 c, Or.inr (by rcases g with e | e <;> rw [e] <;> simp), z2, rfl, ?_, ?_, ?_, okV_s c s1 ok1⟩ e1 (fun e he => ?_) (fun j2 c2 hjc2 hno I3 L3 z3 => ?_)
          · show 1 + a.length + 1 ≤ _; omega
          · omega
          · show (a ++ S).length + 1 ≤ _; omega
          · rw [he] at hp'; exact hb e (Option.some.inj hp').symm
          · rw [hjc2] at hp'
            refine hk j2 _ (Option.some.inj hp').symm hno I3 L3 ?_
            rw [evs_app, evs_app]
            have : evs ms rx ry (evs ms rx ry s1 c) [if nxT T n i = 42 then 10032 else 10033] = evW (opC (nxT T n i)) (evs ms rx ry s1 c) := by
              rw [eop]
              exact evC_op (by split <;> decide)
            rw [this]
            exact z3
  · rw [if_neg g] at hp
    exact hk i [] (Option.some.inj hp).symm g I L hTm
theorem R2s (hM : MLay K) (hT : TxR I0 T n pt ms rx ry) (h0 : R0R n0 d K Q I0 L0 T n pt ms rx ry f) (h1 : R1R n0 d K Q I0 L0 T n pt ms rx ry f) : R2R n0 d K Q I0 L0 T n pt ms rx ry (f + 1) := by
  intro dp i a S s I L r hdp ha hS hi h hl ha2 hv hok hp hb hk
  rw [pS_2] at hp
  cases e0 : pS T n pt f 0 dp i with
  | none => rw [e0] at hp; cases hp
  | some r0 =>
    rw [e0] at hp
    refine h0 dp i (a ++ S) s I L r0 hdp hi h hl hv hok e0 (fun e he => ?_) (fun j c hjc I2 L2 z2 => ?_)
    · rw [he] at hp; exact hb e (Option.some.inj hp).symm
    · rw [hjc] at hp e0
      have ps := pS_pos f 0 dp i j c hi e0
      have ps3 := ps.2.2.1 (by decide) (by decide)
      have hp' : bnS (pS T n pt f 1 dp j) (fun i3 c3 => some (Sum.inr (i3, c ++ c3))) = some r := hp
      have len := (evs_len (ms := ms) (rx := rx) (ry := ry) f 0 dp i j c e0 s).1 (by decide) (by decide)
      cases e1 : pS T n pt f 1 dp j with
      | none => rw [e1] at hp'; cases hp'
      | some r1 =>
        rw [e1] at hp'
        refine h1 dp j a S (evs ms rx ry s c) I2 L2 r1 hdp ha hS ps.1 ⟨[], evs ms rx ry s c, Or.inl rfl, z2, rfl, ?_, ?_, ?_, okV_s c s hok⟩ e1 (fun e he => ?_) (fun j2 c2 hjc2 hno I3 L3 z3 => ?_)
        · show 0 + a.length + 1 ≤ _; omega
        · omega
        · show (a ++ S).length ≤ _; omega
        · rw [he] at hp'; exact hb e (Option.some.inj hp').symm
        · rw [hjc2] at hp'
          refine hk j2 _ (Option.some.inj hp').symm hno I3 L3 ?_
          rw [evs_app]
          exact z3
theorem R3s (hM : MLay K) (hT : TxR I0 T n pt ms rx ry) (h2 : R2R n0 d K Q I0 L0 T n pt ms rx ry f) (h3 : R3R n0 d K Q I0 L0 T n pt ms rx ry f) : R3R n0 d K Q I0 L0 T n pt ms rx ry (f + 1) := by
  intro dp i S s1 I L r hdp hS hi hno0 hSm hp hb hk
  have h60 := hT.2.1
  rw [pS_3] at hp
  by_cases g : nxT T n i = 43 ∨ nxT T n i = 45
  · rw [if_pos g] at hp
    have hl : i < n := nx_lt (fun z => by rw [z] at g; rcases g with g | g <;> exact absurd g (by decide))
    obtain ⟨a, s2, ha, ⟨m, s', hm, st, ew, hv1, hv2, hl2, hok2⟩, ea⟩ := hSm
    have la : (a ++ S).length ≤ (m ++ (a ++ S)).length := by simp only [List.length_append]; omega
    have lS : S.length ≤ (a ++ S).length := by rw [List.length_append]; omega
    have lm := apW_l (s := s') (Or.inl hm) (by omega)
    have lap := apW_l (s := apW m s') (Or.inr ha) (by omega)
    have la1 : a.length ≤ 1 := by rcases ha with e | e | e <;> subst e <;> decide
    refine zz_s hM st (c13_rs_add hM hT hi st hm ha hS (by omega) hv1 (by omega) g (fun I1 L1 z => ⟨_, rfl, ?_⟩))
    rw [ew, ea] at z
    rw [ew, ea] at lap
    rw [ew] at lm
    have ok1 : okV s1 := by rw [← ea, ← ew]; exact apW_ok (apW_ok hok2)
    cases e0 : pS T n pt f 2 dp (i + 1) with
    | none => rw [e0] at hp; cases hp
    | some r0 =>
      rw [e0] at hp
      refine h2 dp (i + 1) [nxT T n i] S s1 I1 L1 r0 hdp (Or.inr (by rcases g with e | e <;> rw [e] <;> simp)) hS (by omega) z (by show S.length + 1 ≤ _; omega) (by show 1 ≤ _; omega) (by omega) ok1 e0 (fun e he => ?_) (fun j c hjc hno I2 L2 z2 => ?_)
      · rw [he] at hp; exact hb e (Option.some.inj hp).symm
      · rw [hjc] at hp e0
        have ps := pS_pos f 2 dp (i + 1) j c (by omega) e0
        have hp' : bnS (pS T n pt f 3 dp j) (fun i3 c3 => some (Sum.inr (i3, c ++ [if nxT T n i = 43 then 10030 else 10031] ++ c3))) = some r := hp
        have eop : opC (nxT T n i) = if nxT T n i = 43 then 10030 else 10031 := by
          rcases g with e | e <;> rw [e] <;> decide
        cases e1 : pS T n pt f 3 dp j with
        | none => rw [e1] at hp'; cases hp'
        | some r1 =>
          rw [e1] at hp'
          refine h3 dp j S (evW (opC (nxT T n i)) (evs ms rx ry s1 c)) I2 L2 r1 hdp hS ps.1 hno ⟨[nxT T n i], evs ms rx ry s1 c, Or.inr (by rcases g with e | e <;> rw [e] <;> simp), z2, rfl⟩ e1 (fun e he => ?_) (fun j2 c2 hjc2 hno2 I3 L3 z3 => ?_)
          · rw [he] at hp'; exact hb e (Option.some.inj hp').symm
          · rw [hjc2] at hp'
            refine hk j2 _ (Option.some.inj hp').symm hno2 I3 L3 ?_
            rw [evs_app, evs_app]
            have : evs ms rx ry (evs ms rx ry s1 c) [if nxT T n i = 43 then 10030 else 10031] = evW (opC (nxT T n i)) (evs ms rx ry s1 c) := by
              rw [eop]
              exact evC_op (by split <;> decide)
            rw [this]
            exact z3
  · rw [if_neg g] at hp
    exact hk i [] (Option.some.inj hp).symm ⟨hno0, g⟩ I L hSm
theorem R4s (h2 : R2R n0 d K Q I0 L0 T n pt ms rx ry f) (h3 : R3R n0 d K Q I0 L0 T n pt ms rx ry f) : R4R n0 d K Q I0 L0 T n pt ms rx ry (f + 1) := by
  intro dp i S s I L r hdp hS hi h hl hv hok hp hb hk
  rw [pS_4] at hp
  cases e0 : pS T n pt f 2 dp i with
  | none => rw [e0] at hp; cases hp
  | some r0 =>
    rw [e0] at hp
    refine h2 dp i [] S s I L r0 hdp (Or.inl rfl) hS hi h hl (Nat.zero_le _) hv hok e0 (fun e he => ?_) (fun j c hjc hno I2 L2 z2 => ?_)
    · rw [he] at hp; exact hb e (Option.some.inj hp).symm
    · rw [hjc] at hp e0
      have ps := pS_pos f 2 dp i j c hi e0
      have hp' : bnS (pS T n pt f 3 dp j) (fun i3 c3 => some (Sum.inr (i3, c ++ c3))) = some r := hp
      cases e1 : pS T n pt f 3 dp j with
      | none => rw [e1] at hp'; cases hp'
      | some r1 =>
        rw [e1] at hp'
        refine h3 dp j S (evs ms rx ry s c) I2 L2 r1 hdp hS ps.1 hno ⟨[], evs ms rx ry s c, Or.inl rfl, z2, rfl⟩ e1 (fun e he => ?_) (fun j2 c2 hjc2 hno2 I3 L3 z3 => ?_)
        · rw [he] at hp'; exact hb e (Option.some.inj hp').symm
        · rw [hjc2] at hp'
          refine hk j2 _ (Option.some.inj hp').symm hno2 I3 L3 ?_
          rw [evs_app]
          exact z3
theorem R_all (hM : MLay K) (hT : TxR I0 T n pt ms rx ry) (hbt : ∀ k, k < n → 0 ≤ (T k).toInt) : ∀ f, R0R n0 d K Q I0 L0 T n pt ms rx ry f ∧ R1R n0 d K Q I0 L0 T n pt ms rx ry f ∧ R2R n0 d K Q I0 L0 T n pt ms rx ry f ∧ R3R n0 d K Q I0 L0 T n pt ms rx ry f ∧ R4R n0 d K Q I0 L0 T n pt ms rx ry f ∧ R5R n0 d K Q I0 L0 T n pt ms rx ry f := by
  intro f
  induction f with
  | zero => exact ⟨fun _ _ _ _ _ _ _ _ _ _ _ _ _ h => (nomatch h), fun _ _ _ _ _ _ _ _ _ _ _ _ _ h => (nomatch h), fun _ _ _ _ _ _ _ _ _ _ _ _ _ _ _ _ _ h => (nomatch h), fun _ _ _ _ _ _ _ _ _ _ _ _ h => (nomatch h), fun _ _ _ _ _ _ _ _ _ _ _ _ _ _ h => (nomatch h), fun _ _ _ _ _ _ _ _ _ _ _ _ _ _ _ h => nomatch h⟩
  | succ f ih =>
    obtain ⟨h0, h1, h2, h3, h4, h5⟩ := ih
    exact ⟨R0s hM hT hbt h5, R1s hM hT h0 h1, R2s hM hT h0 h1, R3s hM hT h2 h3, R4s h2 h3, R5s hM hT h4⟩
end SIM
