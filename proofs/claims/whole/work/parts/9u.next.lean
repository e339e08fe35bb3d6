/-! the component's search through all orders -/
def dfG (E : lyE) (N m : Nat) (U : Nat → Bool) (T : Nat → Nat → Bool) (reach : Nat) (pl : Nat → Nat) (i : Nat) (b : lyB) : lyB := if U i = true then b else match plN E T i with
      | none => b
      | some n => dfs E N m (upF U i true) (putT T (E.2.2.1 i (n % 2)) (E.1 i) (n / 48) (n / 2 % 24)) (mxN reach (n / 48 + E.1 i)) (upF pl i n) b
theorem dfs_s {E : lyE} {N m : Nat} {U : Nat → Bool} {T : Nat → Nat → Bool} {reach : Nat} {pl : Nat → Nat} {b : lyB} : dfs E N (m + 1) U T reach pl b = fld (dfG E N m U T reach pl) N b := rfl
theorem dfs_le {E : lyE} {N : Nat} : ∀ m U T reach pl (b : lyB), (dfs E N m U T reach pl b).1 ≤ b.1 := by
  intro m
  induction m with
  | zero => intro U T reach pl b; show (lyF reach pl b).1 ≤ b.1; unfold lyF; split <;> (try simp only) <;> omega
  | succ m ih =>
    intro U T reach pl b
    rw [dfs_s]
    have : ∀ k, (fld (dfG E N m U T reach pl) k b).1 ≤ b.1 := by
      intro k
      induction k with
      | zero => exact Nat.le_refl _
      | succ k ihk =>
        refine Nat.le_trans ?_ ihk
        show (dfG E N m U T reach pl k _).1 ≤ _
        unfold dfG
        split
        · exact Nat.le_refl _
        · split
          · exact Nat.le_refl _
          · exact ih _ _ _ _ _
    exact this N
theorem dfG_le {E : lyE} {N m : Nat} {U : Nat → Bool} {T : Nat → Nat → Bool} {reach : Nat} {pl : Nat → Nat} {b : lyB} : ∀ k, (fld (dfG E N m U T reach pl) k b).1 ≤ b.1 := by
  intro k
  induction k with
  | zero => exact Nat.le_refl _
  | succ k ihk =>
    refine Nat.le_trans ?_ ihk
    show (dfG E N m U T reach pl k _).1 ≤ _
    unfold dfG
    split
    · exact Nat.le_refl _
    · split
      · exact Nat.le_refl _
      · exact dfs_le _ _ _ _ _ _
theorem cnt_le {f : Nat → Bool} : ∀ k, cntB f k ≤ k := by
  intro k
  induction k with
  | zero => exact Nat.le_refl _
  | succ k ih => show cntB f k + (if f k = true then 1 else 0) ≤ k + 1; split <;> omega
theorem cnt_all {f : Nat → Bool} : ∀ k, cntB f k = k → ∀ q, q < k → f q = true := by
  intro k
  induction k with
  | zero => intro _ q hq; omega
  | succ k ih =>
    intro h q hq
    have h' : cntB f k + (if f k = true then 1 else 0) = k + 1 := h
    have := cnt_le (f := f) k
    by_cases c : f k = true
    · rw [if_pos c] at h'
      by_cases e : q = k
      · subst e; exact c
      · exact ih (by omega) q (by omega)
    · rw [if_neg c] at h'; omega
theorem cnt_up {f : Nat → Bool} {i : Nat} (hf : f i = false) : ∀ k, cntB (upF f i true) k = cntB f k + if i < k then 1 else 0 := by
  intro k
  induction k with
  | zero => rfl
  | succ k ih =>
    show cntB (upF f i true) k + (if upF f i true k = true then 1 else 0) = cntB f k + (if f k = true then 1 else 0) + _
    rw [ih]
    by_cases e : k = i
    · subst e; rw [upF_s, hf, if_pos rfl, if_neg (Nat.lt_irrefl _), if_neg (by decide), if_pos (by omega)]
    · rw [upF_n e]
      by_cases c : i < k
      · rw [if_pos c, if_pos (show i < k + 1 by omega)]; omega
      · rw [if_neg c, if_neg (show ¬ i < k + 1 by omega)]; omega
/-- the best, as the component keeps it -/
def PlB (I : z_I) (N : Nat) (b : lyB) : Prop := b.1 < 97 → ∀ j, j < N → I 34 (j * 3) = nI (b.2 j / 48) ∧ I 34 (j * 3 + 1) = nI (b.2 j / 2 % 24) ∧ I 34 (j * 3 + 2) = nI (b.2 j % 2)
section LNX
variable {n0 d N : Nat} {K : z_K} {I I' : z_I} {L : z_L} {Q : z_q} {E : lyE}
theorem PlI.fr {a b c j n : Nat} (h : PlI I a b c j n) (e1 : I' a j = I a j) (e2 : I' b j = I b j) (e3 : I' c j = I c j) : PlI I' a b c j n := by
  unfold PlI; rw [e1, e2, e3]; exact h
theorem c4_keepBest {p0 : Int32} {pl : Nat → Nat} (hE : LyC K I E N) (hp : ∀ j, j < N → PlI I 31 32 33 j (pl j))
    (h : ∀ I', Fz (fun a j => a = 34 ∨ (a = 25 ∧ j = 10)) I I' → I' 25 10 = p0 → (∀ j, j < N → I' 34 (j * 3) = nI (pl j / 48) ∧ I' 34 (j * 3 + 1) = nI (pl j / 2 % 24) ∧ I' 34 (j * 3 + 2) = nI (pl j % 2)) → Q none I' L) : RM0 n0 xX4_keepBest d [.ref (n0 + 25), .int p0] K I L Q := by
  have hN := hE.2.1.1
  have lp : ∀ w k I1, k + w = N → Fz (fun a j => a = 34 ∨ (a = 25 ∧ j = 10)) I I1 → I1 25 10 = p0 → (∀ j, j < k → I1 34 (j * 3) = nI (pl j / 48) ∧ I1 34 (j * 3 + 1) = nI (pl j / 2 % 24) ∧ I1 34 (j * 3 + 2) = nI (pl j % 2)) → Z n0 xX4_keepBest d 0 0 7 [(0, .ref (n0 + 25)), (2, .int (nI k))] [] K I1 L (z_q0 K Q) := by
    intro w
    induction w with
    | zero =>
      intro k I1 hk f1 e1 v1
      refine wp_X4_keepBest_7 hE.1 ?_
      rw [f1 25 4 (by omega), hE.2.2.1]
      refine iq (fun z => by have := (q_nlt (by omega) (by omega)).mp z; omega) (h I1 f1 e1 (fun j hj => v1 j (by omega)))
    | succ w ih =>
      intro k I1 hk f1 e1 v1
      obtain ⟨p1, p2, p3⟩ := hp k (by omega)
      have m0 : nI k * 3 = nI (k * 3) := q_nmul (b := 3)
      have m1 : nI (k * 3) + 1 = nI (k * 3 + 1) := q_nadd (b := 1)
      have m2 : nI (k * 3) + 2 = nI (k * 3 + 2) := q_nadd (b := 2)
      refine wp_X4_keepBest_7 hE.1 ?_
      rw [f1 25 4 (by omega), hE.2.2.1, m0, m1, m2]
      refine ip (nI_lt (by omega) (by omega)) ⟨q_inn (by omega) (by omega), q_inn (by omega) (by omega), q_inn (by omega) (by omega), q_inn (by omega) (by omega), ?_⟩
      rw [q_cl (n := k) (by omega), q_cl (n := k * 3) (by omega), q_cl (n := k * 3 + 1) (by omega), q_cl (n := k * 3 + 2) (by omega), ← nI_succ]
      (repeat (first | rw [zI_r (by omega : (32 : Nat) ≠ 34)] | rw [zI_r (by omega : (33 : Nat) ≠ 34)]))
      rw [f1 31 k (by omega), f1 32 k (by omega), f1 33 k (by omega), p1, p2, p3]
      refine ih (k + 1) _ (by omega) (((f1.z (Or.inl rfl)).z (Or.inl rfl)).z (Or.inl rfl)) (by rw [zI_r (by omega), zI_r (by omega), zI_r (by omega)]; exact e1) (fun j hj => ?_)
      by_cases e : j = k
      · subst e
        refine ⟨?_, ?_, zI_s⟩
        · rw [zI_d (by omega), zI_d (by omega), zI_s]
        · rw [zI_d (by omega), zI_s]
      · have v := v1 j (by omega)
        rw [zI_d (by omega), zI_d (by omega), zI_d (by omega), zI_d (by omega), zI_d (by omega), zI_d (by omega), zI_d (by omega), zI_d (by omega), zI_d (by omega)]
        exact v
  refine wp_X4_keepBest hE.1 (lp N 0 _ (by omega) (Fz.rfl'.z (Or.inr ⟨rfl, rfl⟩)) zI_s (fun j hj => by omega))
theorem plN_ok {T : Nat → Nat → Bool} {i n : Nat} (h : plN E T i = some n) : okP E T i (n / 48) (n / 2 % 24) (n % 2) := of_decide_eq_true (frs_t 4608 0 h)
theorem c4_layNext : ∀ m laid U u T reach pl (b : lyB) (I : z_I) (Q : z_q), laid + m = N → LyC K I E N → (∀ i, i < N → tb u i = U i) → cntB U N = laid → TkI I 30 T → (∀ j, j < N → U j = true → PlI I 31 32 33 j (pl j)) → I 25 10 = nI b.1 → b.1 ≤ 97 → PlB I N b → reach ≤ 96 →
    (∀ I', Fz lyQ I I' → TkI I' 30 T → (∀ j, j < N → U j = true → PlI I' 31 32 33 j (pl j)) → I' 25 10 = nI (dfs E N m U T reach pl b).1 → PlB I' N (dfs E N m U T reach pl b) → Q none I' L) →
    RM0 n0 xX4_layNext (d + m + 3) [.ref (n0 + 25), .int (nI laid), .int u, .int (nI reach)] K I L Q := by
  intro m
  induction m with
  | zero =>
    intro laid U u T reach pl b I Q hl hE hu hcn hT hp hb hb9 hB hre h
    have hN := hE.2.1.1
    refine wp_X4_layNext hE.1 ?_
    rw [hb, hE.2.2.1]
    by_cases g : reach < b.1
    · refine ip (nI_lt g (by omega)) (iq (fun z => by have := (q_nlt (by omega) (by omega)).mp z; omega) ?_)
      have all := cnt_all N (by omega : cntB U N = N)
      refine c4_keepBest hE (fun j hj => hp j hj (all j hj)) (fun I' f' e' v' => ⟨rfl, ?_⟩)
      have ed : dfs E N 0 U T reach pl b = (reach, pl) := by show lyF reach pl b = _; unfold lyF; rw [if_pos g]
      rw [ed] at h
      refine h I' (f'.mono (fun a j z => by unfold lyQ; omega)) (hT.fr (funext fun j => f' 30 j (by omega))) (fun j hj hU => (hp j hj hU).fr (f' 31 j (by omega)) (f' 32 j (by omega)) (f' 33 j (by omega))) e' (fun _ => v')
    · refine iq (fun z => g ((q_nlt (by omega) (by omega)).mp z)) ?_
      have ed := dfs_pr (E := E) (N := N) 0 U T reach pl b (by omega)
      rw [ed] at h
      exact h I Fz.rfl' hT hp hb hB
  | succ m ih =>
    intro laid U u T reach pl b I Q hl hE hu hcn hT hp hb hb9 hB hre h
    have hN := hE.2.1.1
    refine wp_X4_layNext (d := d + m + 3) hE.1 ?_
    rw [hb, hE.2.2.1]
    by_cases g : reach < b.1
    · refine ip (nI_lt g (by omega)) (ip (nI_lt (by omega) (by omega)) ?_)
      rw [dfs_s] at h
      have lp : ∀ w i I1, i + w = N → Fz lyQ I I1 → TkI I1 30 T → (∀ j, j < N → U j = true → PlI I1 31 32 33 j (pl j)) → I1 25 10 = nI (fld (dfG E N m U T reach pl) i b).1 → PlB I1 N (fld (dfG E N m U T reach pl) i b) → Z n0 xX4_layNext (d + m + 3 + 1) 0 0 26 [(0, .ref (n0 + 25)), (1, .int (nI laid)), (2, .int u), (3, .int (nI reach)), (4, .int (nI i))] [] K I1 L (z_q0 K Q) := by
        intro w
        induction w with
        | zero =>
          intro i I1 hi f1 t1 p1 b1 B1
          have hE1 := hE.fr f1
          refine wp_X4_layNext_26 hE.1 ?_
          rw [hE1.2.2.1]
          rw [show i = N by omega] at b1 B1 ⊢
          exact iq (fun z => by have := q_lt.mp z; omega) (h I1 f1 t1 p1 b1 B1)
        | succ w ihw =>
          intro i I1 hi f1 t1 p1 b1 B1
          have hE1 := hE.fr f1
          have hiN : i < N := by omega
          have hle := dfG_le (E := E) (N := N) (m := m) (U := U) (T := T) (reach := reach) (pl := pl) (b := b) i
          refine wp_X4_layNext_26 hE.1 ?_
          rw [hE1.2.2.1]
          refine ip (nI_lt (by omega) (by omega)) ?_
          rw [tb_shr (by omega), ← nI_succ (n := i), hu i hiN]
          have es : fld (dfG E N m U T reach pl) (i + 1) b = dfG E N m U T reach pl i (fld (dfG E N m U T reach pl) i b) := rfl
          by_cases gu : U i = true
          · refine iq (fun y => bI_0.mp y gu) (ihw (i + 1) I1 (by omega) f1 t1 p1 ?_ ?_)
            · rw [es]; unfold dfG; rw [if_pos gu]; exact b1
            · rw [es]; unfold dfG; rw [if_pos gu]; exact B1
          · have guf : U i = false := by simpa using gu
            refine ip (bI_0.mpr gu) (c4_findPlace (d := d + m + 1) hE1 hiN t1 (fun n I2 en f2 v2 => ⟨_, rfl, ?_⟩) (fun I2 en f2 => ⟨_, rfl, ?_⟩))
            · obtain ⟨k1, k2, k3, _⟩ := plN_ok en
              have f2q : Fz lyQ I1 I2 := f2.mono (fun a j z => by unfold pkS at z; unfold lyQ; omega)
              have hE2 := hE1.fr f2q
              have hcw := hE.2.1.2.2.1
              have hh := (hE.2.1.2.1 i hiN).2.1
              have t2 : TkI I2 30 T := t1.fr (funext fun j => f2 30 j (by unfold pkS; omega))
              refine iq (by decide) (c4_flip (d := d + m + 2) hE2 hiN v2.1 v2.2.1 v2.2.2 k1 (by omega) k3 t2 (fun I3 f3 t3 => ⟨rfl, q_inn (by omega) (by omega), 36 + 3 * i, ?_, ?_, ?_, ?_⟩))
              · rw [q_cl (by omega)]; exact (hE.2.2.2.2 i hiN).1
              · have := (hE.2.2.2.2 i hiN).2.1.2.2.1; omega
              · exact (hE.2.2.2.2 i hiN).2.1.2.2.2.1
              · have f3q : Fz lyQ I2 I3 := f3.mono (fun a j z => by unfold lyQ; omega)
                have hE3 := hE2.fr f3q
                have v3 : PlI I3 31 32 33 i n := v2.fr (f3 31 i (by omega)) (f3 32 i (by omega)) (f3 33 i (by omega))
                rw [q_cl (by omega), v3.1, (hE3.2.2.2.2 i hiN).2.2.1, q_nadd, n_if (by omega) (by omega)]
                rw [← nI_succ (n := laid)]
                refine ih (laid + 1) (upF U i true) (u ||| ((1 : Int32) <<< (nI i &&& 31 : Int32))) (putT T (E.2.2.1 i (n % 2)) (E.1 i) (n / 48) (n / 2 % 24)) (mxN reach (n / 48 + E.1 i)) (upF pl i n) (fld (dfG E N m U T reach pl) i b) I3 _ (by omega) hE3 (fun j hj => ?_) ?_ t3 (fun j hj hU => ?_) ?_ (by omega) ?_ ?_ (fun I4 f4 t4 p4 b4 B4 => ⟨rfl, ?_⟩)
                · rw [tb_or, tb_one (by omega) (by omega), hu j hj]
                  by_cases e : j = i
                  · subst e; rw [upF_s, decide_eq_true rfl, Bool.or_true]
                  · rw [upF_n e, decide_eq_false e, Bool.or_false]
                · rw [cnt_up guf, if_pos hiN, hcn]
                · by_cases e : j = i
                  · subst e; rw [upF_s]; exact v3
                  · rw [upF_n e] at hU ⊢
                    have p := p1 j hj hU
                    exact (p.fr (f2 31 j (by unfold pkS; omega)) (f2 32 j (by unfold pkS; omega)) (f2 33 j (by unfold pkS; omega))).fr (f3 31 j (by omega)) (f3 32 j (by omega)) (f3 33 j (by omega))
                · rw [f3 25 10 (by omega), f2 25 10 (by unfold pkS; omega)]; exact b1
                · intro z j hj
                  rw [f3 34 _ (by omega), f3 34 _ (by omega), f3 34 _ (by omega), f2 34 _ (by unfold pkS; omega), f2 34 _ (by unfold pkS; omega), f2 34 _ (by unfold pkS; omega)]
                  exact B1 z j hj
                · unfold mxN; split <;> omega
                · have hE4 := hE3.fr f4
                  have v4 := p4 i hiN upF_s
                  rw [upF_s] at v4
                  refine c4_flip (d := d + m + 2) hE4 hiN v4.1 v4.2.1 v4.2.2 k1 (by omega) k3 t4 (fun I5 f5 t5 => ⟨rfl, ?_⟩)
                  rw [putT_2] at t5
                  have f5q : Fz lyQ I4 I5 := f5.mono (fun a j z => by unfold lyQ; omega)
                  have ed : dfG E N m U T reach pl i (fld (dfG E N m U T reach pl) i b) = dfs E N m (upF U i true) (putT T (E.2.2.1 i (n % 2)) (E.1 i) (n / 48) (n / 2 % 24)) (mxN reach (n / 48 + E.1 i)) (upF pl i n) (fld (dfG E N m U T reach pl) i b) := by
                    show (if U i = true then _ else _) = _
                    rw [if_neg gu, en]
                  refine ihw (i + 1) I5 (by omega) ((((f1.trans f2q).trans f3q).trans f4).trans f5q) t5 (fun j hj hU => ?_) ?_ ?_
                  · have ne : j ≠ i := fun e => gu (e ▸ hU)
                    have p := p4 j hj (by rw [upF_n ne]; exact hU)
                    rw [upF_n ne] at p
                    exact p.fr (f5 31 j (by omega)) (f5 32 j (by omega)) (f5 33 j (by omega))
                  · rw [es, ed, f5 25 10 (by omega)]; exact b4
                  · rw [es, ed]
                    intro z j hj
                    rw [f5 34 _ (by omega), f5 34 _ (by omega), f5 34 _ (by omega)]
                    exact B4 z j hj
            · have f2q : Fz lyQ I1 I2 := f2.mono (fun a j z => by unfold pkS at z; unfold lyQ; omega)
              have ed : dfG E N m U T reach pl i (fld (dfG E N m U T reach pl) i b) = fld (dfG E N m U T reach pl) i b := by
                show (if U i = true then _ else _) = _
                rw [if_neg gu, en]
              refine ip rfl (ihw (i + 1) I2 (by omega) (f1.trans f2q) (t1.fr (funext fun j => f2 30 j (by unfold pkS; omega))) (fun j hj hU => ?_) ?_ ?_)
              · have ne : j ≠ i := fun e => gu (e ▸ hU)
                exact (p1 j hj hU).fr (f2 31 j (by unfold pkS; omega)) (f2 32 j (by unfold pkS; omega)) (f2 33 j (by unfold pkS; omega))
              · rw [es, ed, f2 25 10 (by unfold pkS; omega)]; exact b1
              · rw [es, ed]
                intro z j hj
                rw [f2 34 _ (by unfold pkS; omega), f2 34 _ (by unfold pkS; omega), f2 34 _ (by unfold pkS; omega)]
                exact B1 z j hj
      exact lp N 0 I (by omega) Fz.rfl' hT hp hb hB
    · refine iq (fun z => g ((q_nlt (by omega) (by omega)).mp z)) ?_
      have ed := dfs_pr (E := E) (N := N) (m + 1) U T reach pl b (by omega)
      rw [ed] at h
      exact h I Fz.rfl' hT hp hb hB
end LNX
