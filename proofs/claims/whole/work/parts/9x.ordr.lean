/-! the reference's orders -/
def skO (U : Nat → Bool) : Nat → Nat → Nat → Option Nat
  | 0, _, _ => none
  | f + 1, k, s => if U k = true then skO U f (k + 1) s else if 0 < s then skO U f (k + 1) (s - 1) else some k
def foO (N : Nat) : Nat → Nat → Nat → Nat → (Nat → Bool) → Option (List Nat)
  | 0, _, _, _, _ => some []
  | m + 1, i, left, unit, U => if 0 < unit then match skO U 8 0 (left / unit) with
      | none => none
      | some k => if k < N then match foO N m (i + 1) (left % unit) (if 0 < N - i - 2 then unit / (N - i - 1) else 1) (upF U k true) with
          | none => none
          | some l => some (k :: l)
        else none
    else none
def ordN (N way : Nat) : List Nat := (foO N N 0 way (unM N) (fun _ => false)).getD []
theorem ord_all : ∀ N, N < 5 → 0 < N → ords N N (fun _ => false) = (List.range (wyM N)).map (ordN N) := by decide
theorem ord_1 : ∀ N, N < 5 → 0 < N → ∀ way, way < wyM N → foO N N 0 way (unM N) (fun _ => false) = some (ordN N way) := by decide
theorem ord_3 : ∀ N, N < 5 → 0 < N → ∀ way, way < wyM N → (ordN N way).length = N ∧ (List.range N).all (fun j => (ordN N way).elem j) = true ∧ (ordN N way).all (fun j => decide (j < N)) = true := by decide
theorem ord_2 {N : Nat} (h5 : N < 5) (h : 0 < N) {way : Nat} (hw : way < wyM N) : (ordN N way).length = N ∧ (∀ j, j < N → j ∈ ordN N way) ∧ ∀ j, j ∈ ordN N way → j < N := by
  obtain ⟨h1, h2, h3⟩ := ord_3 N h5 h way hw
  refine ⟨h1, fun j hj => ?_, fun j hj => ?_⟩
  · have := List.all_eq_true.mp h2 j (List.mem_range.mpr hj)
    exact List.elem_iff.mp this
  · exact of_decide_eq_true (List.all_eq_true.mp h3 j hj)
/-- the best of the orders below a number -/
def wyF (E : lyE) (N way : Nat) (b : lyB) : lyB := lyO (rnL E (ordN N way) (fun _ _ => false, 0, fun _ => 0)) b
theorem lyR_f {E : lyE} {N : Nat} (h : 0 < N) (h5 : N < 5) : lyR E N = fld (wyF E N) (wyM N) (97, fun _ => 0) := by
  unfold lyR
  rw [dfs_l, ord_all N h5 h, List.foldl_map, fld_l]
  rfl
section FOR
variable {n0 d N : Nat} {K : z_K} {I I' : z_I} {L : z_L} {Q : z_q} {E : lyE} {T : Nat → Nat → Bool} {i : Nat}
theorem skO_b {U : Nat → Bool} {k' : Nat} : ∀ f k s, skO U f k s = some k' → k ≤ k' ∧ k' < k + f := by
  intro f
  induction f with
  | zero => intro k s h; cases h
  | succ f ih =>
    intro k s h
    unfold skO at h
    split at h
    · have := ih _ _ h; omega
    · split at h
      · have := ih _ _ h; omega
      · cases h; omega
theorem c13_fo88 {U : Nat → Bool} {u a2 a4 : Int32} {k' : Nat} (hM : MLay K) (hi : i < 4) (hu : ∀ q, q < 32 → tb u q = U q)
    (h : Z n0 xX13_findOrder d 0 0 35 [(0, .ref (n0 + 59)), (2, .int a2), (3, .int (u ||| ((1 : Int32) <<< (nI k' &&& 31 : Int32)))), (4, .int a4), (5, .int (nI (i + 1)))] [] K (zI I 131 i (nI k')) L (z_q0 K Q)) :
    ∀ f k s, k + f ≤ 30 → s < 1000 → skO U f k s = some k' → Z n0 xX13_findOrder d 0 0 88 [(0, .ref (n0 + 59)), (2, .int a2), (3, .int u), (4, .int a4), (5, .int (nI i)), (6, .int (nI s)), (7, .int (nI k))] [] K I L (z_q0 K Q) := by
  intro f
  induction f with
  | zero => intro k s _ _ e; cases e
  | succ f ih =>
    intro k s hk hs e
    unfold skO at e
    refine wp_X13_findOrder_88 hM ?_
    rw [tb_shr (by omega), hu k (by omega), ← nI_succ, ← nI_succ]
    by_cases g : U k = true
    · rw [if_pos g] at e
      refine ip (by rw [bI_t g]) ?_
      rw [bI_t g, if_pos rfl, show nI s - 0 = nI s from by rw [Int32.sub_zero]]
      exact ih (k + 1) s (by omega) hs e
    · rw [if_neg g] at e
      refine iq (by rw [bI_f g]; decide) ?_
      by_cases g2 : 0 < s
      · rw [if_pos g2] at e
        refine ip (nI_lt (a := 0) g2 (by omega)) ?_
        rw [bI_f g, if_neg (by decide)]
        have : nI s - 1 = nI (s - 1) := by
          have := nI_prev (e := s - 1)
          rw [show s - 1 + 1 = s by omega] at this
          exact this
        rw [this]
        exact ih (k + 1) (s - 1) (by omega) (by omega) e
      · rw [if_neg g2] at e
        cases e
        refine iq (fun z => g2 ((q_nlt (a := 0) (by omega) (by omega)).mp z)) ⟨q_inn (by omega) (by omega), ?_⟩
        rw [q_cl (by omega)]
        exact h
theorem c13_fo35 (hM : MLay K) (hN : N ≤ 4) (h89 : I 59 89 = nI N) :
    ∀ m i left unit (U : Nat → Bool) (u : Int32) (l : List Nat) (I1 : z_I), i + m = N → left < 1000 → unit < 1000 → (∀ q, q < 32 → tb u q = U q) → Fz (fun a _ => a = 131) I I1 → foO N m i left unit U = some l →
    (∀ I', Fz (fun a _ => a = 131) I I' → (∀ j, j < i → I' 131 j = I1 131 j) → (∀ j x, l[j]? = some x → I' 131 (i + j) = nI x) → Q none I' L) →
    Z n0 xX13_findOrder d 0 0 35 [(0, .ref (n0 + 59)), (2, .int (nI left)), (3, .int u), (4, .int (nI unit)), (5, .int (nI i))] [] K I1 L (z_q0 K Q) := by
  intro m
  induction m with
  | zero =>
    intro i left unit U u l I1 hi h1 h2 hu f1 e h
    refine wp_X13_findOrder_35 hM ?_
    rw [f1 59 89 (by omega), h89]
    cases e
    exact iq (fun z => by have := (q_nlt (by omega) (by omega)).mp z; omega) (h I1 f1 (fun _ _ => rfl) (fun j x z => by simp at z))
  | succ m ih =>
    intro i left unit U u l I1 hi h1 h2 hu f1 e h
    unfold foO at e
    by_cases gu : 0 < unit
    · rw [if_pos gu] at e
      cases ek : skO U 8 0 (left / unit) with
      | none => rw [ek] at e; cases e
      | some k =>
        rw [ek] at e
        simp only at e
        by_cases gk : k < N
        · rw [if_pos gk] at e
          cases el : foO N m (i + 1) (left % unit) (if 0 < N - i - 2 then unit / (N - i - 1) else 1) (upF U k true) with
          | none => rw [el] at e; cases e
          | some l' =>
            rw [el] at e
            cases e
            have hdl : left / unit ≤ left := Nat.div_le_self _ _
            have hml : left % unit ≤ left := Nat.mod_le _ _
            have s1 : nI N - nI i = nI (N - i) := by
              have := nI_sb (a := i) (b := N - i)
              rw [show i + (N - i) = N by omega] at this
              exact this
            refine wp_X13_findOrder_35 hM ?_
            rw [f1 59 89 (by omega), h89, s1]
            have e4 : (if (0 : Int32) < nI (N - i) - 2 then nI unit / (nI (N - i) - 1) else 1) = nI (if 0 < N - i - 2 then unit / (N - i - 1) else 1) := by
              have hx : N - i = 1 ∨ N - i = 2 ∨ N - i = 3 ∨ N - i = 4 := by omega
              rcases hx with x | x | x | x
              · rw [x]; rfl
              · rw [x]; rfl
              · rw [x, if_pos (by decide), if_pos (by decide)]; exact q_ndiv (b := 2) (by omega) (by omega)
              · rw [x, if_pos (by decide), if_pos (by decide)]; exact q_ndiv (b := 3) (by omega) (by omega)
            have hub : (if 0 < N - i - 2 then unit / (N - i - 1) else 1) < 1000 := by
              split
              · exact Nat.lt_of_le_of_lt (Nat.div_le_self _ _) h2
              · omega
            refine ip (nI_lt (by omega) (by omega)) ⟨fun z => by have := (q_ni (b := 0) (by omega) (by omega)).mp z; omega, fun z1 z2 => ?_, ?_⟩
            · have hx : N - i = 1 ∨ N - i = 2 ∨ N - i = 3 ∨ N - i = 4 := by omega
              rcases hx with x | x | x | x
              · rw [x] at z1; exact absurd z1 (by decide)
              · rw [x] at z1; exact absurd z1 (by decide)
              · rw [x] at z2; exact absurd z2 (by decide)
              · rw [x] at z2; exact absurd z2 (by decide)
            · rw [q_nmd (by omega) (by omega), q_ndiv (by omega) (by omega), e4]
              have hk8 := skO_b 8 0 _ ek
              refine c13_fo88 (k' := k) (U := U) hM (by omega) hu ?_ 8 0 (left / unit) (by omega) (by omega) ek
              refine ih (i + 1) (left % unit) _ (upF U k true) _ l' (zI I1 131 i (nI k)) (by omega) (by omega) hub (fun q hq => ?_) (Fz.z (S := fun a _ => a = 131) f1 rfl) el (fun I' f' p' v' => ?_)
              · rw [tb_or, hu q hq, tb_one (by omega) hq]
                by_cases e : q = k
                · subst e; rw [upF_s, decide_eq_true rfl, Bool.or_true]
                · rw [upF_n e, decide_eq_false e, Bool.or_false]
              · refine h I' f' (fun j hj => by rw [p' j (by omega), zI_d (by omega)]) (fun j x hx => ?_)
                cases j with
                | zero =>
                  rw [List.getElem?_cons_zero] at hx
                  cases hx
                  rw [Nat.add_zero, p' i (by omega), zI_s]
                | succ j =>
                  rw [List.getElem?_cons_succ] at hx
                  rw [show i + (j + 1) = i + 1 + j by omega]
                  exact v' j x hx
        · rw [if_neg gk] at e; cases e
    · rw [if_neg gu] at e; cases e
theorem c13_findOrder {way : Nat} (hM : MLay K) (h5 : N < 5) (h0 : 0 < N) (hw : way < wyM N) (h89 : I 59 89 = nI N) (h : ∀ I', Fz (fun a _ => a = 131) I I' → (∀ j x, (ordN N way)[j]? = some x → I' 131 j = nI x) → Q none I' L) : RM0 n0 xX13_findOrder d [.ref (n0 + 59), .int (nI way)] K I L Q := by
  have hwm : wyM N ≤ 24 := by unfold wyM; split <;> (try split) <;> (try split) <;> omega
  have hum : unM N < 1000 := by unfold unM; split <;> (try split) <;> omega
  have eu : (if nI N = (4 : Int32) then (6 : Int32) else if nI N = (3 : Int32) then 2 else 1) = nI (unM N) := by
    have hx : N = 1 ∨ N = 2 ∨ N = 3 ∨ N = 4 := by omega
    rcases hx with x | x | x | x <;> rw [x] <;> rfl
  refine wp_X13_findOrder hM ?_
  rw [h89, eu]
  refine c13_fo35 hM (by omega) h89 N 0 way (unM N) (fun _ => false) 0 (ordN N way) I (by omega) (by omega) hum (fun q _ => tb_0) Fz.rfl' (ord_1 N h5 h0 way hw) (fun I' f' _ v' => h I' f' (fun j x hx => ?_))
  have := v' j x hx
  rw [Nat.zero_add] at this
  exact this
end FOR
