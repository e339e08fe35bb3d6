/-! codes that are well made, and the component's working of them -/
def okU (j : Nat) (u : Int32) : Prop := (∃ k, k < 10008 ∧ u = nI k) ∨ (∃ k, k < j ∧ u = nI (10010 + k)) ∨ ∃ k, k < j ∧ u = nI (10020 + k)
def wfC (j : Nat) : List Int32 → Nat → Nat → Prop
  | [], m, m' => m' = m
  | u :: c, m, m' => (okU j u ∧ wfC j c (m + 1) m') ∨ (u = 10034 ∧ 1 ≤ m ∧ wfC j c m m') ∨ ((u = 10030 ∨ u = 10031 ∨ u = 10032 ∨ u = 10033) ∧ 2 ≤ m ∧ wfC j c (m - 1) m')
section WF
variable {ms rx ry rx' ry' : Nat → Int32} {s : Bool × List Int64 × Int32 × Int32} {T : Nat → Int32} {n j : Nat}
theorem wf_app : ∀ (c c' : List Int32) (m m1 m2 : Nat), wfC j c m m1 → wfC j c' m1 m2 → wfC j (c ++ c') m m2 := by
  intro c
  induction c with
  | nil => intro c' m m1 m2 h h2; have h' : m1 = m := h; subst h'; exact h2
  | cons u c ih =>
    intro c' m m1 m2 h h2
    rcases h with ⟨a, b⟩ | ⟨a, b, e⟩ | ⟨a, b, e⟩
    · exact Or.inl ⟨a, ih c' _ _ _ b h2⟩
    · exact Or.inr (Or.inl ⟨a, b, ih c' _ _ _ e h2⟩)
    · exact Or.inr (Or.inr ⟨a, b, ih c' _ _ _ e h2⟩)
theorem wf_u {u : Int32} {m : Nat} (h : okU j u) : wfC j [u] m (m + 1) := Or.inl ⟨h, rfl⟩
theorem wf_o {u : Int32} {m : Nat} (h : u = 10030 ∨ u = 10031 ∨ u = 10032 ∨ u = 10033) (hm : 1 ≤ m) : wfC j [u] (m + 1) m := Or.inr (Or.inr ⟨h, by omega, rfl⟩)
theorem pS_wf (hj : j ≤ 10) : ∀ f kd d i q c, pS T n (nI j) f kd d i = some (Sum.inr (q, c)) → ∀ m, (kd ≠ 1 → kd ≠ 3 → wfC j c m (m + 1)) ∧ (1 ≤ m → (kd = 1 ∨ kd = 3) → wfC j c m m) := by
  intro f
  induction f with
  | zero => intro kd d i q c h; cases h
  | succ f ih =>
    intro kd d i q c h m
    by_cases k0 : kd = 0
    · subst k0
      refine ⟨fun _ _ => ?_, fun _ z => absurd z (by decide)⟩
      rw [pS_0] at h
      by_cases g1 : ¬ nxT T n i < 48 ∧ ¬ 57 < nxT T n i
      · rw [if_pos g1] at h
        have h' := Prod.mk.inj (Sum.inr.inj (Option.some.inj h))
        rw [← h'.2]
        obtain ⟨b, hb, hb2⟩ := numR_v (T := T) (n := n) 4 i 0 (by decide) (by decide)
        exact wf_u (Or.inl ⟨b, by omega, hb⟩)
      · rw [if_neg g1] at h
        by_cases g2 : ¬ nxT T n i < 97 ∧ nxT T n i < 105
        · rw [if_pos g2] at h
          have h' := Prod.mk.inj (Sum.inr.inj (Option.some.inj h))
          rw [← h'.2]
          have h1 := mt q_lt.mpr g2.1
          have h2 := q_lt.mp g2.2
          have e1 : (97 : Int32).toInt = 97 := rfl
          have e2 : (105 : Int32).toInt = 105 := rfl
          obtain ⟨t, em, hm, em2⟩ := q_of (show 0 ≤ (nxT T n i).toInt by omega)
          refine wf_u (Or.inl ⟨10000 + t - 97, by omega, ?_⟩)
          rw [em, show (10000 : Int32) = nI 10000 from rfl, q_nadd, show (97 : Int32) = nI 97 from rfl, q_nsub (by omega)]
        · rw [if_neg g2] at h
          by_cases g3 : nxT T n i = 120 ∨ nxT T n i = 121
          · rw [if_pos g3] at h
            by_cases g4 : (nxT T n (i + 1) - 48 < 0 ∨ 9 < nxT T n (i + 1) - 48) ∨ ¬ nxT T n (i + 1) - 48 < nI j
            · rw [if_pos g4] at h; cases h
            · rw [if_neg g4] at h
              have h' := Prod.mk.inj (Sum.inr.inj (Option.some.inj h))
              rw [← h'.2]
              have h1 := mt q_lt.mpr (fun z => g4 (Or.inl (Or.inl z)))
              have h3 : nxT T n (i + 1) - 48 < nI j := Classical.byContradiction (fun z => g4 (Or.inr z))
              have h3' := q_lt.mp h3
              rw [q_nI (by omega)] at h3'
              have e1 : (0 : Int32).toInt = 0 := rfl
              obtain ⟨t, em, hm, em2⟩ := q_of (show 0 ≤ (nxT T n (i + 1) - 48).toInt by omega)
              rw [em]
              by_cases g5 : nxT T n i = 120
              · rw [if_pos g5]
                refine wf_u (Or.inr (Or.inl ⟨t, by omega, ?_⟩))
                rw [← q_nadd]; rfl
              · rw [if_neg g5]
                refine wf_u (Or.inr (Or.inr ⟨t, by omega, ?_⟩))
                rw [← q_nadd]; rfl
          · rw [if_neg g3] at h
            by_cases g5 : nxT T n i = 114
            · rw [if_pos g5] at h
              obtain ⟨j1, c1, e1, h⟩ := bn_s h
              have h' := Prod.mk.inj (Sum.inr.inj (Option.some.inj h))
              rw [← h'.2]
              exact wf_app _ _ _ _ _ ((ih 5 d (i + 1) j1 c1 e1 m).1 (by decide) (by decide)) (Or.inr (Or.inl ⟨rfl, by omega, rfl⟩))
            · rw [if_neg g5] at h
              exact (ih 5 d i q c h m).1 (by decide) (by decide)
    by_cases k1 : kd = 1
    · subst k1
      refine ⟨fun z => absurd rfl z, fun hm _ => ?_⟩
      rw [pS_1] at h
      by_cases g : nxT T n i = 42 ∨ nxT T n i = 47
      · rw [if_pos g] at h
        obtain ⟨j1, c1, e1, h⟩ := bn_s h
        obtain ⟨j2, c2, e2, h⟩ := bn_s h
        have h' := Prod.mk.inj (Sum.inr.inj (Option.some.inj h))
        rw [← h'.2]
        refine wf_app _ _ _ m _ (wf_app _ _ _ _ _ ((ih 0 d (i + 1) j1 c1 e1 m).1 (by decide) (by decide)) (wf_o (by split <;> decide) hm)) ((ih 1 d j1 j2 c2 e2 m).2 hm (Or.inl rfl))
      · rw [if_neg g] at h
        have h' := Prod.mk.inj (Sum.inr.inj (Option.some.inj h))
        rw [← h'.2]; rfl
    by_cases k2 : kd = 2
    · subst k2
      refine ⟨fun _ _ => ?_, fun _ z => absurd z (by decide)⟩
      rw [pS_2] at h
      obtain ⟨j1, c1, e1, h⟩ := bn_s h
      obtain ⟨j2, c2, e2, h⟩ := bn_s h
      have h' := Prod.mk.inj (Sum.inr.inj (Option.some.inj h))
      rw [← h'.2]
      exact wf_app _ _ _ _ _ ((ih 0 d i j1 c1 e1 m).1 (by decide) (by decide)) ((ih 1 d j1 j2 c2 e2 (m + 1)).2 (by omega) (Or.inl rfl))
    by_cases k3 : kd = 3
    · subst k3
      refine ⟨fun _ z => absurd rfl z, fun hm _ => ?_⟩
      rw [pS_3] at h
      by_cases g : nxT T n i = 43 ∨ nxT T n i = 45
      · rw [if_pos g] at h
        obtain ⟨j1, c1, e1, h⟩ := bn_s h
        obtain ⟨j2, c2, e2, h⟩ := bn_s h
        have h' := Prod.mk.inj (Sum.inr.inj (Option.some.inj h))
        rw [← h'.2]
        refine wf_app _ _ _ m _ (wf_app _ _ _ _ _ ((ih 2 d (i + 1) j1 c1 e1 m).1 (by decide) (by decide)) (wf_o (by split <;> decide) hm)) ((ih 3 d j1 j2 c2 e2 m).2 hm (Or.inr rfl))
      · rw [if_neg g] at h
        have h' := Prod.mk.inj (Sum.inr.inj (Option.some.inj h))
        rw [← h'.2]; rfl
    by_cases k4 : kd = 4
    · subst k4
      refine ⟨fun _ _ => ?_, fun _ z => absurd z (by decide)⟩
      rw [pS_4] at h
      obtain ⟨j1, c1, e1, h⟩ := bn_s h
      obtain ⟨j2, c2, e2, h⟩ := bn_s h
      have h' := Prod.mk.inj (Sum.inr.inj (Option.some.inj h))
      rw [← h'.2]
      exact wf_app _ _ _ _ _ ((ih 2 d i j1 c1 e1 m).1 (by decide) (by decide)) ((ih 3 d j1 j2 c2 e2 (m + 1)).2 (by omega) (Or.inr rfl))
    · refine ⟨fun _ _ => ?_, fun _ z => absurd z (by omega)⟩
      have h5 : pS T n (nI j) (f + 1) kd d i = (if nxT T n i = 40 ∧ d < 5 then bnS (pS T n (nI j) f 4 (d + 1) (i + 1)) (fun i2 c2 => if nxT T n i2 = 41 then some (Sum.inr (i2 + 1, c2)) else some (Sum.inl i2)) else some (Sum.inl i)) := by
        show (if kd = 0 then _ else if kd = 1 then _ else if kd = 2 then _ else if kd = 3 then _ else if kd = 4 then _ else _) = _
        rw [if_neg k0, if_neg k1, if_neg k2, if_neg k3, if_neg k4]
      rw [h5] at h
      by_cases g : nxT T n i = 40 ∧ d < 5
      · rw [if_pos g] at h
        obtain ⟨j1, c1, e1, h⟩ := bn_s h
        by_cases g2 : nxT T n j1 = 41
        · rw [if_pos g2] at h
          have h' := Prod.mk.inj (Sum.inr.inj (Option.some.inj h))
          rw [← h'.2]
          exact (ih 4 (d + 1) (i + 1) j1 c1 e1 m).1 (by decide) (by decide)
        · rw [if_neg g2] at h; cases h
      · rw [if_neg g] at h; cases h
theorem pT_wf {x y : List Int32} (hj : j ≤ 10) (h : pT T n (nI j) = some (Sum.inr (x, y))) : wfC j x 0 1 ∧ wfC j y 0 1 := by
  obtain ⟨a, b, h1, h2⟩ := pT_xy h
  exact ⟨(pS_wf hj 484 4 0 0 a x h1 0).1 (by decide) (by decide), (pS_wf hj 484 4 0 (a + 1) b y h2 0).1 (by decide) (by decide)⟩
theorem evP_br {v : Int64} (h : s.1 = true) : (evP v s).1 = true := by show (s.1 || _) = true; rw [h]; rfl
theorem evC_br {u : Int32} (h : s.1 = true) : (evC ms rx ry s u).1 = true := by
  unfold evC
  split
  · exact evP_br h
  · split
    · exact evP_br h
    · split
      · exact evP_br h
      · split
        · exact evP_br h
        · split
          · obtain ⟨b, V, r⟩ := s
            match V with
            | [] => exact h
            | x :: w =>
              show (if x < 0 then (true, 0 :: w, r) else (b, rtL x :: w, r)).1 = true
              split
              · rfl
              · exact h
          · obtain ⟨b, V, r⟩ := s
            match V with
            | [] => exact h
            | [x] => exact h
            | x :: y :: w =>
              show (if u = 10033 ∧ x = 0 then evP (aop u y 1) (true, w, r) else evP (aop u y x) (b, w, r)).1 = true
              split
              · exact evP_br rfl
              · exact evP_br h
theorem evs_br : ∀ (c : List Int32) (s : Bool × List Int64 × Int32 × Int32), s.1 = true → (evs ms rx ry s c).1 = true := by
  intro c
  induction c with
  | nil => intro s h; exact h
  | cons u c ih => intro s h; exact ih _ (evC_br h)
/-- what a unit is worth -/
theorem okU_v {u : Int32} (hj : j ≤ 10) (h : okU j u) : ∃ v, ∀ s : Bool × List Int64 × Int32 × Int32, ∃ w, evC ms rx ry s u = evP v (s.1, s.2.1, w) := by
  rcases h with ⟨k, hk, e⟩ | ⟨k, hk, e⟩ | ⟨k, hk, e⟩
  · by_cases g : k < 10000
    · exact ⟨u.toInt64, fun s => ⟨s.2.2, u_small (by rw [e, q_nI (by omega)]; omega) (by rw [e, q_nI (by omega)]; omega)⟩⟩
    · refine ⟨(ms (k - 10000)).toInt64, fun s => ⟨(s.2.2.1 ||| ((1 : Int32) <<< (nI (k - 10000) &&& 31 : Int32)), s.2.2.2), ?_⟩⟩
      have : u = 10000 + nI (97 + (k - 10000)) - 97 := by
        rw [e, show (10000 : Int32) = nI 10000 from rfl, q_nadd, show (97 : Int32) = nI 97 from rfl, q_nsub (by omega)]
        rw [show 10000 + (97 + (k - 10000)) - 97 = k from by omega]
      rw [this]
      exact evC_m (by omega)
  · refine ⟨(rx k).toInt64, fun s => ⟨(s.2.2.1, s.2.2.2 ||| ((1 : Int32) <<< (nI k &&& 31 : Int32))), ?_⟩⟩
    rw [e, ← q_nadd]
    exact evC_x (by omega)
  · refine ⟨(ry k).toInt64, fun s => ⟨(s.2.2.1, s.2.2.2 ||| ((1 : Int32) <<< (nI k &&& 31 : Int32))), ?_⟩⟩
    rw [e, ← q_nadd]
    exact evC_y (by omega)
theorem evC_cong {u : Int32} (hj : j ≤ 10) (hx : ∀ k, k < j → rx' k = rx k) (hy : ∀ k, k < j → ry' k = ry k) (h : okU j u ∨ u = 10034 ∨ (u = 10030 ∨ u = 10031 ∨ u = 10032 ∨ u = 10033)) : evC ms rx' ry' s u = evC ms rx ry s u := by
  rcases h with (⟨k, hk, e⟩ | ⟨k, hk, e⟩ | ⟨k, hk, e⟩) | h | h
  · by_cases g : k < 10000
    · rw [u_small (by rw [e, q_nI (by omega)]; omega) (by rw [e, q_nI (by omega)]; omega), u_small (by rw [e, q_nI (by omega)]; omega) (by rw [e, q_nI (by omega)]; omega)]
    · have : u = 10000 + nI (97 + (k - 10000)) - 97 := by
        rw [e, show (10000 : Int32) = nI 10000 from rfl, q_nadd, show (97 : Int32) = nI 97 from rfl, q_nsub (by omega)]
        rw [show 10000 + (97 + (k - 10000)) - 97 = k from by omega]
      rw [this, evC_m (by omega), evC_m (by omega)]
  · have : u = 10010 + nI k := by rw [show (10010 : Int32) = nI 10010 from rfl, q_nadd]; exact e
    rw [this, evC_x (by omega), evC_x (by omega), hx k hk]
  · have : u = 10020 + nI k := by rw [show (10020 : Int32) = nI 10020 from rfl, q_nadd]; exact e
    rw [this, evC_y (by omega), evC_y (by omega), hy k hk]
  · rw [h, evC_rt, evC_rt]
  · rw [evC_op h, evC_op h]
theorem evs_cong (hj : j ≤ 10) (hx : ∀ k, k < j → rx' k = rx k) (hy : ∀ k, k < j → ry' k = ry k) : ∀ (c : List Int32) (m m' : Nat) (s : Bool × List Int64 × Int32 × Int32), wfC j c m m' → evs ms rx' ry' s c = evs ms rx ry s c := by
  intro c
  induction c with
  | nil => intro m m' s _; exact (show s = s from rfl)
  | cons u c ih =>
    intro m m' s h
    show evs ms rx' ry' (evC ms rx' ry' s u) c = evs ms rx ry (evC ms rx ry s u) c
    rcases h with ⟨a, b⟩ | ⟨a, b, e⟩ | ⟨a, b, e⟩
    · rw [evC_cong hj hx hy (Or.inl a)]; exact ih _ _ _ b
    · rw [evC_cong hj hx hy (Or.inr (Or.inl a))]; exact ih _ _ _ e
    · rw [evC_cong hj hx hy (Or.inr (Or.inr a))]; exact ih _ _ _ e
end WF
