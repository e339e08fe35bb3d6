/-! notches: the first that is lost -/
def mrS (p q : Nat → Int32) (k : Nat) : Int32 := if k = 0 then q k - p k else (q k - q (k - 1)) - (p k - p (k - 1))
def wlB (p q : Nat → Int32) (l1 l2 gt : Int32) (k : Nat) : Bool := decide (¬ l1 < p k ∧ ¬ l2 < q k ∧ (k = 0 ∨ (p (k - 1) < p k ∧ q (k - 1) < q k)) ∧ ¬ mrS p q k < 0 ∧ ¬ gt < mrS p q k)
def frS (w : Nat → Bool) : Nat → Nat → Int32
  | 0, _ => -9
  | m + 1, j => if w j = true then frS w m (j + 1) else nI j
def NtD (I : z_I) (ns : Nat) (sid nc : Nat → Nat) : Prop := ∀ s, s < ns → nc s ≤ 6 ∧ I (sid s) 11 = nI (nc s) ∧ I 107 s = nI (nc s) ∧ I (sid s) 8 = I 106 s ∧ ∀ k, k < nc s → I (sid s + 1) k = I 108 (6 * s + k) ∧ I (sid s + 2) k = I 109 (6 * s + k) ∧ (0 ≤ (I 108 (6 * s + k)).toInt ∧ (I 108 (6 * s + k)).toInt ≤ 99999) ∧ (0 ≤ (I 109 (6 * s + k)).toInt ∧ (I 109 (6 * s + k)).toInt ≤ 99999)
def LoS (I : z_I) (nc : Nat → Nat) (s : Nat) (l1 l2 : Int32) : Int32 := frS (wlB (fun k => I 108 (6 * s + k)) (fun k => I 109 (6 * s + k)) l1 l2 (I 106 s)) (nc s) 0
def MtS (I : z_I) (s : Nat) (l1 l2 : Int32) : Int32 := bI ((I 104 s).toInt ≤ (l2 - l1).toInt ∧ (l2 - l1).toInt ≤ (I 105 s).toInt)
section LST
variable {n0 d : Nat} {K K' : z_K} {I I' : z_I} {L : z_L} {Q : z_q} {np ns : Nat} {sid nc pid pts s1 s2 sa sb sc se : Nat → Nat} {s : Nat} {l1 l2 : Int32}
theorem NtD.fT (h : NtD I ns sid nc) (hS : SmK K ns sid) (hI : Fz (gT K) I I') : NtD I' ns sid nc := by
  intro s hs
  obtain ⟨b1, b2, b3, b4, b5, b6, b7, b8⟩ := hS.2.1 s hs
  obtain ⟨a1, a2, a3, a4, a5⟩ := h s hs
  refine ⟨a1, by rw [hI _ _ (by unfold gT gS; omega)]; exact a2, by rw [hI 107 s (by unfold gT gS; omega)]; exact a3, by rw [hI (sid s) 8 (by unfold gT gS; omega), hI 106 s (by unfold gT gS; omega)]; exact a4, fun k hk => ?_⟩
  rw [hI (sid s + 1) k (gT_hi (by omega) (by rw [b5]; decide)), hI (sid s + 2) k (gT_hi (by omega) (by rw [b6]; decide)), hI 108 _ (by unfold gT gS; omega), hI 109 _ (by unfold gT gS; omega)]
  exact a5 k hk
theorem LoS_f (hI : Fz (gT K) I I') : LoS I' nc s l1 l2 = LoS I nc s l1 l2 := by
  unfold LoS
  rw [show I' 108 = I 108 from funext fun q => hI 108 q (by unfold gT gS; omega), show I' 109 = I 109 from funext fun q => hI 109 q (by unfold gT gS; omega), hI 106 s (by unfold gT gS; omega)]
theorem MtS_f (hI : Fz (gT K) I I') : MtS I' s l1 l2 = MtS I s l1 l2 := by
  unfold MtS
  rw [hI 104 s (by unfold gT gS; omega), hI 105 s (by unfold gT gS; omega)]
theorem c8_isWell {k : Nat} (hS : SmK K ns sid) (hN : NtD I ns sid nc) (hs : s < ns) (hk : k < nc s) (h12 : I (sid s) 12 = l1) (h13 : I (sid s) 13 = l2)
    (h : Q (some (.int (bI (wlB (fun k => I 108 (6 * s + k)) (fun k => I 109 (6 * s + k)) l1 l2 (I 106 s) k = true)))) I L) : RM0 n0 xX8_isWell d [.ref (n0 + sid s), .int (nI k)] K I L Q := by
  obtain ⟨b1, b2, b3, b4, b5, b6, b7, b8⟩ := hS.2.1 s hs
  obtain ⟨a1, a2, a3, a4, a5⟩ := hN s hs
  obtain ⟨c1, c2, c3, c4⟩ := a5 k hk
  have e0 : (0 : Int32).toInt = 0 := rfl
  refine wp_X8_isWell ⟨by omega, b4, sid s + 1, b7, 6, by omega, b5, q_inn (by omega) (by omega), ?_⟩
  rw [q_cl (by omega), h12, h13, c1, a4]
  by_cases g1 : l1 < I 108 (6 * s + k)
  · rw [bI_f (by unfold wlB; simp [g1])] at h
    exact ip g1 h
  · refine iq g1 ⟨sid s + 2, b8, 6, by omega, b6, q_inn (by omega) (by omega), ?_⟩
    rw [c2]
    by_cases g2 : l2 < I 109 (6 * s + k)
    · rw [bI_f (by unfold wlB; simp [g2])] at h
      exact ip g2 h
    · refine iq g2 ?_
      by_cases gk : k = 0
      · subst gk
        refine iq (by decide) ?_
        have em : mrS (fun k => I 108 (6 * s + k)) (fun k => I 109 (6 * s + k)) 0 = I 109 (6 * s + 0) - I 108 (6 * s + 0) := if_pos rfl
        rw [← em]
        by_cases g3 : mrS (fun k => I 108 (6 * s + k)) (fun k => I 109 (6 * s + k)) 0 < 0
        · rw [if_pos g3]
          rw [bI_f (by unfold wlB; simp [g3])] at h
          exact h
        · rw [if_neg g3]
          by_cases g4 : I 106 s < mrS (fun k => I 108 (6 * s + k)) (fun k => I 109 (6 * s + k)) 0
          · rw [if_pos g4]
            rw [bI_f (by unfold wlB; simp [g4])] at h
            exact h
          · rw [if_neg g4]
            rw [bI_t (by unfold wlB; exact decide_eq_true ⟨g1, g2, Or.inl rfl, g3, g4⟩)] at h
            exact h
      · obtain ⟨u, rfl⟩ : ∃ u, k = u + 1 := ⟨k - 1, by omega⟩
        obtain ⟨d1, d2, d3, d4⟩ := a5 u (by omega)
        have em : mrS (fun k => I 108 (6 * s + k)) (fun k => I 109 (6 * s + k)) (u + 1) = (I 109 (6 * s + (u + 1)) - I 109 (6 * s + u)) - (I 108 (6 * s + (u + 1)) - I 108 (6 * s + u)) := if_neg (by omega)
        rw [nI_pred, q_cl (n := u) (by omega), d1, d2, ← em]
        refine ip (by show nI 0 < _; exact nI_lt (by omega) (by omega)) ⟨q_inn (by omega) (by omega), q_inn (by omega) (by omega), ?_⟩
        have sp : (I 108 (6 * s + (u + 1)) - I 108 (6 * s + u)).toInt = (I 108 (6 * s + (u + 1))).toInt - (I 108 (6 * s + u)).toInt := q_sub (by omega) (by omega)
        have sq : (I 109 (6 * s + (u + 1)) - I 109 (6 * s + u)).toInt = (I 109 (6 * s + (u + 1))).toInt - (I 109 (6 * s + u)).toInt := q_sub (by omega) (by omega)
        have ip1 : (0 < I 108 (6 * s + (u + 1)) - I 108 (6 * s + u)) ↔ I 108 (6 * s + u) < I 108 (6 * s + (u + 1)) := by rw [q_lt, q_lt, sp]; omega
        have iq1 : (0 < I 109 (6 * s + (u + 1)) - I 109 (6 * s + u)) ↔ I 109 (6 * s + u) < I 109 (6 * s + (u + 1)) := by rw [q_lt, q_lt, sq]; omega
        by_cases g5 : 0 < I 108 (6 * s + (u + 1)) - I 108 (6 * s + u)
        · refine ip g5 ?_
          by_cases g6 : 0 < I 109 (6 * s + (u + 1)) - I 109 (6 * s + u)
          · refine ip g6 ?_
            by_cases g3 : mrS (fun k => I 108 (6 * s + k)) (fun k => I 109 (6 * s + k)) (u + 1) < 0
            · rw [if_pos g3]
              rw [bI_f (by unfold wlB; simp [g3])] at h
              exact h
            · rw [if_neg g3]
              by_cases g4 : I 106 s < mrS (fun k => I 108 (6 * s + k)) (fun k => I 109 (6 * s + k)) (u + 1)
              · rw [if_pos g4]
                rw [bI_f (by unfold wlB; simp [g4])] at h
                exact h
              · rw [if_neg g4]
                rw [bI_t (by unfold wlB; exact decide_eq_true ⟨g1, g2, Or.inr ⟨ip1.mp g5, iq1.mp g6⟩, g3, g4⟩)] at h
                exact h
          · refine iq g6 ?_
            rw [bI_f (fun z => by
              unfold wlB at z
              have z' := of_decide_eq_true z
              rcases z'.2.2.1 with q | q
              · omega
              · exact g6 (iq1.mpr q.2))] at h
            exact h
        · refine iq g5 ?_
          rw [bI_f (fun z => by
            unfold wlB at z
            have z' := of_decide_eq_true z
            rcases z'.2.2.1 with q | q
            · omega
            · exact g5 (ip1.mpr q.1))] at h
          exact h
theorem c8_lost_l (hS : SmK K ns sid) (hN : NtD I ns sid nc) (hs : s < ns) (h12 : I (sid s) 12 = l1) (h13 : I (sid s) 13 = l2) :
    ∀ w j, j + w = nc s → Q (some (.int (frS (wlB (fun k => I 108 (6 * s + k)) (fun k => I 109 (6 * s + k)) l1 l2 (I 106 s)) w j))) I L → Z n0 xX8_firstLost (d + 1) 0 0 2 [(0, .ref (n0 + sid s)), (1, .int (nI j))] [] K I L (z_q0 K Q) := by
  obtain ⟨b1, b2, b3, b4, b5, b6, b7, b8⟩ := hS.2.1 s hs
  obtain ⟨a1, a2, a3, a4, a5⟩ := hN s hs
  intro w
  induction w with
  | zero =>
    intro j hj h
    refine wp_X8_firstLost_2 ⟨by omega, b4, ?_⟩
    rw [a2]
    exact iq (fun z => by have := q_lt.mp z; rw [q_nI (by omega), q_nI (by omega)] at this; omega) h
  | succ w ih =>
    intro j hj h
    refine wp_X8_firstLost_2 ⟨by omega, b4, ?_⟩
    rw [a2, ← nI_succ]
    refine ip (nI_lt (by omega) (by omega)) (c8_isWell hS hN hs (by omega) h12 h13 ⟨_, rfl, ?_⟩)
    have h' : Q (some (.int (if wlB (fun k => I 108 (6 * s + k)) (fun k => I 109 (6 * s + k)) l1 l2 (I 106 s) j = true then frS (wlB (fun k => I 108 (6 * s + k)) (fun k => I 109 (6 * s + k)) l1 l2 (I 106 s)) w (j + 1) else nI j))) I L := h
    by_cases g : wlB (fun k => I 108 (6 * s + k)) (fun k => I 109 (6 * s + k)) l1 l2 (I 106 s) j = true
    · rw [if_pos g] at h'
      rw [bI_t g]
      exact iq (by decide) (ih (j + 1) (by omega) h')
    · rw [if_neg g] at h'
      rw [bI_f g]
      exact ip rfl h'
theorem c8_firstLost (hS : SmK K ns sid) (hN : NtD I ns sid nc) (hs : s < ns) (h12 : I (sid s) 12 = l1) (h13 : I (sid s) 13 = l2) (h : Q (some (.int (LoS I nc s l1 l2))) I L) : RM0 n0 xX8_firstLost (d + 1) [.ref (n0 + sid s)] K I L Q :=
  wp_X8_firstLost (c8_lost_l hS hN hs h12 h13 (nc s) 0 (by omega) h)
end LST
