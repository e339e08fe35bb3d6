section OSM
variable {n0 d : Nat} {K K' : z_K} {I I' : z_I} {L : z_L} {np nr nb na t ns : Nat} {pid pts rid rp rk ln cx cy bid m sid s1 s2 sa sb sc se nc : Nat → Nat} {par : Nat → Option Nat} {X Y : Nat → List Int32} {A : Int32 → Int32 → Option (Int32 × Int32)} {dy size : Int32} {s : Nat} {l1 l2 : Int32} {P : z_K → z_I → z_L → Prop} {p0 p1 p2 : Int32}
theorem wl_e {p q : Nat → Int32} {gt : Int32} {k : Nat} (h : wlB p q l1 l2 gt k = true) : ¬ l1 < p k ∧ ¬ l2 < q k ∧ (k = 0 ∨ (p (k - 1) < p k ∧ q (k - 1) < q k)) ∧ ¬ mrS p q k < 0 ∧ ¬ gt < mrS p q k := by
  unfold wlB at h
  exact of_decide_eq_true h
theorem c13_lost_l {Q : z_q} (hM : MLay K) (h20 : ns ≤ 20) (hN : NtD I ns sid nc) (hs : s < ns) (h75 : I 59 75 = l1) (h76 : I 59 76 = l2) :
    ∀ w j, j + w = nc s → Q (some (.int (frS (wlB (fun k => I 108 (6 * s + k)) (fun k => I 109 (6 * s + k)) l1 l2 (I 106 s)) w j))) I L → Z n0 xX13_lostOf d 0 0 2 [(0, .ref (n0 + 59)), (1, .int (nI s)), (2, .int (nI j))] [] K I L (z_q0 K Q) := by
  obtain ⟨a1, a2, a3, a4, a5⟩ := hN s hs
  have e0 : (0 : Int32).toInt = 0 := rfl
  intro w
  induction w with
  | zero =>
    intro j hj h
    refine wp_X13_lostOf_2 hM ⟨q_inn (by omega) (by omega), ?_⟩
    rw [q_cl (n := s) (by omega), a3]
    exact iq (fun z => by have := q_lt.mp z; rw [q_nI (by omega), q_nI (by omega)] at this; omega) h
  | succ w ih =>
    intro j hj h
    have h' : Q (some (.int (if wlB (fun k => I 108 (6 * s + k)) (fun k => I 109 (6 * s + k)) l1 l2 (I 106 s) j = true then frS (wlB (fun k => I 108 (6 * s + k)) (fun k => I 109 (6 * s + k)) l1 l2 (I 106 s)) w (j + 1) else nI j))) I L := h
    have no : ¬ wlB (fun k => I 108 (6 * s + k)) (fun k => I 109 (6 * s + k)) l1 l2 (I 106 s) j = true → Q (some (.int (nI j))) I L := fun g => by rw [if_neg g] at h'; exact h'
    refine wp_X13_lostOf_2 hM ⟨q_inn (by omega) (by omega), ?_⟩
    rw [q_cl (n := s) (by omega), a3, q_6j, q_cl (n := 6 * s + j) (by omega), h75, h76, ← nI_succ]
    refine ip (nI_lt (by omega) (by omega)) ?_
    by_cases gk : j = 0
    · subst gk
      have em : mrS (fun k => I 108 (6 * s + k)) (fun k => I 109 (6 * s + k)) 0 = I 109 (6 * s + 0) - I 108 (6 * s + 0) := if_pos rfl
      have ez : nI 0 = (0 : Int32) := rfl
      rw [if_pos ez, if_pos ez, if_pos ez, Int32.sub_zero, Int32.sub_zero, ← em]
      refine ⟨q_inn (by omega) (by omega), fun z => absurd ez z, fun z => absurd ez z, ?_⟩
      by_cases g1 : l1 < I 108 (6 * s + 0)
      · exact ip g1 (no (fun z => (wl_e z).1 g1))
      refine iq g1 ?_
      by_cases g2 : l2 < I 109 (6 * s + 0)
      · exact ip g2 (no (fun z => (wl_e z).2.1 g2))
      refine iq g2 (iq (by decide) ?_)
      by_cases g3 : mrS (fun k => I 108 (6 * s + k)) (fun k => I 109 (6 * s + k)) 0 < 0
      · exact ip g3 (no (fun z => (wl_e z).2.2.2.1 g3))
      refine iq g3 ?_
      by_cases g4 : I 106 s < mrS (fun k => I 108 (6 * s + k)) (fun k => I 109 (6 * s + k)) 0
      · exact ip g4 (no (fun z => (wl_e z).2.2.2.2 g4))
      refine iq g4 (ih 1 (by omega) ?_)
      rw [if_pos (by unfold wlB; exact decide_eq_true ⟨g1, g2, Or.inl rfl, g3, g4⟩)] at h'
      exact h'
    · obtain ⟨u, rfl⟩ : ∃ u, j = u + 1 := ⟨j - 1, by omega⟩
      have ez : ¬ nI (u + 1) = (0 : Int32) := fun z => by have := q_eq.mp z; rw [q_nI (by omega)] at this; omega
      have em : mrS (fun k => I 108 (6 * s + k)) (fun k => I 109 (6 * s + k)) (u + 1) = (I 109 (6 * s + (u + 1)) - I 109 (6 * s + u)) - (I 108 (6 * s + (u + 1)) - I 108 (6 * s + u)) := if_neg (by omega)
      rw [if_neg ez, if_neg ez, if_neg ez, show nI (6 * s + (u + 1)) - 1 = nI (6 * s + u) from nI_pred _, q_cl (n := 6 * s + u) (by omega), ← em]
      refine ⟨q_inn (by omega) (by omega), fun _ => q_inn (by omega) (by omega), fun _ => q_inn (by omega) (by omega), ?_⟩
      by_cases g1 : l1 < I 108 (6 * s + (u + 1))
      · exact ip g1 (no (fun z => (wl_e z).1 g1))
      refine iq g1 ?_
      by_cases g2 : l2 < I 109 (6 * s + (u + 1))
      · exact ip g2 (no (fun z => (wl_e z).2.1 g2))
      refine iq g2 ?_
      by_cases g5 : I 108 (6 * s + u) < I 108 (6 * s + (u + 1)) ∧ I 109 (6 * s + u) < I 109 (6 * s + (u + 1))
      · rw [if_pos g5.1, if_pos g5.2]
        refine iq (by decide) ?_
        by_cases g3 : mrS (fun k => I 108 (6 * s + k)) (fun k => I 109 (6 * s + k)) (u + 1) < 0
        · exact ip g3 (no (fun z => (wl_e z).2.2.2.1 g3))
        refine iq g3 ?_
        by_cases g4 : I 106 s < mrS (fun k => I 108 (6 * s + k)) (fun k => I 109 (6 * s + k)) (u + 1)
        · exact ip g4 (no (fun z => (wl_e z).2.2.2.2 g4))
        refine iq g4 (ih (u + 1 + 1) (by omega) ?_)
        rw [if_pos (by unfold wlB; exact decide_eq_true ⟨g1, g2, Or.inr g5, g3, g4⟩)] at h'
        exact h'
      · refine ip ?_ (no (fun z => by
          unfold wlB at z
          have z' := of_decide_eq_true z
          rcases z'.2.2.1 with q | q
          · omega
          · exact g5 q))
        by_cases g6 : I 108 (6 * s + u) < I 108 (6 * s + (u + 1))
        · rw [if_pos g6, if_neg (fun z => g5 ⟨g6, z⟩)]
        · rw [if_neg g6]
theorem c13_lostOf {Q : z_q} (hM : MLay K) (h20 : ns ≤ 20) (hN : NtD I ns sid nc) (hs : s < ns) (h75 : I 59 75 = l1) (h76 : I 59 76 = l2) (h : Q (some (.int (LoS I nc s l1 l2))) I L) : RM0 n0 xX13_lostOf d [.ref (n0 + 59), .int (nI s)] K I L Q :=
  wp_X13_lostOf hM (c13_lost_l hM h20 hN hs h75 h76 (nc s) 0 (by omega) h)
theorem c13_doesMeet {Q : z_q} (hM : MLay K) (h20 : ns ≤ 20) (hs : s < ns) (h75 : I 59 75 = l1) (h76 : I 59 76 = l2) (h : Q (some (.int (MtS I s l1 l2))) I L) : RM0 n0 xX13_doesMeet (d + 1) [.ref (n0 + 59), .int (nI s)] K I L Q := by
  refine wp_X13_doesMeet hM ⟨q_inn (by omega) (by omega), ?_⟩
  rw [q_cl (by omega), h75, h76]
  refine c13_in hM ⟨_, rfl, bI_b, ?_⟩
  unfold MtS at h
  rw [bI_c (q := (I 104 s).toInt ≤ (l2 - l1).toInt ∧ (l2 - l1).toInt ≤ (I 105 s).toInt) (by rw [q_i2l, q_i2l, q_i2l])]
  exact h
theorem c8_isMet {Q : z_q} (hS : SmK K ns sid) (hSD : SmD K I ns np sid pid pts s1 s2 sa sb sc se) (hs : s < ns) (h12 : I (sid s) 12 = l1) (h13 : I (sid s) 13 = l2) (h : Q (some (.int (MtS I s l1 l2))) I L) : RM0 n0 xX8_isMet (d + 1) [.ref (n0 + sid s)] K I L Q := by
  obtain ⟨b1, b2, b3, b4, b5, b6, b7, b8⟩ := hS.2.1 s hs
  have c7 := (hSD s hs).2.2.2.2.2.2.2.2.2.2.2.2.2.2.2.2.2.2
  refine wp_X8_isMet ⟨by omega, b4, wp_X8_easeDrawn ⟨by omega, b4, _, rfl, ?_⟩⟩
  rw [h12, h13, c7.1]
  unfold MtS at h
  by_cases g : l2 - l1 < I 104 s
  · rw [bI_f (fun z => by have := q_lt.mp g; omega)] at h
    exact ip g h
  · refine iq g (wp_X8_easeDrawn ⟨by omega, b4, _, rfl, ?_⟩)
    rw [h12, h13, c7.2]
    by_cases g2 : I 105 s < l2 - l1
    · rw [bI_f (fun z => by have := q_lt.mp g2; omega)] at h
      rw [if_pos g2]; exact h
    · rw [bI_t ⟨by have := mt q_lt.mpr g; omega, by have := mt q_lt.mpr g2; omega⟩] at h
      rw [if_neg g2]; exact h
theorem c12_seamRef {Q : z_R} (hW : Wd K I np nr nb na t pid pts rid rp rk ln cx cy bid m par X Y A) (hB : WdB I np A) (hSK : SmK K ns sid) (hSD : SmD K I ns np sid pid pts s1 s2 sa sb sc se) (hn : I 0 13 = nI ns) (hs : s < ns)
    (h1 : ¬ (0 ≤ size.toInt ∧ size.toInt < 11) → Q (some (.int (-1))) K I L) (h2 : (0 ≤ size.toInt ∧ size.toInt < 11) → bnd dy 0 1000 < 0 → Q (some (.int (bnd dy 0 1000))) K I L)
    (h3 : ∀ z, z < 11 → size = nI z → ¬ bnd dy 0 1000 < 0 → (DAt I X Y rp rk nr t pts par np z dy (s1 s) = none ∨ DAt I X Y rp rk nr t pts par np z dy (s2 s) = none) → ∀ K' I' L', KD K K' → Fz (gS K) I I' → Q (some (.int (-7))) K' I' L')
    (h4 : ∀ z, z < 11 → size = nI z → ¬ bnd dy 0 1000 < 0 → ∀ g1 g2, DAt I X Y rp rk nr t pts par np z dy (s1 s) = some g1 → DAt I X Y rp rk nr t pts par np z dy (s2 s) = some g2 → ∀ K' I' L', KD K K' → Fz (gS K) I I' → I' (sid s) 12 = LenP I g1 (s1 s) (pts (s1 s)) (sa s) (sb s) → I' (sid s) 13 = LenP I g2 (s2 s) (pts (s2 s)) (sc s) (se s) → Q (some (.int 0)) K' I' L') :
    RM n0 xX12_seamRefused (d + 6) 0 0 [.ref (n0 + 0), .int (nI s), .int size, .int dy] K I L Q := by
  have hC := hW.1
  refine wp_X12_seamRefused hC (c12_seamOf_t hC hSK hn hs ⟨_, rfl, oss (c12_isSize hC ⟨_, rfl, ?_⟩)⟩)
  by_cases g : 0 ≤ size.toInt ∧ size.toInt < 11
  · rw [bI_t g]
    refine iq (by decide) (c12_outside hC ⟨_, rfl, ?_⟩)
    by_cases gb : bnd dy 0 1000 < 0
    · exact iq (fun z => by rw [z] at gb; exact absurd gb (by decide)) (h2 g gb)
    · rw [bnd_0 gb]
      obtain ⟨z, rfl, _, ez⟩ := q_of g.1
      have hz : z < 11 := by omega
      refine ip rfl (c12_drawAt (d := d + 3) hW hz (fun K1 I1 L1 k1 f1 e1 z1 => ?_))
      have w1 := hW.fr k1 f1
      have f1T : Fz (gT K) I I1 := f1.mono (fun _ _ w => gT_s w)
      refine ⟨rfl, w1.1, c12_sides (d := d) w1 (hB.fT f1T) e1 (fun q hq => Or.inl (z1 q (by have := hW.2.2.2.1.n; omega))) (fun q g hq eg => DAt_b hW hB hq hz eg) (hSK.kd k1) (hSD.fT hSK k1 f1T) hs (fun e K2 I2 L2 k2 f2 d2 => ⟨_, rfl, w1.1.kd k2.kd, ?_⟩) (fun g1 g2 eg1 eg2 K2 I2 L2 k2 f2 d2 x12 x13 => ⟨_, rfl, w1.1.kd k2.kd, ?_⟩)⟩
      · rw [if_pos rfl]
        rw [eS_k k1] at f2
        exact h3 z hz rfl gb e K2 I2 L2 (k1.trans k2.kd) (f1.trans (f2.mono (fun a j w => eS_g w)))
      · rw [if_neg (by decide)]
        rw [eS_k k1] at f2
        rw [LenP_f f1T] at x12 x13
        exact h4 z hz rfl gb g1 g2 eg1 eg2 K2 I2 L2 (k1.trans k2.kd) (f1.trans (f2.mono (fun a j w => eS_g w))) x12 x13
  · rw [bI_f g]
    exact ip rfl (h1 g)
theorem c12_seamRef_f {Q : z_R} {q : Int32} (hW : Wd K I np nr nb na t pid pts rid rp rk ln cx cy bid m par X Y A) (hSK : SmK K ns sid) (hn : I 0 13 = nI ns) (hq : ¬ (0 ≤ q.toInt ∧ q.toInt < ns)) (h : Q (some (.int (-1))) K I L) : RM n0 xX12_seamRefused (d + 6) 0 0 [.ref (n0 + 0), .int q, .int size, .int dy] K I L Q :=
  wp_X12_seamRefused hW.1 (c12_seamOf_f hW.1 hSK hn hq ⟨_, rfl, osn h⟩)
theorem c13_wrongSeam_f {Q : z_q} {q : Int32} (hM : MLay K) (h20 : ns ≤ 20) (hn : I 59 62 = nI ns) (hq : ¬ (0 ≤ q.toInt ∧ q.toInt < ns)) (h : Q (some (.int (-1))) I L) : RM0 n0 xX13_wrongSeam (d + 12) [.ref (n0 + 59), .int q, .int size, .int dy] K I L Q := by
  refine wp_X13_wrongSeam hM (c13_isSeam hM hn (by omega) ⟨_, rfl, ?_⟩)
  rw [bI_f hq]
  exact ip rfl h
end OSM
