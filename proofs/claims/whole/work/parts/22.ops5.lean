section OP5
variable {n0 d dr dd : Nat} {K : z_K} {I : z_I} {L : z_L} {P : z_I → z_L → Prop} {Q : z_q} {np nb ns : Nat} {pid bid pts sid : Nat → Nat}
theorem op_measured {b m : Int32} {t : Nat} (hC : CLay K) (hM : MLay K) (hB : BdK K nb bid) (hN : BdN I nb) (ht : I 59 1 = nI t) (htb : t ≤ 2100) (hT : Tab K I t) (hd : I 0 0 = I 59 0) (he : ∀ i j, i < nb → j < 8 → I (bid i + 1) j = I 65 (8 * i + j) ∧ -1 ≤ (I 65 (8 * i + j)).toInt) (hsz : ∀ i, i < nb → I (bid i) 0 = I 64 i ∧ ∃ j, j < 11 ∧ I 64 i = nI j)
    (hr : ∀ k, 1 ≤ k → k ≤ 7 → P (rfI I k) L) (hs : P I L) : Op0 n0 xX12_measured xX13_measured (d + 2) (d + 2) [.int b, .int m] K I L P := by
  have hnb := hB.n
  by_cases g : 0 ≤ b.toInt ∧ b.toInt < nb
  · obtain ⟨i, rfl, hi1, ei⟩ := q_of g.1
    have hi : i < nb := by omega
    have hb : bI (0 ≤ (nI i).toInt ∧ (nI i).toInt < nb) = 1 := bI_t g
    refine wp_X12_measured hC (c12_bodyOf_t hC hB hN.1 hi ⟨_, rfl, oss (c12_isMeasure hC ⟨_, rfl, ?_⟩)⟩)
    by_cases gm : 0 ≤ m.toInt ∧ m.toInt < 8
    · have hbm : bI (0 ≤ m.toInt ∧ m.toInt < 8) = 1 := bI_t gm
      rw [hbm]
      obtain ⟨j, rfl, hj1, ej⟩ := q_of gm.1
      have hj : j < 8 := by omega
      refine iq (by decide) (c12_countsNow hC hB hi hj hd (he i j hi hj).1 (hsz i hi).1 (hsz i hi).2 (he i j hi hj).2 hT ⟨_, rfl, _, rfl, wp_X13_measured hM (c13_isBody hM hN.2 (by omega) ⟨_, rfl, ?_⟩)⟩)
      rw [hb]
      refine iq (by decide) (c13_isMeasure hM ⟨_, rfl, ?_⟩)
      rw [hbm]
      exact iq (by decide) (c13_measuredOf hM (by omega) hj ht htb ⟨_, rfl, rfl, hs⟩)
    · rw [bI_f gm]
      refine ip rfl (op_rf 1 hC (by omega) (by omega) rfl (wp_X13_measured hM (c13_isBody hM (hN.m' re_rf) (by omega) ⟨_, rfl, ?_⟩)))
      rw [hb]
      refine iq (by decide) (c13_isMeasure hM ⟨_, rfl, ?_⟩)
      rw [bI_f gm]
      exact ip rfl (op_rr 1 hM (by omega) rfl (hr 1 (by omega) (by omega)))
  · refine wp_X12_measured hC (c12_bodyOf_f hC hB hN.1 g ⟨_, rfl, osn (op_rf 1 hC (by omega) (by omega) rfl (wp_X13_measured hM (c13_isBody hM (hN.m' re_rf) (by omega) ⟨_, rfl, ?_⟩)))⟩)
    rw [bI_f g]
    exact ip rfl (op_rr 1 hM (by omega) rfl (hr 1 (by omega) (by omega)))
theorem op_order {s v : Int32} (hC : CLay K) (hM : MLay K) (he : ∀ i, i < 5 → I 53 i = I 147 i) (hr : ∀ k, 1 ≤ k → k ≤ 7 → P (rfI I k) L) (hs : ∀ i, i < 5 → 0 ≤ v.toInt → v.toInt ≤ 99 → P (zI (zI I 53 i v) 147 i v) L) : Op0 n0 xX12_order xX13_order (d + 1) (d + 1) [.int s, .int v] K I L P := by
  have e5 : (5 : Int32).toInt = 5 := rfl
  have e0 : (0 : Int32).toInt = 0 := rfl
  refine wp_X12_order hC ?_
  have bad : ¬ (0 ≤ s.toInt ∧ s.toInt < 5) → OpR n0 xX13_order (d + 1) [.int s, .int v] K (zI I 1 1 (I 1 1 + 1)) L P (-1) := fun g => by
    refine wp_X13_order hM (c13_in hM ⟨_, rfl, ?_⟩)
    rw [bI_f (by rw [q_i2l]; show ¬ (0 ≤ _ ∧ _ ≤ 4); omega)]
    exact ip rfl (op_rr 1 hM (by omega) rfl (hr 1 (by omega) (by omega)))
  by_cases g1 : s < 0
  · exact ip g1 (op_rf 1 hC (by omega) (by omega) rfl (bad (by have := q_lt.mp g1; omega)))
  · refine iq g1 ?_
    have g1' : ¬ s.toInt < 0 := fun q => g1 (q_lt.mpr q)
    by_cases g2 : s < 5
    · have g2' := q_lt.mp g2
      refine ip g2 (c12_outside hC ⟨_, rfl, ?_⟩)
      have hb : bI ((0 : Int64).toInt ≤ s.toInt64.toInt ∧ s.toInt64.toInt ≤ (4 : Int64).toInt) = 1 := bI_t (by rw [q_i2l]; show 0 ≤ _ ∧ _ ≤ 4; omega)
      rcases bnd_cases v 0 99 with ⟨e, g⟩ | ⟨e, g0, g⟩ | ⟨e, g0, g⟩
      · rw [e]
        refine iq (by decide) (op_rf 4 hC (by omega) (by omega) rfl (wp_X13_order hM (c13_in hM ⟨_, rfl, ?_⟩)))
        rw [hb]
        refine iq (by decide) (c13_bounds hM ⟨_, rfl, ?_⟩)
        rw [e]
        refine ip (by decide) (c13_bounds hM ⟨_, rfl, ?_⟩)
        rw [e]
        exact op_rr 4 hM (by omega) rfl (hr 4 (by omega) (by omega))
      · rw [e]
        refine iq (by decide) (op_rf 6 hC (by omega) (by omega) rfl (wp_X13_order hM (c13_in hM ⟨_, rfl, ?_⟩)))
        rw [hb]
        refine iq (by decide) (c13_bounds hM ⟨_, rfl, ?_⟩)
        rw [e]
        refine ip (by decide) (c13_bounds hM ⟨_, rfl, ?_⟩)
        rw [e]
        exact op_rr 6 hM (by omega) rfl (hr 6 (by omega) (by omega))
      · rw [e]
        obtain ⟨i, rfl, hi1, ei⟩ := q_of (show 0 ≤ s.toInt by omega)
        have hi : i < 5 := by omega
        refine ip rfl ⟨q_inn hi (by omega), _, rfl, wp_X13_order hM (c13_in hM ⟨_, rfl, ?_⟩)⟩
        rw [hb]
        refine iq (by decide) (c13_bounds hM ⟨_, rfl, ?_⟩)
        rw [e]
        refine iq (by decide) ⟨q_inn hi (by omega), ?_, ?_⟩
        · rw [q_cl (by omega), he i hi]; rfl
        · rw [q_cl (by omega)]; exact hs i hi g0 g
    · refine iq g2 (op_rf 1 hC (by omega) (by omega) rfl (bad ?_))
      have : ¬ s.toInt < 5 := fun q => g2 (q_lt.mpr q)
      omega
theorem op_cloth {w v : Int32} (hC : CLay K) (hM : MLay K) (he : ∀ i, i < 6 → I 26 i = I 113 i) (hr : ∀ k, 1 ≤ k → k ≤ 7 → P (rfI I k) L) (hs : ∀ i, i < 6 → (z_sf 1 i).toInt ≤ v.toInt → v.toInt ≤ (z_sf 2 i).toInt → P (zI (zI I 26 i v) 113 i v) L) : Op0 n0 xX12_cloth xX13_cloth (d + 1) (d + 1) [.int w, .int v] K I L P := by
  have e6 : (6 : Int32).toInt = 6 := rfl
  have e0 : (0 : Int32).toInt = 0 := rfl
  refine wp_X12_cloth hC ?_
  have bad : ¬ (0 ≤ w.toInt ∧ w.toInt < 6) → OpR n0 xX13_cloth (d + 1) [.int w, .int v] K (zI I 1 2 (I 1 2 + 1)) L P (-2) := fun g => by
    refine wp_X13_cloth hM (c13_in hM ⟨_, rfl, ?_⟩)
    rw [bI_f (by rw [q_i2l]; show ¬ (0 ≤ _ ∧ _ ≤ 5); omega)]
    exact ip rfl (op_rr 2 hM (by omega) rfl (hr 2 (by omega) (by omega)))
  by_cases g1 : w < 0
  · exact ip g1 (op_rf 2 hC (by omega) (by omega) rfl (bad (by have := q_lt.mp g1; omega)))
  · refine iq g1 ?_
    have g1' : ¬ w.toInt < 0 := fun q => g1 (q_lt.mpr q)
    by_cases g2 : w < 6
    · have g2' := q_lt.mp g2
      obtain ⟨i, rfl, hi1, ei⟩ := q_of (show 0 ≤ w.toInt by omega)
      have hi : i < 6 := by omega
      have elo : (if (nI i : Int32) < 2 then (1 : Int32) else 0) = z_sf 1 i := by
        have : i = 0 ∨ i = 1 ∨ i = 2 ∨ i = 3 ∨ i = 4 ∨ i = 5 := by omega
        rcases this with rfl | rfl | rfl | rfl | rfl | rfl <;> rfl
      have ehi : (if (nI i : Int32) = 0 then (24 : Int32) else if (nI i : Int32) = 1 then 500 else if (nI i : Int32) = 2 then 1 else if (nI i : Int32) = 3 then 12 else 50) = z_sf 2 i := by
        have : i = 0 ∨ i = 1 ∨ i = 2 ∨ i = 3 ∨ i = 4 ∨ i = 5 := by omega
        rcases this with rfl | rfl | rfl | rfl | rfl | rfl <;> rfl
      refine ip g2 ⟨q_inn hi (by omega), c12_outside hC ⟨_, rfl, ?_⟩⟩
      rw [q_cl (by omega)]
      have hb : bI ((0 : Int64).toInt ≤ (nI i).toInt64.toInt ∧ (nI i).toInt64.toInt ≤ (5 : Int64).toInt) = 1 := bI_t (by rw [q_i2l]; show 0 ≤ _ ∧ _ ≤ 5; omega)
      rcases bnd_cases v (z_sf 1 i) (z_sf 2 i) with ⟨e, g⟩ | ⟨e, g0, g⟩ | ⟨e, g0, g⟩
      · rw [e]
        refine iq (by decide) (op_rf 4 hC (by omega) (by omega) rfl (wp_X13_cloth hM (c13_in hM ⟨_, rfl, ?_⟩)))
        rw [hb, elo]
        exact iq (by decide) (ip (q_lt.mpr g) (op_rr 4 hM (by omega) rfl (hr 4 (by omega) (by omega))))
      · rw [e]
        refine iq (by decide) (op_rf 6 hC (by omega) (by omega) rfl (wp_X13_cloth hM (c13_in hM ⟨_, rfl, ?_⟩)))
        rw [hb, elo, ehi]
        exact iq (by decide) (iq (fun q => by have := q_lt.mp q; omega) (ip (q_lt.mpr g) (op_rr 6 hM (by omega) rfl (hr 6 (by omega) (by omega)))))
      · rw [e]
        refine ip rfl ⟨_, rfl, wp_X13_cloth hM (c13_in hM ⟨_, rfl, ?_⟩)⟩
        rw [hb, elo, ehi]
        refine iq (by decide) (iq (fun q => by have := q_lt.mp q; omega) (iq (fun q => by have := q_lt.mp q; omega) ⟨q_inn hi (by omega), ?_, ?_⟩))
        · rw [q_cl (by omega), he i hi]; rfl
        · rw [q_cl (by omega)]; exact hs i hi g0 g
    · refine iq g2 (op_rf 2 hC (by omega) (by omega) rfl (bad ?_))
      have : ¬ w.toInt < 6 := fun q => g2 (q_lt.mpr q)
      omega
/-- the counts, as 'count' shows them -/
theorem op_count {w : Int32} (hC : CLay K) (hM : MLay K) (h0 : I 0 0 = I 59 0) (h1 : I 0 4 = I 59 6) (h2 : I 0 8 = I 59 9) (h3 : I 0 9 = I 59 22) (h4 : I 0 13 = I 59 62) (h5 : I 22 2 = I 59 77) (h6 : I 25 4 = I 59 89) (h7 : I 0 6 = I 59 107) (h8 : I 0 18 = I 59 114) (h9 : I 5 1 = I 59 21) (hf : ∀ k, k < 8 → I 1 k = I 75 k) (hs : P I L) : Op0 n0 xX12_count xX13_count d (d + 1) [.int w] K I L P := by
  refine wp_X12_count hC ?_
  rw [h0, h1, h2, h3, h4, h5, h6, h7, h8, h9]
  by_cases g0 : w = 0
  · exact ip g0 ⟨_, rfl, wp_X13_count hM (ip g0 ⟨rfl, hs⟩)⟩
  refine iq g0 ?_
  by_cases g1 : w = 1
  · exact ip g1 ⟨_, rfl, wp_X13_count hM (iq g0 (ip g1 ⟨rfl, hs⟩))⟩
  refine iq g1 ?_
  by_cases g2 : w = 2
  · exact ip g2 ⟨_, rfl, wp_X13_count hM (iq g0 (iq g1 (ip g2 ⟨rfl, hs⟩)))⟩
  refine iq g2 ?_
  by_cases g3 : w = 3
  · exact ip g3 ⟨_, rfl, wp_X13_count hM (iq g0 (iq g1 (iq g2 (ip g3 ⟨rfl, hs⟩))))⟩
  refine iq g3 ?_
  by_cases g4 : w = 4
  · exact ip g4 ⟨_, rfl, wp_X13_count hM (iq g0 (iq g1 (iq g2 (iq g3 (ip g4 ⟨rfl, hs⟩)))))⟩
  refine iq g4 ?_
  by_cases g5 : w = 5
  · exact ip g5 ⟨_, rfl, wp_X13_count hM (iq g0 (iq g1 (iq g2 (iq g3 (iq g4 (ip g5 ⟨rfl, hs⟩))))))⟩
  refine iq g5 ?_
  by_cases g6 : w = 6
  · exact ip g6 ⟨_, rfl, wp_X13_count hM (iq g0 (iq g1 (iq g2 (iq g3 (iq g4 (iq g5 (ip g6 ⟨rfl, hs⟩)))))))⟩
  refine iq g6 ?_
  by_cases g7 : w = 7
  · exact ip g7 ⟨_, rfl, wp_X13_count hM (iq g0 (iq g1 (iq g2 (iq g3 (iq g4 (iq g5 (iq g6 (ip g7 ⟨rfl, hs⟩))))))))⟩
  refine iq g7 ?_
  by_cases g8 : w = 8
  · exact ip g8 ⟨_, rfl, wp_X13_count hM (iq g0 (iq g1 (iq g2 (iq g3 (iq g4 (iq g5 (iq g6 (iq g7 (ip g8 ⟨rfl, hs⟩)))))))))⟩
  refine iq g8 ?_
  by_cases g9 : w = 9
  · exact ip g9 ⟨_, rfl, wp_X13_count hM (iq g0 (iq g1 (iq g2 (iq g3 (iq g4 (iq g5 (iq g6 (iq g7 (iq g8 (ip g9 ⟨rfl, hs⟩))))))))))⟩
  refine iq g9 ?_
  have e11 : (11 : Int32).toInt = 11 := rfl
  have e17 : (17 : Int32).toInt = 17 := rfl
  have e10 : (10 : Int32).toInt = 10 := rfl
  by_cases g : 11 ≤ w.toInt ∧ w.toInt ≤ 17
  · have ew : (w - 10).toInt = w.toInt - 10 := by rw [q_sub (by omega) (by omega)]; rfl
    have ga : ¬ w < 11 := fun q => by have := q_lt.mp q; omega
    have gb : ¬ 17 < w := fun q => by have := q_lt.mp q; omega
    have hin : vp_in (w - 10) 8 := q_in (by omega) (by omega)
    refine ⟨fun _ _ => hin, ?_⟩
    rw [if_neg ga, if_neg gb]
    refine ⟨_, rfl, wp_X13_count hM (iq g0 (iq g1 (iq g2 (iq g3 (iq g4 (iq g5 (iq g6 (iq g7 (iq g8 (iq g9 (c13_in hM ⟨_, rfl, fun _ => hin, ?_, hs⟩)))))))))))⟩
    rw [bI_t (by rw [q_i2l]; show 11 ≤ _ ∧ _ ≤ 17; omega), if_neg (by decide), hf]
    show (w - 10).toInt.toNat < 8
    omega
  · have hno : ¬ w < 11 → ¬ 17 < w → vp_in (w - 10) 8 := fun ga gb => by
      have h1 : ¬ w.toInt < 11 := fun q => ga (q_lt.mpr q)
      have h2 : ¬ 17 < w.toInt := fun q => gb (q_lt.mpr q)
      omega
    refine ⟨hno, ?_⟩
    have e : (if w < 11 then (-9 : Int32) else if 17 < w then -9 else I 1 ((w - 10).toNatClampNeg)) = -9 := by
      by_cases ga : w < 11
      · rw [if_pos ga]
      · rw [if_neg ga, if_pos]
        have : ¬ w.toInt < 11 := fun q => ga (q_lt.mpr q)
        exact q_lt.mpr (by omega)
    rw [e]
    refine ⟨_, rfl, wp_X13_count hM (iq g0 (iq g1 (iq g2 (iq g3 (iq g4 (iq g5 (iq g6 (iq g7 (iq g8 (iq g9 (c13_in hM ⟨_, rfl, ?_, ?_, hs⟩)))))))))))⟩
    · rw [bI_f (by rw [q_i2l]; show ¬ (11 ≤ _ ∧ _ ≤ 17); omega)]; exact fun q => absurd rfl q
    · rw [bI_f (by rw [q_i2l]; show ¬ (11 ≤ _ ∧ _ ≤ 17); omega), if_pos rfl]
end OP5
