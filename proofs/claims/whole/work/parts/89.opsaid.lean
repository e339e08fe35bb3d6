section OSD
variable {n0 d : Nat} {K K' : z_K} {I I' : z_I} {L : z_L} {np nr nb na t nt : Nat} {pid pts rid rp rk ln cx cy bid m tp tb ta te : Nat → Nat} {par : Nat → Option Nat} {X Y : Nat → List Int32} {A : Int32 → Int32 → Option (Int32 × Int32)} {P : z_K → z_I → z_L → Prop} {p0 p1 p2 p3 p4 : Int32}
theorem trM_c {mt : Nat → Bool} {f f' : Nat → Int32} {g : Int32 → Int32 → Int32} {z : Int32} (h : f' = f) (n : Nat) : trM mt f' g z n = trM mt f g z n := by rw [h]
/-- the reference's said once its own bounds are passed -/
theorem c13_said_ok {Q : z_q} {i j l b : Nat} (hW : Wd K I np nr nb na t pid pts rid rp rk ln cx cy bid m par X Y A) (hT : TrD I nt nb bid tp tb ta te) (hi : i < np) (hj : j < pts i) (hl : l < pts i) (hb : b < nb) (h4 : 0 ≤ p4.toInt ∧ p4.toInt ≤ 2)
    (h : ∀ x y z, trR (trB tp tb ta te i b j l) I nt x y z → (if x = 0 then RM0 n0 xX13_refuseFar (d + 11) [.ref (n0 + 59), .int (-5)] K I L (fun vv I1 L1 => ∃ r : Int32, vv = some (.int r) ∧ Q (some (.int r)) I1 L1) else if z < y then RM0 n0 xX13_refuseFar (d + 11) [.ref (n0 + 59), .int (-3)] K I L (fun vv I1 L1 => ∃ r : Int32, vv = some (.int r) ∧ Q (some (.int r)) I1 L1) else if p4 < 2 then Q (some (.int (if p4 = 0 then y else z))) I L else RM0 n0 xX13_drawFor (d + 11) [.ref (n0 + 59), .int (nI i), .int (nI b)] K I L (fun vv I5 L6 => ∃ r7 : Int32, vv = some (.int r7) ∧ (if r7 = 0 then RM0 n0 xX13_refuseFar (d + 11) [.ref (n0 + 59), .int (-7)] K I5 L6 (fun vv I1 L1 => ∃ r : Int32, vv = some (.int r) ∧ Q (some (.int r)) I1 L1) else RM0 n0 xX13_lengthOf (d + 11) [.ref (n0 + 59), .int (nI i), .int (nI j), .int (nI l)] K I5 L6 (fun vv I9 L10 => ∃ r11 : Int32, vv = some (.int r11) ∧ Q (some (.int (if r11 < y then 0 else if z < r11 then 0 else 1))) I9 L10))))) :
    RM0 n0 xX13_said (d + 12) [.ref (n0 + 59), .int (nI i), .int (nI b), .int (nI j), .int (nI l), .int p4] K I L Q := by
  have hM := hW.2.1
  have hP := hW.2.2.2.1
  have hN := hW.2.2.2.2.1
  have hBd := hW.2.2.2.2.2.2.2.2.2.1
  have hBN := hW.2.2.2.2.2.2.2.2.2.2.1
  have hnp := hP.n
  have hnb := hBd.n
  have hpt := (hN.2.2 i hi).2.2
  have h1 := hT.1
  refine wp_X13_said hM (c13_isPoint_t hM hN.2.1 hnp hN.m hi hj ⟨_, rfl, iq (by decide) (c13_isPoint_t hM hN.2.1 hnp hN.m hi hl ⟨_, rfl, iq (by decide) (c13_isBody hM hBN.2 (by omega) ⟨_, rfl, ?_⟩)⟩)⟩)
  rw [bI_t (by rw [q_nI (by omega)]; omega)]
  refine iq (by decide) (c13_in_2 hM ⟨_, rfl, ?_⟩)
  rw [bI_t h4]
  refine iq (by decide) (c13_said65 hM hT hnb (by omega) (by omega) (by omega) (by omega) (fun x y z hr => ?_) nt 0 0 0 0 (by omega) ?_)
  · refine wp_X13_said_65 hM ?_
    rw [hT.2.2.1]
    refine iq (fun z => by have := q_lt.mp z; omega) ?_
    have g := h x y z hr
    by_cases c1 : x = 0
    · rw [if_pos c1] at g ⊢; exact g
    · rw [if_neg c1] at g ⊢
      by_cases c2 : z < y
      · rw [if_pos c2] at g ⊢; exact g
      · rw [if_neg c2] at g ⊢
        by_cases c3 : p4 < 2
        · rw [if_pos c3] at g ⊢; exact g
        · rw [if_neg c3] at g ⊢
          refine g.mono (fun vv I5 L5 ⟨r7, e7, g7⟩ => ⟨r7, e7, ?_⟩)
          by_cases c4 : r7 = 0
          · rw [if_pos c4] at g7 ⊢; exact g7
          · rw [if_neg c4] at g7 ⊢
            refine g7.mono (fun vv I9 L9 ⟨r11, e11, g11⟩ => ⟨r11, e11, c13_in hM ⟨_, rfl, ?_⟩⟩)
            rw [Int32.toInt_toInt64, Int32.toInt_toInt64, Int32.toInt_toInt64]
            by_cases u1 : r11 < y
            · rw [if_pos u1] at g11
              rw [bI_f (fun z => by have := q_lt.mp u1; omega)]
              exact g11
            · rw [if_neg u1] at g11
              have v1 := mt q_lt.mpr u1
              by_cases u2 : z < r11
              · rw [if_pos u2] at g11
                rw [bI_f (fun z => by have := q_lt.mp u2; omega)]
                exact g11
              · rw [if_neg u2] at g11
                have v2 := mt q_lt.mpr u2
                rw [bI_t (by omega)]
                exact g11
  · show (if (false = true) then _ else _)
    exact iq (by decide) ⟨rfl, rfl, rfl, rfl, rfl⟩
theorem op_said (hW : Wd K I np nr nb na t pid pts rid rp rk ln cx cy bid m par X Y A) (hB : WdB I np A) (hT : TrD I nt nb bid tp tb ta te) (hs0 : ∀ K' I' L', KD K K' → Fz (gS K) I I' → P K' I' L') (hs1 : ∀ k, 1 ≤ k → k ≤ 7 → ∀ K' I' L', KD K K' → Fz (gS K) (rfI I k) I' → P K' I' L') :
    OpA n0 xX12_said xX13_said (d + 5) (d + 12) 0 0 [.int p0, .int p1, .int p2, .int p3, .int p4] K I L P := by
  have hC := hW.1
  have hM := hW.2.1
  have hP := hW.2.2.2.1
  have hN := hW.2.2.2.2.1
  have hBd := hW.2.2.2.2.2.2.2.2.2.1
  have hBN := hW.2.2.2.2.2.2.2.2.2.2.1
  have hnp := hP.n
  have hnb := hBd.n
  have hr : ∀ k, 1 ≤ k → k ≤ 7 → P K (rfI I k) L := fun k h1 h7 => hs1 k h1 h7 K _ L KD.rf Fz.rfl'
  by_cases g1 : isPt np pts p0 p2
  · obtain ⟨i, j, rfl, rfl, hi, hj⟩ := isPt_of hnp g1
    have hlt := hP.lt hi
    have hpt := (hN.2.2 i hi).2.2
    by_cases gl : 0 ≤ p3.toInt ∧ p3.toInt < pts i
    · obtain ⟨l, rfl, _, el⟩ := q_of gl.1
      have hl : l < pts i := by omega
      by_cases g2 : 0 ≤ p1.toInt ∧ p1.toInt < nb
      · obtain ⟨b, rfl, hb1, eb⟩ := q_of g2.1
        have hb : b < nb := by omega
        refine wp_X12_said hC (c12_pieceWith_t hC hP hN.1 hN.c hi hj ⟨_, rfl, c12_bodyOf_t hC hBd hBN.1 hb ⟨_, rfl, oss ⟨by omega, hP.cls hi, c5_has (by omega) (hP.cls hi) (hN.c i hi).1 hpt.2 ⟨_, rfl, ?_⟩⟩⟩⟩)
        rw [bI_t gl]
        refine iq (by decide) (oss ?_)
        by_cases g4 : 0 ≤ p4.toInt ∧ p4.toInt ≤ 2
        · refine iq (fun z => by have := q_lt.mp z; have e0 : (0 : Int32).toInt = 0 := rfl; omega) (iq (fun z => by have := q_lt.mp z; have e0 : (2 : Int32).toInt = 2 := rfl; omega) (wp_X12_trialKey hC ⟨_, rfl, ?_⟩))
          rw [q_key]
          have blt := hBd.lt hb
          refine ⟨by omega, hBd.cls hb, c0_hasTrial hBd hT hb (by omega) (by omega) (by omega) ⟨_, rfl, ?_⟩⟩
          by_cases ga : trA (trB tp tb ta te i b j l) nt = true
          · rw [bI_t ga]
            refine iq (by decide) (c0_leastSaid hBd hT hb (by omega) (by omega) (by omega) ⟨_, rfl, c0_mostSaid hBd hT hb (by omega) (by omega) (by omega) ⟨_, rfl, ?_⟩⟩)
            have tr : ∀ I', Fz (gT K) I I' → ∀ x y z, trR (trB tp tb ta te i b j l) I' nt x y z → x ≠ 0 ∧ y = trM (trB tp tb ta te i b j l) (I 137) gmx (-99999) nt ∧ z = trM (trB tp tb ta te i b j l) (I 138) gmn 199998 nt := fun I' f x y z h => by
              unfold trR at h
              rw [if_pos ga, trM_c (show I' 137 = I 137 from funext fun k => f 137 k (by unfold gT gS; omega)), trM_c (show I' 138 = I 138 from funext fun k => f 138 k (by unfold gT gS; omega))] at h
              exact ⟨h.1, h.2.2⟩
            generalize trM (trB tp tb ta te i b j l) (I 137) gmx (-99999) nt = lo at tr ⊢
            generalize trM (trB tp tb ta te i b j l) (I 138) gmn 199998 nt = up at tr ⊢
            by_cases gu : up < lo
            · have f2 : Fz (gT K) I (zI I 1 3 (I 1 3 + 1)) := rf_gT Fz.rfl'
              refine ip gu (op_rfKA 3 hC (by omega) (by omega) rfl (c13_said_ok (hW.fT KD.rf f2) (hT.fT hBd f2) hi hj hl hb g4 (fun x y z h => ?_)))
              obtain ⟨e1, e2, e3⟩ := tr _ f2 x y z h
              rw [e2, e3]
              exact iq e1 (ip gu (op_rrA 3 hM (by omega) rfl (hr 3 (by omega) (by omega))))
            · refine iq gu ?_
              by_cases g5 : p4 < 2
              · refine ip g5 ⟨_, rfl, c13_said_ok hW hT hi hj hl hb g4 (fun x y z h => ?_)⟩
                obtain ⟨e1, e2, e3⟩ := tr _ Fz.rfl' x y z h
                rw [e2, e3]
                exact iq e1 (iq gu (ip g5 ⟨rfl, hs0 K I L KD.rf Fz.rfl'⟩))
              · refine iq g5 (c12_sndFor hW hi hb (fun K1 I1 L1 k1 f1 d1 n1 => ⟨_, rfl, hC.kd k1, ?_⟩))
                have w1 := hW.fr k1 f1
                have f1T : Fz (gT K) I I1 := f1.mono (fun _ _ z => gT_s z)
                cases eD : DFo I X Y rp rk nr t pts par A np b i with
                | none =>
                  rw [bI_f (by simp)]
                  have f2' : Fz (gT K) I (zI I1 1 7 (I1 1 7 + 1)) := rf_gT f1
                  refine ip rfl (op_rfKA 7 (hC.kd k1) (by omega) (by omega) rfl (c13_said_ok (hW.fT k1 f2') (hT.fT hBd f2') hi hj hl hb g4 (fun x y z h => ?_)))
                  obtain ⟨e1, e2, e3⟩ := tr _ f2' x y z h
                  rw [e2, e3]
                  refine iq e1 (iq gu (iq g5 (c13_drwFor (hW.fT k1 f2') hi hb (fun I2 L2 f2 hx => ⟨_, rfl, ?_⟩))))
                  rw [DFo_f f2', eD, bI_f (by simp)]
                  refine ip rfl (op_rrA 7 (hM.kd k1) (by omega) rfl (hs1 7 (by omega) (by omega) K1 _ _ k1 ?_))
                  rw [gS_k k1] at f2
                  exact rf_late f1 f2
                | some g =>
                  rw [bI_t (by simp)]
                  have hbg := DFo_b hW hB hi hb eD
                  have hB1 := hB.fT f1T
                  refine iq (by decide) (c2_lengthOf (g := g) w1 hB1 hi (fun k hk => d1.pl hi n1 eD hk) hbg hj hl (fun I3 f3 => ⟨_, rfl, _, rfl, ?_⟩))
                  have f3g : Fz (gS K) I I3 := f1.trans (f3.mono (fun a j z => trS_g z))
                  have f3T : Fz (gT K) I I3 := f3g.mono (fun _ _ z => gT_s z)
                  refine c13_said_ok (hW.fr k1 f3g) (hT.fT hBd f3T) hi hj hl hb g4 (fun x y z h => ?_)
                  obtain ⟨e1, e2, e3⟩ := tr _ f3T x y z h
                  rw [e2, e3]
                  refine iq e1 (iq gu (iq g5 (c13_drwFor (hW.fr k1 f3g) hi hb (fun I2 L2 f2 hx => ⟨_, rfl, ?_⟩))))
                  rw [DFo_f f3T] at hx ⊢
                  rw [eD, bI_t (show some g ≠ none by simp)]
                  rw [gS_k k1] at f2
                  have f2g : Fz (gS K) I I2 := f3g.trans f2
                  have f2T : Fz (gT K) I I2 := f2g.mono (fun _ _ z => gT_s z)
                  refine iq (by decide) (c13_lengthOf (d := d + 7) (g := g) (hW.fr k1 f2g) (hB.fT f2T) hi (hx g eD) hbg hj hl (fun I4 f4 => ⟨_, rfl, ?_, hs0 K1 I4 L2 k1 (f2g.trans (f4.mono (fun a j z => fwS_g z)))⟩))
                  rw [LenP_f f2T, LenP_f f1T]
          · rw [bI_f ga]
            have f2 : Fz (gT K) I (zI I 1 5 (I 1 5 + 1)) := rf_gT Fz.rfl'
            refine ip rfl (op_rfKA 5 hC (by omega) (by omega) rfl (c13_said_ok (hW.fT KD.rf f2) (hT.fT hBd f2) hi hj hl hb g4 (fun x y z h => ?_)))
            unfold trR at h
            rw [if_neg ga] at h
            exact ip h.1 (op_rrA 5 hM (by omega) rfl (hr 5 (by omega) (by omega)))
        · have bad : OpR n0 xX13_said (d + 12) [.int (nI i), .int (nI b), .int (nI j), .int (nI l), .int p4] K (zI I 1 2 (I 1 2 + 1)) L (P K) (1000000000 - (-2)) := by
            refine wp_X13_said hM (c13_isPoint_t hM (hN.n' re_rf) hnp (hN.m' re_rf) hi hj ⟨_, rfl, iq (by decide) (c13_isPoint_t hM (hN.n' re_rf) hnp (hN.m' re_rf) hi hl ⟨_, rfl, iq (by decide) (c13_isBody hM (hBN.m' re_rf) (by omega) ⟨_, rfl, ?_⟩)⟩)⟩)
            rw [bI_t g2]
            refine iq (by decide) (c13_in_2 hM ⟨_, rfl, ?_⟩)
            rw [bI_f g4]
            exact ip rfl (op_rrA 2 hM (by omega) rfl (hr 2 (by omega) (by omega)))
          by_cases g5 : p4 < 0
          · exact ip g5 (op_rfKA 2 hC (by omega) (by omega) rfl bad)
          · refine iq g5 (ip (q_lt.mpr ?_) (op_rfKA 2 hC (by omega) (by omega) rfl bad))
            have := mt q_lt.mpr g5
            have e0 : (0 : Int32).toInt = 0 := rfl
            have e1 : (2 : Int32).toInt = 2 := rfl
            omega
      · refine wp_X12_said hC (c12_pieceWith_t hC hP hN.1 hN.c hi hj ⟨_, rfl, c12_bodyOf_f hC hBd hBN.1 g2 ⟨_, rfl, oss ⟨by omega, hP.cls hi, c5_has (by omega) (hP.cls hi) (hN.c i hi).1 hpt.2 ⟨_, rfl, ?_⟩⟩⟩⟩)
        rw [bI_t gl]
        refine iq (by decide) (osn (op_rfKA 1 hC (by omega) (by omega) rfl (wp_X13_said hM (c13_isPoint_t hM (hN.n' re_rf) hnp (hN.m' re_rf) hi hj ⟨_, rfl, iq (by decide) (c13_isPoint_t hM (hN.n' re_rf) hnp (hN.m' re_rf) hi hl ⟨_, rfl, iq (by decide) (c13_isBody hM (hBN.m' re_rf) (by omega) ⟨_, rfl, ?_⟩)⟩)⟩))))
        rw [bI_f g2]
        exact ip rfl (op_rrA 1 hM (by omega) rfl (hr 1 (by omega) (by omega)))
    · have bad : OpR n0 xX13_said (d + 12) [.int (nI i), .int p1, .int (nI j), .int p3, .int p4] K (zI I 1 1 (I 1 1 + 1)) L (P K) (1000000000 - (-1)) := wp_X13_said hM (c13_isPoint_t hM (hN.n' re_rf) hnp (hN.m' re_rf) hi hj ⟨_, rfl, iq (by decide) (c13_isPoint_f hM (hN.n' re_rf) hnp (hN.m' re_rf) (fun z => gl ((isPt_iff hnp hi hpt.2).mp z)) ⟨_, rfl, ip rfl (op_rrA 1 hM (by omega) rfl (hr 1 (by omega) (by omega)))⟩)⟩)
      by_cases g2 : 0 ≤ p1.toInt ∧ p1.toInt < nb
      · obtain ⟨b, rfl, hb1, eb⟩ := q_of g2.1
        refine wp_X12_said hC (c12_pieceWith_t hC hP hN.1 hN.c hi hj ⟨_, rfl, c12_bodyOf_t hC hBd hBN.1 (by omega) ⟨_, rfl, oss ⟨by omega, hP.cls hi, c5_has (by omega) (hP.cls hi) (hN.c i hi).1 hpt.2 ⟨_, rfl, ?_⟩⟩⟩⟩)
        rw [bI_f gl]
        exact ip rfl (op_rfKA 1 hC (by omega) (by omega) rfl bad)
      · refine wp_X12_said hC (c12_pieceWith_t hC hP hN.1 hN.c hi hj ⟨_, rfl, c12_bodyOf_f hC hBd hBN.1 g2 ⟨_, rfl, oss ⟨by omega, hP.cls hi, c5_has (by omega) (hP.cls hi) (hN.c i hi).1 hpt.2 ⟨_, rfl, ?_⟩⟩⟩⟩)
        rw [bI_f gl]
        exact ip rfl (op_rfKA 1 hC (by omega) (by omega) rfl bad)
  · have bad : OpR n0 xX13_said (d + 12) [.int p0, .int p1, .int p2, .int p3, .int p4] K (zI I 1 1 (I 1 1 + 1)) L (P K) (1000000000 - (-1)) := wp_X13_said hM (c13_isPoint_f hM (hN.n' re_rf) hnp (hN.m' re_rf) g1 ⟨_, rfl, ip rfl (op_rrA 1 hM (by omega) rfl (hr 1 (by omega) (by omega)))⟩)
    by_cases g2 : 0 ≤ p1.toInt ∧ p1.toInt < nb
    · obtain ⟨b, rfl, hb1, eb⟩ := q_of g2.1
      exact wp_X12_said hC (c12_pieceWith_f hC hP hN.1 hN.c g1 ⟨_, rfl, c12_bodyOf_t hC hBd hBN.1 (by omega) ⟨_, rfl, osn (op_rfKA 1 hC (by omega) (by omega) rfl bad)⟩⟩)
    · exact wp_X12_said hC (c12_pieceWith_f hC hP hN.1 hN.c g1 ⟨_, rfl, c12_bodyOf_f hC hBd hBN.1 g2 ⟨_, rfl, osn (op_rfKA 1 hC (by omega) (by omega) rfl bad)⟩⟩)
end OSD
