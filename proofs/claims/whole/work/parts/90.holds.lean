section OHO
variable {n0 d : Nat} {K K' : z_K} {I I' : z_I} {L : z_L} {np nr nb na t ne : Nat} {pid pts rid rp rk ln cx cy bid m eid lc : Nat → Nat} {par : Nat → Option Nat} {X Y : Nat → List Int32} {A : Int32 → Int32 → Option (Int32 × Int32)} {P : z_K → z_I → z_L → Prop} {p0 p1 : Int32} {dy : Int32} {s p : Nat}
theorem Fz.zz {S : Nat → Nat → Prop} {a j : Nat} {v : Int32} (h : Fz S I I') : Fz S (zI I a j v) (zI I' a j v) := fun b k hn => by
  rw [zI_v, zI_v]
  split
  · rfl
  · exact h b k hn
theorem nI_prev {e : Nat} : nI (e + 1) - 1 = nI e := by
  rw [nI_succ]
  apply Int32.toBitVec_inj.mp
  simp
theorem DAt_hi (h : ∀ b, b < 152 → I' b = I b) : DAt I' X Y rp rk nr t pts par np s dy p = DAt I X Y rp rk nr t pts par np s dy p := by
  have ht : ∀ mm s d n, tabV I' mm s d n = tabV I mm s d n := by
    intro mm s d n
    induction n with
    | zero => rfl
    | succ n ih =>
      show (if I' 60 n = mm then if I' 61 n = s then if d < I' 63 n then tabV I' mm s d n else I' 62 n else tabV I' mm s d n else tabV I' mm s d n) = (if I 60 n = mm then if I 61 n = s then if d < I 63 n then tabV I mm s d n else I 62 n else tabV I mm s d n else tabV I mm s d n)
      rw [ih, h 60 (by omega), h 61 (by omega), h 62 (by omega), h 63 (by omega)]
  unfold DAt
  rw [h 81 (by omega), h 70 (by omega), h 71 (by omega), show (fun q => tabV I' (nI q) (nI s) dy t) = fun q => tabV I (nI q) (nI s) dy t from funext fun q => ht _ _ _ _]
theorem c13_holds_ok {Q : z_q} {e : Nat} (hM : MLay K) (he : e < 12) (hn2 : I 59 114 = nI (e + 1)) (hd : I 139 e = I 59 0)
    (h : RM0 n0 xX13_wrongDrawn (d + 11) [.ref (n0 + 59), .int p0, .int p1, .int (I 59 0)] K I L (fun vv I4 L5 => ∃ r6 : Int32, vv = some (.int r6) ∧ (if r6 < 0 then RM0 n0 xX13_refuse (d + 11) [.ref (n0 + 59), .int r6] K I4 L5 (fun vv I1 L1 => ∃ r : Int32, vv = some (.int r) ∧ Q (some (.int r)) I1 L1) else if I4 140 e = 8 then RM0 n0 xX13_refuse (d + 11) [.ref (n0 + 59), .int (-6)] K I4 L5 (fun vv I1 L1 => ∃ r : Int32, vv = some (.int r) ∧ Q (some (.int r)) I1 L1) else ∃ c : Nat, I4 140 e = nI c ∧ c < 8 ∧ Q (some (.int (nI (c + 1)))) (zI (zI (zI I4 141 (8 * e + c) p0) 142 (8 * e + c) p1) 140 e (nI (c + 1))) L5))) :
    RM0 n0 xX13_holds (d + 12) [.ref (n0 + 59), .int p0, .int p1] K I L Q := by
  refine wp_X13_holds hM ?_
  rw [hn2, nI_prev, q_cl (by omega)]
  refine iq (nI_pos (by omega)) ⟨q_inn (by omega) (by omega), ip hd (h.mono (fun vv I4 L4 ⟨r6, e6, g⟩ => ⟨r6, e6, ?_⟩))⟩
  by_cases c1 : r6 < 0
  · rw [if_pos c1] at g ⊢; exact g
  · rw [if_neg c1] at g ⊢
    by_cases c2 : I4 140 e = 8
    · rw [if_pos c2] at g ⊢; exact g
    · rw [if_neg c2] at g ⊢
      obtain ⟨c, ec, hc, hq⟩ := g
      rw [ec, show (8 : Int32) = nI 8 from rfl, q_nmul, q_nadd, q_cl (by omega), ← nI_succ, zI_s]
      exact ⟨q_inn (by omega) (by omega), hq⟩
theorem op_holds (hW : Wd K I np nr nb na t pid pts rid rp rk ln cx cy bid m par X Y A) (hE : EdK K ne eid) (hn : I 0 18 = nI ne) (hn2 : I 59 114 = nI ne) (hd : ∀ e, e < ne → I (eid e) 0 = I 139 e) (hl : ∀ e, e < ne → lc e ≤ 8 ∧ I (eid e) 3 = nI (lc e) ∧ I 140 e = nI (lc e)) (hday : ¬ bnd (I 59 0) 0 1000 < 0)
    (hF : ∀ e p K1 I1 v w, e + 1 = ne → p < np → lc e < 8 → KD K K1 → Fz (gS K) I I1 → Wd (zR K1 (eid e + 1) (lc e) (some (pid p))) (zI (zI I1 (eid e + 2) (lc e) v) (eid e) 3 w) np nr nb na t pid pts rid rp rk ln cx cy bid m par X Y A)
    (hs : ∀ e p s K1 I' L', e + 1 = ne → lc e < 8 → p < np → s < 11 → p0 = nI p → p1 = nI s → KD K K1 → DAt I X Y rp rk nr t pts par np s (I 59 0) p ≠ none → Fz (gS K) (zI (zI (zI (zI (zI I (eid e + 2) (lc e) (nI s)) (eid e) 3 (nI (lc e + 1))) 141 (8 * e + lc e) (nI p)) 142 (8 * e + lc e) (nI s)) 140 e (nI (lc e + 1))) I' → P (zR K1 (eid e + 1) (lc e) (some (pid p))) I' L')
    (hs1 : ∀ k, 1 ≤ k → k ≤ 7 → ∀ K' I' L', KD K K' → Fz (gS K) (rfI I k) I' → P K' I' L') :
    OpA n0 xX12_holds xX13_holds (d + 5) (d + 12) 0 0 [.int p0, .int p1] K I L P := by
  have hC := hW.1
  have hM := hW.2.1
  have hP := hW.2.2.2.1
  have hN := hW.2.2.2.2.1
  have hnp := hP.n
  have hE1 := hE.1
  have h00 : I 0 0 = I 59 0 := hW.2.2.2.2.2.2.2.2.2.2.2.2.1
  have hr : ∀ k, 1 ≤ k → k ≤ 7 → P K (rfI I k) L := fun k h1 h7 => hs1 k h1 h7 K _ L KD.rf Fz.rfl'
  cases ne with
  | zero =>
    refine wp_X12_holds hC ?_
    rw [hn]
    refine c12_editionOf_f hC hE hn (by decide) ⟨_, rfl, osn (op_rfK 5 hC (by omega) (by omega) rfl (wp_X13_holds hM ?_))⟩
    rw [zI_r (by omega), hn2]
    exact ip (by decide) (op_rr 5 hM (by omega) rfl (hr 5 (by omega) (by omega)))
  | succ e =>
    obtain ⟨a0, a1, a2, a3, a4, a5, a6, a7, a8, b1, b2, b3, b4, b5⟩ := hE.2.1 e (by omega)
    refine wp_X12_holds hC ?_
    rw [hn, nI_prev]
    refine c12_editionOf_t hC hE hn (by omega) ⟨_, rfl, oss ⟨by omega, a3, ?_⟩⟩
    rw [hd e (by omega), h00]
    by_cases gd : I 139 e = I 59 0
    · refine ip gd ?_
      have wd7 : ∀ k v, Wd K (zI I 1 k v) np nr nb na t pid pts rid rp rk ln cx cy bid m par X Y A := fun k v => hW.fT KD.rf (rf_gT Fz.rfl')
      by_cases g1 : 0 ≤ p0.toInt ∧ p0.toInt < np
      · obtain ⟨i, rfl, _, ei⟩ := q_of g1.1
        have hi : i < np := by omega
        have hlt := hP.lt hi
        refine c12_pieceOf_t hC hP hN.1 hi ⟨_, rfl, oss (c12_isSize hC ⟨_, rfl, ?_⟩)⟩
        by_cases g2 : 0 ≤ p1.toInt ∧ p1.toInt < 11
        · rw [bI_t g2]
          obtain ⟨s, rfl, _, es⟩ := q_of g2.1
          have hs11 : s < 11 := by omega
          rw [h00]
          refine iq (by decide) (c12_sndAt hW hi hs11 (fun K1 I1 L1 k1 f1 e1 d1 n1 => ⟨_, rfl, hC.kd k1, ?_⟩))
          have f1T : Fz (gT K) I I1 := f1.mono (fun _ _ z => gT_s z)
          have ne3 : ∀ j, ¬ gT K (eid e) j := fun j => gT_hi (by omega) (by rw [a3]; decide)
          have y3 : I1 (eid e) 3 = nI (lc e) := by rw [f1T _ _ (ne3 3)]; exact (hl e (by omega)).2.1
          have late : ∀ {J : z_I}, Fz (gT K) I J → J 59 114 = nI (e + 1) ∧ J 139 e = J 59 0 ∧ J 59 0 = I 59 0 ∧ J 140 e = nI (lc e) := fun f => ⟨by rw [f 59 114 (by unfold gT gS; omega)]; exact hn2, by rw [f 139 e (by unfold gT gS; omega), f 59 0 (by unfold gT gS; omega)]; exact gd, f 59 0 (by unfold gT gS; omega), by rw [f 140 e (by unfold gT gS; omega)]; exact (hl e (by omega)).2.2⟩
          have h8 := (hl e (by omega)).1
          cases eD : DAt I X Y rp rk nr t pts par np s (I 59 0) i with
          | none =>
            rw [bI_f (by simp)]
            have f2' : Fz (gT K) I (zI I1 1 7 (I1 1 7 + 1)) := rf_gT f1
            obtain ⟨t1, t2, t3, t4⟩ := late f2'
            refine ip rfl (op_rfK 7 (hC.kd k1) (by omega) (by omega) rfl (c13_holds_ok (hM.kd k1) (by omega) t1 t2 ?_))
            rw [t3]
            refine c13_wrongDrawn (hW.fT k1 f2') hi (fun z => absurd g2 z) (fun _ z => absurd z hday) (fun s' hs' es' _ I2 L2 f2 hx => ⟨_, rfl, ?_⟩)
            have ess : s' = s := ((q_ni (by omega) (by omega)).mp es').symm
            subst ess
            rw [DAt_f f2', eD, if_pos rfl]
            refine ip (by decide) (op_rr 7 (hM.kd k1) (by omega) rfl (hs1 7 (by omega) (by omega) K1 _ _ k1 ?_))
            rw [gS_k k1] at f2
            exact rf_late f1 f2
          | some g =>
            rw [bI_t (by simp)]
            refine iq (by decide) ⟨by rw [k1.1]; omega, by rw [k1.2.1]; exact a3, ?_⟩
            rw [y3]
            by_cases g8 : lc e < 8
            · refine ip (nI_lt (b := 8) g8 (by omega)) (wp_X3_addPiece ⟨by rw [k1.1]; omega, by rw [k1.2.1]; exact a3, ?_⟩)
              rw [y3, q_cl (by omega)]
              refine ip (nI_lt (b := 8) g8 (by omega)) ⟨_, by rw [k1.hi (by omega)]; exact b1, 8, by rw [k1.1]; omega, by rw [k1.2.1]; exact a4, q_inn g8 (by omega), by rw [k1.1]; omega, by rw [k1.2.1]; exact hP.cls hi, by show _ < K1.1; rw [k1.1]; omega, by show (K1.2.1 (eid e)).1 = 3; rw [k1.2.1]; exact a3, _, by rw [zR_ne (by omega), k1.hi (by omega)]; exact b2, 8, by show _ < K1.1; rw [k1.1]; omega, by show K1.2.1 _ = _; rw [k1.2.1]; exact a5, q_inn g8 (by omega), ?_⟩
              rw [zI_s, zI_r (by omega), y3, ← nI_succ]
              have w4 := hF e i K1 I1 (nI s) (nI (lc e + 1)) rfl hi g8 k1 f1
              refine ⟨_, rfl, w4.1, _, rfl, ?_⟩
              have lo : ∀ b, b < 152 → (zI (zI I1 (eid e + 2) (lc e) (nI s)) (eid e) 3 (nI (lc e + 1))) b = I1 b := fun b hb => by rw [zI_r (by omega), zI_r (by omega)]
              obtain ⟨t1, t2, t3, t4⟩ := late f1T
              have u3 := lo 59 (by omega)
              refine c13_holds_ok w4.2.1 (e := e) (by omega) (by rw [lo 59 (by omega)]; exact t1) (by rw [lo 59 (by omega), lo 139 (by omega)]; exact t2) ?_
              rw [u3, t3]
              refine c13_wrongDrawn w4 hi (fun z => absurd g2 z) (fun _ z => absurd z hday) (fun s' hs' es' _ I2 L2 f2 hx => ⟨_, rfl, ?_⟩)
              have ess : s' = s := ((q_ni (by omega) (by omega)).mp es').symm
              subst ess
              rw [DAt_hi lo, DAt_f f1T, eD, if_neg (show ¬ (some g = none) by simp)]
              have f2' : Fz (gS K) (zI (zI I1 (eid e + 2) (lc e) (nI s')) (eid e) 3 (nI (lc e + 1))) I2 := by
                rw [← gS_k k1]; exact f2
              have y : I2 140 e = nI (lc e) := by rw [f2' 140 e (by unfold gS; omega), lo 140 (by omega)]; exact t4
              refine iq (by decide) (iq (by rw [y]; intro z; have := (q_ni (b := 8) (by omega) (by omega)).mp z; omega) ⟨lc e, y, g8, rfl, hs e i s' K1 _ _ rfl g8 hi hs11 rfl rfl k1 (by rw [eD]; simp) ?_⟩)
              exact ((f1.zz.zz.trans f2').zz).zz.zz
            · have e8 : lc e = 8 := by omega
              have f2' : Fz (gT K) I (zI I1 1 6 (I1 1 6 + 1)) := rf_gT f1
              obtain ⟨t1, t2, t3, t4⟩ := late f2'
              refine iq (fun z => by rw [e8] at z; exact absurd z (by decide)) (op_rfK 6 (hC.kd k1) (by omega) (by omega) rfl (c13_holds_ok (hM.kd k1) (by omega) t1 t2 ?_))
              rw [t3]
              refine c13_wrongDrawn (hW.fT k1 f2') hi (fun z => absurd g2 z) (fun _ z => absurd z hday) (fun s' hs' es' _ I2 L2 f2 hx => ⟨_, rfl, ?_⟩)
              have ess : s' = s := ((q_ni (by omega) (by omega)).mp es').symm
              subst ess
              rw [DAt_f f2', eD, if_neg (show ¬ (some g = none) by simp)]
              rw [gS_k k1] at f2
              have y : I2 140 e = 8 := by rw [f2 140 e (by unfold gS; omega), t4, e8]; rfl
              exact iq (by decide) (ip y (op_rr 6 (hM.kd k1) (by omega) rfl (hs1 6 (by omega) (by omega) K1 _ _ k1 (rf_late f1 f2))))
        · rw [bI_f g2]
          refine ip rfl (op_rfK 1 hC (by omega) (by omega) rfl (c13_holds_ok hM (e := e) (by omega) (by rw [zI_r (by omega)]; exact hn2) (by rw [zI_r (by omega), zI_r (by omega)]; exact gd) (c13_wrongDrawn (wd7 1 _) hi (fun _ => ⟨_, rfl, ip (by decide) (op_rr 1 hM (by omega) rfl (hr 1 (by omega) (by omega)))⟩) (fun z => absurd z g2) (fun s hs es => absurd (by rw [es, q_nI (by omega)]; omega) g2))))
      · refine c12_pieceOf_f hC hP hN.1 g1 ⟨_, rfl, osn (op_rfK 1 hC (by omega) (by omega) rfl (c13_holds_ok hM (e := e) (by omega) (by rw [zI_r (by omega)]; exact hn2) (by rw [zI_r (by omega), zI_r (by omega)]; exact gd) (c13_wrongDrawn_f (wd7 1 _) g1 ⟨_, rfl, ip (by decide) (op_rr 1 hM (by omega) rfl (hr 1 (by omega) (by omega)))⟩)))⟩
    · refine iq gd (op_rfK 3 hC (by omega) (by omega) rfl (wp_X13_holds hM ?_))
      rw [zI_r (by omega), hn2, nI_prev, q_cl (by omega), zI_r (by omega)]
      exact iq (nI_pos (by omega)) ⟨q_inn (by omega) (by omega), iq gd (op_rr 3 hM (by omega) rfl (hr 3 (by omega) (by omega)))⟩
end OHO
