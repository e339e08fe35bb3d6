section OSH
variable {n0 d N : Nat} {K K' : z_K} {I I' : z_I} {L : z_L} {P : z_K → z_I → z_L → Prop} {np nr nb na t : Nat} {pid pts rid rp rk ln cx cy bid m mp ms : Nat → Nat} {par : Nat → Option Nat} {X Y : Nat → List Int32} {A : Int32 → Int32 → Option (Int32 × Int32)} {cw ow st : Nat} {p0 p1 : Int32}
theorem op_shortest (hW : Wd K I np nr nb na t pid pts rid rp rk ln cx cy bid m par X Y A) (hB : WdB I np A) (hMk : MkD K I N np pid mp ms) (hcl : ClE I cw ow st) (hs0 : ∀ K' I' L', KD K K' → Fz (gX K) I I' → P K' I' L') (hs1 : ∀ k, 1 ≤ k → k ≤ 7 → ∀ K' I' L', KD K K' → Fz (gX K) (rfI I k) I' → P K' I' L') :
    OpA n0 xX12_shortest xX13_shortest (d + 10) (d + 13) 0 0 [.int p0] K I L P := by
  have hC := hW.1
  have hM := hW.2.1
  have hN4 := hMk.1
  have hr : ∀ k, 1 ≤ k → k ≤ 7 → P K (rfI I k) L := fun k h1 h7 => hs1 k h1 h7 K _ L KD.rf Fz.rfl'
  have q0 : ∀ x : Int32, (x < 0 ↔ x.toInt < 0) := fun x => q_lt
  have q1 : ∀ x : Int32, (1 < x ↔ 1 < x.toInt) := fun x => q_lt
  by_cases g : 0 ≤ p0.toInt ∧ p0.toInt ≤ 1
  · have hle : (lyR (lyM (stF I X Y rp rk nr t pts par np mp ms) cw ow st) N).1 ≤ 97 := dfs_le N (fun _ => false) (fun _ _ => false) 0 (fun _ => 0) (97, fun _ => 0)
    refine wp_X12_shortest hC (iq (fun z => by have := (q0 p0).mp z; omega) (iq (fun z => by have := (q1 p0).mp z; omega) (c12_layingRefused (d := d) hW hB hMk hcl (fun hz => ⟨_, rfl, hC, ?_⟩) (fun K1 I1 L1 k1 f1 hp e => ⟨_, rfl, hC.kd k1, ?_⟩) (fun K1 I1 L1 k1 f1 hp e hL hc hb hPl => ⟨_, rfl, hC.kd k1, ?_⟩))))
    · refine iq (by decide) (op_rfK 5 hC (by omega) (by omega) rfl (wp_X13_shortest hM (c13_in_1 hM ⟨_, rfl, ?_⟩)))
      rw [bI_t g]
      refine iq (by decide) (c13_shOr (d := d) hW hB hMk hcl KD.rf (rf_gX Fz.rfl') (fun _ => ⟨_, rfl, ip (by decide) (op_rr 5 hM (by omega) rfl (hr 5 (by omega) (by omega)))⟩) (fun _ _ _ z => by omega) (fun _ _ _ z => by omega))
    · refine iq (by decide) (op_rfK 7 (hC.kd k1) (by omega) (by omega) rfl (wp_X13_shortest (hM.kd k1) (c13_in_1 (hM.kd k1) ⟨_, rfl, ?_⟩)))
      rw [bI_t g]
      refine iq (by decide) (c13_shOr (d := d) hW hB hMk hcl k1 (rf_gX f1) (fun z => by omega) (fun I2 L2 f2 _ _ => ⟨_, rfl, ip (by decide) (op_rr 7 (hM.kd k1) (by omega) rfl (hs1 7 (by omega) (by omega) K1 _ _ k1 (rf_lateX f1 f2)))⟩) (fun I2 L2 f2 _ e2 => ?_))
      obtain ⟨i, hi, e⟩ := e
      exact absurd e (e2 i hi)
    · have f1T : Fz (gT K) I I1 := f1.mono (fun _ _ z => gX_T z)
      have bad : ∀ {Q : Prop}, (∃ i, i < N ∧ stO I X Y rp rk nr t pts par np mp ms i = none) → Q := fun ⟨i, hi, z⟩ => absurd z (e i hi)
      by_cases g97 : (lyR (lyM (stF I X Y rp rk nr t pts par np mp ms) cw ow st) N).1 < 97
      · rw [if_pos g97]
        refine ip rfl ?_
        have tail : ∀ r : Int32, r = (if p0 = 0 then nI (lyR (lyM (stF I X Y rp rk nr t pts par np mp ms) cw ow st) N).1 else (nI (smN (fun i => (fcA (stF I X Y rp rk nr t pts par np mp ms i) 24).1) N) + nI cw - 1) / nI cw) → OpR n0 xX13_shortest (d + 13) [.int p0] K1 I1 L1 (P K1) r := by
          intro r er
          refine wp_X13_shortest (hM.kd k1) (c13_in_1 (hM.kd k1) ⟨_, rfl, ?_⟩)
          rw [bI_t g]
          refine iq (by decide) (c13_shOr (d := d) hW hB hMk hcl k1 f1T (fun z => by omega) (fun _ _ _ _ z => bad z) (fun I2 L2 f2 _ _ c2 _ => ⟨_, rfl, ?_⟩))
          rw [if_pos g97]
          refine iq (fun z => by have := (q_nlt (b := 0) (by omega) (by omega)).mp z; omega) ?_
          have f2X : Fz (gX K) I I2 := f1.trans f2
          have f2T : Fz (gT K) I I2 := f2X.mono (fun _ _ z => gX_T z)
          have lp : ∀ w k, k + w = N → Z n0 xX13_shortest (d + 13) 0 0 37 [(0, .ref (n0 + 59)), (1, .int p0), (2, .int (nI (lyR (lyM (stF I X Y rp rk nr t pts par np mp ms) cw ow st) N).1)), (3, .int (nI (smN (fun i => (fcA (stF I X Y rp rk nr t pts par np mp ms i) 24).1) k))), (4, .int (nI k))] [] K1 I2 L2 (z_q0 K1 (fun v I1 L1 => v = some (.int r) ∧ P K1 I1 L1)) := by
            intro w
            induction w with
            | zero =>
              intro k hk
              have : k = N := by omega
              subst this
              refine wp_X13_shortest_37 (hM.kd k1) ?_
              rw [(hMk.fT k1 f2T).2.2.1, (hcl.fT f2T).1.2.1]
              have hcw := hcl.1.2.2
              refine iq (fun z => by have := q_lt.mp z; omega) ⟨fun _ z => by have := (q_ni (b := 0) (by omega) (by omega)).mp z; omega, ?_, hs0 K1 I2 L2 k1 f2X⟩
              rw [er]
            | succ w ih =>
              intro k hk
              refine wp_X13_shortest_37 (hM.kd k1) ?_
              rw [(hMk.fT k1 f2T).2.2.1]
              refine ip (nI_lt (by omega) (by omega)) ⟨q_inn (by omega) (by omega), ?_⟩
              rw [q_cl (by omega), c2 k (by omega), q_nadd, ← nI_succ]
              exact ih (k + 1) (by omega)
          exact lp N 0 (by omega)
        by_cases gp : p0 = 0
        · rw [hb]
          exact ip gp ⟨_, rfl, tail _ (by rw [if_pos gp])⟩
        · refine iq gp (c4_bound (d := d + 8) (cn := fun i => (fcA (stF I X Y rp rk nr t pts par np mp ms i) 24).1) hL hc ⟨_, rfl, _, rfl, tail _ ?_⟩)
          rw [if_neg gp]
          rfl
      · rw [if_neg g97]
        refine iq (by decide) (op_rfK 3 (hC.kd k1) (by omega) (by omega) rfl (wp_X13_shortest (hM.kd k1) (c13_in_1 (hM.kd k1) ⟨_, rfl, ?_⟩)))
        rw [bI_t g]
        refine iq (by decide) (c13_shOr (d := d) hW hB hMk hcl k1 (rf_gX f1) (fun z => by omega) (fun _ _ _ _ z => bad z) (fun I2 L2 f2 _ _ _ _ => ⟨_, rfl, ?_⟩))
        rw [if_neg g97]
        exact ip (by decide) (op_rr 3 (hM.kd k1) (by omega) rfl (hs1 3 (by omega) (by omega) K1 _ _ k1 (rf_lateX f1 f2)))
  · have rf : OpR n0 xX13_shortest (d + 13) [.int p0] K (zI I 1 2 (I 1 2 + 1)) L (P K) (-2) := by
      refine wp_X13_shortest hM (c13_in_1 hM ⟨_, rfl, ?_⟩)
      rw [bI_f g]
      exact ip rfl (op_rr 2 hM (by omega) rfl (hr 2 (by omega) (by omega)))
    by_cases g1 : p0.toInt < 0
    · exact wp_X12_shortest hC (ip ((q0 p0).mpr g1) (op_rfK 2 hC (by omega) (by omega) rfl rf))
    · exact wp_X12_shortest hC (iq (fun z => g1 ((q0 p0).mp z)) (ip ((q1 p0).mpr (by omega)) (op_rfK 2 hC (by omega) (by omega) rfl rf)))
theorem op_place (hW : Wd K I np nr nb na t pid pts rid rp rk ln cx cy bid m par X Y A) (hB : WdB I np A) (hMk : MkD K I N np pid mp ms) (hcl : ClE I cw ow st) (hs0 : ∀ K' I' L', KD K K' → Fz (gX K) I I' → P K' I' L') (hs1 : ∀ k, 1 ≤ k → k ≤ 7 → ∀ K' I' L', KD K K' → Fz (gX K) (rfI I k) I' → P K' I' L') :
    OpA n0 xX12_place xX13_place (d + 10) (d + 13) 0 0 [.int p0, .int p1] K I L P := by
  have hC := hW.1
  have hM := hW.2.1
  have hN4 := hMk.1
  have hr : ∀ k, 1 ≤ k → k ≤ 7 → P K (rfI I k) L := fun k h1 h7 => hs1 k h1 h7 K _ L KD.rf Fz.rfl'
  have q0 : ∀ x : Int32, (x < 0 ↔ x.toInt < 0) := fun x => q_lt
  have q3 : ∀ x : Int32, (x < 3 ↔ x.toInt < 3) := fun x => q_lt
  by_cases g : 0 ≤ p1.toInt ∧ p1.toInt ≤ 2
  · refine wp_X12_place hC (iq (fun z => by have := (q0 p1).mp z; omega) (ip ((q3 p1).mpr (by omega)) (c12_layingRefused (d := d) hW hB hMk hcl (fun hz => ⟨_, rfl, hC, ?_⟩) (fun K1 I1 L1 k1 f1 hp e => ⟨_, rfl, hC.kd k1, ?_⟩) (fun K1 I1 L1 k1 f1 hp e hL hc hb hPl => ⟨_, rfl, hC.kd k1, ?_⟩))))
    · refine iq (by decide) (op_rfK 5 hC (by omega) (by omega) rfl (wp_X13_place hM (c13_in_2 hM ⟨_, rfl, ?_⟩)))
      rw [bI_t g]
      refine iq (by decide) (c13_shOr (d := d) hW hB hMk hcl KD.rf (rf_gX Fz.rfl') (fun _ => ⟨_, rfl, ip (by decide) (op_rr 5 hM (by omega) rfl (hr 5 (by omega) (by omega)))⟩) (fun _ _ _ z => by omega) (fun _ _ _ z => by omega))
    · refine iq (by decide) (op_rfK 7 (hC.kd k1) (by omega) (by omega) rfl (wp_X13_place (hM.kd k1) (c13_in_2 (hM.kd k1) ⟨_, rfl, ?_⟩)))
      rw [bI_t g]
      refine iq (by decide) (c13_shOr (d := d) hW hB hMk hcl k1 (rf_gX f1) (fun z => by omega) (fun I2 L2 f2 _ _ => ⟨_, rfl, ip (by decide) (op_rr 7 (hM.kd k1) (by omega) rfl (hs1 7 (by omega) (by omega) K1 _ _ k1 (rf_lateX f1 f2)))⟩) (fun I2 L2 f2 _ e2 => ?_))
      obtain ⟨i, hi, e⟩ := e
      exact absurd e (e2 i hi)
    · have f1T : Fz (gT K) I I1 := f1.mono (fun _ _ z => gX_T z)
      have bad : ∀ {Q : Prop}, (∃ i, i < N ∧ stO I X Y rp rk nr t pts par np mp ms i = none) → Q := fun ⟨i, hi, z⟩ => absurd z (e i hi)
      by_cases g97 : (lyR (lyM (stF I X Y rp rk nr t pts par np mp ms) cw ow st) N).1 < 97
      · rw [if_pos g97]
        refine ip rfl ?_
        by_cases gi : 0 ≤ p0.toInt ∧ p0.toInt < N
        · obtain ⟨i, rfl, _, ei⟩ := q_of gi.1
          obtain ⟨w, rfl, _, ew⟩ := q_of g.1
          have hi : i < N := by omega
          have hw : w ≤ 2 := by omega
          have m0 : nI i * 3 = nI (i * 3) := q_nmul (b := 3)
          rw [(hMk.fT k1 f1T).2.1, m0, q_nadd]
          refine iq (fun z => by have := (q0 _).mp z; omega) (ip (nI_lt hi (by omega)) ⟨q_inn (by omega) (by omega), _, rfl, ?_⟩)
          rw [q_cl (by omega)]
          refine wp_X13_place (hM.kd k1) (c13_in_2 (hM.kd k1) ⟨_, rfl, ?_⟩)
          rw [bI_t g]
          refine iq (by decide) (c13_shOr (d := d) hW hB hMk hcl k1 f1T (fun z => by omega) (fun _ _ _ _ z => bad z) (fun I2 L2 f2 _ _ c2 pR => ⟨_, rfl, ?_⟩))
          have f2X : Fz (gX K) I I2 := f1.trans f2
          have f2T : Fz (gT K) I I2 := f2X.mono (fun _ _ z => gX_T z)
          rw [if_pos g97]
          refine iq (fun z => by have := (q_nlt (b := 0) (by omega) (by omega)).mp z; omega) (c13_in_n (n := N) (hM.kd k1) (by rw [(hMk.fT k1 f2T).2.2.1]) (by omega) ⟨_, rfl, ?_⟩)
          rw [bI_t gi]
          have hin : vp_in (nI i) 4 := q_inn (by omega) (by omega)
          refine iq (by decide) ⟨fun _ _ => hin, fun _ _ => hin, fun _ => hin, ?_, hs0 K1 I2 L2 k1 f2X⟩
          obtain ⟨v1, v2, v3⟩ := pR g97 i hi
          obtain ⟨u1, u2, u3⟩ := hPl g97 i hi
          rw [q_cl (by omega), v1, v2, v3]
          have hw' : w = 0 ∨ w = 1 ∨ w = 2 := by omega
          rcases hw' with x | x | x
          · subst x; rw [if_pos (by decide), Nat.add_zero, u1]
          · subst x; rw [if_neg (by decide), if_pos (by decide), u2]
          · subst x; rw [if_neg (by decide), if_neg (by decide), u3]
        · have tail : OpR n0 xX13_place (d + 13) [.int p0, .int p1] K1 (zI I1 1 1 (I1 1 1 + 1)) L1 (P K1) (-1) := by
            refine wp_X13_place (hM.kd k1) (c13_in_2 (hM.kd k1) ⟨_, rfl, ?_⟩)
            rw [bI_t g]
            refine iq (by decide) (c13_shOr (d := d) hW hB hMk hcl k1 (rf_gX f1) (fun z => by omega) (fun _ _ _ _ z => bad z) (fun I2 L2 f2 _ _ c2 pR => ⟨_, rfl, ?_⟩))
            have f2T : Fz (gT K) I I2 := (rf_gX f1).trans (f2.mono (fun _ _ z => gX_T z))
            rw [if_pos g97]
            refine iq (fun z => by have := (q_nlt (b := 0) (by omega) (by omega)).mp z; omega) (c13_in_n (n := N) (hM.kd k1) (by rw [(hMk.fT k1 f2T).2.2.1]) (by omega) ⟨_, rfl, ?_⟩)
            rw [bI_f gi]
            exact ip rfl (op_rr 1 (hM.kd k1) (by omega) rfl (hs1 1 (by omega) (by omega) K1 _ _ k1 (rf_lateX f1 f2)))
          by_cases g0 : p0.toInt < 0
          · exact ip ((q0 p0).mpr g0) (op_rfK 1 (hC.kd k1) (by omega) (by omega) rfl tail)
          · refine iq (fun z => g0 ((q0 p0).mp z)) ?_
            rw [(hMk.fT k1 f1T).2.1]
            refine iq (fun z => ?_) (op_rfK 1 (hC.kd k1) (by omega) (by omega) rfl tail)
            have := q_lt.mp z
            rw [q_nI (by omega)] at this
            omega
      · rw [if_neg g97]
        refine iq (by decide) (op_rfK 3 (hC.kd k1) (by omega) (by omega) rfl (wp_X13_place (hM.kd k1) (c13_in_2 (hM.kd k1) ⟨_, rfl, ?_⟩)))
        rw [bI_t g]
        refine iq (by decide) (c13_shOr (d := d) hW hB hMk hcl k1 (rf_gX f1) (fun z => by omega) (fun _ _ _ _ z => bad z) (fun I2 L2 f2 _ _ _ _ => ⟨_, rfl, ?_⟩))
        rw [if_neg g97]
        exact ip (by decide) (op_rr 3 (hM.kd k1) (by omega) rfl (hs1 3 (by omega) (by omega) K1 _ _ k1 (rf_lateX f1 f2)))
  · have rf : OpR n0 xX13_place (d + 13) [.int p0, .int p1] K (zI I 1 2 (I 1 2 + 1)) L (P K) (-2) := by
      refine wp_X13_place hM (c13_in_2 hM ⟨_, rfl, ?_⟩)
      rw [bI_f g]
      exact ip rfl (op_rr 2 hM (by omega) rfl (hr 2 (by omega) (by omega)))
    by_cases g1 : p1.toInt < 0
    · exact wp_X12_place hC (ip ((q0 p1).mpr g1) (op_rfK 2 hC (by omega) (by omega) rfl rf))
    · exact wp_X12_place hC (iq (fun z => g1 ((q0 p1).mp z)) (iq (fun z => by have := (q3 p1).mp z; omega) (op_rfK 2 hC (by omega) (by omega) rfl rf)))
end OSH
