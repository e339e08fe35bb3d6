section ORL
variable {n0 d e : Nat} {K : z_K} {I : z_I} {L : z_L} {Q : z_q} {np nr n : Nat} {pid pts : Nat → Nat} {P : z_K → z_I → z_L → Prop} {i j : Nat} {p0 p1 p2 : Int32}
/-- the reference reads the text that both have -/
theorem tx_ref {I1 : z_I} (hT : TxM I n) (hr : ∀ a, 59 ≤ a → a < 152 → I1 a = I a) (hj : j < 10) : TxR (zI (zI (zI (zI I1 59 28 0) 59 30 (I1 59 21)) 59 21 0) 59 32 (nI j)) (I 6) n (nI j) (zI (zI (zI (zI I1 59 28 0) 59 30 (I1 59 21)) 59 21 0) 59 32 (nI j) 84) (zI (zI (zI (zI I1 59 28 0) 59 30 (I1 59 21)) 59 21 0) 59 32 (nI j) 82) (zI (zI (zI (zI I1 59 28 0) 59 30 (I1 59 21)) 59 21 0) 59 32 (nI j) 83) := by
  obtain ⟨t1, t2, t3, t4⟩ := hT
  refine ⟨?_, t3, ?_, by rw [q_nI (by omega)]; omega, rfl, rfl, rfl, Or.inl ⟨?_, fun k hk => ?_⟩⟩
  · (repeat (first | rw [zI_s] | rw [zI_d (by omega)])); rw [hr 59 (by omega) (by omega)]; exact t2
  · (repeat (first | rw [zI_s] | rw [zI_d (by omega)]))
  · (repeat (first | rw [zI_s] | rw [zI_d (by omega)]))
  · (repeat (first | rw [zI_s] | rw [zI_d (by omega)])); rw [hr 76 (by omega) (by omega)]; exact (t4 k hk).1.symm
theorem op_rule (hC : CLay K) (hM : MLay K) (h152 : 152 ≤ K.1) (hP : PcK K np pid) (hN : PcN I np pid pts) (hg : ∀ i, i < np → I (pid i) 4 = I 69 i) (hd : I 0 0 = I 59 0) (hr0 : I 0 9 = nI nr) (hr1 : I 59 22 = nI nr) (h120 : nr ≤ 120) (hT : TxM I n) (hr : ∀ k, 1 ≤ k → k ≤ 7 → P K (rfI I k) L)
    (hs1 : ∀ I' L', Fz rlS I I' → I' 5 1 = 0 → I' 59 21 = 0 → (∀ a, a ≠ 85 → L' a = L a) → P K I' L')
    (hs2 : nr < 120 → ¬ p2 < I 59 0 → p2.toInt ≤ 1000 → ∀ i j x y K' I' L', i < np → j < pts i → pT (I 6) n (nI j) = some (Sum.inr (x, y)) → x.length + y.length ≤ 60 → RuF K K' I I' L L' pid i j n nr p2 x y → P K' I' L') :
    OpA n0 xX12_rule xX13_rule (e + 27) (d + 8) 3 124 [.int p0, .int p1, .int p2] K I L P := by
  have hnp := hP.n
  have hT' := hT
  obtain ⟨t1, t2, t3, t4⟩ := hT
  by_cases g1 : isPt np pts p0 p1
  · obtain ⟨i, j, rfl, rfl, hi, hj⟩ := isPt_of hnp g1
    have hj10 : j < 10 := by have := (hN.c i hi).2; omega
    have hlt := hP.lt hi
    have hge := hP.ge hi
    refine wp_X12_rule hC (c12_pieceWith_t hC hP hN.1 hN.c hi hj ⟨_, rfl, oss ⟨by omega, hP.cls hi, ?_⟩⟩)
    rw [hg i hi]
    by_cases gw : I 69 i = 0
    · refine ip gw ?_
      rw [hd]
      refine c12_outside hC ⟨_, rfl, ?_⟩
      rcases bnd_cases p2 (I 59 0) 1000 with ⟨eb, g⟩ | ⟨eb, g0, g⟩ | ⟨eb, g0, g⟩
      · rw [eb]
        refine iq (by decide) (op_rfK 4 hC (by omega) (by omega) rfl (wp_X13_rule hM (c13_isPoint_t hM (hN.n' re_rf) hnp (hN.m' re_rf) hi hj ⟨_, rfl, iq (by decide) ⟨q_inn (by omega) (by omega), ?_⟩⟩)))
        rw [q_cl (by omega), re_rf 69 (by omega) (by omega), re_rf 59 (by omega) (by omega)]
        exact ip gw (ip (q_lt.mpr g) (op_rr 4 hM (by omega) rfl (hr 4 (by omega) (by omega))))
      · rw [eb]
        refine iq (by decide) (op_rfK 6 hC (by omega) (by omega) rfl (wp_X13_rule hM (c13_isPoint_t hM (hN.n' re_rf) hnp (hN.m' re_rf) hi hj ⟨_, rfl, iq (by decide) ⟨q_inn (by omega) (by omega), ?_⟩⟩)))
        rw [q_cl (by omega), re_rf 69 (by omega) (by omega), re_rf 59 (by omega) (by omega)]
        exact ip gw (iq (fun z => by have := q_lt.mp z; omega) (ip (q_lt.mpr g) (op_rr 6 hM (by omega) rfl (hr 6 (by omega) (by omega)))))
      · rw [eb, hr0]
        have c1000 : (1000 : Int32).toInt = 1000 := rfl
        have ng0 : ¬ p2 < I 59 0 := fun z => by have := q_lt.mp z; omega
        have ng1 : ¬ 1000 < p2 := fun z => by have := q_lt.mp z; omega
        refine ip rfl ?_
        by_cases h5 : nr < 120
        · have ne120 : ¬ nI nr = 120 := fun z => by have := q_eq.mp z; rw [q_nI (by omega)] at this; have c120 : (120 : Int32).toInt = 120 := rfl; omega
          refine ip (nI_lt (b := 120) h5 (by omega)) (c7_reads hC rfl t1 t3 (fun k hk => (t4 k hk).2) (fun x hx I1 z1 e2 => ⟨_, rfl, ip rfl ⟨_, rfl, ?_⟩⟩) (fun x y hx I1 z1 e7 e6 le60 seg => ⟨_, rfl, iq (by decide) ⟨pid i + 1, (hP.r hi).1, fun b hb K1 hK1 I2 hI2 L2 hL2 => ?_⟩⟩))
          · have hre : RE (zI I1 5 1 0) I := fun a h1 h2 => by
              rw [zI_r (by omega)]; funext k; exact z1 a k (fun z => by unfold rdS at z; omega)
            refine wp_X13_rule hM (c13_isPoint_t hM (hN.n' hre) hnp (hN.m' hre) hi hj ⟨_, rfl, iq (by decide) ⟨q_inn (by omega) (by omega), ?_⟩⟩)
            rw [q_cl (by omega), hre 69 (by omega) (by omega), hre 59 (by omega) (by omega), hr1]
            refine ip gw (iq ng0 (iq ng1 (iq ne120 ?_)))
            have tr := tx_ref (I1 := zI I1 5 1 0) hT' hre hj10
            rw [hre 59 (by omega) (by omega)] at tr
            refine c13_readText hM tr (fun k hk => (t4 k hk).2) hx (fun x' he I3 L3 f3 l3 a31 a33 => ⟨rfl, iq a33 ⟨?_, ?_⟩⟩) (fun x' y' he => nomatch he)
            · rw [a31, e2, Sum.inl.inj he]
            · refine hs1 I3 L3 (fun a k hn => ?_) ?_ ?_ l3
              · unfold rlS at hn
                rw [f3 a k (fun z => hn (Or.inr (Or.inl z))), zI_d (by omega), zI_d (by omega), zI_d (by omega), zI_d (by omega), zI_d (by omega), z1 a k (fun z => hn (Or.inl z))]
              · rw [f3 5 1 (fun z => by unfold rtS rrS at z; omega)]
                (repeat (first | rw [zI_s] | rw [zI_d (by omega)]))
              · rw [f3 59 21 (fun z => by unfold rtS rrS at z; omega)]
                (repeat (first | rw [zI_s] | rw [zI_d (by omega)]))
          · have hb' : K.1 = b := hb
            subst hK1 hI2 hL2
            have hC1 : CLay (zN K 6 0) := hC.ext (by show K.1 ≤ K.1 + 1; omega) (fun a ha => zN_sn (by omega)) (fun a ha => zN_rn (by omega))
            have hb1 : (zN K 6 0).1 = b + 1 := by show K.1 + 1 = b + 1; omega
            refine ⟨hC1, wp_X7_codeOfX hC1 ?_⟩
            have g7 : zI0 (zI I1 5 1 0) b 5 7 = nI x.length := by rw [zI0_n (by omega), zI_d (by omega)]; exact e7
            rw [g7]
            have hxl : x.length < 60 := by
              refine Classical.byContradiction (fun z => ?_)
              have h60y : y.length = 0 := by omega
              exact absurd h60y (by
                have := pT_y hx
                omega)
            refine wp_copyRange (x := 0) (ca_7 hC1).2.1 (ca_7 hC1).2.2 (Nat.zero_le _) (by omega) (by omega) (fun z => by omega) ?_
            rw [hb1, Nat.sub_zero]
            have hC3 : CLay (zN (zN K 6 0) 20 x.length) := hC1.ext (by show K.1 + 1 ≤ K.1 + 1 + 1; omega) (fun a ha => zN_sn (by show a ≠ K.1 + 1; omega)) (fun a ha => zN_rn (by show a ≠ K.1 + 1; omega))
            have hb3 : (zN (zN K 6 0) 20 x.length).1 = b + 2 := by show K.1 + 1 + 1 = b + 2; omega
            refine ⟨_, rfl, hC3, _, rfl, hC3, wp_X7_codeOfY hC3 ?_⟩
            have g7' : zC (zI0 (zI0 (zI I1 5 1 0) b) (b + 1)) 7 (b + 1) 0 0 x.length 5 7 = nI x.length := by rw [zC_n (by omega), zI0_n (by omega)]; exact g7
            have g6' : zC (zI0 (zI0 (zI I1 5 1 0) b) (b + 1)) 7 (b + 1) 0 0 x.length 5 6 = nI (x.length + y.length) := by rw [zC_n (by omega), zI0_n (by omega), zI0_n (by omega), zI_d (by omega)]; exact e6
            rw [g7', g6']
            have hx0 := pT_x hx
            refine wp_copyRange (ca_7 hC3).2.1 (ca_7 hC3).2.2 (by omega) (by omega) (by omega) (fun z => by omega) ?_
            rw [hb3, Nat.add_sub_cancel_left]
            have hC5 : CLay (zN (zN (zN K 6 0) 20 x.length) 20 y.length) := hC3.ext (by show K.1 + 1 + 1 ≤ K.1 + 1 + 1 + 1; omega) (fun a ha => zN_sn (by show a ≠ K.1 + 1 + 1; omega)) (fun a ha => zN_rn (by show a ≠ K.1 + 1 + 1; omega))
            have sh : ∀ a, a < b → (zN (zN (zN K 6 0) 20 x.length) 20 y.length).2.1 a = K.2.1 a := fun a ha => by
              rw [zN_sn (by show a ≠ K.1 + 1 + 1; omega), zN_sn (by show a ≠ K.1 + 1; omega), zN_sn (by omega)]
            have rf : ∀ a, a < b → (zN (zN (zN K 6 0) 20 x.length) 20 y.length).2.2 a = K.2.2 a := fun a ha => by
              rw [zN_rn (by show a ≠ K.1 + 1 + 1; omega), zN_rn (by show a ≠ K.1 + 1; omega), zN_rn (by omega)]
            have shb : (zN (zN (zN K 6 0) 20 x.length) 20 y.length).2.1 b = (6, 0) := by
              rw [zN_sn (by show b ≠ K.1 + 1 + 1; omega), zN_sn (by show b ≠ K.1 + 1; omega), ← hb']; exact zN_ss
            have shx : (zN (zN (zN K 6 0) 20 x.length) 20 y.length).2.1 (b + 1) = (20, x.length) := by
              rw [zN_sn (by show b + 1 ≠ K.1 + 1 + 1; omega), ← hb1]; exact zN_ss
            have shy : (zN (zN (zN K 6 0) 20 x.length) 20 y.length).2.1 (b + 2) = (20, y.length) := by
              rw [← hb3]; exact zN_ss
            have n5 : (zN (zN (zN K 6 0) 20 x.length) 20 y.length).1 = b + 3 := by show K.1 + 1 + 1 + 1 = b + 3; omega
            refine ⟨_, rfl, hC5, _, rfl, hC5, by omega, by rw [sh _ (by omega)]; exact hP.cls hi, pid i + 1, by rw [rf _ (by omega)]; exact (hP.r hi).1, 10, by omega, by rw [sh _ (by omega)]; exact (hP.s hi).1, q_inn hj10 (by omega), fun o ho => ct_X6_init (by omega) (by rw [shb]) ?_⟩
            rw [q_cl (by omega), rf _ (by omega)] at ho
            generalize hI5 : zC (zI0 (zC (zI0 (zI0 (zI I1 5 1 0) b) (b + 1)) 7 (b + 1) 0 0 x.length) (b + 2)) 7 (b + 2) x.length 0 y.length = I5
            have i5 : ∀ a, a < b → I5 a = zI I1 5 1 0 a := fun a ha => by
              rw [← hI5, zC_n (by omega), zI0_n (by omega), zC_n (by omega), zI0_n (by omega), zI0_n (by omega)]
            have ix : ∀ k, k < x.length → I5 (b + 1) k = I1 7 k := fun k hk => by
              rw [← hI5, zC_n (by omega), zI0_n (by omega), zC_s hk, zI0_n (by omega), zI0_n (by omega), zI_r (by omega), Nat.zero_add]
            have iy : ∀ k, k < y.length → I5 (b + 2) k = I1 7 (x.length + k) := fun k hk => by
              rw [← hI5, zC_s hk, zI0_n (by omega), zC_n (by omega), zI0_n (by omega), zI0_n (by omega), zI_r (by omega)]
            generalize zN (zN (zN K 6 0) 20 x.length) 20 y.length = K5 at hC5 sh rf shb shx shy n5 ⊢
            dsimp only
            have hC6 : CLay (zR (zR (zR K5 b 1 (some (b + 1))) b 2 (some (b + 2))) b 3 o) := hC5.ext (Nat.le_refl _) (fun _ _ => rfl) (fun a ha => by rw [zR_ne (by omega), zR_ne (by omega), zR_ne (by omega)])
            have e09 : zI I5 b 0 p2 0 9 = nI nr := by
              rw [zI_r (by omega), i5 0 (by omega), zI_r (by omega), z1 0 9 (fun z => by unfold rdS at z; omega)]; exact hr0
            rw [e09, q_cl (by omega), ← nI_succ]
            refine ⟨rfl, hC6, 10, by show pid i + 1 < K5.1; omega, ?_, q_inn hj10 (by omega), by show b < K5.1; omega, ?_, _, rfl, ?_⟩
            · show K5.2.1 _ = _
              rw [sh _ (by omega)]; exact (hP.s hi).1
            · show (K5.2.1 _).1 = _
              rw [shb]
            have hM5 : MLay K5 := hM.ext (by omega) (fun a ha => sh a (by omega)) (rf 59 (by omega))
            have hMf : MLay (zR (zR (zR (zR K5 b 1 (some (b + 1))) b 2 (some (b + 2))) b 3 o) (pid i + 1) j (some b)) := (((hM5.zR (by omega)).zR (by omega)).zR (by omega)).zR (by omega)
            have hre : RE (zI (zI I5 b 0 p2) 0 9 (nI (nr + 1))) I := fun a h1 h2 => by
              rw [zI_r (by omega), zI_r (by omega), i5 a (by omega), zI_r (by omega)]; funext k; exact z1 a k (fun z => by unfold rdS at z; omega)
            refine wp_X13_rule hMf (c13_isPoint_t hMf (hN.n' hre) hnp (hN.m' hre) hi hj ⟨_, rfl, iq (by decide) ⟨q_inn (by omega) (by omega), ?_⟩⟩)
            rw [q_cl (by omega), hre 69 (by omega) (by omega), hre 59 (by omega) (by omega), hr1]
            refine ip gw (iq ng0 (iq ng1 (iq ne120 ?_)))
            have tr := tx_ref (I1 := zI (zI I5 b 0 p2) 0 9 (nI (nr + 1))) hT' hre hj10
            rw [hre 59 (by omega) (by omega)] at tr
            refine c13_readText hMf tr (fun k hk => (t4 k hk).2) hx (fun x' he => nomatch he) (fun x' y' he I3 L3 f3 l3 a33 a46 a47 a34 a38 a39 => ⟨rfl, ip a33 ?_⟩)
            have h30 : I3 59 30 = nI n := by
              rw [f3 59 30 (fun z => by unfold rtS rrS at z; omega)]
              (repeat (first | rw [zI_s] | rw [zI_d (by omega)])); exact t2
            have h22 : I3 59 22 = nI nr := by
              rw [f3 59 22 (fun z => by unfold rtS rrS at z; omega)]
              (repeat (first | rw [zI_s] | rw [zI_d (by omega)])); rw [i5 59 (by omega), zI_r (by omega), z1 59 22 (fun z => by unfold rdS at z; omega)]; exact hr1
            have lp := c13_rule_l (n0 := n0) (d := d + 7) (K := zR (zR (zR (zR K5 b 1 (some (b + 1))) b 2 (some (b + 2))) b 3 o) (pid i + 1) j (some b)) (I := I3) (L := L3) (p := nI i) (k := nI j) (fr := p2) (Q := fun v2 I2 L2 => v2 = some (.int (nI (nr + 1))) ∧ P (zR (zR (zR (zR K5 b 1 (some (b + 1))) b 2 (some (b + 2))) b 3 o) (pid i + 1) j (some b)) I2 L2) hMf h5 t3 h30 h22 ⟨rfl, ?_⟩ n 0 (by omega)
            · rw [cpT_0] at lp
              exact lp
            · have f3' : ∀ a k, a < b → ¬ ruS a k → I3 a k = I a k := fun a k ha hn => by
                unfold ruS rlS at hn
                rw [f3 a k (fun z => hn (Or.inl (Or.inr (Or.inl z)))), zI_d (by omega), zI_d (by omega), zI_d (by omega), zI_d (by omega), zI_d (by omega), zI_r (by omega), i5 a ha, zI_d (by omega), z1 a k (fun z => hn (Or.inl (Or.inl z)))]
              have f3r : ∀ a, 76 ≤ a → a ≤ 81 → I3 a = I a := fun a h1 h2 => by
                funext k
                rw [f3 a k (fun z => by unfold rtS rrS at z; omega), zI_d (by omega), zI_d (by omega), zI_d (by omega), zI_d (by omega), zI_d (by omega), zI_r (by omega), i5 a (by omega), zI_d (by omega), z1 a k (fun z => by unfold rdS at z; omega)]
              have f3b : ∀ a, b ≤ a → I3 a = zI I5 b 0 p2 a := fun a h1 => by
                funext k
                rw [f3 a k (fun z => by unfold rtS rrS at z; omega), zI_d (by omega), zI_d (by omega), zI_d (by omega), zI_d (by omega), zI_d (by omega)]
              subst hb'
              refine hs2 h5 ng0 (by omega) i j x y _ _ _ hi hj hx le60 ⟨n5, fun a ha => sh a ha, ?_, shx, shy, fun a ha t hn => ?_, ?_, ?_, ?_, ?_, fun a ha t hn => ?_, ?_, ?_, ?_, ?_, ?_, ?_, ?_, fun k => ?_, fun r => ?_, fun r => ?_, fun r => ?_, fun r => ?_, fun a ha hne => ?_⟩
              · show (K5.2.1 _).1 = 6
                rw [shb]
              · by_cases q : a = pid i + 1
                · subst q
                  rw [zR_o (fun z => hn ⟨rfl, z⟩), zR_ne (by omega), zR_ne (by omega), zR_ne (by omega), rf _ ha]
                · rw [zR_ne q, zR_ne (by omega), zR_ne (by omega), zR_ne (by omega), rf _ ha]
              · rw [zR_e]
              · rw [zR_ne (by omega), zR_o (by decide), zR_o (by decide), zR_e]
              · rw [zR_ne (by omega), zR_o (by decide), zR_e]
              · rw [zR_ne (by omega), zR_e]; exact ho.symm
              · unfold ruS at hn
                rw [zI_d (by omega), zI_d (by omega), zI_d (by omega), zI_d (by omega), zI_d (by omega), cpT_n (by omega)]
                exact f3' a t ha (by unfold ruS; exact hn)
              · rw [zI_r (by omega), zI_r (by omega), zI_r (by omega), zI_r (by omega), zI_r (by omega), cpT_n (by omega), f3b _ (Nat.le_refl _), zI_s]
              · rw [zI_r (by omega), zI_r (by omega), zI_r (by omega), zI_r (by omega), zI_r (by omega), cpT_n (by omega), f3b _ (by omega), zI_r (by omega)]
                exact segT_cong x 0 (fun k _ hk => ix k (by omega)) ((segT_app x y 0).mp seg).1
              · rw [zI_r (by omega), zI_r (by omega), zI_r (by omega), zI_r (by omega), zI_r (by omega), cpT_n (by omega), f3b _ (by omega), zI_r (by omega)]
                exact segT_sh y (0 + x.length) 0 (fun k hk => by rw [Nat.zero_add, iy k hk, Nat.zero_add]) ((segT_app x y 0).mp seg).2
              · rw [zI_r (by omega), zI_r (by omega), zI_r (by omega), zI_r (by omega), zI_r (by omega), cpT_n (by omega), f3 0 9 (fun z => by unfold rtS rrS at z; omega)]
                (repeat (first | rw [zI_s] | rw [zI_d (by omega)]))
              · rw [zI_s]
              · rw [zI_r (by omega), zI_r (by omega), zI_r (by omega), zI_r (by omega), zI_r (by omega), cpT_n (by omega), f3 5 1 (fun z => by unfold rtS rrS at z; omega)]
                (repeat (first | rw [zI_s] | rw [zI_d (by omega)])); rw [i5 5 (by omega), zI_s]
              · rw [zI_d (by omega), zI_d (by omega), zI_d (by omega), zI_d (by omega), zI_d (by omega), cpT_n (by omega), f3 59 21 (fun z => by unfold rtS rrS at z; omega)]
                (repeat (first | rw [zI_s] | rw [zI_d (by omega)]))
              · rw [zI_r (by omega), zI_r (by omega), zI_r (by omega), zI_r (by omega), zI_r (by omega)]
                show (if 60 * nr ≤ k ∧ k < 60 * nr + n then I3 76 (k - 60 * nr) else I3 77 k) = _
                rw [f3r 76 (by omega) (by omega), f3r 77 (by omega) (by omega)]
              · rw [zI_r (by omega), zI_r (by omega), zI_r (by omega), zI_r (by omega), zI_v, cpT_n (by omega), f3r 78 (by omega) (by omega)]
                by_cases q : r = nr
                · rw [if_pos ⟨rfl, q⟩, if_pos q]
                · rw [if_neg (fun z => q z.2), if_neg q]
              · rw [zI_r (by omega), zI_r (by omega), zI_r (by omega), zI_v, zI_r (by omega), cpT_n (by omega), f3r 79 (by omega) (by omega)]
                by_cases q : r = nr
                · rw [if_pos ⟨rfl, q⟩, if_pos q]
                · rw [if_neg (fun z => q z.2), if_neg q]
              · rw [zI_r (by omega), zI_r (by omega), zI_v, zI_r (by omega), zI_r (by omega), cpT_n (by omega), f3r 80 (by omega) (by omega)]
                by_cases q : r = nr
                · rw [if_pos ⟨rfl, q⟩, if_pos q]
                · rw [if_neg (fun z => q z.2), if_neg q]
              · rw [zI_r (by omega), zI_v, zI_r (by omega), zI_r (by omega), zI_r (by omega), cpT_n (by omega), f3r 81 (by omega) (by omega)]
                by_cases q : r = nr
                · rw [if_pos ⟨rfl, q⟩, if_pos q]
                · rw [if_neg (fun z => q z.2), if_neg q]
              · rw [l3 a hne, zL0_n (by omega), zL0_n (by omega), zL0_n (by omega)]
        · have : nr = 120 := by omega
          subst this
          refine iq (by decide) (op_rfK 6 hC (by omega) (by omega) rfl (wp_X13_rule hM (c13_isPoint_t hM (hN.n' re_rf) hnp (hN.m' re_rf) hi hj ⟨_, rfl, iq (by decide) ⟨q_inn (by omega) (by omega), ?_⟩⟩)))
          rw [q_cl (by omega), re_rf 69 (by omega) (by omega), re_rf 59 (by omega) (by omega), hr1]
          exact ip gw (iq ng0 (iq ng1 (ip rfl (op_rr 6 hM (by omega) rfl (hr 6 (by omega) (by omega))))))
    · refine iq gw (op_rfK 3 hC (by omega) (by omega) rfl (wp_X13_rule hM (c13_isPoint_t hM (hN.n' re_rf) hnp (hN.m' re_rf) hi hj ⟨_, rfl, iq (by decide) ⟨q_inn (by omega) (by omega), ?_⟩⟩)))
      rw [q_cl (by omega), re_rf 69 (by omega) (by omega)]
      exact iq gw (op_rr 3 hM (by omega) rfl (hr 3 (by omega) (by omega)))
  · exact wp_X12_rule hC (c12_pieceWith_f hC hP hN.1 hN.c g1 ⟨_, rfl, osn (op_rfK 1 hC (by omega) (by omega) rfl (wp_X13_rule hM (c13_isPoint_f hM (hN.n' re_rf) hnp (hN.m' re_rf) g1 ⟨_, rfl, ip rfl (op_rr 1 hM (by omega) rfl (hr 1 (by omega) (by omega)))⟩)))⟩)
end ORL
