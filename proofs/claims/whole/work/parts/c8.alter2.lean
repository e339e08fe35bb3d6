/-! alter once more, with what it writes -/
section ALT2
variable {n0 d : Nat} {K : z_K} {I : z_I} {L : z_L} {Q : z_q} {np nb na : Nat} {pid pts bid m : Nat → Nat} {A : Int32 → Int32 → Option (Int32 × Int32)} {P : z_I → z_L → Prop}
theorem op_alter2 {p0 p1 p2 p3 p4 : Int32} (hC : CLay K) (hM : MLay K) (hP : PcK K np pid) (hN : PcN I np pid pts) (hB : BdK K nb bid) (hBN : BdN I nb) (hA : AltI I nb na bid m A) (hr : ∀ k, 1 ≤ k → k ≤ 7 → P (rfI I k) L)
    (hs : ∀ b, b < nb → ∀ I' na' m' A', AltI I' nb na' bid m' A' → Fz (altS (bid b)) I I' → (¬ p3 < (-999) ∧ ¬ p4 < (-999) ∧ ¬ 999 < p3 ∧ ¬ 999 < p4) → (∀ r, r < na' → (I' 90 r = p3 ∧ I' 91 r = p4) ∨ (r < na ∧ I' 90 r = I 90 r ∧ I' 91 r = I 91 r)) → P I' L) : Op0 n0 xX12_alter xX13_alter (d + 3) (d + 3) [.int p0, .int p1, .int p2, .int p3, .int p4] K I L P := by
  have hnp := hP.n
  have hnb := hB.n
  by_cases g1 : isPt np pts p0 p1
  · by_cases g2 : 0 ≤ p2.toInt ∧ p2.toInt < nb
    · obtain ⟨i, j, rfl, rfl, hi, hj⟩ := isPt_of hnp g1
      obtain ⟨b, rfl, hb1, eb⟩ := q_of g2.1
      have hb : b < nb := by omega
      have hlt := hB.lt hb
      have hge := hB.ge hb
      have hs7 := hB.s hb
      have hr7 := hB.r hb
      obtain ⟨m1, m2, m3⟩ := hA.2.2.2.2.1 b hb
      have h40 := hA.2.2.1
      have kc : (nI i * 10 + nI j : Int32) = 10 * nI i + nI j := by rw [Int32.mul_comm]
      refine wp_X12_alter hC (c12_pieceWith_t hC hP hN.1 hN.c hi hj ⟨_, rfl, c12_bodyOf_t hC hB hBN.1 hb ⟨_, rfl, oss (oss (c12_bothOutside hC ⟨_, rfl, ?_⟩))⟩⟩)
      have ref : ∀ {I1 : z_I} {L1 : z_L} {Q : z_q}, RE I1 I → _ → _ := fun {I1 L1 Q} hre h => c13_alter_ok (n0 := n0) (d := d) (K := K) (I := I1) (L := L1) (Q := Q) (dx := p3) (dy := p4) hM (hN.n' hre) hnp (hN.m' hre) hi hj (hBN.m' hre) hnb hb h
      rcases bb_cases p3 p4 (-999) 999 with ⟨e, g⟩ | ⟨e, ga, gb, g⟩ | ⟨e, ga, gb, gc, gd⟩
      · rw [e]
        exact iq (by decide) (op_rf 4 hC (by omega) (by omega) rfl (ref re_rf (ip g (op_rr 4 hM (by omega) rfl (hr 4 (by omega) (by omega))))))
      · rw [e]
        refine iq (by decide) (op_rf 6 hC (by omega) (by omega) rfl (ref re_rf (iq (fun z => z.elim ga gb) (c13_alter_l (na := na) hM (by rw [re_rf 59 (by omega) (by omega)]; exact hA.2.1) h40 (fun _ => op_rr 6 hM (by omega) rfl (hr 6 (by omega) (by omega))) (fun z => absurd g z) (fun z => absurd g z) na 0 (by omega) (fun r hr => absurd hr (by omega))))))
      · rw [e]
        have ng : ¬ (999 < p3 ∨ 999 < p4) := fun z => z.elim gc gd
        by_cases ex : ∃ r, r < m b ∧ I (bid b + 2) r = nI i * 10 + nI j
        · obtain ⟨r0, hr0, er0⟩ := ex
          have hsm : ∃ v, A (nI b) (nI i * 10 + nI j) = some v := ⟨_, by rw [← er0]; exact m3.1 r0 hr0⟩
          refine ip rfl ⟨by omega, hB.cls hb, wp_X0_isAltered ⟨by omega, hB.cls hb, c0_spot (by omega) (hB.cls hb) hr7.2.1 hs7.2.1 m2 (by omega) (fun r hr2 er => ⟨_, rfl, _, rfl, ?_⟩) (fun z => absurd er0 (z r0 hr0))⟩⟩
          rw [m2, if_pos (nI_lt hr2 (by omega))]
          refine iq (by decide) (iq (by decide) (c0_setAltered (by omega) (hB.cls hb) hr7.2.1 hr7.2.2.1 hr7.2.2.2.1 hs7.2.1 hs7.2.2.1 hs7.2.2.2.1 m2 (by omega) (fun r hr2 er => ⟨rfl, _, rfl, ?_⟩) (fun z => absurd er0 (z r0 hr0))))
          have hre : RE (zI (zI (zI I (bid b + 2) r (nI i * 10 + nI j)) (bid b + 3) r p3) (bid b + 4) r p4) I := ((RE.rf.z (Or.inr (by omega))).z (Or.inr (by omega))).z (Or.inr (by omega))
          have h89 : ∀ t, zI (zI (zI I (bid b + 2) r (nI i * 10 + nI j)) (bid b + 3) r p3) (bid b + 4) r p4 89 t = I 89 t := fun t => by rw [hre 89 (by omega) (by omega)]
          have h88 : ∀ t, zI (zI (zI I (bid b + 2) r (nI i * 10 + nI j)) (bid b + 3) r p3) (bid b + 4) r p4 88 t = I 88 t := fun t => by rw [hre 88 (by omega) (by omega)]
          refine ref hre (iq (fun z => z.elim ga gb) (c13_alter_l (na := na) hM (by rw [hre 59 (by omega) (by omega)]; exact hA.2.1) h40 (fun z => absurd z ng) (fun _ r' hr' e' => ⟨rfl, ?_⟩) (fun _ z => ?_) na 0 (by omega) (fun r hr => absurd hr (by omega))))
          · exfalso
            obtain ⟨v, hv⟩ := hsm
            obtain ⟨r', hr', e'⟩ := hA.2.2.2.1.2.1 (nI b, nI i * 10 + nI j) v hv
            refine z r' hr' ?_
            rw [h89, h88, ← kc]
            exact e'
          · rw [h89, h88, ← kc] at e'
            rw [← kc]
            obtain ⟨A', hA'⟩ := hA.old hB hb hr2 er hr' e' (dx := p3) (dy := p4)
            refine hs b hb _ _ _ _ hA' (fun a j ha => ?_) ⟨ga, gb, gc, gd⟩ (fun x hx => ?_)
            · unfold altS at ha
              (repeat (first | rw [zI_s] | rw [zI_d (by omega)]))
            · by_cases q : x = r'
              · subst q
                left
                constructor <;> (repeat (first | rw [zI_s] | rw [zI_d (by omega)]))
              · right
                refine ⟨hx, ?_, ?_⟩ <;> (repeat (first | rw [zI_s] | rw [zI_d (by omega)]))
        · have nx : ∀ r, r < m b → I (bid b + 2) r ≠ nI i * 10 + nI j := fun r hr e => ex ⟨r, hr, e⟩
          have hA0 : A (nI b) (nI i * 10 + nI j) = none := m3.nk nx
          refine ip rfl ⟨by omega, hB.cls hb, wp_X0_isAltered ⟨by omega, hB.cls hb, c0_spot (by omega) (hB.cls hb) hr7.2.1 hs7.2.1 m2 (by omega) (fun r hr2 er => absurd er (nx r hr2)) (fun _ => ⟨_, rfl, _, rfl, ?_⟩)⟩⟩
          have e0 : (if nI (m b) < nI (m b) then (1 : Int32) else 0) = 0 := if_neg (fun z => by have := q_lt.mp z; omega)
          rw [m2, e0, hA.1]
          refine ip rfl ?_
          by_cases h5 : na < 40
          · refine ip (nI_lt (b := 40) h5 (by omega)) (ip rfl ?_)
            rw [← nI_succ]
            refine c0_setAltered (n := m b) (by omega) (hB.cls hb) hr7.2.1 hr7.2.2.1 hr7.2.2.2.1 hs7.2.1 hs7.2.2.1 hs7.2.2.2.1 (by (repeat (first | rw [zI_s] | rw [zI_d (by omega)])); exact m2) (by omega) (fun r hr2 er => ?_) (fun _ => ⟨by omega, rfl, _, rfl, ?_⟩)
            · exfalso
              refine nx r hr2 ?_
              rw [← er]
              (repeat (first | rw [zI_s] | rw [zI_d (by omega)]))
            have hre : RE (zI (zI (zI (zI (zI I 0 5 (nI (na + 1))) (bid b) 5 (nI (m b + 1))) (bid b + 2) (m b) (nI i * 10 + nI j)) (bid b + 3) (m b) p3) (bid b + 4) (m b) p4) I := ((((RE.rf.z (Or.inl (by omega))).z (Or.inr (by omega))).z (Or.inr (by omega))).z (Or.inr (by omega))).z (Or.inr (by omega))
            refine ref hre (iq (fun z => z.elim ga gb) (c13_alter_l (na := na) hM (by rw [hre 59 (by omega) (by omega)]; exact hA.2.1) h40 (fun z => absurd z ng) (fun _ r' hr' e' => ?_) (fun _ z => ?_) na 0 (by omega) (fun r hr => absurd hr (by omega))))
            · exfalso
              rw [hre 89 (by omega) (by omega), hre 88 (by omega) (by omega), ← kc] at e'
              exact hA.2.2.2.1.no (k := (nI b, nI i * 10 + nI j)) hA0 hr' e'
            · rw [if_neg (by omega), ← kc]
              refine ⟨rfl, ?_⟩
              obtain ⟨m', A', hA'⟩ := hA.new hB hb h5 nx (dx := p3) (dy := p4)
              refine hs b hb _ _ _ _ hA' (fun a j ha => ?_) ⟨ga, gb, gc, gd⟩ (fun x hx => ?_)
              · unfold altS at ha
                (repeat (first | rw [zI_s] | rw [zI_d (by omega)]))
              · by_cases q : x = na
                · subst q
                  left
                  constructor <;> (repeat (first | rw [zI_s] | rw [zI_d (by omega)]))
                · right
                  refine ⟨by omega, ?_, ?_⟩ <;> (repeat (first | rw [zI_s] | rw [zI_d (by omega)]))
          · refine iq (fun z => by have := q_lt.mp z; rw [q_nI (by omega)] at this; have e2' : (40 : Int32).toInt = 40 := rfl; omega) (op_rf 6 hC (by omega) (by omega) rfl (ref re_rf (iq (fun z => z.elim ga gb) (c13_alter_l (na := na) hM (by rw [re_rf 59 (by omega) (by omega)]; exact hA.2.1) h40 (fun z => absurd z ng) (fun _ r' hr' e' => ?_) (fun _ z => ip (by omega) (op_rr 6 hM (by omega) rfl (hr 6 (by omega) (by omega)))) na 0 (by omega) (fun r hr => absurd hr (by omega))))))
            exfalso
            rw [re_rf 89 (by omega) (by omega), re_rf 88 (by omega) (by omega), ← kc] at e'
            exact hA.2.2.2.1.no (k := (nI b, nI i * 10 + nI j)) hA0 hr' e'
    · obtain ⟨i, j, rfl, rfl, hi, hj⟩ := isPt_of hnp g1
      exact wp_X12_alter hC (c12_pieceWith_t hC hP hN.1 hN.c hi hj ⟨_, rfl, c12_bodyOf_f hC hB hBN.1 g2 ⟨_, rfl, oss (osn (op_rf 1 hC (by omega) (by omega) rfl (c13_alter_bad hM (hN.n' re_rf) hnp (hN.m' re_rf) (hBN.m' re_rf) hnb (fun z => g2 z.2) (op_rr 1 hM (by omega) rfl (hr 1 (by omega) (by omega))))))⟩⟩)
  · have bad : OpR n0 xX13_alter (d + 3) [.int p0, .int p1, .int p2, .int p3, .int p4] K (zI I 1 1 (I 1 1 + 1)) L P (-1) := c13_alter_bad hM (hN.n' re_rf) hnp (hN.m' re_rf) (hBN.m' re_rf) hnb (fun z => g1 z.1) (op_rr 1 hM (by omega) rfl (hr 1 (by omega) (by omega)))
    by_cases g2 : 0 ≤ p2.toInt ∧ p2.toInt < nb
    · obtain ⟨b, rfl, hb1, eb⟩ := q_of g2.1
      exact wp_X12_alter hC (c12_pieceWith_f hC hP hN.1 hN.c g1 ⟨_, rfl, c12_bodyOf_t hC hB hBN.1 (by omega) ⟨_, rfl, osn (op_rf 1 hC (by omega) (by omega) rfl bad)⟩⟩)
    · exact wp_X12_alter hC (c12_pieceWith_f hC hP hN.1 hN.c g1 ⟨_, rfl, c12_bodyOf_f hC hB hBN.1 g2 ⟨_, rfl, osn (op_rf 1 hC (by omega) (by omega) rfl bad)⟩⟩)
end ALT2
