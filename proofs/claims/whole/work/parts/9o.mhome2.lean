section MHW
variable {n0 d o c t : Nat} {K : z_K} {I : z_I} {L : z_L} {Q : z_q} {f : Nat → Nat → Bool}
theorem c10_moveHome (ho : o < K.1) (hc : (K.2.1 o).1 = 10) (hr : K.2.2 o 0 = some c) (hcl : c < K.1) (hs : K.2.1 c = (20, 24)) (oc : c ≠ o) (ht : ∀ k, k < 24 → ∀ q, q < 32 → tb (I c k) q = (decide (q < 24) && f k q)) (h4 : I o 4 = 0)
    (h : ∀ I', Fz (fun a j => a = c ∨ (a = o ∧ (j = 2 ∨ j = 3 ∨ j = 4))) I I' → I' o 4 = nI (fcA f 24).1 → ((fcA f 24).1 = 0 → I' o 2 = 0) → (0 < (fcA f 24).1 → I' o 2 = nI (shW f) ∧ I' o 3 = nI (shH f) ∧ ∀ k, k < 24 → ∀ q, q < 32 → tb (I' c k) q = shB f k q) → Q none I' L) :
    RM0 n0 xX10_moveHome (d + 1) [.ref (n0 + o)] K I L Q := by
  have st := c10_mh10 (n0 := n0) (d := d) (L := L) (Q := Q) (f := f) ho hc hr hcl hs oc ht ?_ 24 0 I 0 (by omega) Fz.rfl' h4 (fun q hq => ⟨fun z => by rw [tb_0] at z; exact absurd z (by decide), fun ⟨_, b, hb, _⟩ => by omega⟩)
  · exact wp_X10_moveHome st
  · intro I1 R f1 e4 hR
    obtain ⟨b1, b2, b3, b4, b5⟩ := fcA_b (f := f) 24 (Nat.le_refl _)
    have G := fcG_A (f := f) 24 (Nat.le_refl _)
    refine wp_X10_moveHome_10 (iq (by decide) ⟨ho, hc, ?_⟩)
    have hw : ∃ wd, (if (0 : Int32) < (if (fcA f 24).1 = 0 then -1 else nI (fcA f 24).2.2.2.1) - nI (fcA f 24).2.1 + 1 then (if (fcA f 24).1 = 0 then -1 else nI (fcA f 24).2.2.2.1) - nI (fcA f 24).2.1 + 1 else 0) = nI wd ∧ ((fcA f 24).1 = 0 → wd = 0) ∧ (0 < (fcA f 24).1 → wd = shW f) ∧ wd ≤ 24 ∧ (0 < wd → wd + (fcA f 24).2.1 ≤ 24) := by
      obtain ⟨G1, G2, G3⟩ := G
      by_cases n : (fcA f 24).1 = 0
      · refine ⟨0, ?_, fun _ => rfl, fun z => by omega, by omega, fun z => by omega⟩
        rw [if_pos n, G2 n]
        decide
      · obtain ⟨⟨q1, v1, t1⟩, ⟨q2, v2, t2⟩, _, _⟩ := G3 (Nat.pos_of_ne_zero n)
        clear G3
        have g := G1 _ q1 v1 t1
        have e : nI (fcA f 24).2.2.2.1 - nI (fcA f 24).2.1 + 1 = nI (shW f) := by
          unfold shW
          rw [show (fcA f 24).2.2.2.1 = (fcA f 24).2.1 + ((fcA f 24).2.2.2.1 - (fcA f 24).2.1) by omega, nI_sb, ← nI_succ]
          congr 1
          omega
        refine ⟨shW f, ?_, fun z => absurd z n, fun _ => rfl, ?_, ?_⟩
        · rw [if_neg n, e, if_pos (by exact nI_lt (a := 0) (by unfold shW; omega) (by unfold shW; omega))]
        · unfold shW; omega
        · unfold shW; omega
    obtain ⟨wd, ew, w0, w1, w2, w3⟩ := hw
    rw [ew]
    refine c10_mh91 (I := zI I1 o 2 (nI wd)) (a1 := nI (fcA f 24).2.1) (R := R) ho hc (fun k0 k1 k2 k3 => ?_) 24 0 (by omega) (fun q hq => by omega)
    refine c10_mh122 (I := zI (zI I1 o 2 (nI wd)) o 3 0) (k0 := k0) ho hc (fun I2 f2 l2 => ?_) (24 - k0) k0 _ (by omega) (Nat.le_refl _) Fz.rfl' (Or.inl ⟨zI_s, fun q x y => by omega⟩)
    have f3 : Fz (fun a j => a = o ∧ (j = 2 ∨ j = 3 ∨ j = 4)) I I2 := ((((f1.mono (fun a j z => ⟨z.1, Or.inr (Or.inr z.2)⟩)).z ⟨rfl, Or.inl rfl⟩).z ⟨rfl, Or.inr (Or.inl rfl)⟩)).trans (f2.mono (fun a j z => ⟨z.1, Or.inr (Or.inl z.2)⟩))
    have e2 : I2 o 2 = nI wd := by rw [f2 o 2 (by omega), zI_d (by omega), zI_s]
    have e4' : I2 o 4 = nI (fcA f 24).1 := by rw [f2 o 4 (by omega), zI_d (by omega), zI_d (by omega)]; exact e4
    have ec : ∀ k, I2 c k = I c k := fun k => f3 c k (by omega)
    refine c10_mh158 (I := I2) (wd := wd) (a := (fcA f 24).2.1) (b := k0) ho hc hr hcl hs oc e2 w2 w3 (fun I' f' v' => ?_) 24 0 I2 (by omega) Fz.rfl' (fun q hq => by omega) (fun q _ => rfl)
    refine h I' ((f3.mono (fun a j z => Or.inr z)).trans (f'.mono (fun a j z => Or.inl z))) (by rw [f' o 4 (by omega)]; exact e4') (fun n => by rw [f' o 2 (by omega), e2, w0 n]; rfl) (fun n => ?_)
    obtain ⟨G1, _, G3⟩ := G
    obtain ⟨⟨q1, v1, t1⟩, ⟨q2, v2, t2⟩, ⟨c3, v3, t3⟩, c4, v4, t4⟩ := G3 n
    clear G3
    have r3 : tb R (fcA f 24).2.2.1 = true := (hR _ (by omega)).mpr ⟨v3.2, c3, v3.1, t3⟩
    have r4 : tb R (fcA f 24).2.2.2.2 = true := (hR _ (by omega)).mpr ⟨v4.2, c4, v4.1, t4⟩
    have gr : ∀ q, q < 32 → tb R q = true → q < 24 ∧ (fcA f 24).2.2.1 ≤ q ∧ q ≤ (fcA f 24).2.2.2.2 := fun q hq z => by
      obtain ⟨x1, b, x2, x3⟩ := (hR q hq).mp z
      have := G1 b q ⟨x2, x1⟩ x3
      exact ⟨x1, this.2.2.1, this.2.2.2.1⟩
    have ek : k0 = (fcA f 24).2.2.1 := by
      have x1 : k0 ≤ (fcA f 24).2.2.1 := Nat.le_of_not_lt (fun z => by rw [k2 _ z] at r3; exact absurd r3 (by decide))
      have x2 := v3.2
      have := gr k0 (by omega) (k3 (by omega))
      omega
    refine ⟨by rw [f' o 2 (by omega), e2, w1 n], ?_, fun k hk q hq => ?_⟩
    · rw [f' o 3 (by omega)]
      rcases l2 with ⟨v, z⟩ | ⟨q, q1, q2, q3, q4, v⟩
      · rw [z _ (by omega) v3.2] at r3; exact absurd r3 (by decide)
      · have x1 := gr q (by omega) q3
        have x2 : (fcA f 24).2.2.2.2 ≤ q := Nat.le_of_not_lt (fun z => by rw [q4 _ z v4.2] at r4; exact absurd r4 (by decide))
        rw [v]
        unfold shH
        congr 1
        omega
    · rw [v' k hk]
      unfold hm2 shB
      by_cases y : k < wd
      · have hka := w3 (by omega)
        have hx := v3.2
        rw [if_pos y, ec, tb_sar (by omega) hq, decide_eq_true (show k + (fcA f 24).2.1 < 24 by omega), Bool.true_and, ek]
        by_cases y2 : (fcA f 24).2.2.1 + q < 32
        · rw [if_pos y2, ht _ (by omega) _ y2, Nat.add_comm q]
        · rw [if_neg y2, ht _ (by omega) _ (by omega), decide_eq_false (show ¬ q + (fcA f 24).2.2.1 < 24 by omega)]; rfl
      · rw [if_neg y, tb_0]
        have ew := w1 n
        unfold shW at ew
        symm
        rw [Bool.and_eq_false_iff, Bool.and_eq_false_iff]
        by_cases y1 : k + (fcA f 24).2.1 < 24
        · by_cases y2 : q + (fcA f 24).2.2.1 < 24
          · refine Or.inr (Or.inr ?_)
            cases e : f (k + (fcA f 24).2.1) (q + (fcA f 24).2.2.1) with
            | false => rfl
            | true =>
              have := G1 _ _ ⟨y1, y2⟩ e
              omega
          · exact Or.inr (Or.inl (decide_eq_false y2))
        · exact Or.inl (decide_eq_false y1)
theorem c10_tu34 {i : Nat} {wd hg : Nat} {X : Int32} (ho : o < K.1) (hc : (K.2.1 o).1 = 10) (hr : K.2.2 o 1 = some t) (htl : t < K.1) (hs : K.2.1 t = (20, 24)) (ot : t ≠ o) (h3 : I o 3 = nI hg) (hh : hg ≤ 24) (hi : i < 24)
    (h : ∀ I', Fz (fun a j => a = t ∧ j = i) I I' → (∀ q, q < 32 → tb (I' t i) q = (tb (I t i) q || (decide (q < hg) && tb X (hg - 1 - q)))) → Z n0 xX10_turn (d + 1) 0 0 10 [(0, .ref (n0 + o)), (1, .int (nI (i + 1)))] [] K I' L (z_q0 K Q)) :
    ∀ w j I1, j + w = hg → Fz (fun a j => a = t ∧ j = i) I I1 → (∀ q, q < 32 → tb (I1 t i) q = (tb (I t i) q || (decide (q < hg) && (decide (hg - 1 - q < j) && tb X (hg - 1 - q))))) → Z n0 xX10_turn (d + 1) 0 0 34 [(0, .ref (n0 + o)), (1, .int (nI i)), (2, .int X), (3, .int (nI j))] [] K I1 L (z_q0 K Q) := by
  intro w
  induction w with
  | zero =>
    intro j I1 hj f1 t1
    refine wp_X10_turn_34 ⟨ho, hc, ?_⟩
    rw [f1 o 3 (by omega), h3, ← nI_succ, ← nI_succ]
    refine iq (fun z => by have := (q_nlt (by omega) (by omega)).mp z; omega) (h I1 f1 (fun q hq => ?_))
    rw [t1 q hq]
    by_cases e : q < hg
    · rw [decide_eq_true (show hg - 1 - q < j by omega), Bool.true_and]
    · rw [decide_eq_false e, Bool.false_and, Bool.false_and]
  | succ w ih =>
    intro j I1 hj f1 t1
    refine wp_X10_turn_34 ⟨ho, hc, ?_⟩
    rw [f1 o 3 (by omega), h3]
    refine ip (nI_lt (by omega) (by omega)) ?_
    rw [tb_shr (by omega), ← nI_succ]
    have ev : ∀ q b, b = (tb X (hg - 1 - q) && decide (hg - 1 - q = j)) → (decide (q < hg) && (decide (hg - 1 - q < j + 1) && tb X (hg - 1 - q))) = ((decide (q < hg) && (decide (hg - 1 - q < j) && tb X (hg - 1 - q))) || (decide (q < hg) && b)) := by
      intro q b e
      subst e
      by_cases z : hg - 1 - q = j
      · rw [z, decide_eq_true (show j < j + 1 by omega), decide_eq_false (Nat.lt_irrefl j), decide_eq_true (rfl : j = j)]
        cases decide (q < hg) <;> cases tb X j <;> rfl
      · rw [decide_eq_false z, Bool.and_false, Bool.and_false, Bool.or_false, show decide (hg - 1 - q < j + 1) = decide (hg - 1 - q < j) from decide_eq_decide.mpr (by omega)]
    by_cases g : tb X j = true
    · refine iq (fun y => bI_0.mp y g) ⟨t, hr, 24, htl, hs, q_inn (by omega) (by omega), ?_⟩
      have es : nI hg - 1 - nI j = nI (hg - 1 - j) := by
        rw [show hg = j + (hg - 1 - j) + 1 by omega, nI_prev, nI_sb]
        congr 1
        omega
      rw [q_cl (by omega), es]
      refine ih (j + 1) _ (by omega) (f1.z ⟨rfl, rfl⟩) (fun q hq => ?_)
      rw [zI_s, tb_or, tb_one (by omega) hq, t1 q hq, ev q (decide (hg - 1 - q = j)) (by
        by_cases z : hg - 1 - q = j
        · rw [z, g, Bool.true_and]
        · rw [decide_eq_false z, Bool.and_false]), ← Bool.or_assoc]
      congr 1
      by_cases z : q < hg
      · rw [decide_eq_true z, Bool.true_and]; exact decide_eq_decide.mpr (by omega)
      · rw [decide_eq_false z, Bool.false_and, decide_eq_false (by omega)]
    · refine ip (bI_0.mpr g) (ih (j + 1) I1 (by omega) f1 (fun q hq => ?_))
      rw [t1 q hq, ev q false (by
        by_cases z : hg - 1 - q = j
        · rw [z, show tb X j = false by simpa using g, Bool.false_and]
        · rw [decide_eq_false z, Bool.and_false]), Bool.and_false, Bool.or_false]
end MHW
