/-! frames of Wd's parts, one by one -/
section AGR
variable {c : Nat} {K K' : z_K} {I I' : z_I} {np nr nb na t ns ne : Nat} {pid pts rid rp rk ln cx cy bid m sid eid : Nat → Nat} {par : Nat → Option Nat} {X Y : Nat → List Int32} {A : Int32 → Int32 → Option (Int32 × Int32)} {S : Nat → Nat → Prop}
theorem PcN.ag (h : PcN I np pid pts) (e1 : I' 0 8 = I 0 8) (e2 : I' 59 9 = I 59 9) (e3 : I' 67 = I 67) (e4 : ∀ i, i < np → I' (pid i) 2 = I (pid i) 2) : PcN I' np pid pts :=
  ⟨by rw [e1]; exact h.1, by rw [e2]; exact h.2.1, fun i hi => by rw [e4 i hi, e3]; exact h.2.2 i hi⟩
theorem BlK.ag (h : BlK K I np pid par) (k : ∀ q, q < np → K'.2.2 (pid q) 3 = K.2.2 (pid q) 3) (e1 : I' 66 = I 66) (e2 : I' 68 = I 68) (e3 : ∀ q, q < np → I' (pid q) 0 = I (pid q) 0 ∧ I' (pid q) 1 = I (pid q) 1) : BlK K' I' np pid par := fun q hq => by
  rw [(e3 q hq).1, (e3 q hq).2, e1, e2, k q hq]
  exact h q hq
theorem RlK.ag (h : RlK K I nr np pid rid rp rk) (k1 : K.1 ≤ K'.1) (k2 : ∀ a, a < K.1 → K'.2.1 a = K.2.1 a) (k3 : ∀ r, r < nr → K'.2.2 (rid r) 3 = K.2.2 (rid r) 3) (k4 : ∀ p k, p < np → k < 10 → K'.2.2 (pid p + 1) k = K.2.2 (pid p + 1) k) (e1 : I' 0 9 = I 0 9) (e2 : I' 59 22 = I 59 22) (e3 : I' 79 = I 79) (e4 : I' 80 = I 80) (e5 : I' 81 = I 81) (e6 : ∀ r, r < nr → I' (rid r) 0 = I (rid r) 0) : RlK K' I' nr np pid rid rp rk := by
  obtain ⟨a, b, c, d, e⟩ := h
  refine ⟨a, by rw [e1]; exact b, by rw [e2]; exact c, fun r hr => ?_, fun p k hp hk => by rw [k4 p k hp hk]; exact e p k hp hk⟩
  obtain ⟨d1, d2, d3, d4, d5, d6, d7, d8, d9⟩ := d r hr
  exact ⟨d1, d2, by rw [e3]; exact d3, by rw [e4]; exact d4, by rw [e6 r hr, e5]; exact d5, d6, by omega, by rw [k2 _ d7]; exact d8, by rw [k3 r hr]; exact d9⟩
theorem RlC.ag (h : RlC K I nr rid rk ln cx cy X Y) (k1 : K.1 ≤ K'.1) (k2 : ∀ a, a < K.1 → K'.2.1 a = K.2.1 a) (k3 : ∀ r, r < nr → K'.2.2 (rid r) 1 = K.2.2 (rid r) 1 ∧ K'.2.2 (rid r) 2 = K.2.2 (rid r) 2) (e1 : I' 77 = I 77) (e2 : I' 78 = I 78) (e3 : ∀ r, r < nr → I' (cx r) = I (cx r) ∧ I' (cy r) = I (cy r)) : RlC K' I' nr rid rk ln cx cy X Y := by
  intro r hr
  obtain ⟨a1, a2, a3, a4, a5, b1, b2, b3, b4, b5, c1, c2, c3, c4, c5⟩ := h r hr
  rw [e1, e2, (e3 r hr).1, (e3 r hr).2, (k3 r hr).1, (k3 r hr).2]
  exact ⟨a1, a2, a3, a4, a5, b1, by omega, by rw [k2 _ b2]; exact b3, b4, b5, c1, by omega, by rw [k2 _ c2]; exact c3, c4, c5⟩
theorem PcG.ag (h : PcG I np pid) (e1 : ∀ a, 70 ≤ a → a ≤ 74 → I' a = I a) (e2 : ∀ p x, p < np → 2 ≤ x → x ≤ 6 → I' (pid p + x) = I (pid p + x)) : PcG I' np pid := fun p k hp hk => by
  rw [e2 p 2 hp (by omega) (by omega), e2 p 3 hp (by omega) (by omega), e2 p 4 hp (by omega) (by omega), e2 p 5 hp (by omega) (by omega), e2 p 6 hp (by omega) (by omega), e1 70 (by omega) (by omega), e1 71 (by omega) (by omega), e1 72 (by omega) (by omega), e1 73 (by omega) (by omega), e1 74 (by omega) (by omega)]
  exact h p k hp hk
theorem AltI.ag (h : AltI I nb na bid m A) (e1 : I' 0 5 = I 0 5) (e2 : I' 59 49 = I 59 49) (e3 : ∀ a, 88 ≤ a → a ≤ 91 → I' a = I a) (e4 : ∀ i, i < nb → I' (bid i) 5 = I (bid i) 5 ∧ I' (bid i + 2) = I (bid i + 2) ∧ I' (bid i + 3) = I (bid i + 3) ∧ I' (bid i + 4) = I (bid i + 4)) : AltI I' nb na bid m A := by
  obtain ⟨a, b, c, d, e, f⟩ := h
  refine ⟨by rw [e1]; exact a, by rw [e2]; exact b, c, by rw [e3 88 (by omega) (by omega), e3 89 (by omega) (by omega), e3 90 (by omega) (by omega), e3 91 (by omega) (by omega)]; exact d, fun i hi => ?_, f⟩
  rw [(e4 i hi).1, (e4 i hi).2.1, (e4 i hi).2.2.1, (e4 i hi).2.2.2]
  exact e i hi
theorem BdM.ag (h : BdM I nb bid) (e1 : I' 64 = I 64) (e2 : I' 65 = I 65) (e3 : ∀ b, b < nb → I' (bid b) 0 = I (bid b) 0 ∧ I' (bid b + 1) = I (bid b + 1)) : BdM I' nb bid := fun b hb => by
  rw [(e3 b hb).1, (e3 b hb).2, e1, e2]
  exact h b hb
theorem Tab.ag (h : Tab K I t) (hk : KE K K' np nb) (hI : Fz S I I') (ho : ∀ a j, 152 ≤ a → a < K.1 → (K.2.1 a).1 = 11 → ¬ S a j) (e : ∀ a, 60 ≤ a → a ≤ 63 → I' a = I a) (e0 : (I 59 0).toInt ≤ (I' 59 0).toInt) : Tab K' I' t := by
  intro mm s hm hs'
  obtain ⟨c, q1, q2, q3⟩ := h mm s hm hs'
  refine ⟨c, ?_, fun dy => by rw [tabV_ag (e 60 (by omega) (by omega)) (e 61 (by omega) (by omega)) (e 62 (by omega) (by omega)) (e 63 (by omega) (by omega))]; exact q2 dy, fun x hx => Int.le_trans (q3 x hx) e0⟩
  rw [hk.2.2.2.2.2.2.1]
  exact Tch.ke hk hI ho c _ q1
/-- homes of a rule's cells -/
theorem hm_r (h7 : RlK K I nr np pid rid rp rk) (h8 : RlC K I nr rid rk ln cx cy X Y) (hc : ∀ r, r < nr → cx r = rid r + 1 ∧ cy r = rid r + 2) {r x : Nat} (hr : r < nr) (hx : x ≤ 2) : Hm K (rid r + x) (rid r) := by
  obtain ⟨d1, d2, d3, d4, d5, d6, d7, d8, d9⟩ := h7.2.2.2.1 r hr
  obtain ⟨a1, a2, a3, a4, a5, b1, b2, b3, b4, b5, c1, c2, c3, c4, c5⟩ := h8 r hr
  obtain ⟨e1, e2⟩ := hc r hr
  refine ⟨by omega, by rw [d8]; omega, fun y a b => ?_⟩
  have : y = rid r + 1 ∨ y = rid r + 2 := by omega
  rcases this with e | e <;> subst e
  · rw [← e1, b3]; show 14 ≤ 20; omega
  · rw [← e2, c3]; show 14 ≤ 20; omega
theorem Hm.nq {a o o' x : Nat} (h : Hm K a o) (h' : Hm K (o' + x) o') (n : (K.2.1 o).1 ≠ (K.2.1 o').1) : a ≠ o' + x := fun e => by
  subst e
  exact n (by rw [h.u h'])
/-- all of Wd but what a call changes: cells of pieces (their rows), of bodies, the log of tables, the day -/
theorem Wd.go (h : Wd K I np nr nb na t pid pts rid rp rk ln cx cy bid m par X Y A) (hc : ∀ r, r < nr → cx r = rid r + 1 ∧ cy r = rid r + 2) (hI : Fz S I I')
    (hs : ∀ a j, S a j → a < 152 → (a = 0 ∧ (j = 0 ∨ j = 5)) ∨ (a = 59 ∧ (j = 0 ∨ j = 49)) ∨ a = 65 ∨ (70 ≤ a ∧ a ≤ 74) ∨ (88 ≤ a ∧ a ≤ 91))
    (ho : ∀ a j, S a j → 152 ≤ a → a < K.1 → ∃ o, Hm K a o ∧ (((K.2.1 o).1 = 5 ∧ o + 2 ≤ a) ∨ ((K.2.1 o).1 = 0 ∧ ((o + 1 ≤ a ∧ a ≤ o + 4) ∨ (a = o ∧ j = 5)))))
    {na' : Nat} {m' : Nat → Nat} {A' : Int32 → Int32 → Option (Int32 × Int32)} (hG : PcG I' np pid) (hA : AltI I' nb na' bid m' A') (hM : BdM I' nb bid) (hd : I' 0 0 = I' 59 0) (hd2 : (I 59 0).toInt ≤ (I' 59 0).toInt) : Wd K I' np nr nb na' t pid pts rid rp rk ln cx cy bid m' par X Y A' := by
  obtain ⟨h1, h2, h3, h4, h5, h6, h7, h8, h9, h10, h11, h12, h13, h14, h15, h16, h17⟩ := h
  have e : ∀ a j, a < 152 → ¬ ((a = 0 ∧ (j = 0 ∨ j = 5)) ∨ (a = 59 ∧ (j = 0 ∨ j = 49)) ∨ a = 65 ∨ (70 ≤ a ∧ a ≤ 74) ∨ (88 ≤ a ∧ a ≤ 91)) → I' a j = I a j := fun a j z n => hI a j (fun y => n (hs a j y z))
  have er : ∀ a, a < 152 → a ≠ 0 ∧ a ≠ 59 ∧ a ≠ 65 ∧ ¬ (70 ≤ a ∧ a ≤ 74) ∧ ¬ (88 ≤ a ∧ a ≤ 91) → I' a = I a := fun a z n => funext fun j => e a j z (by omega)
  have ep : ∀ p j, p < np → I' (pid p) j = I (pid p) j := fun p j hp => hI _ _ (fun y => by
    have a := h4.ge hp
    have b := h4.lt hp
    obtain ⟨o, q1, q2⟩ := ho _ j y (by omega) (by omega)
    have e := (hm_p h4 hp (show 0 ≤ 6 by omega)).u q1
    have c := h4.cls hp
    rw [← e] at q2
    omega)
  have ed : ∀ a j, 152 ≤ a → a < K.1 → ∀ o, Hm K a o → (K.2.1 o).1 ≠ 5 → (K.2.1 o).1 ≠ 0 → ¬ S a j := fun a j z1 z2 o q n1 n2 y => by
    obtain ⟨o', q1, q2⟩ := ho _ j y z1 z2
    have e := q.u q1
    subst e
    omega
  have eR : ∀ r x, r < nr → x ≤ 2 → I' (rid r + x) = I (rid r + x) := fun r x hr hx => funext fun j => hI _ _ (by
    obtain ⟨d1, d2, d3, d4, d5, d6, d7, d8, d9⟩ := h7.2.2.2.1 r hr
    obtain ⟨a1, a2, a3, a4, a5, b1, b2, b3, b4, b5, c1, c2, c3, c4, c5⟩ := h8 r hr
    have := hc r hr
    exact ed _ _ (by omega) (by omega) (rid r) (hm_r h7 h8 hc hr hx) (by rw [d8]; omega) (by rw [d8]; omega))
  refine ⟨h1, h2, h3, h4, h5.ag (e 0 8 (by omega) (by omega)) (e 59 9 (by omega) (by omega)) (er 67 (by omega) (by omega)) (fun i hi => ep i 2 hi), h6.ag (fun _ _ => rfl) (er 66 (by omega) (by omega)) (er 68 (by omega) (by omega)) (fun q hq => ⟨ep q 0 hq, ep q 1 hq⟩), h7.ag (Nat.le_refl _) (fun _ _ => rfl) (fun _ _ => rfl) (fun _ _ _ _ => rfl) (e 0 9 (by omega) (by omega)) (e 59 22 (by omega) (by omega)) (er 79 (by omega) (by omega)) (er 80 (by omega) (by omega)) (er 81 (by omega) (by omega)) (fun r hr => congrFun (eR r 0 hr (by omega)) 0), h8.ag (Nat.le_refl _) (fun _ _ => rfl) (fun _ _ => ⟨rfl, rfl⟩) (er 77 (by omega) (by omega)) (er 78 (by omega) (by omega)) (fun r hr => by rw [(hc r hr).1, (hc r hr).2]; exact ⟨eR r 1 hr (by omega), eR r 2 hr (by omega)⟩), hG, h10, ⟨by rw [e 0 4 (by omega) (by omega)]; exact h11.1, by rw [e 59 6 (by omega) (by omega)]; exact h11.2⟩, hA, hd, by rw [e 59 1 (by omega) (by omega)]; exact h14, h15, h16.ag (np := 0) (nb := 0) (KE.rf h1 h2) hI (fun a j z1 z2 z3 => ed a j z1 z2 a (Hm.me (by rw [z3]; omega)) (by rw [z3]; omega) (by rw [z3]; omega)) (fun a z1 z2 => er a (by omega) (by omega)) hd2, hM⟩
end AGR
