def topV (s : Bool × List Int64 × Int32 × Int32) : Int64 := s.2.1.headD 0
def rtS (a j : Nat) : Prop := rrS a j ∨ (a = 59 ∧ (j = 46 ∨ j = 47))
section TXT
variable {n0 d : Nat} {K : z_K} {I I0 : z_I} {L L0 : z_L} {Q : z_q} {T ms rx ry : Nat → Int32} {n i dp f : Nat} {pt nm npt : Int32} {b : Bool} {s : Bool × List Int64 × Int32 × Int32}
theorem c13_sum {r : Nat ⊕ Nat × List Int32} (hM : MLay K) (hT : TxR I T n pt ms rx ry) (hbt : ∀ k, k < n → 0 ≤ (T k).toInt) (hi : I 59 31 = nI i) (hin : i ≤ n) (h33 : I 59 33 = 0) (h34 : I 59 34 = bI (b = true)) (h38 : I 59 38 = nm) (h39 : I 59 39 = npt) (hp : pS T n pt 484 4 0 i = some r)
    (hf : ∀ e, r = Sum.inl e → ∀ I' L', BdR I L I' L' e → Q (some (.int 0)) I' L')
    (hs : ∀ j c, r = Sum.inr (j, c) → j ≤ n → ∀ I' L', Fz rrS I I' → (∀ a, a ≠ 85 → L' a = L a) → I' 59 31 = nI j → I' 59 33 = 0 → I' 59 34 = bI ((evs ms rx ry (b, [], nm, npt) c).1 = true) → I' 59 38 = (evs ms rx ry (b, [], nm, npt) c).2.2.1 → I' 59 39 = (evs ms rx ry (b, [], nm, npt) c).2.2.2 → Q (some (.int (topV (evs ms rx ry (b, [], nm, npt) c)).toInt32)) I' L') :
    RM0 n0 xX13_readSum (d + 6) [.ref (n0 + 59)] K I L Q := by
  refine wp_X13_readSum hM ?_
  have st : StR I L (zI (zI (zI (zI I 59 41 0) 59 43 0) 59 44 0) 59 45 0) L i [] (b, [], nm, npt) 0 := by
    refine ⟨(((Fz.rfl'.z (Or.inl ⟨rfl, by omega⟩)).z (Or.inl ⟨rfl, by omega⟩)).z (Or.inl ⟨rfl, by omega⟩)).z (Or.inl ⟨rfl, by omega⟩), fun _ _ => rfl, ?_, ?_, ?_, trivial, ?_, trivial, ?_, ?_, ?_, ?_, ?_⟩ <;> (repeat (first | rw [zI_s] | rw [zI_d (by omega)]))
    · exact hi
    · rfl
    · rfl
    · rfl
    · exact h34
    · exact h38
    · exact h39
    · exact h33
  have R4 := (R_all (n0 := n0) (d := d) (Q := Q) (L0 := L) hM hT hbt 484).2.2.2.2.1
  refine R4 0 i [] (b, [], nm, npt) _ L r (by omega) (Or.inl rfl) hin st (Nat.zero_le _) (Nat.zero_le _) (fun v hv => absurd hv (by simp)) hp hf (fun j c hjc hno I' L' hSm => ?_)
  rw [hjc] at hp
  have ps := pS_pos 484 4 0 i j c hin hp
  have h60 := hT.2.1
  have len := (evs_len (ms := ms) (rx := rx) (ry := ry) 484 4 0 i j c hp (b, [], nm, npt)).1 (by decide) (by decide)
  have len1 : (evs ms rx ry (b, [], nm, npt) c).2.1.length = 1 := len
  obtain ⟨a, s2, ha, ⟨m, s', hm, st2, ew, hv1, hv2, hl2, hok2⟩, ea⟩ := hSm
  have la : (a ++ ([] : List Int32)).length ≤ (m ++ (a ++ [])).length := by simp only [List.length_append]; omega
  refine zz_s hM st2 (c13_rs_oth hM hT ps.1 st2 hm ha (Or.inl rfl) (by omega) hv1 (by omega) hok2 hno (by omega) (fun z => absurd rfl z) (fun _ S' eS => nomatch eS) (fun _ S' eS => nomatch eS) (fun _ I2 L2 z => ⟨_, rfl, ?_⟩))
  rw [ew, ea] at z
  rw [if_pos rfl]
  obtain ⟨z1, z2, z3, z4, z5, z6, z7, z8, z9, z10, z11, z12, z13⟩ := z
  have e33 : zI (zI I2 59 45 1) 59 33 0 59 33 = 0 := zI_s
  have e45 : zI (zI I2 59 45 1) 59 33 0 59 45 = 1 := by rw [zI_d (by omega), zI_s]
  have etop : L2 85 0 = topV (evs ms rx ry (b, [], nm, npt) c) := by
    cases q : (evs ms rx ry (b, [], nm, npt) c).2.1 with
    | nil => rw [q] at len1; exact absurd len1 (by decide)
    | cons v W =>
      rw [q] at len1 z8
      have hW : W.length = 0 := Nat.succ.inj len1
      have := z8.1
      rw [hW] at this
      rw [this]
      unfold topV
      rw [q]; rfl
  have fin := hs j c hjc ps.1 (zI (zI I2 59 45 1) 59 33 0) L2 ((z1.z (Or.inl ⟨rfl, by omega⟩)).z (Or.inl ⟨rfl, by omega⟩)) z2 (by rw [zI_d (by omega), zI_d (by omega)]; exact z3) e33 (by rw [zI_d (by omega), zI_d (by omega)]; exact z9) (by rw [zI_d (by omega), zI_d (by omega)]; exact z10) (by rw [zI_d (by omega), zI_d (by omega)]; exact z11)
  rw [← etop] at fin
  refine wp_X13_readSum_22 hM (ip e33 (iq (by rw [e45]; decide) ?_))
  rw [if_pos e33]
  exact fin
theorem c13_readText {r : Nat ⊕ List Int32 × List Int32} (hM : MLay K) (hT : TxR I T n pt ms rx ry) (hbt : ∀ k, k < n → 0 ≤ (T k).toInt) (hp : pT T n pt = some r)
    (hf : ∀ e, r = Sum.inl e → ∀ I' L', Fz rtS I I' → (∀ a, a ≠ 85 → L' a = L a) → I' 59 31 = nI e → ¬ I' 59 33 = 0 → Q none I' L')
    (hs : ∀ x y, r = Sum.inr (x, y) → ∀ I' L', Fz rtS I I' → (∀ a, a ≠ 85 → L' a = L a) → I' 59 33 = 0 → I' 59 46 = (topV (evs ms rx ry (false, [], 0, 0) x)).toInt32 → I' 59 47 = (topV (evs ms rx ry ((evs ms rx ry (false, [], 0, 0) x).1, [], (evs ms rx ry (false, [], 0, 0) x).2.2) y)).toInt32 → I' 59 34 = bI ((evs ms rx ry ((evs ms rx ry (false, [], 0, 0) x).1, [], (evs ms rx ry (false, [], 0, 0) x).2.2) y).1 = true) → I' 59 38 = (evs ms rx ry ((evs ms rx ry (false, [], 0, 0) x).1, [], (evs ms rx ry (false, [], 0, 0) x).2.2) y).2.2.1 → I' 59 39 = (evs ms rx ry ((evs ms rx ry (false, [], 0, 0) x).1, [], (evs ms rx ry (false, [], 0, 0) x).2.2) y).2.2.2 → Q none I' L') :
    RM0 n0 xX13_readText (d + 7) [.ref (n0 + 59)] K I L Q := by
  have rr : ∀ a j, rrS a j → rtS a j := fun _ _ h => Or.inl h
  have h60 := hT.2.1
  have z0 : Fz rrS I (zI (zI (zI (zI (zI I 59 31 0) 59 33 0) 59 34 0) 59 38 0) 59 39 0) := ((((Fz.rfl'.z (Or.inl ⟨rfl, by omega⟩)).z (Or.inl ⟨rfl, by omega⟩)).z (Or.inl ⟨rfl, by omega⟩)).z (Or.inl ⟨rfl, by omega⟩)).z (Or.inl ⟨rfl, by omega⟩)
  unfold pT at hp
  cases e1 : pS T n pt 484 4 0 0 with
  | none => rw [e1] at hp; cases hp
  | some r1 =>
    rw [e1] at hp
    refine wp_X13_readText hM (c13_sum (i := 0) (b := false) (nm := 0) (npt := 0) hM (hT.fz z0) hbt ?_ (Nat.zero_le _) ?_ ?_ ?_ ?_ e1 (fun e he I1 L1 hb => ⟨_, rfl, iq hb.2.2.2 (iq (by decide) ?_)⟩) (fun j c hjc hjn I1 L1 f1 l1 a31 a33 a34 a38 a39 => ⟨_, rfl, ip a33 ?_⟩))
    · (repeat (first | rw [zI_s] | rw [zI_d (by omega)])); rfl
    · (repeat (first | rw [zI_s] | rw [zI_d (by omega)]))
    · (repeat (first | rw [zI_s] | rw [zI_d (by omega)])); rfl
    · (repeat (first | rw [zI_s] | rw [zI_d (by omega)]))
    · (repeat (first | rw [zI_s] | rw [zI_d (by omega)]))
    · rw [he] at hp
      have hr : r = Sum.inl e := (Option.some.inj hp).symm
      refine hf e hr _ _ ((((z0.trans hb.1).mono rr).z (Or.inr ⟨rfl, Or.inl rfl⟩)).z (Or.inl (Or.inl ⟨rfl, by omega⟩))) hb.2.1 ?_ ?_
      · rw [zI_d (by omega), zI_d (by omega)]; exact hb.2.2.1
      · rw [zI_s]; decide
    · rw [hjc] at hp
      have hp1 : (if nxT T n j = 44 then (match pS T n pt 484 4 0 (j + 1) with | none => none | some (Sum.inl e) => some (Sum.inl e) | some (Sum.inr q2) => if q2.1 < n then some (Sum.inl q2.1) else some (Sum.inr (c, q2.2))) else some (Sum.inl j)) = some r := hp
      have zA : Fz rtS I (zI I1 59 46 (topV (evs ms rx ry (false, [], 0, 0) c)).toInt32) := ((z0.trans f1).mono rr).z (Or.inr ⟨rfl, Or.inl rfl⟩)
      have hTA : TxR (zI I1 59 46 (topV (evs ms rx ry (false, [], 0, 0) c)).toInt32) T n pt ms rx ry := by
        obtain ⟨t1, t2, t3, t4, t5, t6, t7, t8⟩ := hT.fz (z0.trans f1)
        refine ⟨?_, t2, ?_, t4, ?_, ?_, ?_, ?_⟩
        · rw [zI_d (by omega)]; exact t1
        · rw [zI_d (by omega)]; exact t3
        · rw [zI_r (by omega)]; exact t5
        · rw [zI_r (by omega)]; exact t6
        · rw [zI_r (by omega)]; exact t7
        · rw [zI_d (by omega), zI_d (by omega), zI_r (by omega), zI_r (by omega)]; exact t8
      refine c13_here (i := j) hM hTA (by rw [zI_d (by omega)]; exact a31) hjn ⟨_, rfl, ?_⟩
      by_cases g : nxT T n j = 44
      · rw [if_pos g] at hp1
        rw [if_pos g]
        have hl : j < n := nx_lt (fun z => by rw [z] at g; exact absurd g (by decide))
        refine ip rfl ?_
        cases e2 : pS T n pt 484 4 0 (j + 1) with
        | none => rw [e2] at hp1; cases hp1
        | some r2 =>
          rw [e2] at hp1
          rw [show zI I1 59 46 (topV (evs ms rx ry (false, [], 0, 0) c)).toInt32 59 31 = nI j from by rw [zI_d (by omega)]; exact a31, ← nI_succ]
          have zB : Fz rrS (zI I1 59 46 (topV (evs ms rx ry (false, [], 0, 0) c)).toInt32) (zI (zI (zI I1 59 46 (topV (evs ms rx ry (false, [], 0, 0) c)).toInt32) 59 33 0) 59 31 (nI (j + 1))) := (Fz.rfl'.z (Or.inl ⟨rfl, by omega⟩)).z (Or.inl ⟨rfl, by omega⟩)
          refine c13_sum (i := j + 1) (b := (evs ms rx ry (false, [], 0, 0) c).1) (nm := (evs ms rx ry (false, [], 0, 0) c).2.2.1) (npt := (evs ms rx ry (false, [], 0, 0) c).2.2.2) hM (hTA.fz zB) hbt ?_ (by omega) ?_ ?_ ?_ ?_ e2 (fun e he I2 L2 hb => ⟨_, rfl, ?_⟩) (fun j2 c2 hjc2 hjn2 I2 L2 f2 l2 b31 b33 b34 b38 b39 => ⟨_, rfl, ?_⟩)
          · (repeat (first | rw [zI_s] | rw [zI_d (by omega)]))
          · (repeat (first | rw [zI_s] | rw [zI_d (by omega)]))
          · (repeat (first | rw [zI_s] | rw [zI_d (by omega)])); exact a34
          · (repeat (first | rw [zI_s] | rw [zI_d (by omega)])); exact a38
          · (repeat (first | rw [zI_s] | rw [zI_d (by omega)])); exact a39
          · rw [he] at hp1
            have hr : r = Sum.inl e := (Option.some.inj hp1).symm
            rw [if_neg hb.2.2.2]
            refine hf e hr _ _ (((zA.trans ((zB.trans hb.1).mono rr)).z (Or.inr ⟨rfl, Or.inr rfl⟩)).z (Or.inl (Or.inl ⟨rfl, by omega⟩))) (fun a ha => by rw [hb.2.1 a ha, l1 a ha]) ?_ ?_
            · rw [zI_d (by omega), zI_d (by omega)]; exact hb.2.2.1
            · rw [zI_s]; decide
          · rw [hjc2] at hp1
            have hp2 : (if j2 < n then some (Sum.inl j2) else some (Sum.inr (c, c2))) = some r := hp1
            have zC := zA.trans ((zB.trans f2).mono rr)
            have h30 : I2 59 30 = nI n := ((hTA.fz zB).fz f2).1
            have h46 : I2 59 46 = (topV (evs ms rx ry (false, [], 0, 0) c)).toInt32 := by
              rw [f2 59 46 (fun z => by unfold rrS at z; omega)]
              (repeat (first | rw [zI_s] | rw [zI_d (by omega)]))
            rw [if_pos b33, b31, h30]
            by_cases g2 : j2 < n
            · rw [if_pos g2] at hp2
              rw [if_pos (nI_lt g2 (by omega))]
              refine hf j2 (Option.some.inj hp2).symm _ _ ((zC.z (Or.inr ⟨rfl, Or.inr rfl⟩)).z (Or.inl (Or.inl ⟨rfl, by omega⟩))) (fun a ha => by rw [l2 a ha, l1 a ha]) ?_ ?_
              · rw [zI_d (by omega), zI_d (by omega)]; exact b31
              · rw [zI_s]; decide
            · rw [if_neg g2] at hp2
              rw [if_neg (fun z => g2 (by have := q_lt.mp z; rw [q_nI (by omega), q_nI (by omega)] at this; omega))]
              refine hs c c2 (Option.some.inj hp2).symm _ _ ((zC.z (Or.inr ⟨rfl, Or.inr rfl⟩)).z (Or.inl (Or.inl ⟨rfl, by omega⟩))) (fun a ha => by rw [l2 a ha, l1 a ha]) ?_ ?_ ?_ ?_ ?_ ?_
              · rw [zI_s]
              · rw [zI_d (by omega), zI_d (by omega)]; exact h46
              · rw [zI_d (by omega), zI_s]
              · rw [zI_d (by omega), zI_d (by omega)]; exact b34
              · rw [zI_d (by omega), zI_d (by omega)]; exact b38
              · rw [zI_d (by omega), zI_d (by omega)]; exact b39
      · rw [if_neg g] at hp1
        rw [if_neg g]
        refine iq (by decide) (hf j (Option.some.inj hp1).symm _ _ (zA.z (Or.inl (Or.inl ⟨rfl, by omega⟩))) l1 ?_ ?_)
        · rw [zI_d (by omega), zI_d (by omega)]; exact a31
        · rw [zI_s]; decide
end TXT
