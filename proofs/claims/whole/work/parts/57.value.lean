def noL : Int64 := -1152921504606846976
def vlC (s : Bool × List Int64 × Int32 × Int32) : Int64 := if s.1 = true then noL else topV s
section VAL
variable {n0 d : Nat} {K : z_K} {I : z_I} {L : z_L} {Q : z_q} {j a N : Nat} {s : Bool × List Int64 × Int32 × Int32}
theorem c2_unitOf {u : Int32} (hC : CLay K) (hj : j ≤ 10) (h : okU j u) (hq : ∀ v, (∀ s : Bool × List Int64 × Int32 × Int32, ∃ w, evC (I 9) (I 13) (I 14) s u = evP v (s.1, s.2.1, w)) → Q (some (.long v)) I L) : RM0 n0 xX2_unitOf d [.ref (n0 + 8), .int u] K I L Q := by
  have c0 : (10000 : Int32).toInt = 10000 := rfl
  have c8 : (10008 : Int32).toInt = 10008 := rfl
  have c20 : (10020 : Int32).toInt = 10020 := rfl
  have c00 : (0 : Int32).toInt = 0 := rfl
  have c10 : (10 : Int32).toInt = 10 := rfl
  refine wp_X2_unitOf hC ?_
  rcases h with ⟨k, hk, e⟩ | ⟨k, hk, e⟩ | ⟨k, hk, e⟩
  · have eu : u.toInt = k := by rw [e, q_nI (by omega)]
    by_cases g : k < 10000
    · exact ip (q_lt.mpr (by omega)) (hq _ (fun s => ⟨s.2.2, u_small (by omega) (by omega)⟩))
    · have ek : u - 10000 = nI (k - 10000) := by rw [e, show (10000 : Int32) = nI 10000 from rfl, q_nsub (by omega)]
      refine iq (fun z => by have := q_lt.mp z; omega) (ip (q_lt.mpr (by omega)) ?_)
      rw [ek, q_cl (by omega)]
      refine ⟨q_inn (by omega) (by omega), hq _ (fun s => ⟨(s.2.2.1 ||| ((1 : Int32) <<< (nI (k - 10000) &&& 31 : Int32)), s.2.2.2), ?_⟩)⟩
      have : u = 10000 + nI (97 + (k - 10000)) - 97 := by
        rw [e, show (10000 : Int32) = nI 10000 from rfl, q_nadd, show (97 : Int32) = nI 97 from rfl, q_nsub (by omega)]
        rw [show 10000 + (97 + (k - 10000)) - 97 = k from by omega]
      rw [this]
      exact evC_m (by omega)
  · have eu : u.toInt = (10010 + k : Nat) := by rw [e, q_nI (by omega)]
    have g20 : u < 10020 := q_lt.mpr (by omega)
    have ek : u - 10010 = nI k := by rw [e, show (10010 : Int32) = nI 10010 from rfl, q_nsub (by omega), Nat.add_sub_cancel_left]
    refine iq (fun z => by have := q_lt.mp z; omega) (iq (fun z => by have := q_lt.mp z; omega) ?_)
    rw [if_pos g20, if_pos g20, ek, q_cl (by omega)]
    refine iq (nI_pos (by omega)) (ip (nI_lt (b := 10) (by omega) (by omega)) ⟨fun _ => q_inn (by omega) (by omega), fun _ => q_inn (by omega) (by omega), hq _ (fun s => ⟨(s.2.2.1, s.2.2.2 ||| ((1 : Int32) <<< (nI k &&& 31 : Int32))), ?_⟩)⟩)
    have : u = 10010 + nI k := by rw [show (10010 : Int32) = nI 10010 from rfl, q_nadd]; exact e
    rw [this]
    exact evC_x (by omega)
  · have eu : u.toInt = (10020 + k : Nat) := by rw [e, q_nI (by omega)]
    have g20 : ¬ u < 10020 := fun z => by have := q_lt.mp z; omega
    have ek : u - 10020 = nI k := by rw [e, show (10020 : Int32) = nI 10020 from rfl, q_nsub (by omega), Nat.add_sub_cancel_left]
    refine iq (fun z => by have := q_lt.mp z; omega) (iq (fun z => by have := q_lt.mp z; omega) ?_)
    rw [if_neg g20, if_neg g20, ek, q_cl (by omega)]
    refine iq (nI_pos (by omega)) (ip (nI_lt (b := 10) (by omega) (by omega)) ⟨fun _ => q_inn (by omega) (by omega), fun _ => q_inn (by omega) (by omega), hq _ (fun s => ⟨(s.2.2.1, s.2.2.2 ||| ((1 : Int32) <<< (nI k &&& 31 : Int32))), ?_⟩)⟩)
    have : u = 10020 + nI k := by rw [show (10020 : Int32) = nI 10020 from rfl, q_nadd]; exact e
    rw [this]
    exact evC_y (by omega)
/-- what is made: kept, or the number that is none -/
theorem mk_step {v : Int64} {s1 : Bool × List Int64 × Int32 × Int32} {R : Int64 → Prop} {Z' : Prop} (hb : s1.1 = false) (hbad : ¬ (-1000000 ≤ v.toInt ∧ v.toInt ≤ 1000000) → R noL) (hok : (-1000000 ≤ v.toInt ∧ v.toInt ≤ 1000000) → Z') : if v < (-1000000) then R noL else if 1000000 < v then R noL else Z' := by
  have e1 : (-1000000 : Int64).toInt = -1000000 := rfl
  have e2 : (1000000 : Int64).toInt = 1000000 := rfl
  by_cases g1 : v < (-1000000)
  · exact ip g1 (hbad (fun z => by have := q_ltL.mp g1; omega))
  · by_cases g2 : 1000000 < v
    · exact iq g1 (ip g2 (hbad (fun z => by have := q_ltL.mp g2; omega)))
    · refine iq g1 (iq g2 (hok ?_))
      have := mt q_ltL.mpr g1
      have := mt q_ltL.mpr g2
      omega
theorem evP_ok {v : Int64} (hb : s.1 = false) (h : -1000000 ≤ v.toInt ∧ v.toInt ≤ 1000000) : evP v s = (false, v :: s.2.1, s.2.2) := by
  have e : inR v = true := decide_eq_true h
  unfold evP
  rw [e, hb]; rfl
theorem evP_no {v : Int64} (h : ¬ (-1000000 ≤ v.toInt ∧ v.toInt ≤ 1000000)) : (evP v s).1 = true := by
  have e : inR v = false := decide_eq_false h
  show (s.1 || !inR v) = true
  rw [e]; simp
theorem nI_p1 {m : Nat} : nI m + (1 - 0) = nI (m + 1) := by rw [nI_succ]; rfl
theorem c2_value_l (hC : CLay K) (hj : j ≤ 10) (ha : a < K.1) (hs : K.2.1 a = (20, N)) (hN : N ≤ 60) : ∀ (c : List Int32) (k : Nat) (s : Bool × List Int64 × Int32 × Int32) (L1 : z_L), k + c.length = N → segT (I a) k c → wfC j c s.2.1.length 1 → s.1 = false → okV s → s.2.1.length ≤ k → stk (L1 16) s.2.1 → (∀ b, b ≠ 16 → L1 b = L b) → (∀ L', (∀ b, b ≠ 16 → L' b = L b) → Q (some (.long (vlC (evs (I 9) (I 13) (I 14) s c)))) I L') → Z n0 xX2_valueOf (d + 1) 0 0 4 [(0, .ref (n0 + 8)), (1, .ref (n0 + a)), (2, .int (nI s.2.1.length)), (3, .int (nI k))] [] K I L1 (z_q0 K Q) := by
  intro c
  induction c with
  | nil =>
    intro k s L1 hk hg hw hb hok hl hst hL h
    have hk' : k = N := hk
    have hw' : 1 = s.2.1.length := hw
    subst hk'
    refine wp_X2_valueOf_4 hC ⟨k, ha, hs, iq (fun z => by have := q_lt.mp z; have e : Int32.ofNat k = nI k := rfl; rw [e] at this; omega) ?_⟩
    have h' := h L1 hL
    have e : evs (I 9) (I 13) (I 14) s [] = s := rfl
    rw [e] at h'
    unfold vlC at h'
    rw [if_neg (by rw [hb]; decide)] at h'
    rw [← hw', if_pos (show nI 1 = (1 : Int32) from rfl)]
    obtain ⟨b, V, r⟩ := s
    match V, hw' with
    | [v], _ =>
      have : L1 16 0 = v := hst.1
      rw [this]
      exact h'
  | cons u c ih =>
    intro k s L1 hk hg hw hb hok hl hst hL h
    have hk' : k + (c.length + 1) = N := hk
    have hu : I a k = u := hg.1
    have h60 : (60 : Int32).toInt = 60 := rfl
    refine wp_X2_valueOf_4 hC ⟨N, ha, hs, ip (nI_lt (by omega) (by omega)) ⟨q_inn (by omega) (by omega), ?_⟩⟩
    rw [q_cl (by omega), hu, ← nI_succ]
    have fin : ∀ L', (∀ b, b ≠ 16 → L' b = L b) → (evC (I 9) (I 13) (I 14) s u).1 = true → Q (some (.long noL)) I L' := by
      intro L' hL' hbr
      have h' := h L' hL'
      unfold vlC at h'
      rw [if_pos (show (evs (I 9) (I 13) (I 14) s (u :: c)).1 = true from evs_br c _ hbr)] at h'
      exact h'
    rcases hw with ⟨a1, a2⟩ | ⟨a1, a2, a3⟩ | ⟨a1, a2, a3⟩
    · have u30 : u < 10030 := by
        have c30 : (10030 : Int32).toInt = 10030 := rfl
        refine q_lt.mpr ?_
        rcases a1 with ⟨t, ht, e⟩ | ⟨t, ht, e⟩ | ⟨t, ht, e⟩ <;> rw [e, q_nI (by omega)] <;> omega
      have et : (if (u : Int32) < 10030 then (0 : Int32) else if u = 10034 then 1 else 2) = 0 := if_pos u30
      rw [et]
      refine iq (nI_pos (by omega)) (ip (nI_lt (b := 60) (by omega) (by omega)) (ip rfl (c2_unitOf hC hj a1 (fun v hv => ⟨_, rfl, ?_⟩))))
      obtain ⟨w, hv⟩ := hv s
      rw [nI_p1, nI_pred, q_cl (by omega)]
      refine mk_step (R := fun v => Q (some (.long v)) I L1) hb (fun g => fin L1 hL (by rw [hv]; exact evP_no g)) (fun g => ⟨q_inn (by omega) (by omega), ?_⟩)
      have ev := evP_ok (s := (s.1, s.2.1, w)) hb g
      rw [← hv] at ev
      refine ih (k + 1) (false, v :: s.2.1, w) _ (by omega) hg.2 a2 rfl ?_ (by show s.2.1.length + 1 ≤ _; omega) ⟨zL_s, stk_cong _ (fun t ht => zL_d (by omega)) hst⟩ (fun b hb => by rw [zL_ne hb]; exact hL b hb) (fun L' hL' => ?_)
      · intro x hx
        rcases List.mem_cons.mp hx with e | e
        · rw [e]; exact g
        · exact hok x e
      · have h' := h L' hL'
        have e : evs (I 9) (I 13) (I 14) s (u :: c) = evs (I 9) (I 13) (I 14) (evC (I 9) (I 13) (I 14) s u) c := rfl
        rw [e, ev] at h'
        exact h'
    · subst a1
      have et : (if (10034 : Int32) < 10030 then (0 : Int32) else if (10034 : Int32) = 10034 then 1 else 2) = 1 := by decide
      rw [et]
      obtain ⟨b, V, r⟩ := s
      match V, a2, hst, hok, hl, a3, h, fin with
      | v :: W, _, hst, hok, hl, a3, h, fin =>
        have hW : W.length + 1 ≤ k := hl
        have okv := hok v List.mem_cons_self
        have e16 : L1 16 W.length = v := hst.1
        have hb' : b = false := hb
        have ea : nI (v :: W).length = nI (W.length + 1) := rfl
        rw [ea, nI_pred, q_cl (n := W.length) (by omega), e16, show (1 : Int32) - 1 = 0 from by decide, Int32.add_zero, nI_pred, q_cl (n := W.length) (by omega)]
        refine iq (fun z => by have := q_lt.mp z; rw [q_nI (by omega)] at this; have c1 : (1 : Int32).toInt = 1 := rfl; omega) (ip (nI_lt (b := 60) (by omega) (by omega)) (iq (by decide) (ip rfl ⟨q_inn (by omega) (by omega), ?_⟩)))
        have ec : evC (I 9) (I 13) (I 14) (b, v :: W, r) 10034 = if v < 0 then (true, 0 :: W, r) else (b, rtL v :: W, r) := rfl
        by_cases gv : v < 0
        · refine ip gv (fin L1 hL ?_)
          rw [ec, if_pos gv]
        · have gv' := mt q_ltL.mpr gv
          have e0 : (0 : Int64).toInt = 0 := rfl
          refine iq gv (c12_rootOf hC (by omega) (by omega) (fun t ht => ⟨_, rfl, ?_⟩))
          have tb := isR_le ht okv.2
          refine mk_step (s1 := (false, W, r)) (R := fun v => Q (some (.long v)) I L1) rfl (fun g => absurd (by omega) g) (fun g => ⟨q_inn (by omega) (by omega), ?_⟩)
          rw [if_neg gv, rtL_e ht, hb'] at ec
          refine ih (k + 1) (false, t :: W, r) _ (by omega) hg.2 a3 rfl ?_ (by show W.length + 1 ≤ _; omega) ⟨zL_s, stk_cong _ (fun t ht => zL_d (by omega)) hst.2⟩ (fun b hb => by rw [zL_ne hb]; exact hL b hb) (fun L' hL' => ?_)
          · intro x hx
            rcases List.mem_cons.mp hx with e | e
            · rw [e]; omega
            · exact hok x (List.mem_cons_of_mem _ e)
          · have h' := h L' hL'
            have e : evs (I 9) (I 13) (I 14) (b, v :: W, r) (10034 :: c) = evs (I 9) (I 13) (I 14) (evC (I 9) (I 13) (I 14) (b, v :: W, r) 10034) c := rfl
            rw [hb'] at e h'
            rw [e, ec] at h'
            exact h'
    · have et : (if (u : Int32) < 10030 then (0 : Int32) else if u = 10034 then 1 else 2) = 2 := by
        rcases a1 with e | e | e | e <;> subst e <;> decide
      rw [et]
      obtain ⟨b, V, r⟩ := s
      match V, a2, hst, hok, hl, a3, h, fin with
      | x :: y :: W, _, hst, hok, hl, a3, h, fin =>
        have hW : W.length + 2 ≤ k := hl
        have ex : L1 16 (W.length + 1) = x := hst.1
        have ey : L1 16 W.length = y := hst.2.1
        have hb' : b = false := hb
        have ea : nI (x :: y :: W).length = nI (W.length + 2) := rfl
        have e2 : nI (W.length + 2) - 1 = nI (W.length + 1) := nI_pred (W.length + 1)
        have e3 : nI (W.length + 2) + (1 - 2) = nI (W.length + 1) := by
          rw [show (1 : Int32) - 2 = -1 from by decide, ← Int32.sub_eq_add_neg]; exact e2
        rw [ea, e3, e2, nI_m2, nI_pred, q_cl (n := W.length) (by omega), q_cl (n := W.length + 1) (by omega), ex, ey]
        refine iq (fun z => by have := q_lt.mp z; rw [q_nI (by omega)] at this; have c1 : (2 : Int32).toInt = 2 := rfl; omega) (ip (nI_lt (b := 60) (by omega) (by omega)) (iq (by decide) (iq (by decide) ⟨q_inn (by omega) (by omega), q_inn (by omega) (by omega), ?_⟩)))
        have ec : evC (I 9) (I 13) (I 14) (b, x :: y :: W, r) u = if u = 10033 ∧ x = 0 then evP (aop u y 1) (true, W, r) else evP (aop u y x) (b, W, r) := evC_op a1
        have nxt : ∀ t, ¬ (u = 10033 ∧ x = 0) → t = aop u y x → (if t < (-1000000) then Q (some (.long noL)) I L1 else if 1000000 < t then Q (some (.long noL)) I L1 else vp_in (nI W.length) 60 ∧ Z n0 xX2_valueOf (d + 1) 0 0 4 [(0, .ref (n0 + 8)), (1, .ref (n0 + a)), (2, .int (nI (W.length + 1))), (3, .int (nI (k + 1)))] [] K I (zL L1 16 W.length t) (z_q0 K Q)) := by
          intro t hnz ht
          rw [if_neg hnz, ← ht] at ec
          refine mk_step (s1 := (false, W, r)) (R := fun v => Q (some (.long v)) I L1) rfl (fun g => fin L1 hL (by rw [ec]; exact evP_no g)) (fun g => ⟨q_inn (by omega) (by omega), ?_⟩)
          rw [evP_ok (s := (b, W, r)) hb' g] at ec
          refine ih (k + 1) (false, t :: W, r) _ (by omega) hg.2 a3 rfl ?_ (by show W.length + 1 ≤ _; omega) ⟨zL_s, stk_cong _ (fun t ht => zL_d (by omega)) hst.2.2⟩ (fun b hb => by rw [zL_ne hb]; exact hL b hb) (fun L' hL' => ?_)
          · intro v hv
            rcases List.mem_cons.mp hv with e | e
            · rw [e]; exact g
            · exact hok v (List.mem_cons_of_mem _ (List.mem_cons_of_mem _ e))
          · have h' := h L' hL'
            have e : evs (I 9) (I 13) (I 14) (b, x :: y :: W, r) (u :: c) = evs (I 9) (I 13) (I 14) (evC (I 9) (I 13) (I 14) (b, x :: y :: W, r) u) c := rfl
            rw [e, ec] at h'
            exact h'
        refine wp_X2_combine hC ?_
        rcases a1 with e | e | e | e
        · subst e
          exact ip rfl ⟨_, rfl, nxt _ (fun z => absurd z.1 (by decide)) rfl⟩
        · subst e
          exact iq (by decide) (ip rfl ⟨_, rfl, nxt _ (fun z => absurd z.1 (by decide)) rfl⟩)
        · subst e
          exact iq (by decide) (iq (by decide) (ip rfl ⟨_, rfl, nxt _ (fun z => absurd z.1 (by decide)) rfl⟩))
        · subst e
          refine iq (by decide) (iq (by decide) (iq (by decide) ?_))
          by_cases gx : x = 0
          · refine ip gx ⟨_, rfl, ip (by decide) (fin L1 hL ?_)⟩
            rw [ec, if_pos ⟨rfl, gx⟩]
            exact evP_br rfl
          · exact iq gx ⟨gx, _, rfl, nxt _ (fun z => gx z.2) rfl⟩
theorem c2_valueOf {c : List Int32} (hC : CLay K) (hj : j ≤ 10) (ha : a < K.1) (hs : K.2.1 a = (20, c.length)) (hN : c.length ≤ 60) (hg : segT (I a) 0 c) (hw : wfC j c 0 1) (h : ∀ L', (∀ b, b ≠ 16 → L' b = L b) → Q (some (.long (vlC (evs (I 9) (I 13) (I 14) (false, [], 0, 0) c)))) I L') : RM0 n0 xX2_valueOf (d + 1) [.ref (n0 + 8), .ref (n0 + a)] K I L Q :=
  wp_X2_valueOf hC (c2_value_l hC hj ha hs hN c 0 (false, [], 0, 0) L (by omega) hg hw rfl (fun v hv => absurd hv (by simp)) (Nat.le_refl _) trivial (fun _ _ => rfl) h)
end VAL
