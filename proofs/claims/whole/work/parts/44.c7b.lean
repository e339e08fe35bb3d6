section RD7B
variable {n0 d e : Nat} {K : z_K} {I I0 I1 : z_I} {L : z_L} {Q : z_q} {T : Nat → Int32} {n : Nat} {pt : Int32} {f i c j : Nat} {cs cs' : List Int32}
theorem c7_G1 (hC : CLay K) (h0 : c7G0 n0 e K L T n pt f) (h1 : c7G1 n0 e K L T n pt f) : c7G1 n0 e K L T n pt (f + 1) := by
  intro m dd i c k I Q hm hT hk hf h
  rw [pS_1] at h
  have h60 := hT.2.2.1
  have hci := hT.2.2.2.2.2.2.1
  have hin := hT.2.2.2.2.2.2.2
  refine wp_X7_readTerm_8 hC (iq (by decide) ?_)
  by_cases g : nxT T n i = 42 ∨ nxT T n i = 47
  · rw [if_pos g] at h
    have hl : i < n := nx_lt (fun z => by rw [z] at g; rcases g with g | g <;> exact absurd g (by decide))
    have hT1 := hT.step hl (v := nI (i + 1)) rfl
    have hM1 := (MdI.rf hT).step (v := nI (i + 1)) rfl
    have key : RM0 n0 xX7_readUnit (e + 1 + 4 * m + 2) [.ref (n0 + 5), .int (nI dd)] K (zI I 5 3 (nI (i + 1))) L (fun vv I14 L15 => ∃ r16 : Int32, vv = some (.int r16) ∧ (if r16 = 0 then Z n0 xX7_readTerm (e + 1 + 4 * m + 3) 0 0 8 [(0, .ref (n0 + 5)), (1, .int (nI dd)), (2, .int 0), (3, .int (nI (k + 1)))] [] K I14 L15 (z_q0 K Q) else RM0 n0 xX7_emit (e + 1 + 4 * m + 2) [.ref (n0 + 5), .int (if nxT T n i = 42 then 10032 else 10033)] K I14 L15 (fun vv I18 L19 => ∃ r20 : Int32, vv = some (.int r20) ∧ Z n0 xX7_readTerm (e + 1 + 4 * m + 3) 0 0 8 [(0, .ref (n0 + 5)), (1, .int (nI dd)), (2, .int (if r20 = 0 then 0 else 1)), (3, .int (nI (k + 1)))] [] K I18 L19 (z_q0 K Q)))) := by
      refine h0 m dd (i + 1) c _ _ hm hT1 (by omega) (fun r hr => ?_)
      rw [hr] at h
      refine RsP.md (cs := []) (Q := Q) hM1 (fun e he => h _ (by rw [he]; rfl)) (fun q I1 hq a1 a2 => ⟨_, rfl, iq (by decide) ?_⟩) (fun I1 hq => ⟨_, rfl, ip rfl (wp_X7_readTerm_8 hC (ip rfl ⟨Or.inl rfl, hq⟩))⟩)
      subst hq
      have ps := pS_pos f 0 dd (i + 1) q.1 q.2 (by omega) hr
      have ps3 := ps.2.2.1 (by decide) (by decide)
      refine c7_emit hC a1 (by show c + q.2.length < 60; omega) (fun I2 b => ⟨_, rfl, ?_⟩)
      rw [if_neg (by decide)]
      have ln : (([] ++ q.2) ++ [if nxT T n i = 42 then (10032 : Int32) else 10033]).length = q.2.length + 1 := by rw [List.length_append]; rfl
      have hT2 := hT.md b (by rw [ln]; omega) ps.1
      refine h1 m dd q.1 _ (k + 1) I2 Q hm hT2 (by omega) (by omega) (fun r2 hr2 => ?_)
      have h' : ∀ r, bnS (pS T n pt f 1 dd q.1) (fun i3 c3 => some (Sum.inr (i3, q.2 ++ [if nxT T n i = 42 then 10032 else 10033] ++ c3))) = some r → RsP I L c Q r := h
      rw [hr2] at h'
      exact RsP.md (Q := Q) b (fun e he => h' _ (by rw [he]; rfl)) (fun q2 I3 hq b1 b2 => h' (Sum.inr (q2.1, q.2 ++ [if nxT T n i = 42 then 10032 else 10033] ++ q2.2)) (by rw [hq]; rfl) I3 b1) (fun _ z => z)
    refine ip (nI_lt (b := 60) (by omega) (by omega)) (c7_next hC hT ⟨_, rfl, ?_⟩)
    by_cases a : nxT T n i = 42
    · exact ip a (c7_next hC hT ⟨_, rfl, by rw [hT.2.2.2.2.1, ← nI_succ, ← nI_succ]; exact key⟩)
    · exact iq a (c7_next hC hT ⟨_, rfl, ip (g.resolve_left a) (c7_next hC hT ⟨_, rfl, by rw [hT.2.2.2.2.1, ← nI_succ, ← nI_succ]; exact key⟩)⟩)
  · rw [if_neg g] at h
    have hd := h _ rfl I (MdI.rf hT)
    by_cases k6 : k < 60
    · exact ip (nI_lt (b := 60) k6 (by omega)) (c7_next hC hT ⟨_, rfl, iq (fun z => g (Or.inl z)) (c7_next hC hT ⟨_, rfl, iq (fun z => g (Or.inr z)) ⟨Or.inr rfl, hd⟩⟩)⟩)
    · exact iq (fun z => k6 (by have := q_lt.mp z; rw [q_nI (by omega)] at this; have e5 : (60 : Int32).toInt = 60 := rfl; omega)) ⟨Or.inr rfl, hd⟩
theorem c7_G2 (hC : CLay K) (h0 : c7G0 n0 e K L T n pt f) (h1 : c7G1 n0 e K L T n pt f) : c7G2 n0 e K L T n pt (f + 1) := by
  intro m dd i c I Q hm hT hf h
  rw [pS_2] at h
  have h60 := hT.2.2.1
  have hci := hT.2.2.2.2.2.2.1
  have hin := hT.2.2.2.2.2.2.2
  refine wp_X7_readTerm hC (h0 m dd i c _ _ hm hT (by omega) (fun r hr => ?_))
  rw [hr] at h
  cases r with
  | inl e => exact fun I' a1 a2 => ⟨_, rfl, wp_X7_readTerm_8 hC (ip rfl ⟨Or.inl rfl, h _ rfl I' a1 a2⟩)⟩
  | inr q =>
    intro I1 a1
    have ps := pS_pos f 0 dd i q.1 q.2 (by omega) hr
    have ps3 := ps.2.2.1 (by decide) (by decide)
    have hT2 := hT.md a1 (by omega) ps.1
    refine ⟨_, rfl, h1 m dd q.1 _ 0 I1 Q hm hT2 (by omega) (by omega) (fun r2 hr2 => ?_)⟩
    have h' : ∀ r, bnS (pS T n pt f 1 dd q.1) (fun i3 c3 => some (Sum.inr (i3, q.2 ++ c3))) = some r → RsP I L c Q r := h
    rw [hr2] at h'
    exact RsP.md (Q := Q) a1 (fun e he => h' _ (by rw [he]; rfl)) (fun q2 I3 hq b1 b2 => h' (Sum.inr (q2.1, q.2 ++ q2.2)) (by rw [hq]; rfl) I3 b1) (fun _ z => z)
theorem c7_G3 (hC : CLay K) (h0 : c7G2 n0 e K L T n pt f) (h1 : c7G3 n0 e K L T n pt f) : c7G3 n0 e K L T n pt (f + 1) := by
  intro m dd i c k I Q hm hT hk hf h
  rw [pS_3] at h
  have h60 := hT.2.2.1
  have hci := hT.2.2.2.2.2.2.1
  have hin := hT.2.2.2.2.2.2.2
  refine wp_X7_readSum_8 hC (iq (by decide) ?_)
  by_cases g : nxT T n i = 43 ∨ nxT T n i = 45
  · rw [if_pos g] at h
    have hl : i < n := nx_lt (fun z => by rw [z] at g; rcases g with g | g <;> exact absurd g (by decide))
    have hT1 := hT.step hl (v := nI (i + 1)) rfl
    have hM1 := (MdI.rf hT).step (v := nI (i + 1)) rfl
    have key : RM0 n0 xX7_readTerm (e + 1 + 4 * m + 3) [.ref (n0 + 5), .int (nI dd)] K (zI I 5 3 (nI (i + 1))) L (fun vv I14 L15 => ∃ r16 : Int32, vv = some (.int r16) ∧ (if r16 = 0 then Z n0 xX7_readSum (e + 1 + 4 * m + 4) 0 0 8 [(0, .ref (n0 + 5)), (1, .int (nI dd)), (2, .int 0), (3, .int (nI (k + 1)))] [] K I14 L15 (z_q0 K Q) else RM0 n0 xX7_emit (e + 1 + 4 * m + 3) [.ref (n0 + 5), .int (if nxT T n i = 43 then 10030 else 10031)] K I14 L15 (fun vv I18 L19 => ∃ r20 : Int32, vv = some (.int r20) ∧ Z n0 xX7_readSum (e + 1 + 4 * m + 4) 0 0 8 [(0, .ref (n0 + 5)), (1, .int (nI dd)), (2, .int (if r20 = 0 then 0 else 1)), (3, .int (nI (k + 1)))] [] K I18 L19 (z_q0 K Q)))) := by
      refine h0 m dd (i + 1) c _ _ hm hT1 (by omega) (fun r hr => ?_)
      rw [hr] at h
      refine RsP.md (cs := []) (Q := Q) hM1 (fun e he => h _ (by rw [he]; rfl)) (fun q I1 hq a1 a2 => ⟨_, rfl, iq (by decide) ?_⟩) (fun I1 hq => ⟨_, rfl, ip rfl (wp_X7_readSum_8 hC (ip rfl ⟨Or.inl rfl, hq⟩))⟩)
      subst hq
      have ps := pS_pos f 2 dd (i + 1) q.1 q.2 (by omega) hr
      have ps3 := ps.2.2.1 (by decide) (by decide)
      refine c7_emit hC a1 (by show c + q.2.length < 60; omega) (fun I2 b => ⟨_, rfl, ?_⟩)
      rw [if_neg (by decide)]
      have ln : (([] ++ q.2) ++ [if nxT T n i = 43 then (10030 : Int32) else 10031]).length = q.2.length + 1 := by rw [List.length_append]; rfl
      have hT2 := hT.md b (by rw [ln]; omega) ps.1
      refine h1 m dd q.1 _ (k + 1) I2 Q hm hT2 (by omega) (by omega) (fun r2 hr2 => ?_)
      have h' : ∀ r, bnS (pS T n pt f 3 dd q.1) (fun i3 c3 => some (Sum.inr (i3, q.2 ++ [if nxT T n i = 43 then 10030 else 10031] ++ c3))) = some r → RsP I L c Q r := h
      rw [hr2] at h'
      exact RsP.md (Q := Q) b (fun e he => h' _ (by rw [he]; rfl)) (fun q2 I3 hq b1 b2 => h' (Sum.inr (q2.1, q.2 ++ [if nxT T n i = 43 then 10030 else 10031] ++ q2.2)) (by rw [hq]; rfl) I3 b1) (fun _ z => z)
    refine ip (nI_lt (b := 60) (by omega) (by omega)) (c7_next hC hT ⟨_, rfl, ?_⟩)
    by_cases a : nxT T n i = 43
    · exact ip a (c7_next hC hT ⟨_, rfl, by rw [hT.2.2.2.2.1, ← nI_succ, ← nI_succ]; exact key⟩)
    · exact iq a (c7_next hC hT ⟨_, rfl, ip (g.resolve_left a) (c7_next hC hT ⟨_, rfl, by rw [hT.2.2.2.2.1, ← nI_succ, ← nI_succ]; exact key⟩)⟩)
  · rw [if_neg g] at h
    have hd := h _ rfl I (MdI.rf hT)
    by_cases k6 : k < 60
    · exact ip (nI_lt (b := 60) k6 (by omega)) (c7_next hC hT ⟨_, rfl, iq (fun z => g (Or.inl z)) (c7_next hC hT ⟨_, rfl, iq (fun z => g (Or.inr z)) ⟨Or.inr rfl, hd⟩⟩)⟩)
    · exact iq (fun z => k6 (by have := q_lt.mp z; rw [q_nI (by omega)] at this; have e5 : (60 : Int32).toInt = 60 := rfl; omega)) ⟨Or.inr rfl, hd⟩
theorem c7_G4 (hC : CLay K) (h0 : c7G2 n0 e K L T n pt f) (h1 : c7G3 n0 e K L T n pt f) : c7G4 n0 e K L T n pt (f + 1) := by
  intro m dd i c I Q hm hT hf h
  rw [pS_4] at h
  have h60 := hT.2.2.1
  have hci := hT.2.2.2.2.2.2.1
  have hin := hT.2.2.2.2.2.2.2
  refine wp_X7_readSum hC (h0 m dd i c _ _ hm hT (by omega) (fun r hr => ?_))
  rw [hr] at h
  cases r with
  | inl e => exact fun I' a1 a2 => ⟨_, rfl, wp_X7_readSum_8 hC (ip rfl ⟨Or.inl rfl, h _ rfl I' a1 a2⟩)⟩
  | inr q =>
    intro I1 a1
    have ps := pS_pos f 2 dd i q.1 q.2 (by omega) hr
    have ps3 := ps.2.2.1 (by decide) (by decide)
    have hT2 := hT.md a1 (by omega) ps.1
    refine ⟨_, rfl, h1 m dd q.1 _ 0 I1 Q hm hT2 (by omega) (by omega) (fun r2 hr2 => ?_)⟩
    have h' : ∀ r, bnS (pS T n pt f 3 dd q.1) (fun i3 c3 => some (Sum.inr (i3, q.2 ++ c3))) = some r → RsP I L c Q r := h
    rw [hr2] at h'
    exact RsP.md (Q := Q) a1 (fun e he => h' _ (by rw [he]; rfl)) (fun q2 I3 hq b1 b2 => h' (Sum.inr (q2.1, q.2 ++ q2.2)) (by rw [hq]; rfl) I3 b1) (fun _ z => z)
theorem c7_all (hC : CLay K) : ∀ f, c7G0 n0 e K L T n pt f ∧ c7G1 n0 e K L T n pt f ∧ c7G2 n0 e K L T n pt f ∧ c7G3 n0 e K L T n pt f ∧ c7G4 n0 e K L T n pt f ∧ c7G5 n0 e K L T n pt f := by
  intro f
  induction f with
  | zero => exact ⟨fun m dd i c I Q _ _ hf => absurd hf (by omega), fun m dd i c k I Q _ _ _ hf => absurd hf (by omega), fun m dd i c I Q _ _ hf => absurd hf (by omega), fun m dd i c k I Q _ _ _ hf => absurd hf (by omega), fun m dd i c I Q _ _ hf => absurd hf (by omega), fun m dd i c I Q _ _ hf => absurd hf (by omega)⟩
  | succ f ih =>
    obtain ⟨h0, h1, h2, h3, h4, h5⟩ := ih
    exact ⟨c7_G0 hC h5, c7_G1 hC h0 h1, c7_G2 hC h0 h1, c7_G3 hC h2 h3, c7_G4 hC h2 h3, c7_G5 hC h4⟩
def pT (T : Nat → Int32) (n : Nat) (pt : Int32) : Option (Nat ⊕ List Int32 × List Int32) :=
  match pS T n pt 484 4 0 0 with
  | none => none
  | some (Sum.inl e) => some (Sum.inl e)
  | some (Sum.inr q) => if nxT T n q.1 = 44 then (match pS T n pt 484 4 0 (q.1 + 1) with
    | none => none
    | some (Sum.inl e) => some (Sum.inl e)
    | some (Sum.inr q2) => if q2.1 < n then some (Sum.inl q2.1) else some (Sum.inr (q.2, q2.2))) else some (Sum.inl q.1)
def rdS (a j : Nat) : Prop := (a = 5 ∧ 2 ≤ j) ∨ a = 7
theorem tx_rd {a j : Nat} (h : txS a j) : rdS a j := by unfold txS at h; unfold rdS; omega
theorem Fz.mono {S S' : Nat → Nat → Prop} (h : Fz S I I0) (hs : ∀ a j, S a j → S' a j) : Fz S' I I0 := fun a j hn => h a j (fun z => hn (hs a j z))
theorem c7_reads (hC : CLay K) (h6 : I 6 = T) (h1 : I 5 1 = nI n) (h60 : n ≤ 60) (hb : ∀ k, k < n → 0 ≤ (T k).toInt)
    (hf : ∀ x, pT T n pt = some (Sum.inl x) → ∀ I', Fz rdS I I' → I' 5 2 = nI x → Q (some (.int 0)) I' L)
    (hs : ∀ x y, pT T n pt = some (Sum.inr (x, y)) → ∀ I', Fz rdS I I' → I' 5 7 = nI x.length → I' 5 6 = nI (x.length + y.length) → x.length + y.length ≤ 60 → segT (I' 7) 0 (x ++ y) → Q (some (.int 1)) I' L) : RM0 n0 xX7_reads (e + 26) [.ref (n0 + 5), .int pt] K I L Q := by
  have hT : TxI (zI (zI (zI (zI I 5 2 (-1)) 5 3 0) 5 4 pt) 5 6 0) T n pt 0 0 := by
    refine ⟨?_, ?_, h60, ?_, ?_, ?_, Nat.le_refl _, Nat.zero_le _⟩
    · rw [zI_r (by omega), zI_r (by omega), zI_r (by omega), zI_r (by omega)]; exact h6
    · (repeat (first | rw [zI_s] | rw [zI_d (by omega)])); exact h1
    · (repeat (first | rw [zI_s] | rw [zI_d (by omega)]))
    · (repeat (first | rw [zI_s] | rw [zI_d (by omega)])); rfl
    · (repeat (first | rw [zI_s] | rw [zI_d (by omega)])); rfl
  have hz : Fz rdS I (zI (zI (zI (zI I 5 2 (-1)) 5 3 0) 5 4 pt) 5 6 0) := (((Fz.rfl'.z (Or.inl ⟨rfl, by omega⟩)).z (Or.inl ⟨rfl, by omega⟩)).z (Or.inl ⟨rfl, by omega⟩)).z (Or.inl ⟨rfl, by omega⟩)
  have G4 := (c7_all (n0 := n0) (e := e) (L := L) (T := T) (n := n) (pt := pt) hC 484).2.2.2.2.1
  refine wp_X7_reads hC ?_
  refine G4 5 0 0 0 _ _ (by omega) hT (by omega) (fun r hr => ?_)
  unfold pT at hf hs
  rw [hr] at hf hs
  cases r with
  | inl x => exact fun I' a1 a2 => ⟨_, rfl, ip rfl (hf x rfl I' (hz.trans (a1.mono (fun _ _ => tx_rd))) a2)⟩
  | inr q =>
    intro I1 a1
    have ps := pS_pos 484 4 0 0 q.1 q.2 (by omega) hr
    have hT1 := hT.md a1 (by omega) ps.1
    have z1 := hz.trans (a1.1.mono (fun _ _ => tx_rd))
    refine ⟨_, rfl, iq (by decide) (c7_next hC hT1 ⟨_, rfl, ?_⟩)⟩
    have hf1 : ∀ x, (if nxT T n q.1 = 44 then (match pS T n pt 484 4 0 (q.1 + 1) with | none => none | some (Sum.inl e) => some (Sum.inl e) | some (Sum.inr q2) => if q2.1 < n then some (Sum.inl q2.1) else some (Sum.inr (q.2, q2.2))) else some (Sum.inl q.1)) = some (Sum.inl x) → ∀ I', Fz rdS I I' → I' 5 2 = nI x → Q (some (.int 0)) I' L := hf
    have hs1 : ∀ x y, (if nxT T n q.1 = 44 then (match pS T n pt 484 4 0 (q.1 + 1) with | none => none | some (Sum.inl e) => some (Sum.inl e) | some (Sum.inr q2) => if q2.1 < n then some (Sum.inl q2.1) else some (Sum.inr (q.2, q2.2))) else some (Sum.inl q.1)) = some (Sum.inr (x, y)) → ∀ I', Fz rdS I I' → I' 5 7 = nI x.length → I' 5 6 = nI (x.length + y.length) → x.length + y.length ≤ 60 → segT (I' 7) 0 (x ++ y) → Q (some (.int 1)) I' L := hs
    by_cases g : nxT T n q.1 = 44
    · rw [if_pos g] at hf1 hs1
      have hl : q.1 < n := nx_lt (fun z => by rw [z] at g; exact absurd g (by decide))
      refine ip g ?_
      rw [hT1.2.2.2.2.1, hT1.2.2.2.2.2.1, ← nI_succ]
      have hT2 : TxI (zI (zI I1 5 3 (nI (q.1 + 1))) 5 7 (nI (0 + q.2.length))) T n pt (q.1 + 1) (0 + q.2.length) := by
        obtain ⟨t1, t2, t3, t4, t5, t6, t7, t8⟩ := hT1
        refine ⟨?_, ?_, t3, ?_, ?_, ?_, by omega, by omega⟩
        · rw [zI_r (by omega), zI_r (by omega)]; exact t1
        · rw [zI_d (by omega), zI_d (by omega)]; exact t2
        · rw [zI_d (by omega), zI_d (by omega)]; exact t4
        · rw [zI_d (by omega), zI_s]
        · rw [zI_d (by omega), zI_d (by omega)]; exact t6
      have z2 : Fz rdS I (zI (zI I1 5 3 (nI (q.1 + 1))) 5 7 (nI (0 + q.2.length))) := (z1.z (Or.inl ⟨rfl, by omega⟩)).z (Or.inl ⟨rfl, by omega⟩)
      refine G4 5 0 (q.1 + 1) _ _ _ (by omega) hT2 (by omega) (fun r2 hr2 => ?_)
      rw [hr2] at hf1 hs1
      cases r2 with
      | inl x => exact fun I' b1 b2 => ⟨_, rfl, ip rfl (hf1 x rfl I' (z2.trans (b1.mono (fun _ _ => tx_rd))) b2)⟩
      | inr q2 =>
        intro I2 b1
        have ps2 := pS_pos 484 4 0 (q.1 + 1) q2.1 q2.2 (by omega) hr2
        have hT3 := hT2.md b1 (by omega) ps2.1
        have z3 := z2.trans (b1.1.mono (fun _ _ => tx_rd))
        refine ⟨_, rfl, iq (by decide) (c7_next hC hT3 ⟨_, rfl, ?_⟩)⟩
        have hf2 : ∀ x, (if q2.1 < n then some (Sum.inl q2.1) else some (Sum.inr (q.2, q2.2))) = some (Sum.inl x) → ∀ I', Fz rdS I I' → I' 5 2 = nI x → Q (some (.int 0)) I' L := hf1
        have hs2 : ∀ x y, (if q2.1 < n then some (Sum.inl q2.1) else some (Sum.inr (q.2, q2.2))) = some (Sum.inr (x, y)) → ∀ I', Fz rdS I I' → I' 5 7 = nI x.length → I' 5 6 = nI (x.length + y.length) → x.length + y.length ≤ 60 → segT (I' 7) 0 (x ++ y) → Q (some (.int 1)) I' L := hs1
        by_cases g2 : q2.1 < n
        · rw [if_pos g2] at hf2
          refine iq (fun z => ?_) (c7_fail (j := q2.1) hC (Fz.rfl' (S := txS)) hT3.2.2.2.2.1 (fun I' c1 c2 => ⟨_, rfl, ?_⟩))
          · unfold nxT at z
            rw [if_pos g2] at z
            have := hb _ g2
            rw [z] at this
            exact absurd this (by decide)
          · rw [if_pos rfl]
            exact hf2 _ rfl I' (z3.trans (c1.mono (fun _ _ => tx_rd))) c2
        · rw [if_neg g2] at hs2
          refine ip (by unfold nxT; rw [if_neg g2]) (hs2 q.2 q2.2 rfl I2 z3 ?_ ?_ (by omega) ?_)
          · rw [b1.1 5 7 (fun z => by unfold txS at z; omega), zI_s, Nat.zero_add]
          · rw [b1.2.2.1, Nat.zero_add]
          · refine (segT_app q.2 q2.2 0).mpr ⟨?_, b1.2.2.2.2⟩
            refine segT_cong q.2 0 (fun k _ hk => ?_) a1.2.2.2.2
            rw [b1.2.2.2.1 k hk, zI_d (by omega), zI_d (by omega)]
    · rw [if_neg g] at hf1
      exact iq g (c7_fail (j := q.1) hC (Fz.rfl' (S := txS)) hT1.2.2.2.2.1 (fun I' c1 c2 => ⟨_, rfl, Or.inl rfl, hf1 _ rfl I' (z1.trans (c1.mono (fun _ _ => tx_rd))) c2⟩))
end RD7B
