def BdR (I0 : z_I) (L0 : z_L) (I : z_I) (L : z_L) (e : Nat) : Prop := Fz rrS I0 I ∧ (∀ a, a ≠ 85 → L a = L0 a) ∧ I 59 31 = nI e ∧ ¬ I 59 33 = 0
def okV (s : Bool × List Int64 × Int32 × Int32) : Prop := ∀ v, v ∈ s.2.1 → -1000000 ≤ v.toInt ∧ v.toInt ≤ 1000000
section SG
variable {n0 d : Nat} {K : z_K} {I I0 : z_I} {L L0 : z_L} {Q : z_q} {T ms rx ry : Nat → Int32} {n i dp : Nat} {pt : Int32} {S R m a : List Int32} {s : Bool × List Int64 × Int32 × Int32}
theorem okV_P {v : Int64} {b : Bool} {V : List Int64} {r : Int32 × Int32} (h : ∀ v, v ∈ V → -1000000 ≤ v.toInt ∧ v.toInt ≤ 1000000) : okV (evP v (b, V, r)) := by
  intro w hw
  rcases List.mem_cons.mp hw with e | e
  · rw [e]
    show -1000000 ≤ (if (b || !inR v) = true then (0 : Int64) else v).toInt ∧ (if (b || !inR v) = true then (0 : Int64) else v).toInt ≤ 1000000
    by_cases g : inR v = true
    · have := of_decide_eq_true g
      split
      · decide
      · exact this
    · have g' : inR v = false := by cases q : inR v with | true => exact absurd q g | false => rfl
      rw [g', if_pos (by simp)]
      decide
  · exact h w e
theorem okV_W {op : Int32} (h : okV s) : okV (evW op s) := by
  obtain ⟨b, V, r⟩ := s
  match V, h with
  | [], h => exact h
  | [x], h => exact h
  | x :: y :: w, h =>
    show okV (if op = 10033 ∧ x = 0 then evP (aop op y 1) (true, w, r) else evP (aop op y x) (b, w, r))
    have hw : ∀ v, v ∈ w → -1000000 ≤ v.toInt ∧ v.toInt ≤ 1000000 := fun v hv => h v (List.mem_cons_of_mem _ (List.mem_cons_of_mem _ hv))
    split
    · exact okV_P hw
    · exact okV_P hw
theorem isR_le {v r : Int64} (h : isR v r) (hv : v.toInt ≤ 1000000) : 0 ≤ r.toInt ∧ r.toInt ≤ 1000000 := by
  refine ⟨h.1, Classical.byContradiction (fun z => ?_)⟩
  have := sq_mono (show (0 : Int) ≤ 1000001 by omega) (show (1000001 : Int) ≤ r.toInt by omega)
  have := h.2.1
  omega
theorem apW_ok (h : okV s) : okV (apW m s) := by
  cases m with
  | nil => exact h
  | cons x xs => exact okV_W h
theorem StR.rt {w : Int32} {v' v : Int64} {W : List Int64} {b : Bool} (h : StR I0 L0 I L i S s dp) (hV : s.2.1 = v :: W) (hw : w = bI (b = true)) : StR I0 L0 (zI I 59 34 w) (zL L 85 W.length v') i S (b, v' :: W, s.2.2) dp := by
  obtain ⟨h1, h2, h3, h4, h5, h6, h7, h8, h9, h10, h11, h12, h13⟩ := h
  rw [hV] at h7 h8
  refine ⟨h1.z (Or.inl ⟨rfl, by omega⟩), fun a ha => by rw [zL_ne ha]; exact h2 a ha, ?_, ?_, ?_, ?_, ?_, ⟨zL_s, ?_⟩, ?_, ?_, ?_, ?_, ?_⟩
  · rw [zI_d (by omega)]; exact h3
  · rw [zI_d (by omega)]; exact h4
  · rw [zI_d (by omega)]; exact h5
  · rw [zI_r (by omega)]; exact h6
  · rw [zI_d (by omega)]; exact h7
  · exact stk_cong _ (fun k hk => zL_d (by omega)) h8.2
  · rw [zI_s, hw]
  · rw [zI_d (by omega)]; exact h10
  · rw [zI_d (by omega)]; exact h11
  · rw [zI_d (by omega)]; exact h12
  · rw [zI_d (by omega)]; exact h13
theorem StR.clo {x : Int32} (h : StR I0 L0 I L i (x :: S) s (dp + 1)) : StR I0 L0 (zI (zI (zI I 59 43 (nI S.length)) 59 44 (nI dp)) 59 31 (nI (i + 1))) L (i + 1) S s dp := by
  have hp := h.pop
  obtain ⟨h1, h2, h3, h4, h5, h6, h7, h8, h9, h10, h11, h12, h13⟩ := hp
  refine ⟨(h1.z (Or.inl ⟨rfl, by omega⟩)).z (Or.inl ⟨rfl, by omega⟩), h2, zI_s, ?_, ?_, ?_, ?_, h8, ?_, ?_, ?_, ?_, ?_⟩
  · rw [zI_d (by omega), zI_s]
  · rw [zI_d (by omega), zI_d (by omega)]; exact h5
  · rw [zI_r (by omega), zI_r (by omega)]; exact h6
  · rw [zI_d (by omega), zI_d (by omega)]; exact h7
  · rw [zI_d (by omega), zI_d (by omega)]; exact h9
  · rw [zI_d (by omega), zI_d (by omega)]; exact h10
  · rw [zI_d (by omega), zI_d (by omega)]; exact h11
  · rw [zI_d (by omega), zI_d (by omega)]; exact h12
  · rw [zI_d (by omega), zI_d (by omega)]; exact h13
theorem c13_rs_mul (hM : MLay K) (hT : TxR I0 T n pt ms rx ry) (hin : i ≤ n) (h : StR I0 L0 I L i (m ++ (a ++ S)) s dp) (hm : mOK m) (ha : aOK a) (hS : bOK S) (hl : (a ++ S).length < 69) (hv : m.length + a.length + 1 ≤ s.2.1.length) (hv2 : s.2.1.length < 70) (hx : nxT T n i = 42 ∨ nxT T n i = 47) (hq : ∀ I' L', StR I0 L0 I' L' (i + 1) (nxT T n i :: (a ++ S)) (apW m s) dp → Q (some (.int 1)) I' L') : RM0 n0 xX13_readSign (d + 5) [.ref (n0 + 59)] K I L Q := by
  refine wp_X13_readSign hM (c13_here hM (hT.fz h.1) h.2.2.1 hin ⟨_, rfl, ?_⟩)
  rcases hx with e | e
  · rw [e]
    rw [e] at hq
    refine ip rfl (c13_wt hM h hm (aOK_h ha hS) hl (by omega) hv2 (fun I1 L1 z => ⟨rfl, iq (by decide) (iq (by decide) ?_)⟩))
    rw [z.2.2.2.2.1, z.2.2.1, q_cl (by omega), ← nI_succ, ← nI_succ]
    exact ⟨q_inn (by omega) (by omega), hq _ _ z.psh⟩
  · rw [e]
    rw [e] at hq
    refine iq (by decide) (ip rfl (c13_wt hM h hm (aOK_h ha hS) hl (by omega) hv2 (fun I1 L1 z => ⟨rfl, iq (by decide) (iq (by decide) ?_)⟩)))
    rw [z.2.2.2.2.1, z.2.2.1, q_cl (by omega), ← nI_succ, ← nI_succ]
    exact ⟨q_inn (by omega) (by omega), hq _ _ z.psh⟩
theorem c13_rs_add (hM : MLay K) (hT : TxR I0 T n pt ms rx ry) (hin : i ≤ n) (h : StR I0 L0 I L i (m ++ (a ++ S)) s dp) (hm : mOK m) (ha : aOK a) (hS : bOK S) (hl : (a ++ S).length < 69) (hv : m.length + a.length + 1 ≤ s.2.1.length) (hv2 : s.2.1.length < 70) (hx : nxT T n i = 43 ∨ nxT T n i = 45) (hq : ∀ I' L', StR I0 L0 I' L' (i + 1) (nxT T n i :: S) (apW a (apW m s)) dp → Q (some (.int 1)) I' L') : RM0 n0 xX13_readSign (d + 5) [.ref (n0 + 59)] K I L Q := by
  have lS : S.length ≤ (a ++ S).length := by rw [List.length_append]; omega
  have lm := apW_l (s := s) (Or.inl hm) (by omega)
  refine wp_X13_readSign hM (c13_here hM (hT.fz h.1) h.2.2.1 hin ⟨_, rfl, ?_⟩)
  rcases hx with e | e
  · rw [e]
    rw [e] at hq
    refine iq (by decide) (iq (by decide) (ip rfl (c13_wt hM h hm (aOK_h ha hS) hl (by omega) hv2 (fun I1 L1 z => ⟨rfl, ip rfl (c13_wa (m := []) hM z (Or.inl rfl) ha hS hl (by show 0 + a.length + 1 ≤ _; omega) (by omega) (fun I2 L2 z2 => ⟨rfl, ?_⟩))⟩))))
    rw [z2.2.2.2.2.1, z2.2.2.1, q_cl (by omega), ← nI_succ, ← nI_succ]
    exact ⟨q_inn (by omega) (by omega), hq _ _ z2.psh⟩
  · rw [e]
    rw [e] at hq
    refine iq (by decide) (iq (by decide) (iq (by decide) (ip rfl (c13_wt hM h hm (aOK_h ha hS) hl (by omega) hv2 (fun I1 L1 z => ⟨rfl, iq (by decide) (ip rfl (c13_wa (m := []) hM z (Or.inl rfl) ha hS hl (by show 0 + a.length + 1 ≤ _; omega) (by omega) (fun I2 L2 z2 => ⟨rfl, ?_⟩)))⟩)))))
    rw [z2.2.2.2.2.1, z2.2.2.1, q_cl (by omega), ← nI_succ, ← nI_succ]
    exact ⟨q_inn (by omega) (by omega), hq _ _ z2.psh⟩
theorem c13_rs_oth (hM : MLay K) (hT : TxR I0 T n pt ms rx ry) (hin : i ≤ n) (h : StR I0 L0 I L i (m ++ (a ++ S)) s dp) (hm : mOK m) (ha : aOK a) (hS : bOK S) (hl : (a ++ S).length < 69) (hv : m.length + a.length + 1 ≤ s.2.1.length) (hv2 : s.2.1.length < 70) (hok : okV s) (hx : ¬ (nxT T n i = 42 ∨ nxT T n i = 47) ∧ ¬ (nxT T n i = 43 ∨ nxT T n i = 45)) (hdp : dp ≤ 5) (hd0 : S ≠ [] → 1 ≤ dp)
    (hq1 : nxT T n i = 41 → ∀ S', S = 40 :: S' → ∀ I' L', StR I0 L0 I' L' (i + 1) S' (apW a (apW m s)) (dp - 1) → Q (some (.int 0)) I' L')
    (hq2 : nxT T n i = 41 → ∀ S', S = 114 :: S' → ∀ I' L', StR I0 L0 I' L' (i + 1) S' (evR (apW a (apW m s))) (dp - 1) → Q (some (.int 0)) I' L')
    (hq3 : ¬ (nxT T n i = 41 ∧ S ≠ []) → ∀ I' L', StR I0 L0 I' L' i S (apW a (apW m s)) dp → Q (some (.int 0)) (zI (zI I' 59 45 1) 59 33 (if S = [] then 0 else 1)) L') : RM0 n0 xX13_readSign (d + 5) [.ref (n0 + 59)] K I L Q := by
  have lS : S.length ≤ (a ++ S).length := by rw [List.length_append]; omega
  have lm := apW_l (s := s) (Or.inl hm) (by omega)
  have la := apW_l (s := apW m s) (Or.inr ha) (by omega)
  refine wp_X13_readSign hM (c13_here hM (hT.fz h.1) h.2.2.1 hin ⟨_, rfl, ?_⟩)
  refine iq (fun z => hx.1 (Or.inl z)) (iq (fun z => hx.1 (Or.inr z)) (iq (fun z => hx.2 (Or.inl z)) (iq (fun z => hx.2 (Or.inr z)) (c13_wa hM h hm ha hS hl hv hv2 (fun I1 L1 z => ⟨rfl, c13_topSign hM z (by omega) ⟨_, rfl, ?_⟩⟩)))))
  rcases hS with e | ⟨x, S', e, ex⟩
  · subst e
    have q3 := hq3 (fun z => z.2 rfl) I1 L1 z
    rw [if_pos rfl] at q3
    have fin : Q (some (.int 0)) (zI (zI I1 59 45 1) 59 33 (if ((([] : List Int32).headD 0) : Int32) = 0 then 0 else 1)) L1 := q3
    by_cases g : nxT T n i = 41
    · exact ip g (iq (by decide) (iq (by decide) fin))
    · exact iq g fin
  · subst e
    obtain ⟨dq, rfl⟩ : ∃ dq, dp = dq + 1 := ⟨dp - 1, by have := hd0 (by simp); omega⟩
    by_cases g : nxT T n i = 41
    · refine ip g ?_
      have e43 : I1 59 43 = nI (S'.length + 1) := z.2.2.2.2.1
      have e44 : I1 59 44 = nI (dq + 1) := z.2.2.2.1
      rw [e43, e44, z.2.2.1, nI_pred, nI_pred, ← nI_succ]
      rcases ex with e | e
      · subst e
        exact ip rfl (iq (by show ¬ (40 : Int32) = 114; decide) (hq1 g S' rfl _ _ z.clo))
      · subst e
        refine iq (by show ¬ (114 : Int32) = 40; decide) (ip rfl (ip rfl ?_))
        have hv1 : ∃ v W, (apW a (apW m s)).2.1 = v :: W := by
          cases q : (apW a (apW m s)).2.1 with
          | nil => rw [q] at la; have : ([] : List Int64).length = 0 := rfl; omega
          | cons v W => exact ⟨v, W, rfl⟩
        obtain ⟨v, W, eV⟩ := hv1
        have ok2 : okV (apW a (apW m s)) := apW_ok (apW_ok hok)
        have okv := ok2 v (by rw [eV]; exact List.mem_cons_self)
        have e41 : I1 59 41 = nI (W.length + 1) := by rw [z.2.2.2.2.2.2.1, eV]; rfl
        have lW : W.length + 1 < 70 := by rw [eV] at la; have : (v :: W).length = W.length + 1 := rfl; omega
        have e85 : L1 85 W.length = v := by have := z.2.2.2.2.2.2.2.1; rw [eV] at this; exact this.1
        have e34 := z.2.2.2.2.2.2.2.2.1
        rw [e41, nI_pred, q_cl (by omega), e85, e34]
        refine ⟨q_inn (by omega) (by omega), ?_⟩
        have q2 := hq2 g S' rfl
        have evr : evR (apW a (apW m s)) = if v < 0 then (true, 0 :: W, (apW a (apW m s)).2.2) else ((apW a (apW m s)).1, rtL v :: W, (apW a (apW m s)).2.2) := by
          unfold evR; rw [eV]
        by_cases gv : v < 0
        · rw [if_pos gv] at evr
          refine ip gv (q2 _ _ ?_)
          rw [evr]
          refine StR.rt z.clo eV ?_
          rw [if_pos gv]
          by_cases gb : (apW a (apW m s)).1 = true
          · rw [bI_t gb, if_neg (by decide), bI_t rfl]
          · rw [bI_f gb, if_pos rfl, bI_t rfl]
        · rw [if_neg gv] at evr
          have gv' := mt q_ltL.mpr gv
          have e0 : (0 : Int64).toInt = 0 := rfl
          refine iq gv (c13_rootOf hM (by omega) (by omega) (fun r hr => ⟨_, rfl, q2 _ _ ?_⟩))
          rw [evr, rtL_e hr]
          refine StR.rt z.clo eV ?_
          rw [if_neg gv]
          by_cases gb : (apW a (apW m s)).1 = true
          · rw [bI_t gb, if_neg (by decide)]
          · rw [bI_f gb, if_pos rfl]
    · have q3 := hq3 (fun z => g z.1) I1 L1 z
      rw [if_neg (by simp)] at q3
      refine iq g ?_
      have e : ((x :: S').headD 0 : Int32) = x := rfl
      rw [e, if_neg (by rcases ex with e | e <;> subst e <;> decide)]
      exact q3
end SG
