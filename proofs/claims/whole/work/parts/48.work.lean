def mOK (m : List Int32) : Prop := m = [] ∨ m = [42] ∨ m = [47]
def aOK (a : List Int32) : Prop := a = [] ∨ a = [43] ∨ a = [45]
def bOK (S : List Int32) : Prop := S = [] ∨ ∃ x S', S = x :: S' ∧ (x = 40 ∨ x = 114)
def apW (m : List Int32) (s : Bool × List Int64 × Int32 × Int32) : Bool × List Int64 × Int32 × Int32 :=
  match m with
  | [] => s
  | x :: _ => evW (opC x) s
section W13
variable {n0 d : Nat} {K : z_K} {I I0 : z_I} {L L0 : z_L} {Q : z_q} {T ms rx ry : Nat → Int32} {n i dp : Nat} {pt : Int32} {S R m a : List Int32} {s : Bool × List Int64 × Int32 × Int32}
theorem StR.drop0 {V : List Int64} (h : StR I0 L0 I L i S s dp) (hV : ∃ x y, s.2.1 = x :: y :: V) : StR I0 L0 (zI I 59 41 (nI V.length)) L i S (s.1, V, s.2.2) dp := by
  obtain ⟨h1, h2, h3, h4, h5, h6, h7, h8, h9, h10, h11, h12, h13⟩ := h
  obtain ⟨x, y, e⟩ := hV
  rw [e] at h8
  refine ⟨h1.z (Or.inl ⟨rfl, by omega⟩), h2, ?_, ?_, ?_, ?_, ?_, h8.2.2, ?_, ?_, ?_, ?_, ?_⟩
  · rw [zI_d (by omega)]; exact h3
  · rw [zI_d (by omega)]; exact h4
  · rw [zI_d (by omega)]; exact h5
  · rw [zI_r (by omega)]; exact h6
  · rw [zI_s]
  · rw [zI_d (by omega)]; exact h9
  · rw [zI_d (by omega)]; exact h10
  · rw [zI_d (by omega)]; exact h11
  · rw [zI_d (by omega)]; exact h12
  · rw [zI_d (by omega)]; exact h13
theorem StR.psh {sg : Int32} (h : StR I0 L0 I L i S s dp) : StR I0 L0 (zI (zI (zI I 86 S.length sg) 59 43 (nI (S.length + 1))) 59 31 (nI (i + 1))) L (i + 1) (sg :: S) s dp := by
  obtain ⟨h1, h2, h3, h4, h5, h6, h7, h8, h9, h10, h11, h12, h13⟩ := h
  refine ⟨((h1.z (Or.inr rfl)).z (Or.inl ⟨rfl, by omega⟩)).z (Or.inl ⟨rfl, by omega⟩), h2, zI_s, ?_, ?_, ⟨?_, ?_⟩, ?_, h8, ?_, ?_, ?_, ?_, ?_⟩
  · rw [zI_d (by omega), zI_d (by omega), zI_d (by omega)]; exact h4
  · rw [zI_d (by omega), zI_s]; rfl
  · rw [zI_d (by omega), zI_d (by omega), zI_s]
  · exact stk_cong _ (fun k hk => by rw [zI_d (by omega), zI_d (by omega), zI_d (by omega)]) h6
  · rw [zI_d (by omega), zI_d (by omega), zI_d (by omega)]; exact h7
  · rw [zI_d (by omega), zI_d (by omega), zI_d (by omega)]; exact h9
  · rw [zI_d (by omega), zI_d (by omega), zI_d (by omega)]; exact h10
  · rw [zI_d (by omega), zI_d (by omega), zI_d (by omega)]; exact h11
  · rw [zI_d (by omega), zI_d (by omega), zI_d (by omega)]; exact h12
  · rw [zI_d (by omega), zI_d (by omega), zI_d (by omega)]; exact h13
theorem nI_m2 {k : Nat} : nI (k + 2) - 2 = nI k := by
  rw [show nI (k + 2) = nI k + 2 from by rw [← q_nadd]; rfl, Int32.add_sub_cancel]
theorem c13_work {sg : Int32} (hM : MLay K) (h : StR I0 L0 I L i (sg :: S) s dp) (hsg : sg = 43 ∨ sg = 45 ∨ sg = 42 ∨ sg = 47) (hl : S.length < 69) (hv : 2 ≤ s.2.1.length) (hv2 : s.2.1.length < 70) (hq : ∀ I' L', StR I0 L0 I' L' i S (evW (opC sg) s) dp → Q none I' L') : RM0 n0 xX13_work (d + 2) [.ref (n0 + 59)] K I L Q := by
  obtain ⟨br, V, r⟩ := s
  match V, hv with
  | b :: a :: W, _ =>
    have hp := h.pop
    obtain ⟨h1, h2, h3, h4, h5, h6, h7, h8, h9, h10, h11, h12, h13⟩ := h
    have h5' : I 59 43 = nI (S.length + 1) := h5
    have h7' : I 59 41 = nI (W.length + 2) := h7
    have hW : W.length + 2 < 70 := hv2
    have ea : L 85 W.length = a := h8.2.1
    have eb : L 85 (W.length + 1) = b := h8.1
    have es : I 86 S.length = sg := h6.1
    refine wp_X13_work hM ?_
    rw [h5', h7', nI_pred, nI_m2, ← nI_succ, q_cl (n := S.length) (by omega), q_cl (n := W.length) (by omega), q_cl (n := W.length + 1) (by omega), es, ea, eb]
    refine ⟨q_inn (by omega) (by omega), q_inn (by omega) (by omega), q_inn (by omega) (by omega), ?_⟩
    have hd := hp.drop0 (V := W) ⟨b, a, rfl⟩
    have fin : ∀ v, evW (opC sg) (br, b :: a :: W, r) = evP v (br, W, r) → RM0 n0 xX13_push (d + 1) [.ref (n0 + 59), .long v] K (zI (zI I 59 43 (nI S.length)) 59 41 (nI W.length)) L (fun vv I18 L19 => vv = none ∧ Q none I18 L19) := by
      intro v hv
      exact c13_push hM hd (show W.length < 70 by omega) (fun I' L' z => ⟨rfl, hq I' L' (by rw [hv]; exact z)⟩)
    have hw : ∀ c : Prop, c → ¬ (opC sg = 10033 ∧ b = 0) → evW (opC sg) (br, b :: a :: W, r) = evP (aop (opC sg) a b) (br, W, r) := fun c _ z => if_neg z
    rcases hsg with e | e | e | e
    · subst e
      exact iq (by decide) ⟨fun z => absurd rfl z, fin _ (hw True trivial (fun z => absurd z.1 (by decide)))⟩
    · subst e
      exact iq (by decide) ⟨fun _ z => absurd rfl z, fin _ (hw True trivial (fun z => absurd z.1 (by decide)))⟩
    · subst e
      exact iq (by decide) ⟨fun _ _ z => absurd rfl z, fin _ (hw True trivial (fun z => absurd z.1 (by decide)))⟩
    · subst e
      refine ip rfl ?_
      by_cases g : b = 0
      · have hd1 := hp.drop (V := W) (b := true) ⟨b, a, rfl⟩ 1 (bI_t rfl).symm
        refine ip g (c13_push hM hd1 (show W.length < 70 by omega) (fun I' L' z => ⟨rfl, hq I' L' ?_⟩))
        have : evW (opC 47) (br, b :: a :: W, r) = evP (aop (opC 47) a 1) (true, W, r) := if_pos ⟨rfl, g⟩
        rw [this]; exact z
      · exact iq g ⟨fun _ _ _ z => g z, fin _ (hw True trivial (fun z => g z.2))⟩
theorem c13_wt0 (hM : MLay K) (h : StR I0 L0 I L i R s dp) (hR : R.headD 0 ≠ 42 ∧ R.headD 0 ≠ 47) (hl : R.length < 70) (hq : Q none I L) : Z n0 xX13_workTimes (d + 1) 0 0 0 [(0, .ref (n0 + 59))] [] K I L (z_q0 K Q) :=
  wp_X13_workTimes_0 hM (c13_topSign hM h hl ⟨_, rfl, iq hR.1 (c13_topSign hM h hl ⟨_, rfl, iq hR.2 hq⟩)⟩)
theorem c13_wt (hM : MLay K) (h : StR I0 L0 I L i (m ++ R) s dp) (hm : mOK m) (hR : R.headD 0 ≠ 42 ∧ R.headD 0 ≠ 47) (hl : R.length < 69) (hv : m.length + 1 ≤ s.2.1.length) (hv2 : s.2.1.length < 70) (hq : ∀ I' L', StR I0 L0 I' L' i R (apW m s) dp → Q none I' L') : RM0 n0 xX13_workTimes (d + 3) [.ref (n0 + 59)] K I L Q := by
  rcases hm with e | e | e
  · subst e
    exact wp_X13_workTimes hM (c13_topSign hM h (show R.length < 70 by omega) ⟨_, rfl, iq hR.1 (c13_topSign hM h (show R.length < 70 by omega) ⟨_, rfl, iq hR.2 (hq I L h)⟩)⟩)
  · subst e
    exact wp_X13_workTimes hM (c13_topSign hM h (show R.length + 1 < 70 by omega) ⟨_, rfl, ip rfl (c13_work (S := R) hM h (by decide) hl hv hv2 (fun I' L' z => ⟨rfl, c13_wt0 hM z hR (show R.length < 70 by omega) (hq I' L' z)⟩))⟩)
  · subst e
    exact wp_X13_workTimes hM (c13_topSign hM h (show R.length + 1 < 70 by omega) ⟨_, rfl, iq (by show ¬ (47 : Int32) = 42; decide) (c13_topSign hM h (show R.length + 1 < 70 by omega) ⟨_, rfl, ip rfl (c13_work (S := R) hM h (by decide) hl hv hv2 (fun I' L' z => ⟨rfl, c13_wt0 hM z hR (show R.length < 70 by omega) (hq I' L' z)⟩))⟩)⟩)
theorem c13_wa0 (hM : MLay K) (h : StR I0 L0 I L i R s dp) (hR : R.headD 0 ≠ 43 ∧ R.headD 0 ≠ 45) (hl : R.length < 70) (hq : Q none I L) : Z n0 xX13_workAll (d + 1) 0 0 4 [(0, .ref (n0 + 59))] [] K I L (z_q0 K Q) :=
  wp_X13_workAll_4 hM (c13_topSign hM h hl ⟨_, rfl, iq hR.1 (c13_topSign hM h hl ⟨_, rfl, iq hR.2 hq⟩)⟩)
theorem bOK_h (h : bOK S) : (S.headD 0 ≠ 43 ∧ S.headD 0 ≠ 45) ∧ (S.headD 0 ≠ 42 ∧ S.headD 0 ≠ 47) := by
  rcases h with e | ⟨x, S', e, e2⟩
  · subst e; decide
  · subst e
    show (x ≠ 43 ∧ x ≠ 45) ∧ (x ≠ 42 ∧ x ≠ 47)
    rcases e2 with e | e <;> subst e <;> decide
theorem aOK_h (h : aOK a) (hS : bOK S) : (a ++ S).headD 0 ≠ 42 ∧ (a ++ S).headD 0 ≠ 47 := by
  rcases h with e | e | e
  · subst e; exact (bOK_h hS).2
  · subst e; show (43 : Int32) ≠ 42 ∧ (43 : Int32) ≠ 47; decide
  · subst e; show (45 : Int32) ≠ 42 ∧ (45 : Int32) ≠ 47; decide
theorem apW_l (hm : mOK m ∨ aOK m) (hv : m.length + 1 ≤ s.2.1.length) : (apW m s).2.1.length = s.2.1.length - m.length := by
  have key : ∀ x, m = [x] → (apW m s).2.1.length = s.2.1.length - m.length := by
    intro x e; subst e
    exact evW_l hv
  rcases hm with (e | e | e) | (e | e | e)
  · subst e; rfl
  · exact key _ e
  · exact key _ e
  · subst e; rfl
  · exact key _ e
  · exact key _ e
theorem c13_wa (hM : MLay K) (h : StR I0 L0 I L i (m ++ (a ++ S)) s dp) (hm : mOK m) (ha : aOK a) (hS : bOK S) (hl : (a ++ S).length < 69) (hv : m.length + a.length + 1 ≤ s.2.1.length) (hv2 : s.2.1.length < 70) (hq : ∀ I' L', StR I0 L0 I' L' i S (apW a (apW m s)) dp → Q none I' L') : RM0 n0 xX13_workAll (d + 4) [.ref (n0 + 59)] K I L Q := by
  have lm := apW_l (s := s) (Or.inl hm) (by omega)
  have lS : S.length ≤ (a ++ S).length := by rw [List.length_append]; omega
  refine wp_X13_workAll hM (c13_wt hM h hm (aOK_h ha hS) hl (by omega) hv2 (fun I1 L1 z => ⟨rfl, ?_⟩))
  rcases ha with e | e | e
  · subst e
    exact c13_wa0 hM z (bOK_h hS).1 (by omega) (hq I1 L1 z)
  · subst e
    refine wp_X13_workAll_4 hM (c13_topSign hM z (by omega) ⟨_, rfl, ip rfl (c13_work (S := S) hM z (by decide) (show S.length < 69 by omega) ?_ (by omega) (fun I' L' z2 => ⟨rfl, c13_wa0 hM z2 (bOK_h hS).1 (show S.length < 70 by omega) (hq I' L' z2)⟩))⟩)
    have : ([43] : List Int32).length = 1 := rfl
    omega
  · subst e
    refine wp_X13_workAll_4 hM (c13_topSign hM z (by omega) ⟨_, rfl, iq (by show ¬ (45 : Int32) = 43; decide) (c13_topSign hM z (by omega) ⟨_, rfl, ip rfl (c13_work (S := S) hM z (by decide) (show S.length < 69 by omega) ?_ (by omega) (fun I' L' z2 => ⟨rfl, c13_wa0 hM z2 (bOK_h hS).1 (show S.length < 70 by omega) (hq I' L' z2)⟩))⟩)⟩)
    have : ([45] : List Int32).length = 1 := rfl
    omega
end W13
