/-! the reference's shortest laying -/
def bsV (b : lyB) : Int32 := if b.1 < 97 then nI b.1 else -1
def PlR (I : z_I) (N : Nat) (b : lyB) : Prop := b.1 < 97 → ∀ j, j < N → PlI I 127 128 129 j (b.2 j)
section FSH
variable {n0 d N : Nat} {K : z_K} {I I' : z_I} {L : z_L} {Q : z_q} {E : lyE} {T : Nat → Nat → Bool} {i way : Nat}
theorem PlR.fr {b : lyB} (h : PlR I N b) (e1 : I' 127 = I 127) (e2 : I' 128 = I 128) (e3 : I' 129 = I 129) : PlR I' N b := fun z j hj => (h z j hj).fr (by rw [e1]) (by rw [e2]) (by rw [e3])
theorem c13_fs88 {rv : Int32} {pl : Nat → Nat} (hE : LyM K I E N) (hp : ∀ j, j < N → PlI I 124 125 126 j (pl j))
    (h : ∀ I', Fz (fun a _ => 127 ≤ a ∧ a ≤ 129) I I' → (∀ j, j < N → PlI I' 127 128 129 j (pl j)) → Z n0 xX13_findShortest (d + 2) 0 0 8 [(0, .ref (n0 + 59)), (1, .int rv), (2, .int (nI (way + 1)))] [] K I' L (z_q0 K Q)) :
    ∀ m k I1, k + m = N → Fz (fun a _ => 127 ≤ a ∧ a ≤ 129) I I1 → (∀ j, j < k → PlI I1 127 128 129 j (pl j)) → Z n0 xX13_findShortest (d + 2) 0 0 88 [(0, .ref (n0 + 59)), (1, .int rv), (2, .int (nI way)), (4, .int (nI k))] [] K I1 L (z_q0 K Q) := by
  have hN := hE.2.1.1
  intro m
  induction m with
  | zero =>
    intro k I1 hk f1 v1
    refine wp_X13_findShortest_88 hE.1 ?_
    rw [f1 59 89 (by omega), hE.2.2.1, ← nI_succ, ← nI_succ]
    exact iq (fun z => by have := (q_nlt (by omega) (by omega)).mp z; omega) (h I1 f1 (fun j hj => v1 j (by omega)))
  | succ m ih =>
    intro k I1 hk f1 v1
    obtain ⟨p1, p2, p3⟩ := hp k (by omega)
    refine wp_X13_findShortest_88 hE.1 ?_
    rw [f1 59 89 (by omega), hE.2.2.1]
    refine ip (nI_lt (by omega) (by omega)) ⟨q_inn (by omega) (by omega), ?_⟩
    rw [q_cl (by omega), ← nI_succ]
    (repeat (first | rw [zI_r (by omega : (125 : Nat) ≠ 127)] | rw [zI_r (by omega : (126 : Nat) ≠ 128)] | rw [zI_r (by omega : (126 : Nat) ≠ 127)]))
    rw [f1 124 k (by omega), f1 125 k (by omega), f1 126 k (by omega), p1, p2, p3]
    refine ih (k + 1) _ (by omega) (((f1.z (by omega)).z (by omega)).z (by omega)) (fun j hj => ?_)
    by_cases e : j = k
    · subst e
      refine ⟨?_, ?_, zI_s⟩
      · rw [zI_r (by omega), zI_r (by omega), zI_s]
      · rw [zI_r (by omega), zI_s]
    · refine (v1 j (by omega)).fr ?_ ?_ ?_
      · rw [zI_r (by omega), zI_r (by omega), zI_d (by omega)]
      · rw [zI_r (by omega), zI_d (by omega), zI_r (by omega)]
      · rw [zI_d (by omega), zI_r (by omega), zI_r (by omega)]
theorem c13_fs33 {b : lyB} (hE : LyM K I E N) (hb : b.1 ≤ 97) :
    ∀ m k (l : List Nat) (s : lyS) (V : Nat → Prop) I1, k + m = N → l.length = m → (∀ j x, l[j]? = some x → I1 131 (k + j) = nI x) → (∀ x, x ∈ l → x < N) → TkI I1 123 s.1 → rch s.1 s.2.1 → s.2.1 ≤ 96 → (∀ j, j < N → V j → PlI I1 124 125 126 j (s.2.2 j)) → (∀ j, j < N → V j ∨ j ∈ l) → Fz lmQ I I1 → PlR I1 N b →
    (∀ I', Fz lmQ I I' → PlR I' N (lyO (rnL E l s) b) → Z n0 xX13_findShortest (d + 2) 0 0 8 [(0, .ref (n0 + 59)), (1, .int (bsV (lyO (rnL E l s) b))), (2, .int (nI (way + 1)))] [] K I' L (z_q0 K Q)) →
    Z n0 xX13_findShortest (d + 2) 0 0 33 [(0, .ref (n0 + 59)), (1, .int (bsV b)), (2, .int (nI way)), (3, .int 1), (4, .int (nI k))] [] K I1 L (z_q0 K Q) := by
  have hN := hE.2.1.1
  intro m
  induction m with
  | zero =>
    intro k l s V I1 hk hl ho hlN hT hR hr hp hV f1 hB h
    have el : l = [] := List.eq_nil_of_length_eq_zero hl
    subst el
    have hE1 := hE.fr f1
    have pall : ∀ j, j < N → PlI I1 124 125 126 j (s.2.2 j) := fun j hj => hp j hj ((hV j hj).elim id (fun z => by cases z))
    have e0 : lyO (rnL E [] s) b = lyF s.2.1 s.2.2 b := rfl
    rw [e0] at h
    refine wp_X13_findShortest_33 hE.1 ?_
    rw [hE1.2.2.1]
    refine iq (fun z => by have := (q_nlt (by omega) (by omega)).mp z; omega) (iq (by decide) ?_)
    have fin : s.2.1 < b.1 → Z n0 xX13_findShortest (d + 2) 0 0 88 [(0, .ref (n0 + 59)), (1, .int (nI s.2.1)), (2, .int (nI way)), (4, .int (nI 0))] [] K I1 L (z_q0 K Q) := fun g => by
      refine c13_fs88 hE1 pall (fun I2 f2 v2 => ?_) N 0 I1 (by omega) Fz.rfl' (fun j hj => by omega)
      have eF : lyF s.2.1 s.2.2 b = (s.2.1, s.2.2) := by unfold lyF; rw [if_pos g]
      rw [eF] at h
      have := h I2 (f1.trans (f2.mono (fun a j z => Or.inl (by omega)))) (fun _ => v2)
      unfold bsV at this
      rw [if_pos (show s.2.1 < 97 by omega)] at this
      exact this
    unfold bsV
    by_cases g97 : b.1 < 97
    · rw [if_pos g97]
      refine iq (fun z => by have := (q_nlt (b := 0) (by omega) (by omega)).mp z; omega) (c13_longOf hE1.1 hT hR hr ⟨_, rfl, ?_⟩)
      by_cases g : s.2.1 < b.1
      · exact ip (nI_lt g (by omega)) (c13_longOf hE1.1 hT hR hr ⟨_, rfl, fin g⟩)
      · refine iq (fun z => g ((q_nlt (by omega) (by omega)).mp z)) ?_
        have eF : lyF s.2.1 s.2.2 b = b := by unfold lyF; rw [if_neg g]
        rw [eF] at h
        have := h I1 f1 hB
        unfold bsV at this
        rw [if_pos g97] at this
        rw [← nI_succ]
        exact this
    · rw [if_neg g97]
      exact ip (by decide) (c13_longOf hE1.1 hT hR hr ⟨_, rfl, fin (by omega)⟩)
  | succ m ih =>
    intro k l s V I1 hk hl ho hlN hT hR hr hp hV f1 hB h
    cases l with
    | nil => simp at hl
    | cons x l =>
      have hE1 := hE.fr f1
      have hx : x < N := hlN x (List.mem_cons_self)
      have e131 : I1 131 k = nI x := by have := ho 0 x rfl; rw [Nat.add_zero] at this; exact this
      refine wp_X13_findShortest_33 hE.1 ?_
      rw [hE1.2.2.1]
      refine ip (nI_lt (by omega) (by omega)) (iq (by decide) ⟨q_inn (by omega) (by omega), ?_⟩)
      rw [q_cl (by omega), e131]
      refine c13_layFirst (d := d) hE1 hx hT (fun n I2 en f2 t2 v2 => ⟨_, rfl, ?_⟩) (fun en => ⟨_, rfl, ?_⟩)
      · obtain ⟨k1, k2, k3, _, _, k6⟩ := plN_ok en
        have hcw := hE.2.1.2.2.1
        obtain ⟨hw, hh, hlast⟩ := hE.2.1.2.1 x hx
        have er : rnL E (x :: l) s = rnL E l (putT s.1 (E.2.2.1 x (n % 2)) (E.1 x) (n / 48) (n / 2 % 24), mxN s.2.1 (n / 48 + E.1 x), upF s.2.2 x n) := rnL_s (rn1_s en)
        rw [er] at h
        have f2q : Fz lmQ I1 I2 := f2.mono (fun a j z => by unfold lkS at z; unfold lmQ; omega)
        rw [← nI_succ]
        refine ih (k + 1) l (putT s.1 (E.2.2.1 x (n % 2)) (E.1 x) (n / 48) (n / 2 % 24), mxN s.2.1 (n / 48 + E.1 x), upF s.2.2 x n) (fun j => j = x ∨ V j) I2 (by omega) (by simpa using hl) (fun j y hy => ?_) (fun y hy => hlN y (List.mem_cons_of_mem _ hy)) t2 (rch_put hw.1 (hlast (n % 2)) (by omega) k6 hR) ?_ (fun j hj hv => ?_) (fun j hj => ?_) (f1.trans f2q) (hB.fr (funext fun j => f2 127 j (by unfold lkS; omega)) (funext fun j => f2 128 j (by unfold lkS; omega)) (funext fun j => f2 129 j (by unfold lkS; omega))) h
        · rw [f2 131 _ (by unfold lkS; omega), show k + 1 + j = k + (j + 1) by omega]
          exact ho (j + 1) y (by rw [List.getElem?_cons_succ]; exact hy)
        · show mxN s.2.1 (n / 48 + E.1 x) ≤ 96
          unfold mxN; split <;> omega
        · show PlI I2 124 125 126 j (upF s.2.2 x n j)
          by_cases e : j = x
          · subst e; rw [upF_s]; exact v2
          · rw [upF_n e]
            rcases hv with z | z
            · exact absurd z e
            · exact (hp j hj z).fr (f2 124 j (by unfold lkS; omega)) (f2 125 j (by unfold lkS; omega)) (f2 126 j (by unfold lkS; omega))
        · rcases hV j hj with z | z
          · exact Or.inl (Or.inr z)
          · rcases List.mem_cons.mp z with z | z
            · exact Or.inl (Or.inl z)
            · exact Or.inr z
      · have er : rnL E (x :: l) s = none := rnL_n (rn1_n en)
        rw [er] at h
        have e0 : lyO none b = b := rfl
        rw [e0] at h
        have hh := h I1 f1 hB
        refine wp_X13_findShortest_33 hE.1 ?_
        rw [hE1.2.2.1, ← nI_succ (n := way)]
        by_cases g : nI k + 1 < nI N
        · exact ip g (ip rfl (ip rfl hh))
        · exact iq g (ip rfl hh)
theorem c13_fs8 (hE : LyM K I E N) (h0 : 0 < N) (h : ∀ I', Fz lmQ I I' → PlR I' N (lyR E N) → Q (some (.int (bsV (lyR E N)))) I' L) :
    Z n0 xX13_findShortest (d + 2) 0 0 8 [(0, .ref (n0 + 59)), (1, .int (-1)), (2, .int 0)] [] K I L (z_q0 K Q) := by
  have hN := hE.2.1.1
  have hwm : wyM N ≤ 24 := by unfold wyM; split <;> (try split) <;> (try split) <;> omega
  have ew : (if nI N = (4 : Int32) then (24 : Int32) else if nI N = (3 : Int32) then 6 else if nI N = (2 : Int32) then 2 else 1) = nI (wyM N) := by
    have hx : N = 1 ∨ N = 2 ∨ N = 3 ∨ N = 4 := by omega
    rcases hx with x | x | x | x <;> rw [x] <;> rfl
  rw [lyR_f h0 (by omega)] at h
  have ble : ∀ w, (fld (wyF E N) w (97, fun _ => 0)).1 ≤ 97 := by
    intro w
    induction w with
    | zero => exact Nat.le_refl _
    | succ w ih =>
      refine Nat.le_trans ?_ ih
      show (lyO _ _).1 ≤ _
      unfold lyO lyF
      split
      · exact Nat.le_refl _
      · split
        · rename_i g; exact Nat.le_of_lt g
        · exact Nat.le_refl _
  have lp : ∀ m way I1, way + m = wyM N → Fz lmQ I I1 → PlR I1 N (fld (wyF E N) way (97, fun _ => 0)) → Z n0 xX13_findShortest (d + 2) 0 0 8 [(0, .ref (n0 + 59)), (1, .int (bsV (fld (wyF E N) way (97, fun _ => 0)))), (2, .int (nI way))] [] K I1 L (z_q0 K Q) := by
    intro m
    induction m with
    | zero =>
      intro way I1 hm f1 B1
      have hE1 := hE.fr f1
      refine wp_X13_findShortest_8 hE.1 (wp_X13_ways hE.1 ⟨_, rfl, ?_⟩)
      rw [hE1.2.2.1, ew, show way = wyM N by omega] at *
      exact iq (fun z => by have := q_lt.mp z; omega) (h I1 f1 B1)
    | succ m ih =>
      intro way I1 hm f1 B1
      have hE1 := hE.fr f1
      have hw : way < wyM N := by omega
      refine wp_X13_findShortest_8 hE.1 (wp_X13_ways hE.1 ⟨_, rfl, ?_⟩)
      rw [hE1.2.2.1, ew]
      refine ip (nI_lt hw (by omega)) (c13_findOrder (N := N) hE.1 (by omega) h0 hw hE1.2.2.1 (fun I2 f2 o2 => ⟨rfl, c13_clearCloth hE.1 (fun I3 f3 t3 => ⟨rfl, ?_⟩)⟩))
      have f3q : Fz lmQ I I3 := (f1.trans (f2.mono (fun a j z => Or.inr z))).trans (f3.mono (fun a j z => Or.inl (by omega)))
      obtain ⟨l1, l2, l3⟩ := ord_2 (by omega) h0 hw
      have B3 : PlR I3 N (fld (wyF E N) way (97, fun _ => 0)) := B1.fr (funext fun j => by rw [f3 127 j (by omega), f2 127 j (by omega)]) (funext fun j => by rw [f3 128 j (by omega), f2 128 j (by omega)]) (funext fun j => by rw [f3 129 j (by omega), f2 129 j (by omega)])
      refine c13_fs33 (way := way) (b := fld (wyF E N) way (97, fun _ => 0)) hE (ble way) N 0 (ordN N way) (fun _ _ => false, 0, fun _ => 0) (fun _ => False) I3 (by omega) l1 (fun j x hx => ?_) l3 t3 rch_0 (by decide) (fun j _ z => z.elim) (fun j hj => Or.inr (l2 j hj)) f3q B3 (fun I4 f4 B4 => ih (way + 1) I4 (by omega) f4 B4)
      rw [f3 131 _ (by omega), Nat.zero_add]
      exact o2 j x hx
  exact lp (wyM N) 0 I (by omega) Fz.rfl' (fun z => by simp [fld] at z)
end FSH
