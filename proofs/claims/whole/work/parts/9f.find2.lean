section FN2
variable {n0 d : Nat} {K : z_K} {I : z_I} {L : z_L} {Q : z_q} {np nr nb na t : Nat} {pid pts rid rp rk ln cx cy bid m : Nat → Nat} {par : Nat → Option Nat} {X Y : Nat → List Int32} {A : Int32 → Int32 → Option (Int32 × Int32)} {p : Nat} {g : Nat → Int32 × Int32}
theorem g114 {a j : Nat} (h : 114 ≤ a ∧ a ≤ 116) : gS K a j := by unfold gS; omega
theorem c13_findCells (hW : Wd K I np nr nb na t pid pts rid rp rk ln cx cy bid m par X Y A) (hB : WdB I np A) (hp : p < np) (hg : ∀ k, k < pts p → I 92 k = (g k).1 ∧ I 93 k = (g k).2) (hb : bnP g (pts p)) (h0 : 1 ≤ (I 113 1).toInt) (h1 : (I 113 1).toInt ≤ 100000)
    (hA : ∀ I', Fz (gS K) I I' → wdB (wyP I g p (pts p)) (offN (cvP I p) (pts p)) (vtN (I 66 p) (offN (cvP I p) (pts p))) (I 113 1) = true → Q (some (.int 0)) I' L)
    (hS : ∀ I', Fz (gS K) I I' → wdB (wyP I g p (pts p)) (offN (cvP I p) (pts p)) (vtN (I 66 p) (offN (cvP I p) (pts p))) (I 113 1) = false → fcR I' (clB (wyP I g p (pts p)) (offN (cvP I p) (pts p)) (vtN (I 66 p) (offN (cvP I p) (pts p))) (I 113 1)) → Q (some (.int (nI (fcA (clB (wyP I g p (pts p)) (offN (cvP I p) (pts p)) (vtN (I 66 p) (offN (cvP I p) (pts p))) (I 113 1)) 24).1))) I' L) :
    RM0 n0 xX13_findCells (d + 4) [.ref (n0 + 59), .int (nI p)] K I L Q := by
  have hM := hW.2.1
  have hpt := (hW.2.2.2.2.1.2.2 p hp).2.2
  have hnp := hW.2.2.2.1.n
  have hoff := off_b (cv := cvP I p) (pts p)
  have hbW := wyP_b (I := I) (p := p) (g := g) (n := pts p) (by omega) hb (hB.bk hp hpt.2)
  refine wp_X13_findCells hM (c13_findWays (d := d) (g := g) (cv := cvP I p) hW hp hg hb (hB.bk hp hpt.2) (fun _ _ => rfl) (fun I1 f1 h61 hx hN h97 => ⟨rfl, ?_⟩))
  rw [← wy_0 (I := I) (g := g) (p := p) (n := pts p) (by omega)] at hN
  have hx' : ∀ n, n < offN (cvP I p) (pts p) → I1 95 n = (wyP I g p (pts p) n).1 ∧ I1 96 n = (wyP I g p (pts p) n).2 := hx
  have h92 : I1 92 0 = (wyP I g p (pts p) 0).1 := by rw [f1 92 0 (by unfold fwS; omega), wy_0 (by omega)]; exact (hg 0 (by omega)).1
  have f1g : Fz (gS K) I I1 := f1.mono (fun a j z => fwS_g z)
  rw [h61, ← nI_succ]
  generalize eW : wyP I g p (pts p) = W at *
  generalize eN : offN (cvP I p) (pts p) = N at *
  have e66 : I1 66 p = I 66 p := f1 66 p (by unfold fwS; omega)
  have e113 : I1 113 1 = I 113 1 := f1 113 1 (by unfold fwS; omega)
  have f2g : Fz (gS K) I (zI I1 59 88 (nI (N + 1))) := f1g.z (g59 (by omega))
  have hM1 : 1 ≤ vtN (I 66 p) N ∧ vtN (I 66 p) N ≤ 162 := by unfold vtN; split <;> omega
  refine c13_fc17 (d := d + 3) (I := zI I1 59 88 (nI (N + 1))) (p := p) (N := N) (W := W) hM (by omega) (by omega) (by rw [zI_d (by omega)]; exact h61) (fun n hn => ?_) (by rw [zI_r (by omega)]; exact h92) (fun I3 f3 h88 hv => ?_) (N + 1) 0 _ (by omega) Fz.rfl' (by rw [zI_s, if_neg (fun z => by omega)]) (fun q hq => by omega) (fun _ q hq => by omega)
  · rw [zI_r (by omega), zI_r (by omega)]
    unfold cWk
    by_cases c : n < N
    · rw [if_pos c]; exact hx' n c
    · rw [if_neg c, show n = N by omega]; exact hN
  rw [show (zI I1 59 88 (nI (N + 1))) 66 p = I 66 p by rw [zI_r (by omega)]; exact e66] at h88 hv
  generalize eM : vtN (I 66 p) N = M at *
  have f3g : Fz (gS K) I I3 := f2g.trans (f3.mono (fun a j z => by
    rcases z with z | z | ⟨z1, z2⟩
    · exact g114 (by omega)
    · exact g114 (by omega)
    · subst z1; exact g59 (by omega)))
  have s3 : I3 113 1 = I 113 1 := f3g 113 1 (by unfold gS; omega)
  have h61' : I3 59 61 = nI N := by rw [f3 59 61 (by unfold fcS; omega), zI_d (by omega)]; exact h61
  have n1 : mnV (I3 115) M = mnV (fun q => (vtx W N q).1) M := mnV_c (M := M) (fun q hq => (hv q hq).1) (by omega) M (Nat.le_refl _)
  have n2 : mnV (I3 116) M = mnV (fun q => (vtx W N q).2) M := mnV_c (M := M) (fun q hq => (hv q hq).2) (by omega) M (Nat.le_refl _)
  have n3 : mxV (I3 115) M = mxV (fun q => (vtx W N q).1) M := mxV_c (M := M) (fun q hq => (hv q hq).1) (by omega) M (Nat.le_refl _)
  have n4 : mxV (I3 116) M = mxV (fun q => (vtx W N q).2) M := mxV_c (M := M) (fun q hq => (hv q hq).2) (by omega) M (Nat.le_refl _)
  refine c13_fc157 (d := d + 3) (I := I3) (M := M) hM (by omega) h88 ?_ M 0 (by omega)
  rw [n1, n2, n3, n4, s3]
  by_cases c1 : 24 * I 113 1 < mxV (fun q => (vtx W N q).1) M - mnV (fun q => (vtx W N q).1) M
  · exact ip c1 (hA I3 f3g (by unfold wdB; rw [decide_eq_true c1]; rfl))
  · refine iq c1 ?_
    by_cases c2 : 24 * I 113 1 < mxV (fun q => (vtx W N q).2) M - mnV (fun q => (vtx W N q).2) M
    · exact ip c2 (hA I3 f3g (by unfold wdB; rw [decide_eq_true c2, Bool.or_true]))
    · refine iq c2 ?_
      have ew : wdB W N M (I 113 1) = false := by unfold wdB; rw [decide_eq_false c1, decide_eq_false c2]; rfl
      refine c13_fc307 (d := d + 3) (I := I3) (M := M) hM (by omega) h88 (fun I4 f4 v4 => ?_) M 0 I3 (by omega) Fz.rfl' (fun q hq => by omega) (fun q _ => ⟨rfl, rfl⟩)
      have v5 : ∀ q, q < M → I4 115 q = (vtD W N M q).1 ∧ I4 116 q = (vtD W N M q).2 := fun q hq => by
        obtain ⟨a1, a2⟩ := v4 q hq
        obtain ⟨b1, b2⟩ := hv q hq
        rw [a1, a2, b1, b2]; exact ⟨rfl, rfl⟩
      have f4g : Fz (gS K) I I4 := f3g.trans (f4.mono (fun a j z => g114 (by omega)))
      have f5g : Fz (gS K) I (zI (zI I4 59 84 0) 59 85 0) := (f4g.z (g59 (by omega))).z (g59 (by omega))
      have e115 : (zI (zI I4 59 84 0) 59 85 0) 115 = I4 115 := by rw [zI_r (by omega), zI_r (by omega)]
      have e116 : (zI (zI I4 59 84 0) 59 85 0) 116 = I4 116 := by rw [zI_r (by omega), zI_r (by omega)]
      have ein : inB (zI (zI I4 59 84 0) 59 85 0) N (M - 1) (I 113 1) = clB W N M (I 113 1) := by
        funext i j
        unfold inB clB
        refine insN_c (M - 1) (fun k hk => ?_)
        unfold wkB vkB
        rw [e115, e116, (v5 k (by omega)).1, (v5 k (by omega)).2, (v5 (k + 1) (by omega)).1, (v5 (k + 1) (by omega)).2]
      have hwb : ∀ k, k ≤ M - 1 → ckW ((zI (zI I4 59 84 0) 59 85 0) 115 k) ∧ ckW ((zI (zI I4 59 84 0) 59 85 0) 116 k) := fun k hk => by
        rw [e115, e116, (v5 k (by omega)).1, (v5 k (by omega)).2]
        exact vtD_b (by omega) (fun k hk => by have := hbW k hk; omega) k
      refine c13_fc382 (d := d + 2) (I := zI (zI I4 59 84 0) 59 85 0) (m := M - 1) (N := N) (s := I 113 1) hM (by rw [zI_d (by omega), zI_d (by omega), f4 59 88 (by omega), h88, show M - 1 + 1 = M by omega]) (by omega) (by rw [zI_d (by omega), zI_d (by omega), f4 59 61 (by omega)]; exact h61') (by omega) hwb h0 h1 (fun I' f' hr => ?_) 24 0 _ (by omega) Fz.rfl' (fun c hc => by omega) (by rw [zI_d (by omega), zI_s]; rfl) (by rw [zI_s]; rfl)
      rw [ein] at hr ⊢
      exact hS I' (f5g.trans (f'.mono (fun a j z => by
        rcases z with z | ⟨z1, z2⟩
        · exact g114 (by omega)
        · subst z1; exact g59 (by omega)))) ew hr
end FN2
