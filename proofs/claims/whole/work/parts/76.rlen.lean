def atV (n v : Nat) : Nat := if v < n then v else v - n
def poV (cv : Nat → Bool) (n v : Nat) : Nat := if v < n then offN cv v else offN cv n + offN cv (v - n)
noncomputable def lenN (W : Nat → Int32 × Int32) (cv : Nat → Bool) (n a b : Nat) : Nat := acN (eW W (offN cv n)) (offN cv n) (offN cv a) (poV cv n (if a < b then b else n + b))
section RLN
variable {n0 d : Nat} {K : z_K} {I : z_I} {L : z_L} {Q : z_q} {W : Nat → Int32 × Int32} {n p a b : Nat} {cv : Nat → Bool}
theorem po_s {v : Nat} (hv : v + 1 ≤ 2 * n) (hn : 1 ≤ n) : poV cv n (v + 1) = poV cv n v + stN cv (atV n v) := by
  unfold poV atV
  by_cases g : v < n
  · rw [if_pos g, if_pos g]
    by_cases g2 : v + 1 < n
    · rw [if_pos g2]; rfl
    · rw [if_neg g2, show v + 1 - n = 0 from by omega]
      have e : n = v + 1 := by omega
      rw [e]; rfl
  · rw [if_neg g, if_neg g, if_neg (by omega), show v + 1 - n = (v - n) + 1 from by omega]
    show offN cv n + (offN cv (v - n) + stN cv (v - n)) = _
    omega
theorem po_b {v : Nat} (hv : v ≤ 2 * n) : poV cv n v ≤ 2 * offN cv n := by
  unfold poV
  split
  · have := off_m (cv := cv) (show v ≤ n by omega); omega
  · have := off_m (cv := cv) (show v - n ≤ n by omega); omega
theorem po_a {v : Nat} (hv : a ≤ v) (ha : a < n) : offN cv a ≤ poV cv n v := by
  unfold poV
  split
  · exact off_m hv
  · have := off_m (cv := cv) (show a ≤ n by omega); omega
theorem c13_len28 {v : Nat} (hM : MLay K) (hn : 3 ≤ n ∧ n ≤ 10) (hW : bnW W (offN cv n)) (h97 : ∀ k, k ≤ n → I 97 k = nI (offN cv k)) (hx : ∀ i, i < offN cv n → I 95 i = (W i).1 ∧ I 96 i = (W i).2) (hN : I 95 (offN cv n) = (W 0).1 ∧ I 96 (offN cv n) = (W 0).2) (h67 : I 67 p = nI n) (hp : p < 16) (ha : a < n) (hav : a ≤ v) (hv : v + 2 ≤ 2 * n)
    (h : Z n0 xX13_lengthOf (d + 1) 0 0 14 [(0, .ref (n0 + 59)), (1, .int (nI p)), (3, .int (nI b)), (4, .int (nI (acN (eW W (offN cv n)) (offN cv n) (offN cv a) (poV cv n (v + 1))))), (5, .int (nI (atV n (v + 1)))), (6, .int (if nI (atV n (v + 1)) = nI b then 0 else 1))] [] K I L (z_q0 K Q)) :
    ∀ w j, j + w = stN cv (atV n v) → Z n0 xX13_lengthOf (d + 1) 0 0 28 [(0, .ref (n0 + 59)), (1, .int (nI p)), (3, .int (nI b)), (4, .int (nI (acN (eW W (offN cv n)) (offN cv n) (offN cv a) (poV cv n v + j)))), (5, .int (nI (atV n v))), (7, .int (nI (offN cv (atV n v) + j)))] [] K I L (z_q0 K Q) := by
  have hoff := off_b (cv := cv) n
  have eb := eW_b hW (by omega)
  have hat : atV n v < n := by unfold atV; split <;> omega
  have hos := off_m (cv := cv) (show atV n v + 1 ≤ n by omega)
  have eo : offN cv (atV n v + 1) = offN cv (atV n v) + stN cv (atV n v) := rfl
  have hoa := off_m (cv := cv) (show a + 1 ≤ n by omega)
  have eoa : offN cv (a + 1) = offN cv a + stN cv a := rfl
  have hsa := st_b (cv := cv) a
  intro w
  induction w with
  | zero =>
    intro j hj
    have e : j = stN cv (atV n v) := by omega
    subst e
    have en : (if nI (atV n v) + 1 < nI n then nI (atV n v) + 1 else 0) = nI (atV n (v + 1)) := by
      rw [← nI_succ]
      unfold atV
      by_cases g : v < n
      · rw [if_pos g]
        by_cases g2 : v + 1 < n
        · rw [if_pos g2, if_pos (nI_lt g2 (by omega))]
        · rw [if_neg g2, if_neg (fun z => g2 (by have := q_lt.mp z; rw [q_nI (by omega), q_nI (by omega)] at this; omega)), show v + 1 - n = 0 from by omega]; rfl
      · rw [if_neg g, if_pos (nI_lt (show v - n + 1 < n by omega) (by omega)), if_neg (show ¬ v + 1 < n by omega), show v + 1 - n = v - n + 1 from by omega]
    refine wp_X13_lengthOf_28 hM ?_
    rw [q_cl (n := p) (by omega), h67, en, show nI (atV n v) + 1 = nI (atV n v + 1) from by rw [← nI_succ], q_cl (n := atV n v + 1) (by omega), h97 _ (by omega), eo, ← po_s (show v + 1 ≤ 2 * n by omega) (by omega)]
    exact ⟨q_inn (by omega) (by omega), iq (fun z => by have := q_lt.mp z; omega) ⟨q_inn (by omega) (by omega), h⟩⟩
  | succ w ih =>
    intro j hj
    have hi : offN cv (atV n v) + j < offN cv n := by omega
    have nx := ih (j + 1) (by omega)
    refine wp_X13_lengthOf_28 hM ?_
    have e1 : nI (offN cv (atV n v) + j) + 1 = nI (offN cv (atV n v) + j + 1) := by rw [← nI_succ]
    have enx : I 95 (offN cv (atV n v) + j + 1) = (nxW W (offN cv n) (offN cv (atV n v) + j)).1 ∧ I 96 (offN cv (atV n v) + j + 1) = (nxW W (offN cv n) (offN cv (atV n v) + j)).2 := by
      unfold nxW
      by_cases q : offN cv (atV n v) + j + 1 < offN cv n
      · rw [if_pos q]; exact hx _ q
      · rw [if_neg q, show offN cv (atV n v) + j + 1 = offN cv n from by omega]; exact hN
    rw [e1, q_cl (n := offN cv (atV n v) + j + 1) (by omega), q_cl (n := offN cv (atV n v) + j) (by omega), enx.1, enx.2, (hx _ hi).1, (hx _ hi).2, show nI (atV n v) + 1 = nI (atV n v + 1) from by rw [← nI_succ], q_cl (n := atV n v + 1) (by omega), h97 _ (by omega), eo]
    refine ⟨q_inn (by omega) (by omega), ip (nI_lt (by omega) (by omega)) ⟨q_inn (by omega) (by omega), q_inn (by omega) (by omega), ?_⟩⟩
    have hb := d2_b hW hi
    refine c13_rootOf (v := d2W W (offN cv n) (offN cv (atV n v) + j)) hM hb.1 (by omega) (fun r hr => ⟨_, rfl, ?_⟩)
    obtain ⟨r1, r2⟩ := eW_r hW hi hr
    have as := ac_s (e := eW W (offN cv n)) (N := offN cv n) (oa := offN cv a) (i := poV cv n v + j) (by have := po_a (cv := cv) hav ha; omega) (by omega)
    have ei : (if poV cv n v + j < offN cv n then poV cv n v + j else poV cv n v + j - offN cv n) = offN cv (atV n v) + j := by
      by_cases g : v < n
      · have ep : poV cv n v = offN cv (atV n v) := by unfold poV atV; rw [if_pos g, if_pos g]
        rw [ep, if_pos hi]
      · have ep : poV cv n v = offN cv n + offN cv (atV n v) := by unfold poV atV; rw [if_neg g, if_neg g]
        rw [ep, if_neg (by omega)]; omega
    rw [ei] at as
    have er : r.toInt32 = nI (eW W (offN cv n) (offN cv (atV n v) + j)) := q_eq.mpr (by rw [q_l2i (by omega) (by omega), r1, q_nI (by omega)])
    rw [er, q_nadd, ← as]
    exact nx
theorem c13_len14 {V : Nat} (hM : MLay K) (hn : 3 ≤ n ∧ n ≤ 10) (hW : bnW W (offN cv n)) (h97 : ∀ k, k ≤ n → I 97 k = nI (offN cv k)) (hx : ∀ i, i < offN cv n → I 95 i = (W i).1 ∧ I 96 i = (W i).2) (hN : I 95 (offN cv n) = (W 0).1 ∧ I 96 (offN cv n) = (W 0).2) (h67 : I 67 p = nI n) (hp : p < 16) (ha : a < n) (hb : b < n) (hV : V = if a < b then b else n + b)
    (h : Q (some (.int (nI (lenN W cv n a b)))) I L) :
    ∀ w v, v + w = V → a ≤ v → Z n0 xX13_lengthOf (d + 1) 0 0 14 [(0, .ref (n0 + 59)), (1, .int (nI p)), (3, .int (nI b)), (4, .int (nI (acN (eW W (offN cv n)) (offN cv n) (offN cv a) (poV cv n v)))), (5, .int (nI (atV n v))), (6, .int (if w = 0 then 0 else 1))] [] K I L (z_q0 K Q) := by
  have hV2 : V + 1 ≤ 2 * n := by rw [hV]; split <;> omega
  intro w
  induction w with
  | zero =>
    intro v hv hav
    have e : v = V := by omega
    subst e
    refine wp_X13_lengthOf_14 hM ?_
    rw [if_pos rfl]
    refine ip rfl ?_
    unfold lenN at h
    rw [← hV] at h
    exact h
  | succ w ih =>
    intro v hv hav
    have nx := ih (v + 1) (by omega) (by omega)
    have hat : atV n v < n := by unfold atV; split <;> omega
    have est : (if w = 0 then (0 : Int32) else 1) = (if nI (atV n (v + 1)) = nI b then 0 else 1) := by
      have hat1 : atV n (v + 1) < n := by unfold atV; split <;> omega
      have iff1 : (w = 0) ↔ (nI (atV n (v + 1)) = nI b) := by
        rw [q_ni (by omega) (by omega)]
        unfold atV
        constructor
        · intro z
          by_cases g : a < b
          · rw [if_pos g] at hV; rw [if_pos (by omega)]; omega
          · rw [if_neg g] at hV; rw [if_neg (by omega)]; omega
        · intro z
          by_cases g : a < b
          · rw [if_pos g] at hV
            by_cases g2 : v + 1 < n
            · rw [if_pos g2] at z; omega
            · omega
          · rw [if_neg g] at hV
            by_cases g2 : v + 1 < n
            · rw [if_pos g2] at z; omega
            · rw [if_neg g2] at z; omega
      by_cases q : w = 0
      · rw [if_pos q, if_pos (iff1.mp q)]
      · rw [if_neg q, if_neg (fun z => q (iff1.mpr z))]
    rw [est] at nx
    refine wp_X13_lengthOf_14 hM (iq (by rw [if_neg (by omega)]; decide) ?_)
    rw [q_cl (n := atV n v) (by omega), h97 _ (by omega)]
    refine ⟨q_inn (by omega) (by omega), ?_⟩
    have := c13_len28 (n0 := n0) (d := d) (L := L) (Q := Q) (b := b) hM hn hW h97 hx hN h67 hp ha hav (by omega) nx (stN cv (atV n v)) 0 (by omega)
    exact this
end RLN
