/-! what the reference's constructor leaves -/
theorem ct_dist (fs : ctL) (h : (fs.map Prod.fst).Nodup) : ∀ (i j : Nat) (x y : Nat × Nat × Nat), fs[i]? = some x → fs[j]? = some y → x.1 = y.1 → i = j := by
  intro i j x y hi hj e
  have a : (fs.map Prod.fst)[i]? = some x.1 := by rw [List.getElem?_map, hi]; rfl
  have b : (fs.map Prod.fst)[j]? = some y.1 := by rw [List.getElem?_map, hj]; rfl
  have l : i < (fs.map Prod.fst).length := by
    rcases Nat.lt_or_ge i (fs.map Prod.fst).length with g | g
    · exact g
    · rw [List.getElem?_eq_none g] at a; cases a
  exact (List.getElem?_inj l h).mp (by rw [a, b, e])
def mA : ctL := mF0 ++ mF1 ++ mF2 ++ mF3
def mB : ctL := mF4 ++ mF5 ++ mF6
theorem mS3_A (S : ctT) : mS3 S = mA.foldl (ctA 59) S := by
  unfold mS3 mA
  rw [List.foldl_append, List.foldl_append, List.foldl_append]
theorem mS_B (S : ctT) : mS S = mB.foldl (ctA 59) (ctC 59 (mA.foldl (ctA 59) S) 82) := by
  unfold mS mB
  rw [List.foldl_append, List.foldl_append, mS3_A]
theorem mA_len : mA.length = 53 := by decide +kernel
theorem mB_len : mB.length = 38 := by decide +kernel
theorem mA_nd : (mA.map Prod.fst).Nodup := by decide +kernel
theorem mB_nd : (mB.map Prod.fst).Nodup := by decide +kernel
theorem mA_82 : ∀ x ∈ mA, x.1 ≠ 82 := by decide +kernel
theorem mB_82 : ∀ x ∈ mB, x.1 ≠ 82 := by decide +kernel
theorem mAB : ∀ q ∈ m_arr, (∃ i, i < 53 ∧ mA[i]? = some (q.1, q.2.2.1, q.2.2.2) ∧ q.2.1 = 60 + i ∧ ∀ x ∈ mB, x.1 ≠ q.1) ∨ (q.1 = 82 ∧ q.2.1 = 113 ∧ q.2.2 = (20, 6)) ∨ (∃ i, i < 38 ∧ mB[i]? = some (q.1, q.2.2.1, q.2.2.2) ∧ q.2.1 = 114 + i) := by decide +kernel
theorem mS_facts (S : ctT) (h60 : S.1.1 = 60) (hc : (S.1.2.1 59).1 = 13) : (mS S).1.1 = 152 ∧ (∀ a, a < 60 → (mS S).1.2.1 a = S.1.2.1 a) ∧ (∀ a, a < 59 → (mS S).1.2.2 a = S.1.2.2 a) ∧ MLay (mS S).1 ∧ (∀ a, a < 60 → (mS S).2.1 a = S.2.1 a) ∧ (∀ a j, 60 ≤ a → a < 152 → a ≠ 113 → (mS S).2.1 a j = 0) ∧ ∀ j, j < 6 → (mS S).2.1 113 j = z_sf 0 j := by
  rw [mS_B]
  obtain ⟨a1, a2, a3, a4, a5, a6, a7, a8, a9⟩ := ct_facts 59 mA S (by omega) (ct_dist mA mA_nd)
  rw [mA_len, h60] at a1
  rw [mA_len] at a8
  rw [h60] at a2 a3 a5 a6 a8
  generalize mA.foldl (ctA 59) S = T at *
  have c1 : (ctC 59 T 82).1.1 = 114 := by show T.1.1 + 1 = 114; omega
  have c2 : ∀ a, a < 113 → (ctC 59 T 82).1.2.1 a = T.1.2.1 a := fun a ha => by
    show (if a = T.1.1 then _ else T.1.2.1 a) = _
    rw [if_neg (by omega)]
  have c2' : (ctC 59 T 82).1.2.1 113 = (20, 6) := by
    show (if 113 = T.1.1 then ((20, 6) : Nat × Nat) else T.1.2.1 113) = _
    rw [if_pos (by omega)]
  have c3 : ∀ a, a < 113 → a ≠ 59 → (ctC 59 T 82).1.2.2 a = T.1.2.2 a := fun a ha hn => by
    show (zR (zN T.1 20 6) 59 82 (some T.1.1)).2.2 a = _
    rw [zR_ne hn]
    show (if a = T.1.1 then _ else T.1.2.2 a) = _
    rw [if_neg (by omega)]
  have c4 : (ctC 59 T 82).1.2.2 59 82 = some 113 := by
    show (zR (zN T.1 20 6) 59 82 (some T.1.1)).2.2 59 82 = _
    rw [zR_e, a1]
  have c5 : ∀ j, j ≠ 82 → (ctC 59 T 82).1.2.2 59 j = T.1.2.2 59 j := fun j hj => by
    show (zR (zN T.1 20 6) 59 82 (some T.1.1)).2.2 59 j = _
    rw [zR_o hj]
    show (if 59 = T.1.1 then _ else T.1.2.2 59) j = _
    rw [if_neg (by omega)]
  have c6 : ∀ a, a < 113 → (ctC 59 T 82).2.1 a = T.2.1 a := fun a ha => by
    show zI (zI (zI (zI (zI (zI (zI0 T.2.1 T.1.1) T.1.1 0 12) T.1.1 1 10) T.1.1 2 0) T.1.1 3 0) T.1.1 4 0) T.1.1 5 0 a = _
    rw [zI_r (by omega), zI_r (by omega), zI_r (by omega), zI_r (by omega), zI_r (by omega), zI_r (by omega)]
    show (if a = T.1.1 then _ else T.2.1 a) = _
    rw [if_neg (by omega)]
  have c7 : ∀ j, j < 6 → (ctC 59 T 82).2.1 113 j = z_sf 0 j := fun j hj => by
    show zI (zI (zI (zI (zI (zI (zI0 T.2.1 T.1.1) T.1.1 0 12) T.1.1 1 10) T.1.1 2 0) T.1.1 3 0) T.1.1 4 0) T.1.1 5 0 113 j = _
    rw [a1]
    have : j = 0 ∨ j = 1 ∨ j = 2 ∨ j = 3 ∨ j = 4 ∨ j = 5 := by omega
    rcases this with e | e | e | e | e | e <;> subst e <;> simp [zI_if, z_sf]
  generalize ctC 59 T 82 = U at *
  obtain ⟨b1, b2, b3, b4, b5, b6, b7, b8, b9⟩ := ct_facts 59 mB U (by omega) (ct_dist mB mB_nd)
  rw [mB_len, c1] at b1
  rw [mB_len] at b8
  rw [c1] at b2 b3 b5 b6 b8
  generalize mB.foldl (ctA 59) U = V at *
  refine ⟨b1, fun a ha => by rw [b2 a (by omega), c2 a (by omega), a2 a ha], fun a ha => by rw [b3 a (by omega) (by omega), c3 a (by omega) (by omega), a3 a (by omega) (by omega)], ⟨by omega, by rw [b2 59 (by omega), c2 59 (by omega), a2 59 (by omega)]; exact hc, fun q hq => ?_⟩, fun a ha => by rw [b6 a (by omega), c6 a (by omega), a6 a ha], fun a j h1 h2 h3 => ?_, fun j hj => by rw [b6 113 (by omega)]; exact c7 j hj⟩
  · rcases mAB q hq with ⟨i, hi, e1, e2, e3⟩ | ⟨e1, e2, e3⟩ | ⟨i, hi, e1, e2⟩
    · obtain ⟨f1, f2, f3⟩ := a5 i _ e1
      have n82 : q.1 ≠ 82 := mA_82 _ (List.mem_of_getElem? e1)
      rw [b4 q.1 e3, c5 q.1 n82, e2]
      exact ⟨f1, by omega, by rw [b2 _ (by omega), c2 _ (by omega)]; exact f2⟩
    · rw [e1, e2, b4 82 mB_82, c4]
      exact ⟨rfl, by omega, by rw [b2 113 (by omega), c2', e3]⟩
    · obtain ⟨f1, f2, f3⟩ := b5 i _ e1
      rw [e2]
      exact ⟨f1, by omega, f2⟩
  · by_cases y : a < 113
    · rw [b6 a (by omega), c6 a y]
      have := a8 (a - 60) (by omega) j
      rw [show 60 + (a - 60) = a by omega] at this
      exact this
    · have := b8 (a - 114) (by omega) j
      rw [show 114 + (a - 114) = a by omega] at this
      exact this
