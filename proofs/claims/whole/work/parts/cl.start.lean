/-! the law's start -/
/-- a static array of six ints, as the Statement gives it -/
theorem st_arr {args : Array Value} {s : State} {tm : Term} {f : Nat → Int32} (harr : (Cond.arrayOf tm .int).before args s = true) (hlen : (Cond.eq (.length tm) (.int (Int32.ofNat 6))).before args s = true) (hel : ∀ j : Nat, j < 6 → (Cond.eq (.elem tm (.int (Int32.ofNat j))) (.int (f j))).before args s = true) : ∃ t : Nat, tm.eval args s none [] s = some (.ref t) ∧ va_X t 6 f s s.heap ∧ t < s.heap.size := by
  have hl : (Term.length tm).eval args s none [] s = some (.int (Int32.ofNat 6)) := va_eqt hlen
  obtain ⟨t, ht, cell, h1, h2, h3, h4, h5, h6, h7⟩ := va_Tof (A := fun _ => False) (f := fun j => .int (f j)) (by decide) harr hl (fun j hj => va_eqt (hel j hj)) (fun _ _ h => h)
  refine ⟨t, ht, ⟨cell, h1, h2, h3, ?_, h6⟩, (Array.getElem?_eq_some_iff.mp h1).1⟩
  obtain ⟨t', cell', e1, e2, e3⟩ := Term.length_spec hl
  cases ht.symm.trans e1
  obtain ⟨hc, -, -, -⟩ := State.arrayAt?_spec e2
  cases h1.symm.trans hc
  have hb : cell.slots.size < 2 ^ 31 := by
    by_cases hb : cell.slots.size < 2 ^ 31
    · exact hb
    · have hb' : ¬ cell.slots.size < 2147483648 := hb
      simp [Term.eval, ht, e2, hb'] at hl
  have q : (nI cell.slots.size).toInt = (nI 6).toInt := congrArg Int32.toInt h5
  rw [q_nI hb, q_nI (by omega)] at q
  omega
theorem st_one {args : Array Value} {s : State} {n : String} {f : Nat → Int32} (hl : (Cond.laysStatic RX12 n "[I").before args s = true) (hi : (Cond.initialized RX12).before args s = true) (hex : (Cond.exactly (.static RX12 n "[I") "[I").before args s = true) (harr : (Cond.arrayOf (.static RX12 n "[I") .int).before args s = true)
    (hlen : (Cond.eq (.length (.static RX12 n "[I")) (.int (Int32.ofNat 6))).before args s = true) (hel : ∀ j : Nat, j < 6 → (Cond.eq (.elem (.static RX12 n "[I") (.int (Int32.ofNat j))) (.int (f j))).before args s = true) :
    ∃ a : Nat, va_Z RX12 n "[I" (.ref a) (z_A s.heap.size) s s.heap ∧ va_O "[I" a (z_A s.heap.size) s s.heap ∧ va_X a 6 f s s.heap ∧ a < s.heap.size := by
  obtain ⟨a, ha, hX, hlt⟩ := st_arr harr hlen hel
  have hA : ∀ q : Nat, q < s.heap.size → ¬ z_A s.heap.size q := fun q hq => Nat.not_le.mpr hq
  exact ⟨a, va_Zof hl hi ha hA, va_Oof hex ha hA, hX, hlt⟩
theorem j6 {j : Nat} (h : j < 6) : j = 0 ∨ j = 1 ∨ j = 2 ∨ j = 3 ∨ j = 4 ∨ j = 5 := by omega
theorem st_S {args : Array Value} {s : State} (hts : ∀ w ∈ lw_tbl, w.before args s = true) (hgv : (Jvm.Cond.and given_1 narrow_1).before args s = true) : ∀ i : Nat, ∃ a : Nat, i < 3 → va_Z RX12 (z_sn i) "[I" (.ref a) (z_A s.heap.size) s s.heap ∧ va_O "[I" a (z_A s.heap.size) s s.heap ∧ va_X a 6 (z_sf i) s s.heap ∧ a < s.heap.size := by
  have hs := flat_of_before _ hgv
  have hi : (Cond.initialized RX12).before args s = true := hts _ (List.mem_filter.mp wg_106).1
  intro i
  match i with
  | 0 =>
    obtain ⟨a, h⟩ := st_one (n := "CLOTH_AT_FIRST") (f := z_sf 0) (hts _ (z_in1 (List.mem_of_getElem? (i := 162) rfl))) hi (hs _ (by decide +kernel)) (hs _ (by decide +kernel)) (hs _ (by decide +kernel)) (fun j hj => by
      rcases j6 hj with e | e | e | e | e | e <;> subst e
      · exact hs _ (by decide +kernel)
      · exact hs _ (by decide +kernel)
      · exact hs _ (by decide +kernel)
      · exact hs _ (by decide +kernel)
      · exact hs _ (by decide +kernel)
      · exact hs _ (by decide +kernel))
    exact ⟨a, fun _ => h⟩
  | 1 =>
    obtain ⟨a, h⟩ := st_one (n := "CLOTH_LEAST") (f := z_sf 1) (hts _ (z_in5 (List.mem_of_getElem? (i := 30) rfl))) hi (hs _ (by decide +kernel)) (hs _ (by decide +kernel)) (hs _ (by decide +kernel)) (fun j hj => by
      rcases j6 hj with e | e | e | e | e | e <;> subst e
      · exact hs _ (by decide +kernel)
      · exact hs _ (by decide +kernel)
      · exact hs _ (by decide +kernel)
      · exact hs _ (by decide +kernel)
      · exact hs _ (by decide +kernel)
      · exact hs _ (by decide +kernel))
    exact ⟨a, fun _ => h⟩
  | 2 =>
    obtain ⟨a, h⟩ := st_one (n := "CLOTH_MOST") (f := z_sf 2) (hts _ (z_in5 (List.mem_of_getElem? (i := 32) rfl))) hi (hs _ (by decide +kernel)) (hs _ (by decide +kernel)) (hs _ (by decide +kernel)) (fun j hj => by
      rcases j6 hj with e | e | e | e | e | e <;> subst e
      · exact hs _ (by decide +kernel)
      · exact hs _ (by decide +kernel)
      · exact hs _ (by decide +kernel)
      · exact hs _ (by decide +kernel)
      · exact hs _ (by decide +kernel)
      · exact hs _ (by decide +kernel))
    exact ⟨a, fun _ => h⟩
  | k + 3 => exact ⟨0, fun h => absurd h (by omega)⟩
theorem z_inst {c : Nat} (hc : c < 14) : Cond.instantiable (z_Rn c) (z_N c) ∈ lw_good := by
  match c, hc with
  | 0, _ => exact wg_509
  | 1, _ => exact wg_236
  | 2, _ => exact wg_173
  | 3, _ => exact wg_1253
  | 4, _ => exact wg_261
  | 5, _ => exact wg_580
  | 6, _ => exact wg_707
  | 7, _ => exact wg_139
  | 8, _ => exact wg_929
  | 9, _ => exact wg_363
  | 10, _ => exact wg_278
  | 11, _ => exact wg_483
  | 12, _ => exact wg_125
  | 13, _ => exact wg_1381
theorem z_over {t : Nat} (h : z_rt t) : Cond.arrayOver (.object (z_Rn (t - 30))) ∈ lw_nest := by
  rcases h with e | e | e | e | e | e | e <;> subst e
  · exact wn_133
  · exact wn_135
  · exact wn_137
  · exact wn_234
  · exact wn_361
  · exact wn_586
  · exact wn_277
theorem st_prim {args : Array Value} {s : State} {ty : FieldType} (h : (Cond.arrayClass ty).before args s = true) : ∃ cA : ClassId, ArrOfT s cA ty ∧ s.vm.findClass ("[" ++ ty.toString) = some cA := by
  obtain ⟨cA, k, comp, h1, h2, h3⟩ := Cond.arrayClass_spec h
  exact ⟨cA, fun N z => ⟨(fun k h => by cases h), k, h2, comp, h3⟩, h1⟩
theorem st_obj {args : Array Value} {s : State} {C : String} (h : (Cond.arrayOver (.object C)).before args s = true) : ∃ cA : ClassId, ArrOfT s cA (.object C) ∧ va_RA s cA (.object C) := by
  obtain ⟨comp, cA, k, h1, h2, h3, h4, h5⟩ := Cond.arrayOver_spec h
  exact ⟨cA, fun N z => ⟨(fun k h => by cases h), k, h3, comp, h4⟩, k, comp, h3, h4, h1, h5⟩
theorem st_A {args : Array Value} {s : State} (hts : ∀ w ∈ lw_tbl, w.before args s = true) : ∀ t : Nat, ∃ cA : ClassId, (t = 20 → ArrOfT s cA .int ∧ va_RA s cA .int) ∧ (t = 21 → ArrOfT s cA .boolean ∧ va_RA s cA .boolean) ∧ (t = 22 → ArrOfT s cA .long ∧ va_RA s cA .long) ∧ (z_rt t → ArrOfT s cA (.object (z_Rn (t - 30))) ∧ va_RA s cA (.object (z_Rn (t - 30)))) := by
  intro t
  by_cases h0 : t = 20
  · obtain ⟨cA, h1, h2⟩ := st_prim (hts _ (List.mem_filter.mp wg_171).1)
    exact ⟨cA, fun _ => ⟨h1, h2⟩, fun h => absurd h (by omega), fun h => absurd h (by omega), fun h => absurd h (by unfold z_rt; omega)⟩
  by_cases h1 : t = 21
  · obtain ⟨cA, h1, h2⟩ := st_prim (hts _ (List.mem_filter.mp wg_638).1)
    exact ⟨cA, fun h => absurd h (by omega), fun _ => ⟨h1, h2⟩, fun h => absurd h (by omega), fun h => absurd h (by unfold z_rt; omega)⟩
  by_cases h2 : t = 22
  · obtain ⟨cA, h1, h2⟩ := st_prim (hts _ (List.mem_filter.mp wg_232).1)
    exact ⟨cA, fun h => absurd h (by omega), fun h => absurd h (by omega), fun _ => ⟨h1, h2⟩, fun h => absurd h (by unfold z_rt; omega)⟩
  by_cases h3 : z_rt t
  · obtain ⟨cA, e1, e2⟩ := st_obj (hts _ (List.mem_filter.mp (z_over h3)).1)
    exact ⟨cA, fun h => absurd h h0, fun h => absurd h h1, fun h => absurd h h2, fun _ => ⟨e1, e2⟩⟩
  · exact ⟨(0 : Nat), fun h => absurd h h0, fun h => absurd h h1, fun h => absurd h h2, fun h => absurd h h3⟩
theorem st_C {args : Array Value} {s : State} (hts : ∀ w ∈ lw_tbl, w.before args s = true) : ∀ c : Nat, ∃ q : ClassId × (Nat → Nat), c < 14 → u_Kn s (z_Rn c) (z_T c) (z_N c) q.1 q.2 := by
  intro c
  by_cases hc : c < 14
  · obtain ⟨a, b, h⟩ := u_known (ws := lw_good) (fun w h => hts w (List.mem_filter.mp h).1) (z_lays hc) (hts _ (List.mem_filter.mp (z_inst hc)).1)
    exact ⟨(a, b), fun _ => h⟩
  · exact ⟨((0 : Nat), fun _ => 0), fun h => absurd h hc⟩
theorem st_K {args : Array Value} {s : State} (hts : ∀ w ∈ lw_tbl, w.before args s = true) : ∃ (dC : Nat → ClassId) (dI : Nat → Nat → Nat) (dA : Nat → ClassId), ∀ dS : Nat → Nat × Nat × (Nat → Int32), va_K (dC, dI) vwCl (z_tys (dC, dI, dA, dS)) s := by
  refine ⟨fun c => (Classical.choose (st_C hts c)).1, fun c => (Classical.choose (st_C hts c)).2, fun t => Classical.choose (st_A hts t), fun dS => ⟨fun c q hq => ?_, fun k q hk => ?_⟩⟩
  · have hc : c < 14 := (List.getElem?_eq_some_iff.mp hq).1
    cases (z_cl hc).symm.trans hq
    exact Classical.choose_spec (st_C hts c) hc
  · have hA : ∀ t : Nat, _ := fun t => Classical.choose_spec (st_A hts t)
    have hk10 : k < 10 := (List.getElem?_eq_some_iff.mp hk).1
    have : k = 0 ∨ k = 1 ∨ k = 2 ∨ k = 3 ∨ k = 4 ∨ k = 5 ∨ k = 6 ∨ k = 7 ∨ k = 8 ∨ k = 9 := by omega
    rcases this with e | e | e | e | e | e | e | e | e | e <;> subst e
    · obtain rfl := Option.some.inj hk; exact (hA 20).1 rfl
    · obtain rfl := Option.some.inj hk; exact (hA 21).2.1 rfl
    · obtain rfl := Option.some.inj hk; exact (hA 22).2.2.1 rfl
    · obtain rfl := Option.some.inj hk; exact (hA 41).2.2.2 (by unfold z_rt; decide)
    · obtain rfl := Option.some.inj hk; exact (hA 30).2.2.2 (by unfold z_rt; decide)
    · obtain rfl := Option.some.inj hk; exact (hA 35).2.2.2 (by unfold z_rt; decide)
    · obtain rfl := Option.some.inj hk; exact (hA 38).2.2.2 (by unfold z_rt; decide)
    · obtain rfl := Option.some.inj hk; exact (hA 33).2.2.2 (by unfold z_rt; decide)
    · obtain rfl := Option.some.inj hk; exact (hA 36).2.2.2 (by unfold z_rt; decide)
    · obtain rfl := Option.some.inj hk; exact (hA 40).2.2.2 (by unfold z_rt; decide)
theorem st_nw {w : Cond} {A : Array Value} {U : State} (h : z_isN w = true) (hb : w.before A U = true) : va_Nw w U := by
  cases w <;> first | exact va_Nw.of rfl hb | (rename_i t; cases t <;> first | exact va_AO.of hb | (exfalso; simp [z_isN] at h; done)) | (exfalso; simp [z_isN] at h; done)
theorem st_room {s : State} {pl : Platform} (h : s.hasRoom pl room_1 = true) : s.hasRoom pl (z_rm 1399 600000 7302250) = true := by
  simp only [State.hasRoom, Bool.and_eq_true, decide_eq_true_eq] at h ⊢
  obtain ⟨⟨⟨⟨h5, h1, h1', h4, h4', hb⟩, h2⟩, h3⟩, h0⟩ := h
  have e1 : room_1.locals = 84000 := rfl
  have e2 : room_1.frames = 2048 := rfl
  have e3 : room_1.cells = 600000 := rfl
  have e4 : room_1.slots = 7302250 := rfl
  have g1 : (z_rm 1399 600000 7302250).locals = 83960 := rfl
  have g2 : (z_rm 1399 600000 7302250).frames = 1399 := rfl
  have g3 : (z_rm 1399 600000 7302250).cells = 600000 := rfl
  have g4 : (z_rm 1399 600000 7302250).slots = 7302250 := rfl
  rw [e1] at h5 h4 h4'
  rw [e2] at h1 h1'
  rw [e3] at h2
  rw [e4] at h3
  rw [g1, g2, g3, g4]
  exact ⟨⟨⟨⟨by omega, by omega, by omega, by omega, by omega, hb⟩, h2⟩, h3⟩, h0⟩
