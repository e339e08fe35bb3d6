/-! how many bits, and what the reference counts -/
/-- the unsigned number of an Int32 -/
def uN (x : Int32) : Nat := x.toBitVec.toNat
theorem uN_lt {x : Int32} : uN x < 2 ^ 32 := x.toBitVec.isLt
theorem uN_add {x y : Int32} (h : uN x + uN y < 2 ^ 32) : uN (x + y) = uN x + uN y := by
  unfold uN at *; rw [Int32.toBitVec_add, BitVec.toNat_add, Nat.mod_eq_of_lt h]
theorem uN_sub {x y : Int32} (h : uN y ≤ uN x) : uN (x - y) = uN x - uN y := by
  have := uN_lt (x := x)
  have := uN_lt (x := y)
  unfold uN at *; rw [Int32.toBitVec_sub, BitVec.toNat_sub]; omega
theorem uN_and {x y : Int32} : uN (x &&& y) = uN x &&& uN y := by
  unfold uN; rw [Int32.toBitVec_and, BitVec.toNat_and]
theorem uN_shr {x : Int32} {c : Int32} {k : Nat} (hc : (c.toUInt32 &&& Int32.toUInt32 31).toNat % 32 = k) : uN ((x.toUInt32 >>> (c.toUInt32 &&& Int32.toUInt32 31)).toInt32) = uN x / 2 ^ k := by
  show (x.toUInt32 >>> (c.toUInt32 &&& Int32.toUInt32 31)).toNat = _
  rw [UInt32.toNat_shiftRight, hc, Nat.shiftRight_eq_div_pow]; rfl
theorem n_and (k a b : Nat) : a &&& b = 2 ^ k * ((a / 2 ^ k) &&& (b / 2 ^ k)) + ((a % 2 ^ k) &&& (b % 2 ^ k)) := by
  rw [← Nat.and_div_two_pow, ← Nat.and_mod_two_pow]; exact (Nat.div_add_mod _ _).symm
/-- how many of the bits below k -/
def pcN : Nat → Nat → Nat
  | 0, _ => 0
  | k + 1, n => n % 2 + pcN k (n / 2)
def mk1 : Nat → Nat
  | 0 => 0
  | k + 1 => 1 + 4 * mk1 k
def mk2 : Nat → Nat
  | 0 => 0
  | k + 1 => 3 + 16 * mk2 k
def mk3 : Nat → Nat
  | 0 => 0
  | k + 1 => 15 + 256 * mk3 k
def bt1 (k n : Nat) : Nat := n - ((n / 2) &&& mk1 k)
def bt2 (k n : Nat) : Nat := (n &&& mk2 k) + ((n / 4) &&& mk2 k)
def bt3 (k n : Nat) : Nat := (n + n / 16) &&& mk3 k
theorem a1_4 (d : Nat) : d &&& 1 = d % 2 := Nat.and_two_pow_sub_one_eq_mod d 1
theorem a3_16 (d : Nat) : d &&& 3 = d % 4 := Nat.and_two_pow_sub_one_eq_mod d 2
theorem a15_256 (d : Nat) : d &&& 15 = d % 16 := Nat.and_two_pow_sub_one_eq_mod d 4
theorem bt1_s (k n : Nat) : bt1 (k + 1) n = n % 2 + n / 2 % 2 + 4 * bt1 k (n / 4) := by
  unfold bt1
  rw [n_and 2 (n / 2) (mk1 (k + 1)), show mk1 (k + 1) / 2 ^ 2 = mk1 k by simp only [mk1]; omega, show mk1 (k + 1) % 2 ^ 2 = 1 by simp only [mk1]; omega, a1_4, show n / 2 / 2 ^ 2 = n / 4 / 2 by omega]
  have : (n / 4 / 2 &&& mk1 k) ≤ n / 4 / 2 := Nat.and_le_left
  omega
theorem bt2_s (k n : Nat) : bt2 (k + 1) n = n % 4 + n / 4 % 4 + 16 * bt2 k (n / 16) := by
  unfold bt2
  rw [n_and 4 n (mk2 (k + 1)), n_and 4 (n / 4) (mk2 (k + 1)), show mk2 (k + 1) / 2 ^ 4 = mk2 k by simp only [mk2]; omega, show mk2 (k + 1) % 2 ^ 4 = 3 by simp only [mk2]; omega, a3_16, a3_16, show n / 4 / 2 ^ 4 = n / 16 / 4 by omega, show n / 2 ^ 4 = n / 16 from rfl]
  omega
theorem bt3_s (k n : Nat) (h0 : n % 16 ≤ 4) (h1 : n / 16 % 16 ≤ 4) (h2 : n / 256 % 16 ≤ 4) : bt3 (k + 1) n = n % 16 + n / 16 % 16 + 256 * bt3 k (n / 256) := by
  unfold bt3
  have e : n / 256 = n / 16 / 16 := by omega
  rw [n_and 8 (n + n / 16) (mk3 (k + 1)), show mk3 (k + 1) / 2 ^ 8 = mk3 k by simp only [mk3]; omega, show mk3 (k + 1) % 2 ^ 8 = 15 by simp only [mk3]; omega, a15_256, show (n + n / 16) / 2 ^ 8 = n / 256 + n / 256 / 16 by omega]
  omega
theorem pcN_b : ∀ k n, pcN k n ≤ k := by
  intro k
  induction k with
  | zero => intro n; exact Nat.le_refl _
  | succ k ih => intro n; have := ih (n / 2); simp only [pcN]; omega
theorem bt12 (k n : Nat) : bt2 (k + 1) (bt1 (2 * k + 2) n) = pcN 4 n + 16 * bt2 k (bt1 (2 * k) (n / 16)) := by
  have e1 : bt1 (2 * k + 2) n = _ := bt1_s (2 * k + 1) n
  have e2 := bt1_s (2 * k) (n / 4)
  rw [bt2_s]
  simp only [pcN]
  rw [show (n / 16 : Nat) = n / 4 / 4 by omega] at *
  have e3 : bt1 (2 * k + 2) n / 16 = bt1 (2 * k) (n / 4 / 4) := by omega
  rw [e3]
  have e4 : n / 2 / 2 = n / 4 := by omega
  rw [e4] at *
  omega
theorem bt123_b (k n : Nat) : bt2 k (bt1 (2 * k) n) % 16 ≤ 4 := by
  cases k with
  | zero => unfold bt2 mk2; rw [Nat.and_zero, Nat.and_zero]; omega
  | succ k => rw [show 2 * (k + 1) = 2 * k + 2 by omega, bt12]; have := pcN_b 4 n; omega
theorem pcN_add (a : Nat) : ∀ b n, pcN (a + b) n = pcN a n + pcN b (n / 2 ^ a) := by
  induction a with
  | zero => intro b n; simp [pcN]
  | succ a ih => intro b n; rw [show a + 1 + b = (a + b) + 1 by omega]; simp only [pcN]; rw [ih, Nat.div_div_eq_div_mul, show 2 * 2 ^ a = 2 ^ (a + 1) by rw [Nat.pow_succ]; omega]; omega
theorem bt_8 (k n : Nat) : bt3 (k + 1) (bt2 (2 * k + 2) (bt1 (4 * k + 4) n)) = pcN 8 n + 256 * bt3 k (bt2 (2 * k) (bt1 (4 * k) (n / 256))) := by
  have e1 := bt12 (2 * k + 1) n
  have e2 := bt12 (2 * k) (n / 16)
  have b0 := bt123_b (2 * k) (n / 16 / 16)
  have p0 := pcN_b 4 n
  have p1 := pcN_b 4 (n / 16)
  have p8 : pcN 8 n = pcN 4 n + pcN 4 (n / 16) := pcN_add 4 4 n
  rw [show 2 * (2 * k + 1) + 2 = 4 * k + 4 by omega, show 2 * (2 * k + 1) = 4 * k + 2 by omega, show 2 * k + 1 + 1 = 2 * k + 2 from rfl] at e1
  rw [show 2 * (2 * k) + 2 = 4 * k + 2 by omega] at e2
  rw [show 2 * (2 * k) = 4 * k by omega] at e2 b0
  rw [bt3_s _ _ (by omega) (by omega) (by omega), p8]
  have e3 : bt2 (2 * k + 2) (bt1 (4 * k + 4) n) / 256 = bt2 (2 * k) (bt1 (4 * k) (n / 16 / 16)) := by omega
  rw [e3, show n / 256 = n / 16 / 16 by omega]
  omega
theorem bt_32 (n : Nat) : bt3 4 (bt2 8 (bt1 16 n)) = pcN 8 n + 256 * pcN 8 (n / 256) + 65536 * pcN 8 (n / 65536) + 16777216 * pcN 8 (n / 16777216) := by
  rw [bt_8 3 n, bt_8 2, bt_8 1, bt_8 0, show n / 256 / 256 = n / 65536 by omega, show n / 65536 / 256 = n / 16777216 by omega]
  have : bt3 0 (bt2 (2 * 0) (bt1 (4 * 0) (n / 16777216 / 256))) = 0 := by unfold bt3 mk3; exact Nat.and_zero _
  omega
theorem a63 (d : Nat) : d &&& 63 = d % 64 := Nat.and_two_pow_sub_one_eq_mod d 6
theorem pc_r {x r1 r2 r3 r4 r5 : Int32}
    (e1 : r1 = x - ((x.toUInt32 >>> ((1 : Int32).toUInt32 &&& Int32.toUInt32 31)).toInt32 &&& 1431655765))
    (e2 : r2 = (r1 &&& 858993459) + ((r1.toUInt32 >>> ((2 : Int32).toUInt32 &&& Int32.toUInt32 31)).toInt32 &&& 858993459))
    (e3 : r3 = (r2 + (r2.toUInt32 >>> ((4 : Int32).toUInt32 &&& Int32.toUInt32 31)).toInt32) &&& 252645135)
    (e4 : r4 = r3 + (r3.toUInt32 >>> ((8 : Int32).toUInt32 &&& Int32.toUInt32 31)).toInt32)
    (e5 : r5 = r4 + (r4.toUInt32 >>> ((16 : Int32).toUInt32 &&& Int32.toUInt32 31)).toInt32) : r5 &&& 63 = nI (pcN 32 (uN x)) := by
  have m1 : uN 1431655765 = mk1 16 := by decide
  have m2 : uN 858993459 = mk2 8 := by decide
  have m3 : uN 252645135 = mk3 4 := by decide
  have hx := uN_lt (x := x)
  have u1 : uN r1 = bt1 16 (uN x) := by
    rw [e1, uN_sub (by rw [uN_and, uN_shr (k := 1) (by decide)]; exact Nat.le_trans Nat.and_le_left (by omega)), uN_and, uN_shr (k := 1) (by decide), m1]; rfl
  have g1 := bt1_s 15 (uN x)
  have h1 := uN_lt (x := r1)
  have u2 : uN r2 = bt2 8 (uN r1) := by
    have a1 : (uN r1 &&& mk2 8) ≤ mk2 8 := Nat.and_le_right
    have a2 : (uN r1 / 2 ^ 2 &&& mk2 8) ≤ mk2 8 := Nat.and_le_right
    have a3 : mk2 8 = 858993459 := by decide
    rw [e2, uN_add (by rw [uN_and, uN_and, uN_shr (k := 2) (by decide), m2]; omega), uN_and, uN_and, uN_shr (k := 2) (by decide), m2]; rfl
  have h2 : uN r2 ≤ 1717986918 := by
    rw [u2]
    have a1 : (uN r1 &&& mk2 8) ≤ mk2 8 := Nat.and_le_right
    have a2 : (uN r1 / 4 &&& mk2 8) ≤ mk2 8 := Nat.and_le_right
    have a3 : mk2 8 = 858993459 := by decide
    unfold bt2; omega
  have u3 : uN r3 = bt3 4 (uN r2) := by
    rw [e3, uN_and, m3, uN_add (by rw [uN_shr (k := 4) (by decide)]; omega), uN_shr (k := 4) (by decide)]; rfl
  rw [u2, u1, bt_32] at u3
  have p0 := pcN_b 8 (uN x)
  have p1 := pcN_b 8 (uN x / 256)
  have p2 := pcN_b 8 (uN x / 65536)
  have p3 := pcN_b 8 (uN x / 16777216)
  have u4 : uN r4 = uN r3 + uN r3 / 256 := by
    rw [e4, uN_add (by rw [uN_shr (k := 8) (by decide)]; omega), uN_shr (k := 8) (by decide)]
  have u5 : uN r5 = uN r4 + uN r4 / 65536 := by
    rw [e5, uN_add (by rw [uN_shr (k := 16) (by decide)]; omega), uN_shr (k := 16) (by decide)]
  have t : pcN 32 (uN x) = pcN 8 (uN x) + (pcN 8 (uN x / 256) + (pcN 8 (uN x / 65536) + pcN 8 (uN x / 16777216))) := by
    rw [pcN_add 8 24, pcN_add 8 16, pcN_add 8 8, Nat.div_div_eq_div_mul, Nat.div_div_eq_div_mul]
  have u6 : uN (r5 &&& 63) = pcN 32 (uN x) := by
    rw [uN_and, show uN 63 = 63 by decide, a63, t]
    have c3 : uN r3 / 256 = pcN 8 (uN x / 256) + 256 * pcN 8 (uN x / 65536) + 65536 * pcN 8 (uN x / 16777216) := by omega
    have c4 : uN r4 / 65536 = pcN 8 (uN x / 65536) + pcN 8 (uN x / 16777216) + 256 * pcN 8 (uN x / 16777216) := by omega
    omega
  apply Int32.toBitVec_inj.mp
  apply BitVec.eq_of_toNat_eq
  show uN (r5 &&& 63) = uN (nI _)
  rw [u6]
  have := pcN_b 32 (uN x)
  show _ = (Int32.ofNat (pcN 32 (uN x))).toBitVec.toNat
  rw [Int32.toBitVec_ofNat', BitVec.toNat_ofNat]
  omega
theorem tb_dv {x : Int32} {i : Nat} : uN x / 2 ^ i % 2 = if tb x i = true then 1 else 0 := by
  unfold tb uN BitVec.getLsbD
  rw [Nat.testBit_eq_decide_div_mod_eq]
  by_cases h : x.toBitVec.toNat / 2 ^ i % 2 = 1
  · rw [decide_eq_true h, if_pos rfl]; exact h
  · rw [decide_eq_false h, if_neg (by decide)]; omega
/-- how many are true below k -/
def cntB (f : Nat → Bool) : Nat → Nat
  | 0 => 0
  | k + 1 => cntB f k + if f k = true then 1 else 0
theorem pc_cnt {x : Int32} : ∀ k, pcN k (uN x) = cntB (tb x) k := by
  intro k
  induction k with
  | zero => rfl
  | succ k ih =>
    rw [pcN_add k 1, ih]
    show _ + ((uN x / 2 ^ k) % 2 + 0) = _ + _
    rw [tb_dv]
    rfl
theorem cnt_c {f g : Nat → Bool} : ∀ k, (∀ q, q < k → f q = g q) → cntB f k = cntB g k := by
  intro k
  induction k with
  | zero => intro _; rfl
  | succ k ih =>
    intro h
    show cntB f k + (if f k = true then 1 else 0) = cntB g k + (if g k = true then 1 else 0)
    rw [ih (fun q hq => h q (by omega)), h k (by omega)]
theorem cnt_hi {f : Nat → Bool} {n : Nat} (h : ∀ q, n ≤ q → f q = false) : ∀ k, cntB f (n + k) = cntB f n := by
  intro k
  induction k with
  | zero => rfl
  | succ k ih =>
    show cntB f (n + k) + (if f (n + k) = true then 1 else 0) = cntB f n
    rw [ih, h (n + k) (by omega)]; rfl
theorem cnt_0 {f : Nat → Bool} : ∀ k, cntB f k = 0 ↔ ∀ q, q < k → f q = false := by
  intro k
  induction k with
  | zero => exact ⟨fun _ q hq => by omega, fun _ => rfl⟩
  | succ k ih =>
    constructor
    · intro h q hq
      have h' : cntB f k + (if f k = true then 1 else 0) = 0 := h
      by_cases e : q = k
      · subst e
        cases g : f q with
        | false => rfl
        | true => rw [if_pos g] at h'; omega
      · exact ih.mp (by omega) q (by omega)
    · intro h
      show cntB f k + (if f k = true then 1 else 0) = 0
      rw [ih.mpr (fun q hq => h q (by omega)), h k (by omega)]; rfl
theorem fcC_1 {f : Nat → Nat → Bool} {i : Nat} {s : Nat × Nat × Nat × Nat × Nat} : ∀ j, (fcC f i s j).1 = s.1 + cntB (f i) j := by
  intro j
  induction j with
  | zero => rfl
  | succ j ih =>
    show (fcT f i j (fcC f i s j)).1 = s.1 + (cntB (f i) j + if f i j = true then 1 else 0)
    unfold fcT
    by_cases h : f i j = true
    · rw [if_pos h, if_pos h]; show (fcC f i s j).1 + 1 = _; omega
    · rw [if_neg h, if_neg h]; omega
theorem fcC_z {f : Nat → Nat → Bool} {i : Nat} {s : Nat × Nat × Nat × Nat × Nat} : ∀ j, (∀ q, q < j → f i q = false) → fcC f i s j = s := by
  intro j
  induction j with
  | zero => intro _; rfl
  | succ j ih =>
    intro h
    show fcT f i j (fcC f i s j) = s
    unfold fcT
    rw [h j (by omega), if_neg (by decide)]
    exact ih (fun q hq => h q (by omega))
theorem fcC_p {f : Nat → Nat → Bool} {i : Nat} {s : Nat × Nat × Nat × Nat × Nat} : ∀ j, (∃ q, q < j ∧ f i q = true) → (fcC f i s j).2.1 = (if i < s.2.1 then i else s.2.1) ∧ (fcC f i s j).2.2.2.1 = i := by
  intro j
  induction j with
  | zero => intro h; obtain ⟨q, hq, _⟩ := h; omega
  | succ j ih =>
    intro h
    obtain ⟨q, hq, e⟩ := h
    show (fcT f i j (fcC f i s j)).2.1 = _ ∧ (fcT f i j (fcC f i s j)).2.2.2.1 = i
    by_cases g : ∃ q, q < j ∧ f i q = true
    · obtain ⟨h1, h2⟩ := ih g
      unfold fcT
      by_cases t : f i j = true
      · rw [if_pos t]
        refine ⟨?_, rfl⟩
        show (if i < (fcC f i s j).2.1 then i else (fcC f i s j).2.1) = _
        rw [h1]; by_cases c : i < s.2.1 <;> simp [c]
      · rw [if_neg t]; exact ⟨h1, h2⟩
    · have hz : ∀ q, q < j → f i q = false := fun q hq => by
        cases e : f i q with
        | false => rfl
        | true => exact absurd ⟨q, hq, e⟩ g
      have hj : f i j = true := by
        by_cases c : q = j
        · subst c; exact e
        · exact absurd ⟨q, by omega, e⟩ g
      rw [fcC_z j hz]
      unfold fcT
      rw [if_pos hj]
      exact ⟨rfl, rfl⟩
/-- what is so of the cells that were looked at -/
def fcG (f : Nat → Nat → Bool) (V : Nat → Nat → Prop) (s : Nat × Nat × Nat × Nat × Nat) : Prop :=
  (∀ c q, V c q → f c q = true → s.2.1 ≤ c ∧ c ≤ s.2.2.2.1 ∧ s.2.2.1 ≤ q ∧ q ≤ s.2.2.2.2 ∧ 0 < s.1) ∧ (s.1 = 0 → s = (0, 24, 24, 0, 0)) ∧
  (0 < s.1 → (∃ q, V s.2.1 q ∧ f s.2.1 q = true) ∧ (∃ q, V s.2.2.2.1 q ∧ f s.2.2.2.1 q = true) ∧ (∃ c, V c s.2.2.1 ∧ f c s.2.2.1 = true) ∧ ∃ c, V c s.2.2.2.2 ∧ f c s.2.2.2.2 = true)
theorem fcG_t {f : Nat → Nat → Bool} {V V' : Nat → Nat → Prop} {i j : Nat} {s : Nat × Nat × Nat × Nat × Nat} (hV : ∀ c q, V' c q ↔ V c q ∨ (c = i ∧ q = j)) (hi : i < 24) (hj : j < 24) (hl : ∀ c q, V c q → c ≤ i) (h : fcG f V s) : fcG f V' (fcT f i j s) := by
  obtain ⟨n, a, b, w, e⟩ := s
  obtain ⟨h1, h2, h3⟩ := h
  unfold fcT
  by_cases t : f i j = true
  · rw [if_pos t]
    have hz : n = 0 → a = 24 ∧ b = 24 ∧ w = 0 ∧ e = 0 := fun z => by
      have := h2 z
      simp only [Prod.mk.injEq] at this
      exact this.2
    refine ⟨fun c q v g => ?_, fun z => by simp at z, fun _ => ?_⟩
    · show (if i < a then i else a) ≤ c ∧ c ≤ i ∧ (if j < b then j else b) ≤ q ∧ q ≤ (if e < j then j else e) ∧ 0 < n + 1
      rcases (hV c q).mp v with v1 | ⟨rfl, rfl⟩
      · obtain ⟨g1, g2, g3, g4, g5⟩ := h1 c q v1 g
        have g6 := hl c q v1
        simp only at g1 g2 g3 g4
        refine ⟨?_, g6, ?_, ?_, by omega⟩ <;> split <;> omega
      · refine ⟨?_, Nat.le_refl _, ?_, ?_, by omega⟩ <;> split <;> omega
    · show (∃ q, V' (if i < a then i else a) q ∧ f (if i < a then i else a) q = true) ∧ (∃ q, V' i q ∧ f i q = true) ∧ (∃ c, V' c (if j < b then j else b) ∧ f c (if j < b then j else b) = true) ∧ ∃ c, V' c (if e < j then j else e) ∧ f c (if e < j then j else e) = true
      have me : V' i j := (hV i j).mpr (Or.inr ⟨rfl, rfl⟩)
      by_cases z : n = 0
      · obtain ⟨z1, z2, z3, z4⟩ := hz z
        subst z1 z2 z3 z4
        rw [if_pos hi, if_pos hj]
        refine ⟨⟨j, me, t⟩, ⟨j, me, t⟩, ⟨i, me, t⟩, i, ?_⟩
        have : (if 0 < j then j else 0) = j := by split <;> omega
        rw [this]; exact ⟨me, t⟩
      · obtain ⟨⟨q1, v1, t1⟩, _, ⟨c3, v3, t3⟩, c4, v4, t4⟩ := h3 (by show 0 < n; omega)
        refine ⟨?_, ⟨j, me, t⟩, ?_, ?_⟩
        · split
          · exact ⟨j, me, t⟩
          · exact ⟨q1, (hV _ _).mpr (Or.inl v1), t1⟩
        · split
          · exact ⟨i, me, t⟩
          · exact ⟨c3, (hV _ _).mpr (Or.inl v3), t3⟩
        · split
          · exact ⟨i, me, t⟩
          · exact ⟨c4, (hV _ _).mpr (Or.inl v4), t4⟩
  · rw [if_neg t]
    refine ⟨fun c q v g => ?_, h2, fun z => ?_⟩
    · rcases (hV c q).mp v with v1 | ⟨rfl, rfl⟩
      · exact h1 c q v1 g
      · exact absurd g t
    · obtain ⟨⟨q1, v1, t1⟩, ⟨q2, v2, t2⟩, ⟨c3, v3, t3⟩, c4, v4, t4⟩ := h3 z
      exact ⟨⟨q1, (hV _ _).mpr (Or.inl v1), t1⟩, ⟨q2, (hV _ _).mpr (Or.inl v2), t2⟩, ⟨c3, (hV _ _).mpr (Or.inl v3), t3⟩, c4, (hV _ _).mpr (Or.inl v4), t4⟩
theorem fcG_C {f : Nat → Nat → Bool} {i : Nat} {s : Nat × Nat × Nat × Nat × Nat} (hi : i < 24) (h : fcG f (fun c q => c < i ∧ q < 24) s) : ∀ j, j ≤ 24 → fcG f (fun c q => (c < i ∧ q < 24) ∨ (c = i ∧ q < j)) (fcC f i s j) := by
  intro j
  induction j with
  | zero =>
    intro _
    have : (fun c q => (c < i ∧ q < 24) ∨ (c = i ∧ q < 0)) = fun c q => c < i ∧ q < 24 := by funext c q; apply propext; omega
    rw [this]; exact h
  | succ j ih =>
    intro hj
    refine fcG_t (V := fun c q => (c < i ∧ q < 24) ∨ (c = i ∧ q < j)) (i := i) (j := j) (fun c q => ?_) hi (by omega) (fun c q v => ?_) (ih (by omega))
    · omega
    · omega
theorem fcG_A {f : Nat → Nat → Bool} : ∀ i, i ≤ 24 → fcG f (fun c q => c < i ∧ q < 24) (fcA f i) := by
  intro i
  induction i with
  | zero => intro _; exact ⟨fun c q v => by simp only at v; omega, fun _ => rfl, fun z => by simp [fcA] at z⟩
  | succ i ih =>
    intro hi
    have := fcG_C (f := f) (i := i) (by omega) (ih (by omega)) 24 (Nat.le_refl _)
    have e : (fun c q => (c < i ∧ q < 24) ∨ (c = i ∧ q < 24)) = fun c q => c < i + 1 ∧ q < 24 := by funext c q; apply propext; omega
    rw [e] at this
    exact this
