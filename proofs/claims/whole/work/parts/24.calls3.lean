/-! Calls: count, field, cost, set, road. -/
theorem ne_0_1 : ((0 : Int32) = 1) = False := eq_false (by decide)
theorem ne_0_2 : ((0 : Int32) = 2) = False := eq_false (by decide)
theorem ne_0_3 : ((0 : Int32) = 3) = False := eq_false (by decide)
theorem ne_0_4 : ((0 : Int32) = 4) = False := eq_false (by decide)
theorem ne_0_5 : ((0 : Int32) = 5) = False := eq_false (by decide)
theorem ne_1_0 : ((1 : Int32) = 0) = False := eq_false (by decide)
theorem ne_1_2 : ((1 : Int32) = 2) = False := eq_false (by decide)
theorem ne_1_3 : ((1 : Int32) = 3) = False := eq_false (by decide)
theorem ne_1_4 : ((1 : Int32) = 4) = False := eq_false (by decide)
theorem ne_1_5 : ((1 : Int32) = 5) = False := eq_false (by decide)
theorem ne_2_0 : ((2 : Int32) = 0) = False := eq_false (by decide)
theorem ne_2_1 : ((2 : Int32) = 1) = False := eq_false (by decide)
theorem ne_2_3 : ((2 : Int32) = 3) = False := eq_false (by decide)
theorem ne_2_4 : ((2 : Int32) = 4) = False := eq_false (by decide)
theorem ne_2_5 : ((2 : Int32) = 5) = False := eq_false (by decide)
theorem ne_3_0 : ((3 : Int32) = 0) = False := eq_false (by decide)
theorem ne_3_1 : ((3 : Int32) = 1) = False := eq_false (by decide)
theorem ne_3_2 : ((3 : Int32) = 2) = False := eq_false (by decide)
theorem ne_3_4 : ((3 : Int32) = 4) = False := eq_false (by decide)
theorem ne_3_5 : ((3 : Int32) = 5) = False := eq_false (by decide)
theorem ne_4_0 : ((4 : Int32) = 0) = False := eq_false (by decide)
theorem ne_4_1 : ((4 : Int32) = 1) = False := eq_false (by decide)
theorem ne_4_2 : ((4 : Int32) = 2) = False := eq_false (by decide)
theorem ne_4_3 : ((4 : Int32) = 3) = False := eq_false (by decide)
theorem ne_4_5 : ((4 : Int32) = 5) = False := eq_false (by decide)
theorem ne_5_0 : ((5 : Int32) = 0) = False := eq_false (by decide)
theorem ne_5_1 : ((5 : Int32) = 1) = False := eq_false (by decide)
theorem ne_5_2 : ((5 : Int32) = 2) = False := eq_false (by decide)
theorem ne_5_3 : ((5 : Int32) = 3) = False := eq_false (by decide)
theorem ne_5_4 : ((5 : Int32) = 4) = False := eq_false (by decide)
theorem isFieldC_t {v : Int32} {u : Mm} (h : 0 ≤ v.toInt ∧ v.toInt < (u 6 0).toInt) : gX10_isField v u = some 1 := by
  unfold gX10_isField gX10_isField_b
  rw [if_neg (by rw [t_lt, i0]; omega), if_pos (by rw [t_lt]; omega)]
theorem isFieldC_f {v : Int32} {u : Mm} (h : ¬ (0 ≤ v.toInt ∧ v.toInt < (u 6 0).toInt)) : gX10_isField v u = some 0 := by
  unfold gX10_isField gX10_isField_b
  by_cases h1 : v.toInt < 0
  · rw [if_pos (by rw [t_lt, i0]; omega)]
  · rw [if_neg (by rw [t_lt, i0]; omega), if_neg (by rw [t_lt]; omega)]
theorem isFieldM_t {v : Int32} {u : Mm} (hb : 0 ≤ (u 74 11).toInt ∧ (u 74 11).toInt ≤ 8) (h : 0 ≤ v.toInt ∧ v.toInt < (u 74 11).toInt) : gX11_isField v u = some 1 := by
  unfold gX11_isField gX11_isField_b
  have e := t_sub (a := u 74 11) (b := 1) (by rw [i1]; omega) (by rw [i1]; omega)
  rw [i1] at e
  rw [in_t (x := v) (a := 0) (b := (u 74 11 - 1).toInt64) (by rw [Int32.toInt_toInt64, e, show (0 : Int64).toInt = 0 from rfl]; omega), Option.bind_some, gd_t (by decide)]
theorem isFieldM_f {v : Int32} {u : Mm} (hb : 0 ≤ (u 74 11).toInt ∧ (u 74 11).toInt ≤ 8) (h : ¬ (0 ≤ v.toInt ∧ v.toInt < (u 74 11).toInt)) : gX11_isField v u = some 0 := by
  unfold gX11_isField gX11_isField_b
  have e := t_sub (a := u 74 11) (b := 1) (by rw [i1]; omega) (by rw [i1]; omega)
  rw [i1] at e
  rw [in_f (x := v) (a := 0) (b := (u 74 11 - 1).toInt64) (by rw [Int32.toInt_toInt64, e, show (0 : Int64).toInt = 0 from rfl]; omega), Option.bind_some, gd_t (by decide)]
/-- COST of a KIND, a FIGURE, a SIZE with a PACE and a DRAG -/
def costS (kd fg sz p dr : Int32) : Int32 := let pl := if 3 < p then 2 * p else p
  if kd = 1 then pl + fg + 5 else if kd = 2 then pl + 3 * fg else if kd = 3 then pl + fg else if kd = 4 then (if 10 * sz < dr then pl + 3 * fg + 20 else pl + 3 * fg) else if kd = 5 then (pl + fg + 5) / 2 else pl
theorem costC {k i : Nat} {p dr : Int32} {u : Mm} (hi : (i : Int) < (u k 0).toInt) (h8 : i < 8) : gX1_costOf k (nI i) p dr u = some (costS (u (k + 1) i) (u (k + 2) i) (u (k + 5) i) p dr) := by
  have e1 : ¬ (nI i < 0) := nI_pos (by omega)
  have e2 : nI i < u k 0 := by rw [t_lt, t_nI (by omega)]; exact hi
  have e3 : nI i < 8 := nI_lt h8 (by decide)
  unfold gX1_costOf gX1_costOf_b costS
  rw [if_neg e1, if_pos e2, if_pos e3]
  by_cases hp : 3 < p
  · rw [if_pos hp]
    unfold gX1_costOf_33
    simp only [gd_t (ix_nI h8 (show 8 < 2147483648 by decide)), letv_eq, ixn_nI (show i < 2147483648 by omega), if_pos hp]
    (repeat' split) <;> rfl
  · rw [if_neg hp]
    unfold gX1_costOf_33
    simp only [gd_t (ix_nI h8 (show 8 < 2147483648 by decide)), letv_eq, ixn_nI (show i < 2147483648 by omega), if_neg hp]
    (repeat' split) <;> rfl
theorem costC9 {k : Nat} {p dr : Int32} {u : Mm} : gX1_costOf k (-9) p dr u = some 40 := rfl
theorem costM {i : Nat} {p : Int32} {u : Mm} (h8 : i < 8) : gX11_costOf (nI i) p u = some (costS (u 78 i) (u 79 i) (u 82 i) p (dragS p (u 75 0) (u 76 0) (u 74 7))) := by
  have e1 : ¬ (nI i < 0) := nI_pos (by omega)
  unfold gX11_costOf gX11_costOf_b costS
  rw [if_neg e1]
  by_cases hp : 3 < p
  · rw [if_pos hp]
    unfold gX11_costOf_19
    simp only [gd_t (ix_nI h8 (show 8 < 2147483648 by decide)), letv_eq, ixn_nI (show i < 2147483648 by omega), if_pos hp, dragM, Option.bind_some, Int32.add_zero]
    (repeat' split) <;> rfl
  · rw [if_neg hp]
    unfold gX11_costOf_19
    simp only [gd_t (ix_nI h8 (show 8 < 2147483648 by decide)), letv_eq, ixn_nI (show i < 2147483648 by omega), if_neg hp, dragM, Option.bind_some, Int32.add_zero]
    (repeat' split) <;> rfl
theorem costM9 {p : Int32} {u : Mm} : gX11_costOf (-9) p u = some 40 := rfl
theorem c_cost (a p : Int32) (u : Mm) (hR : R u) : Both (gX10_cost a p u) (gX11_cost a p) := by
  obtain ⟨c1, c2, c3, c4, ⟨c5, b1, b2⟩, c6, c7, c8, c9⟩ := hR.wc
  have hb : 0 ≤ (u 74 11).toInt ∧ (u 74 11).toInt ≤ 8 := by rw [← c5]; exact ⟨b1, b2⟩
  by_cases ha : 0 ≤ a.toInt ∧ a.toInt < (u 6 0).toInt
  · obtain ⟨i, rfl, hi, ei⟩ := nI_ex (a := a) ha.1
    have h8 : i < 8 := by omega
    have g1 := isFieldC_t ha
    by_cases e1 : p < 0
    · have g2 := isFieldM_t (v := nI i) (u := thr (rfC u 4)) hb (by show 0 ≤ _ ∧ _ < (u 74 11).toInt; rw [← c5]; exact ha)
      refine Both_ref (k := 4) (r := -4) hR ?_ ?_
      · simp only [gX10_cost, gX10_cost_b, letv_eq, bI_some, Option.bind_some, ↓reduceIte, one0, g1, eq_true e1, rC4]
      · simp only [gX11_cost, gX11_cost_b, letv_eq, bI_some, Option.bind_some, ↓reduceIte, one0, g2, gX11_wrongNumber, gX11_wrongNumber_b, eq_true e1, gX11_cost_24, m4lt, rM4]
    by_cases e2 : 20 < p
    · have g2 := isFieldM_t (v := nI i) (u := thr (rfC u 6)) hb (by show 0 ≤ _ ∧ _ < (u 74 11).toInt; rw [← c5]; exact ha)
      refine Both_ref (k := 6) (r := -6) hR ?_ ?_
      · simp only [gX10_cost, gX10_cost_b, letv_eq, bI_some, Option.bind_some, ↓reduceIte, one0, g1, eq_false e1, eq_true e2, rC6]
      · simp only [gX11_cost, gX11_cost_b, letv_eq, bI_some, Option.bind_some, ↓reduceIte, one0, g2, gX11_wrongNumber, gX11_wrongNumber_b, eq_false e1, eq_true e2, gX11_cost_24, m6lt, rM6]
    have g2 := isFieldM_t (v := nI i) (u := thr u) hb (by show 0 ≤ _ ∧ _ < (u 74 11).toInt; rw [← c5]; exact ha)
    have hk := costC (k := 6) (p := p) (dr := dragS p (u 4 0) (u 5 0) (u 14 5)) (u := u) (i := i) (by omega) h8
    have hm := costM (p := p) (u := thr u) h8
    refine ⟨costS (u 7 i) (u 8 i) (u 11 i) p (dragS p (u 4 0) (u 5 0) (u 14 5)), u, thr u, ?_, ?_, (Sm_thrown u 0).keep hR⟩
    · simp only [gX10_cost, gX10_cost_b, letv_eq, bI_some, Option.bind_some, ↓reduceIte, one0, g1, eq_false e1, eq_false e2, dragC, hk]
    · rw [(c7 0 (by decide)).1, (c7 0 (by decide)).2.1, c1.2.2.2.2.2.1, (c7 i h8).2.2.1, (c7 i h8).2.2.2.1, (c7 i h8).2.2.2.2.2.2]
      simp only [gX11_cost, gX11_cost_b, letv_eq, bI_some, Option.bind_some, ↓reduceIte, one0, g2, gX11_wrongNumber, gX11_wrongNumber_b, eq_false e1, eq_false e2, gX11_cost_24, z0lt, hm]
      rfl
  · have g1 := isFieldC_f ha
    have g2 := isFieldM_f (v := a) (u := thr (rfC u 1)) hb (by show ¬ (0 ≤ _ ∧ _ < (u 74 11).toInt); rw [← c5]; exact ha)
    refine Both_ref (k := 1) (r := -1) hR ?_ ?_
    · simp only [gX10_cost, gX10_cost_b, letv_eq, bI_some, Option.bind_some, ↓reduceIte, one0, g1, rC1]
    · simp only [gX11_cost, gX11_cost_b, letv_eq, bI_some, Option.bind_some, ↓reduceIte, one0, g2, gX11_cost_24, m1lt, rM1]
theorem c_field (a b : Int32) (u : Mm) (hR : R u) : Both (gX10_field a b u) (gX11_field a b) := by
  obtain ⟨c1, c2, c3, c4, ⟨c5, b1, b2⟩, c6, c7, c8, c9⟩ := hR.wc
  have hb : 0 ≤ (u 74 11).toInt ∧ (u 74 11).toInt ≤ 8 := by rw [← c5]; exact ⟨b1, b2⟩
  have q0 : (0 : Int64).toInt = 0 := rfl
  have q4 : (4 : Int64).toInt = 4 := rfl
  by_cases ha : 0 ≤ a.toInt ∧ a.toInt < (u 6 0).toInt
  · obtain ⟨i, rfl, hi, ei⟩ := nI_ex (a := a) ha.1
    have h8 : i < 8 := by omega
    have g1 := isFieldC_t ha
    have n1 : ¬ (nI i < 0) := nI_pos (by omega)
    have n2 : nI i < 8 := nI_lt h8 (by decide)
    by_cases hB : 0 ≤ b.toInt ∧ b.toInt ≤ 4
    · have g2 := isFieldM_t (v := nI i) (u := thr u) hb (by show 0 ≤ _ ∧ _ < (u 74 11).toInt; rw [← c5]; exact ha)
      have g3 := in_t (x := b) (a := 0) (b := 4) (by omega)
      have e1 := lt_f (a := b) (b := 0) (by rw [i0]; omega)
      have e2 := lt_f (a := 4) (b := b) (by rw [i4]; omega)
      by_cases h0 : b = 0
      · refine ⟨u 7 i, u, thr u, ?_, ?_, (Sm_thrown u 0).keep hR⟩
        · simp only [gX10_field, gX10_field_b, letv_eq, bI_some, Option.bind_some, ↓reduceIte, one0, g1, e1, e2, gX1_tellOf, gX1_tellOf_b, eq_false n1, eq_true n2, eq_true h0, gd_t (ix_nI h8 (show 8 < 2147483648 by decide)), ixn_nI (show i < 2147483648 by omega)]
        · simp only [gX11_field, gX11_field_b, letv_eq, bI_some, Option.bind_some, ↓reduceIte, one0, g2, g3, eq_true h0, gd_t (ix_nI h8 (show 8 < 2147483648 by decide)), ixn_nI (show i < 2147483648 by omega), (c7 i h8).2.2.1, stm_c (show (78 : Nat) ≠ 74 by decide)]
      by_cases h1 : b = 1
      · refine ⟨u 8 i, u, thr u, ?_, ?_, (Sm_thrown u 0).keep hR⟩
        · simp only [gX10_field, gX10_field_b, letv_eq, bI_some, Option.bind_some, ↓reduceIte, one0, g1, e1, e2, gX1_tellOf, gX1_tellOf_b, eq_false n1, eq_true n2, eq_false h0, eq_true h1, gd_t (ix_nI h8 (show 8 < 2147483648 by decide)), ixn_nI (show i < 2147483648 by omega)]
        · simp only [gX11_field, gX11_field_b, letv_eq, bI_some, Option.bind_some, ↓reduceIte, one0, g2, g3, eq_false h0, eq_true h1, gd_t (ix_nI h8 (show 8 < 2147483648 by decide)), ixn_nI (show i < 2147483648 by omega), (c7 i h8).2.2.2.1, stm_c (show (79 : Nat) ≠ 74 by decide)]
      by_cases h2 : b = 2
      · refine ⟨u 9 i, u, thr u, ?_, ?_, (Sm_thrown u 0).keep hR⟩
        · simp only [gX10_field, gX10_field_b, letv_eq, bI_some, Option.bind_some, ↓reduceIte, one0, g1, e1, e2, gX1_tellOf, gX1_tellOf_b, eq_false n1, eq_true n2, eq_false h0, eq_false h1, eq_true h2, gd_t (ix_nI h8 (show 8 < 2147483648 by decide)), ixn_nI (show i < 2147483648 by omega)]
        · simp only [gX11_field, gX11_field_b, letv_eq, bI_some, Option.bind_some, ↓reduceIte, one0, g2, g3, eq_false h0, eq_false h1, eq_true h2, gd_t (ix_nI h8 (show 8 < 2147483648 by decide)), ixn_nI (show i < 2147483648 by omega), (c7 i h8).2.2.2.2.1, stm_c (show (80 : Nat) ≠ 74 by decide)]
      by_cases h3 : b = 3
      · refine ⟨u 10 i, u, thr u, ?_, ?_, (Sm_thrown u 0).keep hR⟩
        · simp only [gX10_field, gX10_field_b, letv_eq, bI_some, Option.bind_some, ↓reduceIte, one0, g1, e1, e2, gX1_tellOf, gX1_tellOf_b, eq_false n1, eq_true n2, eq_false h0, eq_false h1, eq_false h2, eq_true h3, gd_t (ix_nI h8 (show 8 < 2147483648 by decide)), ixn_nI (show i < 2147483648 by omega)]
        · simp only [gX11_field, gX11_field_b, letv_eq, bI_some, Option.bind_some, ↓reduceIte, one0, g2, g3, eq_false h0, eq_false h1, eq_false h2, eq_true h3, gd_t (ix_nI h8 (show 8 < 2147483648 by decide)), ixn_nI (show i < 2147483648 by omega), (c7 i h8).2.2.2.2.2.1, stm_c (show (81 : Nat) ≠ 74 by decide)]
      refine ⟨u 11 i, u, thr u, ?_, ?_, (Sm_thrown u 0).keep hR⟩
      · simp only [gX10_field, gX10_field_b, letv_eq, bI_some, Option.bind_some, ↓reduceIte, one0, g1, e1, e2, gX1_tellOf, gX1_tellOf_b, eq_false n1, eq_true n2, eq_false h0, eq_false h1, eq_false h2, eq_false h3, gd_t (ix_nI h8 (show 8 < 2147483648 by decide)), ixn_nI (show i < 2147483648 by omega)]
      · simp only [gX11_field, gX11_field_b, letv_eq, bI_some, Option.bind_some, ↓reduceIte, one0, g2, g3, eq_false h0, eq_false h1, eq_false h2, eq_false h3, gd_t (ix_nI h8 (show 8 < 2147483648 by decide)), ixn_nI (show i < 2147483648 by omega), (c7 i h8).2.2.2.2.2.2, stm_c (show (82 : Nat) ≠ 74 by decide)]
    · have g2 := isFieldM_t (v := nI i) (u := thr (rfC u 2)) hb (by show 0 ≤ _ ∧ _ < (u 74 11).toInt; rw [← c5]; exact ha)
      have g3 := in_f (x := b) (a := 0) (b := 4) (by omega)
      refine Both_ref (k := 2) (r := -2) hR ?_ ?_
      · by_cases e1 : b.toInt < 0
        · simp only [gX10_field, gX10_field_b, letv_eq, bI_some, Option.bind_some, ↓reduceIte, one0, g1, lt_t (a := b) (b := 0) e1, gX10_field_23, rC2]
        · simp only [gX10_field, gX10_field_b, letv_eq, bI_some, Option.bind_some, ↓reduceIte, one0, g1, lt_f (a := b) (b := 0) e1, lt_t (a := 4) (b := b) (by rw [i4]; omega), gX10_field_23, rC2]
      · simp only [gX11_field, gX11_field_b, letv_eq, bI_some, Option.bind_some, ↓reduceIte, one0, g2, g3, gX11_field_25, gX11_field_40, rM2]
  · have g1 := isFieldC_f ha
    have g2 := isFieldM_f (v := a) (u := thr (rfC u 1)) hb (by show ¬ (0 ≤ _ ∧ _ < (u 74 11).toInt); rw [← c5]; exact ha)
    refine Both_ref (k := 1) (r := -1) hR ?_ ?_
    · simp only [gX10_field, gX10_field_b, letv_eq, bI_some, Option.bind_some, ↓reduceIte, one0, g1, rC1]
    · simp only [gX11_field, gX11_field_b, letv_eq, bI_some, Option.bind_some, ↓reduceIte, one0, g2, gX11_field_25, gX11_field_40, rM1]
theorem c_count (v : Int32) (u : Mm) (hR : R u) : BothP (gX10_count v u) (gX11_count v u) := by
  obtain ⟨c1, c2, c3, c4, c5, c6, c7, c8, c9⟩ := hR.wc
  have l1 : u 52 0 = u 74 23 := by obtain ⟨n, -, a, b, -⟩ := hR.2.2.2.1; rw [a, b]
  have l2 : u 54 0 = u 74 58 := by obtain ⟨n, -, a, b, -⟩ := hR.2.2.2.2.1; rw [a, b]
  have l3 : u 41 0 = u 74 40 := by obtain ⟨n, m, -, -, a, b, -⟩ := hR.2.2.1; rw [a, b]
  by_cases h0 : v = 0
  · subst h0
    refine ⟨u 6 0, thr u, rfl, ?_, (Sm_thrown u 0).keep hR⟩
    rw [c5.1]
    rfl
  by_cases h1 : v = 1
  · subst h1
    refine ⟨u 14 0, thr u, rfl, ?_, (Sm_thrown u 0).keep hR⟩
    rw [c1.1]
    rfl
  by_cases h2 : v = 2
  · subst h2
    refine ⟨u 14 1, thr u, rfl, ?_, (Sm_thrown u 0).keep hR⟩
    rw [c1.2.1]
    rfl
  by_cases h3 : v = 3
  · subst h3
    refine ⟨u 14 2, thr u, rfl, ?_, (Sm_thrown u 0).keep hR⟩
    rw [c1.2.2.1]
    rfl
  by_cases h4 : v = 4
  · subst h4
    refine ⟨u 14 3, thr u, rfl, ?_, (Sm_thrown u 0).keep hR⟩
    rw [c1.2.2.2.1]
    rfl
  by_cases h5 : v = 5
  · subst h5
    refine ⟨u 14 4, thr u, rfl, ?_, (Sm_thrown u 0).keep hR⟩
    rw [c1.2.2.2.2.1]
    rfl
  by_cases h6 : v = 6
  · subst h6
    refine ⟨u 14 5, thr u, rfl, ?_, (Sm_thrown u 0).keep hR⟩
    rw [c1.2.2.2.2.2.1]
    rfl
  by_cases h7 : v = 7
  · subst h7
    refine ⟨u 14 6, thr u, rfl, ?_, (Sm_thrown u 0).keep hR⟩
    rw [c1.2.2.2.2.2.2.1]
    rfl
  by_cases h8 : v = 8
  · subst h8
    refine ⟨u 14 7, thr u, rfl, ?_, (Sm_thrown u 0).keep hR⟩
    rw [c1.2.2.2.2.2.2.2]
    rfl
  by_cases h9 : v = 9
  · subst h9
    refine ⟨u 52 0, thr u, rfl, ?_, (Sm_thrown u 0).keep hR⟩
    rw [l1]
    rfl
  by_cases h10 : v = 10
  · subst h10
    refine ⟨u 54 0, thr u, rfl, ?_, (Sm_thrown u 0).keep hR⟩
    rw [l2]
    rfl
  by_cases h17 : v = 17
  · subst h17
    refine ⟨u 12 0, thr u, rfl, ?_, (Sm_thrown u 0).keep hR⟩
    rw [c6.1]
    rfl
  by_cases h18 : v = 18
  · subst h18
    refine ⟨u 41 0, thr u, rfl, ?_, (Sm_thrown u 0).keep hR⟩
    rw [l3]
    rfl
  by_cases hr : 11 ≤ v.toInt ∧ v.toInt ≤ 16
  · obtain ⟨n, rfl, hn, en⟩ := nI_ex (a := v) (by omega)
    have hn2 : 11 ≤ n ∧ n ≤ 16 := by omega
    have e : nI n - 10 = nI (n - 10) := pk_sub (show 10 ≤ n by omega)
    have g := in_t (x := nI n) (a := 11) (b := 16) (by rw [show (11 : Int64).toInt = 11 from rfl, show (16 : Int64).toInt = 16 from rfl]; exact hr)
    have f1 := lt_f (a := nI n) (b := 11) (by rw [i11]; omega)
    have f2 := lt_f (a := 16) (b := nI n) (by rw [i16]; omega)
    have hx := hR.2.2.2.2.2 (n - 10) (by omega)
    have C : gX10_count_229 (nI n) u = some (u 56 (n - 10)) := by
      simp only [gX10_count_229, f1, f2, ↓reduceIte, e, gd_t (ix_nI (show n - 10 < 7 by omega) (show 7 < 2147483648 by decide)), ixn_nI (show n - 10 < 2147483648 by omega)]
    have D : gX11_count_161 (nI n) (thr u) = some (u 84 (n - 10), thr u) := by
      simp only [gX11_count_161, g, Option.bind_some, one0, ↓reduceIte, e, gd_t (ix_nI (show n - 10 < 7 by omega) (show 7 < 2147483648 by decide)), ixn_nI (show n - 10 < 2147483648 by omega), stm_c (show (84 : Nat) ≠ 74 by decide)]
    refine ⟨u 56 (n - 10), thr u, ?_, ?_, (Sm_thrown u 0).keep hR⟩
    · unfold gX10_count gX10_count_b
      simp only [if_neg h0, if_neg h1, if_neg h2, if_neg h3, if_neg h4, if_neg h5, if_neg h6, if_neg h7, if_neg h8, if_neg h9, if_neg h10, if_neg h17, if_neg h18, C]
      (repeat' split) <;> rfl
    · rw [hx]
      unfold gX11_count gX11_count_b
      rw [letv_eq]
      simp only [if_neg h0, if_neg h1, if_neg h2, if_neg h3, if_neg h4, if_neg h5, if_neg h6, if_neg h7, if_neg h8, if_neg h9, if_neg h10, if_neg h17, if_neg h18]
      show (if nI n = 11 then gX11_count_161 (nI n) (thr u) else _) = _
      rw [D]
      (repeat' split) <;> rfl
  · have g := in_f (x := v) (a := 11) (b := 16) (by rw [show (11 : Int64).toInt = 11 from rfl, show (16 : Int64).toInt = 16 from rfl]; exact hr)
    have C : gX10_count_229 v u = some (-9) := by
      unfold gX10_count_229
      by_cases f : v.toInt < 11
      · rw [if_pos (by rw [t_lt, i11]; exact f)]
      · rw [if_neg (by rw [t_lt, i11]; exact f), if_pos (by rw [t_lt, i16]; omega)]
    have D : gX11_count_161 v (thr u) = some (-9, thr u) := by
      simp only [gX11_count_161, g, Option.bind_some, ↓reduceIte]
    refine ⟨-9, thr u, ?_, ?_, (Sm_thrown u 0).keep hR⟩
    · unfold gX10_count gX10_count_b
      simp only [if_neg h0, if_neg h1, if_neg h2, if_neg h3, if_neg h4, if_neg h5, if_neg h6, if_neg h7, if_neg h8, if_neg h9, if_neg h10, if_neg h17, if_neg h18, C]
      (repeat' split) <;> rfl
    · unfold gX11_count gX11_count_b
      rw [letv_eq]
      simp only [if_neg h0, if_neg h1, if_neg h2, if_neg h3, if_neg h4, if_neg h5, if_neg h6, if_neg h7, if_neg h8, if_neg h9, if_neg h10, if_neg h17, if_neg h18]
      show (if v = 11 then gX11_count_161 v (thr u) else _) = _
      rw [D]
      (repeat' split) <;> rfl
