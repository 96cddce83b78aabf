/-! More plain calls. -/
theorem i0 : (0 : Int32).toInt = 0 := rfl
theorem i1 : (1 : Int32).toInt = 1 := rfl
theorem i2 : (2 : Int32).toInt = 2 := rfl
theorem i3 : (3 : Int32).toInt = 3 := rfl
theorem i4 : (4 : Int32).toInt = 4 := rfl
theorem i5 : (5 : Int32).toInt = 5 := rfl
theorem i6 : (6 : Int32).toInt = 6 := rfl
theorem i7 : (7 : Int32).toInt = 7 := rfl
theorem i8 : (8 : Int32).toInt = 8 := rfl
theorem i9 : (9 : Int32).toInt = 9 := rfl
theorem i10 : (10 : Int32).toInt = 10 := rfl
theorem i11 : (11 : Int32).toInt = 11 := rfl
theorem i12 : (12 : Int32).toInt = 12 := rfl
theorem i16 : (16 : Int32).toInt = 16 := rfl
theorem i20 : (20 : Int32).toInt = 20 := rfl
theorem i30 : (30 : Int32).toInt = 30 := rfl
theorem i39 : (39 : Int32).toInt = 39 := rfl
theorem i40 : (40 : Int32).toInt = 40 := rfl
theorem i60 : (60 : Int32).toInt = 60 := rfl
theorem i96 : (96 : Int32).toInt = 96 := rfl
theorem i99 : (99 : Int32).toInt = 99 := rfl
theorem i255 : (255 : Int32).toInt = 255 := rfl
theorem i999 : (999 : Int32).toInt = 999 := rfl
theorem im1 : (-1 : Int32).toInt = -1 := rfl
theorem im2 : (-2 : Int32).toInt = -2 := rfl
theorem im3 : (-3 : Int32).toInt = -3 := rfl
theorem im4 : (-4 : Int32).toInt = -4 := rfl
theorem im6 : (-6 : Int32).toInt = -6 := rfl
theorem im9 : (-9 : Int32).toInt = -9 := rfl
theorem im99 : (-99 : Int32).toInt = -99 := rfl
theorem rM_thr (u : Mm) (k : Nat) : rfM (thr u) k = thr (rfM u k) := by
  unfold rfM thr
  rw [stm_c (show (84 : Nat) ≠ 74 by decide), stm_comm (by decide)]
theorem ixn_eq2 {v : Int32} {n : Nat} (h : v.toInt = (n : Int)) : ixn v = n := by
  unfold ixn
  omega
theorem one0 : ((1 : Int32) = 0) = False := eq_false (by decide)
theorem isLayer_t {v : Int32} (h : 0 ≤ v.toInt ∧ v.toInt < 8) : gX10_isLayer v = some 1 := by rw [isLayer_eq, bz_t h]
theorem isLayer_f {v : Int32} (h : ¬ (0 ≤ v.toInt ∧ v.toInt < 8)) : gX10_isLayer v = some 0 := by rw [isLayer_eq, bz_f h]
theorem isPlace_t {v : Int32} (h : 0 ≤ v.toInt ∧ v.toInt < 8) : gX10_isPlace v = some 1 := by rw [isPlace_eq, bz_t h]
theorem isPlace_f {v : Int32} (h : ¬ (0 ≤ v.toInt ∧ v.toInt < 8)) : gX10_isPlace v = some 0 := by rw [isPlace_eq, bz_f h]
theorem mPlace_t {v : Int32} (h : 0 ≤ v.toInt ∧ v.toInt < 8) : gX11_isPlace v = some 1 := by rw [mPlace_eq, bz_t h]
theorem mPlace_f {v : Int32} (h : ¬ (0 ≤ v.toInt ∧ v.toInt < 8)) : gX11_isPlace v = some 0 := by rw [mPlace_eq, bz_f h]
theorem in_t {x : Int32} {a b : Int64} (h : a.toInt ≤ x.toInt ∧ x.toInt ≤ b.toInt) : gX11_in x.toInt64 a b = some 1 := by rw [in_l x rfl rfl, bz_t h]
theorem in_f {x : Int32} {a b : Int64} (h : ¬ (a.toInt ≤ x.toInt ∧ x.toInt ≤ b.toInt)) : gX11_in x.toInt64 a b = some 0 := by rw [in_l x rfl rfl, bz_f h]
theorem lt_t {a b : Int32} (h : a.toInt < b.toInt) : (a < b) = True := eq_true (by rw [t_lt]; exact h)
theorem lt_f {a b : Int32} (h : ¬ a.toInt < b.toInt) : (a < b) = False := eq_false (by rw [t_lt]; exact h)
theorem m4lt : ((-4 : Int32) < 0) = True := eq_true (by decide)
theorem m6lt : ((-6 : Int32) < 0) = True := eq_true (by decide)
theorem m1lt : ((-1 : Int32) < 0) = True := eq_true (by decide)
theorem m2lt : ((-2 : Int32) < 0) = True := eq_true (by decide)
theorem m3lt : ((-3 : Int32) < 0) = True := eq_true (by decide)
theorem z0lt : ((0 : Int32) < 0) = False := eq_false (by decide)
theorem side_eq {k l : Nat} (hl : l < 8) (u : Mm) : gX0_sideOf k (nI l) u = some (u (k + 1) l) := by
  have h : 0 ≤ (nI l).toInt ∧ (nI l).toInt < 8 := by rw [t_nI (by omega)]; omega
  simp only [gX0_sideOf, gX0_sideOf_b, isLayer_t h, Option.bind_some, one0, ↓reduceIte, gd_t (ix_nI hl (by decide)), ixn_nI (show l < 2147483648 by omega)]
theorem ahead_eq {k l : Nat} (hl : l < 8) (u : Mm) : gX0_aheadOf k (nI l) u = some (u (k + 2) l) := by
  have h : 0 ≤ (nI l).toInt ∧ (nI l).toInt < 8 := by rw [t_nI (by omega)]; omega
  simp only [gX0_aheadOf, gX0_aheadOf_b, isLayer_t h, Option.bind_some, one0, ↓reduceIte, gd_t (ix_nI hl (by decide)), ixn_nI (show l < 2147483648 by omega)]
theorem blow_eq {k l : Nat} (hl : l < 8) (s a : Int32) (u : Mm) : gX0_blow k (nI l) s a u = some (stm (stm u (k + 1) l s) (k + 2) l a) := by
  have h : 0 ≤ (nI l).toInt ∧ (nI l).toInt < 8 := by rw [t_nI (by omega)]; omega
  simp only [gX0_blow, gX0_blow_b, isLayer_t h, Option.bind_some, one0, ↓reduceIte, gd_t (ix_nI hl (by decide)), ixn_nI (show l < 2147483648 by omega), letv_eq]
theorem rng (v : Int32) (n : Nat) (hn : n < 2147483648) : (∃ l, l < n ∧ v = nI l ∧ v.toInt = (l : Int)) ∨ v.toInt < 0 ∨ (n : Int) ≤ v.toInt := by
  by_cases h : 0 ≤ v.toInt ∧ v.toInt < n
  · exact Or.inl ⟨v.toInt.toNat, by omega, of_nat (by omega) (by omega), by omega⟩
  · omega
theorem thr_ne {u : Mm} {c i : Nat} (h : c ≠ 74) : thr u c i = u c i := by
  show stm u 74 19 0 c i = _
  rw [stm_c h]
theorem PR_keep {u u' : Mm} (h : PR u) (h0 : u' 41 0 = u 41 0) (h1 : u' 74 40 = u 74 40) (h2 : u' 41 1 = u 41 1) (h3 : u' 93 = u 93) (h4 : ∀ z, z < 8 → u' (43 + z) = u (43 + z)) : PR u' := by
  obtain ⟨len, lt, a1, a2, a3, a4, a5, a6⟩ := h
  refine ⟨len, lt, a1, a2, h0.trans a3, h1.trans a4, h2.trans a5, fun j hj => ?_⟩
  rw [h4 _ (Nat.mod_lt _ (by decide)), h3]
  exact a6 j hj
theorem thr_s {u : Mm} {i : Nat} (h : i ≠ 19) : thr u 74 i = u 74 i := stm_s h
theorem c_layer (a b : Int32) (u : Mm) (hR : R u) : Both (gX10_layer a b u) (gX11_layer a b) := by
  obtain ⟨c1, c2, c3, c4, c5, c6, c7, c8, c9⟩ := hR.wc
  have q7 : (7 : Int64).toInt = 7 := rfl
  have q0 : (0 : Int64).toInt = 0 := rfl
  have q1 : (1 : Int64).toInt = 1 := rfl
  rcases rng a 8 (by decide) with ⟨l, hl, rfl, ha⟩ | ha
  · have g1 := isLayer_t (v := nI l) (by omega)
    have g2 := in_t (x := nI l) (a := 0) (b := 7) (by omega)
    by_cases hb : 0 ≤ b.toInt ∧ b.toInt ≤ 1
    · have g3 := in_t (x := b) (a := 0) (b := 1) (by omega)
      have e1 := lt_f (a := b) (b := 0) (by rw [i0]; omega)
      have e2 := lt_f (a := 1) (b := b) (by rw [i1]; omega)
      by_cases hb0 : b = 0
      · refine ⟨u 4 l, u, thr u, ?_, ?_, (Sm_thrown u 0).keep hR⟩
        · simp only [gX10_layer, gX10_layer_b, letv_eq, bI_some, Option.bind_some, ↓reduceIte, one0, g1, e1, e2, eq_true hb0, side_eq hl]
        · simp only [gX11_layer, gX11_layer_b, letv_eq, bI_some, Option.bind_some, ↓reduceIte, one0, g2, g3, eq_true hb0, gd_t (ix_nI hl (show 8 < 2147483648 by decide)), ixn_nI (show l < 2147483648 by omega), (c7 l hl).1, stm_c (show (75 : Nat) ≠ 74 by decide)]
      · refine ⟨u 5 l, u, thr u, ?_, ?_, (Sm_thrown u 0).keep hR⟩
        · simp only [gX10_layer, gX10_layer_b, letv_eq, bI_some, Option.bind_some, ↓reduceIte, one0, g1, e1, e2, eq_false hb0, ahead_eq hl]
        · simp only [gX11_layer, gX11_layer_b, letv_eq, bI_some, Option.bind_some, ↓reduceIte, one0, g2, g3, eq_false hb0, gd_t (ix_nI hl (show 8 < 2147483648 by decide)), ixn_nI (show l < 2147483648 by omega), (c7 l hl).2.1, stm_c (show (76 : Nat) ≠ 74 by decide)]
    · have g3 := in_f (x := b) (a := 0) (b := 1) (by omega)
      refine Both_ref (k := 2) (r := 1000000000 - (-2)) hR ?_ ?_
      · by_cases e1 : b.toInt < 0
        · simp only [gX10_layer, gX10_layer_b, letv_eq, bI_some, Option.bind_some, ↓reduceIte, one0, g1, lt_t (a := b) (b := 0) e1, gX10_layer_25, rC2]
        · simp only [gX10_layer, gX10_layer_b, letv_eq, bI_some, Option.bind_some, ↓reduceIte, one0, g1, lt_f (a := b) (b := 0) e1, lt_t (a := 1) (b := b) (by rw [i1]; omega), gX10_layer_25, rC2]
      · simp only [gX11_layer, gX11_layer_b, letv_eq, bI_some, Option.bind_some, ↓reduceIte, one0, g2, g3, gX11_layer_27, gX11_layer_48, rM2]
  · have g1 := isLayer_f (v := a) (by omega)
    have g2 := in_f (x := a) (a := 0) (b := 7) (by omega)
    refine Both_ref (k := 1) (r := 1000000000 - (-1)) hR ?_ ?_
    · simp only [gX10_layer, gX10_layer_b, letv_eq, bI_some, Option.bind_some, ↓reduceIte, one0, g1, rC1]
    · simp only [gX11_layer, gX11_layer_b, letv_eq, bI_some, Option.bind_some, ↓reduceIte, one0, g2, gX11_layer_27, gX11_layer_48, rM1]
theorem c_wind (a b c : Int32) (u : Mm) (hR : R u) : Both (gX10_wind a b c u) (gX11_wind a b c) := by
  obtain ⟨c1, c2, c3, c4, c5, c6, c7, c8, c9⟩ := hR.wc
  have q7 : (7 : Int64).toInt = 7 := rfl
  have q0 : (0 : Int64).toInt = 0 := rfl
  rcases rng a 8 (by decide) with ⟨l, hl, rfl, ha⟩ | ha
  · have g1 := isLayer_t (v := nI l) (by omega)
    have g2 := in_t (x := nI l) (a := 0) (b := 7) (by omega)
    by_cases h1 : b < (-9)
    · refine Both_ref (k := 4) (r := -4) hR ?_ ?_
      · simp only [gX10_wind, gX10_wind_b, letv_eq, bI_some, Option.bind_some, ↓reduceIte, one0, g1, eq_true h1, gX10_wind_23, rC4]
      · simp only [gX11_wind, gX11_wind_b, letv_eq, bI_some, Option.bind_some, ↓reduceIte, one0, g2, eq_true h1, gX11_wind_36, gX11_wind_59, m4lt, rM4]
    by_cases h2 : c < 0
    · refine Both_ref (k := 4) (r := -4) hR ?_ ?_
      · simp only [gX10_wind, gX10_wind_b, letv_eq, bI_some, Option.bind_some, ↓reduceIte, one0, g1, eq_false h1, eq_true h2, gX10_wind_23, rC4]
      · simp only [gX11_wind, gX11_wind_b, letv_eq, bI_some, Option.bind_some, ↓reduceIte, one0, g2, eq_false h1, eq_true h2, gX11_wind_36, gX11_wind_59, m4lt, rM4]
    by_cases h3 : 9 < b
    · refine Both_ref (k := 6) (r := -6) hR ?_ ?_
      · simp only [gX10_wind, gX10_wind_b, letv_eq, bI_some, Option.bind_some, ↓reduceIte, one0, g1, eq_false h1, eq_false h2, eq_true h3, gX10_wind_42, rC6]
      · simp only [gX11_wind, gX11_wind_b, letv_eq, bI_some, Option.bind_some, ↓reduceIte, one0, g2, eq_false h1, eq_false h2, eq_true h3, gX11_wind_55, gX11_wind_59, m6lt, rM6]
    by_cases h4 : 9 < c
    · refine Both_ref (k := 6) (r := -6) hR ?_ ?_
      · simp only [gX10_wind, gX10_wind_b, letv_eq, bI_some, Option.bind_some, ↓reduceIte, one0, g1, eq_false h1, eq_false h2, eq_false h3, eq_true h4, gX10_wind_42, rC6]
      · simp only [gX11_wind, gX11_wind_b, letv_eq, bI_some, Option.bind_some, ↓reduceIte, one0, g2, eq_false h1, eq_false h2, eq_false h3, eq_true h4, gX11_wind_55, gX11_wind_59, m6lt, rM6]
    refine ⟨100 * (u 4 l + 9) + u 5 l, stm (stm (stm u 4 l b) 5 l c) 41 0 0, stm (stm (stm (thr (stm (stm (stm u 4 l b) 5 l c) 41 0 0)) 75 l b) 76 l c) 74 40 0, ?_, ?_, ?_⟩
    · simp only [gX10_wind, gX10_wind_b, letv_eq, bI_some, Option.bind_some, ↓reduceIte, one0, g1, eq_false h1, eq_false h2, eq_false h3, eq_false h4, side_eq hl, ahead_eq hl, blow_eq hl, gX4_forget, gX4_forget_b]
    · rw [(c7 l hl).1, (c7 l hl).2.1]
      simp only [gX11_wind, gX11_wind_b, letv_eq, bI_some, Option.bind_some, ↓reduceIte, one0, g2, eq_false h1, eq_false h2, eq_false h3, eq_false h4, gX11_wind_59, z0lt, gd_t (ix_nI hl (show 8 < 2147483648 by decide)), ixn_nI (show l < 2147483648 by omega)]
      rfl
    · refine ⟨(WN_iff _).mpr ⟨c1, c2, c3, c4, c5, c6, fun i hi => ?_, c8, c9⟩, hR.2.1, PR_forget hR.2.2.1 rfl rfl rfl, hR.2.2.2.1, hR.2.2.2.2.1, hR.2.2.2.2.2⟩
      refine ⟨?_, ?_, (c7 i hi).2.2⟩
      · show upd (u 4) l b i = upd (u 75) l b i
        unfold upd
        rw [(c7 i hi).1]
      · show upd (u 5) l c i = upd (u 76) l c i
        unfold upd
        rw [(c7 i hi).2.1]
  · have g1 := isLayer_f (v := a) (by omega)
    have g2 := in_f (x := a) (a := 0) (b := 7) (by omega)
    refine Both_ref (k := 1) (r := -1) hR ?_ ?_
    · simp only [gX10_wind, gX10_wind_b, letv_eq, bI_some, Option.bind_some, ↓reduceIte, one0, g1, rC1]
    · simp only [gX11_wind, gX11_wind_b, letv_eq, bI_some, Option.bind_some, ↓reduceIte, one0, g2, gX11_wind_59, m1lt, rM1]
theorem isFull_eq {k n N : Nat} (u : Mm) (h : u k 0 = nI n) (hN : sz (k + 1) = N) (hn : n ≤ N) (hb : N < 2147483648) : gX7_isFull k u = some (if n < N then 0 else 1) := by
  unfold gX7_isFull gX7_isFull_b
  rw [h, hN]
  by_cases h1 : n < N
  · rw [if_pos (nI_lt h1 hb), if_pos h1]
  · rw [if_neg (nI_nlt (by omega) (by omega)), if_neg h1]
theorem add_eq {k n N : Nat} (v : Int32) (u : Mm) (h : u k 0 = nI n) (hN : sz (k + 1) = N) (hn : n < N) (hb : N < 2147483647) : gX7_add k v u = some (nI (n + 1), stm (stm u (k + 1) n v) k 0 (nI (n + 1))) := by
  unfold gX7_add gX7_add_b
  have e : stm u (k + 1) n v k 0 = nI n := by rw [stm_c (by omega)]; exact h
  rw [h, hN, if_neg (nI_pos (by omega)), if_pos (nI_lt hn (by omega)), gd_t (ix_nI hn (by omega)), ixn_nI (by omega), letv_eq, e, nI_1, letv_eq, stm_r]
theorem c_row (v : Int32) (u : Mm) (hR : R u) : Both (gX10_row v u) (gX11_row v) := by
  obtain ⟨n, h1, h2, h3, h4⟩ := hR.2.2.2.2.1
  by_cases e1 : v < 0
  · refine Both_ref (k := 4) (r := -4) hR ?_ ?_
    · simp only [gX10_row, gX10_row_b, letv_eq, bI_some, Option.bind_some, ↓reduceIte, one0, eq_true e1, rC4]
    · simp only [gX11_row, gX11_row_b, letv_eq, bI_some, Option.bind_some, ↓reduceIte, one0, eq_true e1, rM4]
  by_cases e2 : 99 < v
  · refine Both_ref (k := 6) (r := -6) hR ?_ ?_
    · simp only [gX10_row, gX10_row_b, letv_eq, bI_some, Option.bind_some, ↓reduceIte, one0, eq_false e1, eq_true e2, gX10_row_27, rC6]
    · simp only [gX11_row, gX11_row_b, letv_eq, bI_some, Option.bind_some, ↓reduceIte, one0, eq_false e1, eq_true e2, gX11_row_31, rM6]
  have s1 : sz (54 + 1) = 12 := rfl
  by_cases hn : n < 12
  · refine ⟨nI (n + 1), stm (stm u 55 n v) 54 0 (nI (n + 1)), stm (stm (thr (stm (stm u 55 n v) 54 0 (nI (n + 1)))) 100 n v) 74 58 (nI (n + 1)), ?_, ?_, ?_⟩
    · simp only [gX10_row, gX10_row_b, letv_eq, bI_some, Option.bind_some, ↓reduceIte, one0, eq_false e1, eq_false e2, isFull_eq u h2 s1 h1 (by decide), if_pos hn, add_eq v u h2 s1 hn (by decide)]
    · have q : (stm (stm (stm u 55 n v) 54 0 (nI (n + 1))) 74 19 0) 74 58 = nI n := h3
      have q2 : (stm (stm (stm (stm u 55 n v) 54 0 (nI (n + 1))) 74 19 0) 100 n v) 74 58 = nI n := h3
      have e3 : (nI n = 12) = False := eq_false (fun e => by have := congrArg Int32.toInt e; rw [t_nI (by omega), i12] at this; omega)
      simp only [gX11_row, gX11_row_b, letv_eq, bI_some, Option.bind_some, ↓reduceIte, one0, eq_false e1, eq_false e2, q, e3, gd_t (ix_nI hn (by decide)), ixn_nI (show n < 2147483648 by omega), q2, nI_1, stm_r]
    · refine ⟨(WN_iff _).mpr hR.wc, hR.2.1, PR_keep hR.2.2.1 rfl rfl rfl rfl (fun z hz => by unfold thr; rw [stm_c (by omega), stm_c (by omega), stm_c (by omega), stm_c (by omega), stm_c (by omega)]), hR.2.2.2.1, ⟨n + 1, by omega, rfl, rfl, fun i hi => ?_⟩, hR.2.2.2.2.2⟩
      show upd (u 55) n v i = upd (u 100) n v i ∧ 0 ≤ (upd (u 55) n v i).toInt ∧ (upd (u 55) n v i).toInt ≤ 99
      unfold upd
      by_cases h : i = n
      · rw [if_pos h, if_pos h]
        rw [t_lt, i0] at e1
        rw [t_lt, i99] at e2
        exact ⟨rfl, by omega, by omega⟩
      · rw [if_neg h, if_neg h]
        exact h4 i (by omega)
  · have hn' : n = 12 := by omega
    subst hn'
    refine Both_ref (k := 6) (r := -6) hR ?_ ?_
    · simp only [gX10_row, gX10_row_b, letv_eq, bI_some, Option.bind_some, ↓reduceIte, one0, eq_false e1, eq_false e2, isFull_eq u h2 s1 h1 (by decide), hn, gX10_row_27, rC6]
    · have q : (stm (rfC u 6) 74 19 0) 74 58 = 12 := h3
      simp only [gX11_row, gX11_row_b, letv_eq, bI_some, Option.bind_some, ↓reduceIte, one0, eq_false e1, eq_false e2, q, gX11_row_31, rM6]
theorem c_feed (v : Int32) (u : Mm) (hR : R u) : Both (gX10_feed v u) (gX11_feed v) := by
  obtain ⟨n, h1, h2, h3, h4⟩ := hR.2.2.2.1
  by_cases e1 : v < 0
  · refine Both_ref (k := 4) (r := -4) hR ?_ ?_
    · simp only [gX10_feed, gX10_feed_b, letv_eq, bI_some, Option.bind_some, ↓reduceIte, one0, eq_true e1, rC4]
    · simp only [gX11_feed, gX11_feed_b, letv_eq, bI_some, Option.bind_some, ↓reduceIte, one0, eq_true e1, rM4]
  by_cases e2 : 255 < v
  · refine Both_ref (k := 6) (r := -6) hR ?_ ?_
    · simp only [gX10_feed, gX10_feed_b, letv_eq, bI_some, Option.bind_some, ↓reduceIte, one0, eq_false e1, eq_true e2, gX10_feed_31, rC6]
    · simp only [gX11_feed, gX11_feed_b, letv_eq, bI_some, Option.bind_some, ↓reduceIte, one0, eq_false e1, eq_true e2, gX11_feed_32, rM6]
  have s1 : sz (52 + 1) = 96 := rfl
  by_cases hn : n < 96
  · refine ⟨nI (n + 1), stm (stm u 53 n v) 52 0 (nI (n + 1)), stm (stm (thr (stm (stm u 53 n v) 52 0 (nI (n + 1)))) 85 n v) 74 23 (nI (n + 1)), ?_, ?_, ?_⟩
    · simp only [gX10_feed, gX10_feed_b, letv_eq, bI_some, Option.bind_some, ↓reduceIte, one0, eq_false e1, eq_false e2, isFull_eq u h2 s1 h1 (by decide), if_pos hn, add_eq v u h2 s1 hn (by decide)]
    · have q : (stm (stm (stm u 53 n v) 52 0 (nI (n + 1))) 74 19 0) 74 23 = nI n := h3
      have q2 : (stm (stm (stm (stm u 53 n v) 52 0 (nI (n + 1))) 74 19 0) 85 n v) 74 23 = nI n := h3
      have e3 : (nI n = 96) = False := eq_false (fun e => by have := congrArg Int32.toInt e; rw [t_nI (by omega), i96] at this; omega)
      simp only [gX11_feed, gX11_feed_b, letv_eq, bI_some, Option.bind_some, ↓reduceIte, one0, eq_false e1, eq_false e2, q, e3, gd_t (ix_nI hn (by decide)), ixn_nI (show n < 2147483648 by omega), q2, nI_1, stm_r]
    · refine ⟨(WN_iff _).mpr hR.wc, hR.2.1, PR_keep hR.2.2.1 rfl rfl rfl rfl (fun z hz => by unfold thr; rw [stm_c (by omega), stm_c (by omega), stm_c (by omega), stm_c (by omega), stm_c (by omega)]), ⟨n + 1, by omega, rfl, rfl, fun i hi => ?_⟩, hR.2.2.2.2.1, hR.2.2.2.2.2⟩
      show upd (u 53) n v i = upd (u 85) n v i ∧ 0 ≤ (upd (u 53) n v i).toInt ∧ (upd (u 53) n v i).toInt ≤ 255
      unfold upd
      by_cases h : i = n
      · rw [if_pos h, if_pos h]
        rw [t_lt, i0] at e1
        rw [t_lt, i255] at e2
        exact ⟨rfl, by omega, by omega⟩
      · rw [if_neg h, if_neg h]
        exact h4 i (by omega)
  · have hn' : n = 96 := by omega
    subst hn'
    refine Both_ref (k := 6) (r := -6) hR ?_ ?_
    · simp only [gX10_feed, gX10_feed_b, letv_eq, bI_some, Option.bind_some, ↓reduceIte, one0, eq_false e1, eq_false e2, isFull_eq u h2 s1 h1 (by decide), hn, gX10_feed_31, rC6]
    · have q : (stm (rfC u 6) 74 19 0) 74 23 = 96 := h3
      simp only [gX11_feed, gX11_feed_b, letv_eq, bI_some, Option.bind_some, ↓reduceIte, one0, eq_false e1, eq_false e2, q, gX11_feed_32, rM6]
theorem imax0 (x : Int32) : imax 0 x = if x < 0 then 0 else x := by
  unfold imax
  simp only [t_lt, i0]
  by_cases h : 0 < x.toInt
  · rw [if_pos h, if_neg (by omega)]
  · rw [if_neg h]
    by_cases h2 : x.toInt < 0
    · rw [if_pos h2]
    · rw [if_neg h2]
      exact Int32.toInt_inj.mp (by rw [i0]; omega)
theorem iabs_eq (x : Int32) : gX11_plainly x = some (iabs x) := by
  unfold gX11_plainly gX11_plainly_b iabs
  by_cases h : x < 0
  · rw [if_pos h, if_pos h, Int32.zero_sub]
  · rw [if_neg h, if_neg h]
/-- DRAG of both sides, from the first SIDE and AHEAD -/
def dragS (p s a q : Int32) : Int32 := imax 0 (((4 * p) + (3 * ((iabs s) + a))) - (2 * q))
theorem dragC (k : Nat) (p q : Int32) (u : Mm) : gX0_dragOf k p q u = some (dragS p (u (k + 1) 0) (u (k + 2) 0) q) := rfl
theorem dragM (p : Int32) (u : Mm) : gX11_dragOf p u = some (dragS p (u 75 0) (u 76 0) (u 74 7)) := by
  unfold gX11_dragOf gX11_dragOf_b dragS
  rw [iabs_eq, Option.bind_some, letv_eq, imax0, show ixn 0 = 0 from rfl]
  by_cases h : 4 * p + 3 * (iabs (u 75 0) + u 76 0) - 2 * u 74 7 < 0
  · rw [if_pos h, if_pos h]
  · rw [if_neg h, if_neg h]
theorem c_drag (v : Int32) (u : Mm) (hR : R u) : Both (gX10_drag v u) (gX11_drag v) := by
  obtain ⟨c1, c2, c3, c4, c5, c6, c7, c8, c9⟩ := hR.wc
  by_cases e1 : v < 0
  · refine Both_ref (k := 4) (r := -4) hR ?_ ?_
    · simp only [gX10_drag, gX10_drag_b, letv_eq, bI_some, Option.bind_some, ↓reduceIte, one0, eq_true e1, rC4]
    · simp only [gX11_drag, gX11_drag_b, letv_eq, bI_some, Option.bind_some, ↓reduceIte, one0, gX11_wrongNumber, gX11_wrongNumber_b, eq_true e1, m4lt, rM4]
  by_cases e2 : 20 < v
  · refine Both_ref (k := 6) (r := -6) hR ?_ ?_
    · simp only [gX10_drag, gX10_drag_b, letv_eq, bI_some, Option.bind_some, ↓reduceIte, one0, eq_false e1, eq_true e2, rC6]
    · simp only [gX11_drag, gX11_drag_b, letv_eq, bI_some, Option.bind_some, ↓reduceIte, one0, gX11_wrongNumber, gX11_wrongNumber_b, eq_false e1, eq_true e2, m6lt, rM6]
  refine ⟨dragS v (u 4 0) (u 5 0) (u 14 5), u, thr u, ?_, ?_, (Sm_thrown u 0).keep hR⟩
  · simp only [gX10_drag, gX10_drag_b, letv_eq, bI_some, Option.bind_some, ↓reduceIte, one0, eq_false e1, eq_false e2, dragC]
  · rw [(c7 0 (by decide)).1, (c7 0 (by decide)).2.1, c1.2.2.2.2.2.1]
    simp only [gX11_drag, gX11_drag_b, letv_eq, bI_some, Option.bind_some, ↓reduceIte, one0, gX11_wrongNumber, gX11_wrongNumber_b, eq_false e1, eq_false e2, z0lt, dragM]
    rfl
theorem c_clear (u : Mm) (hR : R u) : Both (gX10_clear u) gX11_clear := by
  obtain ⟨n, h1, h2, h3, h4⟩ := hR.2.2.2.2.1
  refine ⟨u 54 0, stm u 54 0 0, stm (thr (stm u 54 0 0)) 74 58 0, rfl, ?_, ?_⟩
  · rw [h2, ← h3]
    rfl
  · exact ⟨(WN_iff _).mpr hR.wc, hR.2.1, PR_keep hR.2.2.1 rfl rfl rfl rfl (fun z hz => by unfold thr; rw [stm_c (by omega), stm_c (by omega), stm_c (by omega)]), hR.2.2.2.1, ⟨0, by decide, rfl, rfl, fun i hi => absurd hi (Nat.not_lt_zero _)⟩, hR.2.2.2.2.2⟩
