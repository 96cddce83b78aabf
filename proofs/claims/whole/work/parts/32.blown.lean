/-! Calls: blown. -/
theorem bl_loop (v : Int32) (hv : v = 0 ∨ v = 1 ∨ v = 2) (u u' : Mm) (hs : ∀ i, i < 8 → u' 75 i = u 4 i ∧ u' 76 i = u 5 i) : ∀ (d b j fuel : Nat), j + d = 8 → b < 8 → d < fuel →
    ∃ r, gX0_layerFarthest_4_L 3 v u fuel (nI b) (nI j) = some r ∧ gX11_blown_28_L v fuel (nI b) (nI j) u' = some (r, u') := by
  intro d
  induction d with
  | zero =>
    intro b j fuel hj hb hf
    obtain ⟨f, rfl⟩ : ∃ f, fuel = f + 1 := ⟨fuel - 1, by omega⟩
    obtain rfl : j = 8 := by omega
    exact ⟨nI b, rfl, rfl⟩
  | succ d ih =>
    intro b j fuel hj hb hf
    obtain ⟨f, rfl⟩ : ∃ f, fuel = f + 1 := ⟨fuel - 1, by omega⟩
    have hj8 : j < 8 := by omega
    have hl : (nI j < 8) = True := eq_true (by rw [show (8 : Int32) = nI 8 from rfl, lt_nn (by omega) (by omega)]; omega)
    show ∃ r, gX0_layerFarthest_4_Ls 3 v u (gX0_layerFarthest_4_L 3 v u f) (nI b) (nI j) = some r ∧ gX11_blown_28_Ls v (gX11_blown_28_L v f) (nI b) (nI j) u' = some (r, u')
    obtain ⟨sj, aj⟩ := hs j hj8
    obtain ⟨sb, ab⟩ := hs b hb
    have n20 : ((2 : Int32) = 0) = False := eq_false (by decide)
    have n21 : ((2 : Int32) = 1) = False := eq_false (by decide)
    have n02 : ((0 : Int32) = 2) = False := eq_false (by decide)
    have n12 : ((1 : Int32) = 2) = False := eq_false (by decide)
    rcases hv with rfl | rfl | rfl
    all_goals
      simp only [gX0_layerFarthest_4_Ls, gX0_layerFarthest_30, gX0_speedTo, gX0_speedTo_b, gX11_blown_28_Ls, gX11_blown_68, gX11_blown_104, gX11_blown_118, hl, side_eq hj8, side_eq hb, ahead_eq hj8, ahead_eq hb, gd_t (ix_nI hj8 (show 8 < 2147483648 by decide)), gd_t (ix_nI hb (show 8 < 2147483648 by decide)), ixn_nI (show j < 2147483648 by omega), ixn_nI (show b < 2147483648 by omega), nI_s (show j + 1 < 2147483648 by omega), sj, aj, sb, ab, n20, n21, n02, n12, Nat.reduceAdd, letv_eq, bI_some, Option.bind_some, ↓reduceIte, one0]
    · by_cases c : u 4 b < u 4 j
      · simp only [eq_true c, ↓reduceIte]; exact ih j (j + 1) f (by omega) hj8 (by omega)
      · simp only [eq_false c, ↓reduceIte]; exact ih b (j + 1) f (by omega) hb (by omega)
    · by_cases c : -u 4 b < -u 4 j
      · simp only [eq_true c, ↓reduceIte]; exact ih j (j + 1) f (by omega) hj8 (by omega)
      · simp only [eq_false c, ↓reduceIte]; exact ih b (j + 1) f (by omega) hb (by omega)
    · by_cases c : u 5 b < u 5 j
      · simp only [eq_true c, ↓reduceIte]; exact ih j (j + 1) f (by omega) hj8 (by omega)
      · simp only [eq_false c, ↓reduceIte]; exact ih b (j + 1) f (by omega) hb (by omega)
theorem c_blown (v : Int32) (u : Mm) (hR : R u) : Both (gX10_blown v u) (gX11_blown v) := by
  obtain ⟨c1, c2, c3, c4, c5, c6, c7, c8, c9⟩ := hR.wc
  by_cases h : 0 ≤ v.toInt ∧ v.toInt ≤ 2
  · have hv : v = 0 ∨ v = 1 ∨ v = 2 := by
      simp only [t_eq, i0, i1, i2]; omega
    obtain ⟨r, h1, h2⟩ := bl_loop v hv u (thr u) (fun i hi => ⟨(c7 i hi).1.symm, (c7 i hi).2.1.symm⟩) 7 0 1 FU rfl (by decide) (by decide)
    have h1' : gX0_layerFarthest_4_L 3 v u FU 0 1 = some r := h1
    have h2' : gX11_blown_28_L v FU 0 1 (stm u 74 19 0) = some (r, thr u) := h2
    refine ⟨r, u, thr u, ?_, ?_, (Sm_thrown u 0).keep hR⟩
    · simp only [gX10_blown, gX10_blown_b, gX0_layerFarthest, gX0_layerFarthest_b, lt_f (a := v) (b := 0) (by rw [i0]; omega), lt_f (a := 2) (b := v) (by rw [i2]; omega), h1', letv_eq, bI_some, Option.bind_some, ↓reduceIte, one0]
    · simp only [gX11_blown, gX11_blown_b, in_t (x := v) (a := 0) (b := 2) h, h2', letv_eq, bI_some, Option.bind_some, ↓reduceIte, one0]
  · refine Both_ref (k := 2) (r := -2) hR ?_ ?_
    · by_cases h0 : v.toInt < 0
      · simp only [gX10_blown, gX10_blown_b, gX10_blown_9, lt_t (b := 0) h0, rC2, letv_eq, bI_some, Option.bind_some, ↓reduceIte, one0]
      · simp only [gX10_blown, gX10_blown_b, gX10_blown_9, lt_f (b := 0) h0, lt_t (a := 2) (b := v) (by rw [i2]; omega), rC2, letv_eq, bI_some, Option.bind_some, ↓reduceIte, one0]
    · simp only [gX11_blown, gX11_blown_b, in_f (x := v) (a := 0) (b := 2) h, rM2, letv_eq, bI_some, Option.bind_some, ↓reduceIte, one0]
