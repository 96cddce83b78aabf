/-! carryAll of the reference; the copies of the class. -/
theorem cp_air {k0 k1 : Nat} (hd : k0 + 10 < k1 ∨ k1 + 10 < k0) : ∀ (d j fuel : Nat) (u : Mm), j + d = 8 → d < fuel → Ok (gX0_copyFrom_2_L k0 k1 fuel (nI j) u) (fun u' => (∀ c, c ≠ k0 + 1 → c ≠ k0 + 2 → u' c = u c) ∧ (∀ i, u' (k0 + 1) i = if j ≤ i ∧ i < 8 then u (k1 + 1) i else u (k0 + 1) i) ∧ (∀ i, u' (k0 + 2) i = if j ≤ i ∧ i < 8 then u (k1 + 2) i else u (k0 + 2) i)) := by
  have m11 : (k1 + 1 = k0 + 1) = False := eq_false (by omega)
  have m12 : (k1 + 1 = k0 + 2) = False := eq_false (by omega)
  have n12 : (k0 + 1 = k0 + 2) = False := eq_false (by omega)
  have m21 : (k1 + 2 = k0 + 1) = False := eq_false (by omega)
  have n21 : (k0 + 2 = k0 + 1) = False := eq_false (by omega)
  have m22 : (k1 + 2 = k0 + 2) = False := eq_false (by omega)
  intro d
  induction d with
  | zero =>
    intro j fuel u hj hf
    obtain ⟨f, rfl⟩ : ∃ f, fuel = f + 1 := ⟨fuel - 1, by omega⟩
    obtain rfl : j = 8 := by omega
    exact ⟨u, rfl, fun c _ _ => rfl, fun i => by rw [if_neg (by omega)], fun i => by rw [if_neg (by omega)]⟩
  | succ d ih =>
    intro j fuel u hj hf
    obtain ⟨f, rfl⟩ : ∃ f, fuel = f + 1 := ⟨fuel - 1, by omega⟩
    show Ok (gX0_copyFrom_2_Ls k0 k1 (gX0_copyFrom_2_L k0 k1 f) (nI j) u) _
    unfold gX0_copyFrom_2_Ls
    rw [show (8 : Int32) = nI 8 from rfl, if_pos (by rw [lt_nn (by omega) (by omega)]; omega)]
    simp only [gd_t (ix_nI (show j < 8 by omega) (show 8 < 2147483648 by decide)), ixn_nI (show j < 2147483648 by omega), nI_s (show j + 1 < 2147483648 by omega), letv_eq]
    refine (ih (j + 1) f _ (by omega) (by omega)).mono ?_
    rintro u' ⟨h0, h1, h2⟩
    refine ⟨fun c c1 c2 => (h0 c c1 c2).trans (by rw [stm_c c2, stm_c c1]), fun i => ?_, fun i => ?_⟩
    · rw [h1 i]
      by_cases e : i = j
      · subst e
        rw [if_neg (by omega), if_pos (by omega)]
        simp only [stm_v, m11, m12, m21, m22, n12, n21, false_and, and_false, and_self, ↓reduceIte, eq_self]
      · have e' : (i = j) = False := eq_false e
        simp only [stm_v, m11, m12, m21, m22, n12, n21, false_and, and_false, and_self, ↓reduceIte, eq_self, e']
        by_cases e2 : j + 1 ≤ i ∧ i < 8
        · rw [if_pos e2, if_pos (by omega)]
        · rw [if_neg e2, if_neg (by omega)]
    · rw [h2 i]
      by_cases e : i = j
      · subst e
        rw [if_neg (by omega), if_pos (by omega)]
        simp only [stm_v, m11, m12, m21, m22, n12, n21, false_and, and_false, and_self, ↓reduceIte, eq_self]
      · have e' : (i = j) = False := eq_false e
        simp only [stm_v, m11, m12, m21, m22, n12, n21, false_and, and_false, and_self, ↓reduceIte, eq_self, e']
        by_cases e2 : j + 1 ≤ i ∧ i < 8
        · rw [if_pos e2, if_pos (by omega)]
        · rw [if_neg e2, if_neg (by omega)]
theorem cp_fld {k0 k1 : Nat} (hd : k0 + 10 < k1 ∨ k1 + 10 < k0) : ∀ (d j fuel : Nat) (u : Mm), j + d = 8 → d < fuel → Ok (gX1_copyFrom_10_L k0 k1 fuel (nI j) u) (fun u' => (∀ c, c ≠ k0 + 1 → c ≠ k0 + 2 → c ≠ k0 + 3 → c ≠ k0 + 4 → c ≠ k0 + 5 → u' c = u c) ∧ (∀ i, u' (k0 + 1) i = if j ≤ i ∧ i < 8 then u (k1 + 1) i else u (k0 + 1) i) ∧ (∀ i, u' (k0 + 2) i = if j ≤ i ∧ i < 8 then u (k1 + 2) i else u (k0 + 2) i) ∧ (∀ i, u' (k0 + 3) i = if j ≤ i ∧ i < 8 then u (k1 + 3) i else u (k0 + 3) i) ∧ (∀ i, u' (k0 + 4) i = if j ≤ i ∧ i < 8 then u (k1 + 4) i else u (k0 + 4) i) ∧ (∀ i, u' (k0 + 5) i = if j ≤ i ∧ i < 8 then u (k1 + 5) i else u (k0 + 5) i)) := by
  have m11 : (k1 + 1 = k0 + 1) = False := eq_false (by omega)
  have m12 : (k1 + 1 = k0 + 2) = False := eq_false (by omega)
  have n12 : (k0 + 1 = k0 + 2) = False := eq_false (by omega)
  have m13 : (k1 + 1 = k0 + 3) = False := eq_false (by omega)
  have n13 : (k0 + 1 = k0 + 3) = False := eq_false (by omega)
  have m14 : (k1 + 1 = k0 + 4) = False := eq_false (by omega)
  have n14 : (k0 + 1 = k0 + 4) = False := eq_false (by omega)
  have m15 : (k1 + 1 = k0 + 5) = False := eq_false (by omega)
  have n15 : (k0 + 1 = k0 + 5) = False := eq_false (by omega)
  have m21 : (k1 + 2 = k0 + 1) = False := eq_false (by omega)
  have n21 : (k0 + 2 = k0 + 1) = False := eq_false (by omega)
  have m22 : (k1 + 2 = k0 + 2) = False := eq_false (by omega)
  have m23 : (k1 + 2 = k0 + 3) = False := eq_false (by omega)
  have n23 : (k0 + 2 = k0 + 3) = False := eq_false (by omega)
  have m24 : (k1 + 2 = k0 + 4) = False := eq_false (by omega)
  have n24 : (k0 + 2 = k0 + 4) = False := eq_false (by omega)
  have m25 : (k1 + 2 = k0 + 5) = False := eq_false (by omega)
  have n25 : (k0 + 2 = k0 + 5) = False := eq_false (by omega)
  have m31 : (k1 + 3 = k0 + 1) = False := eq_false (by omega)
  have n31 : (k0 + 3 = k0 + 1) = False := eq_false (by omega)
  have m32 : (k1 + 3 = k0 + 2) = False := eq_false (by omega)
  have n32 : (k0 + 3 = k0 + 2) = False := eq_false (by omega)
  have m33 : (k1 + 3 = k0 + 3) = False := eq_false (by omega)
  have m34 : (k1 + 3 = k0 + 4) = False := eq_false (by omega)
  have n34 : (k0 + 3 = k0 + 4) = False := eq_false (by omega)
  have m35 : (k1 + 3 = k0 + 5) = False := eq_false (by omega)
  have n35 : (k0 + 3 = k0 + 5) = False := eq_false (by omega)
  have m41 : (k1 + 4 = k0 + 1) = False := eq_false (by omega)
  have n41 : (k0 + 4 = k0 + 1) = False := eq_false (by omega)
  have m42 : (k1 + 4 = k0 + 2) = False := eq_false (by omega)
  have n42 : (k0 + 4 = k0 + 2) = False := eq_false (by omega)
  have m43 : (k1 + 4 = k0 + 3) = False := eq_false (by omega)
  have n43 : (k0 + 4 = k0 + 3) = False := eq_false (by omega)
  have m44 : (k1 + 4 = k0 + 4) = False := eq_false (by omega)
  have m45 : (k1 + 4 = k0 + 5) = False := eq_false (by omega)
  have n45 : (k0 + 4 = k0 + 5) = False := eq_false (by omega)
  have m51 : (k1 + 5 = k0 + 1) = False := eq_false (by omega)
  have n51 : (k0 + 5 = k0 + 1) = False := eq_false (by omega)
  have m52 : (k1 + 5 = k0 + 2) = False := eq_false (by omega)
  have n52 : (k0 + 5 = k0 + 2) = False := eq_false (by omega)
  have m53 : (k1 + 5 = k0 + 3) = False := eq_false (by omega)
  have n53 : (k0 + 5 = k0 + 3) = False := eq_false (by omega)
  have m54 : (k1 + 5 = k0 + 4) = False := eq_false (by omega)
  have n54 : (k0 + 5 = k0 + 4) = False := eq_false (by omega)
  have m55 : (k1 + 5 = k0 + 5) = False := eq_false (by omega)
  intro d
  induction d with
  | zero =>
    intro j fuel u hj hf
    obtain ⟨f, rfl⟩ : ∃ f, fuel = f + 1 := ⟨fuel - 1, by omega⟩
    obtain rfl : j = 8 := by omega
    exact ⟨u, rfl, fun c _ _ _ _ _ => rfl, fun i => by rw [if_neg (by omega)], fun i => by rw [if_neg (by omega)], fun i => by rw [if_neg (by omega)], fun i => by rw [if_neg (by omega)], fun i => by rw [if_neg (by omega)]⟩
  | succ d ih =>
    intro j fuel u hj hf
    obtain ⟨f, rfl⟩ : ∃ f, fuel = f + 1 := ⟨fuel - 1, by omega⟩
    show Ok (gX1_copyFrom_10_Ls k0 k1 (gX1_copyFrom_10_L k0 k1 f) (nI j) u) _
    unfold gX1_copyFrom_10_Ls
    rw [show (8 : Int32) = nI 8 from rfl, if_pos (by rw [lt_nn (by omega) (by omega)]; omega)]
    simp only [gd_t (ix_nI (show j < 8 by omega) (show 8 < 2147483648 by decide)), ixn_nI (show j < 2147483648 by omega), nI_s (show j + 1 < 2147483648 by omega), letv_eq]
    refine (ih (j + 1) f _ (by omega) (by omega)).mono ?_
    rintro u' ⟨h0, h1, h2, h3, h4, h5⟩
    refine ⟨fun c c1 c2 c3 c4 c5 => (h0 c c1 c2 c3 c4 c5).trans (by rw [stm_c c5, stm_c c4, stm_c c3, stm_c c2, stm_c c1]), fun i => ?_, fun i => ?_, fun i => ?_, fun i => ?_, fun i => ?_⟩
    · rw [h1 i]
      by_cases e : i = j
      · subst e
        rw [if_neg (by omega), if_pos (by omega)]
        simp only [stm_v, m11, m12, m13, m14, m15, m21, m22, m23, m24, m25, m31, m32, m33, m34, m35, m41, m42, m43, m44, m45, m51, m52, m53, m54, m55, n12, n13, n14, n15, n21, n23, n24, n25, n31, n32, n34, n35, n41, n42, n43, n45, n51, n52, n53, n54, false_and, and_false, and_self, ↓reduceIte, eq_self]
      · have e' : (i = j) = False := eq_false e
        simp only [stm_v, m11, m12, m13, m14, m15, m21, m22, m23, m24, m25, m31, m32, m33, m34, m35, m41, m42, m43, m44, m45, m51, m52, m53, m54, m55, n12, n13, n14, n15, n21, n23, n24, n25, n31, n32, n34, n35, n41, n42, n43, n45, n51, n52, n53, n54, false_and, and_false, and_self, ↓reduceIte, eq_self, e']
        by_cases e2 : j + 1 ≤ i ∧ i < 8
        · rw [if_pos e2, if_pos (by omega)]
        · rw [if_neg e2, if_neg (by omega)]
    · rw [h2 i]
      by_cases e : i = j
      · subst e
        rw [if_neg (by omega), if_pos (by omega)]
        simp only [stm_v, m11, m12, m13, m14, m15, m21, m22, m23, m24, m25, m31, m32, m33, m34, m35, m41, m42, m43, m44, m45, m51, m52, m53, m54, m55, n12, n13, n14, n15, n21, n23, n24, n25, n31, n32, n34, n35, n41, n42, n43, n45, n51, n52, n53, n54, false_and, and_false, and_self, ↓reduceIte, eq_self]
      · have e' : (i = j) = False := eq_false e
        simp only [stm_v, m11, m12, m13, m14, m15, m21, m22, m23, m24, m25, m31, m32, m33, m34, m35, m41, m42, m43, m44, m45, m51, m52, m53, m54, m55, n12, n13, n14, n15, n21, n23, n24, n25, n31, n32, n34, n35, n41, n42, n43, n45, n51, n52, n53, n54, false_and, and_false, and_self, ↓reduceIte, eq_self, e']
        by_cases e2 : j + 1 ≤ i ∧ i < 8
        · rw [if_pos e2, if_pos (by omega)]
        · rw [if_neg e2, if_neg (by omega)]
    · rw [h3 i]
      by_cases e : i = j
      · subst e
        rw [if_neg (by omega), if_pos (by omega)]
        simp only [stm_v, m11, m12, m13, m14, m15, m21, m22, m23, m24, m25, m31, m32, m33, m34, m35, m41, m42, m43, m44, m45, m51, m52, m53, m54, m55, n12, n13, n14, n15, n21, n23, n24, n25, n31, n32, n34, n35, n41, n42, n43, n45, n51, n52, n53, n54, false_and, and_false, and_self, ↓reduceIte, eq_self]
      · have e' : (i = j) = False := eq_false e
        simp only [stm_v, m11, m12, m13, m14, m15, m21, m22, m23, m24, m25, m31, m32, m33, m34, m35, m41, m42, m43, m44, m45, m51, m52, m53, m54, m55, n12, n13, n14, n15, n21, n23, n24, n25, n31, n32, n34, n35, n41, n42, n43, n45, n51, n52, n53, n54, false_and, and_false, and_self, ↓reduceIte, eq_self, e']
        by_cases e2 : j + 1 ≤ i ∧ i < 8
        · rw [if_pos e2, if_pos (by omega)]
        · rw [if_neg e2, if_neg (by omega)]
    · rw [h4 i]
      by_cases e : i = j
      · subst e
        rw [if_neg (by omega), if_pos (by omega)]
        simp only [stm_v, m11, m12, m13, m14, m15, m21, m22, m23, m24, m25, m31, m32, m33, m34, m35, m41, m42, m43, m44, m45, m51, m52, m53, m54, m55, n12, n13, n14, n15, n21, n23, n24, n25, n31, n32, n34, n35, n41, n42, n43, n45, n51, n52, n53, n54, false_and, and_false, and_self, ↓reduceIte, eq_self]
      · have e' : (i = j) = False := eq_false e
        simp only [stm_v, m11, m12, m13, m14, m15, m21, m22, m23, m24, m25, m31, m32, m33, m34, m35, m41, m42, m43, m44, m45, m51, m52, m53, m54, m55, n12, n13, n14, n15, n21, n23, n24, n25, n31, n32, n34, n35, n41, n42, n43, n45, n51, n52, n53, n54, false_and, and_false, and_self, ↓reduceIte, eq_self, e']
        by_cases e2 : j + 1 ≤ i ∧ i < 8
        · rw [if_pos e2, if_pos (by omega)]
        · rw [if_neg e2, if_neg (by omega)]
    · rw [h5 i]
      by_cases e : i = j
      · subst e
        rw [if_neg (by omega), if_pos (by omega)]
        simp only [stm_v, m11, m12, m13, m14, m15, m21, m22, m23, m24, m25, m31, m32, m33, m34, m35, m41, m42, m43, m44, m45, m51, m52, m53, m54, m55, n12, n13, n14, n15, n21, n23, n24, n25, n31, n32, n34, n35, n41, n42, n43, n45, n51, n52, n53, n54, false_and, and_false, and_self, ↓reduceIte, eq_self]
      · have e' : (i = j) = False := eq_false e
        simp only [stm_v, m11, m12, m13, m14, m15, m21, m22, m23, m24, m25, m31, m32, m33, m34, m35, m41, m42, m43, m44, m45, m51, m52, m53, m54, m55, n12, n13, n14, n15, n21, n23, n24, n25, n31, n32, n34, n35, n41, n42, n43, n45, n51, n52, n53, n54, false_and, and_false, and_self, ↓reduceIte, eq_self, e']
        by_cases e2 : j + 1 ≤ i ∧ i < 8
        · rw [if_pos e2, if_pos (by omega)]
        · rw [if_neg e2, if_neg (by omega)]
theorem cp_rd {k0 k1 : Nat} (hd : k0 + 10 < k1 ∨ k1 + 10 < k0) : ∀ (d j fuel : Nat) (u : Mm), j + d = 64 → d < fuel → Ok (gX6_copyFrom_10_L k0 k1 fuel (nI j) u) (fun u' => (∀ c, c ≠ k0 + 1 → u' c = u c) ∧ (∀ i, u' (k0 + 1) i = if j ≤ i ∧ i < 64 then u (k1 + 1) i else u (k0 + 1) i)) := by
  have m11 : (k1 + 1 = k0 + 1) = False := eq_false (by omega)
  intro d
  induction d with
  | zero =>
    intro j fuel u hj hf
    obtain ⟨f, rfl⟩ : ∃ f, fuel = f + 1 := ⟨fuel - 1, by omega⟩
    obtain rfl : j = 64 := by omega
    exact ⟨u, rfl, fun c _ => rfl, fun i => by rw [if_neg (by omega)]⟩
  | succ d ih =>
    intro j fuel u hj hf
    obtain ⟨f, rfl⟩ : ∃ f, fuel = f + 1 := ⟨fuel - 1, by omega⟩
    show Ok (gX6_copyFrom_10_Ls k0 k1 (gX6_copyFrom_10_L k0 k1 f) (nI j) u) _
    unfold gX6_copyFrom_10_Ls
    rw [show (64 : Int32) = nI 64 from rfl, if_pos (by rw [lt_nn (by omega) (by omega)]; omega)]
    simp only [gd_t (ix_nI (show j < 64 by omega) (show 64 < 2147483648 by decide)), ixn_nI (show j < 2147483648 by omega), nI_s (show j + 1 < 2147483648 by omega), letv_eq]
    refine (ih (j + 1) f _ (by omega) (by omega)).mono ?_
    rintro u' ⟨h0, h1⟩
    refine ⟨fun c c1 => (h0 c c1).trans (by rw [stm_c c1]), fun i => ?_⟩
    · rw [h1 i]
      by_cases e : i = j
      · subst e
        rw [if_neg (by omega), if_pos (by omega)]
        simp only [stm_v, m11, false_and, and_false, and_self, ↓reduceIte, eq_self]
      · have e' : (i = j) = False := eq_false e
        simp only [stm_v, m11, false_and, and_false, and_self, ↓reduceIte, eq_self, e']
        by_cases e2 : j + 1 ≤ i ∧ i < 64
        · rw [if_pos e2, if_pos (by omega)]
        · rw [if_neg e2, if_neg (by omega)]
theorem ca_loop2 {K k1 : Nat} {tk : Bool} {b : Mm} (h : HK K tk b) (hs : 136 ≤ sz K) : ∀ (d j fuel : Nat) (u : Mm), j + d = 64 → d < fuel → CI K tk b (72 + j) u → Ok (gX11_carryAll_171_L k1 fuel (nI j) u) (CI K tk b 136) := by
  intro d
  induction d with
  | zero =>
    intro j fuel u hj hf hc
    obtain ⟨f, rfl⟩ : ∃ f, fuel = f + 1 := ⟨fuel - 1, by omega⟩
    obtain rfl : j = 64 := by omega
    exact ⟨u, rfl, hc⟩
  | succ d ih =>
    intro j fuel u hj hf hc
    obtain ⟨f, rfl⟩ : ∃ f, fuel = f + 1 := ⟨fuel - 1, by omega⟩
    show Ok (gX11_carryAll_171_Ls k1 (gX11_carryAll_171_L k1 f) (nI j) u) _
    unfold gX11_carryAll_171_Ls
    rw [show (64 : Int32) = nI 64 from rfl, if_pos (by rw [lt_nn (by omega) (by omega)]; omega), gd_t (ix_nI (by omega) (by decide)), ixn_nI (by omega)]
    simp only [gd_t (ix_nI (show j < 64 by omega) (show 64 < 2147483648 by decide)), nI_s (show j + 1 < 2147483648 by omega)]
    refine CI_b 83 j h hc (by omega) (by omega) ?_ (fun u' hu' => ih (j + 1) f u' (by omega) (by omega) hu')
    unfold sp
    rw [if_neg (by omega), if_neg (by omega), if_neg (by omega), if_neg (by omega), if_neg (by omega), Nat.add_sub_cancel_left]
theorem sp7 : ∀ j : Nat, j < 8 → sp (16 + 7 * j) = (75, j) ∧ sp (16 + 7 * j + 1) = (76, j) ∧ sp (16 + 7 * j + 1 + 1) = (78, j) ∧ sp (16 + 7 * j + 1 + 1 + 1) = (79, j) ∧ sp (16 + 7 * j + 1 + 1 + 1 + 1) = (80, j) ∧ sp (16 + 7 * j + 1 + 1 + 1 + 1 + 1) = (81, j) ∧ sp (16 + 7 * j + 1 + 1 + 1 + 1 + 1 + 1) = (82, j) := by decide
theorem ca_loop {K k1 : Nat} {tk : Bool} {b : Mm} (h : HK K tk b) (hs : 136 ≤ sz K) : ∀ (d j fuel : Nat) (u : Mm), j + d = 8 → d < fuel → CI K tk b (16 + 7 * j) u → Ok (gX11_carryAll_45_L k1 fuel (nI j) u) (CI K tk b 136) := by
  intro d
  induction d with
  | zero =>
    intro j fuel u hj hf hc
    obtain ⟨f, rfl⟩ : ∃ f, fuel = f + 1 := ⟨fuel - 1, by omega⟩
    obtain rfl : j = 8 := by omega
    show Ok (gX11_carryAll_171_L k1 FU (nI 0) u) _
    exact ca_loop2 h hs 64 0 FU u rfl (by decide) hc
  | succ d ih =>
    intro j fuel u hj hf hc
    obtain ⟨f, rfl⟩ : ∃ f, fuel = f + 1 := ⟨fuel - 1, by omega⟩
    obtain ⟨p1, p2, p3, p4, p5, p6, p7⟩ := sp7 j (by omega)
    show Ok (gX11_carryAll_45_Ls k1 (gX11_carryAll_45_L k1 f) (nI j) u) _
    unfold gX11_carryAll_45_Ls
    rw [show (8 : Int32) = nI 8 from rfl, if_pos (by rw [lt_nn (by omega) (by omega)]; omega)]
    simp only [gd_t (ix_nI (show j < 8 by omega) (show 8 < 2147483648 by decide)), ixn_nI (show j < 2147483648 by omega), nI_s (show j + 1 < 2147483648 by omega)]
    refine CI_b 75 j h hc (by omega) (by omega) p1 (fun u1 h1 => ?_)
    refine CI_b 76 j h h1 (by omega) (by omega) p2 (fun u2 h2 => ?_)
    refine CI_b 78 j h h2 (by omega) (by omega) p3 (fun u3 h3 => ?_)
    refine CI_b 79 j h h3 (by omega) (by omega) p4 (fun u4 h4 => ?_)
    refine CI_b 80 j h h4 (by omega) (by omega) p5 (fun u5 h5 => ?_)
    refine CI_b 81 j h h5 (by omega) (by omega) p6 (fun u6 h6 => ?_)
    refine CI_b 82 j h h6 (by omega) (by omega) p7 (fun u7 h7 => ?_)
    exact ih (j + 1) f u7 (by omega) (by omega) (by rw [show 16 + 7 * (j + 1) = 16 + 7 * j + 1 + 1 + 1 + 1 + 1 + 1 + 1 by omega]; exact h7)
/-- the memory in which a carry begins -/
abbrev cst (u : Mm) (K : Nat) (v : Int32) : Mm := stm (stm (stm u 74 36 (nI K)) 74 35 v) 74 34 0
theorem ca_ok {K : Nat} {tk : Bool} {v : Int32} {u : Mm} (hv : v = if tk = true then 1 else 0) (hK : K < 2147483648) (hk : kd K = 1) (hs : 136 ≤ sz K) (hz : sz K < 2147483648) (hc : ∀ q : Nat, q < 136 → (sp q).1 ≠ K) : Ok (gX11_carryAll K v u) (CI K tk (cst u K v) 136) := by
  have h : HK K tk (cst u K v) := ⟨hK, rfl, hv, hk, hz, hc⟩
  unfold gX11_carryAll gX11_carryAll_b
  rw [letv_eq, gd_t (by rw [hv]; cases tk; exact Or.inl rfl; exact Or.inr rfl), letv_eq, letv_eq]
  rw [ok_bind]
  refine (cf_ok h (by omega) (CI_0 rfl)).mono (fun u1 h1 => ?_)
  refine CI_b 74 11 h h1 (by decide) (by omega) rfl (fun u2 h2 => ?_)
  refine CI_b 74 18 h h2 (by decide) (by omega) rfl (fun u3 h3 => ?_)
  exact ca_loop h hs 8 0 FU u3 rfl (by decide) h3
