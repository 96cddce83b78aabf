/-! Calls: road, set, out. -/
theorem ixA : ∀ a : Nat, a < 8 → ∀ b : Nat, b < 8 → nI a * 8 + nI b = nI (8 * a + b) := by decide
theorem ixB : ∀ a : Nat, a < 8 → ∀ b : Nat, b < 8 → 8 * nI a + nI b = nI (8 * a + b) := by decide
theorem nI_inj8 : ∀ a : Nat, a < 8 → ∀ b : Nat, b < 8 → nI a = nI b → a = b := by decide
theorem ix64 {a b : Nat} (ha : a < 8) (hb : b < 8) : ix (nI (8 * a + b)) 64 := ix_nI (by omega) (by decide)
theorem ixn64 {a b : Nat} (ha : a < 8) (hb : b < 8) : ixn (nI (8 * a + b)) = 8 * a + b := ixn_nI (by omega)
/-- both sides of a road laid in a table -/
abbrev laid (u : Mm) (k i j : Nat) (v : Int32) : Mm := stm (stm u k i v) k j v
theorem lay_eq {a b k : Nat} {u : Mm} {v : Int32} (ha : a < 8) (hb : b < 8) : gX6_lay k (nI a) (nI b) v u = some (laid u (k + 1) (8 * a + b) (8 * b + a) v) := by
  have pa : 0 ≤ (nI a).toInt ∧ (nI a).toInt < 8 := by rw [t_nI (by omega)]; omega
  have pb : 0 ≤ (nI b).toInt ∧ (nI b).toInt < 8 := by rw [t_nI (by omega)]; omega
  simp only [gX6_lay, gX6_lay_b, isPlace_t pa, isPlace_t pb, ixA a ha b hb, ixA b hb a ha, gd_t (ix64 ha hb), gd_t (ix64 hb ha), ixn64 ha hb, ixn64 hb ha, letv_eq, bI_some, Option.bind_some, ↓reduceIte, one0]
theorem put_eq {a b : Nat} {u : Mm} {v : Int32} (ha : a < 8) (hb : b < 8) : gX11_putRoad (nI a) (nI b) v u = some (laid u 83 (8 * a + b) (8 * b + a) v) := by
  simp only [gX11_putRoad, gX11_putRoad_b, ixB a ha b hb, ixB b hb a ha, gd_t (ix64 ha hb), gd_t (ix64 hb ha), ixn64 ha hb, ixn64 hb ha, letv_eq, bI_some, Option.bind_some, ↓reduceIte, one0]
theorem betw_eq {a b k : Nat} {u : Mm} (ha : a < 8) (hb : b < 8) : gX6_between k (nI a) (nI b) u = some (u (k + 1) (8 * a + b)) := by
  have pa : 0 ≤ (nI a).toInt ∧ (nI a).toInt < 8 := by rw [t_nI (by omega)]; omega
  have pb : 0 ≤ (nI b).toInt ∧ (nI b).toInt < 8 := by rw [t_nI (by omega)]; omega
  simp only [gX6_between, gX6_between_b, isPlace_t pa, isPlace_t pb, ixA a ha b hb, gd_t (ix64 ha hb), ixn64 ha hb, letv_eq, bI_some, Option.bind_some, ↓reduceIte, one0]
theorem two_t {a b : Nat} (ha : a < 8) (hb : b < 8) (hn : a ≠ b) : gX10_areTwoPlaces (nI a) (nI b) = some 1 := by
  have pa : 0 ≤ (nI a).toInt ∧ (nI a).toInt < 8 := by rw [t_nI (by omega)]; omega
  have pb : 0 ≤ (nI b).toInt ∧ (nI b).toInt < 8 := by rw [t_nI (by omega)]; omega
  have hn' : (nI a = nI b) = False := eq_false (fun h => hn (nI_inj8 a ha b hb h))
  simp only [gX10_areTwoPlaces, gX10_areTwoPlaces_b, isPlace_t pa, isPlace_t pb, hn', letv_eq, bI_some, Option.bind_some, ↓reduceIte, one0]
theorem two_f {a b : Int32} (h : ¬ (0 ≤ a.toInt ∧ a.toInt < 8) ∨ ¬ (0 ≤ b.toInt ∧ b.toInt < 8) ∨ a = b) : gX10_areTwoPlaces a b = some 0 := by
  unfold gX10_areTwoPlaces gX10_areTwoPlaces_b
  by_cases pa : 0 ≤ a.toInt ∧ a.toInt < 8
  · by_cases pb : 0 ≤ b.toInt ∧ b.toInt < 8
    · have he : a = b := by rcases h with h | h | h; exact absurd pa h; exact absurd pb h; exact h
      simp only [isPlace_t pa, isPlace_t pb, eq_true he, letv_eq, bI_some, Option.bind_some, ↓reduceIte, one0]
    · simp only [isPlace_t pa, isPlace_f pb, letv_eq, bI_some, Option.bind_some, ↓reduceIte, one0]
  · simp only [isPlace_f pa, letv_eq, bI_some, Option.bind_some, ↓reduceIte, one0]
theorem place_f {v : Int32} (h : v.toInt < 0 ∨ (8 : Nat) ≤ v.toInt) : ¬ (0 ≤ v.toInt ∧ v.toInt < 8) := by omega
theorem laid_ok {A B : Nat → Int32} {p q : Nat} {v : Int32} (hp : p < 8) (hq : q < 8) (h : ∀ x, x < 64 → A x = B x ∧ 0 ≤ (A x).toInt ∧ (A x).toInt ≤ 99 ∧ A x = A (8 * (x % 8) + x / 8)) (hv : 0 ≤ v.toInt ∧ v.toInt ≤ 99) : ∀ x, x < 64 → (if x = 8 * q + p then v else if x = 8 * p + q then v else A x) = (if x = 8 * q + p then v else if x = 8 * p + q then v else B x) ∧ 0 ≤ (if x = 8 * q + p then v else if x = 8 * p + q then v else A x).toInt ∧ (if x = 8 * q + p then v else if x = 8 * p + q then v else A x).toInt ≤ 99 ∧ (if x = 8 * q + p then v else if x = 8 * p + q then v else A x) = (if 8 * (x % 8) + x / 8 = 8 * q + p then v else if 8 * (x % 8) + x / 8 = 8 * p + q then v else A (8 * (x % 8) + x / 8)) := by
  intro x hx
  by_cases h1 : x = 8 * q + p
  · rw [if_pos h1, if_pos h1]
    refine ⟨rfl, hv.1, hv.2, ?_⟩
    by_cases h3 : 8 * (x % 8) + x / 8 = 8 * q + p
    · rw [if_pos h3]
    · rw [if_neg h3, if_pos (by omega)]
  · rw [if_neg h1, if_neg h1]
    by_cases h2 : x = 8 * p + q
    · rw [if_pos h2, if_pos h2]
      exact ⟨rfl, hv.1, hv.2, by rw [if_pos (by omega)]⟩
    · rw [if_neg h2, if_neg h2, if_neg (by omega), if_neg (by omega)]; exact h x hx
theorem c_road (a b v : Int32) (u : Mm) (hR : R u) : Both (gX10_road a b v u) (gX11_road a b v) := by
  obtain ⟨c1, c2, c3, c4, c5, c6, c7, c8, c9⟩ := hR.wc
  rcases rng a 8 (by decide) with ⟨p, hp, rfl, hpi⟩ | ha
  · have pa : 0 ≤ (nI p).toInt ∧ (nI p).toInt < 8 := by omega
    rcases rng b 8 (by decide) with ⟨q, hq, rfl, hqi⟩ | hb
    · have pb : 0 ≤ (nI q).toInt ∧ (nI q).toInt < 8 := by omega
      by_cases hn : p = q
      · subst hn
        refine Both_ref (k := 1) (r := -1) hR ?_ ?_
        · simp only [gX10_road, gX10_road_b, two_f (Or.inr (Or.inr rfl)), rC1, letv_eq, bI_some, Option.bind_some, ↓reduceIte, one0]
        · simp only [gX11_road, gX11_road_b, gX11_road_34, gX11_road_35, mPlace_t pa, m1lt, rM1, letv_eq, bI_some, Option.bind_some, ↓reduceIte, one0]
      · have hn' : (nI p = nI q) = False := eq_false (fun h => hn (nI_inj8 p hp q hq h))
        by_cases hv1 : v.toInt < 0
        · refine Both_ref (k := 4) (r := -4) hR ?_ ?_
          · simp only [gX10_road, gX10_road_b, two_t hp hq hn, lt_t (b := 0) hv1, rC4, letv_eq, bI_some, Option.bind_some, ↓reduceIte, one0]
          · simp only [gX11_road, gX11_road_b, gX11_road_34, gX11_road_35, mPlace_t pa, mPlace_t pb, hn', wrongN, i0, hv1, m4lt, rM4, letv_eq, bI_some, Option.bind_some, ↓reduceIte, one0]
        · by_cases hv2 : 99 < v.toInt
          · refine Both_ref (k := 6) (r := -6) hR ?_ ?_
            · simp only [gX10_road, gX10_road_b, two_t hp hq hn, lt_f (b := 0) hv1, lt_t (a := 99) hv2, rC6, letv_eq, bI_some, Option.bind_some, ↓reduceIte, one0]
            · simp only [gX11_road, gX11_road_b, gX11_road_34, gX11_road_35, mPlace_t pa, mPlace_t pb, hn', wrongN, i0, i99, hv1, hv2, m6lt, rM6, letv_eq, bI_some, Option.bind_some, ↓reduceIte, one0]
          · refine ⟨u 13 (8 * p + q), stm (laid u 13 (8 * p + q) (8 * q + p) v) 41 0 0, stm (laid (thr (stm (laid u 13 (8 * p + q) (8 * q + p) v) 41 0 0)) 83 (8 * p + q) (8 * q + p) v) 74 40 0, ?_, ?_, ?_⟩
            · simp only [gX10_road, gX10_road_b, two_t hp hq hn, lt_f (b := 0) hv1, lt_f (a := 99) hv2, betw_eq hp hq, lay_eq hp hq, gX4_forget, gX4_forget_b, letv_eq, bI_some, Option.bind_some, ↓reduceIte, one0]
            · rw [(c8 _ (by omega)).1]
              simp only [gX11_road, gX11_road_b, gX11_road_34, gX11_road_35, mPlace_t pa, mPlace_t pb, hn', wrongN, i0, i99, hv1, hv2, z0lt, ixB p hp q hq, gd_t (ix64 hp hq), ixn64 hp hq, put_eq hp hq, letv_eq, bI_some, Option.bind_some, ↓reduceIte, one0]
              rfl
            · exact ⟨(WN_iff _).mpr ⟨c1, c2, c3, c4, c5, c6, c7, laid_ok hp hq c8 ⟨by omega, by omega⟩, c9⟩, hR.2.1, PR_forget hR.2.2.1 rfl rfl rfl, hR.2.2.2.1, hR.2.2.2.2.1, hR.2.2.2.2.2⟩
    · have pb := place_f hb
      refine Both_ref (k := 1) (r := -1) hR ?_ ?_
      · simp only [gX10_road, gX10_road_b, two_f (Or.inr (Or.inl pb)), rC1, letv_eq, bI_some, Option.bind_some, ↓reduceIte, one0]
      · simp only [gX11_road, gX11_road_b, gX11_road_34, gX11_road_35, mPlace_t pa, mPlace_f pb, m1lt, rM1, letv_eq, bI_some, Option.bind_some, ↓reduceIte, one0]
  · have pa := place_f ha
    refine Both_ref (k := 1) (r := -1) hR ?_ ?_
    · simp only [gX10_road, gX10_road_b, two_f (Or.inl pa), rC1, letv_eq, bI_some, Option.bind_some, ↓reduceIte, one0]
    · simp only [gX11_road, gX11_road_b, gX11_road_34, gX11_road_35, mPlace_f pa, m1lt, rM1, letv_eq, bI_some, Option.bind_some, ↓reduceIte, one0]
/-- the WORK forgotten -/
abbrev fgw (u : Mm) : Mm := stm (stm (stm (stm (stm (stm u 77 0 0) 77 1 0) 77 2 0) 77 3 0) 77 4 0) 77 5 0
theorem fgw_eq (u : Mm) : gX11_forgetWork u = some (fgw u) := rfl
theorem lagB_t {v : Int32} {u : Mm} (h : v = u 74 8) : gX11_lagBecomes v u = some (stm u 74 8 v) := by
  unfold gX11_lagBecomes gX11_lagBecomes_b
  rw [if_pos h]
  rfl
theorem lagB_f {v : Int32} {u : Mm} (h : ¬ v = u 74 8) : gX11_lagBecomes v u = some (stm (fgw u) 74 8 v) := by
  unfold gX11_lagBecomes gX11_lagBecomes_b
  rw [if_neg h]
  rfl
theorem UW_0 (a : Int32) {w : Nat → Int32} (h : ∀ j, j < 6 → w j = 0) : UW 0 a w := ⟨0, rfl, Nat.pow_pos (by decide), fun j hj => by rw [Nat.zero_div]; exact ⟨by decide, h j hj⟩⟩
theorem fgw_0 (u : Mm) : ∀ j, j < 6 → fgw u 77 j = 0 := by
  intro j hj
  have : j = 0 ∨ j = 1 ∨ j = 2 ∨ j = 3 ∨ j = 4 ∨ j = 5 := by omega
  rcases this with rfl | rfl | rfl | rfl | rfl | rfl <;> rfl
theorem ge4 {v : Int32} (h1 : ¬ v.toInt < 0) (h2 : ¬ 4 < v.toInt) : v = 0 ∨ v = 1 ∨ v = 2 ∨ v = 3 ∨ v = 4 := by
  simp only [t_eq, i0, i1, i2, i3, i4]; omega
theorem c_set0 (v : Int32) (u : Mm) (hR : R u) : Both (gX10_set 0 v u) (gX11_set 0 v) := by
  obtain ⟨c1, c2, c3, c4, c5, c6, c7, c8, c9⟩ := hR.wc
  have l0 : (0 : Int32) < 0 ↔ False := by decide
  have l4 : 4 < (0 : Int32) ↔ False := by decide
  have hin : gX11_in (0 : Int32).toInt64 0 4 = some 1 := in_t (by decide)
  by_cases hv1 : v.toInt < 0
  · have hv1' : v.toInt < (0 : Int32).toInt := hv1
    refine Both_ref (k := 4) (r := -4) hR ?_ ?_
    · simp only [gX10_set, gX10_set_b, gX10_set_9, gX2_leastOf, gX2_leastOf_b, gX2_mostOf, gX2_mostOf_b, gX2_valueOf, gX2_valueOf_b, gX2_change, gX2_change_b, gX4_forget, gX4_forget_b, l0, l4, ne_0_1, ne_0_2, ne_0_3, ne_0_4, lt_t hv1', rC4, letv_eq, bI_some, Option.bind_some, ↓reduceIte, one0]
    · simp only [gX11_set, gX11_set_b, gX11_set_35, gX11_set_59, gX11_set_68, gX11_set_102, gX11_set_119, gX11_set_136, gX11_set_153, gX11_set_166, gX11_settingOf, gX11_settingOf_b, ne_0_1, ne_0_2, ne_0_3, ne_0_4, hin, wrongN, hv1', m4lt, rM4, letv_eq, bI_some, Option.bind_some, ↓reduceIte, one0]
  · have hv1' : ¬ v.toInt < (0 : Int32).toInt := hv1
    by_cases hv2 : 39 < v.toInt
    · have hv2' : (39 : Int32).toInt < v.toInt := hv2
      refine Both_ref (k := 6) (r := -6) hR ?_ ?_
      · simp only [gX10_set, gX10_set_b, gX10_set_9, gX2_leastOf, gX2_leastOf_b, gX2_mostOf, gX2_mostOf_b, gX2_valueOf, gX2_valueOf_b, gX2_change, gX2_change_b, gX4_forget, gX4_forget_b, l0, l4, ne_0_1, ne_0_2, ne_0_3, ne_0_4, lt_f hv1', lt_t hv2', rC6, letv_eq, bI_some, Option.bind_some, ↓reduceIte, one0]
      · simp only [gX11_set, gX11_set_b, gX11_set_35, gX11_set_59, gX11_set_68, gX11_set_102, gX11_set_119, gX11_set_136, gX11_set_153, gX11_set_166, gX11_settingOf, gX11_settingOf_b, ne_0_1, ne_0_2, ne_0_3, ne_0_4, hin, wrongN, hv1', hv2', m6lt, rM6, letv_eq, bI_some, Option.bind_some, ↓reduceIte, one0]
    · have hv2' : ¬ (39 : Int32).toInt < v.toInt := hv2
      let u1 := stm (stm u 14 0 v) 41 0 0
      refine ⟨u 14 0, u1, ?u2, ?h1, ?h2, ?h3⟩
      case h2 =>
        rw [c1.1]
        simp only [gX11_set, gX11_set_b, gX11_set_35, gX11_set_59, gX11_set_68, gX11_set_102, gX11_set_119, gX11_set_136, gX11_set_153, gX11_set_166, gX11_settingOf, gX11_settingOf_b, ne_0_1, ne_0_2, ne_0_3, ne_0_4, hin, wrongN, hv1', hv2', z0lt, letv_eq, bI_some, Option.bind_some, ↓reduceIte, one0]
        rfl
      case h1 =>
        simp only [gX10_set, gX10_set_b, gX10_set_9, gX2_leastOf, gX2_leastOf_b, gX2_mostOf, gX2_mostOf_b, gX2_valueOf, gX2_valueOf_b, gX2_change, gX2_change_b, gX4_forget, gX4_forget_b, l0, l4, ne_0_1, ne_0_2, ne_0_3, ne_0_4, lt_f hv1', lt_f hv2', letv_eq, bI_some, Option.bind_some, ↓reduceIte, one0]
        rfl
      case h3 => exact ⟨(WN_iff _).mpr ⟨⟨rfl, c1.2.1, c1.2.2.1, c1.2.2.2.1, c1.2.2.2.2.1, c1.2.2.2.2.2.1, c1.2.2.2.2.2.2.1, c1.2.2.2.2.2.2.2⟩, ⟨⟨Int.not_lt.mp hv1, Int.not_lt.mp hv2⟩, c2.2.1, c2.2.2.1, c2.2.2.2.1, c2.2.2.2.2.1, c2.2.2.2.2.2.1, c2.2.2.2.2.2.2⟩, c3, c4, c5, c6, c7, c8, c9⟩, hR.2.1, PR_forget hR.2.2.1 rfl rfl rfl, hR.2.2.2.1, hR.2.2.2.2.1, hR.2.2.2.2.2⟩
theorem c_set1 (v : Int32) (u : Mm) (hR : R u) : Both (gX10_set 1 v u) (gX11_set 1 v) := by
  obtain ⟨c1, c2, c3, c4, c5, c6, c7, c8, c9⟩ := hR.wc
  have l0 : (1 : Int32) < 0 ↔ False := by decide
  have l4 : 4 < (1 : Int32) ↔ False := by decide
  have hin : gX11_in (1 : Int32).toInt64 0 4 = some 1 := in_t (by decide)
  by_cases hv1 : v.toInt < 0
  · have hv1' : v.toInt < (0 : Int32).toInt := hv1
    refine Both_ref (k := 4) (r := -4) hR ?_ ?_
    · simp only [gX10_set, gX10_set_b, gX10_set_9, gX2_leastOf, gX2_leastOf_b, gX2_mostOf, gX2_mostOf_b, gX2_valueOf, gX2_valueOf_b, gX2_change, gX2_change_b, gX4_forget, gX4_forget_b, l0, l4, ne_1_0, ne_1_2, ne_1_3, ne_1_4, lt_t hv1', rC4, letv_eq, bI_some, Option.bind_some, ↓reduceIte, one0]
    · simp only [gX11_set, gX11_set_b, gX11_set_35, gX11_set_59, gX11_set_68, gX11_set_102, gX11_set_119, gX11_set_136, gX11_set_153, gX11_set_166, gX11_settingOf, gX11_settingOf_b, ne_1_0, ne_1_2, ne_1_3, ne_1_4, hin, wrongN, hv1', m4lt, rM4, letv_eq, bI_some, Option.bind_some, ↓reduceIte, one0]
  · have hv1' : ¬ v.toInt < (0 : Int32).toInt := hv1
    by_cases hv2 : 60 < v.toInt
    · have hv2' : (60 : Int32).toInt < v.toInt := hv2
      refine Both_ref (k := 6) (r := -6) hR ?_ ?_
      · simp only [gX10_set, gX10_set_b, gX10_set_9, gX2_leastOf, gX2_leastOf_b, gX2_mostOf, gX2_mostOf_b, gX2_valueOf, gX2_valueOf_b, gX2_change, gX2_change_b, gX4_forget, gX4_forget_b, l0, l4, ne_1_0, ne_1_2, ne_1_3, ne_1_4, lt_f hv1', lt_t hv2', rC6, letv_eq, bI_some, Option.bind_some, ↓reduceIte, one0]
      · simp only [gX11_set, gX11_set_b, gX11_set_35, gX11_set_59, gX11_set_68, gX11_set_102, gX11_set_119, gX11_set_136, gX11_set_153, gX11_set_166, gX11_settingOf, gX11_settingOf_b, ne_1_0, ne_1_2, ne_1_3, ne_1_4, hin, wrongN, hv1', hv2', m6lt, rM6, letv_eq, bI_some, Option.bind_some, ↓reduceIte, one0]
    · have hv2' : ¬ (60 : Int32).toInt < v.toInt := hv2
      let u1 := stm (stm u 14 3 v) 41 0 0
      refine ⟨u 14 3, u1, ?u2, ?h1, ?h2, ?h3⟩
      case h2 =>
        rw [c1.2.2.2.1]
        simp only [gX11_set, gX11_set_b, gX11_set_35, gX11_set_59, gX11_set_68, gX11_set_102, gX11_set_119, gX11_set_136, gX11_set_153, gX11_set_166, gX11_settingOf, gX11_settingOf_b, ne_1_0, ne_1_2, ne_1_3, ne_1_4, hin, wrongN, hv1', hv2', z0lt, letv_eq, bI_some, Option.bind_some, ↓reduceIte, one0]
        rfl
      case h1 =>
        simp only [gX10_set, gX10_set_b, gX10_set_9, gX2_leastOf, gX2_leastOf_b, gX2_mostOf, gX2_mostOf_b, gX2_valueOf, gX2_valueOf_b, gX2_change, gX2_change_b, gX4_forget, gX4_forget_b, l0, l4, ne_1_0, ne_1_2, ne_1_3, ne_1_4, lt_f hv1', lt_f hv2', letv_eq, bI_some, Option.bind_some, ↓reduceIte, one0]
        rfl
      case h3 => exact ⟨(WN_iff _).mpr ⟨⟨c1.1, c1.2.1, c1.2.2.1, rfl, c1.2.2.2.2.1, c1.2.2.2.2.2.1, c1.2.2.2.2.2.2.1, c1.2.2.2.2.2.2.2⟩, ⟨c2.1, c2.2.1, c2.2.2.1, ⟨Int.not_lt.mp hv1, Int.not_lt.mp hv2⟩, c2.2.2.2.2.1, c2.2.2.2.2.2.1, c2.2.2.2.2.2.2⟩, c3, c4, c5, c6, c7, c8, c9⟩, hR.2.1, PR_forget hR.2.2.1 rfl rfl rfl, hR.2.2.2.1, hR.2.2.2.2.1, hR.2.2.2.2.2⟩
theorem c_set2 (v : Int32) (u : Mm) (hR : R u) : Both (gX10_set 2 v u) (gX11_set 2 v) := by
  obtain ⟨c1, c2, c3, c4, c5, c6, c7, c8, c9⟩ := hR.wc
  have l0 : (2 : Int32) < 0 ↔ False := by decide
  have l4 : 4 < (2 : Int32) ↔ False := by decide
  have hin : gX11_in (2 : Int32).toInt64 0 4 = some 1 := in_t (by decide)
  by_cases hv1 : v.toInt < 0
  · have hv1' : v.toInt < (0 : Int32).toInt := hv1
    refine Both_ref (k := 4) (r := -4) hR ?_ ?_
    · simp only [gX10_set, gX10_set_b, gX10_set_9, gX2_leastOf, gX2_leastOf_b, gX2_mostOf, gX2_mostOf_b, gX2_valueOf, gX2_valueOf_b, gX2_change, gX2_change_b, gX4_forget, gX4_forget_b, l0, l4, ne_2_0, ne_2_1, ne_2_3, ne_2_4, lt_t hv1', rC4, letv_eq, bI_some, Option.bind_some, ↓reduceIte, one0]
    · simp only [gX11_set, gX11_set_b, gX11_set_35, gX11_set_59, gX11_set_68, gX11_set_102, gX11_set_119, gX11_set_136, gX11_set_153, gX11_set_166, gX11_settingOf, gX11_settingOf_b, ne_2_0, ne_2_1, ne_2_3, ne_2_4, hin, wrongN, hv1', m4lt, rM4, letv_eq, bI_some, Option.bind_some, ↓reduceIte, one0]
  · have hv1' : ¬ v.toInt < (0 : Int32).toInt := hv1
    by_cases hv2 : 60 < v.toInt
    · have hv2' : (60 : Int32).toInt < v.toInt := hv2
      refine Both_ref (k := 6) (r := -6) hR ?_ ?_
      · simp only [gX10_set, gX10_set_b, gX10_set_9, gX2_leastOf, gX2_leastOf_b, gX2_mostOf, gX2_mostOf_b, gX2_valueOf, gX2_valueOf_b, gX2_change, gX2_change_b, gX4_forget, gX4_forget_b, l0, l4, ne_2_0, ne_2_1, ne_2_3, ne_2_4, lt_f hv1', lt_t hv2', rC6, letv_eq, bI_some, Option.bind_some, ↓reduceIte, one0]
      · simp only [gX11_set, gX11_set_b, gX11_set_35, gX11_set_59, gX11_set_68, gX11_set_102, gX11_set_119, gX11_set_136, gX11_set_153, gX11_set_166, gX11_settingOf, gX11_settingOf_b, ne_2_0, ne_2_1, ne_2_3, ne_2_4, hin, wrongN, hv1', hv2', m6lt, rM6, letv_eq, bI_some, Option.bind_some, ↓reduceIte, one0]
    · have hv2' : ¬ (60 : Int32).toInt < v.toInt := hv2
      let u1 := stm (stm u 14 4 v) 41 0 0
      refine ⟨u 14 4, u1, ?u2, ?h1, ?h2, ?h3⟩
      case h2 =>
        rw [c1.2.2.2.2.1]
        simp only [gX11_set, gX11_set_b, gX11_set_35, gX11_set_59, gX11_set_68, gX11_set_102, gX11_set_119, gX11_set_136, gX11_set_153, gX11_set_166, gX11_settingOf, gX11_settingOf_b, ne_2_0, ne_2_1, ne_2_3, ne_2_4, hin, wrongN, hv1', hv2', z0lt, letv_eq, bI_some, Option.bind_some, ↓reduceIte, one0]
        rfl
      case h1 =>
        simp only [gX10_set, gX10_set_b, gX10_set_9, gX2_leastOf, gX2_leastOf_b, gX2_mostOf, gX2_mostOf_b, gX2_valueOf, gX2_valueOf_b, gX2_change, gX2_change_b, gX4_forget, gX4_forget_b, l0, l4, ne_2_0, ne_2_1, ne_2_3, ne_2_4, lt_f hv1', lt_f hv2', letv_eq, bI_some, Option.bind_some, ↓reduceIte, one0]
        rfl
      case h3 => exact ⟨(WN_iff _).mpr ⟨⟨c1.1, c1.2.1, c1.2.2.1, c1.2.2.2.1, rfl, c1.2.2.2.2.2.1, c1.2.2.2.2.2.2.1, c1.2.2.2.2.2.2.2⟩, ⟨c2.1, c2.2.1, c2.2.2.1, c2.2.2.2.1, ⟨Int.not_lt.mp hv1, Int.not_lt.mp hv2⟩, c2.2.2.2.2.2.1, c2.2.2.2.2.2.2⟩, c3, c4, c5, c6, c7, c8, c9⟩, hR.2.1, PR_forget hR.2.2.1 rfl rfl rfl, hR.2.2.2.1, hR.2.2.2.2.1, hR.2.2.2.2.2⟩
theorem c_set3 (v : Int32) (u : Mm) (hR : R u) : Both (gX10_set 3 v u) (gX11_set 3 v) := by
  obtain ⟨c1, c2, c3, c4, c5, c6, c7, c8, c9⟩ := hR.wc
  have l0 : (3 : Int32) < 0 ↔ False := by decide
  have l4 : 4 < (3 : Int32) ↔ False := by decide
  have hin : gX11_in (3 : Int32).toInt64 0 4 = some 1 := in_t (by decide)
  by_cases hv1 : v.toInt < 1
  · have hv1' : v.toInt < (1 : Int32).toInt := hv1
    refine Both_ref (k := 4) (r := -4) hR ?_ ?_
    · simp only [gX10_set, gX10_set_b, gX10_set_9, gX2_leastOf, gX2_leastOf_b, gX2_mostOf, gX2_mostOf_b, gX2_valueOf, gX2_valueOf_b, gX2_change, gX2_change_b, gX4_forget, gX4_forget_b, l0, l4, ne_3_0, ne_3_1, ne_3_2, ne_3_4, lt_t hv1', rC4, letv_eq, bI_some, Option.bind_some, ↓reduceIte, one0]
    · simp only [gX11_set, gX11_set_b, gX11_set_35, gX11_set_59, gX11_set_68, gX11_set_102, gX11_set_119, gX11_set_136, gX11_set_153, gX11_set_166, gX11_settingOf, gX11_settingOf_b, ne_3_0, ne_3_1, ne_3_2, ne_3_4, hin, wrongN, hv1', m4lt, rM4, letv_eq, bI_some, Option.bind_some, ↓reduceIte, one0]
  · have hv1' : ¬ v.toInt < (1 : Int32).toInt := hv1
    by_cases hv2 : 6 < v.toInt
    · have hv2' : (6 : Int32).toInt < v.toInt := hv2
      refine Both_ref (k := 6) (r := -6) hR ?_ ?_
      · simp only [gX10_set, gX10_set_b, gX10_set_9, gX2_leastOf, gX2_leastOf_b, gX2_mostOf, gX2_mostOf_b, gX2_valueOf, gX2_valueOf_b, gX2_change, gX2_change_b, gX4_forget, gX4_forget_b, l0, l4, ne_3_0, ne_3_1, ne_3_2, ne_3_4, lt_f hv1', lt_t hv2', rC6, letv_eq, bI_some, Option.bind_some, ↓reduceIte, one0]
      · simp only [gX11_set, gX11_set_b, gX11_set_35, gX11_set_59, gX11_set_68, gX11_set_102, gX11_set_119, gX11_set_136, gX11_set_153, gX11_set_166, gX11_settingOf, gX11_settingOf_b, ne_3_0, ne_3_1, ne_3_2, ne_3_4, hin, wrongN, hv1', hv2', m6lt, rM6, letv_eq, bI_some, Option.bind_some, ↓reduceIte, one0]
    · have hv2' : ¬ (6 : Int32).toInt < v.toInt := hv2
      let u1 := stm (stm u 14 5 v) 41 0 0
      refine ⟨u 14 5, u1, ?u2, ?h1, ?h2, ?h3⟩
      case h2 =>
        rw [c1.2.2.2.2.2.1]
        simp only [gX11_set, gX11_set_b, gX11_set_35, gX11_set_59, gX11_set_68, gX11_set_102, gX11_set_119, gX11_set_136, gX11_set_153, gX11_set_166, gX11_settingOf, gX11_settingOf_b, ne_3_0, ne_3_1, ne_3_2, ne_3_4, hin, wrongN, hv1', hv2', z0lt, letv_eq, bI_some, Option.bind_some, ↓reduceIte, one0]
        rfl
      case h1 =>
        simp only [gX10_set, gX10_set_b, gX10_set_9, gX2_leastOf, gX2_leastOf_b, gX2_mostOf, gX2_mostOf_b, gX2_valueOf, gX2_valueOf_b, gX2_change, gX2_change_b, gX4_forget, gX4_forget_b, l0, l4, ne_3_0, ne_3_1, ne_3_2, ne_3_4, lt_f hv1', lt_f hv2', letv_eq, bI_some, Option.bind_some, ↓reduceIte, one0]
        rfl
      case h3 => exact ⟨(WN_iff _).mpr ⟨⟨c1.1, c1.2.1, c1.2.2.1, c1.2.2.2.1, c1.2.2.2.2.1, rfl, c1.2.2.2.2.2.2.1, c1.2.2.2.2.2.2.2⟩, ⟨c2.1, c2.2.1, c2.2.2.1, c2.2.2.2.1, c2.2.2.2.2.1, ⟨Int.not_lt.mp hv1, Int.not_lt.mp hv2⟩, c2.2.2.2.2.2.2⟩, c3, c4, c5, c6, c7, c8, c9⟩, hR.2.1, PR_forget hR.2.2.1 rfl rfl rfl, hR.2.2.2.1, hR.2.2.2.2.1, hR.2.2.2.2.2⟩
theorem c_set4 (v : Int32) (u : Mm) (hR : R u) : Both (gX10_set 4 v u) (gX11_set 4 v) := by
  obtain ⟨c1, c2, c3, c4, c5, c6, c7, c8, c9⟩ := hR.wc
  have l0 : (4 : Int32) < 0 ↔ False := by decide
  have l4 : 4 < (4 : Int32) ↔ False := by decide
  have hin : gX11_in (4 : Int32).toInt64 0 4 = some 1 := in_t (by decide)
  by_cases hv1 : v.toInt < 0
  · have hv1' : v.toInt < (0 : Int32).toInt := hv1
    refine Both_ref (k := 4) (r := -4) hR ?_ ?_
    · simp only [gX10_set, gX10_set_b, gX10_set_9, gX2_leastOf, gX2_leastOf_b, gX2_mostOf, gX2_mostOf_b, gX2_valueOf, gX2_valueOf_b, gX2_change, gX2_change_b, gX4_forget, gX4_forget_b, l0, l4, ne_4_0, ne_4_1, ne_4_2, ne_4_3, lt_t hv1', rC4, letv_eq, bI_some, Option.bind_some, ↓reduceIte, one0]
    · simp only [gX11_set, gX11_set_b, gX11_set_35, gX11_set_59, gX11_set_68, gX11_set_102, gX11_set_119, gX11_set_136, gX11_set_153, gX11_set_166, gX11_settingOf, gX11_settingOf_b, ne_4_0, ne_4_1, ne_4_2, ne_4_3, hin, wrongN, hv1', m4lt, rM4, letv_eq, bI_some, Option.bind_some, ↓reduceIte, one0]
  · have hv1' : ¬ v.toInt < (0 : Int32).toInt := hv1
    by_cases hv2 : 5 < v.toInt
    · have hv2' : (5 : Int32).toInt < v.toInt := hv2
      refine Both_ref (k := 6) (r := -6) hR ?_ ?_
      · simp only [gX10_set, gX10_set_b, gX10_set_9, gX2_leastOf, gX2_leastOf_b, gX2_mostOf, gX2_mostOf_b, gX2_valueOf, gX2_valueOf_b, gX2_change, gX2_change_b, gX4_forget, gX4_forget_b, l0, l4, ne_4_0, ne_4_1, ne_4_2, ne_4_3, lt_f hv1', lt_t hv2', rC6, letv_eq, bI_some, Option.bind_some, ↓reduceIte, one0]
      · simp only [gX11_set, gX11_set_b, gX11_set_35, gX11_set_59, gX11_set_68, gX11_set_102, gX11_set_119, gX11_set_136, gX11_set_153, gX11_set_166, gX11_settingOf, gX11_settingOf_b, ne_4_0, ne_4_1, ne_4_2, ne_4_3, hin, wrongN, hv1', hv2', m6lt, rM6, letv_eq, bI_some, Option.bind_some, ↓reduceIte, one0]
    · have hv2' : ¬ (5 : Int32).toInt < v.toInt := hv2
      by_cases he : v = u 14 6
      · have he2 : (v = u 74 8) = True := eq_true (by rw [← c1.2.2.2.2.2.2.1]; exact he)
        have he3 : (v = u 14 6) = True := eq_true he
        let u1 := stm (stm u 14 6 v) 41 0 0
        refine ⟨u 14 6, u1, ?u2a, ?h1a, ?h2a, ?h3a⟩
        case h2a =>
          rw [c1.2.2.2.2.2.2.1]
          simp only [gX11_set, gX11_set_b, gX11_set_35, gX11_set_59, gX11_set_68, gX11_set_102, gX11_set_119, gX11_set_136, gX11_set_153, gX11_set_166, gX11_settingOf, gX11_settingOf_b, ne_4_0, ne_4_1, ne_4_2, ne_4_3, hin, wrongN, hv1', hv2', z0lt, letv_eq, bI_some, Option.bind_some, ↓reduceIte, one0]
          rw [lagB_t, Option.bind_some]
          rfl
          exact of_eq_true he2
        case h1a =>
          simp only [gX10_set, gX10_set_b, gX10_set_9, gX2_leastOf, gX2_leastOf_b, gX2_mostOf, gX2_mostOf_b, gX2_valueOf, gX2_valueOf_b, gX2_change, gX2_change_b, gX4_forget, gX4_forget_b, gX2_changeLag, gX2_changeLag_b, gX2_loseWork, gX2_loseWork_b, he3, l0, l4, ne_4_0, ne_4_1, ne_4_2, ne_4_3, lt_f hv1', lt_f hv2', letv_eq, bI_some, Option.bind_some, ↓reduceIte, one0]
          rfl
        case h3a => exact ⟨(WN_iff _).mpr ⟨⟨c1.1, c1.2.1, c1.2.2.1, c1.2.2.2.1, c1.2.2.2.2.1, c1.2.2.2.2.2.1, rfl, c1.2.2.2.2.2.2.2⟩, ⟨c2.1, c2.2.1, c2.2.2.1, c2.2.2.2.1, c2.2.2.2.2.1, c2.2.2.2.2.2.1, ⟨Int.not_lt.mp hv1, Int.not_lt.mp hv2⟩⟩, (he ▸ c3 : UW (u 14 9) v (u 77)), c4, c5, c6, c7, c8, c9⟩, hR.2.1, PR_forget hR.2.2.1 rfl rfl rfl, hR.2.2.2.1, hR.2.2.2.2.1, hR.2.2.2.2.2⟩
      · have he2 : (v = u 74 8) = False := eq_false (by rw [← c1.2.2.2.2.2.2.1]; exact he)
        have he3 : (v = u 14 6) = False := eq_false he
        let u1 := stm (stm (stm u 14 9 0) 14 6 v) 41 0 0
        refine ⟨u 14 6, u1, ?u2b, ?h1b, ?h2b, ?h3b⟩
        case h2b =>
          rw [c1.2.2.2.2.2.2.1]
          simp only [gX11_set, gX11_set_b, gX11_set_35, gX11_set_59, gX11_set_68, gX11_set_102, gX11_set_119, gX11_set_136, gX11_set_153, gX11_set_166, gX11_settingOf, gX11_settingOf_b, ne_4_0, ne_4_1, ne_4_2, ne_4_3, hin, wrongN, hv1', hv2', z0lt, letv_eq, bI_some, Option.bind_some, ↓reduceIte, one0]
          rw [lagB_f, Option.bind_some]
          rfl
          exact of_eq_false he2
        case h1b =>
          simp only [gX10_set, gX10_set_b, gX10_set_9, gX2_leastOf, gX2_leastOf_b, gX2_mostOf, gX2_mostOf_b, gX2_valueOf, gX2_valueOf_b, gX2_change, gX2_change_b, gX4_forget, gX4_forget_b, gX2_changeLag, gX2_changeLag_b, gX2_loseWork, gX2_loseWork_b, he3, l0, l4, ne_4_0, ne_4_1, ne_4_2, ne_4_3, lt_f hv1', lt_f hv2', letv_eq, bI_some, Option.bind_some, ↓reduceIte, one0]
          rfl
        case h3b => exact ⟨(WN_iff _).mpr ⟨⟨c1.1, c1.2.1, c1.2.2.1, c1.2.2.2.1, c1.2.2.2.2.1, c1.2.2.2.2.2.1, rfl, c1.2.2.2.2.2.2.2⟩, ⟨c2.1, c2.2.1, c2.2.2.1, c2.2.2.2.1, c2.2.2.2.2.1, c2.2.2.2.2.2.1, ⟨Int.not_lt.mp hv1, Int.not_lt.mp hv2⟩⟩, (UW_0 v (fgw_0 u) : UW 0 v (fgw u 77)), c4, c5, c6, c7, c8, c9⟩, hR.2.1, PR_forget hR.2.2.1 rfl rfl rfl, hR.2.2.2.1, hR.2.2.2.2.1, hR.2.2.2.2.2⟩
theorem c_set (a v : Int32) (u : Mm) (hR : R u) : Both (gX10_set a v u) (gX11_set a v) := by
  by_cases h : 0 ≤ a.toInt ∧ a.toInt ≤ 4
  · rcases ge4 (v := a) (by omega) (by omega) with rfl | rfl | rfl | rfl | rfl
    · exact c_set0 v u hR
    · exact c_set1 v u hR
    · exact c_set2 v u hR
    · exact c_set3 v u hR
    · exact c_set4 v u hR
  · have hin : gX11_in a.toInt64 0 4 = some 0 := in_f (a := 0) (b := 4) h
    have n0 : (a = 0) = False := eq_false (fun e => h (by rw [e]; decide))
    have n3 : (a = 3) = False := eq_false (fun e => h (by rw [e]; decide))
    have n4 : (a = 4) = False := eq_false (fun e => h (by rw [e]; decide))
    refine Both_ref (k := 2) (r := -2) hR ?_ ?_
    · by_cases h0 : a.toInt < 0
      · simp only [gX10_set, gX10_set_b, gX10_set_9, lt_t (b := 0) h0, rC2, letv_eq, bI_some, Option.bind_some, ↓reduceIte, one0]
      · simp only [gX10_set, gX10_set_b, gX10_set_9, lt_f (b := 0) h0, lt_t (a := 4) (b := a) (by rw [i4]; omega), rC2, letv_eq, bI_some, Option.bind_some, ↓reduceIte, one0]
    · simp only [gX11_set, gX11_set_b, gX11_set_35, gX11_set_68, n0, n3, n4, hin, m2lt, rM2, letv_eq, bI_some, Option.bind_some, ↓reduceIte, one0]
