/-! The letters told: wind, field, acts. -/
theorem st_119 {uc w : Mm} {x : Nat → Int32} {n i p e : Nat} (hL : Lt uc x n) (hp : p ≤ 96) (hi : i < 49) (c : x p = 119) (ok : (EN x p).2 = true) (h87 : w 87 i = x p) (hV : VAL x w i p) (hD : WD uc w) : ST uc w i p e := by
  rw [EN_119 c] at ok
  obtain ⟨d1, d3⟩ : dgB (x (p + 1)) = true ∧ ∀ j, j < 2 → dgB (x (p + 3 + j)) = true := by
    unfold enW at ok
    by_cases c1 : dgB (x (p + 1)) = true
    · rw [if_pos c1] at ok
      by_cases c2 : x (p + 2) = 43 ∨ x (p + 2) = 45
      · rw [if_pos c2] at ok
        exact ⟨c1, dgs ok⟩
      · rw [if_neg c2] at ok
        cases ok
    · rw [if_neg c1] at ok
      cases ok
  have bA : 0 ≤ (numI x (p + 1) 1).toInt ∧ (numI x (p + 1) 1).toInt < 10 ^ 1 := num_bd 1 (by decide) (fun j hj => by rw [show j = 0 by omega]; exact d1)
  obtain ⟨v1, v2, v3⟩ := hV.2.2.2.2.2.1 c
  have q1 : gX5_number (nI (p + 1)) 1 uc = some (numI x (p + 1) 1) := num_C (m := 1) hL (by omega)
  have q2 : gX5_number (nI (p + 3)) 1 uc = some (numI x (p + 3) 1) := num_C (m := 1) hL (by omega)
  have q3 : gX5_number (nI (p + 4)) 1 uc = some (numI x (p + 4) 1) := num_C (m := 1) hL (by omega)
  generalize numI x (p + 1) 1 = A at *
  generalize numI x (p + 3) 1 = S at *
  generalize numI x (p + 4) 1 = W at *
  have n1 : nI p + 1 = nI (p + 1) := nI_s (by omega)
  have n2 : nI p + 2 = nI (p + 2) := nI_a (b := 2) (by omega)
  have n3 : nI p + 3 = nI (p + 3) := nI_a (b := 3) (by omega)
  have n4 : nI p + 4 = nI (p + 4) := nI_a (b := 4) (by omega)
  have m1 : nI (9 * i) + 1 = nI (9 * i + 1) := nI_s (by omega)
  have m2 : nI (9 * i) + 2 = nI (9 * i + 2) := nI_a (b := 2) (by omega)
  have tl : gX5_tellStatement (nI p) (nI e) 15 uc = bI (gX5_tellWind (nI p) 16 uc) fun r4 u3 => gd (r4 = 0 ∨ r4 = 1) (some (r4, u3)) := by
    unfold gX5_tellStatement gX5_tellStatement_b
    rw [at52 hL (by omega), Option.bind_some, c, if_neg (by decide), if_neg (by decide), if_neg (by decide), if_neg (by decide), if_neg (by decide), if_pos rfl]
  have cm : gX11_comes (nI i) w = if A < 8 then gX11_comes_72 (nI (9 * i)) 1 w else gX11_comes_72 (nI (9 * i)) 0 w := by
    unfold gX11_comes gX11_comes_b
    rw [letv_eq, gd_t (ix_nI hi (by decide)), ixn_nI (by omega), h87, c, if_neg (by decide), if_neg (by decide), if_neg (by decide), if_pos rfl, e9_i hi, gd_t (ix_nI (by omega) (by decide)), ixn_nI (by omega), v1]
  unfold ST
  rw [tl, cm]
  unfold gX5_tellWind gX5_tellWind_b
  rw [n1, n2, n3, q1, q2, Option.bind_some, Option.bind_some, at52 hL (by omega), Option.bind_some]
  by_cases h1 : A < 8
  · rw [if_pos h1]
    rw [t_lt, i8] at h1
    obtain ⟨a, rfl, ha⟩ := nI_upto (a := A) (N := 7) bA.1 (by omega)
    have ha8 : a < 8 := by omega
    rw [isLayer_t ⟨bA.1, h1⟩, Option.bind_some, if_neg (by decide)]
    have go : ∀ s : Int32, gX5_tellWind_53 16 (nI p) s (nI a) uc = some (1, stm (stm uc 17 a s) 18 a W) := by
      intro s
      unfold gX5_tellWind_53
      rw [n4, q3, Option.bind_some, blow_eq ha8]
      rfl
    refine ⟨1, stm (stm uc 17 a (if x (p + 2) = 45 then -S else S)) 18 a W, ?_, Or.inr rfl, fun c hc => by rw [stm_c (by omega), stm_c (by omega)], ?_⟩
    · by_cases c45 : x (p + 2) = 45
      · rw [if_pos c45, if_pos c45, go]
        rfl
      · rw [if_neg c45, if_neg c45, go]
        rfl
    · unfold gX11_comes_72
      rw [if_neg (by decide), m1, m2, gd_t (ix_nI (by omega) (by decide)), gd_t (ix_nI (by omega) (by decide)), ixn_nI (by omega), v1, gd_t (ix_nI ha8 (by decide)), letv_eq, gd_t (ix_nI (by omega) (by decide)), gd_t (ix_nI (by omega) (by decide)), ixn_nI (by omega), ixn_nI (by omega), ixn_nI (by omega), v2]
      have f1 : stm w 75 a (if x (p + 2) = 45 then -S else S) 88 (9 * i) = nI a := v1
      have f2 : stm w 75 a (if x (p + 2) = 45 then -S else S) 88 (9 * i + 2) = W := v3
      rw [f1, f2, gd_t (ix_nI ha8 (by decide)), letv_eq, gd_t (Or.inr rfl), ixn_nI (by omega)]
      refine ok_some.mpr ⟨rfl, (FrC.sc (by decide)).tr (FrC.sc (by decide)), fun _ => ⟨hD.1.keep rfl ⟨rfl, rfl, rfl, rfl, rfl, rfl, rfl, rfl⟩ rfl, fun j hj => ?_, hD.2.2.1.keep rfl rfl rfl rfl rfl rfl rfl rfl rfl rfl rfl rfl, hD.2.2.2.keep rfl rfl rfl rfl⟩⟩
      have hj0 := hD.2.1 j hj
      show stm (stm uc 17 a _) 18 a W 17 j = stm (stm w 75 a _) 76 a W 75 j ∧ stm (stm uc 17 a _) 18 a W 18 j = stm (stm w 75 a _) 76 a W 76 j
      rw [stm_c (by decide), stm_c (show (75 : Nat) ≠ 76 by decide)]
      by_cases ej : j = a
      · rw [ej, stm_r, stm_r, stm_r, stm_r]
        exact ⟨rfl, rfl⟩
      · rw [stm_s ej, stm_s ej, stm_s ej, stm_s ej, stm_c (by decide), stm_c (by decide)]
        exact hj0
  · rw [if_neg h1]
    rw [t_lt, i8] at h1
    rw [isLayer_f (by omega), Option.bind_some, if_pos rfl]
    unfold gX11_comes_72
    rw [if_pos rfl, gd_t (Or.inl rfl)]
    exact ⟨0, uc, rfl, Or.inl rfl, fun _ _ => rfl, ok_some.mpr ⟨rfl, FrC.rf w, fun h => absurd h (by decide)⟩⟩
def ad5 (u : Mm) (c k : Nat) (a b d e f : Int32) : Mm := stm (stm (stm (stm (stm u c k a) (c + 1) k b) (c + 2) k d) (c + 3) k e) (c + 4) k f
theorem add_k {uc : Mm} {k : Nat} {a b d e f : Int32} (h : uc 19 0 = nI k) (hk : k < 8) : gX1_add 19 a b d e f uc = some (stm (ad5 uc 20 k a b d e f) 19 0 (nI (k + 1))) := by
  unfold gX1_add gX1_add_b ad5
  have m : ∀ c v, c ≠ 19 → ∀ y : Mm, y 19 0 = nI k → stm y c k v 19 0 = nI k := fun c v hc y hy => (congrFun (stm_c (fun h => hc h.symm)) 0).trans hy
  have y1 := m 20 a (by decide) uc h
  have y2 := m 21 b (by decide) _ y1
  have y3 := m 22 d (by decide) _ y2
  have y4 := m 23 e (by decide) _ y3
  have y5 := m 24 f (by decide) _ y4
  rw [h, if_neg (nI_pos (by omega)), if_pos (lt8 hk), gd_t (ix_nI hk (by decide)), ixn_nI (by omega), letv_eq, y1, gd_t (ix_nI hk (by decide)), ixn_nI (by omega), letv_eq, y2, gd_t (ix_nI hk (by decide)), ixn_nI (by omega), letv_eq, y3, gd_t (ix_nI hk (by decide)), ixn_nI (by omega), letv_eq, y4, gd_t (ix_nI hk (by decide)), ixn_nI (by omega), letv_eq, y5, letv_eq, nI_s (by omega)]
theorem st_102 {uc w : Mm} {x : Nat → Int32} {n i p e : Nat} (hL : Lt uc x n) (hp : p ≤ 96) (hi : i < 49) (c : x p = 102) (ok : (EN x p).2 = true) (h87 : w 87 i = x p) (hV : VAL x w i p) (hD : WD uc w) : ST uc w i p e := by
  rw [EN_102 c] at ok
  have hd := dgs ok
  have bA := num2 1 0 (by decide) (by decide) hd
  have bF := num2 1 1 (by decide) (by decide) hd
  have bS := num2 3 2 (by decide) (by decide) hd
  have bN := num2 3 5 (by decide) (by decide) hd
  have bZ := num2 2 8 (by decide) (by decide) hd
  obtain ⟨v1, v2, v3, v4, v5⟩ := hV.2.1 c
  have q1 : gX5_number (nI (p + 1)) 1 uc = some (numI x (p + 1) 1) := num_C (m := 1) hL (by omega)
  have q2 : gX5_number (nI (p + 2)) 1 uc = some (numI x (p + 2) 1) := num_C (m := 1) hL (by omega)
  have q3 : gX5_number (nI (p + 3)) 3 uc = some (numI x (p + 3) 3) := num_C (m := 3) hL (by omega)
  have q4 : gX5_number (nI (p + 6)) 3 uc = some (numI x (p + 6) 3) := num_C (m := 3) hL (by omega)
  have q5 : gX5_number (nI (p + 9)) 2 uc = some (numI x (p + 9) 2) := num_C (m := 2) hL (by omega)
  change 0 ≤ (numI x (p + 1) 1).toInt ∧ (numI x (p + 1) 1).toInt < 10 ^ 1 at bA
  change 0 ≤ (numI x (p + 2) 1).toInt ∧ (numI x (p + 2) 1).toInt < 10 ^ 1 at bF
  change 0 ≤ (numI x (p + 3) 3).toInt ∧ (numI x (p + 3) 3).toInt < 10 ^ 3 at bS
  change 0 ≤ (numI x (p + 6) 3).toInt ∧ (numI x (p + 6) 3).toInt < 10 ^ 3 at bN
  change 0 ≤ (numI x (p + 9) 2).toInt ∧ (numI x (p + 9) 2).toInt < 10 ^ 2 at bZ
  generalize numI x (p + 1) 1 = A at *
  generalize numI x (p + 2) 1 = F at *
  generalize numI x (p + 3) 3 = S at *
  generalize numI x (p + 6) 3 = N at *
  generalize numI x (p + 9) 2 = Z at *
  have n1 : nI p + 1 = nI (p + 1) := nI_s (by omega)
  have n2 : nI p + 2 = nI (p + 2) := nI_a (b := 2) (by omega)
  have n3 : nI p + 3 = nI (p + 3) := nI_a (b := 3) (by omega)
  have n6 : nI p + 6 = nI (p + 6) := nI_a (b := 6) (by omega)
  have n9 : nI p + 9 = nI (p + 9) := nI_a (b := 9) (by omega)
  have m1 : nI (9 * i) + 1 = nI (9 * i + 1) := nI_s (by omega)
  have m2 : nI (9 * i) + 2 = nI (9 * i + 2) := nI_a (b := 2) (by omega)
  have m3 : nI (9 * i) + 3 = nI (9 * i + 3) := nI_a (b := 3) (by omega)
  have m4 : nI (9 * i) + 4 = nI (9 * i + 4) := nI_a (b := 4) (by omega)
  obtain ⟨k0, ⟨k1, k2⟩, k3, k4⟩ := hD.2.2.1
  obtain ⟨k, ek, hk⟩ := nI_upto (a := uc 19 0) (N := 8) k1 k2
  have tl : gX5_tellStatement (nI p) (nI e) 15 uc = bI (gX5_tellField (nI p) 19 uc) fun r4 u3 => gd (r4 = 0 ∨ r4 = 1) (some (r4, u3)) := by
    unfold gX5_tellStatement gX5_tellStatement_b
    rw [at52 hL (by omega), Option.bind_some, c, if_neg (by decide), if_pos rfl]
  have cm : gX11_comes (nI i) w = bI (gX11_fieldComes (nI (9 * i)) w) fun r9 u8 => gd (r9 = 0 ∨ r9 = 1) (some (r9, u8)) := by
    unfold gX11_comes gX11_comes_b
    rw [letv_eq, gd_t (ix_nI hi (by decide)), ixn_nI (by omega), h87, c, if_neg (by decide), if_pos rfl, e9_i hi]
  have fe : gX11_fieldComes (nI (9 * i)) w = if A < 6 then (gX11_in Z.toInt64 1 30).bind fun r4 => if r4 = 0 then gX11_fieldComes_43 (nI (9 * i)) w else if nI k < 8 then gX11_fieldComes_44 (nI (9 * i)) 1 w else gX11_fieldComes_43 (nI (9 * i)) w else gX11_fieldComes_43 (nI (9 * i)) w := by
    unfold gX11_fieldComes gX11_fieldComes_b
    rw [m4, gd_t (ix_nI (by omega) (by decide)), gd_t (ix_nI (by omega) (by decide)), ixn_nI (by omega), ixn_nI (by omega), v1, v5, ← k0, ek]
  have no : Ok (bI (gX11_fieldComes_43 (nI (9 * i)) w) fun r25 u24 => gd (r25 = 0 ∨ r25 = 1) (some (r25, u24))) (fun q => q.1 = 0 ∧ FrC w q.2 ∧ ((0 : Int32) = 1 → WD uc q.2)) := by
    unfold gX11_fieldComes_43 gX11_fieldComes_44
    rw [if_pos rfl, gd_t (Or.inl rfl)]
    exact ok_some.mpr ⟨rfl, FrC.rf w, fun h => absurd h (by decide)⟩
  unfold ST
  rw [tl, cm, fe]
  unfold gX5_tellField gX5_tellField_b
  rw [n1, n2, n3, n6, n9, q1, q5, Option.bind_some, Option.bind_some]
  by_cases h1 : A < 6
  · rw [if_pos h1]
    rw [t_lt, i6] at h1
    rw [if_neg (fun h => by rw [t_lt, i5] at h; omega)]
    by_cases h2 : 1 ≤ Z.toInt ∧ Z.toInt ≤ 30
    · rw [in_t (a := 1) (b := 30) h2, Option.bind_some, if_neg (show ¬ Z < 1 from fun h => by rw [t_lt, i1] at h; omega), if_neg (show ¬ 30 < Z from fun h => by rw [t_lt, i30] at h; omega), if_neg (show ¬ (1 : Int32) = 0 by decide)]
      unfold gX1_isFull gX1_isFull_b
      rw [ek]
      by_cases h3 : k < 8
      · rw [if_pos (lt8 h3), if_pos (lt8 h3), Option.bind_some, if_pos rfl, q2, q3, q4, Option.bind_some, Option.bind_some, Option.bind_some, add_k ek h3, Option.bind_some]
        refine ⟨1, stm (ad5 uc 20 k A F S N Z) 19 0 (nI (k + 1)), rfl, Or.inr rfl, fun c hc => ?_, ?_⟩
        · unfold ad5
          rw [stm_c (by omega), stm_c (by omega), stm_c (by omega), stm_c (by omega), stm_c (by omega), stm_c (by omega)]
        · have ew : w 74 11 = nI k := by rw [← k0]; exact ek
          unfold gX11_fieldComes_44
          rw [if_neg (by decide), m1, m2, m3, m4, gd_t (ix_nI (by omega) (by decide)), ew, gd_t (ix_nI h3 (by decide)), letv_eq, ixn_nI (by omega), ixn_nI (by omega), v1,
            gd_t (ix_nI (by omega) (by decide)), show stm w 78 k A 74 11 = nI k from ew, gd_t (ix_nI h3 (by decide)), letv_eq, ixn_nI (by omega), ixn_nI (by omega), show stm w 78 k A 88 (9 * i + 1) = F from v2,
            gd_t (ix_nI (by omega) (by decide)), show stm (stm w 78 k A) 79 k F 74 11 = nI k from ew, gd_t (ix_nI h3 (by decide)), letv_eq, ixn_nI (by omega), ixn_nI (by omega), show stm (stm w 78 k A) 79 k F 88 (9 * i + 2) = S from v3,
            gd_t (ix_nI (by omega) (by decide)), show stm (stm (stm w 78 k A) 79 k F) 80 k S 74 11 = nI k from ew, gd_t (ix_nI h3 (by decide)), letv_eq, ixn_nI (by omega), ixn_nI (by omega), show stm (stm (stm w 78 k A) 79 k F) 80 k S 88 (9 * i + 3) = N from v4,
            gd_t (ix_nI (by omega) (by decide)), show stm (stm (stm (stm w 78 k A) 79 k F) 80 k S) 81 k N 74 11 = nI k from ew, gd_t (ix_nI h3 (by decide)), letv_eq, ixn_nI (by omega), ixn_nI (by omega), show stm (stm (stm (stm w 78 k A) 79 k F) 80 k S) 81 k N 88 (9 * i + 4) = Z from v5,
            letv_eq, show stm (stm (stm (stm (stm w 78 k A) 79 k F) 80 k S) 81 k N) 82 k Z 74 11 = nI k from ew, nI_s (by omega), gd_t (Or.inr rfl)]
          refine ok_some.mpr ⟨rfl, ?_, fun _ => ⟨hD.1.keep rfl ⟨rfl, rfl, rfl, rfl, rfl, rfl, rfl, rfl⟩ rfl, hD.2.1.keep rfl rfl rfl rfl, ⟨rfl, ?_, fun j hj => ?_, fun j hj => ?_⟩, hD.2.2.2.keep rfl rfl rfl rfl⟩⟩
          · exact (((((FrC.sc (by decide)).tr (FrC.sc (by decide))).tr (FrC.sc (by decide))).tr (FrC.sc (by decide))).tr (FrC.sc (by decide))).tr (FrC.st (by decide))
          · show 0 ≤ (nI (k + 1)).toInt ∧ (nI (k + 1)).toInt ≤ 8
            rw [t_nI (by omega)]
            omega
          · obtain ⟨r1, r2, r3, r4, r5⟩ := k3 j hj
            show stm uc 20 k A 20 j = stm w 78 k A 78 j ∧ stm uc 21 k F 21 j = stm w 79 k F 79 j ∧ stm uc 22 k S 22 j = stm w 80 k S 80 j ∧ stm uc 23 k N 23 j = stm w 81 k N 81 j ∧ stm uc 24 k Z 24 j = stm w 82 k Z 82 j
            by_cases ej : j = k
            · rw [ej]
              simp only [stm_r, and_self]
            · simp only [stm_s ej]
              exact ⟨r1, r2, r3, r4, r5⟩
          · have hj' : (j : Int) < (nI (k + 1)).toInt := hj
            rw [t_nI (by omega)] at hj'
            show (0 ≤ (stm uc 22 k S 22 j).toInt ∧ (stm uc 22 k S 22 j).toInt ≤ 999) ∧ (0 ≤ (stm uc 23 k N 23 j).toInt ∧ (stm uc 23 k N 23 j).toInt ≤ 999) ∧ (1 ≤ (stm uc 24 k Z 24 j).toInt ∧ (stm uc 24 k Z 24 j).toInt ≤ 30) ∧ (0 ≤ (stm uc 21 k F 21 j).toInt ∧ (stm uc 21 k F 21 j).toInt ≤ 9)
            by_cases ej : j = k
            · rw [ej, stm_r, stm_r, stm_r, stm_r]
              exact ⟨⟨bS.1, by omega⟩, ⟨bN.1, by omega⟩, h2, ⟨bF.1, by omega⟩⟩
            · rw [stm_s ej, stm_s ej, stm_s ej, stm_s ej]
              exact k4 j (by rw [ek, t_nI (by omega)]; omega)
      · have h8 : ¬ nI k < 8 := by rw [show (8 : Int32) = nI 8 from rfl, lt_nn (by omega) (by omega)]; exact h3
        rw [if_neg h8, if_neg h8, Option.bind_some, if_neg (by decide)]
        exact ⟨0, uc, rfl, Or.inl rfl, fun _ _ => rfl, no⟩
    · rw [in_f (a := 1) (b := 30) h2, Option.bind_some, if_pos rfl]
      refine ⟨0, uc, ?_, Or.inl rfl, fun _ _ => rfl, no⟩
      by_cases h4 : Z < 1
      · rw [if_pos h4]
        rfl
      · rw [if_neg h4, if_pos (by rw [t_lt, i1] at h4; rw [t_lt, i30]; omega)]
        rfl
  · rw [if_neg h1]
    rw [t_lt, i6] at h1
    rw [if_pos (by rw [t_lt, i5]; omega)]
    exact ⟨0, uc, rfl, Or.inl rfl, fun _ _ => rfl, no⟩
def FrY (u y : Mm) : Prop := ∀ c, c ≠ 27 → y c = u c
theorem able_k {k0 t : Nat} {u : Mm} (ht : t < 3) : gX2_able k0 (nI t) u = some (nI (if t = 1 then (if 0 < u k0 4 then 1 else 0) else t)) := by
  by_cases c : t = 1
  · rw [if_pos c, c]
    exact able1 k0 u
  · rw [if_neg c]
    unfold gX2_able gX2_able_b
    rw [if_neg (show ¬ nI t = 1 from fun e => c ((nI_inj (b := 1) (by omega) (by omega)).mp e))]
theorem acts_ok {uc w : Mm} {x : Nat → Int32} {n i p D : Nat} (hL : Lt uc x n) (hp : p ≤ 96) (hi : i < 49) (hD9 : D ≤ 9) (hdg : ∀ j, j < D → dgB (x (p + 1 + j)) = true) (v89 : w 89 i = nI D) (v88 : ∀ k, k < D → w 88 (9 * i + k) = numI x (p + 1 + k) 1) (hA : WDa uc w) :
    ∀ d k, k + d = D → ∀ (fu1 fu2 : Nat) (y z : Mm) (f : Nat → Int32), d < fu1 → d < fu2 → FrY uc y → Fm lS w z → CF (y 27) f → MF z f → VF f → (f 7).toInt ≤ 999 ∧ 0 ≤ (f 7).toInt →
    ∃ b y', gX5_tellActs_11_L 15 (nI (p + 1 + D)) fu1 (nI (p + 1 + k)) y = some (b, y') ∧ (b = 0 ∨ b = 1) ∧ FrY uc y' ∧ Ok (gX11_actsCome_2_L (nI i) fu2 (nI k) z) (fun q => q.1 = b ∧ Fm lS w q.2 ∧ (b = 1 → ∃ f', CF (y' 27) f' ∧ MF q.2 f' ∧ VF f' ∧ (f' 7).toInt ≤ 999 ∧ 0 ≤ (f' 7).toInt)) := by
  intro d
  induction d with
  | zero =>
    intro k hk fu1 fu2 y z f h1 h2 kY kM kC kF kV k7
    obtain rfl : k = D := by omega
    obtain ⟨g1, rfl⟩ : ∃ g, fu1 = g + 1 := ⟨fu1 - 1, by omega⟩
    obtain ⟨g2, rfl⟩ : ∃ g, fu2 = g + 1 := ⟨fu2 - 1, by omega⟩
    refine ⟨1, y, ?_, Or.inr rfl, kY, ?_⟩
    · show gX5_tellActs_11_Ls 15 (nI (p + 1 + k)) (gX5_tellActs_11_L 15 (nI (p + 1 + k)) g1) (nI (p + 1 + k)) y = _
      unfold gX5_tellActs_11_Ls
      rw [if_neg (by rw [lt_nn (by omega) (by omega)]; exact Nat.lt_irrefl _)]
    · show Ok (gX11_actsCome_2_Ls (nI i) (gX11_actsCome_2_L (nI i) g2) (nI k) z) _
      unfold gX11_actsCome_2_Ls
      rw [gd_t (ix_nI hi (by decide)), ixn_nI (by omega), kM.1 89 (by decide) (by decide), v89, if_neg (by rw [lt_nn (by omega) (by omega)]; exact Nat.lt_irrefl _)]
      exact ok_some.mpr ⟨rfl, kM, fun _ => ⟨f, kC, kF, kV, k7⟩⟩
  | succ d ih =>
    intro k hk fu1 fu2 y z f h1 h2 kY kM kC kF kV k7
    obtain ⟨g1, rfl⟩ : ∃ g, fu1 = g + 1 := ⟨fu1 - 1, by omega⟩
    obtain ⟨g2, rfl⟩ : ∃ g, fu2 = g + 1 := ⟨fu2 - 1, by omega⟩
    have hLy : Lt y x n := ⟨hL.1, by rw [kY 52 (by decide)]; exact hL.2.1, by rw [kY 53 (by decide)]; exact hL.2.2.1, hL.2.2.2⟩
    have bA : 0 ≤ (numI x (p + 1 + k) 1).toInt ∧ (numI x (p + 1 + k) 1).toInt < 10 ^ 1 := num_bd 1 (by decide) (fun j hj => by rw [show j = 0 by omega]; exact hdg k (by omega))
    have q1 : gX5_number (nI (p + 1 + k)) 1 y = some (numI x (p + 1 + k) 1) := num_C (m := 1) hLy (by omega)
    have e88 : z 88 (9 * i + k) = numI x (p + 1 + k) 1 := by rw [kM.1 88 (by decide) (by decide)]; exact v88 k (by omega)
    generalize numI x (p + 1 + k) 1 = A at *
    have eC : gX5_tellActs_11_L 15 (nI (p + 1 + D)) (g1 + 1) (nI (p + 1 + k)) y = if 2 < A then some (0, y) else (gX2_able 27 A y).bind fun r4 => if r4 = A then (if y 27 7 < 999 then (gX2_fly 27 A 16 y).bind fun u7 => gX5_tellActs_11_L 15 (nI (p + 1 + D)) g1 (nI (p + 1 + (k + 1))) u7 else some (0, y)) else some (0, y) := by
      show gX5_tellActs_11_Ls 15 (nI (p + 1 + D)) (gX5_tellActs_11_L 15 (nI (p + 1 + D)) g1) (nI (p + 1 + k)) y = _
      unfold gX5_tellActs_11_Ls
      rw [if_pos (by rw [lt_nn (by omega) (by omega)]; omega), q1, Option.bind_some, nI_s (by omega)]
      rfl
    have eM : gX11_actsCome_2_L (nI i) (g2 + 1) (nI k) z = if 2 < A then some (0, z) else if A = 1 then (if z 74 6 = 0 then some (0, z) else gX11_actsCome_41 (gX11_actsCome_2_L (nI i) g2) (nI i) (nI k) A z) else gX11_actsCome_41 (gX11_actsCome_2_L (nI i) g2) (nI i) (nI k) A z := by
      show gX11_actsCome_2_Ls (nI i) (gX11_actsCome_2_L (nI i) g2) (nI k) z = _
      unfold gX11_actsCome_2_Ls
      rw [gd_t (ix_nI hi (by decide)), ixn_nI (show i < 2147483648 by omega), kM.1 89 (by decide) (by decide), v89, if_pos (by rw [lt_nn (by omega) (by omega)]; omega), i9_k hi (by omega), gd_t (ix_nI (by omega) (by decide)), letv_eq, ixn_nI (by omega), e88]
    rw [eC, eM]
    have no : Ok (some ((0 : Int32), z)) (fun q => q.1 = 0 ∧ Fm lS w q.2 ∧ ((0 : Int32) = 1 → ∃ f', CF (y 27) f' ∧ MF q.2 f' ∧ VF f' ∧ (f' 7).toInt ≤ 999 ∧ 0 ≤ (f' 7).toInt)) := ok_some.mpr ⟨rfl, kM, fun h => absurd h (by decide)⟩
    by_cases c1 : 2 < A
    · rw [if_pos c1, if_pos c1]
      exact ⟨0, y, rfl, Or.inl rfl, kY, no⟩
    rw [if_neg c1, if_neg c1]
    rw [t_lt, i2] at c1
    obtain ⟨t, rfl, ht2⟩ := nI_upto (a := A) (N := 2) bA.1 (by omega)
    have ht : t < 3 := by omega
    have y4 : y 27 4 = f 4 := kC.1 4 (by decide)
    have z6 : z 74 6 = f 4 := kF.1 4 (by decide)
    have y7 : y 27 7 = f 7 := kC.1 7 (by decide)
    have z9 : z 74 9 = f 7 := kF.1 7 (by decide)
    rw [able_k ht, Option.bind_some, y4, z6, y7]
    have hone : nI t = 1 ↔ t = 1 := nI_inj (b := 1) (by omega) (by decide)
    by_cases cg : t = 1 ∧ ¬ 0 < f 4
    · obtain ⟨rfl, c4⟩ := cg
      have f40 : f 4 = 0 := by
        have := kV.1.2.2.2.2.1.1
        rw [t_lt, i0] at c4
        rw [t_eq, i0]
        omega
      rw [if_pos rfl, if_neg c4, if_neg (by decide), if_pos (show nI 1 = 1 from rfl), if_pos f40]
      exact ⟨0, y, rfl, Or.inl rfl, kY, no⟩
    · have hg : t = 1 → 0 < f 4 := fun e => Decidable.not_not.mp (fun h => cg ⟨e, h⟩)
      have hga : t = 1 → 0 < (f 4).toInt := fun e => by
        have := hg e
        rwa [t_lt, i0] at this
      have ab : (if t = 1 then (if 0 < f 4 then 1 else 0) else t) = t := by
        by_cases c : t = 1
        · rw [if_pos c, if_pos (hg c), c]
        · rw [if_neg c]
      have em : (if nI t = 1 then (if f 4 = 0 then some ((0 : Int32), z) else gX11_actsCome_41 (gX11_actsCome_2_L (nI i) g2) (nI i) (nI k) (nI t) z) else gX11_actsCome_41 (gX11_actsCome_2_L (nI i) g2) (nI i) (nI k) (nI t) z) = gX11_actsCome_41 (gX11_actsCome_2_L (nI i) g2) (nI i) (nI k) (nI t) z := by
        by_cases c : t = 1
        · rw [if_pos (hone.mpr c), if_neg (fun e => by have := hg c; rw [e] at this; exact absurd this (by decide))]
        · rw [if_neg (fun h => c (hone.mp h))]
      rw [ab, if_pos rfl, em]
      unfold gX11_actsCome_41
      rw [z9]
      by_cases c7 : (f 7).toInt < 999
      · rw [if_pos (by rw [t_lt, i999]; exact c7), if_neg (show ¬ f 7 = 999 from fun e => by rw [e, i999] at c7; omega)]
        obtain ⟨y', ey, y1, y2⟩ := cfly (k0 := 27) (k2 := 16) (t := t) (u := y) (f := f) (sd := w 75) (ah := w 76) (by decide) (by decide) ht kC kV.1 (fun j hj => by rw [kY 17 (by decide)]; exact (hA j hj).1) (fun j hj => by rw [kY 18 (by decide)]; exact (hA j hj).2)
        rw [ey, Option.bind_some]
        have hm := mstep (t := t) (u := z) (f := f) (sd := w 75) (ah := w 76) ht kF kV.1 (fun j hj => by rw [kM.1 75 (by decide) (by decide)]) (fun j hj => by rw [kM.1 76 (by decide) (by decide)])
        have e7 : (stp (w 75) (w 76) t f 7).toInt = (f 7).toInt + 1 := by
          show (f 7 + 1).toInt = _
          rw [t_add (by rw [i1]; omega) (by rw [i1]; omega), i1]
        have kY' : FrY uc y' := fun c hc => (y1 c hc).trans (kY c hc)
        have kV' := VF_stp (sd := w 75) (ah := w 76) kV ht hga
        have k7' : (stp (w 75) (w 76) t f 7).toInt ≤ 999 ∧ 0 ≤ (stp (w 75) (w 76) t f 7).toInt := by omega
        obtain ⟨z', ez, z1, z2, z3⟩ := hm
        rw [ez, Option.bind_some, letv_eq, nI_s (by omega)]
        exact ih (k + 1) (by omega) g1 g2 y' z' (stp (w 75) (w 76) t f) (by omega) (by omega) kY' (kM.tr z1) y2 z2 kV' k7'
      · rw [if_neg (by rw [t_lt, i999]; exact c7), if_pos (show f 7 = 999 by rw [t_eq, i999]; omega)]
        exact ⟨0, y, rfl, Or.inl rfl, kY, no⟩
theorem st_97 {uc w : Mm} {x : Nat → Int32} {n i p e : Nat} (hL : Lt uc x n) (hp : p ≤ 96) (hi : i < 49) (c : x p = 97) (ok : (EN x p).2 = true) (he : e = (EN x p).1) (h87 : w 87 i = x p) (hV : VAL x w i p) (hD : WD uc w) : ST uc w i p e := by
  rw [EN_97 c] at he
  change e = p + 1 + dg x 9 (p + 1) at he
  obtain ⟨v1, v2⟩ := hV.2.2.2.2.2.2 c
  have hl := dg_le x 9 (p + 1)
  have tl : gX5_tellStatement (nI p) (nI e) 15 uc = bI (gX5_tellActs (nI p) (nI e) 15 uc) fun r4 u3 => gd (r4 = 0 ∨ r4 = 1) (some (r4, u3)) := by
    unfold gX5_tellStatement gX5_tellStatement_b
    rw [at52 hL (by omega), Option.bind_some, c, if_neg (by decide), if_neg (by decide), if_neg (by decide), if_neg (by decide), if_neg (by decide), if_neg (by decide)]
  have cm : gX11_comes (nI i) w = bI (gX11_actsCome (nI i) w) fun r9 u8 => gd (r9 = 0 ∨ r9 = 1) (some (r9, u8)) := by
    unfold gX11_comes gX11_comes_b
    rw [letv_eq, gd_t (ix_nI hi (by decide)), ixn_nI (by omega), h87, c, if_pos rfl]
  unfold ST
  rw [tl, cm]
  unfold gX5_tellActs gX5_tellActs_b gX11_actsCome gX11_actsCome_b
  rw [letv_eq, nI_s (by omega), he]
  obtain ⟨f1, f2, f3, f4⟩ := hD.1
  have hC : CF (uc 27) (fun j => if j < 9 then uc 27 j else w 77 (j - 9)) := by
    refine ⟨fun j hj => (if_pos hj).symm, UW_cg (fun j hj => ?_) f3⟩
    show w 77 j = if 9 + j < 9 then uc 27 (9 + j) else w 77 (9 + j - 9)
    rw [if_neg (by omega), Nat.add_sub_cancel_left]
  have hM : MF w (fun j => if j < 9 then uc 27 j else w 77 (j - 9)) := by
    refine ⟨fun j hj => ?_, fun j hj => ?_⟩
    · show w 74 (j + 2) = if j < 9 then uc 27 j else w 77 (j - 9)
      rw [if_pos (by omega)]
      exact (f1 j hj).symm
    · show w 77 j = if 9 + j < 9 then uc 27 (9 + j) else w 77 (9 + j - 9)
      rw [if_neg (by omega), Nat.add_sub_cancel_left]
  have hVF : VF (fun j => if j < 9 then uc 27 j else w 77 (j - 9)) := by
    refine ⟨f2, uc 27 9, ?_⟩
    exact hC.2
  obtain ⟨b, y', e1, e2, e3, e4⟩ := acts_ok (D := dg x 9 (p + 1)) hL hp hi hl (fun j hj => dg_all x 9 (p + 1) j hj) v1 v2 hD.2.1 (dg x 9 (p + 1)) 0 (by omega) FU FU uc w _ (by unfold FU; omega) (by unfold FU; omega) (fun _ _ => rfl) (Fm.rf lS w) hC hM hVF f4
  refine ⟨b, y', ?_, e2, fun c hc => e3 c (by omega), ?_⟩
  · rw [e1]
    show gd (b = 0 ∨ b = 1) (some (b, y')) = _
    rw [gd_t e2]
  · rw [ok_bI]
    refine e4.mono ?_
    rintro ⟨r, z⟩ ⟨z1, z2, z3⟩
    change r = b at z1
    subst z1
    change Fm lS w z at z2
    show Ok (gd (r = 0 ∨ r = 1) (some (r, z))) _
    rw [gd_t e2]
    refine ok_some.mpr ⟨rfl, ⟨fun c hc => z2.1 c (by omega) (by omega), fun j hj => z2.2 j (fun h => hj ?_)⟩, fun hb => ?_⟩
    · have : ∀ j, j ∈ lS → j ∈ lC := by decide
      exact this j h
    · obtain ⟨f', c1, c2, c3, c4⟩ := z3 hb
      change MF z f' at c2
      refine ⟨⟨fun j hj => (c1.1 j (by omega)).trans (c2.1 j hj).symm, ?_, UW_cg (fun j hj => (c2.2 j hj).symm) c1.2, ?_⟩, hD.2.1.keep (e3 17 (by decide)) (e3 18 (by decide)) (z2.1 75 (by decide) (by decide)) (z2.1 76 (by decide) (by decide)), hD.2.2.1.keep (e3 19 (by decide)) (e3 20 (by decide)) (e3 21 (by decide)) (e3 22 (by decide)) (e3 23 (by decide)) (e3 24 (by decide)) (z2.2 11 (by decide)) (z2.1 78 (by decide) (by decide)) (z2.1 79 (by decide) (by decide)) (z2.1 80 (by decide) (by decide)) (z2.1 81 (by decide) (by decide)) (z2.1 82 (by decide) (by decide)), hD.2.2.2.keep (e3 25 (by decide)) (e3 26 (by decide)) (z2.2 18 (by decide)) (z2.1 83 (by decide) (by decide))⟩
      · have := c3.1
        unfold FB at this ⊢
        rw [c1.1 0 (by decide), c1.1 1 (by decide), c1.1 2 (by decide), c1.1 3 (by decide), c1.1 4 (by decide), c1.1 5 (by decide), c1.1 6 (by decide)]
        exact this
      · rw [c1.1 7 (by decide)]
        exact c4
theorem st_all {uc w : Mm} {x : Nat → Int32} {n i p e : Nat} (hL : Lt uc x n) (hp : p ≤ 96) (hi : i < 49) (ok : (EN x p).2 = true) (he : e = (EN x p).1) (h87 : w 87 i = x p) (hV : VAL x w i p) (hD : WD uc w) : ST uc w i p e := by
  by_cases c1 : x p = 97
  · exact st_97 hL hp hi c1 ok he h87 hV hD
  by_cases c2 : x p = 98
  · exact st_98 hL hp hi c2 ok h87 hV hD
  by_cases c3 : x p = 102
  · exact st_102 hL hp hi c3 ok h87 hV hD
  by_cases c4 : x p = 104
  · exact st_104 hL hp hi c4 ok h87 hV hD
  by_cases c5 : x p = 108
  · exact st_108 hL hp hi c5 ok h87 hV hD
  by_cases c6 : x p = 114
  · exact st_114 hL hp hi c6 ok h87 hV hD
  by_cases c7 : x p = 119
  · exact st_119 hL hp hi c7 ok h87 hV hD
  · exfalso
    unfold EN at ok
    rw [if_neg c1, if_neg c2, if_neg c3, if_neg c4, if_neg c5, if_neg c6, if_neg c7] at ok
    cases ok
