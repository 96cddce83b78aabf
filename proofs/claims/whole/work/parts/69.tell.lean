/-! The letters told: statement by statement on both sides. -/
def WDf (u w : Mm) : Prop := (∀ i, i < 8 → u 27 i = w 74 (i + 2)) ∧ FB (u 27) ∧ UW (u 27 9) (u 27 6) (w 77) ∧ (u 27 7).toInt ≤ 999 ∧ 0 ≤ (u 27 7).toInt
def WDa (u w : Mm) : Prop := ∀ i, i < 8 → u 17 i = w 75 i ∧ u 18 i = w 76 i
def WDk (u w : Mm) : Prop := u 19 0 = w 74 11 ∧ (0 ≤ (u 19 0).toInt ∧ (u 19 0).toInt ≤ 8) ∧ (∀ i, i < 8 → u 20 i = w 78 i ∧ u 21 i = w 79 i ∧ u 22 i = w 80 i ∧ u 23 i = w 81 i ∧ u 24 i = w 82 i) ∧ ∀ i : Nat, (i : Int) < (u 19 0).toInt → (0 ≤ (u 22 i).toInt ∧ (u 22 i).toInt ≤ 999) ∧ (0 ≤ (u 23 i).toInt ∧ (u 23 i).toInt ≤ 999) ∧ (1 ≤ (u 24 i).toInt ∧ (u 24 i).toInt ≤ 30) ∧ (0 ≤ (u 21 i).toInt ∧ (u 21 i).toInt ≤ 9)
def WDr (u w : Mm) : Prop := u 25 0 = w 74 18 ∧ (0 ≤ (u 25 0).toInt ∧ (u 25 0).toInt ≤ 7) ∧ ∀ i, i < 64 → u 26 i = w 83 i ∧ 0 ≤ (u 26 i).toInt ∧ (u 26 i).toInt ≤ 99 ∧ u 26 i = u 26 (8 * (i % 8) + i / 8)
def WD (u w : Mm) : Prop := WDf u w ∧ WDa u w ∧ WDk u w ∧ WDr u w
theorem WDf.keep {u w u' w' : Mm} (h : WDf u w) (h1 : u' 27 = u 27) (h2 : w' 74 2 = w 74 2 ∧ w' 74 3 = w 74 3 ∧ w' 74 4 = w 74 4 ∧ w' 74 5 = w 74 5 ∧ w' 74 6 = w 74 6 ∧ w' 74 7 = w 74 7 ∧ w' 74 8 = w 74 8 ∧ w' 74 9 = w 74 9) (h3 : w' 77 = w 77) : WDf u' w' := by
  obtain ⟨a, b, c, d⟩ := h
  unfold WDf
  rw [h1, h3]
  obtain ⟨g0, g1, g2, g3, g4, g5, g6, g7⟩ := h2
  refine ⟨fun i hi => ?_, b, c, d⟩
  rw [a i hi]
  match i, hi with
  | 0, _ => exact g0.symm
  | 1, _ => exact g1.symm
  | 2, _ => exact g2.symm
  | 3, _ => exact g3.symm
  | 4, _ => exact g4.symm
  | 5, _ => exact g5.symm
  | 6, _ => exact g6.symm
  | 7, _ => exact g7.symm
theorem WDa.keep {u w u' w' : Mm} (h : WDa u w) (h1 : u' 17 = u 17) (h2 : u' 18 = u 18) (h3 : w' 75 = w 75) (h4 : w' 76 = w 76) : WDa u' w' := by
  unfold WDa
  rw [h1, h2, h3, h4]
  exact h
theorem WDk.keep {u w u' w' : Mm} (h : WDk u w) (h1 : u' 19 = u 19) (h2 : u' 20 = u 20) (h3 : u' 21 = u 21) (h4 : u' 22 = u 22) (h5 : u' 23 = u 23) (h6 : u' 24 = u 24) (g1 : w' 74 11 = w 74 11) (g2 : w' 78 = w 78) (g3 : w' 79 = w 79) (g4 : w' 80 = w 80) (g5 : w' 81 = w 81) (g6 : w' 82 = w 82) : WDk u' w' := by
  unfold WDk
  rw [h1, h2, h3, h4, h5, h6, g1, g2, g3, g4, g5, g6]
  exact h
theorem WDr.keep {u w u' w' : Mm} (h : WDr u w) (h1 : u' 25 = u 25) (h2 : u' 26 = u 26) (h3 : w' 74 18 = w 74 18) (h4 : w' 83 = w 83) : WDr u' w' := by
  unfold WDr
  rw [h1, h2, h3, h4]
  exact h
def FrT (u u' : Mm) : Prop := ∀ c, c < 17 ∨ 27 < c → u' c = u c
def lC : List Nat := [2, 3, 4, 5, 6, 7, 8, 9, 11, 21]
def FrC (w w' : Mm) : Prop := (∀ c, c < 74 ∨ 83 < c → w' c = w c) ∧ ∀ j, j ∉ lC → w' 74 j = w 74 j
theorem FrC.rf (w : Mm) : FrC w w := ⟨fun _ _ => rfl, fun _ _ => rfl⟩
theorem FrC.tr {u v w : Mm} (h1 : FrC u v) (h2 : FrC v w) : FrC u w := ⟨fun c h => (h2.1 c h).trans (h1.1 c h), fun j h => (h2.2 j h).trans (h1.2 j h)⟩
theorem FrC.st {w : Mm} {j : Nat} {v : Int32} (h : j ∈ lC) : FrC w (stm w 74 j v) := ⟨fun c hc => stm_c (by omega), fun i hi => stm_s (fun e => hi (by rw [e]; exact h))⟩
theorem FrC.sc {w : Mm} {c j : Nat} {v : Int32} (h : 75 ≤ c ∧ c ≤ 83) : FrC w (stm w c j v) := ⟨fun k hk => stm_c (by omega), fun i hi => by rw [stm_c (by omega)]⟩
def ST (uc w : Mm) (i p e : Nat) : Prop := ∃ b uc', gX5_tellStatement (nI p) (nI e) 15 uc = some (b, uc') ∧ (b = 0 ∨ b = 1) ∧ FrT uc uc' ∧ Ok (gX11_comes (nI i) w) (fun q => q.1 = b ∧ FrC w q.2 ∧ (b = 1 → WD uc' q.2))
theorem dgs {x : Nat → Int32} {q m : Nat} (h : (enD x q m m).2 = true) : ∀ j, j < m → dgB (x (q + j)) = true := by
  have := (enD_ok h).1
  have l := dg_le x m q
  exact fun j hj => dg_all x m q j (by omega)
theorem num2 {x : Nat → Int32} {q m : Nat} (k a : Nat) (hm : k ≤ 8) (ha : a + k ≤ m) (h : ∀ j, j < m → dgB (x (q + j)) = true) : 0 ≤ (numI x (q + a) k).toInt ∧ (numI x (q + a) k).toInt < 10 ^ k :=
  num_bd k hm (fun j hj => by have := h (a + j) (by omega); rwa [show q + (a + j) = q + a + j by omega] at this)
theorem st_98 {uc w : Mm} {x : Nat → Int32} {n i p e : Nat} (hL : Lt uc x n) (hp : p ≤ 96) (hi : i < 49) (c : x p = 98) (ok : (EN x p).2 = true) (h87 : w 87 i = x p) (hV : VAL x w i p) (hD : WD uc w) : ST uc w i p e := by
  rw [EN_98 c] at ok
  have hd := dgs ok
  have bA := num2 2 0 (by decide) (by decide) hd
  have bB := num2 2 2 (by decide) (by decide) hd
  have bC := num2 1 4 (by decide) (by decide) hd
  obtain ⟨v1, v2, v3⟩ := hV.1 c
  have q1 : gX5_number (nI (p + 1)) 2 uc = some (numI x (p + 1) 2) := num_C (m := 2) hL (by omega)
  have q2 : gX5_number (nI (p + 3)) 2 uc = some (numI x (p + 3) 2) := num_C (m := 2) hL (by omega)
  have q3 : gX5_number (nI (p + 5)) 1 uc = some (numI x (p + 5) 1) := num_C (m := 1) hL (by omega)
  change 0 ≤ (numI x (p + 1) 2).toInt ∧ (numI x (p + 1) 2).toInt < 10 ^ 2 at bA
  change 0 ≤ (numI x (p + 3) 2).toInt ∧ (numI x (p + 3) 2).toInt < 10 ^ 2 at bB
  change 0 ≤ (numI x (p + 5) 1).toInt ∧ (numI x (p + 5) 1).toInt < 10 ^ 1 at bC
  generalize numI x (p + 1) 2 = A at *
  generalize numI x (p + 3) 2 = B at *
  generalize numI x (p + 5) 1 = C at *
  have n1 : nI p + 1 = nI (p + 1) := nI_s (by omega)
  have n3 : nI p + 3 = nI (p + 3) := nI_a (b := 3) (by omega)
  have n5 : nI p + 5 = nI (p + 5) := nI_a (b := 5) (by omega)
  have m1 : nI (9 * i) + 1 = nI (9 * i + 1) := nI_s (by omega)
  have m2 : nI (9 * i) + 2 = nI (9 * i + 2) := nI_a (b := 2) (by omega)
  have e9 : 9 * nI i = nI (9 * i) := nI_m (a := 9) (by omega) (by omega) (by omega)
  have i61 : (60 : Int32).toInt = 60 := rfl
  have tl : gX5_tellStatement (nI p) (nI e) 15 uc = bI (gX5_tellBalloon (nI p) 27 uc) fun r4 u3 => gd (r4 = 0 ∨ r4 = 1) (some (r4, u3)) := by
    unfold gX5_tellStatement gX5_tellStatement_b
    rw [at52 hL (by omega), Option.bind_some, if_pos c]
  have cm : gX11_comes (nI i) w = bI (gX11_settingsCome (nI i) w) fun r25 u24 => gd (r25 = 0 ∨ r25 = 1) (some (r25, u24)) := by
    unfold gX11_comes gX11_comes_b
    rw [letv_eq, gd_t (ix_nI hi (by decide)), ixn_nI (by omega), h87, c, if_neg (by decide), if_neg (by decide), if_neg (by decide), if_neg (by decide)]
  unfold ST
  rw [tl, cm]
  unfold gX5_tellBalloon gX5_tellBalloon_b
  rw [n1, n3, n5, q1, q2, q3, Option.bind_some, Option.bind_some, Option.bind_some]
  have se : gX11_settingsCome (nI i) w = if 60 < A then gX11_settingsCome_65 (nI (9 * i)) w else if 60 < B then gX11_settingsCome_65 (nI (9 * i)) w else (gX11_in C.toInt64 1 6).bind fun r15 => if r15 = 0 then gX11_settingsCome_65 (nI (9 * i)) w else gX11_settingsCome_66 (nI (9 * i)) 1 w := by
    unfold gX11_settingsCome gX11_settingsCome_b
    rw [letv_eq, e9, gd_t (ix_nI hi (by decide)), ixn_nI (by omega), h87, if_pos c, gd_t (ix_nI (by omega) (by decide)), m1, m2, gd_t (ix_nI (by omega) (by decide)), gd_t (ix_nI (by omega) (by decide)), ixn_nI (by omega), ixn_nI (by omega), ixn_nI (by omega), v1, v2, v3]
  have no : Ok (gX11_settingsCome_65 (nI (9 * i)) w) (fun q => q.1 = 0 ∧ FrC w q.2) := by
    unfold gX11_settingsCome_65 gX11_settingsCome_66 gX11_settingsCome_85 gX11_settingsCome_108
    rw [if_pos rfl, letv_eq, if_pos rfl, letv_eq, if_pos rfl, letv_eq, gd_t (Or.inl rfl)]
    exact ok_some.mpr ⟨rfl, ((FrC.st (by decide)).tr (FrC.st (by decide))).tr (FrC.st (by decide))⟩
  have no2 : Ok (bI (gX11_settingsCome_65 (nI (9 * i)) w) fun r25 u24 => gd (r25 = 0 ∨ r25 = 1) (some (r25, u24))) (fun q => q.1 = 0 ∧ FrC w q.2 ∧ ((0 : Int32) = 1 → WD uc q.2)) := by
    rw [ok_bI]
    refine no.mono ?_
    rintro ⟨r, y⟩ ⟨y1, y2⟩
    change r = 0 at y1
    subst y1
    show Ok (gd _ _) _
    rw [gd_t (Or.inl rfl)]
    exact ok_some.mpr ⟨rfl, y2, fun h => absurd h (by decide)⟩
  rw [se]
  by_cases h1 : 60 < A
  · rw [if_pos h1, if_pos h1]
    exact ⟨0, uc, rfl, Or.inl rfl, fun _ _ => rfl, no2⟩
  rw [if_neg h1, if_neg h1]
  by_cases h2 : 60 < B
  · rw [if_pos h2, if_pos h2]
    exact ⟨0, uc, rfl, Or.inl rfl, fun _ _ => rfl, no2⟩
  rw [if_neg h2, if_neg h2]
  rw [t_lt, i61] at h1 h2
  by_cases h3 : 1 ≤ C.toInt ∧ C.toInt ≤ 6
  · rw [if_neg (fun h => by rw [t_lt, i1] at h; omega), if_neg (fun h => by rw [t_lt, i6] at h; omega), in_t (a := 1) (b := 6) h3, Option.bind_some, if_neg (by decide)]
    refine ⟨1, stm (stm (stm uc 27 3 A) 27 4 B) 27 5 C, rfl, Or.inr rfl, fun c hc => ?_, ?_⟩
    · rw [stm_c (by omega), stm_c (by omega), stm_c (by omega)]
    · unfold gX11_settingsCome_66 gX11_settingsCome_85 gX11_settingsCome_108
      rw [if_neg (by decide), gd_t (ix_nI (by omega) (by decide)), letv_eq, if_neg (by decide), m1, m2, gd_t (ix_nI (by omega) (by decide)), letv_eq, if_neg (by decide), gd_t (ix_nI (by omega) (by decide)), letv_eq, gd_t (Or.inr rfl), ixn_nI (by omega), ixn_nI (by omega), ixn_nI (by omega), v1, show stm w 74 5 A 88 (9 * i + 1) = B from v2, show stm (stm w 74 5 A) 74 6 B 88 (9 * i + 2) = C from v3]
      refine ok_some.mpr ⟨rfl, ((FrC.st (by decide)).tr (FrC.st (by decide))).tr (FrC.st (by decide)), fun _ => ⟨?_, hD.2.1.keep rfl rfl rfl rfl, hD.2.2.1.keep rfl rfl rfl rfl rfl rfl rfl rfl rfl rfl rfl rfl, hD.2.2.2.keep rfl rfl rfl rfl⟩⟩
      obtain ⟨f1, f2, f3, f4⟩ := hD.1
      obtain ⟨g0, g1, g2, g3, g4, g5, g6⟩ := f2
      refine ⟨fun j hj => ?_, ⟨g0, g1, g2, ⟨bA.1, by show A.toInt ≤ 60; omega⟩, ⟨bB.1, by show B.toInt ≤ 60; omega⟩, h3, g6⟩, f3, f4⟩
      match j, hj with
      | 0, _ => exact f1 0 (by decide)
      | 1, _ => exact f1 1 (by decide)
      | 2, _ => exact f1 2 (by decide)
      | 3, _ => rfl
      | 4, _ => rfl
      | 5, _ => rfl
      | 6, _ => exact f1 6 (by decide)
      | 7, _ => exact f1 7 (by decide)
  · rw [in_f (a := 1) (b := 6) h3, Option.bind_some, if_pos rfl]
    refine ⟨0, uc, ?_, Or.inl rfl, fun _ _ => rfl, no2⟩
    by_cases h4 : C < 1
    · rw [if_pos h4]
      rfl
    · rw [if_neg h4, if_pos (by rw [t_lt, i1] at h4; rw [t_lt, i6]; omega)]
      rfl
