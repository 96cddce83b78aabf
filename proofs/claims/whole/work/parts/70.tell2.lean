/-! The letters told: height, lag, wind, road, field. -/
theorem e9_i {i : Nat} (hi : i < 49) : 9 * nI i = nI (9 * i) := nI_m (a := 9) (by omega) (by omega) (by omega)
theorem st_104 {uc w : Mm} {x : Nat → Int32} {n i p e : Nat} (hL : Lt uc x n) (hp : p ≤ 96) (hi : i < 49) (c : x p = 104) (ok : (EN x p).2 = true) (h87 : w 87 i = x p) (hV : VAL x w i p) (hD : WD uc w) : ST uc w i p e := by
  rw [EN_104 c] at ok
  have hd := dgs ok
  have bA := num2 2 0 (by decide) (by decide) hd
  have v1 := hV.2.2.1 c
  have q1 : gX5_number (nI (p + 1)) 2 uc = some (numI x (p + 1) 2) := num_C (m := 2) hL (by omega)
  change 0 ≤ (numI x (p + 1) 2).toInt ∧ (numI x (p + 1) 2).toInt < 10 ^ 2 at bA
  generalize numI x (p + 1) 2 = A at *
  have n1 : nI p + 1 = nI (p + 1) := nI_s (by omega)
  have tl : gX5_tellStatement (nI p) (nI e) 15 uc = bI (gX5_tellHeight (nI p) 27 uc) fun r4 u3 => gd (r4 = 0 ∨ r4 = 1) (some (r4, u3)) := by
    unfold gX5_tellStatement gX5_tellStatement_b
    rw [at52 hL (by omega), Option.bind_some, c, if_neg (by decide), if_neg (by decide), if_pos rfl]
  have cm : gX11_comes (nI i) w = bI (gX11_settingsCome (nI i) w) fun r25 u24 => gd (r25 = 0 ∨ r25 = 1) (some (r25, u24)) := by
    unfold gX11_comes gX11_comes_b
    rw [letv_eq, gd_t (ix_nI hi (by decide)), ixn_nI (by omega), h87, c, if_neg (by decide), if_neg (by decide), if_neg (by decide), if_neg (by decide)]
  have se : gX11_settingsCome (nI i) w = if A < 40 then gX11_settingsCome_164 (nI (9 * i)) 1 w else gX11_settingsCome_164 (nI (9 * i)) 0 w := by
    unfold gX11_settingsCome gX11_settingsCome_b
    rw [letv_eq, e9_i hi, gd_t (ix_nI hi (by decide)), ixn_nI (by omega), h87, c, if_neg (by decide), gd_t (ix_nI hi (by decide)), if_pos rfl, gd_t (ix_nI (by omega) (by decide)), ixn_nI (by omega), v1]
  unfold ST
  rw [tl, cm, se]
  unfold gX5_tellHeight gX5_tellHeight_b gX11_settingsCome_164
  rw [n1, q1, Option.bind_some]
  by_cases h1 : A < 40
  · rw [if_pos h1]
    rw [t_lt, i40] at h1
    rw [if_neg (fun h => by rw [t_lt, i39] at h; omega), if_neg (by decide), gd_t (ix_nI (by omega) (by decide)), letv_eq, letv_eq, gd_t (Or.inr rfl), ixn_nI (by omega), v1]
    refine ⟨1, stm uc 27 0 A, rfl, Or.inr rfl, fun c hc => stm_c (by omega), ok_some.mpr ⟨rfl, FrC.st (by decide), fun _ => ⟨?_, hD.2.1.keep rfl rfl rfl rfl, hD.2.2.1.keep rfl rfl rfl rfl rfl rfl rfl rfl rfl rfl rfl rfl, hD.2.2.2.keep rfl rfl rfl rfl⟩⟩⟩
    obtain ⟨f1, f2, f3, f4⟩ := hD.1
    obtain ⟨g0, g1, g2, g3, g4, g5, g6⟩ := f2
    refine ⟨fun j hj => ?_, ⟨⟨bA.1, by show A.toInt ≤ 39; omega⟩, g1, g2, g3, g4, g5, g6⟩, f3, f4⟩
    match j, hj with
    | 0, _ => rfl
    | 1, _ => exact f1 1 (by decide)
    | 2, _ => exact f1 2 (by decide)
    | 3, _ => exact f1 3 (by decide)
    | 4, _ => exact f1 4 (by decide)
    | 5, _ => exact f1 5 (by decide)
    | 6, _ => exact f1 6 (by decide)
    | 7, _ => exact f1 7 (by decide)
  · rw [if_neg h1]
    rw [t_lt, i40] at h1
    rw [if_pos (by rw [t_lt, i39]; omega), if_pos rfl, letv_eq, gd_t (Or.inl rfl)]
    exact ⟨0, uc, rfl, Or.inl rfl, fun _ _ => rfl, ok_some.mpr ⟨rfl, FrC.st (by decide), fun h => absurd h (by decide)⟩⟩
theorem st_108 {uc w : Mm} {x : Nat → Int32} {n i p e : Nat} (hL : Lt uc x n) (hp : p ≤ 96) (hi : i < 49) (c : x p = 108) (ok : (EN x p).2 = true) (h87 : w 87 i = x p) (hV : VAL x w i p) (hD : WD uc w) : ST uc w i p e := by
  rw [EN_108 c] at ok
  have hd := dgs ok
  have bA := num2 1 0 (by decide) (by decide) hd
  have v1 := hV.2.2.2.1 c
  have q1 : gX5_number (nI (p + 1)) 1 uc = some (numI x (p + 1) 1) := num_C (m := 1) hL (by omega)
  change 0 ≤ (numI x (p + 1) 1).toInt ∧ (numI x (p + 1) 1).toInt < 10 ^ 1 at bA
  generalize numI x (p + 1) 1 = A at *
  have n1 : nI p + 1 = nI (p + 1) := nI_s (by omega)
  have tl : gX5_tellStatement (nI p) (nI e) 15 uc = bI (gX5_tellLag (nI p) 27 uc) fun r4 u3 => gd (r4 = 0 ∨ r4 = 1) (some (r4, u3)) := by
    unfold gX5_tellStatement gX5_tellStatement_b
    rw [at52 hL (by omega), Option.bind_some, c, if_neg (by decide), if_neg (by decide), if_neg (by decide), if_pos rfl]
  have cm : gX11_comes (nI i) w = bI (gX11_settingsCome (nI i) w) fun r25 u24 => gd (r25 = 0 ∨ r25 = 1) (some (r25, u24)) := by
    unfold gX11_comes gX11_comes_b
    rw [letv_eq, gd_t (ix_nI hi (by decide)), ixn_nI (by omega), h87, c, if_neg (by decide), if_neg (by decide), if_neg (by decide), if_neg (by decide)]
  have se : gX11_settingsCome (nI i) w = if A < 6 then gX11_settingsCome_205 (nI (9 * i)) 1 w else gX11_settingsCome_205 (nI (9 * i)) 0 w := by
    unfold gX11_settingsCome gX11_settingsCome_b
    rw [letv_eq, e9_i hi, gd_t (ix_nI hi (by decide)), ixn_nI (by omega), h87, c, if_neg (by decide), gd_t (ix_nI hi (by decide)), if_neg (by decide), gd_t (ix_nI (by omega) (by decide)), ixn_nI (by omega), v1]
  unfold ST
  rw [tl, cm, se]
  unfold gX5_tellLag gX5_tellLag_b gX11_settingsCome_205
  rw [n1, q1, Option.bind_some]
  by_cases h1 : A < 6
  · rw [if_pos h1]
    rw [t_lt, i6] at h1
    rw [if_neg (fun h => by rw [t_lt, i5] at h; omega), if_neg (by decide), gd_t (ix_nI (by omega) (by decide)), ixn_nI (by omega), v1]
    refine ⟨1, stm (stm uc 27 6 A) 27 9 0, rfl, Or.inr rfl, fun c hc => by rw [stm_c (by omega), stm_c (by omega)], ?_⟩
    -- the reference's state before the WORK is forgotten again
    have key : ∀ y : Mm, FrC w y → (∀ j, j < 6 → y 77 j = y 77 j) → y 74 8 = A → (∀ j, j ≠ 8 → y 74 j = w 74 j) → (∀ c, c ≠ 74 → c ≠ 77 → y c = w c) → Ok ((gX11_forgetWork y).bind fun u5 => gd ((1 : Int32) = 0 ∨ (1 : Int32) = 1) (some ((1 : Int32), u5))) (fun q => Ok (gd (q.1 = 0 ∨ q.1 = 1) (some (q.1, q.2))) (fun q => q.1 = 1 ∧ FrC w q.2 ∧ ((1 : Int32) = 1 → WD (stm (stm uc 27 6 A) 27 9 0) q.2))) := by
      intro y k1 _ k2 k3 k4
      rw [fgw_eq, Option.bind_some, gd_t (Or.inr rfl)]
      refine ok_some.mpr ?_
      show Ok (gd ((1 : Int32) = 0 ∨ (1 : Int32) = 1) (some ((1 : Int32), fgw y))) _
      rw [gd_t (Or.inr rfl)]
      have z : ∀ c, c ≠ 77 → fgw y c = y c := fun c hc => by
        show stm _ _ _ _ c = _
        rw [stm_c hc, stm_c hc, stm_c hc, stm_c hc, stm_c hc, stm_c hc]
      have z74 : ∀ j, fgw y 74 j = y 74 j := fun j => by rw [z 74 (by decide)]
      refine ok_some.mpr ⟨rfl, ⟨fun c hc => (z c (by omega)).trans (k1.1 c hc), fun j hj => ?_⟩, fun _ => ⟨?_, ?_, ?_, ?_⟩⟩
      · exact (z74 j).trans (k1.2 j hj)
      · obtain ⟨f1, f2, f3, f4⟩ := hD.1
        obtain ⟨g0, g1, g2, g3, g4, g5, g6⟩ := f2
        refine ⟨fun j hj => ?_, ⟨g0, g1, g2, g3, g4, g5, ⟨bA.1, by show A.toInt ≤ 5; omega⟩⟩, UW_0 _ (fgw_0 y), f4⟩
        show stm (stm uc 27 6 A) 27 9 0 27 j = fgw y 74 (j + 2)
        rw [z74]
        match j, hj with
        | 0, _ => exact (f1 0 (by decide)).trans (k3 2 (by decide)).symm
        | 1, _ => exact (f1 1 (by decide)).trans (k3 3 (by decide)).symm
        | 2, _ => exact (f1 2 (by decide)).trans (k3 4 (by decide)).symm
        | 3, _ => exact (f1 3 (by decide)).trans (k3 5 (by decide)).symm
        | 4, _ => exact (f1 4 (by decide)).trans (k3 6 (by decide)).symm
        | 5, _ => exact (f1 5 (by decide)).trans (k3 7 (by decide)).symm
        | 6, _ => exact k2.symm
        | 7, _ => exact (f1 7 (by decide)).trans (k3 9 (by decide)).symm
      · exact hD.2.1.keep rfl rfl ((z 75 (by decide)).trans (k4 75 (by decide) (by decide))) ((z 76 (by decide)).trans (k4 76 (by decide) (by decide)))
      · exact hD.2.2.1.keep rfl rfl rfl rfl rfl rfl ((z74 11).trans (k3 11 (by decide))) ((z 78 (by decide)).trans (k4 78 (by decide) (by decide))) ((z 79 (by decide)).trans (k4 79 (by decide) (by decide))) ((z 80 (by decide)).trans (k4 80 (by decide) (by decide))) ((z 81 (by decide)).trans (k4 81 (by decide) (by decide))) ((z 82 (by decide)).trans (k4 82 (by decide) (by decide)))
      · exact hD.2.2.2.keep rfl rfl ((z74 18).trans (k3 18 (by decide))) ((z 83 (by decide)).trans (k4 83 (by decide) (by decide)))
    rw [ok_bI]
    by_cases c8 : A = w 74 8
    · rw [lagB_t c8, Option.bind_some]
      exact key (stm w 74 8 A) (FrC.st (by decide)) (fun _ _ => rfl) stm_r (fun j hj => stm_s hj) (fun c a _ => stm_c a)
    · rw [lagB_f c8, Option.bind_some]
      refine key (stm (fgw w) 74 8 A) ⟨fun c hc => ?_, fun j hj => ?_⟩ (fun _ _ => rfl) stm_r (fun j hj => ?_) (fun c a b => ?_)
      · rw [stm_c (by omega)]
        show stm _ _ _ _ c = _
        rw [stm_c (by omega), stm_c (by omega), stm_c (by omega), stm_c (by omega), stm_c (by omega), stm_c (by omega)]
      · rw [stm_s (fun e => hj (by rw [e]; decide))]
        rfl
      · rw [stm_s hj]
        rfl
      · rw [stm_c a]
        show stm _ _ _ _ c = _
        rw [stm_c b, stm_c b, stm_c b, stm_c b, stm_c b, stm_c b]
  · rw [if_neg h1]
    rw [t_lt, i6] at h1
    rw [if_pos (by rw [t_lt, i5]; omega), if_pos rfl, gd_t (Or.inl rfl)]
    exact ⟨0, uc, rfl, Or.inl rfl, fun _ _ => rfl, ok_some.mpr ⟨rfl, FrC.rf w, fun h => absurd h (by decide)⟩⟩
theorem st_114 {uc w : Mm} {x : Nat → Int32} {n i p e : Nat} (hL : Lt uc x n) (hp : p ≤ 96) (hi : i < 49) (c : x p = 114) (ok : (EN x p).2 = true) (h87 : w 87 i = x p) (hV : VAL x w i p) (hD : WD uc w) : ST uc w i p e := by
  rw [EN_114 c] at ok
  have hd := dgs ok
  have bA := num2 1 0 (by decide) (by decide) hd
  have bB := num2 1 1 (by decide) (by decide) hd
  have bC := num2 2 2 (by decide) (by decide) hd
  obtain ⟨v1, v2, v3⟩ := hV.2.2.2.2.1 c
  have q1 : gX5_number (nI (p + 1)) 1 uc = some (numI x (p + 1) 1) := num_C (m := 1) hL (by omega)
  have q2 : gX5_number (nI (p + 2)) 1 uc = some (numI x (p + 2) 1) := num_C (m := 1) hL (by omega)
  have q3 : gX5_number (nI (p + 3)) 2 uc = some (numI x (p + 3) 2) := num_C (m := 2) hL (by omega)
  change 0 ≤ (numI x (p + 1) 1).toInt ∧ (numI x (p + 1) 1).toInt < 10 ^ 1 at bA
  change 0 ≤ (numI x (p + 2) 1).toInt ∧ (numI x (p + 2) 1).toInt < 10 ^ 1 at bB
  change 0 ≤ (numI x (p + 3) 2).toInt ∧ (numI x (p + 3) 2).toInt < 10 ^ 2 at bC
  generalize numI x (p + 1) 1 = A at *
  generalize numI x (p + 2) 1 = B at *
  generalize numI x (p + 3) 2 = C at *
  have n1 : nI p + 1 = nI (p + 1) := nI_s (by omega)
  have n2 : nI p + 2 = nI (p + 2) := nI_a (b := 2) (by omega)
  have n3 : nI p + 3 = nI (p + 3) := nI_a (b := 3) (by omega)
  have m1 : nI (9 * i) + 1 = nI (9 * i + 1) := nI_s (by omega)
  have m2 : nI (9 * i) + 2 = nI (9 * i + 2) := nI_a (b := 2) (by omega)
  have tl : gX5_tellStatement (nI p) (nI e) 15 uc = bI (gX5_tellRoad (nI p) 25 uc) fun r4 u3 => gd (r4 = 0 ∨ r4 = 1) (some (r4, u3)) := by
    unfold gX5_tellStatement gX5_tellStatement_b
    rw [at52 hL (by omega), Option.bind_some, c, if_neg (by decide), if_neg (by decide), if_neg (by decide), if_neg (by decide), if_pos rfl]
  have cm : gX11_comes (nI i) w = (gX11_isPlace A).bind fun r13 => if r13 = 0 then gX11_comes_170 (nI (9 * i)) w else (gX11_isPlace B).bind fun r16 => if r16 = 0 then gX11_comes_170 (nI (9 * i)) w else if A = B then gX11_comes_170 (nI (9 * i)) w else gX11_comes_171 (nI (9 * i)) 1 w := by
    unfold gX11_comes gX11_comes_b
    rw [letv_eq, gd_t (ix_nI hi (by decide)), ixn_nI (by omega), h87, c, if_neg (by decide), if_neg (by decide), if_pos rfl, e9_i hi, m1, gd_t (ix_nI (by omega) (by decide)), gd_t (ix_nI (by omega) (by decide)), gd_t (ix_nI (by omega) (by decide)), gd_t (ix_nI (by omega) (by decide)), ixn_nI (by omega), ixn_nI (by omega), v1, v2]
  have no : Ok (gX11_comes_170 (nI (9 * i)) w) (fun q => q.1 = 0 ∧ FrC w q.2 ∧ ((0 : Int32) = 1 → WD uc q.2)) := by
    unfold gX11_comes_170 gX11_comes_171
    rw [if_pos rfl, gd_t (Or.inl rfl)]
    exact ok_some.mpr ⟨rfl, FrC.rf w, fun h => absurd h (by decide)⟩
  have tr : gX5_tellRoad (nI p) 25 uc = (gX10_areTwoPlaces A B).bind fun r3 => if r3 = 0 then some (0, uc) else (gX6_lay 25 A B C uc).bind fun u6 => some (1, u6) := by
    unfold gX5_tellRoad gX5_tellRoad_b
    rw [n1, n2, n3, q1, q2, q3, Option.bind_some, Option.bind_some]
    rfl
  unfold ST
  rw [tl, cm, tr]
  have cno : (¬ (0 ≤ A.toInt ∧ A.toInt < 8) ∨ ¬ (0 ≤ B.toInt ∧ B.toInt < 8) ∨ A = B) → (bI ((gX10_areTwoPlaces A B).bind fun r3 => if r3 = 0 then some (0, uc) else (gX6_lay 25 A B C uc).bind fun u6 => some (1, u6)) fun r4 u3 => gd (r4 = 0 ∨ r4 = 1) (some (r4, u3))) = some ((0 : Int32), uc) := by
    intro h
    rw [two_f h]
    rfl
  by_cases pA : 0 ≤ A.toInt ∧ A.toInt < 8
  · rw [mPlace_t pA, Option.bind_some, if_neg (by decide)]
    by_cases pB : 0 ≤ B.toInt ∧ B.toInt < 8
    · rw [mPlace_t pB, Option.bind_some, if_neg (by decide)]
      by_cases eAB : A = B
      · rw [if_pos eAB]
        exact ⟨0, uc, cno (Or.inr (Or.inr eAB)), Or.inl rfl, fun _ _ => rfl, no⟩
      · rw [if_neg eAB]
        obtain ⟨a, rfl, ha⟩ := nI_upto (a := A) (N := 7) pA.1 (by omega)
        obtain ⟨b, rfl, hb⟩ := nI_upto (a := B) (N := 7) pB.1 (by omega)
        have hne : a ≠ b := fun h => eAB (by rw [h])
        refine ⟨1, laid uc 26 (8 * a + b) (8 * b + a) C, ?_, Or.inr rfl, fun c hc => ?_, ?_⟩
        · rw [two_t (by omega) (by omega) hne, Option.bind_some, if_neg (by decide), lay_eq (by omega) (by omega)]
          rfl
        · unfold laid
          rw [stm_c (by omega), stm_c (by omega)]
        · unfold gX11_comes_171
          rw [if_neg (by decide), m1, m2, gd_t (ix_nI (by omega) (by decide)), gd_t (ix_nI (by omega) (by decide)), gd_t (ix_nI (by omega) (by decide)), ixn_nI (by omega), ixn_nI (by omega), ixn_nI (by omega), v1, v2, v3, put_eq (by omega) (by omega), Option.bind_some, gd_t (Or.inr rfl)]
          refine ok_some.mpr ⟨rfl, ?_, fun _ => ⟨hD.1.keep rfl ⟨rfl, rfl, rfl, rfl, rfl, rfl, rfl, rfl⟩ rfl, hD.2.1.keep rfl rfl rfl rfl, hD.2.2.1.keep rfl rfl rfl rfl rfl rfl rfl rfl rfl rfl rfl rfl, ?_⟩⟩
          · unfold laid
            exact (FrC.sc (by decide)).tr (FrC.sc (by decide))
          · obtain ⟨r1, r2, r3⟩ := hD.2.2.2
            exact ⟨r1, r2, laid_ok (by omega) (by omega) r3 ⟨bC.1, by omega⟩⟩
    · rw [mPlace_f pB, Option.bind_some, if_pos rfl]
      exact ⟨0, uc, cno (Or.inr (Or.inl pB)), Or.inl rfl, fun _ _ => rfl, no⟩
  · rw [mPlace_f pA, Option.bind_some, if_pos rfl]
    exact ⟨0, uc, cno (Or.inl pA), Or.inl rfl, fun _ _ => rfl, no⟩
