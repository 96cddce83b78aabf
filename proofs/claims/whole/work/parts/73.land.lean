/-! Calls: land. -/
/-- the copy of a world, as cpw, for worlds that lie side by side -/
theorem cpv {k0 k1 : Nat} (hd : k0 + 12 < k1 ∨ k1 + 12 < k0) (u : Mm) : Ok (gX9_copyFrom k0 k1 u) (fun u' => (∀ c, (c < k0 + 2 ∨ k0 + 12 < c) → u' c = u c) ∧ u' (k0 + 4) 0 = u (k1 + 4) 0 ∧ u' (k0 + 10) 0 = u (k1 + 10) 0 ∧ (∀ i, i < 8 → u' (k0 + 2) i = u (k1 + 2) i) ∧ (∀ i, i < 8 → u' (k0 + 3) i = u (k1 + 3) i) ∧ (∀ i, i < 8 → u' (k0 + 5) i = u (k1 + 5) i) ∧ (∀ i, i < 8 → u' (k0 + 6) i = u (k1 + 6) i) ∧ (∀ i, i < 8 → u' (k0 + 7) i = u (k1 + 7) i) ∧ (∀ i, i < 8 → u' (k0 + 8) i = u (k1 + 8) i) ∧ (∀ i, i < 8 → u' (k0 + 9) i = u (k1 + 9) i) ∧ (∀ i, i < 64 → u' (k0 + 11) i = u (k1 + 11) i) ∧ ∀ i, i < 10 → u' (k0 + 12) i = u (k1 + 12) i) := by
  unfold gX9_copyFrom gX9_copyFrom_b gX0_copyFrom gX0_copyFrom_b
  rw [ok_bind]
  refine (cp_air (k0 := k0 + 1) (k1 := k1 + 1) (by omega) 8 0 FU u rfl (by decide)).mono (fun u1 h1 => ?_)
  obtain ⟨f1, a2, a3⟩ := h1
  unfold gX1_copyFrom gX1_copyFrom_b
  rw [ok_bind, letv_eq]
  refine (cp_fld (k0 := k0 + 4) (k1 := k1 + 4) (by omega) 8 0 FU _ rfl (by decide)).mono (fun u2 h2 => ?_)
  obtain ⟨f2, b5, b6, b7, b8, b9⟩ := h2
  unfold gX6_copyFrom gX6_copyFrom_b
  rw [ok_bind, letv_eq]
  refine (cp_rd (k0 := k0 + 10) (k1 := k1 + 10) (by omega) 64 0 FU _ rfl (by decide)).mono (fun u3 h3 => ?_)
  obtain ⟨f3, c11⟩ := h3
  have F2 : ∀ c, (c < k0 + 4 ∨ k0 + 9 < c) → u2 c = u1 c := fun c hc => (f2 c (by omega) (by omega) (by omega) (by omega) (by omega)).trans (stm_c (by omega))
  have F1 : ∀ c, (c < k0 + 2 ∨ k0 + 3 < c) → u1 c = u c := fun c hc => f1 c (by omega) (by omega)
  have F3 : ∀ c, (c < k0 + 10 ∨ k0 + 11 < c) → u3 c = u2 c := fun c hc => (f3 c (by omega)).trans (stm_c (by omega))
  have m : ∀ a, a < 13 → (k1 + a < k0 + 2 ∨ k0 + 12 < k1 + a) := fun a ha => by omega
  unfold gX2_copyFrom gX2_copyFrom_b
  simp only [letv_eq, Option.bind_some]
  refine ok_some.mpr ⟨fun c hc => ?_, ?_, ?_, fun i hi => ?_, fun i hi => ?_, fun i hi => ?_, fun i hi => ?_, fun i hi => ?_, fun i hi => ?_, fun i hi => ?_, fun i hi => ?_, fun i hi => ?_⟩
  · repeat rw [stm_c (show c ≠ k0 + 12 by omega)]
    rw [F3 c (by omega), F2 c (by omega), F1 c (by omega)]
  · repeat rw [stm_c (show k0 + 4 ≠ k0 + 12 by omega)]
    rw [F3 _ (by omega), f2 _ (by omega) (by omega) (by omega) (by omega) (by omega), stm_r, F1 _ (by omega)]
  · repeat rw [stm_c (show k0 + 10 ≠ k0 + 12 by omega)]
    rw [f3 _ (by omega), stm_r, F2 _ (by omega), F1 _ (by omega)]
  · repeat rw [stm_c (show k0 + 2 ≠ k0 + 12 by omega)]
    rw [F3 _ (by omega), F2 _ (by omega), show k0 + 2 = k0 + 1 + 1 by omega, a2 i, if_pos (by omega)]
  · repeat rw [stm_c (show k0 + 3 ≠ k0 + 12 by omega)]
    rw [F3 _ (by omega), F2 _ (by omega), show k0 + 3 = k0 + 1 + 2 by omega, a3 i, if_pos (by omega)]
  · repeat rw [stm_c (show k0 + 5 ≠ k0 + 12 by omega)]
    rw [F3 _ (by omega), show k0 + 5 = k0 + 4 + 1 by omega, b5 i, if_pos (by omega), stm_c (by omega), F1 _ (by omega)]
  · repeat rw [stm_c (show k0 + 6 ≠ k0 + 12 by omega)]
    rw [F3 _ (by omega), show k0 + 6 = k0 + 4 + 2 by omega, b6 i, if_pos (by omega), stm_c (by omega), F1 _ (by omega)]
  · repeat rw [stm_c (show k0 + 7 ≠ k0 + 12 by omega)]
    rw [F3 _ (by omega), show k0 + 7 = k0 + 4 + 3 by omega, b7 i, if_pos (by omega), stm_c (by omega), F1 _ (by omega)]
  · repeat rw [stm_c (show k0 + 8 ≠ k0 + 12 by omega)]
    rw [F3 _ (by omega), show k0 + 8 = k0 + 4 + 4 by omega, b8 i, if_pos (by omega), stm_c (by omega), F1 _ (by omega)]
  · repeat rw [stm_c (show k0 + 9 ≠ k0 + 12 by omega)]
    rw [F3 _ (by omega), show k0 + 9 = k0 + 4 + 5 by omega, b9 i, if_pos (by omega), stm_c (by omega), F1 _ (by omega)]
  · repeat rw [stm_c (show k0 + 11 ≠ k0 + 12 by omega)]
    rw [show k0 + 11 = k0 + 10 + 1 by omega, c11 i, if_pos (by omega), stm_c (by omega), F2 _ (by omega), F1 _ (by omega)]
  · have g : u3 (k1 + 12) = u (k1 + 12) := by rw [F3 _ (by omega), F2 _ (by omega), F1 _ (by omega)]
    have m12 : (k1 + 12 = k0 + 12) = False := eq_false (by omega)
    have hi' : i = 0 ∨ i = 1 ∨ i = 2 ∨ i = 3 ∨ i = 4 ∨ i = 5 ∨ i = 6 ∨ i = 7 ∨ i = 8 ∨ i = 9 := by omega
    rcases hi' with rfl | rfl | rfl | rfl | rfl | rfl | rfl | rfl | rfl | rfl <;> simp +decide only [stm_d, ↓reduceIte, eq_self, m12, g]
/-- the letters gone, the rest kept -/
theorem R_of {u z : Mm} (hR : R u) (hW : WN z) (h1 : z 1 = u 1) (hp : ∀ c, 30 ≤ c → c ≤ 40 → z c = u c) (h41 : z 41 1 = u 41 1) (hP : PR z) (h54 : z 54 = u 54) (h55 : z 55 = u 55) (h56 : z 56 = u 56) (h84 : z 84 = u 84) (h91 : z 91 = u 91) (h100 : z 100 = u 100) (h33 : z 74 33 = u 74 33) (h58 : z 74 58 = u 74 58) (h52 : z 52 0 = 0) (h23 : z 74 23 = 0) : R z := by
  refine ⟨hW, ?_, hP, ⟨0, by decide, h52, h23, fun i hi => absurd hi (Nat.not_lt_zero _)⟩, NR_keep hR.2.2.2.2.1 h54 h55 h100 h58, XR_keep hR.2.2.2.2.2 h56 h84⟩
  have := hR.2.1
  unfold IR at this ⊢
  rw [h1, h33, hp 30 (by decide) (by decide), hp 31 (by decide) (by decide), hp 32 (by decide) (by decide), hp 33 (by decide) (by decide), hp 34 (by decide) (by decide), hp 35 (by decide) (by decide), hp 36 (by decide) (by decide), hp 37 (by decide) (by decide), hp 38 (by decide) (by decide), hp 39 (by decide) (by decide), hp 40 (by decide) (by decide), h91]
  exact this
def ltX (u : Mm) (n : Nat) : Nat → Int32 := fun j => if j < n then u 53 j else -1
/-- the reference's places ahead of its reading -/
def pre4 (u : Mm) : Mm := stm (stm (stm (stm u 74 19 0) 74 24 0) 74 25 0) 74 26 0
theorem pre4_c {u : Mm} {c : Nat} (h : c ≠ 74) : pre4 u c = u c := by unfold pre4; rw [stm_c h, stm_c h, stm_c h, stm_c h]
theorem pre4_s {u : Mm} {j : Nat} (a : j ≠ 19) (b : j ≠ 24) (c : j ≠ 25) (d : j ≠ 26) : pre4 u 74 j = u 74 j := by unfold pre4; rw [stm_s d, stm_s c, stm_s b, stm_s a]
theorem landM_eq (u : Mm) : gX11_land u = gX11_land_20_L FU (pre4 u) := rfl
theorem view_eq {u w : Mm} (h1 : ∀ c, 75 ≤ c → c ≤ 83 → w c = u c) (h2 : ∀ j, j ∈ 18 :: lC → w 74 j = u 74 j) : ∀ p, p < 136 → mV w p = mV u p := by
  intro p hp
  rw [mV_sp, mV_sp]
  have key : ∀ p : Nat, p < 136 → (sp p).1 = 74 → (sp p).2 ∈ 18 :: lC := by decide +kernel
  have hc := sp_c p hp
  by_cases c : (sp p).1 = 74
  · have := key p hp c
    rw [c]
    exact h2 _ this
  · rw [h1 _ (by omega) hc.2]
theorem WD_told {u u1 w : Mm} (hR : R u) (hm : ∀ p, p < 136 → mV w p = mV u p) (s4 : u1 19 0 = u 6 0) (s10 : u1 25 0 = u 12 0) (t2 : ∀ i, i < 8 → u1 17 i = u 4 i) (t3 : ∀ i, i < 8 → u1 18 i = u 5 i) (t5 : ∀ i, i < 8 → u1 20 i = u 7 i) (t6 : ∀ i, i < 8 → u1 21 i = u 8 i) (t7 : ∀ i, i < 8 → u1 22 i = u 9 i) (t8 : ∀ i, i < 8 → u1 23 i = u 10 i) (t9 : ∀ i, i < 8 → u1 24 i = u 11 i) (t11 : ∀ i, i < 64 → u1 26 i = u 13 i) (tf : ∀ i, i < 10 → u1 27 i = u 14 i) : WD u1 w := by
  obtain ⟨⟨f0, f1, f2, f3, f4, f5, f6, f7⟩, hF, hU, h7, ⟨k0, kb⟩, ⟨c0, cb⟩, rows, rds, fb⟩ := hR.wc
  refine WD.fr (w := u) ⟨⟨fun i hi => ?_, ?_, ?_, ?_⟩, fun i hi => ⟨(t2 i hi).trans (rows i hi).1, (t3 i hi).trans (rows i hi).2.1⟩, ⟨s4.trans k0, by rw [s4]; exact kb, fun i hi => ?_, fun i hi => ?_⟩, ⟨s10.trans c0, by rw [s10]; exact cb, fun i hi => ?_⟩⟩ hm
  · rw [tf i (by omega)]
    match i, hi with
    | 0, _ => exact f0
    | 1, _ => exact f1
    | 2, _ => exact f2
    | 3, _ => exact f3
    | 4, _ => exact f4
    | 5, _ => exact f5
    | 6, _ => exact f6
    | 7, _ => exact f7
  · unfold FB
    rw [tf 0 (by decide), tf 1 (by decide), tf 2 (by decide), tf 3 (by decide), tf 4 (by decide), tf 5 (by decide), tf 6 (by decide)]
    exact hF
  · rw [tf 9 (by decide), tf 6 (by decide)]
    exact hU
  · rw [tf 7 (by decide)]
    exact h7
  · obtain ⟨a1, a2, a3, a4, a5, a6, a7⟩ := rows i hi
    exact ⟨(t5 i hi).trans a3, (t6 i hi).trans a4, (t7 i hi).trans a5, (t8 i hi).trans a6, (t9 i hi).trans a7⟩
  · rw [s4] at hi
    have h8 : i < 8 := by omega
    rw [t6 i h8, t7 i h8, t8 i h8, t9 i h8]
    exact fb i hi
  · rw [t11 i hi, t11 (8 * (i % 8) + i / 8) (by omega)]
    exact rds i hi
theorem lookI_9 {x : Nat → Int32} {n N : Nat} (hN : pos x N ≤ 96) : (lookI x n N = -9) = ¬ (N = 0 ∨ pos x N < n) := by
  unfold lookI
  have := EN_le x (pos x N)
  by_cases c : N = 0 ∨ pos x N < n
  · rw [if_pos c]
    refine propext ⟨fun h => ?_, fun h => absurd c h⟩
    have h2 := congrArg Int32.toInt h
    rw [t_nI (by omega), im9] at h2
    omega
  · rw [if_neg c]
    exact propext ⟨fun _ => c, fun _ => rfl⟩
theorem c_land (u : Mm) (hR : R u) : Both (gX10_land u) gX11_land := by
  obtain ⟨n, hn, e52, e23, hrow⟩ := hR.2.2.2.1
  obtain ⟨u1, eu1, f1, s4, s10, t2, t3, t5, t6, t7, t8, t9, t11, tf⟩ := cpv (k0 := 15) (k1 := 2) (by decide) u
  have hw := hR.wc
  have fo : ∀ c, c < 17 ∨ 27 < c → u1 c = u c := f1
  have hx : ∀ j, n ≤ j → ltX u n j = -1 := fun j hj => if_neg (by omega)
  have hL : Lt u1 (ltX u n) n := ⟨hn, by rw [fo 52 (by omega)]; exact e52, fun j hj => by rw [fo 53 (by omega)]; exact (if_pos hj).symm, hx⟩
  obtain ⟨N, hN, hg, hb⟩ := first_bad hx hn
  have lp := pos_96 hx hn hg
  have elook := look_C hL hN hg hb
  -- the reference's reading, from any state that holds u's letters
  have rd : ∀ v : Mm, v 85 = u 85 → v 74 23 = u 74 23 → LtM (pre4 v) (ltX u n) n ∧ RS (pre4 v) (0, true) ∧ pre4 v 74 26 = 0 := by
    intro v h1 h2
    refine ⟨⟨hn, ?_, fun j hj => ?_, hx⟩, ⟨rfl, rfl⟩, rfl⟩
    · rw [pre4_s (by decide) (by decide) (by decide) (by decide), h2]; exact e23
    · rw [pre4_c (by decide), h1, ← (hrow j hj).1]
      exact (if_pos hj).symm
  have eC : gX10_land u = (if lookI (ltX u n) n N = -9 then bI (gX5_tell 15 u1) fun r5 u4 => gX10_land_44 r5 u4 else gX10_land_44 ((-1000) - lookI (ltX u n) n N) u1) := by
    unfold gX10_land gX10_land_b
    rw [eu1, Option.bind_some, elook, Option.bind_some]
  rw [eC]
  by_cases hl : N = 0 ∨ pos (ltX u n) N < n
  · -- a letter out of its place
    have ln := EN_le (ltX u n) (pos (ltX u n) N)
    obtain ⟨q, hq⟩ : ∃ q, (EN (ltX u n) (pos (ltX u n) N)).1 = q := ⟨_, rfl⟩
    have e9 : ¬ lookI (ltX u n) n N = -9 := fun h => by rw [lookI_9 lp] at h; exact h hl
    have el : lookI (ltX u n) n N = nI q := by unfold lookI; rw [if_pos hl, hq]
    have hneg : ((-1000) - nI q).toInt = -1000 - (q : Int) := by
      have h1 := t_nI (show q < 2147483648 by omega)
      have h2 : (-1000 : Int32).toInt = -1000 := rfl
      rw [t_sub (by rw [h1, h2]; omega) (by rw [h1, h2]; omega), h1, h2]
    rw [if_neg e9, el]
    obtain ⟨g1, g2, g3⟩ := rd (stm u1 52 0 0) (by rw [stm_c (by decide), fo 85 (by omega)]) (by rw [stm_c (by decide), fo 74 (by omega)])
    have main : Ok (gX11_land (stm u1 52 0 0)) (fun z => z.1 = (-1000) - nI q ∧ ∃ w, FrL (pre4 (stm u1 52 0 0)) w ∧ z.2 = stm w 74 23 0) := by
      rw [landM_eq]
      refine read_all g1 g2 g3 hN hg hb (fun w _ _ _ _ h => absurd hl h) (fun w k1 k2 _ => ?_)
      rw [hq] at k2
      unfold gX11_land_52
      rw [letv_eq, if_neg (show ¬ stm w 74 23 0 74 25 = 0 from fun e => by rw [stm_s (by decide), show w 74 25 = 1 from k2.2] at e; exact absurd e (by decide)), stm_s (by decide), show w 74 24 = nI q from k2.1]
      exact ok_some.mpr ⟨rfl, w, k1, rfl⟩
    obtain ⟨⟨r, z⟩, ez, z1, w, k1, z2⟩ := main
    change r = _ at z1
    change z = _ at z2
    subst z1
    subst z2
    have zc : ∀ c, c < 15 ∨ 27 < c → c ≠ 52 → c ≠ 74 → c ≠ 86 → c ≠ 87 → c ≠ 88 → c ≠ 89 → stm w 74 23 0 c = u c := fun c h0 h1 h2 h3 h4 h5 h6 => by
      rw [stm_c h2, k1.1 c h2 h3 h4 h5 h6, pre4_c h2, stm_c h1, fo c (by omega)]
    have z74 : ∀ j, j ≠ 19 → j ≠ 23 → j ≠ 24 → j ≠ 25 → j ≠ 26 → stm w 74 23 0 74 j = u 74 j := fun j a b c d e => by
      rw [stm_s b, k1.2 j c d e, pre4_s a c d e, stm_c (by decide), fo 74 (by omega)]
    refine ⟨(-1000) - nI q, stm u1 52 0 0, stm w 74 23 0, ?_, ez, ?_⟩
    · unfold gX10_land_44 gX7_drop gX7_drop_b
      rw [letv_eq, Option.bind_some, if_pos (by rw [t_lt, i0]; omega)]
    · refine R_of hR ?_ (zc 1 (by omega) (by decide) (by decide) (by decide) (by decide) (by decide) (by decide)) (fun c h1 h2 => zc c (by omega) (by omega) (by omega) (by omega) (by omega) (by omega) (by omega)) (by rw [zc 41 (by omega) (by decide) (by decide) (by decide) (by decide) (by decide) (by decide)]) ?_ (zc 54 (by omega) (by decide) (by decide) (by decide) (by decide) (by decide) (by decide)) (zc 55 (by omega) (by decide) (by decide) (by decide) (by decide) (by decide) (by decide)) (zc 56 (by omega) (by decide) (by decide) (by decide) (by decide) (by decide) (by decide)) (zc 84 (by omega) (by decide) (by decide) (by decide) (by decide) (by decide) (by decide)) (zc 91 (by omega) (by decide) (by decide) (by decide) (by decide) (by decide) (by decide)) (zc 100 (by omega) (by decide) (by decide) (by decide) (by decide) (by decide) (by decide)) (z74 33 (by decide) (by decide) (by decide) (by decide) (by decide)) (z74 58 (by decide) (by decide) (by decide) (by decide) (by decide)) ?_ stm_r
      · have ex : ∀ p, p < 136 → mV (stm w 74 23 0) p = mV u p := view_eq (fun c h1 h2 => zc c (by omega) (by omega) (by omega) (by omega) (by omega) (by omega) (by omega)) (fun j hj => by
          have : ∀ j, j ∈ 18 :: lC → j ≠ 19 ∧ j ≠ 23 ∧ j ≠ 24 ∧ j ≠ 25 ∧ j ≠ 26 := by decide
          obtain ⟨a, b, c, d, e⟩ := this j hj
          exact z74 j a b c d e)
        have z15 : ∀ c, c < 15 → stm w 74 23 0 c = u c := fun c h => zc c (by omega) (by omega) (by omega) (by omega) (by omega) (by omega) (by omega)
        exact WR_cg hR.1 (fun i _ => by rw [z15 4 (by decide), z15 5 (by decide), z15 7 (by decide), z15 8 (by decide), z15 9 (by decide), z15 10 (by decide), z15 11 (by decide)]; exact ⟨rfl, rfl, rfl, rfl, rfl, rfl, rfl⟩) (by rw [z15 6 (by decide)]) (by rw [z15 12 (by decide)]) (fun i _ => by rw [z15 13 (by decide)]) (fun i _ => by rw [z15 14 (by decide)]) ex
      · exact PR_keep hR.2.2.1 (by rw [zc 41 (by omega) (by decide) (by decide) (by decide) (by decide) (by decide) (by decide)]) (z74 40 (by decide) (by decide) (by decide) (by decide) (by decide)) (by rw [zc 41 (by omega) (by decide) (by decide) (by decide) (by decide) (by decide) (by decide)]) (zc 93 (by omega) (by decide) (by decide) (by decide) (by decide) (by decide) (by decide)) (fun z hz => zc _ (by omega) (by omega) (by omega) (by omega) (by omega) (by omega) (by omega))
      · rw [stm_c (by decide), k1.1 52 (by decide) (by decide) (by decide) (by decide) (by decide), pre4_c (by decide), stm_r]
  · -- every statement in its place
    have e9 : lookI (ltX u n) n N = -9 := by rw [lookI_9 lp]; exact hl
    rw [if_pos e9]
    have toWD : ∀ w : Mm, (∀ p, p < 136 → mV w p = mV u p) → WD u1 w := fun w hm => WD_told hR hm s4 s10 t2 t3 t5 t6 t7 t8 t9 t11 tf
    -- the view of a state read
    have vw : ∀ v w : Mm, (∀ c, 74 ≤ c → c ≤ 83 → v c = u c) → FrL (pre4 v) w → ∀ p, p < 136 → mV w p = mV u p := by
      intro v w hv hw
      refine view_eq (fun c h1 h2 => ?_) (fun j hj => ?_)
      · rw [hw.1 c (by omega) (by omega) (by omega) (by omega) (by omega), pre4_c (by omega), hv c (by omega) h2]
      · have : ∀ j, j ∈ 18 :: lC → j ≠ 19 ∧ j ≠ 24 ∧ j ≠ 25 ∧ j ≠ 26 := by decide
        obtain ⟨a, b, c, d⟩ := this j hj
        rw [hw.2 j b c d, pre4_s a b c d, hv 74 (by decide) (by decide)]
    -- the class's telling, with the reference beside it
    have tell : ∃ r uc', gX5_tell 15 u1 = some (r, uc') ∧ FrT u1 uc' ∧ (r = nI N ∨ r.toInt < 0) ∧ ∀ (fu2 : Nat) (w' : Mm), N < fu2 → PW (ltX u n) N w' → WD u1 w' → Ok (gX11_land_84_L fu2 (nI 0) w') (RC N r uc' w') := by
      obtain ⟨g1, g2, g3⟩ := rd u1 (fo 85 (by omega)) (by rw [fo 74 (by omega)])
      have h := read_all (P := fun _ => ∃ r uc', gX5_tell 15 u1 = some (r, uc') ∧ FrT u1 uc' ∧ (r = nI N ∨ r.toInt < 0) ∧ ∀ (fu2 : Nat) (w' : Mm), N < fu2 → PW (ltX u n) N w' → WD u1 w' → Ok (gX11_land_84_L fu2 (nI 0) w') (RC N r uc' w')) g1 g2 g3 hN hg hb (fun w k1 k2 k3 k4 _ => ?_) (fun w _ _ h => absurd h hl)
      · obtain ⟨-, -, h⟩ := h
        exact h
      · have hP : PW (ltX u n) N w := ⟨k4, k3⟩
        have hD : WD u1 w := toWD w (vw u1 w (fun c h1 h2 => fo c (by omega)) k1)
        obtain ⟨r, uc', c1, c2, c3, c4⟩ := chain hx hn hN hg hl N 0 (by omega) FU u1 w (by unfold FU; omega) hL hP hD
        exact (land52 (n := n) hP hD (show w 74 25 = 0 from k2.2) c3 c4 hN).mono (fun q _ => ⟨r, uc', c1, c2, c3, c4⟩)
    obtain ⟨r, uc', c1, c2, c3, c4⟩ := tell
    rw [c1]
    show Both (gX10_land_44 r uc') gX11_land
    -- the reference from a state in which the class is done
    have ref : ∀ v : Mm, (∀ c, 74 ≤ c → v c = u c) → Ok (gX11_land v) (fun q => ∃ w, FrL (pre4 v) w ∧ R52 N r uc' w q) := by
      intro v hv
      obtain ⟨g1, g2, g3⟩ := rd v (hv 85 (by decide)) (by rw [hv 74 (by decide)])
      rw [landM_eq]
      refine read_all g1 g2 g3 hN hg hb (fun w k1 k2 k3 k4 _ => ?_) (fun w _ _ h => absurd h hl)
      exact (land52 (n := n) ⟨k4, k3⟩ (toWD w (vw v w (fun c h1 h2 => hv c h1) k1)) (show w 74 25 = 0 from k2.2) c3 c4 hN).mono (fun q hq => ⟨w, k1, hq⟩)
    have co : ∀ c, c < 17 ∨ 27 < c → uc' c = u c := fun c h => (c2 c h).trans (fo c h)
    have e44 : gX10_land_44 r uc' = if r < 0 then some (r, stm uc' 52 0 0) else (gX9_copyFrom 2 15 (stm uc' 52 0 0)).bind fun u3 => some (r, stm u3 41 0 0) := by
      unfold gX10_land_44 gX7_drop gX7_drop_b
      rw [letv_eq, Option.bind_some]
      rfl
    rw [e44]
    by_cases hneg : r.toInt < 0
    · -- a statement that does not come true
      rw [if_pos (by rw [t_lt, i0]; exact hneg)]
      obtain ⟨⟨s, z⟩, ez, w, k1, q1, q2, q3⟩ := ref (stm uc' 52 0 0) (fun c hc => by rw [stm_c (by omega), co c (by omega)])
      change s = r at q1
      subst q1
      change z 74 23 = 0 at q2
      rcases q3 with ⟨q3, -⟩ | ⟨-, q4, q5, q6⟩
      · exfalso
        rw [q3, t_nI (by omega)] at hneg
        omega
      change ∀ p, p < 136 → mV z p = mV w p at q4
      change ∀ c, c < 74 ∨ 83 < c → c ≠ 90 → z c = w c at q5
      change ∀ j, j ∉ lC → j ≠ 18 → j ≠ 23 → j ≠ 34 → j ≠ 35 → j ≠ 36 → z 74 j = w 74 j at q6
      have zc : ∀ c, c < 17 ∨ (27 < c ∧ c < 74) ∨ 90 < c ∨ c = 84 ∨ c = 85 → c ≠ 52 → z c = u c := fun c h0 h1 => by
        rw [q5 c (by omega) (by omega), k1.1 c (by omega) (by omega) (by omega) (by omega) (by omega), pre4_c (by omega), stm_c h1, co c (by omega)]
      have z74 : ∀ j, j ∉ lC → j ≠ 18 → j ≠ 19 → j ≠ 23 → j ≠ 24 → j ≠ 25 → j ≠ 26 → j ≠ 34 → j ≠ 35 → j ≠ 36 → z 74 j = u 74 j := fun j a0 a1 a2 a3 a4 a5 a6 a7 a8 a9 => by
        rw [q6 j a0 a1 a3 a7 a8 a9, k1.2 j a4 a5 a6, pre4_s a2 a4 a5 a6, stm_c (by decide), co 74 (by omega)]
      refine ⟨s, stm uc' 52 0 0, z, rfl, ez, ?_⟩
      refine R_of hR ?_ (zc 1 (by omega) (by decide)) (fun c h1 h2 => zc c (by omega) (by omega)) (by rw [zc 41 (by omega) (by decide)]) ?_ (zc 54 (by omega) (by decide)) (zc 55 (by omega) (by decide)) (zc 56 (by omega) (by decide)) (zc 84 (by omega) (by decide)) (zc 91 (by omega) (by decide)) (zc 100 (by omega) (by decide)) (z74 33 (by decide) (by decide) (by decide) (by decide) (by decide) (by decide) (by decide) (by decide) (by decide) (by decide)) (z74 58 (by decide) (by decide) (by decide) (by decide) (by decide) (by decide) (by decide) (by decide) (by decide) (by decide)) ?_ q2
      · have ex : ∀ p, p < 136 → mV z p = mV u p := fun p hp => (q4 p hp).trans (vw (stm uc' 52 0 0) w (fun c h1 h2 => by rw [stm_c (by omega), co c (by omega)]) k1 p hp)
        exact WR_cg hR.1 (fun i _ => by rw [zc 4 (by omega) (by decide), zc 5 (by omega) (by decide), zc 7 (by omega) (by decide), zc 8 (by omega) (by decide), zc 9 (by omega) (by decide), zc 10 (by omega) (by decide), zc 11 (by omega) (by decide)]; exact ⟨rfl, rfl, rfl, rfl, rfl, rfl, rfl⟩) (by rw [zc 6 (by omega) (by decide)]) (by rw [zc 12 (by omega) (by decide)]) (fun i _ => by rw [zc 13 (by omega) (by decide)]) (fun i _ => by rw [zc 14 (by omega) (by decide)]) ex
      · exact PR_keep hR.2.2.1 (by rw [zc 41 (by omega) (by decide)]) (z74 40 (by decide) (by decide) (by decide) (by decide) (by decide) (by decide) (by decide) (by decide) (by decide) (by decide)) (by rw [zc 41 (by omega) (by decide)]) (zc 93 (by omega) (by decide)) (fun z hz => zc _ (by omega) (by omega))
      · rw [q5 52 (by omega) (by decide), k1.1 52 (by decide) (by decide) (by decide) (by decide) (by decide), pre4_c (by decide), stm_r]
    · -- all come true
      have hr : r = nI N := c3.elim id (fun h => absurd h hneg)
      rw [if_neg (by rw [t_lt, i0]; exact hneg)]
      obtain ⟨u3, eu3, g1, v4, v10, v2, v3, v5, v6, v7, v8, v9, v11, vf⟩ := cpv (k0 := 2) (k1 := 15) (by decide) (stm uc' 52 0 0)
      rw [eu3, Option.bind_some]
      have go : ∀ c, c < 4 ∨ 14 < c → u3 c = stm uc' 52 0 0 c := g1
      have g4 : ∀ c, c < 4 ∨ 27 < c → c ≠ 41 → c ≠ 52 → stm u3 41 0 0 c = u c := fun c h h1 h2 => by
        rw [stm_c h1, go c (by omega), stm_c h2, co c (by omega)]
      obtain ⟨⟨s, z⟩, ez, w, k1, q1, q2, q3⟩ := ref (stm u3 41 0 0) (fun c hc => g4 c (by omega) (by omega) (by omega))
      change s = r at q1
      subst q1
      change z 74 23 = 0 at q2
      rcases q3 with ⟨-, q4, q5, q6, q7⟩ | ⟨q3, -⟩
      · change z 74 40 = 0 at q4
        change WD uc' z at q5
        change ∀ c, c < 74 ∨ 83 < c → c ≠ 90 → z c = w c at q6
        change ∀ j, j ∉ lC → j ≠ 23 → j ≠ 34 → j ≠ 35 → j ≠ 36 → j ≠ 40 → z 74 j = w 74 j at q7
        have zw : ∀ c, c < 74 ∨ 90 < c ∨ c = 84 ∨ c = 85 → z c = stm u3 41 0 0 c := fun c h => by
          rw [q6 c (by omega) (by omega), k1.1 c (by omega) (by omega) (by omega) (by omega) (by omega), pre4_c (by omega)]
        have zc : ∀ c, c < 4 ∨ (27 < c ∧ c < 74) ∨ 90 < c ∨ c = 84 ∨ c = 85 → c ≠ 41 → c ≠ 52 → z c = u c := fun c h h1 h2 => (zw c (by omega)).trans (g4 c (by omega) h1 h2)
        have z74 : ∀ j, j ∉ lC → j ≠ 19 → j ≠ 23 → j ≠ 24 → j ≠ 25 → j ≠ 26 → j ≠ 34 → j ≠ 35 → j ≠ 36 → j ≠ 40 → z 74 j = u 74 j := fun j a0 a2 a3 a4 a5 a6 a7 a8 a9 a10 => by
          rw [q7 j a0 a3 a7 a8 a9 a10, k1.2 j a4 a5 a6, pre4_s a2 a4 a5 a6, g4 74 (by omega) (by decide) (by decide)]
        have z3 : ∀ c, 4 ≤ c → c ≤ 14 → z c = u3 c := fun c h1 h2 => (zw c (by omega)).trans (stm_c (by omega))
        have ct : ∀ c, 15 ≤ c → c ≤ 27 → stm uc' 52 0 0 c = uc' c := fun c h1 h2 => stm_c (by omega)
        have hWC : WC z := by
          obtain ⟨⟨f1, f2, f3, f4⟩, a, ⟨b1, b2, b3, b4⟩, ⟨r1, r2, r3⟩⟩ := q5
          have x14 : ∀ i, i < 10 → z 14 i = uc' 27 i := fun i hi => by
            rw [z3 14 (by decide) (by decide)]
            exact (vf i hi).trans (by rw [ct 27 (by decide) (by decide)])
          have x6 : z 6 0 = uc' 19 0 := by
            rw [z3 6 (by decide) (by decide)]
            exact v4.trans (by rw [ct 19 (by decide) (by decide)])
          have x12 : z 12 0 = uc' 25 0 := by
            rw [z3 12 (by decide) (by decide)]
            exact v10.trans (by rw [ct 25 (by decide) (by decide)])
          have x4 : ∀ i, i < 8 → z 4 i = uc' 17 i := fun i hi => by
            rw [z3 4 (by decide) (by decide)]
            exact (v2 i hi).trans (by rw [ct 17 (by decide) (by decide)])
          have x5 : ∀ i, i < 8 → z 5 i = uc' 18 i := fun i hi => by
            rw [z3 5 (by decide) (by decide)]
            exact (v3 i hi).trans (by rw [ct 18 (by decide) (by decide)])
          have x7 : ∀ i, i < 8 → z 7 i = uc' 20 i := fun i hi => by
            rw [z3 7 (by decide) (by decide)]
            exact (v5 i hi).trans (by rw [ct 20 (by decide) (by decide)])
          have x8 : ∀ i, i < 8 → z 8 i = uc' 21 i := fun i hi => by
            rw [z3 8 (by decide) (by decide)]
            exact (v6 i hi).trans (by rw [ct 21 (by decide) (by decide)])
          have x9 : ∀ i, i < 8 → z 9 i = uc' 22 i := fun i hi => by
            rw [z3 9 (by decide) (by decide)]
            exact (v7 i hi).trans (by rw [ct 22 (by decide) (by decide)])
          have x10 : ∀ i, i < 8 → z 10 i = uc' 23 i := fun i hi => by
            rw [z3 10 (by decide) (by decide)]
            exact (v8 i hi).trans (by rw [ct 23 (by decide) (by decide)])
          have x11 : ∀ i, i < 8 → z 11 i = uc' 24 i := fun i hi => by
            rw [z3 11 (by decide) (by decide)]
            exact (v9 i hi).trans (by rw [ct 24 (by decide) (by decide)])
          have x13 : ∀ i, i < 64 → z 13 i = uc' 26 i := fun i hi => by
            rw [z3 13 (by decide) (by decide)]
            exact (v11 i hi).trans (by rw [ct 26 (by decide) (by decide)])
          refine ⟨⟨(x14 0 (by decide)).trans (f1 0 (by decide)), (x14 1 (by decide)).trans (f1 1 (by decide)), (x14 2 (by decide)).trans (f1 2 (by decide)), (x14 3 (by decide)).trans (f1 3 (by decide)), (x14 4 (by decide)).trans (f1 4 (by decide)), (x14 5 (by decide)).trans (f1 5 (by decide)), (x14 6 (by decide)).trans (f1 6 (by decide)), (x14 7 (by decide)).trans (f1 7 (by decide))⟩, ?_, ?_, ?_, ⟨x6.trans b1, by rw [x6]; exact b2⟩, ⟨x12.trans r1, by rw [x12]; exact r2⟩, fun i hi => ?_, fun i hi => ?_, fun i hi => ?_⟩
          · unfold FB
            rw [x14 0 (by decide), x14 1 (by decide), x14 2 (by decide), x14 3 (by decide), x14 4 (by decide), x14 5 (by decide), x14 6 (by decide)]
            exact f2
          · rw [x14 9 (by decide), x14 6 (by decide)]
            exact f3
          · rw [x14 7 (by decide)]
            exact f4
          · obtain ⟨m1, m2⟩ := a i hi
            obtain ⟨m3, m4, m5, m6, m7⟩ := b3 i hi
            exact ⟨(x4 i hi).trans m1, (x5 i hi).trans m2, (x7 i hi).trans m3, (x8 i hi).trans m4, (x9 i hi).trans m5, (x10 i hi).trans m6, (x11 i hi).trans m7⟩
          · rw [x13 i hi, x13 (8 * (i % 8) + i / 8) (by omega)]
            exact r3 i hi
          · rw [x6] at hi
            have h8 : i < 8 := by omega
            rw [x8 i h8, x9 i h8, x10 i h8, x11 i h8]
            exact b4 i hi
        refine ⟨s, stm u3 41 0 0, z, rfl, ez, ?_⟩
        refine R_of hR ((WN_iff z).mpr hWC) (zc 1 (by omega) (by decide) (by decide)) (fun c h1 h2 => zc c (by omega) (by omega) (by omega)) ?_ ?_ (zc 54 (by omega) (by decide) (by decide)) (zc 55 (by omega) (by decide) (by decide)) (zc 56 (by omega) (by decide) (by decide)) (zc 84 (by omega) (by decide) (by decide)) (zc 91 (by omega) (by decide) (by decide)) (zc 100 (by omega) (by decide) (by decide)) (z74 33 (by decide) (by decide) (by decide) (by decide) (by decide) (by decide) (by decide) (by decide) (by decide) (by decide)) (z74 58 (by decide) (by decide) (by decide) (by decide) (by decide) (by decide) (by decide) (by decide) (by decide) (by decide)) ?_ q2
        · rw [zw 41 (by omega), stm_s (by decide), go 41 (by omega), stm_c (by decide), co 41 (by omega)]
        · exact PR_forget hR.2.2.1 (by rw [zw 41 (by omega), stm_r]) q4 (by rw [zw 41 (by omega), stm_s (by decide), go 41 (by omega), stm_c (by decide), co 41 (by omega)])
        · rw [zw 52 (by omega), stm_c (by decide), go 52 (by omega), stm_r]
      · exact absurd q3 hneg
