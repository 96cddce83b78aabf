/-! Calls: chase, waitAt. -/
theorem near_c : ∀ a : Nat, a < 10 → ∀ b : Nat, b < 100 → gX6_nearestTo (nI (100 * a + b)) = gX11_placeNear (nI (100 * a + b)) ∧ (gX11_placeNear (nI (100 * a + b))).any (fun k => decide (0 ≤ k.toInt ∧ k.toInt < 8)) = true := by decide +kernel
theorem near_ok (x : Nat) (hx : x < 1000) : ∃ k, k < 8 ∧ gX6_nearestTo (nI x) = some (nI k) ∧ gX11_placeNear (nI x) = some (nI k) := by
  obtain ⟨h1, h2⟩ := near_c (x / 100) (by omega) (x % 100) (Nat.mod_lt _ (by decide))
  rw [Nat.div_add_mod] at h1 h2
  cases h : gX11_placeNear (nI x) with
  | none => rw [h] at h2; cases h2
  | some v =>
    rw [h] at h1 h2
    have h3 : 0 ≤ v.toInt ∧ v.toInt < 8 := by simpa using h2
    obtain ⟨k, e, hk⟩ := nI_upto (N := 7) h3.1 (by omega)
    exact ⟨k, by omega, by rw [h1, e], by rw [e]⟩
theorem DP_un {W D D' : Nat → Nat → Nat} (h : DP W D) (h' : DP W D') {a : Nat} (ha : a < 8) : ∀ n b, b < 8 → cnt (D a) (D a b) 8 ≤ n → D a b < 1000000 → D' a b ≤ D a b := by
  intro n
  induction n with
  | zero =>
    intro b hb hr hf
    by_cases e : a = b
    · subst e
      rw [h'.1 a ha]
      exact Nat.zero_le _
    · obtain ⟨c, hc, hw, hd⟩ := h.2.2.2.2 a b ha hb e hf
      have := cnt_pos (f := D a) (x := D a b) (c := c) (n := 8) hc (by omega)
      omega
  | succ n ih =>
    intro b hb hr hf
    by_cases e : a = b
    · subst e
      rw [h'.1 a ha]
      exact Nat.zero_le _
    · obtain ⟨c, hc, hw, hd⟩ := h.2.2.2.2 a b ha hb e hf
      have h1 := cnt_lt (f := D a) (x := D a c) (y := D a b) (c := c) (by omega) (Nat.le_refl _) 8 hc
      have h2 := ih c hc (by omega) (by omega)
      have h3 := h'.2.2.1 a b c ha hb hc
      have h4 := h'.2.2.2.1 c b hc hb hw
      omega
theorem DP_eq {W D D' : Nat → Nat → Nat} (h : DP W D) (h' : DP W D') {a b : Nat} (ha : a < 8) (hb : b < 8) : D a b = D' a b := by
  have l1 := h.2.1 a b ha hb
  have l2 := h'.2.1 a b ha hb
  by_cases f1 : D a b < 1000000
  · have e1 := DP_un h h' ha 8 b hb (cnt_le _ _ _) f1
    have e2 := DP_un h' h ha 8 b hb (cnt_le _ _ _) (by omega)
    omega
  · by_cases f2 : D' a b < 1000000
    · have e2 := DP_un h' h ha 8 b hb (cnt_le _ _ _) f2
      omega
    · omega
theorem chase_C {u : Mm} {kk pp c k xg : Nat} {W D : Nat → Nat → Nat} {G : Nat → Int32} (hR : R u) (hkk : kk ≤ 30) (hpp : pp ≤ 5) {w : Int32} (hp0 : gX10_planRefusal (nI kk) (nI pp) w 1 = some 0) (hG : pl (env u) kk pp (flt u) = G) (hVG : VF G) (exg : G 1 = nI xg) (hk : k < 8) (n1 : gX6_nearestTo (nI xg) = some (nI k)) (rC : RdC u W) (hW : ∀ a b, a < 8 → b < 8 → W a b ≤ 99) (hD : DP W D) (hc : c < 8) (e12 : u 12 0 = nI c) :
    Ok (gX10_chase (nI kk) (nI pp) w u) (fun q => q.1 = (if G 0 = 0 then (if D c k < 1000000 then (if w = 0 then nI (D c k) else if (G 7 - flt u 7) / 6 < nI (D c k) then 0 else 1) else -9) else -9) ∧ Sm u q.2) := by
  unfold gX10_chase gX10_chase_b
  rw [hp0, Option.bind_some, if_pos rfl, ok_bind]
  refine (cbegin hR).mono ?_
  rintro v1 ⟨g1, g2⟩
  rw [ok_bI]
  refine (cfollow ⟨0, by decide, g2⟩ (flt_VF hR) (flt_8 u) hkk hpp).mono ?_
  rintro ⟨r, x⟩ ⟨hr, q1, q2, q3⟩
  change Fk lF [4] v1 x at q1
  change MIk (env u) _ _ x at q2
  change CF (x 69) _ at q3
  rw [hG] at hr q3
  have kx : Fk lM [4] u x := g1.tr (q1.mono (by decide) (fun _ h => h))
  have hr0 := bz_i hr
  have e7 : x 67 7 = flt u 7 := q2.2.1.1 7 (by decide)
  refine ok_if (fun c => ?_) (fun c1 => ?_)
  · rw [if_neg (hr0.mp c)]
    exact ok_some.mpr ⟨rfl, Sm_K kx⟩
  · have c0 : G 0 = 0 := Decidable.not_not.mp (fun h => c1 (hr0.mpr h))
    rw [if_pos c0]
    show Ok ((gX8_measure 12 x).bind _) _
    rw [ok_bind]
    have rx : RdC x W := fun a b ha hb => by rw [kx.1 13 (by decide) (by decide)]; exact rC a b ha hb
    refine (measure_ok rx hW).mono ?_
    rintro y ⟨fy, D', hD', hM'⟩
    have eD : D' c k = D c k := DP_eq hD' hD hc hk
    have sm : Sm u y := (Sm_K kx).tr (Sm_72 (fun c h _ => fy c h))
    have hst : gX3_stepsFlown y = some (G 7 - flt u 7) := by
      unfold gX3_stepsFlown gX3_stepsFlown_b
      rw [fy 69 (by decide), fy 67 (by decide), q3.1 7 (by decide), e7]
    rw [fy 69 (by decide), q3.1 1 (by decide), exg, n1, Option.bind_some, fy 12 (by decide), kx.1 12 (by decide) (by decide), e12, mon_ok hD' hM' hc hk, Option.bind_some, eD, hst, Option.bind_some]
    by_cases cf : D c k < 1000000
    · rw [if_pos cf, if_pos cf]
      by_cases w0 : w = 0
      · rw [if_pos w0, if_pos w0]
        exact ok_some.mpr ⟨rfl, sm⟩
      · rw [if_neg w0, if_neg w0, if_neg (nI_n9 (by omega))]
        by_cases c9 : (G 7 - flt u 7) / 6 < nI (D c k)
        · rw [if_pos c9, if_pos c9]; exact ok_some.mpr ⟨rfl, sm⟩
        · rw [if_neg c9, if_neg c9]; exact ok_some.mpr ⟨rfl, sm⟩
    · rw [if_neg cf, if_neg cf]
      by_cases w0 : w = 0
      · rw [if_pos w0]; exact ok_some.mpr ⟨rfl, sm⟩
      · rw [if_neg w0, if_pos rfl]; exact ok_some.mpr ⟨rfl, sm⟩
theorem chase_M {u1 : Mm} {kk pp c k xg : Nat} {W D : Nat → Nat → Nat} {G : Nat → Int32} (hR1 : R u1) (hkk : kk ≤ 30) (hpp : pp ≤ 5) {w : Int32} (k0 : (nI kk < 0) = False) (p0 : (nI pp < 0) = False) (k3 : (30 < nI kk) = False) (p5 : (5 < nI pp) = False) (hw0 : gX11_wrongBit 0 w 1 = some 0) (hG : pl (env u1) kk pp (flt u1) = G) (exg : G 1 = nI xg) (hk : k < 8) (n2 : gX11_placeNear (nI xg) = some (nI k)) (rM : RdM u1 W) (hW : ∀ a b, a < 8 → b < 8 → W a b ≤ 99) (hc : c < 8) (e74 : u1 74 18 = nI c) (hD : DP W D) :
    Ok (gX11_chase (nI kk) (nI pp) w u1) (fun q => q.1 = (if G 0 = 0 then (if D c k < 1000000 then (if w = 0 then nI (D c k) else if (G 7 - flt u1 7) / 6 < nI (D c k) then 0 else 1) else -9) else -9) ∧ Sm u1 q.2) := by
  unfold gX11_chase gX11_chase_b gX11_chase_40
  rw [letv_eq]
  simp only [k0, p0, k3, p5, ↓reduceIte]
  rw [hw0, Option.bind_some, if_neg (by decide), ok_bind]
  refine (mopen u1).mono ?_
  rintro v1 ⟨o1, o2, o3, o4⟩
  rw [ok_bind]
  refine (mplan o2 (flt_VF hR1) o4 (flt_8 u1) hkk hpp).mono ?_
  rintro x ⟨q1, q2, q3, q4, q5⟩
  rw [hG] at q2 q3 q5
  have hr0 := bz_i q3
  rw [show x 74 3 = nI xg from (q2.1 1 (by decide)).trans exg, n2, Option.bind_some, ok_bind]
  refine (again_ok (o2.keep q1)).mono ?_
  rintro y ⟨y1, y2⟩
  have fy : Fr cW lW u1 y := o1.tr ((q1.W (by decide)).tr (y1.W (by decide)))
  rw [show y 74 18 = nI c from (fy.2 18 (by decide)).trans e74, ok_bind]
  refine (drive_ok (u := y) (rM.of (fy.1 83 (by decide) (by decide))) hW hD hc).mono ?_
  rintro z ⟨z1, z2⟩
  have sm : Sm u1 z := by
    refine Sm_W (fy.tr ⟨fun c _ b => z1 c (fun e => b (by rw [e]; decide)), fun i _ => by rw [z1 74 (by decide)]⟩) ⟨fun i hi => ?_, fun j hj => ?_⟩
    · rw [z1 74 (by decide)]; exact y2.1 i hi
    · rw [z1 77 (by decide)]; exact y2.2 j hj
  have z41 : z 74 41 = x 74 41 := by rw [z1 74 (by decide), y1.2 41 (by decide)]
  have z43 : z 74 43 = G 7 - flt u1 7 := by rw [z1 74 (by decide), y1.2 43 (by decide)]; exact q5
  obtain ⟨t1, t2, t3⟩ := tD_99 (fun h => hD.le hW hc hk h)
  rw [z41]
  refine ok_if (fun c1 => ?_) (fun c1 => ?_)
  · rw [if_neg (hr0.mp c1)]
    exact ok_some.mpr ⟨rfl, sm⟩
  · have c0 : G 0 = 0 := Decidable.not_not.mp (fun h => c1 (hr0.mpr h))
    rw [if_pos c0, gd_t (ix_nI hk (by decide)), gd_t (ix_nI hk (by decide)), gd_t (ix_nI hk (by decide)), ixn_nI (by omega), z2 k hk, z43]
    by_cases cf : D c k < 1000000
    · rw [if_neg (fun h => t2.mp h cf), if_pos cf, tD_y cf]
      by_cases w0 : w = 0
      · rw [if_pos w0, if_pos w0]
        exact ok_some.mpr ⟨rfl, sm⟩
      · rw [if_neg w0, if_neg w0]
        by_cases c9 : (G 7 - flt u1 7) / 6 < nI (D c k)
        · rw [if_pos c9, if_pos c9]; exact ok_some.mpr ⟨rfl, sm⟩
        · rw [if_neg c9, if_neg c9]; exact ok_some.mpr ⟨rfl, sm⟩
    · rw [if_pos (t2.mpr cf), if_neg cf]
      exact ok_some.mpr ⟨rfl, sm⟩
theorem c_chase (k p w : Int32) (u : Mm) (hR : R u) : Both (gX10_chase k p w u) (gX11_chase k p w) := by
  by_cases h1 : k.toInt < 0 ∨ p.toInt < 0
  · refine Both_ref (k := 4) (r := -4) hR ?_ ?_
    · simp only [gX10_chase, gX10_chase_b, pr_4 h1, Option.bind_some, eq_false (show ¬ (-4 : Int32) = 0 by decide), ↓reduceIte, rC4, bI_some]
    · by_cases h2 : k.toInt < 0
      · simp only [gX11_chase, gX11_chase_b, letv_eq, lt_t (a := k) (b := 0) h2, ↓reduceIte, gX11_chase_13, gX11_chase_40, m4lt, rM4, bI_some]
      · simp only [gX11_chase, gX11_chase_b, letv_eq, lt_f (a := k) (b := 0) h2, lt_t (a := p) (b := 0) (by rw [i0]; omega), ↓reduceIte, gX11_chase_13, gX11_chase_40, m4lt, rM4, bI_some]
  have k0 := lt_f (a := k) (b := 0) (by rw [i0]; omega)
  have p0 := lt_f (a := p) (b := 0) (by rw [i0]; omega)
  by_cases h2 : 30 < k.toInt ∨ 5 < p.toInt
  · refine Both_ref (k := 6) (r := -6) hR ?_ ?_
    · simp only [gX10_chase, gX10_chase_b, pr_6 h1 h2, Option.bind_some, eq_false (show ¬ (-6 : Int32) = 0 by decide), ↓reduceIte, rC6, bI_some]
    · by_cases h3 : 30 < k.toInt
      · simp only [gX11_chase, gX11_chase_b, letv_eq, k0, p0, lt_t (a := 30) (b := k) h3, ↓reduceIte, gX11_chase_29, gX11_chase_40, m6lt, rM6, bI_some]
      · simp only [gX11_chase, gX11_chase_b, letv_eq, k0, p0, lt_f (a := 30) (b := k) h3, lt_t (a := 5) (b := p) (by rw [i5]; omega), ↓reduceIte, gX11_chase_29, gX11_chase_40, m6lt, rM6, bI_some]
  have k3 := lt_f (a := 30) (b := k) (by rw [i30]; omega)
  have p5 := lt_f (a := 5) (b := p) (by rw [i5]; omega)
  by_cases h3 : 0 ≤ w.toInt ∧ w.toInt ≤ (1 : Int32).toInt
  · have hp0 := pr_0 h1 h2 h3
    have hw0 := wb_t h3
    obtain ⟨kk, rfl, hkk⟩ := kp_ex (k := k) (N := 30) (by omega) (by omega)
    obtain ⟨pp, rfl, hpp⟩ := kp_ex (k := p) (N := 5) (by omega) (by omega)
    obtain ⟨G, hG⟩ : ∃ G, pl (env u) kk pp (flt u) = G := ⟨_, rfl⟩
    have hVG : VF G := by rw [← hG]; exact VF_prun (flt_VF hR) 60
    obtain ⟨xg, exg, hxg⟩ := nI_upto (N := 999) hVG.1.2.1.1 hVG.1.2.1.2
    obtain ⟨k, hk, n1, n2⟩ := near_ok xg (by omega)
    obtain ⟨W, c, hW, rC, rM, hc, e12, e74, -⟩ := roads_of hR
    obtain ⟨x0, ex0, fx0, D, hD, hM0⟩ := measure_ok rC hW
    refine Both_of (r := if G 0 = 0 then (if D c k < 1000000 then (if w = 0 then nI (D c k) else if (G 7 - flt u 7) / 6 < nI (D c k) then 0 else 1) else -9) else -9) hR (chase_C hR hkk hpp hp0 hG hVG exg hk n1 rC hW hD hc e12) (fun u1 hR1 e1 e2 hrl h74 => ?_)
    rw [← e1, ← e2] at hG
    rw [← e2]
    exact chase_M hR1 hkk hpp k0 p0 k3 p5 hw0 hG exg hk n2 (rM.of (hrl 83 (by decide))) hW hc ((h74 18 (by decide)).trans e74) hD
  · refine Both_ref (k := 2) (r := -2) hR ?_ ?_
    · simp only [gX10_chase, gX10_chase_b, pr_2 h1 h2 h3, Option.bind_some, eq_false (show ¬ (-2 : Int32) = 0 by decide), ↓reduceIte, rC2, bI_some]
    · simp only [gX11_chase, gX11_chase_b, gX11_chase_40, letv_eq, k0, p0, k3, p5, ↓reduceIte, wb_f h3, Option.bind_some, m2lt, rM2, bI_some]
