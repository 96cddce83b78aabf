/-! Calls: another, keep. -/
def anoS (g h : Nat → Int32) : Int32 := if g 0 = 0 then (if h 0 = 0 then iabs (h 1 - g 1) + iabs (h 2 - g 2) else -9) else -9
theorem another_C {kk pp : Nat} {q : Int32} {u : Mm} {G H : Nat → Int32} (hR : R u) (k0 : (nI kk < 0) = False) (p0 : (nI pp < 0) = False) (q0 : (q < 1) = False) (k3 : (30 < nI kk) = False) (p5 : (5 < nI pp) = False) (q6 : (6 < q) = False) (hkk : kk ≤ 30) (hpp : pp ≤ 5) (hq : 1 ≤ q.toInt ∧ q.toInt ≤ 6) (hG : pl (env u) kk pp (flt u) = G) (hH : pl (env u) kk pp (fS 5 q (flt u)) = H) : Ok (gX10_another (nI kk) (nI pp) q u) (fun x => x.1 = anoS G H ∧ Sm u x.2) := by
  unfold gX10_another gX10_another_b
  simp only [k0, p0, q0, k3, p5, q6, ↓reduceIte]
  rw [ok_bind]
  refine (cbegin hR).mono ?_
  rintro v1 ⟨g1, g2⟩
  rw [ok_bI]
  refine (cfollow ⟨0, by decide, g2⟩ (flt_VF hR) (flt_8 u) hkk hpp).mono ?_
  rintro ⟨r, x⟩ ⟨hr, t1, t2, t3⟩
  change Fk lF [4] v1 x at t1
  change MIk (env u) _ _ x at t2
  change CF (x 69) _ at t3
  rw [hG] at hr t3
  have hr0 := bz_i hr
  have fx : Fk lM [4] u x := g1.tr (t1.mono (by decide) (fun _ h => h))
  unfold anoS
  refine ok_if (fun c => ?_) (fun c => ?_)
  · rw [if_neg (hr0.mp c)]
    exact ok_some.mpr ⟨rfl, Sm_K fx⟩
  · have c0 : G 0 = 0 := Decidable.not_not.mp (fun h => c (hr0.mpr h))
    rw [if_pos c0]
    show Ok (letv (x 69 1) fun (v4_11 : Int32) => letv (x 69 2) fun (v5_12 : Int32) => (gX3_takePeople q x).bind _) _
    rw [letv_eq, letv_eq, ok_bind]
    refine (takePeople_ok (x := flt u 5) (y := q) t2.1 (by rw [fS_self]; exact t2.2.1) (flt_8 u)).mono ?_
    rintro y ⟨y1, y2⟩
    rw [ok_bI]
    refine (cfollow ⟨0, by decide, y2⟩ (fS_VF5 (flt_VF hR) hq) (fS_8 (by decide) (flt_8 u)) hkk hpp).mono ?_
    rintro ⟨r', z⟩ ⟨hr', w1, w2, w3⟩
    change Fk lF [4] y z at w1
    change CF (z 69) _ at w3
    rw [hH] at hr' w3
    have hr1 := bz_i hr'
    have fz : Fk lM [4] u z := (fx.tr y1).tr (w1.mono (by decide) (fun _ h => h))
    refine ok_if (fun c2 => ?_) (fun c2 => ?_)
    · rw [if_neg (hr1.mp c2)]
      exact ok_some.mpr ⟨rfl, Sm_K fz⟩
    · have c3 : H 0 = 0 := Decidable.not_not.mp (fun h => c2 (hr1.mpr h))
      rw [if_pos c3]
      refine ok_some.mpr ⟨?_, Sm_K fz⟩
      show iabs (z 69 1 - x 69 1) + iabs (z 69 2 - x 69 2) = _
      rw [t3.1 1 (by decide), t3.1 2 (by decide), w3.1 1 (by decide), w3.1 2 (by decide)]
theorem another_M {kk pp : Nat} {q : Int32} {u1 : Mm} {G H : Nat → Int32} (hR1 : R u1) (k0 : (nI kk < 0) = False) (p0 : (nI pp < 0) = False) (q0 : (q < 1) = False) (k3 : (30 < nI kk) = False) (p5 : (5 < nI pp) = False) (q6 : (6 < q) = False) (hkk : kk ≤ 30) (hpp : pp ≤ 5) (hq : 1 ≤ q.toInt ∧ q.toInt ≤ 6) (hG : pl (env u1) kk pp (flt u1) = G) (hH : pl (env u1) kk pp (fS 5 q (flt u1)) = H) : Ok (gX11_another (nI kk) (nI pp) q u1) (fun x => x.1 = anoS G H ∧ Sm u1 x.2) := by
  unfold gX11_another gX11_another_b gX11_another_46
  rw [letv_eq]
  simp only [k0, p0, q0, k3, p5, q6, ↓reduceIte, z0lt]
  have m0 : MF (thr u1) (flt u1) := (flt_MF u1).st (by decide)
  have e7 : stm u1 74 19 0 74 7 = flt u1 5 := m0.1 5 (by decide)
  rw [letv_eq, e7, ok_bind]
  refine (mopen u1).mono ?_
  rintro v1 ⟨o1, o2, o3, o4⟩
  rw [ok_bind]
  refine (mplan o2 (flt_VF hR1) o4 (flt_8 u1) hkk hpp).mono ?_
  rintro x ⟨t1, t2, t3, -, -⟩
  rw [hG] at t2 t3
  have hr0 := bz_i t3
  have fx : Fr cW lW u1 x := o1.tr (t1.W (by decide))
  rw [letv_eq, letv_eq, letv_eq, ok_bind]
  refine (again_ok (o2.keep t1)).mono ?_
  rintro y ⟨y1, y2⟩
  have fy : Fr cW lW u1 y := fx.tr (y1.W (by decide))
  rw [letv_eq, ok_bind]
  have my : MF (stm y 74 7 q) (fS 5 q (flt u1)) := fS_MF (s := 5) (x := flt u1 5) (by decide) (by rw [fS_self]; exact y2)
  refine (open_fr my).mono ?_
  rintro z ⟨z1, z2, z3⟩
  have fz : Fr cW lW u1 z := (fy.tr (Fr.st (by decide))).tr (z1.mono (by decide) (by decide))
  rw [ok_bind]
  refine (mplan z2 (fS_VF5 (flt_VF hR1) hq) ((env_EM u1).fr fz cW_e (by decide)) (fS_8 (by decide) (flt_8 u1)) hkk hpp).mono ?_
  rintro w ⟨w1, w2, w3, -, -⟩
  rw [hH] at w2 w3
  have hr1 := bz_i w3
  have fw : Fr cW lW u1 w := fz.tr (w1.W (by decide))
  have fin : ∀ s : Int32, (s = 0 → anoS G H = -9) → (s ≠ 0 → anoS G H = iabs (H 1 - G 1) + iabs (H 2 - G 2)) → Ok (gX11_another_130 (flt u1 5) (x 74 3) (x 74 4) s w) (fun q => q.1 = anoS G H ∧ Sm u1 q.2) := by
    intro s hs1 hs2
    unfold gX11_another_130
    rw [iabs_eq, iabs_eq, Option.bind_some, Option.bind_some, letv_eq, ok_bind]
    refine (again_ok (z2.keep w1)).mono ?_
    rintro a ⟨a1, a2⟩
    rw [letv_eq]
    have sm : Sm u1 (stm a 74 7 (flt u1 5)) := by
      have h := fS_MF (s := 5) (y := flt u1 5) (by decide) a2
      rw [fS_self] at h
      exact Sm_W ((fw.tr (a1.W (by decide))).tr (Fr.st (by decide))) h
    refine ok_if (fun h => ?_) (fun h => ?_)
    · exact ok_some.mpr ⟨(hs1 h).symm, sm⟩
    · refine ok_some.mpr ⟨?_, sm⟩
      rw [hs2 h, show w 74 3 = H 1 from w2.1 1 (by decide), show w 74 4 = H 2 from w2.1 2 (by decide), show x 74 3 = G 1 from t2.1 1 (by decide), show x 74 4 = G 2 from t2.1 2 (by decide)]
  unfold gX11_another_129
  refine ok_if (fun c => fin 0 (fun _ => ?_) (fun h => absurd rfl h)) (fun c => ok_if (fun c2 => fin 0 (fun _ => ?_) (fun h => absurd rfl h)) (fun c2 => fin 1 (fun h => absurd h (by decide)) (fun _ => ?_)))
  · unfold anoS
    rw [if_neg (hr0.mp c)]
  · have c0 : G 0 = 0 := Decidable.not_not.mp (fun h => c (hr0.mpr h))
    unfold anoS
    rw [if_pos c0, if_neg (hr1.mp c2)]
  · have c0 : G 0 = 0 := Decidable.not_not.mp (fun h => c (hr0.mpr h))
    have c3 : H 0 = 0 := Decidable.not_not.mp (fun h => c2 (hr1.mpr h))
    unfold anoS
    rw [if_pos c0, if_pos c3]
theorem c_another (k p q : Int32) (u : Mm) (hR : R u) : Both (gX10_another k p q u) (gX11_another k p q) := by
  by_cases h1 : k.toInt < 0 ∨ p.toInt < 0 ∨ q.toInt < 1
  · refine Both_ref (k := 4) (r := -4) hR ?_ ?_
    · by_cases h2 : k.toInt < 0
      · simp only [gX10_another, gX10_another_b, gX10_another_13, lt_t (a := k) (b := 0) h2, ↓reduceIte, rC4, bI_some]
      · by_cases h3 : p.toInt < 0
        · simp only [gX10_another, gX10_another_b, gX10_another_13, lt_f (a := k) (b := 0) h2, lt_t (a := p) (b := 0) h3, ↓reduceIte, rC4, bI_some]
        · simp only [gX10_another, gX10_another_b, gX10_another_13, lt_f (a := k) (b := 0) h2, lt_f (a := p) (b := 0) h3, lt_t (a := q) (b := 1) (by rw [i1]; omega), ↓reduceIte, rC4, bI_some]
    · by_cases h2 : k.toInt < 0
      · simp only [gX11_another, gX11_another_b, letv_eq, gX11_another_18, gX11_another_46, m4lt, lt_t (a := k) (b := 0) h2, ↓reduceIte, rM4, bI_some]
      · by_cases h3 : p.toInt < 0
        · simp only [gX11_another, gX11_another_b, letv_eq, gX11_another_18, gX11_another_46, m4lt, lt_f (a := k) (b := 0) h2, lt_t (a := p) (b := 0) h3, ↓reduceIte, rM4, bI_some]
        · simp only [gX11_another, gX11_another_b, letv_eq, gX11_another_18, gX11_another_46, m4lt, lt_f (a := k) (b := 0) h2, lt_f (a := p) (b := 0) h3, lt_t (a := q) (b := 1) (by rw [i1]; omega), ↓reduceIte, rM4, bI_some]
  have k0 := lt_f (a := k) (b := 0) (by rw [i0]; omega)
  have p0 := lt_f (a := p) (b := 0) (by rw [i0]; omega)
  have q0 := lt_f (a := q) (b := 1) (by rw [i1]; omega)
  by_cases h2 : 30 < k.toInt ∨ 5 < p.toInt ∨ 6 < q.toInt
  · refine Both_ref (k := 6) (r := -6) hR ?_ ?_
    · by_cases h2 : 30 < k.toInt
      · simp only [gX10_another, gX10_another_b, gX10_another_37, k0, p0, q0, lt_t (a := 30) (b := k) h2, ↓reduceIte, rC6, bI_some]
      · by_cases h3 : 5 < p.toInt
        · simp only [gX10_another, gX10_another_b, gX10_another_37, k0, p0, q0, lt_f (a := 30) (b := k) h2, lt_t (a := 5) (b := p) h3, ↓reduceIte, rC6, bI_some]
        · simp only [gX10_another, gX10_another_b, gX10_another_37, k0, p0, q0, lt_f (a := 30) (b := k) h2, lt_f (a := 5) (b := p) h3, lt_t (a := 6) (b := q) (by rw [i6]; omega), ↓reduceIte, rC6, bI_some]
    · by_cases h2 : 30 < k.toInt
      · simp only [gX11_another, gX11_another_b, letv_eq, gX11_another_40, gX11_another_46, m6lt, k0, p0, q0, lt_t (a := 30) (b := k) h2, ↓reduceIte, rM6, bI_some]
      · by_cases h3 : 5 < p.toInt
        · simp only [gX11_another, gX11_another_b, letv_eq, gX11_another_40, gX11_another_46, m6lt, k0, p0, q0, lt_f (a := 30) (b := k) h2, lt_t (a := 5) (b := p) h3, ↓reduceIte, rM6, bI_some]
        · simp only [gX11_another, gX11_another_b, letv_eq, gX11_another_40, gX11_another_46, m6lt, k0, p0, q0, lt_f (a := 30) (b := k) h2, lt_f (a := 5) (b := p) h3, lt_t (a := 6) (b := q) (by rw [i6]; omega), ↓reduceIte, rM6, bI_some]
  have k3 := lt_f (a := 30) (b := k) (by rw [i30]; omega)
  have p5 := lt_f (a := 5) (b := p) (by rw [i5]; omega)
  have q6 := lt_f (a := 6) (b := q) (by rw [i6]; omega)
  obtain ⟨kk, rfl, hkk⟩ := kp_ex (k := k) (N := 30) (by omega) (by omega)
  obtain ⟨pp, rfl, hpp⟩ := kp_ex (k := p) (N := 5) (by omega) (by omega)
  have hq : 1 ≤ q.toInt ∧ q.toInt ≤ 6 := by omega
  obtain ⟨G, hG⟩ : ∃ G, pl (env u) kk pp (flt u) = G := ⟨_, rfl⟩
  obtain ⟨H, hH⟩ : ∃ H, pl (env u) kk pp (fS 5 q (flt u)) = H := ⟨_, rfl⟩
  refine Both_of (r := anoS G H) hR (another_C hR k0 p0 q0 k3 p5 q6 hkk hpp hq hG hH) (fun u1 hR1 e1 e2 _ _ => ?_)
  rw [← e1, ← e2] at hG hH
  exact another_M hR1 k0 p0 q0 k3 p5 q6 hkk hpp hq hG hH
/-! More GAS makes no difference where some is left. -/
def GD (d : Int) (a b : Nat → Int32) : Prop := (∀ i, i ≠ 4 → b i = a i) ∧ (b 4).toInt = (a 4).toInt + d
theorem GD_psm {d : Int} {a b : Nat → Int32} (h : GD d a b) (n : Nat) : psm b n = psm a n := by
  induction n with
  | zero => rfl
  | succ n ih =>
    show psm b n + b (9 + n) = psm a n + a (9 + n)
    rw [ih, h.1 _ (by omega)]
theorem GD_hact {d : Int} {a b : Nat → Int32} (h : GD d a b) (hd : 0 ≤ d) (ha : 0 < (a 4).toInt) : hact b = hact a := by
  unfold hact
  rw [GD_psm h, h.1 3 (by decide), h.1 5 (by decide), if_pos (show 0 < b 4 by rw [t_lt, i0, h.2]; omega), if_pos (show 0 < a 4 by rw [t_lt, i0]; exact ha)]
theorem GD_stp {d : Int} {a b sd ah : Nat → Int32} {t : Nat} (h : GD d a b) (ht : t < 3) (ha : -100000 ≤ (a 4).toInt ∧ (a 4).toInt ≤ 60) (hb : -100000 ≤ (b 4).toInt ∧ (b 4).toInt ≤ 60) : GD d (stp sd ah t a) (stp sd ah t b) := by
  obtain ⟨h1, h2⟩ := h
  have e : ∀ j, b (9 + j) = a (9 + j) := fun j => h1 _ (by omega)
  have ew : (fun j => b (9 + j)) = (fun j => a (9 + j)) := funext e
  have w : stW b t = stW a t := by unfold stW; rw [ew, h1 6 (by decide)]
  have r : stR b t = stR a t := by unfold stR; rw [w, h1 3 (by decide), h1 5 (by decide)]
  have hh : stH b t = stH a t := by unfold stH; rw [r, h1 0 (by decide)]
  refine ⟨fun i hi => ?_, ?_⟩
  · by_cases c : 9 ≤ i
    · obtain ⟨j, rfl⟩ : ∃ j, i = 9 + j := ⟨i - 9, by omega⟩
      rw [stp_w, stp_w, ew, h1 6 (by decide)]
    · have hc : i = 0 ∨ i = 1 ∨ i = 2 ∨ i = 3 ∨ i = 5 ∨ i = 6 ∨ i = 7 ∨ i = 8 := by omega
      rcases hc with rfl | rfl | rfl | rfl | rfl | rfl | rfl | rfl
      · exact hh
      · show movS (stH b t) (b 1) _ = movS (stH a t) (a 1) _
        rw [hh, h1 1 (by decide)]
      · show movS (stH b t) (b 2) _ = movS (stH a t) (a 2) _
        rw [hh, h1 2 (by decide)]
      · show heatS (b 3) (stW b t) = heatS (a 3) (stW a t)
        rw [w, h1 3 (by decide)]
      · exact h1 5 (by decide)
      · exact h1 6 (by decide)
      · show b 7 + 1 = a 7 + 1
        rw [h1 7 (by decide)]
      · show pacS (b 0) (stH b t) (stR b t) = pacS (a 0) (stH a t) (stR a t)
        rw [hh, r, h1 0 (by decide)]
  · show (if nI t = 1 then b 4 - 1 else b 4).toInt = (if nI t = 1 then a 4 - 1 else a 4).toInt + d
    by_cases c : nI t = 1
    · rw [if_pos c, if_pos c, t_sub (by rw [i1]; omega) (by rw [i1]; omega), t_sub (by rw [i1]; omega) (by rw [i1]; omega), h2, i1]
      omega
    · rw [if_neg c, if_neg c, h2]
theorem hrun_gas {E : Mm} {f : Nat → Int32} (hV : VF f) (n : Nat) : (hrun E (n + 1) f 4).toInt ≤ (hrun E n f 4).toInt := by
  by_cases c : 0 < hrun E n f 0
  · rw [hrun_y c]
    have hg := (VF_hrun (E := E) hV n).1.2.2.2.2.1
    show (if _ then hrun E n f 4 - 1 else hrun E n f 4).toInt ≤ _
    split
    · rw [t_sub (by rw [i1]; omega) (by rw [i1]; omega), i1]; omega
    · exact Int.le_refl _
  · rw [hrun_n c]; exact Int.le_refl _
theorem hrun_pos {E : Mm} {f : Nat → Int32} (hV : VF f) : ∀ d n, 0 < (hrun E (n + d) f 4).toInt → 0 < (hrun E n f 4).toInt := by
  intro d
  induction d with
  | zero => intro n h; exact h
  | succ d ih =>
    intro n h
    have := hrun_gas (E := E) hV (n + d)
    exact ih n (by rw [← Nat.add_assoc] at h; omega)
theorem prun_GD {E : Mm} {d : Int} {a b : Nat → Int32} {k p : Nat} (h : GD d a b) (hd : 0 ≤ d) (ha : VF a) (hb : VF b) (hk : ∀ n, n < k → 0 < (hrun E n a 4).toInt) : ∀ n, GD d (prun E k p n a) (prun E k p n b) := by
  intro n
  induction n with
  | zero => exact h
  | succ n ih =>
    have e0 : prun E k p n b 0 = prun E k p n a 0 := ih.1 0 (by decide)
    by_cases c : 0 < prun E k p n a 0
    · rw [prun_y c, prun_y (by rw [e0]; exact c)]
      have ga := (VF_prun (E := E) (k := k) (p := p) ha n).1.2.2.2.2.1
      have gb := (VF_prun (E := E) (k := k) (p := p) hb n).1.2.2.2.2.1
      have ep : pact k p n (prun E k p n b) = pact k p n (prun E k p n a) := by
        unfold pact
        by_cases c1 : n < k
        · rw [if_pos c1, if_pos c1]
          refine GD_hact ih hd ?_
          rw [prun_h n (by omega)]
          exact hk n c1
        · rw [if_neg c1, if_neg c1]
      rw [ep]
      exact GD_stp ih (pact_3 _ _ _ _) ⟨by omega, ga.2⟩ ⟨by omega, gb.2⟩
    · rw [prun_n c, prun_n (by rw [e0]; exact c)]
      exact ih
theorem hadS_cg {E : Mm} {fld : Int32} {a b : Nat → Int32} {S T : Nat → Nat × Int32 × Int32 × Int32} (hS : HS E fld a S) (hT : HS E fld b T) (h : ∀ k, k ≤ 30 → ∀ p, pl E k p b 0 = pl E k p a 0 ∧ pl E k p b 1 = pl E k p a 1 ∧ pl E k p b 2 = pl E k p a 2 ∧ pl E k p b 8 = pl E k p a 8) : ∀ n, n ≤ 186 → T n = S n := by
  intro n
  induction n with
  | zero => intro _; rw [hS.1, hT.1]
  | succ n ih =>
    intro hn
    rw [hS.2 n, hT.2 n, ih (by omega)]
    obtain ⟨h0, h1, h2, h8⟩ := h (n / 6) (by omega) (n % 6)
    generalize pl E (n / 6) (n % 6) a = A at h0 h1 h2 h8
    generalize pl E (n / 6) (n % 6) b = B at h0 h1 h2 h8
    unfold hadU fieldP
    rw [h0, h1, h2, h8]
def kpF (K : Nat → Nat) : Nat → Nat → Int32
  | 0, _ => -9
  | d + 1, g => if 0 < K g then nI g else kpF K d (g + 1)
theorem kpF_z {K : Nat → Nat} : ∀ d g, (∀ x, g ≤ x → x < g + d → ¬ 0 < K x) → kpF K d g = -9 := by
  intro d
  induction d with
  | zero => intro g _; rfl
  | succ d ih =>
    intro g h
    rw [show kpF K (d + 1) g = kpF K d (g + 1) from if_neg (h g (Nat.le_refl _) (by omega))]
    exact ih (g + 1) (fun x h1 h2 => h x (by omega) (by omega))
theorem kpF_n {K : Nat → Nat} {d g : Nat} (h : ¬ 0 < K g) : kpF K (d + 1) g = kpF K d (g + 1) := if_neg h
theorem kpF_y {K : Nat → Nat} {d g : Nat} (h : 0 < K g) : kpF K (d + 1) g = nI g := if_pos h
theorem g_bd {g : Nat} (h : g ≤ 60) : 0 ≤ (nI g).toInt ∧ (nI g).toInt ≤ 60 := by rw [t_nI (by omega)]; omega
theorem c_keep (a : Int32) (u : Mm) (hR : R u) : Both (gX10_keep a u) (gX11_keep a) := by
  by_cases ha : 0 ≤ a.toInt ∧ a.toInt < (u 6 0).toInt
  · have g1 := isFieldC_t ha
    obtain ⟨S, hS⟩ : ∃ S : Nat → Nat → Nat × Int32 × Int32 × Int32, ∀ g, HS (env u) a (fS 4 (nI g) (flt u)) (S g) := ⟨fun g => hadS (env u) a (fS 4 (nI g) (flt u)), fun g => HS_ok _ _ _⟩
    obtain ⟨K, hK⟩ : ∃ K : Nat → Nat, ∀ g, K g = (S g 186).1 := ⟨_, fun _ => rfl⟩
    refine Both_of (r := kpF K 61 0) hR ?_ (fun u1 hR1 e1 e2 _ h74 => ?_)
    · unfold gX10_keep gX10_keep_b
      rw [g1, Option.bind_some, if_neg (by decide), ok_bind]
      refine (cbegin hR).mono ?_
      rintro v1 ⟨f1, m1⟩
      refine loopS (fun n (s : Int32 × Mm) => gX10_keep_27_L a n s.1 s.2) (fun g s => gX10_keep_27_Ls a (fun z t => g (z, t)) s.1 s.2) (fun _ _ => rfl) _
        (fun n s => s.1 = nI n ∧ n ≤ 61 ∧ kpF K 61 0 = kpF K (61 - n) n ∧ Fk lM [4] u s.2 ∧ EC (env u) s.2 ∧ ∃ x, CF (s.2 67) (fS 4 x (flt u))) 61 ?_ ?_ 61 0 FU (0, v1) rfl (by decide) ⟨rfl, by decide, rfl, f1, m1.1, flt u 4, by rw [fS_self]; exact m1.2.1⟩
      · rintro j ⟨x3, x⟩ g hj ⟨h0, _, q1, q3, q4, xx, q5⟩ hg
        change x3 = nI j at h0
        subst h0
        show Ok (gX10_keep_27_Ls a (fun z t => g (z, t)) (nI j) x) _
        unfold gX10_keep_27_Ls
        rw [show (60 : Int32) = nI 60 from rfl, if_neg (by rw [lt_nn (by omega) (by omega)]; omega), ok_bind]
        refine (takeGas_ok q4 q5 (flt_8 u)).mono ?_
        rintro y ⟨y1, y2⟩
        have hVj := fS_VF4 (flt_VF hR) (g_bd (g := j) (by omega))
        rw [ok_bI]
        refine (csome (hS j) ⟨0, by decide, y2⟩ hVj (fS_8 (by decide) (flt_8 u)) (env_EB hR)).mono ?_
        rintro ⟨r, z⟩ ⟨hr, z1, ⟨mz, _, z2⟩, z3⟩
        change Fk lF [4] y z at z1
        rw [← hK] at hr z3
        have hr0 := bz_i hr
        have t3 : Fk lM [4] u z := (Fk.tr q3 y1).tr (z1.mono (by decide) (fun _ h => h))
        have e61 : 61 - j = (61 - (j + 1)) + 1 := by omega
        refine ok_if (fun c => ?_) (fun c => ?_)
        · have c0 := hr0.mp c
          obtain ⟨w1, w2, w3, w4⟩ := z3 c0
          show Ok ((gX3_hasGasOver z).bind _) _
          have hg0 : gX3_hasGasOver z = some (if 0 < hrun (env u) 30 (fS 4 (nI j) (flt u)) 4 then 1 else 0) := by
            unfold gX3_hasGasOver gX3_hasGasOver_b
            rw [show z 57 4 = nI 30 from w3, if_pos (show nI 30 = (30 : Int32) from rfl), show z 68 4 = _ from w4.1 4 (by decide)]
            split <;> rfl
          rw [hg0, Option.bind_some]
          by_cases cg : 0 < hrun (env u) 30 (fS 4 (nI j) (flt u)) 4
          · rw [if_pos cg, if_neg (by decide)]
            refine ok_some.mpr ⟨?_, Sm_K t3⟩
            rw [q1, kpF_z]
            intro x hx1 hx2
            rw [t_lt, i0] at cg
            have hVx := fS_VF4 (flt_VF hR) (g_bd (g := x) (by omega))
            have gd : GD ((x : Int) - j) (fS 4 (nI j) (flt u)) (fS 4 (nI x) (flt u)) := by
              refine ⟨fun i hi => by unfold fS; rw [if_neg hi, if_neg hi], ?_⟩
              show (nI x).toInt = (nI j).toInt + _
              rw [t_nI (by omega), t_nI (by omega)]
              omega
            have e := hadS_cg (hS j) (hS x) (fun k hk p => by
              have h := prun_GD (E := env u) (k := k) (p := p) gd (by omega) hVj hVx (fun n hn => by
                have := hrun_pos (E := env u) hVj (30 - n) n
                rw [show n + (30 - n) = 30 by omega] at this
                exact this cg) 60
              exact ⟨h.1 0 (by decide), h.1 1 (by decide), h.1 2 (by decide), h.1 8 (by decide)⟩) 186 (Nat.le_refl _)
            rw [hK, e, ← hK]
            exact c0
          · rw [if_neg cg, if_pos rfl, letv_eq, nI_s (by omega)]
            refine hg (nI (j + 1), z) ⟨rfl, by omega, ?_, t3, z2.1, _, z2.2.1⟩
            rw [q1, e61, kpF_n c0]
        · have c0 : 0 < K j := Decidable.not_not.mp (fun h => c (hr0.mpr h))
          refine ok_some.mpr ⟨?_, Sm_K t3⟩
          rw [q1, e61, kpF_y c0]
      · rintro ⟨x3, x⟩ g ⟨h0, _, q1, q3, q4⟩
        change x3 = nI 61 at h0
        subst h0
        show Ok (gX10_keep_27_Ls a (fun z t => g (z, t)) (nI 61) x) _
        unfold gX10_keep_27_Ls
        rw [if_pos (by decide)]
        exact ok_some.mpr ⟨by rw [q1]; rfl, Sm_K q3⟩
    · rw [← e1, ← e2] at hS
      have e11 : u1 74 11 = u 74 11 := h74 11 (by decide)
      unfold gX11_keep gX11_keep_b
      rw [letv_eq, fldM_t hR ha (v := thr u1) e11, Option.bind_some, if_neg (by decide), letv_eq]
      have m0 : MF (thr u1) (flt u1) := (flt_MF u1).st (by decide)
      have e6 : stm u1 74 19 0 74 6 = flt u1 4 := m0.1 4 (by decide)
      rw [e6]
      have fin : ∀ (v : Int32) (x : Mm), v = kpF K 61 0 → Fr cW lW u1 x → (∃ y, MF x (fS 4 y (flt u1))) → Ok (gX11_keep_77 (flt u1 4) v x) (fun q => q.1 = kpF K 61 0 ∧ Sm u1 q.2) := by
        rintro v x hv hx ⟨y, hy⟩
        unfold gX11_keep_77
        rw [letv_eq]
        have h := fS_MF (s := 4) (y := flt u1 4) (by decide) hy
        rw [fS_self] at h
        exact ok_some.mpr ⟨hv, Sm_W (hx.tr (Fr.st (by decide))) h⟩
      refine loopS (fun n (s : Int32 × Int32 × Mm) => gX11_keep_30_L a (flt u1 4) n s.1 s.2.1 s.2.2) (fun g s => gX11_keep_30_Ls a (flt u1 4) (fun x y z => g (x, y, z)) s.1 s.2.1 s.2.2) (fun _ _ => rfl) _
        (fun n s => s.2.1 = nI n ∧ n ≤ 61 ∧ ((s.1 = -9 ∧ kpF K 61 0 = kpF K (61 - n) n) ∨ (0 ≤ s.1.toInt ∧ s.1 = kpF K 61 0)) ∧ Fr cW lW u1 s.2.2 ∧ ∃ y, MF s.2.2 (fS 4 y (flt u1))) 61 ?_ ?_ 61 0 FU (-9, 0, thr u1) rfl (by decide) ⟨rfl, by decide, Or.inl ⟨rfl, rfl⟩, Fr.st (by decide), flt u1 4, by rw [fS_self]; exact m0⟩
      · rintro j ⟨x2, x3, x⟩ g hj ⟨h0, _, q1, q3, yy, q5⟩ hg
        change x3 = nI j at h0
        subst h0
        change (x2 = -9 ∧ _) ∨ (0 ≤ x2.toInt ∧ x2 = _) at q1
        change Fr cW lW u1 x at q3
        show Ok (gX11_keep_30_Ls a (flt u1 4) (fun x y z => g (x, y, z)) x2 (nI j) x) _
        unfold gX11_keep_30_Ls
        rw [show (60 : Int32) = nI 60 from rfl, if_neg (by rw [lt_nn (by omega) (by omega)]; omega)]
        rcases q1 with ⟨p1, p2⟩ | ⟨p1, p2⟩
        · rw [if_pos (by rw [p1]; decide), letv_eq, ok_bind]
          refine (open_fr (fS_MF (s := 4) (y := nI j) (by decide) q5)).mono ?_
          rintro y ⟨y1, y2, y3⟩
          have hy : Fr cW lW u1 y := (q3.tr (Fr.st (by decide))).tr (y1.mono (by decide) (by decide))
          rw [ok_bind]
          have hVj := fS_VF4 (flt_VF hR1) (g_bd (g := j) (by omega))
          refine (mseekP (hS j) y2 ((env_EM u1).fr hy cW_e (by decide)) hVj (fS_8 (by decide) (flt_8 u1)) (env_EB hR1)).mono ?_
          rintro z ⟨⟨z1, z3, -, -⟩, z2⟩
          have t3 : Fr cW lW u1 z := hy.tr (z1.W (by decide))
          have e61 : 61 - j = (61 - (j + 1)) + 1 := by omega
          rw [z3, ← hK]
          have hKj : K j < 2147483648 := by
            have := ((hS j).inv 186 (Nat.le_refl _)).1
            rw [hK]; omega
          have hi : (0 < nI (K j)) ↔ 0 < K j := by rw [t_lt, i0, t_nI hKj]; omega
          unfold gX11_keep_70
          refine ok_if (fun c => ?_) (fun c => ?_)
          · rw [letv_eq, nI_s (by omega)]
            refine hg (nI j, nI (j + 1), z) ⟨rfl, by omega, Or.inr ⟨by show 0 ≤ (nI j).toInt; rw [t_nI (by omega)]; omega, ?_⟩, t3, _, z2⟩
            rw [p2, e61, kpF_y (hi.mp c)]
          · rw [letv_eq, nI_s (by omega)]
            refine hg (-9, nI (j + 1), z) ⟨rfl, by omega, Or.inl ⟨rfl, ?_⟩, t3, _, z2⟩
            rw [p2, e61, kpF_n (fun h => c (hi.mpr h))]
        · rw [if_neg (by rw [t_lt, i0]; omega)]
          exact fin x2 x p2 q3 ⟨yy, q5⟩
      · rintro ⟨x2, x3, x⟩ g ⟨h0, _, q1, q3, yy, q5⟩
        change x3 = nI 61 at h0
        subst h0
        change (x2 = -9 ∧ _) ∨ (0 ≤ x2.toInt ∧ x2 = _) at q1
        show Ok (gX11_keep_30_Ls a (flt u1 4) (fun x y z => g (x, y, z)) x2 (nI 61) x) _
        unfold gX11_keep_30_Ls
        rw [if_pos (by decide)]
        refine fin x2 x ?_ q3 ⟨yy, q5⟩
        rcases q1 with ⟨p1, p2⟩ | ⟨p1, p2⟩
        · rw [p2, p1]; rfl
        · exact p2
  · have g1 := isFieldC_f ha
    refine Both_ref (k := 1) (r := -1) hR ?_ ?_
    · simp only [gX10_keep, gX10_keep_b, g1, Option.bind_some, ↓reduceIte, rC1, bI_some]
    · simp only [gX11_keep, gX11_keep_b, letv_eq, fldM_f hR ha (v := thr (rfC u 1)) rfl, Option.bind_some, ↓reduceIte, rM1, bI_some]
