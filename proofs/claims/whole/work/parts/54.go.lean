/-! Calls: go, back. -/
theorem stp_8 {sd ah f g : Nat → Int32} {t : Nat} (h : ∀ i, i ≠ 8 → f i = g i) : stp sd ah t f = stp sd ah t g := by
  have ew : (fun j => f (9 + j)) = (fun j => g (9 + j)) := funext fun j => h _ (by omega)
  have w : stW f t = stW g t := by unfold stW; rw [ew, h 6 (by decide)]
  have r : stR f t = stR g t := by unfold stR; rw [w, h 3 (by decide), h 5 (by decide)]
  have hh : stH f t = stH g t := by unfold stH; rw [r, h 0 (by decide)]
  funext i
  by_cases c : 9 ≤ i
  · obtain ⟨j, rfl⟩ : ∃ j, i = 9 + j := ⟨i - 9, by omega⟩
    rw [stp_w, stp_w, ew, h 6 (by decide)]
  · have hc : i = 0 ∨ i = 1 ∨ i = 2 ∨ i = 3 ∨ i = 4 ∨ i = 5 ∨ i = 6 ∨ i = 7 ∨ i = 8 := by omega
    rcases hc with rfl | rfl | rfl | rfl | rfl | rfl | rfl | rfl | rfl
    · exact hh
    · show movS (stH f t) (f 1) _ = movS (stH g t) (g 1) _
      rw [hh, h 1 (by decide)]
    · show movS (stH f t) (f 2) _ = movS (stH g t) (g 2) _
      rw [hh, h 2 (by decide)]
    · show heatS (f 3) (stW f t) = heatS (g 3) (stW g t)
      rw [w, h 3 (by decide)]
    · show (if nI t = 1 then f 4 - 1 else f 4) = (if nI t = 1 then g 4 - 1 else g 4)
      rw [h 4 (by decide)]
    · exact h 5 (by decide)
    · exact h 6 (by decide)
    · show f 7 + 1 = g 7 + 1
      rw [h 7 (by decide)]
    · show pacS (f 0) (stH f t) (stR f t) = pacS (g 0) (stH g t) (stR g t)
      rw [hh, r, h 0 (by decide)]
theorem FlR_cg {a a' b b' : Nat → Int32} (h : FlR a b) (ha : ∀ i, i < 10 → a' i = a i) (hb : ∀ i, i < 14 → b' i = b i) : FlR a' b' := by
  obtain ⟨h1, h2, h3⟩ := h
  refine ⟨fun i hi => ?_, ?_, ?_⟩
  · rw [ha i (by omega), hb i (by omega)]; exact h1 i hi
  · unfold FB
    rw [ha 0 (by decide), ha 1 (by decide), ha 2 (by decide), ha 3 (by decide), ha 4 (by decide), ha 5 (by decide), ha 6 (by decide)]
    exact h2
  · rw [ha 9 (by decide), ha 6 (by decide)]
    exact UW_cg (fun j hj => (hb (8 + j) (by omega)).symm) h3
theorem WC_go {u u' : Mm} {g : Nat → Int32} (hw : WC u) (hC : CF (u' 14) g) (hM : MF u' g) (hF : FB g) (h7 : 0 ≤ (g 7).toInt ∧ (g 7).toInt ≤ 999) (hc : ∀ c, c ∈ [4, 5, 6, 7, 8, 9, 10, 11, 12, 13, 75, 76, 78, 79, 80, 81, 82, 83] → u' c = u c) (h11 : u' 74 11 = u 74 11) (h18 : u' 74 18 = u 74 18) : WC u' := by
  obtain ⟨-, -, -, -, c5, c6, c7, c8, c9⟩ := hw
  have e : ∀ i, i < 8 → u' 14 i = u' 74 (i + 2) := fun i hi => (hC.1 i (by omega)).trans (hM.1 i hi).symm
  unfold WC
  rw [hc 4 (by decide), hc 5 (by decide), hc 6 (by decide), hc 7 (by decide), hc 8 (by decide), hc 9 (by decide), hc 10 (by decide), hc 11 (by decide), hc 12 (by decide), hc 13 (by decide), hc 75 (by decide), hc 76 (by decide), hc 78 (by decide), hc 79 (by decide), hc 80 (by decide), hc 81 (by decide), hc 82 (by decide), hc 83 (by decide), h11, h18]
  refine ⟨⟨e 0 (by decide), e 1 (by decide), e 2 (by decide), e 3 (by decide), e 4 (by decide), e 5 (by decide), e 6 (by decide), e 7 (by decide)⟩, ?_, ?_, ?_, c5, c6, c7, c8, c9⟩
  · unfold FB
    rw [hC.1 0 (by decide), hC.1 1 (by decide), hC.1 2 (by decide), hC.1 3 (by decide), hC.1 4 (by decide), hC.1 5 (by decide), hC.1 6 (by decide)]
    exact hF
  · exact UW_cg (fun j hj => (hM.2 j hj).symm) hC.2
  · rw [hC.1 7 (by decide)]; exact ⟨h7.2, h7.1⟩
/-- keepTurn -/
theorem keep49 {v : Mm} {len : Nat} (hl : len < 8) (e : v 74 40 = nI len) : Ok (gX11_keepTurn_49 v) (fun v' => (∀ c, c ≠ 93 → c ≠ 94 → c ≠ 74 → v' c = v c) ∧ (∀ i, i ≠ 40 → i ≠ 34 → i ≠ 35 → i ≠ 36 → v' 74 i = v 74 i) ∧ v' 74 40 = nI (len + 1) ∧ ∀ i, v' 93 i = if 14 * len ≤ i ∧ i < 14 * len + 14 then mV v (i - 14 * len) else v 93 i) := by
  unfold gX11_keepTurn_49
  rw [letv_eq, letv_eq, letv_eq, ok_bind]
  have h : HK 94 true (cst v 94 1) := ⟨by decide, rfl, rfl, rfl, by decide, fun q hq => (sp_92 q hq).2⟩
  refine (cf_ok h (by decide) (CI_0 rfl)).mono ?_
  rintro w ⟨-, hB, hF, -⟩
  have g1 : ∀ c, c ≠ 74 → c ≠ 94 → w c = v c := fun c a b => funext fun i => by rw [hF c i (Or.inl rfl) (Or.inl a) (Or.inl b), cst_c a]
  have g2 : ∀ i, i ≠ 34 → i ≠ 35 → i ≠ 36 → w 74 i = v 74 i := fun i a b c => by rw [hF 74 i (Or.inl rfl) (Or.inr a) (Or.inl (by decide)), cst_s a b c]
  refine (kt73 hl 14 0 FU w rfl (by decide) ((g2 40 (by decide) (by decide) (by decide)).trans e)).mono ?_
  rintro x ⟨x1, x2, x3, x4⟩
  refine ⟨fun c a b d => (x1 c a d).trans (g1 c d b), fun i a b c d => (x2 i a).trans (g2 i b c d), x3, fun i => ?_⟩
  rw [x4 i]
  by_cases c : 14 * len ≤ i ∧ i < 14 * len + 14
  · rw [if_pos (by omega), if_pos c, hB rfl (i - 14 * len) (by omega), mV_cst (by omega)]
  · rw [if_neg (by omega), if_neg c, g1 93 (by decide) (by decide)]
theorem keep_ok {v : Mm} {len : Nat} (hl : len ≤ 8) (e : v 74 40 = nI len) : Ok (gX11_keepTurn v) (fun v' => (∀ c, c ≠ 93 → c ≠ 94 → c ≠ 74 → v' c = v c) ∧ (∀ i, i ≠ 40 → i ≠ 34 → i ≠ 35 → i ≠ 36 → v' 74 i = v 74 i) ∧ v' 74 40 = nI (min (len + 1) 8) ∧ (∀ j, j < min len 7 → ∀ i, i < 14 → v' 93 (14 * j + i) = v 93 (14 * (if len = 8 then j + 1 else j) + i)) ∧ ∀ i, i < 14 → v' 93 (14 * min len 7 + i) = mV v i) := by
  unfold gX11_keepTurn gX11_keepTurn_b
  by_cases c : len = 8
  · subst c
    rw [e, if_pos (by decide)]
    obtain ⟨w, w1, w2, w3⟩ := kt12 98 0 FU v rfl (by decide)
    rw [show (14 : Int32) = nI (0 + 14) from rfl, w1]
    have e40 : stm w 74 40 (w 74 40 - 1) 74 40 = nI 7 := by
      rw [stm_r, w2 74 (by decide), e]
      rfl
    refine (keep49 (by decide) e40).mono ?_
    rintro x ⟨x1, x2, x3, x4⟩
    refine ⟨fun a b c d => ?_, fun i a b c d => ?_, x3, fun j hj i hi => ?_, fun i hi => ?_⟩
    · rw [x1 a b c d, stm_c d, w2 a b]
    · rw [x2 i a b c d, stm_s a, w2 74 (by decide)]
    · rw [x4, if_neg (by omega), stm_c (by decide), w3, if_pos (by omega), if_pos rfl, show 14 * j + i + 14 = 14 * (j + 1) + i by omega]
    · rw [show min 8 7 = 7 from rfl, x4, if_pos (by omega), show 14 * 7 + i - 14 * 7 = i by omega, mV_st (fun h => (sp_x i (by omega)).2.2.1 h), mV_sp, mV_sp, w2 _ (by have := sp_c i (by omega); omega)]
  · rw [e, if_neg (fun h => c (by have := congrArg Int32.toInt h; rw [t_nI (by omega), i8] at this; omega))]
    refine (keep49 (by omega) e).mono ?_
    rintro x ⟨x1, x2, x3, x4⟩
    refine ⟨x1, x2, by rw [x3, show min (len + 1) 8 = len + 1 by omega], fun j hj i hi => ?_, fun i hi => ?_⟩
    · rw [x4, if_neg (by omega), if_neg c]
    · rw [show min len 7 = len by omega, x4, if_pos (by omega), Nat.add_sub_cancel_left]
theorem R_go {u w : Mm} {g : Nat → Int32} {lt len : Nat} (hR : R u) (hl : len ≤ 8) (hlt : lt < 8) (e41 : u 41 1 = nI lt)
    (hP : ∀ j, j < len → FlR (u (43 + (lt + 9 + j - len) % 8)) (fun i => u 93 (14 * j + i)) ∧ (u (43 + (lt + 9 + j - len) % 8) 7).toInt ≤ 999 ∧ 0 ≤ (u (43 + (lt + 9 + j - len) % 8) 7).toInt)
    (hC : CF (w 14) g) (hM : MF w g) (hF : FB g) (h7 : 0 ≤ (g 7).toInt ∧ (g 7).toInt ≤ 999)
    (f1 : ∀ c, c ≠ 14 → c ≠ 41 → c ≠ 43 + (lt + 1) % 8 → c ≠ 74 → c ≠ 77 → c ≠ 93 → c ≠ 94 → w c = u c)
    (f2 : ∀ i, i ∈ [11, 18, 23, 33, 58] → w 74 i = u 74 i)
    (a1 : w 41 1 = nI ((lt + 1) % 8)) (a2 : w 41 0 = nI (min (len + 1) 8)) (a3 : ∀ i, i < 10 → w (43 + (lt + 1) % 8) i = u 14 i)
    (b1 : w 74 40 = nI (min (len + 1) 8)) (b2 : ∀ j, j < min len 7 → ∀ i, i < 14 → w 93 (14 * j + i) = u 93 (14 * (if len = 8 then j + 1 else j) + i)) (b3 : ∀ i, i < 14 → w 93 (14 * min len 7 + i) = mV u i) : R w := by
  have hm : (lt + 1) % 8 < 8 := Nat.mod_lt _ (by decide)
  have n1 : ∀ c, c < 41 → c ≠ 14 → w c = u c := fun c h1 h2 => f1 c h2 (by omega) (by omega) (by omega) (by omega) (by omega) (by omega)
  have n2 : ∀ c, 50 < c → c ≠ 74 → c ≠ 77 → c ≠ 93 → c ≠ 94 → w c = u c := fun c h1 h2 h3 h4 h5 => f1 c (by omega) (by omega) (by omega) h2 h3 h4 h5
  obtain ⟨r1, r2, r3, r4, r5, r6⟩ := hR
  refine ⟨(WN_iff _).mpr (WC_go ((WN_iff _).mp r1) hC hM hF h7 (fun c hc => ?_) (f2 11 (by decide)) (f2 18 (by decide))), ?_, ⟨min (len + 1) 8, (lt + 1) % 8, by omega, hm, a2, b1, a1, fun j hj => ?_⟩, ?_, ?_, ?_⟩
  · have : ∀ c, c ∈ [4, 5, 6, 7, 8, 9, 10, 11, 12, 13, 75, 76, 78, 79, 80, 81, 82, 83] → (c < 41 ∧ c ≠ 14) ∨ (50 < c ∧ c ≠ 74 ∧ c ≠ 77 ∧ c ≠ 93 ∧ c ≠ 94) := by decide
    rcases this c hc with ⟨h1, h2⟩ | ⟨h1, h2, h3, h4, h5⟩
    · exact n1 c h1 h2
    · exact n2 c h1 h2 h3 h4 h5
  · unfold IR at r2 ⊢
    rw [n1 1 (by decide) (by decide), f2 33 (by decide), n1 30 (by decide) (by decide), n1 31 (by decide) (by decide), n1 32 (by decide) (by decide), n1 33 (by decide) (by decide), n1 34 (by decide) (by decide), n1 35 (by decide) (by decide), n1 36 (by decide) (by decide), n1 37 (by decide) (by decide), n1 38 (by decide) (by decide), n1 39 (by decide) (by decide), n1 40 (by decide) (by decide), n2 91 (by decide) (by decide) (by decide) (by decide) (by decide)]
    exact r2
  · by_cases c : j = min len 7
    · have es : 43 + ((lt + 1) % 8 + 9 + j - min (len + 1) 8) % 8 = 43 + (lt + 1) % 8 := by omega
      rw [es]
      have hw := (WN_iff _).mp r1
      refine ⟨FlR_cg r1.1 a3 (fun i hi => by rw [c]; exact b3 i hi), ?_, ?_⟩
      · rw [a3 7 (by decide)]; exact r1.2.1
      · rw [a3 7 (by decide)]; exact r1.2.2.1
    · have hj7 : j < min len 7 := by omega
      have es : ((lt + 1) % 8 + 9 + j - min (len + 1) 8) % 8 = (lt + 9 + (if len = 8 then j + 1 else j) - len) % 8 := by split <;> omega
      have ene : (lt + 9 + (if len = 8 then j + 1 else j) - len) % 8 ≠ (lt + 1) % 8 := by split <;> omega
      rw [es]
      have hlt8 : (lt + 9 + (if len = 8 then j + 1 else j) - len) % 8 < 8 := Nat.mod_lt _ (by decide)
      have hold := hP (if len = 8 then j + 1 else j) (by split <;> omega)
      have ew : w (43 + (lt + 9 + (if len = 8 then j + 1 else j) - len) % 8) = u (43 + (lt + 9 + (if len = 8 then j + 1 else j) - len) % 8) := f1 _ (by omega) (by omega) (by omega) (by omega) (by omega) (by omega) (by omega)
      rw [ew]
      exact ⟨FlR_cg hold.1 (fun _ _ => rfl) (fun i hi => b2 j hj7 i hi), hold.2⟩
  · exact LR_keep r4 (n2 52 (by decide) (by decide) (by decide) (by decide) (by decide)) (n2 53 (by decide) (by decide) (by decide) (by decide) (by decide)) (n2 85 (by decide) (by decide) (by decide) (by decide) (by decide)) (f2 23 (by decide))
  · exact NR_keep r5 (n2 54 (by decide) (by decide) (by decide) (by decide) (by decide)) (n2 55 (by decide) (by decide) (by decide) (by decide) (by decide)) (n2 100 (by decide) (by decide) (by decide) (by decide) (by decide)) (f2 58 (by decide))
  · exact XR_keep r6 (n2 56 (by decide) (by decide) (by decide) (by decide) (by decide)) (n2 84 (by decide) (by decide) (by decide) (by decide) (by decide))
theorem thr_c {u : Mm} {c : Nat} (h : c ≠ 74) : thr u c = u c := stm_c h
theorem go_main (t : Nat) (ht : t < 3) (u : Mm) (hR : R u) (hg : t = 1 → 0 < (flt u 4).toInt) (h7 : (u 14 7).toInt < 999) : Both (gX10_go_41 (nI t) u) (fun v => gX11_go_55 (nI t) 0 (thr v)) := by
  obtain ⟨len, lt, p1, p2, p3, p4, p5, p6⟩ := hR.2.2.1
  have hV := flt_VF hR
  have hw := hR.wc
  have s7 : flt u 7 = u 14 7 := hw.1.2.2.2.2.2.2.2.symm
  have s7b := hw.2.2.2.1
  have hm : (lt + 1) % 8 < 8 := Nat.mod_lt _ (by decide)
  obtain ⟨v, ev, v1, v2, v3, v4⟩ := pastAdd p2 (by omega) p5 p3
  have v14 : v 14 = u 14 := v1 14 (by decide) (by omega)
  have hCv : CF (v 14) (fun i => if i = 8 then u 14 8 else flt u i) := by rw [v14]; exact flt_CF hR
  obtain ⟨x, ex, x1, x2⟩ := cfly (k0 := 14) (k2 := 3) (sd := env u 0) (ah := env u 1) (by decide) (by decide) ht hCv hV.1 (fun i hi => by rw [v1 4 (by decide) (by omega)]; exact (hw.2.2.2.2.2.2.1 i hi).1) (fun i hi => by rw [v1 5 (by decide) (by omega)]; exact (hw.2.2.2.2.2.2.1 i hi).2.1)
  have e8 : stp (env u 0) (env u 1) t (fun i => if i = 8 then u 14 8 else flt u i) = stp (env u 0) (env u 1) t (flt u) := stp_8 (fun i hi => if_neg hi)
  rw [e8] at x2
  have xn : ∀ c, c ≠ 14 → c ≠ 41 → c ≠ 43 + (lt + 1) % 8 → x c = u c := fun c a b d => (x1 c a).trans (v1 c b d)
  have x74 : x 74 = u 74 := xn 74 (by decide) (by decide) (by omega)
  have x77 : x 77 = u 77 := xn 77 (by decide) (by decide) (by omega)
  have mx : MF (thr x) (flt u) := by
    have h0 := flt_MF u
    refine MF.st ⟨fun i hi => ?_, fun j hj => ?_⟩ (by decide)
    · rw [x74]; exact h0.1 i hi
    · rw [x77]; exact h0.2 j hj
  obtain ⟨y, ey, y1, y2, y3, y4, y5⟩ := keep_ok (v := thr x) (len := len) p1 (by show x 74 40 = _; rw [x74]; exact p4)
  have my : MF y (flt u) := by
    refine ⟨fun i hi => ?_, fun j hj => ?_⟩
    · rw [y2 (i + 2) (by omega) (by omega) (by omega) (by omega)]; exact mx.1 i hi
    · rw [y1 77 (by decide) (by decide) (by decide)]; exact mx.2 j hj
  have hMv : ∀ i, i < 14 → mV (thr x) i = mV u i := by
    intro i hi
    rw [mV_sp, mV_sp, sp14 i hi]
    by_cases c : i < 8
    · rw [if_pos c]
      show stm x 74 19 0 74 (i + 2) = u 74 (i + 2)
      rw [stm_s (by omega), x74]
    · rw [if_neg c]
      show stm x 74 19 0 77 (i - 8) = u 77 (i - 8)
      rw [stm_c (by decide), x77]
  obtain ⟨z, ez, z1, z2, -⟩ := mstep (sd := env u 0) (ah := env u 1) ht my hV.1 (fun i hi => by rw [y1 75 (by decide) (by decide) (by decide), thr_c (by decide), xn 75 (by decide) (by decide) (by omega)]; rfl) (fun i hi => by rw [y1 76 (by decide) (by decide) (by decide), thr_c (by decide), xn 76 (by decide) (by decide) (by omega)]; rfl)
  have hVg := VF_stp (sd := env u 0) (ah := env u 1) hV ht hg
  have g7 : (stp (env u 0) (env u 1) t (flt u) 7).toInt = (u 14 7).toInt + 1 := by
    show (flt u 7 + 1).toInt = _
    rw [s7, t_add (by rw [i1]; omega) (by rw [i1]; omega), i1]
  generalize stp (env u 0) (env u 1) t (flt u) = g at x2 z2 hVg g7
  refine ⟨g 0, x, z, ?_, ?_, R_go hR p1 p2 p5 p6 (lt := lt) (len := len) (g := g) ?_ z2 hVg.1 ⟨by omega, by omega⟩ (fun c a1 a2 a3 a4 a5 a6 a7 => ?_) (fun i hi => ?_) ?_ ?_ (fun i hi => ?_) ?_ (fun j hj i hi => ?_) (fun i hi => ?_)⟩
  · unfold gX10_go_41
    rw [if_pos (by rw [t_lt, i999]; exact h7), ev, Option.bind_some, ex, Option.bind_some, x2.1 0 (by decide)]
  · show gX11_go_55 (nI t) 0 (thr x) = _
    unfold gX11_go_55
    rw [if_neg (by decide), ey, Option.bind_some, ez, Option.bind_some, show z 74 2 = g 0 from z2.1 0 (by decide)]
  · rw [z1.1 14 (by decide) (by decide), y1 14 (by decide) (by decide) (by decide), thr_c (by decide)]
    exact x2
  · rw [z1.1 c a4 a5, y1 c a6 a7 a4, thr_c a4, xn c a1 a2 a3]
  · have h5 : i ∉ lS ∧ i ≠ 40 ∧ i ≠ 34 ∧ i ≠ 35 ∧ i ≠ 36 ∧ i ≠ 19 := by
      have : ∀ i, i ∈ [11, 18, 23, 33, 58] → i ∉ lS ∧ i ≠ 40 ∧ i ≠ 34 ∧ i ≠ 35 ∧ i ≠ 36 ∧ i ≠ 19 := by decide
      exact this i hi
    rw [z1.2 i h5.1, y2 i h5.2.1 h5.2.2.1 h5.2.2.2.1 h5.2.2.2.2.1, thr_s h5.2.2.2.2.2, x74]
  · rw [z1.1 41 (by decide) (by decide), y1 41 (by decide) (by decide) (by decide), thr_c (by decide), x1 41 (by decide)]; exact v2
  · rw [z1.1 41 (by decide) (by decide), y1 41 (by decide) (by decide) (by decide), thr_c (by decide), x1 41 (by decide)]; exact v3
  · rw [z1.1 _ (by omega) (by omega), y1 _ (by omega) (by omega) (by omega), thr_c (by omega), x1 _ (by omega)]
    exact v4 i hi
  · rw [z1.2 40 (by decide)]; exact y3
  · rw [z1.1 93 (by decide) (by decide), y4 j hj i hi, thr_c (by decide), xn 93 (by decide) (by decide) (by omega)]
  · rw [z1.1 93 (by decide) (by decide), y5 i hi]
    exact hMv i hi
theorem ge3 {v : Int32} (h : 0 ≤ v.toInt ∧ v.toInt ≤ 2) : ∃ t, t < 3 ∧ v = nI t := by
  obtain ⟨t, e, ht⟩ := nI_upto (N := 2) h.1 h.2
  exact ⟨t, by omega, e⟩
theorem Both_eq {a a' : Option (Int32 × Mm)} {b b' : Mm → Option (Int32 × Mm)} (h : Both a' b') (ha : a = a') (hb : ∀ r v, a' = some (r, v) → b v = b' v) : Both a b := by
  obtain ⟨r, u1, u2, h1, h2, h3⟩ := h
  exact ⟨r, u1, u2, ha.trans h1, (hb r u1 h1).trans h2, h3⟩
theorem c_go (a : Int32) (u : Mm) (hR : R u) : Both (gX10_go a u) (gX11_go a) := by
  by_cases ha : 0 ≤ a.toInt ∧ a.toInt ≤ 2
  · obtain ⟨t, ht, rfl⟩ := ge3 ha
    have hw := hR.wc
    have e4 : u 14 4 = u 74 6 := hw.1.2.2.2.2.1
    have e7 : u 14 7 = u 74 9 := hw.1.2.2.2.2.2.2.2
    have b4 := hw.2.1.2.2.2.2.1
    have b7 := hw.2.2.2.1
    have g3 := in_t (x := nI t) (a := 0) (b := 2) ha
    have n0 := lt_f (a := nI t) (b := 0) (by rw [i0]; omega)
    have n2 := lt_f (a := 2) (b := nI t) (by rw [i2]; omega)
    have hone : nI t = 1 ↔ t = 1 := nI_one (by omega)
    by_cases c : t = 1 ∧ ¬ 0 < u 14 4
    · obtain ⟨rfl, c2⟩ := c
      have z4 : u 14 4 = 0 := by rw [t_lt, i0] at c2; rw [t_eq, i0]; omega
      have z6 : u 74 6 = 0 := by rw [← e4]; exact z4
      refine Both_ref (k := 3) (r := -3) hR ?_ ?_
      · unfold gX10_go gX10_go_b
        simp only [n0, n2, ↓reduceIte, eq_true (show nI 1 = 1 from rfl), eq_false c2, rC3, bI_some]
      · unfold gX11_go gX11_go_b gX11_go_55
        rw [letv_eq, g3, Option.bind_some, if_neg (by decide), if_pos (show nI 1 = 1 from rfl), if_pos (show stm (rfC u 3) 74 19 0 74 6 = 0 from z6), if_pos (by decide)]
        show bI (gX11_refuse (-3) _) _ = _
        rw [rM3]
        rfl
    · have hg : t = 1 → 0 < u 14 4 := fun e => Decidable.not_not.mp (fun h => c ⟨e, h⟩)
      have hga : t = 1 → 0 < (flt u 4).toInt := fun e => by
        have := hg e
        rw [t_lt, i0, e4] at this
        exact this
      have eC : gX10_go (nI t) u = gX10_go_41 (nI t) u := by
        unfold gX10_go gX10_go_b
        simp only [n0, n2, ↓reduceIte]
        by_cases c1 : t = 1
        · rw [if_pos (hone.mpr c1), if_pos (hg c1)]
        · rw [if_neg (fun h => c1 (hone.mp h))]
      have eM : ∀ v : Mm, v 74 6 = u 74 6 → gX11_go (nI t) v = gX11_go_39 (nI t) (thr v) := by
        intro v hv
        unfold gX11_go gX11_go_b
        rw [letv_eq, g3, Option.bind_some, if_neg (by decide)]
        by_cases c1 : t = 1
        · have : ¬ stm v 74 19 0 74 6 = 0 := by
            show ¬ v 74 6 = 0
            rw [hv, ← e4]
            intro h
            have := hg c1
            rw [h] at this
            exact absurd this (by decide)
          rw [if_pos (hone.mpr c1), if_neg this]
        · rw [if_neg (fun h => c1 (hone.mp h))]
      by_cases h7 : (u 14 7).toInt < 999
      · have hmain := go_main t ht u hR hga h7
        refine Both_eq hmain eC (fun r v hv => ?_)
        obtain ⟨len, lt, p1, p2, p3, p4, p5, p6⟩ := hR.2.2.1
        have hm : (lt + 1) % 8 < 8 := Nat.mod_lt _ (by decide)
        have v74 : v 74 = u 74 := by
          obtain ⟨v', ev, w1, w2, w3, w4⟩ := pastAdd p2 (by omega) p5 p3
          have v14 : v' 14 = u 14 := w1 14 (by decide) (by omega)
          have hCv : CF (v' 14) (fun i => if i = 8 then u 14 8 else flt u i) := by rw [v14]; exact flt_CF hR
          obtain ⟨x, ex, x1, x2⟩ := cfly (k0 := 14) (k2 := 3) (sd := env u 0) (ah := env u 1) (by decide) (by decide) ht hCv (flt_VF hR).1 (fun i hi => by rw [w1 4 (by decide) (by omega)]; exact (hw.2.2.2.2.2.2.1 i hi).1) (fun i hi => by rw [w1 5 (by decide) (by omega)]; exact (hw.2.2.2.2.2.2.1 i hi).2.1)
          unfold gX10_go_41 at hv
          rw [if_pos (by rw [t_lt, i999]; exact h7), ev, Option.bind_some, ex, Option.bind_some] at hv
          have : x = v := congrArg Prod.snd (Option.some.inj hv)
          rw [← this, x1 74 (by decide), w1 74 (by decide) (by omega)]
        rw [eM v (by rw [v74])]
        unfold gX11_go_39
        rw [if_neg]
        show ¬ v 74 9 = 999
        rw [v74, ← e7, t_eq, i999]
        omega
      · refine Both_ref (k := 6) (r := -6) hR ?_ ?_
        · rw [eC]
          unfold gX10_go_41
          rw [if_neg (by rw [t_lt, i999]; exact h7), rC6]
          rfl
        · rw [eM (rfC u 6) rfl]
          unfold gX11_go_39 gX11_go_55
          have e9 : thr (rfC u 6) 74 9 = 999 := by
            show u 74 9 = 999
            rw [← e7, t_eq, i999]
            omega
          rw [if_pos e9, if_pos (by decide), rM6]
          rfl
  · have g3 := in_f (x := a) (a := 0) (b := 2) ha
    refine Both_ref (k := 2) (r := -2) hR ?_ ?_
    · by_cases h0 : a.toInt < 0
      · simp only [gX10_go, gX10_go_b, gX10_go_9, lt_t (a := a) (b := 0) h0, rC2, bI_some, ↓reduceIte]
      · simp only [gX10_go, gX10_go_b, gX10_go_9, lt_f (a := a) (b := 0) h0, lt_t (a := 2) (b := a) (by rw [i2]; omega), rC2, bI_some, ↓reduceIte]
    · unfold gX11_go gX11_go_b gX11_go_55
      rw [letv_eq, g3, Option.bind_some, if_pos rfl, if_pos (by decide), rM2]
      rfl

theorem imax_b : ∀ n : Nat, n < 9 → n = 0 ∨ imax (nI n - 1) 0 = nI (n - 1) := by decide
theorem nI_p1 {n : Nat} (h0 : 0 < n) (h : n < 2147483648) : nI n - 1 = nI (n - 1) := by
  obtain ⟨m, rfl⟩ : ∃ m, n = m + 1 := ⟨n - 1, by omega⟩
  rw [nI_p h, Nat.add_sub_cancel]
theorem c_back (u : Mm) (hR : R u) : Both (gX10_back u) gX11_back := by
  obtain ⟨len, lt, p1, p2, p3, p4, p5, p6⟩ := hR.2.2.1
  by_cases h0 : len = 0
  · subst h0
    refine Both_ref (k := 3) (r := -3) hR ?_ ?_
    · unfold gX10_back gX10_back_b
      rw [if_pos (show u 41 0 = 0 from p3), rC3]
      rfl
    · unfold gX11_back gX11_back_b
      rw [letv_eq, if_pos (show stm (rfC u 3) 74 19 0 74 40 = 0 from p4), rM3]
      rfl
  · have hw := hR.wc
    have hold := p6 (len - 1) (by omega)
    have es : 43 + (lt + 9 + (len - 1) - len) % 8 = 43 + lt := by omega
    rw [es] at hold
    obtain ⟨⟨k1, k2, k3⟩, k4, k5⟩ := hold
    have nz : ¬ nI len = 0 := fun e => h0 ((nI_z (by omega)).mp e)
    -- the class
    have hC : Ok (gX10_back u) (fun q => q.1 = u (43 + lt) 7 ∧ (∀ c, c ≠ 14 → c ≠ 41 → q.2 c = u c) ∧ (∀ i, i < 10 → q.2 14 i = u (43 + lt) i) ∧ q.2 41 1 = nI ((lt + 7) % 8) ∧ q.2 41 0 = nI (len - 1)) := by
      unfold gX10_back gX10_back_b gX4_takeBack gX4_takeBack_b
      rw [if_neg (by rw [p3]; exact nz), slot_ok p2 p5, Option.bind_some, if_neg (by omega), gd_t (kd43 lt p2), ok_bind, ok_bind]
      refine (cpFl (k0 := 14) (k1 := 43 + lt) (by omega) u).mono ?_
      rintro v ⟨v1, v2⟩
      unfold gX4_takeBack_14
      rw [letv_eq, letv_eq, v1 41 (by decide), p5, irm7 lt p2, show stm v 41 1 (nI ((lt + 7) % 8)) 41 0 = nI len from by rw [stm_s (by decide), v1 41 (by decide)]; exact p3]
      rcases imax_b len (by omega) with e | e
      · exact absurd e h0
      · rw [e]
        exact ok_some.mpr (ok_some.mpr ⟨v2 7 (by decide), fun c a b => by show stm (stm v 41 1 (nI ((lt + 7) % 8))) 41 0 (nI (len - 1)) c = u c; rw [stm_c b, stm_c b, v1 c a], v2, rfl, rfl⟩)
    obtain ⟨⟨r, x⟩, ec, hr, x1, x2, x3, x4⟩ := hC
    change r = _ at hr
    change ∀ c, c ≠ 14 → c ≠ 41 → x c = u c at x1
    change ∀ i, i < 10 → x 14 i = _ at x2
    change x 41 1 = _ at x3
    change x 41 0 = _ at x4
    have x74 : x 74 = u 74 := x1 74 (by decide) (by decide)
    have x93 : x 93 = u 93 := x1 93 (by decide) (by decide)
    -- the reference
    have hM : Ok (gX11_back x) (fun q => q.1 = u 93 (14 * (len - 1) + 7) ∧ (∀ c, c ≠ 74 → c ≠ 77 → c ≠ 94 → q.2 c = x c) ∧ (∀ i, i ∈ [11, 18, 23, 33, 58] → q.2 74 i = u 74 i) ∧ q.2 74 40 = nI (len - 1) ∧ (∀ i, i < 8 → q.2 74 (i + 2) = u 93 (14 * (len - 1) + i)) ∧ ∀ j, j < 6 → q.2 77 j = u 93 (14 * (len - 1) + (8 + j))) := by
      unfold gX11_back gX11_back_b
      rw [letv_eq, if_neg (show ¬ stm x 74 19 0 74 40 = 0 by rw [stm_s (by decide), x74, p4]; exact nz), letv_eq, show stm x 74 19 0 74 40 = nI len from by rw [stm_s (by decide), x74]; exact p4, nI_p1 (by omega) (by omega)]
      refine loopS (fun n (s : Int32 × Mm) => gX11_back_31_L n s.1 s.2) (fun g s => gX11_back_31_Ls (fun a b => g (a, b)) s.1 s.2) (fun _ _ => rfl) _
        (fun n s => s.1 = nI n ∧ (∀ c, c ≠ 94 → s.2 c = stm (thr x) 74 40 (nI (len - 1)) c) ∧ ∀ i, i < n → s.2 94 i = u 93 (14 * (len - 1) + i)) 14 ?_ ?_ 14 0 FU (0, stm (thr x) 74 40 (nI (len - 1))) rfl (by decide) ⟨rfl, fun _ _ => rfl, fun i h => absurd h (Nat.not_lt_zero _)⟩
      · rintro j ⟨v1, v⟩ g hj ⟨h0', h1, h2⟩ hg
        change v1 = nI j at h0'
        subst h0'
        change ∀ c, c ≠ 94 → v c = _ at h1
        change ∀ i, i < j → v 94 i = _ at h2
        show Ok (gX11_back_31_Ls (fun a b => g (a, b)) (nI j) v) _
        unfold gX11_back_31_Ls
        have v40 : v 74 40 = nI (len - 1) := by rw [h1 74 (by decide), stm_r]
        have v93 : v 93 = u 93 := by rw [h1 93 (by decide), stm_c (by decide), thr_c (by decide), x93]
        have e14 : (14 : Int32) * nI (len - 1) + nI j = nI (14 * (len - 1) + j) := ix14 (len - 1) (by omega) j hj
        rw [if_pos (show nI j < 14 by rw [show (14 : Int32) = nI 14 from rfl, lt_nn (by omega) (by omega)]; exact hj), v40, e14, gd_t (ix_nI (by omega) (by decide)), gd_t (ix_nI hj (by decide)), ixn_nI (by omega), ixn_nI (by omega), letv_eq, letv_eq, nI_s (by omega), v93]
        refine hg (nI (j + 1), stm v 94 j (u 93 (14 * (len - 1) + j))) ⟨rfl, fun c hc => (stm_c hc).trans (h1 c hc), fun i hi => ?_⟩
        show stm v 94 j (u 93 (14 * (len - 1) + j)) 94 i = _
        by_cases e : i = j
        · rw [e, stm_r]
        · rw [stm_s e]; exact h2 i (by omega)
      · rintro ⟨v1, v⟩ g ⟨h0', h1, h2⟩
        change v1 = nI 14 at h0'
        subst h0'
        change ∀ c, c ≠ 94 → v c = _ at h1
        change ∀ i, i < 14 → v 94 i = _ at h2
        show Ok (gX11_back_31_Ls (fun a b => g (a, b)) (nI 14) v) _
        unfold gX11_back_31_Ls
        rw [if_neg (by decide), letv_eq, letv_eq, letv_eq, ok_bind]
        have h : HK 94 false (cst v 94 0) := ⟨by decide, rfl, rfl, rfl, by decide, fun q hq => (sp_92 q hq).2⟩
        refine (cf_ok h (by decide) (CI_0 rfl)).mono ?_
        rintro w ⟨hA, -, hF, -⟩
        have h94 : ∀ q, q < 14 → cst v 94 0 94 q = u 93 (14 * (len - 1) + q) := fun q hq => by rw [cst_c (by decide)]; exact h2 q hq
        have m1 : ∀ i, i < 8 → w 74 (i + 2) = u 93 (14 * (len - 1) + i) := by
          intro i hi
          have e := hA rfl i (by omega)
          rw [sp14 i (by omega), if_pos hi, h94 i (by omega)] at e
          exact e
        have m2 : ∀ j, j < 6 → w 77 j = u 93 (14 * (len - 1) + (8 + j)) := by
          intro j hj
          have e := hA rfl (8 + j) (by omega)
          rw [sp14 (8 + j) (by omega), if_neg (by omega), Nat.add_sub_cancel_left, h94 (8 + j) (by omega)] at e
          exact e
        refine ok_some.mpr ⟨m1 7 (by decide), fun c a b d => funext fun i => ?_, fun i hi => ?_, ?_, m1, m2⟩
        · show w c i = x c i
          rw [hF c i (Or.inr (fun q hq => sp_fl hq a b)) (Or.inl a) (Or.inr (Or.inl rfl)), cst_c a, h1 c d, stm_c a, thr_c a]
        · have h5 : (i < 2 ∨ 9 < i) ∧ i ≠ 40 ∧ i ≠ 34 ∧ i ≠ 35 ∧ i ≠ 36 ∧ i ≠ 19 := by
            have : ∀ i, i ∈ [11, 18, 23, 33, 58] → (i < 2 ∨ 9 < i) ∧ i ≠ 40 ∧ i ≠ 34 ∧ i ≠ 35 ∧ i ≠ 36 ∧ i ≠ 19 := by decide
            exact this i hi
          show w 74 i = _
          rw [hF 74 i (Or.inr (fun q hq => sp_74 hq h5.1)) (Or.inr h5.2.2.1) (Or.inr (Or.inl rfl)), cst_s h5.2.2.1 h5.2.2.2.1 h5.2.2.2.2.1, h1 74 (by decide), stm_s h5.2.1, thr_s h5.2.2.2.2.2, x74]
        · show w 74 40 = _
          rw [hF 74 40 (Or.inr (fun q hq => sp_74 hq (by omega))) (Or.inr (by decide)) (Or.inr (Or.inl rfl)), cst_s (by decide) (by decide) (by decide), h1 74 (by decide), stm_r]
    obtain ⟨⟨r', w⟩, em, hr', w1, w2, w3, w4, w5⟩ := hM
    change r' = _ at hr'
    change ∀ c, c ≠ 74 → c ≠ 77 → c ≠ 94 → w c = x c at w1
    change ∀ i, i ∈ _ → w 74 i = u 74 i at w2
    change w 74 40 = _ at w3
    change ∀ i, i < 8 → w 74 (i + 2) = _ at w4
    change ∀ j, j < 6 → w 77 j = _ at w5
    have err : r' = r := by
      rw [hr', hr]
      exact (k1 7 (by decide)).symm
    subst err
    let g : Nat → Int32 := fun i => if i < 9 then u (43 + lt) i else u 93 (14 * (len - 1) + (i - 1))
    have ew : ∀ c, c ≠ 14 → c ≠ 41 → c ≠ 74 → c ≠ 77 → c ≠ 94 → w c = u c := fun c a b d e f => (w1 c d e f).trans (x1 c a b)
    have gC : CF (w 14) g := by
      rw [w1 14 (by decide) (by decide) (by decide)]
      refine ⟨fun i hi => ?_, ?_⟩
      · show _ = if i < 9 then _ else _
        rw [if_pos hi]; exact x2 i (by omega)
      · rw [x2 9 (by decide), x2 6 (by decide)]
        refine UW_cg (fun j hj => ?_) k3
        show _ = if 9 + j < 9 then _ else _
        rw [if_neg (by omega), show 9 + j - 1 = 8 + j by omega]
    have gM : MF w g := by
      refine ⟨fun i hi => ?_, fun j hj => ?_⟩
      · show _ = if i < 9 then _ else _
        rw [if_pos (by omega), w4 i hi]; exact (k1 i hi).symm
      · show _ = if 9 + j < 9 then _ else _
        rw [if_neg (by omega), w5 j hj, show 9 + j - 1 = 8 + j by omega]
    obtain ⟨r1, r2, r3, r4, r5, r6⟩ := hR
    refine ⟨_, x, w, ec, em, (WN_iff _).mpr (WC_go (g := g) hw gC gM k2 ⟨k5, k4⟩ (fun c hc => ?_) (w2 11 (by decide)) (w2 18 (by decide))), ?_, ⟨len - 1, (lt + 7) % 8, by omega, Nat.mod_lt _ (by decide), ?_, w3, ?_, fun j hj => ?_⟩, ?_, ?_, ?_⟩
    · have : ∀ c, c ∈ [4, 5, 6, 7, 8, 9, 10, 11, 12, 13, 75, 76, 78, 79, 80, 81, 82, 83] → c ≠ 14 ∧ c ≠ 41 ∧ c ≠ 74 ∧ c ≠ 77 ∧ c ≠ 94 := by decide
      obtain ⟨a, b, d, e, f⟩ := this c hc
      exact ew c a b d e f
    · unfold IR at r2 ⊢
      rw [ew 1 (by decide) (by decide) (by decide) (by decide) (by decide), w2 33 (by decide), ew 30 (by decide) (by decide) (by decide) (by decide) (by decide), ew 31 (by decide) (by decide) (by decide) (by decide) (by decide), ew 32 (by decide) (by decide) (by decide) (by decide) (by decide), ew 33 (by decide) (by decide) (by decide) (by decide) (by decide), ew 34 (by decide) (by decide) (by decide) (by decide) (by decide), ew 35 (by decide) (by decide) (by decide) (by decide) (by decide), ew 36 (by decide) (by decide) (by decide) (by decide) (by decide), ew 37 (by decide) (by decide) (by decide) (by decide) (by decide), ew 38 (by decide) (by decide) (by decide) (by decide) (by decide), ew 39 (by decide) (by decide) (by decide) (by decide) (by decide), ew 40 (by decide) (by decide) (by decide) (by decide) (by decide), ew 91 (by decide) (by decide) (by decide) (by decide) (by decide)]
      exact r2
    · rw [w1 41 (by decide) (by decide) (by decide)]; exact x4
    · rw [w1 41 (by decide) (by decide) (by decide)]; exact x3
    · have e1 : ((lt + 7) % 8 + 9 + j - (len - 1)) % 8 = (lt + 9 + j - len) % 8 := by omega
      have hlt : (lt + 9 + j - len) % 8 < 8 := Nat.mod_lt _ (by decide)
      rw [e1, ew _ (by omega) (by omega) (by omega) (by omega) (by omega), ew 93 (by decide) (by decide) (by decide) (by decide) (by decide)]
      exact p6 j (by omega)
    · exact LR_keep r4 (ew 52 (by decide) (by decide) (by decide) (by decide) (by decide)) (ew 53 (by decide) (by decide) (by decide) (by decide) (by decide)) (ew 85 (by decide) (by decide) (by decide) (by decide) (by decide)) (w2 23 (by decide))
    · exact NR_keep r5 (ew 54 (by decide) (by decide) (by decide) (by decide) (by decide)) (ew 55 (by decide) (by decide) (by decide) (by decide) (by decide)) (ew 100 (by decide) (by decide) (by decide) (by decide) (by decide)) (w2 58 (by decide))
    · exact XR_keep r6 (ew 56 (by decide) (by decide) (by decide) (by decide) (by decide)) (ew 84 (by decide) (by decide) (by decide) (by decide) (by decide))
