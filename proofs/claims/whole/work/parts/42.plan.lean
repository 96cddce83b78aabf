/-! Calls: plan, had, best, left. -/
def lW : List Nat := [2, 3, 4, 5, 6, 7, 8, 9, 19, 21, 34, 35, 36, 41, 42, 43, 44, 45, 46, 47, 48, 49, 50, 51, 52, 53, 54, 55, 56, 57]
def cW : List Nat := [77, 86, 87, 88, 89, 90, 92, 94, 95, 96, 97, 98, 99]
theorem cW_rel : ∀ c, c ∈ relC → c ∉ cW := by decide
theorem lW_rel : ∀ i, i ∈ [11, 18, 23, 33, 40, 58] → i ∉ lW := by decide
theorem lQW : ∀ i, i ∈ lQ → i ∈ lW := by decide
theorem EM.fr {E u u' : Mm} {cs l : List Nat} (h : EM E u) (hf : Fr cs l u u') (hc : ∀ c, 75 ≤ c → c ≤ 82 → c ≠ 77 → c ∉ cs) (hl : 11 ∉ l) : EM E u' := by
  obtain ⟨h1, h2⟩ := h
  obtain ⟨f1, f2⟩ := hf
  refine ⟨fun i hi => ?_, (f2 11 hl).trans h2⟩
  rw [f1 75 (by decide) (hc _ (by decide) (by decide) (by decide)), f1 76 (by decide) (hc _ (by decide) (by decide) (by decide)), f1 78 (by decide) (hc _ (by decide) (by decide) (by decide)), f1 79 (by decide) (hc _ (by decide) (by decide) (by decide)), f1 80 (by decide) (hc _ (by decide) (by decide) (by decide)), f1 81 (by decide) (hc _ (by decide) (by decide) (by decide)), f1 82 (by decide) (hc _ (by decide) (by decide) (by decide))]
  exact h1 i hi
theorem cW_e : ∀ c, 75 ≤ c → c ≤ 82 → c ≠ 77 → c ∉ cW := by
  intro c h1 h2 h3 e
  simp only [cW, List.mem_cons, List.not_mem_nil, or_false] at e
  omega
theorem open_fr {u : Mm} {f : Nat → Int32} (hM : MF u f) : Ok (gX11_open u) (fun u' => Fr [92] [34, 35, 36] u u' ∧ TH u' f ∧ MF u' f) := by
  refine (open_ok hM).mono ?_
  rintro u' ⟨h1, h2, h3, h4⟩
  exact ⟨⟨fun c a b => h1 c a (fun e => b (by rw [e]; decide)), fun i hi => h2 i (fun e => hi (by rw [e]; decide)) (fun e => hi (by rw [e]; decide)) (fun e => hi (by rw [e]; decide))⟩, h3, h4⟩
theorem mopen (u : Mm) : Ok (gX11_open (thr u)) (fun u' => Fr cW lW u u' ∧ TH u' (flt u) ∧ MF u' (flt u) ∧ EM (env u) u') := by
  refine (open_fr (u := thr u) ((flt_MF u).st (by decide))).mono ?_
  rintro u' ⟨h1, h2, h3⟩
  have h4 : Fr cW lW u u' := (Fr.st (by decide)).tr (h1.mono (by decide) (by decide))
  exact ⟨h4, h2, h3, (env_EM u).fr h4 cW_e (by decide)⟩
theorem Sm_W {u u' : Mm} (h : Fr cW lW u u') (hM' : MF u' (flt u)) : Sm u u' := Sm_M h cW_rel lW_rel (flt_MF u) hM'
theorem Fm.W {u v : Mm} {l : List Nat} (h : Fm l u v) (hl : ∀ i, i ∈ l → i ∈ lW) : Fr cW lW u v := h.fr (by decide) hl
theorem lM_C : ∀ c, c ∈ lM → 57 ≤ c ∧ c ≤ 73 := by decide
theorem Sm_K {l : List Nat} {u u' : Mm} (h : Fk lM l u u') : Sm u u' := Sm_C h lM_C
theorem pr_4 {k p w m : Int32} (h : k.toInt < 0 ∨ p.toInt < 0) : gX10_planRefusal k p w m = some (-4) := by
  unfold gX10_planRefusal gX10_planRefusal_b
  by_cases h1 : k.toInt < 0
  · simp only [lt_t (a := k) (b := 0) h1, ↓reduceIte]
  · simp only [lt_f (a := k) (b := 0) h1, lt_t (a := p) (b := 0) (by rw [i0]; omega), ↓reduceIte]
theorem pr_6 {k p w m : Int32} (h : ¬ (k.toInt < 0 ∨ p.toInt < 0)) (h2 : 30 < k.toInt ∨ 5 < p.toInt) : gX10_planRefusal k p w m = some (-6) := by
  unfold gX10_planRefusal gX10_planRefusal_b
  by_cases h1 : 30 < k.toInt
  · simp only [lt_f (a := k) (b := 0) (by rw [i0]; omega), lt_f (a := p) (b := 0) (by rw [i0]; omega), lt_t (a := 30) (b := k) h1, ↓reduceIte]
  · simp only [lt_f (a := k) (b := 0) (by rw [i0]; omega), lt_f (a := p) (b := 0) (by rw [i0]; omega), lt_f (a := 30) (b := k) h1, lt_t (a := 5) (b := p) (by rw [i5]; omega), ↓reduceIte]
theorem pr_2 {k p w m : Int32} (h : ¬ (k.toInt < 0 ∨ p.toInt < 0)) (h2 : ¬ (30 < k.toInt ∨ 5 < p.toInt)) (h3 : ¬ (0 ≤ w.toInt ∧ w.toInt ≤ m.toInt)) : gX10_planRefusal k p w m = some (-2) := by
  unfold gX10_planRefusal gX10_planRefusal_b
  by_cases h1 : w.toInt < 0
  · simp only [lt_f (a := k) (b := 0) (by rw [i0]; omega), lt_f (a := p) (b := 0) (by rw [i0]; omega), lt_f (a := 30) (b := k) (by rw [i30]; omega), lt_f (a := 5) (b := p) (by rw [i5]; omega), lt_t (a := w) (b := 0) h1, ↓reduceIte]
  · simp only [lt_f (a := k) (b := 0) (by rw [i0]; omega), lt_f (a := p) (b := 0) (by rw [i0]; omega), lt_f (a := 30) (b := k) (by rw [i30]; omega), lt_f (a := 5) (b := p) (by rw [i5]; omega), lt_f (a := w) (b := 0) h1, lt_t (a := m) (b := w) (by omega), ↓reduceIte]
theorem pr_0 {k p w m : Int32} (h : ¬ (k.toInt < 0 ∨ p.toInt < 0)) (h2 : ¬ (30 < k.toInt ∨ 5 < p.toInt)) (h3 : 0 ≤ w.toInt ∧ w.toInt ≤ m.toInt) : gX10_planRefusal k p w m = some 0 := by
  unfold gX10_planRefusal gX10_planRefusal_b
  simp only [lt_f (a := k) (b := 0) (by rw [i0]; omega), lt_f (a := p) (b := 0) (by rw [i0]; omega), lt_f (a := 30) (b := k) (by rw [i30]; omega), lt_f (a := 5) (b := p) (by rw [i5]; omega), lt_f (a := w) (b := 0) (by rw [i0]; omega), lt_f (a := m) (b := w) (by omega), ↓reduceIte]
theorem wb_t {v m : Int32} (h : 0 ≤ v.toInt ∧ v.toInt ≤ m.toInt) : gX11_wrongBit 0 v m = some 0 := by rw [wrongB, if_pos rfl, if_pos h]
theorem wb_f {v m : Int32} (h : ¬ (0 ≤ v.toInt ∧ v.toInt ≤ m.toInt)) : gX11_wrongBit 0 v m = some (-2) := by rw [wrongB, if_pos rfl, if_neg h]
theorem wb_n {w v m : Int32} (h : ¬ w = 0) : gX11_wrongBit w v m = some w := by rw [wrongB, if_neg h]
theorem kp_ex {k : Int32} {N : Nat} (h0 : ¬ k.toInt < 0) (h1 : ¬ (N : Int) < k.toInt) : ∃ a, k = nI a ∧ a ≤ N := by
  obtain ⟨a, e, h2, h3⟩ := nI_ex (a := k) (by omega)
  exact ⟨a, e, by omega⟩
def planS (E : Mm) (f g : Nat → Int32) (w : Int32) : Int32 := if g 0 = 0 then (if w = 0 then g 1 else if w = 1 then g 2 else if w = 2 then g 8 else if w = 3 then g 7 - f 7 else if w = 4 then fieldP E g else costP E g) else -9
theorem c_plan (k p w : Int32) (u : Mm) (hR : R u) : Both (gX10_plan k p w u) (gX11_plan k p w) := by
  by_cases h1 : k.toInt < 0 ∨ p.toInt < 0
  · refine Both_ref (k := 4) (r := -4) hR ?_ ?_
    · simp only [gX10_plan, gX10_plan_b, pr_4 h1, Option.bind_some, eq_false (show ¬ (-4 : Int32) = 0 by decide), ↓reduceIte, rC4, bI_some]
    · by_cases h2 : k.toInt < 0
      · simp only [gX11_plan, gX11_plan_b, letv_eq, lt_t (a := k) (b := 0) h2, ↓reduceIte, gX11_plan_13, gX11_plan_40, m4lt, rM4, bI_some]
      · simp only [gX11_plan, gX11_plan_b, letv_eq, lt_f (a := k) (b := 0) h2, lt_t (a := p) (b := 0) (by rw [i0]; omega), ↓reduceIte, gX11_plan_13, gX11_plan_40, m4lt, rM4, bI_some]
  have k0 := lt_f (a := k) (b := 0) (by rw [i0]; omega)
  have p0 := lt_f (a := p) (b := 0) (by rw [i0]; omega)
  by_cases h2 : 30 < k.toInt ∨ 5 < p.toInt
  · refine Both_ref (k := 6) (r := -6) hR ?_ ?_
    · simp only [gX10_plan, gX10_plan_b, pr_6 h1 h2, Option.bind_some, eq_false (show ¬ (-6 : Int32) = 0 by decide), ↓reduceIte, rC6, bI_some]
    · by_cases h3 : 30 < k.toInt
      · simp only [gX11_plan, gX11_plan_b, letv_eq, k0, p0, lt_t (a := 30) (b := k) h3, ↓reduceIte, gX11_plan_29, gX11_plan_40, m6lt, rM6, bI_some]
      · simp only [gX11_plan, gX11_plan_b, letv_eq, k0, p0, lt_f (a := 30) (b := k) h3, lt_t (a := 5) (b := p) (by rw [i5]; omega), ↓reduceIte, gX11_plan_29, gX11_plan_40, m6lt, rM6, bI_some]
  have k3 := lt_f (a := 30) (b := k) (by rw [i30]; omega)
  have p5 := lt_f (a := 5) (b := p) (by rw [i5]; omega)
  by_cases h3 : 0 ≤ w.toInt ∧ w.toInt ≤ (5 : Int32).toInt
  · have hp0 := pr_0 h1 h2 h3
    have hw0 := wb_t h3
    obtain ⟨kk, rfl, hkk⟩ := kp_ex (k := k) (N := 30) (by omega) (by omega)
    obtain ⟨pp, rfl, hpp⟩ := kp_ex (k := p) (N := 5) (by omega) (by omega)
    refine Both_of (r := planS (env u) (flt u) (pl (env u) kk pp (flt u)) w) hR ?_ (fun u1 hR1 e1 e2 _ _ => ?_)
    · unfold gX10_plan gX10_plan_b
      rw [hp0, Option.bind_some, if_pos rfl, ok_bind]
      refine (cbegin hR).mono ?_
      rintro v1 ⟨g1, g2⟩
      rw [ok_bI]
      refine (cfollow ⟨0, by decide, g2⟩ (flt_VF hR) (flt_8 u) hkk hpp).mono ?_
      rintro ⟨r, x⟩ ⟨hr, q1, q2, q3⟩
      change Fk lF [4] v1 x at q1
      change MIk (env u) _ _ x at q2
      change CF (x 69) _ at q3
      have sm : Sm u x := Sm_K (g1.tr (q1.mono (by decide) (fun _ h => h)))
      have hr0 := bz_i hr
      have hB := env_EB hR
      have e7 : x 67 7 = flt u 7 := q2.2.1.1 7 (by decide)
      generalize pl (env u) kk pp (flt u) = G at hr0 q3
      unfold planS
      refine ok_if (fun c => ?_) (fun c => ?_)
      · rw [if_neg (hr0.mp c)]
        exact ok_some.mpr ⟨rfl, sm⟩
      · have c0 : G 0 = 0 := Decidable.not_not.mp (fun h => c (hr0.mpr h))
        rw [if_pos c0]
        show Ok (if w = 0 then some (x 69 1, x) else if w = 1 then some (x 69 2, x) else if w = 2 then some (x 69 8, x) else if w = 3 then (gX3_stepsFlown x).bind (fun r11 => some (r11, x)) else if w = 4 then (gX3_fieldThere x).bind (fun r13 => some (r13, x)) else (gX3_costThere x).bind (fun r14 => some (r14, x))) _
        rw [cfieldP q2.1 hB q3, ccostP q2.1 hB q3, q3.1 1 (by decide), q3.1 2 (by decide), q3.1 8 (by decide), show gX3_stepsFlown x = some (G 7 - flt u 7) by (unfold gX3_stepsFlown gX3_stepsFlown_b; rw [q3.1 7 (by decide), e7])]
        by_cases w0 : w = 0
        · rw [if_pos w0, if_pos w0]; exact ok_some.mpr ⟨rfl, sm⟩
        rw [if_neg w0, if_neg w0]
        by_cases w1 : w = 1
        · rw [if_pos w1, if_pos w1]; exact ok_some.mpr ⟨rfl, sm⟩
        rw [if_neg w1, if_neg w1]
        by_cases w2 : w = 2
        · rw [if_pos w2, if_pos w2]; exact ok_some.mpr ⟨rfl, sm⟩
        rw [if_neg w2, if_neg w2]
        by_cases w3 : w = 3
        · rw [if_pos w3, if_pos w3]; exact ok_some.mpr ⟨rfl, sm⟩
        rw [if_neg w3, if_neg w3]
        by_cases w4 : w = 4
        · rw [if_pos w4, if_pos w4]; exact ok_some.mpr ⟨rfl, sm⟩
        rw [if_neg w4, if_neg w4]
        exact ok_some.mpr ⟨rfl, sm⟩
    · rw [← e1, ← e2]
      unfold gX11_plan gX11_plan_b gX11_plan_40
      simp only [letv_eq, k0, p0, k3, p5, ↓reduceIte, hw0, Option.bind_some, z0lt]
      rw [ok_bind]
      refine (mopen u1).mono ?_
      rintro v1 ⟨o1, o2, o3, o4⟩
      rw [ok_bind]
      refine (mplan o2 (flt_VF hR1) o4 (flt_8 u1) hkk hpp).mono ?_
      rintro x ⟨q1, q2, q3, q4, q5⟩
      have hr0 := bz_i q3
      have hB := env_EB hR1
      have hE := o4.keep q1 (by decide)
      generalize pl (env u1) kk pp (flt u1) = G at q2 hr0 q4 q5
      rw [ok_bind]
      have told : gX11_planTold w x = some (planS (env u1) (flt u1) G w) := by
        unfold gX11_planTold gX11_planTold_b planS
        by_cases c : x 74 41 = 0
        · rw [if_pos c, if_neg (hr0.mp c)]
        · have c0 : G 0 = 0 := Decidable.not_not.mp (fun h => c (hr0.mpr h))
          rw [if_neg c, if_pos c0, mfield hE hB q2, Option.bind_some, Option.bind_some, mcostP hE hB q2 q4, Option.bind_some, show x 74 3 = G 1 from q2.1 1 (by decide), show x 74 4 = G 2 from q2.1 2 (by decide), q4, q5]
          (repeat' split) <;> rfl
      rw [told, ok_some, ok_bind]
      refine (again_ok (o2.keep q1)).mono ?_
      rintro y ⟨y1, y2⟩
      exact ok_some.mpr ⟨rfl, Sm_W (o1.tr ((q1.W (by decide)).tr (y1.W (by decide)))) y2⟩
  · refine Both_ref (k := 2) (r := -2) hR ?_ ?_
    · simp only [gX10_plan, gX10_plan_b, pr_2 h1 h2 h3, Option.bind_some, eq_false (show ¬ (-2 : Int32) = 0 by decide), ↓reduceIte, rC2, bI_some]
    · simp only [gX11_plan, gX11_plan_b, gX11_plan_40, letv_eq, k0, p0, k3, p5, ↓reduceIte, wb_f h3, Option.bind_some, m2lt, rM2, bI_some]
theorem c_had (a b : Int32) (u : Mm) (hR : R u) : Both (gX10_had a b u) (gX11_had a b) := by
  obtain ⟨c1, c2, c3, c4, ⟨c5, b1, b2⟩, c6, c7, c8, c9⟩ := hR.wc
  have hb : 0 ≤ (u 74 11).toInt ∧ (u 74 11).toInt ≤ 8 := by rw [← c5]; exact ⟨b1, b2⟩
  by_cases ha : 0 ≤ a.toInt ∧ a.toInt < (u 6 0).toInt
  · have g1 := isFieldC_t ha
    by_cases h3 : 0 ≤ b.toInt ∧ b.toInt ≤ 2
    · obtain ⟨S, hS⟩ : ∃ S, HS (env u) a (flt u) S := ⟨_, HS_ok _ _ _⟩
      refine Both_of (r := if b = 0 then nI (S 186).1 else if b = 1 then (S 186).2.1 else (S 186).2.2.1) hR ?_ (fun u1 hR1 e1 e2 _ h74 => ?_)
      · unfold gX10_had gX10_had_b
        rw [g1, Option.bind_some, if_neg (by decide), if_neg (by rw [t_lt, i0]; omega), if_neg (by rw [t_lt, i2]; omega), ok_bind]
        refine (cbegin hR).mono ?_
        rintro v1 ⟨f1, m1⟩
        rw [ok_bind]
        refine (cseekP hS ⟨0, by decide, m1⟩ (flt_VF hR) (flt_8 u) (env_EB hR)).mono ?_
        rintro x ⟨q1, q2, q3, q4, q5⟩
        have sm : Sm u x := Sm_K ((f1.mono (l' := lB) (fun _ h => h) (by decide)).tr (q1.mono (by decide) (fun _ h => h)))
        rw [q3, q4, q5]
        by_cases w0 : b = 0
        · rw [if_pos w0, if_pos w0]; exact ok_some.mpr ⟨rfl, sm⟩
        rw [if_neg w0, if_neg w0]
        by_cases w1 : b = 1
        · rw [if_pos w1, if_pos w1]; exact ok_some.mpr ⟨rfl, sm⟩
        rw [if_neg w1, if_neg w1]
        exact ok_some.mpr ⟨rfl, sm⟩
      · have e11 : u1 74 11 = u 74 11 := h74 11 (by decide)
        have g2 := isFieldM_t (v := a) (u := thr u1) (by show 0 ≤ (u1 74 11).toInt ∧ (u1 74 11).toInt ≤ 8; rw [e11]; exact hb) (by show 0 ≤ _ ∧ _ < (u1 74 11).toInt; rw [e11, ← c5]; exact ha)
        have g3 := in_t (x := b) (a := 0) (b := 2) h3
        rw [← e1, ← e2] at hS
        unfold gX11_had gX11_had_b
        rw [letv_eq, g2, Option.bind_some, if_neg (by decide), g3, Option.bind_some, if_neg (by decide), ok_bind]
        refine (mopen u1).mono ?_
        rintro v1 ⟨o1, o2, o3, o4⟩
        rw [ok_bind]
        refine (mseekP hS o2 o4 (flt_VF hR1) (flt_8 u1) (env_EB hR1)).mono ?_
        rintro x ⟨⟨q1, q3, q4, q5⟩, q2⟩
        have sm : Sm u1 x := Sm_W (o1.tr (q1.W (by decide))) q2
        rw [q3, q4, q5]
        by_cases w0 : b = 0
        · rw [if_pos w0, if_pos w0]; exact ok_some.mpr ⟨rfl, sm⟩
        rw [if_neg w0, if_neg w0]
        by_cases w1 : b = 1
        · rw [if_pos w1, if_pos w1]; exact ok_some.mpr ⟨rfl, sm⟩
        rw [if_neg w1, if_neg w1]
        exact ok_some.mpr ⟨rfl, sm⟩
    · have g2 := isFieldM_t (v := a) (u := thr (rfC u 2)) hb (by show 0 ≤ _ ∧ _ < (u 74 11).toInt; rw [← c5]; exact ha)
      have g3 := in_f (x := b) (a := 0) (b := 2) h3
      refine Both_ref (k := 2) (r := -2) hR ?_ ?_
      · by_cases h0 : b.toInt < 0
        · simp only [gX10_had, gX10_had_b, gX10_had_23, g1, Option.bind_some, one0, lt_t (a := b) (b := 0) h0, rC2, bI_some, ↓reduceIte]
        · simp only [gX10_had, gX10_had_b, gX10_had_23, g1, Option.bind_some, one0, lt_f (a := b) (b := 0) h0, lt_t (a := 2) (b := b) (by rw [i2]; omega), rC2, bI_some, ↓reduceIte]
      · simp only [gX11_had, gX11_had_b, gX11_had_25, gX11_had_40, letv_eq, g2, g3, Option.bind_some, one0, ↓reduceIte, rM2, bI_some]
  · have g1 := isFieldC_f ha
    have g2 := isFieldM_f (v := a) (u := thr (rfC u 1)) hb (by show ¬ (0 ≤ _ ∧ _ < (u 74 11).toInt); rw [← c5]; exact ha)
    refine Both_ref (k := 1) (r := -1) hR ?_ ?_
    · simp only [gX10_had, gX10_had_b, g1, Option.bind_some, ↓reduceIte, rC1, bI_some]
    · simp only [gX11_had, gX11_had_b, gX11_had_25, gX11_had_40, letv_eq, g2, Option.bind_some, ↓reduceIte, rM1, bI_some]
theorem c_best (b : Int32) (u : Mm) (hR : R u) : Both (gX10_best b u) (gX11_best b) := by
  by_cases h3 : 0 ≤ b.toInt ∧ b.toInt ≤ 1
  · obtain ⟨S, hS⟩ : ∃ S, BS (env u) (flt u) S := ⟨_, BS_ok _ _⟩
    refine Both_of (r := if b = 0 then (S 186).1 else (S 186).2.1) hR ?_ (fun u1 hR1 e1 e2 _ h74 => ?_)
    · unfold gX10_best gX10_best_b
      rw [if_neg (by rw [t_lt, i0]; omega), if_neg (by rw [t_lt, i1]; omega), ok_bind]
      refine (cbegin hR).mono ?_
      rintro v1 ⟨f1, m1⟩
      rw [ok_bind]
      refine (cseekB hS ⟨0, by decide, m1⟩ (flt_VF hR) (flt_8 u) (env_EB hR)).mono ?_
      rintro x ⟨q1, q2, q3, q4⟩
      have sm : Sm u x := Sm_K ((f1.mono (l' := lB) (fun _ h => h) (by decide)).tr (q1.mono (by decide) (fun _ h => h)))
      rw [q3, q4]
      by_cases w0 : b = 0
      · rw [if_pos w0, if_pos w0]; exact ok_some.mpr ⟨rfl, sm⟩
      rw [if_neg w0, if_neg w0]
      exact ok_some.mpr ⟨rfl, sm⟩
    · have g3 := in_t (x := b) (a := 0) (b := 1) h3
      rw [← e1, ← e2] at hS
      unfold gX11_best gX11_best_b
      rw [letv_eq, g3, Option.bind_some, if_neg (by decide), ok_bind]
      refine (mopen u1).mono ?_
      rintro v1 ⟨o1, o2, o3, o4⟩
      rw [ok_bind]
      refine (mseekB hS o2 o4 (flt_VF hR1) (flt_8 u1) (env_EB hR1)).mono ?_
      rintro x ⟨⟨q1, q3, q4, q5⟩, q2⟩
      have sm : Sm u1 x := Sm_W (o1.tr (q1.W (by decide))) q2
      rw [q3, q4]
      by_cases w0 : b = 0
      · rw [if_pos w0, if_pos w0]; exact ok_some.mpr ⟨rfl, sm⟩
      rw [if_neg w0, if_neg w0]
      exact ok_some.mpr ⟨rfl, sm⟩
  · have g3 := in_f (x := b) (a := 0) (b := 1) h3
    refine Both_ref (k := 2) (r := -2) hR ?_ ?_
    · by_cases h0 : b.toInt < 0
      · simp only [gX10_best, gX10_best_b, gX10_best_9, lt_t (a := b) (b := 0) h0, rC2, bI_some, ↓reduceIte]
      · simp only [gX10_best, gX10_best_b, gX10_best_9, lt_f (a := b) (b := 0) h0, lt_t (a := 1) (b := b) (by rw [i1]; omega), rC2, bI_some, ↓reduceIte]
    · simp only [gX11_best, gX11_best_b, letv_eq, g3, Option.bind_some, ↓reduceIte, rM2, bI_some]
theorem c_left (u : Mm) (hR : R u) : Both (gX10_left u) gX11_left := by
  obtain ⟨S, hS⟩ : ∃ S, BS (env u) (flt u) S := ⟨_, BS_ok _ _⟩
  refine Both_of (r := (S 186).2.2) hR ?_ (fun u1 hR1 e1 e2 _ h74 => ?_)
  · unfold gX10_left gX10_left_b
    rw [ok_bind]
    refine (cbegin hR).mono ?_
    rintro v1 ⟨f1, m1⟩
    rw [ok_bI]
    refine (cwithin hS ⟨0, by decide, m1⟩ (flt_VF hR) (flt_8 u) (env_EB hR)).mono ?_
    rintro ⟨r, x⟩ ⟨q1, q2⟩
    exact ok_some.mpr ⟨q1, Sm_K (f1.tr (q2.mono (by decide) (fun _ h => h)))⟩
  · rw [← e1, ← e2] at hS
    unfold gX11_left gX11_left_b
    rw [letv_eq, ok_bind]
    refine (mopen u1).mono ?_
    rintro v1 ⟨o1, o2, o3, o4⟩
    rw [ok_bind]
    refine (mseekB hS o2 o4 (flt_VF hR1) (flt_8 u1) (env_EB hR1)).mono ?_
    rintro x ⟨⟨q1, q3, q4, q5⟩, q2⟩
    exact ok_some.mpr ⟨q5, Sm_W (o1.tr (q1.W (by decide))) q2⟩
