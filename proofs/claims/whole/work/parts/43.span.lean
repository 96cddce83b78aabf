/-! Calls: span, windFor. -/
abbrev ldP (E : Mm) (fld : Int32) (f : Nat → Int32) (k p : Nat) : Prop := pl E k p f 0 = 0 ∧ fieldP E (pl E k p f) = fld
theorem cleads {E u : Mm} {f : Nat → Int32} {fld : Int32} {k p : Nat} (hM : MI E f u) (hV : VF f) (f8 : f 8 = 0) (hB : EB E) (hk : k ≤ 30) (hp : p ≤ 5) : Ok (gX3_leadsInto fld (nI k) (nI p) u) (fun q => q.1 = bz (ldP E fld f k p) ∧ Fk lF [4] u q.2 ∧ MIk E f k q.2) := by
  unfold gX3_leadsInto gX3_leadsInto_b ldP
  rw [ok_bI]
  refine (cfollow hM hV f8 hk hp).mono ?_
  rintro ⟨r, x⟩ ⟨hr, q1, q2, q3⟩
  change Fk lF [4] u x at q1
  change MIk E f k x at q2
  change CF (x 69) _ at q3
  have hr0 := bz_i hr
  generalize pl E k p f = G at hr0 q3
  refine ok_if (fun c => ?_) (fun c => ?_)
  · exact ok_some.mpr ⟨(bz_f (fun e => hr0.mp c e.1)).symm, q1, q2⟩
  · have c0 : G 0 = 0 := Decidable.not_not.mp (fun h => c (hr0.mpr h))
    show Ok ((gX3_fieldThere x).bind _) _
    rw [cfieldP q2.1 hB q3, Option.bind_some]
    refine ok_if (fun c2 => ?_) (fun c2 => ?_)
    · exact ok_some.mpr ⟨(bz_t ⟨c0, c2⟩).symm, q1, q2⟩
    · exact ok_some.mpr ⟨(bz_f (fun e => c2 e.2)).symm, q1, q2⟩
theorem mcomes {E u : Mm} {f : Nat → Int32} {fld : Int32} {k p : Nat} (hT : TH u f) (hE : EM E u) (hV : VF f) (f8 : f 8 = 0) (hB : EB E) (hk : k ≤ 30) (hp : p ≤ 5) : Ok (gX11_comesTo fld (nI k) (nI p) u) (fun q => q.1 = bz (ldP E fld f k p) ∧ Fm lP u q.2) := by
  unfold gX11_comesTo gX11_comesTo_b ldP
  rw [ok_bind]
  refine (mplan hT hV hE f8 hk hp).mono ?_
  rintro x ⟨q1, q2, q3, -, -⟩
  have hr0 := bz_i q3
  have hE' := hE.keep q1 (by decide)
  generalize pl E k p f = G at hr0 q2
  refine ok_if (fun c => ?_) (fun c => ?_)
  · exact ok_some.mpr ⟨(bz_f (fun e => hr0.mp c e.1)).symm, q1⟩
  · have c0 : G 0 = 0 := Decidable.not_not.mp (fun h => c (hr0.mpr h))
    rw [mfield hE' hB q2, Option.bind_some]
    refine ok_if (fun c2 => ?_) (fun c2 => ?_)
    · exact ok_some.mpr ⟨(bz_t ⟨c0, c2⟩).symm, q1⟩
    · exact ok_some.mpr ⟨(bz_f (fun e => c2 e.2)).symm, q1⟩
def spnS (b : Nat → Int32) : Nat → Int32 × Int32
  | 0 => (-9, -9)
  | n + 1 => if b n = 0 then spnS b n else ((if (spnS b n).1 = -9 then nI n else (spnS b n).1), nI n)
theorem spnS_i (b : Nat → Int32) : ∀ n, n < 2147483648 → (spnS b n).1 = -9 ∨ 0 ≤ (spnS b n).1.toInt := by
  intro n
  induction n with
  | zero => intro _; exact Or.inl rfl
  | succ n ih =>
    intro hn
    by_cases c : b n = 0
    · rw [show spnS b (n + 1) = spnS b n from if_pos c]
      exact ih (by omega)
    · rw [show spnS b (n + 1) = ((if (spnS b n).1 = -9 then nI n else (spnS b n).1), nI n) from if_neg c]
      show (if (spnS b n).1 = -9 then nI n else (spnS b n).1) = -9 ∨ 0 ≤ (if (spnS b n).1 = -9 then nI n else (spnS b n).1).toInt
      by_cases c2 : (spnS b n).1 = -9
      · rw [if_pos c2, t_nI (by omega)]; exact Or.inr (by omega)
      · rw [if_neg c2]; exact ih (by omega)
theorem fld_hb {u : Mm} (hR : R u) : (0 ≤ (u 74 11).toInt ∧ (u 74 11).toInt ≤ 8) ∧ u 6 0 = u 74 11 := by
  obtain ⟨c1, c2, c3, c4, ⟨c5, b1, b2⟩, -⟩ := hR.wc
  exact ⟨by rw [← c5]; exact ⟨b1, b2⟩, c5⟩
theorem fldM_t {u : Mm} {a : Int32} (hR : R u) (ha : 0 ≤ a.toInt ∧ a.toInt < (u 6 0).toInt) {v : Mm} (hv : v 74 11 = u 74 11) : gX11_isField a v = some 1 := by
  obtain ⟨hb, c5⟩ := fld_hb hR
  exact isFieldM_t (by rw [hv]; exact hb) (by rw [hv, ← c5]; exact ha)
theorem fldM_f {u : Mm} {a : Int32} (hR : R u) (ha : ¬ (0 ≤ a.toInt ∧ a.toInt < (u 6 0).toInt)) {v : Mm} (hv : v 74 11 = u 74 11) : gX11_isField a v = some 0 := by
  obtain ⟨hb, c5⟩ := fld_hb hR
  exact isFieldM_f (by rw [hv]; exact hb) (by rw [hv, ← c5]; exact ha)
theorem c_span (a p w : Int32) (u : Mm) (hR : R u) : Both (gX10_span a p w u) (gX11_span a p w) := by
  by_cases ha : 0 ≤ a.toInt ∧ a.toInt < (u 6 0).toInt
  · have g1 := isFieldC_t ha
    have z0 : (0 : Int32).toInt = 0 := rfl
    by_cases h1 : p.toInt < 0
    · refine Both_ref (k := 4) (r := -4) hR ?_ ?_
      · simp only [gX10_span, gX10_span_b, g1, pr_4 (k := 0) (p := p) (w := w) (m := 1) (Or.inr h1), Option.bind_some, one0, eq_false (show ¬ (-4 : Int32) = 0 by decide), ↓reduceIte, rC4, bI_some]
      · simp only [gX11_span, gX11_span_b, gX11_span_23, letv_eq, fldM_t hR ha (v := thr (rfC u 4)) rfl, Option.bind_some, one0, ↓reduceIte, gX11_wrongNumber, gX11_wrongNumber_b, lt_t (a := p) (b := 0) h1, wb_n (w := -4) (v := w) (m := 1) (by decide), m4lt, rM4, bI_some]
    have p0 := lt_f (a := p) (b := 0) h1
    by_cases h2 : 5 < p.toInt
    · refine Both_ref (k := 6) (r := -6) hR ?_ ?_
      · simp only [gX10_span, gX10_span_b, g1, pr_6 (k := 0) (p := p) (w := w) (m := 1) (by rw [z0]; omega) (Or.inr h2), Option.bind_some, one0, eq_false (show ¬ (-6 : Int32) = 0 by decide), ↓reduceIte, rC6, bI_some]
      · simp only [gX11_span, gX11_span_b, gX11_span_23, letv_eq, fldM_t hR ha (v := thr (rfC u 6)) rfl, Option.bind_some, one0, ↓reduceIte, gX11_wrongNumber, gX11_wrongNumber_b, p0, lt_t (a := 5) (b := p) h2, wb_n (w := -6) (v := w) (m := 1) (by decide), m6lt, rM6, bI_some]
    have p5 := lt_f (a := 5) (b := p) h2
    by_cases h3 : 0 ≤ w.toInt ∧ w.toInt ≤ (1 : Int32).toInt
    · obtain ⟨pp, rfl, hpp⟩ := kp_ex (k := p) (N := 5) (by omega) (by omega)
      obtain ⟨B, hBd⟩ : ∃ B : Nat → Int32, ∀ k, B k = bz (ldP (env u) a (flt u) k pp) := ⟨_, fun _ => rfl⟩
      refine Both_of (r := if w = 0 then (spnS B 31).1 else (spnS B 31).2) hR ?_ (fun u1 hR1 e1 e2 _ h74 => ?_)
      · unfold gX10_span gX10_span_b
        rw [g1, Option.bind_some, if_neg (by decide), pr_0 (k := 0) (p := nI pp) (w := w) (m := 1) (by rw [z0]; omega) (by rw [z0]; omega) h3, Option.bind_some, if_pos rfl, ok_bind]
        refine (cbegin hR).mono ?_
        rintro v1 ⟨f1, m1⟩
        refine loopS (fun n (s : Int32 × Int32 × Int32 × Mm) => gX10_span_57_L a (nI pp) w n s.1 s.2.1 s.2.2.1 s.2.2.2) (fun g s => gX10_span_57_Ls a (nI pp) w (fun x y z t => g (x, y, z, t)) s.1 s.2.1 s.2.2.1 s.2.2.2) (fun _ _ => rfl) _
          (fun n s => s.2.2.1 = nI n ∧ s.1 = (spnS B n).1 ∧ s.2.1 = (spnS B n).2 ∧ Fk lM [4] u s.2.2.2 ∧ MI (env u) (flt u) s.2.2.2) 31 ?_ ?_ 31 0 FU (-9, -9, 0, v1) rfl (by decide) ⟨rfl, rfl, rfl, f1, 0, by decide, m1⟩
        · rintro j ⟨x1, x2, x3, x⟩ g hj ⟨h0, q1, q2, q3, q4⟩ hg
          change x3 = nI j at h0
          subst h0
          change x1 = _ at q1
          change x2 = _ at q2
          show Ok (gX10_span_57_Ls a (nI pp) w (fun x y z t => g (x, y, z, t)) x1 x2 (nI j) x) _
          unfold gX10_span_57_Ls
          rw [show (30 : Int32) = nI 30 from rfl, if_neg (by rw [lt_nn (by omega) (by omega)]; omega), ok_bI]
          refine (cleads (fld := a) q4 (flt_VF hR) (flt_8 u) (env_EB hR) (k := j) (by omega) hpp).mono ?_
          rintro ⟨r, y⟩ ⟨hr, t1, t2⟩
          change r = _ at hr
          rw [← hBd] at hr
          change Fk lF [4] x y at t1
          have t3 : Fk lM [4] u y := Fk.tr q3 (t1.mono (by decide) (fun _ h => h))
          have t4 : MI (env u) (flt u) y := ⟨j, by omega, t2⟩
          have hb := spnS_i B j (by omega)
          refine ok_if (fun c => ?_) (fun c => ?_)
          · have e : spnS B (j + 1) = spnS B j := if_pos (by rw [← hr]; exact c)
            rw [letv_eq, nI_s (by omega)]
            exact hg (x1, x2, nI (j + 1), y) ⟨rfl, by rw [e]; exact q1, by rw [e]; exact q2, t3, t4⟩
          · have e : spnS B (j + 1) = ((if (spnS B j).1 = -9 then nI j else (spnS B j).1), nI j) := if_neg (by rw [← hr]; exact c)
            unfold gX10_span_92
            refine ok_if (fun c2 => ?_) (fun c2 => ?_)
            · rw [letv_eq, nI_s (by omega)]
              exact hg (nI j, nI j, nI (j + 1), y) ⟨rfl, by rw [e]; exact (if_pos (by rw [← q1]; exact c2)).symm, by rw [e], t3, t4⟩
            · rw [letv_eq, nI_s (by omega)]
              exact hg (x1, nI j, nI (j + 1), y) ⟨rfl, by rw [e]; exact q1.trans (if_neg (by rw [← q1]; exact c2)).symm, by rw [e], t3, t4⟩
        · rintro ⟨x1, x2, x3, x⟩ g ⟨h0, q1, q2, q3, q4⟩
          change x3 = nI 31 at h0
          subst h0
          change x1 = _ at q1
          change x2 = _ at q2
          show Ok (gX10_span_57_Ls a (nI pp) w (fun x y z t => g (x, y, z, t)) x1 x2 (nI 31) x) _
          unfold gX10_span_57_Ls
          rw [if_pos (by decide), q1, q2]
          by_cases w0 : w = 0
          · rw [if_pos w0, if_pos w0]; exact ok_some.mpr ⟨rfl, Sm_K q3⟩
          rw [if_neg w0, if_neg w0]
          exact ok_some.mpr ⟨rfl, Sm_K q3⟩
      · rw [← e1, ← e2] at hBd
        have e11 : u1 74 11 = u 74 11 := h74 11 (by decide)
        unfold gX11_span gX11_span_b gX11_span_23 gX11_wrongNumber gX11_wrongNumber_b
        rw [letv_eq, fldM_t hR ha (v := thr u1) e11, Option.bind_some, if_neg (by decide)]
        simp only [p0, p5, ↓reduceIte, Option.bind_some, wb_t h3, z0lt]
        rw [ok_bind]
        refine (mopen u1).mono ?_
        rintro v1 ⟨o1, o2, o3, o4⟩
        refine loopS (fun n (s : Int32 × Int32 × Int32 × Mm) => gX11_span_57_L a (nI pp) w n s.1 s.2.1 s.2.2.1 s.2.2.2) (fun g s => gX11_span_57_Ls a (nI pp) w (fun x y z t => g (x, y, z, t)) s.1 s.2.1 s.2.2.1 s.2.2.2) (fun _ _ => rfl) _
          (fun n s => s.2.2.1 = nI n ∧ s.1 = (spnS B n).1 ∧ s.2.1 = (spnS B n).2 ∧ Fm lP v1 s.2.2.2) 31 ?_ ?_ 31 0 FU (-9, -9, 0, v1) rfl (by decide) ⟨rfl, rfl, rfl, Fm.rf _ _⟩
        · rintro j ⟨x1, x2, x3, x⟩ g hj ⟨h0, q1, q2, q3⟩ hg
          change x3 = nI j at h0
          subst h0
          change x1 = _ at q1
          change x2 = _ at q2
          change Fm lP v1 x at q3
          show Ok (gX11_span_57_Ls a (nI pp) w (fun x y z t => g (x, y, z, t)) x1 x2 (nI j) x) _
          unfold gX11_span_57_Ls
          rw [show (30 : Int32) = nI 30 from rfl, if_neg (by rw [lt_nn (by omega) (by omega)]; omega), ok_bI]
          refine (mcomes (fld := a) (o2.keep q3) (o4.keep q3 (by decide)) (flt_VF hR1) (flt_8 u1) (env_EB hR1) (k := j) (by omega) hpp).mono ?_
          rintro ⟨r, y⟩ ⟨hr, t1⟩
          change r = _ at hr
          rw [← hBd] at hr
          change Fm lP x y at t1
          have t3 : Fm lP v1 y := q3.tr t1
          have hb := spnS_i B j (by omega)
          refine ok_if (fun c => ?_) (fun c => ?_)
          · have e : spnS B (j + 1) = spnS B j := if_pos (by rw [← hr]; exact c)
            rw [letv_eq, nI_s (by omega)]
            exact hg (x1, x2, nI (j + 1), y) ⟨rfl, by rw [e]; exact q1, by rw [e]; exact q2, t3⟩
          · have e : spnS B (j + 1) = ((if (spnS B j).1 = -9 then nI j else (spnS B j).1), nI j) := if_neg (by rw [← hr]; exact c)
            unfold gX11_span_87
            refine ok_if (fun c2 => ?_) (fun c2 => ?_)
            · rw [letv_eq, nI_s (by omega)]
              exact hg (nI j, nI j, nI (j + 1), y) ⟨rfl, by rw [e]; exact (if_pos ((neg_9 hb).mp (by rw [← q1]; exact c2))).symm, by rw [e], t3⟩
            · rw [letv_eq, nI_s (by omega)]
              exact hg (x1, nI j, nI (j + 1), y) ⟨rfl, by rw [e]; exact q1.trans (if_neg (fun h => c2 (by rw [q1]; exact (neg_9 hb).mpr h))).symm, by rw [e], t3⟩
        · rintro ⟨x1, x2, x3, x⟩ g ⟨h0, q1, q2, q3⟩
          change x3 = nI 31 at h0
          subst h0
          change x1 = _ at q1
          change x2 = _ at q2
          change Fm lP v1 x at q3
          show Ok (gX11_span_57_Ls a (nI pp) w (fun x y z t => g (x, y, z, t)) x1 x2 (nI 31) x) _
          unfold gX11_span_57_Ls
          rw [if_pos (by decide), q1, q2, ok_bind]
          refine (again_ok (o2.keep q3)).mono ?_
          rintro y ⟨y1, y2⟩
          have sm : Sm u1 y := Sm_W (o1.tr ((q3.W (by decide)).tr (y1.W (by decide)))) y2
          by_cases w0 : w = 0
          · rw [if_pos w0, if_pos w0]; exact ok_some.mpr ⟨rfl, sm⟩
          rw [if_neg w0, if_neg w0]
          exact ok_some.mpr ⟨rfl, sm⟩
    · refine Both_ref (k := 2) (r := -2) hR ?_ ?_
      · simp only [gX10_span, gX10_span_b, g1, pr_2 (k := 0) (p := p) (w := w) (m := 1) (by rw [z0]; omega) (by rw [z0]; omega) h3, Option.bind_some, one0, eq_false (show ¬ (-2 : Int32) = 0 by decide), ↓reduceIte, rC2, bI_some]
      · simp only [gX11_span, gX11_span_b, gX11_span_23, letv_eq, fldM_t hR ha (v := thr (rfC u 2)) rfl, Option.bind_some, one0, ↓reduceIte, gX11_wrongNumber, gX11_wrongNumber_b, p0, p5, wb_f h3, m2lt, rM2, bI_some]
  · have g1 := isFieldC_f ha
    refine Both_ref (k := 1) (r := -1) hR ?_ ?_
    · simp only [gX10_span, gX10_span_b, g1, Option.bind_some, ↓reduceIte, rC1, bI_some]
    · simp only [gX11_span, gX11_span_b, gX11_span_23, letv_eq, fldM_f hR ha (v := thr (rfC u 1)) rfl, Option.bind_some, ↓reduceIte, wb_n (w := -1) (v := w) (m := 1) (by decide), m1lt, rM1, bI_some]
