/-! Call: windFor. -/
def wndS (b : Nat → Int32) : Nat → Nat × Int32
  | 0 => (0, -9)
  | n + 1 => if b n = 0 then wndS b n else ((wndS b n).1 + 1, (if (wndS b n).1 = 0 then nI n else (wndS b n).2))
theorem wndS_i (b : Nat → Int32) : ∀ n, n < 2147483648 → (wndS b n).1 ≤ n ∧ (((wndS b n).1 = 0 ∧ (wndS b n).2 = -9) ∨ (0 < (wndS b n).1 ∧ 0 ≤ (wndS b n).2.toInt)) := by
  intro n
  induction n with
  | zero => intro _; exact ⟨Nat.le_refl _, Or.inl ⟨rfl, rfl⟩⟩
  | succ n ih =>
    intro hn
    obtain ⟨h1, h2⟩ := ih (by omega)
    by_cases c : b n = 0
    · rw [show wndS b (n + 1) = wndS b n from if_pos c]
      exact ⟨by omega, h2⟩
    · rw [show wndS b (n + 1) = ((wndS b n).1 + 1, (if (wndS b n).1 = 0 then nI n else (wndS b n).2)) from if_neg c]
      refine ⟨by show (wndS b n).1 + 1 ≤ n + 1; omega, Or.inr ⟨Nat.succ_pos _, ?_⟩⟩
      show 0 ≤ (if (wndS b n).1 = 0 then nI n else (wndS b n).2).toInt
      rcases h2 with ⟨a, _⟩ | ⟨a, b⟩
      · rw [if_pos a, t_nI (by omega)]; omega
      · rw [if_neg (by omega)]; exact b
theorem s9_s : ∀ n : Nat, n < 19 → nI n - 9 + 1 = nI (n + 1) - 9 := by decide
theorem s9_9 : ∀ n : Nat, n < 19 → nI n - 9 + 9 = nI n := by decide
theorem s9_l : ∀ n : Nat, n < 19 → ¬ 9 < nI n - 9 := by decide
theorem takeSide_ok {E u : Mm} {f : Nat → Int32} {L : Nat} {s t : Int32} (hL : L < 8) (hE : EC (stm E 0 L s) u) (hC : CF (u 67) f) (f8 : f 8 = 0) (f0 : f 0 / 5 = nI L) : Ok (gX3_takeSide t u) (fun u' => Fk lM [4] u u' ∧ MIk (stm E 0 L t) f 0 u') := by
  unfold gX3_takeSide gX3_takeSide_b
  rw [hC.1 0 (by decide), f0, letv_eq, ahead_eq hL, Option.bind_some, blow_eq hL, Option.bind_some, ok_bind]
  have hE' : EC (stm E 0 L t) (stm (stm u (58 + 1) L t) (58 + 2) L (u (58 + 2) L)) := by
    obtain ⟨h1, h2⟩ := hE
    refine ⟨fun i hi => ?_, h2⟩
    obtain ⟨a, b, c⟩ := h1 i hi
    refine ⟨?_, ?_, c⟩
    · rw [stm_c (by decide), stm_v, stm_v]
      by_cases e : i = L
      · rw [if_pos ⟨rfl, e⟩, if_pos ⟨rfl, e⟩]
      · rw [if_neg (fun x => e x.2), if_neg (fun x => e x.2), a, stm_v, if_neg (fun x => e x.2)]
    · show stm (stm u 59 L t) 60 L (u 60 L) 60 i = _
      rw [stm_v, stm_c (by decide)]
      by_cases e : i = L
      · rw [if_pos ⟨rfl, e⟩, ← e]; exact b
      · rw [if_neg (fun x => e x.2)]; exact b
  refine (rewind_MI hE' hC).mono ?_
  rintro u' ⟨g1, g2⟩
  rw [z8_id f8] at g2
  have k1 : Fk lM [4] u (stm (stm u (58 + 1) L t) (58 + 2) L (u (58 + 2) L)) := (Fk.one (c := 59) (fun k hk => stm_c hk) (by decide) (by decide)).tr (Fk.one (c := 60) (fun k hk => stm_c hk) (by decide) (by decide))
  exact ok_some.mpr ⟨k1.tr (g1.mono (by decide) (by decide)), g2⟩
theorem EM_s {E u : Mm} {L : Nat} {s : Int32} (h : EM E u) : EM (stm E 0 L s) (stm u 75 L s) := by
  obtain ⟨h1, h2⟩ := h
  refine ⟨fun i hi => ?_, h2⟩
  obtain ⟨a, b⟩ := h1 i hi
  refine ⟨?_, b⟩
  rw [stm_v, stm_v]
  by_cases e : i = L
  · rw [if_pos ⟨rfl, e⟩, if_pos ⟨rfl, e⟩]
  · rw [if_neg (fun x => e x.2), if_neg (fun x => e x.2)]; exact a
theorem stm_self {u : Mm} {k i : Nat} : stm u k i (u k i) = u := by
  funext c j
  rw [stm_v]
  by_cases e : c = k ∧ j = i
  · rw [if_pos e, e.1, e.2]
  · rw [if_neg e]
theorem EC_w {E u : Mm} {L : Nat} (h : EC E u) : EC (stm E 0 L (E 0 L)) u := by rw [stm_self]; exact h
theorem cw75 : ∀ c, 75 ≤ c → c ≤ 82 → c ≠ 77 → c ≠ 75 → c ∉ 75 :: cW := by
  intro c h1 h2 h3 h4 e
  simp only [cW, List.mem_cons, List.not_mem_nil, or_false] at e
  omega
theorem c_windFor (a k p w : Int32) (u : Mm) (hR : R u) : Both (gX10_windFor a k p w u) (gX11_windFor a k p w) := by
  by_cases ha : 0 ≤ a.toInt ∧ a.toInt < (u 6 0).toInt
  · have g1 := isFieldC_t ha
    by_cases h1 : k.toInt < 0 ∨ p.toInt < 0
    · refine Both_ref (k := 4) (r := -4) hR ?_ ?_
      · simp only [gX10_windFor, gX10_windFor_b, g1, pr_4 h1, Option.bind_some, one0, eq_false (show ¬ (-4 : Int32) = 0 by decide), ↓reduceIte, rC4, bI_some]
      · by_cases h2 : k.toInt < 0
        · simp only [gX11_windFor, gX11_windFor_b, letv_eq, fldM_t hR ha (v := thr (rfC u 4)) rfl, Option.bind_some, one0, lt_t (a := k) (b := 0) h2, ↓reduceIte, gX11_windFor_30, gX11_windFor_52, wb_n (w := -4) (v := w) (m := 1) (by decide), m4lt, rM4, bI_some]
        · simp only [gX11_windFor, gX11_windFor_b, letv_eq, fldM_t hR ha (v := thr (rfC u 4)) rfl, Option.bind_some, one0, lt_f (a := k) (b := 0) h2, lt_t (a := p) (b := 0) (by rw [i0]; omega), ↓reduceIte, gX11_windFor_30, gX11_windFor_52, wb_n (w := -4) (v := w) (m := 1) (by decide), m4lt, rM4, bI_some]
    have k0 := lt_f (a := k) (b := 0) (by rw [i0]; omega)
    have p0 := lt_f (a := p) (b := 0) (by rw [i0]; omega)
    by_cases h2 : 30 < k.toInt ∨ 5 < p.toInt
    · refine Both_ref (k := 6) (r := -6) hR ?_ ?_
      · simp only [gX10_windFor, gX10_windFor_b, g1, pr_6 h1 h2, Option.bind_some, one0, eq_false (show ¬ (-6 : Int32) = 0 by decide), ↓reduceIte, rC6, bI_some]
      · by_cases h3 : 30 < k.toInt
        · simp only [gX11_windFor, gX11_windFor_b, letv_eq, fldM_t hR ha (v := thr (rfC u 6)) rfl, Option.bind_some, one0, k0, p0, lt_t (a := 30) (b := k) h3, ↓reduceIte, gX11_windFor_48, gX11_windFor_52, wb_n (w := -6) (v := w) (m := 1) (by decide), m6lt, rM6, bI_some]
        · simp only [gX11_windFor, gX11_windFor_b, letv_eq, fldM_t hR ha (v := thr (rfC u 6)) rfl, Option.bind_some, one0, k0, p0, lt_f (a := 30) (b := k) h3, lt_t (a := 5) (b := p) (by rw [i5]; omega), ↓reduceIte, gX11_windFor_48, gX11_windFor_52, wb_n (w := -6) (v := w) (m := 1) (by decide), m6lt, rM6, bI_some]
    have k3 := lt_f (a := 30) (b := k) (by rw [i30]; omega)
    have p5 := lt_f (a := 5) (b := p) (by rw [i5]; omega)
    by_cases h3 : 0 ≤ w.toInt ∧ w.toInt ≤ (1 : Int32).toInt
    · obtain ⟨kk, rfl, hkk⟩ := kp_ex (k := k) (N := 30) (by omega) (by omega)
      obtain ⟨pp, rfl, hpp⟩ := kp_ex (k := p) (N := 5) (by omega) (by omega)
      obtain ⟨L, hL, eL⟩ := lay_ex (h := flt u 0) (flt_VF hR).1.1
      obtain ⟨B, hBd⟩ : ∃ B : Nat → Int32, ∀ n, B n = bz (ldP (stm (env u) 0 L (nI n - 9)) a (flt u) kk pp) := ⟨_, fun _ => rfl⟩
      refine Both_of (r := if w = 0 then nI (wndS B 19).1 else (wndS B 19).2) hR ?_ (fun u1 hR1 e1 e2 _ h74 => ?_)
      · unfold gX10_windFor gX10_windFor_b
        rw [g1, Option.bind_some, if_neg (by decide), pr_0 h1 h2 h3, Option.bind_some, if_pos rfl, ok_bind]
        refine (cbegin hR).mono ?_
        rintro v1 ⟨f1, m1⟩
        refine loopS (fun n (s : Int32 × Int32 × Int32 × Mm) => gX10_windFor_58_L a (nI kk) (nI pp) w n s.1 s.2.1 s.2.2.1 s.2.2.2) (fun g s => gX10_windFor_58_Ls a (nI kk) (nI pp) w (fun x y z t => g (x, y, z, t)) s.1 s.2.1 s.2.2.1 s.2.2.2) (fun _ _ => rfl) _
          (fun n s => s.2.2.1 = nI n - 9 ∧ s.1 = nI (wndS B n).1 ∧ s.2.1 = (wndS B n).2 ∧ Fk lM [4] u s.2.2.2 ∧ ∃ t, EC (stm (env u) 0 L t) s.2.2.2 ∧ CF (s.2.2.2 67) (flt u)) 19 ?_ ?_ 19 0 FU (0, -9, -9, v1) rfl (by decide) ⟨rfl, rfl, rfl, f1, _, EC_w (L := L) m1.1, m1.2.1⟩
        · rintro j ⟨x1, x2, x3, x⟩ g hj ⟨h0, q1, q2, q3, t, q4, q5⟩ hg
          change x3 = nI j - 9 at h0
          subst h0
          change x1 = _ at q1
          change x2 = _ at q2
          show Ok (gX10_windFor_58_Ls a (nI kk) (nI pp) w (fun x y z t => g (x, y, z, t)) x1 x2 (nI j - 9) x) _
          unfold gX10_windFor_58_Ls
          rw [if_neg (s9_l j hj), ok_bind]
          refine (takeSide_ok hL q4 q5 (flt_8 u) eL).mono ?_
          rintro y ⟨y1, y2⟩
          rw [ok_bI]
          refine (cleads (fld := a) ⟨0, by decide, y2⟩ (flt_VF hR) (flt_8 u) (show EB (stm (env u) 0 L _) from env_EB hR) hkk hpp).mono ?_
          rintro ⟨r, z⟩ ⟨hr, t1, t2⟩
          change r = _ at hr
          rw [← hBd] at hr
          change Fk lF [4] y z at t1
          have t3 : Fk lM [4] u z := (Fk.tr q3 y1).tr (t1.mono (by decide) (fun _ h => h))
          obtain ⟨b1, b2⟩ := wndS_i B j (by omega)
          refine ok_if (fun c => ?_) (fun c => ?_)
          · have e : wndS B (j + 1) = wndS B j := if_pos (by rw [← hr]; exact c)
            rw [letv_eq, s9_s j hj]
            exact hg (x1, x2, nI (j + 1) - 9, z) ⟨rfl, by rw [e]; exact q1, by rw [e]; exact q2, t3, _, t2.1, t2.2.1⟩
          · have e : wndS B (j + 1) = ((wndS B j).1 + 1, (if (wndS B j).1 = 0 then nI j else (wndS B j).2)) := if_neg (by rw [← hr]; exact c)
            unfold gX10_windFor_102
            rw [s9_9 j hj, q1]
            refine ok_if (fun c2 => ?_) (fun c2 => ?_)
            · rw [letv_eq, letv_eq, s9_s j hj, nI_s (by omega)]
              exact hg (nI ((wndS B j).1 + 1), nI j, nI (j + 1) - 9, z) ⟨rfl, by rw [e], by rw [e]; exact (if_pos ((nI_z (by omega)).mp c2)).symm, t3, _, t2.1, t2.2.1⟩
            · rw [letv_eq, letv_eq, s9_s j hj, nI_s (by omega)]
              exact hg (nI ((wndS B j).1 + 1), x2, nI (j + 1) - 9, z) ⟨rfl, by rw [e], by rw [e]; exact q2.trans (if_neg (fun h => c2 ((nI_z (by omega)).mpr h))).symm, t3, _, t2.1, t2.2.1⟩
        · rintro ⟨x1, x2, x3, x⟩ g ⟨h0, q1, q2, q3, q4⟩
          change x3 = nI 19 - 9 at h0
          subst h0
          change x1 = _ at q1
          change x2 = _ at q2
          show Ok (gX10_windFor_58_Ls a (nI kk) (nI pp) w (fun x y z t => g (x, y, z, t)) x1 x2 (nI 19 - 9) x) _
          unfold gX10_windFor_58_Ls
          rw [if_pos (by decide), q1, q2]
          by_cases w0 : w = 0
          · rw [if_pos w0, if_pos w0]; exact ok_some.mpr ⟨rfl, Sm_K q3⟩
          rw [if_neg w0, if_neg w0]
          exact ok_some.mpr ⟨rfl, Sm_K q3⟩
      · rw [← e1, ← e2] at hBd
        rw [← e2] at eL
        have e11 : u1 74 11 = u 74 11 := h74 11 (by decide)
        have e20 : thr u1 74 2 / 5 = nI L := eL
        unfold gX11_windFor gX11_windFor_b gX11_windFor_52
        rw [letv_eq, fldM_t hR ha (v := thr u1) e11, Option.bind_some, if_neg (by decide)]
        simp only [k0, p0, k3, p5, ↓reduceIte, wb_t h3, Option.bind_some, z0lt, e20, letv_eq, gd_t (ix_nI hL (show 8 < 2147483648 by decide)), ixn_nI (show L < 2147483648 by omega)]
        rw [ok_bind]
        refine (mopen u1).mono ?_
        rintro v1 ⟨o1, o2, o3, o4⟩
        have o75 : ∀ w' : Mm, Fr (75 :: cW) lW u1 w' → (∀ i, i ≠ L → w' 75 i = u1 75 i) → ∀ s, EM (stm (env u1) 0 L s) (stm w' 75 L s) := by
          intro w' hw h75 s
          have h1 := env_EM u1
          refine ⟨fun i hi => ?_, ?_⟩
          · obtain ⟨a1, a2, a3, a4, a5, a6, a7⟩ := h1.1 i hi
            refine ⟨?_, ?_, ?_, ?_, ?_, ?_, ?_⟩
            · rw [stm_v, stm_v]
              by_cases e : i = L
              · rw [if_pos ⟨rfl, e⟩, if_pos ⟨rfl, e⟩]
              · rw [if_neg (fun x => e x.2), if_neg (fun x => e x.2), h75 i e]; exact a1
            all_goals (rw [stm_c (by decide), hw.1 _ (by decide) (cw75 _ (by decide) (by decide) (by decide) (by decide))]; assumption)
          · rw [stm_c (by decide), hw.2 11 (by decide)]; exact h1.2
        refine loopS (fun n (s : Int32 × Int32 × Int32 × Mm) => gX11_windFor_106_L a (nI kk) (nI pp) w (nI L) (u1 75 L) n s.1 s.2.1 s.2.2.1 s.2.2.2) (fun g s => gX11_windFor_106_Ls a (nI kk) (nI pp) w (nI L) (u1 75 L) (fun x y z t => g (x, y, z, t)) s.1 s.2.1 s.2.2.1 s.2.2.2) (fun _ _ => rfl) _
          (fun n s => s.2.2.1 = nI n - 9 ∧ s.1 = nI (wndS B n).1 ∧ s.2.1 = (wndS B n).2 ∧ Fr (75 :: cW) lW u1 s.2.2.2 ∧ (∀ i, i ≠ L → s.2.2.2 75 i = u1 75 i) ∧ TH s.2.2.2 (flt u1)) 19 ?_ ?_ 19 0 FU (0, -9, -9, v1) rfl (by decide) ⟨rfl, rfl, rfl, o1.mono (fun i hi => List.mem_cons_of_mem _ hi) (fun _ h => h), fun i _ => by show v1 75 i = _; rw [o1.1 75 (by decide) (by decide)], o2⟩
        · rintro j ⟨x1, x2, x3, x⟩ g hj ⟨h0, q1, q2, q3, q4, q5⟩ hg
          change x3 = nI j - 9 at h0
          subst h0
          change x1 = _ at q1
          change x2 = _ at q2
          change Fr (75 :: cW) lW u1 x at q3
          change ∀ i, i ≠ L → x 75 i = u1 75 i at q4
          change TH x _ at q5
          show Ok (gX11_windFor_106_Ls a (nI kk) (nI pp) w (nI L) (u1 75 L) (fun x y z t => g (x, y, z, t)) x1 x2 (nI j - 9) x) _
          unfold gX11_windFor_106_Ls
          rw [if_neg (s9_l j hj), gd_t (ix_nI hL (by decide)), ixn_nI (by omega), letv_eq, ok_bI]
          have k1 : Fr (75 :: cW) lW u1 (stm x 75 L (nI j - 9)) := q3.tr ⟨fun c _ b => stm_c (fun e => b (by rw [e]; exact List.mem_cons_self)), fun i _ => by rw [stm_c (by decide)]⟩
          refine (mcomes (fld := a) (E := stm (env u1) 0 L (nI j - 9)) (u := stm x 75 L (nI j - 9)) (f := flt u1) (by unfold TH; rw [stm_c (by decide)]; exact q5) (o75 x q3 q4 _) (flt_VF hR1) (flt_8 u1) (show EB (stm (env u1) 0 L _) from env_EB hR1) hkk hpp).mono ?_
          rintro ⟨r, y⟩ ⟨hr, t1⟩
          change r = _ at hr
          rw [← hBd] at hr
          change Fm lP _ y at t1
          have t3 : Fr (75 :: cW) lW u1 y := k1.tr (t1.fr (by decide) (by decide))
          have t4 : ∀ i, i ≠ L → y 75 i = u1 75 i := fun i hi => by rw [t1.1 75 (by decide) (by decide), stm_s hi]; exact q4 i hi
          have t5 : TH y (flt u1) := by unfold TH; rw [t1.1 92 (by decide) (by decide), stm_c (by decide)]; exact q5
          obtain ⟨b1, b2⟩ := wndS_i B j (by omega)
          have n2 : x2 < 0 ↔ (wndS B j).1 = 0 := by
            rw [q2]
            rcases b2 with ⟨p1, p2⟩ | ⟨p1, p2⟩
            · rw [p2]; exact ⟨fun _ => p1, fun _ => by decide⟩
            · exact ⟨fun h => by rw [t_lt, i0] at h; omega, fun h => by omega⟩
          refine ok_if (fun c => ?_) (fun c => ?_)
          · have e : wndS B (j + 1) = wndS B j := if_pos (by rw [← hr]; exact c)
            rw [letv_eq, s9_s j hj]
            exact hg (x1, x2, nI (j + 1) - 9, y) ⟨rfl, by rw [e]; exact q1, by rw [e]; exact q2, t3, t4, t5⟩
          · have e : wndS B (j + 1) = ((wndS B j).1 + 1, (if (wndS B j).1 = 0 then nI j else (wndS B j).2)) := if_neg (by rw [← hr]; exact c)
            unfold gX11_windFor_150
            rw [s9_9 j hj, q1, letv_eq, nI_s (by omega)]
            refine ok_if (fun c2 => ?_) (fun c2 => ?_)
            · rw [letv_eq, s9_s j hj]
              exact hg (nI ((wndS B j).1 + 1), nI j, nI (j + 1) - 9, y) ⟨rfl, by rw [e], by rw [e]; exact (if_pos (n2.mp c2)).symm, t3, t4, t5⟩
            · rw [letv_eq, s9_s j hj]
              exact hg (nI ((wndS B j).1 + 1), x2, nI (j + 1) - 9, y) ⟨rfl, by rw [e], by rw [e]; exact q2.trans (if_neg (fun h => c2 (n2.mpr h))).symm, t3, t4, t5⟩
        · rintro ⟨x1, x2, x3, x⟩ g ⟨h0, q1, q2, q3, q4, q5⟩
          change x3 = nI 19 - 9 at h0
          subst h0
          change x1 = _ at q1
          change x2 = _ at q2
          change Fr (75 :: cW) lW u1 x at q3
          change ∀ i, i ≠ L → x 75 i = u1 75 i at q4
          change TH x _ at q5
          show Ok (gX11_windFor_106_Ls a (nI kk) (nI pp) w (nI L) (u1 75 L) (fun x y z t => g (x, y, z, t)) x1 x2 (nI 19 - 9) x) _
          unfold gX11_windFor_106_Ls
          rw [if_pos (by decide), gd_t (ix_nI hL (by decide)), ixn_nI (by omega), letv_eq, q1, q2, ok_bind]
          have h75 : stm x 75 L (u1 75 L) 75 = u1 75 := by
            funext i
            rw [stm_v]
            by_cases e : i = L
            · rw [if_pos ⟨rfl, e⟩, e]
            · rw [if_neg (fun x => e x.2)]; exact q4 i e
          have k2 : Fr cW lW u1 (stm x 75 L (u1 75 L)) := by
            refine ⟨fun c h1 h2 => ?_, fun i hi => ?_⟩
            · by_cases e : c = 75
              · rw [e]; exact h75
              · rw [stm_c e]
                exact q3.1 c h1 (fun h => by rcases List.mem_cons.mp h with h | h; exact e h; exact h2 h)
            · rw [stm_c (by decide)]; exact q3.2 i hi
          refine (again_ok (f := flt u1) (by unfold TH; rw [stm_c (by decide)]; exact q5)).mono ?_
          rintro y ⟨y1, y2⟩
          have sm : Sm u1 y := Sm_W (k2.tr (y1.W (by decide))) y2
          by_cases w0 : w = 0
          · rw [if_pos w0, if_pos w0]; exact ok_some.mpr ⟨rfl, sm⟩
          rw [if_neg w0, if_neg w0]
          exact ok_some.mpr ⟨rfl, sm⟩
    · refine Both_ref (k := 2) (r := -2) hR ?_ ?_
      · simp only [gX10_windFor, gX10_windFor_b, g1, pr_2 h1 h2 h3, Option.bind_some, one0, eq_false (show ¬ (-2 : Int32) = 0 by decide), ↓reduceIte, rC2, bI_some]
      · simp only [gX11_windFor, gX11_windFor_b, letv_eq, fldM_t hR ha (v := thr (rfC u 2)) rfl, Option.bind_some, one0, k0, p0, k3, p5, ↓reduceIte, gX11_windFor_52, wb_f h3, m2lt, rM2, bI_some]
  · have g1 := isFieldC_f ha
    refine Both_ref (k := 1) (r := -1) hR ?_ ?_
    · simp only [gX10_windFor, gX10_windFor_b, g1, Option.bind_some, ↓reduceIte, rC1, bI_some]
    · simp only [gX11_windFor, gX11_windFor_b, gX11_windFor_52, letv_eq, fldM_f hR ha (v := thr (rfC u 1)) rfl, Option.bind_some, ↓reduceIte, wb_n (w := -1) (v := w) (m := 1) (by decide), m1lt, rM1, bI_some]
