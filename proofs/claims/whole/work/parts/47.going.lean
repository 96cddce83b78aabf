/-! PLAN (0, 5) always comes DOWN; call: goingOn. -/
theorem clampI_t {v m : Int32} (hm : 0 ≤ m.toInt) : (clampI v m).toInt = if v.toInt < 0 then 0 else if m.toInt < v.toInt then m.toInt else v.toInt := by
  unfold clampI
  by_cases h1 : v < 0
  · have h1' : v.toInt < 0 := by rw [t_lt, i0] at h1; exact h1
    rw [if_pos h1, if_pos h1']; rfl
  · have h1' : ¬ v.toInt < 0 := by rw [t_lt, i0] at h1; exact h1
    rw [if_neg h1, if_neg h1']
    by_cases h2 : m < v
    · have h2' : m.toInt < v.toInt := by rw [t_lt] at h2; exact h2
      rw [if_pos h2, if_pos h2']
    · have h2' : ¬ m.toInt < v.toInt := by rw [t_lt] at h2; exact h2
      rw [if_neg h2, if_neg h2']
theorem heat_t {h w : Int32} (hh : 0 ≤ h.toInt ∧ h.toInt ≤ 60) (hw : -5 ≤ w.toInt ∧ w.toInt ≤ 4) : (heatS h w).toInt = if h.toInt - 1 + w.toInt < 0 then 0 else if 60 < h.toInt - 1 + w.toInt then 60 else h.toInt - 1 + w.toInt := by
  unfold heatS
  have e1 : (h - 1).toInt = h.toInt - 1 := by rw [t_sub (by rw [i1]; omega) (by rw [i1]; omega), i1]
  have e2 : (h - 1 + w).toInt = h.toInt - 1 + w.toInt := by rw [t_add (by rw [e1]; omega) (by rw [e1]; omega), e1]
  rw [clampI_t (by decide), e2, i60]
theorem rise_7 : ∀ h : Nat, h < 7 → ∀ p : Nat, p < 7 → p = 0 ∨ ((riseS (nI h) (nI p)).toInt ≤ -2 ∧ -6 ≤ (riseS (nI h) (nI p)).toInt) := by decide +kernel
theorem wkN_b (d : Nat) : -5 ≤ (wkN d).toInt ∧ (wkN d).toInt ≤ 4 := by
  unfold wkN
  by_cases h1 : d = 1
  · rw [if_pos h1]; decide
  · rw [if_neg h1]
    by_cases h2 : d = 2
    · rw [if_pos h2]; decide
    · rw [if_neg h2]; decide
theorem VF_wk {f : Nat → Int32} (h : VF f) : ∀ j, j < 6 → -5 ≤ (f (9 + j)).toInt ∧ (f (9 + j)).toInt ≤ 4 := by
  obtain ⟨-, a, n, -, -, hd⟩ := h
  intro j hj
  have := (hd j hj).2
  rw [show f (9 + j) = wkN (n / 4 ^ j % 4) from this]
  exact wkN_b _
def a05 (n : Nat) : Nat := if n < 5 then 2 else 0
theorem pact_05 (n : Nat) (f : Nat → Int32) : pact 0 5 n f = a05 n := by
  unfold pact a05
  rw [if_neg (Nat.not_lt_zero _), Nat.zero_add]
/-- what is due at step n of the plan -/
def due5 (f : Nat → Int32) (L n : Nat) : Int32 := if n < L then f (9 + n) else wkN (a05 (n - L))
theorem run_w {E : Mm} {f : Nat → Int32} {L : Nat} (hL : f 6 = nI L) (h6 : L < 6) : ∀ n, (∀ m, m < n → 0 < prun E 0 5 m f 0) → prun E 0 5 n f 6 = nI L ∧ ∀ j, j < L → prun E 0 5 n f (9 + j) = due5 f L (n + j) := by
  intro n
  induction n with
  | zero =>
    intro _
    refine ⟨hL, fun j hj => ?_⟩
    unfold due5
    rw [Nat.zero_add, if_pos hj]
    rfl
  | succ n ih =>
    intro hp
    obtain ⟨e6, ew⟩ := ih (fun m hm => hp m (by omega))
    rw [prun_y (hp n (by omega)), pact_05]
    generalize prun E 0 5 n f = g at e6 ew
    refine ⟨e6, fun j hj => ?_⟩
    rw [stp_w, e6, ixn_nI (by omega)]
    unfold shW
    rw [if_pos hj]
    by_cases c : j + 1 = L
    · rw [if_pos c]
      unfold due5
      rw [if_neg (by omega), show n + 1 + j - L = n by omega]
    · rw [if_neg c]
      show g (9 + (j + 1)) = _
      rw [ew (j + 1) (by omega), show n + (j + 1) = n + 1 + j by omega]
theorem run_due {E : Mm} {f : Nat → Int32} {L n : Nat} (hL : f 6 = nI L) (h6 : L < 6) (hp : ∀ m, m < n → 0 < prun E 0 5 m f 0) : stW (prun E 0 5 n f) (a05 n) = due5 f L n := by
  obtain ⟨e6, ew⟩ := run_w (E := E) hL h6 n hp
  unfold stW wArr
  rw [e6, ixn_nI (by omega)]
  by_cases c : L = 0
  · rw [if_pos c]
    unfold due5
    rw [if_neg (by omega), show n - L = n by omega]
  · rw [if_neg c]
    exact ew 0 (by omega)
theorem run_heat {E : Mm} {f : Nat → Int32} {L : Nat} (hV : VF f) (hL : f 6 = nI L) (h6 : L < 6) : ∀ m, (∀ x, x < L + m → 0 < prun E 0 5 x f 0) → (prun E 0 5 (L + m) f 3).toInt ≤ (if m ≤ 5 then 60 - 6 * (m : Int) else if m ≤ 35 then 35 - (m : Int) else 0) := by
  intro m
  induction m with
  | zero =>
    intro _
    have := (VF_prun (E := E) (k := 0) (p := 5) hV L).1.2.2.2.1.2
    exact this
  | succ m ih =>
    intro hp
    have ih := ih (fun x hx => hp x (by omega))
    have hV2 := VF_prun (E := E) (k := 0) (p := 5) hV (L + m)
    have hdue := run_due (E := E) (n := L + m) hL h6 (fun x hx => hp x (by omega))
    rw [show L + (m + 1) = L + m + 1 by omega, prun_y (hp (L + m) (by omega)), pact_05]
    show (heatS (prun E 0 5 (L + m) f 3) (stW (prun E 0 5 (L + m) f) (a05 (L + m)))).toInt ≤ _
    rw [hdue]
    have hd : due5 f L (L + m) = wkN (a05 m) := by
      unfold due5
      rw [if_neg (by omega), Nat.add_sub_cancel_left]
    rw [hd, heat_t hV2.1.2.2.2.1 (wkN_b _)]
    have hh := hV2.1.2.2.2.1
    generalize (prun E 0 5 (L + m) f 3).toInt = x at ih hh
    unfold a05
    by_cases c : m < 5
    · rw [if_pos c, show (wkN 2).toInt = -5 from rfl]
      rw [if_pos (show m ≤ 5 by omega)] at ih
      (repeat' split) <;> omega
    · rw [if_neg c, show (wkN 0).toInt = 0 from rfl]
      by_cases c5 : m ≤ 5
      · rw [if_pos c5] at ih
        (repeat' split) <;> omega
      · rw [if_neg c5] at ih
        by_cases c35 : m ≤ 35
        · rw [if_pos c35] at ih
          (repeat' split) <;> omega
        · rw [if_neg c35] at ih
          (repeat' split) <;> omega
theorem down05 {E : Mm} {f : Nat → Int32} (hV : VF f) : pl E 0 5 f 0 = 0 := by
  obtain ⟨L, h6, hL, -⟩ := lag_ex hV.1
  have hz : ∀ n, n ≤ 60 → ¬ 0 < prun E 0 5 n f 0 → pl E 0 5 f 0 = 0 := by
    intro n hn h
    show prun E 0 5 60 f 0 = 0
    rw [prun_stop' h hn]
    have := (VF_prun (E := E) (k := 0) (p := 5) hV n).1.1.1
    rw [t_lt, i0] at h
    rw [t_eq, i0]
    omega
  by_cases hall : ∀ x, x < 60 → 0 < prun E 0 5 x f 0
  · exfalso
    have hh : ∀ m, m ≤ 20 → (prun E 0 5 (L + 29 + m) f 0).toInt ≤ (if m ≤ 19 then 39 - 2 * (m : Int) else 0) := by
      intro m
      induction m with
      | zero =>
        intro _
        have := (VF_prun (E := E) (k := 0) (p := 5) hV (L + 29 + 0)).1.1.2
        exact this
      | succ m ih =>
        intro hm
        have ih := ih (by omega)
        rw [if_pos (by omega)] at ih
        have hp := hall (L + 29 + m) (by omega)
        have hV2 := VF_prun (E := E) (k := 0) (p := 5) hV (L + 29 + m)
        have ht := run_heat (E := E) hV hL h6 (30 + m) (fun x hx => hall x (by omega))
        rw [if_neg (by omega)] at ht
        have ht6 : (prun E 0 5 (L + (30 + m)) f 3).toInt ≤ 6 := by
          split at ht <;> omega
        have hV3 := VF_prun (E := E) (k := 0) (p := 5) hV (L + (30 + m))
        have h3b := hV3.1.2.2.2.1.1
        have h5b := hV2.1.2.2.2.2.2.1
        rw [show L + (30 + m) = L + 29 + m + 1 by omega, prun_y hp, pact_05] at ht6 h3b
        rw [show L + 29 + (m + 1) = L + 29 + m + 1 by omega, prun_y hp, pact_05]
        rw [t_lt, i0] at hp
        generalize prun E 0 5 (L + 29 + m) f = g at ih hp ht6 h3b h5b
        change (heatS (g 3) (stW g (a05 (L + 29 + m)))).toInt ≤ 6 at ht6
        change 0 ≤ (heatS (g 3) (stW g (a05 (L + 29 + m)))).toInt at h3b
        show (hgtS (g 0) (riseS (heatS (g 3) (stW g (a05 (L + 29 + m)))) (g 5))).toInt ≤ _
        obtain ⟨q, eq, hq⟩ := nI_upto (N := 6) h3b ht6
        obtain ⟨p, ep, hp6⟩ := nI_upto (a := g 5) (N := 6) (by omega) h5b.2
        rw [eq, ep]
        have hp1 : p ≠ 0 := by
          intro e
          rw [ep, e] at h5b
          exact absurd h5b.1 (by decide)
        rcases rise_7 q (by omega) p (by omega) with e | ⟨r1, r2⟩
        · exact absurd e hp1
        · unfold hgtS
          have hb : (g 0).toInt ≤ 39 := by omega
          rw [clampI_t (by decide), t_add (by omega) (by omega), i39]
          generalize (riseS (nI q) (nI p)).toInt = r at r1 r2
          (repeat' split) <;> omega
    have h1 := hh 20 (Nat.le_refl _)
    rw [if_neg (by decide)] at h1
    have h2 := hall (L + 29 + 20) (by omega)
    rw [t_lt, i0] at h2
    omega
  · have : ∃ x, x < 60 ∧ ¬ 0 < prun E 0 5 x f 0 := by
      by_cases h : ∃ x, x < 60 ∧ ¬ 0 < prun E 0 5 x f 0
      · exact h
      · exact absurd (fun x hx => Decidable.not_not.mp (fun h2 => h ⟨x, hx, h2⟩)) hall
    obtain ⟨x, hx, h⟩ := this
    exact hz x (by omega) h
theorem BS.some {E : Mm} {f : Nat → Int32} {T : Nat → Int32 × Int32 × Int32} (h : BS E f T) (hB : EB E) (hV : VF f) (f8 : f 8 = 0) : 0 ≤ (T 186).2.1.toInt := by
  have up : ∀ d, d ≤ 180 → 0 ≤ (T (6 + d)).1.toInt := by
    intro d
    induction d with
    | zero =>
      intro _
      have e := h.six (k := 0) (p := 5) (by decide)
      rw [show 6 * 0 + 5 + 1 = 6 + 0 by omega, show 6 * 0 + 5 = 5 by omega] at e
      have hd := down05 (E := E) hV
      have hi := h.inv 5 (by decide)
      rw [e]
      generalize pl E 0 5 f = G at hd
      show 0 ≤ (if G 0 = 0 ∧ ((T 5).1 < 0 ∨ costP E G < (T 5).2.1) then nI (10 * 0 + 5) else (T 5).1).toInt
      split
      · decide
      · rename_i hn
        rcases hi with hi | hi
        · exact absurd ⟨hd, Or.inl (by rw [hi]; decide)⟩ hn
        · exact hi
    | succ d ih =>
      intro hd
      have ih := ih (by omega)
      have hc := cdN_0 (n := 6 + d) (by omega)
      rw [← Nat.add_assoc, h.2 (6 + d)]
      generalize pl E ((6 + d) / 6) ((6 + d) % 6) f = G
      show 0 ≤ (if G 0 = 0 ∧ ((T (6 + d)).1 < 0 ∨ costP E G < (T (6 + d)).2.1) then cdN (6 + d) else (T (6 + d)).1).toInt
      split
      · exact hc
      · exact ih
  have h1 := up 180 (Nat.le_refl _)
  rcases h.inv2 hB hV f8 186 (Nat.le_refl _) with ⟨a, -⟩ | ⟨-, b⟩
  · rw [show 6 + 180 = 186 from rfl, a] at h1
    exact absurd h1 (by decide)
  · exact b
/-- HOLD behind n STEPS, DOWN or not -/
def hld (E : Mm) : Nat → (Nat → Int32) → Nat → Int32
  | 0, f => f
  | n + 1, f => stp (E 0) (E 1) (hact (hld E n f)) (hld E n f)
theorem VF_hld {E : Mm} {f : Nat → Int32} (h : VF f) : ∀ n, VF (hld E n f) := by
  intro n
  induction n with
  | zero => exact h
  | succ n ih => exact VF_stp ih (hact_3 _) hact_g
theorem MF_z8 {u : Mm} {f : Nat → Int32} (h : MF u f) : MF u (z8 f) := ⟨fun i hi => (h.1 i hi).trans (z8_n (by omega)).symm, fun j hj => (h.2 j hj).trans (z8_n (by omega)).symm⟩
theorem holdFirst_ok {E u : Mm} {f : Nat → Int32} {n : Nat} (hE : EC E u) (hC : CF (u 67) f) (hV : VF f) (hn : n ≤ 20) : Ok (gX3_holdFirst (nI n) u) (fun u' => Fk lM [4] u u' ∧ MIk E (z8 (hld E n f)) 0 u') := by
  unfold gX3_holdFirst gX3_holdFirst_b
  refine loopS (fun m (s : Int32 × Mm) => gX3_holdFirst_2_L (nI n) m s.1 s.2) (fun g s => gX3_holdFirst_2_Ls (nI n) (fun a b => g (a, b)) s.1 s.2) (fun _ _ => rfl) _
    (fun m s => s.1 = nI m ∧ Fk lM [4] u s.2 ∧ EC E s.2 ∧ CF (s.2 67) (hld E m f)) n ?_ ?_ n 0 FU (0, u) (by omega) (by unfold FU; omega) ⟨rfl, Fk.rf _ _ _, hE, hC⟩
  · rintro j ⟨v1, v⟩ g hj ⟨h0, h1, h2, h3⟩ hg
    change v1 = nI j at h0
    subst h0
    change CF (v 67) _ at h3
    show Ok (gX3_holdFirst_2_Ls (nI n) (fun a b => g (a, b)) (nI j) v) _
    unfold gX3_holdFirst_2_Ls
    have hVj := VF_hld (E := E) hV j
    have h2' : EC E v := h2
    rw [if_pos (by rw [lt_nn (by omega) (by omega)]; exact hj), chold h3 hVj.1, Option.bind_some, ok_bind]
    refine (cfly (k0 := 67) (k2 := 58) (by decide) (by decide) (hact_3 _) h3 hVj.1 (fun i hi => (h2'.1 i hi).1) (fun i hi => (h2'.1 i hi).2.1)).mono ?_
    rintro w ⟨g1, g2⟩
    rw [letv_eq, nI_s (by omega)]
    have k1 : Fk [67] [] v w := Fk.one g1 (by decide) (by decide)
    exact hg (nI (j + 1), w) ⟨rfl, Fk.tr h1 (k1.mono (by decide) (fun _ h => by cases h)), EC.keep h2 k1 (fun c a b e => by simp only [List.mem_cons, List.not_mem_nil, or_false] at e; omega), g2⟩
  · rintro ⟨v1, v⟩ g ⟨h0, h1, h2, h3⟩
    change v1 = nI n at h0
    subst h0
    show Ok (gX3_holdFirst_2_Ls (nI n) (fun a b => g (a, b)) (nI n) v) _
    unfold gX3_holdFirst_2_Ls
    rw [if_neg (by rw [lt_nn (by omega) (by omega)]; omega), ok_bind]
    refine (rewind_MI h2 h3).mono ?_
    rintro w ⟨g1, g2⟩
    exact ok_some.mpr ⟨Fk.tr h1 (g1.mono (by decide) (by decide)), g2⟩
theorem Fr.cell {cs l : List Nat} {u : Mm} {c i : Nat} {v : Int32} (hc : c ∈ cs) (h : 74 ≠ c) : Fr cs l u (stm u c i v) := ⟨fun k _ b => stm_c (fun e => b (by rw [e]; exact hc)), fun j _ => by rw [stm_c h]⟩
theorem going_last {u1 v1 : Mm} {P Q : Int32} (o2 : TH v1 (flt u1)) (x : Mm) (hx : Fr cW lW u1 x) (h95 : ∀ i, i < 14 → x 95 i = v1 92 i) : Ok (gX11_goingOn_128_L P Q FU 0 x) (fun q => q.1 = Q - P ∧ Sm u1 q.2) := by
  refine loopS (fun n (s : Int32 × Mm) => gX11_goingOn_128_L P Q n s.1 s.2) (fun g s => gX11_goingOn_128_Ls P Q (fun a b => g (a, b)) s.1 s.2) (fun _ _ => rfl) _
    (fun n s => s.1 = nI n ∧ Fr cW lW u1 s.2 ∧ (∀ i, i < 14 → s.2 95 i = v1 92 i) ∧ ∀ i, i < n → s.2 92 i = v1 92 i) 14 ?_ ?_ 14 0 FU (0, x) rfl (by decide) ⟨rfl, hx, h95, fun i hi => absurd hi (Nat.not_lt_zero _)⟩
  · rintro j ⟨w1, w⟩ g hj ⟨h0, a1, a2, a3⟩ hg
    change w1 = nI j at h0
    subst h0
    change Fr cW lW u1 w at a1
    change ∀ i, i < 14 → w 95 i = v1 92 i at a2
    change ∀ i, i < j → w 92 i = v1 92 i at a3
    show Ok (gX11_goingOn_128_Ls P Q (fun a b => g (a, b)) (nI j) w) _
    unfold gX11_goingOn_128_Ls
    rw [show (14 : Int32) = nI 14 from rfl, if_pos (by rw [lt_nn (by omega) (by omega)]; exact hj), gd_t (ix_nI hj (by decide)), gd_t (ix_nI hj (by decide)), ixn_nI (by omega), letv_eq, letv_eq, nI_s (by omega)]
    refine hg (nI (j + 1), stm w 92 j (w 95 j)) ⟨rfl, a1.tr (Fr.cell (by decide) (by decide)), fun i hi => ?_, fun i hi => ?_⟩
    · show stm w 92 j (w 95 j) 95 i = _
      rw [stm_c (by decide)]; exact a2 i hi
    · show stm w 92 j (w 95 j) 92 i = _
      by_cases c : i = j
      · rw [c, stm_r]; exact a2 j hj
      · rw [stm_s c]; exact a3 i (by omega)
  · rintro ⟨w1, w⟩ g ⟨h0, a1, a2, a3⟩
    change w1 = nI 14 at h0
    subst h0
    change Fr cW lW u1 w at a1
    change ∀ i, i < 14 → w 92 i = v1 92 i at a3
    show Ok (gX11_goingOn_128_Ls P Q (fun a b => g (a, b)) (nI 14) w) _
    unfold gX11_goingOn_128_Ls
    rw [if_neg (by decide), ok_bind]
    refine (again_ok (f := flt u1) ⟨fun i hi => (a3 i (by omega)).trans (o2.1 i hi), fun j hj => (a3 (8 + j) (by omega)).trans (o2.2 j hj)⟩).mono ?_
    rintro y ⟨y1, y2⟩
    exact ok_some.mpr ⟨rfl, Sm_W (a1.tr (y1.W (by decide))) y2⟩
theorem going_mid {u1 v1 : Mm} {P : Int32} {m : Nat} {F : Nat → Int32} {T : Nat → Int32 × Int32 × Int32} (hR1 : R u1) (hm : m ≤ 20) (hF : z8 (hld (env u1) m (flt u1)) = F) (hVF : VF F) (hF8 : F 8 = 0) (hT : BS (env u1) F T) (ht0 : ¬ (T 186).2.1 < 0) (o2 : TH v1 (flt u1)) (x : Mm) (hx : Fr cW lW u1 x) (h95 : ∀ i, i < 14 → x 95 i = v1 92 i) (hMx : MF x (flt u1)) : Ok (gX11_goingOn_84_L (nI m) P FU 0 x) (fun q => q.1 = (T 186).2.1 - P ∧ Sm u1 q.2) := by
  refine loopS (fun n (s : Int32 × Mm) => gX11_goingOn_84_L (nI m) P n s.1 s.2) (fun g s => gX11_goingOn_84_Ls (nI m) P (fun a b => g (a, b)) s.1 s.2) (fun _ _ => rfl) _
    (fun n s => s.1 = nI n ∧ Fr cW lW u1 s.2 ∧ (∀ i, i < 14 → s.2 95 i = v1 92 i) ∧ MF s.2 (hld (env u1) n (flt u1))) m ?_ ?_ m 0 FU (0, x) (by omega) (by unfold FU; omega) ⟨rfl, hx, h95, hMx⟩
  · rintro j ⟨w1, w⟩ g hj ⟨h0, a1, a2, a3⟩ hg
    change w1 = nI j at h0
    subst h0
    change Fr cW lW u1 w at a1
    change ∀ i, i < 14 → w 95 i = v1 92 i at a2
    change MF w _ at a3
    show Ok (gX11_goingOn_84_Ls (nI m) P (fun a b => g (a, b)) (nI j) w) _
    unfold gX11_goingOn_84_Ls
    have hEw := (env_EM u1).fr a1 cW_e (by decide)
    rw [if_pos (by rw [lt_nn (by omega) (by omega)]; exact hj), ok_bind]
    refine (mhold a3 (VF_hld (E := env u1) (flt_VF hR1) j).1 (fun i hi => (hEw.1 i hi).1) (fun i hi => (hEw.1 i hi).2.1)).mono ?_
    rintro y ⟨y1, y2, -⟩
    rw [letv_eq, nI_s (by omega)]
    exact hg (nI (j + 1), y) ⟨rfl, a1.tr (y1.W (by decide)), fun i hi => by show y 95 i = _; rw [y1.1 95 (by decide) (by decide)]; exact a2 i hi, y2⟩
  · rintro ⟨w1, w⟩ g ⟨h0, a1, a2, a3⟩
    change w1 = nI m at h0
    subst h0
    change Fr cW lW u1 w at a1
    change ∀ i, i < 14 → w 95 i = v1 92 i at a2
    change MF w _ at a3
    show Ok (gX11_goingOn_84_Ls (nI m) P (fun a b => g (a, b)) (nI m) w) _
    unfold gX11_goingOn_84_Ls
    rw [if_neg (by rw [lt_nn (by omega) (by omega)]; omega), ok_bind]
    have a4 : MF w F := by rw [← hF]; exact MF_z8 a3
    refine (open_fr a4).mono ?_
    rintro y ⟨y1, y2, y3⟩
    have hy : Fr cW lW u1 y := a1.tr (y1.mono (by decide) (by decide))
    rw [ok_bind]
    refine (mseekB hT y2 ((env_EM u1).fr hy cW_e (by decide)) hVF hF8 (env_EB hR1)).mono ?_
    rintro z ⟨⟨z1, -, z4, -⟩, z2⟩
    rw [z4, if_neg ht0]
    unfold gX11_goingOn_124
    refine going_last o2 z (hy.tr (z1.W (by decide))) (fun i hi => ?_)
    rw [z1.1 95 (by decide) (by decide), y1.1 95 (by decide) (by decide)]
    exact a2 i hi
theorem going_M {u1 : Mm} {m : Nat} {F : Nat → Int32} {S T : Nat → Int32 × Int32 × Int32} (hR1 : R u1) (hm : m ≤ 20) (n0 : (nI m < 0) = False) (n20 : (20 < nI m) = False) (hF : z8 (hld (env u1) m (flt u1)) = F) (hS : BS (env u1) (flt u1) S) (hT : BS (env u1) F T) : Ok (gX11_goingOn (nI m) u1) (fun q => q.1 = (T 186).2.1 - (S 186).2.1 ∧ Sm u1 q.2) := by
  have hVF : VF F := by rw [← hF]; exact VF_z8 (VF_hld (flt_VF hR1) m)
  have hF8 : F 8 = 0 := by rw [← hF]; rfl
  have s0 := hS.some (env_EB hR1) (flt_VF hR1) (flt_8 u1)
  have t0 := hT.some (env_EB hR1) hVF hF8
  unfold gX11_goingOn gX11_goingOn_b gX11_wrongNumber gX11_wrongNumber_b
  rw [letv_eq]
  simp only [n0, n20, ↓reduceIte]
  rw [Option.bind_some, if_neg (by decide), ok_bind]
  refine (mopen u1).mono ?_
  rintro v1 ⟨o1, o2, o3, o4⟩
  have hs0 : ¬ (S 186).2.1 < 0 := by rw [t_lt, i0]; omega
  have ht0 : ¬ (T 186).2.1 < 0 := by rw [t_lt, i0]; omega
  refine loopS (fun n (s : Int32 × Mm) => gX11_goingOn_36_L (nI m) n s.1 s.2) (fun g s => gX11_goingOn_36_Ls (nI m) (fun a b => g (a, b)) s.1 s.2) (fun _ _ => rfl) _
    (fun n s => s.1 = nI n ∧ Fr cW lW u1 s.2 ∧ TH s.2 (flt u1) ∧ (∀ i, s.2 92 i = v1 92 i) ∧ ∀ i, i < n → s.2 95 i = v1 92 i) 14 ?_ ?_ 14 0 FU (0, v1) rfl (by decide) ⟨rfl, o1, o2, fun _ => rfl, fun i hi => absurd hi (Nat.not_lt_zero _)⟩
  · rintro j ⟨w1, w⟩ g hj ⟨h0, a1, a2, a3, a4⟩ hg
    change w1 = nI j at h0
    subst h0
    change Fr cW lW u1 w at a1
    change TH w _ at a2
    change ∀ i, w 92 i = v1 92 i at a3
    change ∀ i, i < j → w 95 i = v1 92 i at a4
    show Ok (gX11_goingOn_36_Ls (nI m) (fun a b => g (a, b)) (nI j) w) _
    unfold gX11_goingOn_36_Ls
    rw [show (14 : Int32) = nI 14 from rfl, if_pos (by rw [lt_nn (by omega) (by omega)]; exact hj), gd_t (ix_nI hj (by decide)), gd_t (ix_nI hj (by decide)), ixn_nI (by omega), letv_eq, letv_eq, nI_s (by omega)]
    refine hg (nI (j + 1), stm w 95 j (w 92 j)) ⟨rfl, a1.tr (Fr.cell (by decide) (by decide)), ?_, fun i => ?_, fun i hi => ?_⟩
    · show TH (stm w 95 j (w 92 j)) _
      unfold TH
      rw [stm_c (by decide)]
      exact a2
    · show stm w 95 j (w 92 j) 92 i = _
      rw [stm_c (by decide)]; exact a3 i
    · show stm w 95 j (w 92 j) 95 i = _
      by_cases c : i = j
      · rw [c, stm_r]; exact a3 j
      · rw [stm_s c]; exact a4 i (by omega)
  · rintro ⟨w1, w⟩ g ⟨h0, a1, a2, a3, a4⟩
    change w1 = nI 14 at h0
    subst h0
    change Fr cW lW u1 w at a1
    change TH w _ at a2
    change ∀ i, i < 14 → w 95 i = v1 92 i at a4
    show Ok (gX11_goingOn_36_Ls (nI m) (fun a b => g (a, b)) (nI 14) w) _
    unfold gX11_goingOn_36_Ls
    rw [if_neg (by decide), ok_bind]
    refine (mseekB hS a2 ((env_EM u1).fr a1 cW_e (by decide)) (flt_VF hR1) (flt_8 u1) (env_EB hR1)).mono ?_
    rintro z ⟨⟨z1, -, z4, -⟩, z2⟩
    rw [z4, if_neg hs0]
    unfold gX11_goingOn_81
    refine going_mid hR1 hm hF hVF hF8 hT ht0 o2 z (a1.tr (z1.W (by decide))) (fun i hi => ?_) z2
    rw [z1.1 95 (by decide) (by decide)]
    exact a4 i hi
theorem going_C {u : Mm} {m : Nat} {F : Nat → Int32} {S T : Nat → Int32 × Int32 × Int32} (hR : R u) (hm : m ≤ 20) (n0 : (nI m < 0) = False) (n20 : (20 < nI m) = False) (hF : z8 (hld (env u) m (flt u)) = F) (hS : BS (env u) (flt u) S) (hT : BS (env u) F T) : Ok (gX10_goingOn (nI m) u) (fun q => q.1 = (T 186).2.1 - (S 186).2.1 ∧ Sm u q.2) := by
  have hVF : VF F := by rw [← hF]; exact VF_z8 (VF_hld (flt_VF hR) m)
  have hF8 : F 8 = 0 := by rw [← hF]; rfl
  have s0 := hS.some (env_EB hR) (flt_VF hR) (flt_8 u)
  have t0 := hT.some (env_EB hR) hVF hF8
  unfold gX10_goingOn gX10_goingOn_b
  simp only [n0, n20, ↓reduceIte]
  rw [ok_bind]
  refine (cbegin hR).mono ?_
  rintro v1 ⟨f1, m1⟩
  rw [ok_bind]
  refine (cseekB hS ⟨0, by decide, m1⟩ (flt_VF hR) (flt_8 u) (env_EB hR)).mono ?_
  rintro x ⟨q1, ⟨mx, -, q2⟩, q3, q4⟩
  rw [letv_eq, q4, ok_bind]
  refine (holdFirst_ok q2.1 q2.2.1 (flt_VF hR) hm).mono ?_
  rintro y ⟨y1, y2⟩
  rw [hF] at y2
  rw [ok_bind]
  refine (cseekB hT ⟨0, by decide, y2⟩ hVF hF8 (env_EB hR)).mono ?_
  rintro z ⟨z1, -, -, z4⟩
  have sm : Sm u z := Sm_K (l := lB) (((f1.mono (fun _ h => h) (by decide)).tr (q1.mono (by decide) (fun _ h => h))).tr ((y1.mono (fun _ h => h) (by decide)).tr (z1.mono (by decide) (fun _ h => h))))
  rw [letv_eq, z4, if_neg (fun e => by rw [e] at s0; exact absurd s0 (by decide)), if_neg (fun e => by rw [e] at t0; exact absurd t0 (by decide))]
  exact ok_some.mpr ⟨rfl, sm⟩
theorem c_goingOn (n : Int32) (u : Mm) (hR : R u) : Both (gX10_goingOn n u) (gX11_goingOn n) := by
  by_cases h1 : n.toInt < 0
  · refine Both_ref (k := 4) (r := 1000000000 - -4) hR ?_ ?_
    · simp only [gX10_goingOn, gX10_goingOn_b, lt_t (a := n) (b := 0) h1, ↓reduceIte, rC4, bI_some]
    · simp only [gX11_goingOn, gX11_goingOn_b, letv_eq, gX11_wrongNumber, gX11_wrongNumber_b, lt_t (a := n) (b := 0) h1, ↓reduceIte, Option.bind_some, m4lt, rM4, bI_some]
  have n0 := lt_f (a := n) (b := 0) h1
  by_cases h2 : 20 < n.toInt
  · refine Both_ref (k := 6) (r := 1000000000 - -6) hR ?_ ?_
    · simp only [gX10_goingOn, gX10_goingOn_b, n0, lt_t (a := 20) (b := n) h2, ↓reduceIte, rC6, bI_some]
    · simp only [gX11_goingOn, gX11_goingOn_b, letv_eq, gX11_wrongNumber, gX11_wrongNumber_b, n0, lt_t (a := 20) (b := n) h2, ↓reduceIte, Option.bind_some, m6lt, rM6, bI_some]
  have n20 := lt_f (a := 20) (b := n) h2
  obtain ⟨m, rfl, hm⟩ := kp_ex (k := n) (N := 20) (by omega) (by omega)
  obtain ⟨S, hS⟩ : ∃ S, BS (env u) (flt u) S := ⟨_, BS_ok _ _⟩
  obtain ⟨F, hF⟩ : ∃ F, z8 (hld (env u) m (flt u)) = F := ⟨_, rfl⟩
  obtain ⟨T, hT⟩ : ∃ T, BS (env u) F T := ⟨_, BS_ok _ _⟩
  refine Both_of (r := (T 186).2.1 - (S 186).2.1) hR ?_ (fun u1 hR1 e1 e2 _ h74 => ?_)
  · exact going_C hR hm n0 n20 hF hS hT
  · rw [← e1, ← e2] at hS hF
    rw [← e1] at hT
    exact going_M hR1 hm n0 n20 hF hS hT
