/-! Calls: judge, whichLag. -/
def fhF (G : Nat → Nat → Int32) (r : Nat → Int32) : Nat → Nat → Int32
  | 0, _ => -9
  | d + 1, i => if G (i + 1) 0 = r i then fhF G r d (i + 1) else nI i
theorem fhF_y {G : Nat → Nat → Int32} {r : Nat → Int32} {d i : Nat} (h : G (i + 1) 0 = r i) : fhF G r (d + 1) i = fhF G r d (i + 1) := if_pos h
theorem fhF_n {G : Nat → Nat → Int32} {r : Nat → Int32} {d i : Nat} (h : ¬ G (i + 1) 0 = r i) : fhF G r (d + 1) i = nI i := if_neg h
theorem cfh {E u : Mm} {f : Nat → Int32} {G : Nat → Nat → Int32} {r : Nat → Int32} {n : Nat} (hE : EC E u) (hC : CF (u 67) f) (hG : Run E (fun _ => hact) f G) (hV : VF f) (en : u 54 0 = nI n) (hn : n ≤ 12) (hr : ∀ i, i < n → u 55 i = r i) :
    Ok (gX3_firstHeightUnlike 54 u) (fun q => q.1 = fhF G r n 0 ∧ Fk [69] [] u q.2 ∧ EC E q.2) := by
  have hVG := hG.vf hV (fun _ g => hact_3 g) (fun _ g => hact_g)
  unfold gX3_firstHeightUnlike gX3_firstHeightUnlike_b
  rw [ok_bind]
  refine (ccopy69 hE hC).mono ?_
  rintro v2 ⟨f2, e2, c2, -⟩
  refine loopS (fun n (s : Int32 × Mm) => gX3_firstHeightUnlike_13_L 54 n s.1 s.2) (fun g s => gX3_firstHeightUnlike_13_Ls 54 (fun a b => g (a, b)) s.1 s.2) (fun _ _ => rfl) _
    (fun j s => s.1 = nI j ∧ j ≤ n ∧ Fk [69] [] u s.2 ∧ EC E s.2 ∧ CF (s.2 69) (G j) ∧ fhF G r n 0 = fhF G r (n - j) j) n ?_ ?_ n 0 FU (0, v2) (by omega) (by unfold FU; omega) ⟨rfl, Nat.zero_le _, f2, e2, by rw [hG.1]; exact c2, rfl⟩
  · rintro j ⟨x1, x⟩ g hj ⟨h0, _, k1, k2, k3, k4⟩ hg
    change x1 = nI j at h0
    subst h0
    change CF (x 69) _ at k3
    change Fk [69] [] u x at k1
    have x54 : x 54 = u 54 := k1.1 54 (by decide) (by decide)
    show Ok (gX3_firstHeightUnlike_13_Ls 54 (fun a b => g (a, b)) (nI j) x) _
    unfold gX3_firstHeightUnlike_13_Ls
    rw [x54, en, if_pos (by rw [lt_nn (by omega) (by omega)]; exact hj), chold k3 (hVG j).1, Option.bind_some, ok_bind]
    refine (cfly69 k2 k3 (hVG j) (hact_3 _)).mono ?_
    rintro y ⟨y1, y2, y3⟩
    rw [← hG.2 j] at y3
    have t1 : Fk [69] [] u y := k1.tr y1
    have y54 : y 54 = u 54 := t1.1 54 (by decide) (by decide)
    have y55 : y 55 = u 55 := t1.1 55 (by decide) (by decide)
    rw [at_eq (by rw [y54]; exact en) hn hj, Option.bind_some, y55, hr j hj, show y 69 0 = G (j + 1) 0 from y3.1 0 (by decide)]
    have e1 : n - j = (n - (j + 1)) + 1 := by omega
    rw [e1] at k4
    refine ok_if (fun c => ?_) (fun c => ?_)
    · rw [fhF_y c] at k4
      rw [letv_eq, nI_s (by omega)]
      exact hg (nI (j + 1), y) ⟨rfl, hj, t1, y2, y3, k4⟩
    · rw [fhF_n c] at k4
      exact ok_some.mpr ⟨k4.symm, t1, y2⟩
  · rintro ⟨x1, x⟩ g ⟨h0, _, k1, k2, k3, k4⟩
    change x1 = nI n at h0
    subst h0
    change Fk [69] [] u x at k1
    have x54 : x 54 = u 54 := k1.1 54 (by decide) (by decide)
    show Ok (gX3_firstHeightUnlike_13_Ls 54 (fun a b => g (a, b)) (nI n) x) _
    unfold gX3_firstHeightUnlike_13_Ls
    rw [x54, en, if_neg (by rw [lt_nn (by omega) (by omega)]; omega)]
    rw [Nat.sub_self] at k4
    exact ok_some.mpr ⟨k4.symm, k1, k2⟩
theorem stm_swap {u : Mm} {k i j : Nat} {v w : Int32} (h : i ≠ j) : stm (stm u k i v) k j w = stm (stm u k j w) k i v := by
  funext c l
  rw [stm_v, stm_v, stm_v, stm_v]
  by_cases h1 : c = k ∧ l = j
  · rw [if_pos h1, if_neg (show ¬ (c = k ∧ l = i) by omega), if_pos h1]
  · rw [if_neg h1, if_neg h1]
theorem flt_cg {u v : Mm} (h : ∀ i, 2 ≤ i → i ≤ 9 → v 74 i = u 74 i) (h7 : v 77 = u 77) : flt v = flt u := by
  funext i
  unfold flt
  by_cases c : i < 8
  · rw [if_pos c, if_pos c, h _ (by omega) (by omega)]
  · rw [if_neg c, if_neg c, h7]
theorem R_drop {x : Mm} (hR : R x) : R (stm (stm x 54 0 0) 74 58 0) := by
  obtain ⟨r1, r2, r3, r4, r5, r6⟩ := hR
  refine ⟨(WN_iff _).mpr (show WC x from (WN_iff x).mp r1), r2, PR_keep r3 rfl rfl rfl rfl (fun z hz => ?_), r4, ⟨0, by decide, rfl, rfl, fun i hi => absurd hi (Nat.not_lt_zero _)⟩, r6⟩
  rw [stm_c (by omega), stm_c (by omega)]
theorem c_judge (u : Mm) (hR : R u) : Both (gX10_judge u) gX11_judge := by
  obtain ⟨n, hn, en, em, hrow⟩ := hR.2.2.2.2.1
  obtain ⟨G, hG⟩ := run_ex (env u) (fun _ => hact) (flt u)
  have hVG := hG.vf (flt_VF hR) (fun _ g => hact_3 g) (fun _ g => hact_g)
  have hC : Ok (gX10_judge u) (fun q => q.1 = fhF G (u 100) n 0 ∧ ∃ x, Sm u x ∧ q.2 = stm x 54 0 0) := by
    unfold gX10_judge gX10_judge_b
    rw [ok_bind]
    refine (cbegin hR).mono ?_
    rintro v1 ⟨f1, m1⟩
    rw [ok_bI]
    refine (cfh (r := u 100) m1.1 m1.2.1 hG (flt_VF hR) (by rw [f1.1 54 (by decide) (by decide)]; exact en) hn (fun i hi => by rw [f1.1 55 (by decide) (by decide)]; exact (hrow i hi).1)).mono ?_
    rintro ⟨r, x⟩ ⟨q1, q2, q3⟩
    change Fk [69] [] v1 x at q2
    exact ok_some.mpr ⟨q1, x, Sm_K (f1.tr (q2.mono (by decide) (fun _ h => by cases h))), rfl⟩
  obtain ⟨⟨r, y⟩, ec, hr, x, sx, hy⟩ := hC
  change r = _ at hr
  change y = _ at hy
  have Rx := sx.keep hR
  have Rb := R_drop Rx
  have ex1 : env x = env u := Sm_env sx
  have ex2 : flt x = flt u := Sm_flt sx
  have eb1 : env (stm y 74 58 0) = env u := by rw [← ex1, hy]; rfl
  have eb2 : flt (stm y 74 58 0) = flt u := by
    rw [← ex2, hy]
    exact flt_cg (fun i _ _ => by rw [stm_s (by omega), stm_c (by decide)]) (by rw [stm_c (by decide), stm_c (by decide)])
  rw [← hy] at Rb
  have hM : Ok (gX11_judge y) (fun q => q.1 = r ∧ Sm (stm y 74 58 0) q.2) := by
    rw [← eb1, ← eb2] at hG
    have y58 : y 74 58 = nI n := by rw [hy, stm_c (by decide), sx.2.1 58 (by decide)]; exact em
    have y100 : stm y 74 58 0 100 = u 100 := by rw [stm_c (by decide), hy, stm_c (by decide), sx.1 100 (by decide)]
    unfold gX11_judge gX11_judge_b
    rw [letv_eq, letv_eq, letv_eq, show stm y 74 19 0 74 58 = nI n from y58, stm_swap (by decide), ok_bind]
    refine (mopen (stm y 74 58 0)).mono ?_
    rintro v1 ⟨o1, o2, o3, o4⟩
    have fin : ∀ (v : Int32) (w : Mm), v = fhF G (u 100) n 0 → Fr cW lW (stm y 74 58 0) w → TH w (flt (stm y 74 58 0)) → Ok (gX11_judge_63 v w) (fun q => q.1 = r ∧ Sm (stm y 74 58 0) q.2) := by
      intro v w h1 h2 h3
      unfold gX11_judge_63
      rw [ok_bind]
      refine (again_ok h3).mono ?_
      rintro z ⟨z1, z2⟩
      exact ok_some.mpr ⟨h1.trans hr.symm, Sm_W (h2.tr (z1.W (by decide))) z2⟩
    refine loopS (fun m (s : Int32 × Int32 × Mm) => gX11_judge_24_L (nI n) m s.1 s.2.1 s.2.2) (fun g s => gX11_judge_24_Ls (nI n) (fun a b c => g (a, b, c)) s.1 s.2.1 s.2.2) (fun _ _ => rfl) _
      (fun j s => s.2.1 = nI j ∧ j ≤ n ∧ Fr cW lW (stm y 74 58 0) s.2.2 ∧ TH s.2.2 (flt (stm y 74 58 0)) ∧ MF s.2.2 (G j) ∧ ((s.1 = -9 ∧ fhF G (u 100) n 0 = fhF G (u 100) (n - j) j) ∨ (0 ≤ s.1.toInt ∧ s.1 = fhF G (u 100) n 0))) n ?_ ?_ n 0 FU (-9, 0, v1) (by omega) (by unfold FU; omega)
      ⟨rfl, Nat.zero_le _, o1, o2, by rw [hG.1]; exact o3, Or.inl ⟨rfl, rfl⟩⟩
    · rintro j ⟨x1, x2, w⟩ g hj ⟨h0, _, k1, k2, k3, k4⟩ hg
      change x2 = nI j at h0
      subst h0
      change Fr cW lW _ w at k1
      change TH w _ at k2
      change MF w _ at k3
      change (x1 = -9 ∧ _) ∨ (0 ≤ x1.toInt ∧ x1 = _) at k4
      show Ok (gX11_judge_24_Ls (nI n) (fun a b c => g (a, b, c)) x1 (nI j) w) _
      unfold gX11_judge_24_Ls
      rw [if_pos (by rw [lt_nn (by omega) (by omega)]; exact hj)]
      rcases k4 with ⟨p1, p2⟩ | ⟨p1, p2⟩
      · rw [if_pos (by rw [p1]; decide), ok_bind]
        refine (mholdW k1 k3 (hVG j)).mono ?_
        rintro z ⟨z0, z1, z2, -⟩
        rw [← hG.2 j] at z2
        have z100 : z 100 = u 100 := (z1.1 100 (by decide) (by decide)).trans y100
        rw [gd_t (ix_nI (by omega) (by decide)), ixn_nI (by omega), show z 74 2 = G (j + 1) 0 from z2.1 0 (by decide), z100]
        have e1 : n - j = (n - (j + 1)) + 1 := by omega
        rw [e1] at p2
        unfold gX11_judge_56
        refine ok_if (fun c => ?_) (fun c => ?_)
        · rw [fhF_y c] at p2
          rw [letv_eq, nI_s (by omega)]
          exact hg (-9, nI (j + 1), z) ⟨rfl, hj, z1, k2.keep z0, z2, Or.inl ⟨rfl, p2⟩⟩
        · rw [fhF_n c] at p2
          rw [letv_eq, nI_s (by omega)]
          exact hg (nI j, nI (j + 1), z) ⟨rfl, hj, z1, k2.keep z0, z2, Or.inr ⟨by show 0 ≤ (nI j).toInt; rw [t_nI (by omega)]; omega, p2.symm⟩⟩
      · rw [if_neg (by rw [t_lt, i0]; omega)]
        exact fin x1 w p2 k1 k2
    · rintro ⟨x1, x2, w⟩ g ⟨h0, _, k1, k2, k3, k4⟩
      change x2 = nI n at h0
      subst h0
      change (x1 = -9 ∧ _) ∨ (0 ≤ x1.toInt ∧ x1 = _) at k4
      show Ok (gX11_judge_24_Ls (nI n) (fun a b c => g (a, b, c)) x1 (nI n) w) _
      unfold gX11_judge_24_Ls
      rw [if_neg (by rw [lt_nn (by omega) (by omega)]; omega)]
      refine fin x1 w ?_ k1 k2
      rcases k4 with ⟨p1, p2⟩ | ⟨p1, p2⟩
      · rw [p2, p1, Nat.sub_self]; rfl
      · exact p2
  obtain ⟨⟨r', z⟩, em', hr', sz'⟩ := hM
  change r' = r at hr'
  subst hr'
  exact ⟨_, y, z, ec, em', sz'.keep Rb⟩
/-! Another LAG. -/
def lgF (v : Int32) (f : Nat → Int32) : Nat → Int32 := if v = f 6 then f else fun i => if i = 6 then v else if 9 ≤ i then 0 else f i
theorem lgF_8 {v : Int32} {f : Nat → Int32} (f8 : f 8 = 0) : lgF v f 8 = 0 := by
  unfold lgF
  split <;> exact f8
theorem lgF_VF {v : Int32} {f : Nat → Int32} (h : VF f) (hv : 0 ≤ v.toInt ∧ v.toInt ≤ 5) : VF (lgF v f) := by
  unfold lgF
  by_cases c : v = f 6
  · rw [if_pos c]; exact h
  · rw [if_neg c]
    obtain ⟨⟨f0, f1, f2, f3, f4, f5, f6⟩, -⟩ := h
    exact ⟨⟨f0, f1, f2, f3, f4, f5, hv⟩, 0, UW_0 _ (fun j hj => by show (if 9 + j = 6 then _ else if 9 ≤ 9 + j then _ else _) = _; rw [if_neg (by omega), if_pos (by omega)])⟩
theorem lgF_MF {v : Int32} {u : Mm} {f : Nat → Int32} (h : MF u f) : Ok (gX11_lagBecomes v u) (fun u' => Fm [8] u u' ∧ MF u' (lgF v f)) := by
  have e8 : u 74 8 = f 6 := h.1 6 (by decide)
  unfold lgF
  by_cases c : v = f 6
  · rw [if_pos c, lagB_t (by rw [e8]; exact c)]
    refine ok_some.mpr ⟨Fm.st (by decide), ?_⟩
    have : stm u 74 8 v = u := by rw [c, ← e8]; exact stm_self
    rw [this]
    exact h
  · rw [if_neg c, lagB_f (by rw [e8]; exact c)]
    refine ok_some.mpr ⟨?_, fun i hi => ?_, fun j hj => ?_⟩
    · refine ⟨fun k h1 h2 => ?_, fun i hi => ?_⟩
      · rw [stm_c h1]
        unfold fgw
        rw [stm_c h2, stm_c h2, stm_c h2, stm_c h2, stm_c h2, stm_c h2]
      · rw [stm_s (fun e => hi (by rw [e]; decide))]
        unfold fgw
        rw [stm_c (by decide), stm_c (by decide), stm_c (by decide), stm_c (by decide), stm_c (by decide), stm_c (by decide)]
    · by_cases c6 : i = 6
      · subst c6
        exact stm_r
      · show _ = if i = 6 then v else if 9 ≤ i then 0 else f i
        rw [if_neg c6, if_neg (by omega), stm_s (by omega)]
        unfold fgw
        rw [stm_c (by decide), stm_c (by decide), stm_c (by decide), stm_c (by decide), stm_c (by decide), stm_c (by decide)]
        exact h.1 i hi
    · rw [stm_c (by decide), fgw_0 u j hj]
      show _ = if 9 + j = 6 then v else if 9 ≤ 9 + j then 0 else f (9 + j)
      rw [if_neg (by omega), if_pos (by omega)]
theorem takeLag_ok {E u : Mm} {f : Nat → Int32} {v : Int32} (hE : EC E u) (hC : CF (u 67) f) (f8 : f 8 = 0) : Ok (gX3_takeLag v u) (fun u' => Fk lM [4] u u' ∧ EC E u' ∧ CF (u' 67) (lgF v f)) := by
  unfold gX3_takeLag gX3_takeLag_b
  have main : Ok (gX2_changeLag 67 v u) (fun x => Fk [67] [] u x ∧ CF (x 67) (lgF v f)) := by
    unfold gX2_changeLag gX2_changeLag_b lgF
    rw [hC.1 6 (by decide)]
    by_cases c : v = f 6
    · rw [if_pos c, if_pos c, letv_eq]
      refine ok_some.mpr ⟨Fk.one (c := 67) (fun k hk => stm_c hk) (by decide) (by decide), ?_⟩
      have : stm u 67 6 v = u := by rw [c, ← hC.1 6 (by decide)]; exact stm_self
      rw [this]
      exact hC
    · rw [if_neg c, if_neg c]
      unfold gX2_loseWork gX2_loseWork_b
      rw [letv_eq, Option.bind_some, letv_eq]
      refine ok_some.mpr ⟨(Fk.one (c := 67) (fun k hk => stm_c hk) (by decide) (by decide)).tr (Fk.one (c := 67) (fun k hk => stm_c hk) (by decide) (by decide)), fun i hi => ?_, ?_⟩
      · by_cases c6 : i = 6
        · subst c6
          exact stm_r
        · show _ = if i = 6 then v else if 9 ≤ i then 0 else f i
          rw [stm_s c6, stm_s (by omega), if_neg c6, if_neg (by omega)]
          exact hC.1 i hi
      · rw [stm_s (by decide), stm_r, stm_r]
        exact UW_0 _ (fun j hj => by show (if 9 + j = 6 then _ else if 9 ≤ 9 + j then _ else _) = _; rw [if_neg (by omega), if_pos (by omega)])
  rw [ok_bind]
  refine main.mono ?_
  rintro x ⟨x1, x2⟩
  rw [ok_bind]
  have hEx := hE.keep x1 (fun c a b e => by simp only [List.mem_cons, List.not_mem_nil, or_false] at e; omega)
  refine (rewind_MI hEx x2).mono ?_
  rintro y ⟨y1, y2⟩
  rw [z8_id (lgF_8 f8)] at y2
  exact ok_some.mpr ⟨(x1.mono (by decide) (fun _ h => by cases h)).tr (y1.mono (by decide) (by decide)), y2.1, y2.2.1⟩
def alE (G : Nat → Nat → Int32) (r : Nat → Int32) : Nat → Int32
  | 0 => 1
  | n + 1 => if alE G r n = 0 then 0 else if G (n + 1) 0 = r n then 1 else 0
theorem fhF_a {G : Nat → Nat → Int32} {r : Nat → Int32} : ∀ d i, i + d < 2147483648 → (fhF G r d i = -9 ↔ ∀ j, i ≤ j → j < i + d → G (j + 1) 0 = r j) := by
  intro d
  induction d with
  | zero => intro i _; exact ⟨fun _ j h1 h2 => by omega, fun _ => rfl⟩
  | succ d ih =>
    intro i hi
    by_cases c : G (i + 1) 0 = r i
    · rw [fhF_y c, ih (i + 1) (by omega)]
      constructor
      · intro h j h1 h2
        by_cases e : j = i
        · rw [e]; exact c
        · exact h j (by omega) (by omega)
      · intro h j h1 h2
        exact h j (by omega) (by omega)
    · rw [fhF_n c]
      constructor
      · intro h
        have := congrArg Int32.toInt h
        rw [t_nI (by omega), im9] at this
        omega
      · intro h
        exact absurd (h i (Nat.le_refl _) (by omega)) c
theorem alE_a {G : Nat → Nat → Int32} {r : Nat → Int32} : ∀ n, (¬ alE G r n = 0 ↔ ∀ j, j < n → G (j + 1) 0 = r j) := by
  intro n
  induction n with
  | zero => exact ⟨fun _ j h => absurd h (Nat.not_lt_zero _), fun _ => by show ¬ (1 : Int32) = 0; decide⟩
  | succ n ih =>
    by_cases c : alE G r n = 0
    · rw [show alE G r (n + 1) = 0 from if_pos c]
      constructor
      · intro h; exact absurd rfl h
      · intro h _
        exact (ih.mpr (fun j hj => h j (by omega))) c
    · by_cases c2 : G (n + 1) 0 = r n
      · rw [show alE G r (n + 1) = 1 from (if_neg c).trans (if_pos c2)]
        refine ⟨fun _ j hj => ?_, fun _ => by decide⟩
        by_cases e : j = n
        · rw [e]; exact c2
        · exact ih.mp c j (by omega)
      · rw [show alE G r (n + 1) = 0 from (if_neg c).trans (if_neg c2)]
        exact ⟨fun h => absurd rfl h, fun h => absurd (h n (by omega)) c2⟩
theorem al_fh {G : Nat → Nat → Int32} {r : Nat → Int32} {n : Nat} (hn : n ≤ 12) : fhF G r n 0 = -9 ↔ ¬ alE G r n = 0 := by
  rw [fhF_a n 0 (by omega), alE_a n]
  exact ⟨fun h j hj => h j (Nat.zero_le _) (by omega), fun h j _ hj => h j (by omega)⟩
def lgS (b : Nat → Int32) : Nat → Int32
  | 0 => 0
  | n + 1 => if b n = -9 then lgS b n ||| shl 1 (nI n) else lgS b n
theorem c_whichLag (u : Mm) (hR : R u) : Both (gX10_whichLag u) gX11_whichLag := by
  obtain ⟨n, hn, en, em, hrow⟩ := hR.2.2.2.2.1
  obtain ⟨G, hG⟩ : ∃ G : Nat → Nat → Nat → Int32, ∀ v, Run (env u) (fun _ => hact) (lgF (nI v) (flt u)) (G v) := ⟨fun v => arun (env u) (fun _ => hact) (lgF (nI v) (flt u)), fun v => ⟨rfl, fun _ => rfl⟩⟩
  have hv5 : ∀ v, v ≤ 5 → VF (lgF (nI v) (flt u)) := fun v hv => lgF_VF (flt_VF hR) (by rw [t_nI (by omega)]; omega)
  have hVG : ∀ v, v ≤ 5 → ∀ j, VF (G v j) := fun v hv => (hG v).vf (hv5 v hv) (fun _ g => hact_3 g) (fun _ g => hact_g)
  obtain ⟨b, hb⟩ : ∃ b : Nat → Int32, ∀ v, b v = fhF (G v) (u 100) n 0 := ⟨_, fun _ => rfl⟩
  refine Both_of (r := lgS b 6) hR ?_ (fun u1 hR1 e1 e2 hrl h74 => ?_)
  · unfold gX10_whichLag gX10_whichLag_b
    refine loopS (fun m (s : Int32 × Int32 × Mm) => gX10_whichLag_4_L m s.1 s.2.1 s.2.2) (fun g s => gX10_whichLag_4_Ls (fun a b c => g (a, b, c)) s.1 s.2.1 s.2.2) (fun _ _ => rfl) _
      (fun j s => s.2.1 = nI j ∧ s.1 = lgS b j ∧ Fk lM [4] u s.2.2) 6 ?_ ?_ 6 0 FU (0, 0, u) rfl (by decide) ⟨rfl, rfl, Fk.rf _ _ _⟩
    · rintro j ⟨x1, x2, x⟩ g hj ⟨h0, k1, k2⟩ hg
      change x2 = nI j at h0
      subst h0
      change x1 = _ at k1
      change Fk lM [4] u x at k2
      have sx := Sm_K k2
      have Rx := sx.keep hR
      show Ok (gX10_whichLag_4_Ls (fun a b c => g (a, b, c)) x1 (nI j) x) _
      unfold gX10_whichLag_4_Ls
      rw [show (5 : Int32) = nI 5 from rfl, if_neg (by rw [lt_nn (by omega) (by omega)]; omega), ok_bind]
      refine (cbegin Rx).mono ?_
      rintro v1 ⟨f1, m1⟩
      rw [Sm_env sx, Sm_flt sx] at m1
      rw [ok_bind]
      refine (takeLag_ok (v := nI j) m1.1 m1.2.1 (flt_8 u)).mono ?_
      rintro v2 ⟨f2, m2, m3⟩
      rw [ok_bI]
      have k3 : Fk lM [4] u v2 := (k2.tr f1).tr f2
      refine (cfh (r := u 100) m2 m3 (hG j) (hv5 j (by omega)) (by rw [k3.1 54 (by decide) (by decide)]; exact en) hn (fun i hi => by rw [k3.1 55 (by decide) (by decide)]; exact (hrow i hi).1)).mono ?_
      rintro ⟨r, y⟩ ⟨q1, q2, q3⟩
      change r = _ at q1
      change Fk [69] [] v2 y at q2
      rw [← hb] at q1
      have k4 : Fk lM [4] u y := k3.tr (q2.mono (by decide) (fun _ h => by cases h))
      have hs : lgS b (j + 1) = if b j = -9 then lgS b j ||| shl 1 (nI j) else lgS b j := rfl
      rw [← q1] at hs
      refine ok_if (fun c => ?_) (fun c => ?_)
      · change r = -9 at c
        rw [if_pos c] at hs
        rw [letv_eq, letv_eq, nI_s (by omega)]
        exact hg (x1 ||| shl 1 (nI j), nI (j + 1), y) ⟨rfl, by rw [hs, ← k1], k4⟩
      · change ¬ r = -9 at c
        rw [if_neg c] at hs
        rw [letv_eq, nI_s (by omega)]
        exact hg (x1, nI (j + 1), y) ⟨rfl, by rw [hs]; exact k1, k4⟩
    · rintro ⟨x1, x2, x⟩ g ⟨h0, k1, k2⟩
      change x2 = nI 6 at h0
      subst h0
      show Ok (gX10_whichLag_4_Ls (fun a b c => g (a, b, c)) x1 (nI 6) x) _
      unfold gX10_whichLag_4_Ls
      rw [if_pos (by decide)]
      exact ok_some.mpr ⟨k1, Sm_K k2⟩
  · rw [← e1, ← e2] at hG
    have em1 : u1 74 58 = nI n := (h74 58 (by decide)).trans em
    have e100 : u1 100 = u 100 := hrl 100 (by decide)
    unfold gX11_whichLag gX11_whichLag_b
    rw [letv_eq]
    refine loopS (fun m (s : Int32 × Int32 × Mm) => gX11_whichLag_9_L m s.1 s.2.1 s.2.2) (fun g s => gX11_whichLag_9_Ls (fun a b c => g (a, b, c)) s.1 s.2.1 s.2.2) (fun _ _ => rfl) _
      (fun j s => s.2.1 = nI j ∧ s.1 = lgS b j ∧ Fr cW lW u1 s.2.2 ∧ MF s.2.2 (flt u1)) 6 ?_ ?_ 6 0 FU (0, 0, thr u1) rfl (by decide) ⟨rfl, rfl, Fr.st (by decide), (flt_MF u1).st (by decide)⟩
    · rintro j ⟨x1, x2, x⟩ g hj ⟨h0, k1, k2, k3⟩ hg
      change x2 = nI j at h0
      subst h0
      change x1 = _ at k1
      change Fr cW lW u1 x at k2
      change MF x _ at k3
      show Ok (gX11_whichLag_9_Ls (fun a b c => g (a, b, c)) x1 (nI j) x) _
      unfold gX11_whichLag_9_Ls
      rw [show (5 : Int32) = nI 5 from rfl, if_neg (by rw [lt_nn (by omega) (by omega)]; omega), ok_bind]
      refine (open_fr k3).mono ?_
      rintro v1 ⟨o1, o2, o3⟩
      have k4 : Fr cW lW u1 v1 := k2.tr (o1.mono (by decide) (by decide))
      rw [ok_bind]
      refine (lgF_MF (v := nI j) o3).mono ?_
      rintro v2 ⟨p1, p2⟩
      have k5 : Fr cW lW u1 v2 := k4.tr (p1.W (by decide))
      have t2 : TH v2 (flt u1) := o2.keep p1
      have hs : lgS b (j + 1) = if b j = -9 then lgS b j ||| shl 1 (nI j) else lgS b j := rfl
      have hbj : b j = -9 ↔ ¬ alE (G j) (u 100) n = 0 := by rw [hb]; exact al_fh hn
      refine loopS (fun m (s : Int32 × Int32 × Mm) => gX11_whichLag_28_L (fun a b c => g (a, b, c)) x1 (nI j) m s.1 s.2.1 s.2.2) (fun g2 s => gX11_whichLag_28_Ls (fun a b c => g (a, b, c)) x1 (nI j) (fun a b c => g2 (a, b, c)) s.1 s.2.1 s.2.2) (fun _ _ => rfl) _
        (fun i s => s.2.1 = nI i ∧ s.1 = alE (G j) (u 100) i ∧ Fr cW lW u1 s.2.2 ∧ MF s.2.2 (G j i) ∧ TH s.2.2 (flt u1)) n ?_ ?_ n 0 FU (1, 0, v2) (by omega) (by unfold FU; omega) ⟨rfl, rfl, k5, by rw [(hG j).1]; exact p2, t2⟩
      · rintro i ⟨y1, y2, y⟩ g2 hi ⟨h0, r1, r2, r3, r4⟩ hg2
        change y2 = nI i at h0
        subst h0
        change y1 = _ at r1
        change Fr cW lW u1 y at r2
        change MF y _ at r3
        change TH y _ at r4
        show Ok (gX11_whichLag_28_Ls (fun a b c => g (a, b, c)) x1 (nI j) (fun a b c => g2 (a, b, c)) y1 (nI i) y) _
        unfold gX11_whichLag_28_Ls
        have y58 : y 74 58 = nI n := (r2.2 58 (by decide)).trans em1
        rw [y58, if_pos (by rw [lt_nn (by omega) (by omega)]; exact hi), ok_bind]
        refine (mholdW r2 r3 (hVG j (by omega) i)).mono ?_
        rintro z ⟨z0, z1, z2, -⟩
        rw [← (hG j).2 i] at z2
        have z100 : z 100 = u 100 := (z1.1 100 (by decide) (by decide)).trans e100
        have za : alE (G j) (u 100) (i + 1) = if alE (G j) (u 100) i = 0 then 0 else if G j (i + 1) 0 = u 100 i then 1 else 0 := rfl
        have go : ∀ s : Int32, s = alE (G j) (u 100) (i + 1) → Ok (gX11_whichLag_64 (fun a b c => g (a, b, c)) (fun a b c => g2 (a, b, c)) x1 (nI j) (nI i) s z) (fun q => q.1 = lgS b 6 ∧ Sm u1 q.2) := by
          intro s hs
          unfold gX11_whichLag_64
          rw [letv_eq, nI_s (by omega)]
          exact hg2 (s, nI (i + 1), z) ⟨rfl, hs, z1, z2, r4.keep z0⟩
        unfold gX11_whichLag_63
        rw [r1]
        refine ok_if (fun c => go 0 ?_) (fun c => ?_)
        · rw [za, if_pos c]
        · rw [gd_t (ix_nI (by omega) (by decide)), ixn_nI (by omega), show z 74 2 = G j (i + 1) 0 from z2.1 0 (by decide), z100]
          refine ok_if (fun c2 => go 1 ?_) (fun c2 => go 0 ?_)
          · rw [za, if_neg c, if_pos c2]
          · rw [za, if_neg c, if_neg c2]
      · rintro ⟨y1, y2, y⟩ g2 ⟨h0, r1, r2, r3, r4⟩
        change y2 = nI n at h0
        subst h0
        change y1 = _ at r1
        change Fr cW lW u1 y at r2
        change TH y _ at r4
        show Ok (gX11_whichLag_28_Ls (fun a b c => g (a, b, c)) x1 (nI j) (fun a b c => g2 (a, b, c)) y1 (nI n) y) _
        unfold gX11_whichLag_28_Ls
        have y58 : y 74 58 = nI n := (r2.2 58 (by decide)).trans em1
        have go : ∀ s : Int32, x1 ||| s = lgS b (j + 1) → Ok (gX11_whichLag_83 (fun a b c => g (a, b, c)) (nI j) s x1 y) (fun q => q.1 = lgS b 6 ∧ Sm u1 q.2) := by
          intro s hs2
          unfold gX11_whichLag_83
          rw [letv_eq, ok_bind]
          refine (again_ok r4).mono ?_
          rintro z ⟨z1, z2⟩
          rw [letv_eq, nI_s (by omega)]
          exact hg (x1 ||| s, nI (j + 1), z) ⟨rfl, hs2, r2.tr (z1.W (by decide)), z2⟩
        rw [y58, if_neg (by rw [lt_nn (by omega) (by omega)]; omega), r1]
        refine ok_if (fun c => go 0 ?_) (fun c => go _ ?_)
        · rw [hs, if_neg (fun h => hbj.mp h c), Int32.or_zero]; exact k1
        · rw [hs, if_pos (hbj.mpr c), k1]
    · rintro ⟨x1, x2, x⟩ g ⟨h0, k1, k2, k3⟩
      change x2 = nI 6 at h0
      subst h0
      show Ok (gX11_whichLag_9_Ls (fun a b c => g (a, b, c)) x1 (nI 6) x) _
      unfold gX11_whichLag_9_Ls
      rw [if_pos (by decide)]
      exact ok_some.mpr ⟨k1, Sm_W k2 k3⟩
