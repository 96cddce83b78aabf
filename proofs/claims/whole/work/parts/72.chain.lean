/-! The letters told: all statements, one behind the other. -/
def PW (x : Nat → Int32) (N : Nat) (w : Mm) : Prop := (∀ j, j < N → TDj x w j) ∧ w 74 26 = nI N
theorem PW.fr {x : Nat → Int32} {N : Nat} {w w' : Mm} (h : PW x N w) (h1 : w' 86 = w 86) (h2 : w' 87 = w 87) (h3 : w' 88 = w 88) (h4 : w' 89 = w 89) (h5 : w' 74 26 = w 74 26) : PW x N w' := by
  refine ⟨fun j hj => ?_, h5.trans h.2⟩
  obtain ⟨a, b, c⟩ := h.1 j hj
  exact ⟨by rw [h1]; exact a, by rw [h2]; exact b, c.keep (fun s _ _ => by rw [h3]) (by rw [h4])⟩
theorem PW.C {x : Nat → Int32} {N : Nat} {w w' : Mm} (h : PW x N w) (f : FrC w w') : PW x N w' := h.fr (f.1 86 (by omega)) (f.1 87 (by omega)) (f.1 88 (by omega)) (f.1 89 (by omega)) (f.2 26 (by decide))
theorem Lt.fr {u u' : Mm} {x : Nat → Int32} {n : Nat} (h : Lt u x n) (h1 : u' 52 = u 52) (h2 : u' 53 = u 53) : Lt u' x n := ⟨h.1, by rw [h1]; exact h.2.1, by rw [h2]; exact h.2.2.1, h.2.2.2⟩
/-- what the reference's telling leaves -/
def RC (N : Nat) (r : Int32) (uc' w' : Mm) (q : Int32 × Mm) : Prop := q.1 = r ∧ ((r = nI N ∧ ∃ w'', q.2 = stm w'' 74 40 0 ∧ FrC w' w'' ∧ WD uc' w'') ∨ (r.toInt < 0 ∧ ∃ w'', FrC w' w'' ∧ gX11_carryAll 90 0 w'' = some q.2))
theorem RC.pre {N : Nat} {r : Int32} {uc' w1 w2 : Mm} {q : Int32 × Mm} (h : RC N r uc' w2 q) (f : FrC w1 w2) : RC N r uc' w1 q := by
  obtain ⟨h1, h2⟩ := h
  refine ⟨h1, ?_⟩
  rcases h2 with ⟨a, w'', b, c, d⟩ | ⟨a, w'', b, c⟩
  · exact Or.inl ⟨a, w'', b, f.tr c, d⟩
  · exact Or.inr ⟨a, w'', f.tr b, c⟩
theorem sp_ne (K : Nat) (h : 84 ≤ K) : ∀ q : Nat, q < 136 → (sp q).1 ≠ K := fun q hq => by have := sp_c q hq; omega
theorem chain {x : Nat → Int32} {n N : Nat} (hx : ∀ j, n ≤ j → x j = -1) (hn : n ≤ 96) (hN : N ≤ 32) (hg : ∀ j, j < N → good x n j) (hl : ¬ (N = 0 ∨ pos x N < n)) :
    ∀ d i, i + d = N → ∀ (fu : Nat) (uc w : Mm), d < fu → Lt uc x n → PW x N w → WD uc w → ∃ r uc', gX5_tell_4_L 15 fu (nI i) (nI (pos x i)) uc = some (r, uc') ∧ FrT uc uc' ∧ (r = nI N ∨ r.toInt < 0) ∧ ∀ (fu2 : Nat) (w' : Mm), d < fu2 → PW x N w' → WD uc w' → Ok (gX11_land_84_L fu2 (nI i) w') (RC N r uc' w') := by
  intro d
  induction d with
  | zero =>
    intro i hi fu uc w hf hL hP hD
    obtain rfl : i = N := by omega
    obtain ⟨g, rfl⟩ : ∃ g, fu = g + 1 := ⟨fu - 1, by omega⟩
    have lp := pos_96 hx hn hg
    refine ⟨nI i, uc, ?_, fun _ _ => rfl, Or.inl rfl, fun fu2 w' hf2 hP' hD' => ?_⟩
    · show gX5_tell_4_Ls 15 (gX5_tell_4_L 15 g) (nI i) (nI (pos x i)) uc = _
      unfold gX5_tell_4_Ls
      rw [if_pos (show nI i < 96 by rw [show (96 : Int32) = nI 96 from rfl, lt_nn (by omega) (by omega)]; omega), hL.2.1, if_neg (by rw [lt_nn (by omega) (by omega)]; exact fun h => hl (Or.inr h))]
    · obtain ⟨g2, rfl⟩ : ∃ g, fu2 = g + 1 := ⟨fu2 - 1, by omega⟩
      show Ok (gX11_land_84_Ls (gX11_land_84_L g2) (nI i) w') _
      unfold gX11_land_84_Ls
      rw [hP'.2, if_neg (by rw [lt_nn (by omega) (by omega)]; exact Nat.lt_irrefl _), letv_eq]
      exact ok_some.mpr ⟨hP'.2, Or.inl ⟨rfl, w', rfl, FrC.rf w', hD'⟩⟩
  | succ d ih =>
    intro i hi fu uc w hf hL hP hD
    obtain ⟨g, rfl⟩ : ∃ g, fu = g + 1 := ⟨fu - 1, by omega⟩
    have gi := hg i (by omega)
    have lp := pos_96 hx hn (fun j hj => hg j (by omega)) (i := i)
    have ln := EN_le x (pos x i)
    have live : pos x i < n := by
      have := good_n hx gi
      omega
    have hEnd : gX5_endOf (nI (pos x i)) uc = some (nI (EN x (pos x i)).1) := by
      rw [endOf_C hL (by omega), cdE, if_pos gi.2]
    obtain ⟨b, uc1, e1, e2, e3, e4⟩ := st_all (w := w) hL lp (show i < 49 by omega) gi.2 rfl (hP.1 i (by omega)).2.1 (hP.1 i (by omega)).2.2 hD
    have eC : gX5_tell_4_L 15 (g + 1) (nI i) (nI (pos x i)) uc = if b = 0 then some ((-2000) - nI (pos x i), uc1) else gX5_tell_4_L 15 g (nI (i + 1)) (nI (pos x (i + 1))) uc1 := by
      show gX5_tell_4_Ls 15 (gX5_tell_4_L 15 g) (nI i) (nI (pos x i)) uc = _
      unfold gX5_tell_4_Ls
      rw [if_pos (show nI i < 96 by rw [show (96 : Int32) = nI 96 from rfl, lt_nn (by omega) (by omega)]; omega), hL.2.1, if_pos (by rw [lt_nn (by omega) (by omega)]; exact live), hEnd, Option.bind_some, e1]
      show (if b = 0 then _ else letv (nI (EN x (pos x i)).1 + 1) fun v3_7 => letv (nI i + 1) fun v2_8 => gX5_tell_4_L 15 g v2_8 v3_7 uc1) = _
      rw [letv_eq, letv_eq, nI_s (by omega), nI_s (by omega)]
      rfl
    have hL1 : Lt uc1 x n := hL.fr (e3 52 (by omega)) (e3 53 (by omega))
    have step : ∀ w' : Mm, PW x N w' → WD uc w' → Ok (gX11_comes (nI i) w') (fun q => q.1 = b ∧ FrC w' q.2 ∧ (b = 1 → WD uc1 q.2)) := by
      intro w' hP' hD'
      obtain ⟨b', uc1', k1, -, -, k4⟩ := st_all (w := w') hL lp (show i < 49 by omega) gi.2 rfl (hP'.1 i (by omega)).2.1 (hP'.1 i (by omega)).2.2 hD'
      rw [e1] at k1
      have h := Option.some.inj k1
      have h1 : b = b' := congrArg Prod.fst h
      have h2 : uc1 = uc1' := congrArg Prod.snd h
      rw [h1, h2]
      exact k4
    rw [eC]
    rcases e2 with rfl | rfl
    · rw [if_pos rfl]
      have hneg : ((-2000) - nI (pos x i)).toInt = -2000 - (pos x i : Int) := by
        have h1 := t_nI (show pos x i < 2147483648 by omega)
        have h2 : (-2000 : Int32).toInt = -2000 := rfl
        rw [t_sub (by rw [h1, h2]; omega) (by rw [h1, h2]; omega), h1, h2]
      refine ⟨_, uc1, rfl, e3, Or.inr (by omega), fun fu2 w' hf2 hP' hD' => ?_⟩
      obtain ⟨g2, rfl⟩ : ∃ g, fu2 = g + 1 := ⟨fu2 - 1, by omega⟩
      show Ok (gX11_land_84_Ls (gX11_land_84_L g2) (nI i) w') _
      unfold gX11_land_84_Ls
      rw [hP'.2, if_pos (by rw [lt_nn (by omega) (by omega)]; omega), ok_bI]
      refine (step w' hP' hD').mono ?_
      rintro ⟨s, w1⟩ ⟨s1, s2, -⟩
      change s = 0 at s1
      subst s1
      change FrC w' w1 at s2
      rw [if_pos rfl, ok_bind]
      obtain ⟨z, ez, -, -, hF, -⟩ := ca_ok (K := 90) (tk := false) (v := 0) (u := w1) rfl (by decide) rfl (by decide) (by decide) (sp_ne 90 (by decide))
      refine ⟨z, ez, ?_⟩
      show Ok (gd (ix (nI i) 49) (some (-2000 - z 86 (ixn (nI i)), z))) _
      rw [gd_t (ix_nI (show i < 49 by omega) (by decide)), ixn_nI (show i < 2147483648 by omega)]
      have e86 : z 86 i = nI (pos x i) := by
        rw [hF 86 i (Or.inr (fun q hq e => by have := sp_c q hq; rw [e] at this; exact absurd this.2 (show ¬ (86 : Nat) ≤ 83 by decide))) (Or.inl (by decide)) (Or.inl (by decide)), cst_c (by decide), s2.1 86 (by omega)]
        exact (hP'.1 i (by omega)).1
      refine ok_some.mpr ⟨?_, Or.inr ⟨by omega, w1, s2, ez⟩⟩
      show (-2000) - z 86 i = _
      rw [e86]
    · rw [if_neg (by decide)]
      obtain ⟨w1', ew1, a1, a2, a3⟩ := step w hP hD
      obtain ⟨r, uc', k1, k2, k3, k4⟩ := ih (i + 1) (by omega) g uc1 w1'.2 (by omega) hL1 (hP.C a2) (a3 rfl)
      refine ⟨r, uc', k1, fun c hc => (k2 c hc).trans (e3 c hc), k3, fun fu2 w' hf2 hP' hD' => ?_⟩
      obtain ⟨g2, rfl⟩ : ∃ g, fu2 = g + 1 := ⟨fu2 - 1, by omega⟩
      show Ok (gX11_land_84_Ls (gX11_land_84_L g2) (nI i) w') _
      unfold gX11_land_84_Ls
      rw [hP'.2, if_pos (by rw [lt_nn (by omega) (by omega)]; omega), ok_bI]
      refine (step w' hP' hD').mono ?_
      rintro ⟨s, w1⟩ ⟨s1, s2, s3⟩
      change s = 1 at s1
      subst s1
      change FrC w' w1 at s2
      show Ok (if (1 : Int32) = 0 then _ else letv (nI i + 1) fun v1_6 => gX11_land_84_L g2 v1_6 w1) _
      rw [if_neg (by decide), letv_eq, nI_s (by omega)]
      refine (k4 g2 w1 (by omega) (hP'.C s2) (s3 rfl)).mono ?_
      exact fun q hq => hq.pre s2
/-- the reference behind its reading -/
def R52 (N : Nat) (r : Int32) (uc' w' : Mm) (q : Int32 × Mm) : Prop := q.1 = r ∧ q.2 74 23 = 0 ∧
  ((r = nI N ∧ q.2 74 40 = 0 ∧ WD uc' q.2 ∧ (∀ c, c < 74 ∨ 83 < c → c ≠ 90 → q.2 c = w' c) ∧ (∀ j, j ∉ lC → j ≠ 23 → j ≠ 34 → j ≠ 35 → j ≠ 36 → j ≠ 40 → q.2 74 j = w' 74 j)) ∨
   (r.toInt < 0 ∧ (∀ p, p < 136 → mV q.2 p = mV w' p) ∧ (∀ c, c < 74 ∨ 83 < c → c ≠ 90 → q.2 c = w' c) ∧ (∀ j, j ∉ lC → j ≠ 18 → j ≠ 23 → j ≠ 34 → j ≠ 35 → j ≠ 36 → q.2 74 j = w' 74 j)))
theorem WD.fr {u w w' : Mm} (h : WD u w) (hm : ∀ p, p < 136 → mV w' p = mV w p) : WD u w' := by
  obtain ⟨⟨f1, f2, f3, f4⟩, a, ⟨k1, k2, k3, k4⟩, ⟨r1, r2, r3⟩⟩ := h
  refine ⟨⟨fun i hi => ?_, f2, UW_cg (fun j hj => ?_) f3, f4⟩, fun i hi => ?_, ⟨k1.trans (hm 14 (by decide)).symm, k2, fun i hi => ?_, k4⟩, ⟨r1.trans (hm 15 (by decide)).symm, r2, fun i hi => ⟨(r3 i hi).1.trans ?_, (r3 i hi).2⟩⟩⟩
  · have := hm i (by omega)
    rw [mV_f w' hi, mV_f w hi] at this
    rw [this]
    exact f1 i hi
  · have := hm (8 + j) (by omega)
    rw [mV_w w' hj, mV_w w hj] at this
    exact this.symm
  · obtain ⟨a1, a2, -⟩ := mV_7 w hi
    obtain ⟨b1, b2, -⟩ := mV_7 w' hi
    have h1 := hm (16 + 7 * i) (by omega)
    have h2 := hm (17 + 7 * i) (by omega)
    rw [b1, a1] at h1
    rw [b2, a2] at h2
    rw [h1, h2]
    exact a i hi
  · obtain ⟨-, -, a3, a4, a5, a6, a7⟩ := mV_7 w hi
    obtain ⟨-, -, b3, b4, b5, b6, b7⟩ := mV_7 w' hi
    have h3 := hm (18 + 7 * i) (by omega)
    have h4 := hm (19 + 7 * i) (by omega)
    have h5 := hm (20 + 7 * i) (by omega)
    have h6 := hm (21 + 7 * i) (by omega)
    have h7 := hm (22 + 7 * i) (by omega)
    rw [b3, a3] at h3
    rw [b4, a4] at h4
    rw [b5, a5] at h5
    rw [b6, a6] at h6
    rw [b7, a7] at h7
    rw [h3, h4, h5, h6, h7]
    exact k3 i hi
  · have := hm (72 + i) (by omega)
    rw [mV_r, mV_r] at this
    exact this.symm
theorem land52 {x : Nat → Int32} {n N : Nat} {u1 w uc' : Mm} {r : Int32} (hP : PW x N w) (hD : WD u1 w) (h25 : w 74 25 = 0) (hr : r = nI N ∨ r.toInt < 0)
    (hc : ∀ (fu2 : Nat) (w' : Mm), N < fu2 → PW x N w' → WD u1 w' → Ok (gX11_land_84_L fu2 (nI 0) w') (RC N r uc' w')) (hN : N ≤ 32) : Ok (gX11_land_52 w) (R52 N r uc' w) := by
  unfold gX11_land_52
  have m23 : ∀ p, p < 136 → mV (stm w 74 23 0) p = mV w p := fun p hp => mV_st (sp_x p hp).2.2.2.1
  rw [letv_eq, if_pos (show stm w 74 23 0 74 25 = 0 from h25), ok_bind]
  obtain ⟨b, eb, -, hB, hF, -⟩ := ca_ok (K := 90) (tk := true) (v := 1) (u := stm w 74 23 0) rfl (by decide) rfl (by decide) (by decide) (sp_ne 90 (by decide))
  refine ⟨b, eb, ?_⟩
  have bo : ∀ c, c ≠ 74 → c ≠ 90 → b c = w c := fun c h1 h2 => funext fun i => by
    rw [hF c i (Or.inl rfl) (Or.inl h1) (Or.inl h2), cst_c h1, stm_c h1]
  have b74 : ∀ j, j ≠ 23 → j ≠ 34 → j ≠ 35 → j ≠ 36 → b 74 j = w 74 j := fun j a c d e => by
    rw [hF 74 j (Or.inl rfl) (Or.inr c) (Or.inl (by decide)), cst_s c d e, stm_s a]
  have b23 : b 74 23 = 0 := by
    rw [hF 74 23 (Or.inl rfl) (Or.inr (by decide)) (Or.inl (by decide)), cst_s (by decide) (by decide) (by decide), stm_r]
  have bm : ∀ p, p < 136 → mV b p = mV w p := fun p hp => by
    rw [← m23 p hp, ← mV_cst (u := stm w 74 23 0) (K := 90) (v := 1) hp, mV_sp, mV_sp (cst (stm w 74 23 0) 90 1)]
    refine hF _ _ (Or.inl rfl) ?_ (Or.inl (sp_ne 90 (by decide) p hp))
    by_cases h : (sp p).1 = 74
    · exact Or.inr (fun e => (sp_34 p hp).1 (by rw [← h, ← e]))
    · exact Or.inl h
  have b90 : ∀ p, p < 136 → b 90 p = mV w p := fun p hp => by
    rw [hB rfl p hp, mV_cst hp]
    exact m23 p hp
  have hPb : PW x N b := hP.fr (bo 86 (by decide) (by decide)) (bo 87 (by decide) (by decide)) (bo 88 (by decide) (by decide)) (bo 89 (by decide) (by decide)) (b74 26 (by decide) (by decide) (by decide) (by decide))
  refine (hc FU b (by unfold FU; omega) hPb (hD.fr bm)).mono ?_
  rintro ⟨s, q⟩ ⟨q1, q2⟩
  refine ⟨q1, ?_⟩
  rcases q2 with ⟨a, w'', h1, h2, h3⟩ | ⟨a, w'', h2, h3⟩
  · change q = stm w'' 74 40 0 at h1
    have q40 : ∀ p, p < 136 → mV (stm w'' 74 40 0) p = mV w'' p := fun p hp => mV_st (sp_x p hp).2.2.1
    rw [h1]
    refine ⟨?_, Or.inl ⟨a, show stm w'' 74 40 0 74 40 = 0 from stm_r, h3.fr q40, fun c hc h90 => ?_, fun j h0 h1 h4 h5 h6 h7 => ?_⟩⟩
    · show stm w'' 74 40 0 74 23 = 0
      rw [stm_s (by decide), h2.2 23 (by decide), b23]
    · show stm w'' 74 40 0 c = w c
      rw [stm_c (by omega), h2.1 c hc, bo c (by omega) h90]
    · show stm w'' 74 40 0 74 j = w 74 j
      rw [stm_s h7, h2.2 j h0, b74 j h1 h4 h5 h6]
  · change gX11_carryAll 90 0 w'' = some q at h3
    obtain ⟨z, ez, hA, -, hG, -⟩ := ca_ok (K := 90) (tk := false) (v := 0) (u := w'') rfl (by decide) rfl (by decide) (by decide) (sp_ne 90 (by decide))
    rw [h3] at ez
    obtain rfl : q = z := Option.some.inj ez
    have zo : ∀ c j, (∀ p, p < 136 → sp p ≠ (c, j)) → (c ≠ 74 ∨ (j ≠ 34 ∧ j ≠ 35 ∧ j ≠ 36)) → q c j = w'' c j := fun c j h hh => by
      rw [hG c j (Or.inr h) (by omega) (Or.inr (Or.inl rfl))]
      by_cases e : c = 74
      · subst e
        rcases hh with hh | ⟨a1, a2, a3⟩
        · exact absurd rfl hh
        · exact cst_s a1 a2 a3
      · exact congrFun (cst_c e) j
    have sp74 : ∀ j, j ∉ lC → j ≠ 18 → ∀ p, p < 136 → sp p ≠ (74, j) := by
      intro j hj h18 p hp e
      have key : ∀ p : Nat, p < 136 → (sp p).1 = 74 → (sp p).2 ∈ 18 :: lC := by decide +kernel
      have := key p hp (by rw [e])
      rw [e] at this
      rcases List.mem_cons.mp this with h | h
      · exact h18 h
      · exact hj h
    refine ⟨?_, Or.inr ⟨a, fun p hp => ?_, fun c hc h90 => funext fun j => ?_, fun j h0 h18 h1 h4 h5 h6 => ?_⟩⟩
    · show q 74 23 = 0
      rw [zo 74 23 (sp74 23 (by decide) (by decide)) (Or.inr (by decide)), h2.2 23 (by decide), b23]
    · show mV q p = mV w p
      rw [mV_sp, hA rfl p hp, cst_c (by decide), h2.1 90 (by omega), b90 p hp]
    · show q c j = w c j
      rw [zo c j (fun p hp e => by have := sp_c p hp; rw [e] at this; exact absurd this (by show ¬ (74 ≤ c ∧ c ≤ 83); omega)) (Or.inl (by omega)), h2.1 c hc, bo c (by omega) h90]
    · show q 74 j = w 74 j
      rw [zo 74 j (sp74 j h0 h18) (Or.inr ⟨h4, h5, h6⟩), h2.2 j h0, b74 j h1 h4 h5 h6]
