/-! Call: game. -/
def tE (E : Mm) : Mm := fun r => if r = 0 then (fun i => -(E 0 i)) else E r
def evE (E : Mm) (t : Nat) : Mm := if t = 0 then E else tE E
theorem tE_EC {E u : Mm} (h : EC E u) : Ok (gX0_turnAbout 58 u) (fun u' => Fk [59] [] u u' ∧ EC (tE E) u') := by
  unfold gX0_turnAbout gX0_turnAbout_b
  have main : Ok (gX0_turnAbout_2_L 58 FU 0 u) (fun u' => (∀ c, c ≠ 59 → u' c = u c) ∧ ∀ i, i < 8 → u' 59 i = -(u 59 i)) := by
    refine loopS (fun n (s : Int32 × Mm) => gX0_turnAbout_2_L 58 n s.1 s.2) (fun g s => gX0_turnAbout_2_Ls 58 (fun a b => g (a, b)) s.1 s.2) (fun _ _ => rfl) _
      (fun n s => s.1 = nI n ∧ (∀ c, c ≠ 59 → s.2 c = u c) ∧ ∀ i, s.2 59 i = if i < n then -(u 59 i) else u 59 i) 8 ?_ ?_ 8 0 FU (0, u) rfl (by decide) ⟨rfl, fun _ _ => rfl, fun i => by rw [if_neg (Nat.not_lt_zero _)]⟩
    · rintro j ⟨v1, v⟩ g hj ⟨h0, h1, h2⟩ hg
      change v1 = nI j at h0
      subst h0
      change ∀ i, v 59 i = _ at h2
      show Ok (gX0_turnAbout_2_Ls 58 (fun a b => g (a, b)) (nI j) v) _
      unfold gX0_turnAbout_2_Ls
      rw [show (8 : Int32) = nI 8 from rfl, if_pos (by rw [lt_nn (by omega) (by omega)]; exact hj), gd_t (ix_nI hj (by decide)), gd_t (ix_nI hj (by decide)), ixn_nI (by omega), letv_eq, letv_eq, nI_s (by omega)]
      refine hg (nI (j + 1), stm v (58 + 1) j (-(v (58 + 1) j))) ⟨rfl, fun c hc => (stm_c hc).trans (h1 c hc), fun i => ?_⟩
      show stm v 59 j (-(v 59 j)) 59 i = _
      by_cases e : i = j
      · rw [e, stm_r, if_pos (by omega), h2 j, if_neg (by omega)]
      · rw [stm_s e, h2 i]
        by_cases e2 : i < j
        · rw [if_pos e2, if_pos (by omega)]
        · rw [if_neg e2, if_neg (by omega)]
    · rintro ⟨v1, v⟩ g ⟨h0, h1, h2⟩
      change v1 = nI 8 at h0
      subst h0
      show Ok (gX0_turnAbout_2_Ls 58 (fun a b => g (a, b)) (nI 8) v) _
      unfold gX0_turnAbout_2_Ls
      rw [if_neg (by decide)]
      refine ok_some.mpr ⟨h1, fun i hi => ?_⟩
      have := h2 i
      rw [if_pos hi] at this
      exact this
  refine main.mono ?_
  rintro u' ⟨g1, g2⟩
  have k1 : Fk [59] [] u u' := Fk.one g1 (by decide) (by decide)
  refine ⟨k1, fun i hi => ?_, by rw [g1 61 (by decide)]; exact h.2⟩
  obtain ⟨a1, a2, a3, a4, a5, a6, a7⟩ := h.1 i hi
  refine ⟨?_, ?_, ?_, ?_, ?_, ?_, ?_⟩
  · rw [g2 i hi, a1]; rfl
  · rw [g1 60 (by decide)]; exact a2
  · rw [g1 62 (by decide)]; exact a3
  · rw [g1 63 (by decide)]; exact a4
  · rw [g1 64 (by decide)]; exact a5
  · rw [g1 65 (by decide)]; exact a6
  · rw [g1 66 (by decide)]; exact a7
theorem tE_EB {E : Mm} (h : EB E) : EB (tE E) := h
theorem evE_EB {E : Mm} (h : EB E) (t : Nat) : EB (evE E t) := by
  unfold evE
  split
  · exact h
  · exact tE_EB h
def lossF (E : Mm) (f : Nat → Int32) (k : Nat) : Int32 := if pl (evE E (k % 2)) (5 * (k / 2)) 1 f 0 = 0 then costP (evE E (k % 2)) (pl (evE E (k % 2)) (5 * (k / 2)) 1 f) else 40
theorem five : ∀ c : Nat, c < 3 → (5 : Int32) * nI c = nI (5 * c) := by decide
theorem c2t : ∀ c : Nat, c < 3 → ∀ t : Nat, t < 2 → nI c * 2 + nI t = nI (2 * c + t) := by decide
theorem cgame {E u : Mm} {f : Nat → Int32} {A : Nat → Int32} (hA : ∀ k, k < 6 → A k = lossF E f k) (hM : MI E f u) (hV : VF f) (f8 : f 8 = 0) (hB : EB E) : Ok (gX3_playGame u) (fun u' => Fk lM [4] u u' ∧ ∀ k, k < 6 → u' 70 k = A k) := by
  unfold gX3_playGame gX3_playGame_b
  refine loopS (fun n (s : Int32 × Mm) => gX3_playGame_2_L n s.1 s.2) (fun g s => gX3_playGame_2_Ls (fun a b => g (a, b)) s.1 s.2) (fun _ _ => rfl) _
    (fun n s => s.1 = nI n ∧ Fk lM [4] u s.2 ∧ (n < 2 → MI (evE E n) f s.2) ∧ ∀ k, k < 6 → k % 2 < n → s.2 70 k = A k) 2 ?_ ?_ 2 0 FU (0, u) rfl (by decide) ⟨rfl, Fk.rf _ _ _, fun _ => hM, fun k _ h => absurd h (Nat.not_lt_zero _)⟩
  · rintro t ⟨v1, v⟩ g ht ⟨h0, h1, h2, h3⟩ hg
    change v1 = nI t at h0
    subst h0
    change Fk lM [4] u v at h1
    change ∀ k, k < 6 → k % 2 < t → v 70 k = A k at h3
    show Ok (gX3_playGame_2_Ls (fun a b => g (a, b)) (nI t) v) _
    unfold gX3_playGame_2_Ls
    rw [show (2 : Int32) = nI 2 from rfl, if_pos (by rw [lt_nn (by omega) (by omega)]; exact ht)]
    refine loopS (fun n (s : Int32 × Mm) => gX3_playGame_9_L (fun a b => g (a, b)) (nI t) n s.1 s.2) (fun g2 s => gX3_playGame_9_Ls (fun a b => g (a, b)) (nI t) (fun a b => g2 (a, b)) s.1 s.2) (fun _ _ => rfl) _
      (fun n s => s.1 = nI n ∧ Fk lM [4] u s.2 ∧ MI (evE E t) f s.2 ∧ (∀ k, k < 6 → k % 2 < t → s.2 70 k = A k) ∧ ∀ c, c < n → s.2 70 (2 * c + t) = A (2 * c + t)) 3 ?_ ?_ 3 0 FU (0, v) rfl (by decide) ⟨rfl, h1, h2 ht, h3, fun c h => absurd h (Nat.not_lt_zero _)⟩
    · rintro c ⟨w1, w⟩ g2 hc ⟨h0, k1, k2, k3, k4⟩ hg2
      change w1 = nI c at h0
      subst h0
      change Fk lM [4] u w at k1
      change MI (evE E t) f w at k2
      change ∀ k, k < 6 → k % 2 < t → w 70 k = A k at k3
      change ∀ c', c' < c → w 70 (2 * c' + t) = A (2 * c' + t) at k4
      show Ok (gX3_playGame_9_Ls (fun a b => g (a, b)) (nI t) (fun a b => g2 (a, b)) (nI c) w) _
      unfold gX3_playGame_9_Ls
      have hAk := hA (2 * c + t) (by omega)
      unfold lossF at hAk
      rw [show (2 * c + t) % 2 = t by omega, show (2 * c + t) / 2 = c by omega] at hAk
      rw [show (3 : Int32) = nI 3 from rfl, if_pos (by rw [lt_nn (by omega) (by omega)]; exact hc), five c hc, show (1 : Int32) = nI 1 from rfl, c2t c hc t ht, ok_bI]
      refine (cfollow k2 hV f8 (k := 5 * c) (p := 1) (by omega) (by decide)).mono ?_
      rintro ⟨r, x⟩ ⟨hr, q1, q2, q3⟩
      change Fk lF [4] w x at q1
      change MIk (evE E t) f _ x at q2
      change CF (x 69) _ at q3
      have hr0 := bz_i hr
      generalize pl (evE E t) (5 * c) 1 f = G at hr0 q3 hAk
      have kx : Fk lM [4] u x := k1.tr (q1.mono (by decide) (fun _ h => h))
      have x70 : x 70 = w 70 := q1.1 70 (by decide) (by decide)
      have fin : ∀ s : Int32, s = A (2 * c + t) → Ok (gX3_playGame_43 (fun a b => g (a, b)) (fun a b => g2 (a, b)) (nI t) (nI c) s (nI (2 * c + t)) x) (fun u' => Fk lM [4] u u' ∧ ∀ k, k < 6 → u' 70 k = A k) := by
        intro s hs
        unfold gX3_playGame_43
        rw [gd_t (ix_nI (by omega) (by decide)), ixn_nI (by omega), letv_eq, letv_eq, nI_s (by omega)]
        have kk : Fk [70] [] x (stm x 70 (2 * c + t) s) := Fk.one (c := 70) (fun k hk => stm_c hk) (by decide) (by decide)
        refine hg2 (nI (c + 1), stm x 70 (2 * c + t) s) ⟨rfl, kx.tr (kk.mono (by decide) (fun _ h => by cases h)), ⟨5 * c, by omega, q2.1.keep kk (fun c a b e => by simp only [List.mem_cons, List.not_mem_nil, or_false] at e; omega), q2.2.1, q2.2.2.1, q2.2.2.2⟩, fun k hk hkt => ?_, fun c' hc' => ?_⟩
        · show stm x 70 (2 * c + t) s 70 k = _
          rw [stm_s (by omega), x70]
          exact k3 k hk hkt
        · show stm x 70 (2 * c + t) s 70 (2 * c' + t) = _
          by_cases e : c' = c
          · rw [e, stm_r]; exact hs
          · rw [stm_s (by omega), x70]; exact k4 c' (by omega)
      refine ok_if (fun c1 => fin _ ?_) (fun c1 => ?_)
      · rw [hAk, if_neg (hr0.mp c1)]
      · have c0 : G 0 = 0 := Decidable.not_not.mp (fun h => c1 (hr0.mpr h))
        show Ok ((gX3_costThere x).bind _) _
        rw [ccostP q2.1 (evE_EB hB t) q3, Option.bind_some]
        exact fin _ (by rw [hAk, if_pos c0])
    · rintro ⟨w1, w⟩ g2 ⟨h0, k1, ⟨m, hm, k2⟩, k3, k4⟩
      change w1 = nI 3 at h0
      subst h0
      change Fk lM [4] u w at k1
      change MIk (evE E t) f m w at k2
      change ∀ k, k < 6 → k % 2 < t → w 70 k = A k at k3
      change ∀ c', c' < 3 → w 70 (2 * c' + t) = A (2 * c' + t) at k4
      show Ok (gX3_playGame_9_Ls (fun a b => g (a, b)) (nI t) (fun a b => g2 (a, b)) (nI 3) w) _
      unfold gX3_playGame_9_Ls
      rw [if_neg (by decide), ok_bind]
      refine (tE_EC k2.1).mono ?_
      rintro x ⟨x1, x2⟩
      rw [ok_bind]
      have x67 : CF (x 67) f := by rw [x1.1 67 (by decide) (by decide)]; exact k2.2.1
      refine (rewind_MI x2 x67).mono ?_
      rintro y ⟨y1, y2⟩
      rw [z8_id f8] at y2
      have y70 : y 70 = w 70 := (y1.1 70 (by decide) (by decide)).trans (x1.1 70 (by decide) (by decide))
      rw [letv_eq, nI_s (by omega)]
      refine hg (nI (t + 1), y) ⟨rfl, (k1.tr (x1.mono (by decide) (fun _ h => by cases h))).tr (y1.mono (by decide) (by decide)), fun h2 => ?_, fun k hk hkt => ?_⟩
      · obtain rfl : t = 0 := by omega
        exact ⟨0, by decide, y2⟩
      · show y 70 k = _
        rw [y70]
        by_cases e : k % 2 < t
        · exact k3 k hk e
        · have := k4 (k / 2) (by omega)
          rw [show 2 * (k / 2) + t = k by omega] at this
          exact this
  · rintro ⟨v1, v⟩ g ⟨h0, h1, h2, h3⟩
    change v1 = nI 2 at h0
    subst h0
    show Ok (gX3_playGame_2_Ls (fun a b => g (a, b)) (nI 2) v) _
    unfold gX3_playGame_2_Ls
    rw [if_neg (by decide)]
    exact ok_some.mpr ⟨h1, fun k hk => h3 k hk (by omega)⟩
/-! The reference's game. -/
theorem turnM (u : Mm) : Ok (gX11_turnAir u) (fun u' => (∀ c, c ≠ 75 → u' c = u c) ∧ ∀ i, u' 75 i = if i < 8 then -(u 75 i) else u 75 i) := by
  unfold gX11_turnAir gX11_turnAir_b
  refine loopS (fun n (s : Int32 × Mm) => gX11_turnAir_2_L n s.1 s.2) (fun g s => gX11_turnAir_2_Ls (fun a b => g (a, b)) s.1 s.2) (fun _ _ => rfl) _
    (fun n s => s.1 = nI n ∧ (∀ c, c ≠ 75 → s.2 c = u c) ∧ ∀ i, s.2 75 i = if i < n then -(u 75 i) else u 75 i) 8 ?_ ?_ 8 0 FU (0, u) rfl (by decide) ⟨rfl, fun _ _ => rfl, fun i => by rw [if_neg (Nat.not_lt_zero _)]⟩
  · rintro j ⟨v1, v⟩ g hj ⟨h0, h1, h2⟩ hg
    change v1 = nI j at h0
    subst h0
    change ∀ i, v 75 i = _ at h2
    show Ok (gX11_turnAir_2_Ls (fun a b => g (a, b)) (nI j) v) _
    unfold gX11_turnAir_2_Ls
    rw [show (8 : Int32) = nI 8 from rfl, if_pos (by rw [lt_nn (by omega) (by omega)]; exact hj), gd_t (ix_nI hj (by decide)), gd_t (ix_nI hj (by decide)), ixn_nI (by omega), letv_eq, letv_eq, nI_s (by omega)]
    refine hg (nI (j + 1), stm v 75 j (-(v 75 j))) ⟨rfl, fun c hc => (stm_c hc).trans (h1 c hc), fun i => ?_⟩
    show stm v 75 j (-(v 75 j)) 75 i = _
    by_cases e : i = j
    · rw [e, stm_r, if_pos (by omega), h2 j, if_neg (by omega)]
    · rw [stm_s e, h2 i]
      by_cases e2 : i < j
      · rw [if_pos e2, if_pos (by omega)]
      · rw [if_neg e2, if_neg (by omega)]
  · rintro ⟨v1, v⟩ g ⟨h0, h1, h2⟩
    change v1 = nI 8 at h0
    subst h0
    show Ok (gX11_turnAir_2_Ls (fun a b => g (a, b)) (nI 8) v) _
    unfold gX11_turnAir_2_Ls
    rw [if_neg (by decide)]
    exact ok_some.mpr ⟨h1, h2⟩
/-- row 75 turned t times -/
def turnd (r : Nat → Int32) (t : Nat) : Nat → Int32 := fun i => if t % 2 = 0 then r i else if i < 8 then -(r i) else r i
theorem turnd_s (r : Nat → Int32) (t i : Nat) : (if i < 8 then -(turnd r t i) else turnd r t i) = turnd r (t + 1) i := by
  unfold turnd
  by_cases h : t % 2 = 0
  · rw [if_pos h, if_neg (show ¬ (t + 1) % 2 = 0 by omega)]
  · rw [if_neg h, if_pos (show (t + 1) % 2 = 0 by omega)]
    by_cases h8 : i < 8
    · rw [if_pos h8, if_pos h8, Int32.neg_neg]
    · rw [if_neg h8, if_neg h8]
theorem mgame {u1 : Mm} {A : Nat → Int32} (hA : ∀ k, k < 6 → A k = lossF (env u1) (flt u1) k) (hR1 : R u1) : Ok (gX11_layGame (thr u1)) (fun u' => Fr cW lW u1 u' ∧ MF u' (flt u1) ∧ ∀ k, k < 6 → u' 97 k = A k) := by
  have hB := env_EB hR1
  unfold gX11_layGame gX11_layGame_b
  rw [ok_bind]
  refine (mopen u1).mono ?_
  rintro v1 ⟨o1, o2, o3, o4⟩
  have hEM : ∀ (t : Nat) (w : Mm), Fr (75 :: cW) lW u1 w → (∀ i, w 75 i = turnd (u1 75) t i) → EM (evE (env u1) (t % 2)) w := by
    intro t w hw h75
    have h1 := env_EM u1
    have c75 : ∀ c, 75 ≤ c → c ≤ 82 → c ≠ 77 → c ≠ 75 → w c = u1 c := fun c a b d e => hw.1 c (by omega) (cw75 c a b d e)
    have hrow : ∀ r, r ≠ 0 → evE (env u1) (t % 2) r = env u1 r := by
      intro r hr
      unfold evE
      by_cases h : t % 2 = 0
      · rw [if_pos h]
      · rw [if_neg h]; exact if_neg hr
    refine ⟨fun i hi => ?_, ?_⟩
    · obtain ⟨a1, a2, a3, a4, a5, a6, a7⟩ := h1.1 i hi
      rw [hrow 1 (by decide), hrow 3 (by decide), hrow 4 (by decide), hrow 5 (by decide), hrow 6 (by decide), hrow 7 (by decide), c75 76 (by decide) (by decide) (by decide) (by decide), c75 78 (by decide) (by decide) (by decide) (by decide), c75 79 (by decide) (by decide) (by decide) (by decide), c75 80 (by decide) (by decide) (by decide) (by decide), c75 81 (by decide) (by decide) (by decide) (by decide), c75 82 (by decide) (by decide) (by decide) (by decide)]
      refine ⟨?_, a2, a3, a4, a5, a6, a7⟩
      rw [h75 i]
      unfold turnd evE
      by_cases h : t % 2 = 0
      · rw [if_pos h, if_pos h]; exact a1
      · rw [if_neg h, if_neg h, if_pos hi, a1]; rfl
    · rw [hrow 2 (by decide), hw.2 11 (by decide)]; exact h1.2
  have cwm : ∀ i, i ∈ cW → i ∈ 75 :: cW := fun i hi => List.mem_cons_of_mem _ hi
  refine loopS (fun n (s : Int32 × Mm) => gX11_layGame_6_L n s.1 s.2) (fun g s => gX11_layGame_6_Ls (fun a b => g (a, b)) s.1 s.2) (fun _ _ => rfl) _
    (fun n s => s.1 = nI n ∧ Fr (75 :: cW) lW u1 s.2 ∧ (∀ i, s.2 75 i = turnd (u1 75) n i) ∧ TH s.2 (flt u1) ∧ ∀ k, k < n → s.2 97 k = A k) 6 ?_ ?_ 6 0 FU (0, v1) rfl (by decide) ⟨rfl, o1.mono cwm (fun _ h => h), fun i => by show v1 75 i = _; rw [o1.1 75 (by decide) (by decide)]; rfl, o2, fun k h => absurd h (Nat.not_lt_zero _)⟩
  · rintro j ⟨w1, w⟩ g hj ⟨h0, k1, k2, k3, k4⟩ hg
    change w1 = nI j at h0
    subst h0
    change Fr (75 :: cW) lW u1 w at k1
    change ∀ i, w 75 i = _ at k2
    change TH w _ at k3
    change ∀ k, k < j → w 97 k = A k at k4
    show Ok (gX11_layGame_6_Ls (fun a b => g (a, b)) (nI j) w) _
    unfold gX11_layGame_6_Ls
    have hAk := hA j hj
    unfold lossF at hAk
    have hE := hEM j w k1 k2
    rw [show (6 : Int32) = nI 6 from rfl, if_pos (by rw [lt_nn (by omega) (by omega)]; exact hj), show (2 : Int32) = nI 2 from rfl, dv_n (by omega) (by decide) (by decide), five (j / 2) (by omega), show (1 : Int32) = nI 1 from rfl, ok_bind]
    refine (mplan k3 (flt_VF hR1) hE (flt_8 u1) (k := 5 * (j / 2)) (p := 1) (by omega) (by decide)).mono ?_
    rintro x ⟨q1, q2, q3, q4, -⟩
    have hr0 := bz_i q3
    have hEx := hE.keep q1 (by decide)
    generalize pl (evE (env u1) (j % 2)) (5 * (j / 2)) 1 (flt u1) = G at hr0 q2 q4 hAk
    have x75 : x 75 = w 75 := q1.1 75 (by decide) (by decide)
    have x97 : x 97 = w 97 := q1.1 97 (by decide) (by decide)
    have kx : Fr (75 :: cW) lW u1 x := k1.tr (q1.fr (by decide) (by decide))
    have xT : TH x (flt u1) := k3.keep q1
    have fin : ∀ s : Int32, s = A j → Ok (gX11_layGame_51 (fun a b => g (a, b)) (nI j) s (nI j) x) (fun u' => Fr cW lW u1 u' ∧ MF u' (flt u1) ∧ ∀ k, k < 6 → u' 97 k = A k) := by
      intro s hs
      unfold gX11_layGame_51
      rw [gd_t (ix_nI hj (by decide)), ixn_nI (by omega), letv_eq, ok_bind]
      refine (turnM _).mono ?_
      rintro y ⟨y1, y2⟩
      rw [letv_eq, nI_s (by omega)]
      refine hg (nI (j + 1), y) ⟨rfl, ?_, fun i => ?_, ?_, fun k hk => ?_⟩
      · refine kx.tr ((Fr.cell (c := 97) (i := j) (v := s) (by decide) (by decide)).tr ⟨fun c _ b => y1 c (fun e => b (by rw [e]; exact List.mem_cons_self)), fun i _ => by show y 74 i = _; rw [y1 74 (by decide)]⟩)
      · show y 75 i = _
        rw [y2 i, stm_c (by decide), x75, k2 i, turnd_s]
      · show TH y _
        unfold TH
        rw [y1 92 (by decide), stm_c (by decide)]
        exact xT
      · show y 97 k = _
        rw [y1 97 (by decide)]
        by_cases e : k = j
        · rw [e, stm_r]; exact hs
        · rw [stm_s e, x97]; exact k4 k (by omega)
    refine ok_if (fun c1 => fin _ ?_) (fun c1 => ?_)
    · rw [hAk, if_neg (hr0.mp c1)]
    · have c0 : G 0 = 0 := Decidable.not_not.mp (fun h => c1 (hr0.mpr h))
      rw [mfield hEx (evE_EB hB _) q2, Option.bind_some, mcostP hEx (evE_EB hB _) q2 q4, Option.bind_some]
      exact fin _ (by rw [hAk, if_pos c0])
  · rintro ⟨w1, w⟩ g ⟨h0, k1, k2, k3, k4⟩
    change w1 = nI 6 at h0
    subst h0
    change Fr (75 :: cW) lW u1 w at k1
    change ∀ i, w 75 i = _ at k2
    change TH w _ at k3
    change ∀ k, k < 6 → w 97 k = A k at k4
    show Ok (gX11_layGame_6_Ls (fun a b => g (a, b)) (nI 6) w) _
    unfold gX11_layGame_6_Ls
    rw [if_neg (by decide), ok_bind]
    refine (again_ok k3).mono ?_
    rintro y ⟨y1, y2⟩
    have kw : Fr cW lW u1 w := by
      refine ⟨fun c h1 h2 => ?_, k1.2⟩
      by_cases e : c = 75
      · rw [e]; funext i; exact k2 i
      · exact k1.1 c h1 (fun h => by rcases List.mem_cons.mp h with h | h; exact e h; exact h2 h)
    exact ok_some.mpr ⟨kw.tr (y1.W (by decide)), y2, fun k hk => by rw [y1.1 97 (by decide) (by decide)]; exact k4 k hk⟩
/-! Who rests where. -/
def rsP (A : Nat → Int32) (k : Nat) : Prop := ¬ A k < A (if k % 2 = 0 then k + 1 else k - 1) ∧ ∀ c, c < 3 → ¬ A (2 * c + k % 2) < A k
def rsF (A : Nat → Int32) (q : Nat → Bool) : Nat → Nat → Nat
  | 0, _ => 6
  | d + 1, k => if q k then k else rsF A q d (k + 1)
theorem imin_lt (x y z : Int32) : imin x y < z ↔ x < z ∨ y < z := by
  unfold imin
  simp only [t_lt]
  split <;> omega
theorem loss_ct {u : Mm} {A : Nat → Int32} (hA : ∀ k, k < 6 → u 70 k = A k) {c t : Nat} (hc : c < 3) (ht : t < 2) : gX3_lossBy (nI c) (nI t) u = some (A (2 * c + t)) := by
  unfold gX3_lossBy gX3_lossBy_b
  rw [if_neg (nI_pos (by omega)), show (3 : Int32) = nI 3 from rfl, if_pos (by rw [lt_nn (by omega) (by omega)]; exact hc), if_neg (nI_pos (by omega)), if_pos (show nI t < 2 by rw [show (2 : Int32) = nI 2 from rfl, lt_nn (by omega) (by omega)]; exact ht), c2t c hc t ht, gd_t (ix_nI (by omega) (by decide)), ixn_nI (by omega), hA _ (by omega)]
theorem least_t {u : Mm} {A : Nat → Int32} (hA : ∀ k, k < 6 → u 70 k = A k) {t : Nat} (ht : t < 2) : gX3_leastLossIf (nI t) u = some (imin (imin (A t) (A (2 + t))) (A (4 + t))) := by
  have h0 := loss_ct hA (c := 0) (t := t) (by decide) ht
  have h1 := loss_ct hA (c := 1) (t := t) (by decide) ht
  have h2 := loss_ct hA (c := 2) (t := t) (by decide) ht
  rw [show 2 * 0 + t = t by omega] at h0
  unfold gX3_leastLossIf gX3_leastLossIf_b
  rw [show (0 : Int32) = nI 0 from rfl, h0, Option.bind_some, show (1 : Int32) = nI 1 from rfl]
  show gX3_leastLossIf_9_Ls (nI t) u (gX3_leastLossIf_9_L (nI t) u 3999) (A t) (nI 1) = _
  unfold gX3_leastLossIf_9_Ls
  rw [if_pos (by decide), h1, Option.bind_some, letv_eq, letv_eq, nI_s (by decide)]
  show gX3_leastLossIf_9_Ls (nI t) u (gX3_leastLossIf_9_L (nI t) u 3998) (imin (A t) (A (2 + t))) (nI 2) = _
  unfold gX3_leastLossIf_9_Ls
  rw [if_pos (by decide), h2, Option.bind_some, letv_eq, letv_eq, nI_s (by decide)]
  show gX3_leastLossIf_9_Ls (nI t) u (gX3_leastLossIf_9_L (nI t) u 3997) (imin (imin (A t) (A (2 + t))) (A (4 + t))) (nI 3) = _
  unfold gX3_leastLossIf_9_Ls
  rw [if_neg (by decide)]
theorem oth_t : ∀ t : Nat, t < 2 → (1 : Int32) - nI t = nI (1 - t) := by decide
theorem steady_ok {u : Mm} {A : Nat → Int32} {q : Nat → Bool} (hA : ∀ k, k < 6 → u 70 k = A k) (hq : ∀ k, q k = true ↔ rsP A k) : Ok (gX3_steadyPair u) (fun r => r = if rsF A q 6 0 = 6 then -9 else nI (10 * (rsF A q 6 0 / 2) + rsF A q 6 0 % 2)) := by
  unfold gX3_steadyPair gX3_steadyPair_b
  refine loopS (fun n (s : Int32) => gX3_steadyPair_2_L u n s) (fun g s => gX3_steadyPair_2_Ls u (fun a => g a) s) (fun _ _ => rfl) _
    (fun c s => s = nI c ∧ c ≤ 3 ∧ rsF A q 6 0 = rsF A q (6 - 2 * c) (2 * c)) 3 ?_ ?_ 3 0 FU 0 rfl (by decide) ⟨rfl, by decide, rfl⟩
  · rintro c s g hc ⟨h0, _, h1⟩ hg
    subst h0
    show Ok (gX3_steadyPair_2_Ls u (fun a => g a) (nI c)) _
    unfold gX3_steadyPair_2_Ls
    rw [show (3 : Int32) = nI 3 from rfl, if_pos (by rw [lt_nn (by omega) (by omega)]; exact hc)]
    refine loopS (fun n (s : Int32) => gX3_steadyPair_9_L (fun a => g a) (nI c) u n s) (fun g2 s => gX3_steadyPair_9_Ls (fun a => g a) (nI c) u (fun a => g2 a) s) (fun _ _ => rfl) _
      (fun t s => s = nI t ∧ t ≤ 2 ∧ rsF A q 6 0 = rsF A q (6 - (2 * c + t)) (2 * c + t)) 2 ?_ ?_ 2 0 FU 0 rfl (by decide) ⟨rfl, by decide, h1⟩
    · rintro t s g2 ht ⟨h0, _, h2⟩ hg2
      subst h0
      show Ok (gX3_steadyPair_9_Ls (fun a => g a) (nI c) u (fun a => g2 a) (nI t)) _
      unfold gX3_steadyPair_9_Ls
      have e6 : 6 - (2 * c + t) = (6 - (2 * c + (t + 1))) + 1 := by omega
      have un : ∀ d k, rsF A q (d + 1) k = if q k then k else rsF A q d (k + 1) := fun _ _ => rfl
      rw [e6, un (6 - (2 * c + (t + 1))) (2 * c + t)] at h2
      rw [show (2 : Int32) = nI 2 from rfl, if_pos (by rw [lt_nn (by omega) (by omega)]; exact ht), loss_ct hA hc ht, Option.bind_some, oth_t t ht, loss_ct hA hc (t := 1 - t) (by omega), Option.bind_some, least_t hA ht, Option.bind_some]
      have hP : rsP A (2 * c + t) ↔ ¬ A (2 * c + t) < A (2 * c + (1 - t)) ∧ ¬ imin (imin (A t) (A (2 + t))) (A (4 + t)) < A (2 * c + t) := by
        unfold rsP
        rw [show (if (2 * c + t) % 2 = 0 then 2 * c + t + 1 else 2 * c + t - 1) = 2 * c + (1 - t) by split <;> omega, imin_lt, imin_lt, show (2 * c + t) % 2 = t by omega]
        constructor
        · rintro ⟨a, b⟩
          refine ⟨a, ?_⟩
          have b0 := b 0 (by decide)
          have b1 := b 1 (by decide)
          have b2 := b 2 (by decide)
          rw [show 2 * 0 + t = t by omega] at b0
          rintro ((h | h) | h)
          · exact b0 h
          · exact b1 h
          · exact b2 h
        · rintro ⟨a, b⟩
          refine ⟨a, fun c' hc' h => b ?_⟩
          have : c' = 0 ∨ c' = 1 ∨ c' = 2 := by omega
          rcases this with rfl | rfl | rfl
          · rw [show 2 * 0 + t = t by omega] at h; exact Or.inl (Or.inl h)
          · exact Or.inl (Or.inr h)
          · exact Or.inr h
      have pass : ¬ rsP A (2 * c + t) → Ok (letv (nI t + 1) fun v => g2 v) (fun r => r = if rsF A q 6 0 = 6 then -9 else nI (10 * (rsF A q 6 0 / 2) + rsF A q 6 0 % 2)) := by
        intro hn
        rw [if_neg (fun h => hn ((hq _).mp h))] at h2
        rw [letv_eq, nI_s (by omega)]
        exact hg2 (nI (t + 1)) ⟨rfl, by omega, h2⟩
      refine ok_if (fun c1 => pass (fun h => (hP.mp h).1 c1)) (fun c1 => ok_if (fun c2 => pass (fun h => (hP.mp h).2 c2)) (fun c2 => ?_))
      rw [if_pos ((hq _).mpr (hP.mpr ⟨c1, c2⟩))] at h2
      refine ok_some.mpr ?_
      rw [h2, if_neg (by omega), cd_eq c (by omega) t (by omega), show (2 * c + t) / 2 = c by omega, show (2 * c + t) % 2 = t by omega]
    · rintro s g2 ⟨h0, _, h2⟩
      subst h0
      show Ok (gX3_steadyPair_9_Ls (fun a => g a) (nI c) u (fun a => g2 a) (nI 2)) _
      unfold gX3_steadyPair_9_Ls
      rw [if_neg (by decide), letv_eq, nI_s (by omega)]
      exact hg (nI (c + 1)) ⟨rfl, by omega, h2⟩
  · rintro s g ⟨h0, _, h1⟩
    subst h0
    show Ok (gX3_steadyPair_2_Ls u (fun a => g a) (nI 3)) _
    unfold gX3_steadyPair_2_Ls
    rw [if_neg (by decide)]
    refine ok_some.mpr ?_
    rw [h1]
    rfl
