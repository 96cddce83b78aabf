/-! The reference's pair at rest; game. -/
def grt (A : Nat → Int32) (c : Nat) : Int32 := if A (2 * c + 1) < A (2 * c) then A (2 * c) else A (2 * c + 1)
theorem two_c : ∀ c : Nat, c < 3 → (2 : Int32) * nI c = nI (2 * c) := by decide
theorem grt_ok {u : Mm} {A : Nat → Int32} (hA : ∀ k, k < 6 → u 97 k = A k) {c : Nat} (hc : c < 3) : gX11_greaterLoss (nI c) u = some (grt A c) := by
  unfold gX11_greaterLoss gX11_greaterLoss_b grt
  rw [two_c c hc, nI_s (by omega), gd_t (ix_nI (by omega) (by decide)), gd_t (ix_nI (by omega) (by decide)), ixn_nI (by omega), ixn_nI (by omega), hA _ (by omega), hA _ (by omega), gd_t (ix_nI (by omega) (by decide)), gd_t (ix_nI (by omega) (by decide))]
  split <;> rfl
theorem grt_max (A : Nat → Int32) (c : Nat) : imax (A (2 * c)) (A (2 * c + 1)) = grt A c := by
  unfold imax grt
  rw [← Int32.toInt_inj]
  simp only [t_lt]
  split <;> split <;> omega
theorem grt_eq {A : Nat → Int32} {k : Nat} : A k = grt A (k / 2) ↔ ¬ A k < A (if k % 2 = 0 then k + 1 else k - 1) := by
  unfold grt
  by_cases h : k % 2 = 0
  · rw [if_pos h, show 2 * (k / 2) + 1 = k + 1 by omega, show 2 * (k / 2) = k by omega, ← Int32.toInt_inj]
    simp only [t_lt]
    split <;> omega
  · rw [if_neg h, show 2 * (k / 2) + 1 = k by omega, show 2 * (k / 2) = k - 1 by omega, ← Int32.toInt_inj]
    simp only [t_lt]
    split <;> omega
def rsG (A : Nat → Int32) (k : Nat) : Nat → Int32
  | 0 => bz (A k = grt A (k / 2))
  | c + 1 => if rsG A k c = 0 then 0 else if A (2 * c + k % 2) < A k then 0 else 1
theorem rsG_P (A : Nat → Int32) (k : Nat) : ∀ c, ¬ rsG A k c = 0 ↔ (A k = grt A (k / 2) ∧ ∀ c', c' < c → ¬ A (2 * c' + k % 2) < A k) := by
  intro c
  induction c with
  | zero =>
    show ¬ bz (A k = grt A (k / 2)) = 0 ↔ _
    rw [bz_0]
    exact ⟨fun h => ⟨Decidable.not_not.mp h, fun c' h => absurd h (Nat.not_lt_zero _)⟩, fun h e => e h.1⟩
  | succ c ih =>
    by_cases h : rsG A k c = 0
    · rw [show rsG A k (c + 1) = 0 from if_pos h]
      refine ⟨fun e => absurd rfl e, fun e => ?_⟩
      exact absurd h (ih.mpr ⟨e.1, fun c' hc' => e.2 c' (by omega)⟩)
    · have i2 := ih.mp h
      by_cases h2 : A (2 * c + k % 2) < A k
      · rw [show rsG A k (c + 1) = 0 from (if_neg h).trans (if_pos h2)]
        exact ⟨fun e => absurd rfl e, fun e => absurd h2 (e.2 c (by omega))⟩
      · rw [show rsG A k (c + 1) = 1 from (if_neg h).trans (if_neg h2)]
        refine ⟨fun _ => ⟨i2.1, fun c' hc' => ?_⟩, fun _ => by decide⟩
        by_cases e : c' = c
        · rw [e]; exact h2
        · exact i2.2 c' (by omega)
theorem rsG_3 {A : Nat → Int32} {k : Nat} : ¬ rsG A k 3 = 0 ↔ rsP A k := by
  rw [rsG_P, grt_eq]
  rfl
theorem nI_p2 {m : Nat} (h : m + 2 < 2147483648) : nI m + 2 = nI (m + 2) := by rw [show (2 : Int32) = nI 2 from rfl, nI_a (by omega)]
theorem rest_ok {u : Mm} {A : Nat → Int32} {q : Nat → Bool} (hA : ∀ k, k < 6 → u 97 k = A k) (hq : ∀ k, q k = true ↔ rsP A k) : Ok (gX11_restingPair u) (fun r => r = if rsF A q 6 0 = 6 then -9 else nI (rsF A q 6 0)) := by
  unfold gX11_restingPair gX11_restingPair_b
  refine loopS (fun n (s : Int32) => gX11_restingPair_2_L u n s) (fun g s => gX11_restingPair_2_Ls u (fun a => g a) s) (fun _ _ => rfl) _
    (fun k s => s = nI k ∧ k ≤ 6 ∧ rsF A q 6 0 = rsF A q (6 - k) k) 6 ?_ ?_ 6 0 FU 0 rfl (by decide) ⟨rfl, by decide, rfl⟩
  · rintro k s g hk ⟨h0, _, h1⟩ hg
    subst h0
    show Ok (gX11_restingPair_2_Ls u (fun a => g a) (nI k)) _
    unfold gX11_restingPair_2_Ls
    have e6 : 6 - k = (6 - (k + 1)) + 1 := by omega
    have un : ∀ d k, rsF A q (d + 1) k = if q k then k else rsF A q d (k + 1) := fun _ _ => rfl
    rw [e6, un (6 - (k + 1)) k] at h1
    rw [show (6 : Int32) = nI 6 from rfl, if_pos (by rw [lt_nn (by omega) (by omega)]; exact hk), gd_t (ix_nI hk (by decide)), show (2 : Int32) = nI 2 from rfl, dv_n (by omega) (by decide) (by decide), grt_ok hA (by omega), Option.bind_some, ixn_nI (by omega), hA k hk]
    have main : ∀ s0 : Int32, s0 = rsG A k 0 → Ok (gX11_restingPair_29 (fun a => g a) (nI k) s0 u) (fun r => r = if rsF A q 6 0 = 6 then -9 else nI (rsF A q 6 0)) := by
      intro s0 hs0
      unfold gX11_restingPair_29
      rw [show (2 : Int32) = nI 2 from rfl, rm_n (by omega) (by decide) (by decide), letv_eq]
      refine loopS (fun n (s : Int32 × Int32) => gX11_restingPair_34_L (fun a => g a) (nI k) u n s.1 s.2) (fun g2 s => gX11_restingPair_34_Ls (fun a => g a) (nI k) u (fun a b => g2 (a, b)) s.1 s.2) (fun _ _ => rfl) _
        (fun c s => s.2 = nI (2 * c + k % 2) ∧ c ≤ 3 ∧ s.1 = rsG A k c) 3 ?_ ?_ 3 0 FU (s0, nI (k % 2)) rfl (by decide) ⟨by rw [show 2 * 0 + k % 2 = k % 2 by omega], by decide, hs0⟩
      · rintro c ⟨s1, s2⟩ g2 hc ⟨h0, _, h2⟩ hg2
        change s2 = _ at h0
        subst h0
        change s1 = _ at h2
        show Ok (gX11_restingPair_34_Ls (fun a => g a) (nI k) u (fun a b => g2 (a, b)) s1 (nI (2 * c + k % 2))) _
        unfold gX11_restingPair_34_Ls gX11_restingPair_63 gX11_restingPair_64
        have hs : rsG A k (c + 1) = if rsG A k c = 0 then 0 else if A (2 * c + k % 2) < A k then 0 else 1 := rfl
        have go : ∀ s : Int32, s = rsG A k (c + 1) → Ok (letv (nI (2 * c + k % 2) + 2) fun v => g2 (s, v)) (fun r => r = if rsF A q 6 0 = 6 then -9 else nI (rsF A q 6 0)) := by
          intro s hs
          rw [letv_eq, nI_p2 (by omega)]
          exact hg2 (s, nI (2 * c + k % 2 + 2)) ⟨by rw [show 2 * (c + 1) + k % 2 = 2 * c + k % 2 + 2 by omega], by omega, hs⟩
        rw [show (6 : Int32) = nI 6 from rfl, if_pos (by rw [lt_nn (by omega) (by omega)]; omega), h2]
        refine ok_if (fun c1 => go 0 ?_) (fun c1 => ?_)
        · rw [hs, if_pos c1]
        · rw [gd_t (ix_nI (by omega) (by decide)), gd_t (ix_nI hk (by decide)), ixn_nI (by omega), ixn_nI (by omega), hA _ (by omega), hA k hk]
          refine ok_if (fun c2 => go 0 ?_) (fun c2 => go 1 ?_)
          · rw [hs, if_neg c1, if_pos c2]
          · rw [hs, if_neg c1, if_neg c2]
      · rintro ⟨s1, s2⟩ g2 ⟨h0, _, h2⟩
        change s2 = _ at h0
        subst h0
        change s1 = _ at h2
        show Ok (gX11_restingPair_34_Ls (fun a => g a) (nI k) u (fun a b => g2 (a, b)) s1 (nI (2 * 3 + k % 2))) _
        unfold gX11_restingPair_34_Ls
        rw [show (6 : Int32) = nI 6 from rfl, if_neg (by rw [lt_nn (by omega) (by omega)]; omega), h2]
        refine ok_if (fun c1 => ?_) (fun c1 => ?_)
        · rw [if_neg (fun h => rsG_3.mpr ((hq k).mp h) c1)] at h1
          rw [letv_eq, nI_s (by omega)]
          exact hg (nI (k + 1)) ⟨rfl, by omega, h1⟩
        · rw [if_pos ((hq k).mpr (rsG_3.mp c1))] at h1
          refine ok_some.mpr ?_
          rw [h1, if_neg (by omega)]
    refine ok_if (fun c => main 1 ?_) (fun c => main 0 ?_)
    · show _ = bz _
      rw [bz_t c]
    · show _ = bz _
      rw [bz_f c]
  · rintro s g ⟨h0, _, h1⟩
    subst h0
    show Ok (gX11_restingPair_2_Ls u (fun a => g a) (nI 6)) _
    unfold gX11_restingPair_2_Ls
    rw [if_neg (by decide)]
    refine ok_some.mpr ?_
    rw [h1]
    rfl
theorem rsF_le {A : Nat → Int32} {q : Nat → Bool} : ∀ d k, k + d = 6 → rsF A q d k ≤ 6 := by
  intro d
  induction d with
  | zero => intro k _; exact Nat.le_refl _
  | succ d ih =>
    intro k hk
    show (if q k then k else rsF A q d (k + 1)) ≤ 6
    split
    · omega
    · exact ih (k + 1) (by omega)
def surS (A : Nat → Int32) : Int32 := imin (imin (grt A 0) (grt A 1)) (grt A 2)
theorem surest_C {u : Mm} {A : Nat → Int32} (hA : ∀ k, k < 6 → u 70 k = A k) : gX3_surestLoss u = some (surS A) := by
  have h : ∀ c, c < 3 → gX3_lossBy (nI c) 0 u = some (A (2 * c)) ∧ gX3_lossBy (nI c) 1 u = some (A (2 * c + 1)) := fun c hc => ⟨loss_ct hA hc (t := 0) (by decide), loss_ct hA hc (t := 1) (by decide)⟩
  unfold gX3_surestLoss gX3_surestLoss_b surS
  have h0 := h 0 (by decide)
  have h1 := h 1 (by decide)
  have h2 := h 2 (by decide)
  rw [show gX3_lossBy 0 0 u = _ from h0.1, Option.bind_some, show gX3_lossBy 0 1 u = _ from h0.2, Option.bind_some, grt_max, letv_eq, show (1 : Int32) = nI 1 from rfl]
  show gX3_surestLoss_18_Ls u (gX3_surestLoss_18_L u 3999) (grt A 0) (nI 1) = _
  unfold gX3_surestLoss_18_Ls
  rw [if_pos (by decide), h1.1, Option.bind_some, h1.2, Option.bind_some, grt_max, letv_eq, letv_eq, nI_s (by decide)]
  show gX3_surestLoss_18_Ls u (gX3_surestLoss_18_L u 3998) (imin (grt A 0) (grt A 1)) (nI 2) = _
  unfold gX3_surestLoss_18_Ls
  rw [if_pos (by decide), h2.1, Option.bind_some, h2.2, Option.bind_some, grt_max, letv_eq, letv_eq, nI_s (by decide)]
  show gX3_surestLoss_18_Ls u (gX3_surestLoss_18_L u 3997) (imin (imin (grt A 0) (grt A 1)) (grt A 2)) (nI 3) = _
  unfold gX3_surestLoss_18_Ls
  rw [if_neg (by decide)]
theorem surest_M {u : Mm} {A : Nat → Int32} (hA : ∀ k, k < 6 → u 97 k = A k) : gX11_game_87_L FU (grt A 0) 1 u = some (surS A, u) := by
  have step : ∀ (c fuel : Nat) (v : Int32), 1 ≤ c → c < 3 → gX11_game_87_L (fuel + 1) v (nI c) u = gX11_game_87_L fuel (imin v (grt A c)) (nI (c + 1)) u := by
    intro c fuel v h1 h3
    show gX11_game_87_Ls (gX11_game_87_L fuel) v (nI c) u = _
    unfold gX11_game_87_Ls gX11_game_113
    rw [show (3 : Int32) = nI 3 from rfl, if_pos (by rw [lt_nn (by omega) (by omega)]; exact h3), grt_ok hA h3, Option.bind_some, Option.bind_some, letv_eq, letv_eq, nI_s (by omega)]
    unfold imin
    split <;> rfl
  rw [show FU = 3998 + 1 + 1 from rfl, show (1 : Int32) = nI 1 from rfl, step 1 _ _ (by decide) (by decide), step 2 _ _ (by decide) (by decide)]
  show gX11_game_87_Ls (gX11_game_87_L 3997) _ (nI 3) u = _
  unfold gX11_game_87_Ls
  rw [if_neg (by decide)]
  rfl
theorem c_game (w : Int32) (u : Mm) (hR : R u) : Both (gX10_game w u) (gX11_game w) := by
  by_cases h3 : 0 ≤ w.toInt ∧ w.toInt ≤ 2
  · obtain ⟨A, hA⟩ : ∃ A : Nat → Int32, ∀ k, A k = lossF (env u) (flt u) k := ⟨_, fun _ => rfl⟩
    obtain ⟨q, hq⟩ : ∃ q : Nat → Bool, ∀ k, q k = true ↔ rsP A k := by
      refine ⟨fun k => @decide (rsP A k) (Classical.propDecidable _), fun k => ?_⟩
      exact @decide_eq_true_iff (rsP A k) (Classical.propDecidable _)
    obtain ⟨K, hK⟩ : ∃ K, rsF A q 6 0 = K := ⟨_, rfl⟩
    have hK6 : K ≤ 6 := by rw [← hK]; exact rsF_le 6 0 rfl
    refine Both_of (r := if w = 0 then (if K = 6 then -9 else nI (10 * (K / 2) + K % 2)) else if w = 1 then (if K = 6 then -9 else A K) else surS A) hR ?_ (fun u1 hR1 e1 e2 _ h74 => ?_)
    · unfold gX10_game gX10_game_b
      rw [if_neg (by rw [t_lt, i0]; omega), if_neg (by rw [t_lt, i2]; omega), ok_bind]
      refine (cbegin hR).mono ?_
      rintro v1 ⟨f1, m1⟩
      rw [ok_bind]
      refine (cgame (fun k _ => hA k) ⟨0, by decide, m1⟩ (flt_VF hR) (flt_8 u) (env_EB hR)).mono ?_
      rintro x ⟨q1, q2⟩
      have sm : Sm u x := Sm_K (f1.tr q1)
      by_cases w2 : w = 2
      · rw [if_pos w2, if_neg (by rw [w2]; decide), if_neg (by rw [w2]; decide), surest_C q2]
        exact ok_some.mpr ⟨rfl, sm⟩
      rw [if_neg w2, ok_bind]
      refine (steady_ok q2 hq).mono ?_
      intro r hr
      rw [hK] at hr
      by_cases w0 : w = 0
      · rw [if_pos w0, if_pos w0, hr]
        exact ok_some.mpr ⟨rfl, sm⟩
      rw [if_neg w0, if_neg w0]
      have w1 : w = 1 := by
        rw [t_eq, i0] at w0
        rw [t_eq, i2] at w2
        rw [t_eq, i1]
        omega
      rw [if_pos w1]
      by_cases c : K = 6
      · rw [if_pos c] at hr
        rw [if_pos c, hr, if_pos rfl]
        exact ok_some.mpr ⟨rfl, sm⟩
      · rw [if_neg c] at hr
        have h9 : ¬ nI (10 * (K / 2) + K % 2) = -9 := by
          intro e
          have := congrArg Int32.toInt e
          rw [t_nI (by omega), im9] at this
          omega
        rw [if_neg c, hr, if_neg h9, show (10 : Int32) = nI 10 from rfl, dv_n (by omega) (by decide) (by decide), rm_n (by omega) (by decide) (by decide), show (10 * (K / 2) + K % 2) / 10 = K / 2 by omega, show (10 * (K / 2) + K % 2) % 10 = K % 2 by omega, loss_ct q2 (by omega) (by omega), show 2 * (K / 2) + K % 2 = K by omega]
        exact ok_some.mpr ⟨rfl, sm⟩
    · have g3 := in_t (x := w) (a := 0) (b := 2) h3
      rw [← e1, ← e2] at hA
      unfold gX11_game gX11_game_b
      rw [letv_eq, g3, Option.bind_some, if_neg (by decide), ok_bind]
      refine (mgame (fun k _ => hA k) hR1).mono ?_
      rintro x ⟨q1, q2, q3⟩
      have sm := Sm_W q1 q2
      rw [ok_bind]
      refine (rest_ok q3 hq).mono ?_
      intro r hr
      rw [hK] at hr
      by_cases w0 : w = 0
      · rw [if_pos w0, if_pos w0]
        by_cases c : K = 6
        · rw [if_pos c] at hr
          rw [if_pos c, hr, if_pos (by decide)]
          exact ok_some.mpr ⟨rfl, sm⟩
        · rw [if_neg c] at hr
          rw [if_neg c, hr, if_neg (nI_pos (by omega)), show (2 : Int32) = nI 2 from rfl, dv_n (by omega) (by decide) (by decide), rm_n (by omega) (by decide) (by decide), cd_eq (K / 2) (by omega) (K % 2) (by omega)]
          exact ok_some.mpr ⟨rfl, sm⟩
      rw [if_neg w0, if_neg w0]
      by_cases w1 : w = 1
      · rw [if_pos w1, if_pos w1]
        by_cases c : K = 6
        · rw [if_pos c] at hr
          rw [if_pos c, hr, if_pos (by decide)]
          exact ok_some.mpr ⟨rfl, sm⟩
        · rw [if_neg c] at hr
          rw [if_neg c, hr, if_neg (nI_pos (by omega)), gd_t (ix_nI (by omega) (by decide)), ixn_nI (by omega), q3 K (by omega)]
          exact ok_some.mpr ⟨rfl, sm⟩
      rw [if_neg w1, if_neg w1, show (0 : Int32) = nI 0 from rfl, grt_ok q3 (by decide), Option.bind_some, surest_M q3]
      exact ok_some.mpr ⟨rfl, sm⟩
  · have g3 := in_f (x := w) (a := 0) (b := 2) h3
    refine Both_ref (k := 2) (r := -2) hR ?_ ?_
    · by_cases h0 : w.toInt < 0
      · simp only [gX10_game, gX10_game_b, gX10_game_9, lt_t (a := w) (b := 0) h0, rC2, bI_some, ↓reduceIte]
      · simp only [gX10_game, gX10_game_b, gX10_game_9, lt_f (a := w) (b := 0) h0, lt_t (a := 2) (b := w) (by rw [i2]; omega), rC2, bI_some, ↓reduceIte]
    · simp only [gX11_game, gX11_game_b, letv_eq, g3, Option.bind_some, ↓reduceIte, rM2, bI_some]
