/-! Calls: two, track. -/
def twV (i j a : Nat) : Int32 := nI (10000 * i + 1000 * j + a)
def twA (P : Nat → Nat → Nat → Bool) (i j : Nat) (k : Int32) : Nat → Nat → Int32
  | 0, _ => k
  | d + 1, a => if P i j a then twV i j a else twA P i j k d (a + 1)
def twB (P : Nat → Nat → Nat → Bool) (n i : Nat) (k : Int32) : Nat → Nat → Int32
  | 0, _ => k
  | d + 1, j => twA P i j (twB P n i k d (j + 1)) (n + 1) 0
def twC (P : Nat → Nat → Nat → Bool) (n : Nat) : Nat → Nat → Int32
  | 0, _ => -9
  | d + 1, i => twB P n i (twC P n d (i + 1)) 8 0
theorem twA_y {P : Nat → Nat → Nat → Bool} {i j d a : Nat} {k : Int32} (h : P i j a = true) : twA P i j k (d + 1) a = twV i j a := if_pos h
theorem twA_n {P : Nat → Nat → Nat → Bool} {i j d a : Nat} {k : Int32} (h : ¬ P i j a = true) : twA P i j k (d + 1) a = twA P i j k d (a + 1) := if_neg h
theorem twA_r {P : Nat → Nat → Nat → Bool} {i j : Nat} {k : Int32} (hi : i < 8) (hj : j < 8) (hk : k = -9 ∨ 0 ≤ k.toInt) : ∀ d a, a + d ≤ 100 → twA P i j k d a = -9 ∨ 0 ≤ (twA P i j k d a).toInt := by
  intro d
  induction d with
  | zero => intro a _; exact hk
  | succ d ih =>
    intro a ha
    by_cases h : P i j a = true
    · rw [twA_y h]
      unfold twV
      rw [t_nI (by omega)]
      exact Or.inr (by omega)
    · rw [twA_n h]; exact ih (a + 1) (by omega)
theorem twB_r {P : Nat → Nat → Nat → Bool} {n i : Nat} {k : Int32} (hn : n ≤ 40) (hi : i < 8) (hk : k = -9 ∨ 0 ≤ k.toInt) : ∀ d j, j + d = 8 → twB P n i k d j = -9 ∨ 0 ≤ (twB P n i k d j).toInt := by
  intro d
  induction d with
  | zero => intro j _; exact hk
  | succ d ih =>
    intro j hj
    exact twA_r hi (by omega) (ih (j + 1) (by omega)) (n + 1) 0 (by omega)
theorem twC_r {P : Nat → Nat → Nat → Bool} {n : Nat} (hn : n ≤ 40) : ∀ d i, i + d = 8 → twC P n d i = -9 ∨ 0 ≤ (twC P n d i).toInt := by
  intro d
  induction d with
  | zero => intro i _; exact Or.inl rfl
  | succ d ih =>
    intro i hi
    exact twB_r hn (by omega) (ih (i + 1) (by omega)) 8 0 rfl
theorem tw_v : ∀ i : Nat, i < 8 → ∀ j : Nat, j < 8 → ∀ a : Nat, a < 41 → (10000 * nI i + 1000 * nI j + nI a : Int32) = twV i j a := by decide +kernel
def TwP (u : Mm) (k1 k2 : Nat) (side ahead : Int32) (n : Nat) (P : Nat → Nat → Nat → Bool) : Prop := ∀ i, i < 8 → ∀ j, j < 8 → ∀ a, P i j a = true ↔ (nI a * u k1 i + (nI n - nI a) * u k1 j = side ∧ nI a * u k2 i + (nI n - nI a) * u k2 j = ahead)
theorem twoC {u : Mm} {side ahead : Int32} {n : Nat} {P : Nat → Nat → Nat → Bool} (hP : TwP u 4 5 side ahead n P) (hn : n ≤ 40) : gX0_layersFor 3 (nI n) side ahead u = some (twC P n 8 0) := by
  have main : Ok (gX0_layersFor 3 (nI n) side ahead u) (fun r => r = twC P n 8 0) := by
    unfold gX0_layersFor gX0_layersFor_b
    refine loopS (fun m (s : Int32) => gX0_layersFor_3_L 3 (nI n) side ahead u m s) (fun g s => gX0_layersFor_3_Ls 3 (nI n) side ahead u (fun a => g a) s) (fun _ _ => rfl) _
      (fun i s => s = nI i ∧ i ≤ 8 ∧ twC P n 8 0 = twC P n (8 - i) i) 8 ?_ ?_ 8 0 FU 0 rfl (by decide) ⟨rfl, by decide, rfl⟩
    · rintro i s g hi ⟨h0, _, h1⟩ hg
      subst h0
      show Ok (gX0_layersFor_3_Ls 3 (nI n) side ahead u (fun a => g a) (nI i)) _
      unfold gX0_layersFor_3_Ls
      have e1 : 8 - i = (8 - (i + 1)) + 1 := by omega
      rw [e1] at h1
      rw [if_pos (show nI i < 8 by rw [show (8 : Int32) = nI 8 from rfl, lt_nn (by omega) (by omega)]; exact hi)]
      refine loopS (fun m (s : Int32) => gX0_layersFor_13_L 3 (fun a => g a) (nI n) side ahead (nI i) u m s) (fun g2 s => gX0_layersFor_13_Ls 3 (fun a => g a) (nI n) side ahead (nI i) u (fun a => g2 a) s) (fun _ _ => rfl) _
        (fun j s => s = nI j ∧ j ≤ 8 ∧ twC P n 8 0 = twB P n i (twC P n (8 - (i + 1)) (i + 1)) (8 - j) j) 8 ?_ ?_ 8 0 FU 0 rfl (by decide) ⟨rfl, by decide, h1⟩
      · rintro j s g2 hj ⟨h0, _, h2⟩ hg2
        subst h0
        show Ok (gX0_layersFor_13_Ls 3 (fun a => g a) (nI n) side ahead (nI i) u (fun a => g2 a) (nI j)) _
        unfold gX0_layersFor_13_Ls
        have e2 : 8 - j = (8 - (j + 1)) + 1 := by omega
        rw [e2] at h2
        rw [if_pos (show nI j < 8 by rw [show (8 : Int32) = nI 8 from rfl, lt_nn (by omega) (by omega)]; exact hj)]
        refine loopS (fun m (s : Int32) => gX0_layersFor_23_L 3 (fun a => g a) (fun a => g2 a) (nI n) side ahead (nI i) (nI j) u m s) (fun g3 s => gX0_layersFor_23_Ls 3 (fun a => g a) (fun a => g2 a) (nI n) side ahead (nI i) (nI j) u (fun a => g3 a) s) (fun _ _ => rfl) _
          (fun a s => s = nI a ∧ a ≤ n + 1 ∧ twC P n 8 0 = twA P i j (twB P n i (twC P n (8 - (i + 1)) (i + 1)) (8 - (j + 1)) (j + 1)) (n + 1 - a) a) (n + 1) ?_ ?_ (n + 1) 0 FU 0 (by omega) (by unfold FU; omega) ⟨rfl, by omega, h2⟩
        · rintro a s g3 ha ⟨h0, _, h3⟩ hg3
          subst h0
          show Ok (gX0_layersFor_23_Ls 3 (fun a => g a) (fun a => g2 a) (nI n) side ahead (nI i) (nI j) u (fun a => g3 a) (nI a)) _
          unfold gX0_layersFor_23_Ls
          have e3 : n + 1 - a = (n + 1 - (a + 1)) + 1 := by omega
          rw [e3] at h3
          rw [if_neg (by rw [lt_nn (by omega) (by omega)]; omega), letv_eq, gd_t (ix_nI hi (by decide)), gd_t (ix_nI hj (by decide)), ixn_nI (by omega), ixn_nI (by omega), gd_t (ix_nI hi (by decide)), gd_t (ix_nI hj (by decide)), tw_v i hi j hj a (by omega)]
          have hp := hP i hi j hj a
          have pass : ¬ P i j a = true → Ok (letv (nI a + 1) fun v => g3 v) (fun r => r = twC P n 8 0) := by
            intro h
            rw [twA_n h] at h3
            rw [letv_eq, nI_s (by omega)]
            exact hg3 (nI (a + 1)) ⟨rfl, by omega, h3⟩
          refine ok_if (fun c1 => ok_if (fun c2 => ?_) (fun c2 => pass (fun h => c2 (hp.mp h).2))) (fun c1 => pass (fun h => c1 (hp.mp h).1))
          rw [twA_y (hp.mpr ⟨c1, c2⟩)] at h3
          exact ok_some.mpr h3.symm
        · rintro s g3 ⟨h0, _, h3⟩
          subst h0
          show Ok (gX0_layersFor_23_Ls 3 (fun a => g a) (fun a => g2 a) (nI n) side ahead (nI i) (nI j) u (fun a => g3 a) (nI (n + 1))) _
          unfold gX0_layersFor_23_Ls
          rw [if_pos (by rw [lt_nn (by omega) (by omega)]; omega), letv_eq, nI_s (by omega)]
          rw [show n + 1 - (n + 1) = 0 by omega] at h3
          exact hg2 (nI (j + 1)) ⟨rfl, by omega, h3⟩
      · rintro s g2 ⟨h0, _, h2⟩
        subst h0
        show Ok (gX0_layersFor_13_Ls 3 (fun a => g a) (nI n) side ahead (nI i) u (fun a => g2 a) (nI 8)) _
        unfold gX0_layersFor_13_Ls
        rw [if_neg (by decide), letv_eq, nI_s (by omega)]
        exact hg (nI (i + 1)) ⟨rfl, by omega, h2⟩
    · rintro s g ⟨h0, _, h1⟩
      subst h0
      show Ok (gX0_layersFor_3_Ls 3 (nI n) side ahead u (fun a => g a) (nI 8)) _
      unfold gX0_layersFor_3_Ls
      rw [if_neg (by decide)]
      exact ok_some.mpr h1.symm
  obtain ⟨r, e, h⟩ := main
  rw [e, h]
theorem twoM {u : Mm} {side ahead : Int32} {n : Nat} {P : Nat → Nat → Nat → Bool} (hP : TwP u 75 76 side ahead n P) (hn : n ≤ 40) : gX11_twoBy side ahead (nI n) u = some (twC P n 8 0) := by
  have main : Ok (gX11_twoBy side ahead (nI n) u) (fun r => r = twC P n 8 0) := by
    unfold gX11_twoBy gX11_twoBy_b
    refine loopS (fun m (s : Int32) => gX11_twoBy_3_L side ahead (nI n) u m s) (fun g s => gX11_twoBy_3_Ls side ahead (nI n) u (fun a => g a) s) (fun _ _ => rfl) _
      (fun i s => s = nI i ∧ i ≤ 8 ∧ twC P n 8 0 = twC P n (8 - i) i) 8 ?_ ?_ 8 0 FU 0 rfl (by decide) ⟨rfl, by decide, rfl⟩
    · rintro i s g hi ⟨h0, _, h1⟩ hg
      subst h0
      show Ok (gX11_twoBy_3_Ls side ahead (nI n) u (fun a => g a) (nI i)) _
      unfold gX11_twoBy_3_Ls
      have e1 : 8 - i = (8 - (i + 1)) + 1 := by omega
      rw [e1] at h1
      rw [if_pos (show nI i < 8 by rw [show (8 : Int32) = nI 8 from rfl, lt_nn (by omega) (by omega)]; exact hi)]
      refine loopS (fun m (s : Int32) => gX11_twoBy_13_L (fun a => g a) side ahead (nI n) (nI i) u m s) (fun g2 s => gX11_twoBy_13_Ls (fun a => g a) side ahead (nI n) (nI i) u (fun a => g2 a) s) (fun _ _ => rfl) _
        (fun j s => s = nI j ∧ j ≤ 8 ∧ twC P n 8 0 = twB P n i (twC P n (8 - (i + 1)) (i + 1)) (8 - j) j) 8 ?_ ?_ 8 0 FU 0 rfl (by decide) ⟨rfl, by decide, h1⟩
      · rintro j s g2 hj ⟨h0, _, h2⟩ hg2
        subst h0
        show Ok (gX11_twoBy_13_Ls (fun a => g a) side ahead (nI n) (nI i) u (fun a => g2 a) (nI j)) _
        unfold gX11_twoBy_13_Ls
        have e2 : 8 - j = (8 - (j + 1)) + 1 := by omega
        rw [e2] at h2
        rw [if_pos (show nI j < 8 by rw [show (8 : Int32) = nI 8 from rfl, lt_nn (by omega) (by omega)]; exact hj)]
        refine loopS (fun m (s : Int32) => gX11_twoBy_23_L (fun a => g a) (fun a => g2 a) side ahead (nI n) (nI i) (nI j) u m s) (fun g3 s => gX11_twoBy_23_Ls (fun a => g a) (fun a => g2 a) side ahead (nI n) (nI i) (nI j) u (fun a => g3 a) s) (fun _ _ => rfl) _
          (fun a s => s = nI a ∧ a ≤ n + 1 ∧ twC P n 8 0 = twA P i j (twB P n i (twC P n (8 - (i + 1)) (i + 1)) (8 - (j + 1)) (j + 1)) (n + 1 - a) a) (n + 1) ?_ ?_ (n + 1) 0 FU 0 (by omega) (by unfold FU; omega) ⟨rfl, by omega, h2⟩
        · rintro a s g3 ha ⟨h0, _, h3⟩ hg3
          subst h0
          show Ok (gX11_twoBy_23_Ls (fun a => g a) (fun a => g2 a) side ahead (nI n) (nI i) (nI j) u (fun a => g3 a) (nI a)) _
          unfold gX11_twoBy_23_Ls gX11_twoBy_61
          have e3 : n + 1 - a = (n + 1 - (a + 1)) + 1 := by omega
          rw [e3] at h3
          rw [if_neg (by rw [lt_nn (by omega) (by omega)]; omega), gd_t (ix_nI hi (by decide)), gd_t (ix_nI hj (by decide)), ixn_nI (by omega), ixn_nI (by omega), gd_t (ix_nI hi (by decide)), gd_t (ix_nI hj (by decide)), tw_v i hi j hj a (by omega)]
          have hp := hP i hi j hj a
          have pass : ¬ P i j a = true → Ok (letv (nI a + 1) fun v => g3 v) (fun r => r = twC P n 8 0) := by
            intro h
            rw [twA_n h] at h3
            rw [letv_eq, nI_s (by omega)]
            exact hg3 (nI (a + 1)) ⟨rfl, by omega, h3⟩
          refine ok_if (fun c1 => ?_) (fun c1 => ?_)
          · rw [if_neg (by decide)]
            refine ok_if (fun c2 => ?_) (fun c2 => pass (fun h => c2 (hp.mp h).2))
            rw [twA_y (hp.mpr ⟨c1, c2⟩)] at h3
            exact ok_some.mpr h3.symm
          · rw [if_pos rfl]
            exact pass (fun h => c1 (hp.mp h).1)
        · rintro s g3 ⟨h0, _, h3⟩
          subst h0
          show Ok (gX11_twoBy_23_Ls (fun a => g a) (fun a => g2 a) side ahead (nI n) (nI i) (nI j) u (fun a => g3 a) (nI (n + 1))) _
          unfold gX11_twoBy_23_Ls
          rw [if_pos (by rw [lt_nn (by omega) (by omega)]; omega), letv_eq, nI_s (by omega)]
          rw [show n + 1 - (n + 1) = 0 by omega] at h3
          exact hg2 (nI (j + 1)) ⟨rfl, by omega, h3⟩
      · rintro s g2 ⟨h0, _, h2⟩
        subst h0
        show Ok (gX11_twoBy_13_Ls (fun a => g a) side ahead (nI n) (nI i) u (fun a => g2 a) (nI 8)) _
        unfold gX11_twoBy_13_Ls
        rw [if_neg (by decide), letv_eq, nI_s (by omega)]
        exact hg (nI (i + 1)) ⟨rfl, by omega, h2⟩
    · rintro s g ⟨h0, _, h1⟩
      subst h0
      show Ok (gX11_twoBy_3_Ls side ahead (nI n) u (fun a => g a) (nI 8)) _
      unfold gX11_twoBy_3_Ls
      rw [if_neg (by decide)]
      exact ok_some.mpr h1.symm
  obtain ⟨r, e, h⟩ := main
  rw [e, h]
def fwF (W : Nat → Int32) : Nat → Nat → Nat
  | 0, _ => 41
  | d + 1, n => if W n = -9 then fwF W d (n + 1) else n
theorem fwF_y {W : Nat → Int32} {d n : Nat} (h : W n = -9) : fwF W (d + 1) n = fwF W d (n + 1) := if_pos h
theorem fwF_n {W : Nat → Int32} {d n : Nat} (h : ¬ W n = -9) : fwF W (d + 1) n = n := if_neg h
theorem nI_n9 {n : Nat} (h : n < 2147483648) : ¬ nI n = -9 := by
  intro e
  have := congrArg Int32.toInt e
  rw [t_nI h, im9] at this
  omega
theorem fw_C {u : Mm} {a b : Int32} {W : Nat → Int32} (hW : ∀ n, n ≤ 40 → gX0_layersFor 3 (nI n) a b u = some (W n)) : gX0_fewestSteps 3 a b u = some (if fwF W 41 0 = 41 then -9 else nI (fwF W 41 0)) := by
  have main : Ok (gX0_fewestSteps 3 a b u) (fun r => r = if fwF W 41 0 = 41 then -9 else nI (fwF W 41 0)) := by
    unfold gX0_fewestSteps gX0_fewestSteps_b
    refine loopS (fun m (s : Int32) => gX0_fewestSteps_2_L 3 a b u m s) (fun g s => gX0_fewestSteps_2_Ls 3 a b u (fun a => g a) s) (fun _ _ => rfl) _
      (fun n s => s = nI n ∧ n ≤ 41 ∧ fwF W 41 0 = fwF W (41 - n) n) 41 ?_ ?_ 41 0 FU 0 rfl (by decide) ⟨rfl, by decide, rfl⟩
    · rintro n s g hn ⟨h0, _, h1⟩ hg
      subst h0
      show Ok (gX0_fewestSteps_2_Ls 3 a b u (fun a => g a) (nI n)) _
      unfold gX0_fewestSteps_2_Ls
      have e1 : 41 - n = (41 - (n + 1)) + 1 := by omega
      rw [e1] at h1
      rw [show (40 : Int32) = nI 40 from rfl, if_neg (by rw [lt_nn (by omega) (by omega)]; omega), hW n (by omega), Option.bind_some]
      refine ok_if (fun c => ?_) (fun c => ?_)
      · rw [fwF_y c] at h1
        rw [letv_eq, nI_s (by omega)]
        exact hg (nI (n + 1)) ⟨rfl, by omega, h1⟩
      · rw [fwF_n c] at h1
        refine ok_some.mpr ?_
        rw [h1, if_neg (by omega)]
    · rintro s g ⟨h0, _, h1⟩
      subst h0
      show Ok (gX0_fewestSteps_2_Ls 3 a b u (fun a => g a) (nI 41)) _
      unfold gX0_fewestSteps_2_Ls
      rw [if_pos (by decide)]
      refine ok_some.mpr ?_
      rw [h1]
      rfl
  obtain ⟨r, e, h⟩ := main
  rw [e, h]
theorem fwF_le {W : Nat → Int32} : ∀ d n, n + d = 41 → fwF W d n ≤ 41 ∧ (fwF W d n < 41 → ¬ W (fwF W d n) = -9) := by
  intro d
  induction d with
  | zero => intro n _; exact ⟨Nat.le_refl _, fun h => absurd h (Nat.lt_irrefl _)⟩
  | succ d ih =>
    intro n hn
    by_cases c : W n = -9
    · rw [fwF_y c]; exact ih (n + 1) (by omega)
    · rw [fwF_n c]; exact ⟨by omega, fun _ => c⟩
theorem m99 : (-99 : Int32).toInt = -99 := rfl
theorem c_two (a b w : Int32) (u : Mm) (hR : R u) : Both (gX10_two a b w u) (gX11_two a b w) := by
  obtain ⟨c1, c2, c3, c4, c5, c6, c7, c8, c9⟩ := hR.wc
  by_cases h1 : a.toInt < -99 ∨ b.toInt < 0
  · refine Both_ref (k := 4) (r := -4) hR ?_ ?_
    · by_cases h2 : a.toInt < -99
      · simp only [gX10_two, gX10_two_b, gX10_two_10, lt_t (a := a) (b := -99) h2, ↓reduceIte, rC4, bI_some]
      · simp only [gX10_two, gX10_two_b, gX10_two_10, lt_f (a := a) (b := -99) h2, lt_t (a := b) (b := 0) (by rw [i0]; omega), ↓reduceIte, rC4, bI_some]
    · by_cases h2 : a.toInt < -99
      · simp only [gX11_two, gX11_two_b, gX11_two_15, gX11_two_43, letv_eq, m4lt, lt_t (a := a) (b := -99) h2, ↓reduceIte, rM4, bI_some]
      · simp only [gX11_two, gX11_two_b, gX11_two_15, gX11_two_43, letv_eq, m4lt, lt_f (a := a) (b := -99) h2, lt_t (a := b) (b := 0) (by rw [i0]; omega), ↓reduceIte, rM4, bI_some]
  have a0 := lt_f (a := a) (b := -99) (by rw [m99]; omega)
  have b0 := lt_f (a := b) (b := 0) (by rw [i0]; omega)
  by_cases h2 : 99 < a.toInt ∨ 99 < b.toInt
  · refine Both_ref (k := 6) (r := -6) hR ?_ ?_
    · by_cases h3 : 99 < a.toInt
      · simp only [gX10_two, gX10_two_b, gX10_two_29, a0, b0, lt_t (a := 99) (b := a) h3, ↓reduceIte, rC6, bI_some]
      · simp only [gX10_two, gX10_two_b, gX10_two_29, a0, b0, lt_f (a := 99) (b := a) h3, lt_t (a := 99) (b := b) (by rw [i99]; omega), ↓reduceIte, rC6, bI_some]
    · by_cases h3 : 99 < a.toInt
      · simp only [gX11_two, gX11_two_b, gX11_two_32, gX11_two_43, letv_eq, m6lt, a0, b0, lt_t (a := 99) (b := a) h3, ↓reduceIte, rM6, bI_some]
      · simp only [gX11_two, gX11_two_b, gX11_two_32, gX11_two_43, letv_eq, m6lt, a0, b0, lt_f (a := 99) (b := a) h3, lt_t (a := 99) (b := b) (by rw [i99]; omega), ↓reduceIte, rM6, bI_some]
  have a9 := lt_f (a := 99) (b := a) (by rw [i99]; omega)
  have b9 := lt_f (a := 99) (b := b) (by rw [i99]; omega)
  by_cases h3 : 0 ≤ w.toInt ∧ w.toInt ≤ (1 : Int32).toInt
  · obtain ⟨P, hPd⟩ : ∃ P : Nat → Nat → Nat → Nat → Bool, ∀ n i j x, P n i j x = true ↔ (nI x * u 4 i + (nI n - nI x) * u 4 j = a ∧ nI x * u 5 i + (nI n - nI x) * u 5 j = b) := by
      refine ⟨fun n i j x => @decide (nI x * u 4 i + (nI n - nI x) * u 4 j = a ∧ nI x * u 5 i + (nI n - nI x) * u 5 j = b) (Classical.propDecidable _), fun n i j x => ?_⟩
      exact @decide_eq_true_iff _ (Classical.propDecidable _)
    obtain ⟨W, hW⟩ : ∃ W : Nat → Int32, ∀ n, W n = twC (P n) n 8 0 := ⟨_, fun _ => rfl⟩
    have wC : ∀ n, n ≤ 40 → gX0_layersFor 3 (nI n) a b u = some (W n) := fun n hn => by
      rw [hW]; exact twoC (P := P n) (fun i _ j _ x => hPd n i j x) hn
    have wr : ∀ n, n ≤ 40 → W n = -9 ∨ 0 ≤ (W n).toInt := fun n hn => by rw [hW]; exact twC_r hn 8 0 rfl
    obtain ⟨k, hk⟩ : ∃ k, fwF W 41 0 = k := ⟨_, rfl⟩
    have hk2 := fwF_le (W := W) 41 0 rfl
    rw [hk] at hk2
    refine Both_of (r := if k = 41 then -9 else if w = 0 then nI k else W k) hR ?_ (fun u1 hR1 e1 e2 hrl h74 => ?_)
    · unfold gX10_two gX10_two_b
      simp only [a0, b0, a9, b9, lt_f (a := w) (b := 0) (by rw [i0]; omega), lt_f (a := 1) (b := w) (by omega), ↓reduceIte]
      rw [fw_C wC, hk, Option.bind_some]
      by_cases ck : k = 41
      · rw [if_pos ck, if_pos ck]
        refine ok_if (fun _ => ok_some.mpr ⟨rfl, Sm.rf u⟩) (fun _ => ?_)
        rw [if_pos rfl]
        exact ok_some.mpr ⟨rfl, Sm.rf u⟩
      · rw [if_neg ck, if_neg ck]
        by_cases w0 : w = 0
        · rw [if_pos w0, if_pos w0]
          exact ok_some.mpr ⟨rfl, Sm.rf u⟩
        · rw [if_neg w0, if_neg w0, if_neg (nI_n9 (by omega)), wC k (by omega), Option.bind_some]
          exact ok_some.mpr ⟨rfl, Sm.rf u⟩
    · have c7' : ∀ i, i < 8 → u1 75 i = u 4 i ∧ u1 76 i = u 5 i := fun i hi => by
        rw [hrl 75 (by decide), hrl 76 (by decide)]
        exact ⟨(c7 i hi).1.symm, (c7 i hi).2.1.symm⟩
      have wM : ∀ n, n ≤ 40 → gX11_twoBy a b (nI n) (thr u1) = some (W n) := fun n hn => by
        rw [hW]
        refine twoM (P := P n) (fun i hi j hj x => ?_) hn
        rw [thr_c (by decide), thr_c (by decide), (c7' i hi).1, (c7' i hi).2, (c7' j hj).1, (c7' j hj).2]
        exact hPd n i j x
      unfold gX11_two gX11_two_b gX11_two_43
      rw [letv_eq]
      simp only [a0, b0, a9, b9, ↓reduceIte]
      rw [wb_t h3, Option.bind_some, if_neg (by decide)]
      have sm : Sm u1 (thr u1) := Sm_thrown u1 0
      refine loopS (fun m (s : Int32 × Mm) => gX11_two_60_L a b w m s.1 s.2) (fun g s => gX11_two_60_Ls a b w (fun x y => g (x, y)) s.1 s.2) (fun _ _ => rfl) _
        (fun n s => s.1 = nI n ∧ n ≤ 41 ∧ s.2 = thr u1 ∧ k = fwF W (41 - n) n) 41 ?_ ?_ 41 0 FU (0, thr u1) rfl (by decide) ⟨rfl, by decide, rfl, hk.symm⟩
      · rintro n ⟨x1, x⟩ g hn ⟨h0, _, h5, h6⟩ hg
        change x1 = nI n at h0
        subst h0
        change x = thr u1 at h5
        subst h5
        show Ok (gX11_two_60_Ls a b w (fun x y => g (x, y)) (nI n) (thr u1)) _
        unfold gX11_two_60_Ls
        have e1 : 41 - n = (41 - (n + 1)) + 1 := by omega
        rw [e1] at h6
        rw [show (40 : Int32) = nI 40 from rfl, if_neg (by rw [lt_nn (by omega) (by omega)]; omega), wM n (by omega), Option.bind_some]
        have hneg := neg_9 (wr n (by omega))
        refine ok_if (fun c => ?_) (fun c => ?_)
        · rw [fwF_y (hneg.mp c)] at h6
          rw [letv_eq, nI_s (by omega)]
          exact hg (nI (n + 1), thr u1) ⟨rfl, by omega, rfl, h6⟩
        · rw [fwF_n (fun h => c (hneg.mpr h))] at h6
          rw [if_neg (show ¬ k = 41 by omega), h6]
          by_cases w0 : w = 0
          · rw [if_pos w0, if_pos w0]
            exact ok_some.mpr ⟨rfl, sm⟩
          · rw [if_neg w0, if_neg w0]
            exact ok_some.mpr ⟨rfl, sm⟩
      · rintro ⟨x1, x⟩ g ⟨h0, _, h5, h6⟩
        change x1 = nI 41 at h0
        subst h0
        change x = thr u1 at h5
        subst h5
        show Ok (gX11_two_60_Ls a b w (fun x y => g (x, y)) (nI 41) (thr u1)) _
        unfold gX11_two_60_Ls
        rw [if_pos (by decide), if_pos (show k = 41 from h6)]
        exact ok_some.mpr ⟨rfl, sm⟩
  · refine Both_ref (k := 2) (r := -2) hR ?_ ?_
    · by_cases h0 : w.toInt < 0
      · simp only [gX10_two, gX10_two_b, gX10_two_45, a0, b0, a9, b9, lt_t (a := w) (b := 0) h0, rC2, bI_some, ↓reduceIte]
      · simp only [gX10_two, gX10_two_b, gX10_two_45, a0, b0, a9, b9, lt_f (a := w) (b := 0) h0, lt_t (a := 1) (b := w) (by omega), rC2, bI_some, ↓reduceIte]
    · simp only [gX11_two, gX11_two_b, gX11_two_43, letv_eq, a0, b0, a9, b9, ↓reduceIte, wb_f h3, Option.bind_some, m2lt, rM2, bI_some]
