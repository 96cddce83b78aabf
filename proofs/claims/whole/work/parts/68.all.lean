/-! The letters told: all statements read. -/
def isL (v : Int32) : Bool := decide (v = 97 ∨ v = 98 ∨ v = 102 ∨ v = 104 ∨ v = 108 ∨ v = 114 ∨ v = 119)
theorem isL_p {v : Int32} : isL v = true ↔ (v = 97 ∨ v = 98 ∨ v = 102 ∨ v = 104 ∨ v = 108 ∨ v = 114 ∨ v = 119) := by
  unfold isL
  exact decide_eq_true_iff
theorem letter_t {v : Int32} (h : isL v = true) : gX11_isLetter v = some 1 := by
  rcases isL_p.mp h with h | h | h | h | h | h | h <;> rw [h] <;> rfl
theorem letter_f {v : Int32} (h : ¬ isL v = true) : gX11_isLetter v = some 0 := by
  rw [isL_p] at h
  unfold gX11_isLetter gX11_isLetter_b
  rw [if_neg (fun e => h (by simp [e])), if_neg (fun e => h (by simp [e])), if_neg (fun e => h (by simp [e])), if_neg (fun e => h (by simp [e])), if_neg (fun e => h (by simp [e])), if_neg (fun e => h (by simp [e])), if_neg (fun e => h (by simp [e]))]
def TDj (x : Nat → Int32) (w : Mm) (j : Nat) : Prop := w 86 j = nI (pos x j) ∧ w 87 j = x (pos x j) ∧ VAL x w j (pos x j)
theorem VAL.keep {x : Nat → Int32} {w w' : Mm} {j p : Nat} (h : VAL x w j p) (h1 : ∀ s, 9 * j ≤ s → s < 9 * j + 9 → w' 88 s = w 88 s) (h2 : w' 89 j = w 89 j) : VAL x w' j p := by
  obtain ⟨a1, a2, a3, a4, a5, a6, a7⟩ := h
  unfold VAL
  rw [h1 (9 * j) (by omega) (by omega), h1 (9 * j + 1) (by omega) (by omega), h1 (9 * j + 2) (by omega) (by omega), h1 (9 * j + 3) (by omega) (by omega), h1 (9 * j + 4) (by omega) (by omega), h2]
  refine ⟨a1, a2, a3, a4, a5, a6, fun e => ⟨(a7 e).1, fun k hk => ?_⟩⟩
  have := dg_le x 9 (p + 1)
  rw [h1 _ (by omega) (by omega)]
  exact (a7 e).2 k hk
/-- the frame of the reading -/
def FrL (u w : Mm) : Prop := (∀ c, c ≠ 74 → c ≠ 86 → c ≠ 87 → c ≠ 88 → c ≠ 89 → w c = u c) ∧ ∀ j, j ≠ 24 → j ≠ 25 → j ≠ 26 → w 74 j = u 74 j
theorem FrL.tr {u v w : Mm} (h1 : FrL u v) (h2 : FrL v w) : FrL u w := ⟨fun c a b d e f => (h2.1 c a b d e f).trans (h1.1 c a b d e f), fun j a b d => (h2.2 j a b d).trans (h1.2 j a b d)⟩
theorem stat_M {u : Mm} {x : Nat → Int32} {n i p : Nat} (hL : LtM u x n) (hp : p ≤ 96) (hi : i < 49) (h26 : u 74 26 = nI i) (hS : RS u (p, true)) : Ok (gX11_readStatement u) (fun u' => FrL u u' ∧ (∀ j, j ≠ i → u' 86 j = u 86 j ∧ u' 87 j = u 87 j ∧ u' 89 j = u 89 j) ∧ (∀ s, (s < 9 * i ∨ 9 * i + 9 ≤ s) → u' 88 s = u 88 s) ∧ u' 74 26 = nI (i + 1) ∧ RS u' (nxE (EN x p)) ∧ ((EN x p).2 = true → u' 86 i = nI p ∧ u' 87 i = x p ∧ VAL x u' i p)) := by
  have e24 : u 74 24 = nI p := hS.1
  unfold gX11_readStatement gX11_readStatement_b
  rw [letv_eq, h26, here_M hL (by omega) e24, Option.bind_some, letv_eq, gd_t (ix_nI hi (by decide)), letv_eq, gd_t (ix_nI hi (by decide)), letv_eq, ixn_nI (by omega), e24, show (9 : Int32) * nI i = nI (9 * i) from nI_m (a := 9) (by omega) (by omega) (by omega)]
  generalize hv : stm (stm u 86 i (nI p)) 87 i (x p) = v
  have v74 : v 74 = u 74 := by rw [← hv, stm_c (by decide), stm_c (by decide)]
  have v86 : v 86 i = nI p := by rw [← hv, stm_c (by decide), stm_r]
  have v87 : v 87 i = x p := by rw [← hv, stm_r]
  have vo : ∀ c, c ≠ 86 → c ≠ 87 → v c = u c := fun c a b => by rw [← hv, stm_c b, stm_c a]
  have v6 : ∀ j, j ≠ i → v 86 j = u 86 j := fun j hj => by rw [← hv, stm_c (by decide), stm_s hj]
  have v7 : ∀ j, j ≠ i → v 87 j = u 87 j := fun j hj => by rw [← hv, stm_s hj, stm_c (by decide)]
  have fin : ∀ s0 s1 : Int32, ∀ y : Mm, (∀ c, c ≠ 74 → y c = v c) → (∀ j, j ≠ 25 → y 74 j = v 74 j) → RS (stm y 74 24 (s1 + s0)) (if isL (x p) = true then (p + 1, true) else (p, false)) → Ok (gX11_readStatement_72 (nI i) (x p) (nI (9 * i)) s0 s1 y) (fun u' => FrL u u' ∧ (∀ j, j ≠ i → u' 86 j = u 86 j ∧ u' 87 j = u 87 j ∧ u' 89 j = u 89 j) ∧ (∀ s, (s < 9 * i ∨ 9 * i + 9 ≤ s) → u' 88 s = u 88 s) ∧ u' 74 26 = nI (i + 1) ∧ RS u' (nxE (EN x p)) ∧ ((EN x p).2 = true → u' 86 i = nI p ∧ u' 87 i = x p ∧ VAL x u' i p)) := by
    intro s0 s1 y hy hj hr
    have hLy : LtM y x n := hL.fr ((hj 23 (by decide)).trans (by rw [v74])) ((hy 85 (by decide)).trans (vo 85 (by decide) (by decide)))
    refine (stat_72 hLy hp hi ((hj 26 (by decide)).trans (by rw [v74]; exact h26)) hr ?_).mono ?_
    · by_cases c : isL (x p) = true
      · rw [if_pos (isL_p.mp c)]
        exact if_pos c
      · rw [if_neg (fun h => c (isL_p.mpr h))]
        exact if_neg c
    · rintro w ⟨k1, k2, k3, k4, k5, k6, k7⟩
      have k1' : ∀ c, c ≠ 74 → c ≠ 88 → c ≠ 89 → w c = v c := fun c a b d => (k1 c a b d).trans (hy c a)
      refine ⟨⟨fun c a b d e f => (k1' c a e f).trans (vo c b d), fun j a b d => (k2 j a b d).trans ((hj j b).trans (by rw [v74]))⟩, fun j hji => ⟨?_, ?_, ?_⟩, fun s hs => ?_, k5, k6, fun hh => ⟨?_, ?_, k7 hh⟩⟩
      · rw [k1' 86 (by decide) (by decide) (by decide)]; exact v6 j hji
      · rw [k1' 87 (by decide) (by decide) (by decide)]; exact v7 j hji
      · rw [k4 j hji, hy 89 (by decide), vo 89 (by decide) (by decide)]
      · rw [k3 s hs, hy 88 (by decide), vo 88 (by decide) (by decide)]
      · rw [k1' 86 (by decide) (by decide) (by decide)]; exact v86
      · rw [k1' 87 (by decide) (by decide) (by decide)]; exact v87
  rw [if_pos (show v 74 25 = 0 by rw [v74]; exact hS.2)]
  by_cases c : isL (x p) = true
  · rw [letter_t c, Option.bind_some, if_neg (by decide)]
    unfold gX11_readStatement_52
    rw [gd_t (Or.inl rfl), letv_eq, stm_r, if_pos rfl, stm_s (by decide), v74, e24]
    refine fin 1 (nI p) (stm v 74 25 0) (fun c a => stm_c a) (fun j a => stm_s a) ?_
    rw [if_pos c, nI_s (by omega)]
    exact ⟨stm_r, (stm_s (by decide)).trans stm_r⟩
  · rw [letter_f c, Option.bind_some, if_pos rfl]
    unfold gX11_readStatement_47 gX11_readStatement_52
    rw [gd_t (Or.inr rfl), letv_eq, stm_r, if_neg (by decide), stm_s (by decide), v74, e24]
    refine fin 0 (nI p) (stm v 74 25 1) (fun c a => stm_c a) (fun j a => stm_s a) ?_
    rw [if_neg c, Int32.add_zero]
    exact ⟨stm_r, (stm_s (by decide)).trans stm_r⟩
theorem read_all {u : Mm} {x : Nat → Int32} {n N : Nat} {P : Int32 × Mm → Prop} (hL : LtM u x n) (hS : RS u (0, true)) (h26 : u 74 26 = 0) (hN : N ≤ 32) (hg : ∀ j, j < N → good x n j) (hb : ¬ good x n N)
    (kg : ∀ w, FrL u w → RS w (pos x N, true) → w 74 26 = nI N → (∀ j, j < N → TDj x w j) → ¬ (N = 0 ∨ pos x N < n) → Ok (gX11_land_52 w) P)
    (kb : ∀ w, FrL u w → RS w ((EN x (pos x N)).1, false) → (N = 0 ∨ pos x N < n) → Ok (gX11_land_52 w) P) : Ok (gX11_land_20_L FU u) P := by
  have hx := hL.2.2.2
  have hn := hL.1
  -- one statement
  have one : ∀ i w (g : Mm → Option (Int32 × Mm)), i ≤ N → (i = 0 ∨ pos x i < n) → FrL u w → RS w (pos x i, true) → w 74 26 = nI i → (∀ j, j < i → TDj x w j) → (∀ w', FrL u w' → RS w' (nxE (EN x (pos x i))) → w' 74 26 = nI (i + 1) → ((EN x (pos x i)).2 = true → ∀ j, j < i + 1 → TDj x w' j) → Ok (g w') P) → Ok (gX11_land_20_Ls g w) P := by
    intro i w g hi hlive k1 k2 k3 k4 hgo
    have hLw : LtM w x n := hL.fr (k1.2 23 (by decide) (by decide) (by decide)) (k1.1 85 (by decide) (by decide) (by decide) (by decide) (by decide))
    have lp := pos_96 hx hn (fun j hj => hg j (by omega)) (i := i)
    have e45 : Ok (gX11_land_45 g w) P := by
      unfold gX11_land_45
      rw [ok_bind]
      refine (stat_M hLw lp (by omega) k3 k2).mono ?_
      rintro w' ⟨f1, f2, f3, f4, f5, f6⟩
      refine hgo w' (k1.tr f1) f5 f4 (fun hh j hj => ?_)
      by_cases ej : j = i
      · rw [ej]
        exact f6 hh
      · obtain ⟨a1, a2, a3⟩ := k4 j (by omega)
        obtain ⟨b1, b2, b3⟩ := f2 j ej
        exact ⟨b1.trans a1, b2.trans a2, a3.keep (fun s h1 h2 => f3 s (by omega)) b3⟩
    unfold gX11_land_20_Ls
    rw [if_pos (show w 74 25 = 0 from k2.2), k3, show w 74 24 = nI (pos x i) from k2.1, hLw.2.1]
    refine ok_if (fun _ => e45) (fun c => ?_)
    rw [if_pos (by
      rw [lt_nn (by omega) (by omega)]
      rcases hlive with h | h
      · exact absurd (show nI i = 0 by rw [h]; rfl) c
      · exact h)]
    exact e45
  by_cases hW : N = 0 ∨ pos x N < n
  · have eb : (EN x (pos x N)).2 = false := by
      cases h : (EN x (pos x N)).2 with
      | false => rfl
      | true => exact absurd ⟨hW, h⟩ hb
    refine loopS (fun m (s : Mm) => gX11_land_20_L m s) (fun g s => gX11_land_20_Ls g s) (fun _ _ => rfl) P
      (fun i w => FrL u w ∧ (i ≤ N → RS w (pos x i, true) ∧ w 74 26 = nI i ∧ ∀ j, j < i → TDj x w j) ∧ (i = N + 1 → RS w ((EN x (pos x N)).1, false))) (N + 1) ?_ ?_ (N + 1) 0 FU u (by omega) (by unfold FU; omega) ⟨⟨fun _ _ _ _ _ _ => rfl, fun _ _ _ _ => rfl⟩, fun _ => ⟨hS, h26, fun j h => absurd h (Nat.not_lt_zero _)⟩, fun h => absurd h (by omega)⟩
    · rintro i w g hi ⟨k1, k2, -⟩ hgo
      obtain ⟨q1, q2, q3⟩ := k2 (by omega)
      have live : i = 0 ∨ pos x i < n := by
        by_cases e : i = N
        · rw [e]; exact hW
        · exact (hg i (by omega)).1
      refine one i w g (by omega) live k1 q1 q2 q3 (fun w' f1 f2 f3 f4 => hgo w' ⟨f1, fun hi2 => ?_, fun hi2 => ?_⟩)
      · have gi := hg i (by omega)
        refine ⟨?_, f3, f4 gi.2⟩
        have : nxE (EN x (pos x i)) = (pos x (i + 1), true) := by
          unfold nxE
          rw [if_pos gi.2]
          rfl
        rw [this] at f2
        exact f2
      · have : i = N := by omega
        subst this
        have e : nxE (EN x (pos x i)) = ((EN x (pos x i)).1, false) := by
          unfold nxE
          rw [if_neg (by rw [eb]; decide), ← eb]
        rw [e] at f2
        exact f2
    · rintro w g ⟨k1, -, k3⟩
      have k4 := k3 rfl
      show Ok (gX11_land_20_Ls g w) P
      unfold gX11_land_20_Ls
      rw [if_neg (show ¬ w 74 25 = 0 from fun e => by rw [show w 74 25 = 1 from k4.2] at e; exact absurd e (by decide))]
      exact kb w k1 k4 hW
  · refine loopS (fun m (s : Mm) => gX11_land_20_L m s) (fun g s => gX11_land_20_Ls g s) (fun _ _ => rfl) P
      (fun i w => FrL u w ∧ RS w (pos x i, true) ∧ w 74 26 = nI i ∧ ∀ j, j < i → TDj x w j) N ?_ ?_ N 0 FU u (by omega) (by unfold FU; omega) ⟨⟨fun _ _ _ _ _ _ => rfl, fun _ _ _ _ => rfl⟩, hS, h26, fun j h => absurd h (Nat.not_lt_zero _)⟩
    · rintro i w g hi ⟨k1, q1, q2, q3⟩ hgo
      have gi := hg i hi
      refine one i w g (by omega) gi.1 k1 q1 q2 q3 (fun w' f1 f2 f3 f4 => hgo w' ⟨f1, ?_, f3, f4 gi.2⟩)
      have : nxE (EN x (pos x i)) = (pos x (i + 1), true) := by
        unfold nxE
        rw [if_pos gi.2]
        rfl
      rw [this] at f2
      exact f2
    · rintro w g ⟨k1, q1, q2, q3⟩
      show Ok (gX11_land_20_Ls g w) P
      have lp := pos_96 hx hn hg
      unfold gX11_land_20_Ls
      have n0 : ¬ nI N = 0 := fun e => by
        have := congrArg Int32.toInt e
        rw [t_nI (by omega), i0] at this
        exact hW (Or.inl (by omega))
      rw [if_pos (show w 74 25 = 0 from q1.2), q2, if_neg n0, show w 74 24 = nI (pos x N) from q1.1, (k1.2 23 (by decide) (by decide) (by decide)).trans hL.2.1, if_neg (by rw [lt_nn (by omega) (by omega)]; exact fun h => hW (Or.inr h))]
      exact kg w k1 q1 q2 q3 hW
