/-! The letters told: the class's reading. -/
def dgB (v : Int32) : Bool := decide (48 ≤ v.toInt ∧ v.toInt ≤ 57)
theorem dgB_t {v : Int32} : dgB v = true ↔ 48 ≤ v.toInt ∧ v.toInt ≤ 57 := by
  unfold dgB
  simp
def dg (x : Nat → Int32) : Nat → Nat → Nat
  | 0, _ => 0
  | m + 1, q => if dgB (x q) = true then dg x m (q + 1) + 1 else 0
theorem dg_le (x : Nat → Int32) : ∀ m q, dg x m q ≤ m := by
  intro m
  induction m with
  | zero => intro q; exact Nat.le_refl _
  | succ m ih =>
    intro q
    show (if dgB (x q) = true then dg x m (q + 1) + 1 else 0) ≤ m + 1
    split
    · have := ih (q + 1); omega
    · omega
theorem dg_eq (x : Nat → Int32) : ∀ m q k, k ≤ m → (∀ j, j < k → dgB (x (q + j)) = true) → (k = m ∨ ¬ dgB (x (q + k)) = true) → dg x m q = k := by
  intro m
  induction m with
  | zero =>
    intro q k hk _ _
    show 0 = k
    omega
  | succ m ih =>
    intro q k hk h1 h2
    show (if dgB (x q) = true then dg x m (q + 1) + 1 else 0) = k
    match k, hk, h1, h2 with
    | 0, _, _, h2 =>
      rcases h2 with h | h
      · omega
      · rw [if_neg (show ¬ dgB (x q) = true from h)]
    | k + 1, hk, h1, h2 =>
      rw [if_pos (show dgB (x q) = true from h1 0 (by omega))]
      congr 1
      refine ih (q + 1) k (by omega) (fun j hj => ?_) ?_
      · have := h1 (j + 1) (by omega)
        rwa [show q + 1 + j = q + (j + 1) by omega]
      · rcases h2 with h | h
        · exact Or.inl (by omega)
        · exact Or.inr (by rwa [show q + 1 + k = q + (k + 1) by omega])
theorem dg_all (x : Nat → Int32) : ∀ m q j, j < dg x m q → dgB (x (q + j)) = true := by
  intro m
  induction m with
  | zero => intro q j h; exact absurd h (Nat.not_lt_zero _)
  | succ m ih =>
    intro q j
    show j < (if dgB (x q) = true then dg x m (q + 1) + 1 else 0) → _
    by_cases c : dgB (x q) = true
    · rw [if_pos c]
      intro h
      match j, h with
      | 0, _ => exact c
      | j + 1, h =>
        have := ih (q + 1) j (by omega)
        rwa [show q + 1 + j = q + (j + 1) by omega] at this
    · rw [if_neg c]
      intro h
      exact absurd h (Nat.not_lt_zero _)
theorem dg_stop (x : Nat → Int32) : ∀ m q, dg x m q < m → ¬ dgB (x (q + dg x m q)) = true := by
  intro m
  induction m with
  | zero => intro q h; exact absurd h (Nat.not_lt_zero _)
  | succ m ih =>
    intro q
    show (if dgB (x q) = true then dg x m (q + 1) + 1 else 0) < m + 1 → ¬ dgB (x (q + (if dgB (x q) = true then dg x m (q + 1) + 1 else 0))) = true
    by_cases c : dgB (x q) = true
    · rw [if_pos c]
      intro h
      have := ih (q + 1) (by omega)
      rwa [show q + 1 + dg x m (q + 1) = q + (dg x m (q + 1) + 1) by omega] at this
    · rw [if_neg c]
      intro _
      exact c
def enD (x : Nat → Int32) (p lo hi : Nat) : Nat × Bool := (p + dg x hi p, if p + dg x hi p < p + lo then false else decide (x (p + dg x hi p) = 59))
def enW (x : Nat → Int32) (p : Nat) : Nat × Bool := if dgB (x (p + 1)) = true then (if x (p + 2) = 43 ∨ x (p + 2) = 45 then enD x (p + 3) 2 2 else (p + 2, false)) else (p + 1, false)
def EN (x : Nat → Int32) (p : Nat) : Nat × Bool :=
  if x p = 97 then enD x (p + 1) 1 9 else if x p = 98 then enD x (p + 1) 5 5 else if x p = 102 then enD x (p + 1) 10 10 else if x p = 104 then enD x (p + 1) 2 2 else if x p = 108 then enD x (p + 1) 1 1 else if x p = 114 then enD x (p + 1) 4 4 else if x p = 119 then enW x p else (p, false)
theorem enD_ok {x : Nat → Int32} {p lo hi : Nat} (h : (enD x p lo hi).2 = true) : lo ≤ dg x hi p ∧ x (enD x p lo hi).1 = 59 := by
  unfold enD at h ⊢
  simp only at h ⊢
  by_cases c : p + dg x hi p < p + lo
  · rw [if_pos c] at h
    cases h
  · rw [if_neg c] at h
    exact ⟨by omega, of_decide_eq_true h⟩
theorem EN_ok {x : Nat → Int32} {p : Nat} (h : (EN x p).2 = true) : x (EN x p).1 = 59 ∧ p + 2 ≤ (EN x p).1 := by
  have key : ∀ lo hi, 1 ≤ lo → (enD x (p + 1) lo hi).2 = true → x (enD x (p + 1) lo hi).1 = 59 ∧ p + 2 ≤ (enD x (p + 1) lo hi).1 := by
    intro lo hi hl h
    obtain ⟨h1, h2⟩ := enD_ok h
    refine ⟨h2, ?_⟩
    show p + 2 ≤ p + 1 + dg x hi (p + 1)
    omega
  unfold EN at h ⊢
  by_cases c1 : x p = 97
  · rw [if_pos c1] at h ⊢; exact key 1 9 (by decide) h
  rw [if_neg c1] at h ⊢
  by_cases c2 : x p = 98
  · rw [if_pos c2] at h ⊢; exact key 5 5 (by decide) h
  rw [if_neg c2] at h ⊢
  by_cases c3 : x p = 102
  · rw [if_pos c3] at h ⊢; exact key 10 10 (by decide) h
  rw [if_neg c3] at h ⊢
  by_cases c4 : x p = 104
  · rw [if_pos c4] at h ⊢; exact key 2 2 (by decide) h
  rw [if_neg c4] at h ⊢
  by_cases c5 : x p = 108
  · rw [if_pos c5] at h ⊢; exact key 1 1 (by decide) h
  rw [if_neg c5] at h ⊢
  by_cases c6 : x p = 114
  · rw [if_pos c6] at h ⊢; exact key 4 4 (by decide) h
  rw [if_neg c6] at h ⊢
  by_cases c7 : x p = 119
  · rw [if_pos c7] at h ⊢
    unfold enW at h ⊢
    by_cases d1 : dgB (x (p + 1)) = true
    · rw [if_pos d1] at h ⊢
      by_cases d2 : x (p + 2) = 43 ∨ x (p + 2) = 45
      · rw [if_pos d2] at h ⊢
        obtain ⟨h1, h2⟩ := enD_ok h
        refine ⟨h2, ?_⟩
        show p + 2 ≤ p + 3 + _
        omega
      · rw [if_neg d2] at h
        cases h
    · rw [if_neg d1] at h
      cases h
  rw [if_neg c7] at h
  cases h
theorem EN_le (x : Nat → Int32) (p : Nat) : p ≤ (EN x p).1 ∧ (EN x p).1 ≤ p + 11 := by
  have key : ∀ s lo hi, s + hi ≤ 11 → p ≤ (enD x (p + s) lo hi).1 ∧ (enD x (p + s) lo hi).1 ≤ p + 11 := by
    intro s lo hi hl
    have := dg_le x hi (p + s)
    show p ≤ p + s + dg x hi (p + s) ∧ p + s + dg x hi (p + s) ≤ p + 11
    omega
  unfold EN enW
  repeat' split
  all_goals first | exact key 1 _ _ (by decide) | exact key 3 _ _ (by decide) | (show p ≤ p + 1 ∧ p + 1 ≤ p + 11; omega) | (show p ≤ p + 2 ∧ p + 2 ≤ p + 11; omega) | (show p ≤ p ∧ p ≤ p + 11; omega)
def cdE (e : Nat × Bool) : Int32 := if e.2 = true then nI e.1 else -1 - nI e.1
/-- the class's letters -/
def Lt (u : Mm) (x : Nat → Int32) (n : Nat) : Prop := n ≤ 96 ∧ u 52 0 = nI n ∧ (∀ j, j < n → u 53 j = x j) ∧ ∀ j, n ≤ j → x j = -1
theorem at52 {u : Mm} {x : Nat → Int32} {n j : Nat} (h : Lt u x n) (hj : j < 1000) : gX7_at 52 (nI j) u = some (x j) := by
  obtain ⟨h1, h2, h3, h4⟩ := h
  unfold gX7_at gX7_at_b
  rw [if_neg (nI_pos (by omega))]
  by_cases c : j < n
  · rw [if_pos (by rw [h2, lt_nn (by omega) (by omega)]; exact c), show sz (52 + 1) = 96 from rfl, if_pos (by rw [lt_nn (by omega) (by omega)]; omega), gd_t (ix_nI (by omega) (by decide)), ixn_nI (by omega), h3 j c]
  · rw [if_neg (by rw [h2, lt_nn (by omega) (by omega)]; exact c), h4 j (by omega)]
theorem dig_C {u : Mm} {x : Nat → Int32} {n j : Nat} (h : Lt u x n) (hj : j < 1000) : gX5_isDigit (nI j) u = some (if dgB (x j) = true then 1 else 0) := by
  unfold gX5_isDigit gX5_isDigit_b
  rw [at52 h hj, Option.bind_some, Option.bind_some]
  by_cases c1 : x j < 48
  · rw [if_pos c1, if_neg (fun e => by rw [dgB_t] at e; rw [t_lt, show (48 : Int32).toInt = 48 from rfl] at c1; omega)]
  · rw [if_neg c1]
    by_cases c2 : 57 < x j
    · rw [if_pos c2, if_neg (fun e => by rw [dgB_t] at e; rw [t_lt, show (57 : Int32).toInt = 57 from rfl] at c2; omega)]
    · rw [if_neg c2, if_pos (dgB_t.mpr (by rw [t_lt, show (48 : Int32).toInt = 48 from rfl] at c1; rw [t_lt, show (57 : Int32).toInt = 57 from rfl] at c2; omega))]
theorem e26_C {u : Mm} {x : Nat → Int32} {n p lo hi : Nat} (h : Lt u x n) (hp : p + hi < 1000) (hlo : lo ≤ hi) : gX5_endOfDigits_26 (nI p) (nI lo) (nI (p + dg x hi p)) u = some (cdE (enD x p lo hi)) := by
  have l := dg_le x hi p
  unfold gX5_endOfDigits_26 enD cdE
  rw [nI_a (by omega)]
  by_cases c : p + dg x hi p < p + lo
  · rw [if_pos (by rw [lt_nn (by omega) (by omega)]; exact c)]
    simp only [if_pos c]
    rfl
  · rw [if_neg (by rw [lt_nn (by omega) (by omega)]; exact c), at52 h (by omega), Option.bind_some]
    simp only [if_neg c]
    by_cases c2 : x (p + dg x hi p) = 59
    · rw [if_pos c2, if_pos (decide_eq_true c2)]
    · rw [if_neg c2, if_neg (fun e => c2 (of_decide_eq_true e))]
theorem end_C {u : Mm} {x : Nat → Int32} {n p lo hi : Nat} (h : Lt u x n) (hp : p + hi < 1000) (hlo : lo ≤ hi) (hhi : hi ≤ 10) : gX5_endOfDigits (nI p) (nI lo) (nI hi) u = some (cdE (enD x p lo hi)) := by
  have main : Ok (gX5_endOfDigits (nI p) (nI lo) (nI hi) u) (fun v => v = cdE (enD x p lo hi)) := by
    unfold gX5_endOfDigits gX5_endOfDigits_b
    have stop : ∀ k, k ≤ hi → (∀ j, j < k → dgB (x (p + j)) = true) → (k = hi ∨ ¬ dgB (x (p + k)) = true) → Ok (gX5_endOfDigits_26 (nI p) (nI lo) (nI (p + k)) u) (fun v => v = cdE (enD x p lo hi)) := by
      intro k hk h1 h2
      have e := dg_eq x hi p k hk h1 h2
      rw [← e, e26_C h hp hlo]
      exact ok_some.mpr rfl
    refine loopS (fun n s => gX5_endOfDigits_3_L (nI p) (nI lo) (nI hi) u n s) (fun g s => gX5_endOfDigits_3_Ls (nI p) (nI lo) (nI hi) u g s) (fun _ _ => rfl) _
      (fun k s => s = nI (p + k) ∧ ∀ j, j < k → dgB (x (p + j)) = true) hi ?_ ?_ hi 0 FU (nI p) (by omega) (by unfold FU; omega) ⟨rfl, fun j h => absurd h (Nat.not_lt_zero _)⟩
    · rintro k s g hk ⟨e0, e1⟩ hg
      subst e0
      show Ok (gX5_endOfDigits_3_Ls (nI p) (nI lo) (nI hi) u g (nI (p + k))) _
      unfold gX5_endOfDigits_3_Ls
      rw [nI_a (a := p) (b := hi) (by omega), if_pos (by rw [lt_nn (by omega) (by omega)]; omega), dig_C h (by omega), Option.bind_some]
      by_cases c : dgB (x (p + k)) = true
      · rw [if_pos c, if_neg (by decide), letv_eq, nI_s (by omega)]
        refine hg (nI (p + k + 1)) ⟨rfl, fun j hj => ?_⟩
        by_cases ej : j = k
        · rw [ej]; exact c
        · exact e1 j (by omega)
      · rw [if_neg c, if_pos rfl]
        exact stop k (by omega) e1 (Or.inr c)
    · rintro s g ⟨e0, e1⟩
      subst e0
      show Ok (gX5_endOfDigits_3_Ls (nI p) (nI lo) (nI hi) u g (nI (p + hi))) _
      unfold gX5_endOfDigits_3_Ls
      rw [nI_a (a := p) (b := hi) (by omega), if_neg (by rw [lt_nn (by omega) (by omega)]; omega)]
      exact stop hi (Nat.le_refl _) e1 (Or.inl rfl)
  obtain ⟨v, e, h⟩ := main
  rw [e, h]
theorem endOf_C {u : Mm} {x : Nat → Int32} {n p : Nat} (h : Lt u x n) (hp : p < 900) : gX5_endOf (nI p) u = some (cdE (EN x p)) := by
  unfold gX5_endOf gX5_endOf_b
  rw [at52 h (by omega), Option.bind_some, nI_s (by omega)]
  unfold EN
  by_cases c1 : x p = 97
  · rw [if_pos c1, if_pos c1, show (1 : Int32) = nI 1 from rfl, show (9 : Int32) = nI 9 from rfl, end_C h (by omega) (by decide) (by decide), Option.bind_some]
  rw [if_neg c1, if_neg c1]
  by_cases c2 : x p = 98
  · rw [if_pos c2, if_pos c2, show (5 : Int32) = nI 5 from rfl, end_C h (by omega) (by decide) (by decide), Option.bind_some]
  rw [if_neg c2, if_neg c2]
  by_cases c3 : x p = 102
  · simp +decide only [c3, ↓reduceIte]
    rw [show (10 : Int32) = nI 10 from rfl, end_C h (by omega) (by decide) (by decide), Option.bind_some]
  by_cases c4 : x p = 104
  · simp +decide only [c4, ↓reduceIte]
    rw [show (2 : Int32) = nI 2 from rfl, end_C h (by omega) (by decide) (by decide), Option.bind_some]
  by_cases c5 : x p = 108
  · simp +decide only [c5, ↓reduceIte]
    rw [show (1 : Int32) = nI 1 from rfl, end_C h (by omega) (by decide) (by decide), Option.bind_some]
  by_cases c6 : x p = 114
  · simp +decide only [c6, ↓reduceIte]
    rw [show (4 : Int32) = nI 4 from rfl, end_C h (by omega) (by decide) (by decide), Option.bind_some]
  by_cases c7 : x p = 119
  · simp +decide only [c7, ↓reduceIte]
    unfold gX5_endOfWind gX5_endOfWind_b gX5_endOfWind_45 enW
    rw [nI_s (by omega), show (2 : Int32) = nI 2 from rfl, show (3 : Int32) = nI 3 from rfl, nI_a (by omega), nI_a (by omega), dig_C h (by omega), Option.bind_some]
    by_cases d1 : dgB (x (p + 1)) = true
    · rw [if_pos d1, if_pos d1, if_neg (by decide), at52 h (by omega), Option.bind_some, end_C h (by omega) (by decide) (by decide), Option.bind_some]
      by_cases d2 : x (p + 2) = 43
      · rw [if_pos d2, if_pos (Or.inl d2), Option.bind_some]
      · rw [if_neg d2]
        by_cases d3 : x (p + 2) = 45
        · rw [if_pos d3, if_pos (Or.inr d3), Option.bind_some]
        · rw [if_neg d3, if_neg (fun e => e.elim d2 d3), Option.bind_some]
          rfl
    · rw [if_neg d1, if_neg d1, if_pos rfl, Option.bind_some]
      rfl
  simp only [if_neg c3, if_neg c4, if_neg c5, if_neg c6, if_neg c7, ite_self]
  rfl
def pos (x : Nat → Int32) : Nat → Nat
  | 0 => 0
  | i + 1 => (EN x (pos x i)).1 + 1
def good (x : Nat → Int32) (n i : Nat) : Prop := (i = 0 ∨ pos x i < n) ∧ (EN x (pos x i)).2 = true
theorem good_n {x : Nat → Int32} {n i : Nat} (hx : ∀ j, n ≤ j → x j = -1) (h : good x n i) : pos x (i + 1) ≤ n ∧ pos x i + 3 ≤ pos x (i + 1) := by
  obtain ⟨h1, h2⟩ := EN_ok h.2
  refine ⟨?_, ?_⟩
  · show (EN x (pos x i)).1 + 1 ≤ n
    by_cases c : n ≤ (EN x (pos x i)).1
    · rw [hx _ c] at h1
      exact absurd h1 (by decide)
    · omega
  · show pos x i + 3 ≤ (EN x (pos x i)).1 + 1
    omega
theorem pos_3 {x : Nat → Int32} {n : Nat} (hx : ∀ j, n ≤ j → x j = -1) : ∀ i, (∀ j, j < i → good x n j) → 3 * i ≤ pos x i ∧ (0 < i → pos x i ≤ n) := by
  intro i
  induction i with
  | zero => intro _; exact ⟨Nat.le_refl _, fun h => absurd h (Nat.lt_irrefl _)⟩
  | succ i ih =>
    intro h
    have h1 := ih (fun j hj => h j (by omega))
    have h2 := good_n hx (h i (by omega))
    exact ⟨by omega, fun _ => h2.1⟩
theorem pos_96 {x : Nat → Int32} {n i : Nat} (hx : ∀ j, n ≤ j → x j = -1) (hn : n ≤ 96) (h : ∀ j, j < i → good x n j) : pos x i ≤ 96 := by
  have := pos_3 hx i h
  by_cases c : i = 0
  · rw [c]; exact Nat.zero_le _
  · have := this.2 (by omega)
    omega
theorem first_bad {x : Nat → Int32} {n : Nat} (hx : ∀ j, n ≤ j → x j = -1) (hn : n ≤ 96) : ∃ N, N ≤ 32 ∧ (∀ j, j < N → good x n j) ∧ ¬ good x n N := by
  have key : ∀ k, (∀ j, j < k → good x n j) ∨ ∃ N, N < k ∧ (∀ j, j < N → good x n j) ∧ ¬ good x n N := by
    intro k
    induction k with
    | zero => exact Or.inl (fun j h => absurd h (Nat.not_lt_zero _))
    | succ k ih =>
      rcases ih with h | ⟨N, h1, h2⟩
      · by_cases c : good x n k
        · exact Or.inl (fun j hj => by
            by_cases e : j = k
            · rw [e]; exact c
            · exact h j (by omega))
        · exact Or.inr ⟨k, by omega, h, c⟩
      · exact Or.inr ⟨N, by omega, h2⟩
  rcases key 33 with h | ⟨N, h1, h2⟩
  · have := pos_3 hx 33 h
    have := this.2 (by decide)
    omega
  · exact ⟨N, by omega, h2⟩
/-- what the class's first look finds -/
def lookI (x : Nat → Int32) (n N : Nat) : Int32 := if N = 0 ∨ pos x N < n then nI (EN x (pos x N)).1 else -9
theorem look_C {u : Mm} {x : Nat → Int32} {n N : Nat} (h : Lt u x n) (hN : N ≤ 32) (hg : ∀ j, j < N → good x n j) (hb : ¬ good x n N) : gX5_firstMisplaced u = some (lookI x n N) := by
  have hx := h.2.2.2
  have hn := h.1
  have main : Ok (gX5_firstMisplaced u) (fun v => v = lookI x n N) := by
    unfold gX5_firstMisplaced gX5_firstMisplaced_b
    refine loopS (fun m (s : Int32 × Int32) => gX5_firstMisplaced_4_L u m s.1 s.2) (fun g s => gX5_firstMisplaced_4_Ls u (fun a b => g (a, b)) s.1 s.2) (fun _ _ => rfl) _
      (fun i s => s.1 = nI (pos x i) ∧ s.2 = nI i) N ?_ ?_ N 0 FU (0, 0) (by omega) (by unfold FU; omega) ⟨rfl, rfl⟩
    · rintro i ⟨x1, x2⟩ g hi ⟨e0, e1⟩ hgo
      change x1 = nI (pos x i) at e0
      change x2 = nI i at e1
      subst e0
      subst e1
      show Ok (gX5_firstMisplaced_4_Ls u (fun a b => g (a, b)) (nI (pos x i)) (nI i)) _
      have gi := hg i hi
      have l1 := pos_96 hx hn (fun j hj => hg j (by omega)) (i := i)
      have l2 := EN_le x (pos x i)
      have e25 : gX5_firstMisplaced_25 (fun a b => g (a, b)) (nI (pos x i)) (nI i) u = g (nI (pos x (i + 1)), nI (i + 1)) := by
        unfold gX5_firstMisplaced_25
        rw [endOf_C h (by omega), Option.bind_some, cdE, if_pos gi.2, if_neg (nI_pos (by omega)), letv_eq, letv_eq, nI_s (by omega), nI_s (by omega)]
        rfl
      unfold gX5_firstMisplaced_4_Ls
      rw [if_pos (show nI i < 96 by rw [show (96 : Int32) = nI 96 from rfl, lt_nn (by omega) (by omega)]; omega), e25, h.2.1]
      have fin := hgo (nI (pos x (i + 1)), nI (i + 1)) ⟨rfl, rfl⟩
      rcases gi.1 with c | c
      · rw [if_pos (show nI (pos x i) = 0 by rw [c]; rfl)]
        exact fin
      · refine ok_if (fun _ => fin) (fun _ => ?_)
        rw [if_pos (by rw [lt_nn (by omega) (by omega)]; exact c)]
        exact fin
    · rintro ⟨x1, x2⟩ g ⟨e0, e1⟩
      change x1 = nI (pos x N) at e0
      change x2 = nI N at e1
      subst e0
      subst e1
      show Ok (gX5_firstMisplaced_4_Ls u (fun a b => g (a, b)) (nI (pos x N)) (nI N)) _
      have l1 := pos_96 hx hn hg
      have l2 := EN_le x (pos x N)
      unfold gX5_firstMisplaced_4_Ls
      rw [if_pos (show nI N < 96 by rw [show (96 : Int32) = nI 96 from rfl, lt_nn (by omega) (by omega)]; omega), h.2.1]
      by_cases c : N = 0 ∨ pos x N < n
      · have eb : ¬ (EN x (pos x N)).2 = true := fun e => hb ⟨c, e⟩
        have e25 : gX5_firstMisplaced_25 (fun a b => g (a, b)) (nI (pos x N)) (nI N) u = some (lookI x n N) := by
          unfold gX5_firstMisplaced_25
          rw [endOf_C h (by omega), Option.bind_some, cdE, if_neg eb, lookI, if_pos c]
          have em : -1 - nI (EN x (pos x N)).1 < 0 := by
            have h1 := t_nI (show (EN x (pos x N)).1 < 2147483648 by omega)
            rw [t_lt, t_sub (by rw [h1, im1]; omega) (by rw [h1, im1]; omega), h1, im1, i0]
            omega
          rw [if_pos em]
          have h1 := t_nI (show (EN x (pos x N)).1 < 2147483648 by omega)
          have h2 : (-1 - nI (EN x (pos x N)).1).toInt = -1 - ((EN x (pos x N)).1 : Int) := by
            rw [t_sub (by rw [h1, im1]; omega) (by rw [h1, im1]; omega), h1, im1]
          refine congrArg some (of_nat ?_ (by omega))
          rw [t_sub (by rw [h2, im1]; omega) (by rw [h2, im1]; omega), h2, im1]
          omega
        rw [e25]
        rcases c with c | c
        · rw [if_pos (show nI (pos x N) = 0 by rw [c]; rfl)]
          exact ok_some.mpr rfl
        · refine ok_if (fun _ => ok_some.mpr rfl) (fun _ => ?_)
          rw [if_pos (by rw [lt_nn (by omega) (by omega)]; exact c)]
          exact ok_some.mpr rfl
      · have p0 : pos x N ≠ 0 := by
          intro e
          have := (pos_3 hx N hg).1
          exact c (Or.inl (by omega))
        rw [if_neg (show ¬ nI (pos x N) = 0 from fun e => by have := congrArg Int32.toInt e; rw [t_nI (by omega), i0] at this; omega), if_neg (by rw [lt_nn (by omega) (by omega)]; exact fun e => c (Or.inr e)), lookI, if_neg c]
        exact ok_some.mpr rfl
  obtain ⟨v, e, h⟩ := main
  rw [e, h]
/-- numbers -/
def numI (x : Nat → Int32) (p : Nat) : Nat → Int32
  | 0 => 0
  | m + 1 => 10 * numI x p m + x (p + m) - 48
theorem num_C {u : Mm} {x : Nat → Int32} {n p m : Nat} (h : Lt u x n) (hp : p + m < 1000) : gX5_number (nI p) (nI m) u = some (numI x p m) := by
  have main : Ok (gX5_number (nI p) (nI m) u) (fun v => v = numI x p m) := by
    unfold gX5_number gX5_number_b
    refine loopS (fun n (s : Int32 × Int32) => gX5_number_5_L (nI p) (nI m) u n s.1 s.2) (fun g s => gX5_number_5_Ls (nI p) (nI m) u (fun a b => g (a, b)) s.1 s.2) (fun _ _ => rfl) _
      (fun k s => s.1 = numI x p k ∧ s.2 = nI k) m ?_ ?_ m 0 FU (0, 0) (by omega) (by unfold FU; omega) ⟨rfl, rfl⟩
    · rintro k ⟨x1, x2⟩ g hk ⟨e0, e1⟩ hg
      change x1 = numI x p k at e0
      change x2 = nI k at e1
      subst e0
      subst e1
      show Ok (gX5_number_5_Ls (nI p) (nI m) u (fun a b => g (a, b)) (numI x p k) (nI k)) _
      unfold gX5_number_5_Ls
      rw [if_pos (by rw [lt_nn (by omega) (by omega)]; exact hk), nI_a (by omega), at52 h (by omega), Option.bind_some, letv_eq, letv_eq, nI_s (by omega)]
      exact hg (numI x p (k + 1), nI (k + 1)) ⟨rfl, rfl⟩
    · rintro ⟨x1, x2⟩ g ⟨e0, e1⟩
      change x1 = numI x p m at e0
      change x2 = nI m at e1
      subst e0
      subst e1
      show Ok (gX5_number_5_Ls (nI p) (nI m) u (fun a b => g (a, b)) (numI x p m) (nI m)) _
      unfold gX5_number_5_Ls
      rw [if_neg (by rw [lt_nn (by omega) (by omega)]; exact Nat.lt_irrefl _)]
      exact ok_some.mpr rfl
  obtain ⟨v, e, h⟩ := main
  rw [e, h]
theorem num_bd {x : Nat → Int32} {p : Nat} : ∀ m, m ≤ 8 → (∀ j, j < m → dgB (x (p + j)) = true) → 0 ≤ (numI x p m).toInt ∧ (numI x p m).toInt < 10 ^ m := by
  intro m
  induction m with
  | zero => intro _ _; exact ⟨show 0 ≤ (0 : Int32).toInt by decide, show (0 : Int32).toInt < 1 by decide⟩
  | succ m ih =>
    intro hm h
    obtain ⟨h1, h2⟩ := ih (by omega) (fun j hj => h j (by omega))
    have h3 := dgB_t.mp (h m (by omega))
    have hp : (10 : Int) ^ (m + 1) = 10 * 10 ^ m := by rw [Int.pow_succ, Int.mul_comm]
    have hq : (10 : Int) ^ m ≤ 10 ^ 7 := by
      have : ∀ m : Nat, m < 8 → (10 : Int) ^ m ≤ 10 ^ 7 := by decide
      exact this m (by omega)
    have e7 : (10 : Int) ^ 7 = 10000000 := rfl
    have e1 : (10 * numI x p m).toInt = 10 * (numI x p m).toInt := by
      rw [t_mul] <;> rw [show (10 : Int32).toInt = 10 from rfl] <;> omega
    have e2 : (10 * numI x p m + x (p + m)).toInt = 10 * (numI x p m).toInt + (x (p + m)).toInt := by
      rw [t_add] <;> rw [e1] <;> omega
    have e3 : (numI x p (m + 1)).toInt = 10 * (numI x p m).toInt + (x (p + m)).toInt - 48 := by
      show (10 * numI x p m + x (p + m) - 48).toInt = _
      rw [t_sub] <;> rw [e2, show (48 : Int32).toInt = 48 from rfl] <;> omega
    rw [e3, hp]
    omega
