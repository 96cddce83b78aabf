/-! What holds between the class's cells and the reference's, ahead of every call. -/
def wkN (d : Nat) : Int32 := if d = 1 then 4 else if d = 2 then -5 else 0
/-- a flight within its bounds -/
def FB (a : Nat → Int32) : Prop := (0 ≤ (a 0).toInt ∧ (a 0).toInt ≤ 39) ∧ (0 ≤ (a 1).toInt ∧ (a 1).toInt ≤ 999) ∧ (0 ≤ (a 2).toInt ∧ (a 2).toInt ≤ 999) ∧ (0 ≤ (a 3).toInt ∧ (a 3).toInt ≤ 60) ∧ (0 ≤ (a 4).toInt ∧ (a 4).toInt ≤ 60) ∧ (1 ≤ (a 5).toInt ∧ (a 5).toInt ≤ 6) ∧ (0 ≤ (a 6).toInt ∧ (a 6).toInt ≤ 5)
/-- the WORK under way: two bits an ACT, the next in the lowest -/
def UW (a9 a6 : Int32) (w : Nat → Int32) : Prop := ∃ n : Nat, a9 = nI n ∧ n < 4 ^ a6.toInt.toNat ∧ ∀ j, j < 6 → n / 4 ^ j % 4 < 3 ∧ w j = wkN (n / 4 ^ j % 4)
def FlR (a b : Nat → Int32) : Prop := (∀ i, i < 8 → a i = b i) ∧ FB a ∧ UW (a 9) (a 6) (fun j => b (8 + j))
/-- the reference's state, in the order in which it carries it -/
def mV (u : Mm) : Nat → Int32 := fun i => if i < 8 then u 74 (i + 2) else if i < 14 then u 77 (i - 8) else if i = 14 then u 74 11 else if i = 15 then u 74 18 else if i < 72 then (if (i - 16) % 7 = 0 then u 75 ((i - 16) / 7) else if (i - 16) % 7 = 1 then u 76 ((i - 16) / 7) else if (i - 16) % 7 = 2 then u 78 ((i - 16) / 7) else if (i - 16) % 7 = 3 then u 79 ((i - 16) / 7) else if (i - 16) % 7 = 4 then u 80 ((i - 16) / 7) else if (i - 16) % 7 = 5 then u 81 ((i - 16) / 7) else u 82 ((i - 16) / 7)) else u 83 (i - 72)
def WR (s a kn kd fg lf nr sz rd ln fl v : Nat → Int32) : Prop :=
  FlR fl v ∧ (fl 7).toInt ≤ 999 ∧ 0 ≤ (fl 7).toInt ∧ kn 0 = v 14 ∧ rd 0 = v 15 ∧ (0 ≤ (kn 0).toInt ∧ (kn 0).toInt ≤ 8) ∧ (0 ≤ (rd 0).toInt ∧ (rd 0).toInt ≤ 7) ∧
  (∀ i, i < 8 → s i = v (16 + 7 * i) ∧ a i = v (17 + 7 * i) ∧ kd i = v (18 + 7 * i) ∧ fg i = v (19 + 7 * i) ∧ lf i = v (20 + 7 * i) ∧ nr i = v (21 + 7 * i) ∧ sz i = v (22 + 7 * i)) ∧
  (∀ i, i < 64 → ln i = v (72 + i) ∧ 0 ≤ (ln i).toInt ∧ (ln i).toInt ≤ 99 ∧ ln i = ln (8 * (i % 8) + i / 8)) ∧
  (∀ i : Nat, (i : Int) < (kn 0).toInt → (0 ≤ (lf i).toInt ∧ (lf i).toInt ≤ 999) ∧ (0 ≤ (nr i).toInt ∧ (nr i).toInt ≤ 999) ∧ (1 ≤ (sz i).toInt ∧ (sz i).toInt ≤ 30) ∧ (0 ≤ (fg i).toInt ∧ (fg i).toInt ≤ 9))
def WN (u : Mm) : Prop := WR (u 4) (u 5) (u 6) (u 7) (u 8) (u 9) (u 10) (u 11) (u 12) (u 13) (u 14) (mV u)
def IR (u : Mm) : Prop := u 1 3 = u 74 33 ∧ (u 1 3 = 0 ∨ (u 1 3 = 1 ∧ WR (u 30) (u 31) (u 32) (u 33) (u 34) (u 35) (u 36) (u 37) (u 38) (u 39) (u 40) (u 91)))
def PR (u : Mm) : Prop := ∃ len lt : Nat, len ≤ 8 ∧ lt < 8 ∧ u 41 0 = nI len ∧ u 74 40 = nI len ∧ u 41 1 = nI lt ∧ ∀ j, j < len → FlR (u (43 + (lt + 9 + j - len) % 8)) (fun i => u 93 (14 * j + i)) ∧ (u (43 + (lt + 9 + j - len) % 8) 7).toInt ≤ 999 ∧ 0 ≤ (u (43 + (lt + 9 + j - len) % 8) 7).toInt
def LR (u : Mm) : Prop := ∃ n : Nat, n ≤ 96 ∧ u 52 0 = nI n ∧ u 74 23 = nI n ∧ ∀ i, i < n → u 53 i = u 85 i ∧ 0 ≤ (u 53 i).toInt ∧ (u 53 i).toInt ≤ 255
def NR (u : Mm) : Prop := ∃ n : Nat, n ≤ 12 ∧ u 54 0 = nI n ∧ u 74 58 = nI n ∧ ∀ i, i < n → u 55 i = u 100 i ∧ 0 ≤ (u 55 i).toInt ∧ (u 55 i).toInt ≤ 99
def XR (u : Mm) : Prop := ∀ i, i < 7 → u 56 i = u 84 i
def R (u : Mm) : Prop := WN u ∧ IR u ∧ PR u ∧ LR u ∧ NR u ∧ XR u
/-- the rows that R speaks of, and the reference's numbers -/
def relC : List Nat := [1, 4, 5, 6, 7, 8, 9, 10, 11, 12, 13, 14, 30, 31, 32, 33, 34, 35, 36, 37, 38, 39, 40, 41, 43, 44, 45, 46, 47, 48, 49, 50, 52, 53, 54, 55, 56, 75, 76, 78, 79, 80, 81, 82, 83, 84, 85, 91, 93, 100]
def rel74 : List Nat := [2, 3, 4, 5, 6, 7, 8, 9, 11, 18, 23, 33, 40, 58]
/-- u' is as u in all that R speaks of -/
def Sm (u u' : Mm) : Prop := (∀ c, c ∈ relC → u' c = u c) ∧ (∀ i, i ∈ rel74 → u' 74 i = u 74 i) ∧ ∀ j, j < 6 → u' 77 j = u 77 j
theorem Sm.rf (u : Mm) : Sm u u := ⟨fun _ _ => rfl, fun _ _ => rfl, fun _ _ => rfl⟩
theorem Sm.tr {u v w : Mm} (h1 : Sm u v) (h2 : Sm v w) : Sm u w := ⟨fun c h => (h2.1 c h).trans (h1.1 c h), fun c h => (h2.2.1 c h).trans (h1.2.1 c h), fun c h => (h2.2.2 c h).trans (h1.2.2 c h)⟩
theorem Sm.view {u u' : Mm} (h : Sm u u') : mV u' = mV u := by
  obtain ⟨h1, h2, h3⟩ := h
  funext i
  unfold mV
  by_cases c1 : i < 8
  · rw [if_pos c1, if_pos c1]
    exact h2 _ (by
      have : i + 2 = 2 ∨ i + 2 = 3 ∨ i + 2 = 4 ∨ i + 2 = 5 ∨ i + 2 = 6 ∨ i + 2 = 7 ∨ i + 2 = 8 ∨ i + 2 = 9 := by omega
      rcases this with h | h | h | h | h | h | h | h <;> rw [h] <;> decide)
  · rw [if_neg c1, if_neg c1]
    by_cases c2 : i < 14
    · rw [if_pos c2, if_pos c2]
      exact h3 _ (by omega)
    · rw [if_neg c2, if_neg c2, h2 11 (by decide), h2 18 (by decide), h1 75 (by decide), h1 76 (by decide), h1 78 (by decide), h1 79 (by decide), h1 80 (by decide), h1 81 (by decide), h1 82 (by decide), h1 83 (by decide)]
theorem Sm.keep {u u' : Mm} (h : Sm u u') (hR : R u) : R u' := by
  have hm := h.view
  obtain ⟨h1, h2, h3⟩ := h
  obtain ⟨r1, r2, r3, r4, r5, r6⟩ := hR
  refine ⟨?_, ?_, ?_, ?_, ?_, ?_⟩
  · unfold WN at r1 ⊢
    rw [hm, h1 4 (by decide), h1 5 (by decide), h1 6 (by decide), h1 7 (by decide), h1 8 (by decide), h1 9 (by decide), h1 10 (by decide), h1 11 (by decide), h1 12 (by decide), h1 13 (by decide), h1 14 (by decide)]
    exact r1
  · unfold IR at r2 ⊢
    rw [h1 1 (by decide), h2 33 (by decide), h1 30 (by decide), h1 31 (by decide), h1 32 (by decide), h1 33 (by decide), h1 34 (by decide), h1 35 (by decide), h1 36 (by decide), h1 37 (by decide), h1 38 (by decide), h1 39 (by decide), h1 40 (by decide), h1 91 (by decide)]
    exact r2
  · obtain ⟨len, lt, a1, a2, a3, a4, a5, a6⟩ := r3
    refine ⟨len, lt, a1, a2, by rw [h1 41 (by decide)]; exact a3, by rw [h2 40 (by decide)]; exact a4, by rw [h1 41 (by decide)]; exact a5, fun j hj => ?_⟩
    have e : u' (43 + (lt + 9 + j - len) % 8) = u (43 + (lt + 9 + j - len) % 8) := h1 _ (by
      have h9 : (lt + 9 + j - len) % 8 < 8 := Nat.mod_lt _ (by decide)
      generalize (lt + 9 + j - len) % 8 = z at h9
      have : z = 0 ∨ z = 1 ∨ z = 2 ∨ z = 3 ∨ z = 4 ∨ z = 5 ∨ z = 6 ∨ z = 7 := by omega
      rcases this with rfl | rfl | rfl | rfl | rfl | rfl | rfl | rfl <;> decide)
    rw [e, h1 93 (by decide)]
    exact a6 j hj
  · unfold LR at r4 ⊢
    rw [h1 52 (by decide), h2 23 (by decide), h1 53 (by decide), h1 85 (by decide)]
    exact r4
  · unfold NR at r5 ⊢
    rw [h1 54 (by decide), h2 58 (by decide), h1 55 (by decide), h1 100 (by decide)]
    exact r5
  · unfold XR at r6 ⊢
    rw [h1 56 (by decide), h1 84 (by decide)]
    exact r6
/-- a refused number on both sides -/
theorem R_refuse {u : Mm} {k : Nat} (hR : R u) : R (rfM (rfC u k) k) := by
  have hx := hR.2.2.2.2.2
  refine ⟨?_, ?_, ?_, ?_, ?_, ?_⟩
  · exact hR.1
  · exact hR.2.1
  · obtain ⟨len, lt, a1, a2, a3, a4, a5, a6⟩ := hR.2.2.1
    refine ⟨len, lt, a1, a2, a3, a4, a5, fun j hj => ?_⟩
    have h9 : (lt + 9 + j - len) % 8 < 8 := Nat.mod_lt _ (by decide)
    have e : rfM (rfC u k) k (43 + (lt + 9 + j - len) % 8) = u (43 + (lt + 9 + j - len) % 8) := by
      unfold rfM rfC
      rw [stm_c (by omega), stm_c (by omega)]
    rw [e]
    exact a6 j hj
  · exact hR.2.2.2.1
  · exact hR.2.2.2.2.1
  · intro i hi
    unfold rfM rfC
    rw [stm_c (show (56 : Nat) ≠ 84 by decide)]
    by_cases h : i = k
    · subst h
      rw [stm_r, stm_r, stm_c (show (84 : Nat) ≠ 56 by decide), hx i hi]
    · rw [stm_s h, stm_s h, stm_c (show (84 : Nat) ≠ 56 by decide)]
      exact hx i hi
theorem Sm_thrown (u : Mm) (v : Int32) : Sm u (stm u 74 19 v) := by
  refine ⟨fun c hc => stm_c (fun e => by subst e; exact absurd hc (by decide)), fun i hi => stm_s (fun e => by subst e; exact absurd hi (by decide)), fun j _ => by rw [stm_c (by decide)]⟩
/-- what a call of both sides owes -/
def Both (a : Option (Int32 × Mm)) (b : Mm → Option (Int32 × Mm)) : Prop := ∃ r u1 u2, a = some (r, u1) ∧ b u1 = some (r, u2) ∧ R u2
def BothP (a : Option Int32) (b : Option (Int32 × Mm)) : Prop := ∃ r u2, a = some r ∧ b = some (r, u2) ∧ R u2
theorem FB_0 : FB (u0 14) := by
  unfold FB
  decide
theorem R_init : R u0 := by
  refine ⟨⟨⟨fun i hi => ?_, FB_0, 0, rfl, Nat.pow_pos (by decide), fun j hj => ?_⟩, by decide, by decide, rfl, rfl, by decide, by decide, fun i hi => ?_, fun i hi => ?_, fun i hi => ?_⟩, ⟨rfl, Or.inl rfl⟩, ⟨0, 0, by decide, by decide, rfl, rfl, rfl, fun j hj => absurd hj (Nat.not_lt_zero _)⟩, ⟨0, by decide, rfl, rfl, fun i hi => absurd hi (Nat.not_lt_zero _)⟩, ⟨0, by decide, rfl, rfl, fun i hi => absurd hi (Nat.not_lt_zero _)⟩, fun i hi => rfl⟩
  · match i, hi with
    | 0, _ => rfl
    | 1, _ => rfl
    | 2, _ => rfl
    | 3, _ => rfl
    | 4, _ => rfl
    | 5, _ => rfl
    | 6, _ => rfl
    | 7, _ => rfl
  · refine ⟨by rw [Nat.zero_div]; decide, ?_⟩
    rw [Nat.zero_div]
    match j, hj with
    | 0, _ => rfl
    | 1, _ => rfl
    | 2, _ => rfl
    | 3, _ => rfl
    | 4, _ => rfl
    | 5, _ => rfl
  · match i, hi with
    | 0, _ => exact ⟨rfl, rfl, rfl, rfl, rfl, rfl, rfl⟩
    | 1, _ => exact ⟨rfl, rfl, rfl, rfl, rfl, rfl, rfl⟩
    | 2, _ => exact ⟨rfl, rfl, rfl, rfl, rfl, rfl, rfl⟩
    | 3, _ => exact ⟨rfl, rfl, rfl, rfl, rfl, rfl, rfl⟩
    | 4, _ => exact ⟨rfl, rfl, rfl, rfl, rfl, rfl, rfl⟩
    | 5, _ => exact ⟨rfl, rfl, rfl, rfl, rfl, rfl, rfl⟩
    | 6, _ => exact ⟨rfl, rfl, rfl, rfl, rfl, rfl, rfl⟩
    | 7, _ => exact ⟨rfl, rfl, rfl, rfl, rfl, rfl, rfl⟩
  · refine ⟨?_, by show 0 ≤ (0 : Int32).toInt; decide, by show (0 : Int32).toInt ≤ 99; decide, rfl⟩
    unfold mV
    rw [if_neg (by omega), if_neg (by omega), if_neg (by omega), if_neg (by omega), if_neg (by omega)]
    rfl
  · have h : (i : Int) < 0 := hi
    omega
