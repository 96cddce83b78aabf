/-! The turns that the reference keeps. -/
theorem ix14 : ∀ a : Nat, a < 8 → ∀ b : Nat, b < 14 → 14 * nI a + nI b = nI (14 * a + b) := by decide +kernel
theorem kt73 {len : Nat} (hl : len < 8) : ∀ (d j fuel : Nat) (u : Mm), j + d = 14 → d < fuel → u 74 40 = nI len → Ok (gX11_keepTurn_73_L fuel (nI j) u) (fun u' => (∀ c, c ≠ 93 → c ≠ 74 → u' c = u c) ∧ (∀ i, i ≠ 40 → u' 74 i = u 74 i) ∧ u' 74 40 = nI (len + 1) ∧ ∀ i, u' 93 i = if 14 * len + j ≤ i ∧ i < 14 * len + 14 then u 94 (i - 14 * len) else u 93 i) := by
  intro d
  induction d with
  | zero =>
    intro j fuel u hj hf e
    obtain ⟨f, rfl⟩ : ∃ f, fuel = f + 1 := ⟨fuel - 1, by omega⟩
    obtain rfl : j = 14 := by omega
    refine ⟨stm u 74 40 (u 74 40 + 1), rfl, fun c _ h => stm_c h, fun i h => stm_s h, ?_, fun i => ?_⟩
    · rw [stm_r, e, nI_s (by omega)]
    · rw [if_neg (by omega), stm_c (by decide)]
  | succ d ih =>
    intro j fuel u hj hf e
    obtain ⟨f, rfl⟩ : ∃ f, fuel = f + 1 := ⟨fuel - 1, by omega⟩
    show Ok (gX11_keepTurn_73_Ls (gX11_keepTurn_73_L f) (nI j) u) _
    unfold gX11_keepTurn_73_Ls
    rw [show (14 : Int32) = nI 14 from rfl, if_pos (by rw [lt_nn (by omega) (by omega)]; omega), show nI 14 = (14 : Int32) from rfl, e, ix14 len hl j (by omega)]
    simp only [gd_t (ix_nI (show j < 14 by omega) (show 14 < 2147483648 by decide)), gd_t (ix_nI (show 14 * len + j < 112 by omega) (show 112 < 2147483648 by decide)), ixn_nI (show j < 2147483648 by omega), ixn_nI (show 14 * len + j < 2147483648 by omega), nI_s (show j + 1 < 2147483648 by omega), letv_eq]
    refine (ih (j + 1) f (stm u 93 (14 * len + j) (u 94 j)) (by omega) (by omega) ((congrFun (stm_c (by decide)) 40).trans e)).mono ?_
    rintro u' ⟨h1, h2, h3, h4⟩
    refine ⟨fun c a b => (h1 c a b).trans (stm_c a), fun i a => (h2 i a).trans (congrFun (stm_c (by decide)) i), h3, fun i => ?_⟩
    rw [h4 i, stm_c (show 94 ≠ 93 by decide)]
    by_cases c1 : i = 14 * len + j
    · subst c1
      rw [if_neg (by omega), if_pos (by omega), stm_r, Nat.add_sub_cancel_left]
    · rw [stm_s c1]
      by_cases c2 : 14 * len + (j + 1) ≤ i ∧ i < 14 * len + 14
      · rw [if_pos c2, if_pos (by omega)]
      · rw [if_neg c2, if_neg (by omega)]
theorem nI_14 {m : Nat} (h : m + 14 < 2147483648) : nI (m + 14) - 14 = nI m := by
  refine of_nat ?_ (by omega)
  have h1 := t_nI h
  have h14 : (14 : Int32).toInt = 14 := rfl
  rw [t_sub (by rw [h1, h14]; omega) (by rw [h1, h14]; omega), h1, h14]
  omega
theorem kt12 : ∀ (d m fuel : Nat) (u : Mm), m + d = 98 → d < fuel → ∃ u', gX11_keepTurn_12_L fuel (nI (m + 14)) u = gX11_keepTurn_49 (stm u' 74 40 (u' 74 40 - 1)) ∧ (∀ c, c ≠ 93 → u' c = u c) ∧ ∀ i, u' 93 i = if m ≤ i ∧ i < 98 then u 93 (i + 14) else u 93 i := by
  intro d
  induction d with
  | zero =>
    intro m fuel u hj hf
    obtain ⟨f, rfl⟩ : ∃ f, fuel = f + 1 := ⟨fuel - 1, by omega⟩
    obtain rfl : m = 98 := by omega
    refine ⟨u, ?_, fun _ _ => rfl, fun i => by rw [if_neg (by omega)]⟩
    show gX11_keepTurn_12_Ls (gX11_keepTurn_12_L f) (nI (98 + 14)) u = _
    unfold gX11_keepTurn_12_Ls
    rw [show (112 : Int32) = nI 112 from rfl, if_neg (by rw [lt_nn (by omega) (by omega)]; omega)]
    rw [letv_eq]
  | succ d ih =>
    intro m fuel u hj hf
    obtain ⟨f, rfl⟩ : ∃ f, fuel = f + 1 := ⟨fuel - 1, by omega⟩
    obtain ⟨u', e1, e2, e3⟩ := ih (m + 1) f (stm u 93 m (u 93 (m + 14))) (by omega) (by omega)
    refine ⟨u', ?_, fun c hc => (e2 c hc).trans (stm_c hc), fun i => ?_⟩
    · rw [← e1]
      show gX11_keepTurn_12_Ls (gX11_keepTurn_12_L f) (nI (m + 14)) u = _
      unfold gX11_keepTurn_12_Ls
      rw [show (112 : Int32) = nI 112 from rfl, if_pos (by rw [lt_nn (by omega) (by omega)]; omega), nI_14 (by omega), nI_s (by omega), gd_t (ix_nI (by omega) (by decide)), gd_t (ix_nI (by omega) (by decide)), ixn_nI (by omega), ixn_nI (by omega), show m + 14 + 1 = m + 1 + 14 by omega]
      rfl
    · rw [e3]
      by_cases h1 : m + 1 ≤ i ∧ i < 98
      · rw [if_pos h1, if_pos (by omega), stm_s (by omega)]
      · rw [if_neg h1]
        by_cases h2 : i = m
        · subst h2
          rw [if_pos (by omega), stm_r]
        · rw [if_neg (by omega), stm_s h2]
