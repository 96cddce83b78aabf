/-! What the reference carries, place by place. -/
/-- place p of what is carried: its cell and its slot -/
def sp (p : Nat) : Nat × Nat := if p < 8 then (74, p + 2) else if p < 14 then (77, p - 8) else if p = 14 then (74, 11) else if p = 15 then (74, 18) else if p < 72 then (if (p - 16) % 7 = 0 then (75, (p - 16) / 7) else if (p - 16) % 7 = 1 then (76, (p - 16) / 7) else if (p - 16) % 7 = 2 then (78, (p - 16) / 7) else if (p - 16) % 7 = 3 then (79, (p - 16) / 7) else if (p - 16) % 7 = 4 then (80, (p - 16) / 7) else if (p - 16) % 7 = 5 then (81, (p - 16) / 7) else (82, (p - 16) / 7)) else (83, p - 72)
theorem mV_sp (u : Mm) (p : Nat) : mV u p = u (sp p).1 (sp p).2 := by
  unfold mV sp
  by_cases c0 : p < 8
  · simp only [if_pos c0]
  simp only [if_neg c0]
  by_cases c1 : p < 14
  · simp only [if_pos c1]
  simp only [if_neg c1]
  by_cases c2 : p = 14
  · simp only [if_pos c2]
  simp only [if_neg c2]
  by_cases c3 : p = 15
  · simp only [if_pos c3]
  simp only [if_neg c3]
  by_cases c4 : p < 72
  · simp only [if_pos c4]
    by_cases d0 : (p - 16) % 7 = 0
    · simp only [if_pos d0]
    simp only [if_neg d0]
    by_cases d1 : (p - 16) % 7 = 1
    · simp only [if_pos d1]
    simp only [if_neg d1]
    by_cases d2 : (p - 16) % 7 = 2
    · simp only [if_pos d2]
    simp only [if_neg d2]
    by_cases d3 : (p - 16) % 7 = 3
    · simp only [if_pos d3]
    simp only [if_neg d3]
    by_cases d4 : (p - 16) % 7 = 4
    · simp only [if_pos d4]
    simp only [if_neg d4]
    by_cases d5 : (p - 16) % 7 = 5
    · simp only [if_pos d5]
    simp only [if_neg d5]
  · simp only [if_neg c4]
theorem sp_inj : ∀ p : Nat, p < 136 → ∀ q : Nat, q < 136 → sp p = sp q → p = q := by decide +kernel
theorem sp_34 : ∀ p : Nat, p < 136 → sp p ≠ (74, 34) ∧ sp p ≠ (74, 35) ∧ sp p ≠ (74, 36) := by decide +kernel
/-- the row K may carry -/
def HK (K : Nat) (tk : Bool) (b : Mm) : Prop := K < 2147483648 ∧ b 74 36 = nI K ∧ b 74 35 = (if tk = true then 1 else 0) ∧ kd K = 1 ∧ sz K < 2147483648 ∧ ∀ q : Nat, q < 136 → (sp q).1 ≠ K
/-- after p places, from the memory b -/
def CI (K : Nat) (tk : Bool) (b : Mm) (p : Nat) (u : Mm) : Prop :=
  (tk = false → ∀ q, q < p → u (sp q).1 (sp q).2 = b K q) ∧ (tk = true → ∀ q, q < p → u K q = mV b q) ∧
  (∀ c i, (tk = true ∨ ∀ q, q < p → sp q ≠ (c, i)) → (c ≠ 74 ∨ i ≠ 34) → (c ≠ K ∨ tk = false ∨ p ≤ i) → u c i = b c i) ∧ u 74 34 = nI p
theorem stm_v (u : Mm) (k i : Nat) (v : Int32) (c j : Nat) : stm u k i v c j = if c = k ∧ j = i then v else u c j := by
  by_cases h : c = k
  · subst h
    by_cases h2 : j = i
    · subst h2; rw [stm_r, if_pos ⟨rfl, rfl⟩]
    · rw [stm_s h2, if_neg (fun e => h2 e.2)]
  · rw [stm_c h, if_neg (fun e => h e.1)]
theorem CI_0 {K : Nat} {tk : Bool} {b : Mm} (h : b 74 34 = 0) : CI K tk b 0 b := ⟨fun _ q hq => absurd hq (Nat.not_lt_zero _), fun _ q hq => absurd hq (Nat.not_lt_zero _), fun _ _ _ _ _ => rfl, h⟩
theorem nI_p {a : Nat} (h : a + 1 < 2147483648) : nI (a + 1) - 1 = nI a := by
  refine of_nat ?_ (by omega)
  have h1 := t_nI h
  rw [t_sub (by rw [h1, i1]; omega) (by rw [h1, i1]; omega), h1, i1]
  omega
theorem CI_step {K : Nat} {tk : Bool} {b u : Mm} {p c i : Nat} (h : HK K tk b) (hc : CI K tk b p u) (hp : p < 136) (hs : p < sz K) (hsp : sp p = (c, i)) :
    ∃ y u1, gX11_carry (u c i) u = some (y, u1) ∧ CI K tk b (p + 1) (stm u1 c i y) := by
  obtain ⟨hK, h36, h35, hkd, hsz, hcell⟩ := h
  obtain ⟨hA, hB, hF, hP⟩ := hc
  have k74 : 74 ≠ K := fun e => hcell 0 (by decide) e
  have kc : c ≠ K := fun e => hcell p hp (by rw [hsp]; exact e)
  have s34 : ¬ (c = 74 ∧ i = 34) := fun e => (sp_34 p hp).1 (by rw [hsp, e.1, e.2])
  have g35 : u 74 35 = (if tk = true then 1 else 0) := (hF 74 35 (Or.inr (fun q hq => (sp_34 q (by omega)).2.1)) (Or.inr (by decide)) (Or.inl k74)).trans h35
  have g36 : u 74 36 = nI K := (hF 74 36 (Or.inr (fun q hq => (sp_34 q (by omega)).2.2)) (Or.inr (by decide)) (Or.inl k74)).trans h36
  unfold gX11_carry gX11_carry_b
  cases tk with
  | true =>
    refine ⟨u c i, stm (stm u K p (u c i)) 74 34 (nI (p + 1)), ?_, fun e => (by cases e), fun _ q hq => ?_, fun c' i' _ h2 h3 => ?_, ?_⟩
    · rw [if_neg (by rw [g35]; decide), g36, hP, ixn_nI hK, ixn_nI (by omega), gd_t hkd, gd_t (ix_nI hs hsz), letv_eq]
      unfold gX11_carry_17
      simp only [stm_c k74, g36, hP, nI_s (show p + 1 < 2147483648 by omega), letv_eq, stm_r, stm_s (show (36 : Nat) ≠ 34 by decide), ixn_nI hK, gd_t hkd, nI_p (show p + 1 < 2147483648 by omega), gd_t (ix_nI hs hsz), ixn_nI (show p < 2147483648 by omega), stm_c (show K ≠ 74 from fun e => k74 e.symm)]
    · rw [stm_c (fun e => kc e.symm), stm_c (fun e => k74 e.symm)]
      by_cases hq2 : q = p
      · subst hq2
        rw [stm_r, mV_sp, hsp]
        exact hF c i (Or.inl rfl) (by omega) (Or.inl kc)
      · rw [stm_s hq2]
        exact hB rfl q (by omega)
    · rw [stm_v, stm_v, stm_v, if_neg (show ¬ (c' = 74 ∧ i' = 34) by omega)]
      by_cases e : c' = c ∧ i' = i
      · rw [if_pos e, e.1, e.2]
        exact hF c i (Or.inl rfl) (by omega) (Or.inl kc)
      · rw [if_neg e]
        have h3' : c' ≠ K ∨ p + 1 ≤ i' := by
          rcases h3 with h3 | h3 | h3
          · exact Or.inl h3
          · cases h3
          · exact Or.inr h3
        rw [if_neg (by omega)]
        exact hF c' i' (Or.inl rfl) h2 (by rcases h3' with h3 | h3; exact Or.inl h3; exact Or.inr (Or.inr (by omega)))
    · rw [stm_v, if_neg (by omega), stm_r]
  | false =>
    have hy : u K p = b K p := hF K p (Or.inr (fun q hq e => hcell q (by omega) (by rw [e]))) (Or.inl (fun e => k74 e.symm)) (Or.inr (Or.inl rfl))
    refine ⟨u K p, stm u 74 34 (nI (p + 1)), ?_, fun _ q hq => ?_, fun e => (by cases e), fun c' i' h1 h2 h3 => ?_, ?_⟩
    · rw [if_pos (by rw [g35]; decide)]
      unfold gX11_carry_17
      simp only [g36, hP, nI_s (show p + 1 < 2147483648 by omega), letv_eq, stm_r, stm_s (show (36 : Nat) ≠ 34 by decide), ixn_nI hK, gd_t hkd, nI_p (show p + 1 < 2147483648 by omega), gd_t (ix_nI hs hsz), ixn_nI (show p < 2147483648 by omega), stm_c (show K ≠ 74 from fun e => k74 e.symm)]
    · rw [stm_v, stm_v]
      by_cases hq2 : q = p
      · subst hq2
        rw [hsp, if_pos ⟨rfl, rfl⟩]
        exact hy
      · rw [if_neg (fun e => hq2 (sp_inj q (by omega) p hp (by rw [hsp, ← e.1, ← e.2]))), if_neg (fun e => (sp_34 q (by omega)).1 (by rw [← e.1, ← e.2]))]
        exact hA rfl q (by omega)
    · have h1' : ∀ q, q < p + 1 → sp q ≠ (c', i') := by
        rcases h1 with h1 | h1
        · cases h1
        · exact h1
      rw [stm_v, stm_v, if_neg (fun e => h1' p (by omega) (by rw [hsp, e.1, e.2])), if_neg (by omega)]
      exact hF c' i' (Or.inr (fun q hq => h1' q (by omega))) h2 (Or.inr (Or.inl rfl))
    · rw [stm_v, if_neg (by omega), stm_r]
theorem CI_b {X : Type} {K : Nat} {tk : Bool} {b u : Mm} {p : Nat} (c i : Nat) {g : Mm → Option X} {Q : X → Prop} (h : HK K tk b) (hc : CI K tk b p u) (hp : p < 136) (hs : p < sz K) (hsp : sp p = (c, i)) (k : ∀ u', CI K tk b (p + 1) u' → Ok (g u') Q) :
    Ok (bI (gX11_carry (u c i) u) (fun r u1 => letv (stm u1 c i r) (fun u3 => g u3))) Q := by
  obtain ⟨y, u1, e1, e2⟩ := CI_step h hc hp hs hsp
  rw [e1]
  exact k _ e2
theorem cf_loop {K : Nat} {tk : Bool} {b : Mm} (h : HK K tk b) (hs : 14 ≤ sz K) : ∀ (d j fuel : Nat) (u : Mm), j + d = 6 → d < fuel → CI K tk b (8 + j) u → Ok (gX11_carryFlight_98_L fuel (nI j) u) (CI K tk b 14) := by
  intro d
  induction d with
  | zero =>
    intro j fuel u hj hf hc
    obtain ⟨f, rfl⟩ : ∃ f, fuel = f + 1 := ⟨fuel - 1, by omega⟩
    obtain rfl : j = 6 := by omega
    exact ⟨u, rfl, hc⟩
  | succ d ih =>
    intro j fuel u hj hf hc
    obtain ⟨f, rfl⟩ : ∃ f, fuel = f + 1 := ⟨fuel - 1, by omega⟩
    show Ok (gX11_carryFlight_98_Ls (gX11_carryFlight_98_L f) (nI j) u) _
    unfold gX11_carryFlight_98_Ls
    rw [show (6 : Int32) = nI 6 from rfl, if_pos (by rw [lt_nn (by omega) (by omega)]; omega), gd_t (ix_nI (by omega) (by decide)), ixn_nI (by omega)]
    simp only [gd_t (ix_nI (show j < 6 by omega) (show 6 < 2147483648 by decide)), nI_s (show j + 1 < 2147483648 by omega)]
    refine CI_b 77 j h hc (by omega) (by omega) ?_ (fun u' hu' => ih (j + 1) f u' (by omega) (by omega) hu')
    unfold sp
    rw [if_neg (by omega), if_pos (by omega), Nat.add_sub_cancel_left]
theorem cf_ok {K : Nat} {tk : Bool} {b u : Mm} (h : HK K tk b) (hs : 14 ≤ sz K) (hc : CI K tk b 0 u) : Ok (gX11_carryFlight u) (CI K tk b 14) := by
  unfold gX11_carryFlight gX11_carryFlight_b
  refine CI_b 74 2 h hc (by decide) (by omega) rfl (fun u1 h1 => ?_)
  refine CI_b 74 3 h h1 (by decide) (by omega) rfl (fun u2 h2 => ?_)
  refine CI_b 74 4 h h2 (by decide) (by omega) rfl (fun u3 h3 => ?_)
  refine CI_b 74 5 h h3 (by decide) (by omega) rfl (fun u4 h4 => ?_)
  refine CI_b 74 6 h h4 (by decide) (by omega) rfl (fun u5 h5 => ?_)
  refine CI_b 74 7 h h5 (by decide) (by omega) rfl (fun u6 h6 => ?_)
  refine CI_b 74 8 h h6 (by decide) (by omega) rfl (fun u7 h7 => ?_)
  refine CI_b 74 9 h h7 (by decide) (by omega) rfl (fun u8 h8 => ?_)
  exact cf_loop h hs 6 0 FU u8 rfl (by decide) h8
