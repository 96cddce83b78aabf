/-! The law, call by call. -/
theorem ite_go {X : Type} {c : Prop} [Decidable c] {a b r : X} (h1 : c → a = r) (h2 : ¬ c → b = r) : (if c then a else b) = r := by
  by_cases h : c
  · rw [if_pos h]; exact h1 h
  · rw [if_neg h]; exact h2 h
theorem both_go {a : Option (Int32 × Mm)} {b : Mm → Option (Int32 × Mm)} (h : Both a b) {J : Mm → Option Int32} (hJ : ∀ v, R v → J v = some 1) : (bI a fun r v => bI (b v) fun r2 v2 => if r = r2 then J v2 else none) = some 1 := by
  obtain ⟨r, u1, u2, h1, h2, h3⟩ := h
  rw [h1, bI_some, h2, bI_some, if_pos rfl]
  exact hJ u2 h3
theorem bothP_go {a : Option Int32} {b : Option (Int32 × Mm)} (h : BothP a b) {J : Mm → Option Int32} (hJ : ∀ v, R v → J v = some 1) : (a.bind fun r => bI b fun r2 v2 => if r = r2 then J v2 else none) = some 1 := by
  obtain ⟨r, u2, h1, h2, h3⟩ := h
  rw [h1, Option.bind_some, h2, bI_some, if_pos rfl]
  exact hJ u2 h3
theorem bothJ_go {a : Option (Int64 × Mm)} {b : Mm → Option (Int64 × Mm)} (h : BothJ a b) {J : Mm → Option Int32} (hJ : ∀ v, R v → J v = some 1) : (bJ a fun r v => bJ (b v) fun r2 v2 => if lg_cmp r r2 = 0 then J v2 else none) = some 1 := by
  obtain ⟨r, u1, u2, h1, h2, h3⟩ := h
  rw [h1]
  show (bJ (b u1) fun r2 v2 => if lg_cmp r r2 = 0 then J v2 else none) = some 1
  rw [h2]
  show (if lg_cmp r r = 0 then J u2 else none) = some 1
  rw [if_pos ((lg_cmp_eq r r).mpr rfl)]
  exact hJ u2 h3
theorem law_step {L : Nat} {xs : Nat → Int32} {j18 : Int32 → Mm → Option Int32} {v3 : Int32} {u : Mm} (hR : R u) (hv : ¬ nI L - 5 < v3 → ix v3 L ∧ ix (v3 + 1) L ∧ ix (v3 + 2) L ∧ ix (v3 + 3) L ∧ ix (v3 + 4) L) (hJ : ∀ v, R v → j18 (v3 + 5) v = some 1) : gL_law_18_Ls L xs j18 v3 u = some 1 := by
  unfold gL_law_18_Ls
  refine ite_go (fun _ => rfl) (fun c => ?_)
  obtain ⟨g0, g1, g2, g3, g4⟩ := hv c
  rw [gd_t g0]
  refine ite_go (fun _ => ?_) (fun _ => ?_)
  · simp only [gd_t g1]
    exact both_go (c_feed _ u hR) hJ
  refine ite_go (fun _ => ?_) (fun _ => ?_)
  · exact both_go (c_land u hR) hJ
  refine ite_go (fun _ => ?_) (fun _ => ?_)
  · simp only [gd_t g1, gd_t g2]
    exact both_go (c_layer _ _ u hR) hJ
  refine ite_go (fun _ => ?_) (fun _ => ?_)
  · simp only [gd_t g1, gd_t g2, gd_t g3]
    exact both_go (c_wind _ _ _ u hR) hJ
  refine ite_go (fun _ => ?_) (fun _ => ?_)
  · simp only [gd_t g1, gd_t g2]
    exact both_go (c_field _ _ u hR) hJ
  refine ite_go (fun _ => ?_) (fun _ => ?_)
  · simp only [gd_t g1, gd_t g2]
    exact both_go (c_cost _ _ u hR) hJ
  refine ite_go (fun _ => ?_) (fun _ => ?_)
  · simp only [gd_t g1]
    exact both_go (c_drag _ u hR) hJ
  refine ite_go (fun _ => ?_) (fun _ => ?_)
  · simp only [gd_t g1, gd_t g2]
    exact both_go (c_set _ _ u hR) hJ
  refine ite_go (fun _ => ?_) (fun _ => ?_)
  · exact bothP_go (c_rising u hR) hJ
  refine ite_go (fun _ => ?_) (fun _ => ?_)
  · simp only [gd_t g1]
    exact both_go (c_go _ u hR) hJ
  refine ite_go (fun _ => ?_) (fun _ => ?_)
  · exact both_go (c_back u hR) hJ
  refine ite_go (fun _ => ?_) (fun _ => ?_)
  · simp only [gd_t g1, gd_t g2, gd_t g3]
    exact both_go (c_plan _ _ _ u hR) hJ
  refine ite_go (fun _ => ?_) (fun _ => ?_)
  · simp only [gd_t g1, gd_t g2]
    exact both_go (c_had _ _ u hR) hJ
  refine ite_go (fun _ => ?_) (fun _ => ?_)
  · simp only [gd_t g1]
    exact both_go (c_best _ u hR) hJ
  refine ite_go (fun _ => ?_) (fun _ => ?_)
  · exact both_go (c_left u hR) hJ
  refine ite_go (fun _ => ?_) (fun _ => ?_)
  · simp only [gd_t g1]
    exact both_go (c_keep _ u hR) hJ
  refine ite_go (fun _ => ?_) (fun _ => ?_)
  · simp only [gd_t g1]
    exact both_go (c_goingOn _ u hR) hJ
  refine ite_go (fun _ => ?_) (fun _ => ?_)
  · simp only [gd_t g1]
    exact both_go (c_blown _ u hR) hJ
  refine ite_go (fun _ => ?_) (fun _ => ?_)
  · simp only [gd_t g1, gd_t g2, gd_t g3]
    exact both_go (c_two _ _ _ u hR) hJ
  refine ite_go (fun _ => ?_) (fun _ => ?_)
  · simp only [gd_t g1]
    exact both_go (c_swing _ u hR) hJ
  refine ite_go (fun _ => ?_) (fun _ => ?_)
  · exact both_go (c_calm u hR) hJ
  refine ite_go (fun _ => ?_) (fun _ => ?_)
  · exact bothP_go (c_out u hR) hJ
  refine ite_go (fun _ => ?_) (fun _ => ?_)
  · simp only [gd_t g1, gd_t g2, gd_t g3]
    exact both_go (c_road _ _ _ u hR) hJ
  refine ite_go (fun _ => ?_) (fun _ => ?_)
  · simp only [gd_t g1]
    exact both_go (c_car _ u hR) hJ
  refine ite_go (fun _ => ?_) (fun _ => ?_)
  · simp only [gd_t g1]
    exact both_go (c_drive _ u hR) hJ
  refine ite_go (fun _ => ?_) (fun _ => ?_)
  · exact both_go (c_waitAt u hR) hJ
  refine ite_go (fun _ => ?_) (fun _ => ?_)
  · simp only [gd_t g1]
    exact bothJ_go (c_meanWait _ u hR) hJ
  refine ite_go (fun _ => ?_) (fun _ => ?_)
  · simp only [gd_t g1, gd_t g2]
    exact both_go (c_turned _ _ u hR) hJ
  refine ite_go (fun _ => ?_) (fun _ => ?_)
  · simp only [gd_t g1]
    exact both_go (c_track _ u hR) hJ
  refine ite_go (fun _ => ?_) (fun _ => ?_)
  · simp only [gd_t g1]
    exact both_go (c_row _ u hR) hJ
  refine ite_go (fun _ => ?_) (fun _ => ?_)
  · exact both_go (c_judge u hR) hJ
  refine ite_go (fun _ => ?_) (fun _ => ?_)
  · exact both_go (c_clear u hR) hJ
  refine ite_go (fun _ => ?_) (fun _ => ?_)
  · simp only [gd_t g1, gd_t g2, gd_t g3]
    exact both_go (c_lots _ _ _ u hR) hJ
  refine ite_go (fun _ => ?_) (fun _ => ?_)
  · simp only [gd_t g1]
    exact both_go (c_crew _ u hR) hJ
  refine ite_go (fun _ => ?_) (fun _ => ?_)
  · exact both_go (c_whichLag u hR) hJ
  refine ite_go (fun _ => ?_) (fun _ => ?_)
  · simp only [gd_t g1, gd_t g2, gd_t g3, gd_t g4]
    exact both_go (c_windFor _ _ _ _ u hR) hJ
  refine ite_go (fun _ => ?_) (fun _ => ?_)
  · simp only [gd_t g1, gd_t g2, gd_t g3]
    exact both_go (c_span _ _ _ u hR) hJ
  refine ite_go (fun _ => ?_) (fun _ => ?_)
  · simp only [gd_t g1]
    exact both_go (c_flown _ u hR) hJ
  refine ite_go (fun _ => ?_) (fun _ => ?_)
  · simp only [gd_t g1]
    exact both_go (c_ceiling _ u hR) hJ
  refine ite_go (fun _ => ?_) (fun _ => ?_)
  · simp only [gd_t g1]
    exact both_go (c_game _ u hR) hJ
  refine ite_go (fun _ => ?_) (fun _ => ?_)
  · simp only [gd_t g1, gd_t g2, gd_t g3]
    exact both_go (c_another _ _ _ u hR) hJ
  refine ite_go (fun _ => ?_) (fun _ => ?_)
  · simp only [gd_t g1, gd_t g2, gd_t g3]
    exact both_go (c_chase _ _ _ u hR) hJ
  refine ite_go (fun _ => ?_) (fun _ => ?_)
  · simp only [gd_t g1, gd_t g2]
    exact both_go (c_tour _ _ u hR) hJ
  refine ite_go (fun _ => ?_) (fun _ => ?_)
  · simp only [gd_t g1]
    exact both_go (c_twoCars _ u hR) hJ
  refine ite_go (fun _ => ?_) (fun _ => ?_)
  · exact both_go (c_image u hR) hJ
  refine ite_go (fun _ => ?_) (fun _ => ?_)
  · exact both_go (c_restore u hR) hJ
  refine ite_go (fun _ => ?_) (fun _ => ?_)
  · simp only [gd_t g1]
    exact bothP_go (c_count _ u hR) hJ
  exact hJ u hR
theorem ix_add {L j k : Nat} (h : 5 * j + k < L) (hL : L ≤ 2560) (hk : k < 5) : ix (nI (5 * j) + nI k) L := by
  rw [nI_a (by omega)]
  exact ix_nI h (by omega)
theorem law_ok (L : Nat) (xs : Nat → Int32) (hL : L ≤ 2560) : gL_law_16 L xs u0 = some 1 := by
  have main : ∀ (d j fuel : Nat) (u : Mm), j + d = 513 → d < fuel → R u → gL_law_18_L L xs fuel (nI (5 * j)) u = some 1 := by
    intro d
    induction d with
    | zero =>
      intro j fuel u hj hf hR
      obtain ⟨g, rfl⟩ : ∃ g, fuel = g + 1 := ⟨fuel - 1, by omega⟩
      obtain rfl : j = 513 := by omega
      show gL_law_18_Ls L xs (gL_law_18_L L xs g) (nI (5 * 513)) u = some 1
      unfold gL_law_18_Ls
      refine if_pos ?_
      have h1 := t_nI (show L < 2147483648 by omega)
      have h2 := t_nI (show 5 * 513 < 2147483648 by omega)
      rw [t_lt, h2, t_sub (by rw [h1, i5]; omega) (by rw [h1, i5]; omega), h1, i5]
      omega
    | succ d ih =>
      intro j fuel u hj hf hR
      obtain ⟨g, rfl⟩ : ∃ g, fuel = g + 1 := ⟨fuel - 1, by omega⟩
      show gL_law_18_Ls L xs (gL_law_18_L L xs g) (nI (5 * j)) u = some 1
      refine law_step hR (fun c => ?_) (fun v hv => ?_)
      · have h1 := t_nI (show L < 2147483648 by omega)
        have h2 := t_nI (show 5 * j < 2147483648 by omega)
        rw [t_lt, h2, t_sub (by rw [h1, i5]; omega) (by rw [h1, i5]; omega), h1, i5] at c
        exact ⟨ix_nI (by omega) (by omega), ix_add (k := 1) (by omega) hL (by decide), ix_add (k := 2) (by omega) hL (by decide), ix_add (k := 3) (by omega) hL (by decide), ix_add (k := 4) (by omega) hL (by decide)⟩
      · rw [show nI (5 * j) + 5 = nI (5 * (j + 1)) from (nI_a (b := 5) (by omega)).trans (by rw [Nat.mul_add])]
        exact ih (j + 1) g v (by omega) (by omega) hv
  exact main 513 0 FU u0 rfl (by decide) R_init
theorem whole_start {p : Program} {e : Env} {s : State} {m : MethodId} {below : List Frame} {meth : Method} {c : Code} (l : Launch) (hflags : l.flags = flags0) {b L : Nat} {xs : Nat → Int32} (hL : L ≤ 2560) (C0 : lw_At p s m meth c b L xs) : W p l e room_1 s m #[Value.ref b] below meth c s.heap [] 0 0 (lw_Z below #[Value.ref b] s) (entryFrame m ([Value.ref b] : List Value).toArray 4) := whole_of law_ok l hL C0
