/-! The past of the class. -/
theorem irm8 : ∀ x : Nat, x < 8 → irm (nI x + 1) 8 = nI ((x + 1) % 8) := by decide
theorem irm7 : ∀ x : Nat, x < 8 → irm (nI x + 8 - 1) 8 = nI ((x + 7) % 8) := by decide
theorem imin8 : ∀ x : Nat, x < 9 → imin (nI x + 1) 8 = nI (min (x + 1) 8) := by decide
theorem kd43 : ∀ x : Nat, x < 8 → kd (43 + x) = 5 := by decide
theorem slot_ok {u : Mm} {lt : Nat} (h : lt < 8) (e : u 41 1 = nI lt) : gX4_slotOfLatest u = some (43 + lt) := by
  unfold gX4_slotOfLatest gX4_slotOfLatest_b
  rw [e, if_neg (by rw [t_lt, t_nI (by omega), i0]; omega), show (8 : Int32) = nI 8 from rfl, if_pos (by rw [lt_nn (by omega) (by omega)]; omega), gd_t (ix_nI h (by decide)), ixn_nI (by omega)]
theorem cpFl {k0 k1 : Nat} (h : k0 ≠ k1) (u : Mm) : Ok (gX2_copyFrom k0 k1 u) (fun u' => (∀ c, c ≠ k0 → u' c = u c) ∧ ∀ i, i < 10 → u' k0 i = u k1 i) := by
  unfold gX2_copyFrom gX2_copyFrom_b
  simp only [letv_eq]
  have m : (k1 = k0) = False := eq_false (fun e => h e.symm)
  refine ok_some.mpr ⟨fun c hc => ?_, fun i hi => ?_⟩
  · repeat rw [stm_c hc]
  · have hi' : i = 0 ∨ i = 1 ∨ i = 2 ∨ i = 3 ∨ i = 4 ∨ i = 5 ∨ i = 6 ∨ i = 7 ∨ i = 8 ∨ i = 9 := by omega
    rcases hi' with rfl | rfl | rfl | rfl | rfl | rfl | rfl | rfl | rfl | rfl <;> simp +decide only [stm_d, ↓reduceIte, eq_self, m]
theorem pastAdd {u : Mm} {lt len : Nat} (h1 : lt < 8) (h2 : len < 9) (e1 : u 41 1 = nI lt) (e0 : u 41 0 = nI len) :
    Ok (gX4_add 14 u) (fun u' => (∀ c, c ≠ 41 → c ≠ 43 + (lt + 1) % 8 → u' c = u c) ∧ u' 41 1 = nI ((lt + 1) % 8) ∧ u' 41 0 = nI (min (len + 1) 8) ∧ ∀ i, i < 10 → u' (43 + (lt + 1) % 8) i = u 14 i) := by
  have hm : (lt + 1) % 8 < 8 := Nat.mod_lt _ (by decide)
  unfold gX4_add gX4_add_b
  rw [letv_eq, e1, irm8 lt h1, slot_ok (lt := (lt + 1) % 8) hm stm_r, Option.bind_some, if_neg (by omega), gd_t (kd43 _ hm), ok_bind]
  refine (cpFl (k0 := 43 + (lt + 1) % 8) (k1 := 14) (by omega) _).mono (fun u1 h => ?_)
  obtain ⟨hf, hc⟩ := h
  unfold gX4_add_27
  have g0 : u1 41 0 = nI len := by rw [hf 41 (by omega), stm_s (by decide)]; exact e0
  rw [letv_eq, g0, imin8 len h2]
  refine ok_some.mpr ⟨fun c a b => ?_, ?_, stm_r, fun i hi => ?_⟩
  · rw [stm_c a, hf c b, stm_c a]
  · rw [stm_s (by decide), hf 41 (by omega)]; exact stm_r
  · rw [stm_c (by omega), hc i hi, stm_c (by decide)]
