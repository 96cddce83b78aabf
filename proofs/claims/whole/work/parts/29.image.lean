/-! The copy of a world; image. -/
theorem LR_keep {u u' : Mm} (h : LR u) (h1 : u' 52 = u 52) (h2 : u' 53 = u 53) (h3 : u' 85 = u 85) (h4 : u' 74 23 = u 74 23) : LR u' := by
  obtain ⟨n, a, b, c, d⟩ := h
  exact ⟨n, a, by rw [h1]; exact b, h4.trans c, by rw [h2, h3]; exact d⟩
theorem NR_keep {u u' : Mm} (h : NR u) (h1 : u' 54 = u 54) (h2 : u' 55 = u 55) (h3 : u' 100 = u 100) (h4 : u' 74 58 = u 74 58) : NR u' := by
  obtain ⟨n, a, b, c, d⟩ := h
  exact ⟨n, a, by rw [h1]; exact b, h4.trans c, by rw [h2, h3]; exact d⟩
theorem XR_keep {u u' : Mm} (h : XR u) (h1 : u' 56 = u 56) (h2 : u' 84 = u 84) : XR u' := by
  unfold XR
  rw [h1, h2]
  exact h
theorem WR_cg {s a kn kd fg lf nr sz rd ln fl v s' a' kn' kd' fg' lf' nr' sz' rd' ln' fl' v' : Nat → Int32} (h : WR s a kn kd fg lf nr sz rd ln fl v)
    (h1 : ∀ i, i < 8 → s' i = s i ∧ a' i = a i ∧ kd' i = kd i ∧ fg' i = fg i ∧ lf' i = lf i ∧ nr' i = nr i ∧ sz' i = sz i) (h2 : kn' 0 = kn 0) (h3 : rd' 0 = rd 0) (h4 : ∀ i, i < 64 → ln' i = ln i) (h5 : ∀ i, i < 10 → fl' i = fl i) (h6 : ∀ q, q < 136 → v' q = v q) :
    WR s' a' kn' kd' fg' lf' nr' sz' rd' ln' fl' v' := by
  obtain ⟨⟨f1, f2, f3⟩, g1, g2, g3, g4, g5, g6, g7, g8, g9⟩ := h
  refine ⟨⟨fun i hi => ?_, ?_, ?_⟩, ?_, ?_, ?_, ?_, ?_, ?_, fun i hi => ?_, fun i hi => ?_, fun i hi => ?_⟩
  · rw [h5 i (by omega), h6 i (by omega)]; exact f1 i hi
  · unfold FB
    rw [h5 0 (by decide), h5 1 (by decide), h5 2 (by decide), h5 3 (by decide), h5 4 (by decide), h5 5 (by decide), h5 6 (by decide)]
    exact f2
  · rw [h5 9 (by decide), h5 6 (by decide)]
    exact UW_cg (fun j hj => (h6 (8 + j) (by omega)).symm) f3
  · rw [h5 7 (by decide)]; exact g1
  · rw [h5 7 (by decide)]; exact g2
  · rw [h2, h6 14 (by decide)]; exact g3
  · rw [h3, h6 15 (by decide)]; exact g4
  · rw [h2]; exact g5
  · rw [h3]; exact g6
  · obtain ⟨a1, a2, a3, a4, a5, a6, a7⟩ := h1 i hi
    rw [a1, a2, a3, a4, a5, a6, a7, h6 _ (by omega), h6 _ (by omega), h6 _ (by omega), h6 _ (by omega), h6 _ (by omega), h6 _ (by omega), h6 _ (by omega)]
    exact g7 i hi
  · rw [h4 i hi, h6 _ (by omega)]; exact g8 i hi
  · rw [h2] at hi
    obtain ⟨a1, a2, a3, a4, a5, a6, a7⟩ := h1 i (by omega)
    rw [a5, a6, a7]
    exact g9 i hi
theorem cpw {k0 k1 : Nat} (hd : k0 + 20 < k1 ∨ k1 + 20 < k0) (u : Mm) : Ok (gX9_copyFrom k0 k1 u) (fun u' => (∀ c, (c < k0 + 2 ∨ k0 + 12 < c) → u' c = u c) ∧ u' (k0 + 4) 0 = u (k1 + 4) 0 ∧ u' (k0 + 10) 0 = u (k1 + 10) 0 ∧ (∀ i, i < 8 → u' (k0 + 2) i = u (k1 + 2) i) ∧ (∀ i, i < 8 → u' (k0 + 3) i = u (k1 + 3) i) ∧ (∀ i, i < 8 → u' (k0 + 5) i = u (k1 + 5) i) ∧ (∀ i, i < 8 → u' (k0 + 6) i = u (k1 + 6) i) ∧ (∀ i, i < 8 → u' (k0 + 7) i = u (k1 + 7) i) ∧ (∀ i, i < 8 → u' (k0 + 8) i = u (k1 + 8) i) ∧ (∀ i, i < 8 → u' (k0 + 9) i = u (k1 + 9) i) ∧ (∀ i, i < 64 → u' (k0 + 11) i = u (k1 + 11) i) ∧ ∀ i, i < 10 → u' (k0 + 12) i = u (k1 + 12) i) := by
  unfold gX9_copyFrom gX9_copyFrom_b gX0_copyFrom gX0_copyFrom_b
  rw [ok_bind]
  refine (cp_air (k0 := k0 + 1) (k1 := k1 + 1) (by omega) 8 0 FU u rfl (by decide)).mono (fun u1 h1 => ?_)
  obtain ⟨f1, a2, a3⟩ := h1
  unfold gX1_copyFrom gX1_copyFrom_b
  rw [ok_bind, letv_eq]
  refine (cp_fld (k0 := k0 + 4) (k1 := k1 + 4) (by omega) 8 0 FU _ rfl (by decide)).mono (fun u2 h2 => ?_)
  obtain ⟨f2, b5, b6, b7, b8, b9⟩ := h2
  unfold gX6_copyFrom gX6_copyFrom_b
  rw [ok_bind, letv_eq]
  refine (cp_rd (k0 := k0 + 10) (k1 := k1 + 10) (by omega) 64 0 FU _ rfl (by decide)).mono (fun u3 h3 => ?_)
  obtain ⟨f3, c11⟩ := h3
  have F2 : ∀ c, (c < k0 + 4 ∨ k0 + 9 < c) → u2 c = u1 c := fun c hc => (f2 c (by omega) (by omega) (by omega) (by omega) (by omega)).trans (stm_c (by omega))
  have F1 : ∀ c, (c < k0 + 2 ∨ k0 + 3 < c) → u1 c = u c := fun c hc => f1 c (by omega) (by omega)
  have F3 : ∀ c, (c < k0 + 10 ∨ k0 + 11 < c) → u3 c = u2 c := fun c hc => (f3 c (by omega)).trans (stm_c (by omega))
  have m : ∀ a, a < 13 → (k1 + a < k0 + 2 ∨ k0 + 12 < k1 + a) := fun a ha => by omega
  unfold gX2_copyFrom gX2_copyFrom_b
  simp only [letv_eq, Option.bind_some]
  refine ok_some.mpr ⟨fun c hc => ?_, ?_, ?_, fun i hi => ?_, fun i hi => ?_, fun i hi => ?_, fun i hi => ?_, fun i hi => ?_, fun i hi => ?_, fun i hi => ?_, fun i hi => ?_, fun i hi => ?_⟩
  · repeat rw [stm_c (show c ≠ k0 + 12 by omega)]
    rw [F3 c (by omega), F2 c (by omega), F1 c (by omega)]
  · repeat rw [stm_c (show k0 + 4 ≠ k0 + 12 by omega)]
    rw [F3 _ (by omega), f2 _ (by omega) (by omega) (by omega) (by omega) (by omega), stm_r, F1 _ (by omega)]
  · repeat rw [stm_c (show k0 + 10 ≠ k0 + 12 by omega)]
    rw [f3 _ (by omega), stm_r, F2 _ (by omega), F1 _ (by omega)]
  · repeat rw [stm_c (show k0 + 2 ≠ k0 + 12 by omega)]
    rw [F3 _ (by omega), F2 _ (by omega), show k0 + 2 = k0 + 1 + 1 by omega, a2 i, if_pos (by omega)]
  · repeat rw [stm_c (show k0 + 3 ≠ k0 + 12 by omega)]
    rw [F3 _ (by omega), F2 _ (by omega), show k0 + 3 = k0 + 1 + 2 by omega, a3 i, if_pos (by omega)]
  · repeat rw [stm_c (show k0 + 5 ≠ k0 + 12 by omega)]
    rw [F3 _ (by omega), show k0 + 5 = k0 + 4 + 1 by omega, b5 i, if_pos (by omega), stm_c (by omega), F1 _ (by omega)]
  · repeat rw [stm_c (show k0 + 6 ≠ k0 + 12 by omega)]
    rw [F3 _ (by omega), show k0 + 6 = k0 + 4 + 2 by omega, b6 i, if_pos (by omega), stm_c (by omega), F1 _ (by omega)]
  · repeat rw [stm_c (show k0 + 7 ≠ k0 + 12 by omega)]
    rw [F3 _ (by omega), show k0 + 7 = k0 + 4 + 3 by omega, b7 i, if_pos (by omega), stm_c (by omega), F1 _ (by omega)]
  · repeat rw [stm_c (show k0 + 8 ≠ k0 + 12 by omega)]
    rw [F3 _ (by omega), show k0 + 8 = k0 + 4 + 4 by omega, b8 i, if_pos (by omega), stm_c (by omega), F1 _ (by omega)]
  · repeat rw [stm_c (show k0 + 9 ≠ k0 + 12 by omega)]
    rw [F3 _ (by omega), show k0 + 9 = k0 + 4 + 5 by omega, b9 i, if_pos (by omega), stm_c (by omega), F1 _ (by omega)]
  · repeat rw [stm_c (show k0 + 11 ≠ k0 + 12 by omega)]
    rw [show k0 + 11 = k0 + 10 + 1 by omega, c11 i, if_pos (by omega), stm_c (by omega), F2 _ (by omega), F1 _ (by omega)]
  · have g : u3 (k1 + 12) = u (k1 + 12) := by rw [F3 _ (by omega), F2 _ (by omega), F1 _ (by omega)]
    have m12 : (k1 + 12 = k0 + 12) = False := eq_false (by omega)
    have hi' : i = 0 ∨ i = 1 ∨ i = 2 ∨ i = 3 ∨ i = 4 ∨ i = 5 ∨ i = 6 ∨ i = 7 ∨ i = 8 ∨ i = 9 := by omega
    rcases hi' with rfl | rfl | rfl | rfl | rfl | rfl | rfl | rfl | rfl | rfl <;> simp +decide only [stm_d, ↓reduceIte, eq_self, m12, g]
