/-! One step keeps the relation of two flights. -/
theorem FlTo_rel {a a' b b' sd ah : Nat → Int32} {v x : Int32} (hab : ∀ i, i < 8 → a i = b i) (h1 : FlyTo a a' sd ah v x) (h2 : FlyTo b b' sd ah v x) : ∀ i, i < 9 → a' i = b' i := by
  obtain ⟨p0, p1, p2, p3, p4, p5, p6, p7, p8⟩ := h1
  obtain ⟨q0, q1, q2, q3, q4, q5, q6, q7, q8⟩ := h2
  have r0 : a' 0 = b' 0 := by rw [p0, q0, hab 0 (by decide), hab 3 (by decide), hab 5 (by decide)]
  intro i hi
  have hc : i = 0 ∨ i = 1 ∨ i = 2 ∨ i = 3 ∨ i = 4 ∨ i = 5 ∨ i = 6 ∨ i = 7 ∨ i = 8 := by omega
  rcases hc with rfl | rfl | rfl | rfl | rfl | rfl | rfl | rfl | rfl
  · exact r0
  · rw [p1, q1, r0, hab 1 (by decide)]
  · rw [p2, q2, r0, hab 2 (by decide)]
  · rw [p3, q3, hab 3 (by decide)]
  · rw [p4, q4, hab 4 (by decide)]
  · rw [p5, q5, hab 5 (by decide)]
  · rw [p6, q6, hab 6 (by decide)]
  · rw [p7, q7, hab 7 (by decide)]
  · rw [p8, q8, r0, hab 0 (by decide), hab 3 (by decide), hab 5 (by decide)]
theorem mov_bd {h x s : Int32} (hx : 0 ≤ x.toInt ∧ x.toInt ≤ 999) : 0 ≤ (movS h x s).toInt ∧ (movS h x s).toInt ≤ 999 := by
  unfold movS
  split
  · exact clamp_bd (m := 999) (by decide)
  · exact hx
theorem FlTo_FB {a a' sd ah : Nat → Int32} {v x : Int32} (hF : FB a) (h : FlyTo a a' sd ah v x) (hg : v = 1 → 0 < (a 4).toInt) : FB a' := by
  obtain ⟨f0, f1, f2, f3, f4, f5, f6⟩ := hF
  obtain ⟨p0, p1, p2, p3, p4, p5, p6, -, -⟩ := h
  refine ⟨by rw [p0]; exact bd39, by rw [p1]; exact mov_bd f1, by rw [p2]; exact mov_bd f2, by rw [p3]; exact clamp_bd (m := 60) (by decide), ?_, by rw [p5]; exact f5, by rw [p6]; exact f6⟩
  rw [p4]
  by_cases hv : v = 1
  · rw [if_pos hv]
    have := hg hv
    rw [t_sub (by rw [i1]; omega) (by rw [i1]; omega), i1]
    omega
  · rw [if_neg hv]; exact f4
