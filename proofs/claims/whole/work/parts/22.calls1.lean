/-! The plain calls. -/
def WC (u : Mm) : Prop :=
  (u 14 0 = u 74 2 ∧ u 14 1 = u 74 3 ∧ u 14 2 = u 74 4 ∧ u 14 3 = u 74 5 ∧ u 14 4 = u 74 6 ∧ u 14 5 = u 74 7 ∧ u 14 6 = u 74 8 ∧ u 14 7 = u 74 9) ∧ FB (u 14) ∧ UW (u 14 9) (u 14 6) (u 77) ∧ ((u 14 7).toInt ≤ 999 ∧ 0 ≤ (u 14 7).toInt) ∧
  (u 6 0 = u 74 11 ∧ 0 ≤ (u 6 0).toInt ∧ (u 6 0).toInt ≤ 8) ∧ (u 12 0 = u 74 18 ∧ 0 ≤ (u 12 0).toInt ∧ (u 12 0).toInt ≤ 7) ∧
  (∀ i, i < 8 → u 4 i = u 75 i ∧ u 5 i = u 76 i ∧ u 7 i = u 78 i ∧ u 8 i = u 79 i ∧ u 9 i = u 80 i ∧ u 10 i = u 81 i ∧ u 11 i = u 82 i) ∧
  (∀ i, i < 64 → u 13 i = u 83 i ∧ 0 ≤ (u 13 i).toInt ∧ (u 13 i).toInt ≤ 99 ∧ u 13 i = u 13 (8 * (i % 8) + i / 8)) ∧
  (∀ i : Nat, (i : Int) < (u 6 0).toInt → (0 ≤ (u 9 i).toInt ∧ (u 9 i).toInt ≤ 999) ∧ (0 ≤ (u 10 i).toInt ∧ (u 10 i).toInt ≤ 999) ∧ (1 ≤ (u 11 i).toInt ∧ (u 11 i).toInt ≤ 30) ∧ (0 ≤ (u 8 i).toInt ∧ (u 8 i).toInt ≤ 9))
theorem mV_f (u : Mm) {i : Nat} (h : i < 8) : mV u i = u 74 (i + 2) := if_pos h
theorem mV_w (u : Mm) {j : Nat} (h : j < 6) : mV u (8 + j) = u 77 j := by
  unfold mV
  rw [if_neg (by omega), if_pos (by omega), Nat.add_sub_cancel_left]
theorem mV_r (u : Mm) (i : Nat) : mV u (72 + i) = u 83 i := by
  unfold mV
  rw [if_neg (by omega), if_neg (by omega), if_neg (by omega), if_neg (by omega), if_neg (by omega), Nat.add_sub_cancel_left]
theorem mV_7 (u : Mm) {i : Nat} (h : i < 8) : mV u (16 + 7 * i) = u 75 i ∧ mV u (17 + 7 * i) = u 76 i ∧ mV u (18 + 7 * i) = u 78 i ∧ mV u (19 + 7 * i) = u 79 i ∧ mV u (20 + 7 * i) = u 80 i ∧ mV u (21 + 7 * i) = u 81 i ∧ mV u (22 + 7 * i) = u 82 i := by
  match i, h with
  | 0, _ => exact ⟨rfl, rfl, rfl, rfl, rfl, rfl, rfl⟩
  | 1, _ => exact ⟨rfl, rfl, rfl, rfl, rfl, rfl, rfl⟩
  | 2, _ => exact ⟨rfl, rfl, rfl, rfl, rfl, rfl, rfl⟩
  | 3, _ => exact ⟨rfl, rfl, rfl, rfl, rfl, rfl, rfl⟩
  | 4, _ => exact ⟨rfl, rfl, rfl, rfl, rfl, rfl, rfl⟩
  | 5, _ => exact ⟨rfl, rfl, rfl, rfl, rfl, rfl, rfl⟩
  | 6, _ => exact ⟨rfl, rfl, rfl, rfl, rfl, rfl, rfl⟩
  | 7, _ => exact ⟨rfl, rfl, rfl, rfl, rfl, rfl, rfl⟩
theorem UW_cg {a b : Int32} {w w' : Nat → Int32} (h : ∀ j, j < 6 → w j = w' j) (hU : UW a b w) : UW a b w' := by
  obtain ⟨n, h1, h2, h3⟩ := hU
  exact ⟨n, h1, h2, fun j hj => ⟨(h3 j hj).1, by rw [← h j hj]; exact (h3 j hj).2⟩⟩
theorem FlR_of {a b : Nat → Int32} {w : Nat → Int32} (h : a 0 = b 0 ∧ a 1 = b 1 ∧ a 2 = b 2 ∧ a 3 = b 3 ∧ a 4 = b 4 ∧ a 5 = b 5 ∧ a 6 = b 6 ∧ a 7 = b 7) (hF : FB a) (hU : UW (a 9) (a 6) w) (hw : ∀ j, j < 6 → w j = b (8 + j)) : FlR a b := by
  refine ⟨fun i hi => ?_, hF, UW_cg hw hU⟩
  obtain ⟨h0, h1, h2, h3, h4, h5, h6, h7⟩ := h
  match i, hi with
  | 0, _ => exact h0
  | 1, _ => exact h1
  | 2, _ => exact h2
  | 3, _ => exact h3
  | 4, _ => exact h4
  | 5, _ => exact h5
  | 6, _ => exact h6
  | 7, _ => exact h7
theorem WN_iff (u : Mm) : WN u ↔ WC u := by
  constructor
  · rintro ⟨⟨f1, f2, f3⟩, s1, s2, k, c, kb, cb, rows, rds, fb⟩
    refine ⟨⟨f1 0 (by decide), f1 1 (by decide), f1 2 (by decide), f1 3 (by decide), f1 4 (by decide), f1 5 (by decide), f1 6 (by decide), f1 7 (by decide)⟩, f2, UW_cg (fun j hj => mV_w u hj) f3, ⟨s1, s2⟩, ⟨k, kb⟩, ⟨c, cb⟩, fun i hi => ?_, fun i hi => ?_, fb⟩
    · obtain ⟨m1, m2, m3, m4, m5, m6, m7⟩ := mV_7 u hi
      obtain ⟨r1, r2, r3, r4, r5, r6, r7⟩ := rows i hi
      exact ⟨r1.trans m1, r2.trans m2, r3.trans m3, r4.trans m4, r5.trans m5, r6.trans m6, r7.trans m7⟩
    · exact ⟨(rds i hi).1.trans (mV_r u i), (rds i hi).2⟩
  · rintro ⟨f1, f2, f3, ⟨s1, s2⟩, ⟨k, kb⟩, ⟨c, cb⟩, rows, rds, fb⟩
    refine ⟨FlR_of f1 f2 f3 (fun j hj => (mV_w u hj).symm), s1, s2, k, c, kb, cb, fun i hi => ?_, fun i hi => ?_, fb⟩
    · obtain ⟨m1, m2, m3, m4, m5, m6, m7⟩ := mV_7 u hi
      obtain ⟨r1, r2, r3, r4, r5, r6, r7⟩ := rows i hi
      exact ⟨r1.trans m1.symm, r2.trans m2.symm, r3.trans m3.symm, r4.trans m4.symm, r5.trans m5.symm, r6.trans m6.symm, r7.trans m7.symm⟩
    · exact ⟨(rds i hi).1.trans (mV_r u i).symm, (rds i hi).2⟩
theorem R.wc {u : Mm} (h : R u) : WC u := (WN_iff u).mp h.1
theorem PR_forget {u u' : Mm} (h : PR u) (h0 : u' 41 0 = 0) (h1 : u' 74 40 = 0) (h2 : u' 41 1 = u 41 1) : PR u' := by
  obtain ⟨len, lt, a1, a2, a3, a4, a5, a6⟩ := h
  exact ⟨0, lt, by decide, a2, h0, h1, h2.trans a5, fun j hj => absurd hj (Nat.not_lt_zero _)⟩
abbrev thr (u : Mm) : Mm := stm u 74 19 0
theorem stm_comm {u : Mm} {k k' i i' : Nat} {v v' : Int32} (h : k ≠ k') : stm (stm u k i v) k' i' v' = stm (stm u k' i' v') k i v := by
  funext c
  by_cases h1 : c = k
  · subst h1
    rw [stm_c h, stm_eq, stm_eq, stm_c h]
  · by_cases h2 : c = k'
    · subst h2
      rw [stm_eq, stm_c h1, stm_c h1, stm_eq]
    · rw [stm_c h2, stm_c h1, stm_c h1, stm_c h2]
theorem R_ref {u : Mm} {k : Nat} (hR : R u) : R (rfM (thr (rfC u k)) k) := by
  have e : rfM (thr (rfC u k)) k = thr (rfM (rfC u k) k) := by
    unfold rfM thr
    rw [stm_c (show (84 : Nat) ≠ 74 by decide), stm_comm (by decide)]
  rw [e]
  exact (Sm_thrown _ _).keep (R_refuse hR)
theorem Both_ref {a : Option (Int32 × Mm)} {b : Mm → Option (Int32 × Mm)} {u : Mm} {k : Nat} {r : Int32} (hR : R u) (ha : a = some (r, rfC u k)) (hb : b (rfC u k) = some (r, rfM (thr (rfC u k)) k)) : Both a b := ⟨r, _, _, ha, hb, R_ref hR⟩
theorem rC1 (u : Mm) : gX10_refuse (-1) u = some (-1, rfC u 1) := refuseC u 1 (by decide)
theorem rC2 (u : Mm) : gX10_refuse (-2) u = some (-2, rfC u 2) := refuseC u 2 (by decide)
theorem rC3 (u : Mm) : gX10_refuse (-3) u = some (-3, rfC u 3) := refuseC u 3 (by decide)
theorem rC4 (u : Mm) : gX10_refuse (-4) u = some (-4, rfC u 4) := refuseC u 4 (by decide)
theorem rC6 (u : Mm) : gX10_refuse (-6) u = some (-6, rfC u 6) := refuseC u 6 (by decide)
theorem rM1 (u : Mm) : gX11_refuse (-1) u = some (-1, rfM u 1) := refuseM u 1 (by decide)
theorem rM2 (u : Mm) : gX11_refuse (-2) u = some (-2, rfM u 2) := refuseM u 2 (by decide)
theorem rM3 (u : Mm) : gX11_refuse (-3) u = some (-3, rfM u 3) := refuseM u 3 (by decide)
theorem rM4 (u : Mm) : gX11_refuse (-4) u = some (-4, rfM u 4) := refuseM u 4 (by decide)
theorem rM6 (u : Mm) : gX11_refuse (-6) u = some (-6, rfM u 6) := refuseM u 6 (by decide)
theorem wrongN (v a b : Int32) : gX11_wrongNumber v a b = some (if v.toInt < a.toInt then -4 else if b.toInt < v.toInt then -6 else 0) := by
  unfold gX11_wrongNumber gX11_wrongNumber_b
  simp only [t_lt]
  split
  · rfl
  · split <;> rfl
theorem wrongB (w v m : Int32) : gX11_wrongBit w v m = some (if w = 0 then (if 0 ≤ v.toInt ∧ v.toInt ≤ m.toInt then 0 else -2) else w) := by
  unfold gX11_wrongBit gX11_wrongBit_b
  by_cases hw : w = 0
  · rw [if_pos hw, if_pos hw, show (0 : Int64) = (0 : Int32).toInt64 from rfl, in_ii]
    subst hw
    by_cases hv : 0 ≤ v.toInt ∧ v.toInt ≤ m.toInt
    · rw [bz_t (p := (0 : Int32).toInt ≤ v.toInt ∧ v.toInt ≤ m.toInt) hv, if_pos hv]
      rfl
    · rw [bz_f (p := (0 : Int32).toInt ≤ v.toInt ∧ v.toInt ≤ m.toInt) hv, if_neg hv]
      rfl
  · rw [if_neg hw, if_neg hw]
theorem c_rising (u : Mm) (hR : R u) : BothP (gX10_rising u) (gX11_rising u) := by
  obtain ⟨⟨f0, f1, f2, f3, f4, f5, f6, f7⟩, -⟩ := hR.wc
  refine ⟨(u 14 3 - (12 + 2 * u 14 5)) / 4, thr u, rfl, ?_, (Sm_thrown u 0).keep hR⟩
  rw [f3, f5]
  rfl
theorem c_car (v : Int32) (u : Mm) (hR : R u) : Both (gX10_car v u) (gX11_car v) := by
  obtain ⟨c1, c2, c3, c4, c5, c6, c7, c8, c9⟩ := hR.wc
  by_cases hv : 0 ≤ v.toInt ∧ v.toInt < 8
  · refine ⟨u 12 0, stm (stm u 12 0 v) 41 0 0, stm (stm (thr (stm (stm u 12 0 v) 41 0 0)) 74 18 v) 74 40 0, ?_, ?_, ?_⟩
    · simp [gX10_car, gX10_car_b, isPlace_eq, bz_t hv, letv_eq, gX4_forget, gX4_forget_b]
    · rw [c6.1]
      simp [gX11_car, gX11_car_b, mPlace_eq, bz_t hv, letv_eq, stm_d]
    · exact ⟨(WN_iff _).mpr ⟨c1, c2, c3, c4, c5, ⟨rfl, hv.1, by show v.toInt ≤ 7; omega⟩, c7, c8, c9⟩, hR.2.1, PR_forget hR.2.2.1 rfl rfl rfl, hR.2.2.2.1, hR.2.2.2.2.1, hR.2.2.2.2.2⟩
  · refine Both_ref (k := 1) (r := -1) hR ?_ ?_
    · simp [gX10_car, gX10_car_b, isPlace_eq, bz_f hv, rC1, bI_some]
    · simp [gX11_car, gX11_car_b, mPlace_eq, bz_f hv, rM1, bI_some, letv_eq]
