/-! The copy of a world; image. -/
theorem LR_keep {u u' : Mm} (h : LR u) (h1 : u' 52 = u 52) (h2 : u' 53 = u 53) (h3 : u' 85 = u 85) (h4 : u' 74 23 = u 74 23) : LR u' := by
  obtain ⟨n, a, b, c, d⟩ := h
  exact ⟨n, a, by rw [h1]; exact b, h4.trans c, by rw [h2, h3]; exact d⟩
theorem NR_keep {u u' : Mm} (h : NR u) (h1 : u' 54 = u 54) (h2 : u' 55 = u 55) (h3 : u' 100 = u 100) (h4 : u' 74 58 = u 74 58) : NR u' := by
  obtain ⟨n, a, b, c, d⟩ := h
  exact ⟨n, a, by rw [h1]; exact b, h4.trans c, by rw [h2, h3]; exact d⟩
theorem XR_keep {u u' : Mm} (h : XR u) (h1 : u' 56 = u 56) (h2 : u' 84 = u 84) : XR u' := by
  unfold XR
  rw [h1, h2]
  exact h
theorem WR_cg {s a kn kd fg lf nr sz rd ln fl v s' a' kn' kd' fg' lf' nr' sz' rd' ln' fl' v' : Nat → Int32} (h : WR s a kn kd fg lf nr sz rd ln fl v)
    (h1 : ∀ i, i < 8 → s' i = s i ∧ a' i = a i ∧ kd' i = kd i ∧ fg' i = fg i ∧ lf' i = lf i ∧ nr' i = nr i ∧ sz' i = sz i) (h2 : kn' 0 = kn 0) (h3 : rd' 0 = rd 0) (h4 : ∀ i, i < 64 → ln' i = ln i) (h5 : ∀ i, i < 10 → fl' i = fl i) (h6 : ∀ q, q < 136 → v' q = v q) :
    WR s' a' kn' kd' fg' lf' nr' sz' rd' ln' fl' v' := by
  obtain ⟨⟨f1, f2, f3⟩, g1, g2, g3, g4, g5, g6, g7, g8, g9⟩ := h
  refine ⟨⟨fun i hi => ?_, ?_, ?_⟩, ?_, ?_, ?_, ?_, ?_, ?_, fun i hi => ?_, fun i hi => ?_, fun i hi => ?_⟩
  · rw [h5 i (by omega), h6 i (by omega)]; exact f1 i hi
  · unfold FB
    rw [h5 0 (by decide), h5 1 (by decide), h5 2 (by decide), h5 3 (by decide), h5 4 (by decide), h5 5 (by decide), h5 6 (by decide)]
    exact f2
  · rw [h5 9 (by decide), h5 6 (by decide)]
    exact UW_cg (fun j hj => (h6 (8 + j) (by omega)).symm) f3
  · rw [h5 7 (by decide)]; exact g1
  · rw [h5 7 (by decide)]; exact g2
  · rw [h2, h6 14 (by decide)]; exact g3
  · rw [h3, h6 15 (by decide)]; exact g4
  · rw [h2]; exact g5
  · rw [h3]; exact g6
  · obtain ⟨a1, a2, a3, a4, a5, a6, a7⟩ := h1 i hi
    rw [a1, a2, a3, a4, a5, a6, a7, h6 _ (by omega), h6 _ (by omega), h6 _ (by omega), h6 _ (by omega), h6 _ (by omega), h6 _ (by omega), h6 _ (by omega)]
    exact g7 i hi
  · rw [h4 i hi, h4 (8 * (i % 8) + i / 8) (by omega), h6 _ (by omega)]; exact g8 i hi
  · rw [h2] at hi
    obtain ⟨a1, a2, a3, a4, a5, a6, a7⟩ := h1 i (by omega)
    rw [a4, a5, a6, a7]
    exact g9 i hi
theorem cpw {k0 k1 : Nat} (hd : k0 + 20 < k1 ∨ k1 + 20 < k0) (u : Mm) : Ok (gX9_copyFrom k0 k1 u) (fun u' => (∀ c, (c < k0 + 2 ∨ k0 + 12 < c) → u' c = u c) ∧ u' (k0 + 4) 0 = u (k1 + 4) 0 ∧ u' (k0 + 10) 0 = u (k1 + 10) 0 ∧ (∀ i, i < 8 → u' (k0 + 2) i = u (k1 + 2) i) ∧ (∀ i, i < 8 → u' (k0 + 3) i = u (k1 + 3) i) ∧ (∀ i, i < 8 → u' (k0 + 5) i = u (k1 + 5) i) ∧ (∀ i, i < 8 → u' (k0 + 6) i = u (k1 + 6) i) ∧ (∀ i, i < 8 → u' (k0 + 7) i = u (k1 + 7) i) ∧ (∀ i, i < 8 → u' (k0 + 8) i = u (k1 + 8) i) ∧ (∀ i, i < 8 → u' (k0 + 9) i = u (k1 + 9) i) ∧ (∀ i, i < 64 → u' (k0 + 11) i = u (k1 + 11) i) ∧ ∀ i, i < 10 → u' (k0 + 12) i = u (k1 + 12) i) := by
  unfold gX9_copyFrom gX9_copyFrom_b gX0_copyFrom gX0_copyFrom_b
  rw [ok_bind]
  refine (cp_air (k0 := k0 + 1) (k1 := k1 + 1) (by omega) 8 0 FU u rfl (by decide)).mono (fun u1 h1 => ?_)
  obtain ⟨f1, a2, a3⟩ := h1
  unfold gX1_copyFrom gX1_copyFrom_b
  rw [ok_bind, letv_eq]
  refine (cp_fld (k0 := k0 + 4) (k1 := k1 + 4) (by omega) 8 0 FU _ rfl (by decide)).mono (fun u2 h2 => ?_)
  obtain ⟨f2, b5, b6, b7, b8, b9⟩ := h2
  unfold gX6_copyFrom gX6_copyFrom_b
  rw [ok_bind, letv_eq]
  refine (cp_rd (k0 := k0 + 10) (k1 := k1 + 10) (by omega) 64 0 FU _ rfl (by decide)).mono (fun u3 h3 => ?_)
  obtain ⟨f3, c11⟩ := h3
  have F2 : ∀ c, (c < k0 + 4 ∨ k0 + 9 < c) → u2 c = u1 c := fun c hc => (f2 c (by omega) (by omega) (by omega) (by omega) (by omega)).trans (stm_c (by omega))
  have F1 : ∀ c, (c < k0 + 2 ∨ k0 + 3 < c) → u1 c = u c := fun c hc => f1 c (by omega) (by omega)
  have F3 : ∀ c, (c < k0 + 10 ∨ k0 + 11 < c) → u3 c = u2 c := fun c hc => (f3 c (by omega)).trans (stm_c (by omega))
  have m : ∀ a, a < 13 → (k1 + a < k0 + 2 ∨ k0 + 12 < k1 + a) := fun a ha => by omega
  unfold gX2_copyFrom gX2_copyFrom_b
  simp only [letv_eq, Option.bind_some]
  refine ok_some.mpr ⟨fun c hc => ?_, ?_, ?_, fun i hi => ?_, fun i hi => ?_, fun i hi => ?_, fun i hi => ?_, fun i hi => ?_, fun i hi => ?_, fun i hi => ?_, fun i hi => ?_, fun i hi => ?_⟩
  · repeat rw [stm_c (show c ≠ k0 + 12 by omega)]
    rw [F3 c (by omega), F2 c (by omega), F1 c (by omega)]
  · repeat rw [stm_c (show k0 + 4 ≠ k0 + 12 by omega)]
    rw [F3 _ (by omega), f2 _ (by omega) (by omega) (by omega) (by omega) (by omega), stm_r, F1 _ (by omega)]
  · repeat rw [stm_c (show k0 + 10 ≠ k0 + 12 by omega)]
    rw [f3 _ (by omega), stm_r, F2 _ (by omega), F1 _ (by omega)]
  · repeat rw [stm_c (show k0 + 2 ≠ k0 + 12 by omega)]
    rw [F3 _ (by omega), F2 _ (by omega), show k0 + 2 = k0 + 1 + 1 by omega, a2 i, if_pos (by omega)]
  · repeat rw [stm_c (show k0 + 3 ≠ k0 + 12 by omega)]
    rw [F3 _ (by omega), F2 _ (by omega), show k0 + 3 = k0 + 1 + 2 by omega, a3 i, if_pos (by omega)]
  · repeat rw [stm_c (show k0 + 5 ≠ k0 + 12 by omega)]
    rw [F3 _ (by omega), show k0 + 5 = k0 + 4 + 1 by omega, b5 i, if_pos (by omega), stm_c (by omega), F1 _ (by omega)]
  · repeat rw [stm_c (show k0 + 6 ≠ k0 + 12 by omega)]
    rw [F3 _ (by omega), show k0 + 6 = k0 + 4 + 2 by omega, b6 i, if_pos (by omega), stm_c (by omega), F1 _ (by omega)]
  · repeat rw [stm_c (show k0 + 7 ≠ k0 + 12 by omega)]
    rw [F3 _ (by omega), show k0 + 7 = k0 + 4 + 3 by omega, b7 i, if_pos (by omega), stm_c (by omega), F1 _ (by omega)]
  · repeat rw [stm_c (show k0 + 8 ≠ k0 + 12 by omega)]
    rw [F3 _ (by omega), show k0 + 8 = k0 + 4 + 4 by omega, b8 i, if_pos (by omega), stm_c (by omega), F1 _ (by omega)]
  · repeat rw [stm_c (show k0 + 9 ≠ k0 + 12 by omega)]
    rw [F3 _ (by omega), show k0 + 9 = k0 + 4 + 5 by omega, b9 i, if_pos (by omega), stm_c (by omega), F1 _ (by omega)]
  · repeat rw [stm_c (show k0 + 11 ≠ k0 + 12 by omega)]
    rw [show k0 + 11 = k0 + 10 + 1 by omega, c11 i, if_pos (by omega), stm_c (by omega), F2 _ (by omega), F1 _ (by omega)]
  · have g : u3 (k1 + 12) = u (k1 + 12) := by rw [F3 _ (by omega), F2 _ (by omega), F1 _ (by omega)]
    have m12 : (k1 + 12 = k0 + 12) = False := eq_false (by omega)
    have hi' : i = 0 ∨ i = 1 ∨ i = 2 ∨ i = 3 ∨ i = 4 ∨ i = 5 ∨ i = 6 ∨ i = 7 ∨ i = 8 ∨ i = 9 := by omega
    rcases hi' with rfl | rfl | rfl | rfl | rfl | rfl | rfl | rfl | rfl | rfl <;> simp +decide only [stm_d, ↓reduceIte, eq_self, m12, g]
theorem sp_x : ∀ p : Nat, p < 136 → sp p ≠ (74, 19) ∧ sp p ≠ (74, 33) ∧ sp p ≠ (74, 40) ∧ sp p ≠ (74, 23) ∧ sp p ≠ (74, 58) := by decide +kernel
theorem sp_c : ∀ p : Nat, p < 136 → 74 ≤ (sp p).1 ∧ (sp p).1 ≤ 83 := by decide +kernel
theorem mV_st {u : Mm} {i q : Nat} {v : Int32} (h : sp q ≠ (74, i)) : mV (stm u 74 i v) q = mV u q := by
  rw [mV_sp, mV_sp, stm_v, if_neg (fun e => h (by rw [← e.1, ← e.2]))]
theorem mV_cst {u : Mm} {K q : Nat} {v : Int32} (hq : q < 136) : mV (cst u K v) q = mV u q := by
  obtain ⟨a, b, c⟩ := sp_34 q hq
  rw [mV_st a, mV_st b, mV_st c]
theorem cst_c {u : Mm} {K : Nat} {v : Int32} {c : Nat} (h : c ≠ 74) : cst u K v c = u c := by unfold cst; rw [stm_c h, stm_c h, stm_c h]
theorem cst_s {u : Mm} {K : Nat} {v : Int32} {i : Nat} (a : i ≠ 34) (b : i ≠ 35) (c : i ≠ 36) : cst u K v 74 i = u 74 i := by unfold cst; rw [stm_s a, stm_s b, stm_s c]
theorem c_image (u : Mm) (hR : R u) : Both (gX10_image u) gX11_image := by
  obtain ⟨u1, e1, f1, s4, s10, t2, t3, t5, t6, t7, t8, t9, t11, tf⟩ := cpw (k0 := 28) (k1 := 2) (by decide) u
  have hw := hR.wc
  let u2 := stm u1 1 3 1
  let b0 := stm (thr u2) 74 33 1
  obtain ⟨u3, e3, -, hB, hF, -⟩ := ca_ok (K := 91) (tk := true) (v := 1) (u := b0) rfl (by decide) rfl (by decide) (by decide) (fun q hq => by have := sp_c q hq; omega)
  have g2 : ∀ c, c ≠ 1 → c < 30 ∨ 40 < c → u2 c = u c := fun c h1 h2 => (stm_c h1).trans (f1 c h2)
  have G : ∀ c, c ≠ 74 → c ≠ 91 → u3 c = u2 c := fun c h1 h2 => funext fun i => by
    rw [hF c i (Or.inl rfl) (Or.inl h1) (Or.inl h2), cst_c h1]
    show stm (stm u2 74 19 0) 74 33 1 c i = _
    rw [stm_c h1, stm_c h1]
  have H : ∀ i, i ≠ 34 → i ≠ 35 → i ≠ 36 → i ≠ 33 → i ≠ 19 → u3 74 i = u 74 i := fun i a b c d e => by
    rw [hF 74 i (Or.inl rfl) (Or.inr a) (Or.inl (by decide)), cst_s a b c]
    show stm (stm u2 74 19 0) 74 33 1 74 i = _
    rw [stm_s d, stm_s e, g2 74 (by decide) (by decide)]
  have G2 : ∀ c, c ≠ 74 → c ≠ 91 → c ≠ 1 → c < 30 ∨ 40 < c → u3 c = u c := fun c a b d e => (G c a b).trans (g2 c d e)
  have hb : ∀ q, q < 136 → mV (cst b0 91 1) q = mV u q := fun q hq => by
    rw [mV_cst hq]
    show mV (stm (stm u2 74 19 0) 74 33 1) q = _
    rw [mV_st (sp_x q hq).2.1, mV_st (sp_x q hq).1, mV_sp, mV_sp, g2 _ (by have := sp_c q hq; omega) (by have := sp_c q hq; omega)]
  have hm : ∀ q, q < 136 → mV u3 q = mV u q := fun q hq => by
    rw [← hb q hq, mV_sp, mV_sp (cst b0 91 1)]
    refine hF _ _ (Or.inl rfl) ?_ (Or.inl (by have := sp_c q hq; omega))
    by_cases h : (sp q).1 = 74
    · exact Or.inr (fun e => (sp_34 q hq).1 (by rw [← h, ← e]))
    · exact Or.inl h
  have L30 : ∀ c, 30 ≤ c → c ≤ 40 → u3 c = u1 c := fun c a b => (G c (by omega) (by omega)).trans (stm_c (by omega))
  refine ⟨u 14 7, u2, u3, ?_, ?_, ?_, ?_, ?_, ?_, ?_, ?_⟩
  · unfold gX10_image gX10_image_b
    rw [e1, Option.bind_some, letv_eq]
    show some (u2 14 7, u2) = _
    rw [g2 14 (by decide) (by decide)]
  · unfold gX11_image gX11_image_b
    rw [letv_eq, letv_eq, e3, Option.bind_some, H 9 (by decide) (by decide) (by decide) (by decide) (by decide), hw.1.2.2.2.2.2.2.2]
  · exact WR_cg hR.1 (fun i _ => by rw [G2 4 (by decide) (by decide) (by decide) (by decide), G2 5 (by decide) (by decide) (by decide) (by decide), G2 7 (by decide) (by decide) (by decide) (by decide), G2 8 (by decide) (by decide) (by decide) (by decide), G2 9 (by decide) (by decide) (by decide) (by decide), G2 10 (by decide) (by decide) (by decide) (by decide), G2 11 (by decide) (by decide) (by decide) (by decide)]; exact ⟨rfl, rfl, rfl, rfl, rfl, rfl, rfl⟩)
      (by rw [G2 6 (by decide) (by decide) (by decide) (by decide)]) (by rw [G2 12 (by decide) (by decide) (by decide) (by decide)]) (fun i _ => by rw [G2 13 (by decide) (by decide) (by decide) (by decide)]) (fun i _ => by rw [G2 14 (by decide) (by decide) (by decide) (by decide)]) hm
  · have a1 : u3 1 3 = 1 := by rw [G 1 (by decide) (by decide)]; exact stm_r
    have a2 : u3 74 33 = 1 := by rw [hF 74 33 (Or.inl rfl) (Or.inr (by decide)) (Or.inl (by decide))]; rfl
    refine ⟨a1.trans a2.symm, Or.inr ⟨a1, WR_cg hR.1 (fun i hi => ?_) ?_ ?_ (fun i hi => ?_) (fun i hi => ?_) (fun q hq => (hB rfl q hq).trans (hb q hq))⟩⟩
    · rw [L30 30 (by decide) (by decide), L30 31 (by decide) (by decide), L30 33 (by decide) (by decide), L30 34 (by decide) (by decide), L30 35 (by decide) (by decide), L30 36 (by decide) (by decide), L30 37 (by decide) (by decide)]
      exact ⟨t2 i hi, t3 i hi, t5 i hi, t6 i hi, t7 i hi, t8 i hi, t9 i hi⟩
    · rw [L30 32 (by decide) (by decide)]; exact s4
    · rw [L30 38 (by decide) (by decide)]; exact s10
    · rw [L30 39 (by decide) (by decide)]; exact t11 i hi
    · rw [L30 40 (by decide) (by decide)]; exact tf i hi
  · exact PR_keep hR.2.2.1 (by rw [G2 41 (by decide) (by decide) (by decide) (by decide)]) (H 40 (by decide) (by decide) (by decide) (by decide) (by decide)) (by rw [G2 41 (by decide) (by decide) (by decide) (by decide)]) (G2 93 (by decide) (by decide) (by decide) (by decide)) (fun z hz => G2 _ (by omega) (by omega) (by omega) (by omega))
  · exact LR_keep hR.2.2.2.1 (G2 52 (by decide) (by decide) (by decide) (by decide)) (G2 53 (by decide) (by decide) (by decide) (by decide)) (G2 85 (by decide) (by decide) (by decide) (by decide)) (H 23 (by decide) (by decide) (by decide) (by decide) (by decide))
  · exact NR_keep hR.2.2.2.2.1 (G2 54 (by decide) (by decide) (by decide) (by decide)) (G2 55 (by decide) (by decide) (by decide) (by decide)) (G2 100 (by decide) (by decide) (by decide) (by decide)) (H 58 (by decide) (by decide) (by decide) (by decide) (by decide))
  · exact XR_keep hR.2.2.2.2.2 (G2 56 (by decide) (by decide) (by decide) (by decide)) (G2 84 (by decide) (by decide) (by decide) (by decide))
theorem c_restore (u : Mm) (hR : R u) : Both (gX10_restore u) gX11_restore := by
  have hw := hR.wc
  obtain ⟨hi, h01⟩ := hR.2.1
  rcases h01 with h0 | ⟨h1, hp⟩
  · refine Both_ref (k := 3) (r := -3) hR ?_ ?_
    · unfold gX10_restore gX10_restore_b
      rw [if_pos h0, rC3, bI_some]
    · unfold gX11_restore gX11_restore_b
      rw [letv_eq, if_pos (show stm (rfC u 3) 74 19 0 74 33 = 0 from hi.symm.trans h0)]
      show bI (gX11_refuse (-3) (thr (rfC u 3))) _ = _
      rw [rM3, bI_some]
  · obtain ⟨u1, e1, f1, s4, s10, t2, t3, t5, t6, t7, t8, t9, t11, tf⟩ := cpw (k0 := 2) (k1 := 28) (by decide) u
    let u2 := stm u1 41 0 0
    let b0 := thr u2
    obtain ⟨u3, e3, hA, -, hF, -⟩ := ca_ok (K := 91) (tk := false) (v := 0) (u := b0) rfl (by decide) rfl (by decide) (by decide) (fun q hq => by have := sp_c q hq; omega)
    let u4 := stm u3 74 40 0
    have g2 : ∀ c, c ≠ 41 → c < 4 ∨ 14 < c → u2 c = u c := fun c h1 h2 => (stm_c h1).trans (f1 c h2)
    have G : ∀ c, c < 74 ∨ 83 < c → u4 c = u2 c := fun c h => funext fun i => by
      show stm u3 74 40 0 c i = _
      rw [stm_c (by omega), hF c i (Or.inr (fun q hq e => by have := sp_c q hq; rw [e] at this; exact absurd this (by show ¬ (74 ≤ c ∧ c ≤ 83); omega))) (Or.inl (by omega)) (Or.inr (Or.inl rfl)), cst_c (by omega)]
      show stm u2 74 19 0 c i = _
      rw [stm_c (by omega)]
    have H : ∀ i, i ≠ 34 → i ≠ 35 → i ≠ 36 → i ≠ 40 → i ≠ 19 → (∀ q, q < 136 → sp q ≠ (74, i)) → u4 74 i = u 74 i := fun i a b c d e k => by
      show stm u3 74 40 0 74 i = _
      rw [stm_s d, hF 74 i (Or.inr k) (Or.inr a) (Or.inr (Or.inl rfl)), cst_s a b c]
      show stm u2 74 19 0 74 i = _
      rw [stm_s e, g2 74 (by decide) (by decide)]
    have G2 : ∀ c, c < 74 ∨ 83 < c → c ≠ 41 → c < 4 ∨ 14 < c → u4 c = u c := fun c a b d => (G c a).trans (g2 c b d)
    have hb : cst b0 91 0 91 = u 91 := by
      rw [cst_c (by decide)]
      show stm u2 74 19 0 91 = _
      rw [stm_c (by decide), g2 91 (by decide) (by decide)]
    have hm : ∀ q, q < 136 → mV u4 q = u 91 q := fun q hq => by
      rw [← hb, ← hA rfl q hq]
      show mV (stm u3 74 40 0) q = _
      rw [mV_st (sp_x q hq).2.2.1, mV_sp]
    have L4 : ∀ c, 4 ≤ c → c ≤ 14 → u4 c = u1 c := fun c a b => (G c (by omega)).trans (stm_c (by omega))
    have hW : WN u4 := WR_cg hp (fun i hi => by
        rw [L4 4 (by decide) (by decide), L4 5 (by decide) (by decide), L4 7 (by decide) (by decide), L4 8 (by decide) (by decide), L4 9 (by decide) (by decide), L4 10 (by decide) (by decide), L4 11 (by decide) (by decide)]
        exact ⟨t2 i hi, t3 i hi, t5 i hi, t6 i hi, t7 i hi, t8 i hi, t9 i hi⟩)
      (by rw [L4 6 (by decide) (by decide)]; exact s4) (by rw [L4 12 (by decide) (by decide)]; exact s10) (fun i hi => by rw [L4 13 (by decide) (by decide)]; exact t11 i hi) (fun i hi => by rw [L4 14 (by decide) (by decide)]; exact tf i hi) hm
    have hw4 := (WN_iff u4).mp hW
    refine ⟨u2 14 7, u2, u4, ?_, ?_, hW, ?_, ?_, ?_, ?_, ?_⟩
    · unfold gX10_restore gX10_restore_b
      rw [if_neg (by rw [h1]; decide), e1]
      rfl
    · unfold gX11_restore gX11_restore_b
      rw [letv_eq, if_neg (show ¬ stm u2 74 19 0 74 33 = 0 by rw [stm_s (by decide), g2 74 (by decide) (by decide), ← hi, h1]; decide), e3, Option.bind_some, letv_eq]
      show some (u4 74 9, u4) = _
      rw [← hw4.1.2.2.2.2.2.2.2, G 14 (by decide)]
    · refine ⟨?_, Or.inr ⟨?_, ?_⟩⟩
      · rw [G2 1 (by decide) (by decide) (by decide), H 33 (by decide) (by decide) (by decide) (by decide) (by decide) (fun q hq => (sp_x q hq).2.1)]; exact hi
      · rw [G2 1 (by decide) (by decide) (by decide)]; exact h1
      · rw [G2 30 (by decide) (by decide) (by decide), G2 31 (by decide) (by decide) (by decide), G2 32 (by decide) (by decide) (by decide), G2 33 (by decide) (by decide) (by decide), G2 34 (by decide) (by decide) (by decide), G2 35 (by decide) (by decide) (by decide), G2 36 (by decide) (by decide) (by decide), G2 37 (by decide) (by decide) (by decide), G2 38 (by decide) (by decide) (by decide), G2 39 (by decide) (by decide) (by decide), G2 40 (by decide) (by decide) (by decide), G2 91 (by decide) (by decide) (by decide)]
        exact hp
    · exact PR_forget hR.2.2.1 (by rw [G 41 (by decide)]; exact stm_r) stm_r (by rw [G 41 (by decide)]; show stm u1 41 0 0 41 1 = _; rw [stm_s (by decide), f1 41 (by decide)])
    · exact LR_keep hR.2.2.2.1 (G2 52 (by decide) (by decide) (by decide)) (G2 53 (by decide) (by decide) (by decide)) (G2 85 (by decide) (by decide) (by decide)) (H 23 (by decide) (by decide) (by decide) (by decide) (by decide) (fun q hq => (sp_x q hq).2.2.2.1))
    · exact NR_keep hR.2.2.2.2.1 (G2 54 (by decide) (by decide) (by decide)) (G2 55 (by decide) (by decide) (by decide)) (G2 100 (by decide) (by decide) (by decide)) (H 58 (by decide) (by decide) (by decide) (by decide) (by decide) (fun q hq => (sp_x q hq).2.2.2.2))
    · exact XR_keep hR.2.2.2.2.2 (G2 56 (by decide) (by decide) (by decide)) (G2 84 (by decide) (by decide) (by decide))
