/-! The class's other searches. -/
abbrev BstQ (E : Mm) (f : Nat → Int32) (s : Int32 × Int32 × Int32) (u u' : Mm) : Prop := Fk lF lB u u' ∧ MI E f u' ∧ u' 57 9 = s.1 ∧ u' 57 10 = s.2.1
theorem cseekB {E u : Mm} {f : Nat → Int32} {S : Nat → Int32 × Int32 × Int32} (hS : BS E f S) (hM : MI E f u) (hV : VF f) (f8 : f 8 = 0) (hB : EB E) : Ok (gX3_seekCheapest u) (BstQ E f (S 186) u) := by
  unfold gX3_seekCheapest gX3_seekCheapest_b
  rw [letv_eq, letv_eq]
  refine loopS (fun n (s : Int32 × Mm) => gX3_seekCheapest_14_L n s.1 s.2) (fun g s => gX3_seekCheapest_14_Ls (fun a b => g (a, b)) s.1 s.2) (fun _ _ => rfl) _
    (fun n s => s.1 = nI n ∧ BstQ E f (S (6 * n)) u s.2) 31 ?_ ?_ 31 0 FU (0, stm (stm u 57 9 (-9)) 57 10 (-9)) rfl (by decide) ?_
  · rintro k ⟨v3, v⟩ g hk ⟨h0, hc⟩ hg
    change v3 = nI k at h0
    subst h0
    show Ok (gX3_seekCheapest_14_Ls (fun a b => g (a, b)) (nI k) v) _
    unfold gX3_seekCheapest_14_Ls
    rw [show (30 : Int32) = nI 30 from rfl, if_neg (by rw [lt_nn (by omega) (by omega)]; omega)]
    refine loopS (fun n (s : Int32 × Mm) => gX3_seekCheapest_22_L (fun a b => g (a, b)) (nI k) n s.1 s.2) (fun g2 s => gX3_seekCheapest_22_Ls (fun a b => g (a, b)) (nI k) (fun a b => g2 (a, b)) s.1 s.2) (fun _ _ => rfl) _
      (fun n s => s.1 = nI n ∧ BstQ E f (S (6 * k + n)) u s.2) 6 ?_ ?_ 6 0 FU (0, v) rfl (by decide) ⟨rfl, hc⟩
    · rintro p ⟨w3, w⟩ g2 hp ⟨h0, h1, h2, h3, h4⟩ hg2
      change w3 = nI p at h0
      subst h0
      change Fk lF lB u w at h1
      change MI E f w at h2
      change w 57 9 = _ at h3
      change w 57 10 = _ at h4
      show Ok (gX3_seekCheapest_22_Ls (fun a b => g (a, b)) (nI k) (fun a b => g2 (a, b)) (nI p) w) _
      unfold gX3_seekCheapest_22_Ls
      have hg3 : ∀ y, BstQ E f (S (6 * k + p + 1)) u y → Ok (g2 (nI (p + 1), y)) (BstQ E f (S 186) u) := fun y q2 => hg2 (nI (p + 1), y) ⟨rfl, q2⟩
      have e6 := hS.six (k := k) hp
      have b1 := hS.inv (6 * k + p) (by omega)
      generalize S (6 * k + p + 1) = s' at hg3 e6
      generalize S (6 * k + p) = s at h3 h4 e6 b1
      rw [show (5 : Int32) = nI 5 from rfl, if_neg (by rw [lt_nn (by omega) (by omega)]; omega), ok_bI]
      refine (cfollow h2 hV f8 (by omega) (by omega)).mono ?_
      rintro ⟨r, x⟩ ⟨hr, q1, q2, q3⟩
      change Fk lF [4] w x at q1
      change MIk E f k x at q2
      change CF (x 69) _ at q3
      have hr0 := bz_i hr
      generalize pl E k p f = G at hr0 q3 e6
      have q2' : MI E f x := ⟨k, by omega, q2⟩
      have q1' : Fk lF lB u x := h1.tr (q1.mono (fun _ h => h) (by decide))
      have x9 : x 57 9 = s.1 := (q1.2 9 (by decide)).trans h3
      have x10 : x 57 10 = s.2.1 := (q1.2 10 (by decide)).trans h4
      have t1 : s'.1 = if G 0 = 0 ∧ (s.1 < 0 ∨ costP E G < s.2.1) then nI (10 * k + p) else s.1 := by rw [e6]; rfl
      have t2 : s'.2.1 = if G 0 = 0 ∧ (s.1 < 0 ∨ costP E G < s.2.1) then costP E G else s.2.1 := by rw [e6]; rfl
      have pass : (¬ (G 0 = 0 ∧ (s.1 < 0 ∨ costP E G < s.2.1))) → Ok (g2 (nI p + 1, x)) (BstQ E f (S 186) u) := by
        intro hn
        rw [if_neg hn] at t1 t2
        rw [nI_s (by omega)]
        exact hg3 _ ⟨q1', q2', by rw [t1]; exact x9, by rw [t2]; exact x10⟩
      refine ok_if (fun c => pass (fun e => hr0.mp c e.1)) (fun c => ?_)
      have c0 : G 0 = 0 := Decidable.not_not.mp (fun h => c (hr0.mpr h))
      show Ok ((gX3_costThere x).bind _) _
      rw [ccostP q2.1 hB q3, Option.bind_some]
      have fin : (s.1 < 0 ∨ costP E G < s.2.1) → Ok (gX3_seekCheapest_58 (fun a b => g (a, b)) (fun a b => g2 (a, b)) (nI k) (nI p) (costP E G) x) (BstQ E f (S 186) u) := by
        intro hh
        rw [if_pos ⟨c0, hh⟩] at t1 t2
        unfold gX3_seekCheapest_58
        rw [letv_eq, letv_eq, letv_eq, nI_s (by omega), cd_eq k hk p hp]
        exact hg3 _ ⟨(q1'.tr (Fk.st (by decide))).tr (Fk.st (by decide)), (q2'.st (by decide)).st (by decide), by rw [t1, stm_s (by decide)]; exact stm_r, by rw [t2]; exact stm_r⟩
      show Ok (if x 57 9 = -9 then _ else _) _
      rw [x9]
      refine ok_if (fun c3 => fin (Or.inl ((neg_9 b1).mpr c3))) (fun c3 => ?_)
      show Ok (if costP E G < x 57 10 then _ else _) _
      rw [x10]
      refine ok_if (fun c4 => fin (Or.inr c4)) (fun c4 => ?_)
      refine pass (fun e => ?_)
      rcases e.2 with h | h
      · exact c3 ((neg_9 b1).mp h)
      · exact c4 h
    · rintro ⟨w3, w⟩ g2 ⟨h0, hc⟩
      change w3 = nI 6 at h0
      subst h0
      show Ok (gX3_seekCheapest_22_Ls (fun a b => g (a, b)) (nI k) (fun a b => g2 (a, b)) (nI 6) w) _
      unfold gX3_seekCheapest_22_Ls
      rw [if_pos (by decide), letv_eq, nI_s (by omega)]
      rw [show 6 * k + 6 = 6 * (k + 1) by omega] at hc
      exact hg (nI (k + 1), w) ⟨rfl, hc⟩
  · rintro ⟨v3, v⟩ g ⟨h0, hc⟩
    change v3 = nI 31 at h0
    subst h0
    show Ok (gX3_seekCheapest_14_Ls (fun a b => g (a, b)) (nI 31) v) _
    unfold gX3_seekCheapest_14_Ls
    rw [if_pos (by decide)]
    exact ok_some.mpr hc
  · rw [show 6 * 0 = 0 from rfl, hS.1]
    exact ⟨rfl, (Fk.st (by decide)).tr (Fk.st (by decide)), (hM.st (by decide)).st (by decide), rfl, rfl⟩
/-- fieldsWithin -/
theorem cwithin {E u : Mm} {f : Nat → Int32} {S : Nat → Int32 × Int32 × Int32} (hS : BS E f S) (hM : MI E f u) (hV : VF f) (f8 : f 8 = 0) (hB : EB E) : Ok (gX3_fieldsWithin u) (fun q => q.1 = (S 186).2.2 ∧ Fk lF [4] u q.2) := by
  unfold gX3_fieldsWithin gX3_fieldsWithin_b
  refine loopS (fun n (s : Int32 × Int32 × Mm) => gX3_fieldsWithin_4_L n s.1 s.2.1 s.2.2) (fun g s => gX3_fieldsWithin_4_Ls (fun a b c => g (a, b, c)) s.1 s.2.1 s.2.2) (fun _ _ => rfl) _
    (fun n s => s.2.1 = nI n ∧ s.1 = (S (6 * n)).2.2 ∧ Fk lF [4] u s.2.2 ∧ MI E f s.2.2) 31 ?_ ?_ 31 0 FU (0, 0, u) rfl (by decide) ?_
  · rintro k ⟨v2, v3, v⟩ g hk ⟨h0, hc⟩ hg
    change v3 = nI k at h0
    subst h0
    show Ok (gX3_fieldsWithin_4_Ls (fun a b c => g (a, b, c)) v2 (nI k) v) _
    unfold gX3_fieldsWithin_4_Ls
    rw [show (30 : Int32) = nI 30 from rfl, if_neg (by rw [lt_nn (by omega) (by omega)]; omega)]
    refine loopS (fun n (s : Int32 × Int32 × Mm) => gX3_fieldsWithin_12_L (fun a b c => g (a, b, c)) (nI k) n s.1 s.2.1 s.2.2) (fun g2 s => gX3_fieldsWithin_12_Ls (fun a b c => g (a, b, c)) (nI k) (fun a b c => g2 (a, b, c)) s.1 s.2.1 s.2.2) (fun _ _ => rfl) _
      (fun n s => s.2.1 = nI n ∧ s.1 = (S (6 * k + n)).2.2 ∧ Fk lF [4] u s.2.2 ∧ MI E f s.2.2) 6 ?_ ?_ 6 0 FU (v2, 0, v) rfl (by decide) ⟨rfl, hc⟩
    · rintro p ⟨w2, w3, w⟩ g2 hp ⟨h0, hs, h1, h2⟩ hg2
      change w3 = nI p at h0
      subst h0
      change w2 = _ at hs
      change Fk lF [4] u w at h1
      change MI E f w at h2
      show Ok (gX3_fieldsWithin_12_Ls (fun a b c => g (a, b, c)) (nI k) (fun a b c => g2 (a, b, c)) w2 (nI p) w) _
      unfold gX3_fieldsWithin_12_Ls
      have hg3 : ∀ a y, a = (S (6 * k + p + 1)).2.2 → Fk lF [4] u y → MI E f y → Ok (g2 (a, nI (p + 1), y)) (fun q => q.1 = (S 186).2.2 ∧ Fk lF [4] u q.2) := fun a y q1 q2 q3 => hg2 (a, nI (p + 1), y) ⟨rfl, q1, q2, q3⟩
      have e6 := hS.six (k := k) hp
      generalize S (6 * k + p + 1) = s' at hg3 e6
      generalize S (6 * k + p) = s at hs e6
      rw [show (5 : Int32) = nI 5 from rfl, if_neg (by rw [lt_nn (by omega) (by omega)]; omega), ok_bI]
      refine (cfollow h2 hV f8 (by omega) (by omega)).mono ?_
      rintro ⟨r, x⟩ ⟨hr, q1, q2, q3⟩
      change Fk lF [4] w x at q1
      change MIk E f k x at q2
      change CF (x 69) _ at q3
      have hr0 := bz_i hr
      generalize pl E k p f = G at hr0 q3 e6
      have t1 : s'.2.2 = s.2.2 ||| (if G 0 = 0 ∧ ¬ fieldP E G < 0 then shl 1 (fieldP E G) else 0) := by rw [e6]; rfl
      have fin : ∀ b : Int32, b = (if G 0 = 0 ∧ ¬ fieldP E G < 0 then shl 1 (fieldP E G) else 0) → Ok (gX3_fieldsWithin_51 (fun a b c => g (a, b, c)) (fun a b c => g2 (a, b, c)) (nI k) (nI p) b w2 x) (fun q => q.1 = (S 186).2.2 ∧ Fk lF [4] u q.2) := by
        intro b hb
        unfold gX3_fieldsWithin_51
        rw [letv_eq, letv_eq, nI_s (by omega)]
        exact hg3 _ _ (by rw [t1, hs, hb]) (h1.tr q1) ⟨k, by omega, q2⟩
      refine ok_if (fun c => ?_) (fun c => ?_)
      · unfold gX3_fieldsWithin_35
        rw [if_pos (by decide)]
        exact fin 0 (if_neg (fun e => hr0.mp c e.1)).symm
      · have c0 : G 0 = 0 := Decidable.not_not.mp (fun h => c (hr0.mpr h))
        show Ok ((gX3_fieldThere x).bind _) _
        rw [cfieldP q2.1 hB q3, Option.bind_some]
        unfold gX3_fieldsWithin_35
        refine ok_if (fun c2 => ?_) (fun c2 => ?_)
        · exact fin 0 (if_neg (fun e => e.2 c2)).symm
        · exact fin _ (if_pos ⟨c0, c2⟩).symm
    · rintro ⟨w2, w3, w⟩ g2 ⟨h0, hc⟩
      change w3 = nI 6 at h0
      subst h0
      show Ok (gX3_fieldsWithin_12_Ls (fun a b c => g (a, b, c)) (nI k) (fun a b c => g2 (a, b, c)) w2 (nI 6) w) _
      unfold gX3_fieldsWithin_12_Ls
      rw [if_pos (by decide), letv_eq, nI_s (by omega)]
      rw [show 6 * k + 6 = 6 * (k + 1) by omega] at hc
      exact hg (w2, nI (k + 1), w) ⟨rfl, hc⟩
  · rintro ⟨v2, v3, v⟩ g ⟨h0, hs, hc, _⟩
    change v3 = nI 31 at h0
    subst h0
    show Ok (gX3_fieldsWithin_4_Ls (fun a b c => g (a, b, c)) v2 (nI 31) v) _
    unfold gX3_fieldsWithin_4_Ls
    rw [if_pos (by decide)]
    exact ok_some.mpr ⟨hs, hc⟩
  · rw [show 6 * 0 = 0 from rfl, hS.1]
    exact ⟨rfl, rfl, Fk.rf _ _ _, hM⟩
theorem HS.up {E : Mm} {fld : Int32} {f : Nat → Int32} {S : Nat → Nat × Int32 × Int32 × Int32} (h : HS E fld f S) {n : Nat} (hp : 0 < (S n).1) : ∀ d, 0 < (S (n + d)).1 := by
  intro d
  induction d with
  | zero => exact hp
  | succ d ih =>
    rw [← Nat.add_assoc, h.2 (n + d)]
    unfold hadU
    split
    · exact Nat.succ_pos _
    · exact ih
/-- somePlanLeadsInto -/
theorem csome {E u : Mm} {f : Nat → Int32} {fld : Int32} {S : Nat → Nat × Int32 × Int32 × Int32} (hS : HS E fld f S) (hM : MI E f u) (hV : VF f) (f8 : f 8 = 0) (hB : EB E) : Ok (gX3_somePlanLeadsInto fld u) (fun q => q.1 = bz (0 < (S 186).1) ∧ Fk lF [4] u q.2 ∧ MI E f q.2 ∧ (¬ 0 < (S 186).1 → MIk E f 30 q.2)) := by
  unfold gX3_somePlanLeadsInto gX3_somePlanLeadsInto_b
  refine loopS (fun n (s : Int32 × Mm) => gX3_somePlanLeadsInto_2_L fld n s.1 s.2) (fun g s => gX3_somePlanLeadsInto_2_Ls fld (fun b c => g (b, c)) s.1 s.2) (fun _ _ => rfl) _
    (fun n s => s.1 = nI n ∧ (S (6 * n)).1 = 0 ∧ Fk lF [4] u s.2 ∧ ∃ m, m ≤ 30 ∧ (0 < n → m + 1 = n) ∧ MIk E f m s.2) 31 ?_ ?_ 31 0 FU (0, u) rfl (by decide) ?_
  · rintro k ⟨v3, v⟩ g hk ⟨h0, hz, hf, m, hm, -, hI⟩ hg
    change v3 = nI k at h0
    subst h0
    show Ok (gX3_somePlanLeadsInto_2_Ls fld (fun b c => g (b, c)) (nI k) v) _
    unfold gX3_somePlanLeadsInto_2_Ls
    rw [show (30 : Int32) = nI 30 from rfl, if_neg (by rw [lt_nn (by omega) (by omega)]; omega)]
    refine loopS (fun n (s : Int32 × Mm) => gX3_somePlanLeadsInto_10_L (fun b c => g (b, c)) fld (nI k) n s.1 s.2) (fun g2 s => gX3_somePlanLeadsInto_10_Ls (fun b c => g (b, c)) fld (nI k) (fun b c => g2 (b, c)) s.1 s.2) (fun _ _ => rfl) _
      (fun n s => s.1 = nI n ∧ (S (6 * k + n)).1 = 0 ∧ Fk lF [4] u s.2 ∧ ∃ m, m ≤ 30 ∧ (0 < n → m = k) ∧ MIk E f m s.2) 6 ?_ ?_ 6 0 FU (0, v) rfl (by decide) ⟨rfl, hz, hf, m, hm, fun h => absurd h (Nat.lt_irrefl 0), hI⟩
    · rintro p ⟨w3, w⟩ g2 hp ⟨h0, hz, h1, m, hm, -, h2⟩ hg2
      change w3 = nI p at h0
      subst h0
      change Fk lF [4] u w at h1
      change MIk E f m w at h2
      show Ok (gX3_somePlanLeadsInto_10_Ls (fun b c => g (b, c)) fld (nI k) (fun b c => g2 (b, c)) (nI p) w) _
      unfold gX3_somePlanLeadsInto_10_Ls
      have hg3 : ∀ y, (S (6 * k + p + 1)).1 = 0 → Fk lF [4] u y → MIk E f k y → Ok (g2 (nI (p + 1), y)) (fun q => q.1 = bz (0 < (S 186).1) ∧ Fk lF [4] u q.2 ∧ MI E f q.2 ∧ (¬ 0 < (S 186).1 → MIk E f 30 q.2)) := fun y q1 q2 q3 => hg2 (nI (p + 1), y) ⟨rfl, q1, q2, k, by omega, fun _ => rfl, q3⟩
      have e6 := hS.six (k := k) hp
      have up : 0 < (S (6 * k + p + 1)).1 → 0 < (S 186).1 := fun h => by
        have := hS.up h (186 - (6 * k + p + 1))
        rwa [show 6 * k + p + 1 + (186 - (6 * k + p + 1)) = 186 by omega] at this
      generalize S (6 * k + p + 1) = s' at hg3 e6 up
      generalize S (6 * k + p) = s at hz e6
      rw [show (5 : Int32) = nI 5 from rfl, if_neg (by rw [lt_nn (by omega) (by omega)]; omega), ok_bI]
      refine (cfollow ⟨m, hm, h2⟩ hV f8 (by omega) (by omega)).mono ?_
      rintro ⟨r, x⟩ ⟨hr, q1, q2, q3⟩
      change Fk lF [4] w x at q1
      change MIk E f k x at q2
      change CF (x 69) _ at q3
      have hr0 := bz_i hr
      generalize pl E k p f = G at hr0 q3 e6
      have pass : (¬ (G 0 = 0 ∧ fieldP E G = fld)) → Ok (g2 (nI p + 1, x)) (fun q => q.1 = bz (0 < (S 186).1) ∧ Fk lF [4] u q.2 ∧ MI E f q.2 ∧ (¬ 0 < (S 186).1 → MIk E f 30 q.2)) := by
        intro hn
        rw [hadU_n hn] at e6
        rw [nI_s (by omega)]
        exact hg3 _ (by rw [e6]; exact hz) (h1.tr q1) q2
      refine ok_if (fun c => pass (fun e => hr0.mp c e.1)) (fun c => ?_)
      have c0 : G 0 = 0 := Decidable.not_not.mp (fun h => c (hr0.mpr h))
      show Ok ((gX3_fieldThere x).bind _) _
      rw [cfieldP q2.1 hB q3, Option.bind_some]
      refine ok_if (fun c2 => ?_) (fun c2 => pass (fun e => c2 e.2))
      rw [hadU_y ⟨c0, c2⟩] at e6
      have hup := up (by rw [e6]; exact Nat.succ_pos _)
      exact ok_some.mpr ⟨(bz_t hup).symm, h1.tr q1, ⟨k, by omega, q2⟩, fun h => absurd hup h⟩
    · rintro ⟨w3, w⟩ g2 ⟨h0, hz, hc, m, hm, hmk, hI⟩
      change w3 = nI 6 at h0
      subst h0
      show Ok (gX3_somePlanLeadsInto_10_Ls (fun b c => g (b, c)) fld (nI k) (fun b c => g2 (b, c)) (nI 6) w) _
      unfold gX3_somePlanLeadsInto_10_Ls
      rw [if_pos (by decide), letv_eq, nI_s (by omega)]
      rw [show 6 * k + 6 = 6 * (k + 1) by omega] at hz
      have hk2 := hmk (by decide)
      exact hg (nI (k + 1), w) ⟨rfl, hz, hc, m, hm, fun _ => by omega, hI⟩
  · rintro ⟨v3, v⟩ g ⟨h0, hz, hc, m, hm, hmk, hI⟩
    change v3 = nI 31 at h0
    subst h0
    show Ok (gX3_somePlanLeadsInto_2_Ls fld (fun b c => g (b, c)) (nI 31) v) _
    unfold gX3_somePlanLeadsInto_2_Ls
    rw [if_pos (by decide)]
    have hz' : (S 186).1 = 0 := hz
    have hm30 : m = 30 := by have := hmk (by decide); omega
    subst hm30
    exact ok_some.mpr ⟨(bz_f (by omega)).symm, hc, ⟨30, by decide, hI⟩, fun _ => hI⟩
  · rw [show 6 * 0 = 0 from rfl, hS.1]
    obtain ⟨m, hm, hI⟩ := hM
    exact ⟨rfl, rfl, Fk.rf _ _ _, m, hm, fun h => absurd h (Nat.lt_irrefl 0), hI⟩
