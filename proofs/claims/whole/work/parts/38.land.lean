/-! FIELDS and COST on both sides; now in mind; the frame of a call. -/
abbrev isIn (E : Mm) (x y : Int32) (i : Nat) : Prop := (E 5 i).toInt ≤ x.toInt ∧ x.toInt < (E 5 i).toInt + (E 7 i).toInt ∧ (E 6 i).toInt ≤ y.toInt ∧ y.toInt < (E 6 i).toInt + (E 7 i).toInt
def fAt (E : Mm) (x y : Int32) : Nat → Nat → Int32
  | 0, _ => -9
  | d + 1, i => if isIn E x y i then nI i else fAt E x y d (i + 1)
theorem fAt_y {E : Mm} {x y : Int32} {d i : Nat} (h : isIn E x y i) : fAt E x y (d + 1) i = nI i := if_pos h
theorem fAt_n {E : Mm} {x y : Int32} {d i : Nat} (h : ¬ isIn E x y i) : fAt E x y (d + 1) i = fAt E x y d (i + 1) := if_neg h
theorem fAt_r {E : Mm} {x y : Int32} : ∀ d i, fAt E x y d i = -9 ∨ ∃ j, fAt E x y d i = nI j ∧ j < i + d := by
  intro d
  induction d with
  | zero => intro i; exact Or.inl rfl
  | succ d ih =>
    intro i
    by_cases h : isIn E x y i
    · exact Or.inr ⟨i, fAt_y h, by omega⟩
    · rcases ih (i + 1) with h2 | ⟨j, h2, h3⟩
      · exact Or.inl ((fAt_n h).trans h2)
      · exact Or.inr ⟨j, (fAt_n h).trans h2, by omega⟩
def fieldP (E : Mm) (f : Nat → Int32) : Int32 := fAt E (f 1) (f 2) (E 2 0).toInt.toNat 0
theorem fieldP_r {E : Mm} (hB : EB E) (f : Nat → Int32) : fieldP E f = -9 ∨ ∃ j, fieldP E f = nI j ∧ j < 8 ∧ (j : Int) < (E 2 0).toInt := by
  obtain ⟨⟨b1, b2⟩, -⟩ := hB
  rcases fAt_r (E := E) (x := f 1) (y := f 2) (E 2 0).toInt.toNat 0 with h | ⟨j, h, h2⟩
  · exact Or.inl h
  · exact Or.inr ⟨j, h, by omega, by omega⟩
def costF (E : Mm) (fi p q : Int32) : Int32 := if fi = -9 then 40 else costS (E 3 (ixn fi)) (E 4 (ixn fi)) (E 7 (ixn fi)) p (dragS p (E 0 0) (E 1 0) q)
def costP (E : Mm) (f : Nat → Int32) : Int32 := costF E (fieldP E f) (f 8) (f 5)
theorem nI_9 {j : Nat} (h : j < 8) : ¬ nI j = -9 := by
  intro e
  have := congrArg Int32.toInt e
  rw [t_nI (by omega), im9] at this
  omega
theorem costF_9 (E : Mm) (p q : Int32) : costF E (-9) p q = 40 := if_pos rfl
theorem costF_i {E : Mm} {j : Nat} (h : j < 8) (p q : Int32) : costF E (nI j) p q = costS (E 3 j) (E 4 j) (E 7 j) p (dragS p (E 0 0) (E 1 0) q) := by
  unfold costF
  rw [if_neg (nI_9 h), ixn_nI (by omega)]
theorem cfA {E u : Mm} {x y : Int32} (hE : EC E u) (hB : EB E) : ∀ (d i fuel : Nat), (i : Int) + d = (E 2 0).toInt → d < fuel → gX1_fieldAt_2_L 61 x y u fuel (nI i) = some (fAt E x y d i) := by
  intro d
  induction d with
  | zero =>
    intro i fuel hi hf
    obtain ⟨g, rfl⟩ : ∃ g, fuel = g + 1 := ⟨fuel - 1, by omega⟩
    show gX1_fieldAt_2_Ls 61 x y u (gX1_fieldAt_2_L 61 x y u g) (nI i) = _
    have hb := hB.1
    unfold gX1_fieldAt_2_Ls
    rw [if_neg (by rw [hE.2, t_lt, t_nI (by omega)]; omega)]
    rfl
  | succ d ih =>
    intro i fuel hi hf
    obtain ⟨g, rfl⟩ : ∃ g, fuel = g + 1 := ⟨fuel - 1, by omega⟩
    show gX1_fieldAt_2_Ls 61 x y u (gX1_fieldAt_2_L 61 x y u g) (nI i) = _
    have hb := hB.1
    have h8 : i < 8 := by omega
    obtain ⟨b5, b6, b7, -⟩ := hB.2 i (by omega)
    obtain ⟨-, -, -, -, e5, e6, e7⟩ := hE.1 i h8
    have s1 := t_add (a := E 5 i) (b := E 7 i) (by omega) (by omega)
    have s2 := t_add (a := E 6 i) (b := E 7 i) (by omega) (by omega)
    unfold gX1_fieldAt_2_Ls
    rw [if_pos (by rw [hE.2, t_lt, t_nI (by omega)]; omega), if_pos (by rw [t_lt, t_nI (by omega), i8]; omega)]
    simp only [gd_t (ix_nI h8 (show 8 < 2147483648 by decide)), ixn_nI (show i < 2147483648 by omega), letv_eq, nI_s (show i + 1 < 2147483648 by omega), Nat.reduceAdd, e5, e6, e7, t_lt, s1, s2, ih (i + 1) g (by omega) (by omega)]
    by_cases h : isIn E x y i
    · obtain ⟨q1, q2, q3, q4⟩ := h
      rw [fAt_y ⟨q1, q2, q3, q4⟩, if_neg (by omega), if_pos q2, if_neg (by omega), if_pos q4]
    · rw [fAt_n h]
      split
      · rfl
      · split
        · split
          · rfl
          · split
            · exact absurd ⟨by omega, by omega, by omega, by omega⟩ h
            · rfl
        · rfl
theorem cfield {E u : Mm} {x y : Int32} (hE : EC E u) (hB : EB E) : gX1_fieldAt 61 x y u = some (fAt E x y (E 2 0).toInt.toNat 0) := by
  have hb := hB.1
  exact cfA hE hB (E 2 0).toInt.toNat 0 FU (by omega) (by unfold FU; omega)
theorem mfA {E u : Mm} {x y : Int32} (hE : EM E u) (hB : EB E) (hx : u 74 3 = x) (hy : u 74 4 = y) : ∀ (d i fuel : Nat), (i : Int) + d = (E 2 0).toInt → d < fuel → gX11_fieldAt_2_L u fuel (nI i) = some (fAt E x y d i) := by
  intro d
  induction d with
  | zero =>
    intro i fuel hi hf
    obtain ⟨g, rfl⟩ : ∃ g, fuel = g + 1 := ⟨fuel - 1, by omega⟩
    show gX11_fieldAt_2_Ls u (gX11_fieldAt_2_L u g) (nI i) = _
    have hb := hB.1
    unfold gX11_fieldAt_2_Ls
    rw [if_neg (by rw [hE.2, t_lt, t_nI (by omega)]; omega)]
    rfl
  | succ d ih =>
    intro i fuel hi hf
    obtain ⟨g, rfl⟩ : ∃ g, fuel = g + 1 := ⟨fuel - 1, by omega⟩
    show gX11_fieldAt_2_Ls u (gX11_fieldAt_2_L u g) (nI i) = _
    have hb := hB.1
    have h8 : i < 8 := by omega
    obtain ⟨b5, b6, b7, -⟩ := hB.2 i (by omega)
    obtain ⟨-, -, -, -, e5, e6, e7⟩ := hE.1 i h8
    have s1 := t_add (a := E 5 i) (b := E 7 i) (by omega) (by omega)
    have s2 := t_add (a := E 6 i) (b := E 7 i) (by omega) (by omega)
    have s3 := t_sub (a := E 5 i + E 7 i) (b := 1) (by rw [s1, i1]; omega) (by rw [s1, i1]; omega)
    have s4 := t_sub (a := E 6 i + E 7 i) (b := 1) (by rw [s2, i1]; omega) (by rw [s2, i1]; omega)
    rw [s1, i1] at s3
    rw [s2, i1] at s4
    unfold gX11_fieldAt_2_Ls
    rw [if_pos (by rw [hE.2, t_lt, t_nI (by omega)]; omega)]
    simp only [gd_t (ix_nI h8 (show 8 < 2147483648 by decide)), ixn_nI (show i < 2147483648 by omega), letv_eq, nI_s (show i + 1 < 2147483648 by omega), e5, e6, e7, hx, hy, in_ii, Option.bind_some, s3, s4, ih (i + 1) g (by omega) (by omega), bz_0]
    by_cases h : isIn E x y i
    · obtain ⟨q1, q2, q3, q4⟩ := h
      rw [fAt_y ⟨q1, q2, q3, q4⟩, if_neg (by omega), if_neg (by omega)]
    · rw [fAt_n h]
      split
      · rfl
      · split
        · rfl
        · exact absurd ⟨by omega, by omega, by omega, by omega⟩ h
theorem mfield {E u : Mm} {f : Nat → Int32} (hE : EM E u) (hB : EB E) (hM : MF u f) : gX11_fieldAt u = some (fieldP E f) := by
  have hb := hB.1
  exact mfA hE hB (hM.1 1 (by decide)) (hM.1 2 (by decide)) (E 2 0).toInt.toNat 0 FU (by omega) (by unfold FU; omega)
theorem cfieldP {E u : Mm} {f : Nat → Int32} (hE : EC E u) (hB : EB E) (hC : CF (u 69) f) : gX3_fieldThere u = some (fieldP E f) := by
  unfold gX3_fieldThere gX3_fieldThere_b fieldP
  rw [cfield hE hB, Option.bind_some, hC.1 1 (by decide), hC.1 2 (by decide)]
theorem ccostP {E u : Mm} {f : Nat → Int32} (hE : EC E u) (hB : EB E) (hC : CF (u 69) f) : gX3_costThere u = some (costP E f) := by
  unfold gX3_costThere gX3_costThere_b costP
  rw [cfieldP hE hB hC, Option.bind_some, dragC, Option.bind_some, hC.1 8 (by decide), hC.1 5 (by decide)]
  rcases fieldP_r hB f with h | ⟨j, h, h8, hj⟩
  · rw [h, costC9, costF_9]
    rfl
  · obtain ⟨-, -, e3, e4, -, -, e7⟩ := hE.1 j h8
    rw [h, costC (k := 61) (by rw [hE.2]; exact hj) h8, costF_i h8, Option.bind_some, e3, e4, e7, (hE.1 0 (by decide)).1, (hE.1 0 (by decide)).2.1]
theorem mcostF {E u : Mm} {f : Nat → Int32} {fi p : Int32} (hE : EM E u) (hM : MF u f) (h : fi = -9 ∨ ∃ j, fi = nI j ∧ j < 8) : gX11_costOf fi p u = some (costF E fi p (f 5)) := by
  rcases h with h | ⟨j, h, h8⟩
  · rw [h, costM9, costF_9]
  · obtain ⟨-, -, e3, e4, -, -, e7⟩ := hE.1 j h8
    rw [h, costM h8, costF_i h8, e3, e4, e7, (hE.1 0 (by decide)).1, (hE.1 0 (by decide)).2.1, show u 74 7 = f 5 from hM.1 5 (by decide)]
theorem mcostP {E u : Mm} {f : Nat → Int32} {p : Int32} (hE : EM E u) (hB : EB E) (hM : MF u f) (hp : p = f 8) : gX11_costOf (fieldP E f) p u = some (costP E f) := by
  rw [mcostF hE hM (by rcases fieldP_r hB f with h | ⟨j, h, h8, _⟩; exact Or.inl h; exact Or.inr ⟨j, h, h8⟩), hp]
  rfl
/-! Now. -/
def env (u : Mm) : Mm := fun r => if r = 0 then u 75 else if r = 1 then u 76 else if r = 2 then (fun _ => u 74 11) else if r = 3 then u 78 else if r = 4 then u 79 else if r = 5 then u 80 else if r = 6 then u 81 else u 82
def flt (u : Mm) : Nat → Int32 := fun i => if i < 8 then u 74 (i + 2) else if i = 8 then 0 else if i < 15 then u 77 (i - 9) else 0
theorem env_EM (u : Mm) : EM (env u) u := ⟨fun _ _ => ⟨rfl, rfl, rfl, rfl, rfl, rfl, rfl⟩, rfl⟩
theorem flt_w (u : Mm) {j : Nat} (h : j < 6) : flt u (9 + j) = u 77 j := by
  unfold flt
  rw [if_neg (by omega), if_neg (by omega), if_pos (by omega), Nat.add_sub_cancel_left]
theorem flt_MF (u : Mm) : MF u (flt u) := ⟨fun i hi => (if_pos hi).symm, fun j hj => (flt_w u hj).symm⟩
theorem flt_8 (u : Mm) : flt u 8 = 0 := rfl
theorem flt_VF {u : Mm} (hR : R u) : VF (flt u) := by
  obtain ⟨⟨f0, f1, f2, f3, f4, f5, f6, f7⟩, hF, hU, -⟩ := hR.wc
  refine ⟨?_, u 14 9, ?_⟩
  · unfold FB at hF ⊢
    rw [f0, f1, f2, f3, f4, f5, f6] at hF
    exact hF
  · rw [f6] at hU
    exact UW_cg (fun j hj => (flt_w u hj).symm) hU
theorem env_EB {u : Mm} (hR : R u) : EB (env u) := by
  obtain ⟨-, -, -, -, ⟨c5, b1, b2⟩, -, c7, -, c9⟩ := hR.wc
  refine ⟨?_, fun i hi => ?_⟩
  · show 0 ≤ (u 74 11).toInt ∧ (u 74 11).toInt ≤ 8
    rw [← c5]
    exact ⟨b1, b2⟩
  · have hi' : (i : Int) < (u 6 0).toInt := by rw [c5]; exact hi
    obtain ⟨-, -, -, r4, r5, r6, r7⟩ := c7 i (by omega)
    have := c9 i hi'
    rw [r4, r5, r6, r7] at this
    exact this
theorem flt_CF {u : Mm} (hR : R u) : CF (u 14) (fun i => if i = 8 then u 14 8 else flt u i) := by
  obtain ⟨⟨f0, f1, f2, f3, f4, f5, f6, f7⟩, hF, hU, -⟩ := hR.wc
  refine ⟨fun i hi => ?_, UW_cg (fun j hj => ?_) hU⟩
  · have hc : i = 0 ∨ i = 1 ∨ i = 2 ∨ i = 3 ∨ i = 4 ∨ i = 5 ∨ i = 6 ∨ i = 7 ∨ i = 8 := by omega
    rcases hc with rfl | rfl | rfl | rfl | rfl | rfl | rfl | rfl | rfl
    · exact f0
    · exact f1
    · exact f2
    · exact f3
    · exact f4
    · exact f5
    · exact f6
    · exact f7
    · rfl
  · show _ = if 9 + j = 8 then _ else _
    rw [if_neg (by omega), flt_w u hj]
def lM : List Nat := [58, 59, 60, 61, 62, 63, 64, 65, 66, 67, 68, 69, 70]
theorem cbegin {u : Mm} (hR : R u) : Ok (gX3_begin 2 u) (fun u' => Fk lM [4] u u' ∧ MIk (env u) (flt u) 0 u') := by
  unfold gX3_begin gX3_begin_b gX0_copyFrom gX0_copyFrom_b
  obtain ⟨-, -, -, -, ⟨c5, -⟩, -, c7, -⟩ := hR.wc
  rw [ok_bind]
  refine (cp_air (k0 := 58) (k1 := 3) (by decide) 8 0 FU u rfl (by decide)).mono ?_
  rintro u1 ⟨f1, a1, a2⟩
  unfold gX1_copyFrom gX1_copyFrom_b
  rw [ok_bind, letv_eq]
  refine (cp_fld (k0 := 61) (k1 := 6) (by decide) 8 0 FU _ rfl (by decide)).mono ?_
  rintro u2 ⟨f2, b1, b2, b3, b4, b5⟩
  rw [ok_bind]
  refine (cpFl (k0 := 67) (k1 := 14) (by decide) u2).mono ?_
  rintro u3 ⟨f3, d1⟩
  have F1 : ∀ c, c ≠ 59 → c ≠ 60 → u1 c = u c := fun c h1 h2 => f1 c h1 h2
  have F2 : ∀ c, c ≠ 61 → c ≠ 62 → c ≠ 63 → c ≠ 64 → c ≠ 65 → c ≠ 66 → u2 c = u1 c := fun c h1 h2 h3 h4 h5 h6 => (f2 c h2 h3 h4 h5 h6).trans (stm_c h1)
  have hC : CF (u3 67) (fun i => if i = 8 then u 14 8 else flt u i) := by
    refine (flt_CF hR).copy (fun i hi => ?_)
    rw [d1 i hi, F2 14 (by decide) (by decide) (by decide) (by decide) (by decide) (by decide), F1 14 (by decide) (by decide)]
  have hE : EC (env u) u3 := by
    refine ⟨fun i hi => ?_, ?_⟩
    · obtain ⟨r1, r2, r3, r4, r5, r6, r7⟩ := c7 i hi
      have e59 : u1 59 i = u 4 i := (a1 i).trans (if_pos (by omega))
      have e60 : u1 60 i = u 5 i := (a2 i).trans (if_pos (by omega))
      have e62 : u2 62 i = u 7 i := (b1 i).trans ((if_pos (by omega)).trans (by rw [stm_c (by decide), F1 7 (by decide) (by decide)]))
      have e63 : u2 63 i = u 8 i := (b2 i).trans ((if_pos (by omega)).trans (by rw [stm_c (by decide), F1 8 (by decide) (by decide)]))
      have e64 : u2 64 i = u 9 i := (b3 i).trans ((if_pos (by omega)).trans (by rw [stm_c (by decide), F1 9 (by decide) (by decide)]))
      have e65 : u2 65 i = u 10 i := (b4 i).trans ((if_pos (by omega)).trans (by rw [stm_c (by decide), F1 10 (by decide) (by decide)]))
      have e66 : u2 66 i = u 11 i := (b5 i).trans ((if_pos (by omega)).trans (by rw [stm_c (by decide), F1 11 (by decide) (by decide)]))
      rw [f3 59 (by decide), f3 60 (by decide), f3 62 (by decide), f3 63 (by decide), f3 64 (by decide), f3 65 (by decide), f3 66 (by decide), F2 59 (by decide) (by decide) (by decide) (by decide) (by decide) (by decide), F2 60 (by decide) (by decide) (by decide) (by decide) (by decide) (by decide)]
      exact ⟨e59.trans r1, e60.trans r2, e62.trans r3, e63.trans r4, e64.trans r5, e65.trans r6, e66.trans r7⟩
    · rw [f3 61 (by decide), f2 61 (by decide) (by decide) (by decide) (by decide) (by decide), stm_r, F1 6 (by decide) (by decide)]
      exact c5
  have hz : z8 (fun i => if i = 8 then u 14 8 else flt u i) = flt u := by
    funext i
    unfold z8
    by_cases c : i = 8
    · rw [if_pos c, c, flt_8]
    · rw [if_neg c]
      exact if_neg c
  rw [ok_bind]
  refine (rewind_MI hE hC).mono ?_
  rintro u4 ⟨g1, g2⟩
  rw [hz] at g2
  refine ok_some.mpr ⟨?_, g2⟩
  have k3 : Fk lM [4] u u3 := by
    have z : ∀ c, c ∉ lM → u3 c = u c := fun c hc => by
      have q : ∀ d, d ∈ lM → c ≠ d := fun d hd e => hc (by rw [e]; exact hd)
      rw [f3 c (q 67 (by decide)), F2 c (q 61 (by decide)) (q 62 (by decide)) (q 63 (by decide)) (q 64 (by decide)) (q 65 (by decide)) (q 66 (by decide)), F1 c (q 59 (by decide)) (q 60 (by decide))]
    exact ⟨fun c _ hc => z c hc, fun i _ => by rw [z 57 (by decide)]⟩
  exact k3.tr (g1.mono (by decide) (by decide))
/-! The frame of a call. -/
def Fr (cs l : List Nat) (u u' : Mm) : Prop := (∀ c, c ≠ 74 → c ∉ cs → u' c = u c) ∧ ∀ i, i ∉ l → u' 74 i = u 74 i
theorem Fr.tr {cs l : List Nat} {u v w : Mm} (h1 : Fr cs l u v) (h2 : Fr cs l v w) : Fr cs l u w := ⟨fun c a b => (h2.1 c a b).trans (h1.1 c a b), fun i hi => (h2.2 i hi).trans (h1.2 i hi)⟩
theorem Fr.rf (cs l : List Nat) (u : Mm) : Fr cs l u u := ⟨fun _ _ _ => rfl, fun _ _ => rfl⟩
theorem Fr.mono {cs l cs' l' : List Nat} {u v : Mm} (h : Fr cs l u v) (hs : ∀ i, i ∈ cs → i ∈ cs') (hl : ∀ i, i ∈ l → i ∈ l') : Fr cs' l' u v := ⟨fun c a b => h.1 c a (fun e => b (hs c e)), fun i hi => h.2 i (fun e => hi (hl i e))⟩
theorem Fr.st {cs l : List Nat} {u : Mm} {i : Nat} {v : Int32} (hi : i ∈ l) : Fr cs l u (stm u 74 i v) := ⟨fun _ a _ => stm_c a, fun j hj => stm_s (fun e => hj (by rw [e]; exact hi))⟩
theorem Fm.fr {cs l l' : List Nat} {u v : Mm} (h : Fm l u v) (hs : 77 ∈ cs) (hl : ∀ i, i ∈ l → i ∈ l') : Fr cs l' u v := ⟨fun c a b => h.1 c a (fun e => b (by rw [e]; exact hs)), fun i hi => h.2 i (fun e => hi (hl i e))⟩
theorem Sm_C {ls l : List Nat} {u u' : Mm} (h : Fk ls l u u') (hs : ∀ c, c ∈ ls → 57 ≤ c ∧ c ≤ 73) : Sm u u' := by
  have n : ∀ c, (c < 57 ∨ 73 < c) → u' c = u c := fun c hc => h.1 c (by omega) (fun e => by have := hs c e; omega)
  refine ⟨fun c hc => ?_, fun i _ => by rw [n 74 (by decide)], fun j _ => by rw [n 77 (by decide)]⟩
  have : ∀ c, c ∈ relC → c < 57 ∨ 73 < c := by decide
  exact n c (this c hc)
theorem Sm_M {cs l : List Nat} {u u' : Mm} {f : Nat → Int32} (h : Fr cs l u u') (hs : ∀ c, c ∈ relC → c ∉ cs) (hl : ∀ i, i ∈ [11, 18, 23, 33, 40, 58] → i ∉ l) (hM : MF u f) (hM' : MF u' f) : Sm u u' := by
  have n74 : ∀ c, c ∈ relC → c ≠ 74 := by decide
  refine ⟨fun c hc => h.1 c (n74 c hc) (hs c hc), fun i hi => ?_, fun j hj => (hM'.2 j hj).trans (hM.2 j hj).symm⟩
  by_cases c : i < 10
  · have h2 : 2 ≤ i := by
      have : ∀ i, i ∈ rel74 → 2 ≤ i := by decide
      exact this i hi
    have e1 := hM.1 (i - 2) (by omega)
    have e2 := hM'.1 (i - 2) (by omega)
    rw [show i - 2 + 2 = i by omega] at e1 e2
    rw [e1, e2]
  · have : ∀ i, i ∈ rel74 → i < 10 ∨ i ∈ [11, 18, 23, 33, 40, 58] := by decide
    rcases this i hi with h3 | h3
    · omega
    · exact h.2 i (hl i h3)
theorem Sm_env {u u' : Mm} (h : Sm u u') : env u' = env u := by
  unfold env
  rw [h.1 75 (by decide), h.1 76 (by decide), h.1 78 (by decide), h.1 79 (by decide), h.1 80 (by decide), h.1 81 (by decide), h.1 82 (by decide), h.2.1 11 (by decide)]
theorem Sm_flt {u u' : Mm} (h : Sm u u') : flt u' = flt u := by
  funext i
  unfold flt
  by_cases c : i < 8
  · rw [if_pos c, if_pos c]
    have : i = 0 ∨ i = 1 ∨ i = 2 ∨ i = 3 ∨ i = 4 ∨ i = 5 ∨ i = 6 ∨ i = 7 := by omega
    rcases this with rfl | rfl | rfl | rfl | rfl | rfl | rfl | rfl <;> exact h.2.1 _ (by decide)
  · rw [if_neg c, if_neg c]
    by_cases c2 : i = 8
    · rw [if_pos c2, if_pos c2]
    · rw [if_neg c2, if_neg c2]
      by_cases c3 : i < 15
      · rw [if_pos c3, if_pos c3, h.2.2 _ (by omega)]
      · rw [if_neg c3, if_neg c3]
theorem Both_of {a : Option (Int32 × Mm)} {b : Mm → Option (Int32 × Mm)} {u : Mm} {r : Int32} (hR : R u) (ha : Ok a (fun q => q.1 = r ∧ Sm u q.2)) (hb : ∀ u1, R u1 → env u1 = env u → flt u1 = flt u → (∀ c, c ∈ relC → u1 c = u c) → (∀ i, i ∈ rel74 → u1 74 i = u 74 i) → Ok (b u1) (fun q => q.1 = r ∧ Sm u1 q.2)) : Both a b := by
  obtain ⟨⟨x, u1⟩, e1, h1, h2⟩ := ha
  have R1 := h2.keep hR
  obtain ⟨⟨y, u2⟩, e2, h3, h4⟩ := hb u1 R1 (Sm_env h2) (Sm_flt h2) h2.1 h2.2.1
  change x = r at h1
  change y = r at h3
  subst h1
  subst h3
  exact ⟨_, u1, u2, e1, e2, h4.keep R1⟩
