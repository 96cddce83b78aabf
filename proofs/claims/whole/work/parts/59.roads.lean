/-! Calls: drive, twoCars, turned, chase. -/
theorem roads_of {u : Mm} (hR : R u) : ∃ (W : Nat → Nat → Nat) (c : Nat), (∀ a b, a < 8 → b < 8 → W a b ≤ 99) ∧ RdC u W ∧ RdM u W ∧ c < 8 ∧ u 12 0 = nI c ∧ u 74 18 = nI c ∧ ∀ a b, a < 8 → b < 8 → u 83 (8 * a + b) = u 83 (8 * b + a) := by
  obtain ⟨-, -, -, -, -, ⟨c6, b1, b2⟩, -, c8, -⟩ := hR.wc
  obtain ⟨c, ec, hc⟩ := nI_upto (N := 7) b1 b2
  have hw : ∀ a b, a < 8 → b < 8 → u 13 (8 * a + b) = nI ((u 13 (8 * a + b)).toInt.toNat) := by
    intro a b ha hb
    obtain ⟨-, h1, h2, -⟩ := c8 (8 * a + b) (by omega)
    obtain ⟨n, e, hn⟩ := nI_upto (N := 99) h1 h2
    rw [e, t_nI (by omega), Int.toNat_natCast]
  refine ⟨fun a b => (u 13 (8 * a + b)).toInt.toNat, c, fun a b ha hb => ?_, hw, fun a b ha hb => ?_, by omega, ec, c6.symm.trans ec, fun a b ha hb => ?_⟩
  · obtain ⟨-, h1, h2, -⟩ := c8 (8 * a + b) (by omega)
    show (u 13 (8 * a + b)).toInt.toNat ≤ 99
    omega
  · rw [← (c8 (8 * a + b) (by omega)).1]
    exact hw a b ha hb
  · have h1 := (c8 (8 * a + b) (by omega)).2.2.2
    rw [(c8 (8 * a + b) (by omega)).1, show 8 * ((8 * a + b) % 8) + (8 * a + b) / 8 = 8 * b + a by omega, (c8 (8 * b + a) (by omega)).1] at h1
    exact h1
theorem min_ok {u : Mm} {D : Nat → Nat → Nat} {a b : Nat} (h : MtC u D) (ha : a < 8) (hb : b < 8) : gX8_minutes (nI a) (nI b) u = some (nI (D a b)) := by
  have pa : 0 ≤ (nI a).toInt ∧ (nI a).toInt < 8 := by rw [t_nI (by omega)]; omega
  have pb : 0 ≤ (nI b).toInt ∧ (nI b).toInt < 8 := by rw [t_nI (by omega)]; omega
  unfold gX8_minutes gX8_minutes_b
  rw [isPlace_t pa, Option.bind_some, if_neg (by decide), isPlace_t pb, Option.bind_some, if_neg (by decide), ixA a ha b hb, gd_t (ix64 ha hb), ixn64 ha hb, h a b ha hb]
theorem far_lt {n : Nat} (h : n ≤ 1000000) : nI n < 1000000 ↔ n < 1000000 := by rw [show (1000000 : Int32) = nI 1000000 from rfl, lt_nn (by omega) (by omega)]
theorem mon_ok {u : Mm} {W D : Nat → Nat → Nat} {a b : Nat} (hD : DP W D) (h : MtC u D) (ha : a < 8) (hb : b < 8) : gX8_minutesOrNone (nI a) (nI b) u = some (if D a b < 1000000 then nI (D a b) else -9) := by
  unfold gX8_minutesOrNone gX8_minutesOrNone_b
  rw [min_ok h ha hb, Option.bind_some]
  have hl := hD.2.1 a b ha hb
  by_cases c : D a b < 1000000
  · rw [if_pos ((far_lt hl).mpr c), if_pos c]
  · rw [if_neg (fun h => c ((far_lt hl).mp h)), if_neg c]
theorem tD_y {x : Nat} (h : x < 1000000) : tD x = x := if_pos h
theorem tD_n {x : Nat} (h : ¬ x < 1000000) : tD x = 99999 := if_neg h
theorem tD_99 {x : Nat} (h : x < 1000000 → x ≤ 693) : (nI (tD x) < 99999 ↔ x < 1000000) ∧ (nI (tD x) = 99999 ↔ ¬ x < 1000000) ∧ tD x ≤ 99999 := by
  by_cases c : x < 1000000
  · have := h c
    rw [tD_y c, show (99999 : Int32) = nI 99999 from rfl, lt_nn (by omega) (by omega), t_eq, t_nI (by omega), t_nI (by omega)]
    refine ⟨⟨fun _ => c, fun _ => by omega⟩, ⟨fun h => by omega, fun h => absurd c h⟩, by omega⟩
  · rw [tD_n c]
    exact ⟨⟨fun h => absurd h (by decide), fun h => absurd h c⟩, ⟨fun _ => c, fun _ => rfl⟩, Nat.le_refl _⟩
theorem Sm_72 {u x : Mm} (h : ∀ c, c ≠ 72 → c ≠ 73 → x c = u c) : Sm u x := by
  refine ⟨fun c hc => ?_, fun i _ => by rw [h 74 (by decide) (by decide)], fun j _ => by rw [h 77 (by decide) (by decide)]⟩
  have : ∀ c, c ∈ relC → c ≠ 72 ∧ c ≠ 73 := by decide
  exact h c (this c hc).1 (this c hc).2
theorem RdM.of {u v : Mm} {W : Nat → Nat → Nat} (h : RdM u W) (e : v 83 = u 83) : RdM v W := fun a b ha hb => by rw [e]; exact h a b ha hb
theorem Sm_96 {u1 x : Mm} (h : ∀ c, c ∉ [96, 98, 99] → x c = thr u1 c) : Sm u1 x := by
  refine Sm_W (u := u1) ⟨fun c h1 h2 => ?_, fun i hi => ?_⟩ ⟨fun i hi => ?_, fun j hj => ?_⟩
  · rw [h c (fun e => h2 (by
      have : ∀ c, c ∈ [96, 98, 99] → c ∈ cW := by decide
      exact this c e)), thr_c h1]
  · rw [h 74 (by decide)]
    exact thr_s (fun e => hi (by rw [e]; decide))
  · rw [h 74 (by decide), thr_s (by omega)]
    exact (flt_MF u1).1 i hi
  · rw [h 77 (by decide), thr_c (by decide)]
    exact (flt_MF u1).2 j hj
theorem c_drive (p : Int32) (u : Mm) (hR : R u) : Both (gX10_drive p u) (gX11_drive p) := by
  obtain ⟨W, c, hW, rC, rM, hc, e12, e74, -⟩ := roads_of hR
  by_cases hp : 0 ≤ p.toInt ∧ p.toInt < 8
  · obtain ⟨b, rfl, hb'⟩ := nI_upto (N := 7) hp.1 (by omega)
    have hb : b < 8 := by omega
    obtain ⟨x, ex, fx, D, hD, hM⟩ := measure_ok rC hW
    refine Both_of (r := if D c b < 1000000 then nI (D c b) else -9) hR ?_ (fun u1 hR1 e1 e2 hrl h74 => ?_)
    · unfold gX10_drive gX10_drive_b
      rw [isPlace_t hp, Option.bind_some, if_neg (by decide), ex, Option.bind_some, fx 12 (by decide), e12, mon_ok hD hM hc hb]
      exact ok_some.mpr ⟨rfl, Sm_72 (fun c h _ => fx c h)⟩
    · unfold gX11_drive gX11_drive_b
      rw [letv_eq, mPlace_t hp, Option.bind_some, if_neg (by decide), show stm u1 74 19 0 74 18 = nI c from (h74 18 (by decide)).trans e74, ok_bind]
      refine (drive_ok (u := thr u1) (rM.of ((thr_c (by decide)).trans (hrl 83 (by decide)))) hW hD hc).mono ?_
      rintro y ⟨y1, y2⟩
      have sm : Sm u1 y := Sm_96 (fun c h => y1 c (fun e => h (by rw [e]; decide)))
      obtain ⟨t1, t2, t3⟩ := tD_99 (fun h => hD.le hW hc hb h)
      rw [gd_t (ix_nI hb (by decide)), ixn_nI (by omega), y2 b hb]
      by_cases cf : D c b < 1000000
      · rw [if_pos (t1.mpr cf), if_pos cf, gd_t (ix_nI hb (by decide)), tD_y cf]
        exact ok_some.mpr ⟨rfl, sm⟩
      · rw [if_neg (fun h => cf (t1.mp h)), if_neg cf]
        exact ok_some.mpr ⟨rfl, sm⟩
  · refine Both_ref (k := 1) (r := -1) hR ?_ ?_
    · simp only [gX10_drive, gX10_drive_b, isPlace_f hp, Option.bind_some, ↓reduceIte, rC1, bI_some]
    · simp only [gX11_drive, gX11_drive_b, letv_eq, mPlace_f hp, Option.bind_some, ↓reduceIte, rM1, bI_some]
/-- layBetween -/
theorem lay_ok {u : Mm} {W D : Nat → Nat → Nat} (hR : RdM u W) (hW : ∀ a b, a < 8 → b < 8 → W a b ≤ 99) (hD : DP W D) : Ok (gX11_layBetween u) (fun u' => (∀ c, c ≠ 96 → c ≠ 98 → u' c = u c) ∧ ∀ a b, a < 8 → b < 8 → u' 98 (8 * a + b) = nI (tD (D a b))) := by
  unfold gX11_layBetween gX11_layBetween_b
  refine loopS (fun n (s : Int32 × Mm) => gX11_layBetween_2_L n s.1 s.2) (fun g s => gX11_layBetween_2_Ls (fun a b => g (a, b)) s.1 s.2) (fun _ _ => rfl) _
    (fun n s => s.1 = nI n ∧ (∀ c, c ≠ 96 → c ≠ 98 → s.2 c = u c) ∧ ∀ a b, a < n → b < 8 → s.2 98 (8 * a + b) = nI (tD (D a b))) 8 ?_ ?_ 8 0 FU (0, u) rfl (by decide) ⟨rfl, fun _ _ _ => rfl, fun a b h => absurd h (Nat.not_lt_zero _)⟩
  · rintro i ⟨v1, v⟩ g hi ⟨h0, h1, h2⟩ hg
    change v1 = nI i at h0
    subst h0
    change ∀ c, c ≠ 96 → c ≠ 98 → v c = u c at h1
    change ∀ a b, a < i → b < 8 → v 98 (8 * a + b) = _ at h2
    show Ok (gX11_layBetween_2_Ls (fun a b => g (a, b)) (nI i) v) _
    unfold gX11_layBetween_2_Ls
    rw [if_pos (show nI i < 8 by rw [show (8 : Int32) = nI 8 from rfl, lt_nn (by omega) (by omega)]; exact hi), ok_bind]
    refine (drive_ok (u := v) (hR.of (h1 83 (by decide) (by decide))) hW hD hi).mono ?_
    rintro x ⟨x1, x2⟩
    refine loopS (fun n (s : Int32 × Mm) => gX11_layBetween_15_L (fun a b => g (a, b)) (nI i) n s.1 s.2) (fun g2 s => gX11_layBetween_15_Ls (fun a b => g (a, b)) (nI i) (fun a b => g2 (a, b)) s.1 s.2) (fun _ _ => rfl) _
      (fun n s => s.1 = nI n ∧ (∀ c, c ≠ 96 → c ≠ 98 → s.2 c = u c) ∧ s.2 96 = x 96 ∧ ∀ a b, b < 8 → (a < i ∨ (a = i ∧ b < n)) → s.2 98 (8 * a + b) = nI (tD (D a b))) 8 ?_ ?_ 8 0 FU (0, x) rfl (by decide) ⟨rfl, fun c a b => (x1 c a).trans (h1 c a b), rfl, fun a b hb h => by show x 98 _ = _; rw [x1 98 (by decide)]; exact h2 a b (by omega) hb⟩
    · rintro j ⟨w1, w⟩ g2 hj ⟨h0, k1, k2, k3⟩ hg2
      change w1 = nI j at h0
      subst h0
      change w 96 = x 96 at k2
      change ∀ a b, b < 8 → _ → w 98 (8 * a + b) = _ at k3
      show Ok (gX11_layBetween_15_Ls (fun a b => g (a, b)) (nI i) (fun a b => g2 (a, b)) (nI j) w) _
      unfold gX11_layBetween_15_Ls
      rw [if_pos (show nI j < 8 by rw [show (8 : Int32) = nI 8 from rfl, lt_nn (by omega) (by omega)]; exact hj), ixB i hi j hj, gd_t (ix_nI hj (by decide)), gd_t (ix64 hi hj), ixn64 hi hj, ixn_nI (by omega), letv_eq, letv_eq, nI_s (by omega)]
      refine hg2 (nI (j + 1), stm w 98 (8 * i + j) (w 96 j)) ⟨rfl, fun c a b => (stm_c b).trans (k1 c a b), (show stm w 98 (8 * i + j) (w 96 j) 96 = w 96 from stm_c (by decide)).trans k2, fun a b hb h => ?_⟩
      show stm w 98 (8 * i + j) (w 96 j) 98 (8 * a + b) = _
      by_cases e : a = i ∧ b = j
      · rw [e.1, e.2, stm_r, k2]
        exact x2 j hj
      · rw [stm_s (by omega)]
        exact k3 a b hb (by omega)
    · rintro ⟨w1, w⟩ g2 ⟨h0, k1, k2, k3⟩
      change w1 = nI 8 at h0
      subst h0
      show Ok (gX11_layBetween_15_Ls (fun a b => g (a, b)) (nI i) (fun a b => g2 (a, b)) (nI 8) w) _
      unfold gX11_layBetween_15_Ls
      rw [if_neg (by decide), letv_eq, nI_s (by omega)]
      exact hg (nI (i + 1), w) ⟨rfl, k1, fun a b ha hb => k3 a b hb (by omega)⟩
  · rintro ⟨v1, v⟩ g ⟨h0, h1, h2⟩
    change v1 = nI 8 at h0
    subst h0
    show Ok (gX11_layBetween_2_Ls (fun a b => g (a, b)) (nI 8) v) _
    unfold gX11_layBetween_2_Ls
    rw [if_neg (by decide)]
    exact ok_some.mpr ⟨h1, fun a b ha hb => h2 a b ha hb⟩
def tcS (D : Nat → Nat → Nat) (o c : Nat) : Nat → Int32
  | 0 => 0
  | p + 1 => if D o p < D c p then tcS D o c p ||| shl 1 (nI p) else tcS D o c p
theorem tD_mono {x y : Nat} (hx : x ≤ 1000000) (hy : y ≤ 1000000) (h1 : x < 1000000 → x ≤ 693) (h2 : y < 1000000 → y ≤ 693) : tD x < tD y ↔ x < y := by
  unfold tD
  split <;> split <;> omega
theorem c_twoCars (o : Int32) (u : Mm) (hR : R u) : Both (gX10_twoCars o u) (gX11_twoCars o) := by
  obtain ⟨W, c, hW, rC, rM, hc, e12, e74, -⟩ := roads_of hR
  by_cases hp : 0 ≤ o.toInt ∧ o.toInt < 8
  · obtain ⟨b, rfl, hb'⟩ := nI_upto (N := 7) hp.1 (by omega)
    have hb : b < 8 := by omega
    obtain ⟨x, ex, fx, D, hD, hM⟩ := measure_ok rC hW
    refine Both_of (r := tcS D b c 8) hR ?_ (fun u1 hR1 e1 e2 hrl h74 => ?_)
    · unfold gX10_twoCars gX10_twoCars_b
      rw [isPlace_t hp, Option.bind_some, if_neg (by decide), ex, Option.bind_some]
      refine loopS (fun n (s : Int32 × Int32 × Mm) => gX10_twoCars_31_L (nI b) n s.1 s.2.1 s.2.2) (fun g s => gX10_twoCars_31_Ls (nI b) (fun x y z => g (x, y, z)) s.1 s.2.1 s.2.2) (fun _ _ => rfl) _
        (fun p s => s.2.1 = nI p ∧ s.1 = tcS D b c p ∧ s.2.2 = x) 8 ?_ ?_ 8 0 FU (0, 0, x) rfl (by decide) ⟨rfl, rfl, rfl⟩
      · rintro p ⟨y1, y2, y⟩ g hp8 ⟨h0, k1, k2⟩ hg
        change y2 = nI p at h0
        subst h0
        change y1 = _ at k1
        change y = x at k2
        subst k2
        show Ok (gX10_twoCars_31_Ls (nI b) (fun x y z => g (x, y, z)) y1 (nI p) y) _
        unfold gX10_twoCars_31_Ls
        have l1 := hD.2.1 b p hb hp8
        have l2 := hD.2.1 c p hc hp8
        have e : tcS D b c (p + 1) = if D b p < D c p then tcS D b c p ||| shl 1 (nI p) else tcS D b c p := rfl
        have cl : nI (D b p) < nI (D c p) ↔ D b p < D c p := by rw [lt_nn (by omega) (by omega)]
        rw [if_pos (show nI p < 8 by rw [show (8 : Int32) = nI 8 from rfl, lt_nn (by omega) (by omega)]; exact hp8), fx 12 (by decide), e12, min_ok hM hb hp8, Option.bind_some, min_ok hM hc hp8, Option.bind_some]
        refine ok_if (fun h => ?_) (fun h => ?_)
        · rw [if_pos (cl.mp h)] at e
          rw [letv_eq, letv_eq, nI_s (by omega)]
          exact hg (y1 ||| shl 1 (nI p), nI (p + 1), y) ⟨rfl, by rw [e, ← k1], rfl⟩
        · rw [if_neg (fun q => h (cl.mpr q))] at e
          rw [letv_eq, nI_s (by omega)]
          exact hg (y1, nI (p + 1), y) ⟨rfl, by rw [e]; exact k1, rfl⟩
      · rintro ⟨y1, y2, y⟩ g ⟨h0, k1, k2⟩
        change y2 = nI 8 at h0
        subst h0
        change y = x at k2
        subst k2
        show Ok (gX10_twoCars_31_Ls (nI b) (fun x y z => g (x, y, z)) y1 (nI 8) y) _
        unfold gX10_twoCars_31_Ls
        rw [if_neg (by decide)]
        exact ok_some.mpr ⟨k1, Sm_72 (fun c h _ => fx c h)⟩
    · have e18 : thr u1 74 18 = nI c := (h74 18 (by decide)).trans e74
      unfold gX11_twoCars gX11_twoCars_b
      rw [letv_eq, mPlace_t hp, Option.bind_some, if_neg (by decide), ok_bind]
      refine (lay_ok (u := thr u1) (rM.of ((thr_c (by decide)).trans (hrl 83 (by decide)))) hW hD).mono ?_
      rintro x ⟨x1, x2⟩
      have sm : Sm u1 x := Sm_96 (fun c h => x1 c (fun e => h (by rw [e]; decide)) (fun e => h (by rw [e]; decide)))
      have x18 : x 74 18 = nI c := by rw [x1 74 (by decide) (by decide)]; exact e18
      refine loopS (fun n (s : Int32 × Int32 × Mm) => gX11_twoCars_26_L (nI b) n s.1 s.2.1 s.2.2) (fun g s => gX11_twoCars_26_Ls (nI b) (fun x y z => g (x, y, z)) s.1 s.2.1 s.2.2) (fun _ _ => rfl) _
        (fun p s => s.2.1 = nI p ∧ s.1 = tcS D b c p ∧ s.2.2 = x) 8 ?_ ?_ 8 0 FU (0, 0, x) rfl (by decide) ⟨rfl, rfl, rfl⟩
      · rintro p ⟨y1, y2, y⟩ g hp8 ⟨h0, k1, k2⟩ hg
        change y2 = nI p at h0
        subst h0
        change y1 = _ at k1
        change y = x at k2
        subst k2
        show Ok (gX11_twoCars_26_Ls (nI b) (fun x y z => g (x, y, z)) y1 (nI p) y) _
        unfold gX11_twoCars_26_Ls gX11_twoCars_68
        have l1 := hD.2.1 b p hb hp8
        have l2 := hD.2.1 c p hc hp8
        have t1 := (tD_99 (fun h => hD.le hW hb hp8 h)).2.2
        have t2 := (tD_99 (fun h => hD.le hW hc hp8 h)).2.2
        have e : tcS D b c (p + 1) = if D b p < D c p then tcS D b c p ||| shl 1 (nI p) else tcS D b c p := rfl
        have cl : nI (tD (D b p)) < nI (tD (D c p)) ↔ D b p < D c p := by rw [lt_nn (by omega) (by omega)]; exact tD_mono l1 l2 (fun h => hD.le hW hb hp8 h) (fun h => hD.le hW hc hp8 h)
        rw [if_pos (show nI p < 8 by rw [show (8 : Int32) = nI 8 from rfl, lt_nn (by omega) (by omega)]; exact hp8), x18, ixB b hb p hp8, ixB c hc p hp8, gd_t (ix64 hb hp8), gd_t (ix64 hc hp8), ixn64 hb hp8, ixn64 hc hp8, x2 b p hb hp8, x2 c p hc hp8]
        refine ok_if (fun h => ?_) (fun h => ?_)
        · rw [if_pos (cl.mp h)] at e
          rw [letv_eq, letv_eq, nI_s (by omega)]
          exact hg (y1 ||| shl 1 (nI p), nI (p + 1), y) ⟨rfl, by rw [e, ← k1], rfl⟩
        · rw [if_neg (fun q => h (cl.mpr q))] at e
          rw [letv_eq, letv_eq, nI_s (by omega), Int32.or_zero]
          exact hg (y1, nI (p + 1), y) ⟨rfl, by rw [e]; exact k1, rfl⟩
      · rintro ⟨y1, y2, y⟩ g ⟨h0, k1, k2⟩
        change y2 = nI 8 at h0
        subst h0
        change y = x at k2
        subst k2
        show Ok (gX11_twoCars_26_Ls (nI b) (fun x y z => g (x, y, z)) y1 (nI 8) y) _
        unfold gX11_twoCars_26_Ls
        rw [if_neg (by decide)]
        exact ok_some.mpr ⟨k1, sm⟩
  · refine Both_ref (k := 1) (r := -1) hR ?_ ?_
    · simp only [gX10_twoCars, gX10_twoCars_b, isPlace_f hp, Option.bind_some, ↓reduceIte, rC1, bI_some]
    · simp only [gX11_twoCars, gX11_twoCars_b, letv_eq, mPlace_f hp, Option.bind_some, ↓reduceIte, rM1, bI_some]
/-! A road shut. -/
def Wx (W : Nat → Nat → Nat) (p q a b : Nat) : Nat := if (a = p ∧ b = q) ∨ (a = q ∧ b = p) then 0 else W a b
theorem Wx_le {W : Nat → Nat → Nat} {p q : Nat} (hW : ∀ a b, a < 8 → b < 8 → W a b ≤ 99) : ∀ a b, a < 8 → b < 8 → Wx W p q a b ≤ 99 := by
  intro a b ha hb
  unfold Wx
  split
  · exact Nat.zero_le _
  · exact hW a b ha hb
theorem without_ok {u : Mm} {W : Nat → Nat → Nat} {p q : Nat} (hp : p < 8) (hq : q < 8) (hn : p ≠ q) (hR : RdC u W) (hW : ∀ a b, a < 8 → b < 8 → W a b ≤ 99) : Ok (gX8_measureWithout 12 (nI p) (nI q) u) (fun u' => (∀ c, c ≠ 72 → u' c = u c) ∧ ∃ D, DP (Wx W p q) D ∧ MtC u' D) := by
  unfold gX8_measureWithout gX8_measureWithout_b
  rw [ok_bind]
  refine (take_ok hR hW).mono ?_
  rintro v ⟨v1, v2⟩
  rw [two_t hp hq hn, Option.bind_some, if_neg (by decide), ixA p hp q hq, ixA q hq p hp, gd_t (ix64 hp hq), ixn64 hp hq, letv_eq, gd_t (ix64 hq hp), ixn64 hq hp, letv_eq]
  unfold gX8_measureWithout_39
  have hM : MtC (stm (stm v 72 (8 * p + q) 1000000) 72 (8 * q + p) 1000000) (M0 (Wx W p q)) := by
    intro a b ha hb
    unfold M0 Wx
    by_cases e1 : a = q ∧ b = p
    · rw [e1.1, e1.2, stm_r, if_neg (fun e => hn e.symm), if_pos (Or.inr ⟨rfl, rfl⟩), if_neg (Nat.lt_irrefl _)]; rfl
    · rw [stm_s (by omega)]
      by_cases e2 : a = p ∧ b = q
      · rw [e2.1, e2.2, stm_r, if_neg hn, if_pos (Or.inl ⟨rfl, rfl⟩), if_neg (Nat.lt_irrefl _)]; rfl
      · rw [stm_s (by omega), v2 a b ha hb, if_neg (show ¬ ((a = p ∧ b = q) ∨ (a = q ∧ b = p)) by omega)]; rfl
  rw [ok_bind]
  refine (join_ok hM (Wx_le hW)).mono ?_
  rintro w ⟨w1, w2⟩
  exact ok_some.mpr ⟨fun c hc => by rw [w1 c hc, stm_c hc, stm_c hc, v1 c hc], w2⟩
theorem c_turned (a b : Int32) (u : Mm) (hR : R u) : Both (gX10_turned a b u) (gX11_turned a b) := by
  obtain ⟨W, c, hW, rC, rM, hc, e12, e74, hsym⟩ := roads_of hR
  by_cases ha : 0 ≤ a.toInt ∧ a.toInt < 8
  · by_cases hb : 0 ≤ b.toInt ∧ b.toInt < 8
    · obtain ⟨p, rfl, hp'⟩ := nI_upto (N := 7) ha.1 (by omega)
      obtain ⟨q, rfl, hq'⟩ := nI_upto (N := 7) hb.1 (by omega)
      have hp : p < 8 := by omega
      have hq : q < 8 := by omega
      by_cases hn : p = q
      · subst hn
        refine Both_ref (k := 1) (r := -1) hR ?_ ?_
        · simp only [gX10_turned, gX10_turned_b, two_f (Or.inr (Or.inr rfl)), Option.bind_some, ↓reduceIte, rC1, bI_some]
        · unfold gX11_turned gX11_turned_b gX11_turned_24
          rw [letv_eq, mPlace_t ha, Option.bind_some, if_neg (by decide), Option.bind_some, if_neg (by decide), if_pos rfl, rM1]
          rfl
      · have hne : ¬ nI p = nI q := fun e => hn (nI_inj8 p hp q hq e)
        by_cases h0 : W p q = 0
        · refine Both_of (r := -9) hR ?_ (fun u1 hR1 e1 e2 hrl h74 => ?_)
          · unfold gX10_turned gX10_turned_b
            rw [two_t hp hq hn, Option.bind_some, if_neg (by decide), betw_eq hp hq, Option.bind_some, rC p q hp hq, h0, if_pos (show nI 0 = 0 from rfl)]
            exact ok_some.mpr ⟨rfl, Sm.rf u⟩
          · unfold gX11_turned gX11_turned_b
            have r83 : RdM (thr u1) W := rM.of ((thr_c (by decide)).trans (hrl 83 (by decide)))
            rw [letv_eq, mPlace_t ha, Option.bind_some, if_neg (by decide), mPlace_t hb, Option.bind_some, if_neg (by decide), if_neg hne, ixB p hp q hq, gd_t (ix64 hp hq), ixn64 hp hq, letv_eq, show stm u1 74 19 0 83 (8 * p + q) = nI (W p q) from r83 p q hp hq, h0, if_pos (show nI 0 = 0 from rfl)]
            exact ok_some.mpr ⟨rfl, Sm_thrown u1 0⟩
        · obtain ⟨x, ex, fx, D, hD, hM⟩ := measure_ok rC hW
          have rCx : RdC x W := fun a b ha hb => by rw [fx 13 (by decide)]; exact rC a b ha hb
          obtain ⟨y, ey, fy, D', hD', hM'⟩ := without_ok hp hq hn rCx hW
          have hw := hW p q hp hq
          have hz : ¬ nI (W p q) = 0 := fun e => h0 ((nI_z (by omega)).mp e)
          refine Both_of (r := if D' p q < 1000000 then nI (D' p q) - nI (D p q) else -9) hR ?_ (fun u1 hR1 e1 e2 hrl h74 => ?_)
          · have l1 := hD'.2.1 p q hp hq
            have sm : Sm u y := Sm_72 (fun c h _ => (fy c h).trans (fx c h))
            unfold gX10_turned gX10_turned_b
            rw [two_t hp hq hn, Option.bind_some, if_neg (by decide), betw_eq hp hq, Option.bind_some, rC p q hp hq, if_neg hz, ex, Option.bind_some, min_ok hM hp hq, Option.bind_some, ey, Option.bind_some, min_ok hM' hp hq, Option.bind_some]
            by_cases cf : D' p q < 1000000
            · rw [if_pos ((far_lt l1).mpr cf), if_pos cf]; exact ok_some.mpr ⟨rfl, sm⟩
            · rw [if_neg (fun h => cf ((far_lt l1).mp h)), if_neg cf]; exact ok_some.mpr ⟨rfl, sm⟩
          · have u83 : thr u1 83 = u 83 := (thr_c (by decide)).trans (hrl 83 (by decide))
            have r83 : RdM (thr u1) W := rM.of u83
            unfold gX11_turned gX11_turned_b
            rw [letv_eq, mPlace_t ha, Option.bind_some, if_neg (by decide), mPlace_t hb, Option.bind_some, if_neg (by decide), if_neg hne, ixB p hp q hq, gd_t (ix64 hp hq), ixn64 hp hq, letv_eq, show stm u1 74 19 0 83 (8 * p + q) = nI (W p q) from r83 p q hp hq, if_neg hz, ok_bind]
            refine (drive_ok (u := thr u1) r83 hW hD hp).mono ?_
            rintro v ⟨v1, v2⟩
            have v83 : v 83 = u 83 := (v1 83 (by decide)).trans u83
            rw [gd_t (ix_nI hq (by decide)), ixn_nI (by omega), letv_eq, put_eq hp hq, Option.bind_some, v2 q hq, ok_bind]
            have rv : RdM (laid v 83 (8 * p + q) (8 * q + p) 0) (Wx W p q) := by
              intro i j hi hj
              unfold laid Wx
              by_cases e1 : i = q ∧ j = p
              · rw [e1.1, e1.2, stm_r, if_pos (Or.inr ⟨rfl, rfl⟩)]; rfl
              · rw [stm_s (by omega)]
                by_cases e2 : i = p ∧ j = q
                · rw [e2.1, e2.2, stm_r, if_pos (Or.inl ⟨rfl, rfl⟩)]; rfl
                · rw [stm_s (by omega), v83, rM i j hi hj, if_neg (show ¬ ((i = p ∧ j = q) ∨ (i = q ∧ j = p)) by omega)]
            refine (drive_ok rv (Wx_le hW) hD' hp).mono ?_
            rintro z ⟨z1, z2⟩
            rw [put_eq hp hq, Option.bind_some, gd_t (ix_nI hq (by decide))]
            have z96 : laid z 83 (8 * p + q) (8 * q + p) (nI (W p q)) 96 q = nI (tD (D' p q)) := z2 q hq
            have sm : Sm u1 (laid z 83 (8 * p + q) (8 * q + p) (nI (W p q))) := by
              refine Sm_96 (fun c hc => ?_)
              by_cases c83 : c = 83
              · subst c83
                funext i
                have hsy := hsym p q hp hq
                rw [u83]
                unfold laid
                by_cases e1 : i = 8 * q + p
                · rw [e1, stm_r, ← hsy, rM p q hp hq]
                · rw [stm_s e1]
                  by_cases e2 : i = 8 * p + q
                  · rw [e2, stm_r, rM p q hp hq]
                  · rw [stm_s e2, z1 83 (by decide)]
                    unfold laid
                    rw [stm_s e1, stm_s e2, v83]
              · unfold laid
                rw [stm_c c83, stm_c c83, z1 c (fun e => hc (by rw [e]; decide))]
                unfold laid
                rw [stm_c c83, stm_c c83, v1 c (fun e => hc (by rw [e]; decide))]
            obtain ⟨t1, t2, t3⟩ := tD_99 (fun h => hD'.le (Wx_le hW) hp hq h)
            rw [z96]
            by_cases cf : D' p q < 1000000
            · have hf : D p q < 1000000 := by
                have := hD.2.2.2.1 p q hp hq (by omega)
                omega
              rw [if_pos (t1.mpr cf), if_pos cf, gd_t (ix_nI hq (by decide)), tD_y cf, tD_y hf]
              exact ok_some.mpr ⟨rfl, sm⟩
            · rw [if_neg (fun h => cf (t1.mp h)), if_neg cf]
              exact ok_some.mpr ⟨rfl, sm⟩
    · refine Both_ref (k := 1) (r := -1) hR ?_ ?_
      · simp only [gX10_turned, gX10_turned_b, two_f (Or.inr (Or.inl hb)), Option.bind_some, ↓reduceIte, rC1, bI_some]
      · unfold gX11_turned gX11_turned_b gX11_turned_24
        rw [letv_eq, mPlace_t ha, Option.bind_some, if_neg (by decide), mPlace_f hb, Option.bind_some, if_pos rfl, rM1]
        rfl
  · refine Both_ref (k := 1) (r := -1) hR ?_ ?_
    · simp only [gX10_turned, gX10_turned_b, two_f (Or.inl ha), Option.bind_some, ↓reduceIte, rC1, bI_some]
    · unfold gX11_turned gX11_turned_b gX11_turned_24
      rw [letv_eq, mPlace_f ha, Option.bind_some, if_pos rfl, rM1]
      rfl
