/-! Runs by acts; calls: ceiling, flown, judge, whichLag. -/
def arun (E : Mm) (A : Nat → (Nat → Int32) → Nat) (f : Nat → Int32) : Nat → Nat → Int32
  | 0 => f
  | n + 1 => stp (E 0) (E 1) (A n (arun E A f n)) (arun E A f n)
def Run (E : Mm) (A : Nat → (Nat → Int32) → Nat) (f : Nat → Int32) (G : Nat → Nat → Int32) : Prop := G 0 = f ∧ ∀ n, G (n + 1) = stp (E 0) (E 1) (A n (G n)) (G n)
theorem run_ex (E : Mm) (A : Nat → (Nat → Int32) → Nat) (f : Nat → Int32) : ∃ G, Run E A f G := ⟨arun E A f, rfl, fun _ => rfl⟩
theorem Run.vf {E : Mm} {A : Nat → (Nat → Int32) → Nat} {f : Nat → Int32} {G : Nat → Nat → Int32} (h : Run E A f G) (hV : VF f) (h3 : ∀ n g, A n g < 3) (hg : ∀ n g, A n g = 1 → 0 < (g 4).toInt) : ∀ n, VF (G n) := by
  intro n
  induction n with
  | zero => rw [h.1]; exact hV
  | succ n ih => rw [h.2 n]; exact VF_stp ih (h3 _ _) (hg _ _)
theorem cfly69 {E u : Mm} {g : Nat → Int32} {t : Nat} (hE : EC E u) (hC : CF (u 69) g) (hV : VF g) (ht : t < 3) : Ok (gX2_fly 69 (nI t) 58 u) (fun u' => Fk [69] [] u u' ∧ EC E u' ∧ CF (u' 69) (stp (E 0) (E 1) t g)) := by
  refine (cfly (k0 := 69) (k2 := 58) (by decide) (by decide) ht hC hV.1 (fun i hi => (hE.1 i hi).1) (fun i hi => (hE.1 i hi).2.1)).mono ?_
  rintro u' ⟨g1, g2⟩
  have k1 : Fk [69] [] u u' := Fk.one g1 (by decide) (by decide)
  exact ⟨k1, hE.keep k1 (fun c a b e => by simp only [List.mem_cons, List.not_mem_nil, or_false] at e; omega), g2⟩
theorem ccopy69 {E u : Mm} {f : Nat → Int32} (hE : EC E u) (hC : CF (u 67) f) : Ok (gX2_copyFrom 69 67 u) (fun u' => Fk [69] [] u u' ∧ EC E u' ∧ CF (u' 69) f ∧ u' 67 = u 67) := by
  refine (cpFl (k0 := 69) (k1 := 67) (by decide) u).mono ?_
  rintro u' ⟨g1, g2⟩
  have k1 : Fk [69] [] u u' := Fk.one g1 (by decide) (by decide)
  exact ⟨k1, hE.keep k1 (fun c a b e => by simp only [List.mem_cons, List.not_mem_nil, or_false] at e; omega), hC.copy g2, g1 67 (by decide)⟩
theorem mstepW {u u1 : Mm} {g : Nat → Int32} {t : Nat} (hf : Fr cW lW u1 u) (hM : MF u g) (hV : VF g) (ht : t < 3) : Ok (gX11_stepOn (nI t) u) (fun u' => Fm lS u u' ∧ Fr cW lW u1 u' ∧ MF u' (stp (env u1 0) (env u1 1) t g) ∧ u' 74 21 = stp (env u1 0) (env u1 1) t g 8) := by
  have hE := (env_EM u1).fr hf cW_e (by decide)
  refine (mstep ht hM hV.1 (fun i hi => (hE.1 i hi).1) (fun i hi => (hE.1 i hi).2.1)).mono ?_
  rintro u' ⟨h1, h2, h3⟩
  exact ⟨h1, hf.tr (h1.W (by decide)), h2, h3⟩
theorem mholdW {u u1 : Mm} {g : Nat → Int32} (hf : Fr cW lW u1 u) (hM : MF u g) (hV : VF g) : Ok (gX11_holdOn u) (fun u' => Fm lS u u' ∧ Fr cW lW u1 u' ∧ MF u' (stp (env u1 0) (env u1 1) (hact g) g) ∧ u' 74 21 = stp (env u1 0) (env u1 1) (hact g) g 8) := by
  have hE := (env_EM u1).fr hf cW_e (by decide)
  refine (mhold hM hV.1 (fun i hi => (hE.1 i hi).1) (fun i hi => (hE.1 i hi).2.1)).mono ?_
  rintro u' ⟨h1, h2, h3⟩
  exact ⟨h1, hf.tr (h1.W (by decide)), h2, h3⟩
def clA (g : Nat → Int32) : Nat := if 0 < g 4 then 1 else 0
theorem clA_3 (g : Nat → Int32) : clA g < 3 := by
  unfold clA
  split <;> decide
theorem clA_g {g : Nat → Int32} (h : clA g = 1) : 0 < (g 4).toInt := by
  unfold clA at h
  split at h
  · rename_i h1
    rw [t_lt, i0] at h1
    exact h1
  · exact absurd h (by decide)
def clS (G : Nat → Nat → Int32) : Nat → Int32 × Int32
  | 0 => (G 0 0, 0)
  | n + 1 => if (clS G n).1 < G (n + 1) 0 then (G (n + 1) 0, nI (n + 1)) else clS G n
def ClP (G : Nat → Nat → Int32) (S : Nat → Int32 × Int32) : Prop := S 0 = (G 0 0, 0) ∧ ∀ n, S (n + 1) = if (S n).1 < G (n + 1) 0 then (G (n + 1) 0, nI (n + 1)) else S n
theorem c_ceiling (w : Int32) (u : Mm) (hR : R u) : Both (gX10_ceiling w u) (gX11_ceiling w) := by
  by_cases h3 : 0 ≤ w.toInt ∧ w.toInt ≤ 1
  · obtain ⟨G, hG⟩ := run_ex (env u) (fun _ => clA) (flt u)
    have hVG := hG.vf (flt_VF hR) (fun _ g => clA_3 g) (fun _ g => clA_g)
    obtain ⟨S, hS⟩ : ∃ S, ClP G S := ⟨clS G, rfl, fun _ => rfl⟩
    refine Both_of (r := if w = 0 then (S 60).1 else (S 60).2) hR ?_ (fun u1 hR1 e1 e2 _ h74 => ?_)
    · unfold gX10_ceiling gX10_ceiling_b gX3_climbAll gX3_climbAll_b
      rw [if_neg (by rw [t_lt, i0]; omega), if_neg (by rw [t_lt, i1]; omega), ok_bind]
      refine (cbegin hR).mono ?_
      rintro v1 ⟨f1, m1⟩
      rw [ok_bind, ok_bind]
      refine (ccopy69 m1.1 m1.2.1).mono ?_
      rintro v2 ⟨f2, e2, c2, -⟩
      have fv : Fk lM [4, 15, 16] u v2 := (f1.mono (fun _ h => h) (by decide)).tr (f2.mono (by decide) (fun _ h => by cases h))
      rw [letv_eq, letv_eq]
      refine loopS (fun n (s : Int32 × Mm) => gX3_climbAll_29_L n s.1 s.2) (fun g s => gX3_climbAll_29_Ls (fun a b => g (a, b)) s.1 s.2) (fun _ _ => rfl) _
        (fun n s => s.1 = nI n ∧ 1 ≤ n ∧ Fk lM [4, 15, 16] u s.2 ∧ EC (env u) s.2 ∧ CF (s.2 69) (G (n - 1)) ∧ s.2 57 15 = (S (n - 1)).1 ∧ s.2 57 16 = (S (n - 1)).2) 61 ?_ ?_ 60 1 FU (1, stm (stm v2 57 15 (v2 69 0)) 57 16 0) rfl (by decide)
        ⟨rfl, Nat.le_refl _, fv.tr ((Fk.st (by decide)).tr (Fk.st (by decide))), e2.keep (ls := []) (l := [15, 16]) ((Fk.st (by decide)).tr (Fk.st (by decide))) (fun c _ _ e => by cases e), by show CF (v2 69) (G 0); rw [hG.1]; exact c2, ?_, ?_⟩
      · rintro j ⟨x1, x⟩ g hj ⟨h0, hj1, k1, k2, k3, k4, k5⟩ hg
        change x1 = nI j at h0
        subst h0
        obtain ⟨j', rfl⟩ : ∃ j', j = j' + 1 := ⟨j - 1, by omega⟩
        rw [Nat.add_sub_cancel] at k3 k4 k5
        change CF (x 69) _ at k3
        change x 57 15 = _ at k4
        change x 57 16 = _ at k5
        show Ok (gX3_climbAll_29_Ls (fun a b => g (a, b)) (nI (j' + 1)) x) _
        unfold gX3_climbAll_29_Ls
        rw [show (60 : Int32) = nI 60 from rfl, if_neg (by rw [lt_nn (by omega) (by omega)]; omega), able1, show x 69 4 = G j' 4 from k3.1 4 (by decide), Option.bind_some, ok_bind]
        refine (cfly69 (t := clA (G j')) k2 k3 (hVG j') (clA_3 _)).mono ?_
        rintro y ⟨y1, y2, y3⟩
        rw [← hG.2 j'] at y3
        have t1 : Fk lM [4, 15, 16] u y := Fk.tr k1 (y1.mono (by decide) (fun _ h => by cases h))
        have y15 : y 57 15 = (S j').1 := (y1.2 15 (by decide)).trans k4
        have y16 : y 57 16 = (S j').2 := (y1.2 16 (by decide)).trans k5
        have hs := hS.2 j'
        rw [y15, show y 69 0 = G (j' + 1) 0 from y3.1 0 (by decide)]
        refine ok_if (fun c => ?_) (fun c => ?_)
        · rw [if_pos c] at hs
          rw [letv_eq, letv_eq, letv_eq, nI_s (by omega)]
          have kk : Fk [] [15, 16] y (stm (stm y 57 15 (G (j' + 1) 0)) 57 16 (nI (j' + 1))) := (Fk.st (by decide)).tr (Fk.st (by decide))
          exact hg (nI (j' + 1 + 1), stm (stm y 57 15 (G (j' + 1) 0)) 57 16 (nI (j' + 1))) ⟨rfl, by omega, t1.tr (kk.mono (fun _ h => by cases h) (by decide)), y2.keep kk (fun c _ _ e => by cases e), y3, by rw [Nat.add_sub_cancel, hs]; rfl, by rw [Nat.add_sub_cancel, hs]; rfl⟩
        · rw [if_neg c] at hs
          rw [letv_eq, nI_s (by omega)]
          exact hg (nI (j' + 1 + 1), y) ⟨rfl, by omega, t1, y2, y3, by rw [Nat.add_sub_cancel, hs]; exact y15, by rw [Nat.add_sub_cancel, hs]; exact y16⟩
      · rintro ⟨x1, x⟩ g ⟨h0, _, k1, k2, k3, k4, k5⟩
        change x1 = nI 61 at h0
        subst h0
        show Ok (gX3_climbAll_29_Ls (fun a b => g (a, b)) (nI 61) x) _
        unfold gX3_climbAll_29_Ls
        rw [if_pos (by decide)]
        refine ok_some.mpr ?_
        rw [show x 57 15 = (S 60).1 from k4, show x 57 16 = (S 60).2 from k5]
        by_cases w0 : w = 0
        · rw [if_pos w0, if_pos w0]; exact ok_some.mpr ⟨rfl, Sm_K k1⟩
        rw [if_neg w0, if_neg w0]
        exact ok_some.mpr ⟨rfl, Sm_K k1⟩
      · show v2 69 0 = (S 0).1
        rw [hS.1, hG.1]
        exact c2.1 0 (by decide)
      · show (0 : Int32) = (S 0).2
        rw [hS.1]
    · have g3 := in_t (x := w) (a := 0) (b := 1) h3
      rw [← e1, ← e2] at hG
      unfold gX11_ceiling gX11_ceiling_b
      rw [letv_eq, g3, Option.bind_some, if_neg (by decide), letv_eq, ok_bind]
      have m0 : MF (thr u1) (flt u1) := (flt_MF u1).st (by decide)
      have e20 : stm u1 74 19 0 74 2 = flt u1 0 := m0.1 0 (by decide)
      refine (mopen u1).mono ?_
      rintro v1 ⟨o1, o2, o3, o4⟩
      refine loopS (fun n (s : Int32 × Int32 × Int32 × Mm) => gX11_ceiling_36_L w n s.1 s.2.1 s.2.2.1 s.2.2.2) (fun g s => gX11_ceiling_36_Ls w (fun x y z t => g (x, y, z, t)) s.1 s.2.1 s.2.2.1 s.2.2.2) (fun _ _ => rfl) _
        (fun n s => s.2.2.1 = nI n ∧ 1 ≤ n ∧ s.1 = (S (n - 1)).1 ∧ s.2.1 = (S (n - 1)).2 ∧ Fr cW lW u1 s.2.2.2 ∧ MF s.2.2.2 (G (n - 1)) ∧ TH s.2.2.2 (flt u1)) 61 ?_ ?_ 60 1 FU (stm u1 74 19 0 74 2, 0, 1, v1) rfl (by decide) ⟨rfl, Nat.le_refl _, ?_, ?_, o1, by rw [hG.1]; exact o3, o2⟩
      · rintro j ⟨x1, x2, x3, x⟩ g hj ⟨h0, hj1, k1, k2, k3, k4, k5⟩ hg
        change x3 = nI j at h0
        subst h0
        obtain ⟨j', rfl⟩ : ∃ j', j = j' + 1 := ⟨j - 1, by omega⟩
        rw [Nat.add_sub_cancel] at k1 k2 k4
        change x1 = _ at k1
        change x2 = _ at k2
        change MF x _ at k4
        change TH x _ at k5
        show Ok (gX11_ceiling_36_Ls w (fun x y z t => g (x, y, z, t)) x1 x2 (nI (j' + 1)) x) _
        unfold gX11_ceiling_36_Ls
        have hs := hS.2 j'
        have main : ∀ t : Nat, t = clA (G j') → Ok (gX11_ceiling_56 (fun x y z t => g (x, y, z, t)) w x1 x2 (nI (j' + 1)) (nI t) x) (fun q => q.1 = (if w = 0 then (S 60).1 else (S 60).2) ∧ Sm u1 q.2) := by
          intro t ht
          unfold gX11_ceiling_56
          rw [ok_bind]
          refine (mstepW k3 k4 (hVG j') (by rw [ht]; exact clA_3 _)).mono ?_
          rintro y ⟨y0, y1, y2, -⟩
          rw [ht, ← hG.2 j'] at y2
          have y20 : y 74 2 = G (j' + 1) 0 := y2.1 0 (by decide)
          have yT : TH y (flt u1) := k5.keep y0
          unfold gX11_ceiling_73 gX11_ceiling_90
          rw [y20, k1]
          refine ok_if (fun c => ?_) (fun c => ?_)
          · rw [if_pos c] at hs
            rw [if_pos c, letv_eq, nI_s (by omega)]
            exact hg (G (j' + 1) 0, nI (j' + 1), nI (j' + 1 + 1), y) ⟨rfl, by omega, by rw [Nat.add_sub_cancel, hs], by rw [Nat.add_sub_cancel, hs], y1, y2, yT⟩
          · rw [if_neg c] at hs
            rw [if_neg c, letv_eq, nI_s (by omega)]
            exact hg ((S j').1, x2, nI (j' + 1 + 1), y) ⟨rfl, by omega, by rw [Nat.add_sub_cancel, hs], by rw [Nat.add_sub_cancel, hs]; exact k2, y1, y2, yT⟩
        rw [show (60 : Int32) = nI 60 from rfl, if_neg (by rw [lt_nn (by omega) (by omega)]; omega), show x 74 6 = G j' 4 from k4.1 4 (by decide)]
        refine ok_if (fun c => main 1 ?_) (fun c => main 0 ?_)
        · unfold clA; rw [if_pos c]
        · unfold clA; rw [if_neg c]
      · rintro ⟨x1, x2, x3, x⟩ g ⟨h0, _, k1, k2, k3, k4, k5⟩
        change x3 = nI 61 at h0
        subst h0
        change x1 = (S 60).1 at k1
        change x2 = (S 60).2 at k2
        change Fr cW lW u1 x at k3
        change TH x _ at k5
        show Ok (gX11_ceiling_36_Ls w (fun x y z t => g (x, y, z, t)) x1 x2 (nI 61) x) _
        unfold gX11_ceiling_36_Ls
        rw [if_pos (by decide), ok_bind, k1, k2]
        refine (again_ok k5).mono ?_
        rintro y ⟨y1, y2⟩
        have sm : Sm u1 y := Sm_W (k3.tr (y1.W (by decide))) y2
        by_cases w0 : w = 0
        · rw [if_pos w0, if_pos w0]; exact ok_some.mpr ⟨rfl, sm⟩
        rw [if_neg w0, if_neg w0]
        exact ok_some.mpr ⟨rfl, sm⟩
      · show stm u1 74 19 0 74 2 = (S 0).1
        rw [hS.1, hG.1, e20]
      · show (0 : Int32) = (S 0).2
        rw [hS.1]
  · have g3 := in_f (x := w) (a := 0) (b := 1) h3
    refine Both_ref (k := 2) (r := -2) hR ?_ ?_
    · by_cases h0 : w.toInt < 0
      · simp only [gX10_ceiling, gX10_ceiling_b, gX10_ceiling_9, lt_t (a := w) (b := 0) h0, rC2, bI_some, ↓reduceIte]
      · simp only [gX10_ceiling, gX10_ceiling_b, gX10_ceiling_9, lt_f (a := w) (b := 0) h0, lt_t (a := 1) (b := w) (by rw [i1]; omega), rC2, bI_some, ↓reduceIte]
    · simp only [gX11_ceiling, gX11_ceiling_b, letv_eq, g3, Option.bind_some, ↓reduceIte, rM2, bI_some]
/-! The ROW. -/
theorem at_eq {u : Mm} {n i : Nat} (e : u 54 0 = nI n) (hn : n ≤ 12) (hi : i < n) : gX7_at 54 (nI i) u = some (u 55 i) := by
  unfold gX7_at gX7_at_b
  rw [if_neg (nI_pos (by omega)), if_pos (by rw [e, lt_nn (by omega) (by omega)]; exact hi), show sz (54 + 1) = 12 from rfl, if_pos (by rw [lt_nn (by omega) (by omega)]; omega), gd_t (ix_nI (by omega) (by decide)), ixn_nI (by omega)]
theorem rm3 : ∀ n : Nat, n < 100 → irm (nI n) 3 = nI (n % 3) := by decide +kernel
def ablN (t : Nat) (g : Nat → Int32) : Nat := if t = 1 then (if 0 < g 4 then 1 else 0) else t
theorem ablN_3 {t : Nat} (h : t < 3) (g : Nat → Int32) : ablN t g < 3 := by
  unfold ablN
  split
  · split <;> decide
  · exact h
theorem ablN_g {t : Nat} {g : Nat → Int32} (h : ablN t g = 1) : 0 < (g 4).toInt := by
  unfold ablN at h
  split at h
  · split at h
    · rename_i h1
      rw [t_lt, i0] at h1
      exact h1
    · exact absurd h (by decide)
  · rename_i h1
    exact absurd h h1
theorem nI_one {t : Nat} (h : t < 2147483648) : (nI t = 1) ↔ t = 1 := by
  rw [t_eq, t_nI h, i1]
  omega
theorem ableN {k0 t : Nat} {u : Mm} {g : Nat → Int32} (ht : t < 3) (h4 : u k0 4 = g 4) : gX2_able k0 (nI t) u = some (nI (ablN t g)) := by
  unfold gX2_able gX2_able_b ablN
  by_cases c : t = 1
  · subst c
    rw [if_pos rfl, if_pos (show nI 1 = 1 from rfl), h4]
    split <;> rfl
  · rw [if_neg (fun e => c ((nI_one (by omega)).mp e)), if_neg c]
/-- acts as the ROW r tells -/
def rowA (r : Nat → Int32) (n : Nat) (g : Nat → Int32) : Nat := ablN ((r n).toInt.toNat % 3) g
theorem rowA_3 (r : Nat → Int32) (n : Nat) (g : Nat → Int32) : rowA r n g < 3 := ablN_3 (Nat.mod_lt _ (by decide)) g
theorem rowA_g {r : Nat → Int32} {n : Nat} {g : Nat → Int32} (h : rowA r n g = 1) : 0 < (g 4).toInt := ablN_g h
def flwS (g : Nat → Int32) (w : Int32) : Int32 := if w = 0 then g 0 else if w = 1 then g 1 else if w = 2 then g 2 else if w = 3 then g 3 else g 4
theorem gas_z {g : Nat → Int32} (h : VF g) : (g 4 = 0) ↔ ¬ 0 < g 4 := by
  have := h.1.2.2.2.2.1.1
  rw [t_eq, t_lt, i0]
  omega
theorem c_flown (w : Int32) (u : Mm) (hR : R u) : Both (gX10_flown w u) (gX11_flown w) := by
  by_cases h3 : 0 ≤ w.toInt ∧ w.toInt ≤ 4
  · obtain ⟨n, hn, en, em, hrow⟩ := hR.2.2.2.2.1
    obtain ⟨G, hG⟩ := run_ex (env u) (rowA (u 100)) (flt u)
    have hVG := hG.vf (flt_VF hR) (fun _ g => rowA_3 _ _ g) (fun _ g => rowA_g)
    have hrm : ∀ j, j < n → irm (u 100 j) 3 = nI ((u 100 j).toInt.toNat % 3) := by
      intro j hj
      obtain ⟨a, b1, b2⟩ := hrow j hj
      rw [a] at b1 b2
      obtain ⟨x, ex, hx⟩ := nI_upto (N := 99) b1 b2
      rw [ex, rm3 x (by omega), t_nI (by omega), Int.toNat_natCast]
    refine Both_of (r := flwS (G n) w) hR ?_ (fun u1 hR1 e1 e2 hrl h74 => ?_)
    · unfold gX10_flown gX10_flown_b gX3_flyActs gX3_flyActs_b
      rw [if_neg (by rw [t_lt, i0]; omega), if_neg (by rw [t_lt, i4]; omega), ok_bind]
      refine (cbegin hR).mono ?_
      rintro v1 ⟨f1, m1⟩
      rw [ok_bind, ok_bind]
      refine (ccopy69 m1.1 m1.2.1).mono ?_
      rintro v2 ⟨f2, e2, c2, -⟩
      have fv : Fk lM [4] u v2 := f1.tr (f2.mono (by decide) (fun _ h => by cases h))
      refine loopS (fun n (s : Int32 × Mm) => gX3_flyActs_13_L 54 n s.1 s.2) (fun g s => gX3_flyActs_13_Ls 54 (fun a b => g (a, b)) s.1 s.2) (fun _ _ => rfl) _
        (fun n s => s.1 = nI n ∧ Fk lM [4] u s.2 ∧ EC (env u) s.2 ∧ CF (s.2 69) (G n)) n ?_ ?_ n 0 FU (0, v2) (by omega) (by unfold FU; omega)
        ⟨rfl, fv, e2, by rw [hG.1]; exact c2⟩
      · rintro j ⟨x1, x⟩ g hj ⟨h0, k1, k2, k3⟩ hg
        change x1 = nI j at h0
        subst h0
        change CF (x 69) _ at k3
        change Fk lM [4] u x at k1
        have x54 : x 54 = u 54 := k1.1 54 (by decide) (by decide)
        have x55 : x 55 = u 55 := k1.1 55 (by decide) (by decide)
        show Ok (gX3_flyActs_13_Ls 54 (fun a b => g (a, b)) (nI j) x) _
        unfold gX3_flyActs_13_Ls
        rw [x54, en, if_pos (by rw [lt_nn (by omega) (by omega)]; exact hj), at_eq (by rw [x54]; exact en) hn hj, Option.bind_some, x55, (hrow j hj).1, hrm j hj, ableN (Nat.mod_lt _ (by decide)) (k3.1 4 (by decide)), Option.bind_some, ok_bind]
        refine (cfly69 (t := rowA (u 100) j (G j)) k2 k3 (hVG j) (rowA_3 _ _ _)).mono ?_
        rintro y ⟨y1, y2, y3⟩
        rw [← hG.2 j] at y3
        rw [letv_eq, nI_s (by omega)]
        exact hg (nI (j + 1), y) ⟨rfl, k1.tr (y1.mono (by decide) (fun _ h => by cases h)), y2, y3⟩
      · rintro ⟨x1, x⟩ g ⟨h0, k1, k2, k3⟩
        change x1 = nI n at h0
        subst h0
        change CF (x 69) _ at k3
        change Fk lM [4] u x at k1
        have x54 : x 54 = u 54 := k1.1 54 (by decide) (by decide)
        show Ok (gX3_flyActs_13_Ls 54 (fun a b => g (a, b)) (nI n) x) _
        unfold gX3_flyActs_13_Ls
        rw [x54, en, if_neg (by rw [lt_nn (by omega) (by omega)]; omega)]
        refine ok_some.mpr ?_
        have sm := Sm_K k1
        rw [k3.1 0 (by decide), k3.1 1 (by decide), k3.1 2 (by decide), k3.1 3 (by decide), k3.1 4 (by decide)]
        unfold flwS
        by_cases w0 : w = 0
        · rw [if_pos w0, if_pos w0]; exact ok_some.mpr ⟨rfl, sm⟩
        rw [if_neg w0, if_neg w0]
        by_cases w1 : w = 1
        · rw [if_pos w1, if_pos w1]; exact ok_some.mpr ⟨rfl, sm⟩
        rw [if_neg w1, if_neg w1]
        by_cases w2 : w = 2
        · rw [if_pos w2, if_pos w2]; exact ok_some.mpr ⟨rfl, sm⟩
        rw [if_neg w2, if_neg w2]
        by_cases w3 : w = 3
        · rw [if_pos w3, if_pos w3]; exact ok_some.mpr ⟨rfl, sm⟩
        rw [if_neg w3, if_neg w3]
        exact ok_some.mpr ⟨rfl, sm⟩
    · have g3 := in_t (x := w) (a := 0) (b := 4) h3
      rw [← e1, ← e2] at hG
      have em1 : u1 74 58 = nI n := (h74 58 (by decide)).trans em
      have e100 : u1 100 = u 100 := hrl 100 (by decide)
      unfold gX11_flown gX11_flown_b
      rw [letv_eq, g3, Option.bind_some, if_neg (by decide), ok_bind]
      refine (mopen u1).mono ?_
      rintro v1 ⟨o1, o2, o3, o4⟩
      refine loopS (fun n (s : Int32 × Mm) => gX11_flown_30_L w n s.1 s.2) (fun g s => gX11_flown_30_Ls w (fun z t => g (z, t)) s.1 s.2) (fun _ _ => rfl) _
        (fun n s => s.1 = nI n ∧ Fr cW lW u1 s.2 ∧ MF s.2 (G n) ∧ TH s.2 (flt u1)) n ?_ ?_ n 0 FU (0, v1) (by omega) (by unfold FU; omega) ⟨rfl, o1, by rw [hG.1]; exact o3, o2⟩
      · rintro j ⟨x1, x⟩ g hj ⟨h0, k1, k2, k3⟩ hg
        change x1 = nI j at h0
        subst h0
        change Fr cW lW u1 x at k1
        change MF x _ at k2
        change TH x _ at k3
        have x58 : x 74 58 = nI n := (k1.2 58 (by decide)).trans em1
        have x100 : x 100 = u 100 := (k1.1 100 (by decide) (by decide)).trans e100
        show Ok (gX11_flown_30_Ls w (fun z t => g (z, t)) (nI j) x) _
        unfold gX11_flown_30_Ls
        have main : ∀ t : Nat, t = rowA (u 100) j (G j) → Ok (gX11_flown_65 (fun z t => g (z, t)) w (nI j) (nI t) x) (fun q => q.1 = flwS (G n) w ∧ Sm u1 q.2) := by
          intro t ht
          unfold gX11_flown_65
          rw [ok_bind]
          refine (mstepW k1 k2 (hVG j) (by rw [ht]; exact rowA_3 _ _ _)).mono ?_
          rintro y ⟨y0, y1, y2, -⟩
          rw [ht, ← hG.2 j] at y2
          rw [letv_eq, nI_s (by omega)]
          exact hg (nI (j + 1), y) ⟨rfl, y1, y2, k3.keep y0⟩
        rw [x58, if_pos (by rw [lt_nn (by omega) (by omega)]; exact hj), gd_t (ix_nI (by omega) (by decide)), ixn_nI (by omega), letv_eq, x100, hrm j hj, show x 74 6 = G j 4 from k2.1 4 (by decide)]
        unfold gX11_flown_64
        have ht3 : (u 100 j).toInt.toNat % 3 < 3 := Nat.mod_lt _ (by decide)
        refine ok_if (fun c => ?_) (fun c => main _ ?_)
        · have c1 := (nI_one (by omega)).mp c
          refine ok_if (fun c2 => main 0 ?_) (fun c2 => main _ ?_)
          · unfold rowA ablN
            rw [if_pos c1, if_neg ((gas_z (hVG j)).mp c2)]
          · unfold rowA ablN
            rw [c1, if_pos rfl, if_pos (Decidable.not_not.mp (fun h => c2 ((gas_z (hVG j)).mpr h)))]
        · unfold rowA ablN
          rw [if_neg (fun h => c ((nI_one (by omega)).mpr h))]
      · rintro ⟨x1, x⟩ g ⟨h0, k1, k2, k3⟩
        change x1 = nI n at h0
        subst h0
        change Fr cW lW u1 x at k1
        change MF x _ at k2
        change TH x _ at k3
        have x58 : x 74 58 = nI n := (k1.2 58 (by decide)).trans em1
        show Ok (gX11_flown_30_Ls w (fun z t => g (z, t)) (nI n) x) _
        unfold gX11_flown_30_Ls
        have main : ∀ s : Int32, s = flwS (G n) w → Ok (gX11_flown_125 s x) (fun q => q.1 = flwS (G n) w ∧ Sm u1 q.2) := by
          intro s hs
          unfold gX11_flown_125
          rw [ok_bind]
          refine (again_ok k3).mono ?_
          rintro y ⟨y1, y2⟩
          exact ok_some.mpr ⟨hs, Sm_W (k1.tr (y1.W (by decide))) y2⟩
        rw [x58, if_neg (by rw [lt_nn (by omega) (by omega)]; omega), show x 74 2 = G n 0 from k2.1 0 (by decide), show x 74 3 = G n 1 from k2.1 1 (by decide), show x 74 4 = G n 2 from k2.1 2 (by decide), show x 74 5 = G n 3 from k2.1 3 (by decide), show x 74 6 = G n 4 from k2.1 4 (by decide)]
        unfold flwS at main ⊢
        refine ok_if (fun w0 => main _ ?_) (fun w0 => ok_if (fun w1 => main _ ?_) (fun w1 => ok_if (fun w2 => main _ ?_) (fun w2 => ok_if (fun w3 => main _ ?_) (fun w3 => main _ ?_))))
        · rw [if_pos w0]
        · rw [if_neg w0, if_pos w1]
        · rw [if_neg w0, if_neg w1, if_pos w2]
        · rw [if_neg w0, if_neg w1, if_neg w2, if_pos w3]
        · rw [if_neg w0, if_neg w1, if_neg w2, if_neg w3]
  · have g3 := in_f (x := w) (a := 0) (b := 4) h3
    refine Both_ref (k := 2) (r := -2) hR ?_ ?_
    · by_cases h0 : w.toInt < 0
      · simp only [gX10_flown, gX10_flown_b, gX10_flown_9, lt_t (a := w) (b := 0) h0, rC2, bI_some, ↓reduceIte]
      · simp only [gX10_flown, gX10_flown_b, gX10_flown_9, lt_f (a := w) (b := 0) h0, lt_t (a := 4) (b := w) (by rw [i4]; omega), rC2, bI_some, ↓reduceIte]
    · simp only [gX11_flown, gX11_flown_b, letv_eq, g3, Option.bind_some, ↓reduceIte, rM2, bI_some]
