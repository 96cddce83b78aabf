/-! Division of small numbers; calls: swing, calm. -/
theorem dv_n {k m : Nat} (hk : k < 2147483648) (h0 : 0 < m) (hm : m < 2147483648) : nI k / nI m = nI (k / m) := by
  have h1 : k / m ≤ k := Nat.div_le_self k m
  refine of_nat ?_ (by omega)
  rw [Int32.toInt_div_of_ne_right _ _ (fun e => by have := congrArg Int32.toInt e; rw [t_nI hm, im1] at this; omega), t_nI hk, t_nI hm, Int.tdiv_eq_ediv_of_nonneg (by omega)]
  exact (Int.natCast_ediv k m).symm
theorem rm_n {k m : Nat} (hk : k < 2147483648) (h0 : 0 < m) (hm : m < 2147483648) : irm (nI k) (nI m) = nI (k % m) := by
  unfold irm
  have h1 : k / m ≤ k := Nat.div_le_self k m
  have h2 := Nat.div_add_mod k m
  have h3 : m * (k / m) ≤ k := Nat.mul_div_le k m
  have h4 : ((nI (k / m)) * nI m).toInt = ((m * (k / m) : Nat) : Int) := by
    rw [t_mul] <;> rw [t_nI (show k / m < 2147483648 by omega), t_nI hm]
    · rw [Nat.mul_comm]; exact (Int.natCast_mul _ _).symm
    · have : ((k / m : Nat) : Int) * (m : Int) = ((m * (k / m) : Nat) : Int) := by rw [Nat.mul_comm]; exact (Int.natCast_mul _ _).symm
      rw [this]; omega
    · have : ((k / m : Nat) : Int) * (m : Int) = ((m * (k / m) : Nat) : Int) := by rw [Nat.mul_comm]; exact (Int.natCast_mul _ _).symm
      rw [this]; omega
  rw [dv_n hk h0 hm]
  refine of_nat ?_ (by have := Nat.mod_le k m; omega)
  rw [t_sub (by rw [t_nI hk, h4]; omega) (by rw [t_nI hk, h4]; omega), t_nI hk, h4]
  omega
def fltA (h : Nat → Int32) : Nat := if riseS (h 3) (h 5) < 0 then (if 0 < h 4 then 1 else 0) else if 0 < riseS (h 3) (h 5) then 2 else 0
def swA (g n : Nat) (h : Nat → Int32) : Nat := if n % g = 0 then fltA h else 0
theorem fltA_3 (h : Nat → Int32) : fltA h < 3 := by
  unfold fltA
  split
  · split <;> decide
  · split <;> decide
theorem fltA_g {h : Nat → Int32} (e : fltA h = 1) : 0 < (h 4).toInt := by
  unfold fltA at e
  split at e
  · split at e
    · rename_i h1
      rw [t_lt, i0] at h1
      exact h1
    · exact absurd e (by decide)
  · split at e
    · exact absurd e (by decide)
    · exact absurd e (by decide)
theorem swA_3 (g n : Nat) (h : Nat → Int32) : swA g n h < 3 := by
  unfold swA
  split
  · exact fltA_3 h
  · decide
theorem swA_g {g n : Nat} {h : Nat → Int32} (e : swA g n h = 1) : 0 < (h 4).toInt := by
  unfold swA at e
  split at e
  · exact fltA_g e
  · exact absurd e (by decide)
theorem feltN {k0 : Nat} {u : Mm} {h : Nat → Int32} (hC : CF (u k0) h) : gX2_feltAct k0 u = some (nI (fltA h)) := by
  unfold gX2_feltAct gX2_feltAct_b gX2_climb gX2_climb_b gX2_balance gX2_balance_b fltA
  rw [Option.bind_some, Option.bind_some, able1, hC.1 3 (by decide), hC.1 5 (by decide), hC.1 4 (by decide), Option.bind_some, show (h 3 - (12 + 2 * h 5)) / 4 = riseS (h 3) (h 5) from rfl]
  by_cases c : riseS (h 3) (h 5) < 0
  · rw [if_pos c, if_pos c]
  · rw [if_neg c, if_neg c]
    by_cases c2 : 0 < riseS (h 3) (h 5)
    · rw [if_pos c2, if_pos c2]; rfl
    · rw [if_neg c2, if_neg c2]; rfl
def swU (n : Nat) (b : Int32) (s : Int32 × Int32) : Int32 × Int32 := if n < 20 then (imax s.1 b, s.2) else (s.1, imax s.2 b)
def swS (G : Nat → Nat → Int32) (f : Nat → Int32) : Nat → Int32 × Int32
  | 0 => (0, 0)
  | n + 1 => swU n (iabs (G (n + 1) 0 - f 0)) (swS G f n)
def SwP (G : Nat → Nat → Int32) (f : Nat → Int32) (S : Nat → Int32 × Int32) : Prop := S 0 = (0, 0) ∧ ∀ n, S (n + 1) = swU n (iabs (G (n + 1) 0 - f 0)) (S n)
theorem md_s : ∀ g : Nat, g < 10 → ∀ i : Nat, i < 40 → g = 0 ∨ (i + 1) % g = if i % g + 1 < g then i % g + 1 else 0 := by decide +kernel
theorem cans {E u : Mm} {f : Nat → Int32} {g : Nat} {G : Nat → Nat → Int32} {S : Nat → Int32 × Int32} (hE : EC E u) (hC : CF (u 67) f) (hG : Run E (swA g) f G) (hS : SwP G f S) (hV : VF f) (g1 : 1 ≤ g) (g9 : g ≤ 9) :
    Ok (gX3_answerEach (nI g) u) (fun u' => Fk [69] [11, 12] u u' ∧ EC E u' ∧ CF (u' 67) f ∧ u' 57 11 = (S 40).1 ∧ u' 57 12 = (S 40).2) := by
  have hVG := hG.vf hV (fun n h => swA_3 g n h) (fun n h => swA_g)
  unfold gX3_answerEach gX3_answerEach_b
  rw [letv_eq, letv_eq, ok_bind]
  have f0 : Fk [69] [11, 12] u (stm (stm u 57 11 0) 57 12 0) := (Fk.st (by decide)).tr (Fk.st (by decide))
  have hn : ∀ c, 59 ≤ c → c ≤ 66 → c ∉ [69] := fun c a b e => by simp only [List.mem_cons, List.not_mem_nil, or_false] at e; omega
  refine (ccopy69 (hE.keep f0 hn) (show CF (u 67) f from hC)).mono ?_
  rintro v2 ⟨f2, e2, c2, k67⟩
  have fv : Fk [69] [11, 12] u v2 := f0.tr (f2.mono (fun _ h => h) (fun _ h => by cases h))
  have v67 : v2 67 = u 67 := k67
  refine loopS (fun n (s : Int32 × Int32 × Mm) => gX3_answerEach_25_L (nI g) n s.1 s.2.1 s.2.2) (fun j s => gX3_answerEach_25_Ls (nI g) (fun a b c => j (a, b, c)) s.1 s.2.1 s.2.2) (fun _ _ => rfl) _
    (fun n s => s.2.1 = nI n ∧ s.1 = nI (n % g) ∧ Fk [69] [11, 12] u s.2.2 ∧ EC E s.2.2 ∧ s.2.2 67 = u 67 ∧ CF (s.2.2 69) (G n) ∧ s.2.2 57 11 = (S n).1 ∧ s.2.2 57 12 = (S n).2) 40 ?_ ?_ 40 0 FU (0, 0, v2) rfl (by decide) ⟨rfl, by rw [Nat.zero_mod]; rfl, fv, e2, v67, by rw [hG.1]; exact c2, ?_, ?_⟩
  · rintro i ⟨x1, x2, x⟩ j hi ⟨h0, k1, k2, k3, k4, k5, k6, k7⟩ hj
    change x2 = nI i at h0
    subst h0
    change x1 = _ at k1
    change x 67 = u 67 at k4
    change CF (x 69) _ at k5
    change x 57 11 = _ at k6
    change x 57 12 = _ at k7
    show Ok (gX3_answerEach_25_Ls (nI g) (fun a b c => j (a, b, c)) x1 (nI i) x) _
    unfold gX3_answerEach_25_Ls
    have hlt : i % g < g := Nat.mod_lt _ g1
    have hs := hS.2 i
    unfold swU at hs
    have main : ∀ t : Nat, t = swA g i (G i) → Ok (gX3_answerEach_50 (fun a b c => j (a, b, c)) (nI g) x1 (nI i) (nI t) x) (fun u' => Fk [69] [11, 12] u u' ∧ EC E u' ∧ CF (u' 67) f ∧ u' 57 11 = (S 40).1 ∧ u' 57 12 = (S 40).2) := by
      intro t ht
      unfold gX3_answerEach_50
      rw [ok_bind]
      refine (cfly69 k3 k5 (hVG i) (by rw [ht]; exact swA_3 _ _ _)).mono ?_
      rintro y ⟨y1, y2, y3⟩
      rw [ht, ← hG.2 i] at y3
      have ky : Fk [69] [11, 12] u y := Fk.tr k2 (y1.mono (fun _ h => h) (fun _ h => by cases h))
      have y67 : y 67 = u 67 := (y1.1 67 (by decide) (by decide)).trans k4
      have y11 : y 57 11 = (S i).1 := (y1.2 11 (by decide)).trans k6
      have y12 : y 57 12 = (S i).2 := (y1.2 12 (by decide)).trans k7
      have eb : iabs (y 69 0 - y 67 0) = iabs (G (i + 1) 0 - f 0) := by rw [y3.1 0 (by decide), y67, hC.1 0 (by decide)]
      have last : ∀ s0 : Int32, s0 = nI ((i + 1) % g) → Ok (gX3_answerEach_71 (fun a b c => j (a, b, c)) (nI g) (nI i) s0 y) (fun u' => Fk [69] [11, 12] u u' ∧ EC E u' ∧ CF (u' 67) f ∧ u' 57 11 = (S 40).1 ∧ u' 57 12 = (S 40).2) := by
        intro s0 hs0
        unfold gX3_answerEach_71
        have c20 : nI i < 20 ↔ i < 20 := by rw [show (20 : Int32) = nI 20 from rfl, lt_nn (by omega) (by omega)]
        rw [letv_eq, eb]
        refine ok_if (fun c => ?_) (fun c => ?_)
        · rw [if_pos (c20.mp c)] at hs
          rw [letv_eq, letv_eq, nI_s (by omega), y11]
          have kk : Fk [69] [11, 12] y (stm y 57 11 (imax (S i).1 (iabs (G (i + 1) 0 - f 0)))) := Fk.st (by decide)
          exact hj (s0, nI (i + 1), stm y 57 11 (imax (S i).1 (iabs (G (i + 1) 0 - f 0)))) ⟨rfl, hs0, ky.tr kk, y2.keep kk hn, y67, y3, by rw [hs]; rfl, by rw [hs]; exact y12⟩
        · rw [if_neg (fun h => c (c20.mpr h))] at hs
          rw [letv_eq, letv_eq, nI_s (by omega), y12]
          have kk : Fk [69] [11, 12] y (stm y 57 12 (imax (S i).2 (iabs (G (i + 1) 0 - f 0)))) := Fk.st (by decide)
          exact hj (s0, nI (i + 1), stm y 57 12 (imax (S i).2 (iabs (G (i + 1) 0 - f 0)))) ⟨rfl, hs0, ky.tr kk, y2.keep kk hn, y67, y3, by rw [hs]; exact y11, by rw [hs]; rfl⟩
      rcases md_s g (by omega) i hi with e | e
      · omega
      · have cg : nI (i % g + 1) < nI g ↔ i % g + 1 < g := by rw [lt_nn (by omega) (by omega)]
        rw [k1, nI_s (by omega)]
        refine ok_if (fun c => last _ ?_) (fun c => last _ ?_)
        · rw [e, if_pos (cg.mp c)]
        · rw [e, if_neg (fun h => c (cg.mpr h))]; rfl
    rw [show (40 : Int32) = nI 40 from rfl, if_pos (by rw [lt_nn (by omega) (by omega)]; exact hi), feltN k5, Option.bind_some]
    refine ok_if (fun c => main _ ?_) (fun c => main 0 ?_)
    · unfold swA
      rw [if_pos ((nI_z (by omega)).mp (by rw [← k1]; exact c))]
    · unfold swA
      rw [if_neg (fun h => c (by rw [k1]; exact (nI_z (by omega)).mpr h))]
  · rintro ⟨x1, x2, x⟩ j ⟨h0, k1, k2, k3, k4, k5, k6, k7⟩
    change x2 = nI 40 at h0
    subst h0
    change x 67 = u 67 at k4
    show Ok (gX3_answerEach_25_Ls (nI g) (fun a b c => j (a, b, c)) x1 (nI 40) x) _
    unfold gX3_answerEach_25_Ls
    rw [if_neg (by decide)]
    exact ok_some.mpr ⟨k2, k3, by rw [k4]; exact hC, k6, k7⟩
  · rw [hS.1]
    exact (f2.2 11 (by decide)).trans rfl
  · rw [hS.1]
    exact (f2.2 12 (by decide)).trans rfl
theorem imax_d (a b : Int32) : imax a b = if a < b then b else a := rfl
theorem mswing {u u1 : Mm} {g : Nat} {G : Nat → Nat → Int32} {S : Nat → Int32 × Int32} (hf : Fr cW lW u1 u) (hM : MF u (flt u1)) (hR1 : R u1) (hG : Run (env u1) (swA g) (flt u1) G) (hS : SwP G (flt u1) S) (g1 : 1 ≤ g) (g9 : g ≤ 9) :
    Ok (gX11_swingBy (nI g) u) (fun u' => Fr cW lW u1 u' ∧ MF u' (flt u1) ∧ u' 74 51 = (S 40).1 ∧ u' 74 52 = (S 40).2) := by
  have hVG := hG.vf (flt_VF hR1) (fun n h => swA_3 g n h) (fun n h => swA_g)
  unfold gX11_swingBy gX11_swingBy_b
  rw [ok_bind]
  refine (open_fr hM).mono ?_
  rintro v ⟨o1, o2, o3⟩
  have ov : Fr cW lW u1 v := hf.tr (o1.mono (by decide) (by decide))
  rw [letv_eq, letv_eq, letv_eq, show v 74 2 = flt u1 0 from o3.1 0 (by decide)]
  refine loopS (fun n (s : Int32 × Mm) => gX11_swingBy_21_L (nI g) (flt u1 0) n s.1 s.2) (fun j s => gX11_swingBy_21_Ls (nI g) (flt u1 0) (fun a b => j (a, b)) s.1 s.2) (fun _ _ => rfl) _
    (fun n s => s.1 = nI n ∧ Fr cW lW u1 s.2 ∧ MF s.2 (G n) ∧ TH s.2 (flt u1) ∧ s.2 74 51 = (S n).1 ∧ s.2 74 52 = (S n).2) 40 ?_ ?_ 40 0 FU (0, stm (stm v 74 51 0) 74 52 0) rfl (by decide)
    ⟨rfl, ov.tr ((Fr.st (by decide)).tr (Fr.st (by decide))), by rw [hG.1]; exact (o3.st (by decide)).st (by decide), o2, by rw [hS.1]; rfl, by rw [hS.1]; rfl⟩
  · rintro i ⟨x1, x⟩ j hi ⟨h0, k1, k2, k3, k4, k5⟩ hj
    change x1 = nI i at h0
    subst h0
    change Fr cW lW u1 x at k1
    change MF x _ at k2
    change TH x _ at k3
    change x 74 51 = _ at k4
    change x 74 52 = _ at k5
    show Ok (gX11_swingBy_21_Ls (nI g) (flt u1 0) (fun a b => j (a, b)) (nI i) x) _
    unfold gX11_swingBy_21_Ls
    have hs := hS.2 i
    unfold swU at hs
    have main : ∀ t : Nat, t = swA g i (G i) → Ok (gX11_swingBy_70 (fun a b => j (a, b)) (nI g) (flt u1 0) (nI i) (nI t) x) (fun u' => Fr cW lW u1 u' ∧ MF u' (flt u1) ∧ u' 74 51 = (S 40).1 ∧ u' 74 52 = (S 40).2) := by
      intro t ht
      unfold gX11_swingBy_70
      rw [ok_bind]
      refine (mstepW k1 k2 (hVG i) (by rw [ht]; exact swA_3 _ _ _)).mono ?_
      rintro y ⟨y0, y1, y2, -⟩
      rw [ht, ← hG.2 i] at y2
      have yT := k3.keep y0
      have y51 : y 74 51 = (S i).1 := (y0.2 51 (by decide)).trans k4
      have y52 : y 74 52 = (S i).2 := (y0.2 52 (by decide)).trans k5
      rw [iabs_eq, Option.bind_some, show y 74 2 = G (i + 1) 0 from y2.1 0 (by decide)]
      generalize hb : iabs (G (i + 1) 0 - flt u1 0) = b at hs
      have fin : ∀ a c : Int32, a = (S (i + 1)).1 → c = (S (i + 1)).2 → Ok (gX11_swingBy_137 (fun a b => j (a, b)) (nI g) (flt u1 0) (nI i) c (stm y 74 51 a)) (fun u' => Fr cW lW u1 u' ∧ MF u' (flt u1) ∧ u' 74 51 = (S 40).1 ∧ u' 74 52 = (S 40).2) := by
        intro a c z3 z4
        unfold gX11_swingBy_137
        rw [letv_eq, letv_eq, nI_s (by omega)]
        have zz : Fm [51, 52] y (stm (stm y 74 51 a) 74 52 c) := (Fm.st (by decide)).tr (Fm.st (by decide))
        exact hj (nI (i + 1), stm (stm y 74 51 a) 74 52 c) ⟨rfl, y1.tr (zz.W (by decide)), (y2.st (by decide)).st (by decide), yT.keep zz, z3, z4⟩
      unfold gX11_swingBy_105 gX11_swingBy_109 gX11_swingBy_133
      have c20 : nI i < 20 ↔ i < 20 := by rw [show (20 : Int32) = nI 20 from rfl, lt_nn (by omega) (by omega)]
      rw [y51]
      by_cases c' : i < 20
      · rw [if_pos c'] at hs
        have c := c20.mpr c'
        rw [if_pos c]
        have e1 : (S (i + 1)).1 = if (S i).1 < b then b else (S i).1 := by rw [hs]; rfl
        have e2 : (S (i + 1)).2 = (S i).2 := by rw [hs]
        refine ok_if (fun c2 => ?_) (fun c2 => ?_)
        · rw [letv_eq, if_pos c]
          exact fin _ _ (by rw [e1, if_pos c2]) (by rw [e2]; exact y52)
        · rw [letv_eq, if_pos c]
          exact fin _ _ (by rw [e1, if_neg c2]) (by rw [e2]; exact y52)
      · rw [if_neg c'] at hs
        have c : ¬ nI i < 20 := fun h => c' (c20.mp h)
        rw [if_neg c, letv_eq, if_neg c]
        have e1 : (S (i + 1)).1 = (S i).1 := by rw [hs]
        have e2 : (S (i + 1)).2 = if (S i).2 < b then b else (S i).2 := by rw [hs]; rfl
        rw [show stm y 74 51 (S i).1 74 52 = (S i).2 from y52]
        refine ok_if (fun c2 => fin _ _ e1.symm (by rw [e2, if_pos c2])) (fun c2 => fin _ _ e1.symm (by rw [e2, if_neg c2]))
    have hrm : irm (nI i) (nI g) = nI (i % g) := rm_n (by omega) (by omega) (by omega)
    have hlt : i % g < g := Nat.mod_lt _ g1
    rw [show (40 : Int32) = nI 40 from rfl, if_pos (by rw [lt_nn (by omega) (by omega)]; exact hi), gd_t (show ¬ nI g = 0 from fun e => by have := (nI_z (show g < 2147483648 by omega)).mp e; omega), hrm]
    have e3 : x 74 5 = G i 3 := k2.1 3 (by decide)
    have e5 : x 74 7 = G i 5 := k2.1 5 (by decide)
    have e4 : x 74 6 = G i 4 := k2.1 4 (by decide)
    unfold gX11_risingNow gX11_risingNow_b gX11_balance gX11_balance_b gX11_swingBy_41 gX11_swingBy_69
    rw [Option.bind_some, Option.bind_some, e3, e5, e4, show (G i 3 - (12 + 2 * G i 5)) / 4 = riseS (G i 3) (G i 5) from rfl]
    by_cases c : i % g = 0
    · rw [if_pos ((nI_z (by omega)).mpr c)]
      refine ok_if (fun c1 => main 2 ?_) (fun c1 => ok_if (fun c2 => ok_if (fun c3 => main 1 ?_) (fun c3 => main 0 ?_)) (fun c2 => main 0 ?_))
      · unfold swA fltA
        rw [if_pos c, if_neg (fun h => by rw [t_lt] at h c1; omega), if_pos c1]
      · unfold swA fltA
        rw [if_pos c, if_pos c2, if_pos c3]
      · unfold swA fltA
        rw [if_pos c, if_pos c2, if_neg c3]
      · unfold swA fltA
        rw [if_pos c, if_neg c2, if_neg c1]
    · rw [if_neg (fun h => c ((nI_z (by omega)).mp h)), if_neg (by decide), if_neg (by decide)]
      exact main 0 (by unfold swA; rw [if_neg c])
  · rintro ⟨x1, x⟩ j ⟨h0, k1, k2, k3, k4, k5⟩
    change x1 = nI 40 at h0
    subst h0
    change Fr cW lW u1 x at k1
    change TH x _ at k3
    change x 74 51 = _ at k4
    change x 74 52 = _ at k5
    show Ok (gX11_swingBy_21_Ls (nI g) (flt u1 0) (fun a b => j (a, b)) (nI 40) x) _
    unfold gX11_swingBy_21_Ls
    rw [if_neg (by decide), ok_bind]
    refine (again_ok k3).mono ?_
    rintro y ⟨y1, y2⟩
    exact ok_some.mpr ⟨k1.tr (y1.W (by decide)), y2, (y1.2 51 (by decide)).trans k4, (y1.2 52 (by decide)).trans k5⟩
def grw (s : Int32 × Int32) : Int32 := if s.1 < s.2 then 1 else 0
theorem c_swing (w : Int32) (u : Mm) (hR : R u) : Both (gX10_swing w u) (gX11_swing w) := by
  by_cases h3 : 0 ≤ w.toInt ∧ w.toInt ≤ 2
  · obtain ⟨G, hG⟩ := run_ex (env u) (swA 1) (flt u)
    obtain ⟨S, hS⟩ : ∃ S, SwP G (flt u) S := ⟨swS G (flt u), rfl, fun _ => rfl⟩
    refine Both_of (r := if w = 0 then (S 40).1 else if w = 1 then (S 40).2 else grw (S 40)) hR ?_ (fun u1 hR1 e1 e2 _ h74 => ?_)
    · unfold gX10_swing gX10_swing_b
      rw [if_neg (by rw [t_lt, i0]; omega), if_neg (by rw [t_lt, i2]; omega), ok_bind]
      refine (cbegin hR).mono ?_
      rintro v1 ⟨f1, m1⟩
      rw [ok_bind]
      refine (cans (g := 1) m1.1 m1.2.1 hG hS (flt_VF hR) (by decide) (by decide)).mono ?_
      rintro x ⟨q1, q2, q3, q4, q5⟩
      have sm : Sm u x := Sm_K (l := [4, 11, 12]) ((f1.mono (fun _ h => h) (by decide)).tr (q1.mono (by decide) (by decide)))
      have hg : gX3_swingGrows x = some (grw (S 40)) := by
        unfold gX3_swingGrows gX3_swingGrows_b grw
        rw [q4, q5]
        split <;> rfl
      rw [q4, q5, hg, Option.bind_some]
      by_cases w0 : w = 0
      · rw [if_neg (by rw [w0]; decide), if_pos w0, if_pos w0]; exact ok_some.mpr ⟨rfl, sm⟩
      by_cases w1 : w = 1
      · rw [if_neg (by rw [w1]; decide), if_neg w0, if_neg w0, if_pos w1]; exact ok_some.mpr ⟨rfl, sm⟩
      have w2 : w = 2 := by
        rw [t_eq, i0] at w0
        rw [t_eq, i1] at w1
        rw [t_eq, i2]
        omega
      rw [if_pos w2, if_neg w0, if_neg w1]
      unfold grw
      by_cases c : (S 40).1 < (S 40).2
      · rw [if_pos c, if_neg (by decide)]; exact ok_some.mpr ⟨rfl, sm⟩
      · rw [if_neg c, if_pos rfl]; exact ok_some.mpr ⟨rfl, sm⟩
    · have g3 := in_t (x := w) (a := 0) (b := 2) h3
      rw [← e1, ← e2] at hG
      rw [← e2] at hS
      unfold gX11_swing gX11_swing_b
      rw [letv_eq, g3, Option.bind_some, if_neg (by decide), ok_bind]
      refine (mswing (g := 1) (u1 := u1) (Fr.st (by decide)) ((flt_MF u1).st (by decide)) hR1 hG hS (by decide) (by decide)).mono ?_
      rintro x ⟨q1, q2, q3, q4⟩
      have sm := Sm_W q1 q2
      rw [q3, q4]
      by_cases w0 : w = 0
      · rw [if_pos w0, if_pos w0]; exact ok_some.mpr ⟨rfl, sm⟩
      rw [if_neg w0, if_neg w0]
      by_cases w1 : w = 1
      · rw [if_pos w1, if_pos w1]; exact ok_some.mpr ⟨rfl, sm⟩
      rw [if_neg w1, if_neg w1]
      unfold grw
      by_cases c : (S 40).1 < (S 40).2
      · rw [if_pos c, if_pos c]; exact ok_some.mpr ⟨rfl, sm⟩
      · rw [if_neg c, if_neg c]; exact ok_some.mpr ⟨rfl, sm⟩
  · have g3 := in_f (x := w) (a := 0) (b := 2) h3
    refine Both_ref (k := 2) (r := -2) hR ?_ ?_
    · by_cases h0 : w.toInt < 0
      · simp only [gX10_swing, gX10_swing_b, gX10_swing_9, lt_t (a := w) (b := 0) h0, rC2, bI_some, ↓reduceIte]
      · simp only [gX10_swing, gX10_swing_b, gX10_swing_9, lt_f (a := w) (b := 0) h0, lt_t (a := 2) (b := w) (by rw [i2]; omega), rC2, bI_some, ↓reduceIte]
    · simp only [gX11_swing, gX11_swing_b, letv_eq, g3, Option.bind_some, ↓reduceIte, rM2, bI_some]
theorem c_calm (u : Mm) (hR : R u) : Both (gX10_calm u) gX11_calm := by
  obtain ⟨G, hG⟩ : ∃ G : Nat → Nat → Nat → Int32, ∀ g, Run (env u) (swA g) (flt u) (G g) := ⟨fun g => arun (env u) (swA g) (flt u), fun g => ⟨rfl, fun _ => rfl⟩⟩
  obtain ⟨S, hS⟩ : ∃ S : Nat → Nat → Int32 × Int32, ∀ g, SwP (G g) (flt u) (S g) := ⟨fun g => swS (G g) (flt u), fun g => ⟨rfl, fun _ => rfl⟩⟩
  obtain ⟨K, hK⟩ : ∃ K : Nat → Nat, ∀ g, K g = if (S g 40).1 < (S g 40).2 then 0 else 1 := ⟨_, fun _ => rfl⟩
  refine Both_of (r := kpF K 9 1) hR ?_ (fun u1 hR1 e1 e2 _ h74 => ?_)
  · unfold gX10_calm gX10_calm_b
    rw [ok_bind]
    refine (cbegin hR).mono ?_
    rintro v1 ⟨f1, m1⟩
    refine loopS (fun n (s : Int32 × Mm) => gX10_calm_13_L n s.1 s.2) (fun j s => gX10_calm_13_Ls (fun a b => j (a, b)) s.1 s.2) (fun _ _ => rfl) _
      (fun n s => s.1 = nI n ∧ 1 ≤ n ∧ n ≤ 10 ∧ Fk lM [4, 11, 12] u s.2 ∧ EC (env u) s.2 ∧ CF (s.2 67) (flt u) ∧ kpF K 9 1 = kpF K (10 - n) n) 10 ?_ ?_ 9 1 FU (1, v1) rfl (by decide) ⟨rfl, Nat.le_refl _, by decide, f1.mono (fun _ h => h) (by decide), m1.1, m1.2.1, rfl⟩
    · rintro i ⟨x1, x⟩ j hi ⟨h0, hi1, _, k1, k2, k3, k4⟩ hj
      change x1 = nI i at h0
      subst h0
      show Ok (gX10_calm_13_Ls (fun a b => j (a, b)) (nI i) x) _
      unfold gX10_calm_13_Ls
      rw [show (9 : Int32) = nI 9 from rfl, if_neg (by rw [lt_nn (by omega) (by omega)]; omega), ok_bind]
      refine (cans (g := i) k2 k3 (hG i) (hS i) (flt_VF hR) hi1 (by omega)).mono ?_
      rintro y ⟨q1, q2, q3, q4, q5⟩
      have ky : Fk lM [4, 11, 12] u y := Fk.tr k1 (q1.mono (by decide) (by decide))
      have hg : gX3_swingGrows y = some (grw (S i 40)) := by
        unfold gX3_swingGrows gX3_swingGrows_b grw
        rw [q4, q5]
        split <;> rfl
      have e10 : 10 - i = (10 - (i + 1)) + 1 := by omega
      rw [e10] at k4
      have hKi := hK i
      rw [hg, Option.bind_some]
      unfold grw
      by_cases c : (S i 40).1 < (S i 40).2
      · rw [if_pos c] at hKi
        rw [if_pos c, if_neg (by decide), letv_eq, nI_s (by omega)]
        exact hj (nI (i + 1), y) ⟨rfl, by omega, by omega, ky, q2, q3, by rw [k4, kpF_n (by omega)]⟩
      · rw [if_neg c] at hKi
        rw [if_neg c, if_pos rfl]
        exact ok_some.mpr ⟨by rw [k4, kpF_y (by omega)], Sm_K ky⟩
    · rintro ⟨x1, x⟩ j ⟨h0, _, _, k1, k2, k3, k4⟩
      change x1 = nI 10 at h0
      subst h0
      show Ok (gX10_calm_13_Ls (fun a b => j (a, b)) (nI 10) x) _
      unfold gX10_calm_13_Ls
      rw [if_pos (by decide)]
      exact ok_some.mpr ⟨by rw [k4]; rfl, Sm_K k1⟩
  · rw [← e1, ← e2] at hG
    rw [← e2] at hS
    unfold gX11_calm gX11_calm_b
    rw [letv_eq]
    refine loopS (fun n (s : Int32 × Mm) => gX11_calm_7_L n s.1 s.2) (fun j s => gX11_calm_7_Ls (fun a b => j (a, b)) s.1 s.2) (fun _ _ => rfl) _
      (fun n s => s.1 = nI n ∧ 1 ≤ n ∧ n ≤ 10 ∧ Fr cW lW u1 s.2 ∧ MF s.2 (flt u1) ∧ kpF K 9 1 = kpF K (10 - n) n) 10 ?_ ?_ 9 1 FU (1, thr u1) rfl (by decide) ⟨rfl, Nat.le_refl _, by decide, Fr.st (by decide), (flt_MF u1).st (by decide), rfl⟩
    · rintro i ⟨x1, x⟩ j hi ⟨h0, hi1, _, k1, k2, k4⟩ hj
      change x1 = nI i at h0
      subst h0
      show Ok (gX11_calm_7_Ls (fun a b => j (a, b)) (nI i) x) _
      unfold gX11_calm_7_Ls
      rw [show (9 : Int32) = nI 9 from rfl, if_neg (by rw [lt_nn (by omega) (by omega)]; omega), ok_bind]
      refine (mswing (g := i) k1 k2 hR1 (hG i) (hS i) hi1 (by omega)).mono ?_
      rintro y ⟨q1, q2, q3, q4⟩
      have e10 : 10 - i = (10 - (i + 1)) + 1 := by omega
      rw [e10] at k4
      have hKi := hK i
      rw [q3, q4]
      by_cases c : (S i 40).1 < (S i 40).2
      · rw [if_pos c] at hKi
        rw [if_pos c, letv_eq, nI_s (by omega)]
        exact hj (nI (i + 1), y) ⟨rfl, by omega, by omega, q1, q2, by rw [k4, kpF_n (by omega)]⟩
      · rw [if_neg c] at hKi
        rw [if_neg c]
        exact ok_some.mpr ⟨by rw [k4, kpF_y (by omega)], Sm_W q1 q2⟩
    · rintro ⟨x1, x⟩ j ⟨h0, _, _, k1, k2, k4⟩
      change x1 = nI 10 at h0
      subst h0
      show Ok (gX11_calm_7_Ls (fun a b => j (a, b)) (nI 10) x) _
      unfold gX11_calm_7_Ls
      rw [if_pos (by decide)]
      exact ok_some.mpr ⟨by rw [k4]; rfl, Sm_W k1 k2⟩
