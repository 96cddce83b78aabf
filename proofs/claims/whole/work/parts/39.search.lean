/-! The searches through all PLANS. -/
def cdN (n : Nat) : Int32 := nI (10 * (n / 6) + n % 6)
def hadU (E : Mm) (fld c : Int32) (g : Nat → Int32) (s : Nat × Int32 × Int32 × Int32) : Nat × Int32 × Int32 × Int32 :=
  if g 0 = 0 ∧ fieldP E g = fld then (s.1 + 1, (if s.1 = 0 then c else s.2.1), (if s.1 = 0 ∨ g 8 < s.2.2.2 then c else s.2.2.1), (if s.1 = 0 ∨ g 8 < s.2.2.2 then g 8 else s.2.2.2)) else s
def hadS (E : Mm) (fld : Int32) (f : Nat → Int32) : Nat → Nat × Int32 × Int32 × Int32
  | 0 => (0, -9, -9, 0)
  | n + 1 => hadU E fld (cdN n) (pl E (n / 6) (n % 6) f) (hadS E fld f n)
def bestU (E : Mm) (c : Int32) (g : Nat → Int32) (s : Int32 × Int32 × Int32) : Int32 × Int32 × Int32 :=
  ((if g 0 = 0 ∧ (s.1 < 0 ∨ costP E g < s.2.1) then c else s.1), (if g 0 = 0 ∧ (s.1 < 0 ∨ costP E g < s.2.1) then costP E g else s.2.1), s.2.2 ||| (if g 0 = 0 ∧ ¬ fieldP E g < 0 then shl 1 (fieldP E g) else 0))
def bestS (E : Mm) (f : Nat → Int32) : Nat → Int32 × Int32 × Int32
  | 0 => (-9, -9, 0)
  | n + 1 => bestU E (cdN n) (pl E (n / 6) (n % 6) f) (bestS E f n)
/-- S, T count as hadS, bestS do (kept closed, for they are long) -/
def HS (E : Mm) (fld : Int32) (f : Nat → Int32) (S : Nat → Nat × Int32 × Int32 × Int32) : Prop := S 0 = (0, -9, -9, 0) ∧ ∀ n, S (n + 1) = hadU E fld (cdN n) (pl E (n / 6) (n % 6) f) (S n)
def BS (E : Mm) (f : Nat → Int32) (T : Nat → Int32 × Int32 × Int32) : Prop := T 0 = (-9, -9, 0) ∧ ∀ n, T (n + 1) = bestU E (cdN n) (pl E (n / 6) (n % 6) f) (T n)
theorem HS_ok (E : Mm) (fld : Int32) (f : Nat → Int32) : HS E fld f (hadS E fld f) := ⟨rfl, fun _ => rfl⟩
theorem BS_ok (E : Mm) (f : Nat → Int32) : BS E f (bestS E f) := ⟨rfl, fun _ => rfl⟩
theorem hadU_y {E : Mm} {fld c : Int32} {g : Nat → Int32} {s : Nat × Int32 × Int32 × Int32} (h : g 0 = 0 ∧ fieldP E g = fld) : hadU E fld c g s = (s.1 + 1, (if s.1 = 0 then c else s.2.1), (if s.1 = 0 ∨ g 8 < s.2.2.2 then c else s.2.2.1), (if s.1 = 0 ∨ g 8 < s.2.2.2 then g 8 else s.2.2.2)) := if_pos h
theorem hadU_n {E : Mm} {fld c : Int32} {g : Nat → Int32} {s : Nat × Int32 × Int32 × Int32} (h : ¬ (g 0 = 0 ∧ fieldP E g = fld)) : hadU E fld c g s = s := if_neg h
theorem cd_eq : ∀ k : Nat, k < 31 → ∀ p : Nat, p < 6 → (10 * nI k + nI p : Int32) = nI (10 * k + p) := by decide +kernel
theorem dv_eq : ∀ c : Nat, c < 306 → nI c / 10 = nI (c / 10) ∧ irm (nI c) 10 = nI (c % 10) := by decide +kernel
theorem HS.six {E : Mm} {fld : Int32} {f : Nat → Int32} {S : Nat → Nat × Int32 × Int32 × Int32} (h : HS E fld f S) {k p : Nat} (hp : p < 6) : S (6 * k + p + 1) = hadU E fld (nI (10 * k + p)) (pl E k p f) (S (6 * k + p)) := by
  rw [h.2 (6 * k + p)]
  unfold cdN
  rw [show (6 * k + p) / 6 = k by omega, show (6 * k + p) % 6 = p by omega]
theorem BS.six {E : Mm} {f : Nat → Int32} {T : Nat → Int32 × Int32 × Int32} (h : BS E f T) {k p : Nat} (hp : p < 6) : T (6 * k + p + 1) = bestU E (nI (10 * k + p)) (pl E k p f) (T (6 * k + p)) := by
  rw [h.2 (6 * k + p)]
  unfold cdN
  rw [show (6 * k + p) / 6 = k by omega, show (6 * k + p) % 6 = p by omega]
theorem cdN_0 {n : Nat} (h : n < 186) : 0 ≤ (cdN n).toInt := by
  unfold cdN
  rw [t_nI (by omega)]
  omega
theorem HS.inv {E : Mm} {fld : Int32} {f : Nat → Int32} {S : Nat → Nat × Int32 × Int32 × Int32} (h : HS E fld f S) : ∀ n, n ≤ 186 → (S n).1 ≤ n ∧ (((S n).1 = 0 ∧ (S n).2.1 = -9 ∧ (S n).2.2.1 = -9) ∨ (0 < (S n).1 ∧ 0 ≤ (S n).2.1.toInt ∧ 0 ≤ (S n).2.2.1.toInt)) := by
  intro n
  induction n with
  | zero => intro _; rw [h.1]; exact ⟨Nat.le_refl _, Or.inl ⟨rfl, rfl, rfl⟩⟩
  | succ n ih =>
    intro hn
    obtain ⟨h1, h2⟩ := ih (by omega)
    have hc := cdN_0 (n := n) (by omega)
    rw [h.2 n]
    by_cases c : pl E (n / 6) (n % 6) f 0 = 0 ∧ fieldP E (pl E (n / 6) (n % 6) f) = fld
    · rw [hadU_y c]
      refine ⟨by show (S n).1 + 1 ≤ n + 1; omega, Or.inr ⟨Nat.succ_pos _, ?_, ?_⟩⟩
      · show 0 ≤ (if (S n).1 = 0 then cdN n else (S n).2.1).toInt
        rcases h2 with ⟨a, _, _⟩ | ⟨a, b, _⟩
        · rw [if_pos a]; exact hc
        · rw [if_neg (by omega)]; exact b
      · show 0 ≤ (if (S n).1 = 0 ∨ pl E (n / 6) (n % 6) f 8 < (S n).2.2.2 then cdN n else (S n).2.2.1).toInt
        rcases h2 with ⟨a, _, _⟩ | ⟨a, _, b⟩
        · rw [if_pos (Or.inl a)]; exact hc
        · split
          · exact hc
          · exact b
    · rw [hadU_n c]
      exact ⟨by omega, h2⟩
theorem BS.inv {E : Mm} {f : Nat → Int32} {T : Nat → Int32 × Int32 × Int32} (h : BS E f T) : ∀ n, n ≤ 186 → (T n).1 = -9 ∨ 0 ≤ (T n).1.toInt := by
  intro n
  induction n with
  | zero => intro _; rw [h.1]; exact Or.inl rfl
  | succ n ih =>
    intro hn
    have hc := cdN_0 (n := n) (by omega)
    rw [h.2 n]
    have e : ∀ (P : Prop) [Decidable P] (x : Int32), (x = -9 ∨ 0 ≤ x.toInt) → ((if P then cdN n else x) = -9 ∨ 0 ≤ (if P then cdN n else x).toInt) := by
      intro P _ x hx
      by_cases hP : P
      · rw [if_pos hP]; exact Or.inr hc
      · rw [if_neg hP]; exact hx
    generalize pl E (n / 6) (n % 6) f = G
    have q : (bestU E (cdN n) G (T n)).1 = if G 0 = 0 ∧ ((T n).1 < 0 ∨ costP E G < (T n).2.1) then cdN n else (T n).1 := rfl
    rw [q]
    exact e (G 0 = 0 ∧ ((T n).1 < 0 ∨ costP E G < (T n).2.1)) (T n).1 (ih (by omega))
theorem neg_9 {x : Int32} (h : x = -9 ∨ 0 ≤ x.toInt) : (x < 0) ↔ x = -9 := by
  rw [t_lt, i0]
  constructor
  · intro h1
    rcases h with h | h
    · exact h
    · omega
  · intro h1
    rw [h1]
    decide
theorem nI_z {n : Nat} (h : n < 2147483648) : (nI n = 0) ↔ n = 0 := by
  rw [t_eq, t_nI h, i0]
  omega
theorem bz_i {p : Prop} [Decidable p] {r : Int32} (h : r = bz p) : r = 0 ↔ ¬ p := by rw [h, bz_0]
theorem MIk.st {E u : Mm} {f : Nat → Int32} {m i : Nat} {v : Int32} (h : MIk E f m u) (hi : i ≠ 4) : MIk E f m (stm u 57 i v) := by
  obtain ⟨h1, h2, h3, h4⟩ := h
  refine ⟨h1.keep (ls := []) (l := [i]) (Fk.st (by simp)) (fun c _ _ e => by cases e), ?_, ?_, ?_⟩
  · rw [stm_c (by decide)]; exact h2
  · rw [stm_s (fun e => hi e.symm)]; exact h3
  · rw [stm_c (by decide)]; exact h4
theorem MI.st {E u : Mm} {f : Nat → Int32} {i : Nat} {v : Int32} (h : MI E f u) (hi : i ≠ 4) : MI E f (stm u 57 i v) := by
  obtain ⟨m, hm, h1⟩ := h
  exact ⟨m, hm, h1.st hi⟩
def lB : List Nat := [4, 6, 7, 8, 9, 10]
abbrev HadQ (E : Mm) (f : Nat → Int32) (s : Nat × Int32 × Int32 × Int32) (u u' : Mm) : Prop := Fk lF lB u u' ∧ MI E f u' ∧ u' 57 6 = nI s.1 ∧ u' 57 7 = s.2.1 ∧ u' 57 8 = s.2.2.1
/-- seekPlansInto -/
theorem cseekP {E u : Mm} {f : Nat → Int32} {fld : Int32} {S : Nat → Nat × Int32 × Int32 × Int32} (hS : HS E fld f S) (hM : MI E f u) (hV : VF f) (f8 : f 8 = 0) (hB : EB E) : Ok (gX3_seekPlansInto fld u) (HadQ E f (S 186) u) := by
  unfold gX3_seekPlansInto gX3_seekPlansInto_b
  rw [letv_eq, letv_eq, letv_eq]
  refine loopS (fun n (s : Int32 × Int32 × Mm) => gX3_seekPlansInto_21_L fld n s.1 s.2.1 s.2.2) (fun g s => gX3_seekPlansInto_21_Ls fld (fun a b c => g (a, b, c)) s.1 s.2.1 s.2.2) (fun _ _ => rfl) _
    (fun n s => s.2.1 = nI n ∧ s.1 = (S (6 * n)).2.2.2 ∧ HadQ E f (S (6 * n)) u s.2.2) 31 ?_ ?_ 31 0 FU (0, 0, stm (stm (stm u 57 6 0) 57 7 (-9)) 57 8 (-9)) rfl (by decide) ?_
  · rintro k ⟨v2, v3, v⟩ g hk ⟨h0, hc⟩ hg
    change v3 = nI k at h0
    subst h0
    show Ok (gX3_seekPlansInto_21_Ls fld (fun a b c => g (a, b, c)) v2 (nI k) v) _
    unfold gX3_seekPlansInto_21_Ls
    rw [show (30 : Int32) = nI 30 from rfl, if_neg (by rw [lt_nn (by omega) (by omega)]; omega)]
    refine loopS (fun n (s : Int32 × Int32 × Mm) => gX3_seekPlansInto_30_L (fun a b c => g (a, b, c)) fld (nI k) n s.1 s.2.1 s.2.2) (fun g2 s => gX3_seekPlansInto_30_Ls (fun a b c => g (a, b, c)) fld (nI k) (fun a b c => g2 (a, b, c)) s.1 s.2.1 s.2.2) (fun _ _ => rfl) _
      (fun n s => s.2.1 = nI n ∧ s.1 = (S (6 * k + n)).2.2.2 ∧ HadQ E f (S (6 * k + n)) u s.2.2) 6 ?_ ?_ 6 0 FU (v2, 0, v) rfl (by decide) ⟨rfl, hc⟩
    · rintro p ⟨w2, w3, w⟩ g2 hp ⟨h0, hs, h1, h2, h3, h4, h5⟩ hg2
      change w3 = nI p at h0
      subst h0
      change w2 = _ at hs
      change Fk lF lB u w at h1
      change MI E f w at h2
      change w 57 6 = _ at h3
      change w 57 7 = _ at h4
      change w 57 8 = _ at h5
      show Ok (gX3_seekPlansInto_30_Ls (fun a b c => g (a, b, c)) fld (nI k) (fun a b c => g2 (a, b, c)) w2 (nI p) w) _
      unfold gX3_seekPlansInto_30_Ls
      have hg3 : ∀ a y, a = (S (6 * k + p + 1)).2.2.2 → HadQ E f (S (6 * k + p + 1)) u y → Ok (g2 (a, nI (p + 1), y)) (HadQ E f (S 186) u) := fun a y q1 q2 => hg2 (a, nI (p + 1), y) ⟨rfl, q1, q2⟩
      have e6 := hS.six (k := k) hp
      obtain ⟨b1, b2⟩ := hS.inv (6 * k + p) (by omega)
      generalize S (6 * k + p + 1) = s' at hg3 e6
      generalize S (6 * k + p) = s at hs h3 h4 h5 e6 b1 b2
      rw [show (5 : Int32) = nI 5 from rfl, if_neg (by rw [lt_nn (by omega) (by omega)]; omega), ok_bI]
      refine (cfollow h2 hV f8 (by omega) (by omega)).mono ?_
      rintro ⟨r, x⟩ ⟨hr, q1, q2, q3⟩
      change Fk lF [4] w x at q1
      change MIk E f k x at q2
      change CF (x 69) _ at q3
      have hr0 := bz_i hr
      generalize pl E k p f = G at hr0 q3 e6
      have q2' : MI E f x := ⟨k, by omega, q2⟩
      have q1' : Fk lF lB u x := h1.tr (q1.mono (fun _ h => h) (by decide))
      have x6 : x 57 6 = nI s.1 := (q1.2 6 (by decide)).trans h3
      have x7 : x 57 7 = s.2.1 := (q1.2 7 (by decide)).trans h4
      have x8 : x 57 8 = s.2.2.1 := (q1.2 8 (by decide)).trans h5
      have e9 : x 69 8 = G 8 := q3.1 8 (by decide)
      have pass : (¬ (G 0 = 0 ∧ fieldP E G = fld)) → Ok (g2 (w2, nI p + 1, x)) (HadQ E f (S 186) u) := by
        intro hn
        rw [hadU_n hn] at e6
        rw [nI_s (by omega)]
        exact hg3 _ _ (by rw [e6]; exact hs) (by rw [e6]; exact ⟨q1', q2', x6, x7, x8⟩)
      refine ok_if (fun c => pass (fun e => hr0.mp c e.1)) (fun c => ?_)
      have c0 : G 0 = 0 := Decidable.not_not.mp (fun h => c (hr0.mpr h))
      show Ok ((gX3_fieldThere x).bind _) _
      rw [cfieldP q2.1 hB q3, Option.bind_some]
      refine ok_if (fun c2 => ?_) (fun c2 => pass (fun e => c2 e.2))
      rw [hadU_y ⟨c0, c2⟩] at e6
      have fin : ∀ (so : Int32) (y : Mm), Fk lF lB u y → MI E f y → y 57 6 = nI s.1 → so = s'.2.2.2 → y 57 7 = s'.2.1 → y 57 8 = s'.2.2.1 →
          Ok (gX3_seekPlansInto_116 (fun a b c => g (a, b, c)) (fun a b c => g2 (a, b, c)) fld so (nI k) (nI p) y) (HadQ E f (S 186) u) := by
        intro so y y1 y2 y3 y4 y5 y6
        unfold gX3_seekPlansInto_116
        rw [letv_eq, letv_eq, nI_s (by omega)]
        refine hg3 _ _ y4 ⟨y1.tr (Fk.st (by decide)), y2.st (by decide), ?_, (stm_s (by decide)).trans y5, (stm_s (by decide)).trans y6⟩
        refine stm_r.trans ?_
        rw [y3, nI_s (by omega), e6]
      have mid : ∀ s0 : Int32, s0 = s'.2.1 → Ok (gX3_seekPlansInto_76 (fun a b c => g (a, b, c)) (fun a b c => g2 (a, b, c)) fld w2 (nI k) (nI p) s0 x) (HadQ E f (S 186) u) := by
        intro s0 hs0
        have t1 : s'.2.2.1 = if s.1 = 0 ∨ G 8 < s.2.2.2 then nI (10 * k + p) else s.2.2.1 := by rw [e6]
        have t2 : s'.2.2.2 = if s.1 = 0 ∨ G 8 < s.2.2.2 then G 8 else s.2.2.2 := by rw [e6]
        have y97 : (s.1 = 0 ∨ G 8 < s.2.2.2) → Ok (gX3_seekPlansInto_97 (fun a b c => g (a, b, c)) (fun a b c => g2 (a, b, c)) fld (nI k) (nI p) (stm x 57 7 s0)) (HadQ E f (S 186) u) := by
          intro hh
          unfold gX3_seekPlansInto_97
          rw [letv_eq, letv_eq, cd_eq k hk p hp]
          refine fin _ _ ((q1'.tr (Fk.st (by decide))).tr (Fk.st (by decide))) ((q2'.st (by decide)).st (by decide)) x6 ?_ hs0 ?_
          · rw [t2, if_pos hh]; exact e9
          · rw [t1, if_pos hh]; exact stm_r
        unfold gX3_seekPlansInto_76
        rw [letv_eq, show stm x 57 7 s0 57 6 = x 57 6 from rfl, show stm x 57 7 s0 69 8 = x 69 8 from rfl, x6, e9]
        refine ok_if (fun c3 => y97 (Or.inl ((nI_z (by omega)).mp c3))) (fun c3 => ok_if (fun c4 => y97 (Or.inr (by rw [← hs]; exact c4))) (fun c4 => ?_))
        have hh : ¬ (s.1 = 0 ∨ G 8 < s.2.2.2) := by
          rintro (h | h)
          · exact c3 ((nI_z (by omega)).mpr h)
          · exact c4 (by rw [hs]; exact h)
        refine fin _ _ (q1'.tr (Fk.st (by decide))) (q2'.st (by decide)) x6 ?_ hs0 ?_
        · rw [t2, if_neg hh]; exact hs
        · rw [t1, if_neg hh]; exact x8
      show Ok (if x 57 6 = 0 then _ else _) _
      rw [x6, cd_eq k hk p hp]
      refine ok_if (fun c3 => mid _ ?_) (fun c3 => mid _ ?_)
      · rw [e6]; exact (if_pos ((nI_z (by omega)).mp c3)).symm
      · rw [e6, show (nI s.1, x).2 57 7 = _ from x7]; exact (if_neg (fun h => c3 ((nI_z (by omega)).mpr h))).symm
    · rintro ⟨w2, w3, w⟩ g2 ⟨h0, hc⟩
      change w3 = nI 6 at h0
      subst h0
      show Ok (gX3_seekPlansInto_30_Ls (fun a b c => g (a, b, c)) fld (nI k) (fun a b c => g2 (a, b, c)) w2 (nI 6) w) _
      unfold gX3_seekPlansInto_30_Ls
      rw [if_pos (by decide), letv_eq, nI_s (by omega)]
      rw [show 6 * k + 6 = 6 * (k + 1) by omega] at hc
      exact hg (w2, nI (k + 1), w) ⟨rfl, hc⟩
  · rintro ⟨v2, v3, v⟩ g ⟨h0, hs, hc⟩
    change v3 = nI 31 at h0
    subst h0
    show Ok (gX3_seekPlansInto_21_Ls fld (fun a b c => g (a, b, c)) v2 (nI 31) v) _
    unfold gX3_seekPlansInto_21_Ls
    rw [if_pos (by decide)]
    exact ok_some.mpr hc
  · rw [show 6 * 0 = 0 from rfl, hS.1]
    exact ⟨rfl, rfl, ((Fk.st (by decide)).tr (Fk.st (by decide))).tr (Fk.st (by decide)), ((hM.st (by decide)).st (by decide)).st (by decide), rfl, rfl, rfl⟩
