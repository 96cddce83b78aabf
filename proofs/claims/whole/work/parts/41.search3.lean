/-! The reference's searches. -/
def lQ : List Nat := [2, 3, 4, 5, 6, 7, 8, 9, 21, 34, 35, 36, 41, 42, 43, 44, 45, 46, 47, 48, 49]
def ixC (c : Nat) : Nat := 6 * (c / 10) + min (c % 10) 6
theorem ixC_y {c : Nat} (h : c % 10 ≤ 5) : ixC c = 6 * (c / 10) + c % 10 ∧ ixC (c + 1) = 6 * (c / 10) + c % 10 + 1 := by
  unfold ixC
  omega
theorem ixC_n {c : Nat} (h : 5 < c % 10) : ixC (c + 1) = ixC c := by
  unfold ixC
  omega
abbrev HadM (f : Nat → Int32) (s : Nat × Int32 × Int32 × Int32) (u u' : Mm) : Prop := Fm lQ u u' ∧ u' 74 44 = nI s.1 ∧ u' 74 45 = s.2.1 ∧ u' 74 46 = s.2.2.1
theorem mseekP {E u : Mm} {f : Nat → Int32} {fld : Int32} {S : Nat → Nat × Int32 × Int32 × Int32} (hS : HS E fld f S) (hT : TH u f) (hE : EM E u) (hV : VF f) (f8 : f 8 = 0) (hB : EB E) : Ok (gX11_seekPlans fld u) (fun u' => HadM f (S 186) u u' ∧ MF u' f) := by
  unfold gX11_seekPlans gX11_seekPlans_b
  rw [letv_eq, letv_eq, letv_eq]
  refine loopS (fun n (s : Int32 × Int32 × Mm) => gX11_seekPlans_21_L fld n s.1 s.2.1 s.2.2) (fun g s => gX11_seekPlans_21_Ls fld (fun a b c => g (a, b, c)) s.1 s.2.1 s.2.2) (fun _ _ => rfl) _
    (fun n s => s.2.1 = nI n ∧ s.1 = (S (ixC n)).2.2.2 ∧ HadM f (S (ixC n)) u s.2.2) 306 ?_ ?_ 306 0 FU (0, 0, stm (stm (stm u 74 44 0) 74 45 (-9)) 74 46 (-9)) rfl (by decide) ?_
  · rintro c ⟨w2, w3, w⟩ g hc ⟨h0, hs, h1, h3, h4, h5⟩ hg
    change w3 = nI c at h0
    subst h0
    change w2 = _ at hs
    change Fm lQ u w at h1
    change w 74 44 = _ at h3
    change w 74 45 = _ at h4
    change w 74 46 = _ at h5
    show Ok (gX11_seekPlans_21_Ls fld (fun a b c => g (a, b, c)) w2 (nI c) w) _
    unfold gX11_seekPlans_21_Ls
    have hg3 : ∀ a y, a = (S (ixC (c + 1))).2.2.2 → HadM f (S (ixC (c + 1))) u y → Ok (g (a, nI (c + 1), y)) (fun u' => HadM f (S 186) u u' ∧ MF u' f) := fun a y q1 q2 => hg (a, nI (c + 1), y) ⟨rfl, q1, q2⟩
    rw [show (305 : Int32) = nI 305 from rfl, if_neg (by rw [lt_nn (by omega) (by omega)]; omega), (dv_eq c hc).1, (dv_eq c hc).2, show (5 : Int32) = nI 5 from rfl]
    by_cases c5 : 5 < c % 10
    · rw [if_pos (by rw [lt_nn (by omega) (by omega)]; exact c5), letv_eq, nI_s (by omega)]
      rw [ixC_n c5] at hg3
      exact hg3 _ _ hs ⟨h1, h3, h4, h5⟩
    · rw [if_neg (by rw [lt_nn (by omega) (by omega)]; exact c5)]
      obtain ⟨i1, i2⟩ := ixC_y (c := c) (by omega)
      rw [i1] at hs h3 h4 h5
      rw [i2] at hg3
      have e6 := hS.six (k := c / 10) (p := c % 10) (by omega)
      obtain ⟨b1, b2⟩ := hS.inv (6 * (c / 10) + c % 10) (by omega)
      generalize S (6 * (c / 10) + c % 10 + 1) = s' at hg3 e6
      generalize S (6 * (c / 10) + c % 10) = s at hs h3 h4 h5 e6 b1 b2
      rw [ok_bind]
      refine (mplan (E := E) (hT.keep h1) hV (hE.keep h1 (by decide)) f8 (k := c / 10) (p := c % 10) (by omega) (by omega)).mono ?_
      rintro x ⟨q1, q2, q3, q4, -⟩
      have hr0 := bz_i q3
      have hcd : (10 * (c / 10) + c % 10) = c := by omega
      rw [hcd] at e6
      generalize pl E (c / 10) (c % 10) f = G at q2 hr0 q4 e6
      have q1' : Fm lQ u x := h1.tr (q1.mono (by decide))
      have x6 : x 74 44 = nI s.1 := (q1.2 44 (by decide)).trans h3
      have x7 : x 74 45 = s.2.1 := (q1.2 45 (by decide)).trans h4
      have x8 : x 74 46 = s.2.2.1 := (q1.2 46 (by decide)).trans h5
      have pass : (¬ (G 0 = 0 ∧ fieldP E G = fld)) → Ok (g (w2, nI c + 1, x)) (fun u' => HadM f (S 186) u u' ∧ MF u' f) := by
        intro hn
        rw [hadU_n hn] at e6
        rw [nI_s (by omega)]
        exact hg3 _ _ (by rw [e6]; exact hs) (by rw [e6]; exact ⟨q1', x6, x7, x8⟩)
      refine ok_if (fun cc => pass (fun e => hr0.mp cc e.1)) (fun cc => ?_)
      have c0 : G 0 = 0 := Decidable.not_not.mp (fun h => cc (hr0.mpr h))
      rw [mfield (hE.keep q1' (by decide)) hB q2, Option.bind_some]
      refine ok_if (fun c2 => ?_) (fun c2 => pass (fun e => c2 e.2))
      rw [hadU_y ⟨c0, c2⟩] at e6
      rw [letv_eq, x6, nI_s (by omega)]
      have z1 : s'.1 = s.1 + 1 := by rw [e6]
      have t0 : s'.2.1 = if s.1 = 0 then nI c else s.2.1 := by rw [e6]
      have t1 : s'.2.2.1 = if s.1 = 0 ∨ G 8 < s.2.2.2 then nI c else s.2.2.1 := by rw [e6]
      have t2 : s'.2.2.2 = if s.1 = 0 ∨ G 8 < s.2.2.2 then G 8 else s.2.2.2 := by rw [e6]
      have n7 : (s.2.1 < 0) ↔ s.1 = 0 := by
        rcases b2 with ⟨a, b, _⟩ | ⟨a, b, _⟩
        · rw [b]; exact ⟨fun _ => a, fun _ => by decide⟩
        · exact ⟨fun h => by rw [t_lt, i0] at h; omega, fun h => by omega⟩
      have n8 : (s.2.2.1 < 0) ↔ s.1 = 0 := by
        rcases b2 with ⟨a, _, b⟩ | ⟨a, _, b⟩
        · rw [b]; exact ⟨fun _ => a, fun _ => by decide⟩
        · exact ⟨fun h => by rw [t_lt, i0] at h; omega, fun h => by omega⟩
      let x1 := stm x 74 44 (nI (s.1 + 1))
      have fin : ∀ (v4 s0 : Int32) (y : Mm), Fm lQ x1 y → y 74 44 = x1 74 44 → y 74 42 = x 74 42 → y 74 45 = s'.2.1 → s0 = s'.2.2.1 → (v4 = 0 → w2 = s'.2.2.2) → (v4 ≠ 0 → G 8 = s'.2.2.2) →
          Ok (gX11_seekPlans_128 (fun a b c => g (a, b, c)) fld w2 (nI c) v4 s0 y) (fun u' => HadM f (S 186) u u' ∧ MF u' f) := by
        intro v4 s0 y y1 y2 y3 y4 y5 y6 y7
        have k1 : Fm lQ u (stm y 74 46 s0) := q1'.tr ((Fm.st (by decide)).tr (y1.tr (Fm.st (by decide))))
        have k2 : HadM f s' u (stm y 74 46 s0) := ⟨k1, (stm_s (by decide)).trans (y2.trans (stm_r.trans (by rw [z1]))), (stm_s (by decide)).trans y4, stm_r.trans y5⟩
        unfold gX11_seekPlans_128 gX11_seekPlans_144
        rw [letv_eq]
        refine ok_if (fun h => ?_) (fun h => ?_)
        · rw [letv_eq, nI_s (by omega)]
          exact hg3 _ _ (y6 h) k2
        · rw [letv_eq, nI_s (by omega)]
          refine hg3 _ _ ?_ k2
          rw [stm_s (by decide), y3, q4]
          exact y7 h
      have mid : ∀ s0 : Int32, s0 = s'.2.1 → Ok (gX11_seekPlans_89 (fun a b c => g (a, b, c)) fld w2 (nI c) s0 x1) (fun u' => HadM f (S 186) u u' ∧ MF u' f) := by
        intro s0 hs0
        have f1 : Fm lQ x1 (stm x1 74 45 s0) := Fm.st (by decide)
        have y97 : (s.1 = 0 ∨ G 8 < s.2.2.2) → Ok (gX11_seekPlans_107 (fun a b c => g (a, b, c)) fld w2 (nI c) (stm x1 74 45 s0)) (fun u' => HadM f (S 186) u u' ∧ MF u' f) := by
          intro hh
          unfold gX11_seekPlans_107 gX11_seekPlans_112
          rw [if_neg (by decide)]
          refine fin 1 _ _ f1 (stm_s (by decide)) rfl (stm_r.trans hs0) (by rw [t1, if_pos hh]) (fun h => absurd h (by decide)) (fun _ => by rw [t2, if_pos hh])
        unfold gX11_seekPlans_89
        rw [letv_eq, show stm x1 74 45 s0 74 46 = x 74 46 from rfl, show stm x1 74 45 s0 74 42 = x 74 42 from rfl, x8, q4]
        refine ok_if (fun c3 => y97 (Or.inl (n8.mp c3))) (fun c3 => ok_if (fun c4 => y97 (Or.inr (by rw [← hs]; exact c4))) (fun c4 => ?_))
        have hh : ¬ (s.1 = 0 ∨ G 8 < s.2.2.2) := by
          rintro (h | h)
          · exact c3 (n8.mpr h)
          · exact c4 (by rw [hs]; exact h)
        unfold gX11_seekPlans_112
        rw [if_pos rfl]
        refine fin 0 _ _ f1 (stm_s (by decide)) rfl (stm_r.trans hs0) ?_ (fun _ => by rw [t2, if_neg hh]; exact hs) (fun h => absurd rfl h)
        rw [t1, if_neg hh]
        exact x8
      show Ok (if x1 74 45 < 0 then _ else _) _
      rw [show x1 74 45 = x 74 45 from rfl, x7]
      refine ok_if (fun c3 => mid _ ?_) (fun c3 => mid _ ?_)
      · rw [t0, if_pos (n7.mp c3)]
      · rw [t0, if_neg (fun h => c3 (n7.mpr h))]; exact x7
  · rintro ⟨v2, v3, v⟩ g ⟨h0, hs, h1, hc⟩
    change v3 = nI 306 at h0
    subst h0
    change Fm lQ u v at h1
    show Ok (gX11_seekPlans_21_Ls fld (fun a b c => g (a, b, c)) v2 (nI 306) v) _
    unfold gX11_seekPlans_21_Ls
    rw [if_pos (by decide), ok_bind]
    refine (again_ok (hT.keep h1)).mono ?_
    rintro y ⟨y1, y2⟩
    have hc' : v 74 44 = nI (S 186).1 ∧ v 74 45 = (S 186).2.1 ∧ v 74 46 = (S 186).2.2.1 := hc
    refine ok_some.mpr ⟨⟨h1.tr (y1.mono (by decide)), ?_, ?_, ?_⟩, y2⟩
    · rw [y1.2 44 (by decide)]; exact hc'.1
    · rw [y1.2 45 (by decide)]; exact hc'.2.1
    · rw [y1.2 46 (by decide)]; exact hc'.2.2
  · rw [show ixC 0 = 0 from rfl, hS.1]
    exact ⟨rfl, rfl, ((Fm.st (by decide)).tr (Fm.st (by decide))).tr (Fm.st (by decide)), rfl, rfl, rfl⟩
abbrev BstM (s : Int32 × Int32 × Int32) (u u' : Mm) : Prop := Fm lQ u u' ∧ u' 74 47 = s.1 ∧ u' 74 48 = s.2.1 ∧ u' 74 49 = s.2.2
theorem mseekB {E u : Mm} {f : Nat → Int32} {S : Nat → Int32 × Int32 × Int32} (hS : BS E f S) (hT : TH u f) (hE : EM E u) (hV : VF f) (f8 : f 8 = 0) (hB : EB E) : Ok (gX11_seekBest u) (fun u' => BstM (S 186) u u' ∧ MF u' f) := by
  unfold gX11_seekBest gX11_seekBest_b
  rw [letv_eq, letv_eq, letv_eq]
  refine loopS (fun n (s : Int32 × Mm) => gX11_seekBest_19_L n s.1 s.2) (fun g s => gX11_seekBest_19_Ls (fun b c => g (b, c)) s.1 s.2) (fun _ _ => rfl) _
    (fun n s => s.1 = nI n ∧ BstM (S (ixC n)) u s.2) 306 ?_ ?_ 306 0 FU (0, stm (stm (stm u 74 47 (-9)) 74 48 (-9)) 74 49 0) rfl (by decide) ?_
  · rintro c ⟨w3, w⟩ g hc ⟨h0, h1, h3, h4, h5⟩ hg
    change w3 = nI c at h0
    subst h0
    change Fm lQ u w at h1
    change w 74 47 = _ at h3
    change w 74 48 = _ at h4
    change w 74 49 = _ at h5
    show Ok (gX11_seekBest_19_Ls (fun b c => g (b, c)) (nI c) w) _
    unfold gX11_seekBest_19_Ls
    have hg3 : ∀ y, BstM (S (ixC (c + 1))) u y → Ok (g (nI (c + 1), y)) (fun u' => BstM (S 186) u u' ∧ MF u' f) := fun y q2 => hg (nI (c + 1), y) ⟨rfl, q2⟩
    rw [show (305 : Int32) = nI 305 from rfl, if_neg (by rw [lt_nn (by omega) (by omega)]; omega), (dv_eq c hc).1, (dv_eq c hc).2, show (5 : Int32) = nI 5 from rfl]
    by_cases c5 : 5 < c % 10
    · rw [if_pos (by rw [lt_nn (by omega) (by omega)]; exact c5), letv_eq, nI_s (by omega)]
      rw [ixC_n c5] at hg3
      exact hg3 _ ⟨h1, h3, h4, h5⟩
    · rw [if_neg (by rw [lt_nn (by omega) (by omega)]; exact c5)]
      obtain ⟨i1, i2⟩ := ixC_y (c := c) (by omega)
      rw [i1] at h3 h4 h5
      rw [i2] at hg3
      have e6 := hS.six (k := c / 10) (p := c % 10) (by omega)
      generalize S (6 * (c / 10) + c % 10 + 1) = s' at hg3 e6
      generalize S (6 * (c / 10) + c % 10) = s at h3 h4 h5 e6
      rw [ok_bind]
      refine (mplan (E := E) (hT.keep h1) hV (hE.keep h1 (by decide)) f8 (k := c / 10) (p := c % 10) (by omega) (by omega)).mono ?_
      rintro x ⟨q1, q2, q3, q4, -⟩
      have hr0 := bz_i q3
      have hcd : (10 * (c / 10) + c % 10) = c := by omega
      rw [hcd] at e6
      generalize pl E (c / 10) (c % 10) f = G at q2 hr0 q4 e6
      have q1' : Fm lQ u x := h1.tr (q1.mono (by decide))
      have x7 : x 74 47 = s.1 := (q1.2 47 (by decide)).trans h3
      have x8 : x 74 48 = s.2.1 := (q1.2 48 (by decide)).trans h4
      have x9 : x 74 49 = s.2.2 := (q1.2 49 (by decide)).trans h5
      have t1 : s'.1 = if G 0 = 0 ∧ (s.1 < 0 ∨ costP E G < s.2.1) then nI c else s.1 := by rw [e6]; rfl
      have t2 : s'.2.1 = if G 0 = 0 ∧ (s.1 < 0 ∨ costP E G < s.2.1) then costP E G else s.2.1 := by rw [e6]; rfl
      have t3 : s'.2.2 = s.2.2 ||| (if G 0 = 0 ∧ ¬ fieldP E G < 0 then shl 1 (fieldP E G) else 0) := by rw [e6]; rfl
      rw [mfield (hE.keep q1' (by decide)) hB q2, Option.bind_some]
      have body : ∀ b : Int32, b = (if G 0 = 0 ∧ ¬ fieldP E G < 0 then shl 1 (fieldP E G) else 0) → Ok (gX11_seekBest_74 (fun b c => g (b, c)) (nI c) (fieldP E G) b (x 74 49) x) (fun u' => BstM (S 186) u u' ∧ MF u' f) := by
        intro b hb
        unfold gX11_seekBest_74
        have E1 : EM E (stm x 74 49 (x 74 49 ||| b)) := (hE.keep q1' (by decide)).keep (l := [49]) (Fm.st (by decide)) (by decide)
        rw [letv_eq, mcostP E1 hB (q2.st (by decide)) ((stm_s (by decide)).trans q4), Option.bind_some]
        have hb49 : x 74 49 ||| b = s'.2.2 := by rw [t3, x9, hb]
        rw [hb49]
        have fin : ∀ (v4 s0 : Int32) (y : Mm), Fm lQ (stm x 74 49 s'.2.2) y → y 74 48 = x 74 48 → y 74 49 = s'.2.2 → s0 = s'.1 → (v4 = 0 → s.2.1 = s'.2.1) → (v4 ≠ 0 → costP E G = s'.2.1) →
            Ok (gX11_seekBest_131 (fun b c => g (b, c)) (nI c) (costP E G) v4 s0 y) (fun u' => BstM (S 186) u u' ∧ MF u' f) := by
          intro v4 s0 y y1 y2 y3 y4 y5 y6
          have k1 : ∀ v, Fm lQ u (stm (stm y 74 47 s0) 74 48 v) := fun v => q1'.tr ((Fm.st (by decide)).tr (y1.tr ((Fm.st (by decide)).tr (Fm.st (by decide)))))
          unfold gX11_seekBest_131 gX11_seekBest_148
          rw [letv_eq]
          refine ok_if (fun h => ?_) (fun h => ?_)
          · rw [letv_eq, letv_eq, nI_s (by omega)]
            refine hg3 _ ⟨k1 _, (stm_s (by decide)).trans (stm_r.trans y4), stm_r.trans ?_, (stm_s (by decide)).trans ((stm_s (by decide)).trans y3)⟩
            rw [stm_s (by decide), y2, x8]
            exact y5 h
          · rw [letv_eq, letv_eq, nI_s (by omega)]
            exact hg3 _ ⟨k1 _, (stm_s (by decide)).trans (stm_r.trans y4), stm_r.trans (y6 h), (stm_s (by decide)).trans ((stm_s (by decide)).trans y3)⟩
        have yes : (G 0 = 0 ∧ (s.1 < 0 ∨ costP E G < s.2.1)) → Ok (gX11_seekBest_110 (fun b c => g (b, c)) (nI c) (costP E G) (stm x 74 49 s'.2.2)) (fun u' => BstM (S 186) u u' ∧ MF u' f) := by
          intro hh
          rw [if_pos hh] at t1 t2
          unfold gX11_seekBest_110 gX11_seekBest_115
          rw [if_neg (by decide)]
          exact fin 1 _ _ (Fm.rf _ _) rfl stm_r t1.symm (fun h => absurd h (by decide)) (fun _ => t2.symm)
        have no : (¬ (G 0 = 0 ∧ (s.1 < 0 ∨ costP E G < s.2.1))) → Ok (gX11_seekBest_114 (fun b c => g (b, c)) (nI c) (costP E G) (stm x 74 49 s'.2.2)) (fun u' => BstM (S 186) u u' ∧ MF u' f) := by
          intro hh
          rw [if_neg hh] at t1 t2
          unfold gX11_seekBest_114 gX11_seekBest_115
          rw [if_pos rfl]
          exact fin 0 _ _ (Fm.rf _ _) rfl stm_r (by rw [t1]; exact x7) (fun _ => t2.symm) (fun h => absurd rfl h)
        rw [show stm x 74 49 s'.2.2 74 41 = x 74 41 from rfl, show stm x 74 49 s'.2.2 74 47 = x 74 47 from rfl, show stm x 74 49 s'.2.2 74 48 = x 74 48 from rfl, x7, x8]
        refine ok_if (fun c1 => no (fun e => hr0.mp c1 e.1)) (fun c1 => ?_)
        have c0 : G 0 = 0 := Decidable.not_not.mp (fun h => c1 (hr0.mpr h))
        refine ok_if (fun c2 => yes ⟨c0, Or.inl c2⟩) (fun c2 => ok_if (fun c3 => yes ⟨c0, Or.inr c3⟩) (fun c3 => no ?_))
        rintro ⟨_, h | h⟩
        · exact c2 h
        · exact c3 h
      unfold gX11_seekBest_73
      refine ok_if (fun c1 => body 0 ?_) (fun c1 => ?_)
      · exact (if_neg (fun e => hr0.mp c1 e.1)).symm
      · have c0 : G 0 = 0 := Decidable.not_not.mp (fun h => c1 (hr0.mpr h))
        refine ok_if (fun c2 => body 0 ?_) (fun c2 => body _ ?_)
        · exact (if_neg (fun e => e.2 c2)).symm
        · exact (if_pos ⟨c0, c2⟩).symm
  · rintro ⟨v3, v⟩ g ⟨h0, h1, hc⟩
    change v3 = nI 306 at h0
    subst h0
    change Fm lQ u v at h1
    show Ok (gX11_seekBest_19_Ls (fun b c => g (b, c)) (nI 306) v) _
    unfold gX11_seekBest_19_Ls
    rw [if_pos (by decide), ok_bind]
    refine (again_ok (hT.keep h1)).mono ?_
    rintro y ⟨y1, y2⟩
    have hc' : v 74 47 = (S 186).1 ∧ v 74 48 = (S 186).2.1 ∧ v 74 49 = (S 186).2.2 := hc
    refine ok_some.mpr ⟨⟨h1.tr (y1.mono (by decide)), ?_, ?_, ?_⟩, y2⟩
    · rw [y1.2 47 (by decide)]; exact hc'.1
    · rw [y1.2 48 (by decide)]; exact hc'.2.1
    · rw [y1.2 49 (by decide)]; exact hc'.2.2
  · rw [show ixC 0 = 0 from rfl, hS.1]
    exact ⟨rfl, ((Fm.st (by decide)).tr (Fm.st (by decide))).tr (Fm.st (by decide)), rfl, rfl, rfl⟩
