/-! The class's mind: rewind, holdTo, follow. -/
/-- nothing but the slots l of 57 and the cells ls has changed -/
def Fk (ls l : List Nat) (u u' : Mm) : Prop := (∀ c, c ≠ 57 → c ∉ ls → u' c = u c) ∧ ∀ i, i ∉ l → u' 57 i = u 57 i
theorem Fk.rf (ls l : List Nat) (u : Mm) : Fk ls l u u := ⟨fun _ _ _ => rfl, fun _ _ => rfl⟩
theorem Fk.tr {ls l : List Nat} {u v w : Mm} (h1 : Fk ls l u v) (h2 : Fk ls l v w) : Fk ls l u w := ⟨fun c a b => (h2.1 c a b).trans (h1.1 c a b), fun i hi => (h2.2 i hi).trans (h1.2 i hi)⟩
theorem Fk.mono {ls l ls' l' : List Nat} {u v : Mm} (h : Fk ls l u v) (hs : ∀ i, i ∈ ls → i ∈ ls') (hl : ∀ i, i ∈ l → i ∈ l') : Fk ls' l' u v := ⟨fun c a b => h.1 c a (fun e => b (hs c e)), fun i hi => h.2 i (fun e => hi (hl i e))⟩
theorem Fk.st {ls l : List Nat} {u : Mm} {i : Nat} {v : Int32} (hi : i ∈ l) : Fk ls l u (stm u 57 i v) := ⟨fun _ a _ => stm_c a, fun j hj => stm_s (fun e => hj (by rw [e]; exact hi))⟩
theorem Fk.one {c : Nat} {ls l : List Nat} {u u' : Mm} (h : ∀ k, k ≠ c → u' k = u k) (hc : c ∈ ls) (h7 : 57 ≠ c) : Fk ls l u u' := ⟨fun k _ b => h k (fun e => b (by rw [e]; exact hc)), fun i _ => by rw [h 57 h7]⟩
theorem EC.keep {E u u' : Mm} {ls l : List Nat} (h : EC E u) (hf : Fk ls l u u') (hl : ∀ c, 59 ≤ c → c ≤ 66 → c ∉ ls) : EC E u' := by
  obtain ⟨h1, h2⟩ := h
  obtain ⟨f1, f2⟩ := hf
  refine ⟨fun i hi => ?_, by rw [f1 61 (by decide) (hl _ (by decide) (by decide))]; exact h2⟩
  rw [f1 59 (by decide) (hl _ (by decide) (by decide)), f1 60 (by decide) (hl _ (by decide) (by decide)), f1 62 (by decide) (hl _ (by decide) (by decide)), f1 63 (by decide) (hl _ (by decide) (by decide)), f1 64 (by decide) (hl _ (by decide) (by decide)), f1 65 (by decide) (hl _ (by decide) (by decide)), f1 66 (by decide) (hl _ (by decide) (by decide))]
  exact h1 i hi
def z8 (f : Nat → Int32) : Nat → Int32 := fun i => if i = 8 then 0 else f i
theorem z8_id {f : Nat → Int32} (h : f 8 = 0) : z8 f = f := by
  funext i
  unfold z8
  by_cases c : i = 8
  · rw [if_pos c, c, h]
  · rw [if_neg c]
theorem z8_n {f : Nat → Int32} {i : Nat} (h : i ≠ 8) : z8 f i = f i := if_neg h
theorem z8_8 (f : Nat → Int32) : z8 f 8 = 0 := rfl
theorem VF_z8 {f : Nat → Int32} (h : VF f) : VF (z8 f) := by
  obtain ⟨hF, a, n, h1, h2, h3⟩ := h
  refine ⟨hF, a, n, h1, h2, fun j hj => ?_⟩
  show _ ∧ z8 f (9 + j) = _
  rw [z8_n (by omega)]
  exact h3 j hj
theorem CF.copy {a b f : Nat → Int32} (h : CF b f) (hc : ∀ i, i < 10 → a i = b i) : CF a f := by
  refine ⟨fun i hi => (hc i (by omega)).trans (h.1 i hi), ?_⟩
  rw [hc 9 (by decide), hc 6 (by decide)]
  exact h.2
theorem cf_st8 {a f : Nat → Int32} {v : Int32} (h : CF a f) (hv : v = 0) : CF (fun j => if j = 8 then v else a j) (z8 f) := by
  refine ⟨fun i hi => ?_, ?_⟩
  · unfold z8
    by_cases c : i = 8
    · simp only [if_pos c, hv]
    · simp only [if_neg c]
      exact h.1 i hi
  · have e : (fun j => z8 f (9 + j)) = (fun j => f (9 + j)) := funext fun j => z8_n (by omega)
    rw [e]
    exact h.2
theorem rewind_ok {u : Mm} {f : Nat → Int32} (hC : CF (u 67) f) : Ok (gX3_rewind u) (fun u' => Fk [67, 68] [4] u u' ∧ u' 57 4 = 0 ∧ CF (u' 67) (z8 f) ∧ CF (u' 68) (z8 f)) := by
  unfold gX3_rewind gX3_rewind_b
  rw [letv_eq, ok_bind]
  have h7 : CF (stm u 67 8 0 67) (z8 f) := by rw [stm_eq]; exact cf_st8 hC rfl
  refine (cpFl (k0 := 68) (k1 := 67) (by decide) _).mono (fun u1 h1 => ?_)
  obtain ⟨f1, c1⟩ := h1
  rw [letv_eq]
  have g1 : Fk [67, 68] [4] u (stm u 67 8 0) := Fk.one (c := 67) (fun k hk => stm_c hk) (by decide) (by decide)
  have g2 : Fk [67, 68] [4] (stm u 67 8 0) u1 := Fk.one f1 (by decide) (by decide)
  refine ok_some.mpr ⟨(g1.tr g2).tr (Fk.st (by decide)), stm_r, ?_, ?_⟩
  · rw [stm_c (by decide), f1 67 (by decide)]; exact h7
  · rw [stm_c (by decide)]; exact h7.copy c1
/-- the mind behind m STEPS of HOLD from f -/
def MIk (E : Mm) (f : Nat → Int32) (m : Nat) (u : Mm) : Prop := EC E u ∧ CF (u 67) f ∧ u 57 4 = nI m ∧ CF (u 68) (hrun E m f)
def MI (E : Mm) (f : Nat → Int32) (u : Mm) : Prop := ∃ m, m ≤ 30 ∧ MIk E f m u
theorem rewind_MI {E u : Mm} {f : Nat → Int32} (hE : EC E u) (hC : CF (u 67) f) : Ok (gX3_rewind u) (fun u' => Fk [67, 68] [4] u u' ∧ MIk E (z8 f) 0 u') := by
  refine (rewind_ok hC).mono ?_
  rintro u' ⟨h1, h2, h3, h4⟩
  exact ⟨h1, hE.keep h1 (fun c a b e => by simp only [List.mem_cons, List.not_mem_nil, or_false] at e; omega), h3, h2, h4⟩
theorem holdTo_ok {E u : Mm} {f : Nat → Int32} {k : Nat} (hM : MI E f u) (hV : VF f) (f8 : f 8 = 0) (hk : k ≤ 30) : Ok (gX3_holdTo (nI k) u) (fun u' => Fk [67, 68] [4] u u' ∧ MIk E f k u') := by
  have main : ∀ m v, m ≤ k → Fk [67, 68] [4] u v → MIk E f m v → Ok (gX3_holdTo_12_L (nI k) FU v) (fun u' => Fk [67, 68] [4] u u' ∧ MIk E f k u') := by
    intro m v hm hf hI
    refine loopS (fun n (s : Mm) => gX3_holdTo_12_L (nI k) n s) (fun g s => gX3_holdTo_12_Ls (nI k) (fun a => g a) s) (fun _ _ => rfl) _
      (fun n s => Fk [67, 68] [4] u s ∧ MIk E f n s) k ?_ ?_ (k - m) m FU v (by omega) (by unfold FU; omega) ⟨hf, hI⟩
    · rintro j s g hj ⟨h1, h2, h3, h4, h5⟩ hg
      have post : ∀ w : Mm, Fk [67, 68] [4] u w → EC E w → CF (w 67) f → w 57 4 = nI j → CF (w 68) (hrun E (j + 1) f) → Ok (gX3_holdTo_48 (fun a => g a) (nI k) w) (fun u' => Fk [67, 68] [4] u u' ∧ MIk E f k u') := by
        intro w g1 g2 g3 g4 g5
        unfold gX3_holdTo_48
        rw [letv_eq, g4, nI_s (by omega)]
        have k1 : Fk [67, 68] [4] w (stm w 57 4 (nI (j + 1))) := Fk.st (by decide)
        refine hg _ ⟨g1.tr k1, g2.keep k1 (fun c a b e => by simp only [List.mem_cons, List.not_mem_nil, or_false] at e; omega), ?_, stm_r, ?_⟩
        · rw [stm_c (by decide)]; exact g3
        · rw [stm_c (by decide)]; exact g5
      show Ok (gX3_holdTo_12_Ls (nI k) (fun a => g a) s) _
      unfold gX3_holdTo_12_Ls
      rw [if_pos (by rw [h4, lt_nn (by omega) (by omega)]; exact hj)]
      have e0 : s 68 0 = hrun E j f 0 := h5.1 0 (by decide)
      by_cases c : 0 < s 68 0
      · have hVj := VF_hrun (E := E) hV j
        rw [if_pos c, chold h5 hVj.1, Option.bind_some, ok_bind]
        refine (cfly (k0 := 68) (k2 := 58) (by decide) (by decide) (hact_3 _) h5 hVj.1 (fun i hi => (h2.1 i hi).1) (fun i hi => (h2.1 i hi).2.1)).mono ?_
        rintro w ⟨g1, g2⟩
        have g3 : Fk [67, 68] [4] s w := Fk.one g1 (by decide) (by decide)
        refine post w (h1.tr g3) (h2.keep g3 (fun c a b e => by simp only [List.mem_cons, List.not_mem_nil, or_false] at e; omega)) (by rw [g1 67 (by decide)]; exact h3) (by rw [g1 57 (by decide)]; exact h4) ?_
        rw [hrun_y (by rw [← e0]; exact c)]
        exact g2
      · rw [if_neg c]
        exact post s h1 h2 h3 h4 (by rw [hrun_n (by rw [← e0]; exact c)]; exact h5)
    · rintro s g ⟨h1, h2, h3, h4, h5⟩
      show Ok (gX3_holdTo_12_Ls (nI k) (fun a => g a) s) _
      unfold gX3_holdTo_12_Ls
      rw [if_neg (by rw [h4, lt_nn (by omega) (by omega)]; omega)]
      exact ok_some.mpr ⟨h1, h2, h3, h4, h5⟩
  obtain ⟨m, hm, h1, h2, h3, h4⟩ := hM
  unfold gX3_holdTo gX3_holdTo_b
  by_cases c : k < m
  · rw [if_pos (by rw [h3, lt_nn (by omega) (by omega)]; exact c), ok_bind]
    refine (rewind_MI h1 h2).mono ?_
    rintro w ⟨g1, g2⟩
    rw [z8_id f8] at g2
    exact main 0 w (by omega) g1 g2
  · rw [if_neg (by rw [h3, lt_nn (by omega) (by omega)]; exact c)]
    exact main m u (by omega) (Fk.rf _ _ _) ⟨h1, h2, h3, h4⟩
def lF : List Nat := [67, 68, 69]
/-- follow of the class -/
theorem cfollow {E u : Mm} {f : Nat → Int32} {k p : Nat} (hM : MI E f u) (hV : VF f) (f8 : f 8 = 0) (hk : k ≤ 30) (hp : p ≤ 5) :
    Ok (gX3_follow (nI k) (nI p) u) (fun q => q.1 = bz (pl E k p f 0 = 0) ∧ Fk lF [4] u q.2 ∧ MIk E f k q.2 ∧ CF (q.2 69) (pl E k p f)) := by
  unfold gX3_follow gX3_follow_b
  rw [ok_bind]
  refine (holdTo_ok hM hV f8 hk).mono ?_
  rintro u1 ⟨h1, h2, h3, h4, h5⟩
  rw [ok_bind]
  refine (cpFl (k0 := 69) (k1 := 68) (by decide) u1).mono ?_
  rintro u2 ⟨c1, c2⟩
  have hF2 : Fk lF [4] u u2 := (h1.mono (by decide) (by decide)).tr (Fk.one c1 (by decide) (by decide))
  have hMk : ∀ w : Mm, (∀ c, c ≠ 69 → w c = u2 c) → Fk lF [4] u w ∧ MIk E f k w := by
    intro w hw
    have hw1 : ∀ c, c ≠ 69 → w c = u1 c := fun c hc => (hw c hc).trans (c1 c hc)
    have k1 : Fk lF [4] u1 w := Fk.one hw1 (by decide) (by decide)
    refine ⟨(h1.mono (by decide) (by decide)).tr k1, h2.keep k1 (fun c a b e => by simp only [lF, List.mem_cons, List.not_mem_nil, or_false] at e; omega), ?_, ?_, ?_⟩
    · rw [hw1 67 (by decide)]; exact h3
    · rw [hw1 57 (by decide)]; exact h4
    · rw [hw1 68 (by decide)]; exact h5
  have fin : ∀ w : Mm, (∀ c, c ≠ 69 → w c = u2 c) → CF (w 69) (pl E k p f) → Ok (gX3_follow_89 w) (fun q => q.1 = bz (pl E k p f 0 = 0) ∧ Fk lF [4] u q.2 ∧ MIk E f k q.2 ∧ CF (q.2 69) (pl E k p f)) := by
    intro w g1 g2
    obtain ⟨g3, g4⟩ := hMk w g1
    have e0 : w 69 0 = pl E k p f 0 := g2.1 0 (by decide)
    unfold gX3_follow_89
    by_cases c : w 69 0 = 0
    · rw [if_pos c]
      exact ok_some.mpr ⟨(bz_t (by rw [← e0]; exact c)).symm, g3, g4, g2⟩
    · rw [if_neg c]
      exact ok_some.mpr ⟨(bz_f (by rw [← e0]; exact c)).symm, g3, g4, g2⟩
  have fly1 : ∀ (t n : Nat) (w : Mm), t < 3 → (∀ c, c ≠ 69 → w c = u2 c) → CF (w 69) (prun E k p n f) → 0 < w 69 0 → pact k p n (prun E k p n f) = t → Ok (gX2_fly 69 (nI t) 58 w) (fun u' => (∀ c, c ≠ 69 → u' c = u2 c) ∧ CF (u' 69) (prun E k p (n + 1) f)) := by
    intro t n w ht g1 g2 g3 g4
    have hE := (hMk w g1).2.1
    have hVn := VF_prun (E := E) (k := k) (p := p) hV n
    have e0 : w 69 0 = prun E k p n f 0 := g2.1 0 (by decide)
    refine (cfly (k0 := 69) (k2 := 58) (by decide) (by decide) ht g2 hVn.1 (fun i hi => (hE.1 i hi).1) (fun i hi => (hE.1 i hi).2.1)).mono ?_
    rintro w' ⟨a1, a2⟩
    refine ⟨fun c hc => (a1 c hc).trans (g1 c hc), ?_⟩
    rw [prun_y (by rw [← e0]; exact g3), g4]
    exact a2
  have lp2 : ∀ w : Mm, (∀ c, c ≠ 69 → w c = u2 c) → CF (w 69) (prun E k p (k + p) f) → Ok (gX3_follow_51 (nI k) (nI p) w) (fun q => q.1 = bz (pl E k p f 0 = 0) ∧ Fk lF [4] u q.2 ∧ MIk E f k q.2 ∧ CF (q.2 69) (pl E k p f)) := by
    intro w g1 g2
    unfold gX3_follow_51
    rw [letv_eq, nI_a (by omega)]
    refine loopS (fun n (s : Int32 × Mm) => gX3_follow_55_L n s.1 s.2) (fun g s => gX3_follow_55_Ls (fun a b => g (a, b)) s.1 s.2) (fun _ _ => rfl) _
      (fun n s => s.1 = nI n ∧ k + p ≤ n ∧ (∀ c, c ≠ 69 → s.2 c = u2 c) ∧ CF (s.2 69) (prun E k p n f)) 60 ?_ ?_ (60 - (k + p)) (k + p) FU (nI (k + p), w) (by omega) (by unfold FU; omega) ⟨rfl, Nat.le_refl _, g1, g2⟩
    · rintro j ⟨v1, v⟩ g hj ⟨h0, hb, h1, h2⟩ hg
      change v1 = nI j at h0
      subst h0
      change CF (v 69) _ at h2
      show Ok (gX3_follow_55_Ls (fun a b => g (a, b)) (nI j) v) _
      unfold gX3_follow_55_Ls
      have e0 : v 69 0 = prun E k p j f 0 := h2.1 0 (by decide)
      rw [show (60 : Int32) = nI 60 from rfl, if_pos (by rw [lt_nn (by omega) (by omega)]; omega)]
      by_cases c : 0 < v 69 0
      · rw [if_pos c, ok_bind]
        refine (fly1 0 j v (by decide) h1 h2 c (by unfold pact; rw [if_neg (by omega), if_neg (by omega)])).mono ?_
        rintro v' ⟨a1, a2⟩
        rw [letv_eq, nI_s (by omega)]
        exact hg (nI (j + 1), v') ⟨rfl, by omega, a1, a2⟩
      · rw [if_neg c]
        refine fin v h1 ?_
        have := prun_stop' (E := E) (k := k) (p := p) (f := f) (n := j) (m := 60) (by rw [← e0]; exact c) (by omega)
        unfold pl
        rw [this]
        exact h2
    · rintro ⟨v1, v⟩ g ⟨h0, hb, h1, h2⟩
      change v1 = nI 60 at h0
      subst h0
      show Ok (gX3_follow_55_Ls (fun a b => g (a, b)) (nI 60) v) _
      unfold gX3_follow_55_Ls
      rw [show (60 : Int32) = nI 60 from rfl, if_neg (by rw [lt_nn (by omega) (by omega)]; omega)]
      exact fin v h1 h2
  have s0 : CF (u2 69) (prun E k p k f) := by rw [prun_h k (Nat.le_refl _)]; exact h5.copy c2
  refine loopS (fun n (s : Int32 × Mm) => gX3_follow_18_L (nI k) (nI p) n s.1 s.2) (fun g s => gX3_follow_18_Ls (nI k) (nI p) (fun a b => g (a, b)) s.1 s.2) (fun _ _ => rfl) _
    (fun n s => s.1 = nI n ∧ (∀ c, c ≠ 69 → s.2 c = u2 c) ∧ CF (s.2 69) (prun E k p (k + n) f)) p ?_ ?_ p 0 FU (0, u2) (by omega) (by unfold FU; omega) ⟨rfl, fun _ _ => rfl, s0⟩
  · rintro j ⟨v1, v⟩ g hj ⟨h0, h1, h2⟩ hg
    change v1 = nI j at h0
    subst h0
    change CF (v 69) _ at h2
    show Ok (gX3_follow_18_Ls (nI k) (nI p) (fun a b => g (a, b)) (nI j) v) _
    unfold gX3_follow_18_Ls
    have e0 : v 69 0 = prun E k p (k + j) f 0 := h2.1 0 (by decide)
    rw [if_pos (by rw [lt_nn (by omega) (by omega)]; exact hj)]
    by_cases c : 0 < v 69 0
    · rw [if_pos c, ok_bind]
      refine (fly1 2 (k + j) v (by decide) h1 h2 c (by unfold pact; rw [if_neg (by omega), if_pos (by omega)])).mono ?_
      rintro v' ⟨a1, a2⟩
      rw [letv_eq, nI_s (by omega)]
      exact hg (nI (j + 1), v') ⟨rfl, a1, a2⟩
    · rw [if_neg c]
      refine lp2 v h1 ?_
      rw [prun_stop' (E := E) (k := k) (p := p) (f := f) (n := k + j) (m := k + p) (by rw [← e0]; exact c) (by omega)]
      exact h2
  · rintro ⟨v1, v⟩ g ⟨h0, h1, h2⟩
    change v1 = nI p at h0
    subst h0
    show Ok (gX3_follow_18_Ls (nI k) (nI p) (fun a b => g (a, b)) (nI p) v) _
    unfold gX3_follow_18_Ls
    rw [if_neg (by rw [lt_nn (by omega) (by omega)]; omega)]
    exact lp2 v h1 h2
