/-! What is thought: the reference's row 92, plans on both sides. -/
def TH (u : Mm) (f : Nat → Int32) : Prop := (∀ i, i < 8 → u 92 i = f i) ∧ ∀ j, j < 6 → u 92 (8 + j) = f (9 + j)
theorem sp14 : ∀ q : Nat, q < 14 → sp q = if q < 8 then (74, q + 2) else (77, q - 8) := by decide
theorem sp_92 : ∀ q : Nat, q < 136 → (sp q).1 ≠ 92 ∧ (sp q).1 ≠ 94 := by decide +kernel
theorem sp_fl {q c i : Nat} (hq : q < 14) (hc : c ≠ 74) (hd : c ≠ 77) : sp q ≠ (c, i) := by
  rw [sp14 q hq]
  split
  · exact fun e => hc (congrArg Prod.fst e).symm
  · exact fun e => hd (congrArg Prod.fst e).symm
theorem sp_74 {q i : Nat} (hq : q < 14) (h : i < 2 ∨ 9 < i) : sp q ≠ (74, i) := by
  rw [sp14 q hq]
  split
  · intro e
    have : q + 2 = i := congrArg Prod.snd e
    omega
  · intro e
    have : (77 : Nat) = 74 := congrArg Prod.fst e
    omega
theorem nA {i : Nat} (h : i ∉ lA) : (i < 2 ∨ 9 < i) ∧ i ≠ 34 ∧ i ≠ 35 ∧ i ≠ 36 := by
  refine ⟨?_, fun e => h (by subst e; decide), fun e => h (by subst e; decide), fun e => h (by subst e; decide)⟩
  have n2 : i ≠ 2 := fun e => h (by subst e; decide)
  have n3 : i ≠ 3 := fun e => h (by subst e; decide)
  have n4 : i ≠ 4 := fun e => h (by subst e; decide)
  have n5 : i ≠ 5 := fun e => h (by subst e; decide)
  have n6 : i ≠ 6 := fun e => h (by subst e; decide)
  have n7 : i ≠ 7 := fun e => h (by subst e; decide)
  have n8 : i ≠ 8 := fun e => h (by subst e; decide)
  have n9 : i ≠ 9 := fun e => h (by subst e; decide)
  omega
theorem again_ok {u : Mm} {f : Nat → Int32} (hT : TH u f) : Ok (gX11_again u) (fun u' => Fm lA u u' ∧ MF u' f) := by
  unfold gX11_again gX11_again_b
  rw [letv_eq, letv_eq, letv_eq, ok_bind]
  have h : HK 92 false (cst u 92 0) := ⟨by decide, rfl, rfl, rfl, by decide, fun q hq => (sp_92 q hq).1⟩
  refine (cf_ok h (by decide) (CI_0 rfl)).mono (fun u1 h1 => ok_some.mpr ?_)
  obtain ⟨hA, -, hF, -⟩ := h1
  have h92 : ∀ q, cst u 92 0 92 q = u 92 q := fun q => congrFun (cst_c (by decide)) q
  refine ⟨⟨fun c a b => funext fun i => ?_, fun i hi => ?_⟩, fun i hi => ?_, fun j hj => ?_⟩
  · rw [hF c i (Or.inr (fun q hq => sp_fl hq a b)) (Or.inl a) (Or.inr (Or.inl rfl)), cst_c a]
  · obtain ⟨a, b, c, d⟩ := nA hi
    rw [hF 74 i (Or.inr (fun q hq => sp_74 hq a)) (Or.inr b) (Or.inr (Or.inl rfl)), cst_s b c d]
  · have e := hA rfl i (by omega)
    rw [sp14 i (by omega), if_pos hi] at e
    exact e.trans ((h92 i).trans (hT.1 i hi))
  · have e := hA rfl (8 + j) (by omega)
    rw [sp14 (8 + j) (by omega), if_neg (by omega), Nat.add_sub_cancel_left] at e
    exact e.trans ((h92 (8 + j)).trans (hT.2 j hj))
theorem open_ok {u : Mm} {f : Nat → Int32} (hM : MF u f) : Ok (gX11_open u) (fun u' => (∀ c, c ≠ 74 → c ≠ 92 → u' c = u c) ∧ (∀ i, i ≠ 34 → i ≠ 35 → i ≠ 36 → u' 74 i = u 74 i) ∧ TH u' f ∧ MF u' f) := by
  unfold gX11_open gX11_open_b
  rw [letv_eq, letv_eq, letv_eq, ok_bind]
  have h : HK 92 true (cst u 92 1) := ⟨by decide, rfl, rfl, rfl, by decide, fun q hq => (sp_92 q hq).1⟩
  refine (cf_ok h (by decide) (CI_0 rfl)).mono (fun u1 h1 => ok_some.mpr ?_)
  obtain ⟨-, hB, hF, -⟩ := h1
  have g1 : ∀ c, c ≠ 74 → c ≠ 92 → u1 c = u c := fun c a b => funext fun i => by rw [hF c i (Or.inl rfl) (Or.inl a) (Or.inl b), cst_c a]
  have g2 : ∀ i, i ≠ 34 → i ≠ 35 → i ≠ 36 → u1 74 i = u 74 i := fun i a b c => by rw [hF 74 i (Or.inl rfl) (Or.inr a) (Or.inl (by decide)), cst_s a b c]
  refine ⟨g1, g2, ⟨fun i hi => ?_, fun j hj => ?_⟩, fun i hi => ?_, fun j hj => ?_⟩
  · rw [hB rfl i (by omega), mV_f _ hi, cst_s (by omega) (by omega) (by omega)]
    exact hM.1 i hi
  · rw [hB rfl (8 + j) (by omega), mV_w _ hj, cst_c (by decide)]
    exact hM.2 j hj
  · rw [g2 _ (by omega) (by omega) (by omega)]
    exact hM.1 i hi
  · rw [g1 77 (by decide) (by decide)]
    exact hM.2 j hj
/-! Plans. -/
def hrun (E : Mm) : Nat → (Nat → Int32) → Nat → Int32
  | 0, f => f
  | n + 1, f => if 0 < hrun E n f 0 then stp (E 0) (E 1) (hact (hrun E n f)) (hrun E n f) else hrun E n f
def pact (k p n : Nat) (f : Nat → Int32) : Nat := if n < k then hact f else if n < k + p then 2 else 0
def prun (E : Mm) (k p : Nat) : Nat → (Nat → Int32) → Nat → Int32
  | 0, f => f
  | n + 1, f => if 0 < prun E k p n f 0 then stp (E 0) (E 1) (pact k p n (prun E k p n f)) (prun E k p n f) else prun E k p n f
def pl (E : Mm) (k p : Nat) (f : Nat → Int32) : Nat → Int32 := prun E k p 60 f
theorem prun_y {E : Mm} {k p n : Nat} {f : Nat → Int32} (h : 0 < prun E k p n f 0) : prun E k p (n + 1) f = stp (E 0) (E 1) (pact k p n (prun E k p n f)) (prun E k p n f) := if_pos h
theorem prun_n {E : Mm} {k p n : Nat} {f : Nat → Int32} (h : ¬ 0 < prun E k p n f 0) : prun E k p (n + 1) f = prun E k p n f := if_neg h
theorem hrun_y {E : Mm} {n : Nat} {f : Nat → Int32} (h : 0 < hrun E n f 0) : hrun E (n + 1) f = stp (E 0) (E 1) (hact (hrun E n f)) (hrun E n f) := if_pos h
theorem hrun_n {E : Mm} {n : Nat} {f : Nat → Int32} (h : ¬ 0 < hrun E n f 0) : hrun E (n + 1) f = hrun E n f := if_neg h
theorem prun_h {E : Mm} {k p : Nat} {f : Nat → Int32} : ∀ n, n ≤ k → prun E k p n f = hrun E n f := by
  intro n
  induction n with
  | zero => intro _; rfl
  | succ n ih =>
    intro hn
    have e := ih (by omega)
    by_cases h : 0 < prun E k p n f 0
    · rw [prun_y h, hrun_y (by rw [← e]; exact h), e]
      unfold pact
      rw [if_pos (by omega)]
    · rw [prun_n h, hrun_n (by rw [← e]; exact h), e]
theorem prun_stop {E : Mm} {k p n : Nat} {f : Nat → Int32} (h : ¬ 0 < prun E k p n f 0) : ∀ d, prun E k p (n + d) f = prun E k p n f := by
  intro d
  induction d with
  | zero => rfl
  | succ d ih =>
    rw [show n + (d + 1) = (n + d) + 1 by omega, prun_n (by rw [ih]; exact h), ih]
theorem prun_stop' {E : Mm} {k p n m : Nat} {f : Nat → Int32} (h : ¬ 0 < prun E k p n f 0) (hm : n ≤ m) : prun E k p m f = prun E k p n f := by
  have := prun_stop h (m - n)
  rwa [show n + (m - n) = m by omega] at this
theorem pact_3 (k p n : Nat) (f : Nat → Int32) : pact k p n f < 3 := by
  unfold pact
  split
  · exact hact_3 f
  · split <;> decide
theorem pact_g {k p n : Nat} {f : Nat → Int32} (h : pact k p n f = 1) : 0 < (f 4).toInt := by
  unfold pact at h
  split at h
  · exact hact_g h
  · split at h
    · exact absurd h (by decide)
    · exact absurd h (by decide)
theorem VF_hrun {E : Mm} {f : Nat → Int32} (h : VF f) : ∀ n, VF (hrun E n f) := by
  intro n
  induction n with
  | zero => exact h
  | succ n ih =>
    by_cases c : 0 < hrun E n f 0
    · rw [hrun_y c]; exact VF_stp ih (hact_3 _) hact_g
    · rw [hrun_n c]; exact ih
theorem VF_prun {E : Mm} {k p : Nat} {f : Nat → Int32} (h : VF f) : ∀ n, VF (prun E k p n f) := by
  intro n
  induction n with
  | zero => exact h
  | succ n ih =>
    by_cases c : 0 < prun E k p n f 0
    · rw [prun_y c]; exact VF_stp ih (pact_3 _ _ _ _) pact_g
    · rw [prun_n c]; exact ih
/-- the land as rows: 0 SIDES, 1 AHEAD, 2 how many FIELDS, 3 KINDS, 4 FIGURES, 5 X, 6 Y, 7 SIZES -/
def EM (E u : Mm) : Prop := (∀ i, i < 8 → u 75 i = E 0 i ∧ u 76 i = E 1 i ∧ u 78 i = E 3 i ∧ u 79 i = E 4 i ∧ u 80 i = E 5 i ∧ u 81 i = E 6 i ∧ u 82 i = E 7 i) ∧ u 74 11 = E 2 0
def EC (E u : Mm) : Prop := (∀ i, i < 8 → u 59 i = E 0 i ∧ u 60 i = E 1 i ∧ u 62 i = E 3 i ∧ u 63 i = E 4 i ∧ u 64 i = E 5 i ∧ u 65 i = E 6 i ∧ u 66 i = E 7 i) ∧ u 61 0 = E 2 0
def EB (E : Mm) : Prop := (0 ≤ (E 2 0).toInt ∧ (E 2 0).toInt ≤ 8) ∧ ∀ i : Nat, (i : Int) < (E 2 0).toInt → (0 ≤ (E 5 i).toInt ∧ (E 5 i).toInt ≤ 999) ∧ (0 ≤ (E 6 i).toInt ∧ (E 6 i).toInt ≤ 999) ∧ (1 ≤ (E 7 i).toInt ∧ (E 7 i).toInt ≤ 30) ∧ (0 ≤ (E 4 i).toInt ∧ (E 4 i).toInt ≤ 9)
theorem EM.keep {E u u' : Mm} {l : List Nat} (h : EM E u) (hf : Fm l u u') (hl : 11 ∉ l) : EM E u' := by
  obtain ⟨h1, h2⟩ := h
  obtain ⟨f1, f2⟩ := hf
  refine ⟨fun i hi => ?_, (f2 11 hl).trans h2⟩
  rw [f1 75 (by decide) (by decide), f1 76 (by decide) (by decide), f1 78 (by decide) (by decide), f1 79 (by decide) (by decide), f1 80 (by decide) (by decide), f1 81 (by decide) (by decide), f1 82 (by decide) (by decide)]
  exact h1 i hi
theorem TH.keep {u u' : Mm} {l : List Nat} {f : Nat → Int32} (h : TH u f) (hf : Fm l u u') : TH u' f := by
  unfold TH
  rw [hf.1 92 (by decide) (by decide)]
  exact h
theorem MF.st {u : Mm} {f : Nat → Int32} {i : Nat} {v : Int32} (h : MF u f) (hi : i < 2 ∨ 9 < i) : MF (stm u 74 i v) f := by
  refine ⟨fun j hj => ?_, fun j hj => ?_⟩
  · rw [stm_s (by omega)]; exact h.1 j hj
  · rw [stm_c (by decide)]; exact h.2 j hj
theorem nI_a {a b : Nat} (h : a + b < 2147483648) : nI a + nI b = nI (a + b) := by
  refine of_nat ?_ h
  have h1 := t_nI (show a < 2147483648 by omega)
  have h2 := t_nI (show b < 2147483648 by omega)
  rw [t_add (by rw [h1, h2]; omega) (by rw [h1, h2]; omega), h1, h2]
  omega
theorem ad_sub (a b : Int32) : a + b - a = b := by rw [Int32.add_comm, Int32.add_sub_cancel]
theorem ad_1 (a : Int32) {n : Nat} (h : n + 1 < 2147483648) : a + nI n + 1 = a + nI (n + 1) := by rw [Int32.add_assoc, nI_s h]
/-- planOn of the reference -/
theorem mplan {u E : Mm} {f : Nat → Int32} {k p : Nat} (hT : TH u f) (hV : VF f) (hE : EM E u) (f8 : f 8 = 0) (hk : k ≤ 30) (hp : p ≤ 5) :
    Ok (gX11_planOn (nI k) (nI p) u) (fun u' => Fm lP u u' ∧ MF u' (pl E k p f) ∧ u' 74 41 = bz (pl E k p f 0 = 0) ∧ u' 74 42 = pl E k p f 8 ∧ u' 74 43 = pl E k p f 7 - f 7) := by
  unfold gX11_planOn gX11_planOn_b
  rw [ok_bind]
  refine (again_ok hT).mono (fun ua ha => ?_)
  obtain ⟨ha1, ha2⟩ := ha
  rw [letv_eq]
  have ha1' : Fm lP u ua := ha1.mono (by decide)
  have fin : ∀ (n : Nat) (v : Mm), Fm lP u v → MF v (prun E k p n f) → v 74 42 = prun E k p n f 8 → prun E k p n f 7 = f 7 + nI n → pl E k p f = prun E k p n f →
      Ok (gX11_planOn_66 (nI n) v) (fun u' => Fm lP u u' ∧ MF u' (pl E k p f) ∧ u' 74 41 = bz (pl E k p f 0 = 0) ∧ u' 74 42 = pl E k p f 8 ∧ u' 74 43 = pl E k p f 7 - f 7) := by
    intro n v h1 h2 h3 h4 h5
    have e0 : v 74 2 = pl E k p f 0 := by rw [h5]; exact h2.1 0 (by decide)
    have main : ∀ s : Int32, s = bz (pl E k p f 0 = 0) → Ok (gX11_planOn_79 (nI n) s v) (fun u' => Fm lP u u' ∧ MF u' (pl E k p f) ∧ u' 74 41 = bz (pl E k p f 0 = 0) ∧ u' 74 42 = pl E k p f 8 ∧ u' 74 43 = pl E k p f 7 - f 7) := by
      intro s hs
      unfold gX11_planOn_79
      rw [gd_t (by rw [hs]; exact bz_01), letv_eq, letv_eq]
      refine ok_some.mpr ⟨h1.tr ((Fm.st (by decide)).tr (Fm.st (by decide))), (h5 ▸ h2.st (by decide)).st (by decide), ?_, ?_, ?_⟩
      · rw [stm_s (by decide), stm_r, hs]
      · rw [stm_s (by decide), stm_s (by decide), h3, h5]
      · rw [stm_r, h5, h4, ad_sub]
    unfold gX11_planOn_66
    by_cases hz : v 74 2 = 0
    · rw [if_pos hz]
      exact main 1 (bz_t (by rw [← e0]; exact hz)).symm
    · rw [if_neg hz]
      exact main 0 (bz_f (by rw [← e0]; exact hz)).symm
  refine loopS (fun n (s : Int32 × Mm) => gX11_planOn_11_L (nI k) (nI p) n s.1 s.2) (fun g s => gX11_planOn_11_Ls (nI k) (nI p) (fun a b => g (a, b)) s.1 s.2) (fun _ _ => rfl) _
    (fun n s => s.1 = nI n ∧ Fm lP u s.2 ∧ MF s.2 (prun E k p n f) ∧ s.2 74 42 = prun E k p n f 8 ∧ prun E k p n f 7 = f 7 + nI n) 60 ?_ ?_ 60 0 FU (0, stm ua 74 42 0) rfl (by decide)
    ⟨rfl, ha1'.tr (Fm.st (by decide)), ha2.st (by decide), by show stm ua 74 42 0 74 42 = f 8; rw [stm_r, f8], by show f 7 = f 7 + 0; rw [Int32.add_zero]⟩
  · rintro j ⟨v1, v⟩ g hj ⟨h0, h1, h2, h3, h4⟩ hg
    change v1 = nI j at h0
    subst h0
    change Fm lP u v at h1
    change MF v _ at h2
    change v 74 42 = _ at h3
    show Ok (gX11_planOn_11_Ls (nI k) (nI p) (fun a b => g (a, b)) (nI j) v) _
    have e0 : v 74 2 = prun E k p j f 0 := h2.1 0 (by decide)
    have hEv : EM E v := hE.keep h1 (by decide)
    have hVj := VF_prun (E := E) (k := k) (p := p) hV j
    unfold gX11_planOn_11_Ls
    by_cases c0 : 0 < v 74 2
    · have c0' : 0 < prun E k p j f 0 := by rw [← e0]; exact c0
      have post : ∀ w : Mm, (Fm lS v w ∧ MF w (stp (E 0) (E 1) (pact k p j (prun E k p j f)) (prun E k p j f)) ∧ w 74 21 = stp (E 0) (E 1) (pact k p j (prun E k p j f)) (prun E k p j f) 8) →
          Ok (gX11_planOn_52 (fun a b => g (a, b)) (nI k) (nI p) (nI j) w) (fun u' => Fm lP u u' ∧ MF u' (pl E k p f) ∧ u' 74 41 = bz (pl E k p f 0 = 0) ∧ u' 74 42 = pl E k p f 8 ∧ u' 74 43 = pl E k p f 7 - f 7) := by
        rintro w ⟨g1, g2, g3⟩
        unfold gX11_planOn_52
        rw [letv_eq, letv_eq, nI_s (by omega)]
        rw [← prun_y c0'] at g2 g3
        refine hg (nI (j + 1), stm w 74 42 (w 74 21)) ⟨rfl, h1.tr ((g1.mono (by decide)).tr (Fm.st (by decide))), g2.st (by decide), (show stm w 74 42 (w 74 21) 74 42 = w 74 21 from stm_r).trans g3, ?_⟩
        rw [prun_y c0']
        show prun E k p j f 7 + 1 = _
        rw [h4, ad_1 _ (by omega)]
      rw [if_pos c0, show (60 : Int32) = nI 60 from rfl, if_pos (by rw [lt_nn (by omega) (by omega)]; omega)]
      have hs : ∀ i, i < 8 → v 75 i = E 0 i := fun i hi => (hEv.1 i hi).1
      have hA : ∀ i, i < 8 → v 76 i = E 1 i := fun i hi => (hEv.1 i hi).2.1
      by_cases c1 : j < k
      · rw [if_pos (by rw [lt_nn (by omega) (by omega)]; exact c1), ok_bind]
        refine (mhold h2 hVj.1 hs hA).mono (fun w hw => post w ?_)
        have e : pact k p j (prun E k p j f) = hact (prun E k p j f) := by unfold pact; rw [if_pos c1]
        rw [e]; exact hw
      · rw [if_neg (by rw [lt_nn (by omega) (by omega)]; exact c1), nI_a (by omega)]
        unfold gX11_planOn_49
        by_cases c2 : j < k + p
        · rw [if_pos (by rw [lt_nn (by omega) (by omega)]; exact c2), ok_bind]
          refine (mstep (t := 2) (by decide) h2 hVj.1 hs hA).mono (fun w hw => post w ?_)
          have e : pact k p j (prun E k p j f) = 2 := by unfold pact; rw [if_neg c1, if_pos c2]
          rw [e]; exact hw
        · rw [if_neg (by rw [lt_nn (by omega) (by omega)]; exact c2), ok_bind]
          refine (mstep (t := 0) (by decide) h2 hVj.1 hs hA).mono (fun w hw => post w ?_)
          have e : pact k p j (prun E k p j f) = 0 := by unfold pact; rw [if_neg c1, if_neg c2]
          rw [e]; exact hw
    · rw [if_neg c0]
      exact fin j v h1 h2 h3 h4 (prun_stop' (by rw [← e0]; exact c0) (by omega))
  · rintro ⟨v1, v⟩ g ⟨h0, h1, h2, h3, h4⟩
    change v1 = nI 60 at h0
    subst h0
    show Ok (gX11_planOn_11_Ls (nI k) (nI p) (fun a b => g (a, b)) (nI 60) v) _
    unfold gX11_planOn_11_Ls
    have hf := fin 60 v h1 h2 h3 h4 rfl
    by_cases c0 : 0 < v 74 2
    · rw [if_pos c0, show (60 : Int32) = nI 60 from rfl, if_neg (by rw [lt_nn (by omega) (by omega)]; omega)]
      exact hf
    · rw [if_neg c0]
      exact hf
