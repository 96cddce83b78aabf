/-! The letters told: readStatement. -/
theorem smE_t {x : Nat → Int32} {e : Nat × Bool} (h : (smE x e).2 = true) : e.2 = true := by
  obtain ⟨q, w⟩ := e
  cases w with
  | false => exact h
  | true => rfl
theorem enD_ac (x : Nat → Int32) (p : Nat) : enD x p 1 9 = smE x (acE x (p, true)) := by
  show (p + dg x 9 p, if p + dg x 9 p < p + 1 then false else decide (x (p + dg x 9 p) = 59)) = (if decide (1 ≤ dg x 9 p) = true then (p + dg x 9 p, decide (x (p + dg x 9 p) = 59)) else (p + dg x 9 p, decide (1 ≤ dg x 9 p)))
  by_cases c : 1 ≤ dg x 9 p
  · rw [if_neg (by omega), if_pos (decide_eq_true c)]
  · rw [if_pos (by omega), decide_eq_false c, if_neg (by decide)]
theorem rdD_1 (x : Nat → Int32) (q : Nat) : rdD x 1 (q, true) = if dgB (x q) = true then (q + 1, true) else (q, false) := by
  show (q + dg x 1 q, decide (dg x 1 q = 1)) = _
  have e : dg x 1 q = if dgB (x q) = true then 1 else 0 := rfl
  by_cases c : dgB (x q) = true
  · rw [if_pos c] at e
    rw [if_pos c, e, decide_eq_true rfl]
  · rw [if_neg c] at e
    rw [if_neg c, e, decide_eq_false (by decide)]
    rfl
theorem enW_rd (x : Nat → Int32) (p : Nat) : enW x p = smE x (rdD x 1 (rdD x 1 (sgE x (rdD x 1 (p + 1, true))))) := by
  rw [rdD_add, rdD_1]
  unfold enW
  by_cases c : dgB (x (p + 1)) = true
  · rw [if_pos c, if_pos c]
    have e : sgE x (p + 1 + 1, true) = if x (p + 2) = 43 ∨ x (p + 2) = 45 then (p + 3, true) else (p + 2, false) := rfl
    rw [e]
    by_cases d : x (p + 2) = 43 ∨ x (p + 2) = 45
    · rw [if_pos d, if_pos d, enD_rd]
    · rw [if_neg d, if_neg d]
      rfl
  · rw [if_neg c, if_neg c]
    rfl
def VAL (x : Nat → Int32) (w : Mm) (i p : Nat) : Prop :=
  (x p = 98 → w 88 (9 * i) = numI x (p + 1) 2 ∧ w 88 (9 * i + 1) = numI x (p + 3) 2 ∧ w 88 (9 * i + 2) = numI x (p + 5) 1) ∧
  (x p = 102 → w 88 (9 * i) = numI x (p + 1) 1 ∧ w 88 (9 * i + 1) = numI x (p + 2) 1 ∧ w 88 (9 * i + 2) = numI x (p + 3) 3 ∧ w 88 (9 * i + 3) = numI x (p + 6) 3 ∧ w 88 (9 * i + 4) = numI x (p + 9) 2) ∧
  (x p = 104 → w 88 (9 * i) = numI x (p + 1) 2) ∧
  (x p = 108 → w 88 (9 * i) = numI x (p + 1) 1) ∧
  (x p = 114 → w 88 (9 * i) = numI x (p + 1) 1 ∧ w 88 (9 * i + 1) = numI x (p + 2) 1 ∧ w 88 (9 * i + 2) = numI x (p + 3) 2) ∧
  (x p = 119 → w 88 (9 * i) = numI x (p + 1) 1 ∧ w 88 (9 * i + 1) = (if x (p + 2) = 45 then -numI x (p + 3) 1 else numI x (p + 3) 1) ∧ w 88 (9 * i + 2) = numI x (p + 4) 1) ∧
  (x p = 97 → w 89 i = nI (dg x 9 (p + 1)) ∧ ∀ k, k < dg x 9 (p + 1) → w 88 (9 * i + k) = numI x (p + 1 + k) 1)
def VALs (x : Nat → Int32) (w : Mm) (i p : Nat) (v : Int32) : Prop := ∀ z : Int32, x p = v → x p = z → z ≠ v → False
theorem VAL_of {x : Nat → Int32} {w : Mm} {i p : Nat} {v : Int32} (hv : x p = v)
  (h1 : v = 98 → w 88 (9 * i) = numI x (p + 1) 2 ∧ w 88 (9 * i + 1) = numI x (p + 3) 2 ∧ w 88 (9 * i + 2) = numI x (p + 5) 1)
  (h2 : v = 102 → w 88 (9 * i) = numI x (p + 1) 1 ∧ w 88 (9 * i + 1) = numI x (p + 2) 1 ∧ w 88 (9 * i + 2) = numI x (p + 3) 3 ∧ w 88 (9 * i + 3) = numI x (p + 6) 3 ∧ w 88 (9 * i + 4) = numI x (p + 9) 2)
  (h3 : v = 104 → w 88 (9 * i) = numI x (p + 1) 2)
  (h4 : v = 108 → w 88 (9 * i) = numI x (p + 1) 1)
  (h5 : v = 114 → w 88 (9 * i) = numI x (p + 1) 1 ∧ w 88 (9 * i + 1) = numI x (p + 2) 1 ∧ w 88 (9 * i + 2) = numI x (p + 3) 2)
  (h6 : v = 119 → w 88 (9 * i) = numI x (p + 1) 1 ∧ w 88 (9 * i + 1) = (if x (p + 2) = 45 then -numI x (p + 3) 1 else numI x (p + 3) 1) ∧ w 88 (9 * i + 2) = numI x (p + 4) 1)
  (h7 : v = 97 → w 89 i = nI (dg x 9 (p + 1)) ∧ ∀ k, k < dg x 9 (p + 1) → w 88 (9 * i + k) = numI x (p + 1 + k) 1) : VAL x w i p :=
  ⟨fun e => h1 (hv.symm.trans e), fun e => h2 (hv.symm.trans e), fun e => h3 (hv.symm.trans e), fun e => h4 (hv.symm.trans e), fun e => h5 (hv.symm.trans e), fun e => h6 (hv.symm.trans e), fun e => h7 (hv.symm.trans e)⟩
theorem FrX.A {i k : Nat} {u v : Mm} (h : FrX k u v) (hk : 9 * i ≤ k ∧ k < 9 * i + 9) : FrA i u v := ⟨fun c a b _ => h.1 c a b, h.2.1, fun s hs => h.2.2 s (by omega), fun j _ => by rw [h.1 89 (by decide) (by decide)]⟩
theorem FrA.tr {i : Nat} {u v w : Mm} (h1 : FrA i u v) (h2 : FrA i v w) : FrA i u w := ⟨fun c a b d => (h2.1 c a b d).trans (h1.1 c a b d), fun j a b => (h2.2.1 j a b).trans (h1.2.1 j a b), fun s hs => (h2.2.2.1 s hs).trans (h1.2.2.1 s hs), fun j hj => (h2.2.2.2 j hj).trans (h1.2.2.2 j hj)⟩
/-- what a statement's reading leaves -/
def PS (x : Nat → Int32) (i p : Nat) (u u' : Mm) : Prop := (∀ c, c ≠ 74 → c ≠ 88 → c ≠ 89 → u' c = u c) ∧ (∀ j, j ≠ 24 → j ≠ 25 → j ≠ 26 → u' 74 j = u 74 j) ∧ (∀ s, (s < 9 * i ∨ 9 * i + 9 ≤ s) → u' 88 s = u 88 s) ∧ (∀ j, j ≠ i → u' 89 j = u 89 j) ∧ u' 74 26 = nI (i + 1) ∧ RS u' (nxE (EN x p)) ∧ ((EN x p).2 = true → VAL x u' i p)
theorem stat_end {u v : Mm} {x : Nat → Int32} {n i p : Nat} {e : Nat × Bool} (hF : FrA i u v) (hL : LtM v x n) (hS : RS v e) (hq : e.1 < 900) (hi : i < 49) (h26 : u 74 26 = nI i) (eE : EN x p = smE x e) (hV : ∀ w : Mm, (∀ c, c ≠ 74 → w c = v c) → e.2 = true → VAL x w i p) : Ok (gX11_readStatement_354 v) (PS x i p u) := by
  refine (last_M hL hS hq ((hF.2.1 26 (by decide) (by decide)).trans h26) (by omega)).mono ?_
  rintro w ⟨k1, k2, k3, k4⟩
  refine ⟨fun c a b d => (k1 c a).trans (hF.1 c a b d), fun j a b d => (k2 j a b d).trans (hF.2.1 j a b), fun s hs => ?_, fun j hj => ?_, k3, ?_, fun hh => ?_⟩
  · rw [k1 88 (by decide)]; exact hF.2.2.1 s hs
  · rw [k1 89 (by decide)]; exact hF.2.2.2 j hj
  · rw [eE]; exact k4
  · rw [eE] at hh
    exact hV w k1 (smE_t hh)
theorem rdD_b {x : Nat → Int32} {m : Nat} {e : Nat × Bool} : (rdD x m e).1 ≤ e.1 + m := by
  obtain ⟨q, w⟩ := e
  cases w with
  | false => exact Nat.le_add_right q m
  | true => exact Nat.add_le_add_left (dg_le x m q) q
theorem EN_98 {x : Nat → Int32} {p : Nat} (h : x p = 98) : EN x p = enD x (p + 1) 5 5 := by unfold EN; rw [h]; rfl
theorem EN_102 {x : Nat → Int32} {p : Nat} (h : x p = 102) : EN x p = enD x (p + 1) 10 10 := by unfold EN; rw [h]; rfl
theorem EN_104 {x : Nat → Int32} {p : Nat} (h : x p = 104) : EN x p = enD x (p + 1) 2 2 := by unfold EN; rw [h]; rfl
theorem EN_108 {x : Nat → Int32} {p : Nat} (h : x p = 108) : EN x p = enD x (p + 1) 1 1 := by unfold EN; rw [h]; rfl
theorem EN_114 {x : Nat → Int32} {p : Nat} (h : x p = 114) : EN x p = enD x (p + 1) 4 4 := by unfold EN; rw [h]; rfl
theorem EN_119 {x : Nat → Int32} {p : Nat} (h : x p = 119) : EN x p = enW x p := by unfold EN; rw [h]; rfl
theorem EN_97 {x : Nat → Int32} {p : Nat} (h : x p = 97) : EN x p = enD x (p + 1) 1 9 := by unfold EN; rw [h]; rfl
theorem stat_72 {u : Mm} {x : Nat → Int32} {n i p : Nat} {s0 s1 : Int32} {e : Nat × Bool} (hL : LtM u x n) (hp : p ≤ 96) (hi : i < 49) (h26 : u 74 26 = nI i) (hS : RS (stm u 74 24 (s1 + s0)) e)
    (he : if x p = 97 ∨ x p = 98 ∨ x p = 102 ∨ x p = 104 ∨ x p = 108 ∨ x p = 114 ∨ x p = 119 then e = (p + 1, true) else e = (p, false)) : Ok (gX11_readStatement_72 (nI i) (x p) (nI (9 * i)) s0 s1 u) (PS x i p u) := by
  unfold gX11_readStatement_72
  rw [letv_eq]
  generalize hv : stm u 74 24 (s1 + s0) = v at hS ⊢
  have fA : FrA i u v := by
    rw [← hv]
    exact ⟨fun c a _ _ => stm_c a, fun j a _ => stm_s a, fun _ _ => rfl, fun _ _ => rfl⟩
  have hLv : LtM v x n := hL.fr (fA.2.1 23 (by decide) (by decide)) (fA.1 85 (by decide) (by decide) (by decide))
  have n1 : nI (9 * i) + 1 = nI (9 * i + 1) := nI_s (by omega)
  have n2 : nI (9 * i) + 2 = nI (9 * i + 2) := nI_a (b := 2) (by omega)
  have n3 : nI (9 * i) + 3 = nI (9 * i + 3) := nI_a (b := 3) (by omega)
  have n4 : nI (9 * i) + 4 = nI (9 * i + 4) := nI_a (b := 4) (by omega)
  by_cases c1 : x p = 98
  · rw [if_pos (Or.inr (Or.inl c1))] at he
    subst he
    rw [if_pos c1, n1, n2]
    have b1 := rdD_b (x := x) (m := 2) (e := (p + 1, true))
    have b2 := rdD_b (x := x) (m := 2) (e := rdD x 2 (p + 1, true))
    have b3 := rdD_b (x := x) (m := 1) (e := rdD x 2 (rdD x 2 (p + 1, true)))
    change _ ≤ p + 1 + 2 at b1
    refine rdst (m := 2) (k := 9 * i) hLv hS (by show p + 1 < 900; omega) (by decide) (by omega) (fun w1 f1 l1 s1 v1 => ?_)
    refine rdst (m := 2) (k := 9 * i + 1) l1 s1 (by omega) (by decide) (by omega) (fun w2 f2 l2 s2 v2 => ?_)
    refine rdst (m := 1) (k := 9 * i + 2) l2 s2 (by omega) (by decide) (by omega) (fun w3 f3 l3 s3 v3 => ?_)
    refine stat_end (fA.tr ((f1.A (by omega)).tr ((f2.A (by omega)).tr (f3.A (by omega))))) l3 s3 (by omega) hi h26 ?_ (fun w hw ok => ?_)
    · rw [EN_98 c1, enD_rd, rdD_add, rdD_add]
    · obtain ⟨t1, t2, t3⟩ := rdD_t ok
      obtain ⟨t4, t5, t6⟩ := rdD_t t1
      obtain ⟨t7, t8, t9⟩ := rdD_t t4
      refine VAL_of c1 (fun _ => ⟨?_, ?_, ?_⟩) (fun h => absurd h (by decide)) (fun h => absurd h (by decide)) (fun h => absurd h (by decide)) (fun h => absurd h (by decide)) (fun h => absurd h (by decide)) (fun h => absurd h (by decide))
      · rw [hw 88 (by decide), f3.2.2 _ (by omega), f2.2.2 _ (by omega)]; exact v1 t4
      · rw [hw 88 (by decide), f3.2.2 _ (by omega), v2 t1, t9]
      · rw [hw 88 (by decide), v3 ok, t6, t9]
  rw [if_neg c1]
  by_cases c2 : x p = 102
  · rw [if_pos (Or.inr (Or.inr (Or.inl c2)))] at he
    subst he
    rw [if_pos c2, n1, n2, n3, n4]
    have b1 := rdD_b (x := x) (m := 1) (e := (p + 1, true))
    have b2 := rdD_b (x := x) (m := 1) (e := rdD x 1 (p + 1, true))
    have b3 := rdD_b (x := x) (m := 3) (e := rdD x 1 (rdD x 1 (p + 1, true)))
    have b4 := rdD_b (x := x) (m := 3) (e := rdD x 3 (rdD x 1 (rdD x 1 (p + 1, true))))
    have b5 := rdD_b (x := x) (m := 2) (e := rdD x 3 (rdD x 3 (rdD x 1 (rdD x 1 (p + 1, true)))))
    change _ ≤ p + 1 + 1 at b1
    refine rdst (m := 1) (k := 9 * i) hLv hS (by show p + 1 < 900; omega) (by decide) (by omega) (fun w1 f1 l1 s1 v1 => ?_)
    refine rdst (m := 1) (k := 9 * i + 1) l1 s1 (by omega) (by decide) (by omega) (fun w2 f2 l2 s2 v2 => ?_)
    refine rdst (m := 3) (k := 9 * i + 2) l2 s2 (by omega) (by decide) (by omega) (fun w3 f3 l3 s3 v3 => ?_)
    refine rdst (m := 3) (k := 9 * i + 3) l3 s3 (by omega) (by decide) (by omega) (fun w4 f4 l4 s4 v4 => ?_)
    refine rdst (m := 2) (k := 9 * i + 4) l4 s4 (by omega) (by decide) (by omega) (fun w5 f5 l5 s5 v5 => ?_)
    refine stat_end (fA.tr ((f1.A (by omega)).tr ((f2.A (by omega)).tr ((f3.A (by omega)).tr ((f4.A (by omega)).tr (f5.A (by omega))))))) l5 s5 (by omega) hi h26 ?_ (fun w hw ok => ?_)
    · rw [EN_102 c2, enD_rd, rdD_add, rdD_add, rdD_add, rdD_add]
    · obtain ⟨t1, t2, t3⟩ := rdD_t ok
      obtain ⟨t4, t5, t6⟩ := rdD_t t1
      obtain ⟨t7, t8, t9⟩ := rdD_t t4
      obtain ⟨ta, tb, tc⟩ := rdD_t t7
      obtain ⟨td, te, tf⟩ := rdD_t ta
      refine VAL_of c2 (fun h => absurd h (by decide)) (fun _ => ⟨?_, ?_, ?_, ?_, ?_⟩) (fun h => absurd h (by decide)) (fun h => absurd h (by decide)) (fun h => absurd h (by decide)) (fun h => absurd h (by decide)) (fun h => absurd h (by decide))
      · rw [hw 88 (by decide), f5.2.2 _ (by omega), f4.2.2 _ (by omega), f3.2.2 _ (by omega), f2.2.2 _ (by omega)]; exact v1 ta
      · rw [hw 88 (by decide), f5.2.2 _ (by omega), f4.2.2 _ (by omega), f3.2.2 _ (by omega), v2 t7, tf]
      · rw [hw 88 (by decide), f5.2.2 _ (by omega), f4.2.2 _ (by omega), v3 t4, tc, tf]
      · rw [hw 88 (by decide), f5.2.2 _ (by omega), v4 t1, t9, tc, tf]
      · rw [hw 88 (by decide), v5 ok, t6, t9, tc, tf]
  rw [if_neg c2]
  by_cases c3 : x p = 104
  · rw [if_pos (Or.inr (Or.inr (Or.inr (Or.inl c3))))] at he
    subst he
    rw [if_pos c3]
    have b1 := rdD_b (x := x) (m := 2) (e := (p + 1, true))
    change _ ≤ p + 1 + 2 at b1
    refine rdst (m := 2) (k := 9 * i) hLv hS (by show p + 1 < 900; omega) (by decide) (by omega) (fun w1 f1 l1 s1 v1 => ?_)
    refine stat_end (fA.tr (f1.A (by omega))) l1 s1 (by omega) hi h26 ?_ (fun w hw ok => ?_)
    · rw [EN_104 c3, enD_rd]
    · refine VAL_of c3 (fun h => absurd h (by decide)) (fun h => absurd h (by decide)) (fun _ => ?_) (fun h => absurd h (by decide)) (fun h => absurd h (by decide)) (fun h => absurd h (by decide)) (fun h => absurd h (by decide))
      rw [hw 88 (by decide)]; exact v1 ok
  rw [if_neg c3]
  by_cases c4 : x p = 108
  · rw [if_pos (Or.inr (Or.inr (Or.inr (Or.inr (Or.inl c4)))))] at he
    subst he
    rw [if_pos c4]
    have b1 := rdD_b (x := x) (m := 1) (e := (p + 1, true))
    change _ ≤ p + 1 + 1 at b1
    refine rdst (m := 1) (k := 9 * i) hLv hS (by show p + 1 < 900; omega) (by decide) (by omega) (fun w1 f1 l1 s1 v1 => ?_)
    refine stat_end (fA.tr (f1.A (by omega))) l1 s1 (by omega) hi h26 ?_ (fun w hw ok => ?_)
    · rw [EN_108 c4, enD_rd]
    · refine VAL_of c4 (fun h => absurd h (by decide)) (fun h => absurd h (by decide)) (fun h => absurd h (by decide)) (fun _ => ?_) (fun h => absurd h (by decide)) (fun h => absurd h (by decide)) (fun h => absurd h (by decide))
      rw [hw 88 (by decide)]; exact v1 ok
  rw [if_neg c4]
  by_cases c5 : x p = 114
  · rw [if_pos (Or.inr (Or.inr (Or.inr (Or.inr (Or.inr (Or.inl c5))))))] at he
    subst he
    rw [if_pos c5, n1, n2]
    have b1 := rdD_b (x := x) (m := 1) (e := (p + 1, true))
    have b2 := rdD_b (x := x) (m := 1) (e := rdD x 1 (p + 1, true))
    have b3 := rdD_b (x := x) (m := 2) (e := rdD x 1 (rdD x 1 (p + 1, true)))
    change _ ≤ p + 1 + 1 at b1
    refine rdst (m := 1) (k := 9 * i) hLv hS (by show p + 1 < 900; omega) (by decide) (by omega) (fun w1 f1 l1 s1 v1 => ?_)
    refine rdst (m := 1) (k := 9 * i + 1) l1 s1 (by omega) (by decide) (by omega) (fun w2 f2 l2 s2 v2 => ?_)
    refine rdst (m := 2) (k := 9 * i + 2) l2 s2 (by omega) (by decide) (by omega) (fun w3 f3 l3 s3 v3 => ?_)
    refine stat_end (fA.tr ((f1.A (by omega)).tr ((f2.A (by omega)).tr (f3.A (by omega))))) l3 s3 (by omega) hi h26 ?_ (fun w hw ok => ?_)
    · rw [EN_114 c5, enD_rd, rdD_add, rdD_add]
    · obtain ⟨t1, t2, t3⟩ := rdD_t ok
      obtain ⟨t4, t5, t6⟩ := rdD_t t1
      obtain ⟨t7, t8, t9⟩ := rdD_t t4
      refine VAL_of c5 (fun h => absurd h (by decide)) (fun h => absurd h (by decide)) (fun h => absurd h (by decide)) (fun h => absurd h (by decide)) (fun _ => ⟨?_, ?_, ?_⟩) (fun h => absurd h (by decide)) (fun h => absurd h (by decide))
      · rw [hw 88 (by decide), f3.2.2 _ (by omega), f2.2.2 _ (by omega)]; exact v1 t4
      · rw [hw 88 (by decide), f3.2.2 _ (by omega), v2 t1, t9]
      · rw [hw 88 (by decide), v3 ok, t6, t9]
  rw [if_neg c5]
  by_cases c6 : x p = 119
  · rw [if_pos (Or.inr (Or.inr (Or.inr (Or.inr (Or.inr (Or.inr c6))))))] at he
    subst he
    rw [if_pos c6, n1, n2]
    have b1 := rdD_b (x := x) (m := 1) (e := (p + 1, true))
    have bs : (sgE x (rdD x 1 (p + 1, true))).1 ≤ (rdD x 1 (p + 1, true)).1 + 1 := by
      unfold sgE
      split
      · split
        · exact Nat.le_refl _
        · exact Nat.le_add_right _ 1
      · exact Nat.le_add_right _ 1
    have b2 := rdD_b (x := x) (m := 1) (e := sgE x (rdD x 1 (p + 1, true)))
    have b3 := rdD_b (x := x) (m := 1) (e := rdD x 1 (sgE x (rdD x 1 (p + 1, true))))
    change _ ≤ p + 1 + 1 at b1
    refine rdst (m := 1) (k := 9 * i) hLv hS (by show p + 1 < 900; omega) (by decide) (by omega) (fun w1 f1 l1 s1 v1 => ?_)
    rw [ok_bI]
    refine (signed_M l1 s1 (by omega)).mono ?_
    rintro ⟨r, w2⟩ ⟨f2, s2, v2⟩
    change FrD w1 w2 at f2
    change RS w2 _ at s2
    change _ → r = _ at v2
    show Ok (gd (ix (nI (9 * i + 1)) 441) _) _
    rw [gd_t (ix_nI (by omega) (by decide)), letv_eq, ixn_nI (by omega)]
    have f2' : FrX (9 * i + 1) w1 (stm w2 88 (9 * i + 1) r) := ⟨fun c a b => (stm_c b).trans (f2.1 c a), fun j a b => f2.2 j a b, fun s hs => by rw [stm_s hs, f2.1 88 (by decide)]⟩
    have l2 : LtM (stm w2 88 (9 * i + 1) r) x n := l1.fr (f2'.2.1 23 (by decide) (by decide)) (f2'.1 85 (by decide) (by decide))
    refine rdst (m := 1) (k := 9 * i + 2) l2 (e := rdD x 1 (sgE x (rdD x 1 (p + 1, true)))) s2 (by omega) (by decide) (by omega) (fun w3 f3 l3 s3 v3 => ?_)
    refine stat_end (fA.tr ((f1.A (by omega)).tr ((f2'.A (by omega)).tr (f3.A (by omega))))) l3 s3 (by omega) hi h26 ?_ (fun w hw ok => ?_)
    · rw [EN_119 c6, enW_rd]
    · obtain ⟨t1, t2, t3⟩ := rdD_t ok
      obtain ⟨t4, t5, t6⟩ := rdD_t t1
      have t7 : (rdD x 1 (p + 1, true)).2 = true := by
        unfold sgE at t4
        split at t4
        · assumption
        · exact t4
      obtain ⟨t8, t9, ta⟩ := rdD_t t7
      have tb : (sgE x (rdD x 1 (p + 1, true))).1 = p + 3 := by
        unfold sgE at t4 ⊢
        rw [if_pos t7] at t4 ⊢
        split at t4
        · rename_i hh
          rw [if_pos hh]
          show (rdD x 1 (p + 1, true)).1 + 1 = p + 3
          rw [ta]
        · cases t4
      refine VAL_of c6 (fun h => absurd h (by decide)) (fun h => absurd h (by decide)) (fun h => absurd h (by decide)) (fun h => absurd h (by decide)) (fun h => absurd h (by decide)) (fun _ => ⟨?_, ?_, ?_⟩) (fun h => absurd h (by decide))
      · rw [hw 88 (by decide), f3.2.2 _ (by omega), f2'.2.2 _ (by omega)]; exact v1 t7
      · rw [hw 88 (by decide), f3.2.2 _ (by omega), stm_r, v2 t1, ta]
      · rw [hw 88 (by decide), v3 ok, t6, tb]
  rw [if_neg c6, ok_bind]
  by_cases c7 : x p = 97
  · rw [if_pos (Or.inl c7)] at he
    subst he
    refine (acts_M hLv hS (by show p + 1 < 800; omega) hi).mono ?_
    rintro w1 ⟨f1, s1, v1⟩
    refine stat_end (fA.tr f1) (hLv.fr (f1.2.1 23 (by decide) (by decide)) (f1.1 85 (by decide) (by decide) (by decide))) s1 (by have := dg_le x 9 (p + 1); show p + 1 + dg x 9 (p + 1) < 900; omega) hi h26 ?_ (fun w hw ok => ?_)
    · rw [EN_97 c7, enD_ac]
    · obtain ⟨g1, g2⟩ := v1 ok
      refine VAL_of c7 (fun h => absurd h (by decide)) (fun h => absurd h (by decide)) (fun h => absurd h (by decide)) (fun h => absurd h (by decide)) (fun h => absurd h (by decide)) (fun h => absurd h (by decide)) (fun _ => ⟨?_, fun k hk => ?_⟩)
      · rw [hw 89 (by decide)]; exact g1
      · rw [hw 88 (by decide)]; exact g2 k hk
  · rw [if_neg (fun h => by rcases h with h | h | h | h | h | h | h <;> contradiction)] at he
    subst he
    refine (acts_M hLv hS (by show p < 800; omega) hi).mono ?_
    rintro w1 ⟨f1, s1, v1⟩
    refine stat_end (fA.tr f1) (hLv.fr (f1.2.1 23 (by decide) (by decide)) (f1.1 85 (by decide) (by decide) (by decide))) s1 (by show p < 900; omega) hi h26 ?_ (fun w hw ok => absurd ok (show ¬ (false = true) by decide))
    unfold EN
    rw [if_neg c7, if_neg c1, if_neg c2, if_neg c3, if_neg c4, if_neg c5, if_neg c6]
    rfl
