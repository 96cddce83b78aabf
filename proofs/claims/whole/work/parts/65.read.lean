/-! The letters told: the reference's reading. -/
def LtM (u : Mm) (x : Nat → Int32) (n : Nat) : Prop := n ≤ 96 ∧ u 74 23 = nI n ∧ (∀ j, j < n → u 85 j = x j) ∧ ∀ j, n ≤ j → x j = -1
def RS (u : Mm) (e : Nat × Bool) : Prop := u 74 24 = nI e.1 ∧ u 74 25 = (if e.2 = true then 0 else 1)
theorem here_M {u : Mm} {x : Nat → Int32} {n q : Nat} (h : LtM u x n) (hq : q < 1000) (e : u 74 24 = nI q) : gX11_here u = some (x q) := by
  obtain ⟨h1, h2, h3, h4⟩ := h
  unfold gX11_here gX11_here_b
  rw [e, h2]
  by_cases c : q < n
  · rw [if_pos (by rw [lt_nn (by omega) (by omega)]; exact c), gd_t (ix_nI (by omega) (by decide)), ixn_nI (by omega), h3 q c]
  · rw [if_neg (by rw [lt_nn (by omega) (by omega)]; exact c), h4 q (by omega)]
theorem dig_M {v : Int32} : gX11_in v.toInt64 48 57 = some (if dgB v = true then 1 else 0) := by
  by_cases c : dgB v = true
  · rw [if_pos c]; exact in_t (dgB_t.mp c)
  · rw [if_neg c]; exact in_f (fun h => c (dgB_t.mpr h))
theorem dg_succ (x : Nat → Int32) (j q : Nat) : dg x (j + 1) q = if dg x j q = j then (if dgB (x (q + j)) = true then j + 1 else j) else dg x j q := by
  have l := dg_le x j q
  by_cases c : dg x j q = j
  · rw [if_pos c]
    have ha : ∀ i, i < j → dgB (x (q + i)) = true := fun i hi => dg_all x j q i (by omega)
    by_cases d : dgB (x (q + j)) = true
    · rw [if_pos d]
      refine dg_eq x (j + 1) q (j + 1) (Nat.le_refl _) (fun i hi => ?_) (Or.inl rfl)
      by_cases e : i = j
      · rw [e]; exact d
      · exact ha i (by omega)
    · rw [if_neg d]
      exact dg_eq x (j + 1) q j (by omega) ha (Or.inr d)
  · rw [if_neg c]
    exact dg_eq x (j + 1) q (dg x j q) (by omega) (fun i hi => dg_all x j q i hi) (Or.inr (dg_stop x j q (by omega)))
theorem dg_add_y (x : Nat → Int32) {a b q : Nat} (h : dg x a q = a) : dg x (a + b) q = a + dg x b (q + a) := by
  have l := dg_le x b (q + a)
  refine dg_eq x (a + b) q (a + dg x b (q + a)) (by omega) (fun j hj => ?_) ?_
  · by_cases c : j < a
    · exact dg_all x a q j (by omega)
    · have := dg_all x b (q + a) (j - a) (by omega)
      rwa [show q + a + (j - a) = q + j by omega] at this
  · by_cases c : dg x b (q + a) = b
    · exact Or.inl (by omega)
    · have := dg_stop x b (q + a) (by omega)
      exact Or.inr (by rwa [show q + a + dg x b (q + a) = q + (a + dg x b (q + a)) by omega] at this)
theorem dg_add_n (x : Nat → Int32) {a b q : Nat} (h : dg x a q < a) : dg x (a + b) q = dg x a q :=
  dg_eq x (a + b) q (dg x a q) (by omega) (fun j hj => dg_all x a q j hj) (Or.inr (dg_stop x a q h))
def rdD (x : Nat → Int32) (m : Nat) (e : Nat × Bool) : Nat × Bool := if e.2 = true then (e.1 + dg x m e.1, decide (dg x m e.1 = m)) else e
theorem rdD_add (x : Nat → Int32) (a b : Nat) (e : Nat × Bool) : rdD x b (rdD x a e) = rdD x (a + b) e := by
  obtain ⟨q, w⟩ := e
  cases w with
  | false => rfl
  | true =>
    have l := dg_le x a q
    have e1 : rdD x a (q, true) = (q + dg x a q, decide (dg x a q = a)) := rfl
    have e2 : rdD x (a + b) (q, true) = (q + dg x (a + b) q, decide (dg x (a + b) q = a + b)) := rfl
    rw [e1, e2]
    by_cases c : dg x a q = a
    · rw [dg_add_y x c, c, decide_eq_true (show a = a from rfl)]
      show (q + a + dg x b (q + a), decide (dg x b (q + a) = b)) = _
      rw [show decide (dg x b (q + a) = b) = decide (a + dg x b (q + a) = a + b) from decide_eq_decide.mpr (by omega), Nat.add_assoc]
    · rw [dg_add_n x (show dg x a q < a by omega), decide_eq_false c, decide_eq_false (show ¬ dg x a q = a + b by omega)]
      rfl
theorem rdD_t {x : Nat → Int32} {m : Nat} {e : Nat × Bool} (h : (rdD x m e).2 = true) : e.2 = true ∧ dg x m e.1 = m ∧ (rdD x m e).1 = e.1 + m := by
  obtain ⟨q, w⟩ := e
  cases w with
  | false => exact absurd h (show ¬ (false = true) by decide)
  | true =>
    have h' : decide (dg x m q = m) = true := h
    have h2 := of_decide_eq_true h'
    exact ⟨rfl, h2, by show q + dg x m q = q + m; rw [h2]⟩
/-- nothing but the place and the flag has changed -/
def FrD (u u' : Mm) : Prop := (∀ c, c ≠ 74 → u' c = u c) ∧ ∀ i, i ≠ 24 → i ≠ 25 → u' 74 i = u 74 i
theorem FrD.tr {u v w : Mm} (h1 : FrD u v) (h2 : FrD v w) : FrD u w := ⟨fun c h => (h2.1 c h).trans (h1.1 c h), fun i a b => (h2.2 i a b).trans (h1.2 i a b)⟩
theorem LtM.fr {u v : Mm} {x : Nat → Int32} {n : Nat} (h : LtM u x n) (h1 : v 74 23 = u 74 23) (h2 : v 85 = u 85) : LtM v x n := ⟨h.1, h1.trans h.2.1, by rw [h2]; exact h.2.2.1, h.2.2.2⟩
theorem readD {u : Mm} {x : Nat → Int32} {n m : Nat} {e : Nat × Bool} (h : LtM u x n) (hS : RS u e) (hq : e.1 < 900) (hm : m ≤ 10) : Ok (gX11_readDigits (nI m) u) (fun q => FrD u q.2 ∧ RS q.2 (rdD x m e) ∧ ((rdD x m e).2 = true → q.1 = numI x e.1 m)) := by
  obtain ⟨q, w⟩ := e
  change q < 900 at hq
  unfold gX11_readDigits gX11_readDigits_b
  refine loopS (fun n (s : Int32 × Int32 × Mm) => gX11_readDigits_4_L (nI m) n s.1 s.2.1 s.2.2) (fun g s => gX11_readDigits_4_Ls (nI m) (fun a b c => g (a, b, c)) s.1 s.2.1 s.2.2) (fun _ _ => rfl) _
    (fun j s => s.2.1 = nI j ∧ FrD u s.2.2 ∧ RS s.2.2 (rdD x j (q, w)) ∧ ((rdD x j (q, w)).2 = true → s.1 = numI x q j)) m ?_ ?_ m 0 FU (0, 0, u) (by omega) (by unfold FU; omega) ⟨rfl, ⟨fun _ _ => rfl, fun _ _ _ => rfl⟩, ?_, fun _ => rfl⟩
  · rintro j ⟨x1, x2, v⟩ g hj ⟨e0, k1, k2, k3⟩ hg
    change x2 = nI j at e0
    subst e0
    change FrD u v at k1
    change RS v (rdD x j (q, w)) at k2
    change (rdD x j (q, w)).2 = true → x1 = numI x q j at k3
    show Ok (gX11_readDigits_4_Ls (nI m) (fun a b c => g (a, b, c)) x1 (nI j) v) _
    have hL : LtM v x n := h.fr (k1.2 23 (by decide) (by decide)) (k1.1 85 (by decide))
    have lj := dg_le x j q
    -- the flag falls
    have no : ∀ p, v 74 24 = nI p → p < 1000 → rdD x (j + 1) (q, w) = (p, false) → Ok (gX11_readDigits_34 (fun a b c => g (a, b, c)) (nI m) x1 (nI j) v) (fun q_1 => FrD u q_1.2 ∧ RS q_1.2 (rdD x m (q, w)) ∧ ((rdD x m (q, w)).2 = true → q_1.1 = numI x (q, w).1 m)) := by
      intro p ep hp er
      unfold gX11_readDigits_34 gX11_readDigits_39 gX11_readDigits_70 gX11_readDigits_88
      rw [gd_t (Or.inr rfl), letv_eq, stm_r, if_neg (by decide), if_neg (by decide), letv_eq, letv_eq, nI_s (by omega)]
      have e24 : stm v 74 25 1 74 24 = nI p := (stm_s (by decide)).trans ep
      rw [e24, Int32.add_zero]
      refine hg (0, nI (j + 1), stm (stm v 74 25 1) 74 24 (nI p)) ⟨rfl, k1.tr ⟨fun c hc => ?_, fun i a b => ?_⟩, ?_, fun hh => ?_⟩
      · exact (stm_c hc).trans (stm_c hc)
      · show stm (stm v 74 25 1) 74 24 (nI p) 74 i = v 74 i
        rw [stm_s a, stm_s b]
      · rw [er]
        refine ⟨show stm (stm v 74 25 1) 74 24 (nI p) 74 24 = nI p from stm_r, ?_⟩
        show stm (stm v 74 25 1) 74 24 (nI p) 74 25 = 1
        rw [stm_s (by decide), stm_r]
      · rw [er] at hh
        cases hh
    unfold gX11_readDigits_4_Ls
    rw [if_pos (by rw [lt_nn (by omega) (by omega)]; exact hj)]
    cases w with
    | false =>
      have e25 : v 74 25 = 1 := k2.2
      rw [if_neg (by rw [e25]; decide)]
      exact no q k2.1 (by omega) rfl
    | true =>
      have ed := dg_succ x j q
      by_cases c : dg x j q = j
      · have er : rdD x j (q, true) = (q + j, true) := by
          show (q + dg x j q, decide (dg x j q = j)) = _
          rw [c, decide_eq_true rfl]
        rw [er] at k2 k3
        have e25 : v 74 25 = 0 := k2.2
        have e24 : v 74 24 = nI (q + j) := k2.1
        have ev : x1 = numI x q j := k3 rfl
        rw [if_pos e25, here_M hL (by omega) e24, Option.bind_some, dig_M, Option.bind_some]
        rw [if_pos c] at ed
        by_cases d : dgB (x (q + j)) = true
        · rw [if_pos d] at ed
          have er2 : rdD x (j + 1) (q, true) = (q + (j + 1), true) := by
            show (q + dg x (j + 1) q, decide (dg x (j + 1) q = j + 1)) = _
            rw [ed, decide_eq_true rfl]
          have hn : q + j < n := by
            by_cases c : n ≤ q + j
            · rw [h.2.2.2 _ c] at d
              exact absurd d (by decide)
            · omega
          rw [if_pos d, if_neg (by decide)]
          unfold gX11_readDigits_39 gX11_readDigits_70 gX11_readDigits_88
          have f24 : stm v 74 25 0 74 24 = nI (q + j) := (stm_s (by decide)).trans e24
          rw [gd_t (Or.inl rfl), letv_eq, stm_r, if_pos rfl, f24, gd_t (ix_nI (by have := h.1; omega) (by decide)), ixn_nI (by omega), if_pos rfl, letv_eq, letv_eq, nI_s (by omega), nI_s (by omega), show stm v 74 25 0 85 (q + j) = x (q + j) from hL.2.2.1 _ hn, ev]
          refine hg (numI x q (j + 1), nI (j + 1), stm (stm v 74 25 0) 74 24 (nI (q + j + 1))) ⟨rfl, k1.tr ⟨fun c hc => ?_, fun i a b => ?_⟩, ?_, fun hh => rfl⟩
          · exact (stm_c hc).trans (stm_c hc)
          · show stm (stm v 74 25 0) 74 24 (nI (q + j + 1)) 74 i = v 74 i
            rw [stm_s a, stm_s b]
          · rw [er2]
            refine ⟨show stm (stm v 74 25 0) 74 24 (nI (q + j + 1)) 74 24 = nI (q + j + 1) from stm_r, ?_⟩
            show stm (stm v 74 25 0) 74 24 (nI (q + j + 1)) 74 25 = 0
            rw [stm_s (by decide), stm_r]
        · rw [if_neg d] at ed
          rw [if_neg d, if_pos rfl]
          refine no (q + j) e24 (by omega) ?_
          show (q + dg x (j + 1) q, decide (dg x (j + 1) q = j + 1)) = _
          rw [ed, decide_eq_false (by omega)]
      · have er : rdD x j (q, true) = (q + dg x j q, false) := by
          show (q + dg x j q, decide (dg x j q = j)) = _
          rw [decide_eq_false c]
        rw [er] at k2
        have e25 : v 74 25 = 1 := k2.2
        rw [if_neg c] at ed
        rw [if_neg (by rw [e25]; decide)]
        refine no (q + dg x j q) k2.1 (by omega) ?_
        show (q + dg x (j + 1) q, decide (dg x (j + 1) q = j + 1)) = _
        rw [ed, decide_eq_false (by omega)]
  · rintro ⟨x1, x2, v⟩ g ⟨e0, k1, k2, k3⟩
    change x2 = nI m at e0
    subst e0
    show Ok (gX11_readDigits_4_Ls (nI m) (fun a b c => g (a, b, c)) x1 (nI m) v) _
    unfold gX11_readDigits_4_Ls
    rw [if_neg (by rw [lt_nn (by omega) (by omega)]; exact Nat.lt_irrefl _)]
    exact ok_some.mpr ⟨k1, k2, k3⟩
  · cases w with
    | false => exact hS
    | true =>
      show RS u (q + 0, decide (0 = 0))
      exact hS
/-- a number read and kept -/
def FrX (k : Nat) (u u' : Mm) : Prop := (∀ c, c ≠ 74 → c ≠ 88 → u' c = u c) ∧ (∀ i, i ≠ 24 → i ≠ 25 → u' 74 i = u 74 i) ∧ ∀ s, s ≠ k → u' 88 s = u 88 s
theorem rdst {X : Type} {u : Mm} {x : Nat → Int32} {n m k : Nat} {e : Nat × Bool} {F : Mm → Option X} {P : X → Prop} (h : LtM u x n) (hS : RS u e) (hq : e.1 < 900) (hm : m ≤ 10) (hk : k < 441)
    (cont : ∀ u', FrX k u u' → LtM u' x n → RS u' (rdD x m e) → ((rdD x m e).2 = true → u' 88 k = numI x e.1 m) → Ok (F u') P) : Ok (bI (gX11_readDigits (nI m) u) fun r v => gd (ix (nI k) 441) (letv (stm v 88 (ixn (nI k)) r) F)) P := by
  rw [ok_bI]
  refine (readD h hS hq hm).mono ?_
  rintro ⟨r, v⟩ ⟨k1, k2, k3⟩
  change FrD u v at k1
  change RS v _ at k2
  change _ → r = _ at k3
  show Ok (gd (ix (nI k) 441) (letv (stm v 88 (ixn (nI k)) r) F)) P
  rw [gd_t (ix_nI hk (by decide)), letv_eq, ixn_nI (by omega)]
  refine cont (stm v 88 k r) ⟨fun c a b => (stm_c b).trans (k1.1 c a), fun i a b => k1.2 i a b, fun s hs => ?_⟩ ?_ k2 (fun hh => ?_)
  · rw [stm_s hs, k1.1 88 (by decide)]
  · exact h.fr (k1.2 23 (by decide) (by decide)) (k1.1 85 (by decide))
  · rw [stm_r]; exact k3 hh
def smE (x : Nat → Int32) (e : Nat × Bool) : Nat × Bool := if e.2 = true then (e.1, decide (x e.1 = 59)) else e
theorem enD_rd (x : Nat → Int32) (p m : Nat) : enD x p m m = smE x (rdD x m (p, true)) := by
  have l := dg_le x m p
  show (p + dg x m p, if p + dg x m p < p + m then false else decide (x (p + dg x m p) = 59)) = (if decide (dg x m p = m) = true then (p + dg x m p, decide (x (p + dg x m p) = 59)) else (p + dg x m p, decide (dg x m p = m)))
  by_cases c : dg x m p = m
  · rw [if_neg (by omega), if_pos (decide_eq_true c)]
  · rw [if_pos (by omega), decide_eq_false c, if_neg (by decide)]
def nxE (e : Nat × Bool) : Nat × Bool := if e.2 = true then (e.1 + 1, true) else e
theorem last_M {u : Mm} {x : Nat → Int32} {n i : Nat} {e : Nat × Bool} (h : LtM u x n) (hS : RS u e) (hq : e.1 < 900) (h26 : u 74 26 = nI i) (hi : i < 100) : Ok (gX11_readStatement_354 u) (fun u' => (∀ c, c ≠ 74 → u' c = u c) ∧ (∀ j, j ≠ 24 → j ≠ 25 → j ≠ 26 → u' 74 j = u 74 j) ∧ u' 74 26 = nI (i + 1) ∧ RS u' (nxE (smE x e))) := by
  obtain ⟨q, w⟩ := e
  have e24 : u 74 24 = nI q := hS.1
  have no : nxE (smE x (q, w)) = (q, false) → Ok (gX11_readStatement_371 u) (fun u' => (∀ c, c ≠ 74 → u' c = u c) ∧ (∀ j, j ≠ 24 → j ≠ 25 → j ≠ 26 → u' 74 j = u 74 j) ∧ u' 74 26 = nI (i + 1) ∧ RS u' (nxE (smE x (q, w)))) := by
    intro er
    unfold gX11_readStatement_371 gX11_readStatement_376 gX11_readStatement_396
    have f24 : stm u 74 25 1 74 24 = nI q := (stm_s (by decide)).trans e24
    rw [gd_t (Or.inr rfl), letv_eq, stm_r, if_neg (by decide), f24, letv_eq, letv_eq, Int32.add_zero, show stm (stm u 74 25 1) 74 24 (nI q) 74 26 = nI i from ((stm_s (by decide)).trans (stm_s (by decide))).trans h26, nI_s (by omega), er]
    exact ok_some.mpr ⟨fun c hc => (stm_c hc).trans ((stm_c hc).trans (stm_c hc)), fun j a b c => (stm_s c).trans ((stm_s a).trans (stm_s b)), stm_r, (stm_s (by decide)).trans stm_r, (stm_s (by decide)).trans ((stm_s (by decide)).trans stm_r)⟩
  unfold gX11_readStatement_354
  cases w with
  | false =>
    rw [if_neg (show ¬ u 74 25 = 0 from fun e => by rw [show u 74 25 = 1 from hS.2] at e; exact absurd e (by decide))]
    exact no rfl
  | true =>
    have hq' : q < 900 := hq
    rw [if_pos (show u 74 25 = 0 from hS.2), here_M h (by omega) e24, Option.bind_some]
    have es : smE x (q, true) = (q, decide (x q = 59)) := rfl
    refine ok_if (fun c => ?_) (fun c => no ?_)
    · have er : nxE (smE x (q, true)) = (q + 1, true) := by
        rw [es, decide_eq_true c]
        rfl
      unfold gX11_readStatement_376 gX11_readStatement_396
      have f24 : stm u 74 25 0 74 24 = nI q := (stm_s (by decide)).trans e24
      rw [gd_t (Or.inl rfl), letv_eq, stm_r, if_pos rfl, f24, letv_eq, letv_eq, nI_s (by omega), show stm (stm u 74 25 0) 74 24 (nI (q + 1)) 74 26 = nI i from ((stm_s (by decide)).trans (stm_s (by decide))).trans h26, nI_s (by omega), er]
      exact ok_some.mpr ⟨fun c hc => (stm_c hc).trans ((stm_c hc).trans (stm_c hc)), fun j a b c => (stm_s c).trans ((stm_s a).trans (stm_s b)), stm_r, (stm_s (by decide)).trans stm_r, (stm_s (by decide)).trans ((stm_s (by decide)).trans stm_r)⟩
    · rw [es, decide_eq_false c]
      rfl
