/-! The letters told: a statement read by the reference. -/
/-- the sign of the wind's AHEAD -/
def sgE (x : Nat → Int32) (e : Nat × Bool) : Nat × Bool := if e.2 = true then (if x e.1 = 43 ∨ x e.1 = 45 then (e.1 + 1, true) else (e.1, false)) else e
theorem signed_M {u : Mm} {x : Nat → Int32} {n : Nat} {e : Nat × Bool} (h : LtM u x n) (hS : RS u e) (hq : e.1 < 800) : Ok (gX11_readSigned u) (fun q => FrD u q.2 ∧ RS q.2 (rdD x 1 (sgE x e)) ∧ ((rdD x 1 (sgE x e)).2 = true → q.1 = if x e.1 = 45 then -numI x (e.1 + 1) 1 else numI x (e.1 + 1) 1)) := by
  obtain ⟨q, w⟩ := e
  change q < 800 at hq
  have e24 : u 74 24 = nI q := hS.1
  unfold gX11_readSigned gX11_readSigned_b
  rw [here_M h (by omega) e24, Option.bind_some]
  have go : ∀ s0 : Int32, ∀ q' : Nat, ∀ w' : Bool, (s0 = 0 ∨ s0 = 1) → (s0 = if w' = true then 0 else 1) → q' = q + (if w' = true then 1 else 0) → sgE x (q, w) = (q', w') → Ok (gX11_readSigned_30 (x q) s0 u) (fun q_1 => FrD u q_1.2 ∧ RS q_1.2 (rdD x 1 (sgE x (q, w))) ∧ ((rdD x 1 (sgE x (q, w))).2 = true → q_1.1 = if x q = 45 then -numI x (q + 1) 1 else numI x (q + 1) 1)) := by
    intro s0 q' w' h01 hs0 hq' es
    unfold gX11_readSigned_30
    have f24 : stm u 74 25 s0 74 24 = nI q := (stm_s (by decide)).trans e24
    have fin : ∀ z : Int32, nI q + z = nI q' → Ok (gX11_readSigned_50 (x q) z (nI q) (stm u 74 25 s0)) (fun q_1 => FrD u q_1.2 ∧ RS q_1.2 (rdD x 1 (sgE x (q, w))) ∧ ((rdD x 1 (sgE x (q, w))).2 = true → q_1.1 = if x q = 45 then -numI x (q + 1) 1 else numI x (q + 1) 1)) := by
      intro z hz
      unfold gX11_readSigned_50
      rw [letv_eq, hz, ok_bI]
      have hL : LtM (stm (stm u 74 25 s0) 74 24 (nI q')) x n := h.fr ((stm_s (by decide)).trans (stm_s (by decide))) ((stm_c (by decide)).trans (stm_c (by decide)))
      have hS' : RS (stm (stm u 74 25 s0) 74 24 (nI q')) (q', w') := ⟨stm_r, (stm_s (by decide)).trans (stm_r.trans hs0)⟩
      refine (readD (m := 1) hL hS' (by show q' < 900; rw [hq']; split <;> omega) (by decide)).mono ?_
      rintro ⟨r, v⟩ ⟨k1, k2, k3⟩
      change FrD _ v at k1
      change RS v _ at k2
      change _ → r = _ at k3
      have kf : FrD u v := (show FrD u (stm (stm u 74 25 s0) 74 24 (nI q')) from ⟨fun c hc => (stm_c hc).trans (stm_c hc), fun i a b => (stm_s a).trans (stm_s b)⟩).tr k1
      rw [es]
      have val : (rdD x 1 (q', w')).2 = true → r = numI x (q + 1) 1 := by
        intro hh
        have := (rdD_t hh).1
        have hw : w' = true := this
        rw [k3 hh]
        show numI x q' 1 = _
        rw [hq', if_pos hw]
      show Ok (if x q = 45 then some (-r, v) else some (r, v)) _
      refine ok_if (fun c => ok_some.mpr ⟨kf, k2, fun hh => ?_⟩) (fun c => ok_some.mpr ⟨kf, k2, fun hh => ?_⟩)
      · rw [if_pos c]
        show -r = _
        rw [val hh]
      · rw [if_neg c]
        exact val hh
    rw [gd_t h01, letv_eq, stm_r, f24]
    cases w' with
    | true =>
      rw [if_pos (show s0 = 0 from hs0)]
      exact fin 1 (by rw [nI_s (by omega), hq']; rfl)
    | false =>
      rw [if_neg (by rw [hs0]; decide)]
      exact fin 0 (by rw [Int32.add_zero, hq']; rfl)
  unfold gX11_readSigned_25 gX11_readSigned_29
  cases w with
  | false =>
    rw [if_neg (show ¬ u 74 25 = 0 from fun e => by rw [show u 74 25 = 1 from hS.2] at e; exact absurd e (by decide))]
    exact go 1 q false (Or.inr rfl) rfl rfl rfl
  | true =>
    have hs : sgE x (q, true) = if x q = 43 ∨ x q = 45 then (q + 1, true) else (q, false) := rfl
    rw [if_pos (show u 74 25 = 0 from hS.2)]
    refine ok_if (fun c => ?_) (fun c => ok_if (fun d => ?_) (fun d => ?_))
    · exact go 0 (q + 1) true (Or.inl rfl) rfl rfl (by rw [hs, if_pos (Or.inl c)])
    · exact go 0 (q + 1) true (Or.inl rfl) rfl rfl (by rw [hs, if_pos (Or.inr d)])
    · exact go 1 q false (Or.inr rfl) rfl rfl (by rw [hs, if_neg (fun e => e.elim c d)])
/-- acts -/
def FrA (i : Nat) (u u' : Mm) : Prop := (∀ c, c ≠ 74 → c ≠ 88 → c ≠ 89 → u' c = u c) ∧ (∀ j, j ≠ 24 → j ≠ 25 → u' 74 j = u 74 j) ∧ (∀ s, (s < 9 * i ∨ 9 * i + 9 ≤ s) → u' 88 s = u 88 s) ∧ ∀ j, j ≠ i → u' 89 j = u 89 j
/-- one ACT at least, nine at most: the reference's state behind them -/
def acE (x : Nat → Int32) (e : Nat × Bool) : Nat × Bool := if e.2 = true then (e.1 + dg x 9 e.1, decide (1 ≤ dg x 9 e.1)) else e
theorem i9_k {i k : Nat} (hi : i < 49) (hk : k < 9) : 9 * nI i + nI k = nI (9 * i + k) := by
  rw [show (9 : Int32) = nI 9 from rfl, nI_m (by omega) (by omega) (by omega), nI_a (by omega)]
theorem acts_M {u : Mm} {x : Nat → Int32} {n i : Nat} {e : Nat × Bool} (h : LtM u x n) (hS : RS u e) (hq : e.1 < 800) (hi : i < 49) : Ok (gX11_readActs (nI i) u) (fun v => FrA i u v ∧ RS v (acE x e) ∧ ((acE x e).2 = true → v 89 i = nI (dg x 9 e.1) ∧ ∀ k, k < dg x 9 e.1 → v 88 (9 * i + k) = numI x (e.1 + k) 1)) := by
  obtain ⟨q, w⟩ := e
  change q < 800 at hq
  unfold gX11_readActs gX11_readActs_b
  -- the end
  have fin : ∀ (k : Nat) (v : Mm), FrA i u v → RS v (acE x (q, w)) → ((acE x (q, w)).2 = true → k = dg x 9 q ∧ ∀ j, j < k → v 88 (9 * i + j) = numI x (q + j) 1) → Ok (gX11_readActs_58 (nI i) (nI k) v) (fun v => FrA i u v ∧ RS v (acE x (q, w)) ∧ ((acE x (q, w)).2 = true → v 89 i = nI (dg x 9 q) ∧ ∀ k, k < dg x 9 q → v 88 (9 * i + k) = numI x (q + k) 1)) := by
    intro k v k1 k2 k3
    unfold gX11_readActs_58
    rw [gd_t (ix_nI hi (by decide)), letv_eq, ixn_nI (by omega)]
    refine ok_some.mpr ⟨⟨fun c a b c2 => (stm_c c2).trans (k1.1 c a b c2), fun j a b => k1.2.1 j a b, fun s hs => k1.2.2.1 s hs, fun j hj => (stm_s hj).trans (k1.2.2.2 j hj)⟩, k2, fun hh => ?_⟩
    obtain ⟨d1, d2⟩ := k3 hh
    refine ⟨?_, fun j hj => d2 j (by omega)⟩
    show stm v 89 i (nI k) 89 i = _
    rw [stm_r, d1]
  -- one more
  have more : ∀ (k : Nat) (v : Mm) (g : Int32 → Mm → Option Mm), k < 9 → FrA i u v → RS v (rdD x k (q, w)) → ((rdD x k (q, w)).2 = true → ∀ j, j < k → v 88 (9 * i + j) = numI x (q + j) 1) → (∀ v', FrA i u v' → RS v' (rdD x (k + 1) (q, w)) → ((rdD x (k + 1) (q, w)).2 = true → ∀ j, j < k + 1 → v' 88 (9 * i + j) = numI x (q + j) 1) → Ok (g (nI (k + 1)) v') (fun v => FrA i u v ∧ RS v (acE x (q, w)) ∧ ((acE x (q, w)).2 = true → v 89 i = nI (dg x 9 q) ∧ ∀ k, k < dg x 9 q → v 88 (9 * i + k) = numI x (q + k) 1))) → Ok (gX11_readActs_36 (fun a b => g a b) (nI i) (nI k) v) (fun v => FrA i u v ∧ RS v (acE x (q, w)) ∧ ((acE x (q, w)).2 = true → v 89 i = nI (dg x 9 q) ∧ ∀ k, k < dg x 9 q → v 88 (9 * i + k) = numI x (q + k) 1)) := by
    intro k v g hk k1 k2 k3 hg
    unfold gX11_readActs_36
    rw [i9_k hi hk]
    have hL : LtM v x n := h.fr (k1.2.1 23 (by decide) (by decide)) (k1.1 85 (by decide) (by decide) (by decide))
    have hb : (rdD x k (q, w)).1 < 900 := by
      have := dg_le x k q
      cases w with
      | false => show q < 900; omega
      | true => show q + dg x k q < 900; omega
    refine rdst (m := 1) (k := 9 * i + k) hL k2 hb (by decide) (by omega) (fun v' f1 f2 f3 f4 => ?_)
    rw [letv_eq, nI_s (by omega)]
    rw [rdD_add] at f3 f4
    refine hg v' ⟨fun c a b d => (f1.1 c a b).trans (k1.1 c a b d), fun j a b => (f1.2.1 j a b).trans (k1.2.1 j a b), fun s hs => (f1.2.2 s (by omega)).trans (k1.2.2.1 s hs), fun j hj => ?_⟩ f3 (fun hh j hj => ?_)
    · rw [f1.1 89 (by decide) (by decide)]
      exact k1.2.2.2 j hj
    · have hh0 : (rdD x 1 (rdD x k (q, w))).2 = true := by rw [rdD_add]; exact hh
      obtain ⟨g1, g2, g3⟩ := rdD_t hh0
      obtain ⟨g4, g5, g6⟩ := rdD_t g1
      by_cases ej : j = k
      · rw [ej, f4 hh, g6]
      · rw [f1.2.2 _ (by omega)]
        exact k3 g1 j (by omega)
  refine loopS (fun n (s : Int32 × Mm) => gX11_readActs_2_L (nI i) n s.1 s.2) (fun g s => gX11_readActs_2_Ls (nI i) (fun a b => g (a, b)) s.1 s.2) (fun _ _ => rfl) _
    (fun k s => s.1 = nI k ∧ FrA i u s.2 ∧ RS s.2 (rdD x k (q, w)) ∧ ((rdD x k (q, w)).2 = true → ∀ j, j < k → s.2 88 (9 * i + j) = numI x (q + j) 1) ∧ (w = true → dg x k q = k ∨ dg x 9 q = 0)) 9 ?_ ?_ 9 0 FU (0, u) rfl (by decide) ⟨rfl, ⟨fun _ _ _ _ => rfl, fun _ _ _ => rfl, fun _ _ => rfl, fun _ _ => rfl⟩, ?_, fun _ j h => absurd h (Nat.not_lt_zero _), fun _ => Or.inl rfl⟩
  · rintro k ⟨x1, v⟩ g hk ⟨e0, k1, k2, k3, k4⟩ hg
    change x1 = nI k at e0
    subst e0
    change FrA i u v at k1
    change RS v (rdD x k (q, w)) at k2
    change _ → ∀ j, j < k → v 88 (9 * i + j) = _ at k3
    show Ok (gX11_readActs_2_Ls (nI i) (fun a b => g (a, b)) (nI k) v) _
    have hL : LtM v x n := h.fr (k1.2.1 23 (by decide) (by decide)) (k1.1 85 (by decide) (by decide) (by decide))
    have go := fun (k5 : w = true → dg x (k + 1) q = k + 1 ∨ dg x 9 q = 0) => more k v (fun a b => g (a, b)) hk k1 k2 k3 (fun v' f1 f2 f3 => hg (nI (k + 1), v') ⟨rfl, f1, f2, f3, k5⟩)
    unfold gX11_readActs_2_Ls
    cases w with
    | false =>
      rw [if_neg (show ¬ v 74 25 = 0 from fun e => by rw [show v 74 25 = 1 from k2.2] at e; exact absurd e (by decide))]
      exact fin k v k1 k2 (fun hh => absurd hh (show ¬ (false = true) by decide))
    | true =>
      have lk := dg_le x k q
      have e1 : rdD x k (q, true) = (q + dg x k q, decide (dg x k q = k)) := rfl
      have ea : acE x (q, true) = (q + dg x 9 q, decide (1 ≤ dg x 9 q)) := rfl
      by_cases c : dg x k q = k
      · rw [e1, c, decide_eq_true rfl] at k2 k3
        rw [if_pos (show v 74 25 = 0 from k2.2), if_pos (show nI k < 9 by rw [show (9 : Int32) = nI 9 from rfl, lt_nn (by omega) (by omega)]; exact hk)]
        by_cases k0 : k = 0
        · rw [if_pos (show nI k = 0 by rw [k0]; rfl)]
          refine go (fun _ => ?_)
          subst k0
          by_cases d : dgB (x q) = true
          · exact Or.inl (by rw [dg_succ, if_pos c, if_pos (show dgB (x (q + 0)) = true from d)])
          · exact Or.inr (dg_eq x 9 q 0 (by decide) (fun j h => absurd h (Nat.not_lt_zero _)) (Or.inr d))
        · rw [if_neg (show ¬ nI k = 0 from fun e => k0 (by have := congrArg Int32.toInt e; rw [t_nI (by omega), i0] at this; omega)), here_M hL (show q + k < 1000 by omega) k2.1, Option.bind_some, dig_M, Option.bind_some]
          by_cases d : dgB (x (q + k)) = true
          · rw [if_pos d, if_neg (by decide)]
            exact go (fun _ => Or.inl (by rw [dg_succ, if_pos c, if_pos d]))
          · rw [if_neg d, if_pos rfl]
            have e9 : dg x 9 q = k := dg_eq x 9 q k (by omega) (fun j hj => dg_all x k q j (by omega)) (Or.inr d)
            refine fin k v k1 ?_ (fun hh => ⟨e9.symm, k3 rfl⟩)
            rw [ea, e9, decide_eq_true (show 1 ≤ k by omega)]
            exact k2
      · rw [e1, decide_eq_false c] at k2
        rw [if_neg (show ¬ v 74 25 = 0 from fun e => by rw [show v 74 25 = 1 from k2.2] at e; exact absurd e (by decide))]
        have e9 : dg x 9 q = dg x k q := by
          have := dg_add_n x (a := k) (b := 9 - k) (q := q) (by omega)
          rwa [show k + (9 - k) = 9 by omega] at this
        have z : dg x k q = 0 := by
          rcases k4 rfl with h | h
          · exact absurd h c
          · omega
        refine fin k v k1 ?_ (fun hh => ?_)
        · rw [ea, e9, z, decide_eq_false (by decide)]
          rw [z] at k2
          exact k2
        · rw [ea, e9, z, decide_eq_false (by decide)] at hh
          exact absurd hh (show ¬ (false = true) by decide)
  · rintro ⟨x1, v⟩ g ⟨e0, k1, k2, k3, k4⟩
    change x1 = nI 9 at e0
    subst e0
    change FrA i u v at k1
    change RS v (rdD x 9 (q, w)) at k2
    change _ → ∀ j, j < 9 → v 88 (9 * i + j) = _ at k3
    show Ok (gX11_readActs_2_Ls (nI i) (fun a b => g (a, b)) (nI 9) v) _
    unfold gX11_readActs_2_Ls
    cases w with
    | false =>
      rw [if_neg (show ¬ v 74 25 = 0 from fun e => by rw [show v 74 25 = 1 from k2.2] at e; exact absurd e (by decide))]
      exact fin 9 v k1 k2 (fun hh => absurd hh (show ¬ (false = true) by decide))
    | true =>
      have e1 : rdD x 9 (q, true) = (q + dg x 9 q, decide (dg x 9 q = 9)) := rfl
      have ea : acE x (q, true) = (q + dg x 9 q, decide (1 ≤ dg x 9 q)) := rfl
      rcases k4 rfl with c | c
      · rw [e1, c, decide_eq_true rfl] at k2 k3
        rw [if_pos (show v 74 25 = 0 from k2.2), if_neg (by decide)]
        refine fin 9 v k1 ?_ (fun hh => ⟨c.symm, k3 rfl⟩)
        rw [ea, c, decide_eq_true (by decide)]
        exact k2
      · rw [e1, c, decide_eq_false (by decide)] at k2
        rw [if_neg (show ¬ v 74 25 = 0 from fun e => by rw [show v 74 25 = 1 from k2.2] at e; exact absurd e (by decide))]
        refine fin 9 v k1 ?_ (fun hh => ?_)
        · rw [ea, c, decide_eq_false (by decide)]
          exact k2
        · rw [ea, c, decide_eq_false (by decide)] at hh
          exact absurd hh (show ¬ (false = true) by decide)
  · cases w with
    | false => exact hS
    | true => exact hS
