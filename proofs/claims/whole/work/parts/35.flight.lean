/-! A flight as a row of its own: 0..8 as in FlyTo, 9..14 the WORK under way. -/
def stW (f : Nat → Int32) (t : Nat) : Int32 := wArr (fun j => f (9 + j)) (ixn (f 6)) t
def stR (f : Nat → Int32) (t : Nat) : Int32 := riseS (heatS (f 3) (stW f t)) (f 5)
def stH (f : Nat → Int32) (t : Nat) : Int32 := hgtS (f 0) (stR f t)
def stp (sd ah : Nat → Int32) (t : Nat) (f : Nat → Int32) : Nat → Int32
  | 0 => stH f t
  | 1 => movS (stH f t) (f 1) (sd (ixn (stH f t / 5)))
  | 2 => movS (stH f t) (f 2) (ah (ixn (stH f t / 5)))
  | 3 => heatS (f 3) (stW f t)
  | 4 => if nI t = 1 then f 4 - 1 else f 4
  | 5 => f 5
  | 6 => f 6
  | 7 => f 7 + 1
  | 8 => pacS (f 0) (stH f t) (stR f t)
  | j + 9 => shW (fun j => f (9 + j)) (ixn (f 6)) t j
theorem stp_FlyTo (sd ah : Nat → Int32) (t : Nat) (f : Nat → Int32) : FlyTo f (stp sd ah t f) sd ah (nI t) (stW f t) := ⟨rfl, rfl, rfl, rfl, rfl, rfl, rfl, rfl, rfl⟩
theorem stp_w (sd ah : Nat → Int32) (t : Nat) (f : Nat → Int32) (j : Nat) : stp sd ah t f (9 + j) = shW (fun j => f (9 + j)) (ixn (f 6)) t j := by
  rw [Nat.add_comm 9 j]
  rfl
/-- a row of the class and of the reference that stand for a flight -/
def CF (a f : Nat → Int32) : Prop := (∀ i, i < 9 → a i = f i) ∧ UW (a 9) (a 6) (fun j => f (9 + j))
def MF (u : Mm) (f : Nat → Int32) : Prop := (∀ i, i < 8 → u 74 (i + 2) = f i) ∧ ∀ j, j < 6 → u 77 j = f (9 + j)
def VF (f : Nat → Int32) : Prop := FB f ∧ ∃ a, UW a (f 6) (fun j => f (9 + j))
/-- nothing but the slots l of 74 and row 77 has changed -/
def Fm (l : List Nat) (u u' : Mm) : Prop := (∀ c, c ≠ 74 → c ≠ 77 → u' c = u c) ∧ ∀ i, i ∉ l → u' 74 i = u 74 i
theorem Fm.rf (l : List Nat) (u : Mm) : Fm l u u := ⟨fun _ _ _ => rfl, fun _ _ => rfl⟩
theorem Fm.tr {l : List Nat} {u v w : Mm} (h1 : Fm l u v) (h2 : Fm l v w) : Fm l u w := ⟨fun c a b => (h2.1 c a b).trans (h1.1 c a b), fun i hi => (h2.2 i hi).trans (h1.2 i hi)⟩
theorem Fm.mono {l l' : List Nat} {u v : Mm} (h : Fm l u v) (hl : ∀ i, i ∈ l → i ∈ l') : Fm l' u v := ⟨h.1, fun i hi => h.2 i (fun e => hi (hl i e))⟩
theorem Fm.st {l : List Nat} {u : Mm} {i : Nat} {v : Int32} (hi : i ∈ l) : Fm l u (stm u 74 i v) := ⟨fun _ a _ => stm_c a, fun j hj => stm_s (fun e => hj (by rw [e]; exact hi))⟩
def lS : List Nat := [2, 3, 4, 5, 6, 9, 21]
def lA : List Nat := [2, 3, 4, 5, 6, 7, 8, 9, 34, 35, 36]
def lP : List Nat := [2, 3, 4, 5, 6, 7, 8, 9, 21, 34, 35, 36, 41, 42, 43]
theorem lag_ex {f : Nat → Int32} (hF : FB f) : ∃ L, L < 6 ∧ f 6 = nI L ∧ ixn (f 6) = L := by
  obtain ⟨L, eL, hL, iL⟩ := nI_ex hF.2.2.2.2.2.2.1
  have h2 := hF.2.2.2.2.2.2.2
  exact ⟨L, by omega, eL, by rw [eL, ixn_nI hL]⟩
theorem FlyTo_air {a a' sd ah sd' ah' : Nat → Int32} {v w : Int32} (h : FlyTo a a' sd ah v w) (hs : ∀ i, i < 8 → sd i = sd' i) (ha : ∀ i, i < 8 → ah i = ah' i) : FlyTo a a' sd' ah' v w := by
  obtain ⟨p0, p1, p2, p3, p4, p5, p6, p7, p8⟩ := h
  obtain ⟨l, hl, he⟩ := lay_ex (h := a' 0) (by rw [p0]; exact bd39)
  refine ⟨p0, ?_, ?_, p3, p4, p5, p6, p7, p8⟩
  · rw [p1, he, ixn_nI (by omega), hs l hl]
  · rw [p2, he, ixn_nI (by omega), ha l hl]
theorem shW_cg {w w' : Nat → Int32} {L t : Nat} (hL : L < 6) (h : ∀ j, j < 6 → w j = w' j) : ∀ j, j < 6 → shW w L t j = shW w' L t j := by
  intro j hj
  unfold shW
  by_cases c1 : j < L
  · rw [if_pos c1, if_pos c1, h (j + 1) (by omega)]
  · rw [if_neg c1, if_neg c1, h j hj]
theorem cfly {k0 k2 t : Nat} {u : Mm} {f sd ah : Nat → Int32} (n1 : k2 + 1 ≠ k0) (n2 : k2 + 2 ≠ k0) (ht : t < 3) (hC : CF (u k0) f) (hF : FB f) (hs : ∀ i, i < 8 → u (k2 + 1) i = sd i) (ha : ∀ i, i < 8 → u (k2 + 2) i = ah i) :
    Ok (gX2_fly k0 (nI t) k2 u) (fun u' => (∀ c, c ≠ k0 → u' c = u c) ∧ CF (u' k0) (stp sd ah t f)) := by
  obtain ⟨hC1, hC2⟩ := hC
  obtain ⟨L, hL, eL, xL⟩ := lag_ex hF
  have e6 : u k0 6 = nI L := by rw [hC1 6 (by decide)]; exact eL
  refine (fly_ok k0 k2 t L u (fun j => f (9 + j)) n1 n2 ht hL e6 hC2).mono ?_
  rintro u' ⟨g1, g2, g3⟩
  have g4 := FlyTo_air g2 hs ha
  have hw : wArr (fun j => f (9 + j)) L t = stW f t := by unfold stW; rw [xL]
  rw [hw] at g4
  refine ⟨g1, fun i hi => FlTo_rel (fun i hi => hC1 i (by omega)) g4 (stp_FlyTo sd ah t f) i hi, UW_cg (fun j hj => ?_) g3⟩
  rw [stp_w, xL]
theorem mstep {t : Nat} {u : Mm} {f sd ah : Nat → Int32} (ht : t < 3) (hM : MF u f) (hF : FB f) (hs : ∀ i, i < 8 → u 75 i = sd i) (ha : ∀ i, i < 8 → u 76 i = ah i) :
    Ok (gX11_stepOn (nI t) u) (fun u' => Fm lS u u' ∧ MF u' (stp sd ah t f) ∧ u' 74 21 = stp sd ah t f 8) := by
  obtain ⟨hM1, hM2⟩ := hM
  obtain ⟨L, hL, eL, xL⟩ := lag_ex hF
  have e8 : u 74 8 = nI L := by rw [hM1 6 (by decide)]; exact eL
  refine (stepOn_ok t L u ht hL e8).mono ?_
  rintro u' ⟨g1, g2, g3, g4⟩
  have g5 := FlyTo_air g3 hs ha
  have hw : wArr (u 77) L t = stW f t := by
    unfold stW wArr
    rw [xL, hM2 0 (by decide)]
  rw [hw] at g5
  have g6 := FlTo_rel (fun i hi => hM1 i hi) g5 (stp_FlyTo sd ah t f)
  refine ⟨⟨g1, fun i hi => g2 i (fun e => hi (by subst e; decide)) (fun e => hi (by subst e; decide)) (fun e => hi (by subst e; decide)) (fun e => hi (by subst e; decide)) (fun e => hi (by subst e; decide)) (fun e => hi (by subst e; decide)) (fun e => hi (by subst e; decide))⟩, ⟨fun i hi => ?_, fun j hj => ?_⟩, g6 8 (by decide)⟩
  · have h := g6 i (by omega)
    have e : (if i = 8 then u' 74 21 else u' 74 (i + 2)) = u' 74 (i + 2) := if_neg (by omega)
    exact e.symm.trans h
  · rw [g4 j hj, stp_w, xL]
    exact shW_cg hL hM2 j hj
theorem VF_stp {sd ah f : Nat → Int32} {t : Nat} (h : VF f) (ht : t < 3) (hg : t = 1 → 0 < (f 4).toInt) : VF (stp sd ah t f) := by
  obtain ⟨hF, a, n, ea, hn, hd⟩ := h
  obtain ⟨L, hL, eL, xL⟩ := lag_ex hF
  refine ⟨FlTo_FB hF (stp_FlyTo sd ah t f) (fun e => hg ?_), ?_⟩
  · have := congrArg Int32.toInt e
    rw [t_nI (by omega), i1] at this
    omega
  · rw [eL, t_nI (by omega), Int.toNat_natCast] at hn
    have h6 : stp sd ah t f 6 = nI L := eL
    rw [h6]
    exact ⟨_, UW_cg (fun j hj => by rw [stp_w, xL]) (UW_step hL hn ht hd).2⟩
/-! HOLD. -/
def psm (f : Nat → Int32) : Nat → Int32
  | 0 => 0
  | n + 1 => psm f n + f (9 + n)
def hact (f : Nat → Int32) : Nat := if f 3 + psm f 6 < 12 + 2 * f 5 then (if 0 < f 4 then 1 else 0) else 0
theorem hact_3 (f : Nat → Int32) : hact f < 3 := by
  unfold hact
  split
  · split <;> decide
  · decide
theorem hact_g {f : Nat → Int32} (h : hact f = 1) : 0 < (f 4).toInt := by
  unfold hact at h
  split at h
  · split at h
    · rename_i h1 h2
      rw [t_lt, i0] at h2
      exact h2
    · cases h
  · cases h
theorem wuw_eq (u : Mm) : gX11_workUnderWay u = some (0 + u 77 0 + u 77 1 + u 77 2 + u 77 3 + u 77 4 + u 77 5) := rfl
theorem shr_andA : ∀ i : Nat, i < 6 → ∀ a : Nat, a < 32 → ∀ b : Nat, b < 32 → (shr (nI (32 * a + b)) (2 * nI i) &&& 3) = nI ((32 * a + b) / 4 ^ i % 4) := by decide +kernel
theorem shr_and {i n : Nat} (hi : i < 6) (hn : n < 1024) : (shr (nI n) (2 * nI i) &&& 3) = nI (n / 4 ^ i % 4) := by
  have := shr_andA i hi (n / 32) (by omega) (n % 32) (by omega)
  rwa [Nat.div_add_mod] at this
theorem hold_loop {k0 n L : Nat} {u : Mm} {f : Nat → Int32} (e6 : u k0 6 = nI L) (e9 : u k0 9 = nI n) (hL : L < 6) (hn : n < 1024) (hd : ∀ j, j < 6 → n / 4 ^ j % 4 < 3 ∧ f (9 + j) = wkN (n / 4 ^ j % 4)) :
    ∀ (d j fuel : Nat), j + d = L → d < fuel → gX2_holdAct_4_L k0 u fuel (psm f j) (nI j) = gX2_holdAct_4_L k0 u (fuel - d) (psm f L) (nI L) := by
  intro d
  induction d with
  | zero =>
    intro j fuel hj hf
    obtain rfl : j = L := by omega
    rfl
  | succ d ih =>
    intro j fuel hj hf
    obtain ⟨g, rfl⟩ : ∃ g, fuel = g + 1 := ⟨fuel - 1, by omega⟩
    rw [show g + 1 - (d + 1) = g - d by omega, ← ih (j + 1) g (by omega) (by omega)]
    show gX2_holdAct_4_Ls k0 u (gX2_holdAct_4_L k0 u g) (psm f j) (nI j) = _
    unfold gX2_holdAct_4_Ls
    rw [if_pos (by rw [e6, lt_nn (by omega) (by omega)]; omega), e9, shr_and (by omega) hn, workOf_eq, wkI_N _ (Nat.mod_lt _ (by decide)), Option.bind_some, letv_eq, letv_eq, nI_s (by omega), ← (hd j (by omega)).2]
    rfl
theorem psm_z {f : Nat → Int32} {L : Nat} (h : ∀ j, L ≤ j → j < 6 → f (9 + j) = 0) : ∀ d, L + d ≤ 6 → psm f (L + d) = psm f L := by
  intro d
  induction d with
  | zero => intro _; rfl
  | succ d ih =>
    intro hd
    show psm f (L + d) + f (9 + (L + d)) = _
    rw [ih (by omega), h (L + d) (by omega) (by omega), Int32.add_zero]
theorem UW_z {a : Int32} {L : Nat} {w : Nat → Int32} (hL : L < 6) (h : UW a (nI L) w) : ∃ n, a = nI n ∧ n < 4 ^ L ∧ n < 1024 ∧ (∀ j, j < 6 → n / 4 ^ j % 4 < 3 ∧ w j = wkN (n / 4 ^ j % 4)) ∧ ∀ j, L ≤ j → j < 6 → w j = 0 := by
  obtain ⟨n, h1, h2, h3⟩ := h
  rw [t_nI (by omega), Int.toNat_natCast] at h2
  have h4 : n < 1024 := Nat.lt_of_lt_of_le h2 (show 4 ^ L ≤ 4 ^ 5 from Nat.pow_le_pow_right (by decide) (by omega))
  refine ⟨n, h1, h2, h4, h3, fun j hj h6 => ?_⟩
  rw [(h3 j h6).2, Nat.div_eq_of_lt (Nat.lt_of_lt_of_le h2 (Nat.pow_le_pow_right (by decide) hj))]
  rfl
theorem able1 (k0 : Nat) (u : Mm) : gX2_able k0 1 u = some (nI (if 0 < u k0 4 then 1 else 0)) := by
  unfold gX2_able gX2_able_b
  rw [if_pos rfl]
  split <;> rfl
theorem able0 (k0 : Nat) (u : Mm) : gX2_able k0 0 u = some 0 := by
  unfold gX2_able gX2_able_b
  rw [if_neg (by decide)]
theorem chold {k0 : Nat} {u : Mm} {f : Nat → Int32} (hC : CF (u k0) f) (hF : FB f) : gX2_holdAct k0 u = some (nI (hact f)) := by
  obtain ⟨hC1, hC2⟩ := hC
  obtain ⟨L, hL, eL, xL⟩ := lag_ex hF
  have e6 : u k0 6 = nI L := by rw [hC1 6 (by decide)]; exact eL
  rw [e6] at hC2
  obtain ⟨n, e9, -, hn, hd, hz⟩ := UW_z hL hC2
  unfold gX2_holdAct gX2_holdAct_b
  have h1 := hold_loop (f := f) e6 e9 hL hn hd L 0 FU (by omega) (by unfold FU; omega)
  have h2 : gX2_holdAct_4_L k0 u FU 0 0 = gX2_holdAct_4_L k0 u (FU - L) (psm f L) (nI L) := h1
  rw [h2, show FU - L = (3999 - L) + 1 by unfold FU; omega]
  show gX2_holdAct_4_Ls k0 u (gX2_holdAct_4_L k0 u (3999 - L)) (psm f L) (nI L) = _
  unfold gX2_holdAct_4_Ls gX2_balance gX2_balance_b gX2_holdAct_53 hact
  have h3 : psm f 6 = psm f L := by
    have := psm_z hz (6 - L) (by omega)
    rwa [show L + (6 - L) = 6 by omega] at this
  rw [if_neg (by rw [e6, lt_nn (by omega) (by omega)]; omega), Option.bind_some, able1, able0, hC1 3 (by decide), hC1 5 (by decide), hC1 4 (by decide), h3, Option.bind_some, Option.bind_some]
  split <;> rfl
theorem mhold {u : Mm} {f sd ah : Nat → Int32} (hM : MF u f) (hF : FB f) (hs : ∀ i, i < 8 → u 75 i = sd i) (ha : ∀ i, i < 8 → u 76 i = ah i) :
    Ok (gX11_holdOn u) (fun u' => Fm lS u u' ∧ MF u' (stp sd ah (hact f) f) ∧ u' 74 21 = stp sd ah (hact f) f 8) := by
  have key : ∀ t, t = hact f → Ok ((gX11_stepOn (nI t) u).bind fun u1 => some u1) (fun u' => Fm lS u u' ∧ MF u' (stp sd ah (hact f) f) ∧ u' 74 21 = stp sd ah (hact f) f 8) := by
    intro t ht
    rw [ok_bind, ← ht]
    exact (mstep (by rw [ht]; exact hact_3 f) hM hF hs ha).mono (fun u' h => ok_some.mpr h)
  unfold gX11_holdOn gX11_holdOn_b gX11_balance gX11_balance_b gX11_holdOn_28 gX11_holdOn_29
  have hp : (0 + u 77 0 + u 77 1 + u 77 2 + u 77 3 + u 77 4 + u 77 5 : Int32) = psm f 6 := by
    rw [hM.2 0 (by decide), hM.2 1 (by decide), hM.2 2 (by decide), hM.2 3 (by decide), hM.2 4 (by decide), hM.2 5 (by decide)]
    rfl
  have m3 := hM.1 3 (by decide)
  have m4 := hM.1 4 (by decide)
  have m5 := hM.1 5 (by decide)
  rw [wuw_eq, Option.bind_some, Option.bind_some, hp]
  show Ok (if u 74 5 + psm f 6 < 12 + 2 * u 74 7 then (if 0 < u 74 6 then _ else _) else _) _
  rw [m3, m4, m5]
  refine ok_if (fun h1 => ok_if (fun h2 => ?_) (fun h2 => ?_)) (fun h1 => ?_)
  · exact key 1 (by unfold hact; rw [if_pos h1, if_pos h2])
  · exact key 0 (by unfold hact; rw [if_pos h1, if_neg h2])
  · exact key 0 (by unfold hact; rw [if_neg h1])
/-! Loops by their step. -/
theorem loopS {S X : Type} (L : Nat → S → Option X) (Ls : (S → Option X) → S → Option X) (hL : ∀ n s, L (n + 1) s = Ls (L n) s) (P : X → Prop) (I : Nat → S → Prop) (N : Nat)
    (step : ∀ j s g, j < N → I j s → (∀ s', I (j + 1) s' → Ok (g s') P) → Ok (Ls g s) P) (ex : ∀ s g, I N s → Ok (Ls g s) P) :
    ∀ (d j fuel : Nat) (s : S), j + d = N → d < fuel → I j s → Ok (L fuel s) P := by
  intro d
  induction d with
  | zero =>
    intro j fuel s hj hf hi
    obtain ⟨f, rfl⟩ : ∃ f, fuel = f + 1 := ⟨fuel - 1, by omega⟩
    obtain rfl : j = N := by omega
    rw [hL]
    exact ex s _ hi
  | succ d ih =>
    intro j fuel s hj hf hi
    obtain ⟨f, rfl⟩ : ∃ f, fuel = f + 1 := ⟨fuel - 1, by omega⟩
    rw [hL]
    exact step j s _ (by omega) hi (fun s' h' => ih (j + 1) f s' (by omega) (by omega) h')
