/-! One step of flight, both sides. -/
def clampI (v m : Int32) : Int32 := if v < 0 then 0 else if m < v then m else v
theorem betw0 (v m : Int32) : gX10_between 0 v m = some (clampI v m) := by
  unfold gX10_between gX10_between_b clampI
  split
  · rfl
  · split <;> rfl
theorem held_eq (v m : Int32) : gX11_held v m = some (clampI v m) := by
  unfold gX11_held gX11_held_b clampI
  split
  · rfl
  · split <;> rfl
theorem clamp_bd {v m : Int32} (h : 0 ≤ m.toInt) : 0 ≤ (clampI v m).toInt ∧ (clampI v m).toInt ≤ m.toInt := by
  unfold clampI
  split
  · exact ⟨by decide, h⟩
  · rename_i h1
    rw [t_lt, i0] at h1
    split
    · exact ⟨h, Int.le_refl _⟩
    · rename_i h2
      rw [t_lt] at h2
      omega
def wkI (d : Int32) : Int32 := if d = 1 then 4 else if d = 2 then -5 else 0
theorem workOf_eq (d : Int32) : gX2_workOf d = some (wkI d) := by
  unfold gX2_workOf gX2_workOf_b wkI
  split
  · rfl
  · split <;> rfl
def heatS (h w : Int32) : Int32 := clampI ((h - 1) + w) 60
def riseS (ht p : Int32) : Int32 := (ht - (12 + 2 * p)) / 4
def hgtS (h r : Int32) : Int32 := clampI (h + r) 39
def pacS (h h' r : Int32) : Int32 := if 0 < h then if h' = 0 then -r else 0 else 0
theorem pacS_1 {h h' r : Int32} (a : 0 < h) (b : h' = 0) : pacS h h' r = -r := by unfold pacS; rw [if_pos a, if_pos b]
theorem pacS_2 {h h' r : Int32} (a : 0 < h) (b : ¬ h' = 0) : pacS h h' r = 0 := by unfold pacS; rw [if_pos a, if_neg b]
theorem pacS_3 {h h' r : Int32} (a : ¬ 0 < h) : pacS h h' r = 0 := by unfold pacS; rw [if_neg a]
def movS (h' x s : Int32) : Int32 := if 0 < h' then clampI (x + s) 999 else x
/-- the flight a becomes a' by one step, w being the WORK that comes -/
def FlyTo (a a' sd ah : Nat → Int32) (v w : Int32) : Prop :=
  a' 0 = hgtS (a 0) (riseS (heatS (a 3) w) (a 5)) ∧ a' 1 = movS (a' 0) (a 1) (sd (ixn (a' 0 / 5))) ∧ a' 2 = movS (a' 0) (a 2) (ah (ixn (a' 0 / 5))) ∧ a' 3 = heatS (a 3) w ∧ a' 4 = (if v = 1 then a 4 - 1 else a 4) ∧ a' 5 = a 5 ∧ a' 6 = a 6 ∧ a' 7 = a 7 + 1 ∧ a' 8 = pacS (a 0) (a' 0) (riseS (heatS (a 3) w) (a 5))
theorem lay5 : ∀ n : Nat, n < 40 → nI n / 5 = nI (n / 5) := by decide +kernel
theorem lay_ex {h : Int32} (h0 : 0 ≤ h.toInt ∧ h.toInt ≤ 39) : ∃ l, l < 8 ∧ h / 5 = nI l := by
  obtain ⟨n, rfl, hn, hi⟩ := nI_ex h0.1
  exact ⟨n / 5, by omega, lay5 n (by omega)⟩
theorem f119 (k0 k2 : Nat) (s : Int32) (u : Mm) (n1 : k2 + 1 ≠ k0) (n2 : k2 + 2 ≠ k0) (hh : 0 ≤ (u k0 0).toInt ∧ (u k0 0).toInt ≤ 39) :
    Ok (gX2_fly_119 k0 k2 s u) (fun u' => (∀ c, c ≠ k0 → u' c = u c) ∧ u' k0 0 = u k0 0 ∧ u' k0 1 = movS (u k0 0) (u k0 1) (u (k2 + 1) (ixn (u k0 0 / 5))) ∧ u' k0 2 = movS (u k0 0) (u k0 2) (u (k2 + 2) (ixn (u k0 0 / 5))) ∧ u' k0 3 = u k0 3 ∧ u' k0 4 = u k0 4 ∧ u' k0 5 = u k0 5 ∧ u' k0 6 = u k0 6 ∧ u' k0 7 = u k0 7 + 1 ∧ u' k0 8 = s ∧ u' k0 9 = u k0 9) := by
  have m1 : (k2 + 1 = k0) = False := eq_false n1
  have m2 : (k2 + 2 = k0) = False := eq_false n2
  by_cases h : 0 < u k0 0
  · obtain ⟨l, hl, he⟩ := lay_ex hh
    refine ⟨stm (stm (stm (stm u k0 8 s) k0 1 (clampI (u k0 1 + u (k2 + 1) l) 999)) k0 2 (clampI (u k0 2 + u (k2 + 2) l) 999)) k0 7 (u k0 7 + 1), ?_, ?_⟩
    · simp +decide only [gX2_fly_119, gX2_fly_119, gX2_fly_181, stm_d, ↓reduceIte, eq_self, letv_eq, eq_true h, he, side_eq hl, ahead_eq hl, Option.bind_some, betw0, m1, m2]
    · refine ⟨fun c hc => by rw [stm_c hc, stm_c hc, stm_c hc, stm_c hc], ?_⟩
      simp +decide only [stm_d, ↓reduceIte, eq_self, movS, eq_true h, he, ixn_nI (show l < 2147483648 by omega)]
  · refine ⟨stm (stm u k0 8 s) k0 7 (u k0 7 + 1), ?_, ?_⟩
    · simp +decide only [gX2_fly_119, gX2_fly_119, gX2_fly_181, stm_d, ↓reduceIte, eq_self, letv_eq, eq_false h]
    · refine ⟨fun c hc => by rw [stm_c hc, stm_c hc], ?_⟩
      simp +decide only [stm_d, ↓reduceIte, eq_self, movS, eq_false h]
theorem or_bits : ∀ L : Nat, L < 6 → ∀ n : Nat, n < 4 ^ L → ∀ t : Nat, t < 3 → (nI n ||| shl (nI t) (2 * nI L)) = nI (n + t * 4 ^ L) := by decide +kernel
theorem and_bitsA : ∀ a : Nat, a < 48 → ∀ b : Nat, b < 64 → (nI (64 * a + b) &&& 3) = nI ((64 * a + b) % 4) := by decide +kernel
theorem and_bits (n : Nat) (h : n < 3072) : (nI n &&& 3) = nI (n % 4) := by
  have := and_bitsA (n / 64) (by omega) (n % 64) (by omega)
  rwa [Nat.div_add_mod] at this
theorem shr_bitsA : ∀ a : Nat, a < 48 → ∀ b : Nat, b < 64 → shr (nI (64 * a + b)) 2 = nI ((64 * a + b) / 4) := by decide +kernel
theorem shr_bits (n : Nat) (h : n < 3072) : shr (nI n) 2 = nI (n / 4) := by
  have := shr_bitsA (n / 64) (by omega) (n % 64) (by omega)
  rwa [Nat.div_add_mod] at this
theorem wkI_N : ∀ t : Nat, t < 4 → wkI (nI t) = wkN t := by decide
/-- the WORK that comes, and the WORK under way after it -/
def wArr (w : Nat → Int32) (L t : Nat) : Int32 := if L = 0 then wkN t else w 0
def shW (w : Nat → Int32) (L t : Nat) : Nat → Int32 := fun j => if j < L then (if j + 1 = L then wkN t else w (j + 1)) else if j = L then 0 else w j
theorem pow6 {n L t : Nat} (hL : L < 6) (hn : n < 4 ^ L) (ht : t < 3) : n + t * 4 ^ L < 3072 := by
  have : L = 0 ∨ L = 1 ∨ L = 2 ∨ L = 3 ∨ L = 4 ∨ L = 5 := by omega
  rcases this with rfl | rfl | rfl | rfl | rfl | rfl <;> simp only [Nat.reducePow] at hn ⊢ <;> omega
theorem UW_step {n L t : Nat} {w : Nat → Int32} (hL : L < 6) (hn : n < 4 ^ L) (ht : t < 3) (hd : ∀ j, j < 6 → n / 4 ^ j % 4 < 3 ∧ w j = wkN (n / 4 ^ j % 4)) :
    wkN ((n + t * 4 ^ L) % 4) = wArr w L t ∧ UW (nI ((n + t * 4 ^ L) / 4)) (nI L) (shW w L t) := by
  have hc : L = 0 ∨ L = 1 ∨ L = 2 ∨ L = 3 ∨ L = 4 ∨ L = 5 := by omega
  have h0 := hd 0 (by decide)
  have h1 := hd 1 (by decide)
  have h2 := hd 2 (by decide)
  have h3 := hd 3 (by decide)
  have h4 := hd 4 (by decide)
  have h5 := hd 5 (by decide)
  constructor
  · rcases hc with rfl | rfl | rfl | rfl | rfl | rfl <;> simp +decide only [wArr, Nat.reducePow, ↓reduceIte] at hn h0 ⊢
    · rw [show (n + t * 1) % 4 = t by omega]
    all_goals rw [h0.2]; congr 1; omega
  · refine ⟨(n + t * 4 ^ L) / 4, rfl, ?_, ?_⟩
    · rw [t_nI (by omega)]
      rcases hc with rfl | rfl | rfl | rfl | rfl | rfl <;> simp only [Nat.reducePow, Int.toNat_natCast] at hn ⊢ <;> omega
    · intro j hj
      have hj' : j = 0 ∨ j = 1 ∨ j = 2 ∨ j = 3 ∨ j = 4 ∨ j = 5 := by omega
      rcases hc with rfl | rfl | rfl | rfl | rfl | rfl <;> rcases hj' with rfl | rfl | rfl | rfl | rfl | rfl <;>
        simp +decide only [shW, Nat.reducePow, ↓reduceIte, Nat.reduceAdd] at hn h0 h1 h2 h3 h4 h5 ⊢ <;>
        (refine ⟨by omega, ?_⟩) <;>
        first
          | (rw [h0.2]; congr 1; omega)
          | (rw [h1.2]; congr 1; omega)
          | (rw [h2.2]; congr 1; omega)
          | (rw [h3.2]; congr 1; omega)
          | (rw [h4.2]; congr 1; omega)
          | (rw [h5.2]; congr 1; omega)
          | (congr 1; omega)
          | (exact (congrArg wkN (show _ = 0 by omega)).symm)
theorem bd39 {h r : Int32} : 0 ≤ (hgtS h r).toInt ∧ (hgtS h r).toInt ≤ 39 := clamp_bd (m := 39) (by decide)
theorem f15 (k0 k2 t n L : Nat) (u : Mm) (n1 : k2 + 1 ≠ k0) (n2 : k2 + 2 ≠ k0) (ht : t < 3) (hL : L < 6) (hn : n < 4 ^ L) (e6 : u k0 6 = nI L) (e9 : u k0 9 = nI n) :
    Ok (gX2_fly_15 k0 k2 (nI t) u) (fun u' => (∀ c, c ≠ k0 → u' c = u c) ∧ u' k0 0 = hgtS (u k0 0) (riseS (heatS (u k0 3) (wkN ((n + t * 4 ^ L) % 4))) (u k0 5)) ∧ u' k0 1 = movS (u' k0 0) (u k0 1) (u (k2 + 1) (ixn (u' k0 0 / 5))) ∧ u' k0 2 = movS (u' k0 0) (u k0 2) (u (k2 + 2) (ixn (u' k0 0 / 5))) ∧ u' k0 3 = heatS (u k0 3) (wkN ((n + t * 4 ^ L) % 4)) ∧ u' k0 4 = u k0 4 ∧ u' k0 5 = u k0 5 ∧ u' k0 6 = u k0 6 ∧ u' k0 7 = u k0 7 + 1 ∧ u' k0 8 = pacS (u k0 0) (u' k0 0) (riseS (heatS (u k0 3) (wkN ((n + t * 4 ^ L) % 4))) (u k0 5)) ∧ u' k0 9 = nI ((n + t * 4 ^ L) / 4)) := by
  have hb := pow6 hL hn ht
  simp +decide only [gX2_fly_15, stm_d, ↓reduceIte, eq_self, letv_eq, e6, e9, or_bits L hL n hn t ht, and_bits _ hb, shr_bits _ hb, workOf_eq, wkI_N _ (Nat.mod_lt (n + t * 4 ^ L) (show 4 > 0 by decide)), betw0, gX2_climb, gX2_climb_b, gX2_balance, gX2_balance_b, Option.bind_some, gX2_fly_118]
  have m1 : (k2 + 1 = k0) = False := eq_false n1
  have m2 : (k2 + 2 = k0) = False := eq_false n2
  refine ok_if (fun h => ok_if (fun h2 => ?_) (fun h2 => ?_)) (fun h => ?_)
  all_goals
    refine (f119 _ _ _ _ n1 n2 (by simp +decide only [stm_d, ↓reduceIte, eq_self]; exact bd39)).mono ?_
    intro u' hu
    simp +decide only [stm_d, ↓reduceIte, eq_self, m1, m2] at hu
    obtain ⟨hf, g0, g1, g2, g3, g4, g5, g6, g7, g8, g9⟩ := hu
    refine ⟨fun c hc => (hf c hc).trans (by simp only [stm_d, ↓reduceIte, eq_self, eq_false hc]), g0, ?_, ?_, g3, g4, g5, g6.trans e6, g7, ?_, g9⟩
    · rw [g1, g0]
    · rw [g2, g0]
    · rw [g8, g0]
      first
        | exact (pacS_1 h h2).symm
        | exact (pacS_2 h h2).symm
        | exact (pacS_3 h).symm
theorem fly_ok (k0 k2 t L : Nat) (u : Mm) (w : Nat → Int32) (n1 : k2 + 1 ≠ k0) (n2 : k2 + 2 ≠ k0) (ht : t < 3) (hL : L < 6) (e6 : u k0 6 = nI L) (hW : UW (u k0 9) (u k0 6) w) :
    Ok (gX2_fly k0 (nI t) k2 u) (fun u' => (∀ c, c ≠ k0 → u' c = u c) ∧ FlyTo (u k0) (u' k0) (u (k2 + 1)) (u (k2 + 2)) (nI t) (wArr w L t) ∧ UW (u' k0 9) (u' k0 6) (shW w L t)) := by
  obtain ⟨n, e9, hn, hd⟩ := hW
  rw [e6, t_nI (by omega), Int.toNat_natCast] at hn
  have hs := UW_step hL hn ht hd
  have m1 : (k2 + 1 = k0) = False := eq_false n1
  have m2 : (k2 + 2 = k0) = False := eq_false n2
  unfold gX2_fly gX2_fly_b
  refine ok_if (fun h => ?_) (fun h => ?_)
  · rw [letv_eq]
    refine (f15 k0 k2 t n L _ n1 n2 ht hL hn (by simp +decide only [stm_d, ↓reduceIte, eq_self]; exact e6) (by simp +decide only [stm_d, ↓reduceIte, eq_self]; exact e9)).mono ?_
    intro u' hu
    simp +decide only [stm_d, ↓reduceIte, eq_self, m1, m2] at hu
    obtain ⟨hf, g0, g1, g2, g3, g4, g5, g6, g7, g8, g9⟩ := hu
    rw [hs.1] at g0 g3 g8
    exact ⟨fun c hc => (hf c hc).trans (by simp only [stm_d, ↓reduceIte, eq_self, eq_false hc]), ⟨g0, g1, g2, g3, by rw [g4, if_pos h], g5, g6, g7, g8⟩, by rw [g9, g6, e6]; exact hs.2⟩
  · refine (f15 k0 k2 t n L u n1 n2 ht hL hn e6 e9).mono ?_
    rintro u' ⟨hf, g0, g1, g2, g3, g4, g5, g6, g7, g8, g9⟩
    rw [hs.1] at g0 g3 g8
    exact ⟨hf, ⟨g0, g1, g2, g3, by rw [g4, if_neg h], g5, g6, g7, g8⟩, by rw [g9, g6, e6]; exact hs.2⟩
theorem lt_nn {a b : Nat} (hb : b < 2147483648) (ha : a < 2147483648) : (nI a < nI b) = (a < b) := by
  rw [t_lt, t_nI ha, t_nI hb]
  exact propext Int.ofNat_lt
theorem nI_s {a : Nat} (h : a + 1 < 2147483648) : nI a + 1 = nI (a + 1) := by
  refine of_nat ?_ h
  have h1 := t_nI (show a < 2147483648 by omega)
  rw [t_add (by rw [h1, i1]; omega) (by rw [h1, i1]; omega), h1, i1]
  omega
theorem r157 (s : Int32) (u : Mm) (hh : 0 ≤ (u 74 2).toInt ∧ (u 74 2).toInt ≤ 39) :
    Ok (gX11_stepOn_157 s u) (fun u' => (∀ c, c ≠ 74 → u' c = u c) ∧ (∀ i, i ≠ 3 → i ≠ 4 → i ≠ 9 → i ≠ 21 → u' 74 i = u 74 i) ∧ u' 74 3 = movS (u 74 2) (u 74 3) (u 75 (ixn (u 74 2 / 5))) ∧ u' 74 4 = movS (u 74 2) (u 74 4) (u 76 (ixn (u 74 2 / 5))) ∧ u' 74 9 = u 74 9 + 1 ∧ u' 74 21 = s) := by
  by_cases h : 0 < u 74 2
  · obtain ⟨l, hl, he⟩ := lay_ex hh
    refine ⟨stm (stm (stm (stm u 74 21 s) 74 3 (clampI (u 74 3 + u 75 l) 999)) 74 4 (clampI (u 74 4 + u 76 l) 999)) 74 9 (u 74 9 + 1), ?_, ?_⟩
    · simp +decide only [gX11_stepOn_157, gX11_stepOn_219, stm_d, ↓reduceIte, eq_self, letv_eq, eq_true h, he, gd_t (ix_nI hl (by decide)), ixn_nI (show l < 2147483648 by omega), Option.bind_some, held_eq]
    · refine ⟨fun c hc => by rw [stm_c hc, stm_c hc, stm_c hc, stm_c hc], fun i a b c d => by rw [stm_s c, stm_s b, stm_s a, stm_s d], ?_⟩
      simp +decide only [stm_d, ↓reduceIte, eq_self, movS, eq_true h, he, ixn_nI (show l < 2147483648 by omega)]
  · refine ⟨stm (stm u 74 21 s) 74 9 (u 74 9 + 1), ?_, ?_⟩
    · simp +decide only [gX11_stepOn_157, gX11_stepOn_219, stm_d, ↓reduceIte, eq_self, letv_eq, eq_false h]
    · refine ⟨fun c hc => by rw [stm_c hc, stm_c hc], fun i a b c d => by rw [stm_s c, stm_s d], ?_⟩
      simp +decide only [stm_d, ↓reduceIte, eq_self, movS, eq_false h]
theorem shift_ok (v2 : Int32) (L : Nat) (hL : L < 6) : ∀ (d j fuel : Nat) (u : Mm), j + d = L → d < fuel → u 74 8 = nI L →
    ∃ u', gX11_stepOn_57_L v2 fuel (nI j) u = gX11_stepOn_57_L v2 (fuel - d) (nI L) u' ∧ (∀ c, c ≠ 77 → u' c = u c) ∧ ∀ i, u' 77 i = if j ≤ i ∧ i < L then u 77 (i + 1) else u 77 i := by
  intro d
  induction d with
  | zero =>
    intro j fuel u hj hf e8
    obtain rfl : j = L := by omega
    exact ⟨u, rfl, fun _ _ => rfl, fun i => by rw [if_neg (by omega)]⟩
  | succ d ih =>
    intro j fuel u hj hf e8
    obtain ⟨f, rfl⟩ : ∃ f, fuel = f + 1 := ⟨fuel - 1, by omega⟩
    obtain ⟨u', e1, e2, e3⟩ := ih (j + 1) f (stm u 77 j (u 77 (j + 1))) (by omega) (by omega) (by simp +decide only [stm_d, ↓reduceIte, eq_self]; exact e8)
    refine ⟨u', ?_, fun c hc => (e2 c hc).trans (stm_c hc), fun i => ?_⟩
    · rw [show f + 1 - (d + 1) = f - d by omega, ← e1]
      show gX11_stepOn_57_Ls v2 (gX11_stepOn_57_L v2 f) (nI j) u = _
      unfold gX11_stepOn_57_Ls
      rw [if_pos (by rw [e8, lt_nn (by omega) (by omega)]; omega), nI_s (by omega), gd_t (ix_nI (by omega) (by decide)), gd_t (ix_nI (by omega) (by decide)), ixn_nI (by omega), ixn_nI (by omega)]
      rfl
    · rw [e3]
      by_cases h1 : j + 1 ≤ i ∧ i < L
      · rw [if_pos h1, if_pos (by omega), stm_s (by omega)]
      · rw [if_neg h1]
        by_cases h2 : i = j
        · subst h2
          rw [if_pos (by omega), stm_r]
        · rw [if_neg (by omega), stm_s h2]
theorem stepOn_ok (t L : Nat) (u : Mm) (ht : t < 3) (hL : L < 6) (e8 : u 74 8 = nI L) :
    Ok (gX11_stepOn (nI t) u) (fun u' => (∀ c, c ≠ 74 → c ≠ 77 → u' c = u c) ∧ (∀ i, i ≠ 2 → i ≠ 3 → i ≠ 4 → i ≠ 5 → i ≠ 6 → i ≠ 9 → i ≠ 21 → u' 74 i = u 74 i) ∧
      FlyTo (fun i => u 74 (i + 2)) (fun i => if i = 8 then u' 74 21 else u' 74 (i + 2)) (u 75) (u 76) (nI t) (wArr (u 77) L t) ∧ ∀ j, j < 6 → u' 77 j = shW (u 77) L t j) := by
  have main : ∀ (x : Int32) (v : Mm), v = stm u 74 6 x → Ok (gX11_stepOn_47 (wkN t) (nI L) v) (fun u' => (∀ c, c ≠ 74 → c ≠ 77 → u' c = u c) ∧ (∀ i, i ≠ 2 → i ≠ 3 → i ≠ 4 → i ≠ 5 → i ≠ 6 → i ≠ 9 → i ≠ 21 → u' 74 i = u 74 i) ∧ u' 74 6 = x ∧
      (u' 74 2 = hgtS (u 74 2) (riseS (heatS (u 74 5) (wArr (u 77) L t)) (u 74 7)) ∧ u' 74 3 = movS (u' 74 2) (u 74 3) (u 75 (ixn (u' 74 2 / 5))) ∧ u' 74 4 = movS (u' 74 2) (u 74 4) (u 76 (ixn (u' 74 2 / 5))) ∧ u' 74 5 = heatS (u 74 5) (wArr (u 77) L t) ∧ u' 74 9 = u 74 9 + 1 ∧ u' 74 21 = pacS (u 74 2) (u' 74 2) (riseS (heatS (u 74 5) (wArr (u 77) L t)) (u 74 7))) ∧ ∀ j, j < 6 → u' 77 j = shW (u 77) L t j) := by
    intro x v hv
    unfold gX11_stepOn_47
    rw [gd_t (ix_nI hL (by decide)), ixn_nI (by omega)]
    simp only [letv_eq]
    have hw0 : stm v 77 L (wkN t) 77 (ixn 0) = wArr (u 77) L t := by
      rw [show ixn 0 = 0 from rfl, hv]
      unfold wArr
      by_cases h0 : L = 0
      · subst h0; rw [stm_r, if_pos rfl]
      · rw [stm_s (by omega), if_neg h0]; rfl
    rw [hw0]
    obtain ⟨u', e1, e2, e3⟩ := shift_ok (wArr (u 77) L t) L hL L 0 FU (stm v 77 L (wkN t)) (by omega) (by unfold FU; omega) (by rw [hv]; exact e8)
    rw [show (0 : Int32) = nI 0 from rfl, e1, show FU - L = (3999 - L) + 1 by unfold FU; omega]
    show Ok (gX11_stepOn_57_Ls (wArr (u 77) L t) (gX11_stepOn_57_L (wArr (u 77) L t) (3999 - L)) (nI L) u') _
    have g74 : u' 74 = stm u 74 6 x 74 := by rw [e2 74 (by decide), hv]; rfl
    have gc : ∀ c, c ≠ 74 → c ≠ 77 → u' c = u c := fun c h1 h2 => by rw [e2 c h2, stm_c h2, hv, stm_c h1]
    have g75 := gc 75 (by decide) (by decide)
    have g76 := gc 76 (by decide) (by decide)
    unfold gX11_stepOn_57_Ls
    have e8' : u' 74 8 = nI L := by rw [g74]; exact e8
    rw [if_neg (by rw [e8', t_lt]; exact Int.lt_irrefl _), e8', gd_t (ix_nI hL (by decide)), ixn_nI (by omega)]
    simp +decide only [stm_d, ↓reduceIte, eq_self, letv_eq, held_eq, gX11_risingNow, gX11_risingNow_b, gX11_balance, gX11_balance_b, Option.bind_some, gX11_stepOn_156, g74]
    refine ok_if (fun h => ok_if (fun h2 => ?_) (fun h2 => ?_)) (fun h => ?_)
    all_goals
      refine (r157 _ _ (by simp +decide only [stm_d, ↓reduceIte, eq_self]; exact bd39)).mono ?_
      intro z hz
      simp +decide only [stm_d, ↓reduceIte, eq_self, g74, g75, g76] at hz
      obtain ⟨hf, hi, k3, k4, k9, k21⟩ := hz
      refine ⟨fun c h1 h2 => (hf c h1).trans ?_, fun i a2 a3 a4 a5 a6 a9 a21 => (hi i a3 a4 a9 a21).trans ?_, hi 6 (by decide) (by decide) (by decide) (by decide), ⟨hi 2 (by decide) (by decide) (by decide) (by decide), ?_, ?_, hi 5 (by decide) (by decide) (by decide) (by decide), k9, ?_⟩, fun j hj => ?_⟩
      · simp only [stm_d, ↓reduceIte, eq_self, eq_false h1, eq_false h2]
        exact gc c h1 h2
      · simp only [stm_d, ↓reduceIte, eq_self, eq_false a2, eq_false a5, eq_false a6]
      · rw [k3, hi 2 (by decide) (by decide) (by decide) (by decide)]; rfl
      · rw [k4, hi 2 (by decide) (by decide) (by decide) (by decide)]; rfl
      · rw [k21, hi 2 (by decide) (by decide) (by decide) (by decide)]
        first
          | exact (pacS_1 h h2).symm
          | exact (pacS_2 h h2).symm
          | exact (pacS_3 h).symm
      · rw [hf 77 (by decide)]
        simp +decide only [stm_d, ↓reduceIte, eq_self]
        unfold shW
        by_cases c1 : j < L
        · rw [if_neg (by omega), e3, if_pos (by omega), if_pos c1]
          by_cases c2 : j + 1 = L
          · rw [if_pos c2, c2, stm_r]
          · rw [if_neg c2, stm_s c2, hv]; rfl
        · rw [if_neg c1]
          by_cases c2 : j = L
          · rw [if_pos c2, if_pos c2]
          · rw [if_neg c2, if_neg c2, e3, if_neg (by omega), stm_s c2, hv]; rfl
  have wrap : ∀ (x : Int32), x = (if nI t = 1 then u 74 6 - 1 else u 74 6) → Ok (gX11_stepOn_47 (wkN t) (nI L) (stm u 74 6 x)) (fun u' => (∀ c, c ≠ 74 → c ≠ 77 → u' c = u c) ∧ (∀ i, i ≠ 2 → i ≠ 3 → i ≠ 4 → i ≠ 5 → i ≠ 6 → i ≠ 9 → i ≠ 21 → u' 74 i = u 74 i) ∧
      FlyTo (fun i => u 74 (i + 2)) (fun i => if i = 8 then u' 74 21 else u' 74 (i + 2)) (u 75) (u 76) (nI t) (wArr (u 77) L t) ∧ ∀ j, j < 6 → u' 77 j = shW (u 77) L t j) := by
    intro x hx
    refine (main x _ rfl).mono ?_
    rintro u' ⟨h1, h2, h3, ⟨h4, h5, h6, h7, h8, h9⟩, h10⟩
    exact ⟨h1, h2, ⟨h4, h5, h6, h7, h3.trans hx, h2 7 (by decide) (by decide) (by decide) (by decide) (by decide) (by decide) (by decide), h2 8 (by decide) (by decide) (by decide) (by decide) (by decide) (by decide) (by decide), h8, h9⟩, h10⟩
  have e8' : ∀ x, stm u 74 6 x 74 8 = nI L := fun x => e8
  have ht' : t = 0 ∨ t = 1 ∨ t = 2 := by omega
  rcases ht' with rfl | rfl | rfl
  · simp +decide only [gX11_stepOn, gX11_stepOn_b, gX11_stepOn_15, letv_eq, ↓reduceIte, e8']
    exact wrap _ (by rw [if_neg (by decide)]; exact Int32.sub_zero _)
  · simp +decide only [gX11_stepOn, gX11_stepOn_b, gX11_stepOn_15, letv_eq, ↓reduceIte, e8']
    exact wrap _ (by rw [if_pos (by decide)])
  · simp +decide only [gX11_stepOn, gX11_stepOn_b, gX11_stepOn_15, letv_eq, ↓reduceIte, e8']
    exact wrap _ (by rw [if_neg (by decide)]; exact Int32.sub_zero _)
