/-! Shortest ways: what both sides reckon. -/
def DP (W D : Nat → Nat → Nat) : Prop := (∀ a, a < 8 → D a a = 0) ∧ (∀ a b, a < 8 → b < 8 → D a b ≤ 1000000) ∧ (∀ a b c, a < 8 → b < 8 → c < 8 → D a b ≤ D a c + D c b) ∧ (∀ a b, a < 8 → b < 8 → 0 < W a b → D a b ≤ W a b) ∧ ∀ a b, a < 8 → b < 8 → a ≠ b → D a b < 1000000 → ∃ c, c < 8 ∧ 0 < W c b ∧ D a c + W c b ≤ D a b
def cnt (f : Nat → Nat) (x : Nat) : Nat → Nat
  | 0 => 0
  | n + 1 => cnt f x n + (if f n < x then 1 else 0)
theorem cnt_mono {f : Nat → Nat} {x y : Nat} (h : x ≤ y) : ∀ n, cnt f x n ≤ cnt f y n := by
  intro n
  induction n with
  | zero => exact Nat.le_refl _
  | succ n ih =>
    show cnt f x n + (if f n < x then 1 else 0) ≤ cnt f y n + (if f n < y then 1 else 0)
    split <;> split <;> omega
theorem cnt_lt {f : Nat → Nat} {x y c : Nat} (h1 : f c < y) (h2 : x ≤ f c) : ∀ n, c < n → cnt f x n < cnt f y n := by
  intro n
  induction n with
  | zero => intro h; exact absurd h (Nat.not_lt_zero _)
  | succ n ih =>
    intro h
    have hm := cnt_mono (f := f) (show x ≤ y by omega) n
    show cnt f x n + (if f n < x then 1 else 0) < cnt f y n + (if f n < y then 1 else 0)
    by_cases e : c = n
    · subst e
      rw [if_neg (by omega), if_pos h1]
      omega
    · have := ih (by omega)
      split <;> split <;> omega
theorem cnt_le (f : Nat → Nat) (x : Nat) : ∀ n, cnt f x n ≤ n := by
  intro n
  induction n with
  | zero => exact Nat.le_refl _
  | succ n ih =>
    show cnt f x n + (if f n < x then 1 else 0) ≤ n + 1
    split <;> omega
theorem cnt_7 {f : Nat → Nat} {b : Nat} (hb : b < 8) : cnt f (f b) 8 ≤ 7 := by
  have h1 := cnt_lt (f := f) (x := f b) (y := f b + 1) (c := b) (by omega) (Nat.le_refl _) 8 hb
  have h2 := cnt_le f (f b + 1) 8
  omega
theorem cnt_pos {f : Nat → Nat} {x c n : Nat} (hc : c < n) (h : f c < x) : 0 < cnt f x n := by
  have := cnt_lt (f := f) (x := f c) (y := x) h (Nat.le_refl _) n hc
  omega
theorem DP.fin {W D : Nat → Nat → Nat} (h : DP W D) (hW : ∀ a b, a < 8 → b < 8 → W a b ≤ 99) {a : Nat} (ha : a < 8) : ∀ n b, b < 8 → cnt (D a) (D a b) 8 ≤ n → D a b < 1000000 → D a b ≤ 99 * n := by
  obtain ⟨d0, d1, d2, d3, d4⟩ := h
  intro n
  induction n with
  | zero =>
    intro b hb hr hf
    by_cases e : a = b
    · subst e
      rw [d0 a ha]
      exact Nat.zero_le _
    · obtain ⟨c, hc, hw, hd⟩ := d4 a b ha hb e hf
      have := cnt_pos (f := D a) (x := D a b) (c := c) (n := 8) hc (by omega)
      omega
  | succ n ih =>
    intro b hb hr hf
    by_cases e : a = b
    · subst e
      rw [d0 a ha]
      exact Nat.zero_le _
    · obtain ⟨c, hc, hw, hd⟩ := d4 a b ha hb e hf
      have h1 := cnt_lt (f := D a) (x := D a c) (y := D a b) (c := c) (by omega) (Nat.le_refl _) 8 hc
      have h2 := ih c hc (by omega) (by omega)
      have h3 := d2 a b c ha hb hc
      have h4 := d3 c b hc hb hw
      have h5 := hW c b hc hb
      omega
theorem DP.le {W D : Nat → Nat → Nat} (h : DP W D) (hW : ∀ a b, a < 8 → b < 8 → W a b ≤ 99) {a b : Nat} (ha : a < 8) (hb : b < 8) (hf : D a b < 1000000) : D a b ≤ 693 := h.fin hW ha 7 b hb (cnt_7 hb) hf
/-- what the class holds while it joins the roads by way of the places below v -/
def FW (W : Nat → Nat → Nat) (v : Nat) (M : Nat → Nat → Nat) : Prop := (∀ a, a < 8 → M a a = 0) ∧ (∀ a b, a < 8 → b < 8 → M a b ≤ 1000000) ∧ (∀ k, k < v → ∀ a b, a < 8 → b < 8 → M a b ≤ M a k + M k b) ∧ (∀ a b, a < 8 → b < 8 → 0 < W a b → M a b ≤ W a b) ∧ ∀ a b, a < 8 → b < 8 → a ≠ b → M a b < 1000000 → ∃ c, c < 8 ∧ 0 < W c b ∧ M a c + W c b ≤ M a b
def M0 (W : Nat → Nat → Nat) (a b : Nat) : Nat := if a = b then 0 else if 0 < W a b then W a b else 1000000
def Mn (M : Nat → Nat → Nat) (v a b : Nat) : Nat := min (M a b) (M a v + M v b)
theorem FW_0 {W : Nat → Nat → Nat} (hW : ∀ a b, a < 8 → b < 8 → W a b ≤ 99) : FW W 0 (M0 W) := by
  refine ⟨fun a ha => if_pos rfl, fun a b ha hb => ?_, fun k h => absurd h (Nat.not_lt_zero _), fun a b ha hb hw => ?_, fun a b ha hb hn hf => ?_⟩
  · have := hW a b ha hb
    unfold M0
    split
    · omega
    · split <;> omega
  · unfold M0
    split
    · omega
    · exact Nat.le_refl _
  · unfold M0 at hf
    rw [if_neg hn] at hf
    by_cases hw : 0 < W a b
    · refine ⟨a, ha, hw, ?_⟩
      unfold M0
      rw [if_pos rfl, if_neg hn, if_pos hw]
      omega
    · rw [if_neg hw] at hf
      exact absurd hf (Nat.lt_irrefl _)
theorem FW_s {W M : Nat → Nat → Nat} {v : Nat} (hv : v < 8) (h : FW W v M) : FW W (v + 1) (Mn M v) := by
  obtain ⟨d0, d1, d2, d3, d4⟩ := h
  have hvv := d0 v hv
  refine ⟨fun a ha => ?_, fun a b ha hb => ?_, fun k hk a b ha hb => ?_, fun a b ha hb hw => ?_, fun a b ha hb hn hf => ?_⟩
  · have := d0 a ha
    unfold Mn
    omega
  · have := d1 a b ha hb
    unfold Mn
    omega
  · unfold Mn
    by_cases e : k = v
    · subst e
      omega
    · have h1 := d2 k (by omega) a b ha hb
      have h2 := d2 k (by omega) a v ha hv
      have h3 := d2 k (by omega) v b hv hb
      omega
  · have := d3 a b ha hb hw
    unfold Mn
    omega
  · unfold Mn at hf ⊢
    by_cases e : M a b ≤ M a v + M v b
    · obtain ⟨c, hc, hw, hd⟩ := d4 a b ha hb hn (by omega)
      exact ⟨c, hc, hw, by omega⟩
    · have hvb : v ≠ b := by
        intro e2
        subst e2
        omega
      obtain ⟨c, hc, hw, hd⟩ := d4 v b hv hb hvb (by omega)
      exact ⟨c, hc, hw, by omega⟩
theorem FW_8 {W M : Nat → Nat → Nat} (h : FW W 8 M) : DP W M := by
  obtain ⟨d0, d1, d2, d3, d4⟩ := h
  exact ⟨d0, d1, fun a b c ha hb hc => d2 c hc a b ha hb, d3, d4⟩
/-! The class's measure. -/
def RdC (u : Mm) (W : Nat → Nat → Nat) : Prop := ∀ a b, a < 8 → b < 8 → u 13 (8 * a + b) = nI (W a b)
def MtC (u : Mm) (M : Nat → Nat → Nat) : Prop := ∀ a b, a < 8 → b < 8 → u 72 (8 * a + b) = nI (M a b)
theorem take_ok {u : Mm} {W : Nat → Nat → Nat} (hR : RdC u W) (hW : ∀ a b, a < 8 → b < 8 → W a b ≤ 99) : Ok (gX8_takeRoads 12 u) (fun u' => (∀ c, c ≠ 72 → u' c = u c) ∧ MtC u' (M0 W)) := by
  unfold gX8_takeRoads gX8_takeRoads_b
  refine loopS (fun n (s : Int32 × Mm) => gX8_takeRoads_2_L 12 n s.1 s.2) (fun g s => gX8_takeRoads_2_Ls 12 (fun a b => g (a, b)) s.1 s.2) (fun _ _ => rfl) _
    (fun n s => s.1 = nI n ∧ (∀ c, c ≠ 72 → s.2 c = u c) ∧ ∀ a b, a < n → b < 8 → s.2 72 (8 * a + b) = nI (M0 W a b)) 8 ?_ ?_ 8 0 FU (0, u) rfl (by decide) ⟨rfl, fun _ _ => rfl, fun a b h => absurd h (Nat.not_lt_zero _)⟩
  · rintro i ⟨v1, v⟩ g hi ⟨h0, h1, h2⟩ hg
    change v1 = nI i at h0
    subst h0
    show Ok (gX8_takeRoads_2_Ls 12 (fun a b => g (a, b)) (nI i) v) _
    unfold gX8_takeRoads_2_Ls
    rw [if_pos (show nI i < 8 by rw [show (8 : Int32) = nI 8 from rfl, lt_nn (by omega) (by omega)]; exact hi)]
    refine loopS (fun n (s : Int32 × Mm) => gX8_takeRoads_10_L 12 (fun a b => g (a, b)) (nI i) n s.1 s.2) (fun g2 s => gX8_takeRoads_10_Ls 12 (fun a b => g (a, b)) (nI i) (fun a b => g2 (a, b)) s.1 s.2) (fun _ _ => rfl) _
      (fun n s => s.1 = nI n ∧ (∀ c, c ≠ 72 → s.2 c = u c) ∧ ∀ a b, b < 8 → (a < i ∨ (a = i ∧ b < n)) → s.2 72 (8 * a + b) = nI (M0 W a b)) 8 ?_ ?_ 8 0 FU (0, v) rfl (by decide) ⟨rfl, h1, fun a b hb h => h2 a b (by omega) hb⟩
    · rintro j ⟨w1, w⟩ g2 hj ⟨h0, k1, k2⟩ hg2
      change w1 = nI j at h0
      subst h0
      change ∀ c, c ≠ 72 → w c = u c at k1
      show Ok (gX8_takeRoads_10_Ls 12 (fun a b => g (a, b)) (nI i) (fun a b => g2 (a, b)) (nI j) w) _
      unfold gX8_takeRoads_10_Ls
      have hw := hW i j hi hj
      rw [if_pos (show nI j < 8 by rw [show (8 : Int32) = nI 8 from rfl, lt_nn (by omega) (by omega)]; exact hj), betw_eq hi hj, k1 13 (by decide), hR i j hi hj, Option.bind_some, ixA i hi j hj]
      have fin : ∀ s : Int32, s = nI (M0 W i j) → Ok (gX8_takeRoads_55 12 (fun a b => g (a, b)) (fun a b => g2 (a, b)) (nI i) (nI j) s (nI (8 * i + j)) w) (fun u' => (∀ c, c ≠ 72 → u' c = u c) ∧ MtC u' (M0 W)) := by
        intro s hs
        unfold gX8_takeRoads_55
        rw [gd_t (ix64 hi hj), ixn64 hi hj, letv_eq, letv_eq, nI_s (by omega)]
        refine hg2 (nI (j + 1), stm w 72 (8 * i + j) s) ⟨rfl, fun c hc => (stm_c hc).trans (k1 c hc), fun a b hb h => ?_⟩
        show stm w 72 (8 * i + j) s 72 (8 * a + b) = _
        by_cases e : a = i ∧ b = j
        · rw [e.1, e.2, stm_r, hs]
        · rw [stm_s (by omega)]
          exact k2 a b hb (by omega)
      unfold M0 at fin
      refine ok_if (fun c => fin _ ?_) (fun c => ok_if (fun c2 => fin _ ?_) (fun c2 => fin _ ?_))
      · rw [if_pos (nI_inj8 i hi j hj c)]; rfl
      · have hne : ¬ i = j := fun e => c (by rw [e])
        rw [t_lt, i0, t_nI (by omega)] at c2
        rw [if_neg hne, if_pos (by omega)]
      · have hne : ¬ i = j := fun e => c (by rw [e])
        rw [t_lt, i0, t_nI (by omega)] at c2
        rw [if_neg hne, if_neg (by omega)]
        rfl
    · rintro ⟨w1, w⟩ g2 ⟨h0, k1, k2⟩
      change w1 = nI 8 at h0
      subst h0
      show Ok (gX8_takeRoads_10_Ls 12 (fun a b => g (a, b)) (nI i) (fun a b => g2 (a, b)) (nI 8) w) _
      unfold gX8_takeRoads_10_Ls
      rw [if_neg (by decide), letv_eq, nI_s (by omega)]
      exact hg (nI (i + 1), w) ⟨rfl, k1, fun a b ha hb => k2 a b hb (by omega)⟩
  · rintro ⟨v1, v⟩ g ⟨h0, h1, h2⟩
    change v1 = nI 8 at h0
    subst h0
    show Ok (gX8_takeRoads_2_Ls 12 (fun a b => g (a, b)) (nI 8) v) _
    unfold gX8_takeRoads_2_Ls
    rw [if_neg (by decide)]
    exact ok_some.mpr ⟨h1, fun a b ha hb => h2 a b ha hb⟩
theorem join_ok {u : Mm} {W : Nat → Nat → Nat} (hM : MtC u (M0 W)) (hW : ∀ a b, a < 8 → b < 8 → W a b ≤ 99) : Ok (gX8_joinRoads u) (fun u' => (∀ c, c ≠ 72 → u' c = u c) ∧ ∃ D, DP W D ∧ MtC u' D) := by
  unfold gX8_joinRoads gX8_joinRoads_b
  refine loopS (fun n (s : Int32 × Mm) => gX8_joinRoads_2_L n s.1 s.2) (fun g s => gX8_joinRoads_2_Ls (fun a b => g (a, b)) s.1 s.2) (fun _ _ => rfl) _
    (fun n s => s.1 = nI n ∧ (∀ c, c ≠ 72 → s.2 c = u c) ∧ ∃ M, FW W n M ∧ MtC s.2 M) 8 ?_ ?_ 8 0 FU (0, u) rfl (by decide) ⟨rfl, fun _ _ => rfl, M0 W, FW_0 hW, hM⟩
  · rintro v ⟨v1, x⟩ g hv ⟨h0, h1, M, h2, h3⟩ hg
    change v1 = nI v at h0
    subst h0
    change MtC x M at h3
    show Ok (gX8_joinRoads_2_Ls (fun a b => g (a, b)) (nI v) x) _
    unfold gX8_joinRoads_2_Ls
    have hvv := h2.1 v hv
    have hle := h2.2.1
    rw [if_pos (show nI v < 8 by rw [show (8 : Int32) = nI 8 from rfl, lt_nn (by omega) (by omega)]; exact hv)]
    refine loopS (fun n (s : Int32 × Mm) => gX8_joinRoads_10_L (fun a b => g (a, b)) (nI v) n s.1 s.2) (fun g2 s => gX8_joinRoads_10_Ls (fun a b => g (a, b)) (nI v) (fun a b => g2 (a, b)) s.1 s.2) (fun _ _ => rfl) _
      (fun i s => s.1 = nI i ∧ (∀ c, c ≠ 72 → s.2 c = u c) ∧ ∀ a b, a < 8 → b < 8 → s.2 72 (8 * a + b) = nI (if a < i then Mn M v a b else M a b)) 8 ?_ ?_ 8 0 FU (0, x) rfl (by decide) ⟨rfl, h1, fun a b ha hb => by rw [if_neg (Nat.not_lt_zero _)]; exact h3 a b ha hb⟩
    · rintro i ⟨w1, w⟩ g2 hi ⟨h0, k1, k2⟩ hg2
      change w1 = nI i at h0
      subst h0
      change ∀ a b, a < 8 → b < 8 → w 72 (8 * a + b) = _ at k2
      show Ok (gX8_joinRoads_10_Ls (fun a b => g (a, b)) (nI v) (fun a b => g2 (a, b)) (nI i) w) _
      unfold gX8_joinRoads_10_Ls
      have eiv := k2 i v hi hv
      rw [if_neg (Nat.lt_irrefl _)] at eiv
      have liv := hle i v hi hv
      rw [if_pos (show nI i < 8 by rw [show (8 : Int32) = nI 8 from rfl, lt_nn (by omega) (by omega)]; exact hi), ixA i hi v hv, gd_t (ix64 hi hv), ixn64 hi hv, letv_eq, eiv]
      have done : ∀ z : Mm, (∀ c, c ≠ 72 → z c = u c) → (∀ a b, a < 8 → b < 8 → z 72 (8 * a + b) = nI (if a < i + 1 then Mn M v a b else M a b)) → Ok (letv (nI i + 1) fun q => g2 (q, z)) (fun u' => (∀ c, c ≠ 72 → u' c = u c) ∧ ∃ D, DP W D ∧ MtC u' D) := by
        intro z z1 z2
        rw [letv_eq, nI_s (by omega)]
        exact hg2 (nI (i + 1), z) ⟨rfl, z1, z2⟩
      refine loopS (fun n (s : Int32 × Mm) => gX8_joinRoads_31_L (fun a b => g (a, b)) (fun a b => g2 (a, b)) (nI v) (nI i) (nI (M i v)) n s.1 s.2) (fun g3 s => gX8_joinRoads_31_Ls (fun a b => g (a, b)) (fun a b => g2 (a, b)) (nI v) (nI i) (nI (M i v)) (fun a b => g3 (a, b)) s.1 s.2) (fun _ _ => rfl) _
        (fun j s => s.1 = nI j ∧ (∀ c, c ≠ 72 → s.2 c = u c) ∧ ∀ a b, a < 8 → b < 8 → s.2 72 (8 * a + b) = nI (if a < i ∨ (a = i ∧ b < j) then Mn M v a b else M a b)) 8 ?_ ?_ 8 0 FU (0, w) rfl (by decide) ⟨rfl, k1, fun a b ha hb => ?_⟩
      · rintro j ⟨y1, y⟩ g3 hj ⟨h0, r1, r2⟩ hg3
        change y1 = nI j at h0
        subst h0
        change ∀ c, c ≠ 72 → y c = u c at r1
        change ∀ a b, a < 8 → b < 8 → y 72 (8 * a + b) = _ at r2
        show Ok (gX8_joinRoads_31_Ls (fun a b => g (a, b)) (fun a b => g2 (a, b)) (nI v) (nI i) (nI (M i v)) (fun a b => g3 (a, b)) (nI j) y) _
        unfold gX8_joinRoads_31_Ls
        have lvj := hle v j hv hj
        have lij := hle i j hi hj
        have evj : y 72 (8 * v + j) = nI (M v j) := by
          rw [r2 v j hv hj]
          split
          · unfold Mn
            rw [hvv]
            congr 1
            omega
          · rfl
        have eij : y 72 (8 * i + j) = nI (M i j) := by
          rw [r2 i j hi hj, if_neg (by omega)]
        have c6 : nI (M i v) < 1000000 ↔ M i v < 1000000 := by rw [show (1000000 : Int32) = nI 1000000 from rfl, lt_nn (by omega) (by omega)]
        rw [if_pos (show nI j < 8 by rw [show (8 : Int32) = nI 8 from rfl, lt_nn (by omega) (by omega)]; exact hj)]
        refine ok_if (fun c => ?_) (fun c => ?_)
        · have c' := c6.mp c
          rw [ixA v hv j hj, ixA i hi j hj, gd_t (ix64 hv hj), ixn64 hv hj, letv_eq, gd_t (ix64 hi hj), ixn64 hi hj, evj, eij, nI_a (by omega)]
          have cl : nI (M i v + M v j) < nI (M i j) ↔ M i v + M v j < M i j := by rw [lt_nn (by omega) (by omega)]
          refine ok_if (fun c2 => ?_) (fun c2 => ?_)
          · have c2' := cl.mp c2
            rw [gd_t (ix64 hi hj), letv_eq, letv_eq, nI_s (by omega)]
            refine hg3 (nI (j + 1), stm y 72 (8 * i + j) (nI (M i v + M v j))) ⟨rfl, fun c hc => (stm_c hc).trans (r1 c hc), fun a b ha hb => ?_⟩
            show stm y 72 (8 * i + j) (nI (M i v + M v j)) 72 (8 * a + b) = _
            by_cases e : a = i ∧ b = j
            · rw [e.1, e.2, stm_r, if_pos (by omega)]
              unfold Mn
              congr 1
              omega
            · rw [stm_s (by omega), r2 a b ha hb]
              by_cases e2 : a < i ∨ (a = i ∧ b < j)
              · rw [if_pos e2, if_pos (by omega)]
              · rw [if_neg e2, if_neg (by omega)]
          · have c2' : ¬ M i v + M v j < M i j := fun h => c2 (cl.mpr h)
            rw [letv_eq, nI_s (by omega)]
            refine hg3 (nI (j + 1), y) ⟨rfl, r1, fun a b ha hb => ?_⟩
            show y 72 (8 * a + b) = _
            rw [r2 a b ha hb]
            by_cases e : a = i ∧ b = j
            · rw [e.1, e.2, if_neg (by omega), if_pos (by omega)]
              unfold Mn
              congr 1
              omega
            · by_cases e2 : a < i ∨ (a = i ∧ b < j)
              · rw [if_pos e2, if_pos (by omega)]
              · rw [if_neg e2, if_neg (by omega)]
        · have c' : ¬ M i v < 1000000 := fun h => c (c6.mpr h)
          refine done y r1 (fun a b ha hb => ?_)
          rw [r2 a b ha hb]
          by_cases e : a = i
          · subst e
            have lab := hle a b ha hb
            rw [if_pos (show a < a + 1 by omega)]
            split
            · rfl
            · unfold Mn
              congr 1
              omega
          · by_cases e2 : a < i
            · rw [if_pos (Or.inl e2), if_pos (by omega)]
            · rw [if_neg (by omega), if_neg (by omega)]
      · rintro ⟨y1, y⟩ g3 ⟨h0, r1, r2⟩
        change y1 = nI 8 at h0
        subst h0
        change ∀ a b, a < 8 → b < 8 → y 72 (8 * a + b) = _ at r2
        show Ok (gX8_joinRoads_31_Ls (fun a b => g (a, b)) (fun a b => g2 (a, b)) (nI v) (nI i) (nI (M i v)) (fun a b => g3 (a, b)) (nI 8) y) _
        unfold gX8_joinRoads_31_Ls
        rw [if_neg (by decide)]
        refine done y r1 (fun a b ha hb => ?_)
        rw [r2 a b ha hb]
        by_cases e2 : a < i + 1
        · rw [if_pos (by omega), if_pos e2]
        · rw [if_neg (by omega), if_neg e2]
      · show w 72 (8 * a + b) = _
        rw [k2 a b ha hb]
        by_cases e : a < i
        · rw [if_pos e, if_pos (Or.inl e)]
        · rw [if_neg e, if_neg (by omega)]
    · rintro ⟨w1, w⟩ g2 ⟨h0, k1, k2⟩
      change w1 = nI 8 at h0
      subst h0
      change ∀ a b, a < 8 → b < 8 → w 72 (8 * a + b) = _ at k2
      show Ok (gX8_joinRoads_10_Ls (fun a b => g (a, b)) (nI v) (fun a b => g2 (a, b)) (nI 8) w) _
      unfold gX8_joinRoads_10_Ls
      rw [if_neg (by decide), letv_eq, nI_s (by omega)]
      exact hg (nI (v + 1), w) ⟨rfl, k1, Mn M v, FW_s hv h2, fun a b ha hb => by show w 72 (8 * a + b) = _; rw [k2 a b ha hb, if_pos ha]⟩
  · rintro ⟨v1, x⟩ g ⟨h0, h1, M, h2, h3⟩
    change v1 = nI 8 at h0
    subst h0
    show Ok (gX8_joinRoads_2_Ls (fun a b => g (a, b)) (nI 8) x) _
    unfold gX8_joinRoads_2_Ls
    rw [if_neg (by decide)]
    exact ok_some.mpr ⟨h1, M, FW_8 h2, h3⟩
theorem measure_ok {u : Mm} {W : Nat → Nat → Nat} (hR : RdC u W) (hW : ∀ a b, a < 8 → b < 8 → W a b ≤ 99) : Ok (gX8_measure 12 u) (fun u' => (∀ c, c ≠ 72 → u' c = u c) ∧ ∃ D, DP W D ∧ MtC u' D) := by
  unfold gX8_measure gX8_measure_b
  rw [ok_bind]
  refine (take_ok hR hW).mono ?_
  rintro v ⟨v1, v2⟩
  rw [ok_bind]
  refine (join_ok v2 hW).mono ?_
  rintro w ⟨w1, w2⟩
  exact ok_some.mpr ⟨fun c hc => (w1 c hc).trans (v1 c hc), w2⟩
