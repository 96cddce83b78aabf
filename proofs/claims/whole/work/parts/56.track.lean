/-! Call: track. -/
/-- layers (bits) below k that fit the pair at i -/
def btS (s a r : Nat → Int32) (i : Nat) : Nat → Int32
  | 0 => 0
  | k + 1 => if s k = r i - 50 ∧ a k = r (i + 1) then btS s a r i k ||| shl 1 (nI k) else btS s a r i k
theorem pairC {u : Mm} {s a r : Nat → Int32} {n i : Nat} (hs : ∀ k, k < 8 → u 4 k = s k ∧ u 5 k = a k) (en : u 54 0 = nI n) (hn : n ≤ 12) (hi : i + 1 < n) (hr : ∀ j, j < n → u 55 j = r j) : gX0_layersOfPair 3 54 (nI i) u = some (btS s a r i 8) := by
  have main : Ok (gX0_layersOfPair 3 54 (nI i) u) (fun v => v = btS s a r i 8) := by
    unfold gX0_layersOfPair gX0_layersOfPair_b
    refine loopS (fun m (s : Int32 × Int32) => gX0_layersOfPair_5_L 3 54 (nI i) u m s.1 s.2) (fun g s => gX0_layersOfPair_5_Ls 3 54 (nI i) u (fun a b => g (a, b)) s.1 s.2) (fun _ _ => rfl) _
      (fun k t => t.2 = nI k ∧ t.1 = btS s a r i k) 8 ?_ ?_ 8 0 FU (0, 0) rfl (by decide) ⟨rfl, rfl⟩
    · rintro k ⟨x1, x2⟩ g hk ⟨h0, h1⟩ hg
      change x2 = nI k at h0
      subst h0
      change x1 = _ at h1
      show Ok (gX0_layersOfPair_5_Ls 3 54 (nI i) u (fun a b => g (a, b)) x1 (nI k)) _
      unfold gX0_layersOfPair_5_Ls
      have e : btS s a r i (k + 1) = if s k = r i - 50 ∧ a k = r (i + 1) then btS s a r i k ||| shl 1 (nI k) else btS s a r i k := rfl
      rw [if_pos (show nI k < 8 by rw [show (8 : Int32) = nI 8 from rfl, lt_nn (by omega) (by omega)]; exact hk), gd_t (ix_nI hk (by decide)), at_eq en hn (by omega), Option.bind_some, ixn_nI (by omega), nI_s (show i + 1 < 2147483648 by omega), at_eq en hn hi, hr i (by omega), hr (i + 1) hi, show u (3 + 1) k = s k from (hs k hk).1, show u (3 + 2) k = a k from (hs k hk).2]
      have pass : ¬ (s k = r i - 50 ∧ a k = r (i + 1)) → Ok (letv (nI k + 1) fun v => g (x1, v)) (fun v => v = btS s a r i 8) := by
        intro h
        rw [if_neg h] at e
        rw [letv_eq, nI_s (by omega)]
        exact hg (x1, nI (k + 1)) ⟨rfl, by rw [e]; exact h1⟩
      refine ok_if (fun c1 => ?_) (fun c1 => pass (fun h => c1 h.1))
      rw [gd_t (ix_nI hk (by decide)), Option.bind_some]
      refine ok_if (fun c2 => ?_) (fun c2 => pass (fun h => c2 h.2))
      rw [if_pos ⟨c1, c2⟩] at e
      rw [letv_eq, letv_eq, nI_s (by omega)]
      exact hg (x1 ||| shl 1 (nI k), nI (k + 1)) ⟨rfl, by rw [e, ← h1]⟩
    · rintro ⟨x1, x2⟩ g ⟨h0, h1⟩
      change x2 = nI 8 at h0
      subst h0
      show Ok (gX0_layersOfPair_5_Ls 3 54 (nI i) u (fun a b => g (a, b)) x1 (nI 8)) _
      unfold gX0_layersOfPair_5_Ls
      rw [if_neg (by decide)]
      exact ok_some.mpr h1
  obtain ⟨v, e, h⟩ := main
  rw [e, h]
def trA (b : Nat → Int32) : Nat → Int32
  | 0 => 0
  | m + 1 => trA b m ||| b m
def trF (b : Nat → Int32) : Nat → Nat → Int32
  | 0, _ => -9
  | d + 1, m => if b m = 0 then nI m else trF b d (m + 1)
def trG (b : Nat → Int32) : Nat → Int32
  | 0 => -9
  | m + 1 => if trG b m < 0 then (if b m = 0 then nI m else trG b m) else trG b m
theorem trG_F (b : Nat → Int32) : ∀ d m, m + d < 2147483648 → (trG b m = -9 ∨ 0 ≤ (trG b m).toInt) → trG b (m + d) = if trG b m < 0 then trF b d m else trG b m := by
  intro d
  induction d with
  | zero =>
    intro m _ h
    rw [Nat.add_zero]
    by_cases c : trG b m < 0
    · rw [if_pos c]
      exact (neg_9 h).mp c
    · rw [if_neg c]
  | succ d ih =>
    intro m hm h
    have e : trG b (m + 1) = if trG b m < 0 then (if b m = 0 then nI m else trG b m) else trG b m := rfl
    have e2 : trF b (d + 1) m = if b m = 0 then nI m else trF b d (m + 1) := rfl
    rw [show m + (d + 1) = (m + 1) + d by omega]
    by_cases c : trG b m < 0
    · rw [if_pos c] at e
      rw [if_pos c, e2]
      by_cases c2 : b m = 0
      · rw [if_pos c2] at e
        have h2 : ¬ trG b (m + 1) < 0 := by rw [e, t_lt, i0, t_nI (by omega)]; omega
        rw [if_pos c2, ih (m + 1) (by omega) (Or.inr (by rw [e, t_nI (by omega)]; omega)), if_neg h2, e]
      · rw [if_neg c2] at e
        have h2 : trG b (m + 1) < 0 := by rw [e]; exact c
        rw [if_neg c2, ih (m + 1) (by omega) (by rw [e]; exact h), if_pos h2]
    · rw [if_neg c] at e
      have h2 : ¬ trG b (m + 1) < 0 := by rw [e]; exact c
      rw [if_neg c, ih (m + 1) (by omega) (by rw [e]; exact h), if_neg h2, e]
theorem dbl {m : Nat} (h : m < 100) : nI (2 * m) / 2 = nI m := by rw [show (2 : Int32) = nI 2 from rfl, dv_n (by omega) (by decide) (by decide), show 2 * m / 2 = m by omega]
theorem track_C {u : Mm} {b : Nat → Int32} {M : Nat} (hM : M ≤ 6) (en : u 54 0 = nI (2 * M)) (hb : ∀ m, m < M → gX0_layersOfPair 3 54 (nI (2 * m)) u = some (b m)) : gX0_layersThatFit 3 54 u = some (trA b M) ∧ gX0_firstPairWithoutLayer 3 54 u = some (trF b M 0) := by
  constructor
  · have main : Ok (gX0_layersThatFit 3 54 u) (fun v => v = trA b M) := by
      unfold gX0_layersThatFit gX0_layersThatFit_b
      refine loopS (fun m (s : Int32 × Int32) => gX0_layersThatFit_4_L 3 54 u m s.1 s.2) (fun g s => gX0_layersThatFit_4_Ls 3 54 u (fun a b => g (a, b)) s.1 s.2) (fun _ _ => rfl) _
        (fun m t => t.2 = nI (2 * m) ∧ t.1 = trA b m) M ?_ ?_ M 0 FU (0, 0) (by omega) (by unfold FU; omega) ⟨rfl, rfl⟩
      · rintro m ⟨x1, x2⟩ g hm ⟨h0, h1⟩ hg
        change x2 = nI (2 * m) at h0
        subst h0
        change x1 = _ at h1
        show Ok (gX0_layersThatFit_4_Ls 3 54 u (fun a b => g (a, b)) x1 (nI (2 * m))) _
        unfold gX0_layersThatFit_4_Ls
        rw [nI_s (by omega), en, if_pos (by rw [lt_nn (by omega) (by omega)]; omega), hb m hm, Option.bind_some, letv_eq, letv_eq, nI_p2 (by omega)]
        exact hg (x1 ||| b m, nI (2 * m + 2)) ⟨by rw [show 2 * (m + 1) = 2 * m + 2 by omega], by rw [h1]; rfl⟩
      · rintro ⟨x1, x2⟩ g ⟨h0, h1⟩
        change x2 = nI (2 * M) at h0
        subst h0
        show Ok (gX0_layersThatFit_4_Ls 3 54 u (fun a b => g (a, b)) x1 (nI (2 * M))) _
        unfold gX0_layersThatFit_4_Ls
        rw [nI_s (by omega), en, if_neg (by rw [lt_nn (by omega) (by omega)]; omega)]
        exact ok_some.mpr h1
    obtain ⟨v, e, h⟩ := main
    rw [e, h]
  · have main : Ok (gX0_firstPairWithoutLayer 3 54 u) (fun v => v = trF b M 0) := by
      unfold gX0_firstPairWithoutLayer gX0_firstPairWithoutLayer_b
      refine loopS (fun m (s : Int32) => gX0_firstPairWithoutLayer_2_L 3 54 u m s) (fun g s => gX0_firstPairWithoutLayer_2_Ls 3 54 u (fun a => g a) s) (fun _ _ => rfl) _
        (fun m t => t = nI (2 * m) ∧ m ≤ M ∧ trF b M 0 = trF b (M - m) m) M ?_ ?_ M 0 FU 0 (by omega) (by unfold FU; omega) ⟨rfl, Nat.zero_le _, rfl⟩
      · rintro m x g hm ⟨h0, _, h1⟩ hg
        subst h0
        show Ok (gX0_firstPairWithoutLayer_2_Ls 3 54 u (fun a => g a) (nI (2 * m))) _
        unfold gX0_firstPairWithoutLayer_2_Ls
        have e : M - m = (M - (m + 1)) + 1 := by omega
        have un : trF b ((M - (m + 1)) + 1) m = if b m = 0 then nI m else trF b (M - (m + 1)) (m + 1) := rfl
        rw [e, un] at h1
        rw [nI_s (by omega), en, if_pos (by rw [lt_nn (by omega) (by omega)]; omega), hb m hm, Option.bind_some, dbl (by omega)]
        refine ok_if (fun c => ?_) (fun c => ?_)
        · rw [if_pos c] at h1
          exact ok_some.mpr h1.symm
        · rw [if_neg c] at h1
          rw [letv_eq, nI_p2 (by omega)]
          exact hg (nI (2 * m + 2)) ⟨by rw [show 2 * (m + 1) = 2 * m + 2 by omega], by omega, h1⟩
      · rintro x g ⟨h0, _, h1⟩
        subst h0
        show Ok (gX0_firstPairWithoutLayer_2_Ls 3 54 u (fun a => g a) (nI (2 * M))) _
        unfold gX0_firstPairWithoutLayer_2_Ls
        rw [nI_s (by omega), en, if_neg (by rw [lt_nn (by omega) (by omega)]; omega)]
        refine ok_some.mpr ?_
        rw [h1, Nat.sub_self]
        rfl
    obtain ⟨v, e, h⟩ := main
    rw [e, h]
theorem c_track (w : Int32) (u : Mm) (hR : R u) : Both (gX10_track w u) (gX11_track w) := by
  obtain ⟨n, hn, en, em, hrow⟩ := hR.2.2.2.2.1
  obtain ⟨c1, c2, c3, c4, c5, c6, c7, c8, c9⟩ := hR.wc
  by_cases h3 : 0 ≤ w.toInt ∧ w.toInt ≤ 1
  · have g3 := in_t (x := w) (a := 0) (b := 1) h3
    have hm2 : irm (nI n) 2 = nI (n % 2) := by rw [show (2 : Int32) = nI 2 from rfl, rm_n (by omega) (by decide) (by decide)]
    have w0' := lt_f (a := w) (b := 0) (by rw [i0]; omega)
    have w1' := lt_f (a := 1) (b := w) (by rw [i1]; omega)
    by_cases hodd : n % 2 = 0
    · obtain ⟨M, rfl⟩ : ∃ M, n = 2 * M := ⟨n / 2, by omega⟩
      obtain ⟨b, hb⟩ : ∃ b : Nat → Int32, ∀ m, b m = btS (u 75) (u 76) (u 100) (2 * m) 8 := ⟨_, fun _ => rfl⟩
      have hC := track_C (u := u) (b := b) (M := M) (by omega) en (fun m hm => by rw [hb]; exact pairC (fun k hk => ⟨(c7 k hk).1, (c7 k hk).2.1⟩) en hn (by omega) (fun j hj => (hrow j hj).1))
      have hG := trG_F b M 0 (by omega) (Or.inl rfl)
      rw [Nat.zero_add, show trG b 0 = -9 from rfl, if_pos (by decide)] at hG
      refine Both_of (r := if w = 0 then trA b M else trF b M 0) hR ?_ (fun u1 hR1 e1 e2 hrl h74 => ?_)
      · unfold gX10_track gX10_track_b
        simp only [w0', w1', ↓reduceIte]
        rw [en, hm2, if_pos (show nI (2 * M % 2) = 0 by rw [hodd]; rfl), hC.1, hC.2, Option.bind_some, Option.bind_some]
        by_cases c : w = 0
        · rw [if_pos c, if_pos c]; exact ok_some.mpr ⟨rfl, Sm.rf u⟩
        · rw [if_neg c, if_neg c]; exact ok_some.mpr ⟨rfl, Sm.rf u⟩
      · have em1 : u1 74 58 = nI (2 * M) := (h74 58 (by decide)).trans em
        have r75 : thr u1 75 = u 75 := hrl 75 (by decide)
        have r76 : thr u1 76 = u 76 := hrl 76 (by decide)
        have r100 : thr u1 100 = u 100 := hrl 100 (by decide)
        have sm : Sm u1 (thr u1) := Sm_thrown u1 0
        unfold gX11_track gX11_track_b gX11_track_36
        rw [letv_eq, g3, Option.bind_some, if_neg (by decide), show stm u1 74 19 0 74 58 = nI (2 * M) from em1, hm2, if_neg (show ¬ nI (2 * M % 2) = 1 by rw [hodd]; decide), if_neg (by decide)]
        refine loopS (fun m (s : Int32 × Int32 × Int32 × Mm) => gX11_track_56_L w m s.1 s.2.1 s.2.2.1 s.2.2.2) (fun g s => gX11_track_56_Ls w (fun a b c d => g (a, b, c, d)) s.1 s.2.1 s.2.2.1 s.2.2.2) (fun _ _ => rfl) _
          (fun m t => t.2.2.1 = nI (2 * m) ∧ t.1 = trA b m ∧ t.2.1 = trG b m ∧ t.2.2.2 = thr u1) M ?_ ?_ M 0 FU (0, -9, 0, thr u1) (by omega) (by unfold FU; omega) ⟨rfl, rfl, rfl, rfl⟩
        · rintro m ⟨x1, x2, x3, x⟩ g hm ⟨h0, h1, h2, h4⟩ hg
          change x3 = nI (2 * m) at h0
          subst h0
          change x1 = _ at h1
          change x2 = _ at h2
          change x = thr u1 at h4
          subst h4
          show Ok (gX11_track_56_Ls w (fun a b c d => g (a, b, c, d)) x1 x2 (nI (2 * m)) (thr u1)) _
          unfold gX11_track_56_Ls
          rw [show thr u1 74 58 = nI (2 * M) from em1, if_pos (by rw [lt_nn (by omega) (by omega)]; omega)]
          refine loopS (fun k (s : Int32 × Int32 × Mm) => gX11_track_71_L (fun a b c d => g (a, b, c, d)) w x1 x2 (nI (2 * m)) k s.1 s.2.1 s.2.2) (fun g2 s => gX11_track_71_Ls (fun a b c d => g (a, b, c, d)) w x1 x2 (nI (2 * m)) (fun a b c => g2 (a, b, c)) s.1 s.2.1 s.2.2) (fun _ _ => rfl) _
            (fun k t => t.2.1 = nI k ∧ t.1 = btS (u 75) (u 76) (u 100) (2 * m) k ∧ t.2.2 = thr u1) 8 ?_ ?_ 8 0 FU (0, 0, thr u1) rfl (by decide) ⟨rfl, rfl, rfl⟩
          · rintro k ⟨y1, y2, y⟩ g2 hk ⟨h0, k1, k2⟩ hg2
            change y2 = nI k at h0
            subst h0
            change y1 = _ at k1
            change y = thr u1 at k2
            subst k2
            show Ok (gX11_track_71_Ls (fun a b c d => g (a, b, c, d)) w x1 x2 (nI (2 * m)) (fun a b c => g2 (a, b, c)) y1 (nI k) (thr u1)) _
            unfold gX11_track_71_Ls gX11_fitsLayer gX11_fitsLayer_b gX11_track_99
            have e : btS (u 75) (u 76) (u 100) (2 * m) (k + 1) = if u 75 k = u 100 (2 * m) - 50 ∧ u 76 k = u 100 (2 * m + 1) then btS (u 75) (u 76) (u 100) (2 * m) k ||| shl 1 (nI k) else btS (u 75) (u 76) (u 100) (2 * m) k := rfl
            rw [if_pos (show nI k < 8 by rw [show (8 : Int32) = nI 8 from rfl, lt_nn (by omega) (by omega)]; exact hk), gd_t (ix_nI hk (by decide)), gd_t (ix_nI (by omega) (by decide)), gd_t (ix_nI hk (by decide)), nI_s (show 2 * m + 1 < 2147483648 by omega), gd_t (ix_nI (by omega) (by decide)), ixn_nI (by omega), ixn_nI (by omega), ixn_nI (by omega), r75, r76, r100]
            have no : ¬ (u 75 k = u 100 (2 * m) - 50 ∧ u 76 k = u 100 (2 * m + 1)) → Ok (letv (y1 ||| 0) fun v => letv (nI k + 1) fun v2 => g2 (v, v2, thr u1)) (fun q => q.1 = (if w = 0 then trA b M else trF b M 0) ∧ Sm u1 q.2) := by
              intro h
              rw [if_neg h] at e
              rw [letv_eq, letv_eq, nI_s (by omega), Int32.or_zero]
              exact hg2 (y1, nI (k + 1), thr u1) ⟨rfl, by rw [e]; exact k1, rfl⟩
            by_cases ca : u 75 k = u 100 (2 * m) - 50
            · rw [if_pos ca]
              by_cases cb : u 76 k = u 100 (2 * m + 1)
              · rw [if_pos cb, Option.bind_some, if_neg (by decide), letv_eq, letv_eq, nI_s (by omega)]
                rw [if_pos ⟨ca, cb⟩] at e
                exact hg2 (y1 ||| shl 1 (nI k), nI (k + 1), thr u1) ⟨rfl, by rw [e, ← k1], rfl⟩
              · rw [if_neg cb, Option.bind_some, if_pos rfl]
                exact no (fun h => cb h.2)
            · rw [if_neg ca, Option.bind_some, if_pos rfl]
              exact no (fun h => ca h.1)
          · rintro ⟨y1, y2, y⟩ g2 ⟨h0, k1, k2⟩
            change y2 = nI 8 at h0
            subst h0
            change y1 = _ at k1
            change y = thr u1 at k2
            subst k2
            rw [← hb] at k1
            subst k1
            show Ok (gX11_track_71_Ls (fun a b c d => g (a, b, c, d)) w x1 x2 (nI (2 * m)) (fun a b c => g2 (a, b, c)) (b m) (nI 8) (thr u1)) _
            unfold gX11_track_71_Ls gX11_track_130 gX11_track_132
            have e : trG b (m + 1) = if trG b m < 0 then (if b m = 0 then nI m else trG b m) else trG b m := rfl
            have go : ∀ f : Int32, f = trG b (m + 1) → Ok (letv (nI (2 * m) + 2) fun v => g (x1 ||| b m, f, v, thr u1)) (fun q => q.1 = (if w = 0 then trA b M else trF b M 0) ∧ Sm u1 q.2) := by
              intro f hf
              rw [letv_eq, nI_p2 (by omega)]
              exact hg (x1 ||| b m, f, nI (2 * m + 2), thr u1) ⟨by rw [show 2 * (m + 1) = 2 * m + 2 by omega], by rw [h1]; rfl, hf, rfl⟩
            rw [if_neg (by decide), letv_eq, dbl (by omega), h2]
            refine ok_if (fun c => ok_if (fun c2 => go _ ?_) (fun c2 => go _ ?_)) (fun c => go _ ?_)
            · rw [e, if_pos c, if_pos c2]
            · rw [e, if_pos c, if_neg c2]
            · rw [e, if_neg c]
        · rintro ⟨x1, x2, x3, x⟩ g ⟨h0, h1, h2, h4⟩
          change x3 = nI (2 * M) at h0
          subst h0
          change x1 = _ at h1
          change x2 = _ at h2
          change x = thr u1 at h4
          subst h4
          show Ok (gX11_track_56_Ls w (fun a b c d => g (a, b, c, d)) x1 x2 (nI (2 * M)) (thr u1)) _
          unfold gX11_track_56_Ls
          rw [show thr u1 74 58 = nI (2 * M) from em1, if_neg (by rw [lt_nn (by omega) (by omega)]; omega), h1, h2, hG]
          by_cases c : w = 0
          · rw [if_pos c, if_pos c]; exact ok_some.mpr ⟨rfl, sm⟩
          · rw [if_neg c, if_neg c]; exact ok_some.mpr ⟨rfl, sm⟩
    · have hn1 : n % 2 = 1 := by omega
      refine Both_ref (k := 3) (r := -3) hR ?_ ?_
      · unfold gX10_track gX10_track_b
        simp only [w0', w1', ↓reduceIte]
        rw [en, hm2, hn1, if_neg (by decide), rC3]
        rfl
      · unfold gX11_track gX11_track_b gX11_track_36
        rw [letv_eq, g3, Option.bind_some, if_neg (by decide), show stm (rfC u 3) 74 19 0 74 58 = nI n from em, hm2, hn1, if_pos (by decide), if_pos (by decide), rM3]
        rfl
  · have g3 := in_f (x := w) (a := 0) (b := 1) h3
    refine Both_ref (k := 2) (r := -2) hR ?_ ?_
    · by_cases h0 : w.toInt < 0
      · simp only [gX10_track, gX10_track_b, gX10_track_9, lt_t (a := w) (b := 0) h0, rC2, bI_some, ↓reduceIte]
      · simp only [gX10_track, gX10_track_b, gX10_track_9, lt_f (a := w) (b := 0) h0, lt_t (a := 1) (b := w) (by rw [i1]; omega), rC2, bI_some, ↓reduceIte]
    · unfold gX11_track gX11_track_b gX11_track_36
      rw [letv_eq, g3, Option.bind_some, if_pos rfl, if_pos (by decide), rM2]
      rfl
