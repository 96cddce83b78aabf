/-! Calls: waitAt, meanWait. -/
theorem nI_m {a b : Nat} (h : a * b < 2147483648) (ha : a < 2147483648) (hb : b < 2147483648) : nI a * nI b = nI (a * b) := by
  refine of_nat ?_ h
  have e : ((a : Int)) * (b : Int) = ((a * b : Nat) : Int) := (Int.natCast_mul a b).symm
  rw [t_mul] <;> rw [t_nI ha, t_nI hb, e] <;> omega
def mnW (D : Nat → Nat → Nat) (p k : Nat) : Nat := if D p k < 1000000 then D p k else 99
def wsN (D : Nat → Nat → Nat) (r : Nat → Nat) (p : Nat) : Nat → Nat
  | 0 => 0
  | n + 1 => wsN D r p n + r n * mnW D p n
theorem mnW_le {W D : Nat → Nat → Nat} (hW : ∀ a b, a < 8 → b < 8 → W a b ≤ 99) (hD : DP W D) {p k : Nat} (hp : p < 8) (hk : k < 8) : mnW D p k ≤ 693 := by
  unfold mnW
  split
  · rename_i h
    exact hD.le hW hp hk h
  · omega
theorem wsN_le {W D : Nat → Nat → Nat} {r : Nat → Nat} (hW : ∀ a b, a < 8 → b < 8 → W a b ≤ 99) (hD : DP W D) (hr : ∀ k, k < 8 → r k ≤ 99) {p : Nat} (hp : p < 8) : ∀ n, n ≤ 8 → wsN D r p n ≤ n * 68607 := by
  intro n
  induction n with
  | zero => intro _; exact Nat.zero_le _
  | succ n ih =>
    intro hn
    have h1 := ih (by omega)
    have h2 := hr n (by omega)
    have h3 := mnW_le hW hD hp (k := n) (by omega)
    have h4 : r n * mnW D p n ≤ 99 * 693 := Nat.mul_le_mul h2 h3
    show wsN D r p n + r n * mnW D p n ≤ (n + 1) * 68607
    omega
def RwN (u : Mm) (c : Nat) (r : Nat → Nat) : Prop := ∀ k, k < 8 → u c k = nI (r k)
theorem at_8 {u : Mm} {r : Nat → Nat} {k : Nat} (e : u 54 0 = 8) (h : RwN u 55 r) (hk : k < 8) : gX7_at 54 (nI k) u = some (nI (r k)) := by
  rw [at_eq (n := 8) (by exact e) (by decide) hk, h k hk]
theorem waitC {u : Mm} {W D : Nat → Nat → Nat} {r : Nat → Nat} {p : Nat} (hW : ∀ a b, a < 8 → b < 8 → W a b ≤ 99) (hD : DP W D) (hr : ∀ k, k < 8 → r k ≤ 99) (hM : MtC u D) (e8 : u 54 0 = 8) (h55 : RwN u 55 r) (hp : p < 8) : gX8_waitFrom (nI p) 54 u = some (nI (wsN D r p 8)) := by
  have main : Ok (gX8_waitFrom (nI p) 54 u) (fun v => v = nI (wsN D r p 8)) := by
    unfold gX8_waitFrom gX8_waitFrom_b
    refine loopS (fun n (s : Int32 × Int32) => gX8_waitFrom_5_L 54 (nI p) u n s.1 s.2) (fun g s => gX8_waitFrom_5_Ls 54 (nI p) u (fun a b => g (a, b)) s.1 s.2) (fun _ _ => rfl) _
      (fun n s => s.2 = nI n ∧ s.1 = nI (wsN D r p n)) 8 ?_ ?_ 8 0 FU (0, 0) rfl (by decide) ⟨rfl, rfl⟩
    · rintro k ⟨x1, x2⟩ g hk ⟨h0, h1⟩ hg
      change x2 = nI k at h0
      subst h0
      change x1 = _ at h1
      subst h1
      show Ok (gX8_waitFrom_5_Ls 54 (nI p) u (fun a b => g (a, b)) (nI (wsN D r p k)) (nI k)) _
      unfold gX8_waitFrom_5_Ls gX8_waitFrom_42
      have l1 := hD.2.1 p k hp hk
      have l2 := wsN_le hW hD hr hp k (by omega)
      have l3 := hr k hk
      have l4 := mnW_le hW hD hp hk
      have l5 : r k * mnW D p k ≤ 99 * 693 := Nat.mul_le_mul l3 l4
      have go : ∀ m : Nat, m = mnW D p k → Ok (letv (nI (wsN D r p k) + nI (r k) * nI m) fun v => letv (nI k + 1) fun v2 => g (v, v2)) (fun v => v = nI (wsN D r p 8)) := by
        intro m hm
        rw [letv_eq, letv_eq, hm, nI_m (by omega) (by omega) (by omega), nI_a (by omega), nI_s (by omega)]
        exact hg (nI (wsN D r p k + r k * mnW D p k), nI (k + 1)) ⟨rfl, rfl⟩
      rw [if_pos (show nI k < 8 by rw [show (8 : Int32) = nI 8 from rfl, lt_nn (by omega) (by omega)]; exact hk), min_ok hM hp hk, Option.bind_some, at_8 e8 h55 hk, Option.bind_some]
      refine ok_if (fun c => go _ ?_) (fun c => go 99 ?_)
      · unfold mnW; rw [if_pos ((far_lt l1).mp c)]
      · unfold mnW; rw [if_neg (fun h => c ((far_lt l1).mpr h))]
    · rintro ⟨x1, x2⟩ g ⟨h0, h1⟩
      change x2 = nI 8 at h0
      subst h0
      show Ok (gX8_waitFrom_5_Ls 54 (nI p) u (fun a b => g (a, b)) x1 (nI 8)) _
      unfold gX8_waitFrom_5_Ls
      rw [if_neg (by decide)]
      exact ok_some.mpr h1
  obtain ⟨v, e, h⟩ := main
  rw [e, h]
theorem waitM {u : Mm} {W D : Nat → Nat → Nat} {r : Nat → Nat} {p : Nat} (hR : RdM u W) (hW : ∀ a b, a < 8 → b < 8 → W a b ≤ 99) (hD : DP W D) (hr : ∀ k, k < 8 → r k ≤ 99) (h100 : RwN u 100 r) (hp : p < 8) : Ok (gX11_waitSum (nI p) u) (fun q => q.1 = nI (wsN D r p 8) ∧ ∀ c, c ≠ 96 → q.2 c = u c) := by
  unfold gX11_waitSum gX11_waitSum_b
  rw [ok_bind]
  refine (drive_ok hR hW hD hp).mono ?_
  rintro v ⟨v1, v2⟩
  refine loopS (fun n (s : Int32 × Int32 × Mm) => gX11_waitSum_9_L n s.1 s.2.1 s.2.2) (fun g s => gX11_waitSum_9_Ls (fun a b c => g (a, b, c)) s.1 s.2.1 s.2.2) (fun _ _ => rfl) _
    (fun n s => s.2.1 = nI n ∧ s.1 = nI (wsN D r p n) ∧ s.2.2 = v) 8 ?_ ?_ 8 0 FU (0, 0, v) rfl (by decide) ⟨rfl, rfl, rfl⟩
  · rintro k ⟨x1, x2, x⟩ g hk ⟨h0, h1, h2⟩ hg
    change x2 = nI k at h0
    subst h0
    change x1 = _ at h1
    subst h1
    change x = v at h2
    subst h2
    show Ok (gX11_waitSum_9_Ls (fun a b c => g (a, b, c)) (nI (wsN D r p k)) (nI k) x) _
    unfold gX11_waitSum_9_Ls gX11_waitSum_45
    have l2 := wsN_le hW hD hr hp k (by omega)
    have l3 := hr k hk
    have l4 := mnW_le hW hD hp hk
    have l5 : r k * mnW D p k ≤ 99 * 693 := Nat.mul_le_mul l3 l4
    obtain ⟨t1, t2, t3⟩ := tD_99 (fun h => hD.le hW hp hk h)
    have go : ∀ m : Nat, m = mnW D p k → Ok (letv (nI (wsN D r p k) + nI (r k) * nI m) fun v => letv (nI k + 1) fun v2 => g (v, v2, x)) (fun q => q.1 = nI (wsN D r p 8) ∧ ∀ c, c ≠ 96 → q.2 c = u c) := by
      intro m hm
      rw [letv_eq, letv_eq, hm, nI_m (by omega) (by omega) (by omega), nI_a (by omega), nI_s (by omega)]
      exact hg (nI (wsN D r p k + r k * mnW D p k), nI (k + 1), x) ⟨rfl, rfl, rfl⟩
    rw [if_pos (show nI k < 8 by rw [show (8 : Int32) = nI 8 from rfl, lt_nn (by omega) (by omega)]; exact hk), gd_t (ix_nI (by omega) (by decide)), gd_t (ix_nI hk (by decide)), ixn_nI (by omega), v2 k hk, v1 100 (by decide), h100 k hk, gd_t (ix_nI hk (by decide))]
    refine ok_if (fun c => ?_) (fun c => go 99 ?_)
    · have cf := t1.mp c
      rw [tD_y cf]
      exact go _ (by unfold mnW; rw [if_pos cf])
    · unfold mnW; rw [if_neg (fun h => c (t1.mpr h))]
  · rintro ⟨x1, x2, x⟩ g ⟨h0, h1, h2⟩
    change x2 = nI 8 at h0
    subst h0
    change x = v at h2
    subst h2
    show Ok (gX11_waitSum_9_Ls (fun a b c => g (a, b, c)) x1 (nI 8) x) _
    unfold gX11_waitSum_9_Ls
    rw [if_neg (by decide)]
    exact ok_some.mpr ⟨h1, v1⟩
def wpN (f : Nat → Nat) : Nat → Nat × Nat
  | 0 => (0, f 0)
  | n + 1 => if f (n + 1) < (wpN f n).2 then (n + 1, f (n + 1)) else wpN f n
theorem wpN_le (f : Nat → Nat) : ∀ n, (wpN f n).1 ≤ n ∧ (wpN f n).2 = f (wpN f n).1 := by
  intro n
  induction n with
  | zero => exact ⟨Nat.le_refl _, rfl⟩
  | succ n ih =>
    by_cases c : f (n + 1) < (wpN f n).2
    · rw [show wpN f (n + 1) = (n + 1, f (n + 1)) from if_pos c]
      exact ⟨Nat.le_refl _, rfl⟩
    · rw [show wpN f (n + 1) = wpN f n from if_neg c]
      exact ⟨by omega, ih.2⟩
theorem placeC {u : Mm} {f : Nat → Nat} (hf : ∀ p, p < 8 → gX8_waitFrom (nI p) 54 u = some (nI (f p))) (hb : ∀ p, p < 8 → f p < 2147483648) : gX8_placeToWait 54 u = some (nI (wpN f 7).1) := by
  have main : Ok (gX8_placeToWait 54 u) (fun v => v = nI (wpN f 7).1) := by
    unfold gX8_placeToWait gX8_placeToWait_b
    rw [show gX8_waitFrom 0 54 u = some (nI (f 0)) from hf 0 (by decide), Option.bind_some]
    refine loopS (fun n (s : Int32 × Int32 × Int32) => gX8_placeToWait_12_L 54 u n s.1 s.2.1 s.2.2) (fun g s => gX8_placeToWait_12_Ls 54 u (fun a b c => g (a, b, c)) s.1 s.2.1 s.2.2) (fun _ _ => rfl) _
      (fun n s => s.2.2 = nI n ∧ 1 ≤ n ∧ s.1 = nI (wpN f (n - 1)).1 ∧ s.2.1 = nI (wpN f (n - 1)).2) 8 ?_ ?_ 7 1 FU (0, nI (f 0), 1) rfl (by decide) ⟨rfl, Nat.le_refl _, rfl, rfl⟩
    · rintro j ⟨x1, x2, x3⟩ g hj ⟨h0, hj1, h1, h2⟩ hg
      change x3 = nI j at h0
      subst h0
      obtain ⟨m, rfl⟩ : ∃ m, j = m + 1 := ⟨j - 1, by omega⟩
      rw [Nat.add_sub_cancel] at h1 h2
      change x1 = _ at h1
      change x2 = _ at h2
      subst h1
      subst h2
      show Ok (gX8_placeToWait_12_Ls 54 u (fun a b c => g (a, b, c)) (nI (wpN f m).1) (nI (wpN f m).2) (nI (m + 1))) _
      unfold gX8_placeToWait_12_Ls
      have e : wpN f (m + 1) = if f (m + 1) < (wpN f m).2 then (m + 1, f (m + 1)) else wpN f m := rfl
      have l1 := hb (m + 1) hj
      have l2 : (wpN f m).2 < 2147483648 := by rw [(wpN_le f m).2]; exact hb _ (by have := (wpN_le f m).1; omega)
      have cl : nI (f (m + 1)) < nI (wpN f m).2 ↔ f (m + 1) < (wpN f m).2 := by rw [lt_nn (by omega) (by omega)]
      rw [if_pos (show nI (m + 1) < 8 by rw [show (8 : Int32) = nI 8 from rfl, lt_nn (by omega) (by omega)]; exact hj), hf (m + 1) hj, Option.bind_some]
      refine ok_if (fun c => ?_) (fun c => ?_)
      · rw [if_pos (cl.mp c)] at e
        rw [letv_eq, nI_s (by omega)]
        exact hg (nI (m + 1), nI (f (m + 1)), nI (m + 1 + 1)) ⟨rfl, by omega, by rw [Nat.add_sub_cancel, e], by rw [Nat.add_sub_cancel, e]⟩
      · rw [if_neg (fun h => c (cl.mpr h))] at e
        rw [letv_eq, nI_s (by omega)]
        exact hg (nI (wpN f m).1, nI (wpN f m).2, nI (m + 1 + 1)) ⟨rfl, by omega, by rw [Nat.add_sub_cancel, e], by rw [Nat.add_sub_cancel, e]⟩
    · rintro ⟨x1, x2, x3⟩ g ⟨h0, _, h1, h2⟩
      change x3 = nI 8 at h0
      subst h0
      show Ok (gX8_placeToWait_12_Ls 54 u (fun a b c => g (a, b, c)) x1 x2 (nI 8)) _
      unfold gX8_placeToWait_12_Ls
      rw [if_neg (by decide)]
      exact ok_some.mpr h1
  obtain ⟨v, e, h⟩ := main
  rw [e, h]
theorem bestM {u : Mm} {f : Nat → Nat} (hf : ∀ p, p < 8 → ∀ v : Mm, (∀ c, c ≠ 96 → v c = u c) → Ok (gX11_waitSum (nI p) v) (fun q => q.1 = nI (f p) ∧ ∀ c, c ≠ 96 → q.2 c = v c)) (hb : ∀ p, p < 8 → f p < 2147483648) : Ok (gX11_waitBest u) (fun q => q.1 = nI (wpN f 7).1 ∧ ∀ c, c ≠ 96 → q.2 c = u c) := by
  unfold gX11_waitBest gX11_waitBest_b
  rw [ok_bI]
  refine (hf 0 (by decide) u (fun _ _ => rfl)).mono ?_
  rintro ⟨s, v⟩ ⟨h1, h2⟩
  change s = _ at h1
  subst h1
  change ∀ c, c ≠ 96 → v c = u c at h2
  refine loopS (fun n (s : Int32 × Int32 × Int32 × Mm) => gX11_waitBest_10_L n s.1 s.2.1 s.2.2.1 s.2.2.2) (fun g s => gX11_waitBest_10_Ls (fun a b c d => g (a, b, c, d)) s.1 s.2.1 s.2.2.1 s.2.2.2) (fun _ _ => rfl) _
    (fun n s => s.2.2.1 = nI n ∧ 1 ≤ n ∧ s.1 = nI (wpN f (n - 1)).1 ∧ s.2.1 = nI (wpN f (n - 1)).2 ∧ ∀ c, c ≠ 96 → s.2.2.2 c = u c) 8 ?_ ?_ 7 1 FU (0, nI (f 0), 1, v) rfl (by decide) ⟨rfl, Nat.le_refl _, rfl, rfl, h2⟩
  · rintro j ⟨x1, x2, x3, x⟩ g hj ⟨h0, hj1, k1, k2, k3⟩ hg
    change x3 = nI j at h0
    subst h0
    obtain ⟨m, rfl⟩ : ∃ m, j = m + 1 := ⟨j - 1, by omega⟩
    rw [Nat.add_sub_cancel] at k1 k2
    change x1 = _ at k1
    change x2 = _ at k2
    subst k1
    subst k2
    show Ok (gX11_waitBest_10_Ls (fun a b c d => g (a, b, c, d)) (nI (wpN f m).1) (nI (wpN f m).2) (nI (m + 1)) x) _
    unfold gX11_waitBest_10_Ls
    have e : wpN f (m + 1) = if f (m + 1) < (wpN f m).2 then (m + 1, f (m + 1)) else wpN f m := rfl
    have l1 := hb (m + 1) hj
    have l2 : (wpN f m).2 < 2147483648 := by rw [(wpN_le f m).2]; exact hb _ (by have := (wpN_le f m).1; omega)
    have cl : nI (f (m + 1)) < nI (wpN f m).2 ↔ f (m + 1) < (wpN f m).2 := by rw [lt_nn (by omega) (by omega)]
    rw [if_pos (show nI (m + 1) < 8 by rw [show (8 : Int32) = nI 8 from rfl, lt_nn (by omega) (by omega)]; exact hj), ok_bI]
    refine (hf (m + 1) hj x k3).mono ?_
    rintro ⟨s, y⟩ ⟨p1, p2⟩
    change s = _ at p1
    subst p1
    change ∀ c, c ≠ 96 → y c = x c at p2
    have ky : ∀ c, c ≠ 96 → y c = u c := fun c hc => (p2 c hc).trans (k3 c hc)
    unfold gX11_waitBest_34 gX11_waitBest_47
    refine ok_if (fun c => ?_) (fun c => ?_)
    · rw [if_pos (cl.mp c)] at e
      rw [if_pos c, letv_eq, nI_s (by omega)]
      exact hg (nI (m + 1), nI (f (m + 1)), nI (m + 1 + 1), y) ⟨rfl, by omega, by rw [Nat.add_sub_cancel, e], by rw [Nat.add_sub_cancel, e], ky⟩
    · rw [if_neg (fun h => c (cl.mpr h))] at e
      rw [if_neg c, letv_eq, nI_s (by omega)]
      exact hg (nI (wpN f m).1, nI (wpN f m).2, nI (m + 1 + 1), y) ⟨rfl, by omega, by rw [Nat.add_sub_cancel, e], by rw [Nat.add_sub_cancel, e], ky⟩
  · rintro ⟨x1, x2, x3, x⟩ g ⟨h0, _, k1, k2, k3⟩
    change x3 = nI 8 at h0
    subst h0
    show Ok (gX11_waitBest_10_Ls (fun a b c d => g (a, b, c, d)) x1 x2 (nI 8) x) _
    unfold gX11_waitBest_10_Ls
    rw [if_neg (by decide)]
    exact ok_some.mpr ⟨k1, k3⟩
theorem row_8 {u : Mm} (hR : R u) (h8 : u 54 0 = 8) : ∃ r : Nat → Nat, (∀ k, k < 8 → r k ≤ 99) ∧ RwN u 55 r ∧ RwN u 100 r ∧ u 74 58 = 8 := by
  obtain ⟨n, hn, en, em, hrow⟩ := hR.2.2.2.2.1
  have n8 : n = 8 := by
    have := congrArg Int32.toInt (en.symm.trans h8)
    rw [t_nI (by omega), i8] at this
    omega
  subst n8
  refine ⟨fun k => (u 55 k).toInt.toNat, fun k hk => ?_, fun k hk => ?_, fun k hk => ?_, em⟩
  · obtain ⟨-, h1, h2⟩ := hrow k hk
    show (u 55 k).toInt.toNat ≤ 99
    omega
  · obtain ⟨-, h1, h2⟩ := hrow k hk
    obtain ⟨m, e, hm⟩ := nI_upto (N := 99) h1 h2
    show u 55 k = nI ((u 55 k).toInt.toNat)
    rw [e, t_nI (by omega), Int.toNat_natCast]
  · obtain ⟨e0, h1, h2⟩ := hrow k hk
    obtain ⟨m, e, hm⟩ := nI_upto (N := 99) h1 h2
    show u 100 k = nI ((u 55 k).toInt.toNat)
    rw [← e0, e, t_nI (by omega), Int.toNat_natCast]
theorem row_n8 {u : Mm} (hR : R u) (h8 : ¬ u 54 0 = 8) : ¬ u 74 58 = 8 := by
  obtain ⟨n, hn, en, em, hrow⟩ := hR.2.2.2.2.1
  rw [em, ← en]
  exact h8
theorem c_waitAt (u : Mm) (hR : R u) : Both (gX10_waitAt u) gX11_waitAt := by
  by_cases h8 : u 54 0 = 8
  · obtain ⟨r, hr, h55, h100, e58⟩ := row_8 hR h8
    obtain ⟨W, c, hW, rC, rM, hc, e12, e74, -⟩ := roads_of hR
    obtain ⟨x, ex, fx, D, hD, hM⟩ := measure_ok rC hW
    have hbnd : ∀ p, p < 8 → wsN D r p 8 < 2147483648 := fun p hp => by have := wsN_le hW hD hr hp 8 (Nat.le_refl _); omega
    refine Both_of (r := nI (wpN (fun p => wsN D r p 8) 7).1) hR ?_ (fun u1 hR1 e1 e2 hrl h74 => ?_)
    · unfold gX10_waitAt gX10_waitAt_b
      have x55 : RwN x 55 r := fun k hk => by rw [fx 55 (by decide)]; exact h55 k hk
      rw [if_pos h8, ex, Option.bind_some, placeC (f := fun p => wsN D r p 8) (fun p hp => waitC hW hD hr hM (by rw [fx 54 (by decide)]; exact h8) x55 hp) hbnd]
      exact ok_some.mpr ⟨rfl, Sm_72 (fun c h _ => fx c h)⟩
    · unfold gX11_waitAt gX11_waitAt_b
      rw [letv_eq, if_pos (show stm u1 74 19 0 74 58 = 8 from (h74 58 (by decide)).trans e58), ok_bI]
      have r83 : RdM (thr u1) W := rM.of ((thr_c (by decide)).trans (hrl 83 (by decide)))
      have r100 : RwN (thr u1) 100 r := fun k hk => by rw [thr_c (by decide), hrl 100 (by decide)]; exact h100 k hk
      refine (bestM (u := thr u1) (f := fun p => wsN D r p 8) (fun p hp v hv => waitM (r83.of (hv 83 (by decide))) hW hD hr (fun k hk => by rw [hv 100 (by decide)]; exact r100 k hk) hp) hbnd).mono ?_
      rintro ⟨s, y⟩ ⟨y1, y2⟩
      exact ok_some.mpr ⟨y1, Sm_96 (fun c h => y2 c (fun e => h (by rw [e]; decide)))⟩
  · have h58 := row_n8 hR h8
    refine Both_ref (k := 3) (r := -3) hR ?_ ?_
    · unfold gX10_waitAt gX10_waitAt_b
      rw [if_neg h8, rC3]
      rfl
    · unfold gX11_waitAt gX11_waitAt_b
      rw [letv_eq, if_neg (show ¬ stm (rfC u 3) 74 19 0 74 58 = 8 from h58), rM3]
      rfl
