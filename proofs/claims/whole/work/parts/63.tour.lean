/-! Calls: tour. -/
def tB (s k : Nat) : Bool := s / 2 ^ k % 2 == 1
def pcN (s : Nat) : Nat := s % 2 + s / 2 % 2 + s / 4 % 2 + s / 8 % 2 + s / 16 % 2 + s / 32 % 2 + s / 64 % 2 + s / 128 % 2
theorem tB_lt {s k : Nat} (h : tB s k = true) : s - 2 ^ k < s := by
  unfold tB at h
  have h1 : s / 2 ^ k % 2 = 1 := by simpa using h
  have h2 : 0 < 2 ^ k := Nat.pow_pos (by decide)
  have h3 : s ≠ 0 := by
    intro e
    rw [e, Nat.zero_div] at h1
    exact absurd h1 (by decide)
  omega
def mnF (f : Nat → Nat) : Nat → Nat
  | 0 => 1000000
  | n + 1 => if f n < mnF f n then f n else mnF f n
theorem mnF_le (f : Nat → Nat) : ∀ n, mnF f n ≤ 1000000 := by
  intro n
  induction n with
  | zero => exact Nat.le_refl _
  | succ n ih =>
    show (if f n < mnF f n then f n else mnF f n) ≤ 1000000
    split <;> omega
theorem mnF_ex (f : Nat → Nat) : ∀ n, mnF f n < 1000000 → ∃ k, k < n ∧ f k = mnF f n := by
  intro n
  induction n with
  | zero => intro h; exact absurd h (show ¬ (1000000 : Nat) < 1000000 by decide)
  | succ n ih =>
    show (if f n < mnF f n then f n else mnF f n) < 1000000 → ∃ k, k < n + 1 ∧ f k = (if f n < mnF f n then f n else mnF f n)
    by_cases c : f n < mnF f n
    · rw [if_pos c]
      exact fun _ => ⟨n, Nat.lt_succ_self n, rfl⟩
    · rw [if_neg c]
      intro h
      obtain ⟨k, hk, e⟩ := ih h
      exact ⟨k, by omega, e⟩
def TM (D : Nat → Nat → Nat) (s p : Nat) : Nat := if s = 0 then 0 else mnF (fun k => if h : tB s k = true then D p k + TM D (s - 2 ^ k) k else 1000000) 8
termination_by s
decreasing_by exact tB_lt h
def FX (D : Nat → Nat → Nat) (s p k : Nat) : Nat := if tB s k = true then D p k + TM D (s - 2 ^ k) k else 1000000
theorem TM_0 (D : Nat → Nat → Nat) (p : Nat) : TM D 0 p = 0 := by rw [TM, if_pos rfl]
theorem TM_eq {D : Nat → Nat → Nat} {s p : Nat} (h : s ≠ 0) : TM D s p = mnF (FX D s p) 8 := by
  rw [TM, if_neg h]
  congr 1
theorem bits : ∀ s : Nat, s < 256 → ∀ k : Nat, k < 8 → (((shr (nI s) (nI k)) &&& 1 = 1) ↔ tB s k = true) ∧ (nI s &&& ((shl 1 (nI k)) ^^^ (-1))) = nI (if tB s k = true then s - 2 ^ k else s) ∧ (tB s k = true → pcN (s - 2 ^ k) + 1 = pcN s) := by decide +kernel
theorem pcN_8 : ∀ s : Nat, s < 256 → pcN s ≤ 8 := by decide +kernel
theorem bitT {s k : Nat} (hs : s < 256) (hk : k < 8) (h : tB s k = true) : (shr (nI s) (nI k)) &&& 1 = 1 := (bits s hs k hk).1.mpr h
theorem bitF {s k : Nat} (hs : s < 256) (hk : k < 8) (h : ¬ tB s k = true) : ¬ (shr (nI s) (nI k)) &&& 1 = 1 := fun e => h ((bits s hs k hk).1.mp e)
theorem bitM {s k : Nat} (hs : s < 256) (hk : k < 8) (h : tB s k = true) : (nI s &&& ((shl 1 (nI k)) ^^^ (-1))) = nI (s - 2 ^ k) := by rw [(bits s hs k hk).2.1, if_pos h]
theorem TM_le {W D : Nat → Nat → Nat} (hW : ∀ a b, a < 8 → b < 8 → W a b ≤ 99) (hD : DP W D) : ∀ s, s < 256 → ∀ p, p < 8 → TM D s p ≤ 1000000 ∧ (TM D s p < 1000000 → TM D s p ≤ 693 * pcN s) := by
  intro s
  induction s using Nat.strongRecOn with
  | _ s ih =>
    intro hs p hp
    by_cases e : s = 0
    · subst e
      rw [TM_0]
      exact ⟨by decide, fun _ => Nat.zero_le _⟩
    · rw [TM_eq e]
      refine ⟨mnF_le _ _, fun h => ?_⟩
      obtain ⟨k, hk, ek⟩ := mnF_ex _ _ h
      rw [← ek] at h ⊢
      unfold FX at h ⊢
      by_cases c : tB s k = true
      · rw [if_pos c] at h ⊢
        have l1 := tB_lt c
        have l2 := ih (s - 2 ^ k) l1 (by omega) k hk
        have l3 := (bits s hs k hk).2.2 c
        have l4 := hD.le hW hp hk (by omega)
        have l5 := l2.2 (by omega)
        rw [← l3, Nat.mul_add]
        omega
      · rw [if_neg c] at h
        omega
theorem TM_b {W D : Nat → Nat → Nat} (hW : ∀ a b, a < 8 → b < 8 → W a b ≤ 99) (hD : DP W D) {s p : Nat} (hs : s < 256) (hp : p < 8) : TM D s p ≤ 1000000 ∧ (TM D s p < 1000000 → TM D s p ≤ 5544) := by
  obtain ⟨h1, h2⟩ := TM_le hW hD s hs p hp
  have := pcN_8 s hs
  exact ⟨h1, fun h => by have := h2 h; omega⟩
def Sb (s o : Nat) : Prop := (nI s &&& (nI o ^^^ (-1))) = 0
theorem Sb_self : ∀ o : Nat, o < 256 → (nI o &&& (nI o ^^^ (-1))) = 0 := by decide +kernel
theorem Sb_rm {s k o : Nat} (hs : s < 256) (hk : k < 8) (hb : tB s k = true) (h : Sb s o) : Sb (s - 2 ^ k) o := by
  unfold Sb at h ⊢
  rw [← bitM hs hk hb, Int32.and_assoc, Int32.and_comm (shl 1 (nI k) ^^^ -1), ← Int32.and_assoc, h, Int32.zero_and]
theorem ixS {s k : Nat} (hs : s < 256) (hk : k < 8) : nI s * 8 + nI k = nI (8 * s + k) := by
  rw [show (8 : Int32) = nI 8 from rfl, nI_m (by omega) (by omega) (by omega), nI_a (by omega), Nat.mul_comm]
theorem ixS2 {s k : Nat} (hs : s < 256) (hk : k < 8) : 8 * nI s + nI k = nI (8 * s + k) := by
  rw [show (8 : Int32) = nI 8 from rfl, nI_m (by omega) (by omega) (by omega), nI_a (by omega)]
theorem lt8 {k : Nat} (hk : k < 8) : nI k < 8 := by rw [show (8 : Int32) = nI 8 from rfl, lt_nn (by omega) (by omega)]; exact hk
theorem pl8 {k : Nat} (hk : k < 8) : 0 ≤ (nI k).toInt ∧ (nI k).toInt < 8 := by rw [t_nI (by omega)]; omega
theorem rest_C {u : Mm} {s k : Nat} (hs : s < 256) (hk : k < 8) : gX8_restOf (nI s) (nI k) u = some (u 73 (8 * s + k)) := by
  unfold gX8_restOf gX8_restOf_b
  have n0 : ¬ nI s < 0 := fun h => by rw [t_lt, i0, t_nI (by omega)] at h; omega
  have n1 : nI s < 256 := by rw [show (256 : Int32) = nI 256 from rfl, lt_nn (by omega) (by omega)]; exact hs
  rw [if_neg n0, if_pos n1, isPlace_t (pl8 hk), Option.bind_some, if_neg (by decide), ixS hs hk, gd_t (ix_nI (by omega) (by decide)), ixn_nI (by omega)]
theorem through_C {u : Mm} {D : Nat → Nat → Nat} {s p k : Nat} (hM : MtC u D) (hs : s < 256) (hp : p < 8) (hk : k < 8) (hb : tB s k = true) (hl : D p k ≤ 1000000 ∧ TM D (s - 2 ^ k) k ≤ 1000000) (h : u 73 (8 * (s - 2 ^ k) + k) = nI (TM D (s - 2 ^ k) k)) : gX8_throughFirst (nI p) (nI k) (nI s) u = some (nI (D p k + TM D (s - 2 ^ k) k)) := by
  unfold gX8_throughFirst gX8_throughFirst_b
  rw [min_ok hM hp hk, Option.bind_some, bitM hs hk hb, rest_C (Nat.lt_trans (tB_lt hb) hs) hk, Option.bind_some, h, nI_a (by omega)]
theorem few_C {u : Mm} {W D : Nat → Nat → Nat} {s p : Nat} (hW : ∀ a b, a < 8 → b < 8 → W a b ≤ 99) (hD : DP W D) (hM : MtC u D) (hs : s < 256) (hp : p < 8) (h : ∀ k, k < 8 → tB s k = true → u 73 (8 * (s - 2 ^ k) + k) = nI (TM D (s - 2 ^ k) k)) : gX8_fewestFrom (nI p) (nI s) u = some (nI (mnF (FX D s p) 8)) := by
  have main : Ok (gX8_fewestFrom (nI p) (nI s) u) (fun v => v = nI (mnF (FX D s p) 8)) := by
    unfold gX8_fewestFrom gX8_fewestFrom_b
    refine loopS (fun n (s2 : Int32 × Int32) => gX8_fewestFrom_6_L (nI p) (nI s) u n s2.1 s2.2) (fun g s2 => gX8_fewestFrom_6_Ls (nI p) (nI s) u (fun a b => g (a, b)) s2.1 s2.2) (fun _ _ => rfl) _
      (fun n s2 => s2.2 = nI n ∧ s2.1 = nI (mnF (FX D s p) n)) 8 ?_ ?_ 8 0 FU (1000000, 0) rfl (by decide) ⟨rfl, rfl⟩
    · rintro k ⟨x1, x2⟩ g hk ⟨h0, h1⟩ hg
      change x2 = nI k at h0
      subst h0
      change x1 = _ at h1
      subst h1
      show Ok (gX8_fewestFrom_6_Ls (nI p) (nI s) u (fun a b => g (a, b)) (nI (mnF (FX D s p) k)) (nI k)) _
      unfold gX8_fewestFrom_6_Ls
      rw [if_pos (lt8 hk)]
      have e : mnF (FX D s p) (k + 1) = if FX D s p k < mnF (FX D s p) k then FX D s p k else mnF (FX D s p) k := rfl
      have l0 := mnF_le (FX D s p) k
      by_cases c : tB s k = true
      · have l1 := hD.2.1 p k hp hk
        have l2 := (TM_b hW hD (Nat.lt_trans (tB_lt c) hs) hk).1
        have ef : FX D s p k = D p k + TM D (s - 2 ^ k) k := if_pos c
        rw [if_pos (bitT hs hk c), through_C hM hs hp hk c ⟨l1, l2⟩ (h k hk c), Option.bind_some, ← ef, letv_eq, letv_eq, nI_s (by omega)]
        refine hg (imin (nI (mnF (FX D s p) k)) (nI (FX D s p k)), nI (k + 1)) ⟨rfl, ?_⟩
        show imin _ _ = _
        have cl : nI (FX D s p k) < nI (mnF (FX D s p) k) ↔ FX D s p k < mnF (FX D s p) k := by rw [lt_nn (by omega) (by omega)]
        unfold imin
        rw [e]
        by_cases c2 : FX D s p k < mnF (FX D s p) k
        · rw [if_pos c2, if_pos (cl.mpr c2)]
        · rw [if_neg c2, if_neg (fun h => c2 (cl.mp h))]
      · have ef : FX D s p k = 1000000 := if_neg c
        rw [if_neg (bitF hs hk c), letv_eq, nI_s (by omega)]
        exact hg (nI (mnF (FX D s p) k), nI (k + 1)) ⟨rfl, by rw [e, if_neg (by omega)]⟩
    · rintro ⟨x1, x2⟩ g ⟨h0, h1⟩
      change x2 = nI 8 at h0
      subst h0
      show Ok (gX8_fewestFrom_6_Ls (nI p) (nI s) u (fun a b => g (a, b)) x1 (nI 8)) _
      unfold gX8_fewestFrom_6_Ls
      rw [if_neg (by decide)]
      exact ok_some.mpr h1
  obtain ⟨v, e, h⟩ := main
  rw [e, h]
def TabC (u : Mm) (D : Nat → Nat → Nat) (o n : Nat) : Prop := ∀ s, s < n → Sb s o → ∀ p, p < 8 → u 73 (8 * s + p) = nI (TM D s p)
theorem seek_C {u : Mm} {W D : Nat → Nat → Nat} {o : Nat} (hW : ∀ a b, a < 8 → b < 8 → W a b ≤ 99) (hD : DP W D) (hM : MtC u D) : Ok (gX8_seekTours (nI o) u) (fun u' => (∀ c, c ≠ 73 → u' c = u c) ∧ TabC u' D o 256) := by
  unfold gX8_seekTours gX8_seekTours_b
  refine loopS (fun n (s : Int32 × Mm) => gX8_seekTours_2_L (nI o) n s.1 s.2) (fun g s => gX8_seekTours_2_Ls (nI o) (fun a b => g (a, b)) s.1 s.2) (fun _ _ => rfl) _
    (fun n s => s.1 = nI n ∧ (∀ c, c ≠ 73 → s.2 c = u c) ∧ TabC s.2 D o n) 256 ?_ ?_ 256 0 FU (0, u) rfl (by decide) ⟨rfl, fun _ _ => rfl, fun s h => absurd h (Nat.not_lt_zero _)⟩
  · rintro n ⟨x1, x⟩ g hn ⟨h0, h1, h2⟩ hg
    change x1 = nI n at h0
    subst h0
    show Ok (gX8_seekTours_2_Ls (nI o) (fun a b => g (a, b)) (nI n) x) _
    unfold gX8_seekTours_2_Ls
    rw [if_pos (show nI n < 256 by rw [show (256 : Int32) = nI 256 from rfl, lt_nn (by omega) (by omega)]; exact hn)]
    refine loopS (fun m (s : Int32 × Mm) => gX8_seekTours_11_L (fun a b => g (a, b)) (nI o) (nI n) m s.1 s.2) (fun g2 s => gX8_seekTours_11_Ls (fun a b => g (a, b)) (nI o) (nI n) (fun a b => g2 (a, b)) s.1 s.2) (fun _ _ => rfl) _
      (fun p s => s.1 = nI p ∧ (∀ c, c ≠ 73 → s.2 c = u c) ∧ TabC s.2 D o n ∧ (Sb n o → ∀ q, q < p → s.2 73 (8 * n + q) = nI (TM D n q))) 8 ?_ ?_ 8 0 FU (0, x) rfl (by decide) ⟨rfl, h1, h2, fun _ q h => absurd h (Nat.not_lt_zero _)⟩
    · rintro p ⟨y1, y⟩ g2 hp ⟨h0, k1, k2, k3⟩ hg2
      change y1 = nI p at h0
      subst h0
      change ∀ c, c ≠ 73 → y c = u c at k1
      change TabC y D o n at k2
      change Sb n o → ∀ q, q < p → y 73 (8 * n + q) = nI (TM D n q) at k3
      show Ok (gX8_seekTours_11_Ls (fun a b => g (a, b)) (nI o) (nI n) (fun a b => g2 (a, b)) (nI p) y) _
      unfold gX8_seekTours_11_Ls
      rw [if_pos (lt8 hp)]
      refine ok_if (fun c => ?_) (fun c => ?_)
      · have cs : Sb n o := c
        have fin : ∀ v : Nat, v = TM D n p → Ok (gX8_seekTours_49 (fun a b => g (a, b)) (fun a b => g2 (a, b)) (nI o) (nI n) (nI p) (nI v) (nI n * 8 + nI p) y) (fun u' => (∀ c, c ≠ 73 → u' c = u c) ∧ TabC u' D o 256) := by
          intro v hv
          unfold gX8_seekTours_49
          rw [ixS hn hp, gd_t (ix_nI (by omega) (by decide)), ixn_nI (by omega), letv_eq, letv_eq, nI_s (by omega)]
          refine hg2 (nI (p + 1), stm y 73 (8 * n + p) (nI v)) ⟨rfl, fun c hc => (stm_c hc).trans (k1 c hc), fun s hs hS q hq => ?_, fun _ q hq => ?_⟩
          · show stm y 73 (8 * n + p) (nI v) 73 (8 * s + q) = _
            rw [stm_s (by omega)]
            exact k2 s hs hS q hq
          · show stm y 73 (8 * n + p) (nI v) 73 (8 * n + q) = _
            by_cases e : q = p
            · rw [e, stm_r, hv]
            · rw [stm_s (by omega)]
              exact k3 cs q (by omega)
        have My : MtC y D := fun a b ha hb => by rw [k1 72 (by decide)]; exact hM a b ha hb
        refine ok_if (fun c0 => fin 0 ?_) (fun c0 => ?_)
        · have : n = 0 := by
            have := congrArg Int32.toInt c0
            rw [t_nI (by omega), i0] at this
            omega
          rw [this, TM_0]
        · have n0 : n ≠ 0 := fun e => c0 (by rw [e]; rfl)
          rw [few_C hW hD My hn hp (fun k hk hb => k2 (n - 2 ^ k) (tB_lt hb) (Sb_rm hn hk hb cs) k hk), Option.bind_some]
          exact fin _ (TM_eq n0).symm
      · rw [letv_eq, nI_s (by omega)]
        refine hg (nI (n + 1), y) ⟨rfl, k1, fun s hs hS q hq => ?_⟩
        have : s ≠ n := fun e => c (by rw [e] at hS; exact hS)
        exact k2 s (by omega) hS q hq
    · rintro ⟨y1, y⟩ g2 ⟨h0, k1, k2, k3⟩
      change y1 = nI 8 at h0
      subst h0
      show Ok (gX8_seekTours_11_Ls (fun a b => g (a, b)) (nI o) (nI n) (fun a b => g2 (a, b)) (nI 8) y) _
      unfold gX8_seekTours_11_Ls
      rw [if_neg (by decide), letv_eq, nI_s (by omega)]
      refine hg (nI (n + 1), y) ⟨rfl, k1, fun s hs hS q hq => ?_⟩
      by_cases e : s = n
      · subst e
        exact k3 hS q hq
      · exact k2 s (by omega) hS q hq
  · rintro ⟨x1, x⟩ g ⟨h0, h1, h2⟩
    change x1 = nI 256 at h0
    subst h0
    show Ok (gX8_seekTours_2_Ls (nI o) (fun a b => g (a, b)) (nI 256) x) _
    unfold gX8_seekTours_2_Ls
    rw [if_neg (by decide)]
    exact ok_some.mpr ⟨h1, h2⟩
/-- the reference's tours -/
def BtM (u : Mm) (D : Nat → Nat → Nat) : Prop := ∀ a b, a < 8 → b < 8 → u 98 (8 * a + b) = nI (tD (D a b))
def TabM (u : Mm) (D : Nat → Nat → Nat) (n : Nat) : Prop := ∀ s, s < n → ∀ p, p < 8 → u 99 (8 * s + p) = nI (tD (TM D s p))
def vM (D : Nat → Nat → Nat) (s p k : Nat) : Nat := if s = 0 then 0 else tD (mnF (FX D s p) k)
theorem vM_le {D : Nat → Nat → Nat} {s p k : Nat} : vM D s p k ≤ 1000000 := by
  unfold vM tD
  have := mnF_le (FX D s p) k
  split
  · omega
  · split <;> omega
theorem vM_8 {D : Nat → Nat → Nat} {s p : Nat} : vM D s p 8 = tD (TM D s p) := by
  unfold vM
  by_cases e : s = 0
  · rw [if_pos e, e, TM_0]
    rfl
  · rw [if_neg e, TM_eq e]
theorem vM_s {W D : Nat → Nat → Nat} {s p k : Nat} (hW : ∀ a b, a < 8 → b < 8 → W a b ≤ 99) (hD : DP W D) (hs : s < 256) (hp : p < 8) (hk : k < 8) (hb : tB s k = true) (hf : D p k < 1000000) : vM D s p (k + 1) = if tD (D p k) + tD (TM D (s - 2 ^ k) k) < vM D s p k then tD (D p k) + tD (TM D (s - 2 ^ k) k) else vM D s p k := by
  have l := tB_lt hb
  obtain ⟨l1, l2⟩ := TM_b hW hD (show s - 2 ^ k < 256 by omega) hk
  have l3 := hD.le hW hp hk hf
  have l4 : mnF (FX D s p) k < 1000000 → mnF (FX D s p) k ≤ 6237 := by
    intro h
    obtain ⟨j, hj, ej⟩ := mnF_ex _ _ h
    rw [← ej] at h ⊢
    unfold FX at h ⊢
    by_cases c : tB s j = true
    · rw [if_pos c] at h ⊢
      have := tB_lt c
      have m1 := (TM_b hW hD (show s - 2 ^ j < 256 by omega) (show j < 8 by omega)).2 (by omega)
      have m2 := hD.le hW hp (show j < 8 by omega) (by omega)
      omega
    · rw [if_neg c] at h
      omega
  have ef : FX D s p k = D p k + TM D (s - 2 ^ k) k := if_pos hb
  have e : mnF (FX D s p) (k + 1) = if FX D s p k < mnF (FX D s p) k then FX D s p k else mnF (FX D s p) k := rfl
  have l5 := mnF_le (FX D s p) k
  unfold vM
  rw [if_neg (show ¬ s = 0 by omega), if_neg (show ¬ s = 0 by omega), e, ef]
  rw [tD_y hf]
  by_cases c1 : TM D (s - 2 ^ k) k < 1000000
  · rw [tD_y c1]
    have := l2 c1
    by_cases c2 : mnF (FX D s p) k < 1000000
    · rw [tD_y c2]
      by_cases c3 : D p k + TM D (s - 2 ^ k) k < mnF (FX D s p) k
      · rw [if_pos c3, tD_y (by omega)]
      · rw [if_neg c3, tD_y c2]
    · rw [tD_n c2, if_pos (by omega), if_pos (by omega), tD_y (by omega)]
  · rw [tD_n c1, if_neg (by omega), if_neg]
    unfold tD
    split <;> omega
theorem vM_k {W D : Nat → Nat → Nat} {s p k : Nat} (hb : ¬ (tB s k = true ∧ D p k < 1000000)) : vM D s p (k + 1) = vM D s p k := by
  unfold vM
  have e : mnF (FX D s p) (k + 1) = if FX D s p k < mnF (FX D s p) k then FX D s p k else mnF (FX D s p) k := rfl
  have l5 := mnF_le (FX D s p) k
  have : 1000000 ≤ FX D s p k := by
    unfold FX
    by_cases c : tB s k = true
    · rw [if_pos c]
      have : ¬ D p k < 1000000 := fun h => hb ⟨c, h⟩
      omega
    · rw [if_neg c]
      exact Nat.le_refl _
  rw [e, if_neg (show ¬ FX D s p k < mnF (FX D s p) k by omega)]
theorem tours_M {u : Mm} {W D : Nat → Nat → Nat} (hW : ∀ a b, a < 8 → b < 8 → W a b ≤ 99) (hD : DP W D) (hB : BtM u D) : Ok (gX11_layTours u) (fun u' => (∀ c, c ≠ 99 → u' c = u c) ∧ TabM u' D 256) := by
  unfold gX11_layTours gX11_layTours_b
  refine loopS (fun n (s : Int32 × Mm) => gX11_layTours_2_L n s.1 s.2) (fun g s => gX11_layTours_2_Ls (fun a b => g (a, b)) s.1 s.2) (fun _ _ => rfl) _
    (fun n s => s.1 = nI n ∧ (∀ c, c ≠ 99 → s.2 c = u c) ∧ TabM s.2 D n) 256 ?_ ?_ 256 0 FU (0, u) rfl (by decide) ⟨rfl, fun _ _ => rfl, fun s h => absurd h (Nat.not_lt_zero _)⟩
  · rintro n ⟨x1, x⟩ g hn ⟨h0, h1, h2⟩ hg
    change x1 = nI n at h0
    subst h0
    show Ok (gX11_layTours_2_Ls (fun a b => g (a, b)) (nI n) x) _
    unfold gX11_layTours_2_Ls
    rw [if_pos (show nI n < 256 by rw [show (256 : Int32) = nI 256 from rfl, lt_nn (by omega) (by omega)]; exact hn)]
    refine loopS (fun m (s : Int32 × Mm) => gX11_layTours_11_L (fun a b => g (a, b)) (nI n) m s.1 s.2) (fun g2 s => gX11_layTours_11_Ls (fun a b => g (a, b)) (nI n) (fun a b => g2 (a, b)) s.1 s.2) (fun _ _ => rfl) _
      (fun p s => s.1 = nI p ∧ (∀ c, c ≠ 99 → s.2 c = u c) ∧ TabM s.2 D n ∧ (∀ q, q < p → s.2 99 (8 * n + q) = nI (tD (TM D n q)))) 8 ?_ ?_ 8 0 FU (0, x) rfl (by decide) ⟨rfl, h1, h2, fun q h => absurd h (Nat.not_lt_zero _)⟩
    · rintro p ⟨y1, y⟩ g2 hp ⟨h0, k1, k2, k3⟩ hg2
      change y1 = nI p at h0
      subst h0
      change ∀ c, c ≠ 99 → y c = u c at k1
      change TabM y D n at k2
      change ∀ q, q < p → y 99 (8 * n + q) = nI (tD (TM D n q)) at k3
      show Ok (gX11_layTours_11_Ls (fun a b => g (a, b)) (nI n) (fun a b => g2 (a, b)) (nI p) y) _
      unfold gX11_layTours_11_Ls
      rw [if_pos (lt8 hp)]
      have inner : ∀ s0 : Int32, s0 = nI (vM D n p 0) → Ok (gX11_layTours_28 (fun a b => g (a, b)) (fun a b => g2 (a, b)) (nI n) (nI p) s0 y) (fun u' => (∀ c, c ≠ 99 → u' c = u c) ∧ TabM u' D 256) := by
        intro s0 hs0
        unfold gX11_layTours_28
        have yB : BtM y D := fun a b ha hb => by rw [k1 98 (by decide)]; exact hB a b ha hb
        refine loopS (fun m (s : Int32 × Int32 × Mm) => gX11_layTours_32_L (fun a b => g (a, b)) (fun a b => g2 (a, b)) (nI n) (nI p) m s.1 s.2.1 s.2.2) (fun g3 s => gX11_layTours_32_Ls (fun a b => g (a, b)) (fun a b => g2 (a, b)) (nI n) (nI p) (fun a b c => g3 (a, b, c)) s.1 s.2.1 s.2.2) (fun _ _ => rfl) _
          (fun k s => s.2.1 = nI k ∧ s.1 = nI (vM D n p k) ∧ s.2.2 = y) 8 ?_ ?_ 8 0 FU (s0, 0, y) rfl (by decide) ⟨rfl, hs0, rfl⟩
        · rintro k ⟨z1, z2, z⟩ g3 hk ⟨h0, r1, r2⟩ hg3
          change z2 = nI k at h0
          subst h0
          change z1 = _ at r1
          subst r1
          change z = y at r2
          subst r2
          show Ok (gX11_layTours_32_Ls (fun a b => g (a, b)) (fun a b => g2 (a, b)) (nI n) (nI p) (fun a b c => g3 (a, b, c)) (nI (vM D n p k)) (nI k) z) _
          unfold gX11_layTours_32_Ls
          have lv := vM_le (D := D) (s := n) (p := p) (k := k)
          obtain ⟨t1, t2, t3⟩ := tD_99 (fun h => hD.le hW hp hk h)
          have go : ∀ v : Int32, v = nI (vM D n p (k + 1)) → Ok (gX11_layTours_131 (fun a b => g (a, b)) (fun a b => g2 (a, b)) (fun a b c => g3 (a, b, c)) (nI n) (nI p) (nI k) v z) (fun u' => (∀ c, c ≠ 99 → u' c = u c) ∧ TabM u' D 256) := by
            intro v hv
            unfold gX11_layTours_131
            rw [letv_eq, nI_s (by omega)]
            exact hg3 (v, nI (k + 1), z) ⟨rfl, hv, rfl⟩
          have no : ¬ (tB n k = true ∧ D p k < 1000000) → Ok (gX11_layTours_71 (fun a b => g (a, b)) (fun a b => g2 (a, b)) (fun a b c => g3 (a, b, c)) (nI n) (nI p) (nI (vM D n p k)) (nI k) z) (fun u' => (∀ c, c ≠ 99 → u' c = u c) ∧ TabM u' D 256) := by
            intro hno
            have ek : vM D n p (k + 1) = vM D n p k := vM_k (W := W) hno
            have lv9 : vM D n p k ≤ 99999 ∨ vM D n p k = vM D n p k := Or.inr rfl
            unfold gX11_layTours_71 gX11_layTours_72 gX11_layTours_117
            rw [if_pos rfl]
            refine ok_if (fun c => go _ ?_) (fun c => go _ (by rw [ek]))
            rw [ek]
            unfold vM at c ⊢
            by_cases e : n = 0
            · rw [if_pos e] at c
              exact absurd c (by decide)
            · rw [if_neg e] at c ⊢
              have hl : mnF (FX D n p) k < 1000000 → mnF (FX D n p) k ≤ 99999 := by
                intro h
                by_cases h9 : mnF (FX D n p) k ≤ 99999
                · exact h9
                · exfalso
                  obtain ⟨j, hj, ej⟩ := mnF_ex _ _ h
                  rw [← ej] at h h9
                  unfold FX at h h9
                  by_cases cc : tB n j = true
                  · rw [if_pos cc] at h h9
                    have := tB_lt cc
                    have m1 := (TM_b hW hD (show n - 2 ^ j < 256 by omega) (show j < 8 by omega)).2 (by omega)
                    have m2 := hD.le hW hp (show j < 8 by omega) (by omega)
                    omega
                  · rw [if_neg cc] at h
                    omega
              have : tD (mnF (FX D n p) k) ≤ 99999 := by
                unfold tD
                split
                · rename_i h; exact hl h
                · exact Nat.le_refl _
              rw [show (99999 : Int32) = nI 99999 from rfl, lt_nn (by omega) (by omega)] at c
              omega
          rw [if_pos (lt8 hk)]
          by_cases c : tB n k = true
          · rw [if_pos (bitT hn hk c), ixB p hp k hk, gd_t (ix64 hp hk), ixn64 hp hk, yB p k hp hk]
            by_cases cf : D p k < 1000000
            · rw [if_pos (t1.mpr cf)]
              have lb := tB_lt c
              have l6 := (TM_b hW hD (show n - 2 ^ k < 256 by omega) hk).1
              have l7 : tD (TM D (n - 2 ^ k) k) ≤ 1000000 := by unfold tD; split <;> omega
              unfold gX11_layTours_72
              rw [if_neg (by decide), bitM hn hk c, ixS2 (s := n - 2 ^ k) (Nat.lt_trans lb hn) hk, ixB p hp k hk, gd_t (ix64 hp hk), gd_t (ix_nI (by omega) (by decide)), ixn64 hp hk, ixn_nI (by omega), yB p k hp hk, k2 (n - 2 ^ k) lb k hk, nI_a (by omega)]
              have ev := vM_s hW hD hn hp hk c cf
              have cl : nI (tD (D p k) + tD (TM D (n - 2 ^ k) k)) < nI (vM D n p k) ↔ tD (D p k) + tD (TM D (n - 2 ^ k) k) < vM D n p k := by rw [lt_nn (by omega) (by omega)]
              unfold gX11_layTours_117
              refine ok_if (fun c3 => go _ ?_) (fun c3 => go _ ?_)
              · rw [ev, if_pos (cl.mp c3)]
              · rw [ev, if_neg (fun h => c3 (cl.mpr h))]
            · rw [if_neg (fun h => cf (t1.mp h))]
              exact no (fun h => cf h.2)
          · rw [if_neg (bitF hn hk c)]
            exact no (fun h => c h.1)
        · rintro ⟨z1, z2, z⟩ g3 ⟨h0, r1, r2⟩
          change z2 = nI 8 at h0
          subst h0
          change z1 = _ at r1
          subst r1
          change z = y at r2
          subst r2
          show Ok (gX11_layTours_32_Ls (fun a b => g (a, b)) (fun a b => g2 (a, b)) (nI n) (nI p) (fun a b c => g3 (a, b, c)) (nI (vM D n p 8)) (nI 8) z) _
          unfold gX11_layTours_32_Ls
          rw [if_neg (by decide), ixS2 hn hp, gd_t (ix_nI (by omega) (by decide)), ixn_nI (by omega), letv_eq, letv_eq, nI_s (by omega), vM_8]
          refine hg2 (nI (p + 1), stm z 99 (8 * n + p) (nI (tD (TM D n p)))) ⟨rfl, fun c hc => (stm_c hc).trans (k1 c hc), fun s hs q hq => ?_, fun q hq => ?_⟩
          · show stm z 99 (8 * n + p) _ 99 (8 * s + q) = _
            rw [stm_s (by omega)]
            exact k2 s hs q hq
          · show stm z 99 (8 * n + p) _ 99 (8 * n + q) = _
            by_cases e : q = p
            · rw [e, stm_r]
            · rw [stm_s (by omega)]
              exact k3 q (by omega)
      refine ok_if (fun c0 => inner _ ?_) (fun c0 => inner _ ?_)
      · have : n = 0 := by
          have := congrArg Int32.toInt c0
          rw [t_nI (by omega), i0] at this
          omega
        unfold vM
        rw [if_pos this]
        rfl
      · unfold vM
        rw [if_neg (fun e => c0 (by rw [e]; rfl))]
        rfl
    · rintro ⟨y1, y⟩ g2 ⟨h0, k1, k2, k3⟩
      change y1 = nI 8 at h0
      subst h0
      show Ok (gX11_layTours_11_Ls (fun a b => g (a, b)) (nI n) (fun a b => g2 (a, b)) (nI 8) y) _
      unfold gX11_layTours_11_Ls
      rw [if_neg (by decide), letv_eq, nI_s (by omega)]
      refine hg (nI (n + 1), y) ⟨rfl, k1, fun s hs q hq => ?_⟩
      by_cases e : s = n
      · subst e
        exact k3 q hq
      · exact k2 s (by omega) q hq
  · rintro ⟨x1, x⟩ g ⟨h0, h1, h2⟩
    change x1 = nI 256 at h0
    subst h0
    show Ok (gX11_layTours_2_Ls (fun a b => g (a, b)) (nI 256) x) _
    unfold gX11_layTours_2_Ls
    rw [if_neg (by decide)]
    exact ok_some.mpr ⟨h1, h2⟩
def fsN (q : Nat → Bool) : Nat → Nat → Int32
  | 0, _ => -9
  | d + 1, j => if q j = true then nI j else fsN q d (j + 1)
theorem fsN_s {q : Nat → Bool} {j : Nat} {A : Int32} (hj : j < 8) (h : fsN q (8 - j) j = A) : (q j = true → A = nI j) ∧ (¬ q j = true → fsN q (8 - (j + 1)) (j + 1) = A) := by
  rw [show 8 - j = (8 - (j + 1)) + 1 by omega] at h
  change (if q j = true then nI j else fsN q (8 - (j + 1)) (j + 1)) = A at h
  refine ⟨fun c => ?_, fun c => ?_⟩
  · rw [if_pos c] at h
    exact h.symm
  · rw [if_neg c] at h
    exact h
def qT (D : Nat → Nat → Nat) (s p : Nat) (k : Nat) : Bool := tB s k && (D p k + TM D (s - 2 ^ k) k == TM D s p)
theorem qT_t {D : Nat → Nat → Nat} {s p k : Nat} : qT D s p k = true ↔ tB s k = true ∧ D p k + TM D (s - 2 ^ k) k = TM D s p := by
  unfold qT
  simp
theorem nI_inj {a b : Nat} (ha : a < 2147483648) (hb : b < 2147483648) : nI a = nI b ↔ a = b := by
  refine ⟨fun e => ?_, fun e => by rw [e]⟩
  have := congrArg Int32.toInt e
  rw [t_nI ha, t_nI hb] at this
  omega
theorem first_C {u : Mm} {W D : Nat → Nat → Nat} {s p : Nat} (hW : ∀ a b, a < 8 → b < 8 → W a b ≤ 99) (hD : DP W D) (hM : MtC u D) (hs : s < 256) (hp : p < 8) (h0 : u 73 (8 * s + p) = nI (TM D s p)) (h : ∀ k, k < 8 → tB s k = true → u 73 (8 * (s - 2 ^ k) + k) = nI (TM D (s - 2 ^ k) k)) : gX8_tourFirst (nI p) (nI s) u = some (if TM D s p < 1000000 then fsN (qT D s p) 8 0 else -9) := by
  obtain ⟨A, hA⟩ : ∃ A, fsN (qT D s p) 8 0 = A := ⟨_, rfl⟩
  rw [hA]
  have t1 := (TM_b hW hD hs hp).1
  have main : Ok (gX8_tourFirst (nI p) (nI s) u) (fun v => v = if TM D s p < 1000000 then A else -9) := by
    unfold gX8_tourFirst gX8_tourFirst_b
    rw [rest_C hs hp, Option.bind_some, h0]
    refine loopS (fun n (s2 : Int32) => gX8_tourFirst_10_L (nI p) (nI s) (nI (TM D s p)) u n s2) (fun g s2 => gX8_tourFirst_10_Ls (nI p) (nI s) (nI (TM D s p)) u g s2) (fun _ _ => rfl) _
      (fun n s2 => s2 = nI n ∧ fsN (qT D s p) (8 - n) n = A ∧ (0 < n → TM D s p < 1000000)) 8 ?_ ?_ 8 0 FU 0 rfl (by decide) ⟨rfl, hA, fun h => absurd h (Nat.lt_irrefl _)⟩
    · rintro k x g hk ⟨e0, e1, e2⟩ hg
      subst e0
      show Ok (gX8_tourFirst_10_Ls (nI p) (nI s) (nI (TM D s p)) u g (nI k)) _
      unfold gX8_tourFirst_10_Ls
      rw [if_pos (lt8 hk)]
      by_cases cf : TM D s p < 1000000
      · rw [if_pos ((far_lt t1).mpr cf), if_pos cf]
        rw [if_pos cf] at hg
        obtain ⟨n1, n2⟩ := fsN_s hk e1
        by_cases c : tB s k = true
        · have l1 := hD.2.1 p k hp hk
          have l2 := (TM_b hW hD (Nat.lt_trans (tB_lt c) hs) hk).1
          rw [if_pos (bitT hs hk c), through_C hM hs hp hk c ⟨l1, l2⟩ (h k hk c), Option.bind_some]
          refine ok_if (fun c2 => ?_) (fun c2 => ?_)
          · exact ok_some.mpr (n1 (qT_t.mpr ⟨c, (nI_inj (by omega) (by omega)).mp c2⟩)).symm
          · rw [letv_eq, nI_s (by omega)]
            exact hg (nI (k + 1)) ⟨rfl, n2 (fun h => c2 (by rw [(qT_t.mp h).2])), fun _ => cf⟩
        · rw [if_neg (bitF hs hk c), letv_eq, nI_s (by omega)]
          exact hg (nI (k + 1)) ⟨rfl, n2 (fun h => c (qT_t.mp h).1), fun _ => cf⟩
      · rw [if_neg (fun h => cf ((far_lt t1).mp h)), if_neg cf]
        exact ok_some.mpr rfl
    · rintro x g ⟨e0, e1, e2⟩
      subst e0
      show Ok (gX8_tourFirst_10_Ls (nI p) (nI s) (nI (TM D s p)) u g (nI 8)) _
      unfold gX8_tourFirst_10_Ls
      rw [if_neg (by decide), if_pos (e2 (by decide))]
      exact ok_some.mpr e1
  obtain ⟨v, e, h⟩ := main
  rw [e, h]
theorem first_M {u : Mm} {W D : Nat → Nat → Nat} {s p : Nat} (hW : ∀ a b, a < 8 → b < 8 → W a b ≤ 99) (hD : DP W D) (hB : BtM u D) (hT : TabM u D 256) (hs : s < 256) (hp : p < 8) (e74 : u 74 18 = nI p) : Ok (gX11_tour_89_L (nI s) (nI (tD (TM D s p))) FU 0 u) (fun q => q.1 = (if TM D s p < 1000000 then fsN (qT D s p) 8 0 else -9) ∧ q.2 = u) := by
  obtain ⟨A, hA⟩ : ∃ A, fsN (qT D s p) 8 0 = A := ⟨_, rfl⟩
  rw [hA]
  have tb := TM_b hW hD hs hp
  obtain ⟨q1, q2, q3⟩ : (nI (tD (TM D s p)) < 99999 ↔ TM D s p < 1000000) ∧ tD (TM D s p) ≤ 99999 ∧ True := by
    by_cases c : TM D s p < 1000000
    · have := tb.2 c
      rw [tD_y c, show (99999 : Int32) = nI 99999 from rfl, lt_nn (by omega) (by omega)]
      exact ⟨⟨fun _ => c, fun _ => by omega⟩, by omega, trivial⟩
    · rw [tD_n c]
      exact ⟨⟨fun h => absurd h (by decide), fun h => absurd h c⟩, by decide, trivial⟩
  refine loopS (fun n (s2 : Int32 × Mm) => gX11_tour_89_L (nI s) (nI (tD (TM D s p))) n s2.1 s2.2) (fun g s2 => gX11_tour_89_Ls (nI s) (nI (tD (TM D s p))) (fun a b => g (a, b)) s2.1 s2.2) (fun _ _ => rfl) _
    (fun n s2 => s2.1 = nI n ∧ s2.2 = u ∧ fsN (qT D s p) (8 - n) n = A ∧ (0 < n → TM D s p < 1000000)) 8 ?_ ?_ 8 0 FU (0, u) rfl (by decide) ⟨rfl, rfl, hA, fun h => absurd h (Nat.lt_irrefl _)⟩
  · rintro k ⟨x1, x⟩ g hk ⟨e0, ex, e1, e2⟩ hg
    change x1 = nI k at e0
    subst e0
    change x = u at ex
    subst ex
    show Ok (gX11_tour_89_Ls (nI s) (nI (tD (TM D s p))) (fun a b => g (a, b)) (nI k) x) _
    unfold gX11_tour_89_Ls
    rw [if_pos (lt8 hk)]
    by_cases cf : TM D s p < 1000000
    · rw [if_pos (q1.mpr cf), if_pos cf]
      rw [if_pos cf] at hg
      obtain ⟨n1, n2⟩ := fsN_s hk e1
      obtain ⟨t1, t2, t3⟩ := tD_99 (fun h => hD.le hW hp hk h)
      have no : ¬ qT D s p k = true → Ok (gX11_tour_140 (fun a b => g (a, b)) (nI s) (nI (tD (TM D s p))) (nI k) x) (fun q => q.1 = A ∧ q.2 = x) := by
        intro h
        unfold gX11_tour_140 gX11_tour_141
        rw [if_pos rfl, letv_eq, nI_s (by omega)]
        exact hg (nI (k + 1), x) ⟨rfl, rfl, n2 h, fun _ => cf⟩
      by_cases c : tB s k = true
      · rw [if_pos (bitT hs hk c), e74, ixB p hp k hk, gd_t (ix64 hp hk), ixn64 hp hk, hB p k hp hk]
        have lb := tB_lt c
        have l6 := TM_b hW hD (Nat.lt_trans lb hs) hk
        by_cases cd : D p k < 1000000
        · rw [if_pos (t1.mpr cd)]
          unfold gX11_tour_141
          have lq : tD (TM D (s - 2 ^ k) k) ≤ 1000000 := by unfold tD; split <;> omega
          rw [if_neg (by decide), bitM hs hk c, ixS2 (s := s - 2 ^ k) (Nat.lt_trans lb hs) hk, e74, ixB p hp k hk, gd_t (ix64 hp hk), gd_t (ix_nI (by omega) (by decide)), ixn64 hp hk, ixn_nI (by omega), hB p k hp hk, hT (s - 2 ^ k) (Nat.lt_trans lb hs) k hk, nI_a (by omega)]
          have l3 := hD.le hW hp hk cd
          have l4 := tb.2 cf
          have key : tD (D p k) + tD (TM D (s - 2 ^ k) k) = tD (TM D s p) ↔ D p k + TM D (s - 2 ^ k) k = TM D s p := by
            rw [tD_y cd, tD_y cf]
            by_cases ct : TM D (s - 2 ^ k) k < 1000000
            · rw [tD_y ct]
            · rw [tD_n ct]
              constructor <;> intro h <;> omega
          refine ok_if (fun c2 => ?_) (fun c2 => ?_)
          · have := key.mp ((nI_inj (by omega) (by omega)).mp c2)
            exact ok_some.mpr ⟨(n1 (qT_t.mpr ⟨c, this⟩)).symm, rfl⟩
          · rw [letv_eq, nI_s (by omega)]
            exact hg (nI (k + 1), x) ⟨rfl, rfl, n2 (fun h => c2 (by rw [key.mpr (qT_t.mp h).2])), fun _ => cf⟩
        · rw [if_neg (fun h => cd (t1.mp h))]
          refine no (fun h => ?_)
          have := (qT_t.mp h).2
          omega
      · rw [if_neg (bitF hs hk c)]
        exact no (fun h => c (qT_t.mp h).1)
    · rw [if_neg (fun h => cf (q1.mp h)), if_neg cf]
      exact ok_some.mpr ⟨rfl, rfl⟩
  · rintro ⟨x1, x⟩ g ⟨e0, ex, e1, e2⟩
    change x1 = nI 8 at e0
    subst e0
    change x = u at ex
    subst ex
    show Ok (gX11_tour_89_Ls (nI s) (nI (tD (TM D s p))) (fun a b => g (a, b)) (nI 8) x) _
    unfold gX11_tour_89_Ls
    rw [if_neg (by decide), if_pos (e2 (by decide))]
    exact ok_some.mpr ⟨e1, rfl⟩
theorem others {t c : Nat} (ht : t < 256) (hc : c < 8) : ∃ o, o < 256 ∧ (nI t &&& ((shl 1 (nI c)) ^^^ (-1))) = nI o := by
  refine ⟨if tB t c = true then t - 2 ^ c else t, ?_, (bits t ht c hc).2.1⟩
  split
  · rename_i h
    exact Nat.lt_trans (tB_lt h) ht
  · exact ht
theorem c_tour (a b : Int32) (u : Mm) (hR : R u) : Both (gX10_tour a b u) (gX11_tour a b) := by
  by_cases h1 : a.toInt < 0
  · refine Both_ref (k := 4) (r := -4) hR ?_ ?_
    · simp only [gX10_tour, gX10_tour_b, lt_t (a := a) (b := 0) h1, ↓reduceIte, rC4, bI_some]
    · unfold gX11_tour gX11_tour_b
      rw [letv_eq, wrongN, if_pos (show a.toInt < (0 : Int32).toInt from h1), Option.bind_some, wb_n (by decide), Option.bind_some, if_pos (by decide), rM4]
      rfl
  have a0 := lt_f (a := a) (b := 0) (by rw [i0]; omega)
  by_cases h2 : 255 < a.toInt
  · refine Both_ref (k := 6) (r := -6) hR ?_ ?_
    · simp only [gX10_tour, gX10_tour_b, a0, lt_t (a := 255) (b := a) h2, ↓reduceIte, rC6, bI_some]
    · unfold gX11_tour gX11_tour_b
      rw [letv_eq, wrongN, if_neg (show ¬ a.toInt < (0 : Int32).toInt from h1), if_pos (show (255 : Int32).toInt < a.toInt from h2), Option.bind_some, wb_n (by decide), Option.bind_some, if_pos (by decide), rM6]
      rfl
  have a255 := lt_f (a := 255) (b := a) (by rw [i255]; omega)
  have hn : gX11_wrongNumber a 0 255 = some 0 := by rw [wrongN, if_neg (show ¬ a.toInt < (0 : Int32).toInt from h1), if_neg (show ¬ (255 : Int32).toInt < a.toInt from h2)]
  by_cases h3 : 0 ≤ b.toInt ∧ b.toInt ≤ (1 : Int32).toInt
  · have b0 := lt_f (a := b) (b := 0) (by rw [i0]; omega)
    have b1 := lt_f (a := 1) (b := b) (by have := h3.2; omega)
    obtain ⟨t, rfl, ht⟩ := nI_upto (a := a) (N := 255) (by omega) (by omega)
    obtain ⟨W, c, hW, rC, rM, hc, e12, e74, -⟩ := roads_of hR
    obtain ⟨o, ho, eo⟩ := others (t := t) (c := c) (by omega) hc
    obtain ⟨x, ex, fx, D, hD, hM⟩ := measure_ok rC hW
    have tb := TM_b hW hD ho hc
    obtain ⟨q1, q2⟩ : (nI (tD (TM D o c)) < 99999 ↔ TM D o c < 1000000) ∧ tD (TM D o c) ≤ 99999 := by
      by_cases c' : TM D o c < 1000000
      · have := tb.2 c'
        rw [tD_y c', show (99999 : Int32) = nI 99999 from rfl, lt_nn (by omega) (by omega)]
        exact ⟨⟨fun _ => c', fun _ => by omega⟩, by omega⟩
      · rw [tD_n c']
        exact ⟨⟨fun h => absurd h (by decide), fun h => absurd h c'⟩, by decide⟩
    refine Both_of (r := if b = 0 then (if TM D o c < 1000000 then nI (TM D o c) else -9) else (if TM D o c < 1000000 then fsN (qT D o c) 8 0 else -9)) hR ?_ (fun u1 hR1 e1 e2 hrl h74 => ?_)
    · unfold gX10_tour gX10_tour_b
      simp only [a0, a255, b0, b1, ↓reduceIte]
      rw [letv_eq, letv_eq, e12, eo, ex, Option.bind_some, ok_bind]
      refine (seek_C hW hD hM).mono ?_
      rintro y ⟨y1, y2⟩
      have My : MtC y D := fun a b ha hb => by rw [y1 72 (by decide)]; exact hM a b ha hb
      have sm : Sm u y := Sm_72 (fun c h1 h2 => (y1 c h2).trans (fx c h1))
      have eT := y2 o ho (Sb_self o ho) c hc
      by_cases b00 : b = 0
      · rw [if_pos b00, if_pos b00]
        unfold gX8_tourMinutes gX8_tourMinutes_b
        rw [rest_C ho hc, Option.bind_some, eT]
        by_cases cf : TM D o c < 1000000
        · rw [if_pos ((far_lt tb.1).mpr cf), if_pos cf]
          exact ok_some.mpr ⟨rfl, sm⟩
        · rw [if_neg (fun h => cf ((far_lt tb.1).mp h)), if_neg cf]
          exact ok_some.mpr ⟨rfl, sm⟩
      · rw [if_neg b00, if_neg b00, first_C hW hD My ho hc eT (fun k hk hb => y2 (o - 2 ^ k) (Nat.lt_trans (tB_lt hb) ho) (Sb_rm ho hk hb (Sb_self o ho)) k hk)]
        exact ok_some.mpr ⟨rfl, sm⟩
    · unfold gX11_tour gX11_tour_b
      rw [letv_eq, hn, Option.bind_some, wb_t h3, Option.bind_some, if_neg (by decide), ok_bind]
      have r83 : RdM (thr u1) W := rM.of ((thr_c (by decide)).trans (hrl 83 (by decide)))
      refine (lay_ok r83 hW hD).mono ?_
      rintro v ⟨v1, v2⟩
      rw [ok_bind]
      refine (tours_M hW hD v2).mono ?_
      rintro y ⟨y1, y2⟩
      have ey : y 74 18 = nI c := by
        rw [y1 74 (by decide), v1 74 (by decide) (by decide)]
        exact (h74 18 (by decide)).trans e74
      have yB : BtM y D := fun a b ha hb => by rw [y1 98 (by decide)]; exact v2 a b ha hb
      have sm : Sm u1 y := Sm_96 (fun c h => (y1 c (fun e => h (by rw [e]; decide))).trans (v1 c (fun e => h (by rw [e]; decide)) (fun e => h (by rw [e]; decide))))
      rw [letv_eq, ey, eo, ixS2 ho hc, gd_t (ix_nI (by omega) (by decide)), letv_eq, ixn_nI (by omega), y2 o ho c hc]
      by_cases b00 : b = 0
      · rw [if_pos b00, if_pos b00]
        by_cases cf : TM D o c < 1000000
        · rw [if_pos (q1.mpr cf), if_pos cf, tD_y cf]
          exact ok_some.mpr ⟨rfl, sm⟩
        · rw [if_neg (fun h => cf (q1.mp h)), if_neg cf]
          exact ok_some.mpr ⟨rfl, sm⟩
      · rw [if_neg b00, if_neg b00]
        refine (first_M hW hD yB y2 ho hc ey).mono ?_
        rintro ⟨s, z⟩ ⟨z1, z2⟩
        change s = _ at z1
        change z = y at z2
        exact ⟨z1, by show Sm u1 z; rw [z2]; exact sm⟩
  · refine Both_ref (k := 2) (r := -2) hR ?_ ?_
    · by_cases h4 : b.toInt < 0
      · simp only [gX10_tour, gX10_tour_b, gX10_tour_34, a0, a255, lt_t (a := b) (b := 0) h4, ↓reduceIte, rC2, bI_some]
      · simp only [gX10_tour, gX10_tour_b, gX10_tour_34, a0, a255, lt_f (a := b) (b := 0) h4, lt_t (a := 1) (b := b) (by omega), ↓reduceIte, rC2, bI_some]
    · unfold gX11_tour gX11_tour_b
      rw [letv_eq, hn, Option.bind_some, wb_f h3, Option.bind_some, if_pos (by decide), rM2]
      rfl
