/-! Calls: meanWait. -/
def wJ (n : Nat) : Int64 := (nI n).toInt64
theorem wJ_t {n : Nat} (h : n < 2147483648) : (wJ n).toInt = (n : Int) := by
  unfold wJ
  rw [Int32.toInt_toInt64, t_nI h]
theorem wJ_of {a : Int64} {n : Nat} (h : a.toInt = (n : Int)) (hn : n < 2147483648) : a = wJ n := Int64.toInt_inj.mp (by rw [h, wJ_t hn])
theorem wJ_bm {x : Int} (h : -9223372036854775808 ≤ x) (h2 : x < 9223372036854775808) : x.bmod (2 ^ 64) = x := by
  apply Int.bmod_eq_of_le
  · exact h
  · exact h2
theorem wJ_a {a b : Nat} (h : a + b < 2147483648) : wJ a + wJ b = wJ (a + b) := by
  refine wJ_of ?_ h
  rw [Int64.toInt_add, wJ_t (by omega), wJ_t (by omega), wJ_bm (by omega) (by omega)]
  omega
theorem wJ_s {a b : Nat} (h : b ≤ a) (ha : a < 2147483648) : wJ a - wJ b = wJ (a - b) := by
  refine wJ_of ?_ (by omega)
  rw [Int64.toInt_sub, wJ_t (by omega), wJ_t (by omega), wJ_bm (by omega) (by omega)]
  omega
theorem wJ_m {a b : Nat} (h : a * b < 2147483648) (ha : a < 2147483648) (hb : b < 2147483648) : wJ a * wJ b = wJ (a * b) := by
  refine wJ_of ?_ h
  have e : ((a : Int)) * (b : Int) = ((a * b : Nat) : Int) := (Int.natCast_mul a b).symm
  rw [Int64.toInt_mul, wJ_t ha, wJ_t hb, e, wJ_bm (by omega) (by omega)]
theorem wJ_d {k m : Nat} (hk : k < 2147483648) (h0 : 0 < m) (hm : m < 2147483648) : wJ k / wJ m = wJ (k / m) := by
  unfold wJ
  rw [← dv_n hk h0 hm, Int32.toInt64_div_of_ne_right _ _ (fun e => by have := congrArg Int32.toInt e; rw [t_nI hm, im1] at this; omega)]
theorem wJ_r {k m : Nat} (hk : k < 2147483648) (h0 : 0 < m) (hm : m < 2147483648) : lrm (wJ k) (wJ m) = wJ (k % m) := by
  unfold lrm
  have h1 : k / m ≤ k := Nat.div_le_self k m
  have h2 := Nat.div_add_mod k m
  have h3 : k / m * m ≤ k := Nat.div_mul_le_self k m
  have h4 := Nat.mul_comm (k / m) m
  rw [wJ_d hk h0 hm, wJ_m (by omega) (by omega) hm, wJ_s h3 hk]
  congr 1
  omega
theorem wJ_z {n : Nat} (h : n < 2147483648) : wJ n = 0 ↔ n = 0 := by
  constructor
  · intro e
    have := congrArg Int64.toInt e
    rw [wJ_t h, show (0 : Int64).toInt = 0 from rfl] at this
    omega
  · intro e
    rw [e]
    rfl
theorem gcd_run {P : Nat → Nat → Nat → Nat → Prop} {M : Nat} (h0 : ∀ n a, a ≤ M → P (n + 1) a 0 a) (h1 : ∀ n a b g, a ≤ M → b ≤ M → 0 < b → P n b (a % b) g → P (n + 1) a b g) : ∀ k a b, a ≤ M → b ≤ M → b < 2 ^ k → ∀ m, P (m + (2 * k + 1)) a b (Nat.gcd a b) := by
  intro k
  induction k with
  | zero =>
    intro a b ha hb hk m
    obtain rfl : b = 0 := by simpa using hk
    rw [Nat.gcd_zero_right]
    exact h0 m a ha
  | succ k ih =>
    intro a b ha hb hk m
    have e0 : m + (2 * (k + 1) + 1) = m + (2 * k + 1) + 1 + 1 := by omega
    rw [e0]
    by_cases c : b = 0
    · subst c
      rw [Nat.gcd_zero_right]
      exact h0 _ a ha
    · have hb0 : 0 < b := Nat.pos_of_ne_zero c
      have g1 : Nat.gcd a b = Nat.gcd b (a % b) := by rw [Nat.gcd_comm a b, Nat.gcd_rec b a, Nat.gcd_comm]
      have l1 : a % b < b := Nat.mod_lt a hb0
      rw [g1]
      refine h1 _ a b _ ha hb hb0 ?_
      by_cases c2 : a % b = 0
      · rw [c2, Nat.gcd_zero_right]
        exact h0 _ b hb
      · have hc0 : 0 < a % b := Nat.pos_of_ne_zero c2
        have g2 : Nat.gcd b (a % b) = Nat.gcd (a % b) (b % (a % b)) := by rw [Nat.gcd_comm b (a % b), Nat.gcd_rec (a % b) b, Nat.gcd_comm]
        have l2 : b % (a % b) < a % b := Nat.mod_lt b hc0
        have l3 : 2 * (b % (a % b)) < b := by
          have h1 := Nat.div_add_mod b (a % b)
          have h2 : 1 ≤ b / (a % b) := Nat.div_pos (by omega) hc0
          have h3 : (a % b) * 1 ≤ (a % b) * (b / (a % b)) := Nat.mul_le_mul_left _ h2
          omega
        rw [g2]
        refine h1 _ b (a % b) _ hb (by omega) hc0 ?_
        refine ih (a % b) (b % (a % b)) (by omega) (by omega) ?_ m
        have : 2 ^ (k + 1) = 2 * 2 ^ k := by rw [Nat.pow_succ, Nat.mul_comm]
        omega
theorem shared_ok {a b : Nat} (ha : a ≤ 1000000) (hb : b ≤ 1000) : gX10_sharedMeasure (nI a) (nI b) = some (nI (Nat.gcd a b)) := by
  unfold gX10_sharedMeasure gX10_sharedMeasure_b
  have h := gcd_run (P := fun n a b g => ∀ f c, n ≤ f → c + n ≤ 100 → gX10_sharedMeasure_7_L f (nI a) (nI b) (nI c) = some (nI g)) (M := 1000000) ?_ ?_ 10 a b ha (by omega) (by omega) 0 FU 0 (by decide) (by decide)
  · exact h
  · intro n a ha f c hf hc
    obtain ⟨f', rfl⟩ : ∃ f', f = f' + 1 := ⟨f - 1, by omega⟩
    show gX10_sharedMeasure_7_Ls _ (nI a) (nI 0) (nI c) = _
    unfold gX10_sharedMeasure_7_Ls
    rw [if_pos (show nI c < 100 by rw [show (100 : Int32) = nI 100 from rfl, lt_nn (by omega) (by omega)]; omega), if_neg (by decide)]
  · intro n a b g ha hb h0 ih f c hf hc
    obtain ⟨f', rfl⟩ : ∃ f', f = f' + 1 := ⟨f - 1, by omega⟩
    show gX10_sharedMeasure_7_Ls _ (nI a) (nI b) (nI c) = _
    unfold gX10_sharedMeasure_7_Ls
    have p : (0 : Int32) < nI b := nI_lt (a := 0) (by omega) (by omega)
    rw [if_pos (show nI c < 100 by rw [show (100 : Int32) = nI 100 from rfl, lt_nn (by omega) (by omega)]; omega), if_pos p, gd_t (show ¬ nI b = 0 from fun e => by rw [e] at p; exact absurd p (by decide)), letv_eq, letv_eq, rm_n (by omega) h0 (by omega), nI_s (by omega)]
    exact ih f' (c + 1) (by omega) (by omega)
theorem divisor_ok {a b : Nat} (ha : a ≤ 1000000) (hb : b ≤ 1000) : gX11_divisor (wJ a) (wJ b) = some (wJ (Nat.gcd a b)) := by
  unfold gX11_divisor gX11_divisor_b
  have h := gcd_run (P := fun n a b g => ∀ f, n ≤ f → gX11_divisor_6_L f (wJ a) (wJ b) = some (wJ g)) (M := 1000000) ?_ ?_ 10 a b ha (by omega) (by omega) 0 FU (by decide)
  · exact h
  · intro n a ha f hf
    obtain ⟨f', rfl⟩ : ∃ f', f = f' + 1 := ⟨f - 1, by omega⟩
    show gX11_divisor_6_Ls _ (wJ a) (wJ 0) = _
    unfold gX11_divisor_6_Ls
    rw [if_pos (show lg_cmp (wJ 0) 0 = 0 from (lg_cmp_eq _ _).mpr rfl)]
  · intro n a b g ha hb h0 ih f hf
    obtain ⟨f', rfl⟩ : ∃ f', f = f' + 1 := ⟨f - 1, by omega⟩
    show gX11_divisor_6_Ls _ (wJ a) (wJ b) = _
    unfold gX11_divisor_6_Ls
    have p : ¬ wJ b = 0 := fun e => by have := (wJ_z (by omega)).mp e; omega
    rw [if_neg (fun e => p ((lg_cmp_eq _ _).mp e)), gd_t p, letv_eq, wJ_r (by omega) h0 (by omega)]
    exact ih f' (by omega)
def smN (r : Nat → Nat) : Nat → Nat
  | 0 => 0
  | n + 1 => smN r n + r n
theorem smN_le {r : Nat → Nat} (hr : ∀ k, k < 8 → r k ≤ 99) : ∀ n, n ≤ 8 → smN r n ≤ n * 99 := by
  intro n
  induction n with
  | zero => intro _; exact Nat.zero_le _
  | succ n ih =>
    intro hn
    have h1 := ih (by omega)
    have h2 := hr n (by omega)
    show smN r n + r n ≤ (n + 1) * 99
    omega
theorem smN_0 {D : Nat → Nat → Nat} {r : Nat → Nat} {p : Nat} : ∀ n, smN r n = 0 → wsN D r p n = 0 := by
  intro n
  induction n with
  | zero => intro _; rfl
  | succ n ih =>
    intro h
    have h1 : smN r n + r n = 0 := h
    show wsN D r p n + r n * mnW D p n = 0
    rw [ih (by omega), show r n = 0 by omega, Nat.zero_mul]
theorem sumC {u : Mm} {r : Nat → Nat} (hr : ∀ k, k < 8 → r k ≤ 99) (e8 : u 54 0 = 8) (h55 : RwN u 55 r) : gX7_sum 54 u = some (nI (smN r 8)) := by
  have main : Ok (gX7_sum 54 u) (fun v => v = nI (smN r 8)) := by
    unfold gX7_sum gX7_sum_b
    refine loopS (fun n (s : Int32 × Int32) => gX7_sum_4_L 54 u n s.1 s.2) (fun g s => gX7_sum_4_Ls 54 u (fun a b => g (a, b)) s.1 s.2) (fun _ _ => rfl) _
      (fun n s => s.2 = nI n ∧ s.1 = nI (smN r n)) 8 ?_ ?_ 8 0 FU (0, 0) rfl (by decide) ⟨rfl, rfl⟩
    · rintro k ⟨x1, x2⟩ g hk ⟨h0, h1⟩ hg
      change x2 = nI k at h0
      subst h0
      change x1 = _ at h1
      subst h1
      show Ok (gX7_sum_4_Ls 54 u (fun a b => g (a, b)) (nI (smN r k)) (nI k)) _
      unfold gX7_sum_4_Ls
      have l2 := smN_le hr k (by omega)
      have l3 := hr k hk
      rw [e8, if_pos (show nI k < 8 by rw [show (8 : Int32) = nI 8 from rfl, lt_nn (by omega) (by omega)]; exact hk), at_8 e8 h55 hk, Option.bind_some, letv_eq, letv_eq, nI_a (by omega), nI_s (by omega)]
      exact hg (nI (smN r k + r k), nI (k + 1)) ⟨rfl, rfl⟩
    · rintro ⟨x1, x2⟩ g ⟨h0, h1⟩
      change x2 = nI 8 at h0
      subst h0
      show Ok (gX7_sum_4_Ls 54 u (fun a b => g (a, b)) x1 (nI 8)) _
      unfold gX7_sum_4_Ls
      rw [e8, if_neg (by decide)]
      exact ok_some.mpr h1
  obtain ⟨v, e, h⟩ := main
  rw [e, h]
def BothJ (a : Option (Int64 × Mm)) (b : Mm → Option (Int64 × Mm)) : Prop := ∃ r u1 u2, a = some (r, u1) ∧ b u1 = some (r, u2) ∧ R u2
theorem BothJ_ref {a : Option (Int64 × Mm)} {b : Mm → Option (Int64 × Mm)} {u : Mm} {k : Nat} {r : Int64} (hR : R u) (ha : a = some (r, rfC u k)) (hb : b (rfC u k) = some (r, rfM (thr (rfC u k)) k)) : BothJ a b := ⟨r, _, _, ha, hb, R_ref hR⟩
theorem BothJ_of {a : Option (Int64 × Mm)} {b : Mm → Option (Int64 × Mm)} {u : Mm} {r : Int64} (hR : R u) (ha : Ok a (fun q => q.1 = r ∧ Sm u q.2)) (hb : ∀ u1, R u1 → (∀ c, c ∈ relC → u1 c = u c) → (∀ i, i ∈ rel74 → u1 74 i = u 74 i) → Ok (b u1) (fun q => q.1 = r ∧ Sm u1 q.2)) : BothJ a b := by
  obtain ⟨⟨x, u1⟩, e1, h1, h2⟩ := ha
  have R1 := h2.keep hR
  obtain ⟨⟨y, u2⟩, e2, h3, h4⟩ := hb u1 R1 h2.1 h2.2.1
  change x = r at h1
  change y = r at h3
  subst h1
  subst h3
  exact ⟨_, u1, u2, e1, e2, h4.keep R1⟩
def ansJ (t m b : Nat) : Int64 := if m = 0 then wJ t else if t = 0 then wJ (m / Nat.gcd m b) else wJ (b / Nat.gcd m b)
theorem mean_C {t m b : Nat} {u : Mm} (ht : t ≤ 1) (hm : m ≤ 1000000) (hb : b ≤ 1000) (hz : b = 0 → m = 0) : (if nI b = 0 then gX10_meanWait_103 (nI t) (nI m) (nI b) 0 u else (gX10_sharedMeasure (nI m) (nI b)).bind fun r9 => gX10_meanWait_103 (nI t) (nI m) (nI b) r9 u) = some (ansJ t m b, u) := by
  by_cases c : b = 0
  · rw [if_pos (by rw [c]; rfl), gX10_meanWait_103, if_neg (by decide), ansJ, if_pos (hz c)]
    rfl
  · have c' : ¬ nI b = 0 := fun e => by have := congrArg Int32.toInt e; rw [t_nI (by omega), i0] at this; omega
    rw [if_neg c', shared_ok hm hb, Option.bind_some]
    have g0 : 0 < Nat.gcd m b := Nat.gcd_pos_of_pos_right m (by omega)
    have gb : Nat.gcd m b ≤ b := Nat.gcd_le_right m (by omega)
    have p : (0 : Int32) < nI (Nat.gcd m b) := nI_lt (a := 0) (by omega) (by omega)
    have q : ¬ nI (Nat.gcd m b) = 0 := fun e => by rw [e] at p; exact absurd p (by decide)
    unfold gX10_meanWait_103
    rw [if_pos p]
    by_cases t0 : t = 0
    · subst t0
      rw [if_pos (show nI 0 = 0 from rfl), gd_t q, dv_n (by omega) g0 (by omega), ansJ]
      by_cases m0 : m = 0
      · subst m0
        rw [if_pos rfl, Nat.zero_div]
        rfl
      · rw [if_neg m0, if_pos rfl]
        rfl
    · obtain rfl : t = 1 := by omega
      rw [if_neg (by decide), gd_t q, dv_n (by omega) g0 (by omega), ansJ]
      by_cases m0 : m = 0
      · subst m0
        rw [if_pos rfl, Nat.gcd_zero_left, Nat.div_self (by omega)]
        rfl
      · rw [if_neg m0, if_neg (by decide)]
        rfl
theorem mean_M {t m b : Nat} {v : Mm} (ht : t ≤ 1) (hm : m ≤ 1000000) (hb : b ≤ 1000) : (if lg_cmp (wJ m) 0 = 0 then some ((nI t).toInt64, v) else (gX11_divisor (wJ m) (wJ b)).bind fun r3 => if nI t = 0 then gd (¬ r3 = 0) (some (wJ m / r3, v)) else gd (¬ r3 = 0) (some (wJ b / r3, v))) = some (ansJ t m b, v) := by
  by_cases m0 : m = 0
  · subst m0
    rw [if_pos (show lg_cmp (wJ 0) 0 = 0 from (lg_cmp_eq _ _).mpr rfl), ansJ, if_pos rfl]
    rfl
  · have c' : ¬ wJ m = 0 := fun e => m0 ((wJ_z (by omega)).mp e)
    rw [if_neg (fun e => c' ((lg_cmp_eq _ _).mp e)), divisor_ok hm hb, Option.bind_some, ansJ, if_neg m0]
    have g0 : 0 < Nat.gcd m b := Nat.gcd_pos_of_pos_left b (by omega)
    have gb : Nat.gcd m b ≤ m := Nat.gcd_le_left b (by omega)
    have q : ¬ wJ (Nat.gcd m b) = 0 := fun e => by have := (wJ_z (by omega)).mp e; omega
    by_cases t0 : t = 0
    · subst t0
      rw [if_pos (show nI 0 = 0 from rfl), if_pos rfl, gd_t q, wJ_d (by omega) g0 (by omega)]
    · obtain rfl : t = 1 := by omega
      rw [if_neg (by decide), if_neg (by decide), gd_t q, wJ_d (by omega) g0 (by omega)]
theorem sumM {t m : Nat} {v : Mm} {r : Nat → Nat} (ht : t ≤ 1) (hm : m ≤ 1000000) (hr : ∀ k, k < 8 → r k ≤ 99) (h100 : RwN v 100 r) : gX11_meanWait_57_L (nI t) (wJ m) FU 0 0 v = some (ansJ t m (smN r 8), v) := by
  have main : Ok (gX11_meanWait_57_L (nI t) (wJ m) FU 0 0 v) (fun q => q = (ansJ t m (smN r 8), v)) := by
    refine loopS (fun n (s : Int64 × Int32 × Mm) => gX11_meanWait_57_L (nI t) (wJ m) n s.1 s.2.1 s.2.2) (fun g s => gX11_meanWait_57_Ls (nI t) (wJ m) (fun a b c => g (a, b, c)) s.1 s.2.1 s.2.2) (fun _ _ => rfl) _
      (fun n s => s.2.1 = nI n ∧ s.1 = wJ (smN r n) ∧ s.2.2 = v) 8 ?_ ?_ 8 0 FU (0, 0, v) rfl (by decide) ⟨rfl, rfl, rfl⟩
    · rintro k ⟨x1, x2, x⟩ g hk ⟨h0, h1, h2⟩ hg
      change x2 = nI k at h0
      subst h0
      change x1 = _ at h1
      subst h1
      change x = v at h2
      subst h2
      show Ok (gX11_meanWait_57_Ls (nI t) (wJ m) (fun a b c => g (a, b, c)) (wJ (smN r k)) (nI k) x) _
      unfold gX11_meanWait_57_Ls
      have l2 := smN_le hr k (by omega)
      have l3 := hr k hk
      rw [if_pos (show nI k < 8 by rw [show (8 : Int32) = nI 8 from rfl, lt_nn (by omega) (by omega)]; exact hk), gd_t (ix_nI (by omega) (by decide)), ixn_nI (by omega), h100 k hk, letv_eq, letv_eq, show (nI (r k)).toInt64 = wJ (r k) from rfl, wJ_a (by omega), nI_s (by omega)]
      exact hg (wJ (smN r k + r k), nI (k + 1), x) ⟨rfl, rfl, rfl⟩
    · rintro ⟨x1, x2, x⟩ g ⟨h0, h1, h2⟩
      change x2 = nI 8 at h0
      subst h0
      change x1 = _ at h1
      subst h1
      change x = v at h2
      subst h2
      show Ok (gX11_meanWait_57_Ls (nI t) (wJ m) (fun a b c => g (a, b, c)) (wJ (smN r 8)) (nI 8) x) _
      unfold gX11_meanWait_57_Ls
      have l2 := smN_le hr 8 (by omega)
      rw [if_neg (by decide), mean_M ht hm (by omega)]
      exact ok_some.mpr rfl
  obtain ⟨q, e, h⟩ := main
  rw [e, h]
theorem c_meanWait (a : Int32) (u : Mm) (hR : R u) : BothJ (gX10_meanWait a u) (gX11_meanWait a) := by
  by_cases h8 : u 54 0 = 8
  · obtain ⟨r, hr, h55, h100, e58⟩ := row_8 hR h8
    by_cases ha : 0 ≤ a.toInt ∧ a.toInt ≤ (1 : Int32).toInt
    · obtain ⟨t, rfl, ht⟩ := nI_upto (a := a) (N := 1) ha.1 ha.2
      obtain ⟨W, c, hW, rC, rM, hc, e12, e74, -⟩ := roads_of hR
      obtain ⟨x, ex, fx, D, hD, hM⟩ := measure_ok rC hW
      have hbnd : ∀ p, p < 8 → wsN D r p 8 ≤ 548856 := fun p hp => wsN_le hW hD hr hp 8 (Nat.le_refl _)
      have hbnd2 : ∀ p, p < 8 → wsN D r p 8 < 2147483648 := fun p hp => by have := hbnd p hp; omega
      obtain ⟨P, hP⟩ : ∃ P, (wpN (fun p => wsN D r p 8) 7).1 = P := ⟨_, rfl⟩
      have hP8 : P < 8 := by rw [← hP]; have := (wpN_le (fun p => wsN D r p 8) 7).1; omega
      have l1 := hbnd P hP8
      have l2 := smN_le hr 8 (by omega)
      refine BothJ_of (r := ansJ t (wsN D r P 8) (smN r 8)) hR ?_ (fun u1 hR1 hrl h74 => ?_)
      · unfold gX10_meanWait gX10_meanWait_b
        have x55 : RwN x 55 r := fun k hk => by rw [fx 55 (by decide)]; exact h55 k hk
        have x8 : x 54 0 = 8 := by rw [fx 54 (by decide)]; exact h8
        have n0 : ¬ nI t < 0 := fun h => by rw [t_lt, i0, t_nI (by omega)] at h; omega
        have n1 : ¬ 1 < nI t := fun h => by rw [t_lt, i1, t_nI (by omega)] at h; omega
        rw [if_pos h8, if_neg n0, if_neg n1, ex, Option.bind_some, placeC (f := fun p => wsN D r p 8) (fun p hp => waitC hW hD hr hM x8 x55 hp) hbnd2, hP, Option.bind_some, waitC hW hD hr hM x8 x55 hP8, Option.bind_some, sumC hr x8 x55, Option.bind_some, mean_C ht (by omega) (by omega) (smN_0 8)]
        exact ok_some.mpr ⟨rfl, Sm_72 (fun c h _ => fx c h)⟩
      · unfold gX11_meanWait gX11_meanWait_b
        rw [letv_eq, if_pos (show stm u1 74 19 0 74 58 = 8 from (h74 58 (by decide)).trans e58), wb_t ha, Option.bind_some, gX11_meanWait_25, if_neg (by decide), ok_bI]
        have r83 : RdM (thr u1) W := rM.of ((thr_c (by decide)).trans (hrl 83 (by decide)))
        have r100 : RwN (thr u1) 100 r := fun k hk => by rw [thr_c (by decide), hrl 100 (by decide)]; exact h100 k hk
        refine (bestM (u := thr u1) (f := fun p => wsN D r p 8) (fun p hp v hv => waitM (r83.of (hv 83 (by decide))) hW hD hr (fun k hk => by rw [hv 100 (by decide)]; exact r100 k hk) hp) hbnd2).mono ?_
        rintro ⟨s, y⟩ ⟨y1, y2⟩
        change s = _ at y1
        rw [hP] at y1
        subst y1
        change ∀ c, c ≠ 96 → y c = thr u1 c at y2
        rw [ok_bI]
        have y100 : RwN y 100 r := fun k hk => by rw [y2 100 (by decide)]; exact r100 k hk
        refine (waitM (r83.of (y2 83 (by decide))) hW hD hr y100 hP8).mono ?_
        rintro ⟨s, z⟩ ⟨z1, z2⟩
        change s = _ at z1
        subst z1
        change ∀ c, c ≠ 96 → z c = y c at z2
        rw [letv_eq, show (nI (wsN D r P 8)).toInt64 = wJ (wsN D r P 8) from rfl, sumM ht (by omega) hr (fun k hk => by show z 100 k = _; rw [z2 100 (by decide)]; exact y100 k hk)]
        exact ok_some.mpr ⟨rfl, Sm_96 (fun c h => (z2 c (fun e => h (by rw [e]; decide))).trans (y2 c (fun e => h (by rw [e]; decide))))⟩
    · refine BothJ_ref (k := 2) (r := 4000000000000000000 - (-2 : Int32).toInt64) hR ?_ ?_
      · unfold gX10_meanWait gX10_meanWait_b gX10_meanWait_33
        rw [if_pos h8]
        by_cases h1 : a < 0
        · rw [if_pos h1, rC2]
          rfl
        · have h2 : 1 < a := by
            rw [t_lt] at h1 ⊢
            rw [i0] at h1
            omega
          rw [if_neg h1, if_pos h2, rC2]
          rfl
      · unfold gX11_meanWait gX11_meanWait_b
        rw [letv_eq, if_pos (show stm (rfC u 2) 74 19 0 74 58 = 8 from e58), wb_f ha, Option.bind_some, gX11_meanWait_25, if_pos (by decide), rM2]
        rfl
  · have h58 := row_n8 hR h8
    refine BothJ_ref (k := 3) (r := 4000000000000000000 - (-3 : Int32).toInt64) hR ?_ ?_
    · unfold gX10_meanWait gX10_meanWait_b
      rw [if_neg h8, rC3]
      rfl
    · unfold gX11_meanWait gX11_meanWait_b
      rw [letv_eq, if_neg (show ¬ stm (rfC u 3) 74 19 0 74 58 = 8 from h58), gX11_meanWait_25, if_pos (by decide), rM3]
      rfl
