/-! Plain Lean from here: what the decompiled functions do to the memory. -/
def Ok {X : Type} (o : Option X) (P : X → Prop) : Prop := ∃ x, o = some x ∧ P x
theorem ok_some {X : Type} {x : X} {P : X → Prop} : Ok (some x) P ↔ P x := ⟨fun ⟨y, h, p⟩ => by cases h; exact p, fun h => ⟨x, rfl, h⟩⟩
theorem ok_bind {X Y : Type} {g : Option Y} {f : Y → Option X} {P : X → Prop} : Ok (g.bind f) P ↔ Ok g (fun y => Ok (f y) P) := by
  cases g with
  | none => exact ⟨fun ⟨y, h, _⟩ => (by cases h), fun ⟨y, h, _⟩ => (by cases h)⟩
  | some y => exact ⟨fun h => ⟨y, rfl, h⟩, fun ⟨z, h, p⟩ => (by cases h; exact p)⟩
theorem ok_bI {X : Type} {g : Option (Int32 × Mm)} {f : Int32 → Mm → Option X} {P : X → Prop} : Ok (bI g f) P ↔ Ok g (fun q => Ok (f q.1 q.2) P) := ok_bind
theorem ok_gd {X : Type} {b : Prop} [Decidable b] {o : Option X} {P : X → Prop} : Ok (gd b o) P ↔ b ∧ Ok o P := by
  unfold gd
  by_cases hb : b
  · rw [if_pos hb]
    exact ⟨fun h => ⟨hb, h⟩, fun h => h.2⟩
  · rw [if_neg hb]
    exact ⟨fun ⟨y, h, _⟩ => (by cases h), fun h => absurd h.1 hb⟩
theorem ok_letv {α X : Type} {a : α} {f : α → Option X} {P : X → Prop} : Ok (letv a f) P ↔ Ok (f a) P := Iff.rfl
theorem ok_if {X : Type} {c : Prop} [Decidable c] {a b : Option X} {P : X → Prop} (h1 : c → Ok a P) (h2 : ¬ c → Ok b P) : Ok (if c then a else b) P := by
  by_cases h : c
  · rw [if_pos h]; exact h1 h
  · rw [if_neg h]; exact h2 h
theorem Ok.mono {X : Type} {o : Option X} {P Q : X → Prop} (h : Ok o P) (hPQ : ∀ x, P x → Q x) : Ok o Q := by
  obtain ⟨x, h1, h2⟩ := h
  exact ⟨x, h1, hPQ x h2⟩
theorem Ok.of {X : Type} {o : Option X} {x : X} {P : X → Prop} (h : o = some x) (p : P x) : Ok o P := ⟨x, h, p⟩
theorem gd_t {X : Type} {b : Prop} [Decidable b] {o : Option X} (h : b) : gd b o = o := if_pos h
theorem letv_eq {α β : Type} (a : α) (f : α → β) : letv a f = f a := rfl
theorem bI_some {X : Type} (r : Int32) (u : Mm) (f : Int32 → Mm → Option X) : bI (some (r, u)) f = f r u := rfl
-- numbers
theorem t_lt (a b : Int32) : (a < b) = (a.toInt < b.toInt) := propext Int32.lt_iff_toInt_lt
theorem t_le (a b : Int32) : (a ≤ b) = (a.toInt ≤ b.toInt) := propext Int32.le_iff_toInt_le
theorem t_eq (a b : Int32) : (a = b) = (a.toInt = b.toInt) := propext Int32.toInt_inj.symm
theorem w_lt (a b : Int32) : (a.toInt64 < b.toInt64) = (a.toInt < b.toInt) := by rw [Int64.lt_iff_toInt_lt, Int32.toInt_toInt64, Int32.toInt_toInt64]
theorem t_nI {n : Nat} (h : n < 2147483648) : (nI n).toInt = (n : Int) := nI_toInt h
theorem t_bd (a : Int32) : -2147483648 ≤ a.toInt ∧ a.toInt < 2147483648 := ⟨Int32.le_toInt a, Int32.toInt_lt a⟩
theorem ixn_nI {n : Nat} (h : n < 2147483648) : ixn (nI n) = n := by
  unfold ixn
  rw [t_nI h]
  exact Int.toNat_natCast n
theorem ix_nI {n N : Nat} (h : n < N) (hN : N < 2147483648) : ix (nI n) N := by
  unfold ix
  rw [t_nI (by omega)]
  omega
theorem t_add {a b : Int32} (h1 : -2147483648 ≤ a.toInt + b.toInt) (h2 : a.toInt + b.toInt < 2147483648) : (a + b).toInt = a.toInt + b.toInt := by
  rw [Int32.toInt_add]
  exact Int.bmod_eq_of_le (by omega) (by omega)
theorem t_sub {a b : Int32} (h1 : -2147483648 ≤ a.toInt - b.toInt) (h2 : a.toInt - b.toInt < 2147483648) : (a - b).toInt = a.toInt - b.toInt := by
  rw [Int32.toInt_sub]
  exact Int.bmod_eq_of_le (by omega) (by omega)
theorem t_mul {a b : Int32} (h1 : -2147483648 ≤ a.toInt * b.toInt) (h2 : a.toInt * b.toInt < 2147483648) : (a * b).toInt = a.toInt * b.toInt := by
  rw [Int32.toInt_mul]
  exact Int.bmod_eq_of_le (by omega) (by omega)
theorem of_nat {a : Int32} {n : Nat} (h : a.toInt = (n : Int)) (hn : n < 2147483648) : a = nI n := Int32.toInt_inj.mp (by rw [h, t_nI hn])
theorem nI_ex {a : Int32} (h : 0 ≤ a.toInt) : ∃ n : Nat, a = nI n ∧ n < 2147483648 ∧ a.toInt = (n : Int) := by
  have h2 := (t_bd a).2
  exact ⟨a.toInt.toNat, of_nat (by omega) (by omega), by omega, by omega⟩
-- memory
theorem stm_r {u : Mm} {k i : Nat} {v : Int32} : stm u k i v k i = v := by rw [stm_eq]; exact if_pos rfl
theorem stm_s {u : Mm} {k i j : Nat} {v : Int32} (h : j ≠ i) : stm u k i v k j = u k j := by rw [stm_eq]; exact if_neg h
theorem stm_c {u : Mm} {k c i : Nat} {v : Int32} (h : c ≠ k) : stm u k i v c = u c := stm_ne h
theorem stm_d (u : Mm) (k i : Nat) (v : Int32) (c : Nat) : stm u k i v c = if c = k then (fun j => if j = i then v else u k j) else u c := rfl
-- small functions of both sides
def bz (p : Prop) [Decidable p] : Int32 := if p then 1 else 0
theorem bz_t {p : Prop} [Decidable p] (h : p) : bz p = 1 := if_pos h
theorem bz_f {p : Prop} [Decidable p] (h : ¬ p) : bz p = 0 := if_neg h
theorem bz_0 {p : Prop} [Decidable p] : (bz p = 0) = ¬ p := by
  by_cases h : p
  · rw [bz_t h]; simp [h]
  · rw [bz_f h]; simp [h]
theorem bz_01 {p : Prop} [Decidable p] : bz p = 0 ∨ bz p = 1 := by
  by_cases h : p
  · exact Or.inr (bz_t h)
  · exact Or.inl (bz_f h)
theorem in64 (x a b : Int64) : gX11_in x a b = some (bz (a ≤ x ∧ x ≤ b)) := by
  unfold gX11_in gX11_in_b
  by_cases h1 : x < a
  · rw [if_pos ((lg_cmp_lt x a).mpr h1), bz_f (fun h => absurd h1 (Int64.not_lt.mpr h.1))]
  · rw [if_neg (fun h => h1 ((lg_cmp_lt x a).mp h))]
    by_cases h2 : b < x
    · rw [if_pos ((lg_cmp_gt x b).mpr h2), bz_f (fun h => absurd h2 (Int64.not_lt.mpr h.2))]
    · rw [if_neg (fun h => h2 ((lg_cmp_gt x b).mp h)), bz_t ⟨Int64.not_lt.mp h1, Int64.not_lt.mp h2⟩]
theorem bz_c {p q : Prop} [Decidable p] [Decidable q] (h : p ↔ q) : bz p = bz q := by
  by_cases hp : p
  · rw [bz_t hp, bz_t (h.mp hp)]
  · rw [bz_f hp, bz_f (fun hq => hp (h.mpr hq))]
theorem in_ii (x a b : Int32) : gX11_in x.toInt64 a.toInt64 b.toInt64 = some (bz (a.toInt ≤ x.toInt ∧ x.toInt ≤ b.toInt)) := by
  rw [in64]
  exact congrArg some (bz_c (by rw [Int64.le_iff_toInt_le, Int64.le_iff_toInt_le, Int32.toInt_toInt64, Int32.toInt_toInt64, Int32.toInt_toInt64]))
theorem in_l (x : Int32) {a b : Int64} {A B : Int} (ha : a.toInt = A) (hb : b.toInt = B) : gX11_in x.toInt64 a b = some (bz (A ≤ x.toInt ∧ x.toInt ≤ B)) := by
  rw [in64]
  exact congrArg some (bz_c (by rw [Int64.le_iff_toInt_le, Int64.le_iff_toInt_le, Int32.toInt_toInt64, ha, hb]))
theorem isLayer_eq (v : Int32) : gX10_isLayer v = some (bz (0 ≤ v.toInt ∧ v.toInt < 8)) := by
  unfold gX10_isLayer gX10_isLayer_b
  simp only [t_lt]
  rw [show (0 : Int32).toInt = 0 from rfl, show (8 : Int32).toInt = 8 from rfl]
  by_cases h1 : v.toInt < 0
  · rw [if_pos h1, bz_f (by omega)]
  · rw [if_neg h1]
    by_cases h2 : v.toInt < 8
    · rw [if_pos h2, bz_t (by omega)]
    · rw [if_neg h2, bz_f (by omega)]
theorem isPlace_eq (v : Int32) : gX10_isPlace v = some (bz (0 ≤ v.toInt ∧ v.toInt < 8)) := by
  unfold gX10_isPlace gX10_isPlace_b
  simp only [t_lt]
  rw [show (0 : Int32).toInt = 0 from rfl, show (8 : Int32).toInt = 8 from rfl]
  by_cases h1 : v.toInt < 0
  · rw [if_pos h1, bz_f (by omega)]
  · rw [if_neg h1]
    by_cases h2 : v.toInt < 8
    · rw [if_pos h2, bz_t (by omega)]
    · rw [if_neg h2, bz_f (by omega)]
theorem mPlace_eq (v : Int32) : gX11_isPlace v = some (bz (0 ≤ v.toInt ∧ v.toInt < 8)) := by
  unfold gX11_isPlace gX11_isPlace_b
  rw [in_l v (A := 0) (B := 7) rfl rfl]
  show gd _ _ = _
  rw [gd_t bz_01]
  exact congrArg some (bz_c (by omega))
/-- a refusal of either side: its number, and one more of it -/
def rfC (u : Mm) (k : Nat) : Mm := stm u 56 k (u 56 k + 1)
def rfM (u : Mm) (k : Nat) : Mm := stm u 84 k (u 84 k + 1)
theorem refuseC (u : Mm) (k : Nat) (h : 1 ≤ k ∧ k ≤ 6) : gX10_refuse (-nI k) u = some (-nI k, rfC u k) := by
  obtain ⟨h1, h2⟩ := h
  have e : -(-nI k) = nI k := by rw [Int32.neg_neg]
  unfold gX10_refuse gX10_refuse_b
  rw [letv_eq, e, if_pos (show (0 : Int32) < nI k from nI_lt (a := 0) (by omega) (by omega)), if_pos (nI_lt (by omega) (by decide)), gd_t (ix_nI (by omega) (by decide)), gd_t (ix_nI (by omega) (by decide)), letv_eq, ixn_nI (by omega)]
  rfl
theorem refuseM (u : Mm) (k : Nat) (h : 1 ≤ k ∧ k ≤ 6) : gX11_refuse (-nI k) u = some (-nI k, rfM u k) := by
  obtain ⟨h1, h2⟩ := h
  have e : -(-nI k) = nI k := by rw [Int32.neg_neg]
  unfold gX11_refuse gX11_refuse_b
  rw [e, gd_t (ix_nI (by omega) (by decide)), gd_t (ix_nI (by omega) (by decide)), letv_eq, ixn_nI (by omega)]
  rfl
