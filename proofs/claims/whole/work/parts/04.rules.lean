/-! The world as a memory of numbers; the judgement Gp: from a place of a method, with these locals, this stack and this memory, the machine comes to the end that the answer o names. -/
abbrev EE : Type := (Nat → Nat) × va_G × Nat × Nat
abbrev Mm : Type := Nat → Nat → Int32
def NC : Nat := 100
def kdL : List Nat := [0, 13, 12, 3, 1, 1, 4, 1, 1, 1, 1, 1, 9, 1, 5, 12, 3, 1, 1, 4, 1, 1, 1, 1, 1, 9, 1, 5, 12, 3, 1, 1, 4, 1, 1, 1, 1, 1, 9, 1, 5, 7, 2, 5, 5, 5, 5, 5, 5, 5, 5, 8, 10, 1, 10, 1, 1, 6, 3, 1, 1, 4, 1, 1, 1, 1, 1, 5, 5, 5, 1, 11, 1, 1, 14, 1, 1, 1, 1, 1, 1, 1, 1, 1, 1, 1, 1, 1, 1, 1, 1, 1, 1, 1, 1, 1, 1, 1, 1, 1, 1]
def szL : List Nat := [0, 10, 4, 2, 8, 8, 6, 8, 8, 8, 8, 8, 2, 64, 10, 4, 2, 8, 8, 6, 8, 8, 8, 8, 8, 2, 64, 10, 4, 2, 8, 8, 6, 8, 8, 8, 8, 8, 2, 64, 10, 3, 8, 10, 10, 10, 10, 10, 10, 10, 10, 1, 2, 96, 2, 12, 7, 18, 2, 8, 8, 6, 8, 8, 8, 8, 8, 10, 10, 10, 6, 2, 64, 2048, 59, 8, 8, 6, 8, 8, 8, 8, 8, 64, 7, 96, 49, 49, 441, 49, 138, 138, 14, 112, 14, 14, 8, 6, 64, 2048, 12]
def ofL : List (List Nat) := [[1, 2], [0, 1, 2, 3, 4, 5], [0, 0, 0, 0, 0, 0, 0, 0, 0, 0], [1, 4, 10, 11, 0, 12, 0, 0, 0, 0, 0, 0, 0, 0, 0, 0, 0, 13], [0, 0, 1], [1], [0, 1], [0, 1], [1, 2], [1, 4, 10, 12], [1, 14, 27, 0, 40, 50, 53, 55, 56, 70], [1, 2, 0, 0, 0, 0, 0, 0, 0, 0, 3, 0, 4, 5, 6, 7, 8, 9, 0, 0, 10, 0, 11, 0, 0, 0, 0, 12, 13, 14, 15, 16, 17, 0, 0, 0, 9999, 18, 19, 20, 0, 0, 0, 0, 0, 0, 0, 0, 0, 0, 21, 0, 0, 22, 23, 24, 25, 26, 0]]
def kd (k : Nat) : Nat := kdL.getD k 0
def sz (k : Nat) : Nat := szL.getD k 0
def ofs (c i : Nat) : Nat := (ofL.getD c []).getD i 0
def nfs (c : Nat) : Nat := (ofL.getD c []).length
abbrev rv (E : EE) (k : Nat) : Value := .ref (E.1 k)
def rn (E : EE) (k : Nat) : Value := if k = 0 then .null else .ref (E.1 k)
def ixn (i : Int32) : Nat := i.toInt.toNat
def sv (E : EE) (u : Mm) (k i : Nat) : Value := if ofs (kd k - 3) i = 0 then .int (u k i) else if ofs (kd k - 3) i = 9999 then rn E (ixn (u k i)) else rv E (k + ofs (kd k - 3) i)
def rend (E : EE) (u : Mm) (k : Nat) : va_E := if kd k = 1 then .inl (E.2.2.1, sz k, .inl (u k)) else if kd k = 2 then .inl (E.2.2.2, sz k, .inr (.inr (.inr (.inr (fun i => some (E.1 (k + 1 + i))))))) else .inr (kd k - 3, (List.range (nfs (kd k - 3))).map (sv E u k))
def wlN (n : Nat) (E : EE) (u : Mm) : va_W := (List.range n).map (fun j => (E.1 (j + 1), rend E u (j + 1)))
def wl (E : EE) (u : Mm) : va_W := wlN NC E u
def stm (u : Mm) (k i : Nat) (v : Int32) : Mm := fun k' => if k' = k then upd (u k) i v else u k'
theorem ixn_eq (i : Int32) : i.toNatClampNeg = ixn i := rfl
theorem wlN_get (n : Nat) (E : EE) (u : Mm) {k : Nat} (h1 : 1 ≤ k) (h2 : k ≤ n) : (wlN n E u)[k - 1]? = some (E.1 k, rend E u k) := by
  unfold wlN
  rw [List.getElem?_map, List.getElem?_range (by omega)]
  show some (E.1 (k - 1 + 1), rend E u (k - 1 + 1)) = _
  rw [Nat.sub_add_cancel h1]
theorem wlN_len (n : Nat) (E : EE) (u : Mm) : (wlN n E u).length = n := by simp [wlN]
theorem wlN_set (n : Nat) (E : EE) (u u' : Mm) {k : Nat} (h1 : 1 ≤ k) (h2 : k ≤ n) (ho : ∀ j, j ≠ k → rend E u' j = rend E u j) : (wlN n E u).set (k - 1) (E.1 k, rend E u' k) = wlN n E u' := by
  apply List.ext_getElem?
  intro j
  rw [List.getElem?_set]
  by_cases hj : k - 1 = j
  · subst hj
    rw [if_pos rfl, if_pos (by rw [wlN_len]; omega), wlN_get n E u' h1 h2]
  · rw [if_neg hj]
    by_cases hl : j < n
    · have e1 := wlN_get n E u (k := j + 1) (by omega) (by omega)
      have e2 := wlN_get n E u' (k := j + 1) (by omega) (by omega)
      rw [Nat.add_sub_cancel] at e1 e2
      rw [e1, e2, ho (j + 1) (by omega)]
    · rw [List.getElem?_eq_none (by rw [wlN_len]; omega), List.getElem?_eq_none (by rw [wlN_len]; omega)]
theorem wl_get (E : EE) (u : Mm) {k : Nat} (h1 : 1 ≤ k) (h2 : k ≤ NC) : (wl E u)[k - 1]? = some (E.1 k, rend E u k) := wlN_get NC E u h1 h2
theorem wl_set (E : EE) (u u' : Mm) {k : Nat} (h1 : 1 ≤ k) (h2 : k ≤ NC) (ho : ∀ j, j ≠ k → rend E u' j = rend E u j) : (wl E u).set (k - 1) (E.1 k, rend E u' k) = wl E u' := wlN_set NC E u u' h1 h2 ho
theorem kd_lt {k : Nat} (h : kd k ≠ 0) : 1 ≤ k ∧ k ≤ NC := by
  have hall : ∀ j, j < 200 → kd j ≠ 0 → 1 ≤ j ∧ j ≤ NC := by decide +kernel
  by_cases hk : k < 200
  · exact hall k hk h
  · have h9 : kdL.length ≤ 200 := by decide +kernel
    have h8 : kd k = 0 := by
      unfold kd
      rw [List.getD_eq_getElem?_getD, List.getElem?_eq_none (by omega)]
      rfl
    exact absurd h8 h
theorem kd_all {P : Nat → Prop} [DecidablePred P] {c : Nat} (hc : c ≠ 0) (h : (List.range 200).all (fun j => decide (kd j = c → P j)) = true) {k : Nat} (hk : kd k = c) : P k := by
  have h1 := kd_lt (k := k) (by omega)
  have h2 : k < 200 := by
    have : NC ≤ 199 := by decide +kernel
    omega
  have h3 := List.all_eq_true.mp h k (List.mem_range.mpr h2)
  exact (of_decide_eq_true h3) hk
theorem rend_o (E : EE) (u : Mm) {k c : Nat} (h : kd k = c + 3) : rend E u k = .inr (c, (List.range (nfs c)).map (sv E u k)) := by
  unfold rend
  rw [if_neg (by omega), if_neg (by omega), h]
  rfl
theorem rend_i (E : EE) (u : Mm) {k : Nat} (h : kd k = 1) : rend E u k = .inl (E.2.2.1, sz k, .inl (u k)) := by
  unfold rend
  rw [if_pos h]
theorem rend_f (E : EE) (u : Mm) {k : Nat} (h : kd k = 2) : rend E u k = .inl (E.2.2.2, sz k, .inr (.inr (.inr (.inr (fun i => some (E.1 (k + 1 + i))))))) := by
  unfold rend
  rw [if_neg (by omega), if_pos h]
theorem sv_congr {E : EE} {u u' : Mm} {k i : Nat} (h : u' k i = u k i) : sv E u' k i = sv E u k i := by
  unfold sv
  rw [h]
theorem stm_ne {u : Mm} {k i j : Nat} {v : Int32} (h : j ≠ k) : stm u k i v j = u j := by
  unfold stm
  rw [if_neg h]
theorem stm_eq {u : Mm} {k i : Nat} {v : Int32} : stm u k i v k = upd (u k) i v := by
  unfold stm
  rw [if_pos rfl]
theorem rend_ne {E : EE} {u u' : Mm} {j : Nat} (h : u' j = u j) : rend E u' j = rend E u j := by
  unfold rend
  have hs : sv E u' j = sv E u j := funext fun i => sv_congr (by rw [h])
  rw [h, hs]
theorem map_set {α : Type} (n : Nat) (f f' : Nat → α) {i : Nat} (hi : i < n) (ho : ∀ j, j ≠ i → f' j = f j) : ((List.range n).map f).set i (f' i) = (List.range n).map f' := by
  apply List.ext_getElem?
  intro j
  rw [List.getElem?_set, List.length_map, List.length_range]
  by_cases hj : i = j
  · subst hj
    rw [if_pos rfl, if_pos hi, List.getElem?_map, List.getElem?_range hi]
    rfl
  · rw [if_neg hj, List.getElem?_map, List.getElem?_map]
    by_cases hl : j < n
    · rw [List.getElem?_range hl]
      show some (f j) = some (f' j)
      rw [ho j (fun e => hj e.symm)]
    · rw [List.getElem?_eq_none (by rw [List.length_range]; omega)]
      rfl
/-- an object's slot is written -/
theorem rend_set {E : EE} {u : Mm} {k c i : Nat} {v : Int32} (h : kd k = c + 3) (hi : i < nfs c) : (Sum.inr (c, ((List.range (nfs c)).map (sv E u k)).set i (sv E (stm u k i v) k i)) : va_E) = rend E (stm u k i v) k := by
  have h1 : ∀ j, j ≠ i → sv E (stm u k i v) k j = sv E u k j := fun j hj => sv_congr (by rw [stm_eq]; exact if_neg hj)
  have h2 := map_set (nfs c) (sv E u k) (sv E (stm u k i v) k) hi h1
  rw [rend_o E _ h, h2]
theorem n32a {a b : Int32} (h : b ≤ a) : ¬ a < b := Int32.not_lt.mpr h
theorem n32b {a b : Int32} (h : ¬ b ≤ a) : a < b := Int32.not_le.mp h
theorem ini_math : Cond.initialized "java/lang/Math" ∈ wsL_law := wm_22 12 rfl
def nwL : List Cond := [Cond.methodLinkNest RX0 18 yX10_isLayer "DownAmongFences", Cond.methodLinkNest RX2 57 yX10_between "DownAmongFences", Cond.methodLinkNest RX5 93 yX10_isLayer "DownAmongFences", Cond.methodLinkNest RX5 112 yX10_areTwoPlaces "DownAmongFences", Cond.methodLinkNest RX6 19 yX10_isPlace "DownAmongFences", Cond.methodLinkNest RX8 25 yX10_areTwoPlaces "DownAmongFences", Cond.methodLinkNest RX8 36 yX10_isPlace "DownAmongFences"]
def nwOk : Cond → Bool
  | .methodLinkNest _ _ _ _ => true
  | _ => false
theorem nwL_ok : nwL.all nwOk = true := by decide +kernel
def letv {α β : Type} (a : α) (f : α → β) : β := f a
def gd {X : Type} (b : Prop) [Decidable b] (o : Option X) : Option X := if b then o else none
abbrev ix (i : Int32) (n : Nat) : Prop := 0 ≤ i.toInt ∧ i.toInt < n
def imax (x y : Int32) : Int32 := if x < y then y else x
def imin (x y : Int32) : Int32 := if y < x then y else x
def iabs (x : Int32) : Int32 := if x < 0 then 0 - x else x
def irm (x y : Int32) : Int32 := x - x / y * y
def lrm (x y : Int64) : Int64 := x - x / y * y
def shl (x y : Int32) : Int32 := x <<< (y &&& 31)
def shr (x y : Int32) : Int32 := x >>> (y &&& 31)
def bI {X : Type} (g : Option (Int32 × Mm)) (f : Int32 → Mm → Option X) : Option X := g.bind (fun q => f q.1 q.2)
abbrev KX : Type := Program × Launch × Env × Room × State × MethodId × Array Value × List Frame × Method × Code
abbrev GX : Type := EE × (Nat → Prop) × KX × Nat × Nat × Nat
abbrev xE (Γ : GX) : EE := Γ.1
abbrev xA (Γ : GX) : Nat → Prop := Γ.2.1
abbrev xp (Γ : GX) : Program := Γ.2.2.1.1
abbrev xl (Γ : GX) : Launch := Γ.2.2.1.2.1
abbrev xe (Γ : GX) : Env := Γ.2.2.1.2.2.1
abbrev xR (Γ : GX) : Room := Γ.2.2.1.2.2.2.1
abbrev xs (Γ : GX) : State := Γ.2.2.1.2.2.2.2.1
abbrev xm (Γ : GX) : MethodId := Γ.2.2.1.2.2.2.2.2.1
abbrev xa (Γ : GX) : Array Value := Γ.2.2.1.2.2.2.2.2.2.1
abbrev xb (Γ : GX) : List Frame := Γ.2.2.1.2.2.2.2.2.2.2.1
abbrev xt (Γ : GX) : Method := Γ.2.2.1.2.2.2.2.2.2.2.2.1
abbrev xc (Γ : GX) : Code := Γ.2.2.1.2.2.2.2.2.2.2.2.2
abbrev xk (Γ : GX) : Nat := Γ.2.2.2.1
abbrev xw (Γ : GX) : Nat := Γ.2.2.2.2.1
abbrev xn (Γ : GX) : Nat := Γ.2.2.2.2.2
def Gp {X : Type} (Γ : GX) (QF : X → State → Prop) (pc : Nat) (ls : List (Nat × Value)) (st : List Value) (u : Mm) (o : Option X) : Prop :=
  ∀ x, o = some x → ∀ (H : Heap) (locs : List Loc) (la : Array Slot), va_P (xE Γ).2.1 vwCl (wl (xE Γ) u) H → va_S (xA Γ) (xs Γ).heap H locs → lv_has la (xn Γ) ls → W (xp Γ) (xl Γ) (xe Γ) (xR Γ) (xs Γ) (xm Γ) (xa Γ) (xb Γ) (xt Γ) (xc Γ) H locs (xk Γ) (xw Γ) (QF x) (F0 (xm Γ) pc la st)
def Ij (E : EE) : Prop := ∀ i j, 1 ≤ i → i ≤ NC → 1 ≤ j → j ≤ NC → E.1 i = E.1 j → i = j
def NW (U : State) : Prop := ∀ w ∈ nwL, va_Nw w U
abbrev tyL (E : EE) : List (ClassId × FieldType) := [(E.2.2.1, .int), (E.2.2.2, .object RX2)]
def Cx (Γ : GX) (own : String) (cc : ByteArray) (d : Nat) : Prop :=
  (xp Γ).tables.exec = Jvm.exec ∧ (xc Γ).code = cc ∧ (xc Γ).maxLocals = xn Γ ∧ (xs Γ).vm.findClass own = some (xm Γ).cls ∧ (∀ w ∈ wsL_law, w.before (xa Γ) (xs Γ) = true) ∧ va_K (xE Γ).2.1 vwCl (tyL (xE Γ)) (xs Γ) ∧ NW (xs Γ) ∧ Ij (xE Γ) ∧ (∀ k, 1 ≤ k → k ≤ NC → xA Γ ((xE Γ).1 k)) ∧ d ≤ (xR Γ).frames ∧ 36 * d ≤ (xR Γ).locals ∧ xk Γ ≤ (xR Γ).cells ∧ xw Γ ≤ (xR Γ).slots
theorem Cx.exec {Γ : GX} {own : String} {cc : ByteArray} {d : Nat} (C : Cx Γ own cc d) : (xp Γ).tables.exec = Jvm.exec := C.1
theorem Cx.bytes {Γ : GX} {own : String} {cc : ByteArray} {d : Nat} (C : Cx Γ own cc d) : (xc Γ).code = cc := C.2.1
theorem Cx.ml {Γ : GX} {own : String} {cc : ByteArray} {d : Nat} (C : Cx Γ own cc d) : (xc Γ).maxLocals = xn Γ := C.2.2.1
theorem Cx.own {Γ : GX} {own : String} {cc : ByteArray} {d : Nat} (C : Cx Γ own cc d) : (xs Γ).vm.findClass own = some (xm Γ).cls := C.2.2.2.1
theorem Cx.ts {Γ : GX} {own : String} {cc : ByteArray} {d : Nat} (C : Cx Γ own cc d) : ∀ w ∈ wsL_law, w.before (xa Γ) (xs Γ) = true := C.2.2.2.2.1
theorem Cx.K {Γ : GX} {own : String} {cc : ByteArray} {d : Nat} (C : Cx Γ own cc d) : va_K (xE Γ).2.1 vwCl (tyL (xE Γ)) (xs Γ) := C.2.2.2.2.2.1
theorem Cx.N {Γ : GX} {own : String} {cc : ByteArray} {d : Nat} (C : Cx Γ own cc d) : NW (xs Γ) := C.2.2.2.2.2.2.1
theorem Cx.I {Γ : GX} {own : String} {cc : ByteArray} {d : Nat} (C : Cx Γ own cc d) : Ij (xE Γ) := C.2.2.2.2.2.2.2.1
theorem Cx.A {Γ : GX} {own : String} {cc : ByteArray} {d : Nat} (C : Cx Γ own cc d) : ∀ k, 1 ≤ k → k ≤ NC → xA Γ ((xE Γ).1 k) := C.2.2.2.2.2.2.2.2.1
theorem Cx.fr {Γ : GX} {own : String} {cc : ByteArray} {d : Nat} (C : Cx Γ own cc d) : d ≤ (xR Γ).frames := C.2.2.2.2.2.2.2.2.2.1
theorem Cx.lo {Γ : GX} {own : String} {cc : ByteArray} {d : Nat} (C : Cx Γ own cc d) : 36 * d ≤ (xR Γ).locals := C.2.2.2.2.2.2.2.2.2.2.1
theorem Cx.ce {Γ : GX} {own : String} {cc : ByteArray} {d : Nat} (C : Cx Γ own cc d) : xk Γ ≤ (xR Γ).cells := C.2.2.2.2.2.2.2.2.2.2.2.1
theorem Cx.sl {Γ : GX} {own : String} {cc : ByteArray} {d : Nat} (C : Cx Γ own cc d) : xw Γ ≤ (xR Γ).slots := C.2.2.2.2.2.2.2.2.2.2.2.2
theorem wl_at {E : EE} {u : Mm} {k : Nat} {q : Nat × va_E} (h : (wl E u)[k]? = some q) : k < NC ∧ q.1 = E.1 (k + 1) := by
  have hl : k < NC := by
    have := (List.getElem?_eq_some_iff.mp h).1
    simpa [wl, wlN] using this
  have := wl_get E u (k := k + 1) (by omega) (by omega)
  rw [Nat.add_sub_cancel, h] at this
  exact ⟨hl, congrArg (fun z => z.1) (Option.some.inj this)⟩
theorem D_of {E : EE} {A : Nat → Prop} (hI : Ij E) (hA : ∀ k, 1 ≤ k → k ≤ NC → A (E.1 k)) (u : Mm) : va_D A (wl E u) := by
  refine ⟨fun i j p q hi hj he => ?_, fun k q hk => ?_⟩
  · obtain ⟨a1, a2⟩ := wl_at hi
    obtain ⟨b1, b2⟩ := wl_at hj
    have := hI (i + 1) (j + 1) (by omega) (by omega) (by omega) (by omega) (by rw [← a2, ← b2]; exact he)
    omega
  · obtain ⟨a1, a2⟩ := wl_at hk
    rw [a2]
    exact hA _ (by omega) (by omega)
theorem Cx.D {Γ : GX} {own : String} {cc : ByteArray} {d : Nat} (C : Cx Γ own cc d) (u : Mm) : va_D (xA Γ) (wl (xE Γ) u) := D_of C.I C.A u
section RULES
variable {X : Type} {Γ : GX} {QF : X → State → Prop} {own : String} {cc : ByteArray} {d pc pc0 : Nat} {ls : List (Nat × Value)} {rest : List Value} {u : Mm} {o o1 o2 : Option X}
theorem g_none {st : List Value} : Gp Γ QF pc ls st u none := fun x h => by cases h
theorem g_gd {b : Prop} [Decidable b] {st : List Value} (h : b → Gp Γ QF pc ls st u o) : Gp Γ QF pc ls st u (gd b o) := fun x hx => by
  unfold gd at hx
  by_cases hb : b
  · rw [if_pos hb] at hx
    exact h hb x hx
  · rw [if_neg hb] at hx
    cases hx
theorem g_if {b : Prop} [Decidable b] {st : List Value} (h1 : b → Gp Γ QF pc ls st u o1) (h2 : ¬ b → Gp Γ QF pc ls st u o2) : Gp Γ QF pc ls st u (if b then o1 else o2) := fun x hx => by
  by_cases hb : b
  · rw [if_pos hb] at hx
    exact h1 hb x hx
  · rw [if_neg hb] at hx
    exact h2 hb x hx
theorem g_letm {f : Mm → Option X} {st : List Value} (h : ∀ u', Gp Γ QF pc ls st u' (f u')) : Gp Γ QF pc ls st u (letv u f) := h u
theorem g_lets {f : Int32 → Option X} {x : Int32} (h : ∀ x, Gp Γ QF pc ls (.int x :: rest) u (f x)) : Gp Γ QF pc ls (.int x :: rest) u (letv x f) := h x
theorem g_sub {ls' : List (Nat × Value)} {st : List Value} (ks : List Nat) (hs : lv_pick ls ks = ls') (h : Gp Γ QF pc ls' st u o) : Gp Γ QF pc ls st u o := fun x hx H locs la hP hS hl => h x hx H locs la hP hS (lv_sub hl ks hs)
theorem g_pc {st : List Value} (hp : pc0 = pc) (h : Gp Γ QF pc ls st u o) : Gp Γ QF pc0 ls st u o := hp ▸ h
theorem g_iadd {x y : Int32} (C : Cx Γ own cc d) (hd : decode cc pc = .ok (.iadd, 1)) (hp : pc0 = pc) (h : Gp Γ QF (pc + 1) ls (.int (x + y) :: rest) u o) : Gp Γ QF pc0 ls (.int y :: .int x :: rest) u o := by
  subst hp
  exact fun r hr H locs la hP hS hl => lv_iadd C.exec C.bytes hd (h r hr H locs la hP hS hl)
theorem g_isub {x y : Int32} (C : Cx Γ own cc d) (hd : decode cc pc = .ok (.isub, 1)) (hp : pc0 = pc) (h : Gp Γ QF (pc + 1) ls (.int (x - y) :: rest) u o) : Gp Γ QF pc0 ls (.int y :: .int x :: rest) u o := by
  subst hp
  exact fun r hr H locs la hP hS hl => lv_isub C.exec C.bytes hd (h r hr H locs la hP hS hl)
theorem g_imul {x y : Int32} (C : Cx Γ own cc d) (hd : decode cc pc = .ok (.imul, 1)) (hp : pc0 = pc) (h : Gp Γ QF (pc + 1) ls (.int (x * y) :: rest) u o) : Gp Γ QF pc0 ls (.int y :: .int x :: rest) u o := by
  subst hp
  exact fun r hr H locs la hP hS hl => lv_imul C.exec C.bytes hd (h r hr H locs la hP hS hl)
theorem g_iand {x y : Int32} (C : Cx Γ own cc d) (hd : decode cc pc = .ok (.iand, 1)) (hp : pc0 = pc) (h : Gp Γ QF (pc + 1) ls (.int (x &&& y) :: rest) u o) : Gp Γ QF pc0 ls (.int y :: .int x :: rest) u o := by
  subst hp
  exact fun r hr H locs la hP hS hl => lv_iand C.exec C.bytes hd (h r hr H locs la hP hS hl)
theorem g_ior {x y : Int32} (C : Cx Γ own cc d) (hd : decode cc pc = .ok (.ior, 1)) (hp : pc0 = pc) (h : Gp Γ QF (pc + 1) ls (.int (x ||| y) :: rest) u o) : Gp Γ QF pc0 ls (.int y :: .int x :: rest) u o := by
  subst hp
  exact fun r hr H locs la hP hS hl => lv_ior C.exec C.bytes hd (h r hr H locs la hP hS hl)
theorem g_ixor {x y : Int32} (C : Cx Γ own cc d) (hd : decode cc pc = .ok (.ixor, 1)) (hp : pc0 = pc) (h : Gp Γ QF (pc + 1) ls (.int (x ^^^ y) :: rest) u o) : Gp Γ QF pc0 ls (.int y :: .int x :: rest) u o := by
  subst hp
  exact fun r hr H locs la hP hS hl => lv_ixor C.exec C.bytes hd (h r hr H locs la hP hS hl)
theorem g_ishl {x y : Int32} (C : Cx Γ own cc d) (hd : decode cc pc = .ok (.ishl, 1)) (hp : pc0 = pc) (h : Gp Γ QF (pc + 1) ls (.int (shl x y) :: rest) u o) : Gp Γ QF pc0 ls (.int y :: .int x :: rest) u o := by
  subst hp
  exact fun r hr H locs la hP hS hl => lv_ishl C.exec C.bytes hd (h r hr H locs la hP hS hl)
theorem g_ishr {x y : Int32} (C : Cx Γ own cc d) (hd : decode cc pc = .ok (.ishr, 1)) (hp : pc0 = pc) (h : Gp Γ QF (pc + 1) ls (.int (shr x y) :: rest) u o) : Gp Γ QF pc0 ls (.int y :: .int x :: rest) u o := by
  subst hp
  exact fun r hr H locs la hP hS hl => lv_ishr C.exec C.bytes hd (h r hr H locs la hP hS hl)
theorem g_idiv {x y : Int32} (C : Cx Γ own cc d) (hd : decode cc pc = .ok (.idiv, 1)) (hp : pc0 = pc) (hne : ¬ y = 0) (h : Gp Γ QF (pc + 1) ls (.int (x / y) :: rest) u o) : Gp Γ QF pc0 ls (.int y :: .int x :: rest) u o := by
  subst hp
  exact fun r hr H locs la hP hS hl => lv_idiv C.exec C.bytes hd hne (h r hr H locs la hP hS hl)
theorem g_irem {x y : Int32} (C : Cx Γ own cc d) (hd : decode cc pc = .ok (.irem, 1)) (hp : pc0 = pc) (hne : ¬ y = 0) (h : Gp Γ QF (pc + 1) ls (.int (irm x y) :: rest) u o) : Gp Γ QF pc0 ls (.int y :: .int x :: rest) u o := by
  subst hp
  exact fun r hr H locs la hP hS hl => lv_irem C.exec C.bytes hd hne (h r hr H locs la hP hS hl)
theorem g_ineg {x : Int32} (C : Cx Γ own cc d) (hd : decode cc pc = .ok (.ineg, 1)) (hp : pc0 = pc) (h : Gp Γ QF (pc + 1) ls (.int (-x) :: rest) u o) : Gp Γ QF pc0 ls (.int x :: rest) u o := by
  subst hp
  exact fun r hr H locs la hP hS hl => lv_ineg C.exec C.bytes hd (h r hr H locs la hP hS hl)
theorem g_ladd {x y : Int64} (C : Cx Γ own cc d) (hd : decode cc pc = .ok (.ladd, 1)) (hp : pc0 = pc) (h : Gp Γ QF (pc + 1) ls (.long (x + y) :: rest) u o) : Gp Γ QF pc0 ls (.long y :: .long x :: rest) u o := by
  subst hp
  exact fun r hr H locs la hP hS hl => lv_ladd C.exec C.bytes hd (h r hr H locs la hP hS hl)
theorem g_lsub {x y : Int64} (C : Cx Γ own cc d) (hd : decode cc pc = .ok (.lsub, 1)) (hp : pc0 = pc) (h : Gp Γ QF (pc + 1) ls (.long (x - y) :: rest) u o) : Gp Γ QF pc0 ls (.long y :: .long x :: rest) u o := by
  subst hp
  exact fun r hr H locs la hP hS hl => lv_lsub C.exec C.bytes hd (h r hr H locs la hP hS hl)
theorem g_ldiv {x y : Int64} (C : Cx Γ own cc d) (hd : decode cc pc = .ok (.ldiv, 1)) (hp : pc0 = pc) (hne : ¬ y = 0) (h : Gp Γ QF (pc + 1) ls (.long (x / y) :: rest) u o) : Gp Γ QF pc0 ls (.long y :: .long x :: rest) u o := by
  subst hp
  exact fun r hr H locs la hP hS hl => lv_ldiv C.exec C.bytes hd hne (h r hr H locs la hP hS hl)
theorem g_lrem {x y : Int64} (C : Cx Γ own cc d) (hd : decode cc pc = .ok (.lrem, 1)) (hp : pc0 = pc) (hne : ¬ y = 0) (h : Gp Γ QF (pc + 1) ls (.long (lrm x y) :: rest) u o) : Gp Γ QF pc0 ls (.long y :: .long x :: rest) u o := by
  subst hp
  exact fun r hr H locs la hP hS hl => lv_lrem C.exec C.bytes hd hne (h r hr H locs la hP hS hl)
theorem g_lcmp {x y : Int64} (C : Cx Γ own cc d) (hd : decode cc pc = .ok (.lcmp, 1)) (hp : pc0 = pc) (h : Gp Γ QF (pc + 1) ls (.int (lg_cmp x y) :: rest) u o) : Gp Γ QF pc0 ls (.long y :: .long x :: rest) u o := by
  subst hp
  exact fun r hr H locs la hP hS hl => W.lcmp C.exec C.bytes hd (h r hr H locs la hP hS hl)
theorem g_i2l {x : Int32} (C : Cx Γ own cc d) (hd : decode cc pc = .ok (.i2l, 1)) (hp : pc0 = pc) (h : Gp Γ QF (pc + 1) ls (.long x.toInt64 :: rest) u o) : Gp Γ QF pc0 ls (.int x :: rest) u o := by
  subst hp
  exact fun r hr H locs la hP hS hl => lv_i2l C.exec C.bytes hd rfl (h r hr H locs la hP hS hl)
theorem g_iconst {n : Int} {v : Int32} (C : Cx Γ own cc d) (hd : decode cc pc = .ok (.iconst n, 1)) (hp : pc0 = pc) (hv : Int32.ofInt n = v) (h : Gp Γ QF (pc + 1) ls (.int v :: rest) u o) : Gp Γ QF pc0 ls (rest) u o := by
  subst hp
  exact fun r hr H locs la hP hS hl => lv_iconst C.exec C.bytes hd hv (h r hr H locs la hP hS hl)
theorem g_bipush {n : Int} {v : Int32} (C : Cx Γ own cc d) (hd : decode cc pc = .ok (.bipush n, 2)) (hp : pc0 = pc) (hv : (Int8.ofInt n).toInt32 = v) (h : Gp Γ QF (pc + 2) ls (.int v :: rest) u o) : Gp Γ QF pc0 ls (rest) u o := by
  subst hp
  exact fun r hr H locs la hP hS hl => lv_bipush C.exec C.bytes hd hv (h r hr H locs la hP hS hl)
theorem g_sipush {n : Int} {v : Int32} (C : Cx Γ own cc d) (hd : decode cc pc = .ok (.sipush n, 3)) (hp : pc0 = pc) (hv : (Int16.ofInt n).toInt32 = v) (h : Gp Γ QF (pc + 3) ls (.int v :: rest) u o) : Gp Γ QF pc0 ls (rest) u o := by
  subst hp
  exact fun r hr H locs la hP hS hl => lv_sipush C.exec C.bytes hd hv (h r hr H locs la hP hS hl)
theorem g_lconst {n : Fin 2} {v : Int64} (C : Cx Γ own cc d) (hd : decode cc pc = .ok (.lconst n, 1)) (hp : pc0 = pc) (hv : Int64.ofNat (n : Nat) = v) (h : Gp Γ QF (pc + 1) ls (.long v :: rest) u o) : Gp Γ QF pc0 ls (rest) u o := by
  subst hp
  exact fun r hr H locs la hP hS hl => lv_lconst C.exec C.bytes hd hv (h r hr H locs la hP hS hl)
theorem g_ldc {idx : Nat} {v : Int32} (C : Cx Γ own cc d) (hd : decode cc pc = .ok (.ldc idx, 2)) (hp : pc0 = pc) (hw : Cond.constant own idx v ∈ wsL_law) (h : Gp Γ QF (pc + 2) ls (.int v :: rest) u o) : Gp Γ QF pc0 ls rest u o := by
  subst hp
  exact fun r hr H locs la hP hS hl => lv_ldc C.exec C.bytes C.own (C.ts _ hw) hd (h r hr H locs la hP hS hl)
theorem g_ldc_w {idx : Nat} {v : Int32} (C : Cx Γ own cc d) (hd : decode cc pc = .ok (.ldc_w idx, 3)) (hp : pc0 = pc) (hw : Cond.constant own idx v ∈ wsL_law) (h : Gp Γ QF (pc + 3) ls (.int v :: rest) u o) : Gp Γ QF pc0 ls rest u o := by
  subst hp
  exact fun r hr H locs la hP hS hl => lv_ldcw C.exec C.bytes C.own (C.ts _ hw) hd (h r hr H locs la hP hS hl)
theorem g_ldc2_w {idx : Nat} {v : Int64} (C : Cx Γ own cc d) (hd : decode cc pc = .ok (.ldc2_w idx, 3)) (hp : pc0 = pc) (hw : Cond.constantLong own idx v ∈ wsL_law) (h : Gp Γ QF (pc + 3) ls (.long v :: rest) u o) : Gp Γ QF pc0 ls rest u o := by
  subst hp
  exact fun r hr H locs la hP hS hl => lv_ldc2 C.exec C.bytes C.own (C.ts _ hw) hd (h r hr H locs la hP hS hl)
theorem g_iload_n {k : Fin 4} {x : Int32} (C : Cx Γ own cc d) (hd : decode cc pc = .ok (.iload_n k, 1)) (hp : pc0 = pc) (q : Nat) (hq : ls[q]? = some ((k : Nat), .int x)) (h : Gp Γ QF (pc + 1) ls (.int x :: rest) u o) : Gp Γ QF pc0 ls rest u o := by
  subst hp
  exact fun r hr H locs la hP hS hl => lv_iload_n C.exec C.bytes hd rfl (lv_at hl q hq) (h r hr H locs la hP hS hl)
theorem g_iload {i : Nat} {x : Int32} (C : Cx Γ own cc d) (hd : decode cc pc = .ok (.iload i, 2)) (hp : pc0 = pc) (q : Nat) (hq : ls[q]? = some (i, .int x)) (h : Gp Γ QF (pc + 2) ls (.int x :: rest) u o) : Gp Γ QF pc0 ls rest u o := by
  subst hp
  exact fun r hr H locs la hP hS hl => lv_iload C.exec C.bytes hd (lv_at hl q hq) (h r hr H locs la hP hS hl)
theorem g_lload_n {k : Fin 4} {x : Int64} (C : Cx Γ own cc d) (hd : decode cc pc = .ok (.lload_n k, 1)) (hp : pc0 = pc) (q : Nat) (hq : ls[q]? = some ((k : Nat), .long x)) (h : Gp Γ QF (pc + 1) ls (.long x :: rest) u o) : Gp Γ QF pc0 ls rest u o := by
  subst hp
  exact fun r hr H locs la hP hS hl => lv_lload_n C.exec C.bytes hd rfl (lv_at hl q hq) (h r hr H locs la hP hS hl)
theorem g_lload {i : Nat} {x : Int64} (C : Cx Γ own cc d) (hd : decode cc pc = .ok (.lload i, 2)) (hp : pc0 = pc) (q : Nat) (hq : ls[q]? = some (i, .long x)) (h : Gp Γ QF (pc + 2) ls (.long x :: rest) u o) : Gp Γ QF pc0 ls rest u o := by
  subst hp
  exact fun r hr H locs la hP hS hl => lv_lload C.exec C.bytes hd (lv_at hl q hq) (h r hr H locs la hP hS hl)
theorem g_aload_n {k : Fin 4} {x : Nat} (C : Cx Γ own cc d) (hd : decode cc pc = .ok (.aload_n k, 1)) (hp : pc0 = pc) (q : Nat) (hq : ls[q]? = some ((k : Nat), .ref x)) (h : Gp Γ QF (pc + 1) ls (.ref x :: rest) u o) : Gp Γ QF pc0 ls rest u o := by
  subst hp
  exact fun r hr H locs la hP hS hl => lv_aload_n C.exec C.bytes hd rfl (lv_at hl q hq) (h r hr H locs la hP hS hl)
theorem g_aload {i : Nat} {x : Nat} (C : Cx Γ own cc d) (hd : decode cc pc = .ok (.aload i, 2)) (hp : pc0 = pc) (q : Nat) (hq : ls[q]? = some (i, .ref x)) (h : Gp Γ QF (pc + 2) ls (.ref x :: rest) u o) : Gp Γ QF pc0 ls rest u o := by
  subst hp
  exact fun r hr H locs la hP hS hl => lv_aload C.exec C.bytes hd (lv_at hl q hq) (h r hr H locs la hP hS hl)
theorem g_istore_n {k : Fin 4} {x : Int32} {nl : Nat} {ls' : List (Nat × Value)} (C : Cx Γ own cc d) (hd : decode cc pc = .ok (.istore_n k, 1)) (hp : pc0 = pc) (hn : xn Γ = nl) (hi : (k : Nat) < nl) (hls : ((k : Nat), Value.int x) :: ls.filter (fun q => !(q.1 == (k : Nat)) && !(q.1 + 1 == (k : Nat) && q.2.category == 2)) = ls') (h : Gp Γ QF (pc + 1) ls' rest u o) : Gp Γ QF pc0 ls (.int x :: rest) u o := by
  subst hp
  subst hn
  exact fun r hr H locs la hP hS hl => lv_istore_n C.exec C.bytes hd rfl hl (by omega) hls (fun ls1 h1 => h r hr H locs ls1 hP hS h1)
theorem g_istore {i : Nat} {x : Int32} {nl : Nat} {ls' : List (Nat × Value)} (C : Cx Γ own cc d) (hd : decode cc pc = .ok (.istore i, 2)) (hp : pc0 = pc) (hn : xn Γ = nl) (hi : i < nl) (hls : (i, Value.int x) :: ls.filter (fun q => !(q.1 == i) && !(q.1 + 1 == i && q.2.category == 2)) = ls') (h : Gp Γ QF (pc + 2) ls' rest u o) : Gp Γ QF pc0 ls (.int x :: rest) u o := by
  subst hp
  subst hn
  exact fun r hr H locs la hP hS hl => lv_istore C.exec C.bytes hd hl (by omega) hls (fun ls1 h1 => h r hr H locs ls1 hP hS h1)
theorem g_lstore_n {k : Fin 4} {x : Int64} {nl : Nat} {ls' : List (Nat × Value)} (C : Cx Γ own cc d) (hd : decode cc pc = .ok (.lstore_n k, 1)) (hp : pc0 = pc) (hn : xn Γ = nl) (hi : (k : Nat) + 1 < nl) (hls : ((k : Nat), Value.long x) :: ls.filter (fun q => !(q.1 == (k : Nat)) && (!(q.1 == (k : Nat) + 1) && !(q.1 + 1 == (k : Nat) && q.2.category == 2))) = ls') (h : Gp Γ QF (pc + 1) ls' rest u o) : Gp Γ QF pc0 ls (.long x :: rest) u o := by
  subst hp
  subst hn
  exact fun r hr H locs la hP hS hl => lv_lstore_n C.exec C.bytes hd rfl hl (by omega) hls (fun ls1 h1 => h r hr H locs ls1 hP hS h1)
theorem g_lstore {i : Nat} {x : Int64} {nl : Nat} {ls' : List (Nat × Value)} (C : Cx Γ own cc d) (hd : decode cc pc = .ok (.lstore i, 2)) (hp : pc0 = pc) (hn : xn Γ = nl) (hi : i + 1 < nl) (hls : (i, Value.long x) :: ls.filter (fun q => !(q.1 == i) && (!(q.1 == i + 1) && !(q.1 + 1 == i && q.2.category == 2))) = ls') (h : Gp Γ QF (pc + 2) ls' rest u o) : Gp Γ QF pc0 ls (.long x :: rest) u o := by
  subst hp
  subst hn
  exact fun r hr H locs la hP hS hl => lv_lstore C.exec C.bytes hd hl (by omega) hls (fun ls1 h1 => h r hr H locs ls1 hP hS h1)
theorem g_astore_n {k : Fin 4} {x : Nat} {nl : Nat} {ls' : List (Nat × Value)} (C : Cx Γ own cc d) (hd : decode cc pc = .ok (.astore_n k, 1)) (hp : pc0 = pc) (hn : xn Γ = nl) (hi : (k : Nat) < nl) (hls : ((k : Nat), Value.ref x) :: ls.filter (fun q => !(q.1 == (k : Nat)) && !(q.1 + 1 == (k : Nat) && q.2.category == 2)) = ls') (h : Gp Γ QF (pc + 1) ls' rest u o) : Gp Γ QF pc0 ls (.ref x :: rest) u o := by
  subst hp
  subst hn
  exact fun r hr H locs la hP hS hl => lv_astore_n C.exec C.bytes hd rfl hl (by omega) hls (fun ls1 h1 => h r hr H locs ls1 hP hS h1)
theorem g_astore {i : Nat} {x : Nat} {nl : Nat} {ls' : List (Nat × Value)} (C : Cx Γ own cc d) (hd : decode cc pc = .ok (.astore i, 2)) (hp : pc0 = pc) (hn : xn Γ = nl) (hi : i < nl) (hls : (i, Value.ref x) :: ls.filter (fun q => !(q.1 == i) && !(q.1 + 1 == i && q.2.category == 2)) = ls') (h : Gp Γ QF (pc + 2) ls' rest u o) : Gp Γ QF pc0 ls (.ref x :: rest) u o := by
  subst hp
  subst hn
  exact fun r hr H locs la hP hS hl => lv_astore C.exec C.bytes hd hl (by omega) hls (fun ls1 h1 => h r hr H locs ls1 hP hS h1)
theorem g_iinc {i k nl : Nat} {n : Int} {x v : Int32} {ls' : List (Nat × Value)} (C : Cx Γ own cc d) (hd : decode cc pc = .ok (.iinc i n, 3)) (hp : pc0 = pc) (hn : xn Γ = nl) (hi : i < nl) (hk : ls[k]? = some (i, .int x)) (hv : x + Int32.ofInt n = v) (hls : (i, Value.int v) :: ls.filter (fun q => !(q.1 == i) && !(q.1 + 1 == i && q.2.category == 2)) = ls') (h : Gp Γ QF (pc + 3) ls' rest u o) : Gp Γ QF pc0 ls rest u o := by
  subst hp
  subst hn
  exact fun r hr H locs la hP hS hl => lv_iinc C.exec C.bytes hd hl hk hv hi hls (fun ls1 h1 => h r hr H locs ls1 hP hS h1)
theorem g_iincL {i k nl : Nat} {n : Int} {x v : Int32} {f : Int32 → Option X} (ls' : Int32 → List (Nat × Value)) (C : Cx Γ own cc d) (hd : decode cc pc = .ok (.iinc i n, 3)) (hp : pc0 = pc) (hn : xn Γ = nl) (hi : i < nl) (hk : ls[k]? = some (i, .int x)) (hv : x + Int32.ofInt n = v) (hls : ∀ v, (i, Value.int v) :: ls.filter (fun q => !(q.1 == i) && !(q.1 + 1 == i && q.2.category == 2)) = ls' v) (h : ∀ v, Gp Γ QF (pc + 3) (ls' v) rest u (f v)) : Gp Γ QF pc0 ls rest u (letv v f) :=
  g_iinc C hd hp hn hi hk hv (hls v) (h v)
theorem g_letl {f : Int64 → Option X} {x : Int64} (h : ∀ x, Gp Γ QF pc ls (.long x :: rest) u (f x)) : Gp Γ QF pc ls (.long x :: rest) u (letv x f) := h x
theorem iinc_1 (x : Int32) : x + Int32.ofInt 1 = x + 1 := by rw [show Int32.ofInt 1 = 1 by decide]
theorem iinc_2 (x : Int32) : x + Int32.ofInt 2 = x + 2 := by rw [show Int32.ofInt 2 = 2 by decide]
theorem iinc_5 (x : Int32) : x + Int32.ofInt 5 = x + 5 := by rw [show Int32.ofInt 5 = 5 by decide]
theorem iinc_m1 (x : Int32) : x + Int32.ofInt (-1) = x + (-1) := by rw [show Int32.ofInt (-1) = -1 by decide]
theorem rn_pos {E : EE} {k : Nat} (h : k ≠ 0) : rn E k = .ref (E.1 k) := if_neg h
theorem g_dup {va : Value} (C : Cx Γ own cc d) (hd : decode cc pc = .ok (.dup, 1)) (hp : pc0 = pc) (hc : va.category = 1) (h : Gp Γ QF (pc + 1) ls (va :: va :: rest) u o) : Gp Γ QF pc0 ls (va :: rest) u o := by
  subst hp
  exact fun r hr H locs la hP hS hl => lv_dup C.exec C.bytes hd hc (h r hr H locs la hP hS hl)
theorem g_dup2 {va vb : Value} (C : Cx Γ own cc d) (hd : decode cc pc = .ok (.dup2, 1)) (hp : pc0 = pc) (hc : va.category = 1) (hc2 : vb.category = 1) (h : Gp Γ QF (pc + 1) ls (va :: vb :: va :: vb :: rest) u o) : Gp Γ QF pc0 ls (va :: vb :: rest) u o := by
  subst hp
  exact fun r hr H locs la hP hS hl => lv_dup2_11 C.exec C.bytes hd hc hc2 (h r hr H locs la hP hS hl)
theorem g_goto {off : Int} (tgt : Nat) {st : List Value} (C : Cx Γ own cc d) (hd : decode cc pc = .ok (.goto off, 3)) (hp : pc0 = pc) (ht : (pc : Int) + off = (tgt : Int)) (h : Gp Γ QF tgt ls st u o) : Gp Γ QF pc0 ls st u o := by
  subst hp
  exact fun r hr H locs la hP hS hl => lv_goto C.exec C.bytes hd ht (h r hr H locs la hP hS hl)
theorem g_if_eq {x : Int32} {off : Int} (tgt : Nat) (C : Cx Γ own cc d) (hd : decode cc pc = .ok (.ifCond .eq off, 3)) (hp : pc0 = pc) (ht : (pc : Int) + off = (tgt : Int)) (kt : (x = 0) → Gp Γ QF tgt ls rest u o1) (kf : (¬ x = 0) → Gp Γ QF (pc + 3) ls rest u o2) : Gp Γ QF pc0 ls (.int x :: rest) u (if x = 0 then o1 else o2) := by
  subst hp
  refine fun r hr H locs la hP hS hl => lv_if_eq C.exec C.bytes hd ht (fun c => ?_) (fun c => ?_)
  · have c2 : (x = 0) := c
    exact kt c2 r (by rw [if_pos c2] at hr; exact hr) H locs la hP hS hl
  · have c2 : (¬ x = 0) := c
    exact kf c2 r (by rw [if_neg c2] at hr; exact hr) H locs la hP hS hl
theorem g_if_ne {x : Int32} {off : Int} (tgt : Nat) (C : Cx Γ own cc d) (hd : decode cc pc = .ok (.ifCond .ne off, 3)) (hp : pc0 = pc) (ht : (pc : Int) + off = (tgt : Int)) (kt : (¬ x = 0) → Gp Γ QF tgt ls rest u o2) (kf : (x = 0) → Gp Γ QF (pc + 3) ls rest u o1) : Gp Γ QF pc0 ls (.int x :: rest) u (if x = 0 then o1 else o2) := by
  subst hp
  refine fun r hr H locs la hP hS hl => lv_if_ne C.exec C.bytes hd ht (fun c => ?_) (fun c => ?_)
  · have c2 : (¬ x = 0) := c
    exact kt c2 r (by rw [if_neg c2] at hr; exact hr) H locs la hP hS hl
  · have c2 : (x = 0) := c
    exact kf c2 r (by rw [if_pos c2] at hr; exact hr) H locs la hP hS hl
theorem g_if_lt {x : Int32} {off : Int} (tgt : Nat) (C : Cx Γ own cc d) (hd : decode cc pc = .ok (.ifCond .lt off, 3)) (hp : pc0 = pc) (ht : (pc : Int) + off = (tgt : Int)) (kt : (x < 0) → Gp Γ QF tgt ls rest u o1) (kf : (¬ x < 0) → Gp Γ QF (pc + 3) ls rest u o2) : Gp Γ QF pc0 ls (.int x :: rest) u (if x < 0 then o1 else o2) := by
  subst hp
  refine fun r hr H locs la hP hS hl => lv_if_lt C.exec C.bytes hd ht (fun c => ?_) (fun c => ?_)
  · have c2 : (x < 0) := c
    exact kt c2 r (by rw [if_pos c2] at hr; exact hr) H locs la hP hS hl
  · have c2 : (¬ x < 0) := c
    exact kf c2 r (by rw [if_neg c2] at hr; exact hr) H locs la hP hS hl
theorem g_if_ge {x : Int32} {off : Int} (tgt : Nat) (C : Cx Γ own cc d) (hd : decode cc pc = .ok (.ifCond .ge off, 3)) (hp : pc0 = pc) (ht : (pc : Int) + off = (tgt : Int)) (kt : (¬ x < 0) → Gp Γ QF tgt ls rest u o2) (kf : (x < 0) → Gp Γ QF (pc + 3) ls rest u o1) : Gp Γ QF pc0 ls (.int x :: rest) u (if x < 0 then o1 else o2) := by
  subst hp
  refine fun r hr H locs la hP hS hl => lv_if_ge C.exec C.bytes hd ht (fun c => ?_) (fun c => ?_)
  · have c2 : (¬ x < 0) := (n32a c)
    exact kt c2 r (by rw [if_neg c2] at hr; exact hr) H locs la hP hS hl
  · have c2 : (x < 0) := (n32b c)
    exact kf c2 r (by rw [if_pos c2] at hr; exact hr) H locs la hP hS hl
theorem g_if_gt {x : Int32} {off : Int} (tgt : Nat) (C : Cx Γ own cc d) (hd : decode cc pc = .ok (.ifCond .gt off, 3)) (hp : pc0 = pc) (ht : (pc : Int) + off = (tgt : Int)) (kt : (0 < x) → Gp Γ QF tgt ls rest u o1) (kf : (¬ 0 < x) → Gp Γ QF (pc + 3) ls rest u o2) : Gp Γ QF pc0 ls (.int x :: rest) u (if 0 < x then o1 else o2) := by
  subst hp
  refine fun r hr H locs la hP hS hl => lv_if_gt C.exec C.bytes hd ht (fun c => ?_) (fun c => ?_)
  · have c2 : (0 < x) := c
    exact kt c2 r (by rw [if_pos c2] at hr; exact hr) H locs la hP hS hl
  · have c2 : (¬ 0 < x) := c
    exact kf c2 r (by rw [if_neg c2] at hr; exact hr) H locs la hP hS hl
theorem g_if_le {x : Int32} {off : Int} (tgt : Nat) (C : Cx Γ own cc d) (hd : decode cc pc = .ok (.ifCond .le off, 3)) (hp : pc0 = pc) (ht : (pc : Int) + off = (tgt : Int)) (kt : (¬ 0 < x) → Gp Γ QF tgt ls rest u o2) (kf : (0 < x) → Gp Γ QF (pc + 3) ls rest u o1) : Gp Γ QF pc0 ls (.int x :: rest) u (if 0 < x then o1 else o2) := by
  subst hp
  refine fun r hr H locs la hP hS hl => lv_if_le C.exec C.bytes hd ht (fun c => ?_) (fun c => ?_)
  · have c2 : (¬ 0 < x) := (n32a c)
    exact kt c2 r (by rw [if_neg c2] at hr; exact hr) H locs la hP hS hl
  · have c2 : (0 < x) := (n32b c)
    exact kf c2 r (by rw [if_pos c2] at hr; exact hr) H locs la hP hS hl
theorem g_icmp_eq {x y : Int32} {off : Int} (tgt : Nat) (C : Cx Γ own cc d) (hd : decode cc pc = .ok (.if_icmp .eq off, 3)) (hp : pc0 = pc) (ht : (pc : Int) + off = (tgt : Int)) (kt : (x = y) → Gp Γ QF tgt ls rest u o1) (kf : (¬ x = y) → Gp Γ QF (pc + 3) ls rest u o2) : Gp Γ QF pc0 ls (.int y :: .int x :: rest) u (if x = y then o1 else o2) := by
  subst hp
  refine fun r hr H locs la hP hS hl => lv_icmp_eq C.exec C.bytes hd ht (fun c => ?_) (fun c => ?_)
  · have c2 : (x = y) := c
    exact kt c2 r (by rw [if_pos c2] at hr; exact hr) H locs la hP hS hl
  · have c2 : (¬ x = y) := c
    exact kf c2 r (by rw [if_neg c2] at hr; exact hr) H locs la hP hS hl
theorem g_icmp_ne {x y : Int32} {off : Int} (tgt : Nat) (C : Cx Γ own cc d) (hd : decode cc pc = .ok (.if_icmp .ne off, 3)) (hp : pc0 = pc) (ht : (pc : Int) + off = (tgt : Int)) (kt : (¬ x = y) → Gp Γ QF tgt ls rest u o2) (kf : (x = y) → Gp Γ QF (pc + 3) ls rest u o1) : Gp Γ QF pc0 ls (.int y :: .int x :: rest) u (if x = y then o1 else o2) := by
  subst hp
  refine fun r hr H locs la hP hS hl => lv_icmp_ne C.exec C.bytes hd ht (fun c => ?_) (fun c => ?_)
  · have c2 : (¬ x = y) := c
    exact kt c2 r (by rw [if_neg c2] at hr; exact hr) H locs la hP hS hl
  · have c2 : (x = y) := c
    exact kf c2 r (by rw [if_pos c2] at hr; exact hr) H locs la hP hS hl
theorem g_icmp_lt {x y : Int32} {off : Int} (tgt : Nat) (C : Cx Γ own cc d) (hd : decode cc pc = .ok (.if_icmp .lt off, 3)) (hp : pc0 = pc) (ht : (pc : Int) + off = (tgt : Int)) (kt : (x < y) → Gp Γ QF tgt ls rest u o1) (kf : (¬ x < y) → Gp Γ QF (pc + 3) ls rest u o2) : Gp Γ QF pc0 ls (.int y :: .int x :: rest) u (if x < y then o1 else o2) := by
  subst hp
  refine fun r hr H locs la hP hS hl => lv_icmp_lt C.exec C.bytes hd ht (fun c => ?_) (fun c => ?_)
  · have c2 : (x < y) := c
    exact kt c2 r (by rw [if_pos c2] at hr; exact hr) H locs la hP hS hl
  · have c2 : (¬ x < y) := c
    exact kf c2 r (by rw [if_neg c2] at hr; exact hr) H locs la hP hS hl
theorem g_icmp_ge {x y : Int32} {off : Int} (tgt : Nat) (C : Cx Γ own cc d) (hd : decode cc pc = .ok (.if_icmp .ge off, 3)) (hp : pc0 = pc) (ht : (pc : Int) + off = (tgt : Int)) (kt : (¬ x < y) → Gp Γ QF tgt ls rest u o2) (kf : (x < y) → Gp Γ QF (pc + 3) ls rest u o1) : Gp Γ QF pc0 ls (.int y :: .int x :: rest) u (if x < y then o1 else o2) := by
  subst hp
  refine fun r hr H locs la hP hS hl => lv_icmp_ge C.exec C.bytes hd ht (fun c => ?_) (fun c => ?_)
  · have c2 : (¬ x < y) := (n32a c)
    exact kt c2 r (by rw [if_neg c2] at hr; exact hr) H locs la hP hS hl
  · have c2 : (x < y) := (n32b c)
    exact kf c2 r (by rw [if_pos c2] at hr; exact hr) H locs la hP hS hl
theorem g_icmp_gt {x y : Int32} {off : Int} (tgt : Nat) (C : Cx Γ own cc d) (hd : decode cc pc = .ok (.if_icmp .gt off, 3)) (hp : pc0 = pc) (ht : (pc : Int) + off = (tgt : Int)) (kt : (y < x) → Gp Γ QF tgt ls rest u o1) (kf : (¬ y < x) → Gp Γ QF (pc + 3) ls rest u o2) : Gp Γ QF pc0 ls (.int y :: .int x :: rest) u (if y < x then o1 else o2) := by
  subst hp
  refine fun r hr H locs la hP hS hl => lv_icmp_gt C.exec C.bytes hd ht (fun c => ?_) (fun c => ?_)
  · have c2 : (y < x) := c
    exact kt c2 r (by rw [if_pos c2] at hr; exact hr) H locs la hP hS hl
  · have c2 : (¬ y < x) := c
    exact kf c2 r (by rw [if_neg c2] at hr; exact hr) H locs la hP hS hl
theorem g_icmp_le {x y : Int32} {off : Int} (tgt : Nat) (C : Cx Γ own cc d) (hd : decode cc pc = .ok (.if_icmp .le off, 3)) (hp : pc0 = pc) (ht : (pc : Int) + off = (tgt : Int)) (kt : (¬ y < x) → Gp Γ QF tgt ls rest u o2) (kf : (y < x) → Gp Γ QF (pc + 3) ls rest u o1) : Gp Γ QF pc0 ls (.int y :: .int x :: rest) u (if y < x then o1 else o2) := by
  subst hp
  refine fun r hr H locs la hP hS hl => lv_icmp_le C.exec C.bytes hd ht (fun c => ?_) (fun c => ?_)
  · have c2 : (¬ y < x) := (n32a c)
    exact kt c2 r (by rw [if_neg c2] at hr; exact hr) H locs la hP hS hl
  · have c2 : (y < x) := (n32b c)
    exact kf c2 r (by rw [if_pos c2] at hr; exact hr) H locs la hP hS hl
theorem g_ifnullN {off : Int} (tgt : Nat) (C : Cx Γ own cc d) (hd : decode cc pc = .ok (.ifnull off, 3)) (hp : pc0 = pc) (ht : (pc : Int) + off = (tgt : Int)) (h : Gp Γ QF tgt ls rest u o) : Gp Γ QF pc0 ls (.null :: rest) u o := by
  subst hp
  exact fun r hr H locs la hP hS hl => lv_ifnullN C.exec C.bytes hd ht (h r hr H locs la hP hS hl)
theorem g_ifnullR {off : Int} {x : Nat} (C : Cx Γ own cc d) (hd : decode cc pc = .ok (.ifnull off, 3)) (hp : pc0 = pc) (h : Gp Γ QF (pc + 3) ls rest u o) : Gp Γ QF pc0 ls (.ref x :: rest) u o := by
  subst hp
  exact fun r hr H locs la hP hS hl => lv_ifnull C.exec C.bytes hd (h r hr H locs la hP hS hl)
theorem g_null  (C : Cx Γ own cc d) (hd : decode cc pc = .ok (.aconst_null, 1)) (hp : pc0 = pc) (h : Gp Γ QF (pc + 1) ls (.null :: rest) u o) : Gp Γ QF pc0 ls (rest) u o := by
  subst hp
  exact fun r hr H locs la hP hS hl => lv_null C.exec C.bytes hd (h r hr H locs la hP hS hl)
theorem g_aload_nN {k : Fin 4} (C : Cx Γ own cc d) (hd : decode cc pc = .ok (.aload_n k, 1)) (hp : pc0 = pc) (q : Nat) (hq : ls[q]? = some ((k : Nat), Value.null)) (h : Gp Γ QF (pc + 1) ls (.null :: rest) u o) : Gp Γ QF pc0 ls rest u o := by
  subst hp
  exact fun r hr H locs la hP hS hl => lv_aload_nN C.exec C.bytes hd rfl (lv_at hl q hq) (h r hr H locs la hP hS hl)
theorem g_astore_nN {k : Fin 4} {nl : Nat} {ls' : List (Nat × Value)} (C : Cx Γ own cc d) (hd : decode cc pc = .ok (.astore_n k, 1)) (hp : pc0 = pc) (hn : xn Γ = nl) (hi : (k : Nat) < nl) (hls : ((k : Nat), Value.null) :: ls.filter (fun q => !(q.1 == (k : Nat)) && !(q.1 + 1 == (k : Nat) && q.2.category == 2)) = ls') (h : Gp Γ QF (pc + 1) ls' rest u o) : Gp Γ QF pc0 ls (.null :: rest) u o := by
  subst hp
  subst hn
  exact fun r hr H locs la hP hS hl => lv_astore_nN C.exec C.bytes hd rfl hl (by omega) hls (fun ls1 h1 => h r hr H locs ls1 hP hS h1)
theorem g_tabI {dflt lo hi : Int} {offs : Array Int} {len : Nat} {x : Int32} (off : Int) (tgt : Nat) (C : Cx Γ own cc d) (hd : decode cc pc = .ok (.tableswitch dflt lo hi offs, len)) (hp : pc0 = pc) (h1 : ¬ x.toInt < lo ∧ ¬ hi < x.toInt ∧ offs[(x.toInt - lo).toNat]? = some off) (ht : (pc : Int) + off = (tgt : Int)) (h : Gp Γ QF tgt ls rest u o) : Gp Γ QF pc0 ls (.int x :: rest) u o := by
  subst hp
  exact fun r hr H locs la hP hS hl => lv_tableIn C.exec C.bytes hd h1.1 h1.2.1 h1.2.2 ht (h r hr H locs la hP hS hl)
theorem g_tabO {dflt lo hi : Int} {offs : Array Int} {len : Nat} {x : Int32} (tgt : Nat) (C : Cx Γ own cc d) (hd : decode cc pc = .ok (.tableswitch dflt lo hi offs, len)) (hp : pc0 = pc) (h1 : x.toInt < lo ∨ hi < x.toInt) (ht : (pc : Int) + dflt = (tgt : Int)) (h : Gp Γ QF tgt ls rest u o) : Gp Γ QF pc0 ls (.int x :: rest) u o := by
  subst hp
  exact fun r hr H locs la hP hS hl => lv_tableOut C.exec C.bytes hd h1 ht (h r hr H locs la hP hS hl)
theorem g_look {dflt : Int} {ps : Array (Int × Int)} {len : Nat} {x : Int32} (off : Int) (tgt : Nat) (C : Cx Γ own cc d) (hd : decode cc pc = .ok (.lookupswitch dflt ps, len)) (hp : pc0 = pc) (hps : (ps.toList.zip (ps.toList.drop 1)).all (fun (a, next) => a.1 < next.1) = true) (h1 : Op.lookupswitch.offset ps.toList dflt x.toInt = off) (ht : (pc : Int) + off = (tgt : Int)) (h : Gp Γ QF tgt ls rest u o) : Gp Γ QF pc0 ls (.int x :: rest) u o := by
  subst hp
  exact fun r hr H locs la hP hS hl => lv_lookup C.exec C.bytes hd hps h1 ht (h r hr H locs la hP hS hl)
/-- facts of a slot of a class: its place, its words -/
def FI (c i : Nat) (Cn : String) (T : u_T) (N : Nat) : Prop := vwCl[c]? = some (Cn, T, N) ∧ (∀ w ∈ u_ws Cn T N, w ∈ wsL_law) ∧ nfs c = N ∧ i < N
def FP (c i : Nat) (Cn : String) (T : u_T) (N : Nat) (ty : FieldType) : Prop := FI c i Cn T N ∧ (∃ ty0 : Nat → FieldType, ∀ k, k < N → parseFieldDescriptor (T k).2.2.1 = some (ty0 k)) ∧ (∀ a, a < N → ∀ b, b < N → a ≠ b → (T a).2.1 ≠ (T b).2.1) ∧ (T i).2.2.2 = false ∧ parseFieldDescriptor (T i).2.2.1 = some ty
theorem slot_at {E : EE} {u : Mm} {k c i N : Nat} (hn : nfs c = N) (hi : i < N) : ((List.range (nfs c)).map (sv E u k))[i]? = some (sv E u k i) := by
  rw [List.getElem?_map, List.getElem?_range (by omega)]
  rfl
theorem g_getV {c i k N idx : Nat} {Cn : String} {T : u_T} {v : Value} (C : Cx Γ own cc d) (hd : decode cc pc = .ok (.getfield idx, 3)) (hp : pc0 = pc) (hk : kd k = c + 3) (F : FI c i Cn T N) (hw : Cond.fieldLink own idx (T i).1 (T i).2.1 (T i).2.2.1 ∈ wsL_law) (hv : sv (xE Γ) u k i = v) (h : Gp Γ QF (pc + 3) ls (v :: rest) u o) : Gp Γ QF pc0 ls (.ref ((xE Γ).1 k) :: rest) u o := by
  subst hp
  obtain ⟨hc, hin, hn, hi⟩ := F
  have hk1 := kd_lt (k := k) (by omega)
  exact fun r hr H locs la hP hS hl => va_get C.exec C.bytes C.ts hin C.own C.K hP (k - 1) (by rw [wl_get _ _ hk1.1 hk1.2, rend_o _ _ hk]) hc i hi (C.ts _ hw) (fun _ h9 => h9) ((slot_at hn hi).trans (congrArg some hv)) hd (h r hr H locs la hP hS hl)
theorem g_getI {c i k N idx : Nat} {Cn : String} {T : u_T} (C : Cx Γ own cc d) (hd : decode cc pc = .ok (.getfield idx, 3)) (hp : pc0 = pc) (hk : kd k = c + 3) (F : FI c i Cn T N) (ho : ofs c i = 0) (hw : Cond.fieldLink own idx (T i).1 (T i).2.1 (T i).2.2.1 ∈ wsL_law) (h : Gp Γ QF (pc + 3) ls (.int (u k i) :: rest) u o) : Gp Γ QF pc0 ls (.ref ((xE Γ).1 k) :: rest) u o :=
  g_getV C hd hp hk F hw (by unfold sv; rw [hk, Nat.add_sub_cancel, if_pos ho]) h
theorem g_getR {c i k k2 N idx : Nat} {Cn : String} {T : u_T} (C : Cx Γ own cc d) (hd : decode cc pc = .ok (.getfield idx, 3)) (hp : pc0 = pc) (hk : kd k = c + 3) (F : FI c i Cn T N) (ho : ofs c i ≠ 0 ∧ ofs c i ≠ 9999 ∧ k + ofs c i = k2) (hw : Cond.fieldLink own idx (T i).1 (T i).2.1 (T i).2.2.1 ∈ wsL_law) (h : Gp Γ QF (pc + 3) ls (.ref ((xE Γ).1 k2) :: rest) u o) : Gp Γ QF pc0 ls (.ref ((xE Γ).1 k) :: rest) u o :=
  g_getV C hd hp hk F hw (by unfold sv; rw [hk, Nat.add_sub_cancel, if_neg ho.1, if_neg ho.2.1, ho.2.2]) h
/-- a slot that holds now this row, now that -/
theorem g_getX {c i k N idx : Nat} {Cn : String} {T : u_T} (C : Cx Γ own cc d) (hd : decode cc pc = .ok (.getfield idx, 3)) (hp : pc0 = pc) (hk : kd k = c + 3) (F : FI c i Cn T N) (ho : ofs c i = 9999) (hw : Cond.fieldLink own idx (T i).1 (T i).2.1 (T i).2.2.1 ∈ wsL_law) (hq : kd (ixn (u k i)) = 1) (h : Gp Γ QF (pc + 3) ls (.ref ((xE Γ).1 (ixn (u k i))) :: rest) u o) : Gp Γ QF pc0 ls (.ref ((xE Γ).1 k) :: rest) u o := by
  have hz : ixn (u k i) ≠ 0 := fun e => by rw [e] at hq; exact absurd hq (by decide)
  exact g_getV C hd hp hk F hw (by unfold sv; rw [hk, Nat.add_sub_cancel, if_neg (by rw [ho]; decide), if_pos ho]; unfold rn; rw [if_neg hz]) h
theorem P_set {Γ : GX} {own : String} {cc : ByteArray} {d : Nat} (C : Cx Γ own cc d) {u : Mm} {k i : Nat} {x : Int32} {e : va_E} {H : Heap} (h1 : 1 ≤ k ∧ k ≤ NC) (he : e = rend (xE Γ) (stm u k i x) k) (hP : va_P (xE Γ).2.1 vwCl ((wl (xE Γ) u).set (k - 1) ((xE Γ).1 k, e)) H) : va_P (xE Γ).2.1 vwCl (wl (xE Γ) (stm u k i x)) H := by
  rw [he, wl_set (xE Γ) u (stm u k i x) h1.1 h1.2 (fun j hj => rend_ne (stm_ne hj))] at hP
  exact hP
theorem g_putV {c i k N idx : Nat} {Cn : String} {T : u_T} {ty : FieldType} {v : Value} {x : Int32} (C : Cx Γ own cc d) (hd : decode cc pc = .ok (.putfield idx, 3)) (hp : pc0 = pc) (hk : kd k = c + 3) (F : FP c i Cn T N ty) (hw : Cond.fieldLink own idx (T i).1 (T i).2.1 (T i).2.2.1 ∈ wsL_law) (hv : sv (xE Γ) (stm u k i x) k i = v) (hnr : narrow ty v = v) (hft : fits ty v = true) (h : Gp Γ QF (pc + 3) ls rest (stm u k i x) o) : Gp Γ QF pc0 ls (v :: .ref ((xE Γ).1 k) :: rest) u o := by
  subst hp
  obtain ⟨⟨hc, hin, hn, hi⟩, ⟨ty0, hty⟩, hnm, hfin, hdd⟩ := F
  have hk1 := kd_lt (k := k) (by omega)
  refine fun r hr H locs la hP hS hl => va_put C.exec C.bytes C.ts hin ty0 hty hnm C.own C.K hP (C.D u) hS (k - 1) (by rw [wl_get _ _ hk1.1 hk1.2, rend_o _ _ hk]) hc i hi (C.ts _ hw) (fun _ h9 => h9) hfin hdd hnr hft (by rw [List.length_map, List.length_range]; omega) hd (fun H1 locs1 hP1 hD1 hS1 => ?_)
  refine h r hr H1 locs1 la (P_set C (i := i) (x := x) hk1 ?_ hP1) hS1 hl
  rw [← rend_set hk (by omega), hv]
theorem g_putI {c i k N idx : Nat} {Cn : String} {T : u_T} {x : Int32} (C : Cx Γ own cc d) (hd : decode cc pc = .ok (.putfield idx, 3)) (hp : pc0 = pc) (hk : kd k = c + 3) (F : FP c i Cn T N .int) (ho : ofs c i = 0) (hw : Cond.fieldLink own idx (T i).1 (T i).2.1 (T i).2.2.1 ∈ wsL_law) (h : Gp Γ QF (pc + 3) ls rest (stm u k i x) o) : Gp Γ QF pc0 ls (.int x :: .ref ((xE Γ).1 k) :: rest) u o :=
  g_putV (x := x) C hd hp hk F hw (by unfold sv; rw [hk, Nat.add_sub_cancel, if_pos ho, stm_eq]; show Value.int (upd (u k) i x i) = _; unfold upd; rw [if_pos rfl]) rfl rfl h
theorem g_putZ {c i k N idx : Nat} {Cn : String} {T : u_T} {x : Int32} (C : Cx Γ own cc d) (hd : decode cc pc = .ok (.putfield idx, 3)) (hp : pc0 = pc) (hk : kd k = c + 3) (F : FP c i Cn T N .boolean) (ho : ofs c i = 0) (hw : Cond.fieldLink own idx (T i).1 (T i).2.1 (T i).2.2.1 ∈ wsL_law) (hx : x = 0 ∨ x = 1) (h : Gp Γ QF (pc + 3) ls rest (stm u k i x) o) : Gp Γ QF pc0 ls (.int x :: .ref ((xE Γ).1 k) :: rest) u o :=
  g_putV (x := x) C hd hp hk F hw (by unfold sv; rw [hk, Nat.add_sub_cancel, if_pos ho, stm_eq]; show Value.int (upd (u k) i x i) = _; unfold upd; rw [if_pos rfl]) (by rcases hx with rfl | rfl <;> rfl) (by rcases hx with rfl | rfl <;> rfl) h
theorem g_putX {c i k N idx j : Nat} {Cn : String} {T : u_T} (C : Cx Γ own cc d) (hd : decode cc pc = .ok (.putfield idx, 3)) (hp : pc0 = pc) (hk : kd k = c + 3) (F : FP c i Cn T N (.array .int)) (ho : ofs c i = 9999) (hw : Cond.fieldLink own idx (T i).1 (T i).2.1 (T i).2.2.1 ∈ wsL_law) (hj : kd j ≠ 0) (h : Gp Γ QF (pc + 3) ls rest (stm u k i (nI j)) o) : Gp Γ QF pc0 ls (.ref ((xE Γ).1 j) :: .ref ((xE Γ).1 k) :: rest) u o := by
  have h1 := kd_lt hj
  have hlt : j < 2 ^ 31 := by
    have : NC ≤ 200 := by decide +kernel
    omega
  refine g_putV (x := nI j) C hd hp hk F hw ?_ rfl rfl h
  unfold sv
  rw [hk, Nat.add_sub_cancel, if_neg (by rw [ho]; decide), if_pos ho, stm_eq]
  show rn (xE Γ) (ixn (upd (u k) i (nI j) i)) = _
  unfold upd
  rw [if_pos rfl, ← ixn_eq, nI_clamp hlt]
  unfold rn
  rw [if_neg (by omega)]
theorem g_iald {k n : Nat} {i : Int32} (C : Cx Γ own cc d) (hd : decode cc pc = .ok (.iaload, 1)) (hp : pc0 = pc) (hk : kd k = 1) (hn : sz k = n) (hi : ix i n) (h : Gp Γ QF (pc + 1) ls (.int (u k (ixn i)) :: rest) u o) : Gp Γ QF pc0 ls (.int i :: .ref ((xE Γ).1 k) :: rest) u o := by
  subst hp
  have hk1 := kd_lt (k := k) (by omega)
  exact fun r hr H locs la hP hS hl => va_iald C.exec C.bytes C.K hP (k - 1) 0 (by rw [wl_get _ _ hk1.1 hk1.2, rend_i _ _ hk, hn]) rfl (vp_in_iff.mpr hi) hd (h r hr H locs la hP hS hl)
theorem g_iast {k n : Nat} {i x : Int32} (C : Cx Γ own cc d) (hd : decode cc pc = .ok (.iastore, 1)) (hp : pc0 = pc) (hk : kd k = 1) (hn : sz k = n) (hi : ix i n) (h : Gp Γ QF (pc + 1) ls rest (stm u k (ixn i) x) o) : Gp Γ QF pc0 ls (.int x :: .int i :: .ref ((xE Γ).1 k) :: rest) u o := by
  subst hp
  have hk1 := kd_lt (k := k) (by omega)
  refine fun r hr H locs la hP hS hl => va_iast C.exec C.bytes C.K hP (C.D u) hS (k - 1) 0 (by rw [wl_get _ _ hk1.1 hk1.2, rend_i _ _ hk, hn]) rfl (vp_in_iff.mpr hi) hd (fun H1 locs1 hP1 hD1 hS1 => ?_)
  refine h r hr H1 locs1 la (P_set C (i := ixn i) (x := x) hk1 ?_ hP1) hS1 hl
  rw [rend_i _ _ hk, hn, stm_eq]
  rfl
theorem g_alen {k n : Nat} {v : Int32} (C : Cx Γ own cc d) (hd : decode cc pc = .ok (.arraylength, 1)) (hp : pc0 = pc) (hk : kd k = 1) (hn : sz k = n) (hv : nI n = v) (h : Gp Γ QF (pc + 1) ls (.int v :: rest) u o) : Gp Γ QF pc0 ls (.ref ((xE Γ).1 k) :: rest) u o := by
  subst hp
  have hk1 := kd_lt (k := k) (by omega)
  exact fun r hr H locs la hP hS hl => va_alen (x := (n, .inl (u k))) C.exec C.bytes C.K hP (k - 1) 0 (by rw [wl_get _ _ hk1.1 hk1.2, rend_i _ _ hk, hn]) rfl hv hd (h r hr H locs la hP hS hl)
theorem g_aald {k n : Nat} {i : Int32} (C : Cx Γ own cc d) (hd : decode cc pc = .ok (.aaload, 1)) (hp : pc0 = pc) (hk : kd k = 2) (hn : sz k = n) (hi : ix i n) (h : Gp Γ QF (pc + 1) ls (.ref ((xE Γ).1 (k + 1 + ixn i)) :: rest) u o) : Gp Γ QF pc0 ls (.int i :: .ref ((xE Γ).1 k) :: rest) u o := by
  subst hp
  have hk1 := kd_lt (k := k) (by omega)
  exact fun r hr H locs la hP hS hl => va_aldq (f := fun i => some ((xE Γ).1 (k + 1 + i))) C.exec C.bytes C.K hP (k - 1) 1 (by rw [wl_get _ _ hk1.1 hk1.2, rend_f _ _ hk, hn]) rfl (vp_in_iff.mpr hi) hd (h r hr H locs la hP hS hl)
end RULES
/-- a method's end -/
def QX (E : EE) (A : Nat → Prop) (q : Option Value × Mm) : Array Value → State → Outcome → State → Prop := fun _ st oc t => (oc = .returned q.1 ∧ va_P E.2.1 vwCl (wl E q.2) t.heap) ∧ va_F A st t
def QM {Y : Type} (Γ : GX) (cv : Y → Option Value × Mm) : Y → State → Prop := fun x => MQ (xb Γ) (QX (xE Γ) (xA Γ) (cv x)) (xa Γ) (xs Γ) (xk Γ) (xw Γ) (xA Γ)
def Mx (Γ : GX) (ret : Option FieldType) : Prop := (xt Γ).sig.returnType = ret ∧ (xt Γ).locks = false
def inA (E : EE) : Nat → Prop := fun q => ∃ k, 1 ≤ k ∧ k ≤ NC ∧ q = E.1 k
def cvI (q : Int32 × Mm) : Option Value × Mm := (some (.int q.1), q.2)
def cvP (u : Mm) (r : Int32) : Option Value × Mm := (some (.int r), u)
def cvL (u : Mm) (r : Int64) : Option Value × Mm := (some (.long r), u)
def cvJ (q : Int64 × Mm) : Option Value × Mm := (some (.long q.1), q.2)
def cvV (u : Mm) : Option Value × Mm := (none, u)
def cvR (E : EE) (u : Mm) (r : Nat) : Option Value × Mm := (some (rn E r), u)
section RULES2
variable {X : Type} {Γ : GX} {QF : X → State → Prop} {own : String} {cc : ByteArray} {d pc pc0 : Nat} {ls : List (Nat × Value)} {rest : List Value} {u : Mm} {o o1 o2 : Option X}
theorem g_iret {Y : Type} {cv : Y → Option Value × Mm} {y : Y} {v : Int32} (C : Cx Γ own cc d) (M : Mx Γ (some .int)) (hd : decode cc pc = .ok (.ireturn, 1)) (hp : pc0 = pc) (hv : cv y = (some (.int v), u)) : Gp Γ (QM Γ cv) pc0 ls [.int v] u (some y) := by
  subst hp
  intro r hr H locs la hP hS hl
  cases hr
  exact W.iret C.exec C.bytes M.1 (fun t ht hW => ⟨⟨by rw [hv], by rw [hv, ht]; exact hP⟩, hS.F ht⟩) hS.2.2 hd M.2
theorem g_zret {Y : Type} {cv : Y → Option Value × Mm} {y : Y} {v : Int32} (C : Cx Γ own cc d) (M : Mx Γ (some .boolean)) (hd : decode cc pc = .ok (.ireturn, 1)) (hp : pc0 = pc) (hz : v = 0 ∨ v = 1) (hv : cv y = (some (.int v), u)) : Gp Γ (QM Γ cv) pc0 ls [.int v] u (some y) := by
  subst hp
  intro r hr H locs la hP hS hl
  cases hr
  exact W.zret C.exec C.bytes M.1 (by rcases hz with rfl | rfl <;> rfl) (fun t ht hW => ⟨⟨by rw [hv], by rw [hv, ht]; exact hP⟩, hS.F ht⟩) hS.2.2 hd M.2
theorem g_vret {Y : Type} {cv : Y → Option Value × Mm} {y : Y}  (C : Cx Γ own cc d) (M : Mx Γ none) (hd : decode cc pc = .ok (.return_, 1)) (hp : pc0 = pc) (hv : cv y = (none, u)) : Gp Γ (QM Γ cv) pc0 ls [] u (some y) := by
  subst hp
  intro r hr H locs la hP hS hl
  cases hr
  exact W.vret C.exec C.bytes M.1 (fun t ht hW => ⟨⟨by rw [hv], by rw [hv, ht]; exact hP⟩, hS.F ht⟩) hS.2.2 hd M.2
theorem g_lret {Y : Type} {cv : Y → Option Value × Mm} {y : Y} {v : Int64} (C : Cx Γ own cc d) (M : Mx Γ (some .long)) (hd : decode cc pc = .ok (.lreturn, 1)) (hp : pc0 = pc) (hv : cv y = (some (.long v), u)) : Gp Γ (QM Γ cv) pc0 ls [.long v] u (some y) := by
  subst hp
  intro r hr H locs la hP hS hl
  cases hr
  exact W.lret C.exec C.bytes M.1 (fun t ht hW => ⟨⟨by rw [hv], by rw [hv, ht]; exact hP⟩, hS.F ht⟩) hS.2.2 hd M.2
theorem g_aret {Y : Type} {cv : Y → Option Value × Mm} {y : Y} {v : Value} {Cn : String} (C : Cx Γ own cc d) (M : Mx Γ (some (.object Cn))) (hd : decode cc pc = .ok (.areturn, 1)) (hp : pc0 = pc) (hz : v = .null ∨ ∃ a, v = .ref a) (hv : cv y = (some v, u)) : Gp Γ (QM Γ cv) pc0 ls [v] u (some y) := by
  subst hp
  intro r hr H locs la hP hS hl
  cases hr
  exact W.aret C.exec C.bytes M.1 (Or.inl ⟨_, rfl⟩) hz (fun t ht hW => ⟨⟨by rw [hv], by rw [hv, ht]; exact hP⟩, hS.F ht⟩) hS.2.2 hd M.2
end RULES2
/-- a method's contract -/
def Wo (E : EE) (u : Mm) (U : State) : Prop := va_P E.2.1 vwCl (wl E u) U.heap ∧ va_K E.2.1 vwCl (tyL E) U ∧ NW U ∧ Ij E
abbrev rmD (n : Nat) : Room := { frames := n, cells := 0, slots := 0, locals := 36 * n }
def Ct (l : Launch) (E : EE) (y : MethodName) (b : ByteArray) (ml : Nat) (ret : Option FieldType) (n : Nat) (As : List Value) (u : Mm) {Y : Type} (cv : Y → Option Value × Mm) (g : Option Y) : Prop :=
  ∀ q, g = some q → Met l y (.code y b ml ret :: wsL_law) (rmD n) (va_Pc As (Wo E u)) (QX E (inA E) (cv q)) 0 0 (inA E)
theorem NW.warm {s U : State} (hW : s.WarmedH U.vm) (h : NW s) : NW U := by
  intro w hw
  have h1 := List.all_eq_true.mp nwL_ok w hw
  have h2 := h w hw
  cases w with
  | methodLinkNest a i x hh => exact va_Nw.warmM hW h2
  | _ => cases h1
theorem NW.same {u U : State} (h : u.vm = U.vm) (hZ : NW u) : NW U := by
  intro w hw
  have h1 := List.all_eq_true.mp nwL_ok w hw
  have h2 := hZ w hw
  cases w with
  | methodLinkNest a i x hh => exact va_Nw.same rfl h h2
  | _ => cases h1
theorem Wo_blind {E : EE} {u : Mm} {As : List Value} : FrameBlind (va_Pc As (Wo E u)) := fun a U g mk h => ⟨h.1, h.2.1, va_K.moved (u := U) (U := U.calling g mk a) (Vm.Alike.refl U.vm) h.2.2.1, NW.same (u := U) (U := U.calling g mk a) rfl h.2.2.2.1, h.2.2.2.2⟩
theorem inA_D {E : EE} (hI : Ij E) (u : Mm) : va_D (inA E) (wl E u) := D_of hI (fun k h1 h2 => ⟨k, h1, h2, rfl⟩) u
theorem Ct_of {Y : Type} {l : Launch} {E : EE} {y : MethodName} {b : ByteArray} {ml n : Nat} {ret : Option FieldType} {As : List Value} {u : Mm} {cv : Y → Option Value × Mm} {g : Option Y} {own : String} (hy : plainName y.cls = true) (ho : y.cls = own) (hsz : (lg_sl As).length ≤ ml)
    (h : ∀ p e R s m args below meth c, Cx (E, inA E, (p, l, e, R, s, m, args, below, meth, c), 0, 0, ml) own b n → Mx (E, inA E, (p, l, e, R, s, m, args, below, meth, c), 0, 0, ml) ret → Gp (E, inA E, (p, l, e, R, s, m, args, below, meth, c), 0, 0, ml) (QM (E, inA E, (p, l, e, R, s, m, args, below, meth, c), 0, 0, ml) cv) 0 (lv_args 0 As) [] u g) : Ct l E y b ml ret n As u cv g := by
  intro q hq
  refine Met.ofW (cc := b) (maxL := ml) (ret := ret) hy rfl ?_
  intro p e s m args below meth c s₁ B hml hv
  obtain ⟨rfl, hP, hK, hN, hI⟩ := hv
  have hts := atoms_spec (ws := .code y b ml ret :: wsL_law) B.pre
  have hown : s.vm.findClass own = some m.cls := by rw [← ho]; exact findClass_of_methodNamed B.named
  have hl := lv_entry As (n := ml) hsz
  rw [lg_entry_eq]
  exact h p e (rmD n) s m As.toArray below meth c ⟨B.exec, B.bytes, hml, hown, fun w hw => hts w (List.mem_cons_of_mem _ hw), hK, hN, hI, fun k h1 h2 => ⟨k, h1, h2, rfl⟩, Nat.le_refl _, Nat.le_refl _, Nat.le_refl _, Nat.le_refl _⟩ ⟨B.returns, B.notSynchronized⟩ q hq s.heap [] _ hP va_S.rf hl
/-- facts of a called method -/
def CFv (y : MethodName) (b : ByteArray) (ml : Nat) (ret : Option FieldType) (Cn : String) (n : Nat) : Prop := Cond.instanceMethod y ∈ wsL_law ∧ Cond.selects Cn y y ∈ wsL_law ∧ Cond.initialized Cn ∈ wsL_law ∧ Cond.code y b ml ret ∈ wsL_law ∧ (y.cls = Cn ∧ y.cls ≠ "java/lang/invoke/MethodHandle" ∧ y.cls ≠ "java/lang/invoke/VarHandle" ∧ (parseMethodDescriptor y.desc).map (fun d => d.parameters.length) = some n) ∧ ml ≤ 17
def CFs (y : MethodName) (b : ByteArray) (ml : Nat) (ret : Option FieldType) (n : Nat) : Prop := Cond.static y ∈ wsL_law ∧ Cond.initialized y.cls ∈ wsL_law ∧ Cond.code y b ml ret ∈ wsL_law ∧ (y.cls ≠ "java/lang/invoke/MethodHandle" ∧ y.cls ≠ "java/lang/invoke/VarHandle" ∧ (parseMethodDescriptor y.desc).map (fun d => d.parameters.length) = some n) ∧ ml ≤ 17
theorem good_law {w : Cond} (h : w ∈ wsL_law) : (w.onTables && w.keeps) = true ∨ ∃ ty, w = .arrayClass ty := good_of_word (wsL_good w h)
theorem ts_c {Γ : GX} {own : String} {cc : ByteArray} {d : Nat} (C : Cx Γ own cc d) {c : Cond} (hc : c ∈ wsL_law) : ∀ w ∈ (c :: wsL_law), w.before (xa Γ) (xs Γ) = true := fun w hw => by
  rcases List.mem_cons.mp hw with rfl | hw
  · exact C.ts _ hc
  · exact C.ts _ hw
theorem good_c {c : Cond} (hc : c ∈ wsL_law) : GoodIn (c :: wsL_law) (c :: wsL_law) := fun w hw => ⟨hw, by
  rcases List.mem_cons.mp hw with rfl | hw
  · exact good_law hc
  · exact good_law hw⟩
theorem in_cons {L : List Cond} {big : List Cond} (h : ∀ w ∈ L, w ∈ big ∧ ((w.onTables && w.keeps) = true ∨ ∃ ty, w = .arrayClass ty)) : GoodIn big L := h
theorem room_of {Γ : GX} {own : String} {cc : ByteArray} {d n ml : Nat} (C : Cx Γ own cc d) (hn : n + 1 ≤ d) (hml : ml ≤ 17) : (rmD n).frames + 1 ≤ (xR Γ).frames ∧ 8 + (ml + 11) + (rmD n).locals ≤ (xR Γ).locals := by
  have h1 := C.fr
  have h2 := C.lo
  refine ⟨?_, ?_⟩
  · show n + 1 ≤ _
    omega
  · show 8 + (ml + 11) + 36 * n ≤ _
    omega
theorem pre_of {Γ : GX} {own : String} {cc : ByteArray} {d : Nat} (C : Cx Γ own cc d) {u : Mm} {H : Heap} {As : List Value} (hP : va_P (xE Γ).2.1 vwCl (wl (xE Γ) u) H) : PreS (xs Γ) H (va_Pc As (Wo (xE Γ) u)) As :=
  ⟨Wo_blind, fun U hU hW => ⟨rfl, by rw [hU]; exact hP, va_K.moved hW.alike C.K, NW.warm hW C.N, C.I⟩⟩
theorem inA_sub {Γ : GX} {own : String} {cc : ByteArray} {d : Nat} (C : Cx Γ own cc d) : ∀ q, inA (xE Γ) q → xA Γ q := by
  rintro q ⟨k, h1, h2, rfl⟩
  exact C.A k h1 h2
section CALLS
variable {X Y : Type} {Γ : GX} {QF : X → State → Prop} {own : String} {cc : ByteArray} {d pc pc0 : Nat} {ls : List (Nat × Value)} {rest st0 : List Value} {u : Mm} {y : MethodName} {b : ByteArray} {ml n nA idx : Nat} {ret : Option FieldType} {As : List Value} {cv : Y → Option Value × Mm} {g : Option Y} {f : Y → Option X}
/-- behind a call -/
theorem back_of_run {H : Heap} {locs : List Loc} {la : Array Slot} {a : Array Value} {q : Y} {Q : State → Prop} (C : Cx Γ own cc d)
    (hr : va_Run (xp Γ) (xl Γ) (xe Γ) (xR Γ) (xs Γ) (xm Γ) (xa Γ) (xb Γ) (xt Γ) (xc Γ) H locs (xk Γ) (xw Γ) 0 0 (F0 (xm Γ) pc la st0) rest (QX (xE Γ) (inA (xE Γ)) (cv q) a) (inA (xE Γ))) (hS : va_S (xA Γ) (xs Γ).heap H locs)
    (kk : ∀ (H1 : Heap) (locs1 : List Loc), va_P (xE Γ).2.1 vwCl (wl (xE Γ) (cv q).2) H1 → va_S (xA Γ) (xs Γ).heap H1 locs1 → W (xp Γ) (xl Γ) (xe Γ) (xR Γ) (xs Γ) (xm Γ) (xa Γ) (xb Γ) (xt Γ) (xc Γ) H1 locs1 (xk Γ) (xw Γ) Q (F0 (xm Γ) (pc + 3) la ((cv q).1.toList ++ rest))) :
    W (xp Γ) (xl Γ) (xe Γ) (xR Γ) (xs Γ) (xm Γ) (xa Γ) (xb Γ) (xt Γ) (xc Γ) H locs (xk Γ) (xw Γ) Q (F0 (xm Γ) pc la st0) := by
  intro T hT Xs
  obtain ⟨v, st₀, t, T', L, h0, X', hL, e1, e2, ⟨⟨hv, hp⟩, hz, hk⟩, st⟩ := hr T hT Xs
  cases hv
  rw [h0] at hz hk
  obtain ⟨t2, a1, b1⟩ := kk T'.heap (locs ++ L) (by rw [e1]; exact hp)
    ⟨Nat.le_trans hS.1 (by rw [e1]; exact hz), fun q h1 h2 => by rw [e1, hk q (Nat.lt_of_lt_of_le h1 hS.1) (fun z => h2 (inA_sub C q z))]; exact hS.2.1 q h1 h2, fun q hq => by
      rcases List.mem_append.mp hq with h | h
      · exact hS.2.2 q h
      · exact inA_sub C _ (hL q h)⟩ T' rfl X'
  exact ⟨t2, st t2 a1, b1⟩
theorem g_call {k c : Nat} {Cn : String} {T : u_T} {N : Nat} (C : Cx Γ own cc d) (hd : decode cc pc = .ok (.invokevirtual idx, 3)) (hp : pc0 = pc) (hC : Ct (xl Γ) (xE Γ) y b ml ret n (.ref ((xE Γ).1 k) :: As) u cv g) (cf : CFv y b ml ret Cn nA) (hk : kd k = c + 3) (hc : vwCl[c]? = some (Cn, T, N)) (hw : Cond.methodLink own idx y ∈ wsL_law) (hn : As.length = nA) (hdd : n + 1 ≤ d) (hst : (rest.map fun v => v.category).sum ≤ 8) (hs : st0 = As.reverse ++ .ref ((xE Γ).1 k) :: rest)
    (h : ∀ q, Gp Γ QF (pc + 3) ls ((cv q).1.toList ++ rest) (cv q).2 (f q)) : Gp Γ QF pc0 ls st0 u (g.bind f) := by
  subst hp
  obtain ⟨h1, h2, h3, h4, h5, h6⟩ := cf
  intro x hx H locs la hP hS hl
  cases g with
  | none => cases hx
  | some q =>
    have hk1 := kd_lt (k := k) (by omega)
    refine back_of_run (q := q) C (va_runV (nL := xn Γ) (Ts := .code y b ml ret :: wsL_law) (As := As) (rest := rest) ⟨C.exec, C.bytes, C.ml, C.own, ts_c C h4⟩ (hC q rfl) (cwV nA (ts_c C h4) (in_cons (fun w hw2 => ?_)) rfl rfl rfl h5 (room_of C hdd h6)) ⟨(pre_of C hP).1, va_recv C.K hP hc (by rw [wl_get _ _ hk1.1 hk1.2, rend_o _ _ hk]), (pre_of C hP).2⟩ rfl hn hl.1 hs (lv_room hst) hd ⟨C.ce, C.sl⟩) hS (fun H1 locs1 hP1 hS1 => h q x hx H1 locs1 la hP1 hS1 hl)
    rcases List.mem_append.mp hw2 with q | q
    · simp only [List.mem_cons, List.not_mem_nil, or_false] at q
      rcases q with rfl | rfl | rfl | rfl
      · exact ⟨List.mem_cons_of_mem _ hw, good_law hw⟩
      · exact ⟨List.mem_cons_of_mem _ h1, good_law h1⟩
      · exact ⟨List.mem_cons_of_mem _ h2, good_law h2⟩
      · exact ⟨List.mem_cons_of_mem _ h3, good_law h3⟩
    · exact good_c h4 w q
theorem g_calls (C : Cx Γ own cc d) (hd : decode cc pc = .ok (.invokestatic idx, 3)) (hp : pc0 = pc) (hC : Ct (xl Γ) (xE Γ) y b ml ret n As u cv g) (cf : CFs y b ml ret nA) (hw : Cond.methodLink own idx y ∈ wsL_law) (hn : As.length = nA) (hdd : n + 1 ≤ d) (hst : (rest.map fun v => v.category).sum ≤ 8) (hs : st0 = As.reverse ++ rest)
    (h : ∀ q, Gp Γ QF (pc + 3) ls ((cv q).1.toList ++ rest) (cv q).2 (f q)) : Gp Γ QF pc0 ls st0 u (g.bind f) := by
  subst hp
  obtain ⟨h1, h2, h4, h5, h6⟩ := cf
  intro x hx H locs la hP hS hl
  cases g with
  | none => cases hx
  | some q =>
    refine back_of_run (q := q) C (va_runS (nL := xn Γ) (Ts := .code y b ml ret :: wsL_law) (As := As) (rest := rest) ⟨C.exec, C.bytes, C.ml, C.own, ts_c C h4⟩ (hC q rfl) (va_cwS nA (ts_c C h4) (in_cons (fun w hw2 => ?_)) rfl rfl rfl h5 (room_of C hdd h6)) (pre_of C hP) rfl hn hl.1 hs (lv_room hst) hd ⟨C.ce, C.sl⟩) hS (fun H1 locs1 hP1 hS1 => h q x hx H1 locs1 la hP1 hS1 hl)
    rcases List.mem_append.mp hw2 with q | q
    · simp only [List.mem_cons, List.not_mem_nil, or_false] at q
      rcases q with rfl | rfl | rfl
      · exact ⟨List.mem_cons_of_mem _ hw, good_law hw⟩
      · exact ⟨List.mem_cons_of_mem _ h1, good_law h1⟩
      · exact ⟨List.mem_cons_of_mem _ h2, good_law h2⟩
    · exact good_c h4 w q
theorem g_calln {host : String} (C : Cx Γ own cc d) (hd : decode cc pc = .ok (.invokestatic idx, 3)) (hp : pc0 = pc) (hC : Ct (xl Γ) (xE Γ) y b ml ret n As u cv g) (cf : CFs y b ml ret nA) (hw : Cond.methodLinkNest own idx y host ∈ nwL) (hn : As.length = nA) (hdd : n + 1 ≤ d) (hst : (rest.map fun v => v.category).sum ≤ 8) (hs : st0 = As.reverse ++ rest)
    (h : ∀ q, Gp Γ QF (pc + 3) ls ((cv q).1.toList ++ rest) (cv q).2 (f q)) : Gp Γ QF pc0 ls st0 u (g.bind f) := by
  subst hp
  obtain ⟨h1, h2, h4, h5, h6⟩ := cf
  intro x hx H locs la hP hS hl
  cases g with
  | none => cases hx
  | some q =>
    exact back_of_run (q := q) C (va_runSN (nL := xn Γ) (Ts := .code y b ml ret :: wsL_law) (As := As) (rest := rest) ⟨C.exec, C.bytes, C.ml, C.own, ts_c C h4⟩ (hC q rfl) ⟨va_cnB nA (ts_c C h4) (good_c h4) rfl rfl rfl (C.N _ hw) (C.ts _ h2) h5 (room_of C hdd h6), C.ts _ h1, trivial⟩ (pre_of C hP) rfl hn hl.1 hs (lv_room hst) hd ⟨C.ce, C.sl⟩) hS (fun H1 locs1 hP1 hS1 => h q x hx H1 locs1 la hP1 hS1 hl)
end CALLS
section CALLS2
variable {X : Type} {Γ : GX} {QF : X → State → Prop} {own : String} {cc : ByteArray} {d pc pc0 : Nat} {ls : List (Nat × Value)} {rest st0 : List Value} {u : Mm} {y : MethodName} {b : ByteArray} {ml n nA idx : Nat} {ret : Option FieldType}
theorem g_callI {k c : Nat} {Cn : String} {T : u_T} {N : Nat} {g : Option (Int32 × Mm)} {f : Int32 → Mm → Option X} (As : List Value) (C : Cx Γ own cc d) (hd : decode cc pc = .ok (.invokevirtual idx, 3)) (hp : pc0 = pc) (hC : Ct (xl Γ) (xE Γ) y b ml ret n (.ref ((xE Γ).1 k) :: As) u cvI g) (cf : CFv y b ml ret Cn nA) (hk : kd k = c + 3) (hc : vwCl[c]? = some (Cn, T, N)) (hw : Cond.methodLink own idx y ∈ wsL_law) (hn : As.length = nA) (hdd : n + 1 ≤ d) (hst : (rest.map fun v => v.category).sum ≤ 8) (hs : st0 = As.reverse ++ .ref ((xE Γ).1 k) :: rest) (h : ∀ (r : Int32) (u1 : Mm), Gp Γ QF (pc + 3) ls (.int r :: rest) u1 (f r u1)) : Gp Γ QF pc0 ls st0 u (bI g f) :=
  g_call C hd hp hC cf hk hc hw hn hdd hst hs (fun q => h q.1 q.2)
theorem g_callP {k c : Nat} {Cn : String} {T : u_T} {N : Nat} {g : Option (Int32)} {f : Int32 → Option X} (As : List Value) (C : Cx Γ own cc d) (hd : decode cc pc = .ok (.invokevirtual idx, 3)) (hp : pc0 = pc) (hC : Ct (xl Γ) (xE Γ) y b ml ret n (.ref ((xE Γ).1 k) :: As) u (cvP u) g) (cf : CFv y b ml ret Cn nA) (hk : kd k = c + 3) (hc : vwCl[c]? = some (Cn, T, N)) (hw : Cond.methodLink own idx y ∈ wsL_law) (hn : As.length = nA) (hdd : n + 1 ≤ d) (hst : (rest.map fun v => v.category).sum ≤ 8) (hs : st0 = As.reverse ++ .ref ((xE Γ).1 k) :: rest) (h : ∀ r : Int32, Gp Γ QF (pc + 3) ls (.int r :: rest) u (f r)) : Gp Γ QF pc0 ls st0 u (g.bind f) :=
  g_call C hd hp hC cf hk hc hw hn hdd hst hs h
theorem g_callL {k c : Nat} {Cn : String} {T : u_T} {N : Nat} {g : Option (Int64)} {f : Int64 → Option X} (As : List Value) (C : Cx Γ own cc d) (hd : decode cc pc = .ok (.invokevirtual idx, 3)) (hp : pc0 = pc) (hC : Ct (xl Γ) (xE Γ) y b ml ret n (.ref ((xE Γ).1 k) :: As) u (cvL u) g) (cf : CFv y b ml ret Cn nA) (hk : kd k = c + 3) (hc : vwCl[c]? = some (Cn, T, N)) (hw : Cond.methodLink own idx y ∈ wsL_law) (hn : As.length = nA) (hdd : n + 1 ≤ d) (hst : (rest.map fun v => v.category).sum ≤ 8) (hs : st0 = As.reverse ++ .ref ((xE Γ).1 k) :: rest) (h : ∀ r : Int64, Gp Γ QF (pc + 3) ls (.long r :: rest) u (f r)) : Gp Γ QF pc0 ls st0 u (g.bind f) :=
  g_call C hd hp hC cf hk hc hw hn hdd hst hs h
theorem g_callV {k c : Nat} {Cn : String} {T : u_T} {N : Nat} {g : Option (Mm)} {f : Mm → Option X} (As : List Value) (C : Cx Γ own cc d) (hd : decode cc pc = .ok (.invokevirtual idx, 3)) (hp : pc0 = pc) (hC : Ct (xl Γ) (xE Γ) y b ml ret n (.ref ((xE Γ).1 k) :: As) u cvV g) (cf : CFv y b ml ret Cn nA) (hk : kd k = c + 3) (hc : vwCl[c]? = some (Cn, T, N)) (hw : Cond.methodLink own idx y ∈ wsL_law) (hn : As.length = nA) (hdd : n + 1 ≤ d) (hst : (rest.map fun v => v.category).sum ≤ 8) (hs : st0 = As.reverse ++ .ref ((xE Γ).1 k) :: rest) (h : ∀ u1 : Mm, Gp Γ QF (pc + 3) ls rest u1 (f u1)) : Gp Γ QF pc0 ls st0 u (g.bind f) :=
  g_call C hd hp hC cf hk hc hw hn hdd hst hs h
theorem g_callsI {g : Option (Int32 × Mm)} {f : Int32 → Mm → Option X} (As : List Value) (C : Cx Γ own cc d) (hd : decode cc pc = .ok (.invokestatic idx, 3)) (hp : pc0 = pc) (hC : Ct (xl Γ) (xE Γ) y b ml ret n As u cvI g) (cf : CFs y b ml ret nA) (hw : Cond.methodLink own idx y ∈ wsL_law) (hn : As.length = nA) (hdd : n + 1 ≤ d) (hst : (rest.map fun v => v.category).sum ≤ 8) (hs : st0 = As.reverse ++ rest) (h : ∀ (r : Int32) (u1 : Mm), Gp Γ QF (pc + 3) ls (.int r :: rest) u1 (f r u1)) : Gp Γ QF pc0 ls st0 u (bI g f) :=
  g_calls C hd hp hC cf hw hn hdd hst hs (fun q => h q.1 q.2)
theorem g_callsP {g : Option (Int32)} {f : Int32 → Option X} (As : List Value) (C : Cx Γ own cc d) (hd : decode cc pc = .ok (.invokestatic idx, 3)) (hp : pc0 = pc) (hC : Ct (xl Γ) (xE Γ) y b ml ret n As u (cvP u) g) (cf : CFs y b ml ret nA) (hw : Cond.methodLink own idx y ∈ wsL_law) (hn : As.length = nA) (hdd : n + 1 ≤ d) (hst : (rest.map fun v => v.category).sum ≤ 8) (hs : st0 = As.reverse ++ rest) (h : ∀ r : Int32, Gp Γ QF (pc + 3) ls (.int r :: rest) u (f r)) : Gp Γ QF pc0 ls st0 u (g.bind f) :=
  g_calls C hd hp hC cf hw hn hdd hst hs h
theorem g_callsL {g : Option (Int64)} {f : Int64 → Option X} (As : List Value) (C : Cx Γ own cc d) (hd : decode cc pc = .ok (.invokestatic idx, 3)) (hp : pc0 = pc) (hC : Ct (xl Γ) (xE Γ) y b ml ret n As u (cvL u) g) (cf : CFs y b ml ret nA) (hw : Cond.methodLink own idx y ∈ wsL_law) (hn : As.length = nA) (hdd : n + 1 ≤ d) (hst : (rest.map fun v => v.category).sum ≤ 8) (hs : st0 = As.reverse ++ rest) (h : ∀ r : Int64, Gp Γ QF (pc + 3) ls (.long r :: rest) u (f r)) : Gp Γ QF pc0 ls st0 u (g.bind f) :=
  g_calls C hd hp hC cf hw hn hdd hst hs h
theorem g_callsV {g : Option (Mm)} {f : Mm → Option X} (As : List Value) (C : Cx Γ own cc d) (hd : decode cc pc = .ok (.invokestatic idx, 3)) (hp : pc0 = pc) (hC : Ct (xl Γ) (xE Γ) y b ml ret n As u cvV g) (cf : CFs y b ml ret nA) (hw : Cond.methodLink own idx y ∈ wsL_law) (hn : As.length = nA) (hdd : n + 1 ≤ d) (hst : (rest.map fun v => v.category).sum ≤ 8) (hs : st0 = As.reverse ++ rest) (h : ∀ u1 : Mm, Gp Γ QF (pc + 3) ls rest u1 (f u1)) : Gp Γ QF pc0 ls st0 u (g.bind f) :=
  g_calls C hd hp hC cf hw hn hdd hst hs h
theorem g_callnI {host : String} {g : Option (Int32 × Mm)} {f : Int32 → Mm → Option X} (As : List Value) (C : Cx Γ own cc d) (hd : decode cc pc = .ok (.invokestatic idx, 3)) (hp : pc0 = pc) (hC : Ct (xl Γ) (xE Γ) y b ml ret n As u cvI g) (cf : CFs y b ml ret nA) (hw : Cond.methodLinkNest own idx y host ∈ nwL) (hn : As.length = nA) (hdd : n + 1 ≤ d) (hst : (rest.map fun v => v.category).sum ≤ 8) (hs : st0 = As.reverse ++ rest) (h : ∀ (r : Int32) (u1 : Mm), Gp Γ QF (pc + 3) ls (.int r :: rest) u1 (f r u1)) : Gp Γ QF pc0 ls st0 u (bI g f) :=
  g_calln C hd hp hC cf hw hn hdd hst hs (fun q => h q.1 q.2)
theorem g_callnP {host : String} {g : Option (Int32)} {f : Int32 → Option X} (As : List Value) (C : Cx Γ own cc d) (hd : decode cc pc = .ok (.invokestatic idx, 3)) (hp : pc0 = pc) (hC : Ct (xl Γ) (xE Γ) y b ml ret n As u (cvP u) g) (cf : CFs y b ml ret nA) (hw : Cond.methodLinkNest own idx y host ∈ nwL) (hn : As.length = nA) (hdd : n + 1 ≤ d) (hst : (rest.map fun v => v.category).sum ≤ 8) (hs : st0 = As.reverse ++ rest) (h : ∀ r : Int32, Gp Γ QF (pc + 3) ls (.int r :: rest) u (f r)) : Gp Γ QF pc0 ls st0 u (g.bind f) :=
  g_calln C hd hp hC cf hw hn hdd hst hs h
theorem g_callnL {host : String} {g : Option (Int64)} {f : Int64 → Option X} (As : List Value) (C : Cx Γ own cc d) (hd : decode cc pc = .ok (.invokestatic idx, 3)) (hp : pc0 = pc) (hC : Ct (xl Γ) (xE Γ) y b ml ret n As u (cvL u) g) (cf : CFs y b ml ret nA) (hw : Cond.methodLinkNest own idx y host ∈ nwL) (hn : As.length = nA) (hdd : n + 1 ≤ d) (hst : (rest.map fun v => v.category).sum ≤ 8) (hs : st0 = As.reverse ++ rest) (h : ∀ r : Int64, Gp Γ QF (pc + 3) ls (.long r :: rest) u (f r)) : Gp Γ QF pc0 ls st0 u (g.bind f) :=
  g_calln C hd hp hC cf hw hn hdd hst hs h
theorem g_callnV {host : String} {g : Option (Mm)} {f : Mm → Option X} (As : List Value) (C : Cx Γ own cc d) (hd : decode cc pc = .ok (.invokestatic idx, 3)) (hp : pc0 = pc) (hC : Ct (xl Γ) (xE Γ) y b ml ret n As u cvV g) (cf : CFs y b ml ret nA) (hw : Cond.methodLinkNest own idx y host ∈ nwL) (hn : As.length = nA) (hdd : n + 1 ≤ d) (hst : (rest.map fun v => v.category).sum ≤ 8) (hs : st0 = As.reverse ++ rest) (h : ∀ u1 : Mm, Gp Γ QF (pc + 3) ls rest u1 (f u1)) : Gp Γ QF pc0 ls st0 u (g.bind f) :=
  g_calln C hd hp hC cf hw hn hdd hst hs h
/-- a call that answers a cell, or none -/
theorem g_callR {k c : Nat} {Cn : String} {T : u_T} {N : Nat} {g : Option Nat} {f : Nat → Option X} (As : List Value) (C : Cx Γ own cc d) (hd : decode cc pc = .ok (.invokevirtual idx, 3)) (hp : pc0 = pc) (hC : Ct (xl Γ) (xE Γ) y b ml ret n (.ref ((xE Γ).1 k) :: As) u (cvR (xE Γ) u) g) (cf : CFv y b ml ret Cn nA) (hk : kd k = c + 3) (hc : vwCl[c]? = some (Cn, T, N)) (hw : Cond.methodLink own idx y ∈ wsL_law) (hn : As.length = nA) (hdd : n + 1 ≤ d) (hst : (rest.map fun v => v.category).sum ≤ 8) (hs : st0 = As.reverse ++ .ref ((xE Γ).1 k) :: rest) (h0 : Gp Γ QF (pc + 3) ls (.null :: rest) u (f 0)) (h : ∀ r : Nat, r ≠ 0 → Gp Γ QF (pc + 3) ls (.ref ((xE Γ).1 r) :: rest) u (f r)) : Gp Γ QF pc0 ls st0 u (g.bind f) :=
  g_call C hd hp hC cf hk hc hw hn hdd hst hs (fun q => by
    by_cases hq : q = 0
    · subst hq
      exact h0
    · have e : rn (xE Γ) q = .ref ((xE Γ).1 q) := if_neg hq
      show Gp Γ QF (pc + 3) ls (rn (xE Γ) q :: rest) u (f q)
      rw [e]
      exact h q hq)
theorem g_max {x y : Int32} {o : Option X} (C : Cx Γ own cc d) (hd : decode cc pc = .ok (.invokestatic idx, 3)) (hp : pc0 = pc) (hw : Cond.methodLink own idx Lib.Math.max.name ∈ wsL_law ∧ Cond.static Lib.Math.max.name ∈ wsL_law ∧ Cond.code Lib.Math.max.name Lib.Math.max.code 2 (some .int) ∈ wsL_law) (hdd : 1 ≤ d) (hst : (rest.map fun v => v.category).sum ≤ 8) (h : Gp Γ QF (pc + 3) ls (.int (imax x y) :: rest) u o) : Gp Γ QF pc0 ls (.int y :: .int x :: rest) u o := by
  subst hp
  have h1 := C.fr
  have h2 := C.lo
  exact fun r hr H locs la hP hS hl => va_mmax C.exec C.bytes (C.ml.trans hl.1.symm) C.own (C.ts _ hw.1) (C.ts _ hw.2.1) (C.ts _ ini_math) (C.ts _ hw.2.2) (by omega) (by omega) C.ce C.sl hd (h r hr H locs la hP hS hl)
theorem g_min {x y : Int32} {o : Option X} (C : Cx Γ own cc d) (hd : decode cc pc = .ok (.invokestatic idx, 3)) (hp : pc0 = pc) (hw : Cond.methodLink own idx Lib.Math.min.name ∈ wsL_law ∧ Cond.static Lib.Math.min.name ∈ wsL_law ∧ Cond.code Lib.Math.min.name Lib.Math.min.code 2 (some .int) ∈ wsL_law) (hdd : 1 ≤ d) (hst : (rest.map fun v => v.category).sum ≤ 8) (h : Gp Γ QF (pc + 3) ls (.int (imin x y) :: rest) u o) : Gp Γ QF pc0 ls (.int y :: .int x :: rest) u o := by
  subst hp
  have h1 := C.fr
  have h2 := C.lo
  exact fun r hr H locs la hP hS hl => va_mmin C.exec C.bytes (C.ml.trans hl.1.symm) C.own (C.ts _ hw.1) (C.ts _ hw.2.1) (C.ts _ ini_math) (C.ts _ hw.2.2) (by omega) (by omega) C.ce C.sl hd (h r hr H locs la hP hS hl)
theorem g_abs {x : Int32} {o : Option X} (C : Cx Γ own cc d) (hd : decode cc pc = .ok (.invokestatic idx, 3)) (hp : pc0 = pc) (hw : Cond.methodLink own idx Lib.Math.abs.name ∈ wsL_law ∧ Cond.static Lib.Math.abs.name ∈ wsL_law ∧ Cond.code Lib.Math.abs.name Lib.Math.abs.code 1 (some .int) ∈ wsL_law) (hdd : 1 ≤ d) (hst : (rest.map fun v => v.category).sum ≤ 8) (h : Gp Γ QF (pc + 3) ls (.int (iabs x) :: rest) u o) : Gp Γ QF pc0 ls (.int x :: rest) u o := by
  subst hp
  have h1 := C.fr
  have h2 := C.lo
  have e : (if x < 0 then 0 - x else x) = (if 0 ≤ x then x else 0 - x) := by
    by_cases hx : 0 ≤ x
    · rw [if_pos hx, if_neg (n32a hx)]
    · rw [if_neg hx, if_pos (n32b hx)]
  have h : Gp Γ QF (pc0 + 3) ls (.int (if x < 0 then 0 - x else x) :: rest) u o := h
  rw [e] at h
  exact fun r hr H locs la hP hS hl => va_mabs C.exec C.bytes (C.ml.trans hl.1.symm) C.own (C.ts _ hw.1) (C.ts _ hw.2.1) (C.ts _ ini_math) (C.ts _ hw.2.2) (by omega) (by omega) C.ce C.sl hd (h r hr H locs la hP hS hl)
end CALLS2
