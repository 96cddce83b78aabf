/-! Call: lots. -/
theorem and_pos (z : Int32) : 0 ≤ (z &&& 2147483647).toInt := by
  show 0 ≤ (z &&& 2147483647).toBitVec.toInt
  rw [Int32.toBitVec_and]
  have h : (z.toBitVec &&& (2147483647 : Int32).toBitVec).toNat ≤ 2147483647 := by
    rw [BitVec.toNat_and]
    exact Nat.and_le_right
  rw [BitVec.toInt_eq_toNat_of_lt (by omega)]
  omega
def lotT (z : Int32) : Nat := (irm ((z &&& 2147483647) / 65536) 3).toInt.toNat
theorem lotT_e (z : Int32) : irm ((z &&& 2147483647) / 65536) 3 = nI (lotT z) ∧ lotT z < 3 := by
  obtain ⟨n, e, hn, hi⟩ := nI_ex (and_pos z)
  have h1 : irm ((z &&& 2147483647) / 65536) 3 = nI (n / 65536 % 3) := by
    rw [e, show (65536 : Int32) = nI 65536 from rfl, dv_n hn (by decide) (by decide), show (3 : Int32) = nI 3 from rfl, rm_n (by omega) (by decide) (by decide)]
  have h2 : lotT z = n / 65536 % 3 := by
    unfold lotT
    rw [h1, t_nI (by omega), Int.toNat_natCast]
  rw [h1, h2]
  exact ⟨rfl, Nat.mod_lt _ (by decide)⟩
def nxZ (z : Int32) : Int32 := (z * 1103515245) + 12345
def lotU (E : Mm) (s : Int32 × Int32 × (Nat → Int32)) : Int32 × Int32 × (Nat → Int32) :=
  if s.2.1 = 0 then (nxZ s.1, bz (stp (E 0) (E 1) (ablN (lotT (nxZ s.1)) s.2.2) s.2.2 0 = 0), stp (E 0) (E 1) (ablN (lotT (nxZ s.1)) s.2.2) s.2.2) else s
def lotS (E : Mm) (f : Nat → Int32) (z : Int32) : Nat → Int32 × Int32 × (Nat → Int32)
  | 0 => (z, 0, f)
  | n + 1 => lotU E (lotS E f z n)
def LotP (E : Mm) (f : Nat → Int32) (L : Int32 → Nat → Int32 × Int32 × (Nat → Int32)) : Prop := ∀ z, L z 0 = (z, 0, f) ∧ ∀ n, L z (n + 1) = lotU E (L z n)
theorem lotU_y {E : Mm} {s : Int32 × Int32 × (Nat → Int32)} (h : s.2.1 = 0) : lotU E s = (nxZ s.1, bz (stp (E 0) (E 1) (ablN (lotT (nxZ s.1)) s.2.2) s.2.2 0 = 0), stp (E 0) (E 1) (ablN (lotT (nxZ s.1)) s.2.2) s.2.2) := if_pos h
theorem lotU_n {E : Mm} {s : Int32 × Int32 × (Nat → Int32)} (h : ¬ s.2.1 = 0) : lotU E s = s := if_neg h
theorem LotP.vf {E : Mm} {f : Nat → Int32} {L : Int32 → Nat → Int32 × Int32 × (Nat → Int32)} (h : LotP E f L) (hV : VF f) (z : Int32) : ∀ n, VF (L z n).2.2 := by
  intro n
  induction n with
  | zero => rw [(h z).1]; exact hV
  | succ n ih =>
    rw [(h z).2 n]
    by_cases c : (L z n).2.1 = 0
    · rw [lotU_y c]
      exact VF_stp ih (ablN_3 (lotT_e _).2 _) ablN_g
    · rw [lotU_n c]; exact ih
theorem LotP.fl {E : Mm} {f : Nat → Int32} {L : Int32 → Nat → Int32 × Int32 × (Nat → Int32)} (h : LotP E f L) (z : Int32) : ∀ n, (L z (n + 1)).2.1 = bz ((L z (n + 1)).2.2 0 = 0) := by
  intro n
  induction n with
  | zero =>
    rw [(h z).2 0, lotU_y (by rw [(h z).1])]
  | succ n ih =>
    rw [(h z).2 (n + 1)]
    by_cases c : (L z (n + 1)).2.1 = 0
    · rw [lotU_y c]
    · rw [lotU_n c]; exact ih
theorem LotP.stop {E : Mm} {f : Nat → Int32} {L : Int32 → Nat → Int32 × Int32 × (Nat → Int32)} (h : LotP E f L) {z : Int32} {n : Nat} (hn : ¬ (L z n).2.1 = 0) : ∀ d, L z (n + d) = L z n := by
  intro d
  induction d with
  | zero => rfl
  | succ d ih => rw [← Nat.add_assoc, (h z).2 (n + d), ih, lotU_n hn]
theorem clot1 {E u : Mm} {f : Nat → Int32} {L : Int32 → Nat → Int32 × Int32 × (Nat → Int32)} (hL : LotP E f L) (hV : VF f) (hE : EC E u) (hC : CF (u 67) f) (z : Int32) :
    Ok (gX3_flyOneByLot z u) (fun q => q.1 = (L z 40).1 ∧ Fk [69] [] u q.2 ∧ EC E q.2 ∧ q.2 67 = u 67 ∧ CF (q.2 69) (L z 40).2.2) := by
  unfold gX3_flyOneByLot gX3_flyOneByLot_b
  rw [ok_bind]
  refine (ccopy69 hE hC).mono ?_
  rintro v2 ⟨f2, e2, c2, k67⟩
  refine loopS (fun n (s : Int32 × Int32 × Int32 × Mm) => gX3_flyOneByLot_18_L n s.1 s.2.1 s.2.2.1 s.2.2.2) (fun j s => gX3_flyOneByLot_18_Ls (fun a b c d => j (a, b, c, d)) s.1 s.2.1 s.2.2.1 s.2.2.2) (fun _ _ => rfl) _
    (fun n s => s.2.2.1 = nI n ∧ s.1 = (L z n).1 ∧ s.2.1 = (L z n).2.1 ∧ Fk [69] [] u s.2.2.2 ∧ EC E s.2.2.2 ∧ s.2.2.2 67 = u 67 ∧ CF (s.2.2.2 69) (L z n).2.2) 40 ?_ ?_ 40 0 FU (z, 0, 0, v2) rfl (by decide) ⟨rfl, by rw [(hL z).1], by rw [(hL z).1], f2, e2, k67, by rw [(hL z).1]; exact c2⟩
  · rintro i ⟨x1, x2, x3, x⟩ j hi ⟨h0, k1, k2, k3, k4, k5, k6⟩ hj
    change x3 = nI i at h0
    subst h0
    change x1 = _ at k1
    change x2 = _ at k2
    change x 67 = u 67 at k5
    change CF (x 69) _ at k6
    show Ok (gX3_flyOneByLot_18_Ls (fun a b c d => j (a, b, c, d)) x1 x2 (nI i) x) _
    unfold gX3_flyOneByLot_18_Ls
    have hs := (hL z).2 i
    have hVi := hL.vf hV z i
    rw [show (40 : Int32) = nI 40 from rfl, if_pos (by rw [lt_nn (by omega) (by omega)]; exact hi)]
    by_cases c : x2 = 0
    · rw [lotU_y (by rw [← k2]; exact c)] at hs
      rw [← k1] at hs
      rw [if_pos c, letv_eq, letv_eq, show x1 * 1103515245 + 12345 = nxZ x1 from rfl, (lotT_e (nxZ x1)).1, ableN (lotT_e _).2 (k6.1 4 (by decide)), Option.bind_some, ok_bind]
      refine (cfly69 k4 k6 hVi (ablN_3 (lotT_e (nxZ x1)).2 _)).mono ?_
      rintro y ⟨y1, y2, y3⟩
      have ky : Fk [69] [] u y := Fk.tr k3 y1
      have y67 : y 67 = u 67 := (y1.1 67 (by decide) (by decide)).trans k5
      unfold gX3_flyOneByLot_84
      rw [show y 69 0 = _ from y3.1 0 (by decide)]
      refine ok_if (fun c2 => ?_) (fun c2 => ?_)
      · rw [letv_eq, nI_s (by omega)]
        exact hj (nxZ x1, 1, nI (i + 1), y) ⟨rfl, by rw [hs], by rw [hs]; exact (bz_t c2).symm, ky, y2, y67, by rw [hs]; exact y3⟩
      · rw [letv_eq, nI_s (by omega)]
        exact hj (nxZ x1, 0, nI (i + 1), y) ⟨rfl, by rw [hs], by rw [hs]; exact (bz_f c2).symm, ky, y2, y67, by rw [hs]; exact y3⟩
    · rw [if_neg c]
      have e := hL.stop (z := z) (n := i) (by rw [← k2]; exact c) (40 - i)
      rw [show i + (40 - i) = 40 by omega] at e
      refine ok_some.mpr ?_
      rw [e]
      exact ⟨k1, k3, k4, k5, k6⟩
  · rintro ⟨x1, x2, x3, x⟩ j ⟨h0, k1, k2, k3, k4, k5, k6⟩
    change x3 = nI 40 at h0
    subst h0
    show Ok (gX3_flyOneByLot_18_Ls (fun a b c d => j (a, b, c, d)) x1 x2 (nI 40) x) _
    unfold gX3_flyOneByLot_18_Ls
    rw [if_neg (by decide)]
    exact ok_some.mpr ⟨k1, k3, k4, k5, k6⟩
def ltsU (E : Mm) (L : Int32 → Nat → Int32 × Int32 × (Nat → Int32)) (s : Int32 × Int32 × Int32) : Int32 × Int32 × Int32 :=
  ((L s.1 40).1, s.2.1 + (if (L s.1 40).2.2 0 = 0 then (if fieldP E (L s.1 40).2.2 = -9 then 0 else 1) else 0), s.2.2 + (if (L s.1 40).2.2 0 = 0 then costP E (L s.1 40).2.2 else 40))
def ltsS (E : Mm) (L : Int32 → Nat → Int32 × Int32 × (Nat → Int32)) (z : Int32) : Nat → Int32 × Int32 × Int32
  | 0 => (z, 0, 0)
  | n + 1 => ltsU E L (ltsS E L z n)
theorem lots_C {n : Nat} {z w : Int32} {u : Mm} {L : Int32 → Nat → Int32 × Int32 × (Nat → Int32)} {T : Nat → Int32 × Int32 × Int32} (hR : R u) (n1 : (nI n < 1) = False) (n20 : (20 < nI n) = False) (hn : n ≤ 20) (w0 : (w < 0) = False) (w1 : (1 < w) = False) (hL : LotP (env u) (flt u) L) (hT : T 0 = (z, 0, 0) ∧ ∀ k, T (k + 1) = ltsU (env u) L (T k)) :
    Ok (gX10_lots (nI n) z w u) (fun q => q.1 = (if w = 0 then (T n).2.1 else (T n).2.2) ∧ Sm u q.2) := by
  unfold gX10_lots gX10_lots_b
  simp only [n1, n20, w0, w1, ↓reduceIte]
  rw [ok_bind]
  refine (cbegin hR).mono ?_
  rintro v1 ⟨f1, m1⟩
  unfold gX3_flyByLot gX3_flyByLot_b
  rw [ok_bind, letv_eq, letv_eq]
  have f0 : Fk lM [4, 13, 14] u (stm (stm v1 57 13 0) 57 14 0) := (f1.mono (fun _ h => h) (by decide)).tr ((Fk.st (by decide)).tr (Fk.st (by decide)))
  have hn0 : ∀ c, 59 ≤ c → c ≤ 66 → c ∉ ([] : List Nat) := fun c a b e => by cases e
  have fk : Fk [] [13, 14] v1 (stm (stm v1 57 13 0) 57 14 0) := (Fk.st (by decide)).tr (Fk.st (by decide))
  have hB := env_EB hR
  refine loopS (fun m (s : Int32 × Int32 × Mm) => gX3_flyByLot_15_L (nI n) m s.1 s.2.1 s.2.2) (fun j s => gX3_flyByLot_15_Ls (nI n) (fun a b c => j (a, b, c)) s.1 s.2.1 s.2.2) (fun _ _ => rfl) _
    (fun m s => s.2.1 = nI m ∧ s.1 = (T m).1 ∧ Fk lM [4, 13, 14] u s.2.2 ∧ EC (env u) s.2.2 ∧ s.2.2 67 = v1 67 ∧ s.2.2 57 13 = (T m).2.1 ∧ s.2.2 57 14 = (T m).2.2) n ?_ ?_ n 0 FU (z, 0, stm (stm v1 57 13 0) 57 14 0) (by omega) (by unfold FU; omega) ⟨rfl, by rw [hT.1], f0, m1.1.keep fk hn0, rfl, by rw [hT.1]; rfl, by rw [hT.1]; rfl⟩
  · rintro i ⟨x1, x2, x⟩ j hi ⟨h0, k1, k2, k3, k4, k5, k6⟩ hj
    change x2 = nI i at h0
    subst h0
    change x1 = _ at k1
    change Fk lM [4, 13, 14] u x at k2
    change x 67 = v1 67 at k4
    change x 57 13 = _ at k5
    change x 57 14 = _ at k6
    show Ok (gX3_flyByLot_15_Ls (nI n) (fun a b c => j (a, b, c)) x1 (nI i) x) _
    unfold gX3_flyByLot_15_Ls
    rw [if_pos (by rw [lt_nn (by omega) (by omega)]; exact hi), ok_bI]
    refine (clot1 (u := x) hL (flt_VF hR) k3 (by rw [k4]; exact m1.2.1) x1).mono ?_
    rintro ⟨s', y⟩ ⟨q1, q2, q3, q4, q5⟩
    change s' = _ at q1
    change Fk [69] [] x y at q2
    change EC (env u) y at q3
    change y 67 = x 67 at q4
    change CF (y 69) _ at q5
    have hs := hT.2 i
    unfold ltsU at hs
    rw [← k1, ← q1] at hs
    generalize (L x1 40).2.2 = g at q5 hs
    have ky : Fk lM [4, 13, 14] u y := k2.tr (q2.mono (by decide) (fun _ h => by cases h))
    have y13 : y 57 13 = (T i).2.1 := (q2.2 13 (by decide)).trans k5
    have y14 : y 57 14 = (T i).2.2 := (q2.2 14 (by decide)).trans k6
    have fin : ∀ a c : Int32, (T i).2.1 + a = (T (i + 1)).2.1 → c = (T (i + 1)).2.2 → Ok (gX3_flyByLot_91 (fun a b c => j (a, b, c)) (nI n) s' (nI i) a (T i).2.1 (stm y 57 14 c)) (fun y => Ok (if w = 0 then some (y 57 13, y) else some (y 57 14, y)) (fun q => q.1 = (if w = 0 then (T n).2.1 else (T n).2.2) ∧ Sm u q.2)) := by
      intro a c ha hc
      unfold gX3_flyByLot_91
      rw [letv_eq, letv_eq, nI_s (by omega)]
      have kk : Fk [] [13, 14] y (stm (stm y 57 14 c) 57 13 ((T i).2.1 + a)) := (Fk.st (by decide)).tr (Fk.st (by decide))
      exact hj (s', nI (i + 1), stm (stm y 57 14 c) 57 13 ((T i).2.1 + a)) ⟨rfl, by rw [hs], ky.tr (kk.mono (fun _ h => by cases h) (by decide)), q3.keep kk hn0, q4.trans k4, ha, hc⟩
    have e1 : (T (i + 1)).2.1 = (T i).2.1 + (if g 0 = 0 then (if fieldP (env u) g = -9 then 0 else 1) else 0) := by rw [hs]
    have e2 : (T (i + 1)).2.2 = (T i).2.2 + (if g 0 = 0 then costP (env u) g else 40) := by rw [hs]
    show Ok (if y 69 0 = 0 then gX3_flyByLot_42 _ _ s' _ 1 y else gX3_flyByLot_42 _ _ s' _ 0 y) _
    rw [show y 69 0 = g 0 from q5.1 0 (by decide)]
    refine ok_if (fun c => ?_) (fun c => ?_)
    · rw [if_pos c] at e1 e2
      unfold gX3_flyByLot_42
      rw [if_neg (by decide), ccostP q3 hB q5, Option.bind_some]
      unfold gX3_flyByLot_63
      have q3' : EC (env u) (stm y 57 14 (y 57 14 + costP (env u) g)) := q3.keep (ls := []) (l := [14]) (Fk.st (by decide)) hn0
      rw [letv_eq, if_neg (by decide), cfieldP q3' hB (show CF (y 69) g from q5), Option.bind_some]
      unfold gX3_flyByLot_90
      rw [show stm y 57 14 (y 57 14 + costP (env u) g) 57 13 = (T i).2.1 from y13]
      refine ok_if (fun c2 => fin 0 _ ?_ ?_) (fun c2 => fin 1 _ ?_ ?_)
      · rw [e1, if_pos c2]
      · rw [e2, y14]
      · rw [e1, if_neg c2]
      · rw [e2, y14]
    · rw [if_neg c] at e1 e2
      unfold gX3_flyByLot_42
      rw [if_pos rfl]
      unfold gX3_flyByLot_63 gX3_flyByLot_90
      rw [letv_eq, if_pos rfl, show stm y 57 14 (y 57 14 + 40) 57 13 = (T i).2.1 from y13]
      exact fin 0 _ (by rw [e1]) (by rw [e2, y14])
  · rintro ⟨x1, x2, x⟩ j ⟨h0, k1, k2, k3, k4, k5, k6⟩
    change x2 = nI n at h0
    subst h0
    change x 57 13 = _ at k5
    change x 57 14 = _ at k6
    show Ok (gX3_flyByLot_15_Ls (nI n) (fun a b c => j (a, b, c)) x1 (nI n) x) _
    unfold gX3_flyByLot_15_Ls
    rw [if_neg (by rw [lt_nn (by omega) (by omega)]; omega)]
    refine ok_some.mpr ?_
    rw [k5, k6]
    by_cases w0 : w = 0
    · rw [if_pos w0, if_pos w0]; exact ok_some.mpr ⟨rfl, Sm_K k2⟩
    rw [if_neg w0, if_neg w0]
    exact ok_some.mpr ⟨rfl, Sm_K k2⟩
theorem lots_M {n : Nat} {z w : Int32} {u1 : Mm} {L : Int32 → Nat → Int32 × Int32 × (Nat → Int32)} {T : Nat → Int32 × Int32 × Int32} (hR1 : R u1) (hn0 : gX11_wrongNumber (nI n) 1 20 = some 0) (hn : n ≤ 20) (hw : gX11_wrongBit 0 w 1 = some 0) (hL : LotP (env u1) (flt u1) L) (hT : T 0 = (z, 0, 0) ∧ ∀ k, T (k + 1) = ltsU (env u1) L (T k)) :
    Ok (gX11_lots (nI n) z w u1) (fun q => q.1 = (if w = 0 then (T n).2.1 else (T n).2.2) ∧ Sm u1 q.2) := by
  have hB := env_EB hR1
  unfold gX11_lots gX11_lots_b
  rw [letv_eq, hn0, Option.bind_some, hw, Option.bind_some, if_neg (by decide), ok_bind]
  refine (mopen u1).mono ?_
  rintro v1 ⟨o1, o2, o3, o4⟩
  refine loopS (fun m (s : Int32 × Int32 × Int32 × Int32 × Mm) => gX11_lots_47_L (nI n) w m s.1 s.2.1 s.2.2.1 s.2.2.2.1 s.2.2.2.2) (fun j s => gX11_lots_47_Ls (nI n) w (fun a b c d e => j (a, b, c, d, e)) s.1 s.2.1 s.2.2.1 s.2.2.2.1 s.2.2.2.2) (fun _ _ => rfl) _
    (fun m s => s.2.2.2.1 = nI m ∧ s.1 = (T m).1 ∧ s.2.1 = (T m).2.1 ∧ s.2.2.1 = (T m).2.2 ∧ Fr cW lW u1 s.2.2.2.2 ∧ TH s.2.2.2.2 (flt u1)) n ?_ ?_ n 0 FU (z, 0, 0, 0, v1) (by omega) (by unfold FU; omega) ⟨rfl, by rw [hT.1], by rw [hT.1], by rw [hT.1], o1, o2⟩
  · rintro i ⟨x1, x2, x3, x4, x⟩ j hi ⟨h0, k1, k2, k3, k4, k5⟩ hj
    change x4 = nI i at h0
    subst h0
    change x1 = _ at k1
    change x2 = _ at k2
    change x3 = _ at k3
    change Fr cW lW u1 x at k4
    change TH x _ at k5
    show Ok (gX11_lots_47_Ls (nI n) w (fun a b c d e => j (a, b, c, d, e)) x1 x2 x3 (nI i) x) _
    unfold gX11_lots_47_Ls
    rw [if_pos (by rw [lt_nn (by omega) (by omega)]; exact hi), ok_bind]
    refine (again_ok k5).mono ?_
    rintro y ⟨y1, y2⟩
    have ky : Fr cW lW u1 y := k4.tr (y1.W (by decide))
    have yT := k5.keep y1
    have hs := hT.2 i
    unfold ltsU at hs
    rw [← k1] at hs
    have fin : ∀ (s9 : Int32) (v : Mm), s9 = (L x1 40).2.1 → s9 = bz ((L x1 40).2.2 0 = 0) → Fr cW lW u1 v → TH v (flt u1) → MF v (L x1 40).2.2 → v 74 21 = (L x1 40).2.2 8 →
        Ok (gX11_lots_144 (fun a b c d e => j (a, b, c, d, e)) (nI n) w (L x1 40).1 x2 x3 (nI i) s9 v) (fun q => q.1 = (if w = 0 then (T n).2.1 else (T n).2.2) ∧ Sm u1 q.2) := by
      intro s9 v a1 a2 a3 a4 a5 a6
      have hEv := (env_EM u1).fr a3 cW_e (by decide)
      have hr0 := bz_i a2
      generalize (L x1 40).2.2 = g at hs a5 a6 hr0
      have e0 : (T (i + 1)).1 = (L x1 40).1 := by rw [hs]
      have e1 : (T (i + 1)).2.1 = (T i).2.1 + (if g 0 = 0 then (if fieldP (env u1) g = -9 then 0 else 1) else 0) := by rw [hs]
      have e2 : (T (i + 1)).2.2 = (T i).2.2 + (if g 0 = 0 then costP (env u1) g else 40) := by rw [hs]
      have last : ∀ fi a : Int32, (fi = -9 ∨ ∃ j, fi = nI j ∧ j < 8) → x2 + a = (T (i + 1)).2.1 → x3 + costF (env u1) fi (g 8) (g 5) = (T (i + 1)).2.2 → Ok (gX11_lots_172 (fun a b c d e => j (a, b, c, d, e)) (nI n) w (L x1 40).1 x3 (nI i) fi a x2 v) (fun q => q.1 = (if w = 0 then (T n).2.1 else (T n).2.2) ∧ Sm u1 q.2) := by
        intro fi a hfi b1 b2
        unfold gX11_lots_172
        rw [letv_eq, a6, mcostF hEv a5 hfi, Option.bind_some, letv_eq, letv_eq, nI_s (by omega)]
        exact hj ((L x1 40).1, x2 + a, x3 + costF (env u1) fi (g 8) (g 5), nI (i + 1), v) ⟨rfl, e0.symm, b1, b2, a3, a4⟩
      unfold gX11_lots_144 gX11_lots_158
      refine ok_if (fun c => ?_) (fun c => ?_)
      · rw [if_neg (hr0.mp c)] at e1 e2
        rw [if_pos (by decide)]
        exact last (-9) 0 (Or.inl rfl) (by rw [e1, k2]) (by rw [e2, k3, costF_9])
      · have c0 : g 0 = 0 := Decidable.not_not.mp (fun h => c (hr0.mpr h))
        rw [if_pos c0] at e1 e2
        rw [mfield hEv hB a5, Option.bind_some]
        rcases fieldP_r hB g with h | ⟨q, h, hq, _⟩
        · rw [h, if_pos rfl] at e1
          rw [h, if_pos (by decide)]
          exact last (-9) 0 (Or.inl rfl) (by rw [e1, k2]) (by rw [e2, k3]; unfold costP; rw [h])
        · rw [h, if_neg (nI_9 hq)] at e1
          rw [h, if_neg (nI_pos (by omega))]
          exact last (nI q) 1 (Or.inr ⟨q, rfl, hq⟩) (by rw [e1, k2]) (by rw [e2, k3]; unfold costP; rw [h])
    refine loopS (fun m (s : Int32 × Int32 × Int32 × Mm) => gX11_lots_63_L (fun a b c d e => j (a, b, c, d, e)) (nI n) w x2 x3 (nI i) m s.1 s.2.1 s.2.2.1 s.2.2.2) (fun jj s => gX11_lots_63_Ls (fun a b c d e => j (a, b, c, d, e)) (nI n) w x2 x3 (nI i) (fun a b c d => jj (a, b, c, d)) s.1 s.2.1 s.2.2.1 s.2.2.2) (fun _ _ => rfl) _
      (fun m s => s.2.2.1 = nI m ∧ s.1 = (L x1 m).1 ∧ s.2.1 = (L x1 m).2.1 ∧ Fr cW lW u1 s.2.2.2 ∧ TH s.2.2.2 (flt u1) ∧ MF s.2.2.2 (L x1 m).2.2 ∧ (0 < m → s.2.2.2 74 21 = (L x1 m).2.2 8)) 40 ?_ ?_ 40 0 FU (x1, 0, 0, y) rfl (by decide) ⟨rfl, by rw [(hL x1).1], by rw [(hL x1).1], ky, yT, by rw [(hL x1).1]; exact y2, fun h => absurd h (Nat.lt_irrefl 0)⟩
    · rintro m ⟨p1, p2, p3, p⟩ jj hm ⟨h0, r1, r2, r3, r4, r5, r6⟩ hjj
      change p3 = nI m at h0
      subst h0
      change p1 = _ at r1
      change p2 = _ at r2
      change Fr cW lW u1 p at r3
      change TH p _ at r4
      change MF p _ at r5
      change 0 < m → p 74 21 = _ at r6
      show Ok (gX11_lots_63_Ls (fun a b c d e => j (a, b, c, d, e)) (nI n) w x2 x3 (nI i) (fun a b c d => jj (a, b, c, d)) p1 p2 (nI m) p) _
      unfold gX11_lots_63_Ls
      have hq := (hL x1).2 m
      have hVm := hL.vf (flt_VF hR1) x1 m
      rw [show (40 : Int32) = nI 40 from rfl, if_pos (by rw [lt_nn (by omega) (by omega)]; exact hm)]
      by_cases c : p2 = 0
      · rw [lotU_y (by rw [← r2]; exact c), ← r1] at hq
        rw [if_pos c, letv_eq, letv_eq, show p1 * 1103515245 + 12345 = nxZ p1 from rfl, (lotT_e (nxZ p1)).1, show p 74 6 = (L x1 m).2.2 4 from r5.1 4 (by decide)]
        have step : ∀ t : Nat, t = ablN (lotT (nxZ p1)) (L x1 m).2.2 → Ok (gX11_lots_121 (fun a b c d e => j (a, b, c, d, e)) (fun a b c d => jj (a, b, c, d)) (nI n) w (nxZ p1) x2 x3 (nI i) (nI m) (nI t) p) (fun q => q.1 = (if w = 0 then (T n).2.1 else (T n).2.2) ∧ Sm u1 q.2) := by
          intro t ht
          unfold gX11_lots_121 gX11_lots_136
          rw [ok_bind]
          refine (mstepW r3 r5 hVm (by rw [ht]; exact ablN_3 (lotT_e _).2 _)).mono ?_
          rintro q ⟨q0, q1, q2, q3⟩
          rw [ht] at q2 q3
          rw [show q 74 2 = _ from q2.1 0 (by decide)]
          refine ok_if (fun c2 => ?_) (fun c2 => ?_)
          · rw [letv_eq, nI_s (by omega)]
            exact hjj (nxZ p1, 1, nI (m + 1), q) ⟨rfl, by rw [hq], by rw [hq]; exact (bz_t c2).symm, q1, r4.keep q0, by rw [hq]; exact q2, fun _ => by rw [hq]; exact q3⟩
          · rw [letv_eq, nI_s (by omega)]
            exact hjj (nxZ p1, 0, nI (m + 1), q) ⟨rfl, by rw [hq], by rw [hq]; exact (bz_f c2).symm, q1, r4.keep q0, by rw [hq]; exact q2, fun _ => by rw [hq]; exact q3⟩
        have hlt := (lotT_e (nxZ p1)).2
        unfold gX11_lots_119
        refine ok_if (fun c1 => ?_) (fun c1 => step _ ?_)
        · have c1' := (nI_one (by omega)).mp c1
          refine ok_if (fun c2 => step 0 ?_) (fun c2 => step _ ?_)
          · unfold ablN
            rw [if_pos c1', if_neg ((gas_z hVm).mp c2)]
          · unfold ablN
            rw [c1', if_pos rfl, if_pos (Decidable.not_not.mp (fun h => c2 ((gas_z hVm).mpr h)))]
        · unfold ablN
          rw [if_neg (fun h => c1 ((nI_one (by omega)).mpr h))]
      · rw [if_neg c]
        have hm0 : 0 < m := by
          rcases Nat.eq_zero_or_pos m with h | h
          · rw [h, (hL x1).1] at r2
            exact absurd r2 c
          · exact h
        have e := hL.stop (z := x1) (n := m) (by rw [← r2]; exact c) (40 - m)
        rw [show m + (40 - m) = 40 by omega] at e
        obtain ⟨m', rfl⟩ : ∃ m', m = m' + 1 := ⟨m - 1, by omega⟩
        have hfl := hL.fl x1 m'
        rw [← e] at r1 r2 r5 r6 hfl
        rw [r1]
        exact fin p2 p r2 (r2.trans hfl) r3 r4 r5 (r6 hm0)
    · rintro ⟨p1, p2, p3, p⟩ jj ⟨h0, r1, r2, r3, r4, r5, r6⟩
      change p3 = nI 40 at h0
      subst h0
      change p1 = _ at r1
      change p2 = _ at r2
      show Ok (gX11_lots_63_Ls (fun a b c d e => j (a, b, c, d, e)) (nI n) w x2 x3 (nI i) (fun a b c d => jj (a, b, c, d)) p1 p2 (nI 40) p) _
      unfold gX11_lots_63_Ls
      rw [if_neg (by decide), r1]
      exact fin p2 p r2 (r2.trans (hL.fl x1 39)) r3 r4 r5 (r6 (by decide))
  · rintro ⟨x1, x2, x3, x4, x⟩ j ⟨h0, k1, k2, k3, k4, k5⟩
    change x4 = nI n at h0
    subst h0
    change x2 = _ at k2
    change x3 = _ at k3
    change Fr cW lW u1 x at k4
    change TH x _ at k5
    show Ok (gX11_lots_47_Ls (nI n) w (fun a b c d e => j (a, b, c, d, e)) x1 x2 x3 (nI n) x) _
    unfold gX11_lots_47_Ls
    rw [if_neg (by rw [lt_nn (by omega) (by omega)]; omega), ok_bind]
    refine (again_ok k5).mono ?_
    rintro y ⟨y1, y2⟩
    have sm := Sm_W (k4.tr (y1.W (by decide))) y2
    rw [k2, k3]
    by_cases w0 : w = 0
    · rw [if_pos w0, if_pos w0]; exact ok_some.mpr ⟨rfl, sm⟩
    rw [if_neg w0, if_neg w0]
    exact ok_some.mpr ⟨rfl, sm⟩
theorem c_lots (n z w : Int32) (u : Mm) (hR : R u) : Both (gX10_lots n z w u) (gX11_lots n z w) := by
  by_cases h1 : n.toInt < 1
  · refine Both_ref (k := 4) (r := -4) hR ?_ ?_
    · simp only [gX10_lots, gX10_lots_b, lt_t (a := n) (b := 1) h1, ↓reduceIte, rC4, bI_some]
    · unfold gX11_lots gX11_lots_b
      rw [letv_eq, wrongN, i1, i20, if_pos h1, Option.bind_some, wb_n (by decide), Option.bind_some, if_pos (by decide), rM4]
      rfl
  have n1 := lt_f (a := n) (b := 1) h1
  by_cases h2 : 20 < n.toInt
  · refine Both_ref (k := 6) (r := -6) hR ?_ ?_
    · simp only [gX10_lots, gX10_lots_b, n1, lt_t (a := 20) (b := n) h2, ↓reduceIte, rC6, bI_some]
    · unfold gX11_lots gX11_lots_b
      rw [letv_eq, wrongN, i1, i20, if_neg h1, if_pos h2, Option.bind_some, wb_n (by decide), Option.bind_some, if_pos (by decide), rM6]
      rfl
  have n20 := lt_f (a := 20) (b := n) h2
  have hw0 : gX11_wrongNumber n 1 20 = some 0 := by rw [wrongN, i1, i20, if_neg h1, if_neg h2]
  by_cases h3 : 0 ≤ w.toInt ∧ w.toInt ≤ (1 : Int32).toInt
  · obtain ⟨m, rfl, hm⟩ := kp_ex (k := n) (N := 20) (by omega) (by omega)
    obtain ⟨L, hL⟩ : ∃ L, LotP (env u) (flt u) L := ⟨fun z => lotS (env u) (flt u) z, fun z => ⟨rfl, fun _ => rfl⟩⟩
    obtain ⟨T, hT⟩ : ∃ T : Nat → Int32 × Int32 × Int32, T 0 = (z, 0, 0) ∧ ∀ k, T (k + 1) = ltsU (env u) L (T k) := ⟨ltsS (env u) L z, rfl, fun _ => rfl⟩
    refine Both_of (r := if w = 0 then (T m).2.1 else (T m).2.2) hR (lots_C hR n1 n20 hm (lt_f (a := w) (b := 0) (by rw [i0]; omega)) (lt_f (a := 1) (b := w) (by omega)) hL hT) (fun u1 hR1 e1 e2 _ h74 => ?_)
    rw [← e1, ← e2] at hL
    rw [← e1] at hT
    exact lots_M hR1 hw0 hm (wb_t h3) hL hT
  · refine Both_ref (k := 2) (r := -2) hR ?_ ?_
    · by_cases h0 : w.toInt < 0
      · simp only [gX10_lots, gX10_lots_b, gX10_lots_34, n1, n20, lt_t (a := w) (b := 0) h0, rC2, bI_some, ↓reduceIte]
      · simp only [gX10_lots, gX10_lots_b, gX10_lots_34, n1, n20, lt_f (a := w) (b := 0) h0, lt_t (a := 1) (b := w) (by omega), rC2, bI_some, ↓reduceIte]
    · unfold gX11_lots gX11_lots_b
      rw [letv_eq, hw0, Option.bind_some, wb_f h3, Option.bind_some, if_pos (by decide), rM2]
      rfl
