/-! COSTS are never below 0; calls: crew, another. -/
theorem rise_r : ∀ h : Nat, h < 61 → ∀ p : Nat, p < 7 → (riseS (nI h) (nI p) + 6).toInt.toNat < 20 ∧ riseS (nI h) (nI p) = nI (riseS (nI h) (nI p) + 6).toInt.toNat - 6 := by decide +kernel
theorem pace_r : ∀ h : Nat, h < 40 → ∀ b : Nat, b < 20 → 0 ≤ (pacS (nI h) (hgtS (nI h) (nI b - 6)) (nI b - 6)).toInt ∧ (pacS (nI h) (hgtS (nI h) (nI b - 6)) (nI b - 6)).toInt ≤ 6 := by decide +kernel
theorem nI_upto {a : Int32} {N : Nat} (h0 : 0 ≤ a.toInt) (h1 : a.toInt ≤ (N : Int)) : ∃ n, a = nI n ∧ n ≤ N := by
  obtain ⟨n, e, h2, h3⟩ := nI_ex (a := a) h0
  exact ⟨n, e, by omega⟩
theorem stp_pace {sd ah f : Nat → Int32} {t : Nat} (hV : VF f) : 0 ≤ (stp sd ah t f 8).toInt ∧ (stp sd ah t f 8).toInt ≤ 6 := by
  obtain ⟨hF, -⟩ := hV
  show 0 ≤ (pacS (f 0) (hgtS (f 0) (stR f t)) (stR f t)).toInt ∧ (pacS (f 0) (hgtS (f 0) (stR f t)) (stR f t)).toInt ≤ 6
  have hb := clamp_bd (v := (f 3 - 1) + stW f t) (m := 60) (by decide)
  have hs : heatS (f 3) (stW f t) = clampI ((f 3 - 1) + stW f t) 60 := rfl
  obtain ⟨q, eq, hq⟩ := nI_upto (a := heatS (f 3) (stW f t)) (N := 60) (by rw [hs]; exact hb.1) (by rw [hs]; exact hb.2)
  obtain ⟨p, ep, hp⟩ := nI_upto (a := f 5) (N := 6) (by have := hF.2.2.2.2.2.1.1; omega) hF.2.2.2.2.2.1.2
  obtain ⟨h, eh, hh⟩ := nI_upto (a := f 0) (N := 39) hF.1.1 hF.1.2
  obtain ⟨r1, r2⟩ := rise_r q (by omega) p (by omega)
  have er : stR f t = nI (riseS (nI q) (nI p) + 6).toInt.toNat - 6 := by
    unfold stR
    rw [eq, ep]
    exact r2
  rw [er, eh]
  exact pace_r h (by omega) _ r1
theorem prun_pace {E : Mm} {f : Nat → Int32} {k p : Nat} (hV : VF f) (f8 : f 8 = 0) : ∀ n, 0 ≤ (prun E k p n f 8).toInt ∧ (prun E k p n f 8).toInt ≤ 6 := by
  intro n
  induction n with
  | zero => show 0 ≤ (f 8).toInt ∧ (f 8).toInt ≤ 6; rw [f8]; decide
  | succ n ih =>
    by_cases c : 0 < prun E k p n f 0
    · rw [prun_y c]; exact stp_pace (VF_prun hV n)
    · rw [prun_n c]; exact ih
theorem cost_1 : ∀ a : Nat, a < 10 → ∀ b : Nat, b < 7 → 0 ≤ ((if 3 < nI b then 2 * nI b else nI b) + nI a + 5).toInt ∧ 0 ≤ ((if 3 < nI b then 2 * nI b else nI b) + 3 * nI a).toInt ∧ 0 ≤ ((if 3 < nI b then 2 * nI b else nI b) + nI a).toInt ∧ 0 ≤ ((if 3 < nI b then 2 * nI b else nI b) + 3 * nI a + 20).toInt ∧ 0 ≤ (((if 3 < nI b then 2 * nI b else nI b) + nI a + 5) / 2).toInt ∧ 0 ≤ (if 3 < nI b then 2 * nI b else nI b).toInt := by decide +kernel
theorem costS_0 {kd fg sz p dr : Int32} (hf : 0 ≤ fg.toInt ∧ fg.toInt ≤ 9) (hp : 0 ≤ p.toInt ∧ p.toInt ≤ 6) : 0 ≤ (costS kd fg sz p dr).toInt := by
  obtain ⟨a, rfl, ha⟩ := nI_upto (N := 9) hf.1 hf.2
  obtain ⟨b, rfl, hb⟩ := nI_upto (N := 6) hp.1 hp.2
  obtain ⟨h1, h2, h3, h4, h5, h6⟩ := cost_1 a (by omega) b (by omega)
  unfold costS
  simp only []
  by_cases c1 : kd = 1
  · rw [if_pos c1]; exact h1
  rw [if_neg c1]
  by_cases c2 : kd = 2
  · rw [if_pos c2]; exact h2
  rw [if_neg c2]
  by_cases c3 : kd = 3
  · rw [if_pos c3]; exact h3
  rw [if_neg c3]
  by_cases c4 : kd = 4
  · rw [if_pos c4]
    by_cases c6 : 10 * sz < dr
    · rw [if_pos c6]; exact h4
    · rw [if_neg c6]; exact h2
  rw [if_neg c4]
  by_cases c5 : kd = 5
  · rw [if_pos c5]; exact h5
  rw [if_neg c5]; exact h6
theorem costP_0 {E : Mm} {g : Nat → Int32} (hB : EB E) (hp : 0 ≤ (g 8).toInt ∧ (g 8).toInt ≤ 6) : 0 ≤ (costP E g).toInt := by
  unfold costP
  rcases fieldP_r hB g with h | ⟨j, h, h8, hj⟩
  · rw [h, costF_9]; decide
  · rw [h, costF_i h8]
    exact costS_0 (hB.2 j hj).2.2.2 hp
theorem BS.inv2 {E : Mm} {f : Nat → Int32} {T : Nat → Int32 × Int32 × Int32} (h : BS E f T) (hB : EB E) (hV : VF f) (f8 : f 8 = 0) : ∀ n, n ≤ 186 → ((T n).1 = -9 ∧ (T n).2.1 = -9) ∨ (0 ≤ (T n).1.toInt ∧ 0 ≤ (T n).2.1.toInt) := by
  intro n
  induction n with
  | zero => intro _; rw [h.1]; exact Or.inl ⟨rfl, rfl⟩
  | succ n ih =>
    intro hn
    have hc := cdN_0 (n := n) (by omega)
    have hp := costP_0 hB (prun_pace (E := E) (k := n / 6) (p := n % 6) hV f8 60)
    rw [h.2 n]
    change 0 ≤ (costP E (pl E (n / 6) (n % 6) f)).toInt at hp
    generalize pl E (n / 6) (n % 6) f = G at hp
    have q1 : (bestU E (cdN n) G (T n)).1 = if G 0 = 0 ∧ ((T n).1 < 0 ∨ costP E G < (T n).2.1) then cdN n else (T n).1 := rfl
    have q2 : (bestU E (cdN n) G (T n)).2.1 = if G 0 = 0 ∧ ((T n).1 < 0 ∨ costP E G < (T n).2.1) then costP E G else (T n).2.1 := rfl
    rw [q1, q2]
    by_cases c : G 0 = 0 ∧ ((T n).1 < 0 ∨ costP E G < (T n).2.1)
    · rw [if_pos c, if_pos c]; exact Or.inr ⟨hc, hp⟩
    · rw [if_neg c, if_neg c]; exact ih (by omega)
/-! Another number in a slot of the flight. -/
def fS (s : Nat) (x : Int32) (f : Nat → Int32) : Nat → Int32 := fun i => if i = s then x else f i
theorem fS_8 {s : Nat} {x : Int32} {f : Nat → Int32} (hs : s < 8) (f8 : f 8 = 0) : fS s x f 8 = 0 := by
  unfold fS
  rw [if_neg (by omega)]
  exact f8
theorem fS_w {s : Nat} {x : Int32} {f : Nat → Int32} (hs : s < 8) : (fun j => fS s x f (9 + j)) = (fun j => f (9 + j)) := by
  funext j
  unfold fS
  rw [if_neg (by omega)]
theorem fS_self (s : Nat) (f : Nat → Int32) : fS s (f s) f = f := by
  funext i
  unfold fS
  by_cases h : i = s
  · rw [if_pos h, h]
  · rw [if_neg h]
theorem fS_CF {s : Nat} {x y : Int32} {a f : Nat → Int32} (hs : s < 6) (h : CF a (fS s x f)) : CF (fun j => if j = s then y else a j) (fS s y f) := by
  obtain ⟨h1, h2⟩ := h
  refine ⟨fun i hi => ?_, ?_⟩
  · show (if i = s then y else a i) = (if i = s then y else f i)
    by_cases c : i = s
    · rw [if_pos c, if_pos c]
    · rw [if_neg c, if_neg c]
      have := h1 i hi
      unfold fS at this
      rw [if_neg c] at this
      exact this
  · rw [fS_w (by omega)] at h2 ⊢
    show UW (if 9 = s then y else a 9) (if 6 = s then y else a 6) _
    rw [if_neg (by omega), if_neg (by omega)]
    exact h2
theorem fS_MF {s : Nat} {x y : Int32} {u : Mm} {f : Nat → Int32} (hs : s < 8) (h : MF u (fS s x f)) : MF (stm u 74 (s + 2) y) (fS s y f) := by
  obtain ⟨h1, h2⟩ := h
  refine ⟨fun i hi => ?_, fun j hj => ?_⟩
  · unfold fS
    by_cases c : i = s
    · rw [if_pos c, c, stm_r]
    · rw [if_neg c, stm_s (by omega)]
      have := h1 i hi
      unfold fS at this
      rw [if_neg c] at this
      exact this
  · rw [stm_c (by decide), h2 j hj]
    unfold fS
    rw [if_neg (by omega), if_neg (by omega)]
theorem z8_fS {s : Nat} {x : Int32} {f : Nat → Int32} (hs : s < 8) (f8 : f 8 = 0) : z8 (fS s x f) = fS s x f := z8_id (fS_8 hs f8)
theorem fS_VF5 {f : Nat → Int32} {x : Int32} (h : VF f) (hx : 1 ≤ x.toInt ∧ x.toInt ≤ 6) : VF (fS 5 x f) := by
  obtain ⟨⟨f0, f1, f2, f3, f4, f5, f6⟩, a, hU⟩ := h
  refine ⟨⟨f0, f1, f2, f3, f4, hx, f6⟩, a, ?_⟩
  rw [fS_w (by omega)]
  exact hU
theorem fS_VF4 {f : Nat → Int32} {x : Int32} (h : VF f) (hx : 0 ≤ x.toInt ∧ x.toInt ≤ 60) : VF (fS 4 x f) := by
  obtain ⟨⟨f0, f1, f2, f3, f4, f5, f6⟩, a, hU⟩ := h
  refine ⟨⟨f0, f1, f2, f3, hx, f5, f6⟩, a, ?_⟩
  rw [fS_w (by omega)]
  exact hU
theorem EC_keep67 {E u : Mm} {v : Int32} {i : Nat} (h : EC E u) : EC E (stm u 67 i v) := h.keep (ls := [67]) (l := []) (Fk.one (c := 67) (fun k hk => stm_c hk) (by decide) (by decide)) (fun c a b e => by simp only [List.mem_cons, List.not_mem_nil, or_false] at e; omega)
theorem takePeople_ok {E u : Mm} {f : Nat → Int32} {x y : Int32} (hE : EC E u) (hC : CF (u 67) (fS 5 x f)) (f8 : f 8 = 0) : Ok (gX3_takePeople y u) (fun u' => Fk lM [4] u u' ∧ MIk E (fS 5 y f) 0 u') := by
  unfold gX3_takePeople gX3_takePeople_b
  rw [letv_eq, ok_bind]
  have h7 : CF (stm u 67 5 y 67) (fS 5 y f) := by rw [stm_eq]; exact fS_CF (by decide) hC
  refine (rewind_MI (EC_keep67 hE) h7).mono ?_
  rintro u' ⟨g1, g2⟩
  rw [z8_fS (by decide) f8] at g2
  exact ok_some.mpr ⟨(Fk.one (c := 67) (fun k hk => stm_c hk) (by decide) (by decide)).tr (g1.mono (by decide) (by decide)), g2⟩
theorem takeGas_ok {E u : Mm} {f : Nat → Int32} {x y : Int32} (hE : EC E u) (hC : CF (u 67) (fS 4 x f)) (f8 : f 8 = 0) : Ok (gX3_takeGas y u) (fun u' => Fk lM [4] u u' ∧ MIk E (fS 4 y f) 0 u') := by
  unfold gX3_takeGas gX3_takeGas_b
  rw [letv_eq, ok_bind]
  have h7 : CF (stm u 67 4 y 67) (fS 4 y f) := by rw [stm_eq]; exact fS_CF (by decide) hC
  refine (rewind_MI (EC_keep67 hE) h7).mono ?_
  rintro u' ⟨g1, g2⟩
  rw [z8_fS (by decide) f8] at g2
  exact ok_some.mpr ⟨(Fk.one (c := 67) (fun k hk => stm_c hk) (by decide) (by decide)).tr (g1.mono (by decide) (by decide)), g2⟩
def crwS (c : Nat → Int32) : Nat → Int32 × Int32
  | 0 => (-9, -9)
  | n + 1 => if c (n + 1) = -9 then crwS c n else if (crwS c n).1 = -9 ∨ c (n + 1) < (crwS c n).2 then (nI (n + 1), c (n + 1)) else crwS c n
theorem crwS_i (c : Nat → Int32) : ∀ n, n < 2147483647 → (crwS c n).1 = -9 ∨ 0 ≤ (crwS c n).1.toInt := by
  intro n
  induction n with
  | zero => intro _; exact Or.inl rfl
  | succ n ih =>
    intro hn
    by_cases c1 : c (n + 1) = -9
    · rw [show crwS c (n + 1) = crwS c n from if_pos c1]; exact ih (by omega)
    · by_cases c2 : (crwS c n).1 = -9 ∨ c (n + 1) < (crwS c n).2
      · rw [show crwS c (n + 1) = (nI (n + 1), c (n + 1)) from (if_neg c1).trans (if_pos c2)]
        exact Or.inr (by show 0 ≤ (nI (n + 1)).toInt; rw [t_nI (by omega)]; omega)
      · rw [show crwS c (n + 1) = crwS c n from (if_neg c1).trans (if_neg c2)]; exact ih (by omega)
theorem q_bd {q : Nat} (h1 : 1 ≤ q) (h6 : q ≤ 6) : 1 ≤ (nI q).toInt ∧ (nI q).toInt ≤ 6 := by rw [t_nI (by omega)]; omega
theorem c_crew (w : Int32) (u : Mm) (hR : R u) : Both (gX10_crew w u) (gX11_crew w) := by
  by_cases h3 : 0 ≤ w.toInt ∧ w.toInt ≤ 1
  · obtain ⟨S, hS⟩ : ∃ S : Nat → Nat → Int32 × Int32 × Int32, ∀ q, BS (env u) (fS 5 (nI q) (flt u)) (S q) := ⟨fun q => bestS (env u) (fS 5 (nI q) (flt u)), fun q => BS_ok _ _⟩
    obtain ⟨c, hc⟩ : ∃ c : Nat → Int32, ∀ q, c q = (S q 186).2.1 := ⟨_, fun _ => rfl⟩
    refine Both_of (r := if w = 0 then (crwS c 6).1 else (crwS c 6).2) hR ?_ (fun u1 hR1 e1 e2 _ h74 => ?_)
    · unfold gX10_crew gX10_crew_b
      rw [if_neg (by rw [t_lt, i0]; omega), if_neg (by rw [t_lt, i1]; omega), ok_bind]
      refine (cbegin hR).mono ?_
      rintro v1 ⟨f1, m1⟩
      refine loopS (fun n (s : Int32 × Int32 × Int32 × Mm) => gX10_crew_36_L w n s.1 s.2.1 s.2.2.1 s.2.2.2) (fun g s => gX10_crew_36_Ls w (fun x y z t => g (x, y, z, t)) s.1 s.2.1 s.2.2.1 s.2.2.2) (fun _ _ => rfl) _
        (fun n s => s.2.2.1 = nI n ∧ 1 ≤ n ∧ s.1 = (crwS c (n - 1)).1 ∧ s.2.1 = (crwS c (n - 1)).2 ∧ Fk lM lB u s.2.2.2 ∧ EC (env u) s.2.2.2 ∧ ∃ x, CF (s.2.2.2 67) (fS 5 x (flt u))) 7 ?_ ?_ 6 1 FU (-9, -9, 1, v1) rfl (by decide) ⟨rfl, Nat.le_refl _, rfl, rfl, f1.mono (fun _ h => h) (by decide), m1.1, flt u 5, by rw [fS_self]; exact m1.2.1⟩
      · rintro j ⟨x1, x2, x3, x⟩ g hj ⟨h0, hj1, q1, q2, q3, q4, xx, q5⟩ hg
        change x3 = nI j at h0
        subst h0
        change x1 = _ at q1
        change x2 = _ at q2
        show Ok (gX10_crew_36_Ls w (fun x y z t => g (x, y, z, t)) x1 x2 (nI j) x) _
        unfold gX10_crew_36_Ls
        rw [show (6 : Int32) = nI 6 from rfl, if_neg (by rw [lt_nn (by omega) (by omega)]; omega), ok_bind]
        refine (takePeople_ok q4 q5 (flt_8 u)).mono ?_
        rintro y ⟨y1, y2⟩
        rw [ok_bind]
        have hVj := fS_VF5 (flt_VF hR) (q_bd (q := j) (by omega) (by omega))
        refine (cseekB (hS j) ⟨0, by decide, y2⟩ hVj (fS_8 (by decide) (flt_8 u)) (env_EB hR)).mono ?_
        rintro z ⟨z1, ⟨mz, _, z2⟩, z3, z4⟩
        rw [← hc] at z4
        have t3 : Fk lM lB u z := (Fk.tr q3 (y1.mono (fun _ h => h) (by decide))).tr (z1.mono (by decide) (fun _ h => h))
        obtain ⟨j', rfl⟩ : ∃ j', j = j' + 1 := ⟨j - 1, by omega⟩
        rw [Nat.add_sub_cancel] at q1 q2
        have post : ∀ a b, a = (crwS c (j' + 1)).1 → b = (crwS c (j' + 1)).2 → Ok (g (a, b, nI (j' + 1) + 1, z)) (fun q => q.1 = (if w = 0 then (crwS c 6).1 else (crwS c 6).2) ∧ Sm u q.2) := by
          intro a b ha hb
          rw [nI_s (by omega)]
          exact hg (a, b, nI (j' + 1 + 1), z) ⟨rfl, by omega, by rw [Nat.add_sub_cancel]; exact ha, by rw [Nat.add_sub_cancel]; exact hb, t3, z2.1, _, z2.2.1⟩
        have hu : crwS c (j' + 1) = if c (j' + 1) = -9 then crwS c j' else if (crwS c j').1 = -9 ∨ c (j' + 1) < (crwS c j').2 then (nI (j' + 1), c (j' + 1)) else crwS c j' := rfl
        rw [z4]
        refine ok_if (fun c1 => ?_) (fun c1 => ?_)
        · rw [if_pos c1] at hu
          exact post _ _ (by rw [hu]; exact q1) (by rw [hu]; exact q2)
        · rw [if_neg c1] at hu
          have yes : ((crwS c j').1 = -9 ∨ c (j' + 1) < (crwS c j').2) → Ok (gX10_crew_88 (fun x y z t => g (x, y, z, t)) w (nI (j' + 1)) z) (fun q => q.1 = (if w = 0 then (crwS c 6).1 else (crwS c 6).2) ∧ Sm u q.2) := by
            intro hh
            rw [if_pos hh] at hu
            unfold gX10_crew_88
            rw [letv_eq, z4]
            exact post _ _ (by rw [hu]) (by rw [hu])
          refine ok_if (fun c2 => yes (Or.inl (by rw [← q1]; exact c2))) (fun c2 => ?_)
          refine ok_if (fun c3 => yes (Or.inr (by rw [← q2]; exact c3))) (fun c3 => ?_)
          rw [if_neg (by rintro (h | h); exact c2 (by rw [q1]; exact h); exact c3 (by rw [q2]; exact h))] at hu
          exact post _ _ (by rw [hu]; exact q1) (by rw [hu]; exact q2)
      · rintro ⟨x1, x2, x3, x⟩ g ⟨h0, _, q1, q2, q3, q4⟩
        change x3 = nI 7 at h0
        subst h0
        change x1 = _ at q1
        change x2 = _ at q2
        show Ok (gX10_crew_36_Ls w (fun x y z t => g (x, y, z, t)) x1 x2 (nI 7) x) _
        unfold gX10_crew_36_Ls
        rw [if_pos (by decide), q1, q2]
        by_cases w0 : w = 0
        · rw [if_pos w0, if_pos w0]; exact ok_some.mpr ⟨rfl, Sm_K q3⟩
        rw [if_neg w0, if_neg w0]
        exact ok_some.mpr ⟨rfl, Sm_K q3⟩
    · have g3 := in_t (x := w) (a := 0) (b := 1) h3
      rw [← e1, ← e2] at hS
      unfold gX11_crew gX11_crew_b
      rw [letv_eq, g3, Option.bind_some, if_neg (by decide), letv_eq]
      have m0 : MF (thr u1) (flt u1) := (flt_MF u1).st (by decide)
      have e7 : stm u1 74 19 0 74 7 = flt u1 5 := m0.1 5 (by decide)
      rw [e7]
      refine loopS (fun n (s : Int32 × Int32 × Int32 × Mm) => gX11_crew_37_L w (flt u1 5) n s.1 s.2.1 s.2.2.1 s.2.2.2) (fun g s => gX11_crew_37_Ls w (flt u1 5) (fun x y z t => g (x, y, z, t)) s.1 s.2.1 s.2.2.1 s.2.2.2) (fun _ _ => rfl) _
        (fun n s => s.2.2.1 = nI n ∧ 1 ≤ n ∧ s.1 = (crwS c (n - 1)).1 ∧ s.2.1 = (crwS c (n - 1)).2 ∧ Fr cW lW u1 s.2.2.2 ∧ ∃ x, MF s.2.2.2 (fS 5 x (flt u1))) 7 ?_ ?_ 6 1 FU (-9, -9, 1, thr u1) rfl (by decide) ⟨rfl, Nat.le_refl _, rfl, rfl, Fr.st (by decide), flt u1 5, by rw [fS_self]; exact m0⟩
      · rintro j ⟨x1, x2, x3, x⟩ g hj ⟨h0, hj1, q1, q2, q3, xx, q5⟩ hg
        change x3 = nI j at h0
        subst h0
        change x1 = _ at q1
        change x2 = _ at q2
        change Fr cW lW u1 x at q3
        show Ok (gX11_crew_37_Ls w (flt u1 5) (fun x y z t => g (x, y, z, t)) x1 x2 (nI j) x) _
        unfold gX11_crew_37_Ls
        rw [show (6 : Int32) = nI 6 from rfl, if_neg (by rw [lt_nn (by omega) (by omega)]; omega), letv_eq, ok_bind]
        refine (open_fr (fS_MF (s := 5) (y := nI j) (by decide) q5)).mono ?_
        rintro y ⟨y1, y2, y3⟩
        have hy : Fr cW lW u1 y := (q3.tr (Fr.st (by decide))).tr (y1.mono (by decide) (by decide))
        rw [ok_bind]
        have hVj := fS_VF5 (flt_VF hR1) (q_bd (q := j) (by omega) (by omega))
        refine (mseekB (hS j) y2 ((env_EM u1).fr hy cW_e (by decide)) hVj (fS_8 (by decide) (flt_8 u1)) (env_EB hR1)).mono ?_
        rintro z ⟨⟨z1, z3, z4, z5⟩, z2⟩
        have hi2 := (hS j).inv2 (env_EB hR1) hVj (fS_8 (by decide) (flt_8 u1)) 186 (Nat.le_refl _)
        rw [← hc] at z4 hi2
        have t3 : Fr cW lW u1 z := hy.tr (z1.W (by decide))
        obtain ⟨j', rfl⟩ : ∃ j', j = j' + 1 := ⟨j - 1, by omega⟩
        rw [Nat.add_sub_cancel] at q1 q2
        have hi := crwS_i c j' (by omega)
        have post : ∀ a b, a = (crwS c (j' + 1)).1 → b = (crwS c (j' + 1)).2 → Ok (g (a, b, nI (j' + 1) + 1, z)) (fun q => q.1 = (if w = 0 then (crwS c 6).1 else (crwS c 6).2) ∧ Sm u1 q.2) := by
          intro a b ha hb
          rw [nI_s (by omega)]
          exact hg (a, b, nI (j' + 1 + 1), z) ⟨rfl, by omega, by rw [Nat.add_sub_cancel]; exact ha, by rw [Nat.add_sub_cancel]; exact hb, t3, _, z2⟩
        have hu : crwS c (j' + 1) = if c (j' + 1) = -9 then crwS c j' else if (crwS c j').1 = -9 ∨ c (j' + 1) < (crwS c j').2 then (nI (j' + 1), c (j' + 1)) else crwS c j' := rfl
        have ng : c (j' + 1) < 0 ↔ c (j' + 1) = -9 := neg_9 (by rcases hi2 with h | h; exact Or.inl h.2; exact Or.inr h.2)
        have no : ((crwS c (j' + 1)) = crwS c j') → Ok (gX11_crew_82 (fun x y z t => g (x, y, z, t)) w (flt u1 5) x1 x2 (nI (j' + 1)) z) (fun q => q.1 = (if w = 0 then (crwS c 6).1 else (crwS c 6).2) ∧ Sm u1 q.2) := by
          intro hh
          unfold gX11_crew_82 gX11_crew_83 gX11_crew_96 gX11_crew_111
          rw [if_pos rfl, if_pos rfl, letv_eq]
          exact post _ _ (by rw [hh]; exact q1) (by rw [hh]; exact q2)
        have yes : ¬ c (j' + 1) = -9 → ((crwS c j').1 = -9 ∨ c (j' + 1) < (crwS c j').2) → Ok (gX11_crew_78 (fun x y z t => g (x, y, z, t)) w (flt u1 5) x1 x2 (nI (j' + 1)) z) (fun q => q.1 = (if w = 0 then (crwS c 6).1 else (crwS c 6).2) ∧ Sm u1 q.2) := by
          intro h9 hh
          rw [if_neg h9, if_pos hh] at hu
          unfold gX11_crew_78 gX11_crew_83 gX11_crew_96 gX11_crew_111
          rw [if_neg (by decide), if_neg (by decide), letv_eq, z4]
          exact post _ _ (by rw [hu]) (by rw [hu])
        rw [z4]
        refine ok_if (fun c1 => no (by rw [hu, if_pos (ng.mp c1)])) (fun c1 => ?_)
        have c1' : ¬ c (j' + 1) = -9 := fun h => c1 (ng.mpr h)
        refine ok_if (fun c2 => yes c1' (Or.inl ((neg_9 hi).mp (by rw [← q1]; exact c2)))) (fun c2 => ?_)
        refine ok_if (fun c3 => yes c1' (Or.inr (by rw [← q2]; exact c3))) (fun c3 => no ?_)
        rw [hu, if_neg c1', if_neg]
        rintro (h | h)
        · exact c2 (by rw [q1]; exact (neg_9 hi).mpr h)
        · exact c3 (by rw [q2]; exact h)
      · rintro ⟨x1, x2, x3, x⟩ g ⟨h0, _, q1, q2, q3, xx, q4⟩
        change x3 = nI 7 at h0
        subst h0
        change x1 = _ at q1
        change x2 = _ at q2
        change Fr cW lW u1 x at q3
        show Ok (gX11_crew_37_Ls w (flt u1 5) (fun x y z t => g (x, y, z, t)) x1 x2 (nI 7) x) _
        unfold gX11_crew_37_Ls
        rw [if_pos (by decide), letv_eq, q1, q2]
        have sm : Sm u1 (stm x 74 7 (flt u1 5)) := by
          have h := fS_MF (s := 5) (y := flt u1 5) (by decide) q4
          rw [fS_self] at h
          exact Sm_W (q3.tr (Fr.st (by decide))) h
        by_cases w0 : w = 0
        · rw [if_pos w0, if_pos w0]; exact ok_some.mpr ⟨rfl, sm⟩
        rw [if_neg w0, if_neg w0]
        exact ok_some.mpr ⟨rfl, sm⟩
  · have g3 := in_f (x := w) (a := 0) (b := 1) h3
    refine Both_ref (k := 2) (r := -2) hR ?_ ?_
    · by_cases h0 : w.toInt < 0
      · simp only [gX10_crew, gX10_crew_b, gX10_crew_9, lt_t (a := w) (b := 0) h0, rC2, bI_some, ↓reduceIte]
      · simp only [gX10_crew, gX10_crew_b, gX10_crew_9, lt_f (a := w) (b := 0) h0, lt_t (a := 1) (b := w) (by rw [i1]; omega), rC2, bI_some, ↓reduceIte]
    · simp only [gX11_crew, gX11_crew_b, letv_eq, g3, Option.bind_some, ↓reduceIte, rM2, bI_some]
