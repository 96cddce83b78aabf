/-! Calls: out. -/
/-- a memory that holds but a heat and a number of people -/
def um (h p : Int32) : Mm := fun c i => if c = 14 then (if i = 3 then h else p) else if i = 5 then h else p
theorem outC : ∀ (n : Nat) (v : Int32) (u u' : Mm), u' 14 3 = u 14 3 → u' 14 5 = u 14 5 → gX2_peopleWhoCanLeave_2_L 14 u n v = gX2_peopleWhoCanLeave_2_L 14 u' n v := by
  intro n
  induction n with
  | zero => intro v u u' _ _; rfl
  | succ n ih =>
    intro v u u' h1 h2
    show gX2_peopleWhoCanLeave_2_Ls 14 u (gX2_peopleWhoCanLeave_2_L 14 u n) v = gX2_peopleWhoCanLeave_2_Ls 14 u' (gX2_peopleWhoCanLeave_2_L 14 u' n) v
    unfold gX2_peopleWhoCanLeave_2_Ls gX2_balance gX2_balance_b
    rw [h1, h2]
    simp only [letv_eq]
    rw [ih (v + 1) u u' h1 h2]
theorem outM : ∀ (n : Nat) (a b : Int32) (u u' : Mm), u' 74 5 = u 74 5 → u' 74 7 = u 74 7 → gX11_out_19_L n a b u = (gX11_out_19_L n a b u').map (fun q => (q.1, u)) := by
  intro n
  induction n with
  | zero => intro a b u u' _ _; rfl
  | succ n ih =>
    intro a b u u' h1 h2
    show gX11_out_19_Ls (gX11_out_19_L n) a b u = (gX11_out_19_Ls (gX11_out_19_L n) a b u').map (fun q => (q.1, u))
    unfold gX11_out_19_Ls gX11_out_53
    rw [h1, h2]
    simp only [letv_eq]
    rw [ih b (b + 1) u u' h1 h2, ih a (b + 1) u u' h1 h2]
    split
    · rfl
    · split <;> rfl
theorem outF : ∀ h : Nat, h < 61 → ∀ p : Nat, p < 7 → p = 0 ∨ ∃ r ∈ [0, 1, 2, 3, 4, 5, 6], gX2_peopleWhoCanLeave_2_L 14 (um (nI h) (nI p)) 9 0 = some r ∧ (gX11_out_19_L 9 0 1 (um (nI h) (nI p))).map (fun q => q.1) = some r := by decide +kernel
theorem outU (k : Nat) : ∀ (n : Nat) (v : Int32) (u : Mm) (r : Int32), gX2_peopleWhoCanLeave_2_L 14 u n v = some r → gX2_peopleWhoCanLeave_2_L 14 u (n + k) v = some r := by
  intro n
  induction n with
  | zero => intro v u r h; cases h
  | succ n ih =>
    intro v u r h
    rw [show n + 1 + k = (n + k) + 1 by omega]
    change gX2_peopleWhoCanLeave_2_Ls 14 u (gX2_peopleWhoCanLeave_2_L 14 u n) v = some r at h
    show gX2_peopleWhoCanLeave_2_Ls 14 u (gX2_peopleWhoCanLeave_2_L 14 u (n + k)) v = some r
    unfold gX2_peopleWhoCanLeave_2_Ls gX2_balance gX2_balance_b at h ⊢
    simp only [Option.bind_some, letv_eq] at h ⊢
    by_cases c1 : v < u 14 5
    · rw [if_pos c1] at h ⊢
      by_cases c2 : 0 < (u 14 3 - (12 + 2 * u 14 5) + 2 * (v + 1)) / 4
      · rw [if_pos c2] at h ⊢; exact h
      · rw [if_neg c2] at h ⊢; exact ih _ u r h
    · rw [if_neg c1] at h ⊢; exact h
theorem outV (k : Nat) : ∀ (n : Nat) (a b : Int32) (u : Mm) (r : Int32), (gX11_out_19_L n a b u).map (fun q => q.1) = some r → (gX11_out_19_L (n + k) a b u).map (fun q => q.1) = some r := by
  intro n
  induction n with
  | zero => intro a b u r h; cases h
  | succ n ih =>
    intro a b u r h
    rw [show n + 1 + k = (n + k) + 1 by omega]
    change (gX11_out_19_Ls (gX11_out_19_L n) a b u).map _ = some r at h
    show (gX11_out_19_Ls (gX11_out_19_L (n + k)) a b u).map _ = some r
    unfold gX11_out_19_Ls gX11_out_53 at h ⊢
    simp only [letv_eq] at h ⊢
    by_cases c1 : u 74 7 < b
    · rw [if_pos c1] at h ⊢; exact h
    · rw [if_neg c1] at h ⊢
      by_cases c2 : 0 < (u 74 5 - 12 - 2 * (u 74 7 - b)) / 4
      · rw [if_pos c2] at h ⊢; exact ih _ _ u r h
      · rw [if_neg c2] at h ⊢; exact ih _ _ u r h
theorem c_out (u : Mm) (hR : R u) : BothP (gX10_out u) (gX11_out u) := by
  obtain ⟨⟨e0, -, -, e3, -, e5, -, -⟩, hF, -⟩ := hR.wc
  by_cases h : 0 < u 14 0
  · refine ⟨-9, thr u, ?_, ?_, (Sm_thrown u 0).keep hR⟩
    · unfold gX10_out gX10_out_b
      rw [if_pos h]
    · unfold gX11_out gX11_out_b
      rw [letv_eq, if_pos (show 0 < stm u 74 19 0 74 2 by rw [stm_s (by decide), ← e0]; exact h)]
  · obtain ⟨hh, ehh, _, ih⟩ := nI_ex hF.2.2.2.1.1
    obtain ⟨pp, epp, _, ip⟩ := nI_ex (show 0 ≤ (u 14 5).toInt by have := hF.2.2.2.2.2.1.1; omega)
    have b1 := hF.2.2.2.1.2
    have b2 := hF.2.2.2.2.2.1
    rcases outF hh (by omega) pp (by omega) with h0 | ⟨r, -, q1, q2⟩
    · omega
    · refine ⟨r, thr u, ?_, ?_, (Sm_thrown u 0).keep hR⟩
      · unfold gX10_out gX10_out_b gX2_peopleWhoCanLeave gX2_peopleWhoCanLeave_b
        rw [if_neg h, outC FU 0 u (um (nI hh) (nI pp)) (by rw [ehh]; rfl) (by rw [epp]; rfl), show FU = 9 + 3991 from rfl, outU 3991 9 0 _ r q1, Option.bind_some]
      · unfold gX11_out gX11_out_b
        rw [letv_eq, if_neg (show ¬ 0 < stm u 74 19 0 74 2 by rw [stm_s (by decide), ← e0]; exact h), outM FU 0 1 _ (um (nI hh) (nI pp)) (by show nI hh = u 74 5; rw [← e3, ehh]) (by show nI pp = u 74 7; rw [← e5, epp]), show FU = 9 + 3991 from rfl]
        have := outV 3991 9 0 1 _ r q2
        cases hx : gX11_out_19_L (9 + 3991) 0 1 (um (nI hh) (nI pp)) with
        | none => rw [hx] at this; cases this
        | some q =>
          rw [hx] at this
          show some (q.1, thr u) = some (r, thr u)
          rw [show q.1 = r from Option.some.inj this]
