/-! The reference's driveFrom. -/
def tD (x : Nat) : Nat := if x < 1000000 then x else 99999
def RdM (u : Mm) (W : Nat → Nat → Nat) : Prop := ∀ a b, a < 8 → b < 8 → u 83 (8 * a + b) = nI (W a b)
/-- what row 96 holds in round r, behind the roads ahead of (c, b) -/
def BFI (W D : Nat → Nat → Nat) (a r c b : Nat) (u : Mm) : Prop := ∃ B : Nat → Nat, (∀ x, x < 8 → u 96 x = nI (B x)) ∧ (∀ x, x < 8 → tD (D a x) ≤ B x ∧ B x ≤ 99999) ∧ (∀ x, x < 8 → D a x < 1000000 → cnt (D a) (D a x) 8 ≤ r → B x ≤ D a x) ∧ ∀ c' x, c' < 8 → x < 8 → (c' < c ∨ (c' = c ∧ x < b)) → 0 < W c' x → D a c' < 1000000 → cnt (D a) (D a c') 8 ≤ r → B x ≤ D a c' + W c' x
theorem BFI_round {W D : Nat → Nat → Nat} {a r : Nat} {u : Mm} (hD : DP W D) (ha : a < 8) (h : BFI W D a r 8 0 u) : BFI W D a (r + 1) 0 0 u := by
  obtain ⟨B, h1, h2, h3, h4⟩ := h
  refine ⟨B, h1, h2, fun x hx hf hr => ?_, fun c' x _ _ h => absurd h (by omega)⟩
  by_cases e : a = x
  · subst e
    exact h3 a hx hf (by
      rw [hD.1 a hx]
      have : ∀ n, cnt (D a) 0 n = 0 := by
        intro n
        induction n with
        | zero => rfl
        | succ n ih =>
          show cnt (D a) 0 n + (if D a n < 0 then 1 else 0) = 0
          rw [ih, if_neg (Nat.not_lt_zero _)]
      rw [this]
      exact Nat.zero_le _)
  · obtain ⟨c, hc, hw, hd⟩ := hD.2.2.2.2 a x ha hx e hf
    have hl := cnt_lt (f := D a) (x := D a c) (y := D a x) (c := c) (by omega) (Nat.le_refl _) 8 hc
    have := h4 c x hc hx (Or.inl hc) hw (by omega) (by omega)
    omega
theorem BFI_step {W D : Nat → Nat → Nat} {a r c b : Nat} {u u' : Mm} {B : Nat → Nat} {nb : Nat} (hD : DP W D) (hW : ∀ a b, a < 8 → b < 8 → W a b ≤ 99) (ha : a < 8) (hc : c < 8) (hb : b < 8)
    (h1 : ∀ x, x < 8 → u 96 x = nI (B x)) (h2 : ∀ x, x < 8 → tD (D a x) ≤ B x ∧ B x ≤ 99999) (h3 : ∀ x, x < 8 → D a x < 1000000 → cnt (D a) (D a x) 8 ≤ r → B x ≤ D a x) (h4 : ∀ c' x, c' < 8 → x < 8 → (c' < c ∨ (c' = c ∧ x < b)) → 0 < W c' x → D a c' < 1000000 → cnt (D a) (D a c') 8 ≤ r → B x ≤ D a c' + W c' x)
    (hn : nb = if 0 < W c b ∧ B c + W c b < B b then B c + W c b else B b) (h5 : ∀ x, u' 96 x = if x = b then nI nb else u 96 x) : BFI W D a r c (b + 1) u' := by
  have hle : nb ≤ B b := by rw [hn]; split <;> omega
  have hlow : tD (D a b) ≤ nb := by
    rw [hn]
    split
    · rename_i hh
      have e1 := (h2 c hc).1
      have e2 := hD.2.2.1 a b c ha hb hc
      have e3 := hD.2.2.2.1 c b hc hb hh.1
      have e4 : D a b < 1000000 → D a b ≤ 693 := hD.le hW ha hb
      unfold tD at e1 ⊢
      split at e1
      · split <;> omega
      · split <;> omega
    · exact (h2 b hb).1
  refine ⟨fun x => if x = b then nb else B x, fun x hx => ?_, fun x hx => ?_, fun x hx hf hr => ?_, fun c' x hc' hx hcx hw hf hr => ?_⟩
  · rw [h5]
    by_cases e : x = b
    · simp only [if_pos e]
    · simp only [if_neg e]; exact h1 x hx
  · by_cases e : x = b
    · simp only [if_pos e]
      rw [e]
      exact ⟨hlow, by have := (h2 b hb).2; omega⟩
    · simp only [if_neg e]; exact h2 x hx
  · by_cases e : x = b
    · simp only [if_pos e]
      subst e
      have := h3 x hx hf hr
      omega
    · simp only [if_neg e]; exact h3 x hx hf hr
  · by_cases e : x = b
    · simp only [if_pos e]
      subst e
      by_cases e2 : c' = c
      · subst e2
        have := h3 c' hc' hf hr
        rw [hn]
        split
        · omega
        · rename_i hh
          omega
      · have := h4 c' x hc' hx (by omega) hw hf hr
        omega
    · simp only [if_neg e]
      exact h4 c' x hc' hx (by omega) hw hf hr
theorem drive_ok {u : Mm} {W D : Nat → Nat → Nat} {a : Nat} (hR : RdM u W) (hW : ∀ a b, a < 8 → b < 8 → W a b ≤ 99) (hD : DP W D) (ha : a < 8) : Ok (gX11_driveFrom (nI a) u) (fun u' => (∀ c, c ≠ 96 → u' c = u c) ∧ ∀ b, b < 8 → u' 96 b = nI (tD (D a b))) := by
  unfold gX11_driveFrom gX11_driveFrom_b
  have rounds : ∀ v : Mm, (∀ c, c ≠ 96 → v c = u c) → BFI W D a 0 0 0 v → Ok (gX11_driveFrom_34_L FU 0 v) (fun u' => (∀ c, c ≠ 96 → u' c = u c) ∧ ∀ b, b < 8 → u' 96 b = nI (tD (D a b))) := by
    intro v hv hI
    refine loopS (fun n (s : Int32 × Mm) => gX11_driveFrom_34_L n s.1 s.2) (fun g s => gX11_driveFrom_34_Ls (fun a b => g (a, b)) s.1 s.2) (fun _ _ => rfl) _
      (fun r s => s.1 = nI r ∧ (∀ c, c ≠ 96 → s.2 c = u c) ∧ BFI W D a r 0 0 s.2) 8 ?_ ?_ 8 0 FU (0, v) rfl (by decide) ⟨rfl, hv, hI⟩
    · rintro r ⟨x1, x⟩ g hr ⟨h0, h1, h2⟩ hg
      change x1 = nI r at h0
      subst h0
      show Ok (gX11_driveFrom_34_Ls (fun a b => g (a, b)) (nI r) x) _
      unfold gX11_driveFrom_34_Ls
      rw [if_pos (show nI r < 8 by rw [show (8 : Int32) = nI 8 from rfl, lt_nn (by omega) (by omega)]; exact hr)]
      refine loopS (fun n (s : Int32 × Mm) => gX11_driveFrom_42_L (fun a b => g (a, b)) (nI r) n s.1 s.2) (fun g2 s => gX11_driveFrom_42_Ls (fun a b => g (a, b)) (nI r) (fun a b => g2 (a, b)) s.1 s.2) (fun _ _ => rfl) _
        (fun c s => s.1 = nI c ∧ (∀ c, c ≠ 96 → s.2 c = u c) ∧ BFI W D a r c 0 s.2) 8 ?_ ?_ 8 0 FU (0, x) rfl (by decide) ⟨rfl, h1, h2⟩
      · rintro c ⟨y1, y⟩ g2 hc ⟨h0, k1, k2⟩ hg2
        change y1 = nI c at h0
        subst h0
        show Ok (gX11_driveFrom_42_Ls (fun a b => g (a, b)) (nI r) (fun a b => g2 (a, b)) (nI c) y) _
        unfold gX11_driveFrom_42_Ls
        rw [if_pos (show nI c < 8 by rw [show (8 : Int32) = nI 8 from rfl, lt_nn (by omega) (by omega)]; exact hc)]
        refine loopS (fun n (s : Int32 × Mm) => gX11_driveFrom_51_L (fun a b => g (a, b)) (fun a b => g2 (a, b)) (nI r) (nI c) n s.1 s.2) (fun g3 s => gX11_driveFrom_51_Ls (fun a b => g (a, b)) (fun a b => g2 (a, b)) (nI r) (nI c) (fun a b => g3 (a, b)) s.1 s.2) (fun _ _ => rfl) _
          (fun b s => s.1 = nI b ∧ (∀ c, c ≠ 96 → s.2 c = u c) ∧ BFI W D a r c b s.2) 8 ?_ ?_ 8 0 FU (0, y) rfl (by decide) ⟨rfl, k1, k2⟩
        · rintro b ⟨z1, z⟩ g3 hb ⟨h0, r1, B, p1, p2, p3, p4⟩ hg3
          change z1 = nI b at h0
          subst h0
          change ∀ c, c ≠ 96 → z c = u c at r1
          change ∀ x, x < 8 → z 96 x = nI (B x) at p1
          show Ok (gX11_driveFrom_51_Ls (fun a b => g (a, b)) (fun a b => g2 (a, b)) (nI r) (nI c) (fun a b => g3 (a, b)) (nI b) z) _
          unfold gX11_driveFrom_51_Ls
          have w1 := hW c b hc hb
          have w2 := (p2 c hc).2
          have w3 := (p2 b hb).2
          rw [if_pos (show nI b < 8 by rw [show (8 : Int32) = nI 8 from rfl, lt_nn (by omega) (by omega)]; exact hb), ixB c hc b hb, gd_t (ix_nI hc (by decide)), gd_t (ix64 hc hb), letv_eq, gd_t (ix64 hc hb), ixn64 hc hb, ixn_nI (by omega), ixn_nI (by omega), r1 83 (by decide), hR c b hc hb, p1 c hc, p1 b hb, nI_a (by omega)]
          have fin : ∀ nb : Nat, nb = (if 0 < W c b ∧ B c + W c b < B b then B c + W c b else B b) → Ok (gX11_driveFrom_124 (fun a b => g (a, b)) (fun a b => g2 (a, b)) (fun a b => g3 (a, b)) (nI r) (nI c) (nI b) (nI nb) (nI b) z) (fun u' => (∀ c, c ≠ 96 → u' c = u c) ∧ ∀ b, b < 8 → u' 96 b = nI (tD (D a b))) := by
            intro nb hnb
            unfold gX11_driveFrom_124
            rw [gd_t (ix_nI hb (by decide)), ixn_nI (by omega), letv_eq, letv_eq, nI_s (by omega)]
            refine hg3 (nI (b + 1), stm z 96 b (nI nb)) ⟨rfl, fun c hc => (stm_c hc).trans (r1 c hc), BFI_step hD hW ha hc hb p1 p2 p3 p4 hnb (fun x => ?_)⟩
            show stm z 96 b (nI nb) 96 x = _
            by_cases e : x = b
            · rw [e, stm_r, if_pos rfl]
            · rw [stm_s e, if_neg e]
          have q0 : 0 < nI (W c b) ↔ 0 < W c b := by rw [t_lt, i0, t_nI (by omega)]; omega
          have q1 : nI (B c + W c b) < nI (B b) ↔ B c + W c b < B b := by rw [lt_nn (by omega) (by omega)]
          have no : ¬ (0 < W c b ∧ B c + W c b < B b) → Ok (gX11_driveFrom_117 (fun a b => g (a, b)) (fun a b => g2 (a, b)) (fun a b => g3 (a, b)) (nI r) (nI c) (nI b) (nI b) z) (fun u' => (∀ c, c ≠ 96 → u' c = u c) ∧ ∀ b, b < 8 → u' 96 b = nI (tD (D a b))) := by
            intro h
            unfold gX11_driveFrom_117
            rw [gd_t (ix_nI hb (by decide)), ixn_nI (by omega), p1 b hb]
            exact fin (B b) (by rw [if_neg h])
          refine ok_if (fun c1 => ?_) (fun c1 => no (fun h => c1 (q0.mpr h.1)))
          rw [gd_t (ix_nI hb (by decide))]
          refine ok_if (fun c2 => fin _ ?_) (fun c2 => no (fun h => c2 (q1.mpr h.2)))
          rw [if_pos ⟨q0.mp c1, q1.mp c2⟩]
        · rintro ⟨z1, z⟩ g3 ⟨h0, r1, B, p1, p2, p3, p4⟩
          change z1 = nI 8 at h0
          subst h0
          show Ok (gX11_driveFrom_51_Ls (fun a b => g (a, b)) (fun a b => g2 (a, b)) (nI r) (nI c) (fun a b => g3 (a, b)) (nI 8) z) _
          unfold gX11_driveFrom_51_Ls
          rw [if_neg (by decide), letv_eq, nI_s (by omega)]
          exact hg2 (nI (c + 1), z) ⟨rfl, r1, B, p1, p2, p3, fun c' x h1 h2 h3 => p4 c' x h1 h2 (by omega)⟩
      · rintro ⟨y1, y⟩ g2 ⟨h0, k1, k2⟩
        change y1 = nI 8 at h0
        subst h0
        show Ok (gX11_driveFrom_42_Ls (fun a b => g (a, b)) (nI r) (fun a b => g2 (a, b)) (nI 8) y) _
        unfold gX11_driveFrom_42_Ls
        rw [if_neg (by decide), letv_eq, nI_s (by omega)]
        exact hg (nI (r + 1), y) ⟨rfl, k1, BFI_round hD ha k2⟩
    · rintro ⟨x1, x⟩ g ⟨h0, h1, B, p1, p2, p3, p4⟩
      change x1 = nI 8 at h0
      subst h0
      change ∀ b, b < 8 → x 96 b = nI (B b) at p1
      show Ok (gX11_driveFrom_34_Ls (fun a b => g (a, b)) (nI 8) x) _
      unfold gX11_driveFrom_34_Ls
      rw [if_neg (by decide)]
      refine ok_some.mpr ⟨h1, fun b hb => ?_⟩
      rw [p1 b hb]
      obtain ⟨l1, l2⟩ := p2 b hb
      congr 1
      unfold tD at l1 ⊢
      by_cases e : D a b < 1000000
      · rw [if_pos e] at l1 ⊢
        have := p3 b hb e (by have := cnt_7 (f := D a) hb; omega)
        omega
      · rw [if_neg e] at l1 ⊢
        omega
  refine loopS (fun n (s : Int32 × Mm) => gX11_driveFrom_2_L (nI a) n s.1 s.2) (fun g s => gX11_driveFrom_2_Ls (nI a) (fun a b => g (a, b)) s.1 s.2) (fun _ _ => rfl) _
    (fun n s => s.1 = nI n ∧ (∀ c, c ≠ 96 → s.2 c = u c) ∧ ∀ x, x < n → s.2 96 x = nI (if x = a then 0 else 99999)) 8 ?_ ?_ 8 0 FU (0, u) rfl (by decide) ⟨rfl, fun _ _ => rfl, fun x h => absurd h (Nat.not_lt_zero _)⟩
  · rintro n ⟨x1, x⟩ g hn ⟨h0, h1, h2⟩ hg
    change x1 = nI n at h0
    subst h0
    change ∀ y, y < n → x 96 y = _ at h2
    show Ok (gX11_driveFrom_2_Ls (nI a) (fun a b => g (a, b)) (nI n) x) _
    unfold gX11_driveFrom_2_Ls
    rw [if_pos (show nI n < 8 by rw [show (8 : Int32) = nI 8 from rfl, lt_nn (by omega) (by omega)]; exact hn)]
    have fin : ∀ s : Int32, s = nI (if n = a then 0 else 99999) → Ok (gX11_driveFrom_25 (fun a b => g (a, b)) (nI a) (nI n) s (nI n) x) (fun u' => (∀ c, c ≠ 96 → u' c = u c) ∧ ∀ b, b < 8 → u' 96 b = nI (tD (D a b))) := by
      intro s hs
      unfold gX11_driveFrom_25
      rw [gd_t (ix_nI hn (by decide)), ixn_nI (by omega), letv_eq, letv_eq, nI_s (by omega)]
      refine hg (nI (n + 1), stm x 96 n s) ⟨rfl, fun c hc => (stm_c hc).trans (h1 c hc), fun y hy => ?_⟩
      show stm x 96 n s 96 y = _
      by_cases e : y = n
      · rw [e, stm_r, hs]
      · rw [stm_s e]; exact h2 y (by omega)
    refine ok_if (fun c => fin _ ?_) (fun c => fin _ ?_)
    · rw [if_pos (nI_inj8 n hn a ha c)]; rfl
    · rw [if_neg (fun e => c (by rw [e]))]; rfl
  · rintro ⟨x1, x⟩ g ⟨h0, h1, h2⟩
    change x1 = nI 8 at h0
    subst h0
    change ∀ y, y < 8 → x 96 y = _ at h2
    show Ok (gX11_driveFrom_2_Ls (nI a) (fun a b => g (a, b)) (nI 8) x) _
    unfold gX11_driveFrom_2_Ls
    rw [if_neg (by decide)]
    refine rounds x h1 ⟨fun y => if y = a then 0 else 99999, h2, fun y hy => ?_, fun y hy hf hr => ?_, fun c' y _ _ h => absurd h (by omega)⟩
    · show tD (D a y) ≤ (if y = a then 0 else 99999) ∧ (if y = a then 0 else 99999) ≤ 99999
      by_cases e : y = a
      · subst e
        rw [if_pos rfl, hD.1 y hy]
        exact ⟨by decide, by decide⟩
      · rw [if_neg e]
        refine ⟨?_, Nat.le_refl _⟩
        unfold tD
        split
        · rename_i hf
          have := hD.le hW ha hy hf
          omega
        · exact Nat.le_refl _
    · show (if y = a then 0 else 99999) ≤ D a y
      by_cases e : y = a
      · rw [if_pos e]; exact Nat.zero_le _
      · obtain ⟨c, hc, hw, hd⟩ := hD.2.2.2.2 a y ha hy (fun h => e h.symm) hf
        have := cnt_pos (f := D a) (x := D a y) (c := c) (n := 8) hc (by omega)
        omega
