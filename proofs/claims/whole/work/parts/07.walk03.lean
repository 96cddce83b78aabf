set_option maxRecDepth 20000 in
set_option maxHeartbeats 4000000 in
theorem pX10_whichLag_4s {Γ : GX} (C : Cx Γ RX10 cX10_whichLag 4) (M : Mx Γ (some .int)) (L : xn Γ = 3) {j4 : Int32 → Int32 → Mm → Option (Int32 × Mm)} (hj4 : ∀ (v1 : Int32) (v2 : Int32) (u : Mm), Gp Γ (QM Γ cvI) 4 [(0, .ref ((xE Γ).1 1)), (1, .int v1), (2, .int v2)] [] u (j4 v1 v2 u)) (v1 : Int32) (v2 : Int32) (u : Mm) : Gp Γ (QM Γ cvI) 4 [(0, .ref ((xE Γ).1 1)), (1, .int v1), (2, .int v2)] [] u (gX10_whichLag_4_Ls j4 v1 v2 u) := by
  unfold gX10_whichLag_4_Ls
  refine g_iload_n C dX10_whichLag_4 rfl 2 rfl ?_
  refine g_iconst (v := 5) C dX10_whichLag_5 rfl (by decide) ?_
  refine g_icmp_gt 56 C dX10_whichLag_6 rfl (by decide) (fun c1 => ?_) (fun c1 => ?_)
  · refine g_iload_n C dX10_whichLag_56 rfl 1 rfl ?_
    exact g_iret C M dX10_whichLag_57 rfl rfl
  · refine g_aload_n C dX10_whichLag_9 rfl 0 rfl ?_
    refine g_getR (k2 := 57) C dX10_whichLag_10 rfl rfl fi_10_8 ⟨by decide, by decide, rfl⟩ fl_X10_52 ?_
    refine g_aload_n C dX10_whichLag_13 rfl 0 rfl ?_
    refine g_getR (k2 := 2) C dX10_whichLag_14 rfl rfl fi_10_0 ⟨by decide, by decide, rfl⟩ fl_X10_10 ?_
    refine g_callV [.ref ((xE Γ).1 2)] C dX10_whichLag_17 rfl (tX3_begin (xl Γ) (xE Γ) rfl u) cf_X3_begin rfl rfl ml_X10_188 rfl (by decide) (Nat.le_of_ble_eq_true rfl) rfl (fun u2 => ?_)
    refine g_aload_n C dX10_whichLag_20 rfl 0 rfl ?_
    refine g_getR (k2 := 57) C dX10_whichLag_21 rfl rfl fi_10_8 ⟨by decide, by decide, rfl⟩ fl_X10_52 ?_
    refine g_iload_n C dX10_whichLag_24 rfl 2 rfl ?_
    refine g_callV [.int v2] C dX10_whichLag_25 rfl (tX3_takeLag (xl Γ) (xE Γ) v2 u2) cf_X3_takeLag rfl rfl ml_X10_350 rfl (by decide) (Nat.le_of_ble_eq_true rfl) rfl (fun u3 => ?_)
    refine g_aload_n C dX10_whichLag_28 rfl 0 rfl ?_
    refine g_getR (k2 := 57) C dX10_whichLag_29 rfl rfl fi_10_8 ⟨by decide, by decide, rfl⟩ fl_X10_52 ?_
    refine g_aload_n C dX10_whichLag_32 rfl 0 rfl ?_
    refine g_getR (k2 := 54) C dX10_whichLag_33 rfl rfl fi_10_6 ⟨by decide, by decide, rfl⟩ fl_X10_41 ?_
    refine g_callI [.ref ((xE Γ).1 54)] C dX10_whichLag_36 rfl (tX3_firstHeightUnlike (xl Γ) (xE Γ) rfl u3) cf_X3_firstHeightUnlike rfl rfl ml_X10_335 rfl (by decide) (Nat.le_of_ble_eq_true rfl) rfl (fun r5 u4 => ?_)
    refine g_bipush (v := (-9)) C dX10_whichLag_39 rfl (by decide) ?_
    refine g_icmp_ne 50 C dX10_whichLag_41 rfl (by decide) (fun c6 => ?_) (fun c6 => ?_)
    · refine g_iincL (fun v2_7 => [(2, .int v2_7), (0, .ref ((xE Γ).1 1)), (1, .int v1)]) C dX10_whichLag_50 rfl L (by decide) (k := 2) rfl (iinc_1 _) (fun _ => rfl) (fun v2_7 => ?_)
      refine g_goto 4 C dX10_whichLag_53 rfl (by decide) ?_
      refine g_sub (ls' := [(0, .ref ((xE Γ).1 1)), (1, .int v1), (2, .int v2_7)]) [1, 2, 0] rfl ?_
      exact hj4 v1 v2_7 u4
    · refine g_iload_n C dX10_whichLag_44 rfl 1 rfl ?_
      refine g_iconst (v := 1) C dX10_whichLag_45 rfl (by decide) ?_
      refine g_iload_n C dX10_whichLag_46 rfl 2 rfl ?_
      refine g_ishl C dX10_whichLag_47 rfl ?_
      refine g_ior C dX10_whichLag_48 rfl ?_
      refine g_lets (fun v1_8 => ?_)
      refine g_istore_n (ls' := [(1, .int v1_8), (0, .ref ((xE Γ).1 1)), (2, .int v2)]) C dX10_whichLag_49 rfl L (by decide) rfl ?_
      refine g_iincL (fun v2_9 => [(2, .int v2_9), (1, .int v1_8), (0, .ref ((xE Γ).1 1))]) C dX10_whichLag_50 rfl L (by decide) (k := 2) rfl (iinc_1 _) (fun _ => rfl) (fun v2_9 => ?_)
      refine g_goto 4 C dX10_whichLag_53 rfl (by decide) ?_
      refine g_sub (ls' := [(0, .ref ((xE Γ).1 1)), (1, .int v1_8), (2, .int v2_9)]) [2, 1, 0] rfl ?_
      exact hj4 v1_8 v2_9 u4
set_option maxRecDepth 20000 in
set_option maxHeartbeats 4000000 in
theorem pX10_whichLag_4 {Γ : GX} (C : Cx Γ RX10 cX10_whichLag 4) (M : Mx Γ (some .int)) (L : xn Γ = 3) : ∀ (n : Nat) (v1 : Int32) (v2 : Int32) (u : Mm), Gp Γ (QM Γ cvI) 4 [(0, .ref ((xE Γ).1 1)), (1, .int v1), (2, .int v2)] [] u (gX10_whichLag_4_L n v1 v2 u) := by
  intro n
  induction n with
  | zero => intro _ _ _; exact g_none
  | succ n ih => intro v1 v2 u; exact pX10_whichLag_4s C M L ih v1 v2 u

set_option maxRecDepth 20000 in
set_option maxHeartbeats 4000000 in
theorem pX10_whichLag_0 {Γ : GX} (C : Cx Γ RX10 cX10_whichLag 4) (M : Mx Γ (some .int)) (L : xn Γ = 3) (u : Mm) : Gp Γ (QM Γ cvI) 0 [(0, .ref ((xE Γ).1 1))] [] u (gX10_whichLag_b u) := by
  unfold gX10_whichLag_b
  refine g_iconst (v := 0) C dX10_whichLag_0 rfl (by decide) ?_
  refine g_istore_n (ls' := [(1, .int 0), (0, .ref ((xE Γ).1 1))]) C dX10_whichLag_1 rfl L (by decide) rfl ?_
  refine g_iconst (v := 0) C dX10_whichLag_2 rfl (by decide) ?_
  refine g_istore_n (ls' := [(2, .int 0), (1, .int 0), (0, .ref ((xE Γ).1 1))]) C dX10_whichLag_3 rfl L (by decide) rfl ?_
  refine g_sub (ls' := [(0, .ref ((xE Γ).1 1)), (1, .int 0), (2, .int 0)]) [2, 1, 0] rfl ?_
  exact pX10_whichLag_4 C M L FU 0 0 u
set_option maxRecDepth 20000 in
set_option maxHeartbeats 4000000 in
theorem tX10_whichLag (l : Launch) (E : EE) (u : Mm) : Ct l E yX10_whichLag cX10_whichLag 3 (some .int) 4 [.ref (E.1 1)] u cvI (gX10_whichLag u) :=
  Ct_of (own := RX10) (by decide +kernel) rfl (Nat.le_of_ble_eq_true rfl) (fun p e R s m args below meth c C M => g_sub (ls' := [(0, .ref (E.1 1))]) [0] rfl (pX10_whichLag_0 C M rfl u))
set_option maxRecDepth 20000 in
set_option maxHeartbeats 4000000 in
theorem pX10_windFor_102 {Γ : GX} (C : Cx Γ RX10 cX10_windFor 6) (M : Mx Γ (some .int)) (L : xn Γ = 9) (v1 : Int32) (v2 : Int32) (v3 : Int32) (v4 : Int32) (v6 : Int32) (v8 : Int32) (s0 : Int32) {j58 : Int32 → Int32 → Int32 → Mm → Option (Int32 × Mm)} (hj58 : ∀ (v6 : Int32) (v7 : Int32) (v8 : Int32) (u : Mm), Gp Γ (QM Γ cvI) 58 [(0, .ref ((xE Γ).1 1)), (1, .int v1), (2, .int v2), (3, .int v3), (4, .int v4), (6, .int v6), (7, .int v7), (8, .int v8)] [] u (j58 v6 v7 v8 u)) (u : Mm) : Gp Γ (QM Γ cvI) 102 [(0, .ref ((xE Γ).1 1)), (1, .int v1), (2, .int v2), (3, .int v3), (4, .int v4), (6, .int v6), (8, .int v8)] [.int s0] u (gX10_windFor_102 j58 v1 v2 v3 v4 v6 v8 s0 u) := by
  unfold gX10_windFor_102
  refine g_istore (ls' := [(7, .int s0), (0, .ref ((xE Γ).1 1)), (1, .int v1), (2, .int v2), (3, .int v3), (4, .int v4), (6, .int v6), (8, .int v8)]) C dX10_windFor_102 rfl L (by decide) rfl ?_
  refine g_iincL (fun v6_1 => [(6, .int v6_1), (7, .int s0), (0, .ref ((xE Γ).1 1)), (1, .int v1), (2, .int v2), (3, .int v3), (4, .int v4), (8, .int v8)]) C dX10_windFor_104 rfl L (by decide) (k := 6) rfl (iinc_1 _) (fun _ => rfl) (fun v6_1 => ?_)
  refine g_iincL (fun v8_2 => [(8, .int v8_2), (6, .int v6_1), (7, .int s0), (0, .ref ((xE Γ).1 1)), (1, .int v1), (2, .int v2), (3, .int v3), (4, .int v4)]) C dX10_windFor_107 rfl L (by decide) (k := 7) rfl (iinc_1 _) (fun _ => rfl) (fun v8_2 => ?_)
  refine g_goto 58 C dX10_windFor_110 rfl (by decide) ?_
  refine g_sub (ls' := [(0, .ref ((xE Γ).1 1)), (1, .int v1), (2, .int v2), (3, .int v3), (4, .int v4), (6, .int v6_1), (7, .int s0), (8, .int v8_2)]) [3, 4, 5, 6, 7, 1, 2, 0] rfl ?_
  exact hj58 v6_1 s0 v8_2 u
set_option maxRecDepth 20000 in
set_option maxHeartbeats 4000000 in
theorem pX10_windFor_58s {Γ : GX} (C : Cx Γ RX10 cX10_windFor 6) (M : Mx Γ (some .int)) (L : xn Γ = 9) (v1 : Int32) (v2 : Int32) (v3 : Int32) (v4 : Int32) {j58 : Int32 → Int32 → Int32 → Mm → Option (Int32 × Mm)} (hj58 : ∀ (v6 : Int32) (v7 : Int32) (v8 : Int32) (u : Mm), Gp Γ (QM Γ cvI) 58 [(0, .ref ((xE Γ).1 1)), (1, .int v1), (2, .int v2), (3, .int v3), (4, .int v4), (6, .int v6), (7, .int v7), (8, .int v8)] [] u (j58 v6 v7 v8 u)) (v6 : Int32) (v7 : Int32) (v8 : Int32) (u : Mm) : Gp Γ (QM Γ cvI) 58 [(0, .ref ((xE Γ).1 1)), (1, .int v1), (2, .int v2), (3, .int v3), (4, .int v4), (6, .int v6), (7, .int v7), (8, .int v8)] [] u (gX10_windFor_58_Ls v1 v2 v3 v4 j58 v6 v7 v8 u) := by
  unfold gX10_windFor_58_Ls
  refine g_iload C dX10_windFor_58 rfl 7 rfl ?_
  refine g_bipush (v := 9) C dX10_windFor_60 rfl (by decide) ?_
  refine g_icmp_gt 113 C dX10_windFor_62 rfl (by decide) (fun c1 => ?_) (fun c1 => ?_)
  · refine g_iload C dX10_windFor_113 rfl 4 rfl ?_
    refine g_if_ne 123 C dX10_windFor_115 rfl (by decide) (fun c2 => ?_) (fun c2 => ?_)
    · refine g_iload C dX10_windFor_123 rfl 6 rfl ?_
      exact g_iret C M dX10_windFor_125 rfl rfl
    · refine g_iload C dX10_windFor_118 rfl 5 rfl ?_
      refine g_goto 125 C dX10_windFor_120 rfl (by decide) ?_
      exact g_iret C M dX10_windFor_125 rfl rfl
  · refine g_aload_n C dX10_windFor_65 rfl 0 rfl ?_
    refine g_getR (k2 := 57) C dX10_windFor_66 rfl rfl fi_10_8 ⟨by decide, by decide, rfl⟩ fl_X10_52 ?_
    refine g_iload C dX10_windFor_69 rfl 7 rfl ?_
    refine g_callV [.int v8] C dX10_windFor_71 rfl (tX3_takeSide (xl Γ) (xE Γ) v8 u) cf_X3_takeSide rfl rfl ml_X10_353 rfl (by decide) (Nat.le_of_ble_eq_true rfl) rfl (fun u3 => ?_)
    refine g_aload_n C dX10_windFor_74 rfl 0 rfl ?_
    refine g_getR (k2 := 57) C dX10_windFor_75 rfl rfl fi_10_8 ⟨by decide, by decide, rfl⟩ fl_X10_52 ?_
    refine g_iload_n C dX10_windFor_78 rfl 1 rfl ?_
    refine g_iload_n C dX10_windFor_79 rfl 2 rfl ?_
    refine g_iload_n C dX10_windFor_80 rfl 3 rfl ?_
    refine g_callI [.int v1, .int v2, .int v3] C dX10_windFor_81 rfl (tX3_leadsInto (xl Γ) (xE Γ) v1 v2 v3 u3) cf_X3_leadsInto rfl rfl ml_X10_356 rfl (by decide) (Nat.le_of_ble_eq_true rfl) rfl (fun r5 u4 => ?_)
    refine g_if_eq 107 C dX10_windFor_84 rfl (by decide) (fun c6 => ?_) (fun c6 => ?_)
    · refine g_iincL (fun v8_7 => [(8, .int v8_7), (0, .ref ((xE Γ).1 1)), (1, .int v1), (2, .int v2), (3, .int v3), (4, .int v4), (6, .int v6), (7, .int v7)]) C dX10_windFor_107 rfl L (by decide) (k := 7) rfl (iinc_1 _) (fun _ => rfl) (fun v8_7 => ?_)
      refine g_goto 58 C dX10_windFor_110 rfl (by decide) ?_
      refine g_sub (ls' := [(0, .ref ((xE Γ).1 1)), (1, .int v1), (2, .int v2), (3, .int v3), (4, .int v4), (6, .int v6), (7, .int v7), (8, .int v8_7)]) [1, 2, 3, 4, 5, 6, 7, 0] rfl ?_
      exact hj58 v6 v7 v8_7 u4
    · refine g_iload C dX10_windFor_87 rfl 5 rfl ?_
      refine g_if_ne 100 C dX10_windFor_89 rfl (by decide) (fun c8 => ?_) (fun c8 => ?_)
      · refine g_iload C dX10_windFor_100 rfl 6 rfl ?_
        refine g_sub (ls' := [(0, .ref ((xE Γ).1 1)), (1, .int v1), (2, .int v2), (3, .int v3), (4, .int v4), (6, .int v6), (8, .int v8)]) [0, 1, 2, 3, 4, 5, 7] rfl ?_
        exact pX10_windFor_102 C M L v1 v2 v3 v4 v6 v8 v7 hj58 u4
      · refine g_iload C dX10_windFor_92 rfl 7 rfl ?_
        refine g_bipush (v := 9) C dX10_windFor_94 rfl (by decide) ?_
        refine g_iadd C dX10_windFor_96 rfl ?_
        refine g_goto 102 C dX10_windFor_97 rfl (by decide) ?_
        refine g_sub (ls' := [(0, .ref ((xE Γ).1 1)), (1, .int v1), (2, .int v2), (3, .int v3), (4, .int v4), (6, .int v6), (8, .int v8)]) [0, 1, 2, 3, 4, 5, 7] rfl ?_
        exact pX10_windFor_102 C M L v1 v2 v3 v4 v6 v8 (v8 + 9) hj58 u4
set_option maxRecDepth 20000 in
set_option maxHeartbeats 4000000 in
theorem pX10_windFor_58 {Γ : GX} (C : Cx Γ RX10 cX10_windFor 6) (M : Mx Γ (some .int)) (L : xn Γ = 9) (v1 : Int32) (v2 : Int32) (v3 : Int32) (v4 : Int32) : ∀ (n : Nat) (v6 : Int32) (v7 : Int32) (v8 : Int32) (u : Mm), Gp Γ (QM Γ cvI) 58 [(0, .ref ((xE Γ).1 1)), (1, .int v1), (2, .int v2), (3, .int v3), (4, .int v4), (6, .int v6), (7, .int v7), (8, .int v8)] [] u (gX10_windFor_58_L v1 v2 v3 v4 n v6 v7 v8 u) := by
  intro n
  induction n with
  | zero => intro _ _ _ _; exact g_none
  | succ n ih => intro v6 v7 v8 u; exact pX10_windFor_58s C M L v1 v2 v3 v4 ih v6 v7 v8 u

set_option maxRecDepth 20000 in
set_option maxHeartbeats 4000000 in
theorem pX10_windFor_0 {Γ : GX} (C : Cx Γ RX10 cX10_windFor 6) (M : Mx Γ (some .int)) (L : xn Γ = 9) (v1 : Int32) (v2 : Int32) (v3 : Int32) (v4 : Int32) (u : Mm) : Gp Γ (QM Γ cvI) 0 [(0, .ref ((xE Γ).1 1)), (1, .int v1), (2, .int v2), (3, .int v3), (4, .int v4)] [] u (gX10_windFor_b v1 v2 v3 v4 u) := by
  unfold gX10_windFor_b
  refine g_aload_n C dX10_windFor_0 rfl 0 rfl ?_
  refine g_iload_n C dX10_windFor_1 rfl 1 rfl ?_
  refine g_callP [.int v1] C dX10_windFor_2 rfl (tX10_isField (xl Γ) (xE Γ) v1 u) cf_X10_isField rfl rfl ml_X10_116 rfl (by decide) (Nat.le_of_ble_eq_true rfl) rfl (fun r1 => ?_)
  refine g_if_ne 14 C dX10_windFor_5 rfl (by decide) (fun c2 => ?_) (fun c2 => ?_)
  · refine g_iload_n C dX10_windFor_14 rfl 2 rfl ?_
    refine g_iload_n C dX10_windFor_15 rfl 3 rfl ?_
    refine g_iload C dX10_windFor_16 rfl 4 rfl ?_
    refine g_iconst (v := 1) C dX10_windFor_18 rfl (by decide) ?_
    refine g_callsP [.int v2, .int v3, .int v4, .int 1] C dX10_windFor_19 rfl (tX10_planRefusal (xl Γ) (xE Γ) v2 v3 v4 1 u) cf_X10_planRefusal ml_X10_184 rfl (by decide) (Nat.le_of_ble_eq_true rfl) rfl (fun r3 => ?_)
    refine g_istore (ls' := [(5, .int r3), (0, .ref ((xE Γ).1 1)), (1, .int v1), (2, .int v2), (3, .int v3), (4, .int v4)]) C dX10_windFor_22 rfl L (by decide) rfl ?_
    refine g_iload C dX10_windFor_24 rfl 0 rfl ?_
    refine g_if_eq 36 C dX10_windFor_26 rfl (by decide) (fun c4 => ?_) (fun c4 => ?_)
    · refine g_iconst (v := 0) C dX10_windFor_36 rfl (by decide) ?_
      refine g_istore (ls' := [(6, .int 0), (5, .int r3), (0, .ref ((xE Γ).1 1)), (1, .int v1), (2, .int v2), (3, .int v3), (4, .int v4)]) C dX10_windFor_37 rfl L (by decide) rfl ?_
      refine g_bipush (v := (-9)) C dX10_windFor_39 rfl (by decide) ?_
      refine g_istore (ls' := [(7, .int (-9)), (6, .int 0), (5, .int r3), (0, .ref ((xE Γ).1 1)), (1, .int v1), (2, .int v2), (3, .int v3), (4, .int v4)]) C dX10_windFor_41 rfl L (by decide) rfl ?_
      refine g_aload_n C dX10_windFor_43 rfl 3 rfl ?_
      refine g_getR (k2 := 57) C dX10_windFor_44 rfl rfl fi_10_8 ⟨by decide, by decide, rfl⟩ fl_X10_52 ?_
      refine g_aload_n C dX10_windFor_47 rfl 3 rfl ?_
      refine g_getR (k2 := 2) C dX10_windFor_48 rfl rfl fi_10_0 ⟨by decide, by decide, rfl⟩ fl_X10_10 ?_
      refine g_callV [.ref ((xE Γ).1 2)] C dX10_windFor_51 rfl (tX3_begin (xl Γ) (xE Γ) rfl u) cf_X3_begin rfl rfl ml_X10_188 rfl (by decide) (Nat.le_of_ble_eq_true rfl) rfl (fun u5 => ?_)
      refine g_bipush (v := (-9)) C dX10_windFor_54 rfl (by decide) ?_
      refine g_istore (ls' := [(8, .int (-9)), (7, .int (-9)), (6, .int 0), (5, .int r3), (0, .ref ((xE Γ).1 1)), (1, .int v1), (2, .int v2), (3, .int v3), (4, .int v4)]) C dX10_windFor_56 rfl L (by decide) rfl ?_
      refine g_sub (ls' := [(0, .ref ((xE Γ).1 1)), (1, .int v1), (2, .int v2), (3, .int v3), (4, .int v4), (6, .int 0), (7, .int (-9)), (8, .int (-9))]) [4, 5, 6, 7, 8, 2, 1, 0] rfl ?_
      exact pX10_windFor_58 C M L v1 v2 v3 v4 FU 0 (-9) (-9) u5
    · refine g_aload_n C dX10_windFor_29 rfl 1 rfl ?_
      refine g_iload C dX10_windFor_30 rfl 0 rfl ?_
      refine g_callI [.int r3] C dX10_windFor_32 rfl (tX10_refuse (xl Γ) (xE Γ) r3 u) cf_X10_refuse rfl rfl ml_X10_63 rfl (by decide) (Nat.le_of_ble_eq_true rfl) rfl (fun r7 u6 => ?_)
      exact g_iret C M dX10_windFor_35 rfl rfl
  · refine g_aload_n C dX10_windFor_8 rfl 0 rfl ?_
    refine g_iconst (v := (-1)) C dX10_windFor_9 rfl (by decide) ?_
    refine g_callI [.int (-1)] C dX10_windFor_10 rfl (tX10_refuse (xl Γ) (xE Γ) (-1) u) cf_X10_refuse rfl rfl ml_X10_63 rfl (by decide) (Nat.le_of_ble_eq_true rfl) rfl (fun r9 u8 => ?_)
    exact g_iret C M dX10_windFor_13 rfl rfl
set_option maxRecDepth 20000 in
set_option maxHeartbeats 4000000 in
theorem tX10_windFor (l : Launch) (E : EE) (v1 : Int32) (v2 : Int32) (v3 : Int32) (v4 : Int32) (u : Mm) : Ct l E yX10_windFor cX10_windFor 9 (some .int) 6 [.ref (E.1 1), .int v1, .int v2, .int v3, .int v4] u cvI (gX10_windFor v1 v2 v3 v4 u) :=
  Ct_of (own := RX10) (by decide +kernel) rfl (Nat.le_of_ble_eq_true rfl) (fun p e R s m args below meth c C M => g_sub (ls' := [(0, .ref (E.1 1)), (1, .int v1), (2, .int v2), (3, .int v3), (4, .int v4)]) [0, 1, 2, 3, 4] rfl (pX10_windFor_0 C M rfl v1 v2 v3 v4 u))
set_option maxRecDepth 20000 in
set_option maxHeartbeats 4000000 in
theorem pX10_span_92 {Γ : GX} (C : Cx Γ RX10 cX10_span 6) (M : Mx Γ (some .int)) (L : xn Γ = 8) (v1 : Int32) (v2 : Int32) (v3 : Int32) (v7 : Int32) (s0 : Int32) {j57 : Int32 → Int32 → Int32 → Mm → Option (Int32 × Mm)} (hj57 : ∀ (v5 : Int32) (v6 : Int32) (v7 : Int32) (u : Mm), Gp Γ (QM Γ cvI) 57 [(0, .ref ((xE Γ).1 1)), (1, .int v1), (2, .int v2), (3, .int v3), (5, .int v5), (6, .int v6), (7, .int v7)] [] u (j57 v5 v6 v7 u)) (u : Mm) : Gp Γ (QM Γ cvI) 92 [(0, .ref ((xE Γ).1 1)), (1, .int v1), (2, .int v2), (3, .int v3), (7, .int v7)] [.int s0] u (gX10_span_92 j57 v1 v2 v3 v7 s0 u) := by
  unfold gX10_span_92
  refine g_istore (ls' := [(5, .int s0), (0, .ref ((xE Γ).1 1)), (1, .int v1), (2, .int v2), (3, .int v3), (7, .int v7)]) C dX10_span_92 rfl L (by decide) rfl ?_
  refine g_iload C dX10_span_94 rfl 5 rfl ?_
  refine g_istore (ls' := [(6, .int v7), (5, .int s0), (0, .ref ((xE Γ).1 1)), (1, .int v1), (2, .int v2), (3, .int v3), (7, .int v7)]) C dX10_span_96 rfl L (by decide) rfl ?_
  refine g_iincL (fun v7_1 => [(7, .int v7_1), (6, .int v7), (5, .int s0), (0, .ref ((xE Γ).1 1)), (1, .int v1), (2, .int v2), (3, .int v3)]) C dX10_span_98 rfl L (by decide) (k := 6) rfl (iinc_1 _) (fun _ => rfl) (fun v7_1 => ?_)
  refine g_goto 57 C dX10_span_101 rfl (by decide) ?_
  refine g_sub (ls' := [(0, .ref ((xE Γ).1 1)), (1, .int v1), (2, .int v2), (3, .int v3), (5, .int s0), (6, .int v7), (7, .int v7_1)]) [3, 4, 5, 6, 2, 1, 0] rfl ?_
  exact hj57 s0 v7 v7_1 u
set_option maxRecDepth 20000 in
set_option maxHeartbeats 4000000 in
theorem pX10_span_57s {Γ : GX} (C : Cx Γ RX10 cX10_span 6) (M : Mx Γ (some .int)) (L : xn Γ = 8) (v1 : Int32) (v2 : Int32) (v3 : Int32) {j57 : Int32 → Int32 → Int32 → Mm → Option (Int32 × Mm)} (hj57 : ∀ (v5 : Int32) (v6 : Int32) (v7 : Int32) (u : Mm), Gp Γ (QM Γ cvI) 57 [(0, .ref ((xE Γ).1 1)), (1, .int v1), (2, .int v2), (3, .int v3), (5, .int v5), (6, .int v6), (7, .int v7)] [] u (j57 v5 v6 v7 u)) (v5 : Int32) (v6 : Int32) (v7 : Int32) (u : Mm) : Gp Γ (QM Γ cvI) 57 [(0, .ref ((xE Γ).1 1)), (1, .int v1), (2, .int v2), (3, .int v3), (5, .int v5), (6, .int v6), (7, .int v7)] [] u (gX10_span_57_Ls v1 v2 v3 j57 v5 v6 v7 u) := by
  unfold gX10_span_57_Ls
  refine g_iload C dX10_span_57 rfl 6 rfl ?_
  refine g_bipush (v := 30) C dX10_span_59 rfl (by decide) ?_
  refine g_icmp_gt 104 C dX10_span_61 rfl (by decide) (fun c1 => ?_) (fun c1 => ?_)
  · refine g_iload_n C dX10_span_104 rfl 3 rfl ?_
    refine g_if_ne 113 C dX10_span_105 rfl (by decide) (fun c2 => ?_) (fun c2 => ?_)
    · refine g_iload C dX10_span_113 rfl 5 rfl ?_
      exact g_iret C M dX10_span_115 rfl rfl
    · refine g_iload C dX10_span_108 rfl 4 rfl ?_
      refine g_goto 115 C dX10_span_110 rfl (by decide) ?_
      exact g_iret C M dX10_span_115 rfl rfl
  · refine g_aload_n C dX10_span_64 rfl 0 rfl ?_
    refine g_getR (k2 := 57) C dX10_span_65 rfl rfl fi_10_8 ⟨by decide, by decide, rfl⟩ fl_X10_52 ?_
    refine g_iload_n C dX10_span_68 rfl 1 rfl ?_
    refine g_iload C dX10_span_69 rfl 6 rfl ?_
    refine g_iload_n C dX10_span_71 rfl 2 rfl ?_
    refine g_callI [.int v1, .int v7, .int v2] C dX10_span_72 rfl (tX3_leadsInto (xl Γ) (xE Γ) v1 v7 v2 u) cf_X3_leadsInto rfl rfl ml_X10_356 rfl (by decide) (Nat.le_of_ble_eq_true rfl) rfl (fun r4 u3 => ?_)
    refine g_if_eq 98 C dX10_span_75 rfl (by decide) (fun c5 => ?_) (fun c5 => ?_)
    · refine g_iincL (fun v7_6 => [(7, .int v7_6), (0, .ref ((xE Γ).1 1)), (1, .int v1), (2, .int v2), (3, .int v3), (5, .int v5), (6, .int v6)]) C dX10_span_98 rfl L (by decide) (k := 6) rfl (iinc_1 _) (fun _ => rfl) (fun v7_6 => ?_)
      refine g_goto 57 C dX10_span_101 rfl (by decide) ?_
      refine g_sub (ls' := [(0, .ref ((xE Γ).1 1)), (1, .int v1), (2, .int v2), (3, .int v3), (5, .int v5), (6, .int v6), (7, .int v7_6)]) [1, 2, 3, 4, 5, 6, 0] rfl ?_
      exact hj57 v5 v6 v7_6 u3
    · refine g_iload C dX10_span_78 rfl 4 rfl ?_
      refine g_bipush (v := (-9)) C dX10_span_80 rfl (by decide) ?_
      refine g_icmp_ne 90 C dX10_span_82 rfl (by decide) (fun c7 => ?_) (fun c7 => ?_)
      · refine g_iload C dX10_span_90 rfl 4 rfl ?_
        refine g_sub (ls' := [(0, .ref ((xE Γ).1 1)), (1, .int v1), (2, .int v2), (3, .int v3), (7, .int v7)]) [0, 1, 2, 3, 6] rfl ?_
        exact pX10_span_92 C M L v1 v2 v3 v7 v5 hj57 u3
      · refine g_iload C dX10_span_85 rfl 6 rfl ?_
        refine g_goto 92 C dX10_span_87 rfl (by decide) ?_
        refine g_sub (ls' := [(0, .ref ((xE Γ).1 1)), (1, .int v1), (2, .int v2), (3, .int v3), (7, .int v7)]) [0, 1, 2, 3, 6] rfl ?_
        exact pX10_span_92 C M L v1 v2 v3 v7 v7 hj57 u3
set_option maxRecDepth 20000 in
set_option maxHeartbeats 4000000 in
theorem pX10_span_57 {Γ : GX} (C : Cx Γ RX10 cX10_span 6) (M : Mx Γ (some .int)) (L : xn Γ = 8) (v1 : Int32) (v2 : Int32) (v3 : Int32) : ∀ (n : Nat) (v5 : Int32) (v6 : Int32) (v7 : Int32) (u : Mm), Gp Γ (QM Γ cvI) 57 [(0, .ref ((xE Γ).1 1)), (1, .int v1), (2, .int v2), (3, .int v3), (5, .int v5), (6, .int v6), (7, .int v7)] [] u (gX10_span_57_L v1 v2 v3 n v5 v6 v7 u) := by
  intro n
  induction n with
  | zero => intro _ _ _ _; exact g_none
  | succ n ih => intro v5 v6 v7 u; exact pX10_span_57s C M L v1 v2 v3 ih v5 v6 v7 u

set_option maxRecDepth 20000 in
set_option maxHeartbeats 4000000 in
theorem pX10_span_0 {Γ : GX} (C : Cx Γ RX10 cX10_span 6) (M : Mx Γ (some .int)) (L : xn Γ = 8) (v1 : Int32) (v2 : Int32) (v3 : Int32) (u : Mm) : Gp Γ (QM Γ cvI) 0 [(0, .ref ((xE Γ).1 1)), (1, .int v1), (2, .int v2), (3, .int v3)] [] u (gX10_span_b v1 v2 v3 u) := by
  unfold gX10_span_b
  refine g_aload_n C dX10_span_0 rfl 0 rfl ?_
  refine g_iload_n C dX10_span_1 rfl 1 rfl ?_
  refine g_callP [.int v1] C dX10_span_2 rfl (tX10_isField (xl Γ) (xE Γ) v1 u) cf_X10_isField rfl rfl ml_X10_116 rfl (by decide) (Nat.le_of_ble_eq_true rfl) rfl (fun r1 => ?_)
  refine g_if_ne 14 C dX10_span_5 rfl (by decide) (fun c2 => ?_) (fun c2 => ?_)
  · refine g_iconst (v := 0) C dX10_span_14 rfl (by decide) ?_
    refine g_iload_n C dX10_span_15 rfl 2 rfl ?_
    refine g_iload_n C dX10_span_16 rfl 3 rfl ?_
    refine g_iconst (v := 1) C dX10_span_17 rfl (by decide) ?_
    refine g_callsP [.int 0, .int v2, .int v3, .int 1] C dX10_span_18 rfl (tX10_planRefusal (xl Γ) (xE Γ) 0 v2 v3 1 u) cf_X10_planRefusal ml_X10_184 rfl (by decide) (Nat.le_of_ble_eq_true rfl) rfl (fun r3 => ?_)
    refine g_istore (ls' := [(4, .int r3), (0, .ref ((xE Γ).1 1)), (1, .int v1), (2, .int v2), (3, .int v3)]) C dX10_span_21 rfl L (by decide) rfl ?_
    refine g_iload C dX10_span_23 rfl 0 rfl ?_
    refine g_if_eq 35 C dX10_span_25 rfl (by decide) (fun c4 => ?_) (fun c4 => ?_)
    · refine g_bipush (v := (-9)) C dX10_span_35 rfl (by decide) ?_
      refine g_istore (ls' := [(5, .int (-9)), (4, .int r3), (0, .ref ((xE Γ).1 1)), (1, .int v1), (2, .int v2), (3, .int v3)]) C dX10_span_37 rfl L (by decide) rfl ?_
      refine g_bipush (v := (-9)) C dX10_span_39 rfl (by decide) ?_
      refine g_istore (ls' := [(6, .int (-9)), (5, .int (-9)), (4, .int r3), (0, .ref ((xE Γ).1 1)), (1, .int v1), (2, .int v2), (3, .int v3)]) C dX10_span_41 rfl L (by decide) rfl ?_
      refine g_aload_n C dX10_span_43 rfl 3 rfl ?_
      refine g_getR (k2 := 57) C dX10_span_44 rfl rfl fi_10_8 ⟨by decide, by decide, rfl⟩ fl_X10_52 ?_
      refine g_aload_n C dX10_span_47 rfl 3 rfl ?_
      refine g_getR (k2 := 2) C dX10_span_48 rfl rfl fi_10_0 ⟨by decide, by decide, rfl⟩ fl_X10_10 ?_
      refine g_callV [.ref ((xE Γ).1 2)] C dX10_span_51 rfl (tX3_begin (xl Γ) (xE Γ) rfl u) cf_X3_begin rfl rfl ml_X10_188 rfl (by decide) (Nat.le_of_ble_eq_true rfl) rfl (fun u5 => ?_)
      refine g_iconst (v := 0) C dX10_span_54 rfl (by decide) ?_
      refine g_istore (ls' := [(7, .int 0), (6, .int (-9)), (5, .int (-9)), (4, .int r3), (0, .ref ((xE Γ).1 1)), (1, .int v1), (2, .int v2), (3, .int v3)]) C dX10_span_55 rfl L (by decide) rfl ?_
      refine g_sub (ls' := [(0, .ref ((xE Γ).1 1)), (1, .int v1), (2, .int v2), (3, .int v3), (5, .int (-9)), (6, .int (-9)), (7, .int 0)]) [4, 5, 6, 7, 2, 1, 0] rfl ?_
      exact pX10_span_57 C M L v1 v2 v3 FU (-9) (-9) 0 u5
    · refine g_aload_n C dX10_span_28 rfl 1 rfl ?_
      refine g_iload C dX10_span_29 rfl 0 rfl ?_
      refine g_callI [.int r3] C dX10_span_31 rfl (tX10_refuse (xl Γ) (xE Γ) r3 u) cf_X10_refuse rfl rfl ml_X10_63 rfl (by decide) (Nat.le_of_ble_eq_true rfl) rfl (fun r7 u6 => ?_)
      exact g_iret C M dX10_span_34 rfl rfl
  · refine g_aload_n C dX10_span_8 rfl 0 rfl ?_
    refine g_iconst (v := (-1)) C dX10_span_9 rfl (by decide) ?_
    refine g_callI [.int (-1)] C dX10_span_10 rfl (tX10_refuse (xl Γ) (xE Γ) (-1) u) cf_X10_refuse rfl rfl ml_X10_63 rfl (by decide) (Nat.le_of_ble_eq_true rfl) rfl (fun r9 u8 => ?_)
    exact g_iret C M dX10_span_13 rfl rfl
set_option maxRecDepth 20000 in
set_option maxHeartbeats 4000000 in
theorem tX10_span (l : Launch) (E : EE) (v1 : Int32) (v2 : Int32) (v3 : Int32) (u : Mm) : Ct l E yX10_span cX10_span 8 (some .int) 6 [.ref (E.1 1), .int v1, .int v2, .int v3] u cvI (gX10_span v1 v2 v3 u) :=
  Ct_of (own := RX10) (by decide +kernel) rfl (Nat.le_of_ble_eq_true rfl) (fun p e R s m args below meth c C M => g_sub (ls' := [(0, .ref (E.1 1)), (1, .int v1), (2, .int v2), (3, .int v3)]) [0, 1, 2, 3] rfl (pX10_span_0 C M rfl v1 v2 v3 u))
set_option maxRecDepth 20000 in
set_option maxHeartbeats 4000000 in
theorem pX10_flown_9 {Γ : GX} (C : Cx Γ RX10 cX10_flown 4) (M : Mx Γ (some .int)) (L : xn Γ = 2) (u : Mm) : Gp Γ (QM Γ cvI) 9 [(0, .ref ((xE Γ).1 1))] [] u (gX10_flown_9 u) := by
  unfold gX10_flown_9
  refine g_aload_n C dX10_flown_9 rfl 0 rfl ?_
  refine g_bipush (v := (-2)) C dX10_flown_10 rfl (by decide) ?_
  refine g_callI [.int (-2)] C dX10_flown_12 rfl (tX10_refuse (xl Γ) (xE Γ) (-2) u) cf_X10_refuse rfl rfl ml_X10_63 rfl (by decide) (Nat.le_of_ble_eq_true rfl) rfl (fun r2 u1 => ?_)
  exact g_iret C M dX10_flown_15 rfl rfl
set_option maxRecDepth 20000 in
set_option maxHeartbeats 4000000 in
theorem pX10_flown_0 {Γ : GX} (C : Cx Γ RX10 cX10_flown 4) (M : Mx Γ (some .int)) (L : xn Γ = 2) (v1 : Int32) (u : Mm) : Gp Γ (QM Γ cvI) 0 [(0, .ref ((xE Γ).1 1)), (1, .int v1)] [] u (gX10_flown_b v1 u) := by
  unfold gX10_flown_b
  refine g_iload_n C dX10_flown_0 rfl 1 rfl ?_
  refine g_if_lt 9 C dX10_flown_1 rfl (by decide) (fun c1 => ?_) (fun c1 => ?_)
  · refine g_sub (ls' := [(0, .ref ((xE Γ).1 1))]) [0] rfl ?_
    exact pX10_flown_9 C M L u
  · refine g_iload_n C dX10_flown_4 rfl 1 rfl ?_
    refine g_iconst (v := 4) C dX10_flown_5 rfl (by decide) ?_
    refine g_icmp_le 16 C dX10_flown_6 rfl (by decide) (fun c2 => ?_) (fun c2 => ?_)
    · refine g_aload_n C dX10_flown_16 rfl 0 rfl ?_
      refine g_getR (k2 := 57) C dX10_flown_17 rfl rfl fi_10_8 ⟨by decide, by decide, rfl⟩ fl_X10_52 ?_
      refine g_aload_n C dX10_flown_20 rfl 0 rfl ?_
      refine g_getR (k2 := 2) C dX10_flown_21 rfl rfl fi_10_0 ⟨by decide, by decide, rfl⟩ fl_X10_10 ?_
      refine g_callV [.ref ((xE Γ).1 2)] C dX10_flown_24 rfl (tX3_begin (xl Γ) (xE Γ) rfl u) cf_X3_begin rfl rfl ml_X10_188 rfl (by decide) (Nat.le_of_ble_eq_true rfl) rfl (fun u3 => ?_)
      refine g_aload_n C dX10_flown_27 rfl 0 rfl ?_
      refine g_getR (k2 := 57) C dX10_flown_28 rfl rfl fi_10_8 ⟨by decide, by decide, rfl⟩ fl_X10_52 ?_
      refine g_aload_n C dX10_flown_31 rfl 0 rfl ?_
      refine g_getR (k2 := 54) C dX10_flown_32 rfl rfl fi_10_6 ⟨by decide, by decide, rfl⟩ fl_X10_41 ?_
      refine g_callV [.ref ((xE Γ).1 54)] C dX10_flown_35 rfl (tX3_flyActs (xl Γ) (xE Γ) rfl u3) cf_X3_flyActs rfl rfl ml_X10_360 rfl (by decide) (Nat.le_of_ble_eq_true rfl) rfl (fun u4 => ?_)
      refine g_iload_n C dX10_flown_38 rfl 1 rfl ?_
      refine g_if (fun c5 => ?_) (fun c5 => ?_)
      · refine g_tabI 29 68 C dX10_flown_39 rfl (by rw [c5]; exact ⟨by decide, by decide, rfl⟩) (by decide) ?_
        refine g_aload_n C dX10_flown_68 rfl 0 rfl ?_
        refine g_getR (k2 := 57) C dX10_flown_69 rfl rfl fi_10_8 ⟨by decide, by decide, rfl⟩ fl_X10_52 ?_
        refine g_getR (k2 := 69) C dX10_flown_72 rfl rfl fi_3_5 ⟨by decide, by decide, rfl⟩ fl_X10_195 ?_
        refine g_getI C dX10_flown_75 rfl rfl fi_2_0 rfl fl_X10_175 ?_
        exact g_iret C M dX10_flown_78 rfl rfl
      refine g_if (fun c6 => ?_) (fun c6 => ?_)
      · refine g_tabI 40 79 C dX10_flown_39 rfl (by rw [c6]; exact ⟨by decide, by decide, rfl⟩) (by decide) ?_
        refine g_aload_n C dX10_flown_79 rfl 0 rfl ?_
        refine g_getR (k2 := 57) C dX10_flown_80 rfl rfl fi_10_8 ⟨by decide, by decide, rfl⟩ fl_X10_52 ?_
        refine g_getR (k2 := 69) C dX10_flown_83 rfl rfl fi_3_5 ⟨by decide, by decide, rfl⟩ fl_X10_195 ?_
        refine g_getI C dX10_flown_86 rfl rfl fi_2_1 rfl fl_X10_198 ?_
        exact g_iret C M dX10_flown_89 rfl rfl
      refine g_if (fun c7 => ?_) (fun c7 => ?_)
      · refine g_tabI 51 90 C dX10_flown_39 rfl (by rw [c7]; exact ⟨by decide, by decide, rfl⟩) (by decide) ?_
        refine g_aload_n C dX10_flown_90 rfl 0 rfl ?_
        refine g_getR (k2 := 57) C dX10_flown_91 rfl rfl fi_10_8 ⟨by decide, by decide, rfl⟩ fl_X10_52 ?_
        refine g_getR (k2 := 69) C dX10_flown_94 rfl rfl fi_3_5 ⟨by decide, by decide, rfl⟩ fl_X10_195 ?_
        refine g_getI C dX10_flown_97 rfl rfl fi_2_2 rfl fl_X10_201 ?_
        exact g_iret C M dX10_flown_100 rfl rfl
      refine g_if (fun c8 => ?_) (fun c8 => ?_)
      · refine g_tabI 62 101 C dX10_flown_39 rfl (by rw [c8]; exact ⟨by decide, by decide, rfl⟩) (by decide) ?_
        refine g_aload_n C dX10_flown_101 rfl 0 rfl ?_
        refine g_getR (k2 := 57) C dX10_flown_102 rfl rfl fi_10_8 ⟨by decide, by decide, rfl⟩ fl_X10_52 ?_
        refine g_getR (k2 := 69) C dX10_flown_105 rfl rfl fi_3_5 ⟨by decide, by decide, rfl⟩ fl_X10_195 ?_
        refine g_getI C dX10_flown_108 rfl rfl fi_2_3 rfl fl_X10_364 ?_
        exact g_iret C M dX10_flown_111 rfl rfl
      have ec5 := lv_neT c5 (a := 0) (by decide)
      have ec6 := lv_neT c6 (a := 1) (by decide)
      have ec7 := lv_neT c7 (a := 2) (by decide)
      have ec8 := lv_neT c8 (a := 3) (by decide)
      refine g_tabO 112 C dX10_flown_39 rfl (by omega) (by decide) ?_
      refine g_aload_n C dX10_flown_112 rfl 0 rfl ?_
      refine g_getR (k2 := 57) C dX10_flown_113 rfl rfl fi_10_8 ⟨by decide, by decide, rfl⟩ fl_X10_52 ?_
      refine g_getR (k2 := 69) C dX10_flown_116 rfl rfl fi_3_5 ⟨by decide, by decide, rfl⟩ fl_X10_195 ?_
      refine g_getI C dX10_flown_119 rfl rfl fi_2_4 rfl fl_X10_162 ?_
      exact g_iret C M dX10_flown_122 rfl rfl
    · refine g_sub (ls' := [(0, .ref ((xE Γ).1 1))]) [0] rfl ?_
      exact pX10_flown_9 C M L u
set_option maxRecDepth 20000 in
set_option maxHeartbeats 4000000 in
theorem tX10_flown (l : Launch) (E : EE) (v1 : Int32) (u : Mm) : Ct l E yX10_flown cX10_flown 2 (some .int) 4 [.ref (E.1 1), .int v1] u cvI (gX10_flown v1 u) :=
  Ct_of (own := RX10) (by decide +kernel) rfl (Nat.le_of_ble_eq_true rfl) (fun p e R s m args below meth c C M => g_sub (ls' := [(0, .ref (E.1 1)), (1, .int v1)]) [0, 1] rfl (pX10_flown_0 C M rfl v1 u))
set_option maxRecDepth 20000 in
set_option maxHeartbeats 4000000 in
theorem pX10_ceiling_9 {Γ : GX} (C : Cx Γ RX10 cX10_ceiling 4) (M : Mx Γ (some .int)) (L : xn Γ = 2) (u : Mm) : Gp Γ (QM Γ cvI) 9 [(0, .ref ((xE Γ).1 1))] [] u (gX10_ceiling_9 u) := by
  unfold gX10_ceiling_9
  refine g_aload_n C dX10_ceiling_9 rfl 0 rfl ?_
  refine g_bipush (v := (-2)) C dX10_ceiling_10 rfl (by decide) ?_
  refine g_callI [.int (-2)] C dX10_ceiling_12 rfl (tX10_refuse (xl Γ) (xE Γ) (-2) u) cf_X10_refuse rfl rfl ml_X10_63 rfl (by decide) (Nat.le_of_ble_eq_true rfl) rfl (fun r2 u1 => ?_)
  exact g_iret C M dX10_ceiling_15 rfl rfl
set_option maxRecDepth 20000 in
set_option maxHeartbeats 4000000 in
theorem pX10_ceiling_0 {Γ : GX} (C : Cx Γ RX10 cX10_ceiling 4) (M : Mx Γ (some .int)) (L : xn Γ = 2) (v1 : Int32) (u : Mm) : Gp Γ (QM Γ cvI) 0 [(0, .ref ((xE Γ).1 1)), (1, .int v1)] [] u (gX10_ceiling_b v1 u) := by
  unfold gX10_ceiling_b
  refine g_iload_n C dX10_ceiling_0 rfl 1 rfl ?_
  refine g_if_lt 9 C dX10_ceiling_1 rfl (by decide) (fun c1 => ?_) (fun c1 => ?_)
  · refine g_sub (ls' := [(0, .ref ((xE Γ).1 1))]) [0] rfl ?_
    exact pX10_ceiling_9 C M L u
  · refine g_iload_n C dX10_ceiling_4 rfl 1 rfl ?_
    refine g_iconst (v := 1) C dX10_ceiling_5 rfl (by decide) ?_
    refine g_icmp_le 16 C dX10_ceiling_6 rfl (by decide) (fun c2 => ?_) (fun c2 => ?_)
    · refine g_aload_n C dX10_ceiling_16 rfl 0 rfl ?_
      refine g_getR (k2 := 57) C dX10_ceiling_17 rfl rfl fi_10_8 ⟨by decide, by decide, rfl⟩ fl_X10_52 ?_
      refine g_aload_n C dX10_ceiling_20 rfl 0 rfl ?_
      refine g_getR (k2 := 2) C dX10_ceiling_21 rfl rfl fi_10_0 ⟨by decide, by decide, rfl⟩ fl_X10_10 ?_
      refine g_callV [.ref ((xE Γ).1 2)] C dX10_ceiling_24 rfl (tX3_begin (xl Γ) (xE Γ) rfl u) cf_X3_begin rfl rfl ml_X10_188 rfl (by decide) (Nat.le_of_ble_eq_true rfl) rfl (fun u3 => ?_)
      refine g_aload_n C dX10_ceiling_27 rfl 0 rfl ?_
      refine g_getR (k2 := 57) C dX10_ceiling_28 rfl rfl fi_10_8 ⟨by decide, by decide, rfl⟩ fl_X10_52 ?_
      refine g_callV [] C dX10_ceiling_31 rfl (tX3_climbAll (xl Γ) (xE Γ) u3) cf_X3_climbAll rfl rfl ml_X10_367 rfl (by decide) (Nat.le_of_ble_eq_true rfl) rfl (fun u4 => ?_)
      refine g_iload_n C dX10_ceiling_34 rfl 1 rfl ?_
      refine g_if_ne 48 C dX10_ceiling_35 rfl (by decide) (fun c5 => ?_) (fun c5 => ?_)
      · refine g_aload_n C dX10_ceiling_48 rfl 0 rfl ?_
        refine g_getR (k2 := 57) C dX10_ceiling_49 rfl rfl fi_10_8 ⟨by decide, by decide, rfl⟩ fl_X10_52 ?_
        refine g_getI C dX10_ceiling_52 rfl rfl fi_3_16 rfl fl_X10_373 ?_
        exact g_iret C M dX10_ceiling_55 rfl rfl
      · refine g_aload_n C dX10_ceiling_38 rfl 0 rfl ?_
        refine g_getR (k2 := 57) C dX10_ceiling_39 rfl rfl fi_10_8 ⟨by decide, by decide, rfl⟩ fl_X10_52 ?_
        refine g_getI C dX10_ceiling_42 rfl rfl fi_3_15 rfl fl_X10_370 ?_
        refine g_goto 55 C dX10_ceiling_45 rfl (by decide) ?_
        exact g_iret C M dX10_ceiling_55 rfl rfl
    · refine g_sub (ls' := [(0, .ref ((xE Γ).1 1))]) [0] rfl ?_
      exact pX10_ceiling_9 C M L u
set_option maxRecDepth 20000 in
set_option maxHeartbeats 4000000 in
theorem tX10_ceiling (l : Launch) (E : EE) (v1 : Int32) (u : Mm) : Ct l E yX10_ceiling cX10_ceiling 2 (some .int) 4 [.ref (E.1 1), .int v1] u cvI (gX10_ceiling v1 u) :=
  Ct_of (own := RX10) (by decide +kernel) rfl (Nat.le_of_ble_eq_true rfl) (fun p e R s m args below meth c C M => g_sub (ls' := [(0, .ref (E.1 1)), (1, .int v1)]) [0, 1] rfl (pX10_ceiling_0 C M rfl v1 u))
set_option maxRecDepth 20000 in
set_option maxHeartbeats 4000000 in
theorem pX10_game_9 {Γ : GX} (C : Cx Γ RX10 cX10_game 6) (M : Mx Γ (some .int)) (L : xn Γ = 3) (u : Mm) : Gp Γ (QM Γ cvI) 9 [(0, .ref ((xE Γ).1 1))] [] u (gX10_game_9 u) := by
  unfold gX10_game_9
  refine g_aload_n C dX10_game_9 rfl 0 rfl ?_
  refine g_bipush (v := (-2)) C dX10_game_10 rfl (by decide) ?_
  refine g_callI [.int (-2)] C dX10_game_12 rfl (tX10_refuse (xl Γ) (xE Γ) (-2) u) cf_X10_refuse rfl rfl ml_X10_63 rfl (by decide) (Nat.le_of_ble_eq_true rfl) rfl (fun r2 u1 => ?_)
  exact g_iret C M dX10_game_15 rfl rfl
set_option maxRecDepth 20000 in
set_option maxHeartbeats 4000000 in
theorem pX10_game_0 {Γ : GX} (C : Cx Γ RX10 cX10_game 6) (M : Mx Γ (some .int)) (L : xn Γ = 3) (v1 : Int32) (u : Mm) : Gp Γ (QM Γ cvI) 0 [(0, .ref ((xE Γ).1 1)), (1, .int v1)] [] u (gX10_game_b v1 u) := by
  unfold gX10_game_b
  refine g_iload_n C dX10_game_0 rfl 1 rfl ?_
  refine g_if_lt 9 C dX10_game_1 rfl (by decide) (fun c1 => ?_) (fun c1 => ?_)
  · refine g_sub (ls' := [(0, .ref ((xE Γ).1 1))]) [0] rfl ?_
    exact pX10_game_9 C M L u
  · refine g_iload_n C dX10_game_4 rfl 1 rfl ?_
    refine g_iconst (v := 2) C dX10_game_5 rfl (by decide) ?_
    refine g_icmp_le 16 C dX10_game_6 rfl (by decide) (fun c2 => ?_) (fun c2 => ?_)
    · refine g_aload_n C dX10_game_16 rfl 0 rfl ?_
      refine g_getR (k2 := 57) C dX10_game_17 rfl rfl fi_10_8 ⟨by decide, by decide, rfl⟩ fl_X10_52 ?_
      refine g_aload_n C dX10_game_20 rfl 0 rfl ?_
      refine g_getR (k2 := 2) C dX10_game_21 rfl rfl fi_10_0 ⟨by decide, by decide, rfl⟩ fl_X10_10 ?_
      refine g_callV [.ref ((xE Γ).1 2)] C dX10_game_24 rfl (tX3_begin (xl Γ) (xE Γ) rfl u) cf_X3_begin rfl rfl ml_X10_188 rfl (by decide) (Nat.le_of_ble_eq_true rfl) rfl (fun u3 => ?_)
      refine g_aload_n C dX10_game_27 rfl 0 rfl ?_
      refine g_getR (k2 := 57) C dX10_game_28 rfl rfl fi_10_8 ⟨by decide, by decide, rfl⟩ fl_X10_52 ?_
      refine g_callV [] C dX10_game_31 rfl (tX3_playGame (xl Γ) (xE Γ) u3) cf_X3_playGame rfl rfl ml_X10_376 rfl (by decide) (Nat.le_of_ble_eq_true rfl) rfl (fun u4 => ?_)
      refine g_iload_n C dX10_game_34 rfl 1 rfl ?_
      refine g_iconst (v := 2) C dX10_game_35 rfl (by decide) ?_
      refine g_icmp_ne 47 C dX10_game_36 rfl (by decide) (fun c5 => ?_) (fun c5 => ?_)
      · refine g_aload_n C dX10_game_47 rfl 0 rfl ?_
        refine g_getR (k2 := 57) C dX10_game_48 rfl rfl fi_10_8 ⟨by decide, by decide, rfl⟩ fl_X10_52 ?_
        refine g_callP [] C dX10_game_51 rfl (tX3_steadyPair (xl Γ) (xE Γ) u4) cf_X3_steadyPair rfl rfl ml_X10_382 rfl (by decide) (Nat.le_of_ble_eq_true rfl) rfl (fun r6 => ?_)
        refine g_istore_n (ls' := [(2, .int r6), (0, .ref ((xE Γ).1 1)), (1, .int v1)]) C dX10_game_54 rfl L (by decide) rfl ?_
        refine g_iload_n C dX10_game_55 rfl 2 rfl ?_
        refine g_if_eq 65 C dX10_game_56 rfl (by decide) (fun c7 => ?_) (fun c7 => ?_)
        · refine g_iload_n C dX10_game_65 rfl 0 rfl ?_
          refine g_goto 84 C dX10_game_66 rfl (by decide) ?_
          exact g_iret C M dX10_game_84 rfl rfl
        · refine g_iload_n C dX10_game_59 rfl 0 rfl ?_
          refine g_bipush (v := (-9)) C dX10_game_60 rfl (by decide) ?_
          refine g_icmp_ne 69 C dX10_game_62 rfl (by decide) (fun c8 => ?_) (fun c8 => ?_)
          · refine g_aload_n C dX10_game_69 rfl 1 rfl ?_
            refine g_getR (k2 := 57) C dX10_game_70 rfl rfl fi_10_8 ⟨by decide, by decide, rfl⟩ fl_X10_52 ?_
            refine g_iload_n C dX10_game_73 rfl 0 rfl ?_
            refine g_bipush (v := 10) C dX10_game_74 rfl (by decide) ?_
            refine g_idiv C dX10_game_76 rfl (by decide) ?_
            refine g_iload_n C dX10_game_77 rfl 0 rfl ?_
            refine g_bipush (v := 10) C dX10_game_78 rfl (by decide) ?_
            refine g_irem C dX10_game_80 rfl (by decide) ?_
            refine g_callP [.int (r6 / 10), .int (irm r6 10)] C dX10_game_81 rfl (tX3_lossBy (xl Γ) (xE Γ) (r6 / 10) (irm r6 10) u4) cf_X3_lossBy rfl rfl ml_X10_385 rfl (by decide) (Nat.le_of_ble_eq_true rfl) rfl (fun r9 => ?_)
            exact g_iret C M dX10_game_84 rfl rfl
          · refine g_iload_n C dX10_game_65 rfl 0 rfl ?_
            refine g_goto 84 C dX10_game_66 rfl (by decide) ?_
            exact g_iret C M dX10_game_84 rfl rfl
      · refine g_aload_n C dX10_game_39 rfl 0 rfl ?_
        refine g_getR (k2 := 57) C dX10_game_40 rfl rfl fi_10_8 ⟨by decide, by decide, rfl⟩ fl_X10_52 ?_
        refine g_callP [] C dX10_game_43 rfl (tX3_surestLoss (xl Γ) (xE Γ) u4) cf_X3_surestLoss rfl rfl ml_X10_379 rfl (by decide) (Nat.le_of_ble_eq_true rfl) rfl (fun r10 => ?_)
        exact g_iret C M dX10_game_46 rfl rfl
    · refine g_sub (ls' := [(0, .ref ((xE Γ).1 1))]) [0] rfl ?_
      exact pX10_game_9 C M L u
set_option maxRecDepth 20000 in
set_option maxHeartbeats 4000000 in
theorem tX10_game (l : Launch) (E : EE) (v1 : Int32) (u : Mm) : Ct l E yX10_game cX10_game 3 (some .int) 6 [.ref (E.1 1), .int v1] u cvI (gX10_game v1 u) :=
  Ct_of (own := RX10) (by decide +kernel) rfl (Nat.le_of_ble_eq_true rfl) (fun p e R s m args below meth c C M => g_sub (ls' := [(0, .ref (E.1 1)), (1, .int v1)]) [0, 1] rfl (pX10_game_0 C M rfl v1 u))
set_option maxRecDepth 20000 in
set_option maxHeartbeats 4000000 in
theorem pX10_another_13 {Γ : GX} (C : Cx Γ RX10 cX10_another 5) (M : Mx Γ (some .int)) (L : xn Γ = 6) (u : Mm) : Gp Γ (QM Γ cvI) 13 [(0, .ref ((xE Γ).1 1))] [] u (gX10_another_13 u) := by
  unfold gX10_another_13
  refine g_aload_n C dX10_another_13 rfl 0 rfl ?_
  refine g_bipush (v := (-4)) C dX10_another_14 rfl (by decide) ?_
  refine g_callI [.int (-4)] C dX10_another_16 rfl (tX10_refuse (xl Γ) (xE Γ) (-4) u) cf_X10_refuse rfl rfl ml_X10_63 rfl (by decide) (Nat.le_of_ble_eq_true rfl) rfl (fun r2 u1 => ?_)
  exact g_iret C M dX10_another_19 rfl rfl
set_option maxRecDepth 20000 in
set_option maxHeartbeats 4000000 in
theorem pX10_another_37 {Γ : GX} (C : Cx Γ RX10 cX10_another 5) (M : Mx Γ (some .int)) (L : xn Γ = 6) (u : Mm) : Gp Γ (QM Γ cvI) 37 [(0, .ref ((xE Γ).1 1))] [] u (gX10_another_37 u) := by
  unfold gX10_another_37
  refine g_aload_n C dX10_another_37 rfl 0 rfl ?_
  refine g_bipush (v := (-6)) C dX10_another_38 rfl (by decide) ?_
  refine g_callI [.int (-6)] C dX10_another_40 rfl (tX10_refuse (xl Γ) (xE Γ) (-6) u) cf_X10_refuse rfl rfl ml_X10_63 rfl (by decide) (Nat.le_of_ble_eq_true rfl) rfl (fun r2 u1 => ?_)
  exact g_iret C M dX10_another_43 rfl rfl
set_option maxRecDepth 20000 in
set_option maxHeartbeats 4000000 in
theorem pX10_another_0 {Γ : GX} (C : Cx Γ RX10 cX10_another 5) (M : Mx Γ (some .int)) (L : xn Γ = 6) (v1 : Int32) (v2 : Int32) (v3 : Int32) (u : Mm) : Gp Γ (QM Γ cvI) 0 [(0, .ref ((xE Γ).1 1)), (1, .int v1), (2, .int v2), (3, .int v3)] [] u (gX10_another_b v1 v2 v3 u) := by
  unfold gX10_another_b
  refine g_iload_n C dX10_another_0 rfl 1 rfl ?_
  refine g_if_lt 13 C dX10_another_1 rfl (by decide) (fun c1 => ?_) (fun c1 => ?_)
  · refine g_sub (ls' := [(0, .ref ((xE Γ).1 1))]) [0] rfl ?_
    exact pX10_another_13 C M L u
  · refine g_iload_n C dX10_another_4 rfl 2 rfl ?_
    refine g_if_lt 13 C dX10_another_5 rfl (by decide) (fun c2 => ?_) (fun c2 => ?_)
    · refine g_sub (ls' := [(0, .ref ((xE Γ).1 1))]) [0] rfl ?_
      exact pX10_another_13 C M L u
    · refine g_iload_n C dX10_another_8 rfl 3 rfl ?_
      refine g_iconst (v := 1) C dX10_another_9 rfl (by decide) ?_
      refine g_icmp_ge 20 C dX10_another_10 rfl (by decide) (fun c3 => ?_) (fun c3 => ?_)
      · refine g_iload_n C dX10_another_20 rfl 1 rfl ?_
        refine g_bipush (v := 30) C dX10_another_21 rfl (by decide) ?_
        refine g_icmp_gt 37 C dX10_another_23 rfl (by decide) (fun c4 => ?_) (fun c4 => ?_)
        · refine g_sub (ls' := [(0, .ref ((xE Γ).1 1))]) [0] rfl ?_
          exact pX10_another_37 C M L u
        · refine g_iload_n C dX10_another_26 rfl 2 rfl ?_
          refine g_iconst (v := 5) C dX10_another_27 rfl (by decide) ?_
          refine g_icmp_gt 37 C dX10_another_28 rfl (by decide) (fun c5 => ?_) (fun c5 => ?_)
          · refine g_sub (ls' := [(0, .ref ((xE Γ).1 1))]) [0] rfl ?_
            exact pX10_another_37 C M L u
          · refine g_iload_n C dX10_another_31 rfl 3 rfl ?_
            refine g_bipush (v := 6) C dX10_another_32 rfl (by decide) ?_
            refine g_icmp_le 44 C dX10_another_34 rfl (by decide) (fun c6 => ?_) (fun c6 => ?_)
            · refine g_aload_n C dX10_another_44 rfl 0 rfl ?_
              refine g_getR (k2 := 57) C dX10_another_45 rfl rfl fi_10_8 ⟨by decide, by decide, rfl⟩ fl_X10_52 ?_
              refine g_aload_n C dX10_another_48 rfl 0 rfl ?_
              refine g_getR (k2 := 2) C dX10_another_49 rfl rfl fi_10_0 ⟨by decide, by decide, rfl⟩ fl_X10_10 ?_
              refine g_callV [.ref ((xE Γ).1 2)] C dX10_another_52 rfl (tX3_begin (xl Γ) (xE Γ) rfl u) cf_X3_begin rfl rfl ml_X10_188 rfl (by decide) (Nat.le_of_ble_eq_true rfl) rfl (fun u7 => ?_)
              refine g_aload_n C dX10_another_55 rfl 0 rfl ?_
              refine g_getR (k2 := 57) C dX10_another_56 rfl rfl fi_10_8 ⟨by decide, by decide, rfl⟩ fl_X10_52 ?_
              refine g_iload_n C dX10_another_59 rfl 1 rfl ?_
              refine g_iload_n C dX10_another_60 rfl 2 rfl ?_
              refine g_callI [.int v1, .int v2] C dX10_another_61 rfl (tX3_follow (xl Γ) (xE Γ) v1 v2 u7) cf_X3_follow rfl rfl ml_X10_191 rfl (by decide) (Nat.le_of_ble_eq_true rfl) rfl (fun r9 u8 => ?_)
              refine g_if_ne 70 C dX10_another_64 rfl (by decide) (fun c10 => ?_) (fun c10 => ?_)
              · refine g_aload_n C dX10_another_70 rfl 0 rfl ?_
                refine g_getR (k2 := 57) C dX10_another_71 rfl rfl fi_10_8 ⟨by decide, by decide, rfl⟩ fl_X10_52 ?_
                refine g_getR (k2 := 69) C dX10_another_74 rfl rfl fi_3_5 ⟨by decide, by decide, rfl⟩ fl_X10_195 ?_
                refine g_getI C dX10_another_77 rfl rfl fi_2_1 rfl fl_X10_198 ?_
                refine g_lets (fun v4_11 => ?_)
                refine g_istore (ls' := [(4, .int v4_11), (0, .ref ((xE Γ).1 1)), (1, .int v1), (2, .int v2), (3, .int v3)]) C dX10_another_80 rfl L (by decide) rfl ?_
                refine g_aload_n C dX10_another_82 rfl 1 rfl ?_
                refine g_getR (k2 := 57) C dX10_another_83 rfl rfl fi_10_8 ⟨by decide, by decide, rfl⟩ fl_X10_52 ?_
                refine g_getR (k2 := 69) C dX10_another_86 rfl rfl fi_3_5 ⟨by decide, by decide, rfl⟩ fl_X10_195 ?_
                refine g_getI C dX10_another_89 rfl rfl fi_2_2 rfl fl_X10_201 ?_
                refine g_lets (fun v5_12 => ?_)
                refine g_istore (ls' := [(5, .int v5_12), (4, .int v4_11), (0, .ref ((xE Γ).1 1)), (1, .int v1), (2, .int v2), (3, .int v3)]) C dX10_another_92 rfl L (by decide) rfl ?_
                refine g_aload_n C dX10_another_94 rfl 2 rfl ?_
                refine g_getR (k2 := 57) C dX10_another_95 rfl rfl fi_10_8 ⟨by decide, by decide, rfl⟩ fl_X10_52 ?_
                refine g_iload_n C dX10_another_98 rfl 5 rfl ?_
                refine g_callV [.int v3] C dX10_another_99 rfl (tX3_takePeople (xl Γ) (xE Γ) v3 u8) cf_X3_takePeople rfl rfl ml_X10_347 rfl (by decide) (Nat.le_of_ble_eq_true rfl) rfl (fun u13 => ?_)
                refine g_aload_n C dX10_another_102 rfl 2 rfl ?_
                refine g_getR (k2 := 57) C dX10_another_103 rfl rfl fi_10_8 ⟨by decide, by decide, rfl⟩ fl_X10_52 ?_
                refine g_iload_n C dX10_another_106 rfl 3 rfl ?_
                refine g_iload_n C dX10_another_107 rfl 4 rfl ?_
                refine g_callI [.int v1, .int v2] C dX10_another_108 rfl (tX3_follow (xl Γ) (xE Γ) v1 v2 u13) cf_X3_follow rfl rfl ml_X10_191 rfl (by decide) (Nat.le_of_ble_eq_true rfl) rfl (fun r15 u14 => ?_)
                refine g_if_ne 117 C dX10_another_111 rfl (by decide) (fun c16 => ?_) (fun c16 => ?_)
                · refine g_aload_n C dX10_another_117 rfl 2 rfl ?_
                  refine g_getR (k2 := 57) C dX10_another_118 rfl rfl fi_10_8 ⟨by decide, by decide, rfl⟩ fl_X10_52 ?_
                  refine g_getR (k2 := 69) C dX10_another_121 rfl rfl fi_3_5 ⟨by decide, by decide, rfl⟩ fl_X10_195 ?_
                  refine g_getI C dX10_another_124 rfl rfl fi_2_1 rfl fl_X10_198 ?_
                  refine g_iload C dX10_another_127 rfl 1 rfl ?_
                  refine g_isub C dX10_another_129 rfl ?_
                  refine g_abs C dX10_another_130 rfl ⟨ml_X10_388, ms_abs, mc_abs⟩ (by decide) (Nat.le_of_ble_eq_true rfl) ?_
                  refine g_aload_n C dX10_another_133 rfl 2 rfl ?_
                  refine g_getR (k2 := 57) C dX10_another_134 rfl rfl fi_10_8 ⟨by decide, by decide, rfl⟩ fl_X10_52 ?_
                  refine g_getR (k2 := 69) C dX10_another_137 rfl rfl fi_3_5 ⟨by decide, by decide, rfl⟩ fl_X10_195 ?_
                  refine g_getI C dX10_another_140 rfl rfl fi_2_2 rfl fl_X10_201 ?_
                  refine g_iload C dX10_another_143 rfl 0 rfl ?_
                  refine g_isub C dX10_another_145 rfl ?_
                  refine g_abs C dX10_another_146 rfl ⟨ml_X10_388, ms_abs, mc_abs⟩ (by decide) (Nat.le_of_ble_eq_true rfl) ?_
                  refine g_iadd C dX10_another_149 rfl ?_
                  exact g_iret C M dX10_another_150 rfl rfl
                · refine g_bipush (v := (-9)) C dX10_another_114 rfl (by decide) ?_
                  exact g_iret C M dX10_another_116 rfl rfl
              · refine g_bipush (v := (-9)) C dX10_another_67 rfl (by decide) ?_
                exact g_iret C M dX10_another_69 rfl rfl
            · refine g_sub (ls' := [(0, .ref ((xE Γ).1 1))]) [0] rfl ?_
              exact pX10_another_37 C M L u
      · refine g_sub (ls' := [(0, .ref ((xE Γ).1 1))]) [0] rfl ?_
        exact pX10_another_13 C M L u
set_option maxRecDepth 20000 in
set_option maxHeartbeats 4000000 in
theorem tX10_another (l : Launch) (E : EE) (v1 : Int32) (v2 : Int32) (v3 : Int32) (u : Mm) : Ct l E yX10_another cX10_another 6 (some .int) 5 [.ref (E.1 1), .int v1, .int v2, .int v3] u cvI (gX10_another v1 v2 v3 u) :=
  Ct_of (own := RX10) (by decide +kernel) rfl (Nat.le_of_ble_eq_true rfl) (fun p e R s m args below meth c C M => g_sub (ls' := [(0, .ref (E.1 1)), (1, .int v1), (2, .int v2), (3, .int v3)]) [0, 1, 2, 3] rfl (pX10_another_0 C M rfl v1 v2 v3 u))
set_option maxRecDepth 20000 in
set_option maxHeartbeats 4000000 in
theorem pX10_chase_0 {Γ : GX} (C : Cx Γ RX10 cX10_chase 5) (M : Mx Γ (some .int)) (L : xn Γ = 6) (v1 : Int32) (v2 : Int32) (v3 : Int32) (u : Mm) : Gp Γ (QM Γ cvI) 0 [(0, .ref ((xE Γ).1 1)), (1, .int v1), (2, .int v2), (3, .int v3)] [] u (gX10_chase_b v1 v2 v3 u) := by
  unfold gX10_chase_b
  refine g_iload_n C dX10_chase_0 rfl 1 rfl ?_
  refine g_iload_n C dX10_chase_1 rfl 2 rfl ?_
  refine g_iload_n C dX10_chase_2 rfl 3 rfl ?_
  refine g_iconst (v := 1) C dX10_chase_3 rfl (by decide) ?_
  refine g_callsP [.int v1, .int v2, .int v3, .int 1] C dX10_chase_4 rfl (tX10_planRefusal (xl Γ) (xE Γ) v1 v2 v3 1 u) cf_X10_planRefusal ml_X10_184 rfl (by decide) (Nat.le_of_ble_eq_true rfl) rfl (fun r1 => ?_)
  refine g_istore (ls' := [(4, .int r1), (0, .ref ((xE Γ).1 1)), (1, .int v1), (2, .int v2), (3, .int v3)]) C dX10_chase_7 rfl L (by decide) rfl ?_
  refine g_iload C dX10_chase_9 rfl 0 rfl ?_
  refine g_if_eq 21 C dX10_chase_11 rfl (by decide) (fun c2 => ?_) (fun c2 => ?_)
  · refine g_aload_n C dX10_chase_21 rfl 1 rfl ?_
    refine g_getR (k2 := 57) C dX10_chase_22 rfl rfl fi_10_8 ⟨by decide, by decide, rfl⟩ fl_X10_52 ?_
    refine g_aload_n C dX10_chase_25 rfl 1 rfl ?_
    refine g_getR (k2 := 2) C dX10_chase_26 rfl rfl fi_10_0 ⟨by decide, by decide, rfl⟩ fl_X10_10 ?_
    refine g_callV [.ref ((xE Γ).1 2)] C dX10_chase_29 rfl (tX3_begin (xl Γ) (xE Γ) rfl u) cf_X3_begin rfl rfl ml_X10_188 rfl (by decide) (Nat.le_of_ble_eq_true rfl) rfl (fun u3 => ?_)
    refine g_aload_n C dX10_chase_32 rfl 1 rfl ?_
    refine g_getR (k2 := 57) C dX10_chase_33 rfl rfl fi_10_8 ⟨by decide, by decide, rfl⟩ fl_X10_52 ?_
    refine g_iload_n C dX10_chase_36 rfl 2 rfl ?_
    refine g_iload_n C dX10_chase_37 rfl 3 rfl ?_
    refine g_callI [.int v1, .int v2] C dX10_chase_38 rfl (tX3_follow (xl Γ) (xE Γ) v1 v2 u3) cf_X3_follow rfl rfl ml_X10_191 rfl (by decide) (Nat.le_of_ble_eq_true rfl) rfl (fun r5 u4 => ?_)
    refine g_if_ne 47 C dX10_chase_41 rfl (by decide) (fun c6 => ?_) (fun c6 => ?_)
    · refine g_aload_n C dX10_chase_47 rfl 1 rfl ?_
      refine g_getR (k2 := 71) C dX10_chase_48 rfl rfl fi_10_9 ⟨by decide, by decide, rfl⟩ fl_X10_59 ?_
      refine g_aload_n C dX10_chase_51 rfl 1 rfl ?_
      refine g_getR (k2 := 2) C dX10_chase_52 rfl rfl fi_10_0 ⟨by decide, by decide, rfl⟩ fl_X10_10 ?_
      refine g_getR (k2 := 12) C dX10_chase_55 rfl rfl fi_9_2 ⟨by decide, by decide, rfl⟩ fl_X10_279 ?_
      refine g_callV [.ref ((xE Γ).1 12)] C dX10_chase_58 rfl (tX8_measure (xl Γ) (xE Γ) rfl u4) cf_X8_measure rfl rfl ml_X10_297 rfl (by decide) (Nat.le_of_ble_eq_true rfl) rfl (fun u7 => ?_)
      refine g_aload_n C dX10_chase_61 rfl 1 rfl ?_
      refine g_getR (k2 := 71) C dX10_chase_62 rfl rfl fi_10_9 ⟨by decide, by decide, rfl⟩ fl_X10_59 ?_
      refine g_aload_n C dX10_chase_65 rfl 1 rfl ?_
      refine g_getR (k2 := 2) C dX10_chase_66 rfl rfl fi_10_0 ⟨by decide, by decide, rfl⟩ fl_X10_10 ?_
      refine g_getR (k2 := 12) C dX10_chase_69 rfl rfl fi_9_2 ⟨by decide, by decide, rfl⟩ fl_X10_279 ?_
      refine g_getI C dX10_chase_72 rfl rfl fi_6_0 rfl fl_X10_294 ?_
      refine g_aload_n C dX10_chase_75 rfl 1 rfl ?_
      refine g_getR (k2 := 57) C dX10_chase_76 rfl rfl fi_10_8 ⟨by decide, by decide, rfl⟩ fl_X10_52 ?_
      refine g_getR (k2 := 69) C dX10_chase_79 rfl rfl fi_3_5 ⟨by decide, by decide, rfl⟩ fl_X10_195 ?_
      refine g_getI C dX10_chase_82 rfl rfl fi_2_1 rfl fl_X10_198 ?_
      refine g_callsP [.int (u7 69 1)] C dX10_chase_85 rfl (tX6_nearestTo (xl Γ) (xE Γ) (u7 69 1) u7) cf_X6_nearestTo ml_X10_393 rfl (by decide) (Nat.le_of_ble_eq_true rfl) rfl (fun r8 => ?_)
      refine g_callP [.int (u7 12 0), .int r8] C dX10_chase_88 rfl (tX8_minutesOrNone (xl Γ) (xE Γ) (u7 12 0) r8 u7) cf_X8_minutesOrNone rfl rfl ml_X10_301 rfl (by decide) (Nat.le_of_ble_eq_true rfl) rfl (fun r9 => ?_)
      refine g_istore (ls' := [(5, .int r9), (4, .int r1), (0, .ref ((xE Γ).1 1)), (1, .int v1), (2, .int v2), (3, .int v3)]) C dX10_chase_91 rfl L (by decide) rfl ?_
      refine g_iload_n C dX10_chase_93 rfl 5 rfl ?_
      refine g_if_eq 104 C dX10_chase_94 rfl (by decide) (fun c10 => ?_) (fun c10 => ?_)
      · refine g_iload C dX10_chase_104 rfl 0 rfl ?_
        exact g_iret C M dX10_chase_106 rfl rfl
      · refine g_iload C dX10_chase_97 rfl 0 rfl ?_
        refine g_bipush (v := (-9)) C dX10_chase_99 rfl (by decide) ?_
        refine g_icmp_ne 107 C dX10_chase_101 rfl (by decide) (fun c11 => ?_) (fun c11 => ?_)
        · refine g_iload C dX10_chase_107 rfl 0 rfl ?_
          refine g_aload_n C dX10_chase_109 rfl 2 rfl ?_
          refine g_getR (k2 := 57) C dX10_chase_110 rfl rfl fi_10_8 ⟨by decide, by decide, rfl⟩ fl_X10_52 ?_
          refine g_callP [] C dX10_chase_113 rfl (tX3_stepsFlown (xl Γ) (xE Γ) u7) cf_X3_stepsFlown rfl rfl ml_X10_207 rfl (by decide) (Nat.le_of_ble_eq_true rfl) rfl (fun r12 => ?_)
          refine g_bipush (v := 6) C dX10_chase_116 rfl (by decide) ?_
          refine g_idiv C dX10_chase_118 rfl (by decide) ?_
          refine g_icmp_gt 126 C dX10_chase_119 rfl (by decide) (fun c13 => ?_) (fun c13 => ?_)
          · refine g_iconst (v := 0) C dX10_chase_126 rfl (by decide) ?_
            exact g_iret C M dX10_chase_127 rfl rfl
          · refine g_iconst (v := 1) C dX10_chase_122 rfl (by decide) ?_
            refine g_goto 127 C dX10_chase_123 rfl (by decide) ?_
            exact g_iret C M dX10_chase_127 rfl rfl
        · refine g_iload C dX10_chase_104 rfl 0 rfl ?_
          exact g_iret C M dX10_chase_106 rfl rfl
    · refine g_bipush (v := (-9)) C dX10_chase_44 rfl (by decide) ?_
      exact g_iret C M dX10_chase_46 rfl rfl
  · refine g_aload_n C dX10_chase_14 rfl 1 rfl ?_
    refine g_iload C dX10_chase_15 rfl 0 rfl ?_
    refine g_callI [.int r1] C dX10_chase_17 rfl (tX10_refuse (xl Γ) (xE Γ) r1 u) cf_X10_refuse rfl rfl ml_X10_63 rfl (by decide) (Nat.le_of_ble_eq_true rfl) rfl (fun r15 u14 => ?_)
    exact g_iret C M dX10_chase_20 rfl rfl
set_option maxRecDepth 20000 in
set_option maxHeartbeats 4000000 in
theorem tX10_chase (l : Launch) (E : EE) (v1 : Int32) (v2 : Int32) (v3 : Int32) (u : Mm) : Ct l E yX10_chase cX10_chase 6 (some .int) 5 [.ref (E.1 1), .int v1, .int v2, .int v3] u cvI (gX10_chase v1 v2 v3 u) :=
  Ct_of (own := RX10) (by decide +kernel) rfl (Nat.le_of_ble_eq_true rfl) (fun p e R s m args below meth c C M => g_sub (ls' := [(0, .ref (E.1 1)), (1, .int v1), (2, .int v2), (3, .int v3)]) [0, 1, 2, 3] rfl (pX10_chase_0 C M rfl v1 v2 v3 u))
set_option maxRecDepth 20000 in
set_option maxHeartbeats 4000000 in
theorem pX10_tour_34 {Γ : GX} (C : Cx Γ RX10 cX10_tour 5) (M : Mx Γ (some .int)) (L : xn Γ = 5) (u : Mm) : Gp Γ (QM Γ cvI) 34 [(0, .ref ((xE Γ).1 1))] [] u (gX10_tour_34 u) := by
  unfold gX10_tour_34
  refine g_aload_n C dX10_tour_34 rfl 0 rfl ?_
  refine g_bipush (v := (-2)) C dX10_tour_35 rfl (by decide) ?_
  refine g_callI [.int (-2)] C dX10_tour_37 rfl (tX10_refuse (xl Γ) (xE Γ) (-2) u) cf_X10_refuse rfl rfl ml_X10_63 rfl (by decide) (Nat.le_of_ble_eq_true rfl) rfl (fun r2 u1 => ?_)
  exact g_iret C M dX10_tour_40 rfl rfl
set_option maxRecDepth 20000 in
set_option maxHeartbeats 4000000 in
theorem pX10_tour_0 {Γ : GX} (C : Cx Γ RX10 cX10_tour 5) (M : Mx Γ (some .int)) (L : xn Γ = 5) (v1 : Int32) (v2 : Int32) (u : Mm) : Gp Γ (QM Γ cvI) 0 [(0, .ref ((xE Γ).1 1)), (1, .int v1), (2, .int v2)] [] u (gX10_tour_b v1 v2 u) := by
  unfold gX10_tour_b
  refine g_iload_n C dX10_tour_0 rfl 1 rfl ?_
  refine g_if_ge 11 C dX10_tour_1 rfl (by decide) (fun c1 => ?_) (fun c1 => ?_)
  · refine g_iload_n C dX10_tour_11 rfl 1 rfl ?_
    refine g_sipush (v := 255) C dX10_tour_12 rfl (by decide) ?_
    refine g_icmp_le 25 C dX10_tour_15 rfl (by decide) (fun c2 => ?_) (fun c2 => ?_)
    · refine g_iload_n C dX10_tour_25 rfl 2 rfl ?_
      refine g_if_lt 34 C dX10_tour_26 rfl (by decide) (fun c3 => ?_) (fun c3 => ?_)
      · refine g_sub (ls' := [(0, .ref ((xE Γ).1 1))]) [0] rfl ?_
        exact pX10_tour_34 C M L u
      · refine g_iload_n C dX10_tour_29 rfl 2 rfl ?_
        refine g_iconst (v := 1) C dX10_tour_30 rfl (by decide) ?_
        refine g_icmp_le 41 C dX10_tour_31 rfl (by decide) (fun c4 => ?_) (fun c4 => ?_)
        · refine g_aload_n C dX10_tour_41 rfl 0 rfl ?_
          refine g_getR (k2 := 2) C dX10_tour_42 rfl rfl fi_10_0 ⟨by decide, by decide, rfl⟩ fl_X10_10 ?_
          refine g_getR (k2 := 12) C dX10_tour_45 rfl rfl fi_9_2 ⟨by decide, by decide, rfl⟩ fl_X10_279 ?_
          refine g_getI C dX10_tour_48 rfl rfl fi_6_0 rfl fl_X10_294 ?_
          refine g_lets (fun v3_5 => ?_)
          refine g_istore_n (ls' := [(3, .int v3_5), (0, .ref ((xE Γ).1 1)), (1, .int v1), (2, .int v2)]) C dX10_tour_51 rfl L (by decide) rfl ?_
          refine g_iload_n C dX10_tour_52 rfl 2 rfl ?_
          refine g_iconst (v := 1) C dX10_tour_53 rfl (by decide) ?_
          refine g_iload_n C dX10_tour_54 rfl 0 rfl ?_
          refine g_ishl C dX10_tour_55 rfl ?_
          refine g_iconst (v := (-1)) C dX10_tour_56 rfl (by decide) ?_
          refine g_ixor C dX10_tour_57 rfl ?_
          refine g_iand C dX10_tour_58 rfl ?_
          refine g_lets (fun v4_6 => ?_)
          refine g_istore (ls' := [(4, .int v4_6), (3, .int v3_5), (0, .ref ((xE Γ).1 1)), (1, .int v1), (2, .int v2)]) C dX10_tour_59 rfl L (by decide) rfl ?_
          refine g_aload_n C dX10_tour_61 rfl 2 rfl ?_
          refine g_getR (k2 := 71) C dX10_tour_62 rfl rfl fi_10_9 ⟨by decide, by decide, rfl⟩ fl_X10_59 ?_
          refine g_aload_n C dX10_tour_65 rfl 2 rfl ?_
          refine g_getR (k2 := 2) C dX10_tour_66 rfl rfl fi_10_0 ⟨by decide, by decide, rfl⟩ fl_X10_10 ?_
          refine g_getR (k2 := 12) C dX10_tour_69 rfl rfl fi_9_2 ⟨by decide, by decide, rfl⟩ fl_X10_279 ?_
          refine g_callV [.ref ((xE Γ).1 12)] C dX10_tour_72 rfl (tX8_measure (xl Γ) (xE Γ) rfl u) cf_X8_measure rfl rfl ml_X10_297 rfl (by decide) (Nat.le_of_ble_eq_true rfl) rfl (fun u7 => ?_)
          refine g_aload_n C dX10_tour_75 rfl 2 rfl ?_
          refine g_getR (k2 := 71) C dX10_tour_76 rfl rfl fi_10_9 ⟨by decide, by decide, rfl⟩ fl_X10_59 ?_
          refine g_iload C dX10_tour_79 rfl 0 rfl ?_
          refine g_callV [.int v4_6] C dX10_tour_81 rfl (tX8_seekTours (xl Γ) (xE Γ) v4_6 u7) cf_X8_seekTours rfl rfl ml_X10_396 rfl (by decide) (Nat.le_of_ble_eq_true rfl) rfl (fun u8 => ?_)
          refine g_iload_n C dX10_tour_84 rfl 4 rfl ?_
          refine g_if_ne 101 C dX10_tour_85 rfl (by decide) (fun c9 => ?_) (fun c9 => ?_)
          · refine g_aload_n C dX10_tour_101 rfl 2 rfl ?_
            refine g_getR (k2 := 71) C dX10_tour_102 rfl rfl fi_10_9 ⟨by decide, by decide, rfl⟩ fl_X10_59 ?_
            refine g_iload_n C dX10_tour_105 rfl 1 rfl ?_
            refine g_iload C dX10_tour_106 rfl 0 rfl ?_
            refine g_callP [.int v3_5, .int v4_6] C dX10_tour_108 rfl (tX8_tourFirst (xl Γ) (xE Γ) v3_5 v4_6 u8) cf_X8_tourFirst rfl rfl ml_X10_402 rfl (by decide) (Nat.le_of_ble_eq_true rfl) rfl (fun r10 => ?_)
            exact g_iret C M dX10_tour_111 rfl rfl
          · refine g_aload_n C dX10_tour_88 rfl 2 rfl ?_
            refine g_getR (k2 := 71) C dX10_tour_89 rfl rfl fi_10_9 ⟨by decide, by decide, rfl⟩ fl_X10_59 ?_
            refine g_iload_n C dX10_tour_92 rfl 1 rfl ?_
            refine g_iload C dX10_tour_93 rfl 0 rfl ?_
            refine g_callP [.int v3_5, .int v4_6] C dX10_tour_95 rfl (tX8_tourMinutes (xl Γ) (xE Γ) v3_5 v4_6 u8) cf_X8_tourMinutes rfl rfl ml_X10_399 rfl (by decide) (Nat.le_of_ble_eq_true rfl) rfl (fun r11 => ?_)
            refine g_goto 111 C dX10_tour_98 rfl (by decide) ?_
            exact g_iret C M dX10_tour_111 rfl rfl
        · refine g_sub (ls' := [(0, .ref ((xE Γ).1 1))]) [0] rfl ?_
          exact pX10_tour_34 C M L u
    · refine g_aload_n C dX10_tour_18 rfl 0 rfl ?_
      refine g_bipush (v := (-6)) C dX10_tour_19 rfl (by decide) ?_
      refine g_callI [.int (-6)] C dX10_tour_21 rfl (tX10_refuse (xl Γ) (xE Γ) (-6) u) cf_X10_refuse rfl rfl ml_X10_63 rfl (by decide) (Nat.le_of_ble_eq_true rfl) rfl (fun r13 u12 => ?_)
      exact g_iret C M dX10_tour_24 rfl rfl
  · refine g_aload_n C dX10_tour_4 rfl 0 rfl ?_
    refine g_bipush (v := (-4)) C dX10_tour_5 rfl (by decide) ?_
    refine g_callI [.int (-4)] C dX10_tour_7 rfl (tX10_refuse (xl Γ) (xE Γ) (-4) u) cf_X10_refuse rfl rfl ml_X10_63 rfl (by decide) (Nat.le_of_ble_eq_true rfl) rfl (fun r15 u14 => ?_)
    exact g_iret C M dX10_tour_10 rfl rfl
set_option maxRecDepth 20000 in
set_option maxHeartbeats 4000000 in
theorem tX10_tour (l : Launch) (E : EE) (v1 : Int32) (v2 : Int32) (u : Mm) : Ct l E yX10_tour cX10_tour 5 (some .int) 5 [.ref (E.1 1), .int v1, .int v2] u cvI (gX10_tour v1 v2 u) :=
  Ct_of (own := RX10) (by decide +kernel) rfl (Nat.le_of_ble_eq_true rfl) (fun p e R s m args below meth c C M => g_sub (ls' := [(0, .ref (E.1 1)), (1, .int v1), (2, .int v2)]) [0, 1, 2] rfl (pX10_tour_0 C M rfl v1 v2 u))
set_option maxRecDepth 20000 in
set_option maxHeartbeats 4000000 in
theorem pX10_twoCars_31s {Γ : GX} (C : Cx Γ RX10 cX10_twoCars 4) (M : Mx Γ (some .int)) (L : xn Γ = 4) (v1 : Int32) {j31 : Int32 → Int32 → Mm → Option (Int32 × Mm)} (hj31 : ∀ (v2 : Int32) (v3 : Int32) (u : Mm), Gp Γ (QM Γ cvI) 31 [(0, .ref ((xE Γ).1 1)), (1, .int v1), (2, .int v2), (3, .int v3)] [] u (j31 v2 v3 u)) (v2 : Int32) (v3 : Int32) (u : Mm) : Gp Γ (QM Γ cvI) 31 [(0, .ref ((xE Γ).1 1)), (1, .int v1), (2, .int v2), (3, .int v3)] [] u (gX10_twoCars_31_Ls v1 j31 v2 v3 u) := by
  unfold gX10_twoCars_31_Ls
  refine g_iload_n C dX10_twoCars_31 rfl 3 rfl ?_
  refine g_bipush (v := 8) C dX10_twoCars_32 rfl (by decide) ?_
  refine g_icmp_ge 79 C dX10_twoCars_34 rfl (by decide) (fun c1 => ?_) (fun c1 => ?_)
  · refine g_iload_n C dX10_twoCars_79 rfl 2 rfl ?_
    exact g_iret C M dX10_twoCars_80 rfl rfl
  · refine g_aload_n C dX10_twoCars_37 rfl 0 rfl ?_
    refine g_getR (k2 := 71) C dX10_twoCars_38 rfl rfl fi_10_9 ⟨by decide, by decide, rfl⟩ fl_X10_59 ?_
    refine g_iload_n C dX10_twoCars_41 rfl 1 rfl ?_
    refine g_iload_n C dX10_twoCars_42 rfl 3 rfl ?_
    refine g_callP [.int v1, .int v3] C dX10_twoCars_43 rfl (tX8_minutes (xl Γ) (xE Γ) v1 v3 u) cf_X8_minutes rfl rfl ml_X10_321 rfl (by decide) (Nat.le_of_ble_eq_true rfl) rfl (fun r2 => ?_)
    refine g_aload_n C dX10_twoCars_46 rfl 0 rfl ?_
    refine g_getR (k2 := 71) C dX10_twoCars_47 rfl rfl fi_10_9 ⟨by decide, by decide, rfl⟩ fl_X10_59 ?_
    refine g_aload_n C dX10_twoCars_50 rfl 0 rfl ?_
    refine g_getR (k2 := 2) C dX10_twoCars_51 rfl rfl fi_10_0 ⟨by decide, by decide, rfl⟩ fl_X10_10 ?_
    refine g_getR (k2 := 12) C dX10_twoCars_54 rfl rfl fi_9_2 ⟨by decide, by decide, rfl⟩ fl_X10_279 ?_
    refine g_getI C dX10_twoCars_57 rfl rfl fi_6_0 rfl fl_X10_294 ?_
    refine g_iload_n C dX10_twoCars_60 rfl 3 rfl ?_
    refine g_callP [.int (u 12 0), .int v3] C dX10_twoCars_61 rfl (tX8_minutes (xl Γ) (xE Γ) (u 12 0) v3 u) cf_X8_minutes rfl rfl ml_X10_321 rfl (by decide) (Nat.le_of_ble_eq_true rfl) rfl (fun r3 => ?_)
    refine g_icmp_ge 73 C dX10_twoCars_64 rfl (by decide) (fun c4 => ?_) (fun c4 => ?_)
    · refine g_iincL (fun v3_5 => [(3, .int v3_5), (0, .ref ((xE Γ).1 1)), (1, .int v1), (2, .int v2)]) C dX10_twoCars_73 rfl L (by decide) (k := 3) rfl (iinc_1 _) (fun _ => rfl) (fun v3_5 => ?_)
      refine g_goto 31 C dX10_twoCars_76 rfl (by decide) ?_
      refine g_sub (ls' := [(0, .ref ((xE Γ).1 1)), (1, .int v1), (2, .int v2), (3, .int v3_5)]) [1, 2, 3, 0] rfl ?_
      exact hj31 v2 v3_5 u
    · refine g_iload_n C dX10_twoCars_67 rfl 2 rfl ?_
      refine g_iconst (v := 1) C dX10_twoCars_68 rfl (by decide) ?_
      refine g_iload_n C dX10_twoCars_69 rfl 3 rfl ?_
      refine g_ishl C dX10_twoCars_70 rfl ?_
      refine g_ior C dX10_twoCars_71 rfl ?_
      refine g_lets (fun v2_6 => ?_)
      refine g_istore_n (ls' := [(2, .int v2_6), (0, .ref ((xE Γ).1 1)), (1, .int v1), (3, .int v3)]) C dX10_twoCars_72 rfl L (by decide) rfl ?_
      refine g_iincL (fun v3_7 => [(3, .int v3_7), (2, .int v2_6), (0, .ref ((xE Γ).1 1)), (1, .int v1)]) C dX10_twoCars_73 rfl L (by decide) (k := 3) rfl (iinc_1 _) (fun _ => rfl) (fun v3_7 => ?_)
      refine g_goto 31 C dX10_twoCars_76 rfl (by decide) ?_
      refine g_sub (ls' := [(0, .ref ((xE Γ).1 1)), (1, .int v1), (2, .int v2_6), (3, .int v3_7)]) [2, 3, 1, 0] rfl ?_
      exact hj31 v2_6 v3_7 u
set_option maxRecDepth 20000 in
set_option maxHeartbeats 4000000 in
theorem pX10_twoCars_31 {Γ : GX} (C : Cx Γ RX10 cX10_twoCars 4) (M : Mx Γ (some .int)) (L : xn Γ = 4) (v1 : Int32) : ∀ (n : Nat) (v2 : Int32) (v3 : Int32) (u : Mm), Gp Γ (QM Γ cvI) 31 [(0, .ref ((xE Γ).1 1)), (1, .int v1), (2, .int v2), (3, .int v3)] [] u (gX10_twoCars_31_L v1 n v2 v3 u) := by
  intro n
  induction n with
  | zero => intro _ _ _; exact g_none
  | succ n ih => intro v2 v3 u; exact pX10_twoCars_31s C M L v1 ih v2 v3 u

set_option maxRecDepth 20000 in
set_option maxHeartbeats 4000000 in
theorem pX10_twoCars_0 {Γ : GX} (C : Cx Γ RX10 cX10_twoCars 4) (M : Mx Γ (some .int)) (L : xn Γ = 4) (v1 : Int32) (u : Mm) : Gp Γ (QM Γ cvI) 0 [(0, .ref ((xE Γ).1 1)), (1, .int v1)] [] u (gX10_twoCars_b v1 u) := by
  unfold gX10_twoCars_b
  refine g_iload_n C dX10_twoCars_0 rfl 1 rfl ?_
  refine g_callsP [.int v1] C dX10_twoCars_1 rfl (tX10_isPlace (xl Γ) (xE Γ) v1 u) cf_X10_isPlace ml_X10_291 rfl (by decide) (Nat.le_of_ble_eq_true rfl) rfl (fun r1 => ?_)
  refine g_if_ne 13 C dX10_twoCars_4 rfl (by decide) (fun c2 => ?_) (fun c2 => ?_)
  · refine g_aload_n C dX10_twoCars_13 rfl 0 rfl ?_
    refine g_getR (k2 := 71) C dX10_twoCars_14 rfl rfl fi_10_9 ⟨by decide, by decide, rfl⟩ fl_X10_59 ?_
    refine g_aload_n C dX10_twoCars_17 rfl 0 rfl ?_
    refine g_getR (k2 := 2) C dX10_twoCars_18 rfl rfl fi_10_0 ⟨by decide, by decide, rfl⟩ fl_X10_10 ?_
    refine g_getR (k2 := 12) C dX10_twoCars_21 rfl rfl fi_9_2 ⟨by decide, by decide, rfl⟩ fl_X10_279 ?_
    refine g_callV [.ref ((xE Γ).1 12)] C dX10_twoCars_24 rfl (tX8_measure (xl Γ) (xE Γ) rfl u) cf_X8_measure rfl rfl ml_X10_297 rfl (by decide) (Nat.le_of_ble_eq_true rfl) rfl (fun u3 => ?_)
    refine g_iconst (v := 0) C dX10_twoCars_27 rfl (by decide) ?_
    refine g_istore_n (ls' := [(2, .int 0), (0, .ref ((xE Γ).1 1)), (1, .int v1)]) C dX10_twoCars_28 rfl L (by decide) rfl ?_
    refine g_iconst (v := 0) C dX10_twoCars_29 rfl (by decide) ?_
    refine g_istore_n (ls' := [(3, .int 0), (2, .int 0), (0, .ref ((xE Γ).1 1)), (1, .int v1)]) C dX10_twoCars_30 rfl L (by decide) rfl ?_
    refine g_sub (ls' := [(0, .ref ((xE Γ).1 1)), (1, .int v1), (2, .int 0), (3, .int 0)]) [2, 3, 1, 0] rfl ?_
    exact pX10_twoCars_31 C M L v1 FU 0 0 u3
  · refine g_aload_n C dX10_twoCars_7 rfl 0 rfl ?_
    refine g_iconst (v := (-1)) C dX10_twoCars_8 rfl (by decide) ?_
    refine g_callI [.int (-1)] C dX10_twoCars_9 rfl (tX10_refuse (xl Γ) (xE Γ) (-1) u) cf_X10_refuse rfl rfl ml_X10_63 rfl (by decide) (Nat.le_of_ble_eq_true rfl) rfl (fun r5 u4 => ?_)
    exact g_iret C M dX10_twoCars_12 rfl rfl
set_option maxRecDepth 20000 in
set_option maxHeartbeats 4000000 in
theorem tX10_twoCars (l : Launch) (E : EE) (v1 : Int32) (u : Mm) : Ct l E yX10_twoCars cX10_twoCars 4 (some .int) 4 [.ref (E.1 1), .int v1] u cvI (gX10_twoCars v1 u) :=
  Ct_of (own := RX10) (by decide +kernel) rfl (Nat.le_of_ble_eq_true rfl) (fun p e R s m args below meth c C M => g_sub (ls' := [(0, .ref (E.1 1)), (1, .int v1)]) [0, 1] rfl (pX10_twoCars_0 C M rfl v1 u))
set_option maxRecDepth 20000 in
set_option maxHeartbeats 4000000 in
theorem pX10_image_0 {Γ : GX} (C : Cx Γ RX10 cX10_image 2) (M : Mx Γ (some .int)) (L : xn Γ = 1) (u : Mm) : Gp Γ (QM Γ cvI) 0 [(0, .ref ((xE Γ).1 1))] [] u (gX10_image_b u) := by
  unfold gX10_image_b
  refine g_aload_n C dX10_image_0 rfl 0 rfl ?_
  refine g_getR (k2 := 28) C dX10_image_1 rfl rfl fi_10_2 ⟨by decide, by decide, rfl⟩ fl_X10_19 ?_
  refine g_aload_n C dX10_image_4 rfl 0 rfl ?_
  refine g_getR (k2 := 2) C dX10_image_5 rfl rfl fi_10_0 ⟨by decide, by decide, rfl⟩ fl_X10_10 ?_
  refine g_callV [.ref ((xE Γ).1 2)] C dX10_image_8 rfl (tX9_copyFrom (xl Γ) (xE Γ) rfl rfl u) cf_X9_copyFrom rfl rfl ml_X10_77 rfl (by decide) (Nat.le_of_ble_eq_true rfl) rfl (fun u1 => ?_)
  refine g_aload_n C dX10_image_11 rfl 0 rfl ?_
  refine g_iconst (v := 1) C dX10_image_12 rfl (by decide) ?_
  refine g_putZ C dX10_image_13 rfl rfl fp_10_3 rfl fl_X10_405 (by decide) ?_
  refine g_letm (fun u2 => ?_)
  refine g_aload_n C dX10_image_16 rfl 0 rfl ?_
  refine g_getR (k2 := 2) C dX10_image_17 rfl rfl fi_10_0 ⟨by decide, by decide, rfl⟩ fl_X10_10 ?_
  refine g_getR (k2 := 14) C dX10_image_20 rfl rfl fi_9_3 ⟨by decide, by decide, rfl⟩ fl_X10_129 ?_
  refine g_getI C dX10_image_23 rfl rfl fi_2_7 rfl fl_X10_165 ?_
  exact g_iret C M dX10_image_26 rfl rfl
set_option maxRecDepth 20000 in
set_option maxHeartbeats 4000000 in
theorem tX10_image (l : Launch) (E : EE) (u : Mm) : Ct l E yX10_image cX10_image 1 (some .int) 2 [.ref (E.1 1)] u cvI (gX10_image u) :=
  Ct_of (own := RX10) (by decide +kernel) rfl (Nat.le_of_ble_eq_true rfl) (fun p e R s m args below meth c C M => g_sub (ls' := [(0, .ref (E.1 1))]) [0] rfl (pX10_image_0 C M rfl u))
set_option maxRecDepth 20000 in
set_option maxHeartbeats 4000000 in
theorem pX10_restore_0 {Γ : GX} (C : Cx Γ RX10 cX10_restore 2) (M : Mx Γ (some .int)) (L : xn Γ = 1) (u : Mm) : Gp Γ (QM Γ cvI) 0 [(0, .ref ((xE Γ).1 1))] [] u (gX10_restore_b u) := by
  unfold gX10_restore_b
  refine g_aload_n C dX10_restore_0 rfl 0 rfl ?_
  refine g_getI C dX10_restore_1 rfl rfl fi_10_3 rfl fl_X10_405 ?_
  refine g_if_ne 14 C dX10_restore_4 rfl (by decide) (fun c1 => ?_) (fun c1 => ?_)
  · refine g_aload_n C dX10_restore_14 rfl 0 rfl ?_
    refine g_getR (k2 := 2) C dX10_restore_15 rfl rfl fi_10_0 ⟨by decide, by decide, rfl⟩ fl_X10_10 ?_
    refine g_aload_n C dX10_restore_18 rfl 0 rfl ?_
    refine g_getR (k2 := 28) C dX10_restore_19 rfl rfl fi_10_2 ⟨by decide, by decide, rfl⟩ fl_X10_19 ?_
    refine g_callV [.ref ((xE Γ).1 28)] C dX10_restore_22 rfl (tX9_copyFrom (xl Γ) (xE Γ) rfl rfl u) cf_X9_copyFrom rfl rfl ml_X10_77 rfl (by decide) (Nat.le_of_ble_eq_true rfl) rfl (fun u2 => ?_)
    refine g_aload_n C dX10_restore_25 rfl 0 rfl ?_
    refine g_getR (k2 := 41) C dX10_restore_26 rfl rfl fi_10_4 ⟨by decide, by decide, rfl⟩ fl_X10_25 ?_
    refine g_callV [] C dX10_restore_29 rfl (tX4_forget (xl Γ) (xE Γ) u2) cf_X4_forget rfl rfl ml_X10_92 rfl (by decide) (Nat.le_of_ble_eq_true rfl) rfl (fun u3 => ?_)
    refine g_aload_n C dX10_restore_32 rfl 0 rfl ?_
    refine g_getR (k2 := 2) C dX10_restore_33 rfl rfl fi_10_0 ⟨by decide, by decide, rfl⟩ fl_X10_10 ?_
    refine g_getR (k2 := 14) C dX10_restore_36 rfl rfl fi_9_3 ⟨by decide, by decide, rfl⟩ fl_X10_129 ?_
    refine g_getI C dX10_restore_39 rfl rfl fi_2_7 rfl fl_X10_165 ?_
    exact g_iret C M dX10_restore_42 rfl rfl
  · refine g_aload_n C dX10_restore_7 rfl 0 rfl ?_
    refine g_bipush (v := (-3)) C dX10_restore_8 rfl (by decide) ?_
    refine g_callI [.int (-3)] C dX10_restore_10 rfl (tX10_refuse (xl Γ) (xE Γ) (-3) u) cf_X10_refuse rfl rfl ml_X10_63 rfl (by decide) (Nat.le_of_ble_eq_true rfl) rfl (fun r5 u4 => ?_)
    exact g_iret C M dX10_restore_13 rfl rfl
set_option maxRecDepth 20000 in
set_option maxHeartbeats 4000000 in
theorem tX10_restore (l : Launch) (E : EE) (u : Mm) : Ct l E yX10_restore cX10_restore 1 (some .int) 2 [.ref (E.1 1)] u cvI (gX10_restore u) :=
  Ct_of (own := RX10) (by decide +kernel) rfl (Nat.le_of_ble_eq_true rfl) (fun p e R s m args below meth c C M => g_sub (ls' := [(0, .ref (E.1 1))]) [0] rfl (pX10_restore_0 C M rfl u))
set_option maxRecDepth 20000 in
set_option maxHeartbeats 4000000 in
theorem pX10_count_229 {Γ : GX} (C : Cx Γ RX10 cX10_count 0) (M : Mx Γ (some .int)) (L : xn Γ = 2) (u : Mm) (v1 : Int32) : Gp Γ (QM Γ (cvP u)) 229 [(0, .ref ((xE Γ).1 1)), (1, .int v1)] [] u (gX10_count_229 v1 u) := by
  unfold gX10_count_229
  refine g_iload_n C dX10_count_229 rfl 1 rfl ?_
  refine g_bipush (v := 11) C dX10_count_230 rfl (by decide) ?_
  refine g_icmp_lt 253 C dX10_count_232 rfl (by decide) (fun c1 => ?_) (fun c1 => ?_)
  · refine g_bipush (v := (-9)) C dX10_count_253 rfl (by decide) ?_
    exact g_iret C M dX10_count_255 rfl rfl
  · refine g_iload_n C dX10_count_235 rfl 1 rfl ?_
    refine g_bipush (v := 16) C dX10_count_236 rfl (by decide) ?_
    refine g_icmp_gt 253 C dX10_count_238 rfl (by decide) (fun c2 => ?_) (fun c2 => ?_)
    · refine g_bipush (v := (-9)) C dX10_count_253 rfl (by decide) ?_
      exact g_iret C M dX10_count_255 rfl rfl
    · refine g_aload_n C dX10_count_241 rfl 0 rfl ?_
      refine g_getR (k2 := 56) C dX10_count_242 rfl rfl fi_10_7 ⟨by decide, by decide, rfl⟩ fl_X10_45 ?_
      refine g_iload_n C dX10_count_245 rfl 1 rfl ?_
      refine g_bipush (v := 10) C dX10_count_246 rfl (by decide) ?_
      refine g_isub C dX10_count_248 rfl ?_
      refine g_gd (fun hi3 => ?_)
      refine g_iald C dX10_count_249 rfl rfl rfl hi3 ?_
      refine g_goto 255 C dX10_count_250 rfl (by decide) ?_
      exact g_iret C M dX10_count_255 rfl rfl
set_option maxRecDepth 20000 in
set_option maxHeartbeats 4000000 in
theorem pX10_count_0 {Γ : GX} (C : Cx Γ RX10 cX10_count 0) (M : Mx Γ (some .int)) (L : xn Γ = 2) (u : Mm) (v1 : Int32) : Gp Γ (QM Γ (cvP u)) 0 [(0, .ref ((xE Γ).1 1)), (1, .int v1)] [] u (gX10_count_b v1 u) := by
  unfold gX10_count_b
  refine g_iload_n C dX10_count_0 rfl 1 rfl ?_
  refine g_if (fun c1 => ?_) (fun c1 => ?_)
  · refine g_tabI 91 92 C dX10_count_1 rfl (by rw [c1]; exact ⟨by decide, by decide, rfl⟩) (by decide) ?_
    refine g_aload_n C dX10_count_92 rfl 0 rfl ?_
    refine g_getR (k2 := 2) C dX10_count_93 rfl rfl fi_10_0 ⟨by decide, by decide, rfl⟩ fl_X10_10 ?_
    refine g_getR (k2 := 6) C dX10_count_96 rfl rfl fi_9_1 ⟨by decide, by decide, rfl⟩ fl_X10_119 ?_
    refine g_getI C dX10_count_99 rfl rfl fi_1_0 rfl fl_X10_409 ?_
    exact g_iret C M dX10_count_102 rfl rfl
  refine g_if (fun c2 => ?_) (fun c2 => ?_)
  · refine g_tabI 102 103 C dX10_count_1 rfl (by rw [c2]; exact ⟨by decide, by decide, rfl⟩) (by decide) ?_
    refine g_aload_n C dX10_count_103 rfl 0 rfl ?_
    refine g_getR (k2 := 2) C dX10_count_104 rfl rfl fi_10_0 ⟨by decide, by decide, rfl⟩ fl_X10_10 ?_
    refine g_getR (k2 := 14) C dX10_count_107 rfl rfl fi_9_3 ⟨by decide, by decide, rfl⟩ fl_X10_129 ?_
    refine g_getI C dX10_count_110 rfl rfl fi_2_0 rfl fl_X10_175 ?_
    exact g_iret C M dX10_count_113 rfl rfl
  refine g_if (fun c3 => ?_) (fun c3 => ?_)
  · refine g_tabI 113 114 C dX10_count_1 rfl (by rw [c3]; exact ⟨by decide, by decide, rfl⟩) (by decide) ?_
    refine g_aload_n C dX10_count_114 rfl 0 rfl ?_
    refine g_getR (k2 := 2) C dX10_count_115 rfl rfl fi_10_0 ⟨by decide, by decide, rfl⟩ fl_X10_10 ?_
    refine g_getR (k2 := 14) C dX10_count_118 rfl rfl fi_9_3 ⟨by decide, by decide, rfl⟩ fl_X10_129 ?_
    refine g_getI C dX10_count_121 rfl rfl fi_2_1 rfl fl_X10_198 ?_
    exact g_iret C M dX10_count_124 rfl rfl
  refine g_if (fun c4 => ?_) (fun c4 => ?_)
  · refine g_tabI 124 125 C dX10_count_1 rfl (by rw [c4]; exact ⟨by decide, by decide, rfl⟩) (by decide) ?_
    refine g_aload_n C dX10_count_125 rfl 0 rfl ?_
    refine g_getR (k2 := 2) C dX10_count_126 rfl rfl fi_10_0 ⟨by decide, by decide, rfl⟩ fl_X10_10 ?_
    refine g_getR (k2 := 14) C dX10_count_129 rfl rfl fi_9_3 ⟨by decide, by decide, rfl⟩ fl_X10_129 ?_
    refine g_getI C dX10_count_132 rfl rfl fi_2_2 rfl fl_X10_201 ?_
    exact g_iret C M dX10_count_135 rfl rfl
  refine g_if (fun c5 => ?_) (fun c5 => ?_)
  · refine g_tabI 135 136 C dX10_count_1 rfl (by rw [c5]; exact ⟨by decide, by decide, rfl⟩) (by decide) ?_
    refine g_aload_n C dX10_count_136 rfl 0 rfl ?_
    refine g_getR (k2 := 2) C dX10_count_137 rfl rfl fi_10_0 ⟨by decide, by decide, rfl⟩ fl_X10_10 ?_
    refine g_getR (k2 := 14) C dX10_count_140 rfl rfl fi_9_3 ⟨by decide, by decide, rfl⟩ fl_X10_129 ?_
    refine g_getI C dX10_count_143 rfl rfl fi_2_3 rfl fl_X10_364 ?_
    exact g_iret C M dX10_count_146 rfl rfl
  refine g_if (fun c6 => ?_) (fun c6 => ?_)
  · refine g_tabI 146 147 C dX10_count_1 rfl (by rw [c6]; exact ⟨by decide, by decide, rfl⟩) (by decide) ?_
    refine g_aload_n C dX10_count_147 rfl 0 rfl ?_
    refine g_getR (k2 := 2) C dX10_count_148 rfl rfl fi_10_0 ⟨by decide, by decide, rfl⟩ fl_X10_10 ?_
    refine g_getR (k2 := 14) C dX10_count_151 rfl rfl fi_9_3 ⟨by decide, by decide, rfl⟩ fl_X10_129 ?_
    refine g_getI C dX10_count_154 rfl rfl fi_2_4 rfl fl_X10_162 ?_
    exact g_iret C M dX10_count_157 rfl rfl
  refine g_if (fun c7 => ?_) (fun c7 => ?_)
  · refine g_tabI 157 158 C dX10_count_1 rfl (by rw [c7]; exact ⟨by decide, by decide, rfl⟩) (by decide) ?_
    refine g_aload_n C dX10_count_158 rfl 0 rfl ?_
    refine g_getR (k2 := 2) C dX10_count_159 rfl rfl fi_10_0 ⟨by decide, by decide, rfl⟩ fl_X10_10 ?_
    refine g_getR (k2 := 14) C dX10_count_162 rfl rfl fi_9_3 ⟨by decide, by decide, rfl⟩ fl_X10_129 ?_
    refine g_getI C dX10_count_165 rfl rfl fi_2_5 rfl fl_X10_133 ?_
    exact g_iret C M dX10_count_168 rfl rfl
  refine g_if (fun c8 => ?_) (fun c8 => ?_)
  · refine g_tabI 168 169 C dX10_count_1 rfl (by rw [c8]; exact ⟨by decide, by decide, rfl⟩) (by decide) ?_
    refine g_aload_n C dX10_count_169 rfl 0 rfl ?_
    refine g_getR (k2 := 2) C dX10_count_170 rfl rfl fi_10_0 ⟨by decide, by decide, rfl⟩ fl_X10_10 ?_
    refine g_getR (k2 := 14) C dX10_count_173 rfl rfl fi_9_3 ⟨by decide, by decide, rfl⟩ fl_X10_129 ?_
    refine g_getI C dX10_count_176 rfl rfl fi_2_6 rfl fl_X10_412 ?_
    exact g_iret C M dX10_count_179 rfl rfl
  refine g_if (fun c9 => ?_) (fun c9 => ?_)
  · refine g_tabI 179 180 C dX10_count_1 rfl (by rw [c9]; exact ⟨by decide, by decide, rfl⟩) (by decide) ?_
    refine g_aload_n C dX10_count_180 rfl 0 rfl ?_
    refine g_getR (k2 := 2) C dX10_count_181 rfl rfl fi_10_0 ⟨by decide, by decide, rfl⟩ fl_X10_10 ?_
    refine g_getR (k2 := 14) C dX10_count_184 rfl rfl fi_9_3 ⟨by decide, by decide, rfl⟩ fl_X10_129 ?_
    refine g_getI C dX10_count_187 rfl rfl fi_2_7 rfl fl_X10_165 ?_
    exact g_iret C M dX10_count_190 rfl rfl
  refine g_if (fun c10 => ?_) (fun c10 => ?_)
  · refine g_tabI 190 191 C dX10_count_1 rfl (by rw [c10]; exact ⟨by decide, by decide, rfl⟩) (by decide) ?_
    refine g_aload_n C dX10_count_191 rfl 0 rfl ?_
    refine g_getR (k2 := 51) C dX10_count_192 rfl rfl fi_10_5 ⟨by decide, by decide, rfl⟩ fl_X10_32 ?_
    refine g_getR (k2 := 52) C dX10_count_195 rfl rfl fi_5_0 ⟨by decide, by decide, rfl⟩ fl_X10_67 ?_
    refine g_getI C dX10_count_198 rfl rfl fi_7_0 rfl fl_X10_304 ?_
    exact g_iret C M dX10_count_201 rfl rfl
  refine g_if (fun c11 => ?_) (fun c11 => ?_)
  · refine g_tabI 201 202 C dX10_count_1 rfl (by rw [c11]; exact ⟨by decide, by decide, rfl⟩) (by decide) ?_
    refine g_aload_n C dX10_count_202 rfl 0 rfl ?_
    refine g_getR (k2 := 54) C dX10_count_203 rfl rfl fi_10_6 ⟨by decide, by decide, rfl⟩ fl_X10_41 ?_
    refine g_getI C dX10_count_206 rfl rfl fi_7_0 rfl fl_X10_304 ?_
    exact g_iret C M dX10_count_209 rfl rfl
  refine g_if (fun c12 => ?_) (fun c12 => ?_)
  · refine g_tabI 228 229 C dX10_count_1 rfl (by rw [c12]; exact ⟨by decide, by decide, rfl⟩) (by decide) ?_
    exact pX10_count_229 C M L u v1
  refine g_if (fun c13 => ?_) (fun c13 => ?_)
  · refine g_tabI 228 229 C dX10_count_1 rfl (by rw [c13]; exact ⟨by decide, by decide, rfl⟩) (by decide) ?_
    exact pX10_count_229 C M L u v1
  refine g_if (fun c14 => ?_) (fun c14 => ?_)
  · refine g_tabI 228 229 C dX10_count_1 rfl (by rw [c14]; exact ⟨by decide, by decide, rfl⟩) (by decide) ?_
    exact pX10_count_229 C M L u v1
  refine g_if (fun c15 => ?_) (fun c15 => ?_)
  · refine g_tabI 228 229 C dX10_count_1 rfl (by rw [c15]; exact ⟨by decide, by decide, rfl⟩) (by decide) ?_
    exact pX10_count_229 C M L u v1
  refine g_if (fun c16 => ?_) (fun c16 => ?_)
  · refine g_tabI 228 229 C dX10_count_1 rfl (by rw [c16]; exact ⟨by decide, by decide, rfl⟩) (by decide) ?_
    exact pX10_count_229 C M L u v1
  refine g_if (fun c17 => ?_) (fun c17 => ?_)
  · refine g_tabI 228 229 C dX10_count_1 rfl (by rw [c17]; exact ⟨by decide, by decide, rfl⟩) (by decide) ?_
    exact pX10_count_229 C M L u v1
  refine g_if (fun c18 => ?_) (fun c18 => ?_)
  · refine g_tabI 209 210 C dX10_count_1 rfl (by rw [c18]; exact ⟨by decide, by decide, rfl⟩) (by decide) ?_
    refine g_aload_n C dX10_count_210 rfl 0 rfl ?_
    refine g_getR (k2 := 2) C dX10_count_211 rfl rfl fi_10_0 ⟨by decide, by decide, rfl⟩ fl_X10_10 ?_
    refine g_getR (k2 := 12) C dX10_count_214 rfl rfl fi_9_2 ⟨by decide, by decide, rfl⟩ fl_X10_279 ?_
    refine g_getI C dX10_count_217 rfl rfl fi_6_0 rfl fl_X10_294 ?_
    exact g_iret C M dX10_count_220 rfl rfl
  refine g_if (fun c19 => ?_) (fun c19 => ?_)
  · refine g_tabI 220 221 C dX10_count_1 rfl (by rw [c19]; exact ⟨by decide, by decide, rfl⟩) (by decide) ?_
    refine g_aload_n C dX10_count_221 rfl 0 rfl ?_
    refine g_getR (k2 := 41) C dX10_count_222 rfl rfl fi_10_4 ⟨by decide, by decide, rfl⟩ fl_X10_25 ?_
    refine g_getI C dX10_count_225 rfl rfl fi_4_0 rfl fl_X10_178 ?_
    exact g_iret C M dX10_count_228 rfl rfl
  have ec1 := lv_neT c1 (a := 0) (by decide)
  have ec2 := lv_neT c2 (a := 1) (by decide)
  have ec3 := lv_neT c3 (a := 2) (by decide)
  have ec4 := lv_neT c4 (a := 3) (by decide)
  have ec5 := lv_neT c5 (a := 4) (by decide)
  have ec6 := lv_neT c6 (a := 5) (by decide)
  have ec7 := lv_neT c7 (a := 6) (by decide)
  have ec8 := lv_neT c8 (a := 7) (by decide)
  have ec9 := lv_neT c9 (a := 8) (by decide)
  have ec10 := lv_neT c10 (a := 9) (by decide)
  have ec11 := lv_neT c11 (a := 10) (by decide)
  have ec12 := lv_neT c12 (a := 11) (by decide)
  have ec13 := lv_neT c13 (a := 12) (by decide)
  have ec14 := lv_neT c14 (a := 13) (by decide)
  have ec15 := lv_neT c15 (a := 14) (by decide)
  have ec16 := lv_neT c16 (a := 15) (by decide)
  have ec17 := lv_neT c17 (a := 16) (by decide)
  have ec18 := lv_neT c18 (a := 17) (by decide)
  have ec19 := lv_neT c19 (a := 18) (by decide)
  refine g_tabO 229 C dX10_count_1 rfl (by omega) (by decide) ?_
  exact pX10_count_229 C M L u v1
set_option maxRecDepth 20000 in
set_option maxHeartbeats 4000000 in
theorem tX10_count (l : Launch) (E : EE) (v1 : Int32) (u : Mm) : Ct l E yX10_count cX10_count 2 (some .int) 0 [.ref (E.1 1), .int v1] u (cvP u) (gX10_count v1 u) :=
  Ct_of (own := RX10) (by decide +kernel) rfl (Nat.le_of_ble_eq_true rfl) (fun p e R s m args below meth c C M => g_sub (ls' := [(0, .ref (E.1 1)), (1, .int v1)]) [0, 1] rfl (pX10_count_0 C M rfl u v1))
set_option maxRecDepth 20000 in
set_option maxHeartbeats 4000000 in
theorem pX11_in_0 {Γ : GX} (C : Cx Γ RX11 cX11_in 0) (M : Mx Γ (some .boolean)) (L : xn Γ = 6) (u : Mm) (v0 : Int64) (v2 : Int64) (v4 : Int64) : Gp Γ (QM Γ (cvP u)) 0 [(0, .long v0), (2, .long v2), (4, .long v4)] [] u (gX11_in_b v0 v2 v4) := by
  unfold gX11_in_b
  refine g_lload_n C dX11_in_0 rfl 0 rfl ?_
  refine g_lload_n C dX11_in_1 rfl 1 rfl ?_
  refine g_lcmp C dX11_in_2 rfl ?_
  refine g_if_lt 17 C dX11_in_3 rfl (by decide) (fun c1 => ?_) (fun c1 => ?_)
  · refine g_iconst (v := 0) C dX11_in_17 rfl (by decide) ?_
    exact g_zret C M dX11_in_18 rfl (by decide) rfl
  · refine g_lload_n C dX11_in_6 rfl 0 rfl ?_
    refine g_lload C dX11_in_7 rfl 2 rfl ?_
    refine g_lcmp C dX11_in_9 rfl ?_
    refine g_if_gt 17 C dX11_in_10 rfl (by decide) (fun c2 => ?_) (fun c2 => ?_)
    · refine g_iconst (v := 0) C dX11_in_17 rfl (by decide) ?_
      exact g_zret C M dX11_in_18 rfl (by decide) rfl
    · refine g_iconst (v := 1) C dX11_in_13 rfl (by decide) ?_
      refine g_goto 18 C dX11_in_14 rfl (by decide) ?_
      exact g_zret C M dX11_in_18 rfl (by decide) rfl
set_option maxRecDepth 20000 in
set_option maxHeartbeats 4000000 in
theorem tX11_in (l : Launch) (E : EE) (v0 : Int64) (v2 : Int64) (v4 : Int64) (u : Mm) : Ct l E yX11_in cX11_in 6 (some .boolean) 0 [.long v0, .long v2, .long v4] u (cvP u) (gX11_in v0 v2 v4) :=
  Ct_of (own := RX11) (by decide +kernel) rfl (Nat.le_of_ble_eq_true rfl) (fun p e R s m args below meth c C M => g_sub (ls' := [(0, .long v0), (2, .long v2), (4, .long v4)]) [0, 1, 2] rfl (pX11_in_0 C M rfl u v0 v2 v4))
set_option maxRecDepth 20000 in
set_option maxHeartbeats 4000000 in
theorem pX11_refuse_0 {Γ : GX} (C : Cx Γ RX11 cX11_refuse 0) (M : Mx Γ (some .int)) (L : xn Γ = 2) (v1 : Int32) (u : Mm) : Gp Γ (QM Γ cvI) 0 [(0, .ref ((xE Γ).1 74)), (1, .int v1)] [] u (gX11_refuse_b v1 u) := by
  unfold gX11_refuse_b
  refine g_aload_n C dX11_refuse_0 rfl 0 rfl ?_
  refine g_getR (k2 := 84) C dX11_refuse_1 rfl rfl fi_11_20 ⟨by decide, by decide, rfl⟩ fl_X11_53 ?_
  refine g_iload_n C dX11_refuse_4 rfl 1 rfl ?_
  refine g_ineg C dX11_refuse_5 rfl ?_
  refine g_dup2 C dX11_refuse_6 rfl rfl rfl ?_
  refine g_gd (fun hi1 => ?_)
  refine g_iald C dX11_refuse_7 rfl rfl rfl hi1 ?_
  refine g_iconst (v := 1) C dX11_refuse_8 rfl (by decide) ?_
  refine g_iadd C dX11_refuse_9 rfl ?_
  refine g_gd (fun hi3 => ?_)
  refine g_iast C dX11_refuse_10 rfl rfl rfl hi3 ?_
  refine g_letm (fun u2 => ?_)
  refine g_iload_n C dX11_refuse_11 rfl 1 rfl ?_
  exact g_iret C M dX11_refuse_12 rfl rfl
set_option maxRecDepth 20000 in
set_option maxHeartbeats 4000000 in
theorem tX11_refuse (l : Launch) (E : EE) (v1 : Int32) (u : Mm) : Ct l E yX11_refuse cX11_refuse 2 (some .int) 0 [.ref (E.1 74), .int v1] u cvI (gX11_refuse v1 u) :=
  Ct_of (own := RX11) (by decide +kernel) rfl (Nat.le_of_ble_eq_true rfl) (fun p e R s m args below meth c C M => g_sub (ls' := [(0, .ref (E.1 74)), (1, .int v1)]) [0, 1] rfl (pX11_refuse_0 C M rfl v1 u))
set_option maxRecDepth 20000 in
set_option maxHeartbeats 4000000 in
theorem pX11_wrongNumber_0 {Γ : GX} (C : Cx Γ RX11 cX11_wrongNumber 0) (M : Mx Γ (some .int)) (L : xn Γ = 3) (u : Mm) (v0 : Int32) (v1 : Int32) (v2 : Int32) : Gp Γ (QM Γ (cvP u)) 0 [(0, .int v0), (1, .int v1), (2, .int v2)] [] u (gX11_wrongNumber_b v0 v1 v2) := by
  unfold gX11_wrongNumber_b
  refine g_iload_n C dX11_wrongNumber_0 rfl 0 rfl ?_
  refine g_iload_n C dX11_wrongNumber_1 rfl 1 rfl ?_
  refine g_icmp_ge 10 C dX11_wrongNumber_2 rfl (by decide) (fun c1 => ?_) (fun c1 => ?_)
  · refine g_iload_n C dX11_wrongNumber_10 rfl 0 rfl ?_
    refine g_iload_n C dX11_wrongNumber_11 rfl 2 rfl ?_
    refine g_icmp_le 20 C dX11_wrongNumber_12 rfl (by decide) (fun c2 => ?_) (fun c2 => ?_)
    · refine g_iconst (v := 0) C dX11_wrongNumber_20 rfl (by decide) ?_
      exact g_iret C M dX11_wrongNumber_21 rfl rfl
    · refine g_bipush (v := (-6)) C dX11_wrongNumber_15 rfl (by decide) ?_
      refine g_goto 21 C dX11_wrongNumber_17 rfl (by decide) ?_
      exact g_iret C M dX11_wrongNumber_21 rfl rfl
  · refine g_bipush (v := (-4)) C dX11_wrongNumber_5 rfl (by decide) ?_
    refine g_goto 21 C dX11_wrongNumber_7 rfl (by decide) ?_
    exact g_iret C M dX11_wrongNumber_21 rfl rfl
set_option maxRecDepth 20000 in
set_option maxHeartbeats 4000000 in
theorem tX11_wrongNumber (l : Launch) (E : EE) (v0 : Int32) (v1 : Int32) (v2 : Int32) (u : Mm) : Ct l E yX11_wrongNumber cX11_wrongNumber 3 (some .int) 0 [.int v0, .int v1, .int v2] u (cvP u) (gX11_wrongNumber v0 v1 v2) :=
  Ct_of (own := RX11) (by decide +kernel) rfl (Nat.le_of_ble_eq_true rfl) (fun p e R s m args below meth c C M => g_sub (ls' := [(0, .int v0), (1, .int v1), (2, .int v2)]) [0, 1, 2] rfl (pX11_wrongNumber_0 C M rfl u v0 v1 v2))
set_option maxRecDepth 20000 in
set_option maxHeartbeats 4000000 in
theorem pX11_wrongBit_0 {Γ : GX} (C : Cx Γ RX11 cX11_wrongBit 1) (M : Mx Γ (some .int)) (L : xn Γ = 3) (u : Mm) (v0 : Int32) (v1 : Int32) (v2 : Int32) : Gp Γ (QM Γ (cvP u)) 0 [(0, .int v0), (1, .int v1), (2, .int v2)] [] u (gX11_wrongBit_b v0 v1 v2) := by
  unfold gX11_wrongBit_b
  refine g_iload_n C dX11_wrongBit_0 rfl 0 rfl ?_
  refine g_if_ne 20 C dX11_wrongBit_1 rfl (by decide) (fun c1 => ?_) (fun c1 => ?_)
  · refine g_iload_n C dX11_wrongBit_20 rfl 0 rfl ?_
    exact g_iret C M dX11_wrongBit_21 rfl rfl
  · refine g_iload_n C dX11_wrongBit_4 rfl 1 rfl ?_
    refine g_i2l C dX11_wrongBit_5 rfl ?_
    refine g_lconst (v := 0) C dX11_wrongBit_6 rfl (by decide) ?_
    refine g_iload_n C dX11_wrongBit_7 rfl 2 rfl ?_
    refine g_i2l C dX11_wrongBit_8 rfl ?_
    refine g_callsP [.long v1.toInt64, .long 0, .long v2.toInt64] C dX11_wrongBit_9 rfl (tX11_in (xl Γ) (xE Γ) v1.toInt64 0 v2.toInt64 u) cf_X11_in ml_X11_107 rfl (by decide) (Nat.le_of_ble_eq_true rfl) rfl (fun r2 => ?_)
    refine g_if_ne 20 C dX11_wrongBit_12 rfl (by decide) (fun c3 => ?_) (fun c3 => ?_)
    · refine g_iload_n C dX11_wrongBit_20 rfl 0 rfl ?_
      exact g_iret C M dX11_wrongBit_21 rfl rfl
    · refine g_bipush (v := (-2)) C dX11_wrongBit_15 rfl (by decide) ?_
      refine g_goto 21 C dX11_wrongBit_17 rfl (by decide) ?_
      exact g_iret C M dX11_wrongBit_21 rfl rfl
set_option maxRecDepth 20000 in
set_option maxHeartbeats 4000000 in
theorem tX11_wrongBit (l : Launch) (E : EE) (v0 : Int32) (v1 : Int32) (v2 : Int32) (u : Mm) : Ct l E yX11_wrongBit cX11_wrongBit 3 (some .int) 1 [.int v0, .int v1, .int v2] u (cvP u) (gX11_wrongBit v0 v1 v2) :=
  Ct_of (own := RX11) (by decide +kernel) rfl (Nat.le_of_ble_eq_true rfl) (fun p e R s m args below meth c C M => g_sub (ls' := [(0, .int v0), (1, .int v1), (2, .int v2)]) [0, 1, 2] rfl (pX11_wrongBit_0 C M rfl u v0 v1 v2))
set_option maxRecDepth 20000 in
set_option maxHeartbeats 4000000 in
theorem pX11_held_0 {Γ : GX} (C : Cx Γ RX11 cX11_held 0) (M : Mx Γ (some .int)) (L : xn Γ = 2) (u : Mm) (v0 : Int32) (v1 : Int32) : Gp Γ (QM Γ (cvP u)) 0 [(0, .int v0), (1, .int v1)] [] u (gX11_held_b v0 v1) := by
  unfold gX11_held_b
  refine g_iload_n C dX11_held_0 rfl 0 rfl ?_
  refine g_if_ge 8 C dX11_held_1 rfl (by decide) (fun c1 => ?_) (fun c1 => ?_)
  · refine g_iload_n C dX11_held_8 rfl 0 rfl ?_
    refine g_iload_n C dX11_held_9 rfl 1 rfl ?_
    refine g_icmp_le 17 C dX11_held_10 rfl (by decide) (fun c2 => ?_) (fun c2 => ?_)
    · refine g_iload_n C dX11_held_17 rfl 0 rfl ?_
      exact g_iret C M dX11_held_18 rfl rfl
    · refine g_iload_n C dX11_held_13 rfl 1 rfl ?_
      refine g_goto 18 C dX11_held_14 rfl (by decide) ?_
      exact g_iret C M dX11_held_18 rfl rfl
  · refine g_iconst (v := 0) C dX11_held_4 rfl (by decide) ?_
    refine g_goto 18 C dX11_held_5 rfl (by decide) ?_
    exact g_iret C M dX11_held_18 rfl rfl
set_option maxRecDepth 20000 in
set_option maxHeartbeats 4000000 in
theorem tX11_held (l : Launch) (E : EE) (v0 : Int32) (v1 : Int32) (u : Mm) : Ct l E yX11_held cX11_held 2 (some .int) 0 [.int v0, .int v1] u (cvP u) (gX11_held v0 v1) :=
  Ct_of (own := RX11) (by decide +kernel) rfl (Nat.le_of_ble_eq_true rfl) (fun p e R s m args below meth c C M => g_sub (ls' := [(0, .int v0), (1, .int v1)]) [0, 1] rfl (pX11_held_0 C M rfl u v0 v1))
set_option maxRecDepth 20000 in
set_option maxHeartbeats 4000000 in
theorem pX11_plainly_0 {Γ : GX} (C : Cx Γ RX11 cX11_plainly 0) (M : Mx Γ (some .int)) (L : xn Γ = 1) (u : Mm) (v0 : Int32) : Gp Γ (QM Γ (cvP u)) 0 [(0, .int v0)] [] u (gX11_plainly_b v0) := by
  unfold gX11_plainly_b
  refine g_iload_n C dX11_plainly_0 rfl 0 rfl ?_
  refine g_if_ge 9 C dX11_plainly_1 rfl (by decide) (fun c1 => ?_) (fun c1 => ?_)
  · refine g_iload_n C dX11_plainly_9 rfl 0 rfl ?_
    exact g_iret C M dX11_plainly_10 rfl rfl
  · refine g_iload_n C dX11_plainly_4 rfl 0 rfl ?_
    refine g_ineg C dX11_plainly_5 rfl ?_
    refine g_goto 10 C dX11_plainly_6 rfl (by decide) ?_
    exact g_iret C M dX11_plainly_10 rfl rfl
set_option maxRecDepth 20000 in
set_option maxHeartbeats 4000000 in
theorem tX11_plainly (l : Launch) (E : EE) (v0 : Int32) (u : Mm) : Ct l E yX11_plainly cX11_plainly 1 (some .int) 0 [.int v0] u (cvP u) (gX11_plainly v0) :=
  Ct_of (own := RX11) (by decide +kernel) rfl (Nat.le_of_ble_eq_true rfl) (fun p e R s m args below meth c C M => g_sub (ls' := [(0, .int v0)]) [0] rfl (pX11_plainly_0 C M rfl u v0))
set_option maxRecDepth 20000 in
set_option maxHeartbeats 4000000 in
theorem pX11_isField_0 {Γ : GX} (C : Cx Γ RX11 cX11_isField 1) (M : Mx Γ (some .boolean)) (L : xn Γ = 2) (u : Mm) (v1 : Int32) : Gp Γ (QM Γ (cvP u)) 0 [(0, .ref ((xE Γ).1 74)), (1, .int v1)] [] u (gX11_isField_b v1 u) := by
  unfold gX11_isField_b
  refine g_iload_n C dX11_isField_0 rfl 1 rfl ?_
  refine g_i2l C dX11_isField_1 rfl ?_
  refine g_lconst (v := 0) C dX11_isField_2 rfl (by decide) ?_
  refine g_aload_n C dX11_isField_3 rfl 0 rfl ?_
  refine g_getI C dX11_isField_4 rfl rfl fi_11_11 rfl fl_X11_111 ?_
  refine g_iconst (v := 1) C dX11_isField_7 rfl (by decide) ?_
  refine g_isub C dX11_isField_8 rfl ?_
  refine g_i2l C dX11_isField_9 rfl ?_
  refine g_callsP [.long v1.toInt64, .long 0, .long (((u 74 11) - 1).toInt64)] C dX11_isField_10 rfl (tX11_in (xl Γ) (xE Γ) v1.toInt64 0 (((u 74 11) - 1).toInt64) u) cf_X11_in ml_X11_107 rfl (by decide) (Nat.le_of_ble_eq_true rfl) rfl (fun r1 => ?_)
  refine g_gd (fun hb2 => ?_)
  exact g_zret C M dX11_isField_13 rfl hb2 rfl
set_option maxRecDepth 20000 in
set_option maxHeartbeats 4000000 in
theorem tX11_isField (l : Launch) (E : EE) (v1 : Int32) (u : Mm) : Ct l E yX11_isField cX11_isField 2 (some .boolean) 1 [.ref (E.1 74), .int v1] u (cvP u) (gX11_isField v1 u) :=
  Ct_of (own := RX11) (by decide +kernel) rfl (Nat.le_of_ble_eq_true rfl) (fun p e R s m args below meth c C M => g_sub (ls' := [(0, .ref (E.1 74)), (1, .int v1)]) [0, 1] rfl (pX11_isField_0 C M rfl u v1))
set_option maxRecDepth 20000 in
set_option maxHeartbeats 4000000 in
theorem pX11_isPlace_0 {Γ : GX} (C : Cx Γ RX11 cX11_isPlace 1) (M : Mx Γ (some .boolean)) (L : xn Γ = 1) (u : Mm) (v0 : Int32) : Gp Γ (QM Γ (cvP u)) 0 [(0, .int v0)] [] u (gX11_isPlace_b v0) := by
  unfold gX11_isPlace_b
  refine g_iload_n C dX11_isPlace_0 rfl 0 rfl ?_
  refine g_i2l C dX11_isPlace_1 rfl ?_
  refine g_lconst (v := 0) C dX11_isPlace_2 rfl (by decide) ?_
  refine g_ldc2_w (v := 7) C dX11_isPlace_3 rfl (wm_18 12 rfl) ?_
  refine g_callsP [.long v0.toInt64, .long 0, .long 7] C dX11_isPlace_6 rfl (tX11_in (xl Γ) (xE Γ) v0.toInt64 0 7 u) cf_X11_in ml_X11_107 rfl (by decide) (Nat.le_of_ble_eq_true rfl) rfl (fun r1 => ?_)
  refine g_gd (fun hb2 => ?_)
  exact g_zret C M dX11_isPlace_9 rfl hb2 rfl
set_option maxRecDepth 20000 in
set_option maxHeartbeats 4000000 in
theorem tX11_isPlace (l : Launch) (E : EE) (v0 : Int32) (u : Mm) : Ct l E yX11_isPlace cX11_isPlace 1 (some .boolean) 1 [.int v0] u (cvP u) (gX11_isPlace v0) :=
  Ct_of (own := RX11) (by decide +kernel) rfl (Nat.le_of_ble_eq_true rfl) (fun p e R s m args below meth c C M => g_sub (ls' := [(0, .int v0)]) [0] rfl (pX11_isPlace_0 C M rfl u v0))
set_option maxRecDepth 20000 in
set_option maxHeartbeats 4000000 in
theorem pX11_balance_0 {Γ : GX} (C : Cx Γ RX11 cX11_balance 0) (M : Mx Γ (some .int)) (L : xn Γ = 1) (u : Mm) : Gp Γ (QM Γ (cvP u)) 0 [(0, .ref ((xE Γ).1 74))] [] u (gX11_balance_b u) := by
  unfold gX11_balance_b
  refine g_bipush (v := 12) C dX11_balance_0 rfl (by decide) ?_
  refine g_iconst (v := 2) C dX11_balance_2 rfl (by decide) ?_
  refine g_aload_n C dX11_balance_3 rfl 0 rfl ?_
  refine g_getI C dX11_balance_4 rfl rfl fi_11_7 rfl fl_X11_26 ?_
  refine g_imul C dX11_balance_7 rfl ?_
  refine g_iadd C dX11_balance_8 rfl ?_
  exact g_iret C M dX11_balance_9 rfl rfl
set_option maxRecDepth 20000 in
set_option maxHeartbeats 4000000 in
theorem tX11_balance (l : Launch) (E : EE) (u : Mm) : Ct l E yX11_balance cX11_balance 1 (some .int) 0 [.ref (E.1 74)] u (cvP u) (gX11_balance u) :=
  Ct_of (own := RX11) (by decide +kernel) rfl (Nat.le_of_ble_eq_true rfl) (fun p e R s m args below meth c C M => g_sub (ls' := [(0, .ref (E.1 74))]) [0] rfl (pX11_balance_0 C M rfl u))
set_option maxRecDepth 20000 in
set_option maxHeartbeats 4000000 in
theorem pX11_risingNow_0 {Γ : GX} (C : Cx Γ RX11 cX11_risingNow 1) (M : Mx Γ (some .int)) (L : xn Γ = 1) (u : Mm) : Gp Γ (QM Γ (cvP u)) 0 [(0, .ref ((xE Γ).1 74))] [] u (gX11_risingNow_b u) := by
  unfold gX11_risingNow_b
  refine g_aload_n C dX11_risingNow_0 rfl 0 rfl ?_
  refine g_getI C dX11_risingNow_1 rfl rfl fi_11_5 rfl fl_X11_20 ?_
  refine g_aload_n C dX11_risingNow_4 rfl 0 rfl ?_
  refine g_callP [] C dX11_risingNow_5 rfl (tX11_balance (xl Γ) (xE Γ) u) cf_X11_balance rfl rfl ml_X11_116 rfl (by decide) (Nat.le_of_ble_eq_true rfl) rfl (fun r1 => ?_)
  refine g_isub C dX11_risingNow_8 rfl ?_
  refine g_iconst (v := 4) C dX11_risingNow_9 rfl (by decide) ?_
  refine g_idiv C dX11_risingNow_10 rfl (by decide) ?_
  exact g_iret C M dX11_risingNow_11 rfl rfl
set_option maxRecDepth 20000 in
set_option maxHeartbeats 4000000 in
theorem tX11_risingNow (l : Launch) (E : EE) (u : Mm) : Ct l E yX11_risingNow cX11_risingNow 1 (some .int) 1 [.ref (E.1 74)] u (cvP u) (gX11_risingNow u) :=
  Ct_of (own := RX11) (by decide +kernel) rfl (Nat.le_of_ble_eq_true rfl) (fun p e R s m args below meth c C M => g_sub (ls' := [(0, .ref (E.1 74))]) [0] rfl (pX11_risingNow_0 C M rfl u))
set_option maxRecDepth 20000 in
set_option maxHeartbeats 4000000 in
theorem pX11_stepOn_219 {Γ : GX} (C : Cx Γ RX11 cX11_stepOn 2) (M : Mx Γ none) (L : xn Γ = 5) (u : Mm) : Gp Γ (QM Γ cvV) 219 [(0, .ref ((xE Γ).1 74))] [] u (gX11_stepOn_219 u) := by
  unfold gX11_stepOn_219
  refine g_aload_n C dX11_stepOn_219 rfl 0 rfl ?_
  refine g_dup C dX11_stepOn_220 rfl rfl ?_
  refine g_getI C dX11_stepOn_221 rfl rfl fi_11_9 rfl fl_X11_136 ?_
  refine g_iconst (v := 1) C dX11_stepOn_224 rfl (by decide) ?_
  refine g_iadd C dX11_stepOn_225 rfl ?_
  refine g_putI C dX11_stepOn_226 rfl rfl fp_11_9 rfl fl_X11_136 ?_
  refine g_letm (fun u1 => ?_)
  exact g_vret C M dX11_stepOn_229 rfl rfl
set_option maxRecDepth 20000 in
set_option maxHeartbeats 4000000 in
theorem pX11_stepOn_157 {Γ : GX} (C : Cx Γ RX11 cX11_stepOn 2) (M : Mx Γ none) (L : xn Γ = 5) (s0 : Int32) (u : Mm) : Gp Γ (QM Γ cvV) 157 [(0, .ref ((xE Γ).1 74))] [.int s0, .ref ((xE Γ).1 74)] u (gX11_stepOn_157 s0 u) := by
  unfold gX11_stepOn_157
  refine g_putI C dX11_stepOn_157 rfl rfl fp_11_21 rfl fl_X11_130 ?_
  refine g_letm (fun u1 => ?_)
  refine g_aload_n C dX11_stepOn_160 rfl 0 rfl ?_
  refine g_getI C dX11_stepOn_161 rfl rfl fi_11_2 rfl fl_X11_127 ?_
  refine g_if_le 219 C dX11_stepOn_164 rfl (by decide) (fun c2 => ?_) (fun c2 => ?_)
  · exact pX11_stepOn_219 C M L u1
  · refine g_aload_n C dX11_stepOn_167 rfl 0 rfl ?_
    refine g_aload_n C dX11_stepOn_168 rfl 0 rfl ?_
    refine g_getI C dX11_stepOn_169 rfl rfl fi_11_3 rfl fl_X11_16 ?_
    refine g_aload_n C dX11_stepOn_172 rfl 0 rfl ?_
    refine g_getR (k2 := 75) C dX11_stepOn_173 rfl rfl fi_11_0 ⟨by decide, by decide, rfl⟩ fl_X11_7 ?_
    refine g_aload_n C dX11_stepOn_176 rfl 0 rfl ?_
    refine g_getI C dX11_stepOn_177 rfl rfl fi_11_2 rfl fl_X11_127 ?_
    refine g_iconst (v := 5) C dX11_stepOn_180 rfl (by decide) ?_
    refine g_idiv C dX11_stepOn_181 rfl (by decide) ?_
    refine g_gd (fun hi3 => ?_)
    refine g_iald C dX11_stepOn_182 rfl rfl rfl hi3 ?_
    refine g_iadd C dX11_stepOn_183 rfl ?_
    refine g_sipush (v := 999) C dX11_stepOn_184 rfl (by decide) ?_
    refine g_callsP [.int ((u1 74 3) + (u1 75 (ixn ((u1 74 2) / 5)))), .int 999] C dX11_stepOn_187 rfl (tX11_held (xl Γ) (xE Γ) ((u1 74 3) + (u1 75 (ixn ((u1 74 2) / 5)))) 999 u1) cf_X11_held ml_X11_120 rfl (by decide) (Nat.le_of_ble_eq_true rfl) rfl (fun r4 => ?_)
    refine g_putI C dX11_stepOn_190 rfl rfl fp_11_3 rfl fl_X11_16 ?_
    refine g_letm (fun u5 => ?_)
    refine g_aload_n C dX11_stepOn_193 rfl 0 rfl ?_
    refine g_aload_n C dX11_stepOn_194 rfl 0 rfl ?_
    refine g_getI C dX11_stepOn_195 rfl rfl fi_11_4 rfl fl_X11_133 ?_
    refine g_aload_n C dX11_stepOn_198 rfl 0 rfl ?_
    refine g_getR (k2 := 76) C dX11_stepOn_199 rfl rfl fi_11_1 ⟨by decide, by decide, rfl⟩ fl_X11_13 ?_
    refine g_aload_n C dX11_stepOn_202 rfl 0 rfl ?_
    refine g_getI C dX11_stepOn_203 rfl rfl fi_11_2 rfl fl_X11_127 ?_
    refine g_iconst (v := 5) C dX11_stepOn_206 rfl (by decide) ?_
    refine g_idiv C dX11_stepOn_207 rfl (by decide) ?_
    refine g_gd (fun hi6 => ?_)
    refine g_iald C dX11_stepOn_208 rfl rfl rfl hi6 ?_
    refine g_iadd C dX11_stepOn_209 rfl ?_
    refine g_sipush (v := 999) C dX11_stepOn_210 rfl (by decide) ?_
    refine g_callsP [.int ((u5 74 4) + (u5 76 (ixn ((u5 74 2) / 5)))), .int 999] C dX11_stepOn_213 rfl (tX11_held (xl Γ) (xE Γ) ((u5 74 4) + (u5 76 (ixn ((u5 74 2) / 5)))) 999 u5) cf_X11_held ml_X11_120 rfl (by decide) (Nat.le_of_ble_eq_true rfl) rfl (fun r7 => ?_)
    refine g_putI C dX11_stepOn_216 rfl rfl fp_11_4 rfl fl_X11_133 ?_
    refine g_letm (fun u8 => ?_)
    exact pX11_stepOn_219 C M L u8
set_option maxRecDepth 20000 in
set_option maxHeartbeats 4000000 in
theorem pX11_stepOn_156 {Γ : GX} (C : Cx Γ RX11 cX11_stepOn 2) (M : Mx Γ none) (L : xn Γ = 5) (u : Mm) : Gp Γ (QM Γ cvV) 156 [(0, .ref ((xE Γ).1 74))] [.ref ((xE Γ).1 74)] u (gX11_stepOn_156 u) := by
  unfold gX11_stepOn_156
  refine g_iconst (v := 0) C dX11_stepOn_156 rfl (by decide) ?_
  exact pX11_stepOn_157 C M L 0 u
set_option maxRecDepth 20000 in
set_option maxHeartbeats 4000000 in
theorem pX11_stepOn_57s {Γ : GX} (C : Cx Γ RX11 cX11_stepOn 2) (M : Mx Γ none) (L : xn Γ = 5) (v2 : Int32) {j57 : Int32 → Mm → Option Mm} (hj57 : ∀ (v3 : Int32) (u : Mm), Gp Γ (QM Γ cvV) 57 [(0, .ref ((xE Γ).1 74)), (2, .int v2), (3, .int v3)] [] u (j57 v3 u)) (v3 : Int32) (u : Mm) : Gp Γ (QM Γ cvV) 57 [(0, .ref ((xE Γ).1 74)), (2, .int v2), (3, .int v3)] [] u (gX11_stepOn_57_Ls v2 j57 v3 u) := by
  unfold gX11_stepOn_57_Ls
  refine g_iload_n C dX11_stepOn_57 rfl 2 rfl ?_
  refine g_aload_n C dX11_stepOn_58 rfl 0 rfl ?_
  refine g_getI C dX11_stepOn_59 rfl rfl fi_11_8 rfl fl_X11_29 ?_
  refine g_icmp_ge 85 C dX11_stepOn_62 rfl (by decide) (fun c1 => ?_) (fun c1 => ?_)
  · refine g_aload_n C dX11_stepOn_85 rfl 0 rfl ?_
    refine g_getR (k2 := 77) C dX11_stepOn_86 rfl rfl fi_11_10 ⟨by decide, by decide, rfl⟩ fl_X11_32 ?_
    refine g_aload_n C dX11_stepOn_89 rfl 0 rfl ?_
    refine g_getI C dX11_stepOn_90 rfl rfl fi_11_8 rfl fl_X11_29 ?_
    refine g_iconst (v := 0) C dX11_stepOn_93 rfl (by decide) ?_
    refine g_gd (fun hi3 => ?_)
    refine g_iast C dX11_stepOn_94 rfl rfl rfl hi3 ?_
    refine g_letm (fun u2 => ?_)
    refine g_aload_n C dX11_stepOn_95 rfl 0 rfl ?_
    refine g_aload_n C dX11_stepOn_96 rfl 0 rfl ?_
    refine g_getI C dX11_stepOn_97 rfl rfl fi_11_5 rfl fl_X11_20 ?_
    refine g_iconst (v := 1) C dX11_stepOn_100 rfl (by decide) ?_
    refine g_isub C dX11_stepOn_101 rfl ?_
    refine g_iload_n C dX11_stepOn_102 rfl 1 rfl ?_
    refine g_iadd C dX11_stepOn_103 rfl ?_
    refine g_bipush (v := 60) C dX11_stepOn_104 rfl (by decide) ?_
    refine g_callsP [.int (((u2 74 5) - 1) + v2), .int 60] C dX11_stepOn_106 rfl (tX11_held (xl Γ) (xE Γ) (((u2 74 5) - 1) + v2) 60 u2) cf_X11_held ml_X11_120 rfl (by decide) (Nat.le_of_ble_eq_true rfl) rfl (fun r4 => ?_)
    refine g_putI C dX11_stepOn_109 rfl rfl fp_11_5 rfl fl_X11_20 ?_
    refine g_letm (fun u5 => ?_)
    refine g_aload_n C dX11_stepOn_112 rfl 0 rfl ?_
    refine g_callP [] C dX11_stepOn_113 rfl (tX11_risingNow (xl Γ) (xE Γ) u5) cf_X11_risingNow rfl rfl ml_X11_124 rfl (by decide) (Nat.le_of_ble_eq_true rfl) rfl (fun r6 => ?_)
    refine g_istore_n (ls' := [(3, .int r6), (0, .ref ((xE Γ).1 74)), (2, .int v2)]) C dX11_stepOn_116 rfl L (by decide) rfl ?_
    refine g_aload_n C dX11_stepOn_117 rfl 1 rfl ?_
    refine g_getI C dX11_stepOn_118 rfl rfl fi_11_2 rfl fl_X11_127 ?_
    refine g_lets (fun v4_7 => ?_)
    refine g_istore (ls' := [(4, .int v4_7), (3, .int r6), (0, .ref ((xE Γ).1 74)), (2, .int v2)]) C dX11_stepOn_121 rfl L (by decide) rfl ?_
    refine g_aload_n C dX11_stepOn_123 rfl 2 rfl ?_
    refine g_aload_n C dX11_stepOn_124 rfl 2 rfl ?_
    refine g_getI C dX11_stepOn_125 rfl rfl fi_11_2 rfl fl_X11_127 ?_
    refine g_iload_n C dX11_stepOn_128 rfl 1 rfl ?_
    refine g_iadd C dX11_stepOn_129 rfl ?_
    refine g_bipush (v := 39) C dX11_stepOn_130 rfl (by decide) ?_
    refine g_callsP [.int ((u5 74 2) + r6), .int 39] C dX11_stepOn_132 rfl (tX11_held (xl Γ) (xE Γ) ((u5 74 2) + r6) 39 u5) cf_X11_held ml_X11_120 rfl (by decide) (Nat.le_of_ble_eq_true rfl) rfl (fun r8 => ?_)
    refine g_putI C dX11_stepOn_135 rfl rfl fp_11_2 rfl fl_X11_127 ?_
    refine g_letm (fun u9 => ?_)
    refine g_aload_n C dX11_stepOn_138 rfl 2 rfl ?_
    refine g_iload C dX11_stepOn_139 rfl 0 rfl ?_
    refine g_if_le 156 C dX11_stepOn_141 rfl (by decide) (fun c10 => ?_) (fun c10 => ?_)
    · refine g_sub (ls' := [(0, .ref ((xE Γ).1 74))]) [2] rfl ?_
      exact pX11_stepOn_156 C M L u9
    · refine g_aload_n C dX11_stepOn_144 rfl 2 rfl ?_
      refine g_getI C dX11_stepOn_145 rfl rfl fi_11_2 rfl fl_X11_127 ?_
      refine g_if_ne 156 C dX11_stepOn_148 rfl (by decide) (fun c11 => ?_) (fun c11 => ?_)
      · refine g_sub (ls' := [(0, .ref ((xE Γ).1 74))]) [2] rfl ?_
        exact pX11_stepOn_156 C M L u9
      · refine g_iload_n C dX11_stepOn_151 rfl 1 rfl ?_
        refine g_ineg C dX11_stepOn_152 rfl ?_
        refine g_goto 157 C dX11_stepOn_153 rfl (by decide) ?_
        refine g_sub (ls' := [(0, .ref ((xE Γ).1 74))]) [2] rfl ?_
        exact pX11_stepOn_157 C M L (-r6) u9
  · refine g_aload_n C dX11_stepOn_65 rfl 0 rfl ?_
    refine g_getR (k2 := 77) C dX11_stepOn_66 rfl rfl fi_11_10 ⟨by decide, by decide, rfl⟩ fl_X11_32 ?_
    refine g_iload_n C dX11_stepOn_69 rfl 2 rfl ?_
    refine g_aload_n C dX11_stepOn_70 rfl 0 rfl ?_
    refine g_getR (k2 := 77) C dX11_stepOn_71 rfl rfl fi_11_10 ⟨by decide, by decide, rfl⟩ fl_X11_32 ?_
    refine g_iload_n C dX11_stepOn_74 rfl 2 rfl ?_
    refine g_iconst (v := 1) C dX11_stepOn_75 rfl (by decide) ?_
    refine g_iadd C dX11_stepOn_76 rfl ?_
    refine g_gd (fun hi12 => ?_)
    refine g_iald C dX11_stepOn_77 rfl rfl rfl hi12 ?_
    refine g_gd (fun hi14 => ?_)
    refine g_iast C dX11_stepOn_78 rfl rfl rfl hi14 ?_
    refine g_letm (fun u13 => ?_)
    refine g_iincL (fun v3_15 => [(3, .int v3_15), (0, .ref ((xE Γ).1 74)), (2, .int v2)]) C dX11_stepOn_79 rfl L (by decide) (k := 2) rfl (iinc_1 _) (fun _ => rfl) (fun v3_15 => ?_)
    refine g_goto 57 C dX11_stepOn_82 rfl (by decide) ?_
    refine g_sub (ls' := [(0, .ref ((xE Γ).1 74)), (2, .int v2), (3, .int v3_15)]) [1, 2, 0] rfl ?_
    exact hj57 v3_15 u13
set_option maxRecDepth 20000 in
set_option maxHeartbeats 4000000 in
theorem pX11_stepOn_57 {Γ : GX} (C : Cx Γ RX11 cX11_stepOn 2) (M : Mx Γ none) (L : xn Γ = 5) (v2 : Int32) : ∀ (n : Nat) (v3 : Int32) (u : Mm), Gp Γ (QM Γ cvV) 57 [(0, .ref ((xE Γ).1 74)), (2, .int v2), (3, .int v3)] [] u (gX11_stepOn_57_L v2 n v3 u) := by
  intro n
  induction n with
  | zero => intro _ _; exact g_none
  | succ n ih => intro v3 u; exact pX11_stepOn_57s C M L v2 ih v3 u

set_option maxRecDepth 20000 in
set_option maxHeartbeats 4000000 in
theorem pX11_stepOn_47 {Γ : GX} (C : Cx Γ RX11 cX11_stepOn 2) (M : Mx Γ none) (L : xn Γ = 5) (s0 : Int32) (s1 : Int32) (u : Mm) : Gp Γ (QM Γ cvV) 47 [(0, .ref ((xE Γ).1 74))] [.int s0, .int s1, .ref ((xE Γ).1 77)] u (gX11_stepOn_47 s0 s1 u) := by
  unfold gX11_stepOn_47
  refine g_gd (fun hi2 => ?_)
  refine g_iast C dX11_stepOn_47 rfl rfl rfl hi2 ?_
  refine g_letm (fun u1 => ?_)
  refine g_aload_n C dX11_stepOn_48 rfl 0 rfl ?_
  refine g_getR (k2 := 77) C dX11_stepOn_49 rfl rfl fi_11_10 ⟨by decide, by decide, rfl⟩ fl_X11_32 ?_
  refine g_iconst (v := 0) C dX11_stepOn_52 rfl (by decide) ?_
  refine g_iald C dX11_stepOn_53 rfl rfl rfl ⟨by decide, by decide⟩ ?_
  refine g_lets (fun v2_3 => ?_)
  refine g_istore_n (ls' := [(2, .int v2_3), (0, .ref ((xE Γ).1 74))]) C dX11_stepOn_54 rfl L (by decide) rfl ?_
  refine g_iconst (v := 0) C dX11_stepOn_55 rfl (by decide) ?_
  refine g_istore_n (ls' := [(3, .int 0), (2, .int v2_3), (0, .ref ((xE Γ).1 74))]) C dX11_stepOn_56 rfl L (by decide) rfl ?_
  refine g_sub (ls' := [(0, .ref ((xE Γ).1 74)), (2, .int v2_3), (3, .int 0)]) [2, 1, 0] rfl ?_
  exact pX11_stepOn_57 C M L v2_3 FU 0 u1
set_option maxRecDepth 20000 in
set_option maxHeartbeats 4000000 in
theorem pX11_stepOn_15 {Γ : GX} (C : Cx Γ RX11 cX11_stepOn 2) (M : Mx Γ none) (L : xn Γ = 5) (v1 : Int32) (s0 : Int32) (s1 : Int32) (u : Mm) : Gp Γ (QM Γ cvV) 15 [(0, .ref ((xE Γ).1 74)), (1, .int v1)] [.int s0, .int s1, .ref ((xE Γ).1 74)] u (gX11_stepOn_15 v1 s0 s1 u) := by
  unfold gX11_stepOn_15
  refine g_isub C dX11_stepOn_15 rfl ?_
  refine g_putI C dX11_stepOn_16 rfl rfl fp_11_6 rfl fl_X11_23 ?_
  refine g_letm (fun u1 => ?_)
  refine g_aload_n C dX11_stepOn_19 rfl 0 rfl ?_
  refine g_getR (k2 := 77) C dX11_stepOn_20 rfl rfl fi_11_10 ⟨by decide, by decide, rfl⟩ fl_X11_32 ?_
  refine g_aload_n C dX11_stepOn_23 rfl 0 rfl ?_
  refine g_getI C dX11_stepOn_24 rfl rfl fi_11_8 rfl fl_X11_29 ?_
  refine g_iload_n C dX11_stepOn_27 rfl 1 rfl ?_
  refine g_iconst (v := 1) C dX11_stepOn_28 rfl (by decide) ?_
  refine g_icmp_ne 36 C dX11_stepOn_29 rfl (by decide) (fun c2 => ?_) (fun c2 => ?_)
  · refine g_iload_n C dX11_stepOn_36 rfl 1 rfl ?_
    refine g_iconst (v := 2) C dX11_stepOn_37 rfl (by decide) ?_
    refine g_icmp_ne 46 C dX11_stepOn_38 rfl (by decide) (fun c3 => ?_) (fun c3 => ?_)
    · refine g_iconst (v := 0) C dX11_stepOn_46 rfl (by decide) ?_
      refine g_sub (ls' := [(0, .ref ((xE Γ).1 74))]) [0] rfl ?_
      exact pX11_stepOn_47 C M L 0 (u1 74 8) u1
    · refine g_bipush (v := (-5)) C dX11_stepOn_41 rfl (by decide) ?_
      refine g_goto 47 C dX11_stepOn_43 rfl (by decide) ?_
      refine g_sub (ls' := [(0, .ref ((xE Γ).1 74))]) [0] rfl ?_
      exact pX11_stepOn_47 C M L (-5) (u1 74 8) u1
  · refine g_iconst (v := 4) C dX11_stepOn_32 rfl (by decide) ?_
    refine g_goto 47 C dX11_stepOn_33 rfl (by decide) ?_
    refine g_sub (ls' := [(0, .ref ((xE Γ).1 74))]) [0] rfl ?_
    exact pX11_stepOn_47 C M L 4 (u1 74 8) u1
set_option maxRecDepth 20000 in
set_option maxHeartbeats 4000000 in
theorem pX11_stepOn_0 {Γ : GX} (C : Cx Γ RX11 cX11_stepOn 2) (M : Mx Γ none) (L : xn Γ = 5) (v1 : Int32) (u : Mm) : Gp Γ (QM Γ cvV) 0 [(0, .ref ((xE Γ).1 74)), (1, .int v1)] [] u (gX11_stepOn_b v1 u) := by
  unfold gX11_stepOn_b
  refine g_aload_n C dX11_stepOn_0 rfl 0 rfl ?_
  refine g_dup C dX11_stepOn_1 rfl rfl ?_
  refine g_getI C dX11_stepOn_2 rfl rfl fi_11_6 rfl fl_X11_23 ?_
  refine g_iload_n C dX11_stepOn_5 rfl 1 rfl ?_
  refine g_iconst (v := 1) C dX11_stepOn_6 rfl (by decide) ?_
  refine g_icmp_ne 14 C dX11_stepOn_7 rfl (by decide) (fun c1 => ?_) (fun c1 => ?_)
  · refine g_iconst (v := 0) C dX11_stepOn_14 rfl (by decide) ?_
    exact pX11_stepOn_15 C M L v1 0 (u 74 6) u
  · refine g_iconst (v := 1) C dX11_stepOn_10 rfl (by decide) ?_
    refine g_goto 15 C dX11_stepOn_11 rfl (by decide) ?_
    exact pX11_stepOn_15 C M L v1 1 (u 74 6) u
set_option maxRecDepth 20000 in
set_option maxHeartbeats 4000000 in
theorem tX11_stepOn (l : Launch) (E : EE) (v1 : Int32) (u : Mm) : Ct l E yX11_stepOn cX11_stepOn 5 none 2 [.ref (E.1 74), .int v1] u cvV (gX11_stepOn v1 u) :=
  Ct_of (own := RX11) (by decide +kernel) rfl (Nat.le_of_ble_eq_true rfl) (fun p e R s m args below meth c C M => g_sub (ls' := [(0, .ref (E.1 74)), (1, .int v1)]) [0, 1] rfl (pX11_stepOn_0 C M rfl v1 u))
set_option maxRecDepth 20000 in
set_option maxHeartbeats 4000000 in
theorem pX11_forgetWork_2s {Γ : GX} (C : Cx Γ RX11 cX11_forgetWork 0) (M : Mx Γ none) (L : xn Γ = 2) {j2 : Int32 → Mm → Option Mm} (hj2 : ∀ (v1 : Int32) (u : Mm), Gp Γ (QM Γ cvV) 2 [(0, .ref ((xE Γ).1 74)), (1, .int v1)] [] u (j2 v1 u)) (v1 : Int32) (u : Mm) : Gp Γ (QM Γ cvV) 2 [(0, .ref ((xE Γ).1 74)), (1, .int v1)] [] u (gX11_forgetWork_2_Ls j2 v1 u) := by
  unfold gX11_forgetWork_2_Ls
  refine g_iload_n C dX11_forgetWork_2 rfl 1 rfl ?_
  refine g_bipush (v := 6) C dX11_forgetWork_3 rfl (by decide) ?_
  refine g_icmp_ge 21 C dX11_forgetWork_5 rfl (by decide) (fun c1 => ?_) (fun c1 => ?_)
  · exact g_vret C M dX11_forgetWork_21 rfl rfl
  · refine g_aload_n C dX11_forgetWork_8 rfl 0 rfl ?_
    refine g_getR (k2 := 77) C dX11_forgetWork_9 rfl rfl fi_11_10 ⟨by decide, by decide, rfl⟩ fl_X11_32 ?_
    refine g_iload_n C dX11_forgetWork_12 rfl 1 rfl ?_
    refine g_iconst (v := 0) C dX11_forgetWork_13 rfl (by decide) ?_
    refine g_gd (fun hi3 => ?_)
    refine g_iast C dX11_forgetWork_14 rfl rfl rfl hi3 ?_
    refine g_letm (fun u2 => ?_)
    refine g_iincL (fun v1_4 => [(1, .int v1_4), (0, .ref ((xE Γ).1 74))]) C dX11_forgetWork_15 rfl L (by decide) (k := 1) rfl (iinc_1 _) (fun _ => rfl) (fun v1_4 => ?_)
    refine g_goto 2 C dX11_forgetWork_18 rfl (by decide) ?_
    refine g_sub (ls' := [(0, .ref ((xE Γ).1 74)), (1, .int v1_4)]) [1, 0] rfl ?_
    exact hj2 v1_4 u2
set_option maxRecDepth 20000 in
set_option maxHeartbeats 4000000 in
theorem pX11_forgetWork_2 {Γ : GX} (C : Cx Γ RX11 cX11_forgetWork 0) (M : Mx Γ none) (L : xn Γ = 2) : ∀ (n : Nat) (v1 : Int32) (u : Mm), Gp Γ (QM Γ cvV) 2 [(0, .ref ((xE Γ).1 74)), (1, .int v1)] [] u (gX11_forgetWork_2_L n v1 u) := by
  intro n
  induction n with
  | zero => intro _ _; exact g_none
  | succ n ih => intro v1 u; exact pX11_forgetWork_2s C M L ih v1 u

set_option maxRecDepth 20000 in
set_option maxHeartbeats 4000000 in
theorem pX11_forgetWork_0 {Γ : GX} (C : Cx Γ RX11 cX11_forgetWork 0) (M : Mx Γ none) (L : xn Γ = 2) (u : Mm) : Gp Γ (QM Γ cvV) 0 [(0, .ref ((xE Γ).1 74))] [] u (gX11_forgetWork_b u) := by
  unfold gX11_forgetWork_b
  refine g_iconst (v := 0) C dX11_forgetWork_0 rfl (by decide) ?_
  refine g_istore_n (ls' := [(1, .int 0), (0, .ref ((xE Γ).1 74))]) C dX11_forgetWork_1 rfl L (by decide) rfl ?_
  refine g_sub (ls' := [(0, .ref ((xE Γ).1 74)), (1, .int 0)]) [1, 0] rfl ?_
  exact pX11_forgetWork_2 C M L FU 0 u
set_option maxRecDepth 20000 in
set_option maxHeartbeats 4000000 in
theorem tX11_forgetWork (l : Launch) (E : EE) (u : Mm) : Ct l E yX11_forgetWork cX11_forgetWork 2 none 0 [.ref (E.1 74)] u cvV (gX11_forgetWork u) :=
  Ct_of (own := RX11) (by decide +kernel) rfl (Nat.le_of_ble_eq_true rfl) (fun p e R s m args below meth c C M => g_sub (ls' := [(0, .ref (E.1 74))]) [0] rfl (pX11_forgetWork_0 C M rfl u))
set_option maxRecDepth 20000 in
set_option maxHeartbeats 4000000 in
theorem pX11_workUnderWay_4s {Γ : GX} (C : Cx Γ RX11 cX11_workUnderWay 0) (M : Mx Γ (some .int)) (L : xn Γ = 3) (u : Mm) {j4 : Int32 → Int32 → Option Int32} (hj4 : ∀ (v1 : Int32) (v2 : Int32), Gp Γ (QM Γ (cvP u)) 4 [(0, .ref ((xE Γ).1 74)), (1, .int v1), (2, .int v2)] [] u (j4 v1 v2)) (v1 : Int32) (v2 : Int32) : Gp Γ (QM Γ (cvP u)) 4 [(0, .ref ((xE Γ).1 74)), (1, .int v1), (2, .int v2)] [] u (gX11_workUnderWay_4_Ls u j4 v1 v2) := by
  unfold gX11_workUnderWay_4_Ls
  refine g_iload_n C dX11_workUnderWay_4 rfl 2 rfl ?_
  refine g_bipush (v := 6) C dX11_workUnderWay_5 rfl (by decide) ?_
  refine g_icmp_ge 25 C dX11_workUnderWay_7 rfl (by decide) (fun c1 => ?_) (fun c1 => ?_)
  · refine g_iload_n C dX11_workUnderWay_25 rfl 1 rfl ?_
    exact g_iret C M dX11_workUnderWay_26 rfl rfl
  · refine g_iload_n C dX11_workUnderWay_10 rfl 1 rfl ?_
    refine g_aload_n C dX11_workUnderWay_11 rfl 0 rfl ?_
    refine g_getR (k2 := 77) C dX11_workUnderWay_12 rfl rfl fi_11_10 ⟨by decide, by decide, rfl⟩ fl_X11_32 ?_
    refine g_iload_n C dX11_workUnderWay_15 rfl 2 rfl ?_
    refine g_gd (fun hi2 => ?_)
    refine g_iald C dX11_workUnderWay_16 rfl rfl rfl hi2 ?_
    refine g_iadd C dX11_workUnderWay_17 rfl ?_
    refine g_lets (fun v1_3 => ?_)
    refine g_istore_n (ls' := [(1, .int v1_3), (0, .ref ((xE Γ).1 74)), (2, .int v2)]) C dX11_workUnderWay_18 rfl L (by decide) rfl ?_
    refine g_iincL (fun v2_4 => [(2, .int v2_4), (1, .int v1_3), (0, .ref ((xE Γ).1 74))]) C dX11_workUnderWay_19 rfl L (by decide) (k := 2) rfl (iinc_1 _) (fun _ => rfl) (fun v2_4 => ?_)
    refine g_goto 4 C dX11_workUnderWay_22 rfl (by decide) ?_
    refine g_sub (ls' := [(0, .ref ((xE Γ).1 74)), (1, .int v1_3), (2, .int v2_4)]) [2, 1, 0] rfl ?_
    exact hj4 v1_3 v2_4
set_option maxRecDepth 20000 in
set_option maxHeartbeats 4000000 in
theorem pX11_workUnderWay_4 {Γ : GX} (C : Cx Γ RX11 cX11_workUnderWay 0) (M : Mx Γ (some .int)) (L : xn Γ = 3) (u : Mm) : ∀ (n : Nat) (v1 : Int32) (v2 : Int32), Gp Γ (QM Γ (cvP u)) 4 [(0, .ref ((xE Γ).1 74)), (1, .int v1), (2, .int v2)] [] u (gX11_workUnderWay_4_L u n v1 v2) := by
  intro n
  induction n with
  | zero => intro _ _; exact g_none
  | succ n ih => intro v1 v2; exact pX11_workUnderWay_4s C M L u ih v1 v2

set_option maxRecDepth 20000 in
set_option maxHeartbeats 4000000 in
theorem pX11_workUnderWay_0 {Γ : GX} (C : Cx Γ RX11 cX11_workUnderWay 0) (M : Mx Γ (some .int)) (L : xn Γ = 3) (u : Mm) : Gp Γ (QM Γ (cvP u)) 0 [(0, .ref ((xE Γ).1 74))] [] u (gX11_workUnderWay_b u) := by
  unfold gX11_workUnderWay_b
  refine g_iconst (v := 0) C dX11_workUnderWay_0 rfl (by decide) ?_
  refine g_istore_n (ls' := [(1, .int 0), (0, .ref ((xE Γ).1 74))]) C dX11_workUnderWay_1 rfl L (by decide) rfl ?_
  refine g_iconst (v := 0) C dX11_workUnderWay_2 rfl (by decide) ?_
  refine g_istore_n (ls' := [(2, .int 0), (1, .int 0), (0, .ref ((xE Γ).1 74))]) C dX11_workUnderWay_3 rfl L (by decide) rfl ?_
  refine g_sub (ls' := [(0, .ref ((xE Γ).1 74)), (1, .int 0), (2, .int 0)]) [2, 1, 0] rfl ?_
  exact pX11_workUnderWay_4 C M L u FU 0 0
set_option maxRecDepth 20000 in
set_option maxHeartbeats 4000000 in
theorem tX11_workUnderWay (l : Launch) (E : EE) (u : Mm) : Ct l E yX11_workUnderWay cX11_workUnderWay 3 (some .int) 0 [.ref (E.1 74)] u (cvP u) (gX11_workUnderWay u) :=
  Ct_of (own := RX11) (by decide +kernel) rfl (Nat.le_of_ble_eq_true rfl) (fun p e R s m args below meth c C M => g_sub (ls' := [(0, .ref (E.1 74))]) [0] rfl (pX11_workUnderWay_0 C M rfl u))
set_option maxRecDepth 20000 in
set_option maxHeartbeats 4000000 in
theorem pX11_holdOn_29 {Γ : GX} (C : Cx Γ RX11 cX11_holdOn 3) (M : Mx Γ none) (L : xn Γ = 1) (s0 : Int32) (u : Mm) : Gp Γ (QM Γ cvV) 29 [] [.int s0, .ref ((xE Γ).1 74)] u (gX11_holdOn_29 s0 u) := by
  unfold gX11_holdOn_29
  refine g_callV [.int s0] C dX11_holdOn_29 rfl (tX11_stepOn (xl Γ) (xE Γ) s0 u) cf_X11_stepOn rfl rfl ml_X11_142 rfl (by decide) (Nat.le_of_ble_eq_true rfl) rfl (fun u1 => ?_)
  exact g_vret C M dX11_holdOn_32 rfl rfl
set_option maxRecDepth 20000 in
set_option maxHeartbeats 4000000 in
theorem pX11_holdOn_28 {Γ : GX} (C : Cx Γ RX11 cX11_holdOn 3) (M : Mx Γ none) (L : xn Γ = 1) (u : Mm) : Gp Γ (QM Γ cvV) 28 [] [.ref ((xE Γ).1 74)] u (gX11_holdOn_28 u) := by
  unfold gX11_holdOn_28
  refine g_iconst (v := 0) C dX11_holdOn_28 rfl (by decide) ?_
  exact pX11_holdOn_29 C M L 0 u
set_option maxRecDepth 20000 in
set_option maxHeartbeats 4000000 in
theorem pX11_holdOn_0 {Γ : GX} (C : Cx Γ RX11 cX11_holdOn 3) (M : Mx Γ none) (L : xn Γ = 1) (u : Mm) : Gp Γ (QM Γ cvV) 0 [(0, .ref ((xE Γ).1 74))] [] u (gX11_holdOn_b u) := by
  unfold gX11_holdOn_b
  refine g_aload_n C dX11_holdOn_0 rfl 0 rfl ?_
  refine g_aload_n C dX11_holdOn_1 rfl 0 rfl ?_
  refine g_getI C dX11_holdOn_2 rfl rfl fi_11_5 rfl fl_X11_20 ?_
  refine g_aload_n C dX11_holdOn_5 rfl 0 rfl ?_
  refine g_callP [] C dX11_holdOn_6 rfl (tX11_workUnderWay (xl Γ) (xE Γ) u) cf_X11_workUnderWay rfl rfl ml_X11_139 rfl (by decide) (Nat.le_of_ble_eq_true rfl) rfl (fun r1 => ?_)
  refine g_iadd C dX11_holdOn_9 rfl ?_
  refine g_aload_n C dX11_holdOn_10 rfl 0 rfl ?_
  refine g_callP [] C dX11_holdOn_11 rfl (tX11_balance (xl Γ) (xE Γ) u) cf_X11_balance rfl rfl ml_X11_116 rfl (by decide) (Nat.le_of_ble_eq_true rfl) rfl (fun r2 => ?_)
  refine g_icmp_ge 28 C dX11_holdOn_14 rfl (by decide) (fun c3 => ?_) (fun c3 => ?_)
  · refine g_sub (ls' := []) [] rfl ?_
    exact pX11_holdOn_28 C M L u
  · refine g_aload_n C dX11_holdOn_17 rfl 0 rfl ?_
    refine g_getI C dX11_holdOn_18 rfl rfl fi_11_6 rfl fl_X11_23 ?_
    refine g_if_le 28 C dX11_holdOn_21 rfl (by decide) (fun c4 => ?_) (fun c4 => ?_)
    · refine g_sub (ls' := []) [] rfl ?_
      exact pX11_holdOn_28 C M L u
    · refine g_iconst (v := 1) C dX11_holdOn_24 rfl (by decide) ?_
      refine g_goto 29 C dX11_holdOn_25 rfl (by decide) ?_
      refine g_sub (ls' := []) [] rfl ?_
      exact pX11_holdOn_29 C M L 1 u
set_option maxRecDepth 20000 in
set_option maxHeartbeats 4000000 in
theorem tX11_holdOn (l : Launch) (E : EE) (u : Mm) : Ct l E yX11_holdOn cX11_holdOn 1 none 3 [.ref (E.1 74)] u cvV (gX11_holdOn u) :=
  Ct_of (own := RX11) (by decide +kernel) rfl (Nat.le_of_ble_eq_true rfl) (fun p e R s m args below meth c C M => g_sub (ls' := [(0, .ref (E.1 74))]) [0] rfl (pX11_holdOn_0 C M rfl u))
set_option maxRecDepth 20000 in
set_option maxHeartbeats 4000000 in
theorem pX11_fieldAt_2s {Γ : GX} (C : Cx Γ RX11 cX11_fieldAt 1) (M : Mx Γ (some .int)) (L : xn Γ = 2) (u : Mm) {j2 : Int32 → Option Int32} (hj2 : ∀ (v1 : Int32), Gp Γ (QM Γ (cvP u)) 2 [(0, .ref ((xE Γ).1 74)), (1, .int v1)] [] u (j2 v1)) (v1 : Int32) : Gp Γ (QM Γ (cvP u)) 2 [(0, .ref ((xE Γ).1 74)), (1, .int v1)] [] u (gX11_fieldAt_2_Ls u j2 v1) := by
  unfold gX11_fieldAt_2_Ls
  refine g_iload_n C dX11_fieldAt_2 rfl 1 rfl ?_
  refine g_aload_n C dX11_fieldAt_3 rfl 0 rfl ?_
  refine g_getI C dX11_fieldAt_4 rfl rfl fi_11_11 rfl fl_X11_111 ?_
  refine g_icmp_ge 86 C dX11_fieldAt_7 rfl (by decide) (fun c1 => ?_) (fun c1 => ?_)
  · refine g_bipush (v := (-9)) C dX11_fieldAt_86 rfl (by decide) ?_
    exact g_iret C M dX11_fieldAt_88 rfl rfl
  · refine g_aload_n C dX11_fieldAt_10 rfl 0 rfl ?_
    refine g_getI C dX11_fieldAt_11 rfl rfl fi_11_3 rfl fl_X11_16 ?_
    refine g_i2l C dX11_fieldAt_14 rfl ?_
    refine g_aload_n C dX11_fieldAt_15 rfl 0 rfl ?_
    refine g_getR (k2 := 80) C dX11_fieldAt_16 rfl rfl fi_11_14 ⟨by decide, by decide, rfl⟩ fl_X11_41 ?_
    refine g_iload_n C dX11_fieldAt_19 rfl 1 rfl ?_
    refine g_gd (fun hi2 => ?_)
    refine g_iald C dX11_fieldAt_20 rfl rfl rfl hi2 ?_
    refine g_i2l C dX11_fieldAt_21 rfl ?_
    refine g_aload_n C dX11_fieldAt_22 rfl 0 rfl ?_
    refine g_getR (k2 := 80) C dX11_fieldAt_23 rfl rfl fi_11_14 ⟨by decide, by decide, rfl⟩ fl_X11_41 ?_
    refine g_iload_n C dX11_fieldAt_26 rfl 1 rfl ?_
    refine g_gd (fun hi3 => ?_)
    refine g_iald C dX11_fieldAt_27 rfl rfl rfl hi3 ?_
    refine g_aload_n C dX11_fieldAt_28 rfl 0 rfl ?_
    refine g_getR (k2 := 82) C dX11_fieldAt_29 rfl rfl fi_11_16 ⟨by decide, by decide, rfl⟩ fl_X11_47 ?_
    refine g_iload_n C dX11_fieldAt_32 rfl 1 rfl ?_
    refine g_gd (fun hi4 => ?_)
    refine g_iald C dX11_fieldAt_33 rfl rfl rfl hi4 ?_
    refine g_iadd C dX11_fieldAt_34 rfl ?_
    refine g_iconst (v := 1) C dX11_fieldAt_35 rfl (by decide) ?_
    refine g_isub C dX11_fieldAt_36 rfl ?_
    refine g_i2l C dX11_fieldAt_37 rfl ?_
    refine g_callsP [.long ((u 74 3).toInt64), .long ((u 80 (ixn v1)).toInt64), .long ((((u 80 (ixn v1)) + (u 82 (ixn v1))) - 1).toInt64)] C dX11_fieldAt_38 rfl (tX11_in (xl Γ) (xE Γ) ((u 74 3).toInt64) ((u 80 (ixn v1)).toInt64) ((((u 80 (ixn v1)) + (u 82 (ixn v1))) - 1).toInt64) u) cf_X11_in ml_X11_107 rfl (by decide) (Nat.le_of_ble_eq_true rfl) rfl (fun r5 => ?_)
    refine g_if_eq 80 C dX11_fieldAt_41 rfl (by decide) (fun c6 => ?_) (fun c6 => ?_)
    · refine g_iincL (fun v1_7 => [(1, .int v1_7), (0, .ref ((xE Γ).1 74))]) C dX11_fieldAt_80 rfl L (by decide) (k := 1) rfl (iinc_1 _) (fun _ => rfl) (fun v1_7 => ?_)
      refine g_goto 2 C dX11_fieldAt_83 rfl (by decide) ?_
      refine g_sub (ls' := [(0, .ref ((xE Γ).1 74)), (1, .int v1_7)]) [1, 0] rfl ?_
      exact hj2 v1_7
    · refine g_aload_n C dX11_fieldAt_44 rfl 0 rfl ?_
      refine g_getI C dX11_fieldAt_45 rfl rfl fi_11_4 rfl fl_X11_133 ?_
      refine g_i2l C dX11_fieldAt_48 rfl ?_
      refine g_aload_n C dX11_fieldAt_49 rfl 0 rfl ?_
      refine g_getR (k2 := 81) C dX11_fieldAt_50 rfl rfl fi_11_15 ⟨by decide, by decide, rfl⟩ fl_X11_44 ?_
      refine g_iload_n C dX11_fieldAt_53 rfl 1 rfl ?_
      refine g_gd (fun hi8 => ?_)
      refine g_iald C dX11_fieldAt_54 rfl rfl rfl hi8 ?_
      refine g_i2l C dX11_fieldAt_55 rfl ?_
      refine g_aload_n C dX11_fieldAt_56 rfl 0 rfl ?_
      refine g_getR (k2 := 81) C dX11_fieldAt_57 rfl rfl fi_11_15 ⟨by decide, by decide, rfl⟩ fl_X11_44 ?_
      refine g_iload_n C dX11_fieldAt_60 rfl 1 rfl ?_
      refine g_gd (fun hi9 => ?_)
      refine g_iald C dX11_fieldAt_61 rfl rfl rfl hi9 ?_
      refine g_aload_n C dX11_fieldAt_62 rfl 0 rfl ?_
      refine g_getR (k2 := 82) C dX11_fieldAt_63 rfl rfl fi_11_16 ⟨by decide, by decide, rfl⟩ fl_X11_47 ?_
      refine g_iload_n C dX11_fieldAt_66 rfl 1 rfl ?_
      refine g_gd (fun hi10 => ?_)
      refine g_iald C dX11_fieldAt_67 rfl rfl rfl hi10 ?_
      refine g_iadd C dX11_fieldAt_68 rfl ?_
      refine g_iconst (v := 1) C dX11_fieldAt_69 rfl (by decide) ?_
      refine g_isub C dX11_fieldAt_70 rfl ?_
      refine g_i2l C dX11_fieldAt_71 rfl ?_
      refine g_callsP [.long ((u 74 4).toInt64), .long ((u 81 (ixn v1)).toInt64), .long ((((u 81 (ixn v1)) + (u 82 (ixn v1))) - 1).toInt64)] C dX11_fieldAt_72 rfl (tX11_in (xl Γ) (xE Γ) ((u 74 4).toInt64) ((u 81 (ixn v1)).toInt64) ((((u 81 (ixn v1)) + (u 82 (ixn v1))) - 1).toInt64) u) cf_X11_in ml_X11_107 rfl (by decide) (Nat.le_of_ble_eq_true rfl) rfl (fun r11 => ?_)
      refine g_if_eq 80 C dX11_fieldAt_75 rfl (by decide) (fun c12 => ?_) (fun c12 => ?_)
      · refine g_iincL (fun v1_13 => [(1, .int v1_13), (0, .ref ((xE Γ).1 74))]) C dX11_fieldAt_80 rfl L (by decide) (k := 1) rfl (iinc_1 _) (fun _ => rfl) (fun v1_13 => ?_)
        refine g_goto 2 C dX11_fieldAt_83 rfl (by decide) ?_
        refine g_sub (ls' := [(0, .ref ((xE Γ).1 74)), (1, .int v1_13)]) [1, 0] rfl ?_
        exact hj2 v1_13
      · refine g_iload_n C dX11_fieldAt_78 rfl 1 rfl ?_
        exact g_iret C M dX11_fieldAt_79 rfl rfl
set_option maxRecDepth 20000 in
set_option maxHeartbeats 4000000 in
theorem pX11_fieldAt_2 {Γ : GX} (C : Cx Γ RX11 cX11_fieldAt 1) (M : Mx Γ (some .int)) (L : xn Γ = 2) (u : Mm) : ∀ (n : Nat) (v1 : Int32), Gp Γ (QM Γ (cvP u)) 2 [(0, .ref ((xE Γ).1 74)), (1, .int v1)] [] u (gX11_fieldAt_2_L u n v1) := by
  intro n
  induction n with
  | zero => intro _; exact g_none
  | succ n ih => intro v1; exact pX11_fieldAt_2s C M L u ih v1

set_option maxRecDepth 20000 in
set_option maxHeartbeats 4000000 in
theorem pX11_fieldAt_0 {Γ : GX} (C : Cx Γ RX11 cX11_fieldAt 1) (M : Mx Γ (some .int)) (L : xn Γ = 2) (u : Mm) : Gp Γ (QM Γ (cvP u)) 0 [(0, .ref ((xE Γ).1 74))] [] u (gX11_fieldAt_b u) := by
  unfold gX11_fieldAt_b
  refine g_iconst (v := 0) C dX11_fieldAt_0 rfl (by decide) ?_
  refine g_istore_n (ls' := [(1, .int 0), (0, .ref ((xE Γ).1 74))]) C dX11_fieldAt_1 rfl L (by decide) rfl ?_
  refine g_sub (ls' := [(0, .ref ((xE Γ).1 74)), (1, .int 0)]) [1, 0] rfl ?_
  exact pX11_fieldAt_2 C M L u FU 0
set_option maxRecDepth 20000 in
set_option maxHeartbeats 4000000 in
theorem tX11_fieldAt (l : Launch) (E : EE) (u : Mm) : Ct l E yX11_fieldAt cX11_fieldAt 2 (some .int) 1 [.ref (E.1 74)] u (cvP u) (gX11_fieldAt u) :=
  Ct_of (own := RX11) (by decide +kernel) rfl (Nat.le_of_ble_eq_true rfl) (fun p e R s m args below meth c C M => g_sub (ls' := [(0, .ref (E.1 74))]) [0] rfl (pX11_fieldAt_0 C M rfl u))
set_option maxRecDepth 20000 in
set_option maxHeartbeats 4000000 in
theorem pX11_dragOf_0 {Γ : GX} (C : Cx Γ RX11 cX11_dragOf 1) (M : Mx Γ (some .int)) (L : xn Γ = 3) (u : Mm) (v1 : Int32) : Gp Γ (QM Γ (cvP u)) 0 [(0, .ref ((xE Γ).1 74)), (1, .int v1)] [] u (gX11_dragOf_b v1 u) := by
  unfold gX11_dragOf_b
  refine g_iconst (v := 4) C dX11_dragOf_0 rfl (by decide) ?_
  refine g_iload_n C dX11_dragOf_1 rfl 1 rfl ?_
  refine g_imul C dX11_dragOf_2 rfl ?_
  refine g_iconst (v := 3) C dX11_dragOf_3 rfl (by decide) ?_
  refine g_aload_n C dX11_dragOf_4 rfl 0 rfl ?_
  refine g_getR (k2 := 75) C dX11_dragOf_5 rfl rfl fi_11_0 ⟨by decide, by decide, rfl⟩ fl_X11_7 ?_
  refine g_iconst (v := 0) C dX11_dragOf_8 rfl (by decide) ?_
  refine g_iald C dX11_dragOf_9 rfl rfl rfl ⟨by decide, by decide⟩ ?_
  refine g_callsP [.int (u 75 (ixn 0))] C dX11_dragOf_10 rfl (tX11_plainly (xl Γ) (xE Γ) (u 75 (ixn 0)) u) cf_X11_plainly ml_X11_146 rfl (by decide) (Nat.le_of_ble_eq_true rfl) rfl (fun r1 => ?_)
  refine g_aload_n C dX11_dragOf_13 rfl 0 rfl ?_
  refine g_getR (k2 := 76) C dX11_dragOf_14 rfl rfl fi_11_1 ⟨by decide, by decide, rfl⟩ fl_X11_13 ?_
  refine g_iconst (v := 0) C dX11_dragOf_17 rfl (by decide) ?_
  refine g_iald C dX11_dragOf_18 rfl rfl rfl ⟨by decide, by decide⟩ ?_
  refine g_iadd C dX11_dragOf_19 rfl ?_
  refine g_imul C dX11_dragOf_20 rfl ?_
  refine g_iadd C dX11_dragOf_21 rfl ?_
  refine g_iconst (v := 2) C dX11_dragOf_22 rfl (by decide) ?_
  refine g_aload_n C dX11_dragOf_23 rfl 0 rfl ?_
  refine g_getI C dX11_dragOf_24 rfl rfl fi_11_7 rfl fl_X11_26 ?_
  refine g_imul C dX11_dragOf_27 rfl ?_
  refine g_isub C dX11_dragOf_28 rfl ?_
  refine g_lets (fun v2_2 => ?_)
  refine g_istore_n (ls' := [(2, .int v2_2), (0, .ref ((xE Γ).1 74)), (1, .int v1)]) C dX11_dragOf_29 rfl L (by decide) rfl ?_
  refine g_iload_n C dX11_dragOf_30 rfl 0 rfl ?_
  refine g_if_ge 38 C dX11_dragOf_31 rfl (by decide) (fun c3 => ?_) (fun c3 => ?_)
  · refine g_iload_n C dX11_dragOf_38 rfl 0 rfl ?_
    exact g_iret C M dX11_dragOf_39 rfl rfl
  · refine g_iconst (v := 0) C dX11_dragOf_34 rfl (by decide) ?_
    refine g_goto 39 C dX11_dragOf_35 rfl (by decide) ?_
    exact g_iret C M dX11_dragOf_39 rfl rfl
set_option maxRecDepth 20000 in
set_option maxHeartbeats 4000000 in
theorem tX11_dragOf (l : Launch) (E : EE) (v1 : Int32) (u : Mm) : Ct l E yX11_dragOf cX11_dragOf 3 (some .int) 1 [.ref (E.1 74), .int v1] u (cvP u) (gX11_dragOf v1 u) :=
  Ct_of (own := RX11) (by decide +kernel) rfl (Nat.le_of_ble_eq_true rfl) (fun p e R s m args below meth c C M => g_sub (ls' := [(0, .ref (E.1 74)), (1, .int v1)]) [0, 1] rfl (pX11_dragOf_0 C M rfl u v1))
set_option maxRecDepth 20000 in
set_option maxHeartbeats 4000000 in
theorem pX11_costOf_19 {Γ : GX} (C : Cx Γ RX11 cX11_costOf 2) (M : Mx Γ (some .int)) (L : xn Γ = 6) (u : Mm) (v1 : Int32) (v2 : Int32) (s0 : Int32) : Gp Γ (QM Γ (cvP u)) 19 [(0, .ref ((xE Γ).1 74)), (1, .int v1), (2, .int v2)] [.int s0] u (gX11_costOf_19 v1 v2 s0 u) := by
  unfold gX11_costOf_19
  refine g_istore_n (ls' := [(3, .int s0), (0, .ref ((xE Γ).1 74)), (1, .int v1), (2, .int v2)]) C dX11_costOf_19 rfl L (by decide) rfl ?_
  refine g_iload_n C dX11_costOf_20 rfl 0 rfl ?_
  refine g_aload_n C dX11_costOf_21 rfl 1 rfl ?_
  refine g_getR (k2 := 79) C dX11_costOf_22 rfl rfl fi_11_13 ⟨by decide, by decide, rfl⟩ fl_X11_38 ?_
  refine g_iload_n C dX11_costOf_25 rfl 2 rfl ?_
  refine g_gd (fun hi1 => ?_)
  refine g_iald C dX11_costOf_26 rfl rfl rfl hi1 ?_
  refine g_iadd C dX11_costOf_27 rfl ?_
  refine g_iconst (v := 5) C dX11_costOf_28 rfl (by decide) ?_
  refine g_iadd C dX11_costOf_29 rfl ?_
  refine g_lets (fun v4_2 => ?_)
  refine g_istore (ls' := [(4, .int v4_2), (3, .int s0), (0, .ref ((xE Γ).1 74)), (1, .int v1), (2, .int v2)]) C dX11_costOf_30 rfl L (by decide) rfl ?_
  refine g_iload_n C dX11_costOf_32 rfl 1 rfl ?_
  refine g_iconst (v := 3) C dX11_costOf_33 rfl (by decide) ?_
  refine g_aload_n C dX11_costOf_34 rfl 2 rfl ?_
  refine g_getR (k2 := 79) C dX11_costOf_35 rfl rfl fi_11_13 ⟨by decide, by decide, rfl⟩ fl_X11_38 ?_
  refine g_iload_n C dX11_costOf_38 rfl 3 rfl ?_
  refine g_gd (fun hi3 => ?_)
  refine g_iald C dX11_costOf_39 rfl rfl rfl hi3 ?_
  refine g_imul C dX11_costOf_40 rfl ?_
  refine g_iadd C dX11_costOf_41 rfl ?_
  refine g_lets (fun v5_4 => ?_)
  refine g_istore (ls' := [(5, .int v5_4), (4, .int v4_2), (3, .int s0), (0, .ref ((xE Γ).1 74)), (1, .int v1), (2, .int v2)]) C dX11_costOf_42 rfl L (by decide) rfl ?_
  refine g_aload_n C dX11_costOf_44 rfl 3 rfl ?_
  refine g_getR (k2 := 78) C dX11_costOf_45 rfl rfl fi_11_12 ⟨by decide, by decide, rfl⟩ fl_X11_35 ?_
  refine g_iload_n C dX11_costOf_48 rfl 4 rfl ?_
  refine g_gd (fun hi5 => ?_)
  refine g_iald C dX11_costOf_49 rfl rfl rfl hi5 ?_
  refine g_if (fun c6 => ?_) (fun c6 => ?_)
  · refine g_tabI 34 84 C dX11_costOf_50 rfl (by rw [c6]; exact ⟨by decide, by decide, rfl⟩) (by decide) ?_
    refine g_iload C dX11_costOf_84 rfl 1 rfl ?_
    exact g_iret C M dX11_costOf_86 rfl rfl
  refine g_if (fun c7 => ?_) (fun c7 => ?_)
  · refine g_tabI 37 87 C dX11_costOf_50 rfl (by rw [c7]; exact ⟨by decide, by decide, rfl⟩) (by decide) ?_
    refine g_iload C dX11_costOf_87 rfl 0 rfl ?_
    exact g_iret C M dX11_costOf_89 rfl rfl
  refine g_if (fun c8 => ?_) (fun c8 => ?_)
  · refine g_tabI 40 90 C dX11_costOf_50 rfl (by rw [c8]; exact ⟨by decide, by decide, rfl⟩) (by decide) ?_
    refine g_iload_n C dX11_costOf_90 rfl 2 rfl ?_
    refine g_aload_n C dX11_costOf_91 rfl 3 rfl ?_
    refine g_getR (k2 := 79) C dX11_costOf_92 rfl rfl fi_11_13 ⟨by decide, by decide, rfl⟩ fl_X11_38 ?_
    refine g_iload_n C dX11_costOf_95 rfl 4 rfl ?_
    refine g_gd (fun hi9 => ?_)
    refine g_iald C dX11_costOf_96 rfl rfl rfl hi9 ?_
    refine g_iadd C dX11_costOf_97 rfl ?_
    exact g_iret C M dX11_costOf_98 rfl rfl
  refine g_if (fun c10 => ?_) (fun c10 => ?_)
  · refine g_tabI 49 99 C dX11_costOf_50 rfl (by rw [c10]; exact ⟨by decide, by decide, rfl⟩) (by decide) ?_
    refine g_iload C dX11_costOf_99 rfl 0 rfl ?_
    refine g_aload_n C dX11_costOf_101 rfl 3 rfl ?_
    refine g_iload_n C dX11_costOf_102 rfl 5 rfl ?_
    refine g_callP [.int v2] C dX11_costOf_103 rfl (tX11_dragOf (xl Γ) (xE Γ) v2 u) cf_X11_dragOf rfl rfl ml_X11_150 rfl (by decide) (Nat.le_of_ble_eq_true rfl) rfl (fun r11 => ?_)
    refine g_bipush (v := 10) C dX11_costOf_106 rfl (by decide) ?_
    refine g_aload_n C dX11_costOf_108 rfl 3 rfl ?_
    refine g_getR (k2 := 82) C dX11_costOf_109 rfl rfl fi_11_16 ⟨by decide, by decide, rfl⟩ fl_X11_47 ?_
    refine g_iload_n C dX11_costOf_112 rfl 4 rfl ?_
    refine g_gd (fun hi12 => ?_)
    refine g_iald C dX11_costOf_113 rfl rfl rfl hi12 ?_
    refine g_imul C dX11_costOf_114 rfl ?_
    refine g_icmp_le 123 C dX11_costOf_115 rfl (by decide) (fun c13 => ?_) (fun c13 => ?_)
    · refine g_iconst (v := 0) C dX11_costOf_123 rfl (by decide) ?_
      refine g_iadd C dX11_costOf_124 rfl ?_
      exact g_iret C M dX11_costOf_125 rfl rfl
    · refine g_bipush (v := 20) C dX11_costOf_118 rfl (by decide) ?_
      refine g_goto 124 C dX11_costOf_120 rfl (by decide) ?_
      refine g_iadd C dX11_costOf_124 rfl ?_
      exact g_iret C M dX11_costOf_125 rfl rfl
  refine g_if (fun c14 => ?_) (fun c14 => ?_)
  · refine g_tabI 76 126 C dX11_costOf_50 rfl (by rw [c14]; exact ⟨by decide, by decide, rfl⟩) (by decide) ?_
    refine g_iload C dX11_costOf_126 rfl 1 rfl ?_
    refine g_iconst (v := 2) C dX11_costOf_128 rfl (by decide) ?_
    refine g_idiv C dX11_costOf_129 rfl (by decide) ?_
    exact g_iret C M dX11_costOf_130 rfl rfl
  have ec6 := lv_neT c6 (a := 1) (by decide)
  have ec7 := lv_neT c7 (a := 2) (by decide)
  have ec8 := lv_neT c8 (a := 3) (by decide)
  have ec10 := lv_neT c10 (a := 4) (by decide)
  have ec14 := lv_neT c14 (a := 5) (by decide)
  refine g_tabO 131 C dX11_costOf_50 rfl (by omega) (by decide) ?_
  refine g_iload_n C dX11_costOf_131 rfl 2 rfl ?_
  exact g_iret C M dX11_costOf_132 rfl rfl
set_option maxRecDepth 20000 in
set_option maxHeartbeats 4000000 in
theorem pX11_costOf_0 {Γ : GX} (C : Cx Γ RX11 cX11_costOf 2) (M : Mx Γ (some .int)) (L : xn Γ = 6) (u : Mm) (v1 : Int32) (v2 : Int32) : Gp Γ (QM Γ (cvP u)) 0 [(0, .ref ((xE Γ).1 74)), (1, .int v1), (2, .int v2)] [] u (gX11_costOf_b v1 v2 u) := by
  unfold gX11_costOf_b
  refine g_iload_n C dX11_costOf_0 rfl 1 rfl ?_
  refine g_if_ge 7 C dX11_costOf_1 rfl (by decide) (fun c1 => ?_) (fun c1 => ?_)
  · refine g_iload_n C dX11_costOf_7 rfl 2 rfl ?_
    refine g_iconst (v := 3) C dX11_costOf_8 rfl (by decide) ?_
    refine g_icmp_le 18 C dX11_costOf_9 rfl (by decide) (fun c2 => ?_) (fun c2 => ?_)
    · refine g_iload_n C dX11_costOf_18 rfl 2 rfl ?_
      exact pX11_costOf_19 C M L u v1 v2 v2
    · refine g_iconst (v := 2) C dX11_costOf_12 rfl (by decide) ?_
      refine g_iload_n C dX11_costOf_13 rfl 2 rfl ?_
      refine g_imul C dX11_costOf_14 rfl ?_
      refine g_goto 19 C dX11_costOf_15 rfl (by decide) ?_
      exact pX11_costOf_19 C M L u v1 v2 (2 * v2)
  · refine g_bipush (v := 40) C dX11_costOf_4 rfl (by decide) ?_
    exact g_iret C M dX11_costOf_6 rfl rfl
set_option maxRecDepth 20000 in
set_option maxHeartbeats 4000000 in
theorem tX11_costOf (l : Launch) (E : EE) (v1 : Int32) (v2 : Int32) (u : Mm) : Ct l E yX11_costOf cX11_costOf 6 (some .int) 2 [.ref (E.1 74), .int v1, .int v2] u (cvP u) (gX11_costOf v1 v2 u) :=
  Ct_of (own := RX11) (by decide +kernel) rfl (Nat.le_of_ble_eq_true rfl) (fun p e R s m args below meth c C M => g_sub (ls' := [(0, .ref (E.1 74)), (1, .int v1), (2, .int v2)]) [0, 1, 2] rfl (pX11_costOf_0 C M rfl u v1 v2))
set_option maxRecDepth 20000 in
set_option maxHeartbeats 4000000 in
theorem pX11_feed_32 {Γ : GX} (C : Cx Γ RX11 cX11_feed 1) (M : Mx Γ (some .int)) (L : xn Γ = 2) (u : Mm) : Gp Γ (QM Γ cvI) 32 [(0, .ref ((xE Γ).1 74))] [] u (gX11_feed_32 u) := by
  unfold gX11_feed_32
  refine g_aload_n C dX11_feed_32 rfl 0 rfl ?_
  refine g_bipush (v := (-6)) C dX11_feed_33 rfl (by decide) ?_
  refine g_callI [.int (-6)] C dX11_feed_35 rfl (tX11_refuse (xl Γ) (xE Γ) (-6) u) cf_X11_refuse rfl rfl ml_X11_153 rfl (by decide) (Nat.le_of_ble_eq_true rfl) rfl (fun r2 u1 => ?_)
  exact g_iret C M dX11_feed_38 rfl rfl
set_option maxRecDepth 20000 in
set_option maxHeartbeats 4000000 in
theorem pX11_feed_0 {Γ : GX} (C : Cx Γ RX11 cX11_feed 1) (M : Mx Γ (some .int)) (L : xn Γ = 2) (v1 : Int32) (u : Mm) : Gp Γ (QM Γ cvI) 0 [(0, .ref ((xE Γ).1 74)), (1, .int v1)] [] u (gX11_feed_b v1 u) := by
  unfold gX11_feed_b
  refine g_aload_n C dX11_feed_0 rfl 0 rfl ?_
  refine g_iconst (v := 0) C dX11_feed_1 rfl (by decide) ?_
  refine g_putI C dX11_feed_2 rfl rfl fp_11_19 rfl fl_X11_104 ?_
  refine g_letm (fun u1 => ?_)
  refine g_iload_n C dX11_feed_5 rfl 1 rfl ?_
  refine g_if_ge 16 C dX11_feed_6 rfl (by decide) (fun c2 => ?_) (fun c2 => ?_)
  · refine g_iload_n C dX11_feed_16 rfl 1 rfl ?_
    refine g_sipush (v := 255) C dX11_feed_17 rfl (by decide) ?_
    refine g_icmp_gt 32 C dX11_feed_20 rfl (by decide) (fun c3 => ?_) (fun c3 => ?_)
    · refine g_sub (ls' := [(0, .ref ((xE Γ).1 74))]) [0] rfl ?_
      exact pX11_feed_32 C M L u1
    · refine g_aload_n C dX11_feed_23 rfl 0 rfl ?_
      refine g_getI C dX11_feed_24 rfl rfl fi_11_23 rfl fl_X11_156 ?_
      refine g_bipush (v := 96) C dX11_feed_27 rfl (by decide) ?_
      refine g_icmp_ne 39 C dX11_feed_29 rfl (by decide) (fun c4 => ?_) (fun c4 => ?_)
      · refine g_aload_n C dX11_feed_39 rfl 0 rfl ?_
        refine g_getR (k2 := 85) C dX11_feed_40 rfl rfl fi_11_22 ⟨by decide, by decide, rfl⟩ fl_X11_56 ?_
        refine g_aload_n C dX11_feed_43 rfl 0 rfl ?_
        refine g_getI C dX11_feed_44 rfl rfl fi_11_23 rfl fl_X11_156 ?_
        refine g_iload_n C dX11_feed_47 rfl 1 rfl ?_
        refine g_gd (fun hi6 => ?_)
        refine g_iast C dX11_feed_48 rfl rfl rfl hi6 ?_
        refine g_letm (fun u5 => ?_)
        refine g_aload_n C dX11_feed_49 rfl 0 rfl ?_
        refine g_dup C dX11_feed_50 rfl rfl ?_
        refine g_getI C dX11_feed_51 rfl rfl fi_11_23 rfl fl_X11_156 ?_
        refine g_iconst (v := 1) C dX11_feed_54 rfl (by decide) ?_
        refine g_iadd C dX11_feed_55 rfl ?_
        refine g_putI C dX11_feed_56 rfl rfl fp_11_23 rfl fl_X11_156 ?_
        refine g_letm (fun u7 => ?_)
        refine g_aload_n C dX11_feed_59 rfl 0 rfl ?_
        refine g_getI C dX11_feed_60 rfl rfl fi_11_23 rfl fl_X11_156 ?_
        exact g_iret C M dX11_feed_63 rfl rfl
      · refine g_sub (ls' := [(0, .ref ((xE Γ).1 74))]) [0] rfl ?_
        exact pX11_feed_32 C M L u1
  · refine g_aload_n C dX11_feed_9 rfl 0 rfl ?_
    refine g_bipush (v := (-4)) C dX11_feed_10 rfl (by decide) ?_
    refine g_callI [.int (-4)] C dX11_feed_12 rfl (tX11_refuse (xl Γ) (xE Γ) (-4) u1) cf_X11_refuse rfl rfl ml_X11_153 rfl (by decide) (Nat.le_of_ble_eq_true rfl) rfl (fun r9 u8 => ?_)
    exact g_iret C M dX11_feed_15 rfl rfl
set_option maxRecDepth 20000 in
set_option maxHeartbeats 4000000 in
theorem tX11_feed (l : Launch) (E : EE) (v1 : Int32) (u : Mm) : Ct l E yX11_feed cX11_feed 2 (some .int) 1 [.ref (E.1 74), .int v1] u cvI (gX11_feed v1 u) :=
  Ct_of (own := RX11) (by decide +kernel) rfl (Nat.le_of_ble_eq_true rfl) (fun p e R s m args below meth c C M => g_sub (ls' := [(0, .ref (E.1 74)), (1, .int v1)]) [0, 1] rfl (pX11_feed_0 C M rfl v1 u))
set_option maxRecDepth 20000 in
set_option maxHeartbeats 4000000 in
theorem pX11_here_0 {Γ : GX} (C : Cx Γ RX11 cX11_here 0) (M : Mx Γ (some .int)) (L : xn Γ = 1) (u : Mm) : Gp Γ (QM Γ (cvP u)) 0 [(0, .ref ((xE Γ).1 74))] [] u (gX11_here_b u) := by
  unfold gX11_here_b
  refine g_aload_n C dX11_here_0 rfl 0 rfl ?_
  refine g_getI C dX11_here_1 rfl rfl fi_11_24 rfl fl_X11_159 ?_
  refine g_aload_n C dX11_here_4 rfl 0 rfl ?_
  refine g_getI C dX11_here_5 rfl rfl fi_11_23 rfl fl_X11_156 ?_
  refine g_icmp_ge 23 C dX11_here_8 rfl (by decide) (fun c1 => ?_) (fun c1 => ?_)
  · refine g_iconst (v := (-1)) C dX11_here_23 rfl (by decide) ?_
    exact g_iret C M dX11_here_24 rfl rfl
  · refine g_aload_n C dX11_here_11 rfl 0 rfl ?_
    refine g_getR (k2 := 85) C dX11_here_12 rfl rfl fi_11_22 ⟨by decide, by decide, rfl⟩ fl_X11_56 ?_
    refine g_aload_n C dX11_here_15 rfl 0 rfl ?_
    refine g_getI C dX11_here_16 rfl rfl fi_11_24 rfl fl_X11_159 ?_
    refine g_gd (fun hi2 => ?_)
    refine g_iald C dX11_here_19 rfl rfl rfl hi2 ?_
    refine g_goto 24 C dX11_here_20 rfl (by decide) ?_
    exact g_iret C M dX11_here_24 rfl rfl
set_option maxRecDepth 20000 in
set_option maxHeartbeats 4000000 in
theorem tX11_here (l : Launch) (E : EE) (u : Mm) : Ct l E yX11_here cX11_here 1 (some .int) 0 [.ref (E.1 74)] u (cvP u) (gX11_here u) :=
  Ct_of (own := RX11) (by decide +kernel) rfl (Nat.le_of_ble_eq_true rfl) (fun p e R s m args below meth c C M => g_sub (ls' := [(0, .ref (E.1 74))]) [0] rfl (pX11_here_0 C M rfl u))
set_option maxRecDepth 20000 in
set_option maxHeartbeats 4000000 in
theorem pX11_readDigits_88 {Γ : GX} (C : Cx Γ RX11 cX11_readDigits 1) (M : Mx Γ (some .int)) (L : xn Γ = 4) (v1 : Int32) (v2 : Int32) (v3 : Int32) (s0 : Int32) (s1 : Int32) {j4 : Int32 → Int32 → Mm → Option (Int32 × Mm)} (hj4 : ∀ (v2 : Int32) (v3 : Int32) (u : Mm), Gp Γ (QM Γ cvI) 4 [(0, .ref ((xE Γ).1 74)), (1, .int v1), (2, .int v2), (3, .int v3)] [] u (j4 v2 v3 u)) (u : Mm) : Gp Γ (QM Γ cvI) 88 [(0, .ref ((xE Γ).1 74)), (1, .int v1), (2, .int v2), (3, .int v3)] [.int s0, .int s1, .ref ((xE Γ).1 74)] u (gX11_readDigits_88 j4 v1 v2 v3 s0 s1 u) := by
  unfold gX11_readDigits_88
  refine g_iadd C dX11_readDigits_88 rfl ?_
  refine g_putI C dX11_readDigits_89 rfl rfl fp_11_24 rfl fl_X11_159 ?_
  refine g_letm (fun u1 => ?_)
  refine g_iincL (fun v3_2 => [(3, .int v3_2), (0, .ref ((xE Γ).1 74)), (1, .int v1), (2, .int v2)]) C dX11_readDigits_92 rfl L (by decide) (k := 3) rfl (iinc_1 _) (fun _ => rfl) (fun v3_2 => ?_)
  refine g_goto 4 C dX11_readDigits_95 rfl (by decide) ?_
  refine g_sub (ls' := [(0, .ref ((xE Γ).1 74)), (1, .int v1), (2, .int v2), (3, .int v3_2)]) [1, 2, 3, 0] rfl ?_
  exact hj4 v2 v3_2 u1
set_option maxRecDepth 20000 in
set_option maxHeartbeats 4000000 in
theorem pX11_readDigits_70 {Γ : GX} (C : Cx Γ RX11 cX11_readDigits 1) (M : Mx Γ (some .int)) (L : xn Γ = 4) (v1 : Int32) (v3 : Int32) (s0 : Int32) {j4 : Int32 → Int32 → Mm → Option (Int32 × Mm)} (hj4 : ∀ (v2 : Int32) (v3 : Int32) (u : Mm), Gp Γ (QM Γ cvI) 4 [(0, .ref ((xE Γ).1 74)), (1, .int v1), (2, .int v2), (3, .int v3)] [] u (j4 v2 v3 u)) (u : Mm) : Gp Γ (QM Γ cvI) 70 [(0, .ref ((xE Γ).1 74)), (1, .int v1), (3, .int v3)] [.int s0] u (gX11_readDigits_70 j4 v1 v3 s0 u) := by
  unfold gX11_readDigits_70
  refine g_istore_n (ls' := [(2, .int s0), (0, .ref ((xE Γ).1 74)), (1, .int v1), (3, .int v3)]) C dX11_readDigits_70 rfl L (by decide) rfl ?_
  refine g_aload_n C dX11_readDigits_71 rfl 1 rfl ?_
  refine g_dup C dX11_readDigits_72 rfl rfl ?_
  refine g_getI C dX11_readDigits_73 rfl rfl fi_11_24 rfl fl_X11_159 ?_
  refine g_aload_n C dX11_readDigits_76 rfl 1 rfl ?_
  refine g_getI C dX11_readDigits_77 rfl rfl fi_11_25 rfl fl_X11_162 ?_
  refine g_if_eq 87 C dX11_readDigits_80 rfl (by decide) (fun c1 => ?_) (fun c1 => ?_)
  · refine g_iconst (v := 1) C dX11_readDigits_87 rfl (by decide) ?_
    refine g_sub (ls' := [(0, .ref ((xE Γ).1 74)), (1, .int v1), (2, .int s0), (3, .int v3)]) [1, 2, 0, 3] rfl ?_
    exact pX11_readDigits_88 C M L v1 s0 v3 1 (u 74 24) hj4 u
  · refine g_iconst (v := 0) C dX11_readDigits_83 rfl (by decide) ?_
    refine g_goto 88 C dX11_readDigits_84 rfl (by decide) ?_
    refine g_sub (ls' := [(0, .ref ((xE Γ).1 74)), (1, .int v1), (2, .int s0), (3, .int v3)]) [1, 2, 0, 3] rfl ?_
    exact pX11_readDigits_88 C M L v1 s0 v3 0 (u 74 24) hj4 u
set_option maxRecDepth 20000 in
set_option maxHeartbeats 4000000 in
theorem pX11_readDigits_39 {Γ : GX} (C : Cx Γ RX11 cX11_readDigits 1) (M : Mx Γ (some .int)) (L : xn Γ = 4) (v1 : Int32) (v2 : Int32) (v3 : Int32) (s0 : Int32) {j4 : Int32 → Int32 → Mm → Option (Int32 × Mm)} (hj4 : ∀ (v2 : Int32) (v3 : Int32) (u : Mm), Gp Γ (QM Γ cvI) 4 [(0, .ref ((xE Γ).1 74)), (1, .int v1), (2, .int v2), (3, .int v3)] [] u (j4 v2 v3 u)) (u : Mm) : Gp Γ (QM Γ cvI) 39 [(0, .ref ((xE Γ).1 74)), (1, .int v1), (2, .int v2), (3, .int v3)] [.int s0, .ref ((xE Γ).1 74)] u (gX11_readDigits_39 j4 v1 v2 v3 s0 u) := by
  unfold gX11_readDigits_39
  refine g_gd (fun hb2 => ?_)
  refine g_putZ C dX11_readDigits_39 rfl rfl fp_11_25 rfl fl_X11_162 hb2 ?_
  refine g_letm (fun u1 => ?_)
  refine g_aload_n C dX11_readDigits_42 rfl 0 rfl ?_
  refine g_getI C dX11_readDigits_43 rfl rfl fi_11_25 rfl fl_X11_162 ?_
  refine g_if_eq 53 C dX11_readDigits_46 rfl (by decide) (fun c3 => ?_) (fun c3 => ?_)
  · refine g_bipush (v := 10) C dX11_readDigits_53 rfl (by decide) ?_
    refine g_iload_n C dX11_readDigits_55 rfl 2 rfl ?_
    refine g_imul C dX11_readDigits_56 rfl ?_
    refine g_aload_n C dX11_readDigits_57 rfl 0 rfl ?_
    refine g_getR (k2 := 85) C dX11_readDigits_58 rfl rfl fi_11_22 ⟨by decide, by decide, rfl⟩ fl_X11_56 ?_
    refine g_aload_n C dX11_readDigits_61 rfl 0 rfl ?_
    refine g_getI C dX11_readDigits_62 rfl rfl fi_11_24 rfl fl_X11_159 ?_
    refine g_gd (fun hi4 => ?_)
    refine g_iald C dX11_readDigits_65 rfl rfl rfl hi4 ?_
    refine g_iadd C dX11_readDigits_66 rfl ?_
    refine g_bipush (v := 48) C dX11_readDigits_67 rfl (by decide) ?_
    refine g_isub C dX11_readDigits_69 rfl ?_
    refine g_sub (ls' := [(0, .ref ((xE Γ).1 74)), (1, .int v1), (3, .int v3)]) [0, 1, 3] rfl ?_
    exact pX11_readDigits_70 C M L v1 v3 (((10 * v2) + (u1 85 (ixn (u1 74 24)))) - 48) hj4 u1
  · refine g_iconst (v := 0) C dX11_readDigits_49 rfl (by decide) ?_
    refine g_goto 70 C dX11_readDigits_50 rfl (by decide) ?_
    refine g_sub (ls' := [(0, .ref ((xE Γ).1 74)), (1, .int v1), (3, .int v3)]) [0, 1, 3] rfl ?_
    exact pX11_readDigits_70 C M L v1 v3 0 hj4 u1
set_option maxRecDepth 20000 in
set_option maxHeartbeats 4000000 in
theorem pX11_readDigits_34 {Γ : GX} (C : Cx Γ RX11 cX11_readDigits 1) (M : Mx Γ (some .int)) (L : xn Γ = 4) (v1 : Int32) (v2 : Int32) (v3 : Int32) {j4 : Int32 → Int32 → Mm → Option (Int32 × Mm)} (hj4 : ∀ (v2 : Int32) (v3 : Int32) (u : Mm), Gp Γ (QM Γ cvI) 4 [(0, .ref ((xE Γ).1 74)), (1, .int v1), (2, .int v2), (3, .int v3)] [] u (j4 v2 v3 u)) (u : Mm) : Gp Γ (QM Γ cvI) 34 [(0, .ref ((xE Γ).1 74)), (1, .int v1), (2, .int v2), (3, .int v3)] [.ref ((xE Γ).1 74)] u (gX11_readDigits_34 j4 v1 v2 v3 u) := by
  unfold gX11_readDigits_34
  refine g_iconst (v := 1) C dX11_readDigits_34 rfl (by decide) ?_
  refine g_goto 39 C dX11_readDigits_35 rfl (by decide) ?_
  exact pX11_readDigits_39 C M L v1 v2 v3 1 hj4 u
set_option maxRecDepth 20000 in
set_option maxHeartbeats 4000000 in
theorem pX11_readDigits_4s {Γ : GX} (C : Cx Γ RX11 cX11_readDigits 1) (M : Mx Γ (some .int)) (L : xn Γ = 4) (v1 : Int32) {j4 : Int32 → Int32 → Mm → Option (Int32 × Mm)} (hj4 : ∀ (v2 : Int32) (v3 : Int32) (u : Mm), Gp Γ (QM Γ cvI) 4 [(0, .ref ((xE Γ).1 74)), (1, .int v1), (2, .int v2), (3, .int v3)] [] u (j4 v2 v3 u)) (v2 : Int32) (v3 : Int32) (u : Mm) : Gp Γ (QM Γ cvI) 4 [(0, .ref ((xE Γ).1 74)), (1, .int v1), (2, .int v2), (3, .int v3)] [] u (gX11_readDigits_4_Ls v1 j4 v2 v3 u) := by
  unfold gX11_readDigits_4_Ls
  refine g_iload_n C dX11_readDigits_4 rfl 3 rfl ?_
  refine g_iload_n C dX11_readDigits_5 rfl 1 rfl ?_
  refine g_icmp_ge 98 C dX11_readDigits_6 rfl (by decide) (fun c1 => ?_) (fun c1 => ?_)
  · refine g_iload_n C dX11_readDigits_98 rfl 2 rfl ?_
    exact g_iret C M dX11_readDigits_99 rfl rfl
  · refine g_aload_n C dX11_readDigits_9 rfl 0 rfl ?_
    refine g_aload_n C dX11_readDigits_10 rfl 0 rfl ?_
    refine g_getI C dX11_readDigits_11 rfl rfl fi_11_25 rfl fl_X11_162 ?_
    refine g_if_ne 34 C dX11_readDigits_14 rfl (by decide) (fun c2 => ?_) (fun c2 => ?_)
    · exact pX11_readDigits_34 C M L v1 v2 v3 hj4 u
    · refine g_aload_n C dX11_readDigits_17 rfl 0 rfl ?_
      refine g_callP [] C dX11_readDigits_18 rfl (tX11_here (xl Γ) (xE Γ) u) cf_X11_here rfl rfl ml_X11_166 rfl (by decide) (Nat.le_of_ble_eq_true rfl) rfl (fun r3 => ?_)
      refine g_i2l C dX11_readDigits_21 rfl ?_
      refine g_ldc2_w (v := 48) C dX11_readDigits_22 rfl (wm_16 15 rfl) ?_
      refine g_ldc2_w (v := 57) C dX11_readDigits_25 rfl (wm_16 16 rfl) ?_
      refine g_callsP [.long r3.toInt64, .long 48, .long 57] C dX11_readDigits_28 rfl (tX11_in (xl Γ) (xE Γ) r3.toInt64 48 57 u) cf_X11_in ml_X11_107 rfl (by decide) (Nat.le_of_ble_eq_true rfl) rfl (fun r4 => ?_)
      refine g_if_ne 38 C dX11_readDigits_31 rfl (by decide) (fun c5 => ?_) (fun c5 => ?_)
      · refine g_iconst (v := 0) C dX11_readDigits_38 rfl (by decide) ?_
        exact pX11_readDigits_39 C M L v1 v2 v3 0 hj4 u
      · exact pX11_readDigits_34 C M L v1 v2 v3 hj4 u
set_option maxRecDepth 20000 in
set_option maxHeartbeats 4000000 in
theorem pX11_readDigits_4 {Γ : GX} (C : Cx Γ RX11 cX11_readDigits 1) (M : Mx Γ (some .int)) (L : xn Γ = 4) (v1 : Int32) : ∀ (n : Nat) (v2 : Int32) (v3 : Int32) (u : Mm), Gp Γ (QM Γ cvI) 4 [(0, .ref ((xE Γ).1 74)), (1, .int v1), (2, .int v2), (3, .int v3)] [] u (gX11_readDigits_4_L v1 n v2 v3 u) := by
  intro n
  induction n with
  | zero => intro _ _ _; exact g_none
  | succ n ih => intro v2 v3 u; exact pX11_readDigits_4s C M L v1 ih v2 v3 u

set_option maxRecDepth 20000 in
set_option maxHeartbeats 4000000 in
theorem pX11_readDigits_0 {Γ : GX} (C : Cx Γ RX11 cX11_readDigits 1) (M : Mx Γ (some .int)) (L : xn Γ = 4) (v1 : Int32) (u : Mm) : Gp Γ (QM Γ cvI) 0 [(0, .ref ((xE Γ).1 74)), (1, .int v1)] [] u (gX11_readDigits_b v1 u) := by
  unfold gX11_readDigits_b
  refine g_iconst (v := 0) C dX11_readDigits_0 rfl (by decide) ?_
  refine g_istore_n (ls' := [(2, .int 0), (0, .ref ((xE Γ).1 74)), (1, .int v1)]) C dX11_readDigits_1 rfl L (by decide) rfl ?_
  refine g_iconst (v := 0) C dX11_readDigits_2 rfl (by decide) ?_
  refine g_istore_n (ls' := [(3, .int 0), (2, .int 0), (0, .ref ((xE Γ).1 74)), (1, .int v1)]) C dX11_readDigits_3 rfl L (by decide) rfl ?_
  refine g_sub (ls' := [(0, .ref ((xE Γ).1 74)), (1, .int v1), (2, .int 0), (3, .int 0)]) [2, 3, 1, 0] rfl ?_
  exact pX11_readDigits_4 C M L v1 FU 0 0 u
set_option maxRecDepth 20000 in
set_option maxHeartbeats 4000000 in
theorem tX11_readDigits (l : Launch) (E : EE) (v1 : Int32) (u : Mm) : Ct l E yX11_readDigits cX11_readDigits 4 (some .int) 1 [.ref (E.1 74), .int v1] u cvI (gX11_readDigits v1 u) :=
  Ct_of (own := RX11) (by decide +kernel) rfl (Nat.le_of_ble_eq_true rfl) (fun p e R s m args below meth c C M => g_sub (ls' := [(0, .ref (E.1 74)), (1, .int v1)]) [0, 1] rfl (pX11_readDigits_0 C M rfl v1 u))
set_option maxRecDepth 20000 in
set_option maxHeartbeats 4000000 in
theorem pX11_readSigned_50 {Γ : GX} (C : Cx Γ RX11 cX11_readSigned 2) (M : Mx Γ (some .int)) (L : xn Γ = 3) (v1 : Int32) (s0 : Int32) (s1 : Int32) (u : Mm) : Gp Γ (QM Γ cvI) 50 [(0, .ref ((xE Γ).1 74)), (1, .int v1)] [.int s0, .int s1, .ref ((xE Γ).1 74)] u (gX11_readSigned_50 v1 s0 s1 u) := by
  unfold gX11_readSigned_50
  refine g_iadd C dX11_readSigned_50 rfl ?_
  refine g_putI C dX11_readSigned_51 rfl rfl fp_11_24 rfl fl_X11_159 ?_
  refine g_letm (fun u1 => ?_)
  refine g_aload_n C dX11_readSigned_54 rfl 0 rfl ?_
  refine g_iconst (v := 1) C dX11_readSigned_55 rfl (by decide) ?_
  refine g_callI [.int 1] C dX11_readSigned_56 rfl (tX11_readDigits (xl Γ) (xE Γ) 1 u1) cf_X11_readDigits rfl rfl ml_X11_173 rfl (by decide) (Nat.le_of_ble_eq_true rfl) rfl (fun r3 u2 => ?_)
  refine g_istore_n (ls' := [(2, .int r3), (0, .ref ((xE Γ).1 74)), (1, .int v1)]) C dX11_readSigned_59 rfl L (by decide) rfl ?_
  refine g_iload_n C dX11_readSigned_60 rfl 2 rfl ?_
  refine g_bipush (v := 45) C dX11_readSigned_61 rfl (by decide) ?_
  refine g_icmp_ne 71 C dX11_readSigned_63 rfl (by decide) (fun c4 => ?_) (fun c4 => ?_)
  · refine g_iload_n C dX11_readSigned_71 rfl 0 rfl ?_
    exact g_iret C M dX11_readSigned_72 rfl rfl
  · refine g_iload_n C dX11_readSigned_66 rfl 0 rfl ?_
    refine g_ineg C dX11_readSigned_67 rfl ?_
    refine g_goto 72 C dX11_readSigned_68 rfl (by decide) ?_
    exact g_iret C M dX11_readSigned_72 rfl rfl
set_option maxRecDepth 20000 in
set_option maxHeartbeats 4000000 in
theorem pX11_readSigned_30 {Γ : GX} (C : Cx Γ RX11 cX11_readSigned 2) (M : Mx Γ (some .int)) (L : xn Γ = 3) (v1 : Int32) (s0 : Int32) (u : Mm) : Gp Γ (QM Γ cvI) 30 [(0, .ref ((xE Γ).1 74)), (1, .int v1)] [.int s0, .ref ((xE Γ).1 74)] u (gX11_readSigned_30 v1 s0 u) := by
  unfold gX11_readSigned_30
  refine g_gd (fun hb2 => ?_)
  refine g_putZ C dX11_readSigned_30 rfl rfl fp_11_25 rfl fl_X11_162 hb2 ?_
  refine g_letm (fun u1 => ?_)
  refine g_aload_n C dX11_readSigned_33 rfl 0 rfl ?_
  refine g_dup C dX11_readSigned_34 rfl rfl ?_
  refine g_getI C dX11_readSigned_35 rfl rfl fi_11_24 rfl fl_X11_159 ?_
  refine g_aload_n C dX11_readSigned_38 rfl 0 rfl ?_
  refine g_getI C dX11_readSigned_39 rfl rfl fi_11_25 rfl fl_X11_162 ?_
  refine g_if_eq 49 C dX11_readSigned_42 rfl (by decide) (fun c3 => ?_) (fun c3 => ?_)
  · refine g_iconst (v := 1) C dX11_readSigned_49 rfl (by decide) ?_
    exact pX11_readSigned_50 C M L v1 1 (u1 74 24) u1
  · refine g_iconst (v := 0) C dX11_readSigned_45 rfl (by decide) ?_
    refine g_goto 50 C dX11_readSigned_46 rfl (by decide) ?_
    exact pX11_readSigned_50 C M L v1 0 (u1 74 24) u1
set_option maxRecDepth 20000 in
set_option maxHeartbeats 4000000 in
theorem pX11_readSigned_25 {Γ : GX} (C : Cx Γ RX11 cX11_readSigned 2) (M : Mx Γ (some .int)) (L : xn Γ = 3) (v1 : Int32) (u : Mm) : Gp Γ (QM Γ cvI) 25 [(0, .ref ((xE Γ).1 74)), (1, .int v1)] [.ref ((xE Γ).1 74)] u (gX11_readSigned_25 v1 u) := by
  unfold gX11_readSigned_25
  refine g_iconst (v := 1) C dX11_readSigned_25 rfl (by decide) ?_
  refine g_goto 30 C dX11_readSigned_26 rfl (by decide) ?_
  exact pX11_readSigned_30 C M L v1 1 u
set_option maxRecDepth 20000 in
set_option maxHeartbeats 4000000 in
theorem pX11_readSigned_29 {Γ : GX} (C : Cx Γ RX11 cX11_readSigned 2) (M : Mx Γ (some .int)) (L : xn Γ = 3) (v1 : Int32) (u : Mm) : Gp Γ (QM Γ cvI) 29 [(0, .ref ((xE Γ).1 74)), (1, .int v1)] [.ref ((xE Γ).1 74)] u (gX11_readSigned_29 v1 u) := by
  unfold gX11_readSigned_29
  refine g_iconst (v := 0) C dX11_readSigned_29 rfl (by decide) ?_
  exact pX11_readSigned_30 C M L v1 0 u
set_option maxRecDepth 20000 in
set_option maxHeartbeats 4000000 in
theorem pX11_readSigned_0 {Γ : GX} (C : Cx Γ RX11 cX11_readSigned 2) (M : Mx Γ (some .int)) (L : xn Γ = 3) (u : Mm) : Gp Γ (QM Γ cvI) 0 [(0, .ref ((xE Γ).1 74))] [] u (gX11_readSigned_b u) := by
  unfold gX11_readSigned_b
  refine g_aload_n C dX11_readSigned_0 rfl 0 rfl ?_
  refine g_callP [] C dX11_readSigned_1 rfl (tX11_here (xl Γ) (xE Γ) u) cf_X11_here rfl rfl ml_X11_166 rfl (by decide) (Nat.le_of_ble_eq_true rfl) rfl (fun r1 => ?_)
  refine g_istore_n (ls' := [(1, .int r1), (0, .ref ((xE Γ).1 74))]) C dX11_readSigned_4 rfl L (by decide) rfl ?_
  refine g_aload_n C dX11_readSigned_5 rfl 1 rfl ?_
  refine g_aload_n C dX11_readSigned_6 rfl 1 rfl ?_
  refine g_getI C dX11_readSigned_7 rfl rfl fi_11_25 rfl fl_X11_162 ?_
  refine g_if_ne 25 C dX11_readSigned_10 rfl (by decide) (fun c2 => ?_) (fun c2 => ?_)
  · refine g_sub (ls' := [(0, .ref ((xE Γ).1 74)), (1, .int r1)]) [1, 0] rfl ?_
    exact pX11_readSigned_25 C M L r1 u
  · refine g_iload_n C dX11_readSigned_13 rfl 0 rfl ?_
    refine g_bipush (v := 43) C dX11_readSigned_14 rfl (by decide) ?_
    refine g_icmp_eq 29 C dX11_readSigned_16 rfl (by decide) (fun c3 => ?_) (fun c3 => ?_)
    · refine g_sub (ls' := [(0, .ref ((xE Γ).1 74)), (1, .int r1)]) [1, 0] rfl ?_
      exact pX11_readSigned_29 C M L r1 u
    · refine g_iload_n C dX11_readSigned_19 rfl 0 rfl ?_
      refine g_bipush (v := 45) C dX11_readSigned_20 rfl (by decide) ?_
      refine g_icmp_eq 29 C dX11_readSigned_22 rfl (by decide) (fun c4 => ?_) (fun c4 => ?_)
      · refine g_sub (ls' := [(0, .ref ((xE Γ).1 74)), (1, .int r1)]) [1, 0] rfl ?_
        exact pX11_readSigned_29 C M L r1 u
      · refine g_sub (ls' := [(0, .ref ((xE Γ).1 74)), (1, .int r1)]) [1, 0] rfl ?_
        exact pX11_readSigned_25 C M L r1 u
set_option maxRecDepth 20000 in
set_option maxHeartbeats 4000000 in
theorem tX11_readSigned (l : Launch) (E : EE) (u : Mm) : Ct l E yX11_readSigned cX11_readSigned 3 (some .int) 2 [.ref (E.1 74)] u cvI (gX11_readSigned u) :=
  Ct_of (own := RX11) (by decide +kernel) rfl (Nat.le_of_ble_eq_true rfl) (fun p e R s m args below meth c C M => g_sub (ls' := [(0, .ref (E.1 74))]) [0] rfl (pX11_readSigned_0 C M rfl u))
set_option maxRecDepth 20000 in
set_option maxHeartbeats 4000000 in
theorem pX11_isLetter_0 {Γ : GX} (C : Cx Γ RX11 cX11_isLetter 0) (M : Mx Γ (some .boolean)) (L : xn Γ = 1) (u : Mm) (v0 : Int32) : Gp Γ (QM Γ (cvP u)) 0 [(0, .int v0)] [] u (gX11_isLetter_b v0) := by
  unfold gX11_isLetter_b
  refine g_iload_n C dX11_isLetter_0 rfl 0 rfl ?_
  refine g_bipush (v := 119) C dX11_isLetter_1 rfl (by decide) ?_
  refine g_icmp_eq 42 C dX11_isLetter_3 rfl (by decide) (fun c1 => ?_) (fun c1 => ?_)
  · refine g_iconst (v := 1) C dX11_isLetter_42 rfl (by decide) ?_
    refine g_goto 47 C dX11_isLetter_43 rfl (by decide) ?_
    exact g_zret C M dX11_isLetter_47 rfl (by decide) rfl
  · refine g_iload_n C dX11_isLetter_6 rfl 0 rfl ?_
    refine g_bipush (v := 102) C dX11_isLetter_7 rfl (by decide) ?_
    refine g_icmp_eq 42 C dX11_isLetter_9 rfl (by decide) (fun c2 => ?_) (fun c2 => ?_)
    · refine g_iconst (v := 1) C dX11_isLetter_42 rfl (by decide) ?_
      refine g_goto 47 C dX11_isLetter_43 rfl (by decide) ?_
      exact g_zret C M dX11_isLetter_47 rfl (by decide) rfl
    · refine g_iload_n C dX11_isLetter_12 rfl 0 rfl ?_
      refine g_bipush (v := 114) C dX11_isLetter_13 rfl (by decide) ?_
      refine g_icmp_eq 42 C dX11_isLetter_15 rfl (by decide) (fun c3 => ?_) (fun c3 => ?_)
      · refine g_iconst (v := 1) C dX11_isLetter_42 rfl (by decide) ?_
        refine g_goto 47 C dX11_isLetter_43 rfl (by decide) ?_
        exact g_zret C M dX11_isLetter_47 rfl (by decide) rfl
      · refine g_iload_n C dX11_isLetter_18 rfl 0 rfl ?_
        refine g_bipush (v := 98) C dX11_isLetter_19 rfl (by decide) ?_
        refine g_icmp_eq 42 C dX11_isLetter_21 rfl (by decide) (fun c4 => ?_) (fun c4 => ?_)
        · refine g_iconst (v := 1) C dX11_isLetter_42 rfl (by decide) ?_
          refine g_goto 47 C dX11_isLetter_43 rfl (by decide) ?_
          exact g_zret C M dX11_isLetter_47 rfl (by decide) rfl
        · refine g_iload_n C dX11_isLetter_24 rfl 0 rfl ?_
          refine g_bipush (v := 104) C dX11_isLetter_25 rfl (by decide) ?_
          refine g_icmp_eq 42 C dX11_isLetter_27 rfl (by decide) (fun c5 => ?_) (fun c5 => ?_)
          · refine g_iconst (v := 1) C dX11_isLetter_42 rfl (by decide) ?_
            refine g_goto 47 C dX11_isLetter_43 rfl (by decide) ?_
            exact g_zret C M dX11_isLetter_47 rfl (by decide) rfl
          · refine g_iload_n C dX11_isLetter_30 rfl 0 rfl ?_
            refine g_bipush (v := 108) C dX11_isLetter_31 rfl (by decide) ?_
            refine g_icmp_eq 42 C dX11_isLetter_33 rfl (by decide) (fun c6 => ?_) (fun c6 => ?_)
            · refine g_iconst (v := 1) C dX11_isLetter_42 rfl (by decide) ?_
              refine g_goto 47 C dX11_isLetter_43 rfl (by decide) ?_
              exact g_zret C M dX11_isLetter_47 rfl (by decide) rfl
            · refine g_iload_n C dX11_isLetter_36 rfl 0 rfl ?_
              refine g_bipush (v := 97) C dX11_isLetter_37 rfl (by decide) ?_
              refine g_icmp_ne 46 C dX11_isLetter_39 rfl (by decide) (fun c7 => ?_) (fun c7 => ?_)
              · refine g_iconst (v := 0) C dX11_isLetter_46 rfl (by decide) ?_
                exact g_zret C M dX11_isLetter_47 rfl (by decide) rfl
              · refine g_iconst (v := 1) C dX11_isLetter_42 rfl (by decide) ?_
                refine g_goto 47 C dX11_isLetter_43 rfl (by decide) ?_
                exact g_zret C M dX11_isLetter_47 rfl (by decide) rfl
set_option maxRecDepth 20000 in
set_option maxHeartbeats 4000000 in
theorem tX11_isLetter (l : Launch) (E : EE) (v0 : Int32) (u : Mm) : Ct l E yX11_isLetter cX11_isLetter 1 (some .boolean) 0 [.int v0] u (cvP u) (gX11_isLetter v0) :=
  Ct_of (own := RX11) (by decide +kernel) rfl (Nat.le_of_ble_eq_true rfl) (fun p e R s m args below meth c C M => g_sub (ls' := [(0, .int v0)]) [0] rfl (pX11_isLetter_0 C M rfl u v0))
set_option maxRecDepth 20000 in
set_option maxHeartbeats 4000000 in
theorem pX11_readActs_36 {Γ : GX} (C : Cx Γ RX11 cX11_readActs 2) (M : Mx Γ none) (L : xn Γ = 3) (v1 : Int32) (v2 : Int32) {j2 : Int32 → Mm → Option Mm} (hj2 : ∀ (v2 : Int32) (u : Mm), Gp Γ (QM Γ cvV) 2 [(0, .ref ((xE Γ).1 74)), (1, .int v1), (2, .int v2)] [] u (j2 v2 u)) (u : Mm) : Gp Γ (QM Γ cvV) 36 [(0, .ref ((xE Γ).1 74)), (1, .int v1), (2, .int v2)] [] u (gX11_readActs_36 j2 v1 v2 u) := by
  unfold gX11_readActs_36
  refine g_aload_n C dX11_readActs_36 rfl 0 rfl ?_
  refine g_getR (k2 := 88) C dX11_readActs_37 rfl rfl fi_11_29 ⟨by decide, by decide, rfl⟩ fl_X11_65 ?_
  refine g_bipush (v := 9) C dX11_readActs_40 rfl (by decide) ?_
  refine g_iload_n C dX11_readActs_42 rfl 1 rfl ?_
  refine g_imul C dX11_readActs_43 rfl ?_
  refine g_iload_n C dX11_readActs_44 rfl 2 rfl ?_
  refine g_iadd C dX11_readActs_45 rfl ?_
  refine g_aload_n C dX11_readActs_46 rfl 0 rfl ?_
  refine g_iconst (v := 1) C dX11_readActs_47 rfl (by decide) ?_
  refine g_callI [.int 1] C dX11_readActs_48 rfl (tX11_readDigits (xl Γ) (xE Γ) 1 u) cf_X11_readDigits rfl rfl ml_X11_173 rfl (by decide) (Nat.le_of_ble_eq_true rfl) rfl (fun r2 u1 => ?_)
  refine g_gd (fun hi4 => ?_)
  refine g_iast C dX11_readActs_51 rfl rfl rfl hi4 ?_
  refine g_letm (fun u3 => ?_)
  refine g_iincL (fun v2_5 => [(2, .int v2_5), (0, .ref ((xE Γ).1 74)), (1, .int v1)]) C dX11_readActs_52 rfl L (by decide) (k := 2) rfl (iinc_1 _) (fun _ => rfl) (fun v2_5 => ?_)
  refine g_goto 2 C dX11_readActs_55 rfl (by decide) ?_
  refine g_sub (ls' := [(0, .ref ((xE Γ).1 74)), (1, .int v1), (2, .int v2_5)]) [1, 2, 0] rfl ?_
  exact hj2 v2_5 u3
set_option maxRecDepth 20000 in
set_option maxHeartbeats 4000000 in
theorem pX11_readActs_58 {Γ : GX} (C : Cx Γ RX11 cX11_readActs 2) (M : Mx Γ none) (L : xn Γ = 3) (v1 : Int32) (v2 : Int32) (u : Mm) : Gp Γ (QM Γ cvV) 58 [(0, .ref ((xE Γ).1 74)), (1, .int v1), (2, .int v2)] [] u (gX11_readActs_58 v1 v2 u) := by
  unfold gX11_readActs_58
  refine g_aload_n C dX11_readActs_58 rfl 0 rfl ?_
  refine g_getR (k2 := 89) C dX11_readActs_59 rfl rfl fi_11_30 ⟨by decide, by decide, rfl⟩ fl_X11_68 ?_
  refine g_iload_n C dX11_readActs_62 rfl 1 rfl ?_
  refine g_iload_n C dX11_readActs_63 rfl 2 rfl ?_
  refine g_gd (fun hi2 => ?_)
  refine g_iast C dX11_readActs_64 rfl rfl rfl hi2 ?_
  refine g_letm (fun u1 => ?_)
  exact g_vret C M dX11_readActs_65 rfl rfl
set_option maxRecDepth 20000 in
set_option maxHeartbeats 4000000 in
theorem pX11_readActs_2s {Γ : GX} (C : Cx Γ RX11 cX11_readActs 2) (M : Mx Γ none) (L : xn Γ = 3) (v1 : Int32) {j2 : Int32 → Mm → Option Mm} (hj2 : ∀ (v2 : Int32) (u : Mm), Gp Γ (QM Γ cvV) 2 [(0, .ref ((xE Γ).1 74)), (1, .int v1), (2, .int v2)] [] u (j2 v2 u)) (v2 : Int32) (u : Mm) : Gp Γ (QM Γ cvV) 2 [(0, .ref ((xE Γ).1 74)), (1, .int v1), (2, .int v2)] [] u (gX11_readActs_2_Ls v1 j2 v2 u) := by
  unfold gX11_readActs_2_Ls
  refine g_aload_n C dX11_readActs_2 rfl 0 rfl ?_
  refine g_getI C dX11_readActs_3 rfl rfl fi_11_25 rfl fl_X11_162 ?_
  refine g_if_ne 58 C dX11_readActs_6 rfl (by decide) (fun c1 => ?_) (fun c1 => ?_)
  · exact pX11_readActs_58 C M L v1 v2 u
  · refine g_iload_n C dX11_readActs_9 rfl 2 rfl ?_
    refine g_bipush (v := 9) C dX11_readActs_10 rfl (by decide) ?_
    refine g_icmp_ge 58 C dX11_readActs_12 rfl (by decide) (fun c2 => ?_) (fun c2 => ?_)
    · exact pX11_readActs_58 C M L v1 v2 u
    · refine g_iload_n C dX11_readActs_15 rfl 2 rfl ?_
      refine g_if_eq 36 C dX11_readActs_16 rfl (by decide) (fun c3 => ?_) (fun c3 => ?_)
      · exact pX11_readActs_36 C M L v1 v2 hj2 u
      · refine g_aload_n C dX11_readActs_19 rfl 0 rfl ?_
        refine g_callP [] C dX11_readActs_20 rfl (tX11_here (xl Γ) (xE Γ) u) cf_X11_here rfl rfl ml_X11_166 rfl (by decide) (Nat.le_of_ble_eq_true rfl) rfl (fun r4 => ?_)
        refine g_i2l C dX11_readActs_23 rfl ?_
        refine g_ldc2_w (v := 48) C dX11_readActs_24 rfl (wm_16 15 rfl) ?_
        refine g_ldc2_w (v := 57) C dX11_readActs_27 rfl (wm_16 16 rfl) ?_
        refine g_callsP [.long r4.toInt64, .long 48, .long 57] C dX11_readActs_30 rfl (tX11_in (xl Γ) (xE Γ) r4.toInt64 48 57 u) cf_X11_in ml_X11_107 rfl (by decide) (Nat.le_of_ble_eq_true rfl) rfl (fun r5 => ?_)
        refine g_if_eq 58 C dX11_readActs_33 rfl (by decide) (fun c6 => ?_) (fun c6 => ?_)
        · exact pX11_readActs_58 C M L v1 v2 u
        · exact pX11_readActs_36 C M L v1 v2 hj2 u
set_option maxRecDepth 20000 in
set_option maxHeartbeats 4000000 in
theorem pX11_readActs_2 {Γ : GX} (C : Cx Γ RX11 cX11_readActs 2) (M : Mx Γ none) (L : xn Γ = 3) (v1 : Int32) : ∀ (n : Nat) (v2 : Int32) (u : Mm), Gp Γ (QM Γ cvV) 2 [(0, .ref ((xE Γ).1 74)), (1, .int v1), (2, .int v2)] [] u (gX11_readActs_2_L v1 n v2 u) := by
  intro n
  induction n with
  | zero => intro _ _; exact g_none
  | succ n ih => intro v2 u; exact pX11_readActs_2s C M L v1 ih v2 u

set_option maxRecDepth 20000 in
set_option maxHeartbeats 4000000 in
theorem pX11_readActs_0 {Γ : GX} (C : Cx Γ RX11 cX11_readActs 2) (M : Mx Γ none) (L : xn Γ = 3) (v1 : Int32) (u : Mm) : Gp Γ (QM Γ cvV) 0 [(0, .ref ((xE Γ).1 74)), (1, .int v1)] [] u (gX11_readActs_b v1 u) := by
  unfold gX11_readActs_b
  refine g_iconst (v := 0) C dX11_readActs_0 rfl (by decide) ?_
  refine g_istore_n (ls' := [(2, .int 0), (0, .ref ((xE Γ).1 74)), (1, .int v1)]) C dX11_readActs_1 rfl L (by decide) rfl ?_
  refine g_sub (ls' := [(0, .ref ((xE Γ).1 74)), (1, .int v1), (2, .int 0)]) [1, 2, 0] rfl ?_
  exact pX11_readActs_2 C M L v1 FU 0 u
set_option maxRecDepth 20000 in
set_option maxHeartbeats 4000000 in
theorem tX11_readActs (l : Launch) (E : EE) (v1 : Int32) (u : Mm) : Ct l E yX11_readActs cX11_readActs 3 none 2 [.ref (E.1 74), .int v1] u cvV (gX11_readActs v1 u) :=
  Ct_of (own := RX11) (by decide +kernel) rfl (Nat.le_of_ble_eq_true rfl) (fun p e R s m args below meth c C M => g_sub (ls' := [(0, .ref (E.1 74)), (1, .int v1)]) [0, 1] rfl (pX11_readActs_0 C M rfl v1 u))
set_option maxRecDepth 20000 in
set_option maxHeartbeats 4000000 in
theorem pX11_readStatement_396 {Γ : GX} (C : Cx Γ RX11 cX11_readStatement 3) (M : Mx Γ none) (L : xn Γ = 4) (s0 : Int32) (s1 : Int32) (u : Mm) : Gp Γ (QM Γ cvV) 396 [(0, .ref ((xE Γ).1 74))] [.int s0, .int s1, .ref ((xE Γ).1 74)] u (gX11_readStatement_396 s0 s1 u) := by
  unfold gX11_readStatement_396
  refine g_iadd C dX11_readStatement_396 rfl ?_
  refine g_putI C dX11_readStatement_397 rfl rfl fp_11_24 rfl fl_X11_159 ?_
  refine g_letm (fun u1 => ?_)
  refine g_aload_n C dX11_readStatement_400 rfl 0 rfl ?_
  refine g_dup C dX11_readStatement_401 rfl rfl ?_
  refine g_getI C dX11_readStatement_402 rfl rfl fi_11_26 rfl fl_X11_176 ?_
  refine g_iconst (v := 1) C dX11_readStatement_405 rfl (by decide) ?_
  refine g_iadd C dX11_readStatement_406 rfl ?_
  refine g_putI C dX11_readStatement_407 rfl rfl fp_11_26 rfl fl_X11_176 ?_
  refine g_letm (fun u2 => ?_)
  exact g_vret C M dX11_readStatement_410 rfl rfl
set_option maxRecDepth 20000 in
set_option maxHeartbeats 4000000 in
theorem pX11_readStatement_376 {Γ : GX} (C : Cx Γ RX11 cX11_readStatement 3) (M : Mx Γ none) (L : xn Γ = 4) (s0 : Int32) (u : Mm) : Gp Γ (QM Γ cvV) 376 [(0, .ref ((xE Γ).1 74))] [.int s0, .ref ((xE Γ).1 74)] u (gX11_readStatement_376 s0 u) := by
  unfold gX11_readStatement_376
  refine g_gd (fun hb2 => ?_)
  refine g_putZ C dX11_readStatement_376 rfl rfl fp_11_25 rfl fl_X11_162 hb2 ?_
  refine g_letm (fun u1 => ?_)
  refine g_aload_n C dX11_readStatement_379 rfl 0 rfl ?_
  refine g_dup C dX11_readStatement_380 rfl rfl ?_
  refine g_getI C dX11_readStatement_381 rfl rfl fi_11_24 rfl fl_X11_159 ?_
  refine g_aload_n C dX11_readStatement_384 rfl 0 rfl ?_
  refine g_getI C dX11_readStatement_385 rfl rfl fi_11_25 rfl fl_X11_162 ?_
  refine g_if_eq 395 C dX11_readStatement_388 rfl (by decide) (fun c3 => ?_) (fun c3 => ?_)
  · refine g_iconst (v := 1) C dX11_readStatement_395 rfl (by decide) ?_
    exact pX11_readStatement_396 C M L 1 (u1 74 24) u1
  · refine g_iconst (v := 0) C dX11_readStatement_391 rfl (by decide) ?_
    refine g_goto 396 C dX11_readStatement_392 rfl (by decide) ?_
    exact pX11_readStatement_396 C M L 0 (u1 74 24) u1
set_option maxRecDepth 20000 in
set_option maxHeartbeats 4000000 in
theorem pX11_readStatement_371 {Γ : GX} (C : Cx Γ RX11 cX11_readStatement 3) (M : Mx Γ none) (L : xn Γ = 4) (u : Mm) : Gp Γ (QM Γ cvV) 371 [(0, .ref ((xE Γ).1 74))] [.ref ((xE Γ).1 74)] u (gX11_readStatement_371 u) := by
  unfold gX11_readStatement_371
  refine g_iconst (v := 1) C dX11_readStatement_371 rfl (by decide) ?_
  refine g_goto 376 C dX11_readStatement_372 rfl (by decide) ?_
  exact pX11_readStatement_376 C M L 1 u
set_option maxRecDepth 20000 in
set_option maxHeartbeats 4000000 in
theorem pX11_readStatement_354 {Γ : GX} (C : Cx Γ RX11 cX11_readStatement 3) (M : Mx Γ none) (L : xn Γ = 4) (u : Mm) : Gp Γ (QM Γ cvV) 354 [(0, .ref ((xE Γ).1 74))] [] u (gX11_readStatement_354 u) := by
  unfold gX11_readStatement_354
  refine g_aload_n C dX11_readStatement_354 rfl 0 rfl ?_
  refine g_aload_n C dX11_readStatement_355 rfl 0 rfl ?_
  refine g_getI C dX11_readStatement_356 rfl rfl fi_11_25 rfl fl_X11_162 ?_
  refine g_if_ne 371 C dX11_readStatement_359 rfl (by decide) (fun c1 => ?_) (fun c1 => ?_)
  · exact pX11_readStatement_371 C M L u
  · refine g_aload_n C dX11_readStatement_362 rfl 0 rfl ?_
    refine g_callP [] C dX11_readStatement_363 rfl (tX11_here (xl Γ) (xE Γ) u) cf_X11_here rfl rfl ml_X11_166 rfl (by decide) (Nat.le_of_ble_eq_true rfl) rfl (fun r2 => ?_)
    refine g_bipush (v := 59) C dX11_readStatement_366 rfl (by decide) ?_
    refine g_icmp_eq 375 C dX11_readStatement_368 rfl (by decide) (fun c3 => ?_) (fun c3 => ?_)
    · refine g_iconst (v := 0) C dX11_readStatement_375 rfl (by decide) ?_
      exact pX11_readStatement_376 C M L 0 u
    · exact pX11_readStatement_371 C M L u
set_option maxRecDepth 20000 in
set_option maxHeartbeats 4000000 in
theorem pX11_readStatement_72 {Γ : GX} (C : Cx Γ RX11 cX11_readStatement 3) (M : Mx Γ none) (L : xn Γ = 4) (v1 : Int32) (v2 : Int32) (v3 : Int32) (s0 : Int32) (s1 : Int32) (u : Mm) : Gp Γ (QM Γ cvV) 72 [(0, .ref ((xE Γ).1 74)), (1, .int v1), (2, .int v2), (3, .int v3)] [.int s0, .int s1, .ref ((xE Γ).1 74)] u (gX11_readStatement_72 v1 v2 v3 s0 s1 u) := by
  unfold gX11_readStatement_72
  refine g_iadd C dX11_readStatement_72 rfl ?_
  refine g_putI C dX11_readStatement_73 rfl rfl fp_11_24 rfl fl_X11_159 ?_
  refine g_letm (fun u1 => ?_)
  refine g_iload_n C dX11_readStatement_76 rfl 2 rfl ?_
  refine g_if (fun c2 => ?_) (fun c2 => ?_)
  · refine g_look 204 281 C dX11_readStatement_77 rfl (by decide) (by rw [c2]; rfl) (by decide) ?_
    refine g_aload_n C dX11_readStatement_281 rfl 0 rfl ?_
    refine g_getR (k2 := 88) C dX11_readStatement_282 rfl rfl fi_11_29 ⟨by decide, by decide, rfl⟩ fl_X11_65 ?_
    refine g_iload_n C dX11_readStatement_285 rfl 3 rfl ?_
    refine g_aload_n C dX11_readStatement_286 rfl 0 rfl ?_
    refine g_iconst (v := 2) C dX11_readStatement_287 rfl (by decide) ?_
    refine g_callI [.int 2] C dX11_readStatement_288 rfl (tX11_readDigits (xl Γ) (xE Γ) 2 u1) cf_X11_readDigits rfl rfl ml_X11_173 rfl (by decide) (Nat.le_of_ble_eq_true rfl) rfl (fun r4 u3 => ?_)
    refine g_gd (fun hi6 => ?_)
    refine g_iast C dX11_readStatement_291 rfl rfl rfl hi6 ?_
    refine g_letm (fun u5 => ?_)
    refine g_aload_n C dX11_readStatement_292 rfl 0 rfl ?_
    refine g_getR (k2 := 88) C dX11_readStatement_293 rfl rfl fi_11_29 ⟨by decide, by decide, rfl⟩ fl_X11_65 ?_
    refine g_iload_n C dX11_readStatement_296 rfl 3 rfl ?_
    refine g_iconst (v := 1) C dX11_readStatement_297 rfl (by decide) ?_
    refine g_iadd C dX11_readStatement_298 rfl ?_
    refine g_aload_n C dX11_readStatement_299 rfl 0 rfl ?_
    refine g_iconst (v := 2) C dX11_readStatement_300 rfl (by decide) ?_
    refine g_callI [.int 2] C dX11_readStatement_301 rfl (tX11_readDigits (xl Γ) (xE Γ) 2 u5) cf_X11_readDigits rfl rfl ml_X11_173 rfl (by decide) (Nat.le_of_ble_eq_true rfl) rfl (fun r8 u7 => ?_)
    refine g_gd (fun hi10 => ?_)
    refine g_iast C dX11_readStatement_304 rfl rfl rfl hi10 ?_
    refine g_letm (fun u9 => ?_)
    refine g_aload_n C dX11_readStatement_305 rfl 0 rfl ?_
    refine g_getR (k2 := 88) C dX11_readStatement_306 rfl rfl fi_11_29 ⟨by decide, by decide, rfl⟩ fl_X11_65 ?_
    refine g_iload_n C dX11_readStatement_309 rfl 3 rfl ?_
    refine g_iconst (v := 2) C dX11_readStatement_310 rfl (by decide) ?_
    refine g_iadd C dX11_readStatement_311 rfl ?_
    refine g_aload_n C dX11_readStatement_312 rfl 0 rfl ?_
    refine g_iconst (v := 1) C dX11_readStatement_313 rfl (by decide) ?_
    refine g_callI [.int 1] C dX11_readStatement_314 rfl (tX11_readDigits (xl Γ) (xE Γ) 1 u9) cf_X11_readDigits rfl rfl ml_X11_173 rfl (by decide) (Nat.le_of_ble_eq_true rfl) rfl (fun r12 u11 => ?_)
    refine g_gd (fun hi14 => ?_)
    refine g_iast C dX11_readStatement_317 rfl rfl rfl hi14 ?_
    refine g_letm (fun u13 => ?_)
    refine g_goto 354 C dX11_readStatement_318 rfl (by decide) ?_
    refine g_sub (ls' := [(0, .ref ((xE Γ).1 74))]) [0] rfl ?_
    exact pX11_readStatement_354 C M L u13
  refine g_if (fun c15 => ?_) (fun c15 => ?_)
  · refine g_look 98 175 C dX11_readStatement_77 rfl (by decide) (by rw [c15]; rfl) (by decide) ?_
    refine g_aload_n C dX11_readStatement_175 rfl 0 rfl ?_
    refine g_getR (k2 := 88) C dX11_readStatement_176 rfl rfl fi_11_29 ⟨by decide, by decide, rfl⟩ fl_X11_65 ?_
    refine g_iload_n C dX11_readStatement_179 rfl 3 rfl ?_
    refine g_aload_n C dX11_readStatement_180 rfl 0 rfl ?_
    refine g_iconst (v := 1) C dX11_readStatement_181 rfl (by decide) ?_
    refine g_callI [.int 1] C dX11_readStatement_182 rfl (tX11_readDigits (xl Γ) (xE Γ) 1 u1) cf_X11_readDigits rfl rfl ml_X11_173 rfl (by decide) (Nat.le_of_ble_eq_true rfl) rfl (fun r17 u16 => ?_)
    refine g_gd (fun hi19 => ?_)
    refine g_iast C dX11_readStatement_185 rfl rfl rfl hi19 ?_
    refine g_letm (fun u18 => ?_)
    refine g_aload_n C dX11_readStatement_186 rfl 0 rfl ?_
    refine g_getR (k2 := 88) C dX11_readStatement_187 rfl rfl fi_11_29 ⟨by decide, by decide, rfl⟩ fl_X11_65 ?_
    refine g_iload_n C dX11_readStatement_190 rfl 3 rfl ?_
    refine g_iconst (v := 1) C dX11_readStatement_191 rfl (by decide) ?_
    refine g_iadd C dX11_readStatement_192 rfl ?_
    refine g_aload_n C dX11_readStatement_193 rfl 0 rfl ?_
    refine g_iconst (v := 1) C dX11_readStatement_194 rfl (by decide) ?_
    refine g_callI [.int 1] C dX11_readStatement_195 rfl (tX11_readDigits (xl Γ) (xE Γ) 1 u18) cf_X11_readDigits rfl rfl ml_X11_173 rfl (by decide) (Nat.le_of_ble_eq_true rfl) rfl (fun r21 u20 => ?_)
    refine g_gd (fun hi23 => ?_)
    refine g_iast C dX11_readStatement_198 rfl rfl rfl hi23 ?_
    refine g_letm (fun u22 => ?_)
    refine g_aload_n C dX11_readStatement_199 rfl 0 rfl ?_
    refine g_getR (k2 := 88) C dX11_readStatement_200 rfl rfl fi_11_29 ⟨by decide, by decide, rfl⟩ fl_X11_65 ?_
    refine g_iload_n C dX11_readStatement_203 rfl 3 rfl ?_
    refine g_iconst (v := 2) C dX11_readStatement_204 rfl (by decide) ?_
    refine g_iadd C dX11_readStatement_205 rfl ?_
    refine g_aload_n C dX11_readStatement_206 rfl 0 rfl ?_
    refine g_iconst (v := 3) C dX11_readStatement_207 rfl (by decide) ?_
    refine g_callI [.int 3] C dX11_readStatement_208 rfl (tX11_readDigits (xl Γ) (xE Γ) 3 u22) cf_X11_readDigits rfl rfl ml_X11_173 rfl (by decide) (Nat.le_of_ble_eq_true rfl) rfl (fun r25 u24 => ?_)
    refine g_gd (fun hi27 => ?_)
    refine g_iast C dX11_readStatement_211 rfl rfl rfl hi27 ?_
    refine g_letm (fun u26 => ?_)
    refine g_aload_n C dX11_readStatement_212 rfl 0 rfl ?_
    refine g_getR (k2 := 88) C dX11_readStatement_213 rfl rfl fi_11_29 ⟨by decide, by decide, rfl⟩ fl_X11_65 ?_
    refine g_iload_n C dX11_readStatement_216 rfl 3 rfl ?_
    refine g_iconst (v := 3) C dX11_readStatement_217 rfl (by decide) ?_
    refine g_iadd C dX11_readStatement_218 rfl ?_
    refine g_aload_n C dX11_readStatement_219 rfl 0 rfl ?_
    refine g_iconst (v := 3) C dX11_readStatement_220 rfl (by decide) ?_
    refine g_callI [.int 3] C dX11_readStatement_221 rfl (tX11_readDigits (xl Γ) (xE Γ) 3 u26) cf_X11_readDigits rfl rfl ml_X11_173 rfl (by decide) (Nat.le_of_ble_eq_true rfl) rfl (fun r29 u28 => ?_)
    refine g_gd (fun hi31 => ?_)
    refine g_iast C dX11_readStatement_224 rfl rfl rfl hi31 ?_
    refine g_letm (fun u30 => ?_)
    refine g_aload_n C dX11_readStatement_225 rfl 0 rfl ?_
    refine g_getR (k2 := 88) C dX11_readStatement_226 rfl rfl fi_11_29 ⟨by decide, by decide, rfl⟩ fl_X11_65 ?_
    refine g_iload_n C dX11_readStatement_229 rfl 3 rfl ?_
    refine g_iconst (v := 4) C dX11_readStatement_230 rfl (by decide) ?_
    refine g_iadd C dX11_readStatement_231 rfl ?_
    refine g_aload_n C dX11_readStatement_232 rfl 0 rfl ?_
    refine g_iconst (v := 2) C dX11_readStatement_233 rfl (by decide) ?_
    refine g_callI [.int 2] C dX11_readStatement_234 rfl (tX11_readDigits (xl Γ) (xE Γ) 2 u30) cf_X11_readDigits rfl rfl ml_X11_173 rfl (by decide) (Nat.le_of_ble_eq_true rfl) rfl (fun r33 u32 => ?_)
    refine g_gd (fun hi35 => ?_)
    refine g_iast C dX11_readStatement_237 rfl rfl rfl hi35 ?_
    refine g_letm (fun u34 => ?_)
    refine g_goto 354 C dX11_readStatement_238 rfl (by decide) ?_
    refine g_sub (ls' := [(0, .ref ((xE Γ).1 74))]) [0] rfl ?_
    exact pX11_readStatement_354 C M L u34
  refine g_if (fun c36 => ?_) (fun c36 => ?_)
  · refine g_look 244 321 C dX11_readStatement_77 rfl (by decide) (by rw [c36]; rfl) (by decide) ?_
    refine g_aload_n C dX11_readStatement_321 rfl 0 rfl ?_
    refine g_getR (k2 := 88) C dX11_readStatement_322 rfl rfl fi_11_29 ⟨by decide, by decide, rfl⟩ fl_X11_65 ?_
    refine g_iload_n C dX11_readStatement_325 rfl 3 rfl ?_
    refine g_aload_n C dX11_readStatement_326 rfl 0 rfl ?_
    refine g_iconst (v := 2) C dX11_readStatement_327 rfl (by decide) ?_
    refine g_callI [.int 2] C dX11_readStatement_328 rfl (tX11_readDigits (xl Γ) (xE Γ) 2 u1) cf_X11_readDigits rfl rfl ml_X11_173 rfl (by decide) (Nat.le_of_ble_eq_true rfl) rfl (fun r38 u37 => ?_)
    refine g_gd (fun hi40 => ?_)
    refine g_iast C dX11_readStatement_331 rfl rfl rfl hi40 ?_
    refine g_letm (fun u39 => ?_)
    refine g_goto 354 C dX11_readStatement_332 rfl (by decide) ?_
    refine g_sub (ls' := [(0, .ref ((xE Γ).1 74))]) [0] rfl ?_
    exact pX11_readStatement_354 C M L u39
  refine g_if (fun c41 => ?_) (fun c41 => ?_)
  · refine g_look 258 335 C dX11_readStatement_77 rfl (by decide) (by rw [c41]; rfl) (by decide) ?_
    refine g_aload_n C dX11_readStatement_335 rfl 0 rfl ?_
    refine g_getR (k2 := 88) C dX11_readStatement_336 rfl rfl fi_11_29 ⟨by decide, by decide, rfl⟩ fl_X11_65 ?_
    refine g_iload_n C dX11_readStatement_339 rfl 3 rfl ?_
    refine g_aload_n C dX11_readStatement_340 rfl 0 rfl ?_
    refine g_iconst (v := 1) C dX11_readStatement_341 rfl (by decide) ?_
    refine g_callI [.int 1] C dX11_readStatement_342 rfl (tX11_readDigits (xl Γ) (xE Γ) 1 u1) cf_X11_readDigits rfl rfl ml_X11_173 rfl (by decide) (Nat.le_of_ble_eq_true rfl) rfl (fun r43 u42 => ?_)
    refine g_gd (fun hi45 => ?_)
    refine g_iast C dX11_readStatement_345 rfl rfl rfl hi45 ?_
    refine g_letm (fun u44 => ?_)
    refine g_goto 354 C dX11_readStatement_346 rfl (by decide) ?_
    refine g_sub (ls' := [(0, .ref ((xE Γ).1 74))]) [0] rfl ?_
    exact pX11_readStatement_354 C M L u44
  refine g_if (fun c46 => ?_) (fun c46 => ?_)
  · refine g_look 164 241 C dX11_readStatement_77 rfl (by decide) (by rw [c46]; rfl) (by decide) ?_
    refine g_aload_n C dX11_readStatement_241 rfl 0 rfl ?_
    refine g_getR (k2 := 88) C dX11_readStatement_242 rfl rfl fi_11_29 ⟨by decide, by decide, rfl⟩ fl_X11_65 ?_
    refine g_iload_n C dX11_readStatement_245 rfl 3 rfl ?_
    refine g_aload_n C dX11_readStatement_246 rfl 0 rfl ?_
    refine g_iconst (v := 1) C dX11_readStatement_247 rfl (by decide) ?_
    refine g_callI [.int 1] C dX11_readStatement_248 rfl (tX11_readDigits (xl Γ) (xE Γ) 1 u1) cf_X11_readDigits rfl rfl ml_X11_173 rfl (by decide) (Nat.le_of_ble_eq_true rfl) rfl (fun r48 u47 => ?_)
    refine g_gd (fun hi50 => ?_)
    refine g_iast C dX11_readStatement_251 rfl rfl rfl hi50 ?_
    refine g_letm (fun u49 => ?_)
    refine g_aload_n C dX11_readStatement_252 rfl 0 rfl ?_
    refine g_getR (k2 := 88) C dX11_readStatement_253 rfl rfl fi_11_29 ⟨by decide, by decide, rfl⟩ fl_X11_65 ?_
    refine g_iload_n C dX11_readStatement_256 rfl 3 rfl ?_
    refine g_iconst (v := 1) C dX11_readStatement_257 rfl (by decide) ?_
    refine g_iadd C dX11_readStatement_258 rfl ?_
    refine g_aload_n C dX11_readStatement_259 rfl 0 rfl ?_
    refine g_iconst (v := 1) C dX11_readStatement_260 rfl (by decide) ?_
    refine g_callI [.int 1] C dX11_readStatement_261 rfl (tX11_readDigits (xl Γ) (xE Γ) 1 u49) cf_X11_readDigits rfl rfl ml_X11_173 rfl (by decide) (Nat.le_of_ble_eq_true rfl) rfl (fun r52 u51 => ?_)
    refine g_gd (fun hi54 => ?_)
    refine g_iast C dX11_readStatement_264 rfl rfl rfl hi54 ?_
    refine g_letm (fun u53 => ?_)
    refine g_aload_n C dX11_readStatement_265 rfl 0 rfl ?_
    refine g_getR (k2 := 88) C dX11_readStatement_266 rfl rfl fi_11_29 ⟨by decide, by decide, rfl⟩ fl_X11_65 ?_
    refine g_iload_n C dX11_readStatement_269 rfl 3 rfl ?_
    refine g_iconst (v := 2) C dX11_readStatement_270 rfl (by decide) ?_
    refine g_iadd C dX11_readStatement_271 rfl ?_
    refine g_aload_n C dX11_readStatement_272 rfl 0 rfl ?_
    refine g_iconst (v := 2) C dX11_readStatement_273 rfl (by decide) ?_
    refine g_callI [.int 2] C dX11_readStatement_274 rfl (tX11_readDigits (xl Γ) (xE Γ) 2 u53) cf_X11_readDigits rfl rfl ml_X11_173 rfl (by decide) (Nat.le_of_ble_eq_true rfl) rfl (fun r56 u55 => ?_)
    refine g_gd (fun hi58 => ?_)
    refine g_iast C dX11_readStatement_277 rfl rfl rfl hi58 ?_
    refine g_letm (fun u57 => ?_)
    refine g_goto 354 C dX11_readStatement_278 rfl (by decide) ?_
    refine g_sub (ls' := [(0, .ref ((xE Γ).1 74))]) [0] rfl ?_
    exact pX11_readStatement_354 C M L u57
  refine g_if (fun c59 => ?_) (fun c59 => ?_)
  · refine g_look 59 136 C dX11_readStatement_77 rfl (by decide) (by rw [c59]; rfl) (by decide) ?_
    refine g_aload_n C dX11_readStatement_136 rfl 0 rfl ?_
    refine g_getR (k2 := 88) C dX11_readStatement_137 rfl rfl fi_11_29 ⟨by decide, by decide, rfl⟩ fl_X11_65 ?_
    refine g_iload_n C dX11_readStatement_140 rfl 3 rfl ?_
    refine g_aload_n C dX11_readStatement_141 rfl 0 rfl ?_
    refine g_iconst (v := 1) C dX11_readStatement_142 rfl (by decide) ?_
    refine g_callI [.int 1] C dX11_readStatement_143 rfl (tX11_readDigits (xl Γ) (xE Γ) 1 u1) cf_X11_readDigits rfl rfl ml_X11_173 rfl (by decide) (Nat.le_of_ble_eq_true rfl) rfl (fun r61 u60 => ?_)
    refine g_gd (fun hi63 => ?_)
    refine g_iast C dX11_readStatement_146 rfl rfl rfl hi63 ?_
    refine g_letm (fun u62 => ?_)
    refine g_aload_n C dX11_readStatement_147 rfl 0 rfl ?_
    refine g_getR (k2 := 88) C dX11_readStatement_148 rfl rfl fi_11_29 ⟨by decide, by decide, rfl⟩ fl_X11_65 ?_
    refine g_iload_n C dX11_readStatement_151 rfl 3 rfl ?_
    refine g_iconst (v := 1) C dX11_readStatement_152 rfl (by decide) ?_
    refine g_iadd C dX11_readStatement_153 rfl ?_
    refine g_aload_n C dX11_readStatement_154 rfl 0 rfl ?_
    refine g_callI [] C dX11_readStatement_155 rfl (tX11_readSigned (xl Γ) (xE Γ) u62) cf_X11_readSigned rfl rfl ml_X11_183 rfl (by decide) (Nat.le_of_ble_eq_true rfl) rfl (fun r65 u64 => ?_)
    refine g_gd (fun hi67 => ?_)
    refine g_iast C dX11_readStatement_158 rfl rfl rfl hi67 ?_
    refine g_letm (fun u66 => ?_)
    refine g_aload_n C dX11_readStatement_159 rfl 0 rfl ?_
    refine g_getR (k2 := 88) C dX11_readStatement_160 rfl rfl fi_11_29 ⟨by decide, by decide, rfl⟩ fl_X11_65 ?_
    refine g_iload_n C dX11_readStatement_163 rfl 3 rfl ?_
    refine g_iconst (v := 2) C dX11_readStatement_164 rfl (by decide) ?_
    refine g_iadd C dX11_readStatement_165 rfl ?_
    refine g_aload_n C dX11_readStatement_166 rfl 0 rfl ?_
    refine g_iconst (v := 1) C dX11_readStatement_167 rfl (by decide) ?_
    refine g_callI [.int 1] C dX11_readStatement_168 rfl (tX11_readDigits (xl Γ) (xE Γ) 1 u66) cf_X11_readDigits rfl rfl ml_X11_173 rfl (by decide) (Nat.le_of_ble_eq_true rfl) rfl (fun r69 u68 => ?_)
    refine g_gd (fun hi71 => ?_)
    refine g_iast C dX11_readStatement_171 rfl rfl rfl hi71 ?_
    refine g_letm (fun u70 => ?_)
    refine g_goto 354 C dX11_readStatement_172 rfl (by decide) ?_
    refine g_sub (ls' := [(0, .ref ((xE Γ).1 74))]) [0] rfl ?_
    exact pX11_readStatement_354 C M L u70
  refine g_look 272 349 C dX11_readStatement_77 rfl (by decide) (by show Op.lookupswitch.offset [(98, 204), (102, 98), (104, 244), (108, 258), (114, 164), (119, 59)] _ _ = _; rw [lv_osw c2 (by decide), lv_osw c15 (by decide), lv_osw c36 (by decide), lv_osw c41 (by decide), lv_osw c46 (by decide), lv_osw c59 (by decide)]; rfl) (by decide) ?_
  refine g_aload_n C dX11_readStatement_349 rfl 0 rfl ?_
  refine g_iload_n C dX11_readStatement_350 rfl 1 rfl ?_
  refine g_callV [.int v1] C dX11_readStatement_351 rfl (tX11_readActs (xl Γ) (xE Γ) v1 u1) cf_X11_readActs rfl rfl ml_X11_186 rfl (by decide) (Nat.le_of_ble_eq_true rfl) rfl (fun u72 => ?_)
  refine g_sub (ls' := [(0, .ref ((xE Γ).1 74))]) [0] rfl ?_
  exact pX11_readStatement_354 C M L u72
set_option maxRecDepth 20000 in
set_option maxHeartbeats 4000000 in
theorem pX11_readStatement_52 {Γ : GX} (C : Cx Γ RX11 cX11_readStatement 3) (M : Mx Γ none) (L : xn Γ = 4) (v1 : Int32) (v2 : Int32) (v3 : Int32) (s0 : Int32) (u : Mm) : Gp Γ (QM Γ cvV) 52 [(0, .ref ((xE Γ).1 74)), (1, .int v1), (2, .int v2), (3, .int v3)] [.int s0, .ref ((xE Γ).1 74)] u (gX11_readStatement_52 v1 v2 v3 s0 u) := by
  unfold gX11_readStatement_52
  refine g_gd (fun hb2 => ?_)
  refine g_putZ C dX11_readStatement_52 rfl rfl fp_11_25 rfl fl_X11_162 hb2 ?_
  refine g_letm (fun u1 => ?_)
  refine g_aload_n C dX11_readStatement_55 rfl 0 rfl ?_
  refine g_dup C dX11_readStatement_56 rfl rfl ?_
  refine g_getI C dX11_readStatement_57 rfl rfl fi_11_24 rfl fl_X11_159 ?_
  refine g_aload_n C dX11_readStatement_60 rfl 0 rfl ?_
  refine g_getI C dX11_readStatement_61 rfl rfl fi_11_25 rfl fl_X11_162 ?_
  refine g_if_eq 71 C dX11_readStatement_64 rfl (by decide) (fun c3 => ?_) (fun c3 => ?_)
  · refine g_iconst (v := 1) C dX11_readStatement_71 rfl (by decide) ?_
    exact pX11_readStatement_72 C M L v1 v2 v3 1 (u1 74 24) u1
  · refine g_iconst (v := 0) C dX11_readStatement_67 rfl (by decide) ?_
    refine g_goto 72 C dX11_readStatement_68 rfl (by decide) ?_
    exact pX11_readStatement_72 C M L v1 v2 v3 0 (u1 74 24) u1
set_option maxRecDepth 20000 in
set_option maxHeartbeats 4000000 in
theorem pX11_readStatement_47 {Γ : GX} (C : Cx Γ RX11 cX11_readStatement 3) (M : Mx Γ none) (L : xn Γ = 4) (v1 : Int32) (v2 : Int32) (v3 : Int32) (u : Mm) : Gp Γ (QM Γ cvV) 47 [(0, .ref ((xE Γ).1 74)), (1, .int v1), (2, .int v2), (3, .int v3)] [.ref ((xE Γ).1 74)] u (gX11_readStatement_47 v1 v2 v3 u) := by
  unfold gX11_readStatement_47
  refine g_iconst (v := 1) C dX11_readStatement_47 rfl (by decide) ?_
  refine g_goto 52 C dX11_readStatement_48 rfl (by decide) ?_
  exact pX11_readStatement_52 C M L v1 v2 v3 1 u
set_option maxRecDepth 20000 in
set_option maxHeartbeats 4000000 in
theorem pX11_readStatement_0 {Γ : GX} (C : Cx Γ RX11 cX11_readStatement 3) (M : Mx Γ none) (L : xn Γ = 4) (u : Mm) : Gp Γ (QM Γ cvV) 0 [(0, .ref ((xE Γ).1 74))] [] u (gX11_readStatement_b u) := by
  unfold gX11_readStatement_b
  refine g_aload_n C dX11_readStatement_0 rfl 0 rfl ?_
  refine g_getI C dX11_readStatement_1 rfl rfl fi_11_26 rfl fl_X11_176 ?_
  refine g_lets (fun v1_1 => ?_)
  refine g_istore_n (ls' := [(1, .int v1_1), (0, .ref ((xE Γ).1 74))]) C dX11_readStatement_4 rfl L (by decide) rfl ?_
  refine g_aload_n C dX11_readStatement_5 rfl 1 rfl ?_
  refine g_callP [] C dX11_readStatement_6 rfl (tX11_here (xl Γ) (xE Γ) u) cf_X11_here rfl rfl ml_X11_166 rfl (by decide) (Nat.le_of_ble_eq_true rfl) rfl (fun r2 => ?_)
  refine g_istore_n (ls' := [(2, .int r2), (1, .int v1_1), (0, .ref ((xE Γ).1 74))]) C dX11_readStatement_9 rfl L (by decide) rfl ?_
  refine g_bipush (v := 9) C dX11_readStatement_10 rfl (by decide) ?_
  refine g_iload_n C dX11_readStatement_12 rfl 1 rfl ?_
  refine g_imul C dX11_readStatement_13 rfl ?_
  refine g_lets (fun v3_3 => ?_)
  refine g_istore_n (ls' := [(3, .int v3_3), (2, .int r2), (1, .int v1_1), (0, .ref ((xE Γ).1 74))]) C dX11_readStatement_14 rfl L (by decide) rfl ?_
  refine g_aload_n C dX11_readStatement_15 rfl 3 rfl ?_
  refine g_getR (k2 := 86) C dX11_readStatement_16 rfl rfl fi_11_27 ⟨by decide, by decide, rfl⟩ fl_X11_59 ?_
  refine g_iload_n C dX11_readStatement_19 rfl 2 rfl ?_
  refine g_aload_n C dX11_readStatement_20 rfl 3 rfl ?_
  refine g_getI C dX11_readStatement_21 rfl rfl fi_11_24 rfl fl_X11_159 ?_
  refine g_gd (fun hi5 => ?_)
  refine g_iast C dX11_readStatement_24 rfl rfl rfl hi5 ?_
  refine g_letm (fun u4 => ?_)
  refine g_aload_n C dX11_readStatement_25 rfl 3 rfl ?_
  refine g_getR (k2 := 87) C dX11_readStatement_26 rfl rfl fi_11_28 ⟨by decide, by decide, rfl⟩ fl_X11_62 ?_
  refine g_iload_n C dX11_readStatement_29 rfl 2 rfl ?_
  refine g_iload_n C dX11_readStatement_30 rfl 1 rfl ?_
  refine g_gd (fun hi7 => ?_)
  refine g_iast C dX11_readStatement_31 rfl rfl rfl hi7 ?_
  refine g_letm (fun u6 => ?_)
  refine g_aload_n C dX11_readStatement_32 rfl 3 rfl ?_
  refine g_aload_n C dX11_readStatement_33 rfl 3 rfl ?_
  refine g_getI C dX11_readStatement_34 rfl rfl fi_11_25 rfl fl_X11_162 ?_
  refine g_if_ne 47 C dX11_readStatement_37 rfl (by decide) (fun c8 => ?_) (fun c8 => ?_)
  · refine g_sub (ls' := [(0, .ref ((xE Γ).1 74)), (1, .int v1_1), (2, .int r2), (3, .int v3_3)]) [3, 2, 1, 0] rfl ?_
    exact pX11_readStatement_47 C M L v1_1 r2 v3_3 u6
  · refine g_iload_n C dX11_readStatement_40 rfl 1 rfl ?_
    refine g_callsP [.int r2] C dX11_readStatement_41 rfl (tX11_isLetter (xl Γ) (xE Γ) r2 u6) cf_X11_isLetter ml_X11_179 rfl (by decide) (Nat.le_of_ble_eq_true rfl) rfl (fun r9 => ?_)
    refine g_if_ne 51 C dX11_readStatement_44 rfl (by decide) (fun c10 => ?_) (fun c10 => ?_)
    · refine g_iconst (v := 0) C dX11_readStatement_51 rfl (by decide) ?_
      refine g_sub (ls' := [(0, .ref ((xE Γ).1 74)), (1, .int v1_1), (2, .int r2), (3, .int v3_3)]) [3, 2, 1, 0] rfl ?_
      exact pX11_readStatement_52 C M L v1_1 r2 v3_3 0 u6
    · refine g_sub (ls' := [(0, .ref ((xE Γ).1 74)), (1, .int v1_1), (2, .int r2), (3, .int v3_3)]) [3, 2, 1, 0] rfl ?_
      exact pX11_readStatement_47 C M L v1_1 r2 v3_3 u6
set_option maxRecDepth 20000 in
set_option maxHeartbeats 4000000 in
theorem tX11_readStatement (l : Launch) (E : EE) (u : Mm) : Ct l E yX11_readStatement cX11_readStatement 4 none 3 [.ref (E.1 74)] u cvV (gX11_readStatement u) :=
  Ct_of (own := RX11) (by decide +kernel) rfl (Nat.le_of_ble_eq_true rfl) (fun p e R s m args below meth c C M => g_sub (ls' := [(0, .ref (E.1 74))]) [0] rfl (pX11_readStatement_0 C M rfl u))
