set_option maxRecDepth 20000 in
set_option maxHeartbeats 4000000 in
theorem pX11_flown_65 {Γ : GX} (C : Cx Γ RX11 cX11_flown 3) (M : Mx Γ (some .int)) (L : xn Γ = 4) (v1 : Int32) (v2 : Int32) (s0 : Int32) {j30 : Int32 → Mm → Option (Int32 × Mm)} (hj30 : ∀ (v2 : Int32) (u : Mm), Gp Γ (QM Γ cvI) 30 [(0, .ref ((xE Γ).1 74)), (1, .int v1), (2, .int v2)] [] u (j30 v2 u)) (u : Mm) : Gp Γ (QM Γ cvI) 65 [(0, .ref ((xE Γ).1 74)), (1, .int v1), (2, .int v2)] [.int s0, .ref ((xE Γ).1 74)] u (gX11_flown_65 j30 v1 v2 s0 u) := by
  unfold gX11_flown_65
  refine g_callV [.int s0] C dX11_flown_65 rfl (tX11_stepOn (xl Γ) (xE Γ) s0 u) cf_X11_stepOn rfl rfl ml_X11_142 rfl (by decide) (Nat.le_of_ble_eq_true rfl) rfl (fun u1 => ?_)
  refine g_iincL (fun v2_2 => [(2, .int v2_2), (0, .ref ((xE Γ).1 74)), (1, .int v1)]) C dX11_flown_68 rfl L (by decide) (k := 2) rfl (iinc_1 _) (fun _ => rfl) (fun v2_2 => ?_)
  refine g_goto 30 C dX11_flown_71 rfl (by decide) ?_
  refine g_sub (ls' := [(0, .ref ((xE Γ).1 74)), (1, .int v1), (2, .int v2_2)]) [1, 2, 0] rfl ?_
  exact hj30 v2_2 u1
set_option maxRecDepth 20000 in
set_option maxHeartbeats 4000000 in
theorem pX11_flown_64 {Γ : GX} (C : Cx Γ RX11 cX11_flown 3) (M : Mx Γ (some .int)) (L : xn Γ = 4) (v1 : Int32) (v2 : Int32) (v3 : Int32) {j30 : Int32 → Mm → Option (Int32 × Mm)} (hj30 : ∀ (v2 : Int32) (u : Mm), Gp Γ (QM Γ cvI) 30 [(0, .ref ((xE Γ).1 74)), (1, .int v1), (2, .int v2)] [] u (j30 v2 u)) (u : Mm) : Gp Γ (QM Γ cvI) 64 [(0, .ref ((xE Γ).1 74)), (1, .int v1), (2, .int v2), (3, .int v3)] [.ref ((xE Γ).1 74)] u (gX11_flown_64 j30 v1 v2 v3 u) := by
  unfold gX11_flown_64
  refine g_iload_n C dX11_flown_64 rfl 3 rfl ?_
  refine g_sub (ls' := [(0, .ref ((xE Γ).1 74)), (1, .int v1), (2, .int v2)]) [0, 1, 2] rfl ?_
  exact pX11_flown_65 C M L v1 v2 v3 hj30 u
set_option maxRecDepth 20000 in
set_option maxHeartbeats 4000000 in
theorem pX11_flown_125 {Γ : GX} (C : Cx Γ RX11 cX11_flown 3) (M : Mx Γ (some .int)) (L : xn Γ = 4) (s0 : Int32) (u : Mm) : Gp Γ (QM Γ cvI) 125 [(0, .ref ((xE Γ).1 74))] [.int s0] u (gX11_flown_125 s0 u) := by
  unfold gX11_flown_125
  refine g_istore_n (ls' := [(2, .int s0), (0, .ref ((xE Γ).1 74))]) C dX11_flown_125 rfl L (by decide) rfl ?_
  refine g_aload_n C dX11_flown_126 rfl 1 rfl ?_
  refine g_callV [] C dX11_flown_127 rfl (tX11_again (xl Γ) (xE Γ) u) cf_X11_again rfl rfl ml_X11_270 rfl (by decide) (Nat.le_of_ble_eq_true rfl) rfl (fun u1 => ?_)
  refine g_iload_n C dX11_flown_130 rfl 0 rfl ?_
  exact g_iret C M dX11_flown_131 rfl rfl
set_option maxRecDepth 20000 in
set_option maxHeartbeats 4000000 in
theorem pX11_flown_30s {Γ : GX} (C : Cx Γ RX11 cX11_flown 3) (M : Mx Γ (some .int)) (L : xn Γ = 4) (v1 : Int32) {j30 : Int32 → Mm → Option (Int32 × Mm)} (hj30 : ∀ (v2 : Int32) (u : Mm), Gp Γ (QM Γ cvI) 30 [(0, .ref ((xE Γ).1 74)), (1, .int v1), (2, .int v2)] [] u (j30 v2 u)) (v2 : Int32) (u : Mm) : Gp Γ (QM Γ cvI) 30 [(0, .ref ((xE Γ).1 74)), (1, .int v1), (2, .int v2)] [] u (gX11_flown_30_Ls v1 j30 v2 u) := by
  unfold gX11_flown_30_Ls
  refine g_iload_n C dX11_flown_30 rfl 2 rfl ?_
  refine g_aload_n C dX11_flown_31 rfl 0 rfl ?_
  refine g_getI C dX11_flown_32 rfl rfl fi_11_58 rfl fl_X11_344 ?_
  refine g_icmp_ge 74 C dX11_flown_35 rfl (by decide) (fun c1 => ?_) (fun c1 => ?_)
  · refine g_iload_n C dX11_flown_74 rfl 1 rfl ?_
    refine g_if_ne 85 C dX11_flown_75 rfl (by decide) (fun c2 => ?_) (fun c2 => ?_)
    · refine g_iload_n C dX11_flown_85 rfl 1 rfl ?_
      refine g_iconst (v := 1) C dX11_flown_86 rfl (by decide) ?_
      refine g_icmp_ne 97 C dX11_flown_87 rfl (by decide) (fun c3 => ?_) (fun c3 => ?_)
      · refine g_iload_n C dX11_flown_97 rfl 1 rfl ?_
        refine g_iconst (v := 2) C dX11_flown_98 rfl (by decide) ?_
        refine g_icmp_ne 109 C dX11_flown_99 rfl (by decide) (fun c4 => ?_) (fun c4 => ?_)
        · refine g_iload_n C dX11_flown_109 rfl 1 rfl ?_
          refine g_iconst (v := 3) C dX11_flown_110 rfl (by decide) ?_
          refine g_icmp_ne 121 C dX11_flown_111 rfl (by decide) (fun c5 => ?_) (fun c5 => ?_)
          · refine g_aload_n C dX11_flown_121 rfl 0 rfl ?_
            refine g_getI C dX11_flown_122 rfl rfl fi_11_6 rfl fl_X11_23 ?_
            refine g_sub (ls' := [(0, .ref ((xE Γ).1 74))]) [0] rfl ?_
            exact pX11_flown_125 C M L (u 74 6) u
          · refine g_aload_n C dX11_flown_114 rfl 0 rfl ?_
            refine g_getI C dX11_flown_115 rfl rfl fi_11_5 rfl fl_X11_20 ?_
            refine g_goto 125 C dX11_flown_118 rfl (by decide) ?_
            refine g_sub (ls' := [(0, .ref ((xE Γ).1 74))]) [0] rfl ?_
            exact pX11_flown_125 C M L (u 74 5) u
        · refine g_aload_n C dX11_flown_102 rfl 0 rfl ?_
          refine g_getI C dX11_flown_103 rfl rfl fi_11_4 rfl fl_X11_133 ?_
          refine g_goto 125 C dX11_flown_106 rfl (by decide) ?_
          refine g_sub (ls' := [(0, .ref ((xE Γ).1 74))]) [0] rfl ?_
          exact pX11_flown_125 C M L (u 74 4) u
      · refine g_aload_n C dX11_flown_90 rfl 0 rfl ?_
        refine g_getI C dX11_flown_91 rfl rfl fi_11_3 rfl fl_X11_16 ?_
        refine g_goto 125 C dX11_flown_94 rfl (by decide) ?_
        refine g_sub (ls' := [(0, .ref ((xE Γ).1 74))]) [0] rfl ?_
        exact pX11_flown_125 C M L (u 74 3) u
    · refine g_aload_n C dX11_flown_78 rfl 0 rfl ?_
      refine g_getI C dX11_flown_79 rfl rfl fi_11_2 rfl fl_X11_127 ?_
      refine g_goto 125 C dX11_flown_82 rfl (by decide) ?_
      refine g_sub (ls' := [(0, .ref ((xE Γ).1 74))]) [0] rfl ?_
      exact pX11_flown_125 C M L (u 74 2) u
  · refine g_aload_n C dX11_flown_38 rfl 0 rfl ?_
    refine g_getR (k2 := 100) C dX11_flown_39 rfl rfl fi_11_57 ⟨by decide, by decide, rfl⟩ fl_X11_101 ?_
    refine g_iload_n C dX11_flown_42 rfl 2 rfl ?_
    refine g_gd (fun hi6 => ?_)
    refine g_iald C dX11_flown_43 rfl rfl rfl hi6 ?_
    refine g_iconst (v := 3) C dX11_flown_44 rfl (by decide) ?_
    refine g_irem C dX11_flown_45 rfl (by decide) ?_
    refine g_lets (fun v3_7 => ?_)
    refine g_istore_n (ls' := [(3, .int v3_7), (0, .ref ((xE Γ).1 74)), (1, .int v1), (2, .int v2)]) C dX11_flown_46 rfl L (by decide) rfl ?_
    refine g_aload_n C dX11_flown_47 rfl 1 rfl ?_
    refine g_iload_n C dX11_flown_48 rfl 0 rfl ?_
    refine g_iconst (v := 1) C dX11_flown_49 rfl (by decide) ?_
    refine g_icmp_ne 64 C dX11_flown_50 rfl (by decide) (fun c8 => ?_) (fun c8 => ?_)
    · refine g_sub (ls' := [(0, .ref ((xE Γ).1 74)), (1, .int v1), (2, .int v2), (3, .int v3_7)]) [1, 2, 3, 0] rfl ?_
      exact pX11_flown_64 C M L v1 v2 v3_7 hj30 u
    · refine g_aload_n C dX11_flown_53 rfl 1 rfl ?_
      refine g_getI C dX11_flown_54 rfl rfl fi_11_6 rfl fl_X11_23 ?_
      refine g_if_ne 64 C dX11_flown_57 rfl (by decide) (fun c9 => ?_) (fun c9 => ?_)
      · refine g_sub (ls' := [(0, .ref ((xE Γ).1 74)), (1, .int v1), (2, .int v2), (3, .int v3_7)]) [1, 2, 3, 0] rfl ?_
        exact pX11_flown_64 C M L v1 v2 v3_7 hj30 u
      · refine g_iconst (v := 0) C dX11_flown_60 rfl (by decide) ?_
        refine g_goto 65 C dX11_flown_61 rfl (by decide) ?_
        refine g_sub (ls' := [(0, .ref ((xE Γ).1 74)), (1, .int v1), (2, .int v2)]) [1, 2, 3] rfl ?_
        exact pX11_flown_65 C M L v1 v2 0 hj30 u
set_option maxRecDepth 20000 in
set_option maxHeartbeats 4000000 in
theorem pX11_flown_30 {Γ : GX} (C : Cx Γ RX11 cX11_flown 3) (M : Mx Γ (some .int)) (L : xn Γ = 4) (v1 : Int32) : ∀ (n : Nat) (v2 : Int32) (u : Mm), Gp Γ (QM Γ cvI) 30 [(0, .ref ((xE Γ).1 74)), (1, .int v1), (2, .int v2)] [] u (gX11_flown_30_L v1 n v2 u) := by
  intro n
  induction n with
  | zero => intro _ _; exact g_none
  | succ n ih => intro v2 u; exact pX11_flown_30s C M L v1 ih v2 u

set_option maxRecDepth 20000 in
set_option maxHeartbeats 4000000 in
theorem pX11_flown_0 {Γ : GX} (C : Cx Γ RX11 cX11_flown 3) (M : Mx Γ (some .int)) (L : xn Γ = 4) (v1 : Int32) (u : Mm) : Gp Γ (QM Γ cvI) 0 [(0, .ref ((xE Γ).1 74)), (1, .int v1)] [] u (gX11_flown_b v1 u) := by
  unfold gX11_flown_b
  refine g_aload_n C dX11_flown_0 rfl 0 rfl ?_
  refine g_iconst (v := 0) C dX11_flown_1 rfl (by decide) ?_
  refine g_putI C dX11_flown_2 rfl rfl fp_11_19 rfl fl_X11_104 ?_
  refine g_letm (fun u1 => ?_)
  refine g_iload_n C dX11_flown_5 rfl 1 rfl ?_
  refine g_i2l C dX11_flown_6 rfl ?_
  refine g_lconst (v := 0) C dX11_flown_7 rfl (by decide) ?_
  refine g_ldc2_w (v := 4) C dX11_flown_8 rfl (wm_21 19 rfl) ?_
  refine g_callsP [.long v1.toInt64, .long 0, .long 4] C dX11_flown_11 rfl (tX11_in (xl Γ) (xE Γ) v1.toInt64 0 4 u1) cf_X11_in ml_X11_107 rfl (by decide) (Nat.le_of_ble_eq_true rfl) rfl (fun r2 => ?_)
  refine g_if_ne 24 C dX11_flown_14 rfl (by decide) (fun c3 => ?_) (fun c3 => ?_)
  · refine g_aload_n C dX11_flown_24 rfl 0 rfl ?_
    refine g_callV [] C dX11_flown_25 rfl (tX11_open (xl Γ) (xE Γ) u1) cf_X11_open rfl rfl ml_X11_291 rfl (by decide) (Nat.le_of_ble_eq_true rfl) rfl (fun u4 => ?_)
    refine g_iconst (v := 0) C dX11_flown_28 rfl (by decide) ?_
    refine g_istore_n (ls' := [(2, .int 0), (0, .ref ((xE Γ).1 74)), (1, .int v1)]) C dX11_flown_29 rfl L (by decide) rfl ?_
    refine g_sub (ls' := [(0, .ref ((xE Γ).1 74)), (1, .int v1), (2, .int 0)]) [1, 2, 0] rfl ?_
    exact pX11_flown_30 C M L v1 FU 0 u4
  · refine g_aload_n C dX11_flown_17 rfl 0 rfl ?_
    refine g_bipush (v := (-2)) C dX11_flown_18 rfl (by decide) ?_
    refine g_callI [.int (-2)] C dX11_flown_20 rfl (tX11_refuse (xl Γ) (xE Γ) (-2) u1) cf_X11_refuse rfl rfl ml_X11_153 rfl (by decide) (Nat.le_of_ble_eq_true rfl) rfl (fun r6 u5 => ?_)
    exact g_iret C M dX11_flown_23 rfl rfl
set_option maxRecDepth 20000 in
set_option maxHeartbeats 4000000 in
theorem tX11_flown (l : Launch) (E : EE) (v1 : Int32) (u : Mm) : Ct l E yX11_flown cX11_flown 4 (some .int) 3 [.ref (E.1 74), .int v1] u cvI (gX11_flown v1 u) :=
  Ct_of (own := RX11) (by decide +kernel) rfl (Nat.le_of_ble_eq_true rfl) (fun p e R s m args below meth c C M => g_sub (ls' := [(0, .ref (E.1 74)), (1, .int v1)]) [0, 1] rfl (pX11_flown_0 C M rfl v1 u))
set_option maxRecDepth 20000 in
set_option maxHeartbeats 4000000 in
theorem pX11_ceiling_90 {Γ : GX} (C : Cx Γ RX11 cX11_ceiling 3) (M : Mx Γ (some .int)) (L : xn Γ = 5) (v1 : Int32) (v3 : Int32) (v4 : Int32) (s0 : Int32) {j36 : Int32 → Int32 → Int32 → Mm → Option (Int32 × Mm)} (hj36 : ∀ (v2 : Int32) (v3 : Int32) (v4 : Int32) (u : Mm), Gp Γ (QM Γ cvI) 36 [(0, .ref ((xE Γ).1 74)), (1, .int v1), (2, .int v2), (3, .int v3), (4, .int v4)] [] u (j36 v2 v3 v4 u)) (u : Mm) : Gp Γ (QM Γ cvI) 90 [(0, .ref ((xE Γ).1 74)), (1, .int v1), (3, .int v3), (4, .int v4)] [.int s0] u (gX11_ceiling_90 j36 v1 v3 v4 s0 u) := by
  unfold gX11_ceiling_90
  refine g_istore_n (ls' := [(2, .int s0), (0, .ref ((xE Γ).1 74)), (1, .int v1), (3, .int v3), (4, .int v4)]) C dX11_ceiling_90 rfl L (by decide) rfl ?_
  refine g_iincL (fun v4_1 => [(4, .int v4_1), (2, .int s0), (0, .ref ((xE Γ).1 74)), (1, .int v1), (3, .int v3)]) C dX11_ceiling_91 rfl L (by decide) (k := 4) rfl (iinc_1 _) (fun _ => rfl) (fun v4_1 => ?_)
  refine g_goto 36 C dX11_ceiling_94 rfl (by decide) ?_
  refine g_sub (ls' := [(0, .ref ((xE Γ).1 74)), (1, .int v1), (2, .int s0), (3, .int v3), (4, .int v4_1)]) [2, 3, 1, 4, 0] rfl ?_
  exact hj36 s0 v3 v4_1 u
set_option maxRecDepth 20000 in
set_option maxHeartbeats 4000000 in
theorem pX11_ceiling_73 {Γ : GX} (C : Cx Γ RX11 cX11_ceiling 3) (M : Mx Γ (some .int)) (L : xn Γ = 5) (v1 : Int32) (v2 : Int32) (v4 : Int32) (s0 : Int32) {j36 : Int32 → Int32 → Int32 → Mm → Option (Int32 × Mm)} (hj36 : ∀ (v2 : Int32) (v3 : Int32) (v4 : Int32) (u : Mm), Gp Γ (QM Γ cvI) 36 [(0, .ref ((xE Γ).1 74)), (1, .int v1), (2, .int v2), (3, .int v3), (4, .int v4)] [] u (j36 v2 v3 v4 u)) (u : Mm) : Gp Γ (QM Γ cvI) 73 [(0, .ref ((xE Γ).1 74)), (1, .int v1), (2, .int v2), (4, .int v4)] [.int s0] u (gX11_ceiling_73 j36 v1 v2 v4 s0 u) := by
  unfold gX11_ceiling_73
  refine g_istore_n (ls' := [(3, .int s0), (0, .ref ((xE Γ).1 74)), (1, .int v1), (2, .int v2), (4, .int v4)]) C dX11_ceiling_73 rfl L (by decide) rfl ?_
  refine g_aload_n C dX11_ceiling_74 rfl 1 rfl ?_
  refine g_getI C dX11_ceiling_75 rfl rfl fi_11_2 rfl fl_X11_127 ?_
  refine g_iload_n C dX11_ceiling_78 rfl 3 rfl ?_
  refine g_icmp_le 89 C dX11_ceiling_79 rfl (by decide) (fun c1 => ?_) (fun c1 => ?_)
  · refine g_iload_n C dX11_ceiling_89 rfl 3 rfl ?_
    refine g_sub (ls' := [(0, .ref ((xE Γ).1 74)), (1, .int v1), (3, .int s0), (4, .int v4)]) [1, 2, 0, 4] rfl ?_
    exact pX11_ceiling_90 C M L v1 s0 v4 v2 hj36 u
  · refine g_aload_n C dX11_ceiling_82 rfl 1 rfl ?_
    refine g_getI C dX11_ceiling_83 rfl rfl fi_11_2 rfl fl_X11_127 ?_
    refine g_goto 90 C dX11_ceiling_86 rfl (by decide) ?_
    refine g_sub (ls' := [(0, .ref ((xE Γ).1 74)), (1, .int v1), (3, .int s0), (4, .int v4)]) [1, 2, 0, 4] rfl ?_
    exact pX11_ceiling_90 C M L v1 s0 v4 (u 74 2) hj36 u
set_option maxRecDepth 20000 in
set_option maxHeartbeats 4000000 in
theorem pX11_ceiling_56 {Γ : GX} (C : Cx Γ RX11 cX11_ceiling 3) (M : Mx Γ (some .int)) (L : xn Γ = 5) (v1 : Int32) (v2 : Int32) (v3 : Int32) (v4 : Int32) (s0 : Int32) {j36 : Int32 → Int32 → Int32 → Mm → Option (Int32 × Mm)} (hj36 : ∀ (v2 : Int32) (v3 : Int32) (v4 : Int32) (u : Mm), Gp Γ (QM Γ cvI) 36 [(0, .ref ((xE Γ).1 74)), (1, .int v1), (2, .int v2), (3, .int v3), (4, .int v4)] [] u (j36 v2 v3 v4 u)) (u : Mm) : Gp Γ (QM Γ cvI) 56 [(0, .ref ((xE Γ).1 74)), (1, .int v1), (2, .int v2), (3, .int v3), (4, .int v4)] [.int s0, .ref ((xE Γ).1 74)] u (gX11_ceiling_56 j36 v1 v2 v3 v4 s0 u) := by
  unfold gX11_ceiling_56
  refine g_callV [.int s0] C dX11_ceiling_56 rfl (tX11_stepOn (xl Γ) (xE Γ) s0 u) cf_X11_stepOn rfl rfl ml_X11_142 rfl (by decide) (Nat.le_of_ble_eq_true rfl) rfl (fun u1 => ?_)
  refine g_aload_n C dX11_ceiling_59 rfl 0 rfl ?_
  refine g_getI C dX11_ceiling_60 rfl rfl fi_11_2 rfl fl_X11_127 ?_
  refine g_iload_n C dX11_ceiling_63 rfl 2 rfl ?_
  refine g_icmp_le 72 C dX11_ceiling_64 rfl (by decide) (fun c2 => ?_) (fun c2 => ?_)
  · refine g_iload_n C dX11_ceiling_72 rfl 3 rfl ?_
    refine g_sub (ls' := [(0, .ref ((xE Γ).1 74)), (1, .int v1), (2, .int v2), (4, .int v4)]) [0, 1, 2, 4] rfl ?_
    exact pX11_ceiling_73 C M L v1 v2 v4 v3 hj36 u1
  · refine g_iload C dX11_ceiling_67 rfl 4 rfl ?_
    refine g_goto 73 C dX11_ceiling_69 rfl (by decide) ?_
    refine g_sub (ls' := [(0, .ref ((xE Γ).1 74)), (1, .int v1), (2, .int v2), (4, .int v4)]) [0, 1, 2, 4] rfl ?_
    exact pX11_ceiling_73 C M L v1 v2 v4 v4 hj36 u1
set_option maxRecDepth 20000 in
set_option maxHeartbeats 4000000 in
theorem pX11_ceiling_36s {Γ : GX} (C : Cx Γ RX11 cX11_ceiling 3) (M : Mx Γ (some .int)) (L : xn Γ = 5) (v1 : Int32) {j36 : Int32 → Int32 → Int32 → Mm → Option (Int32 × Mm)} (hj36 : ∀ (v2 : Int32) (v3 : Int32) (v4 : Int32) (u : Mm), Gp Γ (QM Γ cvI) 36 [(0, .ref ((xE Γ).1 74)), (1, .int v1), (2, .int v2), (3, .int v3), (4, .int v4)] [] u (j36 v2 v3 v4 u)) (v2 : Int32) (v3 : Int32) (v4 : Int32) (u : Mm) : Gp Γ (QM Γ cvI) 36 [(0, .ref ((xE Γ).1 74)), (1, .int v1), (2, .int v2), (3, .int v3), (4, .int v4)] [] u (gX11_ceiling_36_Ls v1 j36 v2 v3 v4 u) := by
  unfold gX11_ceiling_36_Ls
  refine g_iload C dX11_ceiling_36 rfl 4 rfl ?_
  refine g_bipush (v := 60) C dX11_ceiling_38 rfl (by decide) ?_
  refine g_icmp_gt 97 C dX11_ceiling_40 rfl (by decide) (fun c1 => ?_) (fun c1 => ?_)
  · refine g_aload_n C dX11_ceiling_97 rfl 0 rfl ?_
    refine g_callV [] C dX11_ceiling_98 rfl (tX11_again (xl Γ) (xE Γ) u) cf_X11_again rfl rfl ml_X11_270 rfl (by decide) (Nat.le_of_ble_eq_true rfl) rfl (fun u2 => ?_)
    refine g_iload_n C dX11_ceiling_101 rfl 1 rfl ?_
    refine g_if_ne 109 C dX11_ceiling_102 rfl (by decide) (fun c3 => ?_) (fun c3 => ?_)
    · refine g_iload_n C dX11_ceiling_109 rfl 3 rfl ?_
      exact g_iret C M dX11_ceiling_110 rfl rfl
    · refine g_iload_n C dX11_ceiling_105 rfl 2 rfl ?_
      refine g_goto 110 C dX11_ceiling_106 rfl (by decide) ?_
      exact g_iret C M dX11_ceiling_110 rfl rfl
  · refine g_aload_n C dX11_ceiling_43 rfl 0 rfl ?_
    refine g_aload_n C dX11_ceiling_44 rfl 0 rfl ?_
    refine g_getI C dX11_ceiling_45 rfl rfl fi_11_6 rfl fl_X11_23 ?_
    refine g_if_le 55 C dX11_ceiling_48 rfl (by decide) (fun c4 => ?_) (fun c4 => ?_)
    · refine g_iconst (v := 0) C dX11_ceiling_55 rfl (by decide) ?_
      exact pX11_ceiling_56 C M L v1 v2 v3 v4 0 hj36 u
    · refine g_iconst (v := 1) C dX11_ceiling_51 rfl (by decide) ?_
      refine g_goto 56 C dX11_ceiling_52 rfl (by decide) ?_
      exact pX11_ceiling_56 C M L v1 v2 v3 v4 1 hj36 u
set_option maxRecDepth 20000 in
set_option maxHeartbeats 4000000 in
theorem pX11_ceiling_36 {Γ : GX} (C : Cx Γ RX11 cX11_ceiling 3) (M : Mx Γ (some .int)) (L : xn Γ = 5) (v1 : Int32) : ∀ (n : Nat) (v2 : Int32) (v3 : Int32) (v4 : Int32) (u : Mm), Gp Γ (QM Γ cvI) 36 [(0, .ref ((xE Γ).1 74)), (1, .int v1), (2, .int v2), (3, .int v3), (4, .int v4)] [] u (gX11_ceiling_36_L v1 n v2 v3 v4 u) := by
  intro n
  induction n with
  | zero => intro _ _ _ _; exact g_none
  | succ n ih => intro v2 v3 v4 u; exact pX11_ceiling_36s C M L v1 ih v2 v3 v4 u

set_option maxRecDepth 20000 in
set_option maxHeartbeats 4000000 in
theorem pX11_ceiling_0 {Γ : GX} (C : Cx Γ RX11 cX11_ceiling 3) (M : Mx Γ (some .int)) (L : xn Γ = 5) (v1 : Int32) (u : Mm) : Gp Γ (QM Γ cvI) 0 [(0, .ref ((xE Γ).1 74)), (1, .int v1)] [] u (gX11_ceiling_b v1 u) := by
  unfold gX11_ceiling_b
  refine g_aload_n C dX11_ceiling_0 rfl 0 rfl ?_
  refine g_iconst (v := 0) C dX11_ceiling_1 rfl (by decide) ?_
  refine g_putI C dX11_ceiling_2 rfl rfl fp_11_19 rfl fl_X11_104 ?_
  refine g_letm (fun u1 => ?_)
  refine g_iload_n C dX11_ceiling_5 rfl 1 rfl ?_
  refine g_i2l C dX11_ceiling_6 rfl ?_
  refine g_lconst (v := 0) C dX11_ceiling_7 rfl (by decide) ?_
  refine g_lconst (v := 1) C dX11_ceiling_8 rfl (by decide) ?_
  refine g_callsP [.long v1.toInt64, .long 0, .long 1] C dX11_ceiling_9 rfl (tX11_in (xl Γ) (xE Γ) v1.toInt64 0 1 u1) cf_X11_in ml_X11_107 rfl (by decide) (Nat.le_of_ble_eq_true rfl) rfl (fun r2 => ?_)
  refine g_if_ne 22 C dX11_ceiling_12 rfl (by decide) (fun c3 => ?_) (fun c3 => ?_)
  · refine g_aload_n C dX11_ceiling_22 rfl 0 rfl ?_
    refine g_getI C dX11_ceiling_23 rfl rfl fi_11_2 rfl fl_X11_127 ?_
    refine g_lets (fun v2_4 => ?_)
    refine g_istore_n (ls' := [(2, .int v2_4), (0, .ref ((xE Γ).1 74)), (1, .int v1)]) C dX11_ceiling_26 rfl L (by decide) rfl ?_
    refine g_iconst (v := 0) C dX11_ceiling_27 rfl (by decide) ?_
    refine g_istore_n (ls' := [(3, .int 0), (2, .int v2_4), (0, .ref ((xE Γ).1 74)), (1, .int v1)]) C dX11_ceiling_28 rfl L (by decide) rfl ?_
    refine g_aload_n C dX11_ceiling_29 rfl 2 rfl ?_
    refine g_callV [] C dX11_ceiling_30 rfl (tX11_open (xl Γ) (xE Γ) u1) cf_X11_open rfl rfl ml_X11_291 rfl (by decide) (Nat.le_of_ble_eq_true rfl) rfl (fun u5 => ?_)
    refine g_iconst (v := 1) C dX11_ceiling_33 rfl (by decide) ?_
    refine g_istore (ls' := [(4, .int 1), (3, .int 0), (2, .int v2_4), (0, .ref ((xE Γ).1 74)), (1, .int v1)]) C dX11_ceiling_34 rfl L (by decide) rfl ?_
    refine g_sub (ls' := [(0, .ref ((xE Γ).1 74)), (1, .int v1), (2, .int v2_4), (3, .int 0), (4, .int 1)]) [3, 4, 2, 1, 0] rfl ?_
    exact pX11_ceiling_36 C M L v1 FU v2_4 0 1 u5
  · refine g_aload_n C dX11_ceiling_15 rfl 0 rfl ?_
    refine g_bipush (v := (-2)) C dX11_ceiling_16 rfl (by decide) ?_
    refine g_callI [.int (-2)] C dX11_ceiling_18 rfl (tX11_refuse (xl Γ) (xE Γ) (-2) u1) cf_X11_refuse rfl rfl ml_X11_153 rfl (by decide) (Nat.le_of_ble_eq_true rfl) rfl (fun r7 u6 => ?_)
    exact g_iret C M dX11_ceiling_21 rfl rfl
set_option maxRecDepth 20000 in
set_option maxHeartbeats 4000000 in
theorem tX11_ceiling (l : Launch) (E : EE) (v1 : Int32) (u : Mm) : Ct l E yX11_ceiling cX11_ceiling 5 (some .int) 3 [.ref (E.1 74), .int v1] u cvI (gX11_ceiling v1 u) :=
  Ct_of (own := RX11) (by decide +kernel) rfl (Nat.le_of_ble_eq_true rfl) (fun p e R s m args below meth c C M => g_sub (ls' := [(0, .ref (E.1 74)), (1, .int v1)]) [0, 1] rfl (pX11_ceiling_0 C M rfl v1 u))
set_option maxRecDepth 20000 in
set_option maxHeartbeats 4000000 in
theorem pX11_turnAir_2s {Γ : GX} (C : Cx Γ RX11 cX11_turnAir 0) (M : Mx Γ none) (L : xn Γ = 2) {j2 : Int32 → Mm → Option Mm} (hj2 : ∀ (v1 : Int32) (u : Mm), Gp Γ (QM Γ cvV) 2 [(0, .ref ((xE Γ).1 74)), (1, .int v1)] [] u (j2 v1 u)) (v1 : Int32) (u : Mm) : Gp Γ (QM Γ cvV) 2 [(0, .ref ((xE Γ).1 74)), (1, .int v1)] [] u (gX11_turnAir_2_Ls j2 v1 u) := by
  unfold gX11_turnAir_2_Ls
  refine g_iload_n C dX11_turnAir_2 rfl 1 rfl ?_
  refine g_bipush (v := 8) C dX11_turnAir_3 rfl (by decide) ?_
  refine g_icmp_ge 27 C dX11_turnAir_5 rfl (by decide) (fun c1 => ?_) (fun c1 => ?_)
  · exact g_vret C M dX11_turnAir_27 rfl rfl
  · refine g_aload_n C dX11_turnAir_8 rfl 0 rfl ?_
    refine g_getR (k2 := 75) C dX11_turnAir_9 rfl rfl fi_11_0 ⟨by decide, by decide, rfl⟩ fl_X11_7 ?_
    refine g_iload_n C dX11_turnAir_12 rfl 1 rfl ?_
    refine g_aload_n C dX11_turnAir_13 rfl 0 rfl ?_
    refine g_getR (k2 := 75) C dX11_turnAir_14 rfl rfl fi_11_0 ⟨by decide, by decide, rfl⟩ fl_X11_7 ?_
    refine g_iload_n C dX11_turnAir_17 rfl 1 rfl ?_
    refine g_gd (fun hi2 => ?_)
    refine g_iald C dX11_turnAir_18 rfl rfl rfl hi2 ?_
    refine g_ineg C dX11_turnAir_19 rfl ?_
    refine g_gd (fun hi4 => ?_)
    refine g_iast C dX11_turnAir_20 rfl rfl rfl hi4 ?_
    refine g_letm (fun u3 => ?_)
    refine g_iincL (fun v1_5 => [(1, .int v1_5), (0, .ref ((xE Γ).1 74))]) C dX11_turnAir_21 rfl L (by decide) (k := 1) rfl (iinc_1 _) (fun _ => rfl) (fun v1_5 => ?_)
    refine g_goto 2 C dX11_turnAir_24 rfl (by decide) ?_
    refine g_sub (ls' := [(0, .ref ((xE Γ).1 74)), (1, .int v1_5)]) [1, 0] rfl ?_
    exact hj2 v1_5 u3
set_option maxRecDepth 20000 in
set_option maxHeartbeats 4000000 in
theorem pX11_turnAir_2 {Γ : GX} (C : Cx Γ RX11 cX11_turnAir 0) (M : Mx Γ none) (L : xn Γ = 2) : ∀ (n : Nat) (v1 : Int32) (u : Mm), Gp Γ (QM Γ cvV) 2 [(0, .ref ((xE Γ).1 74)), (1, .int v1)] [] u (gX11_turnAir_2_L n v1 u) := by
  intro n
  induction n with
  | zero => intro _ _; exact g_none
  | succ n ih => intro v1 u; exact pX11_turnAir_2s C M L ih v1 u

set_option maxRecDepth 20000 in
set_option maxHeartbeats 4000000 in
theorem pX11_turnAir_0 {Γ : GX} (C : Cx Γ RX11 cX11_turnAir 0) (M : Mx Γ none) (L : xn Γ = 2) (u : Mm) : Gp Γ (QM Γ cvV) 0 [(0, .ref ((xE Γ).1 74))] [] u (gX11_turnAir_b u) := by
  unfold gX11_turnAir_b
  refine g_iconst (v := 0) C dX11_turnAir_0 rfl (by decide) ?_
  refine g_istore_n (ls' := [(1, .int 0), (0, .ref ((xE Γ).1 74))]) C dX11_turnAir_1 rfl L (by decide) rfl ?_
  refine g_sub (ls' := [(0, .ref ((xE Γ).1 74)), (1, .int 0)]) [1, 0] rfl ?_
  exact pX11_turnAir_2 C M L FU 0 u
set_option maxRecDepth 20000 in
set_option maxHeartbeats 4000000 in
theorem tX11_turnAir (l : Launch) (E : EE) (u : Mm) : Ct l E yX11_turnAir cX11_turnAir 2 none 0 [.ref (E.1 74)] u cvV (gX11_turnAir u) :=
  Ct_of (own := RX11) (by decide +kernel) rfl (Nat.le_of_ble_eq_true rfl) (fun p e R s m args below meth c C M => g_sub (ls' := [(0, .ref (E.1 74))]) [0] rfl (pX11_turnAir_0 C M rfl u))
set_option maxRecDepth 20000 in
set_option maxHeartbeats 4000000 in
theorem pX11_layGame_51 {Γ : GX} (C : Cx Γ RX11 cX11_layGame 5) (M : Mx Γ none) (L : xn Γ = 2) (v1 : Int32) (s0 : Int32) (s1 : Int32) {j6 : Int32 → Mm → Option Mm} (hj6 : ∀ (v1 : Int32) (u : Mm), Gp Γ (QM Γ cvV) 6 [(0, .ref ((xE Γ).1 74)), (1, .int v1)] [] u (j6 v1 u)) (u : Mm) : Gp Γ (QM Γ cvV) 51 [(0, .ref ((xE Γ).1 74)), (1, .int v1)] [.int s0, .int s1, .ref ((xE Γ).1 97)] u (gX11_layGame_51 j6 v1 s0 s1 u) := by
  unfold gX11_layGame_51
  refine g_gd (fun hi2 => ?_)
  refine g_iast C dX11_layGame_51 rfl rfl rfl hi2 ?_
  refine g_letm (fun u1 => ?_)
  refine g_aload_n C dX11_layGame_52 rfl 0 rfl ?_
  refine g_callV [] C dX11_layGame_53 rfl (tX11_turnAir (xl Γ) (xE Γ) u1) cf_X11_turnAir rfl rfl ml_X11_360 rfl (by decide) (Nat.le_of_ble_eq_true rfl) rfl (fun u3 => ?_)
  refine g_iincL (fun v1_4 => [(1, .int v1_4), (0, .ref ((xE Γ).1 74))]) C dX11_layGame_56 rfl L (by decide) (k := 1) rfl (iinc_1 _) (fun _ => rfl) (fun v1_4 => ?_)
  refine g_goto 6 C dX11_layGame_59 rfl (by decide) ?_
  refine g_sub (ls' := [(0, .ref ((xE Γ).1 74)), (1, .int v1_4)]) [1, 0] rfl ?_
  exact hj6 v1_4 u3
set_option maxRecDepth 20000 in
set_option maxHeartbeats 4000000 in
theorem pX11_layGame_6s {Γ : GX} (C : Cx Γ RX11 cX11_layGame 5) (M : Mx Γ none) (L : xn Γ = 2) {j6 : Int32 → Mm → Option Mm} (hj6 : ∀ (v1 : Int32) (u : Mm), Gp Γ (QM Γ cvV) 6 [(0, .ref ((xE Γ).1 74)), (1, .int v1)] [] u (j6 v1 u)) (v1 : Int32) (u : Mm) : Gp Γ (QM Γ cvV) 6 [(0, .ref ((xE Γ).1 74)), (1, .int v1)] [] u (gX11_layGame_6_Ls j6 v1 u) := by
  unfold gX11_layGame_6_Ls
  refine g_iload_n C dX11_layGame_6 rfl 1 rfl ?_
  refine g_bipush (v := 6) C dX11_layGame_7 rfl (by decide) ?_
  refine g_icmp_ge 62 C dX11_layGame_9 rfl (by decide) (fun c1 => ?_) (fun c1 => ?_)
  · refine g_aload_n C dX11_layGame_62 rfl 0 rfl ?_
    refine g_callV [] C dX11_layGame_63 rfl (tX11_again (xl Γ) (xE Γ) u) cf_X11_again rfl rfl ml_X11_270 rfl (by decide) (Nat.le_of_ble_eq_true rfl) rfl (fun u2 => ?_)
    exact g_vret C M dX11_layGame_66 rfl rfl
  · refine g_aload_n C dX11_layGame_12 rfl 0 rfl ?_
    refine g_iconst (v := 5) C dX11_layGame_13 rfl (by decide) ?_
    refine g_iload_n C dX11_layGame_14 rfl 1 rfl ?_
    refine g_iconst (v := 2) C dX11_layGame_15 rfl (by decide) ?_
    refine g_idiv C dX11_layGame_16 rfl (by decide) ?_
    refine g_imul C dX11_layGame_17 rfl ?_
    refine g_iconst (v := 1) C dX11_layGame_18 rfl (by decide) ?_
    refine g_callV [.int (5 * (v1 / 2)), .int 1] C dX11_layGame_19 rfl (tX11_planOn (xl Γ) (xE Γ) (5 * (v1 / 2)) 1 u) cf_X11_planOn rfl rfl ml_X11_294 rfl (by decide) (Nat.le_of_ble_eq_true rfl) rfl (fun u3 => ?_)
    refine g_aload_n C dX11_layGame_22 rfl 0 rfl ?_
    refine g_getR (k2 := 97) C dX11_layGame_23 rfl rfl fi_11_54 ⟨by decide, by decide, rfl⟩ fl_X11_92 ?_
    refine g_iload_n C dX11_layGame_26 rfl 1 rfl ?_
    refine g_aload_n C dX11_layGame_27 rfl 0 rfl ?_
    refine g_getI C dX11_layGame_28 rfl rfl fi_11_41 rfl fl_X11_279 ?_
    refine g_if_eq 49 C dX11_layGame_31 rfl (by decide) (fun c4 => ?_) (fun c4 => ?_)
    · refine g_bipush (v := 40) C dX11_layGame_49 rfl (by decide) ?_
      exact pX11_layGame_51 C M L v1 40 v1 hj6 u3
    · refine g_aload_n C dX11_layGame_34 rfl 0 rfl ?_
      refine g_aload_n C dX11_layGame_35 rfl 0 rfl ?_
      refine g_callP [] C dX11_layGame_36 rfl (tX11_fieldAt (xl Γ) (xE Γ) u3) cf_X11_fieldAt rfl rfl ml_X11_285 rfl (by decide) (Nat.le_of_ble_eq_true rfl) rfl (fun r5 => ?_)
      refine g_aload_n C dX11_layGame_39 rfl 0 rfl ?_
      refine g_getI C dX11_layGame_40 rfl rfl fi_11_42 rfl fl_X11_273 ?_
      refine g_callP [.int r5, .int (u3 74 42)] C dX11_layGame_43 rfl (tX11_costOf (xl Γ) (xE Γ) r5 (u3 74 42) u3) cf_X11_costOf rfl rfl ml_X11_259 rfl (by decide) (Nat.le_of_ble_eq_true rfl) rfl (fun r6 => ?_)
      refine g_goto 51 C dX11_layGame_46 rfl (by decide) ?_
      exact pX11_layGame_51 C M L v1 r6 v1 hj6 u3
set_option maxRecDepth 20000 in
set_option maxHeartbeats 4000000 in
theorem pX11_layGame_6 {Γ : GX} (C : Cx Γ RX11 cX11_layGame 5) (M : Mx Γ none) (L : xn Γ = 2) : ∀ (n : Nat) (v1 : Int32) (u : Mm), Gp Γ (QM Γ cvV) 6 [(0, .ref ((xE Γ).1 74)), (1, .int v1)] [] u (gX11_layGame_6_L n v1 u) := by
  intro n
  induction n with
  | zero => intro _ _; exact g_none
  | succ n ih => intro v1 u; exact pX11_layGame_6s C M L ih v1 u

set_option maxRecDepth 20000 in
set_option maxHeartbeats 4000000 in
theorem pX11_layGame_0 {Γ : GX} (C : Cx Γ RX11 cX11_layGame 5) (M : Mx Γ none) (L : xn Γ = 2) (u : Mm) : Gp Γ (QM Γ cvV) 0 [(0, .ref ((xE Γ).1 74))] [] u (gX11_layGame_b u) := by
  unfold gX11_layGame_b
  refine g_aload_n C dX11_layGame_0 rfl 0 rfl ?_
  refine g_callV [] C dX11_layGame_1 rfl (tX11_open (xl Γ) (xE Γ) u) cf_X11_open rfl rfl ml_X11_291 rfl (by decide) (Nat.le_of_ble_eq_true rfl) rfl (fun u1 => ?_)
  refine g_iconst (v := 0) C dX11_layGame_4 rfl (by decide) ?_
  refine g_istore_n (ls' := [(1, .int 0), (0, .ref ((xE Γ).1 74))]) C dX11_layGame_5 rfl L (by decide) rfl ?_
  refine g_sub (ls' := [(0, .ref ((xE Γ).1 74)), (1, .int 0)]) [1, 0] rfl ?_
  exact pX11_layGame_6 C M L FU 0 u1
set_option maxRecDepth 20000 in
set_option maxHeartbeats 4000000 in
theorem tX11_layGame (l : Launch) (E : EE) (u : Mm) : Ct l E yX11_layGame cX11_layGame 2 none 5 [.ref (E.1 74)] u cvV (gX11_layGame u) :=
  Ct_of (own := RX11) (by decide +kernel) rfl (Nat.le_of_ble_eq_true rfl) (fun p e R s m args below meth c C M => g_sub (ls' := [(0, .ref (E.1 74))]) [0] rfl (pX11_layGame_0 C M rfl u))
set_option maxRecDepth 20000 in
set_option maxHeartbeats 4000000 in
theorem pX11_greaterLoss_0 {Γ : GX} (C : Cx Γ RX11 cX11_greaterLoss 0) (M : Mx Γ (some .int)) (L : xn Γ = 2) (u : Mm) (v1 : Int32) : Gp Γ (QM Γ (cvP u)) 0 [(0, .ref ((xE Γ).1 74)), (1, .int v1)] [] u (gX11_greaterLoss_b v1 u) := by
  unfold gX11_greaterLoss_b
  refine g_aload_n C dX11_greaterLoss_0 rfl 0 rfl ?_
  refine g_getR (k2 := 97) C dX11_greaterLoss_1 rfl rfl fi_11_54 ⟨by decide, by decide, rfl⟩ fl_X11_92 ?_
  refine g_iconst (v := 2) C dX11_greaterLoss_4 rfl (by decide) ?_
  refine g_iload_n C dX11_greaterLoss_5 rfl 1 rfl ?_
  refine g_imul C dX11_greaterLoss_6 rfl ?_
  refine g_gd (fun hi1 => ?_)
  refine g_iald C dX11_greaterLoss_7 rfl rfl rfl hi1 ?_
  refine g_aload_n C dX11_greaterLoss_8 rfl 0 rfl ?_
  refine g_getR (k2 := 97) C dX11_greaterLoss_9 rfl rfl fi_11_54 ⟨by decide, by decide, rfl⟩ fl_X11_92 ?_
  refine g_iconst (v := 2) C dX11_greaterLoss_12 rfl (by decide) ?_
  refine g_iload_n C dX11_greaterLoss_13 rfl 1 rfl ?_
  refine g_imul C dX11_greaterLoss_14 rfl ?_
  refine g_iconst (v := 1) C dX11_greaterLoss_15 rfl (by decide) ?_
  refine g_iadd C dX11_greaterLoss_16 rfl ?_
  refine g_gd (fun hi2 => ?_)
  refine g_iald C dX11_greaterLoss_17 rfl rfl rfl hi2 ?_
  refine g_icmp_le 32 C dX11_greaterLoss_18 rfl (by decide) (fun c3 => ?_) (fun c3 => ?_)
  · refine g_aload_n C dX11_greaterLoss_32 rfl 0 rfl ?_
    refine g_getR (k2 := 97) C dX11_greaterLoss_33 rfl rfl fi_11_54 ⟨by decide, by decide, rfl⟩ fl_X11_92 ?_
    refine g_iconst (v := 2) C dX11_greaterLoss_36 rfl (by decide) ?_
    refine g_iload_n C dX11_greaterLoss_37 rfl 1 rfl ?_
    refine g_imul C dX11_greaterLoss_38 rfl ?_
    refine g_iconst (v := 1) C dX11_greaterLoss_39 rfl (by decide) ?_
    refine g_iadd C dX11_greaterLoss_40 rfl ?_
    refine g_gd (fun hi4 => ?_)
    refine g_iald C dX11_greaterLoss_41 rfl rfl rfl hi4 ?_
    exact g_iret C M dX11_greaterLoss_42 rfl rfl
  · refine g_aload_n C dX11_greaterLoss_21 rfl 0 rfl ?_
    refine g_getR (k2 := 97) C dX11_greaterLoss_22 rfl rfl fi_11_54 ⟨by decide, by decide, rfl⟩ fl_X11_92 ?_
    refine g_iconst (v := 2) C dX11_greaterLoss_25 rfl (by decide) ?_
    refine g_iload_n C dX11_greaterLoss_26 rfl 1 rfl ?_
    refine g_imul C dX11_greaterLoss_27 rfl ?_
    refine g_gd (fun hi5 => ?_)
    refine g_iald C dX11_greaterLoss_28 rfl rfl rfl hi5 ?_
    refine g_goto 42 C dX11_greaterLoss_29 rfl (by decide) ?_
    exact g_iret C M dX11_greaterLoss_42 rfl rfl
set_option maxRecDepth 20000 in
set_option maxHeartbeats 4000000 in
theorem tX11_greaterLoss (l : Launch) (E : EE) (v1 : Int32) (u : Mm) : Ct l E yX11_greaterLoss cX11_greaterLoss 2 (some .int) 0 [.ref (E.1 74), .int v1] u (cvP u) (gX11_greaterLoss v1 u) :=
  Ct_of (own := RX11) (by decide +kernel) rfl (Nat.le_of_ble_eq_true rfl) (fun p e R s m args below meth c C M => g_sub (ls' := [(0, .ref (E.1 74)), (1, .int v1)]) [0, 1] rfl (pX11_greaterLoss_0 C M rfl u v1))
set_option maxRecDepth 20000 in
set_option maxHeartbeats 4000000 in
theorem pX11_restingPair_64 {Γ : GX} (C : Cx Γ RX11 cX11_restingPair 1) (M : Mx Γ (some .int)) (L : xn Γ = 4) (u : Mm) (v1 : Int32) (v3 : Int32) (s0 : Int32) {j2 : Int32 → Option Int32} (hj2 : ∀ (v1 : Int32), Gp Γ (QM Γ (cvP u)) 2 [(0, .ref ((xE Γ).1 74)), (1, .int v1)] [] u (j2 v1)) {j34 : Int32 → Int32 → Option Int32} (hj34 : ∀ (v2 : Int32) (v3 : Int32), Gp Γ (QM Γ (cvP u)) 34 [(0, .ref ((xE Γ).1 74)), (1, .int v1), (2, .int v2), (3, .int v3)] [] u (j34 v2 v3)) : Gp Γ (QM Γ (cvP u)) 64 [(0, .ref ((xE Γ).1 74)), (1, .int v1), (3, .int v3)] [.int s0] u (gX11_restingPair_64 j2 j34 v1 v3 s0 u) := by
  unfold gX11_restingPair_64
  refine g_istore_n (ls' := [(2, .int s0), (0, .ref ((xE Γ).1 74)), (1, .int v1), (3, .int v3)]) C dX11_restingPair_64 rfl L (by decide) rfl ?_
  refine g_iincL (fun v3_1 => [(3, .int v3_1), (2, .int s0), (0, .ref ((xE Γ).1 74)), (1, .int v1)]) C dX11_restingPair_65 rfl L (by decide) (k := 3) rfl (iinc_2 _) (fun _ => rfl) (fun v3_1 => ?_)
  refine g_goto 34 C dX11_restingPair_68 rfl (by decide) ?_
  refine g_sub (ls' := [(0, .ref ((xE Γ).1 74)), (1, .int v1), (2, .int s0), (3, .int v3_1)]) [2, 3, 1, 0] rfl ?_
  exact hj34 s0 v3_1
set_option maxRecDepth 20000 in
set_option maxHeartbeats 4000000 in
theorem pX11_restingPair_63 {Γ : GX} (C : Cx Γ RX11 cX11_restingPair 1) (M : Mx Γ (some .int)) (L : xn Γ = 4) (u : Mm) (v1 : Int32) (v3 : Int32) {j2 : Int32 → Option Int32} (hj2 : ∀ (v1 : Int32), Gp Γ (QM Γ (cvP u)) 2 [(0, .ref ((xE Γ).1 74)), (1, .int v1)] [] u (j2 v1)) {j34 : Int32 → Int32 → Option Int32} (hj34 : ∀ (v2 : Int32) (v3 : Int32), Gp Γ (QM Γ (cvP u)) 34 [(0, .ref ((xE Γ).1 74)), (1, .int v1), (2, .int v2), (3, .int v3)] [] u (j34 v2 v3)) : Gp Γ (QM Γ (cvP u)) 63 [(0, .ref ((xE Γ).1 74)), (1, .int v1), (3, .int v3)] [] u (gX11_restingPair_63 j2 j34 v1 v3 u) := by
  unfold gX11_restingPair_63
  refine g_iconst (v := 0) C dX11_restingPair_63 rfl (by decide) ?_
  exact pX11_restingPair_64 C M L u v1 v3 0 hj2 hj34
set_option maxRecDepth 20000 in
set_option maxHeartbeats 4000000 in
theorem pX11_restingPair_34s {Γ : GX} (C : Cx Γ RX11 cX11_restingPair 1) (M : Mx Γ (some .int)) (L : xn Γ = 4) (u : Mm) (v1 : Int32) {j2 : Int32 → Option Int32} (hj2 : ∀ (v1 : Int32), Gp Γ (QM Γ (cvP u)) 2 [(0, .ref ((xE Γ).1 74)), (1, .int v1)] [] u (j2 v1)) {j34 : Int32 → Int32 → Option Int32} (hj34 : ∀ (v2 : Int32) (v3 : Int32), Gp Γ (QM Γ (cvP u)) 34 [(0, .ref ((xE Γ).1 74)), (1, .int v1), (2, .int v2), (3, .int v3)] [] u (j34 v2 v3)) (v2 : Int32) (v3 : Int32) : Gp Γ (QM Γ (cvP u)) 34 [(0, .ref ((xE Γ).1 74)), (1, .int v1), (2, .int v2), (3, .int v3)] [] u (gX11_restingPair_34_Ls j2 v1 u j34 v2 v3) := by
  unfold gX11_restingPair_34_Ls
  refine g_iload_n C dX11_restingPair_34 rfl 3 rfl ?_
  refine g_bipush (v := 6) C dX11_restingPair_35 rfl (by decide) ?_
  refine g_icmp_ge 71 C dX11_restingPair_37 rfl (by decide) (fun c1 => ?_) (fun c1 => ?_)
  · refine g_iload_n C dX11_restingPair_71 rfl 2 rfl ?_
    refine g_if_eq 77 C dX11_restingPair_72 rfl (by decide) (fun c2 => ?_) (fun c2 => ?_)
    · refine g_iincL (fun v1_3 => [(1, .int v1_3), (0, .ref ((xE Γ).1 74)), (2, .int v2), (3, .int v3)]) C dX11_restingPair_77 rfl L (by decide) (k := 1) rfl (iinc_1 _) (fun _ => rfl) (fun v1_3 => ?_)
      refine g_goto 2 C dX11_restingPair_80 rfl (by decide) ?_
      refine g_sub (ls' := [(0, .ref ((xE Γ).1 74)), (1, .int v1_3)]) [1, 0] rfl ?_
      exact hj2 v1_3
    · refine g_iload_n C dX11_restingPair_75 rfl 1 rfl ?_
      exact g_iret C M dX11_restingPair_76 rfl rfl
  · refine g_iload_n C dX11_restingPair_40 rfl 2 rfl ?_
    refine g_if_eq 63 C dX11_restingPair_41 rfl (by decide) (fun c4 => ?_) (fun c4 => ?_)
    · refine g_sub (ls' := [(0, .ref ((xE Γ).1 74)), (1, .int v1), (3, .int v3)]) [0, 1, 3] rfl ?_
      exact pX11_restingPair_63 C M L u v1 v3 hj2 hj34
    · refine g_aload_n C dX11_restingPair_44 rfl 0 rfl ?_
      refine g_getR (k2 := 97) C dX11_restingPair_45 rfl rfl fi_11_54 ⟨by decide, by decide, rfl⟩ fl_X11_92 ?_
      refine g_iload_n C dX11_restingPair_48 rfl 3 rfl ?_
      refine g_gd (fun hi5 => ?_)
      refine g_iald C dX11_restingPair_49 rfl rfl rfl hi5 ?_
      refine g_aload_n C dX11_restingPair_50 rfl 0 rfl ?_
      refine g_getR (k2 := 97) C dX11_restingPair_51 rfl rfl fi_11_54 ⟨by decide, by decide, rfl⟩ fl_X11_92 ?_
      refine g_iload_n C dX11_restingPair_54 rfl 1 rfl ?_
      refine g_gd (fun hi6 => ?_)
      refine g_iald C dX11_restingPair_55 rfl rfl rfl hi6 ?_
      refine g_icmp_lt 63 C dX11_restingPair_56 rfl (by decide) (fun c7 => ?_) (fun c7 => ?_)
      · refine g_sub (ls' := [(0, .ref ((xE Γ).1 74)), (1, .int v1), (3, .int v3)]) [0, 1, 3] rfl ?_
        exact pX11_restingPair_63 C M L u v1 v3 hj2 hj34
      · refine g_iconst (v := 1) C dX11_restingPair_59 rfl (by decide) ?_
        refine g_goto 64 C dX11_restingPair_60 rfl (by decide) ?_
        refine g_sub (ls' := [(0, .ref ((xE Γ).1 74)), (1, .int v1), (3, .int v3)]) [0, 1, 3] rfl ?_
        exact pX11_restingPair_64 C M L u v1 v3 1 hj2 hj34
set_option maxRecDepth 20000 in
set_option maxHeartbeats 4000000 in
theorem pX11_restingPair_34 {Γ : GX} (C : Cx Γ RX11 cX11_restingPair 1) (M : Mx Γ (some .int)) (L : xn Γ = 4) (u : Mm) (v1 : Int32) {j2 : Int32 → Option Int32} (hj2 : ∀ (v1 : Int32), Gp Γ (QM Γ (cvP u)) 2 [(0, .ref ((xE Γ).1 74)), (1, .int v1)] [] u (j2 v1)) : ∀ (n : Nat) (v2 : Int32) (v3 : Int32), Gp Γ (QM Γ (cvP u)) 34 [(0, .ref ((xE Γ).1 74)), (1, .int v1), (2, .int v2), (3, .int v3)] [] u (gX11_restingPair_34_L j2 v1 u n v2 v3) := by
  intro n
  induction n with
  | zero => intro _ _; exact g_none
  | succ n ih => intro v2 v3; exact pX11_restingPair_34s C M L u v1 hj2 ih v2 v3

set_option maxRecDepth 20000 in
set_option maxHeartbeats 4000000 in
theorem pX11_restingPair_29 {Γ : GX} (C : Cx Γ RX11 cX11_restingPair 1) (M : Mx Γ (some .int)) (L : xn Γ = 4) (u : Mm) (v1 : Int32) (s0 : Int32) {j2 : Int32 → Option Int32} (hj2 : ∀ (v1 : Int32), Gp Γ (QM Γ (cvP u)) 2 [(0, .ref ((xE Γ).1 74)), (1, .int v1)] [] u (j2 v1)) : Gp Γ (QM Γ (cvP u)) 29 [(0, .ref ((xE Γ).1 74)), (1, .int v1)] [.int s0] u (gX11_restingPair_29 j2 v1 s0 u) := by
  unfold gX11_restingPair_29
  refine g_istore_n (ls' := [(2, .int s0), (0, .ref ((xE Γ).1 74)), (1, .int v1)]) C dX11_restingPair_29 rfl L (by decide) rfl ?_
  refine g_iload_n C dX11_restingPair_30 rfl 2 rfl ?_
  refine g_iconst (v := 2) C dX11_restingPair_31 rfl (by decide) ?_
  refine g_irem C dX11_restingPair_32 rfl (by decide) ?_
  refine g_lets (fun v3_1 => ?_)
  refine g_istore_n (ls' := [(3, .int v3_1), (2, .int s0), (0, .ref ((xE Γ).1 74)), (1, .int v1)]) C dX11_restingPair_33 rfl L (by decide) rfl ?_
  refine g_sub (ls' := [(0, .ref ((xE Γ).1 74)), (1, .int v1), (2, .int s0), (3, .int v3_1)]) [2, 3, 1, 0] rfl ?_
  exact pX11_restingPair_34 C M L u v1 hj2 FU s0 v3_1
set_option maxRecDepth 20000 in
set_option maxHeartbeats 4000000 in
theorem pX11_restingPair_2s {Γ : GX} (C : Cx Γ RX11 cX11_restingPair 1) (M : Mx Γ (some .int)) (L : xn Γ = 4) (u : Mm) {j2 : Int32 → Option Int32} (hj2 : ∀ (v1 : Int32), Gp Γ (QM Γ (cvP u)) 2 [(0, .ref ((xE Γ).1 74)), (1, .int v1)] [] u (j2 v1)) (v1 : Int32) : Gp Γ (QM Γ (cvP u)) 2 [(0, .ref ((xE Γ).1 74)), (1, .int v1)] [] u (gX11_restingPair_2_Ls u j2 v1) := by
  unfold gX11_restingPair_2_Ls
  refine g_iload_n C dX11_restingPair_2 rfl 1 rfl ?_
  refine g_bipush (v := 6) C dX11_restingPair_3 rfl (by decide) ?_
  refine g_icmp_ge 83 C dX11_restingPair_5 rfl (by decide) (fun c1 => ?_) (fun c1 => ?_)
  · refine g_bipush (v := (-9)) C dX11_restingPair_83 rfl (by decide) ?_
    exact g_iret C M dX11_restingPair_85 rfl rfl
  · refine g_aload_n C dX11_restingPair_8 rfl 0 rfl ?_
    refine g_getR (k2 := 97) C dX11_restingPair_9 rfl rfl fi_11_54 ⟨by decide, by decide, rfl⟩ fl_X11_92 ?_
    refine g_iload_n C dX11_restingPair_12 rfl 1 rfl ?_
    refine g_gd (fun hi2 => ?_)
    refine g_iald C dX11_restingPair_13 rfl rfl rfl hi2 ?_
    refine g_aload_n C dX11_restingPair_14 rfl 0 rfl ?_
    refine g_iload_n C dX11_restingPair_15 rfl 1 rfl ?_
    refine g_iconst (v := 2) C dX11_restingPair_16 rfl (by decide) ?_
    refine g_idiv C dX11_restingPair_17 rfl (by decide) ?_
    refine g_callP [.int (v1 / 2)] C dX11_restingPair_18 rfl (tX11_greaterLoss (xl Γ) (xE Γ) (v1 / 2) u) cf_X11_greaterLoss rfl rfl ml_X11_363 rfl (by decide) (Nat.le_of_ble_eq_true rfl) rfl (fun r3 => ?_)
    refine g_icmp_ne 28 C dX11_restingPair_21 rfl (by decide) (fun c4 => ?_) (fun c4 => ?_)
    · refine g_iconst (v := 0) C dX11_restingPair_28 rfl (by decide) ?_
      exact pX11_restingPair_29 C M L u v1 0 hj2
    · refine g_iconst (v := 1) C dX11_restingPair_24 rfl (by decide) ?_
      refine g_goto 29 C dX11_restingPair_25 rfl (by decide) ?_
      exact pX11_restingPair_29 C M L u v1 1 hj2
set_option maxRecDepth 20000 in
set_option maxHeartbeats 4000000 in
theorem pX11_restingPair_2 {Γ : GX} (C : Cx Γ RX11 cX11_restingPair 1) (M : Mx Γ (some .int)) (L : xn Γ = 4) (u : Mm) : ∀ (n : Nat) (v1 : Int32), Gp Γ (QM Γ (cvP u)) 2 [(0, .ref ((xE Γ).1 74)), (1, .int v1)] [] u (gX11_restingPair_2_L u n v1) := by
  intro n
  induction n with
  | zero => intro _; exact g_none
  | succ n ih => intro v1; exact pX11_restingPair_2s C M L u ih v1

set_option maxRecDepth 20000 in
set_option maxHeartbeats 4000000 in
theorem pX11_restingPair_0 {Γ : GX} (C : Cx Γ RX11 cX11_restingPair 1) (M : Mx Γ (some .int)) (L : xn Γ = 4) (u : Mm) : Gp Γ (QM Γ (cvP u)) 0 [(0, .ref ((xE Γ).1 74))] [] u (gX11_restingPair_b u) := by
  unfold gX11_restingPair_b
  refine g_iconst (v := 0) C dX11_restingPair_0 rfl (by decide) ?_
  refine g_istore_n (ls' := [(1, .int 0), (0, .ref ((xE Γ).1 74))]) C dX11_restingPair_1 rfl L (by decide) rfl ?_
  refine g_sub (ls' := [(0, .ref ((xE Γ).1 74)), (1, .int 0)]) [1, 0] rfl ?_
  exact pX11_restingPair_2 C M L u FU 0
set_option maxRecDepth 20000 in
set_option maxHeartbeats 4000000 in
theorem tX11_restingPair (l : Launch) (E : EE) (u : Mm) : Ct l E yX11_restingPair cX11_restingPair 4 (some .int) 1 [.ref (E.1 74)] u (cvP u) (gX11_restingPair u) :=
  Ct_of (own := RX11) (by decide +kernel) rfl (Nat.le_of_ble_eq_true rfl) (fun p e R s m args below meth c C M => g_sub (ls' := [(0, .ref (E.1 74))]) [0] rfl (pX11_restingPair_0 C M rfl u))
set_option maxRecDepth 20000 in
set_option maxHeartbeats 4000000 in
theorem pX11_game_113 {Γ : GX} (C : Cx Γ RX11 cX11_game 6) (M : Mx Γ (some .int)) (L : xn Γ = 5) (v4 : Int32) (s0 : Int32) {j87 : Int32 → Int32 → Mm → Option (Int32 × Mm)} (hj87 : ∀ (v3 : Int32) (v4 : Int32) (u : Mm), Gp Γ (QM Γ cvI) 87 [(0, .ref ((xE Γ).1 74)), (3, .int v3), (4, .int v4)] [] u (j87 v3 v4 u)) (u : Mm) : Gp Γ (QM Γ cvI) 113 [(0, .ref ((xE Γ).1 74)), (4, .int v4)] [.int s0] u (gX11_game_113 j87 v4 s0 u) := by
  unfold gX11_game_113
  refine g_istore_n (ls' := [(3, .int s0), (0, .ref ((xE Γ).1 74)), (4, .int v4)]) C dX11_game_113 rfl L (by decide) rfl ?_
  refine g_iincL (fun v4_1 => [(4, .int v4_1), (3, .int s0), (0, .ref ((xE Γ).1 74))]) C dX11_game_114 rfl L (by decide) (k := 2) rfl (iinc_1 _) (fun _ => rfl) (fun v4_1 => ?_)
  refine g_goto 87 C dX11_game_117 rfl (by decide) ?_
  refine g_sub (ls' := [(0, .ref ((xE Γ).1 74)), (3, .int s0), (4, .int v4_1)]) [2, 1, 0] rfl ?_
  exact hj87 s0 v4_1 u
set_option maxRecDepth 20000 in
set_option maxHeartbeats 4000000 in
theorem pX11_game_87s {Γ : GX} (C : Cx Γ RX11 cX11_game 6) (M : Mx Γ (some .int)) (L : xn Γ = 5) {j87 : Int32 → Int32 → Mm → Option (Int32 × Mm)} (hj87 : ∀ (v3 : Int32) (v4 : Int32) (u : Mm), Gp Γ (QM Γ cvI) 87 [(0, .ref ((xE Γ).1 74)), (3, .int v3), (4, .int v4)] [] u (j87 v3 v4 u)) (v3 : Int32) (v4 : Int32) (u : Mm) : Gp Γ (QM Γ cvI) 87 [(0, .ref ((xE Γ).1 74)), (3, .int v3), (4, .int v4)] [] u (gX11_game_87_Ls j87 v3 v4 u) := by
  unfold gX11_game_87_Ls
  refine g_iload C dX11_game_87 rfl 2 rfl ?_
  refine g_iconst (v := 3) C dX11_game_89 rfl (by decide) ?_
  refine g_icmp_ge 120 C dX11_game_90 rfl (by decide) (fun c1 => ?_) (fun c1 => ?_)
  · refine g_iload_n C dX11_game_120 rfl 1 rfl ?_
    exact g_iret C M dX11_game_121 rfl rfl
  · refine g_aload_n C dX11_game_93 rfl 0 rfl ?_
    refine g_iload C dX11_game_94 rfl 2 rfl ?_
    refine g_callP [.int v4] C dX11_game_96 rfl (tX11_greaterLoss (xl Γ) (xE Γ) v4 u) cf_X11_greaterLoss rfl rfl ml_X11_363 rfl (by decide) (Nat.le_of_ble_eq_true rfl) rfl (fun r2 => ?_)
    refine g_iload_n C dX11_game_99 rfl 1 rfl ?_
    refine g_icmp_ge 112 C dX11_game_100 rfl (by decide) (fun c3 => ?_) (fun c3 => ?_)
    · refine g_iload_n C dX11_game_112 rfl 1 rfl ?_
      refine g_sub (ls' := [(0, .ref ((xE Γ).1 74)), (4, .int v4)]) [0, 2] rfl ?_
      exact pX11_game_113 C M L v4 v3 hj87 u
    · refine g_aload_n C dX11_game_103 rfl 0 rfl ?_
      refine g_iload C dX11_game_104 rfl 2 rfl ?_
      refine g_callP [.int v4] C dX11_game_106 rfl (tX11_greaterLoss (xl Γ) (xE Γ) v4 u) cf_X11_greaterLoss rfl rfl ml_X11_363 rfl (by decide) (Nat.le_of_ble_eq_true rfl) rfl (fun r4 => ?_)
      refine g_goto 113 C dX11_game_109 rfl (by decide) ?_
      refine g_sub (ls' := [(0, .ref ((xE Γ).1 74)), (4, .int v4)]) [0, 2] rfl ?_
      exact pX11_game_113 C M L v4 r4 hj87 u
set_option maxRecDepth 20000 in
set_option maxHeartbeats 4000000 in
theorem pX11_game_87 {Γ : GX} (C : Cx Γ RX11 cX11_game 6) (M : Mx Γ (some .int)) (L : xn Γ = 5) : ∀ (n : Nat) (v3 : Int32) (v4 : Int32) (u : Mm), Gp Γ (QM Γ cvI) 87 [(0, .ref ((xE Γ).1 74)), (3, .int v3), (4, .int v4)] [] u (gX11_game_87_L n v3 v4 u) := by
  intro n
  induction n with
  | zero => intro _ _ _; exact g_none
  | succ n ih => intro v3 v4 u; exact pX11_game_87s C M L ih v3 v4 u

set_option maxRecDepth 20000 in
set_option maxHeartbeats 4000000 in
theorem pX11_game_0 {Γ : GX} (C : Cx Γ RX11 cX11_game 6) (M : Mx Γ (some .int)) (L : xn Γ = 5) (v1 : Int32) (u : Mm) : Gp Γ (QM Γ cvI) 0 [(0, .ref ((xE Γ).1 74)), (1, .int v1)] [] u (gX11_game_b v1 u) := by
  unfold gX11_game_b
  refine g_aload_n C dX11_game_0 rfl 0 rfl ?_
  refine g_iconst (v := 0) C dX11_game_1 rfl (by decide) ?_
  refine g_putI C dX11_game_2 rfl rfl fp_11_19 rfl fl_X11_104 ?_
  refine g_letm (fun u1 => ?_)
  refine g_iload_n C dX11_game_5 rfl 1 rfl ?_
  refine g_i2l C dX11_game_6 rfl ?_
  refine g_lconst (v := 0) C dX11_game_7 rfl (by decide) ?_
  refine g_ldc2_w (v := 2) C dX11_game_8 rfl (wm_26 16 rfl) ?_
  refine g_callsP [.long v1.toInt64, .long 0, .long 2] C dX11_game_11 rfl (tX11_in (xl Γ) (xE Γ) v1.toInt64 0 2 u1) cf_X11_in ml_X11_107 rfl (by decide) (Nat.le_of_ble_eq_true rfl) rfl (fun r2 => ?_)
  refine g_if_ne 24 C dX11_game_14 rfl (by decide) (fun c3 => ?_) (fun c3 => ?_)
  · refine g_aload_n C dX11_game_24 rfl 0 rfl ?_
    refine g_callV [] C dX11_game_25 rfl (tX11_layGame (xl Γ) (xE Γ) u1) cf_X11_layGame rfl rfl ml_X11_366 rfl (by decide) (Nat.le_of_ble_eq_true rfl) rfl (fun u4 => ?_)
    refine g_aload_n C dX11_game_28 rfl 0 rfl ?_
    refine g_callP [] C dX11_game_29 rfl (tX11_restingPair (xl Γ) (xE Γ) u4) cf_X11_restingPair rfl rfl ml_X11_369 rfl (by decide) (Nat.le_of_ble_eq_true rfl) rfl (fun r5 => ?_)
    refine g_istore_n (ls' := [(2, .int r5), (0, .ref ((xE Γ).1 74)), (1, .int v1)]) C dX11_game_32 rfl L (by decide) rfl ?_
    refine g_iload_n C dX11_game_33 rfl 2 rfl ?_
    refine g_if_ne 57 C dX11_game_34 rfl (by decide) (fun c6 => ?_) (fun c6 => ?_)
    · refine g_iload_n C dX11_game_57 rfl 2 rfl ?_
      refine g_iconst (v := 1) C dX11_game_58 rfl (by decide) ?_
      refine g_icmp_ne 78 C dX11_game_59 rfl (by decide) (fun c7 => ?_) (fun c7 => ?_)
      · refine g_aload_n C dX11_game_78 rfl 1 rfl ?_
        refine g_iconst (v := 0) C dX11_game_79 rfl (by decide) ?_
        refine g_callP [.int 0] C dX11_game_80 rfl (tX11_greaterLoss (xl Γ) (xE Γ) 0 u4) cf_X11_greaterLoss rfl rfl ml_X11_363 rfl (by decide) (Nat.le_of_ble_eq_true rfl) rfl (fun r8 => ?_)
        refine g_istore_n (ls' := [(3, .int r8), (2, .int r5), (0, .ref ((xE Γ).1 74)), (1, .int v1)]) C dX11_game_83 rfl L (by decide) rfl ?_
        refine g_iconst (v := 1) C dX11_game_84 rfl (by decide) ?_
        refine g_istore (ls' := [(4, .int 1), (3, .int r8), (2, .int r5), (0, .ref ((xE Γ).1 74)), (1, .int v1)]) C dX11_game_85 rfl L (by decide) rfl ?_
        refine g_sub (ls' := [(0, .ref ((xE Γ).1 74)), (3, .int r8), (4, .int 1)]) [3, 1, 0] rfl ?_
        exact pX11_game_87 C M L FU r8 1 u4
      · refine g_iload_n C dX11_game_62 rfl 0 rfl ?_
        refine g_if_ge 71 C dX11_game_63 rfl (by decide) (fun c9 => ?_) (fun c9 => ?_)
        · refine g_aload_n C dX11_game_71 rfl 1 rfl ?_
          refine g_getR (k2 := 97) C dX11_game_72 rfl rfl fi_11_54 ⟨by decide, by decide, rfl⟩ fl_X11_92 ?_
          refine g_iload_n C dX11_game_75 rfl 0 rfl ?_
          refine g_gd (fun hi10 => ?_)
          refine g_iald C dX11_game_76 rfl rfl rfl hi10 ?_
          exact g_iret C M dX11_game_77 rfl rfl
        · refine g_bipush (v := (-9)) C dX11_game_66 rfl (by decide) ?_
          refine g_goto 77 C dX11_game_68 rfl (by decide) ?_
          exact g_iret C M dX11_game_77 rfl rfl
    · refine g_iload_n C dX11_game_37 rfl 0 rfl ?_
      refine g_if_ge 46 C dX11_game_38 rfl (by decide) (fun c11 => ?_) (fun c11 => ?_)
      · refine g_bipush (v := 10) C dX11_game_46 rfl (by decide) ?_
        refine g_iload_n C dX11_game_48 rfl 0 rfl ?_
        refine g_iconst (v := 2) C dX11_game_49 rfl (by decide) ?_
        refine g_idiv C dX11_game_50 rfl (by decide) ?_
        refine g_imul C dX11_game_51 rfl ?_
        refine g_iload_n C dX11_game_52 rfl 0 rfl ?_
        refine g_iconst (v := 2) C dX11_game_53 rfl (by decide) ?_
        refine g_irem C dX11_game_54 rfl (by decide) ?_
        refine g_iadd C dX11_game_55 rfl ?_
        exact g_iret C M dX11_game_56 rfl rfl
      · refine g_bipush (v := (-9)) C dX11_game_41 rfl (by decide) ?_
        refine g_goto 56 C dX11_game_43 rfl (by decide) ?_
        exact g_iret C M dX11_game_56 rfl rfl
  · refine g_aload_n C dX11_game_17 rfl 0 rfl ?_
    refine g_bipush (v := (-2)) C dX11_game_18 rfl (by decide) ?_
    refine g_callI [.int (-2)] C dX11_game_20 rfl (tX11_refuse (xl Γ) (xE Γ) (-2) u1) cf_X11_refuse rfl rfl ml_X11_153 rfl (by decide) (Nat.le_of_ble_eq_true rfl) rfl (fun r13 u12 => ?_)
    exact g_iret C M dX11_game_23 rfl rfl
set_option maxRecDepth 20000 in
set_option maxHeartbeats 4000000 in
theorem tX11_game (l : Launch) (E : EE) (v1 : Int32) (u : Mm) : Ct l E yX11_game cX11_game 5 (some .int) 6 [.ref (E.1 74), .int v1] u cvI (gX11_game v1 u) :=
  Ct_of (own := RX11) (by decide +kernel) rfl (Nat.le_of_ble_eq_true rfl) (fun p e R s m args below meth c C M => g_sub (ls' := [(0, .ref (E.1 74)), (1, .int v1)]) [0, 1] rfl (pX11_game_0 C M rfl v1 u))
set_option maxRecDepth 20000 in
set_option maxHeartbeats 4000000 in
theorem pX11_another_130 {Γ : GX} (C : Cx Γ RX11 cX11_another 5) (M : Mx Γ (some .int)) (L : xn Γ = 10) (v5 : Int32) (v7 : Int32) (v8 : Int32) (s0 : Int32) (u : Mm) : Gp Γ (QM Γ cvI) 130 [(0, .ref ((xE Γ).1 74)), (5, .int v5), (7, .int v7), (8, .int v8)] [.int s0] u (gX11_another_130 v5 v7 v8 s0 u) := by
  unfold gX11_another_130
  refine g_istore (ls' := [(6, .int s0), (0, .ref ((xE Γ).1 74)), (5, .int v5), (7, .int v7), (8, .int v8)]) C dX11_another_130 rfl L (by decide) rfl ?_
  refine g_aload_n C dX11_another_132 rfl 1 rfl ?_
  refine g_getI C dX11_another_133 rfl rfl fi_11_3 rfl fl_X11_16 ?_
  refine g_iload C dX11_another_136 rfl 3 rfl ?_
  refine g_isub C dX11_another_138 rfl ?_
  refine g_callsP [.int ((u 74 3) - v7)] C dX11_another_139 rfl (tX11_plainly (xl Γ) (xE Γ) ((u 74 3) - v7) u) cf_X11_plainly ml_X11_146 rfl (by decide) (Nat.le_of_ble_eq_true rfl) rfl (fun r1 => ?_)
  refine g_aload_n C dX11_another_142 rfl 1 rfl ?_
  refine g_getI C dX11_another_143 rfl rfl fi_11_4 rfl fl_X11_133 ?_
  refine g_iload C dX11_another_146 rfl 4 rfl ?_
  refine g_isub C dX11_another_148 rfl ?_
  refine g_callsP [.int ((u 74 4) - v8)] C dX11_another_149 rfl (tX11_plainly (xl Γ) (xE Γ) ((u 74 4) - v8) u) cf_X11_plainly ml_X11_146 rfl (by decide) (Nat.le_of_ble_eq_true rfl) rfl (fun r2 => ?_)
  refine g_iadd C dX11_another_152 rfl ?_
  refine g_lets (fun v9_3 => ?_)
  refine g_istore (ls' := [(9, .int v9_3), (6, .int s0), (0, .ref ((xE Γ).1 74)), (5, .int v5), (7, .int v7), (8, .int v8)]) C dX11_another_153 rfl L (by decide) rfl ?_
  refine g_aload_n C dX11_another_155 rfl 2 rfl ?_
  refine g_callV [] C dX11_another_156 rfl (tX11_again (xl Γ) (xE Γ) u) cf_X11_again rfl rfl ml_X11_270 rfl (by decide) (Nat.le_of_ble_eq_true rfl) rfl (fun u4 => ?_)
  refine g_aload_n C dX11_another_159 rfl 2 rfl ?_
  refine g_iload C dX11_another_160 rfl 3 rfl ?_
  refine g_putI C dX11_another_162 rfl rfl fp_11_7 rfl fl_X11_26 ?_
  refine g_letm (fun u5 => ?_)
  refine g_iload C dX11_another_165 rfl 1 rfl ?_
  refine g_if_eq 175 C dX11_another_167 rfl (by decide) (fun c6 => ?_) (fun c6 => ?_)
  · refine g_bipush (v := (-9)) C dX11_another_175 rfl (by decide) ?_
    exact g_iret C M dX11_another_177 rfl rfl
  · refine g_iload C dX11_another_170 rfl 0 rfl ?_
    refine g_goto 177 C dX11_another_172 rfl (by decide) ?_
    exact g_iret C M dX11_another_177 rfl rfl
set_option maxRecDepth 20000 in
set_option maxHeartbeats 4000000 in
theorem pX11_another_129 {Γ : GX} (C : Cx Γ RX11 cX11_another 5) (M : Mx Γ (some .int)) (L : xn Γ = 10) (v5 : Int32) (v7 : Int32) (v8 : Int32) (u : Mm) : Gp Γ (QM Γ cvI) 129 [(0, .ref ((xE Γ).1 74)), (5, .int v5), (7, .int v7), (8, .int v8)] [] u (gX11_another_129 v5 v7 v8 u) := by
  unfold gX11_another_129
  refine g_iconst (v := 0) C dX11_another_129 rfl (by decide) ?_
  exact pX11_another_130 C M L v5 v7 v8 0 u
set_option maxRecDepth 20000 in
set_option maxHeartbeats 4000000 in
theorem pX11_another_46 {Γ : GX} (C : Cx Γ RX11 cX11_another 5) (M : Mx Γ (some .int)) (L : xn Γ = 10) (v1 : Int32) (v2 : Int32) (v3 : Int32) (s0 : Int32) (u : Mm) : Gp Γ (QM Γ cvI) 46 [(0, .ref ((xE Γ).1 74)), (1, .int v1), (2, .int v2), (3, .int v3)] [.int s0] u (gX11_another_46 v1 v2 v3 s0 u) := by
  unfold gX11_another_46
  refine g_istore (ls' := [(4, .int s0), (0, .ref ((xE Γ).1 74)), (1, .int v1), (2, .int v2), (3, .int v3)]) C dX11_another_46 rfl L (by decide) rfl ?_
  refine g_iload C dX11_another_48 rfl 0 rfl ?_
  refine g_if_ge 60 C dX11_another_50 rfl (by decide) (fun c1 => ?_) (fun c1 => ?_)
  · refine g_aload_n C dX11_another_60 rfl 1 rfl ?_
    refine g_getI C dX11_another_61 rfl rfl fi_11_7 rfl fl_X11_26 ?_
    refine g_lets (fun v5_2 => ?_)
    refine g_istore (ls' := [(5, .int v5_2), (4, .int s0), (0, .ref ((xE Γ).1 74)), (1, .int v1), (2, .int v2), (3, .int v3)]) C dX11_another_64 rfl L (by decide) rfl ?_
    refine g_aload_n C dX11_another_66 rfl 2 rfl ?_
    refine g_callV [] C dX11_another_67 rfl (tX11_open (xl Γ) (xE Γ) u) cf_X11_open rfl rfl ml_X11_291 rfl (by decide) (Nat.le_of_ble_eq_true rfl) rfl (fun u3 => ?_)
    refine g_aload_n C dX11_another_70 rfl 2 rfl ?_
    refine g_iload_n C dX11_another_71 rfl 3 rfl ?_
    refine g_iload_n C dX11_another_72 rfl 4 rfl ?_
    refine g_callV [.int v1, .int v2] C dX11_another_73 rfl (tX11_planOn (xl Γ) (xE Γ) v1 v2 u3) cf_X11_planOn rfl rfl ml_X11_294 rfl (by decide) (Nat.le_of_ble_eq_true rfl) rfl (fun u4 => ?_)
    refine g_aload_n C dX11_another_76 rfl 2 rfl ?_
    refine g_getI C dX11_another_77 rfl rfl fi_11_41 rfl fl_X11_279 ?_
    refine g_lets (fun v6_5 => ?_)
    refine g_istore (ls' := [(6, .int v6_5), (5, .int v5_2), (4, .int s0), (0, .ref ((xE Γ).1 74)), (1, .int v1), (2, .int v2), (3, .int v3)]) C dX11_another_80 rfl L (by decide) rfl ?_
    refine g_aload_n C dX11_another_82 rfl 3 rfl ?_
    refine g_getI C dX11_another_83 rfl rfl fi_11_3 rfl fl_X11_16 ?_
    refine g_lets (fun v7_6 => ?_)
    refine g_istore (ls' := [(7, .int v7_6), (6, .int v6_5), (5, .int v5_2), (4, .int s0), (0, .ref ((xE Γ).1 74)), (1, .int v1), (2, .int v2), (3, .int v3)]) C dX11_another_86 rfl L (by decide) rfl ?_
    refine g_aload_n C dX11_another_88 rfl 4 rfl ?_
    refine g_getI C dX11_another_89 rfl rfl fi_11_4 rfl fl_X11_133 ?_
    refine g_lets (fun v8_7 => ?_)
    refine g_istore (ls' := [(8, .int v8_7), (7, .int v7_6), (6, .int v6_5), (5, .int v5_2), (4, .int s0), (0, .ref ((xE Γ).1 74)), (1, .int v1), (2, .int v2), (3, .int v3)]) C dX11_another_92 rfl L (by decide) rfl ?_
    refine g_aload_n C dX11_another_94 rfl 5 rfl ?_
    refine g_callV [] C dX11_another_95 rfl (tX11_again (xl Γ) (xE Γ) u4) cf_X11_again rfl rfl ml_X11_270 rfl (by decide) (Nat.le_of_ble_eq_true rfl) rfl (fun u8 => ?_)
    refine g_aload_n C dX11_another_98 rfl 5 rfl ?_
    refine g_iload_n C dX11_another_99 rfl 8 rfl ?_
    refine g_putI C dX11_another_100 rfl rfl fp_11_7 rfl fl_X11_26 ?_
    refine g_letm (fun u9 => ?_)
    refine g_aload_n C dX11_another_103 rfl 5 rfl ?_
    refine g_callV [] C dX11_another_104 rfl (tX11_open (xl Γ) (xE Γ) u9) cf_X11_open rfl rfl ml_X11_291 rfl (by decide) (Nat.le_of_ble_eq_true rfl) rfl (fun u10 => ?_)
    refine g_aload_n C dX11_another_107 rfl 5 rfl ?_
    refine g_iload_n C dX11_another_108 rfl 6 rfl ?_
    refine g_iload_n C dX11_another_109 rfl 7 rfl ?_
    refine g_callV [.int v1, .int v2] C dX11_another_110 rfl (tX11_planOn (xl Γ) (xE Γ) v1 v2 u10) cf_X11_planOn rfl rfl ml_X11_294 rfl (by decide) (Nat.le_of_ble_eq_true rfl) rfl (fun u11 => ?_)
    refine g_iload C dX11_another_113 rfl 2 rfl ?_
    refine g_if_eq 129 C dX11_another_115 rfl (by decide) (fun c12 => ?_) (fun c12 => ?_)
    · refine g_sub (ls' := [(0, .ref ((xE Γ).1 74)), (5, .int v5_2), (7, .int v7_6), (8, .int v8_7)]) [5, 3, 1, 0] rfl ?_
      exact pX11_another_129 C M L v5_2 v7_6 v8_7 u11
    · refine g_aload_n C dX11_another_118 rfl 5 rfl ?_
      refine g_getI C dX11_another_119 rfl rfl fi_11_41 rfl fl_X11_279 ?_
      refine g_if_eq 129 C dX11_another_122 rfl (by decide) (fun c13 => ?_) (fun c13 => ?_)
      · refine g_sub (ls' := [(0, .ref ((xE Γ).1 74)), (5, .int v5_2), (7, .int v7_6), (8, .int v8_7)]) [5, 3, 1, 0] rfl ?_
        exact pX11_another_129 C M L v5_2 v7_6 v8_7 u11
      · refine g_iconst (v := 1) C dX11_another_125 rfl (by decide) ?_
        refine g_goto 130 C dX11_another_126 rfl (by decide) ?_
        refine g_sub (ls' := [(0, .ref ((xE Γ).1 74)), (5, .int v5_2), (7, .int v7_6), (8, .int v8_7)]) [5, 3, 1, 0] rfl ?_
        exact pX11_another_130 C M L v5_2 v7_6 v8_7 1 u11
  · refine g_aload_n C dX11_another_53 rfl 1 rfl ?_
    refine g_iload C dX11_another_54 rfl 0 rfl ?_
    refine g_callI [.int s0] C dX11_another_56 rfl (tX11_refuse (xl Γ) (xE Γ) s0 u) cf_X11_refuse rfl rfl ml_X11_153 rfl (by decide) (Nat.le_of_ble_eq_true rfl) rfl (fun r15 u14 => ?_)
    exact g_iret C M dX11_another_59 rfl rfl
set_option maxRecDepth 20000 in
set_option maxHeartbeats 4000000 in
theorem pX11_another_18 {Γ : GX} (C : Cx Γ RX11 cX11_another 5) (M : Mx Γ (some .int)) (L : xn Γ = 10) (v1 : Int32) (v2 : Int32) (v3 : Int32) (u : Mm) : Gp Γ (QM Γ cvI) 18 [(0, .ref ((xE Γ).1 74)), (1, .int v1), (2, .int v2), (3, .int v3)] [] u (gX11_another_18 v1 v2 v3 u) := by
  unfold gX11_another_18
  refine g_bipush (v := (-4)) C dX11_another_18 rfl (by decide) ?_
  refine g_goto 46 C dX11_another_20 rfl (by decide) ?_
  exact pX11_another_46 C M L v1 v2 v3 (-4) u
set_option maxRecDepth 20000 in
set_option maxHeartbeats 4000000 in
theorem pX11_another_40 {Γ : GX} (C : Cx Γ RX11 cX11_another 5) (M : Mx Γ (some .int)) (L : xn Γ = 10) (v1 : Int32) (v2 : Int32) (v3 : Int32) (u : Mm) : Gp Γ (QM Γ cvI) 40 [(0, .ref ((xE Γ).1 74)), (1, .int v1), (2, .int v2), (3, .int v3)] [] u (gX11_another_40 v1 v2 v3 u) := by
  unfold gX11_another_40
  refine g_bipush (v := (-6)) C dX11_another_40 rfl (by decide) ?_
  refine g_goto 46 C dX11_another_42 rfl (by decide) ?_
  exact pX11_another_46 C M L v1 v2 v3 (-6) u
set_option maxRecDepth 20000 in
set_option maxHeartbeats 4000000 in
theorem pX11_another_0 {Γ : GX} (C : Cx Γ RX11 cX11_another 5) (M : Mx Γ (some .int)) (L : xn Γ = 10) (v1 : Int32) (v2 : Int32) (v3 : Int32) (u : Mm) : Gp Γ (QM Γ cvI) 0 [(0, .ref ((xE Γ).1 74)), (1, .int v1), (2, .int v2), (3, .int v3)] [] u (gX11_another_b v1 v2 v3 u) := by
  unfold gX11_another_b
  refine g_aload_n C dX11_another_0 rfl 0 rfl ?_
  refine g_iconst (v := 0) C dX11_another_1 rfl (by decide) ?_
  refine g_putI C dX11_another_2 rfl rfl fp_11_19 rfl fl_X11_104 ?_
  refine g_letm (fun u1 => ?_)
  refine g_iload_n C dX11_another_5 rfl 1 rfl ?_
  refine g_if_lt 18 C dX11_another_6 rfl (by decide) (fun c2 => ?_) (fun c2 => ?_)
  · exact pX11_another_18 C M L v1 v2 v3 u1
  · refine g_iload_n C dX11_another_9 rfl 2 rfl ?_
    refine g_if_lt 18 C dX11_another_10 rfl (by decide) (fun c3 => ?_) (fun c3 => ?_)
    · exact pX11_another_18 C M L v1 v2 v3 u1
    · refine g_iload_n C dX11_another_13 rfl 3 rfl ?_
      refine g_iconst (v := 1) C dX11_another_14 rfl (by decide) ?_
      refine g_icmp_ge 23 C dX11_another_15 rfl (by decide) (fun c4 => ?_) (fun c4 => ?_)
      · refine g_iload_n C dX11_another_23 rfl 1 rfl ?_
        refine g_bipush (v := 30) C dX11_another_24 rfl (by decide) ?_
        refine g_icmp_gt 40 C dX11_another_26 rfl (by decide) (fun c5 => ?_) (fun c5 => ?_)
        · exact pX11_another_40 C M L v1 v2 v3 u1
        · refine g_iload_n C dX11_another_29 rfl 2 rfl ?_
          refine g_iconst (v := 5) C dX11_another_30 rfl (by decide) ?_
          refine g_icmp_gt 40 C dX11_another_31 rfl (by decide) (fun c6 => ?_) (fun c6 => ?_)
          · exact pX11_another_40 C M L v1 v2 v3 u1
          · refine g_iload_n C dX11_another_34 rfl 3 rfl ?_
            refine g_bipush (v := 6) C dX11_another_35 rfl (by decide) ?_
            refine g_icmp_le 45 C dX11_another_37 rfl (by decide) (fun c7 => ?_) (fun c7 => ?_)
            · refine g_iconst (v := 0) C dX11_another_45 rfl (by decide) ?_
              exact pX11_another_46 C M L v1 v2 v3 0 u1
            · exact pX11_another_40 C M L v1 v2 v3 u1
      · exact pX11_another_18 C M L v1 v2 v3 u1
set_option maxRecDepth 20000 in
set_option maxHeartbeats 4000000 in
theorem tX11_another (l : Launch) (E : EE) (v1 : Int32) (v2 : Int32) (v3 : Int32) (u : Mm) : Ct l E yX11_another cX11_another 10 (some .int) 5 [.ref (E.1 74), .int v1, .int v2, .int v3] u cvI (gX11_another v1 v2 v3 u) :=
  Ct_of (own := RX11) (by decide +kernel) rfl (Nat.le_of_ble_eq_true rfl) (fun p e R s m args below meth c C M => g_sub (ls' := [(0, .ref (E.1 74)), (1, .int v1), (2, .int v2), (3, .int v3)]) [0, 1, 2, 3] rfl (pX11_another_0 C M rfl v1 v2 v3 u))
set_option maxRecDepth 20000 in
set_option maxHeartbeats 4000000 in
theorem pX11_placeNear_36 {Γ : GX} (C : Cx Γ RX11 cX11_placeNear 1) (M : Mx Γ (some .int)) (L : xn Γ = 4) (u : Mm) (v1 : Int32) (v3 : Int32) (s0 : Int32) {j4 : Int32 → Int32 → Option Int32} (hj4 : ∀ (v2 : Int32) (v3 : Int32), Gp Γ (QM Γ (cvP u)) 4 [(1, .int v1), (2, .int v2), (3, .int v3)] [] u (j4 v2 v3)) : Gp Γ (QM Γ (cvP u)) 36 [(1, .int v1), (3, .int v3)] [.int s0] u (gX11_placeNear_36 j4 v1 v3 s0) := by
  unfold gX11_placeNear_36
  refine g_istore_n (ls' := [(2, .int s0), (1, .int v1), (3, .int v3)]) C dX11_placeNear_36 rfl L (by decide) rfl ?_
  refine g_iincL (fun v3_1 => [(3, .int v3_1), (2, .int s0), (1, .int v1)]) C dX11_placeNear_37 rfl L (by decide) (k := 2) rfl (iinc_1 _) (fun _ => rfl) (fun v3_1 => ?_)
  refine g_goto 4 C dX11_placeNear_40 rfl (by decide) ?_
  refine g_sub (ls' := [(1, .int v1), (2, .int s0), (3, .int v3_1)]) [2, 1, 0] rfl ?_
  exact hj4 s0 v3_1
set_option maxRecDepth 20000 in
set_option maxHeartbeats 4000000 in
theorem pX11_placeNear_4s {Γ : GX} (C : Cx Γ RX11 cX11_placeNear 1) (M : Mx Γ (some .int)) (L : xn Γ = 4) (u : Mm) (v1 : Int32) {j4 : Int32 → Int32 → Option Int32} (hj4 : ∀ (v2 : Int32) (v3 : Int32), Gp Γ (QM Γ (cvP u)) 4 [(1, .int v1), (2, .int v2), (3, .int v3)] [] u (j4 v2 v3)) (v2 : Int32) (v3 : Int32) : Gp Γ (QM Γ (cvP u)) 4 [(1, .int v1), (2, .int v2), (3, .int v3)] [] u (gX11_placeNear_4_Ls v1 j4 v2 v3) := by
  unfold gX11_placeNear_4_Ls
  refine g_iload_n C dX11_placeNear_4 rfl 2 rfl ?_
  refine g_bipush (v := 8) C dX11_placeNear_5 rfl (by decide) ?_
  refine g_icmp_ge 43 C dX11_placeNear_7 rfl (by decide) (fun c1 => ?_) (fun c1 => ?_)
  · refine g_iload_n C dX11_placeNear_43 rfl 1 rfl ?_
    exact g_iret C M dX11_placeNear_44 rfl rfl
  · refine g_bipush (v := 100) C dX11_placeNear_10 rfl (by decide) ?_
    refine g_iload_n C dX11_placeNear_12 rfl 2 rfl ?_
    refine g_imul C dX11_placeNear_13 rfl ?_
    refine g_iload_n C dX11_placeNear_14 rfl 0 rfl ?_
    refine g_isub C dX11_placeNear_15 rfl ?_
    refine g_callsP [.int ((100 * v3) - v1)] C dX11_placeNear_16 rfl (tX11_plainly (xl Γ) (xE Γ) ((100 * v3) - v1) u) cf_X11_plainly ml_X11_146 rfl (by decide) (Nat.le_of_ble_eq_true rfl) rfl (fun r2 => ?_)
    refine g_bipush (v := 100) C dX11_placeNear_19 rfl (by decide) ?_
    refine g_iload_n C dX11_placeNear_21 rfl 1 rfl ?_
    refine g_imul C dX11_placeNear_22 rfl ?_
    refine g_iload_n C dX11_placeNear_23 rfl 0 rfl ?_
    refine g_isub C dX11_placeNear_24 rfl ?_
    refine g_callsP [.int ((100 * v2) - v1)] C dX11_placeNear_25 rfl (tX11_plainly (xl Γ) (xE Γ) ((100 * v2) - v1) u) cf_X11_plainly ml_X11_146 rfl (by decide) (Nat.le_of_ble_eq_true rfl) rfl (fun r3 => ?_)
    refine g_icmp_ge 35 C dX11_placeNear_28 rfl (by decide) (fun c4 => ?_) (fun c4 => ?_)
    · refine g_iload_n C dX11_placeNear_35 rfl 1 rfl ?_
      refine g_sub (ls' := [(1, .int v1), (3, .int v3)]) [0, 2] rfl ?_
      exact pX11_placeNear_36 C M L u v1 v3 v2 hj4
    · refine g_iload_n C dX11_placeNear_31 rfl 2 rfl ?_
      refine g_goto 36 C dX11_placeNear_32 rfl (by decide) ?_
      refine g_sub (ls' := [(1, .int v1), (3, .int v3)]) [0, 2] rfl ?_
      exact pX11_placeNear_36 C M L u v1 v3 v3 hj4
set_option maxRecDepth 20000 in
set_option maxHeartbeats 4000000 in
theorem pX11_placeNear_4 {Γ : GX} (C : Cx Γ RX11 cX11_placeNear 1) (M : Mx Γ (some .int)) (L : xn Γ = 4) (u : Mm) (v1 : Int32) : ∀ (n : Nat) (v2 : Int32) (v3 : Int32), Gp Γ (QM Γ (cvP u)) 4 [(1, .int v1), (2, .int v2), (3, .int v3)] [] u (gX11_placeNear_4_L v1 n v2 v3) := by
  intro n
  induction n with
  | zero => intro _ _; exact g_none
  | succ n ih => intro v2 v3; exact pX11_placeNear_4s C M L u v1 ih v2 v3

set_option maxRecDepth 20000 in
set_option maxHeartbeats 4000000 in
theorem pX11_placeNear_0 {Γ : GX} (C : Cx Γ RX11 cX11_placeNear 1) (M : Mx Γ (some .int)) (L : xn Γ = 4) (u : Mm) (v1 : Int32) : Gp Γ (QM Γ (cvP u)) 0 [(1, .int v1)] [] u (gX11_placeNear_b v1) := by
  unfold gX11_placeNear_b
  refine g_iconst (v := 0) C dX11_placeNear_0 rfl (by decide) ?_
  refine g_istore_n (ls' := [(2, .int 0), (1, .int v1)]) C dX11_placeNear_1 rfl L (by decide) rfl ?_
  refine g_iconst (v := 1) C dX11_placeNear_2 rfl (by decide) ?_
  refine g_istore_n (ls' := [(3, .int 1), (2, .int 0), (1, .int v1)]) C dX11_placeNear_3 rfl L (by decide) rfl ?_
  refine g_sub (ls' := [(1, .int v1), (2, .int 0), (3, .int 1)]) [2, 1, 0] rfl ?_
  exact pX11_placeNear_4 C M L u v1 FU 0 1
set_option maxRecDepth 20000 in
set_option maxHeartbeats 4000000 in
theorem tX11_placeNear (l : Launch) (E : EE) (v1 : Int32) (u : Mm) : Ct l E yX11_placeNear cX11_placeNear 4 (some .int) 1 [.ref (E.1 74), .int v1] u (cvP u) (gX11_placeNear v1) :=
  Ct_of (own := RX11) (by decide +kernel) rfl (Nat.le_of_ble_eq_true rfl) (fun p e R s m args below meth c C M => g_sub (ls' := [(1, .int v1)]) [1] rfl (pX11_placeNear_0 C M rfl u v1))
set_option maxRecDepth 20000 in
set_option maxHeartbeats 4000000 in
theorem pX11_chase_40 {Γ : GX} (C : Cx Γ RX11 cX11_chase 5) (M : Mx Γ (some .int)) (L : xn Γ = 6) (v1 : Int32) (v2 : Int32) (v3 : Int32) (s0 : Int32) (u : Mm) : Gp Γ (QM Γ cvI) 40 [(0, .ref ((xE Γ).1 74)), (1, .int v1), (2, .int v2), (3, .int v3)] [.int s0] u (gX11_chase_40 v1 v2 v3 s0 u) := by
  unfold gX11_chase_40
  refine g_istore (ls' := [(4, .int s0), (0, .ref ((xE Γ).1 74)), (1, .int v1), (2, .int v2), (3, .int v3)]) C dX11_chase_40 rfl L (by decide) rfl ?_
  refine g_iload C dX11_chase_42 rfl 0 rfl ?_
  refine g_if_ge 54 C dX11_chase_44 rfl (by decide) (fun c1 => ?_) (fun c1 => ?_)
  · refine g_aload_n C dX11_chase_54 rfl 1 rfl ?_
    refine g_callV [] C dX11_chase_55 rfl (tX11_open (xl Γ) (xE Γ) u) cf_X11_open rfl rfl ml_X11_291 rfl (by decide) (Nat.le_of_ble_eq_true rfl) rfl (fun u2 => ?_)
    refine g_aload_n C dX11_chase_58 rfl 1 rfl ?_
    refine g_iload_n C dX11_chase_59 rfl 2 rfl ?_
    refine g_iload_n C dX11_chase_60 rfl 3 rfl ?_
    refine g_callV [.int v1, .int v2] C dX11_chase_61 rfl (tX11_planOn (xl Γ) (xE Γ) v1 v2 u2) cf_X11_planOn rfl rfl ml_X11_294 rfl (by decide) (Nat.le_of_ble_eq_true rfl) rfl (fun u3 => ?_)
    refine g_aload_n C dX11_chase_64 rfl 1 rfl ?_
    refine g_aload_n C dX11_chase_65 rfl 1 rfl ?_
    refine g_getI C dX11_chase_66 rfl rfl fi_11_3 rfl fl_X11_16 ?_
    refine g_callP [.int (u3 74 3)] C dX11_chase_69 rfl (tX11_placeNear (xl Γ) (xE Γ) (u3 74 3) u3) cf_X11_placeNear rfl rfl ml_X11_372 rfl (by decide) (Nat.le_of_ble_eq_true rfl) rfl (fun r4 => ?_)
    refine g_istore (ls' := [(5, .int r4), (4, .int s0), (0, .ref ((xE Γ).1 74)), (1, .int v1), (2, .int v2), (3, .int v3)]) C dX11_chase_72 rfl L (by decide) rfl ?_
    refine g_aload_n C dX11_chase_74 rfl 2 rfl ?_
    refine g_callV [] C dX11_chase_75 rfl (tX11_again (xl Γ) (xE Γ) u3) cf_X11_again rfl rfl ml_X11_270 rfl (by decide) (Nat.le_of_ble_eq_true rfl) rfl (fun u5 => ?_)
    refine g_aload_n C dX11_chase_78 rfl 2 rfl ?_
    refine g_aload_n C dX11_chase_79 rfl 2 rfl ?_
    refine g_getI C dX11_chase_80 rfl rfl fi_11_18 rfl fl_X11_243 ?_
    refine g_callV [.int (u5 74 18)] C dX11_chase_83 rfl (tX11_driveFrom (xl Γ) (xE Γ) (u5 74 18) u5) cf_X11_driveFrom rfl rfl ml_X11_338 rfl (by decide) (Nat.le_of_ble_eq_true rfl) rfl (fun u6 => ?_)
    refine g_aload_n C dX11_chase_86 rfl 2 rfl ?_
    refine g_getI C dX11_chase_87 rfl rfl fi_11_41 rfl fl_X11_279 ?_
    refine g_if_eq 106 C dX11_chase_90 rfl (by decide) (fun c7 => ?_) (fun c7 => ?_)
    · refine g_bipush (v := (-9)) C dX11_chase_106 rfl (by decide) ?_
      exact g_iret C M dX11_chase_108 rfl rfl
    · refine g_aload_n C dX11_chase_93 rfl 2 rfl ?_
      refine g_getR (k2 := 96) C dX11_chase_94 rfl rfl fi_11_53 ⟨by decide, by decide, rfl⟩ fl_X11_89 ?_
      refine g_iload C dX11_chase_97 rfl 0 rfl ?_
      refine g_gd (fun hi8 => ?_)
      refine g_iald C dX11_chase_99 rfl rfl rfl hi8 ?_
      refine g_ldc_w (v := 99999) C dX11_chase_100 rfl (wm_41 18 rfl) ?_
      refine g_icmp_ne 109 C dX11_chase_103 rfl (by decide) (fun c9 => ?_) (fun c9 => ?_)
      · refine g_iload_n C dX11_chase_109 rfl 5 rfl ?_
        refine g_if_ne 123 C dX11_chase_110 rfl (by decide) (fun c10 => ?_) (fun c10 => ?_)
        · refine g_aload_n C dX11_chase_123 rfl 2 rfl ?_
          refine g_getR (k2 := 96) C dX11_chase_124 rfl rfl fi_11_53 ⟨by decide, by decide, rfl⟩ fl_X11_89 ?_
          refine g_iload C dX11_chase_127 rfl 0 rfl ?_
          refine g_gd (fun hi11 => ?_)
          refine g_iald C dX11_chase_129 rfl rfl rfl hi11 ?_
          refine g_aload_n C dX11_chase_130 rfl 2 rfl ?_
          refine g_getI C dX11_chase_131 rfl rfl fi_11_43 rfl fl_X11_282 ?_
          refine g_bipush (v := 6) C dX11_chase_134 rfl (by decide) ?_
          refine g_idiv C dX11_chase_136 rfl (by decide) ?_
          refine g_icmp_gt 144 C dX11_chase_137 rfl (by decide) (fun c12 => ?_) (fun c12 => ?_)
          · refine g_iconst (v := 0) C dX11_chase_144 rfl (by decide) ?_
            exact g_iret C M dX11_chase_145 rfl rfl
          · refine g_iconst (v := 1) C dX11_chase_140 rfl (by decide) ?_
            refine g_goto 145 C dX11_chase_141 rfl (by decide) ?_
            exact g_iret C M dX11_chase_145 rfl rfl
        · refine g_aload_n C dX11_chase_113 rfl 2 rfl ?_
          refine g_getR (k2 := 96) C dX11_chase_114 rfl rfl fi_11_53 ⟨by decide, by decide, rfl⟩ fl_X11_89 ?_
          refine g_iload C dX11_chase_117 rfl 0 rfl ?_
          refine g_gd (fun hi13 => ?_)
          refine g_iald C dX11_chase_119 rfl rfl rfl hi13 ?_
          refine g_goto 145 C dX11_chase_120 rfl (by decide) ?_
          exact g_iret C M dX11_chase_145 rfl rfl
      · refine g_bipush (v := (-9)) C dX11_chase_106 rfl (by decide) ?_
        exact g_iret C M dX11_chase_108 rfl rfl
  · refine g_aload_n C dX11_chase_47 rfl 1 rfl ?_
    refine g_iload C dX11_chase_48 rfl 0 rfl ?_
    refine g_callI [.int s0] C dX11_chase_50 rfl (tX11_refuse (xl Γ) (xE Γ) s0 u) cf_X11_refuse rfl rfl ml_X11_153 rfl (by decide) (Nat.le_of_ble_eq_true rfl) rfl (fun r15 u14 => ?_)
    exact g_iret C M dX11_chase_53 rfl rfl
set_option maxRecDepth 20000 in
set_option maxHeartbeats 4000000 in
theorem pX11_chase_13 {Γ : GX} (C : Cx Γ RX11 cX11_chase 5) (M : Mx Γ (some .int)) (L : xn Γ = 6) (v1 : Int32) (v2 : Int32) (v3 : Int32) (u : Mm) : Gp Γ (QM Γ cvI) 13 [(0, .ref ((xE Γ).1 74)), (1, .int v1), (2, .int v2), (3, .int v3)] [] u (gX11_chase_13 v1 v2 v3 u) := by
  unfold gX11_chase_13
  refine g_bipush (v := (-4)) C dX11_chase_13 rfl (by decide) ?_
  refine g_goto 40 C dX11_chase_15 rfl (by decide) ?_
  exact pX11_chase_40 C M L v1 v2 v3 (-4) u
set_option maxRecDepth 20000 in
set_option maxHeartbeats 4000000 in
theorem pX11_chase_29 {Γ : GX} (C : Cx Γ RX11 cX11_chase 5) (M : Mx Γ (some .int)) (L : xn Γ = 6) (v1 : Int32) (v2 : Int32) (v3 : Int32) (u : Mm) : Gp Γ (QM Γ cvI) 29 [(0, .ref ((xE Γ).1 74)), (1, .int v1), (2, .int v2), (3, .int v3)] [] u (gX11_chase_29 v1 v2 v3 u) := by
  unfold gX11_chase_29
  refine g_bipush (v := (-6)) C dX11_chase_29 rfl (by decide) ?_
  refine g_goto 40 C dX11_chase_31 rfl (by decide) ?_
  exact pX11_chase_40 C M L v1 v2 v3 (-6) u
set_option maxRecDepth 20000 in
set_option maxHeartbeats 4000000 in
theorem pX11_chase_0 {Γ : GX} (C : Cx Γ RX11 cX11_chase 5) (M : Mx Γ (some .int)) (L : xn Γ = 6) (v1 : Int32) (v2 : Int32) (v3 : Int32) (u : Mm) : Gp Γ (QM Γ cvI) 0 [(0, .ref ((xE Γ).1 74)), (1, .int v1), (2, .int v2), (3, .int v3)] [] u (gX11_chase_b v1 v2 v3 u) := by
  unfold gX11_chase_b
  refine g_aload_n C dX11_chase_0 rfl 0 rfl ?_
  refine g_iconst (v := 0) C dX11_chase_1 rfl (by decide) ?_
  refine g_putI C dX11_chase_2 rfl rfl fp_11_19 rfl fl_X11_104 ?_
  refine g_letm (fun u1 => ?_)
  refine g_iload_n C dX11_chase_5 rfl 1 rfl ?_
  refine g_if_lt 13 C dX11_chase_6 rfl (by decide) (fun c2 => ?_) (fun c2 => ?_)
  · exact pX11_chase_13 C M L v1 v2 v3 u1
  · refine g_iload_n C dX11_chase_9 rfl 2 rfl ?_
    refine g_if_ge 18 C dX11_chase_10 rfl (by decide) (fun c3 => ?_) (fun c3 => ?_)
    · refine g_iload_n C dX11_chase_18 rfl 1 rfl ?_
      refine g_bipush (v := 30) C dX11_chase_19 rfl (by decide) ?_
      refine g_icmp_gt 29 C dX11_chase_21 rfl (by decide) (fun c4 => ?_) (fun c4 => ?_)
      · exact pX11_chase_29 C M L v1 v2 v3 u1
      · refine g_iload_n C dX11_chase_24 rfl 2 rfl ?_
        refine g_iconst (v := 5) C dX11_chase_25 rfl (by decide) ?_
        refine g_icmp_le 34 C dX11_chase_26 rfl (by decide) (fun c5 => ?_) (fun c5 => ?_)
        · refine g_iconst (v := 0) C dX11_chase_34 rfl (by decide) ?_
          refine g_iload_n C dX11_chase_35 rfl 3 rfl ?_
          refine g_iconst (v := 1) C dX11_chase_36 rfl (by decide) ?_
          refine g_callsP [.int 0, .int v3, .int 1] C dX11_chase_37 rfl (tX11_wrongBit (xl Γ) (xE Γ) 0 v3 1 u1) cf_X11_wrongBit ml_X11_288 rfl (by decide) (Nat.le_of_ble_eq_true rfl) rfl (fun r6 => ?_)
          exact pX11_chase_40 C M L v1 v2 v3 r6 u1
        · exact pX11_chase_29 C M L v1 v2 v3 u1
    · exact pX11_chase_13 C M L v1 v2 v3 u1
set_option maxRecDepth 20000 in
set_option maxHeartbeats 4000000 in
theorem tX11_chase (l : Launch) (E : EE) (v1 : Int32) (v2 : Int32) (v3 : Int32) (u : Mm) : Ct l E yX11_chase cX11_chase 6 (some .int) 5 [.ref (E.1 74), .int v1, .int v2, .int v3] u cvI (gX11_chase v1 v2 v3 u) :=
  Ct_of (own := RX11) (by decide +kernel) rfl (Nat.le_of_ble_eq_true rfl) (fun p e R s m args below meth c C M => g_sub (ls' := [(0, .ref (E.1 74)), (1, .int v1), (2, .int v2), (3, .int v3)]) [0, 1, 2, 3] rfl (pX11_chase_0 C M rfl v1 v2 v3 u))
set_option maxRecDepth 20000 in
set_option maxHeartbeats 4000000 in
theorem pX11_layBetween_15s {Γ : GX} (C : Cx Γ RX11 cX11_layBetween 1) (M : Mx Γ none) (L : xn Γ = 3) (v1 : Int32) {j2 : Int32 → Mm → Option Mm} (hj2 : ∀ (v1 : Int32) (u : Mm), Gp Γ (QM Γ cvV) 2 [(0, .ref ((xE Γ).1 74)), (1, .int v1)] [] u (j2 v1 u)) {j15 : Int32 → Mm → Option Mm} (hj15 : ∀ (v2 : Int32) (u : Mm), Gp Γ (QM Γ cvV) 15 [(0, .ref ((xE Γ).1 74)), (1, .int v1), (2, .int v2)] [] u (j15 v2 u)) (v2 : Int32) (u : Mm) : Gp Γ (QM Γ cvV) 15 [(0, .ref ((xE Γ).1 74)), (1, .int v1), (2, .int v2)] [] u (gX11_layBetween_15_Ls j2 v1 j15 v2 u) := by
  unfold gX11_layBetween_15_Ls
  refine g_iload_n C dX11_layBetween_15 rfl 2 rfl ?_
  refine g_bipush (v := 8) C dX11_layBetween_16 rfl (by decide) ?_
  refine g_icmp_ge 44 C dX11_layBetween_18 rfl (by decide) (fun c1 => ?_) (fun c1 => ?_)
  · refine g_iincL (fun v1_2 => [(1, .int v1_2), (0, .ref ((xE Γ).1 74)), (2, .int v2)]) C dX11_layBetween_44 rfl L (by decide) (k := 1) rfl (iinc_1 _) (fun _ => rfl) (fun v1_2 => ?_)
    refine g_goto 2 C dX11_layBetween_47 rfl (by decide) ?_
    refine g_sub (ls' := [(0, .ref ((xE Γ).1 74)), (1, .int v1_2)]) [1, 0] rfl ?_
    exact hj2 v1_2 u
  · refine g_aload_n C dX11_layBetween_21 rfl 0 rfl ?_
    refine g_getR (k2 := 98) C dX11_layBetween_22 rfl rfl fi_11_55 ⟨by decide, by decide, rfl⟩ fl_X11_95 ?_
    refine g_bipush (v := 8) C dX11_layBetween_25 rfl (by decide) ?_
    refine g_iload_n C dX11_layBetween_27 rfl 1 rfl ?_
    refine g_imul C dX11_layBetween_28 rfl ?_
    refine g_iload_n C dX11_layBetween_29 rfl 2 rfl ?_
    refine g_iadd C dX11_layBetween_30 rfl ?_
    refine g_aload_n C dX11_layBetween_31 rfl 0 rfl ?_
    refine g_getR (k2 := 96) C dX11_layBetween_32 rfl rfl fi_11_53 ⟨by decide, by decide, rfl⟩ fl_X11_89 ?_
    refine g_iload_n C dX11_layBetween_35 rfl 2 rfl ?_
    refine g_gd (fun hi3 => ?_)
    refine g_iald C dX11_layBetween_36 rfl rfl rfl hi3 ?_
    refine g_gd (fun hi5 => ?_)
    refine g_iast C dX11_layBetween_37 rfl rfl rfl hi5 ?_
    refine g_letm (fun u4 => ?_)
    refine g_iincL (fun v2_6 => [(2, .int v2_6), (0, .ref ((xE Γ).1 74)), (1, .int v1)]) C dX11_layBetween_38 rfl L (by decide) (k := 2) rfl (iinc_1 _) (fun _ => rfl) (fun v2_6 => ?_)
    refine g_goto 15 C dX11_layBetween_41 rfl (by decide) ?_
    refine g_sub (ls' := [(0, .ref ((xE Γ).1 74)), (1, .int v1), (2, .int v2_6)]) [1, 2, 0] rfl ?_
    exact hj15 v2_6 u4
set_option maxRecDepth 20000 in
set_option maxHeartbeats 4000000 in
theorem pX11_layBetween_15 {Γ : GX} (C : Cx Γ RX11 cX11_layBetween 1) (M : Mx Γ none) (L : xn Γ = 3) (v1 : Int32) {j2 : Int32 → Mm → Option Mm} (hj2 : ∀ (v1 : Int32) (u : Mm), Gp Γ (QM Γ cvV) 2 [(0, .ref ((xE Γ).1 74)), (1, .int v1)] [] u (j2 v1 u)) : ∀ (n : Nat) (v2 : Int32) (u : Mm), Gp Γ (QM Γ cvV) 15 [(0, .ref ((xE Γ).1 74)), (1, .int v1), (2, .int v2)] [] u (gX11_layBetween_15_L j2 v1 n v2 u) := by
  intro n
  induction n with
  | zero => intro _ _; exact g_none
  | succ n ih => intro v2 u; exact pX11_layBetween_15s C M L v1 hj2 ih v2 u

set_option maxRecDepth 20000 in
set_option maxHeartbeats 4000000 in
theorem pX11_layBetween_2s {Γ : GX} (C : Cx Γ RX11 cX11_layBetween 1) (M : Mx Γ none) (L : xn Γ = 3) {j2 : Int32 → Mm → Option Mm} (hj2 : ∀ (v1 : Int32) (u : Mm), Gp Γ (QM Γ cvV) 2 [(0, .ref ((xE Γ).1 74)), (1, .int v1)] [] u (j2 v1 u)) (v1 : Int32) (u : Mm) : Gp Γ (QM Γ cvV) 2 [(0, .ref ((xE Γ).1 74)), (1, .int v1)] [] u (gX11_layBetween_2_Ls j2 v1 u) := by
  unfold gX11_layBetween_2_Ls
  refine g_iload_n C dX11_layBetween_2 rfl 1 rfl ?_
  refine g_bipush (v := 8) C dX11_layBetween_3 rfl (by decide) ?_
  refine g_icmp_ge 50 C dX11_layBetween_5 rfl (by decide) (fun c1 => ?_) (fun c1 => ?_)
  · exact g_vret C M dX11_layBetween_50 rfl rfl
  · refine g_aload_n C dX11_layBetween_8 rfl 0 rfl ?_
    refine g_iload_n C dX11_layBetween_9 rfl 1 rfl ?_
    refine g_callV [.int v1] C dX11_layBetween_10 rfl (tX11_driveFrom (xl Γ) (xE Γ) v1 u) cf_X11_driveFrom rfl rfl ml_X11_338 rfl (by decide) (Nat.le_of_ble_eq_true rfl) rfl (fun u2 => ?_)
    refine g_iconst (v := 0) C dX11_layBetween_13 rfl (by decide) ?_
    refine g_istore_n (ls' := [(2, .int 0), (0, .ref ((xE Γ).1 74)), (1, .int v1)]) C dX11_layBetween_14 rfl L (by decide) rfl ?_
    refine g_sub (ls' := [(0, .ref ((xE Γ).1 74)), (1, .int v1), (2, .int 0)]) [1, 2, 0] rfl ?_
    exact pX11_layBetween_15 C M L v1 hj2 FU 0 u2
set_option maxRecDepth 20000 in
set_option maxHeartbeats 4000000 in
theorem pX11_layBetween_2 {Γ : GX} (C : Cx Γ RX11 cX11_layBetween 1) (M : Mx Γ none) (L : xn Γ = 3) : ∀ (n : Nat) (v1 : Int32) (u : Mm), Gp Γ (QM Γ cvV) 2 [(0, .ref ((xE Γ).1 74)), (1, .int v1)] [] u (gX11_layBetween_2_L n v1 u) := by
  intro n
  induction n with
  | zero => intro _ _; exact g_none
  | succ n ih => intro v1 u; exact pX11_layBetween_2s C M L ih v1 u

set_option maxRecDepth 20000 in
set_option maxHeartbeats 4000000 in
theorem pX11_layBetween_0 {Γ : GX} (C : Cx Γ RX11 cX11_layBetween 1) (M : Mx Γ none) (L : xn Γ = 3) (u : Mm) : Gp Γ (QM Γ cvV) 0 [(0, .ref ((xE Γ).1 74))] [] u (gX11_layBetween_b u) := by
  unfold gX11_layBetween_b
  refine g_iconst (v := 0) C dX11_layBetween_0 rfl (by decide) ?_
  refine g_istore_n (ls' := [(1, .int 0), (0, .ref ((xE Γ).1 74))]) C dX11_layBetween_1 rfl L (by decide) rfl ?_
  refine g_sub (ls' := [(0, .ref ((xE Γ).1 74)), (1, .int 0)]) [1, 0] rfl ?_
  exact pX11_layBetween_2 C M L FU 0 u
set_option maxRecDepth 20000 in
set_option maxHeartbeats 4000000 in
theorem tX11_layBetween (l : Launch) (E : EE) (u : Mm) : Ct l E yX11_layBetween cX11_layBetween 3 none 1 [.ref (E.1 74)] u cvV (gX11_layBetween u) :=
  Ct_of (own := RX11) (by decide +kernel) rfl (Nat.le_of_ble_eq_true rfl) (fun p e R s m args below meth c C M => g_sub (ls' := [(0, .ref (E.1 74))]) [0] rfl (pX11_layBetween_0 C M rfl u))
set_option maxRecDepth 20000 in
set_option maxHeartbeats 4000000 in
theorem pX11_layTours_131 {Γ : GX} (C : Cx Γ RX11 cX11_layTours 0) (M : Mx Γ none) (L : xn Γ = 7) (v1 : Int32) (v2 : Int32) (v4 : Int32) (s0 : Int32) {j2 : Int32 → Mm → Option Mm} (hj2 : ∀ (v1 : Int32) (u : Mm), Gp Γ (QM Γ cvV) 2 [(0, .ref ((xE Γ).1 74)), (1, .int v1)] [] u (j2 v1 u)) {j11 : Int32 → Mm → Option Mm} (hj11 : ∀ (v2 : Int32) (u : Mm), Gp Γ (QM Γ cvV) 11 [(0, .ref ((xE Γ).1 74)), (1, .int v1), (2, .int v2)] [] u (j11 v2 u)) {j32 : Int32 → Int32 → Mm → Option Mm} (hj32 : ∀ (v3 : Int32) (v4 : Int32) (u : Mm), Gp Γ (QM Γ cvV) 32 [(0, .ref ((xE Γ).1 74)), (1, .int v1), (2, .int v2), (3, .int v3), (4, .int v4)] [] u (j32 v3 v4 u)) (u : Mm) : Gp Γ (QM Γ cvV) 131 [(0, .ref ((xE Γ).1 74)), (1, .int v1), (2, .int v2), (4, .int v4)] [.int s0] u (gX11_layTours_131 j2 j11 j32 v1 v2 v4 s0 u) := by
  unfold gX11_layTours_131
  refine g_istore_n (ls' := [(3, .int s0), (0, .ref ((xE Γ).1 74)), (1, .int v1), (2, .int v2), (4, .int v4)]) C dX11_layTours_131 rfl L (by decide) rfl ?_
  refine g_iincL (fun v4_1 => [(4, .int v4_1), (3, .int s0), (0, .ref ((xE Γ).1 74)), (1, .int v1), (2, .int v2)]) C dX11_layTours_132 rfl L (by decide) (k := 4) rfl (iinc_1 _) (fun _ => rfl) (fun v4_1 => ?_)
  refine g_goto 32 C dX11_layTours_135 rfl (by decide) ?_
  refine g_sub (ls' := [(0, .ref ((xE Γ).1 74)), (1, .int v1), (2, .int v2), (3, .int s0), (4, .int v4_1)]) [2, 3, 4, 1, 0] rfl ?_
  exact hj32 s0 v4_1 u
set_option maxRecDepth 20000 in
set_option maxHeartbeats 4000000 in
theorem pX11_layTours_117 {Γ : GX} (C : Cx Γ RX11 cX11_layTours 0) (M : Mx Γ none) (L : xn Γ = 7) (v1 : Int32) (v2 : Int32) (v3 : Int32) (v4 : Int32) (s0 : Int32) {j2 : Int32 → Mm → Option Mm} (hj2 : ∀ (v1 : Int32) (u : Mm), Gp Γ (QM Γ cvV) 2 [(0, .ref ((xE Γ).1 74)), (1, .int v1)] [] u (j2 v1 u)) {j11 : Int32 → Mm → Option Mm} (hj11 : ∀ (v2 : Int32) (u : Mm), Gp Γ (QM Γ cvV) 11 [(0, .ref ((xE Γ).1 74)), (1, .int v1), (2, .int v2)] [] u (j11 v2 u)) {j32 : Int32 → Int32 → Mm → Option Mm} (hj32 : ∀ (v3 : Int32) (v4 : Int32) (u : Mm), Gp Γ (QM Γ cvV) 32 [(0, .ref ((xE Γ).1 74)), (1, .int v1), (2, .int v2), (3, .int v3), (4, .int v4)] [] u (j32 v3 v4 u)) (u : Mm) : Gp Γ (QM Γ cvV) 117 [(0, .ref ((xE Γ).1 74)), (1, .int v1), (2, .int v2), (3, .int v3), (4, .int v4)] [.int s0] u (gX11_layTours_117 j2 j11 j32 v1 v2 v3 v4 s0 u) := by
  unfold gX11_layTours_117
  refine g_istore (ls' := [(6, .int s0), (0, .ref ((xE Γ).1 74)), (1, .int v1), (2, .int v2), (3, .int v3), (4, .int v4)]) C dX11_layTours_117 rfl L (by decide) rfl ?_
  refine g_iload C dX11_layTours_119 rfl 0 rfl ?_
  refine g_iload_n C dX11_layTours_121 rfl 4 rfl ?_
  refine g_icmp_ge 130 C dX11_layTours_122 rfl (by decide) (fun c1 => ?_) (fun c1 => ?_)
  · refine g_iload_n C dX11_layTours_130 rfl 4 rfl ?_
    refine g_sub (ls' := [(0, .ref ((xE Γ).1 74)), (1, .int v1), (2, .int v2), (4, .int v4)]) [1, 2, 3, 5] rfl ?_
    exact pX11_layTours_131 C M L v1 v2 v4 v3 hj2 hj11 hj32 u
  · refine g_iload C dX11_layTours_125 rfl 0 rfl ?_
    refine g_goto 131 C dX11_layTours_127 rfl (by decide) ?_
    refine g_sub (ls' := [(0, .ref ((xE Γ).1 74)), (1, .int v1), (2, .int v2), (4, .int v4)]) [1, 2, 3, 5] rfl ?_
    exact pX11_layTours_131 C M L v1 v2 v4 s0 hj2 hj11 hj32 u
set_option maxRecDepth 20000 in
set_option maxHeartbeats 4000000 in
theorem pX11_layTours_72 {Γ : GX} (C : Cx Γ RX11 cX11_layTours 0) (M : Mx Γ none) (L : xn Γ = 7) (v1 : Int32) (v2 : Int32) (v3 : Int32) (v4 : Int32) (s0 : Int32) {j2 : Int32 → Mm → Option Mm} (hj2 : ∀ (v1 : Int32) (u : Mm), Gp Γ (QM Γ cvV) 2 [(0, .ref ((xE Γ).1 74)), (1, .int v1)] [] u (j2 v1 u)) {j11 : Int32 → Mm → Option Mm} (hj11 : ∀ (v2 : Int32) (u : Mm), Gp Γ (QM Γ cvV) 11 [(0, .ref ((xE Γ).1 74)), (1, .int v1), (2, .int v2)] [] u (j11 v2 u)) {j32 : Int32 → Int32 → Mm → Option Mm} (hj32 : ∀ (v3 : Int32) (v4 : Int32) (u : Mm), Gp Γ (QM Γ cvV) 32 [(0, .ref ((xE Γ).1 74)), (1, .int v1), (2, .int v2), (3, .int v3), (4, .int v4)] [] u (j32 v3 v4 u)) (u : Mm) : Gp Γ (QM Γ cvV) 72 [(0, .ref ((xE Γ).1 74)), (1, .int v1), (2, .int v2), (3, .int v3), (4, .int v4)] [.int s0] u (gX11_layTours_72 j2 j11 j32 v1 v2 v3 v4 s0 u) := by
  unfold gX11_layTours_72
  refine g_istore (ls' := [(5, .int s0), (0, .ref ((xE Γ).1 74)), (1, .int v1), (2, .int v2), (3, .int v3), (4, .int v4)]) C dX11_layTours_72 rfl L (by decide) rfl ?_
  refine g_iload C dX11_layTours_74 rfl 0 rfl ?_
  refine g_if_eq 114 C dX11_layTours_76 rfl (by decide) (fun c1 => ?_) (fun c1 => ?_)
  · refine g_ldc_w (v := 99999) C dX11_layTours_114 rfl (wm_41 18 rfl) ?_
    refine g_sub (ls' := [(0, .ref ((xE Γ).1 74)), (1, .int v1), (2, .int v2), (3, .int v3), (4, .int v4)]) [1, 2, 3, 4, 5] rfl ?_
    exact pX11_layTours_117 C M L v1 v2 v3 v4 99999 hj2 hj11 hj32 u
  · refine g_aload_n C dX11_layTours_79 rfl 1 rfl ?_
    refine g_getR (k2 := 98) C dX11_layTours_80 rfl rfl fi_11_55 ⟨by decide, by decide, rfl⟩ fl_X11_95 ?_
    refine g_bipush (v := 8) C dX11_layTours_83 rfl (by decide) ?_
    refine g_iload_n C dX11_layTours_85 rfl 3 rfl ?_
    refine g_imul C dX11_layTours_86 rfl ?_
    refine g_iload C dX11_layTours_87 rfl 5 rfl ?_
    refine g_iadd C dX11_layTours_89 rfl ?_
    refine g_gd (fun hi2 => ?_)
    refine g_iald C dX11_layTours_90 rfl rfl rfl hi2 ?_
    refine g_aload_n C dX11_layTours_91 rfl 1 rfl ?_
    refine g_getR (k2 := 99) C dX11_layTours_92 rfl rfl fi_11_56 ⟨by decide, by decide, rfl⟩ fl_X11_98 ?_
    refine g_bipush (v := 8) C dX11_layTours_95 rfl (by decide) ?_
    refine g_iload_n C dX11_layTours_97 rfl 2 rfl ?_
    refine g_iconst (v := 1) C dX11_layTours_98 rfl (by decide) ?_
    refine g_iload C dX11_layTours_99 rfl 5 rfl ?_
    refine g_ishl C dX11_layTours_101 rfl ?_
    refine g_iconst (v := (-1)) C dX11_layTours_102 rfl (by decide) ?_
    refine g_ixor C dX11_layTours_103 rfl ?_
    refine g_iand C dX11_layTours_104 rfl ?_
    refine g_imul C dX11_layTours_105 rfl ?_
    refine g_iload C dX11_layTours_106 rfl 5 rfl ?_
    refine g_iadd C dX11_layTours_108 rfl ?_
    refine g_gd (fun hi3 => ?_)
    refine g_iald C dX11_layTours_109 rfl rfl rfl hi3 ?_
    refine g_iadd C dX11_layTours_110 rfl ?_
    refine g_goto 117 C dX11_layTours_111 rfl (by decide) ?_
    refine g_sub (ls' := [(0, .ref ((xE Γ).1 74)), (1, .int v1), (2, .int v2), (3, .int v3), (4, .int v4)]) [1, 2, 3, 4, 5] rfl ?_
    exact pX11_layTours_117 C M L v1 v2 v3 v4 ((u 98 (ixn ((8 * v2) + v4))) + (u 99 (ixn ((8 * (v1 &&& ((shl 1 v4) ^^^ (-1)))) + v4)))) hj2 hj11 hj32 u
set_option maxRecDepth 20000 in
set_option maxHeartbeats 4000000 in
theorem pX11_layTours_71 {Γ : GX} (C : Cx Γ RX11 cX11_layTours 0) (M : Mx Γ none) (L : xn Γ = 7) (v1 : Int32) (v2 : Int32) (v3 : Int32) (v4 : Int32) {j2 : Int32 → Mm → Option Mm} (hj2 : ∀ (v1 : Int32) (u : Mm), Gp Γ (QM Γ cvV) 2 [(0, .ref ((xE Γ).1 74)), (1, .int v1)] [] u (j2 v1 u)) {j11 : Int32 → Mm → Option Mm} (hj11 : ∀ (v2 : Int32) (u : Mm), Gp Γ (QM Γ cvV) 11 [(0, .ref ((xE Γ).1 74)), (1, .int v1), (2, .int v2)] [] u (j11 v2 u)) {j32 : Int32 → Int32 → Mm → Option Mm} (hj32 : ∀ (v3 : Int32) (v4 : Int32) (u : Mm), Gp Γ (QM Γ cvV) 32 [(0, .ref ((xE Γ).1 74)), (1, .int v1), (2, .int v2), (3, .int v3), (4, .int v4)] [] u (j32 v3 v4 u)) (u : Mm) : Gp Γ (QM Γ cvV) 71 [(0, .ref ((xE Γ).1 74)), (1, .int v1), (2, .int v2), (3, .int v3), (4, .int v4)] [] u (gX11_layTours_71 j2 j11 j32 v1 v2 v3 v4 u) := by
  unfold gX11_layTours_71
  refine g_iconst (v := 0) C dX11_layTours_71 rfl (by decide) ?_
  exact pX11_layTours_72 C M L v1 v2 v3 v4 0 hj2 hj11 hj32 u
set_option maxRecDepth 20000 in
set_option maxHeartbeats 4000000 in
theorem pX11_layTours_32s {Γ : GX} (C : Cx Γ RX11 cX11_layTours 0) (M : Mx Γ none) (L : xn Γ = 7) (v1 : Int32) (v2 : Int32) {j2 : Int32 → Mm → Option Mm} (hj2 : ∀ (v1 : Int32) (u : Mm), Gp Γ (QM Γ cvV) 2 [(0, .ref ((xE Γ).1 74)), (1, .int v1)] [] u (j2 v1 u)) {j11 : Int32 → Mm → Option Mm} (hj11 : ∀ (v2 : Int32) (u : Mm), Gp Γ (QM Γ cvV) 11 [(0, .ref ((xE Γ).1 74)), (1, .int v1), (2, .int v2)] [] u (j11 v2 u)) {j32 : Int32 → Int32 → Mm → Option Mm} (hj32 : ∀ (v3 : Int32) (v4 : Int32) (u : Mm), Gp Γ (QM Γ cvV) 32 [(0, .ref ((xE Γ).1 74)), (1, .int v1), (2, .int v2), (3, .int v3), (4, .int v4)] [] u (j32 v3 v4 u)) (v3 : Int32) (v4 : Int32) (u : Mm) : Gp Γ (QM Γ cvV) 32 [(0, .ref ((xE Γ).1 74)), (1, .int v1), (2, .int v2), (3, .int v3), (4, .int v4)] [] u (gX11_layTours_32_Ls j2 j11 v1 v2 j32 v3 v4 u) := by
  unfold gX11_layTours_32_Ls
  refine g_iload C dX11_layTours_32 rfl 4 rfl ?_
  refine g_bipush (v := 8) C dX11_layTours_34 rfl (by decide) ?_
  refine g_icmp_ge 138 C dX11_layTours_36 rfl (by decide) (fun c1 => ?_) (fun c1 => ?_)
  · refine g_aload_n C dX11_layTours_138 rfl 0 rfl ?_
    refine g_getR (k2 := 99) C dX11_layTours_139 rfl rfl fi_11_56 ⟨by decide, by decide, rfl⟩ fl_X11_98 ?_
    refine g_bipush (v := 8) C dX11_layTours_142 rfl (by decide) ?_
    refine g_iload_n C dX11_layTours_144 rfl 1 rfl ?_
    refine g_imul C dX11_layTours_145 rfl ?_
    refine g_iload_n C dX11_layTours_146 rfl 2 rfl ?_
    refine g_iadd C dX11_layTours_147 rfl ?_
    refine g_iload_n C dX11_layTours_148 rfl 3 rfl ?_
    refine g_gd (fun hi3 => ?_)
    refine g_iast C dX11_layTours_149 rfl rfl rfl hi3 ?_
    refine g_letm (fun u2 => ?_)
    refine g_iincL (fun v2_4 => [(2, .int v2_4), (0, .ref ((xE Γ).1 74)), (1, .int v1), (3, .int v3), (4, .int v4)]) C dX11_layTours_150 rfl L (by decide) (k := 2) rfl (iinc_1 _) (fun _ => rfl) (fun v2_4 => ?_)
    refine g_goto 11 C dX11_layTours_153 rfl (by decide) ?_
    refine g_sub (ls' := [(0, .ref ((xE Γ).1 74)), (1, .int v1), (2, .int v2_4)]) [1, 2, 0] rfl ?_
    exact hj11 v2_4 u2
  · refine g_iload_n C dX11_layTours_39 rfl 1 rfl ?_
    refine g_iload C dX11_layTours_40 rfl 4 rfl ?_
    refine g_ishr C dX11_layTours_42 rfl ?_
    refine g_iconst (v := 1) C dX11_layTours_43 rfl (by decide) ?_
    refine g_iand C dX11_layTours_44 rfl ?_
    refine g_iconst (v := 1) C dX11_layTours_45 rfl (by decide) ?_
    refine g_icmp_ne 71 C dX11_layTours_46 rfl (by decide) (fun c5 => ?_) (fun c5 => ?_)
    · exact pX11_layTours_71 C M L v1 v2 v3 v4 hj2 hj11 hj32 u
    · refine g_aload_n C dX11_layTours_49 rfl 0 rfl ?_
      refine g_getR (k2 := 98) C dX11_layTours_50 rfl rfl fi_11_55 ⟨by decide, by decide, rfl⟩ fl_X11_95 ?_
      refine g_bipush (v := 8) C dX11_layTours_53 rfl (by decide) ?_
      refine g_iload_n C dX11_layTours_55 rfl 2 rfl ?_
      refine g_imul C dX11_layTours_56 rfl ?_
      refine g_iload C dX11_layTours_57 rfl 4 rfl ?_
      refine g_iadd C dX11_layTours_59 rfl ?_
      refine g_gd (fun hi6 => ?_)
      refine g_iald C dX11_layTours_60 rfl rfl rfl hi6 ?_
      refine g_ldc_w (v := 99999) C dX11_layTours_61 rfl (wm_41 18 rfl) ?_
      refine g_icmp_ge 71 C dX11_layTours_64 rfl (by decide) (fun c7 => ?_) (fun c7 => ?_)
      · exact pX11_layTours_71 C M L v1 v2 v3 v4 hj2 hj11 hj32 u
      · refine g_iconst (v := 1) C dX11_layTours_67 rfl (by decide) ?_
        refine g_goto 72 C dX11_layTours_68 rfl (by decide) ?_
        exact pX11_layTours_72 C M L v1 v2 v3 v4 1 hj2 hj11 hj32 u
set_option maxRecDepth 20000 in
set_option maxHeartbeats 4000000 in
theorem pX11_layTours_32 {Γ : GX} (C : Cx Γ RX11 cX11_layTours 0) (M : Mx Γ none) (L : xn Γ = 7) (v1 : Int32) (v2 : Int32) {j2 : Int32 → Mm → Option Mm} (hj2 : ∀ (v1 : Int32) (u : Mm), Gp Γ (QM Γ cvV) 2 [(0, .ref ((xE Γ).1 74)), (1, .int v1)] [] u (j2 v1 u)) {j11 : Int32 → Mm → Option Mm} (hj11 : ∀ (v2 : Int32) (u : Mm), Gp Γ (QM Γ cvV) 11 [(0, .ref ((xE Γ).1 74)), (1, .int v1), (2, .int v2)] [] u (j11 v2 u)) : ∀ (n : Nat) (v3 : Int32) (v4 : Int32) (u : Mm), Gp Γ (QM Γ cvV) 32 [(0, .ref ((xE Γ).1 74)), (1, .int v1), (2, .int v2), (3, .int v3), (4, .int v4)] [] u (gX11_layTours_32_L j2 j11 v1 v2 n v3 v4 u) := by
  intro n
  induction n with
  | zero => intro _ _ _; exact g_none
  | succ n ih => intro v3 v4 u; exact pX11_layTours_32s C M L v1 v2 hj2 hj11 ih v3 v4 u

set_option maxRecDepth 20000 in
set_option maxHeartbeats 4000000 in
theorem pX11_layTours_28 {Γ : GX} (C : Cx Γ RX11 cX11_layTours 0) (M : Mx Γ none) (L : xn Γ = 7) (v1 : Int32) (v2 : Int32) (s0 : Int32) {j2 : Int32 → Mm → Option Mm} (hj2 : ∀ (v1 : Int32) (u : Mm), Gp Γ (QM Γ cvV) 2 [(0, .ref ((xE Γ).1 74)), (1, .int v1)] [] u (j2 v1 u)) {j11 : Int32 → Mm → Option Mm} (hj11 : ∀ (v2 : Int32) (u : Mm), Gp Γ (QM Γ cvV) 11 [(0, .ref ((xE Γ).1 74)), (1, .int v1), (2, .int v2)] [] u (j11 v2 u)) (u : Mm) : Gp Γ (QM Γ cvV) 28 [(0, .ref ((xE Γ).1 74)), (1, .int v1), (2, .int v2)] [.int s0] u (gX11_layTours_28 j2 j11 v1 v2 s0 u) := by
  unfold gX11_layTours_28
  refine g_istore_n (ls' := [(3, .int s0), (0, .ref ((xE Γ).1 74)), (1, .int v1), (2, .int v2)]) C dX11_layTours_28 rfl L (by decide) rfl ?_
  refine g_iconst (v := 0) C dX11_layTours_29 rfl (by decide) ?_
  refine g_istore (ls' := [(4, .int 0), (3, .int s0), (0, .ref ((xE Γ).1 74)), (1, .int v1), (2, .int v2)]) C dX11_layTours_30 rfl L (by decide) rfl ?_
  refine g_sub (ls' := [(0, .ref ((xE Γ).1 74)), (1, .int v1), (2, .int v2), (3, .int s0), (4, .int 0)]) [2, 3, 4, 1, 0] rfl ?_
  exact pX11_layTours_32 C M L v1 v2 hj2 hj11 FU s0 0 u
set_option maxRecDepth 20000 in
set_option maxHeartbeats 4000000 in
theorem pX11_layTours_11s {Γ : GX} (C : Cx Γ RX11 cX11_layTours 0) (M : Mx Γ none) (L : xn Γ = 7) (v1 : Int32) {j2 : Int32 → Mm → Option Mm} (hj2 : ∀ (v1 : Int32) (u : Mm), Gp Γ (QM Γ cvV) 2 [(0, .ref ((xE Γ).1 74)), (1, .int v1)] [] u (j2 v1 u)) {j11 : Int32 → Mm → Option Mm} (hj11 : ∀ (v2 : Int32) (u : Mm), Gp Γ (QM Γ cvV) 11 [(0, .ref ((xE Γ).1 74)), (1, .int v1), (2, .int v2)] [] u (j11 v2 u)) (v2 : Int32) (u : Mm) : Gp Γ (QM Γ cvV) 11 [(0, .ref ((xE Γ).1 74)), (1, .int v1), (2, .int v2)] [] u (gX11_layTours_11_Ls j2 v1 j11 v2 u) := by
  unfold gX11_layTours_11_Ls
  refine g_iload_n C dX11_layTours_11 rfl 2 rfl ?_
  refine g_bipush (v := 8) C dX11_layTours_12 rfl (by decide) ?_
  refine g_icmp_ge 156 C dX11_layTours_14 rfl (by decide) (fun c1 => ?_) (fun c1 => ?_)
  · refine g_iincL (fun v1_2 => [(1, .int v1_2), (0, .ref ((xE Γ).1 74)), (2, .int v2)]) C dX11_layTours_156 rfl L (by decide) (k := 1) rfl (iinc_1 _) (fun _ => rfl) (fun v1_2 => ?_)
    refine g_goto 2 C dX11_layTours_159 rfl (by decide) ?_
    refine g_sub (ls' := [(0, .ref ((xE Γ).1 74)), (1, .int v1_2)]) [1, 0] rfl ?_
    exact hj2 v1_2 u
  · refine g_iload_n C dX11_layTours_17 rfl 1 rfl ?_
    refine g_if_ne 25 C dX11_layTours_18 rfl (by decide) (fun c3 => ?_) (fun c3 => ?_)
    · refine g_ldc_w (v := 99999) C dX11_layTours_25 rfl (wm_41 18 rfl) ?_
      exact pX11_layTours_28 C M L v1 v2 99999 hj2 hj11 u
    · refine g_iconst (v := 0) C dX11_layTours_21 rfl (by decide) ?_
      refine g_goto 28 C dX11_layTours_22 rfl (by decide) ?_
      exact pX11_layTours_28 C M L v1 v2 0 hj2 hj11 u
set_option maxRecDepth 20000 in
set_option maxHeartbeats 4000000 in
theorem pX11_layTours_11 {Γ : GX} (C : Cx Γ RX11 cX11_layTours 0) (M : Mx Γ none) (L : xn Γ = 7) (v1 : Int32) {j2 : Int32 → Mm → Option Mm} (hj2 : ∀ (v1 : Int32) (u : Mm), Gp Γ (QM Γ cvV) 2 [(0, .ref ((xE Γ).1 74)), (1, .int v1)] [] u (j2 v1 u)) : ∀ (n : Nat) (v2 : Int32) (u : Mm), Gp Γ (QM Γ cvV) 11 [(0, .ref ((xE Γ).1 74)), (1, .int v1), (2, .int v2)] [] u (gX11_layTours_11_L j2 v1 n v2 u) := by
  intro n
  induction n with
  | zero => intro _ _; exact g_none
  | succ n ih => intro v2 u; exact pX11_layTours_11s C M L v1 hj2 ih v2 u

set_option maxRecDepth 20000 in
set_option maxHeartbeats 4000000 in
theorem pX11_layTours_2s {Γ : GX} (C : Cx Γ RX11 cX11_layTours 0) (M : Mx Γ none) (L : xn Γ = 7) {j2 : Int32 → Mm → Option Mm} (hj2 : ∀ (v1 : Int32) (u : Mm), Gp Γ (QM Γ cvV) 2 [(0, .ref ((xE Γ).1 74)), (1, .int v1)] [] u (j2 v1 u)) (v1 : Int32) (u : Mm) : Gp Γ (QM Γ cvV) 2 [(0, .ref ((xE Γ).1 74)), (1, .int v1)] [] u (gX11_layTours_2_Ls j2 v1 u) := by
  unfold gX11_layTours_2_Ls
  refine g_iload_n C dX11_layTours_2 rfl 1 rfl ?_
  refine g_sipush (v := 256) C dX11_layTours_3 rfl (by decide) ?_
  refine g_icmp_ge 162 C dX11_layTours_6 rfl (by decide) (fun c1 => ?_) (fun c1 => ?_)
  · exact g_vret C M dX11_layTours_162 rfl rfl
  · refine g_iconst (v := 0) C dX11_layTours_9 rfl (by decide) ?_
    refine g_istore_n (ls' := [(2, .int 0), (0, .ref ((xE Γ).1 74)), (1, .int v1)]) C dX11_layTours_10 rfl L (by decide) rfl ?_
    refine g_sub (ls' := [(0, .ref ((xE Γ).1 74)), (1, .int v1), (2, .int 0)]) [1, 2, 0] rfl ?_
    exact pX11_layTours_11 C M L v1 hj2 FU 0 u
set_option maxRecDepth 20000 in
set_option maxHeartbeats 4000000 in
theorem pX11_layTours_2 {Γ : GX} (C : Cx Γ RX11 cX11_layTours 0) (M : Mx Γ none) (L : xn Γ = 7) : ∀ (n : Nat) (v1 : Int32) (u : Mm), Gp Γ (QM Γ cvV) 2 [(0, .ref ((xE Γ).1 74)), (1, .int v1)] [] u (gX11_layTours_2_L n v1 u) := by
  intro n
  induction n with
  | zero => intro _ _; exact g_none
  | succ n ih => intro v1 u; exact pX11_layTours_2s C M L ih v1 u

set_option maxRecDepth 20000 in
set_option maxHeartbeats 4000000 in
theorem pX11_layTours_0 {Γ : GX} (C : Cx Γ RX11 cX11_layTours 0) (M : Mx Γ none) (L : xn Γ = 7) (u : Mm) : Gp Γ (QM Γ cvV) 0 [(0, .ref ((xE Γ).1 74))] [] u (gX11_layTours_b u) := by
  unfold gX11_layTours_b
  refine g_iconst (v := 0) C dX11_layTours_0 rfl (by decide) ?_
  refine g_istore_n (ls' := [(1, .int 0), (0, .ref ((xE Γ).1 74))]) C dX11_layTours_1 rfl L (by decide) rfl ?_
  refine g_sub (ls' := [(0, .ref ((xE Γ).1 74)), (1, .int 0)]) [1, 0] rfl ?_
  exact pX11_layTours_2 C M L FU 0 u
set_option maxRecDepth 20000 in
set_option maxHeartbeats 4000000 in
theorem tX11_layTours (l : Launch) (E : EE) (u : Mm) : Ct l E yX11_layTours cX11_layTours 7 none 0 [.ref (E.1 74)] u cvV (gX11_layTours u) :=
  Ct_of (own := RX11) (by decide +kernel) rfl (Nat.le_of_ble_eq_true rfl) (fun p e R s m args below meth c C M => g_sub (ls' := [(0, .ref (E.1 74))]) [0] rfl (pX11_layTours_0 C M rfl u))
set_option maxRecDepth 20000 in
set_option maxHeartbeats 4000000 in
theorem pX11_tour_141 {Γ : GX} (C : Cx Γ RX11 cX11_tour 2) (M : Mx Γ (some .int)) (L : xn Γ = 8) (v4 : Int32) (v5 : Int32) (v6 : Int32) (s0 : Int32) {j89 : Int32 → Mm → Option (Int32 × Mm)} (hj89 : ∀ (v6 : Int32) (u : Mm), Gp Γ (QM Γ cvI) 89 [(0, .ref ((xE Γ).1 74)), (4, .int v4), (5, .int v5), (6, .int v6)] [] u (j89 v6 u)) (u : Mm) : Gp Γ (QM Γ cvI) 141 [(0, .ref ((xE Γ).1 74)), (4, .int v4), (5, .int v5), (6, .int v6)] [.int s0] u (gX11_tour_141 j89 v4 v5 v6 s0 u) := by
  unfold gX11_tour_141
  refine g_istore (ls' := [(7, .int s0), (0, .ref ((xE Γ).1 74)), (4, .int v4), (5, .int v5), (6, .int v6)]) C dX11_tour_141 rfl L (by decide) rfl ?_
  refine g_iload C dX11_tour_143 rfl 0 rfl ?_
  refine g_if_eq 192 C dX11_tour_145 rfl (by decide) (fun c1 => ?_) (fun c1 => ?_)
  · refine g_iincL (fun v6_2 => [(6, .int v6_2), (7, .int s0), (0, .ref ((xE Γ).1 74)), (4, .int v4), (5, .int v5)]) C dX11_tour_192 rfl L (by decide) (k := 4) rfl (iinc_1 _) (fun _ => rfl) (fun v6_2 => ?_)
    refine g_goto 89 C dX11_tour_195 rfl (by decide) ?_
    refine g_sub (ls' := [(0, .ref ((xE Γ).1 74)), (4, .int v4), (5, .int v5), (6, .int v6_2)]) [2, 3, 4, 0] rfl ?_
    exact hj89 v6_2 u
  · refine g_aload_n C dX11_tour_148 rfl 1 rfl ?_
    refine g_getR (k2 := 98) C dX11_tour_149 rfl rfl fi_11_55 ⟨by decide, by decide, rfl⟩ fl_X11_95 ?_
    refine g_bipush (v := 8) C dX11_tour_152 rfl (by decide) ?_
    refine g_aload_n C dX11_tour_154 rfl 1 rfl ?_
    refine g_getI C dX11_tour_155 rfl rfl fi_11_18 rfl fl_X11_243 ?_
    refine g_imul C dX11_tour_158 rfl ?_
    refine g_iload C dX11_tour_159 rfl 4 rfl ?_
    refine g_iadd C dX11_tour_161 rfl ?_
    refine g_gd (fun hi3 => ?_)
    refine g_iald C dX11_tour_162 rfl rfl rfl hi3 ?_
    refine g_aload_n C dX11_tour_163 rfl 1 rfl ?_
    refine g_getR (k2 := 99) C dX11_tour_164 rfl rfl fi_11_56 ⟨by decide, by decide, rfl⟩ fl_X11_98 ?_
    refine g_bipush (v := 8) C dX11_tour_167 rfl (by decide) ?_
    refine g_iload C dX11_tour_169 rfl 2 rfl ?_
    refine g_iconst (v := 1) C dX11_tour_171 rfl (by decide) ?_
    refine g_iload C dX11_tour_172 rfl 4 rfl ?_
    refine g_ishl C dX11_tour_174 rfl ?_
    refine g_iconst (v := (-1)) C dX11_tour_175 rfl (by decide) ?_
    refine g_ixor C dX11_tour_176 rfl ?_
    refine g_iand C dX11_tour_177 rfl ?_
    refine g_imul C dX11_tour_178 rfl ?_
    refine g_iload C dX11_tour_179 rfl 4 rfl ?_
    refine g_iadd C dX11_tour_181 rfl ?_
    refine g_gd (fun hi4 => ?_)
    refine g_iald C dX11_tour_182 rfl rfl rfl hi4 ?_
    refine g_iadd C dX11_tour_183 rfl ?_
    refine g_iload C dX11_tour_184 rfl 3 rfl ?_
    refine g_icmp_ne 192 C dX11_tour_186 rfl (by decide) (fun c5 => ?_) (fun c5 => ?_)
    · refine g_iincL (fun v6_6 => [(6, .int v6_6), (7, .int s0), (0, .ref ((xE Γ).1 74)), (4, .int v4), (5, .int v5)]) C dX11_tour_192 rfl L (by decide) (k := 4) rfl (iinc_1 _) (fun _ => rfl) (fun v6_6 => ?_)
      refine g_goto 89 C dX11_tour_195 rfl (by decide) ?_
      refine g_sub (ls' := [(0, .ref ((xE Γ).1 74)), (4, .int v4), (5, .int v5), (6, .int v6_6)]) [2, 3, 4, 0] rfl ?_
      exact hj89 v6_6 u
    · refine g_iload C dX11_tour_189 rfl 4 rfl ?_
      exact g_iret C M dX11_tour_191 rfl rfl
set_option maxRecDepth 20000 in
set_option maxHeartbeats 4000000 in
theorem pX11_tour_140 {Γ : GX} (C : Cx Γ RX11 cX11_tour 2) (M : Mx Γ (some .int)) (L : xn Γ = 8) (v4 : Int32) (v5 : Int32) (v6 : Int32) {j89 : Int32 → Mm → Option (Int32 × Mm)} (hj89 : ∀ (v6 : Int32) (u : Mm), Gp Γ (QM Γ cvI) 89 [(0, .ref ((xE Γ).1 74)), (4, .int v4), (5, .int v5), (6, .int v6)] [] u (j89 v6 u)) (u : Mm) : Gp Γ (QM Γ cvI) 140 [(0, .ref ((xE Γ).1 74)), (4, .int v4), (5, .int v5), (6, .int v6)] [] u (gX11_tour_140 j89 v4 v5 v6 u) := by
  unfold gX11_tour_140
  refine g_iconst (v := 0) C dX11_tour_140 rfl (by decide) ?_
  exact pX11_tour_141 C M L v4 v5 v6 0 hj89 u
set_option maxRecDepth 20000 in
set_option maxHeartbeats 4000000 in
theorem pX11_tour_89s {Γ : GX} (C : Cx Γ RX11 cX11_tour 2) (M : Mx Γ (some .int)) (L : xn Γ = 8) (v4 : Int32) (v5 : Int32) {j89 : Int32 → Mm → Option (Int32 × Mm)} (hj89 : ∀ (v6 : Int32) (u : Mm), Gp Γ (QM Γ cvI) 89 [(0, .ref ((xE Γ).1 74)), (4, .int v4), (5, .int v5), (6, .int v6)] [] u (j89 v6 u)) (v6 : Int32) (u : Mm) : Gp Γ (QM Γ cvI) 89 [(0, .ref ((xE Γ).1 74)), (4, .int v4), (5, .int v5), (6, .int v6)] [] u (gX11_tour_89_Ls v4 v5 j89 v6 u) := by
  unfold gX11_tour_89_Ls
  refine g_iload C dX11_tour_89 rfl 3 rfl ?_
  refine g_bipush (v := 8) C dX11_tour_91 rfl (by decide) ?_
  refine g_icmp_ge 198 C dX11_tour_93 rfl (by decide) (fun c1 => ?_) (fun c1 => ?_)
  · refine g_bipush (v := (-9)) C dX11_tour_198 rfl (by decide) ?_
    exact g_iret C M dX11_tour_200 rfl rfl
  · refine g_iload C dX11_tour_96 rfl 2 rfl ?_
    refine g_ldc_w (v := 99999) C dX11_tour_98 rfl (wm_41 18 rfl) ?_
    refine g_icmp_ge 198 C dX11_tour_101 rfl (by decide) (fun c2 => ?_) (fun c2 => ?_)
    · refine g_bipush (v := (-9)) C dX11_tour_198 rfl (by decide) ?_
      exact g_iret C M dX11_tour_200 rfl rfl
    · refine g_iload C dX11_tour_104 rfl 1 rfl ?_
      refine g_iload C dX11_tour_106 rfl 3 rfl ?_
      refine g_ishr C dX11_tour_108 rfl ?_
      refine g_iconst (v := 1) C dX11_tour_109 rfl (by decide) ?_
      refine g_iand C dX11_tour_110 rfl ?_
      refine g_iconst (v := 1) C dX11_tour_111 rfl (by decide) ?_
      refine g_icmp_ne 140 C dX11_tour_112 rfl (by decide) (fun c3 => ?_) (fun c3 => ?_)
      · exact pX11_tour_140 C M L v4 v5 v6 hj89 u
      · refine g_aload_n C dX11_tour_115 rfl 0 rfl ?_
        refine g_getR (k2 := 98) C dX11_tour_116 rfl rfl fi_11_55 ⟨by decide, by decide, rfl⟩ fl_X11_95 ?_
        refine g_bipush (v := 8) C dX11_tour_119 rfl (by decide) ?_
        refine g_aload_n C dX11_tour_121 rfl 0 rfl ?_
        refine g_getI C dX11_tour_122 rfl rfl fi_11_18 rfl fl_X11_243 ?_
        refine g_imul C dX11_tour_125 rfl ?_
        refine g_iload C dX11_tour_126 rfl 3 rfl ?_
        refine g_iadd C dX11_tour_128 rfl ?_
        refine g_gd (fun hi4 => ?_)
        refine g_iald C dX11_tour_129 rfl rfl rfl hi4 ?_
        refine g_ldc_w (v := 99999) C dX11_tour_130 rfl (wm_41 18 rfl) ?_
        refine g_icmp_ge 140 C dX11_tour_133 rfl (by decide) (fun c5 => ?_) (fun c5 => ?_)
        · exact pX11_tour_140 C M L v4 v5 v6 hj89 u
        · refine g_iconst (v := 1) C dX11_tour_136 rfl (by decide) ?_
          refine g_goto 141 C dX11_tour_137 rfl (by decide) ?_
          exact pX11_tour_141 C M L v4 v5 v6 1 hj89 u
set_option maxRecDepth 20000 in
set_option maxHeartbeats 4000000 in
theorem pX11_tour_89 {Γ : GX} (C : Cx Γ RX11 cX11_tour 2) (M : Mx Γ (some .int)) (L : xn Γ = 8) (v4 : Int32) (v5 : Int32) : ∀ (n : Nat) (v6 : Int32) (u : Mm), Gp Γ (QM Γ cvI) 89 [(0, .ref ((xE Γ).1 74)), (4, .int v4), (5, .int v5), (6, .int v6)] [] u (gX11_tour_89_L v4 v5 n v6 u) := by
  intro n
  induction n with
  | zero => intro _ _; exact g_none
  | succ n ih => intro v6 u; exact pX11_tour_89s C M L v4 v5 ih v6 u

set_option maxRecDepth 20000 in
set_option maxHeartbeats 4000000 in
theorem pX11_tour_0 {Γ : GX} (C : Cx Γ RX11 cX11_tour 2) (M : Mx Γ (some .int)) (L : xn Γ = 8) (v1 : Int32) (v2 : Int32) (u : Mm) : Gp Γ (QM Γ cvI) 0 [(0, .ref ((xE Γ).1 74)), (1, .int v1), (2, .int v2)] [] u (gX11_tour_b v1 v2 u) := by
  unfold gX11_tour_b
  refine g_aload_n C dX11_tour_0 rfl 0 rfl ?_
  refine g_iconst (v := 0) C dX11_tour_1 rfl (by decide) ?_
  refine g_putI C dX11_tour_2 rfl rfl fp_11_19 rfl fl_X11_104 ?_
  refine g_letm (fun u1 => ?_)
  refine g_iload_n C dX11_tour_5 rfl 1 rfl ?_
  refine g_iconst (v := 0) C dX11_tour_6 rfl (by decide) ?_
  refine g_sipush (v := 255) C dX11_tour_7 rfl (by decide) ?_
  refine g_callsP [.int v1, .int 0, .int 255] C dX11_tour_10 rfl (tX11_wrongNumber (xl Γ) (xE Γ) v1 0 255 u1) cf_X11_wrongNumber ml_X11_255 rfl (by decide) (Nat.le_of_ble_eq_true rfl) rfl (fun r2 => ?_)
  refine g_iload_n C dX11_tour_13 rfl 2 rfl ?_
  refine g_iconst (v := 1) C dX11_tour_14 rfl (by decide) ?_
  refine g_callsP [.int r2, .int v2, .int 1] C dX11_tour_15 rfl (tX11_wrongBit (xl Γ) (xE Γ) r2 v2 1 u1) cf_X11_wrongBit ml_X11_288 rfl (by decide) (Nat.le_of_ble_eq_true rfl) rfl (fun r3 => ?_)
  refine g_istore_n (ls' := [(3, .int r3), (0, .ref ((xE Γ).1 74)), (1, .int v1), (2, .int v2)]) C dX11_tour_18 rfl L (by decide) rfl ?_
  refine g_iload_n C dX11_tour_19 rfl 0 rfl ?_
  refine g_if_ge 29 C dX11_tour_20 rfl (by decide) (fun c4 => ?_) (fun c4 => ?_)
  · refine g_aload_n C dX11_tour_29 rfl 1 rfl ?_
    refine g_callV [] C dX11_tour_30 rfl (tX11_layBetween (xl Γ) (xE Γ) u1) cf_X11_layBetween rfl rfl ml_X11_375 rfl (by decide) (Nat.le_of_ble_eq_true rfl) rfl (fun u5 => ?_)
    refine g_aload_n C dX11_tour_33 rfl 1 rfl ?_
    refine g_callV [] C dX11_tour_34 rfl (tX11_layTours (xl Γ) (xE Γ) u5) cf_X11_layTours rfl rfl ml_X11_378 rfl (by decide) (Nat.le_of_ble_eq_true rfl) rfl (fun u6 => ?_)
    refine g_iload_n C dX11_tour_37 rfl 2 rfl ?_
    refine g_iconst (v := 1) C dX11_tour_38 rfl (by decide) ?_
    refine g_aload_n C dX11_tour_39 rfl 1 rfl ?_
    refine g_getI C dX11_tour_40 rfl rfl fi_11_18 rfl fl_X11_243 ?_
    refine g_ishl C dX11_tour_43 rfl ?_
    refine g_iconst (v := (-1)) C dX11_tour_44 rfl (by decide) ?_
    refine g_ixor C dX11_tour_45 rfl ?_
    refine g_iand C dX11_tour_46 rfl ?_
    refine g_lets (fun v4_7 => ?_)
    refine g_istore (ls' := [(4, .int v4_7), (3, .int r3), (0, .ref ((xE Γ).1 74)), (1, .int v1), (2, .int v2)]) C dX11_tour_47 rfl L (by decide) rfl ?_
    refine g_aload_n C dX11_tour_49 rfl 2 rfl ?_
    refine g_getR (k2 := 99) C dX11_tour_50 rfl rfl fi_11_56 ⟨by decide, by decide, rfl⟩ fl_X11_98 ?_
    refine g_bipush (v := 8) C dX11_tour_53 rfl (by decide) ?_
    refine g_iload C dX11_tour_55 rfl 0 rfl ?_
    refine g_imul C dX11_tour_57 rfl ?_
    refine g_aload_n C dX11_tour_58 rfl 2 rfl ?_
    refine g_getI C dX11_tour_59 rfl rfl fi_11_18 rfl fl_X11_243 ?_
    refine g_iadd C dX11_tour_62 rfl ?_
    refine g_gd (fun hi8 => ?_)
    refine g_iald C dX11_tour_63 rfl rfl rfl hi8 ?_
    refine g_lets (fun v5_9 => ?_)
    refine g_istore (ls' := [(5, .int v5_9), (4, .int v4_7), (3, .int r3), (0, .ref ((xE Γ).1 74)), (1, .int v1), (2, .int v2)]) C dX11_tour_64 rfl L (by decide) rfl ?_
    refine g_iload_n C dX11_tour_66 rfl 5 rfl ?_
    refine g_if_ne 86 C dX11_tour_67 rfl (by decide) (fun c10 => ?_) (fun c10 => ?_)
    · refine g_iconst (v := 0) C dX11_tour_86 rfl (by decide) ?_
      refine g_istore (ls' := [(6, .int 0), (5, .int v5_9), (4, .int v4_7), (3, .int r3), (0, .ref ((xE Γ).1 74)), (1, .int v1), (2, .int v2)]) C dX11_tour_87 rfl L (by decide) rfl ?_
      refine g_sub (ls' := [(0, .ref ((xE Γ).1 74)), (4, .int v4_7), (5, .int v5_9), (6, .int 0)]) [4, 2, 1, 0] rfl ?_
      exact pX11_tour_89 C M L v4_7 v5_9 FU 0 u6
    · refine g_iload C dX11_tour_70 rfl 0 rfl ?_
      refine g_ldc_w (v := 99999) C dX11_tour_72 rfl (wm_41 18 rfl) ?_
      refine g_icmp_ge 83 C dX11_tour_75 rfl (by decide) (fun c11 => ?_) (fun c11 => ?_)
      · refine g_bipush (v := (-9)) C dX11_tour_83 rfl (by decide) ?_
        exact g_iret C M dX11_tour_85 rfl rfl
      · refine g_iload C dX11_tour_78 rfl 0 rfl ?_
        refine g_goto 85 C dX11_tour_80 rfl (by decide) ?_
        exact g_iret C M dX11_tour_85 rfl rfl
  · refine g_aload_n C dX11_tour_23 rfl 1 rfl ?_
    refine g_iload_n C dX11_tour_24 rfl 0 rfl ?_
    refine g_callI [.int r3] C dX11_tour_25 rfl (tX11_refuse (xl Γ) (xE Γ) r3 u1) cf_X11_refuse rfl rfl ml_X11_153 rfl (by decide) (Nat.le_of_ble_eq_true rfl) rfl (fun r13 u12 => ?_)
    exact g_iret C M dX11_tour_28 rfl rfl
set_option maxRecDepth 20000 in
set_option maxHeartbeats 4000000 in
theorem tX11_tour (l : Launch) (E : EE) (v1 : Int32) (v2 : Int32) (u : Mm) : Ct l E yX11_tour cX11_tour 8 (some .int) 2 [.ref (E.1 74), .int v1, .int v2] u cvI (gX11_tour v1 v2 u) :=
  Ct_of (own := RX11) (by decide +kernel) rfl (Nat.le_of_ble_eq_true rfl) (fun p e R s m args below meth c C M => g_sub (ls' := [(0, .ref (E.1 74)), (1, .int v1), (2, .int v2)]) [0, 1, 2] rfl (pX11_tour_0 C M rfl v1 v2 u))
set_option maxRecDepth 20000 in
set_option maxHeartbeats 4000000 in
theorem pX11_twoCars_68 {Γ : GX} (C : Cx Γ RX11 cX11_twoCars 2) (M : Mx Γ (some .int)) (L : xn Γ = 4) (v1 : Int32) (v3 : Int32) (s0 : Int32) (s1 : Int32) {j26 : Int32 → Int32 → Mm → Option (Int32 × Mm)} (hj26 : ∀ (v2 : Int32) (v3 : Int32) (u : Mm), Gp Γ (QM Γ cvI) 26 [(0, .ref ((xE Γ).1 74)), (1, .int v1), (2, .int v2), (3, .int v3)] [] u (j26 v2 v3 u)) (u : Mm) : Gp Γ (QM Γ cvI) 68 [(0, .ref ((xE Γ).1 74)), (1, .int v1), (3, .int v3)] [.int s0, .int s1] u (gX11_twoCars_68 j26 v1 v3 s0 s1 u) := by
  unfold gX11_twoCars_68
  refine g_ior C dX11_twoCars_68 rfl ?_
  refine g_lets (fun v2_1 => ?_)
  refine g_istore_n (ls' := [(2, .int v2_1), (0, .ref ((xE Γ).1 74)), (1, .int v1), (3, .int v3)]) C dX11_twoCars_69 rfl L (by decide) rfl ?_
  refine g_iincL (fun v3_2 => [(3, .int v3_2), (2, .int v2_1), (0, .ref ((xE Γ).1 74)), (1, .int v1)]) C dX11_twoCars_70 rfl L (by decide) (k := 3) rfl (iinc_1 _) (fun _ => rfl) (fun v3_2 => ?_)
  refine g_goto 26 C dX11_twoCars_73 rfl (by decide) ?_
  refine g_sub (ls' := [(0, .ref ((xE Γ).1 74)), (1, .int v1), (2, .int v2_1), (3, .int v3_2)]) [2, 3, 1, 0] rfl ?_
  exact hj26 v2_1 v3_2 u
set_option maxRecDepth 20000 in
set_option maxHeartbeats 4000000 in
theorem pX11_twoCars_26s {Γ : GX} (C : Cx Γ RX11 cX11_twoCars 2) (M : Mx Γ (some .int)) (L : xn Γ = 4) (v1 : Int32) {j26 : Int32 → Int32 → Mm → Option (Int32 × Mm)} (hj26 : ∀ (v2 : Int32) (v3 : Int32) (u : Mm), Gp Γ (QM Γ cvI) 26 [(0, .ref ((xE Γ).1 74)), (1, .int v1), (2, .int v2), (3, .int v3)] [] u (j26 v2 v3 u)) (v2 : Int32) (v3 : Int32) (u : Mm) : Gp Γ (QM Γ cvI) 26 [(0, .ref ((xE Γ).1 74)), (1, .int v1), (2, .int v2), (3, .int v3)] [] u (gX11_twoCars_26_Ls v1 j26 v2 v3 u) := by
  unfold gX11_twoCars_26_Ls
  refine g_iload_n C dX11_twoCars_26 rfl 3 rfl ?_
  refine g_bipush (v := 8) C dX11_twoCars_27 rfl (by decide) ?_
  refine g_icmp_ge 76 C dX11_twoCars_29 rfl (by decide) (fun c1 => ?_) (fun c1 => ?_)
  · refine g_iload_n C dX11_twoCars_76 rfl 2 rfl ?_
    exact g_iret C M dX11_twoCars_77 rfl rfl
  · refine g_iload_n C dX11_twoCars_32 rfl 2 rfl ?_
    refine g_aload_n C dX11_twoCars_33 rfl 0 rfl ?_
    refine g_getR (k2 := 98) C dX11_twoCars_34 rfl rfl fi_11_55 ⟨by decide, by decide, rfl⟩ fl_X11_95 ?_
    refine g_bipush (v := 8) C dX11_twoCars_37 rfl (by decide) ?_
    refine g_iload_n C dX11_twoCars_39 rfl 1 rfl ?_
    refine g_imul C dX11_twoCars_40 rfl ?_
    refine g_iload_n C dX11_twoCars_41 rfl 3 rfl ?_
    refine g_iadd C dX11_twoCars_42 rfl ?_
    refine g_gd (fun hi2 => ?_)
    refine g_iald C dX11_twoCars_43 rfl rfl rfl hi2 ?_
    refine g_aload_n C dX11_twoCars_44 rfl 0 rfl ?_
    refine g_getR (k2 := 98) C dX11_twoCars_45 rfl rfl fi_11_55 ⟨by decide, by decide, rfl⟩ fl_X11_95 ?_
    refine g_bipush (v := 8) C dX11_twoCars_48 rfl (by decide) ?_
    refine g_aload_n C dX11_twoCars_50 rfl 0 rfl ?_
    refine g_getI C dX11_twoCars_51 rfl rfl fi_11_18 rfl fl_X11_243 ?_
    refine g_imul C dX11_twoCars_54 rfl ?_
    refine g_iload_n C dX11_twoCars_55 rfl 3 rfl ?_
    refine g_iadd C dX11_twoCars_56 rfl ?_
    refine g_gd (fun hi3 => ?_)
    refine g_iald C dX11_twoCars_57 rfl rfl rfl hi3 ?_
    refine g_icmp_ge 67 C dX11_twoCars_58 rfl (by decide) (fun c4 => ?_) (fun c4 => ?_)
    · refine g_iconst (v := 0) C dX11_twoCars_67 rfl (by decide) ?_
      refine g_sub (ls' := [(0, .ref ((xE Γ).1 74)), (1, .int v1), (3, .int v3)]) [0, 1, 3] rfl ?_
      exact pX11_twoCars_68 C M L v1 v3 0 v2 hj26 u
    · refine g_iconst (v := 1) C dX11_twoCars_61 rfl (by decide) ?_
      refine g_iload_n C dX11_twoCars_62 rfl 3 rfl ?_
      refine g_ishl C dX11_twoCars_63 rfl ?_
      refine g_goto 68 C dX11_twoCars_64 rfl (by decide) ?_
      refine g_sub (ls' := [(0, .ref ((xE Γ).1 74)), (1, .int v1), (3, .int v3)]) [0, 1, 3] rfl ?_
      exact pX11_twoCars_68 C M L v1 v3 (shl 1 v3) v2 hj26 u
set_option maxRecDepth 20000 in
set_option maxHeartbeats 4000000 in
theorem pX11_twoCars_26 {Γ : GX} (C : Cx Γ RX11 cX11_twoCars 2) (M : Mx Γ (some .int)) (L : xn Γ = 4) (v1 : Int32) : ∀ (n : Nat) (v2 : Int32) (v3 : Int32) (u : Mm), Gp Γ (QM Γ cvI) 26 [(0, .ref ((xE Γ).1 74)), (1, .int v1), (2, .int v2), (3, .int v3)] [] u (gX11_twoCars_26_L v1 n v2 v3 u) := by
  intro n
  induction n with
  | zero => intro _ _ _; exact g_none
  | succ n ih => intro v2 v3 u; exact pX11_twoCars_26s C M L v1 ih v2 v3 u

set_option maxRecDepth 20000 in
set_option maxHeartbeats 4000000 in
theorem pX11_twoCars_0 {Γ : GX} (C : Cx Γ RX11 cX11_twoCars 2) (M : Mx Γ (some .int)) (L : xn Γ = 4) (v1 : Int32) (u : Mm) : Gp Γ (QM Γ cvI) 0 [(0, .ref ((xE Γ).1 74)), (1, .int v1)] [] u (gX11_twoCars_b v1 u) := by
  unfold gX11_twoCars_b
  refine g_aload_n C dX11_twoCars_0 rfl 0 rfl ?_
  refine g_iconst (v := 0) C dX11_twoCars_1 rfl (by decide) ?_
  refine g_putI C dX11_twoCars_2 rfl rfl fp_11_19 rfl fl_X11_104 ?_
  refine g_letm (fun u1 => ?_)
  refine g_iload_n C dX11_twoCars_5 rfl 1 rfl ?_
  refine g_callsP [.int v1] C dX11_twoCars_6 rfl (tX11_isPlace (xl Γ) (xE Γ) v1 u1) cf_X11_isPlace ml_X11_202 rfl (by decide) (Nat.le_of_ble_eq_true rfl) rfl (fun r2 => ?_)
  refine g_if_ne 18 C dX11_twoCars_9 rfl (by decide) (fun c3 => ?_) (fun c3 => ?_)
  · refine g_aload_n C dX11_twoCars_18 rfl 0 rfl ?_
    refine g_callV [] C dX11_twoCars_19 rfl (tX11_layBetween (xl Γ) (xE Γ) u1) cf_X11_layBetween rfl rfl ml_X11_375 rfl (by decide) (Nat.le_of_ble_eq_true rfl) rfl (fun u4 => ?_)
    refine g_iconst (v := 0) C dX11_twoCars_22 rfl (by decide) ?_
    refine g_istore_n (ls' := [(2, .int 0), (0, .ref ((xE Γ).1 74)), (1, .int v1)]) C dX11_twoCars_23 rfl L (by decide) rfl ?_
    refine g_iconst (v := 0) C dX11_twoCars_24 rfl (by decide) ?_
    refine g_istore_n (ls' := [(3, .int 0), (2, .int 0), (0, .ref ((xE Γ).1 74)), (1, .int v1)]) C dX11_twoCars_25 rfl L (by decide) rfl ?_
    refine g_sub (ls' := [(0, .ref ((xE Γ).1 74)), (1, .int v1), (2, .int 0), (3, .int 0)]) [2, 3, 1, 0] rfl ?_
    exact pX11_twoCars_26 C M L v1 FU 0 0 u4
  · refine g_aload_n C dX11_twoCars_12 rfl 0 rfl ?_
    refine g_iconst (v := (-1)) C dX11_twoCars_13 rfl (by decide) ?_
    refine g_callI [.int (-1)] C dX11_twoCars_14 rfl (tX11_refuse (xl Γ) (xE Γ) (-1) u1) cf_X11_refuse rfl rfl ml_X11_153 rfl (by decide) (Nat.le_of_ble_eq_true rfl) rfl (fun r6 u5 => ?_)
    exact g_iret C M dX11_twoCars_17 rfl rfl
set_option maxRecDepth 20000 in
set_option maxHeartbeats 4000000 in
theorem tX11_twoCars (l : Launch) (E : EE) (v1 : Int32) (u : Mm) : Ct l E yX11_twoCars cX11_twoCars 4 (some .int) 2 [.ref (E.1 74), .int v1] u cvI (gX11_twoCars v1 u) :=
  Ct_of (own := RX11) (by decide +kernel) rfl (Nat.le_of_ble_eq_true rfl) (fun p e R s m args below meth c C M => g_sub (ls' := [(0, .ref (E.1 74)), (1, .int v1)]) [0, 1] rfl (pX11_twoCars_0 C M rfl v1 u))
set_option maxRecDepth 20000 in
set_option maxHeartbeats 4000000 in
theorem pX11_fitsLayer_0 {Γ : GX} (C : Cx Γ RX11 cX11_fitsLayer 0) (M : Mx Γ (some .boolean)) (L : xn Γ = 3) (u : Mm) (v1 : Int32) (v2 : Int32) : Gp Γ (QM Γ (cvP u)) 0 [(0, .ref ((xE Γ).1 74)), (1, .int v1), (2, .int v2)] [] u (gX11_fitsLayer_b v1 v2 u) := by
  unfold gX11_fitsLayer_b
  refine g_aload_n C dX11_fitsLayer_0 rfl 0 rfl ?_
  refine g_getR (k2 := 75) C dX11_fitsLayer_1 rfl rfl fi_11_0 ⟨by decide, by decide, rfl⟩ fl_X11_7 ?_
  refine g_iload_n C dX11_fitsLayer_4 rfl 2 rfl ?_
  refine g_gd (fun hi1 => ?_)
  refine g_iald C dX11_fitsLayer_5 rfl rfl rfl hi1 ?_
  refine g_aload_n C dX11_fitsLayer_6 rfl 0 rfl ?_
  refine g_getR (k2 := 100) C dX11_fitsLayer_7 rfl rfl fi_11_57 ⟨by decide, by decide, rfl⟩ fl_X11_101 ?_
  refine g_iload_n C dX11_fitsLayer_10 rfl 1 rfl ?_
  refine g_gd (fun hi2 => ?_)
  refine g_iald C dX11_fitsLayer_11 rfl rfl rfl hi2 ?_
  refine g_bipush (v := 50) C dX11_fitsLayer_12 rfl (by decide) ?_
  refine g_isub C dX11_fitsLayer_14 rfl ?_
  refine g_icmp_ne 39 C dX11_fitsLayer_15 rfl (by decide) (fun c3 => ?_) (fun c3 => ?_)
  · refine g_iconst (v := 0) C dX11_fitsLayer_39 rfl (by decide) ?_
    exact g_zret C M dX11_fitsLayer_40 rfl (by decide) rfl
  · refine g_aload_n C dX11_fitsLayer_18 rfl 0 rfl ?_
    refine g_getR (k2 := 76) C dX11_fitsLayer_19 rfl rfl fi_11_1 ⟨by decide, by decide, rfl⟩ fl_X11_13 ?_
    refine g_iload_n C dX11_fitsLayer_22 rfl 2 rfl ?_
    refine g_gd (fun hi4 => ?_)
    refine g_iald C dX11_fitsLayer_23 rfl rfl rfl hi4 ?_
    refine g_aload_n C dX11_fitsLayer_24 rfl 0 rfl ?_
    refine g_getR (k2 := 100) C dX11_fitsLayer_25 rfl rfl fi_11_57 ⟨by decide, by decide, rfl⟩ fl_X11_101 ?_
    refine g_iload_n C dX11_fitsLayer_28 rfl 1 rfl ?_
    refine g_iconst (v := 1) C dX11_fitsLayer_29 rfl (by decide) ?_
    refine g_iadd C dX11_fitsLayer_30 rfl ?_
    refine g_gd (fun hi5 => ?_)
    refine g_iald C dX11_fitsLayer_31 rfl rfl rfl hi5 ?_
    refine g_icmp_ne 39 C dX11_fitsLayer_32 rfl (by decide) (fun c6 => ?_) (fun c6 => ?_)
    · refine g_iconst (v := 0) C dX11_fitsLayer_39 rfl (by decide) ?_
      exact g_zret C M dX11_fitsLayer_40 rfl (by decide) rfl
    · refine g_iconst (v := 1) C dX11_fitsLayer_35 rfl (by decide) ?_
      refine g_goto 40 C dX11_fitsLayer_36 rfl (by decide) ?_
      exact g_zret C M dX11_fitsLayer_40 rfl (by decide) rfl
set_option maxRecDepth 20000 in
set_option maxHeartbeats 4000000 in
theorem tX11_fitsLayer (l : Launch) (E : EE) (v1 : Int32) (v2 : Int32) (u : Mm) : Ct l E yX11_fitsLayer cX11_fitsLayer 3 (some .boolean) 0 [.ref (E.1 74), .int v1, .int v2] u (cvP u) (gX11_fitsLayer v1 v2 u) :=
  Ct_of (own := RX11) (by decide +kernel) rfl (Nat.le_of_ble_eq_true rfl) (fun p e R s m args below meth c C M => g_sub (ls' := [(0, .ref (E.1 74)), (1, .int v1), (2, .int v2)]) [0, 1, 2] rfl (pX11_fitsLayer_0 C M rfl u v1 v2))
set_option maxRecDepth 20000 in
set_option maxHeartbeats 4000000 in
theorem pX11_track_99 {Γ : GX} (C : Cx Γ RX11 cX11_track 1) (M : Mx Γ (some .int)) (L : xn Γ = 8) (v1 : Int32) (v3 : Int32) (v4 : Int32) (v5 : Int32) (v7 : Int32) (s0 : Int32) (s1 : Int32) {j56 : Int32 → Int32 → Int32 → Mm → Option (Int32 × Mm)} (hj56 : ∀ (v3 : Int32) (v4 : Int32) (v5 : Int32) (u : Mm), Gp Γ (QM Γ cvI) 56 [(0, .ref ((xE Γ).1 74)), (1, .int v1), (3, .int v3), (4, .int v4), (5, .int v5)] [] u (j56 v3 v4 v5 u)) {j71 : Int32 → Int32 → Mm → Option (Int32 × Mm)} (hj71 : ∀ (v6 : Int32) (v7 : Int32) (u : Mm), Gp Γ (QM Γ cvI) 71 [(0, .ref ((xE Γ).1 74)), (1, .int v1), (3, .int v3), (4, .int v4), (5, .int v5), (6, .int v6), (7, .int v7)] [] u (j71 v6 v7 u)) (u : Mm) : Gp Γ (QM Γ cvI) 99 [(0, .ref ((xE Γ).1 74)), (1, .int v1), (3, .int v3), (4, .int v4), (5, .int v5), (7, .int v7)] [.int s0, .int s1] u (gX11_track_99 j56 j71 v1 v3 v4 v5 v7 s0 s1 u) := by
  unfold gX11_track_99
  refine g_ior C dX11_track_99 rfl ?_
  refine g_lets (fun v6_1 => ?_)
  refine g_istore (ls' := [(6, .int v6_1), (0, .ref ((xE Γ).1 74)), (1, .int v1), (3, .int v3), (4, .int v4), (5, .int v5), (7, .int v7)]) C dX11_track_100 rfl L (by decide) rfl ?_
  refine g_iincL (fun v7_2 => [(7, .int v7_2), (6, .int v6_1), (0, .ref ((xE Γ).1 74)), (1, .int v1), (3, .int v3), (4, .int v4), (5, .int v5)]) C dX11_track_102 rfl L (by decide) (k := 6) rfl (iinc_1 _) (fun _ => rfl) (fun v7_2 => ?_)
  refine g_goto 71 C dX11_track_105 rfl (by decide) ?_
  refine g_sub (ls' := [(0, .ref ((xE Γ).1 74)), (1, .int v1), (3, .int v3), (4, .int v4), (5, .int v5), (6, .int v6_1), (7, .int v7_2)]) [2, 3, 4, 5, 6, 1, 0] rfl ?_
  exact hj71 v6_1 v7_2 u
set_option maxRecDepth 20000 in
set_option maxHeartbeats 4000000 in
theorem pX11_track_132 {Γ : GX} (C : Cx Γ RX11 cX11_track 1) (M : Mx Γ (some .int)) (L : xn Γ = 8) (v1 : Int32) (v3 : Int32) (v5 : Int32) (s0 : Int32) {j56 : Int32 → Int32 → Int32 → Mm → Option (Int32 × Mm)} (hj56 : ∀ (v3 : Int32) (v4 : Int32) (v5 : Int32) (u : Mm), Gp Γ (QM Γ cvI) 56 [(0, .ref ((xE Γ).1 74)), (1, .int v1), (3, .int v3), (4, .int v4), (5, .int v5)] [] u (j56 v3 v4 v5 u)) (u : Mm) : Gp Γ (QM Γ cvI) 132 [(0, .ref ((xE Γ).1 74)), (1, .int v1), (3, .int v3), (5, .int v5)] [.int s0] u (gX11_track_132 j56 v1 v3 v5 s0 u) := by
  unfold gX11_track_132
  refine g_istore (ls' := [(4, .int s0), (0, .ref ((xE Γ).1 74)), (1, .int v1), (3, .int v3), (5, .int v5)]) C dX11_track_132 rfl L (by decide) rfl ?_
  refine g_iincL (fun v5_1 => [(5, .int v5_1), (4, .int s0), (0, .ref ((xE Γ).1 74)), (1, .int v1), (3, .int v3)]) C dX11_track_134 rfl L (by decide) (k := 4) rfl (iinc_2 _) (fun _ => rfl) (fun v5_1 => ?_)
  refine g_goto 56 C dX11_track_137 rfl (by decide) ?_
  refine g_sub (ls' := [(0, .ref ((xE Γ).1 74)), (1, .int v1), (3, .int v3), (4, .int s0), (5, .int v5_1)]) [2, 3, 4, 1, 0] rfl ?_
  exact hj56 v3 s0 v5_1 u
set_option maxRecDepth 20000 in
set_option maxHeartbeats 4000000 in
theorem pX11_track_130 {Γ : GX} (C : Cx Γ RX11 cX11_track 1) (M : Mx Γ (some .int)) (L : xn Γ = 8) (v1 : Int32) (v3 : Int32) (v4 : Int32) (v5 : Int32) {j56 : Int32 → Int32 → Int32 → Mm → Option (Int32 × Mm)} (hj56 : ∀ (v3 : Int32) (v4 : Int32) (v5 : Int32) (u : Mm), Gp Γ (QM Γ cvI) 56 [(0, .ref ((xE Γ).1 74)), (1, .int v1), (3, .int v3), (4, .int v4), (5, .int v5)] [] u (j56 v3 v4 v5 u)) (u : Mm) : Gp Γ (QM Γ cvI) 130 [(0, .ref ((xE Γ).1 74)), (1, .int v1), (3, .int v3), (4, .int v4), (5, .int v5)] [] u (gX11_track_130 j56 v1 v3 v4 v5 u) := by
  unfold gX11_track_130
  refine g_iload C dX11_track_130 rfl 3 rfl ?_
  refine g_sub (ls' := [(0, .ref ((xE Γ).1 74)), (1, .int v1), (3, .int v3), (5, .int v5)]) [0, 1, 2, 4] rfl ?_
  exact pX11_track_132 C M L v1 v3 v5 v4 hj56 u
set_option maxRecDepth 20000 in
set_option maxHeartbeats 4000000 in
theorem pX11_track_71s {Γ : GX} (C : Cx Γ RX11 cX11_track 1) (M : Mx Γ (some .int)) (L : xn Γ = 8) (v1 : Int32) (v3 : Int32) (v4 : Int32) (v5 : Int32) {j56 : Int32 → Int32 → Int32 → Mm → Option (Int32 × Mm)} (hj56 : ∀ (v3 : Int32) (v4 : Int32) (v5 : Int32) (u : Mm), Gp Γ (QM Γ cvI) 56 [(0, .ref ((xE Γ).1 74)), (1, .int v1), (3, .int v3), (4, .int v4), (5, .int v5)] [] u (j56 v3 v4 v5 u)) {j71 : Int32 → Int32 → Mm → Option (Int32 × Mm)} (hj71 : ∀ (v6 : Int32) (v7 : Int32) (u : Mm), Gp Γ (QM Γ cvI) 71 [(0, .ref ((xE Γ).1 74)), (1, .int v1), (3, .int v3), (4, .int v4), (5, .int v5), (6, .int v6), (7, .int v7)] [] u (j71 v6 v7 u)) (v6 : Int32) (v7 : Int32) (u : Mm) : Gp Γ (QM Γ cvI) 71 [(0, .ref ((xE Γ).1 74)), (1, .int v1), (3, .int v3), (4, .int v4), (5, .int v5), (6, .int v6), (7, .int v7)] [] u (gX11_track_71_Ls j56 v1 v3 v4 v5 j71 v6 v7 u) := by
  unfold gX11_track_71_Ls
  refine g_iload C dX11_track_71 rfl 6 rfl ?_
  refine g_bipush (v := 8) C dX11_track_73 rfl (by decide) ?_
  refine g_icmp_ge 108 C dX11_track_75 rfl (by decide) (fun c1 => ?_) (fun c1 => ?_)
  · refine g_iload_n C dX11_track_108 rfl 2 rfl ?_
    refine g_iload C dX11_track_109 rfl 5 rfl ?_
    refine g_ior C dX11_track_111 rfl ?_
    refine g_lets (fun v3_2 => ?_)
    refine g_istore_n (ls' := [(3, .int v3_2), (0, .ref ((xE Γ).1 74)), (1, .int v1), (4, .int v4), (5, .int v5), (6, .int v6), (7, .int v7)]) C dX11_track_112 rfl L (by decide) rfl ?_
    refine g_iload C dX11_track_113 rfl 3 rfl ?_
    refine g_if_ge 130 C dX11_track_115 rfl (by decide) (fun c3 => ?_) (fun c3 => ?_)
    · refine g_sub (ls' := [(0, .ref ((xE Γ).1 74)), (1, .int v1), (3, .int v3_2), (4, .int v4), (5, .int v5)]) [1, 2, 0, 3, 4] rfl ?_
      exact pX11_track_130 C M L v1 v3_2 v4 v5 hj56 u
    · refine g_iload C dX11_track_118 rfl 5 rfl ?_
      refine g_if_ne 130 C dX11_track_120 rfl (by decide) (fun c4 => ?_) (fun c4 => ?_)
      · refine g_sub (ls' := [(0, .ref ((xE Γ).1 74)), (1, .int v1), (3, .int v3_2), (4, .int v4), (5, .int v5)]) [1, 2, 0, 3, 4] rfl ?_
        exact pX11_track_130 C M L v1 v3_2 v4 v5 hj56 u
      · refine g_iload C dX11_track_123 rfl 4 rfl ?_
        refine g_iconst (v := 2) C dX11_track_125 rfl (by decide) ?_
        refine g_idiv C dX11_track_126 rfl (by decide) ?_
        refine g_goto 132 C dX11_track_127 rfl (by decide) ?_
        refine g_sub (ls' := [(0, .ref ((xE Γ).1 74)), (1, .int v1), (3, .int v3_2), (5, .int v5)]) [1, 2, 0, 4] rfl ?_
        exact pX11_track_132 C M L v1 v3_2 v5 (v5 / 2) hj56 u
  · refine g_iload C dX11_track_78 rfl 5 rfl ?_
    refine g_aload_n C dX11_track_80 rfl 0 rfl ?_
    refine g_iload C dX11_track_81 rfl 4 rfl ?_
    refine g_iload C dX11_track_83 rfl 6 rfl ?_
    refine g_callP [.int v5, .int v7] C dX11_track_85 rfl (tX11_fitsLayer (xl Γ) (xE Γ) v5 v7 u) cf_X11_fitsLayer rfl rfl ml_X11_381 rfl (by decide) (Nat.le_of_ble_eq_true rfl) rfl (fun r5 => ?_)
    refine g_if_eq 98 C dX11_track_88 rfl (by decide) (fun c6 => ?_) (fun c6 => ?_)
    · refine g_iconst (v := 0) C dX11_track_98 rfl (by decide) ?_
      refine g_sub (ls' := [(0, .ref ((xE Γ).1 74)), (1, .int v1), (3, .int v3), (4, .int v4), (5, .int v5), (7, .int v7)]) [0, 1, 2, 3, 4, 6] rfl ?_
      exact pX11_track_99 C M L v1 v3 v4 v5 v7 0 v6 hj56 hj71 u
    · refine g_iconst (v := 1) C dX11_track_91 rfl (by decide) ?_
      refine g_iload C dX11_track_92 rfl 6 rfl ?_
      refine g_ishl C dX11_track_94 rfl ?_
      refine g_goto 99 C dX11_track_95 rfl (by decide) ?_
      refine g_sub (ls' := [(0, .ref ((xE Γ).1 74)), (1, .int v1), (3, .int v3), (4, .int v4), (5, .int v5), (7, .int v7)]) [0, 1, 2, 3, 4, 6] rfl ?_
      exact pX11_track_99 C M L v1 v3 v4 v5 v7 (shl 1 v7) v6 hj56 hj71 u
set_option maxRecDepth 20000 in
set_option maxHeartbeats 4000000 in
theorem pX11_track_71 {Γ : GX} (C : Cx Γ RX11 cX11_track 1) (M : Mx Γ (some .int)) (L : xn Γ = 8) (v1 : Int32) (v3 : Int32) (v4 : Int32) (v5 : Int32) {j56 : Int32 → Int32 → Int32 → Mm → Option (Int32 × Mm)} (hj56 : ∀ (v3 : Int32) (v4 : Int32) (v5 : Int32) (u : Mm), Gp Γ (QM Γ cvI) 56 [(0, .ref ((xE Γ).1 74)), (1, .int v1), (3, .int v3), (4, .int v4), (5, .int v5)] [] u (j56 v3 v4 v5 u)) : ∀ (n : Nat) (v6 : Int32) (v7 : Int32) (u : Mm), Gp Γ (QM Γ cvI) 71 [(0, .ref ((xE Γ).1 74)), (1, .int v1), (3, .int v3), (4, .int v4), (5, .int v5), (6, .int v6), (7, .int v7)] [] u (gX11_track_71_L j56 v1 v3 v4 v5 n v6 v7 u) := by
  intro n
  induction n with
  | zero => intro _ _ _; exact g_none
  | succ n ih => intro v6 v7 u; exact pX11_track_71s C M L v1 v3 v4 v5 hj56 ih v6 v7 u

set_option maxRecDepth 20000 in
set_option maxHeartbeats 4000000 in
theorem pX11_track_56s {Γ : GX} (C : Cx Γ RX11 cX11_track 1) (M : Mx Γ (some .int)) (L : xn Γ = 8) (v1 : Int32) {j56 : Int32 → Int32 → Int32 → Mm → Option (Int32 × Mm)} (hj56 : ∀ (v3 : Int32) (v4 : Int32) (v5 : Int32) (u : Mm), Gp Γ (QM Γ cvI) 56 [(0, .ref ((xE Γ).1 74)), (1, .int v1), (3, .int v3), (4, .int v4), (5, .int v5)] [] u (j56 v3 v4 v5 u)) (v3 : Int32) (v4 : Int32) (v5 : Int32) (u : Mm) : Gp Γ (QM Γ cvI) 56 [(0, .ref ((xE Γ).1 74)), (1, .int v1), (3, .int v3), (4, .int v4), (5, .int v5)] [] u (gX11_track_56_Ls v1 j56 v3 v4 v5 u) := by
  unfold gX11_track_56_Ls
  refine g_iload C dX11_track_56 rfl 4 rfl ?_
  refine g_aload_n C dX11_track_58 rfl 0 rfl ?_
  refine g_getI C dX11_track_59 rfl rfl fi_11_58 rfl fl_X11_344 ?_
  refine g_icmp_ge 140 C dX11_track_62 rfl (by decide) (fun c1 => ?_) (fun c1 => ?_)
  · refine g_iload_n C dX11_track_140 rfl 1 rfl ?_
    refine g_if_ne 148 C dX11_track_141 rfl (by decide) (fun c2 => ?_) (fun c2 => ?_)
    · refine g_iload C dX11_track_148 rfl 3 rfl ?_
      exact g_iret C M dX11_track_150 rfl rfl
    · refine g_iload_n C dX11_track_144 rfl 2 rfl ?_
      refine g_goto 150 C dX11_track_145 rfl (by decide) ?_
      exact g_iret C M dX11_track_150 rfl rfl
  · refine g_iconst (v := 0) C dX11_track_65 rfl (by decide) ?_
    refine g_istore (ls' := [(6, .int 0), (0, .ref ((xE Γ).1 74)), (1, .int v1), (3, .int v3), (4, .int v4), (5, .int v5)]) C dX11_track_66 rfl L (by decide) rfl ?_
    refine g_iconst (v := 0) C dX11_track_68 rfl (by decide) ?_
    refine g_istore (ls' := [(7, .int 0), (6, .int 0), (0, .ref ((xE Γ).1 74)), (1, .int v1), (3, .int v3), (4, .int v4), (5, .int v5)]) C dX11_track_69 rfl L (by decide) rfl ?_
    refine g_sub (ls' := [(0, .ref ((xE Γ).1 74)), (1, .int v1), (3, .int v3), (4, .int v4), (5, .int v5), (6, .int 0), (7, .int 0)]) [2, 3, 4, 5, 6, 1, 0] rfl ?_
    exact pX11_track_71 C M L v1 v3 v4 v5 hj56 FU 0 0 u
set_option maxRecDepth 20000 in
set_option maxHeartbeats 4000000 in
theorem pX11_track_56 {Γ : GX} (C : Cx Γ RX11 cX11_track 1) (M : Mx Γ (some .int)) (L : xn Γ = 8) (v1 : Int32) : ∀ (n : Nat) (v3 : Int32) (v4 : Int32) (v5 : Int32) (u : Mm), Gp Γ (QM Γ cvI) 56 [(0, .ref ((xE Γ).1 74)), (1, .int v1), (3, .int v3), (4, .int v4), (5, .int v5)] [] u (gX11_track_56_L v1 n v3 v4 v5 u) := by
  intro n
  induction n with
  | zero => intro _ _ _ _; exact g_none
  | succ n ih => intro v3 v4 v5 u; exact pX11_track_56s C M L v1 ih v3 v4 v5 u

set_option maxRecDepth 20000 in
set_option maxHeartbeats 4000000 in
theorem pX11_track_36 {Γ : GX} (C : Cx Γ RX11 cX11_track 1) (M : Mx Γ (some .int)) (L : xn Γ = 8) (v1 : Int32) (s0 : Int32) (u : Mm) : Gp Γ (QM Γ cvI) 36 [(0, .ref ((xE Γ).1 74)), (1, .int v1)] [.int s0] u (gX11_track_36 v1 s0 u) := by
  unfold gX11_track_36
  refine g_istore_n (ls' := [(2, .int s0), (0, .ref ((xE Γ).1 74)), (1, .int v1)]) C dX11_track_36 rfl L (by decide) rfl ?_
  refine g_iload_n C dX11_track_37 rfl 0 rfl ?_
  refine g_if_ge 47 C dX11_track_38 rfl (by decide) (fun c1 => ?_) (fun c1 => ?_)
  · refine g_iconst (v := 0) C dX11_track_47 rfl (by decide) ?_
    refine g_istore_n (ls' := [(3, .int 0), (2, .int s0), (0, .ref ((xE Γ).1 74)), (1, .int v1)]) C dX11_track_48 rfl L (by decide) rfl ?_
    refine g_bipush (v := (-9)) C dX11_track_49 rfl (by decide) ?_
    refine g_istore (ls' := [(4, .int (-9)), (3, .int 0), (2, .int s0), (0, .ref ((xE Γ).1 74)), (1, .int v1)]) C dX11_track_51 rfl L (by decide) rfl ?_
    refine g_iconst (v := 0) C dX11_track_53 rfl (by decide) ?_
    refine g_istore (ls' := [(5, .int 0), (4, .int (-9)), (3, .int 0), (2, .int s0), (0, .ref ((xE Γ).1 74)), (1, .int v1)]) C dX11_track_54 rfl L (by decide) rfl ?_
    refine g_sub (ls' := [(0, .ref ((xE Γ).1 74)), (1, .int v1), (3, .int 0), (4, .int (-9)), (5, .int 0)]) [4, 5, 2, 1, 0] rfl ?_
    exact pX11_track_56 C M L v1 FU 0 (-9) 0 u
  · refine g_aload_n C dX11_track_41 rfl 1 rfl ?_
    refine g_iload_n C dX11_track_42 rfl 0 rfl ?_
    refine g_callI [.int s0] C dX11_track_43 rfl (tX11_refuse (xl Γ) (xE Γ) s0 u) cf_X11_refuse rfl rfl ml_X11_153 rfl (by decide) (Nat.le_of_ble_eq_true rfl) rfl (fun r3 u2 => ?_)
    exact g_iret C M dX11_track_46 rfl rfl
set_option maxRecDepth 20000 in
set_option maxHeartbeats 4000000 in
theorem pX11_track_0 {Γ : GX} (C : Cx Γ RX11 cX11_track 1) (M : Mx Γ (some .int)) (L : xn Γ = 8) (v1 : Int32) (u : Mm) : Gp Γ (QM Γ cvI) 0 [(0, .ref ((xE Γ).1 74)), (1, .int v1)] [] u (gX11_track_b v1 u) := by
  unfold gX11_track_b
  refine g_aload_n C dX11_track_0 rfl 0 rfl ?_
  refine g_iconst (v := 0) C dX11_track_1 rfl (by decide) ?_
  refine g_putI C dX11_track_2 rfl rfl fp_11_19 rfl fl_X11_104 ?_
  refine g_letm (fun u1 => ?_)
  refine g_iload_n C dX11_track_5 rfl 1 rfl ?_
  refine g_i2l C dX11_track_6 rfl ?_
  refine g_lconst (v := 0) C dX11_track_7 rfl (by decide) ?_
  refine g_lconst (v := 1) C dX11_track_8 rfl (by decide) ?_
  refine g_callsP [.long v1.toInt64, .long 0, .long 1] C dX11_track_9 rfl (tX11_in (xl Γ) (xE Γ) v1.toInt64 0 1 u1) cf_X11_in ml_X11_107 rfl (by decide) (Nat.le_of_ble_eq_true rfl) rfl (fun r2 => ?_)
  refine g_if_ne 20 C dX11_track_12 rfl (by decide) (fun c3 => ?_) (fun c3 => ?_)
  · refine g_aload_n C dX11_track_20 rfl 0 rfl ?_
    refine g_getI C dX11_track_21 rfl rfl fi_11_58 rfl fl_X11_344 ?_
    refine g_iconst (v := 2) C dX11_track_24 rfl (by decide) ?_
    refine g_irem C dX11_track_25 rfl (by decide) ?_
    refine g_iconst (v := 1) C dX11_track_26 rfl (by decide) ?_
    refine g_icmp_ne 35 C dX11_track_27 rfl (by decide) (fun c4 => ?_) (fun c4 => ?_)
    · refine g_iconst (v := 0) C dX11_track_35 rfl (by decide) ?_
      exact pX11_track_36 C M L v1 0 u1
    · refine g_bipush (v := (-3)) C dX11_track_30 rfl (by decide) ?_
      refine g_goto 36 C dX11_track_32 rfl (by decide) ?_
      exact pX11_track_36 C M L v1 (-3) u1
  · refine g_bipush (v := (-2)) C dX11_track_15 rfl (by decide) ?_
    refine g_goto 36 C dX11_track_17 rfl (by decide) ?_
    exact pX11_track_36 C M L v1 (-2) u1
set_option maxRecDepth 20000 in
set_option maxHeartbeats 4000000 in
theorem tX11_track (l : Launch) (E : EE) (v1 : Int32) (u : Mm) : Ct l E yX11_track cX11_track 8 (some .int) 1 [.ref (E.1 74), .int v1] u cvI (gX11_track v1 u) :=
  Ct_of (own := RX11) (by decide +kernel) rfl (Nat.le_of_ble_eq_true rfl) (fun p e R s m args below meth c C M => g_sub (ls' := [(0, .ref (E.1 74)), (1, .int v1)]) [0, 1] rfl (pX11_track_0 C M rfl v1 u))
set_option maxRecDepth 20000 in
set_option maxHeartbeats 4000000 in
theorem pX11_row_31 {Γ : GX} (C : Cx Γ RX11 cX11_row 1) (M : Mx Γ (some .int)) (L : xn Γ = 2) (u : Mm) : Gp Γ (QM Γ cvI) 31 [(0, .ref ((xE Γ).1 74))] [] u (gX11_row_31 u) := by
  unfold gX11_row_31
  refine g_aload_n C dX11_row_31 rfl 0 rfl ?_
  refine g_bipush (v := (-6)) C dX11_row_32 rfl (by decide) ?_
  refine g_callI [.int (-6)] C dX11_row_34 rfl (tX11_refuse (xl Γ) (xE Γ) (-6) u) cf_X11_refuse rfl rfl ml_X11_153 rfl (by decide) (Nat.le_of_ble_eq_true rfl) rfl (fun r2 u1 => ?_)
  exact g_iret C M dX11_row_37 rfl rfl
set_option maxRecDepth 20000 in
set_option maxHeartbeats 4000000 in
theorem pX11_row_0 {Γ : GX} (C : Cx Γ RX11 cX11_row 1) (M : Mx Γ (some .int)) (L : xn Γ = 2) (v1 : Int32) (u : Mm) : Gp Γ (QM Γ cvI) 0 [(0, .ref ((xE Γ).1 74)), (1, .int v1)] [] u (gX11_row_b v1 u) := by
  unfold gX11_row_b
  refine g_aload_n C dX11_row_0 rfl 0 rfl ?_
  refine g_iconst (v := 0) C dX11_row_1 rfl (by decide) ?_
  refine g_putI C dX11_row_2 rfl rfl fp_11_19 rfl fl_X11_104 ?_
  refine g_letm (fun u1 => ?_)
  refine g_iload_n C dX11_row_5 rfl 1 rfl ?_
  refine g_if_ge 16 C dX11_row_6 rfl (by decide) (fun c2 => ?_) (fun c2 => ?_)
  · refine g_iload_n C dX11_row_16 rfl 1 rfl ?_
    refine g_bipush (v := 99) C dX11_row_17 rfl (by decide) ?_
    refine g_icmp_gt 31 C dX11_row_19 rfl (by decide) (fun c3 => ?_) (fun c3 => ?_)
    · refine g_sub (ls' := [(0, .ref ((xE Γ).1 74))]) [0] rfl ?_
      exact pX11_row_31 C M L u1
    · refine g_aload_n C dX11_row_22 rfl 0 rfl ?_
      refine g_getI C dX11_row_23 rfl rfl fi_11_58 rfl fl_X11_344 ?_
      refine g_bipush (v := 12) C dX11_row_26 rfl (by decide) ?_
      refine g_icmp_ne 38 C dX11_row_28 rfl (by decide) (fun c4 => ?_) (fun c4 => ?_)
      · refine g_aload_n C dX11_row_38 rfl 0 rfl ?_
        refine g_getR (k2 := 100) C dX11_row_39 rfl rfl fi_11_57 ⟨by decide, by decide, rfl⟩ fl_X11_101 ?_
        refine g_aload_n C dX11_row_42 rfl 0 rfl ?_
        refine g_getI C dX11_row_43 rfl rfl fi_11_58 rfl fl_X11_344 ?_
        refine g_iload_n C dX11_row_46 rfl 1 rfl ?_
        refine g_gd (fun hi6 => ?_)
        refine g_iast C dX11_row_47 rfl rfl rfl hi6 ?_
        refine g_letm (fun u5 => ?_)
        refine g_aload_n C dX11_row_48 rfl 0 rfl ?_
        refine g_dup C dX11_row_49 rfl rfl ?_
        refine g_getI C dX11_row_50 rfl rfl fi_11_58 rfl fl_X11_344 ?_
        refine g_iconst (v := 1) C dX11_row_53 rfl (by decide) ?_
        refine g_iadd C dX11_row_54 rfl ?_
        refine g_putI C dX11_row_55 rfl rfl fp_11_58 rfl fl_X11_344 ?_
        refine g_letm (fun u7 => ?_)
        refine g_aload_n C dX11_row_58 rfl 0 rfl ?_
        refine g_getI C dX11_row_59 rfl rfl fi_11_58 rfl fl_X11_344 ?_
        exact g_iret C M dX11_row_62 rfl rfl
      · refine g_sub (ls' := [(0, .ref ((xE Γ).1 74))]) [0] rfl ?_
        exact pX11_row_31 C M L u1
  · refine g_aload_n C dX11_row_9 rfl 0 rfl ?_
    refine g_bipush (v := (-4)) C dX11_row_10 rfl (by decide) ?_
    refine g_callI [.int (-4)] C dX11_row_12 rfl (tX11_refuse (xl Γ) (xE Γ) (-4) u1) cf_X11_refuse rfl rfl ml_X11_153 rfl (by decide) (Nat.le_of_ble_eq_true rfl) rfl (fun r9 u8 => ?_)
    exact g_iret C M dX11_row_15 rfl rfl
set_option maxRecDepth 20000 in
set_option maxHeartbeats 4000000 in
theorem tX11_row (l : Launch) (E : EE) (v1 : Int32) (u : Mm) : Ct l E yX11_row cX11_row 2 (some .int) 1 [.ref (E.1 74), .int v1] u cvI (gX11_row v1 u) :=
  Ct_of (own := RX11) (by decide +kernel) rfl (Nat.le_of_ble_eq_true rfl) (fun p e R s m args below meth c C M => g_sub (ls' := [(0, .ref (E.1 74)), (1, .int v1)]) [0, 1] rfl (pX11_row_0 C M rfl v1 u))
set_option maxRecDepth 20000 in
set_option maxHeartbeats 4000000 in
theorem pX11_judge_56 {Γ : GX} (C : Cx Γ RX11 cX11_judge 4) (M : Mx Γ (some .int)) (L : xn Γ = 4) (v1 : Int32) (v3 : Int32) (s0 : Int32) {j24 : Int32 → Int32 → Mm → Option (Int32 × Mm)} (hj24 : ∀ (v2 : Int32) (v3 : Int32) (u : Mm), Gp Γ (QM Γ cvI) 24 [(0, .ref ((xE Γ).1 74)), (1, .int v1), (2, .int v2), (3, .int v3)] [] u (j24 v2 v3 u)) (u : Mm) : Gp Γ (QM Γ cvI) 56 [(0, .ref ((xE Γ).1 74)), (1, .int v1), (3, .int v3)] [.int s0] u (gX11_judge_56 j24 v1 v3 s0 u) := by
  unfold gX11_judge_56
  refine g_istore_n (ls' := [(2, .int s0), (0, .ref ((xE Γ).1 74)), (1, .int v1), (3, .int v3)]) C dX11_judge_56 rfl L (by decide) rfl ?_
  refine g_iincL (fun v3_1 => [(3, .int v3_1), (2, .int s0), (0, .ref ((xE Γ).1 74)), (1, .int v1)]) C dX11_judge_57 rfl L (by decide) (k := 3) rfl (iinc_1 _) (fun _ => rfl) (fun v3_1 => ?_)
  refine g_goto 24 C dX11_judge_60 rfl (by decide) ?_
  refine g_sub (ls' := [(0, .ref ((xE Γ).1 74)), (1, .int v1), (2, .int s0), (3, .int v3_1)]) [2, 3, 1, 0] rfl ?_
  exact hj24 s0 v3_1 u
set_option maxRecDepth 20000 in
set_option maxHeartbeats 4000000 in
theorem pX11_judge_63 {Γ : GX} (C : Cx Γ RX11 cX11_judge 4) (M : Mx Γ (some .int)) (L : xn Γ = 4) (v2 : Int32) (u : Mm) : Gp Γ (QM Γ cvI) 63 [(0, .ref ((xE Γ).1 74)), (2, .int v2)] [] u (gX11_judge_63 v2 u) := by
  unfold gX11_judge_63
  refine g_aload_n C dX11_judge_63 rfl 0 rfl ?_
  refine g_callV [] C dX11_judge_64 rfl (tX11_again (xl Γ) (xE Γ) u) cf_X11_again rfl rfl ml_X11_270 rfl (by decide) (Nat.le_of_ble_eq_true rfl) rfl (fun u1 => ?_)
  refine g_iload_n C dX11_judge_67 rfl 1 rfl ?_
  exact g_iret C M dX11_judge_68 rfl rfl
set_option maxRecDepth 20000 in
set_option maxHeartbeats 4000000 in
theorem pX11_judge_24s {Γ : GX} (C : Cx Γ RX11 cX11_judge 4) (M : Mx Γ (some .int)) (L : xn Γ = 4) (v1 : Int32) {j24 : Int32 → Int32 → Mm → Option (Int32 × Mm)} (hj24 : ∀ (v2 : Int32) (v3 : Int32) (u : Mm), Gp Γ (QM Γ cvI) 24 [(0, .ref ((xE Γ).1 74)), (1, .int v1), (2, .int v2), (3, .int v3)] [] u (j24 v2 v3 u)) (v2 : Int32) (v3 : Int32) (u : Mm) : Gp Γ (QM Γ cvI) 24 [(0, .ref ((xE Γ).1 74)), (1, .int v1), (2, .int v2), (3, .int v3)] [] u (gX11_judge_24_Ls v1 j24 v2 v3 u) := by
  unfold gX11_judge_24_Ls
  refine g_iload_n C dX11_judge_24 rfl 3 rfl ?_
  refine g_iload_n C dX11_judge_25 rfl 1 rfl ?_
  refine g_icmp_ge 63 C dX11_judge_26 rfl (by decide) (fun c1 => ?_) (fun c1 => ?_)
  · refine g_sub (ls' := [(0, .ref ((xE Γ).1 74)), (2, .int v2)]) [0, 2] rfl ?_
    exact pX11_judge_63 C M L v2 u
  · refine g_iload_n C dX11_judge_29 rfl 2 rfl ?_
    refine g_if_ge 63 C dX11_judge_30 rfl (by decide) (fun c2 => ?_) (fun c2 => ?_)
    · refine g_sub (ls' := [(0, .ref ((xE Γ).1 74)), (2, .int v2)]) [0, 2] rfl ?_
      exact pX11_judge_63 C M L v2 u
    · refine g_aload_n C dX11_judge_33 rfl 0 rfl ?_
      refine g_callV [] C dX11_judge_34 rfl (tX11_holdOn (xl Γ) (xE Γ) u) cf_X11_holdOn rfl rfl ml_X11_276 rfl (by decide) (Nat.le_of_ble_eq_true rfl) rfl (fun u3 => ?_)
      refine g_aload_n C dX11_judge_37 rfl 0 rfl ?_
      refine g_getI C dX11_judge_38 rfl rfl fi_11_2 rfl fl_X11_127 ?_
      refine g_aload_n C dX11_judge_41 rfl 0 rfl ?_
      refine g_getR (k2 := 100) C dX11_judge_42 rfl rfl fi_11_57 ⟨by decide, by decide, rfl⟩ fl_X11_101 ?_
      refine g_iload_n C dX11_judge_45 rfl 3 rfl ?_
      refine g_gd (fun hi4 => ?_)
      refine g_iald C dX11_judge_46 rfl rfl rfl hi4 ?_
      refine g_icmp_ne 55 C dX11_judge_47 rfl (by decide) (fun c5 => ?_) (fun c5 => ?_)
      · refine g_iload_n C dX11_judge_55 rfl 3 rfl ?_
        refine g_sub (ls' := [(0, .ref ((xE Γ).1 74)), (1, .int v1), (3, .int v3)]) [0, 1, 3] rfl ?_
        exact pX11_judge_56 C M L v1 v3 v3 hj24 u3
      · refine g_bipush (v := (-9)) C dX11_judge_50 rfl (by decide) ?_
        refine g_goto 56 C dX11_judge_52 rfl (by decide) ?_
        refine g_sub (ls' := [(0, .ref ((xE Γ).1 74)), (1, .int v1), (3, .int v3)]) [0, 1, 3] rfl ?_
        exact pX11_judge_56 C M L v1 v3 (-9) hj24 u3
set_option maxRecDepth 20000 in
set_option maxHeartbeats 4000000 in
theorem pX11_judge_24 {Γ : GX} (C : Cx Γ RX11 cX11_judge 4) (M : Mx Γ (some .int)) (L : xn Γ = 4) (v1 : Int32) : ∀ (n : Nat) (v2 : Int32) (v3 : Int32) (u : Mm), Gp Γ (QM Γ cvI) 24 [(0, .ref ((xE Γ).1 74)), (1, .int v1), (2, .int v2), (3, .int v3)] [] u (gX11_judge_24_L v1 n v2 v3 u) := by
  intro n
  induction n with
  | zero => intro _ _ _; exact g_none
  | succ n ih => intro v2 v3 u; exact pX11_judge_24s C M L v1 ih v2 v3 u

set_option maxRecDepth 20000 in
set_option maxHeartbeats 4000000 in
theorem pX11_judge_0 {Γ : GX} (C : Cx Γ RX11 cX11_judge 4) (M : Mx Γ (some .int)) (L : xn Γ = 4) (u : Mm) : Gp Γ (QM Γ cvI) 0 [(0, .ref ((xE Γ).1 74))] [] u (gX11_judge_b u) := by
  unfold gX11_judge_b
  refine g_aload_n C dX11_judge_0 rfl 0 rfl ?_
  refine g_iconst (v := 0) C dX11_judge_1 rfl (by decide) ?_
  refine g_putI C dX11_judge_2 rfl rfl fp_11_19 rfl fl_X11_104 ?_
  refine g_letm (fun u1 => ?_)
  refine g_aload_n C dX11_judge_5 rfl 0 rfl ?_
  refine g_getI C dX11_judge_6 rfl rfl fi_11_58 rfl fl_X11_344 ?_
  refine g_lets (fun v1_2 => ?_)
  refine g_istore_n (ls' := [(1, .int v1_2), (0, .ref ((xE Γ).1 74))]) C dX11_judge_9 rfl L (by decide) rfl ?_
  refine g_aload_n C dX11_judge_10 rfl 1 rfl ?_
  refine g_iconst (v := 0) C dX11_judge_11 rfl (by decide) ?_
  refine g_putI C dX11_judge_12 rfl rfl fp_11_58 rfl fl_X11_344 ?_
  refine g_letm (fun u3 => ?_)
  refine g_bipush (v := (-9)) C dX11_judge_15 rfl (by decide) ?_
  refine g_istore_n (ls' := [(2, .int (-9)), (1, .int v1_2), (0, .ref ((xE Γ).1 74))]) C dX11_judge_17 rfl L (by decide) rfl ?_
  refine g_aload_n C dX11_judge_18 rfl 2 rfl ?_
  refine g_callV [] C dX11_judge_19 rfl (tX11_open (xl Γ) (xE Γ) u3) cf_X11_open rfl rfl ml_X11_291 rfl (by decide) (Nat.le_of_ble_eq_true rfl) rfl (fun u4 => ?_)
  refine g_iconst (v := 0) C dX11_judge_22 rfl (by decide) ?_
  refine g_istore_n (ls' := [(3, .int 0), (2, .int (-9)), (1, .int v1_2), (0, .ref ((xE Γ).1 74))]) C dX11_judge_23 rfl L (by decide) rfl ?_
  refine g_sub (ls' := [(0, .ref ((xE Γ).1 74)), (1, .int v1_2), (2, .int (-9)), (3, .int 0)]) [3, 2, 1, 0] rfl ?_
  exact pX11_judge_24 C M L v1_2 FU (-9) 0 u4
set_option maxRecDepth 20000 in
set_option maxHeartbeats 4000000 in
theorem tX11_judge (l : Launch) (E : EE) (u : Mm) : Ct l E yX11_judge cX11_judge 4 (some .int) 4 [.ref (E.1 74)] u cvI (gX11_judge u) :=
  Ct_of (own := RX11) (by decide +kernel) rfl (Nat.le_of_ble_eq_true rfl) (fun p e R s m args below meth c C M => g_sub (ls' := [(0, .ref (E.1 74))]) [0] rfl (pX11_judge_0 C M rfl u))
set_option maxRecDepth 20000 in
set_option maxHeartbeats 4000000 in
theorem pX11_clear_0 {Γ : GX} (C : Cx Γ RX11 cX11_clear 0) (M : Mx Γ (some .int)) (L : xn Γ = 2) (u : Mm) : Gp Γ (QM Γ cvI) 0 [(0, .ref ((xE Γ).1 74))] [] u (gX11_clear_b u) := by
  unfold gX11_clear_b
  refine g_aload_n C dX11_clear_0 rfl 0 rfl ?_
  refine g_iconst (v := 0) C dX11_clear_1 rfl (by decide) ?_
  refine g_putI C dX11_clear_2 rfl rfl fp_11_19 rfl fl_X11_104 ?_
  refine g_letm (fun u1 => ?_)
  refine g_aload_n C dX11_clear_5 rfl 0 rfl ?_
  refine g_getI C dX11_clear_6 rfl rfl fi_11_58 rfl fl_X11_344 ?_
  refine g_lets (fun v1_2 => ?_)
  refine g_istore_n (ls' := [(1, .int v1_2), (0, .ref ((xE Γ).1 74))]) C dX11_clear_9 rfl L (by decide) rfl ?_
  refine g_aload_n C dX11_clear_10 rfl 1 rfl ?_
  refine g_iconst (v := 0) C dX11_clear_11 rfl (by decide) ?_
  refine g_putI C dX11_clear_12 rfl rfl fp_11_58 rfl fl_X11_344 ?_
  refine g_letm (fun u3 => ?_)
  refine g_iload_n C dX11_clear_15 rfl 0 rfl ?_
  exact g_iret C M dX11_clear_16 rfl rfl
set_option maxRecDepth 20000 in
set_option maxHeartbeats 4000000 in
theorem tX11_clear (l : Launch) (E : EE) (u : Mm) : Ct l E yX11_clear cX11_clear 2 (some .int) 0 [.ref (E.1 74)] u cvI (gX11_clear u) :=
  Ct_of (own := RX11) (by decide +kernel) rfl (Nat.le_of_ble_eq_true rfl) (fun p e R s m args below meth c C M => g_sub (ls' := [(0, .ref (E.1 74))]) [0] rfl (pX11_clear_0 C M rfl u))
set_option maxRecDepth 20000 in
set_option maxHeartbeats 4000000 in
theorem pX11_lots_136 {Γ : GX} (C : Cx Γ RX11 cX11_lots 3) (M : Mx Γ (some .int)) (L : xn Γ = 12) (v1 : Int32) (v3 : Int32) (v5 : Int32) (v6 : Int32) (v7 : Int32) (v8 : Int32) (v10 : Int32) (s0 : Int32) {j47 : Int32 → Int32 → Int32 → Int32 → Mm → Option (Int32 × Mm)} (hj47 : ∀ (v5 : Int32) (v6 : Int32) (v7 : Int32) (v8 : Int32) (u : Mm), Gp Γ (QM Γ cvI) 47 [(0, .ref ((xE Γ).1 74)), (1, .int v1), (3, .int v3), (5, .int v5), (6, .int v6), (7, .int v7), (8, .int v8)] [] u (j47 v5 v6 v7 v8 u)) {j63 : Int32 → Int32 → Int32 → Mm → Option (Int32 × Mm)} (hj63 : ∀ (v5 : Int32) (v9 : Int32) (v10 : Int32) (u : Mm), Gp Γ (QM Γ cvI) 63 [(0, .ref ((xE Γ).1 74)), (1, .int v1), (3, .int v3), (5, .int v5), (6, .int v6), (7, .int v7), (8, .int v8), (9, .int v9), (10, .int v10)] [] u (j63 v5 v9 v10 u)) (u : Mm) : Gp Γ (QM Γ cvI) 136 [(0, .ref ((xE Γ).1 74)), (1, .int v1), (3, .int v3), (5, .int v5), (6, .int v6), (7, .int v7), (8, .int v8), (10, .int v10)] [.int s0] u (gX11_lots_136 j47 j63 v1 v3 v5 v6 v7 v8 v10 s0 u) := by
  unfold gX11_lots_136
  refine g_istore (ls' := [(9, .int s0), (0, .ref ((xE Γ).1 74)), (1, .int v1), (3, .int v3), (5, .int v5), (6, .int v6), (7, .int v7), (8, .int v8), (10, .int v10)]) C dX11_lots_136 rfl L (by decide) rfl ?_
  refine g_iincL (fun v10_1 => [(10, .int v10_1), (9, .int s0), (0, .ref ((xE Γ).1 74)), (1, .int v1), (3, .int v3), (5, .int v5), (6, .int v6), (7, .int v7), (8, .int v8)]) C dX11_lots_138 rfl L (by decide) (k := 8) rfl (iinc_1 _) (fun _ => rfl) (fun v10_1 => ?_)
  refine g_goto 63 C dX11_lots_141 rfl (by decide) ?_
  refine g_sub (ls' := [(0, .ref ((xE Γ).1 74)), (1, .int v1), (3, .int v3), (5, .int v5), (6, .int v6), (7, .int v7), (8, .int v8), (9, .int s0), (10, .int v10_1)]) [2, 3, 4, 5, 6, 7, 8, 1, 0] rfl ?_
  exact hj63 v5 s0 v10_1 u
set_option maxRecDepth 20000 in
set_option maxHeartbeats 4000000 in
theorem pX11_lots_121 {Γ : GX} (C : Cx Γ RX11 cX11_lots 3) (M : Mx Γ (some .int)) (L : xn Γ = 12) (v1 : Int32) (v3 : Int32) (v5 : Int32) (v6 : Int32) (v7 : Int32) (v8 : Int32) (v10 : Int32) (s0 : Int32) {j47 : Int32 → Int32 → Int32 → Int32 → Mm → Option (Int32 × Mm)} (hj47 : ∀ (v5 : Int32) (v6 : Int32) (v7 : Int32) (v8 : Int32) (u : Mm), Gp Γ (QM Γ cvI) 47 [(0, .ref ((xE Γ).1 74)), (1, .int v1), (3, .int v3), (5, .int v5), (6, .int v6), (7, .int v7), (8, .int v8)] [] u (j47 v5 v6 v7 v8 u)) {j63 : Int32 → Int32 → Int32 → Mm → Option (Int32 × Mm)} (hj63 : ∀ (v5 : Int32) (v9 : Int32) (v10 : Int32) (u : Mm), Gp Γ (QM Γ cvI) 63 [(0, .ref ((xE Γ).1 74)), (1, .int v1), (3, .int v3), (5, .int v5), (6, .int v6), (7, .int v7), (8, .int v8), (9, .int v9), (10, .int v10)] [] u (j63 v5 v9 v10 u)) (u : Mm) : Gp Γ (QM Γ cvI) 121 [(0, .ref ((xE Γ).1 74)), (1, .int v1), (3, .int v3), (5, .int v5), (6, .int v6), (7, .int v7), (8, .int v8), (10, .int v10)] [.int s0, .ref ((xE Γ).1 74)] u (gX11_lots_121 j47 j63 v1 v3 v5 v6 v7 v8 v10 s0 u) := by
  unfold gX11_lots_121
  refine g_callV [.int s0] C dX11_lots_121 rfl (tX11_stepOn (xl Γ) (xE Γ) s0 u) cf_X11_stepOn rfl rfl ml_X11_142 rfl (by decide) (Nat.le_of_ble_eq_true rfl) rfl (fun u1 => ?_)
  refine g_aload_n C dX11_lots_124 rfl 0 rfl ?_
  refine g_getI C dX11_lots_125 rfl rfl fi_11_2 rfl fl_X11_127 ?_
  refine g_if_ne 135 C dX11_lots_128 rfl (by decide) (fun c2 => ?_) (fun c2 => ?_)
  · refine g_iconst (v := 0) C dX11_lots_135 rfl (by decide) ?_
    exact pX11_lots_136 C M L v1 v3 v5 v6 v7 v8 v10 0 hj47 hj63 u1
  · refine g_iconst (v := 1) C dX11_lots_131 rfl (by decide) ?_
    refine g_goto 136 C dX11_lots_132 rfl (by decide) ?_
    exact pX11_lots_136 C M L v1 v3 v5 v6 v7 v8 v10 1 hj47 hj63 u1
set_option maxRecDepth 20000 in
set_option maxHeartbeats 4000000 in
theorem pX11_lots_119 {Γ : GX} (C : Cx Γ RX11 cX11_lots 3) (M : Mx Γ (some .int)) (L : xn Γ = 12) (v1 : Int32) (v3 : Int32) (v5 : Int32) (v6 : Int32) (v7 : Int32) (v8 : Int32) (v10 : Int32) (v11 : Int32) {j47 : Int32 → Int32 → Int32 → Int32 → Mm → Option (Int32 × Mm)} (hj47 : ∀ (v5 : Int32) (v6 : Int32) (v7 : Int32) (v8 : Int32) (u : Mm), Gp Γ (QM Γ cvI) 47 [(0, .ref ((xE Γ).1 74)), (1, .int v1), (3, .int v3), (5, .int v5), (6, .int v6), (7, .int v7), (8, .int v8)] [] u (j47 v5 v6 v7 v8 u)) {j63 : Int32 → Int32 → Int32 → Mm → Option (Int32 × Mm)} (hj63 : ∀ (v5 : Int32) (v9 : Int32) (v10 : Int32) (u : Mm), Gp Γ (QM Γ cvI) 63 [(0, .ref ((xE Γ).1 74)), (1, .int v1), (3, .int v3), (5, .int v5), (6, .int v6), (7, .int v7), (8, .int v8), (9, .int v9), (10, .int v10)] [] u (j63 v5 v9 v10 u)) (u : Mm) : Gp Γ (QM Γ cvI) 119 [(0, .ref ((xE Γ).1 74)), (1, .int v1), (3, .int v3), (5, .int v5), (6, .int v6), (7, .int v7), (8, .int v8), (10, .int v10), (11, .int v11)] [.ref ((xE Γ).1 74)] u (gX11_lots_119 j47 j63 v1 v3 v5 v6 v7 v8 v10 v11 u) := by
  unfold gX11_lots_119
  refine g_iload C dX11_lots_119 rfl 8 rfl ?_
  refine g_sub (ls' := [(0, .ref ((xE Γ).1 74)), (1, .int v1), (3, .int v3), (5, .int v5), (6, .int v6), (7, .int v7), (8, .int v8), (10, .int v10)]) [0, 1, 2, 3, 4, 5, 6, 7] rfl ?_
  exact pX11_lots_121 C M L v1 v3 v5 v6 v7 v8 v10 v11 hj47 hj63 u
set_option maxRecDepth 20000 in
set_option maxHeartbeats 4000000 in
theorem pX11_lots_172 {Γ : GX} (C : Cx Γ RX11 cX11_lots 3) (M : Mx Γ (some .int)) (L : xn Γ = 12) (v1 : Int32) (v3 : Int32) (v5 : Int32) (v7 : Int32) (v8 : Int32) (v10 : Int32) (s0 : Int32) (s1 : Int32) {j47 : Int32 → Int32 → Int32 → Int32 → Mm → Option (Int32 × Mm)} (hj47 : ∀ (v5 : Int32) (v6 : Int32) (v7 : Int32) (v8 : Int32) (u : Mm), Gp Γ (QM Γ cvI) 47 [(0, .ref ((xE Γ).1 74)), (1, .int v1), (3, .int v3), (5, .int v5), (6, .int v6), (7, .int v7), (8, .int v8)] [] u (j47 v5 v6 v7 v8 u)) (u : Mm) : Gp Γ (QM Γ cvI) 172 [(0, .ref ((xE Γ).1 74)), (1, .int v1), (3, .int v3), (5, .int v5), (7, .int v7), (8, .int v8), (10, .int v10)] [.int s0, .int s1] u (gX11_lots_172 j47 v1 v3 v5 v7 v8 v10 s0 s1 u) := by
  unfold gX11_lots_172
  refine g_iadd C dX11_lots_172 rfl ?_
  refine g_lets (fun v6_1 => ?_)
  refine g_istore (ls' := [(6, .int v6_1), (0, .ref ((xE Γ).1 74)), (1, .int v1), (3, .int v3), (5, .int v5), (7, .int v7), (8, .int v8), (10, .int v10)]) C dX11_lots_173 rfl L (by decide) rfl ?_
  refine g_iload C dX11_lots_175 rfl 5 rfl ?_
  refine g_aload_n C dX11_lots_177 rfl 1 rfl ?_
  refine g_iload C dX11_lots_178 rfl 7 rfl ?_
  refine g_aload_n C dX11_lots_180 rfl 1 rfl ?_
  refine g_getI C dX11_lots_181 rfl rfl fi_11_21 rfl fl_X11_130 ?_
  refine g_callP [.int v10, .int (u 74 21)] C dX11_lots_184 rfl (tX11_costOf (xl Γ) (xE Γ) v10 (u 74 21) u) cf_X11_costOf rfl rfl ml_X11_259 rfl (by decide) (Nat.le_of_ble_eq_true rfl) rfl (fun r2 => ?_)
  refine g_iadd C dX11_lots_187 rfl ?_
  refine g_lets (fun v7_3 => ?_)
  refine g_istore (ls' := [(7, .int v7_3), (6, .int v6_1), (0, .ref ((xE Γ).1 74)), (1, .int v1), (3, .int v3), (5, .int v5), (8, .int v8), (10, .int v10)]) C dX11_lots_188 rfl L (by decide) rfl ?_
  refine g_iincL (fun v8_4 => [(8, .int v8_4), (7, .int v7_3), (6, .int v6_1), (0, .ref ((xE Γ).1 74)), (1, .int v1), (3, .int v3), (5, .int v5), (10, .int v10)]) C dX11_lots_190 rfl L (by decide) (k := 6) rfl (iinc_1 _) (fun _ => rfl) (fun v8_4 => ?_)
  refine g_goto 47 C dX11_lots_193 rfl (by decide) ?_
  refine g_sub (ls' := [(0, .ref ((xE Γ).1 74)), (1, .int v1), (3, .int v3), (5, .int v5), (6, .int v6_1), (7, .int v7_3), (8, .int v8_4)]) [3, 4, 5, 6, 2, 1, 0] rfl ?_
  exact hj47 v5 v6_1 v7_3 v8_4 u
set_option maxRecDepth 20000 in
set_option maxHeartbeats 4000000 in
theorem pX11_lots_158 {Γ : GX} (C : Cx Γ RX11 cX11_lots 3) (M : Mx Γ (some .int)) (L : xn Γ = 12) (v1 : Int32) (v3 : Int32) (v5 : Int32) (v6 : Int32) (v7 : Int32) (v8 : Int32) (s0 : Int32) {j47 : Int32 → Int32 → Int32 → Int32 → Mm → Option (Int32 × Mm)} (hj47 : ∀ (v5 : Int32) (v6 : Int32) (v7 : Int32) (v8 : Int32) (u : Mm), Gp Γ (QM Γ cvI) 47 [(0, .ref ((xE Γ).1 74)), (1, .int v1), (3, .int v3), (5, .int v5), (6, .int v6), (7, .int v7), (8, .int v8)] [] u (j47 v5 v6 v7 v8 u)) (u : Mm) : Gp Γ (QM Γ cvI) 158 [(0, .ref ((xE Γ).1 74)), (1, .int v1), (3, .int v3), (5, .int v5), (6, .int v6), (7, .int v7), (8, .int v8)] [.int s0] u (gX11_lots_158 j47 v1 v3 v5 v6 v7 v8 s0 u) := by
  unfold gX11_lots_158
  refine g_istore (ls' := [(10, .int s0), (0, .ref ((xE Γ).1 74)), (1, .int v1), (3, .int v3), (5, .int v5), (6, .int v6), (7, .int v7), (8, .int v8)]) C dX11_lots_158 rfl L (by decide) rfl ?_
  refine g_iload C dX11_lots_160 rfl 5 rfl ?_
  refine g_iload C dX11_lots_162 rfl 0 rfl ?_
  refine g_if_lt 171 C dX11_lots_164 rfl (by decide) (fun c1 => ?_) (fun c1 => ?_)
  · refine g_iconst (v := 0) C dX11_lots_171 rfl (by decide) ?_
    refine g_sub (ls' := [(0, .ref ((xE Γ).1 74)), (1, .int v1), (3, .int v3), (5, .int v5), (7, .int v7), (8, .int v8), (10, .int s0)]) [1, 2, 3, 4, 6, 7, 0] rfl ?_
    exact pX11_lots_172 C M L v1 v3 v5 v7 v8 s0 0 v6 hj47 u
  · refine g_iconst (v := 1) C dX11_lots_167 rfl (by decide) ?_
    refine g_goto 172 C dX11_lots_168 rfl (by decide) ?_
    refine g_sub (ls' := [(0, .ref ((xE Γ).1 74)), (1, .int v1), (3, .int v3), (5, .int v5), (7, .int v7), (8, .int v8), (10, .int s0)]) [1, 2, 3, 4, 6, 7, 0] rfl ?_
    exact pX11_lots_172 C M L v1 v3 v5 v7 v8 s0 1 v6 hj47 u
set_option maxRecDepth 20000 in
set_option maxHeartbeats 4000000 in
theorem pX11_lots_144 {Γ : GX} (C : Cx Γ RX11 cX11_lots 3) (M : Mx Γ (some .int)) (L : xn Γ = 12) (v1 : Int32) (v3 : Int32) (v5 : Int32) (v6 : Int32) (v7 : Int32) (v8 : Int32) (v9 : Int32) {j47 : Int32 → Int32 → Int32 → Int32 → Mm → Option (Int32 × Mm)} (hj47 : ∀ (v5 : Int32) (v6 : Int32) (v7 : Int32) (v8 : Int32) (u : Mm), Gp Γ (QM Γ cvI) 47 [(0, .ref ((xE Γ).1 74)), (1, .int v1), (3, .int v3), (5, .int v5), (6, .int v6), (7, .int v7), (8, .int v8)] [] u (j47 v5 v6 v7 v8 u)) (u : Mm) : Gp Γ (QM Γ cvI) 144 [(0, .ref ((xE Γ).1 74)), (1, .int v1), (3, .int v3), (5, .int v5), (6, .int v6), (7, .int v7), (8, .int v8), (9, .int v9)] [] u (gX11_lots_144 j47 v1 v3 v5 v6 v7 v8 v9 u) := by
  unfold gX11_lots_144
  refine g_iload C dX11_lots_144 rfl 7 rfl ?_
  refine g_if_eq 156 C dX11_lots_146 rfl (by decide) (fun c1 => ?_) (fun c1 => ?_)
  · refine g_bipush (v := (-9)) C dX11_lots_156 rfl (by decide) ?_
    refine g_sub (ls' := [(0, .ref ((xE Γ).1 74)), (1, .int v1), (3, .int v3), (5, .int v5), (6, .int v6), (7, .int v7), (8, .int v8)]) [0, 1, 2, 3, 4, 5, 6] rfl ?_
    exact pX11_lots_158 C M L v1 v3 v5 v6 v7 v8 (-9) hj47 u
  · refine g_aload_n C dX11_lots_149 rfl 0 rfl ?_
    refine g_callP [] C dX11_lots_150 rfl (tX11_fieldAt (xl Γ) (xE Γ) u) cf_X11_fieldAt rfl rfl ml_X11_285 rfl (by decide) (Nat.le_of_ble_eq_true rfl) rfl (fun r2 => ?_)
    refine g_goto 158 C dX11_lots_153 rfl (by decide) ?_
    refine g_sub (ls' := [(0, .ref ((xE Γ).1 74)), (1, .int v1), (3, .int v3), (5, .int v5), (6, .int v6), (7, .int v7), (8, .int v8)]) [0, 1, 2, 3, 4, 5, 6] rfl ?_
    exact pX11_lots_158 C M L v1 v3 v5 v6 v7 v8 r2 hj47 u
set_option maxRecDepth 20000 in
set_option maxHeartbeats 4000000 in
theorem pX11_lots_63s {Γ : GX} (C : Cx Γ RX11 cX11_lots 3) (M : Mx Γ (some .int)) (L : xn Γ = 12) (v1 : Int32) (v3 : Int32) (v6 : Int32) (v7 : Int32) (v8 : Int32) {j47 : Int32 → Int32 → Int32 → Int32 → Mm → Option (Int32 × Mm)} (hj47 : ∀ (v5 : Int32) (v6 : Int32) (v7 : Int32) (v8 : Int32) (u : Mm), Gp Γ (QM Γ cvI) 47 [(0, .ref ((xE Γ).1 74)), (1, .int v1), (3, .int v3), (5, .int v5), (6, .int v6), (7, .int v7), (8, .int v8)] [] u (j47 v5 v6 v7 v8 u)) {j63 : Int32 → Int32 → Int32 → Mm → Option (Int32 × Mm)} (hj63 : ∀ (v5 : Int32) (v9 : Int32) (v10 : Int32) (u : Mm), Gp Γ (QM Γ cvI) 63 [(0, .ref ((xE Γ).1 74)), (1, .int v1), (3, .int v3), (5, .int v5), (6, .int v6), (7, .int v7), (8, .int v8), (9, .int v9), (10, .int v10)] [] u (j63 v5 v9 v10 u)) (v5 : Int32) (v9 : Int32) (v10 : Int32) (u : Mm) : Gp Γ (QM Γ cvI) 63 [(0, .ref ((xE Γ).1 74)), (1, .int v1), (3, .int v3), (5, .int v5), (6, .int v6), (7, .int v7), (8, .int v8), (9, .int v9), (10, .int v10)] [] u (gX11_lots_63_Ls j47 v1 v3 v6 v7 v8 j63 v5 v9 v10 u) := by
  unfold gX11_lots_63_Ls
  refine g_iload C dX11_lots_63 rfl 8 rfl ?_
  refine g_bipush (v := 40) C dX11_lots_65 rfl (by decide) ?_
  refine g_icmp_ge 144 C dX11_lots_67 rfl (by decide) (fun c1 => ?_) (fun c1 => ?_)
  · refine g_sub (ls' := [(0, .ref ((xE Γ).1 74)), (1, .int v1), (3, .int v3), (5, .int v5), (6, .int v6), (7, .int v7), (8, .int v8), (9, .int v9)]) [0, 1, 2, 3, 4, 5, 6, 7] rfl ?_
    exact pX11_lots_144 C M L v1 v3 v5 v6 v7 v8 v9 hj47 u
  · refine g_iload C dX11_lots_70 rfl 7 rfl ?_
    refine g_if_ne 144 C dX11_lots_72 rfl (by decide) (fun c2 => ?_) (fun c2 => ?_)
    · refine g_sub (ls' := [(0, .ref ((xE Γ).1 74)), (1, .int v1), (3, .int v3), (5, .int v5), (6, .int v6), (7, .int v7), (8, .int v8), (9, .int v9)]) [0, 1, 2, 3, 4, 5, 6, 7] rfl ?_
      exact pX11_lots_144 C M L v1 v3 v5 v6 v7 v8 v9 hj47 u
    · refine g_iload C dX11_lots_75 rfl 3 rfl ?_
      refine g_ldc_w (v := 1103515245) C dX11_lots_77 rfl (wm_47 22 rfl) ?_
      refine g_imul C dX11_lots_80 rfl ?_
      refine g_sipush (v := 12345) C dX11_lots_81 rfl (by decide) ?_
      refine g_iadd C dX11_lots_84 rfl ?_
      refine g_lets (fun v5_3 => ?_)
      refine g_istore (ls' := [(5, .int v5_3), (0, .ref ((xE Γ).1 74)), (1, .int v1), (3, .int v3), (6, .int v6), (7, .int v7), (8, .int v8), (9, .int v9), (10, .int v10)]) C dX11_lots_85 rfl L (by decide) rfl ?_
      refine g_iload C dX11_lots_87 rfl 0 rfl ?_
      refine g_ldc_w (v := 2147483647) C dX11_lots_89 rfl (wm_47 23 rfl) ?_
      refine g_iand C dX11_lots_92 rfl ?_
      refine g_ldc_w (v := 65536) C dX11_lots_93 rfl (wm_48 0 rfl) ?_
      refine g_idiv C dX11_lots_96 rfl (by decide) ?_
      refine g_iconst (v := 3) C dX11_lots_97 rfl (by decide) ?_
      refine g_irem C dX11_lots_98 rfl (by decide) ?_
      refine g_lets (fun v11_4 => ?_)
      refine g_istore (ls' := [(11, .int v11_4), (5, .int v5_3), (0, .ref ((xE Γ).1 74)), (1, .int v1), (3, .int v3), (6, .int v6), (7, .int v7), (8, .int v8), (9, .int v9), (10, .int v10)]) C dX11_lots_99 rfl L (by decide) rfl ?_
      refine g_aload_n C dX11_lots_101 rfl 2 rfl ?_
      refine g_iload C dX11_lots_102 rfl 0 rfl ?_
      refine g_iconst (v := 1) C dX11_lots_104 rfl (by decide) ?_
      refine g_icmp_ne 119 C dX11_lots_105 rfl (by decide) (fun c5 => ?_) (fun c5 => ?_)
      · refine g_sub (ls' := [(0, .ref ((xE Γ).1 74)), (1, .int v1), (3, .int v3), (5, .int v5_3), (6, .int v6), (7, .int v7), (8, .int v8), (10, .int v10), (11, .int v11_4)]) [2, 3, 4, 1, 5, 6, 7, 9, 0] rfl ?_
        exact pX11_lots_119 C M L v1 v3 v5_3 v6 v7 v8 v10 v11_4 hj47 hj63 u
      · refine g_aload_n C dX11_lots_108 rfl 2 rfl ?_
        refine g_getI C dX11_lots_109 rfl rfl fi_11_6 rfl fl_X11_23 ?_
        refine g_if_ne 119 C dX11_lots_112 rfl (by decide) (fun c6 => ?_) (fun c6 => ?_)
        · refine g_sub (ls' := [(0, .ref ((xE Γ).1 74)), (1, .int v1), (3, .int v3), (5, .int v5_3), (6, .int v6), (7, .int v7), (8, .int v8), (10, .int v10), (11, .int v11_4)]) [2, 3, 4, 1, 5, 6, 7, 9, 0] rfl ?_
          exact pX11_lots_119 C M L v1 v3 v5_3 v6 v7 v8 v10 v11_4 hj47 hj63 u
        · refine g_iconst (v := 0) C dX11_lots_115 rfl (by decide) ?_
          refine g_goto 121 C dX11_lots_116 rfl (by decide) ?_
          refine g_sub (ls' := [(0, .ref ((xE Γ).1 74)), (1, .int v1), (3, .int v3), (5, .int v5_3), (6, .int v6), (7, .int v7), (8, .int v8), (10, .int v10)]) [2, 3, 4, 1, 5, 6, 7, 9] rfl ?_
          exact pX11_lots_121 C M L v1 v3 v5_3 v6 v7 v8 v10 0 hj47 hj63 u
set_option maxRecDepth 20000 in
set_option maxHeartbeats 4000000 in
theorem pX11_lots_63 {Γ : GX} (C : Cx Γ RX11 cX11_lots 3) (M : Mx Γ (some .int)) (L : xn Γ = 12) (v1 : Int32) (v3 : Int32) (v6 : Int32) (v7 : Int32) (v8 : Int32) {j47 : Int32 → Int32 → Int32 → Int32 → Mm → Option (Int32 × Mm)} (hj47 : ∀ (v5 : Int32) (v6 : Int32) (v7 : Int32) (v8 : Int32) (u : Mm), Gp Γ (QM Γ cvI) 47 [(0, .ref ((xE Γ).1 74)), (1, .int v1), (3, .int v3), (5, .int v5), (6, .int v6), (7, .int v7), (8, .int v8)] [] u (j47 v5 v6 v7 v8 u)) : ∀ (n : Nat) (v5 : Int32) (v9 : Int32) (v10 : Int32) (u : Mm), Gp Γ (QM Γ cvI) 63 [(0, .ref ((xE Γ).1 74)), (1, .int v1), (3, .int v3), (5, .int v5), (6, .int v6), (7, .int v7), (8, .int v8), (9, .int v9), (10, .int v10)] [] u (gX11_lots_63_L j47 v1 v3 v6 v7 v8 n v5 v9 v10 u) := by
  intro n
  induction n with
  | zero => intro _ _ _ _; exact g_none
  | succ n ih => intro v5 v9 v10 u; exact pX11_lots_63s C M L v1 v3 v6 v7 v8 hj47 ih v5 v9 v10 u

set_option maxRecDepth 20000 in
set_option maxHeartbeats 4000000 in
theorem pX11_lots_47s {Γ : GX} (C : Cx Γ RX11 cX11_lots 3) (M : Mx Γ (some .int)) (L : xn Γ = 12) (v1 : Int32) (v3 : Int32) {j47 : Int32 → Int32 → Int32 → Int32 → Mm → Option (Int32 × Mm)} (hj47 : ∀ (v5 : Int32) (v6 : Int32) (v7 : Int32) (v8 : Int32) (u : Mm), Gp Γ (QM Γ cvI) 47 [(0, .ref ((xE Γ).1 74)), (1, .int v1), (3, .int v3), (5, .int v5), (6, .int v6), (7, .int v7), (8, .int v8)] [] u (j47 v5 v6 v7 v8 u)) (v5 : Int32) (v6 : Int32) (v7 : Int32) (v8 : Int32) (u : Mm) : Gp Γ (QM Γ cvI) 47 [(0, .ref ((xE Γ).1 74)), (1, .int v1), (3, .int v3), (5, .int v5), (6, .int v6), (7, .int v7), (8, .int v8)] [] u (gX11_lots_47_Ls v1 v3 j47 v5 v6 v7 v8 u) := by
  unfold gX11_lots_47_Ls
  refine g_iload C dX11_lots_47 rfl 6 rfl ?_
  refine g_iload_n C dX11_lots_49 rfl 1 rfl ?_
  refine g_icmp_ge 196 C dX11_lots_50 rfl (by decide) (fun c1 => ?_) (fun c1 => ?_)
  · refine g_aload_n C dX11_lots_196 rfl 0 rfl ?_
    refine g_callV [] C dX11_lots_197 rfl (tX11_again (xl Γ) (xE Γ) u) cf_X11_again rfl rfl ml_X11_270 rfl (by decide) (Nat.le_of_ble_eq_true rfl) rfl (fun u2 => ?_)
    refine g_iload_n C dX11_lots_200 rfl 2 rfl ?_
    refine g_if_ne 209 C dX11_lots_201 rfl (by decide) (fun c3 => ?_) (fun c3 => ?_)
    · refine g_iload C dX11_lots_209 rfl 5 rfl ?_
      exact g_iret C M dX11_lots_211 rfl rfl
    · refine g_iload C dX11_lots_204 rfl 4 rfl ?_
      refine g_goto 211 C dX11_lots_206 rfl (by decide) ?_
      exact g_iret C M dX11_lots_211 rfl rfl
  · refine g_aload_n C dX11_lots_53 rfl 0 rfl ?_
    refine g_callV [] C dX11_lots_54 rfl (tX11_again (xl Γ) (xE Γ) u) cf_X11_again rfl rfl ml_X11_270 rfl (by decide) (Nat.le_of_ble_eq_true rfl) rfl (fun u4 => ?_)
    refine g_iconst (v := 0) C dX11_lots_57 rfl (by decide) ?_
    refine g_istore (ls' := [(9, .int 0), (0, .ref ((xE Γ).1 74)), (1, .int v1), (3, .int v3), (5, .int v5), (6, .int v6), (7, .int v7), (8, .int v8)]) C dX11_lots_58 rfl L (by decide) rfl ?_
    refine g_iconst (v := 0) C dX11_lots_60 rfl (by decide) ?_
    refine g_istore (ls' := [(10, .int 0), (9, .int 0), (0, .ref ((xE Γ).1 74)), (1, .int v1), (3, .int v3), (5, .int v5), (6, .int v6), (7, .int v7), (8, .int v8)]) C dX11_lots_61 rfl L (by decide) rfl ?_
    refine g_sub (ls' := [(0, .ref ((xE Γ).1 74)), (1, .int v1), (3, .int v3), (5, .int v5), (6, .int v6), (7, .int v7), (8, .int v8), (9, .int 0), (10, .int 0)]) [2, 3, 4, 5, 6, 7, 8, 1, 0] rfl ?_
    exact pX11_lots_63 C M L v1 v3 v6 v7 v8 hj47 FU v5 0 0 u4
set_option maxRecDepth 20000 in
set_option maxHeartbeats 4000000 in
theorem pX11_lots_47 {Γ : GX} (C : Cx Γ RX11 cX11_lots 3) (M : Mx Γ (some .int)) (L : xn Γ = 12) (v1 : Int32) (v3 : Int32) : ∀ (n : Nat) (v5 : Int32) (v6 : Int32) (v7 : Int32) (v8 : Int32) (u : Mm), Gp Γ (QM Γ cvI) 47 [(0, .ref ((xE Γ).1 74)), (1, .int v1), (3, .int v3), (5, .int v5), (6, .int v6), (7, .int v7), (8, .int v8)] [] u (gX11_lots_47_L v1 v3 n v5 v6 v7 v8 u) := by
  intro n
  induction n with
  | zero => intro _ _ _ _ _; exact g_none
  | succ n ih => intro v5 v6 v7 v8 u; exact pX11_lots_47s C M L v1 v3 ih v5 v6 v7 v8 u

set_option maxRecDepth 20000 in
set_option maxHeartbeats 4000000 in
theorem pX11_lots_0 {Γ : GX} (C : Cx Γ RX11 cX11_lots 3) (M : Mx Γ (some .int)) (L : xn Γ = 12) (v1 : Int32) (v2 : Int32) (v3 : Int32) (u : Mm) : Gp Γ (QM Γ cvI) 0 [(0, .ref ((xE Γ).1 74)), (1, .int v1), (2, .int v2), (3, .int v3)] [] u (gX11_lots_b v1 v2 v3 u) := by
  unfold gX11_lots_b
  refine g_aload_n C dX11_lots_0 rfl 0 rfl ?_
  refine g_iconst (v := 0) C dX11_lots_1 rfl (by decide) ?_
  refine g_putI C dX11_lots_2 rfl rfl fp_11_19 rfl fl_X11_104 ?_
  refine g_letm (fun u1 => ?_)
  refine g_iload_n C dX11_lots_5 rfl 1 rfl ?_
  refine g_iconst (v := 1) C dX11_lots_6 rfl (by decide) ?_
  refine g_bipush (v := 20) C dX11_lots_7 rfl (by decide) ?_
  refine g_callsP [.int v1, .int 1, .int 20] C dX11_lots_9 rfl (tX11_wrongNumber (xl Γ) (xE Γ) v1 1 20 u1) cf_X11_wrongNumber ml_X11_255 rfl (by decide) (Nat.le_of_ble_eq_true rfl) rfl (fun r2 => ?_)
  refine g_iload_n C dX11_lots_12 rfl 3 rfl ?_
  refine g_iconst (v := 1) C dX11_lots_13 rfl (by decide) ?_
  refine g_callsP [.int r2, .int v3, .int 1] C dX11_lots_14 rfl (tX11_wrongBit (xl Γ) (xE Γ) r2 v3 1 u1) cf_X11_wrongBit ml_X11_288 rfl (by decide) (Nat.le_of_ble_eq_true rfl) rfl (fun r3 => ?_)
  refine g_istore (ls' := [(4, .int r3), (0, .ref ((xE Γ).1 74)), (1, .int v1), (2, .int v2), (3, .int v3)]) C dX11_lots_17 rfl L (by decide) rfl ?_
  refine g_iload C dX11_lots_19 rfl 0 rfl ?_
  refine g_if_ge 31 C dX11_lots_21 rfl (by decide) (fun c4 => ?_) (fun c4 => ?_)
  · refine g_iload_n C dX11_lots_31 rfl 3 rfl ?_
    refine g_istore (ls' := [(5, .int v2), (4, .int r3), (0, .ref ((xE Γ).1 74)), (1, .int v1), (2, .int v2), (3, .int v3)]) C dX11_lots_32 rfl L (by decide) rfl ?_
    refine g_iconst (v := 0) C dX11_lots_34 rfl (by decide) ?_
    refine g_istore (ls' := [(6, .int 0), (5, .int v2), (4, .int r3), (0, .ref ((xE Γ).1 74)), (1, .int v1), (2, .int v2), (3, .int v3)]) C dX11_lots_35 rfl L (by decide) rfl ?_
    refine g_iconst (v := 0) C dX11_lots_37 rfl (by decide) ?_
    refine g_istore (ls' := [(7, .int 0), (6, .int 0), (5, .int v2), (4, .int r3), (0, .ref ((xE Γ).1 74)), (1, .int v1), (2, .int v2), (3, .int v3)]) C dX11_lots_38 rfl L (by decide) rfl ?_
    refine g_aload_n C dX11_lots_40 rfl 4 rfl ?_
    refine g_callV [] C dX11_lots_41 rfl (tX11_open (xl Γ) (xE Γ) u1) cf_X11_open rfl rfl ml_X11_291 rfl (by decide) (Nat.le_of_ble_eq_true rfl) rfl (fun u5 => ?_)
    refine g_iconst (v := 0) C dX11_lots_44 rfl (by decide) ?_
    refine g_istore (ls' := [(8, .int 0), (7, .int 0), (6, .int 0), (5, .int v2), (4, .int r3), (0, .ref ((xE Γ).1 74)), (1, .int v1), (2, .int v2), (3, .int v3)]) C dX11_lots_45 rfl L (by decide) rfl ?_
    refine g_sub (ls' := [(0, .ref ((xE Γ).1 74)), (1, .int v1), (3, .int v3), (5, .int v2), (6, .int 0), (7, .int 0), (8, .int 0)]) [5, 6, 8, 3, 2, 1, 0] rfl ?_
    exact pX11_lots_47 C M L v1 v3 FU v2 0 0 0 u5
  · refine g_aload_n C dX11_lots_24 rfl 1 rfl ?_
    refine g_iload C dX11_lots_25 rfl 0 rfl ?_
    refine g_callI [.int r3] C dX11_lots_27 rfl (tX11_refuse (xl Γ) (xE Γ) r3 u1) cf_X11_refuse rfl rfl ml_X11_153 rfl (by decide) (Nat.le_of_ble_eq_true rfl) rfl (fun r7 u6 => ?_)
    exact g_iret C M dX11_lots_30 rfl rfl
set_option maxRecDepth 20000 in
set_option maxHeartbeats 4000000 in
theorem tX11_lots (l : Launch) (E : EE) (v1 : Int32) (v2 : Int32) (v3 : Int32) (u : Mm) : Ct l E yX11_lots cX11_lots 12 (some .int) 3 [.ref (E.1 74), .int v1, .int v2, .int v3] u cvI (gX11_lots v1 v2 v3 u) :=
  Ct_of (own := RX11) (by decide +kernel) rfl (Nat.le_of_ble_eq_true rfl) (fun p e R s m args below meth c C M => g_sub (ls' := [(0, .ref (E.1 74)), (1, .int v1), (2, .int v2), (3, .int v3)]) [0, 1, 2, 3] rfl (pX11_lots_0 C M rfl v1 v2 v3 u))
set_option maxRecDepth 20000 in
set_option maxHeartbeats 4000000 in
theorem pX11_count_161 {Γ : GX} (C : Cx Γ RX11 cX11_count 1) (M : Mx Γ (some .int)) (L : xn Γ = 2) (v1 : Int32) (u : Mm) : Gp Γ (QM Γ cvI) 161 [(0, .ref ((xE Γ).1 74)), (1, .int v1)] [] u (gX11_count_161 v1 u) := by
  unfold gX11_count_161
  refine g_iload_n C dX11_count_161 rfl 1 rfl ?_
  refine g_i2l C dX11_count_162 rfl ?_
  refine g_ldc2_w (v := 11) C dX11_count_163 rfl (wm_57 20 rfl) ?_
  refine g_ldc2_w (v := 16) C dX11_count_166 rfl (wm_57 21 rfl) ?_
  refine g_callsP [.long v1.toInt64, .long 11, .long 16] C dX11_count_169 rfl (tX11_in (xl Γ) (xE Γ) v1.toInt64 11 16 u) cf_X11_in ml_X11_107 rfl (by decide) (Nat.le_of_ble_eq_true rfl) rfl (fun r1 => ?_)
  refine g_if_eq 187 C dX11_count_172 rfl (by decide) (fun c2 => ?_) (fun c2 => ?_)
  · refine g_bipush (v := (-9)) C dX11_count_187 rfl (by decide) ?_
    exact g_iret C M dX11_count_189 rfl rfl
  · refine g_aload_n C dX11_count_175 rfl 0 rfl ?_
    refine g_getR (k2 := 84) C dX11_count_176 rfl rfl fi_11_20 ⟨by decide, by decide, rfl⟩ fl_X11_53 ?_
    refine g_iload_n C dX11_count_179 rfl 1 rfl ?_
    refine g_bipush (v := 10) C dX11_count_180 rfl (by decide) ?_
    refine g_isub C dX11_count_182 rfl ?_
    refine g_gd (fun hi3 => ?_)
    refine g_iald C dX11_count_183 rfl rfl rfl hi3 ?_
    refine g_goto 189 C dX11_count_184 rfl (by decide) ?_
    exact g_iret C M dX11_count_189 rfl rfl
set_option maxRecDepth 20000 in
set_option maxHeartbeats 4000000 in
theorem pX11_count_0 {Γ : GX} (C : Cx Γ RX11 cX11_count 1) (M : Mx Γ (some .int)) (L : xn Γ = 2) (v1 : Int32) (u : Mm) : Gp Γ (QM Γ cvI) 0 [(0, .ref ((xE Γ).1 74)), (1, .int v1)] [] u (gX11_count_b v1 u) := by
  unfold gX11_count_b
  refine g_aload_n C dX11_count_0 rfl 0 rfl ?_
  refine g_iconst (v := 0) C dX11_count_1 rfl (by decide) ?_
  refine g_putI C dX11_count_2 rfl rfl fp_11_19 rfl fl_X11_104 ?_
  refine g_letm (fun u1 => ?_)
  refine g_iload_n C dX11_count_5 rfl 1 rfl ?_
  refine g_if (fun c2 => ?_) (fun c2 => ?_)
  · refine g_tabI 90 96 C dX11_count_6 rfl (by rw [c2]; exact ⟨by decide, by decide, rfl⟩) (by decide) ?_
    refine g_aload_n C dX11_count_96 rfl 0 rfl ?_
    refine g_getI C dX11_count_97 rfl rfl fi_11_11 rfl fl_X11_111 ?_
    exact g_iret C M dX11_count_100 rfl rfl
  refine g_if (fun c3 => ?_) (fun c3 => ?_)
  · refine g_tabI 95 101 C dX11_count_6 rfl (by rw [c3]; exact ⟨by decide, by decide, rfl⟩) (by decide) ?_
    refine g_aload_n C dX11_count_101 rfl 0 rfl ?_
    refine g_getI C dX11_count_102 rfl rfl fi_11_2 rfl fl_X11_127 ?_
    exact g_iret C M dX11_count_105 rfl rfl
  refine g_if (fun c4 => ?_) (fun c4 => ?_)
  · refine g_tabI 100 106 C dX11_count_6 rfl (by rw [c4]; exact ⟨by decide, by decide, rfl⟩) (by decide) ?_
    refine g_aload_n C dX11_count_106 rfl 0 rfl ?_
    refine g_getI C dX11_count_107 rfl rfl fi_11_3 rfl fl_X11_16 ?_
    exact g_iret C M dX11_count_110 rfl rfl
  refine g_if (fun c5 => ?_) (fun c5 => ?_)
  · refine g_tabI 105 111 C dX11_count_6 rfl (by rw [c5]; exact ⟨by decide, by decide, rfl⟩) (by decide) ?_
    refine g_aload_n C dX11_count_111 rfl 0 rfl ?_
    refine g_getI C dX11_count_112 rfl rfl fi_11_4 rfl fl_X11_133 ?_
    exact g_iret C M dX11_count_115 rfl rfl
  refine g_if (fun c6 => ?_) (fun c6 => ?_)
  · refine g_tabI 110 116 C dX11_count_6 rfl (by rw [c6]; exact ⟨by decide, by decide, rfl⟩) (by decide) ?_
    refine g_aload_n C dX11_count_116 rfl 0 rfl ?_
    refine g_getI C dX11_count_117 rfl rfl fi_11_5 rfl fl_X11_20 ?_
    exact g_iret C M dX11_count_120 rfl rfl
  refine g_if (fun c7 => ?_) (fun c7 => ?_)
  · refine g_tabI 115 121 C dX11_count_6 rfl (by rw [c7]; exact ⟨by decide, by decide, rfl⟩) (by decide) ?_
    refine g_aload_n C dX11_count_121 rfl 0 rfl ?_
    refine g_getI C dX11_count_122 rfl rfl fi_11_6 rfl fl_X11_23 ?_
    exact g_iret C M dX11_count_125 rfl rfl
  refine g_if (fun c8 => ?_) (fun c8 => ?_)
  · refine g_tabI 120 126 C dX11_count_6 rfl (by rw [c8]; exact ⟨by decide, by decide, rfl⟩) (by decide) ?_
    refine g_aload_n C dX11_count_126 rfl 0 rfl ?_
    refine g_getI C dX11_count_127 rfl rfl fi_11_7 rfl fl_X11_26 ?_
    exact g_iret C M dX11_count_130 rfl rfl
  refine g_if (fun c9 => ?_) (fun c9 => ?_)
  · refine g_tabI 125 131 C dX11_count_6 rfl (by rw [c9]; exact ⟨by decide, by decide, rfl⟩) (by decide) ?_
    refine g_aload_n C dX11_count_131 rfl 0 rfl ?_
    refine g_getI C dX11_count_132 rfl rfl fi_11_8 rfl fl_X11_29 ?_
    exact g_iret C M dX11_count_135 rfl rfl
  refine g_if (fun c10 => ?_) (fun c10 => ?_)
  · refine g_tabI 130 136 C dX11_count_6 rfl (by rw [c10]; exact ⟨by decide, by decide, rfl⟩) (by decide) ?_
    refine g_aload_n C dX11_count_136 rfl 0 rfl ?_
    refine g_getI C dX11_count_137 rfl rfl fi_11_9 rfl fl_X11_136 ?_
    exact g_iret C M dX11_count_140 rfl rfl
  refine g_if (fun c11 => ?_) (fun c11 => ?_)
  · refine g_tabI 135 141 C dX11_count_6 rfl (by rw [c11]; exact ⟨by decide, by decide, rfl⟩) (by decide) ?_
    refine g_aload_n C dX11_count_141 rfl 0 rfl ?_
    refine g_getI C dX11_count_142 rfl rfl fi_11_23 rfl fl_X11_156 ?_
    exact g_iret C M dX11_count_145 rfl rfl
  refine g_if (fun c12 => ?_) (fun c12 => ?_)
  · refine g_tabI 140 146 C dX11_count_6 rfl (by rw [c12]; exact ⟨by decide, by decide, rfl⟩) (by decide) ?_
    refine g_aload_n C dX11_count_146 rfl 0 rfl ?_
    refine g_getI C dX11_count_147 rfl rfl fi_11_58 rfl fl_X11_344 ?_
    exact g_iret C M dX11_count_150 rfl rfl
  refine g_if (fun c13 => ?_) (fun c13 => ?_)
  · refine g_tabI 155 161 C dX11_count_6 rfl (by rw [c13]; exact ⟨by decide, by decide, rfl⟩) (by decide) ?_
    exact pX11_count_161 C M L v1 u1
  refine g_if (fun c14 => ?_) (fun c14 => ?_)
  · refine g_tabI 155 161 C dX11_count_6 rfl (by rw [c14]; exact ⟨by decide, by decide, rfl⟩) (by decide) ?_
    exact pX11_count_161 C M L v1 u1
  refine g_if (fun c15 => ?_) (fun c15 => ?_)
  · refine g_tabI 155 161 C dX11_count_6 rfl (by rw [c15]; exact ⟨by decide, by decide, rfl⟩) (by decide) ?_
    exact pX11_count_161 C M L v1 u1
  refine g_if (fun c16 => ?_) (fun c16 => ?_)
  · refine g_tabI 155 161 C dX11_count_6 rfl (by rw [c16]; exact ⟨by decide, by decide, rfl⟩) (by decide) ?_
    exact pX11_count_161 C M L v1 u1
  refine g_if (fun c17 => ?_) (fun c17 => ?_)
  · refine g_tabI 155 161 C dX11_count_6 rfl (by rw [c17]; exact ⟨by decide, by decide, rfl⟩) (by decide) ?_
    exact pX11_count_161 C M L v1 u1
  refine g_if (fun c18 => ?_) (fun c18 => ?_)
  · refine g_tabI 155 161 C dX11_count_6 rfl (by rw [c18]; exact ⟨by decide, by decide, rfl⟩) (by decide) ?_
    exact pX11_count_161 C M L v1 u1
  refine g_if (fun c19 => ?_) (fun c19 => ?_)
  · refine g_tabI 145 151 C dX11_count_6 rfl (by rw [c19]; exact ⟨by decide, by decide, rfl⟩) (by decide) ?_
    refine g_aload_n C dX11_count_151 rfl 0 rfl ?_
    refine g_getI C dX11_count_152 rfl rfl fi_11_18 rfl fl_X11_243 ?_
    exact g_iret C M dX11_count_155 rfl rfl
  refine g_if (fun c20 => ?_) (fun c20 => ?_)
  · refine g_tabI 150 156 C dX11_count_6 rfl (by rw [c20]; exact ⟨by decide, by decide, rfl⟩) (by decide) ?_
    refine g_aload_n C dX11_count_156 rfl 0 rfl ?_
    refine g_getI C dX11_count_157 rfl rfl fi_11_40 rfl fl_X11_225 ?_
    exact g_iret C M dX11_count_160 rfl rfl
  have ec2 := lv_neT c2 (a := 0) (by decide)
  have ec3 := lv_neT c3 (a := 1) (by decide)
  have ec4 := lv_neT c4 (a := 2) (by decide)
  have ec5 := lv_neT c5 (a := 3) (by decide)
  have ec6 := lv_neT c6 (a := 4) (by decide)
  have ec7 := lv_neT c7 (a := 5) (by decide)
  have ec8 := lv_neT c8 (a := 6) (by decide)
  have ec9 := lv_neT c9 (a := 7) (by decide)
  have ec10 := lv_neT c10 (a := 8) (by decide)
  have ec11 := lv_neT c11 (a := 9) (by decide)
  have ec12 := lv_neT c12 (a := 10) (by decide)
  have ec13 := lv_neT c13 (a := 11) (by decide)
  have ec14 := lv_neT c14 (a := 12) (by decide)
  have ec15 := lv_neT c15 (a := 13) (by decide)
  have ec16 := lv_neT c16 (a := 14) (by decide)
  have ec17 := lv_neT c17 (a := 15) (by decide)
  have ec18 := lv_neT c18 (a := 16) (by decide)
  have ec19 := lv_neT c19 (a := 17) (by decide)
  have ec20 := lv_neT c20 (a := 18) (by decide)
  refine g_tabO 161 C dX11_count_6 rfl (by omega) (by decide) ?_
  exact pX11_count_161 C M L v1 u1
set_option maxRecDepth 20000 in
set_option maxHeartbeats 4000000 in
theorem tX11_count (l : Launch) (E : EE) (v1 : Int32) (u : Mm) : Ct l E yX11_count cX11_count 2 (some .int) 1 [.ref (E.1 74), .int v1] u cvI (gX11_count v1 u) :=
  Ct_of (own := RX11) (by decide +kernel) rfl (Nat.le_of_ble_eq_true rfl) (fun p e R s m args below meth c C M => g_sub (ls' := [(0, .ref (E.1 74)), (1, .int v1)]) [0, 1] rfl (pX11_count_0 C M rfl v1 u))
