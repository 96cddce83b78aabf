set_option maxRecDepth 20000 in
set_option maxHeartbeats 4000000 in
theorem pX11_seekBest_148 {Γ : GX} (C : Cx Γ RX11 cX11_seekBest 5) (M : Mx Γ none) (L : xn Γ = 5) (v1 : Int32) (s0 : Int32) {j19 : Int32 → Mm → Option Mm} (hj19 : ∀ (v1 : Int32) (u : Mm), Gp Γ (QM Γ cvV) 19 [(0, .ref ((xE Γ).1 74)), (1, .int v1)] [] u (j19 v1 u)) (u : Mm) : Gp Γ (QM Γ cvV) 148 [(0, .ref ((xE Γ).1 74)), (1, .int v1)] [.int s0, .ref ((xE Γ).1 74)] u (gX11_seekBest_148 j19 v1 s0 u) := by
  unfold gX11_seekBest_148
  refine g_putI C dX11_seekBest_148 rfl rfl fp_11_48 rfl fl_X11_316 ?_
  refine g_letm (fun u1 => ?_)
  refine g_iincL (fun v1_2 => [(1, .int v1_2), (0, .ref ((xE Γ).1 74))]) C dX11_seekBest_151 rfl L (by decide) (k := 1) rfl (iinc_1 _) (fun _ => rfl) (fun v1_2 => ?_)
  refine g_goto 19 C dX11_seekBest_154 rfl (by decide) ?_
  refine g_sub (ls' := [(0, .ref ((xE Γ).1 74)), (1, .int v1_2)]) [1, 0] rfl ?_
  exact hj19 v1_2 u1
set_option maxRecDepth 20000 in
set_option maxHeartbeats 4000000 in
theorem pX11_seekBest_131 {Γ : GX} (C : Cx Γ RX11 cX11_seekBest 5) (M : Mx Γ none) (L : xn Γ = 5) (v1 : Int32) (v3 : Int32) (v4 : Int32) (s0 : Int32) {j19 : Int32 → Mm → Option Mm} (hj19 : ∀ (v1 : Int32) (u : Mm), Gp Γ (QM Γ cvV) 19 [(0, .ref ((xE Γ).1 74)), (1, .int v1)] [] u (j19 v1 u)) (u : Mm) : Gp Γ (QM Γ cvV) 131 [(0, .ref ((xE Γ).1 74)), (1, .int v1), (3, .int v3), (4, .int v4)] [.int s0, .ref ((xE Γ).1 74)] u (gX11_seekBest_131 j19 v1 v3 v4 s0 u) := by
  unfold gX11_seekBest_131
  refine g_putI C dX11_seekBest_131 rfl rfl fp_11_47 rfl fl_X11_313 ?_
  refine g_letm (fun u1 => ?_)
  refine g_aload_n C dX11_seekBest_134 rfl 0 rfl ?_
  refine g_iload C dX11_seekBest_135 rfl 3 rfl ?_
  refine g_if_eq 144 C dX11_seekBest_137 rfl (by decide) (fun c2 => ?_) (fun c2 => ?_)
  · refine g_aload_n C dX11_seekBest_144 rfl 0 rfl ?_
    refine g_getI C dX11_seekBest_145 rfl rfl fi_11_48 rfl fl_X11_316 ?_
    refine g_sub (ls' := [(0, .ref ((xE Γ).1 74)), (1, .int v1)]) [0, 1] rfl ?_
    exact pX11_seekBest_148 C M L v1 (u1 74 48) hj19 u1
  · refine g_iload_n C dX11_seekBest_140 rfl 2 rfl ?_
    refine g_goto 148 C dX11_seekBest_141 rfl (by decide) ?_
    refine g_sub (ls' := [(0, .ref ((xE Γ).1 74)), (1, .int v1)]) [0, 1] rfl ?_
    exact pX11_seekBest_148 C M L v1 v3 hj19 u1
set_option maxRecDepth 20000 in
set_option maxHeartbeats 4000000 in
theorem pX11_seekBest_115 {Γ : GX} (C : Cx Γ RX11 cX11_seekBest 5) (M : Mx Γ none) (L : xn Γ = 5) (v1 : Int32) (v3 : Int32) (s0 : Int32) {j19 : Int32 → Mm → Option Mm} (hj19 : ∀ (v1 : Int32) (u : Mm), Gp Γ (QM Γ cvV) 19 [(0, .ref ((xE Γ).1 74)), (1, .int v1)] [] u (j19 v1 u)) (u : Mm) : Gp Γ (QM Γ cvV) 115 [(0, .ref ((xE Γ).1 74)), (1, .int v1), (3, .int v3)] [.int s0] u (gX11_seekBest_115 j19 v1 v3 s0 u) := by
  unfold gX11_seekBest_115
  refine g_istore (ls' := [(4, .int s0), (0, .ref ((xE Γ).1 74)), (1, .int v1), (3, .int v3)]) C dX11_seekBest_115 rfl L (by decide) rfl ?_
  refine g_aload_n C dX11_seekBest_117 rfl 1 rfl ?_
  refine g_iload C dX11_seekBest_118 rfl 0 rfl ?_
  refine g_if_eq 127 C dX11_seekBest_120 rfl (by decide) (fun c1 => ?_) (fun c1 => ?_)
  · refine g_aload_n C dX11_seekBest_127 rfl 1 rfl ?_
    refine g_getI C dX11_seekBest_128 rfl rfl fi_11_47 rfl fl_X11_313 ?_
    refine g_sub (ls' := [(0, .ref ((xE Γ).1 74)), (1, .int v1), (3, .int v3), (4, .int s0)]) [1, 2, 3, 0] rfl ?_
    exact pX11_seekBest_131 C M L v1 v3 s0 (u 74 47) hj19 u
  · refine g_iload_n C dX11_seekBest_123 rfl 2 rfl ?_
    refine g_goto 131 C dX11_seekBest_124 rfl (by decide) ?_
    refine g_sub (ls' := [(0, .ref ((xE Γ).1 74)), (1, .int v1), (3, .int v3), (4, .int s0)]) [1, 2, 3, 0] rfl ?_
    exact pX11_seekBest_131 C M L v1 v3 s0 v1 hj19 u
set_option maxRecDepth 20000 in
set_option maxHeartbeats 4000000 in
theorem pX11_seekBest_110 {Γ : GX} (C : Cx Γ RX11 cX11_seekBest 5) (M : Mx Γ none) (L : xn Γ = 5) (v1 : Int32) (v3 : Int32) {j19 : Int32 → Mm → Option Mm} (hj19 : ∀ (v1 : Int32) (u : Mm), Gp Γ (QM Γ cvV) 19 [(0, .ref ((xE Γ).1 74)), (1, .int v1)] [] u (j19 v1 u)) (u : Mm) : Gp Γ (QM Γ cvV) 110 [(0, .ref ((xE Γ).1 74)), (1, .int v1), (3, .int v3)] [] u (gX11_seekBest_110 j19 v1 v3 u) := by
  unfold gX11_seekBest_110
  refine g_iconst (v := 1) C dX11_seekBest_110 rfl (by decide) ?_
  refine g_goto 115 C dX11_seekBest_111 rfl (by decide) ?_
  exact pX11_seekBest_115 C M L v1 v3 1 hj19 u
set_option maxRecDepth 20000 in
set_option maxHeartbeats 4000000 in
theorem pX11_seekBest_114 {Γ : GX} (C : Cx Γ RX11 cX11_seekBest 5) (M : Mx Γ none) (L : xn Γ = 5) (v1 : Int32) (v3 : Int32) {j19 : Int32 → Mm → Option Mm} (hj19 : ∀ (v1 : Int32) (u : Mm), Gp Γ (QM Γ cvV) 19 [(0, .ref ((xE Γ).1 74)), (1, .int v1)] [] u (j19 v1 u)) (u : Mm) : Gp Γ (QM Γ cvV) 114 [(0, .ref ((xE Γ).1 74)), (1, .int v1), (3, .int v3)] [] u (gX11_seekBest_114 j19 v1 v3 u) := by
  unfold gX11_seekBest_114
  refine g_iconst (v := 0) C dX11_seekBest_114 rfl (by decide) ?_
  exact pX11_seekBest_115 C M L v1 v3 0 hj19 u
set_option maxRecDepth 20000 in
set_option maxHeartbeats 4000000 in
theorem pX11_seekBest_74 {Γ : GX} (C : Cx Γ RX11 cX11_seekBest 5) (M : Mx Γ none) (L : xn Γ = 5) (v1 : Int32) (v2 : Int32) (s0 : Int32) (s1 : Int32) {j19 : Int32 → Mm → Option Mm} (hj19 : ∀ (v1 : Int32) (u : Mm), Gp Γ (QM Γ cvV) 19 [(0, .ref ((xE Γ).1 74)), (1, .int v1)] [] u (j19 v1 u)) (u : Mm) : Gp Γ (QM Γ cvV) 74 [(0, .ref ((xE Γ).1 74)), (1, .int v1), (2, .int v2)] [.int s0, .int s1, .ref ((xE Γ).1 74)] u (gX11_seekBest_74 j19 v1 v2 s0 s1 u) := by
  unfold gX11_seekBest_74
  refine g_ior C dX11_seekBest_74 rfl ?_
  refine g_putI C dX11_seekBest_75 rfl rfl fp_11_49 rfl fl_X11_319 ?_
  refine g_letm (fun u1 => ?_)
  refine g_aload_n C dX11_seekBest_78 rfl 0 rfl ?_
  refine g_iload_n C dX11_seekBest_79 rfl 2 rfl ?_
  refine g_aload_n C dX11_seekBest_80 rfl 0 rfl ?_
  refine g_getI C dX11_seekBest_81 rfl rfl fi_11_42 rfl fl_X11_273 ?_
  refine g_callP [.int v2, .int (u1 74 42)] C dX11_seekBest_84 rfl (tX11_costOf (xl Γ) (xE Γ) v2 (u1 74 42) u1) cf_X11_costOf rfl rfl ml_X11_259 rfl (by decide) (Nat.le_of_ble_eq_true rfl) rfl (fun r2 => ?_)
  refine g_istore_n (ls' := [(3, .int r2), (0, .ref ((xE Γ).1 74)), (1, .int v1), (2, .int v2)]) C dX11_seekBest_87 rfl L (by decide) rfl ?_
  refine g_aload_n C dX11_seekBest_88 rfl 1 rfl ?_
  refine g_getI C dX11_seekBest_89 rfl rfl fi_11_41 rfl fl_X11_279 ?_
  refine g_if_eq 114 C dX11_seekBest_92 rfl (by decide) (fun c3 => ?_) (fun c3 => ?_)
  · refine g_sub (ls' := [(0, .ref ((xE Γ).1 74)), (1, .int v1), (3, .int r2)]) [1, 2, 0] rfl ?_
    exact pX11_seekBest_114 C M L v1 r2 hj19 u1
  · refine g_aload_n C dX11_seekBest_95 rfl 1 rfl ?_
    refine g_getI C dX11_seekBest_96 rfl rfl fi_11_47 rfl fl_X11_313 ?_
    refine g_if_lt 110 C dX11_seekBest_99 rfl (by decide) (fun c4 => ?_) (fun c4 => ?_)
    · refine g_sub (ls' := [(0, .ref ((xE Γ).1 74)), (1, .int v1), (3, .int r2)]) [1, 2, 0] rfl ?_
      exact pX11_seekBest_110 C M L v1 r2 hj19 u1
    · refine g_iload_n C dX11_seekBest_102 rfl 0 rfl ?_
      refine g_aload_n C dX11_seekBest_103 rfl 1 rfl ?_
      refine g_getI C dX11_seekBest_104 rfl rfl fi_11_48 rfl fl_X11_316 ?_
      refine g_icmp_ge 114 C dX11_seekBest_107 rfl (by decide) (fun c5 => ?_) (fun c5 => ?_)
      · refine g_sub (ls' := [(0, .ref ((xE Γ).1 74)), (1, .int v1), (3, .int r2)]) [1, 2, 0] rfl ?_
        exact pX11_seekBest_114 C M L v1 r2 hj19 u1
      · refine g_sub (ls' := [(0, .ref ((xE Γ).1 74)), (1, .int v1), (3, .int r2)]) [1, 2, 0] rfl ?_
        exact pX11_seekBest_110 C M L v1 r2 hj19 u1
set_option maxRecDepth 20000 in
set_option maxHeartbeats 4000000 in
theorem pX11_seekBest_73 {Γ : GX} (C : Cx Γ RX11 cX11_seekBest 5) (M : Mx Γ none) (L : xn Γ = 5) (v1 : Int32) (v2 : Int32) (s0 : Int32) {j19 : Int32 → Mm → Option Mm} (hj19 : ∀ (v1 : Int32) (u : Mm), Gp Γ (QM Γ cvV) 19 [(0, .ref ((xE Γ).1 74)), (1, .int v1)] [] u (j19 v1 u)) (u : Mm) : Gp Γ (QM Γ cvV) 73 [(0, .ref ((xE Γ).1 74)), (1, .int v1), (2, .int v2)] [.int s0, .ref ((xE Γ).1 74)] u (gX11_seekBest_73 j19 v1 v2 s0 u) := by
  unfold gX11_seekBest_73
  refine g_iconst (v := 0) C dX11_seekBest_73 rfl (by decide) ?_
  exact pX11_seekBest_74 C M L v1 v2 0 s0 hj19 u
set_option maxRecDepth 20000 in
set_option maxHeartbeats 4000000 in
theorem pX11_seekBest_19s {Γ : GX} (C : Cx Γ RX11 cX11_seekBest 5) (M : Mx Γ none) (L : xn Γ = 5) {j19 : Int32 → Mm → Option Mm} (hj19 : ∀ (v1 : Int32) (u : Mm), Gp Γ (QM Γ cvV) 19 [(0, .ref ((xE Γ).1 74)), (1, .int v1)] [] u (j19 v1 u)) (v1 : Int32) (u : Mm) : Gp Γ (QM Γ cvV) 19 [(0, .ref ((xE Γ).1 74)), (1, .int v1)] [] u (gX11_seekBest_19_Ls j19 v1 u) := by
  unfold gX11_seekBest_19_Ls
  refine g_iload_n C dX11_seekBest_19 rfl 1 rfl ?_
  refine g_sipush (v := 305) C dX11_seekBest_20 rfl (by decide) ?_
  refine g_icmp_gt 157 C dX11_seekBest_23 rfl (by decide) (fun c1 => ?_) (fun c1 => ?_)
  · refine g_aload_n C dX11_seekBest_157 rfl 0 rfl ?_
    refine g_callV [] C dX11_seekBest_158 rfl (tX11_again (xl Γ) (xE Γ) u) cf_X11_again rfl rfl ml_X11_270 rfl (by decide) (Nat.le_of_ble_eq_true rfl) rfl (fun u2 => ?_)
    exact g_vret C M dX11_seekBest_161 rfl rfl
  · refine g_iload_n C dX11_seekBest_26 rfl 1 rfl ?_
    refine g_bipush (v := 10) C dX11_seekBest_27 rfl (by decide) ?_
    refine g_irem C dX11_seekBest_29 rfl (by decide) ?_
    refine g_iconst (v := 5) C dX11_seekBest_30 rfl (by decide) ?_
    refine g_icmp_gt 151 C dX11_seekBest_31 rfl (by decide) (fun c3 => ?_) (fun c3 => ?_)
    · refine g_iincL (fun v1_4 => [(1, .int v1_4), (0, .ref ((xE Γ).1 74))]) C dX11_seekBest_151 rfl L (by decide) (k := 1) rfl (iinc_1 _) (fun _ => rfl) (fun v1_4 => ?_)
      refine g_goto 19 C dX11_seekBest_154 rfl (by decide) ?_
      refine g_sub (ls' := [(0, .ref ((xE Γ).1 74)), (1, .int v1_4)]) [1, 0] rfl ?_
      exact hj19 v1_4 u
    · refine g_aload_n C dX11_seekBest_34 rfl 0 rfl ?_
      refine g_iload_n C dX11_seekBest_35 rfl 1 rfl ?_
      refine g_bipush (v := 10) C dX11_seekBest_36 rfl (by decide) ?_
      refine g_idiv C dX11_seekBest_38 rfl (by decide) ?_
      refine g_iload_n C dX11_seekBest_39 rfl 1 rfl ?_
      refine g_bipush (v := 10) C dX11_seekBest_40 rfl (by decide) ?_
      refine g_irem C dX11_seekBest_42 rfl (by decide) ?_
      refine g_callV [.int (v1 / 10), .int (irm v1 10)] C dX11_seekBest_43 rfl (tX11_planOn (xl Γ) (xE Γ) (v1 / 10) (irm v1 10) u) cf_X11_planOn rfl rfl ml_X11_294 rfl (by decide) (Nat.le_of_ble_eq_true rfl) rfl (fun u5 => ?_)
      refine g_aload_n C dX11_seekBest_46 rfl 0 rfl ?_
      refine g_callP [] C dX11_seekBest_47 rfl (tX11_fieldAt (xl Γ) (xE Γ) u5) cf_X11_fieldAt rfl rfl ml_X11_285 rfl (by decide) (Nat.le_of_ble_eq_true rfl) rfl (fun r6 => ?_)
      refine g_istore_n (ls' := [(2, .int r6), (0, .ref ((xE Γ).1 74)), (1, .int v1)]) C dX11_seekBest_50 rfl L (by decide) rfl ?_
      refine g_aload_n C dX11_seekBest_51 rfl 1 rfl ?_
      refine g_dup C dX11_seekBest_52 rfl rfl ?_
      refine g_getI C dX11_seekBest_53 rfl rfl fi_11_49 rfl fl_X11_319 ?_
      refine g_aload_n C dX11_seekBest_56 rfl 1 rfl ?_
      refine g_getI C dX11_seekBest_57 rfl rfl fi_11_41 rfl fl_X11_279 ?_
      refine g_if_eq 73 C dX11_seekBest_60 rfl (by decide) (fun c7 => ?_) (fun c7 => ?_)
      · refine g_sub (ls' := [(0, .ref ((xE Γ).1 74)), (1, .int v1), (2, .int r6)]) [1, 2, 0] rfl ?_
        exact pX11_seekBest_73 C M L v1 r6 (u5 74 49) hj19 u5
      · refine g_iload_n C dX11_seekBest_63 rfl 0 rfl ?_
        refine g_if_lt 73 C dX11_seekBest_64 rfl (by decide) (fun c8 => ?_) (fun c8 => ?_)
        · refine g_sub (ls' := [(0, .ref ((xE Γ).1 74)), (1, .int v1), (2, .int r6)]) [1, 2, 0] rfl ?_
          exact pX11_seekBest_73 C M L v1 r6 (u5 74 49) hj19 u5
        · refine g_iconst (v := 1) C dX11_seekBest_67 rfl (by decide) ?_
          refine g_iload_n C dX11_seekBest_68 rfl 0 rfl ?_
          refine g_ishl C dX11_seekBest_69 rfl ?_
          refine g_goto 74 C dX11_seekBest_70 rfl (by decide) ?_
          refine g_sub (ls' := [(0, .ref ((xE Γ).1 74)), (1, .int v1), (2, .int r6)]) [1, 2, 0] rfl ?_
          exact pX11_seekBest_74 C M L v1 r6 (shl 1 r6) (u5 74 49) hj19 u5
set_option maxRecDepth 20000 in
set_option maxHeartbeats 4000000 in
theorem pX11_seekBest_19 {Γ : GX} (C : Cx Γ RX11 cX11_seekBest 5) (M : Mx Γ none) (L : xn Γ = 5) : ∀ (n : Nat) (v1 : Int32) (u : Mm), Gp Γ (QM Γ cvV) 19 [(0, .ref ((xE Γ).1 74)), (1, .int v1)] [] u (gX11_seekBest_19_L n v1 u) := by
  intro n
  induction n with
  | zero => intro _ _; exact g_none
  | succ n ih => intro v1 u; exact pX11_seekBest_19s C M L ih v1 u

set_option maxRecDepth 20000 in
set_option maxHeartbeats 4000000 in
theorem pX11_seekBest_0 {Γ : GX} (C : Cx Γ RX11 cX11_seekBest 5) (M : Mx Γ none) (L : xn Γ = 5) (u : Mm) : Gp Γ (QM Γ cvV) 0 [(0, .ref ((xE Γ).1 74))] [] u (gX11_seekBest_b u) := by
  unfold gX11_seekBest_b
  refine g_aload_n C dX11_seekBest_0 rfl 0 rfl ?_
  refine g_bipush (v := (-9)) C dX11_seekBest_1 rfl (by decide) ?_
  refine g_putI C dX11_seekBest_3 rfl rfl fp_11_47 rfl fl_X11_313 ?_
  refine g_letm (fun u1 => ?_)
  refine g_aload_n C dX11_seekBest_6 rfl 0 rfl ?_
  refine g_bipush (v := (-9)) C dX11_seekBest_7 rfl (by decide) ?_
  refine g_putI C dX11_seekBest_9 rfl rfl fp_11_48 rfl fl_X11_316 ?_
  refine g_letm (fun u2 => ?_)
  refine g_aload_n C dX11_seekBest_12 rfl 0 rfl ?_
  refine g_iconst (v := 0) C dX11_seekBest_13 rfl (by decide) ?_
  refine g_putI C dX11_seekBest_14 rfl rfl fp_11_49 rfl fl_X11_319 ?_
  refine g_letm (fun u3 => ?_)
  refine g_iconst (v := 0) C dX11_seekBest_17 rfl (by decide) ?_
  refine g_istore_n (ls' := [(1, .int 0), (0, .ref ((xE Γ).1 74))]) C dX11_seekBest_18 rfl L (by decide) rfl ?_
  refine g_sub (ls' := [(0, .ref ((xE Γ).1 74)), (1, .int 0)]) [1, 0] rfl ?_
  exact pX11_seekBest_19 C M L FU 0 u3
set_option maxRecDepth 20000 in
set_option maxHeartbeats 4000000 in
theorem tX11_seekBest (l : Launch) (E : EE) (u : Mm) : Ct l E yX11_seekBest cX11_seekBest 5 none 5 [.ref (E.1 74)] u cvV (gX11_seekBest u) :=
  Ct_of (own := RX11) (by decide +kernel) rfl (Nat.le_of_ble_eq_true rfl) (fun p e R s m args below meth c C M => g_sub (ls' := [(0, .ref (E.1 74))]) [0] rfl (pX11_seekBest_0 C M rfl u))
set_option maxRecDepth 20000 in
set_option maxHeartbeats 4000000 in
theorem pX11_best_0 {Γ : GX} (C : Cx Γ RX11 cX11_best 6) (M : Mx Γ (some .int)) (L : xn Γ = 2) (v1 : Int32) (u : Mm) : Gp Γ (QM Γ cvI) 0 [(0, .ref ((xE Γ).1 74)), (1, .int v1)] [] u (gX11_best_b v1 u) := by
  unfold gX11_best_b
  refine g_aload_n C dX11_best_0 rfl 0 rfl ?_
  refine g_iconst (v := 0) C dX11_best_1 rfl (by decide) ?_
  refine g_putI C dX11_best_2 rfl rfl fp_11_19 rfl fl_X11_104 ?_
  refine g_letm (fun u1 => ?_)
  refine g_iload_n C dX11_best_5 rfl 1 rfl ?_
  refine g_i2l C dX11_best_6 rfl ?_
  refine g_lconst (v := 0) C dX11_best_7 rfl (by decide) ?_
  refine g_lconst (v := 1) C dX11_best_8 rfl (by decide) ?_
  refine g_callsP [.long v1.toInt64, .long 0, .long 1] C dX11_best_9 rfl (tX11_in (xl Γ) (xE Γ) v1.toInt64 0 1 u1) cf_X11_in ml_X11_107 rfl (by decide) (Nat.le_of_ble_eq_true rfl) rfl (fun r2 => ?_)
  refine g_if_ne 22 C dX11_best_12 rfl (by decide) (fun c3 => ?_) (fun c3 => ?_)
  · refine g_aload_n C dX11_best_22 rfl 0 rfl ?_
    refine g_callV [] C dX11_best_23 rfl (tX11_open (xl Γ) (xE Γ) u1) cf_X11_open rfl rfl ml_X11_291 rfl (by decide) (Nat.le_of_ble_eq_true rfl) rfl (fun u4 => ?_)
    refine g_aload_n C dX11_best_26 rfl 0 rfl ?_
    refine g_callV [] C dX11_best_27 rfl (tX11_seekBest (xl Γ) (xE Γ) u4) cf_X11_seekBest rfl rfl ml_X11_322 rfl (by decide) (Nat.le_of_ble_eq_true rfl) rfl (fun u5 => ?_)
    refine g_iload_n C dX11_best_30 rfl 1 rfl ?_
    refine g_if_ne 41 C dX11_best_31 rfl (by decide) (fun c6 => ?_) (fun c6 => ?_)
    · refine g_aload_n C dX11_best_41 rfl 0 rfl ?_
      refine g_getI C dX11_best_42 rfl rfl fi_11_48 rfl fl_X11_316 ?_
      exact g_iret C M dX11_best_45 rfl rfl
    · refine g_aload_n C dX11_best_34 rfl 0 rfl ?_
      refine g_getI C dX11_best_35 rfl rfl fi_11_47 rfl fl_X11_313 ?_
      refine g_goto 45 C dX11_best_38 rfl (by decide) ?_
      exact g_iret C M dX11_best_45 rfl rfl
  · refine g_aload_n C dX11_best_15 rfl 0 rfl ?_
    refine g_bipush (v := (-2)) C dX11_best_16 rfl (by decide) ?_
    refine g_callI [.int (-2)] C dX11_best_18 rfl (tX11_refuse (xl Γ) (xE Γ) (-2) u1) cf_X11_refuse rfl rfl ml_X11_153 rfl (by decide) (Nat.le_of_ble_eq_true rfl) rfl (fun r8 u7 => ?_)
    exact g_iret C M dX11_best_21 rfl rfl
set_option maxRecDepth 20000 in
set_option maxHeartbeats 4000000 in
theorem tX11_best (l : Launch) (E : EE) (v1 : Int32) (u : Mm) : Ct l E yX11_best cX11_best 2 (some .int) 6 [.ref (E.1 74), .int v1] u cvI (gX11_best v1 u) :=
  Ct_of (own := RX11) (by decide +kernel) rfl (Nat.le_of_ble_eq_true rfl) (fun p e R s m args below meth c C M => g_sub (ls' := [(0, .ref (E.1 74)), (1, .int v1)]) [0, 1] rfl (pX11_best_0 C M rfl v1 u))
set_option maxRecDepth 20000 in
set_option maxHeartbeats 4000000 in
theorem pX11_left_0 {Γ : GX} (C : Cx Γ RX11 cX11_left 6) (M : Mx Γ (some .int)) (L : xn Γ = 1) (u : Mm) : Gp Γ (QM Γ cvI) 0 [(0, .ref ((xE Γ).1 74))] [] u (gX11_left_b u) := by
  unfold gX11_left_b
  refine g_aload_n C dX11_left_0 rfl 0 rfl ?_
  refine g_iconst (v := 0) C dX11_left_1 rfl (by decide) ?_
  refine g_putI C dX11_left_2 rfl rfl fp_11_19 rfl fl_X11_104 ?_
  refine g_letm (fun u1 => ?_)
  refine g_aload_n C dX11_left_5 rfl 0 rfl ?_
  refine g_callV [] C dX11_left_6 rfl (tX11_open (xl Γ) (xE Γ) u1) cf_X11_open rfl rfl ml_X11_291 rfl (by decide) (Nat.le_of_ble_eq_true rfl) rfl (fun u2 => ?_)
  refine g_aload_n C dX11_left_9 rfl 0 rfl ?_
  refine g_callV [] C dX11_left_10 rfl (tX11_seekBest (xl Γ) (xE Γ) u2) cf_X11_seekBest rfl rfl ml_X11_322 rfl (by decide) (Nat.le_of_ble_eq_true rfl) rfl (fun u3 => ?_)
  refine g_aload_n C dX11_left_13 rfl 0 rfl ?_
  refine g_getI C dX11_left_14 rfl rfl fi_11_49 rfl fl_X11_319 ?_
  exact g_iret C M dX11_left_17 rfl rfl
set_option maxRecDepth 20000 in
set_option maxHeartbeats 4000000 in
theorem tX11_left (l : Launch) (E : EE) (u : Mm) : Ct l E yX11_left cX11_left 1 (some .int) 6 [.ref (E.1 74)] u cvI (gX11_left u) :=
  Ct_of (own := RX11) (by decide +kernel) rfl (Nat.le_of_ble_eq_true rfl) (fun p e R s m args below meth c C M => g_sub (ls' := [(0, .ref (E.1 74))]) [0] rfl (pX11_left_0 C M rfl u))
set_option maxRecDepth 20000 in
set_option maxHeartbeats 4000000 in
theorem pX11_keep_70 {Γ : GX} (C : Cx Γ RX11 cX11_keep 6) (M : Mx Γ (some .int)) (L : xn Γ = 5) (v1 : Int32) (v2 : Int32) (v4 : Int32) (s0 : Int32) {j30 : Int32 → Int32 → Mm → Option (Int32 × Mm)} (hj30 : ∀ (v3 : Int32) (v4 : Int32) (u : Mm), Gp Γ (QM Γ cvI) 30 [(0, .ref ((xE Γ).1 74)), (1, .int v1), (2, .int v2), (3, .int v3), (4, .int v4)] [] u (j30 v3 v4 u)) (u : Mm) : Gp Γ (QM Γ cvI) 70 [(0, .ref ((xE Γ).1 74)), (1, .int v1), (2, .int v2), (4, .int v4)] [.int s0] u (gX11_keep_70 j30 v1 v2 v4 s0 u) := by
  unfold gX11_keep_70
  refine g_istore_n (ls' := [(3, .int s0), (0, .ref ((xE Γ).1 74)), (1, .int v1), (2, .int v2), (4, .int v4)]) C dX11_keep_70 rfl L (by decide) rfl ?_
  refine g_iincL (fun v4_1 => [(4, .int v4_1), (3, .int s0), (0, .ref ((xE Γ).1 74)), (1, .int v1), (2, .int v2)]) C dX11_keep_71 rfl L (by decide) (k := 4) rfl (iinc_1 _) (fun _ => rfl) (fun v4_1 => ?_)
  refine g_goto 30 C dX11_keep_74 rfl (by decide) ?_
  refine g_sub (ls' := [(0, .ref ((xE Γ).1 74)), (1, .int v1), (2, .int v2), (3, .int s0), (4, .int v4_1)]) [2, 3, 4, 1, 0] rfl ?_
  exact hj30 s0 v4_1 u
set_option maxRecDepth 20000 in
set_option maxHeartbeats 4000000 in
theorem pX11_keep_77 {Γ : GX} (C : Cx Γ RX11 cX11_keep 6) (M : Mx Γ (some .int)) (L : xn Γ = 5) (v2 : Int32) (v3 : Int32) (u : Mm) : Gp Γ (QM Γ cvI) 77 [(0, .ref ((xE Γ).1 74)), (2, .int v2), (3, .int v3)] [] u (gX11_keep_77 v2 v3 u) := by
  unfold gX11_keep_77
  refine g_aload_n C dX11_keep_77 rfl 0 rfl ?_
  refine g_iload_n C dX11_keep_78 rfl 1 rfl ?_
  refine g_putI C dX11_keep_79 rfl rfl fp_11_6 rfl fl_X11_23 ?_
  refine g_letm (fun u1 => ?_)
  refine g_iload_n C dX11_keep_82 rfl 2 rfl ?_
  exact g_iret C M dX11_keep_83 rfl rfl
set_option maxRecDepth 20000 in
set_option maxHeartbeats 4000000 in
theorem pX11_keep_30s {Γ : GX} (C : Cx Γ RX11 cX11_keep 6) (M : Mx Γ (some .int)) (L : xn Γ = 5) (v1 : Int32) (v2 : Int32) {j30 : Int32 → Int32 → Mm → Option (Int32 × Mm)} (hj30 : ∀ (v3 : Int32) (v4 : Int32) (u : Mm), Gp Γ (QM Γ cvI) 30 [(0, .ref ((xE Γ).1 74)), (1, .int v1), (2, .int v2), (3, .int v3), (4, .int v4)] [] u (j30 v3 v4 u)) (v3 : Int32) (v4 : Int32) (u : Mm) : Gp Γ (QM Γ cvI) 30 [(0, .ref ((xE Γ).1 74)), (1, .int v1), (2, .int v2), (3, .int v3), (4, .int v4)] [] u (gX11_keep_30_Ls v1 v2 j30 v3 v4 u) := by
  unfold gX11_keep_30_Ls
  refine g_iload C dX11_keep_30 rfl 4 rfl ?_
  refine g_bipush (v := 60) C dX11_keep_32 rfl (by decide) ?_
  refine g_icmp_gt 77 C dX11_keep_34 rfl (by decide) (fun c1 => ?_) (fun c1 => ?_)
  · refine g_sub (ls' := [(0, .ref ((xE Γ).1 74)), (2, .int v2), (3, .int v3)]) [0, 2, 3] rfl ?_
    exact pX11_keep_77 C M L v2 v3 u
  · refine g_iload_n C dX11_keep_37 rfl 3 rfl ?_
    refine g_if_ge 77 C dX11_keep_38 rfl (by decide) (fun c2 => ?_) (fun c2 => ?_)
    · refine g_sub (ls' := [(0, .ref ((xE Γ).1 74)), (2, .int v2), (3, .int v3)]) [0, 2, 3] rfl ?_
      exact pX11_keep_77 C M L v2 v3 u
    · refine g_aload_n C dX11_keep_41 rfl 0 rfl ?_
      refine g_iload C dX11_keep_42 rfl 4 rfl ?_
      refine g_putI C dX11_keep_44 rfl rfl fp_11_6 rfl fl_X11_23 ?_
      refine g_letm (fun u3 => ?_)
      refine g_aload_n C dX11_keep_47 rfl 0 rfl ?_
      refine g_callV [] C dX11_keep_48 rfl (tX11_open (xl Γ) (xE Γ) u3) cf_X11_open rfl rfl ml_X11_291 rfl (by decide) (Nat.le_of_ble_eq_true rfl) rfl (fun u4 => ?_)
      refine g_aload_n C dX11_keep_51 rfl 0 rfl ?_
      refine g_iload_n C dX11_keep_52 rfl 1 rfl ?_
      refine g_callV [.int v1] C dX11_keep_53 rfl (tX11_seekPlans (xl Γ) (xE Γ) v1 u4) cf_X11_seekPlans rfl rfl ml_X11_310 rfl (by decide) (Nat.le_of_ble_eq_true rfl) rfl (fun u5 => ?_)
      refine g_aload_n C dX11_keep_56 rfl 0 rfl ?_
      refine g_getI C dX11_keep_57 rfl rfl fi_11_44 rfl fl_X11_301 ?_
      refine g_if_le 68 C dX11_keep_60 rfl (by decide) (fun c6 => ?_) (fun c6 => ?_)
      · refine g_bipush (v := (-9)) C dX11_keep_68 rfl (by decide) ?_
        refine g_sub (ls' := [(0, .ref ((xE Γ).1 74)), (1, .int v1), (2, .int v2), (4, .int v4)]) [0, 1, 2, 4] rfl ?_
        exact pX11_keep_70 C M L v1 v2 v4 (-9) hj30 u5
      · refine g_iload C dX11_keep_63 rfl 4 rfl ?_
        refine g_goto 70 C dX11_keep_65 rfl (by decide) ?_
        refine g_sub (ls' := [(0, .ref ((xE Γ).1 74)), (1, .int v1), (2, .int v2), (4, .int v4)]) [0, 1, 2, 4] rfl ?_
        exact pX11_keep_70 C M L v1 v2 v4 v4 hj30 u5
set_option maxRecDepth 20000 in
set_option maxHeartbeats 4000000 in
theorem pX11_keep_30 {Γ : GX} (C : Cx Γ RX11 cX11_keep 6) (M : Mx Γ (some .int)) (L : xn Γ = 5) (v1 : Int32) (v2 : Int32) : ∀ (n : Nat) (v3 : Int32) (v4 : Int32) (u : Mm), Gp Γ (QM Γ cvI) 30 [(0, .ref ((xE Γ).1 74)), (1, .int v1), (2, .int v2), (3, .int v3), (4, .int v4)] [] u (gX11_keep_30_L v1 v2 n v3 v4 u) := by
  intro n
  induction n with
  | zero => intro _ _ _; exact g_none
  | succ n ih => intro v3 v4 u; exact pX11_keep_30s C M L v1 v2 ih v3 v4 u

set_option maxRecDepth 20000 in
set_option maxHeartbeats 4000000 in
theorem pX11_keep_0 {Γ : GX} (C : Cx Γ RX11 cX11_keep 6) (M : Mx Γ (some .int)) (L : xn Γ = 5) (v1 : Int32) (u : Mm) : Gp Γ (QM Γ cvI) 0 [(0, .ref ((xE Γ).1 74)), (1, .int v1)] [] u (gX11_keep_b v1 u) := by
  unfold gX11_keep_b
  refine g_aload_n C dX11_keep_0 rfl 0 rfl ?_
  refine g_iconst (v := 0) C dX11_keep_1 rfl (by decide) ?_
  refine g_putI C dX11_keep_2 rfl rfl fp_11_19 rfl fl_X11_104 ?_
  refine g_letm (fun u1 => ?_)
  refine g_aload_n C dX11_keep_5 rfl 0 rfl ?_
  refine g_iload_n C dX11_keep_6 rfl 1 rfl ?_
  refine g_callP [.int v1] C dX11_keep_7 rfl (tX11_isField (xl Γ) (xE Γ) v1 u1) cf_X11_isField rfl rfl ml_X11_250 rfl (by decide) (Nat.le_of_ble_eq_true rfl) rfl (fun r2 => ?_)
  refine g_if_ne 19 C dX11_keep_10 rfl (by decide) (fun c3 => ?_) (fun c3 => ?_)
  · refine g_aload_n C dX11_keep_19 rfl 0 rfl ?_
    refine g_getI C dX11_keep_20 rfl rfl fi_11_6 rfl fl_X11_23 ?_
    refine g_lets (fun v2_4 => ?_)
    refine g_istore_n (ls' := [(2, .int v2_4), (0, .ref ((xE Γ).1 74)), (1, .int v1)]) C dX11_keep_23 rfl L (by decide) rfl ?_
    refine g_bipush (v := (-9)) C dX11_keep_24 rfl (by decide) ?_
    refine g_istore_n (ls' := [(3, .int (-9)), (2, .int v2_4), (0, .ref ((xE Γ).1 74)), (1, .int v1)]) C dX11_keep_26 rfl L (by decide) rfl ?_
    refine g_iconst (v := 0) C dX11_keep_27 rfl (by decide) ?_
    refine g_istore (ls' := [(4, .int 0), (3, .int (-9)), (2, .int v2_4), (0, .ref ((xE Γ).1 74)), (1, .int v1)]) C dX11_keep_28 rfl L (by decide) rfl ?_
    refine g_sub (ls' := [(0, .ref ((xE Γ).1 74)), (1, .int v1), (2, .int v2_4), (3, .int (-9)), (4, .int 0)]) [3, 4, 2, 1, 0] rfl ?_
    exact pX11_keep_30 C M L v1 v2_4 FU (-9) 0 u1
  · refine g_aload_n C dX11_keep_13 rfl 0 rfl ?_
    refine g_iconst (v := (-1)) C dX11_keep_14 rfl (by decide) ?_
    refine g_callI [.int (-1)] C dX11_keep_15 rfl (tX11_refuse (xl Γ) (xE Γ) (-1) u1) cf_X11_refuse rfl rfl ml_X11_153 rfl (by decide) (Nat.le_of_ble_eq_true rfl) rfl (fun r6 u5 => ?_)
    exact g_iret C M dX11_keep_18 rfl rfl
set_option maxRecDepth 20000 in
set_option maxHeartbeats 4000000 in
theorem tX11_keep (l : Launch) (E : EE) (v1 : Int32) (u : Mm) : Ct l E yX11_keep cX11_keep 5 (some .int) 6 [.ref (E.1 74), .int v1] u cvI (gX11_keep v1 u) :=
  Ct_of (own := RX11) (by decide +kernel) rfl (Nat.le_of_ble_eq_true rfl) (fun p e R s m args below meth c C M => g_sub (ls' := [(0, .ref (E.1 74)), (1, .int v1)]) [0, 1] rfl (pX11_keep_0 C M rfl v1 u))
set_option maxRecDepth 20000 in
set_option maxHeartbeats 4000000 in
theorem pX11_goingOn_128s {Γ : GX} (C : Cx Γ RX11 cX11_goingOn 6) (M : Mx Γ (some .int)) (L : xn Γ = 5) (v2 : Int32) (v3 : Int32) {j128 : Int32 → Mm → Option (Int32 × Mm)} (hj128 : ∀ (v4 : Int32) (u : Mm), Gp Γ (QM Γ cvI) 128 [(0, .ref ((xE Γ).1 74)), (2, .int v2), (3, .int v3), (4, .int v4)] [] u (j128 v4 u)) (v4 : Int32) (u : Mm) : Gp Γ (QM Γ cvI) 128 [(0, .ref ((xE Γ).1 74)), (2, .int v2), (3, .int v3), (4, .int v4)] [] u (gX11_goingOn_128_Ls v2 v3 j128 v4 u) := by
  unfold gX11_goingOn_128_Ls
  refine g_iload C dX11_goingOn_128 rfl 3 rfl ?_
  refine g_bipush (v := 14) C dX11_goingOn_130 rfl (by decide) ?_
  refine g_icmp_ge 155 C dX11_goingOn_132 rfl (by decide) (fun c1 => ?_) (fun c1 => ?_)
  · refine g_aload_n C dX11_goingOn_155 rfl 0 rfl ?_
    refine g_callV [] C dX11_goingOn_156 rfl (tX11_again (xl Γ) (xE Γ) u) cf_X11_again rfl rfl ml_X11_270 rfl (by decide) (Nat.le_of_ble_eq_true rfl) rfl (fun u2 => ?_)
    refine g_iload_n C dX11_goingOn_159 rfl 2 rfl ?_
    refine g_iload_n C dX11_goingOn_160 rfl 1 rfl ?_
    refine g_isub C dX11_goingOn_161 rfl ?_
    exact g_iret C M dX11_goingOn_162 rfl rfl
  · refine g_aload_n C dX11_goingOn_135 rfl 0 rfl ?_
    refine g_getR (k2 := 92) C dX11_goingOn_136 rfl rfl fi_11_37 ⟨by decide, by decide, rfl⟩ fl_X11_77 ?_
    refine g_iload C dX11_goingOn_139 rfl 3 rfl ?_
    refine g_aload_n C dX11_goingOn_141 rfl 0 rfl ?_
    refine g_getR (k2 := 95) C dX11_goingOn_142 rfl rfl fi_11_50 ⟨by decide, by decide, rfl⟩ fl_X11_86 ?_
    refine g_iload C dX11_goingOn_145 rfl 3 rfl ?_
    refine g_gd (fun hi3 => ?_)
    refine g_iald C dX11_goingOn_147 rfl rfl rfl hi3 ?_
    refine g_gd (fun hi5 => ?_)
    refine g_iast C dX11_goingOn_148 rfl rfl rfl hi5 ?_
    refine g_letm (fun u4 => ?_)
    refine g_iincL (fun v4_6 => [(4, .int v4_6), (0, .ref ((xE Γ).1 74)), (2, .int v2), (3, .int v3)]) C dX11_goingOn_149 rfl L (by decide) (k := 3) rfl (iinc_1 _) (fun _ => rfl) (fun v4_6 => ?_)
    refine g_goto 128 C dX11_goingOn_152 rfl (by decide) ?_
    refine g_sub (ls' := [(0, .ref ((xE Γ).1 74)), (2, .int v2), (3, .int v3), (4, .int v4_6)]) [1, 2, 3, 0] rfl ?_
    exact hj128 v4_6 u4
set_option maxRecDepth 20000 in
set_option maxHeartbeats 4000000 in
theorem pX11_goingOn_128 {Γ : GX} (C : Cx Γ RX11 cX11_goingOn 6) (M : Mx Γ (some .int)) (L : xn Γ = 5) (v2 : Int32) (v3 : Int32) : ∀ (n : Nat) (v4 : Int32) (u : Mm), Gp Γ (QM Γ cvI) 128 [(0, .ref ((xE Γ).1 74)), (2, .int v2), (3, .int v3), (4, .int v4)] [] u (gX11_goingOn_128_L v2 v3 n v4 u) := by
  intro n
  induction n with
  | zero => intro _ _; exact g_none
  | succ n ih => intro v4 u; exact pX11_goingOn_128s C M L v2 v3 ih v4 u

set_option maxRecDepth 20000 in
set_option maxHeartbeats 4000000 in
theorem pX11_goingOn_124 {Γ : GX} (C : Cx Γ RX11 cX11_goingOn 6) (M : Mx Γ (some .int)) (L : xn Γ = 5) (v2 : Int32) (s0 : Int32) (u : Mm) : Gp Γ (QM Γ cvI) 124 [(0, .ref ((xE Γ).1 74)), (2, .int v2)] [.int s0] u (gX11_goingOn_124 v2 s0 u) := by
  unfold gX11_goingOn_124
  refine g_istore_n (ls' := [(3, .int s0), (0, .ref ((xE Γ).1 74)), (2, .int v2)]) C dX11_goingOn_124 rfl L (by decide) rfl ?_
  refine g_iconst (v := 0) C dX11_goingOn_125 rfl (by decide) ?_
  refine g_istore (ls' := [(4, .int 0), (3, .int s0), (0, .ref ((xE Γ).1 74)), (2, .int v2)]) C dX11_goingOn_126 rfl L (by decide) rfl ?_
  refine g_sub (ls' := [(0, .ref ((xE Γ).1 74)), (2, .int v2), (3, .int s0), (4, .int 0)]) [2, 3, 1, 0] rfl ?_
  exact pX11_goingOn_128 C M L v2 s0 FU 0 u
set_option maxRecDepth 20000 in
set_option maxHeartbeats 4000000 in
theorem pX11_goingOn_84s {Γ : GX} (C : Cx Γ RX11 cX11_goingOn 6) (M : Mx Γ (some .int)) (L : xn Γ = 5) (v1 : Int32) (v2 : Int32) {j84 : Int32 → Mm → Option (Int32 × Mm)} (hj84 : ∀ (v3 : Int32) (u : Mm), Gp Γ (QM Γ cvI) 84 [(0, .ref ((xE Γ).1 74)), (1, .int v1), (2, .int v2), (3, .int v3)] [] u (j84 v3 u)) (v3 : Int32) (u : Mm) : Gp Γ (QM Γ cvI) 84 [(0, .ref ((xE Γ).1 74)), (1, .int v1), (2, .int v2), (3, .int v3)] [] u (gX11_goingOn_84_Ls v1 v2 j84 v3 u) := by
  unfold gX11_goingOn_84_Ls
  refine g_iload_n C dX11_goingOn_84 rfl 3 rfl ?_
  refine g_iload_n C dX11_goingOn_85 rfl 1 rfl ?_
  refine g_icmp_ge 99 C dX11_goingOn_86 rfl (by decide) (fun c1 => ?_) (fun c1 => ?_)
  · refine g_aload_n C dX11_goingOn_99 rfl 0 rfl ?_
    refine g_callV [] C dX11_goingOn_100 rfl (tX11_open (xl Γ) (xE Γ) u) cf_X11_open rfl rfl ml_X11_291 rfl (by decide) (Nat.le_of_ble_eq_true rfl) rfl (fun u2 => ?_)
    refine g_aload_n C dX11_goingOn_103 rfl 0 rfl ?_
    refine g_callV [] C dX11_goingOn_104 rfl (tX11_seekBest (xl Γ) (xE Γ) u2) cf_X11_seekBest rfl rfl ml_X11_322 rfl (by decide) (Nat.le_of_ble_eq_true rfl) rfl (fun u3 => ?_)
    refine g_aload_n C dX11_goingOn_107 rfl 0 rfl ?_
    refine g_getI C dX11_goingOn_108 rfl rfl fi_11_48 rfl fl_X11_316 ?_
    refine g_if_ge 120 C dX11_goingOn_111 rfl (by decide) (fun c4 => ?_) (fun c4 => ?_)
    · refine g_aload_n C dX11_goingOn_120 rfl 0 rfl ?_
      refine g_getI C dX11_goingOn_121 rfl rfl fi_11_48 rfl fl_X11_316 ?_
      refine g_sub (ls' := [(0, .ref ((xE Γ).1 74)), (2, .int v2)]) [0, 2] rfl ?_
      exact pX11_goingOn_124 C M L v2 (u3 74 48) u3
    · refine g_sipush (v := 1000) C dX11_goingOn_114 rfl (by decide) ?_
      refine g_goto 124 C dX11_goingOn_117 rfl (by decide) ?_
      refine g_sub (ls' := [(0, .ref ((xE Γ).1 74)), (2, .int v2)]) [0, 2] rfl ?_
      exact pX11_goingOn_124 C M L v2 1000 u3
  · refine g_aload_n C dX11_goingOn_89 rfl 0 rfl ?_
    refine g_callV [] C dX11_goingOn_90 rfl (tX11_holdOn (xl Γ) (xE Γ) u) cf_X11_holdOn rfl rfl ml_X11_276 rfl (by decide) (Nat.le_of_ble_eq_true rfl) rfl (fun u5 => ?_)
    refine g_iincL (fun v3_6 => [(3, .int v3_6), (0, .ref ((xE Γ).1 74)), (1, .int v1), (2, .int v2)]) C dX11_goingOn_93 rfl L (by decide) (k := 3) rfl (iinc_1 _) (fun _ => rfl) (fun v3_6 => ?_)
    refine g_goto 84 C dX11_goingOn_96 rfl (by decide) ?_
    refine g_sub (ls' := [(0, .ref ((xE Γ).1 74)), (1, .int v1), (2, .int v2), (3, .int v3_6)]) [1, 2, 3, 0] rfl ?_
    exact hj84 v3_6 u5
set_option maxRecDepth 20000 in
set_option maxHeartbeats 4000000 in
theorem pX11_goingOn_84 {Γ : GX} (C : Cx Γ RX11 cX11_goingOn 6) (M : Mx Γ (some .int)) (L : xn Γ = 5) (v1 : Int32) (v2 : Int32) : ∀ (n : Nat) (v3 : Int32) (u : Mm), Gp Γ (QM Γ cvI) 84 [(0, .ref ((xE Γ).1 74)), (1, .int v1), (2, .int v2), (3, .int v3)] [] u (gX11_goingOn_84_L v1 v2 n v3 u) := by
  intro n
  induction n with
  | zero => intro _ _; exact g_none
  | succ n ih => intro v3 u; exact pX11_goingOn_84s C M L v1 v2 ih v3 u

set_option maxRecDepth 20000 in
set_option maxHeartbeats 4000000 in
theorem pX11_goingOn_81 {Γ : GX} (C : Cx Γ RX11 cX11_goingOn 6) (M : Mx Γ (some .int)) (L : xn Γ = 5) (v1 : Int32) (s0 : Int32) (u : Mm) : Gp Γ (QM Γ cvI) 81 [(0, .ref ((xE Γ).1 74)), (1, .int v1)] [.int s0] u (gX11_goingOn_81 v1 s0 u) := by
  unfold gX11_goingOn_81
  refine g_istore_n (ls' := [(2, .int s0), (0, .ref ((xE Γ).1 74)), (1, .int v1)]) C dX11_goingOn_81 rfl L (by decide) rfl ?_
  refine g_iconst (v := 0) C dX11_goingOn_82 rfl (by decide) ?_
  refine g_istore_n (ls' := [(3, .int 0), (2, .int s0), (0, .ref ((xE Γ).1 74)), (1, .int v1)]) C dX11_goingOn_83 rfl L (by decide) rfl ?_
  refine g_sub (ls' := [(0, .ref ((xE Γ).1 74)), (1, .int v1), (2, .int s0), (3, .int 0)]) [2, 3, 1, 0] rfl ?_
  exact pX11_goingOn_84 C M L v1 s0 FU 0 u
set_option maxRecDepth 20000 in
set_option maxHeartbeats 4000000 in
theorem pX11_goingOn_36s {Γ : GX} (C : Cx Γ RX11 cX11_goingOn 6) (M : Mx Γ (some .int)) (L : xn Γ = 5) (v1 : Int32) {j36 : Int32 → Mm → Option (Int32 × Mm)} (hj36 : ∀ (v2 : Int32) (u : Mm), Gp Γ (QM Γ cvI) 36 [(0, .ref ((xE Γ).1 74)), (1, .int v1), (2, .int v2)] [] u (j36 v2 u)) (v2 : Int32) (u : Mm) : Gp Γ (QM Γ cvI) 36 [(0, .ref ((xE Γ).1 74)), (1, .int v1), (2, .int v2)] [] u (gX11_goingOn_36_Ls v1 j36 v2 u) := by
  unfold gX11_goingOn_36_Ls
  refine g_iload_n C dX11_goingOn_36 rfl 2 rfl ?_
  refine g_bipush (v := 14) C dX11_goingOn_37 rfl (by decide) ?_
  refine g_icmp_ge 60 C dX11_goingOn_39 rfl (by decide) (fun c1 => ?_) (fun c1 => ?_)
  · refine g_aload_n C dX11_goingOn_60 rfl 0 rfl ?_
    refine g_callV [] C dX11_goingOn_61 rfl (tX11_seekBest (xl Γ) (xE Γ) u) cf_X11_seekBest rfl rfl ml_X11_322 rfl (by decide) (Nat.le_of_ble_eq_true rfl) rfl (fun u2 => ?_)
    refine g_aload_n C dX11_goingOn_64 rfl 0 rfl ?_
    refine g_getI C dX11_goingOn_65 rfl rfl fi_11_48 rfl fl_X11_316 ?_
    refine g_if_ge 77 C dX11_goingOn_68 rfl (by decide) (fun c3 => ?_) (fun c3 => ?_)
    · refine g_aload_n C dX11_goingOn_77 rfl 0 rfl ?_
      refine g_getI C dX11_goingOn_78 rfl rfl fi_11_48 rfl fl_X11_316 ?_
      refine g_sub (ls' := [(0, .ref ((xE Γ).1 74)), (1, .int v1)]) [0, 1] rfl ?_
      exact pX11_goingOn_81 C M L v1 (u2 74 48) u2
    · refine g_sipush (v := 1000) C dX11_goingOn_71 rfl (by decide) ?_
      refine g_goto 81 C dX11_goingOn_74 rfl (by decide) ?_
      refine g_sub (ls' := [(0, .ref ((xE Γ).1 74)), (1, .int v1)]) [0, 1] rfl ?_
      exact pX11_goingOn_81 C M L v1 1000 u2
  · refine g_aload_n C dX11_goingOn_42 rfl 0 rfl ?_
    refine g_getR (k2 := 95) C dX11_goingOn_43 rfl rfl fi_11_50 ⟨by decide, by decide, rfl⟩ fl_X11_86 ?_
    refine g_iload_n C dX11_goingOn_46 rfl 2 rfl ?_
    refine g_aload_n C dX11_goingOn_47 rfl 0 rfl ?_
    refine g_getR (k2 := 92) C dX11_goingOn_48 rfl rfl fi_11_37 ⟨by decide, by decide, rfl⟩ fl_X11_77 ?_
    refine g_iload_n C dX11_goingOn_51 rfl 2 rfl ?_
    refine g_gd (fun hi4 => ?_)
    refine g_iald C dX11_goingOn_52 rfl rfl rfl hi4 ?_
    refine g_gd (fun hi6 => ?_)
    refine g_iast C dX11_goingOn_53 rfl rfl rfl hi6 ?_
    refine g_letm (fun u5 => ?_)
    refine g_iincL (fun v2_7 => [(2, .int v2_7), (0, .ref ((xE Γ).1 74)), (1, .int v1)]) C dX11_goingOn_54 rfl L (by decide) (k := 2) rfl (iinc_1 _) (fun _ => rfl) (fun v2_7 => ?_)
    refine g_goto 36 C dX11_goingOn_57 rfl (by decide) ?_
    refine g_sub (ls' := [(0, .ref ((xE Γ).1 74)), (1, .int v1), (2, .int v2_7)]) [1, 2, 0] rfl ?_
    exact hj36 v2_7 u5
set_option maxRecDepth 20000 in
set_option maxHeartbeats 4000000 in
theorem pX11_goingOn_36 {Γ : GX} (C : Cx Γ RX11 cX11_goingOn 6) (M : Mx Γ (some .int)) (L : xn Γ = 5) (v1 : Int32) : ∀ (n : Nat) (v2 : Int32) (u : Mm), Gp Γ (QM Γ cvI) 36 [(0, .ref ((xE Γ).1 74)), (1, .int v1), (2, .int v2)] [] u (gX11_goingOn_36_L v1 n v2 u) := by
  intro n
  induction n with
  | zero => intro _ _; exact g_none
  | succ n ih => intro v2 u; exact pX11_goingOn_36s C M L v1 ih v2 u

set_option maxRecDepth 20000 in
set_option maxHeartbeats 4000000 in
theorem pX11_goingOn_0 {Γ : GX} (C : Cx Γ RX11 cX11_goingOn 6) (M : Mx Γ (some .int)) (L : xn Γ = 5) (v1 : Int32) (u : Mm) : Gp Γ (QM Γ cvI) 0 [(0, .ref ((xE Γ).1 74)), (1, .int v1)] [] u (gX11_goingOn_b v1 u) := by
  unfold gX11_goingOn_b
  refine g_aload_n C dX11_goingOn_0 rfl 0 rfl ?_
  refine g_iconst (v := 0) C dX11_goingOn_1 rfl (by decide) ?_
  refine g_putI C dX11_goingOn_2 rfl rfl fp_11_19 rfl fl_X11_104 ?_
  refine g_letm (fun u1 => ?_)
  refine g_iload_n C dX11_goingOn_5 rfl 1 rfl ?_
  refine g_iconst (v := 0) C dX11_goingOn_6 rfl (by decide) ?_
  refine g_bipush (v := 20) C dX11_goingOn_7 rfl (by decide) ?_
  refine g_callsP [.int v1, .int 0, .int 20] C dX11_goingOn_9 rfl (tX11_wrongNumber (xl Γ) (xE Γ) v1 0 20 u1) cf_X11_wrongNumber ml_X11_255 rfl (by decide) (Nat.le_of_ble_eq_true rfl) rfl (fun r2 => ?_)
  refine g_if_ge 30 C dX11_goingOn_12 rfl (by decide) (fun c3 => ?_) (fun c3 => ?_)
  · refine g_aload_n C dX11_goingOn_30 rfl 0 rfl ?_
    refine g_callV [] C dX11_goingOn_31 rfl (tX11_open (xl Γ) (xE Γ) u1) cf_X11_open rfl rfl ml_X11_291 rfl (by decide) (Nat.le_of_ble_eq_true rfl) rfl (fun u4 => ?_)
    refine g_iconst (v := 0) C dX11_goingOn_34 rfl (by decide) ?_
    refine g_istore_n (ls' := [(2, .int 0), (0, .ref ((xE Γ).1 74)), (1, .int v1)]) C dX11_goingOn_35 rfl L (by decide) rfl ?_
    refine g_sub (ls' := [(0, .ref ((xE Γ).1 74)), (1, .int v1), (2, .int 0)]) [1, 2, 0] rfl ?_
    exact pX11_goingOn_36 C M L v1 FU 0 u4
  · refine g_ldc (v := 1000000000) C dX11_goingOn_15 rfl (wm_20 15 rfl) ?_
    refine g_aload_n C dX11_goingOn_17 rfl 0 rfl ?_
    refine g_iload_n C dX11_goingOn_18 rfl 1 rfl ?_
    refine g_iconst (v := 0) C dX11_goingOn_19 rfl (by decide) ?_
    refine g_bipush (v := 20) C dX11_goingOn_20 rfl (by decide) ?_
    refine g_callsP [.int v1, .int 0, .int 20] C dX11_goingOn_22 rfl (tX11_wrongNumber (xl Γ) (xE Γ) v1 0 20 u1) cf_X11_wrongNumber ml_X11_255 rfl (by decide) (Nat.le_of_ble_eq_true rfl) rfl (fun r5 => ?_)
    refine g_callI [.int r5] C dX11_goingOn_25 rfl (tX11_refuse (xl Γ) (xE Γ) r5 u1) cf_X11_refuse rfl rfl ml_X11_153 rfl (by decide) (Nat.le_of_ble_eq_true rfl) rfl (fun r7 u6 => ?_)
    refine g_isub C dX11_goingOn_28 rfl ?_
    exact g_iret C M dX11_goingOn_29 rfl rfl
set_option maxRecDepth 20000 in
set_option maxHeartbeats 4000000 in
theorem tX11_goingOn (l : Launch) (E : EE) (v1 : Int32) (u : Mm) : Ct l E yX11_goingOn cX11_goingOn 5 (some .int) 6 [.ref (E.1 74), .int v1] u cvI (gX11_goingOn v1 u) :=
  Ct_of (own := RX11) (by decide +kernel) rfl (Nat.le_of_ble_eq_true rfl) (fun p e R s m args below meth c C M => g_sub (ls' := [(0, .ref (E.1 74)), (1, .int v1)]) [0, 1] rfl (pX11_goingOn_0 C M rfl v1 u))
set_option maxRecDepth 20000 in
set_option maxHeartbeats 4000000 in
theorem pX11_blown_118 {Γ : GX} (C : Cx Γ RX11 cX11_blown 1) (M : Mx Γ (some .int)) (L : xn Γ = 6) (v1 : Int32) (v3 : Int32) (s0 : Int32) {j28 : Int32 → Int32 → Mm → Option (Int32 × Mm)} (hj28 : ∀ (v2 : Int32) (v3 : Int32) (u : Mm), Gp Γ (QM Γ cvI) 28 [(0, .ref ((xE Γ).1 74)), (1, .int v1), (2, .int v2), (3, .int v3)] [] u (j28 v2 v3 u)) (u : Mm) : Gp Γ (QM Γ cvI) 118 [(0, .ref ((xE Γ).1 74)), (1, .int v1), (3, .int v3)] [.int s0] u (gX11_blown_118 j28 v1 v3 s0 u) := by
  unfold gX11_blown_118
  refine g_istore_n (ls' := [(2, .int s0), (0, .ref ((xE Γ).1 74)), (1, .int v1), (3, .int v3)]) C dX11_blown_118 rfl L (by decide) rfl ?_
  refine g_iincL (fun v3_1 => [(3, .int v3_1), (2, .int s0), (0, .ref ((xE Γ).1 74)), (1, .int v1)]) C dX11_blown_119 rfl L (by decide) (k := 3) rfl (iinc_1 _) (fun _ => rfl) (fun v3_1 => ?_)
  refine g_goto 28 C dX11_blown_122 rfl (by decide) ?_
  refine g_sub (ls' := [(0, .ref ((xE Γ).1 74)), (1, .int v1), (2, .int s0), (3, .int v3_1)]) [2, 3, 1, 0] rfl ?_
  exact hj28 s0 v3_1 u
set_option maxRecDepth 20000 in
set_option maxHeartbeats 4000000 in
theorem pX11_blown_104 {Γ : GX} (C : Cx Γ RX11 cX11_blown 1) (M : Mx Γ (some .int)) (L : xn Γ = 6) (v1 : Int32) (v2 : Int32) (v3 : Int32) (v4 : Int32) (s0 : Int32) {j28 : Int32 → Int32 → Mm → Option (Int32 × Mm)} (hj28 : ∀ (v2 : Int32) (v3 : Int32) (u : Mm), Gp Γ (QM Γ cvI) 28 [(0, .ref ((xE Γ).1 74)), (1, .int v1), (2, .int v2), (3, .int v3)] [] u (j28 v2 v3 u)) (u : Mm) : Gp Γ (QM Γ cvI) 104 [(0, .ref ((xE Γ).1 74)), (1, .int v1), (2, .int v2), (3, .int v3), (4, .int v4)] [.int s0] u (gX11_blown_104 j28 v1 v2 v3 v4 s0 u) := by
  unfold gX11_blown_104
  refine g_istore (ls' := [(5, .int s0), (0, .ref ((xE Γ).1 74)), (1, .int v1), (2, .int v2), (3, .int v3), (4, .int v4)]) C dX11_blown_104 rfl L (by decide) rfl ?_
  refine g_iload C dX11_blown_106 rfl 5 rfl ?_
  refine g_iload C dX11_blown_108 rfl 0 rfl ?_
  refine g_icmp_le 117 C dX11_blown_110 rfl (by decide) (fun c1 => ?_) (fun c1 => ?_)
  · refine g_iload_n C dX11_blown_117 rfl 3 rfl ?_
    refine g_sub (ls' := [(0, .ref ((xE Γ).1 74)), (1, .int v1), (3, .int v3)]) [1, 2, 4] rfl ?_
    exact pX11_blown_118 C M L v1 v3 v2 hj28 u
  · refine g_iload_n C dX11_blown_113 rfl 4 rfl ?_
    refine g_goto 118 C dX11_blown_114 rfl (by decide) ?_
    refine g_sub (ls' := [(0, .ref ((xE Γ).1 74)), (1, .int v1), (3, .int v3)]) [1, 2, 4] rfl ?_
    exact pX11_blown_118 C M L v1 v3 v3 hj28 u
set_option maxRecDepth 20000 in
set_option maxHeartbeats 4000000 in
theorem pX11_blown_68 {Γ : GX} (C : Cx Γ RX11 cX11_blown 1) (M : Mx Γ (some .int)) (L : xn Γ = 6) (v1 : Int32) (v2 : Int32) (v3 : Int32) (s0 : Int32) {j28 : Int32 → Int32 → Mm → Option (Int32 × Mm)} (hj28 : ∀ (v2 : Int32) (v3 : Int32) (u : Mm), Gp Γ (QM Γ cvI) 28 [(0, .ref ((xE Γ).1 74)), (1, .int v1), (2, .int v2), (3, .int v3)] [] u (j28 v2 v3 u)) (u : Mm) : Gp Γ (QM Γ cvI) 68 [(0, .ref ((xE Γ).1 74)), (1, .int v1), (2, .int v2), (3, .int v3)] [.int s0] u (gX11_blown_68 j28 v1 v2 v3 s0 u) := by
  unfold gX11_blown_68
  refine g_istore (ls' := [(4, .int s0), (0, .ref ((xE Γ).1 74)), (1, .int v1), (2, .int v2), (3, .int v3)]) C dX11_blown_68 rfl L (by decide) rfl ?_
  refine g_iload_n C dX11_blown_70 rfl 2 rfl ?_
  refine g_if_ne 83 C dX11_blown_71 rfl (by decide) (fun c1 => ?_) (fun c1 => ?_)
  · refine g_iload_n C dX11_blown_83 rfl 2 rfl ?_
    refine g_iconst (v := 1) C dX11_blown_84 rfl (by decide) ?_
    refine g_icmp_ne 98 C dX11_blown_85 rfl (by decide) (fun c2 => ?_) (fun c2 => ?_)
    · refine g_aload_n C dX11_blown_98 rfl 1 rfl ?_
      refine g_getR (k2 := 76) C dX11_blown_99 rfl rfl fi_11_1 ⟨by decide, by decide, rfl⟩ fl_X11_13 ?_
      refine g_iload_n C dX11_blown_102 rfl 3 rfl ?_
      refine g_gd (fun hi3 => ?_)
      refine g_iald C dX11_blown_103 rfl rfl rfl hi3 ?_
      refine g_sub (ls' := [(0, .ref ((xE Γ).1 74)), (1, .int v1), (2, .int v2), (3, .int v3), (4, .int s0)]) [1, 2, 3, 4, 0] rfl ?_
      exact pX11_blown_104 C M L v1 v2 v3 s0 (u 76 (ixn v2)) hj28 u
    · refine g_aload_n C dX11_blown_88 rfl 1 rfl ?_
      refine g_getR (k2 := 75) C dX11_blown_89 rfl rfl fi_11_0 ⟨by decide, by decide, rfl⟩ fl_X11_7 ?_
      refine g_iload_n C dX11_blown_92 rfl 3 rfl ?_
      refine g_gd (fun hi4 => ?_)
      refine g_iald C dX11_blown_93 rfl rfl rfl hi4 ?_
      refine g_ineg C dX11_blown_94 rfl ?_
      refine g_goto 104 C dX11_blown_95 rfl (by decide) ?_
      refine g_sub (ls' := [(0, .ref ((xE Γ).1 74)), (1, .int v1), (2, .int v2), (3, .int v3), (4, .int s0)]) [1, 2, 3, 4, 0] rfl ?_
      exact pX11_blown_104 C M L v1 v2 v3 s0 (-(u 75 (ixn v2))) hj28 u
  · refine g_aload_n C dX11_blown_74 rfl 1 rfl ?_
    refine g_getR (k2 := 75) C dX11_blown_75 rfl rfl fi_11_0 ⟨by decide, by decide, rfl⟩ fl_X11_7 ?_
    refine g_iload_n C dX11_blown_78 rfl 3 rfl ?_
    refine g_gd (fun hi5 => ?_)
    refine g_iald C dX11_blown_79 rfl rfl rfl hi5 ?_
    refine g_goto 104 C dX11_blown_80 rfl (by decide) ?_
    refine g_sub (ls' := [(0, .ref ((xE Γ).1 74)), (1, .int v1), (2, .int v2), (3, .int v3), (4, .int s0)]) [1, 2, 3, 4, 0] rfl ?_
    exact pX11_blown_104 C M L v1 v2 v3 s0 (u 75 (ixn v2)) hj28 u
set_option maxRecDepth 20000 in
set_option maxHeartbeats 4000000 in
theorem pX11_blown_28s {Γ : GX} (C : Cx Γ RX11 cX11_blown 1) (M : Mx Γ (some .int)) (L : xn Γ = 6) (v1 : Int32) {j28 : Int32 → Int32 → Mm → Option (Int32 × Mm)} (hj28 : ∀ (v2 : Int32) (v3 : Int32) (u : Mm), Gp Γ (QM Γ cvI) 28 [(0, .ref ((xE Γ).1 74)), (1, .int v1), (2, .int v2), (3, .int v3)] [] u (j28 v2 v3 u)) (v2 : Int32) (v3 : Int32) (u : Mm) : Gp Γ (QM Γ cvI) 28 [(0, .ref ((xE Γ).1 74)), (1, .int v1), (2, .int v2), (3, .int v3)] [] u (gX11_blown_28_Ls v1 j28 v2 v3 u) := by
  unfold gX11_blown_28_Ls
  refine g_iload_n C dX11_blown_28 rfl 3 rfl ?_
  refine g_bipush (v := 8) C dX11_blown_29 rfl (by decide) ?_
  refine g_icmp_ge 125 C dX11_blown_31 rfl (by decide) (fun c1 => ?_) (fun c1 => ?_)
  · refine g_iload_n C dX11_blown_125 rfl 2 rfl ?_
    exact g_iret C M dX11_blown_126 rfl rfl
  · refine g_iload_n C dX11_blown_34 rfl 1 rfl ?_
    refine g_if_ne 47 C dX11_blown_35 rfl (by decide) (fun c2 => ?_) (fun c2 => ?_)
    · refine g_iload_n C dX11_blown_47 rfl 1 rfl ?_
      refine g_iconst (v := 1) C dX11_blown_48 rfl (by decide) ?_
      refine g_icmp_ne 62 C dX11_blown_49 rfl (by decide) (fun c3 => ?_) (fun c3 => ?_)
      · refine g_aload_n C dX11_blown_62 rfl 0 rfl ?_
        refine g_getR (k2 := 76) C dX11_blown_63 rfl rfl fi_11_1 ⟨by decide, by decide, rfl⟩ fl_X11_13 ?_
        refine g_iload_n C dX11_blown_66 rfl 3 rfl ?_
        refine g_gd (fun hi4 => ?_)
        refine g_iald C dX11_blown_67 rfl rfl rfl hi4 ?_
        exact pX11_blown_68 C M L v1 v2 v3 (u 76 (ixn v3)) hj28 u
      · refine g_aload_n C dX11_blown_52 rfl 0 rfl ?_
        refine g_getR (k2 := 75) C dX11_blown_53 rfl rfl fi_11_0 ⟨by decide, by decide, rfl⟩ fl_X11_7 ?_
        refine g_iload_n C dX11_blown_56 rfl 3 rfl ?_
        refine g_gd (fun hi5 => ?_)
        refine g_iald C dX11_blown_57 rfl rfl rfl hi5 ?_
        refine g_ineg C dX11_blown_58 rfl ?_
        refine g_goto 68 C dX11_blown_59 rfl (by decide) ?_
        exact pX11_blown_68 C M L v1 v2 v3 (-(u 75 (ixn v3))) hj28 u
    · refine g_aload_n C dX11_blown_38 rfl 0 rfl ?_
      refine g_getR (k2 := 75) C dX11_blown_39 rfl rfl fi_11_0 ⟨by decide, by decide, rfl⟩ fl_X11_7 ?_
      refine g_iload_n C dX11_blown_42 rfl 3 rfl ?_
      refine g_gd (fun hi6 => ?_)
      refine g_iald C dX11_blown_43 rfl rfl rfl hi6 ?_
      refine g_goto 68 C dX11_blown_44 rfl (by decide) ?_
      exact pX11_blown_68 C M L v1 v2 v3 (u 75 (ixn v3)) hj28 u
set_option maxRecDepth 20000 in
set_option maxHeartbeats 4000000 in
theorem pX11_blown_28 {Γ : GX} (C : Cx Γ RX11 cX11_blown 1) (M : Mx Γ (some .int)) (L : xn Γ = 6) (v1 : Int32) : ∀ (n : Nat) (v2 : Int32) (v3 : Int32) (u : Mm), Gp Γ (QM Γ cvI) 28 [(0, .ref ((xE Γ).1 74)), (1, .int v1), (2, .int v2), (3, .int v3)] [] u (gX11_blown_28_L v1 n v2 v3 u) := by
  intro n
  induction n with
  | zero => intro _ _ _; exact g_none
  | succ n ih => intro v2 v3 u; exact pX11_blown_28s C M L v1 ih v2 v3 u

set_option maxRecDepth 20000 in
set_option maxHeartbeats 4000000 in
theorem pX11_blown_0 {Γ : GX} (C : Cx Γ RX11 cX11_blown 1) (M : Mx Γ (some .int)) (L : xn Γ = 6) (v1 : Int32) (u : Mm) : Gp Γ (QM Γ cvI) 0 [(0, .ref ((xE Γ).1 74)), (1, .int v1)] [] u (gX11_blown_b v1 u) := by
  unfold gX11_blown_b
  refine g_aload_n C dX11_blown_0 rfl 0 rfl ?_
  refine g_iconst (v := 0) C dX11_blown_1 rfl (by decide) ?_
  refine g_putI C dX11_blown_2 rfl rfl fp_11_19 rfl fl_X11_104 ?_
  refine g_letm (fun u1 => ?_)
  refine g_iload_n C dX11_blown_5 rfl 1 rfl ?_
  refine g_i2l C dX11_blown_6 rfl ?_
  refine g_lconst (v := 0) C dX11_blown_7 rfl (by decide) ?_
  refine g_ldc2_w (v := 2) C dX11_blown_8 rfl (wm_26 16 rfl) ?_
  refine g_callsP [.long v1.toInt64, .long 0, .long 2] C dX11_blown_11 rfl (tX11_in (xl Γ) (xE Γ) v1.toInt64 0 2 u1) cf_X11_in ml_X11_107 rfl (by decide) (Nat.le_of_ble_eq_true rfl) rfl (fun r2 => ?_)
  refine g_if_ne 24 C dX11_blown_14 rfl (by decide) (fun c3 => ?_) (fun c3 => ?_)
  · refine g_iconst (v := 0) C dX11_blown_24 rfl (by decide) ?_
    refine g_istore_n (ls' := [(2, .int 0), (0, .ref ((xE Γ).1 74)), (1, .int v1)]) C dX11_blown_25 rfl L (by decide) rfl ?_
    refine g_iconst (v := 1) C dX11_blown_26 rfl (by decide) ?_
    refine g_istore_n (ls' := [(3, .int 1), (2, .int 0), (0, .ref ((xE Γ).1 74)), (1, .int v1)]) C dX11_blown_27 rfl L (by decide) rfl ?_
    refine g_sub (ls' := [(0, .ref ((xE Γ).1 74)), (1, .int v1), (2, .int 0), (3, .int 1)]) [2, 3, 1, 0] rfl ?_
    exact pX11_blown_28 C M L v1 FU 0 1 u1
  · refine g_aload_n C dX11_blown_17 rfl 0 rfl ?_
    refine g_bipush (v := (-2)) C dX11_blown_18 rfl (by decide) ?_
    refine g_callI [.int (-2)] C dX11_blown_20 rfl (tX11_refuse (xl Γ) (xE Γ) (-2) u1) cf_X11_refuse rfl rfl ml_X11_153 rfl (by decide) (Nat.le_of_ble_eq_true rfl) rfl (fun r5 u4 => ?_)
    exact g_iret C M dX11_blown_23 rfl rfl
set_option maxRecDepth 20000 in
set_option maxHeartbeats 4000000 in
theorem tX11_blown (l : Launch) (E : EE) (v1 : Int32) (u : Mm) : Ct l E yX11_blown cX11_blown 6 (some .int) 1 [.ref (E.1 74), .int v1] u cvI (gX11_blown v1 u) :=
  Ct_of (own := RX11) (by decide +kernel) rfl (Nat.le_of_ble_eq_true rfl) (fun p e R s m args below meth c C M => g_sub (ls' := [(0, .ref (E.1 74)), (1, .int v1)]) [0, 1] rfl (pX11_blown_0 C M rfl v1 u))
set_option maxRecDepth 20000 in
set_option maxHeartbeats 4000000 in
theorem pX11_twoBy_61 {Γ : GX} (C : Cx Γ RX11 cX11_twoBy 0) (M : Mx Γ (some .int)) (L : xn Γ = 8) (u : Mm) (v1 : Int32) (v2 : Int32) (v3 : Int32) (v4 : Int32) (v5 : Int32) (v6 : Int32) (s0 : Int32) {j3 : Int32 → Option Int32} (hj3 : ∀ (v4 : Int32), Gp Γ (QM Γ (cvP u)) 3 [(0, .ref ((xE Γ).1 74)), (1, .int v1), (2, .int v2), (3, .int v3), (4, .int v4)] [] u (j3 v4)) {j13 : Int32 → Option Int32} (hj13 : ∀ (v5 : Int32), Gp Γ (QM Γ (cvP u)) 13 [(0, .ref ((xE Γ).1 74)), (1, .int v1), (2, .int v2), (3, .int v3), (4, .int v4), (5, .int v5)] [] u (j13 v5)) {j23 : Int32 → Option Int32} (hj23 : ∀ (v6 : Int32), Gp Γ (QM Γ (cvP u)) 23 [(0, .ref ((xE Γ).1 74)), (1, .int v1), (2, .int v2), (3, .int v3), (4, .int v4), (5, .int v5), (6, .int v6)] [] u (j23 v6)) : Gp Γ (QM Γ (cvP u)) 61 [(0, .ref ((xE Γ).1 74)), (1, .int v1), (2, .int v2), (3, .int v3), (4, .int v4), (5, .int v5), (6, .int v6)] [.int s0] u (gX11_twoBy_61 j3 j13 j23 v1 v2 v3 v4 v5 v6 s0 u) := by
  unfold gX11_twoBy_61
  refine g_istore (ls' := [(7, .int s0), (0, .ref ((xE Γ).1 74)), (1, .int v1), (2, .int v2), (3, .int v3), (4, .int v4), (5, .int v5), (6, .int v6)]) C dX11_twoBy_61 rfl L (by decide) rfl ?_
  refine g_iload C dX11_twoBy_63 rfl 0 rfl ?_
  refine g_if_eq 112 C dX11_twoBy_65 rfl (by decide) (fun c1 => ?_) (fun c1 => ?_)
  · refine g_iincL (fun v6_2 => [(6, .int v6_2), (7, .int s0), (0, .ref ((xE Γ).1 74)), (1, .int v1), (2, .int v2), (3, .int v3), (4, .int v4), (5, .int v5)]) C dX11_twoBy_112 rfl L (by decide) (k := 7) rfl (iinc_1 _) (fun _ => rfl) (fun v6_2 => ?_)
    refine g_goto 23 C dX11_twoBy_115 rfl (by decide) ?_
    refine g_sub (ls' := [(0, .ref ((xE Γ).1 74)), (1, .int v1), (2, .int v2), (3, .int v3), (4, .int v4), (5, .int v5), (6, .int v6_2)]) [2, 3, 4, 5, 6, 7, 0] rfl ?_
    exact hj23 v6_2
  · refine g_iload C dX11_twoBy_68 rfl 7 rfl ?_
    refine g_aload_n C dX11_twoBy_70 rfl 1 rfl ?_
    refine g_getR (k2 := 76) C dX11_twoBy_71 rfl rfl fi_11_1 ⟨by decide, by decide, rfl⟩ fl_X11_13 ?_
    refine g_iload C dX11_twoBy_74 rfl 5 rfl ?_
    refine g_gd (fun hi3 => ?_)
    refine g_iald C dX11_twoBy_76 rfl rfl rfl hi3 ?_
    refine g_imul C dX11_twoBy_77 rfl ?_
    refine g_iload_n C dX11_twoBy_78 rfl 4 rfl ?_
    refine g_iload C dX11_twoBy_79 rfl 7 rfl ?_
    refine g_isub C dX11_twoBy_81 rfl ?_
    refine g_aload_n C dX11_twoBy_82 rfl 1 rfl ?_
    refine g_getR (k2 := 76) C dX11_twoBy_83 rfl rfl fi_11_1 ⟨by decide, by decide, rfl⟩ fl_X11_13 ?_
    refine g_iload C dX11_twoBy_86 rfl 6 rfl ?_
    refine g_gd (fun hi4 => ?_)
    refine g_iald C dX11_twoBy_88 rfl rfl rfl hi4 ?_
    refine g_imul C dX11_twoBy_89 rfl ?_
    refine g_iadd C dX11_twoBy_90 rfl ?_
    refine g_iload_n C dX11_twoBy_91 rfl 3 rfl ?_
    refine g_icmp_ne 112 C dX11_twoBy_92 rfl (by decide) (fun c5 => ?_) (fun c5 => ?_)
    · refine g_iincL (fun v6_6 => [(6, .int v6_6), (7, .int s0), (0, .ref ((xE Γ).1 74)), (1, .int v1), (2, .int v2), (3, .int v3), (4, .int v4), (5, .int v5)]) C dX11_twoBy_112 rfl L (by decide) (k := 7) rfl (iinc_1 _) (fun _ => rfl) (fun v6_6 => ?_)
      refine g_goto 23 C dX11_twoBy_115 rfl (by decide) ?_
      refine g_sub (ls' := [(0, .ref ((xE Γ).1 74)), (1, .int v1), (2, .int v2), (3, .int v3), (4, .int v4), (5, .int v5), (6, .int v6_6)]) [2, 3, 4, 5, 6, 7, 0] rfl ?_
      exact hj23 v6_6
    · refine g_sipush (v := 10000) C dX11_twoBy_95 rfl (by decide) ?_
      refine g_iload C dX11_twoBy_98 rfl 5 rfl ?_
      refine g_imul C dX11_twoBy_100 rfl ?_
      refine g_sipush (v := 1000) C dX11_twoBy_101 rfl (by decide) ?_
      refine g_iload C dX11_twoBy_104 rfl 6 rfl ?_
      refine g_imul C dX11_twoBy_106 rfl ?_
      refine g_iadd C dX11_twoBy_107 rfl ?_
      refine g_iload C dX11_twoBy_108 rfl 7 rfl ?_
      refine g_iadd C dX11_twoBy_110 rfl ?_
      exact g_iret C M dX11_twoBy_111 rfl rfl
set_option maxRecDepth 20000 in
set_option maxHeartbeats 4000000 in
theorem pX11_twoBy_23s {Γ : GX} (C : Cx Γ RX11 cX11_twoBy 0) (M : Mx Γ (some .int)) (L : xn Γ = 8) (u : Mm) (v1 : Int32) (v2 : Int32) (v3 : Int32) (v4 : Int32) (v5 : Int32) {j3 : Int32 → Option Int32} (hj3 : ∀ (v4 : Int32), Gp Γ (QM Γ (cvP u)) 3 [(0, .ref ((xE Γ).1 74)), (1, .int v1), (2, .int v2), (3, .int v3), (4, .int v4)] [] u (j3 v4)) {j13 : Int32 → Option Int32} (hj13 : ∀ (v5 : Int32), Gp Γ (QM Γ (cvP u)) 13 [(0, .ref ((xE Γ).1 74)), (1, .int v1), (2, .int v2), (3, .int v3), (4, .int v4), (5, .int v5)] [] u (j13 v5)) {j23 : Int32 → Option Int32} (hj23 : ∀ (v6 : Int32), Gp Γ (QM Γ (cvP u)) 23 [(0, .ref ((xE Γ).1 74)), (1, .int v1), (2, .int v2), (3, .int v3), (4, .int v4), (5, .int v5), (6, .int v6)] [] u (j23 v6)) (v6 : Int32) : Gp Γ (QM Γ (cvP u)) 23 [(0, .ref ((xE Γ).1 74)), (1, .int v1), (2, .int v2), (3, .int v3), (4, .int v4), (5, .int v5), (6, .int v6)] [] u (gX11_twoBy_23_Ls j3 j13 v1 v2 v3 v4 v5 u j23 v6) := by
  unfold gX11_twoBy_23_Ls
  refine g_iload C dX11_twoBy_23 rfl 6 rfl ?_
  refine g_iload_n C dX11_twoBy_25 rfl 3 rfl ?_
  refine g_icmp_gt 118 C dX11_twoBy_26 rfl (by decide) (fun c1 => ?_) (fun c1 => ?_)
  · refine g_iincL (fun v5_2 => [(5, .int v5_2), (0, .ref ((xE Γ).1 74)), (1, .int v1), (2, .int v2), (3, .int v3), (4, .int v4), (6, .int v6)]) C dX11_twoBy_118 rfl L (by decide) (k := 5) rfl (iinc_1 _) (fun _ => rfl) (fun v5_2 => ?_)
    refine g_goto 13 C dX11_twoBy_121 rfl (by decide) ?_
    refine g_sub (ls' := [(0, .ref ((xE Γ).1 74)), (1, .int v1), (2, .int v2), (3, .int v3), (4, .int v4), (5, .int v5_2)]) [1, 2, 3, 4, 5, 0] rfl ?_
    exact hj13 v5_2
  · refine g_iload C dX11_twoBy_29 rfl 6 rfl ?_
    refine g_aload_n C dX11_twoBy_31 rfl 0 rfl ?_
    refine g_getR (k2 := 75) C dX11_twoBy_32 rfl rfl fi_11_0 ⟨by decide, by decide, rfl⟩ fl_X11_7 ?_
    refine g_iload C dX11_twoBy_35 rfl 4 rfl ?_
    refine g_gd (fun hi3 => ?_)
    refine g_iald C dX11_twoBy_37 rfl rfl rfl hi3 ?_
    refine g_imul C dX11_twoBy_38 rfl ?_
    refine g_iload_n C dX11_twoBy_39 rfl 3 rfl ?_
    refine g_iload C dX11_twoBy_40 rfl 6 rfl ?_
    refine g_isub C dX11_twoBy_42 rfl ?_
    refine g_aload_n C dX11_twoBy_43 rfl 0 rfl ?_
    refine g_getR (k2 := 75) C dX11_twoBy_44 rfl rfl fi_11_0 ⟨by decide, by decide, rfl⟩ fl_X11_7 ?_
    refine g_iload C dX11_twoBy_47 rfl 5 rfl ?_
    refine g_gd (fun hi4 => ?_)
    refine g_iald C dX11_twoBy_49 rfl rfl rfl hi4 ?_
    refine g_imul C dX11_twoBy_50 rfl ?_
    refine g_iadd C dX11_twoBy_51 rfl ?_
    refine g_iload_n C dX11_twoBy_52 rfl 1 rfl ?_
    refine g_icmp_ne 60 C dX11_twoBy_53 rfl (by decide) (fun c5 => ?_) (fun c5 => ?_)
    · refine g_iconst (v := 0) C dX11_twoBy_60 rfl (by decide) ?_
      exact pX11_twoBy_61 C M L u v1 v2 v3 v4 v5 v6 0 hj3 hj13 hj23
    · refine g_iconst (v := 1) C dX11_twoBy_56 rfl (by decide) ?_
      refine g_goto 61 C dX11_twoBy_57 rfl (by decide) ?_
      exact pX11_twoBy_61 C M L u v1 v2 v3 v4 v5 v6 1 hj3 hj13 hj23
set_option maxRecDepth 20000 in
set_option maxHeartbeats 4000000 in
theorem pX11_twoBy_23 {Γ : GX} (C : Cx Γ RX11 cX11_twoBy 0) (M : Mx Γ (some .int)) (L : xn Γ = 8) (u : Mm) (v1 : Int32) (v2 : Int32) (v3 : Int32) (v4 : Int32) (v5 : Int32) {j3 : Int32 → Option Int32} (hj3 : ∀ (v4 : Int32), Gp Γ (QM Γ (cvP u)) 3 [(0, .ref ((xE Γ).1 74)), (1, .int v1), (2, .int v2), (3, .int v3), (4, .int v4)] [] u (j3 v4)) {j13 : Int32 → Option Int32} (hj13 : ∀ (v5 : Int32), Gp Γ (QM Γ (cvP u)) 13 [(0, .ref ((xE Γ).1 74)), (1, .int v1), (2, .int v2), (3, .int v3), (4, .int v4), (5, .int v5)] [] u (j13 v5)) : ∀ (n : Nat) (v6 : Int32), Gp Γ (QM Γ (cvP u)) 23 [(0, .ref ((xE Γ).1 74)), (1, .int v1), (2, .int v2), (3, .int v3), (4, .int v4), (5, .int v5), (6, .int v6)] [] u (gX11_twoBy_23_L j3 j13 v1 v2 v3 v4 v5 u n v6) := by
  intro n
  induction n with
  | zero => intro _; exact g_none
  | succ n ih => intro v6; exact pX11_twoBy_23s C M L u v1 v2 v3 v4 v5 hj3 hj13 ih v6

set_option maxRecDepth 20000 in
set_option maxHeartbeats 4000000 in
theorem pX11_twoBy_13s {Γ : GX} (C : Cx Γ RX11 cX11_twoBy 0) (M : Mx Γ (some .int)) (L : xn Γ = 8) (u : Mm) (v1 : Int32) (v2 : Int32) (v3 : Int32) (v4 : Int32) {j3 : Int32 → Option Int32} (hj3 : ∀ (v4 : Int32), Gp Γ (QM Γ (cvP u)) 3 [(0, .ref ((xE Γ).1 74)), (1, .int v1), (2, .int v2), (3, .int v3), (4, .int v4)] [] u (j3 v4)) {j13 : Int32 → Option Int32} (hj13 : ∀ (v5 : Int32), Gp Γ (QM Γ (cvP u)) 13 [(0, .ref ((xE Γ).1 74)), (1, .int v1), (2, .int v2), (3, .int v3), (4, .int v4), (5, .int v5)] [] u (j13 v5)) (v5 : Int32) : Gp Γ (QM Γ (cvP u)) 13 [(0, .ref ((xE Γ).1 74)), (1, .int v1), (2, .int v2), (3, .int v3), (4, .int v4), (5, .int v5)] [] u (gX11_twoBy_13_Ls j3 v1 v2 v3 v4 u j13 v5) := by
  unfold gX11_twoBy_13_Ls
  refine g_iload C dX11_twoBy_13 rfl 5 rfl ?_
  refine g_bipush (v := 8) C dX11_twoBy_15 rfl (by decide) ?_
  refine g_icmp_ge 124 C dX11_twoBy_17 rfl (by decide) (fun c1 => ?_) (fun c1 => ?_)
  · refine g_iincL (fun v4_2 => [(4, .int v4_2), (0, .ref ((xE Γ).1 74)), (1, .int v1), (2, .int v2), (3, .int v3), (5, .int v5)]) C dX11_twoBy_124 rfl L (by decide) (k := 4) rfl (iinc_1 _) (fun _ => rfl) (fun v4_2 => ?_)
    refine g_goto 3 C dX11_twoBy_127 rfl (by decide) ?_
    refine g_sub (ls' := [(0, .ref ((xE Γ).1 74)), (1, .int v1), (2, .int v2), (3, .int v3), (4, .int v4_2)]) [1, 2, 3, 4, 0] rfl ?_
    exact hj3 v4_2
  · refine g_iconst (v := 0) C dX11_twoBy_20 rfl (by decide) ?_
    refine g_istore (ls' := [(6, .int 0), (0, .ref ((xE Γ).1 74)), (1, .int v1), (2, .int v2), (3, .int v3), (4, .int v4), (5, .int v5)]) C dX11_twoBy_21 rfl L (by decide) rfl ?_
    refine g_sub (ls' := [(0, .ref ((xE Γ).1 74)), (1, .int v1), (2, .int v2), (3, .int v3), (4, .int v4), (5, .int v5), (6, .int 0)]) [1, 2, 3, 4, 5, 6, 0] rfl ?_
    exact pX11_twoBy_23 C M L u v1 v2 v3 v4 v5 hj3 hj13 FU 0
set_option maxRecDepth 20000 in
set_option maxHeartbeats 4000000 in
theorem pX11_twoBy_13 {Γ : GX} (C : Cx Γ RX11 cX11_twoBy 0) (M : Mx Γ (some .int)) (L : xn Γ = 8) (u : Mm) (v1 : Int32) (v2 : Int32) (v3 : Int32) (v4 : Int32) {j3 : Int32 → Option Int32} (hj3 : ∀ (v4 : Int32), Gp Γ (QM Γ (cvP u)) 3 [(0, .ref ((xE Γ).1 74)), (1, .int v1), (2, .int v2), (3, .int v3), (4, .int v4)] [] u (j3 v4)) : ∀ (n : Nat) (v5 : Int32), Gp Γ (QM Γ (cvP u)) 13 [(0, .ref ((xE Γ).1 74)), (1, .int v1), (2, .int v2), (3, .int v3), (4, .int v4), (5, .int v5)] [] u (gX11_twoBy_13_L j3 v1 v2 v3 v4 u n v5) := by
  intro n
  induction n with
  | zero => intro _; exact g_none
  | succ n ih => intro v5; exact pX11_twoBy_13s C M L u v1 v2 v3 v4 hj3 ih v5

set_option maxRecDepth 20000 in
set_option maxHeartbeats 4000000 in
theorem pX11_twoBy_3s {Γ : GX} (C : Cx Γ RX11 cX11_twoBy 0) (M : Mx Γ (some .int)) (L : xn Γ = 8) (u : Mm) (v1 : Int32) (v2 : Int32) (v3 : Int32) {j3 : Int32 → Option Int32} (hj3 : ∀ (v4 : Int32), Gp Γ (QM Γ (cvP u)) 3 [(0, .ref ((xE Γ).1 74)), (1, .int v1), (2, .int v2), (3, .int v3), (4, .int v4)] [] u (j3 v4)) (v4 : Int32) : Gp Γ (QM Γ (cvP u)) 3 [(0, .ref ((xE Γ).1 74)), (1, .int v1), (2, .int v2), (3, .int v3), (4, .int v4)] [] u (gX11_twoBy_3_Ls v1 v2 v3 u j3 v4) := by
  unfold gX11_twoBy_3_Ls
  refine g_iload C dX11_twoBy_3 rfl 4 rfl ?_
  refine g_bipush (v := 8) C dX11_twoBy_5 rfl (by decide) ?_
  refine g_icmp_ge 130 C dX11_twoBy_7 rfl (by decide) (fun c1 => ?_) (fun c1 => ?_)
  · refine g_bipush (v := (-9)) C dX11_twoBy_130 rfl (by decide) ?_
    exact g_iret C M dX11_twoBy_132 rfl rfl
  · refine g_iconst (v := 0) C dX11_twoBy_10 rfl (by decide) ?_
    refine g_istore (ls' := [(5, .int 0), (0, .ref ((xE Γ).1 74)), (1, .int v1), (2, .int v2), (3, .int v3), (4, .int v4)]) C dX11_twoBy_11 rfl L (by decide) rfl ?_
    refine g_sub (ls' := [(0, .ref ((xE Γ).1 74)), (1, .int v1), (2, .int v2), (3, .int v3), (4, .int v4), (5, .int 0)]) [1, 2, 3, 4, 5, 0] rfl ?_
    exact pX11_twoBy_13 C M L u v1 v2 v3 v4 hj3 FU 0
set_option maxRecDepth 20000 in
set_option maxHeartbeats 4000000 in
theorem pX11_twoBy_3 {Γ : GX} (C : Cx Γ RX11 cX11_twoBy 0) (M : Mx Γ (some .int)) (L : xn Γ = 8) (u : Mm) (v1 : Int32) (v2 : Int32) (v3 : Int32) : ∀ (n : Nat) (v4 : Int32), Gp Γ (QM Γ (cvP u)) 3 [(0, .ref ((xE Γ).1 74)), (1, .int v1), (2, .int v2), (3, .int v3), (4, .int v4)] [] u (gX11_twoBy_3_L v1 v2 v3 u n v4) := by
  intro n
  induction n with
  | zero => intro _; exact g_none
  | succ n ih => intro v4; exact pX11_twoBy_3s C M L u v1 v2 v3 ih v4

set_option maxRecDepth 20000 in
set_option maxHeartbeats 4000000 in
theorem pX11_twoBy_0 {Γ : GX} (C : Cx Γ RX11 cX11_twoBy 0) (M : Mx Γ (some .int)) (L : xn Γ = 8) (u : Mm) (v1 : Int32) (v2 : Int32) (v3 : Int32) : Gp Γ (QM Γ (cvP u)) 0 [(0, .ref ((xE Γ).1 74)), (1, .int v1), (2, .int v2), (3, .int v3)] [] u (gX11_twoBy_b v1 v2 v3 u) := by
  unfold gX11_twoBy_b
  refine g_iconst (v := 0) C dX11_twoBy_0 rfl (by decide) ?_
  refine g_istore (ls' := [(4, .int 0), (0, .ref ((xE Γ).1 74)), (1, .int v1), (2, .int v2), (3, .int v3)]) C dX11_twoBy_1 rfl L (by decide) rfl ?_
  refine g_sub (ls' := [(0, .ref ((xE Γ).1 74)), (1, .int v1), (2, .int v2), (3, .int v3), (4, .int 0)]) [1, 2, 3, 4, 0] rfl ?_
  exact pX11_twoBy_3 C M L u v1 v2 v3 FU 0
set_option maxRecDepth 20000 in
set_option maxHeartbeats 4000000 in
theorem tX11_twoBy (l : Launch) (E : EE) (v1 : Int32) (v2 : Int32) (v3 : Int32) (u : Mm) : Ct l E yX11_twoBy cX11_twoBy 8 (some .int) 0 [.ref (E.1 74), .int v1, .int v2, .int v3] u (cvP u) (gX11_twoBy v1 v2 v3 u) :=
  Ct_of (own := RX11) (by decide +kernel) rfl (Nat.le_of_ble_eq_true rfl) (fun p e R s m args below meth c C M => g_sub (ls' := [(0, .ref (E.1 74)), (1, .int v1), (2, .int v2), (3, .int v3)]) [0, 1, 2, 3] rfl (pX11_twoBy_0 C M rfl u v1 v2 v3))
set_option maxRecDepth 20000 in
set_option maxHeartbeats 4000000 in
theorem pX11_two_60s {Γ : GX} (C : Cx Γ RX11 cX11_two 2) (M : Mx Γ (some .int)) (L : xn Γ = 7) (v1 : Int32) (v2 : Int32) (v3 : Int32) {j60 : Int32 → Mm → Option (Int32 × Mm)} (hj60 : ∀ (v5 : Int32) (u : Mm), Gp Γ (QM Γ cvI) 60 [(0, .ref ((xE Γ).1 74)), (1, .int v1), (2, .int v2), (3, .int v3), (5, .int v5)] [] u (j60 v5 u)) (v5 : Int32) (u : Mm) : Gp Γ (QM Γ cvI) 60 [(0, .ref ((xE Γ).1 74)), (1, .int v1), (2, .int v2), (3, .int v3), (5, .int v5)] [] u (gX11_two_60_Ls v1 v2 v3 j60 v5 u) := by
  unfold gX11_two_60_Ls
  refine g_iload C dX11_two_60 rfl 4 rfl ?_
  refine g_bipush (v := 40) C dX11_two_62 rfl (by decide) ?_
  refine g_icmp_gt 100 C dX11_two_64 rfl (by decide) (fun c1 => ?_) (fun c1 => ?_)
  · refine g_bipush (v := (-9)) C dX11_two_100 rfl (by decide) ?_
    exact g_iret C M dX11_two_102 rfl rfl
  · refine g_aload_n C dX11_two_67 rfl 0 rfl ?_
    refine g_iload_n C dX11_two_68 rfl 1 rfl ?_
    refine g_iload_n C dX11_two_69 rfl 2 rfl ?_
    refine g_iload C dX11_two_70 rfl 4 rfl ?_
    refine g_callP [.int v1, .int v2, .int v5] C dX11_two_72 rfl (tX11_twoBy (xl Γ) (xE Γ) v1 v2 v5 u) cf_X11_twoBy rfl rfl ml_X11_325 rfl (by decide) (Nat.le_of_ble_eq_true rfl) rfl (fun r2 => ?_)
    refine g_istore (ls' := [(6, .int r2), (0, .ref ((xE Γ).1 74)), (1, .int v1), (2, .int v2), (3, .int v3), (5, .int v5)]) C dX11_two_75 rfl L (by decide) rfl ?_
    refine g_iload C dX11_two_77 rfl 0 rfl ?_
    refine g_if_lt 94 C dX11_two_79 rfl (by decide) (fun c3 => ?_) (fun c3 => ?_)
    · refine g_iincL (fun v5_4 => [(5, .int v5_4), (6, .int r2), (0, .ref ((xE Γ).1 74)), (1, .int v1), (2, .int v2), (3, .int v3)]) C dX11_two_94 rfl L (by decide) (k := 5) rfl (iinc_1 _) (fun _ => rfl) (fun v5_4 => ?_)
      refine g_goto 60 C dX11_two_97 rfl (by decide) ?_
      refine g_sub (ls' := [(0, .ref ((xE Γ).1 74)), (1, .int v1), (2, .int v2), (3, .int v3), (5, .int v5_4)]) [2, 3, 4, 5, 0] rfl ?_
      exact hj60 v5_4 u
    · refine g_iload_n C dX11_two_82 rfl 4 rfl ?_
      refine g_if_ne 91 C dX11_two_83 rfl (by decide) (fun c5 => ?_) (fun c5 => ?_)
      · refine g_iload C dX11_two_91 rfl 0 rfl ?_
        exact g_iret C M dX11_two_93 rfl rfl
      · refine g_iload C dX11_two_86 rfl 5 rfl ?_
        refine g_goto 93 C dX11_two_88 rfl (by decide) ?_
        exact g_iret C M dX11_two_93 rfl rfl
set_option maxRecDepth 20000 in
set_option maxHeartbeats 4000000 in
theorem pX11_two_60 {Γ : GX} (C : Cx Γ RX11 cX11_two 2) (M : Mx Γ (some .int)) (L : xn Γ = 7) (v1 : Int32) (v2 : Int32) (v3 : Int32) : ∀ (n : Nat) (v5 : Int32) (u : Mm), Gp Γ (QM Γ cvI) 60 [(0, .ref ((xE Γ).1 74)), (1, .int v1), (2, .int v2), (3, .int v3), (5, .int v5)] [] u (gX11_two_60_L v1 v2 v3 n v5 u) := by
  intro n
  induction n with
  | zero => intro _ _; exact g_none
  | succ n ih => intro v5 u; exact pX11_two_60s C M L v1 v2 v3 ih v5 u

set_option maxRecDepth 20000 in
set_option maxHeartbeats 4000000 in
theorem pX11_two_43 {Γ : GX} (C : Cx Γ RX11 cX11_two 2) (M : Mx Γ (some .int)) (L : xn Γ = 7) (v1 : Int32) (v2 : Int32) (v3 : Int32) (s0 : Int32) (u : Mm) : Gp Γ (QM Γ cvI) 43 [(0, .ref ((xE Γ).1 74)), (1, .int v1), (2, .int v2), (3, .int v3)] [.int s0] u (gX11_two_43 v1 v2 v3 s0 u) := by
  unfold gX11_two_43
  refine g_istore (ls' := [(4, .int s0), (0, .ref ((xE Γ).1 74)), (1, .int v1), (2, .int v2), (3, .int v3)]) C dX11_two_43 rfl L (by decide) rfl ?_
  refine g_iload C dX11_two_45 rfl 0 rfl ?_
  refine g_if_ge 57 C dX11_two_47 rfl (by decide) (fun c1 => ?_) (fun c1 => ?_)
  · refine g_iconst (v := 0) C dX11_two_57 rfl (by decide) ?_
    refine g_istore (ls' := [(5, .int 0), (4, .int s0), (0, .ref ((xE Γ).1 74)), (1, .int v1), (2, .int v2), (3, .int v3)]) C dX11_two_58 rfl L (by decide) rfl ?_
    refine g_sub (ls' := [(0, .ref ((xE Γ).1 74)), (1, .int v1), (2, .int v2), (3, .int v3), (5, .int 0)]) [2, 3, 4, 5, 0] rfl ?_
    exact pX11_two_60 C M L v1 v2 v3 FU 0 u
  · refine g_aload_n C dX11_two_50 rfl 1 rfl ?_
    refine g_iload C dX11_two_51 rfl 0 rfl ?_
    refine g_callI [.int s0] C dX11_two_53 rfl (tX11_refuse (xl Γ) (xE Γ) s0 u) cf_X11_refuse rfl rfl ml_X11_153 rfl (by decide) (Nat.le_of_ble_eq_true rfl) rfl (fun r3 u2 => ?_)
    exact g_iret C M dX11_two_56 rfl rfl
set_option maxRecDepth 20000 in
set_option maxHeartbeats 4000000 in
theorem pX11_two_15 {Γ : GX} (C : Cx Γ RX11 cX11_two 2) (M : Mx Γ (some .int)) (L : xn Γ = 7) (v1 : Int32) (v2 : Int32) (v3 : Int32) (u : Mm) : Gp Γ (QM Γ cvI) 15 [(0, .ref ((xE Γ).1 74)), (1, .int v1), (2, .int v2), (3, .int v3)] [] u (gX11_two_15 v1 v2 v3 u) := by
  unfold gX11_two_15
  refine g_bipush (v := (-4)) C dX11_two_15 rfl (by decide) ?_
  refine g_goto 43 C dX11_two_17 rfl (by decide) ?_
  exact pX11_two_43 C M L v1 v2 v3 (-4) u
set_option maxRecDepth 20000 in
set_option maxHeartbeats 4000000 in
theorem pX11_two_32 {Γ : GX} (C : Cx Γ RX11 cX11_two 2) (M : Mx Γ (some .int)) (L : xn Γ = 7) (v1 : Int32) (v2 : Int32) (v3 : Int32) (u : Mm) : Gp Γ (QM Γ cvI) 32 [(0, .ref ((xE Γ).1 74)), (1, .int v1), (2, .int v2), (3, .int v3)] [] u (gX11_two_32 v1 v2 v3 u) := by
  unfold gX11_two_32
  refine g_bipush (v := (-6)) C dX11_two_32 rfl (by decide) ?_
  refine g_goto 43 C dX11_two_34 rfl (by decide) ?_
  exact pX11_two_43 C M L v1 v2 v3 (-6) u
set_option maxRecDepth 20000 in
set_option maxHeartbeats 4000000 in
theorem pX11_two_0 {Γ : GX} (C : Cx Γ RX11 cX11_two 2) (M : Mx Γ (some .int)) (L : xn Γ = 7) (v1 : Int32) (v2 : Int32) (v3 : Int32) (u : Mm) : Gp Γ (QM Γ cvI) 0 [(0, .ref ((xE Γ).1 74)), (1, .int v1), (2, .int v2), (3, .int v3)] [] u (gX11_two_b v1 v2 v3 u) := by
  unfold gX11_two_b
  refine g_aload_n C dX11_two_0 rfl 0 rfl ?_
  refine g_iconst (v := 0) C dX11_two_1 rfl (by decide) ?_
  refine g_putI C dX11_two_2 rfl rfl fp_11_19 rfl fl_X11_104 ?_
  refine g_letm (fun u1 => ?_)
  refine g_iload_n C dX11_two_5 rfl 1 rfl ?_
  refine g_bipush (v := (-99)) C dX11_two_6 rfl (by decide) ?_
  refine g_icmp_lt 15 C dX11_two_8 rfl (by decide) (fun c2 => ?_) (fun c2 => ?_)
  · exact pX11_two_15 C M L v1 v2 v3 u1
  · refine g_iload_n C dX11_two_11 rfl 2 rfl ?_
    refine g_if_ge 20 C dX11_two_12 rfl (by decide) (fun c3 => ?_) (fun c3 => ?_)
    · refine g_iload_n C dX11_two_20 rfl 1 rfl ?_
      refine g_bipush (v := 99) C dX11_two_21 rfl (by decide) ?_
      refine g_icmp_gt 32 C dX11_two_23 rfl (by decide) (fun c4 => ?_) (fun c4 => ?_)
      · exact pX11_two_32 C M L v1 v2 v3 u1
      · refine g_iload_n C dX11_two_26 rfl 2 rfl ?_
        refine g_bipush (v := 99) C dX11_two_27 rfl (by decide) ?_
        refine g_icmp_le 37 C dX11_two_29 rfl (by decide) (fun c5 => ?_) (fun c5 => ?_)
        · refine g_iconst (v := 0) C dX11_two_37 rfl (by decide) ?_
          refine g_iload_n C dX11_two_38 rfl 3 rfl ?_
          refine g_iconst (v := 1) C dX11_two_39 rfl (by decide) ?_
          refine g_callsP [.int 0, .int v3, .int 1] C dX11_two_40 rfl (tX11_wrongBit (xl Γ) (xE Γ) 0 v3 1 u1) cf_X11_wrongBit ml_X11_288 rfl (by decide) (Nat.le_of_ble_eq_true rfl) rfl (fun r6 => ?_)
          exact pX11_two_43 C M L v1 v2 v3 r6 u1
        · exact pX11_two_32 C M L v1 v2 v3 u1
    · exact pX11_two_15 C M L v1 v2 v3 u1
set_option maxRecDepth 20000 in
set_option maxHeartbeats 4000000 in
theorem tX11_two (l : Launch) (E : EE) (v1 : Int32) (v2 : Int32) (v3 : Int32) (u : Mm) : Ct l E yX11_two cX11_two 7 (some .int) 2 [.ref (E.1 74), .int v1, .int v2, .int v3] u cvI (gX11_two v1 v2 v3 u) :=
  Ct_of (own := RX11) (by decide +kernel) rfl (Nat.le_of_ble_eq_true rfl) (fun p e R s m args below meth c C M => g_sub (ls' := [(0, .ref (E.1 74)), (1, .int v1), (2, .int v2), (3, .int v3)]) [0, 1, 2, 3] rfl (pX11_two_0 C M rfl v1 v2 v3 u))
set_option maxRecDepth 20000 in
set_option maxHeartbeats 4000000 in
theorem pX11_swingBy_137 {Γ : GX} (C : Cx Γ RX11 cX11_swingBy 3) (M : Mx Γ none) (L : xn Γ = 6) (v1 : Int32) (v2 : Int32) (v3 : Int32) (s0 : Int32) {j21 : Int32 → Mm → Option Mm} (hj21 : ∀ (v3 : Int32) (u : Mm), Gp Γ (QM Γ cvV) 21 [(0, .ref ((xE Γ).1 74)), (1, .int v1), (2, .int v2), (3, .int v3)] [] u (j21 v3 u)) (u : Mm) : Gp Γ (QM Γ cvV) 137 [(0, .ref ((xE Γ).1 74)), (1, .int v1), (2, .int v2), (3, .int v3)] [.int s0, .ref ((xE Γ).1 74)] u (gX11_swingBy_137 j21 v1 v2 v3 s0 u) := by
  unfold gX11_swingBy_137
  refine g_putI C dX11_swingBy_137 rfl rfl fp_11_52 rfl fl_X11_331 ?_
  refine g_letm (fun u1 => ?_)
  refine g_iincL (fun v3_2 => [(3, .int v3_2), (0, .ref ((xE Γ).1 74)), (1, .int v1), (2, .int v2)]) C dX11_swingBy_140 rfl L (by decide) (k := 3) rfl (iinc_1 _) (fun _ => rfl) (fun v3_2 => ?_)
  refine g_goto 21 C dX11_swingBy_143 rfl (by decide) ?_
  refine g_sub (ls' := [(0, .ref ((xE Γ).1 74)), (1, .int v1), (2, .int v2), (3, .int v3_2)]) [1, 2, 3, 0] rfl ?_
  exact hj21 v3_2 u1
set_option maxRecDepth 20000 in
set_option maxHeartbeats 4000000 in
theorem pX11_swingBy_133 {Γ : GX} (C : Cx Γ RX11 cX11_swingBy 3) (M : Mx Γ none) (L : xn Γ = 6) (v1 : Int32) (v2 : Int32) (v3 : Int32) {j21 : Int32 → Mm → Option Mm} (hj21 : ∀ (v3 : Int32) (u : Mm), Gp Γ (QM Γ cvV) 21 [(0, .ref ((xE Γ).1 74)), (1, .int v1), (2, .int v2), (3, .int v3)] [] u (j21 v3 u)) (u : Mm) : Gp Γ (QM Γ cvV) 133 [(0, .ref ((xE Γ).1 74)), (1, .int v1), (2, .int v2), (3, .int v3)] [.ref ((xE Γ).1 74)] u (gX11_swingBy_133 j21 v1 v2 v3 u) := by
  unfold gX11_swingBy_133
  refine g_aload_n C dX11_swingBy_133 rfl 0 rfl ?_
  refine g_getI C dX11_swingBy_134 rfl rfl fi_11_52 rfl fl_X11_331 ?_
  exact pX11_swingBy_137 C M L v1 v2 v3 (u 74 52) hj21 u
set_option maxRecDepth 20000 in
set_option maxHeartbeats 4000000 in
theorem pX11_swingBy_109 {Γ : GX} (C : Cx Γ RX11 cX11_swingBy 3) (M : Mx Γ none) (L : xn Γ = 6) (v1 : Int32) (v2 : Int32) (v3 : Int32) (v5 : Int32) (s0 : Int32) {j21 : Int32 → Mm → Option Mm} (hj21 : ∀ (v3 : Int32) (u : Mm), Gp Γ (QM Γ cvV) 21 [(0, .ref ((xE Γ).1 74)), (1, .int v1), (2, .int v2), (3, .int v3)] [] u (j21 v3 u)) (u : Mm) : Gp Γ (QM Γ cvV) 109 [(0, .ref ((xE Γ).1 74)), (1, .int v1), (2, .int v2), (3, .int v3), (5, .int v5)] [.int s0, .ref ((xE Γ).1 74)] u (gX11_swingBy_109 j21 v1 v2 v3 v5 s0 u) := by
  unfold gX11_swingBy_109
  refine g_putI C dX11_swingBy_109 rfl rfl fp_11_51 rfl fl_X11_328 ?_
  refine g_letm (fun u1 => ?_)
  refine g_aload_n C dX11_swingBy_112 rfl 0 rfl ?_
  refine g_iload_n C dX11_swingBy_113 rfl 3 rfl ?_
  refine g_bipush (v := 20) C dX11_swingBy_114 rfl (by decide) ?_
  refine g_icmp_lt 133 C dX11_swingBy_116 rfl (by decide) (fun c2 => ?_) (fun c2 => ?_)
  · refine g_sub (ls' := [(0, .ref ((xE Γ).1 74)), (1, .int v1), (2, .int v2), (3, .int v3)]) [0, 1, 2, 3] rfl ?_
    exact pX11_swingBy_133 C M L v1 v2 v3 hj21 u1
  · refine g_iload C dX11_swingBy_119 rfl 4 rfl ?_
    refine g_aload_n C dX11_swingBy_121 rfl 0 rfl ?_
    refine g_getI C dX11_swingBy_122 rfl rfl fi_11_52 rfl fl_X11_331 ?_
    refine g_icmp_le 133 C dX11_swingBy_125 rfl (by decide) (fun c3 => ?_) (fun c3 => ?_)
    · refine g_sub (ls' := [(0, .ref ((xE Γ).1 74)), (1, .int v1), (2, .int v2), (3, .int v3)]) [0, 1, 2, 3] rfl ?_
      exact pX11_swingBy_133 C M L v1 v2 v3 hj21 u1
    · refine g_iload C dX11_swingBy_128 rfl 4 rfl ?_
      refine g_goto 137 C dX11_swingBy_130 rfl (by decide) ?_
      refine g_sub (ls' := [(0, .ref ((xE Γ).1 74)), (1, .int v1), (2, .int v2), (3, .int v3)]) [0, 1, 2, 3] rfl ?_
      exact pX11_swingBy_137 C M L v1 v2 v3 v5 hj21 u1
set_option maxRecDepth 20000 in
set_option maxHeartbeats 4000000 in
theorem pX11_swingBy_105 {Γ : GX} (C : Cx Γ RX11 cX11_swingBy 3) (M : Mx Γ none) (L : xn Γ = 6) (v1 : Int32) (v2 : Int32) (v3 : Int32) (v5 : Int32) {j21 : Int32 → Mm → Option Mm} (hj21 : ∀ (v3 : Int32) (u : Mm), Gp Γ (QM Γ cvV) 21 [(0, .ref ((xE Γ).1 74)), (1, .int v1), (2, .int v2), (3, .int v3)] [] u (j21 v3 u)) (u : Mm) : Gp Γ (QM Γ cvV) 105 [(0, .ref ((xE Γ).1 74)), (1, .int v1), (2, .int v2), (3, .int v3), (5, .int v5)] [.ref ((xE Γ).1 74)] u (gX11_swingBy_105 j21 v1 v2 v3 v5 u) := by
  unfold gX11_swingBy_105
  refine g_aload_n C dX11_swingBy_105 rfl 0 rfl ?_
  refine g_getI C dX11_swingBy_106 rfl rfl fi_11_51 rfl fl_X11_328 ?_
  exact pX11_swingBy_109 C M L v1 v2 v3 v5 (u 74 51) hj21 u
set_option maxRecDepth 20000 in
set_option maxHeartbeats 4000000 in
theorem pX11_swingBy_70 {Γ : GX} (C : Cx Γ RX11 cX11_swingBy 3) (M : Mx Γ none) (L : xn Γ = 6) (v1 : Int32) (v2 : Int32) (v3 : Int32) (s0 : Int32) {j21 : Int32 → Mm → Option Mm} (hj21 : ∀ (v3 : Int32) (u : Mm), Gp Γ (QM Γ cvV) 21 [(0, .ref ((xE Γ).1 74)), (1, .int v1), (2, .int v2), (3, .int v3)] [] u (j21 v3 u)) (u : Mm) : Gp Γ (QM Γ cvV) 70 [(0, .ref ((xE Γ).1 74)), (1, .int v1), (2, .int v2), (3, .int v3)] [.int s0, .ref ((xE Γ).1 74)] u (gX11_swingBy_70 j21 v1 v2 v3 s0 u) := by
  unfold gX11_swingBy_70
  refine g_callV [.int s0] C dX11_swingBy_70 rfl (tX11_stepOn (xl Γ) (xE Γ) s0 u) cf_X11_stepOn rfl rfl ml_X11_142 rfl (by decide) (Nat.le_of_ble_eq_true rfl) rfl (fun u1 => ?_)
  refine g_aload_n C dX11_swingBy_73 rfl 0 rfl ?_
  refine g_getI C dX11_swingBy_74 rfl rfl fi_11_2 rfl fl_X11_127 ?_
  refine g_iload_n C dX11_swingBy_77 rfl 2 rfl ?_
  refine g_isub C dX11_swingBy_78 rfl ?_
  refine g_callsP [.int ((u1 74 2) - v2)] C dX11_swingBy_79 rfl (tX11_plainly (xl Γ) (xE Γ) ((u1 74 2) - v2) u1) cf_X11_plainly ml_X11_146 rfl (by decide) (Nat.le_of_ble_eq_true rfl) rfl (fun r2 => ?_)
  refine g_istore (ls' := [(5, .int r2), (0, .ref ((xE Γ).1 74)), (1, .int v1), (2, .int v2), (3, .int v3)]) C dX11_swingBy_82 rfl L (by decide) rfl ?_
  refine g_aload_n C dX11_swingBy_84 rfl 1 rfl ?_
  refine g_iload_n C dX11_swingBy_85 rfl 4 rfl ?_
  refine g_bipush (v := 20) C dX11_swingBy_86 rfl (by decide) ?_
  refine g_icmp_ge 105 C dX11_swingBy_88 rfl (by decide) (fun c3 => ?_) (fun c3 => ?_)
  · refine g_sub (ls' := [(0, .ref ((xE Γ).1 74)), (1, .int v1), (2, .int v2), (3, .int v3), (5, .int r2)]) [1, 2, 3, 4, 0] rfl ?_
    exact pX11_swingBy_105 C M L v1 v2 v3 r2 hj21 u1
  · refine g_iload C dX11_swingBy_91 rfl 0 rfl ?_
    refine g_aload_n C dX11_swingBy_93 rfl 1 rfl ?_
    refine g_getI C dX11_swingBy_94 rfl rfl fi_11_51 rfl fl_X11_328 ?_
    refine g_icmp_le 105 C dX11_swingBy_97 rfl (by decide) (fun c4 => ?_) (fun c4 => ?_)
    · refine g_sub (ls' := [(0, .ref ((xE Γ).1 74)), (1, .int v1), (2, .int v2), (3, .int v3), (5, .int r2)]) [1, 2, 3, 4, 0] rfl ?_
      exact pX11_swingBy_105 C M L v1 v2 v3 r2 hj21 u1
    · refine g_iload C dX11_swingBy_100 rfl 0 rfl ?_
      refine g_goto 109 C dX11_swingBy_102 rfl (by decide) ?_
      refine g_sub (ls' := [(0, .ref ((xE Γ).1 74)), (1, .int v1), (2, .int v2), (3, .int v3), (5, .int r2)]) [1, 2, 3, 4, 0] rfl ?_
      exact pX11_swingBy_109 C M L v1 v2 v3 r2 r2 hj21 u1
set_option maxRecDepth 20000 in
set_option maxHeartbeats 4000000 in
theorem pX11_swingBy_69 {Γ : GX} (C : Cx Γ RX11 cX11_swingBy 3) (M : Mx Γ none) (L : xn Γ = 6) (v1 : Int32) (v2 : Int32) (v3 : Int32) {j21 : Int32 → Mm → Option Mm} (hj21 : ∀ (v3 : Int32) (u : Mm), Gp Γ (QM Γ cvV) 21 [(0, .ref ((xE Γ).1 74)), (1, .int v1), (2, .int v2), (3, .int v3)] [] u (j21 v3 u)) (u : Mm) : Gp Γ (QM Γ cvV) 69 [(0, .ref ((xE Γ).1 74)), (1, .int v1), (2, .int v2), (3, .int v3)] [.ref ((xE Γ).1 74)] u (gX11_swingBy_69 j21 v1 v2 v3 u) := by
  unfold gX11_swingBy_69
  refine g_iconst (v := 0) C dX11_swingBy_69 rfl (by decide) ?_
  exact pX11_swingBy_70 C M L v1 v2 v3 0 hj21 u
set_option maxRecDepth 20000 in
set_option maxHeartbeats 4000000 in
theorem pX11_swingBy_41 {Γ : GX} (C : Cx Γ RX11 cX11_swingBy 3) (M : Mx Γ none) (L : xn Γ = 6) (v1 : Int32) (v2 : Int32) (v3 : Int32) (s0 : Int32) {j21 : Int32 → Mm → Option Mm} (hj21 : ∀ (v3 : Int32) (u : Mm), Gp Γ (QM Γ cvV) 21 [(0, .ref ((xE Γ).1 74)), (1, .int v1), (2, .int v2), (3, .int v3)] [] u (j21 v3 u)) (u : Mm) : Gp Γ (QM Γ cvV) 41 [(0, .ref ((xE Γ).1 74)), (1, .int v1), (2, .int v2), (3, .int v3)] [.int s0] u (gX11_swingBy_41 j21 v1 v2 v3 s0 u) := by
  unfold gX11_swingBy_41
  refine g_istore (ls' := [(4, .int s0), (0, .ref ((xE Γ).1 74)), (1, .int v1), (2, .int v2), (3, .int v3)]) C dX11_swingBy_41 rfl L (by decide) rfl ?_
  refine g_aload_n C dX11_swingBy_43 rfl 1 rfl ?_
  refine g_iload C dX11_swingBy_44 rfl 0 rfl ?_
  refine g_if_le 53 C dX11_swingBy_46 rfl (by decide) (fun c1 => ?_) (fun c1 => ?_)
  · refine g_iload C dX11_swingBy_53 rfl 0 rfl ?_
    refine g_if_ge 69 C dX11_swingBy_55 rfl (by decide) (fun c2 => ?_) (fun c2 => ?_)
    · refine g_sub (ls' := [(0, .ref ((xE Γ).1 74)), (1, .int v1), (2, .int v2), (3, .int v3)]) [1, 2, 3, 4] rfl ?_
      exact pX11_swingBy_69 C M L v1 v2 v3 hj21 u
    · refine g_aload_n C dX11_swingBy_58 rfl 1 rfl ?_
      refine g_getI C dX11_swingBy_59 rfl rfl fi_11_6 rfl fl_X11_23 ?_
      refine g_if_le 69 C dX11_swingBy_62 rfl (by decide) (fun c3 => ?_) (fun c3 => ?_)
      · refine g_sub (ls' := [(0, .ref ((xE Γ).1 74)), (1, .int v1), (2, .int v2), (3, .int v3)]) [1, 2, 3, 4] rfl ?_
        exact pX11_swingBy_69 C M L v1 v2 v3 hj21 u
      · refine g_iconst (v := 1) C dX11_swingBy_65 rfl (by decide) ?_
        refine g_goto 70 C dX11_swingBy_66 rfl (by decide) ?_
        refine g_sub (ls' := [(0, .ref ((xE Γ).1 74)), (1, .int v1), (2, .int v2), (3, .int v3)]) [1, 2, 3, 4] rfl ?_
        exact pX11_swingBy_70 C M L v1 v2 v3 1 hj21 u
  · refine g_iconst (v := 2) C dX11_swingBy_49 rfl (by decide) ?_
    refine g_goto 70 C dX11_swingBy_50 rfl (by decide) ?_
    refine g_sub (ls' := [(0, .ref ((xE Γ).1 74)), (1, .int v1), (2, .int v2), (3, .int v3)]) [1, 2, 3, 4] rfl ?_
    exact pX11_swingBy_70 C M L v1 v2 v3 2 hj21 u
set_option maxRecDepth 20000 in
set_option maxHeartbeats 4000000 in
theorem pX11_swingBy_21s {Γ : GX} (C : Cx Γ RX11 cX11_swingBy 3) (M : Mx Γ none) (L : xn Γ = 6) (v1 : Int32) (v2 : Int32) {j21 : Int32 → Mm → Option Mm} (hj21 : ∀ (v3 : Int32) (u : Mm), Gp Γ (QM Γ cvV) 21 [(0, .ref ((xE Γ).1 74)), (1, .int v1), (2, .int v2), (3, .int v3)] [] u (j21 v3 u)) (v3 : Int32) (u : Mm) : Gp Γ (QM Γ cvV) 21 [(0, .ref ((xE Γ).1 74)), (1, .int v1), (2, .int v2), (3, .int v3)] [] u (gX11_swingBy_21_Ls v1 v2 j21 v3 u) := by
  unfold gX11_swingBy_21_Ls
  refine g_iload_n C dX11_swingBy_21 rfl 3 rfl ?_
  refine g_bipush (v := 40) C dX11_swingBy_22 rfl (by decide) ?_
  refine g_icmp_ge 146 C dX11_swingBy_24 rfl (by decide) (fun c1 => ?_) (fun c1 => ?_)
  · refine g_aload_n C dX11_swingBy_146 rfl 0 rfl ?_
    refine g_callV [] C dX11_swingBy_147 rfl (tX11_again (xl Γ) (xE Γ) u) cf_X11_again rfl rfl ml_X11_270 rfl (by decide) (Nat.le_of_ble_eq_true rfl) rfl (fun u2 => ?_)
    exact g_vret C M dX11_swingBy_150 rfl rfl
  · refine g_iload_n C dX11_swingBy_27 rfl 3 rfl ?_
    refine g_iload_n C dX11_swingBy_28 rfl 1 rfl ?_
    refine g_gd (fun hz3 => ?_)
    refine g_irem C dX11_swingBy_29 rfl hz3 ?_
    refine g_if_ne 40 C dX11_swingBy_30 rfl (by decide) (fun c4 => ?_) (fun c4 => ?_)
    · refine g_iconst (v := 0) C dX11_swingBy_40 rfl (by decide) ?_
      exact pX11_swingBy_41 C M L v1 v2 v3 0 hj21 u
    · refine g_aload_n C dX11_swingBy_33 rfl 0 rfl ?_
      refine g_callP [] C dX11_swingBy_34 rfl (tX11_risingNow (xl Γ) (xE Γ) u) cf_X11_risingNow rfl rfl ml_X11_124 rfl (by decide) (Nat.le_of_ble_eq_true rfl) rfl (fun r5 => ?_)
      refine g_goto 41 C dX11_swingBy_37 rfl (by decide) ?_
      exact pX11_swingBy_41 C M L v1 v2 v3 r5 hj21 u
set_option maxRecDepth 20000 in
set_option maxHeartbeats 4000000 in
theorem pX11_swingBy_21 {Γ : GX} (C : Cx Γ RX11 cX11_swingBy 3) (M : Mx Γ none) (L : xn Γ = 6) (v1 : Int32) (v2 : Int32) : ∀ (n : Nat) (v3 : Int32) (u : Mm), Gp Γ (QM Γ cvV) 21 [(0, .ref ((xE Γ).1 74)), (1, .int v1), (2, .int v2), (3, .int v3)] [] u (gX11_swingBy_21_L v1 v2 n v3 u) := by
  intro n
  induction n with
  | zero => intro _ _; exact g_none
  | succ n ih => intro v3 u; exact pX11_swingBy_21s C M L v1 v2 ih v3 u

set_option maxRecDepth 20000 in
set_option maxHeartbeats 4000000 in
theorem pX11_swingBy_0 {Γ : GX} (C : Cx Γ RX11 cX11_swingBy 3) (M : Mx Γ none) (L : xn Γ = 6) (v1 : Int32) (u : Mm) : Gp Γ (QM Γ cvV) 0 [(0, .ref ((xE Γ).1 74)), (1, .int v1)] [] u (gX11_swingBy_b v1 u) := by
  unfold gX11_swingBy_b
  refine g_aload_n C dX11_swingBy_0 rfl 0 rfl ?_
  refine g_callV [] C dX11_swingBy_1 rfl (tX11_open (xl Γ) (xE Γ) u) cf_X11_open rfl rfl ml_X11_291 rfl (by decide) (Nat.le_of_ble_eq_true rfl) rfl (fun u1 => ?_)
  refine g_aload_n C dX11_swingBy_4 rfl 0 rfl ?_
  refine g_getI C dX11_swingBy_5 rfl rfl fi_11_2 rfl fl_X11_127 ?_
  refine g_lets (fun v2_2 => ?_)
  refine g_istore_n (ls' := [(2, .int v2_2), (0, .ref ((xE Γ).1 74)), (1, .int v1)]) C dX11_swingBy_8 rfl L (by decide) rfl ?_
  refine g_aload_n C dX11_swingBy_9 rfl 1 rfl ?_
  refine g_iconst (v := 0) C dX11_swingBy_10 rfl (by decide) ?_
  refine g_putI C dX11_swingBy_11 rfl rfl fp_11_51 rfl fl_X11_328 ?_
  refine g_letm (fun u3 => ?_)
  refine g_aload_n C dX11_swingBy_14 rfl 1 rfl ?_
  refine g_iconst (v := 0) C dX11_swingBy_15 rfl (by decide) ?_
  refine g_putI C dX11_swingBy_16 rfl rfl fp_11_52 rfl fl_X11_331 ?_
  refine g_letm (fun u4 => ?_)
  refine g_iconst (v := 0) C dX11_swingBy_19 rfl (by decide) ?_
  refine g_istore_n (ls' := [(3, .int 0), (2, .int v2_2), (0, .ref ((xE Γ).1 74)), (1, .int v1)]) C dX11_swingBy_20 rfl L (by decide) rfl ?_
  refine g_sub (ls' := [(0, .ref ((xE Γ).1 74)), (1, .int v1), (2, .int v2_2), (3, .int 0)]) [2, 3, 1, 0] rfl ?_
  exact pX11_swingBy_21 C M L v1 v2_2 FU 0 u4
set_option maxRecDepth 20000 in
set_option maxHeartbeats 4000000 in
theorem tX11_swingBy (l : Launch) (E : EE) (v1 : Int32) (u : Mm) : Ct l E yX11_swingBy cX11_swingBy 6 none 3 [.ref (E.1 74), .int v1] u cvV (gX11_swingBy v1 u) :=
  Ct_of (own := RX11) (by decide +kernel) rfl (Nat.le_of_ble_eq_true rfl) (fun p e R s m args below meth c C M => g_sub (ls' := [(0, .ref (E.1 74)), (1, .int v1)]) [0, 1] rfl (pX11_swingBy_0 C M rfl v1 u))
set_option maxRecDepth 20000 in
set_option maxHeartbeats 4000000 in
theorem pX11_swing_0 {Γ : GX} (C : Cx Γ RX11 cX11_swing 4) (M : Mx Γ (some .int)) (L : xn Γ = 2) (v1 : Int32) (u : Mm) : Gp Γ (QM Γ cvI) 0 [(0, .ref ((xE Γ).1 74)), (1, .int v1)] [] u (gX11_swing_b v1 u) := by
  unfold gX11_swing_b
  refine g_aload_n C dX11_swing_0 rfl 0 rfl ?_
  refine g_iconst (v := 0) C dX11_swing_1 rfl (by decide) ?_
  refine g_putI C dX11_swing_2 rfl rfl fp_11_19 rfl fl_X11_104 ?_
  refine g_letm (fun u1 => ?_)
  refine g_iload_n C dX11_swing_5 rfl 1 rfl ?_
  refine g_i2l C dX11_swing_6 rfl ?_
  refine g_lconst (v := 0) C dX11_swing_7 rfl (by decide) ?_
  refine g_ldc2_w (v := 2) C dX11_swing_8 rfl (wm_26 16 rfl) ?_
  refine g_callsP [.long v1.toInt64, .long 0, .long 2] C dX11_swing_11 rfl (tX11_in (xl Γ) (xE Γ) v1.toInt64 0 2 u1) cf_X11_in ml_X11_107 rfl (by decide) (Nat.le_of_ble_eq_true rfl) rfl (fun r2 => ?_)
  refine g_if_ne 24 C dX11_swing_14 rfl (by decide) (fun c3 => ?_) (fun c3 => ?_)
  · refine g_aload_n C dX11_swing_24 rfl 0 rfl ?_
    refine g_iconst (v := 1) C dX11_swing_25 rfl (by decide) ?_
    refine g_callV [.int 1] C dX11_swing_26 rfl (tX11_swingBy (xl Γ) (xE Γ) 1 u1) cf_X11_swingBy rfl rfl ml_X11_334 rfl (by decide) (Nat.le_of_ble_eq_true rfl) rfl (fun u4 => ?_)
    refine g_iload_n C dX11_swing_29 rfl 1 rfl ?_
    refine g_if_ne 40 C dX11_swing_30 rfl (by decide) (fun c5 => ?_) (fun c5 => ?_)
    · refine g_iload_n C dX11_swing_40 rfl 1 rfl ?_
      refine g_iconst (v := 1) C dX11_swing_41 rfl (by decide) ?_
      refine g_icmp_ne 52 C dX11_swing_42 rfl (by decide) (fun c6 => ?_) (fun c6 => ?_)
      · refine g_aload_n C dX11_swing_52 rfl 0 rfl ?_
        refine g_getI C dX11_swing_53 rfl rfl fi_11_52 rfl fl_X11_331 ?_
        refine g_aload_n C dX11_swing_56 rfl 0 rfl ?_
        refine g_getI C dX11_swing_57 rfl rfl fi_11_51 rfl fl_X11_328 ?_
        refine g_icmp_le 67 C dX11_swing_60 rfl (by decide) (fun c7 => ?_) (fun c7 => ?_)
        · refine g_iconst (v := 0) C dX11_swing_67 rfl (by decide) ?_
          exact g_iret C M dX11_swing_68 rfl rfl
        · refine g_iconst (v := 1) C dX11_swing_63 rfl (by decide) ?_
          refine g_goto 68 C dX11_swing_64 rfl (by decide) ?_
          exact g_iret C M dX11_swing_68 rfl rfl
      · refine g_aload_n C dX11_swing_45 rfl 0 rfl ?_
        refine g_getI C dX11_swing_46 rfl rfl fi_11_52 rfl fl_X11_331 ?_
        refine g_goto 68 C dX11_swing_49 rfl (by decide) ?_
        exact g_iret C M dX11_swing_68 rfl rfl
    · refine g_aload_n C dX11_swing_33 rfl 0 rfl ?_
      refine g_getI C dX11_swing_34 rfl rfl fi_11_51 rfl fl_X11_328 ?_
      refine g_goto 68 C dX11_swing_37 rfl (by decide) ?_
      exact g_iret C M dX11_swing_68 rfl rfl
  · refine g_aload_n C dX11_swing_17 rfl 0 rfl ?_
    refine g_bipush (v := (-2)) C dX11_swing_18 rfl (by decide) ?_
    refine g_callI [.int (-2)] C dX11_swing_20 rfl (tX11_refuse (xl Γ) (xE Γ) (-2) u1) cf_X11_refuse rfl rfl ml_X11_153 rfl (by decide) (Nat.le_of_ble_eq_true rfl) rfl (fun r9 u8 => ?_)
    exact g_iret C M dX11_swing_23 rfl rfl
set_option maxRecDepth 20000 in
set_option maxHeartbeats 4000000 in
theorem tX11_swing (l : Launch) (E : EE) (v1 : Int32) (u : Mm) : Ct l E yX11_swing cX11_swing 2 (some .int) 4 [.ref (E.1 74), .int v1] u cvI (gX11_swing v1 u) :=
  Ct_of (own := RX11) (by decide +kernel) rfl (Nat.le_of_ble_eq_true rfl) (fun p e R s m args below meth c C M => g_sub (ls' := [(0, .ref (E.1 74)), (1, .int v1)]) [0, 1] rfl (pX11_swing_0 C M rfl v1 u))
set_option maxRecDepth 20000 in
set_option maxHeartbeats 4000000 in
theorem pX11_calm_7s {Γ : GX} (C : Cx Γ RX11 cX11_calm 4) (M : Mx Γ (some .int)) (L : xn Γ = 2) {j7 : Int32 → Mm → Option (Int32 × Mm)} (hj7 : ∀ (v1 : Int32) (u : Mm), Gp Γ (QM Γ cvI) 7 [(0, .ref ((xE Γ).1 74)), (1, .int v1)] [] u (j7 v1 u)) (v1 : Int32) (u : Mm) : Gp Γ (QM Γ cvI) 7 [(0, .ref ((xE Γ).1 74)), (1, .int v1)] [] u (gX11_calm_7_Ls j7 v1 u) := by
  unfold gX11_calm_7_Ls
  refine g_iload_n C dX11_calm_7 rfl 1 rfl ?_
  refine g_bipush (v := 9) C dX11_calm_8 rfl (by decide) ?_
  refine g_icmp_gt 37 C dX11_calm_10 rfl (by decide) (fun c1 => ?_) (fun c1 => ?_)
  · refine g_bipush (v := (-9)) C dX11_calm_37 rfl (by decide) ?_
    exact g_iret C M dX11_calm_39 rfl rfl
  · refine g_aload_n C dX11_calm_13 rfl 0 rfl ?_
    refine g_iload_n C dX11_calm_14 rfl 1 rfl ?_
    refine g_callV [.int v1] C dX11_calm_15 rfl (tX11_swingBy (xl Γ) (xE Γ) v1 u) cf_X11_swingBy rfl rfl ml_X11_334 rfl (by decide) (Nat.le_of_ble_eq_true rfl) rfl (fun u2 => ?_)
    refine g_aload_n C dX11_calm_18 rfl 0 rfl ?_
    refine g_getI C dX11_calm_19 rfl rfl fi_11_52 rfl fl_X11_331 ?_
    refine g_aload_n C dX11_calm_22 rfl 0 rfl ?_
    refine g_getI C dX11_calm_23 rfl rfl fi_11_51 rfl fl_X11_328 ?_
    refine g_icmp_gt 31 C dX11_calm_26 rfl (by decide) (fun c3 => ?_) (fun c3 => ?_)
    · refine g_iincL (fun v1_4 => [(1, .int v1_4), (0, .ref ((xE Γ).1 74))]) C dX11_calm_31 rfl L (by decide) (k := 1) rfl (iinc_1 _) (fun _ => rfl) (fun v1_4 => ?_)
      refine g_goto 7 C dX11_calm_34 rfl (by decide) ?_
      refine g_sub (ls' := [(0, .ref ((xE Γ).1 74)), (1, .int v1_4)]) [1, 0] rfl ?_
      exact hj7 v1_4 u2
    · refine g_iload_n C dX11_calm_29 rfl 1 rfl ?_
      exact g_iret C M dX11_calm_30 rfl rfl
set_option maxRecDepth 20000 in
set_option maxHeartbeats 4000000 in
theorem pX11_calm_7 {Γ : GX} (C : Cx Γ RX11 cX11_calm 4) (M : Mx Γ (some .int)) (L : xn Γ = 2) : ∀ (n : Nat) (v1 : Int32) (u : Mm), Gp Γ (QM Γ cvI) 7 [(0, .ref ((xE Γ).1 74)), (1, .int v1)] [] u (gX11_calm_7_L n v1 u) := by
  intro n
  induction n with
  | zero => intro _ _; exact g_none
  | succ n ih => intro v1 u; exact pX11_calm_7s C M L ih v1 u

set_option maxRecDepth 20000 in
set_option maxHeartbeats 4000000 in
theorem pX11_calm_0 {Γ : GX} (C : Cx Γ RX11 cX11_calm 4) (M : Mx Γ (some .int)) (L : xn Γ = 2) (u : Mm) : Gp Γ (QM Γ cvI) 0 [(0, .ref ((xE Γ).1 74))] [] u (gX11_calm_b u) := by
  unfold gX11_calm_b
  refine g_aload_n C dX11_calm_0 rfl 0 rfl ?_
  refine g_iconst (v := 0) C dX11_calm_1 rfl (by decide) ?_
  refine g_putI C dX11_calm_2 rfl rfl fp_11_19 rfl fl_X11_104 ?_
  refine g_letm (fun u1 => ?_)
  refine g_iconst (v := 1) C dX11_calm_5 rfl (by decide) ?_
  refine g_istore_n (ls' := [(1, .int 1), (0, .ref ((xE Γ).1 74))]) C dX11_calm_6 rfl L (by decide) rfl ?_
  refine g_sub (ls' := [(0, .ref ((xE Γ).1 74)), (1, .int 1)]) [1, 0] rfl ?_
  exact pX11_calm_7 C M L FU 1 u1
set_option maxRecDepth 20000 in
set_option maxHeartbeats 4000000 in
theorem tX11_calm (l : Launch) (E : EE) (u : Mm) : Ct l E yX11_calm cX11_calm 2 (some .int) 4 [.ref (E.1 74)] u cvI (gX11_calm u) :=
  Ct_of (own := RX11) (by decide +kernel) rfl (Nat.le_of_ble_eq_true rfl) (fun p e R s m args below meth c C M => g_sub (ls' := [(0, .ref (E.1 74))]) [0] rfl (pX11_calm_0 C M rfl u))
set_option maxRecDepth 20000 in
set_option maxHeartbeats 4000000 in
theorem pX11_out_53 {Γ : GX} (C : Cx Γ RX11 cX11_out 0) (M : Mx Γ (some .int)) (L : xn Γ = 3) (v2 : Int32) (s0 : Int32) {j19 : Int32 → Int32 → Mm → Option (Int32 × Mm)} (hj19 : ∀ (v1 : Int32) (v2 : Int32) (u : Mm), Gp Γ (QM Γ cvI) 19 [(0, .ref ((xE Γ).1 74)), (1, .int v1), (2, .int v2)] [] u (j19 v1 v2 u)) (u : Mm) : Gp Γ (QM Γ cvI) 53 [(0, .ref ((xE Γ).1 74)), (2, .int v2)] [.int s0] u (gX11_out_53 j19 v2 s0 u) := by
  unfold gX11_out_53
  refine g_istore_n (ls' := [(1, .int s0), (0, .ref ((xE Γ).1 74)), (2, .int v2)]) C dX11_out_53 rfl L (by decide) rfl ?_
  refine g_iincL (fun v2_1 => [(2, .int v2_1), (1, .int s0), (0, .ref ((xE Γ).1 74))]) C dX11_out_54 rfl L (by decide) (k := 2) rfl (iinc_1 _) (fun _ => rfl) (fun v2_1 => ?_)
  refine g_goto 19 C dX11_out_57 rfl (by decide) ?_
  refine g_sub (ls' := [(0, .ref ((xE Γ).1 74)), (1, .int s0), (2, .int v2_1)]) [2, 1, 0] rfl ?_
  exact hj19 s0 v2_1 u
set_option maxRecDepth 20000 in
set_option maxHeartbeats 4000000 in
theorem pX11_out_19s {Γ : GX} (C : Cx Γ RX11 cX11_out 0) (M : Mx Γ (some .int)) (L : xn Γ = 3) {j19 : Int32 → Int32 → Mm → Option (Int32 × Mm)} (hj19 : ∀ (v1 : Int32) (v2 : Int32) (u : Mm), Gp Γ (QM Γ cvI) 19 [(0, .ref ((xE Γ).1 74)), (1, .int v1), (2, .int v2)] [] u (j19 v1 v2 u)) (v1 : Int32) (v2 : Int32) (u : Mm) : Gp Γ (QM Γ cvI) 19 [(0, .ref ((xE Γ).1 74)), (1, .int v1), (2, .int v2)] [] u (gX11_out_19_Ls j19 v1 v2 u) := by
  unfold gX11_out_19_Ls
  refine g_iload_n C dX11_out_19 rfl 2 rfl ?_
  refine g_aload_n C dX11_out_20 rfl 0 rfl ?_
  refine g_getI C dX11_out_21 rfl rfl fi_11_7 rfl fl_X11_26 ?_
  refine g_icmp_gt 60 C dX11_out_24 rfl (by decide) (fun c1 => ?_) (fun c1 => ?_)
  · refine g_iload_n C dX11_out_60 rfl 1 rfl ?_
    exact g_iret C M dX11_out_61 rfl rfl
  · refine g_aload_n C dX11_out_27 rfl 0 rfl ?_
    refine g_getI C dX11_out_28 rfl rfl fi_11_5 rfl fl_X11_20 ?_
    refine g_bipush (v := 12) C dX11_out_31 rfl (by decide) ?_
    refine g_isub C dX11_out_33 rfl ?_
    refine g_iconst (v := 2) C dX11_out_34 rfl (by decide) ?_
    refine g_aload_n C dX11_out_35 rfl 0 rfl ?_
    refine g_getI C dX11_out_36 rfl rfl fi_11_7 rfl fl_X11_26 ?_
    refine g_iload_n C dX11_out_39 rfl 2 rfl ?_
    refine g_isub C dX11_out_40 rfl ?_
    refine g_imul C dX11_out_41 rfl ?_
    refine g_isub C dX11_out_42 rfl ?_
    refine g_iconst (v := 4) C dX11_out_43 rfl (by decide) ?_
    refine g_idiv C dX11_out_44 rfl (by decide) ?_
    refine g_if_gt 52 C dX11_out_45 rfl (by decide) (fun c2 => ?_) (fun c2 => ?_)
    · refine g_iload_n C dX11_out_52 rfl 1 rfl ?_
      refine g_sub (ls' := [(0, .ref ((xE Γ).1 74)), (2, .int v2)]) [0, 2] rfl ?_
      exact pX11_out_53 C M L v2 v1 hj19 u
    · refine g_iload_n C dX11_out_48 rfl 2 rfl ?_
      refine g_goto 53 C dX11_out_49 rfl (by decide) ?_
      refine g_sub (ls' := [(0, .ref ((xE Γ).1 74)), (2, .int v2)]) [0, 2] rfl ?_
      exact pX11_out_53 C M L v2 v2 hj19 u
set_option maxRecDepth 20000 in
set_option maxHeartbeats 4000000 in
theorem pX11_out_19 {Γ : GX} (C : Cx Γ RX11 cX11_out 0) (M : Mx Γ (some .int)) (L : xn Γ = 3) : ∀ (n : Nat) (v1 : Int32) (v2 : Int32) (u : Mm), Gp Γ (QM Γ cvI) 19 [(0, .ref ((xE Γ).1 74)), (1, .int v1), (2, .int v2)] [] u (gX11_out_19_L n v1 v2 u) := by
  intro n
  induction n with
  | zero => intro _ _ _; exact g_none
  | succ n ih => intro v1 v2 u; exact pX11_out_19s C M L ih v1 v2 u

set_option maxRecDepth 20000 in
set_option maxHeartbeats 4000000 in
theorem pX11_out_0 {Γ : GX} (C : Cx Γ RX11 cX11_out 0) (M : Mx Γ (some .int)) (L : xn Γ = 3) (u : Mm) : Gp Γ (QM Γ cvI) 0 [(0, .ref ((xE Γ).1 74))] [] u (gX11_out_b u) := by
  unfold gX11_out_b
  refine g_aload_n C dX11_out_0 rfl 0 rfl ?_
  refine g_iconst (v := 0) C dX11_out_1 rfl (by decide) ?_
  refine g_putI C dX11_out_2 rfl rfl fp_11_19 rfl fl_X11_104 ?_
  refine g_letm (fun u1 => ?_)
  refine g_aload_n C dX11_out_5 rfl 0 rfl ?_
  refine g_getI C dX11_out_6 rfl rfl fi_11_2 rfl fl_X11_127 ?_
  refine g_if_le 15 C dX11_out_9 rfl (by decide) (fun c2 => ?_) (fun c2 => ?_)
  · refine g_iconst (v := 0) C dX11_out_15 rfl (by decide) ?_
    refine g_istore_n (ls' := [(1, .int 0), (0, .ref ((xE Γ).1 74))]) C dX11_out_16 rfl L (by decide) rfl ?_
    refine g_iconst (v := 1) C dX11_out_17 rfl (by decide) ?_
    refine g_istore_n (ls' := [(2, .int 1), (1, .int 0), (0, .ref ((xE Γ).1 74))]) C dX11_out_18 rfl L (by decide) rfl ?_
    refine g_sub (ls' := [(0, .ref ((xE Γ).1 74)), (1, .int 0), (2, .int 1)]) [2, 1, 0] rfl ?_
    exact pX11_out_19 C M L FU 0 1 u1
  · refine g_bipush (v := (-9)) C dX11_out_12 rfl (by decide) ?_
    exact g_iret C M dX11_out_14 rfl rfl
set_option maxRecDepth 20000 in
set_option maxHeartbeats 4000000 in
theorem tX11_out (l : Launch) (E : EE) (u : Mm) : Ct l E yX11_out cX11_out 3 (some .int) 0 [.ref (E.1 74)] u cvI (gX11_out u) :=
  Ct_of (own := RX11) (by decide +kernel) rfl (Nat.le_of_ble_eq_true rfl) (fun p e R s m args below meth c C M => g_sub (ls' := [(0, .ref (E.1 74))]) [0] rfl (pX11_out_0 C M rfl u))
set_option maxRecDepth 20000 in
set_option maxHeartbeats 4000000 in
theorem pX11_driveFrom_25 {Γ : GX} (C : Cx Γ RX11 cX11_driveFrom 0) (M : Mx Γ none) (L : xn Γ = 6) (v1 : Int32) (v2 : Int32) (s0 : Int32) (s1 : Int32) {j2 : Int32 → Mm → Option Mm} (hj2 : ∀ (v2 : Int32) (u : Mm), Gp Γ (QM Γ cvV) 2 [(0, .ref ((xE Γ).1 74)), (1, .int v1), (2, .int v2)] [] u (j2 v2 u)) (u : Mm) : Gp Γ (QM Γ cvV) 25 [(0, .ref ((xE Γ).1 74)), (1, .int v1), (2, .int v2)] [.int s0, .int s1, .ref ((xE Γ).1 96)] u (gX11_driveFrom_25 j2 v1 v2 s0 s1 u) := by
  unfold gX11_driveFrom_25
  refine g_gd (fun hi2 => ?_)
  refine g_iast C dX11_driveFrom_25 rfl rfl rfl hi2 ?_
  refine g_letm (fun u1 => ?_)
  refine g_iincL (fun v2_3 => [(2, .int v2_3), (0, .ref ((xE Γ).1 74)), (1, .int v1)]) C dX11_driveFrom_26 rfl L (by decide) (k := 2) rfl (iinc_1 _) (fun _ => rfl) (fun v2_3 => ?_)
  refine g_goto 2 C dX11_driveFrom_29 rfl (by decide) ?_
  refine g_sub (ls' := [(0, .ref ((xE Γ).1 74)), (1, .int v1), (2, .int v2_3)]) [1, 2, 0] rfl ?_
  exact hj2 v2_3 u1
set_option maxRecDepth 20000 in
set_option maxHeartbeats 4000000 in
theorem pX11_driveFrom_124 {Γ : GX} (C : Cx Γ RX11 cX11_driveFrom 0) (M : Mx Γ none) (L : xn Γ = 6) (v2 : Int32) (v3 : Int32) (v4 : Int32) (s0 : Int32) (s1 : Int32) {j34 : Int32 → Mm → Option Mm} (hj34 : ∀ (v2 : Int32) (u : Mm), Gp Γ (QM Γ cvV) 34 [(0, .ref ((xE Γ).1 74)), (2, .int v2)] [] u (j34 v2 u)) {j42 : Int32 → Mm → Option Mm} (hj42 : ∀ (v3 : Int32) (u : Mm), Gp Γ (QM Γ cvV) 42 [(0, .ref ((xE Γ).1 74)), (2, .int v2), (3, .int v3)] [] u (j42 v3 u)) {j51 : Int32 → Mm → Option Mm} (hj51 : ∀ (v4 : Int32) (u : Mm), Gp Γ (QM Γ cvV) 51 [(0, .ref ((xE Γ).1 74)), (2, .int v2), (3, .int v3), (4, .int v4)] [] u (j51 v4 u)) (u : Mm) : Gp Γ (QM Γ cvV) 124 [(0, .ref ((xE Γ).1 74)), (2, .int v2), (3, .int v3), (4, .int v4)] [.int s0, .int s1, .ref ((xE Γ).1 96)] u (gX11_driveFrom_124 j34 j42 j51 v2 v3 v4 s0 s1 u) := by
  unfold gX11_driveFrom_124
  refine g_gd (fun hi2 => ?_)
  refine g_iast C dX11_driveFrom_124 rfl rfl rfl hi2 ?_
  refine g_letm (fun u1 => ?_)
  refine g_iincL (fun v4_3 => [(4, .int v4_3), (0, .ref ((xE Γ).1 74)), (2, .int v2), (3, .int v3)]) C dX11_driveFrom_125 rfl L (by decide) (k := 3) rfl (iinc_1 _) (fun _ => rfl) (fun v4_3 => ?_)
  refine g_goto 51 C dX11_driveFrom_128 rfl (by decide) ?_
  refine g_sub (ls' := [(0, .ref ((xE Γ).1 74)), (2, .int v2), (3, .int v3), (4, .int v4_3)]) [1, 2, 3, 0] rfl ?_
  exact hj51 v4_3 u1
set_option maxRecDepth 20000 in
set_option maxHeartbeats 4000000 in
theorem pX11_driveFrom_117 {Γ : GX} (C : Cx Γ RX11 cX11_driveFrom 0) (M : Mx Γ none) (L : xn Γ = 6) (v2 : Int32) (v3 : Int32) (v4 : Int32) (s0 : Int32) {j34 : Int32 → Mm → Option Mm} (hj34 : ∀ (v2 : Int32) (u : Mm), Gp Γ (QM Γ cvV) 34 [(0, .ref ((xE Γ).1 74)), (2, .int v2)] [] u (j34 v2 u)) {j42 : Int32 → Mm → Option Mm} (hj42 : ∀ (v3 : Int32) (u : Mm), Gp Γ (QM Γ cvV) 42 [(0, .ref ((xE Γ).1 74)), (2, .int v2), (3, .int v3)] [] u (j42 v3 u)) {j51 : Int32 → Mm → Option Mm} (hj51 : ∀ (v4 : Int32) (u : Mm), Gp Γ (QM Γ cvV) 51 [(0, .ref ((xE Γ).1 74)), (2, .int v2), (3, .int v3), (4, .int v4)] [] u (j51 v4 u)) (u : Mm) : Gp Γ (QM Γ cvV) 117 [(0, .ref ((xE Γ).1 74)), (2, .int v2), (3, .int v3), (4, .int v4)] [.int s0, .ref ((xE Γ).1 96)] u (gX11_driveFrom_117 j34 j42 j51 v2 v3 v4 s0 u) := by
  unfold gX11_driveFrom_117
  refine g_aload_n C dX11_driveFrom_117 rfl 0 rfl ?_
  refine g_getR (k2 := 96) C dX11_driveFrom_118 rfl rfl fi_11_53 ⟨by decide, by decide, rfl⟩ fl_X11_89 ?_
  refine g_iload C dX11_driveFrom_121 rfl 3 rfl ?_
  refine g_gd (fun hi1 => ?_)
  refine g_iald C dX11_driveFrom_123 rfl rfl rfl hi1 ?_
  exact pX11_driveFrom_124 C M L v2 v3 v4 (u 96 (ixn v4)) s0 hj34 hj42 hj51 u
set_option maxRecDepth 20000 in
set_option maxHeartbeats 4000000 in
theorem pX11_driveFrom_51s {Γ : GX} (C : Cx Γ RX11 cX11_driveFrom 0) (M : Mx Γ none) (L : xn Γ = 6) (v2 : Int32) (v3 : Int32) {j34 : Int32 → Mm → Option Mm} (hj34 : ∀ (v2 : Int32) (u : Mm), Gp Γ (QM Γ cvV) 34 [(0, .ref ((xE Γ).1 74)), (2, .int v2)] [] u (j34 v2 u)) {j42 : Int32 → Mm → Option Mm} (hj42 : ∀ (v3 : Int32) (u : Mm), Gp Γ (QM Γ cvV) 42 [(0, .ref ((xE Γ).1 74)), (2, .int v2), (3, .int v3)] [] u (j42 v3 u)) {j51 : Int32 → Mm → Option Mm} (hj51 : ∀ (v4 : Int32) (u : Mm), Gp Γ (QM Γ cvV) 51 [(0, .ref ((xE Γ).1 74)), (2, .int v2), (3, .int v3), (4, .int v4)] [] u (j51 v4 u)) (v4 : Int32) (u : Mm) : Gp Γ (QM Γ cvV) 51 [(0, .ref ((xE Γ).1 74)), (2, .int v2), (3, .int v3), (4, .int v4)] [] u (gX11_driveFrom_51_Ls j34 j42 v2 v3 j51 v4 u) := by
  unfold gX11_driveFrom_51_Ls
  refine g_iload C dX11_driveFrom_51 rfl 3 rfl ?_
  refine g_bipush (v := 8) C dX11_driveFrom_53 rfl (by decide) ?_
  refine g_icmp_ge 131 C dX11_driveFrom_55 rfl (by decide) (fun c1 => ?_) (fun c1 => ?_)
  · refine g_iincL (fun v3_2 => [(3, .int v3_2), (0, .ref ((xE Γ).1 74)), (2, .int v2), (4, .int v4)]) C dX11_driveFrom_131 rfl L (by decide) (k := 2) rfl (iinc_1 _) (fun _ => rfl) (fun v3_2 => ?_)
    refine g_goto 42 C dX11_driveFrom_134 rfl (by decide) ?_
    refine g_sub (ls' := [(0, .ref ((xE Γ).1 74)), (2, .int v2), (3, .int v3_2)]) [1, 2, 0] rfl ?_
    exact hj42 v3_2 u
  · refine g_aload_n C dX11_driveFrom_58 rfl 0 rfl ?_
    refine g_getR (k2 := 96) C dX11_driveFrom_59 rfl rfl fi_11_53 ⟨by decide, by decide, rfl⟩ fl_X11_89 ?_
    refine g_iload_n C dX11_driveFrom_62 rfl 2 rfl ?_
    refine g_gd (fun hi3 => ?_)
    refine g_iald C dX11_driveFrom_63 rfl rfl rfl hi3 ?_
    refine g_aload_n C dX11_driveFrom_64 rfl 0 rfl ?_
    refine g_getR (k2 := 83) C dX11_driveFrom_65 rfl rfl fi_11_17 ⟨by decide, by decide, rfl⟩ fl_X11_50 ?_
    refine g_bipush (v := 8) C dX11_driveFrom_68 rfl (by decide) ?_
    refine g_iload_n C dX11_driveFrom_70 rfl 2 rfl ?_
    refine g_imul C dX11_driveFrom_71 rfl ?_
    refine g_iload C dX11_driveFrom_72 rfl 3 rfl ?_
    refine g_iadd C dX11_driveFrom_74 rfl ?_
    refine g_gd (fun hi4 => ?_)
    refine g_iald C dX11_driveFrom_75 rfl rfl rfl hi4 ?_
    refine g_iadd C dX11_driveFrom_76 rfl ?_
    refine g_lets (fun v5_5 => ?_)
    refine g_istore (ls' := [(5, .int v5_5), (0, .ref ((xE Γ).1 74)), (2, .int v2), (3, .int v3), (4, .int v4)]) C dX11_driveFrom_77 rfl L (by decide) rfl ?_
    refine g_aload_n C dX11_driveFrom_79 rfl 1 rfl ?_
    refine g_getR (k2 := 96) C dX11_driveFrom_80 rfl rfl fi_11_53 ⟨by decide, by decide, rfl⟩ fl_X11_89 ?_
    refine g_iload C dX11_driveFrom_83 rfl 4 rfl ?_
    refine g_aload_n C dX11_driveFrom_85 rfl 1 rfl ?_
    refine g_getR (k2 := 83) C dX11_driveFrom_86 rfl rfl fi_11_17 ⟨by decide, by decide, rfl⟩ fl_X11_50 ?_
    refine g_bipush (v := 8) C dX11_driveFrom_89 rfl (by decide) ?_
    refine g_iload_n C dX11_driveFrom_91 rfl 3 rfl ?_
    refine g_imul C dX11_driveFrom_92 rfl ?_
    refine g_iload C dX11_driveFrom_93 rfl 4 rfl ?_
    refine g_iadd C dX11_driveFrom_95 rfl ?_
    refine g_gd (fun hi6 => ?_)
    refine g_iald C dX11_driveFrom_96 rfl rfl rfl hi6 ?_
    refine g_if_le 117 C dX11_driveFrom_97 rfl (by decide) (fun c7 => ?_) (fun c7 => ?_)
    · refine g_sub (ls' := [(0, .ref ((xE Γ).1 74)), (2, .int v2), (3, .int v3), (4, .int v4)]) [1, 2, 3, 4] rfl ?_
      exact pX11_driveFrom_117 C M L v2 v3 v4 v4 hj34 hj42 hj51 u
    · refine g_iload C dX11_driveFrom_100 rfl 0 rfl ?_
      refine g_aload_n C dX11_driveFrom_102 rfl 1 rfl ?_
      refine g_getR (k2 := 96) C dX11_driveFrom_103 rfl rfl fi_11_53 ⟨by decide, by decide, rfl⟩ fl_X11_89 ?_
      refine g_iload C dX11_driveFrom_106 rfl 4 rfl ?_
      refine g_gd (fun hi8 => ?_)
      refine g_iald C dX11_driveFrom_108 rfl rfl rfl hi8 ?_
      refine g_icmp_ge 117 C dX11_driveFrom_109 rfl (by decide) (fun c9 => ?_) (fun c9 => ?_)
      · refine g_sub (ls' := [(0, .ref ((xE Γ).1 74)), (2, .int v2), (3, .int v3), (4, .int v4)]) [1, 2, 3, 4] rfl ?_
        exact pX11_driveFrom_117 C M L v2 v3 v4 v4 hj34 hj42 hj51 u
      · refine g_iload C dX11_driveFrom_112 rfl 0 rfl ?_
        refine g_goto 124 C dX11_driveFrom_114 rfl (by decide) ?_
        refine g_sub (ls' := [(0, .ref ((xE Γ).1 74)), (2, .int v2), (3, .int v3), (4, .int v4)]) [1, 2, 3, 4] rfl ?_
        exact pX11_driveFrom_124 C M L v2 v3 v4 v5_5 v4 hj34 hj42 hj51 u
set_option maxRecDepth 20000 in
set_option maxHeartbeats 4000000 in
theorem pX11_driveFrom_51 {Γ : GX} (C : Cx Γ RX11 cX11_driveFrom 0) (M : Mx Γ none) (L : xn Γ = 6) (v2 : Int32) (v3 : Int32) {j34 : Int32 → Mm → Option Mm} (hj34 : ∀ (v2 : Int32) (u : Mm), Gp Γ (QM Γ cvV) 34 [(0, .ref ((xE Γ).1 74)), (2, .int v2)] [] u (j34 v2 u)) {j42 : Int32 → Mm → Option Mm} (hj42 : ∀ (v3 : Int32) (u : Mm), Gp Γ (QM Γ cvV) 42 [(0, .ref ((xE Γ).1 74)), (2, .int v2), (3, .int v3)] [] u (j42 v3 u)) : ∀ (n : Nat) (v4 : Int32) (u : Mm), Gp Γ (QM Γ cvV) 51 [(0, .ref ((xE Γ).1 74)), (2, .int v2), (3, .int v3), (4, .int v4)] [] u (gX11_driveFrom_51_L j34 j42 v2 v3 n v4 u) := by
  intro n
  induction n with
  | zero => intro _ _; exact g_none
  | succ n ih => intro v4 u; exact pX11_driveFrom_51s C M L v2 v3 hj34 hj42 ih v4 u

set_option maxRecDepth 20000 in
set_option maxHeartbeats 4000000 in
theorem pX11_driveFrom_42s {Γ : GX} (C : Cx Γ RX11 cX11_driveFrom 0) (M : Mx Γ none) (L : xn Γ = 6) (v2 : Int32) {j34 : Int32 → Mm → Option Mm} (hj34 : ∀ (v2 : Int32) (u : Mm), Gp Γ (QM Γ cvV) 34 [(0, .ref ((xE Γ).1 74)), (2, .int v2)] [] u (j34 v2 u)) {j42 : Int32 → Mm → Option Mm} (hj42 : ∀ (v3 : Int32) (u : Mm), Gp Γ (QM Γ cvV) 42 [(0, .ref ((xE Γ).1 74)), (2, .int v2), (3, .int v3)] [] u (j42 v3 u)) (v3 : Int32) (u : Mm) : Gp Γ (QM Γ cvV) 42 [(0, .ref ((xE Γ).1 74)), (2, .int v2), (3, .int v3)] [] u (gX11_driveFrom_42_Ls j34 v2 j42 v3 u) := by
  unfold gX11_driveFrom_42_Ls
  refine g_iload_n C dX11_driveFrom_42 rfl 2 rfl ?_
  refine g_bipush (v := 8) C dX11_driveFrom_43 rfl (by decide) ?_
  refine g_icmp_ge 137 C dX11_driveFrom_45 rfl (by decide) (fun c1 => ?_) (fun c1 => ?_)
  · refine g_iincL (fun v2_2 => [(2, .int v2_2), (0, .ref ((xE Γ).1 74)), (3, .int v3)]) C dX11_driveFrom_137 rfl L (by decide) (k := 1) rfl (iinc_1 _) (fun _ => rfl) (fun v2_2 => ?_)
    refine g_goto 34 C dX11_driveFrom_140 rfl (by decide) ?_
    refine g_sub (ls' := [(0, .ref ((xE Γ).1 74)), (2, .int v2_2)]) [1, 0] rfl ?_
    exact hj34 v2_2 u
  · refine g_iconst (v := 0) C dX11_driveFrom_48 rfl (by decide) ?_
    refine g_istore (ls' := [(4, .int 0), (0, .ref ((xE Γ).1 74)), (2, .int v2), (3, .int v3)]) C dX11_driveFrom_49 rfl L (by decide) rfl ?_
    refine g_sub (ls' := [(0, .ref ((xE Γ).1 74)), (2, .int v2), (3, .int v3), (4, .int 0)]) [1, 2, 3, 0] rfl ?_
    exact pX11_driveFrom_51 C M L v2 v3 hj34 hj42 FU 0 u
set_option maxRecDepth 20000 in
set_option maxHeartbeats 4000000 in
theorem pX11_driveFrom_42 {Γ : GX} (C : Cx Γ RX11 cX11_driveFrom 0) (M : Mx Γ none) (L : xn Γ = 6) (v2 : Int32) {j34 : Int32 → Mm → Option Mm} (hj34 : ∀ (v2 : Int32) (u : Mm), Gp Γ (QM Γ cvV) 34 [(0, .ref ((xE Γ).1 74)), (2, .int v2)] [] u (j34 v2 u)) : ∀ (n : Nat) (v3 : Int32) (u : Mm), Gp Γ (QM Γ cvV) 42 [(0, .ref ((xE Γ).1 74)), (2, .int v2), (3, .int v3)] [] u (gX11_driveFrom_42_L j34 v2 n v3 u) := by
  intro n
  induction n with
  | zero => intro _ _; exact g_none
  | succ n ih => intro v3 u; exact pX11_driveFrom_42s C M L v2 hj34 ih v3 u

set_option maxRecDepth 20000 in
set_option maxHeartbeats 4000000 in
theorem pX11_driveFrom_34s {Γ : GX} (C : Cx Γ RX11 cX11_driveFrom 0) (M : Mx Γ none) (L : xn Γ = 6) {j34 : Int32 → Mm → Option Mm} (hj34 : ∀ (v2 : Int32) (u : Mm), Gp Γ (QM Γ cvV) 34 [(0, .ref ((xE Γ).1 74)), (2, .int v2)] [] u (j34 v2 u)) (v2 : Int32) (u : Mm) : Gp Γ (QM Γ cvV) 34 [(0, .ref ((xE Γ).1 74)), (2, .int v2)] [] u (gX11_driveFrom_34_Ls j34 v2 u) := by
  unfold gX11_driveFrom_34_Ls
  refine g_iload_n C dX11_driveFrom_34 rfl 1 rfl ?_
  refine g_bipush (v := 8) C dX11_driveFrom_35 rfl (by decide) ?_
  refine g_icmp_ge 143 C dX11_driveFrom_37 rfl (by decide) (fun c1 => ?_) (fun c1 => ?_)
  · exact g_vret C M dX11_driveFrom_143 rfl rfl
  · refine g_iconst (v := 0) C dX11_driveFrom_40 rfl (by decide) ?_
    refine g_istore_n (ls' := [(3, .int 0), (0, .ref ((xE Γ).1 74)), (2, .int v2)]) C dX11_driveFrom_41 rfl L (by decide) rfl ?_
    refine g_sub (ls' := [(0, .ref ((xE Γ).1 74)), (2, .int v2), (3, .int 0)]) [1, 2, 0] rfl ?_
    exact pX11_driveFrom_42 C M L v2 hj34 FU 0 u
set_option maxRecDepth 20000 in
set_option maxHeartbeats 4000000 in
theorem pX11_driveFrom_34 {Γ : GX} (C : Cx Γ RX11 cX11_driveFrom 0) (M : Mx Γ none) (L : xn Γ = 6) : ∀ (n : Nat) (v2 : Int32) (u : Mm), Gp Γ (QM Γ cvV) 34 [(0, .ref ((xE Γ).1 74)), (2, .int v2)] [] u (gX11_driveFrom_34_L n v2 u) := by
  intro n
  induction n with
  | zero => intro _ _; exact g_none
  | succ n ih => intro v2 u; exact pX11_driveFrom_34s C M L ih v2 u

set_option maxRecDepth 20000 in
set_option maxHeartbeats 4000000 in
theorem pX11_driveFrom_2s {Γ : GX} (C : Cx Γ RX11 cX11_driveFrom 0) (M : Mx Γ none) (L : xn Γ = 6) (v1 : Int32) {j2 : Int32 → Mm → Option Mm} (hj2 : ∀ (v2 : Int32) (u : Mm), Gp Γ (QM Γ cvV) 2 [(0, .ref ((xE Γ).1 74)), (1, .int v1), (2, .int v2)] [] u (j2 v2 u)) (v2 : Int32) (u : Mm) : Gp Γ (QM Γ cvV) 2 [(0, .ref ((xE Γ).1 74)), (1, .int v1), (2, .int v2)] [] u (gX11_driveFrom_2_Ls v1 j2 v2 u) := by
  unfold gX11_driveFrom_2_Ls
  refine g_iload_n C dX11_driveFrom_2 rfl 2 rfl ?_
  refine g_bipush (v := 8) C dX11_driveFrom_3 rfl (by decide) ?_
  refine g_icmp_ge 32 C dX11_driveFrom_5 rfl (by decide) (fun c1 => ?_) (fun c1 => ?_)
  · refine g_iconst (v := 0) C dX11_driveFrom_32 rfl (by decide) ?_
    refine g_istore_n (ls' := [(2, .int 0), (0, .ref ((xE Γ).1 74)), (1, .int v1)]) C dX11_driveFrom_33 rfl L (by decide) rfl ?_
    refine g_sub (ls' := [(0, .ref ((xE Γ).1 74)), (2, .int 0)]) [1, 0] rfl ?_
    exact pX11_driveFrom_34 C M L FU 0 u
  · refine g_aload_n C dX11_driveFrom_8 rfl 0 rfl ?_
    refine g_getR (k2 := 96) C dX11_driveFrom_9 rfl rfl fi_11_53 ⟨by decide, by decide, rfl⟩ fl_X11_89 ?_
    refine g_iload_n C dX11_driveFrom_12 rfl 2 rfl ?_
    refine g_iload_n C dX11_driveFrom_13 rfl 2 rfl ?_
    refine g_iload_n C dX11_driveFrom_14 rfl 1 rfl ?_
    refine g_icmp_ne 22 C dX11_driveFrom_15 rfl (by decide) (fun c2 => ?_) (fun c2 => ?_)
    · refine g_ldc_w (v := 99999) C dX11_driveFrom_22 rfl (wm_41 18 rfl) ?_
      exact pX11_driveFrom_25 C M L v1 v2 99999 v2 hj2 u
    · refine g_iconst (v := 0) C dX11_driveFrom_18 rfl (by decide) ?_
      refine g_goto 25 C dX11_driveFrom_19 rfl (by decide) ?_
      exact pX11_driveFrom_25 C M L v1 v2 0 v2 hj2 u
set_option maxRecDepth 20000 in
set_option maxHeartbeats 4000000 in
theorem pX11_driveFrom_2 {Γ : GX} (C : Cx Γ RX11 cX11_driveFrom 0) (M : Mx Γ none) (L : xn Γ = 6) (v1 : Int32) : ∀ (n : Nat) (v2 : Int32) (u : Mm), Gp Γ (QM Γ cvV) 2 [(0, .ref ((xE Γ).1 74)), (1, .int v1), (2, .int v2)] [] u (gX11_driveFrom_2_L v1 n v2 u) := by
  intro n
  induction n with
  | zero => intro _ _; exact g_none
  | succ n ih => intro v2 u; exact pX11_driveFrom_2s C M L v1 ih v2 u

set_option maxRecDepth 20000 in
set_option maxHeartbeats 4000000 in
theorem pX11_driveFrom_0 {Γ : GX} (C : Cx Γ RX11 cX11_driveFrom 0) (M : Mx Γ none) (L : xn Γ = 6) (v1 : Int32) (u : Mm) : Gp Γ (QM Γ cvV) 0 [(0, .ref ((xE Γ).1 74)), (1, .int v1)] [] u (gX11_driveFrom_b v1 u) := by
  unfold gX11_driveFrom_b
  refine g_iconst (v := 0) C dX11_driveFrom_0 rfl (by decide) ?_
  refine g_istore_n (ls' := [(2, .int 0), (0, .ref ((xE Γ).1 74)), (1, .int v1)]) C dX11_driveFrom_1 rfl L (by decide) rfl ?_
  refine g_sub (ls' := [(0, .ref ((xE Γ).1 74)), (1, .int v1), (2, .int 0)]) [1, 2, 0] rfl ?_
  exact pX11_driveFrom_2 C M L v1 FU 0 u
set_option maxRecDepth 20000 in
set_option maxHeartbeats 4000000 in
theorem tX11_driveFrom (l : Launch) (E : EE) (v1 : Int32) (u : Mm) : Ct l E yX11_driveFrom cX11_driveFrom 6 none 0 [.ref (E.1 74), .int v1] u cvV (gX11_driveFrom v1 u) :=
  Ct_of (own := RX11) (by decide +kernel) rfl (Nat.le_of_ble_eq_true rfl) (fun p e R s m args below meth c C M => g_sub (ls' := [(0, .ref (E.1 74)), (1, .int v1)]) [0, 1] rfl (pX11_driveFrom_0 C M rfl v1 u))
set_option maxRecDepth 20000 in
set_option maxHeartbeats 4000000 in
theorem pX11_road_35 {Γ : GX} (C : Cx Γ RX11 cX11_road 2) (M : Mx Γ (some .int)) (L : xn Γ = 6) (v1 : Int32) (v2 : Int32) (v3 : Int32) (s0 : Int32) (u : Mm) : Gp Γ (QM Γ cvI) 35 [(0, .ref ((xE Γ).1 74)), (1, .int v1), (2, .int v2), (3, .int v3)] [.int s0] u (gX11_road_35 v1 v2 v3 s0 u) := by
  unfold gX11_road_35
  refine g_istore (ls' := [(4, .int s0), (0, .ref ((xE Γ).1 74)), (1, .int v1), (2, .int v2), (3, .int v3)]) C dX11_road_35 rfl L (by decide) rfl ?_
  refine g_iload C dX11_road_37 rfl 0 rfl ?_
  refine g_if_ge 49 C dX11_road_39 rfl (by decide) (fun c1 => ?_) (fun c1 => ?_)
  · refine g_aload_n C dX11_road_49 rfl 1 rfl ?_
    refine g_getR (k2 := 83) C dX11_road_50 rfl rfl fi_11_17 ⟨by decide, by decide, rfl⟩ fl_X11_50 ?_
    refine g_bipush (v := 8) C dX11_road_53 rfl (by decide) ?_
    refine g_iload_n C dX11_road_55 rfl 2 rfl ?_
    refine g_imul C dX11_road_56 rfl ?_
    refine g_iload_n C dX11_road_57 rfl 3 rfl ?_
    refine g_iadd C dX11_road_58 rfl ?_
    refine g_gd (fun hi2 => ?_)
    refine g_iald C dX11_road_59 rfl rfl rfl hi2 ?_
    refine g_lets (fun v5_3 => ?_)
    refine g_istore (ls' := [(5, .int v5_3), (4, .int s0), (0, .ref ((xE Γ).1 74)), (1, .int v1), (2, .int v2), (3, .int v3)]) C dX11_road_60 rfl L (by decide) rfl ?_
    refine g_aload_n C dX11_road_62 rfl 2 rfl ?_
    refine g_iload_n C dX11_road_63 rfl 3 rfl ?_
    refine g_iload_n C dX11_road_64 rfl 4 rfl ?_
    refine g_iload_n C dX11_road_65 rfl 5 rfl ?_
    refine g_callV [.int v1, .int v2, .int v3] C dX11_road_66 rfl (tX11_putRoad (xl Γ) (xE Γ) v1 v2 v3 u) cf_X11_putRoad rfl rfl ml_X11_205 rfl (by decide) (Nat.le_of_ble_eq_true rfl) rfl (fun u4 => ?_)
    refine g_aload_n C dX11_road_69 rfl 2 rfl ?_
    refine g_iconst (v := 0) C dX11_road_70 rfl (by decide) ?_
    refine g_putI C dX11_road_71 rfl rfl fp_11_40 rfl fl_X11_225 ?_
    refine g_letm (fun u5 => ?_)
    refine g_iload C dX11_road_74 rfl 0 rfl ?_
    exact g_iret C M dX11_road_76 rfl rfl
  · refine g_aload_n C dX11_road_42 rfl 1 rfl ?_
    refine g_iload C dX11_road_43 rfl 0 rfl ?_
    refine g_callI [.int s0] C dX11_road_45 rfl (tX11_refuse (xl Γ) (xE Γ) s0 u) cf_X11_refuse rfl rfl ml_X11_153 rfl (by decide) (Nat.le_of_ble_eq_true rfl) rfl (fun r7 u6 => ?_)
    exact g_iret C M dX11_road_48 rfl rfl
set_option maxRecDepth 20000 in
set_option maxHeartbeats 4000000 in
theorem pX11_road_34 {Γ : GX} (C : Cx Γ RX11 cX11_road 2) (M : Mx Γ (some .int)) (L : xn Γ = 6) (v1 : Int32) (v2 : Int32) (v3 : Int32) (u : Mm) : Gp Γ (QM Γ cvI) 34 [(0, .ref ((xE Γ).1 74)), (1, .int v1), (2, .int v2), (3, .int v3)] [] u (gX11_road_34 v1 v2 v3 u) := by
  unfold gX11_road_34
  refine g_iconst (v := (-1)) C dX11_road_34 rfl (by decide) ?_
  exact pX11_road_35 C M L v1 v2 v3 (-1) u
set_option maxRecDepth 20000 in
set_option maxHeartbeats 4000000 in
theorem pX11_road_0 {Γ : GX} (C : Cx Γ RX11 cX11_road 2) (M : Mx Γ (some .int)) (L : xn Γ = 6) (v1 : Int32) (v2 : Int32) (v3 : Int32) (u : Mm) : Gp Γ (QM Γ cvI) 0 [(0, .ref ((xE Γ).1 74)), (1, .int v1), (2, .int v2), (3, .int v3)] [] u (gX11_road_b v1 v2 v3 u) := by
  unfold gX11_road_b
  refine g_aload_n C dX11_road_0 rfl 0 rfl ?_
  refine g_iconst (v := 0) C dX11_road_1 rfl (by decide) ?_
  refine g_putI C dX11_road_2 rfl rfl fp_11_19 rfl fl_X11_104 ?_
  refine g_letm (fun u1 => ?_)
  refine g_iload_n C dX11_road_5 rfl 1 rfl ?_
  refine g_callsP [.int v1] C dX11_road_6 rfl (tX11_isPlace (xl Γ) (xE Γ) v1 u1) cf_X11_isPlace ml_X11_202 rfl (by decide) (Nat.le_of_ble_eq_true rfl) rfl (fun r2 => ?_)
  refine g_if_eq 34 C dX11_road_9 rfl (by decide) (fun c3 => ?_) (fun c3 => ?_)
  · exact pX11_road_34 C M L v1 v2 v3 u1
  · refine g_iload_n C dX11_road_12 rfl 2 rfl ?_
    refine g_callsP [.int v2] C dX11_road_13 rfl (tX11_isPlace (xl Γ) (xE Γ) v2 u1) cf_X11_isPlace ml_X11_202 rfl (by decide) (Nat.le_of_ble_eq_true rfl) rfl (fun r4 => ?_)
    refine g_if_eq 34 C dX11_road_16 rfl (by decide) (fun c5 => ?_) (fun c5 => ?_)
    · exact pX11_road_34 C M L v1 v2 v3 u1
    · refine g_iload_n C dX11_road_19 rfl 1 rfl ?_
      refine g_iload_n C dX11_road_20 rfl 2 rfl ?_
      refine g_icmp_eq 34 C dX11_road_21 rfl (by decide) (fun c6 => ?_) (fun c6 => ?_)
      · exact pX11_road_34 C M L v1 v2 v3 u1
      · refine g_iload_n C dX11_road_24 rfl 3 rfl ?_
        refine g_iconst (v := 0) C dX11_road_25 rfl (by decide) ?_
        refine g_bipush (v := 99) C dX11_road_26 rfl (by decide) ?_
        refine g_callsP [.int v3, .int 0, .int 99] C dX11_road_28 rfl (tX11_wrongNumber (xl Γ) (xE Γ) v3 0 99 u1) cf_X11_wrongNumber ml_X11_255 rfl (by decide) (Nat.le_of_ble_eq_true rfl) rfl (fun r7 => ?_)
        refine g_goto 35 C dX11_road_31 rfl (by decide) ?_
        exact pX11_road_35 C M L v1 v2 v3 r7 u1
set_option maxRecDepth 20000 in
set_option maxHeartbeats 4000000 in
theorem tX11_road (l : Launch) (E : EE) (v1 : Int32) (v2 : Int32) (v3 : Int32) (u : Mm) : Ct l E yX11_road cX11_road 6 (some .int) 2 [.ref (E.1 74), .int v1, .int v2, .int v3] u cvI (gX11_road v1 v2 v3 u) :=
  Ct_of (own := RX11) (by decide +kernel) rfl (Nat.le_of_ble_eq_true rfl) (fun p e R s m args below meth c C M => g_sub (ls' := [(0, .ref (E.1 74)), (1, .int v1), (2, .int v2), (3, .int v3)]) [0, 1, 2, 3] rfl (pX11_road_0 C M rfl v1 v2 v3 u))
set_option maxRecDepth 20000 in
set_option maxHeartbeats 4000000 in
theorem pX11_car_0 {Γ : GX} (C : Cx Γ RX11 cX11_car 2) (M : Mx Γ (some .int)) (L : xn Γ = 3) (v1 : Int32) (u : Mm) : Gp Γ (QM Γ cvI) 0 [(0, .ref ((xE Γ).1 74)), (1, .int v1)] [] u (gX11_car_b v1 u) := by
  unfold gX11_car_b
  refine g_aload_n C dX11_car_0 rfl 0 rfl ?_
  refine g_iconst (v := 0) C dX11_car_1 rfl (by decide) ?_
  refine g_putI C dX11_car_2 rfl rfl fp_11_19 rfl fl_X11_104 ?_
  refine g_letm (fun u1 => ?_)
  refine g_iload_n C dX11_car_5 rfl 1 rfl ?_
  refine g_callsP [.int v1] C dX11_car_6 rfl (tX11_isPlace (xl Γ) (xE Γ) v1 u1) cf_X11_isPlace ml_X11_202 rfl (by decide) (Nat.le_of_ble_eq_true rfl) rfl (fun r2 => ?_)
  refine g_if_ne 18 C dX11_car_9 rfl (by decide) (fun c3 => ?_) (fun c3 => ?_)
  · refine g_aload_n C dX11_car_18 rfl 0 rfl ?_
    refine g_getI C dX11_car_19 rfl rfl fi_11_18 rfl fl_X11_243 ?_
    refine g_lets (fun v2_4 => ?_)
    refine g_istore_n (ls' := [(2, .int v2_4), (0, .ref ((xE Γ).1 74)), (1, .int v1)]) C dX11_car_22 rfl L (by decide) rfl ?_
    refine g_aload_n C dX11_car_23 rfl 1 rfl ?_
    refine g_iload_n C dX11_car_24 rfl 2 rfl ?_
    refine g_putI C dX11_car_25 rfl rfl fp_11_18 rfl fl_X11_243 ?_
    refine g_letm (fun u5 => ?_)
    refine g_aload_n C dX11_car_28 rfl 1 rfl ?_
    refine g_iconst (v := 0) C dX11_car_29 rfl (by decide) ?_
    refine g_putI C dX11_car_30 rfl rfl fp_11_40 rfl fl_X11_225 ?_
    refine g_letm (fun u6 => ?_)
    refine g_iload_n C dX11_car_33 rfl 0 rfl ?_
    exact g_iret C M dX11_car_34 rfl rfl
  · refine g_aload_n C dX11_car_12 rfl 0 rfl ?_
    refine g_iconst (v := (-1)) C dX11_car_13 rfl (by decide) ?_
    refine g_callI [.int (-1)] C dX11_car_14 rfl (tX11_refuse (xl Γ) (xE Γ) (-1) u1) cf_X11_refuse rfl rfl ml_X11_153 rfl (by decide) (Nat.le_of_ble_eq_true rfl) rfl (fun r8 u7 => ?_)
    exact g_iret C M dX11_car_17 rfl rfl
set_option maxRecDepth 20000 in
set_option maxHeartbeats 4000000 in
theorem tX11_car (l : Launch) (E : EE) (v1 : Int32) (u : Mm) : Ct l E yX11_car cX11_car 3 (some .int) 2 [.ref (E.1 74), .int v1] u cvI (gX11_car v1 u) :=
  Ct_of (own := RX11) (by decide +kernel) rfl (Nat.le_of_ble_eq_true rfl) (fun p e R s m args below meth c C M => g_sub (ls' := [(0, .ref (E.1 74)), (1, .int v1)]) [0, 1] rfl (pX11_car_0 C M rfl v1 u))
set_option maxRecDepth 20000 in
set_option maxHeartbeats 4000000 in
theorem pX11_drive_0 {Γ : GX} (C : Cx Γ RX11 cX11_drive 2) (M : Mx Γ (some .int)) (L : xn Γ = 2) (v1 : Int32) (u : Mm) : Gp Γ (QM Γ cvI) 0 [(0, .ref ((xE Γ).1 74)), (1, .int v1)] [] u (gX11_drive_b v1 u) := by
  unfold gX11_drive_b
  refine g_aload_n C dX11_drive_0 rfl 0 rfl ?_
  refine g_iconst (v := 0) C dX11_drive_1 rfl (by decide) ?_
  refine g_putI C dX11_drive_2 rfl rfl fp_11_19 rfl fl_X11_104 ?_
  refine g_letm (fun u1 => ?_)
  refine g_iload_n C dX11_drive_5 rfl 1 rfl ?_
  refine g_callsP [.int v1] C dX11_drive_6 rfl (tX11_isPlace (xl Γ) (xE Γ) v1 u1) cf_X11_isPlace ml_X11_202 rfl (by decide) (Nat.le_of_ble_eq_true rfl) rfl (fun r2 => ?_)
  refine g_if_ne 18 C dX11_drive_9 rfl (by decide) (fun c3 => ?_) (fun c3 => ?_)
  · refine g_aload_n C dX11_drive_18 rfl 0 rfl ?_
    refine g_aload_n C dX11_drive_19 rfl 0 rfl ?_
    refine g_getI C dX11_drive_20 rfl rfl fi_11_18 rfl fl_X11_243 ?_
    refine g_callV [.int (u1 74 18)] C dX11_drive_23 rfl (tX11_driveFrom (xl Γ) (xE Γ) (u1 74 18) u1) cf_X11_driveFrom rfl rfl ml_X11_338 rfl (by decide) (Nat.le_of_ble_eq_true rfl) rfl (fun u4 => ?_)
    refine g_aload_n C dX11_drive_26 rfl 0 rfl ?_
    refine g_getR (k2 := 96) C dX11_drive_27 rfl rfl fi_11_53 ⟨by decide, by decide, rfl⟩ fl_X11_89 ?_
    refine g_iload_n C dX11_drive_30 rfl 1 rfl ?_
    refine g_gd (fun hi5 => ?_)
    refine g_iald C dX11_drive_31 rfl rfl rfl hi5 ?_
    refine g_ldc_w (v := 99999) C dX11_drive_32 rfl (wm_41 18 rfl) ?_
    refine g_icmp_ge 47 C dX11_drive_35 rfl (by decide) (fun c6 => ?_) (fun c6 => ?_)
    · refine g_bipush (v := (-9)) C dX11_drive_47 rfl (by decide) ?_
      exact g_iret C M dX11_drive_49 rfl rfl
    · refine g_aload_n C dX11_drive_38 rfl 0 rfl ?_
      refine g_getR (k2 := 96) C dX11_drive_39 rfl rfl fi_11_53 ⟨by decide, by decide, rfl⟩ fl_X11_89 ?_
      refine g_iload_n C dX11_drive_42 rfl 1 rfl ?_
      refine g_gd (fun hi7 => ?_)
      refine g_iald C dX11_drive_43 rfl rfl rfl hi7 ?_
      refine g_goto 49 C dX11_drive_44 rfl (by decide) ?_
      exact g_iret C M dX11_drive_49 rfl rfl
  · refine g_aload_n C dX11_drive_12 rfl 0 rfl ?_
    refine g_iconst (v := (-1)) C dX11_drive_13 rfl (by decide) ?_
    refine g_callI [.int (-1)] C dX11_drive_14 rfl (tX11_refuse (xl Γ) (xE Γ) (-1) u1) cf_X11_refuse rfl rfl ml_X11_153 rfl (by decide) (Nat.le_of_ble_eq_true rfl) rfl (fun r9 u8 => ?_)
    exact g_iret C M dX11_drive_17 rfl rfl
set_option maxRecDepth 20000 in
set_option maxHeartbeats 4000000 in
theorem tX11_drive (l : Launch) (E : EE) (v1 : Int32) (u : Mm) : Ct l E yX11_drive cX11_drive 2 (some .int) 2 [.ref (E.1 74), .int v1] u cvI (gX11_drive v1 u) :=
  Ct_of (own := RX11) (by decide +kernel) rfl (Nat.le_of_ble_eq_true rfl) (fun p e R s m args below meth c C M => g_sub (ls' := [(0, .ref (E.1 74)), (1, .int v1)]) [0, 1] rfl (pX11_drive_0 C M rfl v1 u))
set_option maxRecDepth 20000 in
set_option maxHeartbeats 4000000 in
theorem pX11_waitSum_45 {Γ : GX} (C : Cx Γ RX11 cX11_waitSum 1) (M : Mx Γ (some .int)) (L : xn Γ = 4) (v3 : Int32) (s0 : Int32) (s1 : Int32) (s2 : Int32) {j9 : Int32 → Int32 → Mm → Option (Int32 × Mm)} (hj9 : ∀ (v2 : Int32) (v3 : Int32) (u : Mm), Gp Γ (QM Γ cvI) 9 [(0, .ref ((xE Γ).1 74)), (2, .int v2), (3, .int v3)] [] u (j9 v2 v3 u)) (u : Mm) : Gp Γ (QM Γ cvI) 45 [(0, .ref ((xE Γ).1 74)), (3, .int v3)] [.int s0, .int s1, .int s2] u (gX11_waitSum_45 j9 v3 s0 s1 s2 u) := by
  unfold gX11_waitSum_45
  refine g_imul C dX11_waitSum_45 rfl ?_
  refine g_iadd C dX11_waitSum_46 rfl ?_
  refine g_lets (fun v2_1 => ?_)
  refine g_istore_n (ls' := [(2, .int v2_1), (0, .ref ((xE Γ).1 74)), (3, .int v3)]) C dX11_waitSum_47 rfl L (by decide) rfl ?_
  refine g_iincL (fun v3_2 => [(3, .int v3_2), (2, .int v2_1), (0, .ref ((xE Γ).1 74))]) C dX11_waitSum_48 rfl L (by decide) (k := 2) rfl (iinc_1 _) (fun _ => rfl) (fun v3_2 => ?_)
  refine g_goto 9 C dX11_waitSum_51 rfl (by decide) ?_
  refine g_sub (ls' := [(0, .ref ((xE Γ).1 74)), (2, .int v2_1), (3, .int v3_2)]) [2, 1, 0] rfl ?_
  exact hj9 v2_1 v3_2 u
set_option maxRecDepth 20000 in
set_option maxHeartbeats 4000000 in
theorem pX11_waitSum_9s {Γ : GX} (C : Cx Γ RX11 cX11_waitSum 1) (M : Mx Γ (some .int)) (L : xn Γ = 4) {j9 : Int32 → Int32 → Mm → Option (Int32 × Mm)} (hj9 : ∀ (v2 : Int32) (v3 : Int32) (u : Mm), Gp Γ (QM Γ cvI) 9 [(0, .ref ((xE Γ).1 74)), (2, .int v2), (3, .int v3)] [] u (j9 v2 v3 u)) (v2 : Int32) (v3 : Int32) (u : Mm) : Gp Γ (QM Γ cvI) 9 [(0, .ref ((xE Γ).1 74)), (2, .int v2), (3, .int v3)] [] u (gX11_waitSum_9_Ls j9 v2 v3 u) := by
  unfold gX11_waitSum_9_Ls
  refine g_iload_n C dX11_waitSum_9 rfl 2 rfl ?_
  refine g_bipush (v := 8) C dX11_waitSum_10 rfl (by decide) ?_
  refine g_icmp_ge 54 C dX11_waitSum_12 rfl (by decide) (fun c1 => ?_) (fun c1 => ?_)
  · refine g_iload_n C dX11_waitSum_54 rfl 1 rfl ?_
    exact g_iret C M dX11_waitSum_55 rfl rfl
  · refine g_iload_n C dX11_waitSum_15 rfl 1 rfl ?_
    refine g_aload_n C dX11_waitSum_16 rfl 0 rfl ?_
    refine g_getR (k2 := 100) C dX11_waitSum_17 rfl rfl fi_11_57 ⟨by decide, by decide, rfl⟩ fl_X11_101 ?_
    refine g_iload_n C dX11_waitSum_20 rfl 2 rfl ?_
    refine g_gd (fun hi2 => ?_)
    refine g_iald C dX11_waitSum_21 rfl rfl rfl hi2 ?_
    refine g_aload_n C dX11_waitSum_22 rfl 0 rfl ?_
    refine g_getR (k2 := 96) C dX11_waitSum_23 rfl rfl fi_11_53 ⟨by decide, by decide, rfl⟩ fl_X11_89 ?_
    refine g_iload_n C dX11_waitSum_26 rfl 2 rfl ?_
    refine g_gd (fun hi3 => ?_)
    refine g_iald C dX11_waitSum_27 rfl rfl rfl hi3 ?_
    refine g_ldc_w (v := 99999) C dX11_waitSum_28 rfl (wm_41 18 rfl) ?_
    refine g_icmp_ge 43 C dX11_waitSum_31 rfl (by decide) (fun c4 => ?_) (fun c4 => ?_)
    · refine g_bipush (v := 99) C dX11_waitSum_43 rfl (by decide) ?_
      refine g_sub (ls' := [(0, .ref ((xE Γ).1 74)), (3, .int v3)]) [0, 2] rfl ?_
      exact pX11_waitSum_45 C M L v3 99 (u 100 (ixn v3)) v2 hj9 u
    · refine g_aload_n C dX11_waitSum_34 rfl 0 rfl ?_
      refine g_getR (k2 := 96) C dX11_waitSum_35 rfl rfl fi_11_53 ⟨by decide, by decide, rfl⟩ fl_X11_89 ?_
      refine g_iload_n C dX11_waitSum_38 rfl 2 rfl ?_
      refine g_gd (fun hi5 => ?_)
      refine g_iald C dX11_waitSum_39 rfl rfl rfl hi5 ?_
      refine g_goto 45 C dX11_waitSum_40 rfl (by decide) ?_
      refine g_sub (ls' := [(0, .ref ((xE Γ).1 74)), (3, .int v3)]) [0, 2] rfl ?_
      exact pX11_waitSum_45 C M L v3 (u 96 (ixn v3)) (u 100 (ixn v3)) v2 hj9 u
set_option maxRecDepth 20000 in
set_option maxHeartbeats 4000000 in
theorem pX11_waitSum_9 {Γ : GX} (C : Cx Γ RX11 cX11_waitSum 1) (M : Mx Γ (some .int)) (L : xn Γ = 4) : ∀ (n : Nat) (v2 : Int32) (v3 : Int32) (u : Mm), Gp Γ (QM Γ cvI) 9 [(0, .ref ((xE Γ).1 74)), (2, .int v2), (3, .int v3)] [] u (gX11_waitSum_9_L n v2 v3 u) := by
  intro n
  induction n with
  | zero => intro _ _ _; exact g_none
  | succ n ih => intro v2 v3 u; exact pX11_waitSum_9s C M L ih v2 v3 u

set_option maxRecDepth 20000 in
set_option maxHeartbeats 4000000 in
theorem pX11_waitSum_0 {Γ : GX} (C : Cx Γ RX11 cX11_waitSum 1) (M : Mx Γ (some .int)) (L : xn Γ = 4) (v1 : Int32) (u : Mm) : Gp Γ (QM Γ cvI) 0 [(0, .ref ((xE Γ).1 74)), (1, .int v1)] [] u (gX11_waitSum_b v1 u) := by
  unfold gX11_waitSum_b
  refine g_aload_n C dX11_waitSum_0 rfl 0 rfl ?_
  refine g_iload_n C dX11_waitSum_1 rfl 1 rfl ?_
  refine g_callV [.int v1] C dX11_waitSum_2 rfl (tX11_driveFrom (xl Γ) (xE Γ) v1 u) cf_X11_driveFrom rfl rfl ml_X11_338 rfl (by decide) (Nat.le_of_ble_eq_true rfl) rfl (fun u1 => ?_)
  refine g_iconst (v := 0) C dX11_waitSum_5 rfl (by decide) ?_
  refine g_istore_n (ls' := [(2, .int 0), (0, .ref ((xE Γ).1 74)), (1, .int v1)]) C dX11_waitSum_6 rfl L (by decide) rfl ?_
  refine g_iconst (v := 0) C dX11_waitSum_7 rfl (by decide) ?_
  refine g_istore_n (ls' := [(3, .int 0), (2, .int 0), (0, .ref ((xE Γ).1 74)), (1, .int v1)]) C dX11_waitSum_8 rfl L (by decide) rfl ?_
  refine g_sub (ls' := [(0, .ref ((xE Γ).1 74)), (2, .int 0), (3, .int 0)]) [2, 1, 0] rfl ?_
  exact pX11_waitSum_9 C M L FU 0 0 u1
set_option maxRecDepth 20000 in
set_option maxHeartbeats 4000000 in
theorem tX11_waitSum (l : Launch) (E : EE) (v1 : Int32) (u : Mm) : Ct l E yX11_waitSum cX11_waitSum 4 (some .int) 1 [.ref (E.1 74), .int v1] u cvI (gX11_waitSum v1 u) :=
  Ct_of (own := RX11) (by decide +kernel) rfl (Nat.le_of_ble_eq_true rfl) (fun p e R s m args below meth c C M => g_sub (ls' := [(0, .ref (E.1 74)), (1, .int v1)]) [0, 1] rfl (pX11_waitSum_0 C M rfl v1 u))
set_option maxRecDepth 20000 in
set_option maxHeartbeats 4000000 in
theorem pX11_waitBest_47 {Γ : GX} (C : Cx Γ RX11 cX11_waitBest 2) (M : Mx Γ (some .int)) (L : xn Γ = 5) (v1 : Int32) (v3 : Int32) (s0 : Int32) {j10 : Int32 → Int32 → Int32 → Mm → Option (Int32 × Mm)} (hj10 : ∀ (v1 : Int32) (v2 : Int32) (v3 : Int32) (u : Mm), Gp Γ (QM Γ cvI) 10 [(0, .ref ((xE Γ).1 74)), (1, .int v1), (2, .int v2), (3, .int v3)] [] u (j10 v1 v2 v3 u)) (u : Mm) : Gp Γ (QM Γ cvI) 47 [(0, .ref ((xE Γ).1 74)), (1, .int v1), (3, .int v3)] [.int s0] u (gX11_waitBest_47 j10 v1 v3 s0 u) := by
  unfold gX11_waitBest_47
  refine g_istore_n (ls' := [(2, .int s0), (0, .ref ((xE Γ).1 74)), (1, .int v1), (3, .int v3)]) C dX11_waitBest_47 rfl L (by decide) rfl ?_
  refine g_iincL (fun v3_1 => [(3, .int v3_1), (2, .int s0), (0, .ref ((xE Γ).1 74)), (1, .int v1)]) C dX11_waitBest_48 rfl L (by decide) (k := 3) rfl (iinc_1 _) (fun _ => rfl) (fun v3_1 => ?_)
  refine g_goto 10 C dX11_waitBest_51 rfl (by decide) ?_
  refine g_sub (ls' := [(0, .ref ((xE Γ).1 74)), (1, .int v1), (2, .int s0), (3, .int v3_1)]) [2, 3, 1, 0] rfl ?_
  exact hj10 v1 s0 v3_1 u
set_option maxRecDepth 20000 in
set_option maxHeartbeats 4000000 in
theorem pX11_waitBest_34 {Γ : GX} (C : Cx Γ RX11 cX11_waitBest 2) (M : Mx Γ (some .int)) (L : xn Γ = 5) (v2 : Int32) (v3 : Int32) (v4 : Int32) (s0 : Int32) {j10 : Int32 → Int32 → Int32 → Mm → Option (Int32 × Mm)} (hj10 : ∀ (v1 : Int32) (v2 : Int32) (v3 : Int32) (u : Mm), Gp Γ (QM Γ cvI) 10 [(0, .ref ((xE Γ).1 74)), (1, .int v1), (2, .int v2), (3, .int v3)] [] u (j10 v1 v2 v3 u)) (u : Mm) : Gp Γ (QM Γ cvI) 34 [(0, .ref ((xE Γ).1 74)), (2, .int v2), (3, .int v3), (4, .int v4)] [.int s0] u (gX11_waitBest_34 j10 v2 v3 v4 s0 u) := by
  unfold gX11_waitBest_34
  refine g_istore_n (ls' := [(1, .int s0), (0, .ref ((xE Γ).1 74)), (2, .int v2), (3, .int v3), (4, .int v4)]) C dX11_waitBest_34 rfl L (by decide) rfl ?_
  refine g_iload C dX11_waitBest_35 rfl 4 rfl ?_
  refine g_iload_n C dX11_waitBest_37 rfl 2 rfl ?_
  refine g_icmp_ge 46 C dX11_waitBest_38 rfl (by decide) (fun c1 => ?_) (fun c1 => ?_)
  · refine g_iload_n C dX11_waitBest_46 rfl 2 rfl ?_
    refine g_sub (ls' := [(0, .ref ((xE Γ).1 74)), (1, .int s0), (3, .int v3)]) [1, 0, 3] rfl ?_
    exact pX11_waitBest_47 C M L s0 v3 v2 hj10 u
  · refine g_iload C dX11_waitBest_41 rfl 4 rfl ?_
    refine g_goto 47 C dX11_waitBest_43 rfl (by decide) ?_
    refine g_sub (ls' := [(0, .ref ((xE Γ).1 74)), (1, .int s0), (3, .int v3)]) [1, 0, 3] rfl ?_
    exact pX11_waitBest_47 C M L s0 v3 v4 hj10 u
set_option maxRecDepth 20000 in
set_option maxHeartbeats 4000000 in
theorem pX11_waitBest_10s {Γ : GX} (C : Cx Γ RX11 cX11_waitBest 2) (M : Mx Γ (some .int)) (L : xn Γ = 5) {j10 : Int32 → Int32 → Int32 → Mm → Option (Int32 × Mm)} (hj10 : ∀ (v1 : Int32) (v2 : Int32) (v3 : Int32) (u : Mm), Gp Γ (QM Γ cvI) 10 [(0, .ref ((xE Γ).1 74)), (1, .int v1), (2, .int v2), (3, .int v3)] [] u (j10 v1 v2 v3 u)) (v1 : Int32) (v2 : Int32) (v3 : Int32) (u : Mm) : Gp Γ (QM Γ cvI) 10 [(0, .ref ((xE Γ).1 74)), (1, .int v1), (2, .int v2), (3, .int v3)] [] u (gX11_waitBest_10_Ls j10 v1 v2 v3 u) := by
  unfold gX11_waitBest_10_Ls
  refine g_iload_n C dX11_waitBest_10 rfl 3 rfl ?_
  refine g_bipush (v := 8) C dX11_waitBest_11 rfl (by decide) ?_
  refine g_icmp_ge 54 C dX11_waitBest_13 rfl (by decide) (fun c1 => ?_) (fun c1 => ?_)
  · refine g_iload_n C dX11_waitBest_54 rfl 1 rfl ?_
    exact g_iret C M dX11_waitBest_55 rfl rfl
  · refine g_aload_n C dX11_waitBest_16 rfl 0 rfl ?_
    refine g_iload_n C dX11_waitBest_17 rfl 3 rfl ?_
    refine g_callI [.int v3] C dX11_waitBest_18 rfl (tX11_waitSum (xl Γ) (xE Γ) v3 u) cf_X11_waitSum rfl rfl ml_X11_341 rfl (by decide) (Nat.le_of_ble_eq_true rfl) rfl (fun r3 u2 => ?_)
    refine g_istore (ls' := [(4, .int r3), (0, .ref ((xE Γ).1 74)), (1, .int v1), (2, .int v2), (3, .int v3)]) C dX11_waitBest_21 rfl L (by decide) rfl ?_
    refine g_iload C dX11_waitBest_23 rfl 0 rfl ?_
    refine g_iload_n C dX11_waitBest_25 rfl 3 rfl ?_
    refine g_icmp_ge 33 C dX11_waitBest_26 rfl (by decide) (fun c4 => ?_) (fun c4 => ?_)
    · refine g_iload_n C dX11_waitBest_33 rfl 2 rfl ?_
      refine g_sub (ls' := [(0, .ref ((xE Γ).1 74)), (2, .int v2), (3, .int v3), (4, .int r3)]) [1, 3, 4, 0] rfl ?_
      exact pX11_waitBest_34 C M L v2 v3 r3 v1 hj10 u2
    · refine g_iload_n C dX11_waitBest_29 rfl 4 rfl ?_
      refine g_goto 34 C dX11_waitBest_30 rfl (by decide) ?_
      refine g_sub (ls' := [(0, .ref ((xE Γ).1 74)), (2, .int v2), (3, .int v3), (4, .int r3)]) [1, 3, 4, 0] rfl ?_
      exact pX11_waitBest_34 C M L v2 v3 r3 v3 hj10 u2
set_option maxRecDepth 20000 in
set_option maxHeartbeats 4000000 in
theorem pX11_waitBest_10 {Γ : GX} (C : Cx Γ RX11 cX11_waitBest 2) (M : Mx Γ (some .int)) (L : xn Γ = 5) : ∀ (n : Nat) (v1 : Int32) (v2 : Int32) (v3 : Int32) (u : Mm), Gp Γ (QM Γ cvI) 10 [(0, .ref ((xE Γ).1 74)), (1, .int v1), (2, .int v2), (3, .int v3)] [] u (gX11_waitBest_10_L n v1 v2 v3 u) := by
  intro n
  induction n with
  | zero => intro _ _ _ _; exact g_none
  | succ n ih => intro v1 v2 v3 u; exact pX11_waitBest_10s C M L ih v1 v2 v3 u

set_option maxRecDepth 20000 in
set_option maxHeartbeats 4000000 in
theorem pX11_waitBest_0 {Γ : GX} (C : Cx Γ RX11 cX11_waitBest 2) (M : Mx Γ (some .int)) (L : xn Γ = 5) (u : Mm) : Gp Γ (QM Γ cvI) 0 [(0, .ref ((xE Γ).1 74))] [] u (gX11_waitBest_b u) := by
  unfold gX11_waitBest_b
  refine g_iconst (v := 0) C dX11_waitBest_0 rfl (by decide) ?_
  refine g_istore_n (ls' := [(1, .int 0), (0, .ref ((xE Γ).1 74))]) C dX11_waitBest_1 rfl L (by decide) rfl ?_
  refine g_aload_n C dX11_waitBest_2 rfl 1 rfl ?_
  refine g_iconst (v := 0) C dX11_waitBest_3 rfl (by decide) ?_
  refine g_callI [.int 0] C dX11_waitBest_4 rfl (tX11_waitSum (xl Γ) (xE Γ) 0 u) cf_X11_waitSum rfl rfl ml_X11_341 rfl (by decide) (Nat.le_of_ble_eq_true rfl) rfl (fun r2 u1 => ?_)
  refine g_istore_n (ls' := [(2, .int r2), (1, .int 0), (0, .ref ((xE Γ).1 74))]) C dX11_waitBest_7 rfl L (by decide) rfl ?_
  refine g_iconst (v := 1) C dX11_waitBest_8 rfl (by decide) ?_
  refine g_istore_n (ls' := [(3, .int 1), (2, .int r2), (1, .int 0), (0, .ref ((xE Γ).1 74))]) C dX11_waitBest_9 rfl L (by decide) rfl ?_
  refine g_sub (ls' := [(0, .ref ((xE Γ).1 74)), (1, .int 0), (2, .int r2), (3, .int 1)]) [3, 2, 1, 0] rfl ?_
  exact pX11_waitBest_10 C M L FU 0 r2 1 u1
set_option maxRecDepth 20000 in
set_option maxHeartbeats 4000000 in
theorem tX11_waitBest (l : Launch) (E : EE) (u : Mm) : Ct l E yX11_waitBest cX11_waitBest 5 (some .int) 2 [.ref (E.1 74)] u cvI (gX11_waitBest u) :=
  Ct_of (own := RX11) (by decide +kernel) rfl (Nat.le_of_ble_eq_true rfl) (fun p e R s m args below meth c C M => g_sub (ls' := [(0, .ref (E.1 74))]) [0] rfl (pX11_waitBest_0 C M rfl u))
set_option maxRecDepth 20000 in
set_option maxHeartbeats 4000000 in
theorem pX11_waitAt_0 {Γ : GX} (C : Cx Γ RX11 cX11_waitAt 3) (M : Mx Γ (some .int)) (L : xn Γ = 1) (u : Mm) : Gp Γ (QM Γ cvI) 0 [(0, .ref ((xE Γ).1 74))] [] u (gX11_waitAt_b u) := by
  unfold gX11_waitAt_b
  refine g_aload_n C dX11_waitAt_0 rfl 0 rfl ?_
  refine g_iconst (v := 0) C dX11_waitAt_1 rfl (by decide) ?_
  refine g_putI C dX11_waitAt_2 rfl rfl fp_11_19 rfl fl_X11_104 ?_
  refine g_letm (fun u1 => ?_)
  refine g_aload_n C dX11_waitAt_5 rfl 0 rfl ?_
  refine g_getI C dX11_waitAt_6 rfl rfl fi_11_58 rfl fl_X11_344 ?_
  refine g_bipush (v := 8) C dX11_waitAt_9 rfl (by decide) ?_
  refine g_icmp_ne 21 C dX11_waitAt_11 rfl (by decide) (fun c2 => ?_) (fun c2 => ?_)
  · refine g_aload_n C dX11_waitAt_21 rfl 0 rfl ?_
    refine g_bipush (v := (-3)) C dX11_waitAt_22 rfl (by decide) ?_
    refine g_callI [.int (-3)] C dX11_waitAt_24 rfl (tX11_refuse (xl Γ) (xE Γ) (-3) u1) cf_X11_refuse rfl rfl ml_X11_153 rfl (by decide) (Nat.le_of_ble_eq_true rfl) rfl (fun r4 u3 => ?_)
    exact g_iret C M dX11_waitAt_27 rfl rfl
  · refine g_aload_n C dX11_waitAt_14 rfl 0 rfl ?_
    refine g_callI [] C dX11_waitAt_15 rfl (tX11_waitBest (xl Γ) (xE Γ) u1) cf_X11_waitBest rfl rfl ml_X11_347 rfl (by decide) (Nat.le_of_ble_eq_true rfl) rfl (fun r6 u5 => ?_)
    refine g_goto 27 C dX11_waitAt_18 rfl (by decide) ?_
    exact g_iret C M dX11_waitAt_27 rfl rfl
set_option maxRecDepth 20000 in
set_option maxHeartbeats 4000000 in
theorem tX11_waitAt (l : Launch) (E : EE) (u : Mm) : Ct l E yX11_waitAt cX11_waitAt 1 (some .int) 3 [.ref (E.1 74)] u cvI (gX11_waitAt u) :=
  Ct_of (own := RX11) (by decide +kernel) rfl (Nat.le_of_ble_eq_true rfl) (fun p e R s m args below meth c C M => g_sub (ls' := [(0, .ref (E.1 74))]) [0] rfl (pX11_waitAt_0 C M rfl u))
set_option maxRecDepth 20000 in
set_option maxHeartbeats 4000000 in
theorem pX11_divisor_6s {Γ : GX} (C : Cx Γ RX11 cX11_divisor 0) (M : Mx Γ (some .long)) (L : xn Γ = 10) (u : Mm) {j6 : Int64 → Int64 → Option Int64} (hj6 : ∀ (v4 : Int64) (v6 : Int64), Gp Γ (QM Γ (cvL u)) 6 [(4, .long v4), (6, .long v6)] [] u (j6 v4 v6)) (v4 : Int64) (v6 : Int64) : Gp Γ (QM Γ (cvL u)) 6 [(4, .long v4), (6, .long v6)] [] u (gX11_divisor_6_Ls j6 v4 v6) := by
  unfold gX11_divisor_6_Ls
  refine g_lload C dX11_divisor_6 rfl 1 rfl ?_
  refine g_lconst (v := 0) C dX11_divisor_8 rfl (by decide) ?_
  refine g_lcmp C dX11_divisor_9 rfl ?_
  refine g_if_eq 31 C dX11_divisor_10 rfl (by decide) (fun c1 => ?_) (fun c1 => ?_)
  · refine g_lload C dX11_divisor_31 rfl 0 rfl ?_
    exact g_lret C M dX11_divisor_33 rfl rfl
  · refine g_lload C dX11_divisor_13 rfl 0 rfl ?_
    refine g_lload C dX11_divisor_15 rfl 1 rfl ?_
    refine g_gd (fun hz2 => ?_)
    refine g_lrem C dX11_divisor_17 rfl hz2 ?_
    refine g_letl (fun v8_3 => ?_)
    refine g_lstore (ls' := [(8, .long v8_3), (4, .long v4), (6, .long v6)]) C dX11_divisor_18 rfl L (by decide) rfl ?_
    refine g_lload C dX11_divisor_20 rfl 2 rfl ?_
    refine g_lstore (ls' := [(4, .long v6), (8, .long v8_3), (6, .long v6)]) C dX11_divisor_22 rfl L (by decide) rfl ?_
    refine g_lload C dX11_divisor_24 rfl 1 rfl ?_
    refine g_lstore (ls' := [(6, .long v8_3), (4, .long v6), (8, .long v8_3)]) C dX11_divisor_26 rfl L (by decide) rfl ?_
    refine g_goto 6 C dX11_divisor_28 rfl (by decide) ?_
    refine g_sub (ls' := [(4, .long v6), (6, .long v8_3)]) [1, 0] rfl ?_
    exact hj6 v6 v8_3
set_option maxRecDepth 20000 in
set_option maxHeartbeats 4000000 in
theorem pX11_divisor_6 {Γ : GX} (C : Cx Γ RX11 cX11_divisor 0) (M : Mx Γ (some .long)) (L : xn Γ = 10) (u : Mm) : ∀ (n : Nat) (v4 : Int64) (v6 : Int64), Gp Γ (QM Γ (cvL u)) 6 [(4, .long v4), (6, .long v6)] [] u (gX11_divisor_6_L n v4 v6) := by
  intro n
  induction n with
  | zero => intro _ _; exact g_none
  | succ n ih => intro v4 v6; exact pX11_divisor_6s C M L u ih v4 v6

set_option maxRecDepth 20000 in
set_option maxHeartbeats 4000000 in
theorem pX11_divisor_0 {Γ : GX} (C : Cx Γ RX11 cX11_divisor 0) (M : Mx Γ (some .long)) (L : xn Γ = 10) (u : Mm) (v0 : Int64) (v2 : Int64) : Gp Γ (QM Γ (cvL u)) 0 [(0, .long v0), (2, .long v2)] [] u (gX11_divisor_b v0 v2) := by
  unfold gX11_divisor_b
  refine g_lload_n C dX11_divisor_0 rfl 0 rfl ?_
  refine g_lstore (ls' := [(4, .long v0), (0, .long v0), (2, .long v2)]) C dX11_divisor_1 rfl L (by decide) rfl ?_
  refine g_lload_n C dX11_divisor_3 rfl 2 rfl ?_
  refine g_lstore (ls' := [(6, .long v2), (4, .long v0), (0, .long v0), (2, .long v2)]) C dX11_divisor_4 rfl L (by decide) rfl ?_
  refine g_sub (ls' := [(4, .long v0), (6, .long v2)]) [1, 0] rfl ?_
  exact pX11_divisor_6 C M L u FU v0 v2
set_option maxRecDepth 20000 in
set_option maxHeartbeats 4000000 in
theorem tX11_divisor (l : Launch) (E : EE) (v0 : Int64) (v2 : Int64) (u : Mm) : Ct l E yX11_divisor cX11_divisor 10 (some .long) 0 [.long v0, .long v2] u (cvL u) (gX11_divisor v0 v2) :=
  Ct_of (own := RX11) (by decide +kernel) rfl (Nat.le_of_ble_eq_true rfl) (fun p e R s m args below meth c C M => g_sub (ls' := [(0, .long v0), (2, .long v2)]) [0, 1] rfl (pX11_divisor_0 C M rfl u v0 v2))
set_option maxRecDepth 20000 in
set_option maxHeartbeats 4000000 in
theorem pX11_meanWait_57s {Γ : GX} (C : Cx Γ RX11 cX11_meanWait 3) (M : Mx Γ (some .long)) (L : xn Γ = 9) (v1 : Int32) (v3 : Int64) {j57 : Int64 → Int32 → Mm → Option (Int64 × Mm)} (hj57 : ∀ (v5 : Int64) (v7 : Int32) (u : Mm), Gp Γ (QM Γ cvJ) 57 [(0, .ref ((xE Γ).1 74)), (1, .int v1), (3, .long v3), (5, .long v5), (7, .int v7)] [] u (j57 v5 v7 u)) (v5 : Int64) (v7 : Int32) (u : Mm) : Gp Γ (QM Γ cvJ) 57 [(0, .ref ((xE Γ).1 74)), (1, .int v1), (3, .long v3), (5, .long v5), (7, .int v7)] [] u (gX11_meanWait_57_Ls v1 v3 j57 v5 v7 u) := by
  unfold gX11_meanWait_57_Ls
  refine g_iload C dX11_meanWait_57 rfl 4 rfl ?_
  refine g_bipush (v := 8) C dX11_meanWait_59 rfl (by decide) ?_
  refine g_icmp_ge 83 C dX11_meanWait_61 rfl (by decide) (fun c1 => ?_) (fun c1 => ?_)
  · refine g_lload_n C dX11_meanWait_83 rfl 2 rfl ?_
    refine g_lconst (v := 0) C dX11_meanWait_84 rfl (by decide) ?_
    refine g_lcmp C dX11_meanWait_85 rfl ?_
    refine g_if_ne 92 C dX11_meanWait_86 rfl (by decide) (fun c2 => ?_) (fun c2 => ?_)
    · refine g_lload_n C dX11_meanWait_92 rfl 2 rfl ?_
      refine g_lload C dX11_meanWait_93 rfl 3 rfl ?_
      refine g_callsL [.long v3, .long v5] C dX11_meanWait_95 rfl (tX11_divisor (xl Γ) (xE Γ) v3 v5 u) cf_X11_divisor ml_X11_352 rfl (by decide) (Nat.le_of_ble_eq_true rfl) rfl (fun r3 => ?_)
      refine g_lstore (ls' := [(7, .long r3), (0, .ref ((xE Γ).1 74)), (1, .int v1), (3, .long v3), (5, .long v5)]) C dX11_meanWait_98 rfl L (by decide) rfl ?_
      refine g_iload_n C dX11_meanWait_100 rfl 2 rfl ?_
      refine g_if_ne 111 C dX11_meanWait_101 rfl (by decide) (fun c4 => ?_) (fun c4 => ?_)
      · refine g_lload C dX11_meanWait_111 rfl 4 rfl ?_
        refine g_lload C dX11_meanWait_113 rfl 0 rfl ?_
        refine g_gd (fun hz5 => ?_)
        refine g_ldiv C dX11_meanWait_115 rfl hz5 ?_
        exact g_lret C M dX11_meanWait_116 rfl rfl
      · refine g_lload_n C dX11_meanWait_104 rfl 3 rfl ?_
        refine g_lload C dX11_meanWait_105 rfl 0 rfl ?_
        refine g_gd (fun hz6 => ?_)
        refine g_ldiv C dX11_meanWait_107 rfl hz6 ?_
        refine g_goto 116 C dX11_meanWait_108 rfl (by decide) ?_
        exact g_lret C M dX11_meanWait_116 rfl rfl
    · refine g_iload_n C dX11_meanWait_89 rfl 1 rfl ?_
      refine g_i2l C dX11_meanWait_90 rfl ?_
      exact g_lret C M dX11_meanWait_91 rfl rfl
  · refine g_lload C dX11_meanWait_64 rfl 3 rfl ?_
    refine g_aload_n C dX11_meanWait_66 rfl 0 rfl ?_
    refine g_getR (k2 := 100) C dX11_meanWait_67 rfl rfl fi_11_57 ⟨by decide, by decide, rfl⟩ fl_X11_101 ?_
    refine g_iload C dX11_meanWait_70 rfl 4 rfl ?_
    refine g_gd (fun hi7 => ?_)
    refine g_iald C dX11_meanWait_72 rfl rfl rfl hi7 ?_
    refine g_i2l C dX11_meanWait_73 rfl ?_
    refine g_ladd C dX11_meanWait_74 rfl ?_
    refine g_letl (fun v5_8 => ?_)
    refine g_lstore (ls' := [(5, .long v5_8), (0, .ref ((xE Γ).1 74)), (1, .int v1), (3, .long v3), (7, .int v7)]) C dX11_meanWait_75 rfl L (by decide) rfl ?_
    refine g_iincL (fun v7_9 => [(7, .int v7_9), (5, .long v5_8), (0, .ref ((xE Γ).1 74)), (1, .int v1), (3, .long v3)]) C dX11_meanWait_77 rfl L (by decide) (k := 4) rfl (iinc_1 _) (fun _ => rfl) (fun v7_9 => ?_)
    refine g_goto 57 C dX11_meanWait_80 rfl (by decide) ?_
    refine g_sub (ls' := [(0, .ref ((xE Γ).1 74)), (1, .int v1), (3, .long v3), (5, .long v5_8), (7, .int v7_9)]) [2, 3, 4, 1, 0] rfl ?_
    exact hj57 v5_8 v7_9 u
set_option maxRecDepth 20000 in
set_option maxHeartbeats 4000000 in
theorem pX11_meanWait_57 {Γ : GX} (C : Cx Γ RX11 cX11_meanWait 3) (M : Mx Γ (some .long)) (L : xn Γ = 9) (v1 : Int32) (v3 : Int64) : ∀ (n : Nat) (v5 : Int64) (v7 : Int32) (u : Mm), Gp Γ (QM Γ cvJ) 57 [(0, .ref ((xE Γ).1 74)), (1, .int v1), (3, .long v3), (5, .long v5), (7, .int v7)] [] u (gX11_meanWait_57_L v1 v3 n v5 v7 u) := by
  intro n
  induction n with
  | zero => intro _ _ _; exact g_none
  | succ n ih => intro v5 v7 u; exact pX11_meanWait_57s C M L v1 v3 ih v5 v7 u

set_option maxRecDepth 20000 in
set_option maxHeartbeats 4000000 in
theorem pX11_meanWait_25 {Γ : GX} (C : Cx Γ RX11 cX11_meanWait 3) (M : Mx Γ (some .long)) (L : xn Γ = 9) (v1 : Int32) (s0 : Int32) (u : Mm) : Gp Γ (QM Γ cvJ) 25 [(0, .ref ((xE Γ).1 74)), (1, .int v1)] [.int s0] u (gX11_meanWait_25 v1 s0 u) := by
  unfold gX11_meanWait_25
  refine g_istore_n (ls' := [(2, .int s0), (0, .ref ((xE Γ).1 74)), (1, .int v1)]) C dX11_meanWait_25 rfl L (by decide) rfl ?_
  refine g_iload_n C dX11_meanWait_26 rfl 0 rfl ?_
  refine g_if_ge 41 C dX11_meanWait_27 rfl (by decide) (fun c1 => ?_) (fun c1 => ?_)
  · refine g_aload_n C dX11_meanWait_41 rfl 1 rfl ?_
    refine g_aload_n C dX11_meanWait_42 rfl 1 rfl ?_
    refine g_callI [] C dX11_meanWait_43 rfl (tX11_waitBest (xl Γ) (xE Γ) u) cf_X11_waitBest rfl rfl ml_X11_347 rfl (by decide) (Nat.le_of_ble_eq_true rfl) rfl (fun r3 u2 => ?_)
    refine g_callI [.int r3] C dX11_meanWait_46 rfl (tX11_waitSum (xl Γ) (xE Γ) r3 u2) cf_X11_waitSum rfl rfl ml_X11_341 rfl (by decide) (Nat.le_of_ble_eq_true rfl) rfl (fun r5 u4 => ?_)
    refine g_i2l C dX11_meanWait_49 rfl ?_
    refine g_letl (fun v3_6 => ?_)
    refine g_lstore_n (ls' := [(3, .long v3_6), (2, .int s0), (0, .ref ((xE Γ).1 74)), (1, .int v1)]) C dX11_meanWait_50 rfl L (by decide) rfl ?_
    refine g_lconst (v := 0) C dX11_meanWait_51 rfl (by decide) ?_
    refine g_lstore (ls' := [(5, .long 0), (3, .long v3_6), (2, .int s0), (0, .ref ((xE Γ).1 74)), (1, .int v1)]) C dX11_meanWait_52 rfl L (by decide) rfl ?_
    refine g_iconst (v := 0) C dX11_meanWait_54 rfl (by decide) ?_
    refine g_istore (ls' := [(7, .int 0), (5, .long 0), (3, .long v3_6), (2, .int s0), (0, .ref ((xE Γ).1 74)), (1, .int v1)]) C dX11_meanWait_55 rfl L (by decide) rfl ?_
    refine g_sub (ls' := [(0, .ref ((xE Γ).1 74)), (1, .int v1), (3, .long v3_6), (5, .long 0), (7, .int 0)]) [4, 5, 2, 1, 0] rfl ?_
    exact pX11_meanWait_57 C M L v1 v3_6 FU 0 0 u4
  · refine g_ldc2_w (v := 4000000000000000000) C dX11_meanWait_30 rfl (wm_43 20 rfl) ?_
    refine g_aload_n C dX11_meanWait_33 rfl 1 rfl ?_
    refine g_iload_n C dX11_meanWait_34 rfl 0 rfl ?_
    refine g_callI [.int s0] C dX11_meanWait_35 rfl (tX11_refuse (xl Γ) (xE Γ) s0 u) cf_X11_refuse rfl rfl ml_X11_153 rfl (by decide) (Nat.le_of_ble_eq_true rfl) rfl (fun r8 u7 => ?_)
    refine g_i2l C dX11_meanWait_38 rfl ?_
    refine g_lsub C dX11_meanWait_39 rfl ?_
    exact g_lret C M dX11_meanWait_40 rfl rfl
set_option maxRecDepth 20000 in
set_option maxHeartbeats 4000000 in
theorem pX11_meanWait_0 {Γ : GX} (C : Cx Γ RX11 cX11_meanWait 3) (M : Mx Γ (some .long)) (L : xn Γ = 9) (v1 : Int32) (u : Mm) : Gp Γ (QM Γ cvJ) 0 [(0, .ref ((xE Γ).1 74)), (1, .int v1)] [] u (gX11_meanWait_b v1 u) := by
  unfold gX11_meanWait_b
  refine g_aload_n C dX11_meanWait_0 rfl 0 rfl ?_
  refine g_iconst (v := 0) C dX11_meanWait_1 rfl (by decide) ?_
  refine g_putI C dX11_meanWait_2 rfl rfl fp_11_19 rfl fl_X11_104 ?_
  refine g_letm (fun u1 => ?_)
  refine g_aload_n C dX11_meanWait_5 rfl 0 rfl ?_
  refine g_getI C dX11_meanWait_6 rfl rfl fi_11_58 rfl fl_X11_344 ?_
  refine g_bipush (v := 8) C dX11_meanWait_9 rfl (by decide) ?_
  refine g_icmp_eq 19 C dX11_meanWait_11 rfl (by decide) (fun c2 => ?_) (fun c2 => ?_)
  · refine g_iconst (v := 0) C dX11_meanWait_19 rfl (by decide) ?_
    refine g_iload_n C dX11_meanWait_20 rfl 1 rfl ?_
    refine g_iconst (v := 1) C dX11_meanWait_21 rfl (by decide) ?_
    refine g_callsP [.int 0, .int v1, .int 1] C dX11_meanWait_22 rfl (tX11_wrongBit (xl Γ) (xE Γ) 0 v1 1 u1) cf_X11_wrongBit ml_X11_288 rfl (by decide) (Nat.le_of_ble_eq_true rfl) rfl (fun r3 => ?_)
    exact pX11_meanWait_25 C M L v1 r3 u1
  · refine g_bipush (v := (-3)) C dX11_meanWait_14 rfl (by decide) ?_
    refine g_goto 25 C dX11_meanWait_16 rfl (by decide) ?_
    exact pX11_meanWait_25 C M L v1 (-3) u1
set_option maxRecDepth 20000 in
set_option maxHeartbeats 4000000 in
theorem tX11_meanWait (l : Launch) (E : EE) (v1 : Int32) (u : Mm) : Ct l E yX11_meanWait cX11_meanWait 9 (some .long) 3 [.ref (E.1 74), .int v1] u cvJ (gX11_meanWait v1 u) :=
  Ct_of (own := RX11) (by decide +kernel) rfl (Nat.le_of_ble_eq_true rfl) (fun p e R s m args below meth c C M => g_sub (ls' := [(0, .ref (E.1 74)), (1, .int v1)]) [0, 1] rfl (pX11_meanWait_0 C M rfl v1 u))
set_option maxRecDepth 20000 in
set_option maxHeartbeats 4000000 in
theorem pX11_turned_24 {Γ : GX} (C : Cx Γ RX11 cX11_turned 2) (M : Mx Γ (some .int)) (L : xn Γ = 5) (u : Mm) : Gp Γ (QM Γ cvI) 24 [(0, .ref ((xE Γ).1 74))] [] u (gX11_turned_24 u) := by
  unfold gX11_turned_24
  refine g_aload_n C dX11_turned_24 rfl 0 rfl ?_
  refine g_iconst (v := (-1)) C dX11_turned_25 rfl (by decide) ?_
  refine g_callI [.int (-1)] C dX11_turned_26 rfl (tX11_refuse (xl Γ) (xE Γ) (-1) u) cf_X11_refuse rfl rfl ml_X11_153 rfl (by decide) (Nat.le_of_ble_eq_true rfl) rfl (fun r2 u1 => ?_)
  exact g_iret C M dX11_turned_29 rfl rfl
set_option maxRecDepth 20000 in
set_option maxHeartbeats 4000000 in
theorem pX11_turned_0 {Γ : GX} (C : Cx Γ RX11 cX11_turned 2) (M : Mx Γ (some .int)) (L : xn Γ = 5) (v1 : Int32) (v2 : Int32) (u : Mm) : Gp Γ (QM Γ cvI) 0 [(0, .ref ((xE Γ).1 74)), (1, .int v1), (2, .int v2)] [] u (gX11_turned_b v1 v2 u) := by
  unfold gX11_turned_b
  refine g_aload_n C dX11_turned_0 rfl 0 rfl ?_
  refine g_iconst (v := 0) C dX11_turned_1 rfl (by decide) ?_
  refine g_putI C dX11_turned_2 rfl rfl fp_11_19 rfl fl_X11_104 ?_
  refine g_letm (fun u1 => ?_)
  refine g_iload_n C dX11_turned_5 rfl 1 rfl ?_
  refine g_callsP [.int v1] C dX11_turned_6 rfl (tX11_isPlace (xl Γ) (xE Γ) v1 u1) cf_X11_isPlace ml_X11_202 rfl (by decide) (Nat.le_of_ble_eq_true rfl) rfl (fun r2 => ?_)
  refine g_if_eq 24 C dX11_turned_9 rfl (by decide) (fun c3 => ?_) (fun c3 => ?_)
  · refine g_sub (ls' := [(0, .ref ((xE Γ).1 74))]) [0] rfl ?_
    exact pX11_turned_24 C M L u1
  · refine g_iload_n C dX11_turned_12 rfl 2 rfl ?_
    refine g_callsP [.int v2] C dX11_turned_13 rfl (tX11_isPlace (xl Γ) (xE Γ) v2 u1) cf_X11_isPlace ml_X11_202 rfl (by decide) (Nat.le_of_ble_eq_true rfl) rfl (fun r4 => ?_)
    refine g_if_eq 24 C dX11_turned_16 rfl (by decide) (fun c5 => ?_) (fun c5 => ?_)
    · refine g_sub (ls' := [(0, .ref ((xE Γ).1 74))]) [0] rfl ?_
      exact pX11_turned_24 C M L u1
    · refine g_iload_n C dX11_turned_19 rfl 1 rfl ?_
      refine g_iload_n C dX11_turned_20 rfl 2 rfl ?_
      refine g_icmp_ne 30 C dX11_turned_21 rfl (by decide) (fun c6 => ?_) (fun c6 => ?_)
      · refine g_aload_n C dX11_turned_30 rfl 0 rfl ?_
        refine g_getR (k2 := 83) C dX11_turned_31 rfl rfl fi_11_17 ⟨by decide, by decide, rfl⟩ fl_X11_50 ?_
        refine g_bipush (v := 8) C dX11_turned_34 rfl (by decide) ?_
        refine g_iload_n C dX11_turned_36 rfl 1 rfl ?_
        refine g_imul C dX11_turned_37 rfl ?_
        refine g_iload_n C dX11_turned_38 rfl 2 rfl ?_
        refine g_iadd C dX11_turned_39 rfl ?_
        refine g_gd (fun hi7 => ?_)
        refine g_iald C dX11_turned_40 rfl rfl rfl hi7 ?_
        refine g_lets (fun v3_8 => ?_)
        refine g_istore_n (ls' := [(3, .int v3_8), (0, .ref ((xE Γ).1 74)), (1, .int v1), (2, .int v2)]) C dX11_turned_41 rfl L (by decide) rfl ?_
        refine g_iload_n C dX11_turned_42 rfl 0 rfl ?_
        refine g_if_ne 49 C dX11_turned_43 rfl (by decide) (fun c9 => ?_) (fun c9 => ?_)
        · refine g_aload_n C dX11_turned_49 rfl 1 rfl ?_
          refine g_iload_n C dX11_turned_50 rfl 2 rfl ?_
          refine g_callV [.int v1] C dX11_turned_51 rfl (tX11_driveFrom (xl Γ) (xE Γ) v1 u1) cf_X11_driveFrom rfl rfl ml_X11_338 rfl (by decide) (Nat.le_of_ble_eq_true rfl) rfl (fun u10 => ?_)
          refine g_aload_n C dX11_turned_54 rfl 1 rfl ?_
          refine g_getR (k2 := 96) C dX11_turned_55 rfl rfl fi_11_53 ⟨by decide, by decide, rfl⟩ fl_X11_89 ?_
          refine g_iload_n C dX11_turned_58 rfl 3 rfl ?_
          refine g_gd (fun hi11 => ?_)
          refine g_iald C dX11_turned_59 rfl rfl rfl hi11 ?_
          refine g_lets (fun v4_12 => ?_)
          refine g_istore (ls' := [(4, .int v4_12), (3, .int v3_8), (0, .ref ((xE Γ).1 74)), (1, .int v1), (2, .int v2)]) C dX11_turned_60 rfl L (by decide) rfl ?_
          refine g_aload_n C dX11_turned_62 rfl 2 rfl ?_
          refine g_iload_n C dX11_turned_63 rfl 3 rfl ?_
          refine g_iload_n C dX11_turned_64 rfl 4 rfl ?_
          refine g_iconst (v := 0) C dX11_turned_65 rfl (by decide) ?_
          refine g_callV [.int v1, .int v2, .int 0] C dX11_turned_66 rfl (tX11_putRoad (xl Γ) (xE Γ) v1 v2 0 u10) cf_X11_putRoad rfl rfl ml_X11_205 rfl (by decide) (Nat.le_of_ble_eq_true rfl) rfl (fun u13 => ?_)
          refine g_aload_n C dX11_turned_69 rfl 2 rfl ?_
          refine g_iload_n C dX11_turned_70 rfl 3 rfl ?_
          refine g_callV [.int v1] C dX11_turned_71 rfl (tX11_driveFrom (xl Γ) (xE Γ) v1 u13) cf_X11_driveFrom rfl rfl ml_X11_338 rfl (by decide) (Nat.le_of_ble_eq_true rfl) rfl (fun u14 => ?_)
          refine g_aload_n C dX11_turned_74 rfl 2 rfl ?_
          refine g_iload_n C dX11_turned_75 rfl 3 rfl ?_
          refine g_iload_n C dX11_turned_76 rfl 4 rfl ?_
          refine g_iload_n C dX11_turned_77 rfl 1 rfl ?_
          refine g_callV [.int v1, .int v2, .int v3_8] C dX11_turned_78 rfl (tX11_putRoad (xl Γ) (xE Γ) v1 v2 v3_8 u14) cf_X11_putRoad rfl rfl ml_X11_205 rfl (by decide) (Nat.le_of_ble_eq_true rfl) rfl (fun u15 => ?_)
          refine g_aload_n C dX11_turned_81 rfl 2 rfl ?_
          refine g_getR (k2 := 96) C dX11_turned_82 rfl rfl fi_11_53 ⟨by decide, by decide, rfl⟩ fl_X11_89 ?_
          refine g_iload_n C dX11_turned_85 rfl 4 rfl ?_
          refine g_gd (fun hi16 => ?_)
          refine g_iald C dX11_turned_86 rfl rfl rfl hi16 ?_
          refine g_ldc_w (v := 99999) C dX11_turned_87 rfl (wm_41 18 rfl) ?_
          refine g_icmp_ge 105 C dX11_turned_90 rfl (by decide) (fun c17 => ?_) (fun c17 => ?_)
          · refine g_bipush (v := (-9)) C dX11_turned_105 rfl (by decide) ?_
            exact g_iret C M dX11_turned_107 rfl rfl
          · refine g_aload_n C dX11_turned_93 rfl 2 rfl ?_
            refine g_getR (k2 := 96) C dX11_turned_94 rfl rfl fi_11_53 ⟨by decide, by decide, rfl⟩ fl_X11_89 ?_
            refine g_iload_n C dX11_turned_97 rfl 4 rfl ?_
            refine g_gd (fun hi18 => ?_)
            refine g_iald C dX11_turned_98 rfl rfl rfl hi18 ?_
            refine g_iload C dX11_turned_99 rfl 0 rfl ?_
            refine g_isub C dX11_turned_101 rfl ?_
            refine g_goto 107 C dX11_turned_102 rfl (by decide) ?_
            exact g_iret C M dX11_turned_107 rfl rfl
        · refine g_bipush (v := (-9)) C dX11_turned_46 rfl (by decide) ?_
          exact g_iret C M dX11_turned_48 rfl rfl
      · refine g_sub (ls' := [(0, .ref ((xE Γ).1 74))]) [0] rfl ?_
        exact pX11_turned_24 C M L u1
set_option maxRecDepth 20000 in
set_option maxHeartbeats 4000000 in
theorem tX11_turned (l : Launch) (E : EE) (v1 : Int32) (v2 : Int32) (u : Mm) : Ct l E yX11_turned cX11_turned 5 (some .int) 2 [.ref (E.1 74), .int v1, .int v2] u cvI (gX11_turned v1 v2 u) :=
  Ct_of (own := RX11) (by decide +kernel) rfl (Nat.le_of_ble_eq_true rfl) (fun p e R s m args below meth c C M => g_sub (ls' := [(0, .ref (E.1 74)), (1, .int v1), (2, .int v2)]) [0, 1, 2] rfl (pX11_turned_0 C M rfl v1 v2 u))
set_option maxRecDepth 20000 in
set_option maxHeartbeats 4000000 in
theorem pX11_crew_111 {Γ : GX} (C : Cx Γ RX11 cX11_crew 6) (M : Mx Γ (some .int)) (L : xn Γ = 7) (v1 : Int32) (v2 : Int32) (v3 : Int32) (v5 : Int32) (s0 : Int32) {j37 : Int32 → Int32 → Int32 → Mm → Option (Int32 × Mm)} (hj37 : ∀ (v3 : Int32) (v4 : Int32) (v5 : Int32) (u : Mm), Gp Γ (QM Γ cvI) 37 [(0, .ref ((xE Γ).1 74)), (1, .int v1), (2, .int v2), (3, .int v3), (4, .int v4), (5, .int v5)] [] u (j37 v3 v4 v5 u)) (u : Mm) : Gp Γ (QM Γ cvI) 111 [(0, .ref ((xE Γ).1 74)), (1, .int v1), (2, .int v2), (3, .int v3), (5, .int v5)] [.int s0] u (gX11_crew_111 j37 v1 v2 v3 v5 s0 u) := by
  unfold gX11_crew_111
  refine g_istore (ls' := [(4, .int s0), (0, .ref ((xE Γ).1 74)), (1, .int v1), (2, .int v2), (3, .int v3), (5, .int v5)]) C dX11_crew_111 rfl L (by decide) rfl ?_
  refine g_iincL (fun v5_1 => [(5, .int v5_1), (4, .int s0), (0, .ref ((xE Γ).1 74)), (1, .int v1), (2, .int v2), (3, .int v3)]) C dX11_crew_113 rfl L (by decide) (k := 5) rfl (iinc_1 _) (fun _ => rfl) (fun v5_1 => ?_)
  refine g_goto 37 C dX11_crew_116 rfl (by decide) ?_
  refine g_sub (ls' := [(0, .ref ((xE Γ).1 74)), (1, .int v1), (2, .int v2), (3, .int v3), (4, .int s0), (5, .int v5_1)]) [2, 3, 4, 5, 1, 0] rfl ?_
  exact hj37 v3 s0 v5_1 u
set_option maxRecDepth 20000 in
set_option maxHeartbeats 4000000 in
theorem pX11_crew_96 {Γ : GX} (C : Cx Γ RX11 cX11_crew 6) (M : Mx Γ (some .int)) (L : xn Γ = 7) (v1 : Int32) (v2 : Int32) (v4 : Int32) (v5 : Int32) (v6 : Int32) (s0 : Int32) {j37 : Int32 → Int32 → Int32 → Mm → Option (Int32 × Mm)} (hj37 : ∀ (v3 : Int32) (v4 : Int32) (v5 : Int32) (u : Mm), Gp Γ (QM Γ cvI) 37 [(0, .ref ((xE Γ).1 74)), (1, .int v1), (2, .int v2), (3, .int v3), (4, .int v4), (5, .int v5)] [] u (j37 v3 v4 v5 u)) (u : Mm) : Gp Γ (QM Γ cvI) 96 [(0, .ref ((xE Γ).1 74)), (1, .int v1), (2, .int v2), (4, .int v4), (5, .int v5), (6, .int v6)] [.int s0] u (gX11_crew_96 j37 v1 v2 v4 v5 v6 s0 u) := by
  unfold gX11_crew_96
  refine g_istore_n (ls' := [(3, .int s0), (0, .ref ((xE Γ).1 74)), (1, .int v1), (2, .int v2), (4, .int v4), (5, .int v5), (6, .int v6)]) C dX11_crew_96 rfl L (by decide) rfl ?_
  refine g_iload C dX11_crew_97 rfl 6 rfl ?_
  refine g_if_eq 109 C dX11_crew_99 rfl (by decide) (fun c1 => ?_) (fun c1 => ?_)
  · refine g_iload C dX11_crew_109 rfl 4 rfl ?_
    refine g_sub (ls' := [(0, .ref ((xE Γ).1 74)), (1, .int v1), (2, .int v2), (3, .int s0), (5, .int v5)]) [1, 2, 3, 0, 5] rfl ?_
    exact pX11_crew_111 C M L v1 v2 s0 v5 v4 hj37 u
  · refine g_aload_n C dX11_crew_102 rfl 1 rfl ?_
    refine g_getI C dX11_crew_103 rfl rfl fi_11_48 rfl fl_X11_316 ?_
    refine g_goto 111 C dX11_crew_106 rfl (by decide) ?_
    refine g_sub (ls' := [(0, .ref ((xE Γ).1 74)), (1, .int v1), (2, .int v2), (3, .int s0), (5, .int v5)]) [1, 2, 3, 0, 5] rfl ?_
    exact pX11_crew_111 C M L v1 v2 s0 v5 (u 74 48) hj37 u
set_option maxRecDepth 20000 in
set_option maxHeartbeats 4000000 in
theorem pX11_crew_83 {Γ : GX} (C : Cx Γ RX11 cX11_crew 6) (M : Mx Γ (some .int)) (L : xn Γ = 7) (v1 : Int32) (v2 : Int32) (v3 : Int32) (v4 : Int32) (v5 : Int32) (s0 : Int32) {j37 : Int32 → Int32 → Int32 → Mm → Option (Int32 × Mm)} (hj37 : ∀ (v3 : Int32) (v4 : Int32) (v5 : Int32) (u : Mm), Gp Γ (QM Γ cvI) 37 [(0, .ref ((xE Γ).1 74)), (1, .int v1), (2, .int v2), (3, .int v3), (4, .int v4), (5, .int v5)] [] u (j37 v3 v4 v5 u)) (u : Mm) : Gp Γ (QM Γ cvI) 83 [(0, .ref ((xE Γ).1 74)), (1, .int v1), (2, .int v2), (3, .int v3), (4, .int v4), (5, .int v5)] [.int s0] u (gX11_crew_83 j37 v1 v2 v3 v4 v5 s0 u) := by
  unfold gX11_crew_83
  refine g_istore (ls' := [(6, .int s0), (0, .ref ((xE Γ).1 74)), (1, .int v1), (2, .int v2), (3, .int v3), (4, .int v4), (5, .int v5)]) C dX11_crew_83 rfl L (by decide) rfl ?_
  refine g_iload C dX11_crew_85 rfl 0 rfl ?_
  refine g_if_eq 95 C dX11_crew_87 rfl (by decide) (fun c1 => ?_) (fun c1 => ?_)
  · refine g_iload_n C dX11_crew_95 rfl 4 rfl ?_
    refine g_sub (ls' := [(0, .ref ((xE Γ).1 74)), (1, .int v1), (2, .int v2), (4, .int v4), (5, .int v5), (6, .int s0)]) [1, 2, 3, 5, 6, 0] rfl ?_
    exact pX11_crew_96 C M L v1 v2 v4 v5 s0 v3 hj37 u
  · refine g_iload C dX11_crew_90 rfl 6 rfl ?_
    refine g_goto 96 C dX11_crew_92 rfl (by decide) ?_
    refine g_sub (ls' := [(0, .ref ((xE Γ).1 74)), (1, .int v1), (2, .int v2), (4, .int v4), (5, .int v5), (6, .int s0)]) [1, 2, 3, 5, 6, 0] rfl ?_
    exact pX11_crew_96 C M L v1 v2 v4 v5 s0 v5 hj37 u
set_option maxRecDepth 20000 in
set_option maxHeartbeats 4000000 in
theorem pX11_crew_78 {Γ : GX} (C : Cx Γ RX11 cX11_crew 6) (M : Mx Γ (some .int)) (L : xn Γ = 7) (v1 : Int32) (v2 : Int32) (v3 : Int32) (v4 : Int32) (v5 : Int32) {j37 : Int32 → Int32 → Int32 → Mm → Option (Int32 × Mm)} (hj37 : ∀ (v3 : Int32) (v4 : Int32) (v5 : Int32) (u : Mm), Gp Γ (QM Γ cvI) 37 [(0, .ref ((xE Γ).1 74)), (1, .int v1), (2, .int v2), (3, .int v3), (4, .int v4), (5, .int v5)] [] u (j37 v3 v4 v5 u)) (u : Mm) : Gp Γ (QM Γ cvI) 78 [(0, .ref ((xE Γ).1 74)), (1, .int v1), (2, .int v2), (3, .int v3), (4, .int v4), (5, .int v5)] [] u (gX11_crew_78 j37 v1 v2 v3 v4 v5 u) := by
  unfold gX11_crew_78
  refine g_iconst (v := 1) C dX11_crew_78 rfl (by decide) ?_
  refine g_goto 83 C dX11_crew_79 rfl (by decide) ?_
  exact pX11_crew_83 C M L v1 v2 v3 v4 v5 1 hj37 u
set_option maxRecDepth 20000 in
set_option maxHeartbeats 4000000 in
theorem pX11_crew_82 {Γ : GX} (C : Cx Γ RX11 cX11_crew 6) (M : Mx Γ (some .int)) (L : xn Γ = 7) (v1 : Int32) (v2 : Int32) (v3 : Int32) (v4 : Int32) (v5 : Int32) {j37 : Int32 → Int32 → Int32 → Mm → Option (Int32 × Mm)} (hj37 : ∀ (v3 : Int32) (v4 : Int32) (v5 : Int32) (u : Mm), Gp Γ (QM Γ cvI) 37 [(0, .ref ((xE Γ).1 74)), (1, .int v1), (2, .int v2), (3, .int v3), (4, .int v4), (5, .int v5)] [] u (j37 v3 v4 v5 u)) (u : Mm) : Gp Γ (QM Γ cvI) 82 [(0, .ref ((xE Γ).1 74)), (1, .int v1), (2, .int v2), (3, .int v3), (4, .int v4), (5, .int v5)] [] u (gX11_crew_82 j37 v1 v2 v3 v4 v5 u) := by
  unfold gX11_crew_82
  refine g_iconst (v := 0) C dX11_crew_82 rfl (by decide) ?_
  exact pX11_crew_83 C M L v1 v2 v3 v4 v5 0 hj37 u
set_option maxRecDepth 20000 in
set_option maxHeartbeats 4000000 in
theorem pX11_crew_37s {Γ : GX} (C : Cx Γ RX11 cX11_crew 6) (M : Mx Γ (some .int)) (L : xn Γ = 7) (v1 : Int32) (v2 : Int32) {j37 : Int32 → Int32 → Int32 → Mm → Option (Int32 × Mm)} (hj37 : ∀ (v3 : Int32) (v4 : Int32) (v5 : Int32) (u : Mm), Gp Γ (QM Γ cvI) 37 [(0, .ref ((xE Γ).1 74)), (1, .int v1), (2, .int v2), (3, .int v3), (4, .int v4), (5, .int v5)] [] u (j37 v3 v4 v5 u)) (v3 : Int32) (v4 : Int32) (v5 : Int32) (u : Mm) : Gp Γ (QM Γ cvI) 37 [(0, .ref ((xE Γ).1 74)), (1, .int v1), (2, .int v2), (3, .int v3), (4, .int v4), (5, .int v5)] [] u (gX11_crew_37_Ls v1 v2 j37 v3 v4 v5 u) := by
  unfold gX11_crew_37_Ls
  refine g_iload C dX11_crew_37 rfl 5 rfl ?_
  refine g_bipush (v := 6) C dX11_crew_39 rfl (by decide) ?_
  refine g_icmp_gt 119 C dX11_crew_41 rfl (by decide) (fun c1 => ?_) (fun c1 => ?_)
  · refine g_aload_n C dX11_crew_119 rfl 0 rfl ?_
    refine g_iload_n C dX11_crew_120 rfl 2 rfl ?_
    refine g_putI C dX11_crew_121 rfl rfl fp_11_7 rfl fl_X11_26 ?_
    refine g_letm (fun u2 => ?_)
    refine g_iload_n C dX11_crew_124 rfl 1 rfl ?_
    refine g_if_ne 132 C dX11_crew_125 rfl (by decide) (fun c3 => ?_) (fun c3 => ?_)
    · refine g_iload C dX11_crew_132 rfl 4 rfl ?_
      exact g_iret C M dX11_crew_134 rfl rfl
    · refine g_iload_n C dX11_crew_128 rfl 3 rfl ?_
      refine g_goto 134 C dX11_crew_129 rfl (by decide) ?_
      exact g_iret C M dX11_crew_134 rfl rfl
  · refine g_aload_n C dX11_crew_44 rfl 0 rfl ?_
    refine g_iload C dX11_crew_45 rfl 5 rfl ?_
    refine g_putI C dX11_crew_47 rfl rfl fp_11_7 rfl fl_X11_26 ?_
    refine g_letm (fun u4 => ?_)
    refine g_aload_n C dX11_crew_50 rfl 0 rfl ?_
    refine g_callV [] C dX11_crew_51 rfl (tX11_open (xl Γ) (xE Γ) u4) cf_X11_open rfl rfl ml_X11_291 rfl (by decide) (Nat.le_of_ble_eq_true rfl) rfl (fun u5 => ?_)
    refine g_aload_n C dX11_crew_54 rfl 0 rfl ?_
    refine g_callV [] C dX11_crew_55 rfl (tX11_seekBest (xl Γ) (xE Γ) u5) cf_X11_seekBest rfl rfl ml_X11_322 rfl (by decide) (Nat.le_of_ble_eq_true rfl) rfl (fun u6 => ?_)
    refine g_aload_n C dX11_crew_58 rfl 0 rfl ?_
    refine g_getI C dX11_crew_59 rfl rfl fi_11_48 rfl fl_X11_316 ?_
    refine g_if_lt 82 C dX11_crew_62 rfl (by decide) (fun c7 => ?_) (fun c7 => ?_)
    · exact pX11_crew_82 C M L v1 v2 v3 v4 v5 hj37 u6
    · refine g_iload_n C dX11_crew_65 rfl 3 rfl ?_
      refine g_if_lt 78 C dX11_crew_66 rfl (by decide) (fun c8 => ?_) (fun c8 => ?_)
      · exact pX11_crew_78 C M L v1 v2 v3 v4 v5 hj37 u6
      · refine g_aload_n C dX11_crew_69 rfl 0 rfl ?_
        refine g_getI C dX11_crew_70 rfl rfl fi_11_48 rfl fl_X11_316 ?_
        refine g_iload C dX11_crew_73 rfl 4 rfl ?_
        refine g_icmp_ge 82 C dX11_crew_75 rfl (by decide) (fun c9 => ?_) (fun c9 => ?_)
        · exact pX11_crew_82 C M L v1 v2 v3 v4 v5 hj37 u6
        · exact pX11_crew_78 C M L v1 v2 v3 v4 v5 hj37 u6
set_option maxRecDepth 20000 in
set_option maxHeartbeats 4000000 in
theorem pX11_crew_37 {Γ : GX} (C : Cx Γ RX11 cX11_crew 6) (M : Mx Γ (some .int)) (L : xn Γ = 7) (v1 : Int32) (v2 : Int32) : ∀ (n : Nat) (v3 : Int32) (v4 : Int32) (v5 : Int32) (u : Mm), Gp Γ (QM Γ cvI) 37 [(0, .ref ((xE Γ).1 74)), (1, .int v1), (2, .int v2), (3, .int v3), (4, .int v4), (5, .int v5)] [] u (gX11_crew_37_L v1 v2 n v3 v4 v5 u) := by
  intro n
  induction n with
  | zero => intro _ _ _ _; exact g_none
  | succ n ih => intro v3 v4 v5 u; exact pX11_crew_37s C M L v1 v2 ih v3 v4 v5 u

set_option maxRecDepth 20000 in
set_option maxHeartbeats 4000000 in
theorem pX11_crew_0 {Γ : GX} (C : Cx Γ RX11 cX11_crew 6) (M : Mx Γ (some .int)) (L : xn Γ = 7) (v1 : Int32) (u : Mm) : Gp Γ (QM Γ cvI) 0 [(0, .ref ((xE Γ).1 74)), (1, .int v1)] [] u (gX11_crew_b v1 u) := by
  unfold gX11_crew_b
  refine g_aload_n C dX11_crew_0 rfl 0 rfl ?_
  refine g_iconst (v := 0) C dX11_crew_1 rfl (by decide) ?_
  refine g_putI C dX11_crew_2 rfl rfl fp_11_19 rfl fl_X11_104 ?_
  refine g_letm (fun u1 => ?_)
  refine g_iload_n C dX11_crew_5 rfl 1 rfl ?_
  refine g_i2l C dX11_crew_6 rfl ?_
  refine g_lconst (v := 0) C dX11_crew_7 rfl (by decide) ?_
  refine g_lconst (v := 1) C dX11_crew_8 rfl (by decide) ?_
  refine g_callsP [.long v1.toInt64, .long 0, .long 1] C dX11_crew_9 rfl (tX11_in (xl Γ) (xE Γ) v1.toInt64 0 1 u1) cf_X11_in ml_X11_107 rfl (by decide) (Nat.le_of_ble_eq_true rfl) rfl (fun r2 => ?_)
  refine g_if_ne 22 C dX11_crew_12 rfl (by decide) (fun c3 => ?_) (fun c3 => ?_)
  · refine g_aload_n C dX11_crew_22 rfl 0 rfl ?_
    refine g_getI C dX11_crew_23 rfl rfl fi_11_7 rfl fl_X11_26 ?_
    refine g_lets (fun v2_4 => ?_)
    refine g_istore_n (ls' := [(2, .int v2_4), (0, .ref ((xE Γ).1 74)), (1, .int v1)]) C dX11_crew_26 rfl L (by decide) rfl ?_
    refine g_bipush (v := (-9)) C dX11_crew_27 rfl (by decide) ?_
    refine g_istore_n (ls' := [(3, .int (-9)), (2, .int v2_4), (0, .ref ((xE Γ).1 74)), (1, .int v1)]) C dX11_crew_29 rfl L (by decide) rfl ?_
    refine g_bipush (v := (-9)) C dX11_crew_30 rfl (by decide) ?_
    refine g_istore (ls' := [(4, .int (-9)), (3, .int (-9)), (2, .int v2_4), (0, .ref ((xE Γ).1 74)), (1, .int v1)]) C dX11_crew_32 rfl L (by decide) rfl ?_
    refine g_iconst (v := 1) C dX11_crew_34 rfl (by decide) ?_
    refine g_istore (ls' := [(5, .int 1), (4, .int (-9)), (3, .int (-9)), (2, .int v2_4), (0, .ref ((xE Γ).1 74)), (1, .int v1)]) C dX11_crew_35 rfl L (by decide) rfl ?_
    refine g_sub (ls' := [(0, .ref ((xE Γ).1 74)), (1, .int v1), (2, .int v2_4), (3, .int (-9)), (4, .int (-9)), (5, .int 1)]) [4, 5, 3, 2, 1, 0] rfl ?_
    exact pX11_crew_37 C M L v1 v2_4 FU (-9) (-9) 1 u1
  · refine g_aload_n C dX11_crew_15 rfl 0 rfl ?_
    refine g_bipush (v := (-2)) C dX11_crew_16 rfl (by decide) ?_
    refine g_callI [.int (-2)] C dX11_crew_18 rfl (tX11_refuse (xl Γ) (xE Γ) (-2) u1) cf_X11_refuse rfl rfl ml_X11_153 rfl (by decide) (Nat.le_of_ble_eq_true rfl) rfl (fun r6 u5 => ?_)
    exact g_iret C M dX11_crew_21 rfl rfl
set_option maxRecDepth 20000 in
set_option maxHeartbeats 4000000 in
theorem tX11_crew (l : Launch) (E : EE) (v1 : Int32) (u : Mm) : Ct l E yX11_crew cX11_crew 7 (some .int) 6 [.ref (E.1 74), .int v1] u cvI (gX11_crew v1 u) :=
  Ct_of (own := RX11) (by decide +kernel) rfl (Nat.le_of_ble_eq_true rfl) (fun p e R s m args below meth c C M => g_sub (ls' := [(0, .ref (E.1 74)), (1, .int v1)]) [0, 1] rfl (pX11_crew_0 C M rfl v1 u))
set_option maxRecDepth 20000 in
set_option maxHeartbeats 4000000 in
theorem pX11_whichLag_64 {Γ : GX} (C : Cx Γ RX11 cX11_whichLag 4) (M : Mx Γ (some .int)) (L : xn Γ = 5) (v1 : Int32) (v2 : Int32) (v4 : Int32) (s0 : Int32) {j9 : Int32 → Int32 → Mm → Option (Int32 × Mm)} (hj9 : ∀ (v1 : Int32) (v2 : Int32) (u : Mm), Gp Γ (QM Γ cvI) 9 [(0, .ref ((xE Γ).1 74)), (1, .int v1), (2, .int v2)] [] u (j9 v1 v2 u)) {j28 : Int32 → Int32 → Mm → Option (Int32 × Mm)} (hj28 : ∀ (v3 : Int32) (v4 : Int32) (u : Mm), Gp Γ (QM Γ cvI) 28 [(0, .ref ((xE Γ).1 74)), (1, .int v1), (2, .int v2), (3, .int v3), (4, .int v4)] [] u (j28 v3 v4 u)) (u : Mm) : Gp Γ (QM Γ cvI) 64 [(0, .ref ((xE Γ).1 74)), (1, .int v1), (2, .int v2), (4, .int v4)] [.int s0] u (gX11_whichLag_64 j9 j28 v1 v2 v4 s0 u) := by
  unfold gX11_whichLag_64
  refine g_istore_n (ls' := [(3, .int s0), (0, .ref ((xE Γ).1 74)), (1, .int v1), (2, .int v2), (4, .int v4)]) C dX11_whichLag_64 rfl L (by decide) rfl ?_
  refine g_iincL (fun v4_1 => [(4, .int v4_1), (3, .int s0), (0, .ref ((xE Γ).1 74)), (1, .int v1), (2, .int v2)]) C dX11_whichLag_65 rfl L (by decide) (k := 4) rfl (iinc_1 _) (fun _ => rfl) (fun v4_1 => ?_)
  refine g_goto 28 C dX11_whichLag_68 rfl (by decide) ?_
  refine g_sub (ls' := [(0, .ref ((xE Γ).1 74)), (1, .int v1), (2, .int v2), (3, .int s0), (4, .int v4_1)]) [2, 3, 4, 1, 0] rfl ?_
  exact hj28 s0 v4_1 u
set_option maxRecDepth 20000 in
set_option maxHeartbeats 4000000 in
theorem pX11_whichLag_63 {Γ : GX} (C : Cx Γ RX11 cX11_whichLag 4) (M : Mx Γ (some .int)) (L : xn Γ = 5) (v1 : Int32) (v2 : Int32) (v4 : Int32) {j9 : Int32 → Int32 → Mm → Option (Int32 × Mm)} (hj9 : ∀ (v1 : Int32) (v2 : Int32) (u : Mm), Gp Γ (QM Γ cvI) 9 [(0, .ref ((xE Γ).1 74)), (1, .int v1), (2, .int v2)] [] u (j9 v1 v2 u)) {j28 : Int32 → Int32 → Mm → Option (Int32 × Mm)} (hj28 : ∀ (v3 : Int32) (v4 : Int32) (u : Mm), Gp Γ (QM Γ cvI) 28 [(0, .ref ((xE Γ).1 74)), (1, .int v1), (2, .int v2), (3, .int v3), (4, .int v4)] [] u (j28 v3 v4 u)) (u : Mm) : Gp Γ (QM Γ cvI) 63 [(0, .ref ((xE Γ).1 74)), (1, .int v1), (2, .int v2), (4, .int v4)] [] u (gX11_whichLag_63 j9 j28 v1 v2 v4 u) := by
  unfold gX11_whichLag_63
  refine g_iconst (v := 0) C dX11_whichLag_63 rfl (by decide) ?_
  exact pX11_whichLag_64 C M L v1 v2 v4 0 hj9 hj28 u
set_option maxRecDepth 20000 in
set_option maxHeartbeats 4000000 in
theorem pX11_whichLag_83 {Γ : GX} (C : Cx Γ RX11 cX11_whichLag 4) (M : Mx Γ (some .int)) (L : xn Γ = 5) (v2 : Int32) (s0 : Int32) (s1 : Int32) {j9 : Int32 → Int32 → Mm → Option (Int32 × Mm)} (hj9 : ∀ (v1 : Int32) (v2 : Int32) (u : Mm), Gp Γ (QM Γ cvI) 9 [(0, .ref ((xE Γ).1 74)), (1, .int v1), (2, .int v2)] [] u (j9 v1 v2 u)) (u : Mm) : Gp Γ (QM Γ cvI) 83 [(0, .ref ((xE Γ).1 74)), (2, .int v2)] [.int s0, .int s1] u (gX11_whichLag_83 j9 v2 s0 s1 u) := by
  unfold gX11_whichLag_83
  refine g_ior C dX11_whichLag_83 rfl ?_
  refine g_lets (fun v1_1 => ?_)
  refine g_istore_n (ls' := [(1, .int v1_1), (0, .ref ((xE Γ).1 74)), (2, .int v2)]) C dX11_whichLag_84 rfl L (by decide) rfl ?_
  refine g_aload_n C dX11_whichLag_85 rfl 1 rfl ?_
  refine g_callV [] C dX11_whichLag_86 rfl (tX11_again (xl Γ) (xE Γ) u) cf_X11_again rfl rfl ml_X11_270 rfl (by decide) (Nat.le_of_ble_eq_true rfl) rfl (fun u2 => ?_)
  refine g_iincL (fun v2_3 => [(2, .int v2_3), (1, .int v1_1), (0, .ref ((xE Γ).1 74))]) C dX11_whichLag_89 rfl L (by decide) (k := 2) rfl (iinc_1 _) (fun _ => rfl) (fun v2_3 => ?_)
  refine g_goto 9 C dX11_whichLag_92 rfl (by decide) ?_
  refine g_sub (ls' := [(0, .ref ((xE Γ).1 74)), (1, .int v1_1), (2, .int v2_3)]) [2, 1, 0] rfl ?_
  exact hj9 v1_1 v2_3 u2
set_option maxRecDepth 20000 in
set_option maxHeartbeats 4000000 in
theorem pX11_whichLag_28s {Γ : GX} (C : Cx Γ RX11 cX11_whichLag 4) (M : Mx Γ (some .int)) (L : xn Γ = 5) (v1 : Int32) (v2 : Int32) {j9 : Int32 → Int32 → Mm → Option (Int32 × Mm)} (hj9 : ∀ (v1 : Int32) (v2 : Int32) (u : Mm), Gp Γ (QM Γ cvI) 9 [(0, .ref ((xE Γ).1 74)), (1, .int v1), (2, .int v2)] [] u (j9 v1 v2 u)) {j28 : Int32 → Int32 → Mm → Option (Int32 × Mm)} (hj28 : ∀ (v3 : Int32) (v4 : Int32) (u : Mm), Gp Γ (QM Γ cvI) 28 [(0, .ref ((xE Γ).1 74)), (1, .int v1), (2, .int v2), (3, .int v3), (4, .int v4)] [] u (j28 v3 v4 u)) (v3 : Int32) (v4 : Int32) (u : Mm) : Gp Γ (QM Γ cvI) 28 [(0, .ref ((xE Γ).1 74)), (1, .int v1), (2, .int v2), (3, .int v3), (4, .int v4)] [] u (gX11_whichLag_28_Ls j9 v1 v2 j28 v3 v4 u) := by
  unfold gX11_whichLag_28_Ls
  refine g_iload C dX11_whichLag_28 rfl 4 rfl ?_
  refine g_aload_n C dX11_whichLag_30 rfl 0 rfl ?_
  refine g_getI C dX11_whichLag_31 rfl rfl fi_11_58 rfl fl_X11_344 ?_
  refine g_icmp_ge 71 C dX11_whichLag_34 rfl (by decide) (fun c1 => ?_) (fun c1 => ?_)
  · refine g_iload_n C dX11_whichLag_71 rfl 1 rfl ?_
    refine g_iload_n C dX11_whichLag_72 rfl 3 rfl ?_
    refine g_if_eq 82 C dX11_whichLag_73 rfl (by decide) (fun c2 => ?_) (fun c2 => ?_)
    · refine g_iconst (v := 0) C dX11_whichLag_82 rfl (by decide) ?_
      refine g_sub (ls' := [(0, .ref ((xE Γ).1 74)), (2, .int v2)]) [0, 2] rfl ?_
      exact pX11_whichLag_83 C M L v2 0 v1 hj9 u
    · refine g_iconst (v := 1) C dX11_whichLag_76 rfl (by decide) ?_
      refine g_iload_n C dX11_whichLag_77 rfl 2 rfl ?_
      refine g_ishl C dX11_whichLag_78 rfl ?_
      refine g_goto 83 C dX11_whichLag_79 rfl (by decide) ?_
      refine g_sub (ls' := [(0, .ref ((xE Γ).1 74)), (2, .int v2)]) [0, 2] rfl ?_
      exact pX11_whichLag_83 C M L v2 (shl 1 v2) v1 hj9 u
  · refine g_aload_n C dX11_whichLag_37 rfl 0 rfl ?_
    refine g_callV [] C dX11_whichLag_38 rfl (tX11_holdOn (xl Γ) (xE Γ) u) cf_X11_holdOn rfl rfl ml_X11_276 rfl (by decide) (Nat.le_of_ble_eq_true rfl) rfl (fun u3 => ?_)
    refine g_iload_n C dX11_whichLag_41 rfl 3 rfl ?_
    refine g_if_eq 63 C dX11_whichLag_42 rfl (by decide) (fun c4 => ?_) (fun c4 => ?_)
    · refine g_sub (ls' := [(0, .ref ((xE Γ).1 74)), (1, .int v1), (2, .int v2), (4, .int v4)]) [0, 1, 2, 4] rfl ?_
      exact pX11_whichLag_63 C M L v1 v2 v4 hj9 hj28 u3
    · refine g_aload_n C dX11_whichLag_45 rfl 0 rfl ?_
      refine g_getI C dX11_whichLag_46 rfl rfl fi_11_2 rfl fl_X11_127 ?_
      refine g_aload_n C dX11_whichLag_49 rfl 0 rfl ?_
      refine g_getR (k2 := 100) C dX11_whichLag_50 rfl rfl fi_11_57 ⟨by decide, by decide, rfl⟩ fl_X11_101 ?_
      refine g_iload C dX11_whichLag_53 rfl 4 rfl ?_
      refine g_gd (fun hi5 => ?_)
      refine g_iald C dX11_whichLag_55 rfl rfl rfl hi5 ?_
      refine g_icmp_ne 63 C dX11_whichLag_56 rfl (by decide) (fun c6 => ?_) (fun c6 => ?_)
      · refine g_sub (ls' := [(0, .ref ((xE Γ).1 74)), (1, .int v1), (2, .int v2), (4, .int v4)]) [0, 1, 2, 4] rfl ?_
        exact pX11_whichLag_63 C M L v1 v2 v4 hj9 hj28 u3
      · refine g_iconst (v := 1) C dX11_whichLag_59 rfl (by decide) ?_
        refine g_goto 64 C dX11_whichLag_60 rfl (by decide) ?_
        refine g_sub (ls' := [(0, .ref ((xE Γ).1 74)), (1, .int v1), (2, .int v2), (4, .int v4)]) [0, 1, 2, 4] rfl ?_
        exact pX11_whichLag_64 C M L v1 v2 v4 1 hj9 hj28 u3
set_option maxRecDepth 20000 in
set_option maxHeartbeats 4000000 in
theorem pX11_whichLag_28 {Γ : GX} (C : Cx Γ RX11 cX11_whichLag 4) (M : Mx Γ (some .int)) (L : xn Γ = 5) (v1 : Int32) (v2 : Int32) {j9 : Int32 → Int32 → Mm → Option (Int32 × Mm)} (hj9 : ∀ (v1 : Int32) (v2 : Int32) (u : Mm), Gp Γ (QM Γ cvI) 9 [(0, .ref ((xE Γ).1 74)), (1, .int v1), (2, .int v2)] [] u (j9 v1 v2 u)) : ∀ (n : Nat) (v3 : Int32) (v4 : Int32) (u : Mm), Gp Γ (QM Γ cvI) 28 [(0, .ref ((xE Γ).1 74)), (1, .int v1), (2, .int v2), (3, .int v3), (4, .int v4)] [] u (gX11_whichLag_28_L j9 v1 v2 n v3 v4 u) := by
  intro n
  induction n with
  | zero => intro _ _ _; exact g_none
  | succ n ih => intro v3 v4 u; exact pX11_whichLag_28s C M L v1 v2 hj9 ih v3 v4 u

set_option maxRecDepth 20000 in
set_option maxHeartbeats 4000000 in
theorem pX11_whichLag_9s {Γ : GX} (C : Cx Γ RX11 cX11_whichLag 4) (M : Mx Γ (some .int)) (L : xn Γ = 5) {j9 : Int32 → Int32 → Mm → Option (Int32 × Mm)} (hj9 : ∀ (v1 : Int32) (v2 : Int32) (u : Mm), Gp Γ (QM Γ cvI) 9 [(0, .ref ((xE Γ).1 74)), (1, .int v1), (2, .int v2)] [] u (j9 v1 v2 u)) (v1 : Int32) (v2 : Int32) (u : Mm) : Gp Γ (QM Γ cvI) 9 [(0, .ref ((xE Γ).1 74)), (1, .int v1), (2, .int v2)] [] u (gX11_whichLag_9_Ls j9 v1 v2 u) := by
  unfold gX11_whichLag_9_Ls
  refine g_iload_n C dX11_whichLag_9 rfl 2 rfl ?_
  refine g_iconst (v := 5) C dX11_whichLag_10 rfl (by decide) ?_
  refine g_icmp_gt 95 C dX11_whichLag_11 rfl (by decide) (fun c1 => ?_) (fun c1 => ?_)
  · refine g_iload_n C dX11_whichLag_95 rfl 1 rfl ?_
    exact g_iret C M dX11_whichLag_96 rfl rfl
  · refine g_aload_n C dX11_whichLag_14 rfl 0 rfl ?_
    refine g_callV [] C dX11_whichLag_15 rfl (tX11_open (xl Γ) (xE Γ) u) cf_X11_open rfl rfl ml_X11_291 rfl (by decide) (Nat.le_of_ble_eq_true rfl) rfl (fun u2 => ?_)
    refine g_aload_n C dX11_whichLag_18 rfl 0 rfl ?_
    refine g_iload_n C dX11_whichLag_19 rfl 2 rfl ?_
    refine g_callV [.int v2] C dX11_whichLag_20 rfl (tX11_lagBecomes (xl Γ) (xE Γ) v2 u2) cf_X11_lagBecomes rfl rfl ml_X11_196 rfl (by decide) (Nat.le_of_ble_eq_true rfl) rfl (fun u3 => ?_)
    refine g_iconst (v := 1) C dX11_whichLag_23 rfl (by decide) ?_
    refine g_istore_n (ls' := [(3, .int 1), (0, .ref ((xE Γ).1 74)), (1, .int v1), (2, .int v2)]) C dX11_whichLag_24 rfl L (by decide) rfl ?_
    refine g_iconst (v := 0) C dX11_whichLag_25 rfl (by decide) ?_
    refine g_istore (ls' := [(4, .int 0), (3, .int 1), (0, .ref ((xE Γ).1 74)), (1, .int v1), (2, .int v2)]) C dX11_whichLag_26 rfl L (by decide) rfl ?_
    refine g_sub (ls' := [(0, .ref ((xE Γ).1 74)), (1, .int v1), (2, .int v2), (3, .int 1), (4, .int 0)]) [2, 3, 4, 1, 0] rfl ?_
    exact pX11_whichLag_28 C M L v1 v2 hj9 FU 1 0 u3
set_option maxRecDepth 20000 in
set_option maxHeartbeats 4000000 in
theorem pX11_whichLag_9 {Γ : GX} (C : Cx Γ RX11 cX11_whichLag 4) (M : Mx Γ (some .int)) (L : xn Γ = 5) : ∀ (n : Nat) (v1 : Int32) (v2 : Int32) (u : Mm), Gp Γ (QM Γ cvI) 9 [(0, .ref ((xE Γ).1 74)), (1, .int v1), (2, .int v2)] [] u (gX11_whichLag_9_L n v1 v2 u) := by
  intro n
  induction n with
  | zero => intro _ _ _; exact g_none
  | succ n ih => intro v1 v2 u; exact pX11_whichLag_9s C M L ih v1 v2 u

set_option maxRecDepth 20000 in
set_option maxHeartbeats 4000000 in
theorem pX11_whichLag_0 {Γ : GX} (C : Cx Γ RX11 cX11_whichLag 4) (M : Mx Γ (some .int)) (L : xn Γ = 5) (u : Mm) : Gp Γ (QM Γ cvI) 0 [(0, .ref ((xE Γ).1 74))] [] u (gX11_whichLag_b u) := by
  unfold gX11_whichLag_b
  refine g_aload_n C dX11_whichLag_0 rfl 0 rfl ?_
  refine g_iconst (v := 0) C dX11_whichLag_1 rfl (by decide) ?_
  refine g_putI C dX11_whichLag_2 rfl rfl fp_11_19 rfl fl_X11_104 ?_
  refine g_letm (fun u1 => ?_)
  refine g_iconst (v := 0) C dX11_whichLag_5 rfl (by decide) ?_
  refine g_istore_n (ls' := [(1, .int 0), (0, .ref ((xE Γ).1 74))]) C dX11_whichLag_6 rfl L (by decide) rfl ?_
  refine g_iconst (v := 0) C dX11_whichLag_7 rfl (by decide) ?_
  refine g_istore_n (ls' := [(2, .int 0), (1, .int 0), (0, .ref ((xE Γ).1 74))]) C dX11_whichLag_8 rfl L (by decide) rfl ?_
  refine g_sub (ls' := [(0, .ref ((xE Γ).1 74)), (1, .int 0), (2, .int 0)]) [2, 1, 0] rfl ?_
  exact pX11_whichLag_9 C M L FU 0 0 u1
set_option maxRecDepth 20000 in
set_option maxHeartbeats 4000000 in
theorem tX11_whichLag (l : Launch) (E : EE) (u : Mm) : Ct l E yX11_whichLag cX11_whichLag 5 (some .int) 4 [.ref (E.1 74)] u cvI (gX11_whichLag u) :=
  Ct_of (own := RX11) (by decide +kernel) rfl (Nat.le_of_ble_eq_true rfl) (fun p e R s m args below meth c C M => g_sub (ls' := [(0, .ref (E.1 74))]) [0] rfl (pX11_whichLag_0 C M rfl u))
set_option maxRecDepth 20000 in
set_option maxHeartbeats 4000000 in
theorem pX11_comesTo_0 {Γ : GX} (C : Cx Γ RX11 cX11_comesTo 5) (M : Mx Γ (some .boolean)) (L : xn Γ = 4) (v1 : Int32) (v2 : Int32) (v3 : Int32) (u : Mm) : Gp Γ (QM Γ cvI) 0 [(0, .ref ((xE Γ).1 74)), (1, .int v1), (2, .int v2), (3, .int v3)] [] u (gX11_comesTo_b v1 v2 v3 u) := by
  unfold gX11_comesTo_b
  refine g_aload_n C dX11_comesTo_0 rfl 0 rfl ?_
  refine g_iload_n C dX11_comesTo_1 rfl 2 rfl ?_
  refine g_iload_n C dX11_comesTo_2 rfl 3 rfl ?_
  refine g_callV [.int v2, .int v3] C dX11_comesTo_3 rfl (tX11_planOn (xl Γ) (xE Γ) v2 v3 u) cf_X11_planOn rfl rfl ml_X11_294 rfl (by decide) (Nat.le_of_ble_eq_true rfl) rfl (fun u1 => ?_)
  refine g_aload_n C dX11_comesTo_6 rfl 0 rfl ?_
  refine g_getI C dX11_comesTo_7 rfl rfl fi_11_41 rfl fl_X11_279 ?_
  refine g_if_eq 25 C dX11_comesTo_10 rfl (by decide) (fun c2 => ?_) (fun c2 => ?_)
  · refine g_iconst (v := 0) C dX11_comesTo_25 rfl (by decide) ?_
    exact g_zret C M dX11_comesTo_26 rfl (by decide) rfl
  · refine g_aload_n C dX11_comesTo_13 rfl 0 rfl ?_
    refine g_callP [] C dX11_comesTo_14 rfl (tX11_fieldAt (xl Γ) (xE Γ) u1) cf_X11_fieldAt rfl rfl ml_X11_285 rfl (by decide) (Nat.le_of_ble_eq_true rfl) rfl (fun r3 => ?_)
    refine g_iload_n C dX11_comesTo_17 rfl 1 rfl ?_
    refine g_icmp_ne 25 C dX11_comesTo_18 rfl (by decide) (fun c4 => ?_) (fun c4 => ?_)
    · refine g_iconst (v := 0) C dX11_comesTo_25 rfl (by decide) ?_
      exact g_zret C M dX11_comesTo_26 rfl (by decide) rfl
    · refine g_iconst (v := 1) C dX11_comesTo_21 rfl (by decide) ?_
      refine g_goto 26 C dX11_comesTo_22 rfl (by decide) ?_
      exact g_zret C M dX11_comesTo_26 rfl (by decide) rfl
set_option maxRecDepth 20000 in
set_option maxHeartbeats 4000000 in
theorem tX11_comesTo (l : Launch) (E : EE) (v1 : Int32) (v2 : Int32) (v3 : Int32) (u : Mm) : Ct l E yX11_comesTo cX11_comesTo 4 (some .boolean) 5 [.ref (E.1 74), .int v1, .int v2, .int v3] u cvI (gX11_comesTo v1 v2 v3 u) :=
  Ct_of (own := RX11) (by decide +kernel) rfl (Nat.le_of_ble_eq_true rfl) (fun p e R s m args below meth c C M => g_sub (ls' := [(0, .ref (E.1 74)), (1, .int v1), (2, .int v2), (3, .int v3)]) [0, 1, 2, 3] rfl (pX11_comesTo_0 C M rfl v1 v2 v3 u))
set_option maxRecDepth 20000 in
set_option maxHeartbeats 4000000 in
theorem pX11_windFor_150 {Γ : GX} (C : Cx Γ RX11 cX11_windFor 6) (M : Mx Γ (some .int)) (L : xn Γ = 11) (v1 : Int32) (v2 : Int32) (v3 : Int32) (v4 : Int32) (v6 : Int32) (v7 : Int32) (v8 : Int32) (v10 : Int32) (s0 : Int32) {j106 : Int32 → Int32 → Int32 → Mm → Option (Int32 × Mm)} (hj106 : ∀ (v8 : Int32) (v9 : Int32) (v10 : Int32) (u : Mm), Gp Γ (QM Γ cvI) 106 [(0, .ref ((xE Γ).1 74)), (1, .int v1), (2, .int v2), (3, .int v3), (4, .int v4), (6, .int v6), (7, .int v7), (8, .int v8), (9, .int v9), (10, .int v10)] [] u (j106 v8 v9 v10 u)) (u : Mm) : Gp Γ (QM Γ cvI) 150 [(0, .ref ((xE Γ).1 74)), (1, .int v1), (2, .int v2), (3, .int v3), (4, .int v4), (6, .int v6), (7, .int v7), (8, .int v8), (10, .int v10)] [.int s0] u (gX11_windFor_150 j106 v1 v2 v3 v4 v6 v7 v8 v10 s0 u) := by
  unfold gX11_windFor_150
  refine g_istore (ls' := [(9, .int s0), (0, .ref ((xE Γ).1 74)), (1, .int v1), (2, .int v2), (3, .int v3), (4, .int v4), (6, .int v6), (7, .int v7), (8, .int v8), (10, .int v10)]) C dX11_windFor_150 rfl L (by decide) rfl ?_
  refine g_iincL (fun v10_1 => [(10, .int v10_1), (9, .int s0), (0, .ref ((xE Γ).1 74)), (1, .int v1), (2, .int v2), (3, .int v3), (4, .int v4), (6, .int v6), (7, .int v7), (8, .int v8)]) C dX11_windFor_152 rfl L (by decide) (k := 9) rfl (iinc_1 _) (fun _ => rfl) (fun v10_1 => ?_)
  refine g_goto 106 C dX11_windFor_155 rfl (by decide) ?_
  refine g_sub (ls' := [(0, .ref ((xE Γ).1 74)), (1, .int v1), (2, .int v2), (3, .int v3), (4, .int v4), (6, .int v6), (7, .int v7), (8, .int v8), (9, .int s0), (10, .int v10_1)]) [2, 3, 4, 5, 6, 7, 8, 9, 1, 0] rfl ?_
  exact hj106 v8 s0 v10_1 u
set_option maxRecDepth 20000 in
set_option maxHeartbeats 4000000 in
theorem pX11_windFor_106s {Γ : GX} (C : Cx Γ RX11 cX11_windFor 6) (M : Mx Γ (some .int)) (L : xn Γ = 11) (v1 : Int32) (v2 : Int32) (v3 : Int32) (v4 : Int32) (v6 : Int32) (v7 : Int32) {j106 : Int32 → Int32 → Int32 → Mm → Option (Int32 × Mm)} (hj106 : ∀ (v8 : Int32) (v9 : Int32) (v10 : Int32) (u : Mm), Gp Γ (QM Γ cvI) 106 [(0, .ref ((xE Γ).1 74)), (1, .int v1), (2, .int v2), (3, .int v3), (4, .int v4), (6, .int v6), (7, .int v7), (8, .int v8), (9, .int v9), (10, .int v10)] [] u (j106 v8 v9 v10 u)) (v8 : Int32) (v9 : Int32) (v10 : Int32) (u : Mm) : Gp Γ (QM Γ cvI) 106 [(0, .ref ((xE Γ).1 74)), (1, .int v1), (2, .int v2), (3, .int v3), (4, .int v4), (6, .int v6), (7, .int v7), (8, .int v8), (9, .int v9), (10, .int v10)] [] u (gX11_windFor_106_Ls v1 v2 v3 v4 v6 v7 j106 v8 v9 v10 u) := by
  unfold gX11_windFor_106_Ls
  refine g_iload C dX11_windFor_106 rfl 9 rfl ?_
  refine g_bipush (v := 9) C dX11_windFor_108 rfl (by decide) ?_
  refine g_icmp_gt 158 C dX11_windFor_110 rfl (by decide) (fun c1 => ?_) (fun c1 => ?_)
  · refine g_aload_n C dX11_windFor_158 rfl 0 rfl ?_
    refine g_getR (k2 := 75) C dX11_windFor_159 rfl rfl fi_11_0 ⟨by decide, by decide, rfl⟩ fl_X11_7 ?_
    refine g_iload C dX11_windFor_162 rfl 5 rfl ?_
    refine g_iload C dX11_windFor_164 rfl 6 rfl ?_
    refine g_gd (fun hi3 => ?_)
    refine g_iast C dX11_windFor_166 rfl rfl rfl hi3 ?_
    refine g_letm (fun u2 => ?_)
    refine g_aload_n C dX11_windFor_167 rfl 0 rfl ?_
    refine g_callV [] C dX11_windFor_168 rfl (tX11_again (xl Γ) (xE Γ) u2) cf_X11_again rfl rfl ml_X11_270 rfl (by decide) (Nat.le_of_ble_eq_true rfl) rfl (fun u4 => ?_)
    refine g_iload C dX11_windFor_171 rfl 4 rfl ?_
    refine g_if_ne 181 C dX11_windFor_173 rfl (by decide) (fun c5 => ?_) (fun c5 => ?_)
    · refine g_iload C dX11_windFor_181 rfl 8 rfl ?_
      exact g_iret C M dX11_windFor_183 rfl rfl
    · refine g_iload C dX11_windFor_176 rfl 7 rfl ?_
      refine g_goto 183 C dX11_windFor_178 rfl (by decide) ?_
      exact g_iret C M dX11_windFor_183 rfl rfl
  · refine g_aload_n C dX11_windFor_113 rfl 0 rfl ?_
    refine g_getR (k2 := 75) C dX11_windFor_114 rfl rfl fi_11_0 ⟨by decide, by decide, rfl⟩ fl_X11_7 ?_
    refine g_iload C dX11_windFor_117 rfl 5 rfl ?_
    refine g_iload C dX11_windFor_119 rfl 9 rfl ?_
    refine g_gd (fun hi7 => ?_)
    refine g_iast C dX11_windFor_121 rfl rfl rfl hi7 ?_
    refine g_letm (fun u6 => ?_)
    refine g_aload_n C dX11_windFor_122 rfl 0 rfl ?_
    refine g_iload_n C dX11_windFor_123 rfl 1 rfl ?_
    refine g_iload_n C dX11_windFor_124 rfl 2 rfl ?_
    refine g_iload_n C dX11_windFor_125 rfl 3 rfl ?_
    refine g_callI [.int v1, .int v2, .int v3] C dX11_windFor_126 rfl (tX11_comesTo (xl Γ) (xE Γ) v1 v2 v3 u6) cf_X11_comesTo rfl rfl ml_X11_356 rfl (by decide) (Nat.le_of_ble_eq_true rfl) rfl (fun r9 u8 => ?_)
    refine g_if_eq 152 C dX11_windFor_129 rfl (by decide) (fun c10 => ?_) (fun c10 => ?_)
    · refine g_iincL (fun v10_11 => [(10, .int v10_11), (0, .ref ((xE Γ).1 74)), (1, .int v1), (2, .int v2), (3, .int v3), (4, .int v4), (6, .int v6), (7, .int v7), (8, .int v8), (9, .int v9)]) C dX11_windFor_152 rfl L (by decide) (k := 9) rfl (iinc_1 _) (fun _ => rfl) (fun v10_11 => ?_)
      refine g_goto 106 C dX11_windFor_155 rfl (by decide) ?_
      refine g_sub (ls' := [(0, .ref ((xE Γ).1 74)), (1, .int v1), (2, .int v2), (3, .int v3), (4, .int v4), (6, .int v6), (7, .int v7), (8, .int v8), (9, .int v9), (10, .int v10_11)]) [1, 2, 3, 4, 5, 6, 7, 8, 9, 0] rfl ?_
      exact hj106 v8 v9 v10_11 u8
    · refine g_iincL (fun v8_12 => [(8, .int v8_12), (0, .ref ((xE Γ).1 74)), (1, .int v1), (2, .int v2), (3, .int v3), (4, .int v4), (6, .int v6), (7, .int v7), (9, .int v9), (10, .int v10)]) C dX11_windFor_132 rfl L (by decide) (k := 7) rfl (iinc_1 _) (fun _ => rfl) (fun v8_12 => ?_)
      refine g_iload C dX11_windFor_135 rfl 8 rfl ?_
      refine g_if_ge 148 C dX11_windFor_137 rfl (by decide) (fun c13 => ?_) (fun c13 => ?_)
      · refine g_iload C dX11_windFor_148 rfl 8 rfl ?_
        refine g_sub (ls' := [(0, .ref ((xE Γ).1 74)), (1, .int v1), (2, .int v2), (3, .int v3), (4, .int v4), (6, .int v6), (7, .int v7), (8, .int v8_12), (10, .int v10)]) [1, 2, 3, 4, 5, 6, 7, 0, 9] rfl ?_
        exact pX11_windFor_150 C M L v1 v2 v3 v4 v6 v7 v8_12 v10 v9 hj106 u8
      · refine g_iload C dX11_windFor_140 rfl 9 rfl ?_
        refine g_bipush (v := 9) C dX11_windFor_142 rfl (by decide) ?_
        refine g_iadd C dX11_windFor_144 rfl ?_
        refine g_goto 150 C dX11_windFor_145 rfl (by decide) ?_
        refine g_sub (ls' := [(0, .ref ((xE Γ).1 74)), (1, .int v1), (2, .int v2), (3, .int v3), (4, .int v4), (6, .int v6), (7, .int v7), (8, .int v8_12), (10, .int v10)]) [1, 2, 3, 4, 5, 6, 7, 0, 9] rfl ?_
        exact pX11_windFor_150 C M L v1 v2 v3 v4 v6 v7 v8_12 v10 (v10 + 9) hj106 u8
set_option maxRecDepth 20000 in
set_option maxHeartbeats 4000000 in
theorem pX11_windFor_106 {Γ : GX} (C : Cx Γ RX11 cX11_windFor 6) (M : Mx Γ (some .int)) (L : xn Γ = 11) (v1 : Int32) (v2 : Int32) (v3 : Int32) (v4 : Int32) (v6 : Int32) (v7 : Int32) : ∀ (n : Nat) (v8 : Int32) (v9 : Int32) (v10 : Int32) (u : Mm), Gp Γ (QM Γ cvI) 106 [(0, .ref ((xE Γ).1 74)), (1, .int v1), (2, .int v2), (3, .int v3), (4, .int v4), (6, .int v6), (7, .int v7), (8, .int v8), (9, .int v9), (10, .int v10)] [] u (gX11_windFor_106_L v1 v2 v3 v4 v6 v7 n v8 v9 v10 u) := by
  intro n
  induction n with
  | zero => intro _ _ _ _; exact g_none
  | succ n ih => intro v8 v9 v10 u; exact pX11_windFor_106s C M L v1 v2 v3 v4 v6 v7 ih v8 v9 v10 u

set_option maxRecDepth 20000 in
set_option maxHeartbeats 4000000 in
theorem pX11_windFor_52 {Γ : GX} (C : Cx Γ RX11 cX11_windFor 6) (M : Mx Γ (some .int)) (L : xn Γ = 11) (v1 : Int32) (v2 : Int32) (v3 : Int32) (v4 : Int32) (v5 : Int32) (u : Mm) : Gp Γ (QM Γ cvI) 52 [(0, .ref ((xE Γ).1 74)), (1, .int v1), (2, .int v2), (3, .int v3), (4, .int v4), (5, .int v5)] [] u (gX11_windFor_52 v1 v2 v3 v4 v5 u) := by
  unfold gX11_windFor_52
  refine g_iload C dX11_windFor_52 rfl 5 rfl ?_
  refine g_iload C dX11_windFor_54 rfl 4 rfl ?_
  refine g_iconst (v := 1) C dX11_windFor_56 rfl (by decide) ?_
  refine g_callsP [.int v5, .int v4, .int 1] C dX11_windFor_57 rfl (tX11_wrongBit (xl Γ) (xE Γ) v5 v4 1 u) cf_X11_wrongBit ml_X11_288 rfl (by decide) (Nat.le_of_ble_eq_true rfl) rfl (fun r1 => ?_)
  refine g_istore (ls' := [(5, .int r1), (0, .ref ((xE Γ).1 74)), (1, .int v1), (2, .int v2), (3, .int v3), (4, .int v4)]) C dX11_windFor_60 rfl L (by decide) rfl ?_
  refine g_iload C dX11_windFor_62 rfl 0 rfl ?_
  refine g_if_ge 74 C dX11_windFor_64 rfl (by decide) (fun c2 => ?_) (fun c2 => ?_)
  · refine g_aload_n C dX11_windFor_74 rfl 1 rfl ?_
    refine g_getI C dX11_windFor_75 rfl rfl fi_11_2 rfl fl_X11_127 ?_
    refine g_iconst (v := 5) C dX11_windFor_78 rfl (by decide) ?_
    refine g_idiv C dX11_windFor_79 rfl (by decide) ?_
    refine g_lets (fun v6_3 => ?_)
    refine g_istore (ls' := [(6, .int v6_3), (5, .int r1), (0, .ref ((xE Γ).1 74)), (1, .int v1), (2, .int v2), (3, .int v3), (4, .int v4)]) C dX11_windFor_80 rfl L (by decide) rfl ?_
    refine g_aload_n C dX11_windFor_82 rfl 2 rfl ?_
    refine g_getR (k2 := 75) C dX11_windFor_83 rfl rfl fi_11_0 ⟨by decide, by decide, rfl⟩ fl_X11_7 ?_
    refine g_iload C dX11_windFor_86 rfl 0 rfl ?_
    refine g_gd (fun hi4 => ?_)
    refine g_iald C dX11_windFor_88 rfl rfl rfl hi4 ?_
    refine g_lets (fun v7_5 => ?_)
    refine g_istore (ls' := [(7, .int v7_5), (6, .int v6_3), (5, .int r1), (0, .ref ((xE Γ).1 74)), (1, .int v1), (2, .int v2), (3, .int v3), (4, .int v4)]) C dX11_windFor_89 rfl L (by decide) rfl ?_
    refine g_iconst (v := 0) C dX11_windFor_91 rfl (by decide) ?_
    refine g_istore (ls' := [(8, .int 0), (7, .int v7_5), (6, .int v6_3), (5, .int r1), (0, .ref ((xE Γ).1 74)), (1, .int v1), (2, .int v2), (3, .int v3), (4, .int v4)]) C dX11_windFor_92 rfl L (by decide) rfl ?_
    refine g_bipush (v := (-9)) C dX11_windFor_94 rfl (by decide) ?_
    refine g_istore (ls' := [(9, .int (-9)), (8, .int 0), (7, .int v7_5), (6, .int v6_3), (5, .int r1), (0, .ref ((xE Γ).1 74)), (1, .int v1), (2, .int v2), (3, .int v3), (4, .int v4)]) C dX11_windFor_96 rfl L (by decide) rfl ?_
    refine g_aload_n C dX11_windFor_98 rfl 5 rfl ?_
    refine g_callV [] C dX11_windFor_99 rfl (tX11_open (xl Γ) (xE Γ) u) cf_X11_open rfl rfl ml_X11_291 rfl (by decide) (Nat.le_of_ble_eq_true rfl) rfl (fun u6 => ?_)
    refine g_bipush (v := (-9)) C dX11_windFor_102 rfl (by decide) ?_
    refine g_istore (ls' := [(10, .int (-9)), (9, .int (-9)), (8, .int 0), (7, .int v7_5), (6, .int v6_3), (5, .int r1), (0, .ref ((xE Γ).1 74)), (1, .int v1), (2, .int v2), (3, .int v3), (4, .int v4)]) C dX11_windFor_104 rfl L (by decide) rfl ?_
    refine g_sub (ls' := [(0, .ref ((xE Γ).1 74)), (1, .int v1), (2, .int v2), (3, .int v3), (4, .int v4), (6, .int v6_3), (7, .int v7_5), (8, .int 0), (9, .int (-9)), (10, .int (-9))]) [6, 7, 8, 9, 10, 4, 3, 2, 1, 0] rfl ?_
    exact pX11_windFor_106 C M L v1 v2 v3 v4 v6_3 v7_5 FU 0 (-9) (-9) u6
  · refine g_aload_n C dX11_windFor_67 rfl 1 rfl ?_
    refine g_iload C dX11_windFor_68 rfl 0 rfl ?_
    refine g_callI [.int r1] C dX11_windFor_70 rfl (tX11_refuse (xl Γ) (xE Γ) r1 u) cf_X11_refuse rfl rfl ml_X11_153 rfl (by decide) (Nat.le_of_ble_eq_true rfl) rfl (fun r8 u7 => ?_)
    exact g_iret C M dX11_windFor_73 rfl rfl
set_option maxRecDepth 20000 in
set_option maxHeartbeats 4000000 in
theorem pX11_windFor_30 {Γ : GX} (C : Cx Γ RX11 cX11_windFor 6) (M : Mx Γ (some .int)) (L : xn Γ = 11) (v1 : Int32) (v2 : Int32) (v3 : Int32) (v4 : Int32) (u : Mm) : Gp Γ (QM Γ cvI) 30 [(0, .ref ((xE Γ).1 74)), (1, .int v1), (2, .int v2), (3, .int v3), (4, .int v4)] [] u (gX11_windFor_30 v1 v2 v3 v4 u) := by
  unfold gX11_windFor_30
  refine g_bipush (v := (-4)) C dX11_windFor_30 rfl (by decide) ?_
  refine g_istore (ls' := [(5, .int (-4)), (0, .ref ((xE Γ).1 74)), (1, .int v1), (2, .int v2), (3, .int v3), (4, .int v4)]) C dX11_windFor_32 rfl L (by decide) rfl ?_
  refine g_goto 52 C dX11_windFor_34 rfl (by decide) ?_
  refine g_sub (ls' := [(0, .ref ((xE Γ).1 74)), (1, .int v1), (2, .int v2), (3, .int v3), (4, .int v4), (5, .int (-4))]) [1, 2, 3, 4, 5, 0] rfl ?_
  exact pX11_windFor_52 C M L v1 v2 v3 v4 (-4) u
set_option maxRecDepth 20000 in
set_option maxHeartbeats 4000000 in
theorem pX11_windFor_48 {Γ : GX} (C : Cx Γ RX11 cX11_windFor 6) (M : Mx Γ (some .int)) (L : xn Γ = 11) (v1 : Int32) (v2 : Int32) (v3 : Int32) (v4 : Int32) (u : Mm) : Gp Γ (QM Γ cvI) 48 [(0, .ref ((xE Γ).1 74)), (1, .int v1), (2, .int v2), (3, .int v3), (4, .int v4)] [] u (gX11_windFor_48 v1 v2 v3 v4 u) := by
  unfold gX11_windFor_48
  refine g_bipush (v := (-6)) C dX11_windFor_48 rfl (by decide) ?_
  refine g_istore (ls' := [(5, .int (-6)), (0, .ref ((xE Γ).1 74)), (1, .int v1), (2, .int v2), (3, .int v3), (4, .int v4)]) C dX11_windFor_50 rfl L (by decide) rfl ?_
  refine g_sub (ls' := [(0, .ref ((xE Γ).1 74)), (1, .int v1), (2, .int v2), (3, .int v3), (4, .int v4), (5, .int (-6))]) [1, 2, 3, 4, 5, 0] rfl ?_
  exact pX11_windFor_52 C M L v1 v2 v3 v4 (-6) u
set_option maxRecDepth 20000 in
set_option maxHeartbeats 4000000 in
theorem pX11_windFor_0 {Γ : GX} (C : Cx Γ RX11 cX11_windFor 6) (M : Mx Γ (some .int)) (L : xn Γ = 11) (v1 : Int32) (v2 : Int32) (v3 : Int32) (v4 : Int32) (u : Mm) : Gp Γ (QM Γ cvI) 0 [(0, .ref ((xE Γ).1 74)), (1, .int v1), (2, .int v2), (3, .int v3), (4, .int v4)] [] u (gX11_windFor_b v1 v2 v3 v4 u) := by
  unfold gX11_windFor_b
  refine g_aload_n C dX11_windFor_0 rfl 0 rfl ?_
  refine g_iconst (v := 0) C dX11_windFor_1 rfl (by decide) ?_
  refine g_putI C dX11_windFor_2 rfl rfl fp_11_19 rfl fl_X11_104 ?_
  refine g_letm (fun u1 => ?_)
  refine g_iconst (v := 0) C dX11_windFor_5 rfl (by decide) ?_
  refine g_istore (ls' := [(5, .int 0), (0, .ref ((xE Γ).1 74)), (1, .int v1), (2, .int v2), (3, .int v3), (4, .int v4)]) C dX11_windFor_6 rfl L (by decide) rfl ?_
  refine g_aload_n C dX11_windFor_8 rfl 1 rfl ?_
  refine g_iload_n C dX11_windFor_9 rfl 2 rfl ?_
  refine g_callP [.int v1] C dX11_windFor_10 rfl (tX11_isField (xl Γ) (xE Γ) v1 u1) cf_X11_isField rfl rfl ml_X11_250 rfl (by decide) (Nat.le_of_ble_eq_true rfl) rfl (fun r2 => ?_)
  refine g_if_ne 22 C dX11_windFor_13 rfl (by decide) (fun c3 => ?_) (fun c3 => ?_)
  · refine g_iload_n C dX11_windFor_22 rfl 3 rfl ?_
    refine g_if_lt 30 C dX11_windFor_23 rfl (by decide) (fun c4 => ?_) (fun c4 => ?_)
    · refine g_sub (ls' := [(0, .ref ((xE Γ).1 74)), (1, .int v1), (2, .int v2), (3, .int v3), (4, .int v4)]) [1, 2, 3, 4, 5] rfl ?_
      exact pX11_windFor_30 C M L v1 v2 v3 v4 u1
    · refine g_iload_n C dX11_windFor_26 rfl 4 rfl ?_
      refine g_if_ge 37 C dX11_windFor_27 rfl (by decide) (fun c5 => ?_) (fun c5 => ?_)
      · refine g_iload_n C dX11_windFor_37 rfl 3 rfl ?_
        refine g_bipush (v := 30) C dX11_windFor_38 rfl (by decide) ?_
        refine g_icmp_gt 48 C dX11_windFor_40 rfl (by decide) (fun c6 => ?_) (fun c6 => ?_)
        · refine g_sub (ls' := [(0, .ref ((xE Γ).1 74)), (1, .int v1), (2, .int v2), (3, .int v3), (4, .int v4)]) [1, 2, 3, 4, 5] rfl ?_
          exact pX11_windFor_48 C M L v1 v2 v3 v4 u1
        · refine g_iload_n C dX11_windFor_43 rfl 4 rfl ?_
          refine g_iconst (v := 5) C dX11_windFor_44 rfl (by decide) ?_
          refine g_icmp_le 52 C dX11_windFor_45 rfl (by decide) (fun c7 => ?_) (fun c7 => ?_)
          · refine g_sub (ls' := [(0, .ref ((xE Γ).1 74)), (1, .int v1), (2, .int v2), (3, .int v3), (4, .int v4), (5, .int 0)]) [1, 2, 3, 4, 5, 0] rfl ?_
            exact pX11_windFor_52 C M L v1 v2 v3 v4 0 u1
          · refine g_sub (ls' := [(0, .ref ((xE Γ).1 74)), (1, .int v1), (2, .int v2), (3, .int v3), (4, .int v4)]) [1, 2, 3, 4, 5] rfl ?_
            exact pX11_windFor_48 C M L v1 v2 v3 v4 u1
      · refine g_sub (ls' := [(0, .ref ((xE Γ).1 74)), (1, .int v1), (2, .int v2), (3, .int v3), (4, .int v4)]) [1, 2, 3, 4, 5] rfl ?_
        exact pX11_windFor_30 C M L v1 v2 v3 v4 u1
  · refine g_iconst (v := (-1)) C dX11_windFor_16 rfl (by decide) ?_
    refine g_istore (ls' := [(5, .int (-1)), (0, .ref ((xE Γ).1 74)), (1, .int v1), (2, .int v2), (3, .int v3), (4, .int v4)]) C dX11_windFor_17 rfl L (by decide) rfl ?_
    refine g_goto 52 C dX11_windFor_19 rfl (by decide) ?_
    refine g_sub (ls' := [(0, .ref ((xE Γ).1 74)), (1, .int v1), (2, .int v2), (3, .int v3), (4, .int v4), (5, .int (-1))]) [1, 2, 3, 4, 5, 0] rfl ?_
    exact pX11_windFor_52 C M L v1 v2 v3 v4 (-1) u1
set_option maxRecDepth 20000 in
set_option maxHeartbeats 4000000 in
theorem tX11_windFor (l : Launch) (E : EE) (v1 : Int32) (v2 : Int32) (v3 : Int32) (v4 : Int32) (u : Mm) : Ct l E yX11_windFor cX11_windFor 11 (some .int) 6 [.ref (E.1 74), .int v1, .int v2, .int v3, .int v4] u cvI (gX11_windFor v1 v2 v3 v4 u) :=
  Ct_of (own := RX11) (by decide +kernel) rfl (Nat.le_of_ble_eq_true rfl) (fun p e R s m args below meth c C M => g_sub (ls' := [(0, .ref (E.1 74)), (1, .int v1), (2, .int v2), (3, .int v3), (4, .int v4)]) [0, 1, 2, 3, 4] rfl (pX11_windFor_0 C M rfl v1 v2 v3 v4 u))
set_option maxRecDepth 20000 in
set_option maxHeartbeats 4000000 in
theorem pX11_span_87 {Γ : GX} (C : Cx Γ RX11 cX11_span 6) (M : Mx Γ (some .int)) (L : xn Γ = 8) (v1 : Int32) (v2 : Int32) (v3 : Int32) (v7 : Int32) (s0 : Int32) {j57 : Int32 → Int32 → Int32 → Mm → Option (Int32 × Mm)} (hj57 : ∀ (v5 : Int32) (v6 : Int32) (v7 : Int32) (u : Mm), Gp Γ (QM Γ cvI) 57 [(0, .ref ((xE Γ).1 74)), (1, .int v1), (2, .int v2), (3, .int v3), (5, .int v5), (6, .int v6), (7, .int v7)] [] u (j57 v5 v6 v7 u)) (u : Mm) : Gp Γ (QM Γ cvI) 87 [(0, .ref ((xE Γ).1 74)), (1, .int v1), (2, .int v2), (3, .int v3), (7, .int v7)] [.int s0] u (gX11_span_87 j57 v1 v2 v3 v7 s0 u) := by
  unfold gX11_span_87
  refine g_istore (ls' := [(5, .int s0), (0, .ref ((xE Γ).1 74)), (1, .int v1), (2, .int v2), (3, .int v3), (7, .int v7)]) C dX11_span_87 rfl L (by decide) rfl ?_
  refine g_iload C dX11_span_89 rfl 5 rfl ?_
  refine g_istore (ls' := [(6, .int v7), (5, .int s0), (0, .ref ((xE Γ).1 74)), (1, .int v1), (2, .int v2), (3, .int v3), (7, .int v7)]) C dX11_span_91 rfl L (by decide) rfl ?_
  refine g_iincL (fun v7_1 => [(7, .int v7_1), (6, .int v7), (5, .int s0), (0, .ref ((xE Γ).1 74)), (1, .int v1), (2, .int v2), (3, .int v3)]) C dX11_span_93 rfl L (by decide) (k := 6) rfl (iinc_1 _) (fun _ => rfl) (fun v7_1 => ?_)
  refine g_goto 57 C dX11_span_96 rfl (by decide) ?_
  refine g_sub (ls' := [(0, .ref ((xE Γ).1 74)), (1, .int v1), (2, .int v2), (3, .int v3), (5, .int s0), (6, .int v7), (7, .int v7_1)]) [3, 4, 5, 6, 2, 1, 0] rfl ?_
  exact hj57 s0 v7 v7_1 u
set_option maxRecDepth 20000 in
set_option maxHeartbeats 4000000 in
theorem pX11_span_57s {Γ : GX} (C : Cx Γ RX11 cX11_span 6) (M : Mx Γ (some .int)) (L : xn Γ = 8) (v1 : Int32) (v2 : Int32) (v3 : Int32) {j57 : Int32 → Int32 → Int32 → Mm → Option (Int32 × Mm)} (hj57 : ∀ (v5 : Int32) (v6 : Int32) (v7 : Int32) (u : Mm), Gp Γ (QM Γ cvI) 57 [(0, .ref ((xE Γ).1 74)), (1, .int v1), (2, .int v2), (3, .int v3), (5, .int v5), (6, .int v6), (7, .int v7)] [] u (j57 v5 v6 v7 u)) (v5 : Int32) (v6 : Int32) (v7 : Int32) (u : Mm) : Gp Γ (QM Γ cvI) 57 [(0, .ref ((xE Γ).1 74)), (1, .int v1), (2, .int v2), (3, .int v3), (5, .int v5), (6, .int v6), (7, .int v7)] [] u (gX11_span_57_Ls v1 v2 v3 j57 v5 v6 v7 u) := by
  unfold gX11_span_57_Ls
  refine g_iload C dX11_span_57 rfl 6 rfl ?_
  refine g_bipush (v := 30) C dX11_span_59 rfl (by decide) ?_
  refine g_icmp_gt 99 C dX11_span_61 rfl (by decide) (fun c1 => ?_) (fun c1 => ?_)
  · refine g_aload_n C dX11_span_99 rfl 0 rfl ?_
    refine g_callV [] C dX11_span_100 rfl (tX11_again (xl Γ) (xE Γ) u) cf_X11_again rfl rfl ml_X11_270 rfl (by decide) (Nat.le_of_ble_eq_true rfl) rfl (fun u2 => ?_)
    refine g_iload_n C dX11_span_103 rfl 3 rfl ?_
    refine g_if_ne 112 C dX11_span_104 rfl (by decide) (fun c3 => ?_) (fun c3 => ?_)
    · refine g_iload C dX11_span_112 rfl 5 rfl ?_
      exact g_iret C M dX11_span_114 rfl rfl
    · refine g_iload C dX11_span_107 rfl 4 rfl ?_
      refine g_goto 114 C dX11_span_109 rfl (by decide) ?_
      exact g_iret C M dX11_span_114 rfl rfl
  · refine g_aload_n C dX11_span_64 rfl 0 rfl ?_
    refine g_iload_n C dX11_span_65 rfl 1 rfl ?_
    refine g_iload C dX11_span_66 rfl 6 rfl ?_
    refine g_iload_n C dX11_span_68 rfl 2 rfl ?_
    refine g_callI [.int v1, .int v7, .int v2] C dX11_span_69 rfl (tX11_comesTo (xl Γ) (xE Γ) v1 v7 v2 u) cf_X11_comesTo rfl rfl ml_X11_356 rfl (by decide) (Nat.le_of_ble_eq_true rfl) rfl (fun r5 u4 => ?_)
    refine g_if_eq 93 C dX11_span_72 rfl (by decide) (fun c6 => ?_) (fun c6 => ?_)
    · refine g_iincL (fun v7_7 => [(7, .int v7_7), (0, .ref ((xE Γ).1 74)), (1, .int v1), (2, .int v2), (3, .int v3), (5, .int v5), (6, .int v6)]) C dX11_span_93 rfl L (by decide) (k := 6) rfl (iinc_1 _) (fun _ => rfl) (fun v7_7 => ?_)
      refine g_goto 57 C dX11_span_96 rfl (by decide) ?_
      refine g_sub (ls' := [(0, .ref ((xE Γ).1 74)), (1, .int v1), (2, .int v2), (3, .int v3), (5, .int v5), (6, .int v6), (7, .int v7_7)]) [1, 2, 3, 4, 5, 6, 0] rfl ?_
      exact hj57 v5 v6 v7_7 u4
    · refine g_iload C dX11_span_75 rfl 4 rfl ?_
      refine g_if_ge 85 C dX11_span_77 rfl (by decide) (fun c8 => ?_) (fun c8 => ?_)
      · refine g_iload C dX11_span_85 rfl 4 rfl ?_
        refine g_sub (ls' := [(0, .ref ((xE Γ).1 74)), (1, .int v1), (2, .int v2), (3, .int v3), (7, .int v7)]) [0, 1, 2, 3, 6] rfl ?_
        exact pX11_span_87 C M L v1 v2 v3 v7 v5 hj57 u4
      · refine g_iload C dX11_span_80 rfl 6 rfl ?_
        refine g_goto 87 C dX11_span_82 rfl (by decide) ?_
        refine g_sub (ls' := [(0, .ref ((xE Γ).1 74)), (1, .int v1), (2, .int v2), (3, .int v3), (7, .int v7)]) [0, 1, 2, 3, 6] rfl ?_
        exact pX11_span_87 C M L v1 v2 v3 v7 v7 hj57 u4
set_option maxRecDepth 20000 in
set_option maxHeartbeats 4000000 in
theorem pX11_span_57 {Γ : GX} (C : Cx Γ RX11 cX11_span 6) (M : Mx Γ (some .int)) (L : xn Γ = 8) (v1 : Int32) (v2 : Int32) (v3 : Int32) : ∀ (n : Nat) (v5 : Int32) (v6 : Int32) (v7 : Int32) (u : Mm), Gp Γ (QM Γ cvI) 57 [(0, .ref ((xE Γ).1 74)), (1, .int v1), (2, .int v2), (3, .int v3), (5, .int v5), (6, .int v6), (7, .int v7)] [] u (gX11_span_57_L v1 v2 v3 n v5 v6 v7 u) := by
  intro n
  induction n with
  | zero => intro _ _ _ _; exact g_none
  | succ n ih => intro v5 v6 v7 u; exact pX11_span_57s C M L v1 v2 v3 ih v5 v6 v7 u

set_option maxRecDepth 20000 in
set_option maxHeartbeats 4000000 in
theorem pX11_span_23 {Γ : GX} (C : Cx Γ RX11 cX11_span 6) (M : Mx Γ (some .int)) (L : xn Γ = 8) (v1 : Int32) (v2 : Int32) (v3 : Int32) (s0 : Int32) (u : Mm) : Gp Γ (QM Γ cvI) 23 [(0, .ref ((xE Γ).1 74)), (1, .int v1), (2, .int v2), (3, .int v3)] [.int s0] u (gX11_span_23 v1 v2 v3 s0 u) := by
  unfold gX11_span_23
  refine g_iload_n C dX11_span_23 rfl 3 rfl ?_
  refine g_iconst (v := 1) C dX11_span_24 rfl (by decide) ?_
  refine g_callsP [.int s0, .int v3, .int 1] C dX11_span_25 rfl (tX11_wrongBit (xl Γ) (xE Γ) s0 v3 1 u) cf_X11_wrongBit ml_X11_288 rfl (by decide) (Nat.le_of_ble_eq_true rfl) rfl (fun r1 => ?_)
  refine g_istore (ls' := [(4, .int r1), (0, .ref ((xE Γ).1 74)), (1, .int v1), (2, .int v2), (3, .int v3)]) C dX11_span_28 rfl L (by decide) rfl ?_
  refine g_iload C dX11_span_30 rfl 0 rfl ?_
  refine g_if_ge 42 C dX11_span_32 rfl (by decide) (fun c2 => ?_) (fun c2 => ?_)
  · refine g_bipush (v := (-9)) C dX11_span_42 rfl (by decide) ?_
    refine g_istore (ls' := [(5, .int (-9)), (4, .int r1), (0, .ref ((xE Γ).1 74)), (1, .int v1), (2, .int v2), (3, .int v3)]) C dX11_span_44 rfl L (by decide) rfl ?_
    refine g_bipush (v := (-9)) C dX11_span_46 rfl (by decide) ?_
    refine g_istore (ls' := [(6, .int (-9)), (5, .int (-9)), (4, .int r1), (0, .ref ((xE Γ).1 74)), (1, .int v1), (2, .int v2), (3, .int v3)]) C dX11_span_48 rfl L (by decide) rfl ?_
    refine g_aload_n C dX11_span_50 rfl 3 rfl ?_
    refine g_callV [] C dX11_span_51 rfl (tX11_open (xl Γ) (xE Γ) u) cf_X11_open rfl rfl ml_X11_291 rfl (by decide) (Nat.le_of_ble_eq_true rfl) rfl (fun u3 => ?_)
    refine g_iconst (v := 0) C dX11_span_54 rfl (by decide) ?_
    refine g_istore (ls' := [(7, .int 0), (6, .int (-9)), (5, .int (-9)), (4, .int r1), (0, .ref ((xE Γ).1 74)), (1, .int v1), (2, .int v2), (3, .int v3)]) C dX11_span_55 rfl L (by decide) rfl ?_
    refine g_sub (ls' := [(0, .ref ((xE Γ).1 74)), (1, .int v1), (2, .int v2), (3, .int v3), (5, .int (-9)), (6, .int (-9)), (7, .int 0)]) [4, 5, 6, 7, 2, 1, 0] rfl ?_
    exact pX11_span_57 C M L v1 v2 v3 FU (-9) (-9) 0 u3
  · refine g_aload_n C dX11_span_35 rfl 1 rfl ?_
    refine g_iload C dX11_span_36 rfl 0 rfl ?_
    refine g_callI [.int r1] C dX11_span_38 rfl (tX11_refuse (xl Γ) (xE Γ) r1 u) cf_X11_refuse rfl rfl ml_X11_153 rfl (by decide) (Nat.le_of_ble_eq_true rfl) rfl (fun r5 u4 => ?_)
    exact g_iret C M dX11_span_41 rfl rfl
set_option maxRecDepth 20000 in
set_option maxHeartbeats 4000000 in
theorem pX11_span_0 {Γ : GX} (C : Cx Γ RX11 cX11_span 6) (M : Mx Γ (some .int)) (L : xn Γ = 8) (v1 : Int32) (v2 : Int32) (v3 : Int32) (u : Mm) : Gp Γ (QM Γ cvI) 0 [(0, .ref ((xE Γ).1 74)), (1, .int v1), (2, .int v2), (3, .int v3)] [] u (gX11_span_b v1 v2 v3 u) := by
  unfold gX11_span_b
  refine g_aload_n C dX11_span_0 rfl 0 rfl ?_
  refine g_iconst (v := 0) C dX11_span_1 rfl (by decide) ?_
  refine g_putI C dX11_span_2 rfl rfl fp_11_19 rfl fl_X11_104 ?_
  refine g_letm (fun u1 => ?_)
  refine g_aload_n C dX11_span_5 rfl 0 rfl ?_
  refine g_iload_n C dX11_span_6 rfl 1 rfl ?_
  refine g_callP [.int v1] C dX11_span_7 rfl (tX11_isField (xl Γ) (xE Γ) v1 u1) cf_X11_isField rfl rfl ml_X11_250 rfl (by decide) (Nat.le_of_ble_eq_true rfl) rfl (fun r2 => ?_)
  refine g_if_eq 22 C dX11_span_10 rfl (by decide) (fun c3 => ?_) (fun c3 => ?_)
  · refine g_iconst (v := (-1)) C dX11_span_22 rfl (by decide) ?_
    exact pX11_span_23 C M L v1 v2 v3 (-1) u1
  · refine g_iload_n C dX11_span_13 rfl 2 rfl ?_
    refine g_iconst (v := 0) C dX11_span_14 rfl (by decide) ?_
    refine g_iconst (v := 5) C dX11_span_15 rfl (by decide) ?_
    refine g_callsP [.int v2, .int 0, .int 5] C dX11_span_16 rfl (tX11_wrongNumber (xl Γ) (xE Γ) v2 0 5 u1) cf_X11_wrongNumber ml_X11_255 rfl (by decide) (Nat.le_of_ble_eq_true rfl) rfl (fun r4 => ?_)
    refine g_goto 23 C dX11_span_19 rfl (by decide) ?_
    exact pX11_span_23 C M L v1 v2 v3 r4 u1
set_option maxRecDepth 20000 in
set_option maxHeartbeats 4000000 in
theorem tX11_span (l : Launch) (E : EE) (v1 : Int32) (v2 : Int32) (v3 : Int32) (u : Mm) : Ct l E yX11_span cX11_span 8 (some .int) 6 [.ref (E.1 74), .int v1, .int v2, .int v3] u cvI (gX11_span v1 v2 v3 u) :=
  Ct_of (own := RX11) (by decide +kernel) rfl (Nat.le_of_ble_eq_true rfl) (fun p e R s m args below meth c C M => g_sub (ls' := [(0, .ref (E.1 74)), (1, .int v1), (2, .int v2), (3, .int v3)]) [0, 1, 2, 3] rfl (pX11_span_0 C M rfl v1 v2 v3 u))
