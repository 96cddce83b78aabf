set_option maxRecDepth 20000 in
set_option maxHeartbeats 4000000 in
theorem pX3_somePlanLeadsInto_10s {Γ : GX} (C : Cx Γ RX3 cX3_somePlanLeadsInto 5) (M : Mx Γ (some .boolean)) (L : xn Γ = 4) (v1 : Int32) (v2 : Int32) {j2 : Int32 → Mm → Option (Int32 × Mm)} (hj2 : ∀ (v2 : Int32) (u : Mm), Gp Γ (QM Γ cvI) 2 [(0, .ref ((xE Γ).1 57)), (1, .int v1), (2, .int v2)] [] u (j2 v2 u)) {j10 : Int32 → Mm → Option (Int32 × Mm)} (hj10 : ∀ (v3 : Int32) (u : Mm), Gp Γ (QM Γ cvI) 10 [(0, .ref ((xE Γ).1 57)), (1, .int v1), (2, .int v2), (3, .int v3)] [] u (j10 v3 u)) (v3 : Int32) (u : Mm) : Gp Γ (QM Γ cvI) 10 [(0, .ref ((xE Γ).1 57)), (1, .int v1), (2, .int v2), (3, .int v3)] [] u (gX3_somePlanLeadsInto_10_Ls j2 v1 v2 j10 v3 u) := by
  unfold gX3_somePlanLeadsInto_10_Ls
  refine g_iload_n C dX3_somePlanLeadsInto_10 rfl 3 rfl ?_
  refine g_iconst (v := 5) C dX3_somePlanLeadsInto_11 rfl (by decide) ?_
  refine g_icmp_gt 40 C dX3_somePlanLeadsInto_12 rfl (by decide) (fun c1 => ?_) (fun c1 => ?_)
  · refine g_iincL (fun v2_2 => [(2, .int v2_2), (0, .ref ((xE Γ).1 57)), (1, .int v1), (3, .int v3)]) C dX3_somePlanLeadsInto_40 rfl L (by decide) (k := 2) rfl (iinc_1 _) (fun _ => rfl) (fun v2_2 => ?_)
    refine g_goto 2 C dX3_somePlanLeadsInto_43 rfl (by decide) ?_
    refine g_sub (ls' := [(0, .ref ((xE Γ).1 57)), (1, .int v1), (2, .int v2_2)]) [1, 2, 0] rfl ?_
    exact hj2 v2_2 u
  · refine g_aload_n C dX3_somePlanLeadsInto_15 rfl 0 rfl ?_
    refine g_iload_n C dX3_somePlanLeadsInto_16 rfl 2 rfl ?_
    refine g_iload_n C dX3_somePlanLeadsInto_17 rfl 3 rfl ?_
    refine g_callI [.int v2, .int v3] C dX3_somePlanLeadsInto_18 rfl (tX3_follow (xl Γ) (xE Γ) v2 v3 u) cf_X3_follow rfl rfl ml_X3_124 rfl (by decide) (Nat.le_of_ble_eq_true rfl) rfl (fun r4 u3 => ?_)
    refine g_if_eq 34 C dX3_somePlanLeadsInto_21 rfl (by decide) (fun c5 => ?_) (fun c5 => ?_)
    · refine g_iincL (fun v3_6 => [(3, .int v3_6), (0, .ref ((xE Γ).1 57)), (1, .int v1), (2, .int v2)]) C dX3_somePlanLeadsInto_34 rfl L (by decide) (k := 3) rfl (iinc_1 _) (fun _ => rfl) (fun v3_6 => ?_)
      refine g_goto 10 C dX3_somePlanLeadsInto_37 rfl (by decide) ?_
      refine g_sub (ls' := [(0, .ref ((xE Γ).1 57)), (1, .int v1), (2, .int v2), (3, .int v3_6)]) [1, 2, 3, 0] rfl ?_
      exact hj10 v3_6 u3
    · refine g_aload_n C dX3_somePlanLeadsInto_24 rfl 0 rfl ?_
      refine g_callP [] C dX3_somePlanLeadsInto_25 rfl (tX3_fieldThere (xl Γ) (xE Γ) u3) cf_X3_fieldThere rfl rfl ml_X3_114 rfl (by decide) (Nat.le_of_ble_eq_true rfl) rfl (fun r7 => ?_)
      refine g_iload_n C dX3_somePlanLeadsInto_28 rfl 1 rfl ?_
      refine g_icmp_ne 34 C dX3_somePlanLeadsInto_29 rfl (by decide) (fun c8 => ?_) (fun c8 => ?_)
      · refine g_iincL (fun v3_9 => [(3, .int v3_9), (0, .ref ((xE Γ).1 57)), (1, .int v1), (2, .int v2)]) C dX3_somePlanLeadsInto_34 rfl L (by decide) (k := 3) rfl (iinc_1 _) (fun _ => rfl) (fun v3_9 => ?_)
        refine g_goto 10 C dX3_somePlanLeadsInto_37 rfl (by decide) ?_
        refine g_sub (ls' := [(0, .ref ((xE Γ).1 57)), (1, .int v1), (2, .int v2), (3, .int v3_9)]) [1, 2, 3, 0] rfl ?_
        exact hj10 v3_9 u3
      · refine g_iconst (v := 1) C dX3_somePlanLeadsInto_32 rfl (by decide) ?_
        exact g_zret C M dX3_somePlanLeadsInto_33 rfl (by decide) rfl
set_option maxRecDepth 20000 in
set_option maxHeartbeats 4000000 in
theorem pX3_somePlanLeadsInto_10 {Γ : GX} (C : Cx Γ RX3 cX3_somePlanLeadsInto 5) (M : Mx Γ (some .boolean)) (L : xn Γ = 4) (v1 : Int32) (v2 : Int32) {j2 : Int32 → Mm → Option (Int32 × Mm)} (hj2 : ∀ (v2 : Int32) (u : Mm), Gp Γ (QM Γ cvI) 2 [(0, .ref ((xE Γ).1 57)), (1, .int v1), (2, .int v2)] [] u (j2 v2 u)) : ∀ (n : Nat) (v3 : Int32) (u : Mm), Gp Γ (QM Γ cvI) 10 [(0, .ref ((xE Γ).1 57)), (1, .int v1), (2, .int v2), (3, .int v3)] [] u (gX3_somePlanLeadsInto_10_L j2 v1 v2 n v3 u) := by
  intro n
  induction n with
  | zero => intro _ _; exact g_none
  | succ n ih => intro v3 u; exact pX3_somePlanLeadsInto_10s C M L v1 v2 hj2 ih v3 u

set_option maxRecDepth 20000 in
set_option maxHeartbeats 4000000 in
theorem pX3_somePlanLeadsInto_2s {Γ : GX} (C : Cx Γ RX3 cX3_somePlanLeadsInto 5) (M : Mx Γ (some .boolean)) (L : xn Γ = 4) (v1 : Int32) {j2 : Int32 → Mm → Option (Int32 × Mm)} (hj2 : ∀ (v2 : Int32) (u : Mm), Gp Γ (QM Γ cvI) 2 [(0, .ref ((xE Γ).1 57)), (1, .int v1), (2, .int v2)] [] u (j2 v2 u)) (v2 : Int32) (u : Mm) : Gp Γ (QM Γ cvI) 2 [(0, .ref ((xE Γ).1 57)), (1, .int v1), (2, .int v2)] [] u (gX3_somePlanLeadsInto_2_Ls v1 j2 v2 u) := by
  unfold gX3_somePlanLeadsInto_2_Ls
  refine g_iload_n C dX3_somePlanLeadsInto_2 rfl 2 rfl ?_
  refine g_bipush (v := 30) C dX3_somePlanLeadsInto_3 rfl (by decide) ?_
  refine g_icmp_gt 46 C dX3_somePlanLeadsInto_5 rfl (by decide) (fun c1 => ?_) (fun c1 => ?_)
  · refine g_iconst (v := 0) C dX3_somePlanLeadsInto_46 rfl (by decide) ?_
    exact g_zret C M dX3_somePlanLeadsInto_47 rfl (by decide) rfl
  · refine g_iconst (v := 0) C dX3_somePlanLeadsInto_8 rfl (by decide) ?_
    refine g_istore_n (ls' := [(3, .int 0), (0, .ref ((xE Γ).1 57)), (1, .int v1), (2, .int v2)]) C dX3_somePlanLeadsInto_9 rfl L (by decide) rfl ?_
    refine g_sub (ls' := [(0, .ref ((xE Γ).1 57)), (1, .int v1), (2, .int v2), (3, .int 0)]) [1, 2, 3, 0] rfl ?_
    exact pX3_somePlanLeadsInto_10 C M L v1 v2 hj2 FU 0 u
set_option maxRecDepth 20000 in
set_option maxHeartbeats 4000000 in
theorem pX3_somePlanLeadsInto_2 {Γ : GX} (C : Cx Γ RX3 cX3_somePlanLeadsInto 5) (M : Mx Γ (some .boolean)) (L : xn Γ = 4) (v1 : Int32) : ∀ (n : Nat) (v2 : Int32) (u : Mm), Gp Γ (QM Γ cvI) 2 [(0, .ref ((xE Γ).1 57)), (1, .int v1), (2, .int v2)] [] u (gX3_somePlanLeadsInto_2_L v1 n v2 u) := by
  intro n
  induction n with
  | zero => intro _ _; exact g_none
  | succ n ih => intro v2 u; exact pX3_somePlanLeadsInto_2s C M L v1 ih v2 u

set_option maxRecDepth 20000 in
set_option maxHeartbeats 4000000 in
theorem pX3_somePlanLeadsInto_0 {Γ : GX} (C : Cx Γ RX3 cX3_somePlanLeadsInto 5) (M : Mx Γ (some .boolean)) (L : xn Γ = 4) (v1 : Int32) (u : Mm) : Gp Γ (QM Γ cvI) 0 [(0, .ref ((xE Γ).1 57)), (1, .int v1)] [] u (gX3_somePlanLeadsInto_b v1 u) := by
  unfold gX3_somePlanLeadsInto_b
  refine g_iconst (v := 0) C dX3_somePlanLeadsInto_0 rfl (by decide) ?_
  refine g_istore_n (ls' := [(2, .int 0), (0, .ref ((xE Γ).1 57)), (1, .int v1)]) C dX3_somePlanLeadsInto_1 rfl L (by decide) rfl ?_
  refine g_sub (ls' := [(0, .ref ((xE Γ).1 57)), (1, .int v1), (2, .int 0)]) [1, 2, 0] rfl ?_
  exact pX3_somePlanLeadsInto_2 C M L v1 FU 0 u
set_option maxRecDepth 20000 in
set_option maxHeartbeats 4000000 in
theorem tX3_somePlanLeadsInto (l : Launch) (E : EE) (v1 : Int32) (u : Mm) : Ct l E yX3_somePlanLeadsInto cX3_somePlanLeadsInto 4 (some .boolean) 5 [.ref (E.1 57), .int v1] u cvI (gX3_somePlanLeadsInto v1 u) :=
  Ct_of (own := RX3) (by decide +kernel) rfl (Nat.le_of_ble_eq_true rfl) (fun p e R s m args below meth c C M => g_sub (ls' := [(0, .ref (E.1 57)), (1, .int v1)]) [0, 1] rfl (pX3_somePlanLeadsInto_0 C M rfl v1 u))
set_option maxRecDepth 20000 in
set_option maxHeartbeats 4000000 in
theorem pX3_hasGasOver_0 {Γ : GX} (C : Cx Γ RX3 cX3_hasGasOver 0) (M : Mx Γ (some .boolean)) (L : xn Γ = 1) (u : Mm) : Gp Γ (QM Γ (cvP u)) 0 [(0, .ref ((xE Γ).1 57))] [] u (gX3_hasGasOver_b u) := by
  unfold gX3_hasGasOver_b
  refine g_aload_n C dX3_hasGasOver_0 rfl 0 rfl ?_
  refine g_getI C dX3_hasGasOver_1 rfl rfl fi_3_4 rfl fl_X3_66 ?_
  refine g_bipush (v := 30) C dX3_hasGasOver_4 rfl (by decide) ?_
  refine g_icmp_ne 23 C dX3_hasGasOver_6 rfl (by decide) (fun c1 => ?_) (fun c1 => ?_)
  · refine g_iconst (v := 0) C dX3_hasGasOver_23 rfl (by decide) ?_
    exact g_zret C M dX3_hasGasOver_24 rfl (by decide) rfl
  · refine g_aload_n C dX3_hasGasOver_9 rfl 0 rfl ?_
    refine g_getR (k2 := 68) C dX3_hasGasOver_10 rfl rfl fi_3_3 ⟨by decide, by decide, rfl⟩ fl_X3_32 ?_
    refine g_getI C dX3_hasGasOver_13 rfl rfl fi_2_4 rfl fl_X3_72 ?_
    refine g_if_le 23 C dX3_hasGasOver_16 rfl (by decide) (fun c2 => ?_) (fun c2 => ?_)
    · refine g_iconst (v := 0) C dX3_hasGasOver_23 rfl (by decide) ?_
      exact g_zret C M dX3_hasGasOver_24 rfl (by decide) rfl
    · refine g_iconst (v := 1) C dX3_hasGasOver_19 rfl (by decide) ?_
      refine g_goto 24 C dX3_hasGasOver_20 rfl (by decide) ?_
      exact g_zret C M dX3_hasGasOver_24 rfl (by decide) rfl
set_option maxRecDepth 20000 in
set_option maxHeartbeats 4000000 in
theorem tX3_hasGasOver (l : Launch) (E : EE) (u : Mm) : Ct l E yX3_hasGasOver cX3_hasGasOver 1 (some .boolean) 0 [.ref (E.1 57)] u (cvP u) (gX3_hasGasOver u) :=
  Ct_of (own := RX3) (by decide +kernel) rfl (Nat.le_of_ble_eq_true rfl) (fun p e R s m args below meth c C M => g_sub (ls' := [(0, .ref (E.1 57))]) [0] rfl (pX3_hasGasOver_0 C M rfl u))
set_option maxRecDepth 20000 in
set_option maxHeartbeats 4000000 in
theorem pX3_answerEach_71 {Γ : GX} (C : Cx Γ RX3 cX3_answerEach 3) (M : Mx Γ none) (L : xn Γ = 5) (v1 : Int32) (v3 : Int32) (s0 : Int32) {j25 : Int32 → Int32 → Mm → Option Mm} (hj25 : ∀ (v2 : Int32) (v3 : Int32) (u : Mm), Gp Γ (QM Γ cvV) 25 [(0, .ref ((xE Γ).1 57)), (1, .int v1), (2, .int v2), (3, .int v3)] [] u (j25 v2 v3 u)) (u : Mm) : Gp Γ (QM Γ cvV) 71 [(0, .ref ((xE Γ).1 57)), (1, .int v1), (3, .int v3)] [.int s0] u (gX3_answerEach_71 j25 v1 v3 s0 u) := by
  unfold gX3_answerEach_71
  refine g_istore_n (ls' := [(2, .int s0), (0, .ref ((xE Γ).1 57)), (1, .int v1), (3, .int v3)]) C dX3_answerEach_71 rfl L (by decide) rfl ?_
  refine g_aload_n C dX3_answerEach_72 rfl 1 rfl ?_
  refine g_getR (k2 := 69) C dX3_answerEach_73 rfl rfl fi_3_5 ⟨by decide, by decide, rfl⟩ fl_X3_35 ?_
  refine g_getI C dX3_answerEach_76 rfl rfl fi_2_0 rfl fl_X3_79 ?_
  refine g_aload_n C dX3_answerEach_79 rfl 1 rfl ?_
  refine g_getR (k2 := 67) C dX3_answerEach_80 rfl rfl fi_3_2 ⟨by decide, by decide, rfl⟩ fl_X3_28 ?_
  refine g_getI C dX3_answerEach_83 rfl rfl fi_2_0 rfl fl_X3_79 ?_
  refine g_isub C dX3_answerEach_86 rfl ?_
  refine g_abs C dX3_answerEach_87 rfl ⟨ml_X3_155, ms_abs, mc_abs⟩ (by decide) (Nat.le_of_ble_eq_true rfl) ?_
  refine g_lets (fun v4_1 => ?_)
  refine g_istore (ls' := [(4, .int v4_1), (2, .int s0), (0, .ref ((xE Γ).1 57)), (1, .int v1), (3, .int v3)]) C dX3_answerEach_90 rfl L (by decide) rfl ?_
  refine g_iload_n C dX3_answerEach_92 rfl 4 rfl ?_
  refine g_bipush (v := 20) C dX3_answerEach_93 rfl (by decide) ?_
  refine g_icmp_ge 114 C dX3_answerEach_95 rfl (by decide) (fun c2 => ?_) (fun c2 => ?_)
  · refine g_aload_n C dX3_answerEach_114 rfl 2 rfl ?_
    refine g_aload_n C dX3_answerEach_115 rfl 2 rfl ?_
    refine g_getI C dX3_answerEach_116 rfl rfl fi_3_12 rfl fl_X3_149 ?_
    refine g_iload C dX3_answerEach_119 rfl 0 rfl ?_
    refine g_max C dX3_answerEach_121 rfl ⟨ml_X3_160, ms_max, mc_max⟩ (by decide) (Nat.le_of_ble_eq_true rfl) ?_
    refine g_putI C dX3_answerEach_124 rfl rfl fp_3_12 rfl fl_X3_149 ?_
    refine g_letm (fun u3 => ?_)
    refine g_iincL (fun v3_4 => [(3, .int v3_4), (4, .int v4_1), (2, .int s0), (0, .ref ((xE Γ).1 57)), (1, .int v1)]) C dX3_answerEach_127 rfl L (by decide) (k := 4) rfl (iinc_1 _) (fun _ => rfl) (fun v3_4 => ?_)
    refine g_goto 25 C dX3_answerEach_130 rfl (by decide) ?_
    refine g_sub (ls' := [(0, .ref ((xE Γ).1 57)), (1, .int v1), (2, .int s0), (3, .int v3_4)]) [3, 4, 2, 0] rfl ?_
    exact hj25 s0 v3_4 u3
  · refine g_aload_n C dX3_answerEach_98 rfl 2 rfl ?_
    refine g_aload_n C dX3_answerEach_99 rfl 2 rfl ?_
    refine g_getI C dX3_answerEach_100 rfl rfl fi_3_11 rfl fl_X3_146 ?_
    refine g_iload C dX3_answerEach_103 rfl 0 rfl ?_
    refine g_max C dX3_answerEach_105 rfl ⟨ml_X3_160, ms_max, mc_max⟩ (by decide) (Nat.le_of_ble_eq_true rfl) ?_
    refine g_putI C dX3_answerEach_108 rfl rfl fp_3_11 rfl fl_X3_146 ?_
    refine g_letm (fun u5 => ?_)
    refine g_goto 127 C dX3_answerEach_111 rfl (by decide) ?_
    refine g_iincL (fun v3_6 => [(3, .int v3_6), (4, .int v4_1), (2, .int s0), (0, .ref ((xE Γ).1 57)), (1, .int v1)]) C dX3_answerEach_127 rfl L (by decide) (k := 4) rfl (iinc_1 _) (fun _ => rfl) (fun v3_6 => ?_)
    refine g_goto 25 C dX3_answerEach_130 rfl (by decide) ?_
    refine g_sub (ls' := [(0, .ref ((xE Γ).1 57)), (1, .int v1), (2, .int s0), (3, .int v3_6)]) [3, 4, 2, 0] rfl ?_
    exact hj25 s0 v3_6 u5
set_option maxRecDepth 20000 in
set_option maxHeartbeats 4000000 in
theorem pX3_answerEach_50 {Γ : GX} (C : Cx Γ RX3 cX3_answerEach 3) (M : Mx Γ none) (L : xn Γ = 5) (v1 : Int32) (v2 : Int32) (v3 : Int32) (s0 : Int32) {j25 : Int32 → Int32 → Mm → Option Mm} (hj25 : ∀ (v2 : Int32) (v3 : Int32) (u : Mm), Gp Γ (QM Γ cvV) 25 [(0, .ref ((xE Γ).1 57)), (1, .int v1), (2, .int v2), (3, .int v3)] [] u (j25 v2 v3 u)) (u : Mm) : Gp Γ (QM Γ cvV) 50 [(0, .ref ((xE Γ).1 57)), (1, .int v1), (2, .int v2), (3, .int v3)] [.int s0, .ref ((xE Γ).1 69)] u (gX3_answerEach_50 j25 v1 v2 v3 s0 u) := by
  unfold gX3_answerEach_50
  refine g_aload_n C dX3_answerEach_50 rfl 0 rfl ?_
  refine g_getR (k2 := 58) C dX3_answerEach_51 rfl rfl fi_3_0 ⟨by decide, by decide, rfl⟩ fl_X3_12 ?_
  refine g_callV [.int s0, .ref ((xE Γ).1 58)] C dX3_answerEach_54 rfl (tX2_fly (xl Γ) (xE Γ) rfl s0 rfl u) cf_X2_fly rfl rfl ml_X3_94 rfl (by decide) (Nat.le_of_ble_eq_true rfl) rfl (fun u1 => ?_)
  refine g_iload_n C dX3_answerEach_57 rfl 2 rfl ?_
  refine g_iconst (v := 1) C dX3_answerEach_58 rfl (by decide) ?_
  refine g_iadd C dX3_answerEach_59 rfl ?_
  refine g_iload_n C dX3_answerEach_60 rfl 1 rfl ?_
  refine g_icmp_ge 70 C dX3_answerEach_61 rfl (by decide) (fun c2 => ?_) (fun c2 => ?_)
  · refine g_iconst (v := 0) C dX3_answerEach_70 rfl (by decide) ?_
    refine g_sub (ls' := [(0, .ref ((xE Γ).1 57)), (1, .int v1), (3, .int v3)]) [0, 1, 3] rfl ?_
    exact pX3_answerEach_71 C M L v1 v3 0 hj25 u1
  · refine g_iload_n C dX3_answerEach_64 rfl 2 rfl ?_
    refine g_iconst (v := 1) C dX3_answerEach_65 rfl (by decide) ?_
    refine g_iadd C dX3_answerEach_66 rfl ?_
    refine g_goto 71 C dX3_answerEach_67 rfl (by decide) ?_
    refine g_sub (ls' := [(0, .ref ((xE Γ).1 57)), (1, .int v1), (3, .int v3)]) [0, 1, 3] rfl ?_
    exact pX3_answerEach_71 C M L v1 v3 (v2 + 1) hj25 u1
set_option maxRecDepth 20000 in
set_option maxHeartbeats 4000000 in
theorem pX3_answerEach_25s {Γ : GX} (C : Cx Γ RX3 cX3_answerEach 3) (M : Mx Γ none) (L : xn Γ = 5) (v1 : Int32) {j25 : Int32 → Int32 → Mm → Option Mm} (hj25 : ∀ (v2 : Int32) (v3 : Int32) (u : Mm), Gp Γ (QM Γ cvV) 25 [(0, .ref ((xE Γ).1 57)), (1, .int v1), (2, .int v2), (3, .int v3)] [] u (j25 v2 v3 u)) (v2 : Int32) (v3 : Int32) (u : Mm) : Gp Γ (QM Γ cvV) 25 [(0, .ref ((xE Γ).1 57)), (1, .int v1), (2, .int v2), (3, .int v3)] [] u (gX3_answerEach_25_Ls v1 j25 v2 v3 u) := by
  unfold gX3_answerEach_25_Ls
  refine g_iload_n C dX3_answerEach_25 rfl 3 rfl ?_
  refine g_bipush (v := 40) C dX3_answerEach_26 rfl (by decide) ?_
  refine g_icmp_ge 133 C dX3_answerEach_28 rfl (by decide) (fun c1 => ?_) (fun c1 => ?_)
  · exact g_vret C M dX3_answerEach_133 rfl rfl
  · refine g_aload_n C dX3_answerEach_31 rfl 0 rfl ?_
    refine g_getR (k2 := 69) C dX3_answerEach_32 rfl rfl fi_3_5 ⟨by decide, by decide, rfl⟩ fl_X3_35 ?_
    refine g_iload_n C dX3_answerEach_35 rfl 2 rfl ?_
    refine g_if_ne 49 C dX3_answerEach_36 rfl (by decide) (fun c2 => ?_) (fun c2 => ?_)
    · refine g_iconst (v := 0) C dX3_answerEach_49 rfl (by decide) ?_
      exact pX3_answerEach_50 C M L v1 v2 v3 0 hj25 u
    · refine g_aload_n C dX3_answerEach_39 rfl 0 rfl ?_
      refine g_getR (k2 := 69) C dX3_answerEach_40 rfl rfl fi_3_5 ⟨by decide, by decide, rfl⟩ fl_X3_35 ?_
      refine g_callP [] C dX3_answerEach_43 rfl (tX2_feltAct (xl Γ) (xE Γ) rfl u) cf_X2_feltAct rfl rfl ml_X3_152 rfl (by decide) (Nat.le_of_ble_eq_true rfl) rfl (fun r3 => ?_)
      refine g_goto 50 C dX3_answerEach_46 rfl (by decide) ?_
      exact pX3_answerEach_50 C M L v1 v2 v3 r3 hj25 u
set_option maxRecDepth 20000 in
set_option maxHeartbeats 4000000 in
theorem pX3_answerEach_25 {Γ : GX} (C : Cx Γ RX3 cX3_answerEach 3) (M : Mx Γ none) (L : xn Γ = 5) (v1 : Int32) : ∀ (n : Nat) (v2 : Int32) (v3 : Int32) (u : Mm), Gp Γ (QM Γ cvV) 25 [(0, .ref ((xE Γ).1 57)), (1, .int v1), (2, .int v2), (3, .int v3)] [] u (gX3_answerEach_25_L v1 n v2 v3 u) := by
  intro n
  induction n with
  | zero => intro _ _ _; exact g_none
  | succ n ih => intro v2 v3 u; exact pX3_answerEach_25s C M L v1 ih v2 v3 u

set_option maxRecDepth 20000 in
set_option maxHeartbeats 4000000 in
theorem pX3_answerEach_0 {Γ : GX} (C : Cx Γ RX3 cX3_answerEach 3) (M : Mx Γ none) (L : xn Γ = 5) (v1 : Int32) (u : Mm) : Gp Γ (QM Γ cvV) 0 [(0, .ref ((xE Γ).1 57)), (1, .int v1)] [] u (gX3_answerEach_b v1 u) := by
  unfold gX3_answerEach_b
  refine g_aload_n C dX3_answerEach_0 rfl 0 rfl ?_
  refine g_iconst (v := 0) C dX3_answerEach_1 rfl (by decide) ?_
  refine g_putI C dX3_answerEach_2 rfl rfl fp_3_11 rfl fl_X3_146 ?_
  refine g_letm (fun u1 => ?_)
  refine g_aload_n C dX3_answerEach_5 rfl 0 rfl ?_
  refine g_iconst (v := 0) C dX3_answerEach_6 rfl (by decide) ?_
  refine g_putI C dX3_answerEach_7 rfl rfl fp_3_12 rfl fl_X3_149 ?_
  refine g_letm (fun u2 => ?_)
  refine g_aload_n C dX3_answerEach_10 rfl 0 rfl ?_
  refine g_getR (k2 := 69) C dX3_answerEach_11 rfl rfl fi_3_5 ⟨by decide, by decide, rfl⟩ fl_X3_35 ?_
  refine g_aload_n C dX3_answerEach_14 rfl 0 rfl ?_
  refine g_getR (k2 := 67) C dX3_answerEach_15 rfl rfl fi_3_2 ⟨by decide, by decide, rfl⟩ fl_X3_28 ?_
  refine g_callV [.ref ((xE Γ).1 67)] C dX3_answerEach_18 rfl (tX2_copyFrom (xl Γ) (xE Γ) rfl rfl u2) cf_X2_copyFrom rfl rfl ml_X3_56 rfl (by decide) (Nat.le_of_ble_eq_true rfl) rfl (fun u3 => ?_)
  refine g_iconst (v := 0) C dX3_answerEach_21 rfl (by decide) ?_
  refine g_istore_n (ls' := [(2, .int 0), (0, .ref ((xE Γ).1 57)), (1, .int v1)]) C dX3_answerEach_22 rfl L (by decide) rfl ?_
  refine g_iconst (v := 0) C dX3_answerEach_23 rfl (by decide) ?_
  refine g_istore_n (ls' := [(3, .int 0), (2, .int 0), (0, .ref ((xE Γ).1 57)), (1, .int v1)]) C dX3_answerEach_24 rfl L (by decide) rfl ?_
  refine g_sub (ls' := [(0, .ref ((xE Γ).1 57)), (1, .int v1), (2, .int 0), (3, .int 0)]) [2, 3, 1, 0] rfl ?_
  exact pX3_answerEach_25 C M L v1 FU 0 0 u3
set_option maxRecDepth 20000 in
set_option maxHeartbeats 4000000 in
theorem tX3_answerEach (l : Launch) (E : EE) (v1 : Int32) (u : Mm) : Ct l E yX3_answerEach cX3_answerEach 5 none 3 [.ref (E.1 57), .int v1] u cvV (gX3_answerEach v1 u) :=
  Ct_of (own := RX3) (by decide +kernel) rfl (Nat.le_of_ble_eq_true rfl) (fun p e R s m args below meth c C M => g_sub (ls' := [(0, .ref (E.1 57)), (1, .int v1)]) [0, 1] rfl (pX3_answerEach_0 C M rfl v1 u))
set_option maxRecDepth 20000 in
set_option maxHeartbeats 4000000 in
theorem pX3_swingGrows_0 {Γ : GX} (C : Cx Γ RX3 cX3_swingGrows 0) (M : Mx Γ (some .boolean)) (L : xn Γ = 1) (u : Mm) : Gp Γ (QM Γ (cvP u)) 0 [(0, .ref ((xE Γ).1 57))] [] u (gX3_swingGrows_b u) := by
  unfold gX3_swingGrows_b
  refine g_aload_n C dX3_swingGrows_0 rfl 0 rfl ?_
  refine g_getI C dX3_swingGrows_1 rfl rfl fi_3_12 rfl fl_X3_149 ?_
  refine g_aload_n C dX3_swingGrows_4 rfl 0 rfl ?_
  refine g_getI C dX3_swingGrows_5 rfl rfl fi_3_11 rfl fl_X3_146 ?_
  refine g_icmp_le 15 C dX3_swingGrows_8 rfl (by decide) (fun c1 => ?_) (fun c1 => ?_)
  · refine g_iconst (v := 0) C dX3_swingGrows_15 rfl (by decide) ?_
    exact g_zret C M dX3_swingGrows_16 rfl (by decide) rfl
  · refine g_iconst (v := 1) C dX3_swingGrows_11 rfl (by decide) ?_
    refine g_goto 16 C dX3_swingGrows_12 rfl (by decide) ?_
    exact g_zret C M dX3_swingGrows_16 rfl (by decide) rfl
set_option maxRecDepth 20000 in
set_option maxHeartbeats 4000000 in
theorem tX3_swingGrows (l : Launch) (E : EE) (u : Mm) : Ct l E yX3_swingGrows cX3_swingGrows 1 (some .boolean) 0 [.ref (E.1 57)] u (cvP u) (gX3_swingGrows u) :=
  Ct_of (own := RX3) (by decide +kernel) rfl (Nat.le_of_ble_eq_true rfl) (fun p e R s m args below meth c C M => g_sub (ls' := [(0, .ref (E.1 57))]) [0] rfl (pX3_swingGrows_0 C M rfl u))
set_option maxRecDepth 20000 in
set_option maxHeartbeats 4000000 in
theorem pX3_firstHeightUnlike_13s {Γ : GX} (C : Cx Γ RX3 cX3_firstHeightUnlike 3) (M : Mx Γ (some .int)) (L : xn Γ = 3) {k1 : Nat} (hk1 : kd k1 = 10) {j13 : Int32 → Mm → Option (Int32 × Mm)} (hj13 : ∀ (v2 : Int32) (u : Mm), Gp Γ (QM Γ cvI) 13 [(0, .ref ((xE Γ).1 57)), (1, .ref ((xE Γ).1 k1)), (2, .int v2)] [] u (j13 v2 u)) (v2 : Int32) (u : Mm) : Gp Γ (QM Γ cvI) 13 [(0, .ref ((xE Γ).1 57)), (1, .ref ((xE Γ).1 k1)), (2, .int v2)] [] u (gX3_firstHeightUnlike_13_Ls k1 j13 v2 u) := by
  unfold gX3_firstHeightUnlike_13_Ls
  refine g_iload_n C dX3_firstHeightUnlike_13 rfl 2 rfl ?_
  refine g_aload_n C dX3_firstHeightUnlike_14 rfl 1 rfl ?_
  refine g_getI C dX3_firstHeightUnlike_15 rfl hk1 fi_7_0 rfl fl_X3_163 ?_
  refine g_icmp_ge 62 C dX3_firstHeightUnlike_18 rfl (by decide) (fun c1 => ?_) (fun c1 => ?_)
  · refine g_bipush (v := (-9)) C dX3_firstHeightUnlike_62 rfl (by decide) ?_
    exact g_iret C M dX3_firstHeightUnlike_64 rfl rfl
  · refine g_aload_n C dX3_firstHeightUnlike_21 rfl 0 rfl ?_
    refine g_getR (k2 := 69) C dX3_firstHeightUnlike_22 rfl rfl fi_3_5 ⟨by decide, by decide, rfl⟩ fl_X3_35 ?_
    refine g_aload_n C dX3_firstHeightUnlike_25 rfl 0 rfl ?_
    refine g_getR (k2 := 69) C dX3_firstHeightUnlike_26 rfl rfl fi_3_5 ⟨by decide, by decide, rfl⟩ fl_X3_35 ?_
    refine g_callP [] C dX3_firstHeightUnlike_29 rfl (tX2_holdAct (xl Γ) (xE Γ) rfl u) cf_X2_holdAct rfl rfl ml_X3_90 rfl (by decide) (Nat.le_of_ble_eq_true rfl) rfl (fun r2 => ?_)
    refine g_aload_n C dX3_firstHeightUnlike_32 rfl 0 rfl ?_
    refine g_getR (k2 := 58) C dX3_firstHeightUnlike_33 rfl rfl fi_3_0 ⟨by decide, by decide, rfl⟩ fl_X3_12 ?_
    refine g_callV [.int r2, .ref ((xE Γ).1 58)] C dX3_firstHeightUnlike_36 rfl (tX2_fly (xl Γ) (xE Γ) rfl r2 rfl u) cf_X2_fly rfl rfl ml_X3_94 rfl (by decide) (Nat.le_of_ble_eq_true rfl) rfl (fun u3 => ?_)
    refine g_aload_n C dX3_firstHeightUnlike_39 rfl 0 rfl ?_
    refine g_getR (k2 := 69) C dX3_firstHeightUnlike_40 rfl rfl fi_3_5 ⟨by decide, by decide, rfl⟩ fl_X3_35 ?_
    refine g_getI C dX3_firstHeightUnlike_43 rfl rfl fi_2_0 rfl fl_X3_79 ?_
    refine g_aload_n C dX3_firstHeightUnlike_46 rfl 1 rfl ?_
    refine g_iload_n C dX3_firstHeightUnlike_47 rfl 2 rfl ?_
    refine g_callP [.int v2] C dX3_firstHeightUnlike_48 rfl (tX7_at (xl Γ) (xE Γ) hk1 v2 u3) cf_X7_at hk1 rfl ml_X3_168 rfl (by decide) (Nat.le_of_ble_eq_true rfl) rfl (fun r4 => ?_)
    refine g_icmp_eq 56 C dX3_firstHeightUnlike_51 rfl (by decide) (fun c5 => ?_) (fun c5 => ?_)
    · refine g_iincL (fun v2_6 => [(2, .int v2_6), (0, .ref ((xE Γ).1 57)), (1, .ref ((xE Γ).1 k1))]) C dX3_firstHeightUnlike_56 rfl L (by decide) (k := 2) rfl (iinc_1 _) (fun _ => rfl) (fun v2_6 => ?_)
      refine g_goto 13 C dX3_firstHeightUnlike_59 rfl (by decide) ?_
      refine g_sub (ls' := [(0, .ref ((xE Γ).1 57)), (1, .ref ((xE Γ).1 k1)), (2, .int v2_6)]) [1, 2, 0] rfl ?_
      exact hj13 v2_6 u3
    · refine g_iload_n C dX3_firstHeightUnlike_54 rfl 2 rfl ?_
      exact g_iret C M dX3_firstHeightUnlike_55 rfl rfl
set_option maxRecDepth 20000 in
set_option maxHeartbeats 4000000 in
theorem pX3_firstHeightUnlike_13 {Γ : GX} (C : Cx Γ RX3 cX3_firstHeightUnlike 3) (M : Mx Γ (some .int)) (L : xn Γ = 3) {k1 : Nat} (hk1 : kd k1 = 10) : ∀ (n : Nat) (v2 : Int32) (u : Mm), Gp Γ (QM Γ cvI) 13 [(0, .ref ((xE Γ).1 57)), (1, .ref ((xE Γ).1 k1)), (2, .int v2)] [] u (gX3_firstHeightUnlike_13_L k1 n v2 u) := by
  intro n
  induction n with
  | zero => intro _ _; exact g_none
  | succ n ih => intro v2 u; exact pX3_firstHeightUnlike_13s C M L hk1 ih v2 u

set_option maxRecDepth 20000 in
set_option maxHeartbeats 4000000 in
theorem pX3_firstHeightUnlike_0 {Γ : GX} (C : Cx Γ RX3 cX3_firstHeightUnlike 3) (M : Mx Γ (some .int)) (L : xn Γ = 3) {k1 : Nat} (hk1 : kd k1 = 10) (u : Mm) : Gp Γ (QM Γ cvI) 0 [(0, .ref ((xE Γ).1 57)), (1, .ref ((xE Γ).1 k1))] [] u (gX3_firstHeightUnlike_b k1 u) := by
  unfold gX3_firstHeightUnlike_b
  refine g_aload_n C dX3_firstHeightUnlike_0 rfl 0 rfl ?_
  refine g_getR (k2 := 69) C dX3_firstHeightUnlike_1 rfl rfl fi_3_5 ⟨by decide, by decide, rfl⟩ fl_X3_35 ?_
  refine g_aload_n C dX3_firstHeightUnlike_4 rfl 0 rfl ?_
  refine g_getR (k2 := 67) C dX3_firstHeightUnlike_5 rfl rfl fi_3_2 ⟨by decide, by decide, rfl⟩ fl_X3_28 ?_
  refine g_callV [.ref ((xE Γ).1 67)] C dX3_firstHeightUnlike_8 rfl (tX2_copyFrom (xl Γ) (xE Γ) rfl rfl u) cf_X2_copyFrom rfl rfl ml_X3_56 rfl (by decide) (Nat.le_of_ble_eq_true rfl) rfl (fun u1 => ?_)
  refine g_iconst (v := 0) C dX3_firstHeightUnlike_11 rfl (by decide) ?_
  refine g_istore_n (ls' := [(2, .int 0), (0, .ref ((xE Γ).1 57)), (1, .ref ((xE Γ).1 k1))]) C dX3_firstHeightUnlike_12 rfl L (by decide) rfl ?_
  refine g_sub (ls' := [(0, .ref ((xE Γ).1 57)), (1, .ref ((xE Γ).1 k1)), (2, .int 0)]) [1, 2, 0] rfl ?_
  exact pX3_firstHeightUnlike_13 C M L hk1 FU 0 u1
set_option maxRecDepth 20000 in
set_option maxHeartbeats 4000000 in
theorem tX3_firstHeightUnlike (l : Launch) (E : EE) {k1 : Nat} (hk1 : kd k1 = 10) (u : Mm) : Ct l E yX3_firstHeightUnlike cX3_firstHeightUnlike 3 (some .int) 3 [.ref (E.1 57), .ref (E.1 k1)] u cvI (gX3_firstHeightUnlike k1 u) :=
  Ct_of (own := RX3) (by decide +kernel) rfl (Nat.le_of_ble_eq_true rfl) (fun p e R s m args below meth c C M => g_sub (ls' := [(0, .ref (E.1 57)), (1, .ref (E.1 k1))]) [0, 1] rfl (pX3_firstHeightUnlike_0 C M rfl hk1 u))
set_option maxRecDepth 20000 in
set_option maxHeartbeats 4000000 in
theorem pX3_flyActs_13s {Γ : GX} (C : Cx Γ RX3 cX3_flyActs 3) (M : Mx Γ none) (L : xn Γ = 3) {k1 : Nat} (hk1 : kd k1 = 10) {j13 : Int32 → Mm → Option Mm} (hj13 : ∀ (v2 : Int32) (u : Mm), Gp Γ (QM Γ cvV) 13 [(0, .ref ((xE Γ).1 57)), (1, .ref ((xE Γ).1 k1)), (2, .int v2)] [] u (j13 v2 u)) (v2 : Int32) (u : Mm) : Gp Γ (QM Γ cvV) 13 [(0, .ref ((xE Γ).1 57)), (1, .ref ((xE Γ).1 k1)), (2, .int v2)] [] u (gX3_flyActs_13_Ls k1 j13 v2 u) := by
  unfold gX3_flyActs_13_Ls
  refine g_iload_n C dX3_flyActs_13 rfl 2 rfl ?_
  refine g_aload_n C dX3_flyActs_14 rfl 1 rfl ?_
  refine g_getI C dX3_flyActs_15 rfl hk1 fi_7_0 rfl fl_X3_163 ?_
  refine g_icmp_ge 52 C dX3_flyActs_18 rfl (by decide) (fun c1 => ?_) (fun c1 => ?_)
  · exact g_vret C M dX3_flyActs_52 rfl rfl
  · refine g_aload_n C dX3_flyActs_21 rfl 0 rfl ?_
    refine g_getR (k2 := 69) C dX3_flyActs_22 rfl rfl fi_3_5 ⟨by decide, by decide, rfl⟩ fl_X3_35 ?_
    refine g_aload_n C dX3_flyActs_25 rfl 0 rfl ?_
    refine g_getR (k2 := 69) C dX3_flyActs_26 rfl rfl fi_3_5 ⟨by decide, by decide, rfl⟩ fl_X3_35 ?_
    refine g_aload_n C dX3_flyActs_29 rfl 1 rfl ?_
    refine g_iload_n C dX3_flyActs_30 rfl 2 rfl ?_
    refine g_callP [.int v2] C dX3_flyActs_31 rfl (tX7_at (xl Γ) (xE Γ) hk1 v2 u) cf_X7_at hk1 rfl ml_X3_168 rfl (by decide) (Nat.le_of_ble_eq_true rfl) rfl (fun r2 => ?_)
    refine g_iconst (v := 3) C dX3_flyActs_34 rfl (by decide) ?_
    refine g_irem C dX3_flyActs_35 rfl (by decide) ?_
    refine g_callP [.int (irm r2 3)] C dX3_flyActs_36 rfl (tX2_able (xl Γ) (xE Γ) rfl (irm r2 3) u) cf_X2_able rfl rfl ml_X3_171 rfl (by decide) (Nat.le_of_ble_eq_true rfl) rfl (fun r3 => ?_)
    refine g_aload_n C dX3_flyActs_39 rfl 0 rfl ?_
    refine g_getR (k2 := 58) C dX3_flyActs_40 rfl rfl fi_3_0 ⟨by decide, by decide, rfl⟩ fl_X3_12 ?_
    refine g_callV [.int r3, .ref ((xE Γ).1 58)] C dX3_flyActs_43 rfl (tX2_fly (xl Γ) (xE Γ) rfl r3 rfl u) cf_X2_fly rfl rfl ml_X3_94 rfl (by decide) (Nat.le_of_ble_eq_true rfl) rfl (fun u4 => ?_)
    refine g_iincL (fun v2_5 => [(2, .int v2_5), (0, .ref ((xE Γ).1 57)), (1, .ref ((xE Γ).1 k1))]) C dX3_flyActs_46 rfl L (by decide) (k := 2) rfl (iinc_1 _) (fun _ => rfl) (fun v2_5 => ?_)
    refine g_goto 13 C dX3_flyActs_49 rfl (by decide) ?_
    refine g_sub (ls' := [(0, .ref ((xE Γ).1 57)), (1, .ref ((xE Γ).1 k1)), (2, .int v2_5)]) [1, 2, 0] rfl ?_
    exact hj13 v2_5 u4
set_option maxRecDepth 20000 in
set_option maxHeartbeats 4000000 in
theorem pX3_flyActs_13 {Γ : GX} (C : Cx Γ RX3 cX3_flyActs 3) (M : Mx Γ none) (L : xn Γ = 3) {k1 : Nat} (hk1 : kd k1 = 10) : ∀ (n : Nat) (v2 : Int32) (u : Mm), Gp Γ (QM Γ cvV) 13 [(0, .ref ((xE Γ).1 57)), (1, .ref ((xE Γ).1 k1)), (2, .int v2)] [] u (gX3_flyActs_13_L k1 n v2 u) := by
  intro n
  induction n with
  | zero => intro _ _; exact g_none
  | succ n ih => intro v2 u; exact pX3_flyActs_13s C M L hk1 ih v2 u

set_option maxRecDepth 20000 in
set_option maxHeartbeats 4000000 in
theorem pX3_flyActs_0 {Γ : GX} (C : Cx Γ RX3 cX3_flyActs 3) (M : Mx Γ none) (L : xn Γ = 3) {k1 : Nat} (hk1 : kd k1 = 10) (u : Mm) : Gp Γ (QM Γ cvV) 0 [(0, .ref ((xE Γ).1 57)), (1, .ref ((xE Γ).1 k1))] [] u (gX3_flyActs_b k1 u) := by
  unfold gX3_flyActs_b
  refine g_aload_n C dX3_flyActs_0 rfl 0 rfl ?_
  refine g_getR (k2 := 69) C dX3_flyActs_1 rfl rfl fi_3_5 ⟨by decide, by decide, rfl⟩ fl_X3_35 ?_
  refine g_aload_n C dX3_flyActs_4 rfl 0 rfl ?_
  refine g_getR (k2 := 67) C dX3_flyActs_5 rfl rfl fi_3_2 ⟨by decide, by decide, rfl⟩ fl_X3_28 ?_
  refine g_callV [.ref ((xE Γ).1 67)] C dX3_flyActs_8 rfl (tX2_copyFrom (xl Γ) (xE Γ) rfl rfl u) cf_X2_copyFrom rfl rfl ml_X3_56 rfl (by decide) (Nat.le_of_ble_eq_true rfl) rfl (fun u1 => ?_)
  refine g_iconst (v := 0) C dX3_flyActs_11 rfl (by decide) ?_
  refine g_istore_n (ls' := [(2, .int 0), (0, .ref ((xE Γ).1 57)), (1, .ref ((xE Γ).1 k1))]) C dX3_flyActs_12 rfl L (by decide) rfl ?_
  refine g_sub (ls' := [(0, .ref ((xE Γ).1 57)), (1, .ref ((xE Γ).1 k1)), (2, .int 0)]) [1, 2, 0] rfl ?_
  exact pX3_flyActs_13 C M L hk1 FU 0 u1
set_option maxRecDepth 20000 in
set_option maxHeartbeats 4000000 in
theorem tX3_flyActs (l : Launch) (E : EE) {k1 : Nat} (hk1 : kd k1 = 10) (u : Mm) : Ct l E yX3_flyActs cX3_flyActs 3 none 3 [.ref (E.1 57), .ref (E.1 k1)] u cvV (gX3_flyActs k1 u) :=
  Ct_of (own := RX3) (by decide +kernel) rfl (Nat.le_of_ble_eq_true rfl) (fun p e R s m args below meth c C M => g_sub (ls' := [(0, .ref (E.1 57)), (1, .ref (E.1 k1))]) [0, 1] rfl (pX3_flyActs_0 C M rfl hk1 u))
set_option maxRecDepth 20000 in
set_option maxHeartbeats 4000000 in
theorem pX3_flyOneByLot_84 {Γ : GX} (C : Cx Γ RX3 cX3_flyOneByLot 3) (M : Mx Γ (some .int)) (L : xn Γ = 6) (v2 : Int32) (v4 : Int32) (s0 : Int32) {j18 : Int32 → Int32 → Int32 → Mm → Option (Int32 × Mm)} (hj18 : ∀ (v2 : Int32) (v3 : Int32) (v4 : Int32) (u : Mm), Gp Γ (QM Γ cvI) 18 [(0, .ref ((xE Γ).1 57)), (2, .int v2), (3, .int v3), (4, .int v4)] [] u (j18 v2 v3 v4 u)) (u : Mm) : Gp Γ (QM Γ cvI) 84 [(0, .ref ((xE Γ).1 57)), (2, .int v2), (4, .int v4)] [.int s0] u (gX3_flyOneByLot_84 j18 v2 v4 s0 u) := by
  unfold gX3_flyOneByLot_84
  refine g_istore_n (ls' := [(3, .int s0), (0, .ref ((xE Γ).1 57)), (2, .int v2), (4, .int v4)]) C dX3_flyOneByLot_84 rfl L (by decide) rfl ?_
  refine g_iincL (fun v4_1 => [(4, .int v4_1), (3, .int s0), (0, .ref ((xE Γ).1 57)), (2, .int v2)]) C dX3_flyOneByLot_85 rfl L (by decide) (k := 3) rfl (iinc_1 _) (fun _ => rfl) (fun v4_1 => ?_)
  refine g_goto 18 C dX3_flyOneByLot_88 rfl (by decide) ?_
  refine g_sub (ls' := [(0, .ref ((xE Γ).1 57)), (2, .int v2), (3, .int s0), (4, .int v4_1)]) [2, 3, 1, 0] rfl ?_
  exact hj18 v2 s0 v4_1 u
set_option maxRecDepth 20000 in
set_option maxHeartbeats 4000000 in
theorem pX3_flyOneByLot_18s {Γ : GX} (C : Cx Γ RX3 cX3_flyOneByLot 3) (M : Mx Γ (some .int)) (L : xn Γ = 6) {j18 : Int32 → Int32 → Int32 → Mm → Option (Int32 × Mm)} (hj18 : ∀ (v2 : Int32) (v3 : Int32) (v4 : Int32) (u : Mm), Gp Γ (QM Γ cvI) 18 [(0, .ref ((xE Γ).1 57)), (2, .int v2), (3, .int v3), (4, .int v4)] [] u (j18 v2 v3 v4 u)) (v2 : Int32) (v3 : Int32) (v4 : Int32) (u : Mm) : Gp Γ (QM Γ cvI) 18 [(0, .ref ((xE Γ).1 57)), (2, .int v2), (3, .int v3), (4, .int v4)] [] u (gX3_flyOneByLot_18_Ls j18 v2 v3 v4 u) := by
  unfold gX3_flyOneByLot_18_Ls
  refine g_iload C dX3_flyOneByLot_18 rfl 3 rfl ?_
  refine g_bipush (v := 40) C dX3_flyOneByLot_20 rfl (by decide) ?_
  refine g_icmp_ge 91 C dX3_flyOneByLot_22 rfl (by decide) (fun c1 => ?_) (fun c1 => ?_)
  · refine g_iload_n C dX3_flyOneByLot_91 rfl 1 rfl ?_
    exact g_iret C M dX3_flyOneByLot_92 rfl rfl
  · refine g_iload_n C dX3_flyOneByLot_25 rfl 2 rfl ?_
    refine g_if_ne 91 C dX3_flyOneByLot_26 rfl (by decide) (fun c2 => ?_) (fun c2 => ?_)
    · refine g_iload_n C dX3_flyOneByLot_91 rfl 1 rfl ?_
      exact g_iret C M dX3_flyOneByLot_92 rfl rfl
    · refine g_iload_n C dX3_flyOneByLot_29 rfl 1 rfl ?_
      refine g_ldc (v := 1103515245) C dX3_flyOneByLot_30 rfl (wm_47 14 rfl) ?_
      refine g_imul C dX3_flyOneByLot_32 rfl ?_
      refine g_sipush (v := 12345) C dX3_flyOneByLot_33 rfl (by decide) ?_
      refine g_iadd C dX3_flyOneByLot_36 rfl ?_
      refine g_lets (fun v2_3 => ?_)
      refine g_istore_n (ls' := [(2, .int v2_3), (0, .ref ((xE Γ).1 57)), (3, .int v3), (4, .int v4)]) C dX3_flyOneByLot_37 rfl L (by decide) rfl ?_
      refine g_iload_n C dX3_flyOneByLot_38 rfl 0 rfl ?_
      refine g_ldc (v := 2147483647) C dX3_flyOneByLot_39 rfl (wm_47 15 rfl) ?_
      refine g_iand C dX3_flyOneByLot_41 rfl ?_
      refine g_ldc (v := 65536) C dX3_flyOneByLot_42 rfl (wm_47 16 rfl) ?_
      refine g_idiv C dX3_flyOneByLot_44 rfl (by decide) ?_
      refine g_iconst (v := 3) C dX3_flyOneByLot_45 rfl (by decide) ?_
      refine g_irem C dX3_flyOneByLot_46 rfl (by decide) ?_
      refine g_lets (fun v5_4 => ?_)
      refine g_istore (ls' := [(5, .int v5_4), (2, .int v2_3), (0, .ref ((xE Γ).1 57)), (3, .int v3), (4, .int v4)]) C dX3_flyOneByLot_47 rfl L (by decide) rfl ?_
      refine g_aload_n C dX3_flyOneByLot_49 rfl 2 rfl ?_
      refine g_getR (k2 := 69) C dX3_flyOneByLot_50 rfl rfl fi_3_5 ⟨by decide, by decide, rfl⟩ fl_X3_35 ?_
      refine g_aload_n C dX3_flyOneByLot_53 rfl 2 rfl ?_
      refine g_getR (k2 := 69) C dX3_flyOneByLot_54 rfl rfl fi_3_5 ⟨by decide, by decide, rfl⟩ fl_X3_35 ?_
      refine g_iload C dX3_flyOneByLot_57 rfl 0 rfl ?_
      refine g_callP [.int v5_4] C dX3_flyOneByLot_59 rfl (tX2_able (xl Γ) (xE Γ) rfl v5_4 u) cf_X2_able rfl rfl ml_X3_171 rfl (by decide) (Nat.le_of_ble_eq_true rfl) rfl (fun r5 => ?_)
      refine g_aload_n C dX3_flyOneByLot_62 rfl 2 rfl ?_
      refine g_getR (k2 := 58) C dX3_flyOneByLot_63 rfl rfl fi_3_0 ⟨by decide, by decide, rfl⟩ fl_X3_12 ?_
      refine g_callV [.int r5, .ref ((xE Γ).1 58)] C dX3_flyOneByLot_66 rfl (tX2_fly (xl Γ) (xE Γ) rfl r5 rfl u) cf_X2_fly rfl rfl ml_X3_94 rfl (by decide) (Nat.le_of_ble_eq_true rfl) rfl (fun u6 => ?_)
      refine g_aload_n C dX3_flyOneByLot_69 rfl 2 rfl ?_
      refine g_getR (k2 := 69) C dX3_flyOneByLot_70 rfl rfl fi_3_5 ⟨by decide, by decide, rfl⟩ fl_X3_35 ?_
      refine g_getI C dX3_flyOneByLot_73 rfl rfl fi_2_0 rfl fl_X3_79 ?_
      refine g_if_ne 83 C dX3_flyOneByLot_76 rfl (by decide) (fun c7 => ?_) (fun c7 => ?_)
      · refine g_iconst (v := 0) C dX3_flyOneByLot_83 rfl (by decide) ?_
        refine g_sub (ls' := [(0, .ref ((xE Γ).1 57)), (2, .int v2_3), (4, .int v4)]) [2, 1, 4] rfl ?_
        exact pX3_flyOneByLot_84 C M L v2_3 v4 0 hj18 u6
      · refine g_iconst (v := 1) C dX3_flyOneByLot_79 rfl (by decide) ?_
        refine g_goto 84 C dX3_flyOneByLot_80 rfl (by decide) ?_
        refine g_sub (ls' := [(0, .ref ((xE Γ).1 57)), (2, .int v2_3), (4, .int v4)]) [2, 1, 4] rfl ?_
        exact pX3_flyOneByLot_84 C M L v2_3 v4 1 hj18 u6
set_option maxRecDepth 20000 in
set_option maxHeartbeats 4000000 in
theorem pX3_flyOneByLot_18 {Γ : GX} (C : Cx Γ RX3 cX3_flyOneByLot 3) (M : Mx Γ (some .int)) (L : xn Γ = 6) : ∀ (n : Nat) (v2 : Int32) (v3 : Int32) (v4 : Int32) (u : Mm), Gp Γ (QM Γ cvI) 18 [(0, .ref ((xE Γ).1 57)), (2, .int v2), (3, .int v3), (4, .int v4)] [] u (gX3_flyOneByLot_18_L n v2 v3 v4 u) := by
  intro n
  induction n with
  | zero => intro _ _ _ _; exact g_none
  | succ n ih => intro v2 v3 v4 u; exact pX3_flyOneByLot_18s C M L ih v2 v3 v4 u

set_option maxRecDepth 20000 in
set_option maxHeartbeats 4000000 in
theorem pX3_flyOneByLot_0 {Γ : GX} (C : Cx Γ RX3 cX3_flyOneByLot 3) (M : Mx Γ (some .int)) (L : xn Γ = 6) (v1 : Int32) (u : Mm) : Gp Γ (QM Γ cvI) 0 [(0, .ref ((xE Γ).1 57)), (1, .int v1)] [] u (gX3_flyOneByLot_b v1 u) := by
  unfold gX3_flyOneByLot_b
  refine g_iload_n C dX3_flyOneByLot_0 rfl 1 rfl ?_
  refine g_istore_n (ls' := [(2, .int v1), (0, .ref ((xE Γ).1 57)), (1, .int v1)]) C dX3_flyOneByLot_1 rfl L (by decide) rfl ?_
  refine g_aload_n C dX3_flyOneByLot_2 rfl 1 rfl ?_
  refine g_getR (k2 := 69) C dX3_flyOneByLot_3 rfl rfl fi_3_5 ⟨by decide, by decide, rfl⟩ fl_X3_35 ?_
  refine g_aload_n C dX3_flyOneByLot_6 rfl 1 rfl ?_
  refine g_getR (k2 := 67) C dX3_flyOneByLot_7 rfl rfl fi_3_2 ⟨by decide, by decide, rfl⟩ fl_X3_28 ?_
  refine g_callV [.ref ((xE Γ).1 67)] C dX3_flyOneByLot_10 rfl (tX2_copyFrom (xl Γ) (xE Γ) rfl rfl u) cf_X2_copyFrom rfl rfl ml_X3_56 rfl (by decide) (Nat.le_of_ble_eq_true rfl) rfl (fun u1 => ?_)
  refine g_iconst (v := 0) C dX3_flyOneByLot_13 rfl (by decide) ?_
  refine g_istore_n (ls' := [(3, .int 0), (2, .int v1), (0, .ref ((xE Γ).1 57)), (1, .int v1)]) C dX3_flyOneByLot_14 rfl L (by decide) rfl ?_
  refine g_iconst (v := 0) C dX3_flyOneByLot_15 rfl (by decide) ?_
  refine g_istore (ls' := [(4, .int 0), (3, .int 0), (2, .int v1), (0, .ref ((xE Γ).1 57)), (1, .int v1)]) C dX3_flyOneByLot_16 rfl L (by decide) rfl ?_
  refine g_sub (ls' := [(0, .ref ((xE Γ).1 57)), (2, .int v1), (3, .int 0), (4, .int 0)]) [3, 2, 1, 0] rfl ?_
  exact pX3_flyOneByLot_18 C M L FU v1 0 0 u1
set_option maxRecDepth 20000 in
set_option maxHeartbeats 4000000 in
theorem tX3_flyOneByLot (l : Launch) (E : EE) (v1 : Int32) (u : Mm) : Ct l E yX3_flyOneByLot cX3_flyOneByLot 6 (some .int) 3 [.ref (E.1 57), .int v1] u cvI (gX3_flyOneByLot v1 u) :=
  Ct_of (own := RX3) (by decide +kernel) rfl (Nat.le_of_ble_eq_true rfl) (fun p e R s m args below meth c C M => g_sub (ls' := [(0, .ref (E.1 57)), (1, .int v1)]) [0, 1] rfl (pX3_flyOneByLot_0 C M rfl v1 u))
set_option maxRecDepth 20000 in
set_option maxHeartbeats 4000000 in
theorem pX3_flyByLot_91 {Γ : GX} (C : Cx Γ RX3 cX3_flyByLot 4) (M : Mx Γ none) (L : xn Γ = 6) (v1 : Int32) (v3 : Int32) (v4 : Int32) (s0 : Int32) (s1 : Int32) {j15 : Int32 → Int32 → Mm → Option Mm} (hj15 : ∀ (v3 : Int32) (v4 : Int32) (u : Mm), Gp Γ (QM Γ cvV) 15 [(0, .ref ((xE Γ).1 57)), (1, .int v1), (3, .int v3), (4, .int v4)] [] u (j15 v3 v4 u)) (u : Mm) : Gp Γ (QM Γ cvV) 91 [(0, .ref ((xE Γ).1 57)), (1, .int v1), (3, .int v3), (4, .int v4)] [.int s0, .int s1, .ref ((xE Γ).1 57)] u (gX3_flyByLot_91 j15 v1 v3 v4 s0 s1 u) := by
  unfold gX3_flyByLot_91
  refine g_iadd C dX3_flyByLot_91 rfl ?_
  refine g_putI C dX3_flyByLot_92 rfl rfl fp_3_13 rfl fl_X3_174 ?_
  refine g_letm (fun u1 => ?_)
  refine g_iincL (fun v4_2 => [(4, .int v4_2), (0, .ref ((xE Γ).1 57)), (1, .int v1), (3, .int v3)]) C dX3_flyByLot_95 rfl L (by decide) (k := 3) rfl (iinc_1 _) (fun _ => rfl) (fun v4_2 => ?_)
  refine g_goto 15 C dX3_flyByLot_98 rfl (by decide) ?_
  refine g_sub (ls' := [(0, .ref ((xE Γ).1 57)), (1, .int v1), (3, .int v3), (4, .int v4_2)]) [1, 2, 3, 0] rfl ?_
  exact hj15 v3 v4_2 u1
set_option maxRecDepth 20000 in
set_option maxHeartbeats 4000000 in
theorem pX3_flyByLot_90 {Γ : GX} (C : Cx Γ RX3 cX3_flyByLot 4) (M : Mx Γ none) (L : xn Γ = 6) (v1 : Int32) (v3 : Int32) (v4 : Int32) (s0 : Int32) {j15 : Int32 → Int32 → Mm → Option Mm} (hj15 : ∀ (v3 : Int32) (v4 : Int32) (u : Mm), Gp Γ (QM Γ cvV) 15 [(0, .ref ((xE Γ).1 57)), (1, .int v1), (3, .int v3), (4, .int v4)] [] u (j15 v3 v4 u)) (u : Mm) : Gp Γ (QM Γ cvV) 90 [(0, .ref ((xE Γ).1 57)), (1, .int v1), (3, .int v3), (4, .int v4)] [.int s0, .ref ((xE Γ).1 57)] u (gX3_flyByLot_90 j15 v1 v3 v4 s0 u) := by
  unfold gX3_flyByLot_90
  refine g_iconst (v := 0) C dX3_flyByLot_90 rfl (by decide) ?_
  exact pX3_flyByLot_91 C M L v1 v3 v4 0 s0 hj15 u
set_option maxRecDepth 20000 in
set_option maxHeartbeats 4000000 in
theorem pX3_flyByLot_63 {Γ : GX} (C : Cx Γ RX3 cX3_flyByLot 4) (M : Mx Γ none) (L : xn Γ = 6) (v1 : Int32) (v3 : Int32) (v4 : Int32) (v5 : Int32) (s0 : Int32) (s1 : Int32) {j15 : Int32 → Int32 → Mm → Option Mm} (hj15 : ∀ (v3 : Int32) (v4 : Int32) (u : Mm), Gp Γ (QM Γ cvV) 15 [(0, .ref ((xE Γ).1 57)), (1, .int v1), (3, .int v3), (4, .int v4)] [] u (j15 v3 v4 u)) (u : Mm) : Gp Γ (QM Γ cvV) 63 [(0, .ref ((xE Γ).1 57)), (1, .int v1), (3, .int v3), (4, .int v4), (5, .int v5)] [.int s0, .int s1, .ref ((xE Γ).1 57)] u (gX3_flyByLot_63 j15 v1 v3 v4 v5 s0 s1 u) := by
  unfold gX3_flyByLot_63
  refine g_iadd C dX3_flyByLot_63 rfl ?_
  refine g_putI C dX3_flyByLot_64 rfl rfl fp_3_14 rfl fl_X3_177 ?_
  refine g_letm (fun u1 => ?_)
  refine g_aload_n C dX3_flyByLot_67 rfl 0 rfl ?_
  refine g_dup C dX3_flyByLot_68 rfl rfl ?_
  refine g_getI C dX3_flyByLot_69 rfl rfl fi_3_13 rfl fl_X3_174 ?_
  refine g_iload C dX3_flyByLot_72 rfl 4 rfl ?_
  refine g_if_eq 90 C dX3_flyByLot_74 rfl (by decide) (fun c2 => ?_) (fun c2 => ?_)
  · refine g_sub (ls' := [(0, .ref ((xE Γ).1 57)), (1, .int v1), (3, .int v3), (4, .int v4)]) [0, 1, 2, 3] rfl ?_
    exact pX3_flyByLot_90 C M L v1 v3 v4 (u1 57 13) hj15 u1
  · refine g_aload_n C dX3_flyByLot_77 rfl 0 rfl ?_
    refine g_callP [] C dX3_flyByLot_78 rfl (tX3_fieldThere (xl Γ) (xE Γ) u1) cf_X3_fieldThere rfl rfl ml_X3_114 rfl (by decide) (Nat.le_of_ble_eq_true rfl) rfl (fun r3 => ?_)
    refine g_bipush (v := (-9)) C dX3_flyByLot_81 rfl (by decide) ?_
    refine g_icmp_eq 90 C dX3_flyByLot_83 rfl (by decide) (fun c4 => ?_) (fun c4 => ?_)
    · refine g_sub (ls' := [(0, .ref ((xE Γ).1 57)), (1, .int v1), (3, .int v3), (4, .int v4)]) [0, 1, 2, 3] rfl ?_
      exact pX3_flyByLot_90 C M L v1 v3 v4 (u1 57 13) hj15 u1
    · refine g_iconst (v := 1) C dX3_flyByLot_86 rfl (by decide) ?_
      refine g_goto 91 C dX3_flyByLot_87 rfl (by decide) ?_
      refine g_sub (ls' := [(0, .ref ((xE Γ).1 57)), (1, .int v1), (3, .int v3), (4, .int v4)]) [0, 1, 2, 3] rfl ?_
      exact pX3_flyByLot_91 C M L v1 v3 v4 1 (u1 57 13) hj15 u1
set_option maxRecDepth 20000 in
set_option maxHeartbeats 4000000 in
theorem pX3_flyByLot_42 {Γ : GX} (C : Cx Γ RX3 cX3_flyByLot 4) (M : Mx Γ none) (L : xn Γ = 6) (v1 : Int32) (v3 : Int32) (v4 : Int32) (s0 : Int32) {j15 : Int32 → Int32 → Mm → Option Mm} (hj15 : ∀ (v3 : Int32) (v4 : Int32) (u : Mm), Gp Γ (QM Γ cvV) 15 [(0, .ref ((xE Γ).1 57)), (1, .int v1), (3, .int v3), (4, .int v4)] [] u (j15 v3 v4 u)) (u : Mm) : Gp Γ (QM Γ cvV) 42 [(0, .ref ((xE Γ).1 57)), (1, .int v1), (3, .int v3), (4, .int v4)] [.int s0] u (gX3_flyByLot_42 j15 v1 v3 v4 s0 u) := by
  unfold gX3_flyByLot_42
  refine g_istore (ls' := [(5, .int s0), (0, .ref ((xE Γ).1 57)), (1, .int v1), (3, .int v3), (4, .int v4)]) C dX3_flyByLot_42 rfl L (by decide) rfl ?_
  refine g_aload_n C dX3_flyByLot_44 rfl 1 rfl ?_
  refine g_dup C dX3_flyByLot_45 rfl rfl ?_
  refine g_getI C dX3_flyByLot_46 rfl rfl fi_3_14 rfl fl_X3_177 ?_
  refine g_iload C dX3_flyByLot_49 rfl 0 rfl ?_
  refine g_if_eq 61 C dX3_flyByLot_51 rfl (by decide) (fun c1 => ?_) (fun c1 => ?_)
  · refine g_bipush (v := 40) C dX3_flyByLot_61 rfl (by decide) ?_
    refine g_sub (ls' := [(0, .ref ((xE Γ).1 57)), (1, .int v1), (3, .int v3), (4, .int v4), (5, .int s0)]) [1, 2, 3, 4, 0] rfl ?_
    exact pX3_flyByLot_63 C M L v1 v3 v4 s0 40 (u 57 14) hj15 u
  · refine g_aload_n C dX3_flyByLot_54 rfl 1 rfl ?_
    refine g_callP [] C dX3_flyByLot_55 rfl (tX3_costThere (xl Γ) (xE Γ) u) cf_X3_costThere rfl rfl ml_X3_143 rfl (by decide) (Nat.le_of_ble_eq_true rfl) rfl (fun r2 => ?_)
    refine g_goto 63 C dX3_flyByLot_58 rfl (by decide) ?_
    refine g_sub (ls' := [(0, .ref ((xE Γ).1 57)), (1, .int v1), (3, .int v3), (4, .int v4), (5, .int s0)]) [1, 2, 3, 4, 0] rfl ?_
    exact pX3_flyByLot_63 C M L v1 v3 v4 s0 r2 (u 57 14) hj15 u
set_option maxRecDepth 20000 in
set_option maxHeartbeats 4000000 in
theorem pX3_flyByLot_15s {Γ : GX} (C : Cx Γ RX3 cX3_flyByLot 4) (M : Mx Γ none) (L : xn Γ = 6) (v1 : Int32) {j15 : Int32 → Int32 → Mm → Option Mm} (hj15 : ∀ (v3 : Int32) (v4 : Int32) (u : Mm), Gp Γ (QM Γ cvV) 15 [(0, .ref ((xE Γ).1 57)), (1, .int v1), (3, .int v3), (4, .int v4)] [] u (j15 v3 v4 u)) (v3 : Int32) (v4 : Int32) (u : Mm) : Gp Γ (QM Γ cvV) 15 [(0, .ref ((xE Γ).1 57)), (1, .int v1), (3, .int v3), (4, .int v4)] [] u (gX3_flyByLot_15_Ls v1 j15 v3 v4 u) := by
  unfold gX3_flyByLot_15_Ls
  refine g_iload C dX3_flyByLot_15 rfl 3 rfl ?_
  refine g_iload_n C dX3_flyByLot_17 rfl 1 rfl ?_
  refine g_icmp_ge 101 C dX3_flyByLot_18 rfl (by decide) (fun c1 => ?_) (fun c1 => ?_)
  · exact g_vret C M dX3_flyByLot_101 rfl rfl
  · refine g_aload_n C dX3_flyByLot_21 rfl 0 rfl ?_
    refine g_iload_n C dX3_flyByLot_22 rfl 2 rfl ?_
    refine g_callI [.int v3] C dX3_flyByLot_23 rfl (tX3_flyOneByLot (xl Γ) (xE Γ) v3 u) cf_X3_flyOneByLot rfl rfl ml_X3_180 rfl (by decide) (Nat.le_of_ble_eq_true rfl) rfl (fun r3 u2 => ?_)
    refine g_istore_n (ls' := [(3, .int r3), (0, .ref ((xE Γ).1 57)), (1, .int v1), (4, .int v4)]) C dX3_flyByLot_26 rfl L (by decide) rfl ?_
    refine g_aload_n C dX3_flyByLot_27 rfl 1 rfl ?_
    refine g_getR (k2 := 69) C dX3_flyByLot_28 rfl rfl fi_3_5 ⟨by decide, by decide, rfl⟩ fl_X3_35 ?_
    refine g_getI C dX3_flyByLot_31 rfl rfl fi_2_0 rfl fl_X3_79 ?_
    refine g_if_ne 41 C dX3_flyByLot_34 rfl (by decide) (fun c4 => ?_) (fun c4 => ?_)
    · refine g_iconst (v := 0) C dX3_flyByLot_41 rfl (by decide) ?_
      refine g_sub (ls' := [(0, .ref ((xE Γ).1 57)), (1, .int v1), (3, .int r3), (4, .int v4)]) [1, 2, 0, 3] rfl ?_
      exact pX3_flyByLot_42 C M L v1 r3 v4 0 hj15 u2
    · refine g_iconst (v := 1) C dX3_flyByLot_37 rfl (by decide) ?_
      refine g_goto 42 C dX3_flyByLot_38 rfl (by decide) ?_
      refine g_sub (ls' := [(0, .ref ((xE Γ).1 57)), (1, .int v1), (3, .int r3), (4, .int v4)]) [1, 2, 0, 3] rfl ?_
      exact pX3_flyByLot_42 C M L v1 r3 v4 1 hj15 u2
set_option maxRecDepth 20000 in
set_option maxHeartbeats 4000000 in
theorem pX3_flyByLot_15 {Γ : GX} (C : Cx Γ RX3 cX3_flyByLot 4) (M : Mx Γ none) (L : xn Γ = 6) (v1 : Int32) : ∀ (n : Nat) (v3 : Int32) (v4 : Int32) (u : Mm), Gp Γ (QM Γ cvV) 15 [(0, .ref ((xE Γ).1 57)), (1, .int v1), (3, .int v3), (4, .int v4)] [] u (gX3_flyByLot_15_L v1 n v3 v4 u) := by
  intro n
  induction n with
  | zero => intro _ _ _; exact g_none
  | succ n ih => intro v3 v4 u; exact pX3_flyByLot_15s C M L v1 ih v3 v4 u

set_option maxRecDepth 20000 in
set_option maxHeartbeats 4000000 in
theorem pX3_flyByLot_0 {Γ : GX} (C : Cx Γ RX3 cX3_flyByLot 4) (M : Mx Γ none) (L : xn Γ = 6) (v1 : Int32) (v2 : Int32) (u : Mm) : Gp Γ (QM Γ cvV) 0 [(0, .ref ((xE Γ).1 57)), (1, .int v1), (2, .int v2)] [] u (gX3_flyByLot_b v1 v2 u) := by
  unfold gX3_flyByLot_b
  refine g_aload_n C dX3_flyByLot_0 rfl 0 rfl ?_
  refine g_iconst (v := 0) C dX3_flyByLot_1 rfl (by decide) ?_
  refine g_putI C dX3_flyByLot_2 rfl rfl fp_3_13 rfl fl_X3_174 ?_
  refine g_letm (fun u1 => ?_)
  refine g_aload_n C dX3_flyByLot_5 rfl 0 rfl ?_
  refine g_iconst (v := 0) C dX3_flyByLot_6 rfl (by decide) ?_
  refine g_putI C dX3_flyByLot_7 rfl rfl fp_3_14 rfl fl_X3_177 ?_
  refine g_letm (fun u2 => ?_)
  refine g_iload_n C dX3_flyByLot_10 rfl 2 rfl ?_
  refine g_istore_n (ls' := [(3, .int v2), (0, .ref ((xE Γ).1 57)), (1, .int v1), (2, .int v2)]) C dX3_flyByLot_11 rfl L (by decide) rfl ?_
  refine g_iconst (v := 0) C dX3_flyByLot_12 rfl (by decide) ?_
  refine g_istore (ls' := [(4, .int 0), (3, .int v2), (0, .ref ((xE Γ).1 57)), (1, .int v1), (2, .int v2)]) C dX3_flyByLot_13 rfl L (by decide) rfl ?_
  refine g_sub (ls' := [(0, .ref ((xE Γ).1 57)), (1, .int v1), (3, .int v2), (4, .int 0)]) [2, 3, 1, 0] rfl ?_
  exact pX3_flyByLot_15 C M L v1 FU v2 0 u2
set_option maxRecDepth 20000 in
set_option maxHeartbeats 4000000 in
theorem tX3_flyByLot (l : Launch) (E : EE) (v1 : Int32) (v2 : Int32) (u : Mm) : Ct l E yX3_flyByLot cX3_flyByLot 6 none 4 [.ref (E.1 57), .int v1, .int v2] u cvV (gX3_flyByLot v1 v2 u) :=
  Ct_of (own := RX3) (by decide +kernel) rfl (Nat.le_of_ble_eq_true rfl) (fun p e R s m args below meth c C M => g_sub (ls' := [(0, .ref (E.1 57)), (1, .int v1), (2, .int v2)]) [0, 1, 2] rfl (pX3_flyByLot_0 C M rfl v1 v2 u))
set_option maxRecDepth 20000 in
set_option maxHeartbeats 4000000 in
theorem pX3_climbAll_29s {Γ : GX} (C : Cx Γ RX3 cX3_climbAll 3) (M : Mx Γ none) (L : xn Γ = 2) {j29 : Int32 → Mm → Option Mm} (hj29 : ∀ (v1 : Int32) (u : Mm), Gp Γ (QM Γ cvV) 29 [(0, .ref ((xE Γ).1 57)), (1, .int v1)] [] u (j29 v1 u)) (v1 : Int32) (u : Mm) : Gp Γ (QM Γ cvV) 29 [(0, .ref ((xE Γ).1 57)), (1, .int v1)] [] u (gX3_climbAll_29_Ls j29 v1 u) := by
  unfold gX3_climbAll_29_Ls
  refine g_iload_n C dX3_climbAll_29 rfl 1 rfl ?_
  refine g_bipush (v := 60) C dX3_climbAll_30 rfl (by decide) ?_
  refine g_icmp_gt 90 C dX3_climbAll_32 rfl (by decide) (fun c1 => ?_) (fun c1 => ?_)
  · exact g_vret C M dX3_climbAll_90 rfl rfl
  · refine g_aload_n C dX3_climbAll_35 rfl 0 rfl ?_
    refine g_getR (k2 := 69) C dX3_climbAll_36 rfl rfl fi_3_5 ⟨by decide, by decide, rfl⟩ fl_X3_35 ?_
    refine g_aload_n C dX3_climbAll_39 rfl 0 rfl ?_
    refine g_getR (k2 := 69) C dX3_climbAll_40 rfl rfl fi_3_5 ⟨by decide, by decide, rfl⟩ fl_X3_35 ?_
    refine g_iconst (v := 1) C dX3_climbAll_43 rfl (by decide) ?_
    refine g_callP [.int 1] C dX3_climbAll_44 rfl (tX2_able (xl Γ) (xE Γ) rfl 1 u) cf_X2_able rfl rfl ml_X3_171 rfl (by decide) (Nat.le_of_ble_eq_true rfl) rfl (fun r2 => ?_)
    refine g_aload_n C dX3_climbAll_47 rfl 0 rfl ?_
    refine g_getR (k2 := 58) C dX3_climbAll_48 rfl rfl fi_3_0 ⟨by decide, by decide, rfl⟩ fl_X3_12 ?_
    refine g_callV [.int r2, .ref ((xE Γ).1 58)] C dX3_climbAll_51 rfl (tX2_fly (xl Γ) (xE Γ) rfl r2 rfl u) cf_X2_fly rfl rfl ml_X3_94 rfl (by decide) (Nat.le_of_ble_eq_true rfl) rfl (fun u3 => ?_)
    refine g_aload_n C dX3_climbAll_54 rfl 0 rfl ?_
    refine g_getR (k2 := 69) C dX3_climbAll_55 rfl rfl fi_3_5 ⟨by decide, by decide, rfl⟩ fl_X3_35 ?_
    refine g_getI C dX3_climbAll_58 rfl rfl fi_2_0 rfl fl_X3_79 ?_
    refine g_aload_n C dX3_climbAll_61 rfl 0 rfl ?_
    refine g_getI C dX3_climbAll_62 rfl rfl fi_3_15 rfl fl_X3_186 ?_
    refine g_icmp_le 84 C dX3_climbAll_65 rfl (by decide) (fun c4 => ?_) (fun c4 => ?_)
    · refine g_iincL (fun v1_5 => [(1, .int v1_5), (0, .ref ((xE Γ).1 57))]) C dX3_climbAll_84 rfl L (by decide) (k := 1) rfl (iinc_1 _) (fun _ => rfl) (fun v1_5 => ?_)
      refine g_goto 29 C dX3_climbAll_87 rfl (by decide) ?_
      refine g_sub (ls' := [(0, .ref ((xE Γ).1 57)), (1, .int v1_5)]) [1, 0] rfl ?_
      exact hj29 v1_5 u3
    · refine g_aload_n C dX3_climbAll_68 rfl 0 rfl ?_
      refine g_aload_n C dX3_climbAll_69 rfl 0 rfl ?_
      refine g_getR (k2 := 69) C dX3_climbAll_70 rfl rfl fi_3_5 ⟨by decide, by decide, rfl⟩ fl_X3_35 ?_
      refine g_getI C dX3_climbAll_73 rfl rfl fi_2_0 rfl fl_X3_79 ?_
      refine g_putI C dX3_climbAll_76 rfl rfl fp_3_15 rfl fl_X3_186 ?_
      refine g_letm (fun u6 => ?_)
      refine g_aload_n C dX3_climbAll_79 rfl 0 rfl ?_
      refine g_iload_n C dX3_climbAll_80 rfl 1 rfl ?_
      refine g_putI C dX3_climbAll_81 rfl rfl fp_3_16 rfl fl_X3_189 ?_
      refine g_letm (fun u7 => ?_)
      refine g_iincL (fun v1_8 => [(1, .int v1_8), (0, .ref ((xE Γ).1 57))]) C dX3_climbAll_84 rfl L (by decide) (k := 1) rfl (iinc_1 _) (fun _ => rfl) (fun v1_8 => ?_)
      refine g_goto 29 C dX3_climbAll_87 rfl (by decide) ?_
      refine g_sub (ls' := [(0, .ref ((xE Γ).1 57)), (1, .int v1_8)]) [1, 0] rfl ?_
      exact hj29 v1_8 u7
set_option maxRecDepth 20000 in
set_option maxHeartbeats 4000000 in
theorem pX3_climbAll_29 {Γ : GX} (C : Cx Γ RX3 cX3_climbAll 3) (M : Mx Γ none) (L : xn Γ = 2) : ∀ (n : Nat) (v1 : Int32) (u : Mm), Gp Γ (QM Γ cvV) 29 [(0, .ref ((xE Γ).1 57)), (1, .int v1)] [] u (gX3_climbAll_29_L n v1 u) := by
  intro n
  induction n with
  | zero => intro _ _; exact g_none
  | succ n ih => intro v1 u; exact pX3_climbAll_29s C M L ih v1 u

set_option maxRecDepth 20000 in
set_option maxHeartbeats 4000000 in
theorem pX3_climbAll_0 {Γ : GX} (C : Cx Γ RX3 cX3_climbAll 3) (M : Mx Γ none) (L : xn Γ = 2) (u : Mm) : Gp Γ (QM Γ cvV) 0 [(0, .ref ((xE Γ).1 57))] [] u (gX3_climbAll_b u) := by
  unfold gX3_climbAll_b
  refine g_aload_n C dX3_climbAll_0 rfl 0 rfl ?_
  refine g_getR (k2 := 69) C dX3_climbAll_1 rfl rfl fi_3_5 ⟨by decide, by decide, rfl⟩ fl_X3_35 ?_
  refine g_aload_n C dX3_climbAll_4 rfl 0 rfl ?_
  refine g_getR (k2 := 67) C dX3_climbAll_5 rfl rfl fi_3_2 ⟨by decide, by decide, rfl⟩ fl_X3_28 ?_
  refine g_callV [.ref ((xE Γ).1 67)] C dX3_climbAll_8 rfl (tX2_copyFrom (xl Γ) (xE Γ) rfl rfl u) cf_X2_copyFrom rfl rfl ml_X3_56 rfl (by decide) (Nat.le_of_ble_eq_true rfl) rfl (fun u1 => ?_)
  refine g_aload_n C dX3_climbAll_11 rfl 0 rfl ?_
  refine g_aload_n C dX3_climbAll_12 rfl 0 rfl ?_
  refine g_getR (k2 := 69) C dX3_climbAll_13 rfl rfl fi_3_5 ⟨by decide, by decide, rfl⟩ fl_X3_35 ?_
  refine g_getI C dX3_climbAll_16 rfl rfl fi_2_0 rfl fl_X3_79 ?_
  refine g_putI C dX3_climbAll_19 rfl rfl fp_3_15 rfl fl_X3_186 ?_
  refine g_letm (fun u2 => ?_)
  refine g_aload_n C dX3_climbAll_22 rfl 0 rfl ?_
  refine g_iconst (v := 0) C dX3_climbAll_23 rfl (by decide) ?_
  refine g_putI C dX3_climbAll_24 rfl rfl fp_3_16 rfl fl_X3_189 ?_
  refine g_letm (fun u3 => ?_)
  refine g_iconst (v := 1) C dX3_climbAll_27 rfl (by decide) ?_
  refine g_istore_n (ls' := [(1, .int 1), (0, .ref ((xE Γ).1 57))]) C dX3_climbAll_28 rfl L (by decide) rfl ?_
  refine g_sub (ls' := [(0, .ref ((xE Γ).1 57)), (1, .int 1)]) [1, 0] rfl ?_
  exact pX3_climbAll_29 C M L FU 1 u3
set_option maxRecDepth 20000 in
set_option maxHeartbeats 4000000 in
theorem tX3_climbAll (l : Launch) (E : EE) (u : Mm) : Ct l E yX3_climbAll cX3_climbAll 2 none 3 [.ref (E.1 57)] u cvV (gX3_climbAll u) :=
  Ct_of (own := RX3) (by decide +kernel) rfl (Nat.le_of_ble_eq_true rfl) (fun p e R s m args below meth c C M => g_sub (ls' := [(0, .ref (E.1 57))]) [0] rfl (pX3_climbAll_0 C M rfl u))
set_option maxRecDepth 20000 in
set_option maxHeartbeats 4000000 in
theorem pX3_playGame_43 {Γ : GX} (C : Cx Γ RX3 cX3_playGame 5) (M : Mx Γ none) (L : xn Γ = 3) (v1 : Int32) (v2 : Int32) (s0 : Int32) (s1 : Int32) {j2 : Int32 → Mm → Option Mm} (hj2 : ∀ (v1 : Int32) (u : Mm), Gp Γ (QM Γ cvV) 2 [(0, .ref ((xE Γ).1 57)), (1, .int v1)] [] u (j2 v1 u)) {j9 : Int32 → Mm → Option Mm} (hj9 : ∀ (v2 : Int32) (u : Mm), Gp Γ (QM Γ cvV) 9 [(0, .ref ((xE Γ).1 57)), (1, .int v1), (2, .int v2)] [] u (j9 v2 u)) (u : Mm) : Gp Γ (QM Γ cvV) 43 [(0, .ref ((xE Γ).1 57)), (1, .int v1), (2, .int v2)] [.int s0, .int s1, .ref ((xE Γ).1 70)] u (gX3_playGame_43 j2 j9 v1 v2 s0 s1 u) := by
  unfold gX3_playGame_43
  refine g_gd (fun hi2 => ?_)
  refine g_iast C dX3_playGame_43 rfl rfl rfl hi2 ?_
  refine g_letm (fun u1 => ?_)
  refine g_iincL (fun v2_3 => [(2, .int v2_3), (0, .ref ((xE Γ).1 57)), (1, .int v1)]) C dX3_playGame_44 rfl L (by decide) (k := 2) rfl (iinc_1 _) (fun _ => rfl) (fun v2_3 => ?_)
  refine g_goto 9 C dX3_playGame_47 rfl (by decide) ?_
  refine g_sub (ls' := [(0, .ref ((xE Γ).1 57)), (1, .int v1), (2, .int v2_3)]) [1, 2, 0] rfl ?_
  exact hj9 v2_3 u1
set_option maxRecDepth 20000 in
set_option maxHeartbeats 4000000 in
theorem pX3_playGame_9s {Γ : GX} (C : Cx Γ RX3 cX3_playGame 5) (M : Mx Γ none) (L : xn Γ = 3) (v1 : Int32) {j2 : Int32 → Mm → Option Mm} (hj2 : ∀ (v1 : Int32) (u : Mm), Gp Γ (QM Γ cvV) 2 [(0, .ref ((xE Γ).1 57)), (1, .int v1)] [] u (j2 v1 u)) {j9 : Int32 → Mm → Option Mm} (hj9 : ∀ (v2 : Int32) (u : Mm), Gp Γ (QM Γ cvV) 9 [(0, .ref ((xE Γ).1 57)), (1, .int v1), (2, .int v2)] [] u (j9 v2 u)) (v2 : Int32) (u : Mm) : Gp Γ (QM Γ cvV) 9 [(0, .ref ((xE Γ).1 57)), (1, .int v1), (2, .int v2)] [] u (gX3_playGame_9_Ls j2 v1 j9 v2 u) := by
  unfold gX3_playGame_9_Ls
  refine g_iload_n C dX3_playGame_9 rfl 2 rfl ?_
  refine g_iconst (v := 3) C dX3_playGame_10 rfl (by decide) ?_
  refine g_icmp_ge 50 C dX3_playGame_11 rfl (by decide) (fun c1 => ?_) (fun c1 => ?_)
  · refine g_aload_n C dX3_playGame_50 rfl 0 rfl ?_
    refine g_getR (k2 := 58) C dX3_playGame_51 rfl rfl fi_3_0 ⟨by decide, by decide, rfl⟩ fl_X3_12 ?_
    refine g_callV [] C dX3_playGame_54 rfl (tX0_turnAbout (xl Γ) (xE Γ) rfl u) cf_X0_turnAbout rfl rfl ml_X3_192 rfl (by decide) (Nat.le_of_ble_eq_true rfl) rfl (fun u2 => ?_)
    refine g_aload_n C dX3_playGame_57 rfl 0 rfl ?_
    refine g_callV [] C dX3_playGame_58 rfl (tX3_rewind (xl Γ) (xE Γ) u2) cf_X3_rewind rfl rfl ml_X3_59 rfl (by decide) (Nat.le_of_ble_eq_true rfl) rfl (fun u3 => ?_)
    refine g_iincL (fun v1_4 => [(1, .int v1_4), (0, .ref ((xE Γ).1 57)), (2, .int v2)]) C dX3_playGame_61 rfl L (by decide) (k := 1) rfl (iinc_1 _) (fun _ => rfl) (fun v1_4 => ?_)
    refine g_goto 2 C dX3_playGame_64 rfl (by decide) ?_
    refine g_sub (ls' := [(0, .ref ((xE Γ).1 57)), (1, .int v1_4)]) [1, 0] rfl ?_
    exact hj2 v1_4 u3
  · refine g_aload_n C dX3_playGame_14 rfl 0 rfl ?_
    refine g_getR (k2 := 70) C dX3_playGame_15 rfl rfl fi_3_17 ⟨by decide, by decide, rfl⟩ fl_X3_38 ?_
    refine g_iload_n C dX3_playGame_18 rfl 2 rfl ?_
    refine g_iconst (v := 2) C dX3_playGame_19 rfl (by decide) ?_
    refine g_imul C dX3_playGame_20 rfl ?_
    refine g_iload_n C dX3_playGame_21 rfl 1 rfl ?_
    refine g_iadd C dX3_playGame_22 rfl ?_
    refine g_aload_n C dX3_playGame_23 rfl 0 rfl ?_
    refine g_iconst (v := 5) C dX3_playGame_24 rfl (by decide) ?_
    refine g_iload_n C dX3_playGame_25 rfl 2 rfl ?_
    refine g_imul C dX3_playGame_26 rfl ?_
    refine g_iconst (v := 1) C dX3_playGame_27 rfl (by decide) ?_
    refine g_callI [.int (5 * v2), .int 1] C dX3_playGame_28 rfl (tX3_follow (xl Γ) (xE Γ) (5 * v2) 1 u) cf_X3_follow rfl rfl ml_X3_124 rfl (by decide) (Nat.le_of_ble_eq_true rfl) rfl (fun r6 u5 => ?_)
    refine g_if_eq 41 C dX3_playGame_31 rfl (by decide) (fun c7 => ?_) (fun c7 => ?_)
    · refine g_bipush (v := 40) C dX3_playGame_41 rfl (by decide) ?_
      exact pX3_playGame_43 C M L v1 v2 40 ((v2 * 2) + v1) hj2 hj9 u5
    · refine g_aload_n C dX3_playGame_34 rfl 0 rfl ?_
      refine g_callP [] C dX3_playGame_35 rfl (tX3_costThere (xl Γ) (xE Γ) u5) cf_X3_costThere rfl rfl ml_X3_143 rfl (by decide) (Nat.le_of_ble_eq_true rfl) rfl (fun r8 => ?_)
      refine g_goto 43 C dX3_playGame_38 rfl (by decide) ?_
      exact pX3_playGame_43 C M L v1 v2 r8 ((v2 * 2) + v1) hj2 hj9 u5
set_option maxRecDepth 20000 in
set_option maxHeartbeats 4000000 in
theorem pX3_playGame_9 {Γ : GX} (C : Cx Γ RX3 cX3_playGame 5) (M : Mx Γ none) (L : xn Γ = 3) (v1 : Int32) {j2 : Int32 → Mm → Option Mm} (hj2 : ∀ (v1 : Int32) (u : Mm), Gp Γ (QM Γ cvV) 2 [(0, .ref ((xE Γ).1 57)), (1, .int v1)] [] u (j2 v1 u)) : ∀ (n : Nat) (v2 : Int32) (u : Mm), Gp Γ (QM Γ cvV) 9 [(0, .ref ((xE Γ).1 57)), (1, .int v1), (2, .int v2)] [] u (gX3_playGame_9_L j2 v1 n v2 u) := by
  intro n
  induction n with
  | zero => intro _ _; exact g_none
  | succ n ih => intro v2 u; exact pX3_playGame_9s C M L v1 hj2 ih v2 u

set_option maxRecDepth 20000 in
set_option maxHeartbeats 4000000 in
theorem pX3_playGame_2s {Γ : GX} (C : Cx Γ RX3 cX3_playGame 5) (M : Mx Γ none) (L : xn Γ = 3) {j2 : Int32 → Mm → Option Mm} (hj2 : ∀ (v1 : Int32) (u : Mm), Gp Γ (QM Γ cvV) 2 [(0, .ref ((xE Γ).1 57)), (1, .int v1)] [] u (j2 v1 u)) (v1 : Int32) (u : Mm) : Gp Γ (QM Γ cvV) 2 [(0, .ref ((xE Γ).1 57)), (1, .int v1)] [] u (gX3_playGame_2_Ls j2 v1 u) := by
  unfold gX3_playGame_2_Ls
  refine g_iload_n C dX3_playGame_2 rfl 1 rfl ?_
  refine g_iconst (v := 2) C dX3_playGame_3 rfl (by decide) ?_
  refine g_icmp_ge 67 C dX3_playGame_4 rfl (by decide) (fun c1 => ?_) (fun c1 => ?_)
  · exact g_vret C M dX3_playGame_67 rfl rfl
  · refine g_iconst (v := 0) C dX3_playGame_7 rfl (by decide) ?_
    refine g_istore_n (ls' := [(2, .int 0), (0, .ref ((xE Γ).1 57)), (1, .int v1)]) C dX3_playGame_8 rfl L (by decide) rfl ?_
    refine g_sub (ls' := [(0, .ref ((xE Γ).1 57)), (1, .int v1), (2, .int 0)]) [1, 2, 0] rfl ?_
    exact pX3_playGame_9 C M L v1 hj2 FU 0 u
set_option maxRecDepth 20000 in
set_option maxHeartbeats 4000000 in
theorem pX3_playGame_2 {Γ : GX} (C : Cx Γ RX3 cX3_playGame 5) (M : Mx Γ none) (L : xn Γ = 3) : ∀ (n : Nat) (v1 : Int32) (u : Mm), Gp Γ (QM Γ cvV) 2 [(0, .ref ((xE Γ).1 57)), (1, .int v1)] [] u (gX3_playGame_2_L n v1 u) := by
  intro n
  induction n with
  | zero => intro _ _; exact g_none
  | succ n ih => intro v1 u; exact pX3_playGame_2s C M L ih v1 u

set_option maxRecDepth 20000 in
set_option maxHeartbeats 4000000 in
theorem pX3_playGame_0 {Γ : GX} (C : Cx Γ RX3 cX3_playGame 5) (M : Mx Γ none) (L : xn Γ = 3) (u : Mm) : Gp Γ (QM Γ cvV) 0 [(0, .ref ((xE Γ).1 57))] [] u (gX3_playGame_b u) := by
  unfold gX3_playGame_b
  refine g_iconst (v := 0) C dX3_playGame_0 rfl (by decide) ?_
  refine g_istore_n (ls' := [(1, .int 0), (0, .ref ((xE Γ).1 57))]) C dX3_playGame_1 rfl L (by decide) rfl ?_
  refine g_sub (ls' := [(0, .ref ((xE Γ).1 57)), (1, .int 0)]) [1, 0] rfl ?_
  exact pX3_playGame_2 C M L FU 0 u
set_option maxRecDepth 20000 in
set_option maxHeartbeats 4000000 in
theorem tX3_playGame (l : Launch) (E : EE) (u : Mm) : Ct l E yX3_playGame cX3_playGame 3 none 5 [.ref (E.1 57)] u cvV (gX3_playGame u) :=
  Ct_of (own := RX3) (by decide +kernel) rfl (Nat.le_of_ble_eq_true rfl) (fun p e R s m args below meth c C M => g_sub (ls' := [(0, .ref (E.1 57))]) [0] rfl (pX3_playGame_0 C M rfl u))
set_option maxRecDepth 20000 in
set_option maxHeartbeats 4000000 in
theorem pX3_lossBy_0 {Γ : GX} (C : Cx Γ RX3 cX3_lossBy 0) (M : Mx Γ (some .int)) (L : xn Γ = 3) (u : Mm) (v1 : Int32) (v2 : Int32) : Gp Γ (QM Γ (cvP u)) 0 [(0, .ref ((xE Γ).1 57)), (1, .int v1), (2, .int v2)] [] u (gX3_lossBy_b v1 v2 u) := by
  unfold gX3_lossBy_b
  refine g_iload_n C dX3_lossBy_0 rfl 1 rfl ?_
  refine g_if_lt 31 C dX3_lossBy_1 rfl (by decide) (fun c1 => ?_) (fun c1 => ?_)
  · refine g_bipush (v := (-9)) C dX3_lossBy_31 rfl (by decide) ?_
    exact g_iret C M dX3_lossBy_33 rfl rfl
  · refine g_iload_n C dX3_lossBy_4 rfl 1 rfl ?_
    refine g_iconst (v := 3) C dX3_lossBy_5 rfl (by decide) ?_
    refine g_icmp_ge 31 C dX3_lossBy_6 rfl (by decide) (fun c2 => ?_) (fun c2 => ?_)
    · refine g_bipush (v := (-9)) C dX3_lossBy_31 rfl (by decide) ?_
      exact g_iret C M dX3_lossBy_33 rfl rfl
    · refine g_iload_n C dX3_lossBy_9 rfl 2 rfl ?_
      refine g_if_lt 31 C dX3_lossBy_10 rfl (by decide) (fun c3 => ?_) (fun c3 => ?_)
      · refine g_bipush (v := (-9)) C dX3_lossBy_31 rfl (by decide) ?_
        exact g_iret C M dX3_lossBy_33 rfl rfl
      · refine g_iload_n C dX3_lossBy_13 rfl 2 rfl ?_
        refine g_iconst (v := 2) C dX3_lossBy_14 rfl (by decide) ?_
        refine g_icmp_ge 31 C dX3_lossBy_15 rfl (by decide) (fun c4 => ?_) (fun c4 => ?_)
        · refine g_bipush (v := (-9)) C dX3_lossBy_31 rfl (by decide) ?_
          exact g_iret C M dX3_lossBy_33 rfl rfl
        · refine g_aload_n C dX3_lossBy_18 rfl 0 rfl ?_
          refine g_getR (k2 := 70) C dX3_lossBy_19 rfl rfl fi_3_17 ⟨by decide, by decide, rfl⟩ fl_X3_38 ?_
          refine g_iload_n C dX3_lossBy_22 rfl 1 rfl ?_
          refine g_iconst (v := 2) C dX3_lossBy_23 rfl (by decide) ?_
          refine g_imul C dX3_lossBy_24 rfl ?_
          refine g_iload_n C dX3_lossBy_25 rfl 2 rfl ?_
          refine g_iadd C dX3_lossBy_26 rfl ?_
          refine g_gd (fun hi5 => ?_)
          refine g_iald C dX3_lossBy_27 rfl rfl rfl hi5 ?_
          refine g_goto 33 C dX3_lossBy_28 rfl (by decide) ?_
          exact g_iret C M dX3_lossBy_33 rfl rfl
set_option maxRecDepth 20000 in
set_option maxHeartbeats 4000000 in
theorem tX3_lossBy (l : Launch) (E : EE) (v1 : Int32) (v2 : Int32) (u : Mm) : Ct l E yX3_lossBy cX3_lossBy 3 (some .int) 0 [.ref (E.1 57), .int v1, .int v2] u (cvP u) (gX3_lossBy v1 v2 u) :=
  Ct_of (own := RX3) (by decide +kernel) rfl (Nat.le_of_ble_eq_true rfl) (fun p e R s m args below meth c C M => g_sub (ls' := [(0, .ref (E.1 57)), (1, .int v1), (2, .int v2)]) [0, 1, 2] rfl (pX3_lossBy_0 C M rfl u v1 v2))
set_option maxRecDepth 20000 in
set_option maxHeartbeats 4000000 in
theorem pX3_surestLoss_18s {Γ : GX} (C : Cx Γ RX3 cX3_surestLoss 1) (M : Mx Γ (some .int)) (L : xn Γ = 3) (u : Mm) {j18 : Int32 → Int32 → Option Int32} (hj18 : ∀ (v1 : Int32) (v2 : Int32), Gp Γ (QM Γ (cvP u)) 18 [(0, .ref ((xE Γ).1 57)), (1, .int v1), (2, .int v2)] [] u (j18 v1 v2)) (v1 : Int32) (v2 : Int32) : Gp Γ (QM Γ (cvP u)) 18 [(0, .ref ((xE Γ).1 57)), (1, .int v1), (2, .int v2)] [] u (gX3_surestLoss_18_Ls u j18 v1 v2) := by
  unfold gX3_surestLoss_18_Ls
  refine g_iload_n C dX3_surestLoss_18 rfl 2 rfl ?_
  refine g_iconst (v := 3) C dX3_surestLoss_19 rfl (by decide) ?_
  refine g_icmp_ge 49 C dX3_surestLoss_20 rfl (by decide) (fun c1 => ?_) (fun c1 => ?_)
  · refine g_iload_n C dX3_surestLoss_49 rfl 1 rfl ?_
    exact g_iret C M dX3_surestLoss_50 rfl rfl
  · refine g_iload_n C dX3_surestLoss_23 rfl 1 rfl ?_
    refine g_aload_n C dX3_surestLoss_24 rfl 0 rfl ?_
    refine g_iload_n C dX3_surestLoss_25 rfl 2 rfl ?_
    refine g_iconst (v := 0) C dX3_surestLoss_26 rfl (by decide) ?_
    refine g_callP [.int v2, .int 0] C dX3_surestLoss_27 rfl (tX3_lossBy (xl Γ) (xE Γ) v2 0 u) cf_X3_lossBy rfl rfl ml_X3_195 rfl (by decide) (Nat.le_of_ble_eq_true rfl) rfl (fun r2 => ?_)
    refine g_aload_n C dX3_surestLoss_30 rfl 0 rfl ?_
    refine g_iload_n C dX3_surestLoss_31 rfl 2 rfl ?_
    refine g_iconst (v := 1) C dX3_surestLoss_32 rfl (by decide) ?_
    refine g_callP [.int v2, .int 1] C dX3_surestLoss_33 rfl (tX3_lossBy (xl Γ) (xE Γ) v2 1 u) cf_X3_lossBy rfl rfl ml_X3_195 rfl (by decide) (Nat.le_of_ble_eq_true rfl) rfl (fun r3 => ?_)
    refine g_max C dX3_surestLoss_36 rfl ⟨ml_X3_160, ms_max, mc_max⟩ (by decide) (Nat.le_of_ble_eq_true rfl) ?_
    refine g_min C dX3_surestLoss_39 rfl ⟨ml_X3_198, ms_min, mc_min⟩ (by decide) (Nat.le_of_ble_eq_true rfl) ?_
    refine g_lets (fun v1_4 => ?_)
    refine g_istore_n (ls' := [(1, .int v1_4), (0, .ref ((xE Γ).1 57)), (2, .int v2)]) C dX3_surestLoss_42 rfl L (by decide) rfl ?_
    refine g_iincL (fun v2_5 => [(2, .int v2_5), (1, .int v1_4), (0, .ref ((xE Γ).1 57))]) C dX3_surestLoss_43 rfl L (by decide) (k := 2) rfl (iinc_1 _) (fun _ => rfl) (fun v2_5 => ?_)
    refine g_goto 18 C dX3_surestLoss_46 rfl (by decide) ?_
    refine g_sub (ls' := [(0, .ref ((xE Γ).1 57)), (1, .int v1_4), (2, .int v2_5)]) [2, 1, 0] rfl ?_
    exact hj18 v1_4 v2_5
set_option maxRecDepth 20000 in
set_option maxHeartbeats 4000000 in
theorem pX3_surestLoss_18 {Γ : GX} (C : Cx Γ RX3 cX3_surestLoss 1) (M : Mx Γ (some .int)) (L : xn Γ = 3) (u : Mm) : ∀ (n : Nat) (v1 : Int32) (v2 : Int32), Gp Γ (QM Γ (cvP u)) 18 [(0, .ref ((xE Γ).1 57)), (1, .int v1), (2, .int v2)] [] u (gX3_surestLoss_18_L u n v1 v2) := by
  intro n
  induction n with
  | zero => intro _ _; exact g_none
  | succ n ih => intro v1 v2; exact pX3_surestLoss_18s C M L u ih v1 v2

set_option maxRecDepth 20000 in
set_option maxHeartbeats 4000000 in
theorem pX3_surestLoss_0 {Γ : GX} (C : Cx Γ RX3 cX3_surestLoss 1) (M : Mx Γ (some .int)) (L : xn Γ = 3) (u : Mm) : Gp Γ (QM Γ (cvP u)) 0 [(0, .ref ((xE Γ).1 57))] [] u (gX3_surestLoss_b u) := by
  unfold gX3_surestLoss_b
  refine g_aload_n C dX3_surestLoss_0 rfl 0 rfl ?_
  refine g_iconst (v := 0) C dX3_surestLoss_1 rfl (by decide) ?_
  refine g_iconst (v := 0) C dX3_surestLoss_2 rfl (by decide) ?_
  refine g_callP [.int 0, .int 0] C dX3_surestLoss_3 rfl (tX3_lossBy (xl Γ) (xE Γ) 0 0 u) cf_X3_lossBy rfl rfl ml_X3_195 rfl (by decide) (Nat.le_of_ble_eq_true rfl) rfl (fun r1 => ?_)
  refine g_aload_n C dX3_surestLoss_6 rfl 0 rfl ?_
  refine g_iconst (v := 0) C dX3_surestLoss_7 rfl (by decide) ?_
  refine g_iconst (v := 1) C dX3_surestLoss_8 rfl (by decide) ?_
  refine g_callP [.int 0, .int 1] C dX3_surestLoss_9 rfl (tX3_lossBy (xl Γ) (xE Γ) 0 1 u) cf_X3_lossBy rfl rfl ml_X3_195 rfl (by decide) (Nat.le_of_ble_eq_true rfl) rfl (fun r2 => ?_)
  refine g_max C dX3_surestLoss_12 rfl ⟨ml_X3_160, ms_max, mc_max⟩ (by decide) (Nat.le_of_ble_eq_true rfl) ?_
  refine g_lets (fun v1_3 => ?_)
  refine g_istore_n (ls' := [(1, .int v1_3), (0, .ref ((xE Γ).1 57))]) C dX3_surestLoss_15 rfl L (by decide) rfl ?_
  refine g_iconst (v := 1) C dX3_surestLoss_16 rfl (by decide) ?_
  refine g_istore_n (ls' := [(2, .int 1), (1, .int v1_3), (0, .ref ((xE Γ).1 57))]) C dX3_surestLoss_17 rfl L (by decide) rfl ?_
  refine g_sub (ls' := [(0, .ref ((xE Γ).1 57)), (1, .int v1_3), (2, .int 1)]) [2, 1, 0] rfl ?_
  exact pX3_surestLoss_18 C M L u FU v1_3 1
set_option maxRecDepth 20000 in
set_option maxHeartbeats 4000000 in
theorem tX3_surestLoss (l : Launch) (E : EE) (u : Mm) : Ct l E yX3_surestLoss cX3_surestLoss 3 (some .int) 1 [.ref (E.1 57)] u (cvP u) (gX3_surestLoss u) :=
  Ct_of (own := RX3) (by decide +kernel) rfl (Nat.le_of_ble_eq_true rfl) (fun p e R s m args below meth c C M => g_sub (ls' := [(0, .ref (E.1 57))]) [0] rfl (pX3_surestLoss_0 C M rfl u))
set_option maxRecDepth 20000 in
set_option maxHeartbeats 4000000 in
theorem pX3_leastLossIf_9s {Γ : GX} (C : Cx Γ RX3 cX3_leastLossIf 1) (M : Mx Γ (some .int)) (L : xn Γ = 4) (u : Mm) (v1 : Int32) {j9 : Int32 → Int32 → Option Int32} (hj9 : ∀ (v2 : Int32) (v3 : Int32), Gp Γ (QM Γ (cvP u)) 9 [(0, .ref ((xE Γ).1 57)), (1, .int v1), (2, .int v2), (3, .int v3)] [] u (j9 v2 v3)) (v2 : Int32) (v3 : Int32) : Gp Γ (QM Γ (cvP u)) 9 [(0, .ref ((xE Γ).1 57)), (1, .int v1), (2, .int v2), (3, .int v3)] [] u (gX3_leastLossIf_9_Ls v1 u j9 v2 v3) := by
  unfold gX3_leastLossIf_9_Ls
  refine g_iload_n C dX3_leastLossIf_9 rfl 3 rfl ?_
  refine g_iconst (v := 3) C dX3_leastLossIf_10 rfl (by decide) ?_
  refine g_icmp_ge 31 C dX3_leastLossIf_11 rfl (by decide) (fun c1 => ?_) (fun c1 => ?_)
  · refine g_iload_n C dX3_leastLossIf_31 rfl 2 rfl ?_
    exact g_iret C M dX3_leastLossIf_32 rfl rfl
  · refine g_iload_n C dX3_leastLossIf_14 rfl 2 rfl ?_
    refine g_aload_n C dX3_leastLossIf_15 rfl 0 rfl ?_
    refine g_iload_n C dX3_leastLossIf_16 rfl 3 rfl ?_
    refine g_iload_n C dX3_leastLossIf_17 rfl 1 rfl ?_
    refine g_callP [.int v3, .int v1] C dX3_leastLossIf_18 rfl (tX3_lossBy (xl Γ) (xE Γ) v3 v1 u) cf_X3_lossBy rfl rfl ml_X3_195 rfl (by decide) (Nat.le_of_ble_eq_true rfl) rfl (fun r2 => ?_)
    refine g_min C dX3_leastLossIf_21 rfl ⟨ml_X3_198, ms_min, mc_min⟩ (by decide) (Nat.le_of_ble_eq_true rfl) ?_
    refine g_lets (fun v2_3 => ?_)
    refine g_istore_n (ls' := [(2, .int v2_3), (0, .ref ((xE Γ).1 57)), (1, .int v1), (3, .int v3)]) C dX3_leastLossIf_24 rfl L (by decide) rfl ?_
    refine g_iincL (fun v3_4 => [(3, .int v3_4), (2, .int v2_3), (0, .ref ((xE Γ).1 57)), (1, .int v1)]) C dX3_leastLossIf_25 rfl L (by decide) (k := 3) rfl (iinc_1 _) (fun _ => rfl) (fun v3_4 => ?_)
    refine g_goto 9 C dX3_leastLossIf_28 rfl (by decide) ?_
    refine g_sub (ls' := [(0, .ref ((xE Γ).1 57)), (1, .int v1), (2, .int v2_3), (3, .int v3_4)]) [2, 3, 1, 0] rfl ?_
    exact hj9 v2_3 v3_4
set_option maxRecDepth 20000 in
set_option maxHeartbeats 4000000 in
theorem pX3_leastLossIf_9 {Γ : GX} (C : Cx Γ RX3 cX3_leastLossIf 1) (M : Mx Γ (some .int)) (L : xn Γ = 4) (u : Mm) (v1 : Int32) : ∀ (n : Nat) (v2 : Int32) (v3 : Int32), Gp Γ (QM Γ (cvP u)) 9 [(0, .ref ((xE Γ).1 57)), (1, .int v1), (2, .int v2), (3, .int v3)] [] u (gX3_leastLossIf_9_L v1 u n v2 v3) := by
  intro n
  induction n with
  | zero => intro _ _; exact g_none
  | succ n ih => intro v2 v3; exact pX3_leastLossIf_9s C M L u v1 ih v2 v3

set_option maxRecDepth 20000 in
set_option maxHeartbeats 4000000 in
theorem pX3_leastLossIf_0 {Γ : GX} (C : Cx Γ RX3 cX3_leastLossIf 1) (M : Mx Γ (some .int)) (L : xn Γ = 4) (u : Mm) (v1 : Int32) : Gp Γ (QM Γ (cvP u)) 0 [(0, .ref ((xE Γ).1 57)), (1, .int v1)] [] u (gX3_leastLossIf_b v1 u) := by
  unfold gX3_leastLossIf_b
  refine g_aload_n C dX3_leastLossIf_0 rfl 0 rfl ?_
  refine g_iconst (v := 0) C dX3_leastLossIf_1 rfl (by decide) ?_
  refine g_iload_n C dX3_leastLossIf_2 rfl 1 rfl ?_
  refine g_callP [.int 0, .int v1] C dX3_leastLossIf_3 rfl (tX3_lossBy (xl Γ) (xE Γ) 0 v1 u) cf_X3_lossBy rfl rfl ml_X3_195 rfl (by decide) (Nat.le_of_ble_eq_true rfl) rfl (fun r1 => ?_)
  refine g_istore_n (ls' := [(2, .int r1), (0, .ref ((xE Γ).1 57)), (1, .int v1)]) C dX3_leastLossIf_6 rfl L (by decide) rfl ?_
  refine g_iconst (v := 1) C dX3_leastLossIf_7 rfl (by decide) ?_
  refine g_istore_n (ls' := [(3, .int 1), (2, .int r1), (0, .ref ((xE Γ).1 57)), (1, .int v1)]) C dX3_leastLossIf_8 rfl L (by decide) rfl ?_
  refine g_sub (ls' := [(0, .ref ((xE Γ).1 57)), (1, .int v1), (2, .int r1), (3, .int 1)]) [2, 3, 1, 0] rfl ?_
  exact pX3_leastLossIf_9 C M L u v1 FU r1 1
set_option maxRecDepth 20000 in
set_option maxHeartbeats 4000000 in
theorem tX3_leastLossIf (l : Launch) (E : EE) (v1 : Int32) (u : Mm) : Ct l E yX3_leastLossIf cX3_leastLossIf 4 (some .int) 1 [.ref (E.1 57), .int v1] u (cvP u) (gX3_leastLossIf v1 u) :=
  Ct_of (own := RX3) (by decide +kernel) rfl (Nat.le_of_ble_eq_true rfl) (fun p e R s m args below meth c C M => g_sub (ls' := [(0, .ref (E.1 57)), (1, .int v1)]) [0, 1] rfl (pX3_leastLossIf_0 C M rfl u v1))
set_option maxRecDepth 20000 in
set_option maxHeartbeats 4000000 in
theorem pX3_steadyPair_9s {Γ : GX} (C : Cx Γ RX3 cX3_steadyPair 2) (M : Mx Γ (some .int)) (L : xn Γ = 4) (u : Mm) (v1 : Int32) {j2 : Int32 → Option Int32} (hj2 : ∀ (v1 : Int32), Gp Γ (QM Γ (cvP u)) 2 [(0, .ref ((xE Γ).1 57)), (1, .int v1)] [] u (j2 v1)) {j9 : Int32 → Option Int32} (hj9 : ∀ (v2 : Int32), Gp Γ (QM Γ (cvP u)) 9 [(0, .ref ((xE Γ).1 57)), (1, .int v1), (2, .int v2)] [] u (j9 v2)) (v2 : Int32) : Gp Γ (QM Γ (cvP u)) 9 [(0, .ref ((xE Γ).1 57)), (1, .int v1), (2, .int v2)] [] u (gX3_steadyPair_9_Ls j2 v1 u j9 v2) := by
  unfold gX3_steadyPair_9_Ls
  refine g_iload_n C dX3_steadyPair_9 rfl 2 rfl ?_
  refine g_iconst (v := 2) C dX3_steadyPair_10 rfl (by decide) ?_
  refine g_icmp_ge 55 C dX3_steadyPair_11 rfl (by decide) (fun c1 => ?_) (fun c1 => ?_)
  · refine g_iincL (fun v1_2 => [(1, .int v1_2), (0, .ref ((xE Γ).1 57)), (2, .int v2)]) C dX3_steadyPair_55 rfl L (by decide) (k := 1) rfl (iinc_1 _) (fun _ => rfl) (fun v1_2 => ?_)
    refine g_goto 2 C dX3_steadyPair_58 rfl (by decide) ?_
    refine g_sub (ls' := [(0, .ref ((xE Γ).1 57)), (1, .int v1_2)]) [1, 0] rfl ?_
    exact hj2 v1_2
  · refine g_aload_n C dX3_steadyPair_14 rfl 0 rfl ?_
    refine g_iload_n C dX3_steadyPair_15 rfl 1 rfl ?_
    refine g_iload_n C dX3_steadyPair_16 rfl 2 rfl ?_
    refine g_callP [.int v1, .int v2] C dX3_steadyPair_17 rfl (tX3_lossBy (xl Γ) (xE Γ) v1 v2 u) cf_X3_lossBy rfl rfl ml_X3_195 rfl (by decide) (Nat.le_of_ble_eq_true rfl) rfl (fun r3 => ?_)
    refine g_istore_n (ls' := [(3, .int r3), (0, .ref ((xE Γ).1 57)), (1, .int v1), (2, .int v2)]) C dX3_steadyPair_20 rfl L (by decide) rfl ?_
    refine g_iload_n C dX3_steadyPair_21 rfl 0 rfl ?_
    refine g_aload_n C dX3_steadyPair_22 rfl 1 rfl ?_
    refine g_iload_n C dX3_steadyPair_23 rfl 2 rfl ?_
    refine g_iconst (v := 1) C dX3_steadyPair_24 rfl (by decide) ?_
    refine g_iload_n C dX3_steadyPair_25 rfl 3 rfl ?_
    refine g_isub C dX3_steadyPair_26 rfl ?_
    refine g_callP [.int v1, .int (1 - v2)] C dX3_steadyPair_27 rfl (tX3_lossBy (xl Γ) (xE Γ) v1 (1 - v2) u) cf_X3_lossBy rfl rfl ml_X3_195 rfl (by decide) (Nat.le_of_ble_eq_true rfl) rfl (fun r4 => ?_)
    refine g_icmp_lt 49 C dX3_steadyPair_30 rfl (by decide) (fun c5 => ?_) (fun c5 => ?_)
    · refine g_iincL (fun v2_6 => [(2, .int v2_6), (3, .int r3), (0, .ref ((xE Γ).1 57)), (1, .int v1)]) C dX3_steadyPair_49 rfl L (by decide) (k := 3) rfl (iinc_1 _) (fun _ => rfl) (fun v2_6 => ?_)
      refine g_goto 9 C dX3_steadyPair_52 rfl (by decide) ?_
      refine g_sub (ls' := [(0, .ref ((xE Γ).1 57)), (1, .int v1), (2, .int v2_6)]) [2, 3, 0] rfl ?_
      exact hj9 v2_6
    · refine g_iload_n C dX3_steadyPair_33 rfl 0 rfl ?_
      refine g_aload_n C dX3_steadyPair_34 rfl 1 rfl ?_
      refine g_iload_n C dX3_steadyPair_35 rfl 3 rfl ?_
      refine g_callP [.int v2] C dX3_steadyPair_36 rfl (tX3_leastLossIf (xl Γ) (xE Γ) v2 u) cf_X3_leastLossIf rfl rfl ml_X3_201 rfl (by decide) (Nat.le_of_ble_eq_true rfl) rfl (fun r7 => ?_)
      refine g_icmp_gt 49 C dX3_steadyPair_39 rfl (by decide) (fun c8 => ?_) (fun c8 => ?_)
      · refine g_iincL (fun v2_9 => [(2, .int v2_9), (3, .int r3), (0, .ref ((xE Γ).1 57)), (1, .int v1)]) C dX3_steadyPair_49 rfl L (by decide) (k := 3) rfl (iinc_1 _) (fun _ => rfl) (fun v2_9 => ?_)
        refine g_goto 9 C dX3_steadyPair_52 rfl (by decide) ?_
        refine g_sub (ls' := [(0, .ref ((xE Γ).1 57)), (1, .int v1), (2, .int v2_9)]) [2, 3, 0] rfl ?_
        exact hj9 v2_9
      · refine g_bipush (v := 10) C dX3_steadyPair_42 rfl (by decide) ?_
        refine g_iload_n C dX3_steadyPair_44 rfl 2 rfl ?_
        refine g_imul C dX3_steadyPair_45 rfl ?_
        refine g_iload_n C dX3_steadyPair_46 rfl 3 rfl ?_
        refine g_iadd C dX3_steadyPair_47 rfl ?_
        exact g_iret C M dX3_steadyPair_48 rfl rfl
set_option maxRecDepth 20000 in
set_option maxHeartbeats 4000000 in
theorem pX3_steadyPair_9 {Γ : GX} (C : Cx Γ RX3 cX3_steadyPair 2) (M : Mx Γ (some .int)) (L : xn Γ = 4) (u : Mm) (v1 : Int32) {j2 : Int32 → Option Int32} (hj2 : ∀ (v1 : Int32), Gp Γ (QM Γ (cvP u)) 2 [(0, .ref ((xE Γ).1 57)), (1, .int v1)] [] u (j2 v1)) : ∀ (n : Nat) (v2 : Int32), Gp Γ (QM Γ (cvP u)) 9 [(0, .ref ((xE Γ).1 57)), (1, .int v1), (2, .int v2)] [] u (gX3_steadyPair_9_L j2 v1 u n v2) := by
  intro n
  induction n with
  | zero => intro _; exact g_none
  | succ n ih => intro v2; exact pX3_steadyPair_9s C M L u v1 hj2 ih v2

set_option maxRecDepth 20000 in
set_option maxHeartbeats 4000000 in
theorem pX3_steadyPair_2s {Γ : GX} (C : Cx Γ RX3 cX3_steadyPair 2) (M : Mx Γ (some .int)) (L : xn Γ = 4) (u : Mm) {j2 : Int32 → Option Int32} (hj2 : ∀ (v1 : Int32), Gp Γ (QM Γ (cvP u)) 2 [(0, .ref ((xE Γ).1 57)), (1, .int v1)] [] u (j2 v1)) (v1 : Int32) : Gp Γ (QM Γ (cvP u)) 2 [(0, .ref ((xE Γ).1 57)), (1, .int v1)] [] u (gX3_steadyPair_2_Ls u j2 v1) := by
  unfold gX3_steadyPair_2_Ls
  refine g_iload_n C dX3_steadyPair_2 rfl 1 rfl ?_
  refine g_iconst (v := 3) C dX3_steadyPair_3 rfl (by decide) ?_
  refine g_icmp_ge 61 C dX3_steadyPair_4 rfl (by decide) (fun c1 => ?_) (fun c1 => ?_)
  · refine g_bipush (v := (-9)) C dX3_steadyPair_61 rfl (by decide) ?_
    exact g_iret C M dX3_steadyPair_63 rfl rfl
  · refine g_iconst (v := 0) C dX3_steadyPair_7 rfl (by decide) ?_
    refine g_istore_n (ls' := [(2, .int 0), (0, .ref ((xE Γ).1 57)), (1, .int v1)]) C dX3_steadyPair_8 rfl L (by decide) rfl ?_
    refine g_sub (ls' := [(0, .ref ((xE Γ).1 57)), (1, .int v1), (2, .int 0)]) [1, 2, 0] rfl ?_
    exact pX3_steadyPair_9 C M L u v1 hj2 FU 0
set_option maxRecDepth 20000 in
set_option maxHeartbeats 4000000 in
theorem pX3_steadyPair_2 {Γ : GX} (C : Cx Γ RX3 cX3_steadyPair 2) (M : Mx Γ (some .int)) (L : xn Γ = 4) (u : Mm) : ∀ (n : Nat) (v1 : Int32), Gp Γ (QM Γ (cvP u)) 2 [(0, .ref ((xE Γ).1 57)), (1, .int v1)] [] u (gX3_steadyPair_2_L u n v1) := by
  intro n
  induction n with
  | zero => intro _; exact g_none
  | succ n ih => intro v1; exact pX3_steadyPair_2s C M L u ih v1

set_option maxRecDepth 20000 in
set_option maxHeartbeats 4000000 in
theorem pX3_steadyPair_0 {Γ : GX} (C : Cx Γ RX3 cX3_steadyPair 2) (M : Mx Γ (some .int)) (L : xn Γ = 4) (u : Mm) : Gp Γ (QM Γ (cvP u)) 0 [(0, .ref ((xE Γ).1 57))] [] u (gX3_steadyPair_b u) := by
  unfold gX3_steadyPair_b
  refine g_iconst (v := 0) C dX3_steadyPair_0 rfl (by decide) ?_
  refine g_istore_n (ls' := [(1, .int 0), (0, .ref ((xE Γ).1 57))]) C dX3_steadyPair_1 rfl L (by decide) rfl ?_
  refine g_sub (ls' := [(0, .ref ((xE Γ).1 57)), (1, .int 0)]) [1, 0] rfl ?_
  exact pX3_steadyPair_2 C M L u FU 0
set_option maxRecDepth 20000 in
set_option maxHeartbeats 4000000 in
theorem tX3_steadyPair (l : Launch) (E : EE) (u : Mm) : Ct l E yX3_steadyPair cX3_steadyPair 4 (some .int) 2 [.ref (E.1 57)] u (cvP u) (gX3_steadyPair u) :=
  Ct_of (own := RX3) (by decide +kernel) rfl (Nat.le_of_ble_eq_true rfl) (fun p e R s m args below meth c C M => g_sub (ls' := [(0, .ref (E.1 57))]) [0] rfl (pX3_steadyPair_0 C M rfl u))
set_option maxRecDepth 20000 in
set_option maxHeartbeats 4000000 in
theorem pX4_slotOfLatest_0 {Γ : GX} (C : Cx Γ RX4 cX4_slotOfLatest 0) (M : Mx Γ (some (.object "DownAmongFences$Flight"))) (L : xn Γ = 1) (u : Mm) : Gp Γ (QM Γ (cvR (xE Γ) u)) 0 [(0, .ref ((xE Γ).1 41))] [] u (gX4_slotOfLatest_b u) := by
  unfold gX4_slotOfLatest_b
  refine g_aload_n C dX4_slotOfLatest_0 rfl 0 rfl ?_
  refine g_getI C dX4_slotOfLatest_1 rfl rfl fi_4_1 rfl fl_X4_18 ?_
  refine g_if_lt 28 C dX4_slotOfLatest_4 rfl (by decide) (fun c1 => ?_) (fun c1 => ?_)
  · refine g_null C dX4_slotOfLatest_28 rfl ?_
    exact g_aret C M dX4_slotOfLatest_29 rfl (Or.inl rfl) rfl
  · refine g_aload_n C dX4_slotOfLatest_7 rfl 0 rfl ?_
    refine g_getI C dX4_slotOfLatest_8 rfl rfl fi_4_1 rfl fl_X4_18 ?_
    refine g_bipush (v := 8) C dX4_slotOfLatest_11 rfl (by decide) ?_
    refine g_icmp_ge 28 C dX4_slotOfLatest_13 rfl (by decide) (fun c2 => ?_) (fun c2 => ?_)
    · refine g_null C dX4_slotOfLatest_28 rfl ?_
      exact g_aret C M dX4_slotOfLatest_29 rfl (Or.inl rfl) rfl
    · refine g_aload_n C dX4_slotOfLatest_16 rfl 0 rfl ?_
      refine g_getR (k2 := 42) C dX4_slotOfLatest_17 rfl rfl fi_4_2 ⟨by decide, by decide, rfl⟩ fl_X4_11 ?_
      refine g_aload_n C dX4_slotOfLatest_20 rfl 0 rfl ?_
      refine g_getI C dX4_slotOfLatest_21 rfl rfl fi_4_1 rfl fl_X4_18 ?_
      refine g_gd (fun hi3 => ?_)
      refine g_aald C dX4_slotOfLatest_24 rfl rfl rfl hi3 ?_
      refine g_goto 29 C dX4_slotOfLatest_25 rfl (by decide) ?_
      exact g_aret C M dX4_slotOfLatest_29 rfl (Or.inr ⟨_, rfl⟩) (by show (some (rn _ _), _) = _; rw [rn_pos (by omega)])
set_option maxRecDepth 20000 in
set_option maxHeartbeats 4000000 in
theorem tX4_slotOfLatest (l : Launch) (E : EE) (u : Mm) : Ct l E yX4_slotOfLatest cX4_slotOfLatest 1 (some (.object "DownAmongFences$Flight")) 0 [.ref (E.1 41)] u (cvR E u) (gX4_slotOfLatest u) :=
  Ct_of (own := RX4) (by decide +kernel) rfl (Nat.le_of_ble_eq_true rfl) (fun p e R s m args below meth c C M => g_sub (ls' := [(0, .ref (E.1 41))]) [0] rfl (pX4_slotOfLatest_0 C M rfl u))
set_option maxRecDepth 20000 in
set_option maxHeartbeats 4000000 in
theorem pX4_add_27 {Γ : GX} (C : Cx Γ RX4 cX4_add 1) (M : Mx Γ none) (L : xn Γ = 3) {k1 : Nat} (hk1 : kd k1 = 5) (u : Mm) : Gp Γ (QM Γ cvV) 27 [(0, .ref ((xE Γ).1 41))] [] u (gX4_add_27 k1 u) := by
  unfold gX4_add_27
  refine g_aload_n C dX4_add_27 rfl 0 rfl ?_
  refine g_aload_n C dX4_add_28 rfl 0 rfl ?_
  refine g_getI C dX4_add_29 rfl rfl fi_4_0 rfl fl_X4_30 ?_
  refine g_iconst (v := 1) C dX4_add_32 rfl (by decide) ?_
  refine g_iadd C dX4_add_33 rfl ?_
  refine g_bipush (v := 8) C dX4_add_34 rfl (by decide) ?_
  refine g_min C dX4_add_36 rfl ⟨ml_X4_33, ms_min, mc_min⟩ (by decide) (Nat.le_of_ble_eq_true rfl) ?_
  refine g_putI C dX4_add_39 rfl rfl fp_4_0 rfl fl_X4_30 ?_
  refine g_letm (fun u1 => ?_)
  exact g_vret C M dX4_add_42 rfl rfl
set_option maxRecDepth 20000 in
set_option maxHeartbeats 4000000 in
theorem pX4_add_0 {Γ : GX} (C : Cx Γ RX4 cX4_add 1) (M : Mx Γ none) (L : xn Γ = 3) {k1 : Nat} (hk1 : kd k1 = 5) (u : Mm) : Gp Γ (QM Γ cvV) 0 [(0, .ref ((xE Γ).1 41)), (1, .ref ((xE Γ).1 k1))] [] u (gX4_add_b k1 u) := by
  unfold gX4_add_b
  refine g_aload_n C dX4_add_0 rfl 0 rfl ?_
  refine g_aload_n C dX4_add_1 rfl 0 rfl ?_
  refine g_getI C dX4_add_2 rfl rfl fi_4_1 rfl fl_X4_18 ?_
  refine g_iconst (v := 1) C dX4_add_5 rfl (by decide) ?_
  refine g_iadd C dX4_add_6 rfl ?_
  refine g_bipush (v := 8) C dX4_add_7 rfl (by decide) ?_
  refine g_irem C dX4_add_9 rfl (by decide) ?_
  refine g_putI C dX4_add_10 rfl rfl fp_4_1 rfl fl_X4_18 ?_
  refine g_letm (fun u1 => ?_)
  refine g_aload_n C dX4_add_13 rfl 0 rfl ?_
  refine g_callR [] C dX4_add_14 rfl (tX4_slotOfLatest (xl Γ) (xE Γ) u1) cf_X4_slotOfLatest rfl rfl ml_X4_22 rfl (by decide) (Nat.le_of_ble_eq_true rfl) rfl ?_ (fun r2 hr3 => ?_)
  · show Gp Γ _ _ _ _ _ (if (0 : Nat) = 0 then _ else _)
    rw [if_pos rfl]
    refine g_astore_nN (ls' := [(2, .null), (0, .ref ((xE Γ).1 41)), (1, .ref ((xE Γ).1 k1))]) C dX4_add_17 rfl L (by decide) rfl ?_
    refine g_aload_nN C dX4_add_18 rfl 0 rfl ?_
    refine g_ifnullN 27 C dX4_add_19 rfl (by decide) ?_
    refine g_sub (ls' := [(0, .ref ((xE Γ).1 41))]) [1] rfl ?_
    exact pX4_add_27 C M L hk1 u1
  · show Gp Γ _ _ _ _ _ (if r2 = 0 then _ else _)
    rw [if_neg hr3]
    refine g_astore_n (ls' := [(2, .ref ((xE Γ).1 r2)), (0, .ref ((xE Γ).1 41)), (1, .ref ((xE Γ).1 k1))]) C dX4_add_17 rfl L (by decide) rfl ?_
    refine g_aload_n C dX4_add_18 rfl 0 rfl ?_
    refine g_ifnullR C dX4_add_19 rfl ?_
    refine g_aload_n C dX4_add_22 rfl 0 rfl ?_
    refine g_aload_n C dX4_add_23 rfl 2 rfl ?_
    refine g_gd (fun hq4 => ?_)
    refine g_callV [.ref ((xE Γ).1 k1)] C dX4_add_24 rfl (tX2_copyFrom (xl Γ) (xE Γ) hq4 hk1 u1) cf_X2_copyFrom hq4 rfl ml_X4_26 rfl (by decide) (Nat.le_of_ble_eq_true rfl) rfl (fun u5 => ?_)
    refine g_sub (ls' := [(0, .ref ((xE Γ).1 41))]) [1] rfl ?_
    exact pX4_add_27 C M L hk1 u5
set_option maxRecDepth 20000 in
set_option maxHeartbeats 4000000 in
theorem tX4_add (l : Launch) (E : EE) {k1 : Nat} (hk1 : kd k1 = 5) (u : Mm) : Ct l E yX4_add cX4_add 3 none 1 [.ref (E.1 41), .ref (E.1 k1)] u cvV (gX4_add k1 u) :=
  Ct_of (own := RX4) (by decide +kernel) rfl (Nat.le_of_ble_eq_true rfl) (fun p e R s m args below meth c C M => g_sub (ls' := [(0, .ref (E.1 41)), (1, .ref (E.1 k1))]) [0, 1] rfl (pX4_add_0 C M rfl hk1 u))
set_option maxRecDepth 20000 in
set_option maxHeartbeats 4000000 in
theorem pX4_takeBack_14 {Γ : GX} (C : Cx Γ RX4 cX4_takeBack 1) (M : Mx Γ none) (L : xn Γ = 3) {k1 : Nat} (hk1 : kd k1 = 5) (u : Mm) : Gp Γ (QM Γ cvV) 14 [(0, .ref ((xE Γ).1 41))] [] u (gX4_takeBack_14 k1 u) := by
  unfold gX4_takeBack_14
  refine g_aload_n C dX4_takeBack_14 rfl 0 rfl ?_
  refine g_aload_n C dX4_takeBack_15 rfl 0 rfl ?_
  refine g_getI C dX4_takeBack_16 rfl rfl fi_4_1 rfl fl_X4_18 ?_
  refine g_bipush (v := 8) C dX4_takeBack_19 rfl (by decide) ?_
  refine g_iadd C dX4_takeBack_21 rfl ?_
  refine g_iconst (v := 1) C dX4_takeBack_22 rfl (by decide) ?_
  refine g_isub C dX4_takeBack_23 rfl ?_
  refine g_bipush (v := 8) C dX4_takeBack_24 rfl (by decide) ?_
  refine g_irem C dX4_takeBack_26 rfl (by decide) ?_
  refine g_putI C dX4_takeBack_27 rfl rfl fp_4_1 rfl fl_X4_18 ?_
  refine g_letm (fun u1 => ?_)
  refine g_aload_n C dX4_takeBack_30 rfl 0 rfl ?_
  refine g_aload_n C dX4_takeBack_31 rfl 0 rfl ?_
  refine g_getI C dX4_takeBack_32 rfl rfl fi_4_0 rfl fl_X4_30 ?_
  refine g_iconst (v := 1) C dX4_takeBack_35 rfl (by decide) ?_
  refine g_isub C dX4_takeBack_36 rfl ?_
  refine g_iconst (v := 0) C dX4_takeBack_37 rfl (by decide) ?_
  refine g_max C dX4_takeBack_38 rfl ⟨ml_X4_39, ms_max, mc_max⟩ (by decide) (Nat.le_of_ble_eq_true rfl) ?_
  refine g_putI C dX4_takeBack_41 rfl rfl fp_4_0 rfl fl_X4_30 ?_
  refine g_letm (fun u2 => ?_)
  exact g_vret C M dX4_takeBack_44 rfl rfl
set_option maxRecDepth 20000 in
set_option maxHeartbeats 4000000 in
theorem pX4_takeBack_0 {Γ : GX} (C : Cx Γ RX4 cX4_takeBack 1) (M : Mx Γ none) (L : xn Γ = 3) {k1 : Nat} (hk1 : kd k1 = 5) (u : Mm) : Gp Γ (QM Γ cvV) 0 [(0, .ref ((xE Γ).1 41)), (1, .ref ((xE Γ).1 k1))] [] u (gX4_takeBack_b k1 u) := by
  unfold gX4_takeBack_b
  refine g_aload_n C dX4_takeBack_0 rfl 0 rfl ?_
  refine g_callR [] C dX4_takeBack_1 rfl (tX4_slotOfLatest (xl Γ) (xE Γ) u) cf_X4_slotOfLatest rfl rfl ml_X4_22 rfl (by decide) (Nat.le_of_ble_eq_true rfl) rfl ?_ (fun r1 hr2 => ?_)
  · show Gp Γ _ _ _ _ _ (if (0 : Nat) = 0 then _ else _)
    rw [if_pos rfl]
    refine g_astore_nN (ls' := [(2, .null), (0, .ref ((xE Γ).1 41)), (1, .ref ((xE Γ).1 k1))]) C dX4_takeBack_4 rfl L (by decide) rfl ?_
    refine g_aload_nN C dX4_takeBack_5 rfl 0 rfl ?_
    refine g_ifnullN 14 C dX4_takeBack_6 rfl (by decide) ?_
    refine g_sub (ls' := [(0, .ref ((xE Γ).1 41))]) [1] rfl ?_
    exact pX4_takeBack_14 C M L hk1 u
  · show Gp Γ _ _ _ _ _ (if r1 = 0 then _ else _)
    rw [if_neg hr2]
    refine g_astore_n (ls' := [(2, .ref ((xE Γ).1 r1)), (0, .ref ((xE Γ).1 41)), (1, .ref ((xE Γ).1 k1))]) C dX4_takeBack_4 rfl L (by decide) rfl ?_
    refine g_aload_n C dX4_takeBack_5 rfl 0 rfl ?_
    refine g_ifnullR C dX4_takeBack_6 rfl ?_
    refine g_aload_n C dX4_takeBack_9 rfl 2 rfl ?_
    refine g_aload_n C dX4_takeBack_10 rfl 0 rfl ?_
    refine g_gd (fun hq3 => ?_)
    refine g_callV [.ref ((xE Γ).1 r1)] C dX4_takeBack_11 rfl (tX2_copyFrom (xl Γ) (xE Γ) hk1 hq3 u) cf_X2_copyFrom hk1 rfl ml_X4_26 rfl (by decide) (Nat.le_of_ble_eq_true rfl) rfl (fun u4 => ?_)
    refine g_sub (ls' := [(0, .ref ((xE Γ).1 41))]) [1] rfl ?_
    exact pX4_takeBack_14 C M L hk1 u4
set_option maxRecDepth 20000 in
set_option maxHeartbeats 4000000 in
theorem tX4_takeBack (l : Launch) (E : EE) {k1 : Nat} (hk1 : kd k1 = 5) (u : Mm) : Ct l E yX4_takeBack cX4_takeBack 3 none 1 [.ref (E.1 41), .ref (E.1 k1)] u cvV (gX4_takeBack k1 u) :=
  Ct_of (own := RX4) (by decide +kernel) rfl (Nat.le_of_ble_eq_true rfl) (fun p e R s m args below meth c C M => g_sub (ls' := [(0, .ref (E.1 41)), (1, .ref (E.1 k1))]) [0, 1] rfl (pX4_takeBack_0 C M rfl hk1 u))
set_option maxRecDepth 20000 in
set_option maxHeartbeats 4000000 in
theorem pX4_forget_0 {Γ : GX} (C : Cx Γ RX4 cX4_forget 0) (M : Mx Γ none) (L : xn Γ = 1) (u : Mm) : Gp Γ (QM Γ cvV) 0 [(0, .ref ((xE Γ).1 41))] [] u (gX4_forget_b u) := by
  unfold gX4_forget_b
  refine g_aload_n C dX4_forget_0 rfl 0 rfl ?_
  refine g_iconst (v := 0) C dX4_forget_1 rfl (by decide) ?_
  refine g_putI C dX4_forget_2 rfl rfl fp_4_0 rfl fl_X4_30 ?_
  refine g_letm (fun u1 => ?_)
  exact g_vret C M dX4_forget_5 rfl rfl
set_option maxRecDepth 20000 in
set_option maxHeartbeats 4000000 in
theorem tX4_forget (l : Launch) (E : EE) (u : Mm) : Ct l E yX4_forget cX4_forget 1 none 0 [.ref (E.1 41)] u cvV (gX4_forget u) :=
  Ct_of (own := RX4) (by decide +kernel) rfl (Nat.le_of_ble_eq_true rfl) (fun p e R s m args below meth c C M => g_sub (ls' := [(0, .ref (E.1 41))]) [0] rfl (pX4_forget_0 C M rfl u))
set_option maxRecDepth 20000 in
set_option maxHeartbeats 4000000 in
theorem pX5_isDigit_0 {Γ : GX} (C : Cx Γ RX5 cX5_isDigit 1) (M : Mx Γ (some .boolean)) (L : xn Γ = 2) (u : Mm) (v1 : Int32) : Gp Γ (QM Γ (cvP u)) 0 [(0, .ref ((xE Γ).1 51)), (1, .int v1)] [] u (gX5_isDigit_b v1 u) := by
  unfold gX5_isDigit_b
  refine g_aload_n C dX5_isDigit_0 rfl 0 rfl ?_
  refine g_getR (k2 := 52) C dX5_isDigit_1 rfl rfl fi_5_0 ⟨by decide, by decide, rfl⟩ fl_X5_14 ?_
  refine g_iload_n C dX5_isDigit_4 rfl 1 rfl ?_
  refine g_callP [.int v1] C dX5_isDigit_5 rfl (tX7_at (xl Γ) (xE Γ) rfl v1 u) cf_X7_at rfl rfl ml_X5_20 rfl (by decide) (Nat.le_of_ble_eq_true rfl) rfl (fun r1 => ?_)
  refine g_bipush (v := 48) C dX5_isDigit_8 rfl (by decide) ?_
  refine g_icmp_lt 30 C dX5_isDigit_10 rfl (by decide) (fun c2 => ?_) (fun c2 => ?_)
  · refine g_iconst (v := 0) C dX5_isDigit_30 rfl (by decide) ?_
    exact g_zret C M dX5_isDigit_31 rfl (by decide) rfl
  · refine g_aload_n C dX5_isDigit_13 rfl 0 rfl ?_
    refine g_getR (k2 := 52) C dX5_isDigit_14 rfl rfl fi_5_0 ⟨by decide, by decide, rfl⟩ fl_X5_14 ?_
    refine g_iload_n C dX5_isDigit_17 rfl 1 rfl ?_
    refine g_callP [.int v1] C dX5_isDigit_18 rfl (tX7_at (xl Γ) (xE Γ) rfl v1 u) cf_X7_at rfl rfl ml_X5_20 rfl (by decide) (Nat.le_of_ble_eq_true rfl) rfl (fun r3 => ?_)
    refine g_bipush (v := 57) C dX5_isDigit_21 rfl (by decide) ?_
    refine g_icmp_gt 30 C dX5_isDigit_23 rfl (by decide) (fun c4 => ?_) (fun c4 => ?_)
    · refine g_iconst (v := 0) C dX5_isDigit_30 rfl (by decide) ?_
      exact g_zret C M dX5_isDigit_31 rfl (by decide) rfl
    · refine g_iconst (v := 1) C dX5_isDigit_26 rfl (by decide) ?_
      refine g_goto 31 C dX5_isDigit_27 rfl (by decide) ?_
      exact g_zret C M dX5_isDigit_31 rfl (by decide) rfl
set_option maxRecDepth 20000 in
set_option maxHeartbeats 4000000 in
theorem tX5_isDigit (l : Launch) (E : EE) (v1 : Int32) (u : Mm) : Ct l E yX5_isDigit cX5_isDigit 2 (some .boolean) 1 [.ref (E.1 51), .int v1] u (cvP u) (gX5_isDigit v1 u) :=
  Ct_of (own := RX5) (by decide +kernel) rfl (Nat.le_of_ble_eq_true rfl) (fun p e R s m args below meth c C M => g_sub (ls' := [(0, .ref (E.1 51)), (1, .int v1)]) [0, 1] rfl (pX5_isDigit_0 C M rfl u v1))
set_option maxRecDepth 20000 in
set_option maxHeartbeats 4000000 in
theorem pX5_number_5s {Γ : GX} (C : Cx Γ RX5 cX5_number 1) (M : Mx Γ (some .int)) (L : xn Γ = 5) (u : Mm) (v1 : Int32) (v2 : Int32) {j5 : Int32 → Int32 → Option Int32} (hj5 : ∀ (v3 : Int32) (v4 : Int32), Gp Γ (QM Γ (cvP u)) 5 [(0, .ref ((xE Γ).1 51)), (1, .int v1), (2, .int v2), (3, .int v3), (4, .int v4)] [] u (j5 v3 v4)) (v3 : Int32) (v4 : Int32) : Gp Γ (QM Γ (cvP u)) 5 [(0, .ref ((xE Γ).1 51)), (1, .int v1), (2, .int v2), (3, .int v3), (4, .int v4)] [] u (gX5_number_5_Ls v1 v2 u j5 v3 v4) := by
  unfold gX5_number_5_Ls
  refine g_iload C dX5_number_5 rfl 4 rfl ?_
  refine g_iload_n C dX5_number_7 rfl 2 rfl ?_
  refine g_icmp_ge 37 C dX5_number_8 rfl (by decide) (fun c1 => ?_) (fun c1 => ?_)
  · refine g_iload_n C dX5_number_37 rfl 3 rfl ?_
    exact g_iret C M dX5_number_38 rfl rfl
  · refine g_bipush (v := 10) C dX5_number_11 rfl (by decide) ?_
    refine g_iload_n C dX5_number_13 rfl 3 rfl ?_
    refine g_imul C dX5_number_14 rfl ?_
    refine g_aload_n C dX5_number_15 rfl 0 rfl ?_
    refine g_getR (k2 := 52) C dX5_number_16 rfl rfl fi_5_0 ⟨by decide, by decide, rfl⟩ fl_X5_14 ?_
    refine g_iload_n C dX5_number_19 rfl 1 rfl ?_
    refine g_iload C dX5_number_20 rfl 4 rfl ?_
    refine g_iadd C dX5_number_22 rfl ?_
    refine g_callP [.int (v1 + v4)] C dX5_number_23 rfl (tX7_at (xl Γ) (xE Γ) rfl (v1 + v4) u) cf_X7_at rfl rfl ml_X5_20 rfl (by decide) (Nat.le_of_ble_eq_true rfl) rfl (fun r2 => ?_)
    refine g_iadd C dX5_number_26 rfl ?_
    refine g_bipush (v := 48) C dX5_number_27 rfl (by decide) ?_
    refine g_isub C dX5_number_29 rfl ?_
    refine g_lets (fun v3_3 => ?_)
    refine g_istore_n (ls' := [(3, .int v3_3), (0, .ref ((xE Γ).1 51)), (1, .int v1), (2, .int v2), (4, .int v4)]) C dX5_number_30 rfl L (by decide) rfl ?_
    refine g_iincL (fun v4_4 => [(4, .int v4_4), (3, .int v3_3), (0, .ref ((xE Γ).1 51)), (1, .int v1), (2, .int v2)]) C dX5_number_31 rfl L (by decide) (k := 4) rfl (iinc_1 _) (fun _ => rfl) (fun v4_4 => ?_)
    refine g_goto 5 C dX5_number_34 rfl (by decide) ?_
    refine g_sub (ls' := [(0, .ref ((xE Γ).1 51)), (1, .int v1), (2, .int v2), (3, .int v3_3), (4, .int v4_4)]) [2, 3, 4, 1, 0] rfl ?_
    exact hj5 v3_3 v4_4
set_option maxRecDepth 20000 in
set_option maxHeartbeats 4000000 in
theorem pX5_number_5 {Γ : GX} (C : Cx Γ RX5 cX5_number 1) (M : Mx Γ (some .int)) (L : xn Γ = 5) (u : Mm) (v1 : Int32) (v2 : Int32) : ∀ (n : Nat) (v3 : Int32) (v4 : Int32), Gp Γ (QM Γ (cvP u)) 5 [(0, .ref ((xE Γ).1 51)), (1, .int v1), (2, .int v2), (3, .int v3), (4, .int v4)] [] u (gX5_number_5_L v1 v2 u n v3 v4) := by
  intro n
  induction n with
  | zero => intro _ _; exact g_none
  | succ n ih => intro v3 v4; exact pX5_number_5s C M L u v1 v2 ih v3 v4

set_option maxRecDepth 20000 in
set_option maxHeartbeats 4000000 in
theorem pX5_number_0 {Γ : GX} (C : Cx Γ RX5 cX5_number 1) (M : Mx Γ (some .int)) (L : xn Γ = 5) (u : Mm) (v1 : Int32) (v2 : Int32) : Gp Γ (QM Γ (cvP u)) 0 [(0, .ref ((xE Γ).1 51)), (1, .int v1), (2, .int v2)] [] u (gX5_number_b v1 v2 u) := by
  unfold gX5_number_b
  refine g_iconst (v := 0) C dX5_number_0 rfl (by decide) ?_
  refine g_istore_n (ls' := [(3, .int 0), (0, .ref ((xE Γ).1 51)), (1, .int v1), (2, .int v2)]) C dX5_number_1 rfl L (by decide) rfl ?_
  refine g_iconst (v := 0) C dX5_number_2 rfl (by decide) ?_
  refine g_istore (ls' := [(4, .int 0), (3, .int 0), (0, .ref ((xE Γ).1 51)), (1, .int v1), (2, .int v2)]) C dX5_number_3 rfl L (by decide) rfl ?_
  refine g_sub (ls' := [(0, .ref ((xE Γ).1 51)), (1, .int v1), (2, .int v2), (3, .int 0), (4, .int 0)]) [2, 3, 4, 1, 0] rfl ?_
  exact pX5_number_5 C M L u v1 v2 FU 0 0
set_option maxRecDepth 20000 in
set_option maxHeartbeats 4000000 in
theorem tX5_number (l : Launch) (E : EE) (v1 : Int32) (v2 : Int32) (u : Mm) : Ct l E yX5_number cX5_number 5 (some .int) 1 [.ref (E.1 51), .int v1, .int v2] u (cvP u) (gX5_number v1 v2 u) :=
  Ct_of (own := RX5) (by decide +kernel) rfl (Nat.le_of_ble_eq_true rfl) (fun p e R s m args below meth c C M => g_sub (ls' := [(0, .ref (E.1 51)), (1, .int v1), (2, .int v2)]) [0, 1, 2] rfl (pX5_number_0 C M rfl u v1 v2))
set_option maxRecDepth 20000 in
set_option maxHeartbeats 4000000 in
theorem pX5_endOfDigits_26 {Γ : GX} (C : Cx Γ RX5 cX5_endOfDigits 2) (M : Mx Γ (some .int)) (L : xn Γ = 5) (u : Mm) (v1 : Int32) (v2 : Int32) (v4 : Int32) : Gp Γ (QM Γ (cvP u)) 26 [(0, .ref ((xE Γ).1 51)), (1, .int v1), (2, .int v2), (4, .int v4)] [] u (gX5_endOfDigits_26 v1 v2 v4 u) := by
  unfold gX5_endOfDigits_26
  refine g_iload C dX5_endOfDigits_26 rfl 3 rfl ?_
  refine g_iload_n C dX5_endOfDigits_28 rfl 1 rfl ?_
  refine g_iload_n C dX5_endOfDigits_29 rfl 2 rfl ?_
  refine g_iadd C dX5_endOfDigits_30 rfl ?_
  refine g_icmp_lt 53 C dX5_endOfDigits_31 rfl (by decide) (fun c1 => ?_) (fun c1 => ?_)
  · refine g_iconst (v := (-1)) C dX5_endOfDigits_53 rfl (by decide) ?_
    refine g_iload C dX5_endOfDigits_54 rfl 3 rfl ?_
    refine g_isub C dX5_endOfDigits_56 rfl ?_
    exact g_iret C M dX5_endOfDigits_57 rfl rfl
  · refine g_aload_n C dX5_endOfDigits_34 rfl 0 rfl ?_
    refine g_getR (k2 := 52) C dX5_endOfDigits_35 rfl rfl fi_5_0 ⟨by decide, by decide, rfl⟩ fl_X5_14 ?_
    refine g_iload C dX5_endOfDigits_38 rfl 3 rfl ?_
    refine g_callP [.int v4] C dX5_endOfDigits_40 rfl (tX7_at (xl Γ) (xE Γ) rfl v4 u) cf_X7_at rfl rfl ml_X5_20 rfl (by decide) (Nat.le_of_ble_eq_true rfl) rfl (fun r2 => ?_)
    refine g_bipush (v := 59) C dX5_endOfDigits_43 rfl (by decide) ?_
    refine g_icmp_ne 53 C dX5_endOfDigits_45 rfl (by decide) (fun c3 => ?_) (fun c3 => ?_)
    · refine g_iconst (v := (-1)) C dX5_endOfDigits_53 rfl (by decide) ?_
      refine g_iload C dX5_endOfDigits_54 rfl 3 rfl ?_
      refine g_isub C dX5_endOfDigits_56 rfl ?_
      exact g_iret C M dX5_endOfDigits_57 rfl rfl
    · refine g_iload C dX5_endOfDigits_48 rfl 3 rfl ?_
      refine g_goto 57 C dX5_endOfDigits_50 rfl (by decide) ?_
      exact g_iret C M dX5_endOfDigits_57 rfl rfl
set_option maxRecDepth 20000 in
set_option maxHeartbeats 4000000 in
theorem pX5_endOfDigits_3s {Γ : GX} (C : Cx Γ RX5 cX5_endOfDigits 2) (M : Mx Γ (some .int)) (L : xn Γ = 5) (u : Mm) (v1 : Int32) (v2 : Int32) (v3 : Int32) {j3 : Int32 → Option Int32} (hj3 : ∀ (v4 : Int32), Gp Γ (QM Γ (cvP u)) 3 [(0, .ref ((xE Γ).1 51)), (1, .int v1), (2, .int v2), (3, .int v3), (4, .int v4)] [] u (j3 v4)) (v4 : Int32) : Gp Γ (QM Γ (cvP u)) 3 [(0, .ref ((xE Γ).1 51)), (1, .int v1), (2, .int v2), (3, .int v3), (4, .int v4)] [] u (gX5_endOfDigits_3_Ls v1 v2 v3 u j3 v4) := by
  unfold gX5_endOfDigits_3_Ls
  refine g_iload C dX5_endOfDigits_3 rfl 4 rfl ?_
  refine g_iload_n C dX5_endOfDigits_5 rfl 1 rfl ?_
  refine g_iload_n C dX5_endOfDigits_6 rfl 3 rfl ?_
  refine g_iadd C dX5_endOfDigits_7 rfl ?_
  refine g_icmp_ge 26 C dX5_endOfDigits_8 rfl (by decide) (fun c1 => ?_) (fun c1 => ?_)
  · refine g_sub (ls' := [(0, .ref ((xE Γ).1 51)), (1, .int v1), (2, .int v2), (4, .int v4)]) [0, 1, 2, 4] rfl ?_
    exact pX5_endOfDigits_26 C M L u v1 v2 v4
  · refine g_aload_n C dX5_endOfDigits_11 rfl 0 rfl ?_
    refine g_iload C dX5_endOfDigits_12 rfl 4 rfl ?_
    refine g_callP [.int v4] C dX5_endOfDigits_14 rfl (tX5_isDigit (xl Γ) (xE Γ) v4 u) cf_X5_isDigit rfl rfl ml_X5_42 rfl (by decide) (Nat.le_of_ble_eq_true rfl) rfl (fun r2 => ?_)
    refine g_if_eq 26 C dX5_endOfDigits_17 rfl (by decide) (fun c3 => ?_) (fun c3 => ?_)
    · refine g_sub (ls' := [(0, .ref ((xE Γ).1 51)), (1, .int v1), (2, .int v2), (4, .int v4)]) [0, 1, 2, 4] rfl ?_
      exact pX5_endOfDigits_26 C M L u v1 v2 v4
    · refine g_iincL (fun v4_4 => [(4, .int v4_4), (0, .ref ((xE Γ).1 51)), (1, .int v1), (2, .int v2), (3, .int v3)]) C dX5_endOfDigits_20 rfl L (by decide) (k := 4) rfl (iinc_1 _) (fun _ => rfl) (fun v4_4 => ?_)
      refine g_goto 3 C dX5_endOfDigits_23 rfl (by decide) ?_
      refine g_sub (ls' := [(0, .ref ((xE Γ).1 51)), (1, .int v1), (2, .int v2), (3, .int v3), (4, .int v4_4)]) [1, 2, 3, 4, 0] rfl ?_
      exact hj3 v4_4
set_option maxRecDepth 20000 in
set_option maxHeartbeats 4000000 in
theorem pX5_endOfDigits_3 {Γ : GX} (C : Cx Γ RX5 cX5_endOfDigits 2) (M : Mx Γ (some .int)) (L : xn Γ = 5) (u : Mm) (v1 : Int32) (v2 : Int32) (v3 : Int32) : ∀ (n : Nat) (v4 : Int32), Gp Γ (QM Γ (cvP u)) 3 [(0, .ref ((xE Γ).1 51)), (1, .int v1), (2, .int v2), (3, .int v3), (4, .int v4)] [] u (gX5_endOfDigits_3_L v1 v2 v3 u n v4) := by
  intro n
  induction n with
  | zero => intro _; exact g_none
  | succ n ih => intro v4; exact pX5_endOfDigits_3s C M L u v1 v2 v3 ih v4

set_option maxRecDepth 20000 in
set_option maxHeartbeats 4000000 in
theorem pX5_endOfDigits_0 {Γ : GX} (C : Cx Γ RX5 cX5_endOfDigits 2) (M : Mx Γ (some .int)) (L : xn Γ = 5) (u : Mm) (v1 : Int32) (v2 : Int32) (v3 : Int32) : Gp Γ (QM Γ (cvP u)) 0 [(0, .ref ((xE Γ).1 51)), (1, .int v1), (2, .int v2), (3, .int v3)] [] u (gX5_endOfDigits_b v1 v2 v3 u) := by
  unfold gX5_endOfDigits_b
  refine g_iload_n C dX5_endOfDigits_0 rfl 1 rfl ?_
  refine g_istore (ls' := [(4, .int v1), (0, .ref ((xE Γ).1 51)), (1, .int v1), (2, .int v2), (3, .int v3)]) C dX5_endOfDigits_1 rfl L (by decide) rfl ?_
  refine g_sub (ls' := [(0, .ref ((xE Γ).1 51)), (1, .int v1), (2, .int v2), (3, .int v3), (4, .int v1)]) [1, 2, 3, 4, 0] rfl ?_
  exact pX5_endOfDigits_3 C M L u v1 v2 v3 FU v1
set_option maxRecDepth 20000 in
set_option maxHeartbeats 4000000 in
theorem tX5_endOfDigits (l : Launch) (E : EE) (v1 : Int32) (v2 : Int32) (v3 : Int32) (u : Mm) : Ct l E yX5_endOfDigits cX5_endOfDigits 5 (some .int) 2 [.ref (E.1 51), .int v1, .int v2, .int v3] u (cvP u) (gX5_endOfDigits v1 v2 v3 u) :=
  Ct_of (own := RX5) (by decide +kernel) rfl (Nat.le_of_ble_eq_true rfl) (fun p e R s m args below meth c C M => g_sub (ls' := [(0, .ref (E.1 51)), (1, .int v1), (2, .int v2), (3, .int v3)]) [0, 1, 2, 3] rfl (pX5_endOfDigits_0 C M rfl u v1 v2 v3))
set_option maxRecDepth 20000 in
set_option maxHeartbeats 4000000 in
theorem pX5_endOfWind_45 {Γ : GX} (C : Cx Γ RX5 cX5_endOfWind 3) (M : Mx Γ (some .int)) (L : xn Γ = 3) (u : Mm) (v1 : Int32) : Gp Γ (QM Γ (cvP u)) 45 [(0, .ref ((xE Γ).1 51)), (1, .int v1)] [] u (gX5_endOfWind_45 v1 u) := by
  unfold gX5_endOfWind_45
  refine g_aload_n C dX5_endOfWind_45 rfl 0 rfl ?_
  refine g_iload_n C dX5_endOfWind_46 rfl 1 rfl ?_
  refine g_iconst (v := 3) C dX5_endOfWind_47 rfl (by decide) ?_
  refine g_iadd C dX5_endOfWind_48 rfl ?_
  refine g_iconst (v := 2) C dX5_endOfWind_49 rfl (by decide) ?_
  refine g_iconst (v := 2) C dX5_endOfWind_50 rfl (by decide) ?_
  refine g_callP [.int (v1 + 3), .int 2, .int 2] C dX5_endOfWind_51 rfl (tX5_endOfDigits (xl Γ) (xE Γ) (v1 + 3) 2 2 u) cf_X5_endOfDigits rfl rfl ml_X5_38 rfl (by decide) (Nat.le_of_ble_eq_true rfl) rfl (fun r1 => ?_)
  exact g_iret C M dX5_endOfWind_54 rfl rfl
set_option maxRecDepth 20000 in
set_option maxHeartbeats 4000000 in
theorem pX5_endOfWind_0 {Γ : GX} (C : Cx Γ RX5 cX5_endOfWind 3) (M : Mx Γ (some .int)) (L : xn Γ = 3) (u : Mm) (v1 : Int32) : Gp Γ (QM Γ (cvP u)) 0 [(0, .ref ((xE Γ).1 51)), (1, .int v1)] [] u (gX5_endOfWind_b v1 u) := by
  unfold gX5_endOfWind_b
  refine g_aload_n C dX5_endOfWind_0 rfl 0 rfl ?_
  refine g_iload_n C dX5_endOfWind_1 rfl 1 rfl ?_
  refine g_iconst (v := 1) C dX5_endOfWind_2 rfl (by decide) ?_
  refine g_iadd C dX5_endOfWind_3 rfl ?_
  refine g_callP [.int (v1 + 1)] C dX5_endOfWind_4 rfl (tX5_isDigit (xl Γ) (xE Γ) (v1 + 1) u) cf_X5_isDigit rfl rfl ml_X5_42 rfl (by decide) (Nat.le_of_ble_eq_true rfl) rfl (fun r1 => ?_)
  refine g_if_ne 16 C dX5_endOfWind_7 rfl (by decide) (fun c2 => ?_) (fun c2 => ?_)
  · refine g_aload_n C dX5_endOfWind_16 rfl 0 rfl ?_
    refine g_getR (k2 := 52) C dX5_endOfWind_17 rfl rfl fi_5_0 ⟨by decide, by decide, rfl⟩ fl_X5_14 ?_
    refine g_iload_n C dX5_endOfWind_20 rfl 1 rfl ?_
    refine g_iconst (v := 2) C dX5_endOfWind_21 rfl (by decide) ?_
    refine g_iadd C dX5_endOfWind_22 rfl ?_
    refine g_callP [.int (v1 + 2)] C dX5_endOfWind_23 rfl (tX7_at (xl Γ) (xE Γ) rfl (v1 + 2) u) cf_X7_at rfl rfl ml_X5_20 rfl (by decide) (Nat.le_of_ble_eq_true rfl) rfl (fun r3 => ?_)
    refine g_istore_n (ls' := [(2, .int r3), (0, .ref ((xE Γ).1 51)), (1, .int v1)]) C dX5_endOfWind_26 rfl L (by decide) rfl ?_
    refine g_iload_n C dX5_endOfWind_27 rfl 0 rfl ?_
    refine g_bipush (v := 43) C dX5_endOfWind_28 rfl (by decide) ?_
    refine g_icmp_eq 45 C dX5_endOfWind_30 rfl (by decide) (fun c4 => ?_) (fun c4 => ?_)
    · refine g_sub (ls' := [(0, .ref ((xE Γ).1 51)), (1, .int v1)]) [1, 2] rfl ?_
      exact pX5_endOfWind_45 C M L u v1
    · refine g_iload_n C dX5_endOfWind_33 rfl 0 rfl ?_
      refine g_bipush (v := 45) C dX5_endOfWind_34 rfl (by decide) ?_
      refine g_icmp_eq 45 C dX5_endOfWind_36 rfl (by decide) (fun c5 => ?_) (fun c5 => ?_)
      · refine g_sub (ls' := [(0, .ref ((xE Γ).1 51)), (1, .int v1)]) [1, 2] rfl ?_
        exact pX5_endOfWind_45 C M L u v1
      · refine g_iconst (v := (-1)) C dX5_endOfWind_39 rfl (by decide) ?_
        refine g_iload_n C dX5_endOfWind_40 rfl 2 rfl ?_
        refine g_iconst (v := 2) C dX5_endOfWind_41 rfl (by decide) ?_
        refine g_iadd C dX5_endOfWind_42 rfl ?_
        refine g_isub C dX5_endOfWind_43 rfl ?_
        exact g_iret C M dX5_endOfWind_44 rfl rfl
  · refine g_iconst (v := (-1)) C dX5_endOfWind_10 rfl (by decide) ?_
    refine g_iload_n C dX5_endOfWind_11 rfl 1 rfl ?_
    refine g_iconst (v := 1) C dX5_endOfWind_12 rfl (by decide) ?_
    refine g_iadd C dX5_endOfWind_13 rfl ?_
    refine g_isub C dX5_endOfWind_14 rfl ?_
    exact g_iret C M dX5_endOfWind_15 rfl rfl
set_option maxRecDepth 20000 in
set_option maxHeartbeats 4000000 in
theorem tX5_endOfWind (l : Launch) (E : EE) (v1 : Int32) (u : Mm) : Ct l E yX5_endOfWind cX5_endOfWind 3 (some .int) 3 [.ref (E.1 51), .int v1] u (cvP u) (gX5_endOfWind v1 u) :=
  Ct_of (own := RX5) (by decide +kernel) rfl (Nat.le_of_ble_eq_true rfl) (fun p e R s m args below meth c C M => g_sub (ls' := [(0, .ref (E.1 51)), (1, .int v1)]) [0, 1] rfl (pX5_endOfWind_0 C M rfl u v1))
set_option maxRecDepth 20000 in
set_option maxHeartbeats 4000000 in
theorem pX5_endOf_0 {Γ : GX} (C : Cx Γ RX5 cX5_endOf 4) (M : Mx Γ (some .int)) (L : xn Γ = 2) (u : Mm) (v1 : Int32) : Gp Γ (QM Γ (cvP u)) 0 [(0, .ref ((xE Γ).1 51)), (1, .int v1)] [] u (gX5_endOf_b v1 u) := by
  unfold gX5_endOf_b
  refine g_aload_n C dX5_endOf_0 rfl 0 rfl ?_
  refine g_getR (k2 := 52) C dX5_endOf_1 rfl rfl fi_5_0 ⟨by decide, by decide, rfl⟩ fl_X5_14 ?_
  refine g_iload_n C dX5_endOf_4 rfl 1 rfl ?_
  refine g_callP [.int v1] C dX5_endOf_5 rfl (tX7_at (xl Γ) (xE Γ) rfl v1 u) cf_X7_at rfl rfl ml_X5_20 rfl (by decide) (Nat.le_of_ble_eq_true rfl) rfl (fun r1 => ?_)
  refine g_if (fun c2 => ?_) (fun c2 => ?_)
  · refine g_tabI 166 174 C dX5_endOf_8 rfl (by rw [c2]; exact ⟨by decide, by decide, rfl⟩) (by decide) ?_
    refine g_aload_n C dX5_endOf_174 rfl 0 rfl ?_
    refine g_iload_n C dX5_endOf_175 rfl 1 rfl ?_
    refine g_iconst (v := 1) C dX5_endOf_176 rfl (by decide) ?_
    refine g_iadd C dX5_endOf_177 rfl ?_
    refine g_iconst (v := 1) C dX5_endOf_178 rfl (by decide) ?_
    refine g_bipush (v := 9) C dX5_endOf_179 rfl (by decide) ?_
    refine g_callP [.int (v1 + 1), .int 1, .int 9] C dX5_endOf_181 rfl (tX5_endOfDigits (xl Γ) (xE Γ) (v1 + 1) 1 9 u) cf_X5_endOfDigits rfl rfl ml_X5_38 rfl (by decide) (Nat.le_of_ble_eq_true rfl) rfl (fun r3 => ?_)
    exact g_iret C M dX5_endOf_184 rfl rfl
  refine g_if (fun c4 => ?_) (fun c4 => ?_)
  · refine g_tabI 136 144 C dX5_endOf_8 rfl (by rw [c4]; exact ⟨by decide, by decide, rfl⟩) (by decide) ?_
    refine g_aload_n C dX5_endOf_144 rfl 0 rfl ?_
    refine g_iload_n C dX5_endOf_145 rfl 1 rfl ?_
    refine g_iconst (v := 1) C dX5_endOf_146 rfl (by decide) ?_
    refine g_iadd C dX5_endOf_147 rfl ?_
    refine g_iconst (v := 5) C dX5_endOf_148 rfl (by decide) ?_
    refine g_iconst (v := 5) C dX5_endOf_149 rfl (by decide) ?_
    refine g_callP [.int (v1 + 1), .int 5, .int 5] C dX5_endOf_150 rfl (tX5_endOfDigits (xl Γ) (xE Γ) (v1 + 1) 5 5 u) cf_X5_endOfDigits rfl rfl ml_X5_38 rfl (by decide) (Nat.le_of_ble_eq_true rfl) rfl (fun r5 => ?_)
    exact g_iret C M dX5_endOf_153 rfl rfl
  refine g_if (fun c6 => ?_) (fun c6 => ?_)
  · refine g_tabI 177 185 C dX5_endOf_8 rfl (by rw [c6]; exact ⟨by decide, by decide, rfl⟩) (by decide) ?_
    refine g_iconst (v := (-1)) C dX5_endOf_185 rfl (by decide) ?_
    refine g_iload_n C dX5_endOf_186 rfl 1 rfl ?_
    refine g_isub C dX5_endOf_187 rfl ?_
    exact g_iret C M dX5_endOf_188 rfl rfl
  refine g_if (fun c7 => ?_) (fun c7 => ?_)
  · refine g_tabI 177 185 C dX5_endOf_8 rfl (by rw [c7]; exact ⟨by decide, by decide, rfl⟩) (by decide) ?_
    refine g_iconst (v := (-1)) C dX5_endOf_185 rfl (by decide) ?_
    refine g_iload_n C dX5_endOf_186 rfl 1 rfl ?_
    refine g_isub C dX5_endOf_187 rfl ?_
    exact g_iret C M dX5_endOf_188 rfl rfl
  refine g_if (fun c8 => ?_) (fun c8 => ?_)
  · refine g_tabI 177 185 C dX5_endOf_8 rfl (by rw [c8]; exact ⟨by decide, by decide, rfl⟩) (by decide) ?_
    refine g_iconst (v := (-1)) C dX5_endOf_185 rfl (by decide) ?_
    refine g_iload_n C dX5_endOf_186 rfl 1 rfl ?_
    refine g_isub C dX5_endOf_187 rfl ?_
    exact g_iret C M dX5_endOf_188 rfl rfl
  refine g_if (fun c9 => ?_) (fun c9 => ?_)
  · refine g_tabI 114 122 C dX5_endOf_8 rfl (by rw [c9]; exact ⟨by decide, by decide, rfl⟩) (by decide) ?_
    refine g_aload_n C dX5_endOf_122 rfl 0 rfl ?_
    refine g_iload_n C dX5_endOf_123 rfl 1 rfl ?_
    refine g_iconst (v := 1) C dX5_endOf_124 rfl (by decide) ?_
    refine g_iadd C dX5_endOf_125 rfl ?_
    refine g_bipush (v := 10) C dX5_endOf_126 rfl (by decide) ?_
    refine g_bipush (v := 10) C dX5_endOf_128 rfl (by decide) ?_
    refine g_callP [.int (v1 + 1), .int 10, .int 10] C dX5_endOf_130 rfl (tX5_endOfDigits (xl Γ) (xE Γ) (v1 + 1) 10 10 u) cf_X5_endOfDigits rfl rfl ml_X5_38 rfl (by decide) (Nat.le_of_ble_eq_true rfl) rfl (fun r10 => ?_)
    exact g_iret C M dX5_endOf_133 rfl rfl
  refine g_if (fun c11 => ?_) (fun c11 => ?_)
  · refine g_tabI 177 185 C dX5_endOf_8 rfl (by rw [c11]; exact ⟨by decide, by decide, rfl⟩) (by decide) ?_
    refine g_iconst (v := (-1)) C dX5_endOf_185 rfl (by decide) ?_
    refine g_iload_n C dX5_endOf_186 rfl 1 rfl ?_
    refine g_isub C dX5_endOf_187 rfl ?_
    exact g_iret C M dX5_endOf_188 rfl rfl
  refine g_if (fun c12 => ?_) (fun c12 => ?_)
  · refine g_tabI 146 154 C dX5_endOf_8 rfl (by rw [c12]; exact ⟨by decide, by decide, rfl⟩) (by decide) ?_
    refine g_aload_n C dX5_endOf_154 rfl 0 rfl ?_
    refine g_iload_n C dX5_endOf_155 rfl 1 rfl ?_
    refine g_iconst (v := 1) C dX5_endOf_156 rfl (by decide) ?_
    refine g_iadd C dX5_endOf_157 rfl ?_
    refine g_iconst (v := 2) C dX5_endOf_158 rfl (by decide) ?_
    refine g_iconst (v := 2) C dX5_endOf_159 rfl (by decide) ?_
    refine g_callP [.int (v1 + 1), .int 2, .int 2] C dX5_endOf_160 rfl (tX5_endOfDigits (xl Γ) (xE Γ) (v1 + 1) 2 2 u) cf_X5_endOfDigits rfl rfl ml_X5_38 rfl (by decide) (Nat.le_of_ble_eq_true rfl) rfl (fun r13 => ?_)
    exact g_iret C M dX5_endOf_163 rfl rfl
  refine g_if (fun c14 => ?_) (fun c14 => ?_)
  · refine g_tabI 177 185 C dX5_endOf_8 rfl (by rw [c14]; exact ⟨by decide, by decide, rfl⟩) (by decide) ?_
    refine g_iconst (v := (-1)) C dX5_endOf_185 rfl (by decide) ?_
    refine g_iload_n C dX5_endOf_186 rfl 1 rfl ?_
    refine g_isub C dX5_endOf_187 rfl ?_
    exact g_iret C M dX5_endOf_188 rfl rfl
  refine g_if (fun c15 => ?_) (fun c15 => ?_)
  · refine g_tabI 177 185 C dX5_endOf_8 rfl (by rw [c15]; exact ⟨by decide, by decide, rfl⟩) (by decide) ?_
    refine g_iconst (v := (-1)) C dX5_endOf_185 rfl (by decide) ?_
    refine g_iload_n C dX5_endOf_186 rfl 1 rfl ?_
    refine g_isub C dX5_endOf_187 rfl ?_
    exact g_iret C M dX5_endOf_188 rfl rfl
  refine g_if (fun c16 => ?_) (fun c16 => ?_)
  · refine g_tabI 177 185 C dX5_endOf_8 rfl (by rw [c16]; exact ⟨by decide, by decide, rfl⟩) (by decide) ?_
    refine g_iconst (v := (-1)) C dX5_endOf_185 rfl (by decide) ?_
    refine g_iload_n C dX5_endOf_186 rfl 1 rfl ?_
    refine g_isub C dX5_endOf_187 rfl ?_
    exact g_iret C M dX5_endOf_188 rfl rfl
  refine g_if (fun c17 => ?_) (fun c17 => ?_)
  · refine g_tabI 156 164 C dX5_endOf_8 rfl (by rw [c17]; exact ⟨by decide, by decide, rfl⟩) (by decide) ?_
    refine g_aload_n C dX5_endOf_164 rfl 0 rfl ?_
    refine g_iload_n C dX5_endOf_165 rfl 1 rfl ?_
    refine g_iconst (v := 1) C dX5_endOf_166 rfl (by decide) ?_
    refine g_iadd C dX5_endOf_167 rfl ?_
    refine g_iconst (v := 1) C dX5_endOf_168 rfl (by decide) ?_
    refine g_iconst (v := 1) C dX5_endOf_169 rfl (by decide) ?_
    refine g_callP [.int (v1 + 1), .int 1, .int 1] C dX5_endOf_170 rfl (tX5_endOfDigits (xl Γ) (xE Γ) (v1 + 1) 1 1 u) cf_X5_endOfDigits rfl rfl ml_X5_38 rfl (by decide) (Nat.le_of_ble_eq_true rfl) rfl (fun r18 => ?_)
    exact g_iret C M dX5_endOf_173 rfl rfl
  refine g_if (fun c19 => ?_) (fun c19 => ?_)
  · refine g_tabI 177 185 C dX5_endOf_8 rfl (by rw [c19]; exact ⟨by decide, by decide, rfl⟩) (by decide) ?_
    refine g_iconst (v := (-1)) C dX5_endOf_185 rfl (by decide) ?_
    refine g_iload_n C dX5_endOf_186 rfl 1 rfl ?_
    refine g_isub C dX5_endOf_187 rfl ?_
    exact g_iret C M dX5_endOf_188 rfl rfl
  refine g_if (fun c20 => ?_) (fun c20 => ?_)
  · refine g_tabI 177 185 C dX5_endOf_8 rfl (by rw [c20]; exact ⟨by decide, by decide, rfl⟩) (by decide) ?_
    refine g_iconst (v := (-1)) C dX5_endOf_185 rfl (by decide) ?_
    refine g_iload_n C dX5_endOf_186 rfl 1 rfl ?_
    refine g_isub C dX5_endOf_187 rfl ?_
    exact g_iret C M dX5_endOf_188 rfl rfl
  refine g_if (fun c21 => ?_) (fun c21 => ?_)
  · refine g_tabI 177 185 C dX5_endOf_8 rfl (by rw [c21]; exact ⟨by decide, by decide, rfl⟩) (by decide) ?_
    refine g_iconst (v := (-1)) C dX5_endOf_185 rfl (by decide) ?_
    refine g_iload_n C dX5_endOf_186 rfl 1 rfl ?_
    refine g_isub C dX5_endOf_187 rfl ?_
    exact g_iret C M dX5_endOf_188 rfl rfl
  refine g_if (fun c22 => ?_) (fun c22 => ?_)
  · refine g_tabI 177 185 C dX5_endOf_8 rfl (by rw [c22]; exact ⟨by decide, by decide, rfl⟩) (by decide) ?_
    refine g_iconst (v := (-1)) C dX5_endOf_185 rfl (by decide) ?_
    refine g_iload_n C dX5_endOf_186 rfl 1 rfl ?_
    refine g_isub C dX5_endOf_187 rfl ?_
    exact g_iret C M dX5_endOf_188 rfl rfl
  refine g_if (fun c23 => ?_) (fun c23 => ?_)
  · refine g_tabI 177 185 C dX5_endOf_8 rfl (by rw [c23]; exact ⟨by decide, by decide, rfl⟩) (by decide) ?_
    refine g_iconst (v := (-1)) C dX5_endOf_185 rfl (by decide) ?_
    refine g_iload_n C dX5_endOf_186 rfl 1 rfl ?_
    refine g_isub C dX5_endOf_187 rfl ?_
    exact g_iret C M dX5_endOf_188 rfl rfl
  refine g_if (fun c24 => ?_) (fun c24 => ?_)
  · refine g_tabI 126 134 C dX5_endOf_8 rfl (by rw [c24]; exact ⟨by decide, by decide, rfl⟩) (by decide) ?_
    refine g_aload_n C dX5_endOf_134 rfl 0 rfl ?_
    refine g_iload_n C dX5_endOf_135 rfl 1 rfl ?_
    refine g_iconst (v := 1) C dX5_endOf_136 rfl (by decide) ?_
    refine g_iadd C dX5_endOf_137 rfl ?_
    refine g_iconst (v := 4) C dX5_endOf_138 rfl (by decide) ?_
    refine g_iconst (v := 4) C dX5_endOf_139 rfl (by decide) ?_
    refine g_callP [.int (v1 + 1), .int 4, .int 4] C dX5_endOf_140 rfl (tX5_endOfDigits (xl Γ) (xE Γ) (v1 + 1) 4 4 u) cf_X5_endOfDigits rfl rfl ml_X5_38 rfl (by decide) (Nat.le_of_ble_eq_true rfl) rfl (fun r25 => ?_)
    exact g_iret C M dX5_endOf_143 rfl rfl
  refine g_if (fun c26 => ?_) (fun c26 => ?_)
  · refine g_tabI 177 185 C dX5_endOf_8 rfl (by rw [c26]; exact ⟨by decide, by decide, rfl⟩) (by decide) ?_
    refine g_iconst (v := (-1)) C dX5_endOf_185 rfl (by decide) ?_
    refine g_iload_n C dX5_endOf_186 rfl 1 rfl ?_
    refine g_isub C dX5_endOf_187 rfl ?_
    exact g_iret C M dX5_endOf_188 rfl rfl
  refine g_if (fun c27 => ?_) (fun c27 => ?_)
  · refine g_tabI 177 185 C dX5_endOf_8 rfl (by rw [c27]; exact ⟨by decide, by decide, rfl⟩) (by decide) ?_
    refine g_iconst (v := (-1)) C dX5_endOf_185 rfl (by decide) ?_
    refine g_iload_n C dX5_endOf_186 rfl 1 rfl ?_
    refine g_isub C dX5_endOf_187 rfl ?_
    exact g_iret C M dX5_endOf_188 rfl rfl
  refine g_if (fun c28 => ?_) (fun c28 => ?_)
  · refine g_tabI 177 185 C dX5_endOf_8 rfl (by rw [c28]; exact ⟨by decide, by decide, rfl⟩) (by decide) ?_
    refine g_iconst (v := (-1)) C dX5_endOf_185 rfl (by decide) ?_
    refine g_iload_n C dX5_endOf_186 rfl 1 rfl ?_
    refine g_isub C dX5_endOf_187 rfl ?_
    exact g_iret C M dX5_endOf_188 rfl rfl
  refine g_if (fun c29 => ?_) (fun c29 => ?_)
  · refine g_tabI 177 185 C dX5_endOf_8 rfl (by rw [c29]; exact ⟨by decide, by decide, rfl⟩) (by decide) ?_
    refine g_iconst (v := (-1)) C dX5_endOf_185 rfl (by decide) ?_
    refine g_iload_n C dX5_endOf_186 rfl 1 rfl ?_
    refine g_isub C dX5_endOf_187 rfl ?_
    exact g_iret C M dX5_endOf_188 rfl rfl
  refine g_if (fun c30 => ?_) (fun c30 => ?_)
  · refine g_tabI 108 116 C dX5_endOf_8 rfl (by rw [c30]; exact ⟨by decide, by decide, rfl⟩) (by decide) ?_
    refine g_aload_n C dX5_endOf_116 rfl 0 rfl ?_
    refine g_iload_n C dX5_endOf_117 rfl 1 rfl ?_
    refine g_callP [.int v1] C dX5_endOf_118 rfl (tX5_endOfWind (xl Γ) (xE Γ) v1 u) cf_X5_endOfWind rfl rfl ml_X5_35 rfl (by decide) (Nat.le_of_ble_eq_true rfl) rfl (fun r31 => ?_)
    exact g_iret C M dX5_endOf_121 rfl rfl
  have ec2 := lv_neT c2 (a := 97) (by decide)
  have ec4 := lv_neT c4 (a := 98) (by decide)
  have ec6 := lv_neT c6 (a := 99) (by decide)
  have ec7 := lv_neT c7 (a := 100) (by decide)
  have ec8 := lv_neT c8 (a := 101) (by decide)
  have ec9 := lv_neT c9 (a := 102) (by decide)
  have ec11 := lv_neT c11 (a := 103) (by decide)
  have ec12 := lv_neT c12 (a := 104) (by decide)
  have ec14 := lv_neT c14 (a := 105) (by decide)
  have ec15 := lv_neT c15 (a := 106) (by decide)
  have ec16 := lv_neT c16 (a := 107) (by decide)
  have ec17 := lv_neT c17 (a := 108) (by decide)
  have ec19 := lv_neT c19 (a := 109) (by decide)
  have ec20 := lv_neT c20 (a := 110) (by decide)
  have ec21 := lv_neT c21 (a := 111) (by decide)
  have ec22 := lv_neT c22 (a := 112) (by decide)
  have ec23 := lv_neT c23 (a := 113) (by decide)
  have ec24 := lv_neT c24 (a := 114) (by decide)
  have ec26 := lv_neT c26 (a := 115) (by decide)
  have ec27 := lv_neT c27 (a := 116) (by decide)
  have ec28 := lv_neT c28 (a := 117) (by decide)
  have ec29 := lv_neT c29 (a := 118) (by decide)
  have ec30 := lv_neT c30 (a := 119) (by decide)
  refine g_tabO 185 C dX5_endOf_8 rfl (by omega) (by decide) ?_
  refine g_iconst (v := (-1)) C dX5_endOf_185 rfl (by decide) ?_
  refine g_iload_n C dX5_endOf_186 rfl 1 rfl ?_
  refine g_isub C dX5_endOf_187 rfl ?_
  exact g_iret C M dX5_endOf_188 rfl rfl
set_option maxRecDepth 20000 in
set_option maxHeartbeats 4000000 in
theorem tX5_endOf (l : Launch) (E : EE) (v1 : Int32) (u : Mm) : Ct l E yX5_endOf cX5_endOf 2 (some .int) 4 [.ref (E.1 51), .int v1] u (cvP u) (gX5_endOf v1 u) :=
  Ct_of (own := RX5) (by decide +kernel) rfl (Nat.le_of_ble_eq_true rfl) (fun p e R s m args below meth c C M => g_sub (ls' := [(0, .ref (E.1 51)), (1, .int v1)]) [0, 1] rfl (pX5_endOf_0 C M rfl u v1))
set_option maxRecDepth 20000 in
set_option maxHeartbeats 4000000 in
theorem pX5_firstMisplaced_25 {Γ : GX} (C : Cx Γ RX5 cX5_firstMisplaced 5) (M : Mx Γ (some .int)) (L : xn Γ = 4) (u : Mm) (v1 : Int32) (v2 : Int32) {j4 : Int32 → Int32 → Option Int32} (hj4 : ∀ (v1 : Int32) (v2 : Int32), Gp Γ (QM Γ (cvP u)) 4 [(0, .ref ((xE Γ).1 51)), (1, .int v1), (2, .int v2)] [] u (j4 v1 v2)) : Gp Γ (QM Γ (cvP u)) 25 [(0, .ref ((xE Γ).1 51)), (1, .int v1), (2, .int v2)] [] u (gX5_firstMisplaced_25 j4 v1 v2 u) := by
  unfold gX5_firstMisplaced_25
  refine g_aload_n C dX5_firstMisplaced_25 rfl 0 rfl ?_
  refine g_iload_n C dX5_firstMisplaced_26 rfl 1 rfl ?_
  refine g_callP [.int v1] C dX5_firstMisplaced_27 rfl (tX5_endOf (xl Γ) (xE Γ) v1 u) cf_X5_endOf rfl rfl ml_X5_28 rfl (by decide) (Nat.le_of_ble_eq_true rfl) rfl (fun r1 => ?_)
  refine g_istore_n (ls' := [(3, .int r1), (0, .ref ((xE Γ).1 51)), (1, .int v1), (2, .int v2)]) C dX5_firstMisplaced_30 rfl L (by decide) rfl ?_
  refine g_iload_n C dX5_firstMisplaced_31 rfl 0 rfl ?_
  refine g_if_ge 39 C dX5_firstMisplaced_32 rfl (by decide) (fun c2 => ?_) (fun c2 => ?_)
  · refine g_iload_n C dX5_firstMisplaced_39 rfl 0 rfl ?_
    refine g_iconst (v := 1) C dX5_firstMisplaced_40 rfl (by decide) ?_
    refine g_iadd C dX5_firstMisplaced_41 rfl ?_
    refine g_lets (fun v1_3 => ?_)
    refine g_istore_n (ls' := [(1, .int v1_3), (3, .int r1), (0, .ref ((xE Γ).1 51)), (2, .int v2)]) C dX5_firstMisplaced_42 rfl L (by decide) rfl ?_
    refine g_iincL (fun v2_4 => [(2, .int v2_4), (1, .int v1_3), (3, .int r1), (0, .ref ((xE Γ).1 51))]) C dX5_firstMisplaced_43 rfl L (by decide) (k := 3) rfl (iinc_1 _) (fun _ => rfl) (fun v2_4 => ?_)
    refine g_goto 4 C dX5_firstMisplaced_46 rfl (by decide) ?_
    refine g_sub (ls' := [(0, .ref ((xE Γ).1 51)), (1, .int v1_3), (2, .int v2_4)]) [3, 1, 0] rfl ?_
    exact hj4 v1_3 v2_4
  · refine g_iconst (v := (-1)) C dX5_firstMisplaced_35 rfl (by decide) ?_
    refine g_iload_n C dX5_firstMisplaced_36 rfl 0 rfl ?_
    refine g_isub C dX5_firstMisplaced_37 rfl ?_
    exact g_iret C M dX5_firstMisplaced_38 rfl rfl
set_option maxRecDepth 20000 in
set_option maxHeartbeats 4000000 in
theorem pX5_firstMisplaced_4s {Γ : GX} (C : Cx Γ RX5 cX5_firstMisplaced 5) (M : Mx Γ (some .int)) (L : xn Γ = 4) (u : Mm) {j4 : Int32 → Int32 → Option Int32} (hj4 : ∀ (v1 : Int32) (v2 : Int32), Gp Γ (QM Γ (cvP u)) 4 [(0, .ref ((xE Γ).1 51)), (1, .int v1), (2, .int v2)] [] u (j4 v1 v2)) (v1 : Int32) (v2 : Int32) : Gp Γ (QM Γ (cvP u)) 4 [(0, .ref ((xE Γ).1 51)), (1, .int v1), (2, .int v2)] [] u (gX5_firstMisplaced_4_Ls u j4 v1 v2) := by
  unfold gX5_firstMisplaced_4_Ls
  refine g_iload_n C dX5_firstMisplaced_4 rfl 2 rfl ?_
  refine g_bipush (v := 96) C dX5_firstMisplaced_5 rfl (by decide) ?_
  refine g_icmp_ge 49 C dX5_firstMisplaced_7 rfl (by decide) (fun c1 => ?_) (fun c1 => ?_)
  · refine g_bipush (v := (-9)) C dX5_firstMisplaced_49 rfl (by decide) ?_
    exact g_iret C M dX5_firstMisplaced_51 rfl rfl
  · refine g_iload_n C dX5_firstMisplaced_10 rfl 1 rfl ?_
    refine g_if_eq 25 C dX5_firstMisplaced_11 rfl (by decide) (fun c2 => ?_) (fun c2 => ?_)
    · exact pX5_firstMisplaced_25 C M L u v1 v2 hj4
    · refine g_iload_n C dX5_firstMisplaced_14 rfl 1 rfl ?_
      refine g_aload_n C dX5_firstMisplaced_15 rfl 0 rfl ?_
      refine g_getR (k2 := 52) C dX5_firstMisplaced_16 rfl rfl fi_5_0 ⟨by decide, by decide, rfl⟩ fl_X5_14 ?_
      refine g_getI C dX5_firstMisplaced_19 rfl rfl fi_7_0 rfl fl_X5_24 ?_
      refine g_icmp_ge 49 C dX5_firstMisplaced_22 rfl (by decide) (fun c3 => ?_) (fun c3 => ?_)
      · refine g_bipush (v := (-9)) C dX5_firstMisplaced_49 rfl (by decide) ?_
        exact g_iret C M dX5_firstMisplaced_51 rfl rfl
      · exact pX5_firstMisplaced_25 C M L u v1 v2 hj4
set_option maxRecDepth 20000 in
set_option maxHeartbeats 4000000 in
theorem pX5_firstMisplaced_4 {Γ : GX} (C : Cx Γ RX5 cX5_firstMisplaced 5) (M : Mx Γ (some .int)) (L : xn Γ = 4) (u : Mm) : ∀ (n : Nat) (v1 : Int32) (v2 : Int32), Gp Γ (QM Γ (cvP u)) 4 [(0, .ref ((xE Γ).1 51)), (1, .int v1), (2, .int v2)] [] u (gX5_firstMisplaced_4_L u n v1 v2) := by
  intro n
  induction n with
  | zero => intro _ _; exact g_none
  | succ n ih => intro v1 v2; exact pX5_firstMisplaced_4s C M L u ih v1 v2

set_option maxRecDepth 20000 in
set_option maxHeartbeats 4000000 in
theorem pX5_firstMisplaced_0 {Γ : GX} (C : Cx Γ RX5 cX5_firstMisplaced 5) (M : Mx Γ (some .int)) (L : xn Γ = 4) (u : Mm) : Gp Γ (QM Γ (cvP u)) 0 [(0, .ref ((xE Γ).1 51))] [] u (gX5_firstMisplaced_b u) := by
  unfold gX5_firstMisplaced_b
  refine g_iconst (v := 0) C dX5_firstMisplaced_0 rfl (by decide) ?_
  refine g_istore_n (ls' := [(1, .int 0), (0, .ref ((xE Γ).1 51))]) C dX5_firstMisplaced_1 rfl L (by decide) rfl ?_
  refine g_iconst (v := 0) C dX5_firstMisplaced_2 rfl (by decide) ?_
  refine g_istore_n (ls' := [(2, .int 0), (1, .int 0), (0, .ref ((xE Γ).1 51))]) C dX5_firstMisplaced_3 rfl L (by decide) rfl ?_
  refine g_sub (ls' := [(0, .ref ((xE Γ).1 51)), (1, .int 0), (2, .int 0)]) [2, 1, 0] rfl ?_
  exact pX5_firstMisplaced_4 C M L u FU 0 0
set_option maxRecDepth 20000 in
set_option maxHeartbeats 4000000 in
theorem tX5_firstMisplaced (l : Launch) (E : EE) (u : Mm) : Ct l E yX5_firstMisplaced cX5_firstMisplaced 4 (some .int) 5 [.ref (E.1 51)] u (cvP u) (gX5_firstMisplaced u) :=
  Ct_of (own := RX5) (by decide +kernel) rfl (Nat.le_of_ble_eq_true rfl) (fun p e R s m args below meth c C M => g_sub (ls' := [(0, .ref (E.1 51))]) [0] rfl (pX5_firstMisplaced_0 C M rfl u))
set_option maxRecDepth 20000 in
set_option maxHeartbeats 4000000 in
theorem pX5_tellWind_53 {Γ : GX} (C : Cx Γ RX5 cX5_tellWind 2) (M : Mx Γ (some .boolean)) (L : xn Γ = 5) {k2 : Nat} (hk2 : kd k2 = 3) (v1 : Int32) (s0 : Int32) (s1 : Int32) (u : Mm) : Gp Γ (QM Γ cvI) 53 [(0, .ref ((xE Γ).1 51)), (1, .int v1)] [.int s0, .int s1, .ref ((xE Γ).1 k2)] u (gX5_tellWind_53 k2 v1 s0 s1 u) := by
  unfold gX5_tellWind_53
  refine g_aload_n C dX5_tellWind_53 rfl 0 rfl ?_
  refine g_iload_n C dX5_tellWind_54 rfl 1 rfl ?_
  refine g_iconst (v := 4) C dX5_tellWind_55 rfl (by decide) ?_
  refine g_iadd C dX5_tellWind_56 rfl ?_
  refine g_iconst (v := 1) C dX5_tellWind_57 rfl (by decide) ?_
  refine g_callP [.int (v1 + 4), .int 1] C dX5_tellWind_58 rfl (tX5_number (xl Γ) (xE Γ) (v1 + 4) 1 u) cf_X5_number rfl rfl ml_X5_89 rfl (by decide) (Nat.le_of_ble_eq_true rfl) rfl (fun r1 => ?_)
  refine g_callV [.int s1, .int s0, .int r1] C dX5_tellWind_61 rfl (tX0_blow (xl Γ) (xE Γ) hk2 s1 s0 r1 u) cf_X0_blow hk2 rfl ml_X5_96 rfl (by decide) (Nat.le_of_ble_eq_true rfl) rfl (fun u2 => ?_)
  refine g_iconst (v := 1) C dX5_tellWind_64 rfl (by decide) ?_
  exact g_zret C M dX5_tellWind_65 rfl (by decide) rfl
set_option maxRecDepth 20000 in
set_option maxHeartbeats 4000000 in
theorem pX5_tellWind_0 {Γ : GX} (C : Cx Γ RX5 cX5_tellWind 2) (M : Mx Γ (some .boolean)) (L : xn Γ = 5) {k2 : Nat} (hk2 : kd k2 = 3) (v1 : Int32) (u : Mm) : Gp Γ (QM Γ cvI) 0 [(0, .ref ((xE Γ).1 51)), (1, .int v1), (2, .ref ((xE Γ).1 k2))] [] u (gX5_tellWind_b k2 v1 u) := by
  unfold gX5_tellWind_b
  refine g_aload_n C dX5_tellWind_0 rfl 0 rfl ?_
  refine g_iload_n C dX5_tellWind_1 rfl 1 rfl ?_
  refine g_iconst (v := 1) C dX5_tellWind_2 rfl (by decide) ?_
  refine g_iadd C dX5_tellWind_3 rfl ?_
  refine g_iconst (v := 1) C dX5_tellWind_4 rfl (by decide) ?_
  refine g_callP [.int (v1 + 1), .int 1] C dX5_tellWind_5 rfl (tX5_number (xl Γ) (xE Γ) (v1 + 1) 1 u) cf_X5_number rfl rfl ml_X5_89 rfl (by decide) (Nat.le_of_ble_eq_true rfl) rfl (fun r1 => ?_)
  refine g_istore_n (ls' := [(3, .int r1), (0, .ref ((xE Γ).1 51)), (1, .int v1), (2, .ref ((xE Γ).1 k2))]) C dX5_tellWind_8 rfl L (by decide) rfl ?_
  refine g_iload_n C dX5_tellWind_9 rfl 0 rfl ?_
  refine g_callnP [.int r1] C dX5_tellWind_10 rfl (tX10_isLayer (xl Γ) (xE Γ) r1 u) cf_X10_isLayer (List.mem_of_getElem? (i := 2) rfl) rfl (by decide) (Nat.le_of_ble_eq_true rfl) rfl (fun r2 => ?_)
  refine g_if_ne 18 C dX5_tellWind_13 rfl (by decide) (fun c3 => ?_) (fun c3 => ?_)
  · refine g_aload_n C dX5_tellWind_18 rfl 1 rfl ?_
    refine g_iload_n C dX5_tellWind_19 rfl 2 rfl ?_
    refine g_iconst (v := 3) C dX5_tellWind_20 rfl (by decide) ?_
    refine g_iadd C dX5_tellWind_21 rfl ?_
    refine g_iconst (v := 1) C dX5_tellWind_22 rfl (by decide) ?_
    refine g_callP [.int (v1 + 3), .int 1] C dX5_tellWind_23 rfl (tX5_number (xl Γ) (xE Γ) (v1 + 3) 1 u) cf_X5_number rfl rfl ml_X5_89 rfl (by decide) (Nat.le_of_ble_eq_true rfl) rfl (fun r4 => ?_)
    refine g_istore (ls' := [(4, .int r4), (3, .int r1), (0, .ref ((xE Γ).1 51)), (1, .int v1), (2, .ref ((xE Γ).1 k2))]) C dX5_tellWind_26 rfl L (by decide) rfl ?_
    refine g_aload_n C dX5_tellWind_28 rfl 4 rfl ?_
    refine g_iload_n C dX5_tellWind_29 rfl 1 rfl ?_
    refine g_aload_n C dX5_tellWind_30 rfl 2 rfl ?_
    refine g_getR (k2 := 52) C dX5_tellWind_31 rfl rfl fi_5_0 ⟨by decide, by decide, rfl⟩ fl_X5_14 ?_
    refine g_iload_n C dX5_tellWind_34 rfl 3 rfl ?_
    refine g_iconst (v := 2) C dX5_tellWind_35 rfl (by decide) ?_
    refine g_iadd C dX5_tellWind_36 rfl ?_
    refine g_callP [.int (v1 + 2)] C dX5_tellWind_37 rfl (tX7_at (xl Γ) (xE Γ) rfl (v1 + 2) u) cf_X7_at rfl rfl ml_X5_20 rfl (by decide) (Nat.le_of_ble_eq_true rfl) rfl (fun r5 => ?_)
    refine g_bipush (v := 45) C dX5_tellWind_40 rfl (by decide) ?_
    refine g_icmp_ne 51 C dX5_tellWind_42 rfl (by decide) (fun c6 => ?_) (fun c6 => ?_)
    · refine g_iload C dX5_tellWind_51 rfl 0 rfl ?_
      refine g_sub (ls' := [(0, .ref ((xE Γ).1 51)), (1, .int v1)]) [2, 3] rfl ?_
      exact pX5_tellWind_53 C M L hk2 v1 r4 r1 u
    · refine g_iload C dX5_tellWind_45 rfl 0 rfl ?_
      refine g_ineg C dX5_tellWind_47 rfl ?_
      refine g_goto 53 C dX5_tellWind_48 rfl (by decide) ?_
      refine g_sub (ls' := [(0, .ref ((xE Γ).1 51)), (1, .int v1)]) [2, 3] rfl ?_
      exact pX5_tellWind_53 C M L hk2 v1 (-r4) r1 u
  · refine g_iconst (v := 0) C dX5_tellWind_16 rfl (by decide) ?_
    exact g_zret C M dX5_tellWind_17 rfl (by decide) rfl
set_option maxRecDepth 20000 in
set_option maxHeartbeats 4000000 in
theorem tX5_tellWind (l : Launch) (E : EE) (v1 : Int32) {k2 : Nat} (hk2 : kd k2 = 3) (u : Mm) : Ct l E yX5_tellWind cX5_tellWind 5 (some .boolean) 2 [.ref (E.1 51), .int v1, .ref (E.1 k2)] u cvI (gX5_tellWind v1 k2 u) :=
  Ct_of (own := RX5) (by decide +kernel) rfl (Nat.le_of_ble_eq_true rfl) (fun p e R s m args below meth c C M => g_sub (ls' := [(0, .ref (E.1 51)), (1, .int v1), (2, .ref (E.1 k2))]) [0, 1, 2] rfl (pX5_tellWind_0 C M rfl hk2 v1 u))
set_option maxRecDepth 20000 in
set_option maxHeartbeats 4000000 in
theorem pX5_tellField_0 {Γ : GX} (C : Cx Γ RX5 cX5_tellField 2) (M : Mx Γ (some .boolean)) (L : xn Γ = 5) {k2 : Nat} (hk2 : kd k2 = 4) (v1 : Int32) (u : Mm) : Gp Γ (QM Γ cvI) 0 [(0, .ref ((xE Γ).1 51)), (1, .int v1), (2, .ref ((xE Γ).1 k2))] [] u (gX5_tellField_b k2 v1 u) := by
  unfold gX5_tellField_b
  refine g_aload_n C dX5_tellField_0 rfl 0 rfl ?_
  refine g_iload_n C dX5_tellField_1 rfl 1 rfl ?_
  refine g_iconst (v := 1) C dX5_tellField_2 rfl (by decide) ?_
  refine g_iadd C dX5_tellField_3 rfl ?_
  refine g_iconst (v := 1) C dX5_tellField_4 rfl (by decide) ?_
  refine g_callP [.int (v1 + 1), .int 1] C dX5_tellField_5 rfl (tX5_number (xl Γ) (xE Γ) (v1 + 1) 1 u) cf_X5_number rfl rfl ml_X5_89 rfl (by decide) (Nat.le_of_ble_eq_true rfl) rfl (fun r1 => ?_)
  refine g_istore_n (ls' := [(3, .int r1), (0, .ref ((xE Γ).1 51)), (1, .int v1), (2, .ref ((xE Γ).1 k2))]) C dX5_tellField_8 rfl L (by decide) rfl ?_
  refine g_aload_n C dX5_tellField_9 rfl 1 rfl ?_
  refine g_iload_n C dX5_tellField_10 rfl 2 rfl ?_
  refine g_bipush (v := 9) C dX5_tellField_11 rfl (by decide) ?_
  refine g_iadd C dX5_tellField_13 rfl ?_
  refine g_iconst (v := 2) C dX5_tellField_14 rfl (by decide) ?_
  refine g_callP [.int (v1 + 9), .int 2] C dX5_tellField_15 rfl (tX5_number (xl Γ) (xE Γ) (v1 + 9) 2 u) cf_X5_number rfl rfl ml_X5_89 rfl (by decide) (Nat.le_of_ble_eq_true rfl) rfl (fun r2 => ?_)
  refine g_istore (ls' := [(4, .int r2), (3, .int r1), (0, .ref ((xE Γ).1 51)), (1, .int v1), (2, .ref ((xE Γ).1 k2))]) C dX5_tellField_18 rfl L (by decide) rfl ?_
  refine g_iload_n C dX5_tellField_20 rfl 1 rfl ?_
  refine g_iconst (v := 5) C dX5_tellField_21 rfl (by decide) ?_
  refine g_icmp_gt 45 C dX5_tellField_22 rfl (by decide) (fun c3 => ?_) (fun c3 => ?_)
  · refine g_iconst (v := 0) C dX5_tellField_45 rfl (by decide) ?_
    exact g_zret C M dX5_tellField_46 rfl (by decide) rfl
  · refine g_iload C dX5_tellField_25 rfl 0 rfl ?_
    refine g_iconst (v := 1) C dX5_tellField_27 rfl (by decide) ?_
    refine g_icmp_lt 45 C dX5_tellField_28 rfl (by decide) (fun c4 => ?_) (fun c4 => ?_)
    · refine g_iconst (v := 0) C dX5_tellField_45 rfl (by decide) ?_
      exact g_zret C M dX5_tellField_46 rfl (by decide) rfl
    · refine g_iload C dX5_tellField_31 rfl 0 rfl ?_
      refine g_bipush (v := 30) C dX5_tellField_33 rfl (by decide) ?_
      refine g_icmp_gt 45 C dX5_tellField_35 rfl (by decide) (fun c5 => ?_) (fun c5 => ?_)
      · refine g_iconst (v := 0) C dX5_tellField_45 rfl (by decide) ?_
        exact g_zret C M dX5_tellField_46 rfl (by decide) rfl
      · refine g_aload_n C dX5_tellField_38 rfl 4 rfl ?_
        refine g_callP [] C dX5_tellField_39 rfl (tX1_isFull (xl Γ) (xE Γ) hk2 u) cf_X1_isFull hk2 rfl ml_X5_102 rfl (by decide) (Nat.le_of_ble_eq_true rfl) rfl (fun r6 => ?_)
        refine g_if_eq 47 C dX5_tellField_42 rfl (by decide) (fun c7 => ?_) (fun c7 => ?_)
        · refine g_aload_n C dX5_tellField_47 rfl 4 rfl ?_
          refine g_iload_n C dX5_tellField_48 rfl 1 rfl ?_
          refine g_aload_n C dX5_tellField_49 rfl 2 rfl ?_
          refine g_iload_n C dX5_tellField_50 rfl 3 rfl ?_
          refine g_iconst (v := 2) C dX5_tellField_51 rfl (by decide) ?_
          refine g_iadd C dX5_tellField_52 rfl ?_
          refine g_iconst (v := 1) C dX5_tellField_53 rfl (by decide) ?_
          refine g_callP [.int (v1 + 2), .int 1] C dX5_tellField_54 rfl (tX5_number (xl Γ) (xE Γ) (v1 + 2) 1 u) cf_X5_number rfl rfl ml_X5_89 rfl (by decide) (Nat.le_of_ble_eq_true rfl) rfl (fun r8 => ?_)
          refine g_aload_n C dX5_tellField_57 rfl 2 rfl ?_
          refine g_iload_n C dX5_tellField_58 rfl 3 rfl ?_
          refine g_iconst (v := 3) C dX5_tellField_59 rfl (by decide) ?_
          refine g_iadd C dX5_tellField_60 rfl ?_
          refine g_iconst (v := 3) C dX5_tellField_61 rfl (by decide) ?_
          refine g_callP [.int (v1 + 3), .int 3] C dX5_tellField_62 rfl (tX5_number (xl Γ) (xE Γ) (v1 + 3) 3 u) cf_X5_number rfl rfl ml_X5_89 rfl (by decide) (Nat.le_of_ble_eq_true rfl) rfl (fun r9 => ?_)
          refine g_aload_n C dX5_tellField_65 rfl 2 rfl ?_
          refine g_iload_n C dX5_tellField_66 rfl 3 rfl ?_
          refine g_bipush (v := 6) C dX5_tellField_67 rfl (by decide) ?_
          refine g_iadd C dX5_tellField_69 rfl ?_
          refine g_iconst (v := 3) C dX5_tellField_70 rfl (by decide) ?_
          refine g_callP [.int (v1 + 6), .int 3] C dX5_tellField_71 rfl (tX5_number (xl Γ) (xE Γ) (v1 + 6) 3 u) cf_X5_number rfl rfl ml_X5_89 rfl (by decide) (Nat.le_of_ble_eq_true rfl) rfl (fun r10 => ?_)
          refine g_iload C dX5_tellField_74 rfl 0 rfl ?_
          refine g_callV [.int r1, .int r8, .int r9, .int r10, .int r2] C dX5_tellField_76 rfl (tX1_add (xl Γ) (xE Γ) hk2 r1 r8 r9 r10 r2 u) cf_X1_add hk2 rfl ml_X5_108 rfl (by decide) (Nat.le_of_ble_eq_true rfl) rfl (fun u11 => ?_)
          refine g_iconst (v := 1) C dX5_tellField_79 rfl (by decide) ?_
          exact g_zret C M dX5_tellField_80 rfl (by decide) rfl
        · refine g_iconst (v := 0) C dX5_tellField_45 rfl (by decide) ?_
          exact g_zret C M dX5_tellField_46 rfl (by decide) rfl
set_option maxRecDepth 20000 in
set_option maxHeartbeats 4000000 in
theorem tX5_tellField (l : Launch) (E : EE) (v1 : Int32) {k2 : Nat} (hk2 : kd k2 = 4) (u : Mm) : Ct l E yX5_tellField cX5_tellField 5 (some .boolean) 2 [.ref (E.1 51), .int v1, .ref (E.1 k2)] u cvI (gX5_tellField v1 k2 u) :=
  Ct_of (own := RX5) (by decide +kernel) rfl (Nat.le_of_ble_eq_true rfl) (fun p e R s m args below meth c C M => g_sub (ls' := [(0, .ref (E.1 51)), (1, .int v1), (2, .ref (E.1 k2))]) [0, 1, 2] rfl (pX5_tellField_0 C M rfl hk2 v1 u))
set_option maxRecDepth 20000 in
set_option maxHeartbeats 4000000 in
theorem pX10_isPlace_0 {Γ : GX} (C : Cx Γ RX10 cX10_isPlace 0) (M : Mx Γ (some .boolean)) (L : xn Γ = 1) (u : Mm) (v0 : Int32) : Gp Γ (QM Γ (cvP u)) 0 [(0, .int v0)] [] u (gX10_isPlace_b v0) := by
  unfold gX10_isPlace_b
  refine g_iload_n C dX10_isPlace_0 rfl 0 rfl ?_
  refine g_if_lt 14 C dX10_isPlace_1 rfl (by decide) (fun c1 => ?_) (fun c1 => ?_)
  · refine g_iconst (v := 0) C dX10_isPlace_14 rfl (by decide) ?_
    exact g_zret C M dX10_isPlace_15 rfl (by decide) rfl
  · refine g_iload_n C dX10_isPlace_4 rfl 0 rfl ?_
    refine g_bipush (v := 8) C dX10_isPlace_5 rfl (by decide) ?_
    refine g_icmp_ge 14 C dX10_isPlace_7 rfl (by decide) (fun c2 => ?_) (fun c2 => ?_)
    · refine g_iconst (v := 0) C dX10_isPlace_14 rfl (by decide) ?_
      exact g_zret C M dX10_isPlace_15 rfl (by decide) rfl
    · refine g_iconst (v := 1) C dX10_isPlace_10 rfl (by decide) ?_
      refine g_goto 15 C dX10_isPlace_11 rfl (by decide) ?_
      exact g_zret C M dX10_isPlace_15 rfl (by decide) rfl
set_option maxRecDepth 20000 in
set_option maxHeartbeats 4000000 in
theorem tX10_isPlace (l : Launch) (E : EE) (v0 : Int32) (u : Mm) : Ct l E yX10_isPlace cX10_isPlace 1 (some .boolean) 0 [.int v0] u (cvP u) (gX10_isPlace v0) :=
  Ct_of (own := RX10) (by decide +kernel) rfl (Nat.le_of_ble_eq_true rfl) (fun p e R s m args below meth c C M => g_sub (ls' := [(0, .int v0)]) [0] rfl (pX10_isPlace_0 C M rfl u v0))
set_option maxRecDepth 20000 in
set_option maxHeartbeats 4000000 in
theorem pX10_areTwoPlaces_0 {Γ : GX} (C : Cx Γ RX10 cX10_areTwoPlaces 1) (M : Mx Γ (some .boolean)) (L : xn Γ = 2) (u : Mm) (v0 : Int32) (v1 : Int32) : Gp Γ (QM Γ (cvP u)) 0 [(0, .int v0), (1, .int v1)] [] u (gX10_areTwoPlaces_b v0 v1) := by
  unfold gX10_areTwoPlaces_b
  refine g_iload_n C dX10_areTwoPlaces_0 rfl 0 rfl ?_
  refine g_callsP [.int v0] C dX10_areTwoPlaces_1 rfl (tX10_isPlace (xl Γ) (xE Γ) v0 u) cf_X10_isPlace ml_X10_291 rfl (by decide) (Nat.le_of_ble_eq_true rfl) rfl (fun r1 => ?_)
  refine g_if_eq 23 C dX10_areTwoPlaces_4 rfl (by decide) (fun c2 => ?_) (fun c2 => ?_)
  · refine g_iconst (v := 0) C dX10_areTwoPlaces_23 rfl (by decide) ?_
    exact g_zret C M dX10_areTwoPlaces_24 rfl (by decide) rfl
  · refine g_iload_n C dX10_areTwoPlaces_7 rfl 1 rfl ?_
    refine g_callsP [.int v1] C dX10_areTwoPlaces_8 rfl (tX10_isPlace (xl Γ) (xE Γ) v1 u) cf_X10_isPlace ml_X10_291 rfl (by decide) (Nat.le_of_ble_eq_true rfl) rfl (fun r3 => ?_)
    refine g_if_eq 23 C dX10_areTwoPlaces_11 rfl (by decide) (fun c4 => ?_) (fun c4 => ?_)
    · refine g_iconst (v := 0) C dX10_areTwoPlaces_23 rfl (by decide) ?_
      exact g_zret C M dX10_areTwoPlaces_24 rfl (by decide) rfl
    · refine g_iload_n C dX10_areTwoPlaces_14 rfl 0 rfl ?_
      refine g_iload_n C dX10_areTwoPlaces_15 rfl 1 rfl ?_
      refine g_icmp_eq 23 C dX10_areTwoPlaces_16 rfl (by decide) (fun c5 => ?_) (fun c5 => ?_)
      · refine g_iconst (v := 0) C dX10_areTwoPlaces_23 rfl (by decide) ?_
        exact g_zret C M dX10_areTwoPlaces_24 rfl (by decide) rfl
      · refine g_iconst (v := 1) C dX10_areTwoPlaces_19 rfl (by decide) ?_
        refine g_goto 24 C dX10_areTwoPlaces_20 rfl (by decide) ?_
        exact g_zret C M dX10_areTwoPlaces_24 rfl (by decide) rfl
set_option maxRecDepth 20000 in
set_option maxHeartbeats 4000000 in
theorem tX10_areTwoPlaces (l : Launch) (E : EE) (v0 : Int32) (v1 : Int32) (u : Mm) : Ct l E yX10_areTwoPlaces cX10_areTwoPlaces 2 (some .boolean) 1 [.int v0, .int v1] u (cvP u) (gX10_areTwoPlaces v0 v1) :=
  Ct_of (own := RX10) (by decide +kernel) rfl (Nat.le_of_ble_eq_true rfl) (fun p e R s m args below meth c C M => g_sub (ls' := [(0, .int v0), (1, .int v1)]) [0, 1] rfl (pX10_areTwoPlaces_0 C M rfl u v0 v1))
set_option maxRecDepth 20000 in
set_option maxHeartbeats 4000000 in
theorem pX6_lay_0 {Γ : GX} (C : Cx Γ RX6 cX6_lay 1) (M : Mx Γ none) (L : xn Γ = 4) {k0 : Nat} (hk0 : kd k0 = 9) (v1 : Int32) (v2 : Int32) (v3 : Int32) (u : Mm) : Gp Γ (QM Γ cvV) 0 [(0, .ref ((xE Γ).1 k0)), (1, .int v1), (2, .int v2), (3, .int v3)] [] u (gX6_lay_b k0 v1 v2 v3 u) := by
  unfold gX6_lay_b
  refine g_iload_n C dX6_lay_0 rfl 1 rfl ?_
  refine g_callnP [.int v1] C dX6_lay_1 rfl (tX10_isPlace (xl Γ) (xE Γ) v1 u) cf_X10_isPlace (List.mem_of_getElem? (i := 4) rfl) rfl (by decide) (Nat.le_of_ble_eq_true rfl) rfl (fun r1 => ?_)
  refine g_if_eq 38 C dX6_lay_4 rfl (by decide) (fun c2 => ?_) (fun c2 => ?_)
  · exact g_vret C M dX6_lay_38 rfl rfl
  · refine g_iload_n C dX6_lay_7 rfl 2 rfl ?_
    refine g_callnP [.int v2] C dX6_lay_8 rfl (tX10_isPlace (xl Γ) (xE Γ) v2 u) cf_X10_isPlace (List.mem_of_getElem? (i := 4) rfl) rfl (by decide) (Nat.le_of_ble_eq_true rfl) rfl (fun r3 => ?_)
    refine g_if_eq 38 C dX6_lay_11 rfl (by decide) (fun c4 => ?_) (fun c4 => ?_)
    · exact g_vret C M dX6_lay_38 rfl rfl
    · refine g_aload_n C dX6_lay_14 rfl 0 rfl ?_
      refine g_getR (k2 := (k0 + 1)) C dX6_lay_15 rfl hk0 fi_6_1 ⟨by decide, by decide, rfl⟩ fl_X6_9 ?_
      refine g_iload_n C dX6_lay_18 rfl 1 rfl ?_
      refine g_bipush (v := 8) C dX6_lay_19 rfl (by decide) ?_
      refine g_imul C dX6_lay_21 rfl ?_
      refine g_iload_n C dX6_lay_22 rfl 2 rfl ?_
      refine g_iadd C dX6_lay_23 rfl ?_
      refine g_iload_n C dX6_lay_24 rfl 3 rfl ?_
      refine g_gd (fun hi6 => ?_)
      refine g_iast C dX6_lay_25 rfl (kr_6_1 hk0) (sr_6_1 hk0) hi6 ?_
      refine g_letm (fun u5 => ?_)
      refine g_aload_n C dX6_lay_26 rfl 0 rfl ?_
      refine g_getR (k2 := (k0 + 1)) C dX6_lay_27 rfl hk0 fi_6_1 ⟨by decide, by decide, rfl⟩ fl_X6_9 ?_
      refine g_iload_n C dX6_lay_30 rfl 2 rfl ?_
      refine g_bipush (v := 8) C dX6_lay_31 rfl (by decide) ?_
      refine g_imul C dX6_lay_33 rfl ?_
      refine g_iload_n C dX6_lay_34 rfl 1 rfl ?_
      refine g_iadd C dX6_lay_35 rfl ?_
      refine g_iload_n C dX6_lay_36 rfl 3 rfl ?_
      refine g_gd (fun hi8 => ?_)
      refine g_iast C dX6_lay_37 rfl (kr_6_1 hk0) (sr_6_1 hk0) hi8 ?_
      refine g_letm (fun u7 => ?_)
      exact g_vret C M dX6_lay_38 rfl rfl
set_option maxRecDepth 20000 in
set_option maxHeartbeats 4000000 in
theorem tX6_lay (l : Launch) (E : EE) {k0 : Nat} (hk0 : kd k0 = 9) (v1 : Int32) (v2 : Int32) (v3 : Int32) (u : Mm) : Ct l E yX6_lay cX6_lay 4 none 1 [.ref (E.1 k0), .int v1, .int v2, .int v3] u cvV (gX6_lay k0 v1 v2 v3 u) :=
  Ct_of (own := RX6) (by decide +kernel) rfl (Nat.le_of_ble_eq_true rfl) (fun p e R s m args below meth c C M => g_sub (ls' := [(0, .ref (E.1 k0)), (1, .int v1), (2, .int v2), (3, .int v3)]) [0, 1, 2, 3] rfl (pX6_lay_0 C M rfl hk0 v1 v2 v3 u))
set_option maxRecDepth 20000 in
set_option maxHeartbeats 4000000 in
theorem pX5_tellRoad_0 {Γ : GX} (C : Cx Γ RX5 cX5_tellRoad 2) (M : Mx Γ (some .boolean)) (L : xn Γ = 5) {k2 : Nat} (hk2 : kd k2 = 9) (v1 : Int32) (u : Mm) : Gp Γ (QM Γ cvI) 0 [(0, .ref ((xE Γ).1 51)), (1, .int v1), (2, .ref ((xE Γ).1 k2))] [] u (gX5_tellRoad_b k2 v1 u) := by
  unfold gX5_tellRoad_b
  refine g_aload_n C dX5_tellRoad_0 rfl 0 rfl ?_
  refine g_iload_n C dX5_tellRoad_1 rfl 1 rfl ?_
  refine g_iconst (v := 1) C dX5_tellRoad_2 rfl (by decide) ?_
  refine g_iadd C dX5_tellRoad_3 rfl ?_
  refine g_iconst (v := 1) C dX5_tellRoad_4 rfl (by decide) ?_
  refine g_callP [.int (v1 + 1), .int 1] C dX5_tellRoad_5 rfl (tX5_number (xl Γ) (xE Γ) (v1 + 1) 1 u) cf_X5_number rfl rfl ml_X5_89 rfl (by decide) (Nat.le_of_ble_eq_true rfl) rfl (fun r1 => ?_)
  refine g_istore_n (ls' := [(3, .int r1), (0, .ref ((xE Γ).1 51)), (1, .int v1), (2, .ref ((xE Γ).1 k2))]) C dX5_tellRoad_8 rfl L (by decide) rfl ?_
  refine g_aload_n C dX5_tellRoad_9 rfl 1 rfl ?_
  refine g_iload_n C dX5_tellRoad_10 rfl 2 rfl ?_
  refine g_iconst (v := 2) C dX5_tellRoad_11 rfl (by decide) ?_
  refine g_iadd C dX5_tellRoad_12 rfl ?_
  refine g_iconst (v := 1) C dX5_tellRoad_13 rfl (by decide) ?_
  refine g_callP [.int (v1 + 2), .int 1] C dX5_tellRoad_14 rfl (tX5_number (xl Γ) (xE Γ) (v1 + 2) 1 u) cf_X5_number rfl rfl ml_X5_89 rfl (by decide) (Nat.le_of_ble_eq_true rfl) rfl (fun r2 => ?_)
  refine g_istore (ls' := [(4, .int r2), (3, .int r1), (0, .ref ((xE Γ).1 51)), (1, .int v1), (2, .ref ((xE Γ).1 k2))]) C dX5_tellRoad_17 rfl L (by decide) rfl ?_
  refine g_iload_n C dX5_tellRoad_19 rfl 1 rfl ?_
  refine g_iload C dX5_tellRoad_20 rfl 0 rfl ?_
  refine g_callnP [.int r1, .int r2] C dX5_tellRoad_22 rfl (tX10_areTwoPlaces (xl Γ) (xE Γ) r1 r2 u) cf_X10_areTwoPlaces (List.mem_of_getElem? (i := 3) rfl) rfl (by decide) (Nat.le_of_ble_eq_true rfl) rfl (fun r3 => ?_)
  refine g_if_ne 30 C dX5_tellRoad_25 rfl (by decide) (fun c4 => ?_) (fun c4 => ?_)
  · refine g_aload_n C dX5_tellRoad_30 rfl 4 rfl ?_
    refine g_iload_n C dX5_tellRoad_31 rfl 1 rfl ?_
    refine g_iload C dX5_tellRoad_32 rfl 0 rfl ?_
    refine g_aload_n C dX5_tellRoad_34 rfl 2 rfl ?_
    refine g_iload_n C dX5_tellRoad_35 rfl 3 rfl ?_
    refine g_iconst (v := 3) C dX5_tellRoad_36 rfl (by decide) ?_
    refine g_iadd C dX5_tellRoad_37 rfl ?_
    refine g_iconst (v := 2) C dX5_tellRoad_38 rfl (by decide) ?_
    refine g_callP [.int (v1 + 3), .int 2] C dX5_tellRoad_39 rfl (tX5_number (xl Γ) (xE Γ) (v1 + 3) 2 u) cf_X5_number rfl rfl ml_X5_89 rfl (by decide) (Nat.le_of_ble_eq_true rfl) rfl (fun r5 => ?_)
    refine g_callV [.int r1, .int r2, .int r5] C dX5_tellRoad_42 rfl (tX6_lay (xl Γ) (xE Γ) hk2 r1 r2 r5 u) cf_X6_lay hk2 rfl ml_X5_116 rfl (by decide) (Nat.le_of_ble_eq_true rfl) rfl (fun u6 => ?_)
    refine g_iconst (v := 1) C dX5_tellRoad_45 rfl (by decide) ?_
    exact g_zret C M dX5_tellRoad_46 rfl (by decide) rfl
  · refine g_iconst (v := 0) C dX5_tellRoad_28 rfl (by decide) ?_
    exact g_zret C M dX5_tellRoad_29 rfl (by decide) rfl
set_option maxRecDepth 20000 in
set_option maxHeartbeats 4000000 in
theorem tX5_tellRoad (l : Launch) (E : EE) (v1 : Int32) {k2 : Nat} (hk2 : kd k2 = 9) (u : Mm) : Ct l E yX5_tellRoad cX5_tellRoad 5 (some .boolean) 2 [.ref (E.1 51), .int v1, .ref (E.1 k2)] u cvI (gX5_tellRoad v1 k2 u) :=
  Ct_of (own := RX5) (by decide +kernel) rfl (Nat.le_of_ble_eq_true rfl) (fun p e R s m args below meth c C M => g_sub (ls' := [(0, .ref (E.1 51)), (1, .int v1), (2, .ref (E.1 k2))]) [0, 1, 2] rfl (pX5_tellRoad_0 C M rfl hk2 v1 u))
set_option maxRecDepth 20000 in
set_option maxHeartbeats 4000000 in
theorem pX5_tellBalloon_0 {Γ : GX} (C : Cx Γ RX5 cX5_tellBalloon 2) (M : Mx Γ (some .boolean)) (L : xn Γ = 6) {k2 : Nat} (hk2 : kd k2 = 5) (v1 : Int32) (u : Mm) : Gp Γ (QM Γ cvI) 0 [(0, .ref ((xE Γ).1 51)), (1, .int v1), (2, .ref ((xE Γ).1 k2))] [] u (gX5_tellBalloon_b k2 v1 u) := by
  unfold gX5_tellBalloon_b
  refine g_aload_n C dX5_tellBalloon_0 rfl 0 rfl ?_
  refine g_iload_n C dX5_tellBalloon_1 rfl 1 rfl ?_
  refine g_iconst (v := 1) C dX5_tellBalloon_2 rfl (by decide) ?_
  refine g_iadd C dX5_tellBalloon_3 rfl ?_
  refine g_iconst (v := 2) C dX5_tellBalloon_4 rfl (by decide) ?_
  refine g_callP [.int (v1 + 1), .int 2] C dX5_tellBalloon_5 rfl (tX5_number (xl Γ) (xE Γ) (v1 + 1) 2 u) cf_X5_number rfl rfl ml_X5_89 rfl (by decide) (Nat.le_of_ble_eq_true rfl) rfl (fun r1 => ?_)
  refine g_istore_n (ls' := [(3, .int r1), (0, .ref ((xE Γ).1 51)), (1, .int v1), (2, .ref ((xE Γ).1 k2))]) C dX5_tellBalloon_8 rfl L (by decide) rfl ?_
  refine g_aload_n C dX5_tellBalloon_9 rfl 1 rfl ?_
  refine g_iload_n C dX5_tellBalloon_10 rfl 2 rfl ?_
  refine g_iconst (v := 3) C dX5_tellBalloon_11 rfl (by decide) ?_
  refine g_iadd C dX5_tellBalloon_12 rfl ?_
  refine g_iconst (v := 2) C dX5_tellBalloon_13 rfl (by decide) ?_
  refine g_callP [.int (v1 + 3), .int 2] C dX5_tellBalloon_14 rfl (tX5_number (xl Γ) (xE Γ) (v1 + 3) 2 u) cf_X5_number rfl rfl ml_X5_89 rfl (by decide) (Nat.le_of_ble_eq_true rfl) rfl (fun r2 => ?_)
  refine g_istore (ls' := [(4, .int r2), (3, .int r1), (0, .ref ((xE Γ).1 51)), (1, .int v1), (2, .ref ((xE Γ).1 k2))]) C dX5_tellBalloon_17 rfl L (by decide) rfl ?_
  refine g_aload_n C dX5_tellBalloon_19 rfl 2 rfl ?_
  refine g_iload_n C dX5_tellBalloon_20 rfl 3 rfl ?_
  refine g_iconst (v := 5) C dX5_tellBalloon_21 rfl (by decide) ?_
  refine g_iadd C dX5_tellBalloon_22 rfl ?_
  refine g_iconst (v := 1) C dX5_tellBalloon_23 rfl (by decide) ?_
  refine g_callP [.int (v1 + 5), .int 1] C dX5_tellBalloon_24 rfl (tX5_number (xl Γ) (xE Γ) (v1 + 5) 1 u) cf_X5_number rfl rfl ml_X5_89 rfl (by decide) (Nat.le_of_ble_eq_true rfl) rfl (fun r3 => ?_)
  refine g_istore (ls' := [(5, .int r3), (4, .int r2), (3, .int r1), (0, .ref ((xE Γ).1 51)), (1, .int v1), (2, .ref ((xE Γ).1 k2))]) C dX5_tellBalloon_27 rfl L (by decide) rfl ?_
  refine g_iload_n C dX5_tellBalloon_29 rfl 2 rfl ?_
  refine g_bipush (v := 60) C dX5_tellBalloon_30 rfl (by decide) ?_
  refine g_icmp_gt 55 C dX5_tellBalloon_32 rfl (by decide) (fun c4 => ?_) (fun c4 => ?_)
  · refine g_iconst (v := 0) C dX5_tellBalloon_55 rfl (by decide) ?_
    exact g_zret C M dX5_tellBalloon_56 rfl (by decide) rfl
  · refine g_iload C dX5_tellBalloon_35 rfl 1 rfl ?_
    refine g_bipush (v := 60) C dX5_tellBalloon_37 rfl (by decide) ?_
    refine g_icmp_gt 55 C dX5_tellBalloon_39 rfl (by decide) (fun c5 => ?_) (fun c5 => ?_)
    · refine g_iconst (v := 0) C dX5_tellBalloon_55 rfl (by decide) ?_
      exact g_zret C M dX5_tellBalloon_56 rfl (by decide) rfl
    · refine g_iload C dX5_tellBalloon_42 rfl 0 rfl ?_
      refine g_iconst (v := 1) C dX5_tellBalloon_44 rfl (by decide) ?_
      refine g_icmp_lt 55 C dX5_tellBalloon_45 rfl (by decide) (fun c6 => ?_) (fun c6 => ?_)
      · refine g_iconst (v := 0) C dX5_tellBalloon_55 rfl (by decide) ?_
        exact g_zret C M dX5_tellBalloon_56 rfl (by decide) rfl
      · refine g_iload C dX5_tellBalloon_48 rfl 0 rfl ?_
        refine g_bipush (v := 6) C dX5_tellBalloon_50 rfl (by decide) ?_
        refine g_icmp_le 57 C dX5_tellBalloon_52 rfl (by decide) (fun c7 => ?_) (fun c7 => ?_)
        · refine g_aload_n C dX5_tellBalloon_57 rfl 5 rfl ?_
          refine g_iload_n C dX5_tellBalloon_58 rfl 2 rfl ?_
          refine g_putI C dX5_tellBalloon_59 rfl hk2 fp_2_3 rfl fl_X5_121 ?_
          refine g_letm (fun u8 => ?_)
          refine g_aload_n C dX5_tellBalloon_62 rfl 5 rfl ?_
          refine g_iload C dX5_tellBalloon_63 rfl 1 rfl ?_
          refine g_putI C dX5_tellBalloon_65 rfl hk2 fp_2_4 rfl fl_X5_126 ?_
          refine g_letm (fun u9 => ?_)
          refine g_aload_n C dX5_tellBalloon_68 rfl 5 rfl ?_
          refine g_iload C dX5_tellBalloon_69 rfl 0 rfl ?_
          refine g_putI C dX5_tellBalloon_71 rfl hk2 fp_2_5 rfl fl_X5_129 ?_
          refine g_letm (fun u10 => ?_)
          refine g_iconst (v := 1) C dX5_tellBalloon_74 rfl (by decide) ?_
          exact g_zret C M dX5_tellBalloon_75 rfl (by decide) rfl
        · refine g_iconst (v := 0) C dX5_tellBalloon_55 rfl (by decide) ?_
          exact g_zret C M dX5_tellBalloon_56 rfl (by decide) rfl
set_option maxRecDepth 20000 in
set_option maxHeartbeats 4000000 in
theorem tX5_tellBalloon (l : Launch) (E : EE) (v1 : Int32) {k2 : Nat} (hk2 : kd k2 = 5) (u : Mm) : Ct l E yX5_tellBalloon cX5_tellBalloon 6 (some .boolean) 2 [.ref (E.1 51), .int v1, .ref (E.1 k2)] u cvI (gX5_tellBalloon v1 k2 u) :=
  Ct_of (own := RX5) (by decide +kernel) rfl (Nat.le_of_ble_eq_true rfl) (fun p e R s m args below meth c C M => g_sub (ls' := [(0, .ref (E.1 51)), (1, .int v1), (2, .ref (E.1 k2))]) [0, 1, 2] rfl (pX5_tellBalloon_0 C M rfl hk2 v1 u))
set_option maxRecDepth 20000 in
set_option maxHeartbeats 4000000 in
theorem pX5_tellHeight_0 {Γ : GX} (C : Cx Γ RX5 cX5_tellHeight 2) (M : Mx Γ (some .boolean)) (L : xn Γ = 4) {k2 : Nat} (hk2 : kd k2 = 5) (v1 : Int32) (u : Mm) : Gp Γ (QM Γ cvI) 0 [(0, .ref ((xE Γ).1 51)), (1, .int v1), (2, .ref ((xE Γ).1 k2))] [] u (gX5_tellHeight_b k2 v1 u) := by
  unfold gX5_tellHeight_b
  refine g_aload_n C dX5_tellHeight_0 rfl 0 rfl ?_
  refine g_iload_n C dX5_tellHeight_1 rfl 1 rfl ?_
  refine g_iconst (v := 1) C dX5_tellHeight_2 rfl (by decide) ?_
  refine g_iadd C dX5_tellHeight_3 rfl ?_
  refine g_iconst (v := 2) C dX5_tellHeight_4 rfl (by decide) ?_
  refine g_callP [.int (v1 + 1), .int 2] C dX5_tellHeight_5 rfl (tX5_number (xl Γ) (xE Γ) (v1 + 1) 2 u) cf_X5_number rfl rfl ml_X5_89 rfl (by decide) (Nat.le_of_ble_eq_true rfl) rfl (fun r1 => ?_)
  refine g_istore_n (ls' := [(3, .int r1), (0, .ref ((xE Γ).1 51)), (1, .int v1), (2, .ref ((xE Γ).1 k2))]) C dX5_tellHeight_8 rfl L (by decide) rfl ?_
  refine g_iload_n C dX5_tellHeight_9 rfl 0 rfl ?_
  refine g_bipush (v := 39) C dX5_tellHeight_10 rfl (by decide) ?_
  refine g_icmp_le 17 C dX5_tellHeight_12 rfl (by decide) (fun c2 => ?_) (fun c2 => ?_)
  · refine g_aload_n C dX5_tellHeight_17 rfl 3 rfl ?_
    refine g_iload_n C dX5_tellHeight_18 rfl 0 rfl ?_
    refine g_putI C dX5_tellHeight_19 rfl hk2 fp_2_0 rfl fl_X5_132 ?_
    refine g_letm (fun u3 => ?_)
    refine g_iconst (v := 1) C dX5_tellHeight_22 rfl (by decide) ?_
    exact g_zret C M dX5_tellHeight_23 rfl (by decide) rfl
  · refine g_iconst (v := 0) C dX5_tellHeight_15 rfl (by decide) ?_
    exact g_zret C M dX5_tellHeight_16 rfl (by decide) rfl
set_option maxRecDepth 20000 in
set_option maxHeartbeats 4000000 in
theorem tX5_tellHeight (l : Launch) (E : EE) (v1 : Int32) {k2 : Nat} (hk2 : kd k2 = 5) (u : Mm) : Ct l E yX5_tellHeight cX5_tellHeight 4 (some .boolean) 2 [.ref (E.1 51), .int v1, .ref (E.1 k2)] u cvI (gX5_tellHeight v1 k2 u) :=
  Ct_of (own := RX5) (by decide +kernel) rfl (Nat.le_of_ble_eq_true rfl) (fun p e R s m args below meth c C M => g_sub (ls' := [(0, .ref (E.1 51)), (1, .int v1), (2, .ref (E.1 k2))]) [0, 1, 2] rfl (pX5_tellHeight_0 C M rfl hk2 v1 u))
set_option maxRecDepth 20000 in
set_option maxHeartbeats 4000000 in
theorem pX5_tellLag_0 {Γ : GX} (C : Cx Γ RX5 cX5_tellLag 2) (M : Mx Γ (some .boolean)) (L : xn Γ = 4) {k2 : Nat} (hk2 : kd k2 = 5) (v1 : Int32) (u : Mm) : Gp Γ (QM Γ cvI) 0 [(0, .ref ((xE Γ).1 51)), (1, .int v1), (2, .ref ((xE Γ).1 k2))] [] u (gX5_tellLag_b k2 v1 u) := by
  unfold gX5_tellLag_b
  refine g_aload_n C dX5_tellLag_0 rfl 0 rfl ?_
  refine g_iload_n C dX5_tellLag_1 rfl 1 rfl ?_
  refine g_iconst (v := 1) C dX5_tellLag_2 rfl (by decide) ?_
  refine g_iadd C dX5_tellLag_3 rfl ?_
  refine g_iconst (v := 1) C dX5_tellLag_4 rfl (by decide) ?_
  refine g_callP [.int (v1 + 1), .int 1] C dX5_tellLag_5 rfl (tX5_number (xl Γ) (xE Γ) (v1 + 1) 1 u) cf_X5_number rfl rfl ml_X5_89 rfl (by decide) (Nat.le_of_ble_eq_true rfl) rfl (fun r1 => ?_)
  refine g_istore_n (ls' := [(3, .int r1), (0, .ref ((xE Γ).1 51)), (1, .int v1), (2, .ref ((xE Γ).1 k2))]) C dX5_tellLag_8 rfl L (by decide) rfl ?_
  refine g_iload_n C dX5_tellLag_9 rfl 0 rfl ?_
  refine g_iconst (v := 5) C dX5_tellLag_10 rfl (by decide) ?_
  refine g_icmp_le 16 C dX5_tellLag_11 rfl (by decide) (fun c2 => ?_) (fun c2 => ?_)
  · refine g_aload_n C dX5_tellLag_16 rfl 3 rfl ?_
    refine g_iload_n C dX5_tellLag_17 rfl 0 rfl ?_
    refine g_putI C dX5_tellLag_18 rfl hk2 fp_2_6 rfl fl_X5_135 ?_
    refine g_letm (fun u3 => ?_)
    refine g_aload_n C dX5_tellLag_21 rfl 3 rfl ?_
    refine g_callV [] C dX5_tellLag_22 rfl (tX2_loseWork (xl Γ) (xE Γ) hk2 u3) cf_X2_loseWork hk2 rfl ml_X5_138 rfl (by decide) (Nat.le_of_ble_eq_true rfl) rfl (fun u4 => ?_)
    refine g_iconst (v := 1) C dX5_tellLag_25 rfl (by decide) ?_
    exact g_zret C M dX5_tellLag_26 rfl (by decide) rfl
  · refine g_iconst (v := 0) C dX5_tellLag_14 rfl (by decide) ?_
    exact g_zret C M dX5_tellLag_15 rfl (by decide) rfl
set_option maxRecDepth 20000 in
set_option maxHeartbeats 4000000 in
theorem tX5_tellLag (l : Launch) (E : EE) (v1 : Int32) {k2 : Nat} (hk2 : kd k2 = 5) (u : Mm) : Ct l E yX5_tellLag cX5_tellLag 4 (some .boolean) 2 [.ref (E.1 51), .int v1, .ref (E.1 k2)] u cvI (gX5_tellLag v1 k2 u) :=
  Ct_of (own := RX5) (by decide +kernel) rfl (Nat.le_of_ble_eq_true rfl) (fun p e R s m args below meth c C M => g_sub (ls' := [(0, .ref (E.1 51)), (1, .int v1), (2, .ref (E.1 k2))]) [0, 1, 2] rfl (pX5_tellLag_0 C M rfl hk2 v1 u))
set_option maxRecDepth 20000 in
set_option maxHeartbeats 4000000 in
theorem pX5_tellActs_11s {Γ : GX} (C : Cx Γ RX5 cX5_tellActs 3) (M : Mx Γ (some .boolean)) (L : xn Γ = 7) {k3 : Nat} (hk3 : kd k3 = 12) (v2 : Int32) {j11 : Int32 → Mm → Option (Int32 × Mm)} (hj11 : ∀ (v5 : Int32) (u : Mm), Gp Γ (QM Γ cvI) 11 [(0, .ref ((xE Γ).1 51)), (2, .int v2), (3, .ref ((xE Γ).1 k3)), (4, .ref ((xE Γ).1 (k3 + 12))), (5, .int v5)] [] u (j11 v5 u)) (v5 : Int32) (u : Mm) : Gp Γ (QM Γ cvI) 11 [(0, .ref ((xE Γ).1 51)), (2, .int v2), (3, .ref ((xE Γ).1 k3)), (4, .ref ((xE Γ).1 (k3 + 12))), (5, .int v5)] [] u (gX5_tellActs_11_Ls k3 v2 j11 v5 u) := by
  unfold gX5_tellActs_11_Ls
  refine g_iload C dX5_tellActs_11 rfl 4 rfl ?_
  refine g_iload_n C dX5_tellActs_13 rfl 1 rfl ?_
  refine g_icmp_ge 74 C dX5_tellActs_14 rfl (by decide) (fun c1 => ?_) (fun c1 => ?_)
  · refine g_iconst (v := 1) C dX5_tellActs_74 rfl (by decide) ?_
    exact g_zret C M dX5_tellActs_75 rfl (by decide) rfl
  · refine g_aload_n C dX5_tellActs_17 rfl 0 rfl ?_
    refine g_iload C dX5_tellActs_18 rfl 4 rfl ?_
    refine g_iconst (v := 1) C dX5_tellActs_20 rfl (by decide) ?_
    refine g_callP [.int v5, .int 1] C dX5_tellActs_21 rfl (tX5_number (xl Γ) (xE Γ) v5 1 u) cf_X5_number rfl rfl ml_X5_89 rfl (by decide) (Nat.le_of_ble_eq_true rfl) rfl (fun r2 => ?_)
    refine g_istore (ls' := [(6, .int r2), (0, .ref ((xE Γ).1 51)), (2, .int v2), (3, .ref ((xE Γ).1 k3)), (4, .ref ((xE Γ).1 (k3 + 12))), (5, .int v5)]) C dX5_tellActs_24 rfl L (by decide) rfl ?_
    refine g_iload C dX5_tellActs_26 rfl 0 rfl ?_
    refine g_iconst (v := 2) C dX5_tellActs_28 rfl (by decide) ?_
    refine g_icmp_gt 55 C dX5_tellActs_29 rfl (by decide) (fun c3 => ?_) (fun c3 => ?_)
    · refine g_iconst (v := 0) C dX5_tellActs_55 rfl (by decide) ?_
      exact g_zret C M dX5_tellActs_56 rfl (by decide) rfl
    · refine g_aload C dX5_tellActs_32 rfl 4 rfl ?_
      refine g_iload C dX5_tellActs_34 rfl 0 rfl ?_
      refine g_callP [.int r2] C dX5_tellActs_36 rfl (tX2_able (xl Γ) (xE Γ) (kr_9_3 hk3) r2 u) cf_X2_able (kr_9_3 hk3) rfl ml_X5_141 rfl (by decide) (Nat.le_of_ble_eq_true rfl) rfl (fun r4 => ?_)
      refine g_iload C dX5_tellActs_39 rfl 0 rfl ?_
      refine g_icmp_ne 55 C dX5_tellActs_41 rfl (by decide) (fun c5 => ?_) (fun c5 => ?_)
      · refine g_iconst (v := 0) C dX5_tellActs_55 rfl (by decide) ?_
        exact g_zret C M dX5_tellActs_56 rfl (by decide) rfl
      · refine g_aload C dX5_tellActs_44 rfl 4 rfl ?_
        refine g_getI C dX5_tellActs_46 rfl (kr_9_3 hk3) fi_2_7 rfl fl_X5_144 ?_
        refine g_sipush (v := 999) C dX5_tellActs_49 rfl (by decide) ?_
        refine g_icmp_lt 57 C dX5_tellActs_52 rfl (by decide) (fun c6 => ?_) (fun c6 => ?_)
        · refine g_aload C dX5_tellActs_57 rfl 4 rfl ?_
          refine g_iload C dX5_tellActs_59 rfl 0 rfl ?_
          refine g_aload_n C dX5_tellActs_61 rfl 3 rfl ?_
          refine g_getR (k2 := (k3 + 1)) C dX5_tellActs_62 rfl hk3 fi_9_0 ⟨by decide, by decide, rfl⟩ fl_X5_46 ?_
          refine g_callV [.int r2, .ref ((xE Γ).1 (k3 + 1))] C dX5_tellActs_65 rfl (tX2_fly (xl Γ) (xE Γ) (kr_9_3 hk3) r2 (kr_9_0 hk3) u) cf_X2_fly (kr_9_3 hk3) rfl ml_X5_147 rfl (by decide) (Nat.le_of_ble_eq_true rfl) rfl (fun u7 => ?_)
          refine g_iincL (fun v5_8 => [(5, .int v5_8), (6, .int r2), (0, .ref ((xE Γ).1 51)), (2, .int v2), (3, .ref ((xE Γ).1 k3)), (4, .ref ((xE Γ).1 (k3 + 12)))]) C dX5_tellActs_68 rfl L (by decide) (k := 5) rfl (iinc_1 _) (fun _ => rfl) (fun v5_8 => ?_)
          refine g_goto 11 C dX5_tellActs_71 rfl (by decide) ?_
          refine g_sub (ls' := [(0, .ref ((xE Γ).1 51)), (2, .int v2), (3, .ref ((xE Γ).1 k3)), (4, .ref ((xE Γ).1 (k3 + 12))), (5, .int v5_8)]) [2, 3, 4, 5, 0] rfl ?_
          exact hj11 v5_8 u7
        · refine g_iconst (v := 0) C dX5_tellActs_55 rfl (by decide) ?_
          exact g_zret C M dX5_tellActs_56 rfl (by decide) rfl
set_option maxRecDepth 20000 in
set_option maxHeartbeats 4000000 in
theorem pX5_tellActs_11 {Γ : GX} (C : Cx Γ RX5 cX5_tellActs 3) (M : Mx Γ (some .boolean)) (L : xn Γ = 7) {k3 : Nat} (hk3 : kd k3 = 12) (v2 : Int32) : ∀ (n : Nat) (v5 : Int32) (u : Mm), Gp Γ (QM Γ cvI) 11 [(0, .ref ((xE Γ).1 51)), (2, .int v2), (3, .ref ((xE Γ).1 k3)), (4, .ref ((xE Γ).1 (k3 + 12))), (5, .int v5)] [] u (gX5_tellActs_11_L k3 v2 n v5 u) := by
  intro n
  induction n with
  | zero => intro _ _; exact g_none
  | succ n ih => intro v5 u; exact pX5_tellActs_11s C M L hk3 v2 ih v5 u

set_option maxRecDepth 20000 in
set_option maxHeartbeats 4000000 in
theorem pX5_tellActs_0 {Γ : GX} (C : Cx Γ RX5 cX5_tellActs 3) (M : Mx Γ (some .boolean)) (L : xn Γ = 7) {k3 : Nat} (hk3 : kd k3 = 12) (v1 : Int32) (v2 : Int32) (u : Mm) : Gp Γ (QM Γ cvI) 0 [(0, .ref ((xE Γ).1 51)), (1, .int v1), (2, .int v2), (3, .ref ((xE Γ).1 k3))] [] u (gX5_tellActs_b k3 v1 v2 u) := by
  unfold gX5_tellActs_b
  refine g_aload_n C dX5_tellActs_0 rfl 3 rfl ?_
  refine g_getR (k2 := (k3 + 12)) C dX5_tellActs_1 rfl hk3 fi_9_3 ⟨by decide, by decide, rfl⟩ fl_X5_72 ?_
  refine g_astore (ls' := [(4, .ref ((xE Γ).1 (k3 + 12))), (0, .ref ((xE Γ).1 51)), (1, .int v1), (2, .int v2), (3, .ref ((xE Γ).1 k3))]) C dX5_tellActs_4 rfl L (by decide) rfl ?_
  refine g_iload_n C dX5_tellActs_6 rfl 2 rfl ?_
  refine g_iconst (v := 1) C dX5_tellActs_7 rfl (by decide) ?_
  refine g_iadd C dX5_tellActs_8 rfl ?_
  refine g_lets (fun v5_1 => ?_)
  refine g_istore (ls' := [(5, .int v5_1), (4, .ref ((xE Γ).1 (k3 + 12))), (0, .ref ((xE Γ).1 51)), (1, .int v1), (2, .int v2), (3, .ref ((xE Γ).1 k3))]) C dX5_tellActs_9 rfl L (by decide) rfl ?_
  refine g_sub (ls' := [(0, .ref ((xE Γ).1 51)), (2, .int v2), (3, .ref ((xE Γ).1 k3)), (4, .ref ((xE Γ).1 (k3 + 12))), (5, .int v5_1)]) [2, 4, 5, 1, 0] rfl ?_
  exact pX5_tellActs_11 C M L hk3 v2 FU v5_1 u
set_option maxRecDepth 20000 in
set_option maxHeartbeats 4000000 in
theorem tX5_tellActs (l : Launch) (E : EE) (v1 : Int32) (v2 : Int32) {k3 : Nat} (hk3 : kd k3 = 12) (u : Mm) : Ct l E yX5_tellActs cX5_tellActs 7 (some .boolean) 3 [.ref (E.1 51), .int v1, .int v2, .ref (E.1 k3)] u cvI (gX5_tellActs v1 v2 k3 u) :=
  Ct_of (own := RX5) (by decide +kernel) rfl (Nat.le_of_ble_eq_true rfl) (fun p e R s m args below meth c C M => g_sub (ls' := [(0, .ref (E.1 51)), (1, .int v1), (2, .int v2), (3, .ref (E.1 k3))]) [0, 1, 2, 3] rfl (pX5_tellActs_0 C M rfl hk3 v1 v2 u))
set_option maxRecDepth 20000 in
set_option maxHeartbeats 4000000 in
theorem pX5_tellStatement_0 {Γ : GX} (C : Cx Γ RX5 cX5_tellStatement 4) (M : Mx Γ (some .boolean)) (L : xn Γ = 4) {k3 : Nat} (hk3 : kd k3 = 12) (v1 : Int32) (v2 : Int32) (u : Mm) : Gp Γ (QM Γ cvI) 0 [(0, .ref ((xE Γ).1 51)), (1, .int v1), (2, .int v2), (3, .ref ((xE Γ).1 k3))] [] u (gX5_tellStatement_b k3 v1 v2 u) := by
  unfold gX5_tellStatement_b
  refine g_aload_n C dX5_tellStatement_0 rfl 0 rfl ?_
  refine g_getR (k2 := 52) C dX5_tellStatement_1 rfl rfl fi_5_0 ⟨by decide, by decide, rfl⟩ fl_X5_14 ?_
  refine g_iload_n C dX5_tellStatement_4 rfl 1 rfl ?_
  refine g_callP [.int v1] C dX5_tellStatement_5 rfl (tX7_at (xl Γ) (xE Γ) rfl v1 u) cf_X7_at rfl rfl ml_X5_20 rfl (by decide) (Nat.le_of_ble_eq_true rfl) rfl (fun r1 => ?_)
  refine g_if (fun c2 => ?_) (fun c2 => ?_)
  · refine g_look 90 98 C dX5_tellStatement_8 rfl (by decide) (by rw [c2]; rfl) (by decide) ?_
    refine g_aload_n C dX5_tellStatement_98 rfl 0 rfl ?_
    refine g_iload_n C dX5_tellStatement_99 rfl 1 rfl ?_
    refine g_aload_n C dX5_tellStatement_100 rfl 3 rfl ?_
    refine g_getR (k2 := (k3 + 12)) C dX5_tellStatement_101 rfl hk3 fi_9_3 ⟨by decide, by decide, rfl⟩ fl_X5_72 ?_
    refine g_callI [.int v1, .ref ((xE Γ).1 (k3 + 12))] C dX5_tellStatement_104 rfl (tX5_tellBalloon (xl Γ) (xE Γ) v1 (kr_9_3 hk3) u) cf_X5_tellBalloon rfl rfl ml_X5_76 rfl (by decide) (Nat.le_of_ble_eq_true rfl) rfl (fun r4 u3 => ?_)
    refine g_gd (fun hb5 => ?_)
    exact g_zret C M dX5_tellStatement_107 rfl hb5 rfl
  refine g_if (fun c6 => ?_) (fun c6 => ?_)
  · refine g_look 70 78 C dX5_tellStatement_8 rfl (by decide) (by rw [c6]; rfl) (by decide) ?_
    refine g_aload_n C dX5_tellStatement_78 rfl 0 rfl ?_
    refine g_iload_n C dX5_tellStatement_79 rfl 1 rfl ?_
    refine g_aload_n C dX5_tellStatement_80 rfl 3 rfl ?_
    refine g_getR (k2 := (k3 + 4)) C dX5_tellStatement_81 rfl hk3 fi_9_1 ⟨by decide, by decide, rfl⟩ fl_X5_56 ?_
    refine g_callI [.int v1, .ref ((xE Γ).1 (k3 + 4))] C dX5_tellStatement_84 rfl (tX5_tellField (xl Γ) (xE Γ) v1 (kr_9_1 hk3) u) cf_X5_tellField rfl rfl ml_X5_60 rfl (by decide) (Nat.le_of_ble_eq_true rfl) rfl (fun r8 u7 => ?_)
    refine g_gd (fun hb9 => ?_)
    exact g_zret C M dX5_tellStatement_87 rfl hb9 rfl
  refine g_if (fun c10 => ?_) (fun c10 => ?_)
  · refine g_look 100 108 C dX5_tellStatement_8 rfl (by decide) (by rw [c10]; rfl) (by decide) ?_
    refine g_aload_n C dX5_tellStatement_108 rfl 0 rfl ?_
    refine g_iload_n C dX5_tellStatement_109 rfl 1 rfl ?_
    refine g_aload_n C dX5_tellStatement_110 rfl 3 rfl ?_
    refine g_getR (k2 := (k3 + 12)) C dX5_tellStatement_111 rfl hk3 fi_9_3 ⟨by decide, by decide, rfl⟩ fl_X5_72 ?_
    refine g_callI [.int v1, .ref ((xE Γ).1 (k3 + 12))] C dX5_tellStatement_114 rfl (tX5_tellHeight (xl Γ) (xE Γ) v1 (kr_9_3 hk3) u) cf_X5_tellHeight rfl rfl ml_X5_80 rfl (by decide) (Nat.le_of_ble_eq_true rfl) rfl (fun r12 u11 => ?_)
    refine g_gd (fun hb13 => ?_)
    exact g_zret C M dX5_tellStatement_117 rfl hb13 rfl
  refine g_if (fun c14 => ?_) (fun c14 => ?_)
  · refine g_look 110 118 C dX5_tellStatement_8 rfl (by decide) (by rw [c14]; rfl) (by decide) ?_
    refine g_aload_n C dX5_tellStatement_118 rfl 0 rfl ?_
    refine g_iload_n C dX5_tellStatement_119 rfl 1 rfl ?_
    refine g_aload_n C dX5_tellStatement_120 rfl 3 rfl ?_
    refine g_getR (k2 := (k3 + 12)) C dX5_tellStatement_121 rfl hk3 fi_9_3 ⟨by decide, by decide, rfl⟩ fl_X5_72 ?_
    refine g_callI [.int v1, .ref ((xE Γ).1 (k3 + 12))] C dX5_tellStatement_124 rfl (tX5_tellLag (xl Γ) (xE Γ) v1 (kr_9_3 hk3) u) cf_X5_tellLag rfl rfl ml_X5_83 rfl (by decide) (Nat.le_of_ble_eq_true rfl) rfl (fun r16 u15 => ?_)
    refine g_gd (fun hb17 => ?_)
    exact g_zret C M dX5_tellStatement_127 rfl hb17 rfl
  refine g_if (fun c18 => ?_) (fun c18 => ?_)
  · refine g_look 80 88 C dX5_tellStatement_8 rfl (by decide) (by rw [c18]; rfl) (by decide) ?_
    refine g_aload_n C dX5_tellStatement_88 rfl 0 rfl ?_
    refine g_iload_n C dX5_tellStatement_89 rfl 1 rfl ?_
    refine g_aload_n C dX5_tellStatement_90 rfl 3 rfl ?_
    refine g_getR (k2 := (k3 + 10)) C dX5_tellStatement_91 rfl hk3 fi_9_2 ⟨by decide, by decide, rfl⟩ fl_X5_64 ?_
    refine g_callI [.int v1, .ref ((xE Γ).1 (k3 + 10))] C dX5_tellStatement_94 rfl (tX5_tellRoad (xl Γ) (xE Γ) v1 (kr_9_2 hk3) u) cf_X5_tellRoad rfl rfl ml_X5_68 rfl (by decide) (Nat.le_of_ble_eq_true rfl) rfl (fun r20 u19 => ?_)
    refine g_gd (fun hb21 => ?_)
    exact g_zret C M dX5_tellStatement_97 rfl hb21 rfl
  refine g_if (fun c22 => ?_) (fun c22 => ?_)
  · refine g_look 60 68 C dX5_tellStatement_8 rfl (by decide) (by rw [c22]; rfl) (by decide) ?_
    refine g_aload_n C dX5_tellStatement_68 rfl 0 rfl ?_
    refine g_iload_n C dX5_tellStatement_69 rfl 1 rfl ?_
    refine g_aload_n C dX5_tellStatement_70 rfl 3 rfl ?_
    refine g_getR (k2 := (k3 + 1)) C dX5_tellStatement_71 rfl hk3 fi_9_0 ⟨by decide, by decide, rfl⟩ fl_X5_46 ?_
    refine g_callI [.int v1, .ref ((xE Γ).1 (k3 + 1))] C dX5_tellStatement_74 rfl (tX5_tellWind (xl Γ) (xE Γ) v1 (kr_9_0 hk3) u) cf_X5_tellWind rfl rfl ml_X5_52 rfl (by decide) (Nat.le_of_ble_eq_true rfl) rfl (fun r24 u23 => ?_)
    refine g_gd (fun hb25 => ?_)
    exact g_zret C M dX5_tellStatement_77 rfl hb25 rfl
  refine g_look 120 128 C dX5_tellStatement_8 rfl (by decide) (by show Op.lookupswitch.offset [(98, 90), (102, 70), (104, 100), (108, 110), (114, 80), (119, 60)] _ _ = _; rw [lv_osw c2 (by decide), lv_osw c6 (by decide), lv_osw c10 (by decide), lv_osw c14 (by decide), lv_osw c18 (by decide), lv_osw c22 (by decide)]; rfl) (by decide) ?_
  refine g_aload_n C dX5_tellStatement_128 rfl 0 rfl ?_
  refine g_iload_n C dX5_tellStatement_129 rfl 1 rfl ?_
  refine g_iload_n C dX5_tellStatement_130 rfl 2 rfl ?_
  refine g_aload_n C dX5_tellStatement_131 rfl 3 rfl ?_
  refine g_callI [.int v1, .int v2, .ref ((xE Γ).1 k3)] C dX5_tellStatement_132 rfl (tX5_tellActs (xl Γ) (xE Γ) v1 v2 hk3 u) cf_X5_tellActs rfl rfl ml_X5_86 rfl (by decide) (Nat.le_of_ble_eq_true rfl) rfl (fun r27 u26 => ?_)
  refine g_gd (fun hb28 => ?_)
  exact g_zret C M dX5_tellStatement_135 rfl hb28 rfl
set_option maxRecDepth 20000 in
set_option maxHeartbeats 4000000 in
theorem tX5_tellStatement (l : Launch) (E : EE) (v1 : Int32) (v2 : Int32) {k3 : Nat} (hk3 : kd k3 = 12) (u : Mm) : Ct l E yX5_tellStatement cX5_tellStatement 4 (some .boolean) 4 [.ref (E.1 51), .int v1, .int v2, .ref (E.1 k3)] u cvI (gX5_tellStatement v1 v2 k3 u) :=
  Ct_of (own := RX5) (by decide +kernel) rfl (Nat.le_of_ble_eq_true rfl) (fun p e R s m args below meth c C M => g_sub (ls' := [(0, .ref (E.1 51)), (1, .int v1), (2, .int v2), (3, .ref (E.1 k3))]) [0, 1, 2, 3] rfl (pX5_tellStatement_0 C M rfl hk3 v1 v2 u))
set_option maxRecDepth 20000 in
set_option maxHeartbeats 4000000 in
theorem pX5_tell_4s {Γ : GX} (C : Cx Γ RX5 cX5_tell 5) (M : Mx Γ (some .int)) (L : xn Γ = 5) {k1 : Nat} (hk1 : kd k1 = 12) {j4 : Int32 → Int32 → Mm → Option (Int32 × Mm)} (hj4 : ∀ (v2 : Int32) (v3 : Int32) (u : Mm), Gp Γ (QM Γ cvI) 4 [(0, .ref ((xE Γ).1 51)), (1, .ref ((xE Γ).1 k1)), (2, .int v2), (3, .int v3)] [] u (j4 v2 v3 u)) (v2 : Int32) (v3 : Int32) (u : Mm) : Gp Γ (QM Γ cvI) 4 [(0, .ref ((xE Γ).1 51)), (1, .ref ((xE Γ).1 k1)), (2, .int v2), (3, .int v3)] [] u (gX5_tell_4_Ls k1 j4 v2 v3 u) := by
  unfold gX5_tell_4_Ls
  refine g_iload_n C dX5_tell_4 rfl 2 rfl ?_
  refine g_bipush (v := 96) C dX5_tell_5 rfl (by decide) ?_
  refine g_icmp_ge 56 C dX5_tell_7 rfl (by decide) (fun c1 => ?_) (fun c1 => ?_)
  · refine g_iload_n C dX5_tell_56 rfl 2 rfl ?_
    exact g_iret C M dX5_tell_57 rfl rfl
  · refine g_iload_n C dX5_tell_10 rfl 3 rfl ?_
    refine g_aload_n C dX5_tell_11 rfl 0 rfl ?_
    refine g_getR (k2 := 52) C dX5_tell_12 rfl rfl fi_5_0 ⟨by decide, by decide, rfl⟩ fl_X5_14 ?_
    refine g_getI C dX5_tell_15 rfl rfl fi_7_0 rfl fl_X5_24 ?_
    refine g_icmp_ge 56 C dX5_tell_18 rfl (by decide) (fun c2 => ?_) (fun c2 => ?_)
    · refine g_iload_n C dX5_tell_56 rfl 2 rfl ?_
      exact g_iret C M dX5_tell_57 rfl rfl
    · refine g_aload_n C dX5_tell_21 rfl 0 rfl ?_
      refine g_iload_n C dX5_tell_22 rfl 3 rfl ?_
      refine g_callP [.int v3] C dX5_tell_23 rfl (tX5_endOf (xl Γ) (xE Γ) v3 u) cf_X5_endOf rfl rfl ml_X5_28 rfl (by decide) (Nat.le_of_ble_eq_true rfl) rfl (fun r3 => ?_)
      refine g_istore (ls' := [(4, .int r3), (0, .ref ((xE Γ).1 51)), (1, .ref ((xE Γ).1 k1)), (2, .int v2), (3, .int v3)]) C dX5_tell_26 rfl L (by decide) rfl ?_
      refine g_aload_n C dX5_tell_28 rfl 1 rfl ?_
      refine g_iload_n C dX5_tell_29 rfl 4 rfl ?_
      refine g_iload C dX5_tell_30 rfl 0 rfl ?_
      refine g_aload_n C dX5_tell_32 rfl 2 rfl ?_
      refine g_callI [.int v3, .int r3, .ref ((xE Γ).1 k1)] C dX5_tell_33 rfl (tX5_tellStatement (xl Γ) (xE Γ) v3 r3 hk1 u) cf_X5_tellStatement rfl rfl ml_X5_31 rfl (by decide) (Nat.le_of_ble_eq_true rfl) rfl (fun r5 u4 => ?_)
      refine g_if_ne 45 C dX5_tell_36 rfl (by decide) (fun c6 => ?_) (fun c6 => ?_)
      · refine g_iload C dX5_tell_45 rfl 0 rfl ?_
        refine g_iconst (v := 1) C dX5_tell_47 rfl (by decide) ?_
        refine g_iadd C dX5_tell_48 rfl ?_
        refine g_lets (fun v3_7 => ?_)
        refine g_istore_n (ls' := [(3, .int v3_7), (4, .int r3), (0, .ref ((xE Γ).1 51)), (1, .ref ((xE Γ).1 k1)), (2, .int v2)]) C dX5_tell_49 rfl L (by decide) rfl ?_
        refine g_iincL (fun v2_8 => [(2, .int v2_8), (3, .int v3_7), (4, .int r3), (0, .ref ((xE Γ).1 51)), (1, .ref ((xE Γ).1 k1))]) C dX5_tell_50 rfl L (by decide) (k := 4) rfl (iinc_1 _) (fun _ => rfl) (fun v2_8 => ?_)
        refine g_goto 4 C dX5_tell_53 rfl (by decide) ?_
        refine g_sub (ls' := [(0, .ref ((xE Γ).1 51)), (1, .ref ((xE Γ).1 k1)), (2, .int v2_8), (3, .int v3_7)]) [3, 4, 0, 1] rfl ?_
        exact hj4 v2_8 v3_7 u4
      · refine g_sipush (v := (-2000)) C dX5_tell_39 rfl (by decide) ?_
        refine g_iload_n C dX5_tell_42 rfl 4 rfl ?_
        refine g_isub C dX5_tell_43 rfl ?_
        exact g_iret C M dX5_tell_44 rfl rfl
set_option maxRecDepth 20000 in
set_option maxHeartbeats 4000000 in
theorem pX5_tell_4 {Γ : GX} (C : Cx Γ RX5 cX5_tell 5) (M : Mx Γ (some .int)) (L : xn Γ = 5) {k1 : Nat} (hk1 : kd k1 = 12) : ∀ (n : Nat) (v2 : Int32) (v3 : Int32) (u : Mm), Gp Γ (QM Γ cvI) 4 [(0, .ref ((xE Γ).1 51)), (1, .ref ((xE Γ).1 k1)), (2, .int v2), (3, .int v3)] [] u (gX5_tell_4_L k1 n v2 v3 u) := by
  intro n
  induction n with
  | zero => intro _ _ _; exact g_none
  | succ n ih => intro v2 v3 u; exact pX5_tell_4s C M L hk1 ih v2 v3 u

set_option maxRecDepth 20000 in
set_option maxHeartbeats 4000000 in
theorem pX5_tell_0 {Γ : GX} (C : Cx Γ RX5 cX5_tell 5) (M : Mx Γ (some .int)) (L : xn Γ = 5) {k1 : Nat} (hk1 : kd k1 = 12) (u : Mm) : Gp Γ (QM Γ cvI) 0 [(0, .ref ((xE Γ).1 51)), (1, .ref ((xE Γ).1 k1))] [] u (gX5_tell_b k1 u) := by
  unfold gX5_tell_b
  refine g_iconst (v := 0) C dX5_tell_0 rfl (by decide) ?_
  refine g_istore_n (ls' := [(2, .int 0), (0, .ref ((xE Γ).1 51)), (1, .ref ((xE Γ).1 k1))]) C dX5_tell_1 rfl L (by decide) rfl ?_
  refine g_iconst (v := 0) C dX5_tell_2 rfl (by decide) ?_
  refine g_istore_n (ls' := [(3, .int 0), (2, .int 0), (0, .ref ((xE Γ).1 51)), (1, .ref ((xE Γ).1 k1))]) C dX5_tell_3 rfl L (by decide) rfl ?_
  refine g_sub (ls' := [(0, .ref ((xE Γ).1 51)), (1, .ref ((xE Γ).1 k1)), (2, .int 0), (3, .int 0)]) [2, 3, 1, 0] rfl ?_
  exact pX5_tell_4 C M L hk1 FU 0 0 u
set_option maxRecDepth 20000 in
set_option maxHeartbeats 4000000 in
theorem tX5_tell (l : Launch) (E : EE) {k1 : Nat} (hk1 : kd k1 = 12) (u : Mm) : Ct l E yX5_tell cX5_tell 5 (some .int) 5 [.ref (E.1 51), .ref (E.1 k1)] u cvI (gX5_tell k1 u) :=
  Ct_of (own := RX5) (by decide +kernel) rfl (Nat.le_of_ble_eq_true rfl) (fun p e R s m args below meth c C M => g_sub (ls' := [(0, .ref (E.1 51)), (1, .ref (E.1 k1))]) [0, 1] rfl (pX5_tell_0 C M rfl hk1 u))
set_option maxRecDepth 20000 in
set_option maxHeartbeats 4000000 in
theorem pX6_copyFrom_10s {Γ : GX} (C : Cx Γ RX6 cX6_copyFrom 0) (M : Mx Γ none) (L : xn Γ = 3) {k0 : Nat} (hk0 : kd k0 = 9) {k1 : Nat} (hk1 : kd k1 = 9) {j10 : Int32 → Mm → Option Mm} (hj10 : ∀ (v2 : Int32) (u : Mm), Gp Γ (QM Γ cvV) 10 [(0, .ref ((xE Γ).1 k0)), (1, .ref ((xE Γ).1 k1)), (2, .int v2)] [] u (j10 v2 u)) (v2 : Int32) (u : Mm) : Gp Γ (QM Γ cvV) 10 [(0, .ref ((xE Γ).1 k0)), (1, .ref ((xE Γ).1 k1)), (2, .int v2)] [] u (gX6_copyFrom_10_Ls k0 k1 j10 v2 u) := by
  unfold gX6_copyFrom_10_Ls
  refine g_iload_n C dX6_copyFrom_10 rfl 2 rfl ?_
  refine g_bipush (v := 64) C dX6_copyFrom_11 rfl (by decide) ?_
  refine g_icmp_ge 34 C dX6_copyFrom_13 rfl (by decide) (fun c1 => ?_) (fun c1 => ?_)
  · exact g_vret C M dX6_copyFrom_34 rfl rfl
  · refine g_aload_n C dX6_copyFrom_16 rfl 0 rfl ?_
    refine g_getR (k2 := (k0 + 1)) C dX6_copyFrom_17 rfl hk0 fi_6_1 ⟨by decide, by decide, rfl⟩ fl_X6_9 ?_
    refine g_iload_n C dX6_copyFrom_20 rfl 2 rfl ?_
    refine g_aload_n C dX6_copyFrom_21 rfl 1 rfl ?_
    refine g_getR (k2 := (k1 + 1)) C dX6_copyFrom_22 rfl hk1 fi_6_1 ⟨by decide, by decide, rfl⟩ fl_X6_9 ?_
    refine g_iload_n C dX6_copyFrom_25 rfl 2 rfl ?_
    refine g_gd (fun hi2 => ?_)
    refine g_iald C dX6_copyFrom_26 rfl (kr_6_1 hk1) (sr_6_1 hk1) hi2 ?_
    refine g_gd (fun hi4 => ?_)
    refine g_iast C dX6_copyFrom_27 rfl (kr_6_1 hk0) (sr_6_1 hk0) hi4 ?_
    refine g_letm (fun u3 => ?_)
    refine g_iincL (fun v2_5 => [(2, .int v2_5), (0, .ref ((xE Γ).1 k0)), (1, .ref ((xE Γ).1 k1))]) C dX6_copyFrom_28 rfl L (by decide) (k := 2) rfl (iinc_1 _) (fun _ => rfl) (fun v2_5 => ?_)
    refine g_goto 10 C dX6_copyFrom_31 rfl (by decide) ?_
    refine g_sub (ls' := [(0, .ref ((xE Γ).1 k0)), (1, .ref ((xE Γ).1 k1)), (2, .int v2_5)]) [1, 2, 0] rfl ?_
    exact hj10 v2_5 u3
set_option maxRecDepth 20000 in
set_option maxHeartbeats 4000000 in
theorem pX6_copyFrom_10 {Γ : GX} (C : Cx Γ RX6 cX6_copyFrom 0) (M : Mx Γ none) (L : xn Γ = 3) {k0 : Nat} (hk0 : kd k0 = 9) {k1 : Nat} (hk1 : kd k1 = 9) : ∀ (n : Nat) (v2 : Int32) (u : Mm), Gp Γ (QM Γ cvV) 10 [(0, .ref ((xE Γ).1 k0)), (1, .ref ((xE Γ).1 k1)), (2, .int v2)] [] u (gX6_copyFrom_10_L k0 k1 n v2 u) := by
  intro n
  induction n with
  | zero => intro _ _; exact g_none
  | succ n ih => intro v2 u; exact pX6_copyFrom_10s C M L hk0 hk1 ih v2 u

set_option maxRecDepth 20000 in
set_option maxHeartbeats 4000000 in
theorem pX6_copyFrom_0 {Γ : GX} (C : Cx Γ RX6 cX6_copyFrom 0) (M : Mx Γ none) (L : xn Γ = 3) {k0 : Nat} (hk0 : kd k0 = 9) {k1 : Nat} (hk1 : kd k1 = 9) (u : Mm) : Gp Γ (QM Γ cvV) 0 [(0, .ref ((xE Γ).1 k0)), (1, .ref ((xE Γ).1 k1))] [] u (gX6_copyFrom_b k0 k1 u) := by
  unfold gX6_copyFrom_b
  refine g_aload_n C dX6_copyFrom_0 rfl 0 rfl ?_
  refine g_aload_n C dX6_copyFrom_1 rfl 1 rfl ?_
  refine g_getI C dX6_copyFrom_2 rfl hk1 fi_6_0 rfl fl_X6_15 ?_
  refine g_putI C dX6_copyFrom_5 rfl hk0 fp_6_0 rfl fl_X6_15 ?_
  refine g_letm (fun u1 => ?_)
  refine g_iconst (v := 0) C dX6_copyFrom_8 rfl (by decide) ?_
  refine g_istore_n (ls' := [(2, .int 0), (0, .ref ((xE Γ).1 k0)), (1, .ref ((xE Γ).1 k1))]) C dX6_copyFrom_9 rfl L (by decide) rfl ?_
  refine g_sub (ls' := [(0, .ref ((xE Γ).1 k0)), (1, .ref ((xE Γ).1 k1)), (2, .int 0)]) [1, 2, 0] rfl ?_
  exact pX6_copyFrom_10 C M L hk0 hk1 FU 0 u1
set_option maxRecDepth 20000 in
set_option maxHeartbeats 4000000 in
theorem tX6_copyFrom (l : Launch) (E : EE) {k0 : Nat} (hk0 : kd k0 = 9) {k1 : Nat} (hk1 : kd k1 = 9) (u : Mm) : Ct l E yX6_copyFrom cX6_copyFrom 3 none 0 [.ref (E.1 k0), .ref (E.1 k1)] u cvV (gX6_copyFrom k0 k1 u) :=
  Ct_of (own := RX6) (by decide +kernel) rfl (Nat.le_of_ble_eq_true rfl) (fun p e R s m args below meth c C M => g_sub (ls' := [(0, .ref (E.1 k0)), (1, .ref (E.1 k1))]) [0, 1] rfl (pX6_copyFrom_0 C M rfl hk0 hk1 u))
set_option maxRecDepth 20000 in
set_option maxHeartbeats 4000000 in
theorem pX6_between_0 {Γ : GX} (C : Cx Γ RX6 cX6_between 1) (M : Mx Γ (some .int)) (L : xn Γ = 3) {k0 : Nat} (hk0 : kd k0 = 9) (u : Mm) (v1 : Int32) (v2 : Int32) : Gp Γ (QM Γ (cvP u)) 0 [(0, .ref ((xE Γ).1 k0)), (1, .int v1), (2, .int v2)] [] u (gX6_between_b k0 v1 v2 u) := by
  unfold gX6_between_b
  refine g_iload_n C dX6_between_0 rfl 1 rfl ?_
  refine g_callnP [.int v1] C dX6_between_1 rfl (tX10_isPlace (xl Γ) (xE Γ) v1 u) cf_X10_isPlace (List.mem_of_getElem? (i := 4) rfl) rfl (by decide) (Nat.le_of_ble_eq_true rfl) rfl (fun r1 => ?_)
  refine g_if_eq 28 C dX6_between_4 rfl (by decide) (fun c2 => ?_) (fun c2 => ?_)
  · refine g_iconst (v := 0) C dX6_between_28 rfl (by decide) ?_
    exact g_iret C M dX6_between_29 rfl rfl
  · refine g_iload_n C dX6_between_7 rfl 2 rfl ?_
    refine g_callnP [.int v2] C dX6_between_8 rfl (tX10_isPlace (xl Γ) (xE Γ) v2 u) cf_X10_isPlace (List.mem_of_getElem? (i := 4) rfl) rfl (by decide) (Nat.le_of_ble_eq_true rfl) rfl (fun r3 => ?_)
    refine g_if_eq 28 C dX6_between_11 rfl (by decide) (fun c4 => ?_) (fun c4 => ?_)
    · refine g_iconst (v := 0) C dX6_between_28 rfl (by decide) ?_
      exact g_iret C M dX6_between_29 rfl rfl
    · refine g_aload_n C dX6_between_14 rfl 0 rfl ?_
      refine g_getR (k2 := (k0 + 1)) C dX6_between_15 rfl hk0 fi_6_1 ⟨by decide, by decide, rfl⟩ fl_X6_9 ?_
      refine g_iload_n C dX6_between_18 rfl 1 rfl ?_
      refine g_bipush (v := 8) C dX6_between_19 rfl (by decide) ?_
      refine g_imul C dX6_between_21 rfl ?_
      refine g_iload_n C dX6_between_22 rfl 2 rfl ?_
      refine g_iadd C dX6_between_23 rfl ?_
      refine g_gd (fun hi5 => ?_)
      refine g_iald C dX6_between_24 rfl (kr_6_1 hk0) (sr_6_1 hk0) hi5 ?_
      refine g_goto 29 C dX6_between_25 rfl (by decide) ?_
      exact g_iret C M dX6_between_29 rfl rfl
set_option maxRecDepth 20000 in
set_option maxHeartbeats 4000000 in
theorem tX6_between (l : Launch) (E : EE) {k0 : Nat} (hk0 : kd k0 = 9) (v1 : Int32) (v2 : Int32) (u : Mm) : Ct l E yX6_between cX6_between 3 (some .int) 1 [.ref (E.1 k0), .int v1, .int v2] u (cvP u) (gX6_between k0 v1 v2 u) :=
  Ct_of (own := RX6) (by decide +kernel) rfl (Nat.le_of_ble_eq_true rfl) (fun p e R s m args below meth c C M => g_sub (ls' := [(0, .ref (E.1 k0)), (1, .int v1), (2, .int v2)]) [0, 1, 2] rfl (pX6_between_0 C M rfl hk0 u v1 v2))
set_option maxRecDepth 20000 in
set_option maxHeartbeats 4000000 in
theorem pX6_nearestTo_36 {Γ : GX} (C : Cx Γ RX6 cX6_nearestTo 1) (M : Mx Γ (some .int)) (L : xn Γ = 3) (u : Mm) (v0 : Int32) (v2 : Int32) (s0 : Int32) {j4 : Int32 → Int32 → Option Int32} (hj4 : ∀ (v1 : Int32) (v2 : Int32), Gp Γ (QM Γ (cvP u)) 4 [(0, .int v0), (1, .int v1), (2, .int v2)] [] u (j4 v1 v2)) : Gp Γ (QM Γ (cvP u)) 36 [(0, .int v0), (2, .int v2)] [.int s0] u (gX6_nearestTo_36 j4 v0 v2 s0) := by
  unfold gX6_nearestTo_36
  refine g_istore_n (ls' := [(1, .int s0), (0, .int v0), (2, .int v2)]) C dX6_nearestTo_36 rfl L (by decide) rfl ?_
  refine g_iincL (fun v2_1 => [(2, .int v2_1), (1, .int s0), (0, .int v0)]) C dX6_nearestTo_37 rfl L (by decide) (k := 2) rfl (iinc_1 _) (fun _ => rfl) (fun v2_1 => ?_)
  refine g_goto 4 C dX6_nearestTo_40 rfl (by decide) ?_
  refine g_sub (ls' := [(0, .int v0), (1, .int s0), (2, .int v2_1)]) [2, 1, 0] rfl ?_
  exact hj4 s0 v2_1
set_option maxRecDepth 20000 in
set_option maxHeartbeats 4000000 in
theorem pX6_nearestTo_4s {Γ : GX} (C : Cx Γ RX6 cX6_nearestTo 1) (M : Mx Γ (some .int)) (L : xn Γ = 3) (u : Mm) (v0 : Int32) {j4 : Int32 → Int32 → Option Int32} (hj4 : ∀ (v1 : Int32) (v2 : Int32), Gp Γ (QM Γ (cvP u)) 4 [(0, .int v0), (1, .int v1), (2, .int v2)] [] u (j4 v1 v2)) (v1 : Int32) (v2 : Int32) : Gp Γ (QM Γ (cvP u)) 4 [(0, .int v0), (1, .int v1), (2, .int v2)] [] u (gX6_nearestTo_4_Ls v0 j4 v1 v2) := by
  unfold gX6_nearestTo_4_Ls
  refine g_iload_n C dX6_nearestTo_4 rfl 2 rfl ?_
  refine g_bipush (v := 8) C dX6_nearestTo_5 rfl (by decide) ?_
  refine g_icmp_ge 43 C dX6_nearestTo_7 rfl (by decide) (fun c1 => ?_) (fun c1 => ?_)
  · refine g_iload_n C dX6_nearestTo_43 rfl 1 rfl ?_
    exact g_iret C M dX6_nearestTo_44 rfl rfl
  · refine g_iload_n C dX6_nearestTo_10 rfl 0 rfl ?_
    refine g_bipush (v := 100) C dX6_nearestTo_11 rfl (by decide) ?_
    refine g_iload_n C dX6_nearestTo_13 rfl 2 rfl ?_
    refine g_imul C dX6_nearestTo_14 rfl ?_
    refine g_isub C dX6_nearestTo_15 rfl ?_
    refine g_abs C dX6_nearestTo_16 rfl ⟨ml_X6_23, ms_abs, mc_abs⟩ (by decide) (Nat.le_of_ble_eq_true rfl) ?_
    refine g_iload_n C dX6_nearestTo_19 rfl 0 rfl ?_
    refine g_bipush (v := 100) C dX6_nearestTo_20 rfl (by decide) ?_
    refine g_iload_n C dX6_nearestTo_22 rfl 1 rfl ?_
    refine g_imul C dX6_nearestTo_23 rfl ?_
    refine g_isub C dX6_nearestTo_24 rfl ?_
    refine g_abs C dX6_nearestTo_25 rfl ⟨ml_X6_23, ms_abs, mc_abs⟩ (by decide) (Nat.le_of_ble_eq_true rfl) ?_
    refine g_icmp_ge 35 C dX6_nearestTo_28 rfl (by decide) (fun c2 => ?_) (fun c2 => ?_)
    · refine g_iload_n C dX6_nearestTo_35 rfl 1 rfl ?_
      refine g_sub (ls' := [(0, .int v0), (2, .int v2)]) [0, 2] rfl ?_
      exact pX6_nearestTo_36 C M L u v0 v2 v1 hj4
    · refine g_iload_n C dX6_nearestTo_31 rfl 2 rfl ?_
      refine g_goto 36 C dX6_nearestTo_32 rfl (by decide) ?_
      refine g_sub (ls' := [(0, .int v0), (2, .int v2)]) [0, 2] rfl ?_
      exact pX6_nearestTo_36 C M L u v0 v2 v2 hj4
set_option maxRecDepth 20000 in
set_option maxHeartbeats 4000000 in
theorem pX6_nearestTo_4 {Γ : GX} (C : Cx Γ RX6 cX6_nearestTo 1) (M : Mx Γ (some .int)) (L : xn Γ = 3) (u : Mm) (v0 : Int32) : ∀ (n : Nat) (v1 : Int32) (v2 : Int32), Gp Γ (QM Γ (cvP u)) 4 [(0, .int v0), (1, .int v1), (2, .int v2)] [] u (gX6_nearestTo_4_L v0 n v1 v2) := by
  intro n
  induction n with
  | zero => intro _ _; exact g_none
  | succ n ih => intro v1 v2; exact pX6_nearestTo_4s C M L u v0 ih v1 v2

set_option maxRecDepth 20000 in
set_option maxHeartbeats 4000000 in
theorem pX6_nearestTo_0 {Γ : GX} (C : Cx Γ RX6 cX6_nearestTo 1) (M : Mx Γ (some .int)) (L : xn Γ = 3) (u : Mm) (v0 : Int32) : Gp Γ (QM Γ (cvP u)) 0 [(0, .int v0)] [] u (gX6_nearestTo_b v0) := by
  unfold gX6_nearestTo_b
  refine g_iconst (v := 0) C dX6_nearestTo_0 rfl (by decide) ?_
  refine g_istore_n (ls' := [(1, .int 0), (0, .int v0)]) C dX6_nearestTo_1 rfl L (by decide) rfl ?_
  refine g_iconst (v := 1) C dX6_nearestTo_2 rfl (by decide) ?_
  refine g_istore_n (ls' := [(2, .int 1), (1, .int 0), (0, .int v0)]) C dX6_nearestTo_3 rfl L (by decide) rfl ?_
  refine g_sub (ls' := [(0, .int v0), (1, .int 0), (2, .int 1)]) [2, 1, 0] rfl ?_
  exact pX6_nearestTo_4 C M L u v0 FU 0 1
set_option maxRecDepth 20000 in
set_option maxHeartbeats 4000000 in
theorem tX6_nearestTo (l : Launch) (E : EE) (v0 : Int32) (u : Mm) : Ct l E yX6_nearestTo cX6_nearestTo 3 (some .int) 1 [.int v0] u (cvP u) (gX6_nearestTo v0) :=
  Ct_of (own := RX6) (by decide +kernel) rfl (Nat.le_of_ble_eq_true rfl) (fun p e R s m args below meth c C M => g_sub (ls' := [(0, .int v0)]) [0] rfl (pX6_nearestTo_0 C M rfl u v0))
set_option maxRecDepth 20000 in
set_option maxHeartbeats 4000000 in
theorem pX7_isFull_0 {Γ : GX} (C : Cx Γ RX7 cX7_isFull 0) (M : Mx Γ (some .boolean)) (L : xn Γ = 1) {k0 : Nat} (hk0 : kd k0 = 10) (u : Mm) : Gp Γ (QM Γ (cvP u)) 0 [(0, .ref ((xE Γ).1 k0))] [] u (gX7_isFull_b k0 u) := by
  unfold gX7_isFull_b
  refine g_aload_n C dX7_isFull_0 rfl 0 rfl ?_
  refine g_getI C dX7_isFull_1 rfl hk0 fi_7_0 rfl fl_X7_13 ?_
  refine g_aload_n C dX7_isFull_4 rfl 0 rfl ?_
  refine g_getR (k2 := (k0 + 1)) C dX7_isFull_5 rfl hk0 fi_7_1 ⟨by decide, by decide, rfl⟩ fl_X7_7 ?_
  refine g_alen C dX7_isFull_8 rfl (kr_7_1 hk0) rfl rfl ?_
  refine g_icmp_lt 16 C dX7_isFull_9 rfl (by decide) (fun c1 => ?_) (fun c1 => ?_)
  · refine g_iconst (v := 0) C dX7_isFull_16 rfl (by decide) ?_
    exact g_zret C M dX7_isFull_17 rfl (by decide) rfl
  · refine g_iconst (v := 1) C dX7_isFull_12 rfl (by decide) ?_
    refine g_goto 17 C dX7_isFull_13 rfl (by decide) ?_
    exact g_zret C M dX7_isFull_17 rfl (by decide) rfl
set_option maxRecDepth 20000 in
set_option maxHeartbeats 4000000 in
theorem tX7_isFull (l : Launch) (E : EE) {k0 : Nat} (hk0 : kd k0 = 10) (u : Mm) : Ct l E yX7_isFull cX7_isFull 1 (some .boolean) 0 [.ref (E.1 k0)] u (cvP u) (gX7_isFull k0 u) :=
  Ct_of (own := RX7) (by decide +kernel) rfl (Nat.le_of_ble_eq_true rfl) (fun p e R s m args below meth c C M => g_sub (ls' := [(0, .ref (E.1 k0))]) [0] rfl (pX7_isFull_0 C M rfl hk0 u))
set_option maxRecDepth 20000 in
set_option maxHeartbeats 4000000 in
theorem pX7_add_0 {Γ : GX} (C : Cx Γ RX7 cX7_add 0) (M : Mx Γ (some .int)) (L : xn Γ = 2) {k0 : Nat} (hk0 : kd k0 = 10) (v1 : Int32) (u : Mm) : Gp Γ (QM Γ cvI) 0 [(0, .ref ((xE Γ).1 k0)), (1, .int v1)] [] u (gX7_add_b k0 v1 u) := by
  unfold gX7_add_b
  refine g_aload_n C dX7_add_0 rfl 0 rfl ?_
  refine g_getI C dX7_add_1 rfl hk0 fi_7_0 rfl fl_X7_13 ?_
  refine g_if_lt 39 C dX7_add_4 rfl (by decide) (fun c1 => ?_) (fun c1 => ?_)
  · refine g_aload_n C dX7_add_39 rfl 0 rfl ?_
    refine g_getI C dX7_add_40 rfl hk0 fi_7_0 rfl fl_X7_13 ?_
    exact g_iret C M dX7_add_43 rfl rfl
  · refine g_aload_n C dX7_add_7 rfl 0 rfl ?_
    refine g_getI C dX7_add_8 rfl hk0 fi_7_0 rfl fl_X7_13 ?_
    refine g_aload_n C dX7_add_11 rfl 0 rfl ?_
    refine g_getR (k2 := (k0 + 1)) C dX7_add_12 rfl hk0 fi_7_1 ⟨by decide, by decide, rfl⟩ fl_X7_7 ?_
    refine g_alen C dX7_add_15 rfl (kr_7_1 hk0) rfl rfl ?_
    refine g_icmp_ge 39 C dX7_add_16 rfl (by decide) (fun c2 => ?_) (fun c2 => ?_)
    · refine g_aload_n C dX7_add_39 rfl 0 rfl ?_
      refine g_getI C dX7_add_40 rfl hk0 fi_7_0 rfl fl_X7_13 ?_
      exact g_iret C M dX7_add_43 rfl rfl
    · refine g_aload_n C dX7_add_19 rfl 0 rfl ?_
      refine g_getR (k2 := (k0 + 1)) C dX7_add_20 rfl hk0 fi_7_1 ⟨by decide, by decide, rfl⟩ fl_X7_7 ?_
      refine g_aload_n C dX7_add_23 rfl 0 rfl ?_
      refine g_getI C dX7_add_24 rfl hk0 fi_7_0 rfl fl_X7_13 ?_
      refine g_iload_n C dX7_add_27 rfl 1 rfl ?_
      refine g_gd (fun hi4 => ?_)
      refine g_iast C dX7_add_28 rfl (kr_7_1 hk0) rfl hi4 ?_
      refine g_letm (fun u3 => ?_)
      refine g_aload_n C dX7_add_29 rfl 0 rfl ?_
      refine g_dup C dX7_add_30 rfl rfl ?_
      refine g_getI C dX7_add_31 rfl hk0 fi_7_0 rfl fl_X7_13 ?_
      refine g_iconst (v := 1) C dX7_add_34 rfl (by decide) ?_
      refine g_iadd C dX7_add_35 rfl ?_
      refine g_putI C dX7_add_36 rfl hk0 fp_7_0 rfl fl_X7_13 ?_
      refine g_letm (fun u5 => ?_)
      refine g_aload_n C dX7_add_39 rfl 0 rfl ?_
      refine g_getI C dX7_add_40 rfl hk0 fi_7_0 rfl fl_X7_13 ?_
      exact g_iret C M dX7_add_43 rfl rfl
set_option maxRecDepth 20000 in
set_option maxHeartbeats 4000000 in
theorem tX7_add (l : Launch) (E : EE) {k0 : Nat} (hk0 : kd k0 = 10) (v1 : Int32) (u : Mm) : Ct l E yX7_add cX7_add 2 (some .int) 0 [.ref (E.1 k0), .int v1] u cvI (gX7_add k0 v1 u) :=
  Ct_of (own := RX7) (by decide +kernel) rfl (Nat.le_of_ble_eq_true rfl) (fun p e R s m args below meth c C M => g_sub (ls' := [(0, .ref (E.1 k0)), (1, .int v1)]) [0, 1] rfl (pX7_add_0 C M rfl hk0 v1 u))
set_option maxRecDepth 20000 in
set_option maxHeartbeats 4000000 in
theorem pX7_sum_4s {Γ : GX} (C : Cx Γ RX7 cX7_sum 1) (M : Mx Γ (some .int)) (L : xn Γ = 3) {k0 : Nat} (hk0 : kd k0 = 10) (u : Mm) {j4 : Int32 → Int32 → Option Int32} (hj4 : ∀ (v1 : Int32) (v2 : Int32), Gp Γ (QM Γ (cvP u)) 4 [(0, .ref ((xE Γ).1 k0)), (1, .int v1), (2, .int v2)] [] u (j4 v1 v2)) (v1 : Int32) (v2 : Int32) : Gp Γ (QM Γ (cvP u)) 4 [(0, .ref ((xE Γ).1 k0)), (1, .int v1), (2, .int v2)] [] u (gX7_sum_4_Ls k0 u j4 v1 v2) := by
  unfold gX7_sum_4_Ls
  refine g_iload_n C dX7_sum_4 rfl 2 rfl ?_
  refine g_aload_n C dX7_sum_5 rfl 0 rfl ?_
  refine g_getI C dX7_sum_6 rfl hk0 fi_7_0 rfl fl_X7_13 ?_
  refine g_icmp_ge 26 C dX7_sum_9 rfl (by decide) (fun c1 => ?_) (fun c1 => ?_)
  · refine g_iload_n C dX7_sum_26 rfl 1 rfl ?_
    exact g_iret C M dX7_sum_27 rfl rfl
  · refine g_iload_n C dX7_sum_12 rfl 1 rfl ?_
    refine g_aload_n C dX7_sum_13 rfl 0 rfl ?_
    refine g_iload_n C dX7_sum_14 rfl 2 rfl ?_
    refine g_callP [.int v2] C dX7_sum_15 rfl (tX7_at (xl Γ) (xE Γ) hk0 v2 u) cf_X7_at hk0 rfl ml_X7_17 rfl (by decide) (Nat.le_of_ble_eq_true rfl) rfl (fun r2 => ?_)
    refine g_iadd C dX7_sum_18 rfl ?_
    refine g_lets (fun v1_3 => ?_)
    refine g_istore_n (ls' := [(1, .int v1_3), (0, .ref ((xE Γ).1 k0)), (2, .int v2)]) C dX7_sum_19 rfl L (by decide) rfl ?_
    refine g_iincL (fun v2_4 => [(2, .int v2_4), (1, .int v1_3), (0, .ref ((xE Γ).1 k0))]) C dX7_sum_20 rfl L (by decide) (k := 2) rfl (iinc_1 _) (fun _ => rfl) (fun v2_4 => ?_)
    refine g_goto 4 C dX7_sum_23 rfl (by decide) ?_
    refine g_sub (ls' := [(0, .ref ((xE Γ).1 k0)), (1, .int v1_3), (2, .int v2_4)]) [2, 1, 0] rfl ?_
    exact hj4 v1_3 v2_4
set_option maxRecDepth 20000 in
set_option maxHeartbeats 4000000 in
theorem pX7_sum_4 {Γ : GX} (C : Cx Γ RX7 cX7_sum 1) (M : Mx Γ (some .int)) (L : xn Γ = 3) {k0 : Nat} (hk0 : kd k0 = 10) (u : Mm) : ∀ (n : Nat) (v1 : Int32) (v2 : Int32), Gp Γ (QM Γ (cvP u)) 4 [(0, .ref ((xE Γ).1 k0)), (1, .int v1), (2, .int v2)] [] u (gX7_sum_4_L k0 u n v1 v2) := by
  intro n
  induction n with
  | zero => intro _ _; exact g_none
  | succ n ih => intro v1 v2; exact pX7_sum_4s C M L hk0 u ih v1 v2

set_option maxRecDepth 20000 in
set_option maxHeartbeats 4000000 in
theorem pX7_sum_0 {Γ : GX} (C : Cx Γ RX7 cX7_sum 1) (M : Mx Γ (some .int)) (L : xn Γ = 3) {k0 : Nat} (hk0 : kd k0 = 10) (u : Mm) : Gp Γ (QM Γ (cvP u)) 0 [(0, .ref ((xE Γ).1 k0))] [] u (gX7_sum_b k0 u) := by
  unfold gX7_sum_b
  refine g_iconst (v := 0) C dX7_sum_0 rfl (by decide) ?_
  refine g_istore_n (ls' := [(1, .int 0), (0, .ref ((xE Γ).1 k0))]) C dX7_sum_1 rfl L (by decide) rfl ?_
  refine g_iconst (v := 0) C dX7_sum_2 rfl (by decide) ?_
  refine g_istore_n (ls' := [(2, .int 0), (1, .int 0), (0, .ref ((xE Γ).1 k0))]) C dX7_sum_3 rfl L (by decide) rfl ?_
  refine g_sub (ls' := [(0, .ref ((xE Γ).1 k0)), (1, .int 0), (2, .int 0)]) [2, 1, 0] rfl ?_
  exact pX7_sum_4 C M L hk0 u FU 0 0
set_option maxRecDepth 20000 in
set_option maxHeartbeats 4000000 in
theorem tX7_sum (l : Launch) (E : EE) {k0 : Nat} (hk0 : kd k0 = 10) (u : Mm) : Ct l E yX7_sum cX7_sum 3 (some .int) 1 [.ref (E.1 k0)] u (cvP u) (gX7_sum k0 u) :=
  Ct_of (own := RX7) (by decide +kernel) rfl (Nat.le_of_ble_eq_true rfl) (fun p e R s m args below meth c C M => g_sub (ls' := [(0, .ref (E.1 k0))]) [0] rfl (pX7_sum_0 C M rfl hk0 u))
set_option maxRecDepth 20000 in
set_option maxHeartbeats 4000000 in
theorem pX7_drop_0 {Γ : GX} (C : Cx Γ RX7 cX7_drop 0) (M : Mx Γ none) (L : xn Γ = 1) {k0 : Nat} (hk0 : kd k0 = 10) (u : Mm) : Gp Γ (QM Γ cvV) 0 [(0, .ref ((xE Γ).1 k0))] [] u (gX7_drop_b k0 u) := by
  unfold gX7_drop_b
  refine g_aload_n C dX7_drop_0 rfl 0 rfl ?_
  refine g_iconst (v := 0) C dX7_drop_1 rfl (by decide) ?_
  refine g_putI C dX7_drop_2 rfl hk0 fp_7_0 rfl fl_X7_13 ?_
  refine g_letm (fun u1 => ?_)
  exact g_vret C M dX7_drop_5 rfl rfl
set_option maxRecDepth 20000 in
set_option maxHeartbeats 4000000 in
theorem tX7_drop (l : Launch) (E : EE) {k0 : Nat} (hk0 : kd k0 = 10) (u : Mm) : Ct l E yX7_drop cX7_drop 1 none 0 [.ref (E.1 k0)] u cvV (gX7_drop k0 u) :=
  Ct_of (own := RX7) (by decide +kernel) rfl (Nat.le_of_ble_eq_true rfl) (fun p e R s m args below meth c C M => g_sub (ls' := [(0, .ref (E.1 k0))]) [0] rfl (pX7_drop_0 C M rfl hk0 u))
set_option maxRecDepth 20000 in
set_option maxHeartbeats 4000000 in
theorem pX8_takeRoads_55 {Γ : GX} (C : Cx Γ RX8 cX8_takeRoads 2) (M : Mx Γ none) (L : xn Γ = 5) {k1 : Nat} (hk1 : kd k1 = 9) (v2 : Int32) (v3 : Int32) (s0 : Int32) (s1 : Int32) {j2 : Int32 → Mm → Option Mm} (hj2 : ∀ (v2 : Int32) (u : Mm), Gp Γ (QM Γ cvV) 2 [(0, .ref ((xE Γ).1 71)), (1, .ref ((xE Γ).1 k1)), (2, .int v2)] [] u (j2 v2 u)) {j10 : Int32 → Mm → Option Mm} (hj10 : ∀ (v3 : Int32) (u : Mm), Gp Γ (QM Γ cvV) 10 [(0, .ref ((xE Γ).1 71)), (1, .ref ((xE Γ).1 k1)), (2, .int v2), (3, .int v3)] [] u (j10 v3 u)) (u : Mm) : Gp Γ (QM Γ cvV) 55 [(0, .ref ((xE Γ).1 71)), (1, .ref ((xE Γ).1 k1)), (2, .int v2), (3, .int v3)] [.int s0, .int s1, .ref ((xE Γ).1 72)] u (gX8_takeRoads_55 k1 j2 j10 v2 v3 s0 s1 u) := by
  unfold gX8_takeRoads_55
  refine g_gd (fun hi2 => ?_)
  refine g_iast C dX8_takeRoads_55 rfl rfl rfl hi2 ?_
  refine g_letm (fun u1 => ?_)
  refine g_iincL (fun v3_3 => [(3, .int v3_3), (0, .ref ((xE Γ).1 71)), (1, .ref ((xE Γ).1 k1)), (2, .int v2)]) C dX8_takeRoads_56 rfl L (by decide) (k := 3) rfl (iinc_1 _) (fun _ => rfl) (fun v3_3 => ?_)
  refine g_goto 10 C dX8_takeRoads_59 rfl (by decide) ?_
  refine g_sub (ls' := [(0, .ref ((xE Γ).1 71)), (1, .ref ((xE Γ).1 k1)), (2, .int v2), (3, .int v3_3)]) [1, 2, 3, 0] rfl ?_
  exact hj10 v3_3 u1
set_option maxRecDepth 20000 in
set_option maxHeartbeats 4000000 in
theorem pX8_takeRoads_10s {Γ : GX} (C : Cx Γ RX8 cX8_takeRoads 2) (M : Mx Γ none) (L : xn Γ = 5) {k1 : Nat} (hk1 : kd k1 = 9) (v2 : Int32) {j2 : Int32 → Mm → Option Mm} (hj2 : ∀ (v2 : Int32) (u : Mm), Gp Γ (QM Γ cvV) 2 [(0, .ref ((xE Γ).1 71)), (1, .ref ((xE Γ).1 k1)), (2, .int v2)] [] u (j2 v2 u)) {j10 : Int32 → Mm → Option Mm} (hj10 : ∀ (v3 : Int32) (u : Mm), Gp Γ (QM Γ cvV) 10 [(0, .ref ((xE Γ).1 71)), (1, .ref ((xE Γ).1 k1)), (2, .int v2), (3, .int v3)] [] u (j10 v3 u)) (v3 : Int32) (u : Mm) : Gp Γ (QM Γ cvV) 10 [(0, .ref ((xE Γ).1 71)), (1, .ref ((xE Γ).1 k1)), (2, .int v2), (3, .int v3)] [] u (gX8_takeRoads_10_Ls k1 j2 v2 j10 v3 u) := by
  unfold gX8_takeRoads_10_Ls
  refine g_iload_n C dX8_takeRoads_10 rfl 3 rfl ?_
  refine g_bipush (v := 8) C dX8_takeRoads_11 rfl (by decide) ?_
  refine g_icmp_ge 62 C dX8_takeRoads_13 rfl (by decide) (fun c1 => ?_) (fun c1 => ?_)
  · refine g_iincL (fun v2_2 => [(2, .int v2_2), (0, .ref ((xE Γ).1 71)), (1, .ref ((xE Γ).1 k1)), (3, .int v3)]) C dX8_takeRoads_62 rfl L (by decide) (k := 2) rfl (iinc_1 _) (fun _ => rfl) (fun v2_2 => ?_)
    refine g_goto 2 C dX8_takeRoads_65 rfl (by decide) ?_
    refine g_sub (ls' := [(0, .ref ((xE Γ).1 71)), (1, .ref ((xE Γ).1 k1)), (2, .int v2_2)]) [1, 2, 0] rfl ?_
    exact hj2 v2_2 u
  · refine g_aload_n C dX8_takeRoads_16 rfl 1 rfl ?_
    refine g_iload_n C dX8_takeRoads_17 rfl 2 rfl ?_
    refine g_iload_n C dX8_takeRoads_18 rfl 3 rfl ?_
    refine g_callP [.int v2, .int v3] C dX8_takeRoads_19 rfl (tX6_between (xl Γ) (xE Γ) hk1 v2 v3 u) cf_X6_between hk1 rfl ml_X8_30 rfl (by decide) (Nat.le_of_ble_eq_true rfl) rfl (fun r3 => ?_)
    refine g_istore (ls' := [(4, .int r3), (0, .ref ((xE Γ).1 71)), (1, .ref ((xE Γ).1 k1)), (2, .int v2), (3, .int v3)]) C dX8_takeRoads_22 rfl L (by decide) rfl ?_
    refine g_aload_n C dX8_takeRoads_24 rfl 1 rfl ?_
    refine g_getR (k2 := 72) C dX8_takeRoads_25 rfl rfl fi_8_0 ⟨by decide, by decide, rfl⟩ fl_X8_9 ?_
    refine g_iload_n C dX8_takeRoads_28 rfl 3 rfl ?_
    refine g_bipush (v := 8) C dX8_takeRoads_29 rfl (by decide) ?_
    refine g_imul C dX8_takeRoads_31 rfl ?_
    refine g_iload_n C dX8_takeRoads_32 rfl 4 rfl ?_
    refine g_iadd C dX8_takeRoads_33 rfl ?_
    refine g_iload_n C dX8_takeRoads_34 rfl 3 rfl ?_
    refine g_iload_n C dX8_takeRoads_35 rfl 4 rfl ?_
    refine g_icmp_ne 43 C dX8_takeRoads_36 rfl (by decide) (fun c4 => ?_) (fun c4 => ?_)
    · refine g_iload C dX8_takeRoads_43 rfl 0 rfl ?_
      refine g_if_le 53 C dX8_takeRoads_45 rfl (by decide) (fun c5 => ?_) (fun c5 => ?_)
      · refine g_ldc (v := 1000000) C dX8_takeRoads_53 rfl (wm_41 0 rfl) ?_
        refine g_sub (ls' := [(0, .ref ((xE Γ).1 71)), (1, .ref ((xE Γ).1 k1)), (2, .int v2), (3, .int v3)]) [1, 2, 3, 4] rfl ?_
        exact pX8_takeRoads_55 C M L hk1 v2 v3 1000000 ((v2 * 8) + v3) hj2 hj10 u
      · refine g_iload C dX8_takeRoads_48 rfl 0 rfl ?_
        refine g_goto 55 C dX8_takeRoads_50 rfl (by decide) ?_
        refine g_sub (ls' := [(0, .ref ((xE Γ).1 71)), (1, .ref ((xE Γ).1 k1)), (2, .int v2), (3, .int v3)]) [1, 2, 3, 4] rfl ?_
        exact pX8_takeRoads_55 C M L hk1 v2 v3 r3 ((v2 * 8) + v3) hj2 hj10 u
    · refine g_iconst (v := 0) C dX8_takeRoads_39 rfl (by decide) ?_
      refine g_goto 55 C dX8_takeRoads_40 rfl (by decide) ?_
      refine g_sub (ls' := [(0, .ref ((xE Γ).1 71)), (1, .ref ((xE Γ).1 k1)), (2, .int v2), (3, .int v3)]) [1, 2, 3, 4] rfl ?_
      exact pX8_takeRoads_55 C M L hk1 v2 v3 0 ((v2 * 8) + v3) hj2 hj10 u
set_option maxRecDepth 20000 in
set_option maxHeartbeats 4000000 in
theorem pX8_takeRoads_10 {Γ : GX} (C : Cx Γ RX8 cX8_takeRoads 2) (M : Mx Γ none) (L : xn Γ = 5) {k1 : Nat} (hk1 : kd k1 = 9) (v2 : Int32) {j2 : Int32 → Mm → Option Mm} (hj2 : ∀ (v2 : Int32) (u : Mm), Gp Γ (QM Γ cvV) 2 [(0, .ref ((xE Γ).1 71)), (1, .ref ((xE Γ).1 k1)), (2, .int v2)] [] u (j2 v2 u)) : ∀ (n : Nat) (v3 : Int32) (u : Mm), Gp Γ (QM Γ cvV) 10 [(0, .ref ((xE Γ).1 71)), (1, .ref ((xE Γ).1 k1)), (2, .int v2), (3, .int v3)] [] u (gX8_takeRoads_10_L k1 j2 v2 n v3 u) := by
  intro n
  induction n with
  | zero => intro _ _; exact g_none
  | succ n ih => intro v3 u; exact pX8_takeRoads_10s C M L hk1 v2 hj2 ih v3 u

set_option maxRecDepth 20000 in
set_option maxHeartbeats 4000000 in
theorem pX8_takeRoads_2s {Γ : GX} (C : Cx Γ RX8 cX8_takeRoads 2) (M : Mx Γ none) (L : xn Γ = 5) {k1 : Nat} (hk1 : kd k1 = 9) {j2 : Int32 → Mm → Option Mm} (hj2 : ∀ (v2 : Int32) (u : Mm), Gp Γ (QM Γ cvV) 2 [(0, .ref ((xE Γ).1 71)), (1, .ref ((xE Γ).1 k1)), (2, .int v2)] [] u (j2 v2 u)) (v2 : Int32) (u : Mm) : Gp Γ (QM Γ cvV) 2 [(0, .ref ((xE Γ).1 71)), (1, .ref ((xE Γ).1 k1)), (2, .int v2)] [] u (gX8_takeRoads_2_Ls k1 j2 v2 u) := by
  unfold gX8_takeRoads_2_Ls
  refine g_iload_n C dX8_takeRoads_2 rfl 2 rfl ?_
  refine g_bipush (v := 8) C dX8_takeRoads_3 rfl (by decide) ?_
  refine g_icmp_ge 68 C dX8_takeRoads_5 rfl (by decide) (fun c1 => ?_) (fun c1 => ?_)
  · exact g_vret C M dX8_takeRoads_68 rfl rfl
  · refine g_iconst (v := 0) C dX8_takeRoads_8 rfl (by decide) ?_
    refine g_istore_n (ls' := [(3, .int 0), (0, .ref ((xE Γ).1 71)), (1, .ref ((xE Γ).1 k1)), (2, .int v2)]) C dX8_takeRoads_9 rfl L (by decide) rfl ?_
    refine g_sub (ls' := [(0, .ref ((xE Γ).1 71)), (1, .ref ((xE Γ).1 k1)), (2, .int v2), (3, .int 0)]) [1, 2, 3, 0] rfl ?_
    exact pX8_takeRoads_10 C M L hk1 v2 hj2 FU 0 u
set_option maxRecDepth 20000 in
set_option maxHeartbeats 4000000 in
theorem pX8_takeRoads_2 {Γ : GX} (C : Cx Γ RX8 cX8_takeRoads 2) (M : Mx Γ none) (L : xn Γ = 5) {k1 : Nat} (hk1 : kd k1 = 9) : ∀ (n : Nat) (v2 : Int32) (u : Mm), Gp Γ (QM Γ cvV) 2 [(0, .ref ((xE Γ).1 71)), (1, .ref ((xE Γ).1 k1)), (2, .int v2)] [] u (gX8_takeRoads_2_L k1 n v2 u) := by
  intro n
  induction n with
  | zero => intro _ _; exact g_none
  | succ n ih => intro v2 u; exact pX8_takeRoads_2s C M L hk1 ih v2 u

set_option maxRecDepth 20000 in
set_option maxHeartbeats 4000000 in
theorem pX8_takeRoads_0 {Γ : GX} (C : Cx Γ RX8 cX8_takeRoads 2) (M : Mx Γ none) (L : xn Γ = 5) {k1 : Nat} (hk1 : kd k1 = 9) (u : Mm) : Gp Γ (QM Γ cvV) 0 [(0, .ref ((xE Γ).1 71)), (1, .ref ((xE Γ).1 k1))] [] u (gX8_takeRoads_b k1 u) := by
  unfold gX8_takeRoads_b
  refine g_iconst (v := 0) C dX8_takeRoads_0 rfl (by decide) ?_
  refine g_istore_n (ls' := [(2, .int 0), (0, .ref ((xE Γ).1 71)), (1, .ref ((xE Γ).1 k1))]) C dX8_takeRoads_1 rfl L (by decide) rfl ?_
  refine g_sub (ls' := [(0, .ref ((xE Γ).1 71)), (1, .ref ((xE Γ).1 k1)), (2, .int 0)]) [1, 2, 0] rfl ?_
  exact pX8_takeRoads_2 C M L hk1 FU 0 u
set_option maxRecDepth 20000 in
set_option maxHeartbeats 4000000 in
theorem tX8_takeRoads (l : Launch) (E : EE) {k1 : Nat} (hk1 : kd k1 = 9) (u : Mm) : Ct l E yX8_takeRoads cX8_takeRoads 5 none 2 [.ref (E.1 71), .ref (E.1 k1)] u cvV (gX8_takeRoads k1 u) :=
  Ct_of (own := RX8) (by decide +kernel) rfl (Nat.le_of_ble_eq_true rfl) (fun p e R s m args below meth c C M => g_sub (ls' := [(0, .ref (E.1 71)), (1, .ref (E.1 k1))]) [0, 1] rfl (pX8_takeRoads_0 C M rfl hk1 u))
