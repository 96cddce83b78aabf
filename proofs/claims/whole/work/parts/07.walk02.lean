set_option maxRecDepth 20000 in
set_option maxHeartbeats 4000000 in
theorem pX8_joinRoads_31s {Γ : GX} (C : Cx Γ RX8 cX8_joinRoads 0) (M : Mx Γ none) (L : xn Γ = 6) (v1 : Int32) (v2 : Int32) (v3 : Int32) {j2 : Int32 → Mm → Option Mm} (hj2 : ∀ (v1 : Int32) (u : Mm), Gp Γ (QM Γ cvV) 2 [(0, .ref ((xE Γ).1 71)), (1, .int v1)] [] u (j2 v1 u)) {j10 : Int32 → Mm → Option Mm} (hj10 : ∀ (v2 : Int32) (u : Mm), Gp Γ (QM Γ cvV) 10 [(0, .ref ((xE Γ).1 71)), (1, .int v1), (2, .int v2)] [] u (j10 v2 u)) {j31 : Int32 → Mm → Option Mm} (hj31 : ∀ (v4 : Int32) (u : Mm), Gp Γ (QM Γ cvV) 31 [(0, .ref ((xE Γ).1 71)), (1, .int v1), (2, .int v2), (3, .int v3), (4, .int v4)] [] u (j31 v4 u)) (v4 : Int32) (u : Mm) : Gp Γ (QM Γ cvV) 31 [(0, .ref ((xE Γ).1 71)), (1, .int v1), (2, .int v2), (3, .int v3), (4, .int v4)] [] u (gX8_joinRoads_31_Ls j2 j10 v1 v2 v3 j31 v4 u) := by
  unfold gX8_joinRoads_31_Ls
  refine g_iload C dX8_joinRoads_31 rfl 4 rfl ?_
  refine g_bipush (v := 8) C dX8_joinRoads_33 rfl (by decide) ?_
  refine g_icmp_ge 97 C dX8_joinRoads_35 rfl (by decide) (fun c1 => ?_) (fun c1 => ?_)
  · refine g_iincL (fun v2_2 => [(2, .int v2_2), (0, .ref ((xE Γ).1 71)), (1, .int v1), (3, .int v3), (4, .int v4)]) C dX8_joinRoads_97 rfl L (by decide) (k := 2) rfl (iinc_1 _) (fun _ => rfl) (fun v2_2 => ?_)
    refine g_goto 10 C dX8_joinRoads_100 rfl (by decide) ?_
    refine g_sub (ls' := [(0, .ref ((xE Γ).1 71)), (1, .int v1), (2, .int v2_2)]) [1, 2, 0] rfl ?_
    exact hj10 v2_2 u
  · refine g_iload_n C dX8_joinRoads_38 rfl 3 rfl ?_
    refine g_ldc (v := 1000000) C dX8_joinRoads_39 rfl (wm_41 0 rfl) ?_
    refine g_icmp_ge 97 C dX8_joinRoads_41 rfl (by decide) (fun c3 => ?_) (fun c3 => ?_)
    · refine g_iincL (fun v2_4 => [(2, .int v2_4), (0, .ref ((xE Γ).1 71)), (1, .int v1), (3, .int v3), (4, .int v4)]) C dX8_joinRoads_97 rfl L (by decide) (k := 2) rfl (iinc_1 _) (fun _ => rfl) (fun v2_4 => ?_)
      refine g_goto 10 C dX8_joinRoads_100 rfl (by decide) ?_
      refine g_sub (ls' := [(0, .ref ((xE Γ).1 71)), (1, .int v1), (2, .int v2_4)]) [1, 2, 0] rfl ?_
      exact hj10 v2_4 u
    · refine g_iload_n C dX8_joinRoads_44 rfl 3 rfl ?_
      refine g_aload_n C dX8_joinRoads_45 rfl 0 rfl ?_
      refine g_getR (k2 := 72) C dX8_joinRoads_46 rfl rfl fi_8_0 ⟨by decide, by decide, rfl⟩ fl_X8_9 ?_
      refine g_iload_n C dX8_joinRoads_49 rfl 1 rfl ?_
      refine g_bipush (v := 8) C dX8_joinRoads_50 rfl (by decide) ?_
      refine g_imul C dX8_joinRoads_52 rfl ?_
      refine g_iload C dX8_joinRoads_53 rfl 4 rfl ?_
      refine g_iadd C dX8_joinRoads_55 rfl ?_
      refine g_gd (fun hi5 => ?_)
      refine g_iald C dX8_joinRoads_56 rfl rfl rfl hi5 ?_
      refine g_iadd C dX8_joinRoads_57 rfl ?_
      refine g_lets (fun v5_6 => ?_)
      refine g_istore (ls' := [(5, .int v5_6), (0, .ref ((xE Γ).1 71)), (1, .int v1), (2, .int v2), (3, .int v3), (4, .int v4)]) C dX8_joinRoads_58 rfl L (by decide) rfl ?_
      refine g_iload C dX8_joinRoads_60 rfl 0 rfl ?_
      refine g_aload_n C dX8_joinRoads_62 rfl 1 rfl ?_
      refine g_getR (k2 := 72) C dX8_joinRoads_63 rfl rfl fi_8_0 ⟨by decide, by decide, rfl⟩ fl_X8_9 ?_
      refine g_iload_n C dX8_joinRoads_66 rfl 3 rfl ?_
      refine g_bipush (v := 8) C dX8_joinRoads_67 rfl (by decide) ?_
      refine g_imul C dX8_joinRoads_69 rfl ?_
      refine g_iload C dX8_joinRoads_70 rfl 5 rfl ?_
      refine g_iadd C dX8_joinRoads_72 rfl ?_
      refine g_gd (fun hi7 => ?_)
      refine g_iald C dX8_joinRoads_73 rfl rfl rfl hi7 ?_
      refine g_icmp_ge 91 C dX8_joinRoads_74 rfl (by decide) (fun c8 => ?_) (fun c8 => ?_)
      · refine g_iincL (fun v4_9 => [(4, .int v4_9), (5, .int v5_6), (0, .ref ((xE Γ).1 71)), (1, .int v1), (2, .int v2), (3, .int v3)]) C dX8_joinRoads_91 rfl L (by decide) (k := 5) rfl (iinc_1 _) (fun _ => rfl) (fun v4_9 => ?_)
        refine g_goto 31 C dX8_joinRoads_94 rfl (by decide) ?_
        refine g_sub (ls' := [(0, .ref ((xE Γ).1 71)), (1, .int v1), (2, .int v2), (3, .int v3), (4, .int v4_9)]) [2, 3, 4, 5, 0] rfl ?_
        exact hj31 v4_9 u
      · refine g_aload_n C dX8_joinRoads_77 rfl 1 rfl ?_
        refine g_getR (k2 := 72) C dX8_joinRoads_78 rfl rfl fi_8_0 ⟨by decide, by decide, rfl⟩ fl_X8_9 ?_
        refine g_iload_n C dX8_joinRoads_81 rfl 3 rfl ?_
        refine g_bipush (v := 8) C dX8_joinRoads_82 rfl (by decide) ?_
        refine g_imul C dX8_joinRoads_84 rfl ?_
        refine g_iload C dX8_joinRoads_85 rfl 5 rfl ?_
        refine g_iadd C dX8_joinRoads_87 rfl ?_
        refine g_iload C dX8_joinRoads_88 rfl 0 rfl ?_
        refine g_gd (fun hi11 => ?_)
        refine g_iast C dX8_joinRoads_90 rfl rfl rfl hi11 ?_
        refine g_letm (fun u10 => ?_)
        refine g_iincL (fun v4_12 => [(4, .int v4_12), (5, .int v5_6), (0, .ref ((xE Γ).1 71)), (1, .int v1), (2, .int v2), (3, .int v3)]) C dX8_joinRoads_91 rfl L (by decide) (k := 5) rfl (iinc_1 _) (fun _ => rfl) (fun v4_12 => ?_)
        refine g_goto 31 C dX8_joinRoads_94 rfl (by decide) ?_
        refine g_sub (ls' := [(0, .ref ((xE Γ).1 71)), (1, .int v1), (2, .int v2), (3, .int v3), (4, .int v4_12)]) [2, 3, 4, 5, 0] rfl ?_
        exact hj31 v4_12 u10
set_option maxRecDepth 20000 in
set_option maxHeartbeats 4000000 in
theorem pX8_joinRoads_31 {Γ : GX} (C : Cx Γ RX8 cX8_joinRoads 0) (M : Mx Γ none) (L : xn Γ = 6) (v1 : Int32) (v2 : Int32) (v3 : Int32) {j2 : Int32 → Mm → Option Mm} (hj2 : ∀ (v1 : Int32) (u : Mm), Gp Γ (QM Γ cvV) 2 [(0, .ref ((xE Γ).1 71)), (1, .int v1)] [] u (j2 v1 u)) {j10 : Int32 → Mm → Option Mm} (hj10 : ∀ (v2 : Int32) (u : Mm), Gp Γ (QM Γ cvV) 10 [(0, .ref ((xE Γ).1 71)), (1, .int v1), (2, .int v2)] [] u (j10 v2 u)) : ∀ (n : Nat) (v4 : Int32) (u : Mm), Gp Γ (QM Γ cvV) 31 [(0, .ref ((xE Γ).1 71)), (1, .int v1), (2, .int v2), (3, .int v3), (4, .int v4)] [] u (gX8_joinRoads_31_L j2 j10 v1 v2 v3 n v4 u) := by
  intro n
  induction n with
  | zero => intro _ _; exact g_none
  | succ n ih => intro v4 u; exact pX8_joinRoads_31s C M L v1 v2 v3 hj2 hj10 ih v4 u

set_option maxRecDepth 20000 in
set_option maxHeartbeats 4000000 in
theorem pX8_joinRoads_10s {Γ : GX} (C : Cx Γ RX8 cX8_joinRoads 0) (M : Mx Γ none) (L : xn Γ = 6) (v1 : Int32) {j2 : Int32 → Mm → Option Mm} (hj2 : ∀ (v1 : Int32) (u : Mm), Gp Γ (QM Γ cvV) 2 [(0, .ref ((xE Γ).1 71)), (1, .int v1)] [] u (j2 v1 u)) {j10 : Int32 → Mm → Option Mm} (hj10 : ∀ (v2 : Int32) (u : Mm), Gp Γ (QM Γ cvV) 10 [(0, .ref ((xE Γ).1 71)), (1, .int v1), (2, .int v2)] [] u (j10 v2 u)) (v2 : Int32) (u : Mm) : Gp Γ (QM Γ cvV) 10 [(0, .ref ((xE Γ).1 71)), (1, .int v1), (2, .int v2)] [] u (gX8_joinRoads_10_Ls j2 v1 j10 v2 u) := by
  unfold gX8_joinRoads_10_Ls
  refine g_iload_n C dX8_joinRoads_10 rfl 2 rfl ?_
  refine g_bipush (v := 8) C dX8_joinRoads_11 rfl (by decide) ?_
  refine g_icmp_ge 103 C dX8_joinRoads_13 rfl (by decide) (fun c1 => ?_) (fun c1 => ?_)
  · refine g_iincL (fun v1_2 => [(1, .int v1_2), (0, .ref ((xE Γ).1 71)), (2, .int v2)]) C dX8_joinRoads_103 rfl L (by decide) (k := 1) rfl (iinc_1 _) (fun _ => rfl) (fun v1_2 => ?_)
    refine g_goto 2 C dX8_joinRoads_106 rfl (by decide) ?_
    refine g_sub (ls' := [(0, .ref ((xE Γ).1 71)), (1, .int v1_2)]) [1, 0] rfl ?_
    exact hj2 v1_2 u
  · refine g_aload_n C dX8_joinRoads_16 rfl 0 rfl ?_
    refine g_getR (k2 := 72) C dX8_joinRoads_17 rfl rfl fi_8_0 ⟨by decide, by decide, rfl⟩ fl_X8_9 ?_
    refine g_iload_n C dX8_joinRoads_20 rfl 2 rfl ?_
    refine g_bipush (v := 8) C dX8_joinRoads_21 rfl (by decide) ?_
    refine g_imul C dX8_joinRoads_23 rfl ?_
    refine g_iload_n C dX8_joinRoads_24 rfl 1 rfl ?_
    refine g_iadd C dX8_joinRoads_25 rfl ?_
    refine g_gd (fun hi3 => ?_)
    refine g_iald C dX8_joinRoads_26 rfl rfl rfl hi3 ?_
    refine g_lets (fun v3_4 => ?_)
    refine g_istore_n (ls' := [(3, .int v3_4), (0, .ref ((xE Γ).1 71)), (1, .int v1), (2, .int v2)]) C dX8_joinRoads_27 rfl L (by decide) rfl ?_
    refine g_iconst (v := 0) C dX8_joinRoads_28 rfl (by decide) ?_
    refine g_istore (ls' := [(4, .int 0), (3, .int v3_4), (0, .ref ((xE Γ).1 71)), (1, .int v1), (2, .int v2)]) C dX8_joinRoads_29 rfl L (by decide) rfl ?_
    refine g_sub (ls' := [(0, .ref ((xE Γ).1 71)), (1, .int v1), (2, .int v2), (3, .int v3_4), (4, .int 0)]) [2, 3, 4, 1, 0] rfl ?_
    exact pX8_joinRoads_31 C M L v1 v2 v3_4 hj2 hj10 FU 0 u
set_option maxRecDepth 20000 in
set_option maxHeartbeats 4000000 in
theorem pX8_joinRoads_10 {Γ : GX} (C : Cx Γ RX8 cX8_joinRoads 0) (M : Mx Γ none) (L : xn Γ = 6) (v1 : Int32) {j2 : Int32 → Mm → Option Mm} (hj2 : ∀ (v1 : Int32) (u : Mm), Gp Γ (QM Γ cvV) 2 [(0, .ref ((xE Γ).1 71)), (1, .int v1)] [] u (j2 v1 u)) : ∀ (n : Nat) (v2 : Int32) (u : Mm), Gp Γ (QM Γ cvV) 10 [(0, .ref ((xE Γ).1 71)), (1, .int v1), (2, .int v2)] [] u (gX8_joinRoads_10_L j2 v1 n v2 u) := by
  intro n
  induction n with
  | zero => intro _ _; exact g_none
  | succ n ih => intro v2 u; exact pX8_joinRoads_10s C M L v1 hj2 ih v2 u

set_option maxRecDepth 20000 in
set_option maxHeartbeats 4000000 in
theorem pX8_joinRoads_2s {Γ : GX} (C : Cx Γ RX8 cX8_joinRoads 0) (M : Mx Γ none) (L : xn Γ = 6) {j2 : Int32 → Mm → Option Mm} (hj2 : ∀ (v1 : Int32) (u : Mm), Gp Γ (QM Γ cvV) 2 [(0, .ref ((xE Γ).1 71)), (1, .int v1)] [] u (j2 v1 u)) (v1 : Int32) (u : Mm) : Gp Γ (QM Γ cvV) 2 [(0, .ref ((xE Γ).1 71)), (1, .int v1)] [] u (gX8_joinRoads_2_Ls j2 v1 u) := by
  unfold gX8_joinRoads_2_Ls
  refine g_iload_n C dX8_joinRoads_2 rfl 1 rfl ?_
  refine g_bipush (v := 8) C dX8_joinRoads_3 rfl (by decide) ?_
  refine g_icmp_ge 109 C dX8_joinRoads_5 rfl (by decide) (fun c1 => ?_) (fun c1 => ?_)
  · exact g_vret C M dX8_joinRoads_109 rfl rfl
  · refine g_iconst (v := 0) C dX8_joinRoads_8 rfl (by decide) ?_
    refine g_istore_n (ls' := [(2, .int 0), (0, .ref ((xE Γ).1 71)), (1, .int v1)]) C dX8_joinRoads_9 rfl L (by decide) rfl ?_
    refine g_sub (ls' := [(0, .ref ((xE Γ).1 71)), (1, .int v1), (2, .int 0)]) [1, 2, 0] rfl ?_
    exact pX8_joinRoads_10 C M L v1 hj2 FU 0 u
set_option maxRecDepth 20000 in
set_option maxHeartbeats 4000000 in
theorem pX8_joinRoads_2 {Γ : GX} (C : Cx Γ RX8 cX8_joinRoads 0) (M : Mx Γ none) (L : xn Γ = 6) : ∀ (n : Nat) (v1 : Int32) (u : Mm), Gp Γ (QM Γ cvV) 2 [(0, .ref ((xE Γ).1 71)), (1, .int v1)] [] u (gX8_joinRoads_2_L n v1 u) := by
  intro n
  induction n with
  | zero => intro _ _; exact g_none
  | succ n ih => intro v1 u; exact pX8_joinRoads_2s C M L ih v1 u

set_option maxRecDepth 20000 in
set_option maxHeartbeats 4000000 in
theorem pX8_joinRoads_0 {Γ : GX} (C : Cx Γ RX8 cX8_joinRoads 0) (M : Mx Γ none) (L : xn Γ = 6) (u : Mm) : Gp Γ (QM Γ cvV) 0 [(0, .ref ((xE Γ).1 71))] [] u (gX8_joinRoads_b u) := by
  unfold gX8_joinRoads_b
  refine g_iconst (v := 0) C dX8_joinRoads_0 rfl (by decide) ?_
  refine g_istore_n (ls' := [(1, .int 0), (0, .ref ((xE Γ).1 71))]) C dX8_joinRoads_1 rfl L (by decide) rfl ?_
  refine g_sub (ls' := [(0, .ref ((xE Γ).1 71)), (1, .int 0)]) [1, 0] rfl ?_
  exact pX8_joinRoads_2 C M L FU 0 u
set_option maxRecDepth 20000 in
set_option maxHeartbeats 4000000 in
theorem tX8_joinRoads (l : Launch) (E : EE) (u : Mm) : Ct l E yX8_joinRoads cX8_joinRoads 6 none 0 [.ref (E.1 71)] u cvV (gX8_joinRoads u) :=
  Ct_of (own := RX8) (by decide +kernel) rfl (Nat.le_of_ble_eq_true rfl) (fun p e R s m args below meth c C M => g_sub (ls' := [(0, .ref (E.1 71))]) [0] rfl (pX8_joinRoads_0 C M rfl u))
set_option maxRecDepth 20000 in
set_option maxHeartbeats 4000000 in
theorem pX8_measure_0 {Γ : GX} (C : Cx Γ RX8 cX8_measure 3) (M : Mx Γ none) (L : xn Γ = 2) {k1 : Nat} (hk1 : kd k1 = 9) (u : Mm) : Gp Γ (QM Γ cvV) 0 [(0, .ref ((xE Γ).1 71)), (1, .ref ((xE Γ).1 k1))] [] u (gX8_measure_b k1 u) := by
  unfold gX8_measure_b
  refine g_aload_n C dX8_measure_0 rfl 0 rfl ?_
  refine g_aload_n C dX8_measure_1 rfl 1 rfl ?_
  refine g_callV [.ref ((xE Γ).1 k1)] C dX8_measure_2 rfl (tX8_takeRoads (xl Γ) (xE Γ) hk1 u) cf_X8_takeRoads rfl rfl ml_X8_18 rfl (by decide) (Nat.le_of_ble_eq_true rfl) rfl (fun u1 => ?_)
  refine g_aload_n C dX8_measure_5 rfl 0 rfl ?_
  refine g_callV [] C dX8_measure_6 rfl (tX8_joinRoads (xl Γ) (xE Γ) u1) cf_X8_joinRoads rfl rfl ml_X8_22 rfl (by decide) (Nat.le_of_ble_eq_true rfl) rfl (fun u2 => ?_)
  exact g_vret C M dX8_measure_9 rfl rfl
set_option maxRecDepth 20000 in
set_option maxHeartbeats 4000000 in
theorem tX8_measure (l : Launch) (E : EE) {k1 : Nat} (hk1 : kd k1 = 9) (u : Mm) : Ct l E yX8_measure cX8_measure 2 none 3 [.ref (E.1 71), .ref (E.1 k1)] u cvV (gX8_measure k1 u) :=
  Ct_of (own := RX8) (by decide +kernel) rfl (Nat.le_of_ble_eq_true rfl) (fun p e R s m args below meth c C M => g_sub (ls' := [(0, .ref (E.1 71)), (1, .ref (E.1 k1))]) [0, 1] rfl (pX8_measure_0 C M rfl hk1 u))
set_option maxRecDepth 20000 in
set_option maxHeartbeats 4000000 in
theorem pX8_measureWithout_39 {Γ : GX} (C : Cx Γ RX8 cX8_measureWithout 3) (M : Mx Γ none) (L : xn Γ = 4) {k1 : Nat} (hk1 : kd k1 = 9) (u : Mm) : Gp Γ (QM Γ cvV) 39 [(0, .ref ((xE Γ).1 71))] [] u (gX8_measureWithout_39 k1 u) := by
  unfold gX8_measureWithout_39
  refine g_aload_n C dX8_measureWithout_39 rfl 0 rfl ?_
  refine g_callV [] C dX8_measureWithout_40 rfl (tX8_joinRoads (xl Γ) (xE Γ) u) cf_X8_joinRoads rfl rfl ml_X8_22 rfl (by decide) (Nat.le_of_ble_eq_true rfl) rfl (fun u1 => ?_)
  exact g_vret C M dX8_measureWithout_43 rfl rfl
set_option maxRecDepth 20000 in
set_option maxHeartbeats 4000000 in
theorem pX8_measureWithout_0 {Γ : GX} (C : Cx Γ RX8 cX8_measureWithout 3) (M : Mx Γ none) (L : xn Γ = 4) {k1 : Nat} (hk1 : kd k1 = 9) (v2 : Int32) (v3 : Int32) (u : Mm) : Gp Γ (QM Γ cvV) 0 [(0, .ref ((xE Γ).1 71)), (1, .ref ((xE Γ).1 k1)), (2, .int v2), (3, .int v3)] [] u (gX8_measureWithout_b k1 v2 v3 u) := by
  unfold gX8_measureWithout_b
  refine g_aload_n C dX8_measureWithout_0 rfl 0 rfl ?_
  refine g_aload_n C dX8_measureWithout_1 rfl 1 rfl ?_
  refine g_callV [.ref ((xE Γ).1 k1)] C dX8_measureWithout_2 rfl (tX8_takeRoads (xl Γ) (xE Γ) hk1 u) cf_X8_takeRoads rfl rfl ml_X8_18 rfl (by decide) (Nat.le_of_ble_eq_true rfl) rfl (fun u1 => ?_)
  refine g_iload_n C dX8_measureWithout_5 rfl 2 rfl ?_
  refine g_iload_n C dX8_measureWithout_6 rfl 3 rfl ?_
  refine g_callnP [.int v2, .int v3] C dX8_measureWithout_7 rfl (tX10_areTwoPlaces (xl Γ) (xE Γ) v2 v3 u1) cf_X10_areTwoPlaces (List.mem_of_getElem? (i := 5) rfl) rfl (by decide) (Nat.le_of_ble_eq_true rfl) rfl (fun r2 => ?_)
  refine g_if_eq 39 C dX8_measureWithout_10 rfl (by decide) (fun c3 => ?_) (fun c3 => ?_)
  · refine g_sub (ls' := [(0, .ref ((xE Γ).1 71))]) [0] rfl ?_
    exact pX8_measureWithout_39 C M L hk1 u1
  · refine g_aload_n C dX8_measureWithout_13 rfl 0 rfl ?_
    refine g_getR (k2 := 72) C dX8_measureWithout_14 rfl rfl fi_8_0 ⟨by decide, by decide, rfl⟩ fl_X8_9 ?_
    refine g_iload_n C dX8_measureWithout_17 rfl 2 rfl ?_
    refine g_bipush (v := 8) C dX8_measureWithout_18 rfl (by decide) ?_
    refine g_imul C dX8_measureWithout_20 rfl ?_
    refine g_iload_n C dX8_measureWithout_21 rfl 3 rfl ?_
    refine g_iadd C dX8_measureWithout_22 rfl ?_
    refine g_ldc (v := 1000000) C dX8_measureWithout_23 rfl (wm_41 0 rfl) ?_
    refine g_gd (fun hi5 => ?_)
    refine g_iast C dX8_measureWithout_25 rfl rfl rfl hi5 ?_
    refine g_letm (fun u4 => ?_)
    refine g_aload_n C dX8_measureWithout_26 rfl 0 rfl ?_
    refine g_getR (k2 := 72) C dX8_measureWithout_27 rfl rfl fi_8_0 ⟨by decide, by decide, rfl⟩ fl_X8_9 ?_
    refine g_iload_n C dX8_measureWithout_30 rfl 3 rfl ?_
    refine g_bipush (v := 8) C dX8_measureWithout_31 rfl (by decide) ?_
    refine g_imul C dX8_measureWithout_33 rfl ?_
    refine g_iload_n C dX8_measureWithout_34 rfl 2 rfl ?_
    refine g_iadd C dX8_measureWithout_35 rfl ?_
    refine g_ldc (v := 1000000) C dX8_measureWithout_36 rfl (wm_41 0 rfl) ?_
    refine g_gd (fun hi7 => ?_)
    refine g_iast C dX8_measureWithout_38 rfl rfl rfl hi7 ?_
    refine g_letm (fun u6 => ?_)
    refine g_sub (ls' := [(0, .ref ((xE Γ).1 71))]) [0] rfl ?_
    exact pX8_measureWithout_39 C M L hk1 u6
set_option maxRecDepth 20000 in
set_option maxHeartbeats 4000000 in
theorem tX8_measureWithout (l : Launch) (E : EE) {k1 : Nat} (hk1 : kd k1 = 9) (v2 : Int32) (v3 : Int32) (u : Mm) : Ct l E yX8_measureWithout cX8_measureWithout 4 none 3 [.ref (E.1 71), .ref (E.1 k1), .int v2, .int v3] u cvV (gX8_measureWithout k1 v2 v3 u) :=
  Ct_of (own := RX8) (by decide +kernel) rfl (Nat.le_of_ble_eq_true rfl) (fun p e R s m args below meth c C M => g_sub (ls' := [(0, .ref (E.1 71)), (1, .ref (E.1 k1)), (2, .int v2), (3, .int v3)]) [0, 1, 2, 3] rfl (pX8_measureWithout_0 C M rfl hk1 v2 v3 u))
set_option maxRecDepth 20000 in
set_option maxHeartbeats 4000000 in
theorem pX8_minutes_0 {Γ : GX} (C : Cx Γ RX8 cX8_minutes 1) (M : Mx Γ (some .int)) (L : xn Γ = 3) (u : Mm) (v1 : Int32) (v2 : Int32) : Gp Γ (QM Γ (cvP u)) 0 [(0, .ref ((xE Γ).1 71)), (1, .int v1), (2, .int v2)] [] u (gX8_minutes_b v1 v2 u) := by
  unfold gX8_minutes_b
  refine g_iload_n C dX8_minutes_0 rfl 1 rfl ?_
  refine g_callnP [.int v1] C dX8_minutes_1 rfl (tX10_isPlace (xl Γ) (xE Γ) v1 u) cf_X10_isPlace (List.mem_of_getElem? (i := 6) rfl) rfl (by decide) (Nat.le_of_ble_eq_true rfl) rfl (fun r1 => ?_)
  refine g_if_eq 28 C dX8_minutes_4 rfl (by decide) (fun c2 => ?_) (fun c2 => ?_)
  · refine g_ldc (v := 1000000) C dX8_minutes_28 rfl (wm_41 0 rfl) ?_
    exact g_iret C M dX8_minutes_30 rfl rfl
  · refine g_iload_n C dX8_minutes_7 rfl 2 rfl ?_
    refine g_callnP [.int v2] C dX8_minutes_8 rfl (tX10_isPlace (xl Γ) (xE Γ) v2 u) cf_X10_isPlace (List.mem_of_getElem? (i := 6) rfl) rfl (by decide) (Nat.le_of_ble_eq_true rfl) rfl (fun r3 => ?_)
    refine g_if_eq 28 C dX8_minutes_11 rfl (by decide) (fun c4 => ?_) (fun c4 => ?_)
    · refine g_ldc (v := 1000000) C dX8_minutes_28 rfl (wm_41 0 rfl) ?_
      exact g_iret C M dX8_minutes_30 rfl rfl
    · refine g_aload_n C dX8_minutes_14 rfl 0 rfl ?_
      refine g_getR (k2 := 72) C dX8_minutes_15 rfl rfl fi_8_0 ⟨by decide, by decide, rfl⟩ fl_X8_9 ?_
      refine g_iload_n C dX8_minutes_18 rfl 1 rfl ?_
      refine g_bipush (v := 8) C dX8_minutes_19 rfl (by decide) ?_
      refine g_imul C dX8_minutes_21 rfl ?_
      refine g_iload_n C dX8_minutes_22 rfl 2 rfl ?_
      refine g_iadd C dX8_minutes_23 rfl ?_
      refine g_gd (fun hi5 => ?_)
      refine g_iald C dX8_minutes_24 rfl rfl rfl hi5 ?_
      refine g_goto 30 C dX8_minutes_25 rfl (by decide) ?_
      exact g_iret C M dX8_minutes_30 rfl rfl
set_option maxRecDepth 20000 in
set_option maxHeartbeats 4000000 in
theorem tX8_minutes (l : Launch) (E : EE) (v1 : Int32) (v2 : Int32) (u : Mm) : Ct l E yX8_minutes cX8_minutes 3 (some .int) 1 [.ref (E.1 71), .int v1, .int v2] u (cvP u) (gX8_minutes v1 v2 u) :=
  Ct_of (own := RX8) (by decide +kernel) rfl (Nat.le_of_ble_eq_true rfl) (fun p e R s m args below meth c C M => g_sub (ls' := [(0, .ref (E.1 71)), (1, .int v1), (2, .int v2)]) [0, 1, 2] rfl (pX8_minutes_0 C M rfl u v1 v2))
set_option maxRecDepth 20000 in
set_option maxHeartbeats 4000000 in
theorem pX8_minutesOrNone_0 {Γ : GX} (C : Cx Γ RX8 cX8_minutesOrNone 2) (M : Mx Γ (some .int)) (L : xn Γ = 4) (u : Mm) (v1 : Int32) (v2 : Int32) : Gp Γ (QM Γ (cvP u)) 0 [(0, .ref ((xE Γ).1 71)), (1, .int v1), (2, .int v2)] [] u (gX8_minutesOrNone_b v1 v2 u) := by
  unfold gX8_minutesOrNone_b
  refine g_aload_n C dX8_minutesOrNone_0 rfl 0 rfl ?_
  refine g_iload_n C dX8_minutesOrNone_1 rfl 1 rfl ?_
  refine g_iload_n C dX8_minutesOrNone_2 rfl 2 rfl ?_
  refine g_callP [.int v1, .int v2] C dX8_minutesOrNone_3 rfl (tX8_minutes (xl Γ) (xE Γ) v1 v2 u) cf_X8_minutes rfl rfl ml_X8_40 rfl (by decide) (Nat.le_of_ble_eq_true rfl) rfl (fun r1 => ?_)
  refine g_istore_n (ls' := [(3, .int r1), (0, .ref ((xE Γ).1 71)), (1, .int v1), (2, .int v2)]) C dX8_minutesOrNone_6 rfl L (by decide) rfl ?_
  refine g_iload_n C dX8_minutesOrNone_7 rfl 0 rfl ?_
  refine g_ldc (v := 1000000) C dX8_minutesOrNone_8 rfl (wm_41 0 rfl) ?_
  refine g_icmp_lt 18 C dX8_minutesOrNone_10 rfl (by decide) (fun c2 => ?_) (fun c2 => ?_)
  · refine g_iload_n C dX8_minutesOrNone_18 rfl 0 rfl ?_
    exact g_iret C M dX8_minutesOrNone_19 rfl rfl
  · refine g_bipush (v := (-9)) C dX8_minutesOrNone_13 rfl (by decide) ?_
    refine g_goto 19 C dX8_minutesOrNone_15 rfl (by decide) ?_
    exact g_iret C M dX8_minutesOrNone_19 rfl rfl
set_option maxRecDepth 20000 in
set_option maxHeartbeats 4000000 in
theorem tX8_minutesOrNone (l : Launch) (E : EE) (v1 : Int32) (v2 : Int32) (u : Mm) : Ct l E yX8_minutesOrNone cX8_minutesOrNone 4 (some .int) 2 [.ref (E.1 71), .int v1, .int v2] u (cvP u) (gX8_minutesOrNone v1 v2 u) :=
  Ct_of (own := RX8) (by decide +kernel) rfl (Nat.le_of_ble_eq_true rfl) (fun p e R s m args below meth c C M => g_sub (ls' := [(0, .ref (E.1 71)), (1, .int v1), (2, .int v2)]) [0, 1, 2] rfl (pX8_minutesOrNone_0 C M rfl u v1 v2))
set_option maxRecDepth 20000 in
set_option maxHeartbeats 4000000 in
theorem pX8_waitFrom_42 {Γ : GX} (C : Cx Γ RX8 cX8_waitFrom 2) (M : Mx Γ (some .int)) (L : xn Γ = 6) {k2 : Nat} (hk2 : kd k2 = 10) (u : Mm) (v1 : Int32) (v4 : Int32) (s0 : Int32) (s1 : Int32) (s2 : Int32) {j5 : Int32 → Int32 → Option Int32} (hj5 : ∀ (v3 : Int32) (v4 : Int32), Gp Γ (QM Γ (cvP u)) 5 [(0, .ref ((xE Γ).1 71)), (1, .int v1), (2, .ref ((xE Γ).1 k2)), (3, .int v3), (4, .int v4)] [] u (j5 v3 v4)) : Gp Γ (QM Γ (cvP u)) 42 [(0, .ref ((xE Γ).1 71)), (1, .int v1), (2, .ref ((xE Γ).1 k2)), (4, .int v4)] [.int s0, .int s1, .int s2] u (gX8_waitFrom_42 k2 j5 v1 v4 s0 s1 s2 u) := by
  unfold gX8_waitFrom_42
  refine g_imul C dX8_waitFrom_42 rfl ?_
  refine g_iadd C dX8_waitFrom_43 rfl ?_
  refine g_lets (fun v3_1 => ?_)
  refine g_istore_n (ls' := [(3, .int v3_1), (0, .ref ((xE Γ).1 71)), (1, .int v1), (2, .ref ((xE Γ).1 k2)), (4, .int v4)]) C dX8_waitFrom_44 rfl L (by decide) rfl ?_
  refine g_iincL (fun v4_2 => [(4, .int v4_2), (3, .int v3_1), (0, .ref ((xE Γ).1 71)), (1, .int v1), (2, .ref ((xE Γ).1 k2))]) C dX8_waitFrom_45 rfl L (by decide) (k := 4) rfl (iinc_1 _) (fun _ => rfl) (fun v4_2 => ?_)
  refine g_goto 5 C dX8_waitFrom_48 rfl (by decide) ?_
  refine g_sub (ls' := [(0, .ref ((xE Γ).1 71)), (1, .int v1), (2, .ref ((xE Γ).1 k2)), (3, .int v3_1), (4, .int v4_2)]) [2, 3, 4, 1, 0] rfl ?_
  exact hj5 v3_1 v4_2
set_option maxRecDepth 20000 in
set_option maxHeartbeats 4000000 in
theorem pX8_waitFrom_5s {Γ : GX} (C : Cx Γ RX8 cX8_waitFrom 2) (M : Mx Γ (some .int)) (L : xn Γ = 6) {k2 : Nat} (hk2 : kd k2 = 10) (u : Mm) (v1 : Int32) {j5 : Int32 → Int32 → Option Int32} (hj5 : ∀ (v3 : Int32) (v4 : Int32), Gp Γ (QM Γ (cvP u)) 5 [(0, .ref ((xE Γ).1 71)), (1, .int v1), (2, .ref ((xE Γ).1 k2)), (3, .int v3), (4, .int v4)] [] u (j5 v3 v4)) (v3 : Int32) (v4 : Int32) : Gp Γ (QM Γ (cvP u)) 5 [(0, .ref ((xE Γ).1 71)), (1, .int v1), (2, .ref ((xE Γ).1 k2)), (3, .int v3), (4, .int v4)] [] u (gX8_waitFrom_5_Ls k2 v1 u j5 v3 v4) := by
  unfold gX8_waitFrom_5_Ls
  refine g_iload C dX8_waitFrom_5 rfl 4 rfl ?_
  refine g_bipush (v := 8) C dX8_waitFrom_7 rfl (by decide) ?_
  refine g_icmp_ge 51 C dX8_waitFrom_9 rfl (by decide) (fun c1 => ?_) (fun c1 => ?_)
  · refine g_iload_n C dX8_waitFrom_51 rfl 3 rfl ?_
    exact g_iret C M dX8_waitFrom_52 rfl rfl
  · refine g_aload_n C dX8_waitFrom_12 rfl 0 rfl ?_
    refine g_iload_n C dX8_waitFrom_13 rfl 1 rfl ?_
    refine g_iload C dX8_waitFrom_14 rfl 4 rfl ?_
    refine g_callP [.int v1, .int v4] C dX8_waitFrom_16 rfl (tX8_minutes (xl Γ) (xE Γ) v1 v4 u) cf_X8_minutes rfl rfl ml_X8_40 rfl (by decide) (Nat.le_of_ble_eq_true rfl) rfl (fun r2 => ?_)
    refine g_istore (ls' := [(5, .int r2), (0, .ref ((xE Γ).1 71)), (1, .int v1), (2, .ref ((xE Γ).1 k2)), (3, .int v3), (4, .int v4)]) C dX8_waitFrom_19 rfl L (by decide) rfl ?_
    refine g_iload_n C dX8_waitFrom_21 rfl 4 rfl ?_
    refine g_aload_n C dX8_waitFrom_22 rfl 3 rfl ?_
    refine g_iload C dX8_waitFrom_23 rfl 5 rfl ?_
    refine g_callP [.int v4] C dX8_waitFrom_25 rfl (tX7_at (xl Γ) (xE Γ) hk2 v4 u) cf_X7_at hk2 rfl ml_X8_43 rfl (by decide) (Nat.le_of_ble_eq_true rfl) rfl (fun r3 => ?_)
    refine g_iload C dX8_waitFrom_28 rfl 0 rfl ?_
    refine g_ldc (v := 1000000) C dX8_waitFrom_30 rfl (wm_41 0 rfl) ?_
    refine g_icmp_lt 40 C dX8_waitFrom_32 rfl (by decide) (fun c4 => ?_) (fun c4 => ?_)
    · refine g_iload C dX8_waitFrom_40 rfl 0 rfl ?_
      refine g_sub (ls' := [(0, .ref ((xE Γ).1 71)), (1, .int v1), (2, .ref ((xE Γ).1 k2)), (4, .int v4)]) [1, 2, 3, 5] rfl ?_
      exact pX8_waitFrom_42 C M L hk2 u v1 v4 r2 r3 v3 hj5
    · refine g_bipush (v := 99) C dX8_waitFrom_35 rfl (by decide) ?_
      refine g_goto 42 C dX8_waitFrom_37 rfl (by decide) ?_
      refine g_sub (ls' := [(0, .ref ((xE Γ).1 71)), (1, .int v1), (2, .ref ((xE Γ).1 k2)), (4, .int v4)]) [1, 2, 3, 5] rfl ?_
      exact pX8_waitFrom_42 C M L hk2 u v1 v4 99 r3 v3 hj5
set_option maxRecDepth 20000 in
set_option maxHeartbeats 4000000 in
theorem pX8_waitFrom_5 {Γ : GX} (C : Cx Γ RX8 cX8_waitFrom 2) (M : Mx Γ (some .int)) (L : xn Γ = 6) {k2 : Nat} (hk2 : kd k2 = 10) (u : Mm) (v1 : Int32) : ∀ (n : Nat) (v3 : Int32) (v4 : Int32), Gp Γ (QM Γ (cvP u)) 5 [(0, .ref ((xE Γ).1 71)), (1, .int v1), (2, .ref ((xE Γ).1 k2)), (3, .int v3), (4, .int v4)] [] u (gX8_waitFrom_5_L k2 v1 u n v3 v4) := by
  intro n
  induction n with
  | zero => intro _ _; exact g_none
  | succ n ih => intro v3 v4; exact pX8_waitFrom_5s C M L hk2 u v1 ih v3 v4

set_option maxRecDepth 20000 in
set_option maxHeartbeats 4000000 in
theorem pX8_waitFrom_0 {Γ : GX} (C : Cx Γ RX8 cX8_waitFrom 2) (M : Mx Γ (some .int)) (L : xn Γ = 6) {k2 : Nat} (hk2 : kd k2 = 10) (u : Mm) (v1 : Int32) : Gp Γ (QM Γ (cvP u)) 0 [(0, .ref ((xE Γ).1 71)), (1, .int v1), (2, .ref ((xE Γ).1 k2))] [] u (gX8_waitFrom_b k2 v1 u) := by
  unfold gX8_waitFrom_b
  refine g_iconst (v := 0) C dX8_waitFrom_0 rfl (by decide) ?_
  refine g_istore_n (ls' := [(3, .int 0), (0, .ref ((xE Γ).1 71)), (1, .int v1), (2, .ref ((xE Γ).1 k2))]) C dX8_waitFrom_1 rfl L (by decide) rfl ?_
  refine g_iconst (v := 0) C dX8_waitFrom_2 rfl (by decide) ?_
  refine g_istore (ls' := [(4, .int 0), (3, .int 0), (0, .ref ((xE Γ).1 71)), (1, .int v1), (2, .ref ((xE Γ).1 k2))]) C dX8_waitFrom_3 rfl L (by decide) rfl ?_
  refine g_sub (ls' := [(0, .ref ((xE Γ).1 71)), (1, .int v1), (2, .ref ((xE Γ).1 k2)), (3, .int 0), (4, .int 0)]) [2, 3, 4, 1, 0] rfl ?_
  exact pX8_waitFrom_5 C M L hk2 u v1 FU 0 0
set_option maxRecDepth 20000 in
set_option maxHeartbeats 4000000 in
theorem tX8_waitFrom (l : Launch) (E : EE) (v1 : Int32) {k2 : Nat} (hk2 : kd k2 = 10) (u : Mm) : Ct l E yX8_waitFrom cX8_waitFrom 6 (some .int) 2 [.ref (E.1 71), .int v1, .ref (E.1 k2)] u (cvP u) (gX8_waitFrom v1 k2 u) :=
  Ct_of (own := RX8) (by decide +kernel) rfl (Nat.le_of_ble_eq_true rfl) (fun p e R s m args below meth c C M => g_sub (ls' := [(0, .ref (E.1 71)), (1, .int v1), (2, .ref (E.1 k2))]) [0, 1, 2] rfl (pX8_waitFrom_0 C M rfl hk2 u v1))
set_option maxRecDepth 20000 in
set_option maxHeartbeats 4000000 in
theorem pX8_placeToWait_12s {Γ : GX} (C : Cx Γ RX8 cX8_placeToWait 3) (M : Mx Γ (some .int)) (L : xn Γ = 6) {k1 : Nat} (hk1 : kd k1 = 10) (u : Mm) {j12 : Int32 → Int32 → Int32 → Option Int32} (hj12 : ∀ (v2 : Int32) (v3 : Int32) (v4 : Int32), Gp Γ (QM Γ (cvP u)) 12 [(0, .ref ((xE Γ).1 71)), (1, .ref ((xE Γ).1 k1)), (2, .int v2), (3, .int v3), (4, .int v4)] [] u (j12 v2 v3 v4)) (v2 : Int32) (v3 : Int32) (v4 : Int32) : Gp Γ (QM Γ (cvP u)) 12 [(0, .ref ((xE Γ).1 71)), (1, .ref ((xE Γ).1 k1)), (2, .int v2), (3, .int v3), (4, .int v4)] [] u (gX8_placeToWait_12_Ls k1 u j12 v2 v3 v4) := by
  unfold gX8_placeToWait_12_Ls
  refine g_iload C dX8_placeToWait_12 rfl 4 rfl ?_
  refine g_bipush (v := 8) C dX8_placeToWait_14 rfl (by decide) ?_
  refine g_icmp_ge 46 C dX8_placeToWait_16 rfl (by decide) (fun c1 => ?_) (fun c1 => ?_)
  · refine g_iload_n C dX8_placeToWait_46 rfl 2 rfl ?_
    exact g_iret C M dX8_placeToWait_47 rfl rfl
  · refine g_aload_n C dX8_placeToWait_19 rfl 0 rfl ?_
    refine g_iload C dX8_placeToWait_20 rfl 4 rfl ?_
    refine g_aload_n C dX8_placeToWait_22 rfl 1 rfl ?_
    refine g_callP [.int v4, .ref ((xE Γ).1 k1)] C dX8_placeToWait_23 rfl (tX8_waitFrom (xl Γ) (xE Γ) v4 hk1 u) cf_X8_waitFrom rfl rfl ml_X8_49 rfl (by decide) (Nat.le_of_ble_eq_true rfl) rfl (fun r2 => ?_)
    refine g_istore (ls' := [(5, .int r2), (0, .ref ((xE Γ).1 71)), (1, .ref ((xE Γ).1 k1)), (2, .int v2), (3, .int v3), (4, .int v4)]) C dX8_placeToWait_26 rfl L (by decide) rfl ?_
    refine g_iload C dX8_placeToWait_28 rfl 0 rfl ?_
    refine g_iload_n C dX8_placeToWait_30 rfl 4 rfl ?_
    refine g_icmp_ge 40 C dX8_placeToWait_31 rfl (by decide) (fun c3 => ?_) (fun c3 => ?_)
    · refine g_iincL (fun v4_4 => [(4, .int v4_4), (5, .int r2), (0, .ref ((xE Γ).1 71)), (1, .ref ((xE Γ).1 k1)), (2, .int v2), (3, .int v3)]) C dX8_placeToWait_40 rfl L (by decide) (k := 5) rfl (iinc_1 _) (fun _ => rfl) (fun v4_4 => ?_)
      refine g_goto 12 C dX8_placeToWait_43 rfl (by decide) ?_
      refine g_sub (ls' := [(0, .ref ((xE Γ).1 71)), (1, .ref ((xE Γ).1 k1)), (2, .int v2), (3, .int v3), (4, .int v4_4)]) [2, 3, 4, 5, 0] rfl ?_
      exact hj12 v2 v3 v4_4
    · refine g_iload C dX8_placeToWait_34 rfl 5 rfl ?_
      refine g_istore_n (ls' := [(2, .int v4), (5, .int r2), (0, .ref ((xE Γ).1 71)), (1, .ref ((xE Γ).1 k1)), (3, .int v3), (4, .int v4)]) C dX8_placeToWait_36 rfl L (by decide) rfl ?_
      refine g_iload C dX8_placeToWait_37 rfl 1 rfl ?_
      refine g_istore_n (ls' := [(3, .int r2), (2, .int v4), (5, .int r2), (0, .ref ((xE Γ).1 71)), (1, .ref ((xE Γ).1 k1)), (4, .int v4)]) C dX8_placeToWait_39 rfl L (by decide) rfl ?_
      refine g_iincL (fun v4_5 => [(4, .int v4_5), (3, .int r2), (2, .int v4), (5, .int r2), (0, .ref ((xE Γ).1 71)), (1, .ref ((xE Γ).1 k1))]) C dX8_placeToWait_40 rfl L (by decide) (k := 5) rfl (iinc_1 _) (fun _ => rfl) (fun v4_5 => ?_)
      refine g_goto 12 C dX8_placeToWait_43 rfl (by decide) ?_
      refine g_sub (ls' := [(0, .ref ((xE Γ).1 71)), (1, .ref ((xE Γ).1 k1)), (2, .int v4), (3, .int r2), (4, .int v4_5)]) [4, 5, 2, 1, 0] rfl ?_
      exact hj12 v4 r2 v4_5
set_option maxRecDepth 20000 in
set_option maxHeartbeats 4000000 in
theorem pX8_placeToWait_12 {Γ : GX} (C : Cx Γ RX8 cX8_placeToWait 3) (M : Mx Γ (some .int)) (L : xn Γ = 6) {k1 : Nat} (hk1 : kd k1 = 10) (u : Mm) : ∀ (n : Nat) (v2 : Int32) (v3 : Int32) (v4 : Int32), Gp Γ (QM Γ (cvP u)) 12 [(0, .ref ((xE Γ).1 71)), (1, .ref ((xE Γ).1 k1)), (2, .int v2), (3, .int v3), (4, .int v4)] [] u (gX8_placeToWait_12_L k1 u n v2 v3 v4) := by
  intro n
  induction n with
  | zero => intro _ _ _; exact g_none
  | succ n ih => intro v2 v3 v4; exact pX8_placeToWait_12s C M L hk1 u ih v2 v3 v4

set_option maxRecDepth 20000 in
set_option maxHeartbeats 4000000 in
theorem pX8_placeToWait_0 {Γ : GX} (C : Cx Γ RX8 cX8_placeToWait 3) (M : Mx Γ (some .int)) (L : xn Γ = 6) {k1 : Nat} (hk1 : kd k1 = 10) (u : Mm) : Gp Γ (QM Γ (cvP u)) 0 [(0, .ref ((xE Γ).1 71)), (1, .ref ((xE Γ).1 k1))] [] u (gX8_placeToWait_b k1 u) := by
  unfold gX8_placeToWait_b
  refine g_iconst (v := 0) C dX8_placeToWait_0 rfl (by decide) ?_
  refine g_istore_n (ls' := [(2, .int 0), (0, .ref ((xE Γ).1 71)), (1, .ref ((xE Γ).1 k1))]) C dX8_placeToWait_1 rfl L (by decide) rfl ?_
  refine g_aload_n C dX8_placeToWait_2 rfl 1 rfl ?_
  refine g_iconst (v := 0) C dX8_placeToWait_3 rfl (by decide) ?_
  refine g_aload_n C dX8_placeToWait_4 rfl 2 rfl ?_
  refine g_callP [.int 0, .ref ((xE Γ).1 k1)] C dX8_placeToWait_5 rfl (tX8_waitFrom (xl Γ) (xE Γ) 0 hk1 u) cf_X8_waitFrom rfl rfl ml_X8_49 rfl (by decide) (Nat.le_of_ble_eq_true rfl) rfl (fun r1 => ?_)
  refine g_istore_n (ls' := [(3, .int r1), (2, .int 0), (0, .ref ((xE Γ).1 71)), (1, .ref ((xE Γ).1 k1))]) C dX8_placeToWait_8 rfl L (by decide) rfl ?_
  refine g_iconst (v := 1) C dX8_placeToWait_9 rfl (by decide) ?_
  refine g_istore (ls' := [(4, .int 1), (3, .int r1), (2, .int 0), (0, .ref ((xE Γ).1 71)), (1, .ref ((xE Γ).1 k1))]) C dX8_placeToWait_10 rfl L (by decide) rfl ?_
  refine g_sub (ls' := [(0, .ref ((xE Γ).1 71)), (1, .ref ((xE Γ).1 k1)), (2, .int 0), (3, .int r1), (4, .int 1)]) [3, 4, 2, 1, 0] rfl ?_
  exact pX8_placeToWait_12 C M L hk1 u FU 0 r1 1
set_option maxRecDepth 20000 in
set_option maxHeartbeats 4000000 in
theorem tX8_placeToWait (l : Launch) (E : EE) {k1 : Nat} (hk1 : kd k1 = 10) (u : Mm) : Ct l E yX8_placeToWait cX8_placeToWait 6 (some .int) 3 [.ref (E.1 71), .ref (E.1 k1)] u (cvP u) (gX8_placeToWait k1 u) :=
  Ct_of (own := RX8) (by decide +kernel) rfl (Nat.le_of_ble_eq_true rfl) (fun p e R s m args below meth c C M => g_sub (ls' := [(0, .ref (E.1 71)), (1, .ref (E.1 k1))]) [0, 1] rfl (pX8_placeToWait_0 C M rfl hk1 u))
set_option maxRecDepth 20000 in
set_option maxHeartbeats 4000000 in
theorem pX8_restOf_0 {Γ : GX} (C : Cx Γ RX8 cX8_restOf 1) (M : Mx Γ (some .int)) (L : xn Γ = 3) (u : Mm) (v1 : Int32) (v2 : Int32) : Gp Γ (QM Γ (cvP u)) 0 [(0, .ref ((xE Γ).1 71)), (1, .int v1), (2, .int v2)] [] u (gX8_restOf_b v1 v2 u) := by
  unfold gX8_restOf_b
  refine g_iload_n C dX8_restOf_0 rfl 1 rfl ?_
  refine g_if_lt 32 C dX8_restOf_1 rfl (by decide) (fun c1 => ?_) (fun c1 => ?_)
  · refine g_ldc (v := 1000000) C dX8_restOf_32 rfl (wm_41 0 rfl) ?_
    exact g_iret C M dX8_restOf_34 rfl rfl
  · refine g_iload_n C dX8_restOf_4 rfl 1 rfl ?_
    refine g_sipush (v := 256) C dX8_restOf_5 rfl (by decide) ?_
    refine g_icmp_ge 32 C dX8_restOf_8 rfl (by decide) (fun c2 => ?_) (fun c2 => ?_)
    · refine g_ldc (v := 1000000) C dX8_restOf_32 rfl (wm_41 0 rfl) ?_
      exact g_iret C M dX8_restOf_34 rfl rfl
    · refine g_iload_n C dX8_restOf_11 rfl 2 rfl ?_
      refine g_callnP [.int v2] C dX8_restOf_12 rfl (tX10_isPlace (xl Γ) (xE Γ) v2 u) cf_X10_isPlace (List.mem_of_getElem? (i := 6) rfl) rfl (by decide) (Nat.le_of_ble_eq_true rfl) rfl (fun r3 => ?_)
      refine g_if_eq 32 C dX8_restOf_15 rfl (by decide) (fun c4 => ?_) (fun c4 => ?_)
      · refine g_ldc (v := 1000000) C dX8_restOf_32 rfl (wm_41 0 rfl) ?_
        exact g_iret C M dX8_restOf_34 rfl rfl
      · refine g_aload_n C dX8_restOf_18 rfl 0 rfl ?_
        refine g_getR (k2 := 73) C dX8_restOf_19 rfl rfl fi_8_1 ⟨by decide, by decide, rfl⟩ fl_X8_15 ?_
        refine g_iload_n C dX8_restOf_22 rfl 1 rfl ?_
        refine g_bipush (v := 8) C dX8_restOf_23 rfl (by decide) ?_
        refine g_imul C dX8_restOf_25 rfl ?_
        refine g_iload_n C dX8_restOf_26 rfl 2 rfl ?_
        refine g_iadd C dX8_restOf_27 rfl ?_
        refine g_gd (fun hi5 => ?_)
        refine g_iald C dX8_restOf_28 rfl rfl rfl hi5 ?_
        refine g_goto 34 C dX8_restOf_29 rfl (by decide) ?_
        exact g_iret C M dX8_restOf_34 rfl rfl
set_option maxRecDepth 20000 in
set_option maxHeartbeats 4000000 in
theorem tX8_restOf (l : Launch) (E : EE) (v1 : Int32) (v2 : Int32) (u : Mm) : Ct l E yX8_restOf cX8_restOf 3 (some .int) 1 [.ref (E.1 71), .int v1, .int v2] u (cvP u) (gX8_restOf v1 v2 u) :=
  Ct_of (own := RX8) (by decide +kernel) rfl (Nat.le_of_ble_eq_true rfl) (fun p e R s m args below meth c C M => g_sub (ls' := [(0, .ref (E.1 71)), (1, .int v1), (2, .int v2)]) [0, 1, 2] rfl (pX8_restOf_0 C M rfl u v1 v2))
set_option maxRecDepth 20000 in
set_option maxHeartbeats 4000000 in
theorem pX8_throughFirst_0 {Γ : GX} (C : Cx Γ RX8 cX8_throughFirst 2) (M : Mx Γ (some .int)) (L : xn Γ = 4) (u : Mm) (v1 : Int32) (v2 : Int32) (v3 : Int32) : Gp Γ (QM Γ (cvP u)) 0 [(0, .ref ((xE Γ).1 71)), (1, .int v1), (2, .int v2), (3, .int v3)] [] u (gX8_throughFirst_b v1 v2 v3 u) := by
  unfold gX8_throughFirst_b
  refine g_aload_n C dX8_throughFirst_0 rfl 0 rfl ?_
  refine g_iload_n C dX8_throughFirst_1 rfl 1 rfl ?_
  refine g_iload_n C dX8_throughFirst_2 rfl 2 rfl ?_
  refine g_callP [.int v1, .int v2] C dX8_throughFirst_3 rfl (tX8_minutes (xl Γ) (xE Γ) v1 v2 u) cf_X8_minutes rfl rfl ml_X8_40 rfl (by decide) (Nat.le_of_ble_eq_true rfl) rfl (fun r1 => ?_)
  refine g_aload_n C dX8_throughFirst_6 rfl 0 rfl ?_
  refine g_iload_n C dX8_throughFirst_7 rfl 3 rfl ?_
  refine g_iconst (v := 1) C dX8_throughFirst_8 rfl (by decide) ?_
  refine g_iload_n C dX8_throughFirst_9 rfl 2 rfl ?_
  refine g_ishl C dX8_throughFirst_10 rfl ?_
  refine g_iconst (v := (-1)) C dX8_throughFirst_11 rfl (by decide) ?_
  refine g_ixor C dX8_throughFirst_12 rfl ?_
  refine g_iand C dX8_throughFirst_13 rfl ?_
  refine g_iload_n C dX8_throughFirst_14 rfl 2 rfl ?_
  refine g_callP [.int (v3 &&& ((shl 1 v2) ^^^ (-1))), .int v2] C dX8_throughFirst_15 rfl (tX8_restOf (xl Γ) (xE Γ) (v3 &&& ((shl 1 v2) ^^^ (-1))) v2 u) cf_X8_restOf rfl rfl ml_X8_65 rfl (by decide) (Nat.le_of_ble_eq_true rfl) rfl (fun r2 => ?_)
  refine g_iadd C dX8_throughFirst_18 rfl ?_
  exact g_iret C M dX8_throughFirst_19 rfl rfl
set_option maxRecDepth 20000 in
set_option maxHeartbeats 4000000 in
theorem tX8_throughFirst (l : Launch) (E : EE) (v1 : Int32) (v2 : Int32) (v3 : Int32) (u : Mm) : Ct l E yX8_throughFirst cX8_throughFirst 4 (some .int) 2 [.ref (E.1 71), .int v1, .int v2, .int v3] u (cvP u) (gX8_throughFirst v1 v2 v3 u) :=
  Ct_of (own := RX8) (by decide +kernel) rfl (Nat.le_of_ble_eq_true rfl) (fun p e R s m args below meth c C M => g_sub (ls' := [(0, .ref (E.1 71)), (1, .int v1), (2, .int v2), (3, .int v3)]) [0, 1, 2, 3] rfl (pX8_throughFirst_0 C M rfl u v1 v2 v3))
set_option maxRecDepth 20000 in
set_option maxHeartbeats 4000000 in
theorem pX8_fewestFrom_6s {Γ : GX} (C : Cx Γ RX8 cX8_fewestFrom 3) (M : Mx Γ (some .int)) (L : xn Γ = 5) (u : Mm) (v1 : Int32) (v2 : Int32) {j6 : Int32 → Int32 → Option Int32} (hj6 : ∀ (v3 : Int32) (v4 : Int32), Gp Γ (QM Γ (cvP u)) 6 [(0, .ref ((xE Γ).1 71)), (1, .int v1), (2, .int v2), (3, .int v3), (4, .int v4)] [] u (j6 v3 v4)) (v3 : Int32) (v4 : Int32) : Gp Γ (QM Γ (cvP u)) 6 [(0, .ref ((xE Γ).1 71)), (1, .int v1), (2, .int v2), (3, .int v3), (4, .int v4)] [] u (gX8_fewestFrom_6_Ls v1 v2 u j6 v3 v4) := by
  unfold gX8_fewestFrom_6_Ls
  refine g_iload C dX8_fewestFrom_6 rfl 4 rfl ?_
  refine g_bipush (v := 8) C dX8_fewestFrom_8 rfl (by decide) ?_
  refine g_icmp_ge 42 C dX8_fewestFrom_10 rfl (by decide) (fun c1 => ?_) (fun c1 => ?_)
  · refine g_iload_n C dX8_fewestFrom_42 rfl 3 rfl ?_
    exact g_iret C M dX8_fewestFrom_43 rfl rfl
  · refine g_iload_n C dX8_fewestFrom_13 rfl 2 rfl ?_
    refine g_iload C dX8_fewestFrom_14 rfl 4 rfl ?_
    refine g_ishr C dX8_fewestFrom_16 rfl ?_
    refine g_iconst (v := 1) C dX8_fewestFrom_17 rfl (by decide) ?_
    refine g_iand C dX8_fewestFrom_18 rfl ?_
    refine g_iconst (v := 1) C dX8_fewestFrom_19 rfl (by decide) ?_
    refine g_icmp_ne 36 C dX8_fewestFrom_20 rfl (by decide) (fun c2 => ?_) (fun c2 => ?_)
    · refine g_iincL (fun v4_3 => [(4, .int v4_3), (0, .ref ((xE Γ).1 71)), (1, .int v1), (2, .int v2), (3, .int v3)]) C dX8_fewestFrom_36 rfl L (by decide) (k := 4) rfl (iinc_1 _) (fun _ => rfl) (fun v4_3 => ?_)
      refine g_goto 6 C dX8_fewestFrom_39 rfl (by decide) ?_
      refine g_sub (ls' := [(0, .ref ((xE Γ).1 71)), (1, .int v1), (2, .int v2), (3, .int v3), (4, .int v4_3)]) [1, 2, 3, 4, 0] rfl ?_
      exact hj6 v3 v4_3
    · refine g_iload_n C dX8_fewestFrom_23 rfl 3 rfl ?_
      refine g_aload_n C dX8_fewestFrom_24 rfl 0 rfl ?_
      refine g_iload_n C dX8_fewestFrom_25 rfl 1 rfl ?_
      refine g_iload C dX8_fewestFrom_26 rfl 4 rfl ?_
      refine g_iload_n C dX8_fewestFrom_28 rfl 2 rfl ?_
      refine g_callP [.int v1, .int v4, .int v2] C dX8_fewestFrom_29 rfl (tX8_throughFirst (xl Γ) (xE Γ) v1 v4 v2 u) cf_X8_throughFirst rfl rfl ml_X8_56 rfl (by decide) (Nat.le_of_ble_eq_true rfl) rfl (fun r4 => ?_)
      refine g_min C dX8_fewestFrom_32 rfl ⟨ml_X8_60, ms_min, mc_min⟩ (by decide) (Nat.le_of_ble_eq_true rfl) ?_
      refine g_lets (fun v3_5 => ?_)
      refine g_istore_n (ls' := [(3, .int v3_5), (0, .ref ((xE Γ).1 71)), (1, .int v1), (2, .int v2), (4, .int v4)]) C dX8_fewestFrom_35 rfl L (by decide) rfl ?_
      refine g_iincL (fun v4_6 => [(4, .int v4_6), (3, .int v3_5), (0, .ref ((xE Γ).1 71)), (1, .int v1), (2, .int v2)]) C dX8_fewestFrom_36 rfl L (by decide) (k := 4) rfl (iinc_1 _) (fun _ => rfl) (fun v4_6 => ?_)
      refine g_goto 6 C dX8_fewestFrom_39 rfl (by decide) ?_
      refine g_sub (ls' := [(0, .ref ((xE Γ).1 71)), (1, .int v1), (2, .int v2), (3, .int v3_5), (4, .int v4_6)]) [2, 3, 4, 1, 0] rfl ?_
      exact hj6 v3_5 v4_6
set_option maxRecDepth 20000 in
set_option maxHeartbeats 4000000 in
theorem pX8_fewestFrom_6 {Γ : GX} (C : Cx Γ RX8 cX8_fewestFrom 3) (M : Mx Γ (some .int)) (L : xn Γ = 5) (u : Mm) (v1 : Int32) (v2 : Int32) : ∀ (n : Nat) (v3 : Int32) (v4 : Int32), Gp Γ (QM Γ (cvP u)) 6 [(0, .ref ((xE Γ).1 71)), (1, .int v1), (2, .int v2), (3, .int v3), (4, .int v4)] [] u (gX8_fewestFrom_6_L v1 v2 u n v3 v4) := by
  intro n
  induction n with
  | zero => intro _ _; exact g_none
  | succ n ih => intro v3 v4; exact pX8_fewestFrom_6s C M L u v1 v2 ih v3 v4

set_option maxRecDepth 20000 in
set_option maxHeartbeats 4000000 in
theorem pX8_fewestFrom_0 {Γ : GX} (C : Cx Γ RX8 cX8_fewestFrom 3) (M : Mx Γ (some .int)) (L : xn Γ = 5) (u : Mm) (v1 : Int32) (v2 : Int32) : Gp Γ (QM Γ (cvP u)) 0 [(0, .ref ((xE Γ).1 71)), (1, .int v1), (2, .int v2)] [] u (gX8_fewestFrom_b v1 v2 u) := by
  unfold gX8_fewestFrom_b
  refine g_ldc (v := 1000000) C dX8_fewestFrom_0 rfl (wm_41 0 rfl) ?_
  refine g_istore_n (ls' := [(3, .int 1000000), (0, .ref ((xE Γ).1 71)), (1, .int v1), (2, .int v2)]) C dX8_fewestFrom_2 rfl L (by decide) rfl ?_
  refine g_iconst (v := 0) C dX8_fewestFrom_3 rfl (by decide) ?_
  refine g_istore (ls' := [(4, .int 0), (3, .int 1000000), (0, .ref ((xE Γ).1 71)), (1, .int v1), (2, .int v2)]) C dX8_fewestFrom_4 rfl L (by decide) rfl ?_
  refine g_sub (ls' := [(0, .ref ((xE Γ).1 71)), (1, .int v1), (2, .int v2), (3, .int 1000000), (4, .int 0)]) [2, 3, 4, 1, 0] rfl ?_
  exact pX8_fewestFrom_6 C M L u v1 v2 FU 1000000 0
set_option maxRecDepth 20000 in
set_option maxHeartbeats 4000000 in
theorem tX8_fewestFrom (l : Launch) (E : EE) (v1 : Int32) (v2 : Int32) (u : Mm) : Ct l E yX8_fewestFrom cX8_fewestFrom 5 (some .int) 3 [.ref (E.1 71), .int v1, .int v2] u (cvP u) (gX8_fewestFrom v1 v2 u) :=
  Ct_of (own := RX8) (by decide +kernel) rfl (Nat.le_of_ble_eq_true rfl) (fun p e R s m args below meth c C M => g_sub (ls' := [(0, .ref (E.1 71)), (1, .int v1), (2, .int v2)]) [0, 1, 2] rfl (pX8_fewestFrom_0 C M rfl u v1 v2))
set_option maxRecDepth 20000 in
set_option maxHeartbeats 4000000 in
theorem pX8_seekTours_49 {Γ : GX} (C : Cx Γ RX8 cX8_seekTours 4) (M : Mx Γ none) (L : xn Γ = 4) (v1 : Int32) (v2 : Int32) (v3 : Int32) (s0 : Int32) (s1 : Int32) {j2 : Int32 → Mm → Option Mm} (hj2 : ∀ (v2 : Int32) (u : Mm), Gp Γ (QM Γ cvV) 2 [(0, .ref ((xE Γ).1 71)), (1, .int v1), (2, .int v2)] [] u (j2 v2 u)) {j11 : Int32 → Mm → Option Mm} (hj11 : ∀ (v3 : Int32) (u : Mm), Gp Γ (QM Γ cvV) 11 [(0, .ref ((xE Γ).1 71)), (1, .int v1), (2, .int v2), (3, .int v3)] [] u (j11 v3 u)) (u : Mm) : Gp Γ (QM Γ cvV) 49 [(0, .ref ((xE Γ).1 71)), (1, .int v1), (2, .int v2), (3, .int v3)] [.int s0, .int s1, .ref ((xE Γ).1 73)] u (gX8_seekTours_49 j2 j11 v1 v2 v3 s0 s1 u) := by
  unfold gX8_seekTours_49
  refine g_gd (fun hi2 => ?_)
  refine g_iast C dX8_seekTours_49 rfl rfl rfl hi2 ?_
  refine g_letm (fun u1 => ?_)
  refine g_iincL (fun v3_3 => [(3, .int v3_3), (0, .ref ((xE Γ).1 71)), (1, .int v1), (2, .int v2)]) C dX8_seekTours_50 rfl L (by decide) (k := 3) rfl (iinc_1 _) (fun _ => rfl) (fun v3_3 => ?_)
  refine g_goto 11 C dX8_seekTours_53 rfl (by decide) ?_
  refine g_sub (ls' := [(0, .ref ((xE Γ).1 71)), (1, .int v1), (2, .int v2), (3, .int v3_3)]) [1, 2, 3, 0] rfl ?_
  exact hj11 v3_3 u1
set_option maxRecDepth 20000 in
set_option maxHeartbeats 4000000 in
theorem pX8_seekTours_11s {Γ : GX} (C : Cx Γ RX8 cX8_seekTours 4) (M : Mx Γ none) (L : xn Γ = 4) (v1 : Int32) (v2 : Int32) {j2 : Int32 → Mm → Option Mm} (hj2 : ∀ (v2 : Int32) (u : Mm), Gp Γ (QM Γ cvV) 2 [(0, .ref ((xE Γ).1 71)), (1, .int v1), (2, .int v2)] [] u (j2 v2 u)) {j11 : Int32 → Mm → Option Mm} (hj11 : ∀ (v3 : Int32) (u : Mm), Gp Γ (QM Γ cvV) 11 [(0, .ref ((xE Γ).1 71)), (1, .int v1), (2, .int v2), (3, .int v3)] [] u (j11 v3 u)) (v3 : Int32) (u : Mm) : Gp Γ (QM Γ cvV) 11 [(0, .ref ((xE Γ).1 71)), (1, .int v1), (2, .int v2), (3, .int v3)] [] u (gX8_seekTours_11_Ls j2 v1 v2 j11 v3 u) := by
  unfold gX8_seekTours_11_Ls
  refine g_iload_n C dX8_seekTours_11 rfl 3 rfl ?_
  refine g_bipush (v := 8) C dX8_seekTours_12 rfl (by decide) ?_
  refine g_icmp_ge 56 C dX8_seekTours_14 rfl (by decide) (fun c1 => ?_) (fun c1 => ?_)
  · refine g_iincL (fun v2_2 => [(2, .int v2_2), (0, .ref ((xE Γ).1 71)), (1, .int v1), (3, .int v3)]) C dX8_seekTours_56 rfl L (by decide) (k := 2) rfl (iinc_1 _) (fun _ => rfl) (fun v2_2 => ?_)
    refine g_goto 2 C dX8_seekTours_59 rfl (by decide) ?_
    refine g_sub (ls' := [(0, .ref ((xE Γ).1 71)), (1, .int v1), (2, .int v2_2)]) [1, 2, 0] rfl ?_
    exact hj2 v2_2 u
  · refine g_iload_n C dX8_seekTours_17 rfl 2 rfl ?_
    refine g_iload_n C dX8_seekTours_18 rfl 1 rfl ?_
    refine g_iconst (v := (-1)) C dX8_seekTours_19 rfl (by decide) ?_
    refine g_ixor C dX8_seekTours_20 rfl ?_
    refine g_iand C dX8_seekTours_21 rfl ?_
    refine g_if_ne 56 C dX8_seekTours_22 rfl (by decide) (fun c3 => ?_) (fun c3 => ?_)
    · refine g_iincL (fun v2_4 => [(2, .int v2_4), (0, .ref ((xE Γ).1 71)), (1, .int v1), (3, .int v3)]) C dX8_seekTours_56 rfl L (by decide) (k := 2) rfl (iinc_1 _) (fun _ => rfl) (fun v2_4 => ?_)
      refine g_goto 2 C dX8_seekTours_59 rfl (by decide) ?_
      refine g_sub (ls' := [(0, .ref ((xE Γ).1 71)), (1, .int v1), (2, .int v2_4)]) [1, 2, 0] rfl ?_
      exact hj2 v2_4 u
    · refine g_aload_n C dX8_seekTours_25 rfl 0 rfl ?_
      refine g_getR (k2 := 73) C dX8_seekTours_26 rfl rfl fi_8_1 ⟨by decide, by decide, rfl⟩ fl_X8_15 ?_
      refine g_iload_n C dX8_seekTours_29 rfl 2 rfl ?_
      refine g_bipush (v := 8) C dX8_seekTours_30 rfl (by decide) ?_
      refine g_imul C dX8_seekTours_32 rfl ?_
      refine g_iload_n C dX8_seekTours_33 rfl 3 rfl ?_
      refine g_iadd C dX8_seekTours_34 rfl ?_
      refine g_iload_n C dX8_seekTours_35 rfl 2 rfl ?_
      refine g_if_ne 43 C dX8_seekTours_36 rfl (by decide) (fun c5 => ?_) (fun c5 => ?_)
      · refine g_aload_n C dX8_seekTours_43 rfl 0 rfl ?_
        refine g_iload_n C dX8_seekTours_44 rfl 3 rfl ?_
        refine g_iload_n C dX8_seekTours_45 rfl 2 rfl ?_
        refine g_callP [.int v3, .int v2] C dX8_seekTours_46 rfl (tX8_fewestFrom (xl Γ) (xE Γ) v3 v2 u) cf_X8_fewestFrom rfl rfl ml_X8_53 rfl (by decide) (Nat.le_of_ble_eq_true rfl) rfl (fun r6 => ?_)
        exact pX8_seekTours_49 C M L v1 v2 v3 r6 ((v2 * 8) + v3) hj2 hj11 u
      · refine g_iconst (v := 0) C dX8_seekTours_39 rfl (by decide) ?_
        refine g_goto 49 C dX8_seekTours_40 rfl (by decide) ?_
        exact pX8_seekTours_49 C M L v1 v2 v3 0 ((v2 * 8) + v3) hj2 hj11 u
set_option maxRecDepth 20000 in
set_option maxHeartbeats 4000000 in
theorem pX8_seekTours_11 {Γ : GX} (C : Cx Γ RX8 cX8_seekTours 4) (M : Mx Γ none) (L : xn Γ = 4) (v1 : Int32) (v2 : Int32) {j2 : Int32 → Mm → Option Mm} (hj2 : ∀ (v2 : Int32) (u : Mm), Gp Γ (QM Γ cvV) 2 [(0, .ref ((xE Γ).1 71)), (1, .int v1), (2, .int v2)] [] u (j2 v2 u)) : ∀ (n : Nat) (v3 : Int32) (u : Mm), Gp Γ (QM Γ cvV) 11 [(0, .ref ((xE Γ).1 71)), (1, .int v1), (2, .int v2), (3, .int v3)] [] u (gX8_seekTours_11_L j2 v1 v2 n v3 u) := by
  intro n
  induction n with
  | zero => intro _ _; exact g_none
  | succ n ih => intro v3 u; exact pX8_seekTours_11s C M L v1 v2 hj2 ih v3 u

set_option maxRecDepth 20000 in
set_option maxHeartbeats 4000000 in
theorem pX8_seekTours_2s {Γ : GX} (C : Cx Γ RX8 cX8_seekTours 4) (M : Mx Γ none) (L : xn Γ = 4) (v1 : Int32) {j2 : Int32 → Mm → Option Mm} (hj2 : ∀ (v2 : Int32) (u : Mm), Gp Γ (QM Γ cvV) 2 [(0, .ref ((xE Γ).1 71)), (1, .int v1), (2, .int v2)] [] u (j2 v2 u)) (v2 : Int32) (u : Mm) : Gp Γ (QM Γ cvV) 2 [(0, .ref ((xE Γ).1 71)), (1, .int v1), (2, .int v2)] [] u (gX8_seekTours_2_Ls v1 j2 v2 u) := by
  unfold gX8_seekTours_2_Ls
  refine g_iload_n C dX8_seekTours_2 rfl 2 rfl ?_
  refine g_sipush (v := 256) C dX8_seekTours_3 rfl (by decide) ?_
  refine g_icmp_ge 62 C dX8_seekTours_6 rfl (by decide) (fun c1 => ?_) (fun c1 => ?_)
  · exact g_vret C M dX8_seekTours_62 rfl rfl
  · refine g_iconst (v := 0) C dX8_seekTours_9 rfl (by decide) ?_
    refine g_istore_n (ls' := [(3, .int 0), (0, .ref ((xE Γ).1 71)), (1, .int v1), (2, .int v2)]) C dX8_seekTours_10 rfl L (by decide) rfl ?_
    refine g_sub (ls' := [(0, .ref ((xE Γ).1 71)), (1, .int v1), (2, .int v2), (3, .int 0)]) [1, 2, 3, 0] rfl ?_
    exact pX8_seekTours_11 C M L v1 v2 hj2 FU 0 u
set_option maxRecDepth 20000 in
set_option maxHeartbeats 4000000 in
theorem pX8_seekTours_2 {Γ : GX} (C : Cx Γ RX8 cX8_seekTours 4) (M : Mx Γ none) (L : xn Γ = 4) (v1 : Int32) : ∀ (n : Nat) (v2 : Int32) (u : Mm), Gp Γ (QM Γ cvV) 2 [(0, .ref ((xE Γ).1 71)), (1, .int v1), (2, .int v2)] [] u (gX8_seekTours_2_L v1 n v2 u) := by
  intro n
  induction n with
  | zero => intro _ _; exact g_none
  | succ n ih => intro v2 u; exact pX8_seekTours_2s C M L v1 ih v2 u

set_option maxRecDepth 20000 in
set_option maxHeartbeats 4000000 in
theorem pX8_seekTours_0 {Γ : GX} (C : Cx Γ RX8 cX8_seekTours 4) (M : Mx Γ none) (L : xn Γ = 4) (v1 : Int32) (u : Mm) : Gp Γ (QM Γ cvV) 0 [(0, .ref ((xE Γ).1 71)), (1, .int v1)] [] u (gX8_seekTours_b v1 u) := by
  unfold gX8_seekTours_b
  refine g_iconst (v := 0) C dX8_seekTours_0 rfl (by decide) ?_
  refine g_istore_n (ls' := [(2, .int 0), (0, .ref ((xE Γ).1 71)), (1, .int v1)]) C dX8_seekTours_1 rfl L (by decide) rfl ?_
  refine g_sub (ls' := [(0, .ref ((xE Γ).1 71)), (1, .int v1), (2, .int 0)]) [1, 2, 0] rfl ?_
  exact pX8_seekTours_2 C M L v1 FU 0 u
set_option maxRecDepth 20000 in
set_option maxHeartbeats 4000000 in
theorem tX8_seekTours (l : Launch) (E : EE) (v1 : Int32) (u : Mm) : Ct l E yX8_seekTours cX8_seekTours 4 none 4 [.ref (E.1 71), .int v1] u cvV (gX8_seekTours v1 u) :=
  Ct_of (own := RX8) (by decide +kernel) rfl (Nat.le_of_ble_eq_true rfl) (fun p e R s m args below meth c C M => g_sub (ls' := [(0, .ref (E.1 71)), (1, .int v1)]) [0, 1] rfl (pX8_seekTours_0 C M rfl v1 u))
set_option maxRecDepth 20000 in
set_option maxHeartbeats 4000000 in
theorem pX8_tourMinutes_0 {Γ : GX} (C : Cx Γ RX8 cX8_tourMinutes 2) (M : Mx Γ (some .int)) (L : xn Γ = 4) (u : Mm) (v1 : Int32) (v2 : Int32) : Gp Γ (QM Γ (cvP u)) 0 [(0, .ref ((xE Γ).1 71)), (1, .int v1), (2, .int v2)] [] u (gX8_tourMinutes_b v1 v2 u) := by
  unfold gX8_tourMinutes_b
  refine g_aload_n C dX8_tourMinutes_0 rfl 0 rfl ?_
  refine g_iload_n C dX8_tourMinutes_1 rfl 2 rfl ?_
  refine g_iload_n C dX8_tourMinutes_2 rfl 1 rfl ?_
  refine g_callP [.int v2, .int v1] C dX8_tourMinutes_3 rfl (tX8_restOf (xl Γ) (xE Γ) v2 v1 u) cf_X8_restOf rfl rfl ml_X8_65 rfl (by decide) (Nat.le_of_ble_eq_true rfl) rfl (fun r1 => ?_)
  refine g_istore_n (ls' := [(3, .int r1), (0, .ref ((xE Γ).1 71)), (1, .int v1), (2, .int v2)]) C dX8_tourMinutes_6 rfl L (by decide) rfl ?_
  refine g_iload_n C dX8_tourMinutes_7 rfl 0 rfl ?_
  refine g_ldc (v := 1000000) C dX8_tourMinutes_8 rfl (wm_41 0 rfl) ?_
  refine g_icmp_lt 18 C dX8_tourMinutes_10 rfl (by decide) (fun c2 => ?_) (fun c2 => ?_)
  · refine g_iload_n C dX8_tourMinutes_18 rfl 0 rfl ?_
    exact g_iret C M dX8_tourMinutes_19 rfl rfl
  · refine g_bipush (v := (-9)) C dX8_tourMinutes_13 rfl (by decide) ?_
    refine g_goto 19 C dX8_tourMinutes_15 rfl (by decide) ?_
    exact g_iret C M dX8_tourMinutes_19 rfl rfl
set_option maxRecDepth 20000 in
set_option maxHeartbeats 4000000 in
theorem tX8_tourMinutes (l : Launch) (E : EE) (v1 : Int32) (v2 : Int32) (u : Mm) : Ct l E yX8_tourMinutes cX8_tourMinutes 4 (some .int) 2 [.ref (E.1 71), .int v1, .int v2] u (cvP u) (gX8_tourMinutes v1 v2 u) :=
  Ct_of (own := RX8) (by decide +kernel) rfl (Nat.le_of_ble_eq_true rfl) (fun p e R s m args below meth c C M => g_sub (ls' := [(0, .ref (E.1 71)), (1, .int v1), (2, .int v2)]) [0, 1, 2] rfl (pX8_tourMinutes_0 C M rfl u v1 v2))
set_option maxRecDepth 20000 in
set_option maxHeartbeats 4000000 in
theorem pX8_tourFirst_10s {Γ : GX} (C : Cx Γ RX8 cX8_tourFirst 3) (M : Mx Γ (some .int)) (L : xn Γ = 5) (u : Mm) (v1 : Int32) (v2 : Int32) (v3 : Int32) {j10 : Int32 → Option Int32} (hj10 : ∀ (v4 : Int32), Gp Γ (QM Γ (cvP u)) 10 [(0, .ref ((xE Γ).1 71)), (1, .int v1), (2, .int v2), (3, .int v3), (4, .int v4)] [] u (j10 v4)) (v4 : Int32) : Gp Γ (QM Γ (cvP u)) 10 [(0, .ref ((xE Γ).1 71)), (1, .int v1), (2, .int v2), (3, .int v3), (4, .int v4)] [] u (gX8_tourFirst_10_Ls v1 v2 v3 u j10 v4) := by
  unfold gX8_tourFirst_10_Ls
  refine g_iload C dX8_tourFirst_10 rfl 4 rfl ?_
  refine g_bipush (v := 8) C dX8_tourFirst_12 rfl (by decide) ?_
  refine g_icmp_ge 54 C dX8_tourFirst_14 rfl (by decide) (fun c1 => ?_) (fun c1 => ?_)
  · refine g_bipush (v := (-9)) C dX8_tourFirst_54 rfl (by decide) ?_
    exact g_iret C M dX8_tourFirst_56 rfl rfl
  · refine g_iload_n C dX8_tourFirst_17 rfl 3 rfl ?_
    refine g_ldc (v := 1000000) C dX8_tourFirst_18 rfl (wm_41 0 rfl) ?_
    refine g_icmp_ge 54 C dX8_tourFirst_20 rfl (by decide) (fun c2 => ?_) (fun c2 => ?_)
    · refine g_bipush (v := (-9)) C dX8_tourFirst_54 rfl (by decide) ?_
      exact g_iret C M dX8_tourFirst_56 rfl rfl
    · refine g_iload_n C dX8_tourFirst_23 rfl 2 rfl ?_
      refine g_iload C dX8_tourFirst_24 rfl 4 rfl ?_
      refine g_ishr C dX8_tourFirst_26 rfl ?_
      refine g_iconst (v := 1) C dX8_tourFirst_27 rfl (by decide) ?_
      refine g_iand C dX8_tourFirst_28 rfl ?_
      refine g_iconst (v := 1) C dX8_tourFirst_29 rfl (by decide) ?_
      refine g_icmp_ne 48 C dX8_tourFirst_30 rfl (by decide) (fun c3 => ?_) (fun c3 => ?_)
      · refine g_iincL (fun v4_4 => [(4, .int v4_4), (0, .ref ((xE Γ).1 71)), (1, .int v1), (2, .int v2), (3, .int v3)]) C dX8_tourFirst_48 rfl L (by decide) (k := 4) rfl (iinc_1 _) (fun _ => rfl) (fun v4_4 => ?_)
        refine g_goto 10 C dX8_tourFirst_51 rfl (by decide) ?_
        refine g_sub (ls' := [(0, .ref ((xE Γ).1 71)), (1, .int v1), (2, .int v2), (3, .int v3), (4, .int v4_4)]) [1, 2, 3, 4, 0] rfl ?_
        exact hj10 v4_4
      · refine g_aload_n C dX8_tourFirst_33 rfl 0 rfl ?_
        refine g_iload_n C dX8_tourFirst_34 rfl 1 rfl ?_
        refine g_iload C dX8_tourFirst_35 rfl 4 rfl ?_
        refine g_iload_n C dX8_tourFirst_37 rfl 2 rfl ?_
        refine g_callP [.int v1, .int v4, .int v2] C dX8_tourFirst_38 rfl (tX8_throughFirst (xl Γ) (xE Γ) v1 v4 v2 u) cf_X8_throughFirst rfl rfl ml_X8_56 rfl (by decide) (Nat.le_of_ble_eq_true rfl) rfl (fun r5 => ?_)
        refine g_iload_n C dX8_tourFirst_41 rfl 3 rfl ?_
        refine g_icmp_ne 48 C dX8_tourFirst_42 rfl (by decide) (fun c6 => ?_) (fun c6 => ?_)
        · refine g_iincL (fun v4_7 => [(4, .int v4_7), (0, .ref ((xE Γ).1 71)), (1, .int v1), (2, .int v2), (3, .int v3)]) C dX8_tourFirst_48 rfl L (by decide) (k := 4) rfl (iinc_1 _) (fun _ => rfl) (fun v4_7 => ?_)
          refine g_goto 10 C dX8_tourFirst_51 rfl (by decide) ?_
          refine g_sub (ls' := [(0, .ref ((xE Γ).1 71)), (1, .int v1), (2, .int v2), (3, .int v3), (4, .int v4_7)]) [1, 2, 3, 4, 0] rfl ?_
          exact hj10 v4_7
        · refine g_iload C dX8_tourFirst_45 rfl 4 rfl ?_
          exact g_iret C M dX8_tourFirst_47 rfl rfl
set_option maxRecDepth 20000 in
set_option maxHeartbeats 4000000 in
theorem pX8_tourFirst_10 {Γ : GX} (C : Cx Γ RX8 cX8_tourFirst 3) (M : Mx Γ (some .int)) (L : xn Γ = 5) (u : Mm) (v1 : Int32) (v2 : Int32) (v3 : Int32) : ∀ (n : Nat) (v4 : Int32), Gp Γ (QM Γ (cvP u)) 10 [(0, .ref ((xE Γ).1 71)), (1, .int v1), (2, .int v2), (3, .int v3), (4, .int v4)] [] u (gX8_tourFirst_10_L v1 v2 v3 u n v4) := by
  intro n
  induction n with
  | zero => intro _; exact g_none
  | succ n ih => intro v4; exact pX8_tourFirst_10s C M L u v1 v2 v3 ih v4

set_option maxRecDepth 20000 in
set_option maxHeartbeats 4000000 in
theorem pX8_tourFirst_0 {Γ : GX} (C : Cx Γ RX8 cX8_tourFirst 3) (M : Mx Γ (some .int)) (L : xn Γ = 5) (u : Mm) (v1 : Int32) (v2 : Int32) : Gp Γ (QM Γ (cvP u)) 0 [(0, .ref ((xE Γ).1 71)), (1, .int v1), (2, .int v2)] [] u (gX8_tourFirst_b v1 v2 u) := by
  unfold gX8_tourFirst_b
  refine g_aload_n C dX8_tourFirst_0 rfl 0 rfl ?_
  refine g_iload_n C dX8_tourFirst_1 rfl 2 rfl ?_
  refine g_iload_n C dX8_tourFirst_2 rfl 1 rfl ?_
  refine g_callP [.int v2, .int v1] C dX8_tourFirst_3 rfl (tX8_restOf (xl Γ) (xE Γ) v2 v1 u) cf_X8_restOf rfl rfl ml_X8_65 rfl (by decide) (Nat.le_of_ble_eq_true rfl) rfl (fun r1 => ?_)
  refine g_istore_n (ls' := [(3, .int r1), (0, .ref ((xE Γ).1 71)), (1, .int v1), (2, .int v2)]) C dX8_tourFirst_6 rfl L (by decide) rfl ?_
  refine g_iconst (v := 0) C dX8_tourFirst_7 rfl (by decide) ?_
  refine g_istore (ls' := [(4, .int 0), (3, .int r1), (0, .ref ((xE Γ).1 71)), (1, .int v1), (2, .int v2)]) C dX8_tourFirst_8 rfl L (by decide) rfl ?_
  refine g_sub (ls' := [(0, .ref ((xE Γ).1 71)), (1, .int v1), (2, .int v2), (3, .int r1), (4, .int 0)]) [2, 3, 4, 1, 0] rfl ?_
  exact pX8_tourFirst_10 C M L u v1 v2 r1 FU 0
set_option maxRecDepth 20000 in
set_option maxHeartbeats 4000000 in
theorem tX8_tourFirst (l : Launch) (E : EE) (v1 : Int32) (v2 : Int32) (u : Mm) : Ct l E yX8_tourFirst cX8_tourFirst 5 (some .int) 3 [.ref (E.1 71), .int v1, .int v2] u (cvP u) (gX8_tourFirst v1 v2 u) :=
  Ct_of (own := RX8) (by decide +kernel) rfl (Nat.le_of_ble_eq_true rfl) (fun p e R s m args below meth c C M => g_sub (ls' := [(0, .ref (E.1 71)), (1, .int v1), (2, .int v2)]) [0, 1, 2] rfl (pX8_tourFirst_0 C M rfl u v1 v2))
set_option maxRecDepth 20000 in
set_option maxHeartbeats 4000000 in
theorem pX9_copyFrom_0 {Γ : GX} (C : Cx Γ RX9 cX9_copyFrom 1) (M : Mx Γ none) (L : xn Γ = 2) {k0 : Nat} (hk0 : kd k0 = 12) {k1 : Nat} (hk1 : kd k1 = 12) (u : Mm) : Gp Γ (QM Γ cvV) 0 [(0, .ref ((xE Γ).1 k0)), (1, .ref ((xE Γ).1 k1))] [] u (gX9_copyFrom_b k0 k1 u) := by
  unfold gX9_copyFrom_b
  refine g_aload_n C dX9_copyFrom_0 rfl 0 rfl ?_
  refine g_getR (k2 := (k0 + 1)) C dX9_copyFrom_1 rfl hk0 fi_9_0 ⟨by decide, by decide, rfl⟩ fl_X9_10 ?_
  refine g_aload_n C dX9_copyFrom_4 rfl 1 rfl ?_
  refine g_getR (k2 := (k1 + 1)) C dX9_copyFrom_5 rfl hk1 fi_9_0 ⟨by decide, by decide, rfl⟩ fl_X9_10 ?_
  refine g_callV [.ref ((xE Γ).1 (k1 + 1))] C dX9_copyFrom_8 rfl (tX0_copyFrom (xl Γ) (xE Γ) (kr_9_0 hk0) (kr_9_0 hk1) u) cf_X0_copyFrom (kr_9_0 hk0) rfl ml_X9_37 rfl (by decide) (Nat.le_of_ble_eq_true rfl) rfl (fun u1 => ?_)
  refine g_aload_n C dX9_copyFrom_11 rfl 0 rfl ?_
  refine g_getR (k2 := (k0 + 4)) C dX9_copyFrom_12 rfl hk0 fi_9_1 ⟨by decide, by decide, rfl⟩ fl_X9_19 ?_
  refine g_aload_n C dX9_copyFrom_15 rfl 1 rfl ?_
  refine g_getR (k2 := (k1 + 4)) C dX9_copyFrom_16 rfl hk1 fi_9_1 ⟨by decide, by decide, rfl⟩ fl_X9_19 ?_
  refine g_callV [.ref ((xE Γ).1 (k1 + 4))] C dX9_copyFrom_19 rfl (tX1_copyFrom (xl Γ) (xE Γ) (kr_9_1 hk0) (kr_9_1 hk1) u1) cf_X1_copyFrom (kr_9_1 hk0) rfl ml_X9_41 rfl (by decide) (Nat.le_of_ble_eq_true rfl) rfl (fun u2 => ?_)
  refine g_aload_n C dX9_copyFrom_22 rfl 0 rfl ?_
  refine g_getR (k2 := (k0 + 10)) C dX9_copyFrom_23 rfl hk0 fi_9_2 ⟨by decide, by decide, rfl⟩ fl_X9_26 ?_
  refine g_aload_n C dX9_copyFrom_26 rfl 1 rfl ?_
  refine g_getR (k2 := (k1 + 10)) C dX9_copyFrom_27 rfl hk1 fi_9_2 ⟨by decide, by decide, rfl⟩ fl_X9_26 ?_
  refine g_callV [.ref ((xE Γ).1 (k1 + 10))] C dX9_copyFrom_30 rfl (tX6_copyFrom (xl Γ) (xE Γ) (kr_9_2 hk0) (kr_9_2 hk1) u2) cf_X6_copyFrom (kr_9_2 hk0) rfl ml_X9_44 rfl (by decide) (Nat.le_of_ble_eq_true rfl) rfl (fun u3 => ?_)
  refine g_aload_n C dX9_copyFrom_33 rfl 0 rfl ?_
  refine g_getR (k2 := (k0 + 12)) C dX9_copyFrom_34 rfl hk0 fi_9_3 ⟨by decide, by decide, rfl⟩ fl_X9_33 ?_
  refine g_aload_n C dX9_copyFrom_37 rfl 1 rfl ?_
  refine g_getR (k2 := (k1 + 12)) C dX9_copyFrom_38 rfl hk1 fi_9_3 ⟨by decide, by decide, rfl⟩ fl_X9_33 ?_
  refine g_callV [.ref ((xE Γ).1 (k1 + 12))] C dX9_copyFrom_41 rfl (tX2_copyFrom (xl Γ) (xE Γ) (kr_9_3 hk0) (kr_9_3 hk1) u3) cf_X2_copyFrom (kr_9_3 hk0) rfl ml_X9_47 rfl (by decide) (Nat.le_of_ble_eq_true rfl) rfl (fun u4 => ?_)
  exact g_vret C M dX9_copyFrom_44 rfl rfl
set_option maxRecDepth 20000 in
set_option maxHeartbeats 4000000 in
theorem tX9_copyFrom (l : Launch) (E : EE) {k0 : Nat} (hk0 : kd k0 = 12) {k1 : Nat} (hk1 : kd k1 = 12) (u : Mm) : Ct l E yX9_copyFrom cX9_copyFrom 2 none 1 [.ref (E.1 k0), .ref (E.1 k1)] u cvV (gX9_copyFrom k0 k1 u) :=
  Ct_of (own := RX9) (by decide +kernel) rfl (Nat.le_of_ble_eq_true rfl) (fun p e R s m args below meth c C M => g_sub (ls' := [(0, .ref (E.1 k0)), (1, .ref (E.1 k1))]) [0, 1] rfl (pX9_copyFrom_0 C M rfl hk0 hk1 u))
set_option maxRecDepth 20000 in
set_option maxHeartbeats 4000000 in
theorem pX10_refuse_0 {Γ : GX} (C : Cx Γ RX10 cX10_refuse 0) (M : Mx Γ (some .int)) (L : xn Γ = 3) (v1 : Int32) (u : Mm) : Gp Γ (QM Γ cvI) 0 [(0, .ref ((xE Γ).1 1)), (1, .int v1)] [] u (gX10_refuse_b v1 u) := by
  unfold gX10_refuse_b
  refine g_iload_n C dX10_refuse_0 rfl 1 rfl ?_
  refine g_ineg C dX10_refuse_1 rfl ?_
  refine g_lets (fun v2_1 => ?_)
  refine g_istore_n (ls' := [(2, .int v2_1), (0, .ref ((xE Γ).1 1)), (1, .int v1)]) C dX10_refuse_2 rfl L (by decide) rfl ?_
  refine g_iload_n C dX10_refuse_3 rfl 0 rfl ?_
  refine g_if_le 26 C dX10_refuse_4 rfl (by decide) (fun c2 => ?_) (fun c2 => ?_)
  · refine g_iload_n C dX10_refuse_26 rfl 2 rfl ?_
    exact g_iret C M dX10_refuse_27 rfl rfl
  · refine g_iload_n C dX10_refuse_7 rfl 0 rfl ?_
    refine g_aload_n C dX10_refuse_8 rfl 1 rfl ?_
    refine g_getR (k2 := 56) C dX10_refuse_9 rfl rfl fi_10_7 ⟨by decide, by decide, rfl⟩ fl_X10_45 ?_
    refine g_alen C dX10_refuse_12 rfl rfl rfl rfl ?_
    refine g_icmp_ge 26 C dX10_refuse_13 rfl (by decide) (fun c3 => ?_) (fun c3 => ?_)
    · refine g_iload_n C dX10_refuse_26 rfl 2 rfl ?_
      exact g_iret C M dX10_refuse_27 rfl rfl
    · refine g_aload_n C dX10_refuse_16 rfl 1 rfl ?_
      refine g_getR (k2 := 56) C dX10_refuse_17 rfl rfl fi_10_7 ⟨by decide, by decide, rfl⟩ fl_X10_45 ?_
      refine g_iload_n C dX10_refuse_20 rfl 0 rfl ?_
      refine g_dup2 C dX10_refuse_21 rfl rfl rfl ?_
      refine g_gd (fun hi4 => ?_)
      refine g_iald C dX10_refuse_22 rfl rfl rfl hi4 ?_
      refine g_iconst (v := 1) C dX10_refuse_23 rfl (by decide) ?_
      refine g_iadd C dX10_refuse_24 rfl ?_
      refine g_gd (fun hi6 => ?_)
      refine g_iast C dX10_refuse_25 rfl rfl rfl hi6 ?_
      refine g_letm (fun u5 => ?_)
      refine g_iload_n C dX10_refuse_26 rfl 2 rfl ?_
      exact g_iret C M dX10_refuse_27 rfl rfl
set_option maxRecDepth 20000 in
set_option maxHeartbeats 4000000 in
theorem tX10_refuse (l : Launch) (E : EE) (v1 : Int32) (u : Mm) : Ct l E yX10_refuse cX10_refuse 3 (some .int) 0 [.ref (E.1 1), .int v1] u cvI (gX10_refuse v1 u) :=
  Ct_of (own := RX10) (by decide +kernel) rfl (Nat.le_of_ble_eq_true rfl) (fun p e R s m args below meth c C M => g_sub (ls' := [(0, .ref (E.1 1)), (1, .int v1)]) [0, 1] rfl (pX10_refuse_0 C M rfl v1 u))
set_option maxRecDepth 20000 in
set_option maxHeartbeats 4000000 in
theorem pX10_feed_31 {Γ : GX} (C : Cx Γ RX10 cX10_feed 1) (M : Mx Γ (some .int)) (L : xn Γ = 2) (u : Mm) : Gp Γ (QM Γ cvI) 31 [(0, .ref ((xE Γ).1 1))] [] u (gX10_feed_31 u) := by
  unfold gX10_feed_31
  refine g_aload_n C dX10_feed_31 rfl 0 rfl ?_
  refine g_bipush (v := (-6)) C dX10_feed_32 rfl (by decide) ?_
  refine g_callI [.int (-6)] C dX10_feed_34 rfl (tX10_refuse (xl Γ) (xE Γ) (-6) u) cf_X10_refuse rfl rfl ml_X10_63 rfl (by decide) (Nat.le_of_ble_eq_true rfl) rfl (fun r2 u1 => ?_)
  exact g_iret C M dX10_feed_37 rfl rfl
set_option maxRecDepth 20000 in
set_option maxHeartbeats 4000000 in
theorem pX10_feed_0 {Γ : GX} (C : Cx Γ RX10 cX10_feed 1) (M : Mx Γ (some .int)) (L : xn Γ = 2) (v1 : Int32) (u : Mm) : Gp Γ (QM Γ cvI) 0 [(0, .ref ((xE Γ).1 1)), (1, .int v1)] [] u (gX10_feed_b v1 u) := by
  unfold gX10_feed_b
  refine g_iload_n C dX10_feed_0 rfl 1 rfl ?_
  refine g_if_ge 11 C dX10_feed_1 rfl (by decide) (fun c1 => ?_) (fun c1 => ?_)
  · refine g_iload_n C dX10_feed_11 rfl 1 rfl ?_
    refine g_sipush (v := 255) C dX10_feed_12 rfl (by decide) ?_
    refine g_icmp_gt 31 C dX10_feed_15 rfl (by decide) (fun c2 => ?_) (fun c2 => ?_)
    · refine g_sub (ls' := [(0, .ref ((xE Γ).1 1))]) [0] rfl ?_
      exact pX10_feed_31 C M L u
    · refine g_aload_n C dX10_feed_18 rfl 0 rfl ?_
      refine g_getR (k2 := 51) C dX10_feed_19 rfl rfl fi_10_5 ⟨by decide, by decide, rfl⟩ fl_X10_32 ?_
      refine g_getR (k2 := 52) C dX10_feed_22 rfl rfl fi_5_0 ⟨by decide, by decide, rfl⟩ fl_X10_67 ?_
      refine g_callP [] C dX10_feed_25 rfl (tX7_isFull (xl Γ) (xE Γ) rfl u) cf_X7_isFull rfl rfl ml_X10_70 rfl (by decide) (Nat.le_of_ble_eq_true rfl) rfl (fun r3 => ?_)
      refine g_if_eq 38 C dX10_feed_28 rfl (by decide) (fun c4 => ?_) (fun c4 => ?_)
      · refine g_aload_n C dX10_feed_38 rfl 0 rfl ?_
        refine g_getR (k2 := 51) C dX10_feed_39 rfl rfl fi_10_5 ⟨by decide, by decide, rfl⟩ fl_X10_32 ?_
        refine g_getR (k2 := 52) C dX10_feed_42 rfl rfl fi_5_0 ⟨by decide, by decide, rfl⟩ fl_X10_67 ?_
        refine g_iload_n C dX10_feed_45 rfl 1 rfl ?_
        refine g_callI [.int v1] C dX10_feed_46 rfl (tX7_add (xl Γ) (xE Γ) rfl v1 u) cf_X7_add rfl rfl ml_X10_74 rfl (by decide) (Nat.le_of_ble_eq_true rfl) rfl (fun r6 u5 => ?_)
        exact g_iret C M dX10_feed_49 rfl rfl
      · refine g_sub (ls' := [(0, .ref ((xE Γ).1 1))]) [0] rfl ?_
        exact pX10_feed_31 C M L u
  · refine g_aload_n C dX10_feed_4 rfl 0 rfl ?_
    refine g_bipush (v := (-4)) C dX10_feed_5 rfl (by decide) ?_
    refine g_callI [.int (-4)] C dX10_feed_7 rfl (tX10_refuse (xl Γ) (xE Γ) (-4) u) cf_X10_refuse rfl rfl ml_X10_63 rfl (by decide) (Nat.le_of_ble_eq_true rfl) rfl (fun r8 u7 => ?_)
    exact g_iret C M dX10_feed_10 rfl rfl
set_option maxRecDepth 20000 in
set_option maxHeartbeats 4000000 in
theorem tX10_feed (l : Launch) (E : EE) (v1 : Int32) (u : Mm) : Ct l E yX10_feed cX10_feed 2 (some .int) 1 [.ref (E.1 1), .int v1] u cvI (gX10_feed v1 u) :=
  Ct_of (own := RX10) (by decide +kernel) rfl (Nat.le_of_ble_eq_true rfl) (fun p e R s m args below meth c C M => g_sub (ls' := [(0, .ref (E.1 1)), (1, .int v1)]) [0, 1] rfl (pX10_feed_0 C M rfl v1 u))
set_option maxRecDepth 20000 in
set_option maxHeartbeats 4000000 in
theorem pX10_land_44 {Γ : GX} (C : Cx Γ RX10 cX10_land 6) (M : Mx Γ (some .int)) (L : xn Γ = 3) (s0 : Int32) (u : Mm) : Gp Γ (QM Γ cvI) 44 [(0, .ref ((xE Γ).1 1))] [.int s0] u (gX10_land_44 s0 u) := by
  unfold gX10_land_44
  refine g_istore_n (ls' := [(2, .int s0), (0, .ref ((xE Γ).1 1))]) C dX10_land_44 rfl L (by decide) rfl ?_
  refine g_aload_n C dX10_land_45 rfl 1 rfl ?_
  refine g_getR (k2 := 51) C dX10_land_46 rfl rfl fi_10_5 ⟨by decide, by decide, rfl⟩ fl_X10_32 ?_
  refine g_getR (k2 := 52) C dX10_land_49 rfl rfl fi_5_0 ⟨by decide, by decide, rfl⟩ fl_X10_67 ?_
  refine g_callV [] C dX10_land_52 rfl (tX7_drop (xl Γ) (xE Γ) rfl u) cf_X7_drop rfl rfl ml_X10_89 rfl (by decide) (Nat.le_of_ble_eq_true rfl) rfl (fun u1 => ?_)
  refine g_iload_n C dX10_land_55 rfl 0 rfl ?_
  refine g_if_lt 77 C dX10_land_56 rfl (by decide) (fun c2 => ?_) (fun c2 => ?_)
  · refine g_iload_n C dX10_land_77 rfl 0 rfl ?_
    exact g_iret C M dX10_land_78 rfl rfl
  · refine g_aload_n C dX10_land_59 rfl 1 rfl ?_
    refine g_getR (k2 := 2) C dX10_land_60 rfl rfl fi_10_0 ⟨by decide, by decide, rfl⟩ fl_X10_10 ?_
    refine g_aload_n C dX10_land_63 rfl 1 rfl ?_
    refine g_getR (k2 := 15) C dX10_land_64 rfl rfl fi_10_1 ⟨by decide, by decide, rfl⟩ fl_X10_16 ?_
    refine g_callV [.ref ((xE Γ).1 15)] C dX10_land_67 rfl (tX9_copyFrom (xl Γ) (xE Γ) rfl rfl u1) cf_X9_copyFrom rfl rfl ml_X10_77 rfl (by decide) (Nat.le_of_ble_eq_true rfl) rfl (fun u3 => ?_)
    refine g_aload_n C dX10_land_70 rfl 1 rfl ?_
    refine g_getR (k2 := 41) C dX10_land_71 rfl rfl fi_10_4 ⟨by decide, by decide, rfl⟩ fl_X10_25 ?_
    refine g_callV [] C dX10_land_74 rfl (tX4_forget (xl Γ) (xE Γ) u3) cf_X4_forget rfl rfl ml_X10_92 rfl (by decide) (Nat.le_of_ble_eq_true rfl) rfl (fun u4 => ?_)
    refine g_iload_n C dX10_land_77 rfl 0 rfl ?_
    exact g_iret C M dX10_land_78 rfl rfl
set_option maxRecDepth 20000 in
set_option maxHeartbeats 4000000 in
theorem pX10_land_0 {Γ : GX} (C : Cx Γ RX10 cX10_land 6) (M : Mx Γ (some .int)) (L : xn Γ = 3) (u : Mm) : Gp Γ (QM Γ cvI) 0 [(0, .ref ((xE Γ).1 1))] [] u (gX10_land_b u) := by
  unfold gX10_land_b
  refine g_aload_n C dX10_land_0 rfl 0 rfl ?_
  refine g_getR (k2 := 15) C dX10_land_1 rfl rfl fi_10_1 ⟨by decide, by decide, rfl⟩ fl_X10_16 ?_
  refine g_aload_n C dX10_land_4 rfl 0 rfl ?_
  refine g_getR (k2 := 2) C dX10_land_5 rfl rfl fi_10_0 ⟨by decide, by decide, rfl⟩ fl_X10_10 ?_
  refine g_callV [.ref ((xE Γ).1 2)] C dX10_land_8 rfl (tX9_copyFrom (xl Γ) (xE Γ) rfl rfl u) cf_X9_copyFrom rfl rfl ml_X10_77 rfl (by decide) (Nat.le_of_ble_eq_true rfl) rfl (fun u1 => ?_)
  refine g_aload_n C dX10_land_11 rfl 0 rfl ?_
  refine g_getR (k2 := 51) C dX10_land_12 rfl rfl fi_10_5 ⟨by decide, by decide, rfl⟩ fl_X10_32 ?_
  refine g_callP [] C dX10_land_15 rfl (tX5_firstMisplaced (xl Γ) (xE Γ) u1) cf_X5_firstMisplaced rfl rfl ml_X10_81 rfl (by decide) (Nat.le_of_ble_eq_true rfl) rfl (fun r2 => ?_)
  refine g_istore_n (ls' := [(1, .int r2), (0, .ref ((xE Γ).1 1))]) C dX10_land_18 rfl L (by decide) rfl ?_
  refine g_iload_n C dX10_land_19 rfl 0 rfl ?_
  refine g_bipush (v := (-9)) C dX10_land_20 rfl (by decide) ?_
  refine g_icmp_ne 39 C dX10_land_22 rfl (by decide) (fun c3 => ?_) (fun c3 => ?_)
  · refine g_sipush (v := (-1000)) C dX10_land_39 rfl (by decide) ?_
    refine g_iload_n C dX10_land_42 rfl 0 rfl ?_
    refine g_isub C dX10_land_43 rfl ?_
    refine g_sub (ls' := [(0, .ref ((xE Γ).1 1))]) [1] rfl ?_
    exact pX10_land_44 C M L ((-1000) - r2) u1
  · refine g_aload_n C dX10_land_25 rfl 1 rfl ?_
    refine g_getR (k2 := 51) C dX10_land_26 rfl rfl fi_10_5 ⟨by decide, by decide, rfl⟩ fl_X10_32 ?_
    refine g_aload_n C dX10_land_29 rfl 1 rfl ?_
    refine g_getR (k2 := 15) C dX10_land_30 rfl rfl fi_10_1 ⟨by decide, by decide, rfl⟩ fl_X10_16 ?_
    refine g_callI [.ref ((xE Γ).1 15)] C dX10_land_33 rfl (tX5_tell (xl Γ) (xE Γ) rfl u1) cf_X5_tell rfl rfl ml_X10_85 rfl (by decide) (Nat.le_of_ble_eq_true rfl) rfl (fun r5 u4 => ?_)
    refine g_goto 44 C dX10_land_36 rfl (by decide) ?_
    refine g_sub (ls' := [(0, .ref ((xE Γ).1 1))]) [1] rfl ?_
    exact pX10_land_44 C M L r5 u4
set_option maxRecDepth 20000 in
set_option maxHeartbeats 4000000 in
theorem tX10_land (l : Launch) (E : EE) (u : Mm) : Ct l E yX10_land cX10_land 3 (some .int) 6 [.ref (E.1 1)] u cvI (gX10_land u) :=
  Ct_of (own := RX10) (by decide +kernel) rfl (Nat.le_of_ble_eq_true rfl) (fun p e R s m args below meth c C M => g_sub (ls' := [(0, .ref (E.1 1))]) [0] rfl (pX10_land_0 C M rfl u))
set_option maxRecDepth 20000 in
set_option maxHeartbeats 4000000 in
theorem pX10_layer_25 {Γ : GX} (C : Cx Γ RX10 cX10_layer 2) (M : Mx Γ (some .int)) (L : xn Γ = 3) (u : Mm) : Gp Γ (QM Γ cvI) 25 [(0, .ref ((xE Γ).1 1))] [] u (gX10_layer_25 u) := by
  unfold gX10_layer_25
  refine g_ldc (v := 1000000000) C dX10_layer_25 rfl (wm_20 6 rfl) ?_
  refine g_aload_n C dX10_layer_27 rfl 0 rfl ?_
  refine g_bipush (v := (-2)) C dX10_layer_28 rfl (by decide) ?_
  refine g_callI [.int (-2)] C dX10_layer_30 rfl (tX10_refuse (xl Γ) (xE Γ) (-2) u) cf_X10_refuse rfl rfl ml_X10_63 rfl (by decide) (Nat.le_of_ble_eq_true rfl) rfl (fun r2 u1 => ?_)
  refine g_isub C dX10_layer_33 rfl ?_
  exact g_iret C M dX10_layer_34 rfl rfl
set_option maxRecDepth 20000 in
set_option maxHeartbeats 4000000 in
theorem pX10_layer_0 {Γ : GX} (C : Cx Γ RX10 cX10_layer 2) (M : Mx Γ (some .int)) (L : xn Γ = 3) (v1 : Int32) (v2 : Int32) (u : Mm) : Gp Γ (QM Γ cvI) 0 [(0, .ref ((xE Γ).1 1)), (1, .int v1), (2, .int v2)] [] u (gX10_layer_b v1 v2 u) := by
  unfold gX10_layer_b
  refine g_iload_n C dX10_layer_0 rfl 1 rfl ?_
  refine g_callsP [.int v1] C dX10_layer_1 rfl (tX10_isLayer (xl Γ) (xE Γ) v1 u) cf_X10_isLayer ml_X10_95 rfl (by decide) (Nat.le_of_ble_eq_true rfl) rfl (fun r1 => ?_)
  refine g_if_ne 16 C dX10_layer_4 rfl (by decide) (fun c2 => ?_) (fun c2 => ?_)
  · refine g_iload_n C dX10_layer_16 rfl 2 rfl ?_
    refine g_if_lt 25 C dX10_layer_17 rfl (by decide) (fun c3 => ?_) (fun c3 => ?_)
    · refine g_sub (ls' := [(0, .ref ((xE Γ).1 1))]) [0] rfl ?_
      exact pX10_layer_25 C M L u
    · refine g_iload_n C dX10_layer_20 rfl 2 rfl ?_
      refine g_iconst (v := 1) C dX10_layer_21 rfl (by decide) ?_
      refine g_icmp_le 35 C dX10_layer_22 rfl (by decide) (fun c4 => ?_) (fun c4 => ?_)
      · refine g_iload_n C dX10_layer_35 rfl 2 rfl ?_
        refine g_if_ne 53 C dX10_layer_36 rfl (by decide) (fun c5 => ?_) (fun c5 => ?_)
        · refine g_aload_n C dX10_layer_53 rfl 0 rfl ?_
          refine g_getR (k2 := 2) C dX10_layer_54 rfl rfl fi_10_0 ⟨by decide, by decide, rfl⟩ fl_X10_10 ?_
          refine g_getR (k2 := 3) C dX10_layer_57 rfl rfl fi_9_0 ⟨by decide, by decide, rfl⟩ fl_X10_100 ?_
          refine g_iload_n C dX10_layer_60 rfl 1 rfl ?_
          refine g_callP [.int v1] C dX10_layer_61 rfl (tX0_aheadOf (xl Γ) (xE Γ) rfl v1 u) cf_X0_aheadOf rfl rfl ml_X10_109 rfl (by decide) (Nat.le_of_ble_eq_true rfl) rfl (fun r6 => ?_)
          exact g_iret C M dX10_layer_64 rfl rfl
        · refine g_aload_n C dX10_layer_39 rfl 0 rfl ?_
          refine g_getR (k2 := 2) C dX10_layer_40 rfl rfl fi_10_0 ⟨by decide, by decide, rfl⟩ fl_X10_10 ?_
          refine g_getR (k2 := 3) C dX10_layer_43 rfl rfl fi_9_0 ⟨by decide, by decide, rfl⟩ fl_X10_100 ?_
          refine g_iload_n C dX10_layer_46 rfl 1 rfl ?_
          refine g_callP [.int v1] C dX10_layer_47 rfl (tX0_sideOf (xl Γ) (xE Γ) rfl v1 u) cf_X0_sideOf rfl rfl ml_X10_104 rfl (by decide) (Nat.le_of_ble_eq_true rfl) rfl (fun r7 => ?_)
          refine g_goto 64 C dX10_layer_50 rfl (by decide) ?_
          exact g_iret C M dX10_layer_64 rfl rfl
      · refine g_sub (ls' := [(0, .ref ((xE Γ).1 1))]) [0] rfl ?_
        exact pX10_layer_25 C M L u
  · refine g_ldc (v := 1000000000) C dX10_layer_7 rfl (wm_20 6 rfl) ?_
    refine g_aload_n C dX10_layer_9 rfl 0 rfl ?_
    refine g_iconst (v := (-1)) C dX10_layer_10 rfl (by decide) ?_
    refine g_callI [.int (-1)] C dX10_layer_11 rfl (tX10_refuse (xl Γ) (xE Γ) (-1) u) cf_X10_refuse rfl rfl ml_X10_63 rfl (by decide) (Nat.le_of_ble_eq_true rfl) rfl (fun r9 u8 => ?_)
    refine g_isub C dX10_layer_14 rfl ?_
    exact g_iret C M dX10_layer_15 rfl rfl
set_option maxRecDepth 20000 in
set_option maxHeartbeats 4000000 in
theorem tX10_layer (l : Launch) (E : EE) (v1 : Int32) (v2 : Int32) (u : Mm) : Ct l E yX10_layer cX10_layer 3 (some .int) 2 [.ref (E.1 1), .int v1, .int v2] u cvI (gX10_layer v1 v2 u) :=
  Ct_of (own := RX10) (by decide +kernel) rfl (Nat.le_of_ble_eq_true rfl) (fun p e R s m args below meth c C M => g_sub (ls' := [(0, .ref (E.1 1)), (1, .int v1), (2, .int v2)]) [0, 1, 2] rfl (pX10_layer_0 C M rfl v1 v2 u))
set_option maxRecDepth 20000 in
set_option maxHeartbeats 4000000 in
theorem pX10_wind_23 {Γ : GX} (C : Cx Γ RX10 cX10_wind 2) (M : Mx Γ (some .int)) (L : xn Γ = 5) (u : Mm) : Gp Γ (QM Γ cvI) 23 [(0, .ref ((xE Γ).1 1))] [] u (gX10_wind_23 u) := by
  unfold gX10_wind_23
  refine g_aload_n C dX10_wind_23 rfl 0 rfl ?_
  refine g_bipush (v := (-4)) C dX10_wind_24 rfl (by decide) ?_
  refine g_callI [.int (-4)] C dX10_wind_26 rfl (tX10_refuse (xl Γ) (xE Γ) (-4) u) cf_X10_refuse rfl rfl ml_X10_63 rfl (by decide) (Nat.le_of_ble_eq_true rfl) rfl (fun r2 u1 => ?_)
  exact g_iret C M dX10_wind_29 rfl rfl
set_option maxRecDepth 20000 in
set_option maxHeartbeats 4000000 in
theorem pX10_wind_42 {Γ : GX} (C : Cx Γ RX10 cX10_wind 2) (M : Mx Γ (some .int)) (L : xn Γ = 5) (u : Mm) : Gp Γ (QM Γ cvI) 42 [(0, .ref ((xE Γ).1 1))] [] u (gX10_wind_42 u) := by
  unfold gX10_wind_42
  refine g_aload_n C dX10_wind_42 rfl 0 rfl ?_
  refine g_bipush (v := (-6)) C dX10_wind_43 rfl (by decide) ?_
  refine g_callI [.int (-6)] C dX10_wind_45 rfl (tX10_refuse (xl Γ) (xE Γ) (-6) u) cf_X10_refuse rfl rfl ml_X10_63 rfl (by decide) (Nat.le_of_ble_eq_true rfl) rfl (fun r2 u1 => ?_)
  exact g_iret C M dX10_wind_48 rfl rfl
set_option maxRecDepth 20000 in
set_option maxHeartbeats 4000000 in
theorem pX10_wind_0 {Γ : GX} (C : Cx Γ RX10 cX10_wind 2) (M : Mx Γ (some .int)) (L : xn Γ = 5) (v1 : Int32) (v2 : Int32) (v3 : Int32) (u : Mm) : Gp Γ (QM Γ cvI) 0 [(0, .ref ((xE Γ).1 1)), (1, .int v1), (2, .int v2), (3, .int v3)] [] u (gX10_wind_b v1 v2 v3 u) := by
  unfold gX10_wind_b
  refine g_iload_n C dX10_wind_0 rfl 1 rfl ?_
  refine g_callsP [.int v1] C dX10_wind_1 rfl (tX10_isLayer (xl Γ) (xE Γ) v1 u) cf_X10_isLayer ml_X10_95 rfl (by decide) (Nat.le_of_ble_eq_true rfl) rfl (fun r1 => ?_)
  refine g_if_ne 13 C dX10_wind_4 rfl (by decide) (fun c2 => ?_) (fun c2 => ?_)
  · refine g_iload_n C dX10_wind_13 rfl 2 rfl ?_
    refine g_bipush (v := (-9)) C dX10_wind_14 rfl (by decide) ?_
    refine g_icmp_lt 23 C dX10_wind_16 rfl (by decide) (fun c3 => ?_) (fun c3 => ?_)
    · refine g_sub (ls' := [(0, .ref ((xE Γ).1 1))]) [0] rfl ?_
      exact pX10_wind_23 C M L u
    · refine g_iload_n C dX10_wind_19 rfl 3 rfl ?_
      refine g_if_ge 30 C dX10_wind_20 rfl (by decide) (fun c4 => ?_) (fun c4 => ?_)
      · refine g_iload_n C dX10_wind_30 rfl 2 rfl ?_
        refine g_bipush (v := 9) C dX10_wind_31 rfl (by decide) ?_
        refine g_icmp_gt 42 C dX10_wind_33 rfl (by decide) (fun c5 => ?_) (fun c5 => ?_)
        · refine g_sub (ls' := [(0, .ref ((xE Γ).1 1))]) [0] rfl ?_
          exact pX10_wind_42 C M L u
        · refine g_iload_n C dX10_wind_36 rfl 3 rfl ?_
          refine g_bipush (v := 9) C dX10_wind_37 rfl (by decide) ?_
          refine g_icmp_le 49 C dX10_wind_39 rfl (by decide) (fun c6 => ?_) (fun c6 => ?_)
          · refine g_bipush (v := 100) C dX10_wind_49 rfl (by decide) ?_
            refine g_aload_n C dX10_wind_51 rfl 0 rfl ?_
            refine g_getR (k2 := 2) C dX10_wind_52 rfl rfl fi_10_0 ⟨by decide, by decide, rfl⟩ fl_X10_10 ?_
            refine g_getR (k2 := 3) C dX10_wind_55 rfl rfl fi_9_0 ⟨by decide, by decide, rfl⟩ fl_X10_100 ?_
            refine g_iload_n C dX10_wind_58 rfl 1 rfl ?_
            refine g_callP [.int v1] C dX10_wind_59 rfl (tX0_sideOf (xl Γ) (xE Γ) rfl v1 u) cf_X0_sideOf rfl rfl ml_X10_104 rfl (by decide) (Nat.le_of_ble_eq_true rfl) rfl (fun r7 => ?_)
            refine g_bipush (v := 9) C dX10_wind_62 rfl (by decide) ?_
            refine g_iadd C dX10_wind_64 rfl ?_
            refine g_imul C dX10_wind_65 rfl ?_
            refine g_aload_n C dX10_wind_66 rfl 0 rfl ?_
            refine g_getR (k2 := 2) C dX10_wind_67 rfl rfl fi_10_0 ⟨by decide, by decide, rfl⟩ fl_X10_10 ?_
            refine g_getR (k2 := 3) C dX10_wind_70 rfl rfl fi_9_0 ⟨by decide, by decide, rfl⟩ fl_X10_100 ?_
            refine g_iload_n C dX10_wind_73 rfl 1 rfl ?_
            refine g_callP [.int v1] C dX10_wind_74 rfl (tX0_aheadOf (xl Γ) (xE Γ) rfl v1 u) cf_X0_aheadOf rfl rfl ml_X10_109 rfl (by decide) (Nat.le_of_ble_eq_true rfl) rfl (fun r8 => ?_)
            refine g_iadd C dX10_wind_77 rfl ?_
            refine g_lets (fun v4_9 => ?_)
            refine g_istore (ls' := [(4, .int v4_9), (0, .ref ((xE Γ).1 1)), (1, .int v1), (2, .int v2), (3, .int v3)]) C dX10_wind_78 rfl L (by decide) rfl ?_
            refine g_aload_n C dX10_wind_80 rfl 1 rfl ?_
            refine g_getR (k2 := 2) C dX10_wind_81 rfl rfl fi_10_0 ⟨by decide, by decide, rfl⟩ fl_X10_10 ?_
            refine g_getR (k2 := 3) C dX10_wind_84 rfl rfl fi_9_0 ⟨by decide, by decide, rfl⟩ fl_X10_100 ?_
            refine g_iload_n C dX10_wind_87 rfl 2 rfl ?_
            refine g_iload_n C dX10_wind_88 rfl 3 rfl ?_
            refine g_iload_n C dX10_wind_89 rfl 4 rfl ?_
            refine g_callV [.int v1, .int v2, .int v3] C dX10_wind_90 rfl (tX0_blow (xl Γ) (xE Γ) rfl v1 v2 v3 u) cf_X0_blow rfl rfl ml_X10_112 rfl (by decide) (Nat.le_of_ble_eq_true rfl) rfl (fun u10 => ?_)
            refine g_aload_n C dX10_wind_93 rfl 1 rfl ?_
            refine g_getR (k2 := 41) C dX10_wind_94 rfl rfl fi_10_4 ⟨by decide, by decide, rfl⟩ fl_X10_25 ?_
            refine g_callV [] C dX10_wind_97 rfl (tX4_forget (xl Γ) (xE Γ) u10) cf_X4_forget rfl rfl ml_X10_92 rfl (by decide) (Nat.le_of_ble_eq_true rfl) rfl (fun u11 => ?_)
            refine g_iload C dX10_wind_100 rfl 0 rfl ?_
            exact g_iret C M dX10_wind_102 rfl rfl
          · refine g_sub (ls' := [(0, .ref ((xE Γ).1 1))]) [0] rfl ?_
            exact pX10_wind_42 C M L u
      · refine g_sub (ls' := [(0, .ref ((xE Γ).1 1))]) [0] rfl ?_
        exact pX10_wind_23 C M L u
  · refine g_aload_n C dX10_wind_7 rfl 0 rfl ?_
    refine g_iconst (v := (-1)) C dX10_wind_8 rfl (by decide) ?_
    refine g_callI [.int (-1)] C dX10_wind_9 rfl (tX10_refuse (xl Γ) (xE Γ) (-1) u) cf_X10_refuse rfl rfl ml_X10_63 rfl (by decide) (Nat.le_of_ble_eq_true rfl) rfl (fun r13 u12 => ?_)
    exact g_iret C M dX10_wind_12 rfl rfl
set_option maxRecDepth 20000 in
set_option maxHeartbeats 4000000 in
theorem tX10_wind (l : Launch) (E : EE) (v1 : Int32) (v2 : Int32) (v3 : Int32) (u : Mm) : Ct l E yX10_wind cX10_wind 5 (some .int) 2 [.ref (E.1 1), .int v1, .int v2, .int v3] u cvI (gX10_wind v1 v2 v3 u) :=
  Ct_of (own := RX10) (by decide +kernel) rfl (Nat.le_of_ble_eq_true rfl) (fun p e R s m args below meth c C M => g_sub (ls' := [(0, .ref (E.1 1)), (1, .int v1), (2, .int v2), (3, .int v3)]) [0, 1, 2, 3] rfl (pX10_wind_0 C M rfl v1 v2 v3 u))
set_option maxRecDepth 20000 in
set_option maxHeartbeats 4000000 in
theorem pX10_isField_0 {Γ : GX} (C : Cx Γ RX10 cX10_isField 0) (M : Mx Γ (some .boolean)) (L : xn Γ = 2) (u : Mm) (v1 : Int32) : Gp Γ (QM Γ (cvP u)) 0 [(0, .ref ((xE Γ).1 1)), (1, .int v1)] [] u (gX10_isField_b v1 u) := by
  unfold gX10_isField_b
  refine g_iload_n C dX10_isField_0 rfl 1 rfl ?_
  refine g_if_lt 22 C dX10_isField_1 rfl (by decide) (fun c1 => ?_) (fun c1 => ?_)
  · refine g_iconst (v := 0) C dX10_isField_22 rfl (by decide) ?_
    exact g_zret C M dX10_isField_23 rfl (by decide) rfl
  · refine g_iload_n C dX10_isField_4 rfl 1 rfl ?_
    refine g_aload_n C dX10_isField_5 rfl 0 rfl ?_
    refine g_getR (k2 := 2) C dX10_isField_6 rfl rfl fi_10_0 ⟨by decide, by decide, rfl⟩ fl_X10_10 ?_
    refine g_getR (k2 := 6) C dX10_isField_9 rfl rfl fi_9_1 ⟨by decide, by decide, rfl⟩ fl_X10_119 ?_
    refine g_getI C dX10_isField_12 rfl rfl fi_1_0 rfl fl_X10_409 ?_
    refine g_icmp_ge 22 C dX10_isField_15 rfl (by decide) (fun c2 => ?_) (fun c2 => ?_)
    · refine g_iconst (v := 0) C dX10_isField_22 rfl (by decide) ?_
      exact g_zret C M dX10_isField_23 rfl (by decide) rfl
    · refine g_iconst (v := 1) C dX10_isField_18 rfl (by decide) ?_
      refine g_goto 23 C dX10_isField_19 rfl (by decide) ?_
      exact g_zret C M dX10_isField_23 rfl (by decide) rfl
set_option maxRecDepth 20000 in
set_option maxHeartbeats 4000000 in
theorem tX10_isField (l : Launch) (E : EE) (v1 : Int32) (u : Mm) : Ct l E yX10_isField cX10_isField 2 (some .boolean) 0 [.ref (E.1 1), .int v1] u (cvP u) (gX10_isField v1 u) :=
  Ct_of (own := RX10) (by decide +kernel) rfl (Nat.le_of_ble_eq_true rfl) (fun p e R s m args below meth c C M => g_sub (ls' := [(0, .ref (E.1 1)), (1, .int v1)]) [0, 1] rfl (pX10_isField_0 C M rfl u v1))
set_option maxRecDepth 20000 in
set_option maxHeartbeats 4000000 in
theorem pX10_field_23 {Γ : GX} (C : Cx Γ RX10 cX10_field 1) (M : Mx Γ (some .int)) (L : xn Γ = 3) (u : Mm) : Gp Γ (QM Γ cvI) 23 [(0, .ref ((xE Γ).1 1))] [] u (gX10_field_23 u) := by
  unfold gX10_field_23
  refine g_aload_n C dX10_field_23 rfl 0 rfl ?_
  refine g_bipush (v := (-2)) C dX10_field_24 rfl (by decide) ?_
  refine g_callI [.int (-2)] C dX10_field_26 rfl (tX10_refuse (xl Γ) (xE Γ) (-2) u) cf_X10_refuse rfl rfl ml_X10_63 rfl (by decide) (Nat.le_of_ble_eq_true rfl) rfl (fun r2 u1 => ?_)
  exact g_iret C M dX10_field_29 rfl rfl
set_option maxRecDepth 20000 in
set_option maxHeartbeats 4000000 in
theorem pX10_field_0 {Γ : GX} (C : Cx Γ RX10 cX10_field 1) (M : Mx Γ (some .int)) (L : xn Γ = 3) (v1 : Int32) (v2 : Int32) (u : Mm) : Gp Γ (QM Γ cvI) 0 [(0, .ref ((xE Γ).1 1)), (1, .int v1), (2, .int v2)] [] u (gX10_field_b v1 v2 u) := by
  unfold gX10_field_b
  refine g_aload_n C dX10_field_0 rfl 0 rfl ?_
  refine g_iload_n C dX10_field_1 rfl 1 rfl ?_
  refine g_callP [.int v1] C dX10_field_2 rfl (tX10_isField (xl Γ) (xE Γ) v1 u) cf_X10_isField rfl rfl ml_X10_116 rfl (by decide) (Nat.le_of_ble_eq_true rfl) rfl (fun r1 => ?_)
  refine g_if_ne 14 C dX10_field_5 rfl (by decide) (fun c2 => ?_) (fun c2 => ?_)
  · refine g_iload_n C dX10_field_14 rfl 2 rfl ?_
    refine g_if_lt 23 C dX10_field_15 rfl (by decide) (fun c3 => ?_) (fun c3 => ?_)
    · refine g_sub (ls' := [(0, .ref ((xE Γ).1 1))]) [0] rfl ?_
      exact pX10_field_23 C M L u
    · refine g_iload_n C dX10_field_18 rfl 2 rfl ?_
      refine g_iconst (v := 4) C dX10_field_19 rfl (by decide) ?_
      refine g_icmp_le 30 C dX10_field_20 rfl (by decide) (fun c4 => ?_) (fun c4 => ?_)
      · refine g_aload_n C dX10_field_30 rfl 0 rfl ?_
        refine g_getR (k2 := 2) C dX10_field_31 rfl rfl fi_10_0 ⟨by decide, by decide, rfl⟩ fl_X10_10 ?_
        refine g_getR (k2 := 6) C dX10_field_34 rfl rfl fi_9_1 ⟨by decide, by decide, rfl⟩ fl_X10_119 ?_
        refine g_iload_n C dX10_field_37 rfl 1 rfl ?_
        refine g_iload_n C dX10_field_38 rfl 2 rfl ?_
        refine g_callP [.int v1, .int v2] C dX10_field_39 rfl (tX1_tellOf (xl Γ) (xE Γ) rfl v1 v2 u) cf_X1_tellOf rfl rfl ml_X10_123 rfl (by decide) (Nat.le_of_ble_eq_true rfl) rfl (fun r5 => ?_)
        exact g_iret C M dX10_field_42 rfl rfl
      · refine g_sub (ls' := [(0, .ref ((xE Γ).1 1))]) [0] rfl ?_
        exact pX10_field_23 C M L u
  · refine g_aload_n C dX10_field_8 rfl 0 rfl ?_
    refine g_iconst (v := (-1)) C dX10_field_9 rfl (by decide) ?_
    refine g_callI [.int (-1)] C dX10_field_10 rfl (tX10_refuse (xl Γ) (xE Γ) (-1) u) cf_X10_refuse rfl rfl ml_X10_63 rfl (by decide) (Nat.le_of_ble_eq_true rfl) rfl (fun r7 u6 => ?_)
    exact g_iret C M dX10_field_13 rfl rfl
set_option maxRecDepth 20000 in
set_option maxHeartbeats 4000000 in
theorem tX10_field (l : Launch) (E : EE) (v1 : Int32) (v2 : Int32) (u : Mm) : Ct l E yX10_field cX10_field 3 (some .int) 1 [.ref (E.1 1), .int v1, .int v2] u cvI (gX10_field v1 v2 u) :=
  Ct_of (own := RX10) (by decide +kernel) rfl (Nat.le_of_ble_eq_true rfl) (fun p e R s m args below meth c C M => g_sub (ls' := [(0, .ref (E.1 1)), (1, .int v1), (2, .int v2)]) [0, 1, 2] rfl (pX10_field_0 C M rfl v1 v2 u))
set_option maxRecDepth 20000 in
set_option maxHeartbeats 4000000 in
theorem pX10_cost_0 {Γ : GX} (C : Cx Γ RX10 cX10_cost 2) (M : Mx Γ (some .int)) (L : xn Γ = 3) (v1 : Int32) (v2 : Int32) (u : Mm) : Gp Γ (QM Γ cvI) 0 [(0, .ref ((xE Γ).1 1)), (1, .int v1), (2, .int v2)] [] u (gX10_cost_b v1 v2 u) := by
  unfold gX10_cost_b
  refine g_aload_n C dX10_cost_0 rfl 0 rfl ?_
  refine g_iload_n C dX10_cost_1 rfl 1 rfl ?_
  refine g_callP [.int v1] C dX10_cost_2 rfl (tX10_isField (xl Γ) (xE Γ) v1 u) cf_X10_isField rfl rfl ml_X10_116 rfl (by decide) (Nat.le_of_ble_eq_true rfl) rfl (fun r1 => ?_)
  refine g_if_ne 14 C dX10_cost_5 rfl (by decide) (fun c2 => ?_) (fun c2 => ?_)
  · refine g_iload_n C dX10_cost_14 rfl 2 rfl ?_
    refine g_if_ge 25 C dX10_cost_15 rfl (by decide) (fun c3 => ?_) (fun c3 => ?_)
    · refine g_iload_n C dX10_cost_25 rfl 2 rfl ?_
      refine g_bipush (v := 20) C dX10_cost_26 rfl (by decide) ?_
      refine g_icmp_le 38 C dX10_cost_28 rfl (by decide) (fun c4 => ?_) (fun c4 => ?_)
      · refine g_aload_n C dX10_cost_38 rfl 0 rfl ?_
        refine g_getR (k2 := 2) C dX10_cost_39 rfl rfl fi_10_0 ⟨by decide, by decide, rfl⟩ fl_X10_10 ?_
        refine g_getR (k2 := 6) C dX10_cost_42 rfl rfl fi_9_1 ⟨by decide, by decide, rfl⟩ fl_X10_119 ?_
        refine g_iload_n C dX10_cost_45 rfl 1 rfl ?_
        refine g_iload_n C dX10_cost_46 rfl 2 rfl ?_
        refine g_aload_n C dX10_cost_47 rfl 0 rfl ?_
        refine g_getR (k2 := 2) C dX10_cost_48 rfl rfl fi_10_0 ⟨by decide, by decide, rfl⟩ fl_X10_10 ?_
        refine g_getR (k2 := 3) C dX10_cost_51 rfl rfl fi_9_0 ⟨by decide, by decide, rfl⟩ fl_X10_100 ?_
        refine g_iload_n C dX10_cost_54 rfl 2 rfl ?_
        refine g_aload_n C dX10_cost_55 rfl 0 rfl ?_
        refine g_getR (k2 := 2) C dX10_cost_56 rfl rfl fi_10_0 ⟨by decide, by decide, rfl⟩ fl_X10_10 ?_
        refine g_getR (k2 := 14) C dX10_cost_59 rfl rfl fi_9_3 ⟨by decide, by decide, rfl⟩ fl_X10_129 ?_
        refine g_getI C dX10_cost_62 rfl rfl fi_2_5 rfl fl_X10_133 ?_
        refine g_callP [.int v2, .int (u 14 5)] C dX10_cost_65 rfl (tX0_dragOf (xl Γ) (xE Γ) rfl v2 (u 14 5) u) cf_X0_dragOf rfl rfl ml_X10_139 rfl (by decide) (Nat.le_of_ble_eq_true rfl) rfl (fun r5 => ?_)
        refine g_callP [.int v1, .int v2, .int r5] C dX10_cost_68 rfl (tX1_costOf (xl Γ) (xE Γ) rfl v1 v2 r5 u) cf_X1_costOf rfl rfl ml_X10_142 rfl (by decide) (Nat.le_of_ble_eq_true rfl) rfl (fun r6 => ?_)
        exact g_iret C M dX10_cost_71 rfl rfl
      · refine g_aload_n C dX10_cost_31 rfl 0 rfl ?_
        refine g_bipush (v := (-6)) C dX10_cost_32 rfl (by decide) ?_
        refine g_callI [.int (-6)] C dX10_cost_34 rfl (tX10_refuse (xl Γ) (xE Γ) (-6) u) cf_X10_refuse rfl rfl ml_X10_63 rfl (by decide) (Nat.le_of_ble_eq_true rfl) rfl (fun r8 u7 => ?_)
        exact g_iret C M dX10_cost_37 rfl rfl
    · refine g_aload_n C dX10_cost_18 rfl 0 rfl ?_
      refine g_bipush (v := (-4)) C dX10_cost_19 rfl (by decide) ?_
      refine g_callI [.int (-4)] C dX10_cost_21 rfl (tX10_refuse (xl Γ) (xE Γ) (-4) u) cf_X10_refuse rfl rfl ml_X10_63 rfl (by decide) (Nat.le_of_ble_eq_true rfl) rfl (fun r10 u9 => ?_)
      exact g_iret C M dX10_cost_24 rfl rfl
  · refine g_aload_n C dX10_cost_8 rfl 0 rfl ?_
    refine g_iconst (v := (-1)) C dX10_cost_9 rfl (by decide) ?_
    refine g_callI [.int (-1)] C dX10_cost_10 rfl (tX10_refuse (xl Γ) (xE Γ) (-1) u) cf_X10_refuse rfl rfl ml_X10_63 rfl (by decide) (Nat.le_of_ble_eq_true rfl) rfl (fun r12 u11 => ?_)
    exact g_iret C M dX10_cost_13 rfl rfl
set_option maxRecDepth 20000 in
set_option maxHeartbeats 4000000 in
theorem tX10_cost (l : Launch) (E : EE) (v1 : Int32) (v2 : Int32) (u : Mm) : Ct l E yX10_cost cX10_cost 3 (some .int) 2 [.ref (E.1 1), .int v1, .int v2] u cvI (gX10_cost v1 v2 u) :=
  Ct_of (own := RX10) (by decide +kernel) rfl (Nat.le_of_ble_eq_true rfl) (fun p e R s m args below meth c C M => g_sub (ls' := [(0, .ref (E.1 1)), (1, .int v1), (2, .int v2)]) [0, 1, 2] rfl (pX10_cost_0 C M rfl v1 v2 u))
set_option maxRecDepth 20000 in
set_option maxHeartbeats 4000000 in
theorem pX10_drag_0 {Γ : GX} (C : Cx Γ RX10 cX10_drag 2) (M : Mx Γ (some .int)) (L : xn Γ = 2) (v1 : Int32) (u : Mm) : Gp Γ (QM Γ cvI) 0 [(0, .ref ((xE Γ).1 1)), (1, .int v1)] [] u (gX10_drag_b v1 u) := by
  unfold gX10_drag_b
  refine g_iload_n C dX10_drag_0 rfl 1 rfl ?_
  refine g_if_ge 11 C dX10_drag_1 rfl (by decide) (fun c1 => ?_) (fun c1 => ?_)
  · refine g_iload_n C dX10_drag_11 rfl 1 rfl ?_
    refine g_bipush (v := 20) C dX10_drag_12 rfl (by decide) ?_
    refine g_icmp_le 24 C dX10_drag_14 rfl (by decide) (fun c2 => ?_) (fun c2 => ?_)
    · refine g_aload_n C dX10_drag_24 rfl 0 rfl ?_
      refine g_getR (k2 := 2) C dX10_drag_25 rfl rfl fi_10_0 ⟨by decide, by decide, rfl⟩ fl_X10_10 ?_
      refine g_getR (k2 := 3) C dX10_drag_28 rfl rfl fi_9_0 ⟨by decide, by decide, rfl⟩ fl_X10_100 ?_
      refine g_iload_n C dX10_drag_31 rfl 1 rfl ?_
      refine g_aload_n C dX10_drag_32 rfl 0 rfl ?_
      refine g_getR (k2 := 2) C dX10_drag_33 rfl rfl fi_10_0 ⟨by decide, by decide, rfl⟩ fl_X10_10 ?_
      refine g_getR (k2 := 14) C dX10_drag_36 rfl rfl fi_9_3 ⟨by decide, by decide, rfl⟩ fl_X10_129 ?_
      refine g_getI C dX10_drag_39 rfl rfl fi_2_5 rfl fl_X10_133 ?_
      refine g_callP [.int v1, .int (u 14 5)] C dX10_drag_42 rfl (tX0_dragOf (xl Γ) (xE Γ) rfl v1 (u 14 5) u) cf_X0_dragOf rfl rfl ml_X10_139 rfl (by decide) (Nat.le_of_ble_eq_true rfl) rfl (fun r3 => ?_)
      exact g_iret C M dX10_drag_45 rfl rfl
    · refine g_aload_n C dX10_drag_17 rfl 0 rfl ?_
      refine g_bipush (v := (-6)) C dX10_drag_18 rfl (by decide) ?_
      refine g_callI [.int (-6)] C dX10_drag_20 rfl (tX10_refuse (xl Γ) (xE Γ) (-6) u) cf_X10_refuse rfl rfl ml_X10_63 rfl (by decide) (Nat.le_of_ble_eq_true rfl) rfl (fun r5 u4 => ?_)
      exact g_iret C M dX10_drag_23 rfl rfl
  · refine g_aload_n C dX10_drag_4 rfl 0 rfl ?_
    refine g_bipush (v := (-4)) C dX10_drag_5 rfl (by decide) ?_
    refine g_callI [.int (-4)] C dX10_drag_7 rfl (tX10_refuse (xl Γ) (xE Γ) (-4) u) cf_X10_refuse rfl rfl ml_X10_63 rfl (by decide) (Nat.le_of_ble_eq_true rfl) rfl (fun r7 u6 => ?_)
    exact g_iret C M dX10_drag_10 rfl rfl
set_option maxRecDepth 20000 in
set_option maxHeartbeats 4000000 in
theorem tX10_drag (l : Launch) (E : EE) (v1 : Int32) (u : Mm) : Ct l E yX10_drag cX10_drag 2 (some .int) 2 [.ref (E.1 1), .int v1] u cvI (gX10_drag v1 u) :=
  Ct_of (own := RX10) (by decide +kernel) rfl (Nat.le_of_ble_eq_true rfl) (fun p e R s m args below meth c C M => g_sub (ls' := [(0, .ref (E.1 1)), (1, .int v1)]) [0, 1] rfl (pX10_drag_0 C M rfl v1 u))
set_option maxRecDepth 20000 in
set_option maxHeartbeats 4000000 in
theorem pX10_set_9 {Γ : GX} (C : Cx Γ RX10 cX10_set 3) (M : Mx Γ (some .int)) (L : xn Γ = 4) (u : Mm) : Gp Γ (QM Γ cvI) 9 [(0, .ref ((xE Γ).1 1))] [] u (gX10_set_9 u) := by
  unfold gX10_set_9
  refine g_aload_n C dX10_set_9 rfl 0 rfl ?_
  refine g_bipush (v := (-2)) C dX10_set_10 rfl (by decide) ?_
  refine g_callI [.int (-2)] C dX10_set_12 rfl (tX10_refuse (xl Γ) (xE Γ) (-2) u) cf_X10_refuse rfl rfl ml_X10_63 rfl (by decide) (Nat.le_of_ble_eq_true rfl) rfl (fun r2 u1 => ?_)
  exact g_iret C M dX10_set_15 rfl rfl
set_option maxRecDepth 20000 in
set_option maxHeartbeats 4000000 in
theorem pX10_set_0 {Γ : GX} (C : Cx Γ RX10 cX10_set 3) (M : Mx Γ (some .int)) (L : xn Γ = 4) (v1 : Int32) (v2 : Int32) (u : Mm) : Gp Γ (QM Γ cvI) 0 [(0, .ref ((xE Γ).1 1)), (1, .int v1), (2, .int v2)] [] u (gX10_set_b v1 v2 u) := by
  unfold gX10_set_b
  refine g_iload_n C dX10_set_0 rfl 1 rfl ?_
  refine g_if_lt 9 C dX10_set_1 rfl (by decide) (fun c1 => ?_) (fun c1 => ?_)
  · refine g_sub (ls' := [(0, .ref ((xE Γ).1 1))]) [0] rfl ?_
    exact pX10_set_9 C M L u
  · refine g_iload_n C dX10_set_4 rfl 1 rfl ?_
    refine g_iconst (v := 4) C dX10_set_5 rfl (by decide) ?_
    refine g_icmp_le 16 C dX10_set_6 rfl (by decide) (fun c2 => ?_) (fun c2 => ?_)
    · refine g_iload_n C dX10_set_16 rfl 2 rfl ?_
      refine g_iload_n C dX10_set_17 rfl 1 rfl ?_
      refine g_callsP [.int v1] C dX10_set_18 rfl (tX2_leastOf (xl Γ) (xE Γ) v1 u) cf_X2_leastOf ml_X10_146 rfl (by decide) (Nat.le_of_ble_eq_true rfl) rfl (fun r3 => ?_)
      refine g_icmp_ge 31 C dX10_set_21 rfl (by decide) (fun c4 => ?_) (fun c4 => ?_)
      · refine g_iload_n C dX10_set_31 rfl 2 rfl ?_
        refine g_iload_n C dX10_set_32 rfl 1 rfl ?_
        refine g_callsP [.int v1] C dX10_set_33 rfl (tX2_mostOf (xl Γ) (xE Γ) v1 u) cf_X2_mostOf ml_X10_149 rfl (by decide) (Nat.le_of_ble_eq_true rfl) rfl (fun r5 => ?_)
        refine g_icmp_le 46 C dX10_set_36 rfl (by decide) (fun c6 => ?_) (fun c6 => ?_)
        · refine g_aload_n C dX10_set_46 rfl 0 rfl ?_
          refine g_getR (k2 := 2) C dX10_set_47 rfl rfl fi_10_0 ⟨by decide, by decide, rfl⟩ fl_X10_10 ?_
          refine g_getR (k2 := 14) C dX10_set_50 rfl rfl fi_9_3 ⟨by decide, by decide, rfl⟩ fl_X10_129 ?_
          refine g_iload_n C dX10_set_53 rfl 1 rfl ?_
          refine g_callP [.int v1] C dX10_set_54 rfl (tX2_valueOf (xl Γ) (xE Γ) rfl v1 u) cf_X2_valueOf rfl rfl ml_X10_152 rfl (by decide) (Nat.le_of_ble_eq_true rfl) rfl (fun r7 => ?_)
          refine g_istore_n (ls' := [(3, .int r7), (0, .ref ((xE Γ).1 1)), (1, .int v1), (2, .int v2)]) C dX10_set_57 rfl L (by decide) rfl ?_
          refine g_aload_n C dX10_set_58 rfl 1 rfl ?_
          refine g_getR (k2 := 2) C dX10_set_59 rfl rfl fi_10_0 ⟨by decide, by decide, rfl⟩ fl_X10_10 ?_
          refine g_getR (k2 := 14) C dX10_set_62 rfl rfl fi_9_3 ⟨by decide, by decide, rfl⟩ fl_X10_129 ?_
          refine g_iload_n C dX10_set_65 rfl 2 rfl ?_
          refine g_iload_n C dX10_set_66 rfl 3 rfl ?_
          refine g_callV [.int v1, .int v2] C dX10_set_67 rfl (tX2_change (xl Γ) (xE Γ) rfl v1 v2 u) cf_X2_change rfl rfl ml_X10_155 rfl (by decide) (Nat.le_of_ble_eq_true rfl) rfl (fun u8 => ?_)
          refine g_aload_n C dX10_set_70 rfl 1 rfl ?_
          refine g_getR (k2 := 41) C dX10_set_71 rfl rfl fi_10_4 ⟨by decide, by decide, rfl⟩ fl_X10_25 ?_
          refine g_callV [] C dX10_set_74 rfl (tX4_forget (xl Γ) (xE Γ) u8) cf_X4_forget rfl rfl ml_X10_92 rfl (by decide) (Nat.le_of_ble_eq_true rfl) rfl (fun u9 => ?_)
          refine g_iload_n C dX10_set_77 rfl 0 rfl ?_
          exact g_iret C M dX10_set_78 rfl rfl
        · refine g_aload_n C dX10_set_39 rfl 0 rfl ?_
          refine g_bipush (v := (-6)) C dX10_set_40 rfl (by decide) ?_
          refine g_callI [.int (-6)] C dX10_set_42 rfl (tX10_refuse (xl Γ) (xE Γ) (-6) u) cf_X10_refuse rfl rfl ml_X10_63 rfl (by decide) (Nat.le_of_ble_eq_true rfl) rfl (fun r11 u10 => ?_)
          exact g_iret C M dX10_set_45 rfl rfl
      · refine g_aload_n C dX10_set_24 rfl 0 rfl ?_
        refine g_bipush (v := (-4)) C dX10_set_25 rfl (by decide) ?_
        refine g_callI [.int (-4)] C dX10_set_27 rfl (tX10_refuse (xl Γ) (xE Γ) (-4) u) cf_X10_refuse rfl rfl ml_X10_63 rfl (by decide) (Nat.le_of_ble_eq_true rfl) rfl (fun r13 u12 => ?_)
        exact g_iret C M dX10_set_30 rfl rfl
    · refine g_sub (ls' := [(0, .ref ((xE Γ).1 1))]) [0] rfl ?_
      exact pX10_set_9 C M L u
set_option maxRecDepth 20000 in
set_option maxHeartbeats 4000000 in
theorem tX10_set (l : Launch) (E : EE) (v1 : Int32) (v2 : Int32) (u : Mm) : Ct l E yX10_set cX10_set 4 (some .int) 3 [.ref (E.1 1), .int v1, .int v2] u cvI (gX10_set v1 v2 u) :=
  Ct_of (own := RX10) (by decide +kernel) rfl (Nat.le_of_ble_eq_true rfl) (fun p e R s m args below meth c C M => g_sub (ls' := [(0, .ref (E.1 1)), (1, .int v1), (2, .int v2)]) [0, 1, 2] rfl (pX10_set_0 C M rfl v1 v2 u))
set_option maxRecDepth 20000 in
set_option maxHeartbeats 4000000 in
theorem pX10_rising_0 {Γ : GX} (C : Cx Γ RX10 cX10_rising 2) (M : Mx Γ (some .int)) (L : xn Γ = 1) (u : Mm) : Gp Γ (QM Γ (cvP u)) 0 [(0, .ref ((xE Γ).1 1))] [] u (gX10_rising_b u) := by
  unfold gX10_rising_b
  refine g_aload_n C dX10_rising_0 rfl 0 rfl ?_
  refine g_getR (k2 := 2) C dX10_rising_1 rfl rfl fi_10_0 ⟨by decide, by decide, rfl⟩ fl_X10_10 ?_
  refine g_getR (k2 := 14) C dX10_rising_4 rfl rfl fi_9_3 ⟨by decide, by decide, rfl⟩ fl_X10_129 ?_
  refine g_callP [] C dX10_rising_7 rfl (tX2_climb (xl Γ) (xE Γ) rfl u) cf_X2_climb rfl rfl ml_X10_159 rfl (by decide) (Nat.le_of_ble_eq_true rfl) rfl (fun r1 => ?_)
  exact g_iret C M dX10_rising_10 rfl rfl
set_option maxRecDepth 20000 in
set_option maxHeartbeats 4000000 in
theorem tX10_rising (l : Launch) (E : EE) (u : Mm) : Ct l E yX10_rising cX10_rising 1 (some .int) 2 [.ref (E.1 1)] u (cvP u) (gX10_rising u) :=
  Ct_of (own := RX10) (by decide +kernel) rfl (Nat.le_of_ble_eq_true rfl) (fun p e R s m args below meth c C M => g_sub (ls' := [(0, .ref (E.1 1))]) [0] rfl (pX10_rising_0 C M rfl u))
set_option maxRecDepth 20000 in
set_option maxHeartbeats 4000000 in
theorem pX10_go_9 {Γ : GX} (C : Cx Γ RX10 cX10_go 3) (M : Mx Γ (some .int)) (L : xn Γ = 2) (u : Mm) : Gp Γ (QM Γ cvI) 9 [(0, .ref ((xE Γ).1 1))] [] u (gX10_go_9 u) := by
  unfold gX10_go_9
  refine g_aload_n C dX10_go_9 rfl 0 rfl ?_
  refine g_bipush (v := (-2)) C dX10_go_10 rfl (by decide) ?_
  refine g_callI [.int (-2)] C dX10_go_12 rfl (tX10_refuse (xl Γ) (xE Γ) (-2) u) cf_X10_refuse rfl rfl ml_X10_63 rfl (by decide) (Nat.le_of_ble_eq_true rfl) rfl (fun r2 u1 => ?_)
  exact g_iret C M dX10_go_15 rfl rfl
set_option maxRecDepth 20000 in
set_option maxHeartbeats 4000000 in
theorem pX10_go_41 {Γ : GX} (C : Cx Γ RX10 cX10_go 3) (M : Mx Γ (some .int)) (L : xn Γ = 2) (v1 : Int32) (u : Mm) : Gp Γ (QM Γ cvI) 41 [(0, .ref ((xE Γ).1 1)), (1, .int v1)] [] u (gX10_go_41 v1 u) := by
  unfold gX10_go_41
  refine g_aload_n C dX10_go_41 rfl 0 rfl ?_
  refine g_getR (k2 := 2) C dX10_go_42 rfl rfl fi_10_0 ⟨by decide, by decide, rfl⟩ fl_X10_10 ?_
  refine g_getR (k2 := 14) C dX10_go_45 rfl rfl fi_9_3 ⟨by decide, by decide, rfl⟩ fl_X10_129 ?_
  refine g_getI C dX10_go_48 rfl rfl fi_2_7 rfl fl_X10_165 ?_
  refine g_sipush (v := 999) C dX10_go_51 rfl (by decide) ?_
  refine g_icmp_lt 64 C dX10_go_54 rfl (by decide) (fun c1 => ?_) (fun c1 => ?_)
  · refine g_aload_n C dX10_go_64 rfl 0 rfl ?_
    refine g_getR (k2 := 41) C dX10_go_65 rfl rfl fi_10_4 ⟨by decide, by decide, rfl⟩ fl_X10_25 ?_
    refine g_aload_n C dX10_go_68 rfl 0 rfl ?_
    refine g_getR (k2 := 2) C dX10_go_69 rfl rfl fi_10_0 ⟨by decide, by decide, rfl⟩ fl_X10_10 ?_
    refine g_getR (k2 := 14) C dX10_go_72 rfl rfl fi_9_3 ⟨by decide, by decide, rfl⟩ fl_X10_129 ?_
    refine g_callV [.ref ((xE Γ).1 14)] C dX10_go_75 rfl (tX4_add (xl Γ) (xE Γ) rfl u) cf_X4_add rfl rfl ml_X10_168 rfl (by decide) (Nat.le_of_ble_eq_true rfl) rfl (fun u2 => ?_)
    refine g_aload_n C dX10_go_78 rfl 0 rfl ?_
    refine g_getR (k2 := 2) C dX10_go_79 rfl rfl fi_10_0 ⟨by decide, by decide, rfl⟩ fl_X10_10 ?_
    refine g_getR (k2 := 14) C dX10_go_82 rfl rfl fi_9_3 ⟨by decide, by decide, rfl⟩ fl_X10_129 ?_
    refine g_iload_n C dX10_go_85 rfl 1 rfl ?_
    refine g_aload_n C dX10_go_86 rfl 0 rfl ?_
    refine g_getR (k2 := 2) C dX10_go_87 rfl rfl fi_10_0 ⟨by decide, by decide, rfl⟩ fl_X10_10 ?_
    refine g_getR (k2 := 3) C dX10_go_90 rfl rfl fi_9_0 ⟨by decide, by decide, rfl⟩ fl_X10_100 ?_
    refine g_callV [.int v1, .ref ((xE Γ).1 3)] C dX10_go_93 rfl (tX2_fly (xl Γ) (xE Γ) rfl v1 rfl u2) cf_X2_fly rfl rfl ml_X10_171 rfl (by decide) (Nat.le_of_ble_eq_true rfl) rfl (fun u3 => ?_)
    refine g_aload_n C dX10_go_96 rfl 0 rfl ?_
    refine g_getR (k2 := 2) C dX10_go_97 rfl rfl fi_10_0 ⟨by decide, by decide, rfl⟩ fl_X10_10 ?_
    refine g_getR (k2 := 14) C dX10_go_100 rfl rfl fi_9_3 ⟨by decide, by decide, rfl⟩ fl_X10_129 ?_
    refine g_getI C dX10_go_103 rfl rfl fi_2_0 rfl fl_X10_175 ?_
    exact g_iret C M dX10_go_106 rfl rfl
  · refine g_aload_n C dX10_go_57 rfl 0 rfl ?_
    refine g_bipush (v := (-6)) C dX10_go_58 rfl (by decide) ?_
    refine g_callI [.int (-6)] C dX10_go_60 rfl (tX10_refuse (xl Γ) (xE Γ) (-6) u) cf_X10_refuse rfl rfl ml_X10_63 rfl (by decide) (Nat.le_of_ble_eq_true rfl) rfl (fun r5 u4 => ?_)
    exact g_iret C M dX10_go_63 rfl rfl
set_option maxRecDepth 20000 in
set_option maxHeartbeats 4000000 in
theorem pX10_go_0 {Γ : GX} (C : Cx Γ RX10 cX10_go 3) (M : Mx Γ (some .int)) (L : xn Γ = 2) (v1 : Int32) (u : Mm) : Gp Γ (QM Γ cvI) 0 [(0, .ref ((xE Γ).1 1)), (1, .int v1)] [] u (gX10_go_b v1 u) := by
  unfold gX10_go_b
  refine g_iload_n C dX10_go_0 rfl 1 rfl ?_
  refine g_if_lt 9 C dX10_go_1 rfl (by decide) (fun c1 => ?_) (fun c1 => ?_)
  · refine g_sub (ls' := [(0, .ref ((xE Γ).1 1))]) [0] rfl ?_
    exact pX10_go_9 C M L u
  · refine g_iload_n C dX10_go_4 rfl 1 rfl ?_
    refine g_iconst (v := 2) C dX10_go_5 rfl (by decide) ?_
    refine g_icmp_le 16 C dX10_go_6 rfl (by decide) (fun c2 => ?_) (fun c2 => ?_)
    · refine g_iload_n C dX10_go_16 rfl 1 rfl ?_
      refine g_iconst (v := 1) C dX10_go_17 rfl (by decide) ?_
      refine g_icmp_ne 41 C dX10_go_18 rfl (by decide) (fun c3 => ?_) (fun c3 => ?_)
      · exact pX10_go_41 C M L v1 u
      · refine g_aload_n C dX10_go_21 rfl 0 rfl ?_
        refine g_getR (k2 := 2) C dX10_go_22 rfl rfl fi_10_0 ⟨by decide, by decide, rfl⟩ fl_X10_10 ?_
        refine g_getR (k2 := 14) C dX10_go_25 rfl rfl fi_9_3 ⟨by decide, by decide, rfl⟩ fl_X10_129 ?_
        refine g_getI C dX10_go_28 rfl rfl fi_2_4 rfl fl_X10_162 ?_
        refine g_if_gt 41 C dX10_go_31 rfl (by decide) (fun c4 => ?_) (fun c4 => ?_)
        · exact pX10_go_41 C M L v1 u
        · refine g_aload_n C dX10_go_34 rfl 0 rfl ?_
          refine g_bipush (v := (-3)) C dX10_go_35 rfl (by decide) ?_
          refine g_callI [.int (-3)] C dX10_go_37 rfl (tX10_refuse (xl Γ) (xE Γ) (-3) u) cf_X10_refuse rfl rfl ml_X10_63 rfl (by decide) (Nat.le_of_ble_eq_true rfl) rfl (fun r6 u5 => ?_)
          exact g_iret C M dX10_go_40 rfl rfl
    · refine g_sub (ls' := [(0, .ref ((xE Γ).1 1))]) [0] rfl ?_
      exact pX10_go_9 C M L u
set_option maxRecDepth 20000 in
set_option maxHeartbeats 4000000 in
theorem tX10_go (l : Launch) (E : EE) (v1 : Int32) (u : Mm) : Ct l E yX10_go cX10_go 2 (some .int) 3 [.ref (E.1 1), .int v1] u cvI (gX10_go v1 u) :=
  Ct_of (own := RX10) (by decide +kernel) rfl (Nat.le_of_ble_eq_true rfl) (fun p e R s m args below meth c C M => g_sub (ls' := [(0, .ref (E.1 1)), (1, .int v1)]) [0, 1] rfl (pX10_go_0 C M rfl v1 u))
set_option maxRecDepth 20000 in
set_option maxHeartbeats 4000000 in
theorem pX10_back_0 {Γ : GX} (C : Cx Γ RX10 cX10_back 2) (M : Mx Γ (some .int)) (L : xn Γ = 1) (u : Mm) : Gp Γ (QM Γ cvI) 0 [(0, .ref ((xE Γ).1 1))] [] u (gX10_back_b u) := by
  unfold gX10_back_b
  refine g_aload_n C dX10_back_0 rfl 0 rfl ?_
  refine g_getR (k2 := 41) C dX10_back_1 rfl rfl fi_10_4 ⟨by decide, by decide, rfl⟩ fl_X10_25 ?_
  refine g_getI C dX10_back_4 rfl rfl fi_4_0 rfl fl_X10_178 ?_
  refine g_if_ne 17 C dX10_back_7 rfl (by decide) (fun c1 => ?_) (fun c1 => ?_)
  · refine g_aload_n C dX10_back_17 rfl 0 rfl ?_
    refine g_getR (k2 := 41) C dX10_back_18 rfl rfl fi_10_4 ⟨by decide, by decide, rfl⟩ fl_X10_25 ?_
    refine g_aload_n C dX10_back_21 rfl 0 rfl ?_
    refine g_getR (k2 := 2) C dX10_back_22 rfl rfl fi_10_0 ⟨by decide, by decide, rfl⟩ fl_X10_10 ?_
    refine g_getR (k2 := 14) C dX10_back_25 rfl rfl fi_9_3 ⟨by decide, by decide, rfl⟩ fl_X10_129 ?_
    refine g_callV [.ref ((xE Γ).1 14)] C dX10_back_28 rfl (tX4_takeBack (xl Γ) (xE Γ) rfl u) cf_X4_takeBack rfl rfl ml_X10_181 rfl (by decide) (Nat.le_of_ble_eq_true rfl) rfl (fun u2 => ?_)
    refine g_aload_n C dX10_back_31 rfl 0 rfl ?_
    refine g_getR (k2 := 2) C dX10_back_32 rfl rfl fi_10_0 ⟨by decide, by decide, rfl⟩ fl_X10_10 ?_
    refine g_getR (k2 := 14) C dX10_back_35 rfl rfl fi_9_3 ⟨by decide, by decide, rfl⟩ fl_X10_129 ?_
    refine g_getI C dX10_back_38 rfl rfl fi_2_7 rfl fl_X10_165 ?_
    exact g_iret C M dX10_back_41 rfl rfl
  · refine g_aload_n C dX10_back_10 rfl 0 rfl ?_
    refine g_bipush (v := (-3)) C dX10_back_11 rfl (by decide) ?_
    refine g_callI [.int (-3)] C dX10_back_13 rfl (tX10_refuse (xl Γ) (xE Γ) (-3) u) cf_X10_refuse rfl rfl ml_X10_63 rfl (by decide) (Nat.le_of_ble_eq_true rfl) rfl (fun r4 u3 => ?_)
    exact g_iret C M dX10_back_16 rfl rfl
set_option maxRecDepth 20000 in
set_option maxHeartbeats 4000000 in
theorem tX10_back (l : Launch) (E : EE) (u : Mm) : Ct l E yX10_back cX10_back 1 (some .int) 2 [.ref (E.1 1)] u cvI (gX10_back u) :=
  Ct_of (own := RX10) (by decide +kernel) rfl (Nat.le_of_ble_eq_true rfl) (fun p e R s m args below meth c C M => g_sub (ls' := [(0, .ref (E.1 1))]) [0] rfl (pX10_back_0 C M rfl u))
set_option maxRecDepth 20000 in
set_option maxHeartbeats 4000000 in
theorem pX10_planRefusal_0 {Γ : GX} (C : Cx Γ RX10 cX10_planRefusal 0) (M : Mx Γ (some .int)) (L : xn Γ = 4) (u : Mm) (v0 : Int32) (v1 : Int32) (v2 : Int32) (v3 : Int32) : Gp Γ (QM Γ (cvP u)) 0 [(0, .int v0), (1, .int v1), (2, .int v2), (3, .int v3)] [] u (gX10_planRefusal_b v0 v1 v2 v3) := by
  unfold gX10_planRefusal_b
  refine g_iload_n C dX10_planRefusal_0 rfl 0 rfl ?_
  refine g_if_lt 8 C dX10_planRefusal_1 rfl (by decide) (fun c1 => ?_) (fun c1 => ?_)
  · refine g_bipush (v := (-4)) C dX10_planRefusal_8 rfl (by decide) ?_
    exact g_iret C M dX10_planRefusal_10 rfl rfl
  · refine g_iload_n C dX10_planRefusal_4 rfl 1 rfl ?_
    refine g_if_ge 11 C dX10_planRefusal_5 rfl (by decide) (fun c2 => ?_) (fun c2 => ?_)
    · refine g_iload_n C dX10_planRefusal_11 rfl 0 rfl ?_
      refine g_bipush (v := 30) C dX10_planRefusal_12 rfl (by decide) ?_
      refine g_icmp_gt 22 C dX10_planRefusal_14 rfl (by decide) (fun c3 => ?_) (fun c3 => ?_)
      · refine g_bipush (v := (-6)) C dX10_planRefusal_22 rfl (by decide) ?_
        exact g_iret C M dX10_planRefusal_24 rfl rfl
      · refine g_iload_n C dX10_planRefusal_17 rfl 1 rfl ?_
        refine g_iconst (v := 5) C dX10_planRefusal_18 rfl (by decide) ?_
        refine g_icmp_le 25 C dX10_planRefusal_19 rfl (by decide) (fun c4 => ?_) (fun c4 => ?_)
        · refine g_iload_n C dX10_planRefusal_25 rfl 2 rfl ?_
          refine g_if_lt 34 C dX10_planRefusal_26 rfl (by decide) (fun c5 => ?_) (fun c5 => ?_)
          · refine g_bipush (v := (-2)) C dX10_planRefusal_34 rfl (by decide) ?_
            refine g_goto 40 C dX10_planRefusal_36 rfl (by decide) ?_
            exact g_iret C M dX10_planRefusal_40 rfl rfl
          · refine g_iload_n C dX10_planRefusal_29 rfl 2 rfl ?_
            refine g_iload_n C dX10_planRefusal_30 rfl 3 rfl ?_
            refine g_icmp_le 39 C dX10_planRefusal_31 rfl (by decide) (fun c6 => ?_) (fun c6 => ?_)
            · refine g_iconst (v := 0) C dX10_planRefusal_39 rfl (by decide) ?_
              exact g_iret C M dX10_planRefusal_40 rfl rfl
            · refine g_bipush (v := (-2)) C dX10_planRefusal_34 rfl (by decide) ?_
              refine g_goto 40 C dX10_planRefusal_36 rfl (by decide) ?_
              exact g_iret C M dX10_planRefusal_40 rfl rfl
        · refine g_bipush (v := (-6)) C dX10_planRefusal_22 rfl (by decide) ?_
          exact g_iret C M dX10_planRefusal_24 rfl rfl
    · refine g_bipush (v := (-4)) C dX10_planRefusal_8 rfl (by decide) ?_
      exact g_iret C M dX10_planRefusal_10 rfl rfl
set_option maxRecDepth 20000 in
set_option maxHeartbeats 4000000 in
theorem tX10_planRefusal (l : Launch) (E : EE) (v0 : Int32) (v1 : Int32) (v2 : Int32) (v3 : Int32) (u : Mm) : Ct l E yX10_planRefusal cX10_planRefusal 4 (some .int) 0 [.int v0, .int v1, .int v2, .int v3] u (cvP u) (gX10_planRefusal v0 v1 v2 v3) :=
  Ct_of (own := RX10) (by decide +kernel) rfl (Nat.le_of_ble_eq_true rfl) (fun p e R s m args below meth c C M => g_sub (ls' := [(0, .int v0), (1, .int v1), (2, .int v2), (3, .int v3)]) [0, 1, 2, 3] rfl (pX10_planRefusal_0 C M rfl u v0 v1 v2 v3))
set_option maxRecDepth 20000 in
set_option maxHeartbeats 4000000 in
theorem pX10_plan_0 {Γ : GX} (C : Cx Γ RX10 cX10_plan 5) (M : Mx Γ (some .int)) (L : xn Γ = 5) (v1 : Int32) (v2 : Int32) (v3 : Int32) (u : Mm) : Gp Γ (QM Γ cvI) 0 [(0, .ref ((xE Γ).1 1)), (1, .int v1), (2, .int v2), (3, .int v3)] [] u (gX10_plan_b v1 v2 v3 u) := by
  unfold gX10_plan_b
  refine g_iload_n C dX10_plan_0 rfl 1 rfl ?_
  refine g_iload_n C dX10_plan_1 rfl 2 rfl ?_
  refine g_iload_n C dX10_plan_2 rfl 3 rfl ?_
  refine g_iconst (v := 5) C dX10_plan_3 rfl (by decide) ?_
  refine g_callsP [.int v1, .int v2, .int v3, .int 5] C dX10_plan_4 rfl (tX10_planRefusal (xl Γ) (xE Γ) v1 v2 v3 5 u) cf_X10_planRefusal ml_X10_184 rfl (by decide) (Nat.le_of_ble_eq_true rfl) rfl (fun r1 => ?_)
  refine g_istore (ls' := [(4, .int r1), (0, .ref ((xE Γ).1 1)), (1, .int v1), (2, .int v2), (3, .int v3)]) C dX10_plan_7 rfl L (by decide) rfl ?_
  refine g_iload C dX10_plan_9 rfl 0 rfl ?_
  refine g_if_eq 21 C dX10_plan_11 rfl (by decide) (fun c2 => ?_) (fun c2 => ?_)
  · refine g_aload_n C dX10_plan_21 rfl 1 rfl ?_
    refine g_getR (k2 := 57) C dX10_plan_22 rfl rfl fi_10_8 ⟨by decide, by decide, rfl⟩ fl_X10_52 ?_
    refine g_aload_n C dX10_plan_25 rfl 1 rfl ?_
    refine g_getR (k2 := 2) C dX10_plan_26 rfl rfl fi_10_0 ⟨by decide, by decide, rfl⟩ fl_X10_10 ?_
    refine g_callV [.ref ((xE Γ).1 2)] C dX10_plan_29 rfl (tX3_begin (xl Γ) (xE Γ) rfl u) cf_X3_begin rfl rfl ml_X10_188 rfl (by decide) (Nat.le_of_ble_eq_true rfl) rfl (fun u3 => ?_)
    refine g_aload_n C dX10_plan_32 rfl 1 rfl ?_
    refine g_getR (k2 := 57) C dX10_plan_33 rfl rfl fi_10_8 ⟨by decide, by decide, rfl⟩ fl_X10_52 ?_
    refine g_iload_n C dX10_plan_36 rfl 2 rfl ?_
    refine g_iload_n C dX10_plan_37 rfl 3 rfl ?_
    refine g_callI [.int v1, .int v2] C dX10_plan_38 rfl (tX3_follow (xl Γ) (xE Γ) v1 v2 u3) cf_X3_follow rfl rfl ml_X10_191 rfl (by decide) (Nat.le_of_ble_eq_true rfl) rfl (fun r5 u4 => ?_)
    refine g_if_ne 47 C dX10_plan_41 rfl (by decide) (fun c6 => ?_) (fun c6 => ?_)
    · refine g_iload_n C dX10_plan_47 rfl 4 rfl ?_
      refine g_if (fun c7 => ?_) (fun c7 => ?_)
      · refine g_tabI 36 84 C dX10_plan_48 rfl (by rw [c7]; exact ⟨by decide, by decide, rfl⟩) (by decide) ?_
        refine g_aload_n C dX10_plan_84 rfl 1 rfl ?_
        refine g_getR (k2 := 57) C dX10_plan_85 rfl rfl fi_10_8 ⟨by decide, by decide, rfl⟩ fl_X10_52 ?_
        refine g_getR (k2 := 69) C dX10_plan_88 rfl rfl fi_3_5 ⟨by decide, by decide, rfl⟩ fl_X10_195 ?_
        refine g_getI C dX10_plan_91 rfl rfl fi_2_1 rfl fl_X10_198 ?_
        exact g_iret C M dX10_plan_94 rfl rfl
      refine g_if (fun c8 => ?_) (fun c8 => ?_)
      · refine g_tabI 47 95 C dX10_plan_48 rfl (by rw [c8]; exact ⟨by decide, by decide, rfl⟩) (by decide) ?_
        refine g_aload_n C dX10_plan_95 rfl 1 rfl ?_
        refine g_getR (k2 := 57) C dX10_plan_96 rfl rfl fi_10_8 ⟨by decide, by decide, rfl⟩ fl_X10_52 ?_
        refine g_getR (k2 := 69) C dX10_plan_99 rfl rfl fi_3_5 ⟨by decide, by decide, rfl⟩ fl_X10_195 ?_
        refine g_getI C dX10_plan_102 rfl rfl fi_2_2 rfl fl_X10_201 ?_
        exact g_iret C M dX10_plan_105 rfl rfl
      refine g_if (fun c9 => ?_) (fun c9 => ?_)
      · refine g_tabI 58 106 C dX10_plan_48 rfl (by rw [c9]; exact ⟨by decide, by decide, rfl⟩) (by decide) ?_
        refine g_aload_n C dX10_plan_106 rfl 1 rfl ?_
        refine g_getR (k2 := 57) C dX10_plan_107 rfl rfl fi_10_8 ⟨by decide, by decide, rfl⟩ fl_X10_52 ?_
        refine g_getR (k2 := 69) C dX10_plan_110 rfl rfl fi_3_5 ⟨by decide, by decide, rfl⟩ fl_X10_195 ?_
        refine g_getI C dX10_plan_113 rfl rfl fi_2_8 rfl fl_X10_204 ?_
        exact g_iret C M dX10_plan_116 rfl rfl
      refine g_if (fun c10 => ?_) (fun c10 => ?_)
      · refine g_tabI 69 117 C dX10_plan_48 rfl (by rw [c10]; exact ⟨by decide, by decide, rfl⟩) (by decide) ?_
        refine g_aload_n C dX10_plan_117 rfl 1 rfl ?_
        refine g_getR (k2 := 57) C dX10_plan_118 rfl rfl fi_10_8 ⟨by decide, by decide, rfl⟩ fl_X10_52 ?_
        refine g_callP [] C dX10_plan_121 rfl (tX3_stepsFlown (xl Γ) (xE Γ) u4) cf_X3_stepsFlown rfl rfl ml_X10_207 rfl (by decide) (Nat.le_of_ble_eq_true rfl) rfl (fun r11 => ?_)
        exact g_iret C M dX10_plan_124 rfl rfl
      refine g_if (fun c12 => ?_) (fun c12 => ?_)
      · refine g_tabI 77 125 C dX10_plan_48 rfl (by rw [c12]; exact ⟨by decide, by decide, rfl⟩) (by decide) ?_
        refine g_aload_n C dX10_plan_125 rfl 1 rfl ?_
        refine g_getR (k2 := 57) C dX10_plan_126 rfl rfl fi_10_8 ⟨by decide, by decide, rfl⟩ fl_X10_52 ?_
        refine g_callP [] C dX10_plan_129 rfl (tX3_fieldThere (xl Γ) (xE Γ) u4) cf_X3_fieldThere rfl rfl ml_X10_210 rfl (by decide) (Nat.le_of_ble_eq_true rfl) rfl (fun r13 => ?_)
        exact g_iret C M dX10_plan_132 rfl rfl
      have ec7 := lv_neT c7 (a := 0) (by decide)
      have ec8 := lv_neT c8 (a := 1) (by decide)
      have ec9 := lv_neT c9 (a := 2) (by decide)
      have ec10 := lv_neT c10 (a := 3) (by decide)
      have ec12 := lv_neT c12 (a := 4) (by decide)
      refine g_tabO 133 C dX10_plan_48 rfl (by omega) (by decide) ?_
      refine g_aload_n C dX10_plan_133 rfl 1 rfl ?_
      refine g_getR (k2 := 57) C dX10_plan_134 rfl rfl fi_10_8 ⟨by decide, by decide, rfl⟩ fl_X10_52 ?_
      refine g_callP [] C dX10_plan_137 rfl (tX3_costThere (xl Γ) (xE Γ) u4) cf_X3_costThere rfl rfl ml_X10_213 rfl (by decide) (Nat.le_of_ble_eq_true rfl) rfl (fun r14 => ?_)
      exact g_iret C M dX10_plan_140 rfl rfl
    · refine g_bipush (v := (-9)) C dX10_plan_44 rfl (by decide) ?_
      exact g_iret C M dX10_plan_46 rfl rfl
  · refine g_aload_n C dX10_plan_14 rfl 1 rfl ?_
    refine g_iload C dX10_plan_15 rfl 0 rfl ?_
    refine g_callI [.int r1] C dX10_plan_17 rfl (tX10_refuse (xl Γ) (xE Γ) r1 u) cf_X10_refuse rfl rfl ml_X10_63 rfl (by decide) (Nat.le_of_ble_eq_true rfl) rfl (fun r16 u15 => ?_)
    exact g_iret C M dX10_plan_20 rfl rfl
set_option maxRecDepth 20000 in
set_option maxHeartbeats 4000000 in
theorem tX10_plan (l : Launch) (E : EE) (v1 : Int32) (v2 : Int32) (v3 : Int32) (u : Mm) : Ct l E yX10_plan cX10_plan 5 (some .int) 5 [.ref (E.1 1), .int v1, .int v2, .int v3] u cvI (gX10_plan v1 v2 v3 u) :=
  Ct_of (own := RX10) (by decide +kernel) rfl (Nat.le_of_ble_eq_true rfl) (fun p e R s m args below meth c C M => g_sub (ls' := [(0, .ref (E.1 1)), (1, .int v1), (2, .int v2), (3, .int v3)]) [0, 1, 2, 3] rfl (pX10_plan_0 C M rfl v1 v2 v3 u))
set_option maxRecDepth 20000 in
set_option maxHeartbeats 4000000 in
theorem pX10_had_23 {Γ : GX} (C : Cx Γ RX10 cX10_had 6) (M : Mx Γ (some .int)) (L : xn Γ = 3) (u : Mm) : Gp Γ (QM Γ cvI) 23 [(0, .ref ((xE Γ).1 1))] [] u (gX10_had_23 u) := by
  unfold gX10_had_23
  refine g_aload_n C dX10_had_23 rfl 0 rfl ?_
  refine g_bipush (v := (-2)) C dX10_had_24 rfl (by decide) ?_
  refine g_callI [.int (-2)] C dX10_had_26 rfl (tX10_refuse (xl Γ) (xE Γ) (-2) u) cf_X10_refuse rfl rfl ml_X10_63 rfl (by decide) (Nat.le_of_ble_eq_true rfl) rfl (fun r2 u1 => ?_)
  exact g_iret C M dX10_had_29 rfl rfl
set_option maxRecDepth 20000 in
set_option maxHeartbeats 4000000 in
theorem pX10_had_0 {Γ : GX} (C : Cx Γ RX10 cX10_had 6) (M : Mx Γ (some .int)) (L : xn Γ = 3) (v1 : Int32) (v2 : Int32) (u : Mm) : Gp Γ (QM Γ cvI) 0 [(0, .ref ((xE Γ).1 1)), (1, .int v1), (2, .int v2)] [] u (gX10_had_b v1 v2 u) := by
  unfold gX10_had_b
  refine g_aload_n C dX10_had_0 rfl 0 rfl ?_
  refine g_iload_n C dX10_had_1 rfl 1 rfl ?_
  refine g_callP [.int v1] C dX10_had_2 rfl (tX10_isField (xl Γ) (xE Γ) v1 u) cf_X10_isField rfl rfl ml_X10_116 rfl (by decide) (Nat.le_of_ble_eq_true rfl) rfl (fun r1 => ?_)
  refine g_if_ne 14 C dX10_had_5 rfl (by decide) (fun c2 => ?_) (fun c2 => ?_)
  · refine g_iload_n C dX10_had_14 rfl 2 rfl ?_
    refine g_if_lt 23 C dX10_had_15 rfl (by decide) (fun c3 => ?_) (fun c3 => ?_)
    · refine g_sub (ls' := [(0, .ref ((xE Γ).1 1))]) [0] rfl ?_
      exact pX10_had_23 C M L u
    · refine g_iload_n C dX10_had_18 rfl 2 rfl ?_
      refine g_iconst (v := 2) C dX10_had_19 rfl (by decide) ?_
      refine g_icmp_le 30 C dX10_had_20 rfl (by decide) (fun c4 => ?_) (fun c4 => ?_)
      · refine g_aload_n C dX10_had_30 rfl 0 rfl ?_
        refine g_getR (k2 := 57) C dX10_had_31 rfl rfl fi_10_8 ⟨by decide, by decide, rfl⟩ fl_X10_52 ?_
        refine g_aload_n C dX10_had_34 rfl 0 rfl ?_
        refine g_getR (k2 := 2) C dX10_had_35 rfl rfl fi_10_0 ⟨by decide, by decide, rfl⟩ fl_X10_10 ?_
        refine g_callV [.ref ((xE Γ).1 2)] C dX10_had_38 rfl (tX3_begin (xl Γ) (xE Γ) rfl u) cf_X3_begin rfl rfl ml_X10_188 rfl (by decide) (Nat.le_of_ble_eq_true rfl) rfl (fun u5 => ?_)
        refine g_aload_n C dX10_had_41 rfl 0 rfl ?_
        refine g_getR (k2 := 57) C dX10_had_42 rfl rfl fi_10_8 ⟨by decide, by decide, rfl⟩ fl_X10_52 ?_
        refine g_iload_n C dX10_had_45 rfl 1 rfl ?_
        refine g_callV [.int v1] C dX10_had_46 rfl (tX3_seekPlansInto (xl Γ) (xE Γ) v1 u5) cf_X3_seekPlansInto rfl rfl ml_X10_216 rfl (by decide) (Nat.le_of_ble_eq_true rfl) rfl (fun u6 => ?_)
        refine g_iload_n C dX10_had_49 rfl 2 rfl ?_
        refine g_if_ne 61 C dX10_had_50 rfl (by decide) (fun c7 => ?_) (fun c7 => ?_)
        · refine g_iload_n C dX10_had_61 rfl 2 rfl ?_
          refine g_iconst (v := 1) C dX10_had_62 rfl (by decide) ?_
          refine g_icmp_ne 76 C dX10_had_63 rfl (by decide) (fun c8 => ?_) (fun c8 => ?_)
          · refine g_aload_n C dX10_had_76 rfl 0 rfl ?_
            refine g_getR (k2 := 57) C dX10_had_77 rfl rfl fi_10_8 ⟨by decide, by decide, rfl⟩ fl_X10_52 ?_
            refine g_getI C dX10_had_80 rfl rfl fi_3_8 rfl fl_X10_225 ?_
            exact g_iret C M dX10_had_83 rfl rfl
          · refine g_aload_n C dX10_had_66 rfl 0 rfl ?_
            refine g_getR (k2 := 57) C dX10_had_67 rfl rfl fi_10_8 ⟨by decide, by decide, rfl⟩ fl_X10_52 ?_
            refine g_getI C dX10_had_70 rfl rfl fi_3_7 rfl fl_X10_222 ?_
            refine g_goto 83 C dX10_had_73 rfl (by decide) ?_
            exact g_iret C M dX10_had_83 rfl rfl
        · refine g_aload_n C dX10_had_53 rfl 0 rfl ?_
          refine g_getR (k2 := 57) C dX10_had_54 rfl rfl fi_10_8 ⟨by decide, by decide, rfl⟩ fl_X10_52 ?_
          refine g_getI C dX10_had_57 rfl rfl fi_3_6 rfl fl_X10_219 ?_
          exact g_iret C M dX10_had_60 rfl rfl
      · refine g_sub (ls' := [(0, .ref ((xE Γ).1 1))]) [0] rfl ?_
        exact pX10_had_23 C M L u
  · refine g_aload_n C dX10_had_8 rfl 0 rfl ?_
    refine g_iconst (v := (-1)) C dX10_had_9 rfl (by decide) ?_
    refine g_callI [.int (-1)] C dX10_had_10 rfl (tX10_refuse (xl Γ) (xE Γ) (-1) u) cf_X10_refuse rfl rfl ml_X10_63 rfl (by decide) (Nat.le_of_ble_eq_true rfl) rfl (fun r10 u9 => ?_)
    exact g_iret C M dX10_had_13 rfl rfl
set_option maxRecDepth 20000 in
set_option maxHeartbeats 4000000 in
theorem tX10_had (l : Launch) (E : EE) (v1 : Int32) (v2 : Int32) (u : Mm) : Ct l E yX10_had cX10_had 3 (some .int) 6 [.ref (E.1 1), .int v1, .int v2] u cvI (gX10_had v1 v2 u) :=
  Ct_of (own := RX10) (by decide +kernel) rfl (Nat.le_of_ble_eq_true rfl) (fun p e R s m args below meth c C M => g_sub (ls' := [(0, .ref (E.1 1)), (1, .int v1), (2, .int v2)]) [0, 1, 2] rfl (pX10_had_0 C M rfl v1 v2 u))
set_option maxRecDepth 20000 in
set_option maxHeartbeats 4000000 in
theorem pX10_best_9 {Γ : GX} (C : Cx Γ RX10 cX10_best 6) (M : Mx Γ (some .int)) (L : xn Γ = 2) (u : Mm) : Gp Γ (QM Γ cvI) 9 [(0, .ref ((xE Γ).1 1))] [] u (gX10_best_9 u) := by
  unfold gX10_best_9
  refine g_aload_n C dX10_best_9 rfl 0 rfl ?_
  refine g_bipush (v := (-2)) C dX10_best_10 rfl (by decide) ?_
  refine g_callI [.int (-2)] C dX10_best_12 rfl (tX10_refuse (xl Γ) (xE Γ) (-2) u) cf_X10_refuse rfl rfl ml_X10_63 rfl (by decide) (Nat.le_of_ble_eq_true rfl) rfl (fun r2 u1 => ?_)
  exact g_iret C M dX10_best_15 rfl rfl
set_option maxRecDepth 20000 in
set_option maxHeartbeats 4000000 in
theorem pX10_best_0 {Γ : GX} (C : Cx Γ RX10 cX10_best 6) (M : Mx Γ (some .int)) (L : xn Γ = 2) (v1 : Int32) (u : Mm) : Gp Γ (QM Γ cvI) 0 [(0, .ref ((xE Γ).1 1)), (1, .int v1)] [] u (gX10_best_b v1 u) := by
  unfold gX10_best_b
  refine g_iload_n C dX10_best_0 rfl 1 rfl ?_
  refine g_if_lt 9 C dX10_best_1 rfl (by decide) (fun c1 => ?_) (fun c1 => ?_)
  · refine g_sub (ls' := [(0, .ref ((xE Γ).1 1))]) [0] rfl ?_
    exact pX10_best_9 C M L u
  · refine g_iload_n C dX10_best_4 rfl 1 rfl ?_
    refine g_iconst (v := 1) C dX10_best_5 rfl (by decide) ?_
    refine g_icmp_le 16 C dX10_best_6 rfl (by decide) (fun c2 => ?_) (fun c2 => ?_)
    · refine g_aload_n C dX10_best_16 rfl 0 rfl ?_
      refine g_getR (k2 := 57) C dX10_best_17 rfl rfl fi_10_8 ⟨by decide, by decide, rfl⟩ fl_X10_52 ?_
      refine g_aload_n C dX10_best_20 rfl 0 rfl ?_
      refine g_getR (k2 := 2) C dX10_best_21 rfl rfl fi_10_0 ⟨by decide, by decide, rfl⟩ fl_X10_10 ?_
      refine g_callV [.ref ((xE Γ).1 2)] C dX10_best_24 rfl (tX3_begin (xl Γ) (xE Γ) rfl u) cf_X3_begin rfl rfl ml_X10_188 rfl (by decide) (Nat.le_of_ble_eq_true rfl) rfl (fun u3 => ?_)
      refine g_aload_n C dX10_best_27 rfl 0 rfl ?_
      refine g_getR (k2 := 57) C dX10_best_28 rfl rfl fi_10_8 ⟨by decide, by decide, rfl⟩ fl_X10_52 ?_
      refine g_callV [] C dX10_best_31 rfl (tX3_seekCheapest (xl Γ) (xE Γ) u3) cf_X3_seekCheapest rfl rfl ml_X10_228 rfl (by decide) (Nat.le_of_ble_eq_true rfl) rfl (fun u4 => ?_)
      refine g_iload_n C dX10_best_34 rfl 1 rfl ?_
      refine g_if_ne 48 C dX10_best_35 rfl (by decide) (fun c5 => ?_) (fun c5 => ?_)
      · refine g_aload_n C dX10_best_48 rfl 0 rfl ?_
        refine g_getR (k2 := 57) C dX10_best_49 rfl rfl fi_10_8 ⟨by decide, by decide, rfl⟩ fl_X10_52 ?_
        refine g_getI C dX10_best_52 rfl rfl fi_3_10 rfl fl_X10_234 ?_
        exact g_iret C M dX10_best_55 rfl rfl
      · refine g_aload_n C dX10_best_38 rfl 0 rfl ?_
        refine g_getR (k2 := 57) C dX10_best_39 rfl rfl fi_10_8 ⟨by decide, by decide, rfl⟩ fl_X10_52 ?_
        refine g_getI C dX10_best_42 rfl rfl fi_3_9 rfl fl_X10_231 ?_
        refine g_goto 55 C dX10_best_45 rfl (by decide) ?_
        exact g_iret C M dX10_best_55 rfl rfl
    · refine g_sub (ls' := [(0, .ref ((xE Γ).1 1))]) [0] rfl ?_
      exact pX10_best_9 C M L u
set_option maxRecDepth 20000 in
set_option maxHeartbeats 4000000 in
theorem tX10_best (l : Launch) (E : EE) (v1 : Int32) (u : Mm) : Ct l E yX10_best cX10_best 2 (some .int) 6 [.ref (E.1 1), .int v1] u cvI (gX10_best v1 u) :=
  Ct_of (own := RX10) (by decide +kernel) rfl (Nat.le_of_ble_eq_true rfl) (fun p e R s m args below meth c C M => g_sub (ls' := [(0, .ref (E.1 1)), (1, .int v1)]) [0, 1] rfl (pX10_best_0 C M rfl v1 u))
set_option maxRecDepth 20000 in
set_option maxHeartbeats 4000000 in
theorem pX10_left_0 {Γ : GX} (C : Cx Γ RX10 cX10_left 6) (M : Mx Γ (some .int)) (L : xn Γ = 1) (u : Mm) : Gp Γ (QM Γ cvI) 0 [(0, .ref ((xE Γ).1 1))] [] u (gX10_left_b u) := by
  unfold gX10_left_b
  refine g_aload_n C dX10_left_0 rfl 0 rfl ?_
  refine g_getR (k2 := 57) C dX10_left_1 rfl rfl fi_10_8 ⟨by decide, by decide, rfl⟩ fl_X10_52 ?_
  refine g_aload_n C dX10_left_4 rfl 0 rfl ?_
  refine g_getR (k2 := 2) C dX10_left_5 rfl rfl fi_10_0 ⟨by decide, by decide, rfl⟩ fl_X10_10 ?_
  refine g_callV [.ref ((xE Γ).1 2)] C dX10_left_8 rfl (tX3_begin (xl Γ) (xE Γ) rfl u) cf_X3_begin rfl rfl ml_X10_188 rfl (by decide) (Nat.le_of_ble_eq_true rfl) rfl (fun u1 => ?_)
  refine g_aload_n C dX10_left_11 rfl 0 rfl ?_
  refine g_getR (k2 := 57) C dX10_left_12 rfl rfl fi_10_8 ⟨by decide, by decide, rfl⟩ fl_X10_52 ?_
  refine g_callI [] C dX10_left_15 rfl (tX3_fieldsWithin (xl Γ) (xE Γ) u1) cf_X3_fieldsWithin rfl rfl ml_X10_237 rfl (by decide) (Nat.le_of_ble_eq_true rfl) rfl (fun r3 u2 => ?_)
  exact g_iret C M dX10_left_18 rfl rfl
set_option maxRecDepth 20000 in
set_option maxHeartbeats 4000000 in
theorem tX10_left (l : Launch) (E : EE) (u : Mm) : Ct l E yX10_left cX10_left 1 (some .int) 6 [.ref (E.1 1)] u cvI (gX10_left u) :=
  Ct_of (own := RX10) (by decide +kernel) rfl (Nat.le_of_ble_eq_true rfl) (fun p e R s m args below meth c C M => g_sub (ls' := [(0, .ref (E.1 1))]) [0] rfl (pX10_left_0 C M rfl u))
set_option maxRecDepth 20000 in
set_option maxHeartbeats 4000000 in
theorem pX10_keep_27s {Γ : GX} (C : Cx Γ RX10 cX10_keep 6) (M : Mx Γ (some .int)) (L : xn Γ = 3) (v1 : Int32) {j27 : Int32 → Mm → Option (Int32 × Mm)} (hj27 : ∀ (v2 : Int32) (u : Mm), Gp Γ (QM Γ cvI) 27 [(0, .ref ((xE Γ).1 1)), (1, .int v1), (2, .int v2)] [] u (j27 v2 u)) (v2 : Int32) (u : Mm) : Gp Γ (QM Γ cvI) 27 [(0, .ref ((xE Γ).1 1)), (1, .int v1), (2, .int v2)] [] u (gX10_keep_27_Ls v1 j27 v2 u) := by
  unfold gX10_keep_27_Ls
  refine g_iload_n C dX10_keep_27 rfl 2 rfl ?_
  refine g_bipush (v := 60) C dX10_keep_28 rfl (by decide) ?_
  refine g_icmp_gt 73 C dX10_keep_30 rfl (by decide) (fun c1 => ?_) (fun c1 => ?_)
  · refine g_bipush (v := (-9)) C dX10_keep_73 rfl (by decide) ?_
    exact g_iret C M dX10_keep_75 rfl rfl
  · refine g_aload_n C dX10_keep_33 rfl 0 rfl ?_
    refine g_getR (k2 := 57) C dX10_keep_34 rfl rfl fi_10_8 ⟨by decide, by decide, rfl⟩ fl_X10_52 ?_
    refine g_iload_n C dX10_keep_37 rfl 2 rfl ?_
    refine g_callV [.int v2] C dX10_keep_38 rfl (tX3_takeGas (xl Γ) (xE Γ) v2 u) cf_X3_takeGas rfl rfl ml_X10_240 rfl (by decide) (Nat.le_of_ble_eq_true rfl) rfl (fun u2 => ?_)
    refine g_aload_n C dX10_keep_41 rfl 0 rfl ?_
    refine g_getR (k2 := 57) C dX10_keep_42 rfl rfl fi_10_8 ⟨by decide, by decide, rfl⟩ fl_X10_52 ?_
    refine g_iload_n C dX10_keep_45 rfl 1 rfl ?_
    refine g_callI [.int v1] C dX10_keep_46 rfl (tX3_somePlanLeadsInto (xl Γ) (xE Γ) v1 u2) cf_X3_somePlanLeadsInto rfl rfl ml_X10_243 rfl (by decide) (Nat.le_of_ble_eq_true rfl) rfl (fun r4 u3 => ?_)
    refine g_if_eq 54 C dX10_keep_49 rfl (by decide) (fun c5 => ?_) (fun c5 => ?_)
    · refine g_aload_n C dX10_keep_54 rfl 0 rfl ?_
      refine g_getR (k2 := 57) C dX10_keep_55 rfl rfl fi_10_8 ⟨by decide, by decide, rfl⟩ fl_X10_52 ?_
      refine g_callP [] C dX10_keep_58 rfl (tX3_hasGasOver (xl Γ) (xE Γ) u3) cf_X3_hasGasOver rfl rfl ml_X10_246 rfl (by decide) (Nat.le_of_ble_eq_true rfl) rfl (fun r6 => ?_)
      refine g_if_eq 67 C dX10_keep_61 rfl (by decide) (fun c7 => ?_) (fun c7 => ?_)
      · refine g_iincL (fun v2_8 => [(2, .int v2_8), (0, .ref ((xE Γ).1 1)), (1, .int v1)]) C dX10_keep_67 rfl L (by decide) (k := 2) rfl (iinc_1 _) (fun _ => rfl) (fun v2_8 => ?_)
        refine g_goto 27 C dX10_keep_70 rfl (by decide) ?_
        refine g_sub (ls' := [(0, .ref ((xE Γ).1 1)), (1, .int v1), (2, .int v2_8)]) [1, 2, 0] rfl ?_
        exact hj27 v2_8 u3
      · refine g_bipush (v := (-9)) C dX10_keep_64 rfl (by decide) ?_
        exact g_iret C M dX10_keep_66 rfl rfl
    · refine g_iload_n C dX10_keep_52 rfl 2 rfl ?_
      exact g_iret C M dX10_keep_53 rfl rfl
set_option maxRecDepth 20000 in
set_option maxHeartbeats 4000000 in
theorem pX10_keep_27 {Γ : GX} (C : Cx Γ RX10 cX10_keep 6) (M : Mx Γ (some .int)) (L : xn Γ = 3) (v1 : Int32) : ∀ (n : Nat) (v2 : Int32) (u : Mm), Gp Γ (QM Γ cvI) 27 [(0, .ref ((xE Γ).1 1)), (1, .int v1), (2, .int v2)] [] u (gX10_keep_27_L v1 n v2 u) := by
  intro n
  induction n with
  | zero => intro _ _; exact g_none
  | succ n ih => intro v2 u; exact pX10_keep_27s C M L v1 ih v2 u

set_option maxRecDepth 20000 in
set_option maxHeartbeats 4000000 in
theorem pX10_keep_0 {Γ : GX} (C : Cx Γ RX10 cX10_keep 6) (M : Mx Γ (some .int)) (L : xn Γ = 3) (v1 : Int32) (u : Mm) : Gp Γ (QM Γ cvI) 0 [(0, .ref ((xE Γ).1 1)), (1, .int v1)] [] u (gX10_keep_b v1 u) := by
  unfold gX10_keep_b
  refine g_aload_n C dX10_keep_0 rfl 0 rfl ?_
  refine g_iload_n C dX10_keep_1 rfl 1 rfl ?_
  refine g_callP [.int v1] C dX10_keep_2 rfl (tX10_isField (xl Γ) (xE Γ) v1 u) cf_X10_isField rfl rfl ml_X10_116 rfl (by decide) (Nat.le_of_ble_eq_true rfl) rfl (fun r1 => ?_)
  refine g_if_ne 14 C dX10_keep_5 rfl (by decide) (fun c2 => ?_) (fun c2 => ?_)
  · refine g_aload_n C dX10_keep_14 rfl 0 rfl ?_
    refine g_getR (k2 := 57) C dX10_keep_15 rfl rfl fi_10_8 ⟨by decide, by decide, rfl⟩ fl_X10_52 ?_
    refine g_aload_n C dX10_keep_18 rfl 0 rfl ?_
    refine g_getR (k2 := 2) C dX10_keep_19 rfl rfl fi_10_0 ⟨by decide, by decide, rfl⟩ fl_X10_10 ?_
    refine g_callV [.ref ((xE Γ).1 2)] C dX10_keep_22 rfl (tX3_begin (xl Γ) (xE Γ) rfl u) cf_X3_begin rfl rfl ml_X10_188 rfl (by decide) (Nat.le_of_ble_eq_true rfl) rfl (fun u3 => ?_)
    refine g_iconst (v := 0) C dX10_keep_25 rfl (by decide) ?_
    refine g_istore_n (ls' := [(2, .int 0), (0, .ref ((xE Γ).1 1)), (1, .int v1)]) C dX10_keep_26 rfl L (by decide) rfl ?_
    refine g_sub (ls' := [(0, .ref ((xE Γ).1 1)), (1, .int v1), (2, .int 0)]) [1, 2, 0] rfl ?_
    exact pX10_keep_27 C M L v1 FU 0 u3
  · refine g_aload_n C dX10_keep_8 rfl 0 rfl ?_
    refine g_iconst (v := (-1)) C dX10_keep_9 rfl (by decide) ?_
    refine g_callI [.int (-1)] C dX10_keep_10 rfl (tX10_refuse (xl Γ) (xE Γ) (-1) u) cf_X10_refuse rfl rfl ml_X10_63 rfl (by decide) (Nat.le_of_ble_eq_true rfl) rfl (fun r5 u4 => ?_)
    exact g_iret C M dX10_keep_13 rfl rfl
set_option maxRecDepth 20000 in
set_option maxHeartbeats 4000000 in
theorem tX10_keep (l : Launch) (E : EE) (v1 : Int32) (u : Mm) : Ct l E yX10_keep cX10_keep 3 (some .int) 6 [.ref (E.1 1), .int v1] u cvI (gX10_keep v1 u) :=
  Ct_of (own := RX10) (by decide +kernel) rfl (Nat.le_of_ble_eq_true rfl) (fun p e R s m args below meth c C M => g_sub (ls' := [(0, .ref (E.1 1)), (1, .int v1)]) [0, 1] rfl (pX10_keep_0 C M rfl v1 u))
set_option maxRecDepth 20000 in
set_option maxHeartbeats 4000000 in
theorem pX10_goingOn_0 {Γ : GX} (C : Cx Γ RX10 cX10_goingOn 6) (M : Mx Γ (some .int)) (L : xn Γ = 4) (v1 : Int32) (u : Mm) : Gp Γ (QM Γ cvI) 0 [(0, .ref ((xE Γ).1 1)), (1, .int v1)] [] u (gX10_goingOn_b v1 u) := by
  unfold gX10_goingOn_b
  refine g_iload_n C dX10_goingOn_0 rfl 1 rfl ?_
  refine g_if_ge 14 C dX10_goingOn_1 rfl (by decide) (fun c1 => ?_) (fun c1 => ?_)
  · refine g_iload_n C dX10_goingOn_14 rfl 1 rfl ?_
    refine g_bipush (v := 20) C dX10_goingOn_15 rfl (by decide) ?_
    refine g_icmp_le 30 C dX10_goingOn_17 rfl (by decide) (fun c2 => ?_) (fun c2 => ?_)
    · refine g_aload_n C dX10_goingOn_30 rfl 0 rfl ?_
      refine g_getR (k2 := 57) C dX10_goingOn_31 rfl rfl fi_10_8 ⟨by decide, by decide, rfl⟩ fl_X10_52 ?_
      refine g_aload_n C dX10_goingOn_34 rfl 0 rfl ?_
      refine g_getR (k2 := 2) C dX10_goingOn_35 rfl rfl fi_10_0 ⟨by decide, by decide, rfl⟩ fl_X10_10 ?_
      refine g_callV [.ref ((xE Γ).1 2)] C dX10_goingOn_38 rfl (tX3_begin (xl Γ) (xE Γ) rfl u) cf_X3_begin rfl rfl ml_X10_188 rfl (by decide) (Nat.le_of_ble_eq_true rfl) rfl (fun u3 => ?_)
      refine g_aload_n C dX10_goingOn_41 rfl 0 rfl ?_
      refine g_getR (k2 := 57) C dX10_goingOn_42 rfl rfl fi_10_8 ⟨by decide, by decide, rfl⟩ fl_X10_52 ?_
      refine g_callV [] C dX10_goingOn_45 rfl (tX3_seekCheapest (xl Γ) (xE Γ) u3) cf_X3_seekCheapest rfl rfl ml_X10_228 rfl (by decide) (Nat.le_of_ble_eq_true rfl) rfl (fun u4 => ?_)
      refine g_aload_n C dX10_goingOn_48 rfl 0 rfl ?_
      refine g_getR (k2 := 57) C dX10_goingOn_49 rfl rfl fi_10_8 ⟨by decide, by decide, rfl⟩ fl_X10_52 ?_
      refine g_getI C dX10_goingOn_52 rfl rfl fi_3_10 rfl fl_X10_234 ?_
      refine g_lets (fun v2_5 => ?_)
      refine g_istore_n (ls' := [(2, .int v2_5), (0, .ref ((xE Γ).1 1)), (1, .int v1)]) C dX10_goingOn_55 rfl L (by decide) rfl ?_
      refine g_aload_n C dX10_goingOn_56 rfl 1 rfl ?_
      refine g_getR (k2 := 57) C dX10_goingOn_57 rfl rfl fi_10_8 ⟨by decide, by decide, rfl⟩ fl_X10_52 ?_
      refine g_iload_n C dX10_goingOn_60 rfl 2 rfl ?_
      refine g_callV [.int v1] C dX10_goingOn_61 rfl (tX3_holdFirst (xl Γ) (xE Γ) v1 u4) cf_X3_holdFirst rfl rfl ml_X10_249 rfl (by decide) (Nat.le_of_ble_eq_true rfl) rfl (fun u6 => ?_)
      refine g_aload_n C dX10_goingOn_64 rfl 1 rfl ?_
      refine g_getR (k2 := 57) C dX10_goingOn_65 rfl rfl fi_10_8 ⟨by decide, by decide, rfl⟩ fl_X10_52 ?_
      refine g_callV [] C dX10_goingOn_68 rfl (tX3_seekCheapest (xl Γ) (xE Γ) u6) cf_X3_seekCheapest rfl rfl ml_X10_228 rfl (by decide) (Nat.le_of_ble_eq_true rfl) rfl (fun u7 => ?_)
      refine g_aload_n C dX10_goingOn_71 rfl 1 rfl ?_
      refine g_getR (k2 := 57) C dX10_goingOn_72 rfl rfl fi_10_8 ⟨by decide, by decide, rfl⟩ fl_X10_52 ?_
      refine g_getI C dX10_goingOn_75 rfl rfl fi_3_10 rfl fl_X10_234 ?_
      refine g_lets (fun v3_8 => ?_)
      refine g_istore_n (ls' := [(3, .int v3_8), (2, .int v2_5), (0, .ref ((xE Γ).1 1)), (1, .int v1)]) C dX10_goingOn_78 rfl L (by decide) rfl ?_
      refine g_iload_n C dX10_goingOn_79 rfl 1 rfl ?_
      refine g_bipush (v := (-9)) C dX10_goingOn_80 rfl (by decide) ?_
      refine g_icmp_eq 91 C dX10_goingOn_82 rfl (by decide) (fun c9 => ?_) (fun c9 => ?_)
      · refine g_sipush (v := 1000) C dX10_goingOn_91 rfl (by decide) ?_
        refine g_goto 100 C dX10_goingOn_94 rfl (by decide) ?_
        exact g_iret C M dX10_goingOn_100 rfl rfl
      · refine g_iload_n C dX10_goingOn_85 rfl 0 rfl ?_
        refine g_bipush (v := (-9)) C dX10_goingOn_86 rfl (by decide) ?_
        refine g_icmp_ne 97 C dX10_goingOn_88 rfl (by decide) (fun c10 => ?_) (fun c10 => ?_)
        · refine g_iload_n C dX10_goingOn_97 rfl 0 rfl ?_
          refine g_iload_n C dX10_goingOn_98 rfl 1 rfl ?_
          refine g_isub C dX10_goingOn_99 rfl ?_
          exact g_iret C M dX10_goingOn_100 rfl rfl
        · refine g_sipush (v := 1000) C dX10_goingOn_91 rfl (by decide) ?_
          refine g_goto 100 C dX10_goingOn_94 rfl (by decide) ?_
          exact g_iret C M dX10_goingOn_100 rfl rfl
    · refine g_ldc (v := 1000000000) C dX10_goingOn_20 rfl (wm_20 6 rfl) ?_
      refine g_aload_n C dX10_goingOn_22 rfl 0 rfl ?_
      refine g_bipush (v := (-6)) C dX10_goingOn_23 rfl (by decide) ?_
      refine g_callI [.int (-6)] C dX10_goingOn_25 rfl (tX10_refuse (xl Γ) (xE Γ) (-6) u) cf_X10_refuse rfl rfl ml_X10_63 rfl (by decide) (Nat.le_of_ble_eq_true rfl) rfl (fun r12 u11 => ?_)
      refine g_isub C dX10_goingOn_28 rfl ?_
      exact g_iret C M dX10_goingOn_29 rfl rfl
  · refine g_ldc (v := 1000000000) C dX10_goingOn_4 rfl (wm_20 6 rfl) ?_
    refine g_aload_n C dX10_goingOn_6 rfl 0 rfl ?_
    refine g_bipush (v := (-4)) C dX10_goingOn_7 rfl (by decide) ?_
    refine g_callI [.int (-4)] C dX10_goingOn_9 rfl (tX10_refuse (xl Γ) (xE Γ) (-4) u) cf_X10_refuse rfl rfl ml_X10_63 rfl (by decide) (Nat.le_of_ble_eq_true rfl) rfl (fun r14 u13 => ?_)
    refine g_isub C dX10_goingOn_12 rfl ?_
    exact g_iret C M dX10_goingOn_13 rfl rfl
set_option maxRecDepth 20000 in
set_option maxHeartbeats 4000000 in
theorem tX10_goingOn (l : Launch) (E : EE) (v1 : Int32) (u : Mm) : Ct l E yX10_goingOn cX10_goingOn 4 (some .int) 6 [.ref (E.1 1), .int v1] u cvI (gX10_goingOn v1 u) :=
  Ct_of (own := RX10) (by decide +kernel) rfl (Nat.le_of_ble_eq_true rfl) (fun p e R s m args below meth c C M => g_sub (ls' := [(0, .ref (E.1 1)), (1, .int v1)]) [0, 1] rfl (pX10_goingOn_0 C M rfl v1 u))
set_option maxRecDepth 20000 in
set_option maxHeartbeats 4000000 in
theorem pX10_blown_9 {Γ : GX} (C : Cx Γ RX10 cX10_blown 4) (M : Mx Γ (some .int)) (L : xn Γ = 2) (u : Mm) : Gp Γ (QM Γ cvI) 9 [(0, .ref ((xE Γ).1 1))] [] u (gX10_blown_9 u) := by
  unfold gX10_blown_9
  refine g_aload_n C dX10_blown_9 rfl 0 rfl ?_
  refine g_bipush (v := (-2)) C dX10_blown_10 rfl (by decide) ?_
  refine g_callI [.int (-2)] C dX10_blown_12 rfl (tX10_refuse (xl Γ) (xE Γ) (-2) u) cf_X10_refuse rfl rfl ml_X10_63 rfl (by decide) (Nat.le_of_ble_eq_true rfl) rfl (fun r2 u1 => ?_)
  exact g_iret C M dX10_blown_15 rfl rfl
set_option maxRecDepth 20000 in
set_option maxHeartbeats 4000000 in
theorem pX10_blown_0 {Γ : GX} (C : Cx Γ RX10 cX10_blown 4) (M : Mx Γ (some .int)) (L : xn Γ = 2) (v1 : Int32) (u : Mm) : Gp Γ (QM Γ cvI) 0 [(0, .ref ((xE Γ).1 1)), (1, .int v1)] [] u (gX10_blown_b v1 u) := by
  unfold gX10_blown_b
  refine g_iload_n C dX10_blown_0 rfl 1 rfl ?_
  refine g_if_lt 9 C dX10_blown_1 rfl (by decide) (fun c1 => ?_) (fun c1 => ?_)
  · refine g_sub (ls' := [(0, .ref ((xE Γ).1 1))]) [0] rfl ?_
    exact pX10_blown_9 C M L u
  · refine g_iload_n C dX10_blown_4 rfl 1 rfl ?_
    refine g_iconst (v := 2) C dX10_blown_5 rfl (by decide) ?_
    refine g_icmp_le 16 C dX10_blown_6 rfl (by decide) (fun c2 => ?_) (fun c2 => ?_)
    · refine g_aload_n C dX10_blown_16 rfl 0 rfl ?_
      refine g_getR (k2 := 2) C dX10_blown_17 rfl rfl fi_10_0 ⟨by decide, by decide, rfl⟩ fl_X10_10 ?_
      refine g_getR (k2 := 3) C dX10_blown_20 rfl rfl fi_9_0 ⟨by decide, by decide, rfl⟩ fl_X10_100 ?_
      refine g_iload_n C dX10_blown_23 rfl 1 rfl ?_
      refine g_callP [.int v1] C dX10_blown_24 rfl (tX0_layerFarthest (xl Γ) (xE Γ) rfl v1 u) cf_X0_layerFarthest rfl rfl ml_X10_252 rfl (by decide) (Nat.le_of_ble_eq_true rfl) rfl (fun r3 => ?_)
      exact g_iret C M dX10_blown_27 rfl rfl
    · refine g_sub (ls' := [(0, .ref ((xE Γ).1 1))]) [0] rfl ?_
      exact pX10_blown_9 C M L u
set_option maxRecDepth 20000 in
set_option maxHeartbeats 4000000 in
theorem tX10_blown (l : Launch) (E : EE) (v1 : Int32) (u : Mm) : Ct l E yX10_blown cX10_blown 2 (some .int) 4 [.ref (E.1 1), .int v1] u cvI (gX10_blown v1 u) :=
  Ct_of (own := RX10) (by decide +kernel) rfl (Nat.le_of_ble_eq_true rfl) (fun p e R s m args below meth c C M => g_sub (ls' := [(0, .ref (E.1 1)), (1, .int v1)]) [0, 1] rfl (pX10_blown_0 C M rfl v1 u))
set_option maxRecDepth 20000 in
set_option maxHeartbeats 4000000 in
theorem pX10_two_10 {Γ : GX} (C : Cx Γ RX10 cX10_two 2) (M : Mx Γ (some .int)) (L : xn Γ = 5) (u : Mm) : Gp Γ (QM Γ cvI) 10 [(0, .ref ((xE Γ).1 1))] [] u (gX10_two_10 u) := by
  unfold gX10_two_10
  refine g_aload_n C dX10_two_10 rfl 0 rfl ?_
  refine g_bipush (v := (-4)) C dX10_two_11 rfl (by decide) ?_
  refine g_callI [.int (-4)] C dX10_two_13 rfl (tX10_refuse (xl Γ) (xE Γ) (-4) u) cf_X10_refuse rfl rfl ml_X10_63 rfl (by decide) (Nat.le_of_ble_eq_true rfl) rfl (fun r2 u1 => ?_)
  exact g_iret C M dX10_two_16 rfl rfl
set_option maxRecDepth 20000 in
set_option maxHeartbeats 4000000 in
theorem pX10_two_29 {Γ : GX} (C : Cx Γ RX10 cX10_two 2) (M : Mx Γ (some .int)) (L : xn Γ = 5) (u : Mm) : Gp Γ (QM Γ cvI) 29 [(0, .ref ((xE Γ).1 1))] [] u (gX10_two_29 u) := by
  unfold gX10_two_29
  refine g_aload_n C dX10_two_29 rfl 0 rfl ?_
  refine g_bipush (v := (-6)) C dX10_two_30 rfl (by decide) ?_
  refine g_callI [.int (-6)] C dX10_two_32 rfl (tX10_refuse (xl Γ) (xE Γ) (-6) u) cf_X10_refuse rfl rfl ml_X10_63 rfl (by decide) (Nat.le_of_ble_eq_true rfl) rfl (fun r2 u1 => ?_)
  exact g_iret C M dX10_two_35 rfl rfl
set_option maxRecDepth 20000 in
set_option maxHeartbeats 4000000 in
theorem pX10_two_45 {Γ : GX} (C : Cx Γ RX10 cX10_two 2) (M : Mx Γ (some .int)) (L : xn Γ = 5) (u : Mm) : Gp Γ (QM Γ cvI) 45 [(0, .ref ((xE Γ).1 1))] [] u (gX10_two_45 u) := by
  unfold gX10_two_45
  refine g_aload_n C dX10_two_45 rfl 0 rfl ?_
  refine g_bipush (v := (-2)) C dX10_two_46 rfl (by decide) ?_
  refine g_callI [.int (-2)] C dX10_two_48 rfl (tX10_refuse (xl Γ) (xE Γ) (-2) u) cf_X10_refuse rfl rfl ml_X10_63 rfl (by decide) (Nat.le_of_ble_eq_true rfl) rfl (fun r2 u1 => ?_)
  exact g_iret C M dX10_two_51 rfl rfl
set_option maxRecDepth 20000 in
set_option maxHeartbeats 4000000 in
theorem pX10_two_0 {Γ : GX} (C : Cx Γ RX10 cX10_two 2) (M : Mx Γ (some .int)) (L : xn Γ = 5) (v1 : Int32) (v2 : Int32) (v3 : Int32) (u : Mm) : Gp Γ (QM Γ cvI) 0 [(0, .ref ((xE Γ).1 1)), (1, .int v1), (2, .int v2), (3, .int v3)] [] u (gX10_two_b v1 v2 v3 u) := by
  unfold gX10_two_b
  refine g_iload_n C dX10_two_0 rfl 1 rfl ?_
  refine g_bipush (v := (-99)) C dX10_two_1 rfl (by decide) ?_
  refine g_icmp_lt 10 C dX10_two_3 rfl (by decide) (fun c1 => ?_) (fun c1 => ?_)
  · refine g_sub (ls' := [(0, .ref ((xE Γ).1 1))]) [0] rfl ?_
    exact pX10_two_10 C M L u
  · refine g_iload_n C dX10_two_6 rfl 2 rfl ?_
    refine g_if_ge 17 C dX10_two_7 rfl (by decide) (fun c2 => ?_) (fun c2 => ?_)
    · refine g_iload_n C dX10_two_17 rfl 1 rfl ?_
      refine g_bipush (v := 99) C dX10_two_18 rfl (by decide) ?_
      refine g_icmp_gt 29 C dX10_two_20 rfl (by decide) (fun c3 => ?_) (fun c3 => ?_)
      · refine g_sub (ls' := [(0, .ref ((xE Γ).1 1))]) [0] rfl ?_
        exact pX10_two_29 C M L u
      · refine g_iload_n C dX10_two_23 rfl 2 rfl ?_
        refine g_bipush (v := 99) C dX10_two_24 rfl (by decide) ?_
        refine g_icmp_le 36 C dX10_two_26 rfl (by decide) (fun c4 => ?_) (fun c4 => ?_)
        · refine g_iload_n C dX10_two_36 rfl 3 rfl ?_
          refine g_if_lt 45 C dX10_two_37 rfl (by decide) (fun c5 => ?_) (fun c5 => ?_)
          · refine g_sub (ls' := [(0, .ref ((xE Γ).1 1))]) [0] rfl ?_
            exact pX10_two_45 C M L u
          · refine g_iload_n C dX10_two_40 rfl 3 rfl ?_
            refine g_iconst (v := 1) C dX10_two_41 rfl (by decide) ?_
            refine g_icmp_le 52 C dX10_two_42 rfl (by decide) (fun c6 => ?_) (fun c6 => ?_)
            · refine g_aload_n C dX10_two_52 rfl 0 rfl ?_
              refine g_getR (k2 := 2) C dX10_two_53 rfl rfl fi_10_0 ⟨by decide, by decide, rfl⟩ fl_X10_10 ?_
              refine g_getR (k2 := 3) C dX10_two_56 rfl rfl fi_9_0 ⟨by decide, by decide, rfl⟩ fl_X10_100 ?_
              refine g_iload_n C dX10_two_59 rfl 1 rfl ?_
              refine g_iload_n C dX10_two_60 rfl 2 rfl ?_
              refine g_callP [.int v1, .int v2] C dX10_two_61 rfl (tX0_fewestSteps (xl Γ) (xE Γ) rfl v1 v2 u) cf_X0_fewestSteps rfl rfl ml_X10_255 rfl (by decide) (Nat.le_of_ble_eq_true rfl) rfl (fun r7 => ?_)
              refine g_istore (ls' := [(4, .int r7), (0, .ref ((xE Γ).1 1)), (1, .int v1), (2, .int v2), (3, .int v3)]) C dX10_two_64 rfl L (by decide) rfl ?_
              refine g_iload_n C dX10_two_66 rfl 4 rfl ?_
              refine g_if_eq 77 C dX10_two_67 rfl (by decide) (fun c8 => ?_) (fun c8 => ?_)
              · refine g_iload C dX10_two_77 rfl 0 rfl ?_
                refine g_goto 96 C dX10_two_79 rfl (by decide) ?_
                exact g_iret C M dX10_two_96 rfl rfl
              · refine g_iload C dX10_two_70 rfl 0 rfl ?_
                refine g_bipush (v := (-9)) C dX10_two_72 rfl (by decide) ?_
                refine g_icmp_ne 82 C dX10_two_74 rfl (by decide) (fun c9 => ?_) (fun c9 => ?_)
                · refine g_aload_n C dX10_two_82 rfl 1 rfl ?_
                  refine g_getR (k2 := 2) C dX10_two_83 rfl rfl fi_10_0 ⟨by decide, by decide, rfl⟩ fl_X10_10 ?_
                  refine g_getR (k2 := 3) C dX10_two_86 rfl rfl fi_9_0 ⟨by decide, by decide, rfl⟩ fl_X10_100 ?_
                  refine g_iload C dX10_two_89 rfl 0 rfl ?_
                  refine g_iload_n C dX10_two_91 rfl 2 rfl ?_
                  refine g_iload_n C dX10_two_92 rfl 3 rfl ?_
                  refine g_callP [.int r7, .int v1, .int v2] C dX10_two_93 rfl (tX0_layersFor (xl Γ) (xE Γ) rfl r7 v1 v2 u) cf_X0_layersFor rfl rfl ml_X10_258 rfl (by decide) (Nat.le_of_ble_eq_true rfl) rfl (fun r10 => ?_)
                  exact g_iret C M dX10_two_96 rfl rfl
                · refine g_iload C dX10_two_77 rfl 0 rfl ?_
                  refine g_goto 96 C dX10_two_79 rfl (by decide) ?_
                  exact g_iret C M dX10_two_96 rfl rfl
            · refine g_sub (ls' := [(0, .ref ((xE Γ).1 1))]) [0] rfl ?_
              exact pX10_two_45 C M L u
        · refine g_sub (ls' := [(0, .ref ((xE Γ).1 1))]) [0] rfl ?_
          exact pX10_two_29 C M L u
    · refine g_sub (ls' := [(0, .ref ((xE Γ).1 1))]) [0] rfl ?_
      exact pX10_two_10 C M L u
set_option maxRecDepth 20000 in
set_option maxHeartbeats 4000000 in
theorem tX10_two (l : Launch) (E : EE) (v1 : Int32) (v2 : Int32) (v3 : Int32) (u : Mm) : Ct l E yX10_two cX10_two 5 (some .int) 2 [.ref (E.1 1), .int v1, .int v2, .int v3] u cvI (gX10_two v1 v2 v3 u) :=
  Ct_of (own := RX10) (by decide +kernel) rfl (Nat.le_of_ble_eq_true rfl) (fun p e R s m args below meth c C M => g_sub (ls' := [(0, .ref (E.1 1)), (1, .int v1), (2, .int v2), (3, .int v3)]) [0, 1, 2, 3] rfl (pX10_two_0 C M rfl v1 v2 v3 u))
set_option maxRecDepth 20000 in
set_option maxHeartbeats 4000000 in
theorem pX10_swing_9 {Γ : GX} (C : Cx Γ RX10 cX10_swing 4) (M : Mx Γ (some .int)) (L : xn Γ = 2) (u : Mm) : Gp Γ (QM Γ cvI) 9 [(0, .ref ((xE Γ).1 1))] [] u (gX10_swing_9 u) := by
  unfold gX10_swing_9
  refine g_aload_n C dX10_swing_9 rfl 0 rfl ?_
  refine g_bipush (v := (-2)) C dX10_swing_10 rfl (by decide) ?_
  refine g_callI [.int (-2)] C dX10_swing_12 rfl (tX10_refuse (xl Γ) (xE Γ) (-2) u) cf_X10_refuse rfl rfl ml_X10_63 rfl (by decide) (Nat.le_of_ble_eq_true rfl) rfl (fun r2 u1 => ?_)
  exact g_iret C M dX10_swing_15 rfl rfl
set_option maxRecDepth 20000 in
set_option maxHeartbeats 4000000 in
theorem pX10_swing_0 {Γ : GX} (C : Cx Γ RX10 cX10_swing 4) (M : Mx Γ (some .int)) (L : xn Γ = 2) (v1 : Int32) (u : Mm) : Gp Γ (QM Γ cvI) 0 [(0, .ref ((xE Γ).1 1)), (1, .int v1)] [] u (gX10_swing_b v1 u) := by
  unfold gX10_swing_b
  refine g_iload_n C dX10_swing_0 rfl 1 rfl ?_
  refine g_if_lt 9 C dX10_swing_1 rfl (by decide) (fun c1 => ?_) (fun c1 => ?_)
  · refine g_sub (ls' := [(0, .ref ((xE Γ).1 1))]) [0] rfl ?_
    exact pX10_swing_9 C M L u
  · refine g_iload_n C dX10_swing_4 rfl 1 rfl ?_
    refine g_iconst (v := 2) C dX10_swing_5 rfl (by decide) ?_
    refine g_icmp_le 16 C dX10_swing_6 rfl (by decide) (fun c2 => ?_) (fun c2 => ?_)
    · refine g_aload_n C dX10_swing_16 rfl 0 rfl ?_
      refine g_getR (k2 := 57) C dX10_swing_17 rfl rfl fi_10_8 ⟨by decide, by decide, rfl⟩ fl_X10_52 ?_
      refine g_aload_n C dX10_swing_20 rfl 0 rfl ?_
      refine g_getR (k2 := 2) C dX10_swing_21 rfl rfl fi_10_0 ⟨by decide, by decide, rfl⟩ fl_X10_10 ?_
      refine g_callV [.ref ((xE Γ).1 2)] C dX10_swing_24 rfl (tX3_begin (xl Γ) (xE Γ) rfl u) cf_X3_begin rfl rfl ml_X10_188 rfl (by decide) (Nat.le_of_ble_eq_true rfl) rfl (fun u3 => ?_)
      refine g_aload_n C dX10_swing_27 rfl 0 rfl ?_
      refine g_getR (k2 := 57) C dX10_swing_28 rfl rfl fi_10_8 ⟨by decide, by decide, rfl⟩ fl_X10_52 ?_
      refine g_iconst (v := 1) C dX10_swing_31 rfl (by decide) ?_
      refine g_callV [.int 1] C dX10_swing_32 rfl (tX3_answerEach (xl Γ) (xE Γ) 1 u3) cf_X3_answerEach rfl rfl ml_X10_261 rfl (by decide) (Nat.le_of_ble_eq_true rfl) rfl (fun u4 => ?_)
      refine g_iload_n C dX10_swing_35 rfl 1 rfl ?_
      refine g_iconst (v := 2) C dX10_swing_36 rfl (by decide) ?_
      refine g_icmp_ne 56 C dX10_swing_37 rfl (by decide) (fun c5 => ?_) (fun c5 => ?_)
      · refine g_iload_n C dX10_swing_56 rfl 1 rfl ?_
        refine g_if_ne 70 C dX10_swing_57 rfl (by decide) (fun c6 => ?_) (fun c6 => ?_)
        · refine g_aload_n C dX10_swing_70 rfl 0 rfl ?_
          refine g_getR (k2 := 57) C dX10_swing_71 rfl rfl fi_10_8 ⟨by decide, by decide, rfl⟩ fl_X10_52 ?_
          refine g_getI C dX10_swing_74 rfl rfl fi_3_12 rfl fl_X10_270 ?_
          exact g_iret C M dX10_swing_77 rfl rfl
        · refine g_aload_n C dX10_swing_60 rfl 0 rfl ?_
          refine g_getR (k2 := 57) C dX10_swing_61 rfl rfl fi_10_8 ⟨by decide, by decide, rfl⟩ fl_X10_52 ?_
          refine g_getI C dX10_swing_64 rfl rfl fi_3_11 rfl fl_X10_267 ?_
          refine g_goto 77 C dX10_swing_67 rfl (by decide) ?_
          exact g_iret C M dX10_swing_77 rfl rfl
      · refine g_aload_n C dX10_swing_40 rfl 0 rfl ?_
        refine g_getR (k2 := 57) C dX10_swing_41 rfl rfl fi_10_8 ⟨by decide, by decide, rfl⟩ fl_X10_52 ?_
        refine g_callP [] C dX10_swing_44 rfl (tX3_swingGrows (xl Γ) (xE Γ) u4) cf_X3_swingGrows rfl rfl ml_X10_264 rfl (by decide) (Nat.le_of_ble_eq_true rfl) rfl (fun r7 => ?_)
        refine g_if_eq 54 C dX10_swing_47 rfl (by decide) (fun c8 => ?_) (fun c8 => ?_)
        · refine g_iconst (v := 0) C dX10_swing_54 rfl (by decide) ?_
          exact g_iret C M dX10_swing_55 rfl rfl
        · refine g_iconst (v := 1) C dX10_swing_50 rfl (by decide) ?_
          refine g_goto 55 C dX10_swing_51 rfl (by decide) ?_
          exact g_iret C M dX10_swing_55 rfl rfl
    · refine g_sub (ls' := [(0, .ref ((xE Γ).1 1))]) [0] rfl ?_
      exact pX10_swing_9 C M L u
set_option maxRecDepth 20000 in
set_option maxHeartbeats 4000000 in
theorem tX10_swing (l : Launch) (E : EE) (v1 : Int32) (u : Mm) : Ct l E yX10_swing cX10_swing 2 (some .int) 4 [.ref (E.1 1), .int v1] u cvI (gX10_swing v1 u) :=
  Ct_of (own := RX10) (by decide +kernel) rfl (Nat.le_of_ble_eq_true rfl) (fun p e R s m args below meth c C M => g_sub (ls' := [(0, .ref (E.1 1)), (1, .int v1)]) [0, 1] rfl (pX10_swing_0 C M rfl v1 u))
set_option maxRecDepth 20000 in
set_option maxHeartbeats 4000000 in
theorem pX10_calm_13s {Γ : GX} (C : Cx Γ RX10 cX10_calm 4) (M : Mx Γ (some .int)) (L : xn Γ = 2) {j13 : Int32 → Mm → Option (Int32 × Mm)} (hj13 : ∀ (v1 : Int32) (u : Mm), Gp Γ (QM Γ cvI) 13 [(0, .ref ((xE Γ).1 1)), (1, .int v1)] [] u (j13 v1 u)) (v1 : Int32) (u : Mm) : Gp Γ (QM Γ cvI) 13 [(0, .ref ((xE Γ).1 1)), (1, .int v1)] [] u (gX10_calm_13_Ls j13 v1 u) := by
  unfold gX10_calm_13_Ls
  refine g_iload_n C dX10_calm_13 rfl 1 rfl ?_
  refine g_bipush (v := 9) C dX10_calm_14 rfl (by decide) ?_
  refine g_icmp_gt 45 C dX10_calm_16 rfl (by decide) (fun c1 => ?_) (fun c1 => ?_)
  · refine g_bipush (v := (-9)) C dX10_calm_45 rfl (by decide) ?_
    exact g_iret C M dX10_calm_47 rfl rfl
  · refine g_aload_n C dX10_calm_19 rfl 0 rfl ?_
    refine g_getR (k2 := 57) C dX10_calm_20 rfl rfl fi_10_8 ⟨by decide, by decide, rfl⟩ fl_X10_52 ?_
    refine g_iload_n C dX10_calm_23 rfl 1 rfl ?_
    refine g_callV [.int v1] C dX10_calm_24 rfl (tX3_answerEach (xl Γ) (xE Γ) v1 u) cf_X3_answerEach rfl rfl ml_X10_261 rfl (by decide) (Nat.le_of_ble_eq_true rfl) rfl (fun u2 => ?_)
    refine g_aload_n C dX10_calm_27 rfl 0 rfl ?_
    refine g_getR (k2 := 57) C dX10_calm_28 rfl rfl fi_10_8 ⟨by decide, by decide, rfl⟩ fl_X10_52 ?_
    refine g_callP [] C dX10_calm_31 rfl (tX3_swingGrows (xl Γ) (xE Γ) u2) cf_X3_swingGrows rfl rfl ml_X10_264 rfl (by decide) (Nat.le_of_ble_eq_true rfl) rfl (fun r3 => ?_)
    refine g_if_ne 39 C dX10_calm_34 rfl (by decide) (fun c4 => ?_) (fun c4 => ?_)
    · refine g_iincL (fun v1_5 => [(1, .int v1_5), (0, .ref ((xE Γ).1 1))]) C dX10_calm_39 rfl L (by decide) (k := 1) rfl (iinc_1 _) (fun _ => rfl) (fun v1_5 => ?_)
      refine g_goto 13 C dX10_calm_42 rfl (by decide) ?_
      refine g_sub (ls' := [(0, .ref ((xE Γ).1 1)), (1, .int v1_5)]) [1, 0] rfl ?_
      exact hj13 v1_5 u2
    · refine g_iload_n C dX10_calm_37 rfl 1 rfl ?_
      exact g_iret C M dX10_calm_38 rfl rfl
set_option maxRecDepth 20000 in
set_option maxHeartbeats 4000000 in
theorem pX10_calm_13 {Γ : GX} (C : Cx Γ RX10 cX10_calm 4) (M : Mx Γ (some .int)) (L : xn Γ = 2) : ∀ (n : Nat) (v1 : Int32) (u : Mm), Gp Γ (QM Γ cvI) 13 [(0, .ref ((xE Γ).1 1)), (1, .int v1)] [] u (gX10_calm_13_L n v1 u) := by
  intro n
  induction n with
  | zero => intro _ _; exact g_none
  | succ n ih => intro v1 u; exact pX10_calm_13s C M L ih v1 u

set_option maxRecDepth 20000 in
set_option maxHeartbeats 4000000 in
theorem pX10_calm_0 {Γ : GX} (C : Cx Γ RX10 cX10_calm 4) (M : Mx Γ (some .int)) (L : xn Γ = 2) (u : Mm) : Gp Γ (QM Γ cvI) 0 [(0, .ref ((xE Γ).1 1))] [] u (gX10_calm_b u) := by
  unfold gX10_calm_b
  refine g_aload_n C dX10_calm_0 rfl 0 rfl ?_
  refine g_getR (k2 := 57) C dX10_calm_1 rfl rfl fi_10_8 ⟨by decide, by decide, rfl⟩ fl_X10_52 ?_
  refine g_aload_n C dX10_calm_4 rfl 0 rfl ?_
  refine g_getR (k2 := 2) C dX10_calm_5 rfl rfl fi_10_0 ⟨by decide, by decide, rfl⟩ fl_X10_10 ?_
  refine g_callV [.ref ((xE Γ).1 2)] C dX10_calm_8 rfl (tX3_begin (xl Γ) (xE Γ) rfl u) cf_X3_begin rfl rfl ml_X10_188 rfl (by decide) (Nat.le_of_ble_eq_true rfl) rfl (fun u1 => ?_)
  refine g_iconst (v := 1) C dX10_calm_11 rfl (by decide) ?_
  refine g_istore_n (ls' := [(1, .int 1), (0, .ref ((xE Γ).1 1))]) C dX10_calm_12 rfl L (by decide) rfl ?_
  refine g_sub (ls' := [(0, .ref ((xE Γ).1 1)), (1, .int 1)]) [1, 0] rfl ?_
  exact pX10_calm_13 C M L FU 1 u1
set_option maxRecDepth 20000 in
set_option maxHeartbeats 4000000 in
theorem tX10_calm (l : Launch) (E : EE) (u : Mm) : Ct l E yX10_calm cX10_calm 2 (some .int) 4 [.ref (E.1 1)] u cvI (gX10_calm u) :=
  Ct_of (own := RX10) (by decide +kernel) rfl (Nat.le_of_ble_eq_true rfl) (fun p e R s m args below meth c C M => g_sub (ls' := [(0, .ref (E.1 1))]) [0] rfl (pX10_calm_0 C M rfl u))
set_option maxRecDepth 20000 in
set_option maxHeartbeats 4000000 in
theorem pX10_out_0 {Γ : GX} (C : Cx Γ RX10 cX10_out 2) (M : Mx Γ (some .int)) (L : xn Γ = 1) (u : Mm) : Gp Γ (QM Γ (cvP u)) 0 [(0, .ref ((xE Γ).1 1))] [] u (gX10_out_b u) := by
  unfold gX10_out_b
  refine g_aload_n C dX10_out_0 rfl 0 rfl ?_
  refine g_getR (k2 := 2) C dX10_out_1 rfl rfl fi_10_0 ⟨by decide, by decide, rfl⟩ fl_X10_10 ?_
  refine g_getR (k2 := 14) C dX10_out_4 rfl rfl fi_9_3 ⟨by decide, by decide, rfl⟩ fl_X10_129 ?_
  refine g_getI C dX10_out_7 rfl rfl fi_2_0 rfl fl_X10_175 ?_
  refine g_if_le 18 C dX10_out_10 rfl (by decide) (fun c1 => ?_) (fun c1 => ?_)
  · refine g_aload_n C dX10_out_18 rfl 0 rfl ?_
    refine g_getR (k2 := 2) C dX10_out_19 rfl rfl fi_10_0 ⟨by decide, by decide, rfl⟩ fl_X10_10 ?_
    refine g_getR (k2 := 14) C dX10_out_22 rfl rfl fi_9_3 ⟨by decide, by decide, rfl⟩ fl_X10_129 ?_
    refine g_callP [] C dX10_out_25 rfl (tX2_peopleWhoCanLeave (xl Γ) (xE Γ) rfl u) cf_X2_peopleWhoCanLeave rfl rfl ml_X10_273 rfl (by decide) (Nat.le_of_ble_eq_true rfl) rfl (fun r2 => ?_)
    exact g_iret C M dX10_out_28 rfl rfl
  · refine g_bipush (v := (-9)) C dX10_out_13 rfl (by decide) ?_
    refine g_goto 28 C dX10_out_15 rfl (by decide) ?_
    exact g_iret C M dX10_out_28 rfl rfl
set_option maxRecDepth 20000 in
set_option maxHeartbeats 4000000 in
theorem tX10_out (l : Launch) (E : EE) (u : Mm) : Ct l E yX10_out cX10_out 1 (some .int) 2 [.ref (E.1 1)] u (cvP u) (gX10_out u) :=
  Ct_of (own := RX10) (by decide +kernel) rfl (Nat.le_of_ble_eq_true rfl) (fun p e R s m args below meth c C M => g_sub (ls' := [(0, .ref (E.1 1))]) [0] rfl (pX10_out_0 C M rfl u))
set_option maxRecDepth 20000 in
set_option maxHeartbeats 4000000 in
theorem pX10_road_0 {Γ : GX} (C : Cx Γ RX10 cX10_road 2) (M : Mx Γ (some .int)) (L : xn Γ = 5) (v1 : Int32) (v2 : Int32) (v3 : Int32) (u : Mm) : Gp Γ (QM Γ cvI) 0 [(0, .ref ((xE Γ).1 1)), (1, .int v1), (2, .int v2), (3, .int v3)] [] u (gX10_road_b v1 v2 v3 u) := by
  unfold gX10_road_b
  refine g_iload_n C dX10_road_0 rfl 1 rfl ?_
  refine g_iload_n C dX10_road_1 rfl 2 rfl ?_
  refine g_callsP [.int v1, .int v2] C dX10_road_2 rfl (tX10_areTwoPlaces (xl Γ) (xE Γ) v1 v2 u) cf_X10_areTwoPlaces ml_X10_276 rfl (by decide) (Nat.le_of_ble_eq_true rfl) rfl (fun r1 => ?_)
  refine g_if_ne 14 C dX10_road_5 rfl (by decide) (fun c2 => ?_) (fun c2 => ?_)
  · refine g_iload_n C dX10_road_14 rfl 3 rfl ?_
    refine g_if_ge 25 C dX10_road_15 rfl (by decide) (fun c3 => ?_) (fun c3 => ?_)
    · refine g_iload_n C dX10_road_25 rfl 3 rfl ?_
      refine g_bipush (v := 99) C dX10_road_26 rfl (by decide) ?_
      refine g_icmp_le 38 C dX10_road_28 rfl (by decide) (fun c4 => ?_) (fun c4 => ?_)
      · refine g_aload_n C dX10_road_38 rfl 0 rfl ?_
        refine g_getR (k2 := 2) C dX10_road_39 rfl rfl fi_10_0 ⟨by decide, by decide, rfl⟩ fl_X10_10 ?_
        refine g_getR (k2 := 12) C dX10_road_42 rfl rfl fi_9_2 ⟨by decide, by decide, rfl⟩ fl_X10_279 ?_
        refine g_iload_n C dX10_road_45 rfl 1 rfl ?_
        refine g_iload_n C dX10_road_46 rfl 2 rfl ?_
        refine g_callP [.int v1, .int v2] C dX10_road_47 rfl (tX6_between (xl Γ) (xE Γ) rfl v1 v2 u) cf_X6_between rfl rfl ml_X10_283 rfl (by decide) (Nat.le_of_ble_eq_true rfl) rfl (fun r5 => ?_)
        refine g_istore (ls' := [(4, .int r5), (0, .ref ((xE Γ).1 1)), (1, .int v1), (2, .int v2), (3, .int v3)]) C dX10_road_50 rfl L (by decide) rfl ?_
        refine g_aload_n C dX10_road_52 rfl 1 rfl ?_
        refine g_getR (k2 := 2) C dX10_road_53 rfl rfl fi_10_0 ⟨by decide, by decide, rfl⟩ fl_X10_10 ?_
        refine g_getR (k2 := 12) C dX10_road_56 rfl rfl fi_9_2 ⟨by decide, by decide, rfl⟩ fl_X10_279 ?_
        refine g_iload_n C dX10_road_59 rfl 2 rfl ?_
        refine g_iload_n C dX10_road_60 rfl 3 rfl ?_
        refine g_iload_n C dX10_road_61 rfl 4 rfl ?_
        refine g_callV [.int v1, .int v2, .int v3] C dX10_road_62 rfl (tX6_lay (xl Γ) (xE Γ) rfl v1 v2 v3 u) cf_X6_lay rfl rfl ml_X10_288 rfl (by decide) (Nat.le_of_ble_eq_true rfl) rfl (fun u6 => ?_)
        refine g_aload_n C dX10_road_65 rfl 1 rfl ?_
        refine g_getR (k2 := 41) C dX10_road_66 rfl rfl fi_10_4 ⟨by decide, by decide, rfl⟩ fl_X10_25 ?_
        refine g_callV [] C dX10_road_69 rfl (tX4_forget (xl Γ) (xE Γ) u6) cf_X4_forget rfl rfl ml_X10_92 rfl (by decide) (Nat.le_of_ble_eq_true rfl) rfl (fun u7 => ?_)
        refine g_iload C dX10_road_72 rfl 0 rfl ?_
        exact g_iret C M dX10_road_74 rfl rfl
      · refine g_aload_n C dX10_road_31 rfl 0 rfl ?_
        refine g_bipush (v := (-6)) C dX10_road_32 rfl (by decide) ?_
        refine g_callI [.int (-6)] C dX10_road_34 rfl (tX10_refuse (xl Γ) (xE Γ) (-6) u) cf_X10_refuse rfl rfl ml_X10_63 rfl (by decide) (Nat.le_of_ble_eq_true rfl) rfl (fun r9 u8 => ?_)
        exact g_iret C M dX10_road_37 rfl rfl
    · refine g_aload_n C dX10_road_18 rfl 0 rfl ?_
      refine g_bipush (v := (-4)) C dX10_road_19 rfl (by decide) ?_
      refine g_callI [.int (-4)] C dX10_road_21 rfl (tX10_refuse (xl Γ) (xE Γ) (-4) u) cf_X10_refuse rfl rfl ml_X10_63 rfl (by decide) (Nat.le_of_ble_eq_true rfl) rfl (fun r11 u10 => ?_)
      exact g_iret C M dX10_road_24 rfl rfl
  · refine g_aload_n C dX10_road_8 rfl 0 rfl ?_
    refine g_iconst (v := (-1)) C dX10_road_9 rfl (by decide) ?_
    refine g_callI [.int (-1)] C dX10_road_10 rfl (tX10_refuse (xl Γ) (xE Γ) (-1) u) cf_X10_refuse rfl rfl ml_X10_63 rfl (by decide) (Nat.le_of_ble_eq_true rfl) rfl (fun r13 u12 => ?_)
    exact g_iret C M dX10_road_13 rfl rfl
set_option maxRecDepth 20000 in
set_option maxHeartbeats 4000000 in
theorem tX10_road (l : Launch) (E : EE) (v1 : Int32) (v2 : Int32) (v3 : Int32) (u : Mm) : Ct l E yX10_road cX10_road 5 (some .int) 2 [.ref (E.1 1), .int v1, .int v2, .int v3] u cvI (gX10_road v1 v2 v3 u) :=
  Ct_of (own := RX10) (by decide +kernel) rfl (Nat.le_of_ble_eq_true rfl) (fun p e R s m args below meth c C M => g_sub (ls' := [(0, .ref (E.1 1)), (1, .int v1), (2, .int v2), (3, .int v3)]) [0, 1, 2, 3] rfl (pX10_road_0 C M rfl v1 v2 v3 u))
set_option maxRecDepth 20000 in
set_option maxHeartbeats 4000000 in
theorem pX10_car_0 {Γ : GX} (C : Cx Γ RX10 cX10_car 1) (M : Mx Γ (some .int)) (L : xn Γ = 3) (v1 : Int32) (u : Mm) : Gp Γ (QM Γ cvI) 0 [(0, .ref ((xE Γ).1 1)), (1, .int v1)] [] u (gX10_car_b v1 u) := by
  unfold gX10_car_b
  refine g_iload_n C dX10_car_0 rfl 1 rfl ?_
  refine g_callsP [.int v1] C dX10_car_1 rfl (tX10_isPlace (xl Γ) (xE Γ) v1 u) cf_X10_isPlace ml_X10_291 rfl (by decide) (Nat.le_of_ble_eq_true rfl) rfl (fun r1 => ?_)
  refine g_if_ne 13 C dX10_car_4 rfl (by decide) (fun c2 => ?_) (fun c2 => ?_)
  · refine g_aload_n C dX10_car_13 rfl 0 rfl ?_
    refine g_getR (k2 := 2) C dX10_car_14 rfl rfl fi_10_0 ⟨by decide, by decide, rfl⟩ fl_X10_10 ?_
    refine g_getR (k2 := 12) C dX10_car_17 rfl rfl fi_9_2 ⟨by decide, by decide, rfl⟩ fl_X10_279 ?_
    refine g_getI C dX10_car_20 rfl rfl fi_6_0 rfl fl_X10_294 ?_
    refine g_lets (fun v2_3 => ?_)
    refine g_istore_n (ls' := [(2, .int v2_3), (0, .ref ((xE Γ).1 1)), (1, .int v1)]) C dX10_car_23 rfl L (by decide) rfl ?_
    refine g_aload_n C dX10_car_24 rfl 1 rfl ?_
    refine g_getR (k2 := 2) C dX10_car_25 rfl rfl fi_10_0 ⟨by decide, by decide, rfl⟩ fl_X10_10 ?_
    refine g_getR (k2 := 12) C dX10_car_28 rfl rfl fi_9_2 ⟨by decide, by decide, rfl⟩ fl_X10_279 ?_
    refine g_iload_n C dX10_car_31 rfl 2 rfl ?_
    refine g_putI C dX10_car_32 rfl rfl fp_6_0 rfl fl_X10_294 ?_
    refine g_letm (fun u4 => ?_)
    refine g_aload_n C dX10_car_35 rfl 1 rfl ?_
    refine g_getR (k2 := 41) C dX10_car_36 rfl rfl fi_10_4 ⟨by decide, by decide, rfl⟩ fl_X10_25 ?_
    refine g_callV [] C dX10_car_39 rfl (tX4_forget (xl Γ) (xE Γ) u4) cf_X4_forget rfl rfl ml_X10_92 rfl (by decide) (Nat.le_of_ble_eq_true rfl) rfl (fun u5 => ?_)
    refine g_iload_n C dX10_car_42 rfl 0 rfl ?_
    exact g_iret C M dX10_car_43 rfl rfl
  · refine g_aload_n C dX10_car_7 rfl 0 rfl ?_
    refine g_iconst (v := (-1)) C dX10_car_8 rfl (by decide) ?_
    refine g_callI [.int (-1)] C dX10_car_9 rfl (tX10_refuse (xl Γ) (xE Γ) (-1) u) cf_X10_refuse rfl rfl ml_X10_63 rfl (by decide) (Nat.le_of_ble_eq_true rfl) rfl (fun r7 u6 => ?_)
    exact g_iret C M dX10_car_12 rfl rfl
set_option maxRecDepth 20000 in
set_option maxHeartbeats 4000000 in
theorem tX10_car (l : Launch) (E : EE) (v1 : Int32) (u : Mm) : Ct l E yX10_car cX10_car 3 (some .int) 1 [.ref (E.1 1), .int v1] u cvI (gX10_car v1 u) :=
  Ct_of (own := RX10) (by decide +kernel) rfl (Nat.le_of_ble_eq_true rfl) (fun p e R s m args below meth c C M => g_sub (ls' := [(0, .ref (E.1 1)), (1, .int v1)]) [0, 1] rfl (pX10_car_0 C M rfl v1 u))
set_option maxRecDepth 20000 in
set_option maxHeartbeats 4000000 in
theorem pX10_drive_0 {Γ : GX} (C : Cx Γ RX10 cX10_drive 4) (M : Mx Γ (some .int)) (L : xn Γ = 2) (v1 : Int32) (u : Mm) : Gp Γ (QM Γ cvI) 0 [(0, .ref ((xE Γ).1 1)), (1, .int v1)] [] u (gX10_drive_b v1 u) := by
  unfold gX10_drive_b
  refine g_iload_n C dX10_drive_0 rfl 1 rfl ?_
  refine g_callsP [.int v1] C dX10_drive_1 rfl (tX10_isPlace (xl Γ) (xE Γ) v1 u) cf_X10_isPlace ml_X10_291 rfl (by decide) (Nat.le_of_ble_eq_true rfl) rfl (fun r1 => ?_)
  refine g_if_ne 13 C dX10_drive_4 rfl (by decide) (fun c2 => ?_) (fun c2 => ?_)
  · refine g_aload_n C dX10_drive_13 rfl 0 rfl ?_
    refine g_getR (k2 := 71) C dX10_drive_14 rfl rfl fi_10_9 ⟨by decide, by decide, rfl⟩ fl_X10_59 ?_
    refine g_aload_n C dX10_drive_17 rfl 0 rfl ?_
    refine g_getR (k2 := 2) C dX10_drive_18 rfl rfl fi_10_0 ⟨by decide, by decide, rfl⟩ fl_X10_10 ?_
    refine g_getR (k2 := 12) C dX10_drive_21 rfl rfl fi_9_2 ⟨by decide, by decide, rfl⟩ fl_X10_279 ?_
    refine g_callV [.ref ((xE Γ).1 12)] C dX10_drive_24 rfl (tX8_measure (xl Γ) (xE Γ) rfl u) cf_X8_measure rfl rfl ml_X10_297 rfl (by decide) (Nat.le_of_ble_eq_true rfl) rfl (fun u3 => ?_)
    refine g_aload_n C dX10_drive_27 rfl 0 rfl ?_
    refine g_getR (k2 := 71) C dX10_drive_28 rfl rfl fi_10_9 ⟨by decide, by decide, rfl⟩ fl_X10_59 ?_
    refine g_aload_n C dX10_drive_31 rfl 0 rfl ?_
    refine g_getR (k2 := 2) C dX10_drive_32 rfl rfl fi_10_0 ⟨by decide, by decide, rfl⟩ fl_X10_10 ?_
    refine g_getR (k2 := 12) C dX10_drive_35 rfl rfl fi_9_2 ⟨by decide, by decide, rfl⟩ fl_X10_279 ?_
    refine g_getI C dX10_drive_38 rfl rfl fi_6_0 rfl fl_X10_294 ?_
    refine g_iload_n C dX10_drive_41 rfl 1 rfl ?_
    refine g_callP [.int (u3 12 0), .int v1] C dX10_drive_42 rfl (tX8_minutesOrNone (xl Γ) (xE Γ) (u3 12 0) v1 u3) cf_X8_minutesOrNone rfl rfl ml_X10_301 rfl (by decide) (Nat.le_of_ble_eq_true rfl) rfl (fun r4 => ?_)
    exact g_iret C M dX10_drive_45 rfl rfl
  · refine g_aload_n C dX10_drive_7 rfl 0 rfl ?_
    refine g_iconst (v := (-1)) C dX10_drive_8 rfl (by decide) ?_
    refine g_callI [.int (-1)] C dX10_drive_9 rfl (tX10_refuse (xl Γ) (xE Γ) (-1) u) cf_X10_refuse rfl rfl ml_X10_63 rfl (by decide) (Nat.le_of_ble_eq_true rfl) rfl (fun r6 u5 => ?_)
    exact g_iret C M dX10_drive_12 rfl rfl
set_option maxRecDepth 20000 in
set_option maxHeartbeats 4000000 in
theorem tX10_drive (l : Launch) (E : EE) (v1 : Int32) (u : Mm) : Ct l E yX10_drive cX10_drive 2 (some .int) 4 [.ref (E.1 1), .int v1] u cvI (gX10_drive v1 u) :=
  Ct_of (own := RX10) (by decide +kernel) rfl (Nat.le_of_ble_eq_true rfl) (fun p e R s m args below meth c C M => g_sub (ls' := [(0, .ref (E.1 1)), (1, .int v1)]) [0, 1] rfl (pX10_drive_0 C M rfl v1 u))
set_option maxRecDepth 20000 in
set_option maxHeartbeats 4000000 in
theorem pX10_waitAt_0 {Γ : GX} (C : Cx Γ RX10 cX10_waitAt 4) (M : Mx Γ (some .int)) (L : xn Γ = 1) (u : Mm) : Gp Γ (QM Γ cvI) 0 [(0, .ref ((xE Γ).1 1))] [] u (gX10_waitAt_b u) := by
  unfold gX10_waitAt_b
  refine g_aload_n C dX10_waitAt_0 rfl 0 rfl ?_
  refine g_getR (k2 := 54) C dX10_waitAt_1 rfl rfl fi_10_6 ⟨by decide, by decide, rfl⟩ fl_X10_41 ?_
  refine g_getI C dX10_waitAt_4 rfl rfl fi_7_0 rfl fl_X10_304 ?_
  refine g_bipush (v := 8) C dX10_waitAt_7 rfl (by decide) ?_
  refine g_icmp_eq 19 C dX10_waitAt_9 rfl (by decide) (fun c1 => ?_) (fun c1 => ?_)
  · refine g_aload_n C dX10_waitAt_19 rfl 0 rfl ?_
    refine g_getR (k2 := 71) C dX10_waitAt_20 rfl rfl fi_10_9 ⟨by decide, by decide, rfl⟩ fl_X10_59 ?_
    refine g_aload_n C dX10_waitAt_23 rfl 0 rfl ?_
    refine g_getR (k2 := 2) C dX10_waitAt_24 rfl rfl fi_10_0 ⟨by decide, by decide, rfl⟩ fl_X10_10 ?_
    refine g_getR (k2 := 12) C dX10_waitAt_27 rfl rfl fi_9_2 ⟨by decide, by decide, rfl⟩ fl_X10_279 ?_
    refine g_callV [.ref ((xE Γ).1 12)] C dX10_waitAt_30 rfl (tX8_measure (xl Γ) (xE Γ) rfl u) cf_X8_measure rfl rfl ml_X10_297 rfl (by decide) (Nat.le_of_ble_eq_true rfl) rfl (fun u2 => ?_)
    refine g_aload_n C dX10_waitAt_33 rfl 0 rfl ?_
    refine g_getR (k2 := 71) C dX10_waitAt_34 rfl rfl fi_10_9 ⟨by decide, by decide, rfl⟩ fl_X10_59 ?_
    refine g_aload_n C dX10_waitAt_37 rfl 0 rfl ?_
    refine g_getR (k2 := 54) C dX10_waitAt_38 rfl rfl fi_10_6 ⟨by decide, by decide, rfl⟩ fl_X10_41 ?_
    refine g_callP [.ref ((xE Γ).1 54)] C dX10_waitAt_41 rfl (tX8_placeToWait (xl Γ) (xE Γ) rfl u2) cf_X8_placeToWait rfl rfl ml_X10_305 rfl (by decide) (Nat.le_of_ble_eq_true rfl) rfl (fun r3 => ?_)
    exact g_iret C M dX10_waitAt_44 rfl rfl
  · refine g_aload_n C dX10_waitAt_12 rfl 0 rfl ?_
    refine g_bipush (v := (-3)) C dX10_waitAt_13 rfl (by decide) ?_
    refine g_callI [.int (-3)] C dX10_waitAt_15 rfl (tX10_refuse (xl Γ) (xE Γ) (-3) u) cf_X10_refuse rfl rfl ml_X10_63 rfl (by decide) (Nat.le_of_ble_eq_true rfl) rfl (fun r5 u4 => ?_)
    exact g_iret C M dX10_waitAt_18 rfl rfl
set_option maxRecDepth 20000 in
set_option maxHeartbeats 4000000 in
theorem tX10_waitAt (l : Launch) (E : EE) (u : Mm) : Ct l E yX10_waitAt cX10_waitAt 1 (some .int) 4 [.ref (E.1 1)] u cvI (gX10_waitAt u) :=
  Ct_of (own := RX10) (by decide +kernel) rfl (Nat.le_of_ble_eq_true rfl) (fun p e R s m args below meth c C M => g_sub (ls' := [(0, .ref (E.1 1))]) [0] rfl (pX10_waitAt_0 C M rfl u))
set_option maxRecDepth 20000 in
set_option maxHeartbeats 4000000 in
theorem pX10_sharedMeasure_7s {Γ : GX} (C : Cx Γ RX10 cX10_sharedMeasure 0) (M : Mx Γ (some .int)) (L : xn Γ = 6) (u : Mm) {j7 : Int32 → Int32 → Int32 → Option Int32} (hj7 : ∀ (v2 : Int32) (v3 : Int32) (v4 : Int32), Gp Γ (QM Γ (cvP u)) 7 [(2, .int v2), (3, .int v3), (4, .int v4)] [] u (j7 v2 v3 v4)) (v2 : Int32) (v3 : Int32) (v4 : Int32) : Gp Γ (QM Γ (cvP u)) 7 [(2, .int v2), (3, .int v3), (4, .int v4)] [] u (gX10_sharedMeasure_7_Ls j7 v2 v3 v4) := by
  unfold gX10_sharedMeasure_7_Ls
  refine g_iload C dX10_sharedMeasure_7 rfl 2 rfl ?_
  refine g_bipush (v := 100) C dX10_sharedMeasure_9 rfl (by decide) ?_
  refine g_icmp_ge 34 C dX10_sharedMeasure_11 rfl (by decide) (fun c1 => ?_) (fun c1 => ?_)
  · refine g_iload_n C dX10_sharedMeasure_34 rfl 0 rfl ?_
    exact g_iret C M dX10_sharedMeasure_35 rfl rfl
  · refine g_iload_n C dX10_sharedMeasure_14 rfl 1 rfl ?_
    refine g_if_le 34 C dX10_sharedMeasure_15 rfl (by decide) (fun c2 => ?_) (fun c2 => ?_)
    · refine g_iload_n C dX10_sharedMeasure_34 rfl 0 rfl ?_
      exact g_iret C M dX10_sharedMeasure_35 rfl rfl
    · refine g_iload_n C dX10_sharedMeasure_18 rfl 0 rfl ?_
      refine g_iload_n C dX10_sharedMeasure_19 rfl 1 rfl ?_
      refine g_gd (fun hz3 => ?_)
      refine g_irem C dX10_sharedMeasure_20 rfl hz3 ?_
      refine g_lets (fun v5_4 => ?_)
      refine g_istore (ls' := [(5, .int v5_4), (2, .int v2), (3, .int v3), (4, .int v4)]) C dX10_sharedMeasure_21 rfl L (by decide) rfl ?_
      refine g_iload_n C dX10_sharedMeasure_23 rfl 2 rfl ?_
      refine g_istore_n (ls' := [(2, .int v3), (5, .int v5_4), (3, .int v3), (4, .int v4)]) C dX10_sharedMeasure_24 rfl L (by decide) rfl ?_
      refine g_iload C dX10_sharedMeasure_25 rfl 1 rfl ?_
      refine g_istore_n (ls' := [(3, .int v5_4), (2, .int v3), (5, .int v5_4), (4, .int v4)]) C dX10_sharedMeasure_27 rfl L (by decide) rfl ?_
      refine g_iincL (fun v4_5 => [(4, .int v4_5), (3, .int v5_4), (2, .int v3), (5, .int v5_4)]) C dX10_sharedMeasure_28 rfl L (by decide) (k := 3) rfl (iinc_1 _) (fun _ => rfl) (fun v4_5 => ?_)
      refine g_goto 7 C dX10_sharedMeasure_31 rfl (by decide) ?_
      refine g_sub (ls' := [(2, .int v3), (3, .int v5_4), (4, .int v4_5)]) [2, 1, 0] rfl ?_
      exact hj7 v3 v5_4 v4_5
set_option maxRecDepth 20000 in
set_option maxHeartbeats 4000000 in
theorem pX10_sharedMeasure_7 {Γ : GX} (C : Cx Γ RX10 cX10_sharedMeasure 0) (M : Mx Γ (some .int)) (L : xn Γ = 6) (u : Mm) : ∀ (n : Nat) (v2 : Int32) (v3 : Int32) (v4 : Int32), Gp Γ (QM Γ (cvP u)) 7 [(2, .int v2), (3, .int v3), (4, .int v4)] [] u (gX10_sharedMeasure_7_L n v2 v3 v4) := by
  intro n
  induction n with
  | zero => intro _ _ _; exact g_none
  | succ n ih => intro v2 v3 v4; exact pX10_sharedMeasure_7s C M L u ih v2 v3 v4

set_option maxRecDepth 20000 in
set_option maxHeartbeats 4000000 in
theorem pX10_sharedMeasure_0 {Γ : GX} (C : Cx Γ RX10 cX10_sharedMeasure 0) (M : Mx Γ (some .int)) (L : xn Γ = 6) (u : Mm) (v0 : Int32) (v1 : Int32) : Gp Γ (QM Γ (cvP u)) 0 [(0, .int v0), (1, .int v1)] [] u (gX10_sharedMeasure_b v0 v1) := by
  unfold gX10_sharedMeasure_b
  refine g_iload_n C dX10_sharedMeasure_0 rfl 0 rfl ?_
  refine g_istore_n (ls' := [(2, .int v0), (0, .int v0), (1, .int v1)]) C dX10_sharedMeasure_1 rfl L (by decide) rfl ?_
  refine g_iload_n C dX10_sharedMeasure_2 rfl 2 rfl ?_
  refine g_istore_n (ls' := [(3, .int v1), (2, .int v0), (0, .int v0), (1, .int v1)]) C dX10_sharedMeasure_3 rfl L (by decide) rfl ?_
  refine g_iconst (v := 0) C dX10_sharedMeasure_4 rfl (by decide) ?_
  refine g_istore (ls' := [(4, .int 0), (3, .int v1), (2, .int v0), (0, .int v0), (1, .int v1)]) C dX10_sharedMeasure_5 rfl L (by decide) rfl ?_
  refine g_sub (ls' := [(2, .int v0), (3, .int v1), (4, .int 0)]) [2, 1, 0] rfl ?_
  exact pX10_sharedMeasure_7 C M L u FU v0 v1 0
set_option maxRecDepth 20000 in
set_option maxHeartbeats 4000000 in
theorem tX10_sharedMeasure (l : Launch) (E : EE) (v0 : Int32) (v1 : Int32) (u : Mm) : Ct l E yX10_sharedMeasure cX10_sharedMeasure 6 (some .int) 0 [.int v0, .int v1] u (cvP u) (gX10_sharedMeasure v0 v1) :=
  Ct_of (own := RX10) (by decide +kernel) rfl (Nat.le_of_ble_eq_true rfl) (fun p e R s m args below meth c C M => g_sub (ls' := [(0, .int v0), (1, .int v1)]) [0, 1] rfl (pX10_sharedMeasure_0 C M rfl u v0 v1))
set_option maxRecDepth 20000 in
set_option maxHeartbeats 4000000 in
theorem pX10_meanWait_33 {Γ : GX} (C : Cx Γ RX10 cX10_meanWait 4) (M : Mx Γ (some .long)) (L : xn Γ = 5) (u : Mm) : Gp Γ (QM Γ cvJ) 33 [(0, .ref ((xE Γ).1 1))] [] u (gX10_meanWait_33 u) := by
  unfold gX10_meanWait_33
  refine g_ldc2_w (v := 4000000000000000000) C dX10_meanWait_33 rfl (wm_43 6 rfl) ?_
  refine g_aload_n C dX10_meanWait_36 rfl 0 rfl ?_
  refine g_bipush (v := (-2)) C dX10_meanWait_37 rfl (by decide) ?_
  refine g_callI [.int (-2)] C dX10_meanWait_39 rfl (tX10_refuse (xl Γ) (xE Γ) (-2) u) cf_X10_refuse rfl rfl ml_X10_63 rfl (by decide) (Nat.le_of_ble_eq_true rfl) rfl (fun r2 u1 => ?_)
  refine g_i2l C dX10_meanWait_42 rfl ?_
  refine g_lsub C dX10_meanWait_43 rfl ?_
  exact g_lret C M dX10_meanWait_44 rfl rfl
set_option maxRecDepth 20000 in
set_option maxHeartbeats 4000000 in
theorem pX10_meanWait_103 {Γ : GX} (C : Cx Γ RX10 cX10_meanWait 4) (M : Mx Γ (some .long)) (L : xn Γ = 5) (v1 : Int32) (v2 : Int32) (v3 : Int32) (s0 : Int32) (u : Mm) : Gp Γ (QM Γ cvJ) 103 [(1, .int v1), (2, .int v2), (3, .int v3)] [.int s0] u (gX10_meanWait_103 v1 v2 v3 s0 u) := by
  unfold gX10_meanWait_103
  refine g_istore (ls' := [(4, .int s0), (1, .int v1), (2, .int v2), (3, .int v3)]) C dX10_meanWait_103 rfl L (by decide) rfl ?_
  refine g_iload C dX10_meanWait_105 rfl 0 rfl ?_
  refine g_if_gt 113 C dX10_meanWait_107 rfl (by decide) (fun c1 => ?_) (fun c1 => ?_)
  · refine g_iload_n C dX10_meanWait_113 rfl 1 rfl ?_
    refine g_if_ne 125 C dX10_meanWait_114 rfl (by decide) (fun c2 => ?_) (fun c2 => ?_)
    · refine g_iload_n C dX10_meanWait_125 rfl 3 rfl ?_
      refine g_iload C dX10_meanWait_126 rfl 0 rfl ?_
      refine g_gd (fun hz3 => ?_)
      refine g_idiv C dX10_meanWait_128 rfl hz3 ?_
      refine g_i2l C dX10_meanWait_129 rfl ?_
      exact g_lret C M dX10_meanWait_130 rfl rfl
    · refine g_iload_n C dX10_meanWait_117 rfl 2 rfl ?_
      refine g_iload C dX10_meanWait_118 rfl 0 rfl ?_
      refine g_gd (fun hz4 => ?_)
      refine g_idiv C dX10_meanWait_120 rfl hz4 ?_
      refine g_i2l C dX10_meanWait_121 rfl ?_
      refine g_goto 130 C dX10_meanWait_122 rfl (by decide) ?_
      exact g_lret C M dX10_meanWait_130 rfl rfl
  · refine g_iload_n C dX10_meanWait_110 rfl 1 rfl ?_
    refine g_i2l C dX10_meanWait_111 rfl ?_
    exact g_lret C M dX10_meanWait_112 rfl rfl
set_option maxRecDepth 20000 in
set_option maxHeartbeats 4000000 in
theorem pX10_meanWait_0 {Γ : GX} (C : Cx Γ RX10 cX10_meanWait 4) (M : Mx Γ (some .long)) (L : xn Γ = 5) (v1 : Int32) (u : Mm) : Gp Γ (QM Γ cvJ) 0 [(0, .ref ((xE Γ).1 1)), (1, .int v1)] [] u (gX10_meanWait_b v1 u) := by
  unfold gX10_meanWait_b
  refine g_aload_n C dX10_meanWait_0 rfl 0 rfl ?_
  refine g_getR (k2 := 54) C dX10_meanWait_1 rfl rfl fi_10_6 ⟨by decide, by decide, rfl⟩ fl_X10_41 ?_
  refine g_getI C dX10_meanWait_4 rfl rfl fi_7_0 rfl fl_X10_304 ?_
  refine g_bipush (v := 8) C dX10_meanWait_7 rfl (by decide) ?_
  refine g_icmp_eq 24 C dX10_meanWait_9 rfl (by decide) (fun c1 => ?_) (fun c1 => ?_)
  · refine g_iload_n C dX10_meanWait_24 rfl 1 rfl ?_
    refine g_if_lt 33 C dX10_meanWait_25 rfl (by decide) (fun c2 => ?_) (fun c2 => ?_)
    · refine g_sub (ls' := [(0, .ref ((xE Γ).1 1))]) [0] rfl ?_
      exact pX10_meanWait_33 C M L u
    · refine g_iload_n C dX10_meanWait_28 rfl 1 rfl ?_
      refine g_iconst (v := 1) C dX10_meanWait_29 rfl (by decide) ?_
      refine g_icmp_le 45 C dX10_meanWait_30 rfl (by decide) (fun c3 => ?_) (fun c3 => ?_)
      · refine g_aload_n C dX10_meanWait_45 rfl 0 rfl ?_
        refine g_getR (k2 := 71) C dX10_meanWait_46 rfl rfl fi_10_9 ⟨by decide, by decide, rfl⟩ fl_X10_59 ?_
        refine g_aload_n C dX10_meanWait_49 rfl 0 rfl ?_
        refine g_getR (k2 := 2) C dX10_meanWait_50 rfl rfl fi_10_0 ⟨by decide, by decide, rfl⟩ fl_X10_10 ?_
        refine g_getR (k2 := 12) C dX10_meanWait_53 rfl rfl fi_9_2 ⟨by decide, by decide, rfl⟩ fl_X10_279 ?_
        refine g_callV [.ref ((xE Γ).1 12)] C dX10_meanWait_56 rfl (tX8_measure (xl Γ) (xE Γ) rfl u) cf_X8_measure rfl rfl ml_X10_297 rfl (by decide) (Nat.le_of_ble_eq_true rfl) rfl (fun u4 => ?_)
        refine g_aload_n C dX10_meanWait_59 rfl 0 rfl ?_
        refine g_getR (k2 := 71) C dX10_meanWait_60 rfl rfl fi_10_9 ⟨by decide, by decide, rfl⟩ fl_X10_59 ?_
        refine g_aload_n C dX10_meanWait_63 rfl 0 rfl ?_
        refine g_getR (k2 := 71) C dX10_meanWait_64 rfl rfl fi_10_9 ⟨by decide, by decide, rfl⟩ fl_X10_59 ?_
        refine g_aload_n C dX10_meanWait_67 rfl 0 rfl ?_
        refine g_getR (k2 := 54) C dX10_meanWait_68 rfl rfl fi_10_6 ⟨by decide, by decide, rfl⟩ fl_X10_41 ?_
        refine g_callP [.ref ((xE Γ).1 54)] C dX10_meanWait_71 rfl (tX8_placeToWait (xl Γ) (xE Γ) rfl u4) cf_X8_placeToWait rfl rfl ml_X10_305 rfl (by decide) (Nat.le_of_ble_eq_true rfl) rfl (fun r5 => ?_)
        refine g_aload_n C dX10_meanWait_74 rfl 0 rfl ?_
        refine g_getR (k2 := 54) C dX10_meanWait_75 rfl rfl fi_10_6 ⟨by decide, by decide, rfl⟩ fl_X10_41 ?_
        refine g_callP [.int r5, .ref ((xE Γ).1 54)] C dX10_meanWait_78 rfl (tX8_waitFrom (xl Γ) (xE Γ) r5 rfl u4) cf_X8_waitFrom rfl rfl ml_X10_311 rfl (by decide) (Nat.le_of_ble_eq_true rfl) rfl (fun r6 => ?_)
        refine g_istore_n (ls' := [(2, .int r6), (0, .ref ((xE Γ).1 1)), (1, .int v1)]) C dX10_meanWait_81 rfl L (by decide) rfl ?_
        refine g_aload_n C dX10_meanWait_82 rfl 1 rfl ?_
        refine g_getR (k2 := 54) C dX10_meanWait_83 rfl rfl fi_10_6 ⟨by decide, by decide, rfl⟩ fl_X10_41 ?_
        refine g_callP [] C dX10_meanWait_86 rfl (tX7_sum (xl Γ) (xE Γ) rfl u4) cf_X7_sum rfl rfl ml_X10_315 rfl (by decide) (Nat.le_of_ble_eq_true rfl) rfl (fun r7 => ?_)
        refine g_istore_n (ls' := [(3, .int r7), (2, .int r6), (0, .ref ((xE Γ).1 1)), (1, .int v1)]) C dX10_meanWait_89 rfl L (by decide) rfl ?_
        refine g_iload_n C dX10_meanWait_90 rfl 0 rfl ?_
        refine g_if_ne 98 C dX10_meanWait_91 rfl (by decide) (fun c8 => ?_) (fun c8 => ?_)
        · refine g_iload_n C dX10_meanWait_98 rfl 1 rfl ?_
          refine g_iload_n C dX10_meanWait_99 rfl 0 rfl ?_
          refine g_callsP [.int r6, .int r7] C dX10_meanWait_100 rfl (tX10_sharedMeasure (xl Γ) (xE Γ) r6 r7 u4) cf_X10_sharedMeasure ml_X10_318 rfl (by decide) (Nat.le_of_ble_eq_true rfl) rfl (fun r9 => ?_)
          refine g_sub (ls' := [(1, .int v1), (2, .int r6), (3, .int r7)]) [3, 1, 0] rfl ?_
          exact pX10_meanWait_103 C M L v1 r6 r7 r9 u4
        · refine g_iconst (v := 0) C dX10_meanWait_94 rfl (by decide) ?_
          refine g_goto 103 C dX10_meanWait_95 rfl (by decide) ?_
          refine g_sub (ls' := [(1, .int v1), (2, .int r6), (3, .int r7)]) [3, 1, 0] rfl ?_
          exact pX10_meanWait_103 C M L v1 r6 r7 0 u4
      · refine g_sub (ls' := [(0, .ref ((xE Γ).1 1))]) [0] rfl ?_
        exact pX10_meanWait_33 C M L u
  · refine g_ldc2_w (v := 4000000000000000000) C dX10_meanWait_12 rfl (wm_43 6 rfl) ?_
    refine g_aload_n C dX10_meanWait_15 rfl 0 rfl ?_
    refine g_bipush (v := (-3)) C dX10_meanWait_16 rfl (by decide) ?_
    refine g_callI [.int (-3)] C dX10_meanWait_18 rfl (tX10_refuse (xl Γ) (xE Γ) (-3) u) cf_X10_refuse rfl rfl ml_X10_63 rfl (by decide) (Nat.le_of_ble_eq_true rfl) rfl (fun r11 u10 => ?_)
    refine g_i2l C dX10_meanWait_21 rfl ?_
    refine g_lsub C dX10_meanWait_22 rfl ?_
    exact g_lret C M dX10_meanWait_23 rfl rfl
set_option maxRecDepth 20000 in
set_option maxHeartbeats 4000000 in
theorem tX10_meanWait (l : Launch) (E : EE) (v1 : Int32) (u : Mm) : Ct l E yX10_meanWait cX10_meanWait 5 (some .long) 4 [.ref (E.1 1), .int v1] u cvJ (gX10_meanWait v1 u) :=
  Ct_of (own := RX10) (by decide +kernel) rfl (Nat.le_of_ble_eq_true rfl) (fun p e R s m args below meth c C M => g_sub (ls' := [(0, .ref (E.1 1)), (1, .int v1)]) [0, 1] rfl (pX10_meanWait_0 C M rfl v1 u))
set_option maxRecDepth 20000 in
set_option maxHeartbeats 4000000 in
theorem pX10_turned_0 {Γ : GX} (C : Cx Γ RX10 cX10_turned 4) (M : Mx Γ (some .int)) (L : xn Γ = 5) (v1 : Int32) (v2 : Int32) (u : Mm) : Gp Γ (QM Γ cvI) 0 [(0, .ref ((xE Γ).1 1)), (1, .int v1), (2, .int v2)] [] u (gX10_turned_b v1 v2 u) := by
  unfold gX10_turned_b
  refine g_iload_n C dX10_turned_0 rfl 1 rfl ?_
  refine g_iload_n C dX10_turned_1 rfl 2 rfl ?_
  refine g_callsP [.int v1, .int v2] C dX10_turned_2 rfl (tX10_areTwoPlaces (xl Γ) (xE Γ) v1 v2 u) cf_X10_areTwoPlaces ml_X10_276 rfl (by decide) (Nat.le_of_ble_eq_true rfl) rfl (fun r1 => ?_)
  refine g_if_ne 14 C dX10_turned_5 rfl (by decide) (fun c2 => ?_) (fun c2 => ?_)
  · refine g_aload_n C dX10_turned_14 rfl 0 rfl ?_
    refine g_getR (k2 := 2) C dX10_turned_15 rfl rfl fi_10_0 ⟨by decide, by decide, rfl⟩ fl_X10_10 ?_
    refine g_getR (k2 := 12) C dX10_turned_18 rfl rfl fi_9_2 ⟨by decide, by decide, rfl⟩ fl_X10_279 ?_
    refine g_iload_n C dX10_turned_21 rfl 1 rfl ?_
    refine g_iload_n C dX10_turned_22 rfl 2 rfl ?_
    refine g_callP [.int v1, .int v2] C dX10_turned_23 rfl (tX6_between (xl Γ) (xE Γ) rfl v1 v2 u) cf_X6_between rfl rfl ml_X10_283 rfl (by decide) (Nat.le_of_ble_eq_true rfl) rfl (fun r3 => ?_)
    refine g_if_ne 32 C dX10_turned_26 rfl (by decide) (fun c4 => ?_) (fun c4 => ?_)
    · refine g_aload_n C dX10_turned_32 rfl 0 rfl ?_
      refine g_getR (k2 := 71) C dX10_turned_33 rfl rfl fi_10_9 ⟨by decide, by decide, rfl⟩ fl_X10_59 ?_
      refine g_aload_n C dX10_turned_36 rfl 0 rfl ?_
      refine g_getR (k2 := 2) C dX10_turned_37 rfl rfl fi_10_0 ⟨by decide, by decide, rfl⟩ fl_X10_10 ?_
      refine g_getR (k2 := 12) C dX10_turned_40 rfl rfl fi_9_2 ⟨by decide, by decide, rfl⟩ fl_X10_279 ?_
      refine g_callV [.ref ((xE Γ).1 12)] C dX10_turned_43 rfl (tX8_measure (xl Γ) (xE Γ) rfl u) cf_X8_measure rfl rfl ml_X10_297 rfl (by decide) (Nat.le_of_ble_eq_true rfl) rfl (fun u5 => ?_)
      refine g_aload_n C dX10_turned_46 rfl 0 rfl ?_
      refine g_getR (k2 := 71) C dX10_turned_47 rfl rfl fi_10_9 ⟨by decide, by decide, rfl⟩ fl_X10_59 ?_
      refine g_iload_n C dX10_turned_50 rfl 1 rfl ?_
      refine g_iload_n C dX10_turned_51 rfl 2 rfl ?_
      refine g_callP [.int v1, .int v2] C dX10_turned_52 rfl (tX8_minutes (xl Γ) (xE Γ) v1 v2 u5) cf_X8_minutes rfl rfl ml_X10_321 rfl (by decide) (Nat.le_of_ble_eq_true rfl) rfl (fun r6 => ?_)
      refine g_istore_n (ls' := [(3, .int r6), (0, .ref ((xE Γ).1 1)), (1, .int v1), (2, .int v2)]) C dX10_turned_55 rfl L (by decide) rfl ?_
      refine g_aload_n C dX10_turned_56 rfl 1 rfl ?_
      refine g_getR (k2 := 71) C dX10_turned_57 rfl rfl fi_10_9 ⟨by decide, by decide, rfl⟩ fl_X10_59 ?_
      refine g_aload_n C dX10_turned_60 rfl 1 rfl ?_
      refine g_getR (k2 := 2) C dX10_turned_61 rfl rfl fi_10_0 ⟨by decide, by decide, rfl⟩ fl_X10_10 ?_
      refine g_getR (k2 := 12) C dX10_turned_64 rfl rfl fi_9_2 ⟨by decide, by decide, rfl⟩ fl_X10_279 ?_
      refine g_iload_n C dX10_turned_67 rfl 2 rfl ?_
      refine g_iload_n C dX10_turned_68 rfl 3 rfl ?_
      refine g_callV [.ref ((xE Γ).1 12), .int v1, .int v2] C dX10_turned_69 rfl (tX8_measureWithout (xl Γ) (xE Γ) rfl v1 v2 u5) cf_X8_measureWithout rfl rfl ml_X10_324 rfl (by decide) (Nat.le_of_ble_eq_true rfl) rfl (fun u7 => ?_)
      refine g_aload_n C dX10_turned_72 rfl 1 rfl ?_
      refine g_getR (k2 := 71) C dX10_turned_73 rfl rfl fi_10_9 ⟨by decide, by decide, rfl⟩ fl_X10_59 ?_
      refine g_iload_n C dX10_turned_76 rfl 2 rfl ?_
      refine g_iload_n C dX10_turned_77 rfl 3 rfl ?_
      refine g_callP [.int v1, .int v2] C dX10_turned_78 rfl (tX8_minutes (xl Γ) (xE Γ) v1 v2 u7) cf_X8_minutes rfl rfl ml_X10_321 rfl (by decide) (Nat.le_of_ble_eq_true rfl) rfl (fun r8 => ?_)
      refine g_istore (ls' := [(4, .int r8), (3, .int r6), (0, .ref ((xE Γ).1 1)), (1, .int v1), (2, .int v2)]) C dX10_turned_81 rfl L (by decide) rfl ?_
      refine g_iload C dX10_turned_83 rfl 0 rfl ?_
      refine g_ldc_w (v := 1000000) C dX10_turned_85 rfl (wm_44 4 rfl) ?_
      refine g_icmp_lt 96 C dX10_turned_88 rfl (by decide) (fun c9 => ?_) (fun c9 => ?_)
      · refine g_iload C dX10_turned_96 rfl 0 rfl ?_
        refine g_iload_n C dX10_turned_98 rfl 1 rfl ?_
        refine g_isub C dX10_turned_99 rfl ?_
        exact g_iret C M dX10_turned_100 rfl rfl
      · refine g_bipush (v := (-9)) C dX10_turned_91 rfl (by decide) ?_
        refine g_goto 100 C dX10_turned_93 rfl (by decide) ?_
        exact g_iret C M dX10_turned_100 rfl rfl
    · refine g_bipush (v := (-9)) C dX10_turned_29 rfl (by decide) ?_
      exact g_iret C M dX10_turned_31 rfl rfl
  · refine g_aload_n C dX10_turned_8 rfl 0 rfl ?_
    refine g_iconst (v := (-1)) C dX10_turned_9 rfl (by decide) ?_
    refine g_callI [.int (-1)] C dX10_turned_10 rfl (tX10_refuse (xl Γ) (xE Γ) (-1) u) cf_X10_refuse rfl rfl ml_X10_63 rfl (by decide) (Nat.le_of_ble_eq_true rfl) rfl (fun r11 u10 => ?_)
    exact g_iret C M dX10_turned_13 rfl rfl
set_option maxRecDepth 20000 in
set_option maxHeartbeats 4000000 in
theorem tX10_turned (l : Launch) (E : EE) (v1 : Int32) (v2 : Int32) (u : Mm) : Ct l E yX10_turned cX10_turned 5 (some .int) 4 [.ref (E.1 1), .int v1, .int v2] u cvI (gX10_turned v1 v2 u) :=
  Ct_of (own := RX10) (by decide +kernel) rfl (Nat.le_of_ble_eq_true rfl) (fun p e R s m args below meth c C M => g_sub (ls' := [(0, .ref (E.1 1)), (1, .int v1), (2, .int v2)]) [0, 1, 2] rfl (pX10_turned_0 C M rfl v1 v2 u))
set_option maxRecDepth 20000 in
set_option maxHeartbeats 4000000 in
theorem pX10_track_9 {Γ : GX} (C : Cx Γ RX10 cX10_track 3) (M : Mx Γ (some .int)) (L : xn Γ = 2) (u : Mm) : Gp Γ (QM Γ cvI) 9 [(0, .ref ((xE Γ).1 1))] [] u (gX10_track_9 u) := by
  unfold gX10_track_9
  refine g_aload_n C dX10_track_9 rfl 0 rfl ?_
  refine g_bipush (v := (-2)) C dX10_track_10 rfl (by decide) ?_
  refine g_callI [.int (-2)] C dX10_track_12 rfl (tX10_refuse (xl Γ) (xE Γ) (-2) u) cf_X10_refuse rfl rfl ml_X10_63 rfl (by decide) (Nat.le_of_ble_eq_true rfl) rfl (fun r2 u1 => ?_)
  exact g_iret C M dX10_track_15 rfl rfl
set_option maxRecDepth 20000 in
set_option maxHeartbeats 4000000 in
theorem pX10_track_0 {Γ : GX} (C : Cx Γ RX10 cX10_track 3) (M : Mx Γ (some .int)) (L : xn Γ = 2) (v1 : Int32) (u : Mm) : Gp Γ (QM Γ cvI) 0 [(0, .ref ((xE Γ).1 1)), (1, .int v1)] [] u (gX10_track_b v1 u) := by
  unfold gX10_track_b
  refine g_iload_n C dX10_track_0 rfl 1 rfl ?_
  refine g_if_lt 9 C dX10_track_1 rfl (by decide) (fun c1 => ?_) (fun c1 => ?_)
  · refine g_sub (ls' := [(0, .ref ((xE Γ).1 1))]) [0] rfl ?_
    exact pX10_track_9 C M L u
  · refine g_iload_n C dX10_track_4 rfl 1 rfl ?_
    refine g_iconst (v := 1) C dX10_track_5 rfl (by decide) ?_
    refine g_icmp_le 16 C dX10_track_6 rfl (by decide) (fun c2 => ?_) (fun c2 => ?_)
    · refine g_aload_n C dX10_track_16 rfl 0 rfl ?_
      refine g_getR (k2 := 54) C dX10_track_17 rfl rfl fi_10_6 ⟨by decide, by decide, rfl⟩ fl_X10_41 ?_
      refine g_getI C dX10_track_20 rfl rfl fi_7_0 rfl fl_X10_304 ?_
      refine g_iconst (v := 2) C dX10_track_23 rfl (by decide) ?_
      refine g_irem C dX10_track_24 rfl (by decide) ?_
      refine g_if_eq 35 C dX10_track_25 rfl (by decide) (fun c3 => ?_) (fun c3 => ?_)
      · refine g_iload_n C dX10_track_35 rfl 1 rfl ?_
        refine g_if_ne 56 C dX10_track_36 rfl (by decide) (fun c4 => ?_) (fun c4 => ?_)
        · refine g_aload_n C dX10_track_56 rfl 0 rfl ?_
          refine g_getR (k2 := 2) C dX10_track_57 rfl rfl fi_10_0 ⟨by decide, by decide, rfl⟩ fl_X10_10 ?_
          refine g_getR (k2 := 3) C dX10_track_60 rfl rfl fi_9_0 ⟨by decide, by decide, rfl⟩ fl_X10_100 ?_
          refine g_aload_n C dX10_track_63 rfl 0 rfl ?_
          refine g_getR (k2 := 54) C dX10_track_64 rfl rfl fi_10_6 ⟨by decide, by decide, rfl⟩ fl_X10_41 ?_
          refine g_callP [.ref ((xE Γ).1 54)] C dX10_track_67 rfl (tX0_firstPairWithoutLayer (xl Γ) (xE Γ) rfl rfl u) cf_X0_firstPairWithoutLayer rfl rfl ml_X10_332 rfl (by decide) (Nat.le_of_ble_eq_true rfl) rfl (fun r5 => ?_)
          exact g_iret C M dX10_track_70 rfl rfl
        · refine g_aload_n C dX10_track_39 rfl 0 rfl ?_
          refine g_getR (k2 := 2) C dX10_track_40 rfl rfl fi_10_0 ⟨by decide, by decide, rfl⟩ fl_X10_10 ?_
          refine g_getR (k2 := 3) C dX10_track_43 rfl rfl fi_9_0 ⟨by decide, by decide, rfl⟩ fl_X10_100 ?_
          refine g_aload_n C dX10_track_46 rfl 0 rfl ?_
          refine g_getR (k2 := 54) C dX10_track_47 rfl rfl fi_10_6 ⟨by decide, by decide, rfl⟩ fl_X10_41 ?_
          refine g_callP [.ref ((xE Γ).1 54)] C dX10_track_50 rfl (tX0_layersThatFit (xl Γ) (xE Γ) rfl rfl u) cf_X0_layersThatFit rfl rfl ml_X10_329 rfl (by decide) (Nat.le_of_ble_eq_true rfl) rfl (fun r6 => ?_)
          refine g_goto 70 C dX10_track_53 rfl (by decide) ?_
          exact g_iret C M dX10_track_70 rfl rfl
      · refine g_aload_n C dX10_track_28 rfl 0 rfl ?_
        refine g_bipush (v := (-3)) C dX10_track_29 rfl (by decide) ?_
        refine g_callI [.int (-3)] C dX10_track_31 rfl (tX10_refuse (xl Γ) (xE Γ) (-3) u) cf_X10_refuse rfl rfl ml_X10_63 rfl (by decide) (Nat.le_of_ble_eq_true rfl) rfl (fun r8 u7 => ?_)
        exact g_iret C M dX10_track_34 rfl rfl
    · refine g_sub (ls' := [(0, .ref ((xE Γ).1 1))]) [0] rfl ?_
      exact pX10_track_9 C M L u
set_option maxRecDepth 20000 in
set_option maxHeartbeats 4000000 in
theorem tX10_track (l : Launch) (E : EE) (v1 : Int32) (u : Mm) : Ct l E yX10_track cX10_track 2 (some .int) 3 [.ref (E.1 1), .int v1] u cvI (gX10_track v1 u) :=
  Ct_of (own := RX10) (by decide +kernel) rfl (Nat.le_of_ble_eq_true rfl) (fun p e R s m args below meth c C M => g_sub (ls' := [(0, .ref (E.1 1)), (1, .int v1)]) [0, 1] rfl (pX10_track_0 C M rfl v1 u))
set_option maxRecDepth 20000 in
set_option maxHeartbeats 4000000 in
theorem pX10_row_27 {Γ : GX} (C : Cx Γ RX10 cX10_row 1) (M : Mx Γ (some .int)) (L : xn Γ = 2) (u : Mm) : Gp Γ (QM Γ cvI) 27 [(0, .ref ((xE Γ).1 1))] [] u (gX10_row_27 u) := by
  unfold gX10_row_27
  refine g_aload_n C dX10_row_27 rfl 0 rfl ?_
  refine g_bipush (v := (-6)) C dX10_row_28 rfl (by decide) ?_
  refine g_callI [.int (-6)] C dX10_row_30 rfl (tX10_refuse (xl Γ) (xE Γ) (-6) u) cf_X10_refuse rfl rfl ml_X10_63 rfl (by decide) (Nat.le_of_ble_eq_true rfl) rfl (fun r2 u1 => ?_)
  exact g_iret C M dX10_row_33 rfl rfl
set_option maxRecDepth 20000 in
set_option maxHeartbeats 4000000 in
theorem pX10_row_0 {Γ : GX} (C : Cx Γ RX10 cX10_row 1) (M : Mx Γ (some .int)) (L : xn Γ = 2) (v1 : Int32) (u : Mm) : Gp Γ (QM Γ cvI) 0 [(0, .ref ((xE Γ).1 1)), (1, .int v1)] [] u (gX10_row_b v1 u) := by
  unfold gX10_row_b
  refine g_iload_n C dX10_row_0 rfl 1 rfl ?_
  refine g_if_ge 11 C dX10_row_1 rfl (by decide) (fun c1 => ?_) (fun c1 => ?_)
  · refine g_iload_n C dX10_row_11 rfl 1 rfl ?_
    refine g_bipush (v := 99) C dX10_row_12 rfl (by decide) ?_
    refine g_icmp_gt 27 C dX10_row_14 rfl (by decide) (fun c2 => ?_) (fun c2 => ?_)
    · refine g_sub (ls' := [(0, .ref ((xE Γ).1 1))]) [0] rfl ?_
      exact pX10_row_27 C M L u
    · refine g_aload_n C dX10_row_17 rfl 0 rfl ?_
      refine g_getR (k2 := 54) C dX10_row_18 rfl rfl fi_10_6 ⟨by decide, by decide, rfl⟩ fl_X10_41 ?_
      refine g_callP [] C dX10_row_21 rfl (tX7_isFull (xl Γ) (xE Γ) rfl u) cf_X7_isFull rfl rfl ml_X10_70 rfl (by decide) (Nat.le_of_ble_eq_true rfl) rfl (fun r3 => ?_)
      refine g_if_eq 34 C dX10_row_24 rfl (by decide) (fun c4 => ?_) (fun c4 => ?_)
      · refine g_aload_n C dX10_row_34 rfl 0 rfl ?_
        refine g_getR (k2 := 54) C dX10_row_35 rfl rfl fi_10_6 ⟨by decide, by decide, rfl⟩ fl_X10_41 ?_
        refine g_iload_n C dX10_row_38 rfl 1 rfl ?_
        refine g_callI [.int v1] C dX10_row_39 rfl (tX7_add (xl Γ) (xE Γ) rfl v1 u) cf_X7_add rfl rfl ml_X10_74 rfl (by decide) (Nat.le_of_ble_eq_true rfl) rfl (fun r6 u5 => ?_)
        exact g_iret C M dX10_row_42 rfl rfl
      · refine g_sub (ls' := [(0, .ref ((xE Γ).1 1))]) [0] rfl ?_
        exact pX10_row_27 C M L u
  · refine g_aload_n C dX10_row_4 rfl 0 rfl ?_
    refine g_bipush (v := (-4)) C dX10_row_5 rfl (by decide) ?_
    refine g_callI [.int (-4)] C dX10_row_7 rfl (tX10_refuse (xl Γ) (xE Γ) (-4) u) cf_X10_refuse rfl rfl ml_X10_63 rfl (by decide) (Nat.le_of_ble_eq_true rfl) rfl (fun r8 u7 => ?_)
    exact g_iret C M dX10_row_10 rfl rfl
set_option maxRecDepth 20000 in
set_option maxHeartbeats 4000000 in
theorem tX10_row (l : Launch) (E : EE) (v1 : Int32) (u : Mm) : Ct l E yX10_row cX10_row 2 (some .int) 1 [.ref (E.1 1), .int v1] u cvI (gX10_row v1 u) :=
  Ct_of (own := RX10) (by decide +kernel) rfl (Nat.le_of_ble_eq_true rfl) (fun p e R s m args below meth c C M => g_sub (ls' := [(0, .ref (E.1 1)), (1, .int v1)]) [0, 1] rfl (pX10_row_0 C M rfl v1 u))
set_option maxRecDepth 20000 in
set_option maxHeartbeats 4000000 in
theorem pX10_judge_0 {Γ : GX} (C : Cx Γ RX10 cX10_judge 4) (M : Mx Γ (some .int)) (L : xn Γ = 2) (u : Mm) : Gp Γ (QM Γ cvI) 0 [(0, .ref ((xE Γ).1 1))] [] u (gX10_judge_b u) := by
  unfold gX10_judge_b
  refine g_aload_n C dX10_judge_0 rfl 0 rfl ?_
  refine g_getR (k2 := 57) C dX10_judge_1 rfl rfl fi_10_8 ⟨by decide, by decide, rfl⟩ fl_X10_52 ?_
  refine g_aload_n C dX10_judge_4 rfl 0 rfl ?_
  refine g_getR (k2 := 2) C dX10_judge_5 rfl rfl fi_10_0 ⟨by decide, by decide, rfl⟩ fl_X10_10 ?_
  refine g_callV [.ref ((xE Γ).1 2)] C dX10_judge_8 rfl (tX3_begin (xl Γ) (xE Γ) rfl u) cf_X3_begin rfl rfl ml_X10_188 rfl (by decide) (Nat.le_of_ble_eq_true rfl) rfl (fun u1 => ?_)
  refine g_aload_n C dX10_judge_11 rfl 0 rfl ?_
  refine g_getR (k2 := 57) C dX10_judge_12 rfl rfl fi_10_8 ⟨by decide, by decide, rfl⟩ fl_X10_52 ?_
  refine g_aload_n C dX10_judge_15 rfl 0 rfl ?_
  refine g_getR (k2 := 54) C dX10_judge_16 rfl rfl fi_10_6 ⟨by decide, by decide, rfl⟩ fl_X10_41 ?_
  refine g_callI [.ref ((xE Γ).1 54)] C dX10_judge_19 rfl (tX3_firstHeightUnlike (xl Γ) (xE Γ) rfl u1) cf_X3_firstHeightUnlike rfl rfl ml_X10_335 rfl (by decide) (Nat.le_of_ble_eq_true rfl) rfl (fun r3 u2 => ?_)
  refine g_istore_n (ls' := [(1, .int r3), (0, .ref ((xE Γ).1 1))]) C dX10_judge_22 rfl L (by decide) rfl ?_
  refine g_aload_n C dX10_judge_23 rfl 1 rfl ?_
  refine g_getR (k2 := 54) C dX10_judge_24 rfl rfl fi_10_6 ⟨by decide, by decide, rfl⟩ fl_X10_41 ?_
  refine g_callV [] C dX10_judge_27 rfl (tX7_drop (xl Γ) (xE Γ) rfl u2) cf_X7_drop rfl rfl ml_X10_89 rfl (by decide) (Nat.le_of_ble_eq_true rfl) rfl (fun u4 => ?_)
  refine g_iload_n C dX10_judge_30 rfl 0 rfl ?_
  exact g_iret C M dX10_judge_31 rfl rfl
set_option maxRecDepth 20000 in
set_option maxHeartbeats 4000000 in
theorem tX10_judge (l : Launch) (E : EE) (u : Mm) : Ct l E yX10_judge cX10_judge 2 (some .int) 4 [.ref (E.1 1)] u cvI (gX10_judge u) :=
  Ct_of (own := RX10) (by decide +kernel) rfl (Nat.le_of_ble_eq_true rfl) (fun p e R s m args below meth c C M => g_sub (ls' := [(0, .ref (E.1 1))]) [0] rfl (pX10_judge_0 C M rfl u))
set_option maxRecDepth 20000 in
set_option maxHeartbeats 4000000 in
theorem pX10_clear_0 {Γ : GX} (C : Cx Γ RX10 cX10_clear 1) (M : Mx Γ (some .int)) (L : xn Γ = 2) (u : Mm) : Gp Γ (QM Γ cvI) 0 [(0, .ref ((xE Γ).1 1))] [] u (gX10_clear_b u) := by
  unfold gX10_clear_b
  refine g_aload_n C dX10_clear_0 rfl 0 rfl ?_
  refine g_getR (k2 := 54) C dX10_clear_1 rfl rfl fi_10_6 ⟨by decide, by decide, rfl⟩ fl_X10_41 ?_
  refine g_getI C dX10_clear_4 rfl rfl fi_7_0 rfl fl_X10_304 ?_
  refine g_lets (fun v1_1 => ?_)
  refine g_istore_n (ls' := [(1, .int v1_1), (0, .ref ((xE Γ).1 1))]) C dX10_clear_7 rfl L (by decide) rfl ?_
  refine g_aload_n C dX10_clear_8 rfl 1 rfl ?_
  refine g_getR (k2 := 54) C dX10_clear_9 rfl rfl fi_10_6 ⟨by decide, by decide, rfl⟩ fl_X10_41 ?_
  refine g_callV [] C dX10_clear_12 rfl (tX7_drop (xl Γ) (xE Γ) rfl u) cf_X7_drop rfl rfl ml_X10_89 rfl (by decide) (Nat.le_of_ble_eq_true rfl) rfl (fun u2 => ?_)
  refine g_iload_n C dX10_clear_15 rfl 0 rfl ?_
  exact g_iret C M dX10_clear_16 rfl rfl
set_option maxRecDepth 20000 in
set_option maxHeartbeats 4000000 in
theorem tX10_clear (l : Launch) (E : EE) (u : Mm) : Ct l E yX10_clear cX10_clear 2 (some .int) 1 [.ref (E.1 1)] u cvI (gX10_clear u) :=
  Ct_of (own := RX10) (by decide +kernel) rfl (Nat.le_of_ble_eq_true rfl) (fun p e R s m args below meth c C M => g_sub (ls' := [(0, .ref (E.1 1))]) [0] rfl (pX10_clear_0 C M rfl u))
set_option maxRecDepth 20000 in
set_option maxHeartbeats 4000000 in
theorem pX10_lots_34 {Γ : GX} (C : Cx Γ RX10 cX10_lots 5) (M : Mx Γ (some .int)) (L : xn Γ = 4) (u : Mm) : Gp Γ (QM Γ cvI) 34 [(0, .ref ((xE Γ).1 1))] [] u (gX10_lots_34 u) := by
  unfold gX10_lots_34
  refine g_aload_n C dX10_lots_34 rfl 0 rfl ?_
  refine g_bipush (v := (-2)) C dX10_lots_35 rfl (by decide) ?_
  refine g_callI [.int (-2)] C dX10_lots_37 rfl (tX10_refuse (xl Γ) (xE Γ) (-2) u) cf_X10_refuse rfl rfl ml_X10_63 rfl (by decide) (Nat.le_of_ble_eq_true rfl) rfl (fun r2 u1 => ?_)
  exact g_iret C M dX10_lots_40 rfl rfl
set_option maxRecDepth 20000 in
set_option maxHeartbeats 4000000 in
theorem pX10_lots_0 {Γ : GX} (C : Cx Γ RX10 cX10_lots 5) (M : Mx Γ (some .int)) (L : xn Γ = 4) (v1 : Int32) (v2 : Int32) (v3 : Int32) (u : Mm) : Gp Γ (QM Γ cvI) 0 [(0, .ref ((xE Γ).1 1)), (1, .int v1), (2, .int v2), (3, .int v3)] [] u (gX10_lots_b v1 v2 v3 u) := by
  unfold gX10_lots_b
  refine g_iload_n C dX10_lots_0 rfl 1 rfl ?_
  refine g_iconst (v := 1) C dX10_lots_1 rfl (by decide) ?_
  refine g_icmp_ge 12 C dX10_lots_2 rfl (by decide) (fun c1 => ?_) (fun c1 => ?_)
  · refine g_iload_n C dX10_lots_12 rfl 1 rfl ?_
    refine g_bipush (v := 20) C dX10_lots_13 rfl (by decide) ?_
    refine g_icmp_le 25 C dX10_lots_15 rfl (by decide) (fun c2 => ?_) (fun c2 => ?_)
    · refine g_iload_n C dX10_lots_25 rfl 3 rfl ?_
      refine g_if_lt 34 C dX10_lots_26 rfl (by decide) (fun c3 => ?_) (fun c3 => ?_)
      · refine g_sub (ls' := [(0, .ref ((xE Γ).1 1))]) [0] rfl ?_
        exact pX10_lots_34 C M L u
      · refine g_iload_n C dX10_lots_29 rfl 3 rfl ?_
        refine g_iconst (v := 1) C dX10_lots_30 rfl (by decide) ?_
        refine g_icmp_le 41 C dX10_lots_31 rfl (by decide) (fun c4 => ?_) (fun c4 => ?_)
        · refine g_aload_n C dX10_lots_41 rfl 0 rfl ?_
          refine g_getR (k2 := 57) C dX10_lots_42 rfl rfl fi_10_8 ⟨by decide, by decide, rfl⟩ fl_X10_52 ?_
          refine g_aload_n C dX10_lots_45 rfl 0 rfl ?_
          refine g_getR (k2 := 2) C dX10_lots_46 rfl rfl fi_10_0 ⟨by decide, by decide, rfl⟩ fl_X10_10 ?_
          refine g_callV [.ref ((xE Γ).1 2)] C dX10_lots_49 rfl (tX3_begin (xl Γ) (xE Γ) rfl u) cf_X3_begin rfl rfl ml_X10_188 rfl (by decide) (Nat.le_of_ble_eq_true rfl) rfl (fun u5 => ?_)
          refine g_aload_n C dX10_lots_52 rfl 0 rfl ?_
          refine g_getR (k2 := 57) C dX10_lots_53 rfl rfl fi_10_8 ⟨by decide, by decide, rfl⟩ fl_X10_52 ?_
          refine g_iload_n C dX10_lots_56 rfl 1 rfl ?_
          refine g_iload_n C dX10_lots_57 rfl 2 rfl ?_
          refine g_callV [.int v1, .int v2] C dX10_lots_58 rfl (tX3_flyByLot (xl Γ) (xE Γ) v1 v2 u5) cf_X3_flyByLot rfl rfl ml_X10_338 rfl (by decide) (Nat.le_of_ble_eq_true rfl) rfl (fun u6 => ?_)
          refine g_iload_n C dX10_lots_61 rfl 3 rfl ?_
          refine g_if_ne 75 C dX10_lots_62 rfl (by decide) (fun c7 => ?_) (fun c7 => ?_)
          · refine g_aload_n C dX10_lots_75 rfl 0 rfl ?_
            refine g_getR (k2 := 57) C dX10_lots_76 rfl rfl fi_10_8 ⟨by decide, by decide, rfl⟩ fl_X10_52 ?_
            refine g_getI C dX10_lots_79 rfl rfl fi_3_14 rfl fl_X10_344 ?_
            exact g_iret C M dX10_lots_82 rfl rfl
          · refine g_aload_n C dX10_lots_65 rfl 0 rfl ?_
            refine g_getR (k2 := 57) C dX10_lots_66 rfl rfl fi_10_8 ⟨by decide, by decide, rfl⟩ fl_X10_52 ?_
            refine g_getI C dX10_lots_69 rfl rfl fi_3_13 rfl fl_X10_341 ?_
            refine g_goto 82 C dX10_lots_72 rfl (by decide) ?_
            exact g_iret C M dX10_lots_82 rfl rfl
        · refine g_sub (ls' := [(0, .ref ((xE Γ).1 1))]) [0] rfl ?_
          exact pX10_lots_34 C M L u
    · refine g_aload_n C dX10_lots_18 rfl 0 rfl ?_
      refine g_bipush (v := (-6)) C dX10_lots_19 rfl (by decide) ?_
      refine g_callI [.int (-6)] C dX10_lots_21 rfl (tX10_refuse (xl Γ) (xE Γ) (-6) u) cf_X10_refuse rfl rfl ml_X10_63 rfl (by decide) (Nat.le_of_ble_eq_true rfl) rfl (fun r9 u8 => ?_)
      exact g_iret C M dX10_lots_24 rfl rfl
  · refine g_aload_n C dX10_lots_5 rfl 0 rfl ?_
    refine g_bipush (v := (-4)) C dX10_lots_6 rfl (by decide) ?_
    refine g_callI [.int (-4)] C dX10_lots_8 rfl (tX10_refuse (xl Γ) (xE Γ) (-4) u) cf_X10_refuse rfl rfl ml_X10_63 rfl (by decide) (Nat.le_of_ble_eq_true rfl) rfl (fun r11 u10 => ?_)
    exact g_iret C M dX10_lots_11 rfl rfl
set_option maxRecDepth 20000 in
set_option maxHeartbeats 4000000 in
theorem tX10_lots (l : Launch) (E : EE) (v1 : Int32) (v2 : Int32) (v3 : Int32) (u : Mm) : Ct l E yX10_lots cX10_lots 4 (some .int) 5 [.ref (E.1 1), .int v1, .int v2, .int v3] u cvI (gX10_lots v1 v2 v3 u) :=
  Ct_of (own := RX10) (by decide +kernel) rfl (Nat.le_of_ble_eq_true rfl) (fun p e R s m args below meth c C M => g_sub (ls' := [(0, .ref (E.1 1)), (1, .int v1), (2, .int v2), (3, .int v3)]) [0, 1, 2, 3] rfl (pX10_lots_0 C M rfl v1 v2 v3 u))
set_option maxRecDepth 20000 in
set_option maxHeartbeats 4000000 in
theorem pX10_crew_9 {Γ : GX} (C : Cx Γ RX10 cX10_crew 6) (M : Mx Γ (some .int)) (L : xn Γ = 5) (u : Mm) : Gp Γ (QM Γ cvI) 9 [(0, .ref ((xE Γ).1 1))] [] u (gX10_crew_9 u) := by
  unfold gX10_crew_9
  refine g_aload_n C dX10_crew_9 rfl 0 rfl ?_
  refine g_bipush (v := (-2)) C dX10_crew_10 rfl (by decide) ?_
  refine g_callI [.int (-2)] C dX10_crew_12 rfl (tX10_refuse (xl Γ) (xE Γ) (-2) u) cf_X10_refuse rfl rfl ml_X10_63 rfl (by decide) (Nat.le_of_ble_eq_true rfl) rfl (fun r2 u1 => ?_)
  exact g_iret C M dX10_crew_15 rfl rfl
set_option maxRecDepth 20000 in
set_option maxHeartbeats 4000000 in
theorem pX10_crew_88 {Γ : GX} (C : Cx Γ RX10 cX10_crew 6) (M : Mx Γ (some .int)) (L : xn Γ = 5) (v1 : Int32) (v4 : Int32) {j36 : Int32 → Int32 → Int32 → Mm → Option (Int32 × Mm)} (hj36 : ∀ (v2 : Int32) (v3 : Int32) (v4 : Int32) (u : Mm), Gp Γ (QM Γ cvI) 36 [(0, .ref ((xE Γ).1 1)), (1, .int v1), (2, .int v2), (3, .int v3), (4, .int v4)] [] u (j36 v2 v3 v4 u)) (u : Mm) : Gp Γ (QM Γ cvI) 88 [(0, .ref ((xE Γ).1 1)), (1, .int v1), (4, .int v4)] [] u (gX10_crew_88 j36 v1 v4 u) := by
  unfold gX10_crew_88
  refine g_iload C dX10_crew_88 rfl 2 rfl ?_
  refine g_istore_n (ls' := [(2, .int v4), (0, .ref ((xE Γ).1 1)), (1, .int v1), (4, .int v4)]) C dX10_crew_90 rfl L (by decide) rfl ?_
  refine g_aload_n C dX10_crew_91 rfl 1 rfl ?_
  refine g_getR (k2 := 57) C dX10_crew_92 rfl rfl fi_10_8 ⟨by decide, by decide, rfl⟩ fl_X10_52 ?_
  refine g_getI C dX10_crew_95 rfl rfl fi_3_10 rfl fl_X10_234 ?_
  refine g_lets (fun v3_1 => ?_)
  refine g_istore_n (ls' := [(3, .int v3_1), (2, .int v4), (0, .ref ((xE Γ).1 1)), (1, .int v1), (4, .int v4)]) C dX10_crew_98 rfl L (by decide) rfl ?_
  refine g_iincL (fun v4_2 => [(4, .int v4_2), (3, .int v3_1), (2, .int v4), (0, .ref ((xE Γ).1 1)), (1, .int v1)]) C dX10_crew_99 rfl L (by decide) (k := 4) rfl (iinc_1 _) (fun _ => rfl) (fun v4_2 => ?_)
  refine g_goto 36 C dX10_crew_102 rfl (by decide) ?_
  refine g_sub (ls' := [(0, .ref ((xE Γ).1 1)), (1, .int v1), (2, .int v4), (3, .int v3_1), (4, .int v4_2)]) [3, 4, 2, 1, 0] rfl ?_
  exact hj36 v4 v3_1 v4_2 u
set_option maxRecDepth 20000 in
set_option maxHeartbeats 4000000 in
theorem pX10_crew_36s {Γ : GX} (C : Cx Γ RX10 cX10_crew 6) (M : Mx Γ (some .int)) (L : xn Γ = 5) (v1 : Int32) {j36 : Int32 → Int32 → Int32 → Mm → Option (Int32 × Mm)} (hj36 : ∀ (v2 : Int32) (v3 : Int32) (v4 : Int32) (u : Mm), Gp Γ (QM Γ cvI) 36 [(0, .ref ((xE Γ).1 1)), (1, .int v1), (2, .int v2), (3, .int v3), (4, .int v4)] [] u (j36 v2 v3 v4 u)) (v2 : Int32) (v3 : Int32) (v4 : Int32) (u : Mm) : Gp Γ (QM Γ cvI) 36 [(0, .ref ((xE Γ).1 1)), (1, .int v1), (2, .int v2), (3, .int v3), (4, .int v4)] [] u (gX10_crew_36_Ls v1 j36 v2 v3 v4 u) := by
  unfold gX10_crew_36_Ls
  refine g_iload C dX10_crew_36 rfl 4 rfl ?_
  refine g_bipush (v := 6) C dX10_crew_38 rfl (by decide) ?_
  refine g_icmp_gt 105 C dX10_crew_40 rfl (by decide) (fun c1 => ?_) (fun c1 => ?_)
  · refine g_iload_n C dX10_crew_105 rfl 1 rfl ?_
    refine g_if_ne 113 C dX10_crew_106 rfl (by decide) (fun c2 => ?_) (fun c2 => ?_)
    · refine g_iload_n C dX10_crew_113 rfl 3 rfl ?_
      exact g_iret C M dX10_crew_114 rfl rfl
    · refine g_iload_n C dX10_crew_109 rfl 2 rfl ?_
      refine g_goto 114 C dX10_crew_110 rfl (by decide) ?_
      exact g_iret C M dX10_crew_114 rfl rfl
  · refine g_aload_n C dX10_crew_43 rfl 0 rfl ?_
    refine g_getR (k2 := 57) C dX10_crew_44 rfl rfl fi_10_8 ⟨by decide, by decide, rfl⟩ fl_X10_52 ?_
    refine g_iload C dX10_crew_47 rfl 4 rfl ?_
    refine g_callV [.int v4] C dX10_crew_49 rfl (tX3_takePeople (xl Γ) (xE Γ) v4 u) cf_X3_takePeople rfl rfl ml_X10_347 rfl (by decide) (Nat.le_of_ble_eq_true rfl) rfl (fun u3 => ?_)
    refine g_aload_n C dX10_crew_52 rfl 0 rfl ?_
    refine g_getR (k2 := 57) C dX10_crew_53 rfl rfl fi_10_8 ⟨by decide, by decide, rfl⟩ fl_X10_52 ?_
    refine g_callV [] C dX10_crew_56 rfl (tX3_seekCheapest (xl Γ) (xE Γ) u3) cf_X3_seekCheapest rfl rfl ml_X10_228 rfl (by decide) (Nat.le_of_ble_eq_true rfl) rfl (fun u4 => ?_)
    refine g_aload_n C dX10_crew_59 rfl 0 rfl ?_
    refine g_getR (k2 := 57) C dX10_crew_60 rfl rfl fi_10_8 ⟨by decide, by decide, rfl⟩ fl_X10_52 ?_
    refine g_getI C dX10_crew_63 rfl rfl fi_3_10 rfl fl_X10_234 ?_
    refine g_bipush (v := (-9)) C dX10_crew_66 rfl (by decide) ?_
    refine g_icmp_eq 99 C dX10_crew_68 rfl (by decide) (fun c5 => ?_) (fun c5 => ?_)
    · refine g_iincL (fun v4_6 => [(4, .int v4_6), (0, .ref ((xE Γ).1 1)), (1, .int v1), (2, .int v2), (3, .int v3)]) C dX10_crew_99 rfl L (by decide) (k := 4) rfl (iinc_1 _) (fun _ => rfl) (fun v4_6 => ?_)
      refine g_goto 36 C dX10_crew_102 rfl (by decide) ?_
      refine g_sub (ls' := [(0, .ref ((xE Γ).1 1)), (1, .int v1), (2, .int v2), (3, .int v3), (4, .int v4_6)]) [1, 2, 3, 4, 0] rfl ?_
      exact hj36 v2 v3 v4_6 u4
    · refine g_iload_n C dX10_crew_71 rfl 2 rfl ?_
      refine g_bipush (v := (-9)) C dX10_crew_72 rfl (by decide) ?_
      refine g_icmp_eq 88 C dX10_crew_74 rfl (by decide) (fun c7 => ?_) (fun c7 => ?_)
      · refine g_sub (ls' := [(0, .ref ((xE Γ).1 1)), (1, .int v1), (4, .int v4)]) [0, 1, 4] rfl ?_
        exact pX10_crew_88 C M L v1 v4 hj36 u4
      · refine g_aload_n C dX10_crew_77 rfl 0 rfl ?_
        refine g_getR (k2 := 57) C dX10_crew_78 rfl rfl fi_10_8 ⟨by decide, by decide, rfl⟩ fl_X10_52 ?_
        refine g_getI C dX10_crew_81 rfl rfl fi_3_10 rfl fl_X10_234 ?_
        refine g_iload_n C dX10_crew_84 rfl 3 rfl ?_
        refine g_icmp_ge 99 C dX10_crew_85 rfl (by decide) (fun c8 => ?_) (fun c8 => ?_)
        · refine g_iincL (fun v4_9 => [(4, .int v4_9), (0, .ref ((xE Γ).1 1)), (1, .int v1), (2, .int v2), (3, .int v3)]) C dX10_crew_99 rfl L (by decide) (k := 4) rfl (iinc_1 _) (fun _ => rfl) (fun v4_9 => ?_)
          refine g_goto 36 C dX10_crew_102 rfl (by decide) ?_
          refine g_sub (ls' := [(0, .ref ((xE Γ).1 1)), (1, .int v1), (2, .int v2), (3, .int v3), (4, .int v4_9)]) [1, 2, 3, 4, 0] rfl ?_
          exact hj36 v2 v3 v4_9 u4
        · refine g_sub (ls' := [(0, .ref ((xE Γ).1 1)), (1, .int v1), (4, .int v4)]) [0, 1, 4] rfl ?_
          exact pX10_crew_88 C M L v1 v4 hj36 u4
set_option maxRecDepth 20000 in
set_option maxHeartbeats 4000000 in
theorem pX10_crew_36 {Γ : GX} (C : Cx Γ RX10 cX10_crew 6) (M : Mx Γ (some .int)) (L : xn Γ = 5) (v1 : Int32) : ∀ (n : Nat) (v2 : Int32) (v3 : Int32) (v4 : Int32) (u : Mm), Gp Γ (QM Γ cvI) 36 [(0, .ref ((xE Γ).1 1)), (1, .int v1), (2, .int v2), (3, .int v3), (4, .int v4)] [] u (gX10_crew_36_L v1 n v2 v3 v4 u) := by
  intro n
  induction n with
  | zero => intro _ _ _ _; exact g_none
  | succ n ih => intro v2 v3 v4 u; exact pX10_crew_36s C M L v1 ih v2 v3 v4 u

set_option maxRecDepth 20000 in
set_option maxHeartbeats 4000000 in
theorem pX10_crew_0 {Γ : GX} (C : Cx Γ RX10 cX10_crew 6) (M : Mx Γ (some .int)) (L : xn Γ = 5) (v1 : Int32) (u : Mm) : Gp Γ (QM Γ cvI) 0 [(0, .ref ((xE Γ).1 1)), (1, .int v1)] [] u (gX10_crew_b v1 u) := by
  unfold gX10_crew_b
  refine g_iload_n C dX10_crew_0 rfl 1 rfl ?_
  refine g_if_lt 9 C dX10_crew_1 rfl (by decide) (fun c1 => ?_) (fun c1 => ?_)
  · refine g_sub (ls' := [(0, .ref ((xE Γ).1 1))]) [0] rfl ?_
    exact pX10_crew_9 C M L u
  · refine g_iload_n C dX10_crew_4 rfl 1 rfl ?_
    refine g_iconst (v := 1) C dX10_crew_5 rfl (by decide) ?_
    refine g_icmp_le 16 C dX10_crew_6 rfl (by decide) (fun c2 => ?_) (fun c2 => ?_)
    · refine g_bipush (v := (-9)) C dX10_crew_16 rfl (by decide) ?_
      refine g_istore_n (ls' := [(2, .int (-9)), (0, .ref ((xE Γ).1 1)), (1, .int v1)]) C dX10_crew_18 rfl L (by decide) rfl ?_
      refine g_bipush (v := (-9)) C dX10_crew_19 rfl (by decide) ?_
      refine g_istore_n (ls' := [(3, .int (-9)), (2, .int (-9)), (0, .ref ((xE Γ).1 1)), (1, .int v1)]) C dX10_crew_21 rfl L (by decide) rfl ?_
      refine g_aload_n C dX10_crew_22 rfl 2 rfl ?_
      refine g_getR (k2 := 57) C dX10_crew_23 rfl rfl fi_10_8 ⟨by decide, by decide, rfl⟩ fl_X10_52 ?_
      refine g_aload_n C dX10_crew_26 rfl 2 rfl ?_
      refine g_getR (k2 := 2) C dX10_crew_27 rfl rfl fi_10_0 ⟨by decide, by decide, rfl⟩ fl_X10_10 ?_
      refine g_callV [.ref ((xE Γ).1 2)] C dX10_crew_30 rfl (tX3_begin (xl Γ) (xE Γ) rfl u) cf_X3_begin rfl rfl ml_X10_188 rfl (by decide) (Nat.le_of_ble_eq_true rfl) rfl (fun u3 => ?_)
      refine g_iconst (v := 1) C dX10_crew_33 rfl (by decide) ?_
      refine g_istore (ls' := [(4, .int 1), (3, .int (-9)), (2, .int (-9)), (0, .ref ((xE Γ).1 1)), (1, .int v1)]) C dX10_crew_34 rfl L (by decide) rfl ?_
      refine g_sub (ls' := [(0, .ref ((xE Γ).1 1)), (1, .int v1), (2, .int (-9)), (3, .int (-9)), (4, .int 1)]) [3, 4, 2, 1, 0] rfl ?_
      exact pX10_crew_36 C M L v1 FU (-9) (-9) 1 u3
    · refine g_sub (ls' := [(0, .ref ((xE Γ).1 1))]) [0] rfl ?_
      exact pX10_crew_9 C M L u
set_option maxRecDepth 20000 in
set_option maxHeartbeats 4000000 in
theorem tX10_crew (l : Launch) (E : EE) (v1 : Int32) (u : Mm) : Ct l E yX10_crew cX10_crew 5 (some .int) 6 [.ref (E.1 1), .int v1] u cvI (gX10_crew v1 u) :=
  Ct_of (own := RX10) (by decide +kernel) rfl (Nat.le_of_ble_eq_true rfl) (fun p e R s m args below meth c C M => g_sub (ls' := [(0, .ref (E.1 1)), (1, .int v1)]) [0, 1] rfl (pX10_crew_0 C M rfl v1 u))
