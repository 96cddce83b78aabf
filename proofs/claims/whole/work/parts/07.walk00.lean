set_option maxRecDepth 20000 in
set_option maxHeartbeats 4000000 in
theorem pX0_copyFrom_2s {Γ : GX} (C : Cx Γ RX0 cX0_copyFrom 0) (M : Mx Γ none) (L : xn Γ = 3) {k0 : Nat} (hk0 : kd k0 = 3) {k1 : Nat} (hk1 : kd k1 = 3) {j2 : Int32 → Mm → Option Mm} (hj2 : ∀ (v2 : Int32) (u : Mm), Gp Γ (QM Γ cvV) 2 [(0, .ref ((xE Γ).1 k0)), (1, .ref ((xE Γ).1 k1)), (2, .int v2)] [] u (j2 v2 u)) (v2 : Int32) (u : Mm) : Gp Γ (QM Γ cvV) 2 [(0, .ref ((xE Γ).1 k0)), (1, .ref ((xE Γ).1 k1)), (2, .int v2)] [] u (gX0_copyFrom_2_Ls k0 k1 j2 v2 u) := by
  unfold gX0_copyFrom_2_Ls
  refine g_iload_n C dX0_copyFrom_2 rfl 2 rfl ?_
  refine g_bipush (v := 8) C dX0_copyFrom_3 rfl (by decide) ?_
  refine g_icmp_ge 38 C dX0_copyFrom_5 rfl (by decide) (fun c1 => ?_) (fun c1 => ?_)
  · exact g_vret C M dX0_copyFrom_38 rfl rfl
  · refine g_aload_n C dX0_copyFrom_8 rfl 0 rfl ?_
    refine g_getR (k2 := (k0 + 1)) C dX0_copyFrom_9 rfl hk0 fi_0_0 ⟨by decide, by decide, rfl⟩ fl_X0_9 ?_
    refine g_iload_n C dX0_copyFrom_12 rfl 2 rfl ?_
    refine g_aload_n C dX0_copyFrom_13 rfl 1 rfl ?_
    refine g_getR (k2 := (k1 + 1)) C dX0_copyFrom_14 rfl hk1 fi_0_0 ⟨by decide, by decide, rfl⟩ fl_X0_9 ?_
    refine g_iload_n C dX0_copyFrom_17 rfl 2 rfl ?_
    refine g_gd (fun hi2 => ?_)
    refine g_iald C dX0_copyFrom_18 rfl (kr_0_0 hk1) (sr_0_0 hk1) hi2 ?_
    refine g_gd (fun hi4 => ?_)
    refine g_iast C dX0_copyFrom_19 rfl (kr_0_0 hk0) (sr_0_0 hk0) hi4 ?_
    refine g_letm (fun u3 => ?_)
    refine g_aload_n C dX0_copyFrom_20 rfl 0 rfl ?_
    refine g_getR (k2 := (k0 + 2)) C dX0_copyFrom_21 rfl hk0 fi_0_1 ⟨by decide, by decide, rfl⟩ fl_X0_15 ?_
    refine g_iload_n C dX0_copyFrom_24 rfl 2 rfl ?_
    refine g_aload_n C dX0_copyFrom_25 rfl 1 rfl ?_
    refine g_getR (k2 := (k1 + 2)) C dX0_copyFrom_26 rfl hk1 fi_0_1 ⟨by decide, by decide, rfl⟩ fl_X0_15 ?_
    refine g_iload_n C dX0_copyFrom_29 rfl 2 rfl ?_
    refine g_gd (fun hi5 => ?_)
    refine g_iald C dX0_copyFrom_30 rfl (kr_0_1 hk1) (sr_0_1 hk1) hi5 ?_
    refine g_gd (fun hi7 => ?_)
    refine g_iast C dX0_copyFrom_31 rfl (kr_0_1 hk0) (sr_0_1 hk0) hi7 ?_
    refine g_letm (fun u6 => ?_)
    refine g_iincL (fun v2_8 => [(2, .int v2_8), (0, .ref ((xE Γ).1 k0)), (1, .ref ((xE Γ).1 k1))]) C dX0_copyFrom_32 rfl L (by decide) (k := 2) rfl (iinc_1 _) (fun _ => rfl) (fun v2_8 => ?_)
    refine g_goto 2 C dX0_copyFrom_35 rfl (by decide) ?_
    refine g_sub (ls' := [(0, .ref ((xE Γ).1 k0)), (1, .ref ((xE Γ).1 k1)), (2, .int v2_8)]) [1, 2, 0] rfl ?_
    exact hj2 v2_8 u6
set_option maxRecDepth 20000 in
set_option maxHeartbeats 4000000 in
theorem pX0_copyFrom_2 {Γ : GX} (C : Cx Γ RX0 cX0_copyFrom 0) (M : Mx Γ none) (L : xn Γ = 3) {k0 : Nat} (hk0 : kd k0 = 3) {k1 : Nat} (hk1 : kd k1 = 3) : ∀ (n : Nat) (v2 : Int32) (u : Mm), Gp Γ (QM Γ cvV) 2 [(0, .ref ((xE Γ).1 k0)), (1, .ref ((xE Γ).1 k1)), (2, .int v2)] [] u (gX0_copyFrom_2_L k0 k1 n v2 u) := by
  intro n
  induction n with
  | zero => intro _ _; exact g_none
  | succ n ih => intro v2 u; exact pX0_copyFrom_2s C M L hk0 hk1 ih v2 u

set_option maxRecDepth 20000 in
set_option maxHeartbeats 4000000 in
theorem pX0_copyFrom_0 {Γ : GX} (C : Cx Γ RX0 cX0_copyFrom 0) (M : Mx Γ none) (L : xn Γ = 3) {k0 : Nat} (hk0 : kd k0 = 3) {k1 : Nat} (hk1 : kd k1 = 3) (u : Mm) : Gp Γ (QM Γ cvV) 0 [(0, .ref ((xE Γ).1 k0)), (1, .ref ((xE Γ).1 k1))] [] u (gX0_copyFrom_b k0 k1 u) := by
  unfold gX0_copyFrom_b
  refine g_iconst (v := 0) C dX0_copyFrom_0 rfl (by decide) ?_
  refine g_istore_n (ls' := [(2, .int 0), (0, .ref ((xE Γ).1 k0)), (1, .ref ((xE Γ).1 k1))]) C dX0_copyFrom_1 rfl L (by decide) rfl ?_
  refine g_sub (ls' := [(0, .ref ((xE Γ).1 k0)), (1, .ref ((xE Γ).1 k1)), (2, .int 0)]) [1, 2, 0] rfl ?_
  exact pX0_copyFrom_2 C M L hk0 hk1 FU 0 u
set_option maxRecDepth 20000 in
set_option maxHeartbeats 4000000 in
theorem tX0_copyFrom (l : Launch) (E : EE) {k0 : Nat} (hk0 : kd k0 = 3) {k1 : Nat} (hk1 : kd k1 = 3) (u : Mm) : Ct l E yX0_copyFrom cX0_copyFrom 3 none 0 [.ref (E.1 k0), .ref (E.1 k1)] u cvV (gX0_copyFrom k0 k1 u) :=
  Ct_of (own := RX0) (by decide +kernel) rfl (Nat.le_of_ble_eq_true rfl) (fun p e R s m args below meth c C M => g_sub (ls' := [(0, .ref (E.1 k0)), (1, .ref (E.1 k1))]) [0, 1] rfl (pX0_copyFrom_0 C M rfl hk0 hk1 u))
set_option maxRecDepth 20000 in
set_option maxHeartbeats 4000000 in
theorem pX10_isLayer_0 {Γ : GX} (C : Cx Γ RX10 cX10_isLayer 0) (M : Mx Γ (some .boolean)) (L : xn Γ = 1) (u : Mm) (v0 : Int32) : Gp Γ (QM Γ (cvP u)) 0 [(0, .int v0)] [] u (gX10_isLayer_b v0) := by
  unfold gX10_isLayer_b
  refine g_iload_n C dX10_isLayer_0 rfl 0 rfl ?_
  refine g_if_lt 14 C dX10_isLayer_1 rfl (by decide) (fun c1 => ?_) (fun c1 => ?_)
  · refine g_iconst (v := 0) C dX10_isLayer_14 rfl (by decide) ?_
    exact g_zret C M dX10_isLayer_15 rfl (by decide) rfl
  · refine g_iload_n C dX10_isLayer_4 rfl 0 rfl ?_
    refine g_bipush (v := 8) C dX10_isLayer_5 rfl (by decide) ?_
    refine g_icmp_ge 14 C dX10_isLayer_7 rfl (by decide) (fun c2 => ?_) (fun c2 => ?_)
    · refine g_iconst (v := 0) C dX10_isLayer_14 rfl (by decide) ?_
      exact g_zret C M dX10_isLayer_15 rfl (by decide) rfl
    · refine g_iconst (v := 1) C dX10_isLayer_10 rfl (by decide) ?_
      refine g_goto 15 C dX10_isLayer_11 rfl (by decide) ?_
      exact g_zret C M dX10_isLayer_15 rfl (by decide) rfl
set_option maxRecDepth 20000 in
set_option maxHeartbeats 4000000 in
theorem tX10_isLayer (l : Launch) (E : EE) (v0 : Int32) (u : Mm) : Ct l E yX10_isLayer cX10_isLayer 1 (some .boolean) 0 [.int v0] u (cvP u) (gX10_isLayer v0) :=
  Ct_of (own := RX10) (by decide +kernel) rfl (Nat.le_of_ble_eq_true rfl) (fun p e R s m args below meth c C M => g_sub (ls' := [(0, .int v0)]) [0] rfl (pX10_isLayer_0 C M rfl u v0))
set_option maxRecDepth 20000 in
set_option maxHeartbeats 4000000 in
theorem pX0_sideOf_0 {Γ : GX} (C : Cx Γ RX0 cX0_sideOf 1) (M : Mx Γ (some .int)) (L : xn Γ = 2) {k0 : Nat} (hk0 : kd k0 = 3) (u : Mm) (v1 : Int32) : Gp Γ (QM Γ (cvP u)) 0 [(0, .ref ((xE Γ).1 k0)), (1, .int v1)] [] u (gX0_sideOf_b k0 v1 u) := by
  unfold gX0_sideOf_b
  refine g_iload_n C dX0_sideOf_0 rfl 1 rfl ?_
  refine g_callnP [.int v1] C dX0_sideOf_1 rfl (tX10_isLayer (xl Γ) (xE Γ) v1 u) cf_X10_isLayer (List.mem_of_getElem? (i := 0) rfl) rfl (by decide) (Nat.le_of_ble_eq_true rfl) rfl (fun r1 => ?_)
  refine g_if_eq 16 C dX0_sideOf_4 rfl (by decide) (fun c2 => ?_) (fun c2 => ?_)
  · refine g_iconst (v := 0) C dX0_sideOf_16 rfl (by decide) ?_
    exact g_iret C M dX0_sideOf_17 rfl rfl
  · refine g_aload_n C dX0_sideOf_7 rfl 0 rfl ?_
    refine g_getR (k2 := (k0 + 1)) C dX0_sideOf_8 rfl hk0 fi_0_0 ⟨by decide, by decide, rfl⟩ fl_X0_9 ?_
    refine g_iload_n C dX0_sideOf_11 rfl 1 rfl ?_
    refine g_gd (fun hi3 => ?_)
    refine g_iald C dX0_sideOf_12 rfl (kr_0_0 hk0) (sr_0_0 hk0) hi3 ?_
    refine g_goto 17 C dX0_sideOf_13 rfl (by decide) ?_
    exact g_iret C M dX0_sideOf_17 rfl rfl
set_option maxRecDepth 20000 in
set_option maxHeartbeats 4000000 in
theorem tX0_sideOf (l : Launch) (E : EE) {k0 : Nat} (hk0 : kd k0 = 3) (v1 : Int32) (u : Mm) : Ct l E yX0_sideOf cX0_sideOf 2 (some .int) 1 [.ref (E.1 k0), .int v1] u (cvP u) (gX0_sideOf k0 v1 u) :=
  Ct_of (own := RX0) (by decide +kernel) rfl (Nat.le_of_ble_eq_true rfl) (fun p e R s m args below meth c C M => g_sub (ls' := [(0, .ref (E.1 k0)), (1, .int v1)]) [0, 1] rfl (pX0_sideOf_0 C M rfl hk0 u v1))
set_option maxRecDepth 20000 in
set_option maxHeartbeats 4000000 in
theorem pX0_aheadOf_0 {Γ : GX} (C : Cx Γ RX0 cX0_aheadOf 1) (M : Mx Γ (some .int)) (L : xn Γ = 2) {k0 : Nat} (hk0 : kd k0 = 3) (u : Mm) (v1 : Int32) : Gp Γ (QM Γ (cvP u)) 0 [(0, .ref ((xE Γ).1 k0)), (1, .int v1)] [] u (gX0_aheadOf_b k0 v1 u) := by
  unfold gX0_aheadOf_b
  refine g_iload_n C dX0_aheadOf_0 rfl 1 rfl ?_
  refine g_callnP [.int v1] C dX0_aheadOf_1 rfl (tX10_isLayer (xl Γ) (xE Γ) v1 u) cf_X10_isLayer (List.mem_of_getElem? (i := 0) rfl) rfl (by decide) (Nat.le_of_ble_eq_true rfl) rfl (fun r1 => ?_)
  refine g_if_eq 16 C dX0_aheadOf_4 rfl (by decide) (fun c2 => ?_) (fun c2 => ?_)
  · refine g_iconst (v := 0) C dX0_aheadOf_16 rfl (by decide) ?_
    exact g_iret C M dX0_aheadOf_17 rfl rfl
  · refine g_aload_n C dX0_aheadOf_7 rfl 0 rfl ?_
    refine g_getR (k2 := (k0 + 2)) C dX0_aheadOf_8 rfl hk0 fi_0_1 ⟨by decide, by decide, rfl⟩ fl_X0_15 ?_
    refine g_iload_n C dX0_aheadOf_11 rfl 1 rfl ?_
    refine g_gd (fun hi3 => ?_)
    refine g_iald C dX0_aheadOf_12 rfl (kr_0_1 hk0) (sr_0_1 hk0) hi3 ?_
    refine g_goto 17 C dX0_aheadOf_13 rfl (by decide) ?_
    exact g_iret C M dX0_aheadOf_17 rfl rfl
set_option maxRecDepth 20000 in
set_option maxHeartbeats 4000000 in
theorem tX0_aheadOf (l : Launch) (E : EE) {k0 : Nat} (hk0 : kd k0 = 3) (v1 : Int32) (u : Mm) : Ct l E yX0_aheadOf cX0_aheadOf 2 (some .int) 1 [.ref (E.1 k0), .int v1] u (cvP u) (gX0_aheadOf k0 v1 u) :=
  Ct_of (own := RX0) (by decide +kernel) rfl (Nat.le_of_ble_eq_true rfl) (fun p e R s m args below meth c C M => g_sub (ls' := [(0, .ref (E.1 k0)), (1, .int v1)]) [0, 1] rfl (pX0_aheadOf_0 C M rfl hk0 u v1))
set_option maxRecDepth 20000 in
set_option maxHeartbeats 4000000 in
theorem pX0_blow_0 {Γ : GX} (C : Cx Γ RX0 cX0_blow 1) (M : Mx Γ none) (L : xn Γ = 4) {k0 : Nat} (hk0 : kd k0 = 3) (v1 : Int32) (v2 : Int32) (v3 : Int32) (u : Mm) : Gp Γ (QM Γ cvV) 0 [(0, .ref ((xE Γ).1 k0)), (1, .int v1), (2, .int v2), (3, .int v3)] [] u (gX0_blow_b k0 v1 v2 v3 u) := by
  unfold gX0_blow_b
  refine g_iload_n C dX0_blow_0 rfl 1 rfl ?_
  refine g_callnP [.int v1] C dX0_blow_1 rfl (tX10_isLayer (xl Γ) (xE Γ) v1 u) cf_X10_isLayer (List.mem_of_getElem? (i := 0) rfl) rfl (by decide) (Nat.le_of_ble_eq_true rfl) rfl (fun r1 => ?_)
  refine g_if_eq 21 C dX0_blow_4 rfl (by decide) (fun c2 => ?_) (fun c2 => ?_)
  · exact g_vret C M dX0_blow_21 rfl rfl
  · refine g_aload_n C dX0_blow_7 rfl 0 rfl ?_
    refine g_getR (k2 := (k0 + 1)) C dX0_blow_8 rfl hk0 fi_0_0 ⟨by decide, by decide, rfl⟩ fl_X0_9 ?_
    refine g_iload_n C dX0_blow_11 rfl 1 rfl ?_
    refine g_iload_n C dX0_blow_12 rfl 2 rfl ?_
    refine g_gd (fun hi4 => ?_)
    refine g_iast C dX0_blow_13 rfl (kr_0_0 hk0) (sr_0_0 hk0) hi4 ?_
    refine g_letm (fun u3 => ?_)
    refine g_aload_n C dX0_blow_14 rfl 0 rfl ?_
    refine g_getR (k2 := (k0 + 2)) C dX0_blow_15 rfl hk0 fi_0_1 ⟨by decide, by decide, rfl⟩ fl_X0_15 ?_
    refine g_iload_n C dX0_blow_18 rfl 1 rfl ?_
    refine g_iload_n C dX0_blow_19 rfl 3 rfl ?_
    refine g_gd (fun hi6 => ?_)
    refine g_iast C dX0_blow_20 rfl (kr_0_1 hk0) (sr_0_1 hk0) hi6 ?_
    refine g_letm (fun u5 => ?_)
    exact g_vret C M dX0_blow_21 rfl rfl
set_option maxRecDepth 20000 in
set_option maxHeartbeats 4000000 in
theorem tX0_blow (l : Launch) (E : EE) {k0 : Nat} (hk0 : kd k0 = 3) (v1 : Int32) (v2 : Int32) (v3 : Int32) (u : Mm) : Ct l E yX0_blow cX0_blow 4 none 1 [.ref (E.1 k0), .int v1, .int v2, .int v3] u cvV (gX0_blow k0 v1 v2 v3 u) :=
  Ct_of (own := RX0) (by decide +kernel) rfl (Nat.le_of_ble_eq_true rfl) (fun p e R s m args below meth c C M => g_sub (ls' := [(0, .ref (E.1 k0)), (1, .int v1), (2, .int v2), (3, .int v3)]) [0, 1, 2, 3] rfl (pX0_blow_0 C M rfl hk0 v1 v2 v3 u))
set_option maxRecDepth 20000 in
set_option maxHeartbeats 4000000 in
theorem pX0_turnAbout_2s {Γ : GX} (C : Cx Γ RX0 cX0_turnAbout 0) (M : Mx Γ none) (L : xn Γ = 2) {k0 : Nat} (hk0 : kd k0 = 3) {j2 : Int32 → Mm → Option Mm} (hj2 : ∀ (v1 : Int32) (u : Mm), Gp Γ (QM Γ cvV) 2 [(0, .ref ((xE Γ).1 k0)), (1, .int v1)] [] u (j2 v1 u)) (v1 : Int32) (u : Mm) : Gp Γ (QM Γ cvV) 2 [(0, .ref ((xE Γ).1 k0)), (1, .int v1)] [] u (gX0_turnAbout_2_Ls k0 j2 v1 u) := by
  unfold gX0_turnAbout_2_Ls
  refine g_iload_n C dX0_turnAbout_2 rfl 1 rfl ?_
  refine g_bipush (v := 8) C dX0_turnAbout_3 rfl (by decide) ?_
  refine g_icmp_ge 27 C dX0_turnAbout_5 rfl (by decide) (fun c1 => ?_) (fun c1 => ?_)
  · exact g_vret C M dX0_turnAbout_27 rfl rfl
  · refine g_aload_n C dX0_turnAbout_8 rfl 0 rfl ?_
    refine g_getR (k2 := (k0 + 1)) C dX0_turnAbout_9 rfl hk0 fi_0_0 ⟨by decide, by decide, rfl⟩ fl_X0_9 ?_
    refine g_iload_n C dX0_turnAbout_12 rfl 1 rfl ?_
    refine g_aload_n C dX0_turnAbout_13 rfl 0 rfl ?_
    refine g_getR (k2 := (k0 + 1)) C dX0_turnAbout_14 rfl hk0 fi_0_0 ⟨by decide, by decide, rfl⟩ fl_X0_9 ?_
    refine g_iload_n C dX0_turnAbout_17 rfl 1 rfl ?_
    refine g_gd (fun hi2 => ?_)
    refine g_iald C dX0_turnAbout_18 rfl (kr_0_0 hk0) (sr_0_0 hk0) hi2 ?_
    refine g_ineg C dX0_turnAbout_19 rfl ?_
    refine g_gd (fun hi4 => ?_)
    refine g_iast C dX0_turnAbout_20 rfl (kr_0_0 hk0) (sr_0_0 hk0) hi4 ?_
    refine g_letm (fun u3 => ?_)
    refine g_iincL (fun v1_5 => [(1, .int v1_5), (0, .ref ((xE Γ).1 k0))]) C dX0_turnAbout_21 rfl L (by decide) (k := 1) rfl (iinc_1 _) (fun _ => rfl) (fun v1_5 => ?_)
    refine g_goto 2 C dX0_turnAbout_24 rfl (by decide) ?_
    refine g_sub (ls' := [(0, .ref ((xE Γ).1 k0)), (1, .int v1_5)]) [1, 0] rfl ?_
    exact hj2 v1_5 u3
set_option maxRecDepth 20000 in
set_option maxHeartbeats 4000000 in
theorem pX0_turnAbout_2 {Γ : GX} (C : Cx Γ RX0 cX0_turnAbout 0) (M : Mx Γ none) (L : xn Γ = 2) {k0 : Nat} (hk0 : kd k0 = 3) : ∀ (n : Nat) (v1 : Int32) (u : Mm), Gp Γ (QM Γ cvV) 2 [(0, .ref ((xE Γ).1 k0)), (1, .int v1)] [] u (gX0_turnAbout_2_L k0 n v1 u) := by
  intro n
  induction n with
  | zero => intro _ _; exact g_none
  | succ n ih => intro v1 u; exact pX0_turnAbout_2s C M L hk0 ih v1 u

set_option maxRecDepth 20000 in
set_option maxHeartbeats 4000000 in
theorem pX0_turnAbout_0 {Γ : GX} (C : Cx Γ RX0 cX0_turnAbout 0) (M : Mx Γ none) (L : xn Γ = 2) {k0 : Nat} (hk0 : kd k0 = 3) (u : Mm) : Gp Γ (QM Γ cvV) 0 [(0, .ref ((xE Γ).1 k0))] [] u (gX0_turnAbout_b k0 u) := by
  unfold gX0_turnAbout_b
  refine g_iconst (v := 0) C dX0_turnAbout_0 rfl (by decide) ?_
  refine g_istore_n (ls' := [(1, .int 0), (0, .ref ((xE Γ).1 k0))]) C dX0_turnAbout_1 rfl L (by decide) rfl ?_
  refine g_sub (ls' := [(0, .ref ((xE Γ).1 k0)), (1, .int 0)]) [1, 0] rfl ?_
  exact pX0_turnAbout_2 C M L hk0 FU 0 u
set_option maxRecDepth 20000 in
set_option maxHeartbeats 4000000 in
theorem tX0_turnAbout (l : Launch) (E : EE) {k0 : Nat} (hk0 : kd k0 = 3) (u : Mm) : Ct l E yX0_turnAbout cX0_turnAbout 2 none 0 [.ref (E.1 k0)] u cvV (gX0_turnAbout k0 u) :=
  Ct_of (own := RX0) (by decide +kernel) rfl (Nat.le_of_ble_eq_true rfl) (fun p e R s m args below meth c C M => g_sub (ls' := [(0, .ref (E.1 k0))]) [0] rfl (pX0_turnAbout_0 C M rfl hk0 u))
set_option maxRecDepth 20000 in
set_option maxHeartbeats 4000000 in
theorem pX0_dragOf_0 {Γ : GX} (C : Cx Γ RX0 cX0_dragOf 1) (M : Mx Γ (some .int)) (L : xn Γ = 3) {k0 : Nat} (hk0 : kd k0 = 3) (u : Mm) (v1 : Int32) (v2 : Int32) : Gp Γ (QM Γ (cvP u)) 0 [(0, .ref ((xE Γ).1 k0)), (1, .int v1), (2, .int v2)] [] u (gX0_dragOf_b k0 v1 v2 u) := by
  unfold gX0_dragOf_b
  refine g_iconst (v := 0) C dX0_dragOf_0 rfl (by decide) ?_
  refine g_iconst (v := 4) C dX0_dragOf_1 rfl (by decide) ?_
  refine g_iload_n C dX0_dragOf_2 rfl 1 rfl ?_
  refine g_imul C dX0_dragOf_3 rfl ?_
  refine g_iconst (v := 3) C dX0_dragOf_4 rfl (by decide) ?_
  refine g_aload_n C dX0_dragOf_5 rfl 0 rfl ?_
  refine g_getR (k2 := (k0 + 1)) C dX0_dragOf_6 rfl hk0 fi_0_0 ⟨by decide, by decide, rfl⟩ fl_X0_9 ?_
  refine g_iconst (v := 0) C dX0_dragOf_9 rfl (by decide) ?_
  refine g_iald C dX0_dragOf_10 rfl (kr_0_0 hk0) (sr_0_0 hk0) ⟨by decide, by decide⟩ ?_
  refine g_abs C dX0_dragOf_11 rfl ⟨ml_X0_22, ms_abs, mc_abs⟩ (by decide) (Nat.le_of_ble_eq_true rfl) ?_
  refine g_aload_n C dX0_dragOf_14 rfl 0 rfl ?_
  refine g_getR (k2 := (k0 + 2)) C dX0_dragOf_15 rfl hk0 fi_0_1 ⟨by decide, by decide, rfl⟩ fl_X0_15 ?_
  refine g_iconst (v := 0) C dX0_dragOf_18 rfl (by decide) ?_
  refine g_iald C dX0_dragOf_19 rfl (kr_0_1 hk0) (sr_0_1 hk0) ⟨by decide, by decide⟩ ?_
  refine g_iadd C dX0_dragOf_20 rfl ?_
  refine g_imul C dX0_dragOf_21 rfl ?_
  refine g_iadd C dX0_dragOf_22 rfl ?_
  refine g_iconst (v := 2) C dX0_dragOf_23 rfl (by decide) ?_
  refine g_iload_n C dX0_dragOf_24 rfl 2 rfl ?_
  refine g_imul C dX0_dragOf_25 rfl ?_
  refine g_isub C dX0_dragOf_26 rfl ?_
  refine g_max C dX0_dragOf_27 rfl ⟨ml_X0_28, ms_max, mc_max⟩ (by decide) (Nat.le_of_ble_eq_true rfl) ?_
  exact g_iret C M dX0_dragOf_30 rfl rfl
set_option maxRecDepth 20000 in
set_option maxHeartbeats 4000000 in
theorem tX0_dragOf (l : Launch) (E : EE) {k0 : Nat} (hk0 : kd k0 = 3) (v1 : Int32) (v2 : Int32) (u : Mm) : Ct l E yX0_dragOf cX0_dragOf 3 (some .int) 1 [.ref (E.1 k0), .int v1, .int v2] u (cvP u) (gX0_dragOf k0 v1 v2 u) :=
  Ct_of (own := RX0) (by decide +kernel) rfl (Nat.le_of_ble_eq_true rfl) (fun p e R s m args below meth c C M => g_sub (ls' := [(0, .ref (E.1 k0)), (1, .int v1), (2, .int v2)]) [0, 1, 2] rfl (pX0_dragOf_0 C M rfl hk0 u v1 v2))
set_option maxRecDepth 20000 in
set_option maxHeartbeats 4000000 in
theorem pX0_speedTo_0 {Γ : GX} (C : Cx Γ RX0 cX0_speedTo 2) (M : Mx Γ (some .int)) (L : xn Γ = 3) {k0 : Nat} (hk0 : kd k0 = 3) (u : Mm) (v1 : Int32) (v2 : Int32) : Gp Γ (QM Γ (cvP u)) 0 [(0, .ref ((xE Γ).1 k0)), (1, .int v1), (2, .int v2)] [] u (gX0_speedTo_b k0 v1 v2 u) := by
  unfold gX0_speedTo_b
  refine g_iload_n C dX0_speedTo_0 rfl 1 rfl ?_
  refine g_iconst (v := 2) C dX0_speedTo_1 rfl (by decide) ?_
  refine g_icmp_ne 11 C dX0_speedTo_2 rfl (by decide) (fun c1 => ?_) (fun c1 => ?_)
  · refine g_iload_n C dX0_speedTo_11 rfl 1 rfl ?_
    refine g_if_ne 23 C dX0_speedTo_12 rfl (by decide) (fun c2 => ?_) (fun c2 => ?_)
    · refine g_aload_n C dX0_speedTo_23 rfl 0 rfl ?_
      refine g_iload_n C dX0_speedTo_24 rfl 2 rfl ?_
      refine g_callP [.int v2] C dX0_speedTo_25 rfl (tX0_sideOf (xl Γ) (xE Γ) hk0 v2 u) cf_X0_sideOf hk0 rfl ml_X0_38 rfl (by decide) (Nat.le_of_ble_eq_true rfl) rfl (fun r3 => ?_)
      refine g_ineg C dX0_speedTo_28 rfl ?_
      exact g_iret C M dX0_speedTo_29 rfl rfl
    · refine g_aload_n C dX0_speedTo_15 rfl 0 rfl ?_
      refine g_iload_n C dX0_speedTo_16 rfl 2 rfl ?_
      refine g_callP [.int v2] C dX0_speedTo_17 rfl (tX0_sideOf (xl Γ) (xE Γ) hk0 v2 u) cf_X0_sideOf hk0 rfl ml_X0_38 rfl (by decide) (Nat.le_of_ble_eq_true rfl) rfl (fun r4 => ?_)
      refine g_goto 29 C dX0_speedTo_20 rfl (by decide) ?_
      exact g_iret C M dX0_speedTo_29 rfl rfl
  · refine g_aload_n C dX0_speedTo_5 rfl 0 rfl ?_
    refine g_iload_n C dX0_speedTo_6 rfl 2 rfl ?_
    refine g_callP [.int v2] C dX0_speedTo_7 rfl (tX0_aheadOf (xl Γ) (xE Γ) hk0 v2 u) cf_X0_aheadOf hk0 rfl ml_X0_35 rfl (by decide) (Nat.le_of_ble_eq_true rfl) rfl (fun r5 => ?_)
    exact g_iret C M dX0_speedTo_10 rfl rfl
set_option maxRecDepth 20000 in
set_option maxHeartbeats 4000000 in
theorem tX0_speedTo (l : Launch) (E : EE) {k0 : Nat} (hk0 : kd k0 = 3) (v1 : Int32) (v2 : Int32) (u : Mm) : Ct l E yX0_speedTo cX0_speedTo 3 (some .int) 2 [.ref (E.1 k0), .int v1, .int v2] u (cvP u) (gX0_speedTo k0 v1 v2 u) :=
  Ct_of (own := RX0) (by decide +kernel) rfl (Nat.le_of_ble_eq_true rfl) (fun p e R s m args below meth c C M => g_sub (ls' := [(0, .ref (E.1 k0)), (1, .int v1), (2, .int v2)]) [0, 1, 2] rfl (pX0_speedTo_0 C M rfl hk0 u v1 v2))
set_option maxRecDepth 20000 in
set_option maxHeartbeats 4000000 in
theorem pX0_layerFarthest_30 {Γ : GX} (C : Cx Γ RX0 cX0_layerFarthest 3) (M : Mx Γ (some .int)) (L : xn Γ = 4) {k0 : Nat} (hk0 : kd k0 = 3) (u : Mm) (v1 : Int32) (v3 : Int32) (s0 : Int32) {j4 : Int32 → Int32 → Option Int32} (hj4 : ∀ (v2 : Int32) (v3 : Int32), Gp Γ (QM Γ (cvP u)) 4 [(0, .ref ((xE Γ).1 k0)), (1, .int v1), (2, .int v2), (3, .int v3)] [] u (j4 v2 v3)) : Gp Γ (QM Γ (cvP u)) 30 [(0, .ref ((xE Γ).1 k0)), (1, .int v1), (3, .int v3)] [.int s0] u (gX0_layerFarthest_30 k0 j4 v1 v3 s0 u) := by
  unfold gX0_layerFarthest_30
  refine g_istore_n (ls' := [(2, .int s0), (0, .ref ((xE Γ).1 k0)), (1, .int v1), (3, .int v3)]) C dX0_layerFarthest_30 rfl L (by decide) rfl ?_
  refine g_iincL (fun v3_1 => [(3, .int v3_1), (2, .int s0), (0, .ref ((xE Γ).1 k0)), (1, .int v1)]) C dX0_layerFarthest_31 rfl L (by decide) (k := 3) rfl (iinc_1 _) (fun _ => rfl) (fun v3_1 => ?_)
  refine g_goto 4 C dX0_layerFarthest_34 rfl (by decide) ?_
  refine g_sub (ls' := [(0, .ref ((xE Γ).1 k0)), (1, .int v1), (2, .int s0), (3, .int v3_1)]) [2, 3, 1, 0] rfl ?_
  exact hj4 s0 v3_1
set_option maxRecDepth 20000 in
set_option maxHeartbeats 4000000 in
theorem pX0_layerFarthest_4s {Γ : GX} (C : Cx Γ RX0 cX0_layerFarthest 3) (M : Mx Γ (some .int)) (L : xn Γ = 4) {k0 : Nat} (hk0 : kd k0 = 3) (u : Mm) (v1 : Int32) {j4 : Int32 → Int32 → Option Int32} (hj4 : ∀ (v2 : Int32) (v3 : Int32), Gp Γ (QM Γ (cvP u)) 4 [(0, .ref ((xE Γ).1 k0)), (1, .int v1), (2, .int v2), (3, .int v3)] [] u (j4 v2 v3)) (v2 : Int32) (v3 : Int32) : Gp Γ (QM Γ (cvP u)) 4 [(0, .ref ((xE Γ).1 k0)), (1, .int v1), (2, .int v2), (3, .int v3)] [] u (gX0_layerFarthest_4_Ls k0 v1 u j4 v2 v3) := by
  unfold gX0_layerFarthest_4_Ls
  refine g_iload_n C dX0_layerFarthest_4 rfl 3 rfl ?_
  refine g_bipush (v := 8) C dX0_layerFarthest_5 rfl (by decide) ?_
  refine g_icmp_ge 37 C dX0_layerFarthest_7 rfl (by decide) (fun c1 => ?_) (fun c1 => ?_)
  · refine g_iload_n C dX0_layerFarthest_37 rfl 2 rfl ?_
    exact g_iret C M dX0_layerFarthest_38 rfl rfl
  · refine g_aload_n C dX0_layerFarthest_10 rfl 0 rfl ?_
    refine g_iload_n C dX0_layerFarthest_11 rfl 1 rfl ?_
    refine g_iload_n C dX0_layerFarthest_12 rfl 3 rfl ?_
    refine g_callP [.int v1, .int v3] C dX0_layerFarthest_13 rfl (tX0_speedTo (xl Γ) (xE Γ) hk0 v1 v3 u) cf_X0_speedTo hk0 rfl ml_X0_32 rfl (by decide) (Nat.le_of_ble_eq_true rfl) rfl (fun r2 => ?_)
    refine g_aload_n C dX0_layerFarthest_16 rfl 0 rfl ?_
    refine g_iload_n C dX0_layerFarthest_17 rfl 1 rfl ?_
    refine g_iload_n C dX0_layerFarthest_18 rfl 2 rfl ?_
    refine g_callP [.int v1, .int v2] C dX0_layerFarthest_19 rfl (tX0_speedTo (xl Γ) (xE Γ) hk0 v1 v2 u) cf_X0_speedTo hk0 rfl ml_X0_32 rfl (by decide) (Nat.le_of_ble_eq_true rfl) rfl (fun r3 => ?_)
    refine g_icmp_le 29 C dX0_layerFarthest_22 rfl (by decide) (fun c4 => ?_) (fun c4 => ?_)
    · refine g_iload_n C dX0_layerFarthest_29 rfl 2 rfl ?_
      refine g_sub (ls' := [(0, .ref ((xE Γ).1 k0)), (1, .int v1), (3, .int v3)]) [0, 1, 3] rfl ?_
      exact pX0_layerFarthest_30 C M L hk0 u v1 v3 v2 hj4
    · refine g_iload_n C dX0_layerFarthest_25 rfl 3 rfl ?_
      refine g_goto 30 C dX0_layerFarthest_26 rfl (by decide) ?_
      refine g_sub (ls' := [(0, .ref ((xE Γ).1 k0)), (1, .int v1), (3, .int v3)]) [0, 1, 3] rfl ?_
      exact pX0_layerFarthest_30 C M L hk0 u v1 v3 v3 hj4
set_option maxRecDepth 20000 in
set_option maxHeartbeats 4000000 in
theorem pX0_layerFarthest_4 {Γ : GX} (C : Cx Γ RX0 cX0_layerFarthest 3) (M : Mx Γ (some .int)) (L : xn Γ = 4) {k0 : Nat} (hk0 : kd k0 = 3) (u : Mm) (v1 : Int32) : ∀ (n : Nat) (v2 : Int32) (v3 : Int32), Gp Γ (QM Γ (cvP u)) 4 [(0, .ref ((xE Γ).1 k0)), (1, .int v1), (2, .int v2), (3, .int v3)] [] u (gX0_layerFarthest_4_L k0 v1 u n v2 v3) := by
  intro n
  induction n with
  | zero => intro _ _; exact g_none
  | succ n ih => intro v2 v3; exact pX0_layerFarthest_4s C M L hk0 u v1 ih v2 v3

set_option maxRecDepth 20000 in
set_option maxHeartbeats 4000000 in
theorem pX0_layerFarthest_0 {Γ : GX} (C : Cx Γ RX0 cX0_layerFarthest 3) (M : Mx Γ (some .int)) (L : xn Γ = 4) {k0 : Nat} (hk0 : kd k0 = 3) (u : Mm) (v1 : Int32) : Gp Γ (QM Γ (cvP u)) 0 [(0, .ref ((xE Γ).1 k0)), (1, .int v1)] [] u (gX0_layerFarthest_b k0 v1 u) := by
  unfold gX0_layerFarthest_b
  refine g_iconst (v := 0) C dX0_layerFarthest_0 rfl (by decide) ?_
  refine g_istore_n (ls' := [(2, .int 0), (0, .ref ((xE Γ).1 k0)), (1, .int v1)]) C dX0_layerFarthest_1 rfl L (by decide) rfl ?_
  refine g_iconst (v := 1) C dX0_layerFarthest_2 rfl (by decide) ?_
  refine g_istore_n (ls' := [(3, .int 1), (2, .int 0), (0, .ref ((xE Γ).1 k0)), (1, .int v1)]) C dX0_layerFarthest_3 rfl L (by decide) rfl ?_
  refine g_sub (ls' := [(0, .ref ((xE Γ).1 k0)), (1, .int v1), (2, .int 0), (3, .int 1)]) [2, 3, 1, 0] rfl ?_
  exact pX0_layerFarthest_4 C M L hk0 u v1 FU 0 1
set_option maxRecDepth 20000 in
set_option maxHeartbeats 4000000 in
theorem tX0_layerFarthest (l : Launch) (E : EE) {k0 : Nat} (hk0 : kd k0 = 3) (v1 : Int32) (u : Mm) : Ct l E yX0_layerFarthest cX0_layerFarthest 4 (some .int) 3 [.ref (E.1 k0), .int v1] u (cvP u) (gX0_layerFarthest k0 v1 u) :=
  Ct_of (own := RX0) (by decide +kernel) rfl (Nat.le_of_ble_eq_true rfl) (fun p e R s m args below meth c C M => g_sub (ls' := [(0, .ref (E.1 k0)), (1, .int v1)]) [0, 1] rfl (pX0_layerFarthest_0 C M rfl hk0 u v1))
set_option maxRecDepth 20000 in
set_option maxHeartbeats 4000000 in
theorem pX0_layersFor_23s {Γ : GX} (C : Cx Γ RX0 cX0_layersFor 0) (M : Mx Γ (some .int)) (L : xn Γ = 8) {k0 : Nat} (hk0 : kd k0 = 3) (u : Mm) (v1 : Int32) (v2 : Int32) (v3 : Int32) (v4 : Int32) (v5 : Int32) {j3 : Int32 → Option Int32} (hj3 : ∀ (v4 : Int32), Gp Γ (QM Γ (cvP u)) 3 [(0, .ref ((xE Γ).1 k0)), (1, .int v1), (2, .int v2), (3, .int v3), (4, .int v4)] [] u (j3 v4)) {j13 : Int32 → Option Int32} (hj13 : ∀ (v5 : Int32), Gp Γ (QM Γ (cvP u)) 13 [(0, .ref ((xE Γ).1 k0)), (1, .int v1), (2, .int v2), (3, .int v3), (4, .int v4), (5, .int v5)] [] u (j13 v5)) {j23 : Int32 → Option Int32} (hj23 : ∀ (v6 : Int32), Gp Γ (QM Γ (cvP u)) 23 [(0, .ref ((xE Γ).1 k0)), (1, .int v1), (2, .int v2), (3, .int v3), (4, .int v4), (5, .int v5), (6, .int v6)] [] u (j23 v6)) (v6 : Int32) : Gp Γ (QM Γ (cvP u)) 23 [(0, .ref ((xE Γ).1 k0)), (1, .int v1), (2, .int v2), (3, .int v3), (4, .int v4), (5, .int v5), (6, .int v6)] [] u (gX0_layersFor_23_Ls k0 j3 j13 v1 v2 v3 v4 v5 u j23 v6) := by
  unfold gX0_layersFor_23_Ls
  refine g_iload C dX0_layersFor_23 rfl 6 rfl ?_
  refine g_iload_n C dX0_layersFor_25 rfl 1 rfl ?_
  refine g_icmp_gt 108 C dX0_layersFor_26 rfl (by decide) (fun c1 => ?_) (fun c1 => ?_)
  · refine g_iincL (fun v5_2 => [(5, .int v5_2), (0, .ref ((xE Γ).1 k0)), (1, .int v1), (2, .int v2), (3, .int v3), (4, .int v4), (6, .int v6)]) C dX0_layersFor_108 rfl L (by decide) (k := 5) rfl (iinc_1 _) (fun _ => rfl) (fun v5_2 => ?_)
    refine g_goto 13 C dX0_layersFor_111 rfl (by decide) ?_
    refine g_sub (ls' := [(0, .ref ((xE Γ).1 k0)), (1, .int v1), (2, .int v2), (3, .int v3), (4, .int v4), (5, .int v5_2)]) [1, 2, 3, 4, 5, 0] rfl ?_
    exact hj13 v5_2
  · refine g_iload_n C dX0_layersFor_29 rfl 1 rfl ?_
    refine g_iload C dX0_layersFor_30 rfl 6 rfl ?_
    refine g_isub C dX0_layersFor_32 rfl ?_
    refine g_lets (fun v7_3 => ?_)
    refine g_istore (ls' := [(7, .int v7_3), (0, .ref ((xE Γ).1 k0)), (1, .int v1), (2, .int v2), (3, .int v3), (4, .int v4), (5, .int v5), (6, .int v6)]) C dX0_layersFor_33 rfl L (by decide) rfl ?_
    refine g_iload C dX0_layersFor_35 rfl 7 rfl ?_
    refine g_aload_n C dX0_layersFor_37 rfl 1 rfl ?_
    refine g_getR (k2 := (k0 + 1)) C dX0_layersFor_38 rfl hk0 fi_0_0 ⟨by decide, by decide, rfl⟩ fl_X0_9 ?_
    refine g_iload C dX0_layersFor_41 rfl 5 rfl ?_
    refine g_gd (fun hi4 => ?_)
    refine g_iald C dX0_layersFor_43 rfl (kr_0_0 hk0) (sr_0_0 hk0) hi4 ?_
    refine g_imul C dX0_layersFor_44 rfl ?_
    refine g_iload C dX0_layersFor_45 rfl 0 rfl ?_
    refine g_aload_n C dX0_layersFor_47 rfl 1 rfl ?_
    refine g_getR (k2 := (k0 + 1)) C dX0_layersFor_48 rfl hk0 fi_0_0 ⟨by decide, by decide, rfl⟩ fl_X0_9 ?_
    refine g_iload C dX0_layersFor_51 rfl 6 rfl ?_
    refine g_gd (fun hi5 => ?_)
    refine g_iald C dX0_layersFor_53 rfl (kr_0_0 hk0) (sr_0_0 hk0) hi5 ?_
    refine g_imul C dX0_layersFor_54 rfl ?_
    refine g_iadd C dX0_layersFor_55 rfl ?_
    refine g_iload_n C dX0_layersFor_56 rfl 3 rfl ?_
    refine g_icmp_ne 102 C dX0_layersFor_57 rfl (by decide) (fun c6 => ?_) (fun c6 => ?_)
    · refine g_iincL (fun v6_7 => [(6, .int v6_7), (7, .int v7_3), (0, .ref ((xE Γ).1 k0)), (1, .int v1), (2, .int v2), (3, .int v3), (4, .int v4), (5, .int v5)]) C dX0_layersFor_102 rfl L (by decide) (k := 7) rfl (iinc_1 _) (fun _ => rfl) (fun v6_7 => ?_)
      refine g_goto 23 C dX0_layersFor_105 rfl (by decide) ?_
      refine g_sub (ls' := [(0, .ref ((xE Γ).1 k0)), (1, .int v1), (2, .int v2), (3, .int v3), (4, .int v4), (5, .int v5), (6, .int v6_7)]) [2, 3, 4, 5, 6, 7, 0] rfl ?_
      exact hj23 v6_7
    · refine g_iload C dX0_layersFor_60 rfl 7 rfl ?_
      refine g_aload_n C dX0_layersFor_62 rfl 1 rfl ?_
      refine g_getR (k2 := (k0 + 2)) C dX0_layersFor_63 rfl hk0 fi_0_1 ⟨by decide, by decide, rfl⟩ fl_X0_15 ?_
      refine g_iload C dX0_layersFor_66 rfl 5 rfl ?_
      refine g_gd (fun hi8 => ?_)
      refine g_iald C dX0_layersFor_68 rfl (kr_0_1 hk0) (sr_0_1 hk0) hi8 ?_
      refine g_imul C dX0_layersFor_69 rfl ?_
      refine g_iload C dX0_layersFor_70 rfl 0 rfl ?_
      refine g_aload_n C dX0_layersFor_72 rfl 1 rfl ?_
      refine g_getR (k2 := (k0 + 2)) C dX0_layersFor_73 rfl hk0 fi_0_1 ⟨by decide, by decide, rfl⟩ fl_X0_15 ?_
      refine g_iload C dX0_layersFor_76 rfl 6 rfl ?_
      refine g_gd (fun hi9 => ?_)
      refine g_iald C dX0_layersFor_78 rfl (kr_0_1 hk0) (sr_0_1 hk0) hi9 ?_
      refine g_imul C dX0_layersFor_79 rfl ?_
      refine g_iadd C dX0_layersFor_80 rfl ?_
      refine g_iload_n C dX0_layersFor_81 rfl 4 rfl ?_
      refine g_icmp_ne 102 C dX0_layersFor_82 rfl (by decide) (fun c10 => ?_) (fun c10 => ?_)
      · refine g_iincL (fun v6_11 => [(6, .int v6_11), (7, .int v7_3), (0, .ref ((xE Γ).1 k0)), (1, .int v1), (2, .int v2), (3, .int v3), (4, .int v4), (5, .int v5)]) C dX0_layersFor_102 rfl L (by decide) (k := 7) rfl (iinc_1 _) (fun _ => rfl) (fun v6_11 => ?_)
        refine g_goto 23 C dX0_layersFor_105 rfl (by decide) ?_
        refine g_sub (ls' := [(0, .ref ((xE Γ).1 k0)), (1, .int v1), (2, .int v2), (3, .int v3), (4, .int v4), (5, .int v5), (6, .int v6_11)]) [2, 3, 4, 5, 6, 7, 0] rfl ?_
        exact hj23 v6_11
      · refine g_sipush (v := 10000) C dX0_layersFor_85 rfl (by decide) ?_
        refine g_iload C dX0_layersFor_88 rfl 5 rfl ?_
        refine g_imul C dX0_layersFor_90 rfl ?_
        refine g_sipush (v := 1000) C dX0_layersFor_91 rfl (by decide) ?_
        refine g_iload C dX0_layersFor_94 rfl 6 rfl ?_
        refine g_imul C dX0_layersFor_96 rfl ?_
        refine g_iadd C dX0_layersFor_97 rfl ?_
        refine g_iload C dX0_layersFor_98 rfl 7 rfl ?_
        refine g_iadd C dX0_layersFor_100 rfl ?_
        exact g_iret C M dX0_layersFor_101 rfl rfl
set_option maxRecDepth 20000 in
set_option maxHeartbeats 4000000 in
theorem pX0_layersFor_23 {Γ : GX} (C : Cx Γ RX0 cX0_layersFor 0) (M : Mx Γ (some .int)) (L : xn Γ = 8) {k0 : Nat} (hk0 : kd k0 = 3) (u : Mm) (v1 : Int32) (v2 : Int32) (v3 : Int32) (v4 : Int32) (v5 : Int32) {j3 : Int32 → Option Int32} (hj3 : ∀ (v4 : Int32), Gp Γ (QM Γ (cvP u)) 3 [(0, .ref ((xE Γ).1 k0)), (1, .int v1), (2, .int v2), (3, .int v3), (4, .int v4)] [] u (j3 v4)) {j13 : Int32 → Option Int32} (hj13 : ∀ (v5 : Int32), Gp Γ (QM Γ (cvP u)) 13 [(0, .ref ((xE Γ).1 k0)), (1, .int v1), (2, .int v2), (3, .int v3), (4, .int v4), (5, .int v5)] [] u (j13 v5)) : ∀ (n : Nat) (v6 : Int32), Gp Γ (QM Γ (cvP u)) 23 [(0, .ref ((xE Γ).1 k0)), (1, .int v1), (2, .int v2), (3, .int v3), (4, .int v4), (5, .int v5), (6, .int v6)] [] u (gX0_layersFor_23_L k0 j3 j13 v1 v2 v3 v4 v5 u n v6) := by
  intro n
  induction n with
  | zero => intro _; exact g_none
  | succ n ih => intro v6; exact pX0_layersFor_23s C M L hk0 u v1 v2 v3 v4 v5 hj3 hj13 ih v6

set_option maxRecDepth 20000 in
set_option maxHeartbeats 4000000 in
theorem pX0_layersFor_13s {Γ : GX} (C : Cx Γ RX0 cX0_layersFor 0) (M : Mx Γ (some .int)) (L : xn Γ = 8) {k0 : Nat} (hk0 : kd k0 = 3) (u : Mm) (v1 : Int32) (v2 : Int32) (v3 : Int32) (v4 : Int32) {j3 : Int32 → Option Int32} (hj3 : ∀ (v4 : Int32), Gp Γ (QM Γ (cvP u)) 3 [(0, .ref ((xE Γ).1 k0)), (1, .int v1), (2, .int v2), (3, .int v3), (4, .int v4)] [] u (j3 v4)) {j13 : Int32 → Option Int32} (hj13 : ∀ (v5 : Int32), Gp Γ (QM Γ (cvP u)) 13 [(0, .ref ((xE Γ).1 k0)), (1, .int v1), (2, .int v2), (3, .int v3), (4, .int v4), (5, .int v5)] [] u (j13 v5)) (v5 : Int32) : Gp Γ (QM Γ (cvP u)) 13 [(0, .ref ((xE Γ).1 k0)), (1, .int v1), (2, .int v2), (3, .int v3), (4, .int v4), (5, .int v5)] [] u (gX0_layersFor_13_Ls k0 j3 v1 v2 v3 v4 u j13 v5) := by
  unfold gX0_layersFor_13_Ls
  refine g_iload C dX0_layersFor_13 rfl 5 rfl ?_
  refine g_bipush (v := 8) C dX0_layersFor_15 rfl (by decide) ?_
  refine g_icmp_ge 114 C dX0_layersFor_17 rfl (by decide) (fun c1 => ?_) (fun c1 => ?_)
  · refine g_iincL (fun v4_2 => [(4, .int v4_2), (0, .ref ((xE Γ).1 k0)), (1, .int v1), (2, .int v2), (3, .int v3), (5, .int v5)]) C dX0_layersFor_114 rfl L (by decide) (k := 4) rfl (iinc_1 _) (fun _ => rfl) (fun v4_2 => ?_)
    refine g_goto 3 C dX0_layersFor_117 rfl (by decide) ?_
    refine g_sub (ls' := [(0, .ref ((xE Γ).1 k0)), (1, .int v1), (2, .int v2), (3, .int v3), (4, .int v4_2)]) [1, 2, 3, 4, 0] rfl ?_
    exact hj3 v4_2
  · refine g_iconst (v := 0) C dX0_layersFor_20 rfl (by decide) ?_
    refine g_istore (ls' := [(6, .int 0), (0, .ref ((xE Γ).1 k0)), (1, .int v1), (2, .int v2), (3, .int v3), (4, .int v4), (5, .int v5)]) C dX0_layersFor_21 rfl L (by decide) rfl ?_
    refine g_sub (ls' := [(0, .ref ((xE Γ).1 k0)), (1, .int v1), (2, .int v2), (3, .int v3), (4, .int v4), (5, .int v5), (6, .int 0)]) [1, 2, 3, 4, 5, 6, 0] rfl ?_
    exact pX0_layersFor_23 C M L hk0 u v1 v2 v3 v4 v5 hj3 hj13 FU 0
set_option maxRecDepth 20000 in
set_option maxHeartbeats 4000000 in
theorem pX0_layersFor_13 {Γ : GX} (C : Cx Γ RX0 cX0_layersFor 0) (M : Mx Γ (some .int)) (L : xn Γ = 8) {k0 : Nat} (hk0 : kd k0 = 3) (u : Mm) (v1 : Int32) (v2 : Int32) (v3 : Int32) (v4 : Int32) {j3 : Int32 → Option Int32} (hj3 : ∀ (v4 : Int32), Gp Γ (QM Γ (cvP u)) 3 [(0, .ref ((xE Γ).1 k0)), (1, .int v1), (2, .int v2), (3, .int v3), (4, .int v4)] [] u (j3 v4)) : ∀ (n : Nat) (v5 : Int32), Gp Γ (QM Γ (cvP u)) 13 [(0, .ref ((xE Γ).1 k0)), (1, .int v1), (2, .int v2), (3, .int v3), (4, .int v4), (5, .int v5)] [] u (gX0_layersFor_13_L k0 j3 v1 v2 v3 v4 u n v5) := by
  intro n
  induction n with
  | zero => intro _; exact g_none
  | succ n ih => intro v5; exact pX0_layersFor_13s C M L hk0 u v1 v2 v3 v4 hj3 ih v5

set_option maxRecDepth 20000 in
set_option maxHeartbeats 4000000 in
theorem pX0_layersFor_3s {Γ : GX} (C : Cx Γ RX0 cX0_layersFor 0) (M : Mx Γ (some .int)) (L : xn Γ = 8) {k0 : Nat} (hk0 : kd k0 = 3) (u : Mm) (v1 : Int32) (v2 : Int32) (v3 : Int32) {j3 : Int32 → Option Int32} (hj3 : ∀ (v4 : Int32), Gp Γ (QM Γ (cvP u)) 3 [(0, .ref ((xE Γ).1 k0)), (1, .int v1), (2, .int v2), (3, .int v3), (4, .int v4)] [] u (j3 v4)) (v4 : Int32) : Gp Γ (QM Γ (cvP u)) 3 [(0, .ref ((xE Γ).1 k0)), (1, .int v1), (2, .int v2), (3, .int v3), (4, .int v4)] [] u (gX0_layersFor_3_Ls k0 v1 v2 v3 u j3 v4) := by
  unfold gX0_layersFor_3_Ls
  refine g_iload C dX0_layersFor_3 rfl 4 rfl ?_
  refine g_bipush (v := 8) C dX0_layersFor_5 rfl (by decide) ?_
  refine g_icmp_ge 120 C dX0_layersFor_7 rfl (by decide) (fun c1 => ?_) (fun c1 => ?_)
  · refine g_bipush (v := (-9)) C dX0_layersFor_120 rfl (by decide) ?_
    exact g_iret C M dX0_layersFor_122 rfl rfl
  · refine g_iconst (v := 0) C dX0_layersFor_10 rfl (by decide) ?_
    refine g_istore (ls' := [(5, .int 0), (0, .ref ((xE Γ).1 k0)), (1, .int v1), (2, .int v2), (3, .int v3), (4, .int v4)]) C dX0_layersFor_11 rfl L (by decide) rfl ?_
    refine g_sub (ls' := [(0, .ref ((xE Γ).1 k0)), (1, .int v1), (2, .int v2), (3, .int v3), (4, .int v4), (5, .int 0)]) [1, 2, 3, 4, 5, 0] rfl ?_
    exact pX0_layersFor_13 C M L hk0 u v1 v2 v3 v4 hj3 FU 0
set_option maxRecDepth 20000 in
set_option maxHeartbeats 4000000 in
theorem pX0_layersFor_3 {Γ : GX} (C : Cx Γ RX0 cX0_layersFor 0) (M : Mx Γ (some .int)) (L : xn Γ = 8) {k0 : Nat} (hk0 : kd k0 = 3) (u : Mm) (v1 : Int32) (v2 : Int32) (v3 : Int32) : ∀ (n : Nat) (v4 : Int32), Gp Γ (QM Γ (cvP u)) 3 [(0, .ref ((xE Γ).1 k0)), (1, .int v1), (2, .int v2), (3, .int v3), (4, .int v4)] [] u (gX0_layersFor_3_L k0 v1 v2 v3 u n v4) := by
  intro n
  induction n with
  | zero => intro _; exact g_none
  | succ n ih => intro v4; exact pX0_layersFor_3s C M L hk0 u v1 v2 v3 ih v4

set_option maxRecDepth 20000 in
set_option maxHeartbeats 4000000 in
theorem pX0_layersFor_0 {Γ : GX} (C : Cx Γ RX0 cX0_layersFor 0) (M : Mx Γ (some .int)) (L : xn Γ = 8) {k0 : Nat} (hk0 : kd k0 = 3) (u : Mm) (v1 : Int32) (v2 : Int32) (v3 : Int32) : Gp Γ (QM Γ (cvP u)) 0 [(0, .ref ((xE Γ).1 k0)), (1, .int v1), (2, .int v2), (3, .int v3)] [] u (gX0_layersFor_b k0 v1 v2 v3 u) := by
  unfold gX0_layersFor_b
  refine g_iconst (v := 0) C dX0_layersFor_0 rfl (by decide) ?_
  refine g_istore (ls' := [(4, .int 0), (0, .ref ((xE Γ).1 k0)), (1, .int v1), (2, .int v2), (3, .int v3)]) C dX0_layersFor_1 rfl L (by decide) rfl ?_
  refine g_sub (ls' := [(0, .ref ((xE Γ).1 k0)), (1, .int v1), (2, .int v2), (3, .int v3), (4, .int 0)]) [1, 2, 3, 4, 0] rfl ?_
  exact pX0_layersFor_3 C M L hk0 u v1 v2 v3 FU 0
set_option maxRecDepth 20000 in
set_option maxHeartbeats 4000000 in
theorem tX0_layersFor (l : Launch) (E : EE) {k0 : Nat} (hk0 : kd k0 = 3) (v1 : Int32) (v2 : Int32) (v3 : Int32) (u : Mm) : Ct l E yX0_layersFor cX0_layersFor 8 (some .int) 0 [.ref (E.1 k0), .int v1, .int v2, .int v3] u (cvP u) (gX0_layersFor k0 v1 v2 v3 u) :=
  Ct_of (own := RX0) (by decide +kernel) rfl (Nat.le_of_ble_eq_true rfl) (fun p e R s m args below meth c C M => g_sub (ls' := [(0, .ref (E.1 k0)), (1, .int v1), (2, .int v2), (3, .int v3)]) [0, 1, 2, 3] rfl (pX0_layersFor_0 C M rfl hk0 u v1 v2 v3))
set_option maxRecDepth 20000 in
set_option maxHeartbeats 4000000 in
theorem pX0_fewestSteps_2s {Γ : GX} (C : Cx Γ RX0 cX0_fewestSteps 1) (M : Mx Γ (some .int)) (L : xn Γ = 4) {k0 : Nat} (hk0 : kd k0 = 3) (u : Mm) (v1 : Int32) (v2 : Int32) {j2 : Int32 → Option Int32} (hj2 : ∀ (v3 : Int32), Gp Γ (QM Γ (cvP u)) 2 [(0, .ref ((xE Γ).1 k0)), (1, .int v1), (2, .int v2), (3, .int v3)] [] u (j2 v3)) (v3 : Int32) : Gp Γ (QM Γ (cvP u)) 2 [(0, .ref ((xE Γ).1 k0)), (1, .int v1), (2, .int v2), (3, .int v3)] [] u (gX0_fewestSteps_2_Ls k0 v1 v2 u j2 v3) := by
  unfold gX0_fewestSteps_2_Ls
  refine g_iload_n C dX0_fewestSteps_2 rfl 3 rfl ?_
  refine g_bipush (v := 40) C dX0_fewestSteps_3 rfl (by decide) ?_
  refine g_icmp_gt 28 C dX0_fewestSteps_5 rfl (by decide) (fun c1 => ?_) (fun c1 => ?_)
  · refine g_bipush (v := (-9)) C dX0_fewestSteps_28 rfl (by decide) ?_
    exact g_iret C M dX0_fewestSteps_30 rfl rfl
  · refine g_aload_n C dX0_fewestSteps_8 rfl 0 rfl ?_
    refine g_iload_n C dX0_fewestSteps_9 rfl 3 rfl ?_
    refine g_iload_n C dX0_fewestSteps_10 rfl 1 rfl ?_
    refine g_iload_n C dX0_fewestSteps_11 rfl 2 rfl ?_
    refine g_callP [.int v3, .int v1, .int v2] C dX0_fewestSteps_12 rfl (tX0_layersFor (xl Γ) (xE Γ) hk0 v3 v1 v2 u) cf_X0_layersFor hk0 rfl ml_X0_41 rfl (by decide) (Nat.le_of_ble_eq_true rfl) rfl (fun r2 => ?_)
    refine g_bipush (v := (-9)) C dX0_fewestSteps_15 rfl (by decide) ?_
    refine g_icmp_eq 22 C dX0_fewestSteps_17 rfl (by decide) (fun c3 => ?_) (fun c3 => ?_)
    · refine g_iincL (fun v3_4 => [(3, .int v3_4), (0, .ref ((xE Γ).1 k0)), (1, .int v1), (2, .int v2)]) C dX0_fewestSteps_22 rfl L (by decide) (k := 3) rfl (iinc_1 _) (fun _ => rfl) (fun v3_4 => ?_)
      refine g_goto 2 C dX0_fewestSteps_25 rfl (by decide) ?_
      refine g_sub (ls' := [(0, .ref ((xE Γ).1 k0)), (1, .int v1), (2, .int v2), (3, .int v3_4)]) [1, 2, 3, 0] rfl ?_
      exact hj2 v3_4
    · refine g_iload_n C dX0_fewestSteps_20 rfl 3 rfl ?_
      exact g_iret C M dX0_fewestSteps_21 rfl rfl
set_option maxRecDepth 20000 in
set_option maxHeartbeats 4000000 in
theorem pX0_fewestSteps_2 {Γ : GX} (C : Cx Γ RX0 cX0_fewestSteps 1) (M : Mx Γ (some .int)) (L : xn Γ = 4) {k0 : Nat} (hk0 : kd k0 = 3) (u : Mm) (v1 : Int32) (v2 : Int32) : ∀ (n : Nat) (v3 : Int32), Gp Γ (QM Γ (cvP u)) 2 [(0, .ref ((xE Γ).1 k0)), (1, .int v1), (2, .int v2), (3, .int v3)] [] u (gX0_fewestSteps_2_L k0 v1 v2 u n v3) := by
  intro n
  induction n with
  | zero => intro _; exact g_none
  | succ n ih => intro v3; exact pX0_fewestSteps_2s C M L hk0 u v1 v2 ih v3

set_option maxRecDepth 20000 in
set_option maxHeartbeats 4000000 in
theorem pX0_fewestSteps_0 {Γ : GX} (C : Cx Γ RX0 cX0_fewestSteps 1) (M : Mx Γ (some .int)) (L : xn Γ = 4) {k0 : Nat} (hk0 : kd k0 = 3) (u : Mm) (v1 : Int32) (v2 : Int32) : Gp Γ (QM Γ (cvP u)) 0 [(0, .ref ((xE Γ).1 k0)), (1, .int v1), (2, .int v2)] [] u (gX0_fewestSteps_b k0 v1 v2 u) := by
  unfold gX0_fewestSteps_b
  refine g_iconst (v := 0) C dX0_fewestSteps_0 rfl (by decide) ?_
  refine g_istore_n (ls' := [(3, .int 0), (0, .ref ((xE Γ).1 k0)), (1, .int v1), (2, .int v2)]) C dX0_fewestSteps_1 rfl L (by decide) rfl ?_
  refine g_sub (ls' := [(0, .ref ((xE Γ).1 k0)), (1, .int v1), (2, .int v2), (3, .int 0)]) [1, 2, 3, 0] rfl ?_
  exact pX0_fewestSteps_2 C M L hk0 u v1 v2 FU 0
set_option maxRecDepth 20000 in
set_option maxHeartbeats 4000000 in
theorem tX0_fewestSteps (l : Launch) (E : EE) {k0 : Nat} (hk0 : kd k0 = 3) (v1 : Int32) (v2 : Int32) (u : Mm) : Ct l E yX0_fewestSteps cX0_fewestSteps 4 (some .int) 1 [.ref (E.1 k0), .int v1, .int v2] u (cvP u) (gX0_fewestSteps k0 v1 v2 u) :=
  Ct_of (own := RX0) (by decide +kernel) rfl (Nat.le_of_ble_eq_true rfl) (fun p e R s m args below meth c C M => g_sub (ls' := [(0, .ref (E.1 k0)), (1, .int v1), (2, .int v2)]) [0, 1, 2] rfl (pX0_fewestSteps_0 C M rfl hk0 u v1 v2))
set_option maxRecDepth 20000 in
set_option maxHeartbeats 4000000 in
theorem pX7_at_0 {Γ : GX} (C : Cx Γ RX7 cX7_at 0) (M : Mx Γ (some .int)) (L : xn Γ = 2) {k0 : Nat} (hk0 : kd k0 = 10) (u : Mm) (v1 : Int32) : Gp Γ (QM Γ (cvP u)) 0 [(0, .ref ((xE Γ).1 k0)), (1, .int v1)] [] u (gX7_at_b k0 v1 u) := by
  unfold gX7_at_b
  refine g_iload_n C dX7_at_0 rfl 1 rfl ?_
  refine g_if_lt 30 C dX7_at_1 rfl (by decide) (fun c1 => ?_) (fun c1 => ?_)
  · refine g_iconst (v := (-1)) C dX7_at_30 rfl (by decide) ?_
    exact g_iret C M dX7_at_31 rfl rfl
  · refine g_iload_n C dX7_at_4 rfl 1 rfl ?_
    refine g_aload_n C dX7_at_5 rfl 0 rfl ?_
    refine g_getI C dX7_at_6 rfl hk0 fi_7_0 rfl fl_X7_13 ?_
    refine g_icmp_ge 30 C dX7_at_9 rfl (by decide) (fun c2 => ?_) (fun c2 => ?_)
    · refine g_iconst (v := (-1)) C dX7_at_30 rfl (by decide) ?_
      exact g_iret C M dX7_at_31 rfl rfl
    · refine g_iload_n C dX7_at_12 rfl 1 rfl ?_
      refine g_aload_n C dX7_at_13 rfl 0 rfl ?_
      refine g_getR (k2 := (k0 + 1)) C dX7_at_14 rfl hk0 fi_7_1 ⟨by decide, by decide, rfl⟩ fl_X7_7 ?_
      refine g_alen C dX7_at_17 rfl (kr_7_1 hk0) rfl rfl ?_
      refine g_icmp_ge 30 C dX7_at_18 rfl (by decide) (fun c3 => ?_) (fun c3 => ?_)
      · refine g_iconst (v := (-1)) C dX7_at_30 rfl (by decide) ?_
        exact g_iret C M dX7_at_31 rfl rfl
      · refine g_aload_n C dX7_at_21 rfl 0 rfl ?_
        refine g_getR (k2 := (k0 + 1)) C dX7_at_22 rfl hk0 fi_7_1 ⟨by decide, by decide, rfl⟩ fl_X7_7 ?_
        refine g_iload_n C dX7_at_25 rfl 1 rfl ?_
        refine g_gd (fun hi4 => ?_)
        refine g_iald C dX7_at_26 rfl (kr_7_1 hk0) rfl hi4 ?_
        refine g_goto 31 C dX7_at_27 rfl (by decide) ?_
        exact g_iret C M dX7_at_31 rfl rfl
set_option maxRecDepth 20000 in
set_option maxHeartbeats 4000000 in
theorem tX7_at (l : Launch) (E : EE) {k0 : Nat} (hk0 : kd k0 = 10) (v1 : Int32) (u : Mm) : Ct l E yX7_at cX7_at 2 (some .int) 0 [.ref (E.1 k0), .int v1] u (cvP u) (gX7_at k0 v1 u) :=
  Ct_of (own := RX7) (by decide +kernel) rfl (Nat.le_of_ble_eq_true rfl) (fun p e R s m args below meth c C M => g_sub (ls' := [(0, .ref (E.1 k0)), (1, .int v1)]) [0, 1] rfl (pX7_at_0 C M rfl hk0 u v1))
set_option maxRecDepth 20000 in
set_option maxHeartbeats 4000000 in
theorem pX0_layersOfPair_5s {Γ : GX} (C : Cx Γ RX0 cX0_layersOfPair 1) (M : Mx Γ (some .int)) (L : xn Γ = 5) {k0 : Nat} (hk0 : kd k0 = 3) {k1 : Nat} (hk1 : kd k1 = 10) (u : Mm) (v2 : Int32) {j5 : Int32 → Int32 → Option Int32} (hj5 : ∀ (v3 : Int32) (v4 : Int32), Gp Γ (QM Γ (cvP u)) 5 [(0, .ref ((xE Γ).1 k0)), (1, .ref ((xE Γ).1 k1)), (2, .int v2), (3, .int v3), (4, .int v4)] [] u (j5 v3 v4)) (v3 : Int32) (v4 : Int32) : Gp Γ (QM Γ (cvP u)) 5 [(0, .ref ((xE Γ).1 k0)), (1, .ref ((xE Γ).1 k1)), (2, .int v2), (3, .int v3), (4, .int v4)] [] u (gX0_layersOfPair_5_Ls k0 k1 v2 u j5 v3 v4) := by
  unfold gX0_layersOfPair_5_Ls
  refine g_iload C dX0_layersOfPair_5 rfl 4 rfl ?_
  refine g_bipush (v := 8) C dX0_layersOfPair_7 rfl (by decide) ?_
  refine g_icmp_ge 60 C dX0_layersOfPair_9 rfl (by decide) (fun c1 => ?_) (fun c1 => ?_)
  · refine g_iload_n C dX0_layersOfPair_60 rfl 3 rfl ?_
    exact g_iret C M dX0_layersOfPair_61 rfl rfl
  · refine g_aload_n C dX0_layersOfPair_12 rfl 0 rfl ?_
    refine g_getR (k2 := (k0 + 1)) C dX0_layersOfPair_13 rfl hk0 fi_0_0 ⟨by decide, by decide, rfl⟩ fl_X0_9 ?_
    refine g_iload C dX0_layersOfPair_16 rfl 4 rfl ?_
    refine g_gd (fun hi2 => ?_)
    refine g_iald C dX0_layersOfPair_18 rfl (kr_0_0 hk0) (sr_0_0 hk0) hi2 ?_
    refine g_aload_n C dX0_layersOfPair_19 rfl 1 rfl ?_
    refine g_iload_n C dX0_layersOfPair_20 rfl 2 rfl ?_
    refine g_callP [.int v2] C dX0_layersOfPair_21 rfl (tX7_at (xl Γ) (xE Γ) hk1 v2 u) cf_X7_at hk1 rfl ml_X0_55 rfl (by decide) (Nat.le_of_ble_eq_true rfl) rfl (fun r3 => ?_)
    refine g_bipush (v := 50) C dX0_layersOfPair_24 rfl (by decide) ?_
    refine g_isub C dX0_layersOfPair_26 rfl ?_
    refine g_icmp_ne 54 C dX0_layersOfPair_27 rfl (by decide) (fun c4 => ?_) (fun c4 => ?_)
    · refine g_iincL (fun v4_5 => [(4, .int v4_5), (0, .ref ((xE Γ).1 k0)), (1, .ref ((xE Γ).1 k1)), (2, .int v2), (3, .int v3)]) C dX0_layersOfPair_54 rfl L (by decide) (k := 4) rfl (iinc_1 _) (fun _ => rfl) (fun v4_5 => ?_)
      refine g_goto 5 C dX0_layersOfPair_57 rfl (by decide) ?_
      refine g_sub (ls' := [(0, .ref ((xE Γ).1 k0)), (1, .ref ((xE Γ).1 k1)), (2, .int v2), (3, .int v3), (4, .int v4_5)]) [1, 2, 3, 4, 0] rfl ?_
      exact hj5 v3 v4_5
    · refine g_aload_n C dX0_layersOfPair_30 rfl 0 rfl ?_
      refine g_getR (k2 := (k0 + 2)) C dX0_layersOfPair_31 rfl hk0 fi_0_1 ⟨by decide, by decide, rfl⟩ fl_X0_15 ?_
      refine g_iload C dX0_layersOfPair_34 rfl 4 rfl ?_
      refine g_gd (fun hi6 => ?_)
      refine g_iald C dX0_layersOfPair_36 rfl (kr_0_1 hk0) (sr_0_1 hk0) hi6 ?_
      refine g_aload_n C dX0_layersOfPair_37 rfl 1 rfl ?_
      refine g_iload_n C dX0_layersOfPair_38 rfl 2 rfl ?_
      refine g_iconst (v := 1) C dX0_layersOfPair_39 rfl (by decide) ?_
      refine g_iadd C dX0_layersOfPair_40 rfl ?_
      refine g_callP [.int (v2 + 1)] C dX0_layersOfPair_41 rfl (tX7_at (xl Γ) (xE Γ) hk1 (v2 + 1) u) cf_X7_at hk1 rfl ml_X0_55 rfl (by decide) (Nat.le_of_ble_eq_true rfl) rfl (fun r7 => ?_)
      refine g_icmp_ne 54 C dX0_layersOfPair_44 rfl (by decide) (fun c8 => ?_) (fun c8 => ?_)
      · refine g_iincL (fun v4_9 => [(4, .int v4_9), (0, .ref ((xE Γ).1 k0)), (1, .ref ((xE Γ).1 k1)), (2, .int v2), (3, .int v3)]) C dX0_layersOfPair_54 rfl L (by decide) (k := 4) rfl (iinc_1 _) (fun _ => rfl) (fun v4_9 => ?_)
        refine g_goto 5 C dX0_layersOfPair_57 rfl (by decide) ?_
        refine g_sub (ls' := [(0, .ref ((xE Γ).1 k0)), (1, .ref ((xE Γ).1 k1)), (2, .int v2), (3, .int v3), (4, .int v4_9)]) [1, 2, 3, 4, 0] rfl ?_
        exact hj5 v3 v4_9
      · refine g_iload_n C dX0_layersOfPair_47 rfl 3 rfl ?_
        refine g_iconst (v := 1) C dX0_layersOfPair_48 rfl (by decide) ?_
        refine g_iload C dX0_layersOfPair_49 rfl 4 rfl ?_
        refine g_ishl C dX0_layersOfPair_51 rfl ?_
        refine g_ior C dX0_layersOfPair_52 rfl ?_
        refine g_lets (fun v3_10 => ?_)
        refine g_istore_n (ls' := [(3, .int v3_10), (0, .ref ((xE Γ).1 k0)), (1, .ref ((xE Γ).1 k1)), (2, .int v2), (4, .int v4)]) C dX0_layersOfPair_53 rfl L (by decide) rfl ?_
        refine g_iincL (fun v4_11 => [(4, .int v4_11), (3, .int v3_10), (0, .ref ((xE Γ).1 k0)), (1, .ref ((xE Γ).1 k1)), (2, .int v2)]) C dX0_layersOfPair_54 rfl L (by decide) (k := 4) rfl (iinc_1 _) (fun _ => rfl) (fun v4_11 => ?_)
        refine g_goto 5 C dX0_layersOfPair_57 rfl (by decide) ?_
        refine g_sub (ls' := [(0, .ref ((xE Γ).1 k0)), (1, .ref ((xE Γ).1 k1)), (2, .int v2), (3, .int v3_10), (4, .int v4_11)]) [2, 3, 4, 1, 0] rfl ?_
        exact hj5 v3_10 v4_11
set_option maxRecDepth 20000 in
set_option maxHeartbeats 4000000 in
theorem pX0_layersOfPair_5 {Γ : GX} (C : Cx Γ RX0 cX0_layersOfPair 1) (M : Mx Γ (some .int)) (L : xn Γ = 5) {k0 : Nat} (hk0 : kd k0 = 3) {k1 : Nat} (hk1 : kd k1 = 10) (u : Mm) (v2 : Int32) : ∀ (n : Nat) (v3 : Int32) (v4 : Int32), Gp Γ (QM Γ (cvP u)) 5 [(0, .ref ((xE Γ).1 k0)), (1, .ref ((xE Γ).1 k1)), (2, .int v2), (3, .int v3), (4, .int v4)] [] u (gX0_layersOfPair_5_L k0 k1 v2 u n v3 v4) := by
  intro n
  induction n with
  | zero => intro _ _; exact g_none
  | succ n ih => intro v3 v4; exact pX0_layersOfPair_5s C M L hk0 hk1 u v2 ih v3 v4

set_option maxRecDepth 20000 in
set_option maxHeartbeats 4000000 in
theorem pX0_layersOfPair_0 {Γ : GX} (C : Cx Γ RX0 cX0_layersOfPair 1) (M : Mx Γ (some .int)) (L : xn Γ = 5) {k0 : Nat} (hk0 : kd k0 = 3) {k1 : Nat} (hk1 : kd k1 = 10) (u : Mm) (v2 : Int32) : Gp Γ (QM Γ (cvP u)) 0 [(0, .ref ((xE Γ).1 k0)), (1, .ref ((xE Γ).1 k1)), (2, .int v2)] [] u (gX0_layersOfPair_b k0 k1 v2 u) := by
  unfold gX0_layersOfPair_b
  refine g_iconst (v := 0) C dX0_layersOfPair_0 rfl (by decide) ?_
  refine g_istore_n (ls' := [(3, .int 0), (0, .ref ((xE Γ).1 k0)), (1, .ref ((xE Γ).1 k1)), (2, .int v2)]) C dX0_layersOfPair_1 rfl L (by decide) rfl ?_
  refine g_iconst (v := 0) C dX0_layersOfPair_2 rfl (by decide) ?_
  refine g_istore (ls' := [(4, .int 0), (3, .int 0), (0, .ref ((xE Γ).1 k0)), (1, .ref ((xE Γ).1 k1)), (2, .int v2)]) C dX0_layersOfPair_3 rfl L (by decide) rfl ?_
  refine g_sub (ls' := [(0, .ref ((xE Γ).1 k0)), (1, .ref ((xE Γ).1 k1)), (2, .int v2), (3, .int 0), (4, .int 0)]) [2, 3, 4, 1, 0] rfl ?_
  exact pX0_layersOfPair_5 C M L hk0 hk1 u v2 FU 0 0
set_option maxRecDepth 20000 in
set_option maxHeartbeats 4000000 in
theorem tX0_layersOfPair (l : Launch) (E : EE) {k0 : Nat} (hk0 : kd k0 = 3) {k1 : Nat} (hk1 : kd k1 = 10) (v2 : Int32) (u : Mm) : Ct l E yX0_layersOfPair cX0_layersOfPair 5 (some .int) 1 [.ref (E.1 k0), .ref (E.1 k1), .int v2] u (cvP u) (gX0_layersOfPair k0 k1 v2 u) :=
  Ct_of (own := RX0) (by decide +kernel) rfl (Nat.le_of_ble_eq_true rfl) (fun p e R s m args below meth c C M => g_sub (ls' := [(0, .ref (E.1 k0)), (1, .ref (E.1 k1)), (2, .int v2)]) [0, 1, 2] rfl (pX0_layersOfPair_0 C M rfl hk0 hk1 u v2))
set_option maxRecDepth 20000 in
set_option maxHeartbeats 4000000 in
theorem pX0_layersThatFit_4s {Γ : GX} (C : Cx Γ RX0 cX0_layersThatFit 2) (M : Mx Γ (some .int)) (L : xn Γ = 4) {k0 : Nat} (hk0 : kd k0 = 3) {k1 : Nat} (hk1 : kd k1 = 10) (u : Mm) {j4 : Int32 → Int32 → Option Int32} (hj4 : ∀ (v2 : Int32) (v3 : Int32), Gp Γ (QM Γ (cvP u)) 4 [(0, .ref ((xE Γ).1 k0)), (1, .ref ((xE Γ).1 k1)), (2, .int v2), (3, .int v3)] [] u (j4 v2 v3)) (v2 : Int32) (v3 : Int32) : Gp Γ (QM Γ (cvP u)) 4 [(0, .ref ((xE Γ).1 k0)), (1, .ref ((xE Γ).1 k1)), (2, .int v2), (3, .int v3)] [] u (gX0_layersThatFit_4_Ls k0 k1 u j4 v2 v3) := by
  unfold gX0_layersThatFit_4_Ls
  refine g_iload_n C dX0_layersThatFit_4 rfl 3 rfl ?_
  refine g_iconst (v := 1) C dX0_layersThatFit_5 rfl (by decide) ?_
  refine g_iadd C dX0_layersThatFit_6 rfl ?_
  refine g_aload_n C dX0_layersThatFit_7 rfl 1 rfl ?_
  refine g_getI C dX0_layersThatFit_8 rfl hk1 fi_7_0 rfl fl_X0_45 ?_
  refine g_icmp_ge 29 C dX0_layersThatFit_11 rfl (by decide) (fun c1 => ?_) (fun c1 => ?_)
  · refine g_iload_n C dX0_layersThatFit_29 rfl 2 rfl ?_
    exact g_iret C M dX0_layersThatFit_30 rfl rfl
  · refine g_iload_n C dX0_layersThatFit_14 rfl 2 rfl ?_
    refine g_aload_n C dX0_layersThatFit_15 rfl 0 rfl ?_
    refine g_aload_n C dX0_layersThatFit_16 rfl 1 rfl ?_
    refine g_iload_n C dX0_layersThatFit_17 rfl 3 rfl ?_
    refine g_callP [.ref ((xE Γ).1 k1), .int v3] C dX0_layersThatFit_18 rfl (tX0_layersOfPair (xl Γ) (xE Γ) hk0 hk1 v3 u) cf_X0_layersOfPair hk0 rfl ml_X0_51 rfl (by decide) (Nat.le_of_ble_eq_true rfl) rfl (fun r2 => ?_)
    refine g_ior C dX0_layersThatFit_21 rfl ?_
    refine g_lets (fun v2_3 => ?_)
    refine g_istore_n (ls' := [(2, .int v2_3), (0, .ref ((xE Γ).1 k0)), (1, .ref ((xE Γ).1 k1)), (3, .int v3)]) C dX0_layersThatFit_22 rfl L (by decide) rfl ?_
    refine g_iincL (fun v3_4 => [(3, .int v3_4), (2, .int v2_3), (0, .ref ((xE Γ).1 k0)), (1, .ref ((xE Γ).1 k1))]) C dX0_layersThatFit_23 rfl L (by decide) (k := 3) rfl (iinc_2 _) (fun _ => rfl) (fun v3_4 => ?_)
    refine g_goto 4 C dX0_layersThatFit_26 rfl (by decide) ?_
    refine g_sub (ls' := [(0, .ref ((xE Γ).1 k0)), (1, .ref ((xE Γ).1 k1)), (2, .int v2_3), (3, .int v3_4)]) [2, 3, 1, 0] rfl ?_
    exact hj4 v2_3 v3_4
set_option maxRecDepth 20000 in
set_option maxHeartbeats 4000000 in
theorem pX0_layersThatFit_4 {Γ : GX} (C : Cx Γ RX0 cX0_layersThatFit 2) (M : Mx Γ (some .int)) (L : xn Γ = 4) {k0 : Nat} (hk0 : kd k0 = 3) {k1 : Nat} (hk1 : kd k1 = 10) (u : Mm) : ∀ (n : Nat) (v2 : Int32) (v3 : Int32), Gp Γ (QM Γ (cvP u)) 4 [(0, .ref ((xE Γ).1 k0)), (1, .ref ((xE Γ).1 k1)), (2, .int v2), (3, .int v3)] [] u (gX0_layersThatFit_4_L k0 k1 u n v2 v3) := by
  intro n
  induction n with
  | zero => intro _ _; exact g_none
  | succ n ih => intro v2 v3; exact pX0_layersThatFit_4s C M L hk0 hk1 u ih v2 v3

set_option maxRecDepth 20000 in
set_option maxHeartbeats 4000000 in
theorem pX0_layersThatFit_0 {Γ : GX} (C : Cx Γ RX0 cX0_layersThatFit 2) (M : Mx Γ (some .int)) (L : xn Γ = 4) {k0 : Nat} (hk0 : kd k0 = 3) {k1 : Nat} (hk1 : kd k1 = 10) (u : Mm) : Gp Γ (QM Γ (cvP u)) 0 [(0, .ref ((xE Γ).1 k0)), (1, .ref ((xE Γ).1 k1))] [] u (gX0_layersThatFit_b k0 k1 u) := by
  unfold gX0_layersThatFit_b
  refine g_iconst (v := 0) C dX0_layersThatFit_0 rfl (by decide) ?_
  refine g_istore_n (ls' := [(2, .int 0), (0, .ref ((xE Γ).1 k0)), (1, .ref ((xE Γ).1 k1))]) C dX0_layersThatFit_1 rfl L (by decide) rfl ?_
  refine g_iconst (v := 0) C dX0_layersThatFit_2 rfl (by decide) ?_
  refine g_istore_n (ls' := [(3, .int 0), (2, .int 0), (0, .ref ((xE Γ).1 k0)), (1, .ref ((xE Γ).1 k1))]) C dX0_layersThatFit_3 rfl L (by decide) rfl ?_
  refine g_sub (ls' := [(0, .ref ((xE Γ).1 k0)), (1, .ref ((xE Γ).1 k1)), (2, .int 0), (3, .int 0)]) [2, 3, 1, 0] rfl ?_
  exact pX0_layersThatFit_4 C M L hk0 hk1 u FU 0 0
set_option maxRecDepth 20000 in
set_option maxHeartbeats 4000000 in
theorem tX0_layersThatFit (l : Launch) (E : EE) {k0 : Nat} (hk0 : kd k0 = 3) {k1 : Nat} (hk1 : kd k1 = 10) (u : Mm) : Ct l E yX0_layersThatFit cX0_layersThatFit 4 (some .int) 2 [.ref (E.1 k0), .ref (E.1 k1)] u (cvP u) (gX0_layersThatFit k0 k1 u) :=
  Ct_of (own := RX0) (by decide +kernel) rfl (Nat.le_of_ble_eq_true rfl) (fun p e R s m args below meth c C M => g_sub (ls' := [(0, .ref (E.1 k0)), (1, .ref (E.1 k1))]) [0, 1] rfl (pX0_layersThatFit_0 C M rfl hk0 hk1 u))
set_option maxRecDepth 20000 in
set_option maxHeartbeats 4000000 in
theorem pX0_firstPairWithoutLayer_2s {Γ : GX} (C : Cx Γ RX0 cX0_firstPairWithoutLayer 2) (M : Mx Γ (some .int)) (L : xn Γ = 3) {k0 : Nat} (hk0 : kd k0 = 3) {k1 : Nat} (hk1 : kd k1 = 10) (u : Mm) {j2 : Int32 → Option Int32} (hj2 : ∀ (v2 : Int32), Gp Γ (QM Γ (cvP u)) 2 [(0, .ref ((xE Γ).1 k0)), (1, .ref ((xE Γ).1 k1)), (2, .int v2)] [] u (j2 v2)) (v2 : Int32) : Gp Γ (QM Γ (cvP u)) 2 [(0, .ref ((xE Γ).1 k0)), (1, .ref ((xE Γ).1 k1)), (2, .int v2)] [] u (gX0_firstPairWithoutLayer_2_Ls k0 k1 u j2 v2) := by
  unfold gX0_firstPairWithoutLayer_2_Ls
  refine g_iload_n C dX0_firstPairWithoutLayer_2 rfl 2 rfl ?_
  refine g_iconst (v := 1) C dX0_firstPairWithoutLayer_3 rfl (by decide) ?_
  refine g_iadd C dX0_firstPairWithoutLayer_4 rfl ?_
  refine g_aload_n C dX0_firstPairWithoutLayer_5 rfl 1 rfl ?_
  refine g_getI C dX0_firstPairWithoutLayer_6 rfl hk1 fi_7_0 rfl fl_X0_45 ?_
  refine g_icmp_ge 31 C dX0_firstPairWithoutLayer_9 rfl (by decide) (fun c1 => ?_) (fun c1 => ?_)
  · refine g_bipush (v := (-9)) C dX0_firstPairWithoutLayer_31 rfl (by decide) ?_
    exact g_iret C M dX0_firstPairWithoutLayer_33 rfl rfl
  · refine g_aload_n C dX0_firstPairWithoutLayer_12 rfl 0 rfl ?_
    refine g_aload_n C dX0_firstPairWithoutLayer_13 rfl 1 rfl ?_
    refine g_iload_n C dX0_firstPairWithoutLayer_14 rfl 2 rfl ?_
    refine g_callP [.ref ((xE Γ).1 k1), .int v2] C dX0_firstPairWithoutLayer_15 rfl (tX0_layersOfPair (xl Γ) (xE Γ) hk0 hk1 v2 u) cf_X0_layersOfPair hk0 rfl ml_X0_51 rfl (by decide) (Nat.le_of_ble_eq_true rfl) rfl (fun r2 => ?_)
    refine g_if_ne 25 C dX0_firstPairWithoutLayer_18 rfl (by decide) (fun c3 => ?_) (fun c3 => ?_)
    · refine g_iincL (fun v2_4 => [(2, .int v2_4), (0, .ref ((xE Γ).1 k0)), (1, .ref ((xE Γ).1 k1))]) C dX0_firstPairWithoutLayer_25 rfl L (by decide) (k := 2) rfl (iinc_2 _) (fun _ => rfl) (fun v2_4 => ?_)
      refine g_goto 2 C dX0_firstPairWithoutLayer_28 rfl (by decide) ?_
      refine g_sub (ls' := [(0, .ref ((xE Γ).1 k0)), (1, .ref ((xE Γ).1 k1)), (2, .int v2_4)]) [1, 2, 0] rfl ?_
      exact hj2 v2_4
    · refine g_iload_n C dX0_firstPairWithoutLayer_21 rfl 2 rfl ?_
      refine g_iconst (v := 2) C dX0_firstPairWithoutLayer_22 rfl (by decide) ?_
      refine g_idiv C dX0_firstPairWithoutLayer_23 rfl (by decide) ?_
      exact g_iret C M dX0_firstPairWithoutLayer_24 rfl rfl
set_option maxRecDepth 20000 in
set_option maxHeartbeats 4000000 in
theorem pX0_firstPairWithoutLayer_2 {Γ : GX} (C : Cx Γ RX0 cX0_firstPairWithoutLayer 2) (M : Mx Γ (some .int)) (L : xn Γ = 3) {k0 : Nat} (hk0 : kd k0 = 3) {k1 : Nat} (hk1 : kd k1 = 10) (u : Mm) : ∀ (n : Nat) (v2 : Int32), Gp Γ (QM Γ (cvP u)) 2 [(0, .ref ((xE Γ).1 k0)), (1, .ref ((xE Γ).1 k1)), (2, .int v2)] [] u (gX0_firstPairWithoutLayer_2_L k0 k1 u n v2) := by
  intro n
  induction n with
  | zero => intro _; exact g_none
  | succ n ih => intro v2; exact pX0_firstPairWithoutLayer_2s C M L hk0 hk1 u ih v2

set_option maxRecDepth 20000 in
set_option maxHeartbeats 4000000 in
theorem pX0_firstPairWithoutLayer_0 {Γ : GX} (C : Cx Γ RX0 cX0_firstPairWithoutLayer 2) (M : Mx Γ (some .int)) (L : xn Γ = 3) {k0 : Nat} (hk0 : kd k0 = 3) {k1 : Nat} (hk1 : kd k1 = 10) (u : Mm) : Gp Γ (QM Γ (cvP u)) 0 [(0, .ref ((xE Γ).1 k0)), (1, .ref ((xE Γ).1 k1))] [] u (gX0_firstPairWithoutLayer_b k0 k1 u) := by
  unfold gX0_firstPairWithoutLayer_b
  refine g_iconst (v := 0) C dX0_firstPairWithoutLayer_0 rfl (by decide) ?_
  refine g_istore_n (ls' := [(2, .int 0), (0, .ref ((xE Γ).1 k0)), (1, .ref ((xE Γ).1 k1))]) C dX0_firstPairWithoutLayer_1 rfl L (by decide) rfl ?_
  refine g_sub (ls' := [(0, .ref ((xE Γ).1 k0)), (1, .ref ((xE Γ).1 k1)), (2, .int 0)]) [1, 2, 0] rfl ?_
  exact pX0_firstPairWithoutLayer_2 C M L hk0 hk1 u FU 0
set_option maxRecDepth 20000 in
set_option maxHeartbeats 4000000 in
theorem tX0_firstPairWithoutLayer (l : Launch) (E : EE) {k0 : Nat} (hk0 : kd k0 = 3) {k1 : Nat} (hk1 : kd k1 = 10) (u : Mm) : Ct l E yX0_firstPairWithoutLayer cX0_firstPairWithoutLayer 3 (some .int) 2 [.ref (E.1 k0), .ref (E.1 k1)] u (cvP u) (gX0_firstPairWithoutLayer k0 k1 u) :=
  Ct_of (own := RX0) (by decide +kernel) rfl (Nat.le_of_ble_eq_true rfl) (fun p e R s m args below meth c C M => g_sub (ls' := [(0, .ref (E.1 k0)), (1, .ref (E.1 k1))]) [0, 1] rfl (pX0_firstPairWithoutLayer_0 C M rfl hk0 hk1 u))
set_option maxRecDepth 20000 in
set_option maxHeartbeats 4000000 in
theorem pX1_copyFrom_10s {Γ : GX} (C : Cx Γ RX1 cX1_copyFrom 0) (M : Mx Γ none) (L : xn Γ = 3) {k0 : Nat} (hk0 : kd k0 = 4) {k1 : Nat} (hk1 : kd k1 = 4) {j10 : Int32 → Mm → Option Mm} (hj10 : ∀ (v2 : Int32) (u : Mm), Gp Γ (QM Γ cvV) 10 [(0, .ref ((xE Γ).1 k0)), (1, .ref ((xE Γ).1 k1)), (2, .int v2)] [] u (j10 v2 u)) (v2 : Int32) (u : Mm) : Gp Γ (QM Γ cvV) 10 [(0, .ref ((xE Γ).1 k0)), (1, .ref ((xE Γ).1 k1)), (2, .int v2)] [] u (gX1_copyFrom_10_Ls k0 k1 j10 v2 u) := by
  unfold gX1_copyFrom_10_Ls
  refine g_iload_n C dX1_copyFrom_10 rfl 2 rfl ?_
  refine g_bipush (v := 8) C dX1_copyFrom_11 rfl (by decide) ?_
  refine g_icmp_ge 82 C dX1_copyFrom_13 rfl (by decide) (fun c1 => ?_) (fun c1 => ?_)
  · exact g_vret C M dX1_copyFrom_82 rfl rfl
  · refine g_aload_n C dX1_copyFrom_16 rfl 0 rfl ?_
    refine g_getR (k2 := (k0 + 1)) C dX1_copyFrom_17 rfl hk0 fi_1_1 ⟨by decide, by decide, rfl⟩ fl_X1_9 ?_
    refine g_iload_n C dX1_copyFrom_20 rfl 2 rfl ?_
    refine g_aload_n C dX1_copyFrom_21 rfl 1 rfl ?_
    refine g_getR (k2 := (k1 + 1)) C dX1_copyFrom_22 rfl hk1 fi_1_1 ⟨by decide, by decide, rfl⟩ fl_X1_9 ?_
    refine g_iload_n C dX1_copyFrom_25 rfl 2 rfl ?_
    refine g_gd (fun hi2 => ?_)
    refine g_iald C dX1_copyFrom_26 rfl (kr_1_1 hk1) (sr_1_1 hk1) hi2 ?_
    refine g_gd (fun hi4 => ?_)
    refine g_iast C dX1_copyFrom_27 rfl (kr_1_1 hk0) (sr_1_1 hk0) hi4 ?_
    refine g_letm (fun u3 => ?_)
    refine g_aload_n C dX1_copyFrom_28 rfl 0 rfl ?_
    refine g_getR (k2 := (k0 + 2)) C dX1_copyFrom_29 rfl hk0 fi_1_2 ⟨by decide, by decide, rfl⟩ fl_X1_15 ?_
    refine g_iload_n C dX1_copyFrom_32 rfl 2 rfl ?_
    refine g_aload_n C dX1_copyFrom_33 rfl 1 rfl ?_
    refine g_getR (k2 := (k1 + 2)) C dX1_copyFrom_34 rfl hk1 fi_1_2 ⟨by decide, by decide, rfl⟩ fl_X1_15 ?_
    refine g_iload_n C dX1_copyFrom_37 rfl 2 rfl ?_
    refine g_gd (fun hi5 => ?_)
    refine g_iald C dX1_copyFrom_38 rfl (kr_1_2 hk1) (sr_1_2 hk1) hi5 ?_
    refine g_gd (fun hi7 => ?_)
    refine g_iast C dX1_copyFrom_39 rfl (kr_1_2 hk0) (sr_1_2 hk0) hi7 ?_
    refine g_letm (fun u6 => ?_)
    refine g_aload_n C dX1_copyFrom_40 rfl 0 rfl ?_
    refine g_getR (k2 := (k0 + 3)) C dX1_copyFrom_41 rfl hk0 fi_1_3 ⟨by decide, by decide, rfl⟩ fl_X1_18 ?_
    refine g_iload_n C dX1_copyFrom_44 rfl 2 rfl ?_
    refine g_aload_n C dX1_copyFrom_45 rfl 1 rfl ?_
    refine g_getR (k2 := (k1 + 3)) C dX1_copyFrom_46 rfl hk1 fi_1_3 ⟨by decide, by decide, rfl⟩ fl_X1_18 ?_
    refine g_iload_n C dX1_copyFrom_49 rfl 2 rfl ?_
    refine g_gd (fun hi8 => ?_)
    refine g_iald C dX1_copyFrom_50 rfl (kr_1_3 hk1) (sr_1_3 hk1) hi8 ?_
    refine g_gd (fun hi10 => ?_)
    refine g_iast C dX1_copyFrom_51 rfl (kr_1_3 hk0) (sr_1_3 hk0) hi10 ?_
    refine g_letm (fun u9 => ?_)
    refine g_aload_n C dX1_copyFrom_52 rfl 0 rfl ?_
    refine g_getR (k2 := (k0 + 4)) C dX1_copyFrom_53 rfl hk0 fi_1_4 ⟨by decide, by decide, rfl⟩ fl_X1_21 ?_
    refine g_iload_n C dX1_copyFrom_56 rfl 2 rfl ?_
    refine g_aload_n C dX1_copyFrom_57 rfl 1 rfl ?_
    refine g_getR (k2 := (k1 + 4)) C dX1_copyFrom_58 rfl hk1 fi_1_4 ⟨by decide, by decide, rfl⟩ fl_X1_21 ?_
    refine g_iload_n C dX1_copyFrom_61 rfl 2 rfl ?_
    refine g_gd (fun hi11 => ?_)
    refine g_iald C dX1_copyFrom_62 rfl (kr_1_4 hk1) (sr_1_4 hk1) hi11 ?_
    refine g_gd (fun hi13 => ?_)
    refine g_iast C dX1_copyFrom_63 rfl (kr_1_4 hk0) (sr_1_4 hk0) hi13 ?_
    refine g_letm (fun u12 => ?_)
    refine g_aload_n C dX1_copyFrom_64 rfl 0 rfl ?_
    refine g_getR (k2 := (k0 + 5)) C dX1_copyFrom_65 rfl hk0 fi_1_5 ⟨by decide, by decide, rfl⟩ fl_X1_24 ?_
    refine g_iload_n C dX1_copyFrom_68 rfl 2 rfl ?_
    refine g_aload_n C dX1_copyFrom_69 rfl 1 rfl ?_
    refine g_getR (k2 := (k1 + 5)) C dX1_copyFrom_70 rfl hk1 fi_1_5 ⟨by decide, by decide, rfl⟩ fl_X1_24 ?_
    refine g_iload_n C dX1_copyFrom_73 rfl 2 rfl ?_
    refine g_gd (fun hi14 => ?_)
    refine g_iald C dX1_copyFrom_74 rfl (kr_1_5 hk1) (sr_1_5 hk1) hi14 ?_
    refine g_gd (fun hi16 => ?_)
    refine g_iast C dX1_copyFrom_75 rfl (kr_1_5 hk0) (sr_1_5 hk0) hi16 ?_
    refine g_letm (fun u15 => ?_)
    refine g_iincL (fun v2_17 => [(2, .int v2_17), (0, .ref ((xE Γ).1 k0)), (1, .ref ((xE Γ).1 k1))]) C dX1_copyFrom_76 rfl L (by decide) (k := 2) rfl (iinc_1 _) (fun _ => rfl) (fun v2_17 => ?_)
    refine g_goto 10 C dX1_copyFrom_79 rfl (by decide) ?_
    refine g_sub (ls' := [(0, .ref ((xE Γ).1 k0)), (1, .ref ((xE Γ).1 k1)), (2, .int v2_17)]) [1, 2, 0] rfl ?_
    exact hj10 v2_17 u15
set_option maxRecDepth 20000 in
set_option maxHeartbeats 4000000 in
theorem pX1_copyFrom_10 {Γ : GX} (C : Cx Γ RX1 cX1_copyFrom 0) (M : Mx Γ none) (L : xn Γ = 3) {k0 : Nat} (hk0 : kd k0 = 4) {k1 : Nat} (hk1 : kd k1 = 4) : ∀ (n : Nat) (v2 : Int32) (u : Mm), Gp Γ (QM Γ cvV) 10 [(0, .ref ((xE Γ).1 k0)), (1, .ref ((xE Γ).1 k1)), (2, .int v2)] [] u (gX1_copyFrom_10_L k0 k1 n v2 u) := by
  intro n
  induction n with
  | zero => intro _ _; exact g_none
  | succ n ih => intro v2 u; exact pX1_copyFrom_10s C M L hk0 hk1 ih v2 u

set_option maxRecDepth 20000 in
set_option maxHeartbeats 4000000 in
theorem pX1_copyFrom_0 {Γ : GX} (C : Cx Γ RX1 cX1_copyFrom 0) (M : Mx Γ none) (L : xn Γ = 3) {k0 : Nat} (hk0 : kd k0 = 4) {k1 : Nat} (hk1 : kd k1 = 4) (u : Mm) : Gp Γ (QM Γ cvV) 0 [(0, .ref ((xE Γ).1 k0)), (1, .ref ((xE Γ).1 k1))] [] u (gX1_copyFrom_b k0 k1 u) := by
  unfold gX1_copyFrom_b
  refine g_aload_n C dX1_copyFrom_0 rfl 0 rfl ?_
  refine g_aload_n C dX1_copyFrom_1 rfl 1 rfl ?_
  refine g_getI C dX1_copyFrom_2 rfl hk1 fi_1_0 rfl fl_X1_27 ?_
  refine g_putI C dX1_copyFrom_5 rfl hk0 fp_1_0 rfl fl_X1_27 ?_
  refine g_letm (fun u1 => ?_)
  refine g_iconst (v := 0) C dX1_copyFrom_8 rfl (by decide) ?_
  refine g_istore_n (ls' := [(2, .int 0), (0, .ref ((xE Γ).1 k0)), (1, .ref ((xE Γ).1 k1))]) C dX1_copyFrom_9 rfl L (by decide) rfl ?_
  refine g_sub (ls' := [(0, .ref ((xE Γ).1 k0)), (1, .ref ((xE Γ).1 k1)), (2, .int 0)]) [1, 2, 0] rfl ?_
  exact pX1_copyFrom_10 C M L hk0 hk1 FU 0 u1
set_option maxRecDepth 20000 in
set_option maxHeartbeats 4000000 in
theorem tX1_copyFrom (l : Launch) (E : EE) {k0 : Nat} (hk0 : kd k0 = 4) {k1 : Nat} (hk1 : kd k1 = 4) (u : Mm) : Ct l E yX1_copyFrom cX1_copyFrom 3 none 0 [.ref (E.1 k0), .ref (E.1 k1)] u cvV (gX1_copyFrom k0 k1 u) :=
  Ct_of (own := RX1) (by decide +kernel) rfl (Nat.le_of_ble_eq_true rfl) (fun p e R s m args below meth c C M => g_sub (ls' := [(0, .ref (E.1 k0)), (1, .ref (E.1 k1))]) [0, 1] rfl (pX1_copyFrom_0 C M rfl hk0 hk1 u))
set_option maxRecDepth 20000 in
set_option maxHeartbeats 4000000 in
theorem pX1_isFull_0 {Γ : GX} (C : Cx Γ RX1 cX1_isFull 0) (M : Mx Γ (some .boolean)) (L : xn Γ = 1) {k0 : Nat} (hk0 : kd k0 = 4) (u : Mm) : Gp Γ (QM Γ (cvP u)) 0 [(0, .ref ((xE Γ).1 k0))] [] u (gX1_isFull_b k0 u) := by
  unfold gX1_isFull_b
  refine g_aload_n C dX1_isFull_0 rfl 0 rfl ?_
  refine g_getI C dX1_isFull_1 rfl hk0 fi_1_0 rfl fl_X1_27 ?_
  refine g_bipush (v := 8) C dX1_isFull_4 rfl (by decide) ?_
  refine g_icmp_lt 13 C dX1_isFull_6 rfl (by decide) (fun c1 => ?_) (fun c1 => ?_)
  · refine g_iconst (v := 0) C dX1_isFull_13 rfl (by decide) ?_
    exact g_zret C M dX1_isFull_14 rfl (by decide) rfl
  · refine g_iconst (v := 1) C dX1_isFull_9 rfl (by decide) ?_
    refine g_goto 14 C dX1_isFull_10 rfl (by decide) ?_
    exact g_zret C M dX1_isFull_14 rfl (by decide) rfl
set_option maxRecDepth 20000 in
set_option maxHeartbeats 4000000 in
theorem tX1_isFull (l : Launch) (E : EE) {k0 : Nat} (hk0 : kd k0 = 4) (u : Mm) : Ct l E yX1_isFull cX1_isFull 1 (some .boolean) 0 [.ref (E.1 k0)] u (cvP u) (gX1_isFull k0 u) :=
  Ct_of (own := RX1) (by decide +kernel) rfl (Nat.le_of_ble_eq_true rfl) (fun p e R s m args below meth c C M => g_sub (ls' := [(0, .ref (E.1 k0))]) [0] rfl (pX1_isFull_0 C M rfl hk0 u))
set_option maxRecDepth 20000 in
set_option maxHeartbeats 4000000 in
theorem pX1_add_0 {Γ : GX} (C : Cx Γ RX1 cX1_add 0) (M : Mx Γ none) (L : xn Γ = 6) {k0 : Nat} (hk0 : kd k0 = 4) (v1 : Int32) (v2 : Int32) (v3 : Int32) (v4 : Int32) (v5 : Int32) (u : Mm) : Gp Γ (QM Γ cvV) 0 [(0, .ref ((xE Γ).1 k0)), (1, .int v1), (2, .int v2), (3, .int v3), (4, .int v4), (5, .int v5)] [] u (gX1_add_b k0 v1 v2 v3 v4 v5 u) := by
  unfold gX1_add_b
  refine g_aload_n C dX1_add_0 rfl 0 rfl ?_
  refine g_getI C dX1_add_1 rfl hk0 fi_1_0 rfl fl_X1_27 ?_
  refine g_if_lt 78 C dX1_add_4 rfl (by decide) (fun c1 => ?_) (fun c1 => ?_)
  · exact g_vret C M dX1_add_78 rfl rfl
  · refine g_aload_n C dX1_add_7 rfl 0 rfl ?_
    refine g_getI C dX1_add_8 rfl hk0 fi_1_0 rfl fl_X1_27 ?_
    refine g_bipush (v := 8) C dX1_add_11 rfl (by decide) ?_
    refine g_icmp_ge 78 C dX1_add_13 rfl (by decide) (fun c2 => ?_) (fun c2 => ?_)
    · exact g_vret C M dX1_add_78 rfl rfl
    · refine g_aload_n C dX1_add_16 rfl 0 rfl ?_
      refine g_getR (k2 := (k0 + 1)) C dX1_add_17 rfl hk0 fi_1_1 ⟨by decide, by decide, rfl⟩ fl_X1_9 ?_
      refine g_aload_n C dX1_add_20 rfl 0 rfl ?_
      refine g_getI C dX1_add_21 rfl hk0 fi_1_0 rfl fl_X1_27 ?_
      refine g_iload_n C dX1_add_24 rfl 1 rfl ?_
      refine g_gd (fun hi4 => ?_)
      refine g_iast C dX1_add_25 rfl (kr_1_1 hk0) (sr_1_1 hk0) hi4 ?_
      refine g_letm (fun u3 => ?_)
      refine g_aload_n C dX1_add_26 rfl 0 rfl ?_
      refine g_getR (k2 := (k0 + 2)) C dX1_add_27 rfl hk0 fi_1_2 ⟨by decide, by decide, rfl⟩ fl_X1_15 ?_
      refine g_aload_n C dX1_add_30 rfl 0 rfl ?_
      refine g_getI C dX1_add_31 rfl hk0 fi_1_0 rfl fl_X1_27 ?_
      refine g_iload_n C dX1_add_34 rfl 2 rfl ?_
      refine g_gd (fun hi6 => ?_)
      refine g_iast C dX1_add_35 rfl (kr_1_2 hk0) (sr_1_2 hk0) hi6 ?_
      refine g_letm (fun u5 => ?_)
      refine g_aload_n C dX1_add_36 rfl 0 rfl ?_
      refine g_getR (k2 := (k0 + 3)) C dX1_add_37 rfl hk0 fi_1_3 ⟨by decide, by decide, rfl⟩ fl_X1_18 ?_
      refine g_aload_n C dX1_add_40 rfl 0 rfl ?_
      refine g_getI C dX1_add_41 rfl hk0 fi_1_0 rfl fl_X1_27 ?_
      refine g_iload_n C dX1_add_44 rfl 3 rfl ?_
      refine g_gd (fun hi8 => ?_)
      refine g_iast C dX1_add_45 rfl (kr_1_3 hk0) (sr_1_3 hk0) hi8 ?_
      refine g_letm (fun u7 => ?_)
      refine g_aload_n C dX1_add_46 rfl 0 rfl ?_
      refine g_getR (k2 := (k0 + 4)) C dX1_add_47 rfl hk0 fi_1_4 ⟨by decide, by decide, rfl⟩ fl_X1_21 ?_
      refine g_aload_n C dX1_add_50 rfl 0 rfl ?_
      refine g_getI C dX1_add_51 rfl hk0 fi_1_0 rfl fl_X1_27 ?_
      refine g_iload C dX1_add_54 rfl 4 rfl ?_
      refine g_gd (fun hi10 => ?_)
      refine g_iast C dX1_add_56 rfl (kr_1_4 hk0) (sr_1_4 hk0) hi10 ?_
      refine g_letm (fun u9 => ?_)
      refine g_aload_n C dX1_add_57 rfl 0 rfl ?_
      refine g_getR (k2 := (k0 + 5)) C dX1_add_58 rfl hk0 fi_1_5 ⟨by decide, by decide, rfl⟩ fl_X1_24 ?_
      refine g_aload_n C dX1_add_61 rfl 0 rfl ?_
      refine g_getI C dX1_add_62 rfl hk0 fi_1_0 rfl fl_X1_27 ?_
      refine g_iload C dX1_add_65 rfl 5 rfl ?_
      refine g_gd (fun hi12 => ?_)
      refine g_iast C dX1_add_67 rfl (kr_1_5 hk0) (sr_1_5 hk0) hi12 ?_
      refine g_letm (fun u11 => ?_)
      refine g_aload_n C dX1_add_68 rfl 0 rfl ?_
      refine g_dup C dX1_add_69 rfl rfl ?_
      refine g_getI C dX1_add_70 rfl hk0 fi_1_0 rfl fl_X1_27 ?_
      refine g_iconst (v := 1) C dX1_add_73 rfl (by decide) ?_
      refine g_iadd C dX1_add_74 rfl ?_
      refine g_putI C dX1_add_75 rfl hk0 fp_1_0 rfl fl_X1_27 ?_
      refine g_letm (fun u13 => ?_)
      exact g_vret C M dX1_add_78 rfl rfl
set_option maxRecDepth 20000 in
set_option maxHeartbeats 4000000 in
theorem tX1_add (l : Launch) (E : EE) {k0 : Nat} (hk0 : kd k0 = 4) (v1 : Int32) (v2 : Int32) (v3 : Int32) (v4 : Int32) (v5 : Int32) (u : Mm) : Ct l E yX1_add cX1_add 6 none 0 [.ref (E.1 k0), .int v1, .int v2, .int v3, .int v4, .int v5] u cvV (gX1_add k0 v1 v2 v3 v4 v5 u) :=
  Ct_of (own := RX1) (by decide +kernel) rfl (Nat.le_of_ble_eq_true rfl) (fun p e R s m args below meth c C M => g_sub (ls' := [(0, .ref (E.1 k0)), (1, .int v1), (2, .int v2), (3, .int v3), (4, .int v4), (5, .int v5)]) [0, 1, 2, 3, 4, 5] rfl (pX1_add_0 C M rfl hk0 v1 v2 v3 v4 v5 u))
set_option maxRecDepth 20000 in
set_option maxHeartbeats 4000000 in
theorem pX1_tellOf_0 {Γ : GX} (C : Cx Γ RX1 cX1_tellOf 0) (M : Mx Γ (some .int)) (L : xn Γ = 3) {k0 : Nat} (hk0 : kd k0 = 4) (u : Mm) (v1 : Int32) (v2 : Int32) : Gp Γ (QM Γ (cvP u)) 0 [(0, .ref ((xE Γ).1 k0)), (1, .int v1), (2, .int v2)] [] u (gX1_tellOf_b k0 v1 v2 u) := by
  unfold gX1_tellOf_b
  refine g_iload_n C dX1_tellOf_0 rfl 1 rfl ?_
  refine g_if_lt 10 C dX1_tellOf_1 rfl (by decide) (fun c1 => ?_) (fun c1 => ?_)
  · refine g_bipush (v := (-9)) C dX1_tellOf_10 rfl (by decide) ?_
    exact g_iret C M dX1_tellOf_12 rfl rfl
  · refine g_iload_n C dX1_tellOf_4 rfl 1 rfl ?_
    refine g_bipush (v := 8) C dX1_tellOf_5 rfl (by decide) ?_
    refine g_icmp_lt 13 C dX1_tellOf_7 rfl (by decide) (fun c2 => ?_) (fun c2 => ?_)
    · refine g_iload_n C dX1_tellOf_13 rfl 2 rfl ?_
      refine g_if (fun c3 => ?_) (fun c3 => ?_)
      · refine g_tabI 30 44 C dX1_tellOf_14 rfl (by rw [c3]; exact ⟨by decide, by decide, rfl⟩) (by decide) ?_
        refine g_aload_n C dX1_tellOf_44 rfl 0 rfl ?_
        refine g_getR (k2 := (k0 + 1)) C dX1_tellOf_45 rfl hk0 fi_1_1 ⟨by decide, by decide, rfl⟩ fl_X1_9 ?_
        refine g_iload_n C dX1_tellOf_48 rfl 1 rfl ?_
        refine g_gd (fun hi4 => ?_)
        refine g_iald C dX1_tellOf_49 rfl (kr_1_1 hk0) (sr_1_1 hk0) hi4 ?_
        exact g_iret C M dX1_tellOf_50 rfl rfl
      refine g_if (fun c5 => ?_) (fun c5 => ?_)
      · refine g_tabI 37 51 C dX1_tellOf_14 rfl (by rw [c5]; exact ⟨by decide, by decide, rfl⟩) (by decide) ?_
        refine g_aload_n C dX1_tellOf_51 rfl 0 rfl ?_
        refine g_getR (k2 := (k0 + 2)) C dX1_tellOf_52 rfl hk0 fi_1_2 ⟨by decide, by decide, rfl⟩ fl_X1_15 ?_
        refine g_iload_n C dX1_tellOf_55 rfl 1 rfl ?_
        refine g_gd (fun hi6 => ?_)
        refine g_iald C dX1_tellOf_56 rfl (kr_1_2 hk0) (sr_1_2 hk0) hi6 ?_
        exact g_iret C M dX1_tellOf_57 rfl rfl
      refine g_if (fun c7 => ?_) (fun c7 => ?_)
      · refine g_tabI 44 58 C dX1_tellOf_14 rfl (by rw [c7]; exact ⟨by decide, by decide, rfl⟩) (by decide) ?_
        refine g_aload_n C dX1_tellOf_58 rfl 0 rfl ?_
        refine g_getR (k2 := (k0 + 3)) C dX1_tellOf_59 rfl hk0 fi_1_3 ⟨by decide, by decide, rfl⟩ fl_X1_18 ?_
        refine g_iload_n C dX1_tellOf_62 rfl 1 rfl ?_
        refine g_gd (fun hi8 => ?_)
        refine g_iald C dX1_tellOf_63 rfl (kr_1_3 hk0) (sr_1_3 hk0) hi8 ?_
        exact g_iret C M dX1_tellOf_64 rfl rfl
      refine g_if (fun c9 => ?_) (fun c9 => ?_)
      · refine g_tabI 51 65 C dX1_tellOf_14 rfl (by rw [c9]; exact ⟨by decide, by decide, rfl⟩) (by decide) ?_
        refine g_aload_n C dX1_tellOf_65 rfl 0 rfl ?_
        refine g_getR (k2 := (k0 + 4)) C dX1_tellOf_66 rfl hk0 fi_1_4 ⟨by decide, by decide, rfl⟩ fl_X1_21 ?_
        refine g_iload_n C dX1_tellOf_69 rfl 1 rfl ?_
        refine g_gd (fun hi10 => ?_)
        refine g_iald C dX1_tellOf_70 rfl (kr_1_4 hk0) (sr_1_4 hk0) hi10 ?_
        exact g_iret C M dX1_tellOf_71 rfl rfl
      have ec3 := lv_neT c3 (a := 0) (by decide)
      have ec5 := lv_neT c5 (a := 1) (by decide)
      have ec7 := lv_neT c7 (a := 2) (by decide)
      have ec9 := lv_neT c9 (a := 3) (by decide)
      refine g_tabO 72 C dX1_tellOf_14 rfl (by omega) (by decide) ?_
      refine g_aload_n C dX1_tellOf_72 rfl 0 rfl ?_
      refine g_getR (k2 := (k0 + 5)) C dX1_tellOf_73 rfl hk0 fi_1_5 ⟨by decide, by decide, rfl⟩ fl_X1_24 ?_
      refine g_iload_n C dX1_tellOf_76 rfl 1 rfl ?_
      refine g_gd (fun hi11 => ?_)
      refine g_iald C dX1_tellOf_77 rfl (kr_1_5 hk0) (sr_1_5 hk0) hi11 ?_
      exact g_iret C M dX1_tellOf_78 rfl rfl
    · refine g_bipush (v := (-9)) C dX1_tellOf_10 rfl (by decide) ?_
      exact g_iret C M dX1_tellOf_12 rfl rfl
set_option maxRecDepth 20000 in
set_option maxHeartbeats 4000000 in
theorem tX1_tellOf (l : Launch) (E : EE) {k0 : Nat} (hk0 : kd k0 = 4) (v1 : Int32) (v2 : Int32) (u : Mm) : Ct l E yX1_tellOf cX1_tellOf 3 (some .int) 0 [.ref (E.1 k0), .int v1, .int v2] u (cvP u) (gX1_tellOf k0 v1 v2 u) :=
  Ct_of (own := RX1) (by decide +kernel) rfl (Nat.le_of_ble_eq_true rfl) (fun p e R s m args below meth c C M => g_sub (ls' := [(0, .ref (E.1 k0)), (1, .int v1), (2, .int v2)]) [0, 1, 2] rfl (pX1_tellOf_0 C M rfl hk0 u v1 v2))
set_option maxRecDepth 20000 in
set_option maxHeartbeats 4000000 in
theorem pX1_fieldAt_2s {Γ : GX} (C : Cx Γ RX1 cX1_fieldAt 0) (M : Mx Γ (some .int)) (L : xn Γ = 4) {k0 : Nat} (hk0 : kd k0 = 4) (u : Mm) (v1 : Int32) (v2 : Int32) {j2 : Int32 → Option Int32} (hj2 : ∀ (v3 : Int32), Gp Γ (QM Γ (cvP u)) 2 [(0, .ref ((xE Γ).1 k0)), (1, .int v1), (2, .int v2), (3, .int v3)] [] u (j2 v3)) (v3 : Int32) : Gp Γ (QM Γ (cvP u)) 2 [(0, .ref ((xE Γ).1 k0)), (1, .int v1), (2, .int v2), (3, .int v3)] [] u (gX1_fieldAt_2_Ls k0 v1 v2 u j2 v3) := by
  unfold gX1_fieldAt_2_Ls
  refine g_iload_n C dX1_fieldAt_2 rfl 3 rfl ?_
  refine g_aload_n C dX1_fieldAt_3 rfl 0 rfl ?_
  refine g_getI C dX1_fieldAt_4 rfl hk0 fi_1_0 rfl fl_X1_27 ?_
  refine g_icmp_ge 78 C dX1_fieldAt_7 rfl (by decide) (fun c1 => ?_) (fun c1 => ?_)
  · refine g_bipush (v := (-9)) C dX1_fieldAt_78 rfl (by decide) ?_
    exact g_iret C M dX1_fieldAt_80 rfl rfl
  · refine g_iload_n C dX1_fieldAt_10 rfl 3 rfl ?_
    refine g_bipush (v := 8) C dX1_fieldAt_11 rfl (by decide) ?_
    refine g_icmp_ge 78 C dX1_fieldAt_13 rfl (by decide) (fun c2 => ?_) (fun c2 => ?_)
    · refine g_bipush (v := (-9)) C dX1_fieldAt_78 rfl (by decide) ?_
      exact g_iret C M dX1_fieldAt_80 rfl rfl
    · refine g_iload_n C dX1_fieldAt_16 rfl 1 rfl ?_
      refine g_aload_n C dX1_fieldAt_17 rfl 0 rfl ?_
      refine g_getR (k2 := (k0 + 3)) C dX1_fieldAt_18 rfl hk0 fi_1_3 ⟨by decide, by decide, rfl⟩ fl_X1_18 ?_
      refine g_iload_n C dX1_fieldAt_21 rfl 3 rfl ?_
      refine g_gd (fun hi3 => ?_)
      refine g_iald C dX1_fieldAt_22 rfl (kr_1_3 hk0) (sr_1_3 hk0) hi3 ?_
      refine g_icmp_lt 72 C dX1_fieldAt_23 rfl (by decide) (fun c4 => ?_) (fun c4 => ?_)
      · refine g_iincL (fun v3_5 => [(3, .int v3_5), (0, .ref ((xE Γ).1 k0)), (1, .int v1), (2, .int v2)]) C dX1_fieldAt_72 rfl L (by decide) (k := 3) rfl (iinc_1 _) (fun _ => rfl) (fun v3_5 => ?_)
        refine g_goto 2 C dX1_fieldAt_75 rfl (by decide) ?_
        refine g_sub (ls' := [(0, .ref ((xE Γ).1 k0)), (1, .int v1), (2, .int v2), (3, .int v3_5)]) [1, 2, 3, 0] rfl ?_
        exact hj2 v3_5
      · refine g_iload_n C dX1_fieldAt_26 rfl 1 rfl ?_
        refine g_aload_n C dX1_fieldAt_27 rfl 0 rfl ?_
        refine g_getR (k2 := (k0 + 3)) C dX1_fieldAt_28 rfl hk0 fi_1_3 ⟨by decide, by decide, rfl⟩ fl_X1_18 ?_
        refine g_iload_n C dX1_fieldAt_31 rfl 3 rfl ?_
        refine g_gd (fun hi6 => ?_)
        refine g_iald C dX1_fieldAt_32 rfl (kr_1_3 hk0) (sr_1_3 hk0) hi6 ?_
        refine g_aload_n C dX1_fieldAt_33 rfl 0 rfl ?_
        refine g_getR (k2 := (k0 + 5)) C dX1_fieldAt_34 rfl hk0 fi_1_5 ⟨by decide, by decide, rfl⟩ fl_X1_24 ?_
        refine g_iload_n C dX1_fieldAt_37 rfl 3 rfl ?_
        refine g_gd (fun hi7 => ?_)
        refine g_iald C dX1_fieldAt_38 rfl (kr_1_5 hk0) (sr_1_5 hk0) hi7 ?_
        refine g_iadd C dX1_fieldAt_39 rfl ?_
        refine g_icmp_ge 72 C dX1_fieldAt_40 rfl (by decide) (fun c8 => ?_) (fun c8 => ?_)
        · refine g_iincL (fun v3_9 => [(3, .int v3_9), (0, .ref ((xE Γ).1 k0)), (1, .int v1), (2, .int v2)]) C dX1_fieldAt_72 rfl L (by decide) (k := 3) rfl (iinc_1 _) (fun _ => rfl) (fun v3_9 => ?_)
          refine g_goto 2 C dX1_fieldAt_75 rfl (by decide) ?_
          refine g_sub (ls' := [(0, .ref ((xE Γ).1 k0)), (1, .int v1), (2, .int v2), (3, .int v3_9)]) [1, 2, 3, 0] rfl ?_
          exact hj2 v3_9
        · refine g_iload_n C dX1_fieldAt_43 rfl 2 rfl ?_
          refine g_aload_n C dX1_fieldAt_44 rfl 0 rfl ?_
          refine g_getR (k2 := (k0 + 4)) C dX1_fieldAt_45 rfl hk0 fi_1_4 ⟨by decide, by decide, rfl⟩ fl_X1_21 ?_
          refine g_iload_n C dX1_fieldAt_48 rfl 3 rfl ?_
          refine g_gd (fun hi10 => ?_)
          refine g_iald C dX1_fieldAt_49 rfl (kr_1_4 hk0) (sr_1_4 hk0) hi10 ?_
          refine g_icmp_lt 72 C dX1_fieldAt_50 rfl (by decide) (fun c11 => ?_) (fun c11 => ?_)
          · refine g_iincL (fun v3_12 => [(3, .int v3_12), (0, .ref ((xE Γ).1 k0)), (1, .int v1), (2, .int v2)]) C dX1_fieldAt_72 rfl L (by decide) (k := 3) rfl (iinc_1 _) (fun _ => rfl) (fun v3_12 => ?_)
            refine g_goto 2 C dX1_fieldAt_75 rfl (by decide) ?_
            refine g_sub (ls' := [(0, .ref ((xE Γ).1 k0)), (1, .int v1), (2, .int v2), (3, .int v3_12)]) [1, 2, 3, 0] rfl ?_
            exact hj2 v3_12
          · refine g_iload_n C dX1_fieldAt_53 rfl 2 rfl ?_
            refine g_aload_n C dX1_fieldAt_54 rfl 0 rfl ?_
            refine g_getR (k2 := (k0 + 4)) C dX1_fieldAt_55 rfl hk0 fi_1_4 ⟨by decide, by decide, rfl⟩ fl_X1_21 ?_
            refine g_iload_n C dX1_fieldAt_58 rfl 3 rfl ?_
            refine g_gd (fun hi13 => ?_)
            refine g_iald C dX1_fieldAt_59 rfl (kr_1_4 hk0) (sr_1_4 hk0) hi13 ?_
            refine g_aload_n C dX1_fieldAt_60 rfl 0 rfl ?_
            refine g_getR (k2 := (k0 + 5)) C dX1_fieldAt_61 rfl hk0 fi_1_5 ⟨by decide, by decide, rfl⟩ fl_X1_24 ?_
            refine g_iload_n C dX1_fieldAt_64 rfl 3 rfl ?_
            refine g_gd (fun hi14 => ?_)
            refine g_iald C dX1_fieldAt_65 rfl (kr_1_5 hk0) (sr_1_5 hk0) hi14 ?_
            refine g_iadd C dX1_fieldAt_66 rfl ?_
            refine g_icmp_ge 72 C dX1_fieldAt_67 rfl (by decide) (fun c15 => ?_) (fun c15 => ?_)
            · refine g_iincL (fun v3_16 => [(3, .int v3_16), (0, .ref ((xE Γ).1 k0)), (1, .int v1), (2, .int v2)]) C dX1_fieldAt_72 rfl L (by decide) (k := 3) rfl (iinc_1 _) (fun _ => rfl) (fun v3_16 => ?_)
              refine g_goto 2 C dX1_fieldAt_75 rfl (by decide) ?_
              refine g_sub (ls' := [(0, .ref ((xE Γ).1 k0)), (1, .int v1), (2, .int v2), (3, .int v3_16)]) [1, 2, 3, 0] rfl ?_
              exact hj2 v3_16
            · refine g_iload_n C dX1_fieldAt_70 rfl 3 rfl ?_
              exact g_iret C M dX1_fieldAt_71 rfl rfl
set_option maxRecDepth 20000 in
set_option maxHeartbeats 4000000 in
theorem pX1_fieldAt_2 {Γ : GX} (C : Cx Γ RX1 cX1_fieldAt 0) (M : Mx Γ (some .int)) (L : xn Γ = 4) {k0 : Nat} (hk0 : kd k0 = 4) (u : Mm) (v1 : Int32) (v2 : Int32) : ∀ (n : Nat) (v3 : Int32), Gp Γ (QM Γ (cvP u)) 2 [(0, .ref ((xE Γ).1 k0)), (1, .int v1), (2, .int v2), (3, .int v3)] [] u (gX1_fieldAt_2_L k0 v1 v2 u n v3) := by
  intro n
  induction n with
  | zero => intro _; exact g_none
  | succ n ih => intro v3; exact pX1_fieldAt_2s C M L hk0 u v1 v2 ih v3

set_option maxRecDepth 20000 in
set_option maxHeartbeats 4000000 in
theorem pX1_fieldAt_0 {Γ : GX} (C : Cx Γ RX1 cX1_fieldAt 0) (M : Mx Γ (some .int)) (L : xn Γ = 4) {k0 : Nat} (hk0 : kd k0 = 4) (u : Mm) (v1 : Int32) (v2 : Int32) : Gp Γ (QM Γ (cvP u)) 0 [(0, .ref ((xE Γ).1 k0)), (1, .int v1), (2, .int v2)] [] u (gX1_fieldAt_b k0 v1 v2 u) := by
  unfold gX1_fieldAt_b
  refine g_iconst (v := 0) C dX1_fieldAt_0 rfl (by decide) ?_
  refine g_istore_n (ls' := [(3, .int 0), (0, .ref ((xE Γ).1 k0)), (1, .int v1), (2, .int v2)]) C dX1_fieldAt_1 rfl L (by decide) rfl ?_
  refine g_sub (ls' := [(0, .ref ((xE Γ).1 k0)), (1, .int v1), (2, .int v2), (3, .int 0)]) [1, 2, 3, 0] rfl ?_
  exact pX1_fieldAt_2 C M L hk0 u v1 v2 FU 0
set_option maxRecDepth 20000 in
set_option maxHeartbeats 4000000 in
theorem tX1_fieldAt (l : Launch) (E : EE) {k0 : Nat} (hk0 : kd k0 = 4) (v1 : Int32) (v2 : Int32) (u : Mm) : Ct l E yX1_fieldAt cX1_fieldAt 4 (some .int) 0 [.ref (E.1 k0), .int v1, .int v2] u (cvP u) (gX1_fieldAt k0 v1 v2 u) :=
  Ct_of (own := RX1) (by decide +kernel) rfl (Nat.le_of_ble_eq_true rfl) (fun p e R s m args below meth c C M => g_sub (ls' := [(0, .ref (E.1 k0)), (1, .int v1), (2, .int v2)]) [0, 1, 2] rfl (pX1_fieldAt_0 C M rfl hk0 u v1 v2))
set_option maxRecDepth 20000 in
set_option maxHeartbeats 4000000 in
theorem pX1_costOf_33 {Γ : GX} (C : Cx Γ RX1 cX1_costOf 0) (M : Mx Γ (some .int)) (L : xn Γ = 8) {k0 : Nat} (hk0 : kd k0 = 4) (u : Mm) (v1 : Int32) (v3 : Int32) (s0 : Int32) : Gp Γ (QM Γ (cvP u)) 33 [(0, .ref ((xE Γ).1 k0)), (1, .int v1), (3, .int v3)] [.int s0] u (gX1_costOf_33 k0 v1 v3 s0 u) := by
  unfold gX1_costOf_33
  refine g_istore (ls' := [(4, .int s0), (0, .ref ((xE Γ).1 k0)), (1, .int v1), (3, .int v3)]) C dX1_costOf_33 rfl L (by decide) rfl ?_
  refine g_aload_n C dX1_costOf_35 rfl 1 rfl ?_
  refine g_getR (k2 := (k0 + 2)) C dX1_costOf_36 rfl hk0 fi_1_2 ⟨by decide, by decide, rfl⟩ fl_X1_15 ?_
  refine g_iload_n C dX1_costOf_39 rfl 2 rfl ?_
  refine g_gd (fun hi1 => ?_)
  refine g_iald C dX1_costOf_40 rfl (kr_1_2 hk0) (sr_1_2 hk0) hi1 ?_
  refine g_lets (fun v5_2 => ?_)
  refine g_istore (ls' := [(5, .int v5_2), (4, .int s0), (0, .ref ((xE Γ).1 k0)), (1, .int v1), (3, .int v3)]) C dX1_costOf_41 rfl L (by decide) rfl ?_
  refine g_iload C dX1_costOf_43 rfl 1 rfl ?_
  refine g_iconst (v := 3) C dX1_costOf_45 rfl (by decide) ?_
  refine g_iload C dX1_costOf_46 rfl 0 rfl ?_
  refine g_imul C dX1_costOf_48 rfl ?_
  refine g_iadd C dX1_costOf_49 rfl ?_
  refine g_lets (fun v6_3 => ?_)
  refine g_istore (ls' := [(6, .int v6_3), (5, .int v5_2), (4, .int s0), (0, .ref ((xE Γ).1 k0)), (1, .int v1), (3, .int v3)]) C dX1_costOf_50 rfl L (by decide) rfl ?_
  refine g_iload C dX1_costOf_52 rfl 2 rfl ?_
  refine g_iload C dX1_costOf_54 rfl 1 rfl ?_
  refine g_iadd C dX1_costOf_56 rfl ?_
  refine g_iconst (v := 5) C dX1_costOf_57 rfl (by decide) ?_
  refine g_iadd C dX1_costOf_58 rfl ?_
  refine g_lets (fun v7_4 => ?_)
  refine g_istore (ls' := [(7, .int v7_4), (6, .int v6_3), (5, .int v5_2), (4, .int s0), (0, .ref ((xE Γ).1 k0)), (1, .int v1), (3, .int v3)]) C dX1_costOf_59 rfl L (by decide) rfl ?_
  refine g_aload_n C dX1_costOf_61 rfl 4 rfl ?_
  refine g_getR (k2 := (k0 + 1)) C dX1_costOf_62 rfl hk0 fi_1_1 ⟨by decide, by decide, rfl⟩ fl_X1_9 ?_
  refine g_iload_n C dX1_costOf_65 rfl 5 rfl ?_
  refine g_gd (fun hi5 => ?_)
  refine g_iald C dX1_costOf_66 rfl (kr_1_1 hk0) (sr_1_1 hk0) hi5 ?_
  refine g_if (fun c6 => ?_) (fun c6 => ?_)
  · refine g_tabI 33 100 C dX1_costOf_67 rfl (by rw [c6]; exact ⟨by decide, by decide, rfl⟩) (by decide) ?_
    refine g_iload C dX1_costOf_100 rfl 0 rfl ?_
    exact g_iret C M dX1_costOf_102 rfl rfl
  refine g_if (fun c7 => ?_) (fun c7 => ?_)
  · refine g_tabI 36 103 C dX1_costOf_67 rfl (by rw [c7]; exact ⟨by decide, by decide, rfl⟩) (by decide) ?_
    refine g_iload C dX1_costOf_103 rfl 1 rfl ?_
    exact g_iret C M dX1_costOf_105 rfl rfl
  refine g_if (fun c8 => ?_) (fun c8 => ?_)
  · refine g_tabI 39 106 C dX1_costOf_67 rfl (by rw [c8]; exact ⟨by decide, by decide, rfl⟩) (by decide) ?_
    refine g_iload C dX1_costOf_106 rfl 3 rfl ?_
    refine g_iload C dX1_costOf_108 rfl 2 rfl ?_
    refine g_iadd C dX1_costOf_110 rfl ?_
    exact g_iret C M dX1_costOf_111 rfl rfl
  refine g_if (fun c9 => ?_) (fun c9 => ?_)
  · refine g_tabI 45 112 C dX1_costOf_67 rfl (by rw [c9]; exact ⟨by decide, by decide, rfl⟩) (by decide) ?_
    refine g_iload_n C dX1_costOf_112 rfl 6 rfl ?_
    refine g_bipush (v := 10) C dX1_costOf_113 rfl (by decide) ?_
    refine g_aload_n C dX1_costOf_115 rfl 4 rfl ?_
    refine g_getR (k2 := (k0 + 5)) C dX1_costOf_116 rfl hk0 fi_1_5 ⟨by decide, by decide, rfl⟩ fl_X1_24 ?_
    refine g_iload_n C dX1_costOf_119 rfl 5 rfl ?_
    refine g_gd (fun hi10 => ?_)
    refine g_iald C dX1_costOf_120 rfl (kr_1_5 hk0) (sr_1_5 hk0) hi10 ?_
    refine g_imul C dX1_costOf_121 rfl ?_
    refine g_icmp_le 133 C dX1_costOf_122 rfl (by decide) (fun c11 => ?_) (fun c11 => ?_)
    · refine g_iload C dX1_costOf_133 rfl 1 rfl ?_
      exact g_iret C M dX1_costOf_135 rfl rfl
    · refine g_iload C dX1_costOf_125 rfl 1 rfl ?_
      refine g_bipush (v := 20) C dX1_costOf_127 rfl (by decide) ?_
      refine g_iadd C dX1_costOf_129 rfl ?_
      refine g_goto 135 C dX1_costOf_130 rfl (by decide) ?_
      exact g_iret C M dX1_costOf_135 rfl rfl
  refine g_if (fun c12 => ?_) (fun c12 => ?_)
  · refine g_tabI 69 136 C dX1_costOf_67 rfl (by rw [c12]; exact ⟨by decide, by decide, rfl⟩) (by decide) ?_
    refine g_iload C dX1_costOf_136 rfl 0 rfl ?_
    refine g_iconst (v := 2) C dX1_costOf_138 rfl (by decide) ?_
    refine g_idiv C dX1_costOf_139 rfl (by decide) ?_
    exact g_iret C M dX1_costOf_140 rfl rfl
  have ec6 := lv_neT c6 (a := 1) (by decide)
  have ec7 := lv_neT c7 (a := 2) (by decide)
  have ec8 := lv_neT c8 (a := 3) (by decide)
  have ec9 := lv_neT c9 (a := 4) (by decide)
  have ec12 := lv_neT c12 (a := 5) (by decide)
  refine g_tabO 141 C dX1_costOf_67 rfl (by omega) (by decide) ?_
  refine g_iload C dX1_costOf_141 rfl 3 rfl ?_
  exact g_iret C M dX1_costOf_143 rfl rfl
set_option maxRecDepth 20000 in
set_option maxHeartbeats 4000000 in
theorem pX1_costOf_0 {Γ : GX} (C : Cx Γ RX1 cX1_costOf 0) (M : Mx Γ (some .int)) (L : xn Γ = 8) {k0 : Nat} (hk0 : kd k0 = 4) (u : Mm) (v1 : Int32) (v2 : Int32) (v3 : Int32) : Gp Γ (QM Γ (cvP u)) 0 [(0, .ref ((xE Γ).1 k0)), (1, .int v1), (2, .int v2), (3, .int v3)] [] u (gX1_costOf_b k0 v1 v2 v3 u) := by
  unfold gX1_costOf_b
  refine g_iload_n C dX1_costOf_0 rfl 1 rfl ?_
  refine g_if_lt 18 C dX1_costOf_1 rfl (by decide) (fun c1 => ?_) (fun c1 => ?_)
  · refine g_bipush (v := 40) C dX1_costOf_18 rfl (by decide) ?_
    exact g_iret C M dX1_costOf_20 rfl rfl
  · refine g_iload_n C dX1_costOf_4 rfl 1 rfl ?_
    refine g_aload_n C dX1_costOf_5 rfl 0 rfl ?_
    refine g_getI C dX1_costOf_6 rfl hk0 fi_1_0 rfl fl_X1_27 ?_
    refine g_icmp_ge 18 C dX1_costOf_9 rfl (by decide) (fun c2 => ?_) (fun c2 => ?_)
    · refine g_bipush (v := 40) C dX1_costOf_18 rfl (by decide) ?_
      exact g_iret C M dX1_costOf_20 rfl rfl
    · refine g_iload_n C dX1_costOf_12 rfl 1 rfl ?_
      refine g_bipush (v := 8) C dX1_costOf_13 rfl (by decide) ?_
      refine g_icmp_lt 21 C dX1_costOf_15 rfl (by decide) (fun c3 => ?_) (fun c3 => ?_)
      · refine g_iload_n C dX1_costOf_21 rfl 2 rfl ?_
        refine g_iconst (v := 3) C dX1_costOf_22 rfl (by decide) ?_
        refine g_icmp_le 32 C dX1_costOf_23 rfl (by decide) (fun c4 => ?_) (fun c4 => ?_)
        · refine g_iload_n C dX1_costOf_32 rfl 2 rfl ?_
          refine g_sub (ls' := [(0, .ref ((xE Γ).1 k0)), (1, .int v1), (3, .int v3)]) [0, 1, 3] rfl ?_
          exact pX1_costOf_33 C M L hk0 u v1 v3 v2
        · refine g_iconst (v := 2) C dX1_costOf_26 rfl (by decide) ?_
          refine g_iload_n C dX1_costOf_27 rfl 2 rfl ?_
          refine g_imul C dX1_costOf_28 rfl ?_
          refine g_goto 33 C dX1_costOf_29 rfl (by decide) ?_
          refine g_sub (ls' := [(0, .ref ((xE Γ).1 k0)), (1, .int v1), (3, .int v3)]) [0, 1, 3] rfl ?_
          exact pX1_costOf_33 C M L hk0 u v1 v3 (2 * v2)
      · refine g_bipush (v := 40) C dX1_costOf_18 rfl (by decide) ?_
        exact g_iret C M dX1_costOf_20 rfl rfl
set_option maxRecDepth 20000 in
set_option maxHeartbeats 4000000 in
theorem tX1_costOf (l : Launch) (E : EE) {k0 : Nat} (hk0 : kd k0 = 4) (v1 : Int32) (v2 : Int32) (v3 : Int32) (u : Mm) : Ct l E yX1_costOf cX1_costOf 8 (some .int) 0 [.ref (E.1 k0), .int v1, .int v2, .int v3] u (cvP u) (gX1_costOf k0 v1 v2 v3 u) :=
  Ct_of (own := RX1) (by decide +kernel) rfl (Nat.le_of_ble_eq_true rfl) (fun p e R s m args below meth c C M => g_sub (ls' := [(0, .ref (E.1 k0)), (1, .int v1), (2, .int v2), (3, .int v3)]) [0, 1, 2, 3] rfl (pX1_costOf_0 C M rfl hk0 u v1 v2 v3))
set_option maxRecDepth 20000 in
set_option maxHeartbeats 4000000 in
theorem pX2_copyFrom_0 {Γ : GX} (C : Cx Γ RX2 cX2_copyFrom 0) (M : Mx Γ none) (L : xn Γ = 2) {k0 : Nat} (hk0 : kd k0 = 5) {k1 : Nat} (hk1 : kd k1 = 5) (u : Mm) : Gp Γ (QM Γ cvV) 0 [(0, .ref ((xE Γ).1 k0)), (1, .ref ((xE Γ).1 k1))] [] u (gX2_copyFrom_b k0 k1 u) := by
  unfold gX2_copyFrom_b
  refine g_aload_n C dX2_copyFrom_0 rfl 0 rfl ?_
  refine g_aload_n C dX2_copyFrom_1 rfl 1 rfl ?_
  refine g_getI C dX2_copyFrom_2 rfl hk1 fi_2_0 rfl fl_X2_27 ?_
  refine g_putI C dX2_copyFrom_5 rfl hk0 fp_2_0 rfl fl_X2_27 ?_
  refine g_letm (fun u1 => ?_)
  refine g_aload_n C dX2_copyFrom_8 rfl 0 rfl ?_
  refine g_aload_n C dX2_copyFrom_9 rfl 1 rfl ?_
  refine g_getI C dX2_copyFrom_10 rfl hk1 fi_2_1 rfl fl_X2_9 ?_
  refine g_putI C dX2_copyFrom_13 rfl hk0 fp_2_1 rfl fl_X2_9 ?_
  refine g_letm (fun u2 => ?_)
  refine g_aload_n C dX2_copyFrom_16 rfl 0 rfl ?_
  refine g_aload_n C dX2_copyFrom_17 rfl 1 rfl ?_
  refine g_getI C dX2_copyFrom_18 rfl hk1 fi_2_2 rfl fl_X2_30 ?_
  refine g_putI C dX2_copyFrom_21 rfl hk0 fp_2_2 rfl fl_X2_30 ?_
  refine g_letm (fun u3 => ?_)
  refine g_aload_n C dX2_copyFrom_24 rfl 0 rfl ?_
  refine g_aload_n C dX2_copyFrom_25 rfl 1 rfl ?_
  refine g_getI C dX2_copyFrom_26 rfl hk1 fi_2_3 rfl fl_X2_15 ?_
  refine g_putI C dX2_copyFrom_29 rfl hk0 fp_2_3 rfl fl_X2_15 ?_
  refine g_letm (fun u4 => ?_)
  refine g_aload_n C dX2_copyFrom_32 rfl 0 rfl ?_
  refine g_aload_n C dX2_copyFrom_33 rfl 1 rfl ?_
  refine g_getI C dX2_copyFrom_34 rfl hk1 fi_2_4 rfl fl_X2_18 ?_
  refine g_putI C dX2_copyFrom_37 rfl hk0 fp_2_4 rfl fl_X2_18 ?_
  refine g_letm (fun u5 => ?_)
  refine g_aload_n C dX2_copyFrom_40 rfl 0 rfl ?_
  refine g_aload_n C dX2_copyFrom_41 rfl 1 rfl ?_
  refine g_getI C dX2_copyFrom_42 rfl hk1 fi_2_5 rfl fl_X2_21 ?_
  refine g_putI C dX2_copyFrom_45 rfl hk0 fp_2_5 rfl fl_X2_21 ?_
  refine g_letm (fun u6 => ?_)
  refine g_aload_n C dX2_copyFrom_48 rfl 0 rfl ?_
  refine g_aload_n C dX2_copyFrom_49 rfl 1 rfl ?_
  refine g_getI C dX2_copyFrom_50 rfl hk1 fi_2_6 rfl fl_X2_24 ?_
  refine g_putI C dX2_copyFrom_53 rfl hk0 fp_2_6 rfl fl_X2_24 ?_
  refine g_letm (fun u7 => ?_)
  refine g_aload_n C dX2_copyFrom_56 rfl 0 rfl ?_
  refine g_aload_n C dX2_copyFrom_57 rfl 1 rfl ?_
  refine g_getI C dX2_copyFrom_58 rfl hk1 fi_2_7 rfl fl_X2_33 ?_
  refine g_putI C dX2_copyFrom_61 rfl hk0 fp_2_7 rfl fl_X2_33 ?_
  refine g_letm (fun u8 => ?_)
  refine g_aload_n C dX2_copyFrom_64 rfl 0 rfl ?_
  refine g_aload_n C dX2_copyFrom_65 rfl 1 rfl ?_
  refine g_getI C dX2_copyFrom_66 rfl hk1 fi_2_8 rfl fl_X2_36 ?_
  refine g_putI C dX2_copyFrom_69 rfl hk0 fp_2_8 rfl fl_X2_36 ?_
  refine g_letm (fun u9 => ?_)
  refine g_aload_n C dX2_copyFrom_72 rfl 0 rfl ?_
  refine g_aload_n C dX2_copyFrom_73 rfl 1 rfl ?_
  refine g_getI C dX2_copyFrom_74 rfl hk1 fi_2_9 rfl fl_X2_39 ?_
  refine g_putI C dX2_copyFrom_77 rfl hk0 fp_2_9 rfl fl_X2_39 ?_
  refine g_letm (fun u10 => ?_)
  exact g_vret C M dX2_copyFrom_80 rfl rfl
set_option maxRecDepth 20000 in
set_option maxHeartbeats 4000000 in
theorem tX2_copyFrom (l : Launch) (E : EE) {k0 : Nat} (hk0 : kd k0 = 5) {k1 : Nat} (hk1 : kd k1 = 5) (u : Mm) : Ct l E yX2_copyFrom cX2_copyFrom 2 none 0 [.ref (E.1 k0), .ref (E.1 k1)] u cvV (gX2_copyFrom k0 k1 u) :=
  Ct_of (own := RX2) (by decide +kernel) rfl (Nat.le_of_ble_eq_true rfl) (fun p e R s m args below meth c C M => g_sub (ls' := [(0, .ref (E.1 k0)), (1, .ref (E.1 k1))]) [0, 1] rfl (pX2_copyFrom_0 C M rfl hk0 hk1 u))
set_option maxRecDepth 20000 in
set_option maxHeartbeats 4000000 in
theorem pX2_leastOf_0 {Γ : GX} (C : Cx Γ RX2 cX2_leastOf 0) (M : Mx Γ (some .int)) (L : xn Γ = 1) (u : Mm) (v0 : Int32) : Gp Γ (QM Γ (cvP u)) 0 [(0, .int v0)] [] u (gX2_leastOf_b v0) := by
  unfold gX2_leastOf_b
  refine g_iload_n C dX2_leastOf_0 rfl 0 rfl ?_
  refine g_iconst (v := 3) C dX2_leastOf_1 rfl (by decide) ?_
  refine g_icmp_ne 9 C dX2_leastOf_2 rfl (by decide) (fun c1 => ?_) (fun c1 => ?_)
  · refine g_iconst (v := 0) C dX2_leastOf_9 rfl (by decide) ?_
    exact g_iret C M dX2_leastOf_10 rfl rfl
  · refine g_iconst (v := 1) C dX2_leastOf_5 rfl (by decide) ?_
    refine g_goto 10 C dX2_leastOf_6 rfl (by decide) ?_
    exact g_iret C M dX2_leastOf_10 rfl rfl
set_option maxRecDepth 20000 in
set_option maxHeartbeats 4000000 in
theorem tX2_leastOf (l : Launch) (E : EE) (v0 : Int32) (u : Mm) : Ct l E yX2_leastOf cX2_leastOf 1 (some .int) 0 [.int v0] u (cvP u) (gX2_leastOf v0) :=
  Ct_of (own := RX2) (by decide +kernel) rfl (Nat.le_of_ble_eq_true rfl) (fun p e R s m args below meth c C M => g_sub (ls' := [(0, .int v0)]) [0] rfl (pX2_leastOf_0 C M rfl u v0))
set_option maxRecDepth 20000 in
set_option maxHeartbeats 4000000 in
theorem pX2_mostOf_0 {Γ : GX} (C : Cx Γ RX2 cX2_mostOf 0) (M : Mx Γ (some .int)) (L : xn Γ = 1) (u : Mm) (v0 : Int32) : Gp Γ (QM Γ (cvP u)) 0 [(0, .int v0)] [] u (gX2_mostOf_b v0) := by
  unfold gX2_mostOf_b
  refine g_iload_n C dX2_mostOf_0 rfl 0 rfl ?_
  refine g_if (fun c1 => ?_) (fun c1 => ?_)
  · refine g_tabI 31 32 C dX2_mostOf_1 rfl (by rw [c1]; exact ⟨by decide, by decide, rfl⟩) (by decide) ?_
    refine g_bipush (v := 39) C dX2_mostOf_32 rfl (by decide) ?_
    exact g_iret C M dX2_mostOf_34 rfl rfl
  refine g_if (fun c2 => ?_) (fun c2 => ?_)
  · refine g_tabI 34 35 C dX2_mostOf_1 rfl (by rw [c2]; exact ⟨by decide, by decide, rfl⟩) (by decide) ?_
    refine g_bipush (v := 60) C dX2_mostOf_35 rfl (by decide) ?_
    exact g_iret C M dX2_mostOf_37 rfl rfl
  refine g_if (fun c3 => ?_) (fun c3 => ?_)
  · refine g_tabI 37 38 C dX2_mostOf_1 rfl (by rw [c3]; exact ⟨by decide, by decide, rfl⟩) (by decide) ?_
    refine g_bipush (v := 60) C dX2_mostOf_38 rfl (by decide) ?_
    exact g_iret C M dX2_mostOf_40 rfl rfl
  refine g_if (fun c4 => ?_) (fun c4 => ?_)
  · refine g_tabI 40 41 C dX2_mostOf_1 rfl (by rw [c4]; exact ⟨by decide, by decide, rfl⟩) (by decide) ?_
    refine g_bipush (v := 6) C dX2_mostOf_41 rfl (by decide) ?_
    exact g_iret C M dX2_mostOf_43 rfl rfl
  have ec1 := lv_neT c1 (a := 0) (by decide)
  have ec2 := lv_neT c2 (a := 1) (by decide)
  have ec3 := lv_neT c3 (a := 2) (by decide)
  have ec4 := lv_neT c4 (a := 3) (by decide)
  refine g_tabO 44 C dX2_mostOf_1 rfl (by omega) (by decide) ?_
  refine g_iconst (v := 5) C dX2_mostOf_44 rfl (by decide) ?_
  exact g_iret C M dX2_mostOf_45 rfl rfl
set_option maxRecDepth 20000 in
set_option maxHeartbeats 4000000 in
theorem tX2_mostOf (l : Launch) (E : EE) (v0 : Int32) (u : Mm) : Ct l E yX2_mostOf cX2_mostOf 1 (some .int) 0 [.int v0] u (cvP u) (gX2_mostOf v0) :=
  Ct_of (own := RX2) (by decide +kernel) rfl (Nat.le_of_ble_eq_true rfl) (fun p e R s m args below meth c C M => g_sub (ls' := [(0, .int v0)]) [0] rfl (pX2_mostOf_0 C M rfl u v0))
set_option maxRecDepth 20000 in
set_option maxHeartbeats 4000000 in
theorem pX2_valueOf_0 {Γ : GX} (C : Cx Γ RX2 cX2_valueOf 0) (M : Mx Γ (some .int)) (L : xn Γ = 2) {k0 : Nat} (hk0 : kd k0 = 5) (u : Mm) (v1 : Int32) : Gp Γ (QM Γ (cvP u)) 0 [(0, .ref ((xE Γ).1 k0)), (1, .int v1)] [] u (gX2_valueOf_b k0 v1 u) := by
  unfold gX2_valueOf_b
  refine g_iload_n C dX2_valueOf_0 rfl 1 rfl ?_
  refine g_if (fun c1 => ?_) (fun c1 => ?_)
  · refine g_tabI 31 32 C dX2_valueOf_1 rfl (by rw [c1]; exact ⟨by decide, by decide, rfl⟩) (by decide) ?_
    refine g_aload_n C dX2_valueOf_32 rfl 0 rfl ?_
    refine g_getI C dX2_valueOf_33 rfl hk0 fi_2_0 rfl fl_X2_27 ?_
    exact g_iret C M dX2_valueOf_36 rfl rfl
  refine g_if (fun c2 => ?_) (fun c2 => ?_)
  · refine g_tabI 36 37 C dX2_valueOf_1 rfl (by rw [c2]; exact ⟨by decide, by decide, rfl⟩) (by decide) ?_
    refine g_aload_n C dX2_valueOf_37 rfl 0 rfl ?_
    refine g_getI C dX2_valueOf_38 rfl hk0 fi_2_3 rfl fl_X2_15 ?_
    exact g_iret C M dX2_valueOf_41 rfl rfl
  refine g_if (fun c3 => ?_) (fun c3 => ?_)
  · refine g_tabI 41 42 C dX2_valueOf_1 rfl (by rw [c3]; exact ⟨by decide, by decide, rfl⟩) (by decide) ?_
    refine g_aload_n C dX2_valueOf_42 rfl 0 rfl ?_
    refine g_getI C dX2_valueOf_43 rfl hk0 fi_2_4 rfl fl_X2_18 ?_
    exact g_iret C M dX2_valueOf_46 rfl rfl
  refine g_if (fun c4 => ?_) (fun c4 => ?_)
  · refine g_tabI 46 47 C dX2_valueOf_1 rfl (by rw [c4]; exact ⟨by decide, by decide, rfl⟩) (by decide) ?_
    refine g_aload_n C dX2_valueOf_47 rfl 0 rfl ?_
    refine g_getI C dX2_valueOf_48 rfl hk0 fi_2_5 rfl fl_X2_21 ?_
    exact g_iret C M dX2_valueOf_51 rfl rfl
  have ec1 := lv_neT c1 (a := 0) (by decide)
  have ec2 := lv_neT c2 (a := 1) (by decide)
  have ec3 := lv_neT c3 (a := 2) (by decide)
  have ec4 := lv_neT c4 (a := 3) (by decide)
  refine g_tabO 52 C dX2_valueOf_1 rfl (by omega) (by decide) ?_
  refine g_aload_n C dX2_valueOf_52 rfl 0 rfl ?_
  refine g_getI C dX2_valueOf_53 rfl hk0 fi_2_6 rfl fl_X2_24 ?_
  exact g_iret C M dX2_valueOf_56 rfl rfl
set_option maxRecDepth 20000 in
set_option maxHeartbeats 4000000 in
theorem tX2_valueOf (l : Launch) (E : EE) {k0 : Nat} (hk0 : kd k0 = 5) (v1 : Int32) (u : Mm) : Ct l E yX2_valueOf cX2_valueOf 2 (some .int) 0 [.ref (E.1 k0), .int v1] u (cvP u) (gX2_valueOf k0 v1 u) :=
  Ct_of (own := RX2) (by decide +kernel) rfl (Nat.le_of_ble_eq_true rfl) (fun p e R s m args below meth c C M => g_sub (ls' := [(0, .ref (E.1 k0)), (1, .int v1)]) [0, 1] rfl (pX2_valueOf_0 C M rfl hk0 u v1))
set_option maxRecDepth 20000 in
set_option maxHeartbeats 4000000 in
theorem pX2_loseWork_0 {Γ : GX} (C : Cx Γ RX2 cX2_loseWork 0) (M : Mx Γ none) (L : xn Γ = 1) {k0 : Nat} (hk0 : kd k0 = 5) (u : Mm) : Gp Γ (QM Γ cvV) 0 [(0, .ref ((xE Γ).1 k0))] [] u (gX2_loseWork_b k0 u) := by
  unfold gX2_loseWork_b
  refine g_aload_n C dX2_loseWork_0 rfl 0 rfl ?_
  refine g_iconst (v := 0) C dX2_loseWork_1 rfl (by decide) ?_
  refine g_putI C dX2_loseWork_2 rfl hk0 fp_2_9 rfl fl_X2_39 ?_
  refine g_letm (fun u1 => ?_)
  exact g_vret C M dX2_loseWork_5 rfl rfl
set_option maxRecDepth 20000 in
set_option maxHeartbeats 4000000 in
theorem tX2_loseWork (l : Launch) (E : EE) {k0 : Nat} (hk0 : kd k0 = 5) (u : Mm) : Ct l E yX2_loseWork cX2_loseWork 1 none 0 [.ref (E.1 k0)] u cvV (gX2_loseWork k0 u) :=
  Ct_of (own := RX2) (by decide +kernel) rfl (Nat.le_of_ble_eq_true rfl) (fun p e R s m args below meth c C M => g_sub (ls' := [(0, .ref (E.1 k0))]) [0] rfl (pX2_loseWork_0 C M rfl hk0 u))
set_option maxRecDepth 20000 in
set_option maxHeartbeats 4000000 in
theorem pX2_changeLag_0 {Γ : GX} (C : Cx Γ RX2 cX2_changeLag 1) (M : Mx Γ none) (L : xn Γ = 2) {k0 : Nat} (hk0 : kd k0 = 5) (v1 : Int32) (u : Mm) : Gp Γ (QM Γ cvV) 0 [(0, .ref ((xE Γ).1 k0)), (1, .int v1)] [] u (gX2_changeLag_b k0 v1 u) := by
  unfold gX2_changeLag_b
  refine g_iload_n C dX2_changeLag_0 rfl 1 rfl ?_
  refine g_aload_n C dX2_changeLag_1 rfl 0 rfl ?_
  refine g_getI C dX2_changeLag_2 rfl hk0 fi_2_6 rfl fl_X2_24 ?_
  refine g_icmp_eq 12 C dX2_changeLag_5 rfl (by decide) (fun c1 => ?_) (fun c1 => ?_)
  · refine g_aload_n C dX2_changeLag_12 rfl 0 rfl ?_
    refine g_iload_n C dX2_changeLag_13 rfl 1 rfl ?_
    refine g_putI C dX2_changeLag_14 rfl hk0 fp_2_6 rfl fl_X2_24 ?_
    refine g_letm (fun u2 => ?_)
    exact g_vret C M dX2_changeLag_17 rfl rfl
  · refine g_aload_n C dX2_changeLag_8 rfl 0 rfl ?_
    refine g_callV [] C dX2_changeLag_9 rfl (tX2_loseWork (xl Γ) (xE Γ) hk0 u) cf_X2_loseWork hk0 rfl ml_X2_46 rfl (by decide) (Nat.le_of_ble_eq_true rfl) rfl (fun u3 => ?_)
    refine g_aload_n C dX2_changeLag_12 rfl 0 rfl ?_
    refine g_iload_n C dX2_changeLag_13 rfl 1 rfl ?_
    refine g_putI C dX2_changeLag_14 rfl hk0 fp_2_6 rfl fl_X2_24 ?_
    refine g_letm (fun u4 => ?_)
    exact g_vret C M dX2_changeLag_17 rfl rfl
set_option maxRecDepth 20000 in
set_option maxHeartbeats 4000000 in
theorem tX2_changeLag (l : Launch) (E : EE) {k0 : Nat} (hk0 : kd k0 = 5) (v1 : Int32) (u : Mm) : Ct l E yX2_changeLag cX2_changeLag 2 none 1 [.ref (E.1 k0), .int v1] u cvV (gX2_changeLag k0 v1 u) :=
  Ct_of (own := RX2) (by decide +kernel) rfl (Nat.le_of_ble_eq_true rfl) (fun p e R s m args below meth c C M => g_sub (ls' := [(0, .ref (E.1 k0)), (1, .int v1)]) [0, 1] rfl (pX2_changeLag_0 C M rfl hk0 v1 u))
set_option maxRecDepth 20000 in
set_option maxHeartbeats 4000000 in
theorem pX2_change_0 {Γ : GX} (C : Cx Γ RX2 cX2_change 2) (M : Mx Γ none) (L : xn Γ = 3) {k0 : Nat} (hk0 : kd k0 = 5) (v1 : Int32) (v2 : Int32) (u : Mm) : Gp Γ (QM Γ cvV) 0 [(0, .ref ((xE Γ).1 k0)), (1, .int v1), (2, .int v2)] [] u (gX2_change_b k0 v1 v2 u) := by
  unfold gX2_change_b
  refine g_iload_n C dX2_change_0 rfl 1 rfl ?_
  refine g_if (fun c1 => ?_) (fun c1 => ?_)
  · refine g_tabI 31 32 C dX2_change_1 rfl (by rw [c1]; exact ⟨by decide, by decide, rfl⟩) (by decide) ?_
    refine g_aload_n C dX2_change_32 rfl 0 rfl ?_
    refine g_iload_n C dX2_change_33 rfl 2 rfl ?_
    refine g_putI C dX2_change_34 rfl hk0 fp_2_0 rfl fl_X2_27 ?_
    refine g_letm (fun u2 => ?_)
    refine g_goto 69 C dX2_change_37 rfl (by decide) ?_
    exact g_vret C M dX2_change_69 rfl rfl
  refine g_if (fun c3 => ?_) (fun c3 => ?_)
  · refine g_tabI 39 40 C dX2_change_1 rfl (by rw [c3]; exact ⟨by decide, by decide, rfl⟩) (by decide) ?_
    refine g_aload_n C dX2_change_40 rfl 0 rfl ?_
    refine g_iload_n C dX2_change_41 rfl 2 rfl ?_
    refine g_putI C dX2_change_42 rfl hk0 fp_2_3 rfl fl_X2_15 ?_
    refine g_letm (fun u4 => ?_)
    refine g_goto 69 C dX2_change_45 rfl (by decide) ?_
    exact g_vret C M dX2_change_69 rfl rfl
  refine g_if (fun c5 => ?_) (fun c5 => ?_)
  · refine g_tabI 47 48 C dX2_change_1 rfl (by rw [c5]; exact ⟨by decide, by decide, rfl⟩) (by decide) ?_
    refine g_aload_n C dX2_change_48 rfl 0 rfl ?_
    refine g_iload_n C dX2_change_49 rfl 2 rfl ?_
    refine g_putI C dX2_change_50 rfl hk0 fp_2_4 rfl fl_X2_18 ?_
    refine g_letm (fun u6 => ?_)
    refine g_goto 69 C dX2_change_53 rfl (by decide) ?_
    exact g_vret C M dX2_change_69 rfl rfl
  refine g_if (fun c7 => ?_) (fun c7 => ?_)
  · refine g_tabI 55 56 C dX2_change_1 rfl (by rw [c7]; exact ⟨by decide, by decide, rfl⟩) (by decide) ?_
    refine g_aload_n C dX2_change_56 rfl 0 rfl ?_
    refine g_iload_n C dX2_change_57 rfl 2 rfl ?_
    refine g_putI C dX2_change_58 rfl hk0 fp_2_5 rfl fl_X2_21 ?_
    refine g_letm (fun u8 => ?_)
    refine g_goto 69 C dX2_change_61 rfl (by decide) ?_
    exact g_vret C M dX2_change_69 rfl rfl
  have ec1 := lv_neT c1 (a := 0) (by decide)
  have ec3 := lv_neT c3 (a := 1) (by decide)
  have ec5 := lv_neT c5 (a := 2) (by decide)
  have ec7 := lv_neT c7 (a := 3) (by decide)
  refine g_tabO 64 C dX2_change_1 rfl (by omega) (by decide) ?_
  refine g_aload_n C dX2_change_64 rfl 0 rfl ?_
  refine g_iload_n C dX2_change_65 rfl 2 rfl ?_
  refine g_callV [.int v2] C dX2_change_66 rfl (tX2_changeLag (xl Γ) (xE Γ) hk0 v2 u) cf_X2_changeLag hk0 rfl ml_X2_42 rfl (by decide) (Nat.le_of_ble_eq_true rfl) rfl (fun u9 => ?_)
  exact g_vret C M dX2_change_69 rfl rfl
set_option maxRecDepth 20000 in
set_option maxHeartbeats 4000000 in
theorem tX2_change (l : Launch) (E : EE) {k0 : Nat} (hk0 : kd k0 = 5) (v1 : Int32) (v2 : Int32) (u : Mm) : Ct l E yX2_change cX2_change 3 none 2 [.ref (E.1 k0), .int v1, .int v2] u cvV (gX2_change k0 v1 v2 u) :=
  Ct_of (own := RX2) (by decide +kernel) rfl (Nat.le_of_ble_eq_true rfl) (fun p e R s m args below meth c C M => g_sub (ls' := [(0, .ref (E.1 k0)), (1, .int v1), (2, .int v2)]) [0, 1, 2] rfl (pX2_change_0 C M rfl hk0 v1 v2 u))
set_option maxRecDepth 20000 in
set_option maxHeartbeats 4000000 in
theorem pX2_balance_0 {Γ : GX} (C : Cx Γ RX2 cX2_balance 0) (M : Mx Γ (some .int)) (L : xn Γ = 1) {k0 : Nat} (hk0 : kd k0 = 5) (u : Mm) : Gp Γ (QM Γ (cvP u)) 0 [(0, .ref ((xE Γ).1 k0))] [] u (gX2_balance_b k0 u) := by
  unfold gX2_balance_b
  refine g_bipush (v := 12) C dX2_balance_0 rfl (by decide) ?_
  refine g_iconst (v := 2) C dX2_balance_2 rfl (by decide) ?_
  refine g_aload_n C dX2_balance_3 rfl 0 rfl ?_
  refine g_getI C dX2_balance_4 rfl hk0 fi_2_5 rfl fl_X2_21 ?_
  refine g_imul C dX2_balance_7 rfl ?_
  refine g_iadd C dX2_balance_8 rfl ?_
  exact g_iret C M dX2_balance_9 rfl rfl
set_option maxRecDepth 20000 in
set_option maxHeartbeats 4000000 in
theorem tX2_balance (l : Launch) (E : EE) {k0 : Nat} (hk0 : kd k0 = 5) (u : Mm) : Ct l E yX2_balance cX2_balance 1 (some .int) 0 [.ref (E.1 k0)] u (cvP u) (gX2_balance k0 u) :=
  Ct_of (own := RX2) (by decide +kernel) rfl (Nat.le_of_ble_eq_true rfl) (fun p e R s m args below meth c C M => g_sub (ls' := [(0, .ref (E.1 k0))]) [0] rfl (pX2_balance_0 C M rfl hk0 u))
set_option maxRecDepth 20000 in
set_option maxHeartbeats 4000000 in
theorem pX2_climb_0 {Γ : GX} (C : Cx Γ RX2 cX2_climb 1) (M : Mx Γ (some .int)) (L : xn Γ = 1) {k0 : Nat} (hk0 : kd k0 = 5) (u : Mm) : Gp Γ (QM Γ (cvP u)) 0 [(0, .ref ((xE Γ).1 k0))] [] u (gX2_climb_b k0 u) := by
  unfold gX2_climb_b
  refine g_aload_n C dX2_climb_0 rfl 0 rfl ?_
  refine g_getI C dX2_climb_1 rfl hk0 fi_2_3 rfl fl_X2_15 ?_
  refine g_aload_n C dX2_climb_4 rfl 0 rfl ?_
  refine g_callP [] C dX2_climb_5 rfl (tX2_balance (xl Γ) (xE Γ) hk0 u) cf_X2_balance hk0 rfl ml_X2_49 rfl (by decide) (Nat.le_of_ble_eq_true rfl) rfl (fun r1 => ?_)
  refine g_isub C dX2_climb_8 rfl ?_
  refine g_iconst (v := 4) C dX2_climb_9 rfl (by decide) ?_
  refine g_idiv C dX2_climb_10 rfl (by decide) ?_
  exact g_iret C M dX2_climb_11 rfl rfl
set_option maxRecDepth 20000 in
set_option maxHeartbeats 4000000 in
theorem tX2_climb (l : Launch) (E : EE) {k0 : Nat} (hk0 : kd k0 = 5) (u : Mm) : Ct l E yX2_climb cX2_climb 1 (some .int) 1 [.ref (E.1 k0)] u (cvP u) (gX2_climb k0 u) :=
  Ct_of (own := RX2) (by decide +kernel) rfl (Nat.le_of_ble_eq_true rfl) (fun p e R s m args below meth c C M => g_sub (ls' := [(0, .ref (E.1 k0))]) [0] rfl (pX2_climb_0 C M rfl hk0 u))
set_option maxRecDepth 20000 in
set_option maxHeartbeats 4000000 in
theorem pX2_peopleWhoCanLeave_2s {Γ : GX} (C : Cx Γ RX2 cX2_peopleWhoCanLeave 1) (M : Mx Γ (some .int)) (L : xn Γ = 2) {k0 : Nat} (hk0 : kd k0 = 5) (u : Mm) {j2 : Int32 → Option Int32} (hj2 : ∀ (v1 : Int32), Gp Γ (QM Γ (cvP u)) 2 [(0, .ref ((xE Γ).1 k0)), (1, .int v1)] [] u (j2 v1)) (v1 : Int32) : Gp Γ (QM Γ (cvP u)) 2 [(0, .ref ((xE Γ).1 k0)), (1, .int v1)] [] u (gX2_peopleWhoCanLeave_2_Ls k0 u j2 v1) := by
  unfold gX2_peopleWhoCanLeave_2_Ls
  refine g_iload_n C dX2_peopleWhoCanLeave_2 rfl 1 rfl ?_
  refine g_aload_n C dX2_peopleWhoCanLeave_3 rfl 0 rfl ?_
  refine g_getI C dX2_peopleWhoCanLeave_4 rfl hk0 fi_2_5 rfl fl_X2_21 ?_
  refine g_icmp_ge 36 C dX2_peopleWhoCanLeave_7 rfl (by decide) (fun c1 => ?_) (fun c1 => ?_)
  · refine g_iload_n C dX2_peopleWhoCanLeave_36 rfl 1 rfl ?_
    exact g_iret C M dX2_peopleWhoCanLeave_37 rfl rfl
  · refine g_aload_n C dX2_peopleWhoCanLeave_10 rfl 0 rfl ?_
    refine g_getI C dX2_peopleWhoCanLeave_11 rfl hk0 fi_2_3 rfl fl_X2_15 ?_
    refine g_aload_n C dX2_peopleWhoCanLeave_14 rfl 0 rfl ?_
    refine g_callP [] C dX2_peopleWhoCanLeave_15 rfl (tX2_balance (xl Γ) (xE Γ) hk0 u) cf_X2_balance hk0 rfl ml_X2_49 rfl (by decide) (Nat.le_of_ble_eq_true rfl) rfl (fun r2 => ?_)
    refine g_isub C dX2_peopleWhoCanLeave_18 rfl ?_
    refine g_iconst (v := 2) C dX2_peopleWhoCanLeave_19 rfl (by decide) ?_
    refine g_iload_n C dX2_peopleWhoCanLeave_20 rfl 1 rfl ?_
    refine g_iconst (v := 1) C dX2_peopleWhoCanLeave_21 rfl (by decide) ?_
    refine g_iadd C dX2_peopleWhoCanLeave_22 rfl ?_
    refine g_imul C dX2_peopleWhoCanLeave_23 rfl ?_
    refine g_iadd C dX2_peopleWhoCanLeave_24 rfl ?_
    refine g_iconst (v := 4) C dX2_peopleWhoCanLeave_25 rfl (by decide) ?_
    refine g_idiv C dX2_peopleWhoCanLeave_26 rfl (by decide) ?_
    refine g_if_gt 36 C dX2_peopleWhoCanLeave_27 rfl (by decide) (fun c3 => ?_) (fun c3 => ?_)
    · refine g_iload_n C dX2_peopleWhoCanLeave_36 rfl 1 rfl ?_
      exact g_iret C M dX2_peopleWhoCanLeave_37 rfl rfl
    · refine g_iincL (fun v1_4 => [(1, .int v1_4), (0, .ref ((xE Γ).1 k0))]) C dX2_peopleWhoCanLeave_30 rfl L (by decide) (k := 1) rfl (iinc_1 _) (fun _ => rfl) (fun v1_4 => ?_)
      refine g_goto 2 C dX2_peopleWhoCanLeave_33 rfl (by decide) ?_
      refine g_sub (ls' := [(0, .ref ((xE Γ).1 k0)), (1, .int v1_4)]) [1, 0] rfl ?_
      exact hj2 v1_4
set_option maxRecDepth 20000 in
set_option maxHeartbeats 4000000 in
theorem pX2_peopleWhoCanLeave_2 {Γ : GX} (C : Cx Γ RX2 cX2_peopleWhoCanLeave 1) (M : Mx Γ (some .int)) (L : xn Γ = 2) {k0 : Nat} (hk0 : kd k0 = 5) (u : Mm) : ∀ (n : Nat) (v1 : Int32), Gp Γ (QM Γ (cvP u)) 2 [(0, .ref ((xE Γ).1 k0)), (1, .int v1)] [] u (gX2_peopleWhoCanLeave_2_L k0 u n v1) := by
  intro n
  induction n with
  | zero => intro _; exact g_none
  | succ n ih => intro v1; exact pX2_peopleWhoCanLeave_2s C M L hk0 u ih v1

set_option maxRecDepth 20000 in
set_option maxHeartbeats 4000000 in
theorem pX2_peopleWhoCanLeave_0 {Γ : GX} (C : Cx Γ RX2 cX2_peopleWhoCanLeave 1) (M : Mx Γ (some .int)) (L : xn Γ = 2) {k0 : Nat} (hk0 : kd k0 = 5) (u : Mm) : Gp Γ (QM Γ (cvP u)) 0 [(0, .ref ((xE Γ).1 k0))] [] u (gX2_peopleWhoCanLeave_b k0 u) := by
  unfold gX2_peopleWhoCanLeave_b
  refine g_iconst (v := 0) C dX2_peopleWhoCanLeave_0 rfl (by decide) ?_
  refine g_istore_n (ls' := [(1, .int 0), (0, .ref ((xE Γ).1 k0))]) C dX2_peopleWhoCanLeave_1 rfl L (by decide) rfl ?_
  refine g_sub (ls' := [(0, .ref ((xE Γ).1 k0)), (1, .int 0)]) [1, 0] rfl ?_
  exact pX2_peopleWhoCanLeave_2 C M L hk0 u FU 0
set_option maxRecDepth 20000 in
set_option maxHeartbeats 4000000 in
theorem tX2_peopleWhoCanLeave (l : Launch) (E : EE) {k0 : Nat} (hk0 : kd k0 = 5) (u : Mm) : Ct l E yX2_peopleWhoCanLeave cX2_peopleWhoCanLeave 2 (some .int) 1 [.ref (E.1 k0)] u (cvP u) (gX2_peopleWhoCanLeave k0 u) :=
  Ct_of (own := RX2) (by decide +kernel) rfl (Nat.le_of_ble_eq_true rfl) (fun p e R s m args below meth c C M => g_sub (ls' := [(0, .ref (E.1 k0))]) [0] rfl (pX2_peopleWhoCanLeave_0 C M rfl hk0 u))
set_option maxRecDepth 20000 in
set_option maxHeartbeats 4000000 in
theorem pX2_workOf_0 {Γ : GX} (C : Cx Γ RX2 cX2_workOf 0) (M : Mx Γ (some .int)) (L : xn Γ = 1) (u : Mm) (v0 : Int32) : Gp Γ (QM Γ (cvP u)) 0 [(0, .int v0)] [] u (gX2_workOf_b v0) := by
  unfold gX2_workOf_b
  refine g_iload_n C dX2_workOf_0 rfl 0 rfl ?_
  refine g_iconst (v := 1) C dX2_workOf_1 rfl (by decide) ?_
  refine g_icmp_ne 9 C dX2_workOf_2 rfl (by decide) (fun c1 => ?_) (fun c1 => ?_)
  · refine g_iload_n C dX2_workOf_9 rfl 0 rfl ?_
    refine g_iconst (v := 2) C dX2_workOf_10 rfl (by decide) ?_
    refine g_icmp_ne 19 C dX2_workOf_11 rfl (by decide) (fun c2 => ?_) (fun c2 => ?_)
    · refine g_iconst (v := 0) C dX2_workOf_19 rfl (by decide) ?_
      exact g_iret C M dX2_workOf_20 rfl rfl
    · refine g_bipush (v := (-5)) C dX2_workOf_14 rfl (by decide) ?_
      refine g_goto 20 C dX2_workOf_16 rfl (by decide) ?_
      exact g_iret C M dX2_workOf_20 rfl rfl
  · refine g_iconst (v := 4) C dX2_workOf_5 rfl (by decide) ?_
    refine g_goto 20 C dX2_workOf_6 rfl (by decide) ?_
    exact g_iret C M dX2_workOf_20 rfl rfl
set_option maxRecDepth 20000 in
set_option maxHeartbeats 4000000 in
theorem tX2_workOf (l : Launch) (E : EE) (v0 : Int32) (u : Mm) : Ct l E yX2_workOf cX2_workOf 1 (some .int) 0 [.int v0] u (cvP u) (gX2_workOf v0) :=
  Ct_of (own := RX2) (by decide +kernel) rfl (Nat.le_of_ble_eq_true rfl) (fun p e R s m args below meth c C M => g_sub (ls' := [(0, .int v0)]) [0] rfl (pX2_workOf_0 C M rfl u v0))
set_option maxRecDepth 20000 in
set_option maxHeartbeats 4000000 in
theorem pX10_between_0 {Γ : GX} (C : Cx Γ RX10 cX10_between 0) (M : Mx Γ (some .int)) (L : xn Γ = 3) (u : Mm) (v0 : Int32) (v1 : Int32) (v2 : Int32) : Gp Γ (QM Γ (cvP u)) 0 [(0, .int v0), (1, .int v1), (2, .int v2)] [] u (gX10_between_b v0 v1 v2) := by
  unfold gX10_between_b
  refine g_iload_n C dX10_between_0 rfl 1 rfl ?_
  refine g_iload_n C dX10_between_1 rfl 0 rfl ?_
  refine g_icmp_ge 9 C dX10_between_2 rfl (by decide) (fun c1 => ?_) (fun c1 => ?_)
  · refine g_iload_n C dX10_between_9 rfl 1 rfl ?_
    refine g_iload_n C dX10_between_10 rfl 2 rfl ?_
    refine g_icmp_le 18 C dX10_between_11 rfl (by decide) (fun c2 => ?_) (fun c2 => ?_)
    · refine g_iload_n C dX10_between_18 rfl 1 rfl ?_
      exact g_iret C M dX10_between_19 rfl rfl
    · refine g_iload_n C dX10_between_14 rfl 2 rfl ?_
      refine g_goto 19 C dX10_between_15 rfl (by decide) ?_
      exact g_iret C M dX10_between_19 rfl rfl
  · refine g_iload_n C dX10_between_5 rfl 0 rfl ?_
    refine g_goto 19 C dX10_between_6 rfl (by decide) ?_
    exact g_iret C M dX10_between_19 rfl rfl
set_option maxRecDepth 20000 in
set_option maxHeartbeats 4000000 in
theorem tX10_between (l : Launch) (E : EE) (v0 : Int32) (v1 : Int32) (v2 : Int32) (u : Mm) : Ct l E yX10_between cX10_between 3 (some .int) 0 [.int v0, .int v1, .int v2] u (cvP u) (gX10_between v0 v1 v2) :=
  Ct_of (own := RX10) (by decide +kernel) rfl (Nat.le_of_ble_eq_true rfl) (fun p e R s m args below meth c C M => g_sub (ls' := [(0, .int v0), (1, .int v1), (2, .int v2)]) [0, 1, 2] rfl (pX10_between_0 C M rfl u v0 v1 v2))
set_option maxRecDepth 20000 in
set_option maxHeartbeats 4000000 in
theorem pX2_fly_181 {Γ : GX} (C : Cx Γ RX2 cX2_fly 2) (M : Mx Γ none) (L : xn Γ = 7) {k0 : Nat} (hk0 : kd k0 = 5) {k2 : Nat} (hk2 : kd k2 = 3) (u : Mm) : Gp Γ (QM Γ cvV) 181 [(0, .ref ((xE Γ).1 k0))] [] u (gX2_fly_181 k0 k2 u) := by
  unfold gX2_fly_181
  refine g_aload_n C dX2_fly_181 rfl 0 rfl ?_
  refine g_dup C dX2_fly_182 rfl rfl ?_
  refine g_getI C dX2_fly_183 rfl hk0 fi_2_7 rfl fl_X2_33 ?_
  refine g_iconst (v := 1) C dX2_fly_186 rfl (by decide) ?_
  refine g_iadd C dX2_fly_187 rfl ?_
  refine g_putI C dX2_fly_188 rfl hk0 fp_2_7 rfl fl_X2_33 ?_
  refine g_letm (fun u1 => ?_)
  exact g_vret C M dX2_fly_191 rfl rfl
set_option maxRecDepth 20000 in
set_option maxHeartbeats 4000000 in
theorem pX2_fly_119 {Γ : GX} (C : Cx Γ RX2 cX2_fly 2) (M : Mx Γ none) (L : xn Γ = 7) {k0 : Nat} (hk0 : kd k0 = 5) {k2 : Nat} (hk2 : kd k2 = 3) (s0 : Int32) (u : Mm) : Gp Γ (QM Γ cvV) 119 [(0, .ref ((xE Γ).1 k0)), (2, .ref ((xE Γ).1 k2))] [.int s0, .ref ((xE Γ).1 k0)] u (gX2_fly_119 k0 k2 s0 u) := by
  unfold gX2_fly_119
  refine g_putI C dX2_fly_119 rfl hk0 fp_2_8 rfl fl_X2_36 ?_
  refine g_letm (fun u1 => ?_)
  refine g_aload_n C dX2_fly_122 rfl 0 rfl ?_
  refine g_getI C dX2_fly_123 rfl hk0 fi_2_0 rfl fl_X2_27 ?_
  refine g_if_le 181 C dX2_fly_126 rfl (by decide) (fun c2 => ?_) (fun c2 => ?_)
  · refine g_sub (ls' := [(0, .ref ((xE Γ).1 k0))]) [0] rfl ?_
    exact pX2_fly_181 C M L hk0 hk2 u1
  · refine g_aload_n C dX2_fly_129 rfl 0 rfl ?_
    refine g_getI C dX2_fly_130 rfl hk0 fi_2_0 rfl fl_X2_27 ?_
    refine g_iconst (v := 5) C dX2_fly_133 rfl (by decide) ?_
    refine g_idiv C dX2_fly_134 rfl (by decide) ?_
    refine g_lets (fun v6_3 => ?_)
    refine g_istore (ls' := [(6, .int v6_3), (0, .ref ((xE Γ).1 k0)), (2, .ref ((xE Γ).1 k2))]) C dX2_fly_135 rfl L (by decide) rfl ?_
    refine g_aload_n C dX2_fly_137 rfl 1 rfl ?_
    refine g_iconst (v := 0) C dX2_fly_138 rfl (by decide) ?_
    refine g_aload_n C dX2_fly_139 rfl 1 rfl ?_
    refine g_getI C dX2_fly_140 rfl hk0 fi_2_1 rfl fl_X2_9 ?_
    refine g_aload_n C dX2_fly_143 rfl 2 rfl ?_
    refine g_iload C dX2_fly_144 rfl 0 rfl ?_
    refine g_callP [.int v6_3] C dX2_fly_146 rfl (tX0_sideOf (xl Γ) (xE Γ) hk2 v6_3 u1) cf_X0_sideOf hk2 rfl ml_X2_64 rfl (by decide) (Nat.le_of_ble_eq_true rfl) rfl (fun r4 => ?_)
    refine g_iadd C dX2_fly_149 rfl ?_
    refine g_sipush (v := 999) C dX2_fly_150 rfl (by decide) ?_
    refine g_callnP [.int 0, .int ((u1 k0 1) + r4), .int 999] C dX2_fly_153 rfl (tX10_between (xl Γ) (xE Γ) 0 ((u1 k0 1) + r4) 999 u1) cf_X10_between (List.mem_of_getElem? (i := 1) rfl) rfl (by decide) (Nat.le_of_ble_eq_true rfl) rfl (fun r5 => ?_)
    refine g_putI C dX2_fly_156 rfl hk0 fp_2_1 rfl fl_X2_9 ?_
    refine g_letm (fun u6 => ?_)
    refine g_aload_n C dX2_fly_159 rfl 1 rfl ?_
    refine g_iconst (v := 0) C dX2_fly_160 rfl (by decide) ?_
    refine g_aload_n C dX2_fly_161 rfl 1 rfl ?_
    refine g_getI C dX2_fly_162 rfl hk0 fi_2_2 rfl fl_X2_30 ?_
    refine g_aload_n C dX2_fly_165 rfl 2 rfl ?_
    refine g_iload C dX2_fly_166 rfl 0 rfl ?_
    refine g_callP [.int v6_3] C dX2_fly_168 rfl (tX0_aheadOf (xl Γ) (xE Γ) hk2 v6_3 u6) cf_X0_aheadOf hk2 rfl ml_X2_69 rfl (by decide) (Nat.le_of_ble_eq_true rfl) rfl (fun r7 => ?_)
    refine g_iadd C dX2_fly_171 rfl ?_
    refine g_sipush (v := 999) C dX2_fly_172 rfl (by decide) ?_
    refine g_callnP [.int 0, .int ((u6 k0 2) + r7), .int 999] C dX2_fly_175 rfl (tX10_between (xl Γ) (xE Γ) 0 ((u6 k0 2) + r7) 999 u6) cf_X10_between (List.mem_of_getElem? (i := 1) rfl) rfl (by decide) (Nat.le_of_ble_eq_true rfl) rfl (fun r8 => ?_)
    refine g_putI C dX2_fly_178 rfl hk0 fp_2_2 rfl fl_X2_30 ?_
    refine g_letm (fun u9 => ?_)
    refine g_sub (ls' := [(0, .ref ((xE Γ).1 k0))]) [1] rfl ?_
    exact pX2_fly_181 C M L hk0 hk2 u9
set_option maxRecDepth 20000 in
set_option maxHeartbeats 4000000 in
theorem pX2_fly_118 {Γ : GX} (C : Cx Γ RX2 cX2_fly 2) (M : Mx Γ none) (L : xn Γ = 7) {k0 : Nat} (hk0 : kd k0 = 5) {k2 : Nat} (hk2 : kd k2 = 3) (u : Mm) : Gp Γ (QM Γ cvV) 118 [(0, .ref ((xE Γ).1 k0)), (2, .ref ((xE Γ).1 k2))] [.ref ((xE Γ).1 k0)] u (gX2_fly_118 k0 k2 u) := by
  unfold gX2_fly_118
  refine g_iconst (v := 0) C dX2_fly_118 rfl (by decide) ?_
  exact pX2_fly_119 C M L hk0 hk2 0 u
set_option maxRecDepth 20000 in
set_option maxHeartbeats 4000000 in
theorem pX2_fly_15 {Γ : GX} (C : Cx Γ RX2 cX2_fly 2) (M : Mx Γ none) (L : xn Γ = 7) {k0 : Nat} (hk0 : kd k0 = 5) {k2 : Nat} (hk2 : kd k2 = 3) (v1 : Int32) (u : Mm) : Gp Γ (QM Γ cvV) 15 [(0, .ref ((xE Γ).1 k0)), (1, .int v1), (2, .ref ((xE Γ).1 k2))] [] u (gX2_fly_15 k0 k2 v1 u) := by
  unfold gX2_fly_15
  refine g_aload_n C dX2_fly_15 rfl 0 rfl ?_
  refine g_dup C dX2_fly_16 rfl rfl ?_
  refine g_getI C dX2_fly_17 rfl hk0 fi_2_9 rfl fl_X2_39 ?_
  refine g_iload_n C dX2_fly_20 rfl 1 rfl ?_
  refine g_iconst (v := 2) C dX2_fly_21 rfl (by decide) ?_
  refine g_aload_n C dX2_fly_22 rfl 0 rfl ?_
  refine g_getI C dX2_fly_23 rfl hk0 fi_2_6 rfl fl_X2_24 ?_
  refine g_imul C dX2_fly_26 rfl ?_
  refine g_ishl C dX2_fly_27 rfl ?_
  refine g_ior C dX2_fly_28 rfl ?_
  refine g_putI C dX2_fly_29 rfl hk0 fp_2_9 rfl fl_X2_39 ?_
  refine g_letm (fun u1 => ?_)
  refine g_aload_n C dX2_fly_32 rfl 0 rfl ?_
  refine g_getI C dX2_fly_33 rfl hk0 fi_2_9 rfl fl_X2_39 ?_
  refine g_iconst (v := 3) C dX2_fly_36 rfl (by decide) ?_
  refine g_iand C dX2_fly_37 rfl ?_
  refine g_callsP [.int ((u1 k0 9) &&& 3)] C dX2_fly_38 rfl (tX2_workOf (xl Γ) (xE Γ) ((u1 k0 9) &&& 3) u1) cf_X2_workOf ml_X2_53 rfl (by decide) (Nat.le_of_ble_eq_true rfl) rfl (fun r2 => ?_)
  refine g_istore_n (ls' := [(3, .int r2), (0, .ref ((xE Γ).1 k0)), (1, .int v1), (2, .ref ((xE Γ).1 k2))]) C dX2_fly_41 rfl L (by decide) rfl ?_
  refine g_aload_n C dX2_fly_42 rfl 1 rfl ?_
  refine g_dup C dX2_fly_43 rfl rfl ?_
  refine g_getI C dX2_fly_44 rfl hk0 fi_2_9 rfl fl_X2_39 ?_
  refine g_iconst (v := 2) C dX2_fly_47 rfl (by decide) ?_
  refine g_ishr C dX2_fly_48 rfl ?_
  refine g_putI C dX2_fly_49 rfl hk0 fp_2_9 rfl fl_X2_39 ?_
  refine g_letm (fun u3 => ?_)
  refine g_aload_n C dX2_fly_52 rfl 1 rfl ?_
  refine g_iconst (v := 0) C dX2_fly_53 rfl (by decide) ?_
  refine g_aload_n C dX2_fly_54 rfl 1 rfl ?_
  refine g_getI C dX2_fly_55 rfl hk0 fi_2_3 rfl fl_X2_15 ?_
  refine g_iconst (v := 1) C dX2_fly_58 rfl (by decide) ?_
  refine g_isub C dX2_fly_59 rfl ?_
  refine g_iload_n C dX2_fly_60 rfl 0 rfl ?_
  refine g_iadd C dX2_fly_61 rfl ?_
  refine g_bipush (v := 60) C dX2_fly_62 rfl (by decide) ?_
  refine g_callnP [.int 0, .int (((u3 k0 3) - 1) + r2), .int 60] C dX2_fly_64 rfl (tX10_between (xl Γ) (xE Γ) 0 (((u3 k0 3) - 1) + r2) 60 u3) cf_X10_between (List.mem_of_getElem? (i := 1) rfl) rfl (by decide) (Nat.le_of_ble_eq_true rfl) rfl (fun r4 => ?_)
  refine g_putI C dX2_fly_67 rfl hk0 fp_2_3 rfl fl_X2_15 ?_
  refine g_letm (fun u5 => ?_)
  refine g_aload_n C dX2_fly_70 rfl 1 rfl ?_
  refine g_getI C dX2_fly_71 rfl hk0 fi_2_0 rfl fl_X2_27 ?_
  refine g_lets (fun v4_6 => ?_)
  refine g_istore (ls' := [(4, .int v4_6), (3, .int r2), (0, .ref ((xE Γ).1 k0)), (1, .int v1), (2, .ref ((xE Γ).1 k2))]) C dX2_fly_74 rfl L (by decide) rfl ?_
  refine g_aload_n C dX2_fly_76 rfl 2 rfl ?_
  refine g_callP [] C dX2_fly_77 rfl (tX2_climb (xl Γ) (xE Γ) hk0 u5) cf_X2_climb hk0 rfl ml_X2_61 rfl (by decide) (Nat.le_of_ble_eq_true rfl) rfl (fun r7 => ?_)
  refine g_istore (ls' := [(5, .int r7), (4, .int v4_6), (3, .int r2), (0, .ref ((xE Γ).1 k0)), (1, .int v1), (2, .ref ((xE Γ).1 k2))]) C dX2_fly_80 rfl L (by decide) rfl ?_
  refine g_aload_n C dX2_fly_82 rfl 3 rfl ?_
  refine g_iconst (v := 0) C dX2_fly_83 rfl (by decide) ?_
  refine g_aload_n C dX2_fly_84 rfl 3 rfl ?_
  refine g_getI C dX2_fly_85 rfl hk0 fi_2_0 rfl fl_X2_27 ?_
  refine g_iload C dX2_fly_88 rfl 0 rfl ?_
  refine g_iadd C dX2_fly_90 rfl ?_
  refine g_bipush (v := 39) C dX2_fly_91 rfl (by decide) ?_
  refine g_callnP [.int 0, .int ((u5 k0 0) + r7), .int 39] C dX2_fly_93 rfl (tX10_between (xl Γ) (xE Γ) 0 ((u5 k0 0) + r7) 39 u5) cf_X10_between (List.mem_of_getElem? (i := 1) rfl) rfl (by decide) (Nat.le_of_ble_eq_true rfl) rfl (fun r8 => ?_)
  refine g_putI C dX2_fly_96 rfl hk0 fp_2_0 rfl fl_X2_27 ?_
  refine g_letm (fun u9 => ?_)
  refine g_aload_n C dX2_fly_99 rfl 3 rfl ?_
  refine g_iload C dX2_fly_100 rfl 1 rfl ?_
  refine g_if_le 118 C dX2_fly_102 rfl (by decide) (fun c10 => ?_) (fun c10 => ?_)
  · refine g_sub (ls' := [(0, .ref ((xE Γ).1 k0)), (2, .ref ((xE Γ).1 k2))]) [3, 5] rfl ?_
    exact pX2_fly_118 C M L hk0 hk2 u9
  · refine g_aload_n C dX2_fly_105 rfl 3 rfl ?_
    refine g_getI C dX2_fly_106 rfl hk0 fi_2_0 rfl fl_X2_27 ?_
    refine g_if_ne 118 C dX2_fly_109 rfl (by decide) (fun c11 => ?_) (fun c11 => ?_)
    · refine g_sub (ls' := [(0, .ref ((xE Γ).1 k0)), (2, .ref ((xE Γ).1 k2))]) [3, 5] rfl ?_
      exact pX2_fly_118 C M L hk0 hk2 u9
    · refine g_iload C dX2_fly_112 rfl 0 rfl ?_
      refine g_ineg C dX2_fly_114 rfl ?_
      refine g_goto 119 C dX2_fly_115 rfl (by decide) ?_
      refine g_sub (ls' := [(0, .ref ((xE Γ).1 k0)), (2, .ref ((xE Γ).1 k2))]) [3, 5] rfl ?_
      exact pX2_fly_119 C M L hk0 hk2 (-r7) u9
set_option maxRecDepth 20000 in
set_option maxHeartbeats 4000000 in
theorem pX2_fly_0 {Γ : GX} (C : Cx Γ RX2 cX2_fly 2) (M : Mx Γ none) (L : xn Γ = 7) {k0 : Nat} (hk0 : kd k0 = 5) {k2 : Nat} (hk2 : kd k2 = 3) (v1 : Int32) (u : Mm) : Gp Γ (QM Γ cvV) 0 [(0, .ref ((xE Γ).1 k0)), (1, .int v1), (2, .ref ((xE Γ).1 k2))] [] u (gX2_fly_b k0 k2 v1 u) := by
  unfold gX2_fly_b
  refine g_iload_n C dX2_fly_0 rfl 1 rfl ?_
  refine g_iconst (v := 1) C dX2_fly_1 rfl (by decide) ?_
  refine g_icmp_ne 15 C dX2_fly_2 rfl (by decide) (fun c1 => ?_) (fun c1 => ?_)
  · exact pX2_fly_15 C M L hk0 hk2 v1 u
  · refine g_aload_n C dX2_fly_5 rfl 0 rfl ?_
    refine g_dup C dX2_fly_6 rfl rfl ?_
    refine g_getI C dX2_fly_7 rfl hk0 fi_2_4 rfl fl_X2_18 ?_
    refine g_iconst (v := 1) C dX2_fly_10 rfl (by decide) ?_
    refine g_isub C dX2_fly_11 rfl ?_
    refine g_putI C dX2_fly_12 rfl hk0 fp_2_4 rfl fl_X2_18 ?_
    refine g_letm (fun u2 => ?_)
    exact pX2_fly_15 C M L hk0 hk2 v1 u2
set_option maxRecDepth 20000 in
set_option maxHeartbeats 4000000 in
theorem tX2_fly (l : Launch) (E : EE) {k0 : Nat} (hk0 : kd k0 = 5) (v1 : Int32) {k2 : Nat} (hk2 : kd k2 = 3) (u : Mm) : Ct l E yX2_fly cX2_fly 7 none 2 [.ref (E.1 k0), .int v1, .ref (E.1 k2)] u cvV (gX2_fly k0 v1 k2 u) :=
  Ct_of (own := RX2) (by decide +kernel) rfl (Nat.le_of_ble_eq_true rfl) (fun p e R s m args below meth c C M => g_sub (ls' := [(0, .ref (E.1 k0)), (1, .int v1), (2, .ref (E.1 k2))]) [0, 1, 2] rfl (pX2_fly_0 C M rfl hk0 hk2 v1 u))
set_option maxRecDepth 20000 in
set_option maxHeartbeats 4000000 in
theorem pX2_able_0 {Γ : GX} (C : Cx Γ RX2 cX2_able 0) (M : Mx Γ (some .int)) (L : xn Γ = 2) {k0 : Nat} (hk0 : kd k0 = 5) (u : Mm) (v1 : Int32) : Gp Γ (QM Γ (cvP u)) 0 [(0, .ref ((xE Γ).1 k0)), (1, .int v1)] [] u (gX2_able_b k0 v1 u) := by
  unfold gX2_able_b
  refine g_iload_n C dX2_able_0 rfl 1 rfl ?_
  refine g_iconst (v := 1) C dX2_able_1 rfl (by decide) ?_
  refine g_icmp_ne 16 C dX2_able_2 rfl (by decide) (fun c1 => ?_) (fun c1 => ?_)
  · refine g_iload_n C dX2_able_16 rfl 1 rfl ?_
    exact g_iret C M dX2_able_17 rfl rfl
  · refine g_aload_n C dX2_able_5 rfl 0 rfl ?_
    refine g_getI C dX2_able_6 rfl hk0 fi_2_4 rfl fl_X2_18 ?_
    refine g_if_gt 16 C dX2_able_9 rfl (by decide) (fun c2 => ?_) (fun c2 => ?_)
    · refine g_iload_n C dX2_able_16 rfl 1 rfl ?_
      exact g_iret C M dX2_able_17 rfl rfl
    · refine g_iconst (v := 0) C dX2_able_12 rfl (by decide) ?_
      refine g_goto 17 C dX2_able_13 rfl (by decide) ?_
      exact g_iret C M dX2_able_17 rfl rfl
set_option maxRecDepth 20000 in
set_option maxHeartbeats 4000000 in
theorem tX2_able (l : Launch) (E : EE) {k0 : Nat} (hk0 : kd k0 = 5) (v1 : Int32) (u : Mm) : Ct l E yX2_able cX2_able 2 (some .int) 0 [.ref (E.1 k0), .int v1] u (cvP u) (gX2_able k0 v1 u) :=
  Ct_of (own := RX2) (by decide +kernel) rfl (Nat.le_of_ble_eq_true rfl) (fun p e R s m args below meth c C M => g_sub (ls' := [(0, .ref (E.1 k0)), (1, .int v1)]) [0, 1] rfl (pX2_able_0 C M rfl hk0 u v1))
set_option maxRecDepth 20000 in
set_option maxHeartbeats 4000000 in
theorem pX2_holdAct_53 {Γ : GX} (C : Cx Γ RX2 cX2_holdAct 1) (M : Mx Γ (some .int)) (L : xn Γ = 3) {k0 : Nat} (hk0 : kd k0 = 5) (u : Mm) (s0 : Int32) : Gp Γ (QM Γ (cvP u)) 53 [] [.int s0, .ref ((xE Γ).1 k0)] u (gX2_holdAct_53 k0 s0 u) := by
  unfold gX2_holdAct_53
  refine g_callP [.int s0] C dX2_holdAct_53 rfl (tX2_able (xl Γ) (xE Γ) hk0 s0 u) cf_X2_able hk0 rfl ml_X2_72 rfl (by decide) (Nat.le_of_ble_eq_true rfl) rfl (fun r1 => ?_)
  exact g_iret C M dX2_holdAct_56 rfl rfl
set_option maxRecDepth 20000 in
set_option maxHeartbeats 4000000 in
theorem pX2_holdAct_4s {Γ : GX} (C : Cx Γ RX2 cX2_holdAct 1) (M : Mx Γ (some .int)) (L : xn Γ = 3) {k0 : Nat} (hk0 : kd k0 = 5) (u : Mm) {j4 : Int32 → Int32 → Option Int32} (hj4 : ∀ (v1 : Int32) (v2 : Int32), Gp Γ (QM Γ (cvP u)) 4 [(0, .ref ((xE Γ).1 k0)), (1, .int v1), (2, .int v2)] [] u (j4 v1 v2)) (v1 : Int32) (v2 : Int32) : Gp Γ (QM Γ (cvP u)) 4 [(0, .ref ((xE Γ).1 k0)), (1, .int v1), (2, .int v2)] [] u (gX2_holdAct_4_Ls k0 u j4 v1 v2) := by
  unfold gX2_holdAct_4_Ls
  refine g_iload_n C dX2_holdAct_4 rfl 2 rfl ?_
  refine g_aload_n C dX2_holdAct_5 rfl 0 rfl ?_
  refine g_getI C dX2_holdAct_6 rfl hk0 fi_2_6 rfl fl_X2_24 ?_
  refine g_icmp_ge 34 C dX2_holdAct_9 rfl (by decide) (fun c1 => ?_) (fun c1 => ?_)
  · refine g_aload_n C dX2_holdAct_34 rfl 0 rfl ?_
    refine g_aload_n C dX2_holdAct_35 rfl 0 rfl ?_
    refine g_getI C dX2_holdAct_36 rfl hk0 fi_2_3 rfl fl_X2_15 ?_
    refine g_iload_n C dX2_holdAct_39 rfl 1 rfl ?_
    refine g_iadd C dX2_holdAct_40 rfl ?_
    refine g_aload_n C dX2_holdAct_41 rfl 0 rfl ?_
    refine g_callP [] C dX2_holdAct_42 rfl (tX2_balance (xl Γ) (xE Γ) hk0 u) cf_X2_balance hk0 rfl ml_X2_49 rfl (by decide) (Nat.le_of_ble_eq_true rfl) rfl (fun r2 => ?_)
    refine g_icmp_ge 52 C dX2_holdAct_45 rfl (by decide) (fun c3 => ?_) (fun c3 => ?_)
    · refine g_iconst (v := 0) C dX2_holdAct_52 rfl (by decide) ?_
      refine g_sub (ls' := []) [] rfl ?_
      exact pX2_holdAct_53 C M L hk0 u 0
    · refine g_iconst (v := 1) C dX2_holdAct_48 rfl (by decide) ?_
      refine g_goto 53 C dX2_holdAct_49 rfl (by decide) ?_
      refine g_sub (ls' := []) [] rfl ?_
      exact pX2_holdAct_53 C M L hk0 u 1
  · refine g_iload_n C dX2_holdAct_12 rfl 1 rfl ?_
    refine g_aload_n C dX2_holdAct_13 rfl 0 rfl ?_
    refine g_getI C dX2_holdAct_14 rfl hk0 fi_2_9 rfl fl_X2_39 ?_
    refine g_iconst (v := 2) C dX2_holdAct_17 rfl (by decide) ?_
    refine g_iload_n C dX2_holdAct_18 rfl 2 rfl ?_
    refine g_imul C dX2_holdAct_19 rfl ?_
    refine g_ishr C dX2_holdAct_20 rfl ?_
    refine g_iconst (v := 3) C dX2_holdAct_21 rfl (by decide) ?_
    refine g_iand C dX2_holdAct_22 rfl ?_
    refine g_callsP [.int ((shr (u k0 9) (2 * v2)) &&& 3)] C dX2_holdAct_23 rfl (tX2_workOf (xl Γ) (xE Γ) ((shr (u k0 9) (2 * v2)) &&& 3) u) cf_X2_workOf ml_X2_53 rfl (by decide) (Nat.le_of_ble_eq_true rfl) rfl (fun r4 => ?_)
    refine g_iadd C dX2_holdAct_26 rfl ?_
    refine g_lets (fun v1_5 => ?_)
    refine g_istore_n (ls' := [(1, .int v1_5), (0, .ref ((xE Γ).1 k0)), (2, .int v2)]) C dX2_holdAct_27 rfl L (by decide) rfl ?_
    refine g_iincL (fun v2_6 => [(2, .int v2_6), (1, .int v1_5), (0, .ref ((xE Γ).1 k0))]) C dX2_holdAct_28 rfl L (by decide) (k := 2) rfl (iinc_1 _) (fun _ => rfl) (fun v2_6 => ?_)
    refine g_goto 4 C dX2_holdAct_31 rfl (by decide) ?_
    refine g_sub (ls' := [(0, .ref ((xE Γ).1 k0)), (1, .int v1_5), (2, .int v2_6)]) [2, 1, 0] rfl ?_
    exact hj4 v1_5 v2_6
set_option maxRecDepth 20000 in
set_option maxHeartbeats 4000000 in
theorem pX2_holdAct_4 {Γ : GX} (C : Cx Γ RX2 cX2_holdAct 1) (M : Mx Γ (some .int)) (L : xn Γ = 3) {k0 : Nat} (hk0 : kd k0 = 5) (u : Mm) : ∀ (n : Nat) (v1 : Int32) (v2 : Int32), Gp Γ (QM Γ (cvP u)) 4 [(0, .ref ((xE Γ).1 k0)), (1, .int v1), (2, .int v2)] [] u (gX2_holdAct_4_L k0 u n v1 v2) := by
  intro n
  induction n with
  | zero => intro _ _; exact g_none
  | succ n ih => intro v1 v2; exact pX2_holdAct_4s C M L hk0 u ih v1 v2

set_option maxRecDepth 20000 in
set_option maxHeartbeats 4000000 in
theorem pX2_holdAct_0 {Γ : GX} (C : Cx Γ RX2 cX2_holdAct 1) (M : Mx Γ (some .int)) (L : xn Γ = 3) {k0 : Nat} (hk0 : kd k0 = 5) (u : Mm) : Gp Γ (QM Γ (cvP u)) 0 [(0, .ref ((xE Γ).1 k0))] [] u (gX2_holdAct_b k0 u) := by
  unfold gX2_holdAct_b
  refine g_iconst (v := 0) C dX2_holdAct_0 rfl (by decide) ?_
  refine g_istore_n (ls' := [(1, .int 0), (0, .ref ((xE Γ).1 k0))]) C dX2_holdAct_1 rfl L (by decide) rfl ?_
  refine g_iconst (v := 0) C dX2_holdAct_2 rfl (by decide) ?_
  refine g_istore_n (ls' := [(2, .int 0), (1, .int 0), (0, .ref ((xE Γ).1 k0))]) C dX2_holdAct_3 rfl L (by decide) rfl ?_
  refine g_sub (ls' := [(0, .ref ((xE Γ).1 k0)), (1, .int 0), (2, .int 0)]) [2, 1, 0] rfl ?_
  exact pX2_holdAct_4 C M L hk0 u FU 0 0
set_option maxRecDepth 20000 in
set_option maxHeartbeats 4000000 in
theorem tX2_holdAct (l : Launch) (E : EE) {k0 : Nat} (hk0 : kd k0 = 5) (u : Mm) : Ct l E yX2_holdAct cX2_holdAct 3 (some .int) 1 [.ref (E.1 k0)] u (cvP u) (gX2_holdAct k0 u) :=
  Ct_of (own := RX2) (by decide +kernel) rfl (Nat.le_of_ble_eq_true rfl) (fun p e R s m args below meth c C M => g_sub (ls' := [(0, .ref (E.1 k0))]) [0] rfl (pX2_holdAct_0 C M rfl hk0 u))
set_option maxRecDepth 20000 in
set_option maxHeartbeats 4000000 in
theorem pX2_feltAct_0 {Γ : GX} (C : Cx Γ RX2 cX2_feltAct 2) (M : Mx Γ (some .int)) (L : xn Γ = 2) {k0 : Nat} (hk0 : kd k0 = 5) (u : Mm) : Gp Γ (QM Γ (cvP u)) 0 [(0, .ref ((xE Γ).1 k0))] [] u (gX2_feltAct_b k0 u) := by
  unfold gX2_feltAct_b
  refine g_aload_n C dX2_feltAct_0 rfl 0 rfl ?_
  refine g_callP [] C dX2_feltAct_1 rfl (tX2_climb (xl Γ) (xE Γ) hk0 u) cf_X2_climb hk0 rfl ml_X2_61 rfl (by decide) (Nat.le_of_ble_eq_true rfl) rfl (fun r1 => ?_)
  refine g_istore_n (ls' := [(1, .int r1), (0, .ref ((xE Γ).1 k0))]) C dX2_feltAct_4 rfl L (by decide) rfl ?_
  refine g_iload_n C dX2_feltAct_5 rfl 0 rfl ?_
  refine g_if_ge 17 C dX2_feltAct_6 rfl (by decide) (fun c2 => ?_) (fun c2 => ?_)
  · refine g_iload_n C dX2_feltAct_17 rfl 0 rfl ?_
    refine g_if_le 25 C dX2_feltAct_18 rfl (by decide) (fun c3 => ?_) (fun c3 => ?_)
    · refine g_iconst (v := 0) C dX2_feltAct_25 rfl (by decide) ?_
      exact g_iret C M dX2_feltAct_26 rfl rfl
    · refine g_iconst (v := 2) C dX2_feltAct_21 rfl (by decide) ?_
      refine g_goto 26 C dX2_feltAct_22 rfl (by decide) ?_
      exact g_iret C M dX2_feltAct_26 rfl rfl
  · refine g_aload_n C dX2_feltAct_9 rfl 1 rfl ?_
    refine g_iconst (v := 1) C dX2_feltAct_10 rfl (by decide) ?_
    refine g_callP [.int 1] C dX2_feltAct_11 rfl (tX2_able (xl Γ) (xE Γ) hk0 1 u) cf_X2_able hk0 rfl ml_X2_72 rfl (by decide) (Nat.le_of_ble_eq_true rfl) rfl (fun r4 => ?_)
    refine g_goto 26 C dX2_feltAct_14 rfl (by decide) ?_
    exact g_iret C M dX2_feltAct_26 rfl rfl
set_option maxRecDepth 20000 in
set_option maxHeartbeats 4000000 in
theorem tX2_feltAct (l : Launch) (E : EE) {k0 : Nat} (hk0 : kd k0 = 5) (u : Mm) : Ct l E yX2_feltAct cX2_feltAct 2 (some .int) 2 [.ref (E.1 k0)] u (cvP u) (gX2_feltAct k0 u) :=
  Ct_of (own := RX2) (by decide +kernel) rfl (Nat.le_of_ble_eq_true rfl) (fun p e R s m args below meth c C M => g_sub (ls' := [(0, .ref (E.1 k0))]) [0] rfl (pX2_feltAct_0 C M rfl hk0 u))
set_option maxRecDepth 20000 in
set_option maxHeartbeats 4000000 in
theorem pX3_rewind_0 {Γ : GX} (C : Cx Γ RX3 cX3_rewind 1) (M : Mx Γ none) (L : xn Γ = 1) (u : Mm) : Gp Γ (QM Γ cvV) 0 [(0, .ref ((xE Γ).1 57))] [] u (gX3_rewind_b u) := by
  unfold gX3_rewind_b
  refine g_aload_n C dX3_rewind_0 rfl 0 rfl ?_
  refine g_getR (k2 := 67) C dX3_rewind_1 rfl rfl fi_3_2 ⟨by decide, by decide, rfl⟩ fl_X3_28 ?_
  refine g_iconst (v := 0) C dX3_rewind_4 rfl (by decide) ?_
  refine g_putI C dX3_rewind_5 rfl rfl fp_2_8 rfl fl_X3_62 ?_
  refine g_letm (fun u1 => ?_)
  refine g_aload_n C dX3_rewind_8 rfl 0 rfl ?_
  refine g_getR (k2 := 68) C dX3_rewind_9 rfl rfl fi_3_3 ⟨by decide, by decide, rfl⟩ fl_X3_32 ?_
  refine g_aload_n C dX3_rewind_12 rfl 0 rfl ?_
  refine g_getR (k2 := 67) C dX3_rewind_13 rfl rfl fi_3_2 ⟨by decide, by decide, rfl⟩ fl_X3_28 ?_
  refine g_callV [.ref ((xE Γ).1 67)] C dX3_rewind_16 rfl (tX2_copyFrom (xl Γ) (xE Γ) rfl rfl u1) cf_X2_copyFrom rfl rfl ml_X3_56 rfl (by decide) (Nat.le_of_ble_eq_true rfl) rfl (fun u2 => ?_)
  refine g_aload_n C dX3_rewind_19 rfl 0 rfl ?_
  refine g_iconst (v := 0) C dX3_rewind_20 rfl (by decide) ?_
  refine g_putI C dX3_rewind_21 rfl rfl fp_3_4 rfl fl_X3_66 ?_
  refine g_letm (fun u3 => ?_)
  exact g_vret C M dX3_rewind_24 rfl rfl
set_option maxRecDepth 20000 in
set_option maxHeartbeats 4000000 in
theorem tX3_rewind (l : Launch) (E : EE) (u : Mm) : Ct l E yX3_rewind cX3_rewind 1 none 1 [.ref (E.1 57)] u cvV (gX3_rewind u) :=
  Ct_of (own := RX3) (by decide +kernel) rfl (Nat.le_of_ble_eq_true rfl) (fun p e R s m args below meth c C M => g_sub (ls' := [(0, .ref (E.1 57))]) [0] rfl (pX3_rewind_0 C M rfl u))
set_option maxRecDepth 20000 in
set_option maxHeartbeats 4000000 in
theorem pX3_begin_0 {Γ : GX} (C : Cx Γ RX3 cX3_begin 2) (M : Mx Γ none) (L : xn Γ = 2) {k1 : Nat} (hk1 : kd k1 = 12) (u : Mm) : Gp Γ (QM Γ cvV) 0 [(0, .ref ((xE Γ).1 57)), (1, .ref ((xE Γ).1 k1))] [] u (gX3_begin_b k1 u) := by
  unfold gX3_begin_b
  refine g_aload_n C dX3_begin_0 rfl 0 rfl ?_
  refine g_getR (k2 := 58) C dX3_begin_1 rfl rfl fi_3_0 ⟨by decide, by decide, rfl⟩ fl_X3_12 ?_
  refine g_aload_n C dX3_begin_4 rfl 1 rfl ?_
  refine g_getR (k2 := (k1 + 1)) C dX3_begin_5 rfl hk1 fi_9_0 ⟨by decide, by decide, rfl⟩ fl_X3_42 ?_
  refine g_callV [.ref ((xE Γ).1 (k1 + 1))] C dX3_begin_8 rfl (tX0_copyFrom (xl Γ) (xE Γ) rfl (kr_9_0 hk1) u) cf_X0_copyFrom rfl rfl ml_X3_45 rfl (by decide) (Nat.le_of_ble_eq_true rfl) rfl (fun u1 => ?_)
  refine g_aload_n C dX3_begin_11 rfl 0 rfl ?_
  refine g_getR (k2 := 61) C dX3_begin_12 rfl rfl fi_3_1 ⟨by decide, by decide, rfl⟩ fl_X3_21 ?_
  refine g_aload_n C dX3_begin_15 rfl 1 rfl ?_
  refine g_getR (k2 := (k1 + 4)) C dX3_begin_16 rfl hk1 fi_9_1 ⟨by decide, by decide, rfl⟩ fl_X3_49 ?_
  refine g_callV [.ref ((xE Γ).1 (k1 + 4))] C dX3_begin_19 rfl (tX1_copyFrom (xl Γ) (xE Γ) rfl (kr_9_1 hk1) u1) cf_X1_copyFrom rfl rfl ml_X3_50 rfl (by decide) (Nat.le_of_ble_eq_true rfl) rfl (fun u2 => ?_)
  refine g_aload_n C dX3_begin_22 rfl 0 rfl ?_
  refine g_getR (k2 := 67) C dX3_begin_23 rfl rfl fi_3_2 ⟨by decide, by decide, rfl⟩ fl_X3_28 ?_
  refine g_aload_n C dX3_begin_26 rfl 1 rfl ?_
  refine g_getR (k2 := (k1 + 12)) C dX3_begin_27 rfl hk1 fi_9_3 ⟨by decide, by decide, rfl⟩ fl_X3_53 ?_
  refine g_callV [.ref ((xE Γ).1 (k1 + 12))] C dX3_begin_30 rfl (tX2_copyFrom (xl Γ) (xE Γ) rfl (kr_9_3 hk1) u2) cf_X2_copyFrom rfl rfl ml_X3_56 rfl (by decide) (Nat.le_of_ble_eq_true rfl) rfl (fun u3 => ?_)
  refine g_aload_n C dX3_begin_33 rfl 0 rfl ?_
  refine g_callV [] C dX3_begin_34 rfl (tX3_rewind (xl Γ) (xE Γ) u3) cf_X3_rewind rfl rfl ml_X3_59 rfl (by decide) (Nat.le_of_ble_eq_true rfl) rfl (fun u4 => ?_)
  exact g_vret C M dX3_begin_37 rfl rfl
set_option maxRecDepth 20000 in
set_option maxHeartbeats 4000000 in
theorem tX3_begin (l : Launch) (E : EE) {k1 : Nat} (hk1 : kd k1 = 12) (u : Mm) : Ct l E yX3_begin cX3_begin 2 none 2 [.ref (E.1 57), .ref (E.1 k1)] u cvV (gX3_begin k1 u) :=
  Ct_of (own := RX3) (by decide +kernel) rfl (Nat.le_of_ble_eq_true rfl) (fun p e R s m args below meth c C M => g_sub (ls' := [(0, .ref (E.1 57)), (1, .ref (E.1 k1))]) [0, 1] rfl (pX3_begin_0 C M rfl hk1 u))
set_option maxRecDepth 20000 in
set_option maxHeartbeats 4000000 in
theorem pX3_takePeople_0 {Γ : GX} (C : Cx Γ RX3 cX3_takePeople 2) (M : Mx Γ none) (L : xn Γ = 2) (v1 : Int32) (u : Mm) : Gp Γ (QM Γ cvV) 0 [(0, .ref ((xE Γ).1 57)), (1, .int v1)] [] u (gX3_takePeople_b v1 u) := by
  unfold gX3_takePeople_b
  refine g_aload_n C dX3_takePeople_0 rfl 0 rfl ?_
  refine g_getR (k2 := 67) C dX3_takePeople_1 rfl rfl fi_3_2 ⟨by decide, by decide, rfl⟩ fl_X3_28 ?_
  refine g_iload_n C dX3_takePeople_4 rfl 1 rfl ?_
  refine g_putI C dX3_takePeople_5 rfl rfl fp_2_5 rfl fl_X3_69 ?_
  refine g_letm (fun u1 => ?_)
  refine g_aload_n C dX3_takePeople_8 rfl 0 rfl ?_
  refine g_callV [] C dX3_takePeople_9 rfl (tX3_rewind (xl Γ) (xE Γ) u1) cf_X3_rewind rfl rfl ml_X3_59 rfl (by decide) (Nat.le_of_ble_eq_true rfl) rfl (fun u2 => ?_)
  exact g_vret C M dX3_takePeople_12 rfl rfl
set_option maxRecDepth 20000 in
set_option maxHeartbeats 4000000 in
theorem tX3_takePeople (l : Launch) (E : EE) (v1 : Int32) (u : Mm) : Ct l E yX3_takePeople cX3_takePeople 2 none 2 [.ref (E.1 57), .int v1] u cvV (gX3_takePeople v1 u) :=
  Ct_of (own := RX3) (by decide +kernel) rfl (Nat.le_of_ble_eq_true rfl) (fun p e R s m args below meth c C M => g_sub (ls' := [(0, .ref (E.1 57)), (1, .int v1)]) [0, 1] rfl (pX3_takePeople_0 C M rfl v1 u))
set_option maxRecDepth 20000 in
set_option maxHeartbeats 4000000 in
theorem pX3_takeGas_0 {Γ : GX} (C : Cx Γ RX3 cX3_takeGas 2) (M : Mx Γ none) (L : xn Γ = 2) (v1 : Int32) (u : Mm) : Gp Γ (QM Γ cvV) 0 [(0, .ref ((xE Γ).1 57)), (1, .int v1)] [] u (gX3_takeGas_b v1 u) := by
  unfold gX3_takeGas_b
  refine g_aload_n C dX3_takeGas_0 rfl 0 rfl ?_
  refine g_getR (k2 := 67) C dX3_takeGas_1 rfl rfl fi_3_2 ⟨by decide, by decide, rfl⟩ fl_X3_28 ?_
  refine g_iload_n C dX3_takeGas_4 rfl 1 rfl ?_
  refine g_putI C dX3_takeGas_5 rfl rfl fp_2_4 rfl fl_X3_72 ?_
  refine g_letm (fun u1 => ?_)
  refine g_aload_n C dX3_takeGas_8 rfl 0 rfl ?_
  refine g_callV [] C dX3_takeGas_9 rfl (tX3_rewind (xl Γ) (xE Γ) u1) cf_X3_rewind rfl rfl ml_X3_59 rfl (by decide) (Nat.le_of_ble_eq_true rfl) rfl (fun u2 => ?_)
  exact g_vret C M dX3_takeGas_12 rfl rfl
set_option maxRecDepth 20000 in
set_option maxHeartbeats 4000000 in
theorem tX3_takeGas (l : Launch) (E : EE) (v1 : Int32) (u : Mm) : Ct l E yX3_takeGas cX3_takeGas 2 none 2 [.ref (E.1 57), .int v1] u cvV (gX3_takeGas v1 u) :=
  Ct_of (own := RX3) (by decide +kernel) rfl (Nat.le_of_ble_eq_true rfl) (fun p e R s m args below meth c C M => g_sub (ls' := [(0, .ref (E.1 57)), (1, .int v1)]) [0, 1] rfl (pX3_takeGas_0 C M rfl v1 u))
set_option maxRecDepth 20000 in
set_option maxHeartbeats 4000000 in
theorem pX3_takeLag_0 {Γ : GX} (C : Cx Γ RX3 cX3_takeLag 2) (M : Mx Γ none) (L : xn Γ = 2) (v1 : Int32) (u : Mm) : Gp Γ (QM Γ cvV) 0 [(0, .ref ((xE Γ).1 57)), (1, .int v1)] [] u (gX3_takeLag_b v1 u) := by
  unfold gX3_takeLag_b
  refine g_aload_n C dX3_takeLag_0 rfl 0 rfl ?_
  refine g_getR (k2 := 67) C dX3_takeLag_1 rfl rfl fi_3_2 ⟨by decide, by decide, rfl⟩ fl_X3_28 ?_
  refine g_iload_n C dX3_takeLag_4 rfl 1 rfl ?_
  refine g_callV [.int v1] C dX3_takeLag_5 rfl (tX2_changeLag (xl Γ) (xE Γ) rfl v1 u) cf_X2_changeLag rfl rfl ml_X3_75 rfl (by decide) (Nat.le_of_ble_eq_true rfl) rfl (fun u1 => ?_)
  refine g_aload_n C dX3_takeLag_8 rfl 0 rfl ?_
  refine g_callV [] C dX3_takeLag_9 rfl (tX3_rewind (xl Γ) (xE Γ) u1) cf_X3_rewind rfl rfl ml_X3_59 rfl (by decide) (Nat.le_of_ble_eq_true rfl) rfl (fun u2 => ?_)
  exact g_vret C M dX3_takeLag_12 rfl rfl
set_option maxRecDepth 20000 in
set_option maxHeartbeats 4000000 in
theorem tX3_takeLag (l : Launch) (E : EE) (v1 : Int32) (u : Mm) : Ct l E yX3_takeLag cX3_takeLag 2 none 2 [.ref (E.1 57), .int v1] u cvV (gX3_takeLag v1 u) :=
  Ct_of (own := RX3) (by decide +kernel) rfl (Nat.le_of_ble_eq_true rfl) (fun p e R s m args below meth c C M => g_sub (ls' := [(0, .ref (E.1 57)), (1, .int v1)]) [0, 1] rfl (pX3_takeLag_0 C M rfl v1 u))
set_option maxRecDepth 20000 in
set_option maxHeartbeats 4000000 in
theorem pX3_takeSide_0 {Γ : GX} (C : Cx Γ RX3 cX3_takeSide 2) (M : Mx Γ none) (L : xn Γ = 3) (v1 : Int32) (u : Mm) : Gp Γ (QM Γ cvV) 0 [(0, .ref ((xE Γ).1 57)), (1, .int v1)] [] u (gX3_takeSide_b v1 u) := by
  unfold gX3_takeSide_b
  refine g_aload_n C dX3_takeSide_0 rfl 0 rfl ?_
  refine g_getR (k2 := 67) C dX3_takeSide_1 rfl rfl fi_3_2 ⟨by decide, by decide, rfl⟩ fl_X3_28 ?_
  refine g_getI C dX3_takeSide_4 rfl rfl fi_2_0 rfl fl_X3_79 ?_
  refine g_iconst (v := 5) C dX3_takeSide_7 rfl (by decide) ?_
  refine g_idiv C dX3_takeSide_8 rfl (by decide) ?_
  refine g_lets (fun v2_1 => ?_)
  refine g_istore_n (ls' := [(2, .int v2_1), (0, .ref ((xE Γ).1 57)), (1, .int v1)]) C dX3_takeSide_9 rfl L (by decide) rfl ?_
  refine g_aload_n C dX3_takeSide_10 rfl 1 rfl ?_
  refine g_getR (k2 := 58) C dX3_takeSide_11 rfl rfl fi_3_0 ⟨by decide, by decide, rfl⟩ fl_X3_12 ?_
  refine g_iload_n C dX3_takeSide_14 rfl 0 rfl ?_
  refine g_iload_n C dX3_takeSide_15 rfl 2 rfl ?_
  refine g_aload_n C dX3_takeSide_16 rfl 1 rfl ?_
  refine g_getR (k2 := 58) C dX3_takeSide_17 rfl rfl fi_3_0 ⟨by decide, by decide, rfl⟩ fl_X3_12 ?_
  refine g_iload_n C dX3_takeSide_20 rfl 0 rfl ?_
  refine g_callP [.int v2_1] C dX3_takeSide_21 rfl (tX0_aheadOf (xl Γ) (xE Γ) rfl v2_1 u) cf_X0_aheadOf rfl rfl ml_X3_82 rfl (by decide) (Nat.le_of_ble_eq_true rfl) rfl (fun r2 => ?_)
  refine g_callV [.int v2_1, .int v1, .int r2] C dX3_takeSide_24 rfl (tX0_blow (xl Γ) (xE Γ) rfl v2_1 v1 r2 u) cf_X0_blow rfl rfl ml_X3_86 rfl (by decide) (Nat.le_of_ble_eq_true rfl) rfl (fun u3 => ?_)
  refine g_aload_n C dX3_takeSide_27 rfl 1 rfl ?_
  refine g_callV [] C dX3_takeSide_28 rfl (tX3_rewind (xl Γ) (xE Γ) u3) cf_X3_rewind rfl rfl ml_X3_59 rfl (by decide) (Nat.le_of_ble_eq_true rfl) rfl (fun u4 => ?_)
  exact g_vret C M dX3_takeSide_31 rfl rfl
set_option maxRecDepth 20000 in
set_option maxHeartbeats 4000000 in
theorem tX3_takeSide (l : Launch) (E : EE) (v1 : Int32) (u : Mm) : Ct l E yX3_takeSide cX3_takeSide 3 none 2 [.ref (E.1 57), .int v1] u cvV (gX3_takeSide v1 u) :=
  Ct_of (own := RX3) (by decide +kernel) rfl (Nat.le_of_ble_eq_true rfl) (fun p e R s m args below meth c C M => g_sub (ls' := [(0, .ref (E.1 57)), (1, .int v1)]) [0, 1] rfl (pX3_takeSide_0 C M rfl v1 u))
set_option maxRecDepth 20000 in
set_option maxHeartbeats 4000000 in
theorem pX3_holdFirst_2s {Γ : GX} (C : Cx Γ RX3 cX3_holdFirst 3) (M : Mx Γ none) (L : xn Γ = 3) (v1 : Int32) {j2 : Int32 → Mm → Option Mm} (hj2 : ∀ (v2 : Int32) (u : Mm), Gp Γ (QM Γ cvV) 2 [(0, .ref ((xE Γ).1 57)), (1, .int v1), (2, .int v2)] [] u (j2 v2 u)) (v2 : Int32) (u : Mm) : Gp Γ (QM Γ cvV) 2 [(0, .ref ((xE Γ).1 57)), (1, .int v1), (2, .int v2)] [] u (gX3_holdFirst_2_Ls v1 j2 v2 u) := by
  unfold gX3_holdFirst_2_Ls
  refine g_iload_n C dX3_holdFirst_2 rfl 2 rfl ?_
  refine g_iload_n C dX3_holdFirst_3 rfl 1 rfl ?_
  refine g_icmp_ge 31 C dX3_holdFirst_4 rfl (by decide) (fun c1 => ?_) (fun c1 => ?_)
  · refine g_aload_n C dX3_holdFirst_31 rfl 0 rfl ?_
    refine g_callV [] C dX3_holdFirst_32 rfl (tX3_rewind (xl Γ) (xE Γ) u) cf_X3_rewind rfl rfl ml_X3_59 rfl (by decide) (Nat.le_of_ble_eq_true rfl) rfl (fun u2 => ?_)
    exact g_vret C M dX3_holdFirst_35 rfl rfl
  · refine g_aload_n C dX3_holdFirst_7 rfl 0 rfl ?_
    refine g_getR (k2 := 67) C dX3_holdFirst_8 rfl rfl fi_3_2 ⟨by decide, by decide, rfl⟩ fl_X3_28 ?_
    refine g_aload_n C dX3_holdFirst_11 rfl 0 rfl ?_
    refine g_getR (k2 := 67) C dX3_holdFirst_12 rfl rfl fi_3_2 ⟨by decide, by decide, rfl⟩ fl_X3_28 ?_
    refine g_callP [] C dX3_holdFirst_15 rfl (tX2_holdAct (xl Γ) (xE Γ) rfl u) cf_X2_holdAct rfl rfl ml_X3_90 rfl (by decide) (Nat.le_of_ble_eq_true rfl) rfl (fun r3 => ?_)
    refine g_aload_n C dX3_holdFirst_18 rfl 0 rfl ?_
    refine g_getR (k2 := 58) C dX3_holdFirst_19 rfl rfl fi_3_0 ⟨by decide, by decide, rfl⟩ fl_X3_12 ?_
    refine g_callV [.int r3, .ref ((xE Γ).1 58)] C dX3_holdFirst_22 rfl (tX2_fly (xl Γ) (xE Γ) rfl r3 rfl u) cf_X2_fly rfl rfl ml_X3_94 rfl (by decide) (Nat.le_of_ble_eq_true rfl) rfl (fun u4 => ?_)
    refine g_iincL (fun v2_5 => [(2, .int v2_5), (0, .ref ((xE Γ).1 57)), (1, .int v1)]) C dX3_holdFirst_25 rfl L (by decide) (k := 2) rfl (iinc_1 _) (fun _ => rfl) (fun v2_5 => ?_)
    refine g_goto 2 C dX3_holdFirst_28 rfl (by decide) ?_
    refine g_sub (ls' := [(0, .ref ((xE Γ).1 57)), (1, .int v1), (2, .int v2_5)]) [1, 2, 0] rfl ?_
    exact hj2 v2_5 u4
set_option maxRecDepth 20000 in
set_option maxHeartbeats 4000000 in
theorem pX3_holdFirst_2 {Γ : GX} (C : Cx Γ RX3 cX3_holdFirst 3) (M : Mx Γ none) (L : xn Γ = 3) (v1 : Int32) : ∀ (n : Nat) (v2 : Int32) (u : Mm), Gp Γ (QM Γ cvV) 2 [(0, .ref ((xE Γ).1 57)), (1, .int v1), (2, .int v2)] [] u (gX3_holdFirst_2_L v1 n v2 u) := by
  intro n
  induction n with
  | zero => intro _ _; exact g_none
  | succ n ih => intro v2 u; exact pX3_holdFirst_2s C M L v1 ih v2 u

set_option maxRecDepth 20000 in
set_option maxHeartbeats 4000000 in
theorem pX3_holdFirst_0 {Γ : GX} (C : Cx Γ RX3 cX3_holdFirst 3) (M : Mx Γ none) (L : xn Γ = 3) (v1 : Int32) (u : Mm) : Gp Γ (QM Γ cvV) 0 [(0, .ref ((xE Γ).1 57)), (1, .int v1)] [] u (gX3_holdFirst_b v1 u) := by
  unfold gX3_holdFirst_b
  refine g_iconst (v := 0) C dX3_holdFirst_0 rfl (by decide) ?_
  refine g_istore_n (ls' := [(2, .int 0), (0, .ref ((xE Γ).1 57)), (1, .int v1)]) C dX3_holdFirst_1 rfl L (by decide) rfl ?_
  refine g_sub (ls' := [(0, .ref ((xE Γ).1 57)), (1, .int v1), (2, .int 0)]) [1, 2, 0] rfl ?_
  exact pX3_holdFirst_2 C M L v1 FU 0 u
set_option maxRecDepth 20000 in
set_option maxHeartbeats 4000000 in
theorem tX3_holdFirst (l : Launch) (E : EE) (v1 : Int32) (u : Mm) : Ct l E yX3_holdFirst cX3_holdFirst 3 none 3 [.ref (E.1 57), .int v1] u cvV (gX3_holdFirst v1 u) :=
  Ct_of (own := RX3) (by decide +kernel) rfl (Nat.le_of_ble_eq_true rfl) (fun p e R s m args below meth c C M => g_sub (ls' := [(0, .ref (E.1 57)), (1, .int v1)]) [0, 1] rfl (pX3_holdFirst_0 C M rfl v1 u))
set_option maxRecDepth 20000 in
set_option maxHeartbeats 4000000 in
theorem pX3_holdTo_48 {Γ : GX} (C : Cx Γ RX3 cX3_holdTo 3) (M : Mx Γ none) (L : xn Γ = 2) (v1 : Int32) {j12 : Mm → Option Mm} (hj12 : ∀  (u : Mm), Gp Γ (QM Γ cvV) 12 [(0, .ref ((xE Γ).1 57)), (1, .int v1)] [] u (j12 u)) (u : Mm) : Gp Γ (QM Γ cvV) 48 [(0, .ref ((xE Γ).1 57)), (1, .int v1)] [] u (gX3_holdTo_48 j12 v1 u) := by
  unfold gX3_holdTo_48
  refine g_aload_n C dX3_holdTo_48 rfl 0 rfl ?_
  refine g_dup C dX3_holdTo_49 rfl rfl ?_
  refine g_getI C dX3_holdTo_50 rfl rfl fi_3_4 rfl fl_X3_66 ?_
  refine g_iconst (v := 1) C dX3_holdTo_53 rfl (by decide) ?_
  refine g_iadd C dX3_holdTo_54 rfl ?_
  refine g_putI C dX3_holdTo_55 rfl rfl fp_3_4 rfl fl_X3_66 ?_
  refine g_letm (fun u1 => ?_)
  refine g_goto 12 C dX3_holdTo_58 rfl (by decide) ?_
  exact hj12 u1
set_option maxRecDepth 20000 in
set_option maxHeartbeats 4000000 in
theorem pX3_holdTo_12s {Γ : GX} (C : Cx Γ RX3 cX3_holdTo 3) (M : Mx Γ none) (L : xn Γ = 2) (v1 : Int32) {j12 : Mm → Option Mm} (hj12 : ∀  (u : Mm), Gp Γ (QM Γ cvV) 12 [(0, .ref ((xE Γ).1 57)), (1, .int v1)] [] u (j12 u)) (u : Mm) : Gp Γ (QM Γ cvV) 12 [(0, .ref ((xE Γ).1 57)), (1, .int v1)] [] u (gX3_holdTo_12_Ls v1 j12 u) := by
  unfold gX3_holdTo_12_Ls
  refine g_aload_n C dX3_holdTo_12 rfl 0 rfl ?_
  refine g_getI C dX3_holdTo_13 rfl rfl fi_3_4 rfl fl_X3_66 ?_
  refine g_iload_n C dX3_holdTo_16 rfl 1 rfl ?_
  refine g_icmp_ge 61 C dX3_holdTo_17 rfl (by decide) (fun c1 => ?_) (fun c1 => ?_)
  · exact g_vret C M dX3_holdTo_61 rfl rfl
  · refine g_aload_n C dX3_holdTo_20 rfl 0 rfl ?_
    refine g_getR (k2 := 68) C dX3_holdTo_21 rfl rfl fi_3_3 ⟨by decide, by decide, rfl⟩ fl_X3_32 ?_
    refine g_getI C dX3_holdTo_24 rfl rfl fi_2_0 rfl fl_X3_79 ?_
    refine g_if_le 48 C dX3_holdTo_27 rfl (by decide) (fun c2 => ?_) (fun c2 => ?_)
    · exact pX3_holdTo_48 C M L v1 hj12 u
    · refine g_aload_n C dX3_holdTo_30 rfl 0 rfl ?_
      refine g_getR (k2 := 68) C dX3_holdTo_31 rfl rfl fi_3_3 ⟨by decide, by decide, rfl⟩ fl_X3_32 ?_
      refine g_aload_n C dX3_holdTo_34 rfl 0 rfl ?_
      refine g_getR (k2 := 68) C dX3_holdTo_35 rfl rfl fi_3_3 ⟨by decide, by decide, rfl⟩ fl_X3_32 ?_
      refine g_callP [] C dX3_holdTo_38 rfl (tX2_holdAct (xl Γ) (xE Γ) rfl u) cf_X2_holdAct rfl rfl ml_X3_90 rfl (by decide) (Nat.le_of_ble_eq_true rfl) rfl (fun r3 => ?_)
      refine g_aload_n C dX3_holdTo_41 rfl 0 rfl ?_
      refine g_getR (k2 := 58) C dX3_holdTo_42 rfl rfl fi_3_0 ⟨by decide, by decide, rfl⟩ fl_X3_12 ?_
      refine g_callV [.int r3, .ref ((xE Γ).1 58)] C dX3_holdTo_45 rfl (tX2_fly (xl Γ) (xE Γ) rfl r3 rfl u) cf_X2_fly rfl rfl ml_X3_94 rfl (by decide) (Nat.le_of_ble_eq_true rfl) rfl (fun u4 => ?_)
      exact pX3_holdTo_48 C M L v1 hj12 u4
set_option maxRecDepth 20000 in
set_option maxHeartbeats 4000000 in
theorem pX3_holdTo_12 {Γ : GX} (C : Cx Γ RX3 cX3_holdTo 3) (M : Mx Γ none) (L : xn Γ = 2) (v1 : Int32) : ∀ (n : Nat) (u : Mm), Gp Γ (QM Γ cvV) 12 [(0, .ref ((xE Γ).1 57)), (1, .int v1)] [] u (gX3_holdTo_12_L v1 n u) := by
  intro n
  induction n with
  | zero => intro _; exact g_none
  | succ n ih => intro u; exact pX3_holdTo_12s C M L v1 ih u

set_option maxRecDepth 20000 in
set_option maxHeartbeats 4000000 in
theorem pX3_holdTo_0 {Γ : GX} (C : Cx Γ RX3 cX3_holdTo 3) (M : Mx Γ none) (L : xn Γ = 2) (v1 : Int32) (u : Mm) : Gp Γ (QM Γ cvV) 0 [(0, .ref ((xE Γ).1 57)), (1, .int v1)] [] u (gX3_holdTo_b v1 u) := by
  unfold gX3_holdTo_b
  refine g_iload_n C dX3_holdTo_0 rfl 1 rfl ?_
  refine g_aload_n C dX3_holdTo_1 rfl 0 rfl ?_
  refine g_getI C dX3_holdTo_2 rfl rfl fi_3_4 rfl fl_X3_66 ?_
  refine g_icmp_ge 12 C dX3_holdTo_5 rfl (by decide) (fun c1 => ?_) (fun c1 => ?_)
  · exact pX3_holdTo_12 C M L v1 FU u
  · refine g_aload_n C dX3_holdTo_8 rfl 0 rfl ?_
    refine g_callV [] C dX3_holdTo_9 rfl (tX3_rewind (xl Γ) (xE Γ) u) cf_X3_rewind rfl rfl ml_X3_59 rfl (by decide) (Nat.le_of_ble_eq_true rfl) rfl (fun u2 => ?_)
    exact pX3_holdTo_12 C M L v1 FU u2
set_option maxRecDepth 20000 in
set_option maxHeartbeats 4000000 in
theorem tX3_holdTo (l : Launch) (E : EE) (v1 : Int32) (u : Mm) : Ct l E yX3_holdTo cX3_holdTo 2 none 3 [.ref (E.1 57), .int v1] u cvV (gX3_holdTo v1 u) :=
  Ct_of (own := RX3) (by decide +kernel) rfl (Nat.le_of_ble_eq_true rfl) (fun p e R s m args below meth c C M => g_sub (ls' := [(0, .ref (E.1 57)), (1, .int v1)]) [0, 1] rfl (pX3_holdTo_0 C M rfl v1 u))
set_option maxRecDepth 20000 in
set_option maxHeartbeats 4000000 in
theorem pX3_follow_89 {Γ : GX} (C : Cx Γ RX3 cX3_follow 4) (M : Mx Γ (some .boolean)) (L : xn Γ = 4) (u : Mm) : Gp Γ (QM Γ cvI) 89 [(0, .ref ((xE Γ).1 57))] [] u (gX3_follow_89 u) := by
  unfold gX3_follow_89
  refine g_aload_n C dX3_follow_89 rfl 0 rfl ?_
  refine g_getR (k2 := 69) C dX3_follow_90 rfl rfl fi_3_5 ⟨by decide, by decide, rfl⟩ fl_X3_35 ?_
  refine g_getI C dX3_follow_93 rfl rfl fi_2_0 rfl fl_X3_79 ?_
  refine g_if_ne 103 C dX3_follow_96 rfl (by decide) (fun c1 => ?_) (fun c1 => ?_)
  · refine g_iconst (v := 0) C dX3_follow_103 rfl (by decide) ?_
    exact g_zret C M dX3_follow_104 rfl (by decide) rfl
  · refine g_iconst (v := 1) C dX3_follow_99 rfl (by decide) ?_
    refine g_goto 104 C dX3_follow_100 rfl (by decide) ?_
    exact g_zret C M dX3_follow_104 rfl (by decide) rfl
set_option maxRecDepth 20000 in
set_option maxHeartbeats 4000000 in
theorem pX3_follow_55s {Γ : GX} (C : Cx Γ RX3 cX3_follow 4) (M : Mx Γ (some .boolean)) (L : xn Γ = 4) {j55 : Int32 → Mm → Option (Int32 × Mm)} (hj55 : ∀ (v3 : Int32) (u : Mm), Gp Γ (QM Γ cvI) 55 [(0, .ref ((xE Γ).1 57)), (3, .int v3)] [] u (j55 v3 u)) (v3 : Int32) (u : Mm) : Gp Γ (QM Γ cvI) 55 [(0, .ref ((xE Γ).1 57)), (3, .int v3)] [] u (gX3_follow_55_Ls j55 v3 u) := by
  unfold gX3_follow_55_Ls
  refine g_iload_n C dX3_follow_55 rfl 1 rfl ?_
  refine g_bipush (v := 60) C dX3_follow_56 rfl (by decide) ?_
  refine g_icmp_ge 89 C dX3_follow_58 rfl (by decide) (fun c1 => ?_) (fun c1 => ?_)
  · refine g_sub (ls' := [(0, .ref ((xE Γ).1 57))]) [0] rfl ?_
    exact pX3_follow_89 C M L u
  · refine g_aload_n C dX3_follow_61 rfl 0 rfl ?_
    refine g_getR (k2 := 69) C dX3_follow_62 rfl rfl fi_3_5 ⟨by decide, by decide, rfl⟩ fl_X3_35 ?_
    refine g_getI C dX3_follow_65 rfl rfl fi_2_0 rfl fl_X3_79 ?_
    refine g_if_le 89 C dX3_follow_68 rfl (by decide) (fun c2 => ?_) (fun c2 => ?_)
    · refine g_sub (ls' := [(0, .ref ((xE Γ).1 57))]) [0] rfl ?_
      exact pX3_follow_89 C M L u
    · refine g_aload_n C dX3_follow_71 rfl 0 rfl ?_
      refine g_getR (k2 := 69) C dX3_follow_72 rfl rfl fi_3_5 ⟨by decide, by decide, rfl⟩ fl_X3_35 ?_
      refine g_iconst (v := 0) C dX3_follow_75 rfl (by decide) ?_
      refine g_aload_n C dX3_follow_76 rfl 0 rfl ?_
      refine g_getR (k2 := 58) C dX3_follow_77 rfl rfl fi_3_0 ⟨by decide, by decide, rfl⟩ fl_X3_12 ?_
      refine g_callV [.int 0, .ref ((xE Γ).1 58)] C dX3_follow_80 rfl (tX2_fly (xl Γ) (xE Γ) rfl 0 rfl u) cf_X2_fly rfl rfl ml_X3_94 rfl (by decide) (Nat.le_of_ble_eq_true rfl) rfl (fun u3 => ?_)
      refine g_iincL (fun v3_4 => [(3, .int v3_4), (0, .ref ((xE Γ).1 57))]) C dX3_follow_83 rfl L (by decide) (k := 1) rfl (iinc_1 _) (fun _ => rfl) (fun v3_4 => ?_)
      refine g_goto 55 C dX3_follow_86 rfl (by decide) ?_
      refine g_sub (ls' := [(0, .ref ((xE Γ).1 57)), (3, .int v3_4)]) [1, 0] rfl ?_
      exact hj55 v3_4 u3
set_option maxRecDepth 20000 in
set_option maxHeartbeats 4000000 in
theorem pX3_follow_55 {Γ : GX} (C : Cx Γ RX3 cX3_follow 4) (M : Mx Γ (some .boolean)) (L : xn Γ = 4) : ∀ (n : Nat) (v3 : Int32) (u : Mm), Gp Γ (QM Γ cvI) 55 [(0, .ref ((xE Γ).1 57)), (3, .int v3)] [] u (gX3_follow_55_L n v3 u) := by
  intro n
  induction n with
  | zero => intro _ _; exact g_none
  | succ n ih => intro v3 u; exact pX3_follow_55s C M L ih v3 u

set_option maxRecDepth 20000 in
set_option maxHeartbeats 4000000 in
theorem pX3_follow_51 {Γ : GX} (C : Cx Γ RX3 cX3_follow 4) (M : Mx Γ (some .boolean)) (L : xn Γ = 4) (v1 : Int32) (v2 : Int32) (u : Mm) : Gp Γ (QM Γ cvI) 51 [(0, .ref ((xE Γ).1 57)), (1, .int v1), (2, .int v2)] [] u (gX3_follow_51 v1 v2 u) := by
  unfold gX3_follow_51
  refine g_iload_n C dX3_follow_51 rfl 1 rfl ?_
  refine g_iload_n C dX3_follow_52 rfl 2 rfl ?_
  refine g_iadd C dX3_follow_53 rfl ?_
  refine g_lets (fun v3_1 => ?_)
  refine g_istore_n (ls' := [(3, .int v3_1), (0, .ref ((xE Γ).1 57)), (1, .int v1), (2, .int v2)]) C dX3_follow_54 rfl L (by decide) rfl ?_
  refine g_sub (ls' := [(0, .ref ((xE Γ).1 57)), (3, .int v3_1)]) [1, 0] rfl ?_
  exact pX3_follow_55 C M L FU v3_1 u
set_option maxRecDepth 20000 in
set_option maxHeartbeats 4000000 in
theorem pX3_follow_18s {Γ : GX} (C : Cx Γ RX3 cX3_follow 4) (M : Mx Γ (some .boolean)) (L : xn Γ = 4) (v1 : Int32) (v2 : Int32) {j18 : Int32 → Mm → Option (Int32 × Mm)} (hj18 : ∀ (v3 : Int32) (u : Mm), Gp Γ (QM Γ cvI) 18 [(0, .ref ((xE Γ).1 57)), (1, .int v1), (2, .int v2), (3, .int v3)] [] u (j18 v3 u)) (v3 : Int32) (u : Mm) : Gp Γ (QM Γ cvI) 18 [(0, .ref ((xE Γ).1 57)), (1, .int v1), (2, .int v2), (3, .int v3)] [] u (gX3_follow_18_Ls v1 v2 j18 v3 u) := by
  unfold gX3_follow_18_Ls
  refine g_iload_n C dX3_follow_18 rfl 3 rfl ?_
  refine g_iload_n C dX3_follow_19 rfl 2 rfl ?_
  refine g_icmp_ge 51 C dX3_follow_20 rfl (by decide) (fun c1 => ?_) (fun c1 => ?_)
  · refine g_sub (ls' := [(0, .ref ((xE Γ).1 57)), (1, .int v1), (2, .int v2)]) [0, 1, 2] rfl ?_
    exact pX3_follow_51 C M L v1 v2 u
  · refine g_aload_n C dX3_follow_23 rfl 0 rfl ?_
    refine g_getR (k2 := 69) C dX3_follow_24 rfl rfl fi_3_5 ⟨by decide, by decide, rfl⟩ fl_X3_35 ?_
    refine g_getI C dX3_follow_27 rfl rfl fi_2_0 rfl fl_X3_79 ?_
    refine g_if_le 51 C dX3_follow_30 rfl (by decide) (fun c2 => ?_) (fun c2 => ?_)
    · refine g_sub (ls' := [(0, .ref ((xE Γ).1 57)), (1, .int v1), (2, .int v2)]) [0, 1, 2] rfl ?_
      exact pX3_follow_51 C M L v1 v2 u
    · refine g_aload_n C dX3_follow_33 rfl 0 rfl ?_
      refine g_getR (k2 := 69) C dX3_follow_34 rfl rfl fi_3_5 ⟨by decide, by decide, rfl⟩ fl_X3_35 ?_
      refine g_iconst (v := 2) C dX3_follow_37 rfl (by decide) ?_
      refine g_aload_n C dX3_follow_38 rfl 0 rfl ?_
      refine g_getR (k2 := 58) C dX3_follow_39 rfl rfl fi_3_0 ⟨by decide, by decide, rfl⟩ fl_X3_12 ?_
      refine g_callV [.int 2, .ref ((xE Γ).1 58)] C dX3_follow_42 rfl (tX2_fly (xl Γ) (xE Γ) rfl 2 rfl u) cf_X2_fly rfl rfl ml_X3_94 rfl (by decide) (Nat.le_of_ble_eq_true rfl) rfl (fun u3 => ?_)
      refine g_iincL (fun v3_4 => [(3, .int v3_4), (0, .ref ((xE Γ).1 57)), (1, .int v1), (2, .int v2)]) C dX3_follow_45 rfl L (by decide) (k := 3) rfl (iinc_1 _) (fun _ => rfl) (fun v3_4 => ?_)
      refine g_goto 18 C dX3_follow_48 rfl (by decide) ?_
      refine g_sub (ls' := [(0, .ref ((xE Γ).1 57)), (1, .int v1), (2, .int v2), (3, .int v3_4)]) [1, 2, 3, 0] rfl ?_
      exact hj18 v3_4 u3
set_option maxRecDepth 20000 in
set_option maxHeartbeats 4000000 in
theorem pX3_follow_18 {Γ : GX} (C : Cx Γ RX3 cX3_follow 4) (M : Mx Γ (some .boolean)) (L : xn Γ = 4) (v1 : Int32) (v2 : Int32) : ∀ (n : Nat) (v3 : Int32) (u : Mm), Gp Γ (QM Γ cvI) 18 [(0, .ref ((xE Γ).1 57)), (1, .int v1), (2, .int v2), (3, .int v3)] [] u (gX3_follow_18_L v1 v2 n v3 u) := by
  intro n
  induction n with
  | zero => intro _ _; exact g_none
  | succ n ih => intro v3 u; exact pX3_follow_18s C M L v1 v2 ih v3 u

set_option maxRecDepth 20000 in
set_option maxHeartbeats 4000000 in
theorem pX3_follow_0 {Γ : GX} (C : Cx Γ RX3 cX3_follow 4) (M : Mx Γ (some .boolean)) (L : xn Γ = 4) (v1 : Int32) (v2 : Int32) (u : Mm) : Gp Γ (QM Γ cvI) 0 [(0, .ref ((xE Γ).1 57)), (1, .int v1), (2, .int v2)] [] u (gX3_follow_b v1 v2 u) := by
  unfold gX3_follow_b
  refine g_aload_n C dX3_follow_0 rfl 0 rfl ?_
  refine g_iload_n C dX3_follow_1 rfl 1 rfl ?_
  refine g_callV [.int v1] C dX3_follow_2 rfl (tX3_holdTo (xl Γ) (xE Γ) v1 u) cf_X3_holdTo rfl rfl ml_X3_98 rfl (by decide) (Nat.le_of_ble_eq_true rfl) rfl (fun u1 => ?_)
  refine g_aload_n C dX3_follow_5 rfl 0 rfl ?_
  refine g_getR (k2 := 69) C dX3_follow_6 rfl rfl fi_3_5 ⟨by decide, by decide, rfl⟩ fl_X3_35 ?_
  refine g_aload_n C dX3_follow_9 rfl 0 rfl ?_
  refine g_getR (k2 := 68) C dX3_follow_10 rfl rfl fi_3_3 ⟨by decide, by decide, rfl⟩ fl_X3_32 ?_
  refine g_callV [.ref ((xE Γ).1 68)] C dX3_follow_13 rfl (tX2_copyFrom (xl Γ) (xE Γ) rfl rfl u1) cf_X2_copyFrom rfl rfl ml_X3_56 rfl (by decide) (Nat.le_of_ble_eq_true rfl) rfl (fun u2 => ?_)
  refine g_iconst (v := 0) C dX3_follow_16 rfl (by decide) ?_
  refine g_istore_n (ls' := [(3, .int 0), (0, .ref ((xE Γ).1 57)), (1, .int v1), (2, .int v2)]) C dX3_follow_17 rfl L (by decide) rfl ?_
  refine g_sub (ls' := [(0, .ref ((xE Γ).1 57)), (1, .int v1), (2, .int v2), (3, .int 0)]) [1, 2, 3, 0] rfl ?_
  exact pX3_follow_18 C M L v1 v2 FU 0 u2
set_option maxRecDepth 20000 in
set_option maxHeartbeats 4000000 in
theorem tX3_follow (l : Launch) (E : EE) (v1 : Int32) (v2 : Int32) (u : Mm) : Ct l E yX3_follow cX3_follow 4 (some .boolean) 4 [.ref (E.1 57), .int v1, .int v2] u cvI (gX3_follow v1 v2 u) :=
  Ct_of (own := RX3) (by decide +kernel) rfl (Nat.le_of_ble_eq_true rfl) (fun p e R s m args below meth c C M => g_sub (ls' := [(0, .ref (E.1 57)), (1, .int v1), (2, .int v2)]) [0, 1, 2] rfl (pX3_follow_0 C M rfl v1 v2 u))
set_option maxRecDepth 20000 in
set_option maxHeartbeats 4000000 in
theorem pX3_stepsFlown_0 {Γ : GX} (C : Cx Γ RX3 cX3_stepsFlown 0) (M : Mx Γ (some .int)) (L : xn Γ = 1) (u : Mm) : Gp Γ (QM Γ (cvP u)) 0 [(0, .ref ((xE Γ).1 57))] [] u (gX3_stepsFlown_b u) := by
  unfold gX3_stepsFlown_b
  refine g_aload_n C dX3_stepsFlown_0 rfl 0 rfl ?_
  refine g_getR (k2 := 69) C dX3_stepsFlown_1 rfl rfl fi_3_5 ⟨by decide, by decide, rfl⟩ fl_X3_35 ?_
  refine g_getI C dX3_stepsFlown_4 rfl rfl fi_2_7 rfl fl_X3_101 ?_
  refine g_aload_n C dX3_stepsFlown_7 rfl 0 rfl ?_
  refine g_getR (k2 := 67) C dX3_stepsFlown_8 rfl rfl fi_3_2 ⟨by decide, by decide, rfl⟩ fl_X3_28 ?_
  refine g_getI C dX3_stepsFlown_11 rfl rfl fi_2_7 rfl fl_X3_101 ?_
  refine g_isub C dX3_stepsFlown_14 rfl ?_
  exact g_iret C M dX3_stepsFlown_15 rfl rfl
set_option maxRecDepth 20000 in
set_option maxHeartbeats 4000000 in
theorem tX3_stepsFlown (l : Launch) (E : EE) (u : Mm) : Ct l E yX3_stepsFlown cX3_stepsFlown 1 (some .int) 0 [.ref (E.1 57)] u (cvP u) (gX3_stepsFlown u) :=
  Ct_of (own := RX3) (by decide +kernel) rfl (Nat.le_of_ble_eq_true rfl) (fun p e R s m args below meth c C M => g_sub (ls' := [(0, .ref (E.1 57))]) [0] rfl (pX3_stepsFlown_0 C M rfl u))
set_option maxRecDepth 20000 in
set_option maxHeartbeats 4000000 in
theorem pX3_fieldThere_0 {Γ : GX} (C : Cx Γ RX3 cX3_fieldThere 1) (M : Mx Γ (some .int)) (L : xn Γ = 1) (u : Mm) : Gp Γ (QM Γ (cvP u)) 0 [(0, .ref ((xE Γ).1 57))] [] u (gX3_fieldThere_b u) := by
  unfold gX3_fieldThere_b
  refine g_aload_n C dX3_fieldThere_0 rfl 0 rfl ?_
  refine g_getR (k2 := 61) C dX3_fieldThere_1 rfl rfl fi_3_1 ⟨by decide, by decide, rfl⟩ fl_X3_21 ?_
  refine g_aload_n C dX3_fieldThere_4 rfl 0 rfl ?_
  refine g_getR (k2 := 69) C dX3_fieldThere_5 rfl rfl fi_3_5 ⟨by decide, by decide, rfl⟩ fl_X3_35 ?_
  refine g_getI C dX3_fieldThere_8 rfl rfl fi_2_1 rfl fl_X3_104 ?_
  refine g_aload_n C dX3_fieldThere_11 rfl 0 rfl ?_
  refine g_getR (k2 := 69) C dX3_fieldThere_12 rfl rfl fi_3_5 ⟨by decide, by decide, rfl⟩ fl_X3_35 ?_
  refine g_getI C dX3_fieldThere_15 rfl rfl fi_2_2 rfl fl_X3_107 ?_
  refine g_callP [.int (u 69 1), .int (u 69 2)] C dX3_fieldThere_18 rfl (tX1_fieldAt (xl Γ) (xE Γ) rfl (u 69 1) (u 69 2) u) cf_X1_fieldAt rfl rfl ml_X3_110 rfl (by decide) (Nat.le_of_ble_eq_true rfl) rfl (fun r1 => ?_)
  exact g_iret C M dX3_fieldThere_21 rfl rfl
set_option maxRecDepth 20000 in
set_option maxHeartbeats 4000000 in
theorem tX3_fieldThere (l : Launch) (E : EE) (u : Mm) : Ct l E yX3_fieldThere cX3_fieldThere 1 (some .int) 1 [.ref (E.1 57)] u (cvP u) (gX3_fieldThere u) :=
  Ct_of (own := RX3) (by decide +kernel) rfl (Nat.le_of_ble_eq_true rfl) (fun p e R s m args below meth c C M => g_sub (ls' := [(0, .ref (E.1 57))]) [0] rfl (pX3_fieldThere_0 C M rfl u))
set_option maxRecDepth 20000 in
set_option maxHeartbeats 4000000 in
theorem pX3_costThere_0 {Γ : GX} (C : Cx Γ RX3 cX3_costThere 2) (M : Mx Γ (some .int)) (L : xn Γ = 1) (u : Mm) : Gp Γ (QM Γ (cvP u)) 0 [(0, .ref ((xE Γ).1 57))] [] u (gX3_costThere_b u) := by
  unfold gX3_costThere_b
  refine g_aload_n C dX3_costThere_0 rfl 0 rfl ?_
  refine g_getR (k2 := 61) C dX3_costThere_1 rfl rfl fi_3_1 ⟨by decide, by decide, rfl⟩ fl_X3_21 ?_
  refine g_aload_n C dX3_costThere_4 rfl 0 rfl ?_
  refine g_callP [] C dX3_costThere_5 rfl (tX3_fieldThere (xl Γ) (xE Γ) u) cf_X3_fieldThere rfl rfl ml_X3_114 rfl (by decide) (Nat.le_of_ble_eq_true rfl) rfl (fun r1 => ?_)
  refine g_aload_n C dX3_costThere_8 rfl 0 rfl ?_
  refine g_getR (k2 := 69) C dX3_costThere_9 rfl rfl fi_3_5 ⟨by decide, by decide, rfl⟩ fl_X3_35 ?_
  refine g_getI C dX3_costThere_12 rfl rfl fi_2_8 rfl fl_X3_62 ?_
  refine g_aload_n C dX3_costThere_15 rfl 0 rfl ?_
  refine g_getR (k2 := 58) C dX3_costThere_16 rfl rfl fi_3_0 ⟨by decide, by decide, rfl⟩ fl_X3_12 ?_
  refine g_aload_n C dX3_costThere_19 rfl 0 rfl ?_
  refine g_getR (k2 := 69) C dX3_costThere_20 rfl rfl fi_3_5 ⟨by decide, by decide, rfl⟩ fl_X3_35 ?_
  refine g_getI C dX3_costThere_23 rfl rfl fi_2_8 rfl fl_X3_62 ?_
  refine g_aload_n C dX3_costThere_26 rfl 0 rfl ?_
  refine g_getR (k2 := 69) C dX3_costThere_27 rfl rfl fi_3_5 ⟨by decide, by decide, rfl⟩ fl_X3_35 ?_
  refine g_getI C dX3_costThere_30 rfl rfl fi_2_5 rfl fl_X3_69 ?_
  refine g_callP [.int (u 69 8), .int (u 69 5)] C dX3_costThere_33 rfl (tX0_dragOf (xl Γ) (xE Γ) rfl (u 69 8) (u 69 5) u) cf_X0_dragOf rfl rfl ml_X3_117 rfl (by decide) (Nat.le_of_ble_eq_true rfl) rfl (fun r2 => ?_)
  refine g_callP [.int r1, .int (u 69 8), .int r2] C dX3_costThere_36 rfl (tX1_costOf (xl Γ) (xE Γ) rfl r1 (u 69 8) r2 u) cf_X1_costOf rfl rfl ml_X3_120 rfl (by decide) (Nat.le_of_ble_eq_true rfl) rfl (fun r3 => ?_)
  exact g_iret C M dX3_costThere_39 rfl rfl
set_option maxRecDepth 20000 in
set_option maxHeartbeats 4000000 in
theorem tX3_costThere (l : Launch) (E : EE) (u : Mm) : Ct l E yX3_costThere cX3_costThere 1 (some .int) 2 [.ref (E.1 57)] u (cvP u) (gX3_costThere u) :=
  Ct_of (own := RX3) (by decide +kernel) rfl (Nat.le_of_ble_eq_true rfl) (fun p e R s m args below meth c C M => g_sub (ls' := [(0, .ref (E.1 57))]) [0] rfl (pX3_costThere_0 C M rfl u))
set_option maxRecDepth 20000 in
set_option maxHeartbeats 4000000 in
theorem pX3_leadsInto_0 {Γ : GX} (C : Cx Γ RX3 cX3_leadsInto 5) (M : Mx Γ (some .boolean)) (L : xn Γ = 4) (v1 : Int32) (v2 : Int32) (v3 : Int32) (u : Mm) : Gp Γ (QM Γ cvI) 0 [(0, .ref ((xE Γ).1 57)), (1, .int v1), (2, .int v2), (3, .int v3)] [] u (gX3_leadsInto_b v1 v2 v3 u) := by
  unfold gX3_leadsInto_b
  refine g_aload_n C dX3_leadsInto_0 rfl 0 rfl ?_
  refine g_iload_n C dX3_leadsInto_1 rfl 2 rfl ?_
  refine g_iload_n C dX3_leadsInto_2 rfl 3 rfl ?_
  refine g_callI [.int v2, .int v3] C dX3_leadsInto_3 rfl (tX3_follow (xl Γ) (xE Γ) v2 v3 u) cf_X3_follow rfl rfl ml_X3_124 rfl (by decide) (Nat.le_of_ble_eq_true rfl) rfl (fun r2 u1 => ?_)
  refine g_if_eq 21 C dX3_leadsInto_6 rfl (by decide) (fun c3 => ?_) (fun c3 => ?_)
  · refine g_iconst (v := 0) C dX3_leadsInto_21 rfl (by decide) ?_
    exact g_zret C M dX3_leadsInto_22 rfl (by decide) rfl
  · refine g_aload_n C dX3_leadsInto_9 rfl 0 rfl ?_
    refine g_callP [] C dX3_leadsInto_10 rfl (tX3_fieldThere (xl Γ) (xE Γ) u1) cf_X3_fieldThere rfl rfl ml_X3_114 rfl (by decide) (Nat.le_of_ble_eq_true rfl) rfl (fun r4 => ?_)
    refine g_iload_n C dX3_leadsInto_13 rfl 1 rfl ?_
    refine g_icmp_ne 21 C dX3_leadsInto_14 rfl (by decide) (fun c5 => ?_) (fun c5 => ?_)
    · refine g_iconst (v := 0) C dX3_leadsInto_21 rfl (by decide) ?_
      exact g_zret C M dX3_leadsInto_22 rfl (by decide) rfl
    · refine g_iconst (v := 1) C dX3_leadsInto_17 rfl (by decide) ?_
      refine g_goto 22 C dX3_leadsInto_18 rfl (by decide) ?_
      exact g_zret C M dX3_leadsInto_22 rfl (by decide) rfl
set_option maxRecDepth 20000 in
set_option maxHeartbeats 4000000 in
theorem tX3_leadsInto (l : Launch) (E : EE) (v1 : Int32) (v2 : Int32) (v3 : Int32) (u : Mm) : Ct l E yX3_leadsInto cX3_leadsInto 4 (some .boolean) 5 [.ref (E.1 57), .int v1, .int v2, .int v3] u cvI (gX3_leadsInto v1 v2 v3 u) :=
  Ct_of (own := RX3) (by decide +kernel) rfl (Nat.le_of_ble_eq_true rfl) (fun p e R s m args below meth c C M => g_sub (ls' := [(0, .ref (E.1 57)), (1, .int v1), (2, .int v2), (3, .int v3)]) [0, 1, 2, 3] rfl (pX3_leadsInto_0 C M rfl v1 v2 v3 u))
set_option maxRecDepth 20000 in
set_option maxHeartbeats 4000000 in
theorem pX3_seekPlansInto_116 {Γ : GX} (C : Cx Γ RX3 cX3_seekPlansInto 5) (M : Mx Γ none) (L : xn Γ = 5) (v1 : Int32) (v2 : Int32) (v3 : Int32) (v4 : Int32) {j21 : Int32 → Int32 → Mm → Option Mm} (hj21 : ∀ (v2 : Int32) (v3 : Int32) (u : Mm), Gp Γ (QM Γ cvV) 21 [(0, .ref ((xE Γ).1 57)), (1, .int v1), (2, .int v2), (3, .int v3)] [] u (j21 v2 v3 u)) {j30 : Int32 → Int32 → Mm → Option Mm} (hj30 : ∀ (v2 : Int32) (v4 : Int32) (u : Mm), Gp Γ (QM Γ cvV) 30 [(0, .ref ((xE Γ).1 57)), (1, .int v1), (2, .int v2), (3, .int v3), (4, .int v4)] [] u (j30 v2 v4 u)) (u : Mm) : Gp Γ (QM Γ cvV) 116 [(0, .ref ((xE Γ).1 57)), (1, .int v1), (2, .int v2), (3, .int v3), (4, .int v4)] [] u (gX3_seekPlansInto_116 j21 j30 v1 v2 v3 v4 u) := by
  unfold gX3_seekPlansInto_116
  refine g_aload_n C dX3_seekPlansInto_116 rfl 0 rfl ?_
  refine g_dup C dX3_seekPlansInto_117 rfl rfl ?_
  refine g_getI C dX3_seekPlansInto_118 rfl rfl fi_3_6 rfl fl_X3_128 ?_
  refine g_iconst (v := 1) C dX3_seekPlansInto_121 rfl (by decide) ?_
  refine g_iadd C dX3_seekPlansInto_122 rfl ?_
  refine g_putI C dX3_seekPlansInto_123 rfl rfl fp_3_6 rfl fl_X3_128 ?_
  refine g_letm (fun u1 => ?_)
  refine g_iincL (fun v4_2 => [(4, .int v4_2), (0, .ref ((xE Γ).1 57)), (1, .int v1), (2, .int v2), (3, .int v3)]) C dX3_seekPlansInto_126 rfl L (by decide) (k := 4) rfl (iinc_1 _) (fun _ => rfl) (fun v4_2 => ?_)
  refine g_goto 30 C dX3_seekPlansInto_129 rfl (by decide) ?_
  refine g_sub (ls' := [(0, .ref ((xE Γ).1 57)), (1, .int v1), (2, .int v2), (3, .int v3), (4, .int v4_2)]) [1, 2, 3, 4, 0] rfl ?_
  exact hj30 v2 v4_2 u1
set_option maxRecDepth 20000 in
set_option maxHeartbeats 4000000 in
theorem pX3_seekPlansInto_97 {Γ : GX} (C : Cx Γ RX3 cX3_seekPlansInto 5) (M : Mx Γ none) (L : xn Γ = 5) (v1 : Int32) (v3 : Int32) (v4 : Int32) {j21 : Int32 → Int32 → Mm → Option Mm} (hj21 : ∀ (v2 : Int32) (v3 : Int32) (u : Mm), Gp Γ (QM Γ cvV) 21 [(0, .ref ((xE Γ).1 57)), (1, .int v1), (2, .int v2), (3, .int v3)] [] u (j21 v2 v3 u)) {j30 : Int32 → Int32 → Mm → Option Mm} (hj30 : ∀ (v2 : Int32) (v4 : Int32) (u : Mm), Gp Γ (QM Γ cvV) 30 [(0, .ref ((xE Γ).1 57)), (1, .int v1), (2, .int v2), (3, .int v3), (4, .int v4)] [] u (j30 v2 v4 u)) (u : Mm) : Gp Γ (QM Γ cvV) 97 [(0, .ref ((xE Γ).1 57)), (1, .int v1), (3, .int v3), (4, .int v4)] [] u (gX3_seekPlansInto_97 j21 j30 v1 v3 v4 u) := by
  unfold gX3_seekPlansInto_97
  refine g_aload_n C dX3_seekPlansInto_97 rfl 0 rfl ?_
  refine g_getR (k2 := 69) C dX3_seekPlansInto_98 rfl rfl fi_3_5 ⟨by decide, by decide, rfl⟩ fl_X3_35 ?_
  refine g_getI C dX3_seekPlansInto_101 rfl rfl fi_2_8 rfl fl_X3_62 ?_
  refine g_lets (fun v2_1 => ?_)
  refine g_istore_n (ls' := [(2, .int v2_1), (0, .ref ((xE Γ).1 57)), (1, .int v1), (3, .int v3), (4, .int v4)]) C dX3_seekPlansInto_104 rfl L (by decide) rfl ?_
  refine g_aload_n C dX3_seekPlansInto_105 rfl 1 rfl ?_
  refine g_bipush (v := 10) C dX3_seekPlansInto_106 rfl (by decide) ?_
  refine g_iload_n C dX3_seekPlansInto_108 rfl 3 rfl ?_
  refine g_imul C dX3_seekPlansInto_109 rfl ?_
  refine g_iload C dX3_seekPlansInto_110 rfl 4 rfl ?_
  refine g_iadd C dX3_seekPlansInto_112 rfl ?_
  refine g_putI C dX3_seekPlansInto_113 rfl rfl fp_3_8 rfl fl_X3_134 ?_
  refine g_letm (fun u2 => ?_)
  refine g_sub (ls' := [(0, .ref ((xE Γ).1 57)), (1, .int v1), (2, .int v2_1), (3, .int v3), (4, .int v4)]) [1, 2, 0, 3, 4] rfl ?_
  exact pX3_seekPlansInto_116 C M L v1 v2_1 v3 v4 hj21 hj30 u2
set_option maxRecDepth 20000 in
set_option maxHeartbeats 4000000 in
theorem pX3_seekPlansInto_76 {Γ : GX} (C : Cx Γ RX3 cX3_seekPlansInto 5) (M : Mx Γ none) (L : xn Γ = 5) (v1 : Int32) (v2 : Int32) (v3 : Int32) (v4 : Int32) (s0 : Int32) {j21 : Int32 → Int32 → Mm → Option Mm} (hj21 : ∀ (v2 : Int32) (v3 : Int32) (u : Mm), Gp Γ (QM Γ cvV) 21 [(0, .ref ((xE Γ).1 57)), (1, .int v1), (2, .int v2), (3, .int v3)] [] u (j21 v2 v3 u)) {j30 : Int32 → Int32 → Mm → Option Mm} (hj30 : ∀ (v2 : Int32) (v4 : Int32) (u : Mm), Gp Γ (QM Γ cvV) 30 [(0, .ref ((xE Γ).1 57)), (1, .int v1), (2, .int v2), (3, .int v3), (4, .int v4)] [] u (j30 v2 v4 u)) (u : Mm) : Gp Γ (QM Γ cvV) 76 [(0, .ref ((xE Γ).1 57)), (1, .int v1), (2, .int v2), (3, .int v3), (4, .int v4)] [.int s0, .ref ((xE Γ).1 57)] u (gX3_seekPlansInto_76 j21 j30 v1 v2 v3 v4 s0 u) := by
  unfold gX3_seekPlansInto_76
  refine g_putI C dX3_seekPlansInto_76 rfl rfl fp_3_7 rfl fl_X3_131 ?_
  refine g_letm (fun u1 => ?_)
  refine g_aload_n C dX3_seekPlansInto_79 rfl 0 rfl ?_
  refine g_getI C dX3_seekPlansInto_80 rfl rfl fi_3_6 rfl fl_X3_128 ?_
  refine g_if_eq 97 C dX3_seekPlansInto_83 rfl (by decide) (fun c2 => ?_) (fun c2 => ?_)
  · refine g_sub (ls' := [(0, .ref ((xE Γ).1 57)), (1, .int v1), (3, .int v3), (4, .int v4)]) [0, 1, 3, 4] rfl ?_
    exact pX3_seekPlansInto_97 C M L v1 v3 v4 hj21 hj30 u1
  · refine g_aload_n C dX3_seekPlansInto_86 rfl 0 rfl ?_
    refine g_getR (k2 := 69) C dX3_seekPlansInto_87 rfl rfl fi_3_5 ⟨by decide, by decide, rfl⟩ fl_X3_35 ?_
    refine g_getI C dX3_seekPlansInto_90 rfl rfl fi_2_8 rfl fl_X3_62 ?_
    refine g_iload_n C dX3_seekPlansInto_93 rfl 2 rfl ?_
    refine g_icmp_ge 116 C dX3_seekPlansInto_94 rfl (by decide) (fun c3 => ?_) (fun c3 => ?_)
    · exact pX3_seekPlansInto_116 C M L v1 v2 v3 v4 hj21 hj30 u1
    · refine g_sub (ls' := [(0, .ref ((xE Γ).1 57)), (1, .int v1), (3, .int v3), (4, .int v4)]) [0, 1, 3, 4] rfl ?_
      exact pX3_seekPlansInto_97 C M L v1 v3 v4 hj21 hj30 u1
set_option maxRecDepth 20000 in
set_option maxHeartbeats 4000000 in
theorem pX3_seekPlansInto_30s {Γ : GX} (C : Cx Γ RX3 cX3_seekPlansInto 5) (M : Mx Γ none) (L : xn Γ = 5) (v1 : Int32) (v3 : Int32) {j21 : Int32 → Int32 → Mm → Option Mm} (hj21 : ∀ (v2 : Int32) (v3 : Int32) (u : Mm), Gp Γ (QM Γ cvV) 21 [(0, .ref ((xE Γ).1 57)), (1, .int v1), (2, .int v2), (3, .int v3)] [] u (j21 v2 v3 u)) {j30 : Int32 → Int32 → Mm → Option Mm} (hj30 : ∀ (v2 : Int32) (v4 : Int32) (u : Mm), Gp Γ (QM Γ cvV) 30 [(0, .ref ((xE Γ).1 57)), (1, .int v1), (2, .int v2), (3, .int v3), (4, .int v4)] [] u (j30 v2 v4 u)) (v2 : Int32) (v4 : Int32) (u : Mm) : Gp Γ (QM Γ cvV) 30 [(0, .ref ((xE Γ).1 57)), (1, .int v1), (2, .int v2), (3, .int v3), (4, .int v4)] [] u (gX3_seekPlansInto_30_Ls j21 v1 v3 j30 v2 v4 u) := by
  unfold gX3_seekPlansInto_30_Ls
  refine g_iload C dX3_seekPlansInto_30 rfl 4 rfl ?_
  refine g_iconst (v := 5) C dX3_seekPlansInto_32 rfl (by decide) ?_
  refine g_icmp_gt 132 C dX3_seekPlansInto_33 rfl (by decide) (fun c1 => ?_) (fun c1 => ?_)
  · refine g_iincL (fun v3_2 => [(3, .int v3_2), (0, .ref ((xE Γ).1 57)), (1, .int v1), (2, .int v2), (4, .int v4)]) C dX3_seekPlansInto_132 rfl L (by decide) (k := 3) rfl (iinc_1 _) (fun _ => rfl) (fun v3_2 => ?_)
    refine g_goto 21 C dX3_seekPlansInto_135 rfl (by decide) ?_
    refine g_sub (ls' := [(0, .ref ((xE Γ).1 57)), (1, .int v1), (2, .int v2), (3, .int v3_2)]) [1, 2, 3, 0] rfl ?_
    exact hj21 v2 v3_2 u
  · refine g_aload_n C dX3_seekPlansInto_36 rfl 0 rfl ?_
    refine g_iload_n C dX3_seekPlansInto_37 rfl 3 rfl ?_
    refine g_iload C dX3_seekPlansInto_38 rfl 4 rfl ?_
    refine g_callI [.int v3, .int v4] C dX3_seekPlansInto_40 rfl (tX3_follow (xl Γ) (xE Γ) v3 v4 u) cf_X3_follow rfl rfl ml_X3_124 rfl (by decide) (Nat.le_of_ble_eq_true rfl) rfl (fun r4 u3 => ?_)
    refine g_if_eq 126 C dX3_seekPlansInto_43 rfl (by decide) (fun c5 => ?_) (fun c5 => ?_)
    · refine g_iincL (fun v4_6 => [(4, .int v4_6), (0, .ref ((xE Γ).1 57)), (1, .int v1), (2, .int v2), (3, .int v3)]) C dX3_seekPlansInto_126 rfl L (by decide) (k := 4) rfl (iinc_1 _) (fun _ => rfl) (fun v4_6 => ?_)
      refine g_goto 30 C dX3_seekPlansInto_129 rfl (by decide) ?_
      refine g_sub (ls' := [(0, .ref ((xE Γ).1 57)), (1, .int v1), (2, .int v2), (3, .int v3), (4, .int v4_6)]) [1, 2, 3, 4, 0] rfl ?_
      exact hj30 v2 v4_6 u3
    · refine g_aload_n C dX3_seekPlansInto_46 rfl 0 rfl ?_
      refine g_callP [] C dX3_seekPlansInto_47 rfl (tX3_fieldThere (xl Γ) (xE Γ) u3) cf_X3_fieldThere rfl rfl ml_X3_114 rfl (by decide) (Nat.le_of_ble_eq_true rfl) rfl (fun r7 => ?_)
      refine g_iload_n C dX3_seekPlansInto_50 rfl 1 rfl ?_
      refine g_icmp_ne 126 C dX3_seekPlansInto_51 rfl (by decide) (fun c8 => ?_) (fun c8 => ?_)
      · refine g_iincL (fun v4_9 => [(4, .int v4_9), (0, .ref ((xE Γ).1 57)), (1, .int v1), (2, .int v2), (3, .int v3)]) C dX3_seekPlansInto_126 rfl L (by decide) (k := 4) rfl (iinc_1 _) (fun _ => rfl) (fun v4_9 => ?_)
        refine g_goto 30 C dX3_seekPlansInto_129 rfl (by decide) ?_
        refine g_sub (ls' := [(0, .ref ((xE Γ).1 57)), (1, .int v1), (2, .int v2), (3, .int v3), (4, .int v4_9)]) [1, 2, 3, 4, 0] rfl ?_
        exact hj30 v2 v4_9 u3
      · refine g_aload_n C dX3_seekPlansInto_54 rfl 0 rfl ?_
        refine g_aload_n C dX3_seekPlansInto_55 rfl 0 rfl ?_
        refine g_getI C dX3_seekPlansInto_56 rfl rfl fi_3_6 rfl fl_X3_128 ?_
        refine g_if_ne 72 C dX3_seekPlansInto_59 rfl (by decide) (fun c10 => ?_) (fun c10 => ?_)
        · refine g_aload_n C dX3_seekPlansInto_72 rfl 0 rfl ?_
          refine g_getI C dX3_seekPlansInto_73 rfl rfl fi_3_7 rfl fl_X3_131 ?_
          exact pX3_seekPlansInto_76 C M L v1 v2 v3 v4 (u3 57 7) hj21 hj30 u3
        · refine g_bipush (v := 10) C dX3_seekPlansInto_62 rfl (by decide) ?_
          refine g_iload_n C dX3_seekPlansInto_64 rfl 3 rfl ?_
          refine g_imul C dX3_seekPlansInto_65 rfl ?_
          refine g_iload C dX3_seekPlansInto_66 rfl 4 rfl ?_
          refine g_iadd C dX3_seekPlansInto_68 rfl ?_
          refine g_goto 76 C dX3_seekPlansInto_69 rfl (by decide) ?_
          exact pX3_seekPlansInto_76 C M L v1 v2 v3 v4 ((10 * v3) + v4) hj21 hj30 u3
set_option maxRecDepth 20000 in
set_option maxHeartbeats 4000000 in
theorem pX3_seekPlansInto_30 {Γ : GX} (C : Cx Γ RX3 cX3_seekPlansInto 5) (M : Mx Γ none) (L : xn Γ = 5) (v1 : Int32) (v3 : Int32) {j21 : Int32 → Int32 → Mm → Option Mm} (hj21 : ∀ (v2 : Int32) (v3 : Int32) (u : Mm), Gp Γ (QM Γ cvV) 21 [(0, .ref ((xE Γ).1 57)), (1, .int v1), (2, .int v2), (3, .int v3)] [] u (j21 v2 v3 u)) : ∀ (n : Nat) (v2 : Int32) (v4 : Int32) (u : Mm), Gp Γ (QM Γ cvV) 30 [(0, .ref ((xE Γ).1 57)), (1, .int v1), (2, .int v2), (3, .int v3), (4, .int v4)] [] u (gX3_seekPlansInto_30_L j21 v1 v3 n v2 v4 u) := by
  intro n
  induction n with
  | zero => intro _ _ _; exact g_none
  | succ n ih => intro v2 v4 u; exact pX3_seekPlansInto_30s C M L v1 v3 hj21 ih v2 v4 u

set_option maxRecDepth 20000 in
set_option maxHeartbeats 4000000 in
theorem pX3_seekPlansInto_21s {Γ : GX} (C : Cx Γ RX3 cX3_seekPlansInto 5) (M : Mx Γ none) (L : xn Γ = 5) (v1 : Int32) {j21 : Int32 → Int32 → Mm → Option Mm} (hj21 : ∀ (v2 : Int32) (v3 : Int32) (u : Mm), Gp Γ (QM Γ cvV) 21 [(0, .ref ((xE Γ).1 57)), (1, .int v1), (2, .int v2), (3, .int v3)] [] u (j21 v2 v3 u)) (v2 : Int32) (v3 : Int32) (u : Mm) : Gp Γ (QM Γ cvV) 21 [(0, .ref ((xE Γ).1 57)), (1, .int v1), (2, .int v2), (3, .int v3)] [] u (gX3_seekPlansInto_21_Ls v1 j21 v2 v3 u) := by
  unfold gX3_seekPlansInto_21_Ls
  refine g_iload_n C dX3_seekPlansInto_21 rfl 3 rfl ?_
  refine g_bipush (v := 30) C dX3_seekPlansInto_22 rfl (by decide) ?_
  refine g_icmp_gt 138 C dX3_seekPlansInto_24 rfl (by decide) (fun c1 => ?_) (fun c1 => ?_)
  · exact g_vret C M dX3_seekPlansInto_138 rfl rfl
  · refine g_iconst (v := 0) C dX3_seekPlansInto_27 rfl (by decide) ?_
    refine g_istore (ls' := [(4, .int 0), (0, .ref ((xE Γ).1 57)), (1, .int v1), (2, .int v2), (3, .int v3)]) C dX3_seekPlansInto_28 rfl L (by decide) rfl ?_
    refine g_sub (ls' := [(0, .ref ((xE Γ).1 57)), (1, .int v1), (2, .int v2), (3, .int v3), (4, .int 0)]) [1, 2, 3, 4, 0] rfl ?_
    exact pX3_seekPlansInto_30 C M L v1 v3 hj21 FU v2 0 u
set_option maxRecDepth 20000 in
set_option maxHeartbeats 4000000 in
theorem pX3_seekPlansInto_21 {Γ : GX} (C : Cx Γ RX3 cX3_seekPlansInto 5) (M : Mx Γ none) (L : xn Γ = 5) (v1 : Int32) : ∀ (n : Nat) (v2 : Int32) (v3 : Int32) (u : Mm), Gp Γ (QM Γ cvV) 21 [(0, .ref ((xE Γ).1 57)), (1, .int v1), (2, .int v2), (3, .int v3)] [] u (gX3_seekPlansInto_21_L v1 n v2 v3 u) := by
  intro n
  induction n with
  | zero => intro _ _ _; exact g_none
  | succ n ih => intro v2 v3 u; exact pX3_seekPlansInto_21s C M L v1 ih v2 v3 u

set_option maxRecDepth 20000 in
set_option maxHeartbeats 4000000 in
theorem pX3_seekPlansInto_0 {Γ : GX} (C : Cx Γ RX3 cX3_seekPlansInto 5) (M : Mx Γ none) (L : xn Γ = 5) (v1 : Int32) (u : Mm) : Gp Γ (QM Γ cvV) 0 [(0, .ref ((xE Γ).1 57)), (1, .int v1)] [] u (gX3_seekPlansInto_b v1 u) := by
  unfold gX3_seekPlansInto_b
  refine g_aload_n C dX3_seekPlansInto_0 rfl 0 rfl ?_
  refine g_iconst (v := 0) C dX3_seekPlansInto_1 rfl (by decide) ?_
  refine g_putI C dX3_seekPlansInto_2 rfl rfl fp_3_6 rfl fl_X3_128 ?_
  refine g_letm (fun u1 => ?_)
  refine g_aload_n C dX3_seekPlansInto_5 rfl 0 rfl ?_
  refine g_bipush (v := (-9)) C dX3_seekPlansInto_6 rfl (by decide) ?_
  refine g_putI C dX3_seekPlansInto_8 rfl rfl fp_3_7 rfl fl_X3_131 ?_
  refine g_letm (fun u2 => ?_)
  refine g_aload_n C dX3_seekPlansInto_11 rfl 0 rfl ?_
  refine g_bipush (v := (-9)) C dX3_seekPlansInto_12 rfl (by decide) ?_
  refine g_putI C dX3_seekPlansInto_14 rfl rfl fp_3_8 rfl fl_X3_134 ?_
  refine g_letm (fun u3 => ?_)
  refine g_iconst (v := 0) C dX3_seekPlansInto_17 rfl (by decide) ?_
  refine g_istore_n (ls' := [(2, .int 0), (0, .ref ((xE Γ).1 57)), (1, .int v1)]) C dX3_seekPlansInto_18 rfl L (by decide) rfl ?_
  refine g_iconst (v := 0) C dX3_seekPlansInto_19 rfl (by decide) ?_
  refine g_istore_n (ls' := [(3, .int 0), (2, .int 0), (0, .ref ((xE Γ).1 57)), (1, .int v1)]) C dX3_seekPlansInto_20 rfl L (by decide) rfl ?_
  refine g_sub (ls' := [(0, .ref ((xE Γ).1 57)), (1, .int v1), (2, .int 0), (3, .int 0)]) [2, 3, 1, 0] rfl ?_
  exact pX3_seekPlansInto_21 C M L v1 FU 0 0 u3
set_option maxRecDepth 20000 in
set_option maxHeartbeats 4000000 in
theorem tX3_seekPlansInto (l : Launch) (E : EE) (v1 : Int32) (u : Mm) : Ct l E yX3_seekPlansInto cX3_seekPlansInto 5 none 5 [.ref (E.1 57), .int v1] u cvV (gX3_seekPlansInto v1 u) :=
  Ct_of (own := RX3) (by decide +kernel) rfl (Nat.le_of_ble_eq_true rfl) (fun p e R s m args below meth c C M => g_sub (ls' := [(0, .ref (E.1 57)), (1, .int v1)]) [0, 1] rfl (pX3_seekPlansInto_0 C M rfl v1 u))
set_option maxRecDepth 20000 in
set_option maxHeartbeats 4000000 in
theorem pX3_seekCheapest_58 {Γ : GX} (C : Cx Γ RX3 cX3_seekCheapest 5) (M : Mx Γ none) (L : xn Γ = 4) (v1 : Int32) (v2 : Int32) (v3 : Int32) {j14 : Int32 → Mm → Option Mm} (hj14 : ∀ (v1 : Int32) (u : Mm), Gp Γ (QM Γ cvV) 14 [(0, .ref ((xE Γ).1 57)), (1, .int v1)] [] u (j14 v1 u)) {j22 : Int32 → Mm → Option Mm} (hj22 : ∀ (v2 : Int32) (u : Mm), Gp Γ (QM Γ cvV) 22 [(0, .ref ((xE Γ).1 57)), (1, .int v1), (2, .int v2)] [] u (j22 v2 u)) (u : Mm) : Gp Γ (QM Γ cvV) 58 [(0, .ref ((xE Γ).1 57)), (1, .int v1), (2, .int v2), (3, .int v3)] [] u (gX3_seekCheapest_58 j14 j22 v1 v2 v3 u) := by
  unfold gX3_seekCheapest_58
  refine g_aload_n C dX3_seekCheapest_58 rfl 0 rfl ?_
  refine g_bipush (v := 10) C dX3_seekCheapest_59 rfl (by decide) ?_
  refine g_iload_n C dX3_seekCheapest_61 rfl 1 rfl ?_
  refine g_imul C dX3_seekCheapest_62 rfl ?_
  refine g_iload_n C dX3_seekCheapest_63 rfl 2 rfl ?_
  refine g_iadd C dX3_seekCheapest_64 rfl ?_
  refine g_putI C dX3_seekCheapest_65 rfl rfl fp_3_9 rfl fl_X3_137 ?_
  refine g_letm (fun u1 => ?_)
  refine g_aload_n C dX3_seekCheapest_68 rfl 0 rfl ?_
  refine g_iload_n C dX3_seekCheapest_69 rfl 3 rfl ?_
  refine g_putI C dX3_seekCheapest_70 rfl rfl fp_3_10 rfl fl_X3_140 ?_
  refine g_letm (fun u2 => ?_)
  refine g_iincL (fun v2_3 => [(2, .int v2_3), (0, .ref ((xE Γ).1 57)), (1, .int v1), (3, .int v3)]) C dX3_seekCheapest_73 rfl L (by decide) (k := 2) rfl (iinc_1 _) (fun _ => rfl) (fun v2_3 => ?_)
  refine g_goto 22 C dX3_seekCheapest_76 rfl (by decide) ?_
  refine g_sub (ls' := [(0, .ref ((xE Γ).1 57)), (1, .int v1), (2, .int v2_3)]) [1, 2, 0] rfl ?_
  exact hj22 v2_3 u2
set_option maxRecDepth 20000 in
set_option maxHeartbeats 4000000 in
theorem pX3_seekCheapest_22s {Γ : GX} (C : Cx Γ RX3 cX3_seekCheapest 5) (M : Mx Γ none) (L : xn Γ = 4) (v1 : Int32) {j14 : Int32 → Mm → Option Mm} (hj14 : ∀ (v1 : Int32) (u : Mm), Gp Γ (QM Γ cvV) 14 [(0, .ref ((xE Γ).1 57)), (1, .int v1)] [] u (j14 v1 u)) {j22 : Int32 → Mm → Option Mm} (hj22 : ∀ (v2 : Int32) (u : Mm), Gp Γ (QM Γ cvV) 22 [(0, .ref ((xE Γ).1 57)), (1, .int v1), (2, .int v2)] [] u (j22 v2 u)) (v2 : Int32) (u : Mm) : Gp Γ (QM Γ cvV) 22 [(0, .ref ((xE Γ).1 57)), (1, .int v1), (2, .int v2)] [] u (gX3_seekCheapest_22_Ls j14 v1 j22 v2 u) := by
  unfold gX3_seekCheapest_22_Ls
  refine g_iload_n C dX3_seekCheapest_22 rfl 2 rfl ?_
  refine g_iconst (v := 5) C dX3_seekCheapest_23 rfl (by decide) ?_
  refine g_icmp_gt 79 C dX3_seekCheapest_24 rfl (by decide) (fun c1 => ?_) (fun c1 => ?_)
  · refine g_iincL (fun v1_2 => [(1, .int v1_2), (0, .ref ((xE Γ).1 57)), (2, .int v2)]) C dX3_seekCheapest_79 rfl L (by decide) (k := 1) rfl (iinc_1 _) (fun _ => rfl) (fun v1_2 => ?_)
    refine g_goto 14 C dX3_seekCheapest_82 rfl (by decide) ?_
    refine g_sub (ls' := [(0, .ref ((xE Γ).1 57)), (1, .int v1_2)]) [1, 0] rfl ?_
    exact hj14 v1_2 u
  · refine g_aload_n C dX3_seekCheapest_27 rfl 0 rfl ?_
    refine g_iload_n C dX3_seekCheapest_28 rfl 1 rfl ?_
    refine g_iload_n C dX3_seekCheapest_29 rfl 2 rfl ?_
    refine g_callI [.int v1, .int v2] C dX3_seekCheapest_30 rfl (tX3_follow (xl Γ) (xE Γ) v1 v2 u) cf_X3_follow rfl rfl ml_X3_124 rfl (by decide) (Nat.le_of_ble_eq_true rfl) rfl (fun r4 u3 => ?_)
    refine g_if_eq 73 C dX3_seekCheapest_33 rfl (by decide) (fun c5 => ?_) (fun c5 => ?_)
    · refine g_iincL (fun v2_6 => [(2, .int v2_6), (0, .ref ((xE Γ).1 57)), (1, .int v1)]) C dX3_seekCheapest_73 rfl L (by decide) (k := 2) rfl (iinc_1 _) (fun _ => rfl) (fun v2_6 => ?_)
      refine g_goto 22 C dX3_seekCheapest_76 rfl (by decide) ?_
      refine g_sub (ls' := [(0, .ref ((xE Γ).1 57)), (1, .int v1), (2, .int v2_6)]) [1, 2, 0] rfl ?_
      exact hj22 v2_6 u3
    · refine g_aload_n C dX3_seekCheapest_36 rfl 0 rfl ?_
      refine g_callP [] C dX3_seekCheapest_37 rfl (tX3_costThere (xl Γ) (xE Γ) u3) cf_X3_costThere rfl rfl ml_X3_143 rfl (by decide) (Nat.le_of_ble_eq_true rfl) rfl (fun r7 => ?_)
      refine g_istore_n (ls' := [(3, .int r7), (0, .ref ((xE Γ).1 57)), (1, .int v1), (2, .int v2)]) C dX3_seekCheapest_40 rfl L (by decide) rfl ?_
      refine g_aload_n C dX3_seekCheapest_41 rfl 1 rfl ?_
      refine g_getI C dX3_seekCheapest_42 rfl rfl fi_3_9 rfl fl_X3_137 ?_
      refine g_bipush (v := (-9)) C dX3_seekCheapest_45 rfl (by decide) ?_
      refine g_icmp_eq 58 C dX3_seekCheapest_47 rfl (by decide) (fun c8 => ?_) (fun c8 => ?_)
      · refine g_sub (ls' := [(0, .ref ((xE Γ).1 57)), (1, .int v1), (2, .int v2), (3, .int r7)]) [1, 2, 3, 0] rfl ?_
        exact pX3_seekCheapest_58 C M L v1 v2 r7 hj14 hj22 u3
      · refine g_iload_n C dX3_seekCheapest_50 rfl 0 rfl ?_
        refine g_aload_n C dX3_seekCheapest_51 rfl 1 rfl ?_
        refine g_getI C dX3_seekCheapest_52 rfl rfl fi_3_10 rfl fl_X3_140 ?_
        refine g_icmp_ge 73 C dX3_seekCheapest_55 rfl (by decide) (fun c9 => ?_) (fun c9 => ?_)
        · refine g_iincL (fun v2_10 => [(2, .int v2_10), (3, .int r7), (0, .ref ((xE Γ).1 57)), (1, .int v1)]) C dX3_seekCheapest_73 rfl L (by decide) (k := 3) rfl (iinc_1 _) (fun _ => rfl) (fun v2_10 => ?_)
          refine g_goto 22 C dX3_seekCheapest_76 rfl (by decide) ?_
          refine g_sub (ls' := [(0, .ref ((xE Γ).1 57)), (1, .int v1), (2, .int v2_10)]) [2, 3, 0] rfl ?_
          exact hj22 v2_10 u3
        · refine g_sub (ls' := [(0, .ref ((xE Γ).1 57)), (1, .int v1), (2, .int v2), (3, .int r7)]) [1, 2, 3, 0] rfl ?_
          exact pX3_seekCheapest_58 C M L v1 v2 r7 hj14 hj22 u3
set_option maxRecDepth 20000 in
set_option maxHeartbeats 4000000 in
theorem pX3_seekCheapest_22 {Γ : GX} (C : Cx Γ RX3 cX3_seekCheapest 5) (M : Mx Γ none) (L : xn Γ = 4) (v1 : Int32) {j14 : Int32 → Mm → Option Mm} (hj14 : ∀ (v1 : Int32) (u : Mm), Gp Γ (QM Γ cvV) 14 [(0, .ref ((xE Γ).1 57)), (1, .int v1)] [] u (j14 v1 u)) : ∀ (n : Nat) (v2 : Int32) (u : Mm), Gp Γ (QM Γ cvV) 22 [(0, .ref ((xE Γ).1 57)), (1, .int v1), (2, .int v2)] [] u (gX3_seekCheapest_22_L j14 v1 n v2 u) := by
  intro n
  induction n with
  | zero => intro _ _; exact g_none
  | succ n ih => intro v2 u; exact pX3_seekCheapest_22s C M L v1 hj14 ih v2 u

set_option maxRecDepth 20000 in
set_option maxHeartbeats 4000000 in
theorem pX3_seekCheapest_14s {Γ : GX} (C : Cx Γ RX3 cX3_seekCheapest 5) (M : Mx Γ none) (L : xn Γ = 4) {j14 : Int32 → Mm → Option Mm} (hj14 : ∀ (v1 : Int32) (u : Mm), Gp Γ (QM Γ cvV) 14 [(0, .ref ((xE Γ).1 57)), (1, .int v1)] [] u (j14 v1 u)) (v1 : Int32) (u : Mm) : Gp Γ (QM Γ cvV) 14 [(0, .ref ((xE Γ).1 57)), (1, .int v1)] [] u (gX3_seekCheapest_14_Ls j14 v1 u) := by
  unfold gX3_seekCheapest_14_Ls
  refine g_iload_n C dX3_seekCheapest_14 rfl 1 rfl ?_
  refine g_bipush (v := 30) C dX3_seekCheapest_15 rfl (by decide) ?_
  refine g_icmp_gt 85 C dX3_seekCheapest_17 rfl (by decide) (fun c1 => ?_) (fun c1 => ?_)
  · exact g_vret C M dX3_seekCheapest_85 rfl rfl
  · refine g_iconst (v := 0) C dX3_seekCheapest_20 rfl (by decide) ?_
    refine g_istore_n (ls' := [(2, .int 0), (0, .ref ((xE Γ).1 57)), (1, .int v1)]) C dX3_seekCheapest_21 rfl L (by decide) rfl ?_
    refine g_sub (ls' := [(0, .ref ((xE Γ).1 57)), (1, .int v1), (2, .int 0)]) [1, 2, 0] rfl ?_
    exact pX3_seekCheapest_22 C M L v1 hj14 FU 0 u
set_option maxRecDepth 20000 in
set_option maxHeartbeats 4000000 in
theorem pX3_seekCheapest_14 {Γ : GX} (C : Cx Γ RX3 cX3_seekCheapest 5) (M : Mx Γ none) (L : xn Γ = 4) : ∀ (n : Nat) (v1 : Int32) (u : Mm), Gp Γ (QM Γ cvV) 14 [(0, .ref ((xE Γ).1 57)), (1, .int v1)] [] u (gX3_seekCheapest_14_L n v1 u) := by
  intro n
  induction n with
  | zero => intro _ _; exact g_none
  | succ n ih => intro v1 u; exact pX3_seekCheapest_14s C M L ih v1 u

set_option maxRecDepth 20000 in
set_option maxHeartbeats 4000000 in
theorem pX3_seekCheapest_0 {Γ : GX} (C : Cx Γ RX3 cX3_seekCheapest 5) (M : Mx Γ none) (L : xn Γ = 4) (u : Mm) : Gp Γ (QM Γ cvV) 0 [(0, .ref ((xE Γ).1 57))] [] u (gX3_seekCheapest_b u) := by
  unfold gX3_seekCheapest_b
  refine g_aload_n C dX3_seekCheapest_0 rfl 0 rfl ?_
  refine g_bipush (v := (-9)) C dX3_seekCheapest_1 rfl (by decide) ?_
  refine g_putI C dX3_seekCheapest_3 rfl rfl fp_3_9 rfl fl_X3_137 ?_
  refine g_letm (fun u1 => ?_)
  refine g_aload_n C dX3_seekCheapest_6 rfl 0 rfl ?_
  refine g_bipush (v := (-9)) C dX3_seekCheapest_7 rfl (by decide) ?_
  refine g_putI C dX3_seekCheapest_9 rfl rfl fp_3_10 rfl fl_X3_140 ?_
  refine g_letm (fun u2 => ?_)
  refine g_iconst (v := 0) C dX3_seekCheapest_12 rfl (by decide) ?_
  refine g_istore_n (ls' := [(1, .int 0), (0, .ref ((xE Γ).1 57))]) C dX3_seekCheapest_13 rfl L (by decide) rfl ?_
  refine g_sub (ls' := [(0, .ref ((xE Γ).1 57)), (1, .int 0)]) [1, 0] rfl ?_
  exact pX3_seekCheapest_14 C M L FU 0 u2
set_option maxRecDepth 20000 in
set_option maxHeartbeats 4000000 in
theorem tX3_seekCheapest (l : Launch) (E : EE) (u : Mm) : Ct l E yX3_seekCheapest cX3_seekCheapest 4 none 5 [.ref (E.1 57)] u cvV (gX3_seekCheapest u) :=
  Ct_of (own := RX3) (by decide +kernel) rfl (Nat.le_of_ble_eq_true rfl) (fun p e R s m args below meth c C M => g_sub (ls' := [(0, .ref (E.1 57))]) [0] rfl (pX3_seekCheapest_0 C M rfl u))
set_option maxRecDepth 20000 in
set_option maxHeartbeats 4000000 in
theorem pX3_fieldsWithin_51 {Γ : GX} (C : Cx Γ RX3 cX3_fieldsWithin 5) (M : Mx Γ (some .int)) (L : xn Γ = 5) (v2 : Int32) (v3 : Int32) (s0 : Int32) (s1 : Int32) {j4 : Int32 → Int32 → Mm → Option (Int32 × Mm)} (hj4 : ∀ (v1 : Int32) (v2 : Int32) (u : Mm), Gp Γ (QM Γ cvI) 4 [(0, .ref ((xE Γ).1 57)), (1, .int v1), (2, .int v2)] [] u (j4 v1 v2 u)) {j12 : Int32 → Int32 → Mm → Option (Int32 × Mm)} (hj12 : ∀ (v1 : Int32) (v3 : Int32) (u : Mm), Gp Γ (QM Γ cvI) 12 [(0, .ref ((xE Γ).1 57)), (1, .int v1), (2, .int v2), (3, .int v3)] [] u (j12 v1 v3 u)) (u : Mm) : Gp Γ (QM Γ cvI) 51 [(0, .ref ((xE Γ).1 57)), (2, .int v2), (3, .int v3)] [.int s0, .int s1] u (gX3_fieldsWithin_51 j4 j12 v2 v3 s0 s1 u) := by
  unfold gX3_fieldsWithin_51
  refine g_ior C dX3_fieldsWithin_51 rfl ?_
  refine g_lets (fun v1_1 => ?_)
  refine g_istore_n (ls' := [(1, .int v1_1), (0, .ref ((xE Γ).1 57)), (2, .int v2), (3, .int v3)]) C dX3_fieldsWithin_52 rfl L (by decide) rfl ?_
  refine g_iincL (fun v3_2 => [(3, .int v3_2), (1, .int v1_1), (0, .ref ((xE Γ).1 57)), (2, .int v2)]) C dX3_fieldsWithin_53 rfl L (by decide) (k := 3) rfl (iinc_1 _) (fun _ => rfl) (fun v3_2 => ?_)
  refine g_goto 12 C dX3_fieldsWithin_56 rfl (by decide) ?_
  refine g_sub (ls' := [(0, .ref ((xE Γ).1 57)), (1, .int v1_1), (2, .int v2), (3, .int v3_2)]) [2, 1, 3, 0] rfl ?_
  exact hj12 v1_1 v3_2 u
set_option maxRecDepth 20000 in
set_option maxHeartbeats 4000000 in
theorem pX3_fieldsWithin_35 {Γ : GX} (C : Cx Γ RX3 cX3_fieldsWithin 5) (M : Mx Γ (some .int)) (L : xn Γ = 5) (v1 : Int32) (v2 : Int32) (v3 : Int32) (s0 : Int32) {j4 : Int32 → Int32 → Mm → Option (Int32 × Mm)} (hj4 : ∀ (v1 : Int32) (v2 : Int32) (u : Mm), Gp Γ (QM Γ cvI) 4 [(0, .ref ((xE Γ).1 57)), (1, .int v1), (2, .int v2)] [] u (j4 v1 v2 u)) {j12 : Int32 → Int32 → Mm → Option (Int32 × Mm)} (hj12 : ∀ (v1 : Int32) (v3 : Int32) (u : Mm), Gp Γ (QM Γ cvI) 12 [(0, .ref ((xE Γ).1 57)), (1, .int v1), (2, .int v2), (3, .int v3)] [] u (j12 v1 v3 u)) (u : Mm) : Gp Γ (QM Γ cvI) 35 [(0, .ref ((xE Γ).1 57)), (1, .int v1), (2, .int v2), (3, .int v3)] [.int s0] u (gX3_fieldsWithin_35 j4 j12 v1 v2 v3 s0 u) := by
  unfold gX3_fieldsWithin_35
  refine g_istore (ls' := [(4, .int s0), (0, .ref ((xE Γ).1 57)), (1, .int v1), (2, .int v2), (3, .int v3)]) C dX3_fieldsWithin_35 rfl L (by decide) rfl ?_
  refine g_iload_n C dX3_fieldsWithin_37 rfl 2 rfl ?_
  refine g_iload C dX3_fieldsWithin_38 rfl 0 rfl ?_
  refine g_if_lt 50 C dX3_fieldsWithin_40 rfl (by decide) (fun c1 => ?_) (fun c1 => ?_)
  · refine g_iconst (v := 0) C dX3_fieldsWithin_50 rfl (by decide) ?_
    refine g_sub (ls' := [(0, .ref ((xE Γ).1 57)), (2, .int v2), (3, .int v3)]) [1, 3, 4] rfl ?_
    exact pX3_fieldsWithin_51 C M L v2 v3 0 v1 hj4 hj12 u
  · refine g_iconst (v := 1) C dX3_fieldsWithin_43 rfl (by decide) ?_
    refine g_iload C dX3_fieldsWithin_44 rfl 0 rfl ?_
    refine g_ishl C dX3_fieldsWithin_46 rfl ?_
    refine g_goto 51 C dX3_fieldsWithin_47 rfl (by decide) ?_
    refine g_sub (ls' := [(0, .ref ((xE Γ).1 57)), (2, .int v2), (3, .int v3)]) [1, 3, 4] rfl ?_
    exact pX3_fieldsWithin_51 C M L v2 v3 (shl 1 s0) v1 hj4 hj12 u
set_option maxRecDepth 20000 in
set_option maxHeartbeats 4000000 in
theorem pX3_fieldsWithin_12s {Γ : GX} (C : Cx Γ RX3 cX3_fieldsWithin 5) (M : Mx Γ (some .int)) (L : xn Γ = 5) (v2 : Int32) {j4 : Int32 → Int32 → Mm → Option (Int32 × Mm)} (hj4 : ∀ (v1 : Int32) (v2 : Int32) (u : Mm), Gp Γ (QM Γ cvI) 4 [(0, .ref ((xE Γ).1 57)), (1, .int v1), (2, .int v2)] [] u (j4 v1 v2 u)) {j12 : Int32 → Int32 → Mm → Option (Int32 × Mm)} (hj12 : ∀ (v1 : Int32) (v3 : Int32) (u : Mm), Gp Γ (QM Γ cvI) 12 [(0, .ref ((xE Γ).1 57)), (1, .int v1), (2, .int v2), (3, .int v3)] [] u (j12 v1 v3 u)) (v1 : Int32) (v3 : Int32) (u : Mm) : Gp Γ (QM Γ cvI) 12 [(0, .ref ((xE Γ).1 57)), (1, .int v1), (2, .int v2), (3, .int v3)] [] u (gX3_fieldsWithin_12_Ls j4 v2 j12 v1 v3 u) := by
  unfold gX3_fieldsWithin_12_Ls
  refine g_iload_n C dX3_fieldsWithin_12 rfl 3 rfl ?_
  refine g_iconst (v := 5) C dX3_fieldsWithin_13 rfl (by decide) ?_
  refine g_icmp_gt 59 C dX3_fieldsWithin_14 rfl (by decide) (fun c1 => ?_) (fun c1 => ?_)
  · refine g_iincL (fun v2_2 => [(2, .int v2_2), (0, .ref ((xE Γ).1 57)), (1, .int v1), (3, .int v3)]) C dX3_fieldsWithin_59 rfl L (by decide) (k := 2) rfl (iinc_1 _) (fun _ => rfl) (fun v2_2 => ?_)
    refine g_goto 4 C dX3_fieldsWithin_62 rfl (by decide) ?_
    refine g_sub (ls' := [(0, .ref ((xE Γ).1 57)), (1, .int v1), (2, .int v2_2)]) [1, 2, 0] rfl ?_
    exact hj4 v1 v2_2 u
  · refine g_aload_n C dX3_fieldsWithin_17 rfl 0 rfl ?_
    refine g_iload_n C dX3_fieldsWithin_18 rfl 2 rfl ?_
    refine g_iload_n C dX3_fieldsWithin_19 rfl 3 rfl ?_
    refine g_callI [.int v2, .int v3] C dX3_fieldsWithin_20 rfl (tX3_follow (xl Γ) (xE Γ) v2 v3 u) cf_X3_follow rfl rfl ml_X3_124 rfl (by decide) (Nat.le_of_ble_eq_true rfl) rfl (fun r4 u3 => ?_)
    refine g_if_eq 33 C dX3_fieldsWithin_23 rfl (by decide) (fun c5 => ?_) (fun c5 => ?_)
    · refine g_bipush (v := (-9)) C dX3_fieldsWithin_33 rfl (by decide) ?_
      exact pX3_fieldsWithin_35 C M L v1 v2 v3 (-9) hj4 hj12 u3
    · refine g_aload_n C dX3_fieldsWithin_26 rfl 0 rfl ?_
      refine g_callP [] C dX3_fieldsWithin_27 rfl (tX3_fieldThere (xl Γ) (xE Γ) u3) cf_X3_fieldThere rfl rfl ml_X3_114 rfl (by decide) (Nat.le_of_ble_eq_true rfl) rfl (fun r6 => ?_)
      refine g_goto 35 C dX3_fieldsWithin_30 rfl (by decide) ?_
      exact pX3_fieldsWithin_35 C M L v1 v2 v3 r6 hj4 hj12 u3
set_option maxRecDepth 20000 in
set_option maxHeartbeats 4000000 in
theorem pX3_fieldsWithin_12 {Γ : GX} (C : Cx Γ RX3 cX3_fieldsWithin 5) (M : Mx Γ (some .int)) (L : xn Γ = 5) (v2 : Int32) {j4 : Int32 → Int32 → Mm → Option (Int32 × Mm)} (hj4 : ∀ (v1 : Int32) (v2 : Int32) (u : Mm), Gp Γ (QM Γ cvI) 4 [(0, .ref ((xE Γ).1 57)), (1, .int v1), (2, .int v2)] [] u (j4 v1 v2 u)) : ∀ (n : Nat) (v1 : Int32) (v3 : Int32) (u : Mm), Gp Γ (QM Γ cvI) 12 [(0, .ref ((xE Γ).1 57)), (1, .int v1), (2, .int v2), (3, .int v3)] [] u (gX3_fieldsWithin_12_L j4 v2 n v1 v3 u) := by
  intro n
  induction n with
  | zero => intro _ _ _; exact g_none
  | succ n ih => intro v1 v3 u; exact pX3_fieldsWithin_12s C M L v2 hj4 ih v1 v3 u

set_option maxRecDepth 20000 in
set_option maxHeartbeats 4000000 in
theorem pX3_fieldsWithin_4s {Γ : GX} (C : Cx Γ RX3 cX3_fieldsWithin 5) (M : Mx Γ (some .int)) (L : xn Γ = 5) {j4 : Int32 → Int32 → Mm → Option (Int32 × Mm)} (hj4 : ∀ (v1 : Int32) (v2 : Int32) (u : Mm), Gp Γ (QM Γ cvI) 4 [(0, .ref ((xE Γ).1 57)), (1, .int v1), (2, .int v2)] [] u (j4 v1 v2 u)) (v1 : Int32) (v2 : Int32) (u : Mm) : Gp Γ (QM Γ cvI) 4 [(0, .ref ((xE Γ).1 57)), (1, .int v1), (2, .int v2)] [] u (gX3_fieldsWithin_4_Ls j4 v1 v2 u) := by
  unfold gX3_fieldsWithin_4_Ls
  refine g_iload_n C dX3_fieldsWithin_4 rfl 2 rfl ?_
  refine g_bipush (v := 30) C dX3_fieldsWithin_5 rfl (by decide) ?_
  refine g_icmp_gt 65 C dX3_fieldsWithin_7 rfl (by decide) (fun c1 => ?_) (fun c1 => ?_)
  · refine g_iload_n C dX3_fieldsWithin_65 rfl 1 rfl ?_
    exact g_iret C M dX3_fieldsWithin_66 rfl rfl
  · refine g_iconst (v := 0) C dX3_fieldsWithin_10 rfl (by decide) ?_
    refine g_istore_n (ls' := [(3, .int 0), (0, .ref ((xE Γ).1 57)), (1, .int v1), (2, .int v2)]) C dX3_fieldsWithin_11 rfl L (by decide) rfl ?_
    refine g_sub (ls' := [(0, .ref ((xE Γ).1 57)), (1, .int v1), (2, .int v2), (3, .int 0)]) [1, 2, 3, 0] rfl ?_
    exact pX3_fieldsWithin_12 C M L v2 hj4 FU v1 0 u
set_option maxRecDepth 20000 in
set_option maxHeartbeats 4000000 in
theorem pX3_fieldsWithin_4 {Γ : GX} (C : Cx Γ RX3 cX3_fieldsWithin 5) (M : Mx Γ (some .int)) (L : xn Γ = 5) : ∀ (n : Nat) (v1 : Int32) (v2 : Int32) (u : Mm), Gp Γ (QM Γ cvI) 4 [(0, .ref ((xE Γ).1 57)), (1, .int v1), (2, .int v2)] [] u (gX3_fieldsWithin_4_L n v1 v2 u) := by
  intro n
  induction n with
  | zero => intro _ _ _; exact g_none
  | succ n ih => intro v1 v2 u; exact pX3_fieldsWithin_4s C M L ih v1 v2 u

set_option maxRecDepth 20000 in
set_option maxHeartbeats 4000000 in
theorem pX3_fieldsWithin_0 {Γ : GX} (C : Cx Γ RX3 cX3_fieldsWithin 5) (M : Mx Γ (some .int)) (L : xn Γ = 5) (u : Mm) : Gp Γ (QM Γ cvI) 0 [(0, .ref ((xE Γ).1 57))] [] u (gX3_fieldsWithin_b u) := by
  unfold gX3_fieldsWithin_b
  refine g_iconst (v := 0) C dX3_fieldsWithin_0 rfl (by decide) ?_
  refine g_istore_n (ls' := [(1, .int 0), (0, .ref ((xE Γ).1 57))]) C dX3_fieldsWithin_1 rfl L (by decide) rfl ?_
  refine g_iconst (v := 0) C dX3_fieldsWithin_2 rfl (by decide) ?_
  refine g_istore_n (ls' := [(2, .int 0), (1, .int 0), (0, .ref ((xE Γ).1 57))]) C dX3_fieldsWithin_3 rfl L (by decide) rfl ?_
  refine g_sub (ls' := [(0, .ref ((xE Γ).1 57)), (1, .int 0), (2, .int 0)]) [2, 1, 0] rfl ?_
  exact pX3_fieldsWithin_4 C M L FU 0 0 u
set_option maxRecDepth 20000 in
set_option maxHeartbeats 4000000 in
theorem tX3_fieldsWithin (l : Launch) (E : EE) (u : Mm) : Ct l E yX3_fieldsWithin cX3_fieldsWithin 5 (some .int) 5 [.ref (E.1 57)] u cvI (gX3_fieldsWithin u) :=
  Ct_of (own := RX3) (by decide +kernel) rfl (Nat.le_of_ble_eq_true rfl) (fun p e R s m args below meth c C M => g_sub (ls' := [(0, .ref (E.1 57))]) [0] rfl (pX3_fieldsWithin_0 C M rfl u))
