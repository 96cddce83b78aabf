set_option maxRecDepth 20000 in
set_option maxHeartbeats 4000000 in
theorem pX11_fieldComes_44 {Γ : GX} (C : Cx Γ RX11 cX11_fieldComes 1) (M : Mx Γ (some .boolean)) (L : xn Γ = 3) (v1 : Int32) (s0 : Int32) (u : Mm) : Gp Γ (QM Γ cvI) 44 [(0, .ref ((xE Γ).1 74)), (1, .int v1)] [.int s0] u (gX11_fieldComes_44 v1 s0 u) := by
  unfold gX11_fieldComes_44
  refine g_istore_n (ls' := [(2, .int s0), (0, .ref ((xE Γ).1 74)), (1, .int v1)]) C dX11_fieldComes_44 rfl L (by decide) rfl ?_
  refine g_iload_n C dX11_fieldComes_45 rfl 0 rfl ?_
  refine g_if_eq 142 C dX11_fieldComes_46 rfl (by decide) (fun c1 => ?_) (fun c1 => ?_)
  · refine g_iload_n C dX11_fieldComes_142 rfl 0 rfl ?_
    refine g_gd (fun hb2 => ?_)
    exact g_zret C M dX11_fieldComes_143 rfl hb2 rfl
  · refine g_aload_n C dX11_fieldComes_49 rfl 1 rfl ?_
    refine g_getR (k2 := 78) C dX11_fieldComes_50 rfl rfl fi_11_12 ⟨by decide, by decide, rfl⟩ fl_X11_35 ?_
    refine g_aload_n C dX11_fieldComes_53 rfl 1 rfl ?_
    refine g_getI C dX11_fieldComes_54 rfl rfl fi_11_11 rfl fl_X11_111 ?_
    refine g_aload_n C dX11_fieldComes_57 rfl 1 rfl ?_
    refine g_getR (k2 := 88) C dX11_fieldComes_58 rfl rfl fi_11_29 ⟨by decide, by decide, rfl⟩ fl_X11_65 ?_
    refine g_iload_n C dX11_fieldComes_61 rfl 2 rfl ?_
    refine g_gd (fun hi3 => ?_)
    refine g_iald C dX11_fieldComes_62 rfl rfl rfl hi3 ?_
    refine g_gd (fun hi5 => ?_)
    refine g_iast C dX11_fieldComes_63 rfl rfl rfl hi5 ?_
    refine g_letm (fun u4 => ?_)
    refine g_aload_n C dX11_fieldComes_64 rfl 1 rfl ?_
    refine g_getR (k2 := 79) C dX11_fieldComes_65 rfl rfl fi_11_13 ⟨by decide, by decide, rfl⟩ fl_X11_38 ?_
    refine g_aload_n C dX11_fieldComes_68 rfl 1 rfl ?_
    refine g_getI C dX11_fieldComes_69 rfl rfl fi_11_11 rfl fl_X11_111 ?_
    refine g_aload_n C dX11_fieldComes_72 rfl 1 rfl ?_
    refine g_getR (k2 := 88) C dX11_fieldComes_73 rfl rfl fi_11_29 ⟨by decide, by decide, rfl⟩ fl_X11_65 ?_
    refine g_iload_n C dX11_fieldComes_76 rfl 2 rfl ?_
    refine g_iconst (v := 1) C dX11_fieldComes_77 rfl (by decide) ?_
    refine g_iadd C dX11_fieldComes_78 rfl ?_
    refine g_gd (fun hi6 => ?_)
    refine g_iald C dX11_fieldComes_79 rfl rfl rfl hi6 ?_
    refine g_gd (fun hi8 => ?_)
    refine g_iast C dX11_fieldComes_80 rfl rfl rfl hi8 ?_
    refine g_letm (fun u7 => ?_)
    refine g_aload_n C dX11_fieldComes_81 rfl 1 rfl ?_
    refine g_getR (k2 := 80) C dX11_fieldComes_82 rfl rfl fi_11_14 ⟨by decide, by decide, rfl⟩ fl_X11_41 ?_
    refine g_aload_n C dX11_fieldComes_85 rfl 1 rfl ?_
    refine g_getI C dX11_fieldComes_86 rfl rfl fi_11_11 rfl fl_X11_111 ?_
    refine g_aload_n C dX11_fieldComes_89 rfl 1 rfl ?_
    refine g_getR (k2 := 88) C dX11_fieldComes_90 rfl rfl fi_11_29 ⟨by decide, by decide, rfl⟩ fl_X11_65 ?_
    refine g_iload_n C dX11_fieldComes_93 rfl 2 rfl ?_
    refine g_iconst (v := 2) C dX11_fieldComes_94 rfl (by decide) ?_
    refine g_iadd C dX11_fieldComes_95 rfl ?_
    refine g_gd (fun hi9 => ?_)
    refine g_iald C dX11_fieldComes_96 rfl rfl rfl hi9 ?_
    refine g_gd (fun hi11 => ?_)
    refine g_iast C dX11_fieldComes_97 rfl rfl rfl hi11 ?_
    refine g_letm (fun u10 => ?_)
    refine g_aload_n C dX11_fieldComes_98 rfl 1 rfl ?_
    refine g_getR (k2 := 81) C dX11_fieldComes_99 rfl rfl fi_11_15 ⟨by decide, by decide, rfl⟩ fl_X11_44 ?_
    refine g_aload_n C dX11_fieldComes_102 rfl 1 rfl ?_
    refine g_getI C dX11_fieldComes_103 rfl rfl fi_11_11 rfl fl_X11_111 ?_
    refine g_aload_n C dX11_fieldComes_106 rfl 1 rfl ?_
    refine g_getR (k2 := 88) C dX11_fieldComes_107 rfl rfl fi_11_29 ⟨by decide, by decide, rfl⟩ fl_X11_65 ?_
    refine g_iload_n C dX11_fieldComes_110 rfl 2 rfl ?_
    refine g_iconst (v := 3) C dX11_fieldComes_111 rfl (by decide) ?_
    refine g_iadd C dX11_fieldComes_112 rfl ?_
    refine g_gd (fun hi12 => ?_)
    refine g_iald C dX11_fieldComes_113 rfl rfl rfl hi12 ?_
    refine g_gd (fun hi14 => ?_)
    refine g_iast C dX11_fieldComes_114 rfl rfl rfl hi14 ?_
    refine g_letm (fun u13 => ?_)
    refine g_aload_n C dX11_fieldComes_115 rfl 1 rfl ?_
    refine g_getR (k2 := 82) C dX11_fieldComes_116 rfl rfl fi_11_16 ⟨by decide, by decide, rfl⟩ fl_X11_47 ?_
    refine g_aload_n C dX11_fieldComes_119 rfl 1 rfl ?_
    refine g_getI C dX11_fieldComes_120 rfl rfl fi_11_11 rfl fl_X11_111 ?_
    refine g_aload_n C dX11_fieldComes_123 rfl 1 rfl ?_
    refine g_getR (k2 := 88) C dX11_fieldComes_124 rfl rfl fi_11_29 ⟨by decide, by decide, rfl⟩ fl_X11_65 ?_
    refine g_iload_n C dX11_fieldComes_127 rfl 2 rfl ?_
    refine g_iconst (v := 4) C dX11_fieldComes_128 rfl (by decide) ?_
    refine g_iadd C dX11_fieldComes_129 rfl ?_
    refine g_gd (fun hi15 => ?_)
    refine g_iald C dX11_fieldComes_130 rfl rfl rfl hi15 ?_
    refine g_gd (fun hi17 => ?_)
    refine g_iast C dX11_fieldComes_131 rfl rfl rfl hi17 ?_
    refine g_letm (fun u16 => ?_)
    refine g_aload_n C dX11_fieldComes_132 rfl 1 rfl ?_
    refine g_dup C dX11_fieldComes_133 rfl rfl ?_
    refine g_getI C dX11_fieldComes_134 rfl rfl fi_11_11 rfl fl_X11_111 ?_
    refine g_iconst (v := 1) C dX11_fieldComes_137 rfl (by decide) ?_
    refine g_iadd C dX11_fieldComes_138 rfl ?_
    refine g_putI C dX11_fieldComes_139 rfl rfl fp_11_11 rfl fl_X11_111 ?_
    refine g_letm (fun u18 => ?_)
    refine g_iload_n C dX11_fieldComes_142 rfl 0 rfl ?_
    refine g_gd (fun hb19 => ?_)
    exact g_zret C M dX11_fieldComes_143 rfl hb19 rfl
set_option maxRecDepth 20000 in
set_option maxHeartbeats 4000000 in
theorem pX11_fieldComes_43 {Γ : GX} (C : Cx Γ RX11 cX11_fieldComes 1) (M : Mx Γ (some .boolean)) (L : xn Γ = 3) (v1 : Int32) (u : Mm) : Gp Γ (QM Γ cvI) 43 [(0, .ref ((xE Γ).1 74)), (1, .int v1)] [] u (gX11_fieldComes_43 v1 u) := by
  unfold gX11_fieldComes_43
  refine g_iconst (v := 0) C dX11_fieldComes_43 rfl (by decide) ?_
  exact pX11_fieldComes_44 C M L v1 0 u
set_option maxRecDepth 20000 in
set_option maxHeartbeats 4000000 in
theorem pX11_fieldComes_0 {Γ : GX} (C : Cx Γ RX11 cX11_fieldComes 1) (M : Mx Γ (some .boolean)) (L : xn Γ = 3) (v1 : Int32) (u : Mm) : Gp Γ (QM Γ cvI) 0 [(0, .ref ((xE Γ).1 74)), (1, .int v1)] [] u (gX11_fieldComes_b v1 u) := by
  unfold gX11_fieldComes_b
  refine g_aload_n C dX11_fieldComes_0 rfl 0 rfl ?_
  refine g_getR (k2 := 88) C dX11_fieldComes_1 rfl rfl fi_11_29 ⟨by decide, by decide, rfl⟩ fl_X11_65 ?_
  refine g_iload_n C dX11_fieldComes_4 rfl 1 rfl ?_
  refine g_gd (fun hi1 => ?_)
  refine g_iald C dX11_fieldComes_5 rfl rfl rfl hi1 ?_
  refine g_bipush (v := 6) C dX11_fieldComes_6 rfl (by decide) ?_
  refine g_icmp_ge 43 C dX11_fieldComes_8 rfl (by decide) (fun c2 => ?_) (fun c2 => ?_)
  · exact pX11_fieldComes_43 C M L v1 u
  · refine g_aload_n C dX11_fieldComes_11 rfl 0 rfl ?_
    refine g_getR (k2 := 88) C dX11_fieldComes_12 rfl rfl fi_11_29 ⟨by decide, by decide, rfl⟩ fl_X11_65 ?_
    refine g_iload_n C dX11_fieldComes_15 rfl 1 rfl ?_
    refine g_iconst (v := 4) C dX11_fieldComes_16 rfl (by decide) ?_
    refine g_iadd C dX11_fieldComes_17 rfl ?_
    refine g_gd (fun hi3 => ?_)
    refine g_iald C dX11_fieldComes_18 rfl rfl rfl hi3 ?_
    refine g_i2l C dX11_fieldComes_19 rfl ?_
    refine g_lconst (v := 1) C dX11_fieldComes_20 rfl (by decide) ?_
    refine g_ldc2_w (v := 30) C dX11_fieldComes_21 rfl (wm_18 8 rfl) ?_
    refine g_callsP [.long ((u 88 (ixn (v1 + 4))).toInt64), .long 1, .long 30] C dX11_fieldComes_24 rfl (tX11_in (xl Γ) (xE Γ) ((u 88 (ixn (v1 + 4))).toInt64) 1 30 u) cf_X11_in ml_X11_107 rfl (by decide) (Nat.le_of_ble_eq_true rfl) rfl (fun r4 => ?_)
    refine g_if_eq 43 C dX11_fieldComes_27 rfl (by decide) (fun c5 => ?_) (fun c5 => ?_)
    · exact pX11_fieldComes_43 C M L v1 u
    · refine g_aload_n C dX11_fieldComes_30 rfl 0 rfl ?_
      refine g_getI C dX11_fieldComes_31 rfl rfl fi_11_11 rfl fl_X11_111 ?_
      refine g_bipush (v := 8) C dX11_fieldComes_34 rfl (by decide) ?_
      refine g_icmp_ge 43 C dX11_fieldComes_36 rfl (by decide) (fun c6 => ?_) (fun c6 => ?_)
      · exact pX11_fieldComes_43 C M L v1 u
      · refine g_iconst (v := 1) C dX11_fieldComes_39 rfl (by decide) ?_
        refine g_goto 44 C dX11_fieldComes_40 rfl (by decide) ?_
        exact pX11_fieldComes_44 C M L v1 1 u
set_option maxRecDepth 20000 in
set_option maxHeartbeats 4000000 in
theorem tX11_fieldComes (l : Launch) (E : EE) (v1 : Int32) (u : Mm) : Ct l E yX11_fieldComes cX11_fieldComes 3 (some .boolean) 1 [.ref (E.1 74), .int v1] u cvI (gX11_fieldComes v1 u) :=
  Ct_of (own := RX11) (by decide +kernel) rfl (Nat.le_of_ble_eq_true rfl) (fun p e R s m args below meth c C M => g_sub (ls' := [(0, .ref (E.1 74)), (1, .int v1)]) [0, 1] rfl (pX11_fieldComes_0 C M rfl v1 u))
set_option maxRecDepth 20000 in
set_option maxHeartbeats 4000000 in
theorem pX11_lagBecomes_0 {Γ : GX} (C : Cx Γ RX11 cX11_lagBecomes 1) (M : Mx Γ none) (L : xn Γ = 2) (v1 : Int32) (u : Mm) : Gp Γ (QM Γ cvV) 0 [(0, .ref ((xE Γ).1 74)), (1, .int v1)] [] u (gX11_lagBecomes_b v1 u) := by
  unfold gX11_lagBecomes_b
  refine g_iload_n C dX11_lagBecomes_0 rfl 1 rfl ?_
  refine g_aload_n C dX11_lagBecomes_1 rfl 0 rfl ?_
  refine g_getI C dX11_lagBecomes_2 rfl rfl fi_11_8 rfl fl_X11_29 ?_
  refine g_icmp_eq 12 C dX11_lagBecomes_5 rfl (by decide) (fun c1 => ?_) (fun c1 => ?_)
  · refine g_aload_n C dX11_lagBecomes_12 rfl 0 rfl ?_
    refine g_iload_n C dX11_lagBecomes_13 rfl 1 rfl ?_
    refine g_putI C dX11_lagBecomes_14 rfl rfl fp_11_8 rfl fl_X11_29 ?_
    refine g_letm (fun u2 => ?_)
    exact g_vret C M dX11_lagBecomes_17 rfl rfl
  · refine g_aload_n C dX11_lagBecomes_8 rfl 0 rfl ?_
    refine g_callV [] C dX11_lagBecomes_9 rfl (tX11_forgetWork (xl Γ) (xE Γ) u) cf_X11_forgetWork rfl rfl ml_X11_191 rfl (by decide) (Nat.le_of_ble_eq_true rfl) rfl (fun u3 => ?_)
    refine g_aload_n C dX11_lagBecomes_12 rfl 0 rfl ?_
    refine g_iload_n C dX11_lagBecomes_13 rfl 1 rfl ?_
    refine g_putI C dX11_lagBecomes_14 rfl rfl fp_11_8 rfl fl_X11_29 ?_
    refine g_letm (fun u4 => ?_)
    exact g_vret C M dX11_lagBecomes_17 rfl rfl
set_option maxRecDepth 20000 in
set_option maxHeartbeats 4000000 in
theorem tX11_lagBecomes (l : Launch) (E : EE) (v1 : Int32) (u : Mm) : Ct l E yX11_lagBecomes cX11_lagBecomes 2 none 1 [.ref (E.1 74), .int v1] u cvV (gX11_lagBecomes v1 u) :=
  Ct_of (own := RX11) (by decide +kernel) rfl (Nat.le_of_ble_eq_true rfl) (fun p e R s m args below meth c C M => g_sub (ls' := [(0, .ref (E.1 74)), (1, .int v1)]) [0, 1] rfl (pX11_lagBecomes_0 C M rfl v1 u))
set_option maxRecDepth 20000 in
set_option maxHeartbeats 4000000 in
theorem pX11_settingsCome_108 {Γ : GX} (C : Cx Γ RX11 cX11_settingsCome 2) (M : Mx Γ (some .boolean)) (L : xn Γ = 4) (v2 : Int32) (v3 : Int32) (s0 : Int32) (u : Mm) : Gp Γ (QM Γ cvI) 108 [(0, .ref ((xE Γ).1 74)), (2, .int v2), (3, .int v3)] [.int s0, .ref ((xE Γ).1 74)] u (gX11_settingsCome_108 v2 v3 s0 u) := by
  unfold gX11_settingsCome_108
  refine g_putI C dX11_settingsCome_108 rfl rfl fp_11_6 rfl fl_X11_23 ?_
  refine g_letm (fun u1 => ?_)
  refine g_aload_n C dX11_settingsCome_111 rfl 0 rfl ?_
  refine g_iload_n C dX11_settingsCome_112 rfl 2 rfl ?_
  refine g_if_eq 127 C dX11_settingsCome_113 rfl (by decide) (fun c2 => ?_) (fun c2 => ?_)
  · refine g_aload_n C dX11_settingsCome_127 rfl 0 rfl ?_
    refine g_getI C dX11_settingsCome_128 rfl rfl fi_11_7 rfl fl_X11_26 ?_
    refine g_putI C dX11_settingsCome_131 rfl rfl fp_11_7 rfl fl_X11_26 ?_
    refine g_letm (fun u3 => ?_)
    refine g_goto 224 C dX11_settingsCome_134 rfl (by decide) ?_
    refine g_iload_n C dX11_settingsCome_224 rfl 2 rfl ?_
    refine g_gd (fun hb4 => ?_)
    exact g_zret C M dX11_settingsCome_225 rfl hb4 rfl
  · refine g_aload_n C dX11_settingsCome_116 rfl 0 rfl ?_
    refine g_getR (k2 := 88) C dX11_settingsCome_117 rfl rfl fi_11_29 ⟨by decide, by decide, rfl⟩ fl_X11_65 ?_
    refine g_iload_n C dX11_settingsCome_120 rfl 1 rfl ?_
    refine g_iconst (v := 2) C dX11_settingsCome_121 rfl (by decide) ?_
    refine g_iadd C dX11_settingsCome_122 rfl ?_
    refine g_gd (fun hi5 => ?_)
    refine g_iald C dX11_settingsCome_123 rfl rfl rfl hi5 ?_
    refine g_goto 131 C dX11_settingsCome_124 rfl (by decide) ?_
    refine g_putI C dX11_settingsCome_131 rfl rfl fp_11_7 rfl fl_X11_26 ?_
    refine g_letm (fun u6 => ?_)
    refine g_goto 224 C dX11_settingsCome_134 rfl (by decide) ?_
    refine g_iload_n C dX11_settingsCome_224 rfl 2 rfl ?_
    refine g_gd (fun hb7 => ?_)
    exact g_zret C M dX11_settingsCome_225 rfl hb7 rfl
set_option maxRecDepth 20000 in
set_option maxHeartbeats 4000000 in
theorem pX11_settingsCome_85 {Γ : GX} (C : Cx Γ RX11 cX11_settingsCome 2) (M : Mx Γ (some .boolean)) (L : xn Γ = 4) (v2 : Int32) (v3 : Int32) (s0 : Int32) (u : Mm) : Gp Γ (QM Γ cvI) 85 [(0, .ref ((xE Γ).1 74)), (2, .int v2), (3, .int v3)] [.int s0, .ref ((xE Γ).1 74)] u (gX11_settingsCome_85 v2 v3 s0 u) := by
  unfold gX11_settingsCome_85
  refine g_putI C dX11_settingsCome_85 rfl rfl fp_11_5 rfl fl_X11_20 ?_
  refine g_letm (fun u1 => ?_)
  refine g_aload_n C dX11_settingsCome_88 rfl 0 rfl ?_
  refine g_iload_n C dX11_settingsCome_89 rfl 2 rfl ?_
  refine g_if_eq 104 C dX11_settingsCome_90 rfl (by decide) (fun c2 => ?_) (fun c2 => ?_)
  · refine g_aload_n C dX11_settingsCome_104 rfl 0 rfl ?_
    refine g_getI C dX11_settingsCome_105 rfl rfl fi_11_6 rfl fl_X11_23 ?_
    exact pX11_settingsCome_108 C M L v2 v3 (u1 74 6) u1
  · refine g_aload_n C dX11_settingsCome_93 rfl 0 rfl ?_
    refine g_getR (k2 := 88) C dX11_settingsCome_94 rfl rfl fi_11_29 ⟨by decide, by decide, rfl⟩ fl_X11_65 ?_
    refine g_iload_n C dX11_settingsCome_97 rfl 1 rfl ?_
    refine g_iconst (v := 1) C dX11_settingsCome_98 rfl (by decide) ?_
    refine g_iadd C dX11_settingsCome_99 rfl ?_
    refine g_gd (fun hi3 => ?_)
    refine g_iald C dX11_settingsCome_100 rfl rfl rfl hi3 ?_
    refine g_goto 108 C dX11_settingsCome_101 rfl (by decide) ?_
    exact pX11_settingsCome_108 C M L v2 v3 (u1 88 (ixn (v2 + 1))) u1
set_option maxRecDepth 20000 in
set_option maxHeartbeats 4000000 in
theorem pX11_settingsCome_66 {Γ : GX} (C : Cx Γ RX11 cX11_settingsCome 2) (M : Mx Γ (some .boolean)) (L : xn Γ = 4) (v2 : Int32) (s0 : Int32) (u : Mm) : Gp Γ (QM Γ cvI) 66 [(0, .ref ((xE Γ).1 74)), (2, .int v2)] [.int s0] u (gX11_settingsCome_66 v2 s0 u) := by
  unfold gX11_settingsCome_66
  refine g_istore_n (ls' := [(3, .int s0), (0, .ref ((xE Γ).1 74)), (2, .int v2)]) C dX11_settingsCome_66 rfl L (by decide) rfl ?_
  refine g_aload_n C dX11_settingsCome_67 rfl 1 rfl ?_
  refine g_iload_n C dX11_settingsCome_68 rfl 0 rfl ?_
  refine g_if_eq 81 C dX11_settingsCome_69 rfl (by decide) (fun c1 => ?_) (fun c1 => ?_)
  · refine g_aload_n C dX11_settingsCome_81 rfl 1 rfl ?_
    refine g_getI C dX11_settingsCome_82 rfl rfl fi_11_5 rfl fl_X11_20 ?_
    refine g_sub (ls' := [(0, .ref ((xE Γ).1 74)), (2, .int v2), (3, .int s0)]) [1, 2, 0] rfl ?_
    exact pX11_settingsCome_85 C M L v2 s0 (u 74 5) u
  · refine g_aload_n C dX11_settingsCome_72 rfl 1 rfl ?_
    refine g_getR (k2 := 88) C dX11_settingsCome_73 rfl rfl fi_11_29 ⟨by decide, by decide, rfl⟩ fl_X11_65 ?_
    refine g_iload_n C dX11_settingsCome_76 rfl 2 rfl ?_
    refine g_gd (fun hi2 => ?_)
    refine g_iald C dX11_settingsCome_77 rfl rfl rfl hi2 ?_
    refine g_goto 85 C dX11_settingsCome_78 rfl (by decide) ?_
    refine g_sub (ls' := [(0, .ref ((xE Γ).1 74)), (2, .int v2), (3, .int s0)]) [1, 2, 0] rfl ?_
    exact pX11_settingsCome_85 C M L v2 s0 (u 88 (ixn v2)) u
set_option maxRecDepth 20000 in
set_option maxHeartbeats 4000000 in
theorem pX11_settingsCome_65 {Γ : GX} (C : Cx Γ RX11 cX11_settingsCome 2) (M : Mx Γ (some .boolean)) (L : xn Γ = 4) (v2 : Int32) (u : Mm) : Gp Γ (QM Γ cvI) 65 [(0, .ref ((xE Γ).1 74)), (2, .int v2)] [] u (gX11_settingsCome_65 v2 u) := by
  unfold gX11_settingsCome_65
  refine g_iconst (v := 0) C dX11_settingsCome_65 rfl (by decide) ?_
  exact pX11_settingsCome_66 C M L v2 0 u
set_option maxRecDepth 20000 in
set_option maxHeartbeats 4000000 in
theorem pX11_settingsCome_164 {Γ : GX} (C : Cx Γ RX11 cX11_settingsCome 2) (M : Mx Γ (some .boolean)) (L : xn Γ = 4) (v2 : Int32) (s0 : Int32) (u : Mm) : Gp Γ (QM Γ cvI) 164 [(0, .ref ((xE Γ).1 74)), (2, .int v2)] [.int s0] u (gX11_settingsCome_164 v2 s0 u) := by
  unfold gX11_settingsCome_164
  refine g_istore_n (ls' := [(3, .int s0), (0, .ref ((xE Γ).1 74)), (2, .int v2)]) C dX11_settingsCome_164 rfl L (by decide) rfl ?_
  refine g_aload_n C dX11_settingsCome_165 rfl 1 rfl ?_
  refine g_iload_n C dX11_settingsCome_166 rfl 0 rfl ?_
  refine g_if_eq 179 C dX11_settingsCome_167 rfl (by decide) (fun c1 => ?_) (fun c1 => ?_)
  · refine g_aload_n C dX11_settingsCome_179 rfl 1 rfl ?_
    refine g_getI C dX11_settingsCome_180 rfl rfl fi_11_2 rfl fl_X11_127 ?_
    refine g_putI C dX11_settingsCome_183 rfl rfl fp_11_2 rfl fl_X11_127 ?_
    refine g_letm (fun u2 => ?_)
    refine g_goto 224 C dX11_settingsCome_186 rfl (by decide) ?_
    refine g_iload_n C dX11_settingsCome_224 rfl 0 rfl ?_
    refine g_gd (fun hb3 => ?_)
    exact g_zret C M dX11_settingsCome_225 rfl hb3 rfl
  · refine g_aload_n C dX11_settingsCome_170 rfl 1 rfl ?_
    refine g_getR (k2 := 88) C dX11_settingsCome_171 rfl rfl fi_11_29 ⟨by decide, by decide, rfl⟩ fl_X11_65 ?_
    refine g_iload_n C dX11_settingsCome_174 rfl 2 rfl ?_
    refine g_gd (fun hi4 => ?_)
    refine g_iald C dX11_settingsCome_175 rfl rfl rfl hi4 ?_
    refine g_goto 183 C dX11_settingsCome_176 rfl (by decide) ?_
    refine g_putI C dX11_settingsCome_183 rfl rfl fp_11_2 rfl fl_X11_127 ?_
    refine g_letm (fun u5 => ?_)
    refine g_goto 224 C dX11_settingsCome_186 rfl (by decide) ?_
    refine g_iload_n C dX11_settingsCome_224 rfl 0 rfl ?_
    refine g_gd (fun hb6 => ?_)
    exact g_zret C M dX11_settingsCome_225 rfl hb6 rfl
set_option maxRecDepth 20000 in
set_option maxHeartbeats 4000000 in
theorem pX11_settingsCome_205 {Γ : GX} (C : Cx Γ RX11 cX11_settingsCome 2) (M : Mx Γ (some .boolean)) (L : xn Γ = 4) (v2 : Int32) (s0 : Int32) (u : Mm) : Gp Γ (QM Γ cvI) 205 [(0, .ref ((xE Γ).1 74)), (2, .int v2)] [.int s0] u (gX11_settingsCome_205 v2 s0 u) := by
  unfold gX11_settingsCome_205
  refine g_istore_n (ls' := [(3, .int s0), (0, .ref ((xE Γ).1 74)), (2, .int v2)]) C dX11_settingsCome_205 rfl L (by decide) rfl ?_
  refine g_iload_n C dX11_settingsCome_206 rfl 0 rfl ?_
  refine g_if_eq 224 C dX11_settingsCome_207 rfl (by decide) (fun c1 => ?_) (fun c1 => ?_)
  · refine g_iload_n C dX11_settingsCome_224 rfl 0 rfl ?_
    refine g_gd (fun hb2 => ?_)
    exact g_zret C M dX11_settingsCome_225 rfl hb2 rfl
  · refine g_aload_n C dX11_settingsCome_210 rfl 1 rfl ?_
    refine g_aload_n C dX11_settingsCome_211 rfl 1 rfl ?_
    refine g_getR (k2 := 88) C dX11_settingsCome_212 rfl rfl fi_11_29 ⟨by decide, by decide, rfl⟩ fl_X11_65 ?_
    refine g_iload_n C dX11_settingsCome_215 rfl 2 rfl ?_
    refine g_gd (fun hi3 => ?_)
    refine g_iald C dX11_settingsCome_216 rfl rfl rfl hi3 ?_
    refine g_callV [.int (u 88 (ixn v2))] C dX11_settingsCome_217 rfl (tX11_lagBecomes (xl Γ) (xE Γ) (u 88 (ixn v2)) u) cf_X11_lagBecomes rfl rfl ml_X11_196 rfl (by decide) (Nat.le_of_ble_eq_true rfl) rfl (fun u4 => ?_)
    refine g_aload_n C dX11_settingsCome_220 rfl 1 rfl ?_
    refine g_callV [] C dX11_settingsCome_221 rfl (tX11_forgetWork (xl Γ) (xE Γ) u4) cf_X11_forgetWork rfl rfl ml_X11_191 rfl (by decide) (Nat.le_of_ble_eq_true rfl) rfl (fun u5 => ?_)
    refine g_iload_n C dX11_settingsCome_224 rfl 0 rfl ?_
    refine g_gd (fun hb6 => ?_)
    exact g_zret C M dX11_settingsCome_225 rfl hb6 rfl
set_option maxRecDepth 20000 in
set_option maxHeartbeats 4000000 in
theorem pX11_settingsCome_0 {Γ : GX} (C : Cx Γ RX11 cX11_settingsCome 2) (M : Mx Γ (some .boolean)) (L : xn Γ = 4) (v1 : Int32) (u : Mm) : Gp Γ (QM Γ cvI) 0 [(0, .ref ((xE Γ).1 74)), (1, .int v1)] [] u (gX11_settingsCome_b v1 u) := by
  unfold gX11_settingsCome_b
  refine g_bipush (v := 9) C dX11_settingsCome_0 rfl (by decide) ?_
  refine g_iload_n C dX11_settingsCome_2 rfl 1 rfl ?_
  refine g_imul C dX11_settingsCome_3 rfl ?_
  refine g_lets (fun v2_1 => ?_)
  refine g_istore_n (ls' := [(2, .int v2_1), (0, .ref ((xE Γ).1 74)), (1, .int v1)]) C dX11_settingsCome_4 rfl L (by decide) rfl ?_
  refine g_iconst (v := 0) C dX11_settingsCome_5 rfl (by decide) ?_
  refine g_istore_n (ls' := [(3, .int 0), (2, .int v2_1), (0, .ref ((xE Γ).1 74)), (1, .int v1)]) C dX11_settingsCome_6 rfl L (by decide) rfl ?_
  refine g_aload_n C dX11_settingsCome_7 rfl 2 rfl ?_
  refine g_getR (k2 := 87) C dX11_settingsCome_8 rfl rfl fi_11_28 ⟨by decide, by decide, rfl⟩ fl_X11_62 ?_
  refine g_iload_n C dX11_settingsCome_11 rfl 3 rfl ?_
  refine g_gd (fun hi2 => ?_)
  refine g_iald C dX11_settingsCome_12 rfl rfl rfl hi2 ?_
  refine g_bipush (v := 98) C dX11_settingsCome_13 rfl (by decide) ?_
  refine g_icmp_ne 137 C dX11_settingsCome_15 rfl (by decide) (fun c3 => ?_) (fun c3 => ?_)
  · refine g_aload_n C dX11_settingsCome_137 rfl 2 rfl ?_
    refine g_getR (k2 := 87) C dX11_settingsCome_138 rfl rfl fi_11_28 ⟨by decide, by decide, rfl⟩ fl_X11_62 ?_
    refine g_iload_n C dX11_settingsCome_141 rfl 3 rfl ?_
    refine g_gd (fun hi4 => ?_)
    refine g_iald C dX11_settingsCome_142 rfl rfl rfl hi4 ?_
    refine g_bipush (v := 104) C dX11_settingsCome_143 rfl (by decide) ?_
    refine g_icmp_ne 189 C dX11_settingsCome_145 rfl (by decide) (fun c5 => ?_) (fun c5 => ?_)
    · refine g_aload_n C dX11_settingsCome_189 rfl 2 rfl ?_
      refine g_getR (k2 := 88) C dX11_settingsCome_190 rfl rfl fi_11_29 ⟨by decide, by decide, rfl⟩ fl_X11_65 ?_
      refine g_iload_n C dX11_settingsCome_193 rfl 1 rfl ?_
      refine g_gd (fun hi6 => ?_)
      refine g_iald C dX11_settingsCome_194 rfl rfl rfl hi6 ?_
      refine g_bipush (v := 6) C dX11_settingsCome_195 rfl (by decide) ?_
      refine g_icmp_ge 204 C dX11_settingsCome_197 rfl (by decide) (fun c7 => ?_) (fun c7 => ?_)
      · refine g_iconst (v := 0) C dX11_settingsCome_204 rfl (by decide) ?_
        refine g_sub (ls' := [(0, .ref ((xE Γ).1 74)), (2, .int v2_1)]) [2, 1] rfl ?_
        exact pX11_settingsCome_205 C M L v2_1 0 u
      · refine g_iconst (v := 1) C dX11_settingsCome_200 rfl (by decide) ?_
        refine g_goto 205 C dX11_settingsCome_201 rfl (by decide) ?_
        refine g_sub (ls' := [(0, .ref ((xE Γ).1 74)), (2, .int v2_1)]) [2, 1] rfl ?_
        exact pX11_settingsCome_205 C M L v2_1 1 u
    · refine g_aload_n C dX11_settingsCome_148 rfl 2 rfl ?_
      refine g_getR (k2 := 88) C dX11_settingsCome_149 rfl rfl fi_11_29 ⟨by decide, by decide, rfl⟩ fl_X11_65 ?_
      refine g_iload_n C dX11_settingsCome_152 rfl 1 rfl ?_
      refine g_gd (fun hi8 => ?_)
      refine g_iald C dX11_settingsCome_153 rfl rfl rfl hi8 ?_
      refine g_bipush (v := 40) C dX11_settingsCome_154 rfl (by decide) ?_
      refine g_icmp_ge 163 C dX11_settingsCome_156 rfl (by decide) (fun c9 => ?_) (fun c9 => ?_)
      · refine g_iconst (v := 0) C dX11_settingsCome_163 rfl (by decide) ?_
        refine g_sub (ls' := [(0, .ref ((xE Γ).1 74)), (2, .int v2_1)]) [2, 1] rfl ?_
        exact pX11_settingsCome_164 C M L v2_1 0 u
      · refine g_iconst (v := 1) C dX11_settingsCome_159 rfl (by decide) ?_
        refine g_goto 164 C dX11_settingsCome_160 rfl (by decide) ?_
        refine g_sub (ls' := [(0, .ref ((xE Γ).1 74)), (2, .int v2_1)]) [2, 1] rfl ?_
        exact pX11_settingsCome_164 C M L v2_1 1 u
  · refine g_aload_n C dX11_settingsCome_18 rfl 2 rfl ?_
    refine g_getR (k2 := 88) C dX11_settingsCome_19 rfl rfl fi_11_29 ⟨by decide, by decide, rfl⟩ fl_X11_65 ?_
    refine g_iload_n C dX11_settingsCome_22 rfl 1 rfl ?_
    refine g_gd (fun hi10 => ?_)
    refine g_iald C dX11_settingsCome_23 rfl rfl rfl hi10 ?_
    refine g_bipush (v := 60) C dX11_settingsCome_24 rfl (by decide) ?_
    refine g_icmp_gt 65 C dX11_settingsCome_26 rfl (by decide) (fun c11 => ?_) (fun c11 => ?_)
    · refine g_sub (ls' := [(0, .ref ((xE Γ).1 74)), (2, .int v2_1)]) [2, 1] rfl ?_
      exact pX11_settingsCome_65 C M L v2_1 u
    · refine g_aload_n C dX11_settingsCome_29 rfl 2 rfl ?_
      refine g_getR (k2 := 88) C dX11_settingsCome_30 rfl rfl fi_11_29 ⟨by decide, by decide, rfl⟩ fl_X11_65 ?_
      refine g_iload_n C dX11_settingsCome_33 rfl 1 rfl ?_
      refine g_iconst (v := 1) C dX11_settingsCome_34 rfl (by decide) ?_
      refine g_iadd C dX11_settingsCome_35 rfl ?_
      refine g_gd (fun hi12 => ?_)
      refine g_iald C dX11_settingsCome_36 rfl rfl rfl hi12 ?_
      refine g_bipush (v := 60) C dX11_settingsCome_37 rfl (by decide) ?_
      refine g_icmp_gt 65 C dX11_settingsCome_39 rfl (by decide) (fun c13 => ?_) (fun c13 => ?_)
      · refine g_sub (ls' := [(0, .ref ((xE Γ).1 74)), (2, .int v2_1)]) [2, 1] rfl ?_
        exact pX11_settingsCome_65 C M L v2_1 u
      · refine g_aload_n C dX11_settingsCome_42 rfl 2 rfl ?_
        refine g_getR (k2 := 88) C dX11_settingsCome_43 rfl rfl fi_11_29 ⟨by decide, by decide, rfl⟩ fl_X11_65 ?_
        refine g_iload_n C dX11_settingsCome_46 rfl 1 rfl ?_
        refine g_iconst (v := 2) C dX11_settingsCome_47 rfl (by decide) ?_
        refine g_iadd C dX11_settingsCome_48 rfl ?_
        refine g_gd (fun hi14 => ?_)
        refine g_iald C dX11_settingsCome_49 rfl rfl rfl hi14 ?_
        refine g_i2l C dX11_settingsCome_50 rfl ?_
        refine g_lconst (v := 1) C dX11_settingsCome_51 rfl (by decide) ?_
        refine g_ldc2_w (v := 6) C dX11_settingsCome_52 rfl (wm_19 17 rfl) ?_
        refine g_callsP [.long ((u 88 (ixn (v2_1 + 2))).toInt64), .long 1, .long 6] C dX11_settingsCome_55 rfl (tX11_in (xl Γ) (xE Γ) ((u 88 (ixn (v2_1 + 2))).toInt64) 1 6 u) cf_X11_in ml_X11_107 rfl (by decide) (Nat.le_of_ble_eq_true rfl) rfl (fun r15 => ?_)
        refine g_if_eq 65 C dX11_settingsCome_58 rfl (by decide) (fun c16 => ?_) (fun c16 => ?_)
        · refine g_sub (ls' := [(0, .ref ((xE Γ).1 74)), (2, .int v2_1)]) [2, 1] rfl ?_
          exact pX11_settingsCome_65 C M L v2_1 u
        · refine g_iconst (v := 1) C dX11_settingsCome_61 rfl (by decide) ?_
          refine g_goto 66 C dX11_settingsCome_62 rfl (by decide) ?_
          refine g_sub (ls' := [(0, .ref ((xE Γ).1 74)), (2, .int v2_1)]) [2, 1] rfl ?_
          exact pX11_settingsCome_66 C M L v2_1 1 u
set_option maxRecDepth 20000 in
set_option maxHeartbeats 4000000 in
theorem tX11_settingsCome (l : Launch) (E : EE) (v1 : Int32) (u : Mm) : Ct l E yX11_settingsCome cX11_settingsCome 4 (some .boolean) 2 [.ref (E.1 74), .int v1] u cvI (gX11_settingsCome v1 u) :=
  Ct_of (own := RX11) (by decide +kernel) rfl (Nat.le_of_ble_eq_true rfl) (fun p e R s m args below meth c C M => g_sub (ls' := [(0, .ref (E.1 74)), (1, .int v1)]) [0, 1] rfl (pX11_settingsCome_0 C M rfl v1 u))
set_option maxRecDepth 20000 in
set_option maxHeartbeats 4000000 in
theorem pX11_actsCome_41 {Γ : GX} (C : Cx Γ RX11 cX11_actsCome 3) (M : Mx Γ (some .boolean)) (L : xn Γ = 4) (v1 : Int32) (v2 : Int32) (v3 : Int32) {j2 : Int32 → Mm → Option (Int32 × Mm)} (hj2 : ∀ (v2 : Int32) (u : Mm), Gp Γ (QM Γ cvI) 2 [(0, .ref ((xE Γ).1 74)), (1, .int v1), (2, .int v2)] [] u (j2 v2 u)) (u : Mm) : Gp Γ (QM Γ cvI) 41 [(0, .ref ((xE Γ).1 74)), (1, .int v1), (2, .int v2), (3, .int v3)] [] u (gX11_actsCome_41 j2 v1 v2 v3 u) := by
  unfold gX11_actsCome_41
  refine g_aload_n C dX11_actsCome_41 rfl 0 rfl ?_
  refine g_getI C dX11_actsCome_42 rfl rfl fi_11_9 rfl fl_X11_136 ?_
  refine g_sipush (v := 999) C dX11_actsCome_45 rfl (by decide) ?_
  refine g_icmp_ne 53 C dX11_actsCome_48 rfl (by decide) (fun c1 => ?_) (fun c1 => ?_)
  · refine g_aload_n C dX11_actsCome_53 rfl 0 rfl ?_
    refine g_iload_n C dX11_actsCome_54 rfl 3 rfl ?_
    refine g_callV [.int v3] C dX11_actsCome_55 rfl (tX11_stepOn (xl Γ) (xE Γ) v3 u) cf_X11_stepOn rfl rfl ml_X11_142 rfl (by decide) (Nat.le_of_ble_eq_true rfl) rfl (fun u2 => ?_)
    refine g_iincL (fun v2_3 => [(2, .int v2_3), (0, .ref ((xE Γ).1 74)), (1, .int v1), (3, .int v3)]) C dX11_actsCome_58 rfl L (by decide) (k := 2) rfl (iinc_1 _) (fun _ => rfl) (fun v2_3 => ?_)
    refine g_goto 2 C dX11_actsCome_61 rfl (by decide) ?_
    refine g_sub (ls' := [(0, .ref ((xE Γ).1 74)), (1, .int v1), (2, .int v2_3)]) [1, 2, 0] rfl ?_
    exact hj2 v2_3 u2
  · refine g_iconst (v := 0) C dX11_actsCome_51 rfl (by decide) ?_
    exact g_zret C M dX11_actsCome_52 rfl (by decide) rfl
set_option maxRecDepth 20000 in
set_option maxHeartbeats 4000000 in
theorem pX11_actsCome_2s {Γ : GX} (C : Cx Γ RX11 cX11_actsCome 3) (M : Mx Γ (some .boolean)) (L : xn Γ = 4) (v1 : Int32) {j2 : Int32 → Mm → Option (Int32 × Mm)} (hj2 : ∀ (v2 : Int32) (u : Mm), Gp Γ (QM Γ cvI) 2 [(0, .ref ((xE Γ).1 74)), (1, .int v1), (2, .int v2)] [] u (j2 v2 u)) (v2 : Int32) (u : Mm) : Gp Γ (QM Γ cvI) 2 [(0, .ref ((xE Γ).1 74)), (1, .int v1), (2, .int v2)] [] u (gX11_actsCome_2_Ls v1 j2 v2 u) := by
  unfold gX11_actsCome_2_Ls
  refine g_iload_n C dX11_actsCome_2 rfl 2 rfl ?_
  refine g_aload_n C dX11_actsCome_3 rfl 0 rfl ?_
  refine g_getR (k2 := 89) C dX11_actsCome_4 rfl rfl fi_11_30 ⟨by decide, by decide, rfl⟩ fl_X11_68 ?_
  refine g_iload_n C dX11_actsCome_7 rfl 1 rfl ?_
  refine g_gd (fun hi1 => ?_)
  refine g_iald C dX11_actsCome_8 rfl rfl rfl hi1 ?_
  refine g_icmp_ge 64 C dX11_actsCome_9 rfl (by decide) (fun c2 => ?_) (fun c2 => ?_)
  · refine g_iconst (v := 1) C dX11_actsCome_64 rfl (by decide) ?_
    exact g_zret C M dX11_actsCome_65 rfl (by decide) rfl
  · refine g_aload_n C dX11_actsCome_12 rfl 0 rfl ?_
    refine g_getR (k2 := 88) C dX11_actsCome_13 rfl rfl fi_11_29 ⟨by decide, by decide, rfl⟩ fl_X11_65 ?_
    refine g_bipush (v := 9) C dX11_actsCome_16 rfl (by decide) ?_
    refine g_iload_n C dX11_actsCome_18 rfl 1 rfl ?_
    refine g_imul C dX11_actsCome_19 rfl ?_
    refine g_iload_n C dX11_actsCome_20 rfl 2 rfl ?_
    refine g_iadd C dX11_actsCome_21 rfl ?_
    refine g_gd (fun hi3 => ?_)
    refine g_iald C dX11_actsCome_22 rfl rfl rfl hi3 ?_
    refine g_lets (fun v3_4 => ?_)
    refine g_istore_n (ls' := [(3, .int v3_4), (0, .ref ((xE Γ).1 74)), (1, .int v1), (2, .int v2)]) C dX11_actsCome_23 rfl L (by decide) rfl ?_
    refine g_iload_n C dX11_actsCome_24 rfl 0 rfl ?_
    refine g_iconst (v := 2) C dX11_actsCome_25 rfl (by decide) ?_
    refine g_icmp_gt 51 C dX11_actsCome_26 rfl (by decide) (fun c5 => ?_) (fun c5 => ?_)
    · refine g_iconst (v := 0) C dX11_actsCome_51 rfl (by decide) ?_
      exact g_zret C M dX11_actsCome_52 rfl (by decide) rfl
    · refine g_iload_n C dX11_actsCome_29 rfl 0 rfl ?_
      refine g_iconst (v := 1) C dX11_actsCome_30 rfl (by decide) ?_
      refine g_icmp_ne 41 C dX11_actsCome_31 rfl (by decide) (fun c6 => ?_) (fun c6 => ?_)
      · refine g_sub (ls' := [(0, .ref ((xE Γ).1 74)), (1, .int v1), (2, .int v2), (3, .int v3_4)]) [1, 2, 3, 0] rfl ?_
        exact pX11_actsCome_41 C M L v1 v2 v3_4 hj2 u
      · refine g_aload_n C dX11_actsCome_34 rfl 1 rfl ?_
        refine g_getI C dX11_actsCome_35 rfl rfl fi_11_6 rfl fl_X11_23 ?_
        refine g_if_eq 51 C dX11_actsCome_38 rfl (by decide) (fun c7 => ?_) (fun c7 => ?_)
        · refine g_iconst (v := 0) C dX11_actsCome_51 rfl (by decide) ?_
          exact g_zret C M dX11_actsCome_52 rfl (by decide) rfl
        · refine g_sub (ls' := [(0, .ref ((xE Γ).1 74)), (1, .int v1), (2, .int v2), (3, .int v3_4)]) [1, 2, 3, 0] rfl ?_
          exact pX11_actsCome_41 C M L v1 v2 v3_4 hj2 u
set_option maxRecDepth 20000 in
set_option maxHeartbeats 4000000 in
theorem pX11_actsCome_2 {Γ : GX} (C : Cx Γ RX11 cX11_actsCome 3) (M : Mx Γ (some .boolean)) (L : xn Γ = 4) (v1 : Int32) : ∀ (n : Nat) (v2 : Int32) (u : Mm), Gp Γ (QM Γ cvI) 2 [(0, .ref ((xE Γ).1 74)), (1, .int v1), (2, .int v2)] [] u (gX11_actsCome_2_L v1 n v2 u) := by
  intro n
  induction n with
  | zero => intro _ _; exact g_none
  | succ n ih => intro v2 u; exact pX11_actsCome_2s C M L v1 ih v2 u

set_option maxRecDepth 20000 in
set_option maxHeartbeats 4000000 in
theorem pX11_actsCome_0 {Γ : GX} (C : Cx Γ RX11 cX11_actsCome 3) (M : Mx Γ (some .boolean)) (L : xn Γ = 4) (v1 : Int32) (u : Mm) : Gp Γ (QM Γ cvI) 0 [(0, .ref ((xE Γ).1 74)), (1, .int v1)] [] u (gX11_actsCome_b v1 u) := by
  unfold gX11_actsCome_b
  refine g_iconst (v := 0) C dX11_actsCome_0 rfl (by decide) ?_
  refine g_istore_n (ls' := [(2, .int 0), (0, .ref ((xE Γ).1 74)), (1, .int v1)]) C dX11_actsCome_1 rfl L (by decide) rfl ?_
  refine g_sub (ls' := [(0, .ref ((xE Γ).1 74)), (1, .int v1), (2, .int 0)]) [1, 2, 0] rfl ?_
  exact pX11_actsCome_2 C M L v1 FU 0 u
set_option maxRecDepth 20000 in
set_option maxHeartbeats 4000000 in
theorem tX11_actsCome (l : Launch) (E : EE) (v1 : Int32) (u : Mm) : Ct l E yX11_actsCome cX11_actsCome 4 (some .boolean) 3 [.ref (E.1 74), .int v1] u cvI (gX11_actsCome v1 u) :=
  Ct_of (own := RX11) (by decide +kernel) rfl (Nat.le_of_ble_eq_true rfl) (fun p e R s m args below meth c C M => g_sub (ls' := [(0, .ref (E.1 74)), (1, .int v1)]) [0, 1] rfl (pX11_actsCome_0 C M rfl v1 u))
set_option maxRecDepth 20000 in
set_option maxHeartbeats 4000000 in
theorem pX11_putRoad_0 {Γ : GX} (C : Cx Γ RX11 cX11_putRoad 0) (M : Mx Γ none) (L : xn Γ = 4) (v1 : Int32) (v2 : Int32) (v3 : Int32) (u : Mm) : Gp Γ (QM Γ cvV) 0 [(0, .ref ((xE Γ).1 74)), (1, .int v1), (2, .int v2), (3, .int v3)] [] u (gX11_putRoad_b v1 v2 v3 u) := by
  unfold gX11_putRoad_b
  refine g_aload_n C dX11_putRoad_0 rfl 0 rfl ?_
  refine g_getR (k2 := 83) C dX11_putRoad_1 rfl rfl fi_11_17 ⟨by decide, by decide, rfl⟩ fl_X11_50 ?_
  refine g_bipush (v := 8) C dX11_putRoad_4 rfl (by decide) ?_
  refine g_iload_n C dX11_putRoad_6 rfl 1 rfl ?_
  refine g_imul C dX11_putRoad_7 rfl ?_
  refine g_iload_n C dX11_putRoad_8 rfl 2 rfl ?_
  refine g_iadd C dX11_putRoad_9 rfl ?_
  refine g_iload_n C dX11_putRoad_10 rfl 3 rfl ?_
  refine g_gd (fun hi2 => ?_)
  refine g_iast C dX11_putRoad_11 rfl rfl rfl hi2 ?_
  refine g_letm (fun u1 => ?_)
  refine g_aload_n C dX11_putRoad_12 rfl 0 rfl ?_
  refine g_getR (k2 := 83) C dX11_putRoad_13 rfl rfl fi_11_17 ⟨by decide, by decide, rfl⟩ fl_X11_50 ?_
  refine g_bipush (v := 8) C dX11_putRoad_16 rfl (by decide) ?_
  refine g_iload_n C dX11_putRoad_18 rfl 2 rfl ?_
  refine g_imul C dX11_putRoad_19 rfl ?_
  refine g_iload_n C dX11_putRoad_20 rfl 1 rfl ?_
  refine g_iadd C dX11_putRoad_21 rfl ?_
  refine g_iload_n C dX11_putRoad_22 rfl 3 rfl ?_
  refine g_gd (fun hi4 => ?_)
  refine g_iast C dX11_putRoad_23 rfl rfl rfl hi4 ?_
  refine g_letm (fun u3 => ?_)
  exact g_vret C M dX11_putRoad_24 rfl rfl
set_option maxRecDepth 20000 in
set_option maxHeartbeats 4000000 in
theorem tX11_putRoad (l : Launch) (E : EE) (v1 : Int32) (v2 : Int32) (v3 : Int32) (u : Mm) : Ct l E yX11_putRoad cX11_putRoad 4 none 0 [.ref (E.1 74), .int v1, .int v2, .int v3] u cvV (gX11_putRoad v1 v2 v3 u) :=
  Ct_of (own := RX11) (by decide +kernel) rfl (Nat.le_of_ble_eq_true rfl) (fun p e R s m args below meth c C M => g_sub (ls' := [(0, .ref (E.1 74)), (1, .int v1), (2, .int v2), (3, .int v3)]) [0, 1, 2, 3] rfl (pX11_putRoad_0 C M rfl v1 v2 v3 u))
set_option maxRecDepth 20000 in
set_option maxHeartbeats 4000000 in
theorem pX11_comes_72 {Γ : GX} (C : Cx Γ RX11 cX11_comes 4) (M : Mx Γ (some .boolean)) (L : xn Γ = 4) (v2 : Int32) (s0 : Int32) (u : Mm) : Gp Γ (QM Γ cvI) 72 [(0, .ref ((xE Γ).1 74)), (2, .int v2)] [.int s0] u (gX11_comes_72 v2 s0 u) := by
  unfold gX11_comes_72
  refine g_istore_n (ls' := [(3, .int s0), (0, .ref ((xE Γ).1 74)), (2, .int v2)]) C dX11_comes_72 rfl L (by decide) rfl ?_
  refine g_iload_n C dX11_comes_73 rfl 0 rfl ?_
  refine g_if_eq 115 C dX11_comes_74 rfl (by decide) (fun c1 => ?_) (fun c1 => ?_)
  · refine g_iload_n C dX11_comes_115 rfl 0 rfl ?_
    refine g_gd (fun hb2 => ?_)
    exact g_zret C M dX11_comes_116 rfl hb2 rfl
  · refine g_aload_n C dX11_comes_77 rfl 1 rfl ?_
    refine g_getR (k2 := 75) C dX11_comes_78 rfl rfl fi_11_0 ⟨by decide, by decide, rfl⟩ fl_X11_7 ?_
    refine g_aload_n C dX11_comes_81 rfl 1 rfl ?_
    refine g_getR (k2 := 88) C dX11_comes_82 rfl rfl fi_11_29 ⟨by decide, by decide, rfl⟩ fl_X11_65 ?_
    refine g_iload_n C dX11_comes_85 rfl 2 rfl ?_
    refine g_gd (fun hi3 => ?_)
    refine g_iald C dX11_comes_86 rfl rfl rfl hi3 ?_
    refine g_aload_n C dX11_comes_87 rfl 1 rfl ?_
    refine g_getR (k2 := 88) C dX11_comes_88 rfl rfl fi_11_29 ⟨by decide, by decide, rfl⟩ fl_X11_65 ?_
    refine g_iload_n C dX11_comes_91 rfl 2 rfl ?_
    refine g_iconst (v := 1) C dX11_comes_92 rfl (by decide) ?_
    refine g_iadd C dX11_comes_93 rfl ?_
    refine g_gd (fun hi4 => ?_)
    refine g_iald C dX11_comes_94 rfl rfl rfl hi4 ?_
    refine g_gd (fun hi6 => ?_)
    refine g_iast C dX11_comes_95 rfl rfl rfl hi6 ?_
    refine g_letm (fun u5 => ?_)
    refine g_aload_n C dX11_comes_96 rfl 1 rfl ?_
    refine g_getR (k2 := 76) C dX11_comes_97 rfl rfl fi_11_1 ⟨by decide, by decide, rfl⟩ fl_X11_13 ?_
    refine g_aload_n C dX11_comes_100 rfl 1 rfl ?_
    refine g_getR (k2 := 88) C dX11_comes_101 rfl rfl fi_11_29 ⟨by decide, by decide, rfl⟩ fl_X11_65 ?_
    refine g_iload_n C dX11_comes_104 rfl 2 rfl ?_
    refine g_gd (fun hi7 => ?_)
    refine g_iald C dX11_comes_105 rfl rfl rfl hi7 ?_
    refine g_aload_n C dX11_comes_106 rfl 1 rfl ?_
    refine g_getR (k2 := 88) C dX11_comes_107 rfl rfl fi_11_29 ⟨by decide, by decide, rfl⟩ fl_X11_65 ?_
    refine g_iload_n C dX11_comes_110 rfl 2 rfl ?_
    refine g_iconst (v := 2) C dX11_comes_111 rfl (by decide) ?_
    refine g_iadd C dX11_comes_112 rfl ?_
    refine g_gd (fun hi8 => ?_)
    refine g_iald C dX11_comes_113 rfl rfl rfl hi8 ?_
    refine g_gd (fun hi10 => ?_)
    refine g_iast C dX11_comes_114 rfl rfl rfl hi10 ?_
    refine g_letm (fun u9 => ?_)
    refine g_iload_n C dX11_comes_115 rfl 0 rfl ?_
    refine g_gd (fun hb11 => ?_)
    exact g_zret C M dX11_comes_116 rfl hb11 rfl
set_option maxRecDepth 20000 in
set_option maxHeartbeats 4000000 in
theorem pX11_comes_171 {Γ : GX} (C : Cx Γ RX11 cX11_comes 4) (M : Mx Γ (some .boolean)) (L : xn Γ = 4) (v2 : Int32) (s0 : Int32) (u : Mm) : Gp Γ (QM Γ cvI) 171 [(0, .ref ((xE Γ).1 74)), (2, .int v2)] [.int s0] u (gX11_comes_171 v2 s0 u) := by
  unfold gX11_comes_171
  refine g_istore_n (ls' := [(3, .int s0), (0, .ref ((xE Γ).1 74)), (2, .int v2)]) C dX11_comes_171 rfl L (by decide) rfl ?_
  refine g_iload_n C dX11_comes_172 rfl 0 rfl ?_
  refine g_if_eq 202 C dX11_comes_173 rfl (by decide) (fun c1 => ?_) (fun c1 => ?_)
  · refine g_iload_n C dX11_comes_202 rfl 0 rfl ?_
    refine g_gd (fun hb2 => ?_)
    exact g_zret C M dX11_comes_203 rfl hb2 rfl
  · refine g_aload_n C dX11_comes_176 rfl 1 rfl ?_
    refine g_aload_n C dX11_comes_177 rfl 1 rfl ?_
    refine g_getR (k2 := 88) C dX11_comes_178 rfl rfl fi_11_29 ⟨by decide, by decide, rfl⟩ fl_X11_65 ?_
    refine g_iload_n C dX11_comes_181 rfl 2 rfl ?_
    refine g_gd (fun hi3 => ?_)
    refine g_iald C dX11_comes_182 rfl rfl rfl hi3 ?_
    refine g_aload_n C dX11_comes_183 rfl 1 rfl ?_
    refine g_getR (k2 := 88) C dX11_comes_184 rfl rfl fi_11_29 ⟨by decide, by decide, rfl⟩ fl_X11_65 ?_
    refine g_iload_n C dX11_comes_187 rfl 2 rfl ?_
    refine g_iconst (v := 1) C dX11_comes_188 rfl (by decide) ?_
    refine g_iadd C dX11_comes_189 rfl ?_
    refine g_gd (fun hi4 => ?_)
    refine g_iald C dX11_comes_190 rfl rfl rfl hi4 ?_
    refine g_aload_n C dX11_comes_191 rfl 1 rfl ?_
    refine g_getR (k2 := 88) C dX11_comes_192 rfl rfl fi_11_29 ⟨by decide, by decide, rfl⟩ fl_X11_65 ?_
    refine g_iload_n C dX11_comes_195 rfl 2 rfl ?_
    refine g_iconst (v := 2) C dX11_comes_196 rfl (by decide) ?_
    refine g_iadd C dX11_comes_197 rfl ?_
    refine g_gd (fun hi5 => ?_)
    refine g_iald C dX11_comes_198 rfl rfl rfl hi5 ?_
    refine g_callV [.int (u 88 (ixn v2)), .int (u 88 (ixn (v2 + 1))), .int (u 88 (ixn (v2 + 2)))] C dX11_comes_199 rfl (tX11_putRoad (xl Γ) (xE Γ) (u 88 (ixn v2)) (u 88 (ixn (v2 + 1))) (u 88 (ixn (v2 + 2))) u) cf_X11_putRoad rfl rfl ml_X11_205 rfl (by decide) (Nat.le_of_ble_eq_true rfl) rfl (fun u6 => ?_)
    refine g_iload_n C dX11_comes_202 rfl 0 rfl ?_
    refine g_gd (fun hb7 => ?_)
    exact g_zret C M dX11_comes_203 rfl hb7 rfl
set_option maxRecDepth 20000 in
set_option maxHeartbeats 4000000 in
theorem pX11_comes_170 {Γ : GX} (C : Cx Γ RX11 cX11_comes 4) (M : Mx Γ (some .boolean)) (L : xn Γ = 4) (v2 : Int32) (u : Mm) : Gp Γ (QM Γ cvI) 170 [(0, .ref ((xE Γ).1 74)), (2, .int v2)] [] u (gX11_comes_170 v2 u) := by
  unfold gX11_comes_170
  refine g_iconst (v := 0) C dX11_comes_170 rfl (by decide) ?_
  exact pX11_comes_171 C M L v2 0 u
set_option maxRecDepth 20000 in
set_option maxHeartbeats 4000000 in
theorem pX11_comes_0 {Γ : GX} (C : Cx Γ RX11 cX11_comes 4) (M : Mx Γ (some .boolean)) (L : xn Γ = 4) (v1 : Int32) (u : Mm) : Gp Γ (QM Γ cvI) 0 [(0, .ref ((xE Γ).1 74)), (1, .int v1)] [] u (gX11_comes_b v1 u) := by
  unfold gX11_comes_b
  refine g_bipush (v := 9) C dX11_comes_0 rfl (by decide) ?_
  refine g_iload_n C dX11_comes_2 rfl 1 rfl ?_
  refine g_imul C dX11_comes_3 rfl ?_
  refine g_lets (fun v2_1 => ?_)
  refine g_istore_n (ls' := [(2, .int v2_1), (0, .ref ((xE Γ).1 74)), (1, .int v1)]) C dX11_comes_4 rfl L (by decide) rfl ?_
  refine g_iconst (v := 1) C dX11_comes_5 rfl (by decide) ?_
  refine g_istore_n (ls' := [(3, .int 1), (2, .int v2_1), (0, .ref ((xE Γ).1 74)), (1, .int v1)]) C dX11_comes_6 rfl L (by decide) rfl ?_
  refine g_aload_n C dX11_comes_7 rfl 2 rfl ?_
  refine g_getR (k2 := 87) C dX11_comes_8 rfl rfl fi_11_28 ⟨by decide, by decide, rfl⟩ fl_X11_62 ?_
  refine g_iload_n C dX11_comes_11 rfl 3 rfl ?_
  refine g_gd (fun hi2 => ?_)
  refine g_iald C dX11_comes_12 rfl rfl rfl hi2 ?_
  refine g_if (fun c3 => ?_) (fun c3 => ?_)
  · refine g_look 191 204 C dX11_comes_13 rfl (by decide) (by rw [c3]; rfl) (by decide) ?_
    refine g_aload_n C dX11_comes_204 rfl 2 rfl ?_
    refine g_iload_n C dX11_comes_205 rfl 3 rfl ?_
    refine g_callI [.int v1] C dX11_comes_206 rfl (tX11_actsCome (xl Γ) (xE Γ) v1 u) cf_X11_actsCome rfl rfl ml_X11_209 rfl (by decide) (Nat.le_of_ble_eq_true rfl) rfl (fun r5 u4 => ?_)
    refine g_gd (fun hb6 => ?_)
    exact g_zret C M dX11_comes_209 rfl hb6 rfl
  refine g_if (fun c7 => ?_) (fun c7 => ?_)
  · refine g_look 104 117 C dX11_comes_13 rfl (by decide) (by rw [c7]; rfl) (by decide) ?_
    refine g_aload_n C dX11_comes_117 rfl 2 rfl ?_
    refine g_iload_n C dX11_comes_118 rfl 1 rfl ?_
    refine g_callI [.int v2_1] C dX11_comes_119 rfl (tX11_fieldComes (xl Γ) (xE Γ) v2_1 u) cf_X11_fieldComes rfl rfl ml_X11_199 rfl (by decide) (Nat.le_of_ble_eq_true rfl) rfl (fun r9 u8 => ?_)
    refine g_gd (fun hb10 => ?_)
    exact g_zret C M dX11_comes_122 rfl hb10 rfl
  refine g_if (fun c11 => ?_) (fun c11 => ?_)
  · refine g_look 110 123 C dX11_comes_13 rfl (by decide) (by rw [c11]; rfl) (by decide) ?_
    refine g_aload_n C dX11_comes_123 rfl 2 rfl ?_
    refine g_getR (k2 := 88) C dX11_comes_124 rfl rfl fi_11_29 ⟨by decide, by decide, rfl⟩ fl_X11_65 ?_
    refine g_iload_n C dX11_comes_127 rfl 1 rfl ?_
    refine g_gd (fun hi12 => ?_)
    refine g_iald C dX11_comes_128 rfl rfl rfl hi12 ?_
    refine g_callsP [.int (u 88 (ixn v2_1))] C dX11_comes_129 rfl (tX11_isPlace (xl Γ) (xE Γ) (u 88 (ixn v2_1)) u) cf_X11_isPlace ml_X11_202 rfl (by decide) (Nat.le_of_ble_eq_true rfl) rfl (fun r13 => ?_)
    refine g_if_eq 170 C dX11_comes_132 rfl (by decide) (fun c14 => ?_) (fun c14 => ?_)
    · refine g_sub (ls' := [(0, .ref ((xE Γ).1 74)), (2, .int v2_1)]) [2, 1] rfl ?_
      exact pX11_comes_170 C M L v2_1 u
    · refine g_aload_n C dX11_comes_135 rfl 2 rfl ?_
      refine g_getR (k2 := 88) C dX11_comes_136 rfl rfl fi_11_29 ⟨by decide, by decide, rfl⟩ fl_X11_65 ?_
      refine g_iload_n C dX11_comes_139 rfl 1 rfl ?_
      refine g_iconst (v := 1) C dX11_comes_140 rfl (by decide) ?_
      refine g_iadd C dX11_comes_141 rfl ?_
      refine g_gd (fun hi15 => ?_)
      refine g_iald C dX11_comes_142 rfl rfl rfl hi15 ?_
      refine g_callsP [.int (u 88 (ixn (v2_1 + 1)))] C dX11_comes_143 rfl (tX11_isPlace (xl Γ) (xE Γ) (u 88 (ixn (v2_1 + 1))) u) cf_X11_isPlace ml_X11_202 rfl (by decide) (Nat.le_of_ble_eq_true rfl) rfl (fun r16 => ?_)
      refine g_if_eq 170 C dX11_comes_146 rfl (by decide) (fun c17 => ?_) (fun c17 => ?_)
      · refine g_sub (ls' := [(0, .ref ((xE Γ).1 74)), (2, .int v2_1)]) [2, 1] rfl ?_
        exact pX11_comes_170 C M L v2_1 u
      · refine g_aload_n C dX11_comes_149 rfl 2 rfl ?_
        refine g_getR (k2 := 88) C dX11_comes_150 rfl rfl fi_11_29 ⟨by decide, by decide, rfl⟩ fl_X11_65 ?_
        refine g_iload_n C dX11_comes_153 rfl 1 rfl ?_
        refine g_gd (fun hi18 => ?_)
        refine g_iald C dX11_comes_154 rfl rfl rfl hi18 ?_
        refine g_aload_n C dX11_comes_155 rfl 2 rfl ?_
        refine g_getR (k2 := 88) C dX11_comes_156 rfl rfl fi_11_29 ⟨by decide, by decide, rfl⟩ fl_X11_65 ?_
        refine g_iload_n C dX11_comes_159 rfl 1 rfl ?_
        refine g_iconst (v := 1) C dX11_comes_160 rfl (by decide) ?_
        refine g_iadd C dX11_comes_161 rfl ?_
        refine g_gd (fun hi19 => ?_)
        refine g_iald C dX11_comes_162 rfl rfl rfl hi19 ?_
        refine g_icmp_eq 170 C dX11_comes_163 rfl (by decide) (fun c20 => ?_) (fun c20 => ?_)
        · refine g_sub (ls' := [(0, .ref ((xE Γ).1 74)), (2, .int v2_1)]) [2, 1] rfl ?_
          exact pX11_comes_170 C M L v2_1 u
        · refine g_iconst (v := 1) C dX11_comes_166 rfl (by decide) ?_
          refine g_goto 171 C dX11_comes_167 rfl (by decide) ?_
          refine g_sub (ls' := [(0, .ref ((xE Γ).1 74)), (2, .int v2_1)]) [2, 1] rfl ?_
          exact pX11_comes_171 C M L v2_1 1 u
  refine g_if (fun c21 => ?_) (fun c21 => ?_)
  · refine g_look 43 56 C dX11_comes_13 rfl (by decide) (by rw [c21]; rfl) (by decide) ?_
    refine g_aload_n C dX11_comes_56 rfl 2 rfl ?_
    refine g_getR (k2 := 88) C dX11_comes_57 rfl rfl fi_11_29 ⟨by decide, by decide, rfl⟩ fl_X11_65 ?_
    refine g_iload_n C dX11_comes_60 rfl 1 rfl ?_
    refine g_gd (fun hi22 => ?_)
    refine g_iald C dX11_comes_61 rfl rfl rfl hi22 ?_
    refine g_bipush (v := 8) C dX11_comes_62 rfl (by decide) ?_
    refine g_icmp_ge 71 C dX11_comes_64 rfl (by decide) (fun c23 => ?_) (fun c23 => ?_)
    · refine g_iconst (v := 0) C dX11_comes_71 rfl (by decide) ?_
      refine g_sub (ls' := [(0, .ref ((xE Γ).1 74)), (2, .int v2_1)]) [2, 1] rfl ?_
      exact pX11_comes_72 C M L v2_1 0 u
    · refine g_iconst (v := 1) C dX11_comes_67 rfl (by decide) ?_
      refine g_goto 72 C dX11_comes_68 rfl (by decide) ?_
      refine g_sub (ls' := [(0, .ref ((xE Γ).1 74)), (2, .int v2_1)]) [2, 1] rfl ?_
      exact pX11_comes_72 C M L v2_1 1 u
  refine g_look 197 210 C dX11_comes_13 rfl (by decide) (by show Op.lookupswitch.offset [(97, 191), (102, 104), (114, 110), (119, 43)] _ _ = _; rw [lv_osw c3 (by decide), lv_osw c7 (by decide), lv_osw c11 (by decide), lv_osw c21 (by decide)]; rfl) (by decide) ?_
  refine g_aload_n C dX11_comes_210 rfl 2 rfl ?_
  refine g_iload_n C dX11_comes_211 rfl 3 rfl ?_
  refine g_callI [.int v1] C dX11_comes_212 rfl (tX11_settingsCome (xl Γ) (xE Γ) v1 u) cf_X11_settingsCome rfl rfl ml_X11_212 rfl (by decide) (Nat.le_of_ble_eq_true rfl) rfl (fun r25 u24 => ?_)
  refine g_gd (fun hb26 => ?_)
  exact g_zret C M dX11_comes_215 rfl hb26 rfl
set_option maxRecDepth 20000 in
set_option maxHeartbeats 4000000 in
theorem tX11_comes (l : Launch) (E : EE) (v1 : Int32) (u : Mm) : Ct l E yX11_comes cX11_comes 4 (some .boolean) 4 [.ref (E.1 74), .int v1] u cvI (gX11_comes v1 u) :=
  Ct_of (own := RX11) (by decide +kernel) rfl (Nat.le_of_ble_eq_true rfl) (fun p e R s m args below meth c C M => g_sub (ls' := [(0, .ref (E.1 74)), (1, .int v1)]) [0, 1] rfl (pX11_comes_0 C M rfl v1 u))
set_option maxRecDepth 20000 in
set_option maxHeartbeats 4000000 in
theorem pX11_carry_17 {Γ : GX} (C : Cx Γ RX11 cX11_carry 0) (M : Mx Γ (some .int)) (L : xn Γ = 2) (u : Mm) : Gp Γ (QM Γ cvI) 17 [(0, .ref ((xE Γ).1 74))] [] u (gX11_carry_17 u) := by
  unfold gX11_carry_17
  refine g_aload_n C dX11_carry_17 rfl 0 rfl ?_
  refine g_dup C dX11_carry_18 rfl rfl ?_
  refine g_getI C dX11_carry_19 rfl rfl fi_11_34 rfl fl_X11_234 ?_
  refine g_iconst (v := 1) C dX11_carry_22 rfl (by decide) ?_
  refine g_iadd C dX11_carry_23 rfl ?_
  refine g_putI C dX11_carry_24 rfl rfl fp_11_34 rfl fl_X11_234 ?_
  refine g_letm (fun u1 => ?_)
  refine g_aload_n C dX11_carry_27 rfl 0 rfl ?_
  refine g_gd (fun hq2 => ?_)
  refine g_getX C dX11_carry_28 rfl rfl fi_11_36 rfl fl_X11_231 hq2 ?_
  refine g_aload_n C dX11_carry_31 rfl 0 rfl ?_
  refine g_getI C dX11_carry_32 rfl rfl fi_11_34 rfl fl_X11_234 ?_
  refine g_iconst (v := 1) C dX11_carry_35 rfl (by decide) ?_
  refine g_isub C dX11_carry_36 rfl ?_
  refine g_gd (fun hi3 => ?_)
  refine g_iald C dX11_carry_37 rfl hq2 rfl hi3 ?_
  exact g_iret C M dX11_carry_38 rfl rfl
set_option maxRecDepth 20000 in
set_option maxHeartbeats 4000000 in
theorem pX11_carry_0 {Γ : GX} (C : Cx Γ RX11 cX11_carry 0) (M : Mx Γ (some .int)) (L : xn Γ = 2) (v1 : Int32) (u : Mm) : Gp Γ (QM Γ cvI) 0 [(0, .ref ((xE Γ).1 74)), (1, .int v1)] [] u (gX11_carry_b v1 u) := by
  unfold gX11_carry_b
  refine g_aload_n C dX11_carry_0 rfl 0 rfl ?_
  refine g_getI C dX11_carry_1 rfl rfl fi_11_35 rfl fl_X11_228 ?_
  refine g_if_eq 17 C dX11_carry_4 rfl (by decide) (fun c1 => ?_) (fun c1 => ?_)
  · refine g_sub (ls' := [(0, .ref ((xE Γ).1 74))]) [0] rfl ?_
    exact pX11_carry_17 C M L u
  · refine g_aload_n C dX11_carry_7 rfl 0 rfl ?_
    refine g_gd (fun hq2 => ?_)
    refine g_getX C dX11_carry_8 rfl rfl fi_11_36 rfl fl_X11_231 hq2 ?_
    refine g_aload_n C dX11_carry_11 rfl 0 rfl ?_
    refine g_getI C dX11_carry_12 rfl rfl fi_11_34 rfl fl_X11_234 ?_
    refine g_iload_n C dX11_carry_15 rfl 1 rfl ?_
    refine g_gd (fun hi4 => ?_)
    refine g_iast C dX11_carry_16 rfl hq2 rfl hi4 ?_
    refine g_letm (fun u3 => ?_)
    refine g_sub (ls' := [(0, .ref ((xE Γ).1 74))]) [0] rfl ?_
    exact pX11_carry_17 C M L u3
set_option maxRecDepth 20000 in
set_option maxHeartbeats 4000000 in
theorem tX11_carry (l : Launch) (E : EE) (v1 : Int32) (u : Mm) : Ct l E yX11_carry cX11_carry 2 (some .int) 0 [.ref (E.1 74), .int v1] u cvI (gX11_carry v1 u) :=
  Ct_of (own := RX11) (by decide +kernel) rfl (Nat.le_of_ble_eq_true rfl) (fun p e R s m args below meth c C M => g_sub (ls' := [(0, .ref (E.1 74)), (1, .int v1)]) [0, 1] rfl (pX11_carry_0 C M rfl v1 u))
set_option maxRecDepth 20000 in
set_option maxHeartbeats 4000000 in
theorem pX11_carryFlight_98s {Γ : GX} (C : Cx Γ RX11 cX11_carryFlight 1) (M : Mx Γ none) (L : xn Γ = 2) {j98 : Int32 → Mm → Option Mm} (hj98 : ∀ (v1 : Int32) (u : Mm), Gp Γ (QM Γ cvV) 98 [(0, .ref ((xE Γ).1 74)), (1, .int v1)] [] u (j98 v1 u)) (v1 : Int32) (u : Mm) : Gp Γ (QM Γ cvV) 98 [(0, .ref ((xE Γ).1 74)), (1, .int v1)] [] u (gX11_carryFlight_98_Ls j98 v1 u) := by
  unfold gX11_carryFlight_98_Ls
  refine g_iload_n C dX11_carryFlight_98 rfl 1 rfl ?_
  refine g_bipush (v := 6) C dX11_carryFlight_99 rfl (by decide) ?_
  refine g_icmp_ge 126 C dX11_carryFlight_101 rfl (by decide) (fun c1 => ?_) (fun c1 => ?_)
  · exact g_vret C M dX11_carryFlight_126 rfl rfl
  · refine g_aload_n C dX11_carryFlight_104 rfl 0 rfl ?_
    refine g_getR (k2 := 77) C dX11_carryFlight_105 rfl rfl fi_11_10 ⟨by decide, by decide, rfl⟩ fl_X11_32 ?_
    refine g_iload_n C dX11_carryFlight_108 rfl 1 rfl ?_
    refine g_aload_n C dX11_carryFlight_109 rfl 0 rfl ?_
    refine g_aload_n C dX11_carryFlight_110 rfl 0 rfl ?_
    refine g_getR (k2 := 77) C dX11_carryFlight_111 rfl rfl fi_11_10 ⟨by decide, by decide, rfl⟩ fl_X11_32 ?_
    refine g_iload_n C dX11_carryFlight_114 rfl 1 rfl ?_
    refine g_gd (fun hi2 => ?_)
    refine g_iald C dX11_carryFlight_115 rfl rfl rfl hi2 ?_
    refine g_callI [.int (u 77 (ixn v1))] C dX11_carryFlight_116 rfl (tX11_carry (xl Γ) (xE Γ) (u 77 (ixn v1)) u) cf_X11_carry rfl rfl ml_X11_237 rfl (by decide) (Nat.le_of_ble_eq_true rfl) rfl (fun r4 u3 => ?_)
    refine g_gd (fun hi6 => ?_)
    refine g_iast C dX11_carryFlight_119 rfl rfl rfl hi6 ?_
    refine g_letm (fun u5 => ?_)
    refine g_iincL (fun v1_7 => [(1, .int v1_7), (0, .ref ((xE Γ).1 74))]) C dX11_carryFlight_120 rfl L (by decide) (k := 1) rfl (iinc_1 _) (fun _ => rfl) (fun v1_7 => ?_)
    refine g_goto 98 C dX11_carryFlight_123 rfl (by decide) ?_
    refine g_sub (ls' := [(0, .ref ((xE Γ).1 74)), (1, .int v1_7)]) [1, 0] rfl ?_
    exact hj98 v1_7 u5
set_option maxRecDepth 20000 in
set_option maxHeartbeats 4000000 in
theorem pX11_carryFlight_98 {Γ : GX} (C : Cx Γ RX11 cX11_carryFlight 1) (M : Mx Γ none) (L : xn Γ = 2) : ∀ (n : Nat) (v1 : Int32) (u : Mm), Gp Γ (QM Γ cvV) 98 [(0, .ref ((xE Γ).1 74)), (1, .int v1)] [] u (gX11_carryFlight_98_L n v1 u) := by
  intro n
  induction n with
  | zero => intro _ _; exact g_none
  | succ n ih => intro v1 u; exact pX11_carryFlight_98s C M L ih v1 u

set_option maxRecDepth 20000 in
set_option maxHeartbeats 4000000 in
theorem pX11_carryFlight_0 {Γ : GX} (C : Cx Γ RX11 cX11_carryFlight 1) (M : Mx Γ none) (L : xn Γ = 2) (u : Mm) : Gp Γ (QM Γ cvV) 0 [(0, .ref ((xE Γ).1 74))] [] u (gX11_carryFlight_b u) := by
  unfold gX11_carryFlight_b
  refine g_aload_n C dX11_carryFlight_0 rfl 0 rfl ?_
  refine g_aload_n C dX11_carryFlight_1 rfl 0 rfl ?_
  refine g_aload_n C dX11_carryFlight_2 rfl 0 rfl ?_
  refine g_getI C dX11_carryFlight_3 rfl rfl fi_11_2 rfl fl_X11_127 ?_
  refine g_callI [.int (u 74 2)] C dX11_carryFlight_6 rfl (tX11_carry (xl Γ) (xE Γ) (u 74 2) u) cf_X11_carry rfl rfl ml_X11_237 rfl (by decide) (Nat.le_of_ble_eq_true rfl) rfl (fun r2 u1 => ?_)
  refine g_putI C dX11_carryFlight_9 rfl rfl fp_11_2 rfl fl_X11_127 ?_
  refine g_letm (fun u3 => ?_)
  refine g_aload_n C dX11_carryFlight_12 rfl 0 rfl ?_
  refine g_aload_n C dX11_carryFlight_13 rfl 0 rfl ?_
  refine g_aload_n C dX11_carryFlight_14 rfl 0 rfl ?_
  refine g_getI C dX11_carryFlight_15 rfl rfl fi_11_3 rfl fl_X11_16 ?_
  refine g_callI [.int (u3 74 3)] C dX11_carryFlight_18 rfl (tX11_carry (xl Γ) (xE Γ) (u3 74 3) u3) cf_X11_carry rfl rfl ml_X11_237 rfl (by decide) (Nat.le_of_ble_eq_true rfl) rfl (fun r5 u4 => ?_)
  refine g_putI C dX11_carryFlight_21 rfl rfl fp_11_3 rfl fl_X11_16 ?_
  refine g_letm (fun u6 => ?_)
  refine g_aload_n C dX11_carryFlight_24 rfl 0 rfl ?_
  refine g_aload_n C dX11_carryFlight_25 rfl 0 rfl ?_
  refine g_aload_n C dX11_carryFlight_26 rfl 0 rfl ?_
  refine g_getI C dX11_carryFlight_27 rfl rfl fi_11_4 rfl fl_X11_133 ?_
  refine g_callI [.int (u6 74 4)] C dX11_carryFlight_30 rfl (tX11_carry (xl Γ) (xE Γ) (u6 74 4) u6) cf_X11_carry rfl rfl ml_X11_237 rfl (by decide) (Nat.le_of_ble_eq_true rfl) rfl (fun r8 u7 => ?_)
  refine g_putI C dX11_carryFlight_33 rfl rfl fp_11_4 rfl fl_X11_133 ?_
  refine g_letm (fun u9 => ?_)
  refine g_aload_n C dX11_carryFlight_36 rfl 0 rfl ?_
  refine g_aload_n C dX11_carryFlight_37 rfl 0 rfl ?_
  refine g_aload_n C dX11_carryFlight_38 rfl 0 rfl ?_
  refine g_getI C dX11_carryFlight_39 rfl rfl fi_11_5 rfl fl_X11_20 ?_
  refine g_callI [.int (u9 74 5)] C dX11_carryFlight_42 rfl (tX11_carry (xl Γ) (xE Γ) (u9 74 5) u9) cf_X11_carry rfl rfl ml_X11_237 rfl (by decide) (Nat.le_of_ble_eq_true rfl) rfl (fun r11 u10 => ?_)
  refine g_putI C dX11_carryFlight_45 rfl rfl fp_11_5 rfl fl_X11_20 ?_
  refine g_letm (fun u12 => ?_)
  refine g_aload_n C dX11_carryFlight_48 rfl 0 rfl ?_
  refine g_aload_n C dX11_carryFlight_49 rfl 0 rfl ?_
  refine g_aload_n C dX11_carryFlight_50 rfl 0 rfl ?_
  refine g_getI C dX11_carryFlight_51 rfl rfl fi_11_6 rfl fl_X11_23 ?_
  refine g_callI [.int (u12 74 6)] C dX11_carryFlight_54 rfl (tX11_carry (xl Γ) (xE Γ) (u12 74 6) u12) cf_X11_carry rfl rfl ml_X11_237 rfl (by decide) (Nat.le_of_ble_eq_true rfl) rfl (fun r14 u13 => ?_)
  refine g_putI C dX11_carryFlight_57 rfl rfl fp_11_6 rfl fl_X11_23 ?_
  refine g_letm (fun u15 => ?_)
  refine g_aload_n C dX11_carryFlight_60 rfl 0 rfl ?_
  refine g_aload_n C dX11_carryFlight_61 rfl 0 rfl ?_
  refine g_aload_n C dX11_carryFlight_62 rfl 0 rfl ?_
  refine g_getI C dX11_carryFlight_63 rfl rfl fi_11_7 rfl fl_X11_26 ?_
  refine g_callI [.int (u15 74 7)] C dX11_carryFlight_66 rfl (tX11_carry (xl Γ) (xE Γ) (u15 74 7) u15) cf_X11_carry rfl rfl ml_X11_237 rfl (by decide) (Nat.le_of_ble_eq_true rfl) rfl (fun r17 u16 => ?_)
  refine g_putI C dX11_carryFlight_69 rfl rfl fp_11_7 rfl fl_X11_26 ?_
  refine g_letm (fun u18 => ?_)
  refine g_aload_n C dX11_carryFlight_72 rfl 0 rfl ?_
  refine g_aload_n C dX11_carryFlight_73 rfl 0 rfl ?_
  refine g_aload_n C dX11_carryFlight_74 rfl 0 rfl ?_
  refine g_getI C dX11_carryFlight_75 rfl rfl fi_11_8 rfl fl_X11_29 ?_
  refine g_callI [.int (u18 74 8)] C dX11_carryFlight_78 rfl (tX11_carry (xl Γ) (xE Γ) (u18 74 8) u18) cf_X11_carry rfl rfl ml_X11_237 rfl (by decide) (Nat.le_of_ble_eq_true rfl) rfl (fun r20 u19 => ?_)
  refine g_putI C dX11_carryFlight_81 rfl rfl fp_11_8 rfl fl_X11_29 ?_
  refine g_letm (fun u21 => ?_)
  refine g_aload_n C dX11_carryFlight_84 rfl 0 rfl ?_
  refine g_aload_n C dX11_carryFlight_85 rfl 0 rfl ?_
  refine g_aload_n C dX11_carryFlight_86 rfl 0 rfl ?_
  refine g_getI C dX11_carryFlight_87 rfl rfl fi_11_9 rfl fl_X11_136 ?_
  refine g_callI [.int (u21 74 9)] C dX11_carryFlight_90 rfl (tX11_carry (xl Γ) (xE Γ) (u21 74 9) u21) cf_X11_carry rfl rfl ml_X11_237 rfl (by decide) (Nat.le_of_ble_eq_true rfl) rfl (fun r23 u22 => ?_)
  refine g_putI C dX11_carryFlight_93 rfl rfl fp_11_9 rfl fl_X11_136 ?_
  refine g_letm (fun u24 => ?_)
  refine g_iconst (v := 0) C dX11_carryFlight_96 rfl (by decide) ?_
  refine g_istore_n (ls' := [(1, .int 0), (0, .ref ((xE Γ).1 74))]) C dX11_carryFlight_97 rfl L (by decide) rfl ?_
  refine g_sub (ls' := [(0, .ref ((xE Γ).1 74)), (1, .int 0)]) [1, 0] rfl ?_
  exact pX11_carryFlight_98 C M L FU 0 u24
set_option maxRecDepth 20000 in
set_option maxHeartbeats 4000000 in
theorem tX11_carryFlight (l : Launch) (E : EE) (u : Mm) : Ct l E yX11_carryFlight cX11_carryFlight 2 none 1 [.ref (E.1 74)] u cvV (gX11_carryFlight u) :=
  Ct_of (own := RX11) (by decide +kernel) rfl (Nat.le_of_ble_eq_true rfl) (fun p e R s m args below meth c C M => g_sub (ls' := [(0, .ref (E.1 74))]) [0] rfl (pX11_carryFlight_0 C M rfl u))
set_option maxRecDepth 20000 in
set_option maxHeartbeats 4000000 in
theorem pX11_carryAll_171s {Γ : GX} (C : Cx Γ RX11 cX11_carryAll 2) (M : Mx Γ none) (L : xn Γ = 4) {k1 : Nat} (hk1 : kd k1 = 1) {j171 : Int32 → Mm → Option Mm} (hj171 : ∀ (v3 : Int32) (u : Mm), Gp Γ (QM Γ cvV) 171 [(0, .ref ((xE Γ).1 74)), (3, .int v3)] [] u (j171 v3 u)) (v3 : Int32) (u : Mm) : Gp Γ (QM Γ cvV) 171 [(0, .ref ((xE Γ).1 74)), (3, .int v3)] [] u (gX11_carryAll_171_Ls k1 j171 v3 u) := by
  unfold gX11_carryAll_171_Ls
  refine g_iload_n C dX11_carryAll_171 rfl 1 rfl ?_
  refine g_bipush (v := 64) C dX11_carryAll_172 rfl (by decide) ?_
  refine g_icmp_ge 199 C dX11_carryAll_174 rfl (by decide) (fun c1 => ?_) (fun c1 => ?_)
  · exact g_vret C M dX11_carryAll_199 rfl rfl
  · refine g_aload_n C dX11_carryAll_177 rfl 0 rfl ?_
    refine g_getR (k2 := 83) C dX11_carryAll_178 rfl rfl fi_11_17 ⟨by decide, by decide, rfl⟩ fl_X11_50 ?_
    refine g_iload_n C dX11_carryAll_181 rfl 1 rfl ?_
    refine g_aload_n C dX11_carryAll_182 rfl 0 rfl ?_
    refine g_aload_n C dX11_carryAll_183 rfl 0 rfl ?_
    refine g_getR (k2 := 83) C dX11_carryAll_184 rfl rfl fi_11_17 ⟨by decide, by decide, rfl⟩ fl_X11_50 ?_
    refine g_iload_n C dX11_carryAll_187 rfl 1 rfl ?_
    refine g_gd (fun hi2 => ?_)
    refine g_iald C dX11_carryAll_188 rfl rfl rfl hi2 ?_
    refine g_callI [.int (u 83 (ixn v3))] C dX11_carryAll_189 rfl (tX11_carry (xl Γ) (xE Γ) (u 83 (ixn v3)) u) cf_X11_carry rfl rfl ml_X11_237 rfl (by decide) (Nat.le_of_ble_eq_true rfl) rfl (fun r4 u3 => ?_)
    refine g_gd (fun hi6 => ?_)
    refine g_iast C dX11_carryAll_192 rfl rfl rfl hi6 ?_
    refine g_letm (fun u5 => ?_)
    refine g_iincL (fun v3_7 => [(3, .int v3_7), (0, .ref ((xE Γ).1 74))]) C dX11_carryAll_193 rfl L (by decide) (k := 1) rfl (iinc_1 _) (fun _ => rfl) (fun v3_7 => ?_)
    refine g_goto 171 C dX11_carryAll_196 rfl (by decide) ?_
    refine g_sub (ls' := [(0, .ref ((xE Γ).1 74)), (3, .int v3_7)]) [1, 0] rfl ?_
    exact hj171 v3_7 u5
set_option maxRecDepth 20000 in
set_option maxHeartbeats 4000000 in
theorem pX11_carryAll_171 {Γ : GX} (C : Cx Γ RX11 cX11_carryAll 2) (M : Mx Γ none) (L : xn Γ = 4) {k1 : Nat} (hk1 : kd k1 = 1) : ∀ (n : Nat) (v3 : Int32) (u : Mm), Gp Γ (QM Γ cvV) 171 [(0, .ref ((xE Γ).1 74)), (3, .int v3)] [] u (gX11_carryAll_171_L k1 n v3 u) := by
  intro n
  induction n with
  | zero => intro _ _; exact g_none
  | succ n ih => intro v3 u; exact pX11_carryAll_171s C M L hk1 ih v3 u

set_option maxRecDepth 20000 in
set_option maxHeartbeats 4000000 in
theorem pX11_carryAll_45s {Γ : GX} (C : Cx Γ RX11 cX11_carryAll 2) (M : Mx Γ none) (L : xn Γ = 4) {k1 : Nat} (hk1 : kd k1 = 1) {j45 : Int32 → Mm → Option Mm} (hj45 : ∀ (v3 : Int32) (u : Mm), Gp Γ (QM Γ cvV) 45 [(0, .ref ((xE Γ).1 74)), (3, .int v3)] [] u (j45 v3 u)) (v3 : Int32) (u : Mm) : Gp Γ (QM Γ cvV) 45 [(0, .ref ((xE Γ).1 74)), (3, .int v3)] [] u (gX11_carryAll_45_Ls k1 j45 v3 u) := by
  unfold gX11_carryAll_45_Ls
  refine g_iload_n C dX11_carryAll_45 rfl 1 rfl ?_
  refine g_bipush (v := 8) C dX11_carryAll_46 rfl (by decide) ?_
  refine g_icmp_ge 169 C dX11_carryAll_48 rfl (by decide) (fun c1 => ?_) (fun c1 => ?_)
  · refine g_iconst (v := 0) C dX11_carryAll_169 rfl (by decide) ?_
    refine g_istore_n (ls' := [(3, .int 0), (0, .ref ((xE Γ).1 74))]) C dX11_carryAll_170 rfl L (by decide) rfl ?_
    refine g_sub (ls' := [(0, .ref ((xE Γ).1 74)), (3, .int 0)]) [1, 0] rfl ?_
    exact pX11_carryAll_171 C M L hk1 FU 0 u
  · refine g_aload_n C dX11_carryAll_51 rfl 0 rfl ?_
    refine g_getR (k2 := 75) C dX11_carryAll_52 rfl rfl fi_11_0 ⟨by decide, by decide, rfl⟩ fl_X11_7 ?_
    refine g_iload_n C dX11_carryAll_55 rfl 1 rfl ?_
    refine g_aload_n C dX11_carryAll_56 rfl 0 rfl ?_
    refine g_aload_n C dX11_carryAll_57 rfl 0 rfl ?_
    refine g_getR (k2 := 75) C dX11_carryAll_58 rfl rfl fi_11_0 ⟨by decide, by decide, rfl⟩ fl_X11_7 ?_
    refine g_iload_n C dX11_carryAll_61 rfl 1 rfl ?_
    refine g_gd (fun hi2 => ?_)
    refine g_iald C dX11_carryAll_62 rfl rfl rfl hi2 ?_
    refine g_callI [.int (u 75 (ixn v3))] C dX11_carryAll_63 rfl (tX11_carry (xl Γ) (xE Γ) (u 75 (ixn v3)) u) cf_X11_carry rfl rfl ml_X11_237 rfl (by decide) (Nat.le_of_ble_eq_true rfl) rfl (fun r4 u3 => ?_)
    refine g_gd (fun hi6 => ?_)
    refine g_iast C dX11_carryAll_66 rfl rfl rfl hi6 ?_
    refine g_letm (fun u5 => ?_)
    refine g_aload_n C dX11_carryAll_67 rfl 0 rfl ?_
    refine g_getR (k2 := 76) C dX11_carryAll_68 rfl rfl fi_11_1 ⟨by decide, by decide, rfl⟩ fl_X11_13 ?_
    refine g_iload_n C dX11_carryAll_71 rfl 1 rfl ?_
    refine g_aload_n C dX11_carryAll_72 rfl 0 rfl ?_
    refine g_aload_n C dX11_carryAll_73 rfl 0 rfl ?_
    refine g_getR (k2 := 76) C dX11_carryAll_74 rfl rfl fi_11_1 ⟨by decide, by decide, rfl⟩ fl_X11_13 ?_
    refine g_iload_n C dX11_carryAll_77 rfl 1 rfl ?_
    refine g_gd (fun hi7 => ?_)
    refine g_iald C dX11_carryAll_78 rfl rfl rfl hi7 ?_
    refine g_callI [.int (u5 76 (ixn v3))] C dX11_carryAll_79 rfl (tX11_carry (xl Γ) (xE Γ) (u5 76 (ixn v3)) u5) cf_X11_carry rfl rfl ml_X11_237 rfl (by decide) (Nat.le_of_ble_eq_true rfl) rfl (fun r9 u8 => ?_)
    refine g_gd (fun hi11 => ?_)
    refine g_iast C dX11_carryAll_82 rfl rfl rfl hi11 ?_
    refine g_letm (fun u10 => ?_)
    refine g_aload_n C dX11_carryAll_83 rfl 0 rfl ?_
    refine g_getR (k2 := 78) C dX11_carryAll_84 rfl rfl fi_11_12 ⟨by decide, by decide, rfl⟩ fl_X11_35 ?_
    refine g_iload_n C dX11_carryAll_87 rfl 1 rfl ?_
    refine g_aload_n C dX11_carryAll_88 rfl 0 rfl ?_
    refine g_aload_n C dX11_carryAll_89 rfl 0 rfl ?_
    refine g_getR (k2 := 78) C dX11_carryAll_90 rfl rfl fi_11_12 ⟨by decide, by decide, rfl⟩ fl_X11_35 ?_
    refine g_iload_n C dX11_carryAll_93 rfl 1 rfl ?_
    refine g_gd (fun hi12 => ?_)
    refine g_iald C dX11_carryAll_94 rfl rfl rfl hi12 ?_
    refine g_callI [.int (u10 78 (ixn v3))] C dX11_carryAll_95 rfl (tX11_carry (xl Γ) (xE Γ) (u10 78 (ixn v3)) u10) cf_X11_carry rfl rfl ml_X11_237 rfl (by decide) (Nat.le_of_ble_eq_true rfl) rfl (fun r14 u13 => ?_)
    refine g_gd (fun hi16 => ?_)
    refine g_iast C dX11_carryAll_98 rfl rfl rfl hi16 ?_
    refine g_letm (fun u15 => ?_)
    refine g_aload_n C dX11_carryAll_99 rfl 0 rfl ?_
    refine g_getR (k2 := 79) C dX11_carryAll_100 rfl rfl fi_11_13 ⟨by decide, by decide, rfl⟩ fl_X11_38 ?_
    refine g_iload_n C dX11_carryAll_103 rfl 1 rfl ?_
    refine g_aload_n C dX11_carryAll_104 rfl 0 rfl ?_
    refine g_aload_n C dX11_carryAll_105 rfl 0 rfl ?_
    refine g_getR (k2 := 79) C dX11_carryAll_106 rfl rfl fi_11_13 ⟨by decide, by decide, rfl⟩ fl_X11_38 ?_
    refine g_iload_n C dX11_carryAll_109 rfl 1 rfl ?_
    refine g_gd (fun hi17 => ?_)
    refine g_iald C dX11_carryAll_110 rfl rfl rfl hi17 ?_
    refine g_callI [.int (u15 79 (ixn v3))] C dX11_carryAll_111 rfl (tX11_carry (xl Γ) (xE Γ) (u15 79 (ixn v3)) u15) cf_X11_carry rfl rfl ml_X11_237 rfl (by decide) (Nat.le_of_ble_eq_true rfl) rfl (fun r19 u18 => ?_)
    refine g_gd (fun hi21 => ?_)
    refine g_iast C dX11_carryAll_114 rfl rfl rfl hi21 ?_
    refine g_letm (fun u20 => ?_)
    refine g_aload_n C dX11_carryAll_115 rfl 0 rfl ?_
    refine g_getR (k2 := 80) C dX11_carryAll_116 rfl rfl fi_11_14 ⟨by decide, by decide, rfl⟩ fl_X11_41 ?_
    refine g_iload_n C dX11_carryAll_119 rfl 1 rfl ?_
    refine g_aload_n C dX11_carryAll_120 rfl 0 rfl ?_
    refine g_aload_n C dX11_carryAll_121 rfl 0 rfl ?_
    refine g_getR (k2 := 80) C dX11_carryAll_122 rfl rfl fi_11_14 ⟨by decide, by decide, rfl⟩ fl_X11_41 ?_
    refine g_iload_n C dX11_carryAll_125 rfl 1 rfl ?_
    refine g_gd (fun hi22 => ?_)
    refine g_iald C dX11_carryAll_126 rfl rfl rfl hi22 ?_
    refine g_callI [.int (u20 80 (ixn v3))] C dX11_carryAll_127 rfl (tX11_carry (xl Γ) (xE Γ) (u20 80 (ixn v3)) u20) cf_X11_carry rfl rfl ml_X11_237 rfl (by decide) (Nat.le_of_ble_eq_true rfl) rfl (fun r24 u23 => ?_)
    refine g_gd (fun hi26 => ?_)
    refine g_iast C dX11_carryAll_130 rfl rfl rfl hi26 ?_
    refine g_letm (fun u25 => ?_)
    refine g_aload_n C dX11_carryAll_131 rfl 0 rfl ?_
    refine g_getR (k2 := 81) C dX11_carryAll_132 rfl rfl fi_11_15 ⟨by decide, by decide, rfl⟩ fl_X11_44 ?_
    refine g_iload_n C dX11_carryAll_135 rfl 1 rfl ?_
    refine g_aload_n C dX11_carryAll_136 rfl 0 rfl ?_
    refine g_aload_n C dX11_carryAll_137 rfl 0 rfl ?_
    refine g_getR (k2 := 81) C dX11_carryAll_138 rfl rfl fi_11_15 ⟨by decide, by decide, rfl⟩ fl_X11_44 ?_
    refine g_iload_n C dX11_carryAll_141 rfl 1 rfl ?_
    refine g_gd (fun hi27 => ?_)
    refine g_iald C dX11_carryAll_142 rfl rfl rfl hi27 ?_
    refine g_callI [.int (u25 81 (ixn v3))] C dX11_carryAll_143 rfl (tX11_carry (xl Γ) (xE Γ) (u25 81 (ixn v3)) u25) cf_X11_carry rfl rfl ml_X11_237 rfl (by decide) (Nat.le_of_ble_eq_true rfl) rfl (fun r29 u28 => ?_)
    refine g_gd (fun hi31 => ?_)
    refine g_iast C dX11_carryAll_146 rfl rfl rfl hi31 ?_
    refine g_letm (fun u30 => ?_)
    refine g_aload_n C dX11_carryAll_147 rfl 0 rfl ?_
    refine g_getR (k2 := 82) C dX11_carryAll_148 rfl rfl fi_11_16 ⟨by decide, by decide, rfl⟩ fl_X11_47 ?_
    refine g_iload_n C dX11_carryAll_151 rfl 1 rfl ?_
    refine g_aload_n C dX11_carryAll_152 rfl 0 rfl ?_
    refine g_aload_n C dX11_carryAll_153 rfl 0 rfl ?_
    refine g_getR (k2 := 82) C dX11_carryAll_154 rfl rfl fi_11_16 ⟨by decide, by decide, rfl⟩ fl_X11_47 ?_
    refine g_iload_n C dX11_carryAll_157 rfl 1 rfl ?_
    refine g_gd (fun hi32 => ?_)
    refine g_iald C dX11_carryAll_158 rfl rfl rfl hi32 ?_
    refine g_callI [.int (u30 82 (ixn v3))] C dX11_carryAll_159 rfl (tX11_carry (xl Γ) (xE Γ) (u30 82 (ixn v3)) u30) cf_X11_carry rfl rfl ml_X11_237 rfl (by decide) (Nat.le_of_ble_eq_true rfl) rfl (fun r34 u33 => ?_)
    refine g_gd (fun hi36 => ?_)
    refine g_iast C dX11_carryAll_162 rfl rfl rfl hi36 ?_
    refine g_letm (fun u35 => ?_)
    refine g_iincL (fun v3_37 => [(3, .int v3_37), (0, .ref ((xE Γ).1 74))]) C dX11_carryAll_163 rfl L (by decide) (k := 1) rfl (iinc_1 _) (fun _ => rfl) (fun v3_37 => ?_)
    refine g_goto 45 C dX11_carryAll_166 rfl (by decide) ?_
    refine g_sub (ls' := [(0, .ref ((xE Γ).1 74)), (3, .int v3_37)]) [1, 0] rfl ?_
    exact hj45 v3_37 u35
set_option maxRecDepth 20000 in
set_option maxHeartbeats 4000000 in
theorem pX11_carryAll_45 {Γ : GX} (C : Cx Γ RX11 cX11_carryAll 2) (M : Mx Γ none) (L : xn Γ = 4) {k1 : Nat} (hk1 : kd k1 = 1) : ∀ (n : Nat) (v3 : Int32) (u : Mm), Gp Γ (QM Γ cvV) 45 [(0, .ref ((xE Γ).1 74)), (3, .int v3)] [] u (gX11_carryAll_45_L k1 n v3 u) := by
  intro n
  induction n with
  | zero => intro _ _; exact g_none
  | succ n ih => intro v3 u; exact pX11_carryAll_45s C M L hk1 ih v3 u

set_option maxRecDepth 20000 in
set_option maxHeartbeats 4000000 in
theorem pX11_carryAll_0 {Γ : GX} (C : Cx Γ RX11 cX11_carryAll 2) (M : Mx Γ none) (L : xn Γ = 4) {k1 : Nat} (hk1 : kd k1 = 1) (v2 : Int32) (u : Mm) : Gp Γ (QM Γ cvV) 0 [(0, .ref ((xE Γ).1 74)), (1, .ref ((xE Γ).1 k1)), (2, .int v2)] [] u (gX11_carryAll_b k1 v2 u) := by
  unfold gX11_carryAll_b
  refine g_aload_n C dX11_carryAll_0 rfl 0 rfl ?_
  refine g_aload_n C dX11_carryAll_1 rfl 1 rfl ?_
  refine g_putX C dX11_carryAll_2 rfl rfl fp_11_36 rfl fl_X11_231 (ne0_of hk1) ?_
  refine g_letm (fun u1 => ?_)
  refine g_aload_n C dX11_carryAll_5 rfl 0 rfl ?_
  refine g_iload_n C dX11_carryAll_6 rfl 2 rfl ?_
  refine g_gd (fun hb3 => ?_)
  refine g_putZ C dX11_carryAll_7 rfl rfl fp_11_35 rfl fl_X11_228 hb3 ?_
  refine g_letm (fun u2 => ?_)
  refine g_aload_n C dX11_carryAll_10 rfl 0 rfl ?_
  refine g_iconst (v := 0) C dX11_carryAll_11 rfl (by decide) ?_
  refine g_putI C dX11_carryAll_12 rfl rfl fp_11_34 rfl fl_X11_234 ?_
  refine g_letm (fun u4 => ?_)
  refine g_aload_n C dX11_carryAll_15 rfl 0 rfl ?_
  refine g_callV [] C dX11_carryAll_16 rfl (tX11_carryFlight (xl Γ) (xE Γ) u4) cf_X11_carryFlight rfl rfl ml_X11_240 rfl (by decide) (Nat.le_of_ble_eq_true rfl) rfl (fun u5 => ?_)
  refine g_aload_n C dX11_carryAll_19 rfl 0 rfl ?_
  refine g_aload_n C dX11_carryAll_20 rfl 0 rfl ?_
  refine g_aload_n C dX11_carryAll_21 rfl 0 rfl ?_
  refine g_getI C dX11_carryAll_22 rfl rfl fi_11_11 rfl fl_X11_111 ?_
  refine g_callI [.int (u5 74 11)] C dX11_carryAll_25 rfl (tX11_carry (xl Γ) (xE Γ) (u5 74 11) u5) cf_X11_carry rfl rfl ml_X11_237 rfl (by decide) (Nat.le_of_ble_eq_true rfl) rfl (fun r7 u6 => ?_)
  refine g_putI C dX11_carryAll_28 rfl rfl fp_11_11 rfl fl_X11_111 ?_
  refine g_letm (fun u8 => ?_)
  refine g_aload_n C dX11_carryAll_31 rfl 0 rfl ?_
  refine g_aload_n C dX11_carryAll_32 rfl 0 rfl ?_
  refine g_aload_n C dX11_carryAll_33 rfl 0 rfl ?_
  refine g_getI C dX11_carryAll_34 rfl rfl fi_11_18 rfl fl_X11_243 ?_
  refine g_callI [.int (u8 74 18)] C dX11_carryAll_37 rfl (tX11_carry (xl Γ) (xE Γ) (u8 74 18) u8) cf_X11_carry rfl rfl ml_X11_237 rfl (by decide) (Nat.le_of_ble_eq_true rfl) rfl (fun r10 u9 => ?_)
  refine g_putI C dX11_carryAll_40 rfl rfl fp_11_18 rfl fl_X11_243 ?_
  refine g_letm (fun u11 => ?_)
  refine g_iconst (v := 0) C dX11_carryAll_43 rfl (by decide) ?_
  refine g_istore_n (ls' := [(3, .int 0), (0, .ref ((xE Γ).1 74)), (1, .ref ((xE Γ).1 k1)), (2, .int v2)]) C dX11_carryAll_44 rfl L (by decide) rfl ?_
  refine g_sub (ls' := [(0, .ref ((xE Γ).1 74)), (3, .int 0)]) [1, 0] rfl ?_
  exact pX11_carryAll_45 C M L hk1 FU 0 u11
set_option maxRecDepth 20000 in
set_option maxHeartbeats 4000000 in
theorem tX11_carryAll (l : Launch) (E : EE) {k1 : Nat} (hk1 : kd k1 = 1) (v2 : Int32) (u : Mm) : Ct l E yX11_carryAll cX11_carryAll 4 none 2 [.ref (E.1 74), .ref (E.1 k1), .int v2] u cvV (gX11_carryAll k1 v2 u) :=
  Ct_of (own := RX11) (by decide +kernel) rfl (Nat.le_of_ble_eq_true rfl) (fun p e R s m args below meth c C M => g_sub (ls' := [(0, .ref (E.1 74)), (1, .ref (E.1 k1)), (2, .int v2)]) [0, 1, 2] rfl (pX11_carryAll_0 C M rfl hk1 v2 u))
set_option maxRecDepth 20000 in
set_option maxHeartbeats 4000000 in
theorem pX11_land_45 {Γ : GX} (C : Cx Γ RX11 cX11_land 5) (M : Mx Γ (some .int)) (L : xn Γ = 2) {j20 : Mm → Option (Int32 × Mm)} (hj20 : ∀  (u : Mm), Gp Γ (QM Γ cvI) 20 [(0, .ref ((xE Γ).1 74))] [] u (j20 u)) (u : Mm) : Gp Γ (QM Γ cvI) 45 [(0, .ref ((xE Γ).1 74))] [] u (gX11_land_45 j20 u) := by
  unfold gX11_land_45
  refine g_aload_n C dX11_land_45 rfl 0 rfl ?_
  refine g_callV [] C dX11_land_46 rfl (tX11_readStatement (xl Γ) (xE Γ) u) cf_X11_readStatement rfl rfl ml_X11_215 rfl (by decide) (Nat.le_of_ble_eq_true rfl) rfl (fun u1 => ?_)
  refine g_goto 20 C dX11_land_49 rfl (by decide) ?_
  exact hj20 u1
set_option maxRecDepth 20000 in
set_option maxHeartbeats 4000000 in
theorem pX11_land_84s {Γ : GX} (C : Cx Γ RX11 cX11_land 5) (M : Mx Γ (some .int)) (L : xn Γ = 2) {j84 : Int32 → Mm → Option (Int32 × Mm)} (hj84 : ∀ (v1 : Int32) (u : Mm), Gp Γ (QM Γ cvI) 84 [(0, .ref ((xE Γ).1 74)), (1, .int v1)] [] u (j84 v1 u)) (v1 : Int32) (u : Mm) : Gp Γ (QM Γ cvI) 84 [(0, .ref ((xE Γ).1 74)), (1, .int v1)] [] u (gX11_land_84_Ls j84 v1 u) := by
  unfold gX11_land_84_Ls
  refine g_iload_n C dX11_land_84 rfl 1 rfl ?_
  refine g_aload_n C dX11_land_85 rfl 0 rfl ?_
  refine g_getI C dX11_land_86 rfl rfl fi_11_26 rfl fl_X11_176 ?_
  refine g_icmp_ge 126 C dX11_land_89 rfl (by decide) (fun c1 => ?_) (fun c1 => ?_)
  · refine g_aload_n C dX11_land_126 rfl 0 rfl ?_
    refine g_iconst (v := 0) C dX11_land_127 rfl (by decide) ?_
    refine g_putI C dX11_land_128 rfl rfl fp_11_40 rfl fl_X11_225 ?_
    refine g_letm (fun u2 => ?_)
    refine g_aload_n C dX11_land_131 rfl 0 rfl ?_
    refine g_getI C dX11_land_132 rfl rfl fi_11_26 rfl fl_X11_176 ?_
    exact g_iret C M dX11_land_135 rfl rfl
  · refine g_aload_n C dX11_land_92 rfl 0 rfl ?_
    refine g_iload_n C dX11_land_93 rfl 1 rfl ?_
    refine g_callI [.int v1] C dX11_land_94 rfl (tX11_comes (xl Γ) (xE Γ) v1 u) cf_X11_comes rfl rfl ml_X11_222 rfl (by decide) (Nat.le_of_ble_eq_true rfl) rfl (fun r4 u3 => ?_)
    refine g_if_ne 120 C dX11_land_97 rfl (by decide) (fun c5 => ?_) (fun c5 => ?_)
    · refine g_iincL (fun v1_6 => [(1, .int v1_6), (0, .ref ((xE Γ).1 74))]) C dX11_land_120 rfl L (by decide) (k := 1) rfl (iinc_1 _) (fun _ => rfl) (fun v1_6 => ?_)
      refine g_goto 84 C dX11_land_123 rfl (by decide) ?_
      refine g_sub (ls' := [(0, .ref ((xE Γ).1 74)), (1, .int v1_6)]) [1, 0] rfl ?_
      exact hj84 v1_6 u3
    · refine g_aload_n C dX11_land_100 rfl 0 rfl ?_
      refine g_aload_n C dX11_land_101 rfl 0 rfl ?_
      refine g_getR (k2 := 90) C dX11_land_102 rfl rfl fi_11_31 ⟨by decide, by decide, rfl⟩ fl_X11_71 ?_
      refine g_iconst (v := 0) C dX11_land_105 rfl (by decide) ?_
      refine g_callV [.ref ((xE Γ).1 90), .int 0] C dX11_land_106 rfl (tX11_carryAll (xl Γ) (xE Γ) rfl 0 u3) cf_X11_carryAll rfl rfl ml_X11_218 rfl (by decide) (Nat.le_of_ble_eq_true rfl) rfl (fun u7 => ?_)
      refine g_sipush (v := (-2000)) C dX11_land_109 rfl (by decide) ?_
      refine g_aload_n C dX11_land_112 rfl 0 rfl ?_
      refine g_getR (k2 := 86) C dX11_land_113 rfl rfl fi_11_27 ⟨by decide, by decide, rfl⟩ fl_X11_59 ?_
      refine g_iload_n C dX11_land_116 rfl 1 rfl ?_
      refine g_gd (fun hi8 => ?_)
      refine g_iald C dX11_land_117 rfl rfl rfl hi8 ?_
      refine g_isub C dX11_land_118 rfl ?_
      exact g_iret C M dX11_land_119 rfl rfl
set_option maxRecDepth 20000 in
set_option maxHeartbeats 4000000 in
theorem pX11_land_84 {Γ : GX} (C : Cx Γ RX11 cX11_land 5) (M : Mx Γ (some .int)) (L : xn Γ = 2) : ∀ (n : Nat) (v1 : Int32) (u : Mm), Gp Γ (QM Γ cvI) 84 [(0, .ref ((xE Γ).1 74)), (1, .int v1)] [] u (gX11_land_84_L n v1 u) := by
  intro n
  induction n with
  | zero => intro _ _; exact g_none
  | succ n ih => intro v1 u; exact pX11_land_84s C M L ih v1 u

set_option maxRecDepth 20000 in
set_option maxHeartbeats 4000000 in
theorem pX11_land_52 {Γ : GX} (C : Cx Γ RX11 cX11_land 5) (M : Mx Γ (some .int)) (L : xn Γ = 2) (u : Mm) : Gp Γ (QM Γ cvI) 52 [(0, .ref ((xE Γ).1 74))] [] u (gX11_land_52 u) := by
  unfold gX11_land_52
  refine g_aload_n C dX11_land_52 rfl 0 rfl ?_
  refine g_iconst (v := 0) C dX11_land_53 rfl (by decide) ?_
  refine g_putI C dX11_land_54 rfl rfl fp_11_23 rfl fl_X11_156 ?_
  refine g_letm (fun u1 => ?_)
  refine g_aload_n C dX11_land_57 rfl 0 rfl ?_
  refine g_getI C dX11_land_58 rfl rfl fi_11_25 rfl fl_X11_162 ?_
  refine g_if_eq 73 C dX11_land_61 rfl (by decide) (fun c2 => ?_) (fun c2 => ?_)
  · refine g_aload_n C dX11_land_73 rfl 0 rfl ?_
    refine g_aload_n C dX11_land_74 rfl 0 rfl ?_
    refine g_getR (k2 := 90) C dX11_land_75 rfl rfl fi_11_31 ⟨by decide, by decide, rfl⟩ fl_X11_71 ?_
    refine g_iconst (v := 1) C dX11_land_78 rfl (by decide) ?_
    refine g_callV [.ref ((xE Γ).1 90), .int 1] C dX11_land_79 rfl (tX11_carryAll (xl Γ) (xE Γ) rfl 1 u1) cf_X11_carryAll rfl rfl ml_X11_218 rfl (by decide) (Nat.le_of_ble_eq_true rfl) rfl (fun u3 => ?_)
    refine g_iconst (v := 0) C dX11_land_82 rfl (by decide) ?_
    refine g_istore_n (ls' := [(1, .int 0), (0, .ref ((xE Γ).1 74))]) C dX11_land_83 rfl L (by decide) rfl ?_
    refine g_sub (ls' := [(0, .ref ((xE Γ).1 74)), (1, .int 0)]) [1, 0] rfl ?_
    exact pX11_land_84 C M L FU 0 u3
  · refine g_sipush (v := (-1000)) C dX11_land_64 rfl (by decide) ?_
    refine g_aload_n C dX11_land_67 rfl 0 rfl ?_
    refine g_getI C dX11_land_68 rfl rfl fi_11_24 rfl fl_X11_159 ?_
    refine g_isub C dX11_land_71 rfl ?_
    exact g_iret C M dX11_land_72 rfl rfl
set_option maxRecDepth 20000 in
set_option maxHeartbeats 4000000 in
theorem pX11_land_20s {Γ : GX} (C : Cx Γ RX11 cX11_land 5) (M : Mx Γ (some .int)) (L : xn Γ = 2) {j20 : Mm → Option (Int32 × Mm)} (hj20 : ∀  (u : Mm), Gp Γ (QM Γ cvI) 20 [(0, .ref ((xE Γ).1 74))] [] u (j20 u)) (u : Mm) : Gp Γ (QM Γ cvI) 20 [(0, .ref ((xE Γ).1 74))] [] u (gX11_land_20_Ls j20 u) := by
  unfold gX11_land_20_Ls
  refine g_aload_n C dX11_land_20 rfl 0 rfl ?_
  refine g_getI C dX11_land_21 rfl rfl fi_11_25 rfl fl_X11_162 ?_
  refine g_if_ne 52 C dX11_land_24 rfl (by decide) (fun c1 => ?_) (fun c1 => ?_)
  · exact pX11_land_52 C M L u
  · refine g_aload_n C dX11_land_27 rfl 0 rfl ?_
    refine g_getI C dX11_land_28 rfl rfl fi_11_26 rfl fl_X11_176 ?_
    refine g_if_eq 45 C dX11_land_31 rfl (by decide) (fun c2 => ?_) (fun c2 => ?_)
    · exact pX11_land_45 C M L hj20 u
    · refine g_aload_n C dX11_land_34 rfl 0 rfl ?_
      refine g_getI C dX11_land_35 rfl rfl fi_11_24 rfl fl_X11_159 ?_
      refine g_aload_n C dX11_land_38 rfl 0 rfl ?_
      refine g_getI C dX11_land_39 rfl rfl fi_11_23 rfl fl_X11_156 ?_
      refine g_icmp_ge 52 C dX11_land_42 rfl (by decide) (fun c3 => ?_) (fun c3 => ?_)
      · exact pX11_land_52 C M L u
      · exact pX11_land_45 C M L hj20 u
set_option maxRecDepth 20000 in
set_option maxHeartbeats 4000000 in
theorem pX11_land_20 {Γ : GX} (C : Cx Γ RX11 cX11_land 5) (M : Mx Γ (some .int)) (L : xn Γ = 2) : ∀ (n : Nat) (u : Mm), Gp Γ (QM Γ cvI) 20 [(0, .ref ((xE Γ).1 74))] [] u (gX11_land_20_L n u) := by
  intro n
  induction n with
  | zero => intro _; exact g_none
  | succ n ih => intro u; exact pX11_land_20s C M L ih u

set_option maxRecDepth 20000 in
set_option maxHeartbeats 4000000 in
theorem pX11_land_0 {Γ : GX} (C : Cx Γ RX11 cX11_land 5) (M : Mx Γ (some .int)) (L : xn Γ = 2) (u : Mm) : Gp Γ (QM Γ cvI) 0 [(0, .ref ((xE Γ).1 74))] [] u (gX11_land_b u) := by
  unfold gX11_land_b
  refine g_aload_n C dX11_land_0 rfl 0 rfl ?_
  refine g_iconst (v := 0) C dX11_land_1 rfl (by decide) ?_
  refine g_putI C dX11_land_2 rfl rfl fp_11_19 rfl fl_X11_104 ?_
  refine g_letm (fun u1 => ?_)
  refine g_aload_n C dX11_land_5 rfl 0 rfl ?_
  refine g_iconst (v := 0) C dX11_land_6 rfl (by decide) ?_
  refine g_putI C dX11_land_7 rfl rfl fp_11_24 rfl fl_X11_159 ?_
  refine g_letm (fun u2 => ?_)
  refine g_aload_n C dX11_land_10 rfl 0 rfl ?_
  refine g_iconst (v := 0) C dX11_land_11 rfl (by decide) ?_
  refine g_putZ C dX11_land_12 rfl rfl fp_11_25 rfl fl_X11_162 (by decide) ?_
  refine g_letm (fun u3 => ?_)
  refine g_aload_n C dX11_land_15 rfl 0 rfl ?_
  refine g_iconst (v := 0) C dX11_land_16 rfl (by decide) ?_
  refine g_putI C dX11_land_17 rfl rfl fp_11_26 rfl fl_X11_176 ?_
  refine g_letm (fun u4 => ?_)
  exact pX11_land_20 C M L FU u4
set_option maxRecDepth 20000 in
set_option maxHeartbeats 4000000 in
theorem tX11_land (l : Launch) (E : EE) (u : Mm) : Ct l E yX11_land cX11_land 2 (some .int) 5 [.ref (E.1 74)] u cvI (gX11_land u) :=
  Ct_of (own := RX11) (by decide +kernel) rfl (Nat.le_of_ble_eq_true rfl) (fun p e R s m args below meth c C M => g_sub (ls' := [(0, .ref (E.1 74))]) [0] rfl (pX11_land_0 C M rfl u))
set_option maxRecDepth 20000 in
set_option maxHeartbeats 4000000 in
theorem pX11_open_0 {Γ : GX} (C : Cx Γ RX11 cX11_open 2) (M : Mx Γ none) (L : xn Γ = 1) (u : Mm) : Gp Γ (QM Γ cvV) 0 [(0, .ref ((xE Γ).1 74))] [] u (gX11_open_b u) := by
  unfold gX11_open_b
  refine g_aload_n C dX11_open_0 rfl 0 rfl ?_
  refine g_aload_n C dX11_open_1 rfl 0 rfl ?_
  refine g_getR (k2 := 92) C dX11_open_2 rfl rfl fi_11_37 ⟨by decide, by decide, rfl⟩ fl_X11_77 ?_
  refine g_putX C dX11_open_5 rfl rfl fp_11_36 rfl fl_X11_231 (ne0_of rfl) ?_
  refine g_letm (fun u1 => ?_)
  refine g_aload_n C dX11_open_8 rfl 0 rfl ?_
  refine g_iconst (v := 1) C dX11_open_9 rfl (by decide) ?_
  refine g_putZ C dX11_open_10 rfl rfl fp_11_35 rfl fl_X11_228 (by decide) ?_
  refine g_letm (fun u2 => ?_)
  refine g_aload_n C dX11_open_13 rfl 0 rfl ?_
  refine g_iconst (v := 0) C dX11_open_14 rfl (by decide) ?_
  refine g_putI C dX11_open_15 rfl rfl fp_11_34 rfl fl_X11_234 ?_
  refine g_letm (fun u3 => ?_)
  refine g_aload_n C dX11_open_18 rfl 0 rfl ?_
  refine g_callV [] C dX11_open_19 rfl (tX11_carryFlight (xl Γ) (xE Γ) u3) cf_X11_carryFlight rfl rfl ml_X11_240 rfl (by decide) (Nat.le_of_ble_eq_true rfl) rfl (fun u4 => ?_)
  exact g_vret C M dX11_open_22 rfl rfl
set_option maxRecDepth 20000 in
set_option maxHeartbeats 4000000 in
theorem tX11_open (l : Launch) (E : EE) (u : Mm) : Ct l E yX11_open cX11_open 1 none 2 [.ref (E.1 74)] u cvV (gX11_open u) :=
  Ct_of (own := RX11) (by decide +kernel) rfl (Nat.le_of_ble_eq_true rfl) (fun p e R s m args below meth c C M => g_sub (ls' := [(0, .ref (E.1 74))]) [0] rfl (pX11_open_0 C M rfl u))
set_option maxRecDepth 20000 in
set_option maxHeartbeats 4000000 in
theorem pX11_again_0 {Γ : GX} (C : Cx Γ RX11 cX11_again 2) (M : Mx Γ none) (L : xn Γ = 1) (u : Mm) : Gp Γ (QM Γ cvV) 0 [(0, .ref ((xE Γ).1 74))] [] u (gX11_again_b u) := by
  unfold gX11_again_b
  refine g_aload_n C dX11_again_0 rfl 0 rfl ?_
  refine g_aload_n C dX11_again_1 rfl 0 rfl ?_
  refine g_getR (k2 := 92) C dX11_again_2 rfl rfl fi_11_37 ⟨by decide, by decide, rfl⟩ fl_X11_77 ?_
  refine g_putX C dX11_again_5 rfl rfl fp_11_36 rfl fl_X11_231 (ne0_of rfl) ?_
  refine g_letm (fun u1 => ?_)
  refine g_aload_n C dX11_again_8 rfl 0 rfl ?_
  refine g_iconst (v := 0) C dX11_again_9 rfl (by decide) ?_
  refine g_putZ C dX11_again_10 rfl rfl fp_11_35 rfl fl_X11_228 (by decide) ?_
  refine g_letm (fun u2 => ?_)
  refine g_aload_n C dX11_again_13 rfl 0 rfl ?_
  refine g_iconst (v := 0) C dX11_again_14 rfl (by decide) ?_
  refine g_putI C dX11_again_15 rfl rfl fp_11_34 rfl fl_X11_234 ?_
  refine g_letm (fun u3 => ?_)
  refine g_aload_n C dX11_again_18 rfl 0 rfl ?_
  refine g_callV [] C dX11_again_19 rfl (tX11_carryFlight (xl Γ) (xE Γ) u3) cf_X11_carryFlight rfl rfl ml_X11_240 rfl (by decide) (Nat.le_of_ble_eq_true rfl) rfl (fun u4 => ?_)
  exact g_vret C M dX11_again_22 rfl rfl
set_option maxRecDepth 20000 in
set_option maxHeartbeats 4000000 in
theorem tX11_again (l : Launch) (E : EE) (u : Mm) : Ct l E yX11_again cX11_again 1 none 2 [.ref (E.1 74)] u cvV (gX11_again u) :=
  Ct_of (own := RX11) (by decide +kernel) rfl (Nat.le_of_ble_eq_true rfl) (fun p e R s m args below meth c C M => g_sub (ls' := [(0, .ref (E.1 74))]) [0] rfl (pX11_again_0 C M rfl u))
set_option maxRecDepth 20000 in
set_option maxHeartbeats 4000000 in
theorem pX11_image_0 {Γ : GX} (C : Cx Γ RX11 cX11_image 3) (M : Mx Γ (some .int)) (L : xn Γ = 1) (u : Mm) : Gp Γ (QM Γ cvI) 0 [(0, .ref ((xE Γ).1 74))] [] u (gX11_image_b u) := by
  unfold gX11_image_b
  refine g_aload_n C dX11_image_0 rfl 0 rfl ?_
  refine g_iconst (v := 0) C dX11_image_1 rfl (by decide) ?_
  refine g_putI C dX11_image_2 rfl rfl fp_11_19 rfl fl_X11_104 ?_
  refine g_letm (fun u1 => ?_)
  refine g_aload_n C dX11_image_5 rfl 0 rfl ?_
  refine g_iconst (v := 1) C dX11_image_6 rfl (by decide) ?_
  refine g_putZ C dX11_image_7 rfl rfl fp_11_33 rfl fl_X11_246 (by decide) ?_
  refine g_letm (fun u2 => ?_)
  refine g_aload_n C dX11_image_10 rfl 0 rfl ?_
  refine g_aload_n C dX11_image_11 rfl 0 rfl ?_
  refine g_getR (k2 := 91) C dX11_image_12 rfl rfl fi_11_32 ⟨by decide, by decide, rfl⟩ fl_X11_74 ?_
  refine g_iconst (v := 1) C dX11_image_15 rfl (by decide) ?_
  refine g_callV [.ref ((xE Γ).1 91), .int 1] C dX11_image_16 rfl (tX11_carryAll (xl Γ) (xE Γ) rfl 1 u2) cf_X11_carryAll rfl rfl ml_X11_218 rfl (by decide) (Nat.le_of_ble_eq_true rfl) rfl (fun u3 => ?_)
  refine g_aload_n C dX11_image_19 rfl 0 rfl ?_
  refine g_getI C dX11_image_20 rfl rfl fi_11_9 rfl fl_X11_136 ?_
  exact g_iret C M dX11_image_23 rfl rfl
set_option maxRecDepth 20000 in
set_option maxHeartbeats 4000000 in
theorem tX11_image (l : Launch) (E : EE) (u : Mm) : Ct l E yX11_image cX11_image 1 (some .int) 3 [.ref (E.1 74)] u cvI (gX11_image u) :=
  Ct_of (own := RX11) (by decide +kernel) rfl (Nat.le_of_ble_eq_true rfl) (fun p e R s m args below meth c C M => g_sub (ls' := [(0, .ref (E.1 74))]) [0] rfl (pX11_image_0 C M rfl u))
set_option maxRecDepth 20000 in
set_option maxHeartbeats 4000000 in
theorem pX11_restore_0 {Γ : GX} (C : Cx Γ RX11 cX11_restore 3) (M : Mx Γ (some .int)) (L : xn Γ = 1) (u : Mm) : Gp Γ (QM Γ cvI) 0 [(0, .ref ((xE Γ).1 74))] [] u (gX11_restore_b u) := by
  unfold gX11_restore_b
  refine g_aload_n C dX11_restore_0 rfl 0 rfl ?_
  refine g_iconst (v := 0) C dX11_restore_1 rfl (by decide) ?_
  refine g_putI C dX11_restore_2 rfl rfl fp_11_19 rfl fl_X11_104 ?_
  refine g_letm (fun u1 => ?_)
  refine g_aload_n C dX11_restore_5 rfl 0 rfl ?_
  refine g_getI C dX11_restore_6 rfl rfl fi_11_33 rfl fl_X11_246 ?_
  refine g_if_ne 19 C dX11_restore_9 rfl (by decide) (fun c2 => ?_) (fun c2 => ?_)
  · refine g_aload_n C dX11_restore_19 rfl 0 rfl ?_
    refine g_aload_n C dX11_restore_20 rfl 0 rfl ?_
    refine g_getR (k2 := 91) C dX11_restore_21 rfl rfl fi_11_32 ⟨by decide, by decide, rfl⟩ fl_X11_74 ?_
    refine g_iconst (v := 0) C dX11_restore_24 rfl (by decide) ?_
    refine g_callV [.ref ((xE Γ).1 91), .int 0] C dX11_restore_25 rfl (tX11_carryAll (xl Γ) (xE Γ) rfl 0 u1) cf_X11_carryAll rfl rfl ml_X11_218 rfl (by decide) (Nat.le_of_ble_eq_true rfl) rfl (fun u3 => ?_)
    refine g_aload_n C dX11_restore_28 rfl 0 rfl ?_
    refine g_iconst (v := 0) C dX11_restore_29 rfl (by decide) ?_
    refine g_putI C dX11_restore_30 rfl rfl fp_11_40 rfl fl_X11_225 ?_
    refine g_letm (fun u4 => ?_)
    refine g_aload_n C dX11_restore_33 rfl 0 rfl ?_
    refine g_getI C dX11_restore_34 rfl rfl fi_11_9 rfl fl_X11_136 ?_
    exact g_iret C M dX11_restore_37 rfl rfl
  · refine g_aload_n C dX11_restore_12 rfl 0 rfl ?_
    refine g_bipush (v := (-3)) C dX11_restore_13 rfl (by decide) ?_
    refine g_callI [.int (-3)] C dX11_restore_15 rfl (tX11_refuse (xl Γ) (xE Γ) (-3) u1) cf_X11_refuse rfl rfl ml_X11_153 rfl (by decide) (Nat.le_of_ble_eq_true rfl) rfl (fun r6 u5 => ?_)
    exact g_iret C M dX11_restore_18 rfl rfl
set_option maxRecDepth 20000 in
set_option maxHeartbeats 4000000 in
theorem tX11_restore (l : Launch) (E : EE) (u : Mm) : Ct l E yX11_restore cX11_restore 1 (some .int) 3 [.ref (E.1 74)] u cvI (gX11_restore u) :=
  Ct_of (own := RX11) (by decide +kernel) rfl (Nat.le_of_ble_eq_true rfl) (fun p e R s m args below meth c C M => g_sub (ls' := [(0, .ref (E.1 74))]) [0] rfl (pX11_restore_0 C M rfl u))
set_option maxRecDepth 20000 in
set_option maxHeartbeats 4000000 in
theorem pX11_layer_48 {Γ : GX} (C : Cx Γ RX11 cX11_layer 1) (M : Mx Γ (some .int)) (L : xn Γ = 3) (s0 : Int32) (s2 : Int32) (u : Mm) : Gp Γ (QM Γ cvI) 48 [] [.int s0, .ref ((xE Γ).1 74), .int s2] u (gX11_layer_48 s0 s2 u) := by
  unfold gX11_layer_48
  refine g_callI [.int s0] C dX11_layer_48 rfl (tX11_refuse (xl Γ) (xE Γ) s0 u) cf_X11_refuse rfl rfl ml_X11_153 rfl (by decide) (Nat.le_of_ble_eq_true rfl) rfl (fun r2 u1 => ?_)
  refine g_isub C dX11_layer_51 rfl ?_
  exact g_iret C M dX11_layer_52 rfl rfl
set_option maxRecDepth 20000 in
set_option maxHeartbeats 4000000 in
theorem pX11_layer_27 {Γ : GX} (C : Cx Γ RX11 cX11_layer 1) (M : Mx Γ (some .int)) (L : xn Γ = 3) (v1 : Int32) (u : Mm) : Gp Γ (QM Γ cvI) 27 [(0, .ref ((xE Γ).1 74)), (1, .int v1)] [] u (gX11_layer_27 v1 u) := by
  unfold gX11_layer_27
  refine g_ldc (v := 1000000000) C dX11_layer_27 rfl (wm_20 15 rfl) ?_
  refine g_aload_n C dX11_layer_29 rfl 0 rfl ?_
  refine g_iload_n C dX11_layer_30 rfl 1 rfl ?_
  refine g_i2l C dX11_layer_31 rfl ?_
  refine g_lconst (v := 0) C dX11_layer_32 rfl (by decide) ?_
  refine g_ldc2_w (v := 7) C dX11_layer_33 rfl (wm_18 12 rfl) ?_
  refine g_callsP [.long v1.toInt64, .long 0, .long 7] C dX11_layer_36 rfl (tX11_in (xl Γ) (xE Γ) v1.toInt64 0 7 u) cf_X11_in ml_X11_107 rfl (by decide) (Nat.le_of_ble_eq_true rfl) rfl (fun r1 => ?_)
  refine g_if_eq 47 C dX11_layer_39 rfl (by decide) (fun c2 => ?_) (fun c2 => ?_)
  · refine g_iconst (v := (-1)) C dX11_layer_47 rfl (by decide) ?_
    refine g_sub (ls' := []) [] rfl ?_
    exact pX11_layer_48 C M L (-1) 1000000000 u
  · refine g_bipush (v := (-2)) C dX11_layer_42 rfl (by decide) ?_
    refine g_goto 48 C dX11_layer_44 rfl (by decide) ?_
    refine g_sub (ls' := []) [] rfl ?_
    exact pX11_layer_48 C M L (-2) 1000000000 u
set_option maxRecDepth 20000 in
set_option maxHeartbeats 4000000 in
theorem pX11_layer_0 {Γ : GX} (C : Cx Γ RX11 cX11_layer 1) (M : Mx Γ (some .int)) (L : xn Γ = 3) (v1 : Int32) (v2 : Int32) (u : Mm) : Gp Γ (QM Γ cvI) 0 [(0, .ref ((xE Γ).1 74)), (1, .int v1), (2, .int v2)] [] u (gX11_layer_b v1 v2 u) := by
  unfold gX11_layer_b
  refine g_aload_n C dX11_layer_0 rfl 0 rfl ?_
  refine g_iconst (v := 0) C dX11_layer_1 rfl (by decide) ?_
  refine g_putI C dX11_layer_2 rfl rfl fp_11_19 rfl fl_X11_104 ?_
  refine g_letm (fun u1 => ?_)
  refine g_iload_n C dX11_layer_5 rfl 1 rfl ?_
  refine g_i2l C dX11_layer_6 rfl ?_
  refine g_lconst (v := 0) C dX11_layer_7 rfl (by decide) ?_
  refine g_ldc2_w (v := 7) C dX11_layer_8 rfl (wm_18 12 rfl) ?_
  refine g_callsP [.long v1.toInt64, .long 0, .long 7] C dX11_layer_11 rfl (tX11_in (xl Γ) (xE Γ) v1.toInt64 0 7 u1) cf_X11_in ml_X11_107 rfl (by decide) (Nat.le_of_ble_eq_true rfl) rfl (fun r2 => ?_)
  refine g_if_eq 27 C dX11_layer_14 rfl (by decide) (fun c3 => ?_) (fun c3 => ?_)
  · refine g_sub (ls' := [(0, .ref ((xE Γ).1 74)), (1, .int v1)]) [0, 1] rfl ?_
    exact pX11_layer_27 C M L v1 u1
  · refine g_iload_n C dX11_layer_17 rfl 2 rfl ?_
    refine g_i2l C dX11_layer_18 rfl ?_
    refine g_lconst (v := 0) C dX11_layer_19 rfl (by decide) ?_
    refine g_lconst (v := 1) C dX11_layer_20 rfl (by decide) ?_
    refine g_callsP [.long v2.toInt64, .long 0, .long 1] C dX11_layer_21 rfl (tX11_in (xl Γ) (xE Γ) v2.toInt64 0 1 u1) cf_X11_in ml_X11_107 rfl (by decide) (Nat.le_of_ble_eq_true rfl) rfl (fun r4 => ?_)
    refine g_if_ne 53 C dX11_layer_24 rfl (by decide) (fun c5 => ?_) (fun c5 => ?_)
    · refine g_iload_n C dX11_layer_53 rfl 2 rfl ?_
      refine g_if_ne 66 C dX11_layer_54 rfl (by decide) (fun c6 => ?_) (fun c6 => ?_)
      · refine g_aload_n C dX11_layer_66 rfl 0 rfl ?_
        refine g_getR (k2 := 76) C dX11_layer_67 rfl rfl fi_11_1 ⟨by decide, by decide, rfl⟩ fl_X11_13 ?_
        refine g_iload_n C dX11_layer_70 rfl 1 rfl ?_
        refine g_gd (fun hi7 => ?_)
        refine g_iald C dX11_layer_71 rfl rfl rfl hi7 ?_
        exact g_iret C M dX11_layer_72 rfl rfl
      · refine g_aload_n C dX11_layer_57 rfl 0 rfl ?_
        refine g_getR (k2 := 75) C dX11_layer_58 rfl rfl fi_11_0 ⟨by decide, by decide, rfl⟩ fl_X11_7 ?_
        refine g_iload_n C dX11_layer_61 rfl 1 rfl ?_
        refine g_gd (fun hi8 => ?_)
        refine g_iald C dX11_layer_62 rfl rfl rfl hi8 ?_
        refine g_goto 72 C dX11_layer_63 rfl (by decide) ?_
        exact g_iret C M dX11_layer_72 rfl rfl
    · refine g_sub (ls' := [(0, .ref ((xE Γ).1 74)), (1, .int v1)]) [0, 1] rfl ?_
      exact pX11_layer_27 C M L v1 u1
set_option maxRecDepth 20000 in
set_option maxHeartbeats 4000000 in
theorem tX11_layer (l : Launch) (E : EE) (v1 : Int32) (v2 : Int32) (u : Mm) : Ct l E yX11_layer cX11_layer 3 (some .int) 1 [.ref (E.1 74), .int v1, .int v2] u cvI (gX11_layer v1 v2 u) :=
  Ct_of (own := RX11) (by decide +kernel) rfl (Nat.le_of_ble_eq_true rfl) (fun p e R s m args below meth c C M => g_sub (ls' := [(0, .ref (E.1 74)), (1, .int v1), (2, .int v2)]) [0, 1, 2] rfl (pX11_layer_0 C M rfl v1 v2 u))
set_option maxRecDepth 20000 in
set_option maxHeartbeats 4000000 in
theorem pX11_wind_59 {Γ : GX} (C : Cx Γ RX11 cX11_wind 1) (M : Mx Γ (some .int)) (L : xn Γ = 6) (v1 : Int32) (v2 : Int32) (v3 : Int32) (v4 : Int32) (u : Mm) : Gp Γ (QM Γ cvI) 59 [(0, .ref ((xE Γ).1 74)), (1, .int v1), (2, .int v2), (3, .int v3), (4, .int v4)] [] u (gX11_wind_59 v1 v2 v3 v4 u) := by
  unfold gX11_wind_59
  refine g_iload C dX11_wind_59 rfl 4 rfl ?_
  refine g_if_ge 71 C dX11_wind_61 rfl (by decide) (fun c1 => ?_) (fun c1 => ?_)
  · refine g_bipush (v := 100) C dX11_wind_71 rfl (by decide) ?_
    refine g_aload_n C dX11_wind_73 rfl 0 rfl ?_
    refine g_getR (k2 := 75) C dX11_wind_74 rfl rfl fi_11_0 ⟨by decide, by decide, rfl⟩ fl_X11_7 ?_
    refine g_iload_n C dX11_wind_77 rfl 1 rfl ?_
    refine g_gd (fun hi2 => ?_)
    refine g_iald C dX11_wind_78 rfl rfl rfl hi2 ?_
    refine g_bipush (v := 9) C dX11_wind_79 rfl (by decide) ?_
    refine g_iadd C dX11_wind_81 rfl ?_
    refine g_imul C dX11_wind_82 rfl ?_
    refine g_aload_n C dX11_wind_83 rfl 0 rfl ?_
    refine g_getR (k2 := 76) C dX11_wind_84 rfl rfl fi_11_1 ⟨by decide, by decide, rfl⟩ fl_X11_13 ?_
    refine g_iload_n C dX11_wind_87 rfl 1 rfl ?_
    refine g_gd (fun hi3 => ?_)
    refine g_iald C dX11_wind_88 rfl rfl rfl hi3 ?_
    refine g_iadd C dX11_wind_89 rfl ?_
    refine g_lets (fun v5_4 => ?_)
    refine g_istore (ls' := [(5, .int v5_4), (0, .ref ((xE Γ).1 74)), (1, .int v1), (2, .int v2), (3, .int v3), (4, .int v4)]) C dX11_wind_90 rfl L (by decide) rfl ?_
    refine g_aload_n C dX11_wind_92 rfl 1 rfl ?_
    refine g_getR (k2 := 75) C dX11_wind_93 rfl rfl fi_11_0 ⟨by decide, by decide, rfl⟩ fl_X11_7 ?_
    refine g_iload_n C dX11_wind_96 rfl 2 rfl ?_
    refine g_iload_n C dX11_wind_97 rfl 3 rfl ?_
    refine g_gd (fun hi6 => ?_)
    refine g_iast C dX11_wind_98 rfl rfl rfl hi6 ?_
    refine g_letm (fun u5 => ?_)
    refine g_aload_n C dX11_wind_99 rfl 1 rfl ?_
    refine g_getR (k2 := 76) C dX11_wind_100 rfl rfl fi_11_1 ⟨by decide, by decide, rfl⟩ fl_X11_13 ?_
    refine g_iload_n C dX11_wind_103 rfl 2 rfl ?_
    refine g_iload_n C dX11_wind_104 rfl 4 rfl ?_
    refine g_gd (fun hi8 => ?_)
    refine g_iast C dX11_wind_105 rfl rfl rfl hi8 ?_
    refine g_letm (fun u7 => ?_)
    refine g_aload_n C dX11_wind_106 rfl 1 rfl ?_
    refine g_iconst (v := 0) C dX11_wind_107 rfl (by decide) ?_
    refine g_putI C dX11_wind_108 rfl rfl fp_11_40 rfl fl_X11_225 ?_
    refine g_letm (fun u9 => ?_)
    refine g_iload C dX11_wind_111 rfl 0 rfl ?_
    exact g_iret C M dX11_wind_113 rfl rfl
  · refine g_aload_n C dX11_wind_64 rfl 0 rfl ?_
    refine g_iload C dX11_wind_65 rfl 4 rfl ?_
    refine g_callI [.int v4] C dX11_wind_67 rfl (tX11_refuse (xl Γ) (xE Γ) v4 u) cf_X11_refuse rfl rfl ml_X11_153 rfl (by decide) (Nat.le_of_ble_eq_true rfl) rfl (fun r11 u10 => ?_)
    exact g_iret C M dX11_wind_70 rfl rfl
set_option maxRecDepth 20000 in
set_option maxHeartbeats 4000000 in
theorem pX11_wind_36 {Γ : GX} (C : Cx Γ RX11 cX11_wind 1) (M : Mx Γ (some .int)) (L : xn Γ = 6) (v1 : Int32) (v2 : Int32) (v3 : Int32) (u : Mm) : Gp Γ (QM Γ cvI) 36 [(0, .ref ((xE Γ).1 74)), (1, .int v1), (2, .int v2), (3, .int v3)] [] u (gX11_wind_36 v1 v2 v3 u) := by
  unfold gX11_wind_36
  refine g_bipush (v := (-4)) C dX11_wind_36 rfl (by decide) ?_
  refine g_istore (ls' := [(4, .int (-4)), (0, .ref ((xE Γ).1 74)), (1, .int v1), (2, .int v2), (3, .int v3)]) C dX11_wind_38 rfl L (by decide) rfl ?_
  refine g_goto 59 C dX11_wind_40 rfl (by decide) ?_
  refine g_sub (ls' := [(0, .ref ((xE Γ).1 74)), (1, .int v1), (2, .int v2), (3, .int v3), (4, .int (-4))]) [1, 2, 3, 4, 0] rfl ?_
  exact pX11_wind_59 C M L v1 v2 v3 (-4) u
set_option maxRecDepth 20000 in
set_option maxHeartbeats 4000000 in
theorem pX11_wind_55 {Γ : GX} (C : Cx Γ RX11 cX11_wind 1) (M : Mx Γ (some .int)) (L : xn Γ = 6) (v1 : Int32) (v2 : Int32) (v3 : Int32) (u : Mm) : Gp Γ (QM Γ cvI) 55 [(0, .ref ((xE Γ).1 74)), (1, .int v1), (2, .int v2), (3, .int v3)] [] u (gX11_wind_55 v1 v2 v3 u) := by
  unfold gX11_wind_55
  refine g_bipush (v := (-6)) C dX11_wind_55 rfl (by decide) ?_
  refine g_istore (ls' := [(4, .int (-6)), (0, .ref ((xE Γ).1 74)), (1, .int v1), (2, .int v2), (3, .int v3)]) C dX11_wind_57 rfl L (by decide) rfl ?_
  refine g_sub (ls' := [(0, .ref ((xE Γ).1 74)), (1, .int v1), (2, .int v2), (3, .int v3), (4, .int (-6))]) [1, 2, 3, 4, 0] rfl ?_
  exact pX11_wind_59 C M L v1 v2 v3 (-6) u
set_option maxRecDepth 20000 in
set_option maxHeartbeats 4000000 in
theorem pX11_wind_0 {Γ : GX} (C : Cx Γ RX11 cX11_wind 1) (M : Mx Γ (some .int)) (L : xn Γ = 6) (v1 : Int32) (v2 : Int32) (v3 : Int32) (u : Mm) : Gp Γ (QM Γ cvI) 0 [(0, .ref ((xE Γ).1 74)), (1, .int v1), (2, .int v2), (3, .int v3)] [] u (gX11_wind_b v1 v2 v3 u) := by
  unfold gX11_wind_b
  refine g_aload_n C dX11_wind_0 rfl 0 rfl ?_
  refine g_iconst (v := 0) C dX11_wind_1 rfl (by decide) ?_
  refine g_putI C dX11_wind_2 rfl rfl fp_11_19 rfl fl_X11_104 ?_
  refine g_letm (fun u1 => ?_)
  refine g_iconst (v := 0) C dX11_wind_5 rfl (by decide) ?_
  refine g_istore (ls' := [(4, .int 0), (0, .ref ((xE Γ).1 74)), (1, .int v1), (2, .int v2), (3, .int v3)]) C dX11_wind_6 rfl L (by decide) rfl ?_
  refine g_iload_n C dX11_wind_8 rfl 2 rfl ?_
  refine g_i2l C dX11_wind_9 rfl ?_
  refine g_lconst (v := 0) C dX11_wind_10 rfl (by decide) ?_
  refine g_ldc2_w (v := 7) C dX11_wind_11 rfl (wm_18 12 rfl) ?_
  refine g_callsP [.long v1.toInt64, .long 0, .long 7] C dX11_wind_14 rfl (tX11_in (xl Γ) (xE Γ) v1.toInt64 0 7 u1) cf_X11_in ml_X11_107 rfl (by decide) (Nat.le_of_ble_eq_true rfl) rfl (fun r2 => ?_)
  refine g_if_ne 26 C dX11_wind_17 rfl (by decide) (fun c3 => ?_) (fun c3 => ?_)
  · refine g_iload_n C dX11_wind_26 rfl 3 rfl ?_
    refine g_bipush (v := (-9)) C dX11_wind_27 rfl (by decide) ?_
    refine g_icmp_lt 36 C dX11_wind_29 rfl (by decide) (fun c4 => ?_) (fun c4 => ?_)
    · refine g_sub (ls' := [(0, .ref ((xE Γ).1 74)), (1, .int v1), (2, .int v2), (3, .int v3)]) [1, 2, 3, 4] rfl ?_
      exact pX11_wind_36 C M L v1 v2 v3 u1
    · refine g_iload_n C dX11_wind_32 rfl 4 rfl ?_
      refine g_if_ge 43 C dX11_wind_33 rfl (by decide) (fun c5 => ?_) (fun c5 => ?_)
      · refine g_iload_n C dX11_wind_43 rfl 3 rfl ?_
        refine g_bipush (v := 9) C dX11_wind_44 rfl (by decide) ?_
        refine g_icmp_gt 55 C dX11_wind_46 rfl (by decide) (fun c6 => ?_) (fun c6 => ?_)
        · refine g_sub (ls' := [(0, .ref ((xE Γ).1 74)), (1, .int v1), (2, .int v2), (3, .int v3)]) [1, 2, 3, 4] rfl ?_
          exact pX11_wind_55 C M L v1 v2 v3 u1
        · refine g_iload_n C dX11_wind_49 rfl 4 rfl ?_
          refine g_bipush (v := 9) C dX11_wind_50 rfl (by decide) ?_
          refine g_icmp_le 59 C dX11_wind_52 rfl (by decide) (fun c7 => ?_) (fun c7 => ?_)
          · refine g_sub (ls' := [(0, .ref ((xE Γ).1 74)), (1, .int v1), (2, .int v2), (3, .int v3), (4, .int 0)]) [1, 2, 3, 4, 0] rfl ?_
            exact pX11_wind_59 C M L v1 v2 v3 0 u1
          · refine g_sub (ls' := [(0, .ref ((xE Γ).1 74)), (1, .int v1), (2, .int v2), (3, .int v3)]) [1, 2, 3, 4] rfl ?_
            exact pX11_wind_55 C M L v1 v2 v3 u1
      · refine g_sub (ls' := [(0, .ref ((xE Γ).1 74)), (1, .int v1), (2, .int v2), (3, .int v3)]) [1, 2, 3, 4] rfl ?_
        exact pX11_wind_36 C M L v1 v2 v3 u1
  · refine g_iconst (v := (-1)) C dX11_wind_20 rfl (by decide) ?_
    refine g_istore (ls' := [(4, .int (-1)), (0, .ref ((xE Γ).1 74)), (1, .int v1), (2, .int v2), (3, .int v3)]) C dX11_wind_21 rfl L (by decide) rfl ?_
    refine g_goto 59 C dX11_wind_23 rfl (by decide) ?_
    refine g_sub (ls' := [(0, .ref ((xE Γ).1 74)), (1, .int v1), (2, .int v2), (3, .int v3), (4, .int (-1))]) [1, 2, 3, 4, 0] rfl ?_
    exact pX11_wind_59 C M L v1 v2 v3 (-1) u1
set_option maxRecDepth 20000 in
set_option maxHeartbeats 4000000 in
theorem tX11_wind (l : Launch) (E : EE) (v1 : Int32) (v2 : Int32) (v3 : Int32) (u : Mm) : Ct l E yX11_wind cX11_wind 6 (some .int) 1 [.ref (E.1 74), .int v1, .int v2, .int v3] u cvI (gX11_wind v1 v2 v3 u) :=
  Ct_of (own := RX11) (by decide +kernel) rfl (Nat.le_of_ble_eq_true rfl) (fun p e R s m args below meth c C M => g_sub (ls' := [(0, .ref (E.1 74)), (1, .int v1), (2, .int v2), (3, .int v3)]) [0, 1, 2, 3] rfl (pX11_wind_0 C M rfl v1 v2 v3 u))
set_option maxRecDepth 20000 in
set_option maxHeartbeats 4000000 in
theorem pX11_field_40 {Γ : GX} (C : Cx Γ RX11 cX11_field 2) (M : Mx Γ (some .int)) (L : xn Γ = 3) (s0 : Int32) (u : Mm) : Gp Γ (QM Γ cvI) 40 [] [.int s0, .ref ((xE Γ).1 74)] u (gX11_field_40 s0 u) := by
  unfold gX11_field_40
  refine g_callI [.int s0] C dX11_field_40 rfl (tX11_refuse (xl Γ) (xE Γ) s0 u) cf_X11_refuse rfl rfl ml_X11_153 rfl (by decide) (Nat.le_of_ble_eq_true rfl) rfl (fun r2 u1 => ?_)
  exact g_iret C M dX11_field_43 rfl rfl
set_option maxRecDepth 20000 in
set_option maxHeartbeats 4000000 in
theorem pX11_field_25 {Γ : GX} (C : Cx Γ RX11 cX11_field 2) (M : Mx Γ (some .int)) (L : xn Γ = 3) (v1 : Int32) (u : Mm) : Gp Γ (QM Γ cvI) 25 [(0, .ref ((xE Γ).1 74)), (1, .int v1)] [] u (gX11_field_25 v1 u) := by
  unfold gX11_field_25
  refine g_aload_n C dX11_field_25 rfl 0 rfl ?_
  refine g_aload_n C dX11_field_26 rfl 0 rfl ?_
  refine g_iload_n C dX11_field_27 rfl 1 rfl ?_
  refine g_callP [.int v1] C dX11_field_28 rfl (tX11_isField (xl Γ) (xE Γ) v1 u) cf_X11_isField rfl rfl ml_X11_250 rfl (by decide) (Nat.le_of_ble_eq_true rfl) rfl (fun r1 => ?_)
  refine g_if_eq 39 C dX11_field_31 rfl (by decide) (fun c2 => ?_) (fun c2 => ?_)
  · refine g_iconst (v := (-1)) C dX11_field_39 rfl (by decide) ?_
    refine g_sub (ls' := []) [] rfl ?_
    exact pX11_field_40 C M L (-1) u
  · refine g_bipush (v := (-2)) C dX11_field_34 rfl (by decide) ?_
    refine g_goto 40 C dX11_field_36 rfl (by decide) ?_
    refine g_sub (ls' := []) [] rfl ?_
    exact pX11_field_40 C M L (-2) u
set_option maxRecDepth 20000 in
set_option maxHeartbeats 4000000 in
theorem pX11_field_0 {Γ : GX} (C : Cx Γ RX11 cX11_field 2) (M : Mx Γ (some .int)) (L : xn Γ = 3) (v1 : Int32) (v2 : Int32) (u : Mm) : Gp Γ (QM Γ cvI) 0 [(0, .ref ((xE Γ).1 74)), (1, .int v1), (2, .int v2)] [] u (gX11_field_b v1 v2 u) := by
  unfold gX11_field_b
  refine g_aload_n C dX11_field_0 rfl 0 rfl ?_
  refine g_iconst (v := 0) C dX11_field_1 rfl (by decide) ?_
  refine g_putI C dX11_field_2 rfl rfl fp_11_19 rfl fl_X11_104 ?_
  refine g_letm (fun u1 => ?_)
  refine g_aload_n C dX11_field_5 rfl 0 rfl ?_
  refine g_iload_n C dX11_field_6 rfl 1 rfl ?_
  refine g_callP [.int v1] C dX11_field_7 rfl (tX11_isField (xl Γ) (xE Γ) v1 u1) cf_X11_isField rfl rfl ml_X11_250 rfl (by decide) (Nat.le_of_ble_eq_true rfl) rfl (fun r2 => ?_)
  refine g_if_eq 25 C dX11_field_10 rfl (by decide) (fun c3 => ?_) (fun c3 => ?_)
  · refine g_sub (ls' := [(0, .ref ((xE Γ).1 74)), (1, .int v1)]) [0, 1] rfl ?_
    exact pX11_field_25 C M L v1 u1
  · refine g_iload_n C dX11_field_13 rfl 2 rfl ?_
    refine g_i2l C dX11_field_14 rfl ?_
    refine g_lconst (v := 0) C dX11_field_15 rfl (by decide) ?_
    refine g_ldc2_w (v := 4) C dX11_field_16 rfl (wm_21 19 rfl) ?_
    refine g_callsP [.long v2.toInt64, .long 0, .long 4] C dX11_field_19 rfl (tX11_in (xl Γ) (xE Γ) v2.toInt64 0 4 u1) cf_X11_in ml_X11_107 rfl (by decide) (Nat.le_of_ble_eq_true rfl) rfl (fun r4 => ?_)
    refine g_if_ne 44 C dX11_field_22 rfl (by decide) (fun c5 => ?_) (fun c5 => ?_)
    · refine g_iload_n C dX11_field_44 rfl 2 rfl ?_
      refine g_if (fun c6 => ?_) (fun c6 => ?_)
      · refine g_tabI 31 76 C dX11_field_45 rfl (by rw [c6]; exact ⟨by decide, by decide, rfl⟩) (by decide) ?_
        refine g_aload_n C dX11_field_76 rfl 0 rfl ?_
        refine g_getR (k2 := 78) C dX11_field_77 rfl rfl fi_11_12 ⟨by decide, by decide, rfl⟩ fl_X11_35 ?_
        refine g_iload_n C dX11_field_80 rfl 1 rfl ?_
        refine g_gd (fun hi7 => ?_)
        refine g_iald C dX11_field_81 rfl rfl rfl hi7 ?_
        exact g_iret C M dX11_field_82 rfl rfl
      refine g_if (fun c8 => ?_) (fun c8 => ?_)
      · refine g_tabI 38 83 C dX11_field_45 rfl (by rw [c8]; exact ⟨by decide, by decide, rfl⟩) (by decide) ?_
        refine g_aload_n C dX11_field_83 rfl 0 rfl ?_
        refine g_getR (k2 := 79) C dX11_field_84 rfl rfl fi_11_13 ⟨by decide, by decide, rfl⟩ fl_X11_38 ?_
        refine g_iload_n C dX11_field_87 rfl 1 rfl ?_
        refine g_gd (fun hi9 => ?_)
        refine g_iald C dX11_field_88 rfl rfl rfl hi9 ?_
        exact g_iret C M dX11_field_89 rfl rfl
      refine g_if (fun c10 => ?_) (fun c10 => ?_)
      · refine g_tabI 45 90 C dX11_field_45 rfl (by rw [c10]; exact ⟨by decide, by decide, rfl⟩) (by decide) ?_
        refine g_aload_n C dX11_field_90 rfl 0 rfl ?_
        refine g_getR (k2 := 80) C dX11_field_91 rfl rfl fi_11_14 ⟨by decide, by decide, rfl⟩ fl_X11_41 ?_
        refine g_iload_n C dX11_field_94 rfl 1 rfl ?_
        refine g_gd (fun hi11 => ?_)
        refine g_iald C dX11_field_95 rfl rfl rfl hi11 ?_
        exact g_iret C M dX11_field_96 rfl rfl
      refine g_if (fun c12 => ?_) (fun c12 => ?_)
      · refine g_tabI 52 97 C dX11_field_45 rfl (by rw [c12]; exact ⟨by decide, by decide, rfl⟩) (by decide) ?_
        refine g_aload_n C dX11_field_97 rfl 0 rfl ?_
        refine g_getR (k2 := 81) C dX11_field_98 rfl rfl fi_11_15 ⟨by decide, by decide, rfl⟩ fl_X11_44 ?_
        refine g_iload_n C dX11_field_101 rfl 1 rfl ?_
        refine g_gd (fun hi13 => ?_)
        refine g_iald C dX11_field_102 rfl rfl rfl hi13 ?_
        exact g_iret C M dX11_field_103 rfl rfl
      have ec6 := lv_neT c6 (a := 0) (by decide)
      have ec8 := lv_neT c8 (a := 1) (by decide)
      have ec10 := lv_neT c10 (a := 2) (by decide)
      have ec12 := lv_neT c12 (a := 3) (by decide)
      refine g_tabO 104 C dX11_field_45 rfl (by omega) (by decide) ?_
      refine g_aload_n C dX11_field_104 rfl 0 rfl ?_
      refine g_getR (k2 := 82) C dX11_field_105 rfl rfl fi_11_16 ⟨by decide, by decide, rfl⟩ fl_X11_47 ?_
      refine g_iload_n C dX11_field_108 rfl 1 rfl ?_
      refine g_gd (fun hi14 => ?_)
      refine g_iald C dX11_field_109 rfl rfl rfl hi14 ?_
      exact g_iret C M dX11_field_110 rfl rfl
    · refine g_sub (ls' := [(0, .ref ((xE Γ).1 74)), (1, .int v1)]) [0, 1] rfl ?_
      exact pX11_field_25 C M L v1 u1
set_option maxRecDepth 20000 in
set_option maxHeartbeats 4000000 in
theorem tX11_field (l : Launch) (E : EE) (v1 : Int32) (v2 : Int32) (u : Mm) : Ct l E yX11_field cX11_field 3 (some .int) 2 [.ref (E.1 74), .int v1, .int v2] u cvI (gX11_field v1 v2 u) :=
  Ct_of (own := RX11) (by decide +kernel) rfl (Nat.le_of_ble_eq_true rfl) (fun p e R s m args below meth c C M => g_sub (ls' := [(0, .ref (E.1 74)), (1, .int v1), (2, .int v2)]) [0, 1, 2] rfl (pX11_field_0 C M rfl v1 v2 u))
set_option maxRecDepth 20000 in
set_option maxHeartbeats 4000000 in
theorem pX11_cost_24 {Γ : GX} (C : Cx Γ RX11 cX11_cost 3) (M : Mx Γ (some .int)) (L : xn Γ = 4) (v1 : Int32) (v2 : Int32) (s0 : Int32) (u : Mm) : Gp Γ (QM Γ cvI) 24 [(0, .ref ((xE Γ).1 74)), (1, .int v1), (2, .int v2)] [.int s0] u (gX11_cost_24 v1 v2 s0 u) := by
  unfold gX11_cost_24
  refine g_istore_n (ls' := [(3, .int s0), (0, .ref ((xE Γ).1 74)), (1, .int v1), (2, .int v2)]) C dX11_cost_24 rfl L (by decide) rfl ?_
  refine g_iload_n C dX11_cost_25 rfl 0 rfl ?_
  refine g_if_ge 37 C dX11_cost_26 rfl (by decide) (fun c1 => ?_) (fun c1 => ?_)
  · refine g_aload_n C dX11_cost_37 rfl 1 rfl ?_
    refine g_iload_n C dX11_cost_38 rfl 2 rfl ?_
    refine g_iload_n C dX11_cost_39 rfl 3 rfl ?_
    refine g_callP [.int v1, .int v2] C dX11_cost_40 rfl (tX11_costOf (xl Γ) (xE Γ) v1 v2 u) cf_X11_costOf rfl rfl ml_X11_259 rfl (by decide) (Nat.le_of_ble_eq_true rfl) rfl (fun r2 => ?_)
    exact g_iret C M dX11_cost_43 rfl rfl
  · refine g_aload_n C dX11_cost_29 rfl 1 rfl ?_
    refine g_iload_n C dX11_cost_30 rfl 0 rfl ?_
    refine g_callI [.int s0] C dX11_cost_31 rfl (tX11_refuse (xl Γ) (xE Γ) s0 u) cf_X11_refuse rfl rfl ml_X11_153 rfl (by decide) (Nat.le_of_ble_eq_true rfl) rfl (fun r4 u3 => ?_)
    refine g_goto 43 C dX11_cost_34 rfl (by decide) ?_
    exact g_iret C M dX11_cost_43 rfl rfl
set_option maxRecDepth 20000 in
set_option maxHeartbeats 4000000 in
theorem pX11_cost_0 {Γ : GX} (C : Cx Γ RX11 cX11_cost 3) (M : Mx Γ (some .int)) (L : xn Γ = 4) (v1 : Int32) (v2 : Int32) (u : Mm) : Gp Γ (QM Γ cvI) 0 [(0, .ref ((xE Γ).1 74)), (1, .int v1), (2, .int v2)] [] u (gX11_cost_b v1 v2 u) := by
  unfold gX11_cost_b
  refine g_aload_n C dX11_cost_0 rfl 0 rfl ?_
  refine g_iconst (v := 0) C dX11_cost_1 rfl (by decide) ?_
  refine g_putI C dX11_cost_2 rfl rfl fp_11_19 rfl fl_X11_104 ?_
  refine g_letm (fun u1 => ?_)
  refine g_aload_n C dX11_cost_5 rfl 0 rfl ?_
  refine g_iload_n C dX11_cost_6 rfl 1 rfl ?_
  refine g_callP [.int v1] C dX11_cost_7 rfl (tX11_isField (xl Γ) (xE Γ) v1 u1) cf_X11_isField rfl rfl ml_X11_250 rfl (by decide) (Nat.le_of_ble_eq_true rfl) rfl (fun r2 => ?_)
  refine g_if_eq 23 C dX11_cost_10 rfl (by decide) (fun c3 => ?_) (fun c3 => ?_)
  · refine g_iconst (v := (-1)) C dX11_cost_23 rfl (by decide) ?_
    exact pX11_cost_24 C M L v1 v2 (-1) u1
  · refine g_iload_n C dX11_cost_13 rfl 2 rfl ?_
    refine g_iconst (v := 0) C dX11_cost_14 rfl (by decide) ?_
    refine g_bipush (v := 20) C dX11_cost_15 rfl (by decide) ?_
    refine g_callsP [.int v2, .int 0, .int 20] C dX11_cost_17 rfl (tX11_wrongNumber (xl Γ) (xE Γ) v2 0 20 u1) cf_X11_wrongNumber ml_X11_255 rfl (by decide) (Nat.le_of_ble_eq_true rfl) rfl (fun r4 => ?_)
    refine g_goto 24 C dX11_cost_20 rfl (by decide) ?_
    exact pX11_cost_24 C M L v1 v2 r4 u1
set_option maxRecDepth 20000 in
set_option maxHeartbeats 4000000 in
theorem tX11_cost (l : Launch) (E : EE) (v1 : Int32) (v2 : Int32) (u : Mm) : Ct l E yX11_cost cX11_cost 4 (some .int) 3 [.ref (E.1 74), .int v1, .int v2] u cvI (gX11_cost v1 v2 u) :=
  Ct_of (own := RX11) (by decide +kernel) rfl (Nat.le_of_ble_eq_true rfl) (fun p e R s m args below meth c C M => g_sub (ls' := [(0, .ref (E.1 74)), (1, .int v1), (2, .int v2)]) [0, 1, 2] rfl (pX11_cost_0 C M rfl v1 v2 u))
set_option maxRecDepth 20000 in
set_option maxHeartbeats 4000000 in
theorem pX11_drag_0 {Γ : GX} (C : Cx Γ RX11 cX11_drag 2) (M : Mx Γ (some .int)) (L : xn Γ = 2) (v1 : Int32) (u : Mm) : Gp Γ (QM Γ cvI) 0 [(0, .ref ((xE Γ).1 74)), (1, .int v1)] [] u (gX11_drag_b v1 u) := by
  unfold gX11_drag_b
  refine g_aload_n C dX11_drag_0 rfl 0 rfl ?_
  refine g_iconst (v := 0) C dX11_drag_1 rfl (by decide) ?_
  refine g_putI C dX11_drag_2 rfl rfl fp_11_19 rfl fl_X11_104 ?_
  refine g_letm (fun u1 => ?_)
  refine g_iload_n C dX11_drag_5 rfl 1 rfl ?_
  refine g_iconst (v := 0) C dX11_drag_6 rfl (by decide) ?_
  refine g_bipush (v := 20) C dX11_drag_7 rfl (by decide) ?_
  refine g_callsP [.int v1, .int 0, .int 20] C dX11_drag_9 rfl (tX11_wrongNumber (xl Γ) (xE Γ) v1 0 20 u1) cf_X11_wrongNumber ml_X11_255 rfl (by decide) (Nat.le_of_ble_eq_true rfl) rfl (fun r2 => ?_)
  refine g_if_ge 29 C dX11_drag_12 rfl (by decide) (fun c3 => ?_) (fun c3 => ?_)
  · refine g_aload_n C dX11_drag_29 rfl 0 rfl ?_
    refine g_iload_n C dX11_drag_30 rfl 1 rfl ?_
    refine g_callP [.int v1] C dX11_drag_31 rfl (tX11_dragOf (xl Γ) (xE Γ) v1 u1) cf_X11_dragOf rfl rfl ml_X11_150 rfl (by decide) (Nat.le_of_ble_eq_true rfl) rfl (fun r4 => ?_)
    exact g_iret C M dX11_drag_34 rfl rfl
  · refine g_aload_n C dX11_drag_15 rfl 0 rfl ?_
    refine g_iload_n C dX11_drag_16 rfl 1 rfl ?_
    refine g_iconst (v := 0) C dX11_drag_17 rfl (by decide) ?_
    refine g_bipush (v := 20) C dX11_drag_18 rfl (by decide) ?_
    refine g_callsP [.int v1, .int 0, .int 20] C dX11_drag_20 rfl (tX11_wrongNumber (xl Γ) (xE Γ) v1 0 20 u1) cf_X11_wrongNumber ml_X11_255 rfl (by decide) (Nat.le_of_ble_eq_true rfl) rfl (fun r5 => ?_)
    refine g_callI [.int r5] C dX11_drag_23 rfl (tX11_refuse (xl Γ) (xE Γ) r5 u1) cf_X11_refuse rfl rfl ml_X11_153 rfl (by decide) (Nat.le_of_ble_eq_true rfl) rfl (fun r7 u6 => ?_)
    refine g_goto 34 C dX11_drag_26 rfl (by decide) ?_
    exact g_iret C M dX11_drag_34 rfl rfl
set_option maxRecDepth 20000 in
set_option maxHeartbeats 4000000 in
theorem tX11_drag (l : Launch) (E : EE) (v1 : Int32) (u : Mm) : Ct l E yX11_drag cX11_drag 2 (some .int) 2 [.ref (E.1 74), .int v1] u cvI (gX11_drag v1 u) :=
  Ct_of (own := RX11) (by decide +kernel) rfl (Nat.le_of_ble_eq_true rfl) (fun p e R s m args below meth c C M => g_sub (ls' := [(0, .ref (E.1 74)), (1, .int v1)]) [0, 1] rfl (pX11_drag_0 C M rfl v1 u))
set_option maxRecDepth 20000 in
set_option maxHeartbeats 4000000 in
theorem pX11_settingOf_0 {Γ : GX} (C : Cx Γ RX11 cX11_settingOf 0) (M : Mx Γ (some .int)) (L : xn Γ = 2) (u : Mm) (v1 : Int32) : Gp Γ (QM Γ (cvP u)) 0 [(0, .ref ((xE Γ).1 74)), (1, .int v1)] [] u (gX11_settingOf_b v1 u) := by
  unfold gX11_settingOf_b
  refine g_iload_n C dX11_settingOf_0 rfl 1 rfl ?_
  refine g_if (fun c1 => ?_) (fun c1 => ?_)
  · refine g_tabI 31 32 C dX11_settingOf_1 rfl (by rw [c1]; exact ⟨by decide, by decide, rfl⟩) (by decide) ?_
    refine g_aload_n C dX11_settingOf_32 rfl 0 rfl ?_
    refine g_getI C dX11_settingOf_33 rfl rfl fi_11_2 rfl fl_X11_127 ?_
    exact g_iret C M dX11_settingOf_36 rfl rfl
  refine g_if (fun c2 => ?_) (fun c2 => ?_)
  · refine g_tabI 36 37 C dX11_settingOf_1 rfl (by rw [c2]; exact ⟨by decide, by decide, rfl⟩) (by decide) ?_
    refine g_aload_n C dX11_settingOf_37 rfl 0 rfl ?_
    refine g_getI C dX11_settingOf_38 rfl rfl fi_11_5 rfl fl_X11_20 ?_
    exact g_iret C M dX11_settingOf_41 rfl rfl
  refine g_if (fun c3 => ?_) (fun c3 => ?_)
  · refine g_tabI 41 42 C dX11_settingOf_1 rfl (by rw [c3]; exact ⟨by decide, by decide, rfl⟩) (by decide) ?_
    refine g_aload_n C dX11_settingOf_42 rfl 0 rfl ?_
    refine g_getI C dX11_settingOf_43 rfl rfl fi_11_6 rfl fl_X11_23 ?_
    exact g_iret C M dX11_settingOf_46 rfl rfl
  refine g_if (fun c4 => ?_) (fun c4 => ?_)
  · refine g_tabI 46 47 C dX11_settingOf_1 rfl (by rw [c4]; exact ⟨by decide, by decide, rfl⟩) (by decide) ?_
    refine g_aload_n C dX11_settingOf_47 rfl 0 rfl ?_
    refine g_getI C dX11_settingOf_48 rfl rfl fi_11_7 rfl fl_X11_26 ?_
    exact g_iret C M dX11_settingOf_51 rfl rfl
  have ec1 := lv_neT c1 (a := 0) (by decide)
  have ec2 := lv_neT c2 (a := 1) (by decide)
  have ec3 := lv_neT c3 (a := 2) (by decide)
  have ec4 := lv_neT c4 (a := 3) (by decide)
  refine g_tabO 52 C dX11_settingOf_1 rfl (by omega) (by decide) ?_
  refine g_aload_n C dX11_settingOf_52 rfl 0 rfl ?_
  refine g_getI C dX11_settingOf_53 rfl rfl fi_11_8 rfl fl_X11_29 ?_
  exact g_iret C M dX11_settingOf_56 rfl rfl
set_option maxRecDepth 20000 in
set_option maxHeartbeats 4000000 in
theorem tX11_settingOf (l : Launch) (E : EE) (v1 : Int32) (u : Mm) : Ct l E yX11_settingOf cX11_settingOf 2 (some .int) 0 [.ref (E.1 74), .int v1] u (cvP u) (gX11_settingOf v1 u) :=
  Ct_of (own := RX11) (by decide +kernel) rfl (Nat.le_of_ble_eq_true rfl) (fun p e R s m args below meth c C M => g_sub (ls' := [(0, .ref (E.1 74)), (1, .int v1)]) [0, 1] rfl (pX11_settingOf_0 C M rfl u v1))
set_option maxRecDepth 20000 in
set_option maxHeartbeats 4000000 in
theorem pX11_set_166 {Γ : GX} (C : Cx Γ RX11 cX11_set 2) (M : Mx Γ (some .int)) (L : xn Γ = 6) (v5 : Int32) (u : Mm) : Gp Γ (QM Γ cvI) 166 [(0, .ref ((xE Γ).1 74)), (5, .int v5)] [] u (gX11_set_166 v5 u) := by
  unfold gX11_set_166
  refine g_aload_n C dX11_set_166 rfl 0 rfl ?_
  refine g_iconst (v := 0) C dX11_set_167 rfl (by decide) ?_
  refine g_putI C dX11_set_168 rfl rfl fp_11_40 rfl fl_X11_225 ?_
  refine g_letm (fun u1 => ?_)
  refine g_iload C dX11_set_171 rfl 1 rfl ?_
  exact g_iret C M dX11_set_173 rfl rfl
set_option maxRecDepth 20000 in
set_option maxHeartbeats 4000000 in
theorem pX11_set_153 {Γ : GX} (C : Cx Γ RX11 cX11_set 2) (M : Mx Γ (some .int)) (L : xn Γ = 6) (v1 : Int32) (v2 : Int32) (v5 : Int32) (s0 : Int32) (u : Mm) : Gp Γ (QM Γ cvI) 153 [(0, .ref ((xE Γ).1 74)), (1, .int v1), (2, .int v2), (5, .int v5)] [.int s0, .ref ((xE Γ).1 74)] u (gX11_set_153 v1 v2 v5 s0 u) := by
  unfold gX11_set_153
  refine g_putI C dX11_set_153 rfl rfl fp_11_7 rfl fl_X11_26 ?_
  refine g_letm (fun u1 => ?_)
  refine g_iload_n C dX11_set_156 rfl 1 rfl ?_
  refine g_iconst (v := 4) C dX11_set_157 rfl (by decide) ?_
  refine g_icmp_ne 166 C dX11_set_158 rfl (by decide) (fun c2 => ?_) (fun c2 => ?_)
  · refine g_sub (ls' := [(0, .ref ((xE Γ).1 74)), (5, .int v5)]) [0, 3] rfl ?_
    exact pX11_set_166 C M L v5 u1
  · refine g_aload_n C dX11_set_161 rfl 0 rfl ?_
    refine g_iload_n C dX11_set_162 rfl 2 rfl ?_
    refine g_callV [.int v2] C dX11_set_163 rfl (tX11_lagBecomes (xl Γ) (xE Γ) v2 u1) cf_X11_lagBecomes rfl rfl ml_X11_196 rfl (by decide) (Nat.le_of_ble_eq_true rfl) rfl (fun u3 => ?_)
    refine g_sub (ls' := [(0, .ref ((xE Γ).1 74)), (5, .int v5)]) [0, 3] rfl ?_
    exact pX11_set_166 C M L v5 u3
set_option maxRecDepth 20000 in
set_option maxHeartbeats 4000000 in
theorem pX11_set_136 {Γ : GX} (C : Cx Γ RX11 cX11_set 2) (M : Mx Γ (some .int)) (L : xn Γ = 6) (v1 : Int32) (v2 : Int32) (v5 : Int32) (s0 : Int32) (u : Mm) : Gp Γ (QM Γ cvI) 136 [(0, .ref ((xE Γ).1 74)), (1, .int v1), (2, .int v2), (5, .int v5)] [.int s0, .ref ((xE Γ).1 74)] u (gX11_set_136 v1 v2 v5 s0 u) := by
  unfold gX11_set_136
  refine g_putI C dX11_set_136 rfl rfl fp_11_6 rfl fl_X11_23 ?_
  refine g_letm (fun u1 => ?_)
  refine g_aload_n C dX11_set_139 rfl 0 rfl ?_
  refine g_iload_n C dX11_set_140 rfl 1 rfl ?_
  refine g_iconst (v := 3) C dX11_set_141 rfl (by decide) ?_
  refine g_icmp_ne 149 C dX11_set_142 rfl (by decide) (fun c2 => ?_) (fun c2 => ?_)
  · refine g_aload_n C dX11_set_149 rfl 0 rfl ?_
    refine g_getI C dX11_set_150 rfl rfl fi_11_7 rfl fl_X11_26 ?_
    exact pX11_set_153 C M L v1 v2 v5 (u1 74 7) u1
  · refine g_iload_n C dX11_set_145 rfl 2 rfl ?_
    refine g_goto 153 C dX11_set_146 rfl (by decide) ?_
    exact pX11_set_153 C M L v1 v2 v5 v2 u1
set_option maxRecDepth 20000 in
set_option maxHeartbeats 4000000 in
theorem pX11_set_119 {Γ : GX} (C : Cx Γ RX11 cX11_set 2) (M : Mx Γ (some .int)) (L : xn Γ = 6) (v1 : Int32) (v2 : Int32) (v5 : Int32) (s0 : Int32) (u : Mm) : Gp Γ (QM Γ cvI) 119 [(0, .ref ((xE Γ).1 74)), (1, .int v1), (2, .int v2), (5, .int v5)] [.int s0, .ref ((xE Γ).1 74)] u (gX11_set_119 v1 v2 v5 s0 u) := by
  unfold gX11_set_119
  refine g_putI C dX11_set_119 rfl rfl fp_11_5 rfl fl_X11_20 ?_
  refine g_letm (fun u1 => ?_)
  refine g_aload_n C dX11_set_122 rfl 0 rfl ?_
  refine g_iload_n C dX11_set_123 rfl 1 rfl ?_
  refine g_iconst (v := 2) C dX11_set_124 rfl (by decide) ?_
  refine g_icmp_ne 132 C dX11_set_125 rfl (by decide) (fun c2 => ?_) (fun c2 => ?_)
  · refine g_aload_n C dX11_set_132 rfl 0 rfl ?_
    refine g_getI C dX11_set_133 rfl rfl fi_11_6 rfl fl_X11_23 ?_
    exact pX11_set_136 C M L v1 v2 v5 (u1 74 6) u1
  · refine g_iload_n C dX11_set_128 rfl 2 rfl ?_
    refine g_goto 136 C dX11_set_129 rfl (by decide) ?_
    exact pX11_set_136 C M L v1 v2 v5 v2 u1
set_option maxRecDepth 20000 in
set_option maxHeartbeats 4000000 in
theorem pX11_set_102 {Γ : GX} (C : Cx Γ RX11 cX11_set 2) (M : Mx Γ (some .int)) (L : xn Γ = 6) (v1 : Int32) (v2 : Int32) (v5 : Int32) (s0 : Int32) (u : Mm) : Gp Γ (QM Γ cvI) 102 [(0, .ref ((xE Γ).1 74)), (1, .int v1), (2, .int v2), (5, .int v5)] [.int s0, .ref ((xE Γ).1 74)] u (gX11_set_102 v1 v2 v5 s0 u) := by
  unfold gX11_set_102
  refine g_putI C dX11_set_102 rfl rfl fp_11_2 rfl fl_X11_127 ?_
  refine g_letm (fun u1 => ?_)
  refine g_aload_n C dX11_set_105 rfl 0 rfl ?_
  refine g_iload_n C dX11_set_106 rfl 1 rfl ?_
  refine g_iconst (v := 1) C dX11_set_107 rfl (by decide) ?_
  refine g_icmp_ne 115 C dX11_set_108 rfl (by decide) (fun c2 => ?_) (fun c2 => ?_)
  · refine g_aload_n C dX11_set_115 rfl 0 rfl ?_
    refine g_getI C dX11_set_116 rfl rfl fi_11_5 rfl fl_X11_20 ?_
    exact pX11_set_119 C M L v1 v2 v5 (u1 74 5) u1
  · refine g_iload_n C dX11_set_111 rfl 2 rfl ?_
    refine g_goto 119 C dX11_set_112 rfl (by decide) ?_
    exact pX11_set_119 C M L v1 v2 v5 v2 u1
set_option maxRecDepth 20000 in
set_option maxHeartbeats 4000000 in
theorem pX11_set_68 {Γ : GX} (C : Cx Γ RX11 cX11_set 2) (M : Mx Γ (some .int)) (L : xn Γ = 6) (v1 : Int32) (v2 : Int32) (s0 : Int32) (u : Mm) : Gp Γ (QM Γ cvI) 68 [(0, .ref ((xE Γ).1 74)), (1, .int v1), (2, .int v2)] [.int s0] u (gX11_set_68 v1 v2 s0 u) := by
  unfold gX11_set_68
  refine g_istore (ls' := [(4, .int s0), (0, .ref ((xE Γ).1 74)), (1, .int v1), (2, .int v2)]) C dX11_set_68 rfl L (by decide) rfl ?_
  refine g_iload C dX11_set_70 rfl 0 rfl ?_
  refine g_if_ge 82 C dX11_set_72 rfl (by decide) (fun c1 => ?_) (fun c1 => ?_)
  · refine g_aload_n C dX11_set_82 rfl 1 rfl ?_
    refine g_iload_n C dX11_set_83 rfl 2 rfl ?_
    refine g_callP [.int v1] C dX11_set_84 rfl (tX11_settingOf (xl Γ) (xE Γ) v1 u) cf_X11_settingOf rfl rfl ml_X11_262 rfl (by decide) (Nat.le_of_ble_eq_true rfl) rfl (fun r2 => ?_)
    refine g_istore (ls' := [(5, .int r2), (4, .int s0), (0, .ref ((xE Γ).1 74)), (1, .int v1), (2, .int v2)]) C dX11_set_87 rfl L (by decide) rfl ?_
    refine g_aload_n C dX11_set_89 rfl 2 rfl ?_
    refine g_iload_n C dX11_set_90 rfl 3 rfl ?_
    refine g_if_ne 98 C dX11_set_91 rfl (by decide) (fun c3 => ?_) (fun c3 => ?_)
    · refine g_aload_n C dX11_set_98 rfl 2 rfl ?_
      refine g_getI C dX11_set_99 rfl rfl fi_11_2 rfl fl_X11_127 ?_
      refine g_sub (ls' := [(0, .ref ((xE Γ).1 74)), (1, .int v1), (2, .int v2), (5, .int r2)]) [2, 3, 4, 0] rfl ?_
      exact pX11_set_102 C M L v1 v2 r2 (u 74 2) u
    · refine g_iload_n C dX11_set_94 rfl 4 rfl ?_
      refine g_goto 102 C dX11_set_95 rfl (by decide) ?_
      refine g_sub (ls' := [(0, .ref ((xE Γ).1 74)), (1, .int v1), (2, .int v2), (5, .int r2)]) [2, 3, 4, 0] rfl ?_
      exact pX11_set_102 C M L v1 v2 r2 v2 u
  · refine g_aload_n C dX11_set_75 rfl 1 rfl ?_
    refine g_iload C dX11_set_76 rfl 0 rfl ?_
    refine g_callI [.int s0] C dX11_set_78 rfl (tX11_refuse (xl Γ) (xE Γ) s0 u) cf_X11_refuse rfl rfl ml_X11_153 rfl (by decide) (Nat.le_of_ble_eq_true rfl) rfl (fun r5 u4 => ?_)
    exact g_iret C M dX11_set_81 rfl rfl
set_option maxRecDepth 20000 in
set_option maxHeartbeats 4000000 in
theorem pX11_set_59 {Γ : GX} (C : Cx Γ RX11 cX11_set 2) (M : Mx Γ (some .int)) (L : xn Γ = 6) (v1 : Int32) (v2 : Int32) (v3 : Int32) (s0 : Int32) (s1 : Int32) (u : Mm) : Gp Γ (QM Γ cvI) 59 [(0, .ref ((xE Γ).1 74)), (1, .int v1), (2, .int v2), (3, .int v3)] [.int s0, .int s1] u (gX11_set_59 v1 v2 v3 s0 s1 u) := by
  unfold gX11_set_59
  refine g_iload_n C dX11_set_59 rfl 3 rfl ?_
  refine g_callsP [.int s1, .int s0, .int v3] C dX11_set_60 rfl (tX11_wrongNumber (xl Γ) (xE Γ) s1 s0 v3 u) cf_X11_wrongNumber ml_X11_255 rfl (by decide) (Nat.le_of_ble_eq_true rfl) rfl (fun r1 => ?_)
  refine g_goto 68 C dX11_set_63 rfl (by decide) ?_
  refine g_sub (ls' := [(0, .ref ((xE Γ).1 74)), (1, .int v1), (2, .int v2)]) [0, 1, 2] rfl ?_
  exact pX11_set_68 C M L v1 v2 r1 u
set_option maxRecDepth 20000 in
set_option maxHeartbeats 4000000 in
theorem pX11_set_35 {Γ : GX} (C : Cx Γ RX11 cX11_set 2) (M : Mx Γ (some .int)) (L : xn Γ = 6) (v1 : Int32) (v2 : Int32) (s0 : Int32) (u : Mm) : Gp Γ (QM Γ cvI) 35 [(0, .ref ((xE Γ).1 74)), (1, .int v1), (2, .int v2)] [.int s0] u (gX11_set_35 v1 v2 s0 u) := by
  unfold gX11_set_35
  refine g_istore_n (ls' := [(3, .int s0), (0, .ref ((xE Γ).1 74)), (1, .int v1), (2, .int v2)]) C dX11_set_35 rfl L (by decide) rfl ?_
  refine g_iload_n C dX11_set_36 rfl 2 rfl ?_
  refine g_i2l C dX11_set_37 rfl ?_
  refine g_lconst (v := 0) C dX11_set_38 rfl (by decide) ?_
  refine g_ldc2_w (v := 4) C dX11_set_39 rfl (wm_21 19 rfl) ?_
  refine g_callsP [.long v1.toInt64, .long 0, .long 4] C dX11_set_42 rfl (tX11_in (xl Γ) (xE Γ) v1.toInt64 0 4 u) cf_X11_in ml_X11_107 rfl (by decide) (Nat.le_of_ble_eq_true rfl) rfl (fun r1 => ?_)
  refine g_if_eq 66 C dX11_set_45 rfl (by decide) (fun c2 => ?_) (fun c2 => ?_)
  · refine g_bipush (v := (-2)) C dX11_set_66 rfl (by decide) ?_
    refine g_sub (ls' := [(0, .ref ((xE Γ).1 74)), (1, .int v1), (2, .int v2)]) [1, 2, 3] rfl ?_
    exact pX11_set_68 C M L v1 v2 (-2) u
  · refine g_iload_n C dX11_set_48 rfl 3 rfl ?_
    refine g_iload_n C dX11_set_49 rfl 2 rfl ?_
    refine g_iconst (v := 3) C dX11_set_50 rfl (by decide) ?_
    refine g_icmp_ne 58 C dX11_set_51 rfl (by decide) (fun c3 => ?_) (fun c3 => ?_)
    · refine g_iconst (v := 0) C dX11_set_58 rfl (by decide) ?_
      refine g_sub (ls' := [(0, .ref ((xE Γ).1 74)), (1, .int v1), (2, .int v2), (3, .int s0)]) [1, 2, 3, 0] rfl ?_
      exact pX11_set_59 C M L v1 v2 s0 0 v2 u
    · refine g_iconst (v := 1) C dX11_set_54 rfl (by decide) ?_
      refine g_goto 59 C dX11_set_55 rfl (by decide) ?_
      refine g_sub (ls' := [(0, .ref ((xE Γ).1 74)), (1, .int v1), (2, .int v2), (3, .int s0)]) [1, 2, 3, 0] rfl ?_
      exact pX11_set_59 C M L v1 v2 s0 1 v2 u
set_option maxRecDepth 20000 in
set_option maxHeartbeats 4000000 in
theorem pX11_set_0 {Γ : GX} (C : Cx Γ RX11 cX11_set 2) (M : Mx Γ (some .int)) (L : xn Γ = 6) (v1 : Int32) (v2 : Int32) (u : Mm) : Gp Γ (QM Γ cvI) 0 [(0, .ref ((xE Γ).1 74)), (1, .int v1), (2, .int v2)] [] u (gX11_set_b v1 v2 u) := by
  unfold gX11_set_b
  refine g_aload_n C dX11_set_0 rfl 0 rfl ?_
  refine g_iconst (v := 0) C dX11_set_1 rfl (by decide) ?_
  refine g_putI C dX11_set_2 rfl rfl fp_11_19 rfl fl_X11_104 ?_
  refine g_letm (fun u1 => ?_)
  refine g_iload_n C dX11_set_5 rfl 1 rfl ?_
  refine g_if_ne 14 C dX11_set_6 rfl (by decide) (fun c2 => ?_) (fun c2 => ?_)
  · refine g_iload_n C dX11_set_14 rfl 1 rfl ?_
    refine g_iconst (v := 3) C dX11_set_15 rfl (by decide) ?_
    refine g_icmp_ne 24 C dX11_set_16 rfl (by decide) (fun c3 => ?_) (fun c3 => ?_)
    · refine g_iload_n C dX11_set_24 rfl 1 rfl ?_
      refine g_iconst (v := 4) C dX11_set_25 rfl (by decide) ?_
      refine g_icmp_ne 33 C dX11_set_26 rfl (by decide) (fun c4 => ?_) (fun c4 => ?_)
      · refine g_bipush (v := 60) C dX11_set_33 rfl (by decide) ?_
        exact pX11_set_35 C M L v1 v2 60 u1
      · refine g_iconst (v := 5) C dX11_set_29 rfl (by decide) ?_
        refine g_goto 35 C dX11_set_30 rfl (by decide) ?_
        exact pX11_set_35 C M L v1 v2 5 u1
    · refine g_bipush (v := 6) C dX11_set_19 rfl (by decide) ?_
      refine g_goto 35 C dX11_set_21 rfl (by decide) ?_
      exact pX11_set_35 C M L v1 v2 6 u1
  · refine g_bipush (v := 39) C dX11_set_9 rfl (by decide) ?_
    refine g_goto 35 C dX11_set_11 rfl (by decide) ?_
    exact pX11_set_35 C M L v1 v2 39 u1
set_option maxRecDepth 20000 in
set_option maxHeartbeats 4000000 in
theorem tX11_set (l : Launch) (E : EE) (v1 : Int32) (v2 : Int32) (u : Mm) : Ct l E yX11_set cX11_set 6 (some .int) 2 [.ref (E.1 74), .int v1, .int v2] u cvI (gX11_set v1 v2 u) :=
  Ct_of (own := RX11) (by decide +kernel) rfl (Nat.le_of_ble_eq_true rfl) (fun p e R s m args below meth c C M => g_sub (ls' := [(0, .ref (E.1 74)), (1, .int v1), (2, .int v2)]) [0, 1, 2] rfl (pX11_set_0 C M rfl v1 v2 u))
set_option maxRecDepth 20000 in
set_option maxHeartbeats 4000000 in
theorem pX11_rising_0 {Γ : GX} (C : Cx Γ RX11 cX11_rising 2) (M : Mx Γ (some .int)) (L : xn Γ = 1) (u : Mm) : Gp Γ (QM Γ cvI) 0 [(0, .ref ((xE Γ).1 74))] [] u (gX11_rising_b u) := by
  unfold gX11_rising_b
  refine g_aload_n C dX11_rising_0 rfl 0 rfl ?_
  refine g_iconst (v := 0) C dX11_rising_1 rfl (by decide) ?_
  refine g_putI C dX11_rising_2 rfl rfl fp_11_19 rfl fl_X11_104 ?_
  refine g_letm (fun u1 => ?_)
  refine g_aload_n C dX11_rising_5 rfl 0 rfl ?_
  refine g_callP [] C dX11_rising_6 rfl (tX11_risingNow (xl Γ) (xE Γ) u1) cf_X11_risingNow rfl rfl ml_X11_124 rfl (by decide) (Nat.le_of_ble_eq_true rfl) rfl (fun r2 => ?_)
  exact g_iret C M dX11_rising_9 rfl rfl
set_option maxRecDepth 20000 in
set_option maxHeartbeats 4000000 in
theorem tX11_rising (l : Launch) (E : EE) (u : Mm) : Ct l E yX11_rising cX11_rising 1 (some .int) 2 [.ref (E.1 74)] u cvI (gX11_rising u) :=
  Ct_of (own := RX11) (by decide +kernel) rfl (Nat.le_of_ble_eq_true rfl) (fun p e R s m args below meth c C M => g_sub (ls' := [(0, .ref (E.1 74))]) [0] rfl (pX11_rising_0 C M rfl u))
set_option maxRecDepth 20000 in
set_option maxHeartbeats 4000000 in
theorem pX11_keepTurn_73s {Γ : GX} (C : Cx Γ RX11 cX11_keepTurn 2) (M : Mx Γ none) (L : xn Γ = 2) {j73 : Int32 → Mm → Option Mm} (hj73 : ∀ (v1 : Int32) (u : Mm), Gp Γ (QM Γ cvV) 73 [(0, .ref ((xE Γ).1 74)), (1, .int v1)] [] u (j73 v1 u)) (v1 : Int32) (u : Mm) : Gp Γ (QM Γ cvV) 73 [(0, .ref ((xE Γ).1 74)), (1, .int v1)] [] u (gX11_keepTurn_73_Ls j73 v1 u) := by
  unfold gX11_keepTurn_73_Ls
  refine g_iload_n C dX11_keepTurn_73 rfl 1 rfl ?_
  refine g_bipush (v := 14) C dX11_keepTurn_74 rfl (by decide) ?_
  refine g_icmp_ge 105 C dX11_keepTurn_76 rfl (by decide) (fun c1 => ?_) (fun c1 => ?_)
  · refine g_aload_n C dX11_keepTurn_105 rfl 0 rfl ?_
    refine g_dup C dX11_keepTurn_106 rfl rfl ?_
    refine g_getI C dX11_keepTurn_107 rfl rfl fi_11_40 rfl fl_X11_225 ?_
    refine g_iconst (v := 1) C dX11_keepTurn_110 rfl (by decide) ?_
    refine g_iadd C dX11_keepTurn_111 rfl ?_
    refine g_putI C dX11_keepTurn_112 rfl rfl fp_11_40 rfl fl_X11_225 ?_
    refine g_letm (fun u2 => ?_)
    exact g_vret C M dX11_keepTurn_115 rfl rfl
  · refine g_aload_n C dX11_keepTurn_79 rfl 0 rfl ?_
    refine g_getR (k2 := 93) C dX11_keepTurn_80 rfl rfl fi_11_38 ⟨by decide, by decide, rfl⟩ fl_X11_80 ?_
    refine g_bipush (v := 14) C dX11_keepTurn_83 rfl (by decide) ?_
    refine g_aload_n C dX11_keepTurn_85 rfl 0 rfl ?_
    refine g_getI C dX11_keepTurn_86 rfl rfl fi_11_40 rfl fl_X11_225 ?_
    refine g_imul C dX11_keepTurn_89 rfl ?_
    refine g_iload_n C dX11_keepTurn_90 rfl 1 rfl ?_
    refine g_iadd C dX11_keepTurn_91 rfl ?_
    refine g_aload_n C dX11_keepTurn_92 rfl 0 rfl ?_
    refine g_getR (k2 := 94) C dX11_keepTurn_93 rfl rfl fi_11_39 ⟨by decide, by decide, rfl⟩ fl_X11_83 ?_
    refine g_iload_n C dX11_keepTurn_96 rfl 1 rfl ?_
    refine g_gd (fun hi3 => ?_)
    refine g_iald C dX11_keepTurn_97 rfl rfl rfl hi3 ?_
    refine g_gd (fun hi5 => ?_)
    refine g_iast C dX11_keepTurn_98 rfl rfl rfl hi5 ?_
    refine g_letm (fun u4 => ?_)
    refine g_iincL (fun v1_6 => [(1, .int v1_6), (0, .ref ((xE Γ).1 74))]) C dX11_keepTurn_99 rfl L (by decide) (k := 1) rfl (iinc_1 _) (fun _ => rfl) (fun v1_6 => ?_)
    refine g_goto 73 C dX11_keepTurn_102 rfl (by decide) ?_
    refine g_sub (ls' := [(0, .ref ((xE Γ).1 74)), (1, .int v1_6)]) [1, 0] rfl ?_
    exact hj73 v1_6 u4
set_option maxRecDepth 20000 in
set_option maxHeartbeats 4000000 in
theorem pX11_keepTurn_73 {Γ : GX} (C : Cx Γ RX11 cX11_keepTurn 2) (M : Mx Γ none) (L : xn Γ = 2) : ∀ (n : Nat) (v1 : Int32) (u : Mm), Gp Γ (QM Γ cvV) 73 [(0, .ref ((xE Γ).1 74)), (1, .int v1)] [] u (gX11_keepTurn_73_L n v1 u) := by
  intro n
  induction n with
  | zero => intro _ _; exact g_none
  | succ n ih => intro v1 u; exact pX11_keepTurn_73s C M L ih v1 u

set_option maxRecDepth 20000 in
set_option maxHeartbeats 4000000 in
theorem pX11_keepTurn_49 {Γ : GX} (C : Cx Γ RX11 cX11_keepTurn 2) (M : Mx Γ none) (L : xn Γ = 2) (u : Mm) : Gp Γ (QM Γ cvV) 49 [(0, .ref ((xE Γ).1 74))] [] u (gX11_keepTurn_49 u) := by
  unfold gX11_keepTurn_49
  refine g_aload_n C dX11_keepTurn_49 rfl 0 rfl ?_
  refine g_aload_n C dX11_keepTurn_50 rfl 0 rfl ?_
  refine g_getR (k2 := 94) C dX11_keepTurn_51 rfl rfl fi_11_39 ⟨by decide, by decide, rfl⟩ fl_X11_83 ?_
  refine g_putX C dX11_keepTurn_54 rfl rfl fp_11_36 rfl fl_X11_231 (ne0_of rfl) ?_
  refine g_letm (fun u1 => ?_)
  refine g_aload_n C dX11_keepTurn_57 rfl 0 rfl ?_
  refine g_iconst (v := 1) C dX11_keepTurn_58 rfl (by decide) ?_
  refine g_putZ C dX11_keepTurn_59 rfl rfl fp_11_35 rfl fl_X11_228 (by decide) ?_
  refine g_letm (fun u2 => ?_)
  refine g_aload_n C dX11_keepTurn_62 rfl 0 rfl ?_
  refine g_iconst (v := 0) C dX11_keepTurn_63 rfl (by decide) ?_
  refine g_putI C dX11_keepTurn_64 rfl rfl fp_11_34 rfl fl_X11_234 ?_
  refine g_letm (fun u3 => ?_)
  refine g_aload_n C dX11_keepTurn_67 rfl 0 rfl ?_
  refine g_callV [] C dX11_keepTurn_68 rfl (tX11_carryFlight (xl Γ) (xE Γ) u3) cf_X11_carryFlight rfl rfl ml_X11_240 rfl (by decide) (Nat.le_of_ble_eq_true rfl) rfl (fun u4 => ?_)
  refine g_iconst (v := 0) C dX11_keepTurn_71 rfl (by decide) ?_
  refine g_istore_n (ls' := [(1, .int 0), (0, .ref ((xE Γ).1 74))]) C dX11_keepTurn_72 rfl L (by decide) rfl ?_
  refine g_sub (ls' := [(0, .ref ((xE Γ).1 74)), (1, .int 0)]) [1, 0] rfl ?_
  exact pX11_keepTurn_73 C M L FU 0 u4
set_option maxRecDepth 20000 in
set_option maxHeartbeats 4000000 in
theorem pX11_keepTurn_12s {Γ : GX} (C : Cx Γ RX11 cX11_keepTurn 2) (M : Mx Γ none) (L : xn Γ = 2) {j12 : Int32 → Mm → Option Mm} (hj12 : ∀ (v1 : Int32) (u : Mm), Gp Γ (QM Γ cvV) 12 [(0, .ref ((xE Γ).1 74)), (1, .int v1)] [] u (j12 v1 u)) (v1 : Int32) (u : Mm) : Gp Γ (QM Γ cvV) 12 [(0, .ref ((xE Γ).1 74)), (1, .int v1)] [] u (gX11_keepTurn_12_Ls j12 v1 u) := by
  unfold gX11_keepTurn_12_Ls
  refine g_iload_n C dX11_keepTurn_12 rfl 1 rfl ?_
  refine g_bipush (v := 112) C dX11_keepTurn_13 rfl (by decide) ?_
  refine g_icmp_ge 39 C dX11_keepTurn_15 rfl (by decide) (fun c1 => ?_) (fun c1 => ?_)
  · refine g_aload_n C dX11_keepTurn_39 rfl 0 rfl ?_
    refine g_dup C dX11_keepTurn_40 rfl rfl ?_
    refine g_getI C dX11_keepTurn_41 rfl rfl fi_11_40 rfl fl_X11_225 ?_
    refine g_iconst (v := 1) C dX11_keepTurn_44 rfl (by decide) ?_
    refine g_isub C dX11_keepTurn_45 rfl ?_
    refine g_putI C dX11_keepTurn_46 rfl rfl fp_11_40 rfl fl_X11_225 ?_
    refine g_letm (fun u2 => ?_)
    refine g_sub (ls' := [(0, .ref ((xE Γ).1 74))]) [0] rfl ?_
    exact pX11_keepTurn_49 C M L u2
  · refine g_aload_n C dX11_keepTurn_18 rfl 0 rfl ?_
    refine g_getR (k2 := 93) C dX11_keepTurn_19 rfl rfl fi_11_38 ⟨by decide, by decide, rfl⟩ fl_X11_80 ?_
    refine g_iload_n C dX11_keepTurn_22 rfl 1 rfl ?_
    refine g_bipush (v := 14) C dX11_keepTurn_23 rfl (by decide) ?_
    refine g_isub C dX11_keepTurn_25 rfl ?_
    refine g_aload_n C dX11_keepTurn_26 rfl 0 rfl ?_
    refine g_getR (k2 := 93) C dX11_keepTurn_27 rfl rfl fi_11_38 ⟨by decide, by decide, rfl⟩ fl_X11_80 ?_
    refine g_iload_n C dX11_keepTurn_30 rfl 1 rfl ?_
    refine g_gd (fun hi3 => ?_)
    refine g_iald C dX11_keepTurn_31 rfl rfl rfl hi3 ?_
    refine g_gd (fun hi5 => ?_)
    refine g_iast C dX11_keepTurn_32 rfl rfl rfl hi5 ?_
    refine g_letm (fun u4 => ?_)
    refine g_iincL (fun v1_6 => [(1, .int v1_6), (0, .ref ((xE Γ).1 74))]) C dX11_keepTurn_33 rfl L (by decide) (k := 1) rfl (iinc_1 _) (fun _ => rfl) (fun v1_6 => ?_)
    refine g_goto 12 C dX11_keepTurn_36 rfl (by decide) ?_
    refine g_sub (ls' := [(0, .ref ((xE Γ).1 74)), (1, .int v1_6)]) [1, 0] rfl ?_
    exact hj12 v1_6 u4
set_option maxRecDepth 20000 in
set_option maxHeartbeats 4000000 in
theorem pX11_keepTurn_12 {Γ : GX} (C : Cx Γ RX11 cX11_keepTurn 2) (M : Mx Γ none) (L : xn Γ = 2) : ∀ (n : Nat) (v1 : Int32) (u : Mm), Gp Γ (QM Γ cvV) 12 [(0, .ref ((xE Γ).1 74)), (1, .int v1)] [] u (gX11_keepTurn_12_L n v1 u) := by
  intro n
  induction n with
  | zero => intro _ _; exact g_none
  | succ n ih => intro v1 u; exact pX11_keepTurn_12s C M L ih v1 u

set_option maxRecDepth 20000 in
set_option maxHeartbeats 4000000 in
theorem pX11_keepTurn_0 {Γ : GX} (C : Cx Γ RX11 cX11_keepTurn 2) (M : Mx Γ none) (L : xn Γ = 2) (u : Mm) : Gp Γ (QM Γ cvV) 0 [(0, .ref ((xE Γ).1 74))] [] u (gX11_keepTurn_b u) := by
  unfold gX11_keepTurn_b
  refine g_aload_n C dX11_keepTurn_0 rfl 0 rfl ?_
  refine g_getI C dX11_keepTurn_1 rfl rfl fi_11_40 rfl fl_X11_225 ?_
  refine g_bipush (v := 8) C dX11_keepTurn_4 rfl (by decide) ?_
  refine g_icmp_ne 49 C dX11_keepTurn_6 rfl (by decide) (fun c1 => ?_) (fun c1 => ?_)
  · exact pX11_keepTurn_49 C M L u
  · refine g_bipush (v := 14) C dX11_keepTurn_9 rfl (by decide) ?_
    refine g_istore_n (ls' := [(1, .int 14), (0, .ref ((xE Γ).1 74))]) C dX11_keepTurn_11 rfl L (by decide) rfl ?_
    refine g_sub (ls' := [(0, .ref ((xE Γ).1 74)), (1, .int 14)]) [1, 0] rfl ?_
    exact pX11_keepTurn_12 C M L FU 14 u
set_option maxRecDepth 20000 in
set_option maxHeartbeats 4000000 in
theorem tX11_keepTurn (l : Launch) (E : EE) (u : Mm) : Ct l E yX11_keepTurn cX11_keepTurn 2 none 2 [.ref (E.1 74)] u cvV (gX11_keepTurn u) :=
  Ct_of (own := RX11) (by decide +kernel) rfl (Nat.le_of_ble_eq_true rfl) (fun p e R s m args below meth c C M => g_sub (ls' := [(0, .ref (E.1 74))]) [0] rfl (pX11_keepTurn_0 C M rfl u))
set_option maxRecDepth 20000 in
set_option maxHeartbeats 4000000 in
theorem pX11_go_55 {Γ : GX} (C : Cx Γ RX11 cX11_go 3) (M : Mx Γ (some .int)) (L : xn Γ = 3) (v1 : Int32) (s0 : Int32) (u : Mm) : Gp Γ (QM Γ cvI) 55 [(0, .ref ((xE Γ).1 74)), (1, .int v1)] [.int s0] u (gX11_go_55 v1 s0 u) := by
  unfold gX11_go_55
  refine g_istore_n (ls' := [(2, .int s0), (0, .ref ((xE Γ).1 74)), (1, .int v1)]) C dX11_go_55 rfl L (by decide) rfl ?_
  refine g_iload_n C dX11_go_56 rfl 0 rfl ?_
  refine g_if_ge 66 C dX11_go_57 rfl (by decide) (fun c1 => ?_) (fun c1 => ?_)
  · refine g_aload_n C dX11_go_66 rfl 1 rfl ?_
    refine g_callV [] C dX11_go_67 rfl (tX11_keepTurn (xl Γ) (xE Γ) u) cf_X11_keepTurn rfl rfl ml_X11_267 rfl (by decide) (Nat.le_of_ble_eq_true rfl) rfl (fun u2 => ?_)
    refine g_aload_n C dX11_go_70 rfl 1 rfl ?_
    refine g_iload_n C dX11_go_71 rfl 2 rfl ?_
    refine g_callV [.int v1] C dX11_go_72 rfl (tX11_stepOn (xl Γ) (xE Γ) v1 u2) cf_X11_stepOn rfl rfl ml_X11_142 rfl (by decide) (Nat.le_of_ble_eq_true rfl) rfl (fun u3 => ?_)
    refine g_aload_n C dX11_go_75 rfl 1 rfl ?_
    refine g_getI C dX11_go_76 rfl rfl fi_11_2 rfl fl_X11_127 ?_
    exact g_iret C M dX11_go_79 rfl rfl
  · refine g_aload_n C dX11_go_60 rfl 1 rfl ?_
    refine g_iload_n C dX11_go_61 rfl 0 rfl ?_
    refine g_callI [.int s0] C dX11_go_62 rfl (tX11_refuse (xl Γ) (xE Γ) s0 u) cf_X11_refuse rfl rfl ml_X11_153 rfl (by decide) (Nat.le_of_ble_eq_true rfl) rfl (fun r5 u4 => ?_)
    exact g_iret C M dX11_go_65 rfl rfl
set_option maxRecDepth 20000 in
set_option maxHeartbeats 4000000 in
theorem pX11_go_39 {Γ : GX} (C : Cx Γ RX11 cX11_go 3) (M : Mx Γ (some .int)) (L : xn Γ = 3) (v1 : Int32) (u : Mm) : Gp Γ (QM Γ cvI) 39 [(0, .ref ((xE Γ).1 74)), (1, .int v1)] [] u (gX11_go_39 v1 u) := by
  unfold gX11_go_39
  refine g_aload_n C dX11_go_39 rfl 0 rfl ?_
  refine g_getI C dX11_go_40 rfl rfl fi_11_9 rfl fl_X11_136 ?_
  refine g_sipush (v := 999) C dX11_go_43 rfl (by decide) ?_
  refine g_icmp_ne 54 C dX11_go_46 rfl (by decide) (fun c1 => ?_) (fun c1 => ?_)
  · refine g_iconst (v := 0) C dX11_go_54 rfl (by decide) ?_
    exact pX11_go_55 C M L v1 0 u
  · refine g_bipush (v := (-6)) C dX11_go_49 rfl (by decide) ?_
    refine g_goto 55 C dX11_go_51 rfl (by decide) ?_
    exact pX11_go_55 C M L v1 (-6) u
set_option maxRecDepth 20000 in
set_option maxHeartbeats 4000000 in
theorem pX11_go_0 {Γ : GX} (C : Cx Γ RX11 cX11_go 3) (M : Mx Γ (some .int)) (L : xn Γ = 3) (v1 : Int32) (u : Mm) : Gp Γ (QM Γ cvI) 0 [(0, .ref ((xE Γ).1 74)), (1, .int v1)] [] u (gX11_go_b v1 u) := by
  unfold gX11_go_b
  refine g_aload_n C dX11_go_0 rfl 0 rfl ?_
  refine g_iconst (v := 0) C dX11_go_1 rfl (by decide) ?_
  refine g_putI C dX11_go_2 rfl rfl fp_11_19 rfl fl_X11_104 ?_
  refine g_letm (fun u1 => ?_)
  refine g_iload_n C dX11_go_5 rfl 1 rfl ?_
  refine g_i2l C dX11_go_6 rfl ?_
  refine g_lconst (v := 0) C dX11_go_7 rfl (by decide) ?_
  refine g_ldc2_w (v := 2) C dX11_go_8 rfl (wm_26 16 rfl) ?_
  refine g_callsP [.long v1.toInt64, .long 0, .long 2] C dX11_go_11 rfl (tX11_in (xl Γ) (xE Γ) v1.toInt64 0 2 u1) cf_X11_in ml_X11_107 rfl (by decide) (Nat.le_of_ble_eq_true rfl) rfl (fun r2 => ?_)
  refine g_if_ne 22 C dX11_go_14 rfl (by decide) (fun c3 => ?_) (fun c3 => ?_)
  · refine g_iload_n C dX11_go_22 rfl 1 rfl ?_
    refine g_iconst (v := 1) C dX11_go_23 rfl (by decide) ?_
    refine g_icmp_ne 39 C dX11_go_24 rfl (by decide) (fun c4 => ?_) (fun c4 => ?_)
    · exact pX11_go_39 C M L v1 u1
    · refine g_aload_n C dX11_go_27 rfl 0 rfl ?_
      refine g_getI C dX11_go_28 rfl rfl fi_11_6 rfl fl_X11_23 ?_
      refine g_if_ne 39 C dX11_go_31 rfl (by decide) (fun c5 => ?_) (fun c5 => ?_)
      · exact pX11_go_39 C M L v1 u1
      · refine g_bipush (v := (-3)) C dX11_go_34 rfl (by decide) ?_
        refine g_goto 55 C dX11_go_36 rfl (by decide) ?_
        exact pX11_go_55 C M L v1 (-3) u1
  · refine g_bipush (v := (-2)) C dX11_go_17 rfl (by decide) ?_
    refine g_goto 55 C dX11_go_19 rfl (by decide) ?_
    exact pX11_go_55 C M L v1 (-2) u1
set_option maxRecDepth 20000 in
set_option maxHeartbeats 4000000 in
theorem tX11_go (l : Launch) (E : EE) (v1 : Int32) (u : Mm) : Ct l E yX11_go cX11_go 3 (some .int) 3 [.ref (E.1 74), .int v1] u cvI (gX11_go v1 u) :=
  Ct_of (own := RX11) (by decide +kernel) rfl (Nat.le_of_ble_eq_true rfl) (fun p e R s m args below meth c C M => g_sub (ls' := [(0, .ref (E.1 74)), (1, .int v1)]) [0, 1] rfl (pX11_go_0 C M rfl v1 u))
set_option maxRecDepth 20000 in
set_option maxHeartbeats 4000000 in
theorem pX11_back_31s {Γ : GX} (C : Cx Γ RX11 cX11_back 2) (M : Mx Γ (some .int)) (L : xn Γ = 2) {j31 : Int32 → Mm → Option (Int32 × Mm)} (hj31 : ∀ (v1 : Int32) (u : Mm), Gp Γ (QM Γ cvI) 31 [(0, .ref ((xE Γ).1 74)), (1, .int v1)] [] u (j31 v1 u)) (v1 : Int32) (u : Mm) : Gp Γ (QM Γ cvI) 31 [(0, .ref ((xE Γ).1 74)), (1, .int v1)] [] u (gX11_back_31_Ls j31 v1 u) := by
  unfold gX11_back_31_Ls
  refine g_iload_n C dX11_back_31 rfl 1 rfl ?_
  refine g_bipush (v := 14) C dX11_back_32 rfl (by decide) ?_
  refine g_icmp_ge 63 C dX11_back_34 rfl (by decide) (fun c1 => ?_) (fun c1 => ?_)
  · refine g_aload_n C dX11_back_63 rfl 0 rfl ?_
    refine g_aload_n C dX11_back_64 rfl 0 rfl ?_
    refine g_getR (k2 := 94) C dX11_back_65 rfl rfl fi_11_39 ⟨by decide, by decide, rfl⟩ fl_X11_83 ?_
    refine g_putX C dX11_back_68 rfl rfl fp_11_36 rfl fl_X11_231 (ne0_of rfl) ?_
    refine g_letm (fun u2 => ?_)
    refine g_aload_n C dX11_back_71 rfl 0 rfl ?_
    refine g_iconst (v := 0) C dX11_back_72 rfl (by decide) ?_
    refine g_putZ C dX11_back_73 rfl rfl fp_11_35 rfl fl_X11_228 (by decide) ?_
    refine g_letm (fun u3 => ?_)
    refine g_aload_n C dX11_back_76 rfl 0 rfl ?_
    refine g_iconst (v := 0) C dX11_back_77 rfl (by decide) ?_
    refine g_putI C dX11_back_78 rfl rfl fp_11_34 rfl fl_X11_234 ?_
    refine g_letm (fun u4 => ?_)
    refine g_aload_n C dX11_back_81 rfl 0 rfl ?_
    refine g_callV [] C dX11_back_82 rfl (tX11_carryFlight (xl Γ) (xE Γ) u4) cf_X11_carryFlight rfl rfl ml_X11_240 rfl (by decide) (Nat.le_of_ble_eq_true rfl) rfl (fun u5 => ?_)
    refine g_aload_n C dX11_back_85 rfl 0 rfl ?_
    refine g_getI C dX11_back_86 rfl rfl fi_11_9 rfl fl_X11_136 ?_
    exact g_iret C M dX11_back_89 rfl rfl
  · refine g_aload_n C dX11_back_37 rfl 0 rfl ?_
    refine g_getR (k2 := 94) C dX11_back_38 rfl rfl fi_11_39 ⟨by decide, by decide, rfl⟩ fl_X11_83 ?_
    refine g_iload_n C dX11_back_41 rfl 1 rfl ?_
    refine g_aload_n C dX11_back_42 rfl 0 rfl ?_
    refine g_getR (k2 := 93) C dX11_back_43 rfl rfl fi_11_38 ⟨by decide, by decide, rfl⟩ fl_X11_80 ?_
    refine g_bipush (v := 14) C dX11_back_46 rfl (by decide) ?_
    refine g_aload_n C dX11_back_48 rfl 0 rfl ?_
    refine g_getI C dX11_back_49 rfl rfl fi_11_40 rfl fl_X11_225 ?_
    refine g_imul C dX11_back_52 rfl ?_
    refine g_iload_n C dX11_back_53 rfl 1 rfl ?_
    refine g_iadd C dX11_back_54 rfl ?_
    refine g_gd (fun hi6 => ?_)
    refine g_iald C dX11_back_55 rfl rfl rfl hi6 ?_
    refine g_gd (fun hi8 => ?_)
    refine g_iast C dX11_back_56 rfl rfl rfl hi8 ?_
    refine g_letm (fun u7 => ?_)
    refine g_iincL (fun v1_9 => [(1, .int v1_9), (0, .ref ((xE Γ).1 74))]) C dX11_back_57 rfl L (by decide) (k := 1) rfl (iinc_1 _) (fun _ => rfl) (fun v1_9 => ?_)
    refine g_goto 31 C dX11_back_60 rfl (by decide) ?_
    refine g_sub (ls' := [(0, .ref ((xE Γ).1 74)), (1, .int v1_9)]) [1, 0] rfl ?_
    exact hj31 v1_9 u7
set_option maxRecDepth 20000 in
set_option maxHeartbeats 4000000 in
theorem pX11_back_31 {Γ : GX} (C : Cx Γ RX11 cX11_back 2) (M : Mx Γ (some .int)) (L : xn Γ = 2) : ∀ (n : Nat) (v1 : Int32) (u : Mm), Gp Γ (QM Γ cvI) 31 [(0, .ref ((xE Γ).1 74)), (1, .int v1)] [] u (gX11_back_31_L n v1 u) := by
  intro n
  induction n with
  | zero => intro _ _; exact g_none
  | succ n ih => intro v1 u; exact pX11_back_31s C M L ih v1 u

set_option maxRecDepth 20000 in
set_option maxHeartbeats 4000000 in
theorem pX11_back_0 {Γ : GX} (C : Cx Γ RX11 cX11_back 2) (M : Mx Γ (some .int)) (L : xn Γ = 2) (u : Mm) : Gp Γ (QM Γ cvI) 0 [(0, .ref ((xE Γ).1 74))] [] u (gX11_back_b u) := by
  unfold gX11_back_b
  refine g_aload_n C dX11_back_0 rfl 0 rfl ?_
  refine g_iconst (v := 0) C dX11_back_1 rfl (by decide) ?_
  refine g_putI C dX11_back_2 rfl rfl fp_11_19 rfl fl_X11_104 ?_
  refine g_letm (fun u1 => ?_)
  refine g_aload_n C dX11_back_5 rfl 0 rfl ?_
  refine g_getI C dX11_back_6 rfl rfl fi_11_40 rfl fl_X11_225 ?_
  refine g_if_ne 19 C dX11_back_9 rfl (by decide) (fun c2 => ?_) (fun c2 => ?_)
  · refine g_aload_n C dX11_back_19 rfl 0 rfl ?_
    refine g_dup C dX11_back_20 rfl rfl ?_
    refine g_getI C dX11_back_21 rfl rfl fi_11_40 rfl fl_X11_225 ?_
    refine g_iconst (v := 1) C dX11_back_24 rfl (by decide) ?_
    refine g_isub C dX11_back_25 rfl ?_
    refine g_putI C dX11_back_26 rfl rfl fp_11_40 rfl fl_X11_225 ?_
    refine g_letm (fun u3 => ?_)
    refine g_iconst (v := 0) C dX11_back_29 rfl (by decide) ?_
    refine g_istore_n (ls' := [(1, .int 0), (0, .ref ((xE Γ).1 74))]) C dX11_back_30 rfl L (by decide) rfl ?_
    refine g_sub (ls' := [(0, .ref ((xE Γ).1 74)), (1, .int 0)]) [1, 0] rfl ?_
    exact pX11_back_31 C M L FU 0 u3
  · refine g_aload_n C dX11_back_12 rfl 0 rfl ?_
    refine g_bipush (v := (-3)) C dX11_back_13 rfl (by decide) ?_
    refine g_callI [.int (-3)] C dX11_back_15 rfl (tX11_refuse (xl Γ) (xE Γ) (-3) u1) cf_X11_refuse rfl rfl ml_X11_153 rfl (by decide) (Nat.le_of_ble_eq_true rfl) rfl (fun r5 u4 => ?_)
    exact g_iret C M dX11_back_18 rfl rfl
set_option maxRecDepth 20000 in
set_option maxHeartbeats 4000000 in
theorem tX11_back (l : Launch) (E : EE) (u : Mm) : Ct l E yX11_back cX11_back 2 (some .int) 2 [.ref (E.1 74)] u cvI (gX11_back u) :=
  Ct_of (own := RX11) (by decide +kernel) rfl (Nat.le_of_ble_eq_true rfl) (fun p e R s m args below meth c C M => g_sub (ls' := [(0, .ref (E.1 74))]) [0] rfl (pX11_back_0 C M rfl u))
set_option maxRecDepth 20000 in
set_option maxHeartbeats 4000000 in
theorem pX11_planOn_52 {Γ : GX} (C : Cx Γ RX11 cX11_planOn 4) (M : Mx Γ none) (L : xn Γ = 4) (v1 : Int32) (v2 : Int32) (v3 : Int32) {j11 : Int32 → Mm → Option Mm} (hj11 : ∀ (v3 : Int32) (u : Mm), Gp Γ (QM Γ cvV) 11 [(0, .ref ((xE Γ).1 74)), (1, .int v1), (2, .int v2), (3, .int v3)] [] u (j11 v3 u)) (u : Mm) : Gp Γ (QM Γ cvV) 52 [(0, .ref ((xE Γ).1 74)), (1, .int v1), (2, .int v2), (3, .int v3)] [] u (gX11_planOn_52 j11 v1 v2 v3 u) := by
  unfold gX11_planOn_52
  refine g_iincL (fun v3_1 => [(3, .int v3_1), (0, .ref ((xE Γ).1 74)), (1, .int v1), (2, .int v2)]) C dX11_planOn_52 rfl L (by decide) (k := 3) rfl (iinc_1 _) (fun _ => rfl) (fun v3_1 => ?_)
  refine g_aload_n C dX11_planOn_55 rfl 1 rfl ?_
  refine g_aload_n C dX11_planOn_56 rfl 1 rfl ?_
  refine g_getI C dX11_planOn_57 rfl rfl fi_11_21 rfl fl_X11_130 ?_
  refine g_putI C dX11_planOn_60 rfl rfl fp_11_42 rfl fl_X11_273 ?_
  refine g_letm (fun u2 => ?_)
  refine g_goto 11 C dX11_planOn_63 rfl (by decide) ?_
  refine g_sub (ls' := [(0, .ref ((xE Γ).1 74)), (1, .int v1), (2, .int v2), (3, .int v3_1)]) [1, 2, 3, 0] rfl ?_
  exact hj11 v3_1 u2
set_option maxRecDepth 20000 in
set_option maxHeartbeats 4000000 in
theorem pX11_planOn_49 {Γ : GX} (C : Cx Γ RX11 cX11_planOn 4) (M : Mx Γ none) (L : xn Γ = 4) (v1 : Int32) (v2 : Int32) (v3 : Int32) (s0 : Int32) {j11 : Int32 → Mm → Option Mm} (hj11 : ∀ (v3 : Int32) (u : Mm), Gp Γ (QM Γ cvV) 11 [(0, .ref ((xE Γ).1 74)), (1, .int v1), (2, .int v2), (3, .int v3)] [] u (j11 v3 u)) (u : Mm) : Gp Γ (QM Γ cvV) 49 [(0, .ref ((xE Γ).1 74)), (1, .int v1), (2, .int v2), (3, .int v3)] [.int s0, .ref ((xE Γ).1 74)] u (gX11_planOn_49 j11 v1 v2 v3 s0 u) := by
  unfold gX11_planOn_49
  refine g_callV [.int s0] C dX11_planOn_49 rfl (tX11_stepOn (xl Γ) (xE Γ) s0 u) cf_X11_stepOn rfl rfl ml_X11_142 rfl (by decide) (Nat.le_of_ble_eq_true rfl) rfl (fun u1 => ?_)
  exact pX11_planOn_52 C M L v1 v2 v3 hj11 u1
set_option maxRecDepth 20000 in
set_option maxHeartbeats 4000000 in
theorem pX11_planOn_79 {Γ : GX} (C : Cx Γ RX11 cX11_planOn 4) (M : Mx Γ none) (L : xn Γ = 4) (v3 : Int32) (s0 : Int32) (u : Mm) : Gp Γ (QM Γ cvV) 79 [(0, .ref ((xE Γ).1 74)), (3, .int v3)] [.int s0, .ref ((xE Γ).1 74)] u (gX11_planOn_79 v3 s0 u) := by
  unfold gX11_planOn_79
  refine g_gd (fun hb2 => ?_)
  refine g_putZ C dX11_planOn_79 rfl rfl fp_11_41 rfl fl_X11_279 hb2 ?_
  refine g_letm (fun u1 => ?_)
  refine g_aload_n C dX11_planOn_82 rfl 0 rfl ?_
  refine g_iload_n C dX11_planOn_83 rfl 1 rfl ?_
  refine g_putI C dX11_planOn_84 rfl rfl fp_11_43 rfl fl_X11_282 ?_
  refine g_letm (fun u3 => ?_)
  exact g_vret C M dX11_planOn_87 rfl rfl
set_option maxRecDepth 20000 in
set_option maxHeartbeats 4000000 in
theorem pX11_planOn_66 {Γ : GX} (C : Cx Γ RX11 cX11_planOn 4) (M : Mx Γ none) (L : xn Γ = 4) (v3 : Int32) (u : Mm) : Gp Γ (QM Γ cvV) 66 [(0, .ref ((xE Γ).1 74)), (3, .int v3)] [] u (gX11_planOn_66 v3 u) := by
  unfold gX11_planOn_66
  refine g_aload_n C dX11_planOn_66 rfl 0 rfl ?_
  refine g_aload_n C dX11_planOn_67 rfl 0 rfl ?_
  refine g_getI C dX11_planOn_68 rfl rfl fi_11_2 rfl fl_X11_127 ?_
  refine g_if_ne 78 C dX11_planOn_71 rfl (by decide) (fun c1 => ?_) (fun c1 => ?_)
  · refine g_iconst (v := 0) C dX11_planOn_78 rfl (by decide) ?_
    exact pX11_planOn_79 C M L v3 0 u
  · refine g_iconst (v := 1) C dX11_planOn_74 rfl (by decide) ?_
    refine g_goto 79 C dX11_planOn_75 rfl (by decide) ?_
    exact pX11_planOn_79 C M L v3 1 u
set_option maxRecDepth 20000 in
set_option maxHeartbeats 4000000 in
theorem pX11_planOn_11s {Γ : GX} (C : Cx Γ RX11 cX11_planOn 4) (M : Mx Γ none) (L : xn Γ = 4) (v1 : Int32) (v2 : Int32) {j11 : Int32 → Mm → Option Mm} (hj11 : ∀ (v3 : Int32) (u : Mm), Gp Γ (QM Γ cvV) 11 [(0, .ref ((xE Γ).1 74)), (1, .int v1), (2, .int v2), (3, .int v3)] [] u (j11 v3 u)) (v3 : Int32) (u : Mm) : Gp Γ (QM Γ cvV) 11 [(0, .ref ((xE Γ).1 74)), (1, .int v1), (2, .int v2), (3, .int v3)] [] u (gX11_planOn_11_Ls v1 v2 j11 v3 u) := by
  unfold gX11_planOn_11_Ls
  refine g_aload_n C dX11_planOn_11 rfl 0 rfl ?_
  refine g_getI C dX11_planOn_12 rfl rfl fi_11_2 rfl fl_X11_127 ?_
  refine g_if_le 66 C dX11_planOn_15 rfl (by decide) (fun c1 => ?_) (fun c1 => ?_)
  · refine g_sub (ls' := [(0, .ref ((xE Γ).1 74)), (3, .int v3)]) [0, 3] rfl ?_
    exact pX11_planOn_66 C M L v3 u
  · refine g_iload_n C dX11_planOn_18 rfl 3 rfl ?_
    refine g_bipush (v := 60) C dX11_planOn_19 rfl (by decide) ?_
    refine g_icmp_ge 66 C dX11_planOn_21 rfl (by decide) (fun c2 => ?_) (fun c2 => ?_)
    · refine g_sub (ls' := [(0, .ref ((xE Γ).1 74)), (3, .int v3)]) [0, 3] rfl ?_
      exact pX11_planOn_66 C M L v3 u
    · refine g_iload_n C dX11_planOn_24 rfl 3 rfl ?_
      refine g_iload_n C dX11_planOn_25 rfl 1 rfl ?_
      refine g_icmp_ge 36 C dX11_planOn_26 rfl (by decide) (fun c3 => ?_) (fun c3 => ?_)
      · refine g_aload_n C dX11_planOn_36 rfl 0 rfl ?_
        refine g_iload_n C dX11_planOn_37 rfl 3 rfl ?_
        refine g_iload_n C dX11_planOn_38 rfl 1 rfl ?_
        refine g_iload_n C dX11_planOn_39 rfl 2 rfl ?_
        refine g_iadd C dX11_planOn_40 rfl ?_
        refine g_icmp_ge 48 C dX11_planOn_41 rfl (by decide) (fun c4 => ?_) (fun c4 => ?_)
        · refine g_iconst (v := 0) C dX11_planOn_48 rfl (by decide) ?_
          exact pX11_planOn_49 C M L v1 v2 v3 0 hj11 u
        · refine g_iconst (v := 2) C dX11_planOn_44 rfl (by decide) ?_
          refine g_goto 49 C dX11_planOn_45 rfl (by decide) ?_
          exact pX11_planOn_49 C M L v1 v2 v3 2 hj11 u
      · refine g_aload_n C dX11_planOn_29 rfl 0 rfl ?_
        refine g_callV [] C dX11_planOn_30 rfl (tX11_holdOn (xl Γ) (xE Γ) u) cf_X11_holdOn rfl rfl ml_X11_276 rfl (by decide) (Nat.le_of_ble_eq_true rfl) rfl (fun u5 => ?_)
        refine g_goto 52 C dX11_planOn_33 rfl (by decide) ?_
        exact pX11_planOn_52 C M L v1 v2 v3 hj11 u5
set_option maxRecDepth 20000 in
set_option maxHeartbeats 4000000 in
theorem pX11_planOn_11 {Γ : GX} (C : Cx Γ RX11 cX11_planOn 4) (M : Mx Γ none) (L : xn Γ = 4) (v1 : Int32) (v2 : Int32) : ∀ (n : Nat) (v3 : Int32) (u : Mm), Gp Γ (QM Γ cvV) 11 [(0, .ref ((xE Γ).1 74)), (1, .int v1), (2, .int v2), (3, .int v3)] [] u (gX11_planOn_11_L v1 v2 n v3 u) := by
  intro n
  induction n with
  | zero => intro _ _; exact g_none
  | succ n ih => intro v3 u; exact pX11_planOn_11s C M L v1 v2 ih v3 u

set_option maxRecDepth 20000 in
set_option maxHeartbeats 4000000 in
theorem pX11_planOn_0 {Γ : GX} (C : Cx Γ RX11 cX11_planOn 4) (M : Mx Γ none) (L : xn Γ = 4) (v1 : Int32) (v2 : Int32) (u : Mm) : Gp Γ (QM Γ cvV) 0 [(0, .ref ((xE Γ).1 74)), (1, .int v1), (2, .int v2)] [] u (gX11_planOn_b v1 v2 u) := by
  unfold gX11_planOn_b
  refine g_aload_n C dX11_planOn_0 rfl 0 rfl ?_
  refine g_callV [] C dX11_planOn_1 rfl (tX11_again (xl Γ) (xE Γ) u) cf_X11_again rfl rfl ml_X11_270 rfl (by decide) (Nat.le_of_ble_eq_true rfl) rfl (fun u1 => ?_)
  refine g_iconst (v := 0) C dX11_planOn_4 rfl (by decide) ?_
  refine g_istore_n (ls' := [(3, .int 0), (0, .ref ((xE Γ).1 74)), (1, .int v1), (2, .int v2)]) C dX11_planOn_5 rfl L (by decide) rfl ?_
  refine g_aload_n C dX11_planOn_6 rfl 1 rfl ?_
  refine g_iconst (v := 0) C dX11_planOn_7 rfl (by decide) ?_
  refine g_putI C dX11_planOn_8 rfl rfl fp_11_42 rfl fl_X11_273 ?_
  refine g_letm (fun u2 => ?_)
  refine g_sub (ls' := [(0, .ref ((xE Γ).1 74)), (1, .int v1), (2, .int v2), (3, .int 0)]) [1, 2, 3, 0] rfl ?_
  exact pX11_planOn_11 C M L v1 v2 FU 0 u2
set_option maxRecDepth 20000 in
set_option maxHeartbeats 4000000 in
theorem tX11_planOn (l : Launch) (E : EE) (v1 : Int32) (v2 : Int32) (u : Mm) : Ct l E yX11_planOn cX11_planOn 4 none 4 [.ref (E.1 74), .int v1, .int v2] u cvV (gX11_planOn v1 v2 u) :=
  Ct_of (own := RX11) (by decide +kernel) rfl (Nat.le_of_ble_eq_true rfl) (fun p e R s m args below meth c C M => g_sub (ls' := [(0, .ref (E.1 74)), (1, .int v1), (2, .int v2)]) [0, 1, 2] rfl (pX11_planOn_0 C M rfl v1 v2 u))
set_option maxRecDepth 20000 in
set_option maxHeartbeats 4000000 in
theorem pX11_planTold_0 {Γ : GX} (C : Cx Γ RX11 cX11_planTold 3) (M : Mx Γ (some .int)) (L : xn Γ = 2) (u : Mm) (v1 : Int32) : Gp Γ (QM Γ (cvP u)) 0 [(0, .ref ((xE Γ).1 74)), (1, .int v1)] [] u (gX11_planTold_b v1 u) := by
  unfold gX11_planTold_b
  refine g_aload_n C dX11_planTold_0 rfl 0 rfl ?_
  refine g_getI C dX11_planTold_1 rfl rfl fi_11_41 rfl fl_X11_279 ?_
  refine g_if_ne 10 C dX11_planTold_4 rfl (by decide) (fun c1 => ?_) (fun c1 => ?_)
  · refine g_iload_n C dX11_planTold_10 rfl 1 rfl ?_
    refine g_if (fun c2 => ?_) (fun c2 => ?_)
    · refine g_tabI 33 44 C dX11_planTold_11 rfl (by rw [c2]; exact ⟨by decide, by decide, rfl⟩) (by decide) ?_
      refine g_aload_n C dX11_planTold_44 rfl 0 rfl ?_
      refine g_getI C dX11_planTold_45 rfl rfl fi_11_3 rfl fl_X11_16 ?_
      exact g_iret C M dX11_planTold_48 rfl rfl
    refine g_if (fun c3 => ?_) (fun c3 => ?_)
    · refine g_tabI 38 49 C dX11_planTold_11 rfl (by rw [c3]; exact ⟨by decide, by decide, rfl⟩) (by decide) ?_
      refine g_aload_n C dX11_planTold_49 rfl 0 rfl ?_
      refine g_getI C dX11_planTold_50 rfl rfl fi_11_4 rfl fl_X11_133 ?_
      exact g_iret C M dX11_planTold_53 rfl rfl
    refine g_if (fun c4 => ?_) (fun c4 => ?_)
    · refine g_tabI 43 54 C dX11_planTold_11 rfl (by rw [c4]; exact ⟨by decide, by decide, rfl⟩) (by decide) ?_
      refine g_aload_n C dX11_planTold_54 rfl 0 rfl ?_
      refine g_getI C dX11_planTold_55 rfl rfl fi_11_42 rfl fl_X11_273 ?_
      exact g_iret C M dX11_planTold_58 rfl rfl
    refine g_if (fun c5 => ?_) (fun c5 => ?_)
    · refine g_tabI 48 59 C dX11_planTold_11 rfl (by rw [c5]; exact ⟨by decide, by decide, rfl⟩) (by decide) ?_
      refine g_aload_n C dX11_planTold_59 rfl 0 rfl ?_
      refine g_getI C dX11_planTold_60 rfl rfl fi_11_43 rfl fl_X11_282 ?_
      exact g_iret C M dX11_planTold_63 rfl rfl
    refine g_if (fun c6 => ?_) (fun c6 => ?_)
    · refine g_tabI 53 64 C dX11_planTold_11 rfl (by rw [c6]; exact ⟨by decide, by decide, rfl⟩) (by decide) ?_
      refine g_aload_n C dX11_planTold_64 rfl 0 rfl ?_
      refine g_callP [] C dX11_planTold_65 rfl (tX11_fieldAt (xl Γ) (xE Γ) u) cf_X11_fieldAt rfl rfl ml_X11_285 rfl (by decide) (Nat.le_of_ble_eq_true rfl) rfl (fun r7 => ?_)
      exact g_iret C M dX11_planTold_68 rfl rfl
    have ec2 := lv_neT c2 (a := 0) (by decide)
    have ec3 := lv_neT c3 (a := 1) (by decide)
    have ec4 := lv_neT c4 (a := 2) (by decide)
    have ec5 := lv_neT c5 (a := 3) (by decide)
    have ec6 := lv_neT c6 (a := 4) (by decide)
    refine g_tabO 69 C dX11_planTold_11 rfl (by omega) (by decide) ?_
    refine g_aload_n C dX11_planTold_69 rfl 0 rfl ?_
    refine g_aload_n C dX11_planTold_70 rfl 0 rfl ?_
    refine g_callP [] C dX11_planTold_71 rfl (tX11_fieldAt (xl Γ) (xE Γ) u) cf_X11_fieldAt rfl rfl ml_X11_285 rfl (by decide) (Nat.le_of_ble_eq_true rfl) rfl (fun r8 => ?_)
    refine g_aload_n C dX11_planTold_74 rfl 0 rfl ?_
    refine g_getI C dX11_planTold_75 rfl rfl fi_11_42 rfl fl_X11_273 ?_
    refine g_callP [.int r8, .int (u 74 42)] C dX11_planTold_78 rfl (tX11_costOf (xl Γ) (xE Γ) r8 (u 74 42) u) cf_X11_costOf rfl rfl ml_X11_259 rfl (by decide) (Nat.le_of_ble_eq_true rfl) rfl (fun r9 => ?_)
    exact g_iret C M dX11_planTold_81 rfl rfl
  · refine g_bipush (v := (-9)) C dX11_planTold_7 rfl (by decide) ?_
    exact g_iret C M dX11_planTold_9 rfl rfl
set_option maxRecDepth 20000 in
set_option maxHeartbeats 4000000 in
theorem tX11_planTold (l : Launch) (E : EE) (v1 : Int32) (u : Mm) : Ct l E yX11_planTold cX11_planTold 2 (some .int) 3 [.ref (E.1 74), .int v1] u (cvP u) (gX11_planTold v1 u) :=
  Ct_of (own := RX11) (by decide +kernel) rfl (Nat.le_of_ble_eq_true rfl) (fun p e R s m args below meth c C M => g_sub (ls' := [(0, .ref (E.1 74)), (1, .int v1)]) [0, 1] rfl (pX11_planTold_0 C M rfl u v1))
set_option maxRecDepth 20000 in
set_option maxHeartbeats 4000000 in
theorem pX11_plan_40 {Γ : GX} (C : Cx Γ RX11 cX11_plan 5) (M : Mx Γ (some .int)) (L : xn Γ = 6) (v1 : Int32) (v2 : Int32) (v3 : Int32) (s0 : Int32) (u : Mm) : Gp Γ (QM Γ cvI) 40 [(0, .ref ((xE Γ).1 74)), (1, .int v1), (2, .int v2), (3, .int v3)] [.int s0] u (gX11_plan_40 v1 v2 v3 s0 u) := by
  unfold gX11_plan_40
  refine g_istore (ls' := [(4, .int s0), (0, .ref ((xE Γ).1 74)), (1, .int v1), (2, .int v2), (3, .int v3)]) C dX11_plan_40 rfl L (by decide) rfl ?_
  refine g_iload C dX11_plan_42 rfl 0 rfl ?_
  refine g_if_ge 54 C dX11_plan_44 rfl (by decide) (fun c1 => ?_) (fun c1 => ?_)
  · refine g_aload_n C dX11_plan_54 rfl 1 rfl ?_
    refine g_callV [] C dX11_plan_55 rfl (tX11_open (xl Γ) (xE Γ) u) cf_X11_open rfl rfl ml_X11_291 rfl (by decide) (Nat.le_of_ble_eq_true rfl) rfl (fun u2 => ?_)
    refine g_aload_n C dX11_plan_58 rfl 1 rfl ?_
    refine g_iload_n C dX11_plan_59 rfl 2 rfl ?_
    refine g_iload_n C dX11_plan_60 rfl 3 rfl ?_
    refine g_callV [.int v1, .int v2] C dX11_plan_61 rfl (tX11_planOn (xl Γ) (xE Γ) v1 v2 u2) cf_X11_planOn rfl rfl ml_X11_294 rfl (by decide) (Nat.le_of_ble_eq_true rfl) rfl (fun u3 => ?_)
    refine g_aload_n C dX11_plan_64 rfl 1 rfl ?_
    refine g_iload_n C dX11_plan_65 rfl 4 rfl ?_
    refine g_callP [.int v3] C dX11_plan_66 rfl (tX11_planTold (xl Γ) (xE Γ) v3 u3) cf_X11_planTold rfl rfl ml_X11_298 rfl (by decide) (Nat.le_of_ble_eq_true rfl) rfl (fun r4 => ?_)
    refine g_istore (ls' := [(5, .int r4), (4, .int s0), (0, .ref ((xE Γ).1 74)), (1, .int v1), (2, .int v2), (3, .int v3)]) C dX11_plan_69 rfl L (by decide) rfl ?_
    refine g_aload_n C dX11_plan_71 rfl 2 rfl ?_
    refine g_callV [] C dX11_plan_72 rfl (tX11_again (xl Γ) (xE Γ) u3) cf_X11_again rfl rfl ml_X11_270 rfl (by decide) (Nat.le_of_ble_eq_true rfl) rfl (fun u5 => ?_)
    refine g_iload C dX11_plan_75 rfl 0 rfl ?_
    exact g_iret C M dX11_plan_77 rfl rfl
  · refine g_aload_n C dX11_plan_47 rfl 1 rfl ?_
    refine g_iload C dX11_plan_48 rfl 0 rfl ?_
    refine g_callI [.int s0] C dX11_plan_50 rfl (tX11_refuse (xl Γ) (xE Γ) s0 u) cf_X11_refuse rfl rfl ml_X11_153 rfl (by decide) (Nat.le_of_ble_eq_true rfl) rfl (fun r7 u6 => ?_)
    exact g_iret C M dX11_plan_53 rfl rfl
set_option maxRecDepth 20000 in
set_option maxHeartbeats 4000000 in
theorem pX11_plan_13 {Γ : GX} (C : Cx Γ RX11 cX11_plan 5) (M : Mx Γ (some .int)) (L : xn Γ = 6) (v1 : Int32) (v2 : Int32) (v3 : Int32) (u : Mm) : Gp Γ (QM Γ cvI) 13 [(0, .ref ((xE Γ).1 74)), (1, .int v1), (2, .int v2), (3, .int v3)] [] u (gX11_plan_13 v1 v2 v3 u) := by
  unfold gX11_plan_13
  refine g_bipush (v := (-4)) C dX11_plan_13 rfl (by decide) ?_
  refine g_goto 40 C dX11_plan_15 rfl (by decide) ?_
  exact pX11_plan_40 C M L v1 v2 v3 (-4) u
set_option maxRecDepth 20000 in
set_option maxHeartbeats 4000000 in
theorem pX11_plan_29 {Γ : GX} (C : Cx Γ RX11 cX11_plan 5) (M : Mx Γ (some .int)) (L : xn Γ = 6) (v1 : Int32) (v2 : Int32) (v3 : Int32) (u : Mm) : Gp Γ (QM Γ cvI) 29 [(0, .ref ((xE Γ).1 74)), (1, .int v1), (2, .int v2), (3, .int v3)] [] u (gX11_plan_29 v1 v2 v3 u) := by
  unfold gX11_plan_29
  refine g_bipush (v := (-6)) C dX11_plan_29 rfl (by decide) ?_
  refine g_goto 40 C dX11_plan_31 rfl (by decide) ?_
  exact pX11_plan_40 C M L v1 v2 v3 (-6) u
set_option maxRecDepth 20000 in
set_option maxHeartbeats 4000000 in
theorem pX11_plan_0 {Γ : GX} (C : Cx Γ RX11 cX11_plan 5) (M : Mx Γ (some .int)) (L : xn Γ = 6) (v1 : Int32) (v2 : Int32) (v3 : Int32) (u : Mm) : Gp Γ (QM Γ cvI) 0 [(0, .ref ((xE Γ).1 74)), (1, .int v1), (2, .int v2), (3, .int v3)] [] u (gX11_plan_b v1 v2 v3 u) := by
  unfold gX11_plan_b
  refine g_aload_n C dX11_plan_0 rfl 0 rfl ?_
  refine g_iconst (v := 0) C dX11_plan_1 rfl (by decide) ?_
  refine g_putI C dX11_plan_2 rfl rfl fp_11_19 rfl fl_X11_104 ?_
  refine g_letm (fun u1 => ?_)
  refine g_iload_n C dX11_plan_5 rfl 1 rfl ?_
  refine g_if_lt 13 C dX11_plan_6 rfl (by decide) (fun c2 => ?_) (fun c2 => ?_)
  · exact pX11_plan_13 C M L v1 v2 v3 u1
  · refine g_iload_n C dX11_plan_9 rfl 2 rfl ?_
    refine g_if_ge 18 C dX11_plan_10 rfl (by decide) (fun c3 => ?_) (fun c3 => ?_)
    · refine g_iload_n C dX11_plan_18 rfl 1 rfl ?_
      refine g_bipush (v := 30) C dX11_plan_19 rfl (by decide) ?_
      refine g_icmp_gt 29 C dX11_plan_21 rfl (by decide) (fun c4 => ?_) (fun c4 => ?_)
      · exact pX11_plan_29 C M L v1 v2 v3 u1
      · refine g_iload_n C dX11_plan_24 rfl 2 rfl ?_
        refine g_iconst (v := 5) C dX11_plan_25 rfl (by decide) ?_
        refine g_icmp_le 34 C dX11_plan_26 rfl (by decide) (fun c5 => ?_) (fun c5 => ?_)
        · refine g_iconst (v := 0) C dX11_plan_34 rfl (by decide) ?_
          refine g_iload_n C dX11_plan_35 rfl 3 rfl ?_
          refine g_iconst (v := 5) C dX11_plan_36 rfl (by decide) ?_
          refine g_callsP [.int 0, .int v3, .int 5] C dX11_plan_37 rfl (tX11_wrongBit (xl Γ) (xE Γ) 0 v3 5 u1) cf_X11_wrongBit ml_X11_288 rfl (by decide) (Nat.le_of_ble_eq_true rfl) rfl (fun r6 => ?_)
          exact pX11_plan_40 C M L v1 v2 v3 r6 u1
        · exact pX11_plan_29 C M L v1 v2 v3 u1
    · exact pX11_plan_13 C M L v1 v2 v3 u1
set_option maxRecDepth 20000 in
set_option maxHeartbeats 4000000 in
theorem tX11_plan (l : Launch) (E : EE) (v1 : Int32) (v2 : Int32) (v3 : Int32) (u : Mm) : Ct l E yX11_plan cX11_plan 6 (some .int) 5 [.ref (E.1 74), .int v1, .int v2, .int v3] u cvI (gX11_plan v1 v2 v3 u) :=
  Ct_of (own := RX11) (by decide +kernel) rfl (Nat.le_of_ble_eq_true rfl) (fun p e R s m args below meth c C M => g_sub (ls' := [(0, .ref (E.1 74)), (1, .int v1), (2, .int v2), (3, .int v3)]) [0, 1, 2, 3] rfl (pX11_plan_0 C M rfl v1 v2 v3 u))
set_option maxRecDepth 20000 in
set_option maxHeartbeats 4000000 in
theorem pX11_seekPlans_144 {Γ : GX} (C : Cx Γ RX11 cX11_seekPlans 5) (M : Mx Γ none) (L : xn Γ = 5) (v1 : Int32) (v3 : Int32) (s0 : Int32) {j21 : Int32 → Int32 → Mm → Option Mm} (hj21 : ∀ (v2 : Int32) (v3 : Int32) (u : Mm), Gp Γ (QM Γ cvV) 21 [(0, .ref ((xE Γ).1 74)), (1, .int v1), (2, .int v2), (3, .int v3)] [] u (j21 v2 v3 u)) (u : Mm) : Gp Γ (QM Γ cvV) 144 [(0, .ref ((xE Γ).1 74)), (1, .int v1), (3, .int v3)] [.int s0] u (gX11_seekPlans_144 j21 v1 v3 s0 u) := by
  unfold gX11_seekPlans_144
  refine g_istore_n (ls' := [(2, .int s0), (0, .ref ((xE Γ).1 74)), (1, .int v1), (3, .int v3)]) C dX11_seekPlans_144 rfl L (by decide) rfl ?_
  refine g_iincL (fun v3_1 => [(3, .int v3_1), (2, .int s0), (0, .ref ((xE Γ).1 74)), (1, .int v1)]) C dX11_seekPlans_145 rfl L (by decide) (k := 3) rfl (iinc_1 _) (fun _ => rfl) (fun v3_1 => ?_)
  refine g_goto 21 C dX11_seekPlans_148 rfl (by decide) ?_
  refine g_sub (ls' := [(0, .ref ((xE Γ).1 74)), (1, .int v1), (2, .int s0), (3, .int v3_1)]) [2, 3, 1, 0] rfl ?_
  exact hj21 s0 v3_1 u
set_option maxRecDepth 20000 in
set_option maxHeartbeats 4000000 in
theorem pX11_seekPlans_128 {Γ : GX} (C : Cx Γ RX11 cX11_seekPlans 5) (M : Mx Γ none) (L : xn Γ = 5) (v1 : Int32) (v2 : Int32) (v3 : Int32) (v4 : Int32) (s0 : Int32) {j21 : Int32 → Int32 → Mm → Option Mm} (hj21 : ∀ (v2 : Int32) (v3 : Int32) (u : Mm), Gp Γ (QM Γ cvV) 21 [(0, .ref ((xE Γ).1 74)), (1, .int v1), (2, .int v2), (3, .int v3)] [] u (j21 v2 v3 u)) (u : Mm) : Gp Γ (QM Γ cvV) 128 [(0, .ref ((xE Γ).1 74)), (1, .int v1), (2, .int v2), (3, .int v3), (4, .int v4)] [.int s0, .ref ((xE Γ).1 74)] u (gX11_seekPlans_128 j21 v1 v2 v3 v4 s0 u) := by
  unfold gX11_seekPlans_128
  refine g_putI C dX11_seekPlans_128 rfl rfl fp_11_46 rfl fl_X11_307 ?_
  refine g_letm (fun u1 => ?_)
  refine g_iload C dX11_seekPlans_131 rfl 4 rfl ?_
  refine g_if_eq 143 C dX11_seekPlans_133 rfl (by decide) (fun c2 => ?_) (fun c2 => ?_)
  · refine g_iload_n C dX11_seekPlans_143 rfl 2 rfl ?_
    refine g_sub (ls' := [(0, .ref ((xE Γ).1 74)), (1, .int v1), (3, .int v3)]) [0, 1, 3] rfl ?_
    exact pX11_seekPlans_144 C M L v1 v3 v2 hj21 u1
  · refine g_aload_n C dX11_seekPlans_136 rfl 0 rfl ?_
    refine g_getI C dX11_seekPlans_137 rfl rfl fi_11_42 rfl fl_X11_273 ?_
    refine g_goto 144 C dX11_seekPlans_140 rfl (by decide) ?_
    refine g_sub (ls' := [(0, .ref ((xE Γ).1 74)), (1, .int v1), (3, .int v3)]) [0, 1, 3] rfl ?_
    exact pX11_seekPlans_144 C M L v1 v3 (u1 74 42) hj21 u1
set_option maxRecDepth 20000 in
set_option maxHeartbeats 4000000 in
theorem pX11_seekPlans_112 {Γ : GX} (C : Cx Γ RX11 cX11_seekPlans 5) (M : Mx Γ none) (L : xn Γ = 5) (v1 : Int32) (v2 : Int32) (v3 : Int32) (s0 : Int32) {j21 : Int32 → Int32 → Mm → Option Mm} (hj21 : ∀ (v2 : Int32) (v3 : Int32) (u : Mm), Gp Γ (QM Γ cvV) 21 [(0, .ref ((xE Γ).1 74)), (1, .int v1), (2, .int v2), (3, .int v3)] [] u (j21 v2 v3 u)) (u : Mm) : Gp Γ (QM Γ cvV) 112 [(0, .ref ((xE Γ).1 74)), (1, .int v1), (2, .int v2), (3, .int v3)] [.int s0] u (gX11_seekPlans_112 j21 v1 v2 v3 s0 u) := by
  unfold gX11_seekPlans_112
  refine g_istore (ls' := [(4, .int s0), (0, .ref ((xE Γ).1 74)), (1, .int v1), (2, .int v2), (3, .int v3)]) C dX11_seekPlans_112 rfl L (by decide) rfl ?_
  refine g_aload_n C dX11_seekPlans_114 rfl 1 rfl ?_
  refine g_iload C dX11_seekPlans_115 rfl 0 rfl ?_
  refine g_if_eq 124 C dX11_seekPlans_117 rfl (by decide) (fun c1 => ?_) (fun c1 => ?_)
  · refine g_aload_n C dX11_seekPlans_124 rfl 1 rfl ?_
    refine g_getI C dX11_seekPlans_125 rfl rfl fi_11_46 rfl fl_X11_307 ?_
    refine g_sub (ls' := [(0, .ref ((xE Γ).1 74)), (1, .int v1), (2, .int v2), (3, .int v3), (4, .int s0)]) [1, 2, 3, 4, 0] rfl ?_
    exact pX11_seekPlans_128 C M L v1 v2 v3 s0 (u 74 46) hj21 u
  · refine g_iload_n C dX11_seekPlans_120 rfl 4 rfl ?_
    refine g_goto 128 C dX11_seekPlans_121 rfl (by decide) ?_
    refine g_sub (ls' := [(0, .ref ((xE Γ).1 74)), (1, .int v1), (2, .int v2), (3, .int v3), (4, .int s0)]) [1, 2, 3, 4, 0] rfl ?_
    exact pX11_seekPlans_128 C M L v1 v2 v3 s0 v3 hj21 u
set_option maxRecDepth 20000 in
set_option maxHeartbeats 4000000 in
theorem pX11_seekPlans_107 {Γ : GX} (C : Cx Γ RX11 cX11_seekPlans 5) (M : Mx Γ none) (L : xn Γ = 5) (v1 : Int32) (v2 : Int32) (v3 : Int32) {j21 : Int32 → Int32 → Mm → Option Mm} (hj21 : ∀ (v2 : Int32) (v3 : Int32) (u : Mm), Gp Γ (QM Γ cvV) 21 [(0, .ref ((xE Γ).1 74)), (1, .int v1), (2, .int v2), (3, .int v3)] [] u (j21 v2 v3 u)) (u : Mm) : Gp Γ (QM Γ cvV) 107 [(0, .ref ((xE Γ).1 74)), (1, .int v1), (2, .int v2), (3, .int v3)] [] u (gX11_seekPlans_107 j21 v1 v2 v3 u) := by
  unfold gX11_seekPlans_107
  refine g_iconst (v := 1) C dX11_seekPlans_107 rfl (by decide) ?_
  refine g_goto 112 C dX11_seekPlans_108 rfl (by decide) ?_
  exact pX11_seekPlans_112 C M L v1 v2 v3 1 hj21 u
set_option maxRecDepth 20000 in
set_option maxHeartbeats 4000000 in
theorem pX11_seekPlans_89 {Γ : GX} (C : Cx Γ RX11 cX11_seekPlans 5) (M : Mx Γ none) (L : xn Γ = 5) (v1 : Int32) (v2 : Int32) (v3 : Int32) (s0 : Int32) {j21 : Int32 → Int32 → Mm → Option Mm} (hj21 : ∀ (v2 : Int32) (v3 : Int32) (u : Mm), Gp Γ (QM Γ cvV) 21 [(0, .ref ((xE Γ).1 74)), (1, .int v1), (2, .int v2), (3, .int v3)] [] u (j21 v2 v3 u)) (u : Mm) : Gp Γ (QM Γ cvV) 89 [(0, .ref ((xE Γ).1 74)), (1, .int v1), (2, .int v2), (3, .int v3)] [.int s0, .ref ((xE Γ).1 74)] u (gX11_seekPlans_89 j21 v1 v2 v3 s0 u) := by
  unfold gX11_seekPlans_89
  refine g_putI C dX11_seekPlans_89 rfl rfl fp_11_45 rfl fl_X11_304 ?_
  refine g_letm (fun u1 => ?_)
  refine g_aload_n C dX11_seekPlans_92 rfl 0 rfl ?_
  refine g_getI C dX11_seekPlans_93 rfl rfl fi_11_46 rfl fl_X11_307 ?_
  refine g_if_lt 107 C dX11_seekPlans_96 rfl (by decide) (fun c2 => ?_) (fun c2 => ?_)
  · exact pX11_seekPlans_107 C M L v1 v2 v3 hj21 u1
  · refine g_aload_n C dX11_seekPlans_99 rfl 0 rfl ?_
    refine g_getI C dX11_seekPlans_100 rfl rfl fi_11_42 rfl fl_X11_273 ?_
    refine g_iload_n C dX11_seekPlans_103 rfl 2 rfl ?_
    refine g_icmp_ge 111 C dX11_seekPlans_104 rfl (by decide) (fun c3 => ?_) (fun c3 => ?_)
    · refine g_iconst (v := 0) C dX11_seekPlans_111 rfl (by decide) ?_
      exact pX11_seekPlans_112 C M L v1 v2 v3 0 hj21 u1
    · exact pX11_seekPlans_107 C M L v1 v2 v3 hj21 u1
set_option maxRecDepth 20000 in
set_option maxHeartbeats 4000000 in
theorem pX11_seekPlans_21s {Γ : GX} (C : Cx Γ RX11 cX11_seekPlans 5) (M : Mx Γ none) (L : xn Γ = 5) (v1 : Int32) {j21 : Int32 → Int32 → Mm → Option Mm} (hj21 : ∀ (v2 : Int32) (v3 : Int32) (u : Mm), Gp Γ (QM Γ cvV) 21 [(0, .ref ((xE Γ).1 74)), (1, .int v1), (2, .int v2), (3, .int v3)] [] u (j21 v2 v3 u)) (v2 : Int32) (v3 : Int32) (u : Mm) : Gp Γ (QM Γ cvV) 21 [(0, .ref ((xE Γ).1 74)), (1, .int v1), (2, .int v2), (3, .int v3)] [] u (gX11_seekPlans_21_Ls v1 j21 v2 v3 u) := by
  unfold gX11_seekPlans_21_Ls
  refine g_iload_n C dX11_seekPlans_21 rfl 3 rfl ?_
  refine g_sipush (v := 305) C dX11_seekPlans_22 rfl (by decide) ?_
  refine g_icmp_gt 151 C dX11_seekPlans_25 rfl (by decide) (fun c1 => ?_) (fun c1 => ?_)
  · refine g_aload_n C dX11_seekPlans_151 rfl 0 rfl ?_
    refine g_callV [] C dX11_seekPlans_152 rfl (tX11_again (xl Γ) (xE Γ) u) cf_X11_again rfl rfl ml_X11_270 rfl (by decide) (Nat.le_of_ble_eq_true rfl) rfl (fun u2 => ?_)
    exact g_vret C M dX11_seekPlans_155 rfl rfl
  · refine g_iload_n C dX11_seekPlans_28 rfl 3 rfl ?_
    refine g_bipush (v := 10) C dX11_seekPlans_29 rfl (by decide) ?_
    refine g_irem C dX11_seekPlans_31 rfl (by decide) ?_
    refine g_iconst (v := 5) C dX11_seekPlans_32 rfl (by decide) ?_
    refine g_icmp_gt 145 C dX11_seekPlans_33 rfl (by decide) (fun c3 => ?_) (fun c3 => ?_)
    · refine g_iincL (fun v3_4 => [(3, .int v3_4), (0, .ref ((xE Γ).1 74)), (1, .int v1), (2, .int v2)]) C dX11_seekPlans_145 rfl L (by decide) (k := 3) rfl (iinc_1 _) (fun _ => rfl) (fun v3_4 => ?_)
      refine g_goto 21 C dX11_seekPlans_148 rfl (by decide) ?_
      refine g_sub (ls' := [(0, .ref ((xE Γ).1 74)), (1, .int v1), (2, .int v2), (3, .int v3_4)]) [1, 2, 3, 0] rfl ?_
      exact hj21 v2 v3_4 u
    · refine g_aload_n C dX11_seekPlans_36 rfl 0 rfl ?_
      refine g_iload_n C dX11_seekPlans_37 rfl 3 rfl ?_
      refine g_bipush (v := 10) C dX11_seekPlans_38 rfl (by decide) ?_
      refine g_idiv C dX11_seekPlans_40 rfl (by decide) ?_
      refine g_iload_n C dX11_seekPlans_41 rfl 3 rfl ?_
      refine g_bipush (v := 10) C dX11_seekPlans_42 rfl (by decide) ?_
      refine g_irem C dX11_seekPlans_44 rfl (by decide) ?_
      refine g_callV [.int (v3 / 10), .int (irm v3 10)] C dX11_seekPlans_45 rfl (tX11_planOn (xl Γ) (xE Γ) (v3 / 10) (irm v3 10) u) cf_X11_planOn rfl rfl ml_X11_294 rfl (by decide) (Nat.le_of_ble_eq_true rfl) rfl (fun u5 => ?_)
      refine g_aload_n C dX11_seekPlans_48 rfl 0 rfl ?_
      refine g_getI C dX11_seekPlans_49 rfl rfl fi_11_41 rfl fl_X11_279 ?_
      refine g_if_eq 145 C dX11_seekPlans_52 rfl (by decide) (fun c6 => ?_) (fun c6 => ?_)
      · refine g_iincL (fun v3_7 => [(3, .int v3_7), (0, .ref ((xE Γ).1 74)), (1, .int v1), (2, .int v2)]) C dX11_seekPlans_145 rfl L (by decide) (k := 3) rfl (iinc_1 _) (fun _ => rfl) (fun v3_7 => ?_)
        refine g_goto 21 C dX11_seekPlans_148 rfl (by decide) ?_
        refine g_sub (ls' := [(0, .ref ((xE Γ).1 74)), (1, .int v1), (2, .int v2), (3, .int v3_7)]) [1, 2, 3, 0] rfl ?_
        exact hj21 v2 v3_7 u5
      · refine g_aload_n C dX11_seekPlans_55 rfl 0 rfl ?_
        refine g_callP [] C dX11_seekPlans_56 rfl (tX11_fieldAt (xl Γ) (xE Γ) u5) cf_X11_fieldAt rfl rfl ml_X11_285 rfl (by decide) (Nat.le_of_ble_eq_true rfl) rfl (fun r8 => ?_)
        refine g_iload_n C dX11_seekPlans_59 rfl 1 rfl ?_
        refine g_icmp_ne 145 C dX11_seekPlans_60 rfl (by decide) (fun c9 => ?_) (fun c9 => ?_)
        · refine g_iincL (fun v3_10 => [(3, .int v3_10), (0, .ref ((xE Γ).1 74)), (1, .int v1), (2, .int v2)]) C dX11_seekPlans_145 rfl L (by decide) (k := 3) rfl (iinc_1 _) (fun _ => rfl) (fun v3_10 => ?_)
          refine g_goto 21 C dX11_seekPlans_148 rfl (by decide) ?_
          refine g_sub (ls' := [(0, .ref ((xE Γ).1 74)), (1, .int v1), (2, .int v2), (3, .int v3_10)]) [1, 2, 3, 0] rfl ?_
          exact hj21 v2 v3_10 u5
        · refine g_aload_n C dX11_seekPlans_63 rfl 0 rfl ?_
          refine g_dup C dX11_seekPlans_64 rfl rfl ?_
          refine g_getI C dX11_seekPlans_65 rfl rfl fi_11_44 rfl fl_X11_301 ?_
          refine g_iconst (v := 1) C dX11_seekPlans_68 rfl (by decide) ?_
          refine g_iadd C dX11_seekPlans_69 rfl ?_
          refine g_putI C dX11_seekPlans_70 rfl rfl fp_11_44 rfl fl_X11_301 ?_
          refine g_letm (fun u11 => ?_)
          refine g_aload_n C dX11_seekPlans_73 rfl 0 rfl ?_
          refine g_aload_n C dX11_seekPlans_74 rfl 0 rfl ?_
          refine g_getI C dX11_seekPlans_75 rfl rfl fi_11_45 rfl fl_X11_304 ?_
          refine g_if_ge 85 C dX11_seekPlans_78 rfl (by decide) (fun c12 => ?_) (fun c12 => ?_)
          · refine g_aload_n C dX11_seekPlans_85 rfl 0 rfl ?_
            refine g_getI C dX11_seekPlans_86 rfl rfl fi_11_45 rfl fl_X11_304 ?_
            exact pX11_seekPlans_89 C M L v1 v2 v3 (u11 74 45) hj21 u11
          · refine g_iload_n C dX11_seekPlans_81 rfl 3 rfl ?_
            refine g_goto 89 C dX11_seekPlans_82 rfl (by decide) ?_
            exact pX11_seekPlans_89 C M L v1 v2 v3 v3 hj21 u11
set_option maxRecDepth 20000 in
set_option maxHeartbeats 4000000 in
theorem pX11_seekPlans_21 {Γ : GX} (C : Cx Γ RX11 cX11_seekPlans 5) (M : Mx Γ none) (L : xn Γ = 5) (v1 : Int32) : ∀ (n : Nat) (v2 : Int32) (v3 : Int32) (u : Mm), Gp Γ (QM Γ cvV) 21 [(0, .ref ((xE Γ).1 74)), (1, .int v1), (2, .int v2), (3, .int v3)] [] u (gX11_seekPlans_21_L v1 n v2 v3 u) := by
  intro n
  induction n with
  | zero => intro _ _ _; exact g_none
  | succ n ih => intro v2 v3 u; exact pX11_seekPlans_21s C M L v1 ih v2 v3 u

set_option maxRecDepth 20000 in
set_option maxHeartbeats 4000000 in
theorem pX11_seekPlans_0 {Γ : GX} (C : Cx Γ RX11 cX11_seekPlans 5) (M : Mx Γ none) (L : xn Γ = 5) (v1 : Int32) (u : Mm) : Gp Γ (QM Γ cvV) 0 [(0, .ref ((xE Γ).1 74)), (1, .int v1)] [] u (gX11_seekPlans_b v1 u) := by
  unfold gX11_seekPlans_b
  refine g_aload_n C dX11_seekPlans_0 rfl 0 rfl ?_
  refine g_iconst (v := 0) C dX11_seekPlans_1 rfl (by decide) ?_
  refine g_putI C dX11_seekPlans_2 rfl rfl fp_11_44 rfl fl_X11_301 ?_
  refine g_letm (fun u1 => ?_)
  refine g_aload_n C dX11_seekPlans_5 rfl 0 rfl ?_
  refine g_bipush (v := (-9)) C dX11_seekPlans_6 rfl (by decide) ?_
  refine g_putI C dX11_seekPlans_8 rfl rfl fp_11_45 rfl fl_X11_304 ?_
  refine g_letm (fun u2 => ?_)
  refine g_aload_n C dX11_seekPlans_11 rfl 0 rfl ?_
  refine g_bipush (v := (-9)) C dX11_seekPlans_12 rfl (by decide) ?_
  refine g_putI C dX11_seekPlans_14 rfl rfl fp_11_46 rfl fl_X11_307 ?_
  refine g_letm (fun u3 => ?_)
  refine g_iconst (v := 0) C dX11_seekPlans_17 rfl (by decide) ?_
  refine g_istore_n (ls' := [(2, .int 0), (0, .ref ((xE Γ).1 74)), (1, .int v1)]) C dX11_seekPlans_18 rfl L (by decide) rfl ?_
  refine g_iconst (v := 0) C dX11_seekPlans_19 rfl (by decide) ?_
  refine g_istore_n (ls' := [(3, .int 0), (2, .int 0), (0, .ref ((xE Γ).1 74)), (1, .int v1)]) C dX11_seekPlans_20 rfl L (by decide) rfl ?_
  refine g_sub (ls' := [(0, .ref ((xE Γ).1 74)), (1, .int v1), (2, .int 0), (3, .int 0)]) [2, 3, 1, 0] rfl ?_
  exact pX11_seekPlans_21 C M L v1 FU 0 0 u3
set_option maxRecDepth 20000 in
set_option maxHeartbeats 4000000 in
theorem tX11_seekPlans (l : Launch) (E : EE) (v1 : Int32) (u : Mm) : Ct l E yX11_seekPlans cX11_seekPlans 5 none 5 [.ref (E.1 74), .int v1] u cvV (gX11_seekPlans v1 u) :=
  Ct_of (own := RX11) (by decide +kernel) rfl (Nat.le_of_ble_eq_true rfl) (fun p e R s m args below meth c C M => g_sub (ls' := [(0, .ref (E.1 74)), (1, .int v1)]) [0, 1] rfl (pX11_seekPlans_0 C M rfl v1 u))
set_option maxRecDepth 20000 in
set_option maxHeartbeats 4000000 in
theorem pX11_had_40 {Γ : GX} (C : Cx Γ RX11 cX11_had 6) (M : Mx Γ (some .int)) (L : xn Γ = 3) (s0 : Int32) (u : Mm) : Gp Γ (QM Γ cvI) 40 [] [.int s0, .ref ((xE Γ).1 74)] u (gX11_had_40 s0 u) := by
  unfold gX11_had_40
  refine g_callI [.int s0] C dX11_had_40 rfl (tX11_refuse (xl Γ) (xE Γ) s0 u) cf_X11_refuse rfl rfl ml_X11_153 rfl (by decide) (Nat.le_of_ble_eq_true rfl) rfl (fun r2 u1 => ?_)
  exact g_iret C M dX11_had_43 rfl rfl
set_option maxRecDepth 20000 in
set_option maxHeartbeats 4000000 in
theorem pX11_had_25 {Γ : GX} (C : Cx Γ RX11 cX11_had 6) (M : Mx Γ (some .int)) (L : xn Γ = 3) (v1 : Int32) (u : Mm) : Gp Γ (QM Γ cvI) 25 [(0, .ref ((xE Γ).1 74)), (1, .int v1)] [] u (gX11_had_25 v1 u) := by
  unfold gX11_had_25
  refine g_aload_n C dX11_had_25 rfl 0 rfl ?_
  refine g_aload_n C dX11_had_26 rfl 0 rfl ?_
  refine g_iload_n C dX11_had_27 rfl 1 rfl ?_
  refine g_callP [.int v1] C dX11_had_28 rfl (tX11_isField (xl Γ) (xE Γ) v1 u) cf_X11_isField rfl rfl ml_X11_250 rfl (by decide) (Nat.le_of_ble_eq_true rfl) rfl (fun r1 => ?_)
  refine g_if_eq 39 C dX11_had_31 rfl (by decide) (fun c2 => ?_) (fun c2 => ?_)
  · refine g_iconst (v := (-1)) C dX11_had_39 rfl (by decide) ?_
    refine g_sub (ls' := []) [] rfl ?_
    exact pX11_had_40 C M L (-1) u
  · refine g_bipush (v := (-2)) C dX11_had_34 rfl (by decide) ?_
    refine g_goto 40 C dX11_had_36 rfl (by decide) ?_
    refine g_sub (ls' := []) [] rfl ?_
    exact pX11_had_40 C M L (-2) u
set_option maxRecDepth 20000 in
set_option maxHeartbeats 4000000 in
theorem pX11_had_0 {Γ : GX} (C : Cx Γ RX11 cX11_had 6) (M : Mx Γ (some .int)) (L : xn Γ = 3) (v1 : Int32) (v2 : Int32) (u : Mm) : Gp Γ (QM Γ cvI) 0 [(0, .ref ((xE Γ).1 74)), (1, .int v1), (2, .int v2)] [] u (gX11_had_b v1 v2 u) := by
  unfold gX11_had_b
  refine g_aload_n C dX11_had_0 rfl 0 rfl ?_
  refine g_iconst (v := 0) C dX11_had_1 rfl (by decide) ?_
  refine g_putI C dX11_had_2 rfl rfl fp_11_19 rfl fl_X11_104 ?_
  refine g_letm (fun u1 => ?_)
  refine g_aload_n C dX11_had_5 rfl 0 rfl ?_
  refine g_iload_n C dX11_had_6 rfl 1 rfl ?_
  refine g_callP [.int v1] C dX11_had_7 rfl (tX11_isField (xl Γ) (xE Γ) v1 u1) cf_X11_isField rfl rfl ml_X11_250 rfl (by decide) (Nat.le_of_ble_eq_true rfl) rfl (fun r2 => ?_)
  refine g_if_eq 25 C dX11_had_10 rfl (by decide) (fun c3 => ?_) (fun c3 => ?_)
  · refine g_sub (ls' := [(0, .ref ((xE Γ).1 74)), (1, .int v1)]) [0, 1] rfl ?_
    exact pX11_had_25 C M L v1 u1
  · refine g_iload_n C dX11_had_13 rfl 2 rfl ?_
    refine g_i2l C dX11_had_14 rfl ?_
    refine g_lconst (v := 0) C dX11_had_15 rfl (by decide) ?_
    refine g_ldc2_w (v := 2) C dX11_had_16 rfl (wm_26 16 rfl) ?_
    refine g_callsP [.long v2.toInt64, .long 0, .long 2] C dX11_had_19 rfl (tX11_in (xl Γ) (xE Γ) v2.toInt64 0 2 u1) cf_X11_in ml_X11_107 rfl (by decide) (Nat.le_of_ble_eq_true rfl) rfl (fun r4 => ?_)
    refine g_if_ne 44 C dX11_had_22 rfl (by decide) (fun c5 => ?_) (fun c5 => ?_)
    · refine g_aload_n C dX11_had_44 rfl 0 rfl ?_
      refine g_callV [] C dX11_had_45 rfl (tX11_open (xl Γ) (xE Γ) u1) cf_X11_open rfl rfl ml_X11_291 rfl (by decide) (Nat.le_of_ble_eq_true rfl) rfl (fun u6 => ?_)
      refine g_aload_n C dX11_had_48 rfl 0 rfl ?_
      refine g_iload_n C dX11_had_49 rfl 1 rfl ?_
      refine g_callV [.int v1] C dX11_had_50 rfl (tX11_seekPlans (xl Γ) (xE Γ) v1 u6) cf_X11_seekPlans rfl rfl ml_X11_310 rfl (by decide) (Nat.le_of_ble_eq_true rfl) rfl (fun u7 => ?_)
      refine g_iload_n C dX11_had_53 rfl 2 rfl ?_
      refine g_if_ne 64 C dX11_had_54 rfl (by decide) (fun c8 => ?_) (fun c8 => ?_)
      · refine g_iload_n C dX11_had_64 rfl 2 rfl ?_
        refine g_iconst (v := 1) C dX11_had_65 rfl (by decide) ?_
        refine g_icmp_ne 76 C dX11_had_66 rfl (by decide) (fun c9 => ?_) (fun c9 => ?_)
        · refine g_aload_n C dX11_had_76 rfl 0 rfl ?_
          refine g_getI C dX11_had_77 rfl rfl fi_11_46 rfl fl_X11_307 ?_
          exact g_iret C M dX11_had_80 rfl rfl
        · refine g_aload_n C dX11_had_69 rfl 0 rfl ?_
          refine g_getI C dX11_had_70 rfl rfl fi_11_45 rfl fl_X11_304 ?_
          refine g_goto 80 C dX11_had_73 rfl (by decide) ?_
          exact g_iret C M dX11_had_80 rfl rfl
      · refine g_aload_n C dX11_had_57 rfl 0 rfl ?_
        refine g_getI C dX11_had_58 rfl rfl fi_11_44 rfl fl_X11_301 ?_
        refine g_goto 80 C dX11_had_61 rfl (by decide) ?_
        exact g_iret C M dX11_had_80 rfl rfl
    · refine g_sub (ls' := [(0, .ref ((xE Γ).1 74)), (1, .int v1)]) [0, 1] rfl ?_
      exact pX11_had_25 C M L v1 u1
set_option maxRecDepth 20000 in
set_option maxHeartbeats 4000000 in
theorem tX11_had (l : Launch) (E : EE) (v1 : Int32) (v2 : Int32) (u : Mm) : Ct l E yX11_had cX11_had 3 (some .int) 6 [.ref (E.1 74), .int v1, .int v2] u cvI (gX11_had v1 v2 u) :=
  Ct_of (own := RX11) (by decide +kernel) rfl (Nat.le_of_ble_eq_true rfl) (fun p e R s m args below meth c C M => g_sub (ls' := [(0, .ref (E.1 74)), (1, .int v1), (2, .int v2)]) [0, 1, 2] rfl (pX11_had_0 C M rfl v1 v2 u))
