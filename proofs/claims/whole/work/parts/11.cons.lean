theorem ff_0_0 : FF 0 0 RX0 TX0 2 (.array .int) RX0 := ⟨fi_0_0, ⟨tyX0, tyX0_ok⟩, nmX0, rfl, rfl, tyX0_ok 0 (by decide)⟩
theorem ff_0_1 : FF 0 1 RX0 TX0 2 (.array .int) RX0 := ⟨fi_0_1, ⟨tyX0, tyX0_ok⟩, nmX0, rfl, rfl, tyX0_ok 1 (by decide)⟩
theorem ff_1_1 : FF 1 1 RX1 TX1 6 (.array .int) RX1 := ⟨fi_1_1, ⟨tyX1, tyX1_ok⟩, nmX1, rfl, rfl, tyX1_ok 1 (by decide)⟩
theorem ff_1_2 : FF 1 2 RX1 TX1 6 (.array .int) RX1 := ⟨fi_1_2, ⟨tyX1, tyX1_ok⟩, nmX1, rfl, rfl, tyX1_ok 2 (by decide)⟩
theorem ff_1_3 : FF 1 3 RX1 TX1 6 (.array .int) RX1 := ⟨fi_1_3, ⟨tyX1, tyX1_ok⟩, nmX1, rfl, rfl, tyX1_ok 3 (by decide)⟩
theorem ff_1_4 : FF 1 4 RX1 TX1 6 (.array .int) RX1 := ⟨fi_1_4, ⟨tyX1, tyX1_ok⟩, nmX1, rfl, rfl, tyX1_ok 4 (by decide)⟩
theorem ff_1_5 : FF 1 5 RX1 TX1 6 (.array .int) RX1 := ⟨fi_1_5, ⟨tyX1, tyX1_ok⟩, nmX1, rfl, rfl, tyX1_ok 5 (by decide)⟩
theorem ff_6_1 : FF 6 1 RX6 TX6 2 (.array .int) RX6 := ⟨fi_6_1, ⟨tyX6, tyX6_ok⟩, nmX6, rfl, rfl, tyX6_ok 1 (by decide)⟩
theorem ff_7_1 : FF 7 1 RX7 TX7 2 (.array .int) RX7 := ⟨fi_7_1, ⟨tyX7, tyX7_ok⟩, nmX7, rfl, rfl, tyX7_ok 1 (by decide)⟩
theorem ff_9_0 : FF 9 0 RX9 TX9 4 (.object "DownAmongFences$Air") RX9 := ⟨fi_9_0, ⟨tyX9, tyX9_ok⟩, nmX9, rfl, rfl, tyX9_ok 0 (by decide)⟩
theorem ff_9_1 : FF 9 1 RX9 TX9 4 (.object "DownAmongFences$Fields") RX9 := ⟨fi_9_1, ⟨tyX9, tyX9_ok⟩, nmX9, rfl, rfl, tyX9_ok 1 (by decide)⟩
theorem ff_9_2 : FF 9 2 RX9 TX9 4 (.object "DownAmongFences$Roads") RX9 := ⟨fi_9_2, ⟨tyX9, tyX9_ok⟩, nmX9, rfl, rfl, tyX9_ok 2 (by decide)⟩
theorem ff_9_3 : FF 9 3 RX9 TX9 4 (.object "DownAmongFences$Flight") RX9 := ⟨fi_9_3, ⟨tyX9, tyX9_ok⟩, nmX9, rfl, rfl, tyX9_ok 3 (by decide)⟩
theorem ff_4_2 : FF 4 2 RX4 TX4 3 (.array (.object "DownAmongFences$Flight")) RX4 := ⟨fi_4_2, ⟨tyX4, tyX4_ok⟩, nmX4, rfl, rfl, tyX4_ok 2 (by decide)⟩
theorem ff_5_0 : FF 5 0 RX5 TX5 1 (.object "DownAmongFences$Row") RX5 := ⟨fi_5_0, ⟨tyX5, tyX5_ok⟩, nmX5, rfl, rfl, tyX5_ok 0 (by decide)⟩
theorem ff_3_0 : FF 3 0 RX3 TX3 18 (.object "DownAmongFences$Air") RX3 := ⟨fi_3_0, ⟨tyX3, tyX3_ok⟩, nmX3, rfl, rfl, tyX3_ok 0 (by decide)⟩
theorem ff_3_1 : FF 3 1 RX3 TX3 18 (.object "DownAmongFences$Fields") RX3 := ⟨fi_3_1, ⟨tyX3, tyX3_ok⟩, nmX3, rfl, rfl, tyX3_ok 1 (by decide)⟩
theorem ff_3_2 : FF 3 2 RX3 TX3 18 (.object "DownAmongFences$Flight") RX3 := ⟨fi_3_2, ⟨tyX3, tyX3_ok⟩, nmX3, rfl, rfl, tyX3_ok 2 (by decide)⟩
theorem ff_3_3 : FF 3 3 RX3 TX3 18 (.object "DownAmongFences$Flight") RX3 := ⟨fi_3_3, ⟨tyX3, tyX3_ok⟩, nmX3, rfl, rfl, tyX3_ok 3 (by decide)⟩
theorem ff_3_5 : FF 3 5 RX3 TX3 18 (.object "DownAmongFences$Flight") RX3 := ⟨fi_3_5, ⟨tyX3, tyX3_ok⟩, nmX3, rfl, rfl, tyX3_ok 5 (by decide)⟩
theorem ff_3_17 : FF 3 17 RX3 TX3 18 (.array .int) RX3 := ⟨fi_3_17, ⟨tyX3, tyX3_ok⟩, nmX3, rfl, rfl, tyX3_ok 17 (by decide)⟩
theorem ff_8_0 : FF 8 0 RX8 TX8 2 (.array .int) RX8 := ⟨fi_8_0, ⟨tyX8, tyX8_ok⟩, nmX8, rfl, rfl, tyX8_ok 0 (by decide)⟩
theorem ff_8_1 : FF 8 1 RX8 TX8 2 (.array .int) RX8 := ⟨fi_8_1, ⟨tyX8, tyX8_ok⟩, nmX8, rfl, rfl, tyX8_ok 1 (by decide)⟩
theorem ff_11_0 : FF 11 0 RX11 TX11 59 (.array .int) RX11 := ⟨fi_11_0, ⟨tyX11, tyX11_ok⟩, nmX11, rfl, rfl, tyX11_ok 0 (by decide)⟩
theorem ff_11_1 : FF 11 1 RX11 TX11 59 (.array .int) RX11 := ⟨fi_11_1, ⟨tyX11, tyX11_ok⟩, nmX11, rfl, rfl, tyX11_ok 1 (by decide)⟩
theorem ff_11_10 : FF 11 10 RX11 TX11 59 (.array .int) RX11 := ⟨fi_11_10, ⟨tyX11, tyX11_ok⟩, nmX11, rfl, rfl, tyX11_ok 10 (by decide)⟩
theorem ff_11_12 : FF 11 12 RX11 TX11 59 (.array .int) RX11 := ⟨fi_11_12, ⟨tyX11, tyX11_ok⟩, nmX11, rfl, rfl, tyX11_ok 12 (by decide)⟩
theorem ff_11_13 : FF 11 13 RX11 TX11 59 (.array .int) RX11 := ⟨fi_11_13, ⟨tyX11, tyX11_ok⟩, nmX11, rfl, rfl, tyX11_ok 13 (by decide)⟩
theorem ff_11_14 : FF 11 14 RX11 TX11 59 (.array .int) RX11 := ⟨fi_11_14, ⟨tyX11, tyX11_ok⟩, nmX11, rfl, rfl, tyX11_ok 14 (by decide)⟩
theorem ff_11_15 : FF 11 15 RX11 TX11 59 (.array .int) RX11 := ⟨fi_11_15, ⟨tyX11, tyX11_ok⟩, nmX11, rfl, rfl, tyX11_ok 15 (by decide)⟩
theorem ff_11_16 : FF 11 16 RX11 TX11 59 (.array .int) RX11 := ⟨fi_11_16, ⟨tyX11, tyX11_ok⟩, nmX11, rfl, rfl, tyX11_ok 16 (by decide)⟩
theorem ff_11_17 : FF 11 17 RX11 TX11 59 (.array .int) RX11 := ⟨fi_11_17, ⟨tyX11, tyX11_ok⟩, nmX11, rfl, rfl, tyX11_ok 17 (by decide)⟩
theorem ff_11_20 : FF 11 20 RX11 TX11 59 (.array .int) RX11 := ⟨fi_11_20, ⟨tyX11, tyX11_ok⟩, nmX11, rfl, rfl, tyX11_ok 20 (by decide)⟩
theorem ff_11_22 : FF 11 22 RX11 TX11 59 (.array .int) RX11 := ⟨fi_11_22, ⟨tyX11, tyX11_ok⟩, nmX11, rfl, rfl, tyX11_ok 22 (by decide)⟩
theorem ff_11_27 : FF 11 27 RX11 TX11 59 (.array .int) RX11 := ⟨fi_11_27, ⟨tyX11, tyX11_ok⟩, nmX11, rfl, rfl, tyX11_ok 27 (by decide)⟩
theorem ff_11_28 : FF 11 28 RX11 TX11 59 (.array .int) RX11 := ⟨fi_11_28, ⟨tyX11, tyX11_ok⟩, nmX11, rfl, rfl, tyX11_ok 28 (by decide)⟩
theorem ff_11_29 : FF 11 29 RX11 TX11 59 (.array .int) RX11 := ⟨fi_11_29, ⟨tyX11, tyX11_ok⟩, nmX11, rfl, rfl, tyX11_ok 29 (by decide)⟩
theorem ff_11_30 : FF 11 30 RX11 TX11 59 (.array .int) RX11 := ⟨fi_11_30, ⟨tyX11, tyX11_ok⟩, nmX11, rfl, rfl, tyX11_ok 30 (by decide)⟩
theorem ff_11_31 : FF 11 31 RX11 TX11 59 (.array .int) RX11 := ⟨fi_11_31, ⟨tyX11, tyX11_ok⟩, nmX11, rfl, rfl, tyX11_ok 31 (by decide)⟩
theorem ff_11_32 : FF 11 32 RX11 TX11 59 (.array .int) RX11 := ⟨fi_11_32, ⟨tyX11, tyX11_ok⟩, nmX11, rfl, rfl, tyX11_ok 32 (by decide)⟩
theorem ff_11_37 : FF 11 37 RX11 TX11 59 (.array .int) RX11 := ⟨fi_11_37, ⟨tyX11, tyX11_ok⟩, nmX11, rfl, rfl, tyX11_ok 37 (by decide)⟩
theorem ff_11_38 : FF 11 38 RX11 TX11 59 (.array .int) RX11 := ⟨fi_11_38, ⟨tyX11, tyX11_ok⟩, nmX11, rfl, rfl, tyX11_ok 38 (by decide)⟩
theorem ff_11_39 : FF 11 39 RX11 TX11 59 (.array .int) RX11 := ⟨fi_11_39, ⟨tyX11, tyX11_ok⟩, nmX11, rfl, rfl, tyX11_ok 39 (by decide)⟩
theorem ff_11_50 : FF 11 50 RX11 TX11 59 (.array .int) RX11 := ⟨fi_11_50, ⟨tyX11, tyX11_ok⟩, nmX11, rfl, rfl, tyX11_ok 50 (by decide)⟩
theorem ff_11_53 : FF 11 53 RX11 TX11 59 (.array .int) RX11 := ⟨fi_11_53, ⟨tyX11, tyX11_ok⟩, nmX11, rfl, rfl, tyX11_ok 53 (by decide)⟩
theorem ff_11_54 : FF 11 54 RX11 TX11 59 (.array .int) RX11 := ⟨fi_11_54, ⟨tyX11, tyX11_ok⟩, nmX11, rfl, rfl, tyX11_ok 54 (by decide)⟩
theorem ff_11_55 : FF 11 55 RX11 TX11 59 (.array .int) RX11 := ⟨fi_11_55, ⟨tyX11, tyX11_ok⟩, nmX11, rfl, rfl, tyX11_ok 55 (by decide)⟩
theorem ff_11_56 : FF 11 56 RX11 TX11 59 (.array .int) RX11 := ⟨fi_11_56, ⟨tyX11, tyX11_ok⟩, nmX11, rfl, rfl, tyX11_ok 56 (by decide)⟩
theorem ff_11_57 : FF 11 57 RX11 TX11 59 (.array .int) RX11 := ⟨fi_11_57, ⟨tyX11, tyX11_ok⟩, nmX11, rfl, rfl, tyX11_ok 57 (by decide)⟩
theorem ff_10_0 : FF 10 0 RX10 TX10 10 (.object "DownAmongFences$World") RX10 := ⟨fi_10_0, ⟨tyX10, tyX10_ok⟩, nmX10, rfl, rfl, tyX10_ok 0 (by decide)⟩
theorem ff_10_1 : FF 10 1 RX10 TX10 10 (.object "DownAmongFences$World") RX10 := ⟨fi_10_1, ⟨tyX10, tyX10_ok⟩, nmX10, rfl, rfl, tyX10_ok 1 (by decide)⟩
theorem ff_10_2 : FF 10 2 RX10 TX10 10 (.object "DownAmongFences$World") RX10 := ⟨fi_10_2, ⟨tyX10, tyX10_ok⟩, nmX10, rfl, rfl, tyX10_ok 2 (by decide)⟩
theorem ff_10_4 : FF 10 4 RX10 TX10 10 (.object "DownAmongFences$Past") RX10 := ⟨fi_10_4, ⟨tyX10, tyX10_ok⟩, nmX10, rfl, rfl, tyX10_ok 4 (by decide)⟩
theorem ff_10_5 : FF 10 5 RX10 TX10 10 (.object "DownAmongFences$Reader") RX10 := ⟨fi_10_5, ⟨tyX10, tyX10_ok⟩, nmX10, rfl, rfl, tyX10_ok 5 (by decide)⟩
theorem ff_10_6 : FF 10 6 RX10 TX10 10 (.object "DownAmongFences$Row") RX10 := ⟨fi_10_6, ⟨tyX10, tyX10_ok⟩, nmX10, rfl, rfl, tyX10_ok 6 (by decide)⟩
theorem ff_10_7 : FF 10 7 RX10 TX10 10 (.array .int) RX10 := ⟨fi_10_7, ⟨tyX10, tyX10_ok⟩, nmX10, rfl, rfl, tyX10_ok 7 (by decide)⟩
theorem ff_10_8 : FF 10 8 RX10 TX10 10 (.object "DownAmongFences$Mind") RX10 := ⟨fi_10_8, ⟨tyX10, tyX10_ok⟩, nmX10, rfl, rfl, tyX10_ok 8 (by decide)⟩
theorem ff_10_9 : FF 10 9 RX10 TX10 10 (.object "DownAmongFences$Ways") RX10 := ⟨fi_10_9, ⟨tyX10, tyX10_ok⟩, nmX10, rfl, rfl, tyX10_ok 9 (by decide)⟩
theorem cfi_0 : CFi yX0_init cX0_init 1 0 := ⟨(wm_3 11 rfl), (wm_3 12 rfl), (wm_2 21 rfl), rfl, ⟨by decide +kernel, by decide +kernel, by decide +kernel⟩, by decide⟩
theorem cfi_1 : CFi yX1_init cX1_init 1 0 := ⟨(wm_3 16 rfl), (wm_3 17 rfl), (wm_3 1 rfl), rfl, ⟨by decide +kernel, by decide +kernel, by decide +kernel⟩, by decide⟩
theorem cfi_2 : CFi yX2_init cX2_init 1 0 := ⟨(wm_4 4 rfl), (wm_4 5 rfl), (wm_3 9 rfl), rfl, ⟨by decide +kernel, by decide +kernel, by decide +kernel⟩, by decide⟩
theorem cfi_3 : CFi yX3_init cX3_init 1 0 := ⟨(wm_5 5 rfl), (wm_5 6 rfl), (wm_2 10 rfl), rfl, ⟨by decide +kernel, by decide +kernel, by decide +kernel⟩, by decide⟩
theorem cfi_4 : CFi yX4_init cX4_init 2 0 := ⟨(wm_4 13 rfl), (wm_4 14 rfl), (wm_1 20 rfl), rfl, ⟨by decide +kernel, by decide +kernel, by decide +kernel⟩, by decide⟩
theorem cfi_5 : CFi yX5_init cX5_init 1 0 := ⟨(wm_4 18 rfl), (wm_4 19 rfl), (wm_2 0 rfl), rfl, ⟨by decide +kernel, by decide +kernel, by decide +kernel⟩, by decide⟩
theorem cfi_6 : CFi yX6_init cX6_init 1 0 := ⟨(wm_4 0 rfl), (wm_4 1 rfl), (wm_3 5 rfl), rfl, ⟨by decide +kernel, by decide +kernel, by decide +kernel⟩, by decide⟩
theorem cfi_7 : CFi yX7_init cX7_init 2 1 := ⟨(wm_5 0 rfl), (wm_5 1 rfl), (wm_2 4 rfl), rfl, ⟨by decide +kernel, by decide +kernel, by decide +kernel⟩, by decide⟩
theorem cfi_8 : CFi yX8_init cX8_init 1 0 := ⟨(wm_5 17 rfl), (wm_5 18 rfl), (wm_2 14 rfl), rfl, ⟨by decide +kernel, by decide +kernel, by decide +kernel⟩, by decide⟩
theorem cfi_9 : CFi yX9_init cX9_init 1 0 := ⟨(wm_2 16 rfl), (wm_2 17 rfl), (wm_1 14 rfl), rfl, ⟨by decide +kernel, by decide +kernel, by decide +kernel⟩, by decide⟩
theorem cfi_10 : CFi yX10_init cX10_init 1 0 := ⟨(wm_1 7 rfl), (wm_1 8 rfl), (wm_1 2 rfl), rfl, ⟨by decide +kernel, by decide +kernel, by decide +kernel⟩, by decide⟩
theorem cfi_11 : CFi yX11_init cX11_init 1 0 := ⟨(wm_5 23 rfl), (wm_6 0 rfl), (wm_1 5 rfl), rfl, ⟨by decide +kernel, by decide +kernel, by decide +kernel⟩, by decide⟩
section KR1
variable {Γ : GX} {Q : State → Prop} {own : String} {cc : ByteArray} {n pc pc0 : Nat} {ls : List (Nat × Value)} {rest : List Value} {x0 : Nat × va_E} {tl : va_W} {k w : Nat} {h0 c : Nat} {fs fs' : List Value}
theorem k_putI1 {i N idx : Nat} {Cn : String} {T : u_T} {x : Int32} (C : CxK Γ own cc n) (hd : decode cc pc = .ok (.putfield idx, 3)) (hp : pc0 = pc) (F : FP c i Cn T N .int) (hw : Cond.fieldLink own idx (T i).1 (T i).2.1 (T i).2.2.1 ∈ wsL_law) (hl9 : i < fs.length) (hf : fs.set i (.int x) = fs') (h : Kp Γ Q (pc + 3) ls rest ((h0, .inr (c, fs')) :: tl) k w) : Kp Γ Q pc0 ls (.int x :: .ref h0 :: rest) ((h0, .inr (c, fs)) :: tl) k w := k_putI C hd hp F hw hl9 (hf ▸ h)
theorem k_putF1 {i N idx a : Nat} {Cn : String} {T : u_T} {ty : FieldType} (C : CxK Γ own cc n) (hin2 : (xt Γ).name = "<init>") (hd : decode cc pc = .ok (.putfield idx, 3)) (hp : pc0 = pc) (F : FF c i Cn T N ty own) (hw : Cond.fieldLink own idx (T i).1 (T i).2.1 (T i).2.2.1 ∈ wsL_law) (hnr : narrow ty (.ref a) = .ref a) (hft : fits ty (.ref a) = true) (hl9 : i < fs.length) (hf : fs.set i (.ref a) = fs') (h : Kp Γ Q (pc + 3) ls rest ((h0, .inr (c, fs')) :: tl) k w) : Kp Γ Q pc0 ls (.ref a :: .ref h0 :: rest) ((h0, .inr (c, fs)) :: tl) k w := k_putF C hin2 hd hp F hw hnr hft hl9 (hf ▸ h)
theorem k_newa1 {m : Int32} {N : Nat} (C : CxK Γ own cc n) (hd : decode cc pc = .ok (.newarray .int, 2)) (hp : pc0 = pc) (hm : ¬ m < 0) (hN : m.toNatClampNeg = N) (hb : N * 4 ≤ 536870912) (hk : k + 1 ≤ (xR Γ).cells ∧ w + N ≤ (xR Γ).slots) (h : ∀ q : Nat, Kp Γ Q (pc + 2) ls (.ref q :: rest) (x0 :: (tl ++ [(q, .inl ((xE Γ).2.2.1, N, .inl (fun _ => 0)))])) (k + 1) (w + N)) : Kp Γ Q pc0 ls (.int m :: rest) (x0 :: tl) k w := k_newa C hd hp hm hN hb hk h
theorem k_newq1 {m : Int32} {N idx : Nat} (C : CxK Γ own cc n) (hd : decode cc pc = .ok (.anewarray idx, 3)) (hp : pc0 = pc) (hw : Cond.classLink own idx RX2 ∈ wsL_law) (hm : ¬ m < 0) (hN : m.toNatClampNeg = N) (hb : N * 4 ≤ 536870912) (hk : k + 1 ≤ (xR Γ).cells ∧ w + N ≤ (xR Γ).slots) (h : ∀ q : Nat, Kp Γ Q (pc + 3) ls (.ref q :: rest) (x0 :: (tl ++ [(q, .inl ((xE Γ).2.2.2, N, .inr (.inr (.inr (.inr (fun _ => none))))))])) (k + 1) (w + N)) : Kp Γ Q pc0 ls (.int m :: rest) (x0 :: tl) k w := k_newq C hd hp hw hm hN hb hk h
theorem k_new1 {ci N idx : Nat} {Cn : String} {T : u_T} {fs2 : List Value} (C : CxK Γ own cc n) (hd : decode cc pc = .ok (.new idx, 3)) (hp : pc0 = pc) (hw : Cond.classLink own idx Cn ∈ wsL_law ∧ Cond.instantiable Cn N ∈ wsL_law ∧ Cond.initialized Cn ∈ wsL_law) (F : vwCl[ci]? = some (Cn, T, N) ∧ (∀ w ∈ u_ws Cn T N, w ∈ wsL_law)) (ty : Nat → FieldType) (hty : ∀ k, k < N → parseFieldDescriptor (T k).2.2.1 = some (ty k)) (hfs : ∀ j, j < N → defaultValue (ty j) = vp_V fs2 j) (hk : k + 1 ≤ (xR Γ).cells ∧ w + N ≤ (xR Γ).slots) (h : ∀ q : Nat, Kp Γ Q (pc + 3) ls (.ref q :: rest) (x0 :: (tl ++ [(q, .inr (ci, fs2))])) (k + 1) (w + N)) : Kp Γ Q pc0 ls rest (x0 :: tl) k w := k_new C hd hp hw F ty hty hfs hk h
theorem k_init1 {y : MethodName} {b : ByteArray} {ml nn nA idx ci q mc ms : Nat} {fs2 As st0 : List Value} {cw : (Nat → Nat) → va_W} (C : CxK Γ own cc n) (hd : decode cc pc = .ok (.invokespecial idx, 3)) (hp : pc0 = pc) (hC : KCt (xl Γ) (xE Γ).2.1 (xE Γ).2.2.1 (xE Γ).2.2.2 y b ml nn As ci fs2 cw mc ms) (cf : CFi y b ml nA) (hlk : Cond.methodLink own idx y ∈ wsL_law ∨ ∃ host, Cond.methodLinkNest own idx y host ∈ nwL2) (hn : As.length = nA) (hdd : nn + 1 ≤ n) (hst : (rest.map fun v => v.category).sum ≤ 8) (hs : st0 = As.reverse ++ .ref q :: rest) (hk : k + mc ≤ (xR Γ).cells ∧ w + ms ≤ (xR Γ).slots) (h : ∀ q' : Nat → Nat, q' 0 = q → Kp Γ Q (pc + 3) ls rest (x0 :: (tl ++ cw q')) (k + mc) (w + ms)) : Kp Γ Q pc0 ls st0 (x0 :: (tl ++ [(q, .inr (ci, fs2))])) k w := k_init (ws := x0 :: tl) C hd hp hC cf hlk hn hdd hst hs hk h
theorem k_newq0 {m : Int32} {N idx : Nat} (C : CxK Γ own cc n) (hd : decode cc pc = .ok (.anewarray idx, 3)) (hp : pc0 = pc) (hw : Cond.classLink own idx RX2 ∈ wsL_law) (hm : ¬ m < 0) (hN : m.toNatClampNeg = N) (hb : N * 4 ≤ 536870912) (hk : k + 1 ≤ (xR Γ).cells ∧ w + N ≤ (xR Γ).slots) (h : ∀ q : Nat, Kp Γ Q (pc + 3) ls (.ref q :: rest) (x0 :: (q, .inl ((xE Γ).2.2.2, N, .inr (.inr (.inr (.inr (fun _ => none)))))) :: []) (k + 1) (w + N)) : Kp Γ Q pc0 ls (.int m :: rest) (x0 :: []) k w := k_newq C hd hp hw hm hN hb hk h
theorem k_new2 {x1 : Nat × va_E} {ci N idx : Nat} {Cn : String} {T : u_T} {fs2 : List Value} (C : CxK Γ own cc n) (hd : decode cc pc = .ok (.new idx, 3)) (hp : pc0 = pc) (hw : Cond.classLink own idx Cn ∈ wsL_law ∧ Cond.instantiable Cn N ∈ wsL_law ∧ Cond.initialized Cn ∈ wsL_law) (F : vwCl[ci]? = some (Cn, T, N) ∧ (∀ w ∈ u_ws Cn T N, w ∈ wsL_law)) (ty : Nat → FieldType) (hty : ∀ k, k < N → parseFieldDescriptor (T k).2.2.1 = some (ty k)) (hfs : ∀ j, j < N → defaultValue (ty j) = vp_V fs2 j) (hk : k + 1 ≤ (xR Γ).cells ∧ w + N ≤ (xR Γ).slots) (h : ∀ q : Nat, Kp Γ Q (pc + 3) ls (.ref q :: rest) (x0 :: x1 :: (tl ++ [(q, .inr (ci, fs2))])) (k + 1) (w + N)) : Kp Γ Q pc0 ls rest (x0 :: x1 :: tl) k w := k_new C hd hp hw F ty hty hfs hk h
theorem k_init2 {x1 : Nat × va_E} {y : MethodName} {b : ByteArray} {ml nn nA idx ci q mc ms : Nat} {fs2 As st0 : List Value} {cw : (Nat → Nat) → va_W} (C : CxK Γ own cc n) (hd : decode cc pc = .ok (.invokespecial idx, 3)) (hp : pc0 = pc) (hC : KCt (xl Γ) (xE Γ).2.1 (xE Γ).2.2.1 (xE Γ).2.2.2 y b ml nn As ci fs2 cw mc ms) (cf : CFi y b ml nA) (hlk : Cond.methodLink own idx y ∈ wsL_law ∨ ∃ host, Cond.methodLinkNest own idx y host ∈ nwL2) (hn : As.length = nA) (hdd : nn + 1 ≤ n) (hst : (rest.map fun v => v.category).sum ≤ 8) (hs : st0 = As.reverse ++ .ref q :: rest) (hk : k + mc ≤ (xR Γ).cells ∧ w + ms ≤ (xR Γ).slots) (h : ∀ q' : Nat → Nat, q' 0 = q → Kp Γ Q (pc + 3) ls rest (x0 :: x1 :: (tl ++ cw q')) (k + mc) (w + ms)) : Kp Γ Q pc0 ls st0 (x0 :: x1 :: (tl ++ [(q, .inr (ci, fs2))])) k w := k_init (ws := x0 :: x1 :: tl) C hd hp hC cf hlk hn hdd hst hs hk h
theorem k_aast2 {N : Nat} {i : Int32} {v c2 N2 qk : Nat} {fs2 : List Value} {T2 : u_T} {f : Nat → Option Nat} {a : Nat} (C : CxK Γ own cc n) (hd : decode cc pc = .ok (.aastore, 1)) (hp : pc0 = pc) (hv : tl[qk]? = some (v, .inr (c2, fs2))) (hc : vwCl[c2]? = some (RX2, T2, N2)) (hi : vp_in i N) (h : Kp Γ Q (pc + 1) ls rest (x0 :: (a, .inl ((xE Γ).2.2.2, N, .inr (.inr (.inr (.inr (va_up f i.toNatClampNeg (some v))))))) :: tl) k w) : Kp Γ Q pc0 ls (.ref v :: .int i :: .ref a :: rest) (x0 :: (a, .inl ((xE Γ).2.2.2, N, .inr (.inr (.inr (.inr f))))) :: tl) k w := k_aast (qa := 1) (qk := qk + 2) C hd hp rfl hv hc hi h
end KR1
theorem arrV_cg {cI : ClassId} {N : Nat} {f g : Nat → Value} (h : ∀ j, j < N → f j = g j) : arrV cI N f = arrV cI N g := by
  unfold arrV
  congr 1
  congr 1
  funext j
  exact h j.val j.isLt
theorem k_conv {Γ : GX} {Q : State → Prop} {pc : Nat} {ls : List (Nat × Value)} {st : List Value} {ws ws' : va_W} {k w : Nat} (hP : ∀ H, va_P (xE Γ).2.1 vwCl ws H → va_P (xE Γ).2.1 vwCl ws' H) (hD : va_D (xA Γ) ws → va_D (xA Γ) ws') (h : Kp Γ Q pc ls st ws' k w) : Kp Γ Q pc ls st ws k w := fun H locs la h1 h2 hS hl => h H locs la (hP H h1) (hD h2) hS hl
theorem D_map {A : Nat → Prop} {ws ws' : va_W} (he : ws.map Prod.fst = ws'.map Prod.fst) (hD : va_D A ws) : va_D A ws' := by
  have key : ∀ (k : Nat) (q : Nat × va_E), ws'[k]? = some q → ∃ q0, ws[k]? = some q0 ∧ q0.1 = q.1 := by
    intro k q hk
    have h1 : (ws'.map Prod.fst)[k]? = some q.1 := by rw [List.getElem?_map, hk]; rfl
    rw [← he, List.getElem?_map] at h1
    cases h2 : ws[k]? with
    | none => rw [h2] at h1; cases h1
    | some q0 => rw [h2] at h1; exact ⟨q0, rfl, Option.some.inj h1⟩
  refine ⟨fun i j p q hi hj hpq => ?_, fun k q hk => ?_⟩
  · obtain ⟨a, h1, h2⟩ := key i p hi
    obtain ⟨b, h3, h4⟩ := key j q hj
    exact hD.1 i j a b h1 h3 (by rw [h2, h4, hpq])
  · obtain ⟨a, h1, h2⟩ := key k q hk
    rw [← h2]
    exact hD.2 k a h1
theorem P_cons {D : va_G} {cl : List vw_C} {x : Nat × va_E} {l : va_W} {H : Heap} : va_P D cl (x :: l) H ↔ va_at D cl x H ∧ va_P D cl l H := by
  refine ⟨fun h => ⟨h 0 x rfl, fun k q hk => h (k + 1) q hk⟩, fun h k q hk => ?_⟩
  cases k with
  | zero => cases hk; exact h.1
  | succ k => exact h.2 k q hk
theorem at_q {D : va_G} {cl : List vw_C} {a cR n : Nat} {f g : Nat → Option Nat} {H : Heap} (h : va_at D cl (a, .inl (cR, n, .inr (.inr (.inr (.inr f))))) H) (hfg : ∀ j, j < n → f j = g j) : va_at D cl (a, .inl (cR, n, .inr (.inr (.inr (.inr g))))) H := by
  have h1 : H[a]? = some (vp_cell cR (n, .inr (.inr (.inr (.inr f))))) := h
  show H[a]? = some (vp_cell cR (n, .inr (.inr (.inr (.inr g)))))
  rw [h1, vp_cell_q, vp_cell_q]
  have e : arrV cR n (fun j => va_rf (f j)) = arrV cR n (fun j => va_rf (g j)) := arrV_cg (fun j hj => by rw [hfg j hj])
  rw [e]
theorem past_P {D : va_G} {cl : List vw_C} {x0 : Nat × va_E} {a cR : Nat} {f g : Nat → Option Nat} {l : va_W} {H : Heap} (h : va_P D cl (x0 :: (a, .inl (cR, 8, .inr (.inr (.inr (.inr f))))) :: l) H) (h0 : f 0 = g 0 := by rfl) (h1 : f 1 = g 1 := by rfl) (h2 : f 2 = g 2 := by rfl) (h3 : f 3 = g 3 := by rfl) (h4 : f 4 = g 4 := by rfl) (h5 : f 5 = g 5 := by rfl) (h6 : f 6 = g 6 := by rfl) (h7 : f 7 = g 7 := by rfl) : va_P D cl (x0 :: (a, .inl (cR, 8, .inr (.inr (.inr (.inr g))))) :: l) H := by
  obtain ⟨p0, p1⟩ := P_cons.mp h
  obtain ⟨p1, p2⟩ := P_cons.mp p1
  refine P_cons.mpr ⟨p0, P_cons.mpr ⟨at_q p1 (fun j hj => ?_), p2⟩⟩
  match j, hj with
  | 0, _ => exact h0
  | 1, _ => exact h1
  | 2, _ => exact h2
  | 3, _ => exact h3
  | 4, _ => exact h4
  | 5, _ => exact h5
  | 6, _ => exact h6
  | 7, _ => exact h7
def cwX0 (cI cR : Nat) (q : Nat → Nat) : va_W := ((q 0, .inr (0, [.ref (q 1), .ref (q 2)])) : Nat × va_E) :: ((([] ++ [(q 1, .inl (cI, 8, .inl (fun _ => 0)))]) ++ [(q 2, .inl (cI, 8, .inl (fun _ => 0)))]))
theorem cwX0_cg (cI cR : Nat) {q q' : Nat → Nat} (h : ∀ j, j < 3 → q j = q' j) : cwX0 cI cR q = cwX0 cI cR q' := by
  unfold cwX0
  rw [h 0 (by omega), h 1 (by omega), h 2 (by omega)]
set_option maxRecDepth 100000 in
set_option maxHeartbeats 400000 in
theorem kX0_init (l : Launch) (D : va_G) (cI cR : Nat) : KCt l D cI cR yX0_init cX0_init 1 1 [] 0 [.null, .null] (cwX0 cI cR) 2 16 := by
  refine KCt_of (own := RX0) (by decide +kernel) rfl rfl (Nat.le_of_ble_eq_true rfl) ?_
  intro Γ h0 Q el eD eI eR hn C hin hmc hms hret
  subst el; subst eD; subst eI; subst eR
  have hroom : ∀ a b : Nat, a ≤ 2 → b ≤ 16 → a ≤ (xR Γ).cells ∧ b ≤ (xR Γ).slots := fun a b h1 h2 => ⟨Nat.le_trans h1 hmc, Nat.le_trans h2 hms⟩
  refine k_aload_n C dX0_init_0 rfl 0 rfl ?_
  refine k_objInit C dX0_init_1 rfl (wm_3 13 rfl) (by decide) ?_
  refine k_aload_n C dX0_init_4 rfl 0 rfl ?_
  refine k_bipush (v := 8) C dX0_init_5 rfl (by decide) ?_
  refine k_newa1 (N := 8) C dX0_init_7 rfl (by decide) (by decide) (by decide) (hroom 1 8 (by decide) (by decide)) (fun a1 => ?_)
  refine k_putF1 (fs' := [.ref a1, .null]) C hin dX0_init_9 rfl ff_0_0 fl_X0_9 rfl rfl (Nat.le_of_ble_eq_true rfl) rfl ?_
  refine k_aload_n C dX0_init_12 rfl 0 rfl ?_
  refine k_bipush (v := 8) C dX0_init_13 rfl (by decide) ?_
  refine k_newa1 (N := 8) C dX0_init_15 rfl (by decide) (by decide) (by decide) (hroom 2 16 (by decide) (by decide)) (fun a2 => ?_)
  refine k_putF1 (fs' := [.ref a1, .ref a2]) C hin dX0_init_17 rfl ff_0_1 fl_X0_15 rfl rfl (Nat.le_of_ble_eq_true rfl) rfl ?_
  exact hret 20 _ _ (fun j => if j = 0 then h0 else if j < 2 then a1 else if j < 3 then a2 else 0) dX0_init_20 rfl rfl
def cwX1 (cI cR : Nat) (q : Nat → Nat) : va_W := ((q 0, .inr (1, [.int 0, .ref (q 1), .ref (q 2), .ref (q 3), .ref (q 4), .ref (q 5)])) : Nat × va_E) :: (((((([] ++ [(q 1, .inl (cI, 8, .inl (fun _ => 0)))]) ++ [(q 2, .inl (cI, 8, .inl (fun _ => 0)))]) ++ [(q 3, .inl (cI, 8, .inl (fun _ => 0)))]) ++ [(q 4, .inl (cI, 8, .inl (fun _ => 0)))]) ++ [(q 5, .inl (cI, 8, .inl (fun _ => 0)))]))
theorem cwX1_cg (cI cR : Nat) {q q' : Nat → Nat} (h : ∀ j, j < 6 → q j = q' j) : cwX1 cI cR q = cwX1 cI cR q' := by
  unfold cwX1
  rw [h 0 (by omega), h 1 (by omega), h 2 (by omega), h 3 (by omega), h 4 (by omega), h 5 (by omega)]
set_option maxRecDepth 100000 in
set_option maxHeartbeats 400000 in
theorem kX1_init (l : Launch) (D : va_G) (cI cR : Nat) : KCt l D cI cR yX1_init cX1_init 1 1 [] 1 [.int 0, .null, .null, .null, .null, .null] (cwX1 cI cR) 5 40 := by
  refine KCt_of (own := RX1) (by decide +kernel) rfl rfl (Nat.le_of_ble_eq_true rfl) ?_
  intro Γ h0 Q el eD eI eR hn C hin hmc hms hret
  subst el; subst eD; subst eI; subst eR
  have hroom : ∀ a b : Nat, a ≤ 5 → b ≤ 40 → a ≤ (xR Γ).cells ∧ b ≤ (xR Γ).slots := fun a b h1 h2 => ⟨Nat.le_trans h1 hmc, Nat.le_trans h2 hms⟩
  refine k_aload_n C dX1_init_0 rfl 0 rfl ?_
  refine k_objInit C dX1_init_1 rfl (wm_3 18 rfl) (by decide) ?_
  refine k_aload_n C dX1_init_4 rfl 0 rfl ?_
  refine k_bipush (v := 8) C dX1_init_5 rfl (by decide) ?_
  refine k_newa1 (N := 8) C dX1_init_7 rfl (by decide) (by decide) (by decide) (hroom 1 8 (by decide) (by decide)) (fun a1 => ?_)
  refine k_putF1 (fs' := [.int 0, .ref a1, .null, .null, .null, .null]) C hin dX1_init_9 rfl ff_1_1 fl_X1_9 rfl rfl (Nat.le_of_ble_eq_true rfl) rfl ?_
  refine k_aload_n C dX1_init_12 rfl 0 rfl ?_
  refine k_bipush (v := 8) C dX1_init_13 rfl (by decide) ?_
  refine k_newa1 (N := 8) C dX1_init_15 rfl (by decide) (by decide) (by decide) (hroom 2 16 (by decide) (by decide)) (fun a2 => ?_)
  refine k_putF1 (fs' := [.int 0, .ref a1, .ref a2, .null, .null, .null]) C hin dX1_init_17 rfl ff_1_2 fl_X1_15 rfl rfl (Nat.le_of_ble_eq_true rfl) rfl ?_
  refine k_aload_n C dX1_init_20 rfl 0 rfl ?_
  refine k_bipush (v := 8) C dX1_init_21 rfl (by decide) ?_
  refine k_newa1 (N := 8) C dX1_init_23 rfl (by decide) (by decide) (by decide) (hroom 3 24 (by decide) (by decide)) (fun a3 => ?_)
  refine k_putF1 (fs' := [.int 0, .ref a1, .ref a2, .ref a3, .null, .null]) C hin dX1_init_25 rfl ff_1_3 fl_X1_18 rfl rfl (Nat.le_of_ble_eq_true rfl) rfl ?_
  refine k_aload_n C dX1_init_28 rfl 0 rfl ?_
  refine k_bipush (v := 8) C dX1_init_29 rfl (by decide) ?_
  refine k_newa1 (N := 8) C dX1_init_31 rfl (by decide) (by decide) (by decide) (hroom 4 32 (by decide) (by decide)) (fun a4 => ?_)
  refine k_putF1 (fs' := [.int 0, .ref a1, .ref a2, .ref a3, .ref a4, .null]) C hin dX1_init_33 rfl ff_1_4 fl_X1_21 rfl rfl (Nat.le_of_ble_eq_true rfl) rfl ?_
  refine k_aload_n C dX1_init_36 rfl 0 rfl ?_
  refine k_bipush (v := 8) C dX1_init_37 rfl (by decide) ?_
  refine k_newa1 (N := 8) C dX1_init_39 rfl (by decide) (by decide) (by decide) (hroom 5 40 (by decide) (by decide)) (fun a5 => ?_)
  refine k_putF1 (fs' := [.int 0, .ref a1, .ref a2, .ref a3, .ref a4, .ref a5]) C hin dX1_init_41 rfl ff_1_5 fl_X1_24 rfl rfl (Nat.le_of_ble_eq_true rfl) rfl ?_
  exact hret 44 _ _ (fun j => if j = 0 then h0 else if j < 2 then a1 else if j < 3 then a2 else if j < 4 then a3 else if j < 5 then a4 else if j < 6 then a5 else 0) dX1_init_44 rfl rfl
def cwX6 (cI cR : Nat) (q : Nat → Nat) : va_W := ((q 0, .inr (6, [.int 0, .ref (q 1)])) : Nat × va_E) :: (([] ++ [(q 1, .inl (cI, 64, .inl (fun _ => 0)))]))
theorem cwX6_cg (cI cR : Nat) {q q' : Nat → Nat} (h : ∀ j, j < 2 → q j = q' j) : cwX6 cI cR q = cwX6 cI cR q' := by
  unfold cwX6
  rw [h 0 (by omega), h 1 (by omega)]
set_option maxRecDepth 100000 in
set_option maxHeartbeats 400000 in
theorem kX6_init (l : Launch) (D : va_G) (cI cR : Nat) : KCt l D cI cR yX6_init cX6_init 1 1 [] 6 [.int 0, .null] (cwX6 cI cR) 1 64 := by
  refine KCt_of (own := RX6) (by decide +kernel) rfl rfl (Nat.le_of_ble_eq_true rfl) ?_
  intro Γ h0 Q el eD eI eR hn C hin hmc hms hret
  subst el; subst eD; subst eI; subst eR
  have hroom : ∀ a b : Nat, a ≤ 1 → b ≤ 64 → a ≤ (xR Γ).cells ∧ b ≤ (xR Γ).slots := fun a b h1 h2 => ⟨Nat.le_trans h1 hmc, Nat.le_trans h2 hms⟩
  refine k_aload_n C dX6_init_0 rfl 0 rfl ?_
  refine k_objInit C dX6_init_1 rfl (wm_4 2 rfl) (by decide) ?_
  refine k_aload_n C dX6_init_4 rfl 0 rfl ?_
  refine k_bipush (v := 64) C dX6_init_5 rfl (by decide) ?_
  refine k_newa1 (N := 64) C dX6_init_7 rfl (by decide) (by decide) (by decide) (hroom 1 64 (by decide) (by decide)) (fun a1 => ?_)
  refine k_putF1 (fs' := [.int 0, .ref a1]) C hin dX6_init_9 rfl ff_6_1 fl_X6_9 rfl rfl (Nat.le_of_ble_eq_true rfl) rfl ?_
  exact hret 12 _ _ (fun j => if j = 0 then h0 else if j < 2 then a1 else 0) dX6_init_12 rfl rfl
def cwX2 (cI cR : Nat) (q : Nat → Nat) : va_W := ((q 0, .inr (2, [.int 0, .int 100, .int 0, .int 20, .int 30, .int 4, .int 2, .int 0, .int 0, .int 0])) : Nat × va_E) :: ([])
theorem cwX2_cg (cI cR : Nat) {q q' : Nat → Nat} (h : ∀ j, j < 1 → q j = q' j) : cwX2 cI cR q = cwX2 cI cR q' := by
  unfold cwX2
  rw [h 0 (by omega)]
set_option maxRecDepth 100000 in
set_option maxHeartbeats 400000 in
theorem kX2_init (l : Launch) (D : va_G) (cI cR : Nat) : KCt l D cI cR yX2_init cX2_init 1 1 [] 2 [.int 0, .int 0, .int 0, .int 0, .int 0, .int 0, .int 0, .int 0, .int 0, .int 0] (cwX2 cI cR) 0 0 := by
  refine KCt_of (own := RX2) (by decide +kernel) rfl rfl (Nat.le_of_ble_eq_true rfl) ?_
  intro Γ h0 Q el eD eI eR hn C hin hmc hms hret
  subst el; subst eD; subst eI; subst eR
  have hroom : ∀ a b : Nat, a ≤ 0 → b ≤ 0 → a ≤ (xR Γ).cells ∧ b ≤ (xR Γ).slots := fun a b h1 h2 => ⟨Nat.le_trans h1 hmc, Nat.le_trans h2 hms⟩
  refine k_aload_n C dX2_init_0 rfl 0 rfl ?_
  refine k_objInit C dX2_init_1 rfl (wm_4 6 rfl) (by decide) ?_
  refine k_aload_n C dX2_init_4 rfl 0 rfl ?_
  refine k_bipush (v := 100) C dX2_init_5 rfl (by decide) ?_
  refine k_putI1 (fs' := [.int 0, .int 100, .int 0, .int 0, .int 0, .int 0, .int 0, .int 0, .int 0, .int 0]) C dX2_init_7 rfl fp_2_1 fl_X2_9 (Nat.le_of_ble_eq_true rfl) rfl ?_
  refine k_aload_n C dX2_init_10 rfl 0 rfl ?_
  refine k_bipush (v := 20) C dX2_init_11 rfl (by decide) ?_
  refine k_putI1 (fs' := [.int 0, .int 100, .int 0, .int 20, .int 0, .int 0, .int 0, .int 0, .int 0, .int 0]) C dX2_init_13 rfl fp_2_3 fl_X2_15 (Nat.le_of_ble_eq_true rfl) rfl ?_
  refine k_aload_n C dX2_init_16 rfl 0 rfl ?_
  refine k_bipush (v := 30) C dX2_init_17 rfl (by decide) ?_
  refine k_putI1 (fs' := [.int 0, .int 100, .int 0, .int 20, .int 30, .int 0, .int 0, .int 0, .int 0, .int 0]) C dX2_init_19 rfl fp_2_4 fl_X2_18 (Nat.le_of_ble_eq_true rfl) rfl ?_
  refine k_aload_n C dX2_init_22 rfl 0 rfl ?_
  refine k_iconst (v := 4) C dX2_init_23 rfl (by decide) ?_
  refine k_putI1 (fs' := [.int 0, .int 100, .int 0, .int 20, .int 30, .int 4, .int 0, .int 0, .int 0, .int 0]) C dX2_init_24 rfl fp_2_5 fl_X2_21 (Nat.le_of_ble_eq_true rfl) rfl ?_
  refine k_aload_n C dX2_init_27 rfl 0 rfl ?_
  refine k_iconst (v := 2) C dX2_init_28 rfl (by decide) ?_
  refine k_putI1 (fs' := [.int 0, .int 100, .int 0, .int 20, .int 30, .int 4, .int 2, .int 0, .int 0, .int 0]) C dX2_init_29 rfl fp_2_6 fl_X2_24 (Nat.le_of_ble_eq_true rfl) rfl ?_
  exact hret 32 _ _ (fun j => if j = 0 then h0 else 0) dX2_init_32 rfl rfl
def cwX7_96 (cI cR : Nat) (q : Nat → Nat) : va_W := ((q 0, .inr (7, [.int 0, .ref (q 1)])) : Nat × va_E) :: (([] ++ [(q 1, .inl (cI, 96, .inl (fun _ => 0)))]))
theorem cwX7_96_cg (cI cR : Nat) {q q' : Nat → Nat} (h : ∀ j, j < 2 → q j = q' j) : cwX7_96 cI cR q = cwX7_96 cI cR q' := by
  unfold cwX7_96
  rw [h 0 (by omega), h 1 (by omega)]
set_option maxRecDepth 100000 in
set_option maxHeartbeats 400000 in
theorem kX7_96_init (l : Launch) (D : va_G) (cI cR : Nat) : KCt l D cI cR yX7_init cX7_init 2 1 [.int 96] 7 [.int 0, .null] (cwX7_96 cI cR) 1 96 := by
  refine KCt_of (own := RX7) (by decide +kernel) rfl rfl (Nat.le_of_ble_eq_true rfl) ?_
  intro Γ h0 Q el eD eI eR hn C hin hmc hms hret
  subst el; subst eD; subst eI; subst eR
  have hroom : ∀ a b : Nat, a ≤ 1 → b ≤ 96 → a ≤ (xR Γ).cells ∧ b ≤ (xR Γ).slots := fun a b h1 h2 => ⟨Nat.le_trans h1 hmc, Nat.le_trans h2 hms⟩
  refine k_aload_n C dX7_init_0 rfl 0 rfl ?_
  refine k_objInit C dX7_init_1 rfl (wm_5 2 rfl) (by decide) ?_
  refine k_aload_n C dX7_init_4 rfl 0 rfl ?_
  refine k_iload_n C dX7_init_5 rfl 1 rfl ?_
  refine k_if_ge 13 C dX7_init_6 rfl (by decide) (by decide) ?_
  refine k_iload_n C dX7_init_13 rfl 1 rfl ?_
  refine k_newa1 (N := 96) C dX7_init_14 rfl (by decide) (by decide) (by decide) (hroom 1 96 (by decide) (by decide)) (fun a1 => ?_)
  refine k_putF1 (fs' := [.int 0, .ref a1]) C hin dX7_init_16 rfl ff_7_1 fl_X7_7 rfl rfl (Nat.le_of_ble_eq_true rfl) rfl ?_
  exact hret 19 _ _ (fun j => if j = 0 then h0 else if j < 2 then a1 else 0) dX7_init_19 rfl rfl
def cwX7_12 (cI cR : Nat) (q : Nat → Nat) : va_W := ((q 0, .inr (7, [.int 0, .ref (q 1)])) : Nat × va_E) :: (([] ++ [(q 1, .inl (cI, 12, .inl (fun _ => 0)))]))
theorem cwX7_12_cg (cI cR : Nat) {q q' : Nat → Nat} (h : ∀ j, j < 2 → q j = q' j) : cwX7_12 cI cR q = cwX7_12 cI cR q' := by
  unfold cwX7_12
  rw [h 0 (by omega), h 1 (by omega)]
set_option maxRecDepth 100000 in
set_option maxHeartbeats 400000 in
theorem kX7_12_init (l : Launch) (D : va_G) (cI cR : Nat) : KCt l D cI cR yX7_init cX7_init 2 1 [.int 12] 7 [.int 0, .null] (cwX7_12 cI cR) 1 12 := by
  refine KCt_of (own := RX7) (by decide +kernel) rfl rfl (Nat.le_of_ble_eq_true rfl) ?_
  intro Γ h0 Q el eD eI eR hn C hin hmc hms hret
  subst el; subst eD; subst eI; subst eR
  have hroom : ∀ a b : Nat, a ≤ 1 → b ≤ 12 → a ≤ (xR Γ).cells ∧ b ≤ (xR Γ).slots := fun a b h1 h2 => ⟨Nat.le_trans h1 hmc, Nat.le_trans h2 hms⟩
  refine k_aload_n C dX7_init_0 rfl 0 rfl ?_
  refine k_objInit C dX7_init_1 rfl (wm_5 2 rfl) (by decide) ?_
  refine k_aload_n C dX7_init_4 rfl 0 rfl ?_
  refine k_iload_n C dX7_init_5 rfl 1 rfl ?_
  refine k_if_ge 13 C dX7_init_6 rfl (by decide) (by decide) ?_
  refine k_iload_n C dX7_init_13 rfl 1 rfl ?_
  refine k_newa1 (N := 12) C dX7_init_14 rfl (by decide) (by decide) (by decide) (hroom 1 12 (by decide) (by decide)) (fun a1 => ?_)
  refine k_putF1 (fs' := [.int 0, .ref a1]) C hin dX7_init_16 rfl ff_7_1 fl_X7_7 rfl rfl (Nat.le_of_ble_eq_true rfl) rfl ?_
  exact hret 19 _ _ (fun j => if j = 0 then h0 else if j < 2 then a1 else 0) dX7_init_19 rfl rfl
def cwX9 (cI cR : Nat) (q : Nat → Nat) : va_W := ((q 0, .inr (9, [.ref (q 1), .ref (q 4), .ref (q 10), .ref (q 12)])) : Nat × va_E) :: ((((([] ++ cwX0 cI cR (fun j => q (j + 1))) ++ cwX1 cI cR (fun j => q (j + 4))) ++ cwX6 cI cR (fun j => q (j + 10))) ++ cwX2 cI cR (fun j => q (j + 12))))
theorem cwX9_cg (cI cR : Nat) {q q' : Nat → Nat} (h : ∀ j, j < 13 → q j = q' j) : cwX9 cI cR q = cwX9 cI cR q' := by
  unfold cwX9
  rw [h 0 (by omega), h 1 (by omega), h 4 (by omega), h 10 (by omega), h 12 (by omega), cwX0_cg cI cR (q := fun j => q (j + 1)) (q' := fun j => q' (j + 1)) (fun j hj => h _ (by omega)), cwX1_cg cI cR (q := fun j => q (j + 4)) (q' := fun j => q' (j + 4)) (fun j hj => h _ (by omega)), cwX6_cg cI cR (q := fun j => q (j + 10)) (q' := fun j => q' (j + 10)) (fun j hj => h _ (by omega)), cwX2_cg cI cR (q := fun j => q (j + 12)) (q' := fun j => q' (j + 12)) (fun j hj => h _ (by omega))]
set_option maxRecDepth 100000 in
set_option maxHeartbeats 400000 in
theorem kX9_init (l : Launch) (D : va_G) (cI cR : Nat) : KCt l D cI cR yX9_init cX9_init 1 2 [] 9 [.null, .null, .null, .null] (cwX9 cI cR) 12 140 := by
  refine KCt_of (own := RX9) (by decide +kernel) rfl rfl (Nat.le_of_ble_eq_true rfl) ?_
  intro Γ h0 Q el eD eI eR hn C hin hmc hms hret
  subst el; subst eD; subst eI; subst eR
  have hroom : ∀ a b : Nat, a ≤ 12 → b ≤ 140 → a ≤ (xR Γ).cells ∧ b ≤ (xR Γ).slots := fun a b h1 h2 => ⟨Nat.le_trans h1 hmc, Nat.le_trans h2 hms⟩
  refine k_aload_n C dX9_init_0 rfl 0 rfl ?_
  refine k_objInit C dX9_init_1 rfl (wm_2 18 rfl) (by decide) ?_
  refine k_aload_n C dX9_init_4 rfl 0 rfl ?_
  refine k_new1 (ci := 0) (fs2 := [.null, .null]) C dX9_init_5 rfl ⟨(wm_2 19 rfl), (wm_2 20 rfl), (wm_2 21 rfl)⟩ ⟨rfl, inlX0⟩ tyX0 tyX0_ok (by intro j hj; match j, hj with | 0, _ => rfl | 1, _ => rfl | j + 2, hj => exact absurd hj (by omega)) (hroom 1 2 (by decide) (by decide)) (fun a1 => ?_)
  refine k_dup C dX9_init_8 rfl rfl ?_
  refine k_init1 C dX9_init_9 rfl (kX0_init _ _ _ _) cfi_0 (Or.inr ⟨_, List.mem_of_getElem? (i := 8) rfl⟩) rfl (by decide) (Nat.le_of_ble_eq_true rfl) rfl (hroom 3 18 (by decide) (by decide)) (fun g1 hg1 => ?_)
  subst hg1
  refine k_putF1 (fs' := [.ref (g1 0), .null, .null, .null]) C hin dX9_init_12 rfl ff_9_0 fl_X9_10 rfl rfl (Nat.le_of_ble_eq_true rfl) rfl ?_
  refine k_aload_n C dX9_init_15 rfl 0 rfl ?_
  refine k_new1 (ci := 1) (fs2 := [.int 0, .null, .null, .null, .null, .null]) C dX9_init_16 rfl ⟨(wm_2 23 rfl), (wm_3 0 rfl), (wm_3 1 rfl)⟩ ⟨rfl, inlX1⟩ tyX1 tyX1_ok (by intro j hj; match j, hj with | 0, _ => rfl | 1, _ => rfl | 2, _ => rfl | 3, _ => rfl | 4, _ => rfl | 5, _ => rfl | j + 6, hj => exact absurd hj (by omega)) (hroom 4 24 (by decide) (by decide)) (fun a2 => ?_)
  refine k_dup C dX9_init_19 rfl rfl ?_
  refine k_init1 C dX9_init_20 rfl (kX1_init _ _ _ _) cfi_1 (Or.inr ⟨_, List.mem_of_getElem? (i := 9) rfl⟩) rfl (by decide) (Nat.le_of_ble_eq_true rfl) rfl (hroom 9 64 (by decide) (by decide)) (fun g2 hg2 => ?_)
  subst hg2
  refine k_putF1 (fs' := [.ref (g1 0), .ref (g2 0), .null, .null]) C hin dX9_init_23 rfl ff_9_1 fl_X9_19 rfl rfl (Nat.le_of_ble_eq_true rfl) rfl ?_
  refine k_aload_n C dX9_init_26 rfl 0 rfl ?_
  refine k_new1 (ci := 6) (fs2 := [.int 0, .null]) C dX9_init_27 rfl ⟨(wm_3 3 rfl), (wm_3 4 rfl), (wm_3 5 rfl)⟩ ⟨rfl, inlX6⟩ tyX6 tyX6_ok (by intro j hj; match j, hj with | 0, _ => rfl | 1, _ => rfl | j + 2, hj => exact absurd hj (by omega)) (hroom 10 66 (by decide) (by decide)) (fun a3 => ?_)
  refine k_dup C dX9_init_30 rfl rfl ?_
  refine k_init1 C dX9_init_31 rfl (kX6_init _ _ _ _) cfi_6 (Or.inr ⟨_, List.mem_of_getElem? (i := 10) rfl⟩) rfl (by decide) (Nat.le_of_ble_eq_true rfl) rfl (hroom 11 130 (by decide) (by decide)) (fun g3 hg3 => ?_)
  subst hg3
  refine k_putF1 (fs' := [.ref (g1 0), .ref (g2 0), .ref (g3 0), .null]) C hin dX9_init_34 rfl ff_9_2 fl_X9_26 rfl rfl (Nat.le_of_ble_eq_true rfl) rfl ?_
  refine k_aload_n C dX9_init_37 rfl 0 rfl ?_
  refine k_new1 (ci := 2) (fs2 := [.int 0, .int 0, .int 0, .int 0, .int 0, .int 0, .int 0, .int 0, .int 0, .int 0]) C dX9_init_38 rfl ⟨(wm_3 7 rfl), (wm_3 8 rfl), (wm_3 9 rfl)⟩ ⟨rfl, inlX2⟩ tyX2 tyX2_ok (by intro j hj; match j, hj with | 0, _ => rfl | 1, _ => rfl | 2, _ => rfl | 3, _ => rfl | 4, _ => rfl | 5, _ => rfl | 6, _ => rfl | 7, _ => rfl | 8, _ => rfl | 9, _ => rfl | j + 10, hj => exact absurd hj (by omega)) (hroom 12 140 (by decide) (by decide)) (fun a4 => ?_)
  refine k_dup C dX9_init_41 rfl rfl ?_
  refine k_init1 C dX9_init_42 rfl (kX2_init _ _ _ _) cfi_2 (Or.inr ⟨_, List.mem_of_getElem? (i := 11) rfl⟩) rfl (by decide) (Nat.le_of_ble_eq_true rfl) rfl (hroom 12 140 (by decide) (by decide)) (fun g4 hg4 => ?_)
  subst hg4
  refine k_putF1 (fs' := [.ref (g1 0), .ref (g2 0), .ref (g3 0), .ref (g4 0)]) C hin dX9_init_45 rfl ff_9_3 fl_X9_33 rfl rfl (Nat.le_of_ble_eq_true rfl) rfl ?_
  obtain ⟨gl, hgl⟩ : ∃ gl : Nat → Nat, gl = fun j => if j = 0 then h0 else if j < 4 then g1 (j - 1) else if j < 10 then g2 (j - 4) else if j < 12 then g3 (j - 10) else if j < 13 then g4 (j - 12) else 0 := ⟨_, rfl⟩
  have e1 : cwX0 (xE Γ).2.2.1 (xE Γ).2.2.2 (fun j => gl (j + 1)) = cwX0 (xE Γ).2.2.1 (xE Γ).2.2.2 g1 := cwX0_cg _ _ (fun j hj => by rw [hgl]; show (if j + 1 = 0 then _ else _) = _; rw [if_neg (by omega), if_pos (by omega), Nat.add_sub_cancel])
  have e4 : cwX1 (xE Γ).2.2.1 (xE Γ).2.2.2 (fun j => gl (j + 4)) = cwX1 (xE Γ).2.2.1 (xE Γ).2.2.2 g2 := cwX1_cg _ _ (fun j hj => by rw [hgl]; show (if j + 4 = 0 then _ else _) = _; rw [if_neg (by omega), if_neg (by omega), if_pos (by omega), Nat.add_sub_cancel])
  have e10 : cwX6 (xE Γ).2.2.1 (xE Γ).2.2.2 (fun j => gl (j + 10)) = cwX6 (xE Γ).2.2.1 (xE Γ).2.2.2 g3 := cwX6_cg _ _ (fun j hj => by rw [hgl]; show (if j + 10 = 0 then _ else _) = _; rw [if_neg (by omega), if_neg (by omega), if_neg (by omega), if_pos (by omega), Nat.add_sub_cancel])
  have e12 : cwX2 (xE Γ).2.2.1 (xE Γ).2.2.2 (fun j => gl (j + 12)) = cwX2 (xE Γ).2.2.1 (xE Γ).2.2.2 g4 := cwX2_cg _ _ (fun j hj => by rw [hgl]; show (if j + 12 = 0 then _ else _) = _; rw [if_neg (by omega), if_neg (by omega), if_neg (by omega), if_neg (by omega), if_pos (by omega), Nat.add_sub_cancel])
  have r1 : gl 1 = g1 0 := by rw [hgl]; rfl
  have r4 : gl 4 = g2 0 := by rw [hgl]; rfl
  have r10 : gl 10 = g3 0 := by rw [hgl]; rfl
  have r12 : gl 12 = g4 0 := by rw [hgl]; rfl
  have r0 : gl 0 = h0 := by rw [hgl]; rfl
  refine hret 48 _ _ gl dX9_init_48 r0 ?_
  unfold cwX9
  rw [e1, e4, e10, e12, r0, r1, r4, r10, r12]
def cwX4 (cI cR : Nat) (q : Nat → Nat) : va_W := ((q 0, .inr (4, [.int 0, .int 0, .ref (q 1)])) : Nat × va_E) :: ((q 1, .inl (cR, 8, .inr (.inr (.inr (.inr (fun i => if i < 8 then some (q (2 + i)) else none)))))) :: (((((((([] ++ cwX2 cI cR (fun j => q (j + 2))) ++ cwX2 cI cR (fun j => q (j + 3))) ++ cwX2 cI cR (fun j => q (j + 4))) ++ cwX2 cI cR (fun j => q (j + 5))) ++ cwX2 cI cR (fun j => q (j + 6))) ++ cwX2 cI cR (fun j => q (j + 7))) ++ cwX2 cI cR (fun j => q (j + 8))) ++ cwX2 cI cR (fun j => q (j + 9))))
theorem cwX4_cg (cI cR : Nat) {q q' : Nat → Nat} (h : ∀ j, j < 10 → q j = q' j) : cwX4 cI cR q = cwX4 cI cR q' := by
  have e : (fun i => if i < 8 then some (q (2 + i)) else none) = (fun i => if i < 8 then some (q' (2 + i)) else none) := by
    funext i
    by_cases hi : i < 8
    · rw [if_pos hi, if_pos hi, h (2 + i) (by omega)]
    · rw [if_neg hi, if_neg hi]
  unfold cwX4
  rw [e, h 0 (by omega), h 1 (by omega), cwX2_cg cI cR (q := fun j => q (j + 2)) (q' := fun j => q' (j + 2)) (fun j hj => h _ (by omega)), cwX2_cg cI cR (q := fun j => q (j + 3)) (q' := fun j => q' (j + 3)) (fun j hj => h _ (by omega)), cwX2_cg cI cR (q := fun j => q (j + 4)) (q' := fun j => q' (j + 4)) (fun j hj => h _ (by omega)), cwX2_cg cI cR (q := fun j => q (j + 5)) (q' := fun j => q' (j + 5)) (fun j hj => h _ (by omega)), cwX2_cg cI cR (q := fun j => q (j + 6)) (q' := fun j => q' (j + 6)) (fun j hj => h _ (by omega)), cwX2_cg cI cR (q := fun j => q (j + 7)) (q' := fun j => q' (j + 7)) (fun j hj => h _ (by omega)), cwX2_cg cI cR (q := fun j => q (j + 8)) (q' := fun j => q' (j + 8)) (fun j hj => h _ (by omega)), cwX2_cg cI cR (q := fun j => q (j + 9)) (q' := fun j => q' (j + 9)) (fun j hj => h _ (by omega))]
set_option maxRecDepth 100000 in
set_option maxHeartbeats 400000 in
theorem kX4_init (l : Launch) (D : va_G) (cI cR : Nat) : KCt l D cI cR yX4_init cX4_init 2 2 [] 4 [.int 0, .int 0, .null] (cwX4 cI cR) 9 88 := by
  refine KCt_of (own := RX4) (by decide +kernel) rfl rfl (Nat.le_of_ble_eq_true rfl) ?_
  intro Γ h0 Q el eD eI eR hn C hin hmc hms hret
  subst el; subst eD; subst eI; subst eR
  have hroom : ∀ a b : Nat, a ≤ 9 → b ≤ 88 → a ≤ (xR Γ).cells ∧ b ≤ (xR Γ).slots := fun a b h1 h2 => ⟨Nat.le_trans h1 hmc, Nat.le_trans h2 hms⟩
  refine k_aload_n C dX4_init_0 rfl 0 rfl ?_
  refine k_objInit C dX4_init_1 rfl (wm_4 15 rfl) (by decide) ?_
  refine k_aload_n C dX4_init_4 rfl 0 rfl ?_
  refine k_bipush (v := 8) C dX4_init_5 rfl (by decide) ?_
  refine k_newq0 (N := 8) C dX4_init_7 rfl (wm_4 16 rfl) (by decide) (by decide) (by decide) (hroom 1 8 (by decide) (by decide)) (fun a1 => ?_)
  refine k_putF1 (fs' := [.int 0, .int 0, .ref a1]) C hin dX4_init_10 rfl ff_4_2 fl_X4_11 rfl rfl (Nat.le_of_ble_eq_true rfl) rfl ?_
  refine k_iconst (v := 0) C dX4_init_13 rfl (by decide) ?_
  refine k_istore_n (ls' := [(1, .int 0), (0, .ref h0)]) C dX4_init_14 rfl hn (by decide) rfl ?_
  refine k_iload_n C dX4_init_15 rfl 0 rfl ?_
  refine k_bipush (v := 8) C dX4_init_16 rfl (by decide) ?_
  refine k_icmp_ge 40 C dX4_init_18 rfl (by decide) (fun c => absurd c (by decide)) (fun _ => ?_)
  refine k_aload_n C dX4_init_21 rfl 1 rfl ?_
  refine k_getF C dX4_init_22 rfl fi_4_2 fl_X4_11 rfl ?_
  refine k_iload_n C dX4_init_25 rfl 0 rfl ?_
  refine k_new2 (ci := 2) (fs2 := [.int 0, .int 0, .int 0, .int 0, .int 0, .int 0, .int 0, .int 0, .int 0, .int 0]) C dX4_init_26 rfl ⟨(wm_4 16 rfl), (wm_3 8 rfl), (wm_3 9 rfl)⟩ ⟨rfl, inlX2⟩ tyX2 tyX2_ok (by intro j hj; match j, hj with | 0, _ => rfl | 1, _ => rfl | 2, _ => rfl | 3, _ => rfl | 4, _ => rfl | 5, _ => rfl | 6, _ => rfl | 7, _ => rfl | 8, _ => rfl | 9, _ => rfl | j + 10, hj => exact absurd hj (by omega)) (hroom 2 18 (by decide) (by decide)) (fun a2 => ?_)
  refine k_dup C dX4_init_29 rfl rfl ?_
  refine k_init2 C dX4_init_30 rfl (kX2_init _ _ _ _) cfi_2 (Or.inr ⟨_, List.mem_of_getElem? (i := 7) rfl⟩) rfl (by decide) (Nat.le_of_ble_eq_true rfl) rfl (hroom 2 18 (by decide) (by decide)) (fun g2 hg2 => ?_)
  subst hg2
  refine k_aast2 (qk := 0) (c2 := 2) C dX4_init_33 rfl rfl rfl (vp_in_iff.mpr ⟨by decide, by decide⟩) ?_
  refine k_iinc (q := 0) (v := 1) (ls' := [(1, .int 1), (0, .ref h0)]) C dX4_init_34 rfl hn (by decide) rfl (by decide) rfl ?_
  refine k_goto 15 C dX4_init_37 rfl (by decide) ?_
  refine k_iload_n C dX4_init_15 rfl 0 rfl ?_
  refine k_bipush (v := 8) C dX4_init_16 rfl (by decide) ?_
  refine k_icmp_ge 40 C dX4_init_18 rfl (by decide) (fun c => absurd c (by decide)) (fun _ => ?_)
  refine k_aload_n C dX4_init_21 rfl 1 rfl ?_
  refine k_getF C dX4_init_22 rfl fi_4_2 fl_X4_11 rfl ?_
  refine k_iload_n C dX4_init_25 rfl 0 rfl ?_
  refine k_new2 (ci := 2) (fs2 := [.int 0, .int 0, .int 0, .int 0, .int 0, .int 0, .int 0, .int 0, .int 0, .int 0]) C dX4_init_26 rfl ⟨(wm_4 16 rfl), (wm_3 8 rfl), (wm_3 9 rfl)⟩ ⟨rfl, inlX2⟩ tyX2 tyX2_ok (by intro j hj; match j, hj with | 0, _ => rfl | 1, _ => rfl | 2, _ => rfl | 3, _ => rfl | 4, _ => rfl | 5, _ => rfl | 6, _ => rfl | 7, _ => rfl | 8, _ => rfl | 9, _ => rfl | j + 10, hj => exact absurd hj (by omega)) (hroom 3 28 (by decide) (by decide)) (fun a3 => ?_)
  refine k_dup C dX4_init_29 rfl rfl ?_
  refine k_init2 C dX4_init_30 rfl (kX2_init _ _ _ _) cfi_2 (Or.inr ⟨_, List.mem_of_getElem? (i := 7) rfl⟩) rfl (by decide) (Nat.le_of_ble_eq_true rfl) rfl (hroom 3 28 (by decide) (by decide)) (fun g3 hg3 => ?_)
  subst hg3
  refine k_aast2 (qk := 1) (c2 := 2) C dX4_init_33 rfl rfl rfl (vp_in_iff.mpr ⟨by decide, by decide⟩) ?_
  refine k_iinc (q := 0) (v := 2) (ls' := [(1, .int 2), (0, .ref h0)]) C dX4_init_34 rfl hn (by decide) rfl (by decide) rfl ?_
  refine k_goto 15 C dX4_init_37 rfl (by decide) ?_
  refine k_iload_n C dX4_init_15 rfl 0 rfl ?_
  refine k_bipush (v := 8) C dX4_init_16 rfl (by decide) ?_
  refine k_icmp_ge 40 C dX4_init_18 rfl (by decide) (fun c => absurd c (by decide)) (fun _ => ?_)
  refine k_aload_n C dX4_init_21 rfl 1 rfl ?_
  refine k_getF C dX4_init_22 rfl fi_4_2 fl_X4_11 rfl ?_
  refine k_iload_n C dX4_init_25 rfl 0 rfl ?_
  refine k_new2 (ci := 2) (fs2 := [.int 0, .int 0, .int 0, .int 0, .int 0, .int 0, .int 0, .int 0, .int 0, .int 0]) C dX4_init_26 rfl ⟨(wm_4 16 rfl), (wm_3 8 rfl), (wm_3 9 rfl)⟩ ⟨rfl, inlX2⟩ tyX2 tyX2_ok (by intro j hj; match j, hj with | 0, _ => rfl | 1, _ => rfl | 2, _ => rfl | 3, _ => rfl | 4, _ => rfl | 5, _ => rfl | 6, _ => rfl | 7, _ => rfl | 8, _ => rfl | 9, _ => rfl | j + 10, hj => exact absurd hj (by omega)) (hroom 4 38 (by decide) (by decide)) (fun a4 => ?_)
  refine k_dup C dX4_init_29 rfl rfl ?_
  refine k_init2 C dX4_init_30 rfl (kX2_init _ _ _ _) cfi_2 (Or.inr ⟨_, List.mem_of_getElem? (i := 7) rfl⟩) rfl (by decide) (Nat.le_of_ble_eq_true rfl) rfl (hroom 4 38 (by decide) (by decide)) (fun g4 hg4 => ?_)
  subst hg4
  refine k_aast2 (qk := 2) (c2 := 2) C dX4_init_33 rfl rfl rfl (vp_in_iff.mpr ⟨by decide, by decide⟩) ?_
  refine k_iinc (q := 0) (v := 3) (ls' := [(1, .int 3), (0, .ref h0)]) C dX4_init_34 rfl hn (by decide) rfl (by decide) rfl ?_
  refine k_goto 15 C dX4_init_37 rfl (by decide) ?_
  refine k_iload_n C dX4_init_15 rfl 0 rfl ?_
  refine k_bipush (v := 8) C dX4_init_16 rfl (by decide) ?_
  refine k_icmp_ge 40 C dX4_init_18 rfl (by decide) (fun c => absurd c (by decide)) (fun _ => ?_)
  refine k_aload_n C dX4_init_21 rfl 1 rfl ?_
  refine k_getF C dX4_init_22 rfl fi_4_2 fl_X4_11 rfl ?_
  refine k_iload_n C dX4_init_25 rfl 0 rfl ?_
  refine k_new2 (ci := 2) (fs2 := [.int 0, .int 0, .int 0, .int 0, .int 0, .int 0, .int 0, .int 0, .int 0, .int 0]) C dX4_init_26 rfl ⟨(wm_4 16 rfl), (wm_3 8 rfl), (wm_3 9 rfl)⟩ ⟨rfl, inlX2⟩ tyX2 tyX2_ok (by intro j hj; match j, hj with | 0, _ => rfl | 1, _ => rfl | 2, _ => rfl | 3, _ => rfl | 4, _ => rfl | 5, _ => rfl | 6, _ => rfl | 7, _ => rfl | 8, _ => rfl | 9, _ => rfl | j + 10, hj => exact absurd hj (by omega)) (hroom 5 48 (by decide) (by decide)) (fun a5 => ?_)
  refine k_dup C dX4_init_29 rfl rfl ?_
  refine k_init2 C dX4_init_30 rfl (kX2_init _ _ _ _) cfi_2 (Or.inr ⟨_, List.mem_of_getElem? (i := 7) rfl⟩) rfl (by decide) (Nat.le_of_ble_eq_true rfl) rfl (hroom 5 48 (by decide) (by decide)) (fun g5 hg5 => ?_)
  subst hg5
  refine k_aast2 (qk := 3) (c2 := 2) C dX4_init_33 rfl rfl rfl (vp_in_iff.mpr ⟨by decide, by decide⟩) ?_
  refine k_iinc (q := 0) (v := 4) (ls' := [(1, .int 4), (0, .ref h0)]) C dX4_init_34 rfl hn (by decide) rfl (by decide) rfl ?_
  refine k_goto 15 C dX4_init_37 rfl (by decide) ?_
  refine k_iload_n C dX4_init_15 rfl 0 rfl ?_
  refine k_bipush (v := 8) C dX4_init_16 rfl (by decide) ?_
  refine k_icmp_ge 40 C dX4_init_18 rfl (by decide) (fun c => absurd c (by decide)) (fun _ => ?_)
  refine k_aload_n C dX4_init_21 rfl 1 rfl ?_
  refine k_getF C dX4_init_22 rfl fi_4_2 fl_X4_11 rfl ?_
  refine k_iload_n C dX4_init_25 rfl 0 rfl ?_
  refine k_new2 (ci := 2) (fs2 := [.int 0, .int 0, .int 0, .int 0, .int 0, .int 0, .int 0, .int 0, .int 0, .int 0]) C dX4_init_26 rfl ⟨(wm_4 16 rfl), (wm_3 8 rfl), (wm_3 9 rfl)⟩ ⟨rfl, inlX2⟩ tyX2 tyX2_ok (by intro j hj; match j, hj with | 0, _ => rfl | 1, _ => rfl | 2, _ => rfl | 3, _ => rfl | 4, _ => rfl | 5, _ => rfl | 6, _ => rfl | 7, _ => rfl | 8, _ => rfl | 9, _ => rfl | j + 10, hj => exact absurd hj (by omega)) (hroom 6 58 (by decide) (by decide)) (fun a6 => ?_)
  refine k_dup C dX4_init_29 rfl rfl ?_
  refine k_init2 C dX4_init_30 rfl (kX2_init _ _ _ _) cfi_2 (Or.inr ⟨_, List.mem_of_getElem? (i := 7) rfl⟩) rfl (by decide) (Nat.le_of_ble_eq_true rfl) rfl (hroom 6 58 (by decide) (by decide)) (fun g6 hg6 => ?_)
  subst hg6
  refine k_aast2 (qk := 4) (c2 := 2) C dX4_init_33 rfl rfl rfl (vp_in_iff.mpr ⟨by decide, by decide⟩) ?_
  refine k_iinc (q := 0) (v := 5) (ls' := [(1, .int 5), (0, .ref h0)]) C dX4_init_34 rfl hn (by decide) rfl (by decide) rfl ?_
  refine k_goto 15 C dX4_init_37 rfl (by decide) ?_
  refine k_iload_n C dX4_init_15 rfl 0 rfl ?_
  refine k_bipush (v := 8) C dX4_init_16 rfl (by decide) ?_
  refine k_icmp_ge 40 C dX4_init_18 rfl (by decide) (fun c => absurd c (by decide)) (fun _ => ?_)
  refine k_aload_n C dX4_init_21 rfl 1 rfl ?_
  refine k_getF C dX4_init_22 rfl fi_4_2 fl_X4_11 rfl ?_
  refine k_iload_n C dX4_init_25 rfl 0 rfl ?_
  refine k_new2 (ci := 2) (fs2 := [.int 0, .int 0, .int 0, .int 0, .int 0, .int 0, .int 0, .int 0, .int 0, .int 0]) C dX4_init_26 rfl ⟨(wm_4 16 rfl), (wm_3 8 rfl), (wm_3 9 rfl)⟩ ⟨rfl, inlX2⟩ tyX2 tyX2_ok (by intro j hj; match j, hj with | 0, _ => rfl | 1, _ => rfl | 2, _ => rfl | 3, _ => rfl | 4, _ => rfl | 5, _ => rfl | 6, _ => rfl | 7, _ => rfl | 8, _ => rfl | 9, _ => rfl | j + 10, hj => exact absurd hj (by omega)) (hroom 7 68 (by decide) (by decide)) (fun a7 => ?_)
  refine k_dup C dX4_init_29 rfl rfl ?_
  refine k_init2 C dX4_init_30 rfl (kX2_init _ _ _ _) cfi_2 (Or.inr ⟨_, List.mem_of_getElem? (i := 7) rfl⟩) rfl (by decide) (Nat.le_of_ble_eq_true rfl) rfl (hroom 7 68 (by decide) (by decide)) (fun g7 hg7 => ?_)
  subst hg7
  refine k_aast2 (qk := 5) (c2 := 2) C dX4_init_33 rfl rfl rfl (vp_in_iff.mpr ⟨by decide, by decide⟩) ?_
  refine k_iinc (q := 0) (v := 6) (ls' := [(1, .int 6), (0, .ref h0)]) C dX4_init_34 rfl hn (by decide) rfl (by decide) rfl ?_
  refine k_goto 15 C dX4_init_37 rfl (by decide) ?_
  refine k_iload_n C dX4_init_15 rfl 0 rfl ?_
  refine k_bipush (v := 8) C dX4_init_16 rfl (by decide) ?_
  refine k_icmp_ge 40 C dX4_init_18 rfl (by decide) (fun c => absurd c (by decide)) (fun _ => ?_)
  refine k_aload_n C dX4_init_21 rfl 1 rfl ?_
  refine k_getF C dX4_init_22 rfl fi_4_2 fl_X4_11 rfl ?_
  refine k_iload_n C dX4_init_25 rfl 0 rfl ?_
  refine k_new2 (ci := 2) (fs2 := [.int 0, .int 0, .int 0, .int 0, .int 0, .int 0, .int 0, .int 0, .int 0, .int 0]) C dX4_init_26 rfl ⟨(wm_4 16 rfl), (wm_3 8 rfl), (wm_3 9 rfl)⟩ ⟨rfl, inlX2⟩ tyX2 tyX2_ok (by intro j hj; match j, hj with | 0, _ => rfl | 1, _ => rfl | 2, _ => rfl | 3, _ => rfl | 4, _ => rfl | 5, _ => rfl | 6, _ => rfl | 7, _ => rfl | 8, _ => rfl | 9, _ => rfl | j + 10, hj => exact absurd hj (by omega)) (hroom 8 78 (by decide) (by decide)) (fun a8 => ?_)
  refine k_dup C dX4_init_29 rfl rfl ?_
  refine k_init2 C dX4_init_30 rfl (kX2_init _ _ _ _) cfi_2 (Or.inr ⟨_, List.mem_of_getElem? (i := 7) rfl⟩) rfl (by decide) (Nat.le_of_ble_eq_true rfl) rfl (hroom 8 78 (by decide) (by decide)) (fun g8 hg8 => ?_)
  subst hg8
  refine k_aast2 (qk := 6) (c2 := 2) C dX4_init_33 rfl rfl rfl (vp_in_iff.mpr ⟨by decide, by decide⟩) ?_
  refine k_iinc (q := 0) (v := 7) (ls' := [(1, .int 7), (0, .ref h0)]) C dX4_init_34 rfl hn (by decide) rfl (by decide) rfl ?_
  refine k_goto 15 C dX4_init_37 rfl (by decide) ?_
  refine k_iload_n C dX4_init_15 rfl 0 rfl ?_
  refine k_bipush (v := 8) C dX4_init_16 rfl (by decide) ?_
  refine k_icmp_ge 40 C dX4_init_18 rfl (by decide) (fun c => absurd c (by decide)) (fun _ => ?_)
  refine k_aload_n C dX4_init_21 rfl 1 rfl ?_
  refine k_getF C dX4_init_22 rfl fi_4_2 fl_X4_11 rfl ?_
  refine k_iload_n C dX4_init_25 rfl 0 rfl ?_
  refine k_new2 (ci := 2) (fs2 := [.int 0, .int 0, .int 0, .int 0, .int 0, .int 0, .int 0, .int 0, .int 0, .int 0]) C dX4_init_26 rfl ⟨(wm_4 16 rfl), (wm_3 8 rfl), (wm_3 9 rfl)⟩ ⟨rfl, inlX2⟩ tyX2 tyX2_ok (by intro j hj; match j, hj with | 0, _ => rfl | 1, _ => rfl | 2, _ => rfl | 3, _ => rfl | 4, _ => rfl | 5, _ => rfl | 6, _ => rfl | 7, _ => rfl | 8, _ => rfl | 9, _ => rfl | j + 10, hj => exact absurd hj (by omega)) (hroom 9 88 (by decide) (by decide)) (fun a9 => ?_)
  refine k_dup C dX4_init_29 rfl rfl ?_
  refine k_init2 C dX4_init_30 rfl (kX2_init _ _ _ _) cfi_2 (Or.inr ⟨_, List.mem_of_getElem? (i := 7) rfl⟩) rfl (by decide) (Nat.le_of_ble_eq_true rfl) rfl (hroom 9 88 (by decide) (by decide)) (fun g9 hg9 => ?_)
  subst hg9
  refine k_aast2 (qk := 7) (c2 := 2) C dX4_init_33 rfl rfl rfl (vp_in_iff.mpr ⟨by decide, by decide⟩) ?_
  refine k_iinc (q := 0) (v := 8) (ls' := [(1, .int 8), (0, .ref h0)]) C dX4_init_34 rfl hn (by decide) rfl (by decide) rfl ?_
  refine k_goto 15 C dX4_init_37 rfl (by decide) ?_
  refine k_iload_n C dX4_init_15 rfl 0 rfl ?_
  refine k_bipush (v := 8) C dX4_init_16 rfl (by decide) ?_
  refine k_icmp_ge 40 C dX4_init_18 rfl (by decide) (fun _ => ?_) (fun c => absurd (by decide) c)
  refine k_conv ?_ ?_ (hret 40 _ _ (fun j => if j = 0 then h0 else if j < 2 then a1 else if j < 3 then g2 (j - 2) else if j < 4 then g3 (j - 3) else if j < 5 then g4 (j - 4) else if j < 6 then g5 (j - 5) else if j < 7 then g6 (j - 6) else if j < 8 then g7 (j - 7) else if j < 9 then g8 (j - 8) else if j < 10 then g9 (j - 9) else 0) dX4_init_40 rfl rfl)
  · intro H hP
    exact past_P hP
  · intro hD
    refine D_map ?_ hD
    rfl
def cwX5 (cI cR : Nat) (q : Nat → Nat) : va_W := ((q 0, .inr (5, [.ref (q 1)])) : Nat × va_E) :: (([] ++ cwX7_96 cI cR (fun j => q (j + 1))))
theorem cwX5_cg (cI cR : Nat) {q q' : Nat → Nat} (h : ∀ j, j < 3 → q j = q' j) : cwX5 cI cR q = cwX5 cI cR q' := by
  unfold cwX5
  rw [h 0 (by omega), h 1 (by omega), cwX7_96_cg cI cR (q := fun j => q (j + 1)) (q' := fun j => q' (j + 1)) (fun j hj => h _ (by omega))]
set_option maxRecDepth 100000 in
set_option maxHeartbeats 400000 in
theorem kX5_init (l : Launch) (D : va_G) (cI cR : Nat) : KCt l D cI cR yX5_init cX5_init 1 2 [] 5 [.null] (cwX5 cI cR) 2 98 := by
  refine KCt_of (own := RX5) (by decide +kernel) rfl rfl (Nat.le_of_ble_eq_true rfl) ?_
  intro Γ h0 Q el eD eI eR hn C hin hmc hms hret
  subst el; subst eD; subst eI; subst eR
  have hroom : ∀ a b : Nat, a ≤ 2 → b ≤ 98 → a ≤ (xR Γ).cells ∧ b ≤ (xR Γ).slots := fun a b h1 h2 => ⟨Nat.le_trans h1 hmc, Nat.le_trans h2 hms⟩
  refine k_aload_n C dX5_init_0 rfl 0 rfl ?_
  refine k_objInit C dX5_init_1 rfl (wm_4 20 rfl) (by decide) ?_
  refine k_aload_n C dX5_init_4 rfl 0 rfl ?_
  refine k_new1 (ci := 7) (fs2 := [.int 0, .null]) C dX5_init_5 rfl ⟨(wm_4 21 rfl), (wm_2 3 rfl), (wm_2 4 rfl)⟩ ⟨rfl, inlX7⟩ tyX7 tyX7_ok (by intro j hj; match j, hj with | 0, _ => rfl | 1, _ => rfl | j + 2, hj => exact absurd hj (by omega)) (hroom 1 2 (by decide) (by decide)) (fun a1 => ?_)
  refine k_dup C dX5_init_8 rfl rfl ?_
  refine k_bipush (v := 96) C dX5_init_9 rfl (by decide) ?_
  refine k_init1 C dX5_init_11 rfl (kX7_96_init _ _ _ _) cfi_7 (Or.inl (wm_4 23 rfl)) rfl (by decide) (Nat.le_of_ble_eq_true rfl) rfl (hroom 2 98 (by decide) (by decide)) (fun g1 hg1 => ?_)
  subst hg1
  refine k_putF1 (fs' := [.ref (g1 0)]) C hin dX5_init_14 rfl ff_5_0 fl_X5_14 rfl rfl (Nat.le_of_ble_eq_true rfl) rfl ?_
  exact hret 17 _ _ (fun j => if j = 0 then h0 else if j < 3 then g1 (j - 1) else 0) dX5_init_17 rfl rfl
def cwX3 (cI cR : Nat) (q : Nat → Nat) : va_W := ((q 0, .inr (3, [.ref (q 1), .ref (q 4), .ref (q 10), .ref (q 11), .int 0, .ref (q 12), .int 0, .int 0, .int 0, .int 0, .int 0, .int 0, .int 0, .int 0, .int 0, .int 0, .int 0, .ref (q 13)])) : Nat × va_E) :: ((((((([] ++ cwX0 cI cR (fun j => q (j + 1))) ++ cwX1 cI cR (fun j => q (j + 4))) ++ cwX2 cI cR (fun j => q (j + 10))) ++ cwX2 cI cR (fun j => q (j + 11))) ++ cwX2 cI cR (fun j => q (j + 12))) ++ [(q 13, .inl (cI, 6, .inl (fun _ => 0)))]))
theorem cwX3_cg (cI cR : Nat) {q q' : Nat → Nat} (h : ∀ j, j < 14 → q j = q' j) : cwX3 cI cR q = cwX3 cI cR q' := by
  unfold cwX3
  rw [h 0 (by omega), h 1 (by omega), h 4 (by omega), h 10 (by omega), h 11 (by omega), h 12 (by omega), h 13 (by omega), cwX0_cg cI cR (q := fun j => q (j + 1)) (q' := fun j => q' (j + 1)) (fun j hj => h _ (by omega)), cwX1_cg cI cR (q := fun j => q (j + 4)) (q' := fun j => q' (j + 4)) (fun j hj => h _ (by omega)), cwX2_cg cI cR (q := fun j => q (j + 10)) (q' := fun j => q' (j + 10)) (fun j hj => h _ (by omega)), cwX2_cg cI cR (q := fun j => q (j + 11)) (q' := fun j => q' (j + 11)) (fun j hj => h _ (by omega)), cwX2_cg cI cR (q := fun j => q (j + 12)) (q' := fun j => q' (j + 12)) (fun j hj => h _ (by omega))]
set_option maxRecDepth 100000 in
set_option maxHeartbeats 400000 in
theorem kX3_init (l : Launch) (D : va_G) (cI cR : Nat) : KCt l D cI cR yX3_init cX3_init 1 2 [] 3 [.null, .null, .null, .null, .int 0, .null, .int 0, .int 0, .int 0, .int 0, .int 0, .int 0, .int 0, .int 0, .int 0, .int 0, .int 0, .null] (cwX3 cI cR) 13 100 := by
  refine KCt_of (own := RX3) (by decide +kernel) rfl rfl (Nat.le_of_ble_eq_true rfl) ?_
  intro Γ h0 Q el eD eI eR hn C hin hmc hms hret
  subst el; subst eD; subst eI; subst eR
  have hroom : ∀ a b : Nat, a ≤ 13 → b ≤ 100 → a ≤ (xR Γ).cells ∧ b ≤ (xR Γ).slots := fun a b h1 h2 => ⟨Nat.le_trans h1 hmc, Nat.le_trans h2 hms⟩
  refine k_aload_n C dX3_init_0 rfl 0 rfl ?_
  refine k_objInit C dX3_init_1 rfl (wm_5 7 rfl) (by decide) ?_
  refine k_aload_n C dX3_init_4 rfl 0 rfl ?_
  refine k_new1 (ci := 0) (fs2 := [.null, .null]) C dX3_init_5 rfl ⟨(wm_5 8 rfl), (wm_2 20 rfl), (wm_2 21 rfl)⟩ ⟨rfl, inlX0⟩ tyX0 tyX0_ok (by intro j hj; match j, hj with | 0, _ => rfl | 1, _ => rfl | j + 2, hj => exact absurd hj (by omega)) (hroom 1 2 (by decide) (by decide)) (fun a1 => ?_)
  refine k_dup C dX3_init_8 rfl rfl ?_
  refine k_init1 C dX3_init_9 rfl (kX0_init _ _ _ _) cfi_0 (Or.inr ⟨_, List.mem_of_getElem? (i := 4) rfl⟩) rfl (by decide) (Nat.le_of_ble_eq_true rfl) rfl (hroom 3 18 (by decide) (by decide)) (fun g1 hg1 => ?_)
  subst hg1
  refine k_putF1 (fs' := [.ref (g1 0), .null, .null, .null, .int 0, .null, .int 0, .int 0, .int 0, .int 0, .int 0, .int 0, .int 0, .int 0, .int 0, .int 0, .int 0, .null]) C hin dX3_init_12 rfl ff_3_0 fl_X3_12 rfl rfl (Nat.le_of_ble_eq_true rfl) rfl ?_
  refine k_aload_n C dX3_init_15 rfl 0 rfl ?_
  refine k_new1 (ci := 1) (fs2 := [.int 0, .null, .null, .null, .null, .null]) C dX3_init_16 rfl ⟨(wm_5 10 rfl), (wm_3 0 rfl), (wm_3 1 rfl)⟩ ⟨rfl, inlX1⟩ tyX1 tyX1_ok (by intro j hj; match j, hj with | 0, _ => rfl | 1, _ => rfl | 2, _ => rfl | 3, _ => rfl | 4, _ => rfl | 5, _ => rfl | j + 6, hj => exact absurd hj (by omega)) (hroom 4 24 (by decide) (by decide)) (fun a2 => ?_)
  refine k_dup C dX3_init_19 rfl rfl ?_
  refine k_init1 C dX3_init_20 rfl (kX1_init _ _ _ _) cfi_1 (Or.inr ⟨_, List.mem_of_getElem? (i := 5) rfl⟩) rfl (by decide) (Nat.le_of_ble_eq_true rfl) rfl (hroom 9 64 (by decide) (by decide)) (fun g2 hg2 => ?_)
  subst hg2
  refine k_putF1 (fs' := [.ref (g1 0), .ref (g2 0), .null, .null, .int 0, .null, .int 0, .int 0, .int 0, .int 0, .int 0, .int 0, .int 0, .int 0, .int 0, .int 0, .int 0, .null]) C hin dX3_init_23 rfl ff_3_1 fl_X3_21 rfl rfl (Nat.le_of_ble_eq_true rfl) rfl ?_
  refine k_aload_n C dX3_init_26 rfl 0 rfl ?_
  refine k_new1 (ci := 2) (fs2 := [.int 0, .int 0, .int 0, .int 0, .int 0, .int 0, .int 0, .int 0, .int 0, .int 0]) C dX3_init_27 rfl ⟨(wm_5 12 rfl), (wm_3 8 rfl), (wm_3 9 rfl)⟩ ⟨rfl, inlX2⟩ tyX2 tyX2_ok (by intro j hj; match j, hj with | 0, _ => rfl | 1, _ => rfl | 2, _ => rfl | 3, _ => rfl | 4, _ => rfl | 5, _ => rfl | 6, _ => rfl | 7, _ => rfl | 8, _ => rfl | 9, _ => rfl | j + 10, hj => exact absurd hj (by omega)) (hroom 10 74 (by decide) (by decide)) (fun a3 => ?_)
  refine k_dup C dX3_init_30 rfl rfl ?_
  refine k_init1 C dX3_init_31 rfl (kX2_init _ _ _ _) cfi_2 (Or.inr ⟨_, List.mem_of_getElem? (i := 6) rfl⟩) rfl (by decide) (Nat.le_of_ble_eq_true rfl) rfl (hroom 10 74 (by decide) (by decide)) (fun g3 hg3 => ?_)
  subst hg3
  refine k_putF1 (fs' := [.ref (g1 0), .ref (g2 0), .ref (g3 0), .null, .int 0, .null, .int 0, .int 0, .int 0, .int 0, .int 0, .int 0, .int 0, .int 0, .int 0, .int 0, .int 0, .null]) C hin dX3_init_34 rfl ff_3_2 fl_X3_28 rfl rfl (Nat.le_of_ble_eq_true rfl) rfl ?_
  refine k_aload_n C dX3_init_37 rfl 0 rfl ?_
  refine k_new1 (ci := 2) (fs2 := [.int 0, .int 0, .int 0, .int 0, .int 0, .int 0, .int 0, .int 0, .int 0, .int 0]) C dX3_init_38 rfl ⟨(wm_5 12 rfl), (wm_3 8 rfl), (wm_3 9 rfl)⟩ ⟨rfl, inlX2⟩ tyX2 tyX2_ok (by intro j hj; match j, hj with | 0, _ => rfl | 1, _ => rfl | 2, _ => rfl | 3, _ => rfl | 4, _ => rfl | 5, _ => rfl | 6, _ => rfl | 7, _ => rfl | 8, _ => rfl | 9, _ => rfl | j + 10, hj => exact absurd hj (by omega)) (hroom 11 84 (by decide) (by decide)) (fun a4 => ?_)
  refine k_dup C dX3_init_41 rfl rfl ?_
  refine k_init1 C dX3_init_42 rfl (kX2_init _ _ _ _) cfi_2 (Or.inr ⟨_, List.mem_of_getElem? (i := 6) rfl⟩) rfl (by decide) (Nat.le_of_ble_eq_true rfl) rfl (hroom 11 84 (by decide) (by decide)) (fun g4 hg4 => ?_)
  subst hg4
  refine k_putF1 (fs' := [.ref (g1 0), .ref (g2 0), .ref (g3 0), .ref (g4 0), .int 0, .null, .int 0, .int 0, .int 0, .int 0, .int 0, .int 0, .int 0, .int 0, .int 0, .int 0, .int 0, .null]) C hin dX3_init_45 rfl ff_3_3 fl_X3_32 rfl rfl (Nat.le_of_ble_eq_true rfl) rfl ?_
  refine k_aload_n C dX3_init_48 rfl 0 rfl ?_
  refine k_new1 (ci := 2) (fs2 := [.int 0, .int 0, .int 0, .int 0, .int 0, .int 0, .int 0, .int 0, .int 0, .int 0]) C dX3_init_49 rfl ⟨(wm_5 12 rfl), (wm_3 8 rfl), (wm_3 9 rfl)⟩ ⟨rfl, inlX2⟩ tyX2 tyX2_ok (by intro j hj; match j, hj with | 0, _ => rfl | 1, _ => rfl | 2, _ => rfl | 3, _ => rfl | 4, _ => rfl | 5, _ => rfl | 6, _ => rfl | 7, _ => rfl | 8, _ => rfl | 9, _ => rfl | j + 10, hj => exact absurd hj (by omega)) (hroom 12 94 (by decide) (by decide)) (fun a5 => ?_)
  refine k_dup C dX3_init_52 rfl rfl ?_
  refine k_init1 C dX3_init_53 rfl (kX2_init _ _ _ _) cfi_2 (Or.inr ⟨_, List.mem_of_getElem? (i := 6) rfl⟩) rfl (by decide) (Nat.le_of_ble_eq_true rfl) rfl (hroom 12 94 (by decide) (by decide)) (fun g5 hg5 => ?_)
  subst hg5
  refine k_putF1 (fs' := [.ref (g1 0), .ref (g2 0), .ref (g3 0), .ref (g4 0), .int 0, .ref (g5 0), .int 0, .int 0, .int 0, .int 0, .int 0, .int 0, .int 0, .int 0, .int 0, .int 0, .int 0, .null]) C hin dX3_init_56 rfl ff_3_5 fl_X3_35 rfl rfl (Nat.le_of_ble_eq_true rfl) rfl ?_
  refine k_aload_n C dX3_init_59 rfl 0 rfl ?_
  refine k_bipush (v := 6) C dX3_init_60 rfl (by decide) ?_
  refine k_newa1 (N := 6) C dX3_init_62 rfl (by decide) (by decide) (by decide) (hroom 13 100 (by decide) (by decide)) (fun a6 => ?_)
  refine k_putF1 (fs' := [.ref (g1 0), .ref (g2 0), .ref (g3 0), .ref (g4 0), .int 0, .ref (g5 0), .int 0, .int 0, .int 0, .int 0, .int 0, .int 0, .int 0, .int 0, .int 0, .int 0, .int 0, .ref a6]) C hin dX3_init_64 rfl ff_3_17 fl_X3_38 rfl rfl (Nat.le_of_ble_eq_true rfl) rfl ?_
  obtain ⟨gl, hgl⟩ : ∃ gl : Nat → Nat, gl = fun j => if j = 0 then h0 else if j < 4 then g1 (j - 1) else if j < 10 then g2 (j - 4) else if j < 11 then g3 (j - 10) else if j < 12 then g4 (j - 11) else if j < 13 then g5 (j - 12) else if j < 14 then a6 else 0 := ⟨_, rfl⟩
  have e1 : cwX0 (xE Γ).2.2.1 (xE Γ).2.2.2 (fun j => gl (j + 1)) = cwX0 (xE Γ).2.2.1 (xE Γ).2.2.2 g1 := cwX0_cg _ _ (fun j hj => by rw [hgl]; show (if j + 1 = 0 then _ else _) = _; rw [if_neg (by omega), if_pos (by omega), Nat.add_sub_cancel])
  have e4 : cwX1 (xE Γ).2.2.1 (xE Γ).2.2.2 (fun j => gl (j + 4)) = cwX1 (xE Γ).2.2.1 (xE Γ).2.2.2 g2 := cwX1_cg _ _ (fun j hj => by rw [hgl]; show (if j + 4 = 0 then _ else _) = _; rw [if_neg (by omega), if_neg (by omega), if_pos (by omega), Nat.add_sub_cancel])
  have e10 : cwX2 (xE Γ).2.2.1 (xE Γ).2.2.2 (fun j => gl (j + 10)) = cwX2 (xE Γ).2.2.1 (xE Γ).2.2.2 g3 := cwX2_cg _ _ (fun j hj => by rw [hgl]; show (if j + 10 = 0 then _ else _) = _; rw [if_neg (by omega), if_neg (by omega), if_neg (by omega), if_pos (by omega), Nat.add_sub_cancel])
  have e11 : cwX2 (xE Γ).2.2.1 (xE Γ).2.2.2 (fun j => gl (j + 11)) = cwX2 (xE Γ).2.2.1 (xE Γ).2.2.2 g4 := cwX2_cg _ _ (fun j hj => by rw [hgl]; show (if j + 11 = 0 then _ else _) = _; rw [if_neg (by omega), if_neg (by omega), if_neg (by omega), if_neg (by omega), if_pos (by omega), Nat.add_sub_cancel])
  have e12 : cwX2 (xE Γ).2.2.1 (xE Γ).2.2.2 (fun j => gl (j + 12)) = cwX2 (xE Γ).2.2.1 (xE Γ).2.2.2 g5 := cwX2_cg _ _ (fun j hj => by rw [hgl]; show (if j + 12 = 0 then _ else _) = _; rw [if_neg (by omega), if_neg (by omega), if_neg (by omega), if_neg (by omega), if_neg (by omega), if_pos (by omega), Nat.add_sub_cancel])
  have r1 : gl 1 = g1 0 := by rw [hgl]; rfl
  have r4 : gl 4 = g2 0 := by rw [hgl]; rfl
  have r10 : gl 10 = g3 0 := by rw [hgl]; rfl
  have r11 : gl 11 = g4 0 := by rw [hgl]; rfl
  have r12 : gl 12 = g5 0 := by rw [hgl]; rfl
  have r13 : gl 13 = a6 := by rw [hgl]; rfl
  have r0 : gl 0 = h0 := by rw [hgl]; rfl
  refine hret 67 _ _ gl dX3_init_67 r0 ?_
  unfold cwX3
  rw [e1, e4, e10, e11, e12, r0, r1, r4, r10, r11, r12, r13]
def cwX8 (cI cR : Nat) (q : Nat → Nat) : va_W := ((q 0, .inr (8, [.ref (q 1), .ref (q 2)])) : Nat × va_E) :: ((([] ++ [(q 1, .inl (cI, 64, .inl (fun _ => 0)))]) ++ [(q 2, .inl (cI, 2048, .inl (fun _ => 0)))]))
theorem cwX8_cg (cI cR : Nat) {q q' : Nat → Nat} (h : ∀ j, j < 3 → q j = q' j) : cwX8 cI cR q = cwX8 cI cR q' := by
  unfold cwX8
  rw [h 0 (by omega), h 1 (by omega), h 2 (by omega)]
set_option maxRecDepth 100000 in
set_option maxHeartbeats 400000 in
theorem kX8_init (l : Launch) (D : va_G) (cI cR : Nat) : KCt l D cI cR yX8_init cX8_init 1 1 [] 8 [.null, .null] (cwX8 cI cR) 2 2112 := by
  refine KCt_of (own := RX8) (by decide +kernel) rfl rfl (Nat.le_of_ble_eq_true rfl) ?_
  intro Γ h0 Q el eD eI eR hn C hin hmc hms hret
  subst el; subst eD; subst eI; subst eR
  have hroom : ∀ a b : Nat, a ≤ 2 → b ≤ 2112 → a ≤ (xR Γ).cells ∧ b ≤ (xR Γ).slots := fun a b h1 h2 => ⟨Nat.le_trans h1 hmc, Nat.le_trans h2 hms⟩
  refine k_aload_n C dX8_init_0 rfl 0 rfl ?_
  refine k_objInit C dX8_init_1 rfl (wm_5 19 rfl) (by decide) ?_
  refine k_aload_n C dX8_init_4 rfl 0 rfl ?_
  refine k_bipush (v := 64) C dX8_init_5 rfl (by decide) ?_
  refine k_newa1 (N := 64) C dX8_init_7 rfl (by decide) (by decide) (by decide) (hroom 1 64 (by decide) (by decide)) (fun a1 => ?_)
  refine k_putF1 (fs' := [.ref a1, .null]) C hin dX8_init_9 rfl ff_8_0 fl_X8_9 rfl rfl (Nat.le_of_ble_eq_true rfl) rfl ?_
  refine k_aload_n C dX8_init_12 rfl 0 rfl ?_
  refine k_sipush (v := 2048) C dX8_init_13 rfl (by decide) ?_
  refine k_newa1 (N := 2048) C dX8_init_16 rfl (by decide) (by decide) (by decide) (hroom 2 2112 (by decide) (by decide)) (fun a2 => ?_)
  refine k_putF1 (fs' := [.ref a1, .ref a2]) C hin dX8_init_18 rfl ff_8_1 fl_X8_15 rfl rfl (Nat.le_of_ble_eq_true rfl) rfl ?_
  exact hret 21 _ _ (fun j => if j = 0 then h0 else if j < 2 then a1 else if j < 3 then a2 else 0) dX8_init_21 rfl rfl
def cwX11 (cI cR : Nat) (q : Nat → Nat) : va_W := ((q 0, .inr (11, [.ref (q 1), .ref (q 2), .int 0, .int 100, .int 0, .int 20, .int 30, .int 4, .int 2, .int 0, .ref (q 3), .int 0, .ref (q 4), .ref (q 5), .ref (q 6), .ref (q 7), .ref (q 8), .ref (q 9), .int 0, .int 0, .ref (q 10), .int 0, .ref (q 11), .int 0, .int 0, .int 0, .int 0, .ref (q 12), .ref (q 13), .ref (q 14), .ref (q 15), .ref (q 16), .ref (q 17), .int 0, .int 0, .int 0, .null, .ref (q 18), .ref (q 19), .ref (q 20), .int 0, .int 0, .int 0, .int 0, .int 0, .int 0, .int 0, .int 0, .int 0, .int 0, .ref (q 21), .int 0, .int 0, .ref (q 22), .ref (q 23), .ref (q 24), .ref (q 25), .ref (q 26), .int 0])) : Nat × va_E) :: ((((((((((((((((((((((((((([] ++ [(q 1, .inl (cI, 8, .inl (fun _ => 0)))]) ++ [(q 2, .inl (cI, 8, .inl (fun _ => 0)))]) ++ [(q 3, .inl (cI, 6, .inl (fun _ => 0)))]) ++ [(q 4, .inl (cI, 8, .inl (fun _ => 0)))]) ++ [(q 5, .inl (cI, 8, .inl (fun _ => 0)))]) ++ [(q 6, .inl (cI, 8, .inl (fun _ => 0)))]) ++ [(q 7, .inl (cI, 8, .inl (fun _ => 0)))]) ++ [(q 8, .inl (cI, 8, .inl (fun _ => 0)))]) ++ [(q 9, .inl (cI, 64, .inl (fun _ => 0)))]) ++ [(q 10, .inl (cI, 7, .inl (fun _ => 0)))]) ++ [(q 11, .inl (cI, 96, .inl (fun _ => 0)))]) ++ [(q 12, .inl (cI, 49, .inl (fun _ => 0)))]) ++ [(q 13, .inl (cI, 49, .inl (fun _ => 0)))]) ++ [(q 14, .inl (cI, 441, .inl (fun _ => 0)))]) ++ [(q 15, .inl (cI, 49, .inl (fun _ => 0)))]) ++ [(q 16, .inl (cI, 138, .inl (fun _ => 0)))]) ++ [(q 17, .inl (cI, 138, .inl (fun _ => 0)))]) ++ [(q 18, .inl (cI, 14, .inl (fun _ => 0)))]) ++ [(q 19, .inl (cI, 112, .inl (fun _ => 0)))]) ++ [(q 20, .inl (cI, 14, .inl (fun _ => 0)))]) ++ [(q 21, .inl (cI, 14, .inl (fun _ => 0)))]) ++ [(q 22, .inl (cI, 8, .inl (fun _ => 0)))]) ++ [(q 23, .inl (cI, 6, .inl (fun _ => 0)))]) ++ [(q 24, .inl (cI, 64, .inl (fun _ => 0)))]) ++ [(q 25, .inl (cI, 2048, .inl (fun _ => 0)))]) ++ [(q 26, .inl (cI, 12, .inl (fun _ => 0)))]))
theorem cwX11_cg (cI cR : Nat) {q q' : Nat → Nat} (h : ∀ j, j < 27 → q j = q' j) : cwX11 cI cR q = cwX11 cI cR q' := by
  unfold cwX11
  rw [h 0 (by omega), h 1 (by omega), h 2 (by omega), h 3 (by omega), h 4 (by omega), h 5 (by omega), h 6 (by omega), h 7 (by omega), h 8 (by omega), h 9 (by omega), h 10 (by omega), h 11 (by omega), h 12 (by omega), h 13 (by omega), h 14 (by omega), h 15 (by omega), h 16 (by omega), h 17 (by omega), h 18 (by omega), h 19 (by omega), h 20 (by omega), h 21 (by omega), h 22 (by omega), h 23 (by omega), h 24 (by omega), h 25 (by omega), h 26 (by omega)]
set_option maxRecDepth 100000 in
set_option maxHeartbeats 400000 in
theorem kX11_init (l : Launch) (D : va_G) (cI cR : Nat) : KCt l D cI cR yX11_init cX11_init 1 1 [] 11 [.null, .null, .int 0, .int 0, .int 0, .int 0, .int 0, .int 0, .int 0, .int 0, .null, .int 0, .null, .null, .null, .null, .null, .null, .int 0, .int 0, .null, .int 0, .null, .int 0, .int 0, .int 0, .int 0, .null, .null, .null, .null, .null, .null, .int 0, .int 0, .int 0, .null, .null, .null, .null, .int 0, .int 0, .int 0, .int 0, .int 0, .int 0, .int 0, .int 0, .int 0, .int 0, .null, .int 0, .int 0, .null, .null, .null, .null, .null, .int 0] (cwX11 cI cR) 26 3385 := by
  refine KCt_of (own := RX11) (by decide +kernel) rfl rfl (Nat.le_of_ble_eq_true rfl) ?_
  intro Γ h0 Q el eD eI eR hn C hin hmc hms hret
  subst el; subst eD; subst eI; subst eR
  have hroom : ∀ a b : Nat, a ≤ 26 → b ≤ 3385 → a ≤ (xR Γ).cells ∧ b ≤ (xR Γ).slots := fun a b h1 h2 => ⟨Nat.le_trans h1 hmc, Nat.le_trans h2 hms⟩
  refine k_aload_n C dX11_init_0 rfl 0 rfl ?_
  refine k_objInit C dX11_init_1 rfl (wm_6 1 rfl) (by decide) ?_
  refine k_aload_n C dX11_init_4 rfl 0 rfl ?_
  refine k_bipush (v := 8) C dX11_init_5 rfl (by decide) ?_
  refine k_newa1 (N := 8) C dX11_init_7 rfl (by decide) (by decide) (by decide) (hroom 1 8 (by decide) (by decide)) (fun a1 => ?_)
  refine k_putF1 (fs' := [.ref a1, .null, .int 0, .int 0, .int 0, .int 0, .int 0, .int 0, .int 0, .int 0, .null, .int 0, .null, .null, .null, .null, .null, .null, .int 0, .int 0, .null, .int 0, .null, .int 0, .int 0, .int 0, .int 0, .null, .null, .null, .null, .null, .null, .int 0, .int 0, .int 0, .null, .null, .null, .null, .int 0, .int 0, .int 0, .int 0, .int 0, .int 0, .int 0, .int 0, .int 0, .int 0, .null, .int 0, .int 0, .null, .null, .null, .null, .null, .int 0]) C hin dX11_init_9 rfl ff_11_0 fl_X11_7 rfl rfl (Nat.le_of_ble_eq_true rfl) rfl ?_
  refine k_aload_n C dX11_init_12 rfl 0 rfl ?_
  refine k_bipush (v := 8) C dX11_init_13 rfl (by decide) ?_
  refine k_newa1 (N := 8) C dX11_init_15 rfl (by decide) (by decide) (by decide) (hroom 2 16 (by decide) (by decide)) (fun a2 => ?_)
  refine k_putF1 (fs' := [.ref a1, .ref a2, .int 0, .int 0, .int 0, .int 0, .int 0, .int 0, .int 0, .int 0, .null, .int 0, .null, .null, .null, .null, .null, .null, .int 0, .int 0, .null, .int 0, .null, .int 0, .int 0, .int 0, .int 0, .null, .null, .null, .null, .null, .null, .int 0, .int 0, .int 0, .null, .null, .null, .null, .int 0, .int 0, .int 0, .int 0, .int 0, .int 0, .int 0, .int 0, .int 0, .int 0, .null, .int 0, .int 0, .null, .null, .null, .null, .null, .int 0]) C hin dX11_init_17 rfl ff_11_1 fl_X11_13 rfl rfl (Nat.le_of_ble_eq_true rfl) rfl ?_
  refine k_aload_n C dX11_init_20 rfl 0 rfl ?_
  refine k_bipush (v := 100) C dX11_init_21 rfl (by decide) ?_
  refine k_putI1 (fs' := [.ref a1, .ref a2, .int 0, .int 100, .int 0, .int 0, .int 0, .int 0, .int 0, .int 0, .null, .int 0, .null, .null, .null, .null, .null, .null, .int 0, .int 0, .null, .int 0, .null, .int 0, .int 0, .int 0, .int 0, .null, .null, .null, .null, .null, .null, .int 0, .int 0, .int 0, .null, .null, .null, .null, .int 0, .int 0, .int 0, .int 0, .int 0, .int 0, .int 0, .int 0, .int 0, .int 0, .null, .int 0, .int 0, .null, .null, .null, .null, .null, .int 0]) C dX11_init_23 rfl fp_11_3 fl_X11_16 (Nat.le_of_ble_eq_true rfl) rfl ?_
  refine k_aload_n C dX11_init_26 rfl 0 rfl ?_
  refine k_bipush (v := 20) C dX11_init_27 rfl (by decide) ?_
  refine k_putI1 (fs' := [.ref a1, .ref a2, .int 0, .int 100, .int 0, .int 20, .int 0, .int 0, .int 0, .int 0, .null, .int 0, .null, .null, .null, .null, .null, .null, .int 0, .int 0, .null, .int 0, .null, .int 0, .int 0, .int 0, .int 0, .null, .null, .null, .null, .null, .null, .int 0, .int 0, .int 0, .null, .null, .null, .null, .int 0, .int 0, .int 0, .int 0, .int 0, .int 0, .int 0, .int 0, .int 0, .int 0, .null, .int 0, .int 0, .null, .null, .null, .null, .null, .int 0]) C dX11_init_29 rfl fp_11_5 fl_X11_20 (Nat.le_of_ble_eq_true rfl) rfl ?_
  refine k_aload_n C dX11_init_32 rfl 0 rfl ?_
  refine k_bipush (v := 30) C dX11_init_33 rfl (by decide) ?_
  refine k_putI1 (fs' := [.ref a1, .ref a2, .int 0, .int 100, .int 0, .int 20, .int 30, .int 0, .int 0, .int 0, .null, .int 0, .null, .null, .null, .null, .null, .null, .int 0, .int 0, .null, .int 0, .null, .int 0, .int 0, .int 0, .int 0, .null, .null, .null, .null, .null, .null, .int 0, .int 0, .int 0, .null, .null, .null, .null, .int 0, .int 0, .int 0, .int 0, .int 0, .int 0, .int 0, .int 0, .int 0, .int 0, .null, .int 0, .int 0, .null, .null, .null, .null, .null, .int 0]) C dX11_init_35 rfl fp_11_6 fl_X11_23 (Nat.le_of_ble_eq_true rfl) rfl ?_
  refine k_aload_n C dX11_init_38 rfl 0 rfl ?_
  refine k_iconst (v := 4) C dX11_init_39 rfl (by decide) ?_
  refine k_putI1 (fs' := [.ref a1, .ref a2, .int 0, .int 100, .int 0, .int 20, .int 30, .int 4, .int 0, .int 0, .null, .int 0, .null, .null, .null, .null, .null, .null, .int 0, .int 0, .null, .int 0, .null, .int 0, .int 0, .int 0, .int 0, .null, .null, .null, .null, .null, .null, .int 0, .int 0, .int 0, .null, .null, .null, .null, .int 0, .int 0, .int 0, .int 0, .int 0, .int 0, .int 0, .int 0, .int 0, .int 0, .null, .int 0, .int 0, .null, .null, .null, .null, .null, .int 0]) C dX11_init_40 rfl fp_11_7 fl_X11_26 (Nat.le_of_ble_eq_true rfl) rfl ?_
  refine k_aload_n C dX11_init_43 rfl 0 rfl ?_
  refine k_iconst (v := 2) C dX11_init_44 rfl (by decide) ?_
  refine k_putI1 (fs' := [.ref a1, .ref a2, .int 0, .int 100, .int 0, .int 20, .int 30, .int 4, .int 2, .int 0, .null, .int 0, .null, .null, .null, .null, .null, .null, .int 0, .int 0, .null, .int 0, .null, .int 0, .int 0, .int 0, .int 0, .null, .null, .null, .null, .null, .null, .int 0, .int 0, .int 0, .null, .null, .null, .null, .int 0, .int 0, .int 0, .int 0, .int 0, .int 0, .int 0, .int 0, .int 0, .int 0, .null, .int 0, .int 0, .null, .null, .null, .null, .null, .int 0]) C dX11_init_45 rfl fp_11_8 fl_X11_29 (Nat.le_of_ble_eq_true rfl) rfl ?_
  refine k_aload_n C dX11_init_48 rfl 0 rfl ?_
  refine k_bipush (v := 6) C dX11_init_49 rfl (by decide) ?_
  refine k_newa1 (N := 6) C dX11_init_51 rfl (by decide) (by decide) (by decide) (hroom 3 22 (by decide) (by decide)) (fun a3 => ?_)
  refine k_putF1 (fs' := [.ref a1, .ref a2, .int 0, .int 100, .int 0, .int 20, .int 30, .int 4, .int 2, .int 0, .ref a3, .int 0, .null, .null, .null, .null, .null, .null, .int 0, .int 0, .null, .int 0, .null, .int 0, .int 0, .int 0, .int 0, .null, .null, .null, .null, .null, .null, .int 0, .int 0, .int 0, .null, .null, .null, .null, .int 0, .int 0, .int 0, .int 0, .int 0, .int 0, .int 0, .int 0, .int 0, .int 0, .null, .int 0, .int 0, .null, .null, .null, .null, .null, .int 0]) C hin dX11_init_53 rfl ff_11_10 fl_X11_32 rfl rfl (Nat.le_of_ble_eq_true rfl) rfl ?_
  refine k_aload_n C dX11_init_56 rfl 0 rfl ?_
  refine k_bipush (v := 8) C dX11_init_57 rfl (by decide) ?_
  refine k_newa1 (N := 8) C dX11_init_59 rfl (by decide) (by decide) (by decide) (hroom 4 30 (by decide) (by decide)) (fun a4 => ?_)
  refine k_putF1 (fs' := [.ref a1, .ref a2, .int 0, .int 100, .int 0, .int 20, .int 30, .int 4, .int 2, .int 0, .ref a3, .int 0, .ref a4, .null, .null, .null, .null, .null, .int 0, .int 0, .null, .int 0, .null, .int 0, .int 0, .int 0, .int 0, .null, .null, .null, .null, .null, .null, .int 0, .int 0, .int 0, .null, .null, .null, .null, .int 0, .int 0, .int 0, .int 0, .int 0, .int 0, .int 0, .int 0, .int 0, .int 0, .null, .int 0, .int 0, .null, .null, .null, .null, .null, .int 0]) C hin dX11_init_61 rfl ff_11_12 fl_X11_35 rfl rfl (Nat.le_of_ble_eq_true rfl) rfl ?_
  refine k_aload_n C dX11_init_64 rfl 0 rfl ?_
  refine k_bipush (v := 8) C dX11_init_65 rfl (by decide) ?_
  refine k_newa1 (N := 8) C dX11_init_67 rfl (by decide) (by decide) (by decide) (hroom 5 38 (by decide) (by decide)) (fun a5 => ?_)
  refine k_putF1 (fs' := [.ref a1, .ref a2, .int 0, .int 100, .int 0, .int 20, .int 30, .int 4, .int 2, .int 0, .ref a3, .int 0, .ref a4, .ref a5, .null, .null, .null, .null, .int 0, .int 0, .null, .int 0, .null, .int 0, .int 0, .int 0, .int 0, .null, .null, .null, .null, .null, .null, .int 0, .int 0, .int 0, .null, .null, .null, .null, .int 0, .int 0, .int 0, .int 0, .int 0, .int 0, .int 0, .int 0, .int 0, .int 0, .null, .int 0, .int 0, .null, .null, .null, .null, .null, .int 0]) C hin dX11_init_69 rfl ff_11_13 fl_X11_38 rfl rfl (Nat.le_of_ble_eq_true rfl) rfl ?_
  refine k_aload_n C dX11_init_72 rfl 0 rfl ?_
  refine k_bipush (v := 8) C dX11_init_73 rfl (by decide) ?_
  refine k_newa1 (N := 8) C dX11_init_75 rfl (by decide) (by decide) (by decide) (hroom 6 46 (by decide) (by decide)) (fun a6 => ?_)
  refine k_putF1 (fs' := [.ref a1, .ref a2, .int 0, .int 100, .int 0, .int 20, .int 30, .int 4, .int 2, .int 0, .ref a3, .int 0, .ref a4, .ref a5, .ref a6, .null, .null, .null, .int 0, .int 0, .null, .int 0, .null, .int 0, .int 0, .int 0, .int 0, .null, .null, .null, .null, .null, .null, .int 0, .int 0, .int 0, .null, .null, .null, .null, .int 0, .int 0, .int 0, .int 0, .int 0, .int 0, .int 0, .int 0, .int 0, .int 0, .null, .int 0, .int 0, .null, .null, .null, .null, .null, .int 0]) C hin dX11_init_77 rfl ff_11_14 fl_X11_41 rfl rfl (Nat.le_of_ble_eq_true rfl) rfl ?_
  refine k_aload_n C dX11_init_80 rfl 0 rfl ?_
  refine k_bipush (v := 8) C dX11_init_81 rfl (by decide) ?_
  refine k_newa1 (N := 8) C dX11_init_83 rfl (by decide) (by decide) (by decide) (hroom 7 54 (by decide) (by decide)) (fun a7 => ?_)
  refine k_putF1 (fs' := [.ref a1, .ref a2, .int 0, .int 100, .int 0, .int 20, .int 30, .int 4, .int 2, .int 0, .ref a3, .int 0, .ref a4, .ref a5, .ref a6, .ref a7, .null, .null, .int 0, .int 0, .null, .int 0, .null, .int 0, .int 0, .int 0, .int 0, .null, .null, .null, .null, .null, .null, .int 0, .int 0, .int 0, .null, .null, .null, .null, .int 0, .int 0, .int 0, .int 0, .int 0, .int 0, .int 0, .int 0, .int 0, .int 0, .null, .int 0, .int 0, .null, .null, .null, .null, .null, .int 0]) C hin dX11_init_85 rfl ff_11_15 fl_X11_44 rfl rfl (Nat.le_of_ble_eq_true rfl) rfl ?_
  refine k_aload_n C dX11_init_88 rfl 0 rfl ?_
  refine k_bipush (v := 8) C dX11_init_89 rfl (by decide) ?_
  refine k_newa1 (N := 8) C dX11_init_91 rfl (by decide) (by decide) (by decide) (hroom 8 62 (by decide) (by decide)) (fun a8 => ?_)
  refine k_putF1 (fs' := [.ref a1, .ref a2, .int 0, .int 100, .int 0, .int 20, .int 30, .int 4, .int 2, .int 0, .ref a3, .int 0, .ref a4, .ref a5, .ref a6, .ref a7, .ref a8, .null, .int 0, .int 0, .null, .int 0, .null, .int 0, .int 0, .int 0, .int 0, .null, .null, .null, .null, .null, .null, .int 0, .int 0, .int 0, .null, .null, .null, .null, .int 0, .int 0, .int 0, .int 0, .int 0, .int 0, .int 0, .int 0, .int 0, .int 0, .null, .int 0, .int 0, .null, .null, .null, .null, .null, .int 0]) C hin dX11_init_93 rfl ff_11_16 fl_X11_47 rfl rfl (Nat.le_of_ble_eq_true rfl) rfl ?_
  refine k_aload_n C dX11_init_96 rfl 0 rfl ?_
  refine k_bipush (v := 64) C dX11_init_97 rfl (by decide) ?_
  refine k_newa1 (N := 64) C dX11_init_99 rfl (by decide) (by decide) (by decide) (hroom 9 126 (by decide) (by decide)) (fun a9 => ?_)
  refine k_putF1 (fs' := [.ref a1, .ref a2, .int 0, .int 100, .int 0, .int 20, .int 30, .int 4, .int 2, .int 0, .ref a3, .int 0, .ref a4, .ref a5, .ref a6, .ref a7, .ref a8, .ref a9, .int 0, .int 0, .null, .int 0, .null, .int 0, .int 0, .int 0, .int 0, .null, .null, .null, .null, .null, .null, .int 0, .int 0, .int 0, .null, .null, .null, .null, .int 0, .int 0, .int 0, .int 0, .int 0, .int 0, .int 0, .int 0, .int 0, .int 0, .null, .int 0, .int 0, .null, .null, .null, .null, .null, .int 0]) C hin dX11_init_101 rfl ff_11_17 fl_X11_50 rfl rfl (Nat.le_of_ble_eq_true rfl) rfl ?_
  refine k_aload_n C dX11_init_104 rfl 0 rfl ?_
  refine k_bipush (v := 7) C dX11_init_105 rfl (by decide) ?_
  refine k_newa1 (N := 7) C dX11_init_107 rfl (by decide) (by decide) (by decide) (hroom 10 133 (by decide) (by decide)) (fun a10 => ?_)
  refine k_putF1 (fs' := [.ref a1, .ref a2, .int 0, .int 100, .int 0, .int 20, .int 30, .int 4, .int 2, .int 0, .ref a3, .int 0, .ref a4, .ref a5, .ref a6, .ref a7, .ref a8, .ref a9, .int 0, .int 0, .ref a10, .int 0, .null, .int 0, .int 0, .int 0, .int 0, .null, .null, .null, .null, .null, .null, .int 0, .int 0, .int 0, .null, .null, .null, .null, .int 0, .int 0, .int 0, .int 0, .int 0, .int 0, .int 0, .int 0, .int 0, .int 0, .null, .int 0, .int 0, .null, .null, .null, .null, .null, .int 0]) C hin dX11_init_109 rfl ff_11_20 fl_X11_53 rfl rfl (Nat.le_of_ble_eq_true rfl) rfl ?_
  refine k_aload_n C dX11_init_112 rfl 0 rfl ?_
  refine k_bipush (v := 96) C dX11_init_113 rfl (by decide) ?_
  refine k_newa1 (N := 96) C dX11_init_115 rfl (by decide) (by decide) (by decide) (hroom 11 229 (by decide) (by decide)) (fun a11 => ?_)
  refine k_putF1 (fs' := [.ref a1, .ref a2, .int 0, .int 100, .int 0, .int 20, .int 30, .int 4, .int 2, .int 0, .ref a3, .int 0, .ref a4, .ref a5, .ref a6, .ref a7, .ref a8, .ref a9, .int 0, .int 0, .ref a10, .int 0, .ref a11, .int 0, .int 0, .int 0, .int 0, .null, .null, .null, .null, .null, .null, .int 0, .int 0, .int 0, .null, .null, .null, .null, .int 0, .int 0, .int 0, .int 0, .int 0, .int 0, .int 0, .int 0, .int 0, .int 0, .null, .int 0, .int 0, .null, .null, .null, .null, .null, .int 0]) C hin dX11_init_117 rfl ff_11_22 fl_X11_56 rfl rfl (Nat.le_of_ble_eq_true rfl) rfl ?_
  refine k_aload_n C dX11_init_120 rfl 0 rfl ?_
  refine k_bipush (v := 49) C dX11_init_121 rfl (by decide) ?_
  refine k_newa1 (N := 49) C dX11_init_123 rfl (by decide) (by decide) (by decide) (hroom 12 278 (by decide) (by decide)) (fun a12 => ?_)
  refine k_putF1 (fs' := [.ref a1, .ref a2, .int 0, .int 100, .int 0, .int 20, .int 30, .int 4, .int 2, .int 0, .ref a3, .int 0, .ref a4, .ref a5, .ref a6, .ref a7, .ref a8, .ref a9, .int 0, .int 0, .ref a10, .int 0, .ref a11, .int 0, .int 0, .int 0, .int 0, .ref a12, .null, .null, .null, .null, .null, .int 0, .int 0, .int 0, .null, .null, .null, .null, .int 0, .int 0, .int 0, .int 0, .int 0, .int 0, .int 0, .int 0, .int 0, .int 0, .null, .int 0, .int 0, .null, .null, .null, .null, .null, .int 0]) C hin dX11_init_125 rfl ff_11_27 fl_X11_59 rfl rfl (Nat.le_of_ble_eq_true rfl) rfl ?_
  refine k_aload_n C dX11_init_128 rfl 0 rfl ?_
  refine k_bipush (v := 49) C dX11_init_129 rfl (by decide) ?_
  refine k_newa1 (N := 49) C dX11_init_131 rfl (by decide) (by decide) (by decide) (hroom 13 327 (by decide) (by decide)) (fun a13 => ?_)
  refine k_putF1 (fs' := [.ref a1, .ref a2, .int 0, .int 100, .int 0, .int 20, .int 30, .int 4, .int 2, .int 0, .ref a3, .int 0, .ref a4, .ref a5, .ref a6, .ref a7, .ref a8, .ref a9, .int 0, .int 0, .ref a10, .int 0, .ref a11, .int 0, .int 0, .int 0, .int 0, .ref a12, .ref a13, .null, .null, .null, .null, .int 0, .int 0, .int 0, .null, .null, .null, .null, .int 0, .int 0, .int 0, .int 0, .int 0, .int 0, .int 0, .int 0, .int 0, .int 0, .null, .int 0, .int 0, .null, .null, .null, .null, .null, .int 0]) C hin dX11_init_133 rfl ff_11_28 fl_X11_62 rfl rfl (Nat.le_of_ble_eq_true rfl) rfl ?_
  refine k_aload_n C dX11_init_136 rfl 0 rfl ?_
  refine k_sipush (v := 441) C dX11_init_137 rfl (by decide) ?_
  refine k_newa1 (N := 441) C dX11_init_140 rfl (by decide) (by decide) (by decide) (hroom 14 768 (by decide) (by decide)) (fun a14 => ?_)
  refine k_putF1 (fs' := [.ref a1, .ref a2, .int 0, .int 100, .int 0, .int 20, .int 30, .int 4, .int 2, .int 0, .ref a3, .int 0, .ref a4, .ref a5, .ref a6, .ref a7, .ref a8, .ref a9, .int 0, .int 0, .ref a10, .int 0, .ref a11, .int 0, .int 0, .int 0, .int 0, .ref a12, .ref a13, .ref a14, .null, .null, .null, .int 0, .int 0, .int 0, .null, .null, .null, .null, .int 0, .int 0, .int 0, .int 0, .int 0, .int 0, .int 0, .int 0, .int 0, .int 0, .null, .int 0, .int 0, .null, .null, .null, .null, .null, .int 0]) C hin dX11_init_142 rfl ff_11_29 fl_X11_65 rfl rfl (Nat.le_of_ble_eq_true rfl) rfl ?_
  refine k_aload_n C dX11_init_145 rfl 0 rfl ?_
  refine k_bipush (v := 49) C dX11_init_146 rfl (by decide) ?_
  refine k_newa1 (N := 49) C dX11_init_148 rfl (by decide) (by decide) (by decide) (hroom 15 817 (by decide) (by decide)) (fun a15 => ?_)
  refine k_putF1 (fs' := [.ref a1, .ref a2, .int 0, .int 100, .int 0, .int 20, .int 30, .int 4, .int 2, .int 0, .ref a3, .int 0, .ref a4, .ref a5, .ref a6, .ref a7, .ref a8, .ref a9, .int 0, .int 0, .ref a10, .int 0, .ref a11, .int 0, .int 0, .int 0, .int 0, .ref a12, .ref a13, .ref a14, .ref a15, .null, .null, .int 0, .int 0, .int 0, .null, .null, .null, .null, .int 0, .int 0, .int 0, .int 0, .int 0, .int 0, .int 0, .int 0, .int 0, .int 0, .null, .int 0, .int 0, .null, .null, .null, .null, .null, .int 0]) C hin dX11_init_150 rfl ff_11_30 fl_X11_68 rfl rfl (Nat.le_of_ble_eq_true rfl) rfl ?_
  refine k_aload_n C dX11_init_153 rfl 0 rfl ?_
  refine k_sipush (v := 138) C dX11_init_154 rfl (by decide) ?_
  refine k_newa1 (N := 138) C dX11_init_157 rfl (by decide) (by decide) (by decide) (hroom 16 955 (by decide) (by decide)) (fun a16 => ?_)
  refine k_putF1 (fs' := [.ref a1, .ref a2, .int 0, .int 100, .int 0, .int 20, .int 30, .int 4, .int 2, .int 0, .ref a3, .int 0, .ref a4, .ref a5, .ref a6, .ref a7, .ref a8, .ref a9, .int 0, .int 0, .ref a10, .int 0, .ref a11, .int 0, .int 0, .int 0, .int 0, .ref a12, .ref a13, .ref a14, .ref a15, .ref a16, .null, .int 0, .int 0, .int 0, .null, .null, .null, .null, .int 0, .int 0, .int 0, .int 0, .int 0, .int 0, .int 0, .int 0, .int 0, .int 0, .null, .int 0, .int 0, .null, .null, .null, .null, .null, .int 0]) C hin dX11_init_159 rfl ff_11_31 fl_X11_71 rfl rfl (Nat.le_of_ble_eq_true rfl) rfl ?_
  refine k_aload_n C dX11_init_162 rfl 0 rfl ?_
  refine k_sipush (v := 138) C dX11_init_163 rfl (by decide) ?_
  refine k_newa1 (N := 138) C dX11_init_166 rfl (by decide) (by decide) (by decide) (hroom 17 1093 (by decide) (by decide)) (fun a17 => ?_)
  refine k_putF1 (fs' := [.ref a1, .ref a2, .int 0, .int 100, .int 0, .int 20, .int 30, .int 4, .int 2, .int 0, .ref a3, .int 0, .ref a4, .ref a5, .ref a6, .ref a7, .ref a8, .ref a9, .int 0, .int 0, .ref a10, .int 0, .ref a11, .int 0, .int 0, .int 0, .int 0, .ref a12, .ref a13, .ref a14, .ref a15, .ref a16, .ref a17, .int 0, .int 0, .int 0, .null, .null, .null, .null, .int 0, .int 0, .int 0, .int 0, .int 0, .int 0, .int 0, .int 0, .int 0, .int 0, .null, .int 0, .int 0, .null, .null, .null, .null, .null, .int 0]) C hin dX11_init_168 rfl ff_11_32 fl_X11_74 rfl rfl (Nat.le_of_ble_eq_true rfl) rfl ?_
  refine k_aload_n C dX11_init_171 rfl 0 rfl ?_
  refine k_bipush (v := 14) C dX11_init_172 rfl (by decide) ?_
  refine k_newa1 (N := 14) C dX11_init_174 rfl (by decide) (by decide) (by decide) (hroom 18 1107 (by decide) (by decide)) (fun a18 => ?_)
  refine k_putF1 (fs' := [.ref a1, .ref a2, .int 0, .int 100, .int 0, .int 20, .int 30, .int 4, .int 2, .int 0, .ref a3, .int 0, .ref a4, .ref a5, .ref a6, .ref a7, .ref a8, .ref a9, .int 0, .int 0, .ref a10, .int 0, .ref a11, .int 0, .int 0, .int 0, .int 0, .ref a12, .ref a13, .ref a14, .ref a15, .ref a16, .ref a17, .int 0, .int 0, .int 0, .null, .ref a18, .null, .null, .int 0, .int 0, .int 0, .int 0, .int 0, .int 0, .int 0, .int 0, .int 0, .int 0, .null, .int 0, .int 0, .null, .null, .null, .null, .null, .int 0]) C hin dX11_init_176 rfl ff_11_37 fl_X11_77 rfl rfl (Nat.le_of_ble_eq_true rfl) rfl ?_
  refine k_aload_n C dX11_init_179 rfl 0 rfl ?_
  refine k_bipush (v := 112) C dX11_init_180 rfl (by decide) ?_
  refine k_newa1 (N := 112) C dX11_init_182 rfl (by decide) (by decide) (by decide) (hroom 19 1219 (by decide) (by decide)) (fun a19 => ?_)
  refine k_putF1 (fs' := [.ref a1, .ref a2, .int 0, .int 100, .int 0, .int 20, .int 30, .int 4, .int 2, .int 0, .ref a3, .int 0, .ref a4, .ref a5, .ref a6, .ref a7, .ref a8, .ref a9, .int 0, .int 0, .ref a10, .int 0, .ref a11, .int 0, .int 0, .int 0, .int 0, .ref a12, .ref a13, .ref a14, .ref a15, .ref a16, .ref a17, .int 0, .int 0, .int 0, .null, .ref a18, .ref a19, .null, .int 0, .int 0, .int 0, .int 0, .int 0, .int 0, .int 0, .int 0, .int 0, .int 0, .null, .int 0, .int 0, .null, .null, .null, .null, .null, .int 0]) C hin dX11_init_184 rfl ff_11_38 fl_X11_80 rfl rfl (Nat.le_of_ble_eq_true rfl) rfl ?_
  refine k_aload_n C dX11_init_187 rfl 0 rfl ?_
  refine k_bipush (v := 14) C dX11_init_188 rfl (by decide) ?_
  refine k_newa1 (N := 14) C dX11_init_190 rfl (by decide) (by decide) (by decide) (hroom 20 1233 (by decide) (by decide)) (fun a20 => ?_)
  refine k_putF1 (fs' := [.ref a1, .ref a2, .int 0, .int 100, .int 0, .int 20, .int 30, .int 4, .int 2, .int 0, .ref a3, .int 0, .ref a4, .ref a5, .ref a6, .ref a7, .ref a8, .ref a9, .int 0, .int 0, .ref a10, .int 0, .ref a11, .int 0, .int 0, .int 0, .int 0, .ref a12, .ref a13, .ref a14, .ref a15, .ref a16, .ref a17, .int 0, .int 0, .int 0, .null, .ref a18, .ref a19, .ref a20, .int 0, .int 0, .int 0, .int 0, .int 0, .int 0, .int 0, .int 0, .int 0, .int 0, .null, .int 0, .int 0, .null, .null, .null, .null, .null, .int 0]) C hin dX11_init_192 rfl ff_11_39 fl_X11_83 rfl rfl (Nat.le_of_ble_eq_true rfl) rfl ?_
  refine k_aload_n C dX11_init_195 rfl 0 rfl ?_
  refine k_bipush (v := 14) C dX11_init_196 rfl (by decide) ?_
  refine k_newa1 (N := 14) C dX11_init_198 rfl (by decide) (by decide) (by decide) (hroom 21 1247 (by decide) (by decide)) (fun a21 => ?_)
  refine k_putF1 (fs' := [.ref a1, .ref a2, .int 0, .int 100, .int 0, .int 20, .int 30, .int 4, .int 2, .int 0, .ref a3, .int 0, .ref a4, .ref a5, .ref a6, .ref a7, .ref a8, .ref a9, .int 0, .int 0, .ref a10, .int 0, .ref a11, .int 0, .int 0, .int 0, .int 0, .ref a12, .ref a13, .ref a14, .ref a15, .ref a16, .ref a17, .int 0, .int 0, .int 0, .null, .ref a18, .ref a19, .ref a20, .int 0, .int 0, .int 0, .int 0, .int 0, .int 0, .int 0, .int 0, .int 0, .int 0, .ref a21, .int 0, .int 0, .null, .null, .null, .null, .null, .int 0]) C hin dX11_init_200 rfl ff_11_50 fl_X11_86 rfl rfl (Nat.le_of_ble_eq_true rfl) rfl ?_
  refine k_aload_n C dX11_init_203 rfl 0 rfl ?_
  refine k_bipush (v := 8) C dX11_init_204 rfl (by decide) ?_
  refine k_newa1 (N := 8) C dX11_init_206 rfl (by decide) (by decide) (by decide) (hroom 22 1255 (by decide) (by decide)) (fun a22 => ?_)
  refine k_putF1 (fs' := [.ref a1, .ref a2, .int 0, .int 100, .int 0, .int 20, .int 30, .int 4, .int 2, .int 0, .ref a3, .int 0, .ref a4, .ref a5, .ref a6, .ref a7, .ref a8, .ref a9, .int 0, .int 0, .ref a10, .int 0, .ref a11, .int 0, .int 0, .int 0, .int 0, .ref a12, .ref a13, .ref a14, .ref a15, .ref a16, .ref a17, .int 0, .int 0, .int 0, .null, .ref a18, .ref a19, .ref a20, .int 0, .int 0, .int 0, .int 0, .int 0, .int 0, .int 0, .int 0, .int 0, .int 0, .ref a21, .int 0, .int 0, .ref a22, .null, .null, .null, .null, .int 0]) C hin dX11_init_208 rfl ff_11_53 fl_X11_89 rfl rfl (Nat.le_of_ble_eq_true rfl) rfl ?_
  refine k_aload_n C dX11_init_211 rfl 0 rfl ?_
  refine k_bipush (v := 6) C dX11_init_212 rfl (by decide) ?_
  refine k_newa1 (N := 6) C dX11_init_214 rfl (by decide) (by decide) (by decide) (hroom 23 1261 (by decide) (by decide)) (fun a23 => ?_)
  refine k_putF1 (fs' := [.ref a1, .ref a2, .int 0, .int 100, .int 0, .int 20, .int 30, .int 4, .int 2, .int 0, .ref a3, .int 0, .ref a4, .ref a5, .ref a6, .ref a7, .ref a8, .ref a9, .int 0, .int 0, .ref a10, .int 0, .ref a11, .int 0, .int 0, .int 0, .int 0, .ref a12, .ref a13, .ref a14, .ref a15, .ref a16, .ref a17, .int 0, .int 0, .int 0, .null, .ref a18, .ref a19, .ref a20, .int 0, .int 0, .int 0, .int 0, .int 0, .int 0, .int 0, .int 0, .int 0, .int 0, .ref a21, .int 0, .int 0, .ref a22, .ref a23, .null, .null, .null, .int 0]) C hin dX11_init_216 rfl ff_11_54 fl_X11_92 rfl rfl (Nat.le_of_ble_eq_true rfl) rfl ?_
  refine k_aload_n C dX11_init_219 rfl 0 rfl ?_
  refine k_bipush (v := 64) C dX11_init_220 rfl (by decide) ?_
  refine k_newa1 (N := 64) C dX11_init_222 rfl (by decide) (by decide) (by decide) (hroom 24 1325 (by decide) (by decide)) (fun a24 => ?_)
  refine k_putF1 (fs' := [.ref a1, .ref a2, .int 0, .int 100, .int 0, .int 20, .int 30, .int 4, .int 2, .int 0, .ref a3, .int 0, .ref a4, .ref a5, .ref a6, .ref a7, .ref a8, .ref a9, .int 0, .int 0, .ref a10, .int 0, .ref a11, .int 0, .int 0, .int 0, .int 0, .ref a12, .ref a13, .ref a14, .ref a15, .ref a16, .ref a17, .int 0, .int 0, .int 0, .null, .ref a18, .ref a19, .ref a20, .int 0, .int 0, .int 0, .int 0, .int 0, .int 0, .int 0, .int 0, .int 0, .int 0, .ref a21, .int 0, .int 0, .ref a22, .ref a23, .ref a24, .null, .null, .int 0]) C hin dX11_init_224 rfl ff_11_55 fl_X11_95 rfl rfl (Nat.le_of_ble_eq_true rfl) rfl ?_
  refine k_aload_n C dX11_init_227 rfl 0 rfl ?_
  refine k_sipush (v := 2048) C dX11_init_228 rfl (by decide) ?_
  refine k_newa1 (N := 2048) C dX11_init_231 rfl (by decide) (by decide) (by decide) (hroom 25 3373 (by decide) (by decide)) (fun a25 => ?_)
  refine k_putF1 (fs' := [.ref a1, .ref a2, .int 0, .int 100, .int 0, .int 20, .int 30, .int 4, .int 2, .int 0, .ref a3, .int 0, .ref a4, .ref a5, .ref a6, .ref a7, .ref a8, .ref a9, .int 0, .int 0, .ref a10, .int 0, .ref a11, .int 0, .int 0, .int 0, .int 0, .ref a12, .ref a13, .ref a14, .ref a15, .ref a16, .ref a17, .int 0, .int 0, .int 0, .null, .ref a18, .ref a19, .ref a20, .int 0, .int 0, .int 0, .int 0, .int 0, .int 0, .int 0, .int 0, .int 0, .int 0, .ref a21, .int 0, .int 0, .ref a22, .ref a23, .ref a24, .ref a25, .null, .int 0]) C hin dX11_init_233 rfl ff_11_56 fl_X11_98 rfl rfl (Nat.le_of_ble_eq_true rfl) rfl ?_
  refine k_aload_n C dX11_init_236 rfl 0 rfl ?_
  refine k_bipush (v := 12) C dX11_init_237 rfl (by decide) ?_
  refine k_newa1 (N := 12) C dX11_init_239 rfl (by decide) (by decide) (by decide) (hroom 26 3385 (by decide) (by decide)) (fun a26 => ?_)
  refine k_putF1 (fs' := [.ref a1, .ref a2, .int 0, .int 100, .int 0, .int 20, .int 30, .int 4, .int 2, .int 0, .ref a3, .int 0, .ref a4, .ref a5, .ref a6, .ref a7, .ref a8, .ref a9, .int 0, .int 0, .ref a10, .int 0, .ref a11, .int 0, .int 0, .int 0, .int 0, .ref a12, .ref a13, .ref a14, .ref a15, .ref a16, .ref a17, .int 0, .int 0, .int 0, .null, .ref a18, .ref a19, .ref a20, .int 0, .int 0, .int 0, .int 0, .int 0, .int 0, .int 0, .int 0, .int 0, .int 0, .ref a21, .int 0, .int 0, .ref a22, .ref a23, .ref a24, .ref a25, .ref a26, .int 0]) C hin dX11_init_241 rfl ff_11_57 fl_X11_101 rfl rfl (Nat.le_of_ble_eq_true rfl) rfl ?_
  refine k_aload_n C dX11_init_244 rfl 0 rfl ?_
  refine k_iconst (v := 0) C dX11_init_245 rfl (by decide) ?_
  refine k_putI1 (fs' := [.ref a1, .ref a2, .int 0, .int 100, .int 0, .int 20, .int 30, .int 4, .int 2, .int 0, .ref a3, .int 0, .ref a4, .ref a5, .ref a6, .ref a7, .ref a8, .ref a9, .int 0, .int 0, .ref a10, .int 0, .ref a11, .int 0, .int 0, .int 0, .int 0, .ref a12, .ref a13, .ref a14, .ref a15, .ref a16, .ref a17, .int 0, .int 0, .int 0, .null, .ref a18, .ref a19, .ref a20, .int 0, .int 0, .int 0, .int 0, .int 0, .int 0, .int 0, .int 0, .int 0, .int 0, .ref a21, .int 0, .int 0, .ref a22, .ref a23, .ref a24, .ref a25, .ref a26, .int 0]) C dX11_init_246 rfl fp_11_19 fl_X11_104 (Nat.le_of_ble_eq_true rfl) rfl ?_
  exact hret 249 _ _ (fun j => if j = 0 then h0 else if j < 2 then a1 else if j < 3 then a2 else if j < 4 then a3 else if j < 5 then a4 else if j < 6 then a5 else if j < 7 then a6 else if j < 8 then a7 else if j < 9 then a8 else if j < 10 then a9 else if j < 11 then a10 else if j < 12 then a11 else if j < 13 then a12 else if j < 14 then a13 else if j < 15 then a14 else if j < 16 then a15 else if j < 17 then a16 else if j < 18 then a17 else if j < 19 then a18 else if j < 20 then a19 else if j < 21 then a20 else if j < 22 then a21 else if j < 23 then a22 else if j < 24 then a23 else if j < 25 then a24 else if j < 26 then a25 else if j < 27 then a26 else 0) dX11_init_249 rfl rfl
def cwX10 (cI cR : Nat) (q : Nat → Nat) : va_W := ((q 0, .inr (10, [.ref (q 1), .ref (q 14), .ref (q 27), .int 0, .ref (q 40), .ref (q 50), .ref (q 53), .ref (q 55), .ref (q 56), .ref (q 70)])) : Nat × va_E) :: (((((((((([] ++ cwX9 cI cR (fun j => q (j + 1))) ++ cwX9 cI cR (fun j => q (j + 14))) ++ cwX9 cI cR (fun j => q (j + 27))) ++ cwX4 cI cR (fun j => q (j + 40))) ++ cwX5 cI cR (fun j => q (j + 50))) ++ cwX7_12 cI cR (fun j => q (j + 53))) ++ [(q 55, .inl (cI, 7, .inl (fun _ => 0)))]) ++ cwX3 cI cR (fun j => q (j + 56))) ++ cwX8 cI cR (fun j => q (j + 70))))
theorem cwX10_cg (cI cR : Nat) {q q' : Nat → Nat} (h : ∀ j, j < 73 → q j = q' j) : cwX10 cI cR q = cwX10 cI cR q' := by
  unfold cwX10
  rw [h 0 (by omega), h 1 (by omega), h 14 (by omega), h 27 (by omega), h 40 (by omega), h 50 (by omega), h 53 (by omega), h 55 (by omega), h 56 (by omega), h 70 (by omega), cwX9_cg cI cR (q := fun j => q (j + 1)) (q' := fun j => q' (j + 1)) (fun j hj => h _ (by omega)), cwX9_cg cI cR (q := fun j => q (j + 14)) (q' := fun j => q' (j + 14)) (fun j hj => h _ (by omega)), cwX9_cg cI cR (q := fun j => q (j + 27)) (q' := fun j => q' (j + 27)) (fun j hj => h _ (by omega)), cwX4_cg cI cR (q := fun j => q (j + 40)) (q' := fun j => q' (j + 40)) (fun j hj => h _ (by omega)), cwX5_cg cI cR (q := fun j => q (j + 50)) (q' := fun j => q' (j + 50)) (fun j hj => h _ (by omega)), cwX7_12_cg cI cR (q := fun j => q (j + 53)) (q' := fun j => q' (j + 53)) (fun j hj => h _ (by omega)), cwX3_cg cI cR (q := fun j => q (j + 56)) (q' := fun j => q' (j + 56)) (fun j hj => h _ (by omega)), cwX8_cg cI cR (q := fun j => q (j + 70)) (q' := fun j => q' (j + 70)) (fun j hj => h _ (by omega))]
set_option maxRecDepth 100000 in
set_option maxHeartbeats 400000 in
theorem kX10_init (l : Launch) (D : va_G) (cI cR : Nat) : KCt l D cI cR yX10_init cX10_init 1 3 [] 10 [.null, .null, .null, .int 0, .null, .null, .null, .null, .null, .null] (cwX10 cI cR) 72 2875 := by
  refine KCt_of (own := RX10) (by decide +kernel) rfl rfl (Nat.le_of_ble_eq_true rfl) ?_
  intro Γ h0 Q el eD eI eR hn C hin hmc hms hret
  subst el; subst eD; subst eI; subst eR
  have hroom : ∀ a b : Nat, a ≤ 72 → b ≤ 2875 → a ≤ (xR Γ).cells ∧ b ≤ (xR Γ).slots := fun a b h1 h2 => ⟨Nat.le_trans h1 hmc, Nat.le_trans h2 hms⟩
  refine k_aload_n C dX10_init_0 rfl 0 rfl ?_
  refine k_objInit C dX10_init_1 rfl (wm_1 9 rfl) (by decide) ?_
  refine k_aload_n C dX10_init_4 rfl 0 rfl ?_
  refine k_new1 (ci := 9) (fs2 := [.null, .null, .null, .null]) C dX10_init_5 rfl ⟨(wm_1 12 rfl), (wm_1 13 rfl), (wm_1 14 rfl)⟩ ⟨rfl, inlX9⟩ tyX9 tyX9_ok (by intro j hj; match j, hj with | 0, _ => rfl | 1, _ => rfl | 2, _ => rfl | 3, _ => rfl | j + 4, hj => exact absurd hj (by omega)) (hroom 1 4 (by decide) (by decide)) (fun a1 => ?_)
  refine k_dup C dX10_init_8 rfl rfl ?_
  refine k_init1 C dX10_init_9 rfl (kX9_init _ _ _ _) cfi_9 (Or.inr ⟨_, List.mem_of_getElem? (i := 0) rfl⟩) rfl (by decide) (Nat.le_of_ble_eq_true rfl) rfl (hroom 13 144 (by decide) (by decide)) (fun g1 hg1 => ?_)
  subst hg1
  refine k_putF1 (fs' := [.ref (g1 0), .null, .null, .int 0, .null, .null, .null, .null, .null, .null]) C hin dX10_init_12 rfl ff_10_0 fl_X10_10 rfl rfl (Nat.le_of_ble_eq_true rfl) rfl ?_
  refine k_aload_n C dX10_init_15 rfl 0 rfl ?_
  refine k_new1 (ci := 9) (fs2 := [.null, .null, .null, .null]) C dX10_init_16 rfl ⟨(wm_1 12 rfl), (wm_1 13 rfl), (wm_1 14 rfl)⟩ ⟨rfl, inlX9⟩ tyX9 tyX9_ok (by intro j hj; match j, hj with | 0, _ => rfl | 1, _ => rfl | 2, _ => rfl | 3, _ => rfl | j + 4, hj => exact absurd hj (by omega)) (hroom 14 148 (by decide) (by decide)) (fun a2 => ?_)
  refine k_dup C dX10_init_19 rfl rfl ?_
  refine k_init1 C dX10_init_20 rfl (kX9_init _ _ _ _) cfi_9 (Or.inr ⟨_, List.mem_of_getElem? (i := 0) rfl⟩) rfl (by decide) (Nat.le_of_ble_eq_true rfl) rfl (hroom 26 288 (by decide) (by decide)) (fun g2 hg2 => ?_)
  subst hg2
  refine k_putF1 (fs' := [.ref (g1 0), .ref (g2 0), .null, .int 0, .null, .null, .null, .null, .null, .null]) C hin dX10_init_23 rfl ff_10_1 fl_X10_16 rfl rfl (Nat.le_of_ble_eq_true rfl) rfl ?_
  refine k_aload_n C dX10_init_26 rfl 0 rfl ?_
  refine k_new1 (ci := 9) (fs2 := [.null, .null, .null, .null]) C dX10_init_27 rfl ⟨(wm_1 12 rfl), (wm_1 13 rfl), (wm_1 14 rfl)⟩ ⟨rfl, inlX9⟩ tyX9 tyX9_ok (by intro j hj; match j, hj with | 0, _ => rfl | 1, _ => rfl | 2, _ => rfl | 3, _ => rfl | j + 4, hj => exact absurd hj (by omega)) (hroom 27 292 (by decide) (by decide)) (fun a3 => ?_)
  refine k_dup C dX10_init_30 rfl rfl ?_
  refine k_init1 C dX10_init_31 rfl (kX9_init _ _ _ _) cfi_9 (Or.inr ⟨_, List.mem_of_getElem? (i := 0) rfl⟩) rfl (by decide) (Nat.le_of_ble_eq_true rfl) rfl (hroom 39 432 (by decide) (by decide)) (fun g3 hg3 => ?_)
  subst hg3
  refine k_putF1 (fs' := [.ref (g1 0), .ref (g2 0), .ref (g3 0), .int 0, .null, .null, .null, .null, .null, .null]) C hin dX10_init_34 rfl ff_10_2 fl_X10_19 rfl rfl (Nat.le_of_ble_eq_true rfl) rfl ?_
  refine k_aload_n C dX10_init_37 rfl 0 rfl ?_
  refine k_new1 (ci := 4) (fs2 := [.int 0, .int 0, .null]) C dX10_init_38 rfl ⟨(wm_1 18 rfl), (wm_1 19 rfl), (wm_1 20 rfl)⟩ ⟨rfl, inlX4⟩ tyX4 tyX4_ok (by intro j hj; match j, hj with | 0, _ => rfl | 1, _ => rfl | 2, _ => rfl | j + 3, hj => exact absurd hj (by omega)) (hroom 40 435 (by decide) (by decide)) (fun a4 => ?_)
  refine k_dup C dX10_init_41 rfl rfl ?_
  refine k_init1 C dX10_init_42 rfl (kX4_init _ _ _ _) cfi_4 (Or.inl (wm_4 12 rfl)) rfl (by decide) (Nat.le_of_ble_eq_true rfl) rfl (hroom 49 523 (by decide) (by decide)) (fun g4 hg4 => ?_)
  subst hg4
  refine k_putF1 (fs' := [.ref (g1 0), .ref (g2 0), .ref (g3 0), .int 0, .ref (g4 0), .null, .null, .null, .null, .null]) C hin dX10_init_45 rfl ff_10_4 fl_X10_25 rfl rfl (Nat.le_of_ble_eq_true rfl) rfl ?_
  refine k_aload_n C dX10_init_48 rfl 0 rfl ?_
  refine k_new1 (ci := 5) (fs2 := [.null]) C dX10_init_49 rfl ⟨(wm_1 22 rfl), (wm_1 23 rfl), (wm_2 0 rfl)⟩ ⟨rfl, inlX5⟩ tyX5 tyX5_ok (by intro j hj; match j, hj with | 0, _ => rfl | j + 1, hj => exact absurd hj (by omega)) (hroom 50 524 (by decide) (by decide)) (fun a5 => ?_)
  refine k_dup C dX10_init_52 rfl rfl ?_
  refine k_init1 C dX10_init_53 rfl (kX5_init _ _ _ _) cfi_5 (Or.inr ⟨_, List.mem_of_getElem? (i := 1) rfl⟩) rfl (by decide) (Nat.le_of_ble_eq_true rfl) rfl (hroom 52 622 (by decide) (by decide)) (fun g5 hg5 => ?_)
  subst hg5
  refine k_putF1 (fs' := [.ref (g1 0), .ref (g2 0), .ref (g3 0), .int 0, .ref (g4 0), .ref (g5 0), .null, .null, .null, .null]) C hin dX10_init_56 rfl ff_10_5 fl_X10_32 rfl rfl (Nat.le_of_ble_eq_true rfl) rfl ?_
  refine k_aload_n C dX10_init_59 rfl 0 rfl ?_
  refine k_new1 (ci := 7) (fs2 := [.int 0, .null]) C dX10_init_60 rfl ⟨(wm_2 2 rfl), (wm_2 3 rfl), (wm_2 4 rfl)⟩ ⟨rfl, inlX7⟩ tyX7 tyX7_ok (by intro j hj; match j, hj with | 0, _ => rfl | 1, _ => rfl | j + 2, hj => exact absurd hj (by omega)) (hroom 53 624 (by decide) (by decide)) (fun a6 => ?_)
  refine k_dup C dX10_init_63 rfl rfl ?_
  refine k_bipush (v := 12) C dX10_init_64 rfl (by decide) ?_
  refine k_init1 C dX10_init_66 rfl (kX7_12_init _ _ _ _) cfi_7 (Or.inl (wm_5 4 rfl)) rfl (by decide) (Nat.le_of_ble_eq_true rfl) rfl (hroom 54 636 (by decide) (by decide)) (fun g6 hg6 => ?_)
  subst hg6
  refine k_putF1 (fs' := [.ref (g1 0), .ref (g2 0), .ref (g3 0), .int 0, .ref (g4 0), .ref (g5 0), .ref (g6 0), .null, .null, .null]) C hin dX10_init_69 rfl ff_10_6 fl_X10_41 rfl rfl (Nat.le_of_ble_eq_true rfl) rfl ?_
  refine k_aload_n C dX10_init_72 rfl 0 rfl ?_
  refine k_bipush (v := 7) C dX10_init_73 rfl (by decide) ?_
  refine k_newa1 (N := 7) C dX10_init_75 rfl (by decide) (by decide) (by decide) (hroom 55 643 (by decide) (by decide)) (fun a7 => ?_)
  refine k_putF1 (fs' := [.ref (g1 0), .ref (g2 0), .ref (g3 0), .int 0, .ref (g4 0), .ref (g5 0), .ref (g6 0), .ref a7, .null, .null]) C hin dX10_init_77 rfl ff_10_7 fl_X10_45 rfl rfl (Nat.le_of_ble_eq_true rfl) rfl ?_
  refine k_aload_n C dX10_init_80 rfl 0 rfl ?_
  refine k_new1 (ci := 3) (fs2 := [.null, .null, .null, .null, .int 0, .null, .int 0, .int 0, .int 0, .int 0, .int 0, .int 0, .int 0, .int 0, .int 0, .int 0, .int 0, .null]) C dX10_init_81 rfl ⟨(wm_2 8 rfl), (wm_2 9 rfl), (wm_2 10 rfl)⟩ ⟨rfl, inlX3⟩ tyX3 tyX3_ok (by intro j hj; match j, hj with | 0, _ => rfl | 1, _ => rfl | 2, _ => rfl | 3, _ => rfl | 4, _ => rfl | 5, _ => rfl | 6, _ => rfl | 7, _ => rfl | 8, _ => rfl | 9, _ => rfl | 10, _ => rfl | 11, _ => rfl | 12, _ => rfl | 13, _ => rfl | 14, _ => rfl | 15, _ => rfl | 16, _ => rfl | 17, _ => rfl | j + 18, hj => exact absurd hj (by omega)) (hroom 56 661 (by decide) (by decide)) (fun a8 => ?_)
  refine k_dup C dX10_init_84 rfl rfl ?_
  refine k_init1 C dX10_init_85 rfl (kX3_init _ _ _ _) cfi_3 (Or.inr ⟨_, List.mem_of_getElem? (i := 2) rfl⟩) rfl (by decide) (Nat.le_of_ble_eq_true rfl) rfl (hroom 69 761 (by decide) (by decide)) (fun g8 hg8 => ?_)
  subst hg8
  refine k_putF1 (fs' := [.ref (g1 0), .ref (g2 0), .ref (g3 0), .int 0, .ref (g4 0), .ref (g5 0), .ref (g6 0), .ref a7, .ref (g8 0), .null]) C hin dX10_init_88 rfl ff_10_8 fl_X10_52 rfl rfl (Nat.le_of_ble_eq_true rfl) rfl ?_
  refine k_aload_n C dX10_init_91 rfl 0 rfl ?_
  refine k_new1 (ci := 8) (fs2 := [.null, .null]) C dX10_init_92 rfl ⟨(wm_2 12 rfl), (wm_2 13 rfl), (wm_2 14 rfl)⟩ ⟨rfl, inlX8⟩ tyX8 tyX8_ok (by intro j hj; match j, hj with | 0, _ => rfl | 1, _ => rfl | j + 2, hj => exact absurd hj (by omega)) (hroom 70 763 (by decide) (by decide)) (fun a9 => ?_)
  refine k_dup C dX10_init_95 rfl rfl ?_
  refine k_init1 C dX10_init_96 rfl (kX8_init _ _ _ _) cfi_8 (Or.inr ⟨_, List.mem_of_getElem? (i := 3) rfl⟩) rfl (by decide) (Nat.le_of_ble_eq_true rfl) rfl (hroom 72 2875 (by decide) (by decide)) (fun g9 hg9 => ?_)
  subst hg9
  refine k_putF1 (fs' := [.ref (g1 0), .ref (g2 0), .ref (g3 0), .int 0, .ref (g4 0), .ref (g5 0), .ref (g6 0), .ref a7, .ref (g8 0), .ref (g9 0)]) C hin dX10_init_99 rfl ff_10_9 fl_X10_59 rfl rfl (Nat.le_of_ble_eq_true rfl) rfl ?_
  obtain ⟨gl, hgl⟩ : ∃ gl : Nat → Nat, gl = fun j => if j = 0 then h0 else if j < 14 then g1 (j - 1) else if j < 27 then g2 (j - 14) else if j < 40 then g3 (j - 27) else if j < 50 then g4 (j - 40) else if j < 53 then g5 (j - 50) else if j < 55 then g6 (j - 53) else if j < 56 then a7 else if j < 70 then g8 (j - 56) else if j < 73 then g9 (j - 70) else 0 := ⟨_, rfl⟩
  have e1 : cwX9 (xE Γ).2.2.1 (xE Γ).2.2.2 (fun j => gl (j + 1)) = cwX9 (xE Γ).2.2.1 (xE Γ).2.2.2 g1 := cwX9_cg _ _ (fun j hj => by rw [hgl]; show (if j + 1 = 0 then _ else _) = _; rw [if_neg (by omega), if_pos (by omega), Nat.add_sub_cancel])
  have e14 : cwX9 (xE Γ).2.2.1 (xE Γ).2.2.2 (fun j => gl (j + 14)) = cwX9 (xE Γ).2.2.1 (xE Γ).2.2.2 g2 := cwX9_cg _ _ (fun j hj => by rw [hgl]; show (if j + 14 = 0 then _ else _) = _; rw [if_neg (by omega), if_neg (by omega), if_pos (by omega), Nat.add_sub_cancel])
  have e27 : cwX9 (xE Γ).2.2.1 (xE Γ).2.2.2 (fun j => gl (j + 27)) = cwX9 (xE Γ).2.2.1 (xE Γ).2.2.2 g3 := cwX9_cg _ _ (fun j hj => by rw [hgl]; show (if j + 27 = 0 then _ else _) = _; rw [if_neg (by omega), if_neg (by omega), if_neg (by omega), if_pos (by omega), Nat.add_sub_cancel])
  have e40 : cwX4 (xE Γ).2.2.1 (xE Γ).2.2.2 (fun j => gl (j + 40)) = cwX4 (xE Γ).2.2.1 (xE Γ).2.2.2 g4 := cwX4_cg _ _ (fun j hj => by rw [hgl]; show (if j + 40 = 0 then _ else _) = _; rw [if_neg (by omega), if_neg (by omega), if_neg (by omega), if_neg (by omega), if_pos (by omega), Nat.add_sub_cancel])
  have e50 : cwX5 (xE Γ).2.2.1 (xE Γ).2.2.2 (fun j => gl (j + 50)) = cwX5 (xE Γ).2.2.1 (xE Γ).2.2.2 g5 := cwX5_cg _ _ (fun j hj => by rw [hgl]; show (if j + 50 = 0 then _ else _) = _; rw [if_neg (by omega), if_neg (by omega), if_neg (by omega), if_neg (by omega), if_neg (by omega), if_pos (by omega), Nat.add_sub_cancel])
  have e53 : cwX7_12 (xE Γ).2.2.1 (xE Γ).2.2.2 (fun j => gl (j + 53)) = cwX7_12 (xE Γ).2.2.1 (xE Γ).2.2.2 g6 := cwX7_12_cg _ _ (fun j hj => by rw [hgl]; show (if j + 53 = 0 then _ else _) = _; rw [if_neg (by omega), if_neg (by omega), if_neg (by omega), if_neg (by omega), if_neg (by omega), if_neg (by omega), if_pos (by omega), Nat.add_sub_cancel])
  have e56 : cwX3 (xE Γ).2.2.1 (xE Γ).2.2.2 (fun j => gl (j + 56)) = cwX3 (xE Γ).2.2.1 (xE Γ).2.2.2 g8 := cwX3_cg _ _ (fun j hj => by rw [hgl]; show (if j + 56 = 0 then _ else _) = _; rw [if_neg (by omega), if_neg (by omega), if_neg (by omega), if_neg (by omega), if_neg (by omega), if_neg (by omega), if_neg (by omega), if_neg (by omega), if_pos (by omega), Nat.add_sub_cancel])
  have e70 : cwX8 (xE Γ).2.2.1 (xE Γ).2.2.2 (fun j => gl (j + 70)) = cwX8 (xE Γ).2.2.1 (xE Γ).2.2.2 g9 := cwX8_cg _ _ (fun j hj => by rw [hgl]; show (if j + 70 = 0 then _ else _) = _; rw [if_neg (by omega), if_neg (by omega), if_neg (by omega), if_neg (by omega), if_neg (by omega), if_neg (by omega), if_neg (by omega), if_neg (by omega), if_neg (by omega), if_pos (by omega), Nat.add_sub_cancel])
  have r1 : gl 1 = g1 0 := by rw [hgl]; rfl
  have r14 : gl 14 = g2 0 := by rw [hgl]; rfl
  have r27 : gl 27 = g3 0 := by rw [hgl]; rfl
  have r40 : gl 40 = g4 0 := by rw [hgl]; rfl
  have r50 : gl 50 = g5 0 := by rw [hgl]; rfl
  have r53 : gl 53 = g6 0 := by rw [hgl]; rfl
  have r55 : gl 55 = a7 := by rw [hgl]; rfl
  have r56 : gl 56 = g8 0 := by rw [hgl]; rfl
  have r70 : gl 70 = g9 0 := by rw [hgl]; rfl
  have r0 : gl 0 = h0 := by rw [hgl]; rfl
  refine hret 102 _ _ gl dX10_init_102 r0 ?_
  unfold cwX10
  rw [e1, e14, e27, e40, e50, e53, e56, e70, r0, r1, r14, r27, r40, r50, r53, r55, r56, r70]
