/-- the script -/
def Scr (Γ : GX) (b L : Nat) (xs : Nat → Int32) : Prop := va_X b L xs (Γ.2.2.1.2.2.2.2.1) (Γ.2.2.1.2.2.2.2.1).heap ∧ b < (Γ.2.2.1.2.2.2.2.1).heap.size ∧ ¬ xA Γ b
def Lx (Γ : GX) (b : Nat) : Prop := xn Γ = 4 ∧ xR Γ = room_1 ∧ xa Γ = #[Value.ref b] ∧ (xt Γ).sig.returnType = ret ∧ (xt Γ).locks = false ∧ xk Γ = 600000 ∧ xw Γ = 7302250 ∧ xA Γ = fun q => (Γ.2.2.1.2.2.2.2.1).heap.size ≤ q
def QL (Γ : GX) (b : Nat) : Int32 → State → Prop := fun _ => lw_Z (xb Γ) #[Value.ref b] (Γ.2.2.1.2.2.2.2.1)
section LAWR
variable {X : Type} {Γ : GX} {QF : X → State → Prop} {own : String} {cc : ByteArray} {d pc pc0 b L : Nat} {sc : Nat → Int32} {ls : List (Nat × Value)} {rest : List Value} {u : Mm} {o : Option X}
theorem g_sld {i : Int32} (C : Cx Γ own cc d) (S : Scr Γ b L sc) (hd : decode cc pc = .ok (.iaload, 1)) (hp : pc0 = pc) (hi : ix i L) (h : Gp Γ QF (pc + 1) ls (.int (sc (ixn i)) :: rest) u o) : Gp Γ QF pc0 ls (.int i :: .ref b :: rest) u o := by
  subst hp
  exact fun r hr H locs la hP hS hl => va_sld C.exec C.bytes S.1 S.2.1 S.2.2 hS (vp_in_iff.mpr hi) hd (h r hr H locs la hP hS hl)
theorem g_slen (C : Cx Γ own cc d) (S : Scr Γ b L sc) (hd : decode cc pc = .ok (.arraylength, 1)) (hp : pc0 = pc) (h : Gp Γ QF (pc + 1) ls (.int (nI L) :: rest) u o) : Gp Γ QF pc0 ls (.ref b :: rest) u o := by
  subst hp
  exact fun r hr H locs la hP hS hl => va_slen C.exec C.bytes S.1 S.2.1 S.2.2 hS hd (h r hr H locs la hP hS hl)
theorem g_lawret {y : Int32} (C : Cx Γ own code d) (Z : Lx Γ b) (hd : decode code pc = .ok (.ireturn, 1)) (hp : pc0 = pc) : Gp Γ (QL Γ b) pc0 ls [.int 1] u (some y) := by
  subst hp
  intro r hr H locs la hP hS hl
  obtain ⟨E, A, ⟨p, l, e, R, s, m, args, below, meth, c⟩, k, w, n⟩ := Γ
  obtain ⟨-, h2, h3, h4, h5, h6, h7, h8⟩ := Z
  dsimp only at h2 h3 h4 h5 h6 h7 h8
  subst h2; subst h3; subst h6; subst h7; subst h8
  exact va_forget (fun q hq => hS.2.2 q hq) (lw_ret C.exec C.bytes h4 h5 hd)
end LAWR
def bJ {X : Type} (g : Option (Int64 × Mm)) (f : Int64 → Mm → Option X) : Option X := g.bind (fun q => f q.1 q.2)
theorem g_callJ {X : Type} {Γ : GX} {QF : X → State → Prop} {own : String} {cc : ByteArray} {d pc pc0 : Nat} {ls : List (Nat × Value)} {rest st0 : List Value} {u : Mm} {y : MethodName} {b : ByteArray} {ml n nA idx : Nat} {ret : Option FieldType} {k c : Nat} {Cn : String} {T : u_T} {N : Nat} {g : Option (Int64 × Mm)} {f : Int64 → Mm → Option X} (As : List Value) (C : Cx Γ own cc d) (hd : decode cc pc = .ok (.invokevirtual idx, 3)) (hp : pc0 = pc) (hC : Ct (xl Γ) (xE Γ) y b ml ret n (.ref ((xE Γ).1 k) :: As) u cvJ g) (cf : CFv y b ml ret Cn nA) (hk : kd k = c + 3) (hc : vwCl[c]? = some (Cn, T, N)) (hw : Cond.methodLink own idx y ∈ wsL_law) (hn : As.length = nA) (hdd : n + 1 ≤ d) (hst : (rest.map fun v => v.category).sum ≤ 8) (hs : st0 = As.reverse ++ .ref ((xE Γ).1 k) :: rest) (h : ∀ (r : Int64) (u1 : Mm), Gp Γ QF (pc + 3) ls (.long r :: rest) u1 (f r u1)) : Gp Γ QF pc0 ls st0 u (bJ g f) :=
  g_call C hd hp hC cf hk hc hw hn hdd hst hs (fun q => h q.1 q.2)
theorem ml_L_13 : Cond.methodLink RL 13 yX10_feed ∈ wsL_law := wm_7 10 rfl
theorem ml_L_17 : Cond.methodLink RL 17 yX11_feed ∈ wsL_law := wm_8 4 rfl
theorem ml_L_18 : Cond.methodLink RL 18 yX10_land ∈ wsL_law := wm_8 13 rfl
theorem ml_L_22 : Cond.methodLink RL 22 yX11_land ∈ wsL_law := wm_15 16 rfl
theorem ml_L_23 : Cond.methodLink RL 23 yX10_layer ∈ wsL_law := wm_20 2 rfl
theorem ml_L_27 : Cond.methodLink RL 27 yX11_layer ∈ wsL_law := wm_20 11 rfl
theorem ml_L_28 : Cond.methodLink RL 28 yX10_wind ∈ wsL_law := wm_20 16 rfl
theorem ml_L_32 : Cond.methodLink RL 32 yX11_wind ∈ wsL_law := wm_20 21 rfl
theorem ml_L_33 : Cond.methodLink RL 33 yX10_field ∈ wsL_law := wm_21 1 rfl
theorem ml_L_36 : Cond.methodLink RL 36 yX11_field ∈ wsL_law := wm_21 15 rfl
theorem ml_L_37 : Cond.methodLink RL 37 yX10_cost ∈ wsL_law := wm_22 0 rfl
theorem ml_L_40 : Cond.methodLink RL 40 yX11_cost ∈ wsL_law := wm_22 21 rfl
theorem ml_L_41 : Cond.methodLink RL 41 yX10_drag ∈ wsL_law := wm_23 15 rfl
theorem ml_L_44 : Cond.methodLink RL 44 yX11_drag ∈ wsL_law := wm_23 19 rfl
theorem ml_L_45 : Cond.methodLink RL 45 yX10_set ∈ wsL_law := wm_23 23 rfl
theorem ml_L_48 : Cond.methodLink RL 48 yX11_set ∈ wsL_law := wm_24 22 rfl
theorem ml_L_49 : Cond.methodLink RL 49 yX10_rising ∈ wsL_law := wm_25 6 rfl
theorem ml_L_52 : Cond.methodLink RL 52 yX11_rising ∈ wsL_law := wm_25 11 rfl
theorem ml_L_53 : Cond.methodLink RL 53 yX10_go ∈ wsL_law := wm_25 15 rfl
theorem ml_L_56 : Cond.methodLink RL 56 yX11_go ∈ wsL_law := wm_26 12 rfl
theorem ml_L_57 : Cond.methodLink RL 57 yX10_back ∈ wsL_law := wm_26 21 rfl
theorem ml_L_60 : Cond.methodLink RL 60 yX11_back ∈ wsL_law := wm_27 7 rfl
theorem ml_L_61 : Cond.methodLink RL 61 yX10_plan ∈ wsL_law := wm_27 11 rfl
theorem ml_L_64 : Cond.methodLink RL 64 yX11_plan ∈ wsL_law := wm_30 4 rfl
theorem ml_L_65 : Cond.methodLink RL 65 yX10_had ∈ wsL_law := wm_31 18 rfl
theorem ml_L_68 : Cond.methodLink RL 68 yX11_had ∈ wsL_law := wm_32 9 rfl
theorem ml_L_69 : Cond.methodLink RL 69 yX10_best ∈ wsL_law := wm_32 20 rfl
theorem ml_L_72 : Cond.methodLink RL 72 yX11_best ∈ wsL_law := wm_33 9 rfl
theorem ml_L_73 : Cond.methodLink RL 73 yX10_left ∈ wsL_law := wm_33 20 rfl
theorem ml_L_76 : Cond.methodLink RL 76 yX11_left ∈ wsL_law := wm_34 4 rfl
theorem ml_L_77 : Cond.methodLink RL 77 yX10_keep ∈ wsL_law := wm_34 8 rfl
theorem ml_L_80 : Cond.methodLink RL 80 yX11_keep ∈ wsL_law := wm_35 1 rfl
theorem ml_L_81 : Cond.methodLink RL 81 yX10_goingOn ∈ wsL_law := wm_35 5 rfl
theorem ml_L_84 : Cond.methodLink RL 84 yX11_goingOn ∈ wsL_law := wm_35 13 rfl
theorem ml_L_85 : Cond.methodLink RL 85 yX10_blown ∈ wsL_law := wm_35 17 rfl
theorem ml_L_88 : Cond.methodLink RL 88 yX11_blown ∈ wsL_law := wm_36 7 rfl
theorem ml_L_89 : Cond.methodLink RL 89 yX10_two ∈ wsL_law := wm_36 11 rfl
theorem ml_L_92 : Cond.methodLink RL 92 yX11_two ∈ wsL_law := wm_37 0 rfl
theorem ml_L_93 : Cond.methodLink RL 93 yX10_swing ∈ wsL_law := wm_37 8 rfl
theorem ml_L_96 : Cond.methodLink RL 96 yX11_swing ∈ wsL_law := wm_38 6 rfl
theorem ml_L_97 : Cond.methodLink RL 97 yX10_calm ∈ wsL_law := wm_38 16 rfl
theorem ml_L_100 : Cond.methodLink RL 100 yX11_calm ∈ wsL_law := wm_38 20 rfl
theorem ml_L_101 : Cond.methodLink RL 101 yX10_out ∈ wsL_law := wm_39 0 rfl
theorem ml_L_104 : Cond.methodLink RL 104 yX11_out ∈ wsL_law := wm_39 8 rfl
theorem ml_L_105 : Cond.methodLink RL 105 yX10_road ∈ wsL_law := wm_39 12 rfl
theorem ml_L_108 : Cond.methodLink RL 108 yX11_road ∈ wsL_law := wm_39 23 rfl
theorem ml_L_109 : Cond.methodLink RL 109 yX10_car ∈ wsL_law := wm_40 3 rfl
theorem ml_L_112 : Cond.methodLink RL 112 yX11_car ∈ wsL_law := wm_40 8 rfl
theorem ml_L_113 : Cond.methodLink RL 113 yX10_drive ∈ wsL_law := wm_40 12 rfl
theorem ml_L_116 : Cond.methodLink RL 116 yX11_drive ∈ wsL_law := wm_41 14 rfl
theorem ml_L_117 : Cond.methodLink RL 117 yX10_waitAt ∈ wsL_law := wm_41 23 rfl
theorem ml_L_120 : Cond.methodLink RL 120 yX11_waitAt ∈ wsL_law := wm_42 13 rfl
theorem ml_L_121 : Cond.methodLink RL 121 yX10_meanWait ∈ wsL_law := wm_43 2 rfl
theorem ml_L_125 : Cond.methodLink RL 125 yX11_meanWait ∈ wsL_law := wm_43 16 rfl
theorem ml_L_126 : Cond.methodLink RL 126 yX10_turned ∈ wsL_law := wm_44 0 rfl
theorem ml_L_129 : Cond.methodLink RL 129 yX11_turned ∈ wsL_law := wm_44 10 rfl
theorem ml_L_130 : Cond.methodLink RL 130 yX10_track ∈ wsL_law := wm_44 14 rfl
theorem ml_L_133 : Cond.methodLink RL 133 yX11_track ∈ wsL_law := wm_45 8 rfl
theorem ml_L_134 : Cond.methodLink RL 134 yX10_row ∈ wsL_law := wm_45 16 rfl
theorem ml_L_137 : Cond.methodLink RL 137 yX11_row ∈ wsL_law := wm_45 20 rfl
theorem ml_L_138 : Cond.methodLink RL 138 yX10_judge ∈ wsL_law := wm_46 0 rfl
theorem ml_L_141 : Cond.methodLink RL 141 yX11_judge ∈ wsL_law := wm_46 10 rfl
theorem ml_L_142 : Cond.methodLink RL 142 yX10_clear ∈ wsL_law := wm_46 14 rfl
theorem ml_L_145 : Cond.methodLink RL 145 yX11_clear ∈ wsL_law := wm_46 18 rfl
theorem ml_L_146 : Cond.methodLink RL 146 yX10_lots ∈ wsL_law := wm_46 22 rfl
theorem ml_L_149 : Cond.methodLink RL 149 yX11_lots ∈ wsL_law := wm_47 18 rfl
theorem ml_L_150 : Cond.methodLink RL 150 yX10_crew ∈ wsL_law := wm_48 1 rfl
theorem ml_L_153 : Cond.methodLink RL 153 yX11_crew ∈ wsL_law := wm_48 9 rfl
theorem ml_L_154 : Cond.methodLink RL 154 yX10_whichLag ∈ wsL_law := wm_48 13 rfl
theorem ml_L_157 : Cond.methodLink RL 157 yX11_whichLag ∈ wsL_law := wm_48 22 rfl
theorem ml_L_158 : Cond.methodLink RL 158 yX10_windFor ∈ wsL_law := wm_49 2 rfl
theorem ml_L_162 : Cond.methodLink RL 162 yX11_windFor ∈ wsL_law := wm_49 16 rfl
theorem ml_L_163 : Cond.methodLink RL 163 yX10_span ∈ wsL_law := wm_50 0 rfl
theorem ml_L_166 : Cond.methodLink RL 166 yX11_span ∈ wsL_law := wm_50 4 rfl
theorem ml_L_167 : Cond.methodLink RL 167 yX10_flown ∈ wsL_law := wm_50 8 rfl
theorem ml_L_170 : Cond.methodLink RL 170 yX11_flown ∈ wsL_law := wm_50 17 rfl
theorem ml_L_171 : Cond.methodLink RL 171 yX10_ceiling ∈ wsL_law := wm_50 21 rfl
theorem ml_L_174 : Cond.methodLink RL 174 yX11_ceiling ∈ wsL_law := wm_51 9 rfl
theorem ml_L_175 : Cond.methodLink RL 175 yX10_game ∈ wsL_law := wm_51 13 rfl
theorem ml_L_178 : Cond.methodLink RL 178 yX11_game ∈ wsL_law := wm_52 19 rfl
theorem ml_L_179 : Cond.methodLink RL 179 yX10_another ∈ wsL_law := wm_53 15 rfl
theorem ml_L_182 : Cond.methodLink RL 182 yX11_another ∈ wsL_law := wm_53 20 rfl
theorem ml_L_183 : Cond.methodLink RL 183 yX10_chase ∈ wsL_law := wm_54 0 rfl
theorem ml_L_186 : Cond.methodLink RL 186 yX11_chase ∈ wsL_law := wm_54 8 rfl
theorem ml_L_187 : Cond.methodLink RL 187 yX10_tour ∈ wsL_law := wm_54 16 rfl
theorem ml_L_190 : Cond.methodLink RL 190 yX11_tour ∈ wsL_law := wm_55 21 rfl
theorem ml_L_191 : Cond.methodLink RL 191 yX10_twoCars ∈ wsL_law := wm_56 9 rfl
theorem ml_L_194 : Cond.methodLink RL 194 yX11_twoCars ∈ wsL_law := wm_56 13 rfl
theorem ml_L_195 : Cond.methodLink RL 195 yX10_image ∈ wsL_law := wm_56 17 rfl
theorem ml_L_198 : Cond.methodLink RL 198 yX11_image ∈ wsL_law := wm_56 22 rfl
theorem ml_L_199 : Cond.methodLink RL 199 yX10_restore ∈ wsL_law := wm_57 3 rfl
theorem ml_L_202 : Cond.methodLink RL 202 yX11_restore ∈ wsL_law := wm_57 7 rfl
theorem ml_L_203 : Cond.methodLink RL 203 yX10_count ∈ wsL_law := wm_57 11 rfl
theorem ml_L_206 : Cond.methodLink RL 206 yX11_count ∈ wsL_law := wm_57 16 rfl
def gL_law_18_Ls (L : Nat) (xs : Nat → Int32) (j18 : Int32 → Mm → Option Int32) (v3 : Int32) (u : Mm) : Option Int32 :=
  if ((nI L) - 5) < v3 then
  (some 1)
  else
  (gd (ix v3 L) <|
   if ((xs (ixn v3)) &&& 63) = 0 then
   (gd (ix (v3 + 1) L) <|
    bI (gX10_feed (xs (ixn (v3 + 1))) u) fun (r6 : Int32) (u5 : Mm) =>
    gd (ix (v3 + 1) L) <|
    bI (gX11_feed (xs (ixn (v3 + 1))) u5) fun (r9 : Int32) (u8 : Mm) =>
    if r6 = r9 then
    (letv (v3 + 5) fun (v3_11 : Int32) =>
     j18 v3_11 u8)
    else
    (none))
   else if ((xs (ixn v3)) &&& 63) = 1 then
   (bI (gX10_land u) fun (r14 : Int32) (u13 : Mm) =>
    bI (gX11_land u13) fun (r16 : Int32) (u15 : Mm) =>
    if r14 = r16 then
    (letv (v3 + 5) fun (v3_18 : Int32) =>
     j18 v3_18 u15)
    else
    (none))
   else if ((xs (ixn v3)) &&& 63) = 2 then
   (gd (ix (v3 + 1) L) <|
    gd (ix (v3 + 2) L) <|
    bI (gX10_layer (xs (ixn (v3 + 1))) (xs (ixn (v3 + 2))) u) fun (r23 : Int32) (u22 : Mm) =>
    gd (ix (v3 + 1) L) <|
    gd (ix (v3 + 2) L) <|
    bI (gX11_layer (xs (ixn (v3 + 1))) (xs (ixn (v3 + 2))) u22) fun (r27 : Int32) (u26 : Mm) =>
    if r23 = r27 then
    (letv (v3 + 5) fun (v3_29 : Int32) =>
     j18 v3_29 u26)
    else
    (none))
   else if ((xs (ixn v3)) &&& 63) = 3 then
   (gd (ix (v3 + 1) L) <|
    gd (ix (v3 + 2) L) <|
    gd (ix (v3 + 3) L) <|
    bI (gX10_wind (xs (ixn (v3 + 1))) (xs (ixn (v3 + 2))) (xs (ixn (v3 + 3))) u) fun (r35 : Int32) (u34 : Mm) =>
    gd (ix (v3 + 1) L) <|
    gd (ix (v3 + 2) L) <|
    gd (ix (v3 + 3) L) <|
    bI (gX11_wind (xs (ixn (v3 + 1))) (xs (ixn (v3 + 2))) (xs (ixn (v3 + 3))) u34) fun (r40 : Int32) (u39 : Mm) =>
    if r35 = r40 then
    (letv (v3 + 5) fun (v3_42 : Int32) =>
     j18 v3_42 u39)
    else
    (none))
   else if ((xs (ixn v3)) &&& 63) = 4 then
   (gd (ix (v3 + 1) L) <|
    gd (ix (v3 + 2) L) <|
    bI (gX10_field (xs (ixn (v3 + 1))) (xs (ixn (v3 + 2))) u) fun (r47 : Int32) (u46 : Mm) =>
    gd (ix (v3 + 1) L) <|
    gd (ix (v3 + 2) L) <|
    bI (gX11_field (xs (ixn (v3 + 1))) (xs (ixn (v3 + 2))) u46) fun (r51 : Int32) (u50 : Mm) =>
    if r47 = r51 then
    (letv (v3 + 5) fun (v3_53 : Int32) =>
     j18 v3_53 u50)
    else
    (none))
   else if ((xs (ixn v3)) &&& 63) = 5 then
   (gd (ix (v3 + 1) L) <|
    gd (ix (v3 + 2) L) <|
    bI (gX10_cost (xs (ixn (v3 + 1))) (xs (ixn (v3 + 2))) u) fun (r58 : Int32) (u57 : Mm) =>
    gd (ix (v3 + 1) L) <|
    gd (ix (v3 + 2) L) <|
    bI (gX11_cost (xs (ixn (v3 + 1))) (xs (ixn (v3 + 2))) u57) fun (r62 : Int32) (u61 : Mm) =>
    if r58 = r62 then
    (letv (v3 + 5) fun (v3_64 : Int32) =>
     j18 v3_64 u61)
    else
    (none))
   else if ((xs (ixn v3)) &&& 63) = 6 then
   (gd (ix (v3 + 1) L) <|
    bI (gX10_drag (xs (ixn (v3 + 1))) u) fun (r68 : Int32) (u67 : Mm) =>
    gd (ix (v3 + 1) L) <|
    bI (gX11_drag (xs (ixn (v3 + 1))) u67) fun (r71 : Int32) (u70 : Mm) =>
    if r68 = r71 then
    (letv (v3 + 5) fun (v3_73 : Int32) =>
     j18 v3_73 u70)
    else
    (none))
   else if ((xs (ixn v3)) &&& 63) = 7 then
   (gd (ix (v3 + 1) L) <|
    gd (ix (v3 + 2) L) <|
    bI (gX10_set (xs (ixn (v3 + 1))) (xs (ixn (v3 + 2))) u) fun (r78 : Int32) (u77 : Mm) =>
    gd (ix (v3 + 1) L) <|
    gd (ix (v3 + 2) L) <|
    bI (gX11_set (xs (ixn (v3 + 1))) (xs (ixn (v3 + 2))) u77) fun (r82 : Int32) (u81 : Mm) =>
    if r78 = r82 then
    (letv (v3 + 5) fun (v3_84 : Int32) =>
     j18 v3_84 u81)
    else
    (none))
   else if ((xs (ixn v3)) &&& 63) = 8 then
   ((gX10_rising u).bind fun (r86 : Int32) =>
    bI (gX11_rising u) fun (r88 : Int32) (u87 : Mm) =>
    if r86 = r88 then
    (letv (v3 + 5) fun (v3_90 : Int32) =>
     j18 v3_90 u87)
    else
    (none))
   else if ((xs (ixn v3)) &&& 63) = 9 then
   (gd (ix (v3 + 1) L) <|
    bI (gX10_go (xs (ixn (v3 + 1))) u) fun (r94 : Int32) (u93 : Mm) =>
    gd (ix (v3 + 1) L) <|
    bI (gX11_go (xs (ixn (v3 + 1))) u93) fun (r97 : Int32) (u96 : Mm) =>
    if r94 = r97 then
    (letv (v3 + 5) fun (v3_99 : Int32) =>
     j18 v3_99 u96)
    else
    (none))
   else if ((xs (ixn v3)) &&& 63) = 10 then
   (bI (gX10_back u) fun (r102 : Int32) (u101 : Mm) =>
    bI (gX11_back u101) fun (r104 : Int32) (u103 : Mm) =>
    if r102 = r104 then
    (letv (v3 + 5) fun (v3_106 : Int32) =>
     j18 v3_106 u103)
    else
    (none))
   else if ((xs (ixn v3)) &&& 63) = 11 then
   (gd (ix (v3 + 1) L) <|
    gd (ix (v3 + 2) L) <|
    gd (ix (v3 + 3) L) <|
    bI (gX10_plan (xs (ixn (v3 + 1))) (xs (ixn (v3 + 2))) (xs (ixn (v3 + 3))) u) fun (r112 : Int32) (u111 : Mm) =>
    gd (ix (v3 + 1) L) <|
    gd (ix (v3 + 2) L) <|
    gd (ix (v3 + 3) L) <|
    bI (gX11_plan (xs (ixn (v3 + 1))) (xs (ixn (v3 + 2))) (xs (ixn (v3 + 3))) u111) fun (r117 : Int32) (u116 : Mm) =>
    if r112 = r117 then
    (letv (v3 + 5) fun (v3_119 : Int32) =>
     j18 v3_119 u116)
    else
    (none))
   else if ((xs (ixn v3)) &&& 63) = 12 then
   (gd (ix (v3 + 1) L) <|
    gd (ix (v3 + 2) L) <|
    bI (gX10_had (xs (ixn (v3 + 1))) (xs (ixn (v3 + 2))) u) fun (r124 : Int32) (u123 : Mm) =>
    gd (ix (v3 + 1) L) <|
    gd (ix (v3 + 2) L) <|
    bI (gX11_had (xs (ixn (v3 + 1))) (xs (ixn (v3 + 2))) u123) fun (r128 : Int32) (u127 : Mm) =>
    if r124 = r128 then
    (letv (v3 + 5) fun (v3_130 : Int32) =>
     j18 v3_130 u127)
    else
    (none))
   else if ((xs (ixn v3)) &&& 63) = 13 then
   (gd (ix (v3 + 1) L) <|
    bI (gX10_best (xs (ixn (v3 + 1))) u) fun (r134 : Int32) (u133 : Mm) =>
    gd (ix (v3 + 1) L) <|
    bI (gX11_best (xs (ixn (v3 + 1))) u133) fun (r137 : Int32) (u136 : Mm) =>
    if r134 = r137 then
    (letv (v3 + 5) fun (v3_139 : Int32) =>
     j18 v3_139 u136)
    else
    (none))
   else if ((xs (ixn v3)) &&& 63) = 14 then
   (bI (gX10_left u) fun (r142 : Int32) (u141 : Mm) =>
    bI (gX11_left u141) fun (r144 : Int32) (u143 : Mm) =>
    if r142 = r144 then
    (letv (v3 + 5) fun (v3_146 : Int32) =>
     j18 v3_146 u143)
    else
    (none))
   else if ((xs (ixn v3)) &&& 63) = 15 then
   (gd (ix (v3 + 1) L) <|
    bI (gX10_keep (xs (ixn (v3 + 1))) u) fun (r150 : Int32) (u149 : Mm) =>
    gd (ix (v3 + 1) L) <|
    bI (gX11_keep (xs (ixn (v3 + 1))) u149) fun (r153 : Int32) (u152 : Mm) =>
    if r150 = r153 then
    (letv (v3 + 5) fun (v3_155 : Int32) =>
     j18 v3_155 u152)
    else
    (none))
   else if ((xs (ixn v3)) &&& 63) = 16 then
   (gd (ix (v3 + 1) L) <|
    bI (gX10_goingOn (xs (ixn (v3 + 1))) u) fun (r159 : Int32) (u158 : Mm) =>
    gd (ix (v3 + 1) L) <|
    bI (gX11_goingOn (xs (ixn (v3 + 1))) u158) fun (r162 : Int32) (u161 : Mm) =>
    if r159 = r162 then
    (letv (v3 + 5) fun (v3_164 : Int32) =>
     j18 v3_164 u161)
    else
    (none))
   else if ((xs (ixn v3)) &&& 63) = 17 then
   (gd (ix (v3 + 1) L) <|
    bI (gX10_blown (xs (ixn (v3 + 1))) u) fun (r168 : Int32) (u167 : Mm) =>
    gd (ix (v3 + 1) L) <|
    bI (gX11_blown (xs (ixn (v3 + 1))) u167) fun (r171 : Int32) (u170 : Mm) =>
    if r168 = r171 then
    (letv (v3 + 5) fun (v3_173 : Int32) =>
     j18 v3_173 u170)
    else
    (none))
   else if ((xs (ixn v3)) &&& 63) = 18 then
   (gd (ix (v3 + 1) L) <|
    gd (ix (v3 + 2) L) <|
    gd (ix (v3 + 3) L) <|
    bI (gX10_two (xs (ixn (v3 + 1))) (xs (ixn (v3 + 2))) (xs (ixn (v3 + 3))) u) fun (r179 : Int32) (u178 : Mm) =>
    gd (ix (v3 + 1) L) <|
    gd (ix (v3 + 2) L) <|
    gd (ix (v3 + 3) L) <|
    bI (gX11_two (xs (ixn (v3 + 1))) (xs (ixn (v3 + 2))) (xs (ixn (v3 + 3))) u178) fun (r184 : Int32) (u183 : Mm) =>
    if r179 = r184 then
    (letv (v3 + 5) fun (v3_186 : Int32) =>
     j18 v3_186 u183)
    else
    (none))
   else if ((xs (ixn v3)) &&& 63) = 19 then
   (gd (ix (v3 + 1) L) <|
    bI (gX10_swing (xs (ixn (v3 + 1))) u) fun (r190 : Int32) (u189 : Mm) =>
    gd (ix (v3 + 1) L) <|
    bI (gX11_swing (xs (ixn (v3 + 1))) u189) fun (r193 : Int32) (u192 : Mm) =>
    if r190 = r193 then
    (letv (v3 + 5) fun (v3_195 : Int32) =>
     j18 v3_195 u192)
    else
    (none))
   else if ((xs (ixn v3)) &&& 63) = 20 then
   (bI (gX10_calm u) fun (r198 : Int32) (u197 : Mm) =>
    bI (gX11_calm u197) fun (r200 : Int32) (u199 : Mm) =>
    if r198 = r200 then
    (letv (v3 + 5) fun (v3_202 : Int32) =>
     j18 v3_202 u199)
    else
    (none))
   else if ((xs (ixn v3)) &&& 63) = 21 then
   ((gX10_out u).bind fun (r204 : Int32) =>
    bI (gX11_out u) fun (r206 : Int32) (u205 : Mm) =>
    if r204 = r206 then
    (letv (v3 + 5) fun (v3_208 : Int32) =>
     j18 v3_208 u205)
    else
    (none))
   else if ((xs (ixn v3)) &&& 63) = 22 then
   (gd (ix (v3 + 1) L) <|
    gd (ix (v3 + 2) L) <|
    gd (ix (v3 + 3) L) <|
    bI (gX10_road (xs (ixn (v3 + 1))) (xs (ixn (v3 + 2))) (xs (ixn (v3 + 3))) u) fun (r214 : Int32) (u213 : Mm) =>
    gd (ix (v3 + 1) L) <|
    gd (ix (v3 + 2) L) <|
    gd (ix (v3 + 3) L) <|
    bI (gX11_road (xs (ixn (v3 + 1))) (xs (ixn (v3 + 2))) (xs (ixn (v3 + 3))) u213) fun (r219 : Int32) (u218 : Mm) =>
    if r214 = r219 then
    (letv (v3 + 5) fun (v3_221 : Int32) =>
     j18 v3_221 u218)
    else
    (none))
   else if ((xs (ixn v3)) &&& 63) = 23 then
   (gd (ix (v3 + 1) L) <|
    bI (gX10_car (xs (ixn (v3 + 1))) u) fun (r225 : Int32) (u224 : Mm) =>
    gd (ix (v3 + 1) L) <|
    bI (gX11_car (xs (ixn (v3 + 1))) u224) fun (r228 : Int32) (u227 : Mm) =>
    if r225 = r228 then
    (letv (v3 + 5) fun (v3_230 : Int32) =>
     j18 v3_230 u227)
    else
    (none))
   else if ((xs (ixn v3)) &&& 63) = 24 then
   (gd (ix (v3 + 1) L) <|
    bI (gX10_drive (xs (ixn (v3 + 1))) u) fun (r234 : Int32) (u233 : Mm) =>
    gd (ix (v3 + 1) L) <|
    bI (gX11_drive (xs (ixn (v3 + 1))) u233) fun (r237 : Int32) (u236 : Mm) =>
    if r234 = r237 then
    (letv (v3 + 5) fun (v3_239 : Int32) =>
     j18 v3_239 u236)
    else
    (none))
   else if ((xs (ixn v3)) &&& 63) = 25 then
   (bI (gX10_waitAt u) fun (r242 : Int32) (u241 : Mm) =>
    bI (gX11_waitAt u241) fun (r244 : Int32) (u243 : Mm) =>
    if r242 = r244 then
    (letv (v3 + 5) fun (v3_246 : Int32) =>
     j18 v3_246 u243)
    else
    (none))
   else if ((xs (ixn v3)) &&& 63) = 26 then
   (gd (ix (v3 + 1) L) <|
    bJ (gX10_meanWait (xs (ixn (v3 + 1))) u) fun (r250 : Int64) (u249 : Mm) =>
    gd (ix (v3 + 1) L) <|
    bJ (gX11_meanWait (xs (ixn (v3 + 1))) u249) fun (r253 : Int64) (u252 : Mm) =>
    if (lg_cmp r250 r253) = 0 then
    (letv (v3 + 5) fun (v3_255 : Int32) =>
     j18 v3_255 u252)
    else
    (none))
   else if ((xs (ixn v3)) &&& 63) = 27 then
   (gd (ix (v3 + 1) L) <|
    gd (ix (v3 + 2) L) <|
    bI (gX10_turned (xs (ixn (v3 + 1))) (xs (ixn (v3 + 2))) u) fun (r260 : Int32) (u259 : Mm) =>
    gd (ix (v3 + 1) L) <|
    gd (ix (v3 + 2) L) <|
    bI (gX11_turned (xs (ixn (v3 + 1))) (xs (ixn (v3 + 2))) u259) fun (r264 : Int32) (u263 : Mm) =>
    if r260 = r264 then
    (letv (v3 + 5) fun (v3_266 : Int32) =>
     j18 v3_266 u263)
    else
    (none))
   else if ((xs (ixn v3)) &&& 63) = 28 then
   (gd (ix (v3 + 1) L) <|
    bI (gX10_track (xs (ixn (v3 + 1))) u) fun (r270 : Int32) (u269 : Mm) =>
    gd (ix (v3 + 1) L) <|
    bI (gX11_track (xs (ixn (v3 + 1))) u269) fun (r273 : Int32) (u272 : Mm) =>
    if r270 = r273 then
    (letv (v3 + 5) fun (v3_275 : Int32) =>
     j18 v3_275 u272)
    else
    (none))
   else if ((xs (ixn v3)) &&& 63) = 29 then
   (gd (ix (v3 + 1) L) <|
    bI (gX10_row (xs (ixn (v3 + 1))) u) fun (r279 : Int32) (u278 : Mm) =>
    gd (ix (v3 + 1) L) <|
    bI (gX11_row (xs (ixn (v3 + 1))) u278) fun (r282 : Int32) (u281 : Mm) =>
    if r279 = r282 then
    (letv (v3 + 5) fun (v3_284 : Int32) =>
     j18 v3_284 u281)
    else
    (none))
   else if ((xs (ixn v3)) &&& 63) = 30 then
   (bI (gX10_judge u) fun (r287 : Int32) (u286 : Mm) =>
    bI (gX11_judge u286) fun (r289 : Int32) (u288 : Mm) =>
    if r287 = r289 then
    (letv (v3 + 5) fun (v3_291 : Int32) =>
     j18 v3_291 u288)
    else
    (none))
   else if ((xs (ixn v3)) &&& 63) = 31 then
   (bI (gX10_clear u) fun (r294 : Int32) (u293 : Mm) =>
    bI (gX11_clear u293) fun (r296 : Int32) (u295 : Mm) =>
    if r294 = r296 then
    (letv (v3 + 5) fun (v3_298 : Int32) =>
     j18 v3_298 u295)
    else
    (none))
   else if ((xs (ixn v3)) &&& 63) = 32 then
   (gd (ix (v3 + 1) L) <|
    gd (ix (v3 + 2) L) <|
    gd (ix (v3 + 3) L) <|
    bI (gX10_lots (xs (ixn (v3 + 1))) (xs (ixn (v3 + 2))) (xs (ixn (v3 + 3))) u) fun (r304 : Int32) (u303 : Mm) =>
    gd (ix (v3 + 1) L) <|
    gd (ix (v3 + 2) L) <|
    gd (ix (v3 + 3) L) <|
    bI (gX11_lots (xs (ixn (v3 + 1))) (xs (ixn (v3 + 2))) (xs (ixn (v3 + 3))) u303) fun (r309 : Int32) (u308 : Mm) =>
    if r304 = r309 then
    (letv (v3 + 5) fun (v3_311 : Int32) =>
     j18 v3_311 u308)
    else
    (none))
   else if ((xs (ixn v3)) &&& 63) = 33 then
   (gd (ix (v3 + 1) L) <|
    bI (gX10_crew (xs (ixn (v3 + 1))) u) fun (r315 : Int32) (u314 : Mm) =>
    gd (ix (v3 + 1) L) <|
    bI (gX11_crew (xs (ixn (v3 + 1))) u314) fun (r318 : Int32) (u317 : Mm) =>
    if r315 = r318 then
    (letv (v3 + 5) fun (v3_320 : Int32) =>
     j18 v3_320 u317)
    else
    (none))
   else if ((xs (ixn v3)) &&& 63) = 34 then
   (bI (gX10_whichLag u) fun (r323 : Int32) (u322 : Mm) =>
    bI (gX11_whichLag u322) fun (r325 : Int32) (u324 : Mm) =>
    if r323 = r325 then
    (letv (v3 + 5) fun (v3_327 : Int32) =>
     j18 v3_327 u324)
    else
    (none))
   else if ((xs (ixn v3)) &&& 63) = 35 then
   (gd (ix (v3 + 1) L) <|
    gd (ix (v3 + 2) L) <|
    gd (ix (v3 + 3) L) <|
    gd (ix (v3 + 4) L) <|
    bI (gX10_windFor (xs (ixn (v3 + 1))) (xs (ixn (v3 + 2))) (xs (ixn (v3 + 3))) (xs (ixn (v3 + 4))) u) fun (r334 : Int32) (u333 : Mm) =>
    gd (ix (v3 + 1) L) <|
    gd (ix (v3 + 2) L) <|
    gd (ix (v3 + 3) L) <|
    gd (ix (v3 + 4) L) <|
    bI (gX11_windFor (xs (ixn (v3 + 1))) (xs (ixn (v3 + 2))) (xs (ixn (v3 + 3))) (xs (ixn (v3 + 4))) u333) fun (r340 : Int32) (u339 : Mm) =>
    if r334 = r340 then
    (letv (v3 + 5) fun (v3_342 : Int32) =>
     j18 v3_342 u339)
    else
    (none))
   else if ((xs (ixn v3)) &&& 63) = 36 then
   (gd (ix (v3 + 1) L) <|
    gd (ix (v3 + 2) L) <|
    gd (ix (v3 + 3) L) <|
    bI (gX10_span (xs (ixn (v3 + 1))) (xs (ixn (v3 + 2))) (xs (ixn (v3 + 3))) u) fun (r348 : Int32) (u347 : Mm) =>
    gd (ix (v3 + 1) L) <|
    gd (ix (v3 + 2) L) <|
    gd (ix (v3 + 3) L) <|
    bI (gX11_span (xs (ixn (v3 + 1))) (xs (ixn (v3 + 2))) (xs (ixn (v3 + 3))) u347) fun (r353 : Int32) (u352 : Mm) =>
    if r348 = r353 then
    (letv (v3 + 5) fun (v3_355 : Int32) =>
     j18 v3_355 u352)
    else
    (none))
   else if ((xs (ixn v3)) &&& 63) = 37 then
   (gd (ix (v3 + 1) L) <|
    bI (gX10_flown (xs (ixn (v3 + 1))) u) fun (r359 : Int32) (u358 : Mm) =>
    gd (ix (v3 + 1) L) <|
    bI (gX11_flown (xs (ixn (v3 + 1))) u358) fun (r362 : Int32) (u361 : Mm) =>
    if r359 = r362 then
    (letv (v3 + 5) fun (v3_364 : Int32) =>
     j18 v3_364 u361)
    else
    (none))
   else if ((xs (ixn v3)) &&& 63) = 38 then
   (gd (ix (v3 + 1) L) <|
    bI (gX10_ceiling (xs (ixn (v3 + 1))) u) fun (r368 : Int32) (u367 : Mm) =>
    gd (ix (v3 + 1) L) <|
    bI (gX11_ceiling (xs (ixn (v3 + 1))) u367) fun (r371 : Int32) (u370 : Mm) =>
    if r368 = r371 then
    (letv (v3 + 5) fun (v3_373 : Int32) =>
     j18 v3_373 u370)
    else
    (none))
   else if ((xs (ixn v3)) &&& 63) = 39 then
   (gd (ix (v3 + 1) L) <|
    bI (gX10_game (xs (ixn (v3 + 1))) u) fun (r377 : Int32) (u376 : Mm) =>
    gd (ix (v3 + 1) L) <|
    bI (gX11_game (xs (ixn (v3 + 1))) u376) fun (r380 : Int32) (u379 : Mm) =>
    if r377 = r380 then
    (letv (v3 + 5) fun (v3_382 : Int32) =>
     j18 v3_382 u379)
    else
    (none))
   else if ((xs (ixn v3)) &&& 63) = 40 then
   (gd (ix (v3 + 1) L) <|
    gd (ix (v3 + 2) L) <|
    gd (ix (v3 + 3) L) <|
    bI (gX10_another (xs (ixn (v3 + 1))) (xs (ixn (v3 + 2))) (xs (ixn (v3 + 3))) u) fun (r388 : Int32) (u387 : Mm) =>
    gd (ix (v3 + 1) L) <|
    gd (ix (v3 + 2) L) <|
    gd (ix (v3 + 3) L) <|
    bI (gX11_another (xs (ixn (v3 + 1))) (xs (ixn (v3 + 2))) (xs (ixn (v3 + 3))) u387) fun (r393 : Int32) (u392 : Mm) =>
    if r388 = r393 then
    (letv (v3 + 5) fun (v3_395 : Int32) =>
     j18 v3_395 u392)
    else
    (none))
   else if ((xs (ixn v3)) &&& 63) = 41 then
   (gd (ix (v3 + 1) L) <|
    gd (ix (v3 + 2) L) <|
    gd (ix (v3 + 3) L) <|
    bI (gX10_chase (xs (ixn (v3 + 1))) (xs (ixn (v3 + 2))) (xs (ixn (v3 + 3))) u) fun (r401 : Int32) (u400 : Mm) =>
    gd (ix (v3 + 1) L) <|
    gd (ix (v3 + 2) L) <|
    gd (ix (v3 + 3) L) <|
    bI (gX11_chase (xs (ixn (v3 + 1))) (xs (ixn (v3 + 2))) (xs (ixn (v3 + 3))) u400) fun (r406 : Int32) (u405 : Mm) =>
    if r401 = r406 then
    (letv (v3 + 5) fun (v3_408 : Int32) =>
     j18 v3_408 u405)
    else
    (none))
   else if ((xs (ixn v3)) &&& 63) = 42 then
   (gd (ix (v3 + 1) L) <|
    gd (ix (v3 + 2) L) <|
    bI (gX10_tour (xs (ixn (v3 + 1))) (xs (ixn (v3 + 2))) u) fun (r413 : Int32) (u412 : Mm) =>
    gd (ix (v3 + 1) L) <|
    gd (ix (v3 + 2) L) <|
    bI (gX11_tour (xs (ixn (v3 + 1))) (xs (ixn (v3 + 2))) u412) fun (r417 : Int32) (u416 : Mm) =>
    if r413 = r417 then
    (letv (v3 + 5) fun (v3_419 : Int32) =>
     j18 v3_419 u416)
    else
    (none))
   else if ((xs (ixn v3)) &&& 63) = 43 then
   (gd (ix (v3 + 1) L) <|
    bI (gX10_twoCars (xs (ixn (v3 + 1))) u) fun (r423 : Int32) (u422 : Mm) =>
    gd (ix (v3 + 1) L) <|
    bI (gX11_twoCars (xs (ixn (v3 + 1))) u422) fun (r426 : Int32) (u425 : Mm) =>
    if r423 = r426 then
    (letv (v3 + 5) fun (v3_428 : Int32) =>
     j18 v3_428 u425)
    else
    (none))
   else if ((xs (ixn v3)) &&& 63) = 44 then
   (bI (gX10_image u) fun (r431 : Int32) (u430 : Mm) =>
    bI (gX11_image u430) fun (r433 : Int32) (u432 : Mm) =>
    if r431 = r433 then
    (letv (v3 + 5) fun (v3_435 : Int32) =>
     j18 v3_435 u432)
    else
    (none))
   else if ((xs (ixn v3)) &&& 63) = 45 then
   (bI (gX10_restore u) fun (r438 : Int32) (u437 : Mm) =>
    bI (gX11_restore u437) fun (r440 : Int32) (u439 : Mm) =>
    if r438 = r440 then
    (letv (v3 + 5) fun (v3_442 : Int32) =>
     j18 v3_442 u439)
    else
    (none))
   else if ((xs (ixn v3)) &&& 63) = 46 then
   (gd (ix (v3 + 1) L) <|
    (gX10_count (xs (ixn (v3 + 1))) u).bind fun (r445 : Int32) =>
    gd (ix (v3 + 1) L) <|
    bI (gX11_count (xs (ixn (v3 + 1))) u) fun (r448 : Int32) (u447 : Mm) =>
    if r445 = r448 then
    (letv (v3 + 5) fun (v3_450 : Int32) =>
     j18 v3_450 u447)
    else
    (none))
   else 
   (letv (v3 + 5) fun (v3_451 : Int32) =>
    j18 v3_451 u))
def gL_law_18_L (L : Nat) (xs : Nat → Int32) : Nat → Int32 → Mm → Option Int32
  | 0 => fun _ _ => none
  | n + 1 => gL_law_18_Ls L xs (gL_law_18_L L xs n)
def gL_law_16 (L : Nat) (xs : Nat → Int32) (u : Mm) : Option Int32 :=
  gL_law_18_L L xs FU 0 u
set_option maxRecDepth 20000 in
set_option maxHeartbeats 8000000 in
theorem pL_law_18s {Γ : GX} {b L : Nat} {xs : Nat → Int32} (C : Cx Γ RL cL_law 9) (S : Scr Γ b L xs) (Z : Lx Γ b) {j18 : Int32 → Mm → Option Int32} (hj18 : ∀ (v3 : Int32) (u : Mm), Gp Γ (QL Γ b) 18 [(0, .ref b), (1, .ref ((xE Γ).1 1)), (2, .ref ((xE Γ).1 74)), (3, .int v3)] [] u (j18 v3 u)) (v3 : Int32) (u : Mm) : Gp Γ (QL Γ b) 18 [(0, .ref b), (1, .ref ((xE Γ).1 1)), (2, .ref ((xE Γ).1 74)), (3, .int v3)] [] u (gL_law_18_Ls L xs j18 v3 u) := by
  unfold gL_law_18_Ls
  refine g_iload_n C dL_law_18 rfl 3 rfl ?_
  refine g_aload_n C dL_law_19 rfl 0 rfl ?_
  refine g_slen C S dL_law_20 rfl ?_
  refine g_iconst (v := 5) C dL_law_21 rfl (by decide) ?_
  refine g_isub C dL_law_22 rfl ?_
  refine g_icmp_gt 1464 C dL_law_23 rfl (by decide) (fun c1 => ?_) (fun c1 => ?_)
  · refine g_iconst (v := 1) C dL_law_1464 rfl (by decide) ?_
    exact g_lawret C Z dL_law_1465 rfl
  · refine g_aload_n C dL_law_26 rfl 0 rfl ?_
    refine g_iload_n C dL_law_27 rfl 3 rfl ?_
    refine g_gd (fun hi2 => ?_)
    refine g_sld C S dL_law_28 rfl hi2 ?_
    refine g_bipush (v := 63) C dL_law_29 rfl (by decide) ?_
    refine g_iand C dL_law_31 rfl ?_
    refine g_if (fun c3 => ?_) (fun c3 => ?_)
    · refine g_tabI 204 236 C dL_law_32 rfl (by rw [c3]; exact ⟨by decide, by decide, rfl⟩) (by decide) ?_
      refine g_aload_n C dL_law_236 rfl 1 rfl ?_
      refine g_aload_n C dL_law_237 rfl 0 rfl ?_
      refine g_iload_n C dL_law_238 rfl 3 rfl ?_
      refine g_iconst (v := 1) C dL_law_239 rfl (by decide) ?_
      refine g_iadd C dL_law_240 rfl ?_
      refine g_gd (fun hi4 => ?_)
      refine g_sld C S dL_law_241 rfl hi4 ?_
      refine g_callI [.int (xs (ixn (v3 + 1)))] C dL_law_242 rfl (tX10_feed (xl Γ) (xE Γ) (xs (ixn (v3 + 1))) u) cf_X10_feed rfl rfl ml_L_13 rfl (by decide) (Nat.le_of_ble_eq_true rfl) rfl (fun r6 u5 => ?_)
      refine g_aload_n C dL_law_245 rfl 2 rfl ?_
      refine g_aload_n C dL_law_246 rfl 0 rfl ?_
      refine g_iload_n C dL_law_247 rfl 3 rfl ?_
      refine g_iconst (v := 1) C dL_law_248 rfl (by decide) ?_
      refine g_iadd C dL_law_249 rfl ?_
      refine g_gd (fun hi7 => ?_)
      refine g_sld C S dL_law_250 rfl hi7 ?_
      refine g_callI [.int (xs (ixn (v3 + 1)))] C dL_law_251 rfl (tX11_feed (xl Γ) (xE Γ) (xs (ixn (v3 + 1))) u5) cf_X11_feed rfl rfl ml_L_17 rfl (by decide) (Nat.le_of_ble_eq_true rfl) rfl (fun r9 u8 => ?_)
      refine g_icmp_eq 1458 C dL_law_254 rfl (by decide) (fun c10 => ?_) (fun c10 => ?_)
      · refine g_iincL (fun v3_11 => [(3, .int v3_11), (0, .ref b), (1, .ref ((xE Γ).1 1)), (2, .ref ((xE Γ).1 74))]) C dL_law_1458 rfl Z.1 (by decide) (k := 3) rfl (iinc_5 _) (fun _ => rfl) (fun v3_11 => ?_)
        refine g_goto 18 C dL_law_1461 rfl (by decide) ?_
        refine g_sub (ls' := [(0, .ref b), (1, .ref ((xE Γ).1 1)), (2, .ref ((xE Γ).1 74)), (3, .int v3_11)]) [1, 2, 3, 0] rfl ?_
        exact hj18 v3_11 u8
      · refine g_iconst (v := 0) C dL_law_257 rfl (by decide) ?_
        exact g_none
    refine g_if (fun c12 => ?_) (fun c12 => ?_)
    · refine g_tabI 227 259 C dL_law_32 rfl (by rw [c12]; exact ⟨by decide, by decide, rfl⟩) (by decide) ?_
      refine g_aload_n C dL_law_259 rfl 1 rfl ?_
      refine g_callI [] C dL_law_260 rfl (tX10_land (xl Γ) (xE Γ) u) cf_X10_land rfl rfl ml_L_18 rfl (by decide) (Nat.le_of_ble_eq_true rfl) rfl (fun r14 u13 => ?_)
      refine g_aload_n C dL_law_263 rfl 2 rfl ?_
      refine g_callI [] C dL_law_264 rfl (tX11_land (xl Γ) (xE Γ) u13) cf_X11_land rfl rfl ml_L_22 rfl (by decide) (Nat.le_of_ble_eq_true rfl) rfl (fun r16 u15 => ?_)
      refine g_icmp_eq 1458 C dL_law_267 rfl (by decide) (fun c17 => ?_) (fun c17 => ?_)
      · refine g_iincL (fun v3_18 => [(3, .int v3_18), (0, .ref b), (1, .ref ((xE Γ).1 1)), (2, .ref ((xE Γ).1 74))]) C dL_law_1458 rfl Z.1 (by decide) (k := 3) rfl (iinc_5 _) (fun _ => rfl) (fun v3_18 => ?_)
        refine g_goto 18 C dL_law_1461 rfl (by decide) ?_
        refine g_sub (ls' := [(0, .ref b), (1, .ref ((xE Γ).1 1)), (2, .ref ((xE Γ).1 74)), (3, .int v3_18)]) [1, 2, 3, 0] rfl ?_
        exact hj18 v3_18 u15
      · refine g_iconst (v := 0) C dL_law_270 rfl (by decide) ?_
        exact g_none
    refine g_if (fun c19 => ?_) (fun c19 => ?_)
    · refine g_tabI 240 272 C dL_law_32 rfl (by rw [c19]; exact ⟨by decide, by decide, rfl⟩) (by decide) ?_
      refine g_aload_n C dL_law_272 rfl 1 rfl ?_
      refine g_aload_n C dL_law_273 rfl 0 rfl ?_
      refine g_iload_n C dL_law_274 rfl 3 rfl ?_
      refine g_iconst (v := 1) C dL_law_275 rfl (by decide) ?_
      refine g_iadd C dL_law_276 rfl ?_
      refine g_gd (fun hi20 => ?_)
      refine g_sld C S dL_law_277 rfl hi20 ?_
      refine g_aload_n C dL_law_278 rfl 0 rfl ?_
      refine g_iload_n C dL_law_279 rfl 3 rfl ?_
      refine g_iconst (v := 2) C dL_law_280 rfl (by decide) ?_
      refine g_iadd C dL_law_281 rfl ?_
      refine g_gd (fun hi21 => ?_)
      refine g_sld C S dL_law_282 rfl hi21 ?_
      refine g_callI [.int (xs (ixn (v3 + 1))), .int (xs (ixn (v3 + 2)))] C dL_law_283 rfl (tX10_layer (xl Γ) (xE Γ) (xs (ixn (v3 + 1))) (xs (ixn (v3 + 2))) u) cf_X10_layer rfl rfl ml_L_23 rfl (by decide) (Nat.le_of_ble_eq_true rfl) rfl (fun r23 u22 => ?_)
      refine g_aload_n C dL_law_286 rfl 2 rfl ?_
      refine g_aload_n C dL_law_287 rfl 0 rfl ?_
      refine g_iload_n C dL_law_288 rfl 3 rfl ?_
      refine g_iconst (v := 1) C dL_law_289 rfl (by decide) ?_
      refine g_iadd C dL_law_290 rfl ?_
      refine g_gd (fun hi24 => ?_)
      refine g_sld C S dL_law_291 rfl hi24 ?_
      refine g_aload_n C dL_law_292 rfl 0 rfl ?_
      refine g_iload_n C dL_law_293 rfl 3 rfl ?_
      refine g_iconst (v := 2) C dL_law_294 rfl (by decide) ?_
      refine g_iadd C dL_law_295 rfl ?_
      refine g_gd (fun hi25 => ?_)
      refine g_sld C S dL_law_296 rfl hi25 ?_
      refine g_callI [.int (xs (ixn (v3 + 1))), .int (xs (ixn (v3 + 2)))] C dL_law_297 rfl (tX11_layer (xl Γ) (xE Γ) (xs (ixn (v3 + 1))) (xs (ixn (v3 + 2))) u22) cf_X11_layer rfl rfl ml_L_27 rfl (by decide) (Nat.le_of_ble_eq_true rfl) rfl (fun r27 u26 => ?_)
      refine g_icmp_eq 1458 C dL_law_300 rfl (by decide) (fun c28 => ?_) (fun c28 => ?_)
      · refine g_iincL (fun v3_29 => [(3, .int v3_29), (0, .ref b), (1, .ref ((xE Γ).1 1)), (2, .ref ((xE Γ).1 74))]) C dL_law_1458 rfl Z.1 (by decide) (k := 3) rfl (iinc_5 _) (fun _ => rfl) (fun v3_29 => ?_)
        refine g_goto 18 C dL_law_1461 rfl (by decide) ?_
        refine g_sub (ls' := [(0, .ref b), (1, .ref ((xE Γ).1 1)), (2, .ref ((xE Γ).1 74)), (3, .int v3_29)]) [1, 2, 3, 0] rfl ?_
        exact hj18 v3_29 u26
      · refine g_iconst (v := 0) C dL_law_303 rfl (by decide) ?_
        exact g_none
    refine g_if (fun c30 => ?_) (fun c30 => ?_)
    · refine g_tabI 273 305 C dL_law_32 rfl (by rw [c30]; exact ⟨by decide, by decide, rfl⟩) (by decide) ?_
      refine g_aload_n C dL_law_305 rfl 1 rfl ?_
      refine g_aload_n C dL_law_306 rfl 0 rfl ?_
      refine g_iload_n C dL_law_307 rfl 3 rfl ?_
      refine g_iconst (v := 1) C dL_law_308 rfl (by decide) ?_
      refine g_iadd C dL_law_309 rfl ?_
      refine g_gd (fun hi31 => ?_)
      refine g_sld C S dL_law_310 rfl hi31 ?_
      refine g_aload_n C dL_law_311 rfl 0 rfl ?_
      refine g_iload_n C dL_law_312 rfl 3 rfl ?_
      refine g_iconst (v := 2) C dL_law_313 rfl (by decide) ?_
      refine g_iadd C dL_law_314 rfl ?_
      refine g_gd (fun hi32 => ?_)
      refine g_sld C S dL_law_315 rfl hi32 ?_
      refine g_aload_n C dL_law_316 rfl 0 rfl ?_
      refine g_iload_n C dL_law_317 rfl 3 rfl ?_
      refine g_iconst (v := 3) C dL_law_318 rfl (by decide) ?_
      refine g_iadd C dL_law_319 rfl ?_
      refine g_gd (fun hi33 => ?_)
      refine g_sld C S dL_law_320 rfl hi33 ?_
      refine g_callI [.int (xs (ixn (v3 + 1))), .int (xs (ixn (v3 + 2))), .int (xs (ixn (v3 + 3)))] C dL_law_321 rfl (tX10_wind (xl Γ) (xE Γ) (xs (ixn (v3 + 1))) (xs (ixn (v3 + 2))) (xs (ixn (v3 + 3))) u) cf_X10_wind rfl rfl ml_L_28 rfl (by decide) (Nat.le_of_ble_eq_true rfl) rfl (fun r35 u34 => ?_)
      refine g_aload_n C dL_law_324 rfl 2 rfl ?_
      refine g_aload_n C dL_law_325 rfl 0 rfl ?_
      refine g_iload_n C dL_law_326 rfl 3 rfl ?_
      refine g_iconst (v := 1) C dL_law_327 rfl (by decide) ?_
      refine g_iadd C dL_law_328 rfl ?_
      refine g_gd (fun hi36 => ?_)
      refine g_sld C S dL_law_329 rfl hi36 ?_
      refine g_aload_n C dL_law_330 rfl 0 rfl ?_
      refine g_iload_n C dL_law_331 rfl 3 rfl ?_
      refine g_iconst (v := 2) C dL_law_332 rfl (by decide) ?_
      refine g_iadd C dL_law_333 rfl ?_
      refine g_gd (fun hi37 => ?_)
      refine g_sld C S dL_law_334 rfl hi37 ?_
      refine g_aload_n C dL_law_335 rfl 0 rfl ?_
      refine g_iload_n C dL_law_336 rfl 3 rfl ?_
      refine g_iconst (v := 3) C dL_law_337 rfl (by decide) ?_
      refine g_iadd C dL_law_338 rfl ?_
      refine g_gd (fun hi38 => ?_)
      refine g_sld C S dL_law_339 rfl hi38 ?_
      refine g_callI [.int (xs (ixn (v3 + 1))), .int (xs (ixn (v3 + 2))), .int (xs (ixn (v3 + 3)))] C dL_law_340 rfl (tX11_wind (xl Γ) (xE Γ) (xs (ixn (v3 + 1))) (xs (ixn (v3 + 2))) (xs (ixn (v3 + 3))) u34) cf_X11_wind rfl rfl ml_L_32 rfl (by decide) (Nat.le_of_ble_eq_true rfl) rfl (fun r40 u39 => ?_)
      refine g_icmp_eq 1458 C dL_law_343 rfl (by decide) (fun c41 => ?_) (fun c41 => ?_)
      · refine g_iincL (fun v3_42 => [(3, .int v3_42), (0, .ref b), (1, .ref ((xE Γ).1 1)), (2, .ref ((xE Γ).1 74))]) C dL_law_1458 rfl Z.1 (by decide) (k := 3) rfl (iinc_5 _) (fun _ => rfl) (fun v3_42 => ?_)
        refine g_goto 18 C dL_law_1461 rfl (by decide) ?_
        refine g_sub (ls' := [(0, .ref b), (1, .ref ((xE Γ).1 1)), (2, .ref ((xE Γ).1 74)), (3, .int v3_42)]) [1, 2, 3, 0] rfl ?_
        exact hj18 v3_42 u39
      · refine g_iconst (v := 0) C dL_law_346 rfl (by decide) ?_
        exact g_none
    refine g_if (fun c43 => ?_) (fun c43 => ?_)
    · refine g_tabI 316 348 C dL_law_32 rfl (by rw [c43]; exact ⟨by decide, by decide, rfl⟩) (by decide) ?_
      refine g_aload_n C dL_law_348 rfl 1 rfl ?_
      refine g_aload_n C dL_law_349 rfl 0 rfl ?_
      refine g_iload_n C dL_law_350 rfl 3 rfl ?_
      refine g_iconst (v := 1) C dL_law_351 rfl (by decide) ?_
      refine g_iadd C dL_law_352 rfl ?_
      refine g_gd (fun hi44 => ?_)
      refine g_sld C S dL_law_353 rfl hi44 ?_
      refine g_aload_n C dL_law_354 rfl 0 rfl ?_
      refine g_iload_n C dL_law_355 rfl 3 rfl ?_
      refine g_iconst (v := 2) C dL_law_356 rfl (by decide) ?_
      refine g_iadd C dL_law_357 rfl ?_
      refine g_gd (fun hi45 => ?_)
      refine g_sld C S dL_law_358 rfl hi45 ?_
      refine g_callI [.int (xs (ixn (v3 + 1))), .int (xs (ixn (v3 + 2)))] C dL_law_359 rfl (tX10_field (xl Γ) (xE Γ) (xs (ixn (v3 + 1))) (xs (ixn (v3 + 2))) u) cf_X10_field rfl rfl ml_L_33 rfl (by decide) (Nat.le_of_ble_eq_true rfl) rfl (fun r47 u46 => ?_)
      refine g_aload_n C dL_law_362 rfl 2 rfl ?_
      refine g_aload_n C dL_law_363 rfl 0 rfl ?_
      refine g_iload_n C dL_law_364 rfl 3 rfl ?_
      refine g_iconst (v := 1) C dL_law_365 rfl (by decide) ?_
      refine g_iadd C dL_law_366 rfl ?_
      refine g_gd (fun hi48 => ?_)
      refine g_sld C S dL_law_367 rfl hi48 ?_
      refine g_aload_n C dL_law_368 rfl 0 rfl ?_
      refine g_iload_n C dL_law_369 rfl 3 rfl ?_
      refine g_iconst (v := 2) C dL_law_370 rfl (by decide) ?_
      refine g_iadd C dL_law_371 rfl ?_
      refine g_gd (fun hi49 => ?_)
      refine g_sld C S dL_law_372 rfl hi49 ?_
      refine g_callI [.int (xs (ixn (v3 + 1))), .int (xs (ixn (v3 + 2)))] C dL_law_373 rfl (tX11_field (xl Γ) (xE Γ) (xs (ixn (v3 + 1))) (xs (ixn (v3 + 2))) u46) cf_X11_field rfl rfl ml_L_36 rfl (by decide) (Nat.le_of_ble_eq_true rfl) rfl (fun r51 u50 => ?_)
      refine g_icmp_eq 1458 C dL_law_376 rfl (by decide) (fun c52 => ?_) (fun c52 => ?_)
      · refine g_iincL (fun v3_53 => [(3, .int v3_53), (0, .ref b), (1, .ref ((xE Γ).1 1)), (2, .ref ((xE Γ).1 74))]) C dL_law_1458 rfl Z.1 (by decide) (k := 3) rfl (iinc_5 _) (fun _ => rfl) (fun v3_53 => ?_)
        refine g_goto 18 C dL_law_1461 rfl (by decide) ?_
        refine g_sub (ls' := [(0, .ref b), (1, .ref ((xE Γ).1 1)), (2, .ref ((xE Γ).1 74)), (3, .int v3_53)]) [1, 2, 3, 0] rfl ?_
        exact hj18 v3_53 u50
      · refine g_iconst (v := 0) C dL_law_379 rfl (by decide) ?_
        exact g_none
    refine g_if (fun c54 => ?_) (fun c54 => ?_)
    · refine g_tabI 349 381 C dL_law_32 rfl (by rw [c54]; exact ⟨by decide, by decide, rfl⟩) (by decide) ?_
      refine g_aload_n C dL_law_381 rfl 1 rfl ?_
      refine g_aload_n C dL_law_382 rfl 0 rfl ?_
      refine g_iload_n C dL_law_383 rfl 3 rfl ?_
      refine g_iconst (v := 1) C dL_law_384 rfl (by decide) ?_
      refine g_iadd C dL_law_385 rfl ?_
      refine g_gd (fun hi55 => ?_)
      refine g_sld C S dL_law_386 rfl hi55 ?_
      refine g_aload_n C dL_law_387 rfl 0 rfl ?_
      refine g_iload_n C dL_law_388 rfl 3 rfl ?_
      refine g_iconst (v := 2) C dL_law_389 rfl (by decide) ?_
      refine g_iadd C dL_law_390 rfl ?_
      refine g_gd (fun hi56 => ?_)
      refine g_sld C S dL_law_391 rfl hi56 ?_
      refine g_callI [.int (xs (ixn (v3 + 1))), .int (xs (ixn (v3 + 2)))] C dL_law_392 rfl (tX10_cost (xl Γ) (xE Γ) (xs (ixn (v3 + 1))) (xs (ixn (v3 + 2))) u) cf_X10_cost rfl rfl ml_L_37 rfl (by decide) (Nat.le_of_ble_eq_true rfl) rfl (fun r58 u57 => ?_)
      refine g_aload_n C dL_law_395 rfl 2 rfl ?_
      refine g_aload_n C dL_law_396 rfl 0 rfl ?_
      refine g_iload_n C dL_law_397 rfl 3 rfl ?_
      refine g_iconst (v := 1) C dL_law_398 rfl (by decide) ?_
      refine g_iadd C dL_law_399 rfl ?_
      refine g_gd (fun hi59 => ?_)
      refine g_sld C S dL_law_400 rfl hi59 ?_
      refine g_aload_n C dL_law_401 rfl 0 rfl ?_
      refine g_iload_n C dL_law_402 rfl 3 rfl ?_
      refine g_iconst (v := 2) C dL_law_403 rfl (by decide) ?_
      refine g_iadd C dL_law_404 rfl ?_
      refine g_gd (fun hi60 => ?_)
      refine g_sld C S dL_law_405 rfl hi60 ?_
      refine g_callI [.int (xs (ixn (v3 + 1))), .int (xs (ixn (v3 + 2)))] C dL_law_406 rfl (tX11_cost (xl Γ) (xE Γ) (xs (ixn (v3 + 1))) (xs (ixn (v3 + 2))) u57) cf_X11_cost rfl rfl ml_L_40 rfl (by decide) (Nat.le_of_ble_eq_true rfl) rfl (fun r62 u61 => ?_)
      refine g_icmp_eq 1458 C dL_law_409 rfl (by decide) (fun c63 => ?_) (fun c63 => ?_)
      · refine g_iincL (fun v3_64 => [(3, .int v3_64), (0, .ref b), (1, .ref ((xE Γ).1 1)), (2, .ref ((xE Γ).1 74))]) C dL_law_1458 rfl Z.1 (by decide) (k := 3) rfl (iinc_5 _) (fun _ => rfl) (fun v3_64 => ?_)
        refine g_goto 18 C dL_law_1461 rfl (by decide) ?_
        refine g_sub (ls' := [(0, .ref b), (1, .ref ((xE Γ).1 1)), (2, .ref ((xE Γ).1 74)), (3, .int v3_64)]) [1, 2, 3, 0] rfl ?_
        exact hj18 v3_64 u61
      · refine g_iconst (v := 0) C dL_law_412 rfl (by decide) ?_
        exact g_none
    refine g_if (fun c65 => ?_) (fun c65 => ?_)
    · refine g_tabI 382 414 C dL_law_32 rfl (by rw [c65]; exact ⟨by decide, by decide, rfl⟩) (by decide) ?_
      refine g_aload_n C dL_law_414 rfl 1 rfl ?_
      refine g_aload_n C dL_law_415 rfl 0 rfl ?_
      refine g_iload_n C dL_law_416 rfl 3 rfl ?_
      refine g_iconst (v := 1) C dL_law_417 rfl (by decide) ?_
      refine g_iadd C dL_law_418 rfl ?_
      refine g_gd (fun hi66 => ?_)
      refine g_sld C S dL_law_419 rfl hi66 ?_
      refine g_callI [.int (xs (ixn (v3 + 1)))] C dL_law_420 rfl (tX10_drag (xl Γ) (xE Γ) (xs (ixn (v3 + 1))) u) cf_X10_drag rfl rfl ml_L_41 rfl (by decide) (Nat.le_of_ble_eq_true rfl) rfl (fun r68 u67 => ?_)
      refine g_aload_n C dL_law_423 rfl 2 rfl ?_
      refine g_aload_n C dL_law_424 rfl 0 rfl ?_
      refine g_iload_n C dL_law_425 rfl 3 rfl ?_
      refine g_iconst (v := 1) C dL_law_426 rfl (by decide) ?_
      refine g_iadd C dL_law_427 rfl ?_
      refine g_gd (fun hi69 => ?_)
      refine g_sld C S dL_law_428 rfl hi69 ?_
      refine g_callI [.int (xs (ixn (v3 + 1)))] C dL_law_429 rfl (tX11_drag (xl Γ) (xE Γ) (xs (ixn (v3 + 1))) u67) cf_X11_drag rfl rfl ml_L_44 rfl (by decide) (Nat.le_of_ble_eq_true rfl) rfl (fun r71 u70 => ?_)
      refine g_icmp_eq 1458 C dL_law_432 rfl (by decide) (fun c72 => ?_) (fun c72 => ?_)
      · refine g_iincL (fun v3_73 => [(3, .int v3_73), (0, .ref b), (1, .ref ((xE Γ).1 1)), (2, .ref ((xE Γ).1 74))]) C dL_law_1458 rfl Z.1 (by decide) (k := 3) rfl (iinc_5 _) (fun _ => rfl) (fun v3_73 => ?_)
        refine g_goto 18 C dL_law_1461 rfl (by decide) ?_
        refine g_sub (ls' := [(0, .ref b), (1, .ref ((xE Γ).1 1)), (2, .ref ((xE Γ).1 74)), (3, .int v3_73)]) [1, 2, 3, 0] rfl ?_
        exact hj18 v3_73 u70
      · refine g_iconst (v := 0) C dL_law_435 rfl (by decide) ?_
        exact g_none
    refine g_if (fun c74 => ?_) (fun c74 => ?_)
    · refine g_tabI 405 437 C dL_law_32 rfl (by rw [c74]; exact ⟨by decide, by decide, rfl⟩) (by decide) ?_
      refine g_aload_n C dL_law_437 rfl 1 rfl ?_
      refine g_aload_n C dL_law_438 rfl 0 rfl ?_
      refine g_iload_n C dL_law_439 rfl 3 rfl ?_
      refine g_iconst (v := 1) C dL_law_440 rfl (by decide) ?_
      refine g_iadd C dL_law_441 rfl ?_
      refine g_gd (fun hi75 => ?_)
      refine g_sld C S dL_law_442 rfl hi75 ?_
      refine g_aload_n C dL_law_443 rfl 0 rfl ?_
      refine g_iload_n C dL_law_444 rfl 3 rfl ?_
      refine g_iconst (v := 2) C dL_law_445 rfl (by decide) ?_
      refine g_iadd C dL_law_446 rfl ?_
      refine g_gd (fun hi76 => ?_)
      refine g_sld C S dL_law_447 rfl hi76 ?_
      refine g_callI [.int (xs (ixn (v3 + 1))), .int (xs (ixn (v3 + 2)))] C dL_law_448 rfl (tX10_set (xl Γ) (xE Γ) (xs (ixn (v3 + 1))) (xs (ixn (v3 + 2))) u) cf_X10_set rfl rfl ml_L_45 rfl (by decide) (Nat.le_of_ble_eq_true rfl) rfl (fun r78 u77 => ?_)
      refine g_aload_n C dL_law_451 rfl 2 rfl ?_
      refine g_aload_n C dL_law_452 rfl 0 rfl ?_
      refine g_iload_n C dL_law_453 rfl 3 rfl ?_
      refine g_iconst (v := 1) C dL_law_454 rfl (by decide) ?_
      refine g_iadd C dL_law_455 rfl ?_
      refine g_gd (fun hi79 => ?_)
      refine g_sld C S dL_law_456 rfl hi79 ?_
      refine g_aload_n C dL_law_457 rfl 0 rfl ?_
      refine g_iload_n C dL_law_458 rfl 3 rfl ?_
      refine g_iconst (v := 2) C dL_law_459 rfl (by decide) ?_
      refine g_iadd C dL_law_460 rfl ?_
      refine g_gd (fun hi80 => ?_)
      refine g_sld C S dL_law_461 rfl hi80 ?_
      refine g_callI [.int (xs (ixn (v3 + 1))), .int (xs (ixn (v3 + 2)))] C dL_law_462 rfl (tX11_set (xl Γ) (xE Γ) (xs (ixn (v3 + 1))) (xs (ixn (v3 + 2))) u77) cf_X11_set rfl rfl ml_L_48 rfl (by decide) (Nat.le_of_ble_eq_true rfl) rfl (fun r82 u81 => ?_)
      refine g_icmp_eq 1458 C dL_law_465 rfl (by decide) (fun c83 => ?_) (fun c83 => ?_)
      · refine g_iincL (fun v3_84 => [(3, .int v3_84), (0, .ref b), (1, .ref ((xE Γ).1 1)), (2, .ref ((xE Γ).1 74))]) C dL_law_1458 rfl Z.1 (by decide) (k := 3) rfl (iinc_5 _) (fun _ => rfl) (fun v3_84 => ?_)
        refine g_goto 18 C dL_law_1461 rfl (by decide) ?_
        refine g_sub (ls' := [(0, .ref b), (1, .ref ((xE Γ).1 1)), (2, .ref ((xE Γ).1 74)), (3, .int v3_84)]) [1, 2, 3, 0] rfl ?_
        exact hj18 v3_84 u81
      · refine g_iconst (v := 0) C dL_law_468 rfl (by decide) ?_
        exact g_none
    refine g_if (fun c85 => ?_) (fun c85 => ?_)
    · refine g_tabI 438 470 C dL_law_32 rfl (by rw [c85]; exact ⟨by decide, by decide, rfl⟩) (by decide) ?_
      refine g_aload_n C dL_law_470 rfl 1 rfl ?_
      refine g_callP [] C dL_law_471 rfl (tX10_rising (xl Γ) (xE Γ) u) cf_X10_rising rfl rfl ml_L_49 rfl (by decide) (Nat.le_of_ble_eq_true rfl) rfl (fun r86 => ?_)
      refine g_aload_n C dL_law_474 rfl 2 rfl ?_
      refine g_callI [] C dL_law_475 rfl (tX11_rising (xl Γ) (xE Γ) u) cf_X11_rising rfl rfl ml_L_52 rfl (by decide) (Nat.le_of_ble_eq_true rfl) rfl (fun r88 u87 => ?_)
      refine g_icmp_eq 1458 C dL_law_478 rfl (by decide) (fun c89 => ?_) (fun c89 => ?_)
      · refine g_iincL (fun v3_90 => [(3, .int v3_90), (0, .ref b), (1, .ref ((xE Γ).1 1)), (2, .ref ((xE Γ).1 74))]) C dL_law_1458 rfl Z.1 (by decide) (k := 3) rfl (iinc_5 _) (fun _ => rfl) (fun v3_90 => ?_)
        refine g_goto 18 C dL_law_1461 rfl (by decide) ?_
        refine g_sub (ls' := [(0, .ref b), (1, .ref ((xE Γ).1 1)), (2, .ref ((xE Γ).1 74)), (3, .int v3_90)]) [1, 2, 3, 0] rfl ?_
        exact hj18 v3_90 u87
      · refine g_iconst (v := 0) C dL_law_481 rfl (by decide) ?_
        exact g_none
    refine g_if (fun c91 => ?_) (fun c91 => ?_)
    · refine g_tabI 451 483 C dL_law_32 rfl (by rw [c91]; exact ⟨by decide, by decide, rfl⟩) (by decide) ?_
      refine g_aload_n C dL_law_483 rfl 1 rfl ?_
      refine g_aload_n C dL_law_484 rfl 0 rfl ?_
      refine g_iload_n C dL_law_485 rfl 3 rfl ?_
      refine g_iconst (v := 1) C dL_law_486 rfl (by decide) ?_
      refine g_iadd C dL_law_487 rfl ?_
      refine g_gd (fun hi92 => ?_)
      refine g_sld C S dL_law_488 rfl hi92 ?_
      refine g_callI [.int (xs (ixn (v3 + 1)))] C dL_law_489 rfl (tX10_go (xl Γ) (xE Γ) (xs (ixn (v3 + 1))) u) cf_X10_go rfl rfl ml_L_53 rfl (by decide) (Nat.le_of_ble_eq_true rfl) rfl (fun r94 u93 => ?_)
      refine g_aload_n C dL_law_492 rfl 2 rfl ?_
      refine g_aload_n C dL_law_493 rfl 0 rfl ?_
      refine g_iload_n C dL_law_494 rfl 3 rfl ?_
      refine g_iconst (v := 1) C dL_law_495 rfl (by decide) ?_
      refine g_iadd C dL_law_496 rfl ?_
      refine g_gd (fun hi95 => ?_)
      refine g_sld C S dL_law_497 rfl hi95 ?_
      refine g_callI [.int (xs (ixn (v3 + 1)))] C dL_law_498 rfl (tX11_go (xl Γ) (xE Γ) (xs (ixn (v3 + 1))) u93) cf_X11_go rfl rfl ml_L_56 rfl (by decide) (Nat.le_of_ble_eq_true rfl) rfl (fun r97 u96 => ?_)
      refine g_icmp_eq 1458 C dL_law_501 rfl (by decide) (fun c98 => ?_) (fun c98 => ?_)
      · refine g_iincL (fun v3_99 => [(3, .int v3_99), (0, .ref b), (1, .ref ((xE Γ).1 1)), (2, .ref ((xE Γ).1 74))]) C dL_law_1458 rfl Z.1 (by decide) (k := 3) rfl (iinc_5 _) (fun _ => rfl) (fun v3_99 => ?_)
        refine g_goto 18 C dL_law_1461 rfl (by decide) ?_
        refine g_sub (ls' := [(0, .ref b), (1, .ref ((xE Γ).1 1)), (2, .ref ((xE Γ).1 74)), (3, .int v3_99)]) [1, 2, 3, 0] rfl ?_
        exact hj18 v3_99 u96
      · refine g_iconst (v := 0) C dL_law_504 rfl (by decide) ?_
        exact g_none
    refine g_if (fun c100 => ?_) (fun c100 => ?_)
    · refine g_tabI 474 506 C dL_law_32 rfl (by rw [c100]; exact ⟨by decide, by decide, rfl⟩) (by decide) ?_
      refine g_aload_n C dL_law_506 rfl 1 rfl ?_
      refine g_callI [] C dL_law_507 rfl (tX10_back (xl Γ) (xE Γ) u) cf_X10_back rfl rfl ml_L_57 rfl (by decide) (Nat.le_of_ble_eq_true rfl) rfl (fun r102 u101 => ?_)
      refine g_aload_n C dL_law_510 rfl 2 rfl ?_
      refine g_callI [] C dL_law_511 rfl (tX11_back (xl Γ) (xE Γ) u101) cf_X11_back rfl rfl ml_L_60 rfl (by decide) (Nat.le_of_ble_eq_true rfl) rfl (fun r104 u103 => ?_)
      refine g_icmp_eq 1458 C dL_law_514 rfl (by decide) (fun c105 => ?_) (fun c105 => ?_)
      · refine g_iincL (fun v3_106 => [(3, .int v3_106), (0, .ref b), (1, .ref ((xE Γ).1 1)), (2, .ref ((xE Γ).1 74))]) C dL_law_1458 rfl Z.1 (by decide) (k := 3) rfl (iinc_5 _) (fun _ => rfl) (fun v3_106 => ?_)
        refine g_goto 18 C dL_law_1461 rfl (by decide) ?_
        refine g_sub (ls' := [(0, .ref b), (1, .ref ((xE Γ).1 1)), (2, .ref ((xE Γ).1 74)), (3, .int v3_106)]) [1, 2, 3, 0] rfl ?_
        exact hj18 v3_106 u103
      · refine g_iconst (v := 0) C dL_law_517 rfl (by decide) ?_
        exact g_none
    refine g_if (fun c107 => ?_) (fun c107 => ?_)
    · refine g_tabI 487 519 C dL_law_32 rfl (by rw [c107]; exact ⟨by decide, by decide, rfl⟩) (by decide) ?_
      refine g_aload_n C dL_law_519 rfl 1 rfl ?_
      refine g_aload_n C dL_law_520 rfl 0 rfl ?_
      refine g_iload_n C dL_law_521 rfl 3 rfl ?_
      refine g_iconst (v := 1) C dL_law_522 rfl (by decide) ?_
      refine g_iadd C dL_law_523 rfl ?_
      refine g_gd (fun hi108 => ?_)
      refine g_sld C S dL_law_524 rfl hi108 ?_
      refine g_aload_n C dL_law_525 rfl 0 rfl ?_
      refine g_iload_n C dL_law_526 rfl 3 rfl ?_
      refine g_iconst (v := 2) C dL_law_527 rfl (by decide) ?_
      refine g_iadd C dL_law_528 rfl ?_
      refine g_gd (fun hi109 => ?_)
      refine g_sld C S dL_law_529 rfl hi109 ?_
      refine g_aload_n C dL_law_530 rfl 0 rfl ?_
      refine g_iload_n C dL_law_531 rfl 3 rfl ?_
      refine g_iconst (v := 3) C dL_law_532 rfl (by decide) ?_
      refine g_iadd C dL_law_533 rfl ?_
      refine g_gd (fun hi110 => ?_)
      refine g_sld C S dL_law_534 rfl hi110 ?_
      refine g_callI [.int (xs (ixn (v3 + 1))), .int (xs (ixn (v3 + 2))), .int (xs (ixn (v3 + 3)))] C dL_law_535 rfl (tX10_plan (xl Γ) (xE Γ) (xs (ixn (v3 + 1))) (xs (ixn (v3 + 2))) (xs (ixn (v3 + 3))) u) cf_X10_plan rfl rfl ml_L_61 rfl (by decide) (Nat.le_of_ble_eq_true rfl) rfl (fun r112 u111 => ?_)
      refine g_aload_n C dL_law_538 rfl 2 rfl ?_
      refine g_aload_n C dL_law_539 rfl 0 rfl ?_
      refine g_iload_n C dL_law_540 rfl 3 rfl ?_
      refine g_iconst (v := 1) C dL_law_541 rfl (by decide) ?_
      refine g_iadd C dL_law_542 rfl ?_
      refine g_gd (fun hi113 => ?_)
      refine g_sld C S dL_law_543 rfl hi113 ?_
      refine g_aload_n C dL_law_544 rfl 0 rfl ?_
      refine g_iload_n C dL_law_545 rfl 3 rfl ?_
      refine g_iconst (v := 2) C dL_law_546 rfl (by decide) ?_
      refine g_iadd C dL_law_547 rfl ?_
      refine g_gd (fun hi114 => ?_)
      refine g_sld C S dL_law_548 rfl hi114 ?_
      refine g_aload_n C dL_law_549 rfl 0 rfl ?_
      refine g_iload_n C dL_law_550 rfl 3 rfl ?_
      refine g_iconst (v := 3) C dL_law_551 rfl (by decide) ?_
      refine g_iadd C dL_law_552 rfl ?_
      refine g_gd (fun hi115 => ?_)
      refine g_sld C S dL_law_553 rfl hi115 ?_
      refine g_callI [.int (xs (ixn (v3 + 1))), .int (xs (ixn (v3 + 2))), .int (xs (ixn (v3 + 3)))] C dL_law_554 rfl (tX11_plan (xl Γ) (xE Γ) (xs (ixn (v3 + 1))) (xs (ixn (v3 + 2))) (xs (ixn (v3 + 3))) u111) cf_X11_plan rfl rfl ml_L_64 rfl (by decide) (Nat.le_of_ble_eq_true rfl) rfl (fun r117 u116 => ?_)
      refine g_icmp_eq 1458 C dL_law_557 rfl (by decide) (fun c118 => ?_) (fun c118 => ?_)
      · refine g_iincL (fun v3_119 => [(3, .int v3_119), (0, .ref b), (1, .ref ((xE Γ).1 1)), (2, .ref ((xE Γ).1 74))]) C dL_law_1458 rfl Z.1 (by decide) (k := 3) rfl (iinc_5 _) (fun _ => rfl) (fun v3_119 => ?_)
        refine g_goto 18 C dL_law_1461 rfl (by decide) ?_
        refine g_sub (ls' := [(0, .ref b), (1, .ref ((xE Γ).1 1)), (2, .ref ((xE Γ).1 74)), (3, .int v3_119)]) [1, 2, 3, 0] rfl ?_
        exact hj18 v3_119 u116
      · refine g_iconst (v := 0) C dL_law_560 rfl (by decide) ?_
        exact g_none
    refine g_if (fun c120 => ?_) (fun c120 => ?_)
    · refine g_tabI 530 562 C dL_law_32 rfl (by rw [c120]; exact ⟨by decide, by decide, rfl⟩) (by decide) ?_
      refine g_aload_n C dL_law_562 rfl 1 rfl ?_
      refine g_aload_n C dL_law_563 rfl 0 rfl ?_
      refine g_iload_n C dL_law_564 rfl 3 rfl ?_
      refine g_iconst (v := 1) C dL_law_565 rfl (by decide) ?_
      refine g_iadd C dL_law_566 rfl ?_
      refine g_gd (fun hi121 => ?_)
      refine g_sld C S dL_law_567 rfl hi121 ?_
      refine g_aload_n C dL_law_568 rfl 0 rfl ?_
      refine g_iload_n C dL_law_569 rfl 3 rfl ?_
      refine g_iconst (v := 2) C dL_law_570 rfl (by decide) ?_
      refine g_iadd C dL_law_571 rfl ?_
      refine g_gd (fun hi122 => ?_)
      refine g_sld C S dL_law_572 rfl hi122 ?_
      refine g_callI [.int (xs (ixn (v3 + 1))), .int (xs (ixn (v3 + 2)))] C dL_law_573 rfl (tX10_had (xl Γ) (xE Γ) (xs (ixn (v3 + 1))) (xs (ixn (v3 + 2))) u) cf_X10_had rfl rfl ml_L_65 rfl (by decide) (Nat.le_of_ble_eq_true rfl) rfl (fun r124 u123 => ?_)
      refine g_aload_n C dL_law_576 rfl 2 rfl ?_
      refine g_aload_n C dL_law_577 rfl 0 rfl ?_
      refine g_iload_n C dL_law_578 rfl 3 rfl ?_
      refine g_iconst (v := 1) C dL_law_579 rfl (by decide) ?_
      refine g_iadd C dL_law_580 rfl ?_
      refine g_gd (fun hi125 => ?_)
      refine g_sld C S dL_law_581 rfl hi125 ?_
      refine g_aload_n C dL_law_582 rfl 0 rfl ?_
      refine g_iload_n C dL_law_583 rfl 3 rfl ?_
      refine g_iconst (v := 2) C dL_law_584 rfl (by decide) ?_
      refine g_iadd C dL_law_585 rfl ?_
      refine g_gd (fun hi126 => ?_)
      refine g_sld C S dL_law_586 rfl hi126 ?_
      refine g_callI [.int (xs (ixn (v3 + 1))), .int (xs (ixn (v3 + 2)))] C dL_law_587 rfl (tX11_had (xl Γ) (xE Γ) (xs (ixn (v3 + 1))) (xs (ixn (v3 + 2))) u123) cf_X11_had rfl rfl ml_L_68 rfl (by decide) (Nat.le_of_ble_eq_true rfl) rfl (fun r128 u127 => ?_)
      refine g_icmp_eq 1458 C dL_law_590 rfl (by decide) (fun c129 => ?_) (fun c129 => ?_)
      · refine g_iincL (fun v3_130 => [(3, .int v3_130), (0, .ref b), (1, .ref ((xE Γ).1 1)), (2, .ref ((xE Γ).1 74))]) C dL_law_1458 rfl Z.1 (by decide) (k := 3) rfl (iinc_5 _) (fun _ => rfl) (fun v3_130 => ?_)
        refine g_goto 18 C dL_law_1461 rfl (by decide) ?_
        refine g_sub (ls' := [(0, .ref b), (1, .ref ((xE Γ).1 1)), (2, .ref ((xE Γ).1 74)), (3, .int v3_130)]) [1, 2, 3, 0] rfl ?_
        exact hj18 v3_130 u127
      · refine g_iconst (v := 0) C dL_law_593 rfl (by decide) ?_
        exact g_none
    refine g_if (fun c131 => ?_) (fun c131 => ?_)
    · refine g_tabI 563 595 C dL_law_32 rfl (by rw [c131]; exact ⟨by decide, by decide, rfl⟩) (by decide) ?_
      refine g_aload_n C dL_law_595 rfl 1 rfl ?_
      refine g_aload_n C dL_law_596 rfl 0 rfl ?_
      refine g_iload_n C dL_law_597 rfl 3 rfl ?_
      refine g_iconst (v := 1) C dL_law_598 rfl (by decide) ?_
      refine g_iadd C dL_law_599 rfl ?_
      refine g_gd (fun hi132 => ?_)
      refine g_sld C S dL_law_600 rfl hi132 ?_
      refine g_callI [.int (xs (ixn (v3 + 1)))] C dL_law_601 rfl (tX10_best (xl Γ) (xE Γ) (xs (ixn (v3 + 1))) u) cf_X10_best rfl rfl ml_L_69 rfl (by decide) (Nat.le_of_ble_eq_true rfl) rfl (fun r134 u133 => ?_)
      refine g_aload_n C dL_law_604 rfl 2 rfl ?_
      refine g_aload_n C dL_law_605 rfl 0 rfl ?_
      refine g_iload_n C dL_law_606 rfl 3 rfl ?_
      refine g_iconst (v := 1) C dL_law_607 rfl (by decide) ?_
      refine g_iadd C dL_law_608 rfl ?_
      refine g_gd (fun hi135 => ?_)
      refine g_sld C S dL_law_609 rfl hi135 ?_
      refine g_callI [.int (xs (ixn (v3 + 1)))] C dL_law_610 rfl (tX11_best (xl Γ) (xE Γ) (xs (ixn (v3 + 1))) u133) cf_X11_best rfl rfl ml_L_72 rfl (by decide) (Nat.le_of_ble_eq_true rfl) rfl (fun r137 u136 => ?_)
      refine g_icmp_eq 1458 C dL_law_613 rfl (by decide) (fun c138 => ?_) (fun c138 => ?_)
      · refine g_iincL (fun v3_139 => [(3, .int v3_139), (0, .ref b), (1, .ref ((xE Γ).1 1)), (2, .ref ((xE Γ).1 74))]) C dL_law_1458 rfl Z.1 (by decide) (k := 3) rfl (iinc_5 _) (fun _ => rfl) (fun v3_139 => ?_)
        refine g_goto 18 C dL_law_1461 rfl (by decide) ?_
        refine g_sub (ls' := [(0, .ref b), (1, .ref ((xE Γ).1 1)), (2, .ref ((xE Γ).1 74)), (3, .int v3_139)]) [1, 2, 3, 0] rfl ?_
        exact hj18 v3_139 u136
      · refine g_iconst (v := 0) C dL_law_616 rfl (by decide) ?_
        exact g_none
    refine g_if (fun c140 => ?_) (fun c140 => ?_)
    · refine g_tabI 586 618 C dL_law_32 rfl (by rw [c140]; exact ⟨by decide, by decide, rfl⟩) (by decide) ?_
      refine g_aload_n C dL_law_618 rfl 1 rfl ?_
      refine g_callI [] C dL_law_619 rfl (tX10_left (xl Γ) (xE Γ) u) cf_X10_left rfl rfl ml_L_73 rfl (by decide) (Nat.le_of_ble_eq_true rfl) rfl (fun r142 u141 => ?_)
      refine g_aload_n C dL_law_622 rfl 2 rfl ?_
      refine g_callI [] C dL_law_623 rfl (tX11_left (xl Γ) (xE Γ) u141) cf_X11_left rfl rfl ml_L_76 rfl (by decide) (Nat.le_of_ble_eq_true rfl) rfl (fun r144 u143 => ?_)
      refine g_icmp_eq 1458 C dL_law_626 rfl (by decide) (fun c145 => ?_) (fun c145 => ?_)
      · refine g_iincL (fun v3_146 => [(3, .int v3_146), (0, .ref b), (1, .ref ((xE Γ).1 1)), (2, .ref ((xE Γ).1 74))]) C dL_law_1458 rfl Z.1 (by decide) (k := 3) rfl (iinc_5 _) (fun _ => rfl) (fun v3_146 => ?_)
        refine g_goto 18 C dL_law_1461 rfl (by decide) ?_
        refine g_sub (ls' := [(0, .ref b), (1, .ref ((xE Γ).1 1)), (2, .ref ((xE Γ).1 74)), (3, .int v3_146)]) [1, 2, 3, 0] rfl ?_
        exact hj18 v3_146 u143
      · refine g_iconst (v := 0) C dL_law_629 rfl (by decide) ?_
        exact g_none
    refine g_if (fun c147 => ?_) (fun c147 => ?_)
    · refine g_tabI 599 631 C dL_law_32 rfl (by rw [c147]; exact ⟨by decide, by decide, rfl⟩) (by decide) ?_
      refine g_aload_n C dL_law_631 rfl 1 rfl ?_
      refine g_aload_n C dL_law_632 rfl 0 rfl ?_
      refine g_iload_n C dL_law_633 rfl 3 rfl ?_
      refine g_iconst (v := 1) C dL_law_634 rfl (by decide) ?_
      refine g_iadd C dL_law_635 rfl ?_
      refine g_gd (fun hi148 => ?_)
      refine g_sld C S dL_law_636 rfl hi148 ?_
      refine g_callI [.int (xs (ixn (v3 + 1)))] C dL_law_637 rfl (tX10_keep (xl Γ) (xE Γ) (xs (ixn (v3 + 1))) u) cf_X10_keep rfl rfl ml_L_77 rfl (by decide) (Nat.le_of_ble_eq_true rfl) rfl (fun r150 u149 => ?_)
      refine g_aload_n C dL_law_640 rfl 2 rfl ?_
      refine g_aload_n C dL_law_641 rfl 0 rfl ?_
      refine g_iload_n C dL_law_642 rfl 3 rfl ?_
      refine g_iconst (v := 1) C dL_law_643 rfl (by decide) ?_
      refine g_iadd C dL_law_644 rfl ?_
      refine g_gd (fun hi151 => ?_)
      refine g_sld C S dL_law_645 rfl hi151 ?_
      refine g_callI [.int (xs (ixn (v3 + 1)))] C dL_law_646 rfl (tX11_keep (xl Γ) (xE Γ) (xs (ixn (v3 + 1))) u149) cf_X11_keep rfl rfl ml_L_80 rfl (by decide) (Nat.le_of_ble_eq_true rfl) rfl (fun r153 u152 => ?_)
      refine g_icmp_eq 1458 C dL_law_649 rfl (by decide) (fun c154 => ?_) (fun c154 => ?_)
      · refine g_iincL (fun v3_155 => [(3, .int v3_155), (0, .ref b), (1, .ref ((xE Γ).1 1)), (2, .ref ((xE Γ).1 74))]) C dL_law_1458 rfl Z.1 (by decide) (k := 3) rfl (iinc_5 _) (fun _ => rfl) (fun v3_155 => ?_)
        refine g_goto 18 C dL_law_1461 rfl (by decide) ?_
        refine g_sub (ls' := [(0, .ref b), (1, .ref ((xE Γ).1 1)), (2, .ref ((xE Γ).1 74)), (3, .int v3_155)]) [1, 2, 3, 0] rfl ?_
        exact hj18 v3_155 u152
      · refine g_iconst (v := 0) C dL_law_652 rfl (by decide) ?_
        exact g_none
    refine g_if (fun c156 => ?_) (fun c156 => ?_)
    · refine g_tabI 622 654 C dL_law_32 rfl (by rw [c156]; exact ⟨by decide, by decide, rfl⟩) (by decide) ?_
      refine g_aload_n C dL_law_654 rfl 1 rfl ?_
      refine g_aload_n C dL_law_655 rfl 0 rfl ?_
      refine g_iload_n C dL_law_656 rfl 3 rfl ?_
      refine g_iconst (v := 1) C dL_law_657 rfl (by decide) ?_
      refine g_iadd C dL_law_658 rfl ?_
      refine g_gd (fun hi157 => ?_)
      refine g_sld C S dL_law_659 rfl hi157 ?_
      refine g_callI [.int (xs (ixn (v3 + 1)))] C dL_law_660 rfl (tX10_goingOn (xl Γ) (xE Γ) (xs (ixn (v3 + 1))) u) cf_X10_goingOn rfl rfl ml_L_81 rfl (by decide) (Nat.le_of_ble_eq_true rfl) rfl (fun r159 u158 => ?_)
      refine g_aload_n C dL_law_663 rfl 2 rfl ?_
      refine g_aload_n C dL_law_664 rfl 0 rfl ?_
      refine g_iload_n C dL_law_665 rfl 3 rfl ?_
      refine g_iconst (v := 1) C dL_law_666 rfl (by decide) ?_
      refine g_iadd C dL_law_667 rfl ?_
      refine g_gd (fun hi160 => ?_)
      refine g_sld C S dL_law_668 rfl hi160 ?_
      refine g_callI [.int (xs (ixn (v3 + 1)))] C dL_law_669 rfl (tX11_goingOn (xl Γ) (xE Γ) (xs (ixn (v3 + 1))) u158) cf_X11_goingOn rfl rfl ml_L_84 rfl (by decide) (Nat.le_of_ble_eq_true rfl) rfl (fun r162 u161 => ?_)
      refine g_icmp_eq 1458 C dL_law_672 rfl (by decide) (fun c163 => ?_) (fun c163 => ?_)
      · refine g_iincL (fun v3_164 => [(3, .int v3_164), (0, .ref b), (1, .ref ((xE Γ).1 1)), (2, .ref ((xE Γ).1 74))]) C dL_law_1458 rfl Z.1 (by decide) (k := 3) rfl (iinc_5 _) (fun _ => rfl) (fun v3_164 => ?_)
        refine g_goto 18 C dL_law_1461 rfl (by decide) ?_
        refine g_sub (ls' := [(0, .ref b), (1, .ref ((xE Γ).1 1)), (2, .ref ((xE Γ).1 74)), (3, .int v3_164)]) [1, 2, 3, 0] rfl ?_
        exact hj18 v3_164 u161
      · refine g_iconst (v := 0) C dL_law_675 rfl (by decide) ?_
        exact g_none
    refine g_if (fun c165 => ?_) (fun c165 => ?_)
    · refine g_tabI 645 677 C dL_law_32 rfl (by rw [c165]; exact ⟨by decide, by decide, rfl⟩) (by decide) ?_
      refine g_aload_n C dL_law_677 rfl 1 rfl ?_
      refine g_aload_n C dL_law_678 rfl 0 rfl ?_
      refine g_iload_n C dL_law_679 rfl 3 rfl ?_
      refine g_iconst (v := 1) C dL_law_680 rfl (by decide) ?_
      refine g_iadd C dL_law_681 rfl ?_
      refine g_gd (fun hi166 => ?_)
      refine g_sld C S dL_law_682 rfl hi166 ?_
      refine g_callI [.int (xs (ixn (v3 + 1)))] C dL_law_683 rfl (tX10_blown (xl Γ) (xE Γ) (xs (ixn (v3 + 1))) u) cf_X10_blown rfl rfl ml_L_85 rfl (by decide) (Nat.le_of_ble_eq_true rfl) rfl (fun r168 u167 => ?_)
      refine g_aload_n C dL_law_686 rfl 2 rfl ?_
      refine g_aload_n C dL_law_687 rfl 0 rfl ?_
      refine g_iload_n C dL_law_688 rfl 3 rfl ?_
      refine g_iconst (v := 1) C dL_law_689 rfl (by decide) ?_
      refine g_iadd C dL_law_690 rfl ?_
      refine g_gd (fun hi169 => ?_)
      refine g_sld C S dL_law_691 rfl hi169 ?_
      refine g_callI [.int (xs (ixn (v3 + 1)))] C dL_law_692 rfl (tX11_blown (xl Γ) (xE Γ) (xs (ixn (v3 + 1))) u167) cf_X11_blown rfl rfl ml_L_88 rfl (by decide) (Nat.le_of_ble_eq_true rfl) rfl (fun r171 u170 => ?_)
      refine g_icmp_eq 1458 C dL_law_695 rfl (by decide) (fun c172 => ?_) (fun c172 => ?_)
      · refine g_iincL (fun v3_173 => [(3, .int v3_173), (0, .ref b), (1, .ref ((xE Γ).1 1)), (2, .ref ((xE Γ).1 74))]) C dL_law_1458 rfl Z.1 (by decide) (k := 3) rfl (iinc_5 _) (fun _ => rfl) (fun v3_173 => ?_)
        refine g_goto 18 C dL_law_1461 rfl (by decide) ?_
        refine g_sub (ls' := [(0, .ref b), (1, .ref ((xE Γ).1 1)), (2, .ref ((xE Γ).1 74)), (3, .int v3_173)]) [1, 2, 3, 0] rfl ?_
        exact hj18 v3_173 u170
      · refine g_iconst (v := 0) C dL_law_698 rfl (by decide) ?_
        exact g_none
    refine g_if (fun c174 => ?_) (fun c174 => ?_)
    · refine g_tabI 668 700 C dL_law_32 rfl (by rw [c174]; exact ⟨by decide, by decide, rfl⟩) (by decide) ?_
      refine g_aload_n C dL_law_700 rfl 1 rfl ?_
      refine g_aload_n C dL_law_701 rfl 0 rfl ?_
      refine g_iload_n C dL_law_702 rfl 3 rfl ?_
      refine g_iconst (v := 1) C dL_law_703 rfl (by decide) ?_
      refine g_iadd C dL_law_704 rfl ?_
      refine g_gd (fun hi175 => ?_)
      refine g_sld C S dL_law_705 rfl hi175 ?_
      refine g_aload_n C dL_law_706 rfl 0 rfl ?_
      refine g_iload_n C dL_law_707 rfl 3 rfl ?_
      refine g_iconst (v := 2) C dL_law_708 rfl (by decide) ?_
      refine g_iadd C dL_law_709 rfl ?_
      refine g_gd (fun hi176 => ?_)
      refine g_sld C S dL_law_710 rfl hi176 ?_
      refine g_aload_n C dL_law_711 rfl 0 rfl ?_
      refine g_iload_n C dL_law_712 rfl 3 rfl ?_
      refine g_iconst (v := 3) C dL_law_713 rfl (by decide) ?_
      refine g_iadd C dL_law_714 rfl ?_
      refine g_gd (fun hi177 => ?_)
      refine g_sld C S dL_law_715 rfl hi177 ?_
      refine g_callI [.int (xs (ixn (v3 + 1))), .int (xs (ixn (v3 + 2))), .int (xs (ixn (v3 + 3)))] C dL_law_716 rfl (tX10_two (xl Γ) (xE Γ) (xs (ixn (v3 + 1))) (xs (ixn (v3 + 2))) (xs (ixn (v3 + 3))) u) cf_X10_two rfl rfl ml_L_89 rfl (by decide) (Nat.le_of_ble_eq_true rfl) rfl (fun r179 u178 => ?_)
      refine g_aload_n C dL_law_719 rfl 2 rfl ?_
      refine g_aload_n C dL_law_720 rfl 0 rfl ?_
      refine g_iload_n C dL_law_721 rfl 3 rfl ?_
      refine g_iconst (v := 1) C dL_law_722 rfl (by decide) ?_
      refine g_iadd C dL_law_723 rfl ?_
      refine g_gd (fun hi180 => ?_)
      refine g_sld C S dL_law_724 rfl hi180 ?_
      refine g_aload_n C dL_law_725 rfl 0 rfl ?_
      refine g_iload_n C dL_law_726 rfl 3 rfl ?_
      refine g_iconst (v := 2) C dL_law_727 rfl (by decide) ?_
      refine g_iadd C dL_law_728 rfl ?_
      refine g_gd (fun hi181 => ?_)
      refine g_sld C S dL_law_729 rfl hi181 ?_
      refine g_aload_n C dL_law_730 rfl 0 rfl ?_
      refine g_iload_n C dL_law_731 rfl 3 rfl ?_
      refine g_iconst (v := 3) C dL_law_732 rfl (by decide) ?_
      refine g_iadd C dL_law_733 rfl ?_
      refine g_gd (fun hi182 => ?_)
      refine g_sld C S dL_law_734 rfl hi182 ?_
      refine g_callI [.int (xs (ixn (v3 + 1))), .int (xs (ixn (v3 + 2))), .int (xs (ixn (v3 + 3)))] C dL_law_735 rfl (tX11_two (xl Γ) (xE Γ) (xs (ixn (v3 + 1))) (xs (ixn (v3 + 2))) (xs (ixn (v3 + 3))) u178) cf_X11_two rfl rfl ml_L_92 rfl (by decide) (Nat.le_of_ble_eq_true rfl) rfl (fun r184 u183 => ?_)
      refine g_icmp_eq 1458 C dL_law_738 rfl (by decide) (fun c185 => ?_) (fun c185 => ?_)
      · refine g_iincL (fun v3_186 => [(3, .int v3_186), (0, .ref b), (1, .ref ((xE Γ).1 1)), (2, .ref ((xE Γ).1 74))]) C dL_law_1458 rfl Z.1 (by decide) (k := 3) rfl (iinc_5 _) (fun _ => rfl) (fun v3_186 => ?_)
        refine g_goto 18 C dL_law_1461 rfl (by decide) ?_
        refine g_sub (ls' := [(0, .ref b), (1, .ref ((xE Γ).1 1)), (2, .ref ((xE Γ).1 74)), (3, .int v3_186)]) [1, 2, 3, 0] rfl ?_
        exact hj18 v3_186 u183
      · refine g_iconst (v := 0) C dL_law_741 rfl (by decide) ?_
        exact g_none
    refine g_if (fun c187 => ?_) (fun c187 => ?_)
    · refine g_tabI 711 743 C dL_law_32 rfl (by rw [c187]; exact ⟨by decide, by decide, rfl⟩) (by decide) ?_
      refine g_aload_n C dL_law_743 rfl 1 rfl ?_
      refine g_aload_n C dL_law_744 rfl 0 rfl ?_
      refine g_iload_n C dL_law_745 rfl 3 rfl ?_
      refine g_iconst (v := 1) C dL_law_746 rfl (by decide) ?_
      refine g_iadd C dL_law_747 rfl ?_
      refine g_gd (fun hi188 => ?_)
      refine g_sld C S dL_law_748 rfl hi188 ?_
      refine g_callI [.int (xs (ixn (v3 + 1)))] C dL_law_749 rfl (tX10_swing (xl Γ) (xE Γ) (xs (ixn (v3 + 1))) u) cf_X10_swing rfl rfl ml_L_93 rfl (by decide) (Nat.le_of_ble_eq_true rfl) rfl (fun r190 u189 => ?_)
      refine g_aload_n C dL_law_752 rfl 2 rfl ?_
      refine g_aload_n C dL_law_753 rfl 0 rfl ?_
      refine g_iload_n C dL_law_754 rfl 3 rfl ?_
      refine g_iconst (v := 1) C dL_law_755 rfl (by decide) ?_
      refine g_iadd C dL_law_756 rfl ?_
      refine g_gd (fun hi191 => ?_)
      refine g_sld C S dL_law_757 rfl hi191 ?_
      refine g_callI [.int (xs (ixn (v3 + 1)))] C dL_law_758 rfl (tX11_swing (xl Γ) (xE Γ) (xs (ixn (v3 + 1))) u189) cf_X11_swing rfl rfl ml_L_96 rfl (by decide) (Nat.le_of_ble_eq_true rfl) rfl (fun r193 u192 => ?_)
      refine g_icmp_eq 1458 C dL_law_761 rfl (by decide) (fun c194 => ?_) (fun c194 => ?_)
      · refine g_iincL (fun v3_195 => [(3, .int v3_195), (0, .ref b), (1, .ref ((xE Γ).1 1)), (2, .ref ((xE Γ).1 74))]) C dL_law_1458 rfl Z.1 (by decide) (k := 3) rfl (iinc_5 _) (fun _ => rfl) (fun v3_195 => ?_)
        refine g_goto 18 C dL_law_1461 rfl (by decide) ?_
        refine g_sub (ls' := [(0, .ref b), (1, .ref ((xE Γ).1 1)), (2, .ref ((xE Γ).1 74)), (3, .int v3_195)]) [1, 2, 3, 0] rfl ?_
        exact hj18 v3_195 u192
      · refine g_iconst (v := 0) C dL_law_764 rfl (by decide) ?_
        exact g_none
    refine g_if (fun c196 => ?_) (fun c196 => ?_)
    · refine g_tabI 734 766 C dL_law_32 rfl (by rw [c196]; exact ⟨by decide, by decide, rfl⟩) (by decide) ?_
      refine g_aload_n C dL_law_766 rfl 1 rfl ?_
      refine g_callI [] C dL_law_767 rfl (tX10_calm (xl Γ) (xE Γ) u) cf_X10_calm rfl rfl ml_L_97 rfl (by decide) (Nat.le_of_ble_eq_true rfl) rfl (fun r198 u197 => ?_)
      refine g_aload_n C dL_law_770 rfl 2 rfl ?_
      refine g_callI [] C dL_law_771 rfl (tX11_calm (xl Γ) (xE Γ) u197) cf_X11_calm rfl rfl ml_L_100 rfl (by decide) (Nat.le_of_ble_eq_true rfl) rfl (fun r200 u199 => ?_)
      refine g_icmp_eq 1458 C dL_law_774 rfl (by decide) (fun c201 => ?_) (fun c201 => ?_)
      · refine g_iincL (fun v3_202 => [(3, .int v3_202), (0, .ref b), (1, .ref ((xE Γ).1 1)), (2, .ref ((xE Γ).1 74))]) C dL_law_1458 rfl Z.1 (by decide) (k := 3) rfl (iinc_5 _) (fun _ => rfl) (fun v3_202 => ?_)
        refine g_goto 18 C dL_law_1461 rfl (by decide) ?_
        refine g_sub (ls' := [(0, .ref b), (1, .ref ((xE Γ).1 1)), (2, .ref ((xE Γ).1 74)), (3, .int v3_202)]) [1, 2, 3, 0] rfl ?_
        exact hj18 v3_202 u199
      · refine g_iconst (v := 0) C dL_law_777 rfl (by decide) ?_
        exact g_none
    refine g_if (fun c203 => ?_) (fun c203 => ?_)
    · refine g_tabI 747 779 C dL_law_32 rfl (by rw [c203]; exact ⟨by decide, by decide, rfl⟩) (by decide) ?_
      refine g_aload_n C dL_law_779 rfl 1 rfl ?_
      refine g_callP [] C dL_law_780 rfl (tX10_out (xl Γ) (xE Γ) u) cf_X10_out rfl rfl ml_L_101 rfl (by decide) (Nat.le_of_ble_eq_true rfl) rfl (fun r204 => ?_)
      refine g_aload_n C dL_law_783 rfl 2 rfl ?_
      refine g_callI [] C dL_law_784 rfl (tX11_out (xl Γ) (xE Γ) u) cf_X11_out rfl rfl ml_L_104 rfl (by decide) (Nat.le_of_ble_eq_true rfl) rfl (fun r206 u205 => ?_)
      refine g_icmp_eq 1458 C dL_law_787 rfl (by decide) (fun c207 => ?_) (fun c207 => ?_)
      · refine g_iincL (fun v3_208 => [(3, .int v3_208), (0, .ref b), (1, .ref ((xE Γ).1 1)), (2, .ref ((xE Γ).1 74))]) C dL_law_1458 rfl Z.1 (by decide) (k := 3) rfl (iinc_5 _) (fun _ => rfl) (fun v3_208 => ?_)
        refine g_goto 18 C dL_law_1461 rfl (by decide) ?_
        refine g_sub (ls' := [(0, .ref b), (1, .ref ((xE Γ).1 1)), (2, .ref ((xE Γ).1 74)), (3, .int v3_208)]) [1, 2, 3, 0] rfl ?_
        exact hj18 v3_208 u205
      · refine g_iconst (v := 0) C dL_law_790 rfl (by decide) ?_
        exact g_none
    refine g_if (fun c209 => ?_) (fun c209 => ?_)
    · refine g_tabI 760 792 C dL_law_32 rfl (by rw [c209]; exact ⟨by decide, by decide, rfl⟩) (by decide) ?_
      refine g_aload_n C dL_law_792 rfl 1 rfl ?_
      refine g_aload_n C dL_law_793 rfl 0 rfl ?_
      refine g_iload_n C dL_law_794 rfl 3 rfl ?_
      refine g_iconst (v := 1) C dL_law_795 rfl (by decide) ?_
      refine g_iadd C dL_law_796 rfl ?_
      refine g_gd (fun hi210 => ?_)
      refine g_sld C S dL_law_797 rfl hi210 ?_
      refine g_aload_n C dL_law_798 rfl 0 rfl ?_
      refine g_iload_n C dL_law_799 rfl 3 rfl ?_
      refine g_iconst (v := 2) C dL_law_800 rfl (by decide) ?_
      refine g_iadd C dL_law_801 rfl ?_
      refine g_gd (fun hi211 => ?_)
      refine g_sld C S dL_law_802 rfl hi211 ?_
      refine g_aload_n C dL_law_803 rfl 0 rfl ?_
      refine g_iload_n C dL_law_804 rfl 3 rfl ?_
      refine g_iconst (v := 3) C dL_law_805 rfl (by decide) ?_
      refine g_iadd C dL_law_806 rfl ?_
      refine g_gd (fun hi212 => ?_)
      refine g_sld C S dL_law_807 rfl hi212 ?_
      refine g_callI [.int (xs (ixn (v3 + 1))), .int (xs (ixn (v3 + 2))), .int (xs (ixn (v3 + 3)))] C dL_law_808 rfl (tX10_road (xl Γ) (xE Γ) (xs (ixn (v3 + 1))) (xs (ixn (v3 + 2))) (xs (ixn (v3 + 3))) u) cf_X10_road rfl rfl ml_L_105 rfl (by decide) (Nat.le_of_ble_eq_true rfl) rfl (fun r214 u213 => ?_)
      refine g_aload_n C dL_law_811 rfl 2 rfl ?_
      refine g_aload_n C dL_law_812 rfl 0 rfl ?_
      refine g_iload_n C dL_law_813 rfl 3 rfl ?_
      refine g_iconst (v := 1) C dL_law_814 rfl (by decide) ?_
      refine g_iadd C dL_law_815 rfl ?_
      refine g_gd (fun hi215 => ?_)
      refine g_sld C S dL_law_816 rfl hi215 ?_
      refine g_aload_n C dL_law_817 rfl 0 rfl ?_
      refine g_iload_n C dL_law_818 rfl 3 rfl ?_
      refine g_iconst (v := 2) C dL_law_819 rfl (by decide) ?_
      refine g_iadd C dL_law_820 rfl ?_
      refine g_gd (fun hi216 => ?_)
      refine g_sld C S dL_law_821 rfl hi216 ?_
      refine g_aload_n C dL_law_822 rfl 0 rfl ?_
      refine g_iload_n C dL_law_823 rfl 3 rfl ?_
      refine g_iconst (v := 3) C dL_law_824 rfl (by decide) ?_
      refine g_iadd C dL_law_825 rfl ?_
      refine g_gd (fun hi217 => ?_)
      refine g_sld C S dL_law_826 rfl hi217 ?_
      refine g_callI [.int (xs (ixn (v3 + 1))), .int (xs (ixn (v3 + 2))), .int (xs (ixn (v3 + 3)))] C dL_law_827 rfl (tX11_road (xl Γ) (xE Γ) (xs (ixn (v3 + 1))) (xs (ixn (v3 + 2))) (xs (ixn (v3 + 3))) u213) cf_X11_road rfl rfl ml_L_108 rfl (by decide) (Nat.le_of_ble_eq_true rfl) rfl (fun r219 u218 => ?_)
      refine g_icmp_eq 1458 C dL_law_830 rfl (by decide) (fun c220 => ?_) (fun c220 => ?_)
      · refine g_iincL (fun v3_221 => [(3, .int v3_221), (0, .ref b), (1, .ref ((xE Γ).1 1)), (2, .ref ((xE Γ).1 74))]) C dL_law_1458 rfl Z.1 (by decide) (k := 3) rfl (iinc_5 _) (fun _ => rfl) (fun v3_221 => ?_)
        refine g_goto 18 C dL_law_1461 rfl (by decide) ?_
        refine g_sub (ls' := [(0, .ref b), (1, .ref ((xE Γ).1 1)), (2, .ref ((xE Γ).1 74)), (3, .int v3_221)]) [1, 2, 3, 0] rfl ?_
        exact hj18 v3_221 u218
      · refine g_iconst (v := 0) C dL_law_833 rfl (by decide) ?_
        exact g_none
    refine g_if (fun c222 => ?_) (fun c222 => ?_)
    · refine g_tabI 803 835 C dL_law_32 rfl (by rw [c222]; exact ⟨by decide, by decide, rfl⟩) (by decide) ?_
      refine g_aload_n C dL_law_835 rfl 1 rfl ?_
      refine g_aload_n C dL_law_836 rfl 0 rfl ?_
      refine g_iload_n C dL_law_837 rfl 3 rfl ?_
      refine g_iconst (v := 1) C dL_law_838 rfl (by decide) ?_
      refine g_iadd C dL_law_839 rfl ?_
      refine g_gd (fun hi223 => ?_)
      refine g_sld C S dL_law_840 rfl hi223 ?_
      refine g_callI [.int (xs (ixn (v3 + 1)))] C dL_law_841 rfl (tX10_car (xl Γ) (xE Γ) (xs (ixn (v3 + 1))) u) cf_X10_car rfl rfl ml_L_109 rfl (by decide) (Nat.le_of_ble_eq_true rfl) rfl (fun r225 u224 => ?_)
      refine g_aload_n C dL_law_844 rfl 2 rfl ?_
      refine g_aload_n C dL_law_845 rfl 0 rfl ?_
      refine g_iload_n C dL_law_846 rfl 3 rfl ?_
      refine g_iconst (v := 1) C dL_law_847 rfl (by decide) ?_
      refine g_iadd C dL_law_848 rfl ?_
      refine g_gd (fun hi226 => ?_)
      refine g_sld C S dL_law_849 rfl hi226 ?_
      refine g_callI [.int (xs (ixn (v3 + 1)))] C dL_law_850 rfl (tX11_car (xl Γ) (xE Γ) (xs (ixn (v3 + 1))) u224) cf_X11_car rfl rfl ml_L_112 rfl (by decide) (Nat.le_of_ble_eq_true rfl) rfl (fun r228 u227 => ?_)
      refine g_icmp_eq 1458 C dL_law_853 rfl (by decide) (fun c229 => ?_) (fun c229 => ?_)
      · refine g_iincL (fun v3_230 => [(3, .int v3_230), (0, .ref b), (1, .ref ((xE Γ).1 1)), (2, .ref ((xE Γ).1 74))]) C dL_law_1458 rfl Z.1 (by decide) (k := 3) rfl (iinc_5 _) (fun _ => rfl) (fun v3_230 => ?_)
        refine g_goto 18 C dL_law_1461 rfl (by decide) ?_
        refine g_sub (ls' := [(0, .ref b), (1, .ref ((xE Γ).1 1)), (2, .ref ((xE Γ).1 74)), (3, .int v3_230)]) [1, 2, 3, 0] rfl ?_
        exact hj18 v3_230 u227
      · refine g_iconst (v := 0) C dL_law_856 rfl (by decide) ?_
        exact g_none
    refine g_if (fun c231 => ?_) (fun c231 => ?_)
    · refine g_tabI 826 858 C dL_law_32 rfl (by rw [c231]; exact ⟨by decide, by decide, rfl⟩) (by decide) ?_
      refine g_aload_n C dL_law_858 rfl 1 rfl ?_
      refine g_aload_n C dL_law_859 rfl 0 rfl ?_
      refine g_iload_n C dL_law_860 rfl 3 rfl ?_
      refine g_iconst (v := 1) C dL_law_861 rfl (by decide) ?_
      refine g_iadd C dL_law_862 rfl ?_
      refine g_gd (fun hi232 => ?_)
      refine g_sld C S dL_law_863 rfl hi232 ?_
      refine g_callI [.int (xs (ixn (v3 + 1)))] C dL_law_864 rfl (tX10_drive (xl Γ) (xE Γ) (xs (ixn (v3 + 1))) u) cf_X10_drive rfl rfl ml_L_113 rfl (by decide) (Nat.le_of_ble_eq_true rfl) rfl (fun r234 u233 => ?_)
      refine g_aload_n C dL_law_867 rfl 2 rfl ?_
      refine g_aload_n C dL_law_868 rfl 0 rfl ?_
      refine g_iload_n C dL_law_869 rfl 3 rfl ?_
      refine g_iconst (v := 1) C dL_law_870 rfl (by decide) ?_
      refine g_iadd C dL_law_871 rfl ?_
      refine g_gd (fun hi235 => ?_)
      refine g_sld C S dL_law_872 rfl hi235 ?_
      refine g_callI [.int (xs (ixn (v3 + 1)))] C dL_law_873 rfl (tX11_drive (xl Γ) (xE Γ) (xs (ixn (v3 + 1))) u233) cf_X11_drive rfl rfl ml_L_116 rfl (by decide) (Nat.le_of_ble_eq_true rfl) rfl (fun r237 u236 => ?_)
      refine g_icmp_eq 1458 C dL_law_876 rfl (by decide) (fun c238 => ?_) (fun c238 => ?_)
      · refine g_iincL (fun v3_239 => [(3, .int v3_239), (0, .ref b), (1, .ref ((xE Γ).1 1)), (2, .ref ((xE Γ).1 74))]) C dL_law_1458 rfl Z.1 (by decide) (k := 3) rfl (iinc_5 _) (fun _ => rfl) (fun v3_239 => ?_)
        refine g_goto 18 C dL_law_1461 rfl (by decide) ?_
        refine g_sub (ls' := [(0, .ref b), (1, .ref ((xE Γ).1 1)), (2, .ref ((xE Γ).1 74)), (3, .int v3_239)]) [1, 2, 3, 0] rfl ?_
        exact hj18 v3_239 u236
      · refine g_iconst (v := 0) C dL_law_879 rfl (by decide) ?_
        exact g_none
    refine g_if (fun c240 => ?_) (fun c240 => ?_)
    · refine g_tabI 849 881 C dL_law_32 rfl (by rw [c240]; exact ⟨by decide, by decide, rfl⟩) (by decide) ?_
      refine g_aload_n C dL_law_881 rfl 1 rfl ?_
      refine g_callI [] C dL_law_882 rfl (tX10_waitAt (xl Γ) (xE Γ) u) cf_X10_waitAt rfl rfl ml_L_117 rfl (by decide) (Nat.le_of_ble_eq_true rfl) rfl (fun r242 u241 => ?_)
      refine g_aload_n C dL_law_885 rfl 2 rfl ?_
      refine g_callI [] C dL_law_886 rfl (tX11_waitAt (xl Γ) (xE Γ) u241) cf_X11_waitAt rfl rfl ml_L_120 rfl (by decide) (Nat.le_of_ble_eq_true rfl) rfl (fun r244 u243 => ?_)
      refine g_icmp_eq 1458 C dL_law_889 rfl (by decide) (fun c245 => ?_) (fun c245 => ?_)
      · refine g_iincL (fun v3_246 => [(3, .int v3_246), (0, .ref b), (1, .ref ((xE Γ).1 1)), (2, .ref ((xE Γ).1 74))]) C dL_law_1458 rfl Z.1 (by decide) (k := 3) rfl (iinc_5 _) (fun _ => rfl) (fun v3_246 => ?_)
        refine g_goto 18 C dL_law_1461 rfl (by decide) ?_
        refine g_sub (ls' := [(0, .ref b), (1, .ref ((xE Γ).1 1)), (2, .ref ((xE Γ).1 74)), (3, .int v3_246)]) [1, 2, 3, 0] rfl ?_
        exact hj18 v3_246 u243
      · refine g_iconst (v := 0) C dL_law_892 rfl (by decide) ?_
        exact g_none
    refine g_if (fun c247 => ?_) (fun c247 => ?_)
    · refine g_tabI 862 894 C dL_law_32 rfl (by rw [c247]; exact ⟨by decide, by decide, rfl⟩) (by decide) ?_
      refine g_aload_n C dL_law_894 rfl 1 rfl ?_
      refine g_aload_n C dL_law_895 rfl 0 rfl ?_
      refine g_iload_n C dL_law_896 rfl 3 rfl ?_
      refine g_iconst (v := 1) C dL_law_897 rfl (by decide) ?_
      refine g_iadd C dL_law_898 rfl ?_
      refine g_gd (fun hi248 => ?_)
      refine g_sld C S dL_law_899 rfl hi248 ?_
      refine g_callJ [.int (xs (ixn (v3 + 1)))] C dL_law_900 rfl (tX10_meanWait (xl Γ) (xE Γ) (xs (ixn (v3 + 1))) u) cf_X10_meanWait rfl rfl ml_L_121 rfl (by decide) (Nat.le_of_ble_eq_true rfl) rfl (fun r250 u249 => ?_)
      refine g_aload_n C dL_law_903 rfl 2 rfl ?_
      refine g_aload_n C dL_law_904 rfl 0 rfl ?_
      refine g_iload_n C dL_law_905 rfl 3 rfl ?_
      refine g_iconst (v := 1) C dL_law_906 rfl (by decide) ?_
      refine g_iadd C dL_law_907 rfl ?_
      refine g_gd (fun hi251 => ?_)
      refine g_sld C S dL_law_908 rfl hi251 ?_
      refine g_callJ [.int (xs (ixn (v3 + 1)))] C dL_law_909 rfl (tX11_meanWait (xl Γ) (xE Γ) (xs (ixn (v3 + 1))) u249) cf_X11_meanWait rfl rfl ml_L_125 rfl (by decide) (Nat.le_of_ble_eq_true rfl) rfl (fun r253 u252 => ?_)
      refine g_lcmp C dL_law_912 rfl ?_
      refine g_if_eq 1458 C dL_law_913 rfl (by decide) (fun c254 => ?_) (fun c254 => ?_)
      · refine g_iincL (fun v3_255 => [(3, .int v3_255), (0, .ref b), (1, .ref ((xE Γ).1 1)), (2, .ref ((xE Γ).1 74))]) C dL_law_1458 rfl Z.1 (by decide) (k := 3) rfl (iinc_5 _) (fun _ => rfl) (fun v3_255 => ?_)
        refine g_goto 18 C dL_law_1461 rfl (by decide) ?_
        refine g_sub (ls' := [(0, .ref b), (1, .ref ((xE Γ).1 1)), (2, .ref ((xE Γ).1 74)), (3, .int v3_255)]) [1, 2, 3, 0] rfl ?_
        exact hj18 v3_255 u252
      · refine g_iconst (v := 0) C dL_law_916 rfl (by decide) ?_
        exact g_none
    refine g_if (fun c256 => ?_) (fun c256 => ?_)
    · refine g_tabI 886 918 C dL_law_32 rfl (by rw [c256]; exact ⟨by decide, by decide, rfl⟩) (by decide) ?_
      refine g_aload_n C dL_law_918 rfl 1 rfl ?_
      refine g_aload_n C dL_law_919 rfl 0 rfl ?_
      refine g_iload_n C dL_law_920 rfl 3 rfl ?_
      refine g_iconst (v := 1) C dL_law_921 rfl (by decide) ?_
      refine g_iadd C dL_law_922 rfl ?_
      refine g_gd (fun hi257 => ?_)
      refine g_sld C S dL_law_923 rfl hi257 ?_
      refine g_aload_n C dL_law_924 rfl 0 rfl ?_
      refine g_iload_n C dL_law_925 rfl 3 rfl ?_
      refine g_iconst (v := 2) C dL_law_926 rfl (by decide) ?_
      refine g_iadd C dL_law_927 rfl ?_
      refine g_gd (fun hi258 => ?_)
      refine g_sld C S dL_law_928 rfl hi258 ?_
      refine g_callI [.int (xs (ixn (v3 + 1))), .int (xs (ixn (v3 + 2)))] C dL_law_929 rfl (tX10_turned (xl Γ) (xE Γ) (xs (ixn (v3 + 1))) (xs (ixn (v3 + 2))) u) cf_X10_turned rfl rfl ml_L_126 rfl (by decide) (Nat.le_of_ble_eq_true rfl) rfl (fun r260 u259 => ?_)
      refine g_aload_n C dL_law_932 rfl 2 rfl ?_
      refine g_aload_n C dL_law_933 rfl 0 rfl ?_
      refine g_iload_n C dL_law_934 rfl 3 rfl ?_
      refine g_iconst (v := 1) C dL_law_935 rfl (by decide) ?_
      refine g_iadd C dL_law_936 rfl ?_
      refine g_gd (fun hi261 => ?_)
      refine g_sld C S dL_law_937 rfl hi261 ?_
      refine g_aload_n C dL_law_938 rfl 0 rfl ?_
      refine g_iload_n C dL_law_939 rfl 3 rfl ?_
      refine g_iconst (v := 2) C dL_law_940 rfl (by decide) ?_
      refine g_iadd C dL_law_941 rfl ?_
      refine g_gd (fun hi262 => ?_)
      refine g_sld C S dL_law_942 rfl hi262 ?_
      refine g_callI [.int (xs (ixn (v3 + 1))), .int (xs (ixn (v3 + 2)))] C dL_law_943 rfl (tX11_turned (xl Γ) (xE Γ) (xs (ixn (v3 + 1))) (xs (ixn (v3 + 2))) u259) cf_X11_turned rfl rfl ml_L_129 rfl (by decide) (Nat.le_of_ble_eq_true rfl) rfl (fun r264 u263 => ?_)
      refine g_icmp_eq 1458 C dL_law_946 rfl (by decide) (fun c265 => ?_) (fun c265 => ?_)
      · refine g_iincL (fun v3_266 => [(3, .int v3_266), (0, .ref b), (1, .ref ((xE Γ).1 1)), (2, .ref ((xE Γ).1 74))]) C dL_law_1458 rfl Z.1 (by decide) (k := 3) rfl (iinc_5 _) (fun _ => rfl) (fun v3_266 => ?_)
        refine g_goto 18 C dL_law_1461 rfl (by decide) ?_
        refine g_sub (ls' := [(0, .ref b), (1, .ref ((xE Γ).1 1)), (2, .ref ((xE Γ).1 74)), (3, .int v3_266)]) [1, 2, 3, 0] rfl ?_
        exact hj18 v3_266 u263
      · refine g_iconst (v := 0) C dL_law_949 rfl (by decide) ?_
        exact g_none
    refine g_if (fun c267 => ?_) (fun c267 => ?_)
    · refine g_tabI 919 951 C dL_law_32 rfl (by rw [c267]; exact ⟨by decide, by decide, rfl⟩) (by decide) ?_
      refine g_aload_n C dL_law_951 rfl 1 rfl ?_
      refine g_aload_n C dL_law_952 rfl 0 rfl ?_
      refine g_iload_n C dL_law_953 rfl 3 rfl ?_
      refine g_iconst (v := 1) C dL_law_954 rfl (by decide) ?_
      refine g_iadd C dL_law_955 rfl ?_
      refine g_gd (fun hi268 => ?_)
      refine g_sld C S dL_law_956 rfl hi268 ?_
      refine g_callI [.int (xs (ixn (v3 + 1)))] C dL_law_957 rfl (tX10_track (xl Γ) (xE Γ) (xs (ixn (v3 + 1))) u) cf_X10_track rfl rfl ml_L_130 rfl (by decide) (Nat.le_of_ble_eq_true rfl) rfl (fun r270 u269 => ?_)
      refine g_aload_n C dL_law_960 rfl 2 rfl ?_
      refine g_aload_n C dL_law_961 rfl 0 rfl ?_
      refine g_iload_n C dL_law_962 rfl 3 rfl ?_
      refine g_iconst (v := 1) C dL_law_963 rfl (by decide) ?_
      refine g_iadd C dL_law_964 rfl ?_
      refine g_gd (fun hi271 => ?_)
      refine g_sld C S dL_law_965 rfl hi271 ?_
      refine g_callI [.int (xs (ixn (v3 + 1)))] C dL_law_966 rfl (tX11_track (xl Γ) (xE Γ) (xs (ixn (v3 + 1))) u269) cf_X11_track rfl rfl ml_L_133 rfl (by decide) (Nat.le_of_ble_eq_true rfl) rfl (fun r273 u272 => ?_)
      refine g_icmp_eq 1458 C dL_law_969 rfl (by decide) (fun c274 => ?_) (fun c274 => ?_)
      · refine g_iincL (fun v3_275 => [(3, .int v3_275), (0, .ref b), (1, .ref ((xE Γ).1 1)), (2, .ref ((xE Γ).1 74))]) C dL_law_1458 rfl Z.1 (by decide) (k := 3) rfl (iinc_5 _) (fun _ => rfl) (fun v3_275 => ?_)
        refine g_goto 18 C dL_law_1461 rfl (by decide) ?_
        refine g_sub (ls' := [(0, .ref b), (1, .ref ((xE Γ).1 1)), (2, .ref ((xE Γ).1 74)), (3, .int v3_275)]) [1, 2, 3, 0] rfl ?_
        exact hj18 v3_275 u272
      · refine g_iconst (v := 0) C dL_law_972 rfl (by decide) ?_
        exact g_none
    refine g_if (fun c276 => ?_) (fun c276 => ?_)
    · refine g_tabI 942 974 C dL_law_32 rfl (by rw [c276]; exact ⟨by decide, by decide, rfl⟩) (by decide) ?_
      refine g_aload_n C dL_law_974 rfl 1 rfl ?_
      refine g_aload_n C dL_law_975 rfl 0 rfl ?_
      refine g_iload_n C dL_law_976 rfl 3 rfl ?_
      refine g_iconst (v := 1) C dL_law_977 rfl (by decide) ?_
      refine g_iadd C dL_law_978 rfl ?_
      refine g_gd (fun hi277 => ?_)
      refine g_sld C S dL_law_979 rfl hi277 ?_
      refine g_callI [.int (xs (ixn (v3 + 1)))] C dL_law_980 rfl (tX10_row (xl Γ) (xE Γ) (xs (ixn (v3 + 1))) u) cf_X10_row rfl rfl ml_L_134 rfl (by decide) (Nat.le_of_ble_eq_true rfl) rfl (fun r279 u278 => ?_)
      refine g_aload_n C dL_law_983 rfl 2 rfl ?_
      refine g_aload_n C dL_law_984 rfl 0 rfl ?_
      refine g_iload_n C dL_law_985 rfl 3 rfl ?_
      refine g_iconst (v := 1) C dL_law_986 rfl (by decide) ?_
      refine g_iadd C dL_law_987 rfl ?_
      refine g_gd (fun hi280 => ?_)
      refine g_sld C S dL_law_988 rfl hi280 ?_
      refine g_callI [.int (xs (ixn (v3 + 1)))] C dL_law_989 rfl (tX11_row (xl Γ) (xE Γ) (xs (ixn (v3 + 1))) u278) cf_X11_row rfl rfl ml_L_137 rfl (by decide) (Nat.le_of_ble_eq_true rfl) rfl (fun r282 u281 => ?_)
      refine g_icmp_eq 1458 C dL_law_992 rfl (by decide) (fun c283 => ?_) (fun c283 => ?_)
      · refine g_iincL (fun v3_284 => [(3, .int v3_284), (0, .ref b), (1, .ref ((xE Γ).1 1)), (2, .ref ((xE Γ).1 74))]) C dL_law_1458 rfl Z.1 (by decide) (k := 3) rfl (iinc_5 _) (fun _ => rfl) (fun v3_284 => ?_)
        refine g_goto 18 C dL_law_1461 rfl (by decide) ?_
        refine g_sub (ls' := [(0, .ref b), (1, .ref ((xE Γ).1 1)), (2, .ref ((xE Γ).1 74)), (3, .int v3_284)]) [1, 2, 3, 0] rfl ?_
        exact hj18 v3_284 u281
      · refine g_iconst (v := 0) C dL_law_995 rfl (by decide) ?_
        exact g_none
    refine g_if (fun c285 => ?_) (fun c285 => ?_)
    · refine g_tabI 965 997 C dL_law_32 rfl (by rw [c285]; exact ⟨by decide, by decide, rfl⟩) (by decide) ?_
      refine g_aload_n C dL_law_997 rfl 1 rfl ?_
      refine g_callI [] C dL_law_998 rfl (tX10_judge (xl Γ) (xE Γ) u) cf_X10_judge rfl rfl ml_L_138 rfl (by decide) (Nat.le_of_ble_eq_true rfl) rfl (fun r287 u286 => ?_)
      refine g_aload_n C dL_law_1001 rfl 2 rfl ?_
      refine g_callI [] C dL_law_1002 rfl (tX11_judge (xl Γ) (xE Γ) u286) cf_X11_judge rfl rfl ml_L_141 rfl (by decide) (Nat.le_of_ble_eq_true rfl) rfl (fun r289 u288 => ?_)
      refine g_icmp_eq 1458 C dL_law_1005 rfl (by decide) (fun c290 => ?_) (fun c290 => ?_)
      · refine g_iincL (fun v3_291 => [(3, .int v3_291), (0, .ref b), (1, .ref ((xE Γ).1 1)), (2, .ref ((xE Γ).1 74))]) C dL_law_1458 rfl Z.1 (by decide) (k := 3) rfl (iinc_5 _) (fun _ => rfl) (fun v3_291 => ?_)
        refine g_goto 18 C dL_law_1461 rfl (by decide) ?_
        refine g_sub (ls' := [(0, .ref b), (1, .ref ((xE Γ).1 1)), (2, .ref ((xE Γ).1 74)), (3, .int v3_291)]) [1, 2, 3, 0] rfl ?_
        exact hj18 v3_291 u288
      · refine g_iconst (v := 0) C dL_law_1008 rfl (by decide) ?_
        exact g_none
    refine g_if (fun c292 => ?_) (fun c292 => ?_)
    · refine g_tabI 978 1010 C dL_law_32 rfl (by rw [c292]; exact ⟨by decide, by decide, rfl⟩) (by decide) ?_
      refine g_aload_n C dL_law_1010 rfl 1 rfl ?_
      refine g_callI [] C dL_law_1011 rfl (tX10_clear (xl Γ) (xE Γ) u) cf_X10_clear rfl rfl ml_L_142 rfl (by decide) (Nat.le_of_ble_eq_true rfl) rfl (fun r294 u293 => ?_)
      refine g_aload_n C dL_law_1014 rfl 2 rfl ?_
      refine g_callI [] C dL_law_1015 rfl (tX11_clear (xl Γ) (xE Γ) u293) cf_X11_clear rfl rfl ml_L_145 rfl (by decide) (Nat.le_of_ble_eq_true rfl) rfl (fun r296 u295 => ?_)
      refine g_icmp_eq 1458 C dL_law_1018 rfl (by decide) (fun c297 => ?_) (fun c297 => ?_)
      · refine g_iincL (fun v3_298 => [(3, .int v3_298), (0, .ref b), (1, .ref ((xE Γ).1 1)), (2, .ref ((xE Γ).1 74))]) C dL_law_1458 rfl Z.1 (by decide) (k := 3) rfl (iinc_5 _) (fun _ => rfl) (fun v3_298 => ?_)
        refine g_goto 18 C dL_law_1461 rfl (by decide) ?_
        refine g_sub (ls' := [(0, .ref b), (1, .ref ((xE Γ).1 1)), (2, .ref ((xE Γ).1 74)), (3, .int v3_298)]) [1, 2, 3, 0] rfl ?_
        exact hj18 v3_298 u295
      · refine g_iconst (v := 0) C dL_law_1021 rfl (by decide) ?_
        exact g_none
    refine g_if (fun c299 => ?_) (fun c299 => ?_)
    · refine g_tabI 991 1023 C dL_law_32 rfl (by rw [c299]; exact ⟨by decide, by decide, rfl⟩) (by decide) ?_
      refine g_aload_n C dL_law_1023 rfl 1 rfl ?_
      refine g_aload_n C dL_law_1024 rfl 0 rfl ?_
      refine g_iload_n C dL_law_1025 rfl 3 rfl ?_
      refine g_iconst (v := 1) C dL_law_1026 rfl (by decide) ?_
      refine g_iadd C dL_law_1027 rfl ?_
      refine g_gd (fun hi300 => ?_)
      refine g_sld C S dL_law_1028 rfl hi300 ?_
      refine g_aload_n C dL_law_1029 rfl 0 rfl ?_
      refine g_iload_n C dL_law_1030 rfl 3 rfl ?_
      refine g_iconst (v := 2) C dL_law_1031 rfl (by decide) ?_
      refine g_iadd C dL_law_1032 rfl ?_
      refine g_gd (fun hi301 => ?_)
      refine g_sld C S dL_law_1033 rfl hi301 ?_
      refine g_aload_n C dL_law_1034 rfl 0 rfl ?_
      refine g_iload_n C dL_law_1035 rfl 3 rfl ?_
      refine g_iconst (v := 3) C dL_law_1036 rfl (by decide) ?_
      refine g_iadd C dL_law_1037 rfl ?_
      refine g_gd (fun hi302 => ?_)
      refine g_sld C S dL_law_1038 rfl hi302 ?_
      refine g_callI [.int (xs (ixn (v3 + 1))), .int (xs (ixn (v3 + 2))), .int (xs (ixn (v3 + 3)))] C dL_law_1039 rfl (tX10_lots (xl Γ) (xE Γ) (xs (ixn (v3 + 1))) (xs (ixn (v3 + 2))) (xs (ixn (v3 + 3))) u) cf_X10_lots rfl rfl ml_L_146 rfl (by decide) (Nat.le_of_ble_eq_true rfl) rfl (fun r304 u303 => ?_)
      refine g_aload_n C dL_law_1042 rfl 2 rfl ?_
      refine g_aload_n C dL_law_1043 rfl 0 rfl ?_
      refine g_iload_n C dL_law_1044 rfl 3 rfl ?_
      refine g_iconst (v := 1) C dL_law_1045 rfl (by decide) ?_
      refine g_iadd C dL_law_1046 rfl ?_
      refine g_gd (fun hi305 => ?_)
      refine g_sld C S dL_law_1047 rfl hi305 ?_
      refine g_aload_n C dL_law_1048 rfl 0 rfl ?_
      refine g_iload_n C dL_law_1049 rfl 3 rfl ?_
      refine g_iconst (v := 2) C dL_law_1050 rfl (by decide) ?_
      refine g_iadd C dL_law_1051 rfl ?_
      refine g_gd (fun hi306 => ?_)
      refine g_sld C S dL_law_1052 rfl hi306 ?_
      refine g_aload_n C dL_law_1053 rfl 0 rfl ?_
      refine g_iload_n C dL_law_1054 rfl 3 rfl ?_
      refine g_iconst (v := 3) C dL_law_1055 rfl (by decide) ?_
      refine g_iadd C dL_law_1056 rfl ?_
      refine g_gd (fun hi307 => ?_)
      refine g_sld C S dL_law_1057 rfl hi307 ?_
      refine g_callI [.int (xs (ixn (v3 + 1))), .int (xs (ixn (v3 + 2))), .int (xs (ixn (v3 + 3)))] C dL_law_1058 rfl (tX11_lots (xl Γ) (xE Γ) (xs (ixn (v3 + 1))) (xs (ixn (v3 + 2))) (xs (ixn (v3 + 3))) u303) cf_X11_lots rfl rfl ml_L_149 rfl (by decide) (Nat.le_of_ble_eq_true rfl) rfl (fun r309 u308 => ?_)
      refine g_icmp_eq 1458 C dL_law_1061 rfl (by decide) (fun c310 => ?_) (fun c310 => ?_)
      · refine g_iincL (fun v3_311 => [(3, .int v3_311), (0, .ref b), (1, .ref ((xE Γ).1 1)), (2, .ref ((xE Γ).1 74))]) C dL_law_1458 rfl Z.1 (by decide) (k := 3) rfl (iinc_5 _) (fun _ => rfl) (fun v3_311 => ?_)
        refine g_goto 18 C dL_law_1461 rfl (by decide) ?_
        refine g_sub (ls' := [(0, .ref b), (1, .ref ((xE Γ).1 1)), (2, .ref ((xE Γ).1 74)), (3, .int v3_311)]) [1, 2, 3, 0] rfl ?_
        exact hj18 v3_311 u308
      · refine g_iconst (v := 0) C dL_law_1064 rfl (by decide) ?_
        exact g_none
    refine g_if (fun c312 => ?_) (fun c312 => ?_)
    · refine g_tabI 1034 1066 C dL_law_32 rfl (by rw [c312]; exact ⟨by decide, by decide, rfl⟩) (by decide) ?_
      refine g_aload_n C dL_law_1066 rfl 1 rfl ?_
      refine g_aload_n C dL_law_1067 rfl 0 rfl ?_
      refine g_iload_n C dL_law_1068 rfl 3 rfl ?_
      refine g_iconst (v := 1) C dL_law_1069 rfl (by decide) ?_
      refine g_iadd C dL_law_1070 rfl ?_
      refine g_gd (fun hi313 => ?_)
      refine g_sld C S dL_law_1071 rfl hi313 ?_
      refine g_callI [.int (xs (ixn (v3 + 1)))] C dL_law_1072 rfl (tX10_crew (xl Γ) (xE Γ) (xs (ixn (v3 + 1))) u) cf_X10_crew rfl rfl ml_L_150 rfl (by decide) (Nat.le_of_ble_eq_true rfl) rfl (fun r315 u314 => ?_)
      refine g_aload_n C dL_law_1075 rfl 2 rfl ?_
      refine g_aload_n C dL_law_1076 rfl 0 rfl ?_
      refine g_iload_n C dL_law_1077 rfl 3 rfl ?_
      refine g_iconst (v := 1) C dL_law_1078 rfl (by decide) ?_
      refine g_iadd C dL_law_1079 rfl ?_
      refine g_gd (fun hi316 => ?_)
      refine g_sld C S dL_law_1080 rfl hi316 ?_
      refine g_callI [.int (xs (ixn (v3 + 1)))] C dL_law_1081 rfl (tX11_crew (xl Γ) (xE Γ) (xs (ixn (v3 + 1))) u314) cf_X11_crew rfl rfl ml_L_153 rfl (by decide) (Nat.le_of_ble_eq_true rfl) rfl (fun r318 u317 => ?_)
      refine g_icmp_eq 1458 C dL_law_1084 rfl (by decide) (fun c319 => ?_) (fun c319 => ?_)
      · refine g_iincL (fun v3_320 => [(3, .int v3_320), (0, .ref b), (1, .ref ((xE Γ).1 1)), (2, .ref ((xE Γ).1 74))]) C dL_law_1458 rfl Z.1 (by decide) (k := 3) rfl (iinc_5 _) (fun _ => rfl) (fun v3_320 => ?_)
        refine g_goto 18 C dL_law_1461 rfl (by decide) ?_
        refine g_sub (ls' := [(0, .ref b), (1, .ref ((xE Γ).1 1)), (2, .ref ((xE Γ).1 74)), (3, .int v3_320)]) [1, 2, 3, 0] rfl ?_
        exact hj18 v3_320 u317
      · refine g_iconst (v := 0) C dL_law_1087 rfl (by decide) ?_
        exact g_none
    refine g_if (fun c321 => ?_) (fun c321 => ?_)
    · refine g_tabI 1057 1089 C dL_law_32 rfl (by rw [c321]; exact ⟨by decide, by decide, rfl⟩) (by decide) ?_
      refine g_aload_n C dL_law_1089 rfl 1 rfl ?_
      refine g_callI [] C dL_law_1090 rfl (tX10_whichLag (xl Γ) (xE Γ) u) cf_X10_whichLag rfl rfl ml_L_154 rfl (by decide) (Nat.le_of_ble_eq_true rfl) rfl (fun r323 u322 => ?_)
      refine g_aload_n C dL_law_1093 rfl 2 rfl ?_
      refine g_callI [] C dL_law_1094 rfl (tX11_whichLag (xl Γ) (xE Γ) u322) cf_X11_whichLag rfl rfl ml_L_157 rfl (by decide) (Nat.le_of_ble_eq_true rfl) rfl (fun r325 u324 => ?_)
      refine g_icmp_eq 1458 C dL_law_1097 rfl (by decide) (fun c326 => ?_) (fun c326 => ?_)
      · refine g_iincL (fun v3_327 => [(3, .int v3_327), (0, .ref b), (1, .ref ((xE Γ).1 1)), (2, .ref ((xE Γ).1 74))]) C dL_law_1458 rfl Z.1 (by decide) (k := 3) rfl (iinc_5 _) (fun _ => rfl) (fun v3_327 => ?_)
        refine g_goto 18 C dL_law_1461 rfl (by decide) ?_
        refine g_sub (ls' := [(0, .ref b), (1, .ref ((xE Γ).1 1)), (2, .ref ((xE Γ).1 74)), (3, .int v3_327)]) [1, 2, 3, 0] rfl ?_
        exact hj18 v3_327 u324
      · refine g_iconst (v := 0) C dL_law_1100 rfl (by decide) ?_
        exact g_none
    refine g_if (fun c328 => ?_) (fun c328 => ?_)
    · refine g_tabI 1070 1102 C dL_law_32 rfl (by rw [c328]; exact ⟨by decide, by decide, rfl⟩) (by decide) ?_
      refine g_aload_n C dL_law_1102 rfl 1 rfl ?_
      refine g_aload_n C dL_law_1103 rfl 0 rfl ?_
      refine g_iload_n C dL_law_1104 rfl 3 rfl ?_
      refine g_iconst (v := 1) C dL_law_1105 rfl (by decide) ?_
      refine g_iadd C dL_law_1106 rfl ?_
      refine g_gd (fun hi329 => ?_)
      refine g_sld C S dL_law_1107 rfl hi329 ?_
      refine g_aload_n C dL_law_1108 rfl 0 rfl ?_
      refine g_iload_n C dL_law_1109 rfl 3 rfl ?_
      refine g_iconst (v := 2) C dL_law_1110 rfl (by decide) ?_
      refine g_iadd C dL_law_1111 rfl ?_
      refine g_gd (fun hi330 => ?_)
      refine g_sld C S dL_law_1112 rfl hi330 ?_
      refine g_aload_n C dL_law_1113 rfl 0 rfl ?_
      refine g_iload_n C dL_law_1114 rfl 3 rfl ?_
      refine g_iconst (v := 3) C dL_law_1115 rfl (by decide) ?_
      refine g_iadd C dL_law_1116 rfl ?_
      refine g_gd (fun hi331 => ?_)
      refine g_sld C S dL_law_1117 rfl hi331 ?_
      refine g_aload_n C dL_law_1118 rfl 0 rfl ?_
      refine g_iload_n C dL_law_1119 rfl 3 rfl ?_
      refine g_iconst (v := 4) C dL_law_1120 rfl (by decide) ?_
      refine g_iadd C dL_law_1121 rfl ?_
      refine g_gd (fun hi332 => ?_)
      refine g_sld C S dL_law_1122 rfl hi332 ?_
      refine g_callI [.int (xs (ixn (v3 + 1))), .int (xs (ixn (v3 + 2))), .int (xs (ixn (v3 + 3))), .int (xs (ixn (v3 + 4)))] C dL_law_1123 rfl (tX10_windFor (xl Γ) (xE Γ) (xs (ixn (v3 + 1))) (xs (ixn (v3 + 2))) (xs (ixn (v3 + 3))) (xs (ixn (v3 + 4))) u) cf_X10_windFor rfl rfl ml_L_158 rfl (by decide) (Nat.le_of_ble_eq_true rfl) rfl (fun r334 u333 => ?_)
      refine g_aload_n C dL_law_1126 rfl 2 rfl ?_
      refine g_aload_n C dL_law_1127 rfl 0 rfl ?_
      refine g_iload_n C dL_law_1128 rfl 3 rfl ?_
      refine g_iconst (v := 1) C dL_law_1129 rfl (by decide) ?_
      refine g_iadd C dL_law_1130 rfl ?_
      refine g_gd (fun hi335 => ?_)
      refine g_sld C S dL_law_1131 rfl hi335 ?_
      refine g_aload_n C dL_law_1132 rfl 0 rfl ?_
      refine g_iload_n C dL_law_1133 rfl 3 rfl ?_
      refine g_iconst (v := 2) C dL_law_1134 rfl (by decide) ?_
      refine g_iadd C dL_law_1135 rfl ?_
      refine g_gd (fun hi336 => ?_)
      refine g_sld C S dL_law_1136 rfl hi336 ?_
      refine g_aload_n C dL_law_1137 rfl 0 rfl ?_
      refine g_iload_n C dL_law_1138 rfl 3 rfl ?_
      refine g_iconst (v := 3) C dL_law_1139 rfl (by decide) ?_
      refine g_iadd C dL_law_1140 rfl ?_
      refine g_gd (fun hi337 => ?_)
      refine g_sld C S dL_law_1141 rfl hi337 ?_
      refine g_aload_n C dL_law_1142 rfl 0 rfl ?_
      refine g_iload_n C dL_law_1143 rfl 3 rfl ?_
      refine g_iconst (v := 4) C dL_law_1144 rfl (by decide) ?_
      refine g_iadd C dL_law_1145 rfl ?_
      refine g_gd (fun hi338 => ?_)
      refine g_sld C S dL_law_1146 rfl hi338 ?_
      refine g_callI [.int (xs (ixn (v3 + 1))), .int (xs (ixn (v3 + 2))), .int (xs (ixn (v3 + 3))), .int (xs (ixn (v3 + 4)))] C dL_law_1147 rfl (tX11_windFor (xl Γ) (xE Γ) (xs (ixn (v3 + 1))) (xs (ixn (v3 + 2))) (xs (ixn (v3 + 3))) (xs (ixn (v3 + 4))) u333) cf_X11_windFor rfl rfl ml_L_162 rfl (by decide) (Nat.le_of_ble_eq_true rfl) rfl (fun r340 u339 => ?_)
      refine g_icmp_eq 1458 C dL_law_1150 rfl (by decide) (fun c341 => ?_) (fun c341 => ?_)
      · refine g_iincL (fun v3_342 => [(3, .int v3_342), (0, .ref b), (1, .ref ((xE Γ).1 1)), (2, .ref ((xE Γ).1 74))]) C dL_law_1458 rfl Z.1 (by decide) (k := 3) rfl (iinc_5 _) (fun _ => rfl) (fun v3_342 => ?_)
        refine g_goto 18 C dL_law_1461 rfl (by decide) ?_
        refine g_sub (ls' := [(0, .ref b), (1, .ref ((xE Γ).1 1)), (2, .ref ((xE Γ).1 74)), (3, .int v3_342)]) [1, 2, 3, 0] rfl ?_
        exact hj18 v3_342 u339
      · refine g_iconst (v := 0) C dL_law_1153 rfl (by decide) ?_
        exact g_none
    refine g_if (fun c343 => ?_) (fun c343 => ?_)
    · refine g_tabI 1123 1155 C dL_law_32 rfl (by rw [c343]; exact ⟨by decide, by decide, rfl⟩) (by decide) ?_
      refine g_aload_n C dL_law_1155 rfl 1 rfl ?_
      refine g_aload_n C dL_law_1156 rfl 0 rfl ?_
      refine g_iload_n C dL_law_1157 rfl 3 rfl ?_
      refine g_iconst (v := 1) C dL_law_1158 rfl (by decide) ?_
      refine g_iadd C dL_law_1159 rfl ?_
      refine g_gd (fun hi344 => ?_)
      refine g_sld C S dL_law_1160 rfl hi344 ?_
      refine g_aload_n C dL_law_1161 rfl 0 rfl ?_
      refine g_iload_n C dL_law_1162 rfl 3 rfl ?_
      refine g_iconst (v := 2) C dL_law_1163 rfl (by decide) ?_
      refine g_iadd C dL_law_1164 rfl ?_
      refine g_gd (fun hi345 => ?_)
      refine g_sld C S dL_law_1165 rfl hi345 ?_
      refine g_aload_n C dL_law_1166 rfl 0 rfl ?_
      refine g_iload_n C dL_law_1167 rfl 3 rfl ?_
      refine g_iconst (v := 3) C dL_law_1168 rfl (by decide) ?_
      refine g_iadd C dL_law_1169 rfl ?_
      refine g_gd (fun hi346 => ?_)
      refine g_sld C S dL_law_1170 rfl hi346 ?_
      refine g_callI [.int (xs (ixn (v3 + 1))), .int (xs (ixn (v3 + 2))), .int (xs (ixn (v3 + 3)))] C dL_law_1171 rfl (tX10_span (xl Γ) (xE Γ) (xs (ixn (v3 + 1))) (xs (ixn (v3 + 2))) (xs (ixn (v3 + 3))) u) cf_X10_span rfl rfl ml_L_163 rfl (by decide) (Nat.le_of_ble_eq_true rfl) rfl (fun r348 u347 => ?_)
      refine g_aload_n C dL_law_1174 rfl 2 rfl ?_
      refine g_aload_n C dL_law_1175 rfl 0 rfl ?_
      refine g_iload_n C dL_law_1176 rfl 3 rfl ?_
      refine g_iconst (v := 1) C dL_law_1177 rfl (by decide) ?_
      refine g_iadd C dL_law_1178 rfl ?_
      refine g_gd (fun hi349 => ?_)
      refine g_sld C S dL_law_1179 rfl hi349 ?_
      refine g_aload_n C dL_law_1180 rfl 0 rfl ?_
      refine g_iload_n C dL_law_1181 rfl 3 rfl ?_
      refine g_iconst (v := 2) C dL_law_1182 rfl (by decide) ?_
      refine g_iadd C dL_law_1183 rfl ?_
      refine g_gd (fun hi350 => ?_)
      refine g_sld C S dL_law_1184 rfl hi350 ?_
      refine g_aload_n C dL_law_1185 rfl 0 rfl ?_
      refine g_iload_n C dL_law_1186 rfl 3 rfl ?_
      refine g_iconst (v := 3) C dL_law_1187 rfl (by decide) ?_
      refine g_iadd C dL_law_1188 rfl ?_
      refine g_gd (fun hi351 => ?_)
      refine g_sld C S dL_law_1189 rfl hi351 ?_
      refine g_callI [.int (xs (ixn (v3 + 1))), .int (xs (ixn (v3 + 2))), .int (xs (ixn (v3 + 3)))] C dL_law_1190 rfl (tX11_span (xl Γ) (xE Γ) (xs (ixn (v3 + 1))) (xs (ixn (v3 + 2))) (xs (ixn (v3 + 3))) u347) cf_X11_span rfl rfl ml_L_166 rfl (by decide) (Nat.le_of_ble_eq_true rfl) rfl (fun r353 u352 => ?_)
      refine g_icmp_eq 1458 C dL_law_1193 rfl (by decide) (fun c354 => ?_) (fun c354 => ?_)
      · refine g_iincL (fun v3_355 => [(3, .int v3_355), (0, .ref b), (1, .ref ((xE Γ).1 1)), (2, .ref ((xE Γ).1 74))]) C dL_law_1458 rfl Z.1 (by decide) (k := 3) rfl (iinc_5 _) (fun _ => rfl) (fun v3_355 => ?_)
        refine g_goto 18 C dL_law_1461 rfl (by decide) ?_
        refine g_sub (ls' := [(0, .ref b), (1, .ref ((xE Γ).1 1)), (2, .ref ((xE Γ).1 74)), (3, .int v3_355)]) [1, 2, 3, 0] rfl ?_
        exact hj18 v3_355 u352
      · refine g_iconst (v := 0) C dL_law_1196 rfl (by decide) ?_
        exact g_none
    refine g_if (fun c356 => ?_) (fun c356 => ?_)
    · refine g_tabI 1166 1198 C dL_law_32 rfl (by rw [c356]; exact ⟨by decide, by decide, rfl⟩) (by decide) ?_
      refine g_aload_n C dL_law_1198 rfl 1 rfl ?_
      refine g_aload_n C dL_law_1199 rfl 0 rfl ?_
      refine g_iload_n C dL_law_1200 rfl 3 rfl ?_
      refine g_iconst (v := 1) C dL_law_1201 rfl (by decide) ?_
      refine g_iadd C dL_law_1202 rfl ?_
      refine g_gd (fun hi357 => ?_)
      refine g_sld C S dL_law_1203 rfl hi357 ?_
      refine g_callI [.int (xs (ixn (v3 + 1)))] C dL_law_1204 rfl (tX10_flown (xl Γ) (xE Γ) (xs (ixn (v3 + 1))) u) cf_X10_flown rfl rfl ml_L_167 rfl (by decide) (Nat.le_of_ble_eq_true rfl) rfl (fun r359 u358 => ?_)
      refine g_aload_n C dL_law_1207 rfl 2 rfl ?_
      refine g_aload_n C dL_law_1208 rfl 0 rfl ?_
      refine g_iload_n C dL_law_1209 rfl 3 rfl ?_
      refine g_iconst (v := 1) C dL_law_1210 rfl (by decide) ?_
      refine g_iadd C dL_law_1211 rfl ?_
      refine g_gd (fun hi360 => ?_)
      refine g_sld C S dL_law_1212 rfl hi360 ?_
      refine g_callI [.int (xs (ixn (v3 + 1)))] C dL_law_1213 rfl (tX11_flown (xl Γ) (xE Γ) (xs (ixn (v3 + 1))) u358) cf_X11_flown rfl rfl ml_L_170 rfl (by decide) (Nat.le_of_ble_eq_true rfl) rfl (fun r362 u361 => ?_)
      refine g_icmp_eq 1458 C dL_law_1216 rfl (by decide) (fun c363 => ?_) (fun c363 => ?_)
      · refine g_iincL (fun v3_364 => [(3, .int v3_364), (0, .ref b), (1, .ref ((xE Γ).1 1)), (2, .ref ((xE Γ).1 74))]) C dL_law_1458 rfl Z.1 (by decide) (k := 3) rfl (iinc_5 _) (fun _ => rfl) (fun v3_364 => ?_)
        refine g_goto 18 C dL_law_1461 rfl (by decide) ?_
        refine g_sub (ls' := [(0, .ref b), (1, .ref ((xE Γ).1 1)), (2, .ref ((xE Γ).1 74)), (3, .int v3_364)]) [1, 2, 3, 0] rfl ?_
        exact hj18 v3_364 u361
      · refine g_iconst (v := 0) C dL_law_1219 rfl (by decide) ?_
        exact g_none
    refine g_if (fun c365 => ?_) (fun c365 => ?_)
    · refine g_tabI 1189 1221 C dL_law_32 rfl (by rw [c365]; exact ⟨by decide, by decide, rfl⟩) (by decide) ?_
      refine g_aload_n C dL_law_1221 rfl 1 rfl ?_
      refine g_aload_n C dL_law_1222 rfl 0 rfl ?_
      refine g_iload_n C dL_law_1223 rfl 3 rfl ?_
      refine g_iconst (v := 1) C dL_law_1224 rfl (by decide) ?_
      refine g_iadd C dL_law_1225 rfl ?_
      refine g_gd (fun hi366 => ?_)
      refine g_sld C S dL_law_1226 rfl hi366 ?_
      refine g_callI [.int (xs (ixn (v3 + 1)))] C dL_law_1227 rfl (tX10_ceiling (xl Γ) (xE Γ) (xs (ixn (v3 + 1))) u) cf_X10_ceiling rfl rfl ml_L_171 rfl (by decide) (Nat.le_of_ble_eq_true rfl) rfl (fun r368 u367 => ?_)
      refine g_aload_n C dL_law_1230 rfl 2 rfl ?_
      refine g_aload_n C dL_law_1231 rfl 0 rfl ?_
      refine g_iload_n C dL_law_1232 rfl 3 rfl ?_
      refine g_iconst (v := 1) C dL_law_1233 rfl (by decide) ?_
      refine g_iadd C dL_law_1234 rfl ?_
      refine g_gd (fun hi369 => ?_)
      refine g_sld C S dL_law_1235 rfl hi369 ?_
      refine g_callI [.int (xs (ixn (v3 + 1)))] C dL_law_1236 rfl (tX11_ceiling (xl Γ) (xE Γ) (xs (ixn (v3 + 1))) u367) cf_X11_ceiling rfl rfl ml_L_174 rfl (by decide) (Nat.le_of_ble_eq_true rfl) rfl (fun r371 u370 => ?_)
      refine g_icmp_eq 1458 C dL_law_1239 rfl (by decide) (fun c372 => ?_) (fun c372 => ?_)
      · refine g_iincL (fun v3_373 => [(3, .int v3_373), (0, .ref b), (1, .ref ((xE Γ).1 1)), (2, .ref ((xE Γ).1 74))]) C dL_law_1458 rfl Z.1 (by decide) (k := 3) rfl (iinc_5 _) (fun _ => rfl) (fun v3_373 => ?_)
        refine g_goto 18 C dL_law_1461 rfl (by decide) ?_
        refine g_sub (ls' := [(0, .ref b), (1, .ref ((xE Γ).1 1)), (2, .ref ((xE Γ).1 74)), (3, .int v3_373)]) [1, 2, 3, 0] rfl ?_
        exact hj18 v3_373 u370
      · refine g_iconst (v := 0) C dL_law_1242 rfl (by decide) ?_
        exact g_none
    refine g_if (fun c374 => ?_) (fun c374 => ?_)
    · refine g_tabI 1212 1244 C dL_law_32 rfl (by rw [c374]; exact ⟨by decide, by decide, rfl⟩) (by decide) ?_
      refine g_aload_n C dL_law_1244 rfl 1 rfl ?_
      refine g_aload_n C dL_law_1245 rfl 0 rfl ?_
      refine g_iload_n C dL_law_1246 rfl 3 rfl ?_
      refine g_iconst (v := 1) C dL_law_1247 rfl (by decide) ?_
      refine g_iadd C dL_law_1248 rfl ?_
      refine g_gd (fun hi375 => ?_)
      refine g_sld C S dL_law_1249 rfl hi375 ?_
      refine g_callI [.int (xs (ixn (v3 + 1)))] C dL_law_1250 rfl (tX10_game (xl Γ) (xE Γ) (xs (ixn (v3 + 1))) u) cf_X10_game rfl rfl ml_L_175 rfl (by decide) (Nat.le_of_ble_eq_true rfl) rfl (fun r377 u376 => ?_)
      refine g_aload_n C dL_law_1253 rfl 2 rfl ?_
      refine g_aload_n C dL_law_1254 rfl 0 rfl ?_
      refine g_iload_n C dL_law_1255 rfl 3 rfl ?_
      refine g_iconst (v := 1) C dL_law_1256 rfl (by decide) ?_
      refine g_iadd C dL_law_1257 rfl ?_
      refine g_gd (fun hi378 => ?_)
      refine g_sld C S dL_law_1258 rfl hi378 ?_
      refine g_callI [.int (xs (ixn (v3 + 1)))] C dL_law_1259 rfl (tX11_game (xl Γ) (xE Γ) (xs (ixn (v3 + 1))) u376) cf_X11_game rfl rfl ml_L_178 rfl (by decide) (Nat.le_of_ble_eq_true rfl) rfl (fun r380 u379 => ?_)
      refine g_icmp_eq 1458 C dL_law_1262 rfl (by decide) (fun c381 => ?_) (fun c381 => ?_)
      · refine g_iincL (fun v3_382 => [(3, .int v3_382), (0, .ref b), (1, .ref ((xE Γ).1 1)), (2, .ref ((xE Γ).1 74))]) C dL_law_1458 rfl Z.1 (by decide) (k := 3) rfl (iinc_5 _) (fun _ => rfl) (fun v3_382 => ?_)
        refine g_goto 18 C dL_law_1461 rfl (by decide) ?_
        refine g_sub (ls' := [(0, .ref b), (1, .ref ((xE Γ).1 1)), (2, .ref ((xE Γ).1 74)), (3, .int v3_382)]) [1, 2, 3, 0] rfl ?_
        exact hj18 v3_382 u379
      · refine g_iconst (v := 0) C dL_law_1265 rfl (by decide) ?_
        exact g_none
    refine g_if (fun c383 => ?_) (fun c383 => ?_)
    · refine g_tabI 1235 1267 C dL_law_32 rfl (by rw [c383]; exact ⟨by decide, by decide, rfl⟩) (by decide) ?_
      refine g_aload_n C dL_law_1267 rfl 1 rfl ?_
      refine g_aload_n C dL_law_1268 rfl 0 rfl ?_
      refine g_iload_n C dL_law_1269 rfl 3 rfl ?_
      refine g_iconst (v := 1) C dL_law_1270 rfl (by decide) ?_
      refine g_iadd C dL_law_1271 rfl ?_
      refine g_gd (fun hi384 => ?_)
      refine g_sld C S dL_law_1272 rfl hi384 ?_
      refine g_aload_n C dL_law_1273 rfl 0 rfl ?_
      refine g_iload_n C dL_law_1274 rfl 3 rfl ?_
      refine g_iconst (v := 2) C dL_law_1275 rfl (by decide) ?_
      refine g_iadd C dL_law_1276 rfl ?_
      refine g_gd (fun hi385 => ?_)
      refine g_sld C S dL_law_1277 rfl hi385 ?_
      refine g_aload_n C dL_law_1278 rfl 0 rfl ?_
      refine g_iload_n C dL_law_1279 rfl 3 rfl ?_
      refine g_iconst (v := 3) C dL_law_1280 rfl (by decide) ?_
      refine g_iadd C dL_law_1281 rfl ?_
      refine g_gd (fun hi386 => ?_)
      refine g_sld C S dL_law_1282 rfl hi386 ?_
      refine g_callI [.int (xs (ixn (v3 + 1))), .int (xs (ixn (v3 + 2))), .int (xs (ixn (v3 + 3)))] C dL_law_1283 rfl (tX10_another (xl Γ) (xE Γ) (xs (ixn (v3 + 1))) (xs (ixn (v3 + 2))) (xs (ixn (v3 + 3))) u) cf_X10_another rfl rfl ml_L_179 rfl (by decide) (Nat.le_of_ble_eq_true rfl) rfl (fun r388 u387 => ?_)
      refine g_aload_n C dL_law_1286 rfl 2 rfl ?_
      refine g_aload_n C dL_law_1287 rfl 0 rfl ?_
      refine g_iload_n C dL_law_1288 rfl 3 rfl ?_
      refine g_iconst (v := 1) C dL_law_1289 rfl (by decide) ?_
      refine g_iadd C dL_law_1290 rfl ?_
      refine g_gd (fun hi389 => ?_)
      refine g_sld C S dL_law_1291 rfl hi389 ?_
      refine g_aload_n C dL_law_1292 rfl 0 rfl ?_
      refine g_iload_n C dL_law_1293 rfl 3 rfl ?_
      refine g_iconst (v := 2) C dL_law_1294 rfl (by decide) ?_
      refine g_iadd C dL_law_1295 rfl ?_
      refine g_gd (fun hi390 => ?_)
      refine g_sld C S dL_law_1296 rfl hi390 ?_
      refine g_aload_n C dL_law_1297 rfl 0 rfl ?_
      refine g_iload_n C dL_law_1298 rfl 3 rfl ?_
      refine g_iconst (v := 3) C dL_law_1299 rfl (by decide) ?_
      refine g_iadd C dL_law_1300 rfl ?_
      refine g_gd (fun hi391 => ?_)
      refine g_sld C S dL_law_1301 rfl hi391 ?_
      refine g_callI [.int (xs (ixn (v3 + 1))), .int (xs (ixn (v3 + 2))), .int (xs (ixn (v3 + 3)))] C dL_law_1302 rfl (tX11_another (xl Γ) (xE Γ) (xs (ixn (v3 + 1))) (xs (ixn (v3 + 2))) (xs (ixn (v3 + 3))) u387) cf_X11_another rfl rfl ml_L_182 rfl (by decide) (Nat.le_of_ble_eq_true rfl) rfl (fun r393 u392 => ?_)
      refine g_icmp_eq 1458 C dL_law_1305 rfl (by decide) (fun c394 => ?_) (fun c394 => ?_)
      · refine g_iincL (fun v3_395 => [(3, .int v3_395), (0, .ref b), (1, .ref ((xE Γ).1 1)), (2, .ref ((xE Γ).1 74))]) C dL_law_1458 rfl Z.1 (by decide) (k := 3) rfl (iinc_5 _) (fun _ => rfl) (fun v3_395 => ?_)
        refine g_goto 18 C dL_law_1461 rfl (by decide) ?_
        refine g_sub (ls' := [(0, .ref b), (1, .ref ((xE Γ).1 1)), (2, .ref ((xE Γ).1 74)), (3, .int v3_395)]) [1, 2, 3, 0] rfl ?_
        exact hj18 v3_395 u392
      · refine g_iconst (v := 0) C dL_law_1308 rfl (by decide) ?_
        exact g_none
    refine g_if (fun c396 => ?_) (fun c396 => ?_)
    · refine g_tabI 1278 1310 C dL_law_32 rfl (by rw [c396]; exact ⟨by decide, by decide, rfl⟩) (by decide) ?_
      refine g_aload_n C dL_law_1310 rfl 1 rfl ?_
      refine g_aload_n C dL_law_1311 rfl 0 rfl ?_
      refine g_iload_n C dL_law_1312 rfl 3 rfl ?_
      refine g_iconst (v := 1) C dL_law_1313 rfl (by decide) ?_
      refine g_iadd C dL_law_1314 rfl ?_
      refine g_gd (fun hi397 => ?_)
      refine g_sld C S dL_law_1315 rfl hi397 ?_
      refine g_aload_n C dL_law_1316 rfl 0 rfl ?_
      refine g_iload_n C dL_law_1317 rfl 3 rfl ?_
      refine g_iconst (v := 2) C dL_law_1318 rfl (by decide) ?_
      refine g_iadd C dL_law_1319 rfl ?_
      refine g_gd (fun hi398 => ?_)
      refine g_sld C S dL_law_1320 rfl hi398 ?_
      refine g_aload_n C dL_law_1321 rfl 0 rfl ?_
      refine g_iload_n C dL_law_1322 rfl 3 rfl ?_
      refine g_iconst (v := 3) C dL_law_1323 rfl (by decide) ?_
      refine g_iadd C dL_law_1324 rfl ?_
      refine g_gd (fun hi399 => ?_)
      refine g_sld C S dL_law_1325 rfl hi399 ?_
      refine g_callI [.int (xs (ixn (v3 + 1))), .int (xs (ixn (v3 + 2))), .int (xs (ixn (v3 + 3)))] C dL_law_1326 rfl (tX10_chase (xl Γ) (xE Γ) (xs (ixn (v3 + 1))) (xs (ixn (v3 + 2))) (xs (ixn (v3 + 3))) u) cf_X10_chase rfl rfl ml_L_183 rfl (by decide) (Nat.le_of_ble_eq_true rfl) rfl (fun r401 u400 => ?_)
      refine g_aload_n C dL_law_1329 rfl 2 rfl ?_
      refine g_aload_n C dL_law_1330 rfl 0 rfl ?_
      refine g_iload_n C dL_law_1331 rfl 3 rfl ?_
      refine g_iconst (v := 1) C dL_law_1332 rfl (by decide) ?_
      refine g_iadd C dL_law_1333 rfl ?_
      refine g_gd (fun hi402 => ?_)
      refine g_sld C S dL_law_1334 rfl hi402 ?_
      refine g_aload_n C dL_law_1335 rfl 0 rfl ?_
      refine g_iload_n C dL_law_1336 rfl 3 rfl ?_
      refine g_iconst (v := 2) C dL_law_1337 rfl (by decide) ?_
      refine g_iadd C dL_law_1338 rfl ?_
      refine g_gd (fun hi403 => ?_)
      refine g_sld C S dL_law_1339 rfl hi403 ?_
      refine g_aload_n C dL_law_1340 rfl 0 rfl ?_
      refine g_iload_n C dL_law_1341 rfl 3 rfl ?_
      refine g_iconst (v := 3) C dL_law_1342 rfl (by decide) ?_
      refine g_iadd C dL_law_1343 rfl ?_
      refine g_gd (fun hi404 => ?_)
      refine g_sld C S dL_law_1344 rfl hi404 ?_
      refine g_callI [.int (xs (ixn (v3 + 1))), .int (xs (ixn (v3 + 2))), .int (xs (ixn (v3 + 3)))] C dL_law_1345 rfl (tX11_chase (xl Γ) (xE Γ) (xs (ixn (v3 + 1))) (xs (ixn (v3 + 2))) (xs (ixn (v3 + 3))) u400) cf_X11_chase rfl rfl ml_L_186 rfl (by decide) (Nat.le_of_ble_eq_true rfl) rfl (fun r406 u405 => ?_)
      refine g_icmp_eq 1458 C dL_law_1348 rfl (by decide) (fun c407 => ?_) (fun c407 => ?_)
      · refine g_iincL (fun v3_408 => [(3, .int v3_408), (0, .ref b), (1, .ref ((xE Γ).1 1)), (2, .ref ((xE Γ).1 74))]) C dL_law_1458 rfl Z.1 (by decide) (k := 3) rfl (iinc_5 _) (fun _ => rfl) (fun v3_408 => ?_)
        refine g_goto 18 C dL_law_1461 rfl (by decide) ?_
        refine g_sub (ls' := [(0, .ref b), (1, .ref ((xE Γ).1 1)), (2, .ref ((xE Γ).1 74)), (3, .int v3_408)]) [1, 2, 3, 0] rfl ?_
        exact hj18 v3_408 u405
      · refine g_iconst (v := 0) C dL_law_1351 rfl (by decide) ?_
        exact g_none
    refine g_if (fun c409 => ?_) (fun c409 => ?_)
    · refine g_tabI 1321 1353 C dL_law_32 rfl (by rw [c409]; exact ⟨by decide, by decide, rfl⟩) (by decide) ?_
      refine g_aload_n C dL_law_1353 rfl 1 rfl ?_
      refine g_aload_n C dL_law_1354 rfl 0 rfl ?_
      refine g_iload_n C dL_law_1355 rfl 3 rfl ?_
      refine g_iconst (v := 1) C dL_law_1356 rfl (by decide) ?_
      refine g_iadd C dL_law_1357 rfl ?_
      refine g_gd (fun hi410 => ?_)
      refine g_sld C S dL_law_1358 rfl hi410 ?_
      refine g_aload_n C dL_law_1359 rfl 0 rfl ?_
      refine g_iload_n C dL_law_1360 rfl 3 rfl ?_
      refine g_iconst (v := 2) C dL_law_1361 rfl (by decide) ?_
      refine g_iadd C dL_law_1362 rfl ?_
      refine g_gd (fun hi411 => ?_)
      refine g_sld C S dL_law_1363 rfl hi411 ?_
      refine g_callI [.int (xs (ixn (v3 + 1))), .int (xs (ixn (v3 + 2)))] C dL_law_1364 rfl (tX10_tour (xl Γ) (xE Γ) (xs (ixn (v3 + 1))) (xs (ixn (v3 + 2))) u) cf_X10_tour rfl rfl ml_L_187 rfl (by decide) (Nat.le_of_ble_eq_true rfl) rfl (fun r413 u412 => ?_)
      refine g_aload_n C dL_law_1367 rfl 2 rfl ?_
      refine g_aload_n C dL_law_1368 rfl 0 rfl ?_
      refine g_iload_n C dL_law_1369 rfl 3 rfl ?_
      refine g_iconst (v := 1) C dL_law_1370 rfl (by decide) ?_
      refine g_iadd C dL_law_1371 rfl ?_
      refine g_gd (fun hi414 => ?_)
      refine g_sld C S dL_law_1372 rfl hi414 ?_
      refine g_aload_n C dL_law_1373 rfl 0 rfl ?_
      refine g_iload_n C dL_law_1374 rfl 3 rfl ?_
      refine g_iconst (v := 2) C dL_law_1375 rfl (by decide) ?_
      refine g_iadd C dL_law_1376 rfl ?_
      refine g_gd (fun hi415 => ?_)
      refine g_sld C S dL_law_1377 rfl hi415 ?_
      refine g_callI [.int (xs (ixn (v3 + 1))), .int (xs (ixn (v3 + 2)))] C dL_law_1378 rfl (tX11_tour (xl Γ) (xE Γ) (xs (ixn (v3 + 1))) (xs (ixn (v3 + 2))) u412) cf_X11_tour rfl rfl ml_L_190 rfl (by decide) (Nat.le_of_ble_eq_true rfl) rfl (fun r417 u416 => ?_)
      refine g_icmp_eq 1458 C dL_law_1381 rfl (by decide) (fun c418 => ?_) (fun c418 => ?_)
      · refine g_iincL (fun v3_419 => [(3, .int v3_419), (0, .ref b), (1, .ref ((xE Γ).1 1)), (2, .ref ((xE Γ).1 74))]) C dL_law_1458 rfl Z.1 (by decide) (k := 3) rfl (iinc_5 _) (fun _ => rfl) (fun v3_419 => ?_)
        refine g_goto 18 C dL_law_1461 rfl (by decide) ?_
        refine g_sub (ls' := [(0, .ref b), (1, .ref ((xE Γ).1 1)), (2, .ref ((xE Γ).1 74)), (3, .int v3_419)]) [1, 2, 3, 0] rfl ?_
        exact hj18 v3_419 u416
      · refine g_iconst (v := 0) C dL_law_1384 rfl (by decide) ?_
        exact g_none
    refine g_if (fun c420 => ?_) (fun c420 => ?_)
    · refine g_tabI 1354 1386 C dL_law_32 rfl (by rw [c420]; exact ⟨by decide, by decide, rfl⟩) (by decide) ?_
      refine g_aload_n C dL_law_1386 rfl 1 rfl ?_
      refine g_aload_n C dL_law_1387 rfl 0 rfl ?_
      refine g_iload_n C dL_law_1388 rfl 3 rfl ?_
      refine g_iconst (v := 1) C dL_law_1389 rfl (by decide) ?_
      refine g_iadd C dL_law_1390 rfl ?_
      refine g_gd (fun hi421 => ?_)
      refine g_sld C S dL_law_1391 rfl hi421 ?_
      refine g_callI [.int (xs (ixn (v3 + 1)))] C dL_law_1392 rfl (tX10_twoCars (xl Γ) (xE Γ) (xs (ixn (v3 + 1))) u) cf_X10_twoCars rfl rfl ml_L_191 rfl (by decide) (Nat.le_of_ble_eq_true rfl) rfl (fun r423 u422 => ?_)
      refine g_aload_n C dL_law_1395 rfl 2 rfl ?_
      refine g_aload_n C dL_law_1396 rfl 0 rfl ?_
      refine g_iload_n C dL_law_1397 rfl 3 rfl ?_
      refine g_iconst (v := 1) C dL_law_1398 rfl (by decide) ?_
      refine g_iadd C dL_law_1399 rfl ?_
      refine g_gd (fun hi424 => ?_)
      refine g_sld C S dL_law_1400 rfl hi424 ?_
      refine g_callI [.int (xs (ixn (v3 + 1)))] C dL_law_1401 rfl (tX11_twoCars (xl Γ) (xE Γ) (xs (ixn (v3 + 1))) u422) cf_X11_twoCars rfl rfl ml_L_194 rfl (by decide) (Nat.le_of_ble_eq_true rfl) rfl (fun r426 u425 => ?_)
      refine g_icmp_eq 1458 C dL_law_1404 rfl (by decide) (fun c427 => ?_) (fun c427 => ?_)
      · refine g_iincL (fun v3_428 => [(3, .int v3_428), (0, .ref b), (1, .ref ((xE Γ).1 1)), (2, .ref ((xE Γ).1 74))]) C dL_law_1458 rfl Z.1 (by decide) (k := 3) rfl (iinc_5 _) (fun _ => rfl) (fun v3_428 => ?_)
        refine g_goto 18 C dL_law_1461 rfl (by decide) ?_
        refine g_sub (ls' := [(0, .ref b), (1, .ref ((xE Γ).1 1)), (2, .ref ((xE Γ).1 74)), (3, .int v3_428)]) [1, 2, 3, 0] rfl ?_
        exact hj18 v3_428 u425
      · refine g_iconst (v := 0) C dL_law_1407 rfl (by decide) ?_
        exact g_none
    refine g_if (fun c429 => ?_) (fun c429 => ?_)
    · refine g_tabI 1377 1409 C dL_law_32 rfl (by rw [c429]; exact ⟨by decide, by decide, rfl⟩) (by decide) ?_
      refine g_aload_n C dL_law_1409 rfl 1 rfl ?_
      refine g_callI [] C dL_law_1410 rfl (tX10_image (xl Γ) (xE Γ) u) cf_X10_image rfl rfl ml_L_195 rfl (by decide) (Nat.le_of_ble_eq_true rfl) rfl (fun r431 u430 => ?_)
      refine g_aload_n C dL_law_1413 rfl 2 rfl ?_
      refine g_callI [] C dL_law_1414 rfl (tX11_image (xl Γ) (xE Γ) u430) cf_X11_image rfl rfl ml_L_198 rfl (by decide) (Nat.le_of_ble_eq_true rfl) rfl (fun r433 u432 => ?_)
      refine g_icmp_eq 1458 C dL_law_1417 rfl (by decide) (fun c434 => ?_) (fun c434 => ?_)
      · refine g_iincL (fun v3_435 => [(3, .int v3_435), (0, .ref b), (1, .ref ((xE Γ).1 1)), (2, .ref ((xE Γ).1 74))]) C dL_law_1458 rfl Z.1 (by decide) (k := 3) rfl (iinc_5 _) (fun _ => rfl) (fun v3_435 => ?_)
        refine g_goto 18 C dL_law_1461 rfl (by decide) ?_
        refine g_sub (ls' := [(0, .ref b), (1, .ref ((xE Γ).1 1)), (2, .ref ((xE Γ).1 74)), (3, .int v3_435)]) [1, 2, 3, 0] rfl ?_
        exact hj18 v3_435 u432
      · refine g_iconst (v := 0) C dL_law_1420 rfl (by decide) ?_
        exact g_none
    refine g_if (fun c436 => ?_) (fun c436 => ?_)
    · refine g_tabI 1390 1422 C dL_law_32 rfl (by rw [c436]; exact ⟨by decide, by decide, rfl⟩) (by decide) ?_
      refine g_aload_n C dL_law_1422 rfl 1 rfl ?_
      refine g_callI [] C dL_law_1423 rfl (tX10_restore (xl Γ) (xE Γ) u) cf_X10_restore rfl rfl ml_L_199 rfl (by decide) (Nat.le_of_ble_eq_true rfl) rfl (fun r438 u437 => ?_)
      refine g_aload_n C dL_law_1426 rfl 2 rfl ?_
      refine g_callI [] C dL_law_1427 rfl (tX11_restore (xl Γ) (xE Γ) u437) cf_X11_restore rfl rfl ml_L_202 rfl (by decide) (Nat.le_of_ble_eq_true rfl) rfl (fun r440 u439 => ?_)
      refine g_icmp_eq 1458 C dL_law_1430 rfl (by decide) (fun c441 => ?_) (fun c441 => ?_)
      · refine g_iincL (fun v3_442 => [(3, .int v3_442), (0, .ref b), (1, .ref ((xE Γ).1 1)), (2, .ref ((xE Γ).1 74))]) C dL_law_1458 rfl Z.1 (by decide) (k := 3) rfl (iinc_5 _) (fun _ => rfl) (fun v3_442 => ?_)
        refine g_goto 18 C dL_law_1461 rfl (by decide) ?_
        refine g_sub (ls' := [(0, .ref b), (1, .ref ((xE Γ).1 1)), (2, .ref ((xE Γ).1 74)), (3, .int v3_442)]) [1, 2, 3, 0] rfl ?_
        exact hj18 v3_442 u439
      · refine g_iconst (v := 0) C dL_law_1433 rfl (by decide) ?_
        exact g_none
    refine g_if (fun c443 => ?_) (fun c443 => ?_)
    · refine g_tabI 1403 1435 C dL_law_32 rfl (by rw [c443]; exact ⟨by decide, by decide, rfl⟩) (by decide) ?_
      refine g_aload_n C dL_law_1435 rfl 1 rfl ?_
      refine g_aload_n C dL_law_1436 rfl 0 rfl ?_
      refine g_iload_n C dL_law_1437 rfl 3 rfl ?_
      refine g_iconst (v := 1) C dL_law_1438 rfl (by decide) ?_
      refine g_iadd C dL_law_1439 rfl ?_
      refine g_gd (fun hi444 => ?_)
      refine g_sld C S dL_law_1440 rfl hi444 ?_
      refine g_callP [.int (xs (ixn (v3 + 1)))] C dL_law_1441 rfl (tX10_count (xl Γ) (xE Γ) (xs (ixn (v3 + 1))) u) cf_X10_count rfl rfl ml_L_203 rfl (by decide) (Nat.le_of_ble_eq_true rfl) rfl (fun r445 => ?_)
      refine g_aload_n C dL_law_1444 rfl 2 rfl ?_
      refine g_aload_n C dL_law_1445 rfl 0 rfl ?_
      refine g_iload_n C dL_law_1446 rfl 3 rfl ?_
      refine g_iconst (v := 1) C dL_law_1447 rfl (by decide) ?_
      refine g_iadd C dL_law_1448 rfl ?_
      refine g_gd (fun hi446 => ?_)
      refine g_sld C S dL_law_1449 rfl hi446 ?_
      refine g_callI [.int (xs (ixn (v3 + 1)))] C dL_law_1450 rfl (tX11_count (xl Γ) (xE Γ) (xs (ixn (v3 + 1))) u) cf_X11_count rfl rfl ml_L_206 rfl (by decide) (Nat.le_of_ble_eq_true rfl) rfl (fun r448 u447 => ?_)
      refine g_icmp_eq 1458 C dL_law_1453 rfl (by decide) (fun c449 => ?_) (fun c449 => ?_)
      · refine g_iincL (fun v3_450 => [(3, .int v3_450), (0, .ref b), (1, .ref ((xE Γ).1 1)), (2, .ref ((xE Γ).1 74))]) C dL_law_1458 rfl Z.1 (by decide) (k := 3) rfl (iinc_5 _) (fun _ => rfl) (fun v3_450 => ?_)
        refine g_goto 18 C dL_law_1461 rfl (by decide) ?_
        refine g_sub (ls' := [(0, .ref b), (1, .ref ((xE Γ).1 1)), (2, .ref ((xE Γ).1 74)), (3, .int v3_450)]) [1, 2, 3, 0] rfl ?_
        exact hj18 v3_450 u447
      · refine g_iconst (v := 0) C dL_law_1456 rfl (by decide) ?_
        exact g_none
    have ec3 := lv_neT c3 (a := 0) (by decide)
    have ec12 := lv_neT c12 (a := 1) (by decide)
    have ec19 := lv_neT c19 (a := 2) (by decide)
    have ec30 := lv_neT c30 (a := 3) (by decide)
    have ec43 := lv_neT c43 (a := 4) (by decide)
    have ec54 := lv_neT c54 (a := 5) (by decide)
    have ec65 := lv_neT c65 (a := 6) (by decide)
    have ec74 := lv_neT c74 (a := 7) (by decide)
    have ec85 := lv_neT c85 (a := 8) (by decide)
    have ec91 := lv_neT c91 (a := 9) (by decide)
    have ec100 := lv_neT c100 (a := 10) (by decide)
    have ec107 := lv_neT c107 (a := 11) (by decide)
    have ec120 := lv_neT c120 (a := 12) (by decide)
    have ec131 := lv_neT c131 (a := 13) (by decide)
    have ec140 := lv_neT c140 (a := 14) (by decide)
    have ec147 := lv_neT c147 (a := 15) (by decide)
    have ec156 := lv_neT c156 (a := 16) (by decide)
    have ec165 := lv_neT c165 (a := 17) (by decide)
    have ec174 := lv_neT c174 (a := 18) (by decide)
    have ec187 := lv_neT c187 (a := 19) (by decide)
    have ec196 := lv_neT c196 (a := 20) (by decide)
    have ec203 := lv_neT c203 (a := 21) (by decide)
    have ec209 := lv_neT c209 (a := 22) (by decide)
    have ec222 := lv_neT c222 (a := 23) (by decide)
    have ec231 := lv_neT c231 (a := 24) (by decide)
    have ec240 := lv_neT c240 (a := 25) (by decide)
    have ec247 := lv_neT c247 (a := 26) (by decide)
    have ec256 := lv_neT c256 (a := 27) (by decide)
    have ec267 := lv_neT c267 (a := 28) (by decide)
    have ec276 := lv_neT c276 (a := 29) (by decide)
    have ec285 := lv_neT c285 (a := 30) (by decide)
    have ec292 := lv_neT c292 (a := 31) (by decide)
    have ec299 := lv_neT c299 (a := 32) (by decide)
    have ec312 := lv_neT c312 (a := 33) (by decide)
    have ec321 := lv_neT c321 (a := 34) (by decide)
    have ec328 := lv_neT c328 (a := 35) (by decide)
    have ec343 := lv_neT c343 (a := 36) (by decide)
    have ec356 := lv_neT c356 (a := 37) (by decide)
    have ec365 := lv_neT c365 (a := 38) (by decide)
    have ec374 := lv_neT c374 (a := 39) (by decide)
    have ec383 := lv_neT c383 (a := 40) (by decide)
    have ec396 := lv_neT c396 (a := 41) (by decide)
    have ec409 := lv_neT c409 (a := 42) (by decide)
    have ec420 := lv_neT c420 (a := 43) (by decide)
    have ec429 := lv_neT c429 (a := 44) (by decide)
    have ec436 := lv_neT c436 (a := 45) (by decide)
    have ec443 := lv_neT c443 (a := 46) (by decide)
    refine g_tabO 1458 C dL_law_32 rfl (by omega) (by decide) ?_
    refine g_iincL (fun v3_451 => [(3, .int v3_451), (0, .ref b), (1, .ref ((xE Γ).1 1)), (2, .ref ((xE Γ).1 74))]) C dL_law_1458 rfl Z.1 (by decide) (k := 3) rfl (iinc_5 _) (fun _ => rfl) (fun v3_451 => ?_)
    refine g_goto 18 C dL_law_1461 rfl (by decide) ?_
    refine g_sub (ls' := [(0, .ref b), (1, .ref ((xE Γ).1 1)), (2, .ref ((xE Γ).1 74)), (3, .int v3_451)]) [1, 2, 3, 0] rfl ?_
    exact hj18 v3_451 u
set_option maxRecDepth 20000 in
set_option maxHeartbeats 8000000 in
theorem pL_law_18 {Γ : GX} {b L : Nat} {xs : Nat → Int32} (C : Cx Γ RL cL_law 9) (S : Scr Γ b L xs) (Z : Lx Γ b) : ∀ (n : Nat) (v3 : Int32) (u : Mm), Gp Γ (QL Γ b) 18 [(0, .ref b), (1, .ref ((xE Γ).1 1)), (2, .ref ((xE Γ).1 74)), (3, .int v3)] [] u (gL_law_18_L L xs n v3 u) := by
  intro n
  induction n with
  | zero => intro _ _; exact g_none
  | succ n ih => intro v3 u; exact pL_law_18s C S Z ih v3 u

set_option maxRecDepth 20000 in
set_option maxHeartbeats 8000000 in
theorem pL_law_16 {Γ : GX} {b L : Nat} {xs : Nat → Int32} (C : Cx Γ RL cL_law 9) (S : Scr Γ b L xs) (Z : Lx Γ b) (u : Mm) : Gp Γ (QL Γ b) 16 [(0, .ref b), (1, .ref ((xE Γ).1 1)), (2, .ref ((xE Γ).1 74))] [] u (gL_law_16 L xs u) := by
  unfold gL_law_16
  refine g_iconst (v := 0) C dL_law_16 rfl (by decide) ?_
  refine g_istore_n (ls' := [(3, .int 0), (0, .ref b), (1, .ref ((xE Γ).1 1)), (2, .ref ((xE Γ).1 74))]) C dL_law_17 rfl Z.1 (by decide) rfl ?_
  refine g_sub (ls' := [(0, .ref b), (1, .ref ((xE Γ).1 1)), (2, .ref ((xE Γ).1 74)), (3, .int 0)]) [1, 2, 3, 0] rfl ?_
  exact pL_law_18 C S Z FU 0 u
