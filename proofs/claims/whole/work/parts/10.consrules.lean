theorem oi_1 : Cond.instanceMethod objectInit ∈ wsL_law := wm_1 10 rfl
theorem oi_2 : Cond.code objectInit ⟨#[0xb1]⟩ 1 none ∈ wsL_law := wm_1 11 rfl
theorem ac_int : Cond.arrayClass .int ∈ wsL_law := wm_2 6 rfl
def nwL2 : List Cond := [Cond.methodLinkNest RX10 9 yX9_init "DownAmongFences", Cond.methodLinkNest RX10 31 yX5_init "DownAmongFences", Cond.methodLinkNest RX10 51 yX3_init "DownAmongFences", Cond.methodLinkNest RX10 58 yX8_init "DownAmongFences", Cond.methodLinkNest RX3 11 yX0_init "DownAmongFences", Cond.methodLinkNest RX3 20 yX1_init "DownAmongFences", Cond.methodLinkNest RX3 27 yX2_init "DownAmongFences", Cond.methodLinkNest RX4 17 yX2_init "DownAmongFences", Cond.methodLinkNest RX9 9 yX0_init "DownAmongFences", Cond.methodLinkNest RX9 18 yX1_init "DownAmongFences", Cond.methodLinkNest RX9 25 yX6_init "DownAmongFences", Cond.methodLinkNest RX9 32 yX2_init "DownAmongFences"]
theorem nwL2_ok : nwL2.all nwOk = true := by decide +kernel
def NW2 (U : State) : Prop := ∀ w ∈ nwL2, va_Nw w U
theorem NW2.warm {s U : State} (hW : s.WarmedH U.vm) (h : NW2 s) : NW2 U := by
  intro w hw
  have h1 := List.all_eq_true.mp nwL2_ok w hw
  have h2 := h w hw
  cases w with
  | methodLinkNest a i x hh => exact va_Nw.warmM hW h2
  | _ => cases h1
theorem NW2.same {u U : State} (h : u.vm = U.vm) (hZ : NW2 u) : NW2 U := by
  intro w hw
  have h1 := List.all_eq_true.mp nwL2_ok w hw
  have h2 := hZ w hw
  cases w with
  | methodLinkNest a i x hh => exact va_Nw.same rfl h h2
  | _ => cases h1
def WK (D : va_G) (cI cR : Nat) (U : State) : Prop := va_K D vwCl [(cI, .int), (cR, .object RX2)] U ∧ NW2 U ∧ va_AO RX2 U
theorem WK.warm {D : va_G} {cI cR : Nat} {s U : State} (hW : s.WarmedH U.vm) (h : WK D cI cR s) : WK D cI cR U := ⟨va_K.moved hW.alike h.1, NW2.warm hW h.2.1, va_AO.moved hW.alike h.2.2⟩
def CxK (Γ : GX) (own : String) (cc : ByteArray) (n : Nat) : Prop :=
  (xp Γ).tables.exec = Jvm.exec ∧ (xc Γ).code = cc ∧ (xc Γ).maxLocals = xn Γ ∧ (xs Γ).vm.findClass own = some (xm Γ).cls ∧ (∀ w ∈ wsL_law, w.before (xa Γ) (xs Γ) = true) ∧ WK (xE Γ).2.1 (xE Γ).2.2.1 (xE Γ).2.2.2 (xs Γ) ∧ (∀ q, (xs Γ).heap.size ≤ q → xA Γ q) ∧ n ≤ (xR Γ).frames ∧ 36 * n ≤ (xR Γ).locals
section KX1
variable {Γ : GX} {ow : String} {cc : ByteArray} {n : Nat}
theorem CxK.exec (C : CxK Γ ow cc n) : (xp Γ).tables.exec = Jvm.exec := C.1
theorem CxK.bytes (C : CxK Γ ow cc n) : (xc Γ).code = cc := C.2.1
theorem CxK.ml (C : CxK Γ ow cc n) : (xc Γ).maxLocals = xn Γ := C.2.2.1
theorem CxK.own (C : CxK Γ ow cc n) : (xs Γ).vm.findClass ow = some (xm Γ).cls := C.2.2.2.1
theorem CxK.ts (C : CxK Γ ow cc n) : ∀ w ∈ wsL_law, w.before (xa Γ) (xs Γ) = true := C.2.2.2.2.1
theorem CxK.W (C : CxK Γ ow cc n) : WK (xE Γ).2.1 (xE Γ).2.2.1 (xE Γ).2.2.2 (xs Γ) := C.2.2.2.2.2.1
theorem CxK.A (C : CxK Γ ow cc n) : ∀ q, (xs Γ).heap.size ≤ q → xA Γ q := C.2.2.2.2.2.2.1
theorem CxK.fr (C : CxK Γ ow cc n) : n ≤ (xR Γ).frames := C.2.2.2.2.2.2.2.1
theorem CxK.lo (C : CxK Γ ow cc n) : 36 * n ≤ (xR Γ).locals := C.2.2.2.2.2.2.2.2
end KX1
def Kp (Γ : GX) (Q : State → Prop) (pc : Nat) (ls : List (Nat × Value)) (st : List Value) (ws : va_W) (k w : Nat) : Prop :=
  ∀ (H : Heap) (locs : List Loc) (la : Array Slot), va_P (xE Γ).2.1 vwCl ws H → va_D (xA Γ) ws → va_S (xA Γ) (xs Γ).heap H locs → lv_has la (xn Γ) ls → W (xp Γ) (xl Γ) (xe Γ) (xR Γ) (xs Γ) (xm Γ) (xa Γ) (xb Γ) (xt Γ) (xc Γ) H locs k w Q (F0 (xm Γ) pc la st)
def KCt (l : Launch) (D : va_G) (cI cR : Nat) (y : MethodName) (b : ByteArray) (ml n : Nat) (As : List Value) (c : Nat) (fs : List Value) (cw : (Nat → Nat) → va_W) (mc ms : Nat) : Prop := ∀ h0 sz : Nat,
  Met l y (.code y b ml none :: wsL_law) { frames := n, cells := mc, slots := ms, locals := 36 * n } (va_Pc (.ref h0 :: As) (fun U => U.heap.size = sz ∧ va_P D vwCl [(h0, .inr (c, fs))] U.heap ∧ WK D cI cR U ∧ va_D (fun _ => True) [(h0, .inr (c, fs))])) (va_Qv (fun _ : Unit => True) (fun _ t => ∃ q : Nat → Nat, q 0 = h0 ∧ va_P D vwCl (cw q) t.heap ∧ va_D (va_A [(h0, .inr (c, fs))] sz) (cw q)) (va_A [(h0, .inr (c, fs))] sz)) mc ms (va_A [(h0, .inr (c, fs))] sz)
theorem nd_ok : ∀ l : List Nat, l.Nodup → va_nd l = true
  | [], _ => rfl
  | a :: l, h => by
    have h1 := List.nodup_cons.mp h
    unfold va_nd
    rw [nd_ok l h1.2, decide_eq_true h1.1]
    rfl
theorem nd_range (n : Nat) : va_nd (List.range n) = true := nd_ok _ List.nodup_range
theorem map_range_app {α : Type} (ws : List α) (x : List α) : (List.range ws.length).map (fun i => (ws ++ x)[i]?) = ws.map some := by
  apply List.ext_getElem?
  intro j
  rw [List.getElem?_map, List.getElem?_map]
  by_cases hj : j < ws.length
  · rw [List.getElem?_range hj]
    show some ((ws ++ x)[j]?) = _
    rw [List.getElem?_append_left hj, List.getElem?_eq_getElem hj]
    rfl
  · rw [List.getElem?_eq_none (by rw [List.length_range]; omega), List.getElem?_eq_none (by omega)]
    rfl
def CFi (y : MethodName) (b : ByteArray) (ml n : Nat) : Prop := Cond.instanceMethod y ∈ wsL_law ∧ Cond.code y b ml none ∈ wsL_law ∧ Cond.initialized y.cls ∈ wsL_law ∧ y.name = "<init>" ∧ (y.cls ≠ "java/lang/invoke/MethodHandle" ∧ y.cls ≠ "java/lang/invoke/VarHandle" ∧ (parseMethodDescriptor y.desc).map (fun d => d.parameters.length) = some n) ∧ ml ≤ 17
def FF (c i : Nat) (Cn : String) (T : u_T) (N : Nat) (ty : FieldType) (own : String) : Prop := FI c i Cn T N ∧ (∃ ty0 : Nat → FieldType, ∀ k, k < N → parseFieldDescriptor (T k).2.2.1 = some (ty0 k)) ∧ (∀ a, a < N → ∀ b, b < N → a ≠ b → (T a).2.1 ≠ (T b).2.1) ∧ (T i).2.2.2 = true ∧ (T i).1 = own ∧ parseFieldDescriptor (T i).2.2.1 = some ty
section KR
variable {Γ : GX} {Q : State → Prop} {own : String} {cc : ByteArray} {n pc pc0 : Nat} {ls : List (Nat × Value)} {rest : List Value} {ws tl : va_W} {k w : Nat} {h0 c : Nat} {fs : List Value}
theorem k_aload_n {j : Fin 4} {x : Nat} (C : CxK Γ own cc n) (hd : decode cc pc = .ok (.aload_n j, 1)) (hp : pc0 = pc) (q : Nat) (hq : ls[q]? = some ((j : Nat), .ref x)) (h : Kp Γ Q (pc + 1) ls (.ref x :: rest) ws k w) : Kp Γ Q pc0 ls rest ws k w := by
  subst hp
  exact fun H locs la hP hD hS hl => lv_aload_n C.exec C.bytes hd rfl (lv_at hl q hq) (h H locs la hP hD hS hl)
theorem k_iload_n {j : Fin 4} {x : Int32} (C : CxK Γ own cc n) (hd : decode cc pc = .ok (.iload_n j, 1)) (hp : pc0 = pc) (q : Nat) (hq : ls[q]? = some ((j : Nat), .int x)) (h : Kp Γ Q (pc + 1) ls (.int x :: rest) ws k w) : Kp Γ Q pc0 ls rest ws k w := by
  subst hp
  exact fun H locs la hP hD hS hl => lv_iload_n C.exec C.bytes hd rfl (lv_at hl q hq) (h H locs la hP hD hS hl)
theorem k_iconst {m : Int} {v : Int32} (C : CxK Γ own cc n) (hd : decode cc pc = .ok (.iconst m, 1)) (hp : pc0 = pc) (hv : Int32.ofInt m = v) (h : Kp Γ Q (pc + 1) ls (.int v :: rest) ws k w) : Kp Γ Q pc0 ls rest ws k w := by
  subst hp
  exact fun H locs la hP hD hS hl => lv_iconst C.exec C.bytes hd hv (h H locs la hP hD hS hl)
theorem k_bipush {m : Int} {v : Int32} (C : CxK Γ own cc n) (hd : decode cc pc = .ok (.bipush m, 2)) (hp : pc0 = pc) (hv : (Int8.ofInt m).toInt32 = v) (h : Kp Γ Q (pc + 2) ls (.int v :: rest) ws k w) : Kp Γ Q pc0 ls rest ws k w := by
  subst hp
  exact fun H locs la hP hD hS hl => lv_bipush C.exec C.bytes hd hv (h H locs la hP hD hS hl)
theorem k_sipush {m : Int} {v : Int32} (C : CxK Γ own cc n) (hd : decode cc pc = .ok (.sipush m, 3)) (hp : pc0 = pc) (hv : (Int16.ofInt m).toInt32 = v) (h : Kp Γ Q (pc + 3) ls (.int v :: rest) ws k w) : Kp Γ Q pc0 ls rest ws k w := by
  subst hp
  exact fun H locs la hP hD hS hl => lv_sipush C.exec C.bytes hd hv (h H locs la hP hD hS hl)
theorem k_dup {va : Value} (C : CxK Γ own cc n) (hd : decode cc pc = .ok (.dup, 1)) (hp : pc0 = pc) (hc : va.category = 1) (h : Kp Γ Q (pc + 1) ls (va :: va :: rest) ws k w) : Kp Γ Q pc0 ls (va :: rest) ws k w := by
  subst hp
  exact fun H locs la hP hD hS hl => lv_dup C.exec C.bytes hd hc (h H locs la hP hD hS hl)
theorem k_goto {off : Int} (tgt : Nat) {st : List Value} (C : CxK Γ own cc n) (hd : decode cc pc = .ok (.goto off, 3)) (hp : pc0 = pc) (ht : (pc : Int) + off = (tgt : Int)) (h : Kp Γ Q tgt ls st ws k w) : Kp Γ Q pc0 ls st ws k w := by
  subst hp
  exact fun H locs la hP hD hS hl => lv_goto C.exec C.bytes hd ht (h H locs la hP hD hS hl)
theorem k_if_ge {x : Int32} {off : Int} (tgt : Nat) (C : CxK Γ own cc n) (hd : decode cc pc = .ok (.ifCond .ge off, 3)) (hp : pc0 = pc) (ht : (pc : Int) + off = (tgt : Int)) (hx : 0 ≤ x) (h : Kp Γ Q tgt ls rest ws k w) : Kp Γ Q pc0 ls (.int x :: rest) ws k w := by
  subst hp
  exact fun H locs la hP hD hS hl => lv_if_ge C.exec C.bytes hd ht (fun _ => h H locs la hP hD hS hl) (fun c => absurd hx c)
theorem k_icmp_ge {x y : Int32} {off : Int} (tgt : Nat) (C : CxK Γ own cc n) (hd : decode cc pc = .ok (.if_icmp .ge off, 3)) (hp : pc0 = pc) (ht : (pc : Int) + off = (tgt : Int)) (kt : y ≤ x → Kp Γ Q tgt ls rest ws k w) (kf : ¬ y ≤ x → Kp Γ Q (pc + 3) ls rest ws k w) : Kp Γ Q pc0 ls (.int y :: .int x :: rest) ws k w := by
  subst hp
  exact fun H locs la hP hD hS hl => lv_icmp_ge C.exec C.bytes hd ht (fun c => kt c H locs la hP hD hS hl) (fun c => kf c H locs la hP hD hS hl)
theorem k_istore_n {j : Fin 4} {x : Int32} {nl : Nat} {ls' : List (Nat × Value)} (C : CxK Γ own cc n) (hd : decode cc pc = .ok (.istore_n j, 1)) (hp : pc0 = pc) (hn : xn Γ = nl) (hi : (j : Nat) < nl) (hls : ((j : Nat), Value.int x) :: ls.filter (fun q => !(q.1 == (j : Nat)) && !(q.1 + 1 == (j : Nat) && q.2.category == 2)) = ls') (h : Kp Γ Q (pc + 1) ls' rest ws k w) : Kp Γ Q pc0 ls (.int x :: rest) ws k w := by
  subst hp
  subst hn
  exact fun H locs la hP hD hS hl => lv_istore_n C.exec C.bytes hd rfl hl (by omega) hls (fun ls1 h1 => h H locs ls1 hP hD hS h1)
theorem k_astore_n {j : Fin 4} {x nl : Nat} {ls' : List (Nat × Value)} (C : CxK Γ own cc n) (hd : decode cc pc = .ok (.astore_n j, 1)) (hp : pc0 = pc) (hn : xn Γ = nl) (hi : (j : Nat) < nl) (hls : ((j : Nat), Value.ref x) :: ls.filter (fun q => !(q.1 == (j : Nat)) && !(q.1 + 1 == (j : Nat) && q.2.category == 2)) = ls') (h : Kp Γ Q (pc + 1) ls' rest ws k w) : Kp Γ Q pc0 ls (.ref x :: rest) ws k w := by
  subst hp
  subst hn
  exact fun H locs la hP hD hS hl => lv_astore_n C.exec C.bytes hd rfl hl (by omega) hls (fun ls1 h1 => h H locs ls1 hP hD hS h1)
theorem k_iinc {i q nl : Nat} {m : Int} {x v : Int32} {ls' : List (Nat × Value)} (C : CxK Γ own cc n) (hd : decode cc pc = .ok (.iinc i m, 3)) (hp : pc0 = pc) (hn : xn Γ = nl) (hi : i < nl) (hk : ls[q]? = some (i, .int x)) (hv : x + Int32.ofInt m = v) (hls : (i, Value.int v) :: ls.filter (fun q => !(q.1 == i) && !(q.1 + 1 == i && q.2.category == 2)) = ls') (h : Kp Γ Q (pc + 3) ls' rest ws k w) : Kp Γ Q pc0 ls rest ws k w := by
  subst hp
  subst hn
  exact fun H locs la hP hD hS hl => lv_iinc C.exec C.bytes hd hl hk hv hi hls (fun ls1 h1 => h H locs ls1 hP hD hS h1)
theorem k_objInit {a idx : Nat} (C : CxK Γ own cc n) (hd : decode cc pc = .ok (.invokespecial idx, 3)) (hp : pc0 = pc) (hw : Cond.methodLink own idx objectInit ∈ wsL_law) (hn : 1 ≤ n) (h : Kp Γ Q (pc + 3) ls [] ws k w) : Kp Γ Q pc0 ls [.ref a] ws k w := by
  subst hp
  have h1 := C.fr
  have h2 := C.lo
  exact fun H locs la hP hD hS hl => W.objInit C.exec C.bytes C.own (C.ts _ hw) (C.ts _ oi_1) (C.ts _ oi_2) rfl (by rw [C.ml]; exact hl.1) rfl hd (by omega) (by show 2 * 0 + 0 + 12 ≤ _; omega) (h H locs la hP hD hS hl)
theorem k_putI {i N idx : Nat} {Cn : String} {T : u_T} {x : Int32} (C : CxK Γ own cc n) (hd : decode cc pc = .ok (.putfield idx, 3)) (hp : pc0 = pc) (F : FP c i Cn T N .int) (hw : Cond.fieldLink own idx (T i).1 (T i).2.1 (T i).2.2.1 ∈ wsL_law) (hl9 : i < fs.length) (h : Kp Γ Q (pc + 3) ls rest ((h0, .inr (c, fs.set i (.int x))) :: tl) k w) : Kp Γ Q pc0 ls (.int x :: .ref h0 :: rest) ((h0, .inr (c, fs)) :: tl) k w := by
  subst hp
  obtain ⟨⟨hc, hin, hn, hi⟩, ⟨ty0, hty⟩, hnm, hfin, hdd⟩ := F
  exact fun H locs la hP hD hS hl => va_put C.exec C.bytes C.ts hin ty0 hty hnm C.own C.W.1 hP hD hS 0 rfl hc i hi (C.ts _ hw) (fun _ h9 => h9) hfin hdd rfl rfl hl9 hd (fun H1 locs1 hP1 hD1 hS1 => h H1 locs1 la hP1 hD1 hS1 hl)
theorem k_putF {i N idx a : Nat} {Cn : String} {T : u_T} {ty : FieldType} (C : CxK Γ own cc n) (hin2 : (xt Γ).name = "<init>") (hd : decode cc pc = .ok (.putfield idx, 3)) (hp : pc0 = pc) (F : FF c i Cn T N ty own) (hw : Cond.fieldLink own idx (T i).1 (T i).2.1 (T i).2.2.1 ∈ wsL_law) (hnr : narrow ty (.ref a) = .ref a) (hft : fits ty (.ref a) = true) (hl9 : i < fs.length) (h : Kp Γ Q (pc + 3) ls rest ((h0, .inr (c, fs.set i (.ref a))) :: tl) k w) : Kp Γ Q pc0 ls (.ref a :: .ref h0 :: rest) ((h0, .inr (c, fs)) :: tl) k w := by
  subst hp
  obtain ⟨⟨hc, hin, hn, hi⟩, ⟨ty0, hty⟩, hnm, hfin, hdecl, hdd⟩ := F
  exact fun H locs la hP hD hS hl => va_putF C.exec C.bytes C.ts hin ty0 hty hnm C.own C.W.1 hP hD hS 0 rfl hc i hi (C.ts _ hw) (fun _ h9 => h9) hfin hin2 hdecl hdd hnr hft hl9 hd (fun H1 locs1 hP1 hD1 hS1 => h H1 locs1 la hP1 hD1 hS1 hl)
theorem k_getF {i N idx a : Nat} {Cn : String} {T : u_T} (C : CxK Γ own cc n) (hd : decode cc pc = .ok (.getfield idx, 3)) (hp : pc0 = pc) (F : FI c i Cn T N) (hw : Cond.fieldLink own idx (T i).1 (T i).2.1 (T i).2.2.1 ∈ wsL_law) (hv : fs[i]? = some (.ref a)) (h : Kp Γ Q (pc + 3) ls (.ref a :: rest) ((h0, .inr (c, fs)) :: tl) k w) : Kp Γ Q pc0 ls (.ref h0 :: rest) ((h0, .inr (c, fs)) :: tl) k w := by
  subst hp
  obtain ⟨hc, hin, hn, hi⟩ := F
  exact fun H locs la hP hD hS hl => va_get C.exec C.bytes C.ts hin C.own C.W.1 hP 0 rfl hc i hi (C.ts _ hw) (fun _ h9 => h9) hv hd (h H locs la hP hD hS hl)
theorem k_newa {m : Int32} {N : Nat} (C : CxK Γ own cc n) (hd : decode cc pc = .ok (.newarray .int, 2)) (hp : pc0 = pc) (hm : ¬ m < 0) (hN : m.toNatClampNeg = N) (hb : N * 4 ≤ 536870912) (hk : k + 1 ≤ (xR Γ).cells ∧ w + N ≤ (xR Γ).slots) (h : ∀ q : Nat, Kp Γ Q (pc + 2) ls (.ref q :: rest) (ws ++ [(q, .inl ((xE Γ).2.2.1, N, .inl (fun _ => 0)))]) (k + 1) (w + N)) : Kp Γ Q pc0 ls (.int m :: rest) ws k w := by
  subst hp
  refine fun H locs la hP hD hS hl => va_newa (atype := .int) (ty := .int) (a0 := (N, .inl (fun _ => 0))) C.exec C.bytes (C.ts _ ac_int) rfl C.W.1 hP hD hS C.A (fun cA => vp_cell_i cA N (fun _ => 0)) hm hN hb hk.1 hk.2 hd (fun q cA H1 hK1 hP1 hD1 hS1 => ?_)
  have e1 : (xs Γ).vm.findClass ("[" ++ FieldType.int.toString) = some cA := (hK1.2 2 (cA, .int) rfl).2
  have e2 : (xs Γ).vm.findClass ("[" ++ FieldType.int.toString) = some (xE Γ).2.2.1 := (C.W.1.2 0 _ rfl).2
  cases e1.symm.trans e2
  exact h q H1 locs la hP1 hD1 hS1 hl
theorem k_newq {m : Int32} {N idx : Nat} (C : CxK Γ own cc n) (hd : decode cc pc = .ok (.anewarray idx, 3)) (hp : pc0 = pc) (hw : Cond.classLink own idx RX2 ∈ wsL_law) (hm : ¬ m < 0) (hN : m.toNatClampNeg = N) (hb : N * 4 ≤ 536870912) (hk : k + 1 ≤ (xR Γ).cells ∧ w + N ≤ (xR Γ).slots) (h : ∀ q : Nat, Kp Γ Q (pc + 3) ls (.ref q :: rest) (ws ++ [(q, .inl ((xE Γ).2.2.2, N, .inr (.inr (.inr (.inr (fun _ => none))))))]) (k + 1) (w + N)) : Kp Γ Q pc0 ls (.int m :: rest) ws k w := by
  subst hp
  refine fun H locs la hP hD hS hl => va_newq (C := RX2) C.exec C.bytes C.own (C.ts _ hw) C.W.2.2 C.W.1 hP hD hS C.A hm hN hb hk.1 hk.2 hd (fun q cA H1 hK1 hP1 hD1 hS1 => ?_)
  obtain ⟨kA, comp, f1, f2, f3, e1⟩ := (hK1.2 2 (cA, .object RX2) rfl).2
  obtain ⟨kB, comp', g1, g2, g3, e2⟩ := (C.W.1.2 1 _ rfl).2
  cases e1.symm.trans e2
  exact h q H1 locs la hP1 hD1 hS1 hl
theorem k_aast {N : Nat} {i : Int32} {v c2 N2 qa qk : Nat} {fs2 : List Value} {T2 : u_T} {f : Nat → Option Nat} {a : Nat} (C : CxK Γ own cc n) (hd : decode cc pc = .ok (.aastore, 1)) (hp : pc0 = pc) (ha : ws[qa]? = some (a, .inl ((xE Γ).2.2.2, N, .inr (.inr (.inr (.inr f)))))) (hv : ws[qk]? = some (v, .inr (c2, fs2))) (hc : vwCl[c2]? = some (RX2, T2, N2)) (hi : vp_in i N) (h : Kp Γ Q (pc + 1) ls rest (ws.set qa (a, .inl ((xE Γ).2.2.2, N, .inr (.inr (.inr (.inr (va_up f i.toNatClampNeg (some v)))))))) k w) : Kp Γ Q pc0 ls (.ref v :: .int i :: .ref a :: rest) ws k w := by
  subst hp
  exact fun H locs la hP hD hS hl => va_astq (r := (RX2, T2, N2)) C.exec C.bytes C.W.1 hP hD hS qa 1 qk c2 ha rfl hv hc hi hd (fun H1 locs1 hP1 hD1 hS1 => h H1 locs1 la hP1 hD1 hS1 hl)
theorem k_new {ci N idx : Nat} {Cn : String} {T : u_T} {fs2 : List Value} (C : CxK Γ own cc n) (hd : decode cc pc = .ok (.new idx, 3)) (hp : pc0 = pc) (hw : Cond.classLink own idx Cn ∈ wsL_law ∧ Cond.instantiable Cn N ∈ wsL_law ∧ Cond.initialized Cn ∈ wsL_law) (F : vwCl[ci]? = some (Cn, T, N) ∧ (∀ w ∈ u_ws Cn T N, w ∈ wsL_law)) (ty : Nat → FieldType) (hty : ∀ k, k < N → parseFieldDescriptor (T k).2.2.1 = some (ty k)) (hfs : ∀ j, j < N → defaultValue (ty j) = vp_V fs2 j) (hk : k + 1 ≤ (xR Γ).cells ∧ w + N ≤ (xR Γ).slots) (h : ∀ q : Nat, Kp Γ Q (pc + 3) ls (.ref q :: rest) (ws ++ [(q, .inr (ci, fs2))]) (k + 1) (w + N)) : Kp Γ Q pc0 ls rest ws k w := by
  subst hp
  exact fun H locs la hP hD hS hl => va_new C.exec C.bytes C.ts F.2 ty hty C.own (C.ts _ hw.1) (C.ts _ hw.2.1) (C.ts _ hw.2.2) C.W.1 hP hD hS C.A F.1 hfs hk.1 hk.2 hd (fun q H1 hP1 hD1 hS1 => h q H1 locs la hP1 hD1 hS1 hl)
theorem k_init {y : MethodName} {b : ByteArray} {ml nn nA idx ci q mc ms : Nat} {fs2 As st0 : List Value} {cw : (Nat → Nat) → va_W} (C : CxK Γ own cc n) (hd : decode cc pc = .ok (.invokespecial idx, 3)) (hp : pc0 = pc) (hC : KCt (xl Γ) (xE Γ).2.1 (xE Γ).2.2.1 (xE Γ).2.2.2 y b ml nn As ci fs2 cw mc ms) (cf : CFi y b ml nA) (hlk : Cond.methodLink own idx y ∈ wsL_law ∨ ∃ host, Cond.methodLinkNest own idx y host ∈ nwL2) (hn : As.length = nA) (hdd : nn + 1 ≤ n) (hst : (rest.map fun v => v.category).sum ≤ 8) (hs : st0 = As.reverse ++ .ref q :: rest) (hk : k + mc ≤ (xR Γ).cells ∧ w + ms ≤ (xR Γ).slots) (h : ∀ q' : Nat → Nat, q' 0 = q → Kp Γ Q (pc + 3) ls rest (ws ++ cw q') (k + mc) (w + ms)) : Kp Γ Q pc0 ls st0 (ws ++ [(q, .inr (ci, fs2))]) k w := by
  subst hp
  obtain ⟨h1, h2, h3, h4, h5, h6⟩ := cf
  have g1 := C.fr
  have g2 := C.lo
  intro H locs la hP hD hS hl
  have hq : (ws ++ [(q, (.inr (ci, fs2) : va_E))])[ws.length]? = some (q, .inr (ci, fs2)) := by
    rw [List.getElem?_append_right (Nat.le_refl _), Nat.sub_self]
    rfl
  have hF : ∀ x, va_A [(q, (.inr (ci, fs2) : va_E))] H.size x → xA Γ x := by
    intro x hx
    rcases hx with ⟨j, e, he⟩ | hx
    · match j, he with
      | 0, he =>
        have e2 : x = q := (congrArg Prod.fst (Option.some.inj he)).symm
        rw [e2]
        exact hD.2 _ _ hq
    · exact C.A x (Nat.le_trans hS.1 hx)
  have hP1 : va_P (xE Γ).2.1 vwCl [(q, (.inr (ci, fs2) : va_E))] H := by
    intro j x hx
    match j, hx with
    | 0, hx => cases hx; exact hP _ _ hq
  have hD1 : va_D (fun _ => True) [(q, (.inr (ci, fs2) : va_E))] := by
    refine ⟨fun i j x y hx hy _ => ?_, fun _ _ _ => trivial⟩
    match i, j, hx, hy with
    | 0, 0, _, _ => rfl
  have hts : ∀ w ∈ (Cond.code y b ml none :: wsL_law), w.before (xa Γ) (xs Γ) = true := fun w hw => by
    rcases List.mem_cons.mp hw with rfl | hw
    · exact C.ts _ h2
    · exact C.ts _ hw
  have hroom : nn + 1 ≤ (xR Γ).frames ∧ 8 + (ml + 11) + 36 * nn ≤ (xR Γ).locals := ⟨by omega, by omega⟩
  have hpre : PreS (xs Γ) H (va_Pc (.ref q :: As) (fun U => U.heap.size = H.size ∧ va_P (xE Γ).2.1 vwCl [(q, (.inr (ci, fs2) : va_E))] U.heap ∧ WK (xE Γ).2.1 (xE Γ).2.2.1 (xE Γ).2.2.2 U ∧ va_D (fun _ => True) [(q, (.inr (ci, fs2) : va_E))])) (.ref q :: As) :=
    ⟨fun a U g mk z => ⟨z.1, z.2.1, z.2.2.1, ⟨va_K.moved (u := U) (U := U.calling g mk a) (Vm.Alike.refl U.vm) z.2.2.2.1.1, NW2.same (u := U) (U := U.calling g mk a) rfl z.2.2.2.1.2.1, va_AO.moved (u := U) (U := U.calling g mk a) (Vm.Alike.refl U.vm) z.2.2.2.1.2.2⟩, z.2.2.2.2⟩, fun U hU hW => ⟨rfl, by rw [hU], by rw [hU]; exact hP1, C.W.warm hW, hD1⟩⟩
  have hr : va_Run (xp Γ) (xl Γ) (xe Γ) (xR Γ) (xs Γ) (xm Γ) (xa Γ) (xb Γ) (xt Γ) (xc Γ) H locs k w mc ms (F0 (xm Γ) pc0 la st0) rest (va_Qv (fun _ : Unit => True) (fun _ t => ∃ q' : Nat → Nat, q' 0 = q ∧ va_P (xE Γ).2.1 vwCl (cw q') t.heap ∧ va_D (va_A [(q, (.inr (ci, fs2) : va_E))] H.size) (cw q')) (va_A [(q, (.inr (ci, fs2) : va_E))] H.size) (Value.ref q :: As).toArray) (va_A [(q, (.inr (ci, fs2) : va_E))] H.size) := by
    rcases hlk with hlk | ⟨host, hlk⟩
    · exact va_runI (nL := xn Γ) (Ts := .code y b ml none :: wsL_law) (As := As) (rest := rest) ⟨C.exec, C.bytes, C.ml, C.own, hts⟩ (hC q H.size) (cwI nA hts (good_c h2) rfl rfl rfl (C.ts _ h3) (C.ts _ hlk) (C.ts _ h1) h4 h5 hroom) hpre rfl hn hl.1 hs (lv_room hst) hd hk
    · exact va_runIN (nL := xn Γ) (Ts := .code y b ml none :: wsL_law) (As := As) (rest := rest) ⟨C.exec, C.bytes, C.ml, C.own, hts⟩ (hC q H.size) ⟨va_cnB nA hts (good_c h2) rfl rfl rfl (C.W.2.1 _ hlk) (C.ts _ h3) h5 hroom, h4, C.ts _ h1⟩ hpre rfl hn hl.1 hs (lv_room hst) hd hk
  refine va_callv hr hS (fun x _ hx => hF x hx) hF (fun _ t H1 locs1 ht hvm _ hB hz hk1 hS1 => ?_)
  obtain ⟨q', hq', hP2, hD2⟩ := hB
  rw [ht] at hP2
  obtain ⟨hP3, hD3⟩ := va_join (wr := ws) (w1 := cw q') hP hD [ws.length] (List.range ws.length) (by rw [List.map_cons, hq]; rfl) (map_range_app ws _) (nd_range _) (fun i hi hj => by
    have := List.mem_range.mp hi
    rw [List.mem_singleton.mp hj] at this
    omega) hk1 hF hP2 hD2
  exact h q' hq' H1 locs1 la hP3 hD3 hS1 hl
end KR
theorem KCt_of {l : Launch} {D : va_G} {cI cR : Nat} {y : MethodName} {b : ByteArray} {ml n : Nat} {As : List Value} {c : Nat} {fs : List Value} {cw : (Nat → Nat) → va_W} {mc ms : Nat} {own : String} (hy : plainName y.cls = true) (ho : y.cls = own) (hyn : y.name = "<init>") (hsz : (lg_sl (.ref 0 :: As)).length ≤ ml)
    (h : ∀ (Γ : GX) (h0 : Nat) (Q : State → Prop), xl Γ = l → (xE Γ).2.1 = D → (xE Γ).2.2.1 = cI → (xE Γ).2.2.2 = cR → xn Γ = ml → CxK Γ own b n → (xt Γ).name = "<init>" → mc ≤ (xR Γ).cells → ms ≤ (xR Γ).slots →
      (∀ (pc : Nat) (ls : List (Nat × Value)) (ws : va_W) (q : Nat → Nat), decode b pc = .ok (.return_, 1) → q 0 = h0 → ws = cw q → Kp Γ Q pc ls [] ws mc ms) → Kp Γ Q 0 ((0, .ref h0) :: lv_args 1 As) [] [(h0, .inr (c, fs))] 0 0) : KCt l D cI cR y b ml n As c fs cw mc ms := by
  intro h0 sz
  refine Met.ofW (cc := b) (maxL := ml) (ret := none) hy rfl ?_
  intro p e s m args below meth cc2 s₁ B hml hv
  obtain ⟨rfl, hz, hP, hK, hD0⟩ := hv
  subst hz
  have hts := atoms_spec (ws := .code y b ml none :: wsL_law) B.pre
  have hown : s.vm.findClass own = some m.cls := by rw [← ho]; exact findClass_of_methodNamed B.named
  have hin : meth.name = "<init>" := ((name_of_methodNamed B.named B.method).1).trans hyn
  have hsz2 : (lg_sl (.ref h0 :: As)).length ≤ ml := hsz
  have hl := lv_entry (.ref h0 :: As) (n := ml) hsz2
  rw [lg_entry_eq]
  have hD := hD0.self (sz := s.heap.size)
  refine h ((fun _ => 0, D, cI, cR), va_A [(h0, .inr (c, fs))] s.heap.size, (p, l, e, { frames := n, cells := mc, slots := ms, locals := 36 * n }, s, m, (Value.ref h0 :: As).toArray, below, meth, cc2), mc, ms, ml) h0 _ rfl rfl rfl rfl rfl ⟨B.exec, B.bytes, hml, hown, fun w hw => hts w (List.mem_cons_of_mem _ hw), hK, fun q hq => Or.inr hq, Nat.le_refl _, Nat.le_refl _⟩ hin (Nat.le_refl _) (Nat.le_refl _) ?_ s.heap [] _ hP hD va_S.rf hl
  intro pc ls ws q hd hq0 hws H locs la hP1 hD1 hS1 hl1
  exact W.vret B.exec B.bytes B.returns (fun t ht hW => ⟨⟨(), rfl, trivial, q, hq0, by rw [ht, ← hws]; exact hP1, by rw [← hws]; exact hD1⟩, hS1.F ht⟩) hS1.2.2 hd B.notSynchronized
