theorem nw_on {w : Cond} (h : nwOk w = true) : w.onTables = true := by
  cases w with
  | methodLinkNest a i x hh => rfl
  | _ => cases h
theorem nwL_in : ∀ w ∈ nwL, w ∈ lw_tbl := by
  unfold nwL
  refine List.forall_mem_cons.mpr ⟨tb_2 185 (by rfl), ?_⟩
  refine List.forall_mem_cons.mpr ⟨tb_3 4 (by rfl), ?_⟩
  refine List.forall_mem_cons.mpr ⟨tb_2 178 (by rfl), ?_⟩
  refine List.forall_mem_cons.mpr ⟨tb_2 202 (by rfl), ?_⟩
  refine List.forall_mem_cons.mpr ⟨tb_2 212 (by rfl), ?_⟩
  refine List.forall_mem_cons.mpr ⟨tb_4 127 (by rfl), ?_⟩
  refine List.forall_mem_cons.mpr ⟨tb_4 90 (by rfl), ?_⟩
  exact fun _ h => absurd h List.not_mem_nil
theorem nwL2_in : ∀ w ∈ nwL2, w ∈ lw_tbl := by
  unfold nwL2
  refine List.forall_mem_cons.mpr ⟨tb_1 24 (by rfl), ?_⟩
  refine List.forall_mem_cons.mpr ⟨tb_1 187 (by rfl), ?_⟩
  refine List.forall_mem_cons.mpr ⟨tb_1 217 (by rfl), ?_⟩
  refine List.forall_mem_cons.mpr ⟨tb_2 56 (by rfl), ?_⟩
  refine List.forall_mem_cons.mpr ⟨tb_1 222 (by rfl), ?_⟩
  refine List.forall_mem_cons.mpr ⟨tb_1 224 (by rfl), ?_⟩
  refine List.forall_mem_cons.mpr ⟨tb_1 226 (by rfl), ?_⟩
  refine List.forall_mem_cons.mpr ⟨tb_1 173 (by rfl), ?_⟩
  refine List.forall_mem_cons.mpr ⟨tb_1 30 (by rfl), ?_⟩
  refine List.forall_mem_cons.mpr ⟨tb_1 44 (by rfl), ?_⟩
  refine List.forall_mem_cons.mpr ⟨tb_1 70 (by rfl), ?_⟩
  refine List.forall_mem_cons.mpr ⟨tb_1 84 (by rfl), ?_⟩
  exact fun _ h => absurd h List.not_mem_nil
def rowF : Nat → Int32 := fun i => if i = 1 then 100 else if i = 3 then 20 else if i = 4 then 30 else if i = 5 then 4 else if i = 6 then 2 else 0
def rowM : Nat → Int32 := fun i => if i = 3 then 100 else if i = 5 then 20 else if i = 6 then 30 else if i = 7 then 4 else if i = 8 then 2 else 0
def u0 : Mm := fun k => if kd k = 5 then rowF else if kd k = 14 then rowM else fun _ => 0
theorem P_unset {D : va_G} {cl : List vw_C} {ws : va_W} {j a : Nat} {e e' : va_E} {H : Heap} (hj : ws[j]? = some (a, e)) (h : va_P D cl (ws.set j (a, e')) H) (ha : va_at D cl (a, e') H → va_at D cl (a, e) H) : va_P D cl ws H := by
  have hl := (List.getElem?_eq_some_iff.mp hj).1
  intro k q hk
  by_cases hkj : j = k
  · subst hkj
    rw [hj] at hk
    cases hk
    exact ha (h j (a, e') (by rw [List.getElem?_set, if_pos rfl, if_pos hl]))
  · exact h k q (by rw [List.getElem?_set, if_neg hkj]; exact hk)
theorem Ij_of {E : EE} {A : Nat → Prop} {u : Mm} (hD : va_D A (wl E u)) : Ij E := by
  intro i j h1 h2 h3 h4 he
  have a1 := wl_get E u h1 h2
  have a2 := wl_get E u h3 h4
  have := hD.1 (i - 1) (j - 1) _ _ a1 a2 he
  omega
theorem A_of {E : EE} {A : Nat → Prop} {u : Mm} (hD : va_D A (wl E u)) : ∀ k, 1 ≤ k → k ≤ NC → A (E.1 k) := fun k h1 h2 => hD.2 _ _ (wl_get E u h1 h2)
def rh (q1 q2 : Nat → Nat) : Nat → Nat := fun k => if k < 74 then q1 (k - 1) else q2 (k - 74)
def blk (E : EE) (k n : Nat) : va_W := (List.range n).map (fun j => (E.1 (j + k), rend E u0 (j + k)))
theorem blk_add (E : EE) (k a b : Nat) : blk E k (a + b) = blk E k a ++ blk E (k + a) b := by
  unfold blk
  rw [List.range_add, List.map_append, List.map_map]
  congr 1
  apply List.map_congr_left
  intro j _
  show (E.1 (a + j + k), rend E u0 (a + j + k)) = (E.1 (j + (k + a)), rend E u0 (j + (k + a)))
  rw [show a + j + k = j + (k + a) by omega]
theorem blk_all (E : EE) : wl E u0 = blk E 1 100 := rfl
def A1 (cI cR : Nat) (q1 q2 : Nat → Nat) : va_W := ([(q1 0, .inr (10, [.ref (q1 1), .ref (q1 14), .ref (q1 27), .int 0, .ref (q1 40), .ref (q1 50), .ref (q1 53), .ref (q1 55), .ref (q1 56), .ref (q1 70)]))]) ++ (([(q1 (0 + 1), .inr (9, [.ref (q1 (1 + 1)), .ref (q1 (4 + 1)), .ref (q1 (10 + 1)), .ref (q1 (12 + 1))]))]) ++ ((cwX0 cI cR (fun j => q1 ((j + 1) + 1))) ++ ((cwX1 cI cR (fun j => q1 ((j + 4) + 1))) ++ ((cwX6 cI cR (fun j => q1 ((j + 10) + 1))) ++ ((cwX2 cI cR (fun j => q1 ((j + 12) + 1))) ++ (([(q1 (0 + 14), .inr (9, [.ref (q1 (1 + 14)), .ref (q1 (4 + 14)), .ref (q1 (10 + 14)), .ref (q1 (12 + 14))]))]) ++ ((cwX0 cI cR (fun j => q1 ((j + 1) + 14))) ++ ((cwX1 cI cR (fun j => q1 ((j + 4) + 14))) ++ ((cwX6 cI cR (fun j => q1 ((j + 10) + 14))) ++ ((cwX2 cI cR (fun j => q1 ((j + 12) + 14))) ++ (([(q1 (0 + 27), .inr (9, [.ref (q1 (1 + 27)), .ref (q1 (4 + 27)), .ref (q1 (10 + 27)), .ref (q1 (12 + 27))]))]) ++ ((cwX0 cI cR (fun j => q1 ((j + 1) + 27))) ++ ((cwX1 cI cR (fun j => q1 ((j + 4) + 27))) ++ ((cwX6 cI cR (fun j => q1 ((j + 10) + 27))) ++ ((cwX2 cI cR (fun j => q1 ((j + 12) + 27))) ++ (([(q1 (0 + 40), .inr (4, [.int 0, .int 0, .ref (q1 (1 + 40))]))])))))))))))))))))
def A2 (cI cR : Nat) (q1 q2 : Nat → Nat) : va_W := (cwX2 cI cR (fun j => q1 ((j + 2) + 40))) ++ ((cwX2 cI cR (fun j => q1 ((j + 3) + 40))) ++ ((cwX2 cI cR (fun j => q1 ((j + 4) + 40))) ++ ((cwX2 cI cR (fun j => q1 ((j + 5) + 40))) ++ ((cwX2 cI cR (fun j => q1 ((j + 6) + 40))) ++ ((cwX2 cI cR (fun j => q1 ((j + 7) + 40))) ++ ((cwX2 cI cR (fun j => q1 ((j + 8) + 40))) ++ ((cwX2 cI cR (fun j => q1 ((j + 9) + 40))) ++ (([(q1 (0 + 50), .inr (5, [.ref (q1 (1 + 50))]))]) ++ ((cwX7_96 cI cR (fun j => q1 ((j + 1) + 50))) ++ ((cwX7_12 cI cR (fun j => q1 (j + 53))) ++ (([(q1 55, .inl (cI, 7, .inl (fun _ => 0)))]) ++ (([(q1 (0 + 56), .inr (3, [.ref (q1 (1 + 56)), .ref (q1 (4 + 56)), .ref (q1 (10 + 56)), .ref (q1 (11 + 56)), .int 0, .ref (q1 (12 + 56)), .int 0, .int 0, .int 0, .int 0, .int 0, .int 0, .int 0, .int 0, .int 0, .int 0, .int 0, .ref (q1 (13 + 56))]))]) ++ ((cwX0 cI cR (fun j => q1 ((j + 1) + 56))) ++ ((cwX1 cI cR (fun j => q1 ((j + 4) + 56))) ++ ((cwX2 cI cR (fun j => q1 ((j + 10) + 56))) ++ ((cwX2 cI cR (fun j => q1 ((j + 11) + 56))) ++ ((cwX2 cI cR (fun j => q1 ((j + 12) + 56))) ++ (([(q1 (13 + 56), .inl (cI, 6, .inl (fun _ => 0)))]) ++ ((cwX8 cI cR (fun j => q1 (j + 70))) ++ (([(q2 0, .inr (11, [.ref (q2 1), .ref (q2 2), .int 0, .int 100, .int 0, .int 20, .int 30, .int 4, .int 2, .int 0, .ref (q2 3), .int 0, .ref (q2 4), .ref (q2 5), .ref (q2 6), .ref (q2 7), .ref (q2 8), .ref (q2 9), .int 0, .int 0, .ref (q2 10), .int 0, .ref (q2 11), .int 0, .int 0, .int 0, .int 0, .ref (q2 12), .ref (q2 13), .ref (q2 14), .ref (q2 15), .ref (q2 16), .ref (q2 17), .int 0, .int 0, .int 0, .null, .ref (q2 18), .ref (q2 19), .ref (q2 20), .int 0, .int 0, .int 0, .int 0, .int 0, .int 0, .int 0, .int 0, .int 0, .int 0, .ref (q2 21), .int 0, .int 0, .ref (q2 22), .ref (q2 23), .ref (q2 24), .ref (q2 25), .ref (q2 26), .int 0]))]) ++ (([(q2 1, .inl (cI, 8, .inl (fun _ => 0)))]) ++ (([(q2 2, .inl (cI, 8, .inl (fun _ => 0)))]) ++ (([(q2 3, .inl (cI, 6, .inl (fun _ => 0)))]) ++ (([(q2 4, .inl (cI, 8, .inl (fun _ => 0)))]) ++ (([(q2 5, .inl (cI, 8, .inl (fun _ => 0)))]) ++ (([(q2 6, .inl (cI, 8, .inl (fun _ => 0)))]) ++ (([(q2 7, .inl (cI, 8, .inl (fun _ => 0)))]) ++ (([(q2 8, .inl (cI, 8, .inl (fun _ => 0)))]) ++ (([(q2 9, .inl (cI, 64, .inl (fun _ => 0)))]) ++ (([(q2 10, .inl (cI, 7, .inl (fun _ => 0)))]) ++ (([(q2 11, .inl (cI, 96, .inl (fun _ => 0)))]) ++ (([(q2 12, .inl (cI, 49, .inl (fun _ => 0)))]) ++ (([(q2 13, .inl (cI, 49, .inl (fun _ => 0)))]) ++ (([(q2 14, .inl (cI, 441, .inl (fun _ => 0)))]) ++ (([(q2 15, .inl (cI, 49, .inl (fun _ => 0)))]) ++ (([(q2 16, .inl (cI, 138, .inl (fun _ => 0)))]) ++ (([(q2 17, .inl (cI, 138, .inl (fun _ => 0)))]) ++ (([(q2 18, .inl (cI, 14, .inl (fun _ => 0)))]) ++ (([(q2 19, .inl (cI, 112, .inl (fun _ => 0)))]) ++ (([(q2 20, .inl (cI, 14, .inl (fun _ => 0)))]) ++ (([(q2 21, .inl (cI, 14, .inl (fun _ => 0)))]) ++ (([(q2 22, .inl (cI, 8, .inl (fun _ => 0)))]) ++ (([(q2 23, .inl (cI, 6, .inl (fun _ => 0)))]) ++ (([(q2 24, .inl (cI, 64, .inl (fun _ => 0)))]) ++ (([(q2 25, .inl (cI, 2048, .inl (fun _ => 0)))]) ++ (([(q2 26, .inl (cI, 12, .inl (fun _ => 0)))])))))))))))))))))))))))))))))))))))))))))))))))
set_option maxRecDepth 20000 in
set_option maxHeartbeats 1000000 in
theorem bl_1 (D : va_G) (cI cR : Nat) (q1 q2 : Nat → Nat) : blk (rh q1 q2, D, cI, cR) 1 1 = [(q1 0, .inr (10, [.ref (q1 1), .ref (q1 14), .ref (q1 27), .int 0, .ref (q1 40), .ref (q1 50), .ref (q1 53), .ref (q1 55), .ref (q1 56), .ref (q1 70)]))] := by rfl
set_option maxRecDepth 20000 in
set_option maxHeartbeats 1000000 in
theorem bl_2 (D : va_G) (cI cR : Nat) (q1 q2 : Nat → Nat) : blk (rh q1 q2, D, cI, cR) 2 1 = [(q1 (0 + 1), .inr (9, [.ref (q1 (1 + 1)), .ref (q1 (4 + 1)), .ref (q1 (10 + 1)), .ref (q1 (12 + 1))]))] := by rfl
set_option maxRecDepth 20000 in
set_option maxHeartbeats 1000000 in
theorem bl_3 (D : va_G) (cI cR : Nat) (q1 q2 : Nat → Nat) : blk (rh q1 q2, D, cI, cR) 3 3 = cwX0 cI cR (fun j => q1 ((j + 1) + 1)) := by rfl
set_option maxRecDepth 20000 in
set_option maxHeartbeats 1000000 in
theorem bl_6 (D : va_G) (cI cR : Nat) (q1 q2 : Nat → Nat) : blk (rh q1 q2, D, cI, cR) 6 6 = cwX1 cI cR (fun j => q1 ((j + 4) + 1)) := by rfl
set_option maxRecDepth 20000 in
set_option maxHeartbeats 1000000 in
theorem bl_12 (D : va_G) (cI cR : Nat) (q1 q2 : Nat → Nat) : blk (rh q1 q2, D, cI, cR) 12 2 = cwX6 cI cR (fun j => q1 ((j + 10) + 1)) := by rfl
set_option maxRecDepth 20000 in
set_option maxHeartbeats 1000000 in
theorem bl_14 (D : va_G) (cI cR : Nat) (q1 q2 : Nat → Nat) : blk (rh q1 q2, D, cI, cR) 14 1 = cwX2 cI cR (fun j => q1 ((j + 12) + 1)) := by rfl
set_option maxRecDepth 20000 in
set_option maxHeartbeats 1000000 in
theorem bl_15 (D : va_G) (cI cR : Nat) (q1 q2 : Nat → Nat) : blk (rh q1 q2, D, cI, cR) 15 1 = [(q1 (0 + 14), .inr (9, [.ref (q1 (1 + 14)), .ref (q1 (4 + 14)), .ref (q1 (10 + 14)), .ref (q1 (12 + 14))]))] := by rfl
set_option maxRecDepth 20000 in
set_option maxHeartbeats 1000000 in
theorem bl_16 (D : va_G) (cI cR : Nat) (q1 q2 : Nat → Nat) : blk (rh q1 q2, D, cI, cR) 16 3 = cwX0 cI cR (fun j => q1 ((j + 1) + 14)) := by rfl
set_option maxRecDepth 20000 in
set_option maxHeartbeats 1000000 in
theorem bl_19 (D : va_G) (cI cR : Nat) (q1 q2 : Nat → Nat) : blk (rh q1 q2, D, cI, cR) 19 6 = cwX1 cI cR (fun j => q1 ((j + 4) + 14)) := by rfl
set_option maxRecDepth 20000 in
set_option maxHeartbeats 1000000 in
theorem bl_25 (D : va_G) (cI cR : Nat) (q1 q2 : Nat → Nat) : blk (rh q1 q2, D, cI, cR) 25 2 = cwX6 cI cR (fun j => q1 ((j + 10) + 14)) := by rfl
set_option maxRecDepth 20000 in
set_option maxHeartbeats 1000000 in
theorem bl_27 (D : va_G) (cI cR : Nat) (q1 q2 : Nat → Nat) : blk (rh q1 q2, D, cI, cR) 27 1 = cwX2 cI cR (fun j => q1 ((j + 12) + 14)) := by rfl
set_option maxRecDepth 20000 in
set_option maxHeartbeats 1000000 in
theorem bl_28 (D : va_G) (cI cR : Nat) (q1 q2 : Nat → Nat) : blk (rh q1 q2, D, cI, cR) 28 1 = [(q1 (0 + 27), .inr (9, [.ref (q1 (1 + 27)), .ref (q1 (4 + 27)), .ref (q1 (10 + 27)), .ref (q1 (12 + 27))]))] := by rfl
set_option maxRecDepth 20000 in
set_option maxHeartbeats 1000000 in
theorem bl_29 (D : va_G) (cI cR : Nat) (q1 q2 : Nat → Nat) : blk (rh q1 q2, D, cI, cR) 29 3 = cwX0 cI cR (fun j => q1 ((j + 1) + 27)) := by rfl
set_option maxRecDepth 20000 in
set_option maxHeartbeats 1000000 in
theorem bl_32 (D : va_G) (cI cR : Nat) (q1 q2 : Nat → Nat) : blk (rh q1 q2, D, cI, cR) 32 6 = cwX1 cI cR (fun j => q1 ((j + 4) + 27)) := by rfl
set_option maxRecDepth 20000 in
set_option maxHeartbeats 1000000 in
theorem bl_38 (D : va_G) (cI cR : Nat) (q1 q2 : Nat → Nat) : blk (rh q1 q2, D, cI, cR) 38 2 = cwX6 cI cR (fun j => q1 ((j + 10) + 27)) := by rfl
set_option maxRecDepth 20000 in
set_option maxHeartbeats 1000000 in
theorem bl_40 (D : va_G) (cI cR : Nat) (q1 q2 : Nat → Nat) : blk (rh q1 q2, D, cI, cR) 40 1 = cwX2 cI cR (fun j => q1 ((j + 12) + 27)) := by rfl
set_option maxRecDepth 20000 in
set_option maxHeartbeats 1000000 in
theorem bl_41 (D : va_G) (cI cR : Nat) (q1 q2 : Nat → Nat) : blk (rh q1 q2, D, cI, cR) 41 1 = [(q1 (0 + 40), .inr (4, [.int 0, .int 0, .ref (q1 (1 + 40))]))] := by rfl
set_option maxRecDepth 20000 in
set_option maxHeartbeats 1000000 in
theorem bl_42 (D : va_G) (cI cR : Nat) (q1 q2 : Nat → Nat) : blk (rh q1 q2, D, cI, cR) 42 1 = [(q1 41, .inl (cR, 8, .inr (.inr (.inr (.inr (fun i => some (rh q1 q2 (42 + 1 + i))))))))] := by rfl
set_option maxRecDepth 20000 in
set_option maxHeartbeats 1000000 in
theorem bl_43 (D : va_G) (cI cR : Nat) (q1 q2 : Nat → Nat) : blk (rh q1 q2, D, cI, cR) 43 1 = cwX2 cI cR (fun j => q1 ((j + 2) + 40)) := by rfl
set_option maxRecDepth 20000 in
set_option maxHeartbeats 1000000 in
theorem bl_44 (D : va_G) (cI cR : Nat) (q1 q2 : Nat → Nat) : blk (rh q1 q2, D, cI, cR) 44 1 = cwX2 cI cR (fun j => q1 ((j + 3) + 40)) := by rfl
set_option maxRecDepth 20000 in
set_option maxHeartbeats 1000000 in
theorem bl_45 (D : va_G) (cI cR : Nat) (q1 q2 : Nat → Nat) : blk (rh q1 q2, D, cI, cR) 45 1 = cwX2 cI cR (fun j => q1 ((j + 4) + 40)) := by rfl
set_option maxRecDepth 20000 in
set_option maxHeartbeats 1000000 in
theorem bl_46 (D : va_G) (cI cR : Nat) (q1 q2 : Nat → Nat) : blk (rh q1 q2, D, cI, cR) 46 1 = cwX2 cI cR (fun j => q1 ((j + 5) + 40)) := by rfl
set_option maxRecDepth 20000 in
set_option maxHeartbeats 1000000 in
theorem bl_47 (D : va_G) (cI cR : Nat) (q1 q2 : Nat → Nat) : blk (rh q1 q2, D, cI, cR) 47 1 = cwX2 cI cR (fun j => q1 ((j + 6) + 40)) := by rfl
set_option maxRecDepth 20000 in
set_option maxHeartbeats 1000000 in
theorem bl_48 (D : va_G) (cI cR : Nat) (q1 q2 : Nat → Nat) : blk (rh q1 q2, D, cI, cR) 48 1 = cwX2 cI cR (fun j => q1 ((j + 7) + 40)) := by rfl
set_option maxRecDepth 20000 in
set_option maxHeartbeats 1000000 in
theorem bl_49 (D : va_G) (cI cR : Nat) (q1 q2 : Nat → Nat) : blk (rh q1 q2, D, cI, cR) 49 1 = cwX2 cI cR (fun j => q1 ((j + 8) + 40)) := by rfl
set_option maxRecDepth 20000 in
set_option maxHeartbeats 1000000 in
theorem bl_50 (D : va_G) (cI cR : Nat) (q1 q2 : Nat → Nat) : blk (rh q1 q2, D, cI, cR) 50 1 = cwX2 cI cR (fun j => q1 ((j + 9) + 40)) := by rfl
set_option maxRecDepth 20000 in
set_option maxHeartbeats 1000000 in
theorem bl_51 (D : va_G) (cI cR : Nat) (q1 q2 : Nat → Nat) : blk (rh q1 q2, D, cI, cR) 51 1 = [(q1 (0 + 50), .inr (5, [.ref (q1 (1 + 50))]))] := by rfl
set_option maxRecDepth 20000 in
set_option maxHeartbeats 1000000 in
theorem bl_52 (D : va_G) (cI cR : Nat) (q1 q2 : Nat → Nat) : blk (rh q1 q2, D, cI, cR) 52 2 = cwX7_96 cI cR (fun j => q1 ((j + 1) + 50)) := by rfl
set_option maxRecDepth 20000 in
set_option maxHeartbeats 1000000 in
theorem bl_54 (D : va_G) (cI cR : Nat) (q1 q2 : Nat → Nat) : blk (rh q1 q2, D, cI, cR) 54 2 = cwX7_12 cI cR (fun j => q1 (j + 53)) := by rfl
set_option maxRecDepth 20000 in
set_option maxHeartbeats 1000000 in
theorem bl_56 (D : va_G) (cI cR : Nat) (q1 q2 : Nat → Nat) : blk (rh q1 q2, D, cI, cR) 56 1 = [(q1 55, .inl (cI, 7, .inl (fun _ => 0)))] := by rfl
set_option maxRecDepth 20000 in
set_option maxHeartbeats 1000000 in
theorem bl_57 (D : va_G) (cI cR : Nat) (q1 q2 : Nat → Nat) : blk (rh q1 q2, D, cI, cR) 57 1 = [(q1 (0 + 56), .inr (3, [.ref (q1 (1 + 56)), .ref (q1 (4 + 56)), .ref (q1 (10 + 56)), .ref (q1 (11 + 56)), .int 0, .ref (q1 (12 + 56)), .int 0, .int 0, .int 0, .int 0, .int 0, .int 0, .int 0, .int 0, .int 0, .int 0, .int 0, .ref (q1 (13 + 56))]))] := by rfl
set_option maxRecDepth 20000 in
set_option maxHeartbeats 1000000 in
theorem bl_58 (D : va_G) (cI cR : Nat) (q1 q2 : Nat → Nat) : blk (rh q1 q2, D, cI, cR) 58 3 = cwX0 cI cR (fun j => q1 ((j + 1) + 56)) := by rfl
set_option maxRecDepth 20000 in
set_option maxHeartbeats 1000000 in
theorem bl_61 (D : va_G) (cI cR : Nat) (q1 q2 : Nat → Nat) : blk (rh q1 q2, D, cI, cR) 61 6 = cwX1 cI cR (fun j => q1 ((j + 4) + 56)) := by rfl
set_option maxRecDepth 20000 in
set_option maxHeartbeats 1000000 in
theorem bl_67 (D : va_G) (cI cR : Nat) (q1 q2 : Nat → Nat) : blk (rh q1 q2, D, cI, cR) 67 1 = cwX2 cI cR (fun j => q1 ((j + 10) + 56)) := by rfl
set_option maxRecDepth 20000 in
set_option maxHeartbeats 1000000 in
theorem bl_68 (D : va_G) (cI cR : Nat) (q1 q2 : Nat → Nat) : blk (rh q1 q2, D, cI, cR) 68 1 = cwX2 cI cR (fun j => q1 ((j + 11) + 56)) := by rfl
set_option maxRecDepth 20000 in
set_option maxHeartbeats 1000000 in
theorem bl_69 (D : va_G) (cI cR : Nat) (q1 q2 : Nat → Nat) : blk (rh q1 q2, D, cI, cR) 69 1 = cwX2 cI cR (fun j => q1 ((j + 12) + 56)) := by rfl
set_option maxRecDepth 20000 in
set_option maxHeartbeats 1000000 in
theorem bl_70 (D : va_G) (cI cR : Nat) (q1 q2 : Nat → Nat) : blk (rh q1 q2, D, cI, cR) 70 1 = [(q1 (13 + 56), .inl (cI, 6, .inl (fun _ => 0)))] := by rfl
set_option maxRecDepth 20000 in
set_option maxHeartbeats 1000000 in
theorem bl_71 (D : va_G) (cI cR : Nat) (q1 q2 : Nat → Nat) : blk (rh q1 q2, D, cI, cR) 71 3 = cwX8 cI cR (fun j => q1 (j + 70)) := by rfl
set_option maxRecDepth 20000 in
set_option maxHeartbeats 1000000 in
theorem bl_74 (D : va_G) (cI cR : Nat) (q1 q2 : Nat → Nat) : blk (rh q1 q2, D, cI, cR) 74 1 = [(q2 0, .inr (11, [.ref (q2 1), .ref (q2 2), .int 0, .int 100, .int 0, .int 20, .int 30, .int 4, .int 2, .int 0, .ref (q2 3), .int 0, .ref (q2 4), .ref (q2 5), .ref (q2 6), .ref (q2 7), .ref (q2 8), .ref (q2 9), .int 0, .int 0, .ref (q2 10), .int 0, .ref (q2 11), .int 0, .int 0, .int 0, .int 0, .ref (q2 12), .ref (q2 13), .ref (q2 14), .ref (q2 15), .ref (q2 16), .ref (q2 17), .int 0, .int 0, .int 0, .null, .ref (q2 18), .ref (q2 19), .ref (q2 20), .int 0, .int 0, .int 0, .int 0, .int 0, .int 0, .int 0, .int 0, .int 0, .int 0, .ref (q2 21), .int 0, .int 0, .ref (q2 22), .ref (q2 23), .ref (q2 24), .ref (q2 25), .ref (q2 26), .int 0]))] := by rfl
set_option maxRecDepth 20000 in
set_option maxHeartbeats 1000000 in
theorem bl_75 (D : va_G) (cI cR : Nat) (q1 q2 : Nat → Nat) : blk (rh q1 q2, D, cI, cR) 75 1 = [(q2 1, .inl (cI, 8, .inl (fun _ => 0)))] := by rfl
set_option maxRecDepth 20000 in
set_option maxHeartbeats 1000000 in
theorem bl_76 (D : va_G) (cI cR : Nat) (q1 q2 : Nat → Nat) : blk (rh q1 q2, D, cI, cR) 76 1 = [(q2 2, .inl (cI, 8, .inl (fun _ => 0)))] := by rfl
set_option maxRecDepth 20000 in
set_option maxHeartbeats 1000000 in
theorem bl_77 (D : va_G) (cI cR : Nat) (q1 q2 : Nat → Nat) : blk (rh q1 q2, D, cI, cR) 77 1 = [(q2 3, .inl (cI, 6, .inl (fun _ => 0)))] := by rfl
set_option maxRecDepth 20000 in
set_option maxHeartbeats 1000000 in
theorem bl_78 (D : va_G) (cI cR : Nat) (q1 q2 : Nat → Nat) : blk (rh q1 q2, D, cI, cR) 78 1 = [(q2 4, .inl (cI, 8, .inl (fun _ => 0)))] := by rfl
set_option maxRecDepth 20000 in
set_option maxHeartbeats 1000000 in
theorem bl_79 (D : va_G) (cI cR : Nat) (q1 q2 : Nat → Nat) : blk (rh q1 q2, D, cI, cR) 79 1 = [(q2 5, .inl (cI, 8, .inl (fun _ => 0)))] := by rfl
set_option maxRecDepth 20000 in
set_option maxHeartbeats 1000000 in
theorem bl_80 (D : va_G) (cI cR : Nat) (q1 q2 : Nat → Nat) : blk (rh q1 q2, D, cI, cR) 80 1 = [(q2 6, .inl (cI, 8, .inl (fun _ => 0)))] := by rfl
set_option maxRecDepth 20000 in
set_option maxHeartbeats 1000000 in
theorem bl_81 (D : va_G) (cI cR : Nat) (q1 q2 : Nat → Nat) : blk (rh q1 q2, D, cI, cR) 81 1 = [(q2 7, .inl (cI, 8, .inl (fun _ => 0)))] := by rfl
set_option maxRecDepth 20000 in
set_option maxHeartbeats 1000000 in
theorem bl_82 (D : va_G) (cI cR : Nat) (q1 q2 : Nat → Nat) : blk (rh q1 q2, D, cI, cR) 82 1 = [(q2 8, .inl (cI, 8, .inl (fun _ => 0)))] := by rfl
set_option maxRecDepth 20000 in
set_option maxHeartbeats 1000000 in
theorem bl_83 (D : va_G) (cI cR : Nat) (q1 q2 : Nat → Nat) : blk (rh q1 q2, D, cI, cR) 83 1 = [(q2 9, .inl (cI, 64, .inl (fun _ => 0)))] := by rfl
set_option maxRecDepth 20000 in
set_option maxHeartbeats 1000000 in
theorem bl_84 (D : va_G) (cI cR : Nat) (q1 q2 : Nat → Nat) : blk (rh q1 q2, D, cI, cR) 84 1 = [(q2 10, .inl (cI, 7, .inl (fun _ => 0)))] := by rfl
set_option maxRecDepth 20000 in
set_option maxHeartbeats 1000000 in
theorem bl_85 (D : va_G) (cI cR : Nat) (q1 q2 : Nat → Nat) : blk (rh q1 q2, D, cI, cR) 85 1 = [(q2 11, .inl (cI, 96, .inl (fun _ => 0)))] := by rfl
set_option maxRecDepth 20000 in
set_option maxHeartbeats 1000000 in
theorem bl_86 (D : va_G) (cI cR : Nat) (q1 q2 : Nat → Nat) : blk (rh q1 q2, D, cI, cR) 86 1 = [(q2 12, .inl (cI, 49, .inl (fun _ => 0)))] := by rfl
set_option maxRecDepth 20000 in
set_option maxHeartbeats 1000000 in
theorem bl_87 (D : va_G) (cI cR : Nat) (q1 q2 : Nat → Nat) : blk (rh q1 q2, D, cI, cR) 87 1 = [(q2 13, .inl (cI, 49, .inl (fun _ => 0)))] := by rfl
set_option maxRecDepth 20000 in
set_option maxHeartbeats 1000000 in
theorem bl_88 (D : va_G) (cI cR : Nat) (q1 q2 : Nat → Nat) : blk (rh q1 q2, D, cI, cR) 88 1 = [(q2 14, .inl (cI, 441, .inl (fun _ => 0)))] := by rfl
set_option maxRecDepth 20000 in
set_option maxHeartbeats 1000000 in
theorem bl_89 (D : va_G) (cI cR : Nat) (q1 q2 : Nat → Nat) : blk (rh q1 q2, D, cI, cR) 89 1 = [(q2 15, .inl (cI, 49, .inl (fun _ => 0)))] := by rfl
set_option maxRecDepth 20000 in
set_option maxHeartbeats 1000000 in
theorem bl_90 (D : va_G) (cI cR : Nat) (q1 q2 : Nat → Nat) : blk (rh q1 q2, D, cI, cR) 90 1 = [(q2 16, .inl (cI, 138, .inl (fun _ => 0)))] := by rfl
set_option maxRecDepth 20000 in
set_option maxHeartbeats 1000000 in
theorem bl_91 (D : va_G) (cI cR : Nat) (q1 q2 : Nat → Nat) : blk (rh q1 q2, D, cI, cR) 91 1 = [(q2 17, .inl (cI, 138, .inl (fun _ => 0)))] := by rfl
set_option maxRecDepth 20000 in
set_option maxHeartbeats 1000000 in
theorem bl_92 (D : va_G) (cI cR : Nat) (q1 q2 : Nat → Nat) : blk (rh q1 q2, D, cI, cR) 92 1 = [(q2 18, .inl (cI, 14, .inl (fun _ => 0)))] := by rfl
set_option maxRecDepth 20000 in
set_option maxHeartbeats 1000000 in
theorem bl_93 (D : va_G) (cI cR : Nat) (q1 q2 : Nat → Nat) : blk (rh q1 q2, D, cI, cR) 93 1 = [(q2 19, .inl (cI, 112, .inl (fun _ => 0)))] := by rfl
set_option maxRecDepth 20000 in
set_option maxHeartbeats 1000000 in
theorem bl_94 (D : va_G) (cI cR : Nat) (q1 q2 : Nat → Nat) : blk (rh q1 q2, D, cI, cR) 94 1 = [(q2 20, .inl (cI, 14, .inl (fun _ => 0)))] := by rfl
set_option maxRecDepth 20000 in
set_option maxHeartbeats 1000000 in
theorem bl_95 (D : va_G) (cI cR : Nat) (q1 q2 : Nat → Nat) : blk (rh q1 q2, D, cI, cR) 95 1 = [(q2 21, .inl (cI, 14, .inl (fun _ => 0)))] := by rfl
set_option maxRecDepth 20000 in
set_option maxHeartbeats 1000000 in
theorem bl_96 (D : va_G) (cI cR : Nat) (q1 q2 : Nat → Nat) : blk (rh q1 q2, D, cI, cR) 96 1 = [(q2 22, .inl (cI, 8, .inl (fun _ => 0)))] := by rfl
set_option maxRecDepth 20000 in
set_option maxHeartbeats 1000000 in
theorem bl_97 (D : va_G) (cI cR : Nat) (q1 q2 : Nat → Nat) : blk (rh q1 q2, D, cI, cR) 97 1 = [(q2 23, .inl (cI, 6, .inl (fun _ => 0)))] := by rfl
set_option maxRecDepth 20000 in
set_option maxHeartbeats 1000000 in
theorem bl_98 (D : va_G) (cI cR : Nat) (q1 q2 : Nat → Nat) : blk (rh q1 q2, D, cI, cR) 98 1 = [(q2 24, .inl (cI, 64, .inl (fun _ => 0)))] := by rfl
set_option maxRecDepth 20000 in
set_option maxHeartbeats 1000000 in
theorem bl_99 (D : va_G) (cI cR : Nat) (q1 q2 : Nat → Nat) : blk (rh q1 q2, D, cI, cR) 99 1 = [(q2 25, .inl (cI, 2048, .inl (fun _ => 0)))] := by rfl
set_option maxRecDepth 20000 in
set_option maxHeartbeats 1000000 in
theorem bl_100 (D : va_G) (cI cR : Nat) (q1 q2 : Nat → Nat) : blk (rh q1 q2, D, cI, cR) 100 1 = [(q2 26, .inl (cI, 12, .inl (fun _ => 0)))] := by rfl
set_option maxRecDepth 20000 in
set_option maxHeartbeats 4000000 in
theorem wl_cells (D : va_G) (cI cR : Nat) (q1 q2 : Nat → Nat) : wl (rh q1 q2, D, cI, cR) u0 = A1 cI cR q1 q2 ++ ((q1 41, .inl (cR, 8, .inr (.inr (.inr (.inr (fun i => some (rh q1 q2 (42 + 1 + i)))))))) :: A2 cI cR q1 q2) := by
  rw [blk_all]
  rw [(show blk (rh q1 q2, D, cI, cR) 1 100 = blk (rh q1 q2, D, cI, cR) 1 1 ++ blk (rh q1 q2, D, cI, cR) 2 99 from blk_add _ 1 1 99)]
  rw [bl_1]
  rw [(show blk (rh q1 q2, D, cI, cR) 2 99 = blk (rh q1 q2, D, cI, cR) 2 1 ++ blk (rh q1 q2, D, cI, cR) 3 98 from blk_add _ 2 1 98)]
  rw [bl_2]
  rw [(show blk (rh q1 q2, D, cI, cR) 3 98 = blk (rh q1 q2, D, cI, cR) 3 3 ++ blk (rh q1 q2, D, cI, cR) 6 95 from blk_add _ 3 3 95)]
  rw [bl_3]
  rw [(show blk (rh q1 q2, D, cI, cR) 6 95 = blk (rh q1 q2, D, cI, cR) 6 6 ++ blk (rh q1 q2, D, cI, cR) 12 89 from blk_add _ 6 6 89)]
  rw [bl_6]
  rw [(show blk (rh q1 q2, D, cI, cR) 12 89 = blk (rh q1 q2, D, cI, cR) 12 2 ++ blk (rh q1 q2, D, cI, cR) 14 87 from blk_add _ 12 2 87)]
  rw [bl_12]
  rw [(show blk (rh q1 q2, D, cI, cR) 14 87 = blk (rh q1 q2, D, cI, cR) 14 1 ++ blk (rh q1 q2, D, cI, cR) 15 86 from blk_add _ 14 1 86)]
  rw [bl_14]
  rw [(show blk (rh q1 q2, D, cI, cR) 15 86 = blk (rh q1 q2, D, cI, cR) 15 1 ++ blk (rh q1 q2, D, cI, cR) 16 85 from blk_add _ 15 1 85)]
  rw [bl_15]
  rw [(show blk (rh q1 q2, D, cI, cR) 16 85 = blk (rh q1 q2, D, cI, cR) 16 3 ++ blk (rh q1 q2, D, cI, cR) 19 82 from blk_add _ 16 3 82)]
  rw [bl_16]
  rw [(show blk (rh q1 q2, D, cI, cR) 19 82 = blk (rh q1 q2, D, cI, cR) 19 6 ++ blk (rh q1 q2, D, cI, cR) 25 76 from blk_add _ 19 6 76)]
  rw [bl_19]
  rw [(show blk (rh q1 q2, D, cI, cR) 25 76 = blk (rh q1 q2, D, cI, cR) 25 2 ++ blk (rh q1 q2, D, cI, cR) 27 74 from blk_add _ 25 2 74)]
  rw [bl_25]
  rw [(show blk (rh q1 q2, D, cI, cR) 27 74 = blk (rh q1 q2, D, cI, cR) 27 1 ++ blk (rh q1 q2, D, cI, cR) 28 73 from blk_add _ 27 1 73)]
  rw [bl_27]
  rw [(show blk (rh q1 q2, D, cI, cR) 28 73 = blk (rh q1 q2, D, cI, cR) 28 1 ++ blk (rh q1 q2, D, cI, cR) 29 72 from blk_add _ 28 1 72)]
  rw [bl_28]
  rw [(show blk (rh q1 q2, D, cI, cR) 29 72 = blk (rh q1 q2, D, cI, cR) 29 3 ++ blk (rh q1 q2, D, cI, cR) 32 69 from blk_add _ 29 3 69)]
  rw [bl_29]
  rw [(show blk (rh q1 q2, D, cI, cR) 32 69 = blk (rh q1 q2, D, cI, cR) 32 6 ++ blk (rh q1 q2, D, cI, cR) 38 63 from blk_add _ 32 6 63)]
  rw [bl_32]
  rw [(show blk (rh q1 q2, D, cI, cR) 38 63 = blk (rh q1 q2, D, cI, cR) 38 2 ++ blk (rh q1 q2, D, cI, cR) 40 61 from blk_add _ 38 2 61)]
  rw [bl_38]
  rw [(show blk (rh q1 q2, D, cI, cR) 40 61 = blk (rh q1 q2, D, cI, cR) 40 1 ++ blk (rh q1 q2, D, cI, cR) 41 60 from blk_add _ 40 1 60)]
  rw [bl_40]
  rw [(show blk (rh q1 q2, D, cI, cR) 41 60 = blk (rh q1 q2, D, cI, cR) 41 1 ++ blk (rh q1 q2, D, cI, cR) 42 59 from blk_add _ 41 1 59)]
  rw [bl_41]
  rw [(show blk (rh q1 q2, D, cI, cR) 42 59 = blk (rh q1 q2, D, cI, cR) 42 1 ++ blk (rh q1 q2, D, cI, cR) 43 58 from blk_add _ 42 1 58)]
  rw [bl_42]
  rw [(show blk (rh q1 q2, D, cI, cR) 43 58 = blk (rh q1 q2, D, cI, cR) 43 1 ++ blk (rh q1 q2, D, cI, cR) 44 57 from blk_add _ 43 1 57)]
  rw [bl_43]
  rw [(show blk (rh q1 q2, D, cI, cR) 44 57 = blk (rh q1 q2, D, cI, cR) 44 1 ++ blk (rh q1 q2, D, cI, cR) 45 56 from blk_add _ 44 1 56)]
  rw [bl_44]
  rw [(show blk (rh q1 q2, D, cI, cR) 45 56 = blk (rh q1 q2, D, cI, cR) 45 1 ++ blk (rh q1 q2, D, cI, cR) 46 55 from blk_add _ 45 1 55)]
  rw [bl_45]
  rw [(show blk (rh q1 q2, D, cI, cR) 46 55 = blk (rh q1 q2, D, cI, cR) 46 1 ++ blk (rh q1 q2, D, cI, cR) 47 54 from blk_add _ 46 1 54)]
  rw [bl_46]
  rw [(show blk (rh q1 q2, D, cI, cR) 47 54 = blk (rh q1 q2, D, cI, cR) 47 1 ++ blk (rh q1 q2, D, cI, cR) 48 53 from blk_add _ 47 1 53)]
  rw [bl_47]
  rw [(show blk (rh q1 q2, D, cI, cR) 48 53 = blk (rh q1 q2, D, cI, cR) 48 1 ++ blk (rh q1 q2, D, cI, cR) 49 52 from blk_add _ 48 1 52)]
  rw [bl_48]
  rw [(show blk (rh q1 q2, D, cI, cR) 49 52 = blk (rh q1 q2, D, cI, cR) 49 1 ++ blk (rh q1 q2, D, cI, cR) 50 51 from blk_add _ 49 1 51)]
  rw [bl_49]
  rw [(show blk (rh q1 q2, D, cI, cR) 50 51 = blk (rh q1 q2, D, cI, cR) 50 1 ++ blk (rh q1 q2, D, cI, cR) 51 50 from blk_add _ 50 1 50)]
  rw [bl_50]
  rw [(show blk (rh q1 q2, D, cI, cR) 51 50 = blk (rh q1 q2, D, cI, cR) 51 1 ++ blk (rh q1 q2, D, cI, cR) 52 49 from blk_add _ 51 1 49)]
  rw [bl_51]
  rw [(show blk (rh q1 q2, D, cI, cR) 52 49 = blk (rh q1 q2, D, cI, cR) 52 2 ++ blk (rh q1 q2, D, cI, cR) 54 47 from blk_add _ 52 2 47)]
  rw [bl_52]
  rw [(show blk (rh q1 q2, D, cI, cR) 54 47 = blk (rh q1 q2, D, cI, cR) 54 2 ++ blk (rh q1 q2, D, cI, cR) 56 45 from blk_add _ 54 2 45)]
  rw [bl_54]
  rw [(show blk (rh q1 q2, D, cI, cR) 56 45 = blk (rh q1 q2, D, cI, cR) 56 1 ++ blk (rh q1 q2, D, cI, cR) 57 44 from blk_add _ 56 1 44)]
  rw [bl_56]
  rw [(show blk (rh q1 q2, D, cI, cR) 57 44 = blk (rh q1 q2, D, cI, cR) 57 1 ++ blk (rh q1 q2, D, cI, cR) 58 43 from blk_add _ 57 1 43)]
  rw [bl_57]
  rw [(show blk (rh q1 q2, D, cI, cR) 58 43 = blk (rh q1 q2, D, cI, cR) 58 3 ++ blk (rh q1 q2, D, cI, cR) 61 40 from blk_add _ 58 3 40)]
  rw [bl_58]
  rw [(show blk (rh q1 q2, D, cI, cR) 61 40 = blk (rh q1 q2, D, cI, cR) 61 6 ++ blk (rh q1 q2, D, cI, cR) 67 34 from blk_add _ 61 6 34)]
  rw [bl_61]
  rw [(show blk (rh q1 q2, D, cI, cR) 67 34 = blk (rh q1 q2, D, cI, cR) 67 1 ++ blk (rh q1 q2, D, cI, cR) 68 33 from blk_add _ 67 1 33)]
  rw [bl_67]
  rw [(show blk (rh q1 q2, D, cI, cR) 68 33 = blk (rh q1 q2, D, cI, cR) 68 1 ++ blk (rh q1 q2, D, cI, cR) 69 32 from blk_add _ 68 1 32)]
  rw [bl_68]
  rw [(show blk (rh q1 q2, D, cI, cR) 69 32 = blk (rh q1 q2, D, cI, cR) 69 1 ++ blk (rh q1 q2, D, cI, cR) 70 31 from blk_add _ 69 1 31)]
  rw [bl_69]
  rw [(show blk (rh q1 q2, D, cI, cR) 70 31 = blk (rh q1 q2, D, cI, cR) 70 1 ++ blk (rh q1 q2, D, cI, cR) 71 30 from blk_add _ 70 1 30)]
  rw [bl_70]
  rw [(show blk (rh q1 q2, D, cI, cR) 71 30 = blk (rh q1 q2, D, cI, cR) 71 3 ++ blk (rh q1 q2, D, cI, cR) 74 27 from blk_add _ 71 3 27)]
  rw [bl_71]
  rw [(show blk (rh q1 q2, D, cI, cR) 74 27 = blk (rh q1 q2, D, cI, cR) 74 1 ++ blk (rh q1 q2, D, cI, cR) 75 26 from blk_add _ 74 1 26)]
  rw [bl_74]
  rw [(show blk (rh q1 q2, D, cI, cR) 75 26 = blk (rh q1 q2, D, cI, cR) 75 1 ++ blk (rh q1 q2, D, cI, cR) 76 25 from blk_add _ 75 1 25)]
  rw [bl_75]
  rw [(show blk (rh q1 q2, D, cI, cR) 76 25 = blk (rh q1 q2, D, cI, cR) 76 1 ++ blk (rh q1 q2, D, cI, cR) 77 24 from blk_add _ 76 1 24)]
  rw [bl_76]
  rw [(show blk (rh q1 q2, D, cI, cR) 77 24 = blk (rh q1 q2, D, cI, cR) 77 1 ++ blk (rh q1 q2, D, cI, cR) 78 23 from blk_add _ 77 1 23)]
  rw [bl_77]
  rw [(show blk (rh q1 q2, D, cI, cR) 78 23 = blk (rh q1 q2, D, cI, cR) 78 1 ++ blk (rh q1 q2, D, cI, cR) 79 22 from blk_add _ 78 1 22)]
  rw [bl_78]
  rw [(show blk (rh q1 q2, D, cI, cR) 79 22 = blk (rh q1 q2, D, cI, cR) 79 1 ++ blk (rh q1 q2, D, cI, cR) 80 21 from blk_add _ 79 1 21)]
  rw [bl_79]
  rw [(show blk (rh q1 q2, D, cI, cR) 80 21 = blk (rh q1 q2, D, cI, cR) 80 1 ++ blk (rh q1 q2, D, cI, cR) 81 20 from blk_add _ 80 1 20)]
  rw [bl_80]
  rw [(show blk (rh q1 q2, D, cI, cR) 81 20 = blk (rh q1 q2, D, cI, cR) 81 1 ++ blk (rh q1 q2, D, cI, cR) 82 19 from blk_add _ 81 1 19)]
  rw [bl_81]
  rw [(show blk (rh q1 q2, D, cI, cR) 82 19 = blk (rh q1 q2, D, cI, cR) 82 1 ++ blk (rh q1 q2, D, cI, cR) 83 18 from blk_add _ 82 1 18)]
  rw [bl_82]
  rw [(show blk (rh q1 q2, D, cI, cR) 83 18 = blk (rh q1 q2, D, cI, cR) 83 1 ++ blk (rh q1 q2, D, cI, cR) 84 17 from blk_add _ 83 1 17)]
  rw [bl_83]
  rw [(show blk (rh q1 q2, D, cI, cR) 84 17 = blk (rh q1 q2, D, cI, cR) 84 1 ++ blk (rh q1 q2, D, cI, cR) 85 16 from blk_add _ 84 1 16)]
  rw [bl_84]
  rw [(show blk (rh q1 q2, D, cI, cR) 85 16 = blk (rh q1 q2, D, cI, cR) 85 1 ++ blk (rh q1 q2, D, cI, cR) 86 15 from blk_add _ 85 1 15)]
  rw [bl_85]
  rw [(show blk (rh q1 q2, D, cI, cR) 86 15 = blk (rh q1 q2, D, cI, cR) 86 1 ++ blk (rh q1 q2, D, cI, cR) 87 14 from blk_add _ 86 1 14)]
  rw [bl_86]
  rw [(show blk (rh q1 q2, D, cI, cR) 87 14 = blk (rh q1 q2, D, cI, cR) 87 1 ++ blk (rh q1 q2, D, cI, cR) 88 13 from blk_add _ 87 1 13)]
  rw [bl_87]
  rw [(show blk (rh q1 q2, D, cI, cR) 88 13 = blk (rh q1 q2, D, cI, cR) 88 1 ++ blk (rh q1 q2, D, cI, cR) 89 12 from blk_add _ 88 1 12)]
  rw [bl_88]
  rw [(show blk (rh q1 q2, D, cI, cR) 89 12 = blk (rh q1 q2, D, cI, cR) 89 1 ++ blk (rh q1 q2, D, cI, cR) 90 11 from blk_add _ 89 1 11)]
  rw [bl_89]
  rw [(show blk (rh q1 q2, D, cI, cR) 90 11 = blk (rh q1 q2, D, cI, cR) 90 1 ++ blk (rh q1 q2, D, cI, cR) 91 10 from blk_add _ 90 1 10)]
  rw [bl_90]
  rw [(show blk (rh q1 q2, D, cI, cR) 91 10 = blk (rh q1 q2, D, cI, cR) 91 1 ++ blk (rh q1 q2, D, cI, cR) 92 9 from blk_add _ 91 1 9)]
  rw [bl_91]
  rw [(show blk (rh q1 q2, D, cI, cR) 92 9 = blk (rh q1 q2, D, cI, cR) 92 1 ++ blk (rh q1 q2, D, cI, cR) 93 8 from blk_add _ 92 1 8)]
  rw [bl_92]
  rw [(show blk (rh q1 q2, D, cI, cR) 93 8 = blk (rh q1 q2, D, cI, cR) 93 1 ++ blk (rh q1 q2, D, cI, cR) 94 7 from blk_add _ 93 1 7)]
  rw [bl_93]
  rw [(show blk (rh q1 q2, D, cI, cR) 94 7 = blk (rh q1 q2, D, cI, cR) 94 1 ++ blk (rh q1 q2, D, cI, cR) 95 6 from blk_add _ 94 1 6)]
  rw [bl_94]
  rw [(show blk (rh q1 q2, D, cI, cR) 95 6 = blk (rh q1 q2, D, cI, cR) 95 1 ++ blk (rh q1 q2, D, cI, cR) 96 5 from blk_add _ 95 1 5)]
  rw [bl_95]
  rw [(show blk (rh q1 q2, D, cI, cR) 96 5 = blk (rh q1 q2, D, cI, cR) 96 1 ++ blk (rh q1 q2, D, cI, cR) 97 4 from blk_add _ 96 1 4)]
  rw [bl_96]
  rw [(show blk (rh q1 q2, D, cI, cR) 97 4 = blk (rh q1 q2, D, cI, cR) 97 1 ++ blk (rh q1 q2, D, cI, cR) 98 3 from blk_add _ 97 1 3)]
  rw [bl_97]
  rw [(show blk (rh q1 q2, D, cI, cR) 98 3 = blk (rh q1 q2, D, cI, cR) 98 1 ++ blk (rh q1 q2, D, cI, cR) 99 2 from blk_add _ 98 1 2)]
  rw [bl_98]
  rw [(show blk (rh q1 q2, D, cI, cR) 99 2 = blk (rh q1 q2, D, cI, cR) 99 1 ++ blk (rh q1 q2, D, cI, cR) 100 1 from blk_add _ 99 1 1)]
  rw [bl_99]
  rw [bl_100]
  unfold A1 A2
  simp only [List.append_assoc, List.cons_append, List.nil_append]
set_option maxRecDepth 20000 in
set_option maxHeartbeats 4000000 in
theorem all_cells (cI cR : Nat) (q1 q2 : Nat → Nat) : ([] ++ cwX10 cI cR q1) ++ cwX11 cI cR q2 = A1 cI cR q1 q2 ++ ((q1 41, .inl (cR, 8, .inr (.inr (.inr (.inr (fun i => if i < 8 then some (q1 (2 + i + 40)) else none)))))) :: A2 cI cR q1 q2) := by
  unfold A1 A2 cwX10 cwX9 cwX4 cwX5 cwX3 cwX11
  simp only [List.append_assoc, List.cons_append, List.nil_append]
theorem P_app2 {D : va_G} {cl : List vw_C} {a b : va_W} {H : Heap} : va_P D cl (a ++ b) H ↔ va_P D cl a H ∧ va_P D cl b H := by
  refine ⟨fun h => ⟨fun k q hk => ?_, fun k q hk => ?_⟩, fun h => va_P.app h.1 h.2⟩
  · obtain ⟨i, hi⟩ := List.getElem?_of_mem (List.mem_append_left b (List.mem_of_getElem? hk))
    exact h i q hi
  · obtain ⟨i, hi⟩ := List.getElem?_of_mem (List.mem_append_right a (List.mem_of_getElem? hk))
    exact h i q hi
set_option maxHeartbeats 4000000 in
set_option maxRecDepth 100000 in
/-- THE LAW, from its entry, if the decompiled law answers 1 -/
theorem whole_of (hg : ∀ (L : Nat) (xs : Nat → Int32), L ≤ 2560 → gL_law_16 L xs u0 = some 1) {p : Program} {e : Env} {s : State} {m : MethodId} {below : List Frame} {meth : Method} {c : Code} (l : Launch) {b L : Nat} {xs : Nat → Int32} (hL : L ≤ 2560) (C0 : lw_At p s m meth c b L xs) : W p l e room_1 s m #[Value.ref b] below meth c s.heap [] 0 0 (lw_Z below #[Value.ref b] s) (entryFrame m ([Value.ref b] : List Value).toArray 4) := by
  obtain ⟨hx, hb, hr, hml, hown, hts0, hX, hbl, hlocks, hgv⟩ := id C0
  have hts : ∀ w ∈ wsL_law, w.before #[Value.ref b] s = true := fun w h => hts0 w (wsL_law_in w h)
  obtain ⟨c0, iS0, hKn0⟩ := u_known (C := RX0) (T := TX0) (N := 2) (n := 2) hts inlX0 (hts _ (wm_2 20 rfl))
  obtain ⟨c1, iS1, hKn1⟩ := u_known (C := RX1) (T := TX1) (N := 6) (n := 6) hts inlX1 (hts _ (wm_3 0 rfl))
  obtain ⟨c2, iS2, hKn2⟩ := u_known (C := RX2) (T := TX2) (N := 10) (n := 10) hts inlX2 (hts _ (wm_3 8 rfl))
  obtain ⟨c3, iS3, hKn3⟩ := u_known (C := RX3) (T := TX3) (N := 18) (n := 18) hts inlX3 (hts _ (wm_2 9 rfl))
  obtain ⟨c4, iS4, hKn4⟩ := u_known (C := RX4) (T := TX4) (N := 3) (n := 3) hts inlX4 (hts _ (wm_1 19 rfl))
  obtain ⟨c5, iS5, hKn5⟩ := u_known (C := RX5) (T := TX5) (N := 1) (n := 1) hts inlX5 (hts _ (wm_1 23 rfl))
  obtain ⟨c6, iS6, hKn6⟩ := u_known (C := RX6) (T := TX6) (N := 2) (n := 2) hts inlX6 (hts _ (wm_3 4 rfl))
  obtain ⟨c7, iS7, hKn7⟩ := u_known (C := RX7) (T := TX7) (N := 2) (n := 2) hts inlX7 (hts _ (wm_2 3 rfl))
  obtain ⟨c8, iS8, hKn8⟩ := u_known (C := RX8) (T := TX8) (N := 2) (n := 2) hts inlX8 (hts _ (wm_2 13 rfl))
  obtain ⟨c9, iS9, hKn9⟩ := u_known (C := RX9) (T := TX9) (N := 4) (n := 4) hts inlX9 (hts _ (wm_1 13 rfl))
  obtain ⟨c10, iS10, hKn10⟩ := u_known (C := RX10) (T := TX10) (N := 10) (n := 10) hts inlX10 (hts _ (wm_1 1 rfl))
  obtain ⟨c11, iS11, hKn11⟩ := u_known (C := RX11) (T := TX11) (N := 59) (n := 59) hts inlX11 (hts _ (wm_1 4 rfl))
  obtain ⟨dC, dI, hKc⟩ : ∃ (dC : Nat → ClassId) (dI : Nat → Nat → Nat), ∀ (k : Nat) (q : vw_C), vwCl[k]? = some q → u_Kn s q.1 q.2.1 q.2.2 (dC k) (dI k) := by
    refine ⟨fun k => if k = 0 then c0 else if k = 1 then c1 else if k = 2 then c2 else if k = 3 then c3 else if k = 4 then c4 else if k = 5 then c5 else if k = 6 then c6 else if k = 7 then c7 else if k = 8 then c8 else if k = 9 then c9 else if k = 10 then c10 else c11, fun k => if k = 0 then iS0 else if k = 1 then iS1 else if k = 2 then iS2 else if k = 3 then iS3 else if k = 4 then iS4 else if k = 5 then iS5 else if k = 6 then iS6 else if k = 7 then iS7 else if k = 8 then iS8 else if k = 9 then iS9 else if k = 10 then iS10 else iS11, ?_⟩
    intro k q hq
    match k, hq with
    | 0, hq => cases hq; exact hKn0
    | 1, hq => cases hq; exact hKn1
    | 2, hq => cases hq; exact hKn2
    | 3, hq => cases hq; exact hKn3
    | 4, hq => cases hq; exact hKn4
    | 5, hq => cases hq; exact hKn5
    | 6, hq => cases hq; exact hKn6
    | 7, hq => cases hq; exact hKn7
    | 8, hq => cases hq; exact hKn8
    | 9, hq => cases hq; exact hKn9
    | 10, hq => cases hq; exact hKn10
    | 11, hq => cases hq; exact hKn11
    | k + 12, hq => simp [vwCl] at hq
  obtain ⟨cI, kI, compI, f1, f2, f3⟩ := Cond.arrayClass_spec (hts _ ac_int)
  have hAO : va_AO RX2 s := va_AO.of (hts0 (.arrayOver (.object RX2)) (tb_1 172 (by rfl)))
  obtain ⟨compR, cR, kR, g1, g2, g3, g4, g5⟩ := Cond.arrayOver_spec hAO
  have hK : va_K (dC, dI) vwCl [(cI, .int), (cR, .object RX2)] s := by
    refine ⟨hKc, fun k q h => ?_⟩
    match k, h with
    | 0, h => cases h; exact ⟨fun n z => ⟨fun k h => (by cases h), kI, f2, compI, f3⟩, f1⟩
    | 1, h => cases h; exact ⟨fun n z => ⟨fun k h => (by cases h), kR, g3, compR, g4⟩, kR, compR, g3, g4, g1, g5⟩
  have hN2 : NW2 s := fun w hw => va_Nw.of (nw_on (List.all_eq_true.mp nwL2_ok w hw)) (hts0 w (nwL2_in w hw))
  have hN1 : NW s := fun w hw => va_Nw.of (nw_on (List.all_eq_true.mp nwL_ok w hw)) (hts0 w (nwL_in w hw))
  have hl := lv_entry ([.ref b]) (n := 4) (Nat.le_of_ble_eq_true rfl)
  rw [lg_entry_eq]
  generalize (lg_sl ([.ref b]) ++ List.replicate (4 - (lg_sl ([.ref b])).length) Slot.unset).toArray = la at hl ⊢
  have hl : lv_has la 4 [(0, .ref b)] := hl
  obtain ⟨Γ, hΓ⟩ : ∃ Γ : GX, Γ = ((fun _ => 0, (dC, dI), cI, cR), fun q => s.heap.size ≤ q, (p, l, e, room_1, s, m, #[Value.ref b], below, meth, c), 600000, 7302250, 4) := ⟨_, rfl⟩
  have C : CxK Γ RL code 9 := by
    rw [hΓ]
    exact ⟨hx, hb, hml, hown, hts, ⟨hK, hN2, hAO⟩, fun q h => h, Nat.le_refl _, Nat.le_refl _⟩
  have hn : xn Γ = 4 := by rw [hΓ]
  have hroom : ∀ a b : Nat, a ≤ 100 → b ≤ 6329 → a ≤ (xR Γ).cells ∧ b ≤ (xR Γ).slots := fun a b h1 h2 => by
    rw [hΓ]
    exact ⟨Nat.le_trans h1 (Nat.le_of_ble_eq_true rfl), Nat.le_trans h2 (Nat.le_of_ble_eq_true rfl)⟩
  have hD0 : va_D (fun q : Nat => s.heap.size ≤ q) [] := ⟨fun i j p q h => by simp at h, fun k q h => by simp at h⟩
  have K : Kp Γ (lw_Z below #[Value.ref b] s) 0 [(0, .ref b)] [] [] 0 0 := by
    refine k_new (ci := 10) (fs2 := [.null, .null, .null, .int 0, .null, .null, .null, .null, .null, .null]) C dL_law_0 rfl ⟨(wm_1 0 rfl), (wm_1 1 rfl), (wm_1 2 rfl)⟩ ⟨rfl, inlX10⟩ tyX10 tyX10_ok (by intro j hj; match j, hj with | 0, _ => rfl | 1, _ => rfl | 2, _ => rfl | 3, _ => rfl | 4, _ => rfl | 5, _ => rfl | 6, _ => rfl | 7, _ => rfl | 8, _ => rfl | 9, _ => rfl | j + 10, hj => exact absurd hj (by omega)) (hroom 1 10 (by decide) (by decide)) (fun a1 => ?_)
    refine k_dup C dL_law_3 rfl rfl ?_
    refine k_init (ws := []) C dL_law_4 rfl (kX10_init _ _ _ _) cfi_10 (Or.inl (wm_1 6 rfl)) rfl (by decide) (Nat.le_of_ble_eq_true rfl) rfl (hroom 73 2885 (by decide) (by decide)) (fun q1 hq1 => ?_)
    subst hq1
    refine k_astore_n (ls' := [(1, .ref (q1 0)), (0, .ref b)]) C dL_law_7 rfl hn (by decide) rfl ?_
    refine k_new (ci := 11) (fs2 := [.null, .null, .int 0, .int 0, .int 0, .int 0, .int 0, .int 0, .int 0, .int 0, .null, .int 0, .null, .null, .null, .null, .null, .null, .int 0, .int 0, .null, .int 0, .null, .int 0, .int 0, .int 0, .int 0, .null, .null, .null, .null, .null, .null, .int 0, .int 0, .int 0, .null, .null, .null, .null, .int 0, .int 0, .int 0, .int 0, .int 0, .int 0, .int 0, .int 0, .int 0, .int 0, .null, .int 0, .int 0, .null, .null, .null, .null, .null, .int 0]) C dL_law_8 rfl ⟨(wm_1 3 rfl), (wm_1 4 rfl), (wm_1 5 rfl)⟩ ⟨rfl, inlX11⟩ tyX11 tyX11_ok (by intro j hj; match j, hj with | 0, _ => rfl | 1, _ => rfl | 2, _ => rfl | 3, _ => rfl | 4, _ => rfl | 5, _ => rfl | 6, _ => rfl | 7, _ => rfl | 8, _ => rfl | 9, _ => rfl | 10, _ => rfl | 11, _ => rfl | 12, _ => rfl | 13, _ => rfl | 14, _ => rfl | 15, _ => rfl | 16, _ => rfl | 17, _ => rfl | 18, _ => rfl | 19, _ => rfl | 20, _ => rfl | 21, _ => rfl | 22, _ => rfl | 23, _ => rfl | 24, _ => rfl | 25, _ => rfl | 26, _ => rfl | 27, _ => rfl | 28, _ => rfl | 29, _ => rfl | 30, _ => rfl | 31, _ => rfl | 32, _ => rfl | 33, _ => rfl | 34, _ => rfl | 35, _ => rfl | 36, _ => rfl | 37, _ => rfl | 38, _ => rfl | 39, _ => rfl | 40, _ => rfl | 41, _ => rfl | 42, _ => rfl | 43, _ => rfl | 44, _ => rfl | 45, _ => rfl | 46, _ => rfl | 47, _ => rfl | 48, _ => rfl | 49, _ => rfl | 50, _ => rfl | 51, _ => rfl | 52, _ => rfl | 53, _ => rfl | 54, _ => rfl | 55, _ => rfl | 56, _ => rfl | 57, _ => rfl | 58, _ => rfl | j + 59, hj => exact absurd hj (by omega)) (hroom 74 2944 (by decide) (by decide)) (fun a2 => ?_)
    refine k_dup C dL_law_11 rfl rfl ?_
    refine k_init C dL_law_12 rfl (kX11_init _ _ _ _) cfi_11 (Or.inl (wm_5 22 rfl)) rfl (by decide) (Nat.le_of_ble_eq_true rfl) rfl (hroom 100 6329 (by decide) (by decide)) (fun q2 hq2 => ?_)
    subst hq2
    refine k_astore_n (ls' := [(2, .ref (q2 0)), (1, .ref (q1 0)), (0, .ref b)]) C dL_law_15 rfl hn (by decide) rfl ?_
    intro H locs la1 hP hD hS hl1
    rw [hΓ] at hP hD hS hl1 ⊢
    rw [all_cells cI cR q1 q2] at hP hD
    have hP2 : va_P (dC, dI) vwCl (wl (rh q1 q2, (dC, dI), cI, cR) u0) H := by
      rw [wl_cells (dC, dI) cI cR q1 q2]
      obtain ⟨p1, p2⟩ := P_app2.mp hP
      obtain ⟨p2, p3⟩ := P_cons.mp p2
      refine P_app2.mpr ⟨p1, P_cons.mpr ⟨at_q p2 (fun j hj => ?_), p3⟩⟩
      match j, hj with
      | 0, _ => rfl
      | 1, _ => rfl
      | 2, _ => rfl
      | 3, _ => rfl
      | 4, _ => rfl
      | 5, _ => rfl
      | 6, _ => rfl
      | 7, _ => rfl
    have hD2 : va_D (fun q : Nat => s.heap.size ≤ q) (wl (rh q1 q2, (dC, dI), cI, cR) u0) := by
      rw [wl_cells (dC, dI) cI cR q1 q2]
      refine D_map ?_ hD
      rw [List.map_append, List.map_append, List.map_cons, List.map_cons]
    refine W.widen (k := 600000) (n := 7302250) (Nat.le_of_ble_eq_true rfl) (Nat.le_of_ble_eq_true rfl) ?_
    have hC : Cx ((rh q1 q2, (dC, dI), cI, cR), fun q => s.heap.size ≤ q, (p, l, e, room_1, s, m, #[Value.ref b], below, meth, c), 600000, 7302250, 4) RL cL_law 9 := ⟨hx, hb, hml, hown, hts, hK, hN1, Ij_of hD2, A_of hD2, Nat.le_refl _, Nat.le_refl _, Nat.le_refl _, Nat.le_refl _⟩
    exact pL_law_16 hC ⟨hX, hbl, Nat.not_le.mpr hbl⟩ ⟨rfl, rfl, rfl, hr, hlocks, rfl, rfl, rfl⟩ u0 1 (hg L xs hL) H locs la1 hP2 hS (lv_sub hl1 [2, 1, 0] rfl)
  have K2 := K s.heap [] la (fun k q h => by simp at h) (by rw [hΓ]; exact hD0) (by rw [hΓ]; exact va_S.rf) (by rw [hΓ]; exact hl)
  rw [hΓ] at K2
  exact K2
