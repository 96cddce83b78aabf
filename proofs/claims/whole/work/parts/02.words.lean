theorem tb_0 {w : Cond} (h : w ∈ tables_1) : w ∈ lw_tbl := List.mem_append_right _ h
theorem tb_1 {w : Cond} (i : Nat) (h : tables_1_1[i]? = some w) : w ∈ lw_tbl := tb_0 (by
  have h := List.mem_of_getElem? h
  exact List.mem_append_left _ h)
theorem tb_2 {w : Cond} (i : Nat) (h : tables_1_2[i]? = some w) : w ∈ lw_tbl := tb_0 (by
  have h := List.mem_of_getElem? h
  exact List.mem_append_right _ (List.mem_append_left _ h))
theorem tb_3 {w : Cond} (i : Nat) (h : tables_1_3[i]? = some w) : w ∈ lw_tbl := tb_0 (by
  have h := List.mem_of_getElem? h
  exact List.mem_append_right _ (List.mem_append_right _ (List.mem_append_left _ h)))
theorem tb_4 {w : Cond} (i : Nat) (h : tables_1_4[i]? = some w) : w ∈ lw_tbl := tb_0 (by
  have h := List.mem_of_getElem? h
  exact List.mem_append_right _ (List.mem_append_right _ (List.mem_append_right _ (List.mem_append_left _ h))))
theorem tb_5 {w : Cond} (i : Nat) (h : tables_1_5[i]? = some w) : w ∈ lw_tbl := tb_0 (by
  have h := List.mem_of_getElem? h
  exact List.mem_append_right _ (List.mem_append_right _ (List.mem_append_right _ (List.mem_append_right _ (List.mem_append_left _ h)))))
theorem tb_6 {w : Cond} (i : Nat) (h : tables_1_6[i]? = some w) : w ∈ lw_tbl := tb_0 (by
  have h := List.mem_of_getElem? h
  exact List.mem_append_right _ (List.mem_append_right _ (List.mem_append_right _ (List.mem_append_right _ (List.mem_append_right _ (List.mem_append_left _ h))))))
theorem tb_7 {w : Cond} (i : Nat) (h : tables_1_7[i]? = some w) : w ∈ lw_tbl := tb_0 (by
  have h := List.mem_of_getElem? h
  exact List.mem_append_right _ (List.mem_append_right _ (List.mem_append_right _ (List.mem_append_right _ (List.mem_append_right _ (List.mem_append_right _ (h)))))))
theorem tp_1 {q : MethodName × Nat} (i : Nat) (h : lw_privs_1[i]? = some q) : Cond.selects q.1.cls q.1 q.1 ∈ lw_tbl := List.mem_append_left _ (List.mem_map.mpr ⟨q, by
  have h := List.mem_of_getElem? h
  simp only [lw_privs, List.mem_append]
  simp only [h, true_or, or_true], rfl⟩)
theorem tp_2 {q : MethodName × Nat} (i : Nat) (h : lw_privs_2[i]? = some q) : Cond.selects q.1.cls q.1 q.1 ∈ lw_tbl := List.mem_append_left _ (List.mem_map.mpr ⟨q, by
  have h := List.mem_of_getElem? h
  simp only [lw_privs, List.mem_append]
  simp only [h, true_or, or_true], rfl⟩)
theorem tp_3 {q : MethodName × Nat} (i : Nat) (h : lw_privs_3[i]? = some q) : Cond.selects q.1.cls q.1 q.1 ∈ lw_tbl := List.mem_append_left _ (List.mem_map.mpr ⟨q, by
  have h := List.mem_of_getElem? h
  simp only [lw_privs, List.mem_append]
  simp only [h, true_or, or_true], rfl⟩)
theorem tp_4 {q : MethodName × Nat} (i : Nat) (h : lw_privs_4[i]? = some q) : Cond.selects q.1.cls q.1 q.1 ∈ lw_tbl := List.mem_append_left _ (List.mem_map.mpr ⟨q, by
  have h := List.mem_of_getElem? h
  simp only [lw_privs, List.mem_append]
  simp only [h, true_or, or_true], rfl⟩)
theorem tp_5 {q : MethodName × Nat} (i : Nat) (h : lw_privs_5[i]? = some q) : Cond.selects q.1.cls q.1 q.1 ∈ lw_tbl := List.mem_append_left _ (List.mem_map.mpr ⟨q, by
  have h := List.mem_of_getElem? h
  simp only [lw_privs, List.mem_append]
  simp only [h, true_or, or_true], rfl⟩)
def wsL_law_r1 : List Cond := [Cond.classLink RL 7 RX10, Cond.instantiable RX10 10, Cond.initialized RX10, Cond.classLink RL 10 RX11, Cond.instantiable RX11 59, Cond.initialized RX11, Cond.methodLink RL 9 yX10_init, Cond.instanceMethod yX10_init, Cond.code yX10_init cX10_init 1 none, Cond.methodLink RX10 1 objectInit, Cond.instanceMethod objectInit, Cond.code objectInit ⟨#[0xb1]⟩ 1 none, Cond.classLink RX10 7 RX9, Cond.instantiable RX9 4, Cond.initialized RX9, Cond.fieldLink RX10 10 "DownAmongFences" "now" "LDownAmongFences$World;", Cond.fieldLink RX10 16 "DownAmongFences" "told" "LDownAmongFences$World;", Cond.fieldLink RX10 19 "DownAmongFences" "picture" "LDownAmongFences$World;", Cond.classLink RX10 22 RX4, Cond.instantiable RX4 3, Cond.initialized RX4, Cond.fieldLink RX10 25 "DownAmongFences" "past" "LDownAmongFences$Past;", Cond.classLink RX10 29 RX5, Cond.instantiable RX5 1]
theorem wr_1 : ∀ w ∈ wsL_law_r1, w ∈ lw_tbl := by
  unfold wsL_law_r1
  refine List.forall_mem_cons.mpr ⟨tb_1 14 (by rfl), ?_⟩
  refine List.forall_mem_cons.mpr ⟨tb_1 15 (by rfl), ?_⟩
  refine List.forall_mem_cons.mpr ⟨tb_1 1 (by rfl), ?_⟩
  refine List.forall_mem_cons.mpr ⟨tb_5 78 (by rfl), ?_⟩
  refine List.forall_mem_cons.mpr ⟨tb_5 79 (by rfl), ?_⟩
  refine List.forall_mem_cons.mpr ⟨tb_1 12 (by rfl), ?_⟩
  refine List.forall_mem_cons.mpr ⟨tb_1 16 (by rfl), ?_⟩
  refine List.forall_mem_cons.mpr ⟨tb_1 17 (by rfl), ?_⟩
  refine List.forall_mem_cons.mpr ⟨tb_1 18 (by rfl), ?_⟩
  refine List.forall_mem_cons.mpr ⟨tb_1 19 (by rfl), ?_⟩
  refine List.forall_mem_cons.mpr ⟨tb_1 20 (by rfl), ?_⟩
  refine List.forall_mem_cons.mpr ⟨tb_1 21 (by rfl), ?_⟩
  refine List.forall_mem_cons.mpr ⟨tb_1 22 (by rfl), ?_⟩
  refine List.forall_mem_cons.mpr ⟨tb_1 23 (by rfl), ?_⟩
  refine List.forall_mem_cons.mpr ⟨tb_1 2 (by rfl), ?_⟩
  refine List.forall_mem_cons.mpr ⟨tb_2 67 (by rfl), ?_⟩
  refine List.forall_mem_cons.mpr ⟨tb_2 68 (by rfl), ?_⟩
  refine List.forall_mem_cons.mpr ⟨tb_2 69 (by rfl), ?_⟩
  refine List.forall_mem_cons.mpr ⟨tb_1 165 (by rfl), ?_⟩
  refine List.forall_mem_cons.mpr ⟨tb_1 166 (by rfl), ?_⟩
  refine List.forall_mem_cons.mpr ⟨tb_1 7 (by rfl), ?_⟩
  refine List.forall_mem_cons.mpr ⟨tb_2 71 (by rfl), ?_⟩
  refine List.forall_mem_cons.mpr ⟨tb_1 185 (by rfl), ?_⟩
  refine List.forall_mem_cons.mpr ⟨tb_1 186 (by rfl), ?_⟩
  exact fun _ h => absurd h List.not_mem_nil
theorem wg_1 : wsL_law_r1.all goodWord = true := by decide +kernel
def wsL_law_r2 : List Cond := [Cond.initialized RX5, Cond.fieldLink RX10 32 "DownAmongFences" "reader" "LDownAmongFences$Reader;", Cond.classLink RX10 36 RX7, Cond.instantiable RX7 2, Cond.initialized RX7, Cond.fieldLink RX10 41 "DownAmongFences" "numbers" "LDownAmongFences$Row;", Cond.arrayClass .int, Cond.fieldLink RX10 45 "DownAmongFences" "refusals" "[I", Cond.classLink RX10 49 RX3, Cond.instantiable RX3 18, Cond.initialized RX3, Cond.fieldLink RX10 52 "DownAmongFences" "mind" "LDownAmongFences$Mind;", Cond.classLink RX10 56 RX8, Cond.instantiable RX8 2, Cond.initialized RX8, Cond.fieldLink RX10 59 "DownAmongFences" "ways" "LDownAmongFences$Ways;", Cond.instanceMethod yX9_init, Cond.code yX9_init cX9_init 1 none, Cond.methodLink RX9 1 objectInit, Cond.classLink RX9 7 RX0, Cond.instantiable RX0 2, Cond.initialized RX0, Cond.fieldLink RX9 10 "DownAmongFences$World" "air" "LDownAmongFences$Air;", Cond.classLink RX9 16 RX1]
theorem wr_2 : ∀ w ∈ wsL_law_r2, w ∈ lw_tbl := by
  unfold wsL_law_r2
  refine List.forall_mem_cons.mpr ⟨tb_1 8 (by rfl), ?_⟩
  refine List.forall_mem_cons.mpr ⟨tb_2 72 (by rfl), ?_⟩
  refine List.forall_mem_cons.mpr ⟨tb_1 213 (by rfl), ?_⟩
  refine List.forall_mem_cons.mpr ⟨tb_1 192 (by rfl), ?_⟩
  refine List.forall_mem_cons.mpr ⟨tb_1 9 (by rfl), ?_⟩
  refine List.forall_mem_cons.mpr ⟨tb_2 73 (by rfl), ?_⟩
  refine List.forall_mem_cons.mpr ⟨tb_1 41 (by rfl), ?_⟩
  refine List.forall_mem_cons.mpr ⟨tb_2 74 (by rfl), ?_⟩
  refine List.forall_mem_cons.mpr ⟨tb_1 215 (by rfl), ?_⟩
  refine List.forall_mem_cons.mpr ⟨tb_1 216 (by rfl), ?_⟩
  refine List.forall_mem_cons.mpr ⟨tb_1 10 (by rfl), ?_⟩
  refine List.forall_mem_cons.mpr ⟨tb_2 75 (by rfl), ?_⟩
  refine List.forall_mem_cons.mpr ⟨tb_2 54 (by rfl), ?_⟩
  refine List.forall_mem_cons.mpr ⟨tb_2 55 (by rfl), ?_⟩
  refine List.forall_mem_cons.mpr ⟨tb_1 11 (by rfl), ?_⟩
  refine List.forall_mem_cons.mpr ⟨tb_2 76 (by rfl), ?_⟩
  refine List.forall_mem_cons.mpr ⟨tb_1 25 (by rfl), ?_⟩
  refine List.forall_mem_cons.mpr ⟨tb_1 26 (by rfl), ?_⟩
  refine List.forall_mem_cons.mpr ⟨tb_1 27 (by rfl), ?_⟩
  refine List.forall_mem_cons.mpr ⟨tb_1 28 (by rfl), ?_⟩
  refine List.forall_mem_cons.mpr ⟨tb_1 29 (by rfl), ?_⟩
  refine List.forall_mem_cons.mpr ⟨tb_1 3 (by rfl), ?_⟩
  refine List.forall_mem_cons.mpr ⟨tb_1 141 (by rfl), ?_⟩
  refine List.forall_mem_cons.mpr ⟨tb_1 42 (by rfl), ?_⟩
  exact fun _ h => absurd h List.not_mem_nil
theorem wg_2 : wsL_law_r2.all goodWord = true := by decide +kernel
def wsL_law_r3 : List Cond := [Cond.instantiable RX1 6, Cond.initialized RX1, Cond.fieldLink RX9 19 "DownAmongFences$World" "fields" "LDownAmongFences$Fields;", Cond.classLink RX9 23 RX6, Cond.instantiable RX6 2, Cond.initialized RX6, Cond.fieldLink RX9 26 "DownAmongFences$World" "roads" "LDownAmongFences$Roads;", Cond.classLink RX9 30 RX2, Cond.instantiable RX2 10, Cond.initialized RX2, Cond.fieldLink RX9 33 "DownAmongFences$World" "flight" "LDownAmongFences$Flight;", Cond.instanceMethod yX0_init, Cond.code yX0_init cX0_init 1 none, Cond.methodLink RX0 3 objectInit, Cond.fieldLink RX0 9 "DownAmongFences$Air" "sides" "[I", Cond.fieldLink RX0 15 "DownAmongFences$Air" "aheads" "[I", Cond.instanceMethod yX1_init, Cond.code yX1_init cX1_init 1 none, Cond.methodLink RX1 3 objectInit, Cond.fieldLink RX1 9 "DownAmongFences$Fields" "kinds" "[I", Cond.fieldLink RX1 15 "DownAmongFences$Fields" "figures" "[I", Cond.fieldLink RX1 18 "DownAmongFences$Fields" "lefts" "[I", Cond.fieldLink RX1 21 "DownAmongFences$Fields" "nears" "[I", Cond.fieldLink RX1 24 "DownAmongFences$Fields" "sizes" "[I"]
theorem wr_3 : ∀ w ∈ wsL_law_r3, w ∈ lw_tbl := by
  unfold wsL_law_r3
  refine List.forall_mem_cons.mpr ⟨tb_1 43 (by rfl), ?_⟩
  refine List.forall_mem_cons.mpr ⟨tb_1 4 (by rfl), ?_⟩
  refine List.forall_mem_cons.mpr ⟨tb_1 145 (by rfl), ?_⟩
  refine List.forall_mem_cons.mpr ⟨tb_1 68 (by rfl), ?_⟩
  refine List.forall_mem_cons.mpr ⟨tb_1 69 (by rfl), ?_⟩
  refine List.forall_mem_cons.mpr ⟨tb_1 5 (by rfl), ?_⟩
  refine List.forall_mem_cons.mpr ⟨tb_1 149 (by rfl), ?_⟩
  refine List.forall_mem_cons.mpr ⟨tb_1 82 (by rfl), ?_⟩
  refine List.forall_mem_cons.mpr ⟨tb_1 83 (by rfl), ?_⟩
  refine List.forall_mem_cons.mpr ⟨tb_1 6 (by rfl), ?_⟩
  refine List.forall_mem_cons.mpr ⟨tb_1 152 (by rfl), ?_⟩
  refine List.forall_mem_cons.mpr ⟨tb_1 31 (by rfl), ?_⟩
  refine List.forall_mem_cons.mpr ⟨tb_1 32 (by rfl), ?_⟩
  refine List.forall_mem_cons.mpr ⟨tb_1 33 (by rfl), ?_⟩
  refine List.forall_mem_cons.mpr ⟨tb_1 34 (by rfl), ?_⟩
  refine List.forall_mem_cons.mpr ⟨tb_1 35 (by rfl), ?_⟩
  refine List.forall_mem_cons.mpr ⟨tb_1 45 (by rfl), ?_⟩
  refine List.forall_mem_cons.mpr ⟨tb_1 46 (by rfl), ?_⟩
  refine List.forall_mem_cons.mpr ⟨tb_1 47 (by rfl), ?_⟩
  refine List.forall_mem_cons.mpr ⟨tb_1 50 (by rfl), ?_⟩
  refine List.forall_mem_cons.mpr ⟨tb_1 51 (by rfl), ?_⟩
  refine List.forall_mem_cons.mpr ⟨tb_1 52 (by rfl), ?_⟩
  refine List.forall_mem_cons.mpr ⟨tb_1 53 (by rfl), ?_⟩
  refine List.forall_mem_cons.mpr ⟨tb_1 54 (by rfl), ?_⟩
  exact fun _ h => absurd h List.not_mem_nil
theorem wg_3 : wsL_law_r3.all goodWord = true := by decide +kernel
def wsL_law_r4 : List Cond := [Cond.instanceMethod yX6_init, Cond.code yX6_init cX6_init 1 none, Cond.methodLink RX6 3 objectInit, Cond.fieldLink RX6 9 "DownAmongFences$Roads" "lengths" "[I", Cond.instanceMethod yX2_init, Cond.code yX2_init cX2_init 1 none, Cond.methodLink RX2 3 objectInit, Cond.fieldLink RX2 9 "DownAmongFences$Flight" "x" "I", Cond.fieldLink RX2 15 "DownAmongFences$Flight" "heat" "I", Cond.fieldLink RX2 18 "DownAmongFences$Flight" "gas" "I", Cond.fieldLink RX2 21 "DownAmongFences$Flight" "people" "I", Cond.fieldLink RX2 24 "DownAmongFences$Flight" "lag" "I", Cond.methodLink RX10 24 yX4_init, Cond.instanceMethod yX4_init, Cond.code yX4_init cX4_init 2 none, Cond.methodLink RX4 3 objectInit, Cond.classLink RX4 9 RX2, Cond.fieldLink RX4 11 "DownAmongFences$Past" "flights" "[LDownAmongFences$Flight;", Cond.instanceMethod yX5_init, Cond.code yX5_init cX5_init 1 none, Cond.methodLink RX5 3 objectInit, Cond.classLink RX5 9 RX7, Cond.fieldLink RX5 14 "DownAmongFences$Reader" "letters" "LDownAmongFences$Row;", Cond.methodLink RX5 11 yX7_init]
theorem wr_4 : ∀ w ∈ wsL_law_r4, w ∈ lw_tbl := by
  unfold wsL_law_r4
  refine List.forall_mem_cons.mpr ⟨tb_1 71 (by rfl), ?_⟩
  refine List.forall_mem_cons.mpr ⟨tb_1 72 (by rfl), ?_⟩
  refine List.forall_mem_cons.mpr ⟨tb_1 73 (by rfl), ?_⟩
  refine List.forall_mem_cons.mpr ⟨tb_1 76 (by rfl), ?_⟩
  refine List.forall_mem_cons.mpr ⟨tb_1 85 (by rfl), ?_⟩
  refine List.forall_mem_cons.mpr ⟨tb_1 86 (by rfl), ?_⟩
  refine List.forall_mem_cons.mpr ⟨tb_1 87 (by rfl), ?_⟩
  refine List.forall_mem_cons.mpr ⟨tb_1 92 (by rfl), ?_⟩
  refine List.forall_mem_cons.mpr ⟨tb_1 98 (by rfl), ?_⟩
  refine List.forall_mem_cons.mpr ⟨tb_1 101 (by rfl), ?_⟩
  refine List.forall_mem_cons.mpr ⟨tb_1 105 (by rfl), ?_⟩
  refine List.forall_mem_cons.mpr ⟨tb_1 109 (by rfl), ?_⟩
  refine List.forall_mem_cons.mpr ⟨tb_1 167 (by rfl), ?_⟩
  refine List.forall_mem_cons.mpr ⟨tb_1 168 (by rfl), ?_⟩
  refine List.forall_mem_cons.mpr ⟨tb_1 169 (by rfl), ?_⟩
  refine List.forall_mem_cons.mpr ⟨tb_1 170 (by rfl), ?_⟩
  refine List.forall_mem_cons.mpr ⟨tb_1 171 (by rfl), ?_⟩
  refine List.forall_mem_cons.mpr ⟨tb_1 177 (by rfl), ?_⟩
  refine List.forall_mem_cons.mpr ⟨tb_1 188 (by rfl), ?_⟩
  refine List.forall_mem_cons.mpr ⟨tb_1 189 (by rfl), ?_⟩
  refine List.forall_mem_cons.mpr ⟨tb_1 190 (by rfl), ?_⟩
  refine List.forall_mem_cons.mpr ⟨tb_1 191 (by rfl), ?_⟩
  refine List.forall_mem_cons.mpr ⟨tb_1 208 (by rfl), ?_⟩
  refine List.forall_mem_cons.mpr ⟨tb_1 193 (by rfl), ?_⟩
  exact fun _ h => absurd h List.not_mem_nil
theorem wg_4 : wsL_law_r4.all goodWord = true := by decide +kernel
def wsL_law_r5 : List Cond := [Cond.instanceMethod yX7_init, Cond.code yX7_init cX7_init 2 none, Cond.methodLink RX7 1 objectInit, Cond.fieldLink RX7 7 "DownAmongFences$Row" "told" "[I", Cond.methodLink RX10 38 yX7_init, Cond.instanceMethod yX3_init, Cond.code yX3_init cX3_init 1 none, Cond.methodLink RX3 3 objectInit, Cond.classLink RX3 9 RX0, Cond.fieldLink RX3 12 "DownAmongFences$Mind" "air" "LDownAmongFences$Air;", Cond.classLink RX3 18 RX1, Cond.fieldLink RX3 21 "DownAmongFences$Mind" "fields" "LDownAmongFences$Fields;", Cond.classLink RX3 25 RX2, Cond.fieldLink RX3 28 "DownAmongFences$Mind" "start" "LDownAmongFences$Flight;", Cond.fieldLink RX3 32 "DownAmongFences$Mind" "held" "LDownAmongFences$Flight;", Cond.fieldLink RX3 35 "DownAmongFences$Mind" "flown" "LDownAmongFences$Flight;", Cond.fieldLink RX3 38 "DownAmongFences$Mind" "losses" "[I", Cond.instanceMethod yX8_init, Cond.code yX8_init cX8_init 1 none, Cond.methodLink RX8 3 objectInit, Cond.fieldLink RX8 9 "DownAmongFences$Ways" "shortest" "[I", Cond.fieldLink RX8 15 "DownAmongFences$Ways" "rests" "[I", Cond.methodLink RL 12 yX11_init, Cond.instanceMethod yX11_init]
theorem wr_5 : ∀ w ∈ wsL_law_r5, w ∈ lw_tbl := by
  unfold wsL_law_r5
  refine List.forall_mem_cons.mpr ⟨tb_1 194 (by rfl), ?_⟩
  refine List.forall_mem_cons.mpr ⟨tb_1 195 (by rfl), ?_⟩
  refine List.forall_mem_cons.mpr ⟨tb_1 196 (by rfl), ?_⟩
  refine List.forall_mem_cons.mpr ⟨tb_1 202 (by rfl), ?_⟩
  refine List.forall_mem_cons.mpr ⟨tb_1 214 (by rfl), ?_⟩
  refine List.forall_mem_cons.mpr ⟨tb_1 218 (by rfl), ?_⟩
  refine List.forall_mem_cons.mpr ⟨tb_1 219 (by rfl), ?_⟩
  refine List.forall_mem_cons.mpr ⟨tb_1 220 (by rfl), ?_⟩
  refine List.forall_mem_cons.mpr ⟨tb_1 221 (by rfl), ?_⟩
  refine List.forall_mem_cons.mpr ⟨tb_1 227 (by rfl), ?_⟩
  refine List.forall_mem_cons.mpr ⟨tb_1 223 (by rfl), ?_⟩
  refine List.forall_mem_cons.mpr ⟨tb_1 228 (by rfl), ?_⟩
  refine List.forall_mem_cons.mpr ⟨tb_1 225 (by rfl), ?_⟩
  refine List.forall_mem_cons.mpr ⟨tb_1 229 (by rfl), ?_⟩
  refine List.forall_mem_cons.mpr ⟨tb_1 230 (by rfl), ?_⟩
  refine List.forall_mem_cons.mpr ⟨tb_1 232 (by rfl), ?_⟩
  refine List.forall_mem_cons.mpr ⟨tb_2 16 (by rfl), ?_⟩
  refine List.forall_mem_cons.mpr ⟨tb_2 57 (by rfl), ?_⟩
  refine List.forall_mem_cons.mpr ⟨tb_2 58 (by rfl), ?_⟩
  refine List.forall_mem_cons.mpr ⟨tb_2 59 (by rfl), ?_⟩
  refine List.forall_mem_cons.mpr ⟨tb_2 60 (by rfl), ?_⟩
  refine List.forall_mem_cons.mpr ⟨tb_2 61 (by rfl), ?_⟩
  refine List.forall_mem_cons.mpr ⟨tb_5 80 (by rfl), ?_⟩
  refine List.forall_mem_cons.mpr ⟨tb_5 81 (by rfl), ?_⟩
  exact fun _ h => absurd h List.not_mem_nil
theorem wg_5 : wsL_law_r5.all goodWord = true := by decide +kernel
def wsL_law_r6 : List Cond := [Cond.code yX11_init cX11_init 1 none, Cond.methodLink RX11 1 objectInit, Cond.fieldLink RX11 7 "DownAmongFencesModel" "sides" "[I", Cond.fieldLink RX11 13 "DownAmongFencesModel" "aheads" "[I", Cond.fieldLink RX11 16 "DownAmongFencesModel" "x" "I", Cond.fieldLink RX11 20 "DownAmongFencesModel" "heat" "I", Cond.fieldLink RX11 23 "DownAmongFencesModel" "gas" "I", Cond.fieldLink RX11 26 "DownAmongFencesModel" "people" "I", Cond.fieldLink RX11 29 "DownAmongFencesModel" "lag" "I", Cond.fieldLink RX11 32 "DownAmongFencesModel" "works" "[I", Cond.fieldLink RX11 35 "DownAmongFencesModel" "kinds" "[I", Cond.fieldLink RX11 38 "DownAmongFencesModel" "figures" "[I", Cond.fieldLink RX11 41 "DownAmongFencesModel" "xs" "[I", Cond.fieldLink RX11 44 "DownAmongFencesModel" "ys" "[I", Cond.fieldLink RX11 47 "DownAmongFencesModel" "sizes" "[I", Cond.fieldLink RX11 50 "DownAmongFencesModel" "roads" "[I", Cond.fieldLink RX11 53 "DownAmongFencesModel" "refusals" "[I", Cond.fieldLink RX11 56 "DownAmongFencesModel" "letters" "[I", Cond.fieldLink RX11 59 "DownAmongFencesModel" "placeIn" "[I", Cond.fieldLink RX11 62 "DownAmongFencesModel" "letterOf" "[I", Cond.fieldLink RX11 65 "DownAmongFencesModel" "told" "[I", Cond.fieldLink RX11 68 "DownAmongFencesModel" "acts" "[I", Cond.fieldLink RX11 71 "DownAmongFencesModel" "kept" "[I", Cond.fieldLink RX11 74 "DownAmongFencesModel" "imaged" "[I"]
theorem wr_6 : ∀ w ∈ wsL_law_r6, w ∈ lw_tbl := by
  unfold wsL_law_r6
  refine List.forall_mem_cons.mpr ⟨tb_5 82 (by rfl), ?_⟩
  refine List.forall_mem_cons.mpr ⟨tb_5 83 (by rfl), ?_⟩
  refine List.forall_mem_cons.mpr ⟨tb_5 84 (by rfl), ?_⟩
  refine List.forall_mem_cons.mpr ⟨tb_5 85 (by rfl), ?_⟩
  refine List.forall_mem_cons.mpr ⟨tb_5 87 (by rfl), ?_⟩
  refine List.forall_mem_cons.mpr ⟨tb_5 89 (by rfl), ?_⟩
  refine List.forall_mem_cons.mpr ⟨tb_5 90 (by rfl), ?_⟩
  refine List.forall_mem_cons.mpr ⟨tb_5 91 (by rfl), ?_⟩
  refine List.forall_mem_cons.mpr ⟨tb_5 92 (by rfl), ?_⟩
  refine List.forall_mem_cons.mpr ⟨tb_5 94 (by rfl), ?_⟩
  refine List.forall_mem_cons.mpr ⟨tb_5 96 (by rfl), ?_⟩
  refine List.forall_mem_cons.mpr ⟨tb_5 97 (by rfl), ?_⟩
  refine List.forall_mem_cons.mpr ⟨tb_5 98 (by rfl), ?_⟩
  refine List.forall_mem_cons.mpr ⟨tb_5 99 (by rfl), ?_⟩
  refine List.forall_mem_cons.mpr ⟨tb_5 100 (by rfl), ?_⟩
  refine List.forall_mem_cons.mpr ⟨tb_5 101 (by rfl), ?_⟩
  refine List.forall_mem_cons.mpr ⟨tb_5 104 (by rfl), ?_⟩
  refine List.forall_mem_cons.mpr ⟨tb_5 106 (by rfl), ?_⟩
  refine List.forall_mem_cons.mpr ⟨tb_5 111 (by rfl), ?_⟩
  refine List.forall_mem_cons.mpr ⟨tb_5 112 (by rfl), ?_⟩
  refine List.forall_mem_cons.mpr ⟨tb_5 113 (by rfl), ?_⟩
  refine List.forall_mem_cons.mpr ⟨tb_5 114 (by rfl), ?_⟩
  refine List.forall_mem_cons.mpr ⟨tb_5 115 (by rfl), ?_⟩
  refine List.forall_mem_cons.mpr ⟨tb_5 116 (by rfl), ?_⟩
  exact fun _ h => absurd h List.not_mem_nil
theorem wg_6 : wsL_law_r6.all goodWord = true := by decide +kernel
def wsL_law_r7 : List Cond := [Cond.fieldLink RX11 77 "DownAmongFencesModel" "thought" "[I", Cond.fieldLink RX11 80 "DownAmongFencesModel" "turns" "[I", Cond.fieldLink RX11 83 "DownAmongFencesModel" "one" "[I", Cond.fieldLink RX11 86 "DownAmongFencesModel" "outer" "[I", Cond.fieldLink RX11 89 "DownAmongFencesModel" "minutes" "[I", Cond.fieldLink RX11 92 "DownAmongFencesModel" "losses" "[I", Cond.fieldLink RX11 95 "DownAmongFencesModel" "between" "[I", Cond.fieldLink RX11 98 "DownAmongFencesModel" "tours" "[I", Cond.fieldLink RX11 101 "DownAmongFencesModel" "row" "[I", Cond.fieldLink RX11 104 "DownAmongFencesModel" "thrown" "I", Cond.methodLink RL 13 yX10_feed, Cond.instanceMethod yX10_feed, Cond.selects RX10 yX10_feed yX10_feed, Cond.code yX10_feed cX10_feed 2 (some .int), Cond.fieldLink RX10 67 "DownAmongFences$Reader" "letters" "LDownAmongFences$Row;", Cond.methodLink RX10 63 yX10_refuse, Cond.instanceMethod yX10_refuse, Cond.selects RX10 yX10_refuse yX10_refuse, Cond.code yX10_refuse cX10_refuse 3 (some .int), Cond.methodLink RX10 70 yX7_isFull, Cond.instanceMethod yX7_isFull, Cond.selects RX7 yX7_isFull yX7_isFull, Cond.code yX7_isFull cX7_isFull 1 (some .boolean), Cond.fieldLink RX7 13 "DownAmongFences$Row" "length" "I"]
theorem wr_7 : ∀ w ∈ wsL_law_r7, w ∈ lw_tbl := by
  unfold wsL_law_r7
  refine List.forall_mem_cons.mpr ⟨tb_5 121 (by rfl), ?_⟩
  refine List.forall_mem_cons.mpr ⟨tb_5 122 (by rfl), ?_⟩
  refine List.forall_mem_cons.mpr ⟨tb_5 123 (by rfl), ?_⟩
  refine List.forall_mem_cons.mpr ⟨tb_5 134 (by rfl), ?_⟩
  refine List.forall_mem_cons.mpr ⟨tb_5 137 (by rfl), ?_⟩
  refine List.forall_mem_cons.mpr ⟨tb_5 138 (by rfl), ?_⟩
  refine List.forall_mem_cons.mpr ⟨tb_5 139 (by rfl), ?_⟩
  refine List.forall_mem_cons.mpr ⟨tb_5 140 (by rfl), ?_⟩
  refine List.forall_mem_cons.mpr ⟨tb_5 141 (by rfl), ?_⟩
  refine List.forall_mem_cons.mpr ⟨tb_5 103 (by rfl), ?_⟩
  refine List.forall_mem_cons.mpr ⟨tb_2 98 (by rfl), ?_⟩
  refine List.forall_mem_cons.mpr ⟨tb_2 99 (by rfl), ?_⟩
  refine List.forall_mem_cons.mpr ⟨tb_2 100 (by rfl), ?_⟩
  refine List.forall_mem_cons.mpr ⟨tb_2 101 (by rfl), ?_⟩
  refine List.forall_mem_cons.mpr ⟨tb_1 209 (by rfl), ?_⟩
  refine List.forall_mem_cons.mpr ⟨tb_2 102 (by rfl), ?_⟩
  refine List.forall_mem_cons.mpr ⟨tb_2 104 (by rfl), ?_⟩
  refine List.forall_mem_cons.mpr ⟨tp_1 (q := (⟨"DownAmongFences", "refuse", "(I)I"⟩, 10)) 0 (by rfl), ?_⟩
  refine List.forall_mem_cons.mpr ⟨tb_2 105 (by rfl), ?_⟩
  refine List.forall_mem_cons.mpr ⟨tb_2 106 (by rfl), ?_⟩
  refine List.forall_mem_cons.mpr ⟨tb_2 107 (by rfl), ?_⟩
  refine List.forall_mem_cons.mpr ⟨tb_2 108 (by rfl), ?_⟩
  refine List.forall_mem_cons.mpr ⟨tb_2 109 (by rfl), ?_⟩
  refine List.forall_mem_cons.mpr ⟨tb_1 197 (by rfl), ?_⟩
  exact fun _ h => absurd h List.not_mem_nil
theorem wg_7 : wsL_law_r7.all goodWord = true := by decide +kernel
def wsL_law_r8 : List Cond := [Cond.methodLink RX10 74 yX7_add, Cond.instanceMethod yX7_add, Cond.selects RX7 yX7_add yX7_add, Cond.code yX7_add cX7_add 2 (some .int), Cond.methodLink RL 17 yX11_feed, Cond.instanceMethod yX11_feed, Cond.selects RX11 yX11_feed yX11_feed, Cond.code yX11_feed cX11_feed 2 (some .int), Cond.fieldLink RX11 156 "DownAmongFencesModel" "letterMany" "I", Cond.methodLink RX11 153 yX11_refuse, Cond.instanceMethod yX11_refuse, Cond.selects RX11 yX11_refuse yX11_refuse, Cond.code yX11_refuse cX11_refuse 2 (some .int), Cond.methodLink RL 18 yX10_land, Cond.instanceMethod yX10_land, Cond.selects RX10 yX10_land yX10_land, Cond.code yX10_land cX10_land 3 (some .int), Cond.methodLink RX10 77 yX9_copyFrom, Cond.instanceMethod yX9_copyFrom, Cond.selects RX9 yX9_copyFrom yX9_copyFrom, Cond.code yX9_copyFrom cX9_copyFrom 2 none, Cond.methodLink RX9 37 yX0_copyFrom, Cond.instanceMethod yX0_copyFrom, Cond.selects RX0 yX0_copyFrom yX0_copyFrom]
theorem wr_8 : ∀ w ∈ wsL_law_r8, w ∈ lw_tbl := by
  unfold wsL_law_r8
  refine List.forall_mem_cons.mpr ⟨tb_2 110 (by rfl), ?_⟩
  refine List.forall_mem_cons.mpr ⟨tb_2 111 (by rfl), ?_⟩
  refine List.forall_mem_cons.mpr ⟨tb_2 112 (by rfl), ?_⟩
  refine List.forall_mem_cons.mpr ⟨tb_2 113 (by rfl), ?_⟩
  refine List.forall_mem_cons.mpr ⟨tb_6 22 (by rfl), ?_⟩
  refine List.forall_mem_cons.mpr ⟨tb_6 23 (by rfl), ?_⟩
  refine List.forall_mem_cons.mpr ⟨tb_6 24 (by rfl), ?_⟩
  refine List.forall_mem_cons.mpr ⟨tb_6 25 (by rfl), ?_⟩
  refine List.forall_mem_cons.mpr ⟨tb_5 107 (by rfl), ?_⟩
  refine List.forall_mem_cons.mpr ⟨tb_6 26 (by rfl), ?_⟩
  refine List.forall_mem_cons.mpr ⟨tb_6 28 (by rfl), ?_⟩
  refine List.forall_mem_cons.mpr ⟨tp_2 (q := (⟨"DownAmongFencesModel", "refuse", "(I)I"⟩, 59)) 11 (by rfl), ?_⟩
  refine List.forall_mem_cons.mpr ⟨tb_6 29 (by rfl), ?_⟩
  refine List.forall_mem_cons.mpr ⟨tb_2 114 (by rfl), ?_⟩
  refine List.forall_mem_cons.mpr ⟨tb_2 115 (by rfl), ?_⟩
  refine List.forall_mem_cons.mpr ⟨tb_2 116 (by rfl), ?_⟩
  refine List.forall_mem_cons.mpr ⟨tb_2 117 (by rfl), ?_⟩
  refine List.forall_mem_cons.mpr ⟨tb_2 118 (by rfl), ?_⟩
  refine List.forall_mem_cons.mpr ⟨tb_2 119 (by rfl), ?_⟩
  refine List.forall_mem_cons.mpr ⟨tb_2 120 (by rfl), ?_⟩
  refine List.forall_mem_cons.mpr ⟨tb_2 121 (by rfl), ?_⟩
  refine List.forall_mem_cons.mpr ⟨tb_2 122 (by rfl), ?_⟩
  refine List.forall_mem_cons.mpr ⟨tb_2 123 (by rfl), ?_⟩
  refine List.forall_mem_cons.mpr ⟨tb_2 124 (by rfl), ?_⟩
  exact fun _ h => absurd h List.not_mem_nil
theorem wg_8 : wsL_law_r8.all goodWord = true := by decide +kernel
def wsL_law_r9 : List Cond := [Cond.code yX0_copyFrom cX0_copyFrom 3 none, Cond.methodLink RX9 41 yX1_copyFrom, Cond.instanceMethod yX1_copyFrom, Cond.selects RX1 yX1_copyFrom yX1_copyFrom, Cond.code yX1_copyFrom cX1_copyFrom 3 none, Cond.fieldLink RX1 27 "DownAmongFences$Fields" "known" "I", Cond.methodLink RX9 44 yX6_copyFrom, Cond.instanceMethod yX6_copyFrom, Cond.selects RX6 yX6_copyFrom yX6_copyFrom, Cond.code yX6_copyFrom cX6_copyFrom 3 none, Cond.fieldLink RX6 15 "DownAmongFences$Roads" "carPlace" "I", Cond.methodLink RX9 47 yX2_copyFrom, Cond.instanceMethod yX2_copyFrom, Cond.selects RX2 yX2_copyFrom yX2_copyFrom, Cond.code yX2_copyFrom cX2_copyFrom 2 none, Cond.fieldLink RX2 27 "DownAmongFences$Flight" "height" "I", Cond.fieldLink RX2 30 "DownAmongFences$Flight" "y" "I", Cond.fieldLink RX2 33 "DownAmongFences$Flight" "step" "I", Cond.fieldLink RX2 36 "DownAmongFences$Flight" "pace" "I", Cond.fieldLink RX2 39 "DownAmongFences$Flight" "underWay" "I", Cond.methodLink RX10 81 yX5_firstMisplaced, Cond.instanceMethod yX5_firstMisplaced, Cond.selects RX5 yX5_firstMisplaced yX5_firstMisplaced, Cond.code yX5_firstMisplaced cX5_firstMisplaced 4 (some .int)]
theorem wr_9 : ∀ w ∈ wsL_law_r9, w ∈ lw_tbl := by
  unfold wsL_law_r9
  refine List.forall_mem_cons.mpr ⟨tb_2 125 (by rfl), ?_⟩
  refine List.forall_mem_cons.mpr ⟨tb_2 126 (by rfl), ?_⟩
  refine List.forall_mem_cons.mpr ⟨tb_2 127 (by rfl), ?_⟩
  refine List.forall_mem_cons.mpr ⟨tb_2 128 (by rfl), ?_⟩
  refine List.forall_mem_cons.mpr ⟨tb_2 129 (by rfl), ?_⟩
  refine List.forall_mem_cons.mpr ⟨tb_1 48 (by rfl), ?_⟩
  refine List.forall_mem_cons.mpr ⟨tb_2 130 (by rfl), ?_⟩
  refine List.forall_mem_cons.mpr ⟨tb_2 131 (by rfl), ?_⟩
  refine List.forall_mem_cons.mpr ⟨tb_2 132 (by rfl), ?_⟩
  refine List.forall_mem_cons.mpr ⟨tb_2 133 (by rfl), ?_⟩
  refine List.forall_mem_cons.mpr ⟨tb_1 74 (by rfl), ?_⟩
  refine List.forall_mem_cons.mpr ⟨tb_2 134 (by rfl), ?_⟩
  refine List.forall_mem_cons.mpr ⟨tb_2 135 (by rfl), ?_⟩
  refine List.forall_mem_cons.mpr ⟨tb_2 136 (by rfl), ?_⟩
  refine List.forall_mem_cons.mpr ⟨tb_2 137 (by rfl), ?_⟩
  refine List.forall_mem_cons.mpr ⟨tb_1 88 (by rfl), ?_⟩
  refine List.forall_mem_cons.mpr ⟨tb_1 95 (by rfl), ?_⟩
  refine List.forall_mem_cons.mpr ⟨tb_1 112 (by rfl), ?_⟩
  refine List.forall_mem_cons.mpr ⟨tb_1 116 (by rfl), ?_⟩
  refine List.forall_mem_cons.mpr ⟨tb_1 119 (by rfl), ?_⟩
  refine List.forall_mem_cons.mpr ⟨tb_2 138 (by rfl), ?_⟩
  refine List.forall_mem_cons.mpr ⟨tb_2 139 (by rfl), ?_⟩
  refine List.forall_mem_cons.mpr ⟨tb_2 140 (by rfl), ?_⟩
  refine List.forall_mem_cons.mpr ⟨tb_2 141 (by rfl), ?_⟩
  exact fun _ h => absurd h List.not_mem_nil
theorem wg_9 : wsL_law_r9.all goodWord = true := by decide +kernel
def wsL_law_r10 : List Cond := [Cond.fieldLink RX5 24 "DownAmongFences$Row" "length" "I", Cond.methodLink RX5 28 yX5_endOf, Cond.instanceMethod yX5_endOf, Cond.selects RX5 yX5_endOf yX5_endOf, Cond.code yX5_endOf cX5_endOf 2 (some .int), Cond.methodLink RX5 20 yX7_at, Cond.instanceMethod yX7_at, Cond.selects RX7 yX7_at yX7_at, Cond.code yX7_at cX7_at 2 (some .int), Cond.methodLink RX5 35 yX5_endOfWind, Cond.instanceMethod yX5_endOfWind, Cond.selects RX5 yX5_endOfWind yX5_endOfWind, Cond.code yX5_endOfWind cX5_endOfWind 3 (some .int), Cond.methodLink RX5 42 yX5_isDigit, Cond.instanceMethod yX5_isDigit, Cond.selects RX5 yX5_isDigit yX5_isDigit, Cond.code yX5_isDigit cX5_isDigit 2 (some .boolean), Cond.methodLink RX5 38 yX5_endOfDigits, Cond.instanceMethod yX5_endOfDigits, Cond.selects RX5 yX5_endOfDigits yX5_endOfDigits, Cond.code yX5_endOfDigits cX5_endOfDigits 5 (some .int), Cond.methodLink RX10 85 yX5_tell, Cond.instanceMethod yX5_tell, Cond.selects RX5 yX5_tell yX5_tell]
theorem wr_10 : ∀ w ∈ wsL_law_r10, w ∈ lw_tbl := by
  unfold wsL_law_r10
  refine List.forall_mem_cons.mpr ⟨tb_1 198 (by rfl), ?_⟩
  refine List.forall_mem_cons.mpr ⟨tb_2 142 (by rfl), ?_⟩
  refine List.forall_mem_cons.mpr ⟨tb_2 144 (by rfl), ?_⟩
  refine List.forall_mem_cons.mpr ⟨tp_1 (q := (⟨"DownAmongFences$Reader", "endOf", "(I)I"⟩, 1)) 1 (by rfl), ?_⟩
  refine List.forall_mem_cons.mpr ⟨tb_2 145 (by rfl), ?_⟩
  refine List.forall_mem_cons.mpr ⟨tb_2 146 (by rfl), ?_⟩
  refine List.forall_mem_cons.mpr ⟨tb_2 147 (by rfl), ?_⟩
  refine List.forall_mem_cons.mpr ⟨tb_2 148 (by rfl), ?_⟩
  refine List.forall_mem_cons.mpr ⟨tb_2 149 (by rfl), ?_⟩
  refine List.forall_mem_cons.mpr ⟨tb_2 150 (by rfl), ?_⟩
  refine List.forall_mem_cons.mpr ⟨tb_2 152 (by rfl), ?_⟩
  refine List.forall_mem_cons.mpr ⟨tp_1 (q := (⟨"DownAmongFences$Reader", "endOfWind", "(I)I"⟩, 1)) 2 (by rfl), ?_⟩
  refine List.forall_mem_cons.mpr ⟨tb_2 153 (by rfl), ?_⟩
  refine List.forall_mem_cons.mpr ⟨tb_2 154 (by rfl), ?_⟩
  refine List.forall_mem_cons.mpr ⟨tb_2 156 (by rfl), ?_⟩
  refine List.forall_mem_cons.mpr ⟨tp_1 (q := (⟨"DownAmongFences$Reader", "isDigit", "(I)Z"⟩, 1)) 3 (by rfl), ?_⟩
  refine List.forall_mem_cons.mpr ⟨tb_2 157 (by rfl), ?_⟩
  refine List.forall_mem_cons.mpr ⟨tb_2 158 (by rfl), ?_⟩
  refine List.forall_mem_cons.mpr ⟨tb_2 160 (by rfl), ?_⟩
  refine List.forall_mem_cons.mpr ⟨tp_1 (q := (⟨"DownAmongFences$Reader", "endOfDigits", "(III)I"⟩, 1)) 4 (by rfl), ?_⟩
  refine List.forall_mem_cons.mpr ⟨tb_2 161 (by rfl), ?_⟩
  refine List.forall_mem_cons.mpr ⟨tb_2 162 (by rfl), ?_⟩
  refine List.forall_mem_cons.mpr ⟨tb_2 163 (by rfl), ?_⟩
  refine List.forall_mem_cons.mpr ⟨tb_2 164 (by rfl), ?_⟩
  exact fun _ h => absurd h List.not_mem_nil
theorem wg_10 : wsL_law_r10.all goodWord = true := by decide +kernel
def wsL_law_r11 : List Cond := [Cond.code yX5_tell cX5_tell 5 (some .int), Cond.methodLink RX5 31 yX5_tellStatement, Cond.instanceMethod yX5_tellStatement, Cond.selects RX5 yX5_tellStatement yX5_tellStatement, Cond.code yX5_tellStatement cX5_tellStatement 4 (some .boolean), Cond.fieldLink RX5 46 "DownAmongFences$World" "air" "LDownAmongFences$Air;", Cond.fieldLink RX5 56 "DownAmongFences$World" "fields" "LDownAmongFences$Fields;", Cond.fieldLink RX5 64 "DownAmongFences$World" "roads" "LDownAmongFences$Roads;", Cond.fieldLink RX5 72 "DownAmongFences$World" "flight" "LDownAmongFences$Flight;", Cond.methodLink RX5 52 yX5_tellWind, Cond.instanceMethod yX5_tellWind, Cond.selects RX5 yX5_tellWind yX5_tellWind, Cond.code yX5_tellWind cX5_tellWind 5 (some .boolean), Cond.methodLink RX5 89 yX5_number, Cond.instanceMethod yX5_number, Cond.selects RX5 yX5_number yX5_number, Cond.code yX5_number cX5_number 5 (some .int), Cond.static yX10_isLayer, Cond.code yX10_isLayer cX10_isLayer 1 (some .boolean), Cond.methodLink RX5 96 yX0_blow, Cond.instanceMethod yX0_blow, Cond.selects RX0 yX0_blow yX0_blow, Cond.code yX0_blow cX0_blow 4 none, Cond.methodLink RX5 60 yX5_tellField]
theorem wr_11 : ∀ w ∈ wsL_law_r11, w ∈ lw_tbl := by
  unfold wsL_law_r11
  refine List.forall_mem_cons.mpr ⟨tb_2 165 (by rfl), ?_⟩
  refine List.forall_mem_cons.mpr ⟨tb_2 166 (by rfl), ?_⟩
  refine List.forall_mem_cons.mpr ⟨tb_2 168 (by rfl), ?_⟩
  refine List.forall_mem_cons.mpr ⟨tp_1 (q := (⟨"DownAmongFences$Reader", "tellStatement", "(IILDownAmongFences$World;)Z"⟩, 1)) 5 (by rfl), ?_⟩
  refine List.forall_mem_cons.mpr ⟨tb_2 169 (by rfl), ?_⟩
  refine List.forall_mem_cons.mpr ⟨tb_1 144 (by rfl), ?_⟩
  refine List.forall_mem_cons.mpr ⟨tb_1 148 (by rfl), ?_⟩
  refine List.forall_mem_cons.mpr ⟨tb_1 150 (by rfl), ?_⟩
  refine List.forall_mem_cons.mpr ⟨tb_1 155 (by rfl), ?_⟩
  refine List.forall_mem_cons.mpr ⟨tb_2 170 (by rfl), ?_⟩
  refine List.forall_mem_cons.mpr ⟨tb_2 172 (by rfl), ?_⟩
  refine List.forall_mem_cons.mpr ⟨tp_1 (q := (⟨"DownAmongFences$Reader", "tellWind", "(ILDownAmongFences$Air;)Z"⟩, 1)) 6 (by rfl), ?_⟩
  refine List.forall_mem_cons.mpr ⟨tb_2 173 (by rfl), ?_⟩
  refine List.forall_mem_cons.mpr ⟨tb_2 174 (by rfl), ?_⟩
  refine List.forall_mem_cons.mpr ⟨tb_2 176 (by rfl), ?_⟩
  refine List.forall_mem_cons.mpr ⟨tp_1 (q := (⟨"DownAmongFences$Reader", "number", "(II)I"⟩, 1)) 7 (by rfl), ?_⟩
  refine List.forall_mem_cons.mpr ⟨tb_2 177 (by rfl), ?_⟩
  refine List.forall_mem_cons.mpr ⟨tb_2 179 (by rfl), ?_⟩
  refine List.forall_mem_cons.mpr ⟨tb_2 180 (by rfl), ?_⟩
  refine List.forall_mem_cons.mpr ⟨tb_2 181 (by rfl), ?_⟩
  refine List.forall_mem_cons.mpr ⟨tb_2 182 (by rfl), ?_⟩
  refine List.forall_mem_cons.mpr ⟨tb_2 183 (by rfl), ?_⟩
  refine List.forall_mem_cons.mpr ⟨tb_2 184 (by rfl), ?_⟩
  refine List.forall_mem_cons.mpr ⟨tb_2 186 (by rfl), ?_⟩
  exact fun _ h => absurd h List.not_mem_nil
theorem wg_11 : wsL_law_r11.all goodWord = true := by decide +kernel
def wsL_law_r12 : List Cond := [Cond.instanceMethod yX5_tellField, Cond.selects RX5 yX5_tellField yX5_tellField, Cond.code yX5_tellField cX5_tellField 5 (some .boolean), Cond.methodLink RX5 102 yX1_isFull, Cond.instanceMethod yX1_isFull, Cond.selects RX1 yX1_isFull yX1_isFull, Cond.code yX1_isFull cX1_isFull 1 (some .boolean), Cond.methodLink RX5 108 yX1_add, Cond.instanceMethod yX1_add, Cond.selects RX1 yX1_add yX1_add, Cond.code yX1_add cX1_add 6 none, Cond.methodLink RX5 68 yX5_tellRoad, Cond.instanceMethod yX5_tellRoad, Cond.selects RX5 yX5_tellRoad yX5_tellRoad, Cond.code yX5_tellRoad cX5_tellRoad 5 (some .boolean), Cond.static yX10_areTwoPlaces, Cond.code yX10_areTwoPlaces cX10_areTwoPlaces 2 (some .boolean), Cond.methodLink RX10 291 yX10_isPlace, Cond.static yX10_isPlace, Cond.code yX10_isPlace cX10_isPlace 1 (some .boolean), Cond.methodLink RX5 116 yX6_lay, Cond.instanceMethod yX6_lay, Cond.selects RX6 yX6_lay yX6_lay, Cond.code yX6_lay cX6_lay 4 none]
theorem wr_12 : ∀ w ∈ wsL_law_r12, w ∈ lw_tbl := by
  unfold wsL_law_r12
  refine List.forall_mem_cons.mpr ⟨tb_2 188 (by rfl), ?_⟩
  refine List.forall_mem_cons.mpr ⟨tp_1 (q := (⟨"DownAmongFences$Reader", "tellField", "(ILDownAmongFences$Fields;)Z"⟩, 1)) 8 (by rfl), ?_⟩
  refine List.forall_mem_cons.mpr ⟨tb_2 189 (by rfl), ?_⟩
  refine List.forall_mem_cons.mpr ⟨tb_2 190 (by rfl), ?_⟩
  refine List.forall_mem_cons.mpr ⟨tb_2 191 (by rfl), ?_⟩
  refine List.forall_mem_cons.mpr ⟨tb_2 192 (by rfl), ?_⟩
  refine List.forall_mem_cons.mpr ⟨tb_2 193 (by rfl), ?_⟩
  refine List.forall_mem_cons.mpr ⟨tb_2 194 (by rfl), ?_⟩
  refine List.forall_mem_cons.mpr ⟨tb_2 195 (by rfl), ?_⟩
  refine List.forall_mem_cons.mpr ⟨tb_2 196 (by rfl), ?_⟩
  refine List.forall_mem_cons.mpr ⟨tb_2 197 (by rfl), ?_⟩
  refine List.forall_mem_cons.mpr ⟨tb_2 198 (by rfl), ?_⟩
  refine List.forall_mem_cons.mpr ⟨tb_2 200 (by rfl), ?_⟩
  refine List.forall_mem_cons.mpr ⟨tp_1 (q := (⟨"DownAmongFences$Reader", "tellRoad", "(ILDownAmongFences$Roads;)Z"⟩, 1)) 9 (by rfl), ?_⟩
  refine List.forall_mem_cons.mpr ⟨tb_2 201 (by rfl), ?_⟩
  refine List.forall_mem_cons.mpr ⟨tb_2 203 (by rfl), ?_⟩
  refine List.forall_mem_cons.mpr ⟨tb_2 204 (by rfl), ?_⟩
  refine List.forall_mem_cons.mpr ⟨tb_2 205 (by rfl), ?_⟩
  refine List.forall_mem_cons.mpr ⟨tb_2 206 (by rfl), ?_⟩
  refine List.forall_mem_cons.mpr ⟨tb_2 207 (by rfl), ?_⟩
  refine List.forall_mem_cons.mpr ⟨tb_2 208 (by rfl), ?_⟩
  refine List.forall_mem_cons.mpr ⟨tb_2 209 (by rfl), ?_⟩
  refine List.forall_mem_cons.mpr ⟨tb_2 210 (by rfl), ?_⟩
  refine List.forall_mem_cons.mpr ⟨tb_2 211 (by rfl), ?_⟩
  exact fun _ h => absurd h List.not_mem_nil
theorem wg_12 : wsL_law_r12.all goodWord = true := by decide +kernel
def wsL_law_r13 : List Cond := [Cond.methodLink RX5 76 yX5_tellBalloon, Cond.instanceMethod yX5_tellBalloon, Cond.selects RX5 yX5_tellBalloon yX5_tellBalloon, Cond.code yX5_tellBalloon cX5_tellBalloon 6 (some .boolean), Cond.fieldLink RX5 121 "DownAmongFences$Flight" "heat" "I", Cond.fieldLink RX5 126 "DownAmongFences$Flight" "gas" "I", Cond.fieldLink RX5 129 "DownAmongFences$Flight" "people" "I", Cond.methodLink RX5 80 yX5_tellHeight, Cond.instanceMethod yX5_tellHeight, Cond.selects RX5 yX5_tellHeight yX5_tellHeight, Cond.code yX5_tellHeight cX5_tellHeight 4 (some .boolean), Cond.fieldLink RX5 132 "DownAmongFences$Flight" "height" "I", Cond.methodLink RX5 83 yX5_tellLag, Cond.instanceMethod yX5_tellLag, Cond.selects RX5 yX5_tellLag yX5_tellLag, Cond.code yX5_tellLag cX5_tellLag 4 (some .boolean), Cond.fieldLink RX5 135 "DownAmongFences$Flight" "lag" "I", Cond.methodLink RX5 138 yX2_loseWork, Cond.instanceMethod yX2_loseWork, Cond.selects RX2 yX2_loseWork yX2_loseWork, Cond.code yX2_loseWork cX2_loseWork 1 none, Cond.methodLink RX5 86 yX5_tellActs, Cond.instanceMethod yX5_tellActs, Cond.selects RX5 yX5_tellActs yX5_tellActs]
theorem wr_13 : ∀ w ∈ wsL_law_r13, w ∈ lw_tbl := by
  unfold wsL_law_r13
  refine List.forall_mem_cons.mpr ⟨tb_2 213 (by rfl), ?_⟩
  refine List.forall_mem_cons.mpr ⟨tb_2 215 (by rfl), ?_⟩
  refine List.forall_mem_cons.mpr ⟨tp_1 (q := (⟨"DownAmongFences$Reader", "tellBalloon", "(ILDownAmongFences$Flight;)Z"⟩, 1)) 10 (by rfl), ?_⟩
  refine List.forall_mem_cons.mpr ⟨tb_2 216 (by rfl), ?_⟩
  refine List.forall_mem_cons.mpr ⟨tb_1 99 (by rfl), ?_⟩
  refine List.forall_mem_cons.mpr ⟨tb_1 104 (by rfl), ?_⟩
  refine List.forall_mem_cons.mpr ⟨tb_1 108 (by rfl), ?_⟩
  refine List.forall_mem_cons.mpr ⟨tb_2 217 (by rfl), ?_⟩
  refine List.forall_mem_cons.mpr ⟨tb_2 219 (by rfl), ?_⟩
  refine List.forall_mem_cons.mpr ⟨tp_1 (q := (⟨"DownAmongFences$Reader", "tellHeight", "(ILDownAmongFences$Flight;)Z"⟩, 1)) 11 (by rfl), ?_⟩
  refine List.forall_mem_cons.mpr ⟨tb_2 220 (by rfl), ?_⟩
  refine List.forall_mem_cons.mpr ⟨tb_1 91 (by rfl), ?_⟩
  refine List.forall_mem_cons.mpr ⟨tb_2 221 (by rfl), ?_⟩
  refine List.forall_mem_cons.mpr ⟨tb_2 223 (by rfl), ?_⟩
  refine List.forall_mem_cons.mpr ⟨tp_1 (q := (⟨"DownAmongFences$Reader", "tellLag", "(ILDownAmongFences$Flight;)Z"⟩, 1)) 12 (by rfl), ?_⟩
  refine List.forall_mem_cons.mpr ⟨tb_2 224 (by rfl), ?_⟩
  refine List.forall_mem_cons.mpr ⟨tb_1 110 (by rfl), ?_⟩
  refine List.forall_mem_cons.mpr ⟨tb_2 225 (by rfl), ?_⟩
  refine List.forall_mem_cons.mpr ⟨tb_2 226 (by rfl), ?_⟩
  refine List.forall_mem_cons.mpr ⟨tb_2 227 (by rfl), ?_⟩
  refine List.forall_mem_cons.mpr ⟨tb_2 228 (by rfl), ?_⟩
  refine List.forall_mem_cons.mpr ⟨tb_2 229 (by rfl), ?_⟩
  refine List.forall_mem_cons.mpr ⟨tb_2 231 (by rfl), ?_⟩
  refine List.forall_mem_cons.mpr ⟨tp_1 (q := (⟨"DownAmongFences$Reader", "tellActs", "(IILDownAmongFences$World;)Z"⟩, 1)) 13 (by rfl), ?_⟩
  exact fun _ h => absurd h List.not_mem_nil
theorem wg_13 : wsL_law_r13.all goodWord = true := by decide +kernel
def wsL_law_r14 : List Cond := [Cond.code yX5_tellActs cX5_tellActs 7 (some .boolean), Cond.fieldLink RX5 144 "DownAmongFences$Flight" "step" "I", Cond.methodLink RX5 141 yX2_able, Cond.instanceMethod yX2_able, Cond.selects RX2 yX2_able yX2_able, Cond.code yX2_able cX2_able 2 (some .int), Cond.methodLink RX5 147 yX2_fly, Cond.instanceMethod yX2_fly, Cond.selects RX2 yX2_fly yX2_fly, Cond.code yX2_fly cX2_fly 7 none, Cond.methodLink RX2 53 yX2_workOf, Cond.static yX2_workOf, Cond.code yX2_workOf cX2_workOf 1 (some .int), Cond.static yX10_between, Cond.code yX10_between cX10_between 3 (some .int), Cond.methodLink RX2 61 yX2_climb, Cond.instanceMethod yX2_climb, Cond.selects RX2 yX2_climb yX2_climb, Cond.code yX2_climb cX2_climb 1 (some .int), Cond.methodLink RX2 49 yX2_balance, Cond.instanceMethod yX2_balance, Cond.selects RX2 yX2_balance yX2_balance, Cond.code yX2_balance cX2_balance 1 (some .int), Cond.methodLink RX2 64 yX0_sideOf]
theorem wr_14 : ∀ w ∈ wsL_law_r14, w ∈ lw_tbl := by
  unfold wsL_law_r14
  refine List.forall_mem_cons.mpr ⟨tb_2 232 (by rfl), ?_⟩
  refine List.forall_mem_cons.mpr ⟨tb_1 115 (by rfl), ?_⟩
  refine List.forall_mem_cons.mpr ⟨tb_2 233 (by rfl), ?_⟩
  refine List.forall_mem_cons.mpr ⟨tb_2 234 (by rfl), ?_⟩
  refine List.forall_mem_cons.mpr ⟨tb_2 235 (by rfl), ?_⟩
  refine List.forall_mem_cons.mpr ⟨tb_2 236 (by rfl), ?_⟩
  refine List.forall_mem_cons.mpr ⟨tb_2 237 (by rfl), ?_⟩
  refine List.forall_mem_cons.mpr ⟨tb_2 238 (by rfl), ?_⟩
  refine List.forall_mem_cons.mpr ⟨tb_2 239 (by rfl), ?_⟩
  refine List.forall_mem_cons.mpr ⟨tb_3 0 (by rfl), ?_⟩
  refine List.forall_mem_cons.mpr ⟨tb_3 1 (by rfl), ?_⟩
  refine List.forall_mem_cons.mpr ⟨tb_3 2 (by rfl), ?_⟩
  refine List.forall_mem_cons.mpr ⟨tb_3 3 (by rfl), ?_⟩
  refine List.forall_mem_cons.mpr ⟨tb_3 5 (by rfl), ?_⟩
  refine List.forall_mem_cons.mpr ⟨tb_3 6 (by rfl), ?_⟩
  refine List.forall_mem_cons.mpr ⟨tb_3 7 (by rfl), ?_⟩
  refine List.forall_mem_cons.mpr ⟨tb_3 8 (by rfl), ?_⟩
  refine List.forall_mem_cons.mpr ⟨tb_3 9 (by rfl), ?_⟩
  refine List.forall_mem_cons.mpr ⟨tb_3 10 (by rfl), ?_⟩
  refine List.forall_mem_cons.mpr ⟨tb_3 11 (by rfl), ?_⟩
  refine List.forall_mem_cons.mpr ⟨tb_3 12 (by rfl), ?_⟩
  refine List.forall_mem_cons.mpr ⟨tb_3 13 (by rfl), ?_⟩
  refine List.forall_mem_cons.mpr ⟨tb_3 14 (by rfl), ?_⟩
  refine List.forall_mem_cons.mpr ⟨tb_3 15 (by rfl), ?_⟩
  exact fun _ h => absurd h List.not_mem_nil
theorem wg_14 : wsL_law_r14.all goodWord = true := by decide +kernel
def wsL_law_r15 : List Cond := [Cond.instanceMethod yX0_sideOf, Cond.selects RX0 yX0_sideOf yX0_sideOf, Cond.code yX0_sideOf cX0_sideOf 2 (some .int), Cond.methodLink RX2 69 yX0_aheadOf, Cond.instanceMethod yX0_aheadOf, Cond.selects RX0 yX0_aheadOf yX0_aheadOf, Cond.code yX0_aheadOf cX0_aheadOf 2 (some .int), Cond.methodLink RX10 89 yX7_drop, Cond.instanceMethod yX7_drop, Cond.selects RX7 yX7_drop yX7_drop, Cond.code yX7_drop cX7_drop 1 none, Cond.methodLink RX10 92 yX4_forget, Cond.instanceMethod yX4_forget, Cond.selects RX4 yX4_forget yX4_forget, Cond.code yX4_forget cX4_forget 1 none, Cond.fieldLink RX4 30 "DownAmongFences$Past" "length" "I", Cond.methodLink RL 22 yX11_land, Cond.instanceMethod yX11_land, Cond.selects RX11 yX11_land yX11_land, Cond.code yX11_land cX11_land 2 (some .int), Cond.fieldLink RX11 159 "DownAmongFencesModel" "at" "I", Cond.fieldLink RX11 162 "DownAmongFencesModel" "isBad" "Z", Cond.fieldLink RX11 176 "DownAmongFencesModel" "statements" "I", Cond.fieldLink RX11 225 "DownAmongFencesModel" "turnedBack" "I"]
theorem wr_15 : ∀ w ∈ wsL_law_r15, w ∈ lw_tbl := by
  unfold wsL_law_r15
  refine List.forall_mem_cons.mpr ⟨tb_3 16 (by rfl), ?_⟩
  refine List.forall_mem_cons.mpr ⟨tb_3 17 (by rfl), ?_⟩
  refine List.forall_mem_cons.mpr ⟨tb_3 18 (by rfl), ?_⟩
  refine List.forall_mem_cons.mpr ⟨tb_3 19 (by rfl), ?_⟩
  refine List.forall_mem_cons.mpr ⟨tb_3 20 (by rfl), ?_⟩
  refine List.forall_mem_cons.mpr ⟨tb_3 21 (by rfl), ?_⟩
  refine List.forall_mem_cons.mpr ⟨tb_3 22 (by rfl), ?_⟩
  refine List.forall_mem_cons.mpr ⟨tb_3 23 (by rfl), ?_⟩
  refine List.forall_mem_cons.mpr ⟨tb_3 24 (by rfl), ?_⟩
  refine List.forall_mem_cons.mpr ⟨tb_3 25 (by rfl), ?_⟩
  refine List.forall_mem_cons.mpr ⟨tb_3 26 (by rfl), ?_⟩
  refine List.forall_mem_cons.mpr ⟨tb_3 27 (by rfl), ?_⟩
  refine List.forall_mem_cons.mpr ⟨tb_3 28 (by rfl), ?_⟩
  refine List.forall_mem_cons.mpr ⟨tb_3 29 (by rfl), ?_⟩
  refine List.forall_mem_cons.mpr ⟨tb_3 30 (by rfl), ?_⟩
  refine List.forall_mem_cons.mpr ⟨tb_1 174 (by rfl), ?_⟩
  refine List.forall_mem_cons.mpr ⟨tb_6 30 (by rfl), ?_⟩
  refine List.forall_mem_cons.mpr ⟨tb_6 31 (by rfl), ?_⟩
  refine List.forall_mem_cons.mpr ⟨tb_6 32 (by rfl), ?_⟩
  refine List.forall_mem_cons.mpr ⟨tb_6 33 (by rfl), ?_⟩
  refine List.forall_mem_cons.mpr ⟨tb_5 108 (by rfl), ?_⟩
  refine List.forall_mem_cons.mpr ⟨tb_5 109 (by rfl), ?_⟩
  refine List.forall_mem_cons.mpr ⟨tb_5 110 (by rfl), ?_⟩
  refine List.forall_mem_cons.mpr ⟨tb_5 124 (by rfl), ?_⟩
  exact fun _ h => absurd h List.not_mem_nil
theorem wg_15 : wsL_law_r15.all goodWord = true := by decide +kernel
def wsL_law_r16 : List Cond := [Cond.methodLink RX11 215 yX11_readStatement, Cond.instanceMethod yX11_readStatement, Cond.selects RX11 yX11_readStatement yX11_readStatement, Cond.code yX11_readStatement cX11_readStatement 4 none, Cond.methodLink RX11 166 yX11_here, Cond.instanceMethod yX11_here, Cond.selects RX11 yX11_here yX11_here, Cond.code yX11_here cX11_here 1 (some .int), Cond.methodLink RX11 179 yX11_isLetter, Cond.static yX11_isLetter, Cond.code yX11_isLetter cX11_isLetter 1 (some .boolean), Cond.methodLink RX11 173 yX11_readDigits, Cond.instanceMethod yX11_readDigits, Cond.selects RX11 yX11_readDigits yX11_readDigits, Cond.code yX11_readDigits cX11_readDigits 4 (some .int), Cond.constantLong RX11 169 (48), Cond.constantLong RX11 171 (57), Cond.methodLink RX11 107 yX11_in, Cond.static yX11_in, Cond.code yX11_in cX11_in 6 (some .boolean), Cond.methodLink RX11 183 yX11_readSigned, Cond.instanceMethod yX11_readSigned, Cond.selects RX11 yX11_readSigned yX11_readSigned, Cond.code yX11_readSigned cX11_readSigned 3 (some .int)]
theorem wr_16 : ∀ w ∈ wsL_law_r16, w ∈ lw_tbl := by
  unfold wsL_law_r16
  refine List.forall_mem_cons.mpr ⟨tb_6 34 (by rfl), ?_⟩
  refine List.forall_mem_cons.mpr ⟨tb_6 36 (by rfl), ?_⟩
  refine List.forall_mem_cons.mpr ⟨tp_2 (q := (⟨"DownAmongFencesModel", "readStatement", "()V"⟩, 59)) 12 (by rfl), ?_⟩
  refine List.forall_mem_cons.mpr ⟨tb_6 37 (by rfl), ?_⟩
  refine List.forall_mem_cons.mpr ⟨tb_6 38 (by rfl), ?_⟩
  refine List.forall_mem_cons.mpr ⟨tb_6 40 (by rfl), ?_⟩
  refine List.forall_mem_cons.mpr ⟨tp_2 (q := (⟨"DownAmongFencesModel", "here", "()I"⟩, 59)) 13 (by rfl), ?_⟩
  refine List.forall_mem_cons.mpr ⟨tb_6 41 (by rfl), ?_⟩
  refine List.forall_mem_cons.mpr ⟨tb_6 42 (by rfl), ?_⟩
  refine List.forall_mem_cons.mpr ⟨tb_6 43 (by rfl), ?_⟩
  refine List.forall_mem_cons.mpr ⟨tb_6 44 (by rfl), ?_⟩
  refine List.forall_mem_cons.mpr ⟨tb_6 45 (by rfl), ?_⟩
  refine List.forall_mem_cons.mpr ⟨tb_6 47 (by rfl), ?_⟩
  refine List.forall_mem_cons.mpr ⟨tp_2 (q := (⟨"DownAmongFencesModel", "readDigits", "(I)I"⟩, 59)) 14 (by rfl), ?_⟩
  refine List.forall_mem_cons.mpr ⟨tb_6 48 (by rfl), ?_⟩
  refine List.forall_mem_cons.mpr ⟨tb_6 49 (by rfl), ?_⟩
  refine List.forall_mem_cons.mpr ⟨tb_6 50 (by rfl), ?_⟩
  refine List.forall_mem_cons.mpr ⟨tb_6 51 (by rfl), ?_⟩
  refine List.forall_mem_cons.mpr ⟨tb_6 52 (by rfl), ?_⟩
  refine List.forall_mem_cons.mpr ⟨tb_6 53 (by rfl), ?_⟩
  refine List.forall_mem_cons.mpr ⟨tb_6 54 (by rfl), ?_⟩
  refine List.forall_mem_cons.mpr ⟨tb_6 56 (by rfl), ?_⟩
  refine List.forall_mem_cons.mpr ⟨tp_2 (q := (⟨"DownAmongFencesModel", "readSigned", "()I"⟩, 59)) 15 (by rfl), ?_⟩
  refine List.forall_mem_cons.mpr ⟨tb_6 57 (by rfl), ?_⟩
  exact fun _ h => absurd h List.not_mem_nil
theorem wg_16 : wsL_law_r16.all goodWord = true := by decide +kernel
def wsL_law_r17 : List Cond := [Cond.methodLink RX11 186 yX11_readActs, Cond.instanceMethod yX11_readActs, Cond.selects RX11 yX11_readActs yX11_readActs, Cond.code yX11_readActs cX11_readActs 3 none, Cond.methodLink RX11 218 yX11_carryAll, Cond.instanceMethod yX11_carryAll, Cond.selects RX11 yX11_carryAll yX11_carryAll, Cond.code yX11_carryAll cX11_carryAll 4 none, Cond.fieldLink RX11 231 "DownAmongFencesModel" "keptIn" "[I", Cond.fieldLink RX11 228 "DownAmongFencesModel" "isTaking" "Z", Cond.fieldLink RX11 234 "DownAmongFencesModel" "place0" "I", Cond.fieldLink RX11 111 "DownAmongFencesModel" "fields" "I", Cond.fieldLink RX11 243 "DownAmongFencesModel" "car" "I", Cond.methodLink RX11 240 yX11_carryFlight, Cond.instanceMethod yX11_carryFlight, Cond.selects RX11 yX11_carryFlight yX11_carryFlight, Cond.code yX11_carryFlight cX11_carryFlight 2 none, Cond.fieldLink RX11 127 "DownAmongFencesModel" "height" "I", Cond.fieldLink RX11 133 "DownAmongFencesModel" "y" "I", Cond.fieldLink RX11 136 "DownAmongFencesModel" "step" "I", Cond.methodLink RX11 237 yX11_carry, Cond.instanceMethod yX11_carry, Cond.selects RX11 yX11_carry yX11_carry, Cond.code yX11_carry cX11_carry 2 (some .int)]
theorem wr_17 : ∀ w ∈ wsL_law_r17, w ∈ lw_tbl := by
  unfold wsL_law_r17
  refine List.forall_mem_cons.mpr ⟨tb_6 58 (by rfl), ?_⟩
  refine List.forall_mem_cons.mpr ⟨tb_6 60 (by rfl), ?_⟩
  refine List.forall_mem_cons.mpr ⟨tp_3 (q := (⟨"DownAmongFencesModel", "readActs", "(I)V"⟩, 59)) 0 (by rfl), ?_⟩
  refine List.forall_mem_cons.mpr ⟨tb_6 61 (by rfl), ?_⟩
  refine List.forall_mem_cons.mpr ⟨tb_6 62 (by rfl), ?_⟩
  refine List.forall_mem_cons.mpr ⟨tb_6 64 (by rfl), ?_⟩
  refine List.forall_mem_cons.mpr ⟨tp_3 (q := (⟨"DownAmongFencesModel", "carryAll", "([IZ)V"⟩, 59)) 1 (by rfl), ?_⟩
  refine List.forall_mem_cons.mpr ⟨tb_6 65 (by rfl), ?_⟩
  refine List.forall_mem_cons.mpr ⟨tb_5 120 (by rfl), ?_⟩
  refine List.forall_mem_cons.mpr ⟨tb_5 119 (by rfl), ?_⟩
  refine List.forall_mem_cons.mpr ⟨tb_5 118 (by rfl), ?_⟩
  refine List.forall_mem_cons.mpr ⟨tb_5 95 (by rfl), ?_⟩
  refine List.forall_mem_cons.mpr ⟨tb_5 102 (by rfl), ?_⟩
  refine List.forall_mem_cons.mpr ⟨tb_6 66 (by rfl), ?_⟩
  refine List.forall_mem_cons.mpr ⟨tb_6 68 (by rfl), ?_⟩
  refine List.forall_mem_cons.mpr ⟨tp_3 (q := (⟨"DownAmongFencesModel", "carryFlight", "()V"⟩, 59)) 2 (by rfl), ?_⟩
  refine List.forall_mem_cons.mpr ⟨tb_6 69 (by rfl), ?_⟩
  refine List.forall_mem_cons.mpr ⟨tb_5 86 (by rfl), ?_⟩
  refine List.forall_mem_cons.mpr ⟨tb_5 88 (by rfl), ?_⟩
  refine List.forall_mem_cons.mpr ⟨tb_5 93 (by rfl), ?_⟩
  refine List.forall_mem_cons.mpr ⟨tb_6 70 (by rfl), ?_⟩
  refine List.forall_mem_cons.mpr ⟨tb_6 72 (by rfl), ?_⟩
  refine List.forall_mem_cons.mpr ⟨tp_3 (q := (⟨"DownAmongFencesModel", "carry", "(I)I"⟩, 59)) 3 (by rfl), ?_⟩
  refine List.forall_mem_cons.mpr ⟨tb_6 73 (by rfl), ?_⟩
  exact fun _ h => absurd h List.not_mem_nil
theorem wg_17 : wsL_law_r17.all goodWord = true := by decide +kernel
def wsL_law_r18 : List Cond := [Cond.methodLink RX11 222 yX11_comes, Cond.instanceMethod yX11_comes, Cond.selects RX11 yX11_comes yX11_comes, Cond.code yX11_comes cX11_comes 4 (some .boolean), Cond.methodLink RX11 199 yX11_fieldComes, Cond.instanceMethod yX11_fieldComes, Cond.selects RX11 yX11_fieldComes yX11_fieldComes, Cond.code yX11_fieldComes cX11_fieldComes 3 (some .boolean), Cond.constantLong RX11 189 (30), Cond.methodLink RX11 202 yX11_isPlace, Cond.static yX11_isPlace, Cond.code yX11_isPlace cX11_isPlace 1 (some .boolean), Cond.constantLong RX11 114 (7), Cond.methodLink RX11 205 yX11_putRoad, Cond.instanceMethod yX11_putRoad, Cond.selects RX11 yX11_putRoad yX11_putRoad, Cond.code yX11_putRoad cX11_putRoad 4 none, Cond.methodLink RX11 209 yX11_actsCome, Cond.instanceMethod yX11_actsCome, Cond.selects RX11 yX11_actsCome yX11_actsCome, Cond.code yX11_actsCome cX11_actsCome 4 (some .boolean), Cond.methodLink RX11 142 yX11_stepOn, Cond.instanceMethod yX11_stepOn, Cond.selects RX11 yX11_stepOn yX11_stepOn]
theorem wr_18 : ∀ w ∈ wsL_law_r18, w ∈ lw_tbl := by
  unfold wsL_law_r18
  refine List.forall_mem_cons.mpr ⟨tb_6 74 (by rfl), ?_⟩
  refine List.forall_mem_cons.mpr ⟨tb_6 76 (by rfl), ?_⟩
  refine List.forall_mem_cons.mpr ⟨tp_3 (q := (⟨"DownAmongFencesModel", "comes", "(I)Z"⟩, 59)) 4 (by rfl), ?_⟩
  refine List.forall_mem_cons.mpr ⟨tb_6 77 (by rfl), ?_⟩
  refine List.forall_mem_cons.mpr ⟨tb_6 78 (by rfl), ?_⟩
  refine List.forall_mem_cons.mpr ⟨tb_6 80 (by rfl), ?_⟩
  refine List.forall_mem_cons.mpr ⟨tp_3 (q := (⟨"DownAmongFencesModel", "fieldComes", "(I)Z"⟩, 59)) 5 (by rfl), ?_⟩
  refine List.forall_mem_cons.mpr ⟨tb_6 81 (by rfl), ?_⟩
  refine List.forall_mem_cons.mpr ⟨tb_6 82 (by rfl), ?_⟩
  refine List.forall_mem_cons.mpr ⟨tb_6 83 (by rfl), ?_⟩
  refine List.forall_mem_cons.mpr ⟨tb_6 84 (by rfl), ?_⟩
  refine List.forall_mem_cons.mpr ⟨tb_6 85 (by rfl), ?_⟩
  refine List.forall_mem_cons.mpr ⟨tb_6 86 (by rfl), ?_⟩
  refine List.forall_mem_cons.mpr ⟨tb_6 87 (by rfl), ?_⟩
  refine List.forall_mem_cons.mpr ⟨tb_6 89 (by rfl), ?_⟩
  refine List.forall_mem_cons.mpr ⟨tp_3 (q := (⟨"DownAmongFencesModel", "putRoad", "(III)V"⟩, 59)) 6 (by rfl), ?_⟩
  refine List.forall_mem_cons.mpr ⟨tb_6 90 (by rfl), ?_⟩
  refine List.forall_mem_cons.mpr ⟨tb_6 91 (by rfl), ?_⟩
  refine List.forall_mem_cons.mpr ⟨tb_6 93 (by rfl), ?_⟩
  refine List.forall_mem_cons.mpr ⟨tp_3 (q := (⟨"DownAmongFencesModel", "actsCome", "(I)Z"⟩, 59)) 7 (by rfl), ?_⟩
  refine List.forall_mem_cons.mpr ⟨tb_6 94 (by rfl), ?_⟩
  refine List.forall_mem_cons.mpr ⟨tb_6 95 (by rfl), ?_⟩
  refine List.forall_mem_cons.mpr ⟨tb_6 97 (by rfl), ?_⟩
  refine List.forall_mem_cons.mpr ⟨tp_3 (q := (⟨"DownAmongFencesModel", "stepOn", "(I)V"⟩, 59)) 8 (by rfl), ?_⟩
  exact fun _ h => absurd h List.not_mem_nil
theorem wg_18 : wsL_law_r18.all goodWord = true := by decide +kernel
def wsL_law_r19 : List Cond := [Cond.code yX11_stepOn cX11_stepOn 5 none, Cond.fieldLink RX11 130 "DownAmongFencesModel" "pace" "I", Cond.methodLink RX11 120 yX11_held, Cond.static yX11_held, Cond.code yX11_held cX11_held 2 (some .int), Cond.methodLink RX11 124 yX11_risingNow, Cond.instanceMethod yX11_risingNow, Cond.selects RX11 yX11_risingNow yX11_risingNow, Cond.code yX11_risingNow cX11_risingNow 1 (some .int), Cond.methodLink RX11 116 yX11_balance, Cond.instanceMethod yX11_balance, Cond.selects RX11 yX11_balance yX11_balance, Cond.code yX11_balance cX11_balance 1 (some .int), Cond.methodLink RX11 212 yX11_settingsCome, Cond.instanceMethod yX11_settingsCome, Cond.selects RX11 yX11_settingsCome yX11_settingsCome, Cond.code yX11_settingsCome cX11_settingsCome 4 (some .boolean), Cond.constantLong RX11 194 (6), Cond.methodLink RX11 196 yX11_lagBecomes, Cond.instanceMethod yX11_lagBecomes, Cond.selects RX11 yX11_lagBecomes yX11_lagBecomes, Cond.code yX11_lagBecomes cX11_lagBecomes 2 none, Cond.methodLink RX11 191 yX11_forgetWork, Cond.instanceMethod yX11_forgetWork]
theorem wr_19 : ∀ w ∈ wsL_law_r19, w ∈ lw_tbl := by
  unfold wsL_law_r19
  refine List.forall_mem_cons.mpr ⟨tb_6 98 (by rfl), ?_⟩
  refine List.forall_mem_cons.mpr ⟨tb_5 105 (by rfl), ?_⟩
  refine List.forall_mem_cons.mpr ⟨tb_6 99 (by rfl), ?_⟩
  refine List.forall_mem_cons.mpr ⟨tb_6 100 (by rfl), ?_⟩
  refine List.forall_mem_cons.mpr ⟨tb_6 101 (by rfl), ?_⟩
  refine List.forall_mem_cons.mpr ⟨tb_6 102 (by rfl), ?_⟩
  refine List.forall_mem_cons.mpr ⟨tb_6 104 (by rfl), ?_⟩
  refine List.forall_mem_cons.mpr ⟨tp_3 (q := (⟨"DownAmongFencesModel", "risingNow", "()I"⟩, 59)) 9 (by rfl), ?_⟩
  refine List.forall_mem_cons.mpr ⟨tb_6 105 (by rfl), ?_⟩
  refine List.forall_mem_cons.mpr ⟨tb_6 106 (by rfl), ?_⟩
  refine List.forall_mem_cons.mpr ⟨tb_6 108 (by rfl), ?_⟩
  refine List.forall_mem_cons.mpr ⟨tp_3 (q := (⟨"DownAmongFencesModel", "balance", "()I"⟩, 59)) 10 (by rfl), ?_⟩
  refine List.forall_mem_cons.mpr ⟨tb_6 109 (by rfl), ?_⟩
  refine List.forall_mem_cons.mpr ⟨tb_6 110 (by rfl), ?_⟩
  refine List.forall_mem_cons.mpr ⟨tb_6 112 (by rfl), ?_⟩
  refine List.forall_mem_cons.mpr ⟨tp_3 (q := (⟨"DownAmongFencesModel", "settingsCome", "(I)Z"⟩, 59)) 11 (by rfl), ?_⟩
  refine List.forall_mem_cons.mpr ⟨tb_6 113 (by rfl), ?_⟩
  refine List.forall_mem_cons.mpr ⟨tb_6 114 (by rfl), ?_⟩
  refine List.forall_mem_cons.mpr ⟨tb_6 115 (by rfl), ?_⟩
  refine List.forall_mem_cons.mpr ⟨tb_6 117 (by rfl), ?_⟩
  refine List.forall_mem_cons.mpr ⟨tp_3 (q := (⟨"DownAmongFencesModel", "lagBecomes", "(I)V"⟩, 59)) 12 (by rfl), ?_⟩
  refine List.forall_mem_cons.mpr ⟨tb_6 118 (by rfl), ?_⟩
  refine List.forall_mem_cons.mpr ⟨tb_6 119 (by rfl), ?_⟩
  refine List.forall_mem_cons.mpr ⟨tb_6 121 (by rfl), ?_⟩
  exact fun _ h => absurd h List.not_mem_nil
theorem wg_19 : wsL_law_r19.all goodWord = true := by decide +kernel
def wsL_law_r20 : List Cond := [Cond.selects RX11 yX11_forgetWork yX11_forgetWork, Cond.code yX11_forgetWork cX11_forgetWork 2 none, Cond.methodLink RL 23 yX10_layer, Cond.instanceMethod yX10_layer, Cond.selects RX10 yX10_layer yX10_layer, Cond.code yX10_layer cX10_layer 3 (some .int), Cond.constant RX10 99 (1000000000), Cond.fieldLink RX10 100 "DownAmongFences$World" "air" "LDownAmongFences$Air;", Cond.methodLink RX10 95 yX10_isLayer, Cond.methodLink RX10 104 yX0_sideOf, Cond.methodLink RX10 109 yX0_aheadOf, Cond.methodLink RL 27 yX11_layer, Cond.instanceMethod yX11_layer, Cond.selects RX11 yX11_layer yX11_layer, Cond.code yX11_layer cX11_layer 3 (some .int), Cond.constant RX11 249 (1000000000), Cond.methodLink RL 28 yX10_wind, Cond.instanceMethod yX10_wind, Cond.selects RX10 yX10_wind yX10_wind, Cond.code yX10_wind cX10_wind 5 (some .int), Cond.methodLink RX10 112 yX0_blow, Cond.methodLink RL 32 yX11_wind, Cond.instanceMethod yX11_wind, Cond.selects RX11 yX11_wind yX11_wind]
theorem wr_20 : ∀ w ∈ wsL_law_r20, w ∈ lw_tbl := by
  unfold wsL_law_r20
  refine List.forall_mem_cons.mpr ⟨tp_3 (q := (⟨"DownAmongFencesModel", "forgetWork", "()V"⟩, 59)) 13 (by rfl), ?_⟩
  refine List.forall_mem_cons.mpr ⟨tb_6 122 (by rfl), ?_⟩
  refine List.forall_mem_cons.mpr ⟨tb_3 31 (by rfl), ?_⟩
  refine List.forall_mem_cons.mpr ⟨tb_3 32 (by rfl), ?_⟩
  refine List.forall_mem_cons.mpr ⟨tb_3 33 (by rfl), ?_⟩
  refine List.forall_mem_cons.mpr ⟨tb_3 34 (by rfl), ?_⟩
  refine List.forall_mem_cons.mpr ⟨tb_3 36 (by rfl), ?_⟩
  refine List.forall_mem_cons.mpr ⟨tb_1 143 (by rfl), ?_⟩
  refine List.forall_mem_cons.mpr ⟨tb_3 35 (by rfl), ?_⟩
  refine List.forall_mem_cons.mpr ⟨tb_3 37 (by rfl), ?_⟩
  refine List.forall_mem_cons.mpr ⟨tb_3 38 (by rfl), ?_⟩
  refine List.forall_mem_cons.mpr ⟨tb_6 131 (by rfl), ?_⟩
  refine List.forall_mem_cons.mpr ⟨tb_6 132 (by rfl), ?_⟩
  refine List.forall_mem_cons.mpr ⟨tb_6 133 (by rfl), ?_⟩
  refine List.forall_mem_cons.mpr ⟨tb_6 134 (by rfl), ?_⟩
  refine List.forall_mem_cons.mpr ⟨tb_6 135 (by rfl), ?_⟩
  refine List.forall_mem_cons.mpr ⟨tb_3 39 (by rfl), ?_⟩
  refine List.forall_mem_cons.mpr ⟨tb_3 40 (by rfl), ?_⟩
  refine List.forall_mem_cons.mpr ⟨tb_3 41 (by rfl), ?_⟩
  refine List.forall_mem_cons.mpr ⟨tb_3 42 (by rfl), ?_⟩
  refine List.forall_mem_cons.mpr ⟨tb_3 43 (by rfl), ?_⟩
  refine List.forall_mem_cons.mpr ⟨tb_6 136 (by rfl), ?_⟩
  refine List.forall_mem_cons.mpr ⟨tb_6 137 (by rfl), ?_⟩
  refine List.forall_mem_cons.mpr ⟨tb_6 138 (by rfl), ?_⟩
  exact fun _ h => absurd h List.not_mem_nil
theorem wg_20 : wsL_law_r20.all goodWord = true := by decide +kernel
def wsL_law_r21 : List Cond := [Cond.code yX11_wind cX11_wind 6 (some .int), Cond.methodLink RL 33 yX10_field, Cond.instanceMethod yX10_field, Cond.selects RX10 yX10_field yX10_field, Cond.code yX10_field cX10_field 3 (some .int), Cond.fieldLink RX10 119 "DownAmongFences$World" "fields" "LDownAmongFences$Fields;", Cond.methodLink RX10 116 yX10_isField, Cond.instanceMethod yX10_isField, Cond.selects RX10 yX10_isField yX10_isField, Cond.code yX10_isField cX10_isField 2 (some .boolean), Cond.fieldLink RX10 409 "DownAmongFences$Fields" "known" "I", Cond.methodLink RX10 123 yX1_tellOf, Cond.instanceMethod yX1_tellOf, Cond.selects RX1 yX1_tellOf yX1_tellOf, Cond.code yX1_tellOf cX1_tellOf 3 (some .int), Cond.methodLink RL 36 yX11_field, Cond.instanceMethod yX11_field, Cond.selects RX11 yX11_field yX11_field, Cond.code yX11_field cX11_field 3 (some .int), Cond.constantLong RX11 253 (4), Cond.methodLink RX11 250 yX11_isField, Cond.instanceMethod yX11_isField, Cond.selects RX11 yX11_isField yX11_isField, Cond.code yX11_isField cX11_isField 2 (some .boolean)]
theorem wr_21 : ∀ w ∈ wsL_law_r21, w ∈ lw_tbl := by
  unfold wsL_law_r21
  refine List.forall_mem_cons.mpr ⟨tb_6 139 (by rfl), ?_⟩
  refine List.forall_mem_cons.mpr ⟨tb_3 44 (by rfl), ?_⟩
  refine List.forall_mem_cons.mpr ⟨tb_3 45 (by rfl), ?_⟩
  refine List.forall_mem_cons.mpr ⟨tb_3 46 (by rfl), ?_⟩
  refine List.forall_mem_cons.mpr ⟨tb_3 47 (by rfl), ?_⟩
  refine List.forall_mem_cons.mpr ⟨tb_1 147 (by rfl), ?_⟩
  refine List.forall_mem_cons.mpr ⟨tb_3 48 (by rfl), ?_⟩
  refine List.forall_mem_cons.mpr ⟨tb_3 50 (by rfl), ?_⟩
  refine List.forall_mem_cons.mpr ⟨tp_1 (q := (⟨"DownAmongFences", "isField", "(I)Z"⟩, 10)) 14 (by rfl), ?_⟩
  refine List.forall_mem_cons.mpr ⟨tb_3 51 (by rfl), ?_⟩
  refine List.forall_mem_cons.mpr ⟨tb_1 49 (by rfl), ?_⟩
  refine List.forall_mem_cons.mpr ⟨tb_3 52 (by rfl), ?_⟩
  refine List.forall_mem_cons.mpr ⟨tb_3 53 (by rfl), ?_⟩
  refine List.forall_mem_cons.mpr ⟨tb_3 54 (by rfl), ?_⟩
  refine List.forall_mem_cons.mpr ⟨tb_3 55 (by rfl), ?_⟩
  refine List.forall_mem_cons.mpr ⟨tb_6 140 (by rfl), ?_⟩
  refine List.forall_mem_cons.mpr ⟨tb_6 141 (by rfl), ?_⟩
  refine List.forall_mem_cons.mpr ⟨tb_6 142 (by rfl), ?_⟩
  refine List.forall_mem_cons.mpr ⟨tb_6 143 (by rfl), ?_⟩
  refine List.forall_mem_cons.mpr ⟨tb_6 148 (by rfl), ?_⟩
  refine List.forall_mem_cons.mpr ⟨tb_6 144 (by rfl), ?_⟩
  refine List.forall_mem_cons.mpr ⟨tb_6 146 (by rfl), ?_⟩
  refine List.forall_mem_cons.mpr ⟨tp_3 (q := (⟨"DownAmongFencesModel", "isField", "(I)Z"⟩, 59)) 14 (by rfl), ?_⟩
  refine List.forall_mem_cons.mpr ⟨tb_6 147 (by rfl), ?_⟩
  exact fun _ h => absurd h List.not_mem_nil
theorem wg_21 : wsL_law_r21.all goodWord = true := by decide +kernel
def wsL_law_r22 : List Cond := [Cond.methodLink RL 37 yX10_cost, Cond.instanceMethod yX10_cost, Cond.selects RX10 yX10_cost yX10_cost, Cond.code yX10_cost cX10_cost 3 (some .int), Cond.fieldLink RX10 129 "DownAmongFences$World" "flight" "LDownAmongFences$Flight;", Cond.fieldLink RX10 133 "DownAmongFences$Flight" "people" "I", Cond.methodLink RX10 139 yX0_dragOf, Cond.instanceMethod yX0_dragOf, Cond.selects RX0 yX0_dragOf yX0_dragOf, Cond.code yX0_dragOf cX0_dragOf 3 (some .int), Cond.methodLink RX0 22 Lib.Math.abs.name, Cond.static Lib.Math.abs.name, Cond.initialized "java/lang/Math", Cond.code Lib.Math.abs.name Lib.Math.abs.code 1 (some .int), Cond.methodLink RX0 28 Lib.Math.max.name, Cond.static Lib.Math.max.name, Cond.code Lib.Math.max.name Lib.Math.max.code 2 (some .int), Cond.methodLink RX10 142 yX1_costOf, Cond.instanceMethod yX1_costOf, Cond.selects RX1 yX1_costOf yX1_costOf, Cond.code yX1_costOf cX1_costOf 8 (some .int), Cond.methodLink RL 40 yX11_cost, Cond.instanceMethod yX11_cost, Cond.selects RX11 yX11_cost yX11_cost]
theorem wr_22 : ∀ w ∈ wsL_law_r22, w ∈ lw_tbl := by
  unfold wsL_law_r22
  refine List.forall_mem_cons.mpr ⟨tb_3 56 (by rfl), ?_⟩
  refine List.forall_mem_cons.mpr ⟨tb_3 57 (by rfl), ?_⟩
  refine List.forall_mem_cons.mpr ⟨tb_3 58 (by rfl), ?_⟩
  refine List.forall_mem_cons.mpr ⟨tb_3 59 (by rfl), ?_⟩
  refine List.forall_mem_cons.mpr ⟨tb_1 154 (by rfl), ?_⟩
  refine List.forall_mem_cons.mpr ⟨tb_1 107 (by rfl), ?_⟩
  refine List.forall_mem_cons.mpr ⟨tb_3 60 (by rfl), ?_⟩
  refine List.forall_mem_cons.mpr ⟨tb_3 61 (by rfl), ?_⟩
  refine List.forall_mem_cons.mpr ⟨tb_3 62 (by rfl), ?_⟩
  refine List.forall_mem_cons.mpr ⟨tb_3 63 (by rfl), ?_⟩
  refine List.forall_mem_cons.mpr ⟨tb_3 64 (by rfl), ?_⟩
  refine List.forall_mem_cons.mpr ⟨tb_3 65 (by rfl), ?_⟩
  refine List.forall_mem_cons.mpr ⟨tb_1 13 (by rfl), ?_⟩
  refine List.forall_mem_cons.mpr ⟨tb_3 66 (by rfl), ?_⟩
  refine List.forall_mem_cons.mpr ⟨tb_3 67 (by rfl), ?_⟩
  refine List.forall_mem_cons.mpr ⟨tb_3 68 (by rfl), ?_⟩
  refine List.forall_mem_cons.mpr ⟨tb_3 69 (by rfl), ?_⟩
  refine List.forall_mem_cons.mpr ⟨tb_3 70 (by rfl), ?_⟩
  refine List.forall_mem_cons.mpr ⟨tb_3 71 (by rfl), ?_⟩
  refine List.forall_mem_cons.mpr ⟨tb_3 72 (by rfl), ?_⟩
  refine List.forall_mem_cons.mpr ⟨tb_3 73 (by rfl), ?_⟩
  refine List.forall_mem_cons.mpr ⟨tb_6 149 (by rfl), ?_⟩
  refine List.forall_mem_cons.mpr ⟨tb_6 150 (by rfl), ?_⟩
  refine List.forall_mem_cons.mpr ⟨tb_6 151 (by rfl), ?_⟩
  exact fun _ h => absurd h List.not_mem_nil
theorem wg_22 : wsL_law_r22.all goodWord = true := by decide +kernel
def wsL_law_r23 : List Cond := [Cond.code yX11_cost cX11_cost 4 (some .int), Cond.methodLink RX11 255 yX11_wrongNumber, Cond.static yX11_wrongNumber, Cond.code yX11_wrongNumber cX11_wrongNumber 3 (some .int), Cond.methodLink RX11 259 yX11_costOf, Cond.instanceMethod yX11_costOf, Cond.selects RX11 yX11_costOf yX11_costOf, Cond.code yX11_costOf cX11_costOf 6 (some .int), Cond.methodLink RX11 150 yX11_dragOf, Cond.instanceMethod yX11_dragOf, Cond.selects RX11 yX11_dragOf yX11_dragOf, Cond.code yX11_dragOf cX11_dragOf 3 (some .int), Cond.methodLink RX11 146 yX11_plainly, Cond.static yX11_plainly, Cond.code yX11_plainly cX11_plainly 1 (some .int), Cond.methodLink RL 41 yX10_drag, Cond.instanceMethod yX10_drag, Cond.selects RX10 yX10_drag yX10_drag, Cond.code yX10_drag cX10_drag 2 (some .int), Cond.methodLink RL 44 yX11_drag, Cond.instanceMethod yX11_drag, Cond.selects RX11 yX11_drag yX11_drag, Cond.code yX11_drag cX11_drag 2 (some .int), Cond.methodLink RL 45 yX10_set]
theorem wr_23 : ∀ w ∈ wsL_law_r23, w ∈ lw_tbl := by
  unfold wsL_law_r23
  refine List.forall_mem_cons.mpr ⟨tb_6 152 (by rfl), ?_⟩
  refine List.forall_mem_cons.mpr ⟨tb_6 153 (by rfl), ?_⟩
  refine List.forall_mem_cons.mpr ⟨tb_6 154 (by rfl), ?_⟩
  refine List.forall_mem_cons.mpr ⟨tb_6 155 (by rfl), ?_⟩
  refine List.forall_mem_cons.mpr ⟨tb_6 156 (by rfl), ?_⟩
  refine List.forall_mem_cons.mpr ⟨tb_6 158 (by rfl), ?_⟩
  refine List.forall_mem_cons.mpr ⟨tp_3 (q := (⟨"DownAmongFencesModel", "costOf", "(II)I"⟩, 59)) 15 (by rfl), ?_⟩
  refine List.forall_mem_cons.mpr ⟨tb_6 159 (by rfl), ?_⟩
  refine List.forall_mem_cons.mpr ⟨tb_6 160 (by rfl), ?_⟩
  refine List.forall_mem_cons.mpr ⟨tb_6 162 (by rfl), ?_⟩
  refine List.forall_mem_cons.mpr ⟨tp_4 (q := (⟨"DownAmongFencesModel", "dragOf", "(I)I"⟩, 59)) 0 (by rfl), ?_⟩
  refine List.forall_mem_cons.mpr ⟨tb_6 163 (by rfl), ?_⟩
  refine List.forall_mem_cons.mpr ⟨tb_6 164 (by rfl), ?_⟩
  refine List.forall_mem_cons.mpr ⟨tb_6 165 (by rfl), ?_⟩
  refine List.forall_mem_cons.mpr ⟨tb_6 166 (by rfl), ?_⟩
  refine List.forall_mem_cons.mpr ⟨tb_3 74 (by rfl), ?_⟩
  refine List.forall_mem_cons.mpr ⟨tb_3 75 (by rfl), ?_⟩
  refine List.forall_mem_cons.mpr ⟨tb_3 76 (by rfl), ?_⟩
  refine List.forall_mem_cons.mpr ⟨tb_3 77 (by rfl), ?_⟩
  refine List.forall_mem_cons.mpr ⟨tb_6 167 (by rfl), ?_⟩
  refine List.forall_mem_cons.mpr ⟨tb_6 168 (by rfl), ?_⟩
  refine List.forall_mem_cons.mpr ⟨tb_6 169 (by rfl), ?_⟩
  refine List.forall_mem_cons.mpr ⟨tb_6 170 (by rfl), ?_⟩
  refine List.forall_mem_cons.mpr ⟨tb_3 78 (by rfl), ?_⟩
  exact fun _ h => absurd h List.not_mem_nil
theorem wg_23 : wsL_law_r23.all goodWord = true := by decide +kernel
def wsL_law_r24 : List Cond := [Cond.instanceMethod yX10_set, Cond.selects RX10 yX10_set yX10_set, Cond.code yX10_set cX10_set 4 (some .int), Cond.methodLink RX10 146 yX2_leastOf, Cond.static yX2_leastOf, Cond.code yX2_leastOf cX2_leastOf 1 (some .int), Cond.methodLink RX10 149 yX2_mostOf, Cond.static yX2_mostOf, Cond.code yX2_mostOf cX2_mostOf 1 (some .int), Cond.methodLink RX10 152 yX2_valueOf, Cond.instanceMethod yX2_valueOf, Cond.selects RX2 yX2_valueOf yX2_valueOf, Cond.code yX2_valueOf cX2_valueOf 2 (some .int), Cond.methodLink RX10 155 yX2_change, Cond.instanceMethod yX2_change, Cond.selects RX2 yX2_change yX2_change, Cond.code yX2_change cX2_change 3 none, Cond.methodLink RX2 42 yX2_changeLag, Cond.instanceMethod yX2_changeLag, Cond.selects RX2 yX2_changeLag yX2_changeLag, Cond.code yX2_changeLag cX2_changeLag 2 none, Cond.methodLink RX2 46 yX2_loseWork, Cond.methodLink RL 48 yX11_set, Cond.instanceMethod yX11_set]
theorem wr_24 : ∀ w ∈ wsL_law_r24, w ∈ lw_tbl := by
  unfold wsL_law_r24
  refine List.forall_mem_cons.mpr ⟨tb_3 79 (by rfl), ?_⟩
  refine List.forall_mem_cons.mpr ⟨tb_3 80 (by rfl), ?_⟩
  refine List.forall_mem_cons.mpr ⟨tb_3 81 (by rfl), ?_⟩
  refine List.forall_mem_cons.mpr ⟨tb_3 82 (by rfl), ?_⟩
  refine List.forall_mem_cons.mpr ⟨tb_3 83 (by rfl), ?_⟩
  refine List.forall_mem_cons.mpr ⟨tb_3 84 (by rfl), ?_⟩
  refine List.forall_mem_cons.mpr ⟨tb_3 85 (by rfl), ?_⟩
  refine List.forall_mem_cons.mpr ⟨tb_3 86 (by rfl), ?_⟩
  refine List.forall_mem_cons.mpr ⟨tb_3 87 (by rfl), ?_⟩
  refine List.forall_mem_cons.mpr ⟨tb_3 88 (by rfl), ?_⟩
  refine List.forall_mem_cons.mpr ⟨tb_3 89 (by rfl), ?_⟩
  refine List.forall_mem_cons.mpr ⟨tb_3 90 (by rfl), ?_⟩
  refine List.forall_mem_cons.mpr ⟨tb_3 91 (by rfl), ?_⟩
  refine List.forall_mem_cons.mpr ⟨tb_3 92 (by rfl), ?_⟩
  refine List.forall_mem_cons.mpr ⟨tb_3 93 (by rfl), ?_⟩
  refine List.forall_mem_cons.mpr ⟨tb_3 94 (by rfl), ?_⟩
  refine List.forall_mem_cons.mpr ⟨tb_3 95 (by rfl), ?_⟩
  refine List.forall_mem_cons.mpr ⟨tb_3 96 (by rfl), ?_⟩
  refine List.forall_mem_cons.mpr ⟨tb_3 97 (by rfl), ?_⟩
  refine List.forall_mem_cons.mpr ⟨tb_3 98 (by rfl), ?_⟩
  refine List.forall_mem_cons.mpr ⟨tb_3 99 (by rfl), ?_⟩
  refine List.forall_mem_cons.mpr ⟨tb_3 100 (by rfl), ?_⟩
  refine List.forall_mem_cons.mpr ⟨tb_6 171 (by rfl), ?_⟩
  refine List.forall_mem_cons.mpr ⟨tb_6 172 (by rfl), ?_⟩
  exact fun _ h => absurd h List.not_mem_nil
theorem wg_24 : wsL_law_r24.all goodWord = true := by decide +kernel
def wsL_law_r25 : List Cond := [Cond.selects RX11 yX11_set yX11_set, Cond.code yX11_set cX11_set 6 (some .int), Cond.methodLink RX11 262 yX11_settingOf, Cond.instanceMethod yX11_settingOf, Cond.selects RX11 yX11_settingOf yX11_settingOf, Cond.code yX11_settingOf cX11_settingOf 2 (some .int), Cond.methodLink RL 49 yX10_rising, Cond.instanceMethod yX10_rising, Cond.selects RX10 yX10_rising yX10_rising, Cond.code yX10_rising cX10_rising 1 (some .int), Cond.methodLink RX10 159 yX2_climb, Cond.methodLink RL 52 yX11_rising, Cond.instanceMethod yX11_rising, Cond.selects RX11 yX11_rising yX11_rising, Cond.code yX11_rising cX11_rising 1 (some .int), Cond.methodLink RL 53 yX10_go, Cond.instanceMethod yX10_go, Cond.selects RX10 yX10_go yX10_go, Cond.code yX10_go cX10_go 2 (some .int), Cond.fieldLink RX10 162 "DownAmongFences$Flight" "gas" "I", Cond.fieldLink RX10 165 "DownAmongFences$Flight" "step" "I", Cond.fieldLink RX10 175 "DownAmongFences$Flight" "height" "I", Cond.methodLink RX10 168 yX4_add, Cond.instanceMethod yX4_add]
theorem wr_25 : ∀ w ∈ wsL_law_r25, w ∈ lw_tbl := by
  unfold wsL_law_r25
  refine List.forall_mem_cons.mpr ⟨tb_6 173 (by rfl), ?_⟩
  refine List.forall_mem_cons.mpr ⟨tb_6 174 (by rfl), ?_⟩
  refine List.forall_mem_cons.mpr ⟨tb_6 175 (by rfl), ?_⟩
  refine List.forall_mem_cons.mpr ⟨tb_6 177 (by rfl), ?_⟩
  refine List.forall_mem_cons.mpr ⟨tp_4 (q := (⟨"DownAmongFencesModel", "settingOf", "(I)I"⟩, 59)) 1 (by rfl), ?_⟩
  refine List.forall_mem_cons.mpr ⟨tb_6 178 (by rfl), ?_⟩
  refine List.forall_mem_cons.mpr ⟨tb_3 101 (by rfl), ?_⟩
  refine List.forall_mem_cons.mpr ⟨tb_3 102 (by rfl), ?_⟩
  refine List.forall_mem_cons.mpr ⟨tb_3 103 (by rfl), ?_⟩
  refine List.forall_mem_cons.mpr ⟨tb_3 104 (by rfl), ?_⟩
  refine List.forall_mem_cons.mpr ⟨tb_3 105 (by rfl), ?_⟩
  refine List.forall_mem_cons.mpr ⟨tb_6 179 (by rfl), ?_⟩
  refine List.forall_mem_cons.mpr ⟨tb_6 180 (by rfl), ?_⟩
  refine List.forall_mem_cons.mpr ⟨tb_6 181 (by rfl), ?_⟩
  refine List.forall_mem_cons.mpr ⟨tb_6 182 (by rfl), ?_⟩
  refine List.forall_mem_cons.mpr ⟨tb_3 106 (by rfl), ?_⟩
  refine List.forall_mem_cons.mpr ⟨tb_3 107 (by rfl), ?_⟩
  refine List.forall_mem_cons.mpr ⟨tb_3 108 (by rfl), ?_⟩
  refine List.forall_mem_cons.mpr ⟨tb_3 109 (by rfl), ?_⟩
  refine List.forall_mem_cons.mpr ⟨tb_1 103 (by rfl), ?_⟩
  refine List.forall_mem_cons.mpr ⟨tb_1 114 (by rfl), ?_⟩
  refine List.forall_mem_cons.mpr ⟨tb_1 90 (by rfl), ?_⟩
  refine List.forall_mem_cons.mpr ⟨tb_3 110 (by rfl), ?_⟩
  refine List.forall_mem_cons.mpr ⟨tb_3 111 (by rfl), ?_⟩
  exact fun _ h => absurd h List.not_mem_nil
theorem wg_25 : wsL_law_r25.all goodWord = true := by decide +kernel
def wsL_law_r26 : List Cond := [Cond.selects RX4 yX4_add yX4_add, Cond.code yX4_add cX4_add 3 none, Cond.fieldLink RX4 18 "DownAmongFences$Past" "latest" "I", Cond.methodLink RX4 33 Lib.Math.min.name, Cond.static Lib.Math.min.name, Cond.code Lib.Math.min.name Lib.Math.min.code 2 (some .int), Cond.methodLink RX4 22 yX4_slotOfLatest, Cond.instanceMethod yX4_slotOfLatest, Cond.selects RX4 yX4_slotOfLatest yX4_slotOfLatest, Cond.code yX4_slotOfLatest cX4_slotOfLatest 1 (some (.object "DownAmongFences$Flight")), Cond.methodLink RX4 26 yX2_copyFrom, Cond.methodLink RX10 171 yX2_fly, Cond.methodLink RL 56 yX11_go, Cond.instanceMethod yX11_go, Cond.selects RX11 yX11_go yX11_go, Cond.code yX11_go cX11_go 3 (some .int), Cond.constantLong RX11 265 (2), Cond.methodLink RX11 267 yX11_keepTurn, Cond.instanceMethod yX11_keepTurn, Cond.selects RX11 yX11_keepTurn yX11_keepTurn, Cond.code yX11_keepTurn cX11_keepTurn 2 none, Cond.methodLink RL 57 yX10_back, Cond.instanceMethod yX10_back, Cond.selects RX10 yX10_back yX10_back]
theorem wr_26 : ∀ w ∈ wsL_law_r26, w ∈ lw_tbl := by
  unfold wsL_law_r26
  refine List.forall_mem_cons.mpr ⟨tb_3 112 (by rfl), ?_⟩
  refine List.forall_mem_cons.mpr ⟨tb_3 113 (by rfl), ?_⟩
  refine List.forall_mem_cons.mpr ⟨tb_1 176 (by rfl), ?_⟩
  refine List.forall_mem_cons.mpr ⟨tb_3 119 (by rfl), ?_⟩
  refine List.forall_mem_cons.mpr ⟨tb_3 120 (by rfl), ?_⟩
  refine List.forall_mem_cons.mpr ⟨tb_3 121 (by rfl), ?_⟩
  refine List.forall_mem_cons.mpr ⟨tb_3 114 (by rfl), ?_⟩
  refine List.forall_mem_cons.mpr ⟨tb_3 116 (by rfl), ?_⟩
  refine List.forall_mem_cons.mpr ⟨tp_1 (q := (⟨"DownAmongFences$Past", "slotOfLatest", "()LDownAmongFences$Flight;"⟩, 3)) 15 (by rfl), ?_⟩
  refine List.forall_mem_cons.mpr ⟨tb_3 117 (by rfl), ?_⟩
  refine List.forall_mem_cons.mpr ⟨tb_3 118 (by rfl), ?_⟩
  refine List.forall_mem_cons.mpr ⟨tb_3 122 (by rfl), ?_⟩
  refine List.forall_mem_cons.mpr ⟨tb_6 183 (by rfl), ?_⟩
  refine List.forall_mem_cons.mpr ⟨tb_6 184 (by rfl), ?_⟩
  refine List.forall_mem_cons.mpr ⟨tb_6 185 (by rfl), ?_⟩
  refine List.forall_mem_cons.mpr ⟨tb_6 186 (by rfl), ?_⟩
  refine List.forall_mem_cons.mpr ⟨tb_6 187 (by rfl), ?_⟩
  refine List.forall_mem_cons.mpr ⟨tb_6 188 (by rfl), ?_⟩
  refine List.forall_mem_cons.mpr ⟨tb_6 190 (by rfl), ?_⟩
  refine List.forall_mem_cons.mpr ⟨tp_4 (q := (⟨"DownAmongFencesModel", "keepTurn", "()V"⟩, 59)) 2 (by rfl), ?_⟩
  refine List.forall_mem_cons.mpr ⟨tb_6 191 (by rfl), ?_⟩
  refine List.forall_mem_cons.mpr ⟨tb_3 123 (by rfl), ?_⟩
  refine List.forall_mem_cons.mpr ⟨tb_3 124 (by rfl), ?_⟩
  refine List.forall_mem_cons.mpr ⟨tb_3 125 (by rfl), ?_⟩
  exact fun _ h => absurd h List.not_mem_nil
theorem wg_26 : wsL_law_r26.all goodWord = true := by decide +kernel
def wsL_law_r27 : List Cond := [Cond.code yX10_back cX10_back 1 (some .int), Cond.fieldLink RX10 178 "DownAmongFences$Past" "length" "I", Cond.methodLink RX10 181 yX4_takeBack, Cond.instanceMethod yX4_takeBack, Cond.selects RX4 yX4_takeBack yX4_takeBack, Cond.code yX4_takeBack cX4_takeBack 3 none, Cond.methodLink RX4 39 Lib.Math.max.name, Cond.methodLink RL 60 yX11_back, Cond.instanceMethod yX11_back, Cond.selects RX11 yX11_back yX11_back, Cond.code yX11_back cX11_back 2 (some .int), Cond.methodLink RL 61 yX10_plan, Cond.instanceMethod yX10_plan, Cond.selects RX10 yX10_plan yX10_plan, Cond.code yX10_plan cX10_plan 5 (some .int), Cond.fieldLink RX10 195 "DownAmongFences$Mind" "flown" "LDownAmongFences$Flight;", Cond.fieldLink RX10 198 "DownAmongFences$Flight" "x" "I", Cond.fieldLink RX10 201 "DownAmongFences$Flight" "y" "I", Cond.fieldLink RX10 204 "DownAmongFences$Flight" "pace" "I", Cond.methodLink RX10 184 yX10_planRefusal, Cond.static yX10_planRefusal, Cond.code yX10_planRefusal cX10_planRefusal 4 (some .int), Cond.methodLink RX10 188 yX3_begin, Cond.instanceMethod yX3_begin]
theorem wr_27 : ∀ w ∈ wsL_law_r27, w ∈ lw_tbl := by
  unfold wsL_law_r27
  refine List.forall_mem_cons.mpr ⟨tb_3 126 (by rfl), ?_⟩
  refine List.forall_mem_cons.mpr ⟨tb_1 175 (by rfl), ?_⟩
  refine List.forall_mem_cons.mpr ⟨tb_3 127 (by rfl), ?_⟩
  refine List.forall_mem_cons.mpr ⟨tb_3 128 (by rfl), ?_⟩
  refine List.forall_mem_cons.mpr ⟨tb_3 129 (by rfl), ?_⟩
  refine List.forall_mem_cons.mpr ⟨tb_3 130 (by rfl), ?_⟩
  refine List.forall_mem_cons.mpr ⟨tb_3 131 (by rfl), ?_⟩
  refine List.forall_mem_cons.mpr ⟨tb_6 192 (by rfl), ?_⟩
  refine List.forall_mem_cons.mpr ⟨tb_6 193 (by rfl), ?_⟩
  refine List.forall_mem_cons.mpr ⟨tb_6 194 (by rfl), ?_⟩
  refine List.forall_mem_cons.mpr ⟨tb_6 195 (by rfl), ?_⟩
  refine List.forall_mem_cons.mpr ⟨tb_3 132 (by rfl), ?_⟩
  refine List.forall_mem_cons.mpr ⟨tb_3 133 (by rfl), ?_⟩
  refine List.forall_mem_cons.mpr ⟨tb_3 134 (by rfl), ?_⟩
  refine List.forall_mem_cons.mpr ⟨tb_3 135 (by rfl), ?_⟩
  refine List.forall_mem_cons.mpr ⟨tb_1 233 (by rfl), ?_⟩
  refine List.forall_mem_cons.mpr ⟨tb_1 94 (by rfl), ?_⟩
  refine List.forall_mem_cons.mpr ⟨tb_1 97 (by rfl), ?_⟩
  refine List.forall_mem_cons.mpr ⟨tb_1 118 (by rfl), ?_⟩
  refine List.forall_mem_cons.mpr ⟨tb_3 136 (by rfl), ?_⟩
  refine List.forall_mem_cons.mpr ⟨tb_3 137 (by rfl), ?_⟩
  refine List.forall_mem_cons.mpr ⟨tb_3 138 (by rfl), ?_⟩
  refine List.forall_mem_cons.mpr ⟨tb_3 139 (by rfl), ?_⟩
  refine List.forall_mem_cons.mpr ⟨tb_3 140 (by rfl), ?_⟩
  exact fun _ h => absurd h List.not_mem_nil
theorem wg_27 : wsL_law_r27.all goodWord = true := by decide +kernel
def wsL_law_r28 : List Cond := [Cond.selects RX3 yX3_begin yX3_begin, Cond.code yX3_begin cX3_begin 2 none, Cond.fieldLink RX3 42 "DownAmongFences$World" "air" "LDownAmongFences$Air;", Cond.fieldLink RX3 49 "DownAmongFences$World" "fields" "LDownAmongFences$Fields;", Cond.fieldLink RX3 53 "DownAmongFences$World" "flight" "LDownAmongFences$Flight;", Cond.methodLink RX3 45 yX0_copyFrom, Cond.methodLink RX3 50 yX1_copyFrom, Cond.methodLink RX3 56 yX2_copyFrom, Cond.methodLink RX3 59 yX3_rewind, Cond.instanceMethod yX3_rewind, Cond.selects RX3 yX3_rewind yX3_rewind, Cond.code yX3_rewind cX3_rewind 1 none, Cond.fieldLink RX3 62 "DownAmongFences$Flight" "pace" "I", Cond.fieldLink RX3 66 "DownAmongFences$Mind" "heldFor" "I", Cond.methodLink RX10 191 yX3_follow, Cond.instanceMethod yX3_follow, Cond.selects RX3 yX3_follow yX3_follow, Cond.code yX3_follow cX3_follow 4 (some .boolean), Cond.fieldLink RX3 79 "DownAmongFences$Flight" "height" "I", Cond.methodLink RX3 98 yX3_holdTo, Cond.instanceMethod yX3_holdTo, Cond.selects RX3 yX3_holdTo yX3_holdTo, Cond.code yX3_holdTo cX3_holdTo 2 none, Cond.methodLink RX3 90 yX2_holdAct]
theorem wr_28 : ∀ w ∈ wsL_law_r28, w ∈ lw_tbl := by
  unfold wsL_law_r28
  refine List.forall_mem_cons.mpr ⟨tb_3 141 (by rfl), ?_⟩
  refine List.forall_mem_cons.mpr ⟨tb_3 142 (by rfl), ?_⟩
  refine List.forall_mem_cons.mpr ⟨tb_1 142 (by rfl), ?_⟩
  refine List.forall_mem_cons.mpr ⟨tb_1 146 (by rfl), ?_⟩
  refine List.forall_mem_cons.mpr ⟨tb_1 153 (by rfl), ?_⟩
  refine List.forall_mem_cons.mpr ⟨tb_3 143 (by rfl), ?_⟩
  refine List.forall_mem_cons.mpr ⟨tb_3 144 (by rfl), ?_⟩
  refine List.forall_mem_cons.mpr ⟨tb_3 145 (by rfl), ?_⟩
  refine List.forall_mem_cons.mpr ⟨tb_3 146 (by rfl), ?_⟩
  refine List.forall_mem_cons.mpr ⟨tb_3 148 (by rfl), ?_⟩
  refine List.forall_mem_cons.mpr ⟨tp_2 (q := (⟨"DownAmongFences$Mind", "rewind", "()V"⟩, 18)) 0 (by rfl), ?_⟩
  refine List.forall_mem_cons.mpr ⟨tb_3 149 (by rfl), ?_⟩
  refine List.forall_mem_cons.mpr ⟨tb_1 117 (by rfl), ?_⟩
  refine List.forall_mem_cons.mpr ⟨tb_1 231 (by rfl), ?_⟩
  refine List.forall_mem_cons.mpr ⟨tb_3 150 (by rfl), ?_⟩
  refine List.forall_mem_cons.mpr ⟨tb_3 151 (by rfl), ?_⟩
  refine List.forall_mem_cons.mpr ⟨tb_3 152 (by rfl), ?_⟩
  refine List.forall_mem_cons.mpr ⟨tb_3 153 (by rfl), ?_⟩
  refine List.forall_mem_cons.mpr ⟨tb_1 89 (by rfl), ?_⟩
  refine List.forall_mem_cons.mpr ⟨tb_3 154 (by rfl), ?_⟩
  refine List.forall_mem_cons.mpr ⟨tb_3 156 (by rfl), ?_⟩
  refine List.forall_mem_cons.mpr ⟨tp_2 (q := (⟨"DownAmongFences$Mind", "holdTo", "(I)V"⟩, 18)) 1 (by rfl), ?_⟩
  refine List.forall_mem_cons.mpr ⟨tb_3 157 (by rfl), ?_⟩
  refine List.forall_mem_cons.mpr ⟨tb_3 158 (by rfl), ?_⟩
  exact fun _ h => absurd h List.not_mem_nil
theorem wg_28 : wsL_law_r28.all goodWord = true := by decide +kernel
def wsL_law_r29 : List Cond := [Cond.instanceMethod yX2_holdAct, Cond.selects RX2 yX2_holdAct yX2_holdAct, Cond.code yX2_holdAct cX2_holdAct 3 (some .int), Cond.methodLink RX2 72 yX2_able, Cond.methodLink RX3 94 yX2_fly, Cond.methodLink RX10 207 yX3_stepsFlown, Cond.instanceMethod yX3_stepsFlown, Cond.selects RX3 yX3_stepsFlown yX3_stepsFlown, Cond.code yX3_stepsFlown cX3_stepsFlown 1 (some .int), Cond.fieldLink RX3 101 "DownAmongFences$Flight" "step" "I", Cond.methodLink RX10 210 yX3_fieldThere, Cond.instanceMethod yX3_fieldThere, Cond.selects RX3 yX3_fieldThere yX3_fieldThere, Cond.code yX3_fieldThere cX3_fieldThere 1 (some .int), Cond.fieldLink RX3 104 "DownAmongFences$Flight" "x" "I", Cond.fieldLink RX3 107 "DownAmongFences$Flight" "y" "I", Cond.methodLink RX3 110 yX1_fieldAt, Cond.instanceMethod yX1_fieldAt, Cond.selects RX1 yX1_fieldAt yX1_fieldAt, Cond.code yX1_fieldAt cX1_fieldAt 4 (some .int), Cond.methodLink RX10 213 yX3_costThere, Cond.instanceMethod yX3_costThere, Cond.selects RX3 yX3_costThere yX3_costThere, Cond.code yX3_costThere cX3_costThere 1 (some .int)]
theorem wr_29 : ∀ w ∈ wsL_law_r29, w ∈ lw_tbl := by
  unfold wsL_law_r29
  refine List.forall_mem_cons.mpr ⟨tb_3 159 (by rfl), ?_⟩
  refine List.forall_mem_cons.mpr ⟨tb_3 160 (by rfl), ?_⟩
  refine List.forall_mem_cons.mpr ⟨tb_3 161 (by rfl), ?_⟩
  refine List.forall_mem_cons.mpr ⟨tb_3 162 (by rfl), ?_⟩
  refine List.forall_mem_cons.mpr ⟨tb_3 163 (by rfl), ?_⟩
  refine List.forall_mem_cons.mpr ⟨tb_3 164 (by rfl), ?_⟩
  refine List.forall_mem_cons.mpr ⟨tb_3 165 (by rfl), ?_⟩
  refine List.forall_mem_cons.mpr ⟨tb_3 166 (by rfl), ?_⟩
  refine List.forall_mem_cons.mpr ⟨tb_3 167 (by rfl), ?_⟩
  refine List.forall_mem_cons.mpr ⟨tb_1 113 (by rfl), ?_⟩
  refine List.forall_mem_cons.mpr ⟨tb_3 168 (by rfl), ?_⟩
  refine List.forall_mem_cons.mpr ⟨tb_3 169 (by rfl), ?_⟩
  refine List.forall_mem_cons.mpr ⟨tb_3 170 (by rfl), ?_⟩
  refine List.forall_mem_cons.mpr ⟨tb_3 171 (by rfl), ?_⟩
  refine List.forall_mem_cons.mpr ⟨tb_1 93 (by rfl), ?_⟩
  refine List.forall_mem_cons.mpr ⟨tb_1 96 (by rfl), ?_⟩
  refine List.forall_mem_cons.mpr ⟨tb_3 172 (by rfl), ?_⟩
  refine List.forall_mem_cons.mpr ⟨tb_3 173 (by rfl), ?_⟩
  refine List.forall_mem_cons.mpr ⟨tb_3 174 (by rfl), ?_⟩
  refine List.forall_mem_cons.mpr ⟨tb_3 175 (by rfl), ?_⟩
  refine List.forall_mem_cons.mpr ⟨tb_3 176 (by rfl), ?_⟩
  refine List.forall_mem_cons.mpr ⟨tb_3 177 (by rfl), ?_⟩
  refine List.forall_mem_cons.mpr ⟨tb_3 178 (by rfl), ?_⟩
  refine List.forall_mem_cons.mpr ⟨tb_3 179 (by rfl), ?_⟩
  exact fun _ h => absurd h List.not_mem_nil
theorem wg_29 : wsL_law_r29.all goodWord = true := by decide +kernel
def wsL_law_r30 : List Cond := [Cond.fieldLink RX3 69 "DownAmongFences$Flight" "people" "I", Cond.methodLink RX3 114 yX3_fieldThere, Cond.methodLink RX3 117 yX0_dragOf, Cond.methodLink RX3 120 yX1_costOf, Cond.methodLink RL 64 yX11_plan, Cond.instanceMethod yX11_plan, Cond.selects RX11 yX11_plan yX11_plan, Cond.code yX11_plan cX11_plan 6 (some .int), Cond.methodLink RX11 288 yX11_wrongBit, Cond.static yX11_wrongBit, Cond.code yX11_wrongBit cX11_wrongBit 3 (some .int), Cond.methodLink RX11 291 yX11_open, Cond.instanceMethod yX11_open, Cond.selects RX11 yX11_open yX11_open, Cond.code yX11_open cX11_open 1 none, Cond.methodLink RX11 294 yX11_planOn, Cond.instanceMethod yX11_planOn, Cond.selects RX11 yX11_planOn yX11_planOn, Cond.code yX11_planOn cX11_planOn 4 none, Cond.fieldLink RX11 273 "DownAmongFencesModel" "downPace" "I", Cond.fieldLink RX11 279 "DownAmongFencesModel" "comesDown" "Z", Cond.fieldLink RX11 282 "DownAmongFencesModel" "downSteps" "I", Cond.methodLink RX11 270 yX11_again, Cond.instanceMethod yX11_again]
theorem wr_30 : ∀ w ∈ wsL_law_r30, w ∈ lw_tbl := by
  unfold wsL_law_r30
  refine List.forall_mem_cons.mpr ⟨tb_1 106 (by rfl), ?_⟩
  refine List.forall_mem_cons.mpr ⟨tb_3 180 (by rfl), ?_⟩
  refine List.forall_mem_cons.mpr ⟨tb_3 181 (by rfl), ?_⟩
  refine List.forall_mem_cons.mpr ⟨tb_3 182 (by rfl), ?_⟩
  refine List.forall_mem_cons.mpr ⟨tb_6 196 (by rfl), ?_⟩
  refine List.forall_mem_cons.mpr ⟨tb_6 197 (by rfl), ?_⟩
  refine List.forall_mem_cons.mpr ⟨tb_6 198 (by rfl), ?_⟩
  refine List.forall_mem_cons.mpr ⟨tb_6 199 (by rfl), ?_⟩
  refine List.forall_mem_cons.mpr ⟨tb_6 200 (by rfl), ?_⟩
  refine List.forall_mem_cons.mpr ⟨tb_6 201 (by rfl), ?_⟩
  refine List.forall_mem_cons.mpr ⟨tb_6 202 (by rfl), ?_⟩
  refine List.forall_mem_cons.mpr ⟨tb_6 203 (by rfl), ?_⟩
  refine List.forall_mem_cons.mpr ⟨tb_6 205 (by rfl), ?_⟩
  refine List.forall_mem_cons.mpr ⟨tp_4 (q := (⟨"DownAmongFencesModel", "open", "()V"⟩, 59)) 3 (by rfl), ?_⟩
  refine List.forall_mem_cons.mpr ⟨tb_6 206 (by rfl), ?_⟩
  refine List.forall_mem_cons.mpr ⟨tb_6 207 (by rfl), ?_⟩
  refine List.forall_mem_cons.mpr ⟨tb_6 209 (by rfl), ?_⟩
  refine List.forall_mem_cons.mpr ⟨tp_4 (q := (⟨"DownAmongFencesModel", "planOn", "(II)V"⟩, 59)) 4 (by rfl), ?_⟩
  refine List.forall_mem_cons.mpr ⟨tb_6 210 (by rfl), ?_⟩
  refine List.forall_mem_cons.mpr ⟨tb_5 126 (by rfl), ?_⟩
  refine List.forall_mem_cons.mpr ⟨tb_5 125 (by rfl), ?_⟩
  refine List.forall_mem_cons.mpr ⟨tb_5 127 (by rfl), ?_⟩
  refine List.forall_mem_cons.mpr ⟨tb_6 211 (by rfl), ?_⟩
  refine List.forall_mem_cons.mpr ⟨tb_6 213 (by rfl), ?_⟩
  exact fun _ h => absurd h List.not_mem_nil
theorem wg_30 : wsL_law_r30.all goodWord = true := by decide +kernel
def wsL_law_r31 : List Cond := [Cond.selects RX11 yX11_again yX11_again, Cond.code yX11_again cX11_again 1 none, Cond.methodLink RX11 276 yX11_holdOn, Cond.instanceMethod yX11_holdOn, Cond.selects RX11 yX11_holdOn yX11_holdOn, Cond.code yX11_holdOn cX11_holdOn 1 none, Cond.methodLink RX11 139 yX11_workUnderWay, Cond.instanceMethod yX11_workUnderWay, Cond.selects RX11 yX11_workUnderWay yX11_workUnderWay, Cond.code yX11_workUnderWay cX11_workUnderWay 3 (some .int), Cond.methodLink RX11 298 yX11_planTold, Cond.instanceMethod yX11_planTold, Cond.selects RX11 yX11_planTold yX11_planTold, Cond.code yX11_planTold cX11_planTold 2 (some .int), Cond.methodLink RX11 285 yX11_fieldAt, Cond.instanceMethod yX11_fieldAt, Cond.selects RX11 yX11_fieldAt yX11_fieldAt, Cond.code yX11_fieldAt cX11_fieldAt 2 (some .int), Cond.methodLink RL 65 yX10_had, Cond.instanceMethod yX10_had, Cond.selects RX10 yX10_had yX10_had, Cond.code yX10_had cX10_had 3 (some .int), Cond.fieldLink RX10 219 "DownAmongFences$Mind" "plansFound" "I", Cond.fieldLink RX10 222 "DownAmongFences$Mind" "firstFound" "I"]
theorem wr_31 : ∀ w ∈ wsL_law_r31, w ∈ lw_tbl := by
  unfold wsL_law_r31
  refine List.forall_mem_cons.mpr ⟨tp_4 (q := (⟨"DownAmongFencesModel", "again", "()V"⟩, 59)) 5 (by rfl), ?_⟩
  refine List.forall_mem_cons.mpr ⟨tb_6 214 (by rfl), ?_⟩
  refine List.forall_mem_cons.mpr ⟨tb_6 215 (by rfl), ?_⟩
  refine List.forall_mem_cons.mpr ⟨tb_6 217 (by rfl), ?_⟩
  refine List.forall_mem_cons.mpr ⟨tp_4 (q := (⟨"DownAmongFencesModel", "holdOn", "()V"⟩, 59)) 6 (by rfl), ?_⟩
  refine List.forall_mem_cons.mpr ⟨tb_6 218 (by rfl), ?_⟩
  refine List.forall_mem_cons.mpr ⟨tb_6 219 (by rfl), ?_⟩
  refine List.forall_mem_cons.mpr ⟨tb_6 221 (by rfl), ?_⟩
  refine List.forall_mem_cons.mpr ⟨tp_4 (q := (⟨"DownAmongFencesModel", "workUnderWay", "()I"⟩, 59)) 7 (by rfl), ?_⟩
  refine List.forall_mem_cons.mpr ⟨tb_6 222 (by rfl), ?_⟩
  refine List.forall_mem_cons.mpr ⟨tb_6 223 (by rfl), ?_⟩
  refine List.forall_mem_cons.mpr ⟨tb_6 225 (by rfl), ?_⟩
  refine List.forall_mem_cons.mpr ⟨tp_4 (q := (⟨"DownAmongFencesModel", "planTold", "(I)I"⟩, 59)) 8 (by rfl), ?_⟩
  refine List.forall_mem_cons.mpr ⟨tb_6 226 (by rfl), ?_⟩
  refine List.forall_mem_cons.mpr ⟨tb_6 227 (by rfl), ?_⟩
  refine List.forall_mem_cons.mpr ⟨tb_6 229 (by rfl), ?_⟩
  refine List.forall_mem_cons.mpr ⟨tp_4 (q := (⟨"DownAmongFencesModel", "fieldAt", "()I"⟩, 59)) 9 (by rfl), ?_⟩
  refine List.forall_mem_cons.mpr ⟨tb_6 230 (by rfl), ?_⟩
  refine List.forall_mem_cons.mpr ⟨tb_3 183 (by rfl), ?_⟩
  refine List.forall_mem_cons.mpr ⟨tb_3 184 (by rfl), ?_⟩
  refine List.forall_mem_cons.mpr ⟨tb_3 185 (by rfl), ?_⟩
  refine List.forall_mem_cons.mpr ⟨tb_3 186 (by rfl), ?_⟩
  refine List.forall_mem_cons.mpr ⟨tb_1 234 (by rfl), ?_⟩
  refine List.forall_mem_cons.mpr ⟨tb_1 236 (by rfl), ?_⟩
  exact fun _ h => absurd h List.not_mem_nil
theorem wg_31 : wsL_law_r31.all goodWord = true := by decide +kernel
def wsL_law_r32 : List Cond := [Cond.fieldLink RX10 225 "DownAmongFences$Mind" "softestFound" "I", Cond.methodLink RX10 216 yX3_seekPlansInto, Cond.instanceMethod yX3_seekPlansInto, Cond.selects RX3 yX3_seekPlansInto yX3_seekPlansInto, Cond.code yX3_seekPlansInto cX3_seekPlansInto 5 none, Cond.fieldLink RX3 128 "DownAmongFences$Mind" "plansFound" "I", Cond.fieldLink RX3 131 "DownAmongFences$Mind" "firstFound" "I", Cond.fieldLink RX3 134 "DownAmongFences$Mind" "softestFound" "I", Cond.methodLink RX3 124 yX3_follow, Cond.methodLink RL 68 yX11_had, Cond.instanceMethod yX11_had, Cond.selects RX11 yX11_had yX11_had, Cond.code yX11_had cX11_had 3 (some .int), Cond.fieldLink RX11 301 "DownAmongFencesModel" "hadMany" "I", Cond.fieldLink RX11 304 "DownAmongFencesModel" "hadFirst" "I", Cond.fieldLink RX11 307 "DownAmongFencesModel" "hadSoftest" "I", Cond.methodLink RX11 310 yX11_seekPlans, Cond.instanceMethod yX11_seekPlans, Cond.selects RX11 yX11_seekPlans yX11_seekPlans, Cond.code yX11_seekPlans cX11_seekPlans 5 none, Cond.methodLink RL 69 yX10_best, Cond.instanceMethod yX10_best, Cond.selects RX10 yX10_best yX10_best, Cond.code yX10_best cX10_best 2 (some .int)]
theorem wr_32 : ∀ w ∈ wsL_law_r32, w ∈ lw_tbl := by
  unfold wsL_law_r32
  refine List.forall_mem_cons.mpr ⟨tb_1 238 (by rfl), ?_⟩
  refine List.forall_mem_cons.mpr ⟨tb_3 187 (by rfl), ?_⟩
  refine List.forall_mem_cons.mpr ⟨tb_3 188 (by rfl), ?_⟩
  refine List.forall_mem_cons.mpr ⟨tb_3 189 (by rfl), ?_⟩
  refine List.forall_mem_cons.mpr ⟨tb_3 190 (by rfl), ?_⟩
  refine List.forall_mem_cons.mpr ⟨tb_1 235 (by rfl), ?_⟩
  refine List.forall_mem_cons.mpr ⟨tb_1 237 (by rfl), ?_⟩
  refine List.forall_mem_cons.mpr ⟨tb_1 239 (by rfl), ?_⟩
  refine List.forall_mem_cons.mpr ⟨tb_3 191 (by rfl), ?_⟩
  refine List.forall_mem_cons.mpr ⟨tb_6 231 (by rfl), ?_⟩
  refine List.forall_mem_cons.mpr ⟨tb_6 232 (by rfl), ?_⟩
  refine List.forall_mem_cons.mpr ⟨tb_6 233 (by rfl), ?_⟩
  refine List.forall_mem_cons.mpr ⟨tb_6 234 (by rfl), ?_⟩
  refine List.forall_mem_cons.mpr ⟨tb_5 128 (by rfl), ?_⟩
  refine List.forall_mem_cons.mpr ⟨tb_5 129 (by rfl), ?_⟩
  refine List.forall_mem_cons.mpr ⟨tb_5 130 (by rfl), ?_⟩
  refine List.forall_mem_cons.mpr ⟨tb_6 235 (by rfl), ?_⟩
  refine List.forall_mem_cons.mpr ⟨tb_6 237 (by rfl), ?_⟩
  refine List.forall_mem_cons.mpr ⟨tp_4 (q := (⟨"DownAmongFencesModel", "seekPlans", "(I)V"⟩, 59)) 10 (by rfl), ?_⟩
  refine List.forall_mem_cons.mpr ⟨tb_6 238 (by rfl), ?_⟩
  refine List.forall_mem_cons.mpr ⟨tb_3 192 (by rfl), ?_⟩
  refine List.forall_mem_cons.mpr ⟨tb_3 193 (by rfl), ?_⟩
  refine List.forall_mem_cons.mpr ⟨tb_3 194 (by rfl), ?_⟩
  refine List.forall_mem_cons.mpr ⟨tb_3 195 (by rfl), ?_⟩
  exact fun _ h => absurd h List.not_mem_nil
theorem wg_32 : wsL_law_r32.all goodWord = true := by decide +kernel
def wsL_law_r33 : List Cond := [Cond.fieldLink RX10 231 "DownAmongFences$Mind" "cheapestPlan" "I", Cond.fieldLink RX10 234 "DownAmongFences$Mind" "cheapestCost" "I", Cond.methodLink RX10 228 yX3_seekCheapest, Cond.instanceMethod yX3_seekCheapest, Cond.selects RX3 yX3_seekCheapest yX3_seekCheapest, Cond.code yX3_seekCheapest cX3_seekCheapest 4 none, Cond.fieldLink RX3 137 "DownAmongFences$Mind" "cheapestPlan" "I", Cond.fieldLink RX3 140 "DownAmongFences$Mind" "cheapestCost" "I", Cond.methodLink RX3 143 yX3_costThere, Cond.methodLink RL 72 yX11_best, Cond.instanceMethod yX11_best, Cond.selects RX11 yX11_best yX11_best, Cond.code yX11_best cX11_best 2 (some .int), Cond.fieldLink RX11 313 "DownAmongFencesModel" "bestCode" "I", Cond.fieldLink RX11 316 "DownAmongFencesModel" "bestCost" "I", Cond.methodLink RX11 322 yX11_seekBest, Cond.instanceMethod yX11_seekBest, Cond.selects RX11 yX11_seekBest yX11_seekBest, Cond.code yX11_seekBest cX11_seekBest 5 none, Cond.fieldLink RX11 319 "DownAmongFencesModel" "leftBits" "I", Cond.methodLink RL 73 yX10_left, Cond.instanceMethod yX10_left, Cond.selects RX10 yX10_left yX10_left, Cond.code yX10_left cX10_left 1 (some .int)]
theorem wr_33 : ∀ w ∈ wsL_law_r33, w ∈ lw_tbl := by
  unfold wsL_law_r33
  refine List.forall_mem_cons.mpr ⟨tb_2 0 (by rfl), ?_⟩
  refine List.forall_mem_cons.mpr ⟨tb_2 2 (by rfl), ?_⟩
  refine List.forall_mem_cons.mpr ⟨tb_3 196 (by rfl), ?_⟩
  refine List.forall_mem_cons.mpr ⟨tb_3 197 (by rfl), ?_⟩
  refine List.forall_mem_cons.mpr ⟨tb_3 198 (by rfl), ?_⟩
  refine List.forall_mem_cons.mpr ⟨tb_3 199 (by rfl), ?_⟩
  refine List.forall_mem_cons.mpr ⟨tb_2 1 (by rfl), ?_⟩
  refine List.forall_mem_cons.mpr ⟨tb_2 3 (by rfl), ?_⟩
  refine List.forall_mem_cons.mpr ⟨tb_3 200 (by rfl), ?_⟩
  refine List.forall_mem_cons.mpr ⟨tb_6 239 (by rfl), ?_⟩
  refine List.forall_mem_cons.mpr ⟨tb_7 0 (by rfl), ?_⟩
  refine List.forall_mem_cons.mpr ⟨tb_7 1 (by rfl), ?_⟩
  refine List.forall_mem_cons.mpr ⟨tb_7 2 (by rfl), ?_⟩
  refine List.forall_mem_cons.mpr ⟨tb_5 131 (by rfl), ?_⟩
  refine List.forall_mem_cons.mpr ⟨tb_5 132 (by rfl), ?_⟩
  refine List.forall_mem_cons.mpr ⟨tb_7 3 (by rfl), ?_⟩
  refine List.forall_mem_cons.mpr ⟨tb_7 5 (by rfl), ?_⟩
  refine List.forall_mem_cons.mpr ⟨tp_4 (q := (⟨"DownAmongFencesModel", "seekBest", "()V"⟩, 59)) 11 (by rfl), ?_⟩
  refine List.forall_mem_cons.mpr ⟨tb_7 6 (by rfl), ?_⟩
  refine List.forall_mem_cons.mpr ⟨tb_5 133 (by rfl), ?_⟩
  refine List.forall_mem_cons.mpr ⟨tb_3 201 (by rfl), ?_⟩
  refine List.forall_mem_cons.mpr ⟨tb_3 202 (by rfl), ?_⟩
  refine List.forall_mem_cons.mpr ⟨tb_3 203 (by rfl), ?_⟩
  refine List.forall_mem_cons.mpr ⟨tb_3 204 (by rfl), ?_⟩
  exact fun _ h => absurd h List.not_mem_nil
theorem wg_33 : wsL_law_r33.all goodWord = true := by decide +kernel
def wsL_law_r34 : List Cond := [Cond.methodLink RX10 237 yX3_fieldsWithin, Cond.instanceMethod yX3_fieldsWithin, Cond.selects RX3 yX3_fieldsWithin yX3_fieldsWithin, Cond.code yX3_fieldsWithin cX3_fieldsWithin 5 (some .int), Cond.methodLink RL 76 yX11_left, Cond.instanceMethod yX11_left, Cond.selects RX11 yX11_left yX11_left, Cond.code yX11_left cX11_left 1 (some .int), Cond.methodLink RL 77 yX10_keep, Cond.instanceMethod yX10_keep, Cond.selects RX10 yX10_keep yX10_keep, Cond.code yX10_keep cX10_keep 3 (some .int), Cond.methodLink RX10 240 yX3_takeGas, Cond.instanceMethod yX3_takeGas, Cond.selects RX3 yX3_takeGas yX3_takeGas, Cond.code yX3_takeGas cX3_takeGas 2 none, Cond.fieldLink RX3 72 "DownAmongFences$Flight" "gas" "I", Cond.methodLink RX10 243 yX3_somePlanLeadsInto, Cond.instanceMethod yX3_somePlanLeadsInto, Cond.selects RX3 yX3_somePlanLeadsInto yX3_somePlanLeadsInto, Cond.code yX3_somePlanLeadsInto cX3_somePlanLeadsInto 4 (some .boolean), Cond.methodLink RX10 246 yX3_hasGasOver, Cond.instanceMethod yX3_hasGasOver, Cond.selects RX3 yX3_hasGasOver yX3_hasGasOver]
theorem wr_34 : ∀ w ∈ wsL_law_r34, w ∈ lw_tbl := by
  unfold wsL_law_r34
  refine List.forall_mem_cons.mpr ⟨tb_3 205 (by rfl), ?_⟩
  refine List.forall_mem_cons.mpr ⟨tb_3 206 (by rfl), ?_⟩
  refine List.forall_mem_cons.mpr ⟨tb_3 207 (by rfl), ?_⟩
  refine List.forall_mem_cons.mpr ⟨tb_3 208 (by rfl), ?_⟩
  refine List.forall_mem_cons.mpr ⟨tb_7 7 (by rfl), ?_⟩
  refine List.forall_mem_cons.mpr ⟨tb_7 8 (by rfl), ?_⟩
  refine List.forall_mem_cons.mpr ⟨tb_7 9 (by rfl), ?_⟩
  refine List.forall_mem_cons.mpr ⟨tb_7 10 (by rfl), ?_⟩
  refine List.forall_mem_cons.mpr ⟨tb_3 209 (by rfl), ?_⟩
  refine List.forall_mem_cons.mpr ⟨tb_3 210 (by rfl), ?_⟩
  refine List.forall_mem_cons.mpr ⟨tb_3 211 (by rfl), ?_⟩
  refine List.forall_mem_cons.mpr ⟨tb_3 212 (by rfl), ?_⟩
  refine List.forall_mem_cons.mpr ⟨tb_3 213 (by rfl), ?_⟩
  refine List.forall_mem_cons.mpr ⟨tb_3 214 (by rfl), ?_⟩
  refine List.forall_mem_cons.mpr ⟨tb_3 215 (by rfl), ?_⟩
  refine List.forall_mem_cons.mpr ⟨tb_3 216 (by rfl), ?_⟩
  refine List.forall_mem_cons.mpr ⟨tb_1 102 (by rfl), ?_⟩
  refine List.forall_mem_cons.mpr ⟨tb_3 217 (by rfl), ?_⟩
  refine List.forall_mem_cons.mpr ⟨tb_3 218 (by rfl), ?_⟩
  refine List.forall_mem_cons.mpr ⟨tb_3 219 (by rfl), ?_⟩
  refine List.forall_mem_cons.mpr ⟨tb_3 220 (by rfl), ?_⟩
  refine List.forall_mem_cons.mpr ⟨tb_3 221 (by rfl), ?_⟩
  refine List.forall_mem_cons.mpr ⟨tb_3 222 (by rfl), ?_⟩
  refine List.forall_mem_cons.mpr ⟨tb_3 223 (by rfl), ?_⟩
  exact fun _ h => absurd h List.not_mem_nil
theorem wg_34 : wsL_law_r34.all goodWord = true := by decide +kernel
def wsL_law_r35 : List Cond := [Cond.code yX3_hasGasOver cX3_hasGasOver 1 (some .boolean), Cond.methodLink RL 80 yX11_keep, Cond.instanceMethod yX11_keep, Cond.selects RX11 yX11_keep yX11_keep, Cond.code yX11_keep cX11_keep 5 (some .int), Cond.methodLink RL 81 yX10_goingOn, Cond.instanceMethod yX10_goingOn, Cond.selects RX10 yX10_goingOn yX10_goingOn, Cond.code yX10_goingOn cX10_goingOn 4 (some .int), Cond.methodLink RX10 249 yX3_holdFirst, Cond.instanceMethod yX3_holdFirst, Cond.selects RX3 yX3_holdFirst yX3_holdFirst, Cond.code yX3_holdFirst cX3_holdFirst 3 none, Cond.methodLink RL 84 yX11_goingOn, Cond.instanceMethod yX11_goingOn, Cond.selects RX11 yX11_goingOn yX11_goingOn, Cond.code yX11_goingOn cX11_goingOn 5 (some .int), Cond.methodLink RL 85 yX10_blown, Cond.instanceMethod yX10_blown, Cond.selects RX10 yX10_blown yX10_blown, Cond.code yX10_blown cX10_blown 2 (some .int), Cond.methodLink RX10 252 yX0_layerFarthest, Cond.instanceMethod yX0_layerFarthest, Cond.selects RX0 yX0_layerFarthest yX0_layerFarthest]
theorem wr_35 : ∀ w ∈ wsL_law_r35, w ∈ lw_tbl := by
  unfold wsL_law_r35
  refine List.forall_mem_cons.mpr ⟨tb_3 224 (by rfl), ?_⟩
  refine List.forall_mem_cons.mpr ⟨tb_7 11 (by rfl), ?_⟩
  refine List.forall_mem_cons.mpr ⟨tb_7 12 (by rfl), ?_⟩
  refine List.forall_mem_cons.mpr ⟨tb_7 13 (by rfl), ?_⟩
  refine List.forall_mem_cons.mpr ⟨tb_7 14 (by rfl), ?_⟩
  refine List.forall_mem_cons.mpr ⟨tb_3 225 (by rfl), ?_⟩
  refine List.forall_mem_cons.mpr ⟨tb_3 226 (by rfl), ?_⟩
  refine List.forall_mem_cons.mpr ⟨tb_3 227 (by rfl), ?_⟩
  refine List.forall_mem_cons.mpr ⟨tb_3 228 (by rfl), ?_⟩
  refine List.forall_mem_cons.mpr ⟨tb_3 229 (by rfl), ?_⟩
  refine List.forall_mem_cons.mpr ⟨tb_3 230 (by rfl), ?_⟩
  refine List.forall_mem_cons.mpr ⟨tb_3 231 (by rfl), ?_⟩
  refine List.forall_mem_cons.mpr ⟨tb_3 232 (by rfl), ?_⟩
  refine List.forall_mem_cons.mpr ⟨tb_7 15 (by rfl), ?_⟩
  refine List.forall_mem_cons.mpr ⟨tb_7 16 (by rfl), ?_⟩
  refine List.forall_mem_cons.mpr ⟨tb_7 17 (by rfl), ?_⟩
  refine List.forall_mem_cons.mpr ⟨tb_7 18 (by rfl), ?_⟩
  refine List.forall_mem_cons.mpr ⟨tb_3 233 (by rfl), ?_⟩
  refine List.forall_mem_cons.mpr ⟨tb_3 234 (by rfl), ?_⟩
  refine List.forall_mem_cons.mpr ⟨tb_3 235 (by rfl), ?_⟩
  refine List.forall_mem_cons.mpr ⟨tb_3 236 (by rfl), ?_⟩
  refine List.forall_mem_cons.mpr ⟨tb_3 237 (by rfl), ?_⟩
  refine List.forall_mem_cons.mpr ⟨tb_3 238 (by rfl), ?_⟩
  refine List.forall_mem_cons.mpr ⟨tb_3 239 (by rfl), ?_⟩
  exact fun _ h => absurd h List.not_mem_nil
theorem wg_35 : wsL_law_r35.all goodWord = true := by decide +kernel
def wsL_law_r36 : List Cond := [Cond.code yX0_layerFarthest cX0_layerFarthest 4 (some .int), Cond.methodLink RX0 32 yX0_speedTo, Cond.instanceMethod yX0_speedTo, Cond.selects RX0 yX0_speedTo yX0_speedTo, Cond.code yX0_speedTo cX0_speedTo 3 (some .int), Cond.methodLink RX0 35 yX0_aheadOf, Cond.methodLink RX0 38 yX0_sideOf, Cond.methodLink RL 88 yX11_blown, Cond.instanceMethod yX11_blown, Cond.selects RX11 yX11_blown yX11_blown, Cond.code yX11_blown cX11_blown 6 (some .int), Cond.methodLink RL 89 yX10_two, Cond.instanceMethod yX10_two, Cond.selects RX10 yX10_two yX10_two, Cond.code yX10_two cX10_two 5 (some .int), Cond.methodLink RX10 255 yX0_fewestSteps, Cond.instanceMethod yX0_fewestSteps, Cond.selects RX0 yX0_fewestSteps yX0_fewestSteps, Cond.code yX0_fewestSteps cX0_fewestSteps 4 (some .int), Cond.methodLink RX0 41 yX0_layersFor, Cond.instanceMethod yX0_layersFor, Cond.selects RX0 yX0_layersFor yX0_layersFor, Cond.code yX0_layersFor cX0_layersFor 8 (some .int), Cond.methodLink RX10 258 yX0_layersFor]
theorem wr_36 : ∀ w ∈ wsL_law_r36, w ∈ lw_tbl := by
  unfold wsL_law_r36
  refine List.forall_mem_cons.mpr ⟨tb_4 0 (by rfl), ?_⟩
  refine List.forall_mem_cons.mpr ⟨tb_4 1 (by rfl), ?_⟩
  refine List.forall_mem_cons.mpr ⟨tb_4 3 (by rfl), ?_⟩
  refine List.forall_mem_cons.mpr ⟨tp_2 (q := (⟨"DownAmongFences$Air", "speedTo", "(II)I"⟩, 2)) 2 (by rfl), ?_⟩
  refine List.forall_mem_cons.mpr ⟨tb_4 4 (by rfl), ?_⟩
  refine List.forall_mem_cons.mpr ⟨tb_4 5 (by rfl), ?_⟩
  refine List.forall_mem_cons.mpr ⟨tb_4 6 (by rfl), ?_⟩
  refine List.forall_mem_cons.mpr ⟨tb_7 19 (by rfl), ?_⟩
  refine List.forall_mem_cons.mpr ⟨tb_7 20 (by rfl), ?_⟩
  refine List.forall_mem_cons.mpr ⟨tb_7 21 (by rfl), ?_⟩
  refine List.forall_mem_cons.mpr ⟨tb_7 22 (by rfl), ?_⟩
  refine List.forall_mem_cons.mpr ⟨tb_4 7 (by rfl), ?_⟩
  refine List.forall_mem_cons.mpr ⟨tb_4 8 (by rfl), ?_⟩
  refine List.forall_mem_cons.mpr ⟨tb_4 9 (by rfl), ?_⟩
  refine List.forall_mem_cons.mpr ⟨tb_4 10 (by rfl), ?_⟩
  refine List.forall_mem_cons.mpr ⟨tb_4 11 (by rfl), ?_⟩
  refine List.forall_mem_cons.mpr ⟨tb_4 12 (by rfl), ?_⟩
  refine List.forall_mem_cons.mpr ⟨tb_4 13 (by rfl), ?_⟩
  refine List.forall_mem_cons.mpr ⟨tb_4 14 (by rfl), ?_⟩
  refine List.forall_mem_cons.mpr ⟨tb_4 15 (by rfl), ?_⟩
  refine List.forall_mem_cons.mpr ⟨tb_4 16 (by rfl), ?_⟩
  refine List.forall_mem_cons.mpr ⟨tb_4 17 (by rfl), ?_⟩
  refine List.forall_mem_cons.mpr ⟨tb_4 18 (by rfl), ?_⟩
  refine List.forall_mem_cons.mpr ⟨tb_4 19 (by rfl), ?_⟩
  exact fun _ h => absurd h List.not_mem_nil
theorem wg_36 : wsL_law_r36.all goodWord = true := by decide +kernel
def wsL_law_r37 : List Cond := [Cond.methodLink RL 92 yX11_two, Cond.instanceMethod yX11_two, Cond.selects RX11 yX11_two yX11_two, Cond.code yX11_two cX11_two 7 (some .int), Cond.methodLink RX11 325 yX11_twoBy, Cond.instanceMethod yX11_twoBy, Cond.selects RX11 yX11_twoBy yX11_twoBy, Cond.code yX11_twoBy cX11_twoBy 8 (some .int), Cond.methodLink RL 93 yX10_swing, Cond.instanceMethod yX10_swing, Cond.selects RX10 yX10_swing yX10_swing, Cond.code yX10_swing cX10_swing 2 (some .int), Cond.fieldLink RX10 267 "DownAmongFences$Mind" "swingAtFirst" "I", Cond.fieldLink RX10 270 "DownAmongFences$Mind" "swingLater" "I", Cond.methodLink RX10 261 yX3_answerEach, Cond.instanceMethod yX3_answerEach, Cond.selects RX3 yX3_answerEach yX3_answerEach, Cond.code yX3_answerEach cX3_answerEach 5 none, Cond.fieldLink RX3 146 "DownAmongFences$Mind" "swingAtFirst" "I", Cond.fieldLink RX3 149 "DownAmongFences$Mind" "swingLater" "I", Cond.methodLink RX3 155 Lib.Math.abs.name, Cond.methodLink RX3 160 Lib.Math.max.name, Cond.methodLink RX3 152 yX2_feltAct, Cond.instanceMethod yX2_feltAct]
theorem wr_37 : ∀ w ∈ wsL_law_r37, w ∈ lw_tbl := by
  unfold wsL_law_r37
  refine List.forall_mem_cons.mpr ⟨tb_7 23 (by rfl), ?_⟩
  refine List.forall_mem_cons.mpr ⟨tb_7 24 (by rfl), ?_⟩
  refine List.forall_mem_cons.mpr ⟨tb_7 25 (by rfl), ?_⟩
  refine List.forall_mem_cons.mpr ⟨tb_7 26 (by rfl), ?_⟩
  refine List.forall_mem_cons.mpr ⟨tb_7 27 (by rfl), ?_⟩
  refine List.forall_mem_cons.mpr ⟨tb_7 29 (by rfl), ?_⟩
  refine List.forall_mem_cons.mpr ⟨tp_4 (q := (⟨"DownAmongFencesModel", "twoBy", "(III)I"⟩, 59)) 12 (by rfl), ?_⟩
  refine List.forall_mem_cons.mpr ⟨tb_7 30 (by rfl), ?_⟩
  refine List.forall_mem_cons.mpr ⟨tb_4 20 (by rfl), ?_⟩
  refine List.forall_mem_cons.mpr ⟨tb_4 21 (by rfl), ?_⟩
  refine List.forall_mem_cons.mpr ⟨tb_4 22 (by rfl), ?_⟩
  refine List.forall_mem_cons.mpr ⟨tb_4 23 (by rfl), ?_⟩
  refine List.forall_mem_cons.mpr ⟨tb_2 5 (by rfl), ?_⟩
  refine List.forall_mem_cons.mpr ⟨tb_2 7 (by rfl), ?_⟩
  refine List.forall_mem_cons.mpr ⟨tb_4 24 (by rfl), ?_⟩
  refine List.forall_mem_cons.mpr ⟨tb_4 25 (by rfl), ?_⟩
  refine List.forall_mem_cons.mpr ⟨tb_4 26 (by rfl), ?_⟩
  refine List.forall_mem_cons.mpr ⟨tb_4 27 (by rfl), ?_⟩
  refine List.forall_mem_cons.mpr ⟨tb_2 4 (by rfl), ?_⟩
  refine List.forall_mem_cons.mpr ⟨tb_2 6 (by rfl), ?_⟩
  refine List.forall_mem_cons.mpr ⟨tb_4 32 (by rfl), ?_⟩
  refine List.forall_mem_cons.mpr ⟨tb_4 33 (by rfl), ?_⟩
  refine List.forall_mem_cons.mpr ⟨tb_4 28 (by rfl), ?_⟩
  refine List.forall_mem_cons.mpr ⟨tb_4 29 (by rfl), ?_⟩
  exact fun _ h => absurd h List.not_mem_nil
theorem wg_37 : wsL_law_r37.all goodWord = true := by decide +kernel
def wsL_law_r38 : List Cond := [Cond.selects RX2 yX2_feltAct yX2_feltAct, Cond.code yX2_feltAct cX2_feltAct 2 (some .int), Cond.methodLink RX10 264 yX3_swingGrows, Cond.instanceMethod yX3_swingGrows, Cond.selects RX3 yX3_swingGrows yX3_swingGrows, Cond.code yX3_swingGrows cX3_swingGrows 1 (some .boolean), Cond.methodLink RL 96 yX11_swing, Cond.instanceMethod yX11_swing, Cond.selects RX11 yX11_swing yX11_swing, Cond.code yX11_swing cX11_swing 2 (some .int), Cond.fieldLink RX11 328 "DownAmongFencesModel" "swingFirst" "I", Cond.fieldLink RX11 331 "DownAmongFencesModel" "swingLater" "I", Cond.methodLink RX11 334 yX11_swingBy, Cond.instanceMethod yX11_swingBy, Cond.selects RX11 yX11_swingBy yX11_swingBy, Cond.code yX11_swingBy cX11_swingBy 6 none, Cond.methodLink RL 97 yX10_calm, Cond.instanceMethod yX10_calm, Cond.selects RX10 yX10_calm yX10_calm, Cond.code yX10_calm cX10_calm 2 (some .int), Cond.methodLink RL 100 yX11_calm, Cond.instanceMethod yX11_calm, Cond.selects RX11 yX11_calm yX11_calm, Cond.code yX11_calm cX11_calm 2 (some .int)]
theorem wr_38 : ∀ w ∈ wsL_law_r38, w ∈ lw_tbl := by
  unfold wsL_law_r38
  refine List.forall_mem_cons.mpr ⟨tb_4 30 (by rfl), ?_⟩
  refine List.forall_mem_cons.mpr ⟨tb_4 31 (by rfl), ?_⟩
  refine List.forall_mem_cons.mpr ⟨tb_4 34 (by rfl), ?_⟩
  refine List.forall_mem_cons.mpr ⟨tb_4 35 (by rfl), ?_⟩
  refine List.forall_mem_cons.mpr ⟨tb_4 36 (by rfl), ?_⟩
  refine List.forall_mem_cons.mpr ⟨tb_4 37 (by rfl), ?_⟩
  refine List.forall_mem_cons.mpr ⟨tb_7 31 (by rfl), ?_⟩
  refine List.forall_mem_cons.mpr ⟨tb_7 32 (by rfl), ?_⟩
  refine List.forall_mem_cons.mpr ⟨tb_7 33 (by rfl), ?_⟩
  refine List.forall_mem_cons.mpr ⟨tb_7 34 (by rfl), ?_⟩
  refine List.forall_mem_cons.mpr ⟨tb_5 135 (by rfl), ?_⟩
  refine List.forall_mem_cons.mpr ⟨tb_5 136 (by rfl), ?_⟩
  refine List.forall_mem_cons.mpr ⟨tb_7 35 (by rfl), ?_⟩
  refine List.forall_mem_cons.mpr ⟨tb_7 37 (by rfl), ?_⟩
  refine List.forall_mem_cons.mpr ⟨tp_4 (q := (⟨"DownAmongFencesModel", "swingBy", "(I)V"⟩, 59)) 13 (by rfl), ?_⟩
  refine List.forall_mem_cons.mpr ⟨tb_7 38 (by rfl), ?_⟩
  refine List.forall_mem_cons.mpr ⟨tb_4 38 (by rfl), ?_⟩
  refine List.forall_mem_cons.mpr ⟨tb_4 39 (by rfl), ?_⟩
  refine List.forall_mem_cons.mpr ⟨tb_4 40 (by rfl), ?_⟩
  refine List.forall_mem_cons.mpr ⟨tb_4 41 (by rfl), ?_⟩
  refine List.forall_mem_cons.mpr ⟨tb_7 39 (by rfl), ?_⟩
  refine List.forall_mem_cons.mpr ⟨tb_7 40 (by rfl), ?_⟩
  refine List.forall_mem_cons.mpr ⟨tb_7 41 (by rfl), ?_⟩
  refine List.forall_mem_cons.mpr ⟨tb_7 42 (by rfl), ?_⟩
  exact fun _ h => absurd h List.not_mem_nil
theorem wg_38 : wsL_law_r38.all goodWord = true := by decide +kernel
def wsL_law_r39 : List Cond := [Cond.methodLink RL 101 yX10_out, Cond.instanceMethod yX10_out, Cond.selects RX10 yX10_out yX10_out, Cond.code yX10_out cX10_out 1 (some .int), Cond.methodLink RX10 273 yX2_peopleWhoCanLeave, Cond.instanceMethod yX2_peopleWhoCanLeave, Cond.selects RX2 yX2_peopleWhoCanLeave yX2_peopleWhoCanLeave, Cond.code yX2_peopleWhoCanLeave cX2_peopleWhoCanLeave 2 (some .int), Cond.methodLink RL 104 yX11_out, Cond.instanceMethod yX11_out, Cond.selects RX11 yX11_out yX11_out, Cond.code yX11_out cX11_out 3 (some .int), Cond.methodLink RL 105 yX10_road, Cond.instanceMethod yX10_road, Cond.selects RX10 yX10_road yX10_road, Cond.code yX10_road cX10_road 5 (some .int), Cond.fieldLink RX10 279 "DownAmongFences$World" "roads" "LDownAmongFences$Roads;", Cond.methodLink RX10 276 yX10_areTwoPlaces, Cond.methodLink RX10 283 yX6_between, Cond.instanceMethod yX6_between, Cond.selects RX6 yX6_between yX6_between, Cond.code yX6_between cX6_between 3 (some .int), Cond.methodLink RX10 288 yX6_lay, Cond.methodLink RL 108 yX11_road]
theorem wr_39 : ∀ w ∈ wsL_law_r39, w ∈ lw_tbl := by
  unfold wsL_law_r39
  refine List.forall_mem_cons.mpr ⟨tb_4 42 (by rfl), ?_⟩
  refine List.forall_mem_cons.mpr ⟨tb_4 43 (by rfl), ?_⟩
  refine List.forall_mem_cons.mpr ⟨tb_4 44 (by rfl), ?_⟩
  refine List.forall_mem_cons.mpr ⟨tb_4 45 (by rfl), ?_⟩
  refine List.forall_mem_cons.mpr ⟨tb_4 46 (by rfl), ?_⟩
  refine List.forall_mem_cons.mpr ⟨tb_4 47 (by rfl), ?_⟩
  refine List.forall_mem_cons.mpr ⟨tb_4 48 (by rfl), ?_⟩
  refine List.forall_mem_cons.mpr ⟨tb_4 49 (by rfl), ?_⟩
  refine List.forall_mem_cons.mpr ⟨tb_7 43 (by rfl), ?_⟩
  refine List.forall_mem_cons.mpr ⟨tb_7 44 (by rfl), ?_⟩
  refine List.forall_mem_cons.mpr ⟨tb_7 45 (by rfl), ?_⟩
  refine List.forall_mem_cons.mpr ⟨tb_7 46 (by rfl), ?_⟩
  refine List.forall_mem_cons.mpr ⟨tb_4 50 (by rfl), ?_⟩
  refine List.forall_mem_cons.mpr ⟨tb_4 51 (by rfl), ?_⟩
  refine List.forall_mem_cons.mpr ⟨tb_4 52 (by rfl), ?_⟩
  refine List.forall_mem_cons.mpr ⟨tb_4 53 (by rfl), ?_⟩
  refine List.forall_mem_cons.mpr ⟨tb_1 151 (by rfl), ?_⟩
  refine List.forall_mem_cons.mpr ⟨tb_4 54 (by rfl), ?_⟩
  refine List.forall_mem_cons.mpr ⟨tb_4 55 (by rfl), ?_⟩
  refine List.forall_mem_cons.mpr ⟨tb_4 56 (by rfl), ?_⟩
  refine List.forall_mem_cons.mpr ⟨tb_4 57 (by rfl), ?_⟩
  refine List.forall_mem_cons.mpr ⟨tb_4 58 (by rfl), ?_⟩
  refine List.forall_mem_cons.mpr ⟨tb_4 59 (by rfl), ?_⟩
  refine List.forall_mem_cons.mpr ⟨tb_7 47 (by rfl), ?_⟩
  exact fun _ h => absurd h List.not_mem_nil
theorem wg_39 : wsL_law_r39.all goodWord = true := by decide +kernel
def wsL_law_r40 : List Cond := [Cond.instanceMethod yX11_road, Cond.selects RX11 yX11_road yX11_road, Cond.code yX11_road cX11_road 6 (some .int), Cond.methodLink RL 109 yX10_car, Cond.instanceMethod yX10_car, Cond.selects RX10 yX10_car yX10_car, Cond.code yX10_car cX10_car 3 (some .int), Cond.fieldLink RX10 294 "DownAmongFences$Roads" "carPlace" "I", Cond.methodLink RL 112 yX11_car, Cond.instanceMethod yX11_car, Cond.selects RX11 yX11_car yX11_car, Cond.code yX11_car cX11_car 3 (some .int), Cond.methodLink RL 113 yX10_drive, Cond.instanceMethod yX10_drive, Cond.selects RX10 yX10_drive yX10_drive, Cond.code yX10_drive cX10_drive 2 (some .int), Cond.methodLink RX10 297 yX8_measure, Cond.instanceMethod yX8_measure, Cond.selects RX8 yX8_measure yX8_measure, Cond.code yX8_measure cX8_measure 2 none, Cond.methodLink RX8 18 yX8_takeRoads, Cond.instanceMethod yX8_takeRoads, Cond.selects RX8 yX8_takeRoads yX8_takeRoads, Cond.code yX8_takeRoads cX8_takeRoads 5 none]
theorem wr_40 : ∀ w ∈ wsL_law_r40, w ∈ lw_tbl := by
  unfold wsL_law_r40
  refine List.forall_mem_cons.mpr ⟨tb_7 48 (by rfl), ?_⟩
  refine List.forall_mem_cons.mpr ⟨tb_7 49 (by rfl), ?_⟩
  refine List.forall_mem_cons.mpr ⟨tb_7 50 (by rfl), ?_⟩
  refine List.forall_mem_cons.mpr ⟨tb_4 60 (by rfl), ?_⟩
  refine List.forall_mem_cons.mpr ⟨tb_4 61 (by rfl), ?_⟩
  refine List.forall_mem_cons.mpr ⟨tb_4 62 (by rfl), ?_⟩
  refine List.forall_mem_cons.mpr ⟨tb_4 63 (by rfl), ?_⟩
  refine List.forall_mem_cons.mpr ⟨tb_1 75 (by rfl), ?_⟩
  refine List.forall_mem_cons.mpr ⟨tb_7 51 (by rfl), ?_⟩
  refine List.forall_mem_cons.mpr ⟨tb_7 52 (by rfl), ?_⟩
  refine List.forall_mem_cons.mpr ⟨tb_7 53 (by rfl), ?_⟩
  refine List.forall_mem_cons.mpr ⟨tb_7 54 (by rfl), ?_⟩
  refine List.forall_mem_cons.mpr ⟨tb_4 64 (by rfl), ?_⟩
  refine List.forall_mem_cons.mpr ⟨tb_4 65 (by rfl), ?_⟩
  refine List.forall_mem_cons.mpr ⟨tb_4 66 (by rfl), ?_⟩
  refine List.forall_mem_cons.mpr ⟨tb_4 67 (by rfl), ?_⟩
  refine List.forall_mem_cons.mpr ⟨tb_4 68 (by rfl), ?_⟩
  refine List.forall_mem_cons.mpr ⟨tb_4 69 (by rfl), ?_⟩
  refine List.forall_mem_cons.mpr ⟨tb_4 70 (by rfl), ?_⟩
  refine List.forall_mem_cons.mpr ⟨tb_4 71 (by rfl), ?_⟩
  refine List.forall_mem_cons.mpr ⟨tb_4 72 (by rfl), ?_⟩
  refine List.forall_mem_cons.mpr ⟨tb_4 74 (by rfl), ?_⟩
  refine List.forall_mem_cons.mpr ⟨tp_2 (q := (⟨"DownAmongFences$Ways", "takeRoads", "(LDownAmongFences$Roads;)V"⟩, 2)) 3 (by rfl), ?_⟩
  refine List.forall_mem_cons.mpr ⟨tb_4 75 (by rfl), ?_⟩
  exact fun _ h => absurd h List.not_mem_nil
theorem wg_40 : wsL_law_r40.all goodWord = true := by decide +kernel
def wsL_law_r41 : List Cond := [Cond.constant RX8 29 (1000000), Cond.methodLink RX8 30 yX6_between, Cond.methodLink RX8 22 yX8_joinRoads, Cond.instanceMethod yX8_joinRoads, Cond.selects RX8 yX8_joinRoads yX8_joinRoads, Cond.code yX8_joinRoads cX8_joinRoads 6 none, Cond.methodLink RX10 301 yX8_minutesOrNone, Cond.instanceMethod yX8_minutesOrNone, Cond.selects RX8 yX8_minutesOrNone yX8_minutesOrNone, Cond.code yX8_minutesOrNone cX8_minutesOrNone 4 (some .int), Cond.methodLink RX8 40 yX8_minutes, Cond.instanceMethod yX8_minutes, Cond.selects RX8 yX8_minutes yX8_minutes, Cond.code yX8_minutes cX8_minutes 3 (some .int), Cond.methodLink RL 116 yX11_drive, Cond.instanceMethod yX11_drive, Cond.selects RX11 yX11_drive yX11_drive, Cond.code yX11_drive cX11_drive 2 (some .int), Cond.constant RX11 337 (99999), Cond.methodLink RX11 338 yX11_driveFrom, Cond.instanceMethod yX11_driveFrom, Cond.selects RX11 yX11_driveFrom yX11_driveFrom, Cond.code yX11_driveFrom cX11_driveFrom 6 none, Cond.methodLink RL 117 yX10_waitAt]
theorem wr_41 : ∀ w ∈ wsL_law_r41, w ∈ lw_tbl := by
  unfold wsL_law_r41
  refine List.forall_mem_cons.mpr ⟨tb_4 77 (by rfl), ?_⟩
  refine List.forall_mem_cons.mpr ⟨tb_4 76 (by rfl), ?_⟩
  refine List.forall_mem_cons.mpr ⟨tb_4 78 (by rfl), ?_⟩
  refine List.forall_mem_cons.mpr ⟨tb_4 80 (by rfl), ?_⟩
  refine List.forall_mem_cons.mpr ⟨tp_2 (q := (⟨"DownAmongFences$Ways", "joinRoads", "()V"⟩, 2)) 4 (by rfl), ?_⟩
  refine List.forall_mem_cons.mpr ⟨tb_4 81 (by rfl), ?_⟩
  refine List.forall_mem_cons.mpr ⟨tb_4 82 (by rfl), ?_⟩
  refine List.forall_mem_cons.mpr ⟨tb_4 83 (by rfl), ?_⟩
  refine List.forall_mem_cons.mpr ⟨tb_4 84 (by rfl), ?_⟩
  refine List.forall_mem_cons.mpr ⟨tb_4 85 (by rfl), ?_⟩
  refine List.forall_mem_cons.mpr ⟨tb_4 86 (by rfl), ?_⟩
  refine List.forall_mem_cons.mpr ⟨tb_4 87 (by rfl), ?_⟩
  refine List.forall_mem_cons.mpr ⟨tb_4 88 (by rfl), ?_⟩
  refine List.forall_mem_cons.mpr ⟨tb_4 89 (by rfl), ?_⟩
  refine List.forall_mem_cons.mpr ⟨tb_7 55 (by rfl), ?_⟩
  refine List.forall_mem_cons.mpr ⟨tb_7 56 (by rfl), ?_⟩
  refine List.forall_mem_cons.mpr ⟨tb_7 57 (by rfl), ?_⟩
  refine List.forall_mem_cons.mpr ⟨tb_7 58 (by rfl), ?_⟩
  refine List.forall_mem_cons.mpr ⟨tb_7 63 (by rfl), ?_⟩
  refine List.forall_mem_cons.mpr ⟨tb_7 59 (by rfl), ?_⟩
  refine List.forall_mem_cons.mpr ⟨tb_7 61 (by rfl), ?_⟩
  refine List.forall_mem_cons.mpr ⟨tp_4 (q := (⟨"DownAmongFencesModel", "driveFrom", "(I)V"⟩, 59)) 14 (by rfl), ?_⟩
  refine List.forall_mem_cons.mpr ⟨tb_7 62 (by rfl), ?_⟩
  refine List.forall_mem_cons.mpr ⟨tb_4 91 (by rfl), ?_⟩
  exact fun _ h => absurd h List.not_mem_nil
theorem wg_41 : wsL_law_r41.all goodWord = true := by decide +kernel
def wsL_law_r42 : List Cond := [Cond.instanceMethod yX10_waitAt, Cond.selects RX10 yX10_waitAt yX10_waitAt, Cond.code yX10_waitAt cX10_waitAt 1 (some .int), Cond.fieldLink RX10 304 "DownAmongFences$Row" "length" "I", Cond.methodLink RX10 305 yX8_placeToWait, Cond.instanceMethod yX8_placeToWait, Cond.selects RX8 yX8_placeToWait yX8_placeToWait, Cond.code yX8_placeToWait cX8_placeToWait 6 (some .int), Cond.methodLink RX8 49 yX8_waitFrom, Cond.instanceMethod yX8_waitFrom, Cond.selects RX8 yX8_waitFrom yX8_waitFrom, Cond.code yX8_waitFrom cX8_waitFrom 6 (some .int), Cond.methodLink RX8 43 yX7_at, Cond.methodLink RL 120 yX11_waitAt, Cond.instanceMethod yX11_waitAt, Cond.selects RX11 yX11_waitAt yX11_waitAt, Cond.code yX11_waitAt cX11_waitAt 1 (some .int), Cond.fieldLink RX11 344 "DownAmongFencesModel" "rowMany" "I", Cond.methodLink RX11 347 yX11_waitBest, Cond.instanceMethod yX11_waitBest, Cond.selects RX11 yX11_waitBest yX11_waitBest, Cond.code yX11_waitBest cX11_waitBest 5 (some .int), Cond.methodLink RX11 341 yX11_waitSum, Cond.instanceMethod yX11_waitSum]
theorem wr_42 : ∀ w ∈ wsL_law_r42, w ∈ lw_tbl := by
  unfold wsL_law_r42
  refine List.forall_mem_cons.mpr ⟨tb_4 92 (by rfl), ?_⟩
  refine List.forall_mem_cons.mpr ⟨tb_4 93 (by rfl), ?_⟩
  refine List.forall_mem_cons.mpr ⟨tb_4 94 (by rfl), ?_⟩
  refine List.forall_mem_cons.mpr ⟨tb_1 201 (by rfl), ?_⟩
  refine List.forall_mem_cons.mpr ⟨tb_4 95 (by rfl), ?_⟩
  refine List.forall_mem_cons.mpr ⟨tb_4 96 (by rfl), ?_⟩
  refine List.forall_mem_cons.mpr ⟨tb_4 97 (by rfl), ?_⟩
  refine List.forall_mem_cons.mpr ⟨tb_4 98 (by rfl), ?_⟩
  refine List.forall_mem_cons.mpr ⟨tb_4 99 (by rfl), ?_⟩
  refine List.forall_mem_cons.mpr ⟨tb_4 100 (by rfl), ?_⟩
  refine List.forall_mem_cons.mpr ⟨tb_4 101 (by rfl), ?_⟩
  refine List.forall_mem_cons.mpr ⟨tb_4 102 (by rfl), ?_⟩
  refine List.forall_mem_cons.mpr ⟨tb_4 103 (by rfl), ?_⟩
  refine List.forall_mem_cons.mpr ⟨tb_7 64 (by rfl), ?_⟩
  refine List.forall_mem_cons.mpr ⟨tb_7 65 (by rfl), ?_⟩
  refine List.forall_mem_cons.mpr ⟨tb_7 66 (by rfl), ?_⟩
  refine List.forall_mem_cons.mpr ⟨tb_7 67 (by rfl), ?_⟩
  refine List.forall_mem_cons.mpr ⟨tb_5 142 (by rfl), ?_⟩
  refine List.forall_mem_cons.mpr ⟨tb_7 68 (by rfl), ?_⟩
  refine List.forall_mem_cons.mpr ⟨tb_7 70 (by rfl), ?_⟩
  refine List.forall_mem_cons.mpr ⟨tp_4 (q := (⟨"DownAmongFencesModel", "waitBest", "()I"⟩, 59)) 15 (by rfl), ?_⟩
  refine List.forall_mem_cons.mpr ⟨tb_7 71 (by rfl), ?_⟩
  refine List.forall_mem_cons.mpr ⟨tb_7 72 (by rfl), ?_⟩
  refine List.forall_mem_cons.mpr ⟨tb_7 74 (by rfl), ?_⟩
  exact fun _ h => absurd h List.not_mem_nil
theorem wg_42 : wsL_law_r42.all goodWord = true := by decide +kernel
def wsL_law_r43 : List Cond := [Cond.selects RX11 yX11_waitSum yX11_waitSum, Cond.code yX11_waitSum cX11_waitSum 4 (some .int), Cond.methodLink RL 121 yX10_meanWait, Cond.instanceMethod yX10_meanWait, Cond.selects RX10 yX10_meanWait yX10_meanWait, Cond.code yX10_meanWait cX10_meanWait 5 (some .long), Cond.constantLong RX10 309 (4000000000000000000), Cond.methodLink RX10 311 yX8_waitFrom, Cond.methodLink RX10 315 yX7_sum, Cond.instanceMethod yX7_sum, Cond.selects RX7 yX7_sum yX7_sum, Cond.code yX7_sum cX7_sum 3 (some .int), Cond.methodLink RX7 17 yX7_at, Cond.methodLink RX10 318 yX10_sharedMeasure, Cond.static yX10_sharedMeasure, Cond.code yX10_sharedMeasure cX10_sharedMeasure 6 (some .int), Cond.methodLink RL 125 yX11_meanWait, Cond.instanceMethod yX11_meanWait, Cond.selects RX11 yX11_meanWait yX11_meanWait, Cond.code yX11_meanWait cX11_meanWait 9 (some .long), Cond.constantLong RX11 350 (4000000000000000000), Cond.methodLink RX11 352 yX11_divisor, Cond.static yX11_divisor, Cond.code yX11_divisor cX11_divisor 10 (some .long)]
theorem wr_43 : ∀ w ∈ wsL_law_r43, w ∈ lw_tbl := by
  unfold wsL_law_r43
  refine List.forall_mem_cons.mpr ⟨tp_5 (q := (⟨"DownAmongFencesModel", "waitSum", "(I)I"⟩, 59)) 0 (by rfl), ?_⟩
  refine List.forall_mem_cons.mpr ⟨tb_7 75 (by rfl), ?_⟩
  refine List.forall_mem_cons.mpr ⟨tb_4 104 (by rfl), ?_⟩
  refine List.forall_mem_cons.mpr ⟨tb_4 105 (by rfl), ?_⟩
  refine List.forall_mem_cons.mpr ⟨tb_4 106 (by rfl), ?_⟩
  refine List.forall_mem_cons.mpr ⟨tb_4 107 (by rfl), ?_⟩
  refine List.forall_mem_cons.mpr ⟨tb_4 108 (by rfl), ?_⟩
  refine List.forall_mem_cons.mpr ⟨tb_4 109 (by rfl), ?_⟩
  refine List.forall_mem_cons.mpr ⟨tb_4 110 (by rfl), ?_⟩
  refine List.forall_mem_cons.mpr ⟨tb_4 111 (by rfl), ?_⟩
  refine List.forall_mem_cons.mpr ⟨tb_4 112 (by rfl), ?_⟩
  refine List.forall_mem_cons.mpr ⟨tb_4 113 (by rfl), ?_⟩
  refine List.forall_mem_cons.mpr ⟨tb_4 114 (by rfl), ?_⟩
  refine List.forall_mem_cons.mpr ⟨tb_4 115 (by rfl), ?_⟩
  refine List.forall_mem_cons.mpr ⟨tb_4 116 (by rfl), ?_⟩
  refine List.forall_mem_cons.mpr ⟨tb_4 117 (by rfl), ?_⟩
  refine List.forall_mem_cons.mpr ⟨tb_7 76 (by rfl), ?_⟩
  refine List.forall_mem_cons.mpr ⟨tb_7 77 (by rfl), ?_⟩
  refine List.forall_mem_cons.mpr ⟨tb_7 78 (by rfl), ?_⟩
  refine List.forall_mem_cons.mpr ⟨tb_7 79 (by rfl), ?_⟩
  refine List.forall_mem_cons.mpr ⟨tb_7 80 (by rfl), ?_⟩
  refine List.forall_mem_cons.mpr ⟨tb_7 81 (by rfl), ?_⟩
  refine List.forall_mem_cons.mpr ⟨tb_7 82 (by rfl), ?_⟩
  refine List.forall_mem_cons.mpr ⟨tb_7 83 (by rfl), ?_⟩
  exact fun _ h => absurd h List.not_mem_nil
theorem wg_43 : wsL_law_r43.all goodWord = true := by decide +kernel
def wsL_law_r44 : List Cond := [Cond.methodLink RL 126 yX10_turned, Cond.instanceMethod yX10_turned, Cond.selects RX10 yX10_turned yX10_turned, Cond.code yX10_turned cX10_turned 5 (some .int), Cond.constant RX10 328 (1000000), Cond.methodLink RX10 321 yX8_minutes, Cond.methodLink RX10 324 yX8_measureWithout, Cond.instanceMethod yX8_measureWithout, Cond.selects RX8 yX8_measureWithout yX8_measureWithout, Cond.code yX8_measureWithout cX8_measureWithout 4 none, Cond.methodLink RL 129 yX11_turned, Cond.instanceMethod yX11_turned, Cond.selects RX11 yX11_turned yX11_turned, Cond.code yX11_turned cX11_turned 5 (some .int), Cond.methodLink RL 130 yX10_track, Cond.instanceMethod yX10_track, Cond.selects RX10 yX10_track yX10_track, Cond.code yX10_track cX10_track 2 (some .int), Cond.methodLink RX10 329 yX0_layersThatFit, Cond.instanceMethod yX0_layersThatFit, Cond.selects RX0 yX0_layersThatFit yX0_layersThatFit, Cond.code yX0_layersThatFit cX0_layersThatFit 4 (some .int), Cond.fieldLink RX0 45 "DownAmongFences$Row" "length" "I", Cond.methodLink RX0 51 yX0_layersOfPair]
theorem wr_44 : ∀ w ∈ wsL_law_r44, w ∈ lw_tbl := by
  unfold wsL_law_r44
  refine List.forall_mem_cons.mpr ⟨tb_4 118 (by rfl), ?_⟩
  refine List.forall_mem_cons.mpr ⟨tb_4 119 (by rfl), ?_⟩
  refine List.forall_mem_cons.mpr ⟨tb_4 120 (by rfl), ?_⟩
  refine List.forall_mem_cons.mpr ⟨tb_4 121 (by rfl), ?_⟩
  refine List.forall_mem_cons.mpr ⟨tb_4 128 (by rfl), ?_⟩
  refine List.forall_mem_cons.mpr ⟨tb_4 122 (by rfl), ?_⟩
  refine List.forall_mem_cons.mpr ⟨tb_4 123 (by rfl), ?_⟩
  refine List.forall_mem_cons.mpr ⟨tb_4 124 (by rfl), ?_⟩
  refine List.forall_mem_cons.mpr ⟨tb_4 125 (by rfl), ?_⟩
  refine List.forall_mem_cons.mpr ⟨tb_4 126 (by rfl), ?_⟩
  refine List.forall_mem_cons.mpr ⟨tb_7 84 (by rfl), ?_⟩
  refine List.forall_mem_cons.mpr ⟨tb_7 85 (by rfl), ?_⟩
  refine List.forall_mem_cons.mpr ⟨tb_7 86 (by rfl), ?_⟩
  refine List.forall_mem_cons.mpr ⟨tb_7 87 (by rfl), ?_⟩
  refine List.forall_mem_cons.mpr ⟨tb_4 129 (by rfl), ?_⟩
  refine List.forall_mem_cons.mpr ⟨tb_4 130 (by rfl), ?_⟩
  refine List.forall_mem_cons.mpr ⟨tb_4 131 (by rfl), ?_⟩
  refine List.forall_mem_cons.mpr ⟨tb_4 132 (by rfl), ?_⟩
  refine List.forall_mem_cons.mpr ⟨tb_4 133 (by rfl), ?_⟩
  refine List.forall_mem_cons.mpr ⟨tb_4 134 (by rfl), ?_⟩
  refine List.forall_mem_cons.mpr ⟨tb_4 135 (by rfl), ?_⟩
  refine List.forall_mem_cons.mpr ⟨tb_4 136 (by rfl), ?_⟩
  refine List.forall_mem_cons.mpr ⟨tb_1 199 (by rfl), ?_⟩
  refine List.forall_mem_cons.mpr ⟨tb_4 137 (by rfl), ?_⟩
  exact fun _ h => absurd h List.not_mem_nil
theorem wg_44 : wsL_law_r44.all goodWord = true := by decide +kernel
def wsL_law_r45 : List Cond := [Cond.instanceMethod yX0_layersOfPair, Cond.selects RX0 yX0_layersOfPair yX0_layersOfPair, Cond.code yX0_layersOfPair cX0_layersOfPair 5 (some .int), Cond.methodLink RX0 55 yX7_at, Cond.methodLink RX10 332 yX0_firstPairWithoutLayer, Cond.instanceMethod yX0_firstPairWithoutLayer, Cond.selects RX0 yX0_firstPairWithoutLayer yX0_firstPairWithoutLayer, Cond.code yX0_firstPairWithoutLayer cX0_firstPairWithoutLayer 3 (some .int), Cond.methodLink RL 133 yX11_track, Cond.instanceMethod yX11_track, Cond.selects RX11 yX11_track yX11_track, Cond.code yX11_track cX11_track 8 (some .int), Cond.methodLink RX11 381 yX11_fitsLayer, Cond.instanceMethod yX11_fitsLayer, Cond.selects RX11 yX11_fitsLayer yX11_fitsLayer, Cond.code yX11_fitsLayer cX11_fitsLayer 3 (some .boolean), Cond.methodLink RL 134 yX10_row, Cond.instanceMethod yX10_row, Cond.selects RX10 yX10_row yX10_row, Cond.code yX10_row cX10_row 2 (some .int), Cond.methodLink RL 137 yX11_row, Cond.instanceMethod yX11_row, Cond.selects RX11 yX11_row yX11_row, Cond.code yX11_row cX11_row 2 (some .int)]
theorem wr_45 : ∀ w ∈ wsL_law_r45, w ∈ lw_tbl := by
  unfold wsL_law_r45
  refine List.forall_mem_cons.mpr ⟨tb_4 139 (by rfl), ?_⟩
  refine List.forall_mem_cons.mpr ⟨tp_2 (q := (⟨"DownAmongFences$Air", "layersOfPair", "(LDownAmongFences$Row;I)I"⟩, 2)) 5 (by rfl), ?_⟩
  refine List.forall_mem_cons.mpr ⟨tb_4 140 (by rfl), ?_⟩
  refine List.forall_mem_cons.mpr ⟨tb_4 141 (by rfl), ?_⟩
  refine List.forall_mem_cons.mpr ⟨tb_4 142 (by rfl), ?_⟩
  refine List.forall_mem_cons.mpr ⟨tb_4 143 (by rfl), ?_⟩
  refine List.forall_mem_cons.mpr ⟨tb_4 144 (by rfl), ?_⟩
  refine List.forall_mem_cons.mpr ⟨tb_4 145 (by rfl), ?_⟩
  refine List.forall_mem_cons.mpr ⟨tb_7 164 (by rfl), ?_⟩
  refine List.forall_mem_cons.mpr ⟨tb_7 165 (by rfl), ?_⟩
  refine List.forall_mem_cons.mpr ⟨tb_7 166 (by rfl), ?_⟩
  refine List.forall_mem_cons.mpr ⟨tb_7 167 (by rfl), ?_⟩
  refine List.forall_mem_cons.mpr ⟨tb_7 168 (by rfl), ?_⟩
  refine List.forall_mem_cons.mpr ⟨tb_7 170 (by rfl), ?_⟩
  refine List.forall_mem_cons.mpr ⟨tp_5 (q := (⟨"DownAmongFencesModel", "fitsLayer", "(II)Z"⟩, 59)) 9 (by rfl), ?_⟩
  refine List.forall_mem_cons.mpr ⟨tb_7 171 (by rfl), ?_⟩
  refine List.forall_mem_cons.mpr ⟨tb_4 146 (by rfl), ?_⟩
  refine List.forall_mem_cons.mpr ⟨tb_4 147 (by rfl), ?_⟩
  refine List.forall_mem_cons.mpr ⟨tb_4 148 (by rfl), ?_⟩
  refine List.forall_mem_cons.mpr ⟨tb_4 149 (by rfl), ?_⟩
  refine List.forall_mem_cons.mpr ⟨tb_7 172 (by rfl), ?_⟩
  refine List.forall_mem_cons.mpr ⟨tb_7 173 (by rfl), ?_⟩
  refine List.forall_mem_cons.mpr ⟨tb_7 174 (by rfl), ?_⟩
  refine List.forall_mem_cons.mpr ⟨tb_7 175 (by rfl), ?_⟩
  exact fun _ h => absurd h List.not_mem_nil
theorem wg_45 : wsL_law_r45.all goodWord = true := by decide +kernel
def wsL_law_r46 : List Cond := [Cond.methodLink RL 138 yX10_judge, Cond.instanceMethod yX10_judge, Cond.selects RX10 yX10_judge yX10_judge, Cond.code yX10_judge cX10_judge 2 (some .int), Cond.methodLink RX10 335 yX3_firstHeightUnlike, Cond.instanceMethod yX3_firstHeightUnlike, Cond.selects RX3 yX3_firstHeightUnlike yX3_firstHeightUnlike, Cond.code yX3_firstHeightUnlike cX3_firstHeightUnlike 3 (some .int), Cond.fieldLink RX3 163 "DownAmongFences$Row" "length" "I", Cond.methodLink RX3 168 yX7_at, Cond.methodLink RL 141 yX11_judge, Cond.instanceMethod yX11_judge, Cond.selects RX11 yX11_judge yX11_judge, Cond.code yX11_judge cX11_judge 4 (some .int), Cond.methodLink RL 142 yX10_clear, Cond.instanceMethod yX10_clear, Cond.selects RX10 yX10_clear yX10_clear, Cond.code yX10_clear cX10_clear 2 (some .int), Cond.methodLink RL 145 yX11_clear, Cond.instanceMethod yX11_clear, Cond.selects RX11 yX11_clear yX11_clear, Cond.code yX11_clear cX11_clear 2 (some .int), Cond.methodLink RL 146 yX10_lots, Cond.instanceMethod yX10_lots]
theorem wr_46 : ∀ w ∈ wsL_law_r46, w ∈ lw_tbl := by
  unfold wsL_law_r46
  refine List.forall_mem_cons.mpr ⟨tb_4 150 (by rfl), ?_⟩
  refine List.forall_mem_cons.mpr ⟨tb_4 151 (by rfl), ?_⟩
  refine List.forall_mem_cons.mpr ⟨tb_4 152 (by rfl), ?_⟩
  refine List.forall_mem_cons.mpr ⟨tb_4 153 (by rfl), ?_⟩
  refine List.forall_mem_cons.mpr ⟨tb_4 154 (by rfl), ?_⟩
  refine List.forall_mem_cons.mpr ⟨tb_4 155 (by rfl), ?_⟩
  refine List.forall_mem_cons.mpr ⟨tb_4 156 (by rfl), ?_⟩
  refine List.forall_mem_cons.mpr ⟨tb_4 157 (by rfl), ?_⟩
  refine List.forall_mem_cons.mpr ⟨tb_1 200 (by rfl), ?_⟩
  refine List.forall_mem_cons.mpr ⟨tb_4 158 (by rfl), ?_⟩
  refine List.forall_mem_cons.mpr ⟨tb_7 176 (by rfl), ?_⟩
  refine List.forall_mem_cons.mpr ⟨tb_7 177 (by rfl), ?_⟩
  refine List.forall_mem_cons.mpr ⟨tb_7 178 (by rfl), ?_⟩
  refine List.forall_mem_cons.mpr ⟨tb_7 179 (by rfl), ?_⟩
  refine List.forall_mem_cons.mpr ⟨tb_4 159 (by rfl), ?_⟩
  refine List.forall_mem_cons.mpr ⟨tb_4 160 (by rfl), ?_⟩
  refine List.forall_mem_cons.mpr ⟨tb_4 161 (by rfl), ?_⟩
  refine List.forall_mem_cons.mpr ⟨tb_4 162 (by rfl), ?_⟩
  refine List.forall_mem_cons.mpr ⟨tb_7 180 (by rfl), ?_⟩
  refine List.forall_mem_cons.mpr ⟨tb_7 181 (by rfl), ?_⟩
  refine List.forall_mem_cons.mpr ⟨tb_7 182 (by rfl), ?_⟩
  refine List.forall_mem_cons.mpr ⟨tb_7 183 (by rfl), ?_⟩
  refine List.forall_mem_cons.mpr ⟨tb_4 163 (by rfl), ?_⟩
  refine List.forall_mem_cons.mpr ⟨tb_4 164 (by rfl), ?_⟩
  exact fun _ h => absurd h List.not_mem_nil
theorem wg_46 : wsL_law_r46.all goodWord = true := by decide +kernel
def wsL_law_r47 : List Cond := [Cond.selects RX10 yX10_lots yX10_lots, Cond.code yX10_lots cX10_lots 4 (some .int), Cond.fieldLink RX10 341 "DownAmongFences$Mind" "lotsInFields" "I", Cond.fieldLink RX10 344 "DownAmongFences$Mind" "lotsCost" "I", Cond.methodLink RX10 338 yX3_flyByLot, Cond.instanceMethod yX3_flyByLot, Cond.selects RX3 yX3_flyByLot yX3_flyByLot, Cond.code yX3_flyByLot cX3_flyByLot 6 none, Cond.fieldLink RX3 174 "DownAmongFences$Mind" "lotsInFields" "I", Cond.fieldLink RX3 177 "DownAmongFences$Mind" "lotsCost" "I", Cond.methodLink RX3 180 yX3_flyOneByLot, Cond.instanceMethod yX3_flyOneByLot, Cond.selects RX3 yX3_flyOneByLot yX3_flyOneByLot, Cond.code yX3_flyOneByLot cX3_flyOneByLot 6 (some .int), Cond.constant RX3 183 (1103515245), Cond.constant RX3 184 (2147483647), Cond.constant RX3 185 (65536), Cond.methodLink RX3 171 yX2_able, Cond.methodLink RL 149 yX11_lots, Cond.instanceMethod yX11_lots, Cond.selects RX11 yX11_lots yX11_lots, Cond.code yX11_lots cX11_lots 12 (some .int), Cond.constant RX11 385 (1103515245), Cond.constant RX11 386 (2147483647)]
theorem wr_47 : ∀ w ∈ wsL_law_r47, w ∈ lw_tbl := by
  unfold wsL_law_r47
  refine List.forall_mem_cons.mpr ⟨tb_4 165 (by rfl), ?_⟩
  refine List.forall_mem_cons.mpr ⟨tb_4 166 (by rfl), ?_⟩
  refine List.forall_mem_cons.mpr ⟨tb_2 9 (by rfl), ?_⟩
  refine List.forall_mem_cons.mpr ⟨tb_2 11 (by rfl), ?_⟩
  refine List.forall_mem_cons.mpr ⟨tb_4 167 (by rfl), ?_⟩
  refine List.forall_mem_cons.mpr ⟨tb_4 168 (by rfl), ?_⟩
  refine List.forall_mem_cons.mpr ⟨tb_4 169 (by rfl), ?_⟩
  refine List.forall_mem_cons.mpr ⟨tb_4 170 (by rfl), ?_⟩
  refine List.forall_mem_cons.mpr ⟨tb_2 8 (by rfl), ?_⟩
  refine List.forall_mem_cons.mpr ⟨tb_2 10 (by rfl), ?_⟩
  refine List.forall_mem_cons.mpr ⟨tb_4 171 (by rfl), ?_⟩
  refine List.forall_mem_cons.mpr ⟨tb_4 173 (by rfl), ?_⟩
  refine List.forall_mem_cons.mpr ⟨tp_2 (q := (⟨"DownAmongFences$Mind", "flyOneByLot", "(I)I"⟩, 18)) 6 (by rfl), ?_⟩
  refine List.forall_mem_cons.mpr ⟨tb_4 174 (by rfl), ?_⟩
  refine List.forall_mem_cons.mpr ⟨tb_4 175 (by rfl), ?_⟩
  refine List.forall_mem_cons.mpr ⟨tb_4 176 (by rfl), ?_⟩
  refine List.forall_mem_cons.mpr ⟨tb_4 177 (by rfl), ?_⟩
  refine List.forall_mem_cons.mpr ⟨tb_4 178 (by rfl), ?_⟩
  refine List.forall_mem_cons.mpr ⟨tb_7 184 (by rfl), ?_⟩
  refine List.forall_mem_cons.mpr ⟨tb_7 185 (by rfl), ?_⟩
  refine List.forall_mem_cons.mpr ⟨tb_7 186 (by rfl), ?_⟩
  refine List.forall_mem_cons.mpr ⟨tb_7 187 (by rfl), ?_⟩
  refine List.forall_mem_cons.mpr ⟨tb_7 188 (by rfl), ?_⟩
  refine List.forall_mem_cons.mpr ⟨tb_7 189 (by rfl), ?_⟩
  exact fun _ h => absurd h List.not_mem_nil
theorem wg_47 : wsL_law_r47.all goodWord = true := by decide +kernel
def wsL_law_r48 : List Cond := [Cond.constant RX11 387 (65536), Cond.methodLink RL 150 yX10_crew, Cond.instanceMethod yX10_crew, Cond.selects RX10 yX10_crew yX10_crew, Cond.code yX10_crew cX10_crew 5 (some .int), Cond.methodLink RX10 347 yX3_takePeople, Cond.instanceMethod yX3_takePeople, Cond.selects RX3 yX3_takePeople yX3_takePeople, Cond.code yX3_takePeople cX3_takePeople 2 none, Cond.methodLink RL 153 yX11_crew, Cond.instanceMethod yX11_crew, Cond.selects RX11 yX11_crew yX11_crew, Cond.code yX11_crew cX11_crew 7 (some .int), Cond.methodLink RL 154 yX10_whichLag, Cond.instanceMethod yX10_whichLag, Cond.selects RX10 yX10_whichLag yX10_whichLag, Cond.code yX10_whichLag cX10_whichLag 3 (some .int), Cond.methodLink RX10 350 yX3_takeLag, Cond.instanceMethod yX3_takeLag, Cond.selects RX3 yX3_takeLag yX3_takeLag, Cond.code yX3_takeLag cX3_takeLag 2 none, Cond.methodLink RX3 75 yX2_changeLag, Cond.methodLink RL 157 yX11_whichLag, Cond.instanceMethod yX11_whichLag]
theorem wr_48 : ∀ w ∈ wsL_law_r48, w ∈ lw_tbl := by
  unfold wsL_law_r48
  refine List.forall_mem_cons.mpr ⟨tb_7 190 (by rfl), ?_⟩
  refine List.forall_mem_cons.mpr ⟨tb_4 179 (by rfl), ?_⟩
  refine List.forall_mem_cons.mpr ⟨tb_4 180 (by rfl), ?_⟩
  refine List.forall_mem_cons.mpr ⟨tb_4 181 (by rfl), ?_⟩
  refine List.forall_mem_cons.mpr ⟨tb_4 182 (by rfl), ?_⟩
  refine List.forall_mem_cons.mpr ⟨tb_4 183 (by rfl), ?_⟩
  refine List.forall_mem_cons.mpr ⟨tb_4 184 (by rfl), ?_⟩
  refine List.forall_mem_cons.mpr ⟨tb_4 185 (by rfl), ?_⟩
  refine List.forall_mem_cons.mpr ⟨tb_4 186 (by rfl), ?_⟩
  refine List.forall_mem_cons.mpr ⟨tb_7 88 (by rfl), ?_⟩
  refine List.forall_mem_cons.mpr ⟨tb_7 89 (by rfl), ?_⟩
  refine List.forall_mem_cons.mpr ⟨tb_7 90 (by rfl), ?_⟩
  refine List.forall_mem_cons.mpr ⟨tb_7 91 (by rfl), ?_⟩
  refine List.forall_mem_cons.mpr ⟨tb_4 187 (by rfl), ?_⟩
  refine List.forall_mem_cons.mpr ⟨tb_4 188 (by rfl), ?_⟩
  refine List.forall_mem_cons.mpr ⟨tb_4 189 (by rfl), ?_⟩
  refine List.forall_mem_cons.mpr ⟨tb_4 190 (by rfl), ?_⟩
  refine List.forall_mem_cons.mpr ⟨tb_4 191 (by rfl), ?_⟩
  refine List.forall_mem_cons.mpr ⟨tb_4 192 (by rfl), ?_⟩
  refine List.forall_mem_cons.mpr ⟨tb_4 193 (by rfl), ?_⟩
  refine List.forall_mem_cons.mpr ⟨tb_4 194 (by rfl), ?_⟩
  refine List.forall_mem_cons.mpr ⟨tb_4 195 (by rfl), ?_⟩
  refine List.forall_mem_cons.mpr ⟨tb_7 92 (by rfl), ?_⟩
  refine List.forall_mem_cons.mpr ⟨tb_7 93 (by rfl), ?_⟩
  exact fun _ h => absurd h List.not_mem_nil
theorem wg_48 : wsL_law_r48.all goodWord = true := by decide +kernel
def wsL_law_r49 : List Cond := [Cond.selects RX11 yX11_whichLag yX11_whichLag, Cond.code yX11_whichLag cX11_whichLag 5 (some .int), Cond.methodLink RL 158 yX10_windFor, Cond.instanceMethod yX10_windFor, Cond.selects RX10 yX10_windFor yX10_windFor, Cond.code yX10_windFor cX10_windFor 9 (some .int), Cond.methodLink RX10 353 yX3_takeSide, Cond.instanceMethod yX3_takeSide, Cond.selects RX3 yX3_takeSide yX3_takeSide, Cond.code yX3_takeSide cX3_takeSide 3 none, Cond.methodLink RX3 82 yX0_aheadOf, Cond.methodLink RX3 86 yX0_blow, Cond.methodLink RX10 356 yX3_leadsInto, Cond.instanceMethod yX3_leadsInto, Cond.selects RX3 yX3_leadsInto yX3_leadsInto, Cond.code yX3_leadsInto cX3_leadsInto 4 (some .boolean), Cond.methodLink RL 162 yX11_windFor, Cond.instanceMethod yX11_windFor, Cond.selects RX11 yX11_windFor yX11_windFor, Cond.code yX11_windFor cX11_windFor 11 (some .int), Cond.methodLink RX11 356 yX11_comesTo, Cond.instanceMethod yX11_comesTo, Cond.selects RX11 yX11_comesTo yX11_comesTo, Cond.code yX11_comesTo cX11_comesTo 4 (some .boolean)]
theorem wr_49 : ∀ w ∈ wsL_law_r49, w ∈ lw_tbl := by
  unfold wsL_law_r49
  refine List.forall_mem_cons.mpr ⟨tb_7 94 (by rfl), ?_⟩
  refine List.forall_mem_cons.mpr ⟨tb_7 95 (by rfl), ?_⟩
  refine List.forall_mem_cons.mpr ⟨tb_4 196 (by rfl), ?_⟩
  refine List.forall_mem_cons.mpr ⟨tb_4 197 (by rfl), ?_⟩
  refine List.forall_mem_cons.mpr ⟨tb_4 198 (by rfl), ?_⟩
  refine List.forall_mem_cons.mpr ⟨tb_4 199 (by rfl), ?_⟩
  refine List.forall_mem_cons.mpr ⟨tb_4 200 (by rfl), ?_⟩
  refine List.forall_mem_cons.mpr ⟨tb_4 201 (by rfl), ?_⟩
  refine List.forall_mem_cons.mpr ⟨tb_4 202 (by rfl), ?_⟩
  refine List.forall_mem_cons.mpr ⟨tb_4 203 (by rfl), ?_⟩
  refine List.forall_mem_cons.mpr ⟨tb_4 204 (by rfl), ?_⟩
  refine List.forall_mem_cons.mpr ⟨tb_4 205 (by rfl), ?_⟩
  refine List.forall_mem_cons.mpr ⟨tb_4 206 (by rfl), ?_⟩
  refine List.forall_mem_cons.mpr ⟨tb_4 207 (by rfl), ?_⟩
  refine List.forall_mem_cons.mpr ⟨tb_4 208 (by rfl), ?_⟩
  refine List.forall_mem_cons.mpr ⟨tb_4 209 (by rfl), ?_⟩
  refine List.forall_mem_cons.mpr ⟨tb_7 96 (by rfl), ?_⟩
  refine List.forall_mem_cons.mpr ⟨tb_7 97 (by rfl), ?_⟩
  refine List.forall_mem_cons.mpr ⟨tb_7 98 (by rfl), ?_⟩
  refine List.forall_mem_cons.mpr ⟨tb_7 99 (by rfl), ?_⟩
  refine List.forall_mem_cons.mpr ⟨tb_7 100 (by rfl), ?_⟩
  refine List.forall_mem_cons.mpr ⟨tb_7 102 (by rfl), ?_⟩
  refine List.forall_mem_cons.mpr ⟨tp_5 (q := (⟨"DownAmongFencesModel", "comesTo", "(III)Z"⟩, 59)) 1 (by rfl), ?_⟩
  refine List.forall_mem_cons.mpr ⟨tb_7 103 (by rfl), ?_⟩
  exact fun _ h => absurd h List.not_mem_nil
theorem wg_49 : wsL_law_r49.all goodWord = true := by decide +kernel
def wsL_law_r50 : List Cond := [Cond.methodLink RL 163 yX10_span, Cond.instanceMethod yX10_span, Cond.selects RX10 yX10_span yX10_span, Cond.code yX10_span cX10_span 8 (some .int), Cond.methodLink RL 166 yX11_span, Cond.instanceMethod yX11_span, Cond.selects RX11 yX11_span yX11_span, Cond.code yX11_span cX11_span 8 (some .int), Cond.methodLink RL 167 yX10_flown, Cond.instanceMethod yX10_flown, Cond.selects RX10 yX10_flown yX10_flown, Cond.code yX10_flown cX10_flown 2 (some .int), Cond.fieldLink RX10 364 "DownAmongFences$Flight" "heat" "I", Cond.methodLink RX10 360 yX3_flyActs, Cond.instanceMethod yX3_flyActs, Cond.selects RX3 yX3_flyActs yX3_flyActs, Cond.code yX3_flyActs cX3_flyActs 3 none, Cond.methodLink RL 170 yX11_flown, Cond.instanceMethod yX11_flown, Cond.selects RX11 yX11_flown yX11_flown, Cond.code yX11_flown cX11_flown 4 (some .int), Cond.methodLink RL 171 yX10_ceiling, Cond.instanceMethod yX10_ceiling, Cond.selects RX10 yX10_ceiling yX10_ceiling]
theorem wr_50 : ∀ w ∈ wsL_law_r50, w ∈ lw_tbl := by
  unfold wsL_law_r50
  refine List.forall_mem_cons.mpr ⟨tb_4 210 (by rfl), ?_⟩
  refine List.forall_mem_cons.mpr ⟨tb_4 211 (by rfl), ?_⟩
  refine List.forall_mem_cons.mpr ⟨tb_4 212 (by rfl), ?_⟩
  refine List.forall_mem_cons.mpr ⟨tb_4 213 (by rfl), ?_⟩
  refine List.forall_mem_cons.mpr ⟨tb_7 104 (by rfl), ?_⟩
  refine List.forall_mem_cons.mpr ⟨tb_7 105 (by rfl), ?_⟩
  refine List.forall_mem_cons.mpr ⟨tb_7 106 (by rfl), ?_⟩
  refine List.forall_mem_cons.mpr ⟨tb_7 107 (by rfl), ?_⟩
  refine List.forall_mem_cons.mpr ⟨tb_4 214 (by rfl), ?_⟩
  refine List.forall_mem_cons.mpr ⟨tb_4 215 (by rfl), ?_⟩
  refine List.forall_mem_cons.mpr ⟨tb_4 216 (by rfl), ?_⟩
  refine List.forall_mem_cons.mpr ⟨tb_4 217 (by rfl), ?_⟩
  refine List.forall_mem_cons.mpr ⟨tb_1 100 (by rfl), ?_⟩
  refine List.forall_mem_cons.mpr ⟨tb_4 218 (by rfl), ?_⟩
  refine List.forall_mem_cons.mpr ⟨tb_4 219 (by rfl), ?_⟩
  refine List.forall_mem_cons.mpr ⟨tb_4 220 (by rfl), ?_⟩
  refine List.forall_mem_cons.mpr ⟨tb_4 221 (by rfl), ?_⟩
  refine List.forall_mem_cons.mpr ⟨tb_7 108 (by rfl), ?_⟩
  refine List.forall_mem_cons.mpr ⟨tb_7 109 (by rfl), ?_⟩
  refine List.forall_mem_cons.mpr ⟨tb_7 110 (by rfl), ?_⟩
  refine List.forall_mem_cons.mpr ⟨tb_7 111 (by rfl), ?_⟩
  refine List.forall_mem_cons.mpr ⟨tb_4 222 (by rfl), ?_⟩
  refine List.forall_mem_cons.mpr ⟨tb_4 223 (by rfl), ?_⟩
  refine List.forall_mem_cons.mpr ⟨tb_4 224 (by rfl), ?_⟩
  exact fun _ h => absurd h List.not_mem_nil
theorem wg_50 : wsL_law_r50.all goodWord = true := by decide +kernel
def wsL_law_r51 : List Cond := [Cond.code yX10_ceiling cX10_ceiling 2 (some .int), Cond.fieldLink RX10 370 "DownAmongFences$Mind" "topHeight" "I", Cond.fieldLink RX10 373 "DownAmongFences$Mind" "topStep" "I", Cond.methodLink RX10 367 yX3_climbAll, Cond.instanceMethod yX3_climbAll, Cond.selects RX3 yX3_climbAll yX3_climbAll, Cond.code yX3_climbAll cX3_climbAll 2 none, Cond.fieldLink RX3 186 "DownAmongFences$Mind" "topHeight" "I", Cond.fieldLink RX3 189 "DownAmongFences$Mind" "topStep" "I", Cond.methodLink RL 174 yX11_ceiling, Cond.instanceMethod yX11_ceiling, Cond.selects RX11 yX11_ceiling yX11_ceiling, Cond.code yX11_ceiling cX11_ceiling 5 (some .int), Cond.methodLink RL 175 yX10_game, Cond.instanceMethod yX10_game, Cond.selects RX10 yX10_game yX10_game, Cond.code yX10_game cX10_game 3 (some .int), Cond.methodLink RX10 376 yX3_playGame, Cond.instanceMethod yX3_playGame, Cond.selects RX3 yX3_playGame yX3_playGame, Cond.code yX3_playGame cX3_playGame 3 none, Cond.methodLink RX3 192 yX0_turnAbout, Cond.instanceMethod yX0_turnAbout, Cond.selects RX0 yX0_turnAbout yX0_turnAbout]
theorem wr_51 : ∀ w ∈ wsL_law_r51, w ∈ lw_tbl := by
  unfold wsL_law_r51
  refine List.forall_mem_cons.mpr ⟨tb_4 225 (by rfl), ?_⟩
  refine List.forall_mem_cons.mpr ⟨tb_2 13 (by rfl), ?_⟩
  refine List.forall_mem_cons.mpr ⟨tb_2 15 (by rfl), ?_⟩
  refine List.forall_mem_cons.mpr ⟨tb_4 226 (by rfl), ?_⟩
  refine List.forall_mem_cons.mpr ⟨tb_4 227 (by rfl), ?_⟩
  refine List.forall_mem_cons.mpr ⟨tb_4 228 (by rfl), ?_⟩
  refine List.forall_mem_cons.mpr ⟨tb_4 229 (by rfl), ?_⟩
  refine List.forall_mem_cons.mpr ⟨tb_2 12 (by rfl), ?_⟩
  refine List.forall_mem_cons.mpr ⟨tb_2 14 (by rfl), ?_⟩
  refine List.forall_mem_cons.mpr ⟨tb_7 112 (by rfl), ?_⟩
  refine List.forall_mem_cons.mpr ⟨tb_7 113 (by rfl), ?_⟩
  refine List.forall_mem_cons.mpr ⟨tb_7 114 (by rfl), ?_⟩
  refine List.forall_mem_cons.mpr ⟨tb_7 115 (by rfl), ?_⟩
  refine List.forall_mem_cons.mpr ⟨tb_4 230 (by rfl), ?_⟩
  refine List.forall_mem_cons.mpr ⟨tb_4 231 (by rfl), ?_⟩
  refine List.forall_mem_cons.mpr ⟨tb_4 232 (by rfl), ?_⟩
  refine List.forall_mem_cons.mpr ⟨tb_4 233 (by rfl), ?_⟩
  refine List.forall_mem_cons.mpr ⟨tb_4 234 (by rfl), ?_⟩
  refine List.forall_mem_cons.mpr ⟨tb_4 235 (by rfl), ?_⟩
  refine List.forall_mem_cons.mpr ⟨tb_4 236 (by rfl), ?_⟩
  refine List.forall_mem_cons.mpr ⟨tb_4 237 (by rfl), ?_⟩
  refine List.forall_mem_cons.mpr ⟨tb_4 238 (by rfl), ?_⟩
  refine List.forall_mem_cons.mpr ⟨tb_4 239 (by rfl), ?_⟩
  refine List.forall_mem_cons.mpr ⟨tb_5 0 (by rfl), ?_⟩
  exact fun _ h => absurd h List.not_mem_nil
theorem wg_51 : wsL_law_r51.all goodWord = true := by decide +kernel
def wsL_law_r52 : List Cond := [Cond.code yX0_turnAbout cX0_turnAbout 2 none, Cond.methodLink RX10 379 yX3_surestLoss, Cond.instanceMethod yX3_surestLoss, Cond.selects RX3 yX3_surestLoss yX3_surestLoss, Cond.code yX3_surestLoss cX3_surestLoss 3 (some .int), Cond.methodLink RX3 198 Lib.Math.min.name, Cond.methodLink RX3 195 yX3_lossBy, Cond.instanceMethod yX3_lossBy, Cond.selects RX3 yX3_lossBy yX3_lossBy, Cond.code yX3_lossBy cX3_lossBy 3 (some .int), Cond.methodLink RX10 382 yX3_steadyPair, Cond.instanceMethod yX3_steadyPair, Cond.selects RX3 yX3_steadyPair yX3_steadyPair, Cond.code yX3_steadyPair cX3_steadyPair 4 (some .int), Cond.methodLink RX3 201 yX3_leastLossIf, Cond.instanceMethod yX3_leastLossIf, Cond.selects RX3 yX3_leastLossIf yX3_leastLossIf, Cond.code yX3_leastLossIf cX3_leastLossIf 4 (some .int), Cond.methodLink RX10 385 yX3_lossBy, Cond.methodLink RL 178 yX11_game, Cond.instanceMethod yX11_game, Cond.selects RX11 yX11_game yX11_game, Cond.code yX11_game cX11_game 5 (some .int), Cond.methodLink RX11 366 yX11_layGame]
theorem wr_52 : ∀ w ∈ wsL_law_r52, w ∈ lw_tbl := by
  unfold wsL_law_r52
  refine List.forall_mem_cons.mpr ⟨tb_5 1 (by rfl), ?_⟩
  refine List.forall_mem_cons.mpr ⟨tb_5 2 (by rfl), ?_⟩
  refine List.forall_mem_cons.mpr ⟨tb_5 3 (by rfl), ?_⟩
  refine List.forall_mem_cons.mpr ⟨tb_5 4 (by rfl), ?_⟩
  refine List.forall_mem_cons.mpr ⟨tb_5 5 (by rfl), ?_⟩
  refine List.forall_mem_cons.mpr ⟨tb_5 10 (by rfl), ?_⟩
  refine List.forall_mem_cons.mpr ⟨tb_5 6 (by rfl), ?_⟩
  refine List.forall_mem_cons.mpr ⟨tb_5 7 (by rfl), ?_⟩
  refine List.forall_mem_cons.mpr ⟨tb_5 8 (by rfl), ?_⟩
  refine List.forall_mem_cons.mpr ⟨tb_5 9 (by rfl), ?_⟩
  refine List.forall_mem_cons.mpr ⟨tb_5 11 (by rfl), ?_⟩
  refine List.forall_mem_cons.mpr ⟨tb_5 12 (by rfl), ?_⟩
  refine List.forall_mem_cons.mpr ⟨tb_5 13 (by rfl), ?_⟩
  refine List.forall_mem_cons.mpr ⟨tb_5 14 (by rfl), ?_⟩
  refine List.forall_mem_cons.mpr ⟨tb_5 15 (by rfl), ?_⟩
  refine List.forall_mem_cons.mpr ⟨tb_5 17 (by rfl), ?_⟩
  refine List.forall_mem_cons.mpr ⟨tp_2 (q := (⟨"DownAmongFences$Mind", "leastLossIf", "(I)I"⟩, 18)) 7 (by rfl), ?_⟩
  refine List.forall_mem_cons.mpr ⟨tb_5 18 (by rfl), ?_⟩
  refine List.forall_mem_cons.mpr ⟨tb_5 19 (by rfl), ?_⟩
  refine List.forall_mem_cons.mpr ⟨tb_7 116 (by rfl), ?_⟩
  refine List.forall_mem_cons.mpr ⟨tb_7 117 (by rfl), ?_⟩
  refine List.forall_mem_cons.mpr ⟨tb_7 118 (by rfl), ?_⟩
  refine List.forall_mem_cons.mpr ⟨tb_7 119 (by rfl), ?_⟩
  refine List.forall_mem_cons.mpr ⟨tb_7 120 (by rfl), ?_⟩
  exact fun _ h => absurd h List.not_mem_nil
theorem wg_52 : wsL_law_r52.all goodWord = true := by decide +kernel
def wsL_law_r53 : List Cond := [Cond.instanceMethod yX11_layGame, Cond.selects RX11 yX11_layGame yX11_layGame, Cond.code yX11_layGame cX11_layGame 2 none, Cond.methodLink RX11 360 yX11_turnAir, Cond.instanceMethod yX11_turnAir, Cond.selects RX11 yX11_turnAir yX11_turnAir, Cond.code yX11_turnAir cX11_turnAir 2 none, Cond.methodLink RX11 369 yX11_restingPair, Cond.instanceMethod yX11_restingPair, Cond.selects RX11 yX11_restingPair yX11_restingPair, Cond.code yX11_restingPair cX11_restingPair 4 (some .int), Cond.methodLink RX11 363 yX11_greaterLoss, Cond.instanceMethod yX11_greaterLoss, Cond.selects RX11 yX11_greaterLoss yX11_greaterLoss, Cond.code yX11_greaterLoss cX11_greaterLoss 2 (some .int), Cond.methodLink RL 179 yX10_another, Cond.instanceMethod yX10_another, Cond.selects RX10 yX10_another yX10_another, Cond.code yX10_another cX10_another 6 (some .int), Cond.methodLink RX10 388 Lib.Math.abs.name, Cond.methodLink RL 182 yX11_another, Cond.instanceMethod yX11_another, Cond.selects RX11 yX11_another yX11_another, Cond.code yX11_another cX11_another 10 (some .int)]
theorem wr_53 : ∀ w ∈ wsL_law_r53, w ∈ lw_tbl := by
  unfold wsL_law_r53
  refine List.forall_mem_cons.mpr ⟨tb_7 122 (by rfl), ?_⟩
  refine List.forall_mem_cons.mpr ⟨tp_5 (q := (⟨"DownAmongFencesModel", "layGame", "()V"⟩, 59)) 2 (by rfl), ?_⟩
  refine List.forall_mem_cons.mpr ⟨tb_7 123 (by rfl), ?_⟩
  refine List.forall_mem_cons.mpr ⟨tb_7 124 (by rfl), ?_⟩
  refine List.forall_mem_cons.mpr ⟨tb_7 126 (by rfl), ?_⟩
  refine List.forall_mem_cons.mpr ⟨tp_5 (q := (⟨"DownAmongFencesModel", "turnAir", "()V"⟩, 59)) 3 (by rfl), ?_⟩
  refine List.forall_mem_cons.mpr ⟨tb_7 127 (by rfl), ?_⟩
  refine List.forall_mem_cons.mpr ⟨tb_7 128 (by rfl), ?_⟩
  refine List.forall_mem_cons.mpr ⟨tb_7 130 (by rfl), ?_⟩
  refine List.forall_mem_cons.mpr ⟨tp_5 (q := (⟨"DownAmongFencesModel", "restingPair", "()I"⟩, 59)) 4 (by rfl), ?_⟩
  refine List.forall_mem_cons.mpr ⟨tb_7 131 (by rfl), ?_⟩
  refine List.forall_mem_cons.mpr ⟨tb_7 132 (by rfl), ?_⟩
  refine List.forall_mem_cons.mpr ⟨tb_7 134 (by rfl), ?_⟩
  refine List.forall_mem_cons.mpr ⟨tp_5 (q := (⟨"DownAmongFencesModel", "greaterLoss", "(I)I"⟩, 59)) 5 (by rfl), ?_⟩
  refine List.forall_mem_cons.mpr ⟨tb_7 135 (by rfl), ?_⟩
  refine List.forall_mem_cons.mpr ⟨tb_5 20 (by rfl), ?_⟩
  refine List.forall_mem_cons.mpr ⟨tb_5 21 (by rfl), ?_⟩
  refine List.forall_mem_cons.mpr ⟨tb_5 22 (by rfl), ?_⟩
  refine List.forall_mem_cons.mpr ⟨tb_5 23 (by rfl), ?_⟩
  refine List.forall_mem_cons.mpr ⟨tb_5 24 (by rfl), ?_⟩
  refine List.forall_mem_cons.mpr ⟨tb_7 136 (by rfl), ?_⟩
  refine List.forall_mem_cons.mpr ⟨tb_7 137 (by rfl), ?_⟩
  refine List.forall_mem_cons.mpr ⟨tb_7 138 (by rfl), ?_⟩
  refine List.forall_mem_cons.mpr ⟨tb_7 139 (by rfl), ?_⟩
  exact fun _ h => absurd h List.not_mem_nil
theorem wg_53 : wsL_law_r53.all goodWord = true := by decide +kernel
def wsL_law_r54 : List Cond := [Cond.methodLink RL 183 yX10_chase, Cond.instanceMethod yX10_chase, Cond.selects RX10 yX10_chase yX10_chase, Cond.code yX10_chase cX10_chase 6 (some .int), Cond.methodLink RX10 393 yX6_nearestTo, Cond.static yX6_nearestTo, Cond.code yX6_nearestTo cX6_nearestTo 3 (some .int), Cond.methodLink RX6 23 Lib.Math.abs.name, Cond.methodLink RL 186 yX11_chase, Cond.instanceMethod yX11_chase, Cond.selects RX11 yX11_chase yX11_chase, Cond.code yX11_chase cX11_chase 6 (some .int), Cond.methodLink RX11 372 yX11_placeNear, Cond.instanceMethod yX11_placeNear, Cond.selects RX11 yX11_placeNear yX11_placeNear, Cond.code yX11_placeNear cX11_placeNear 4 (some .int), Cond.methodLink RL 187 yX10_tour, Cond.instanceMethod yX10_tour, Cond.selects RX10 yX10_tour yX10_tour, Cond.code yX10_tour cX10_tour 5 (some .int), Cond.methodLink RX10 396 yX8_seekTours, Cond.instanceMethod yX8_seekTours, Cond.selects RX8 yX8_seekTours yX8_seekTours, Cond.code yX8_seekTours cX8_seekTours 4 none]
theorem wr_54 : ∀ w ∈ wsL_law_r54, w ∈ lw_tbl := by
  unfold wsL_law_r54
  refine List.forall_mem_cons.mpr ⟨tb_5 25 (by rfl), ?_⟩
  refine List.forall_mem_cons.mpr ⟨tb_5 26 (by rfl), ?_⟩
  refine List.forall_mem_cons.mpr ⟨tb_5 27 (by rfl), ?_⟩
  refine List.forall_mem_cons.mpr ⟨tb_5 28 (by rfl), ?_⟩
  refine List.forall_mem_cons.mpr ⟨tb_5 29 (by rfl), ?_⟩
  refine List.forall_mem_cons.mpr ⟨tb_5 30 (by rfl), ?_⟩
  refine List.forall_mem_cons.mpr ⟨tb_5 31 (by rfl), ?_⟩
  refine List.forall_mem_cons.mpr ⟨tb_5 32 (by rfl), ?_⟩
  refine List.forall_mem_cons.mpr ⟨tb_7 140 (by rfl), ?_⟩
  refine List.forall_mem_cons.mpr ⟨tb_7 141 (by rfl), ?_⟩
  refine List.forall_mem_cons.mpr ⟨tb_7 142 (by rfl), ?_⟩
  refine List.forall_mem_cons.mpr ⟨tb_7 143 (by rfl), ?_⟩
  refine List.forall_mem_cons.mpr ⟨tb_7 144 (by rfl), ?_⟩
  refine List.forall_mem_cons.mpr ⟨tb_7 146 (by rfl), ?_⟩
  refine List.forall_mem_cons.mpr ⟨tp_5 (q := (⟨"DownAmongFencesModel", "placeNear", "(I)I"⟩, 59)) 6 (by rfl), ?_⟩
  refine List.forall_mem_cons.mpr ⟨tb_7 147 (by rfl), ?_⟩
  refine List.forall_mem_cons.mpr ⟨tb_5 33 (by rfl), ?_⟩
  refine List.forall_mem_cons.mpr ⟨tb_5 34 (by rfl), ?_⟩
  refine List.forall_mem_cons.mpr ⟨tb_5 35 (by rfl), ?_⟩
  refine List.forall_mem_cons.mpr ⟨tb_5 36 (by rfl), ?_⟩
  refine List.forall_mem_cons.mpr ⟨tb_5 37 (by rfl), ?_⟩
  refine List.forall_mem_cons.mpr ⟨tb_5 38 (by rfl), ?_⟩
  refine List.forall_mem_cons.mpr ⟨tb_5 39 (by rfl), ?_⟩
  refine List.forall_mem_cons.mpr ⟨tb_5 40 (by rfl), ?_⟩
  exact fun _ h => absurd h List.not_mem_nil
theorem wg_54 : wsL_law_r54.all goodWord = true := by decide +kernel
def wsL_law_r55 : List Cond := [Cond.methodLink RX8 53 yX8_fewestFrom, Cond.instanceMethod yX8_fewestFrom, Cond.selects RX8 yX8_fewestFrom yX8_fewestFrom, Cond.code yX8_fewestFrom cX8_fewestFrom 5 (some .int), Cond.methodLink RX8 60 Lib.Math.min.name, Cond.methodLink RX8 56 yX8_throughFirst, Cond.instanceMethod yX8_throughFirst, Cond.selects RX8 yX8_throughFirst yX8_throughFirst, Cond.code yX8_throughFirst cX8_throughFirst 4 (some .int), Cond.methodLink RX8 65 yX8_restOf, Cond.instanceMethod yX8_restOf, Cond.selects RX8 yX8_restOf yX8_restOf, Cond.code yX8_restOf cX8_restOf 3 (some .int), Cond.methodLink RX10 399 yX8_tourMinutes, Cond.instanceMethod yX8_tourMinutes, Cond.selects RX8 yX8_tourMinutes yX8_tourMinutes, Cond.code yX8_tourMinutes cX8_tourMinutes 4 (some .int), Cond.methodLink RX10 402 yX8_tourFirst, Cond.instanceMethod yX8_tourFirst, Cond.selects RX8 yX8_tourFirst yX8_tourFirst, Cond.code yX8_tourFirst cX8_tourFirst 5 (some .int), Cond.methodLink RL 190 yX11_tour, Cond.instanceMethod yX11_tour, Cond.selects RX11 yX11_tour yX11_tour]
theorem wr_55 : ∀ w ∈ wsL_law_r55, w ∈ lw_tbl := by
  unfold wsL_law_r55
  refine List.forall_mem_cons.mpr ⟨tb_5 41 (by rfl), ?_⟩
  refine List.forall_mem_cons.mpr ⟨tb_5 43 (by rfl), ?_⟩
  refine List.forall_mem_cons.mpr ⟨tp_2 (q := (⟨"DownAmongFences$Ways", "fewestFrom", "(II)I"⟩, 2)) 8 (by rfl), ?_⟩
  refine List.forall_mem_cons.mpr ⟨tb_5 44 (by rfl), ?_⟩
  refine List.forall_mem_cons.mpr ⟨tb_5 53 (by rfl), ?_⟩
  refine List.forall_mem_cons.mpr ⟨tb_5 45 (by rfl), ?_⟩
  refine List.forall_mem_cons.mpr ⟨tb_5 47 (by rfl), ?_⟩
  refine List.forall_mem_cons.mpr ⟨tp_2 (q := (⟨"DownAmongFences$Ways", "throughFirst", "(III)I"⟩, 2)) 9 (by rfl), ?_⟩
  refine List.forall_mem_cons.mpr ⟨tb_5 48 (by rfl), ?_⟩
  refine List.forall_mem_cons.mpr ⟨tb_5 49 (by rfl), ?_⟩
  refine List.forall_mem_cons.mpr ⟨tb_5 51 (by rfl), ?_⟩
  refine List.forall_mem_cons.mpr ⟨tp_2 (q := (⟨"DownAmongFences$Ways", "restOf", "(II)I"⟩, 2)) 10 (by rfl), ?_⟩
  refine List.forall_mem_cons.mpr ⟨tb_5 52 (by rfl), ?_⟩
  refine List.forall_mem_cons.mpr ⟨tb_5 54 (by rfl), ?_⟩
  refine List.forall_mem_cons.mpr ⟨tb_5 55 (by rfl), ?_⟩
  refine List.forall_mem_cons.mpr ⟨tb_5 56 (by rfl), ?_⟩
  refine List.forall_mem_cons.mpr ⟨tb_5 57 (by rfl), ?_⟩
  refine List.forall_mem_cons.mpr ⟨tb_5 58 (by rfl), ?_⟩
  refine List.forall_mem_cons.mpr ⟨tb_5 59 (by rfl), ?_⟩
  refine List.forall_mem_cons.mpr ⟨tb_5 60 (by rfl), ?_⟩
  refine List.forall_mem_cons.mpr ⟨tb_5 61 (by rfl), ?_⟩
  refine List.forall_mem_cons.mpr ⟨tb_7 148 (by rfl), ?_⟩
  refine List.forall_mem_cons.mpr ⟨tb_7 149 (by rfl), ?_⟩
  refine List.forall_mem_cons.mpr ⟨tb_7 150 (by rfl), ?_⟩
  exact fun _ h => absurd h List.not_mem_nil
theorem wg_55 : wsL_law_r55.all goodWord = true := by decide +kernel
def wsL_law_r56 : List Cond := [Cond.code yX11_tour cX11_tour 8 (some .int), Cond.methodLink RX11 375 yX11_layBetween, Cond.instanceMethod yX11_layBetween, Cond.selects RX11 yX11_layBetween yX11_layBetween, Cond.code yX11_layBetween cX11_layBetween 3 none, Cond.methodLink RX11 378 yX11_layTours, Cond.instanceMethod yX11_layTours, Cond.selects RX11 yX11_layTours yX11_layTours, Cond.code yX11_layTours cX11_layTours 7 none, Cond.methodLink RL 191 yX10_twoCars, Cond.instanceMethod yX10_twoCars, Cond.selects RX10 yX10_twoCars yX10_twoCars, Cond.code yX10_twoCars cX10_twoCars 4 (some .int), Cond.methodLink RL 194 yX11_twoCars, Cond.instanceMethod yX11_twoCars, Cond.selects RX11 yX11_twoCars yX11_twoCars, Cond.code yX11_twoCars cX11_twoCars 4 (some .int), Cond.methodLink RL 195 yX10_image, Cond.instanceMethod yX10_image, Cond.selects RX10 yX10_image yX10_image, Cond.code yX10_image cX10_image 1 (some .int), Cond.fieldLink RX10 405 "DownAmongFences" "pictured" "Z", Cond.methodLink RL 198 yX11_image, Cond.instanceMethod yX11_image]
theorem wr_56 : ∀ w ∈ wsL_law_r56, w ∈ lw_tbl := by
  unfold wsL_law_r56
  refine List.forall_mem_cons.mpr ⟨tb_7 151 (by rfl), ?_⟩
  refine List.forall_mem_cons.mpr ⟨tb_7 152 (by rfl), ?_⟩
  refine List.forall_mem_cons.mpr ⟨tb_7 154 (by rfl), ?_⟩
  refine List.forall_mem_cons.mpr ⟨tp_5 (q := (⟨"DownAmongFencesModel", "layBetween", "()V"⟩, 59)) 7 (by rfl), ?_⟩
  refine List.forall_mem_cons.mpr ⟨tb_7 155 (by rfl), ?_⟩
  refine List.forall_mem_cons.mpr ⟨tb_7 156 (by rfl), ?_⟩
  refine List.forall_mem_cons.mpr ⟨tb_7 158 (by rfl), ?_⟩
  refine List.forall_mem_cons.mpr ⟨tp_5 (q := (⟨"DownAmongFencesModel", "layTours", "()V"⟩, 59)) 8 (by rfl), ?_⟩
  refine List.forall_mem_cons.mpr ⟨tb_7 159 (by rfl), ?_⟩
  refine List.forall_mem_cons.mpr ⟨tb_5 62 (by rfl), ?_⟩
  refine List.forall_mem_cons.mpr ⟨tb_5 63 (by rfl), ?_⟩
  refine List.forall_mem_cons.mpr ⟨tb_5 64 (by rfl), ?_⟩
  refine List.forall_mem_cons.mpr ⟨tb_5 65 (by rfl), ?_⟩
  refine List.forall_mem_cons.mpr ⟨tb_7 160 (by rfl), ?_⟩
  refine List.forall_mem_cons.mpr ⟨tb_7 161 (by rfl), ?_⟩
  refine List.forall_mem_cons.mpr ⟨tb_7 162 (by rfl), ?_⟩
  refine List.forall_mem_cons.mpr ⟨tb_7 163 (by rfl), ?_⟩
  refine List.forall_mem_cons.mpr ⟨tb_5 66 (by rfl), ?_⟩
  refine List.forall_mem_cons.mpr ⟨tb_5 67 (by rfl), ?_⟩
  refine List.forall_mem_cons.mpr ⟨tb_5 68 (by rfl), ?_⟩
  refine List.forall_mem_cons.mpr ⟨tb_5 69 (by rfl), ?_⟩
  refine List.forall_mem_cons.mpr ⟨tb_2 70 (by rfl), ?_⟩
  refine List.forall_mem_cons.mpr ⟨tb_6 123 (by rfl), ?_⟩
  refine List.forall_mem_cons.mpr ⟨tb_6 124 (by rfl), ?_⟩
  exact fun _ h => absurd h List.not_mem_nil
theorem wg_56 : wsL_law_r56.all goodWord = true := by decide +kernel
def wsL_law_r57 : List Cond := [Cond.selects RX11 yX11_image yX11_image, Cond.code yX11_image cX11_image 1 (some .int), Cond.fieldLink RX11 246 "DownAmongFencesModel" "hasImage" "Z", Cond.methodLink RL 199 yX10_restore, Cond.instanceMethod yX10_restore, Cond.selects RX10 yX10_restore yX10_restore, Cond.code yX10_restore cX10_restore 1 (some .int), Cond.methodLink RL 202 yX11_restore, Cond.instanceMethod yX11_restore, Cond.selects RX11 yX11_restore yX11_restore, Cond.code yX11_restore cX11_restore 1 (some .int), Cond.methodLink RL 203 yX10_count, Cond.instanceMethod yX10_count, Cond.selects RX10 yX10_count yX10_count, Cond.code yX10_count cX10_count 2 (some .int), Cond.fieldLink RX10 412 "DownAmongFences$Flight" "lag" "I", Cond.methodLink RL 206 yX11_count, Cond.instanceMethod yX11_count, Cond.selects RX11 yX11_count yX11_count, Cond.code yX11_count cX11_count 2 (some .int), Cond.constantLong RX11 388 (11), Cond.constantLong RX11 390 (16)]
theorem wr_57 : ∀ w ∈ wsL_law_r57, w ∈ lw_tbl := by
  unfold wsL_law_r57
  refine List.forall_mem_cons.mpr ⟨tb_6 125 (by rfl), ?_⟩
  refine List.forall_mem_cons.mpr ⟨tb_6 126 (by rfl), ?_⟩
  refine List.forall_mem_cons.mpr ⟨tb_5 117 (by rfl), ?_⟩
  refine List.forall_mem_cons.mpr ⟨tb_5 70 (by rfl), ?_⟩
  refine List.forall_mem_cons.mpr ⟨tb_5 71 (by rfl), ?_⟩
  refine List.forall_mem_cons.mpr ⟨tb_5 72 (by rfl), ?_⟩
  refine List.forall_mem_cons.mpr ⟨tb_5 73 (by rfl), ?_⟩
  refine List.forall_mem_cons.mpr ⟨tb_6 127 (by rfl), ?_⟩
  refine List.forall_mem_cons.mpr ⟨tb_6 128 (by rfl), ?_⟩
  refine List.forall_mem_cons.mpr ⟨tb_6 129 (by rfl), ?_⟩
  refine List.forall_mem_cons.mpr ⟨tb_6 130 (by rfl), ?_⟩
  refine List.forall_mem_cons.mpr ⟨tb_5 74 (by rfl), ?_⟩
  refine List.forall_mem_cons.mpr ⟨tb_5 75 (by rfl), ?_⟩
  refine List.forall_mem_cons.mpr ⟨tb_5 76 (by rfl), ?_⟩
  refine List.forall_mem_cons.mpr ⟨tb_5 77 (by rfl), ?_⟩
  refine List.forall_mem_cons.mpr ⟨tb_1 111 (by rfl), ?_⟩
  refine List.forall_mem_cons.mpr ⟨tb_7 191 (by rfl), ?_⟩
  refine List.forall_mem_cons.mpr ⟨tb_7 192 (by rfl), ?_⟩
  refine List.forall_mem_cons.mpr ⟨tb_7 193 (by rfl), ?_⟩
  refine List.forall_mem_cons.mpr ⟨tb_7 194 (by rfl), ?_⟩
  refine List.forall_mem_cons.mpr ⟨tb_7 195 (by rfl), ?_⟩
  refine List.forall_mem_cons.mpr ⟨tb_7 196 (by rfl), ?_⟩
  exact fun _ h => absurd h List.not_mem_nil
theorem wg_57 : wsL_law_r57.all goodWord = true := by decide +kernel
theorem wrX_0 : ∀ w ∈ wsX00, w ∈ lw_tbl := by
  show ∀ w ∈ (List.range 2).map (u_lay RX0 TX0), w ∈ lw_tbl
  intro w h
  obtain ⟨k, hk, rfl⟩ := List.mem_map.mp h
  have hk := List.mem_range.mp hk
  match k, hk with
  | 0, _ => exact tb_1 36 (by rfl)
  | 1, _ => exact tb_1 38 (by rfl)
  | k + 2, hk => exact absurd hk (by omega)
theorem wgX_0 : wsX00.all goodWord = true := by decide +kernel
theorem wrX_1 : ∀ w ∈ wsX10, w ∈ lw_tbl := by
  show ∀ w ∈ (List.range 6).map (u_lay RX1 TX1), w ∈ lw_tbl
  intro w h
  obtain ⟨k, hk, rfl⟩ := List.mem_map.mp h
  have hk := List.mem_range.mp hk
  match k, hk with
  | 0, _ => exact tb_1 55 (by rfl)
  | 1, _ => exact tb_1 57 (by rfl)
  | 2, _ => exact tb_1 59 (by rfl)
  | 3, _ => exact tb_1 61 (by rfl)
  | 4, _ => exact tb_1 63 (by rfl)
  | 5, _ => exact tb_1 65 (by rfl)
  | k + 6, hk => exact absurd hk (by omega)
theorem wgX_1 : wsX10.all goodWord = true := by decide +kernel
theorem wrX_2 : ∀ w ∈ wsX20, w ∈ lw_tbl := by
  show ∀ w ∈ (List.range 10).map (u_lay RX2 TX2), w ∈ lw_tbl
  intro w h
  obtain ⟨k, hk, rfl⟩ := List.mem_map.mp h
  have hk := List.mem_range.mp hk
  match k, hk with
  | 0, _ => exact tb_1 120 (by rfl)
  | 1, _ => exact tb_1 122 (by rfl)
  | 2, _ => exact tb_1 124 (by rfl)
  | 3, _ => exact tb_1 126 (by rfl)
  | 4, _ => exact tb_1 128 (by rfl)
  | 5, _ => exact tb_1 130 (by rfl)
  | 6, _ => exact tb_1 132 (by rfl)
  | 7, _ => exact tb_1 134 (by rfl)
  | 8, _ => exact tb_1 136 (by rfl)
  | 9, _ => exact tb_1 138 (by rfl)
  | k + 10, hk => exact absurd hk (by omega)
theorem wgX_2 : wsX20.all goodWord = true := by decide +kernel
theorem wrX_3 : ∀ w ∈ wsX30, w ∈ lw_tbl := by
  show ∀ w ∈ (List.range 18).map (u_lay RX3 TX3), w ∈ lw_tbl
  intro w h
  obtain ⟨k, hk, rfl⟩ := List.mem_map.mp h
  have hk := List.mem_range.mp hk
  match k, hk with
  | 0, _ => exact tb_2 17 (by rfl)
  | 1, _ => exact tb_2 19 (by rfl)
  | 2, _ => exact tb_2 21 (by rfl)
  | 3, _ => exact tb_2 23 (by rfl)
  | 4, _ => exact tb_2 25 (by rfl)
  | 5, _ => exact tb_2 27 (by rfl)
  | 6, _ => exact tb_2 29 (by rfl)
  | 7, _ => exact tb_2 31 (by rfl)
  | 8, _ => exact tb_2 33 (by rfl)
  | 9, _ => exact tb_2 35 (by rfl)
  | 10, _ => exact tb_2 37 (by rfl)
  | 11, _ => exact tb_2 39 (by rfl)
  | 12, _ => exact tb_2 41 (by rfl)
  | 13, _ => exact tb_2 43 (by rfl)
  | 14, _ => exact tb_2 45 (by rfl)
  | 15, _ => exact tb_2 47 (by rfl)
  | 16, _ => exact tb_2 49 (by rfl)
  | 17, _ => exact tb_2 51 (by rfl)
  | k + 18, hk => exact absurd hk (by omega)
theorem wgX_3 : wsX30.all goodWord = true := by decide +kernel
theorem wrX_4 : ∀ w ∈ wsX40, w ∈ lw_tbl := by
  show ∀ w ∈ (List.range 3).map (u_lay RX4 TX4), w ∈ lw_tbl
  intro w h
  obtain ⟨k, hk, rfl⟩ := List.mem_map.mp h
  have hk := List.mem_range.mp hk
  match k, hk with
  | 0, _ => exact tb_1 178 (by rfl)
  | 1, _ => exact tb_1 180 (by rfl)
  | 2, _ => exact tb_1 182 (by rfl)
  | k + 3, hk => exact absurd hk (by omega)
theorem wgX_4 : wsX40.all goodWord = true := by decide +kernel
theorem wrX_5 : ∀ w ∈ wsX50, w ∈ lw_tbl := by
  show ∀ w ∈ (List.range 1).map (u_lay RX5 TX5), w ∈ lw_tbl
  intro w h
  obtain ⟨k, hk, rfl⟩ := List.mem_map.mp h
  have hk := List.mem_range.mp hk
  match k, hk with
  | 0, _ => exact tb_1 210 (by rfl)
  | k + 1, hk => exact absurd hk (by omega)
theorem wgX_5 : wsX50.all goodWord = true := by decide +kernel
theorem wrX_6 : ∀ w ∈ wsX60, w ∈ lw_tbl := by
  show ∀ w ∈ (List.range 2).map (u_lay RX6 TX6), w ∈ lw_tbl
  intro w h
  obtain ⟨k, hk, rfl⟩ := List.mem_map.mp h
  have hk := List.mem_range.mp hk
  match k, hk with
  | 0, _ => exact tb_1 77 (by rfl)
  | 1, _ => exact tb_1 79 (by rfl)
  | k + 2, hk => exact absurd hk (by omega)
theorem wgX_6 : wsX60.all goodWord = true := by decide +kernel
theorem wrX_7 : ∀ w ∈ wsX70, w ∈ lw_tbl := by
  show ∀ w ∈ (List.range 2).map (u_lay RX7 TX7), w ∈ lw_tbl
  intro w h
  obtain ⟨k, hk, rfl⟩ := List.mem_map.mp h
  have hk := List.mem_range.mp hk
  match k, hk with
  | 0, _ => exact tb_1 203 (by rfl)
  | 1, _ => exact tb_1 205 (by rfl)
  | k + 2, hk => exact absurd hk (by omega)
theorem wgX_7 : wsX70.all goodWord = true := by decide +kernel
theorem wrX_8 : ∀ w ∈ wsX80, w ∈ lw_tbl := by
  show ∀ w ∈ (List.range 2).map (u_lay RX8 TX8), w ∈ lw_tbl
  intro w h
  obtain ⟨k, hk, rfl⟩ := List.mem_map.mp h
  have hk := List.mem_range.mp hk
  match k, hk with
  | 0, _ => exact tb_2 62 (by rfl)
  | 1, _ => exact tb_2 64 (by rfl)
  | k + 2, hk => exact absurd hk (by omega)
theorem wgX_8 : wsX80.all goodWord = true := by decide +kernel
theorem wrX_9 : ∀ w ∈ wsX90, w ∈ lw_tbl := by
  show ∀ w ∈ (List.range 4).map (u_lay RX9 TX9), w ∈ lw_tbl
  intro w h
  obtain ⟨k, hk, rfl⟩ := List.mem_map.mp h
  have hk := List.mem_range.mp hk
  match k, hk with
  | 0, _ => exact tb_1 156 (by rfl)
  | 1, _ => exact tb_1 158 (by rfl)
  | 2, _ => exact tb_1 160 (by rfl)
  | 3, _ => exact tb_1 162 (by rfl)
  | k + 4, hk => exact absurd hk (by omega)
theorem wgX_9 : wsX90.all goodWord = true := by decide +kernel
theorem wrX_10 : ∀ w ∈ wsX100, w ∈ lw_tbl := by
  show ∀ w ∈ (List.range 10).map (u_lay RX10 TX10), w ∈ lw_tbl
  intro w h
  obtain ⟨k, hk, rfl⟩ := List.mem_map.mp h
  have hk := List.mem_range.mp hk
  match k, hk with
  | 0, _ => exact tb_2 77 (by rfl)
  | 1, _ => exact tb_2 79 (by rfl)
  | 2, _ => exact tb_2 81 (by rfl)
  | 3, _ => exact tb_2 83 (by rfl)
  | 4, _ => exact tb_2 85 (by rfl)
  | 5, _ => exact tb_2 87 (by rfl)
  | 6, _ => exact tb_2 89 (by rfl)
  | 7, _ => exact tb_2 91 (by rfl)
  | 8, _ => exact tb_2 93 (by rfl)
  | 9, _ => exact tb_2 95 (by rfl)
  | k + 10, hk => exact absurd hk (by omega)
theorem wgX_10 : wsX100.all goodWord = true := by decide +kernel
theorem wrX_11 : ∀ w ∈ wsX110, w ∈ lw_tbl := by
  show ∀ w ∈ (List.range 59).map (u_lay RX11 TX11), w ∈ lw_tbl
  intro w h
  obtain ⟨k, hk, rfl⟩ := List.mem_map.mp h
  have hk := List.mem_range.mp hk
  match k, hk with
  | 0, _ => exact tb_5 143 (by rfl)
  | 1, _ => exact tb_5 145 (by rfl)
  | 2, _ => exact tb_5 147 (by rfl)
  | 3, _ => exact tb_5 149 (by rfl)
  | 4, _ => exact tb_5 151 (by rfl)
  | 5, _ => exact tb_5 153 (by rfl)
  | 6, _ => exact tb_5 155 (by rfl)
  | 7, _ => exact tb_5 157 (by rfl)
  | 8, _ => exact tb_5 159 (by rfl)
  | 9, _ => exact tb_5 161 (by rfl)
  | 10, _ => exact tb_5 163 (by rfl)
  | 11, _ => exact tb_5 165 (by rfl)
  | 12, _ => exact tb_5 167 (by rfl)
  | 13, _ => exact tb_5 169 (by rfl)
  | 14, _ => exact tb_5 171 (by rfl)
  | 15, _ => exact tb_5 173 (by rfl)
  | 16, _ => exact tb_5 175 (by rfl)
  | 17, _ => exact tb_5 177 (by rfl)
  | 18, _ => exact tb_5 179 (by rfl)
  | 19, _ => exact tb_5 181 (by rfl)
  | 20, _ => exact tb_5 183 (by rfl)
  | 21, _ => exact tb_5 185 (by rfl)
  | 22, _ => exact tb_5 187 (by rfl)
  | 23, _ => exact tb_5 189 (by rfl)
  | 24, _ => exact tb_5 191 (by rfl)
  | 25, _ => exact tb_5 193 (by rfl)
  | 26, _ => exact tb_5 195 (by rfl)
  | 27, _ => exact tb_5 197 (by rfl)
  | 28, _ => exact tb_5 199 (by rfl)
  | 29, _ => exact tb_5 201 (by rfl)
  | 30, _ => exact tb_5 203 (by rfl)
  | 31, _ => exact tb_5 205 (by rfl)
  | 32, _ => exact tb_5 207 (by rfl)
  | 33, _ => exact tb_5 209 (by rfl)
  | 34, _ => exact tb_5 211 (by rfl)
  | 35, _ => exact tb_5 213 (by rfl)
  | 36, _ => exact tb_5 215 (by rfl)
  | 37, _ => exact tb_5 217 (by rfl)
  | 38, _ => exact tb_5 219 (by rfl)
  | 39, _ => exact tb_5 221 (by rfl)
  | 40, _ => exact tb_5 223 (by rfl)
  | 41, _ => exact tb_5 225 (by rfl)
  | 42, _ => exact tb_5 227 (by rfl)
  | 43, _ => exact tb_5 229 (by rfl)
  | 44, _ => exact tb_5 231 (by rfl)
  | 45, _ => exact tb_5 233 (by rfl)
  | 46, _ => exact tb_5 235 (by rfl)
  | 47, _ => exact tb_5 237 (by rfl)
  | 48, _ => exact tb_5 239 (by rfl)
  | 49, _ => exact tb_6 1 (by rfl)
  | 50, _ => exact tb_6 3 (by rfl)
  | 51, _ => exact tb_6 5 (by rfl)
  | 52, _ => exact tb_6 7 (by rfl)
  | 53, _ => exact tb_6 9 (by rfl)
  | 54, _ => exact tb_6 11 (by rfl)
  | 55, _ => exact tb_6 13 (by rfl)
  | 56, _ => exact tb_6 15 (by rfl)
  | 57, _ => exact tb_6 17 (by rfl)
  | 58, _ => exact tb_6 19 (by rfl)
  | k + 59, hk => exact absurd hk (by omega)
theorem wgX_11 : wsX110.all goodWord = true := by decide +kernel
def wsL_law : List Cond := (wsL_law_r1 ++ (wsL_law_r2 ++ (wsL_law_r3 ++ (wsL_law_r4 ++ (wsL_law_r5 ++ (wsL_law_r6 ++ (wsL_law_r7 ++ (wsL_law_r8 ++ (wsL_law_r9 ++ (wsL_law_r10 ++ (wsL_law_r11 ++ (wsL_law_r12 ++ (wsL_law_r13 ++ (wsL_law_r14 ++ (wsL_law_r15 ++ (wsL_law_r16 ++ (wsL_law_r17 ++ (wsL_law_r18 ++ (wsL_law_r19 ++ (wsL_law_r20 ++ (wsL_law_r21 ++ (wsL_law_r22 ++ (wsL_law_r23 ++ (wsL_law_r24 ++ (wsL_law_r25 ++ (wsL_law_r26 ++ (wsL_law_r27 ++ (wsL_law_r28 ++ (wsL_law_r29 ++ (wsL_law_r30 ++ (wsL_law_r31 ++ (wsL_law_r32 ++ (wsL_law_r33 ++ (wsL_law_r34 ++ (wsL_law_r35 ++ (wsL_law_r36 ++ (wsL_law_r37 ++ (wsL_law_r38 ++ (wsL_law_r39 ++ (wsL_law_r40 ++ (wsL_law_r41 ++ (wsL_law_r42 ++ (wsL_law_r43 ++ (wsL_law_r44 ++ (wsL_law_r45 ++ (wsL_law_r46 ++ (wsL_law_r47 ++ (wsL_law_r48 ++ (wsL_law_r49 ++ (wsL_law_r50 ++ (wsL_law_r51 ++ (wsL_law_r52 ++ (wsL_law_r53 ++ (wsL_law_r54 ++ (wsL_law_r55 ++ (wsL_law_r56 ++ wsL_law_r57)))))))))))))))))))))))))))))))))))))))))))))))))))))))) ++ wsX100 ++ wsX110 ++ wsX90 ++ wsX40 ++ wsX50 ++ wsX70 ++ wsX30 ++ wsX80 ++ wsX00 ++ wsX10 ++ wsX60 ++ wsX20 ++ ([] : List Cond)
theorem inlX0 : ∀ w ∈ wsX00, w ∈ wsL_law := fun _ h => List.mem_append_left _ (List.mem_append_left _ (List.mem_append_left _ (List.mem_append_left _ (List.mem_append_right _ h))))
theorem inlX1 : ∀ w ∈ wsX10, w ∈ wsL_law := fun _ h => List.mem_append_left _ (List.mem_append_left _ (List.mem_append_left _ (List.mem_append_right _ h)))
theorem inlX2 : ∀ w ∈ wsX20, w ∈ wsL_law := fun _ h => List.mem_append_left _ (List.mem_append_right _ h)
theorem inlX3 : ∀ w ∈ wsX30, w ∈ wsL_law := fun _ h => List.mem_append_left _ (List.mem_append_left _ (List.mem_append_left _ (List.mem_append_left _ (List.mem_append_left _ (List.mem_append_left _ (List.mem_append_right _ h))))))
theorem inlX4 : ∀ w ∈ wsX40, w ∈ wsL_law := fun _ h => List.mem_append_left _ (List.mem_append_left _ (List.mem_append_left _ (List.mem_append_left _ (List.mem_append_left _ (List.mem_append_left _ (List.mem_append_left _ (List.mem_append_left _ (List.mem_append_left _ (List.mem_append_right _ h)))))))))
theorem inlX5 : ∀ w ∈ wsX50, w ∈ wsL_law := fun _ h => List.mem_append_left _ (List.mem_append_left _ (List.mem_append_left _ (List.mem_append_left _ (List.mem_append_left _ (List.mem_append_left _ (List.mem_append_left _ (List.mem_append_left _ (List.mem_append_right _ h))))))))
theorem inlX6 : ∀ w ∈ wsX60, w ∈ wsL_law := fun _ h => List.mem_append_left _ (List.mem_append_left _ (List.mem_append_right _ h))
theorem inlX7 : ∀ w ∈ wsX70, w ∈ wsL_law := fun _ h => List.mem_append_left _ (List.mem_append_left _ (List.mem_append_left _ (List.mem_append_left _ (List.mem_append_left _ (List.mem_append_left _ (List.mem_append_left _ (List.mem_append_right _ h)))))))
theorem inlX8 : ∀ w ∈ wsX80, w ∈ wsL_law := fun _ h => List.mem_append_left _ (List.mem_append_left _ (List.mem_append_left _ (List.mem_append_left _ (List.mem_append_left _ (List.mem_append_right _ h)))))
theorem inlX9 : ∀ w ∈ wsX90, w ∈ wsL_law := fun _ h => List.mem_append_left _ (List.mem_append_left _ (List.mem_append_left _ (List.mem_append_left _ (List.mem_append_left _ (List.mem_append_left _ (List.mem_append_left _ (List.mem_append_left _ (List.mem_append_left _ (List.mem_append_left _ (List.mem_append_right _ h))))))))))
theorem inlX10 : ∀ w ∈ wsX100, w ∈ wsL_law := fun _ h => List.mem_append_left _ (List.mem_append_left _ (List.mem_append_left _ (List.mem_append_left _ (List.mem_append_left _ (List.mem_append_left _ (List.mem_append_left _ (List.mem_append_left _ (List.mem_append_left _ (List.mem_append_left _ (List.mem_append_left _ (List.mem_append_left _ (List.mem_append_right _ h))))))))))))
theorem inlX11 : ∀ w ∈ wsX110, w ∈ wsL_law := fun _ h => List.mem_append_left _ (List.mem_append_left _ (List.mem_append_left _ (List.mem_append_left _ (List.mem_append_left _ (List.mem_append_left _ (List.mem_append_left _ (List.mem_append_left _ (List.mem_append_left _ (List.mem_append_left _ (List.mem_append_left _ (List.mem_append_right _ h)))))))))))
theorem wm_1 {w : Cond} (i : Nat) (h : wsL_law_r1[i]? = some w) : w ∈ wsL_law := by
  have h := List.mem_of_getElem? h
  exact List.mem_append_left _ (List.mem_append_left _ (List.mem_append_left _ (List.mem_append_left _ (List.mem_append_left _ (List.mem_append_left _ (List.mem_append_left _ (List.mem_append_left _ (List.mem_append_left _ (List.mem_append_left _ (List.mem_append_left _ (List.mem_append_left _ (List.mem_append_left _ (List.mem_append_left _ h)))))))))))))
theorem wm_2 {w : Cond} (i : Nat) (h : wsL_law_r2[i]? = some w) : w ∈ wsL_law := by
  have h := List.mem_of_getElem? h
  exact List.mem_append_left _ (List.mem_append_left _ (List.mem_append_left _ (List.mem_append_left _ (List.mem_append_left _ (List.mem_append_left _ (List.mem_append_left _ (List.mem_append_left _ (List.mem_append_left _ (List.mem_append_left _ (List.mem_append_left _ (List.mem_append_left _ (List.mem_append_left _ (List.mem_append_right _ (List.mem_append_left _ h))))))))))))))
theorem wm_3 {w : Cond} (i : Nat) (h : wsL_law_r3[i]? = some w) : w ∈ wsL_law := by
  have h := List.mem_of_getElem? h
  exact List.mem_append_left _ (List.mem_append_left _ (List.mem_append_left _ (List.mem_append_left _ (List.mem_append_left _ (List.mem_append_left _ (List.mem_append_left _ (List.mem_append_left _ (List.mem_append_left _ (List.mem_append_left _ (List.mem_append_left _ (List.mem_append_left _ (List.mem_append_left _ (List.mem_append_right _ (List.mem_append_right _ (List.mem_append_left _ h)))))))))))))))
theorem wm_4 {w : Cond} (i : Nat) (h : wsL_law_r4[i]? = some w) : w ∈ wsL_law := by
  have h := List.mem_of_getElem? h
  exact List.mem_append_left _ (List.mem_append_left _ (List.mem_append_left _ (List.mem_append_left _ (List.mem_append_left _ (List.mem_append_left _ (List.mem_append_left _ (List.mem_append_left _ (List.mem_append_left _ (List.mem_append_left _ (List.mem_append_left _ (List.mem_append_left _ (List.mem_append_left _ (List.mem_append_right _ (List.mem_append_right _ (List.mem_append_right _ (List.mem_append_left _ h))))))))))))))))
theorem wm_5 {w : Cond} (i : Nat) (h : wsL_law_r5[i]? = some w) : w ∈ wsL_law := by
  have h := List.mem_of_getElem? h
  exact List.mem_append_left _ (List.mem_append_left _ (List.mem_append_left _ (List.mem_append_left _ (List.mem_append_left _ (List.mem_append_left _ (List.mem_append_left _ (List.mem_append_left _ (List.mem_append_left _ (List.mem_append_left _ (List.mem_append_left _ (List.mem_append_left _ (List.mem_append_left _ (List.mem_append_right _ (List.mem_append_right _ (List.mem_append_right _ (List.mem_append_right _ (List.mem_append_left _ h)))))))))))))))))
theorem wm_6 {w : Cond} (i : Nat) (h : wsL_law_r6[i]? = some w) : w ∈ wsL_law := by
  have h := List.mem_of_getElem? h
  exact List.mem_append_left _ (List.mem_append_left _ (List.mem_append_left _ (List.mem_append_left _ (List.mem_append_left _ (List.mem_append_left _ (List.mem_append_left _ (List.mem_append_left _ (List.mem_append_left _ (List.mem_append_left _ (List.mem_append_left _ (List.mem_append_left _ (List.mem_append_left _ (List.mem_append_right _ (List.mem_append_right _ (List.mem_append_right _ (List.mem_append_right _ (List.mem_append_right _ (List.mem_append_left _ h))))))))))))))))))
theorem wm_7 {w : Cond} (i : Nat) (h : wsL_law_r7[i]? = some w) : w ∈ wsL_law := by
  have h := List.mem_of_getElem? h
  exact List.mem_append_left _ (List.mem_append_left _ (List.mem_append_left _ (List.mem_append_left _ (List.mem_append_left _ (List.mem_append_left _ (List.mem_append_left _ (List.mem_append_left _ (List.mem_append_left _ (List.mem_append_left _ (List.mem_append_left _ (List.mem_append_left _ (List.mem_append_left _ (List.mem_append_right _ (List.mem_append_right _ (List.mem_append_right _ (List.mem_append_right _ (List.mem_append_right _ (List.mem_append_right _ (List.mem_append_left _ h)))))))))))))))))))
theorem wm_8 {w : Cond} (i : Nat) (h : wsL_law_r8[i]? = some w) : w ∈ wsL_law := by
  have h := List.mem_of_getElem? h
  exact List.mem_append_left _ (List.mem_append_left _ (List.mem_append_left _ (List.mem_append_left _ (List.mem_append_left _ (List.mem_append_left _ (List.mem_append_left _ (List.mem_append_left _ (List.mem_append_left _ (List.mem_append_left _ (List.mem_append_left _ (List.mem_append_left _ (List.mem_append_left _ (List.mem_append_right _ (List.mem_append_right _ (List.mem_append_right _ (List.mem_append_right _ (List.mem_append_right _ (List.mem_append_right _ (List.mem_append_right _ (List.mem_append_left _ h))))))))))))))))))))
theorem wm_9 {w : Cond} (i : Nat) (h : wsL_law_r9[i]? = some w) : w ∈ wsL_law := by
  have h := List.mem_of_getElem? h
  exact List.mem_append_left _ (List.mem_append_left _ (List.mem_append_left _ (List.mem_append_left _ (List.mem_append_left _ (List.mem_append_left _ (List.mem_append_left _ (List.mem_append_left _ (List.mem_append_left _ (List.mem_append_left _ (List.mem_append_left _ (List.mem_append_left _ (List.mem_append_left _ (List.mem_append_right _ (List.mem_append_right _ (List.mem_append_right _ (List.mem_append_right _ (List.mem_append_right _ (List.mem_append_right _ (List.mem_append_right _ (List.mem_append_right _ (List.mem_append_left _ h)))))))))))))))))))))
theorem wm_10 {w : Cond} (i : Nat) (h : wsL_law_r10[i]? = some w) : w ∈ wsL_law := by
  have h := List.mem_of_getElem? h
  exact List.mem_append_left _ (List.mem_append_left _ (List.mem_append_left _ (List.mem_append_left _ (List.mem_append_left _ (List.mem_append_left _ (List.mem_append_left _ (List.mem_append_left _ (List.mem_append_left _ (List.mem_append_left _ (List.mem_append_left _ (List.mem_append_left _ (List.mem_append_left _ (List.mem_append_right _ (List.mem_append_right _ (List.mem_append_right _ (List.mem_append_right _ (List.mem_append_right _ (List.mem_append_right _ (List.mem_append_right _ (List.mem_append_right _ (List.mem_append_right _ (List.mem_append_left _ h))))))))))))))))))))))
theorem wm_11 {w : Cond} (i : Nat) (h : wsL_law_r11[i]? = some w) : w ∈ wsL_law := by
  have h := List.mem_of_getElem? h
  exact List.mem_append_left _ (List.mem_append_left _ (List.mem_append_left _ (List.mem_append_left _ (List.mem_append_left _ (List.mem_append_left _ (List.mem_append_left _ (List.mem_append_left _ (List.mem_append_left _ (List.mem_append_left _ (List.mem_append_left _ (List.mem_append_left _ (List.mem_append_left _ (List.mem_append_right _ (List.mem_append_right _ (List.mem_append_right _ (List.mem_append_right _ (List.mem_append_right _ (List.mem_append_right _ (List.mem_append_right _ (List.mem_append_right _ (List.mem_append_right _ (List.mem_append_right _ (List.mem_append_left _ h)))))))))))))))))))))))
theorem wm_12 {w : Cond} (i : Nat) (h : wsL_law_r12[i]? = some w) : w ∈ wsL_law := by
  have h := List.mem_of_getElem? h
  exact List.mem_append_left _ (List.mem_append_left _ (List.mem_append_left _ (List.mem_append_left _ (List.mem_append_left _ (List.mem_append_left _ (List.mem_append_left _ (List.mem_append_left _ (List.mem_append_left _ (List.mem_append_left _ (List.mem_append_left _ (List.mem_append_left _ (List.mem_append_left _ (List.mem_append_right _ (List.mem_append_right _ (List.mem_append_right _ (List.mem_append_right _ (List.mem_append_right _ (List.mem_append_right _ (List.mem_append_right _ (List.mem_append_right _ (List.mem_append_right _ (List.mem_append_right _ (List.mem_append_right _ (List.mem_append_left _ h))))))))))))))))))))))))
theorem wm_13 {w : Cond} (i : Nat) (h : wsL_law_r13[i]? = some w) : w ∈ wsL_law := by
  have h := List.mem_of_getElem? h
  exact List.mem_append_left _ (List.mem_append_left _ (List.mem_append_left _ (List.mem_append_left _ (List.mem_append_left _ (List.mem_append_left _ (List.mem_append_left _ (List.mem_append_left _ (List.mem_append_left _ (List.mem_append_left _ (List.mem_append_left _ (List.mem_append_left _ (List.mem_append_left _ (List.mem_append_right _ (List.mem_append_right _ (List.mem_append_right _ (List.mem_append_right _ (List.mem_append_right _ (List.mem_append_right _ (List.mem_append_right _ (List.mem_append_right _ (List.mem_append_right _ (List.mem_append_right _ (List.mem_append_right _ (List.mem_append_right _ (List.mem_append_left _ h)))))))))))))))))))))))))
theorem wm_14 {w : Cond} (i : Nat) (h : wsL_law_r14[i]? = some w) : w ∈ wsL_law := by
  have h := List.mem_of_getElem? h
  exact List.mem_append_left _ (List.mem_append_left _ (List.mem_append_left _ (List.mem_append_left _ (List.mem_append_left _ (List.mem_append_left _ (List.mem_append_left _ (List.mem_append_left _ (List.mem_append_left _ (List.mem_append_left _ (List.mem_append_left _ (List.mem_append_left _ (List.mem_append_left _ (List.mem_append_right _ (List.mem_append_right _ (List.mem_append_right _ (List.mem_append_right _ (List.mem_append_right _ (List.mem_append_right _ (List.mem_append_right _ (List.mem_append_right _ (List.mem_append_right _ (List.mem_append_right _ (List.mem_append_right _ (List.mem_append_right _ (List.mem_append_right _ (List.mem_append_left _ h))))))))))))))))))))))))))
theorem wm_15 {w : Cond} (i : Nat) (h : wsL_law_r15[i]? = some w) : w ∈ wsL_law := by
  have h := List.mem_of_getElem? h
  exact List.mem_append_left _ (List.mem_append_left _ (List.mem_append_left _ (List.mem_append_left _ (List.mem_append_left _ (List.mem_append_left _ (List.mem_append_left _ (List.mem_append_left _ (List.mem_append_left _ (List.mem_append_left _ (List.mem_append_left _ (List.mem_append_left _ (List.mem_append_left _ (List.mem_append_right _ (List.mem_append_right _ (List.mem_append_right _ (List.mem_append_right _ (List.mem_append_right _ (List.mem_append_right _ (List.mem_append_right _ (List.mem_append_right _ (List.mem_append_right _ (List.mem_append_right _ (List.mem_append_right _ (List.mem_append_right _ (List.mem_append_right _ (List.mem_append_right _ (List.mem_append_left _ h)))))))))))))))))))))))))))
theorem wm_16 {w : Cond} (i : Nat) (h : wsL_law_r16[i]? = some w) : w ∈ wsL_law := by
  have h := List.mem_of_getElem? h
  exact List.mem_append_left _ (List.mem_append_left _ (List.mem_append_left _ (List.mem_append_left _ (List.mem_append_left _ (List.mem_append_left _ (List.mem_append_left _ (List.mem_append_left _ (List.mem_append_left _ (List.mem_append_left _ (List.mem_append_left _ (List.mem_append_left _ (List.mem_append_left _ (List.mem_append_right _ (List.mem_append_right _ (List.mem_append_right _ (List.mem_append_right _ (List.mem_append_right _ (List.mem_append_right _ (List.mem_append_right _ (List.mem_append_right _ (List.mem_append_right _ (List.mem_append_right _ (List.mem_append_right _ (List.mem_append_right _ (List.mem_append_right _ (List.mem_append_right _ (List.mem_append_right _ (List.mem_append_left _ h))))))))))))))))))))))))))))
theorem wm_17 {w : Cond} (i : Nat) (h : wsL_law_r17[i]? = some w) : w ∈ wsL_law := by
  have h := List.mem_of_getElem? h
  exact List.mem_append_left _ (List.mem_append_left _ (List.mem_append_left _ (List.mem_append_left _ (List.mem_append_left _ (List.mem_append_left _ (List.mem_append_left _ (List.mem_append_left _ (List.mem_append_left _ (List.mem_append_left _ (List.mem_append_left _ (List.mem_append_left _ (List.mem_append_left _ (List.mem_append_right _ (List.mem_append_right _ (List.mem_append_right _ (List.mem_append_right _ (List.mem_append_right _ (List.mem_append_right _ (List.mem_append_right _ (List.mem_append_right _ (List.mem_append_right _ (List.mem_append_right _ (List.mem_append_right _ (List.mem_append_right _ (List.mem_append_right _ (List.mem_append_right _ (List.mem_append_right _ (List.mem_append_right _ (List.mem_append_left _ h)))))))))))))))))))))))))))))
theorem wm_18 {w : Cond} (i : Nat) (h : wsL_law_r18[i]? = some w) : w ∈ wsL_law := by
  have h := List.mem_of_getElem? h
  exact List.mem_append_left _ (List.mem_append_left _ (List.mem_append_left _ (List.mem_append_left _ (List.mem_append_left _ (List.mem_append_left _ (List.mem_append_left _ (List.mem_append_left _ (List.mem_append_left _ (List.mem_append_left _ (List.mem_append_left _ (List.mem_append_left _ (List.mem_append_left _ (List.mem_append_right _ (List.mem_append_right _ (List.mem_append_right _ (List.mem_append_right _ (List.mem_append_right _ (List.mem_append_right _ (List.mem_append_right _ (List.mem_append_right _ (List.mem_append_right _ (List.mem_append_right _ (List.mem_append_right _ (List.mem_append_right _ (List.mem_append_right _ (List.mem_append_right _ (List.mem_append_right _ (List.mem_append_right _ (List.mem_append_right _ (List.mem_append_left _ h))))))))))))))))))))))))))))))
theorem wm_19 {w : Cond} (i : Nat) (h : wsL_law_r19[i]? = some w) : w ∈ wsL_law := by
  have h := List.mem_of_getElem? h
  exact List.mem_append_left _ (List.mem_append_left _ (List.mem_append_left _ (List.mem_append_left _ (List.mem_append_left _ (List.mem_append_left _ (List.mem_append_left _ (List.mem_append_left _ (List.mem_append_left _ (List.mem_append_left _ (List.mem_append_left _ (List.mem_append_left _ (List.mem_append_left _ (List.mem_append_right _ (List.mem_append_right _ (List.mem_append_right _ (List.mem_append_right _ (List.mem_append_right _ (List.mem_append_right _ (List.mem_append_right _ (List.mem_append_right _ (List.mem_append_right _ (List.mem_append_right _ (List.mem_append_right _ (List.mem_append_right _ (List.mem_append_right _ (List.mem_append_right _ (List.mem_append_right _ (List.mem_append_right _ (List.mem_append_right _ (List.mem_append_right _ (List.mem_append_left _ h)))))))))))))))))))))))))))))))
theorem wm_20 {w : Cond} (i : Nat) (h : wsL_law_r20[i]? = some w) : w ∈ wsL_law := by
  have h := List.mem_of_getElem? h
  exact List.mem_append_left _ (List.mem_append_left _ (List.mem_append_left _ (List.mem_append_left _ (List.mem_append_left _ (List.mem_append_left _ (List.mem_append_left _ (List.mem_append_left _ (List.mem_append_left _ (List.mem_append_left _ (List.mem_append_left _ (List.mem_append_left _ (List.mem_append_left _ (List.mem_append_right _ (List.mem_append_right _ (List.mem_append_right _ (List.mem_append_right _ (List.mem_append_right _ (List.mem_append_right _ (List.mem_append_right _ (List.mem_append_right _ (List.mem_append_right _ (List.mem_append_right _ (List.mem_append_right _ (List.mem_append_right _ (List.mem_append_right _ (List.mem_append_right _ (List.mem_append_right _ (List.mem_append_right _ (List.mem_append_right _ (List.mem_append_right _ (List.mem_append_right _ (List.mem_append_left _ h))))))))))))))))))))))))))))))))
theorem wm_21 {w : Cond} (i : Nat) (h : wsL_law_r21[i]? = some w) : w ∈ wsL_law := by
  have h := List.mem_of_getElem? h
  exact List.mem_append_left _ (List.mem_append_left _ (List.mem_append_left _ (List.mem_append_left _ (List.mem_append_left _ (List.mem_append_left _ (List.mem_append_left _ (List.mem_append_left _ (List.mem_append_left _ (List.mem_append_left _ (List.mem_append_left _ (List.mem_append_left _ (List.mem_append_left _ (List.mem_append_right _ (List.mem_append_right _ (List.mem_append_right _ (List.mem_append_right _ (List.mem_append_right _ (List.mem_append_right _ (List.mem_append_right _ (List.mem_append_right _ (List.mem_append_right _ (List.mem_append_right _ (List.mem_append_right _ (List.mem_append_right _ (List.mem_append_right _ (List.mem_append_right _ (List.mem_append_right _ (List.mem_append_right _ (List.mem_append_right _ (List.mem_append_right _ (List.mem_append_right _ (List.mem_append_right _ (List.mem_append_left _ h)))))))))))))))))))))))))))))))))
theorem wm_22 {w : Cond} (i : Nat) (h : wsL_law_r22[i]? = some w) : w ∈ wsL_law := by
  have h := List.mem_of_getElem? h
  exact List.mem_append_left _ (List.mem_append_left _ (List.mem_append_left _ (List.mem_append_left _ (List.mem_append_left _ (List.mem_append_left _ (List.mem_append_left _ (List.mem_append_left _ (List.mem_append_left _ (List.mem_append_left _ (List.mem_append_left _ (List.mem_append_left _ (List.mem_append_left _ (List.mem_append_right _ (List.mem_append_right _ (List.mem_append_right _ (List.mem_append_right _ (List.mem_append_right _ (List.mem_append_right _ (List.mem_append_right _ (List.mem_append_right _ (List.mem_append_right _ (List.mem_append_right _ (List.mem_append_right _ (List.mem_append_right _ (List.mem_append_right _ (List.mem_append_right _ (List.mem_append_right _ (List.mem_append_right _ (List.mem_append_right _ (List.mem_append_right _ (List.mem_append_right _ (List.mem_append_right _ (List.mem_append_right _ (List.mem_append_left _ h))))))))))))))))))))))))))))))))))
theorem wm_23 {w : Cond} (i : Nat) (h : wsL_law_r23[i]? = some w) : w ∈ wsL_law := by
  have h := List.mem_of_getElem? h
  exact List.mem_append_left _ (List.mem_append_left _ (List.mem_append_left _ (List.mem_append_left _ (List.mem_append_left _ (List.mem_append_left _ (List.mem_append_left _ (List.mem_append_left _ (List.mem_append_left _ (List.mem_append_left _ (List.mem_append_left _ (List.mem_append_left _ (List.mem_append_left _ (List.mem_append_right _ (List.mem_append_right _ (List.mem_append_right _ (List.mem_append_right _ (List.mem_append_right _ (List.mem_append_right _ (List.mem_append_right _ (List.mem_append_right _ (List.mem_append_right _ (List.mem_append_right _ (List.mem_append_right _ (List.mem_append_right _ (List.mem_append_right _ (List.mem_append_right _ (List.mem_append_right _ (List.mem_append_right _ (List.mem_append_right _ (List.mem_append_right _ (List.mem_append_right _ (List.mem_append_right _ (List.mem_append_right _ (List.mem_append_right _ (List.mem_append_left _ h)))))))))))))))))))))))))))))))))))
theorem wm_24 {w : Cond} (i : Nat) (h : wsL_law_r24[i]? = some w) : w ∈ wsL_law := by
  have h := List.mem_of_getElem? h
  exact List.mem_append_left _ (List.mem_append_left _ (List.mem_append_left _ (List.mem_append_left _ (List.mem_append_left _ (List.mem_append_left _ (List.mem_append_left _ (List.mem_append_left _ (List.mem_append_left _ (List.mem_append_left _ (List.mem_append_left _ (List.mem_append_left _ (List.mem_append_left _ (List.mem_append_right _ (List.mem_append_right _ (List.mem_append_right _ (List.mem_append_right _ (List.mem_append_right _ (List.mem_append_right _ (List.mem_append_right _ (List.mem_append_right _ (List.mem_append_right _ (List.mem_append_right _ (List.mem_append_right _ (List.mem_append_right _ (List.mem_append_right _ (List.mem_append_right _ (List.mem_append_right _ (List.mem_append_right _ (List.mem_append_right _ (List.mem_append_right _ (List.mem_append_right _ (List.mem_append_right _ (List.mem_append_right _ (List.mem_append_right _ (List.mem_append_right _ (List.mem_append_left _ h))))))))))))))))))))))))))))))))))))
theorem wm_25 {w : Cond} (i : Nat) (h : wsL_law_r25[i]? = some w) : w ∈ wsL_law := by
  have h := List.mem_of_getElem? h
  exact List.mem_append_left _ (List.mem_append_left _ (List.mem_append_left _ (List.mem_append_left _ (List.mem_append_left _ (List.mem_append_left _ (List.mem_append_left _ (List.mem_append_left _ (List.mem_append_left _ (List.mem_append_left _ (List.mem_append_left _ (List.mem_append_left _ (List.mem_append_left _ (List.mem_append_right _ (List.mem_append_right _ (List.mem_append_right _ (List.mem_append_right _ (List.mem_append_right _ (List.mem_append_right _ (List.mem_append_right _ (List.mem_append_right _ (List.mem_append_right _ (List.mem_append_right _ (List.mem_append_right _ (List.mem_append_right _ (List.mem_append_right _ (List.mem_append_right _ (List.mem_append_right _ (List.mem_append_right _ (List.mem_append_right _ (List.mem_append_right _ (List.mem_append_right _ (List.mem_append_right _ (List.mem_append_right _ (List.mem_append_right _ (List.mem_append_right _ (List.mem_append_right _ (List.mem_append_left _ h)))))))))))))))))))))))))))))))))))))
theorem wm_26 {w : Cond} (i : Nat) (h : wsL_law_r26[i]? = some w) : w ∈ wsL_law := by
  have h := List.mem_of_getElem? h
  exact List.mem_append_left _ (List.mem_append_left _ (List.mem_append_left _ (List.mem_append_left _ (List.mem_append_left _ (List.mem_append_left _ (List.mem_append_left _ (List.mem_append_left _ (List.mem_append_left _ (List.mem_append_left _ (List.mem_append_left _ (List.mem_append_left _ (List.mem_append_left _ (List.mem_append_right _ (List.mem_append_right _ (List.mem_append_right _ (List.mem_append_right _ (List.mem_append_right _ (List.mem_append_right _ (List.mem_append_right _ (List.mem_append_right _ (List.mem_append_right _ (List.mem_append_right _ (List.mem_append_right _ (List.mem_append_right _ (List.mem_append_right _ (List.mem_append_right _ (List.mem_append_right _ (List.mem_append_right _ (List.mem_append_right _ (List.mem_append_right _ (List.mem_append_right _ (List.mem_append_right _ (List.mem_append_right _ (List.mem_append_right _ (List.mem_append_right _ (List.mem_append_right _ (List.mem_append_right _ (List.mem_append_left _ h))))))))))))))))))))))))))))))))))))))
theorem wm_27 {w : Cond} (i : Nat) (h : wsL_law_r27[i]? = some w) : w ∈ wsL_law := by
  have h := List.mem_of_getElem? h
  exact List.mem_append_left _ (List.mem_append_left _ (List.mem_append_left _ (List.mem_append_left _ (List.mem_append_left _ (List.mem_append_left _ (List.mem_append_left _ (List.mem_append_left _ (List.mem_append_left _ (List.mem_append_left _ (List.mem_append_left _ (List.mem_append_left _ (List.mem_append_left _ (List.mem_append_right _ (List.mem_append_right _ (List.mem_append_right _ (List.mem_append_right _ (List.mem_append_right _ (List.mem_append_right _ (List.mem_append_right _ (List.mem_append_right _ (List.mem_append_right _ (List.mem_append_right _ (List.mem_append_right _ (List.mem_append_right _ (List.mem_append_right _ (List.mem_append_right _ (List.mem_append_right _ (List.mem_append_right _ (List.mem_append_right _ (List.mem_append_right _ (List.mem_append_right _ (List.mem_append_right _ (List.mem_append_right _ (List.mem_append_right _ (List.mem_append_right _ (List.mem_append_right _ (List.mem_append_right _ (List.mem_append_right _ (List.mem_append_left _ h)))))))))))))))))))))))))))))))))))))))
theorem wm_28 {w : Cond} (i : Nat) (h : wsL_law_r28[i]? = some w) : w ∈ wsL_law := by
  have h := List.mem_of_getElem? h
  exact List.mem_append_left _ (List.mem_append_left _ (List.mem_append_left _ (List.mem_append_left _ (List.mem_append_left _ (List.mem_append_left _ (List.mem_append_left _ (List.mem_append_left _ (List.mem_append_left _ (List.mem_append_left _ (List.mem_append_left _ (List.mem_append_left _ (List.mem_append_left _ (List.mem_append_right _ (List.mem_append_right _ (List.mem_append_right _ (List.mem_append_right _ (List.mem_append_right _ (List.mem_append_right _ (List.mem_append_right _ (List.mem_append_right _ (List.mem_append_right _ (List.mem_append_right _ (List.mem_append_right _ (List.mem_append_right _ (List.mem_append_right _ (List.mem_append_right _ (List.mem_append_right _ (List.mem_append_right _ (List.mem_append_right _ (List.mem_append_right _ (List.mem_append_right _ (List.mem_append_right _ (List.mem_append_right _ (List.mem_append_right _ (List.mem_append_right _ (List.mem_append_right _ (List.mem_append_right _ (List.mem_append_right _ (List.mem_append_right _ (List.mem_append_left _ h))))))))))))))))))))))))))))))))))))))))
theorem wm_29 {w : Cond} (i : Nat) (h : wsL_law_r29[i]? = some w) : w ∈ wsL_law := by
  have h := List.mem_of_getElem? h
  exact List.mem_append_left _ (List.mem_append_left _ (List.mem_append_left _ (List.mem_append_left _ (List.mem_append_left _ (List.mem_append_left _ (List.mem_append_left _ (List.mem_append_left _ (List.mem_append_left _ (List.mem_append_left _ (List.mem_append_left _ (List.mem_append_left _ (List.mem_append_left _ (List.mem_append_right _ (List.mem_append_right _ (List.mem_append_right _ (List.mem_append_right _ (List.mem_append_right _ (List.mem_append_right _ (List.mem_append_right _ (List.mem_append_right _ (List.mem_append_right _ (List.mem_append_right _ (List.mem_append_right _ (List.mem_append_right _ (List.mem_append_right _ (List.mem_append_right _ (List.mem_append_right _ (List.mem_append_right _ (List.mem_append_right _ (List.mem_append_right _ (List.mem_append_right _ (List.mem_append_right _ (List.mem_append_right _ (List.mem_append_right _ (List.mem_append_right _ (List.mem_append_right _ (List.mem_append_right _ (List.mem_append_right _ (List.mem_append_right _ (List.mem_append_right _ (List.mem_append_left _ h)))))))))))))))))))))))))))))))))))))))))
theorem wm_30 {w : Cond} (i : Nat) (h : wsL_law_r30[i]? = some w) : w ∈ wsL_law := by
  have h := List.mem_of_getElem? h
  exact List.mem_append_left _ (List.mem_append_left _ (List.mem_append_left _ (List.mem_append_left _ (List.mem_append_left _ (List.mem_append_left _ (List.mem_append_left _ (List.mem_append_left _ (List.mem_append_left _ (List.mem_append_left _ (List.mem_append_left _ (List.mem_append_left _ (List.mem_append_left _ (List.mem_append_right _ (List.mem_append_right _ (List.mem_append_right _ (List.mem_append_right _ (List.mem_append_right _ (List.mem_append_right _ (List.mem_append_right _ (List.mem_append_right _ (List.mem_append_right _ (List.mem_append_right _ (List.mem_append_right _ (List.mem_append_right _ (List.mem_append_right _ (List.mem_append_right _ (List.mem_append_right _ (List.mem_append_right _ (List.mem_append_right _ (List.mem_append_right _ (List.mem_append_right _ (List.mem_append_right _ (List.mem_append_right _ (List.mem_append_right _ (List.mem_append_right _ (List.mem_append_right _ (List.mem_append_right _ (List.mem_append_right _ (List.mem_append_right _ (List.mem_append_right _ (List.mem_append_right _ (List.mem_append_left _ h))))))))))))))))))))))))))))))))))))))))))
theorem wm_31 {w : Cond} (i : Nat) (h : wsL_law_r31[i]? = some w) : w ∈ wsL_law := by
  have h := List.mem_of_getElem? h
  exact List.mem_append_left _ (List.mem_append_left _ (List.mem_append_left _ (List.mem_append_left _ (List.mem_append_left _ (List.mem_append_left _ (List.mem_append_left _ (List.mem_append_left _ (List.mem_append_left _ (List.mem_append_left _ (List.mem_append_left _ (List.mem_append_left _ (List.mem_append_left _ (List.mem_append_right _ (List.mem_append_right _ (List.mem_append_right _ (List.mem_append_right _ (List.mem_append_right _ (List.mem_append_right _ (List.mem_append_right _ (List.mem_append_right _ (List.mem_append_right _ (List.mem_append_right _ (List.mem_append_right _ (List.mem_append_right _ (List.mem_append_right _ (List.mem_append_right _ (List.mem_append_right _ (List.mem_append_right _ (List.mem_append_right _ (List.mem_append_right _ (List.mem_append_right _ (List.mem_append_right _ (List.mem_append_right _ (List.mem_append_right _ (List.mem_append_right _ (List.mem_append_right _ (List.mem_append_right _ (List.mem_append_right _ (List.mem_append_right _ (List.mem_append_right _ (List.mem_append_right _ (List.mem_append_right _ (List.mem_append_left _ h)))))))))))))))))))))))))))))))))))))))))))
theorem wm_32 {w : Cond} (i : Nat) (h : wsL_law_r32[i]? = some w) : w ∈ wsL_law := by
  have h := List.mem_of_getElem? h
  exact List.mem_append_left _ (List.mem_append_left _ (List.mem_append_left _ (List.mem_append_left _ (List.mem_append_left _ (List.mem_append_left _ (List.mem_append_left _ (List.mem_append_left _ (List.mem_append_left _ (List.mem_append_left _ (List.mem_append_left _ (List.mem_append_left _ (List.mem_append_left _ (List.mem_append_right _ (List.mem_append_right _ (List.mem_append_right _ (List.mem_append_right _ (List.mem_append_right _ (List.mem_append_right _ (List.mem_append_right _ (List.mem_append_right _ (List.mem_append_right _ (List.mem_append_right _ (List.mem_append_right _ (List.mem_append_right _ (List.mem_append_right _ (List.mem_append_right _ (List.mem_append_right _ (List.mem_append_right _ (List.mem_append_right _ (List.mem_append_right _ (List.mem_append_right _ (List.mem_append_right _ (List.mem_append_right _ (List.mem_append_right _ (List.mem_append_right _ (List.mem_append_right _ (List.mem_append_right _ (List.mem_append_right _ (List.mem_append_right _ (List.mem_append_right _ (List.mem_append_right _ (List.mem_append_right _ (List.mem_append_right _ (List.mem_append_left _ h))))))))))))))))))))))))))))))))))))))))))))
theorem wm_33 {w : Cond} (i : Nat) (h : wsL_law_r33[i]? = some w) : w ∈ wsL_law := by
  have h := List.mem_of_getElem? h
  exact List.mem_append_left _ (List.mem_append_left _ (List.mem_append_left _ (List.mem_append_left _ (List.mem_append_left _ (List.mem_append_left _ (List.mem_append_left _ (List.mem_append_left _ (List.mem_append_left _ (List.mem_append_left _ (List.mem_append_left _ (List.mem_append_left _ (List.mem_append_left _ (List.mem_append_right _ (List.mem_append_right _ (List.mem_append_right _ (List.mem_append_right _ (List.mem_append_right _ (List.mem_append_right _ (List.mem_append_right _ (List.mem_append_right _ (List.mem_append_right _ (List.mem_append_right _ (List.mem_append_right _ (List.mem_append_right _ (List.mem_append_right _ (List.mem_append_right _ (List.mem_append_right _ (List.mem_append_right _ (List.mem_append_right _ (List.mem_append_right _ (List.mem_append_right _ (List.mem_append_right _ (List.mem_append_right _ (List.mem_append_right _ (List.mem_append_right _ (List.mem_append_right _ (List.mem_append_right _ (List.mem_append_right _ (List.mem_append_right _ (List.mem_append_right _ (List.mem_append_right _ (List.mem_append_right _ (List.mem_append_right _ (List.mem_append_right _ (List.mem_append_left _ h)))))))))))))))))))))))))))))))))))))))))))))
theorem wm_34 {w : Cond} (i : Nat) (h : wsL_law_r34[i]? = some w) : w ∈ wsL_law := by
  have h := List.mem_of_getElem? h
  exact List.mem_append_left _ (List.mem_append_left _ (List.mem_append_left _ (List.mem_append_left _ (List.mem_append_left _ (List.mem_append_left _ (List.mem_append_left _ (List.mem_append_left _ (List.mem_append_left _ (List.mem_append_left _ (List.mem_append_left _ (List.mem_append_left _ (List.mem_append_left _ (List.mem_append_right _ (List.mem_append_right _ (List.mem_append_right _ (List.mem_append_right _ (List.mem_append_right _ (List.mem_append_right _ (List.mem_append_right _ (List.mem_append_right _ (List.mem_append_right _ (List.mem_append_right _ (List.mem_append_right _ (List.mem_append_right _ (List.mem_append_right _ (List.mem_append_right _ (List.mem_append_right _ (List.mem_append_right _ (List.mem_append_right _ (List.mem_append_right _ (List.mem_append_right _ (List.mem_append_right _ (List.mem_append_right _ (List.mem_append_right _ (List.mem_append_right _ (List.mem_append_right _ (List.mem_append_right _ (List.mem_append_right _ (List.mem_append_right _ (List.mem_append_right _ (List.mem_append_right _ (List.mem_append_right _ (List.mem_append_right _ (List.mem_append_right _ (List.mem_append_right _ (List.mem_append_left _ h))))))))))))))))))))))))))))))))))))))))))))))
theorem wm_35 {w : Cond} (i : Nat) (h : wsL_law_r35[i]? = some w) : w ∈ wsL_law := by
  have h := List.mem_of_getElem? h
  exact List.mem_append_left _ (List.mem_append_left _ (List.mem_append_left _ (List.mem_append_left _ (List.mem_append_left _ (List.mem_append_left _ (List.mem_append_left _ (List.mem_append_left _ (List.mem_append_left _ (List.mem_append_left _ (List.mem_append_left _ (List.mem_append_left _ (List.mem_append_left _ (List.mem_append_right _ (List.mem_append_right _ (List.mem_append_right _ (List.mem_append_right _ (List.mem_append_right _ (List.mem_append_right _ (List.mem_append_right _ (List.mem_append_right _ (List.mem_append_right _ (List.mem_append_right _ (List.mem_append_right _ (List.mem_append_right _ (List.mem_append_right _ (List.mem_append_right _ (List.mem_append_right _ (List.mem_append_right _ (List.mem_append_right _ (List.mem_append_right _ (List.mem_append_right _ (List.mem_append_right _ (List.mem_append_right _ (List.mem_append_right _ (List.mem_append_right _ (List.mem_append_right _ (List.mem_append_right _ (List.mem_append_right _ (List.mem_append_right _ (List.mem_append_right _ (List.mem_append_right _ (List.mem_append_right _ (List.mem_append_right _ (List.mem_append_right _ (List.mem_append_right _ (List.mem_append_right _ (List.mem_append_left _ h)))))))))))))))))))))))))))))))))))))))))))))))
theorem wm_36 {w : Cond} (i : Nat) (h : wsL_law_r36[i]? = some w) : w ∈ wsL_law := by
  have h := List.mem_of_getElem? h
  exact List.mem_append_left _ (List.mem_append_left _ (List.mem_append_left _ (List.mem_append_left _ (List.mem_append_left _ (List.mem_append_left _ (List.mem_append_left _ (List.mem_append_left _ (List.mem_append_left _ (List.mem_append_left _ (List.mem_append_left _ (List.mem_append_left _ (List.mem_append_left _ (List.mem_append_right _ (List.mem_append_right _ (List.mem_append_right _ (List.mem_append_right _ (List.mem_append_right _ (List.mem_append_right _ (List.mem_append_right _ (List.mem_append_right _ (List.mem_append_right _ (List.mem_append_right _ (List.mem_append_right _ (List.mem_append_right _ (List.mem_append_right _ (List.mem_append_right _ (List.mem_append_right _ (List.mem_append_right _ (List.mem_append_right _ (List.mem_append_right _ (List.mem_append_right _ (List.mem_append_right _ (List.mem_append_right _ (List.mem_append_right _ (List.mem_append_right _ (List.mem_append_right _ (List.mem_append_right _ (List.mem_append_right _ (List.mem_append_right _ (List.mem_append_right _ (List.mem_append_right _ (List.mem_append_right _ (List.mem_append_right _ (List.mem_append_right _ (List.mem_append_right _ (List.mem_append_right _ (List.mem_append_right _ (List.mem_append_left _ h))))))))))))))))))))))))))))))))))))))))))))))))
theorem wm_37 {w : Cond} (i : Nat) (h : wsL_law_r37[i]? = some w) : w ∈ wsL_law := by
  have h := List.mem_of_getElem? h
  exact List.mem_append_left _ (List.mem_append_left _ (List.mem_append_left _ (List.mem_append_left _ (List.mem_append_left _ (List.mem_append_left _ (List.mem_append_left _ (List.mem_append_left _ (List.mem_append_left _ (List.mem_append_left _ (List.mem_append_left _ (List.mem_append_left _ (List.mem_append_left _ (List.mem_append_right _ (List.mem_append_right _ (List.mem_append_right _ (List.mem_append_right _ (List.mem_append_right _ (List.mem_append_right _ (List.mem_append_right _ (List.mem_append_right _ (List.mem_append_right _ (List.mem_append_right _ (List.mem_append_right _ (List.mem_append_right _ (List.mem_append_right _ (List.mem_append_right _ (List.mem_append_right _ (List.mem_append_right _ (List.mem_append_right _ (List.mem_append_right _ (List.mem_append_right _ (List.mem_append_right _ (List.mem_append_right _ (List.mem_append_right _ (List.mem_append_right _ (List.mem_append_right _ (List.mem_append_right _ (List.mem_append_right _ (List.mem_append_right _ (List.mem_append_right _ (List.mem_append_right _ (List.mem_append_right _ (List.mem_append_right _ (List.mem_append_right _ (List.mem_append_right _ (List.mem_append_right _ (List.mem_append_right _ (List.mem_append_right _ (List.mem_append_left _ h)))))))))))))))))))))))))))))))))))))))))))))))))
theorem wm_38 {w : Cond} (i : Nat) (h : wsL_law_r38[i]? = some w) : w ∈ wsL_law := by
  have h := List.mem_of_getElem? h
  exact List.mem_append_left _ (List.mem_append_left _ (List.mem_append_left _ (List.mem_append_left _ (List.mem_append_left _ (List.mem_append_left _ (List.mem_append_left _ (List.mem_append_left _ (List.mem_append_left _ (List.mem_append_left _ (List.mem_append_left _ (List.mem_append_left _ (List.mem_append_left _ (List.mem_append_right _ (List.mem_append_right _ (List.mem_append_right _ (List.mem_append_right _ (List.mem_append_right _ (List.mem_append_right _ (List.mem_append_right _ (List.mem_append_right _ (List.mem_append_right _ (List.mem_append_right _ (List.mem_append_right _ (List.mem_append_right _ (List.mem_append_right _ (List.mem_append_right _ (List.mem_append_right _ (List.mem_append_right _ (List.mem_append_right _ (List.mem_append_right _ (List.mem_append_right _ (List.mem_append_right _ (List.mem_append_right _ (List.mem_append_right _ (List.mem_append_right _ (List.mem_append_right _ (List.mem_append_right _ (List.mem_append_right _ (List.mem_append_right _ (List.mem_append_right _ (List.mem_append_right _ (List.mem_append_right _ (List.mem_append_right _ (List.mem_append_right _ (List.mem_append_right _ (List.mem_append_right _ (List.mem_append_right _ (List.mem_append_right _ (List.mem_append_right _ (List.mem_append_left _ h))))))))))))))))))))))))))))))))))))))))))))))))))
theorem wm_39 {w : Cond} (i : Nat) (h : wsL_law_r39[i]? = some w) : w ∈ wsL_law := by
  have h := List.mem_of_getElem? h
  exact List.mem_append_left _ (List.mem_append_left _ (List.mem_append_left _ (List.mem_append_left _ (List.mem_append_left _ (List.mem_append_left _ (List.mem_append_left _ (List.mem_append_left _ (List.mem_append_left _ (List.mem_append_left _ (List.mem_append_left _ (List.mem_append_left _ (List.mem_append_left _ (List.mem_append_right _ (List.mem_append_right _ (List.mem_append_right _ (List.mem_append_right _ (List.mem_append_right _ (List.mem_append_right _ (List.mem_append_right _ (List.mem_append_right _ (List.mem_append_right _ (List.mem_append_right _ (List.mem_append_right _ (List.mem_append_right _ (List.mem_append_right _ (List.mem_append_right _ (List.mem_append_right _ (List.mem_append_right _ (List.mem_append_right _ (List.mem_append_right _ (List.mem_append_right _ (List.mem_append_right _ (List.mem_append_right _ (List.mem_append_right _ (List.mem_append_right _ (List.mem_append_right _ (List.mem_append_right _ (List.mem_append_right _ (List.mem_append_right _ (List.mem_append_right _ (List.mem_append_right _ (List.mem_append_right _ (List.mem_append_right _ (List.mem_append_right _ (List.mem_append_right _ (List.mem_append_right _ (List.mem_append_right _ (List.mem_append_right _ (List.mem_append_right _ (List.mem_append_right _ (List.mem_append_left _ h)))))))))))))))))))))))))))))))))))))))))))))))))))
theorem wm_40 {w : Cond} (i : Nat) (h : wsL_law_r40[i]? = some w) : w ∈ wsL_law := by
  have h := List.mem_of_getElem? h
  exact List.mem_append_left _ (List.mem_append_left _ (List.mem_append_left _ (List.mem_append_left _ (List.mem_append_left _ (List.mem_append_left _ (List.mem_append_left _ (List.mem_append_left _ (List.mem_append_left _ (List.mem_append_left _ (List.mem_append_left _ (List.mem_append_left _ (List.mem_append_left _ (List.mem_append_right _ (List.mem_append_right _ (List.mem_append_right _ (List.mem_append_right _ (List.mem_append_right _ (List.mem_append_right _ (List.mem_append_right _ (List.mem_append_right _ (List.mem_append_right _ (List.mem_append_right _ (List.mem_append_right _ (List.mem_append_right _ (List.mem_append_right _ (List.mem_append_right _ (List.mem_append_right _ (List.mem_append_right _ (List.mem_append_right _ (List.mem_append_right _ (List.mem_append_right _ (List.mem_append_right _ (List.mem_append_right _ (List.mem_append_right _ (List.mem_append_right _ (List.mem_append_right _ (List.mem_append_right _ (List.mem_append_right _ (List.mem_append_right _ (List.mem_append_right _ (List.mem_append_right _ (List.mem_append_right _ (List.mem_append_right _ (List.mem_append_right _ (List.mem_append_right _ (List.mem_append_right _ (List.mem_append_right _ (List.mem_append_right _ (List.mem_append_right _ (List.mem_append_right _ (List.mem_append_right _ (List.mem_append_left _ h))))))))))))))))))))))))))))))))))))))))))))))))))))
theorem wm_41 {w : Cond} (i : Nat) (h : wsL_law_r41[i]? = some w) : w ∈ wsL_law := by
  have h := List.mem_of_getElem? h
  exact List.mem_append_left _ (List.mem_append_left _ (List.mem_append_left _ (List.mem_append_left _ (List.mem_append_left _ (List.mem_append_left _ (List.mem_append_left _ (List.mem_append_left _ (List.mem_append_left _ (List.mem_append_left _ (List.mem_append_left _ (List.mem_append_left _ (List.mem_append_left _ (List.mem_append_right _ (List.mem_append_right _ (List.mem_append_right _ (List.mem_append_right _ (List.mem_append_right _ (List.mem_append_right _ (List.mem_append_right _ (List.mem_append_right _ (List.mem_append_right _ (List.mem_append_right _ (List.mem_append_right _ (List.mem_append_right _ (List.mem_append_right _ (List.mem_append_right _ (List.mem_append_right _ (List.mem_append_right _ (List.mem_append_right _ (List.mem_append_right _ (List.mem_append_right _ (List.mem_append_right _ (List.mem_append_right _ (List.mem_append_right _ (List.mem_append_right _ (List.mem_append_right _ (List.mem_append_right _ (List.mem_append_right _ (List.mem_append_right _ (List.mem_append_right _ (List.mem_append_right _ (List.mem_append_right _ (List.mem_append_right _ (List.mem_append_right _ (List.mem_append_right _ (List.mem_append_right _ (List.mem_append_right _ (List.mem_append_right _ (List.mem_append_right _ (List.mem_append_right _ (List.mem_append_right _ (List.mem_append_right _ (List.mem_append_left _ h)))))))))))))))))))))))))))))))))))))))))))))))))))))
theorem wm_42 {w : Cond} (i : Nat) (h : wsL_law_r42[i]? = some w) : w ∈ wsL_law := by
  have h := List.mem_of_getElem? h
  exact List.mem_append_left _ (List.mem_append_left _ (List.mem_append_left _ (List.mem_append_left _ (List.mem_append_left _ (List.mem_append_left _ (List.mem_append_left _ (List.mem_append_left _ (List.mem_append_left _ (List.mem_append_left _ (List.mem_append_left _ (List.mem_append_left _ (List.mem_append_left _ (List.mem_append_right _ (List.mem_append_right _ (List.mem_append_right _ (List.mem_append_right _ (List.mem_append_right _ (List.mem_append_right _ (List.mem_append_right _ (List.mem_append_right _ (List.mem_append_right _ (List.mem_append_right _ (List.mem_append_right _ (List.mem_append_right _ (List.mem_append_right _ (List.mem_append_right _ (List.mem_append_right _ (List.mem_append_right _ (List.mem_append_right _ (List.mem_append_right _ (List.mem_append_right _ (List.mem_append_right _ (List.mem_append_right _ (List.mem_append_right _ (List.mem_append_right _ (List.mem_append_right _ (List.mem_append_right _ (List.mem_append_right _ (List.mem_append_right _ (List.mem_append_right _ (List.mem_append_right _ (List.mem_append_right _ (List.mem_append_right _ (List.mem_append_right _ (List.mem_append_right _ (List.mem_append_right _ (List.mem_append_right _ (List.mem_append_right _ (List.mem_append_right _ (List.mem_append_right _ (List.mem_append_right _ (List.mem_append_right _ (List.mem_append_right _ (List.mem_append_left _ h))))))))))))))))))))))))))))))))))))))))))))))))))))))
theorem wm_43 {w : Cond} (i : Nat) (h : wsL_law_r43[i]? = some w) : w ∈ wsL_law := by
  have h := List.mem_of_getElem? h
  exact List.mem_append_left _ (List.mem_append_left _ (List.mem_append_left _ (List.mem_append_left _ (List.mem_append_left _ (List.mem_append_left _ (List.mem_append_left _ (List.mem_append_left _ (List.mem_append_left _ (List.mem_append_left _ (List.mem_append_left _ (List.mem_append_left _ (List.mem_append_left _ (List.mem_append_right _ (List.mem_append_right _ (List.mem_append_right _ (List.mem_append_right _ (List.mem_append_right _ (List.mem_append_right _ (List.mem_append_right _ (List.mem_append_right _ (List.mem_append_right _ (List.mem_append_right _ (List.mem_append_right _ (List.mem_append_right _ (List.mem_append_right _ (List.mem_append_right _ (List.mem_append_right _ (List.mem_append_right _ (List.mem_append_right _ (List.mem_append_right _ (List.mem_append_right _ (List.mem_append_right _ (List.mem_append_right _ (List.mem_append_right _ (List.mem_append_right _ (List.mem_append_right _ (List.mem_append_right _ (List.mem_append_right _ (List.mem_append_right _ (List.mem_append_right _ (List.mem_append_right _ (List.mem_append_right _ (List.mem_append_right _ (List.mem_append_right _ (List.mem_append_right _ (List.mem_append_right _ (List.mem_append_right _ (List.mem_append_right _ (List.mem_append_right _ (List.mem_append_right _ (List.mem_append_right _ (List.mem_append_right _ (List.mem_append_right _ (List.mem_append_right _ (List.mem_append_left _ h)))))))))))))))))))))))))))))))))))))))))))))))))))))))
theorem wm_44 {w : Cond} (i : Nat) (h : wsL_law_r44[i]? = some w) : w ∈ wsL_law := by
  have h := List.mem_of_getElem? h
  exact List.mem_append_left _ (List.mem_append_left _ (List.mem_append_left _ (List.mem_append_left _ (List.mem_append_left _ (List.mem_append_left _ (List.mem_append_left _ (List.mem_append_left _ (List.mem_append_left _ (List.mem_append_left _ (List.mem_append_left _ (List.mem_append_left _ (List.mem_append_left _ (List.mem_append_right _ (List.mem_append_right _ (List.mem_append_right _ (List.mem_append_right _ (List.mem_append_right _ (List.mem_append_right _ (List.mem_append_right _ (List.mem_append_right _ (List.mem_append_right _ (List.mem_append_right _ (List.mem_append_right _ (List.mem_append_right _ (List.mem_append_right _ (List.mem_append_right _ (List.mem_append_right _ (List.mem_append_right _ (List.mem_append_right _ (List.mem_append_right _ (List.mem_append_right _ (List.mem_append_right _ (List.mem_append_right _ (List.mem_append_right _ (List.mem_append_right _ (List.mem_append_right _ (List.mem_append_right _ (List.mem_append_right _ (List.mem_append_right _ (List.mem_append_right _ (List.mem_append_right _ (List.mem_append_right _ (List.mem_append_right _ (List.mem_append_right _ (List.mem_append_right _ (List.mem_append_right _ (List.mem_append_right _ (List.mem_append_right _ (List.mem_append_right _ (List.mem_append_right _ (List.mem_append_right _ (List.mem_append_right _ (List.mem_append_right _ (List.mem_append_right _ (List.mem_append_right _ (List.mem_append_left _ h))))))))))))))))))))))))))))))))))))))))))))))))))))))))
theorem wm_45 {w : Cond} (i : Nat) (h : wsL_law_r45[i]? = some w) : w ∈ wsL_law := by
  have h := List.mem_of_getElem? h
  exact List.mem_append_left _ (List.mem_append_left _ (List.mem_append_left _ (List.mem_append_left _ (List.mem_append_left _ (List.mem_append_left _ (List.mem_append_left _ (List.mem_append_left _ (List.mem_append_left _ (List.mem_append_left _ (List.mem_append_left _ (List.mem_append_left _ (List.mem_append_left _ (List.mem_append_right _ (List.mem_append_right _ (List.mem_append_right _ (List.mem_append_right _ (List.mem_append_right _ (List.mem_append_right _ (List.mem_append_right _ (List.mem_append_right _ (List.mem_append_right _ (List.mem_append_right _ (List.mem_append_right _ (List.mem_append_right _ (List.mem_append_right _ (List.mem_append_right _ (List.mem_append_right _ (List.mem_append_right _ (List.mem_append_right _ (List.mem_append_right _ (List.mem_append_right _ (List.mem_append_right _ (List.mem_append_right _ (List.mem_append_right _ (List.mem_append_right _ (List.mem_append_right _ (List.mem_append_right _ (List.mem_append_right _ (List.mem_append_right _ (List.mem_append_right _ (List.mem_append_right _ (List.mem_append_right _ (List.mem_append_right _ (List.mem_append_right _ (List.mem_append_right _ (List.mem_append_right _ (List.mem_append_right _ (List.mem_append_right _ (List.mem_append_right _ (List.mem_append_right _ (List.mem_append_right _ (List.mem_append_right _ (List.mem_append_right _ (List.mem_append_right _ (List.mem_append_right _ (List.mem_append_right _ (List.mem_append_left _ h)))))))))))))))))))))))))))))))))))))))))))))))))))))))))
theorem wm_46 {w : Cond} (i : Nat) (h : wsL_law_r46[i]? = some w) : w ∈ wsL_law := by
  have h := List.mem_of_getElem? h
  exact List.mem_append_left _ (List.mem_append_left _ (List.mem_append_left _ (List.mem_append_left _ (List.mem_append_left _ (List.mem_append_left _ (List.mem_append_left _ (List.mem_append_left _ (List.mem_append_left _ (List.mem_append_left _ (List.mem_append_left _ (List.mem_append_left _ (List.mem_append_left _ (List.mem_append_right _ (List.mem_append_right _ (List.mem_append_right _ (List.mem_append_right _ (List.mem_append_right _ (List.mem_append_right _ (List.mem_append_right _ (List.mem_append_right _ (List.mem_append_right _ (List.mem_append_right _ (List.mem_append_right _ (List.mem_append_right _ (List.mem_append_right _ (List.mem_append_right _ (List.mem_append_right _ (List.mem_append_right _ (List.mem_append_right _ (List.mem_append_right _ (List.mem_append_right _ (List.mem_append_right _ (List.mem_append_right _ (List.mem_append_right _ (List.mem_append_right _ (List.mem_append_right _ (List.mem_append_right _ (List.mem_append_right _ (List.mem_append_right _ (List.mem_append_right _ (List.mem_append_right _ (List.mem_append_right _ (List.mem_append_right _ (List.mem_append_right _ (List.mem_append_right _ (List.mem_append_right _ (List.mem_append_right _ (List.mem_append_right _ (List.mem_append_right _ (List.mem_append_right _ (List.mem_append_right _ (List.mem_append_right _ (List.mem_append_right _ (List.mem_append_right _ (List.mem_append_right _ (List.mem_append_right _ (List.mem_append_right _ (List.mem_append_left _ h))))))))))))))))))))))))))))))))))))))))))))))))))))))))))
theorem wm_47 {w : Cond} (i : Nat) (h : wsL_law_r47[i]? = some w) : w ∈ wsL_law := by
  have h := List.mem_of_getElem? h
  exact List.mem_append_left _ (List.mem_append_left _ (List.mem_append_left _ (List.mem_append_left _ (List.mem_append_left _ (List.mem_append_left _ (List.mem_append_left _ (List.mem_append_left _ (List.mem_append_left _ (List.mem_append_left _ (List.mem_append_left _ (List.mem_append_left _ (List.mem_append_left _ (List.mem_append_right _ (List.mem_append_right _ (List.mem_append_right _ (List.mem_append_right _ (List.mem_append_right _ (List.mem_append_right _ (List.mem_append_right _ (List.mem_append_right _ (List.mem_append_right _ (List.mem_append_right _ (List.mem_append_right _ (List.mem_append_right _ (List.mem_append_right _ (List.mem_append_right _ (List.mem_append_right _ (List.mem_append_right _ (List.mem_append_right _ (List.mem_append_right _ (List.mem_append_right _ (List.mem_append_right _ (List.mem_append_right _ (List.mem_append_right _ (List.mem_append_right _ (List.mem_append_right _ (List.mem_append_right _ (List.mem_append_right _ (List.mem_append_right _ (List.mem_append_right _ (List.mem_append_right _ (List.mem_append_right _ (List.mem_append_right _ (List.mem_append_right _ (List.mem_append_right _ (List.mem_append_right _ (List.mem_append_right _ (List.mem_append_right _ (List.mem_append_right _ (List.mem_append_right _ (List.mem_append_right _ (List.mem_append_right _ (List.mem_append_right _ (List.mem_append_right _ (List.mem_append_right _ (List.mem_append_right _ (List.mem_append_right _ (List.mem_append_right _ (List.mem_append_left _ h)))))))))))))))))))))))))))))))))))))))))))))))))))))))))))
theorem wm_48 {w : Cond} (i : Nat) (h : wsL_law_r48[i]? = some w) : w ∈ wsL_law := by
  have h := List.mem_of_getElem? h
  exact List.mem_append_left _ (List.mem_append_left _ (List.mem_append_left _ (List.mem_append_left _ (List.mem_append_left _ (List.mem_append_left _ (List.mem_append_left _ (List.mem_append_left _ (List.mem_append_left _ (List.mem_append_left _ (List.mem_append_left _ (List.mem_append_left _ (List.mem_append_left _ (List.mem_append_right _ (List.mem_append_right _ (List.mem_append_right _ (List.mem_append_right _ (List.mem_append_right _ (List.mem_append_right _ (List.mem_append_right _ (List.mem_append_right _ (List.mem_append_right _ (List.mem_append_right _ (List.mem_append_right _ (List.mem_append_right _ (List.mem_append_right _ (List.mem_append_right _ (List.mem_append_right _ (List.mem_append_right _ (List.mem_append_right _ (List.mem_append_right _ (List.mem_append_right _ (List.mem_append_right _ (List.mem_append_right _ (List.mem_append_right _ (List.mem_append_right _ (List.mem_append_right _ (List.mem_append_right _ (List.mem_append_right _ (List.mem_append_right _ (List.mem_append_right _ (List.mem_append_right _ (List.mem_append_right _ (List.mem_append_right _ (List.mem_append_right _ (List.mem_append_right _ (List.mem_append_right _ (List.mem_append_right _ (List.mem_append_right _ (List.mem_append_right _ (List.mem_append_right _ (List.mem_append_right _ (List.mem_append_right _ (List.mem_append_right _ (List.mem_append_right _ (List.mem_append_right _ (List.mem_append_right _ (List.mem_append_right _ (List.mem_append_right _ (List.mem_append_right _ (List.mem_append_left _ h))))))))))))))))))))))))))))))))))))))))))))))))))))))))))))
theorem wm_49 {w : Cond} (i : Nat) (h : wsL_law_r49[i]? = some w) : w ∈ wsL_law := by
  have h := List.mem_of_getElem? h
  exact List.mem_append_left _ (List.mem_append_left _ (List.mem_append_left _ (List.mem_append_left _ (List.mem_append_left _ (List.mem_append_left _ (List.mem_append_left _ (List.mem_append_left _ (List.mem_append_left _ (List.mem_append_left _ (List.mem_append_left _ (List.mem_append_left _ (List.mem_append_left _ (List.mem_append_right _ (List.mem_append_right _ (List.mem_append_right _ (List.mem_append_right _ (List.mem_append_right _ (List.mem_append_right _ (List.mem_append_right _ (List.mem_append_right _ (List.mem_append_right _ (List.mem_append_right _ (List.mem_append_right _ (List.mem_append_right _ (List.mem_append_right _ (List.mem_append_right _ (List.mem_append_right _ (List.mem_append_right _ (List.mem_append_right _ (List.mem_append_right _ (List.mem_append_right _ (List.mem_append_right _ (List.mem_append_right _ (List.mem_append_right _ (List.mem_append_right _ (List.mem_append_right _ (List.mem_append_right _ (List.mem_append_right _ (List.mem_append_right _ (List.mem_append_right _ (List.mem_append_right _ (List.mem_append_right _ (List.mem_append_right _ (List.mem_append_right _ (List.mem_append_right _ (List.mem_append_right _ (List.mem_append_right _ (List.mem_append_right _ (List.mem_append_right _ (List.mem_append_right _ (List.mem_append_right _ (List.mem_append_right _ (List.mem_append_right _ (List.mem_append_right _ (List.mem_append_right _ (List.mem_append_right _ (List.mem_append_right _ (List.mem_append_right _ (List.mem_append_right _ (List.mem_append_right _ (List.mem_append_left _ h)))))))))))))))))))))))))))))))))))))))))))))))))))))))))))))
theorem wm_50 {w : Cond} (i : Nat) (h : wsL_law_r50[i]? = some w) : w ∈ wsL_law := by
  have h := List.mem_of_getElem? h
  exact List.mem_append_left _ (List.mem_append_left _ (List.mem_append_left _ (List.mem_append_left _ (List.mem_append_left _ (List.mem_append_left _ (List.mem_append_left _ (List.mem_append_left _ (List.mem_append_left _ (List.mem_append_left _ (List.mem_append_left _ (List.mem_append_left _ (List.mem_append_left _ (List.mem_append_right _ (List.mem_append_right _ (List.mem_append_right _ (List.mem_append_right _ (List.mem_append_right _ (List.mem_append_right _ (List.mem_append_right _ (List.mem_append_right _ (List.mem_append_right _ (List.mem_append_right _ (List.mem_append_right _ (List.mem_append_right _ (List.mem_append_right _ (List.mem_append_right _ (List.mem_append_right _ (List.mem_append_right _ (List.mem_append_right _ (List.mem_append_right _ (List.mem_append_right _ (List.mem_append_right _ (List.mem_append_right _ (List.mem_append_right _ (List.mem_append_right _ (List.mem_append_right _ (List.mem_append_right _ (List.mem_append_right _ (List.mem_append_right _ (List.mem_append_right _ (List.mem_append_right _ (List.mem_append_right _ (List.mem_append_right _ (List.mem_append_right _ (List.mem_append_right _ (List.mem_append_right _ (List.mem_append_right _ (List.mem_append_right _ (List.mem_append_right _ (List.mem_append_right _ (List.mem_append_right _ (List.mem_append_right _ (List.mem_append_right _ (List.mem_append_right _ (List.mem_append_right _ (List.mem_append_right _ (List.mem_append_right _ (List.mem_append_right _ (List.mem_append_right _ (List.mem_append_right _ (List.mem_append_right _ (List.mem_append_left _ h))))))))))))))))))))))))))))))))))))))))))))))))))))))))))))))
theorem wm_51 {w : Cond} (i : Nat) (h : wsL_law_r51[i]? = some w) : w ∈ wsL_law := by
  have h := List.mem_of_getElem? h
  exact List.mem_append_left _ (List.mem_append_left _ (List.mem_append_left _ (List.mem_append_left _ (List.mem_append_left _ (List.mem_append_left _ (List.mem_append_left _ (List.mem_append_left _ (List.mem_append_left _ (List.mem_append_left _ (List.mem_append_left _ (List.mem_append_left _ (List.mem_append_left _ (List.mem_append_right _ (List.mem_append_right _ (List.mem_append_right _ (List.mem_append_right _ (List.mem_append_right _ (List.mem_append_right _ (List.mem_append_right _ (List.mem_append_right _ (List.mem_append_right _ (List.mem_append_right _ (List.mem_append_right _ (List.mem_append_right _ (List.mem_append_right _ (List.mem_append_right _ (List.mem_append_right _ (List.mem_append_right _ (List.mem_append_right _ (List.mem_append_right _ (List.mem_append_right _ (List.mem_append_right _ (List.mem_append_right _ (List.mem_append_right _ (List.mem_append_right _ (List.mem_append_right _ (List.mem_append_right _ (List.mem_append_right _ (List.mem_append_right _ (List.mem_append_right _ (List.mem_append_right _ (List.mem_append_right _ (List.mem_append_right _ (List.mem_append_right _ (List.mem_append_right _ (List.mem_append_right _ (List.mem_append_right _ (List.mem_append_right _ (List.mem_append_right _ (List.mem_append_right _ (List.mem_append_right _ (List.mem_append_right _ (List.mem_append_right _ (List.mem_append_right _ (List.mem_append_right _ (List.mem_append_right _ (List.mem_append_right _ (List.mem_append_right _ (List.mem_append_right _ (List.mem_append_right _ (List.mem_append_right _ (List.mem_append_right _ (List.mem_append_left _ h)))))))))))))))))))))))))))))))))))))))))))))))))))))))))))))))
theorem wm_52 {w : Cond} (i : Nat) (h : wsL_law_r52[i]? = some w) : w ∈ wsL_law := by
  have h := List.mem_of_getElem? h
  exact List.mem_append_left _ (List.mem_append_left _ (List.mem_append_left _ (List.mem_append_left _ (List.mem_append_left _ (List.mem_append_left _ (List.mem_append_left _ (List.mem_append_left _ (List.mem_append_left _ (List.mem_append_left _ (List.mem_append_left _ (List.mem_append_left _ (List.mem_append_left _ (List.mem_append_right _ (List.mem_append_right _ (List.mem_append_right _ (List.mem_append_right _ (List.mem_append_right _ (List.mem_append_right _ (List.mem_append_right _ (List.mem_append_right _ (List.mem_append_right _ (List.mem_append_right _ (List.mem_append_right _ (List.mem_append_right _ (List.mem_append_right _ (List.mem_append_right _ (List.mem_append_right _ (List.mem_append_right _ (List.mem_append_right _ (List.mem_append_right _ (List.mem_append_right _ (List.mem_append_right _ (List.mem_append_right _ (List.mem_append_right _ (List.mem_append_right _ (List.mem_append_right _ (List.mem_append_right _ (List.mem_append_right _ (List.mem_append_right _ (List.mem_append_right _ (List.mem_append_right _ (List.mem_append_right _ (List.mem_append_right _ (List.mem_append_right _ (List.mem_append_right _ (List.mem_append_right _ (List.mem_append_right _ (List.mem_append_right _ (List.mem_append_right _ (List.mem_append_right _ (List.mem_append_right _ (List.mem_append_right _ (List.mem_append_right _ (List.mem_append_right _ (List.mem_append_right _ (List.mem_append_right _ (List.mem_append_right _ (List.mem_append_right _ (List.mem_append_right _ (List.mem_append_right _ (List.mem_append_right _ (List.mem_append_right _ (List.mem_append_right _ (List.mem_append_left _ h))))))))))))))))))))))))))))))))))))))))))))))))))))))))))))))))
theorem wm_53 {w : Cond} (i : Nat) (h : wsL_law_r53[i]? = some w) : w ∈ wsL_law := by
  have h := List.mem_of_getElem? h
  exact List.mem_append_left _ (List.mem_append_left _ (List.mem_append_left _ (List.mem_append_left _ (List.mem_append_left _ (List.mem_append_left _ (List.mem_append_left _ (List.mem_append_left _ (List.mem_append_left _ (List.mem_append_left _ (List.mem_append_left _ (List.mem_append_left _ (List.mem_append_left _ (List.mem_append_right _ (List.mem_append_right _ (List.mem_append_right _ (List.mem_append_right _ (List.mem_append_right _ (List.mem_append_right _ (List.mem_append_right _ (List.mem_append_right _ (List.mem_append_right _ (List.mem_append_right _ (List.mem_append_right _ (List.mem_append_right _ (List.mem_append_right _ (List.mem_append_right _ (List.mem_append_right _ (List.mem_append_right _ (List.mem_append_right _ (List.mem_append_right _ (List.mem_append_right _ (List.mem_append_right _ (List.mem_append_right _ (List.mem_append_right _ (List.mem_append_right _ (List.mem_append_right _ (List.mem_append_right _ (List.mem_append_right _ (List.mem_append_right _ (List.mem_append_right _ (List.mem_append_right _ (List.mem_append_right _ (List.mem_append_right _ (List.mem_append_right _ (List.mem_append_right _ (List.mem_append_right _ (List.mem_append_right _ (List.mem_append_right _ (List.mem_append_right _ (List.mem_append_right _ (List.mem_append_right _ (List.mem_append_right _ (List.mem_append_right _ (List.mem_append_right _ (List.mem_append_right _ (List.mem_append_right _ (List.mem_append_right _ (List.mem_append_right _ (List.mem_append_right _ (List.mem_append_right _ (List.mem_append_right _ (List.mem_append_right _ (List.mem_append_right _ (List.mem_append_right _ (List.mem_append_left _ h)))))))))))))))))))))))))))))))))))))))))))))))))))))))))))))))))
theorem wm_54 {w : Cond} (i : Nat) (h : wsL_law_r54[i]? = some w) : w ∈ wsL_law := by
  have h := List.mem_of_getElem? h
  exact List.mem_append_left _ (List.mem_append_left _ (List.mem_append_left _ (List.mem_append_left _ (List.mem_append_left _ (List.mem_append_left _ (List.mem_append_left _ (List.mem_append_left _ (List.mem_append_left _ (List.mem_append_left _ (List.mem_append_left _ (List.mem_append_left _ (List.mem_append_left _ (List.mem_append_right _ (List.mem_append_right _ (List.mem_append_right _ (List.mem_append_right _ (List.mem_append_right _ (List.mem_append_right _ (List.mem_append_right _ (List.mem_append_right _ (List.mem_append_right _ (List.mem_append_right _ (List.mem_append_right _ (List.mem_append_right _ (List.mem_append_right _ (List.mem_append_right _ (List.mem_append_right _ (List.mem_append_right _ (List.mem_append_right _ (List.mem_append_right _ (List.mem_append_right _ (List.mem_append_right _ (List.mem_append_right _ (List.mem_append_right _ (List.mem_append_right _ (List.mem_append_right _ (List.mem_append_right _ (List.mem_append_right _ (List.mem_append_right _ (List.mem_append_right _ (List.mem_append_right _ (List.mem_append_right _ (List.mem_append_right _ (List.mem_append_right _ (List.mem_append_right _ (List.mem_append_right _ (List.mem_append_right _ (List.mem_append_right _ (List.mem_append_right _ (List.mem_append_right _ (List.mem_append_right _ (List.mem_append_right _ (List.mem_append_right _ (List.mem_append_right _ (List.mem_append_right _ (List.mem_append_right _ (List.mem_append_right _ (List.mem_append_right _ (List.mem_append_right _ (List.mem_append_right _ (List.mem_append_right _ (List.mem_append_right _ (List.mem_append_right _ (List.mem_append_right _ (List.mem_append_right _ (List.mem_append_left _ h))))))))))))))))))))))))))))))))))))))))))))))))))))))))))))))))))
theorem wm_55 {w : Cond} (i : Nat) (h : wsL_law_r55[i]? = some w) : w ∈ wsL_law := by
  have h := List.mem_of_getElem? h
  exact List.mem_append_left _ (List.mem_append_left _ (List.mem_append_left _ (List.mem_append_left _ (List.mem_append_left _ (List.mem_append_left _ (List.mem_append_left _ (List.mem_append_left _ (List.mem_append_left _ (List.mem_append_left _ (List.mem_append_left _ (List.mem_append_left _ (List.mem_append_left _ (List.mem_append_right _ (List.mem_append_right _ (List.mem_append_right _ (List.mem_append_right _ (List.mem_append_right _ (List.mem_append_right _ (List.mem_append_right _ (List.mem_append_right _ (List.mem_append_right _ (List.mem_append_right _ (List.mem_append_right _ (List.mem_append_right _ (List.mem_append_right _ (List.mem_append_right _ (List.mem_append_right _ (List.mem_append_right _ (List.mem_append_right _ (List.mem_append_right _ (List.mem_append_right _ (List.mem_append_right _ (List.mem_append_right _ (List.mem_append_right _ (List.mem_append_right _ (List.mem_append_right _ (List.mem_append_right _ (List.mem_append_right _ (List.mem_append_right _ (List.mem_append_right _ (List.mem_append_right _ (List.mem_append_right _ (List.mem_append_right _ (List.mem_append_right _ (List.mem_append_right _ (List.mem_append_right _ (List.mem_append_right _ (List.mem_append_right _ (List.mem_append_right _ (List.mem_append_right _ (List.mem_append_right _ (List.mem_append_right _ (List.mem_append_right _ (List.mem_append_right _ (List.mem_append_right _ (List.mem_append_right _ (List.mem_append_right _ (List.mem_append_right _ (List.mem_append_right _ (List.mem_append_right _ (List.mem_append_right _ (List.mem_append_right _ (List.mem_append_right _ (List.mem_append_right _ (List.mem_append_right _ (List.mem_append_right _ (List.mem_append_left _ h)))))))))))))))))))))))))))))))))))))))))))))))))))))))))))))))))))
theorem wm_56 {w : Cond} (i : Nat) (h : wsL_law_r56[i]? = some w) : w ∈ wsL_law := by
  have h := List.mem_of_getElem? h
  exact List.mem_append_left _ (List.mem_append_left _ (List.mem_append_left _ (List.mem_append_left _ (List.mem_append_left _ (List.mem_append_left _ (List.mem_append_left _ (List.mem_append_left _ (List.mem_append_left _ (List.mem_append_left _ (List.mem_append_left _ (List.mem_append_left _ (List.mem_append_left _ (List.mem_append_right _ (List.mem_append_right _ (List.mem_append_right _ (List.mem_append_right _ (List.mem_append_right _ (List.mem_append_right _ (List.mem_append_right _ (List.mem_append_right _ (List.mem_append_right _ (List.mem_append_right _ (List.mem_append_right _ (List.mem_append_right _ (List.mem_append_right _ (List.mem_append_right _ (List.mem_append_right _ (List.mem_append_right _ (List.mem_append_right _ (List.mem_append_right _ (List.mem_append_right _ (List.mem_append_right _ (List.mem_append_right _ (List.mem_append_right _ (List.mem_append_right _ (List.mem_append_right _ (List.mem_append_right _ (List.mem_append_right _ (List.mem_append_right _ (List.mem_append_right _ (List.mem_append_right _ (List.mem_append_right _ (List.mem_append_right _ (List.mem_append_right _ (List.mem_append_right _ (List.mem_append_right _ (List.mem_append_right _ (List.mem_append_right _ (List.mem_append_right _ (List.mem_append_right _ (List.mem_append_right _ (List.mem_append_right _ (List.mem_append_right _ (List.mem_append_right _ (List.mem_append_right _ (List.mem_append_right _ (List.mem_append_right _ (List.mem_append_right _ (List.mem_append_right _ (List.mem_append_right _ (List.mem_append_right _ (List.mem_append_right _ (List.mem_append_right _ (List.mem_append_right _ (List.mem_append_right _ (List.mem_append_right _ (List.mem_append_right _ (List.mem_append_left _ h))))))))))))))))))))))))))))))))))))))))))))))))))))))))))))))))))))
theorem wm_57 {w : Cond} (i : Nat) (h : wsL_law_r57[i]? = some w) : w ∈ wsL_law := by
  have h := List.mem_of_getElem? h
  exact List.mem_append_left _ (List.mem_append_left _ (List.mem_append_left _ (List.mem_append_left _ (List.mem_append_left _ (List.mem_append_left _ (List.mem_append_left _ (List.mem_append_left _ (List.mem_append_left _ (List.mem_append_left _ (List.mem_append_left _ (List.mem_append_left _ (List.mem_append_left _ (List.mem_append_right _ (List.mem_append_right _ (List.mem_append_right _ (List.mem_append_right _ (List.mem_append_right _ (List.mem_append_right _ (List.mem_append_right _ (List.mem_append_right _ (List.mem_append_right _ (List.mem_append_right _ (List.mem_append_right _ (List.mem_append_right _ (List.mem_append_right _ (List.mem_append_right _ (List.mem_append_right _ (List.mem_append_right _ (List.mem_append_right _ (List.mem_append_right _ (List.mem_append_right _ (List.mem_append_right _ (List.mem_append_right _ (List.mem_append_right _ (List.mem_append_right _ (List.mem_append_right _ (List.mem_append_right _ (List.mem_append_right _ (List.mem_append_right _ (List.mem_append_right _ (List.mem_append_right _ (List.mem_append_right _ (List.mem_append_right _ (List.mem_append_right _ (List.mem_append_right _ (List.mem_append_right _ (List.mem_append_right _ (List.mem_append_right _ (List.mem_append_right _ (List.mem_append_right _ (List.mem_append_right _ (List.mem_append_right _ (List.mem_append_right _ (List.mem_append_right _ (List.mem_append_right _ (List.mem_append_right _ (List.mem_append_right _ (List.mem_append_right _ (List.mem_append_right _ (List.mem_append_right _ (List.mem_append_right _ (List.mem_append_right _ (List.mem_append_right _ (List.mem_append_right _ (List.mem_append_right _ (List.mem_append_right _ (List.mem_append_right _ (List.mem_append_right _ (h)))))))))))))))))))))))))))))))))))))))))))))))))))))))))))))))))))))
theorem wsL_law_in : ∀ w ∈ wsL_law, w ∈ lw_tbl := by
  intro w h
  unfold wsL_law at h
  refine Or.elim (List.mem_append.mp h) (fun h => ?_) (fun h => absurd h List.not_mem_nil)
  refine Or.elim (List.mem_append.mp h) (fun h => ?_) (fun h => wrX_2 w h)
  refine Or.elim (List.mem_append.mp h) (fun h => ?_) (fun h => wrX_6 w h)
  refine Or.elim (List.mem_append.mp h) (fun h => ?_) (fun h => wrX_1 w h)
  refine Or.elim (List.mem_append.mp h) (fun h => ?_) (fun h => wrX_0 w h)
  refine Or.elim (List.mem_append.mp h) (fun h => ?_) (fun h => wrX_8 w h)
  refine Or.elim (List.mem_append.mp h) (fun h => ?_) (fun h => wrX_3 w h)
  refine Or.elim (List.mem_append.mp h) (fun h => ?_) (fun h => wrX_7 w h)
  refine Or.elim (List.mem_append.mp h) (fun h => ?_) (fun h => wrX_5 w h)
  refine Or.elim (List.mem_append.mp h) (fun h => ?_) (fun h => wrX_4 w h)
  refine Or.elim (List.mem_append.mp h) (fun h => ?_) (fun h => wrX_9 w h)
  refine Or.elim (List.mem_append.mp h) (fun h => ?_) (fun h => wrX_11 w h)
  refine Or.elim (List.mem_append.mp h) (fun h => ?_) (fun h => wrX_10 w h)
  refine Or.elim (List.mem_append.mp h) (fun h => wr_1 w h) (fun h => ?_)
  refine Or.elim (List.mem_append.mp h) (fun h => wr_2 w h) (fun h => ?_)
  refine Or.elim (List.mem_append.mp h) (fun h => wr_3 w h) (fun h => ?_)
  refine Or.elim (List.mem_append.mp h) (fun h => wr_4 w h) (fun h => ?_)
  refine Or.elim (List.mem_append.mp h) (fun h => wr_5 w h) (fun h => ?_)
  refine Or.elim (List.mem_append.mp h) (fun h => wr_6 w h) (fun h => ?_)
  refine Or.elim (List.mem_append.mp h) (fun h => wr_7 w h) (fun h => ?_)
  refine Or.elim (List.mem_append.mp h) (fun h => wr_8 w h) (fun h => ?_)
  refine Or.elim (List.mem_append.mp h) (fun h => wr_9 w h) (fun h => ?_)
  refine Or.elim (List.mem_append.mp h) (fun h => wr_10 w h) (fun h => ?_)
  refine Or.elim (List.mem_append.mp h) (fun h => wr_11 w h) (fun h => ?_)
  refine Or.elim (List.mem_append.mp h) (fun h => wr_12 w h) (fun h => ?_)
  refine Or.elim (List.mem_append.mp h) (fun h => wr_13 w h) (fun h => ?_)
  refine Or.elim (List.mem_append.mp h) (fun h => wr_14 w h) (fun h => ?_)
  refine Or.elim (List.mem_append.mp h) (fun h => wr_15 w h) (fun h => ?_)
  refine Or.elim (List.mem_append.mp h) (fun h => wr_16 w h) (fun h => ?_)
  refine Or.elim (List.mem_append.mp h) (fun h => wr_17 w h) (fun h => ?_)
  refine Or.elim (List.mem_append.mp h) (fun h => wr_18 w h) (fun h => ?_)
  refine Or.elim (List.mem_append.mp h) (fun h => wr_19 w h) (fun h => ?_)
  refine Or.elim (List.mem_append.mp h) (fun h => wr_20 w h) (fun h => ?_)
  refine Or.elim (List.mem_append.mp h) (fun h => wr_21 w h) (fun h => ?_)
  refine Or.elim (List.mem_append.mp h) (fun h => wr_22 w h) (fun h => ?_)
  refine Or.elim (List.mem_append.mp h) (fun h => wr_23 w h) (fun h => ?_)
  refine Or.elim (List.mem_append.mp h) (fun h => wr_24 w h) (fun h => ?_)
  refine Or.elim (List.mem_append.mp h) (fun h => wr_25 w h) (fun h => ?_)
  refine Or.elim (List.mem_append.mp h) (fun h => wr_26 w h) (fun h => ?_)
  refine Or.elim (List.mem_append.mp h) (fun h => wr_27 w h) (fun h => ?_)
  refine Or.elim (List.mem_append.mp h) (fun h => wr_28 w h) (fun h => ?_)
  refine Or.elim (List.mem_append.mp h) (fun h => wr_29 w h) (fun h => ?_)
  refine Or.elim (List.mem_append.mp h) (fun h => wr_30 w h) (fun h => ?_)
  refine Or.elim (List.mem_append.mp h) (fun h => wr_31 w h) (fun h => ?_)
  refine Or.elim (List.mem_append.mp h) (fun h => wr_32 w h) (fun h => ?_)
  refine Or.elim (List.mem_append.mp h) (fun h => wr_33 w h) (fun h => ?_)
  refine Or.elim (List.mem_append.mp h) (fun h => wr_34 w h) (fun h => ?_)
  refine Or.elim (List.mem_append.mp h) (fun h => wr_35 w h) (fun h => ?_)
  refine Or.elim (List.mem_append.mp h) (fun h => wr_36 w h) (fun h => ?_)
  refine Or.elim (List.mem_append.mp h) (fun h => wr_37 w h) (fun h => ?_)
  refine Or.elim (List.mem_append.mp h) (fun h => wr_38 w h) (fun h => ?_)
  refine Or.elim (List.mem_append.mp h) (fun h => wr_39 w h) (fun h => ?_)
  refine Or.elim (List.mem_append.mp h) (fun h => wr_40 w h) (fun h => ?_)
  refine Or.elim (List.mem_append.mp h) (fun h => wr_41 w h) (fun h => ?_)
  refine Or.elim (List.mem_append.mp h) (fun h => wr_42 w h) (fun h => ?_)
  refine Or.elim (List.mem_append.mp h) (fun h => wr_43 w h) (fun h => ?_)
  refine Or.elim (List.mem_append.mp h) (fun h => wr_44 w h) (fun h => ?_)
  refine Or.elim (List.mem_append.mp h) (fun h => wr_45 w h) (fun h => ?_)
  refine Or.elim (List.mem_append.mp h) (fun h => wr_46 w h) (fun h => ?_)
  refine Or.elim (List.mem_append.mp h) (fun h => wr_47 w h) (fun h => ?_)
  refine Or.elim (List.mem_append.mp h) (fun h => wr_48 w h) (fun h => ?_)
  refine Or.elim (List.mem_append.mp h) (fun h => wr_49 w h) (fun h => ?_)
  refine Or.elim (List.mem_append.mp h) (fun h => wr_50 w h) (fun h => ?_)
  refine Or.elim (List.mem_append.mp h) (fun h => wr_51 w h) (fun h => ?_)
  refine Or.elim (List.mem_append.mp h) (fun h => wr_52 w h) (fun h => ?_)
  refine Or.elim (List.mem_append.mp h) (fun h => wr_53 w h) (fun h => ?_)
  refine Or.elim (List.mem_append.mp h) (fun h => wr_54 w h) (fun h => ?_)
  refine Or.elim (List.mem_append.mp h) (fun h => wr_55 w h) (fun h => ?_)
  refine Or.elim (List.mem_append.mp h) (fun h => wr_56 w h) (fun h => ?_)
  exact wr_57 w h
theorem wsL_good : ∀ w ∈ wsL_law, goodWord w = true := by
  intro w h
  unfold wsL_law at h
  refine Or.elim (List.mem_append.mp h) (fun h => ?_) (fun h => absurd h List.not_mem_nil)
  refine Or.elim (List.mem_append.mp h) (fun h => ?_) (fun h => List.all_eq_true.mp wgX_2 w h)
  refine Or.elim (List.mem_append.mp h) (fun h => ?_) (fun h => List.all_eq_true.mp wgX_6 w h)
  refine Or.elim (List.mem_append.mp h) (fun h => ?_) (fun h => List.all_eq_true.mp wgX_1 w h)
  refine Or.elim (List.mem_append.mp h) (fun h => ?_) (fun h => List.all_eq_true.mp wgX_0 w h)
  refine Or.elim (List.mem_append.mp h) (fun h => ?_) (fun h => List.all_eq_true.mp wgX_8 w h)
  refine Or.elim (List.mem_append.mp h) (fun h => ?_) (fun h => List.all_eq_true.mp wgX_3 w h)
  refine Or.elim (List.mem_append.mp h) (fun h => ?_) (fun h => List.all_eq_true.mp wgX_7 w h)
  refine Or.elim (List.mem_append.mp h) (fun h => ?_) (fun h => List.all_eq_true.mp wgX_5 w h)
  refine Or.elim (List.mem_append.mp h) (fun h => ?_) (fun h => List.all_eq_true.mp wgX_4 w h)
  refine Or.elim (List.mem_append.mp h) (fun h => ?_) (fun h => List.all_eq_true.mp wgX_9 w h)
  refine Or.elim (List.mem_append.mp h) (fun h => ?_) (fun h => List.all_eq_true.mp wgX_11 w h)
  refine Or.elim (List.mem_append.mp h) (fun h => ?_) (fun h => List.all_eq_true.mp wgX_10 w h)
  refine Or.elim (List.mem_append.mp h) (fun h => List.all_eq_true.mp wg_1 w h) (fun h => ?_)
  refine Or.elim (List.mem_append.mp h) (fun h => List.all_eq_true.mp wg_2 w h) (fun h => ?_)
  refine Or.elim (List.mem_append.mp h) (fun h => List.all_eq_true.mp wg_3 w h) (fun h => ?_)
  refine Or.elim (List.mem_append.mp h) (fun h => List.all_eq_true.mp wg_4 w h) (fun h => ?_)
  refine Or.elim (List.mem_append.mp h) (fun h => List.all_eq_true.mp wg_5 w h) (fun h => ?_)
  refine Or.elim (List.mem_append.mp h) (fun h => List.all_eq_true.mp wg_6 w h) (fun h => ?_)
  refine Or.elim (List.mem_append.mp h) (fun h => List.all_eq_true.mp wg_7 w h) (fun h => ?_)
  refine Or.elim (List.mem_append.mp h) (fun h => List.all_eq_true.mp wg_8 w h) (fun h => ?_)
  refine Or.elim (List.mem_append.mp h) (fun h => List.all_eq_true.mp wg_9 w h) (fun h => ?_)
  refine Or.elim (List.mem_append.mp h) (fun h => List.all_eq_true.mp wg_10 w h) (fun h => ?_)
  refine Or.elim (List.mem_append.mp h) (fun h => List.all_eq_true.mp wg_11 w h) (fun h => ?_)
  refine Or.elim (List.mem_append.mp h) (fun h => List.all_eq_true.mp wg_12 w h) (fun h => ?_)
  refine Or.elim (List.mem_append.mp h) (fun h => List.all_eq_true.mp wg_13 w h) (fun h => ?_)
  refine Or.elim (List.mem_append.mp h) (fun h => List.all_eq_true.mp wg_14 w h) (fun h => ?_)
  refine Or.elim (List.mem_append.mp h) (fun h => List.all_eq_true.mp wg_15 w h) (fun h => ?_)
  refine Or.elim (List.mem_append.mp h) (fun h => List.all_eq_true.mp wg_16 w h) (fun h => ?_)
  refine Or.elim (List.mem_append.mp h) (fun h => List.all_eq_true.mp wg_17 w h) (fun h => ?_)
  refine Or.elim (List.mem_append.mp h) (fun h => List.all_eq_true.mp wg_18 w h) (fun h => ?_)
  refine Or.elim (List.mem_append.mp h) (fun h => List.all_eq_true.mp wg_19 w h) (fun h => ?_)
  refine Or.elim (List.mem_append.mp h) (fun h => List.all_eq_true.mp wg_20 w h) (fun h => ?_)
  refine Or.elim (List.mem_append.mp h) (fun h => List.all_eq_true.mp wg_21 w h) (fun h => ?_)
  refine Or.elim (List.mem_append.mp h) (fun h => List.all_eq_true.mp wg_22 w h) (fun h => ?_)
  refine Or.elim (List.mem_append.mp h) (fun h => List.all_eq_true.mp wg_23 w h) (fun h => ?_)
  refine Or.elim (List.mem_append.mp h) (fun h => List.all_eq_true.mp wg_24 w h) (fun h => ?_)
  refine Or.elim (List.mem_append.mp h) (fun h => List.all_eq_true.mp wg_25 w h) (fun h => ?_)
  refine Or.elim (List.mem_append.mp h) (fun h => List.all_eq_true.mp wg_26 w h) (fun h => ?_)
  refine Or.elim (List.mem_append.mp h) (fun h => List.all_eq_true.mp wg_27 w h) (fun h => ?_)
  refine Or.elim (List.mem_append.mp h) (fun h => List.all_eq_true.mp wg_28 w h) (fun h => ?_)
  refine Or.elim (List.mem_append.mp h) (fun h => List.all_eq_true.mp wg_29 w h) (fun h => ?_)
  refine Or.elim (List.mem_append.mp h) (fun h => List.all_eq_true.mp wg_30 w h) (fun h => ?_)
  refine Or.elim (List.mem_append.mp h) (fun h => List.all_eq_true.mp wg_31 w h) (fun h => ?_)
  refine Or.elim (List.mem_append.mp h) (fun h => List.all_eq_true.mp wg_32 w h) (fun h => ?_)
  refine Or.elim (List.mem_append.mp h) (fun h => List.all_eq_true.mp wg_33 w h) (fun h => ?_)
  refine Or.elim (List.mem_append.mp h) (fun h => List.all_eq_true.mp wg_34 w h) (fun h => ?_)
  refine Or.elim (List.mem_append.mp h) (fun h => List.all_eq_true.mp wg_35 w h) (fun h => ?_)
  refine Or.elim (List.mem_append.mp h) (fun h => List.all_eq_true.mp wg_36 w h) (fun h => ?_)
  refine Or.elim (List.mem_append.mp h) (fun h => List.all_eq_true.mp wg_37 w h) (fun h => ?_)
  refine Or.elim (List.mem_append.mp h) (fun h => List.all_eq_true.mp wg_38 w h) (fun h => ?_)
  refine Or.elim (List.mem_append.mp h) (fun h => List.all_eq_true.mp wg_39 w h) (fun h => ?_)
  refine Or.elim (List.mem_append.mp h) (fun h => List.all_eq_true.mp wg_40 w h) (fun h => ?_)
  refine Or.elim (List.mem_append.mp h) (fun h => List.all_eq_true.mp wg_41 w h) (fun h => ?_)
  refine Or.elim (List.mem_append.mp h) (fun h => List.all_eq_true.mp wg_42 w h) (fun h => ?_)
  refine Or.elim (List.mem_append.mp h) (fun h => List.all_eq_true.mp wg_43 w h) (fun h => ?_)
  refine Or.elim (List.mem_append.mp h) (fun h => List.all_eq_true.mp wg_44 w h) (fun h => ?_)
  refine Or.elim (List.mem_append.mp h) (fun h => List.all_eq_true.mp wg_45 w h) (fun h => ?_)
  refine Or.elim (List.mem_append.mp h) (fun h => List.all_eq_true.mp wg_46 w h) (fun h => ?_)
  refine Or.elim (List.mem_append.mp h) (fun h => List.all_eq_true.mp wg_47 w h) (fun h => ?_)
  refine Or.elim (List.mem_append.mp h) (fun h => List.all_eq_true.mp wg_48 w h) (fun h => ?_)
  refine Or.elim (List.mem_append.mp h) (fun h => List.all_eq_true.mp wg_49 w h) (fun h => ?_)
  refine Or.elim (List.mem_append.mp h) (fun h => List.all_eq_true.mp wg_50 w h) (fun h => ?_)
  refine Or.elim (List.mem_append.mp h) (fun h => List.all_eq_true.mp wg_51 w h) (fun h => ?_)
  refine Or.elim (List.mem_append.mp h) (fun h => List.all_eq_true.mp wg_52 w h) (fun h => ?_)
  refine Or.elim (List.mem_append.mp h) (fun h => List.all_eq_true.mp wg_53 w h) (fun h => ?_)
  refine Or.elim (List.mem_append.mp h) (fun h => List.all_eq_true.mp wg_54 w h) (fun h => ?_)
  refine Or.elim (List.mem_append.mp h) (fun h => List.all_eq_true.mp wg_55 w h) (fun h => ?_)
  refine Or.elim (List.mem_append.mp h) (fun h => List.all_eq_true.mp wg_56 w h) (fun h => ?_)
  exact List.all_eq_true.mp wg_57 w h
