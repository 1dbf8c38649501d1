/-! THE METHODS: records (name, code, locals, type; room), what the tables say of each; links. By program (wip/whole/gen_rec.py). -/
theorem q_m1 (i : Nat) {w : Cond} (h0 : tables_1_1[i]? = some w) (g : goodWord w = true) : w ∈ q_gt := by
  have h : w ∈ tables_1_1 := List.mem_of_getElem? h0
  exact q_gtm (List.mem_append_left _ h) g
theorem q_m2 (i : Nat) {w : Cond} (h0 : tables_1_2[i]? = some w) (g : goodWord w = true) : w ∈ q_gt := by
  have h : w ∈ tables_1_2 := List.mem_of_getElem? h0
  exact q_gtm (List.mem_append_right _ (List.mem_append_left _ h)) g
theorem q_m3 (i : Nat) {w : Cond} (h0 : tables_1_3[i]? = some w) (g : goodWord w = true) : w ∈ q_gt := by
  have h : w ∈ tables_1_3 := List.mem_of_getElem? h0
  exact q_gtm (List.mem_append_right _ (List.mem_append_right _ (List.mem_append_left _ h))) g
theorem q_m4 (i : Nat) {w : Cond} (h0 : tables_1_4[i]? = some w) (g : goodWord w = true) : w ∈ q_gt := by
  have h : w ∈ tables_1_4 := List.mem_of_getElem? h0
  exact q_gtm (List.mem_append_right _ (List.mem_append_right _ (List.mem_append_right _ (List.mem_append_left _ h)))) g
theorem q_m5 (i : Nat) {w : Cond} (h0 : tables_1_5[i]? = some w) (g : goodWord w = true) : w ∈ q_gt := by
  have h : w ∈ tables_1_5 := List.mem_of_getElem? h0
  exact q_gtm (List.mem_append_right _ (List.mem_append_right _ (List.mem_append_right _ (List.mem_append_right _ (List.mem_append_left _ h))))) g
theorem q_m6 (i : Nat) {w : Cond} (h0 : tables_1_6[i]? = some w) (g : goodWord w = true) : w ∈ q_gt := by
  have h : w ∈ tables_1_6 := List.mem_of_getElem? h0
  exact q_gtm (List.mem_append_right _ (List.mem_append_right _ (List.mem_append_right _ (List.mem_append_right _ (List.mem_append_right _ (List.mem_append_left _ h)))))) g
theorem q_m7 (i : Nat) {w : Cond} (h0 : tables_1_7[i]? = some w) (g : goodWord w = true) : w ∈ q_gt := by
  have h : w ∈ tables_1_7 := List.mem_of_getElem? h0
  exact q_gtm (List.mem_append_right _ (List.mem_append_right _ (List.mem_append_right _ (List.mem_append_right _ (List.mem_append_right _ (List.mem_append_right _ (List.mem_append_left _ h))))))) g
theorem q_m8 (i : Nat) {w : Cond} (h0 : tables_1_8[i]? = some w) (g : goodWord w = true) : w ∈ q_gt := by
  have h : w ∈ tables_1_8 := List.mem_of_getElem? h0
  exact q_gtm (List.mem_append_right _ (List.mem_append_right _ (List.mem_append_right _ (List.mem_append_right _ (List.mem_append_right _ (List.mem_append_right _ (List.mem_append_right _ (List.mem_append_left _ h)))))))) g
theorem q_m9 (i : Nat) {w : Cond} (h0 : tables_1_9[i]? = some w) (g : goodWord w = true) : w ∈ q_gt := by
  have h : w ∈ tables_1_9 := List.mem_of_getElem? h0
  exact q_gtm (List.mem_append_right _ (List.mem_append_right _ (List.mem_append_right _ (List.mem_append_right _ (List.mem_append_right _ (List.mem_append_right _ (List.mem_append_right _ (List.mem_append_right _ h)))))))) g
theorem q_ms (i : Nat) {q : MethodName × Nat} (h0 : lw_privs[i]? = some q) : Cond.selects q.1.cls q.1 q.1 ∈ q_gt := by
  have h : Cond.selects q.1.cls q.1 q.1 ∈ k2_sels lw_privs := List.mem_map.mpr ⟨q, List.mem_of_getElem? h0, rfl⟩
  exact List.mem_filter.mpr ⟨List.mem_append_left _ h, rfl⟩
def mX0_init : q_M := ((yX0_init, cX0_init, 3, none), (1, 20, 7, 2889))
theorem DX0_init : q_DI mX0_init 2 := ⟨⟨(q_m1 10 rfl rfl), (q_m2 66 rfl rfl), ⟨by decide +kernel, by decide +kernel⟩, by decide +kernel⟩, rfl, (q_m2 65 rfl rfl)⟩
def mX0_list : q_M := ((yX0_list, cX0_list, 3, none), (5, 112, 0, 0))
theorem DX0_list : q_DV mX0_list 0 := ⟨⟨(q_m1 10 rfl rfl), (q_m4 34 rfl rfl), ⟨by decide +kernel, by decide +kernel⟩, by decide +kernel⟩, (q_m4 32 rfl rfl), (q_m4 33 rfl rfl)⟩
def mX0_pileUp : q_M := ((yX0_pileUp, cX0_pileUp, 4, none), (0, 0, 0, 0))
theorem DX0_pileUp : q_DV mX0_pileUp 3 := ⟨⟨(q_m1 10 rfl rfl), (q_m4 42 rfl rfl), ⟨by decide +kernel, by decide +kernel⟩, by decide +kernel⟩, (q_m4 41 rfl rfl), (q_ms 22 (q := (yX0_pileUp, 16)) rfl)⟩
def mX0_listOne : q_M := ((yX0_listOne, cX0_listOne, 4, none), (4, 89, 0, 0))
theorem DX0_listOne : q_DV mX0_listOne 0 := ⟨⟨(q_m1 10 rfl rfl), (q_m4 46 rfl rfl), ⟨by decide +kernel, by decide +kernel⟩, by decide +kernel⟩, (q_m4 45 rfl rfl), (q_ms 23 (q := (yX0_listOne, 16)) rfl)⟩
def mX0_listMeant : q_M := ((yX0_listMeant, cX0_listMeant, 5, none), (3, 65, 0, 0))
theorem DX0_listMeant : q_DV mX0_listMeant 2 := ⟨⟨(q_m1 10 rfl rfl), (q_m4 63 rfl rfl), ⟨by decide +kernel, by decide +kernel⟩, by decide +kernel⟩, (q_m4 62 rfl rfl), (q_ms 25 (q := (yX0_listMeant, 16)) rfl)⟩
def mX0_setPart : q_M := ((yX0_setPart, cX0_setPart, 4, none), (0, 0, 0, 0))
theorem DX0_setPart : q_DV mX0_setPart 3 := ⟨⟨(q_m1 10 rfl rfl), (q_m4 54 rfl rfl), ⟨by decide +kernel, by decide +kernel⟩, by decide +kernel⟩, (q_m4 53 rfl rfl), (q_ms 24 (q := (yX0_setPart, 16)) rfl)⟩
def mX0_kindNode : q_M := ((yX0_kindNode, cX0_kindNode, 1, some .int), (0, 0, 0, 0))
theorem DX0_kindNode : q_DS mX0_kindNode 1 := ⟨⟨(q_m1 10 rfl rfl), (q_m4 50 rfl rfl), ⟨by decide +kernel, by decide +kernel⟩, by decide +kernel⟩, (q_m4 49 rfl rfl)⟩
def mX0_boundNode : q_M := ((yX0_boundNode, cX0_boundNode, 1, some .int), (0, 0, 0, 0))
theorem DX0_boundNode : q_DS mX0_boundNode 1 := ⟨⟨(q_m1 10 rfl rfl), (q_m4 77 rfl rfl), ⟨by decide +kernel, by decide +kernel⟩, by decide +kernel⟩, (q_m4 76 rfl rfl)⟩
def mX0_nodeOf : q_M := ((yX0_nodeOf, cX0_nodeOf, 2, some .int), (1, 20, 0, 0))
theorem DX0_nodeOf : q_DV mX0_nodeOf 1 := ⟨⟨(q_m1 10 rfl rfl), (q_m4 188 rfl rfl), ⟨by decide +kernel, by decide +kernel⟩, by decide +kernel⟩, (q_m4 186 rfl rfl), (q_m4 187 rfl rfl)⟩
def mX0_allFit : q_M := ((yX0_allFit, cX0_allFit, 1, some .boolean), (5, 119, 0, 0))
theorem DX0_allFit : q_DV mX0_allFit 0 := ⟨⟨(q_m1 10 rfl rfl), (q_m4 121 rfl rfl), ⟨by decide +kernel, by decide +kernel⟩, by decide +kernel⟩, (q_m4 119 rfl rfl), (q_m4 120 rfl rfl)⟩
def mX0_coreOfAll : q_M := ((yX0_coreOfAll, cX0_coreOfAll, 1, some .long), (6, 146, 0, 0))
theorem DX0_coreOfAll : q_DV mX0_coreOfAll 0 := ⟨⟨(q_m1 10 rfl rfl), (q_m4 214 rfl rfl), ⟨by decide +kernel, by decide +kernel⟩, by decide +kernel⟩, (q_m4 212 rfl rfl), (q_m4 213 rfl rfl)⟩
def mX0_coreWithin : q_M := ((yX0_coreWithin, cX0_coreWithin, 8, some .long), (5, 119, 0, 0))
theorem DX0_coreWithin : q_DV mX0_coreWithin 1 := ⟨⟨(q_m1 10 rfl rfl), (q_m4 219 rfl rfl), ⟨by decide +kernel, by decide +kernel⟩, by decide +kernel⟩, (q_m4 217 rfl rfl), (q_m4 218 rfl rfl)⟩
def mX0_meet : q_M := ((yX0_meet, cX0_meet, 3, some .boolean), (5, 119, 0, 0))
theorem DX0_meet : q_DV mX0_meet 2 := ⟨⟨(q_m1 10 rfl rfl), (q_m4 228 rfl rfl), ⟨by decide +kernel, by decide +kernel⟩, by decide +kernel⟩, (q_m4 226 rfl rfl), (q_m4 227 rfl rfl)⟩
def mX0_clashOf : q_M := ((yX0_clashOf, cX0_clashOf, 4, some .boolean), (4, 96, 0, 0))
theorem DX0_clashOf : q_DV mX0_clashOf 1 := ⟨⟨(q_m1 10 rfl rfl), (q_m4 129 rfl rfl), ⟨by decide +kernel, by decide +kernel⟩, by decide +kernel⟩, (q_m4 127 rfl rfl), (q_m4 128 rfl rfl)⟩
def mX0_ask : q_M := ((yX0_ask, cX0_ask, 7, some .boolean), (3, 70, 0, 0))
theorem DX0_ask : q_DV mX0_ask 1 := ⟨⟨(q_m1 10 rfl rfl), (q_m4 141 rfl rfl), ⟨by decide +kernel, by decide +kernel⟩, by decide +kernel⟩, (q_m4 140 rfl rfl), (q_ms 27 (q := (yX0_ask, 16)) rfl)⟩
def mX1_init : q_M := ((yX1_init, cX1_init, 3, none), (1, 20, 6, 640))
theorem DX1_init : q_DI mX1_init 2 := ⟨⟨(q_m1 12 rfl rfl), (q_m2 152 rfl rfl), ⟨by decide +kernel, by decide +kernel⟩, by decide +kernel⟩, rfl, (q_m2 151 rfl rfl)⟩
def mX1_forget : q_M := ((yX1_forget, cX1_forget, 1, none), (0, 0, 0, 0))
theorem DX1_forget : q_DV mX1_forget 0 := ⟨⟨(q_m1 12 rfl rfl), (q_m4 104 rfl rfl), ⟨by decide +kernel, by decide +kernel⟩, by decide +kernel⟩, (q_m4 102 rfl rfl), (q_m4 103 rfl rfl)⟩
def mX1_find : q_M := ((yX1_find, cX1_find, 4, some .long), (6, 146, 0, 0))
theorem DX1_find : q_DV mX1_find 0 := ⟨⟨(q_m1 12 rfl rfl), (q_m5 37 rfl rfl), ⟨by decide +kernel, by decide +kernel⟩, by decide +kernel⟩, (q_m5 35 rfl rfl), (q_m5 36 rfl rfl)⟩
def mX1_begin : q_M := ((yX1_begin, cX1_begin, 4, none), (1, 20, 0, 0))
theorem DX1_begin : q_DV mX1_begin 0 := ⟨⟨(q_m1 12 rfl rfl), (q_m5 41 rfl rfl), ⟨by decide +kernel, by decide +kernel⟩, by decide +kernel⟩, (q_m5 40 rfl rfl), (q_ms 37 (q := (yX1_begin, 13)) rfl)⟩
def mX1_descend : q_M := ((yX1_descend, cX1_descend, 4, some .int), (1, 25, 0, 0))
theorem DX1_descend : q_DV mX1_descend 1 := ⟨⟨(q_m1 12 rfl rfl), (q_m5 68 rfl rfl), ⟨by decide +kernel, by decide +kernel⟩, by decide +kernel⟩, (q_m5 67 rfl rfl), (q_ms 41 (q := (yX1_descend, 13)) rfl)⟩
def mX1_branches : q_M := ((yX1_branches, cX1_branches, 11, some .long), (1, 25, 0, 0))
theorem DX1_branches : q_DV mX1_branches 1 := ⟨⟨(q_m1 12 rfl rfl), (q_m5 47 rfl rfl), ⟨by decide +kernel, by decide +kernel⟩, by decide +kernel⟩, (q_m5 46 rfl rfl), (q_ms 38 (q := (yX1_branches, 13)) rfl)⟩
def mX1_learn : q_M := ((yX1_learn, cX1_learn, 4, some .long), (0, 0, 0, 0))
theorem DX1_learn : q_DV mX1_learn 2 := ⟨⟨(q_m1 12 rfl rfl), (q_m5 64 rfl rfl), ⟨by decide +kernel, by decide +kernel⟩, by decide +kernel⟩, (q_m5 63 rfl rfl), (q_ms 40 (q := (yX1_learn, 13)) rfl)⟩
def mX1_leastWeight : q_M := ((yX1_leastWeight, cX1_leastWeight, 6, some .long), (0, 0, 0, 0))
theorem DX1_leastWeight : q_DV mX1_leastWeight 1 := ⟨⟨(q_m1 12 rfl rfl), (q_m5 52 rfl rfl), ⟨by decide +kernel, by decide +kernel⟩, by decide +kernel⟩, (q_m5 51 rfl rfl), (q_ms 39 (q := (yX1_leastWeight, 13)) rfl)⟩
def mX2_init : q_M := ((yX2_init, cX2_init, 1, none), (2, 40, 20, 790))
theorem DX2_init : q_DI mX2_init 0 := ⟨⟨(q_m1 3 rfl rfl), (q_m1 128 rfl rfl), ⟨by decide +kernel, by decide +kernel⟩, by decide +kernel⟩, rfl, (q_m1 127 rfl rfl)⟩
def mX2_ways : q_M := ((yX2_ways, cX2_ways, 5, some .int), (3, 74, 0, 0))
theorem DX2_ways : q_DV mX2_ways 3 := ⟨⟨(q_m1 3 rfl rfl), (q_m5 95 rfl rfl), ⟨by decide +kernel, by decide +kernel⟩, by decide +kernel⟩, (q_m5 93 rfl rfl), (q_m5 94 rfl rfl)⟩
def mX2_swaps : q_M := ((yX2_swaps, cX2_swaps, 1, some .boolean), (0, 0, 0, 0))
theorem DX2_swaps : q_DS mX2_swaps 1 := ⟨⟨(q_m1 3 rfl rfl), (q_m5 99 rfl rfl), ⟨by decide +kernel, by decide +kernel⟩, by decide +kernel⟩, (q_m5 98 rfl rfl)⟩
def mX2_write : q_M := ((yX2_write, cX2_write, 9, none), (4, 99, 0, 0))
theorem DX2_write : q_DV mX2_write 4 := ⟨⟨(q_m1 3 rfl rfl), (q_m5 104 rfl rfl), ⟨by decide +kernel, by decide +kernel⟩, by decide +kernel⟩, (q_m5 102 rfl rfl), (q_m5 103 rfl rfl)⟩
def mX2_pileUp : q_M := ((yX2_pileUp, cX2_pileUp, 4, none), (0, 0, 0, 0))
theorem DX2_pileUp : q_DV mX2_pileUp 3 := ⟨⟨(q_m1 3 rfl rfl), (q_m5 111 rfl rfl), ⟨by decide +kernel, by decide +kernel⟩, by decide +kernel⟩, (q_m5 110 rfl rfl), (q_ms 42 (q := (yX2_pileUp, 7)) rfl)⟩
def mX2_movedTo : q_M := ((yX2_movedTo, cX2_movedTo, 2, some .int), (0, 0, 0, 0))
theorem DX2_movedTo : q_DV mX2_movedTo 1 := ⟨⟨(q_m1 3 rfl rfl), (q_m5 125 rfl rfl), ⟨by decide +kernel, by decide +kernel⟩, by decide +kernel⟩, (q_m5 124 rfl rfl), (q_ms 44 (q := (yX2_movedTo, 7)) rfl)⟩
def mX2_writePlace : q_M := ((yX2_writePlace, cX2_writePlace, 4, none), (2, 44, 0, 0))
theorem DX2_writePlace : q_DV mX2_writePlace 3 := ⟨⟨(q_m1 3 rfl rfl), (q_m5 116 rfl rfl), ⟨by decide +kernel, by decide +kernel⟩, by decide +kernel⟩, (q_m5 115 rfl rfl), (q_ms 43 (q := (yX2_writePlace, 7)) rfl)⟩
def mX2_changePlace : q_M := ((yX2_changePlace, cX2_changePlace, 6, none), (3, 74, 0, 0))
theorem DX2_changePlace : q_DV mX2_changePlace 4 := ⟨⟨(q_m1 3 rfl rfl), (q_m5 129 rfl rfl), ⟨by decide +kernel, by decide +kernel⟩, by decide +kernel⟩, (q_m5 128 rfl rfl), (q_ms 45 (q := (yX2_changePlace, 7)) rfl)⟩
def mX2_pileKids : q_M := ((yX2_pileKids, cX2_pileKids, 7, none), (3, 64, 0, 0))
theorem DX2_pileKids : q_DV mX2_pileKids 3 := ⟨⟨(q_m1 3 rfl rfl), (q_m5 133 rfl rfl), ⟨by decide +kernel, by decide +kernel⟩, by decide +kernel⟩, (q_m5 132 rfl rfl), (q_ms 46 (q := (yX2_pileKids, 7)) rfl)⟩
def mX3_init : q_M := ((yX3_init, cX3_init, 4, none), (1, 20, 3, 120))
theorem DX3_init : q_DI mX3_init 3 := ⟨⟨(q_m1 13 rfl rfl), (q_m2 199 rfl rfl), ⟨by decide +kernel, by decide +kernel⟩, by decide +kernel⟩, rfl, (q_m2 198 rfl rfl)⟩
def mX3_has : q_M := ((yX3_has, cX3_has, 2, some .boolean), (0, 0, 0, 0))
theorem DX3_has : q_DV mX3_has 1 := ⟨⟨(q_m1 13 rfl rfl), (q_m5 150 rfl rfl), ⟨by decide +kernel, by decide +kernel⟩, by decide +kernel⟩, (q_m5 148 rfl rfl), (q_m5 149 rfl rfl)⟩
def mX3_list : q_M := ((yX3_list, cX3_list, 7, none), (6, 134, 0, 0))
theorem DX3_list : q_DV mX3_list 1 := ⟨⟨(q_m1 13 rfl rfl), (q_m5 91 rfl rfl), ⟨by decide +kernel, by decide +kernel⟩, by decide +kernel⟩, (q_m5 89 rfl rfl), (q_m5 90 rfl rfl)⟩
def mX3_keep : q_M := ((yX3_keep, cX3_keep, 4, none), (0, 0, 0, 0))
theorem DX3_keep : q_DV mX3_keep 3 := ⟨⟨(q_m1 13 rfl rfl), (q_m5 142 rfl rfl), ⟨by decide +kernel, by decide +kernel⟩, by decide +kernel⟩, (q_m5 141 rfl rfl), (q_ms 47 (q := (yX3_keep, 8)) rfl)⟩
def mX4_init : q_M := ((yX4_init, cX4_init, 1, none), (1, 20, 7, 39218))
theorem DX4_init : q_DI mX4_init 0 := ⟨⟨(q_m1 4 rfl rfl), (q_m1 160 rfl rfl), ⟨by decide +kernel, by decide +kernel⟩, by decide +kernel⟩, rfl, (q_m1 159 rfl rfl)⟩
def mX4_begin : q_M := ((yX4_begin, cX4_begin, 3, none), (1, 24, 0, 0))
theorem DX4_begin : q_DV mX4_begin 1 := ⟨⟨(q_m1 4 rfl rfl), (q_m4 133 rfl rfl), ⟨by decide +kernel, by decide +kernel⟩, by decide +kernel⟩, (q_m4 131 rfl rfl), (q_m4 132 rfl rfl)⟩
def mX4_make : q_M := ((yX4_make, cX4_make, 5, some .int), (0, 0, 0, 0))
theorem DX4_make : q_DV mX4_make 3 := ⟨⟨(q_m1 4 rfl rfl), (q_m4 137 rfl rfl), ⟨by decide +kernel, by decide +kernel⟩, by decide +kernel⟩, (q_m4 135 rfl rfl), (q_m4 136 rfl rfl)⟩
def mX4_chief : q_M := ((yX4_chief, cX4_chief, 4, some .int), (0, 0, 0, 0))
theorem DX4_chief : q_DV mX4_chief 1 := ⟨⟨(q_m1 4 rfl rfl), (q_m4 151 rfl rfl), ⟨by decide +kernel, by decide +kernel⟩, by decide +kernel⟩, (q_m4 150 rfl rfl), (q_ms 28 (q := (yX4_chief, 10)) rfl)⟩
def mX4_join : q_M := ((yX4_join, cX4_join, 7, some .boolean), (2, 44, 0, 0))
theorem DX4_join : q_DV mX4_join 2 := ⟨⟨(q_m1 4 rfl rfl), (q_m4 146 rfl rfl), ⟨by decide +kernel, by decide +kernel⟩, by decide +kernel⟩, (q_m4 144 rfl rfl), (q_m4 145 rfl rfl)⟩
def mX4_pileParts : q_M := ((yX4_pileParts, cX4_pileParts, 5, some .int), (1, 20, 0, 0))
theorem DX4_pileParts : q_DV mX4_pileParts 3 := ⟨⟨(q_m1 4 rfl rfl), (q_m4 155 rfl rfl), ⟨by decide +kernel, by decide +kernel⟩, by decide +kernel⟩, (q_m4 154 rfl rfl), (q_ms 29 (q := (yX4_pileParts, 10)) rfl)⟩
def mX4_hasRing : q_M := ((yX4_hasRing, cX4_hasRing, 4, some .boolean), (2, 46, 0, 0))
theorem DX4_hasRing : q_DV mX4_hasRing 0 := ⟨⟨(q_m1 4 rfl rfl), (q_m4 170 rfl rfl), ⟨by decide +kernel, by decide +kernel⟩, by decide +kernel⟩, (q_m4 168 rfl rfl), (q_m4 169 rfl rfl)⟩
def mX4_countPart : q_M := ((yX4_countPart, cX4_countPart, 3, none), (1, 23, 0, 0))
theorem DX4_countPart : q_DV mX4_countPart 1 := ⟨⟨(q_m1 4 rfl rfl), (q_m4 174 rfl rfl), ⟨by decide +kernel, by decide +kernel⟩, by decide +kernel⟩, (q_m4 173 rfl rfl), (q_ms 30 (q := (yX4_countPart, 10)) rfl)⟩
def mX4_takePart : q_M := ((yX4_takePart, cX4_takePart, 4, some .int), (1, 23, 0, 0))
theorem DX4_takePart : q_DV mX4_takePart 2 := ⟨⟨(q_m1 4 rfl rfl), (q_m4 178 rfl rfl), ⟨by decide +kernel, by decide +kernel⟩, by decide +kernel⟩, (q_m4 177 rfl rfl), (q_ms 31 (q := (yX4_takePart, 10)) rfl)⟩
def mX4_numberAt : q_M := ((yX4_numberAt, cX4_numberAt, 7, some .int), (2, 43, 0, 0))
theorem DX4_numberAt : q_DV mX4_numberAt 2 := ⟨⟨(q_m1 4 rfl rfl), (q_m4 192 rfl rfl), ⟨by decide +kernel, by decide +kernel⟩, by decide +kernel⟩, (q_m4 190 rfl rfl), (q_m4 191 rfl rfl)⟩
def mX4_pileInOrder : q_M := ((yX4_pileInOrder, cX4_pileInOrder, 4, some .int), (1, 20, 0, 0))
theorem DX4_pileInOrder : q_DV mX4_pileInOrder 2 := ⟨⟨(q_m1 4 rfl rfl), (q_m4 196 rfl rfl), ⟨by decide +kernel, by decide +kernel⟩, by decide +kernel⟩, (q_m4 195 rfl rfl), (q_ms 32 (q := (yX4_pileInOrder, 10)) rfl)⟩
def mX4_makeOpen : q_M := ((yX4_makeOpen, cX4_makeOpen, 1, some .int), (1, 24, 0, 0))
theorem DX4_makeOpen : q_DV mX4_makeOpen 0 := ⟨⟨(q_m1 4 rfl rfl), (q_m4 161 rfl rfl), ⟨by decide +kernel, by decide +kernel⟩, by decide +kernel⟩, (q_m4 159 rfl rfl), (q_m4 160 rfl rfl)⟩
def mX4_makeTold : q_M := ((yX4_makeTold, cX4_makeTold, 10, some .int), (1, 24, 0, 0))
theorem DX4_makeTold : q_DV mX4_makeTold 2 := ⟨⟨(q_m1 4 rfl rfl), (q_m4 165 rfl rfl), ⟨by decide +kernel, by decide +kernel⟩, by decide +kernel⟩, (q_m4 163 rfl rfl), (q_m4 164 rfl rfl)⟩
def mX5_init : q_M := ((yX5_init, cX5_init, 2, none), (1, 20, 1, 4096))
theorem DX5_init : q_DI mX5_init 1 := ⟨⟨(q_m1 11 rfl rfl), (q_m2 124 rfl rfl), ⟨by decide +kernel, by decide +kernel⟩, by decide +kernel⟩, rfl, (q_m2 123 rfl rfl)⟩
def mX5_find : q_M := ((yX5_find, cX5_find, 3, none), (6, 145, 0, 0))
theorem DX5_find : q_DV mX5_find 1 := ⟨⟨(q_m1 11 rfl rfl), (q_m4 237 rfl rfl), ⟨by decide +kernel, by decide +kernel⟩, by decide +kernel⟩, (q_m4 235 rfl rfl), (q_m4 236 rfl rfl)⟩
def mX5_grown : q_M := ((yX5_grown, cX5_grown, 7, some .int), (5, 119, 0, 0))
theorem DX5_grown : q_DV mX5_grown 1 := ⟨⟨(q_m1 11 rfl rfl), (q_m5 10 rfl rfl), ⟨by decide +kernel, by decide +kernel⟩, by decide +kernel⟩, (q_m5 9 rfl rfl), (q_ms 35 (q := (yX5_grown, 6)) rfl)⟩
def mX5_markAbove : q_M := ((yX5_markAbove, cX5_markAbove, 5, none), (1, 22, 0, 0))
theorem DX5_markAbove : q_DV mX5_markAbove 1 := ⟨⟨(q_m1 11 rfl rfl), (q_m5 2 rfl rfl), ⟨by decide +kernel, by decide +kernel⟩, by decide +kernel⟩, (q_m5 1 rfl rfl), (q_ms 33 (q := (yX5_markAbove, 6)) rfl)⟩
def mX5_markBelow : q_M := ((yX5_markBelow, cX5_markBelow, 4, none), (1, 22, 0, 0))
theorem DX5_markBelow : q_DV mX5_markBelow 1 := ⟨⟨(q_m1 11 rfl rfl), (q_m5 14 rfl rfl), ⟨by decide +kernel, by decide +kernel⟩, by decide +kernel⟩, (q_m5 13 rfl rfl), (q_ms 36 (q := (yX5_markBelow, 6)) rfl)⟩
def mX5_mark : q_M := ((yX5_mark, cX5_mark, 3, none), (0, 0, 0, 0))
theorem DX5_mark : q_DV mX5_mark 2 := ⟨⟨(q_m1 11 rfl rfl), (q_m5 6 rfl rfl), ⟨by decide +kernel, by decide +kernel⟩, by decide +kernel⟩, (q_m5 5 rfl rfl), (q_ms 34 (q := (yX5_mark, 6)) rfl)⟩
def mX5_clashAt : q_M := ((yX5_clashAt, cX5_clashAt, 4, some .long), (0, 0, 0, 0))
theorem DX5_clashAt : q_DV mX5_clashAt 1 := ⟨⟨(q_m1 11 rfl rfl), (q_m5 23 rfl rfl), ⟨by decide +kernel, by decide +kernel⟩, by decide +kernel⟩, (q_m5 21 rfl rfl), (q_m5 22 rfl rfl)⟩
def mX5_mendNumbered : q_M := ((yX5_mendNumbered, cX5_mendNumbered, 4, some .long), (1, 21, 0, 0))
theorem DX5_mendNumbered : q_DV mX5_mendNumbered 1 := ⟨⟨(q_m1 11 rfl rfl), (q_m5 80 rfl rfl), ⟨by decide +kernel, by decide +kernel⟩, by decide +kernel⟩, (q_m5 78 rfl rfl), (q_m5 79 rfl rfl)⟩
def mX5_countBeside : q_M := ((yX5_countBeside, cX5_countBeside, 5, some .int), (0, 0, 0, 0))
theorem DX5_countBeside : q_DV mX5_countBeside 1 := ⟨⟨(q_m1 11 rfl rfl), (q_m6 40 rfl rfl), ⟨by decide +kernel, by decide +kernel⟩, by decide +kernel⟩, (q_m6 38 rfl rfl), (q_m6 39 rfl rfl)⟩
def mX5_commonBeside : q_M := ((yX5_commonBeside, cX5_commonBeside, 7, some .long), (0, 0, 0, 0))
theorem DX5_commonBeside : q_DV mX5_commonBeside 1 := ⟨⟨(q_m1 11 rfl rfl), (q_m6 48 rfl rfl), ⟨by decide +kernel, by decide +kernel⟩, by decide +kernel⟩, (q_m6 46 rfl rfl), (q_m6 47 rfl rfl)⟩
def mX6_init : q_M := ((yX6_init, cX6_init, 2, none), (1, 20, 7, 12604))
theorem DX6_init : q_DI mX6_init 1 := ⟨⟨(q_m1 14 rfl rfl), (q_m2 235 rfl rfl), ⟨by decide +kernel, by decide +kernel⟩, by decide +kernel⟩, rfl, (q_m2 234 rfl rfl)⟩
def mX6_work : q_M := ((yX6_work, cX6_work, 2, none), (6, 137, 0, 0))
theorem DX6_work : q_DV mX6_work 0 := ⟨⟨(q_m1 14 rfl rfl), (q_m5 163 rfl rfl), ⟨by decide +kernel, by decide +kernel⟩, by decide +kernel⟩, (q_m5 161 rfl rfl), (q_m5 162 rfl rfl)⟩
def mX6_enter : q_M := ((yX6_enter, cX6_enter, 3, none), (0, 0, 0, 0))
theorem DX6_enter : q_DV mX6_enter 2 := ⟨⟨(q_m1 14 rfl rfl), (q_m5 168 rfl rfl), ⟨by decide +kernel, by decide +kernel⟩, by decide +kernel⟩, (q_m5 167 rfl rfl), (q_ms 48 (q := (yX6_enter, 15)) rfl)⟩
def mX6_leave : q_M := ((yX6_leave, cX6_leave, 2, none), (0, 0, 0, 0))
theorem DX6_leave : q_DV mX6_leave 1 := ⟨⟨(q_m1 14 rfl rfl), (q_m5 197 rfl rfl), ⟨by decide +kernel, by decide +kernel⟩, by decide +kernel⟩, (q_m5 196 rfl rfl), (q_ms 54 (q := (yX6_leave, 15)) rfl)⟩
def mX6_cell : q_M := ((yX6_cell, cX6_cell, 5, some .int), (0, 0, 0, 0))
theorem DX6_cell : q_DV mX6_cell 3 := ⟨⟨(q_m1 14 rfl rfl), (q_m5 222 rfl rfl), ⟨by decide +kernel, by decide +kernel⟩, by decide +kernel⟩, (q_m5 221 rfl rfl), (q_ms 60 (q := (yX6_cell, 15)) rfl)⟩
def mX6_isCell : q_M := ((yX6_isCell, cX6_isCell, 2, some .boolean), (0, 0, 0, 0))
theorem DX6_isCell : q_DV mX6_isCell 1 := ⟨⟨(q_m1 14 rfl rfl), (q_m5 188 rfl rfl), ⟨by decide +kernel, by decide +kernel⟩, by decide +kernel⟩, (q_m5 187 rfl rfl), (q_ms 52 (q := (yX6_isCell, 15)) rfl)⟩
def mX6_headOf : q_M := ((yX6_headOf, cX6_headOf, 2, some .int), (1, 21, 0, 0))
theorem DX6_headOf : q_DV mX6_headOf 1 := ⟨⟨(q_m1 14 rfl rfl), (q_m5 210 rfl rfl), ⟨by decide +kernel, by decide +kernel⟩, by decide +kernel⟩, (q_m5 209 rfl rfl), (q_ms 57 (q := (yX6_headOf, 15)) rfl)⟩
def mX6_oneOf : q_M := ((yX6_oneOf, cX6_oneOf, 2, some .int), (1, 21, 0, 0))
theorem DX6_oneOf : q_DV mX6_oneOf 1 := ⟨⟨(q_m1 14 rfl rfl), (q_m5 193 rfl rfl), ⟨by decide +kernel, by decide +kernel⟩, by decide +kernel⟩, (q_m5 192 rfl rfl), (q_ms 53 (q := (yX6_oneOf, 15)) rfl)⟩
def mX6_twoOf : q_M := ((yX6_twoOf, cX6_twoOf, 2, some .int), (1, 21, 0, 0))
theorem DX6_twoOf : q_DV mX6_twoOf 1 := ⟨⟨(q_m1 14 rfl rfl), (q_m5 184 rfl rfl), ⟨by decide +kernel, by decide +kernel⟩, by decide +kernel⟩, (q_m5 183 rfl rfl), (q_ms 51 (q := (yX6_twoOf, 15)) rfl)⟩
def mX6_step : q_M := ((yX6_step, cX6_step, 5, none), (5, 113, 0, 0))
theorem DX6_step : q_DV mX6_step 1 := ⟨⟨(q_m1 14 rfl rfl), (q_m5 173 rfl rfl), ⟨by decide +kernel, by decide +kernel⟩, by decide +kernel⟩, (q_m5 172 rfl rfl), (q_ms 49 (q := (yX6_step, 15)) rfl)⟩
def mX6_enterOrLeave : q_M := ((yX6_enterOrLeave, cX6_enterOrLeave, 4, none), (1, 22, 0, 0))
theorem DX6_enterOrLeave : q_DV mX6_enterOrLeave 3 := ⟨⟨(q_m1 14 rfl rfl), (q_m5 201 rfl rfl), ⟨by decide +kernel, by decide +kernel⟩, by decide +kernel⟩, (q_m5 200 rfl rfl), (q_ms 55 (q := (yX6_enterOrLeave, 15)) rfl)⟩
def mX6_stepName : q_M := ((yX6_stepName, cX6_stepName, 8, none), (3, 65, 0, 0))
theorem DX6_stepName : q_DV mX6_stepName 3 := ⟨⟨(q_m1 14 rfl rfl), (q_m5 178 rfl rfl), ⟨by decide +kernel, by decide +kernel⟩, by decide +kernel⟩, (q_m5 177 rfl rfl), (q_ms 50 (q := (yX6_stepName, 15)) rfl)⟩
def mX6_stepIf : q_M := ((yX6_stepIf, cX6_stepIf, 4, none), (2, 43, 0, 0))
theorem DX6_stepIf : q_DV mX6_stepIf 3 := ⟨⟨(q_m1 14 rfl rfl), (q_m5 206 rfl rfl), ⟨by decide +kernel, by decide +kernel⟩, by decide +kernel⟩, (q_m5 205 rfl rfl), (q_ms 56 (q := (yX6_stepIf, 15)) rfl)⟩
def mX6_stepCall : q_M := ((yX6_stepCall, cX6_stepCall, 6, none), (3, 67, 0, 0))
theorem DX6_stepCall : q_DV mX6_stepCall 4 := ⟨⟨(q_m1 14 rfl rfl), (q_m5 214 rfl rfl), ⟨by decide +kernel, by decide +kernel⟩, by decide +kernel⟩, (q_m5 213 rfl rfl), (q_ms 58 (q := (yX6_stepCall, 15)) rfl)⟩
def mX6_enterPart : q_M := ((yX6_enterPart, cX6_enterPart, 5, none), (2, 43, 0, 0))
theorem DX6_enterPart : q_DV mX6_enterPart 4 := ⟨⟨(q_m1 14 rfl rfl), (q_m5 218 rfl rfl), ⟨by decide +kernel, by decide +kernel⟩, by decide +kernel⟩, (q_m5 217 rfl rfl), (q_ms 59 (q := (yX6_enterPart, 15)) rfl)⟩
def mX6_stepParts : q_M := ((yX6_stepParts, cX6_stepParts, 6, none), (4, 88, 0, 0))
theorem DX6_stepParts : q_DV mX6_stepParts 4 := ⟨⟨(q_m1 14 rfl rfl), (q_m5 226 rfl rfl), ⟨by decide +kernel, by decide +kernel⟩, by decide +kernel⟩, (q_m5 225 rfl rfl), (q_ms 61 (q := (yX6_stepParts, 15)) rfl)⟩
def mX6_finish : q_M := ((yX6_finish, cX6_finish, 4, none), (3, 65, 0, 0))
theorem DX6_finish : q_DV mX6_finish 3 := ⟨⟨(q_m1 14 rfl rfl), (q_m5 231 rfl rfl), ⟨by decide +kernel, by decide +kernel⟩, by decide +kernel⟩, (q_m5 230 rfl rfl), (q_ms 62 (q := (yX6_finish, 15)) rfl)⟩
def mX6_areNumbers : q_M := ((yX6_areNumbers, cX6_areNumbers, 3, some .boolean), (2, 42, 0, 0))
theorem DX6_areNumbers : q_DV mX6_areNumbers 2 := ⟨⟨(q_m1 14 rfl rfl), (q_m6 3 rfl rfl), ⟨by decide +kernel, by decide +kernel⟩, by decide +kernel⟩, (q_m6 2 rfl rfl), (q_ms 65 (q := (yX6_areNumbers, 15)) rfl)⟩
def mX6_leaveIf : q_M := ((yX6_leaveIf, cX6_leaveIf, 3, none), (1, 21, 0, 0))
theorem DX6_leaveIf : q_DV mX6_leaveIf 2 := ⟨⟨(q_m1 14 rfl rfl), (q_m5 235 rfl rfl), ⟨by decide +kernel, by decide +kernel⟩, by decide +kernel⟩, (q_m5 234 rfl rfl), (q_ms 63 (q := (yX6_leaveIf, 15)) rfl)⟩
def mX6_leaveRow : q_M := ((yX6_leaveRow, cX6_leaveRow, 3, none), (2, 43, 0, 0))
theorem DX6_leaveRow : q_DV mX6_leaveRow 2 := ⟨⟨(q_m1 14 rfl rfl), (q_m5 239 rfl rfl), ⟨by decide +kernel, by decide +kernel⟩, by decide +kernel⟩, (q_m5 238 rfl rfl), (q_ms 64 (q := (yX6_leaveRow, 15)) rfl)⟩
def mX6_numberOf : q_M := ((yX6_numberOf, cX6_numberOf, 6, some .int), (2, 42, 0, 0))
theorem DX6_numberOf : q_DV mX6_numberOf 1 := ⟨⟨(q_m1 14 rfl rfl), (q_m6 7 rfl rfl), ⟨by decide +kernel, by decide +kernel⟩, by decide +kernel⟩, (q_m6 6 rfl rfl), (q_ms 66 (q := (yX6_numberOf, 15)) rfl)⟩
def mX7_init : q_M := ((yX7_init, cX7_init, 8, none), (5, 106, 4, 152))
theorem DX7_init : q_DI mX7_init 2 := ⟨⟨(q_m1 5 rfl rfl), (q_m1 199 rfl rfl), ⟨by decide +kernel, by decide +kernel⟩, by decide +kernel⟩, rfl, (q_m1 198 rfl rfl)⟩
def mX7_readText : q_M := ((yX7_readText, cX7_readText, 3, some .boolean), (6, 143, 0, 0))
theorem DX7_readText : q_DV mX7_readText 1 := ⟨⟨(q_m1 5 rfl rfl), (q_m3 136 rfl rfl), ⟨by decide +kernel, by decide +kernel⟩, by decide +kernel⟩, (q_m3 134 rfl rfl), (q_m3 135 rfl rfl)⟩
def mX7_refuseAskings : q_M := ((yX7_refuseAskings, cX7_refuseAskings, 2, none), (0, 0, 0, 0))
theorem DX7_refuseAskings : q_DV mX7_refuseAskings 1 := ⟨⟨(q_m1 5 rfl rfl), (q_m4 81 rfl rfl), ⟨by decide +kernel, by decide +kernel⟩, by decide +kernel⟩, (q_m4 79 rfl rfl), (q_m4 80 rfl rfl)⟩
def mX7_faultIs : q_M := ((yX7_faultIs, cX7_faultIs, 2, none), (0, 0, 0, 0))
theorem DX7_faultIs : q_DV mX7_faultIs 1 := ⟨⟨(q_m1 5 rfl rfl), (q_m3 181 rfl rfl), ⟨by decide +kernel, by decide +kernel⟩, by decide +kernel⟩, (q_m3 180 rfl rfl), (q_ms 8 (q := (yX7_faultIs, 15)) rfl)⟩
def mX7_refuseToken : q_M := ((yX7_refuseToken, cX7_refuseToken, 1, none), (1, 21, 0, 0))
theorem DX7_refuseToken : q_DV mX7_refuseToken 0 := ⟨⟨(q_m1 5 rfl rfl), (q_m3 177 rfl rfl), ⟨by decide +kernel, by decide +kernel⟩, by decide +kernel⟩, (q_m3 176 rfl rfl), (q_ms 7 (q := (yX7_refuseToken, 15)) rfl)⟩
def mX7_isOwn : q_M := ((yX7_isOwn, cX7_isOwn, 2, some .boolean), (0, 0, 0, 0))
theorem DX7_isOwn : q_DV mX7_isOwn 1 := ⟨⟨(q_m1 5 rfl rfl), (q_m3 173 rfl rfl), ⟨by decide +kernel, by decide +kernel⟩, by decide +kernel⟩, (q_m3 172 rfl rfl), (q_ms 6 (q := (yX7_isOwn, 15)) rfl)⟩
def mX7_isName : q_M := ((yX7_isName, cX7_isName, 1, some .boolean), (0, 0, 0, 0))
theorem DX7_isName : q_DV mX7_isName 0 := ⟨⟨(q_m1 5 rfl rfl), (q_m3 185 rfl rfl), ⟨by decide +kernel, by decide +kernel⟩, by decide +kernel⟩, (q_m3 184 rfl rfl), (q_ms 9 (q := (yX7_isName, 15)) rfl)⟩
def mX7_readDef : q_M := ((yX7_readDef, cX7_readDef, 2, none), (3, 64, 0, 0))
theorem DX7_readDef : q_DV mX7_readDef 0 := ⟨⟨(q_m1 5 rfl rfl), (q_m3 169 rfl rfl), ⟨by decide +kernel, by decide +kernel⟩, by decide +kernel⟩, (q_m3 168 rfl rfl), (q_ms 5 (q := (yX7_readDef, 15)) rfl)⟩
def mX7_readExpression : q_M := ((yX7_readExpression, cX7_readExpression, 5, none), (5, 119, 0, 0))
theorem DX7_readExpression : q_DV mX7_readExpression 0 := ⟨⟨(q_m1 5 rfl rfl), (q_m3 189 rfl rfl), ⟨by decide +kernel, by decide +kernel⟩, by decide +kernel⟩, (q_m3 188 rfl rfl), (q_ms 10 (q := (yX7_readExpression, 15)) rfl)⟩
def mX7_readSign : q_M := ((yX7_readSign, cX7_readSign, 1, none), (3, 64, 0, 0))
theorem DX7_readSign : q_DV mX7_readSign 0 := ⟨⟨(q_m1 5 rfl rfl), (q_m4 30 rfl rfl), ⟨by decide +kernel, by decide +kernel⟩, by decide +kernel⟩, (q_m4 29 rfl rfl), (q_ms 21 (q := (yX7_readSign, 15)) rfl)⟩
def mX7_nextWaiting : q_M := ((yX7_nextWaiting, cX7_nextWaiting, 5, some .int), (4, 84, 0, 0))
theorem DX7_nextWaiting : q_DV mX7_nextWaiting 1 := ⟨⟨(q_m1 5 rfl rfl), (q_m4 8 rfl rfl), ⟨by decide +kernel, by decide +kernel⟩, by decide +kernel⟩, (q_m4 7 rfl rfl), (q_ms 19 (q := (yX7_nextWaiting, 15)) rfl)⟩
def mX7_readIn : q_M := ((yX7_readIn, cX7_readIn, 1, some .boolean), (3, 64, 0, 0))
theorem DX7_readIn : q_DV mX7_readIn 0 := ⟨⟨(q_m1 5 rfl rfl), (q_m4 22 rfl rfl), ⟨by decide +kernel, by decide +kernel⟩, by decide +kernel⟩, (q_m4 21 rfl rfl), (q_ms 20 (q := (yX7_readIn, 15)) rfl)⟩
def mX7_beginPlace : q_M := ((yX7_beginPlace, cX7_beginPlace, 6, some .int), (2, 46, 0, 0))
theorem DX7_beginPlace : q_DV mX7_beginPlace 1 := ⟨⟨(q_m1 5 rfl rfl), (q_m3 193 rfl rfl), ⟨by decide +kernel, by decide +kernel⟩, by decide +kernel⟩, (q_m3 192 rfl rfl), (q_ms 11 (q := (yX7_beginPlace, 15)) rfl)⟩
def mX7_readRest : q_M := ((yX7_readRest, cX7_readRest, 3, none), (4, 97, 0, 0))
theorem DX7_readRest : q_DV mX7_readRest 1 := ⟨⟨(q_m1 5 rfl rfl), (q_m3 214 rfl rfl), ⟨by decide +kernel, by decide +kernel⟩, by decide +kernel⟩, (q_m3 213 rfl rfl), (q_ms 14 (q := (yX7_readRest, 15)) rfl)⟩
def mX7_sortHere : q_M := ((yX7_sortHere, cX7_sortHere, 1, some .int), (0, 0, 0, 0))
theorem DX7_sortHere : q_DV mX7_sortHere 0 := ⟨⟨(q_m1 5 rfl rfl), (q_m3 197 rfl rfl), ⟨by decide +kernel, by decide +kernel⟩, by decide +kernel⟩, (q_m3 196 rfl rfl), (q_ms 12 (q := (yX7_sortHere, 15)) rfl)⟩
def mX7_valueHere : q_M := ((yX7_valueHere, cX7_valueHere, 2, some .int), (0, 0, 0, 0))
theorem DX7_valueHere : q_DV mX7_valueHere 1 := ⟨⟨(q_m1 5 rfl rfl), (q_m3 210 rfl rfl), ⟨by decide +kernel, by decide +kernel⟩, by decide +kernel⟩, (q_m3 209 rfl rfl), (q_ms 13 (q := (yX7_valueHere, 15)) rfl)⟩
def mX7_findTarget : q_M := ((yX7_findTarget, cX7_findTarget, 4, some .boolean), (3, 74, 0, 0))
theorem DX7_findTarget : q_DV mX7_findTarget 1 := ⟨⟨(q_m1 5 rfl rfl), (q_m3 218 rfl rfl), ⟨by decide +kernel, by decide +kernel⟩, by decide +kernel⟩, (q_m3 217 rfl rfl), (q_ms 15 (q := (yX7_findTarget, 15)) rfl)⟩
def mX7_readBound : q_M := ((yX7_readBound, cX7_readBound, 2, none), (3, 64, 0, 0))
theorem DX7_readBound : q_DV mX7_readBound 1 := ⟨⟨(q_m1 5 rfl rfl), (q_m3 235 rfl rfl), ⟨by decide +kernel, by decide +kernel⟩, by decide +kernel⟩, (q_m3 234 rfl rfl), (q_ms 17 (q := (yX7_readBound, 15)) rfl)⟩
def mX7_readKinds : q_M := ((yX7_readKinds, cX7_readKinds, 5, none), (3, 64, 0, 0))
theorem DX7_readKinds : q_DV mX7_readKinds 1 := ⟨⟨(q_m1 5 rfl rfl), (q_m3 239 rfl rfl), ⟨by decide +kernel, by decide +kernel⟩, by decide +kernel⟩, (q_m3 238 rfl rfl), (q_ms 18 (q := (yX7_readKinds, 15)) rfl)⟩
def mX7_signAt : q_M := ((yX7_signAt, cX7_signAt, 2, some .int), (0, 0, 0, 0))
theorem DX7_signAt : q_DV mX7_signAt 1 := ⟨⟨(q_m1 5 rfl rfl), (q_m3 148 rfl rfl), ⟨by decide +kernel, by decide +kernel⟩, by decide +kernel⟩, (q_m3 147 rfl rfl), (q_ms 2 (q := (yX7_signAt, 15)) rfl)⟩
def mX7_readToken : q_M := ((yX7_readToken, cX7_readToken, 2, none), (2, 43, 0, 0))
theorem DX7_readToken : q_DV mX7_readToken 0 := ⟨⟨(q_m1 5 rfl rfl), (q_m3 144 rfl rfl), ⟨by decide +kernel, by decide +kernel⟩, by decide +kernel⟩, (q_m3 143 rfl rfl), (q_ms 1 (q := (yX7_readToken, 15)) rfl)⟩
def mX7_readWord : q_M := ((yX7_readWord, cX7_readWord, 2, none), (1, 22, 0, 0))
theorem DX7_readWord : q_DV mX7_readWord 0 := ⟨⟨(q_m1 5 rfl rfl), (q_m3 158 rfl rfl), ⟨by decide +kernel, by decide +kernel⟩, by decide +kernel⟩, (q_m3 157 rfl rfl), (q_ms 3 (q := (yX7_readWord, 15)) rfl)⟩
def mX7_readNumber : q_M := ((yX7_readNumber, cX7_readNumber, 2, none), (1, 21, 0, 0))
theorem DX7_readNumber : q_DV mX7_readNumber 0 := ⟨⟨(q_m1 5 rfl rfl), (q_m3 165 rfl rfl), ⟨by decide +kernel, by decide +kernel⟩, by decide +kernel⟩, (q_m3 164 rfl rfl), (q_ms 4 (q := (yX7_readNumber, 15)) rfl)⟩
def mX7_withLetter : q_M := ((yX7_withLetter, cX7_withLetter, 3, some .long), (0, 0, 0, 0))
theorem DX7_withLetter : q_DS mX7_withLetter 2 := ⟨⟨(q_m1 5 rfl rfl), (q_m2 12 rfl rfl), ⟨by decide +kernel, by decide +kernel⟩, by decide +kernel⟩, (q_m2 11 rfl rfl)⟩
def mX7_isBlank : q_M := ((yX7_isBlank, cX7_isBlank, 1, some .boolean), (0, 0, 0, 0))
theorem DX7_isBlank : q_DS mX7_isBlank 1 := ⟨⟨(q_m1 5 rfl rfl), (q_m3 151 rfl rfl), ⟨by decide +kernel, by decide +kernel⟩, by decide +kernel⟩, (q_m3 150 rfl rfl)⟩
def mX7_isLetter : q_M := ((yX7_isLetter, cX7_isLetter, 1, some .boolean), (0, 0, 0, 0))
theorem DX7_isLetter : q_DS mX7_isLetter 1 := ⟨⟨(q_m1 5 rfl rfl), (q_m3 154 rfl rfl), ⟨by decide +kernel, by decide +kernel⟩, by decide +kernel⟩, (q_m3 153 rfl rfl)⟩
def mX7_isDigit : q_M := ((yX7_isDigit, cX7_isDigit, 1, some .boolean), (0, 0, 0, 0))
theorem DX7_isDigit : q_DS mX7_isDigit 1 := ⟨⟨(q_m1 5 rfl rfl), (q_m3 161 rfl rfl), ⟨by decide +kernel, by decide +kernel⟩, by decide +kernel⟩, (q_m3 160 rfl rfl)⟩
def mX8_init : q_M := ((yX8_init, cX8_init, 1, none), (1, 20, 3, 90))
theorem DX8_init : q_DI mX8_init 0 := ⟨⟨(q_m1 15 rfl rfl), (q_m3 50 rfl rfl), ⟨by decide +kernel, by decide +kernel⟩, by decide +kernel⟩, rfl, (q_m3 49 rfl rfl)⟩
def mX8_forget : q_M := ((yX8_forget, cX8_forget, 1, none), (0, 0, 0, 0))
theorem DX8_forget : q_DV mX8_forget 0 := ⟨⟨(q_m1 15 rfl rfl), (q_m4 100 rfl rfl), ⟨by decide +kernel, by decide +kernel⟩, by decide +kernel⟩, (q_m4 98 rfl rfl), (q_m4 99 rfl rfl)⟩
def mX8_tell : q_M := ((yX8_tell, cX8_tell, 4, some .int), (0, 0, 0, 0))
theorem DX8_tell : q_DV mX8_tell 2 := ⟨⟨(q_m1 15 rfl rfl), (q_m6 15 rfl rfl), ⟨by decide +kernel, by decide +kernel⟩, by decide +kernel⟩, (q_m6 13 rfl rfl), (q_m6 14 rfl rfl)⟩
def mX8_takeBack : q_M := ((yX8_takeBack, cX8_takeBack, 3, some .boolean), (0, 0, 0, 0))
theorem DX8_takeBack : q_DV mX8_takeBack 2 := ⟨⟨(q_m1 15 rfl rfl), (q_m6 23 rfl rfl), ⟨by decide +kernel, by decide +kernel⟩, by decide +kernel⟩, (q_m6 21 rfl rfl), (q_m6 22 rfl rfl)⟩
def mX8_countingAt : q_M := ((yX8_countingAt, cX8_countingAt, 6, some .long), (0, 0, 0, 0))
theorem DX8_countingAt : q_DV mX8_countingAt 1 := ⟨⟨(q_m1 15 rfl rfl), (q_m6 36 rfl rfl), ⟨by decide +kernel, by decide +kernel⟩, by decide +kernel⟩, (q_m6 34 rfl rfl), (q_m6 35 rfl rfl)⟩
def mX9_init : q_M := ((yX9_init, cX9_init, 1, none), (1, 20, 14, 556))
theorem DX9_init : q_DI mX9_init 0 := ⟨⟨(q_m1 2 rfl rfl), (q_m1 32 rfl rfl), ⟨by decide +kernel, by decide +kernel⟩, by decide +kernel⟩, rfl, (q_m1 31 rfl rfl)⟩
def mX9_clear : q_M := ((yX9_clear, cX9_clear, 1, none), (0, 0, 0, 0))
theorem DX9_clear : q_DV mX9_clear 0 := ⟨⟨(q_m1 2 rfl rfl), (q_m3 140 rfl rfl), ⟨by decide +kernel, by decide +kernel⟩, by decide +kernel⟩, (q_m3 138 rfl rfl), (q_m3 139 rfl rfl)⟩
def mX9_has : q_M := ((yX9_has, cX9_has, 2, some .boolean), (0, 0, 0, 0))
theorem DX9_has : q_DV mX9_has 1 := ⟨⟨(q_m1 2 rfl rfl), (q_m3 201 rfl rfl), ⟨by decide +kernel, by decide +kernel⟩, by decide +kernel⟩, (q_m3 199 rfl rfl), (q_m3 200 rfl rfl)⟩
def mX9_all : q_M := ((yX9_all, cX9_all, 1, some .long), (0, 0, 0, 0))
theorem DX9_all : q_DV mX9_all 0 := ⟨⟨(q_m1 2 rfl rfl), (q_m4 125 rfl rfl), ⟨by decide +kernel, by decide +kernel⟩, by decide +kernel⟩, (q_m4 123 rfl rfl), (q_m4 124 rfl rfl)⟩
def mX9_hasAll : q_M := ((yX9_hasAll, cX9_hasAll, 3, some .boolean), (1, 20, 0, 0))
theorem DX9_hasAll : q_DV mX9_hasAll 1 := ⟨⟨(q_m1 2 rfl rfl), (q_m4 204 rfl rfl), ⟨by decide +kernel, by decide +kernel⟩, by decide +kernel⟩, (q_m4 202 rfl rfl), (q_m4 203 rfl rfl)⟩
def mX9_sortOf : q_M := ((yX9_sortOf, cX9_sortOf, 2, some .int), (1, 21, 0, 0))
theorem DX9_sortOf : q_DV mX9_sortOf 1 := ⟨⟨(q_m1 2 rfl rfl), (q_m4 16 rfl rfl), ⟨by decide +kernel, by decide +kernel⟩, by decide +kernel⟩, (q_m4 14 rfl rfl), (q_m4 15 rfl rfl)⟩
def mX9_arityOf : q_M := ((yX9_arityOf, cX9_arityOf, 3, some .int), (2, 42, 0, 0))
theorem DX9_arityOf : q_DV mX9_arityOf 1 := ⟨⟨(q_m1 2 rfl rfl), (q_m4 12 rfl rfl), ⟨by decide +kernel, by decide +kernel⟩, by decide +kernel⟩, (q_m4 10 rfl rfl), (q_m4 11 rfl rfl)⟩
def mX9_parentOf : q_M := ((yX9_parentOf, cX9_parentOf, 2, some .int), (1, 21, 0, 0))
theorem DX9_parentOf : q_DV mX9_parentOf 1 := ⟨⟨(q_m1 2 rfl rfl), (q_m4 26 rfl rfl), ⟨by decide +kernel, by decide +kernel⟩, by decide +kernel⟩, (q_m4 24 rfl rfl), (q_m4 25 rfl rfl)⟩
def mX9_targetOf : q_M := ((yX9_targetOf, cX9_targetOf, 2, some .int), (1, 21, 0, 0))
theorem DX9_targetOf : q_DV mX9_targetOf 1 := ⟨⟨(q_m1 2 rfl rfl), (q_m4 71 rfl rfl), ⟨by decide +kernel, by decide +kernel⟩, by decide +kernel⟩, (q_m4 69 rfl rfl), (q_m4 70 rfl rfl)⟩
def mX9_kidOf : q_M := ((yX9_kidOf, cX9_kidOf, 3, some .int), (1, 21, 0, 0))
theorem DX9_kidOf : q_DV mX9_kidOf 2 := ⟨⟨(q_m1 2 rfl rfl), (q_m4 59 rfl rfl), ⟨by decide +kernel, by decide +kernel⟩, by decide +kernel⟩, (q_m4 57 rfl rfl), (q_m4 58 rfl rfl)⟩
def mX9_rootOf : q_M := ((yX9_rootOf, cX9_rootOf, 2, some .int), (0, 0, 0, 0))
theorem DX9_rootOf : q_DV mX9_rootOf 1 := ⟨⟨(q_m1 2 rfl rfl), (q_m4 38 rfl rfl), ⟨by decide +kernel, by decide +kernel⟩, by decide +kernel⟩, (q_m4 36 rfl rfl), (q_m4 37 rfl rfl)⟩
def mX9_meantBy : q_M := ((yX9_meantBy, cX9_meantBy, 3, some .int), (2, 43, 0, 0))
theorem DX9_meantBy : q_DV mX9_meantBy 1 := ⟨⟨(q_m1 2 rfl rfl), (q_m4 67 rfl rfl), ⟨by decide +kernel, by decide +kernel⟩, by decide +kernel⟩, (q_m4 65 rfl rfl), (q_m4 66 rfl rfl)⟩
def mX9_add : q_M := ((yX9_add, cX9_add, 6, some .int), (1, 21, 0, 0))
theorem DX9_add : q_DV mX9_add 3 := ⟨⟨(q_m1 2 rfl rfl), (q_m3 205 rfl rfl), ⟨by decide +kernel, by decide +kernel⟩, by decide +kernel⟩, (q_m3 203 rfl rfl), (q_m3 204 rfl rfl)⟩
def mX9_choicesAt : q_M := ((yX9_choicesAt, cX9_choicesAt, 7, some .int), (2, 48, 0, 0))
theorem DX9_choicesAt : q_DV mX9_choicesAt 2 := ⟨⟨(q_m1 2 rfl rfl), (q_m3 222 rfl rfl), ⟨by decide +kernel, by decide +kernel⟩, by decide +kernel⟩, (q_m3 220 rfl rfl), (q_m3 221 rfl rfl)⟩
def mX9_addChoice : q_M := ((yX9_addChoice, cX9_addChoice, 7, some .int), (1, 22, 0, 0))
theorem DX9_addChoice : q_DV mX9_addChoice 3 := ⟨⟨(q_m1 2 rfl rfl), (q_m3 226 rfl rfl), ⟨by decide +kernel, by decide +kernel⟩, by decide +kernel⟩, (q_m3 225 rfl rfl), (q_ms 16 (q := (yX9_addChoice, 17)) rfl)⟩
def mX9_wordOf : q_M := ((yX9_wordOf, cX9_wordOf, 3, some .long), (0, 0, 0, 0))
theorem DX9_wordOf : q_DV mX9_wordOf 1 := ⟨⟨(q_m1 2 rfl rfl), (q_m3 230 rfl rfl), ⟨by decide +kernel, by decide +kernel⟩, by decide +kernel⟩, (q_m3 228 rfl rfl), (q_m3 229 rfl rfl)⟩
def mX9_trustOfAll : q_M := ((yX9_trustOfAll, cX9_trustOfAll, 3, some .int), (0, 0, 0, 0))
theorem DX9_trustOfAll : q_DV mX9_trustOfAll 0 := ⟨⟨(q_m1 2 rfl rfl), (q_m6 64 rfl rfl), ⟨by decide +kernel, by decide +kernel⟩, by decide +kernel⟩, (q_m6 62 rfl rfl), (q_m6 63 rfl rfl)⟩
def mX9_copyPlace : q_M := ((yX9_copyPlace, cX9_copyPlace, 4, none), (1, 21, 0, 0))
theorem DX9_copyPlace : q_DV mX9_copyPlace 3 := ⟨⟨(q_m1 2 rfl rfl), (q_m5 121 rfl rfl), ⟨by decide +kernel, by decide +kernel⟩, by decide +kernel⟩, (q_m5 119 rfl rfl), (q_m5 120 rfl rfl)⟩
def mX9_copyKindWords : q_M := ((yX9_copyKindWords, cX9_copyKindWords, 2, none), (1, 26, 0, 0))
theorem DX9_copyKindWords : q_DV mX9_copyKindWords 1 := ⟨⟨(q_m1 2 rfl rfl), (q_m4 93 rfl rfl), ⟨by decide +kernel, by decide +kernel⟩, by decide +kernel⟩, (q_m4 91 rfl rfl), (q_m4 92 rfl rfl)⟩
def mX9_copyFrom : q_M := ((yX9_copyFrom, cX9_copyFrom, 2, none), (2, 47, 0, 0))
theorem DX9_copyFrom : q_DV mX9_copyFrom 1 := ⟨⟨(q_m1 2 rfl rfl), (q_m4 89 rfl rfl), ⟨by decide +kernel, by decide +kernel⟩, by decide +kernel⟩, (q_m4 87 rfl rfl), (q_m4 88 rfl rfl)⟩
def mX10_init : q_M := ((yX10_init, cX10_init, 2, none), (6, 133, 138, 67496))
theorem DX10_init : q_DI mX10_init 0 := ⟨⟨(q_m1 1 rfl rfl), (q_m1 24 rfl rfl), ⟨by decide +kernel, by decide +kernel⟩, by decide +kernel⟩, rfl, (q_m1 23 rfl rfl)⟩
def mX10_feed : q_M := ((yX10_feed, cX10_feed, 6, some .int), (1, 22, 0, 0))
theorem DX10_feed : q_DV mX10_feed 5 := ⟨⟨(q_m1 1 rfl rfl), (q_m3 120 rfl rfl), ⟨by decide +kernel, by decide +kernel⟩, by decide +kernel⟩, (q_m3 118 rfl rfl), (q_m3 119 rfl rfl)⟩
def mX10_end : q_M := ((yX10_end, cX10_end, 2, some .int), (0, 0, 0, 0))
theorem DX10_end : q_DV mX10_end 1 := ⟨⟨(q_m1 1 rfl rfl), (q_m3 128 rfl rfl), ⟨by decide +kernel, by decide +kernel⟩, by decide +kernel⟩, (q_m3 126 rfl rfl), (q_m3 127 rfl rfl)⟩
def mX10_program : q_M := ((yX10_program, cX10_program, 3, some .int), (7, 165, 0, 0))
theorem DX10_program : q_DV mX10_program 0 := ⟨⟨(q_m1 1 rfl rfl), (q_m3 132 rfl rfl), ⟨by decide +kernel, by decide +kernel⟩, by decide +kernel⟩, (q_m3 130 rfl rfl), (q_m3 131 rfl rfl)⟩
def mX10_fault : q_M := ((yX10_fault, cX10_fault, 2, some .int), (0, 0, 0, 0))
theorem DX10_fault : q_DV mX10_fault 1 := ⟨⟨(q_m1 1 rfl rfl), (q_m4 108 rfl rfl), ⟨by decide +kernel, by decide +kernel⟩, by decide +kernel⟩, (q_m4 106 rfl rfl), (q_m4 107 rfl rfl)⟩
def mX10_place : q_M := ((yX10_place, cX10_place, 3, some .int), (1, 21, 0, 0))
theorem DX10_place : q_DV mX10_place 2 := ⟨⟨(q_m1 1 rfl rfl), (q_m4 112 rfl rfl), ⟨by decide +kernel, by decide +kernel⟩, by decide +kernel⟩, (q_m4 110 rfl rfl), (q_m4 111 rfl rfl)⟩
def mX10_fits : q_M := ((yX10_fits, cX10_fits, 1, some .int), (6, 139, 0, 0))
theorem DX10_fits : q_DV mX10_fits 0 := ⟨⟨(q_m1 1 rfl rfl), (q_m4 117 rfl rfl), ⟨by decide +kernel, by decide +kernel⟩, by decide +kernel⟩, (q_m4 115 rfl rfl), (q_m4 116 rfl rfl)⟩
def mX10_kind : q_M := ((yX10_kind, cX10_kind, 3, some .int), (5, 119, 0, 0))
theorem DX10_kind : q_DV mX10_kind 2 := ⟨⟨(q_m1 1 rfl rfl), (q_m4 182 rfl rfl), ⟨by decide +kernel, by decide +kernel⟩, by decide +kernel⟩, (q_m4 180 rfl rfl), (q_m4 181 rfl rfl)⟩
def mX10_clashes : q_M := ((yX10_clashes, cX10_clashes, 3, some .int), (5, 119, 0, 0))
theorem DX10_clashes : q_DV mX10_clashes 1 := ⟨⟨(q_m1 1 rfl rfl), (q_m4 200 rfl rfl), ⟨by decide +kernel, by decide +kernel⟩, by decide +kernel⟩, (q_m4 198 rfl rfl), (q_m4 199 rfl rfl)⟩
def mX10_core : q_M := ((yX10_core, cX10_core, 1, some .long), (7, 166, 0, 0))
theorem DX10_core : q_DV mX10_core 0 := ⟨⟨(q_m1 1 rfl rfl), (q_m4 210 rfl rfl), ⟨by decide +kernel, by decide +kernel⟩, by decide +kernel⟩, (q_m4 208 rfl rfl), (q_m4 209 rfl rfl)⟩
def mX10_meets : q_M := ((yX10_meets, cX10_meets, 3, some .int), (6, 141, 0, 0))
theorem DX10_meets : q_DV mX10_meets 2 := ⟨⟨(q_m1 1 rfl rfl), (q_m4 224 rfl rfl), ⟨by decide +kernel, by decide +kernel⟩, by decide +kernel⟩, (q_m4 222 rfl rfl), (q_m4 223 rfl rfl)⟩
def mX10_cores : q_M := ((yX10_cores, cX10_cores, 1, some .int), (7, 167, 0, 0))
theorem DX10_cores : q_DV mX10_cores 0 := ⟨⟨(q_m1 1 rfl rfl), (q_m4 233 rfl rfl), ⟨by decide +kernel, by decide +kernel⟩, by decide +kernel⟩, (q_m4 231 rfl rfl), (q_m4 232 rfl rfl)⟩
def mX10_coreAt : q_M := ((yX10_coreAt, cX10_coreAt, 2, some .long), (7, 167, 0, 0))
theorem DX10_coreAt : q_DV mX10_coreAt 1 := ⟨⟨(q_m1 1 rfl rfl), (q_m5 18 rfl rfl), ⟨by decide +kernel, by decide +kernel⟩, by decide +kernel⟩, (q_m5 16 rfl rfl), (q_m5 17 rfl rfl)⟩
def mX10_trust : q_M := ((yX10_trust, cX10_trust, 4, some .int), (1, 21, 0, 0))
theorem DX10_trust : q_DV mX10_trust 2 := ⟨⟨(q_m1 1 rfl rfl), (q_m5 28 rfl rfl), ⟨by decide +kernel, by decide +kernel⟩, by decide +kernel⟩, (q_m5 26 rfl rfl), (q_m5 27 rfl rfl)⟩
def mX10_cheapest : q_M := ((yX10_cheapest, cX10_cheapest, 1, some .long), (7, 169, 0, 0))
theorem DX10_cheapest : q_DV mX10_cheapest 0 := ⟨⟨(q_m1 1 rfl rfl), (q_m5 32 rfl rfl), ⟨by decide +kernel, by decide +kernel⟩, by decide +kernel⟩, (q_m5 30 rfl rfl), (q_m5 31 rfl rfl)⟩
def mX10_mends : q_M := ((yX10_mends, cX10_mends, 1, some .int), (7, 167, 0, 0))
theorem DX10_mends : q_DV mX10_mends 0 := ⟨⟨(q_m1 1 rfl rfl), (q_m5 72 rfl rfl), ⟨by decide +kernel, by decide +kernel⟩, by decide +kernel⟩, (q_m5 70 rfl rfl), (q_m5 71 rfl rfl)⟩
def mX10_mendAt : q_M := ((yX10_mendAt, cX10_mendAt, 2, some .long), (7, 167, 0, 0))
theorem DX10_mendAt : q_DV mX10_mendAt 1 := ⟨⟨(q_m1 1 rfl rfl), (q_m5 76 rfl rfl), ⟨by decide +kernel, by decide +kernel⟩, by decide +kernel⟩, (q_m5 74 rfl rfl), (q_m5 75 rfl rfl)⟩
def mX10_hints : q_M := ((yX10_hints, cX10_hints, 1, some .int), (7, 169, 0, 0))
theorem DX10_hints : q_DV mX10_hints 0 := ⟨⟨(q_m1 1 rfl rfl), (q_m5 87 rfl rfl), ⟨by decide +kernel, by decide +kernel⟩, by decide +kernel⟩, (q_m5 85 rfl rfl), (q_m5 86 rfl rfl)⟩
def mX10_hint : q_M := ((yX10_hint, cX10_hint, 3, some .int), (7, 169, 0, 0))
theorem DX10_hint : q_DV mX10_hint 2 := ⟨⟨(q_m1 1 rfl rfl), (q_m5 146 rfl rfl), ⟨by decide +kernel, by decide +kernel⟩, by decide +kernel⟩, (q_m5 144 rfl rfl), (q_m5 145 rfl rfl)⟩
def mX10_apply : q_M := ((yX10_apply, cX10_apply, 2, some .int), (7, 169, 0, 0))
theorem DX10_apply : q_DV mX10_apply 1 := ⟨⟨(q_m1 1 rfl rfl), (q_m5 154 rfl rfl), ⟨by decide +kernel, by decide +kernel⟩, by decide +kernel⟩, (q_m5 152 rfl rfl), (q_m5 153 rfl rfl)⟩
def mX10_run : q_M := ((yX10_run, cX10_run, 2, some .int), (7, 158, 0, 0))
theorem DX10_run : q_DV mX10_run 1 := ⟨⟨(q_m1 1 rfl rfl), (q_m5 159 rfl rfl), ⟨by decide +kernel, by decide +kernel⟩, by decide +kernel⟩, (q_m5 157 rfl rfl), (q_m5 158 rfl rfl)⟩
def mX10_right : q_M := ((yX10_right, cX10_right, 2, some .int), (1, 23, 0, 0))
theorem DX10_right : q_DV mX10_right 1 := ⟨⟨(q_m1 1 rfl rfl), (q_m6 11 rfl rfl), ⟨by decide +kernel, by decide +kernel⟩, by decide +kernel⟩, (q_m6 9 rfl rfl), (q_m6 10 rfl rfl)⟩
def mX10_untell : q_M := ((yX10_untell, cX10_untell, 2, some .boolean), (1, 22, 0, 0))
theorem DX10_untell : q_DV mX10_untell 1 := ⟨⟨(q_m1 1 rfl rfl), (q_m6 19 rfl rfl), ⟨by decide +kernel, by decide +kernel⟩, by decide +kernel⟩, (q_m6 17 rfl rfl), (q_m6 18 rfl rfl)⟩
def mX10_later : q_M := ((yX10_later, cX10_later, 2, some .int), (0, 0, 0, 0))
theorem DX10_later : q_DV mX10_later 1 := ⟨⟨(q_m1 1 rfl rfl), (q_m6 27 rfl rfl), ⟨by decide +kernel, by decide +kernel⟩, by decide +kernel⟩, (q_m6 25 rfl rfl), (q_m6 26 rfl rfl)⟩
def mX10_left : q_M := ((yX10_left, cX10_left, 2, some .int), (7, 167, 0, 0))
theorem DX10_left : q_DV mX10_left 1 := ⟨⟨(q_m1 1 rfl rfl), (q_m6 32 rfl rfl), ⟨by decide +kernel, by decide +kernel⟩, by decide +kernel⟩, (q_m6 30 rfl rfl), (q_m6 31 rfl rfl)⟩
def mX10_sure : q_M := ((yX10_sure, cX10_sure, 2, some .long), (7, 167, 0, 0))
theorem DX10_sure : q_DV mX10_sure 1 := ⟨⟨(q_m1 1 rfl rfl), (q_m6 44 rfl rfl), ⟨by decide +kernel, by decide +kernel⟩, by decide +kernel⟩, (q_m6 42 rfl rfl), (q_m6 43 rfl rfl)⟩
def mX10_image : q_M := ((yX10_image, cX10_image, 2, some .int), (3, 68, 0, 0))
theorem DX10_image : q_DV mX10_image 1 := ⟨⟨(q_m1 1 rfl rfl), (q_m6 52 rfl rfl), ⟨by decide +kernel, by decide +kernel⟩, by decide +kernel⟩, (q_m6 50 rfl rfl), (q_m6 51 rfl rfl)⟩
def mX10_back : q_M := ((yX10_back, cX10_back, 2, some .int), (7, 155, 0, 0))
theorem DX10_back : q_DV mX10_back 1 := ⟨⟨(q_m1 1 rfl rfl), (q_m6 56 rfl rfl), ⟨by decide +kernel, by decide +kernel⟩, by decide +kernel⟩, (q_m6 54 rfl rfl), (q_m6 55 rfl rfl)⟩
def mX10_about : q_M := ((yX10_about, cX10_about, 2, some .int), (1, 22, 0, 0))
theorem DX10_about : q_DV mX10_about 1 := ⟨⟨(q_m1 1 rfl rfl), (q_m6 60 rfl rfl), ⟨by decide +kernel, by decide +kernel⟩, by decide +kernel⟩, (q_m6 58 rfl rfl), (q_m6 59 rfl rfl)⟩
def mX10_tapeNumber : q_M := ((yX10_tapeNumber, cX10_tapeNumber, 3, none), (0, 0, 0, 0))
theorem DX10_tapeNumber : q_DV mX10_tapeNumber 1 := ⟨⟨(q_m1 1 rfl rfl), (q_m3 124 rfl rfl), ⟨by decide +kernel, by decide +kernel⟩, by decide +kernel⟩, (q_m3 123 rfl rfl), (q_ms 0 (q := (yX10_tapeNumber, 16)) rfl)⟩
def mX10_goOnWith : q_M := ((yX10_goOnWith, cX10_goOnWith, 2, some .int), (6, 134, 0, 0))
theorem DX10_goOnWith : q_DV mX10_goOnWith 1 := ⟨⟨(q_m1 1 rfl rfl), (q_m4 85 rfl rfl), ⟨by decide +kernel, by decide +kernel⟩, by decide +kernel⟩, (q_m4 84 rfl rfl), (q_ms 26 (q := (yX10_goOnWith, 16)) rfl)⟩
def mX10_kindArity : q_M := ((yX10_kindArity, cX10_kindArity, 1, some .int), (0, 0, 0, 0))
theorem DX10_kindArity : q_DS mX10_kindArity 1 := ⟨⟨(q_m1 1 rfl rfl), (q_m4 2 rfl rfl), ⟨by decide +kernel, by decide +kernel⟩, by decide +kernel⟩, (q_m4 1 rfl rfl)⟩
def mX11_init : q_M := ((yX11_init, cX11_init, 2, none), (1, 21, 64, 118807))
theorem DX11_init : q_DI mX11_init 0 := ⟨⟨(q_m1 16 rfl rfl), (q_m6 69 rfl rfl), ⟨by decide +kernel, by decide +kernel⟩, by decide +kernel⟩, rfl, (q_m6 68 rfl rfl)⟩
def mX11_sign : q_M := ((yX11_sign, cX11_sign, 2, some .int), (0, 0, 0, 0))
theorem DX11_sign : q_DV mX11_sign 1 := ⟨⟨(q_m1 16 rfl rfl), (q_m7 145 rfl rfl), ⟨by decide +kernel, by decide +kernel⟩, by decide +kernel⟩, (q_m7 144 rfl rfl), (q_ms 70 (q := (yX11_sign, 98)) rfl)⟩
def mX11_isLetter : q_M := ((yX11_isLetter, cX11_isLetter, 1, some .boolean), (0, 0, 0, 0))
theorem DX11_isLetter : q_DS mX11_isLetter 1 := ⟨⟨(q_m1 16 rfl rfl), (q_m7 148 rfl rfl), ⟨by decide +kernel, by decide +kernel⟩, by decide +kernel⟩, (q_m7 147 rfl rfl)⟩
def mX11_isDigit : q_M := ((yX11_isDigit, cX11_isDigit, 1, some .boolean), (0, 0, 0, 0))
theorem DX11_isDigit : q_DS mX11_isDigit 1 := ⟨⟨(q_m1 16 rfl rfl), (q_m7 178 rfl rfl), ⟨by decide +kernel, by decide +kernel⟩, by decide +kernel⟩, (q_m7 177 rfl rfl)⟩
def mX11_fails : q_M := ((yX11_fails, cX11_fails, 3, none), (0, 0, 0, 0))
theorem DX11_fails : q_DV mX11_fails 2 := ⟨⟨(q_m1 16 rfl rfl), (q_m7 198 rfl rfl), ⟨by decide +kernel, by decide +kernel⟩, by decide +kernel⟩, (q_m7 197 rfl rfl), (q_ms 75 (q := (yX11_fails, 98)) rfl)⟩
def mX11_isGood : q_M := ((yX11_isGood, cX11_isGood, 1, some .boolean), (0, 0, 0, 0))
theorem DX11_isGood : q_DV mX11_isGood 0 := ⟨⟨(q_m1 16 rfl rfl), (q_m7 182 rfl rfl), ⟨by decide +kernel, by decide +kernel⟩, by decide +kernel⟩, (q_m7 181 rfl rfl), (q_ms 71 (q := (yX11_isGood, 98)) rfl)⟩
def mX11_isKept : q_M := ((yX11_isKept, cX11_isKept, 4, some .boolean), (0, 0, 0, 0))
theorem DX11_isKept : q_DS mX11_isKept 1 := ⟨⟨(q_m1 16 rfl rfl), (q_m7 151 rfl rfl), ⟨by decide +kernel, by decide +kernel⟩, by decide +kernel⟩, (q_m7 150 rfl rfl)⟩
def mX11_goOn : q_M := ((yX11_goOn, cX11_goOn, 3, none), (1, 23, 0, 0))
theorem DX11_goOn : q_DV mX11_goOn 0 := ⟨⟨(q_m1 16 rfl rfl), (q_m7 141 rfl rfl), ⟨by decide +kernel, by decide +kernel⟩, by decide +kernel⟩, (q_m7 140 rfl rfl), (q_ms 69 (q := (yX11_goOn, 98)) rfl)⟩
def mX11_isWord : q_M := ((yX11_isWord, cX11_isWord, 3, some .boolean), (0, 0, 0, 0))
theorem DX11_isWord : q_DV mX11_isWord 1 := ⟨⟨(q_m1 16 rfl rfl), (q_m7 190 rfl rfl), ⟨by decide +kernel, by decide +kernel⟩, by decide +kernel⟩, (q_m7 189 rfl rfl), (q_ms 73 (q := (yX11_isWord, 98)) rfl)⟩
def mX11_misplaced : q_M := ((yX11_misplaced, cX11_misplaced, 1, none), (1, 22, 0, 0))
theorem DX11_misplaced : q_DV mX11_misplaced 0 := ⟨⟨(q_m1 16 rfl rfl), (q_m7 194 rfl rfl), ⟨by decide +kernel, by decide +kernel⟩, by decide +kernel⟩, (q_m7 193 rfl rfl), (q_ms 74 (q := (yX11_misplaced, 98)) rfl)⟩
def mX11_must : q_M := ((yX11_must, cX11_must, 2, none), (2, 45, 0, 0))
theorem DX11_must : q_DV mX11_must 1 := ⟨⟨(q_m1 16 rfl rfl), (q_m7 222 rfl rfl), ⟨by decide +kernel, by decide +kernel⟩, by decide +kernel⟩, (q_m7 221 rfl rfl), (q_ms 81 (q := (yX11_must, 98)) rfl)⟩
def mX11_clearBank : q_M := ((yX11_clearBank, cX11_clearBank, 2, none), (0, 0, 0, 0))
theorem DX11_clearBank : q_DV mX11_clearBank 1 := ⟨⟨(q_m1 16 rfl rfl), (q_m6 74 rfl rfl), ⟨by decide +kernel, by decide +kernel⟩, by decide +kernel⟩, (q_m6 73 rfl rfl), (q_ms 67 (q := (yX11_clearBank, 98)) rfl)⟩
def mX11_kidsOf : q_M := ((yX11_kidsOf, cX11_kidsOf, 1, some .int), (0, 0, 0, 0))
theorem DX11_kidsOf : q_DS mX11_kidsOf 1 := ⟨⟨(q_m1 16 rfl rfl), (q_m7 233 rfl rfl), ⟨by decide +kernel, by decide +kernel⟩, by decide +kernel⟩, (q_m7 232 rfl rfl)⟩
def mX11_program : q_M := ((yX11_program, cX11_program, 2, some .int), (7, 153, 0, 0))
theorem DX11_program : q_DV mX11_program 0 := ⟨⟨(q_m1 16 rfl rfl), (q_m7 137 rfl rfl), ⟨by decide +kernel, by decide +kernel⟩, by decide +kernel⟩, (q_m7 135 rfl rfl), (q_m7 136 rfl rfl)⟩
def mX11_asksOf : q_M := ((yX11_asksOf, cX11_asksOf, 4, some .int), (0, 0, 0, 0))
theorem DX11_asksOf : q_DV mX11_asksOf 1 := ⟨⟨(q_m1 16 rfl rfl), (q_m8 10 rfl rfl), ⟨by decide +kernel, by decide +kernel⟩, by decide +kernel⟩, (q_m8 9 rfl rfl), (q_ms 87 (q := (yX11_asksOf, 98)) rfl)⟩
def mX11_readDef : q_M := ((yX11_readDef, cX11_readDef, 3, none), (6, 131, 0, 0))
theorem DX11_readDef : q_DV mX11_readDef 0 := ⟨⟨(q_m1 16 rfl rfl), (q_m7 186 rfl rfl), ⟨by decide +kernel, by decide +kernel⟩, by decide +kernel⟩, (q_m7 185 rfl rfl), (q_ms 72 (q := (yX11_readDef, 98)) rfl)⟩
def mX11_sortHere : q_M := ((yX11_sortHere, cX11_sortHere, 1, some .int), (0, 0, 0, 0))
theorem DX11_sortHere : q_DV mX11_sortHere 0 := ⟨⟨(q_m1 16 rfl rfl), (q_m7 210 rfl rfl), ⟨by decide +kernel, by decide +kernel⟩, by decide +kernel⟩, (q_m7 209 rfl rfl), (q_ms 78 (q := (yX11_sortHere, 98)) rfl)⟩
def mX11_readE : q_M := ((yX11_readE, cX11_readE, 2, none), (5, 110, 0, 0))
theorem DX11_readE : q_DV mX11_readE 0 := ⟨⟨(q_m1 16 rfl rfl), (q_m7 202 rfl rfl), ⟨by decide +kernel, by decide +kernel⟩, by decide +kernel⟩, (q_m7 201 rfl rfl), (q_ms 76 (q := (yX11_readE, 98)) rfl)⟩
def mX11_beginsPlace : q_M := ((yX11_beginsPlace, cX11_beginsPlace, 4, some .boolean), (4, 87, 0, 0))
theorem DX11_beginsPlace : q_DV mX11_beginsPlace 0 := ⟨⟨(q_m1 16 rfl rfl), (q_m7 206 rfl rfl), ⟨by decide +kernel, by decide +kernel⟩, by decide +kernel⟩, (q_m7 205 rfl rfl), (q_ms 77 (q := (yX11_beginsPlace, 98)) rfl)⟩
def mX11_readWord : q_M := ((yX11_readWord, cX11_readWord, 2, none), (3, 66, 0, 0))
theorem DX11_readWord : q_DV mX11_readWord 1 := ⟨⟨(q_m1 16 rfl rfl), (q_m7 218 rfl rfl), ⟨by decide +kernel, by decide +kernel⟩, by decide +kernel⟩, (q_m7 217 rfl rfl), (q_ms 80 (q := (yX11_readWord, 98)) rfl)⟩
def mX11_meant : q_M := ((yX11_meant, cX11_meant, 3, some .int), (0, 0, 0, 0))
theorem DX11_meant : q_DV mX11_meant 0 := ⟨⟨(q_m1 16 rfl rfl), (q_m7 214 rfl rfl), ⟨by decide +kernel, by decide +kernel⟩, by decide +kernel⟩, (q_m7 213 rfl rfl), (q_ms 79 (q := (yX11_meant, 98)) rfl)⟩
def mX11_endsPlace : q_M := ((yX11_endsPlace, cX11_endsPlace, 4, some .boolean), (3, 66, 0, 0))
theorem DX11_endsPlace : q_DV mX11_endsPlace 0 := ⟨⟨(q_m1 16 rfl rfl), (q_m7 237 rfl rfl), ⟨by decide +kernel, by decide +kernel⟩, by decide +kernel⟩, (q_m7 236 rfl rfl), (q_ms 84 (q := (yX11_endsPlace, 98)) rfl)⟩
def mX11_asksHere : q_M := ((yX11_asksHere, cX11_asksHere, 6, some .int), (1, 23, 0, 0))
theorem DX11_asksHere : q_DV mX11_asksHere 2 := ⟨⟨(q_m1 16 rfl rfl), (q_m8 1 rfl rfl), ⟨by decide +kernel, by decide +kernel⟩, by decide +kernel⟩, (q_m8 0 rfl rfl), (q_ms 85 (q := (yX11_asksHere, 98)) rfl)⟩
def mX11_rootOf : q_M := ((yX11_rootOf, cX11_rootOf, 4, some .int), (0, 0, 0, 0))
theorem DX11_rootOf : q_DV mX11_rootOf 2 := ⟨⟨(q_m1 16 rfl rfl), (q_m8 5 rfl rfl), ⟨by decide +kernel, by decide +kernel⟩, by decide +kernel⟩, (q_m8 4 rfl rfl), (q_ms 86 (q := (yX11_rootOf, 98)) rfl)⟩
def mX11_kindHere : q_M := ((yX11_kindHere, cX11_kindHere, 1, some .int), (1, 22, 0, 0))
theorem DX11_kindHere : q_DV mX11_kindHere 0 := ⟨⟨(q_m1 16 rfl rfl), (q_m7 230 rfl rfl), ⟨by decide +kernel, by decide +kernel⟩, by decide +kernel⟩, (q_m7 229 rfl rfl), (q_ms 83 (q := (yX11_kindHere, 98)) rfl)⟩
def mX11_readKind : q_M := ((yX11_readKind, cX11_readKind, 4, none), (2, 45, 0, 0))
theorem DX11_readKind : q_DV mX11_readKind 1 := ⟨⟨(q_m1 16 rfl rfl), (q_m7 226 rfl rfl), ⟨by decide +kernel, by decide +kernel⟩, by decide +kernel⟩, (q_m7 225 rfl rfl), (q_ms 82 (q := (yX11_readKind, 98)) rfl)⟩
def mX11_fault : q_M := ((yX11_fault, cX11_fault, 2, some .int), (0, 0, 0, 0))
theorem DX11_fault : q_DV mX11_fault 1 := ⟨⟨(q_m1 16 rfl rfl), (q_m8 14 rfl rfl), ⟨by decide +kernel, by decide +kernel⟩, by decide +kernel⟩, (q_m8 12 rfl rfl), (q_m8 13 rfl rfl)⟩
def mX11_isIn : q_M := ((yX11_isIn, cX11_isIn, 3, some .boolean), (0, 0, 0, 0))
theorem DX11_isIn : q_DS mX11_isIn 3 := ⟨⟨(q_m1 16 rfl rfl), (q_m8 25 rfl rfl), ⟨by decide +kernel, by decide +kernel⟩, by decide +kernel⟩, (q_m8 24 rfl rfl)⟩
def mX11_isPlace : q_M := ((yX11_isPlace, cX11_isPlace, 2, some .boolean), (1, 22, 0, 0))
theorem DX11_isPlace : q_DV mX11_isPlace 1 := ⟨⟨(q_m1 16 rfl rfl), (q_m8 22 rfl rfl), ⟨by decide +kernel, by decide +kernel⟩, by decide +kernel⟩, (q_m8 21 rfl rfl), (q_ms 88 (q := (yX11_isPlace, 98)) rfl)⟩
def mX11_place : q_M := ((yX11_place, cX11_place, 4, some .int), (2, 43, 0, 0))
theorem DX11_place : q_DV mX11_place 2 := ⟨⟨(q_m1 16 rfl rfl), (q_m8 18 rfl rfl), ⟨by decide +kernel, by decide +kernel⟩, by decide +kernel⟩, (q_m8 16 rfl rfl), (q_m8 17 rfl rfl)⟩
def mX11_term : q_M := ((yX11_term, cX11_term, 4, some .int), (0, 0, 0, 0))
theorem DX11_term : q_DV mX11_term 3 := ⟨⟨(q_m1 16 rfl rfl), (q_m8 41 rfl rfl), ⟨by decide +kernel, by decide +kernel⟩, by decide +kernel⟩, (q_m8 40 rfl rfl), (q_ms 91 (q := (yX11_term, 98)) rfl)⟩
def mX11_openTerm : q_M := ((yX11_openTerm, cX11_openTerm, 1, some .int), (1, 23, 0, 0))
theorem DX11_openTerm : q_DV mX11_openTerm 0 := ⟨⟨(q_m1 16 rfl rfl), (q_m8 49 rfl rfl), ⟨by decide +kernel, by decide +kernel⟩, by decide +kernel⟩, (q_m8 48 rfl rfl), (q_ms 93 (q := (yX11_openTerm, 98)) rfl)⟩
def mX11_ask : q_M := ((yX11_ask, cX11_ask, 4, none), (0, 0, 0, 0))
theorem DX11_ask : q_DV mX11_ask 3 := ⟨⟨(q_m1 16 rfl rfl), (q_m8 65 rfl rfl), ⟨by decide +kernel, by decide +kernel⟩, by decide +kernel⟩, (q_m8 64 rfl rfl), (q_ms 97 (q := (yX11_ask, 98)) rfl)⟩
def mX11_beginsLay : q_M := ((yX11_beginsLay, cX11_beginsLay, 6, some .int), (2, 43, 0, 0))
theorem DX11_beginsLay : q_DV mX11_beginsLay 3 := ⟨⟨(q_m1 16 rfl rfl), (q_m8 45 rfl rfl), ⟨by decide +kernel, by decide +kernel⟩, by decide +kernel⟩, (q_m8 44 rfl rfl), (q_ms 92 (q := (yX11_beginsLay, 98)) rfl)⟩
def mX11_layOut : q_M := ((yX11_layOut, cX11_layOut, 4, none), (5, 122, 0, 0))
theorem DX11_layOut : q_DV mX11_layOut 1 := ⟨⟨(q_m1 16 rfl rfl), (q_m8 37 rfl rfl), ⟨by decide +kernel, by decide +kernel⟩, by decide +kernel⟩, (q_m8 36 rfl rfl), (q_ms 90 (q := (yX11_layOut, 98)) rfl)⟩
def mX11_layOf : q_M := ((yX11_layOf, cX11_layOf, 5, some .int), (0, 0, 0, 0))
theorem DX11_layOf : q_DV mX11_layOf 3 := ⟨⟨(q_m1 16 rfl rfl), (q_m8 73 rfl rfl), ⟨by decide +kernel, by decide +kernel⟩, by decide +kernel⟩, (q_m8 72 rfl rfl), (q_ms 99 (q := (yX11_layOf, 98)) rfl)⟩
def mX11_kindOf : q_M := ((yX11_kindOf, cX11_kindOf, 3, some .int), (0, 0, 0, 0))
theorem DX11_kindOf : q_DV mX11_kindOf 2 := ⟨⟨(q_m1 16 rfl rfl), (q_m8 57 rfl rfl), ⟨by decide +kernel, by decide +kernel⟩, by decide +kernel⟩, (q_m8 56 rfl rfl), (q_ms 95 (q := (yX11_kindOf, 98)) rfl)⟩
def mX11_kidKind : q_M := ((yX11_kidKind, cX11_kidKind, 5, some .int), (1, 22, 0, 0))
theorem DX11_kidKind : q_DV mX11_kidKind 4 := ⟨⟨(q_m1 16 rfl rfl), (q_m8 61 rfl rfl), ⟨by decide +kernel, by decide +kernel⟩, by decide +kernel⟩, (q_m8 60 rfl rfl), (q_ms 96 (q := (yX11_kidKind, 98)) rfl)⟩
def mX11_layPlace : q_M := ((yX11_layPlace, cX11_layPlace, 8, none), (4, 95, 0, 0))
theorem DX11_layPlace : q_DV mX11_layPlace 3 := ⟨⟨(q_m1 16 rfl rfl), (q_m8 53 rfl rfl), ⟨by decide +kernel, by decide +kernel⟩, by decide +kernel⟩, (q_m8 52 rfl rfl), (q_ms 94 (q := (yX11_layPlace, 98)) rfl)⟩
def mX11_layRowed : q_M := ((yX11_layRowed, cX11_layRowed, 7, none), (3, 69, 0, 0))
theorem DX11_layRowed : q_DV mX11_layRowed 6 := ⟨⟨(q_m1 16 rfl rfl), (q_m8 77 rfl rfl), ⟨by decide +kernel, by decide +kernel⟩, by decide +kernel⟩, (q_m8 76 rfl rfl), (q_ms 100 (q := (yX11_layRowed, 98)) rfl)⟩
def mX11_layName : q_M := ((yX11_layName, cX11_layName, 7, none), (3, 68, 0, 0))
theorem DX11_layName : q_DV mX11_layName 3 := ⟨⟨(q_m1 16 rfl rfl), (q_m8 69 rfl rfl), ⟨by decide +kernel, by decide +kernel⟩, by decide +kernel⟩, (q_m8 68 rfl rfl), (q_ms 98 (q := (yX11_layName, 98)) rfl)⟩
def mX11_toldKind : q_M := ((yX11_toldKind, cX11_toldKind, 7, some .int), (2, 43, 0, 0))
theorem DX11_toldKind : q_DV mX11_toldKind 2 := ⟨⟨(q_m1 16 rfl rfl), (q_m8 81 rfl rfl), ⟨by decide +kernel, by decide +kernel⟩, by decide +kernel⟩, (q_m8 80 rfl rfl), (q_ms 101 (q := (yX11_toldKind, 98)) rfl)⟩
def mX11_find : q_M := ((yX11_find, cX11_find, 3, some .int), (0, 0, 0, 0))
theorem DX11_find : q_DV mX11_find 1 := ⟨⟨(q_m1 16 rfl rfl), (q_m8 101 rfl rfl), ⟨by decide +kernel, by decide +kernel⟩, by decide +kernel⟩, (q_m8 100 rfl rfl), (q_ms 106 (q := (yX11_find, 98)) rfl)⟩
def mX11_isMade : q_M := ((yX11_isMade, cX11_isMade, 1, some .boolean), (0, 0, 0, 0))
theorem DX11_isMade : q_DS mX11_isMade 1 := ⟨⟨(q_m1 16 rfl rfl), (q_m8 104 rfl rfl), ⟨by decide +kernel, by decide +kernel⟩, by decide +kernel⟩, (q_m8 103 rfl rfl)⟩
def mX11_unite : q_M := ((yX11_unite, cX11_unite, 6, some .boolean), (1, 22, 0, 0))
theorem DX11_unite : q_DV mX11_unite 2 := ⟨⟨(q_m1 16 rfl rfl), (q_m8 97 rfl rfl), ⟨by decide +kernel, by decide +kernel⟩, by decide +kernel⟩, (q_m8 96 rfl rfl), (q_ms 105 (q := (yX11_unite, 98)) rfl)⟩
def mX11_isSound : q_M := ((yX11_isSound, cX11_isSound, 4, some .boolean), (2, 42, 0, 0))
theorem DX11_isSound : q_DV mX11_isSound 0 := ⟨⟨(q_m1 16 rfl rfl), (q_m8 108 rfl rfl), ⟨by decide +kernel, by decide +kernel⟩, by decide +kernel⟩, (q_m8 107 rfl rfl), (q_ms 107 (q := (yX11_isSound, 98)) rfl)⟩
def mX11_takesOff : q_M := ((yX11_takesOff, cX11_takesOff, 3, some .int), (1, 20, 0, 0))
theorem DX11_takesOff : q_DV mX11_takesOff 2 := ⟨⟨(q_m1 16 rfl rfl), (q_m8 112 rfl rfl), ⟨by decide +kernel, by decide +kernel⟩, by decide +kernel⟩, (q_m8 111 rfl rfl), (q_ms 108 (q := (yX11_takesOff, 98)) rfl)⟩
def mX11_makes : q_M := ((yX11_makes, cX11_makes, 4, some .boolean), (3, 65, 0, 0))
theorem DX11_makes : q_DV mX11_makes 1 := ⟨⟨(q_m1 16 rfl rfl), (q_m8 93 rfl rfl), ⟨by decide +kernel, by decide +kernel⟩, by decide +kernel⟩, (q_m8 92 rfl rfl), (q_ms 104 (q := (yX11_makes, 98)) rfl)⟩
def mX11_allPlaces : q_M := ((yX11_allPlaces, cX11_allPlaces, 1, some .long), (0, 0, 0, 0))
theorem DX11_allPlaces : q_DV mX11_allPlaces 0 := ⟨⟨(q_m1 16 rfl rfl), (q_m8 85 rfl rfl), ⟨by decide +kernel, by decide +kernel⟩, by decide +kernel⟩, (q_m8 84 rfl rfl), (q_ms 102 (q := (yX11_allPlaces, 98)) rfl)⟩
def mX11_layNow : q_M := ((yX11_layNow, cX11_layNow, 1, none), (6, 145, 0, 0))
theorem DX11_layNow : q_DV mX11_layNow 0 := ⟨⟨(q_m1 16 rfl rfl), (q_m8 33 rfl rfl), ⟨by decide +kernel, by decide +kernel⟩, by decide +kernel⟩, (q_m8 32 rfl rfl), (q_ms 89 (q := (yX11_layNow, 98)) rfl)⟩
def mX11_clash : q_M := ((yX11_clash, cX11_clash, 3, some .boolean), (4, 88, 0, 0))
theorem DX11_clash : q_DV mX11_clash 1 := ⟨⟨(q_m1 16 rfl rfl), (q_m8 89 rfl rfl), ⟨by decide +kernel, by decide +kernel⟩, by decide +kernel⟩, (q_m8 88 rfl rfl), (q_ms 103 (q := (yX11_clash, 98)) rfl)⟩
def mX11_fits : q_M := ((yX11_fits, cX11_fits, 1, some .int), (7, 165, 0, 0))
theorem DX11_fits : q_DV mX11_fits 0 := ⟨⟨(q_m1 16 rfl rfl), (q_m8 29 rfl rfl), ⟨by decide +kernel, by decide +kernel⟩, by decide +kernel⟩, (q_m8 27 rfl rfl), (q_m8 28 rfl rfl)⟩
def mX11_clashes : q_M := ((yX11_clashes, cX11_clashes, 3, some .int), (7, 165, 0, 0))
theorem DX11_clashes : q_DV mX11_clashes 1 := ⟨⟨(q_m1 16 rfl rfl), (q_m8 116 rfl rfl), ⟨by decide +kernel, by decide +kernel⟩, by decide +kernel⟩, (q_m8 114 rfl rfl), (q_m8 115 rfl rfl)⟩
def mX11_kind : q_M := ((yX11_kind, cX11_kind, 9, some .int), (7, 165, 0, 0))
theorem DX11_kind : q_DV mX11_kind 2 := ⟨⟨(q_m1 16 rfl rfl), (q_m8 120 rfl rfl), ⟨by decide +kernel, by decide +kernel⟩, by decide +kernel⟩, (q_m8 118 rfl rfl), (q_m8 119 rfl rfl)⟩
def mX11_standsAs : q_M := ((yX11_standsAs, cX11_standsAs, 2, some .int), (1, 22, 0, 0))
theorem DX11_standsAs : q_DV mX11_standsAs 1 := ⟨⟨(q_m1 16 rfl rfl), (q_m8 124 rfl rfl), ⟨by decide +kernel, by decide +kernel⟩, by decide +kernel⟩, (q_m8 123 rfl rfl), (q_ms 109 (q := (yX11_standsAs, 98)) rfl)⟩
def mX11_meets : q_M := ((yX11_meets, cX11_meets, 3, some .int), (7, 165, 0, 0))
theorem DX11_meets : q_DV mX11_meets 2 := ⟨⟨(q_m1 16 rfl rfl), (q_m8 128 rfl rfl), ⟨by decide +kernel, by decide +kernel⟩, by decide +kernel⟩, (q_m8 126 rfl rfl), (q_m8 127 rfl rfl)⟩
def mX11_coreOf : q_M := ((yX11_coreOf, cX11_coreOf, 6, some .long), (5, 110, 0, 0))
theorem DX11_coreOf : q_DV mX11_coreOf 1 := ⟨⟨(q_m1 16 rfl rfl), (q_m8 136 rfl rfl), ⟨by decide +kernel, by decide +kernel⟩, by decide +kernel⟩, (q_m8 135 rfl rfl), (q_ms 110 (q := (yX11_coreOf, 98)) rfl)⟩
def mX11_core : q_M := ((yX11_core, cX11_core, 1, some .long), (7, 165, 0, 0))
theorem DX11_core : q_DV mX11_core 0 := ⟨⟨(q_m1 16 rfl rfl), (q_m8 132 rfl rfl), ⟨by decide +kernel, by decide +kernel⟩, by decide +kernel⟩, (q_m8 130 rfl rfl), (q_m8 131 rfl rfl)⟩
def mX11_layClashes : q_M := ((yX11_layClashes, cX11_layClashes, 2, some .boolean), (7, 165, 0, 0))
theorem DX11_layClashes : q_DV mX11_layClashes 0 := ⟨⟨(q_m1 16 rfl rfl), (q_m8 145 rfl rfl), ⟨by decide +kernel, by decide +kernel⟩, by decide +kernel⟩, (q_m8 144 rfl rfl), (q_ms 111 (q := (yX11_layClashes, 98)) rfl)⟩
def mX11_isCore : q_M := ((yX11_isCore, cX11_isCore, 3, some .boolean), (0, 0, 0, 0))
theorem DX11_isCore : q_DV mX11_isCore 1 := ⟨⟨(q_m1 16 rfl rfl), (q_m8 157 rfl rfl), ⟨by decide +kernel, by decide +kernel⟩, by decide +kernel⟩, (q_m8 156 rfl rfl), (q_ms 114 (q := (yX11_isCore, 98)) rfl)⟩
def mX11_isMend : q_M := ((yX11_isMend, cX11_isMend, 4, some .boolean), (0, 0, 0, 0))
theorem DX11_isMend : q_DV mX11_isMend 1 := ⟨⟨(q_m1 16 rfl rfl), (q_m8 153 rfl rfl), ⟨by decide +kernel, by decide +kernel⟩, by decide +kernel⟩, (q_m8 152 rfl rfl), (q_ms 113 (q := (yX11_isMend, 98)) rfl)⟩
def mX11_counted : q_M := ((yX11_counted, cX11_counted, 5, some .int), (1, 23, 0, 0))
theorem DX11_counted : q_DV mX11_counted 2 := ⟨⟨(q_m1 16 rfl rfl), (q_m8 149 rfl rfl), ⟨by decide +kernel, by decide +kernel⟩, by decide +kernel⟩, (q_m8 148 rfl rfl), (q_ms 112 (q := (yX11_counted, 98)) rfl)⟩
def mX11_cores : q_M := ((yX11_cores, cX11_cores, 1, some .int), (8, 186, 0, 0))
theorem DX11_cores : q_DV mX11_cores 0 := ⟨⟨(q_m1 16 rfl rfl), (q_m8 141 rfl rfl), ⟨by decide +kernel, by decide +kernel⟩, by decide +kernel⟩, (q_m8 139 rfl rfl), (q_m8 140 rfl rfl)⟩
def mX11_coreAt : q_M := ((yX11_coreAt, cX11_coreAt, 2, some .long), (8, 186, 0, 0))
theorem DX11_coreAt : q_DV mX11_coreAt 1 := ⟨⟨(q_m1 16 rfl rfl), (q_m8 161 rfl rfl), ⟨by decide +kernel, by decide +kernel⟩, by decide +kernel⟩, (q_m8 159 rfl rfl), (q_m8 160 rfl rfl)⟩
def mX11_mends : q_M := ((yX11_mends, cX11_mends, 1, some .int), (8, 186, 0, 0))
theorem DX11_mends : q_DV mX11_mends 0 := ⟨⟨(q_m1 16 rfl rfl), (q_m8 165 rfl rfl), ⟨by decide +kernel, by decide +kernel⟩, by decide +kernel⟩, (q_m8 163 rfl rfl), (q_m8 164 rfl rfl)⟩
def mX11_mendAt : q_M := ((yX11_mendAt, cX11_mendAt, 2, some .long), (8, 186, 0, 0))
theorem DX11_mendAt : q_DV mX11_mendAt 1 := ⟨⟨(q_m1 16 rfl rfl), (q_m8 169 rfl rfl), ⟨by decide +kernel, by decide +kernel⟩, by decide +kernel⟩, (q_m8 167 rfl rfl), (q_m8 168 rfl rfl)⟩
def mX11_trust : q_M := ((yX11_trust, cX11_trust, 4, some .int), (2, 43, 0, 0))
theorem DX11_trust : q_DV mX11_trust 2 := ⟨⟨(q_m1 16 rfl rfl), (q_m8 173 rfl rfl), ⟨by decide +kernel, by decide +kernel⟩, by decide +kernel⟩, (q_m8 171 rfl rfl), (q_m8 172 rfl rfl)⟩
def mX11_wholeTrust : q_M := ((yX11_wholeTrust, cX11_wholeTrust, 3, some .int), (0, 0, 0, 0))
theorem DX11_wholeTrust : q_DV mX11_wholeTrust 0 := ⟨⟨(q_m1 16 rfl rfl), (q_m8 186 rfl rfl), ⟨by decide +kernel, by decide +kernel⟩, by decide +kernel⟩, (q_m8 185 rfl rfl), (q_ms 116 (q := (yX11_wholeTrust, 98)) rfl)⟩
def mX11_level : q_M := ((yX11_level, cX11_level, 4, none), (6, 135, 0, 0))
theorem DX11_level : q_DV mX11_level 1 := ⟨⟨(q_m1 16 rfl rfl), (q_m8 190 rfl rfl), ⟨by decide +kernel, by decide +kernel⟩, by decide +kernel⟩, (q_m8 189 rfl rfl), (q_ms 117 (q := (yX11_level, 98)) rfl)⟩
def mX11_findCheapest : q_M := ((yX11_findCheapest, cX11_findCheapest, 3, none), (7, 165, 0, 0))
theorem DX11_findCheapest : q_DV mX11_findCheapest 0 := ⟨⟨(q_m1 16 rfl rfl), (q_m8 182 rfl rfl), ⟨by decide +kernel, by decide +kernel⟩, by decide +kernel⟩, (q_m8 181 rfl rfl), (q_ms 115 (q := (yX11_findCheapest, 98)) rfl)⟩
def mX11_cheapest : q_M := ((yX11_cheapest, cX11_cheapest, 1, some .long), (8, 187, 0, 0))
theorem DX11_cheapest : q_DV mX11_cheapest 0 := ⟨⟨(q_m1 16 rfl rfl), (q_m8 177 rfl rfl), ⟨by decide +kernel, by decide +kernel⟩, by decide +kernel⟩, (q_m8 175 rfl rfl), (q_m8 176 rfl rfl)⟩
def mX11_layMeant : q_M := ((yX11_layMeant, cX11_layMeant, 5, none), (2, 45, 0, 0))
theorem DX11_layMeant : q_DV mX11_layMeant 1 := ⟨⟨(q_m1 16 rfl rfl), (q_m8 237 rfl rfl), ⟨by decide +kernel, by decide +kernel⟩, by decide +kernel⟩, (q_m8 236 rfl rfl), (q_ms 127 (q := (yX11_layMeant, 98)) rfl)⟩
def mX11_wordOf : q_M := ((yX11_wordOf, cX11_wordOf, 2, some .long), (0, 0, 0, 0))
theorem DX11_wordOf : q_DV mX11_wordOf 1 := ⟨⟨(q_m1 16 rfl rfl), (q_m8 225 rfl rfl), ⟨by decide +kernel, by decide +kernel⟩, by decide +kernel⟩, (q_m8 224 rfl rfl), (q_ms 124 (q := (yX11_wordOf, 98)) rfl)⟩
def mX11_means : q_M := ((yX11_means, cX11_means, 5, none), (1, 21, 0, 0))
theorem DX11_means : q_DV mX11_means 2 := ⟨⟨(q_m1 16 rfl rfl), (q_m9 1 rfl rfl), ⟨by decide +kernel, by decide +kernel⟩, by decide +kernel⟩, (q_m9 0 rfl rfl), (q_ms 128 (q := (yX11_means, 98)) rfl)⟩
def mX11_canTurn : q_M := ((yX11_canTurn, cX11_canTurn, 1, some .boolean), (0, 0, 0, 0))
theorem DX11_canTurn : q_DS mX11_canTurn 1 := ⟨⟨(q_m1 16 rfl rfl), (q_m8 201 rfl rfl), ⟨by decide +kernel, by decide +kernel⟩, by decide +kernel⟩, (q_m8 200 rfl rfl)⟩
def mX11_kidBy : q_M := ((yX11_kidBy, cX11_kidBy, 7, some .int), (0, 0, 0, 0))
theorem DX11_kidBy : q_DV mX11_kidBy 4 := ⟨⟨(q_m1 16 rfl rfl), (q_m8 229 rfl rfl), ⟨by decide +kernel, by decide +kernel⟩, by decide +kernel⟩, (q_m8 228 rfl rfl), (q_ms 125 (q := (yX11_kidBy, 98)) rfl)⟩
def mX11_change : q_M := ((yX11_change, cX11_change, 8, none), (3, 72, 0, 0))
theorem DX11_change : q_DV mX11_change 3 := ⟨⟨(q_m1 16 rfl rfl), (q_m8 213 rfl rfl), ⟨by decide +kernel, by decide +kernel⟩, by decide +kernel⟩, (q_m8 212 rfl rfl), (q_ms 121 (q := (yX11_change, 98)) rfl)⟩
def mX11_takes : q_M := ((yX11_takes, cX11_takes, 4, none), (0, 0, 0, 0))
theorem DX11_takes : q_DV mX11_takes 1 := ⟨⟨(q_m1 16 rfl rfl), (q_m8 217 rfl rfl), ⟨by decide +kernel, by decide +kernel⟩, by decide +kernel⟩, (q_m8 216 rfl rfl), (q_ms 122 (q := (yX11_takes, 98)) rfl)⟩
def mX11_changed : q_M := ((yX11_changed, cX11_changed, 5, none), (1, 21, 0, 0))
theorem DX11_changed : q_DV mX11_changed 2 := ⟨⟨(q_m1 16 rfl rfl), (q_m8 221 rfl rfl), ⟨by decide +kernel, by decide +kernel⟩, by decide +kernel⟩, (q_m8 220 rfl rfl), (q_ms 123 (q := (yX11_changed, 98)) rfl)⟩
def mX11_layEnds : q_M := ((yX11_layEnds, cX11_layEnds, 5, none), (2, 48, 0, 0))
theorem DX11_layEnds : q_DV mX11_layEnds 1 := ⟨⟨(q_m1 16 rfl rfl), (q_m8 233 rfl rfl), ⟨by decide +kernel, by decide +kernel⟩, by decide +kernel⟩, (q_m8 232 rfl rfl), (q_ms 126 (q := (yX11_layEnds, 98)) rfl)⟩
def mX11_isHint : q_M := ((yX11_isHint, cX11_isHint, 5, some .boolean), (6, 145, 0, 0))
theorem DX11_isHint : q_DV mX11_isHint 3 := ⟨⟨(q_m1 16 rfl rfl), (q_m8 209 rfl rfl), ⟨by decide +kernel, by decide +kernel⟩, by decide +kernel⟩, (q_m8 208 rfl rfl), (q_ms 120 (q := (yX11_isHint, 98)) rfl)⟩
def mX11_adds : q_M := ((yX11_adds, cX11_adds, 4, none), (7, 169, 0, 0))
theorem DX11_adds : q_DV mX11_adds 3 := ⟨⟨(q_m1 16 rfl rfl), (q_m8 205 rfl rfl), ⟨by decide +kernel, by decide +kernel⟩, by decide +kernel⟩, (q_m8 204 rfl rfl), (q_ms 119 (q := (yX11_adds, 98)) rfl)⟩
def mX11_findHints : q_M := ((yX11_findHints, cX11_findHints, 6, none), (8, 192, 0, 0))
theorem DX11_findHints : q_DV mX11_findHints 0 := ⟨⟨(q_m1 16 rfl rfl), (q_m8 198 rfl rfl), ⟨by decide +kernel, by decide +kernel⟩, by decide +kernel⟩, (q_m8 197 rfl rfl), (q_ms 118 (q := (yX11_findHints, 98)) rfl)⟩
def mX11_hints : q_M := ((yX11_hints, cX11_hints, 1, some .int), (9, 217, 0, 0))
theorem DX11_hints : q_DV mX11_hints 0 := ⟨⟨(q_m1 16 rfl rfl), (q_m8 194 rfl rfl), ⟨by decide +kernel, by decide +kernel⟩, by decide +kernel⟩, (q_m8 192 rfl rfl), (q_m8 193 rfl rfl)⟩
def mX11_hint : q_M := ((yX11_hint, cX11_hint, 3, some .int), (9, 217, 0, 0))
theorem DX11_hint : q_DV mX11_hint 2 := ⟨⟨(q_m1 16 rfl rfl), (q_m9 5 rfl rfl), ⟨by decide +kernel, by decide +kernel⟩, by decide +kernel⟩, (q_m9 3 rfl rfl), (q_m9 4 rfl rfl)⟩
def mX11_begin : q_M := ((yX11_begin, cX11_begin, 2, none), (0, 0, 0, 0))
theorem DX11_begin : q_DV mX11_begin 0 := ⟨⟨(q_m1 16 rfl rfl), (q_m6 78 rfl rfl), ⟨by decide +kernel, by decide +kernel⟩, by decide +kernel⟩, (q_m6 77 rfl rfl), (q_ms 68 (q := (yX11_begin, 98)) rfl)⟩
def mX11_copyBank : q_M := ((yX11_copyBank, cX11_copyBank, 4, none), (1, 23, 0, 0))
theorem DX11_copyBank : q_DV mX11_copyBank 2 := ⟨⟨(q_m1 16 rfl rfl), (q_m9 13 rfl rfl), ⟨by decide +kernel, by decide +kernel⟩, by decide +kernel⟩, (q_m9 12 rfl rfl), (q_ms 129 (q := (yX11_copyBank, 98)) rfl)⟩
def mX11_copyPlace : q_M := ((yX11_copyPlace, cX11_copyPlace, 4, none), (0, 0, 0, 0))
theorem DX11_copyPlace : q_DV mX11_copyPlace 2 := ⟨⟨(q_m1 16 rfl rfl), (q_m9 17 rfl rfl), ⟨by decide +kernel, by decide +kernel⟩, by decide +kernel⟩, (q_m9 16 rfl rfl), (q_ms 130 (q := (yX11_copyPlace, 98)) rfl)⟩
def mX11_apply : q_M := ((yX11_apply, cX11_apply, 2, some .int), (9, 217, 0, 0))
theorem DX11_apply : q_DV mX11_apply 1 := ⟨⟨(q_m1 16 rfl rfl), (q_m9 9 rfl rfl), ⟨by decide +kernel, by decide +kernel⟩, by decide +kernel⟩, (q_m9 7 rfl rfl), (q_m9 8 rfl rfl)⟩
def mX11_valueOf : q_M := ((yX11_valueOf, cX11_valueOf, 5, some .int), (0, 0, 0, 0))
theorem DX11_valueOf : q_DV mX11_valueOf 4 := ⟨⟨(q_m1 16 rfl rfl), (q_m9 41 rfl rfl), ⟨by decide +kernel, by decide +kernel⟩, by decide +kernel⟩, (q_m9 40 rfl rfl), (q_ms 135 (q := (yX11_valueOf, 98)) rfl)⟩
def mX11_works : q_M := ((yX11_works, cX11_works, 3, none), (0, 0, 0, 0))
theorem DX11_works : q_DV mX11_works 2 := ⟨⟨(q_m1 16 rfl rfl), (q_m9 29 rfl rfl), ⟨by decide +kernel, by decide +kernel⟩, by decide +kernel⟩, (q_m9 28 rfl rfl), (q_ms 132 (q := (yX11_works, 98)) rfl)⟩
def mX11_runs : q_M := ((yX11_runs, cX11_runs, 1, none), (3, 74, 0, 0))
theorem DX11_runs : q_DV mX11_runs 0 := ⟨⟨(q_m1 16 rfl rfl), (q_m9 25 rfl rfl), ⟨by decide +kernel, by decide +kernel⟩, by decide +kernel⟩, (q_m9 24 rfl rfl), (q_ms 131 (q := (yX11_runs, 98)) rfl)⟩
def mX11_step : q_M := ((yX11_step, cX11_step, 6, none), (2, 49, 0, 0))
theorem DX11_step : q_DV mX11_step 0 := ⟨⟨(q_m1 16 rfl rfl), (q_m9 33 rfl rfl), ⟨by decide +kernel, by decide +kernel⟩, by decide +kernel⟩, (q_m9 32 rfl rfl), (q_ms 133 (q := (yX11_step, 98)) rfl)⟩
def mX11_gives : q_M := ((yX11_gives, cX11_gives, 2, none), (0, 0, 0, 0))
theorem DX11_gives : q_DV mX11_gives 1 := ⟨⟨(q_m1 16 rfl rfl), (q_m9 45 rfl rfl), ⟨by decide +kernel, by decide +kernel⟩, by decide +kernel⟩, (q_m9 44 rfl rfl), (q_ms 136 (q := (yX11_gives, 98)) rfl)⟩
def mX11_stepLeaf : q_M := ((yX11_stepLeaf, cX11_stepLeaf, 6, none), (1, 24, 0, 0))
theorem DX11_stepLeaf : q_DV mX11_stepLeaf 4 := ⟨⟨(q_m1 16 rfl rfl), (q_m9 37 rfl rfl), ⟨by decide +kernel, by decide +kernel⟩, by decide +kernel⟩, (q_m9 36 rfl rfl), (q_ms 134 (q := (yX11_stepLeaf, 98)) rfl)⟩
def mX11_stepIf : q_M := ((yX11_stepIf, cX11_stepIf, 4, none), (1, 22, 0, 0))
theorem DX11_stepIf : q_DV mX11_stepIf 3 := ⟨⟨(q_m1 16 rfl rfl), (q_m9 49 rfl rfl), ⟨by decide +kernel, by decide +kernel⟩, by decide +kernel⟩, (q_m9 48 rfl rfl), (q_ms 137 (q := (yX11_stepIf, 98)) rfl)⟩
def mX11_call : q_M := ((yX11_call, cX11_call, 3, none), (1, 22, 0, 0))
theorem DX11_call : q_DV mX11_call 1 := ⟨⟨(q_m1 16 rfl rfl), (q_m9 53 rfl rfl), ⟨by decide +kernel, by decide +kernel⟩, by decide +kernel⟩, (q_m9 52 rfl rfl), (q_ms 138 (q := (yX11_call, 98)) rfl)⟩
def mX11_doOne : q_M := ((yX11_doOne, cX11_doOne, 3, none), (1, 21, 0, 0))
theorem DX11_doOne : q_DV mX11_doOne 1 := ⟨⟨(q_m1 16 rfl rfl), (q_m9 57 rfl rfl), ⟨by decide +kernel, by decide +kernel⟩, by decide +kernel⟩, (q_m9 56 rfl rfl), (q_ms 139 (q := (yX11_doOne, 98)) rfl)⟩
def mX11_doTwo : q_M := ((yX11_doTwo, cX11_doTwo, 4, none), (1, 24, 0, 0))
theorem DX11_doTwo : q_DV mX11_doTwo 3 := ⟨⟨(q_m1 16 rfl rfl), (q_m9 61 rfl rfl), ⟨by decide +kernel, by decide +kernel⟩, by decide +kernel⟩, (q_m9 60 rfl rfl), (q_ms 140 (q := (yX11_doTwo, 98)) rfl)⟩
def mX11_run : q_M := ((yX11_run, cX11_run, 2, some .int), (4, 94, 0, 0))
theorem DX11_run : q_DV mX11_run 1 := ⟨⟨(q_m1 16 rfl rfl), (q_m9 21 rfl rfl), ⟨by decide +kernel, by decide +kernel⟩, by decide +kernel⟩, (q_m9 19 rfl rfl), (q_m9 20 rfl rfl)⟩
def mX11_right : q_M := ((yX11_right, cX11_right, 2, some .int), (2, 43, 0, 0))
theorem DX11_right : q_DV mX11_right 1 := ⟨⟨(q_m1 16 rfl rfl), (q_m9 65 rfl rfl), ⟨by decide +kernel, by decide +kernel⟩, by decide +kernel⟩, (q_m9 63 rfl rfl), (q_m9 64 rfl rfl)⟩
def mX11_untell : q_M := ((yX11_untell, cX11_untell, 2, some .boolean), (1, 22, 0, 0))
theorem DX11_untell : q_DV mX11_untell 1 := ⟨⟨(q_m1 16 rfl rfl), (q_m9 69 rfl rfl), ⟨by decide +kernel, by decide +kernel⟩, by decide +kernel⟩, (q_m9 67 rfl rfl), (q_m9 68 rfl rfl)⟩
def mX11_later : q_M := ((yX11_later, cX11_later, 2, some .int), (1, 22, 0, 0))
theorem DX11_later : q_DV mX11_later 1 := ⟨⟨(q_m1 16 rfl rfl), (q_m9 73 rfl rfl), ⟨by decide +kernel, by decide +kernel⟩, by decide +kernel⟩, (q_m9 71 rfl rfl), (q_m9 72 rfl rfl)⟩
def mX11_layLeft : q_M := ((yX11_layLeft, cX11_layLeft, 4, some .boolean), (8, 186, 0, 0))
theorem DX11_layLeft : q_DV mX11_layLeft 1 := ⟨⟨(q_m1 16 rfl rfl), (q_m9 82 rfl rfl), ⟨by decide +kernel, by decide +kernel⟩, by decide +kernel⟩, (q_m9 81 rfl rfl), (q_ms 141 (q := (yX11_layLeft, 98)) rfl)⟩
def mX11_left : q_M := ((yX11_left, cX11_left, 2, some .int), (9, 209, 0, 0))
theorem DX11_left : q_DV mX11_left 1 := ⟨⟨(q_m1 16 rfl rfl), (q_m9 78 rfl rfl), ⟨by decide +kernel, by decide +kernel⟩, by decide +kernel⟩, (q_m9 76 rfl rfl), (q_m9 77 rfl rfl)⟩
def mX11_sure : q_M := ((yX11_sure, cX11_sure, 2, some .long), (9, 209, 0, 0))
theorem DX11_sure : q_DV mX11_sure 1 := ⟨⟨(q_m1 16 rfl rfl), (q_m9 86 rfl rfl), ⟨by decide +kernel, by decide +kernel⟩, by decide +kernel⟩, (q_m9 84 rfl rfl), (q_m9 85 rfl rfl)⟩
def mX11_image : q_M := ((yX11_image, cX11_image, 3, some .int), (2, 46, 0, 0))
theorem DX11_image : q_DV mX11_image 1 := ⟨⟨(q_m1 16 rfl rfl), (q_m9 90 rfl rfl), ⟨by decide +kernel, by decide +kernel⟩, by decide +kernel⟩, (q_m9 88 rfl rfl), (q_m9 89 rfl rfl)⟩
def mX11_back : q_M := ((yX11_back, cX11_back, 3, some .int), (2, 46, 0, 0))
theorem DX11_back : q_DV mX11_back 1 := ⟨⟨(q_m1 16 rfl rfl), (q_m9 94 rfl rfl), ⟨by decide +kernel, by decide +kernel⟩, by decide +kernel⟩, (q_m9 92 rfl rfl), (q_m9 93 rfl rfl)⟩
def mX11_about : q_M := ((yX11_about, cX11_about, 2, some .int), (1, 23, 0, 0))
theorem DX11_about : q_DV mX11_about 1 := ⟨⟨(q_m1 16 rfl rfl), (q_m9 98 rfl rfl), ⟨by decide +kernel, by decide +kernel⟩, by decide +kernel⟩, (q_m9 96 rfl rfl), (q_m9 97 rfl rfl)⟩
def mX11_feed : q_M := ((yX11_feed, cX11_feed, 8, some .int), (0, 0, 0, 0))
theorem DX11_feed : q_DV mX11_feed 5 := ⟨⟨(q_m1 16 rfl rfl), (q_m9 102 rfl rfl), ⟨by decide +kernel, by decide +kernel⟩, by decide +kernel⟩, (q_m9 100 rfl rfl), (q_m9 101 rfl rfl)⟩
def mX11_end : q_M := ((yX11_end, cX11_end, 2, some .int), (0, 0, 0, 0))
theorem DX11_end : q_DV mX11_end 1 := ⟨⟨(q_m1 16 rfl rfl), (q_m9 106 rfl rfl), ⟨by decide +kernel, by decide +kernel⟩, by decide +kernel⟩, (q_m9 104 rfl rfl), (q_m9 105 rfl rfl)⟩
def mJ13_bitCount_95d88 : q_M := ((yJ13_bitCount_95d88, cJ13_bitCount_95d88, 2, some .int), (0, 0, 0, 0))
theorem DJ13_bitCount_95d88 : q_DS mJ13_bitCount_95d88 1 := ⟨⟨(q_m1 18 rfl rfl), (q_m5 56 rfl rfl), ⟨by decide +kernel, by decide +kernel⟩, by decide +kernel⟩, (q_m5 55 rfl rfl)⟩
theorem fX0_9 : Cond.fieldLink "WhyNot$Askings" 9 "WhyNot$Askings" "place" "[I" ∈ q_gt := (q_m2 79 rfl rfl)
theorem fX0_15 : Cond.fieldLink "WhyNot$Askings" 15 "WhyNot$Askings" "parts" "[I" ∈ q_gt := (q_m2 80 rfl rfl)
theorem fX0_18 : Cond.fieldLink "WhyNot$Askings" 18 "WhyNot$Askings" "firstOf" "[I" ∈ q_gt := (q_m2 81 rfl rfl)
theorem fX0_21 : Cond.fieldLink "WhyNot$Askings" 21 "WhyNot$Askings" "latestOf" "[I" ∈ q_gt := (q_m2 82 rfl rfl)
theorem fX0_24 : Cond.fieldLink "WhyNot$Askings" 24 "WhyNot$Askings" "pilePlace" "[I" ∈ q_gt := (q_m2 83 rfl rfl)
theorem fX0_27 : Cond.fieldLink "WhyNot$Askings" 27 "WhyNot$Askings" "pileAsker" "[I" ∈ q_gt := (q_m2 84 rfl rfl)
theorem fX0_30 : Cond.fieldLink "WhyNot$Askings" 30 "WhyNot$Askings" "pileSlot" "[I" ∈ q_gt := (q_m2 85 rfl rfl)
theorem fX0_33 : Cond.fieldLink "WhyNot$Askings" 33 "WhyNot$Askings" "tree" "LWhyNot$Tree;" ∈ q_gt := (q_m2 77 rfl rfl)
theorem fX0_37 : Cond.fieldLink "WhyNot$Askings" 37 "WhyNot$Askings" "kinds" "LWhyNot$Kinds;" ∈ q_gt := (q_m2 78 rfl rfl)
theorem fX0_41 : Cond.fieldLink "WhyNot$Askings" 41 "WhyNot$Askings" "count" "I" ∈ q_gt := (q_m2 68 rfl rfl)
theorem fX0_45 : Cond.fieldLink "WhyNot$Askings" 45 "WhyNot$Askings" "tooMany" "Z" ∈ q_gt := (q_m2 70 rfl rfl)
theorem fX0_49 : Cond.fieldLink "WhyNot$Askings" 49 "WhyNot$Askings" "fitKnown" "Z" ∈ q_gt := (q_m2 73 rfl rfl)
theorem fX0_52 : Cond.fieldLink "WhyNot$Askings" 52 "WhyNot$Askings" "coreKnown" "Z" ∈ q_gt := (q_m2 75 rfl rfl)
theorem fX0_55 : Cond.fieldLink "WhyNot$Askings" 55 "WhyNot$Tree" "defs" "I" ∈ q_gt := (q_m1 36 rfl rfl)
theorem fX0_60 : Cond.fieldLink "WhyNot$Askings" 60 "WhyNot$Askings" "piled" "I" ∈ q_gt := (q_m2 86 rfl rfl)
theorem fX0_91 : Cond.fieldLink "WhyNot$Askings" 91 "WhyNot$Tree" "sort" "[I" ∈ q_gt := (q_m1 52 rfl rfl)
theorem fX0_115 : Cond.fieldLink "WhyNot$Askings" 115 "WhyNot$Askings" "fit" "Z" ∈ q_gt := (q_m2 74 rfl rfl)
theorem fX0_126 : Cond.fieldLink "WhyNot$Askings" 126 "WhyNot$Askings" "coreFound" "J" ∈ q_gt := (q_m2 76 rfl rfl)
theorem fX0_154 : Cond.fieldLink "WhyNot$Askings" 154 "WhyNot$Kinds" "number" "I" ∈ q_gt := (q_m1 163 rfl rfl)
theorem fX0_157 : Cond.fieldLink "WhyNot$Askings" 157 "WhyNot$Kinds" "truth" "I" ∈ q_gt := (q_m1 165 rfl rfl)
theorem fX1_11 : Cond.fieldLink "WhyNot$CheapestMend" 11 "WhyNot$CheapestMend" "clashing" "[J" ∈ q_gt := (q_m2 162 rfl rfl)
theorem fX1_15 : Cond.fieldLink "WhyNot$CheapestMend" 15 "WhyNot$CheapestMend" "weight" "[J" ∈ q_gt := (q_m2 163 rfl rfl)
theorem fX1_18 : Cond.fieldLink "WhyNot$CheapestMend" 18 "WhyNot$CheapestMend" "out" "[J" ∈ q_gt := (q_m2 164 rfl rfl)
theorem fX1_21 : Cond.fieldLink "WhyNot$CheapestMend" 21 "WhyNot$CheapestMend" "kept" "[J" ∈ q_gt := (q_m2 165 rfl rfl)
theorem fX1_24 : Cond.fieldLink "WhyNot$CheapestMend" 24 "WhyNot$CheapestMend" "weightOut" "[J" ∈ q_gt := (q_m2 166 rfl rfl)
theorem fX1_27 : Cond.fieldLink "WhyNot$CheapestMend" 27 "WhyNot$CheapestMend" "waiting" "[J" ∈ q_gt := (q_m2 167 rfl rfl)
theorem fX1_30 : Cond.fieldLink "WhyNot$CheapestMend" 30 "WhyNot$CheapestMend" "tree" "LWhyNot$Tree;" ∈ q_gt := (q_m2 160 rfl rfl)
theorem fX1_34 : Cond.fieldLink "WhyNot$CheapestMend" 34 "WhyNot$CheapestMend" "askings" "LWhyNot$Askings;" ∈ q_gt := (q_m2 161 rfl rfl)
theorem fX1_38 : Cond.fieldLink "WhyNot$CheapestMend" 38 "WhyNot$CheapestMend" "found" "Z" ∈ q_gt := (q_m2 154 rfl rfl)
theorem fX1_42 : Cond.fieldLink "WhyNot$CheapestMend" 42 "WhyNot$CheapestMend" "known" "I" ∈ q_gt := (q_m2 159 rfl rfl)
theorem fX1_46 : Cond.fieldLink "WhyNot$CheapestMend" 46 "WhyNot$Tree" "places" "I" ∈ q_gt := (q_m1 41 rfl rfl)
theorem fX1_51 : Cond.fieldLink "WhyNot$CheapestMend" 51 "WhyNot$CheapestMend" "best" "J" ∈ q_gt := (q_m2 156 rfl rfl)
theorem fX1_83 : Cond.fieldLink "WhyNot$CheapestMend" 83 "WhyNot$CheapestMend" "places" "I" ∈ q_gt := (q_m2 158 rfl rfl)
theorem fX1_84 : Cond.fieldLink "WhyNot$CheapestMend" 84 "WhyNot$CheapestMend" "bestWeight" "J" ∈ q_gt := (q_m2 157 rfl rfl)
theorem fX1_87 : Cond.fieldLink "WhyNot$CheapestMend" 87 "WhyNot$Tree" "trust" "[I" ∈ q_gt := (q_m1 68 rfl rfl)
theorem fX10_9 : Cond.fieldLink "WhyNot" 9 "WhyNot" "tape" "[B" ∈ q_gt := (q_m3 67 rfl rfl)
theorem fX10_16 : Cond.fieldLink "WhyNot" 16 "WhyNot" "tree" "LWhyNot$Tree;" ∈ q_gt := (q_m3 70 rfl rfl)
theorem fX10_23 : Cond.fieldLink "WhyNot" 23 "WhyNot" "draft" "LWhyNot$Draft;" ∈ q_gt := (q_m3 71 rfl rfl)
theorem fX10_30 : Cond.fieldLink "WhyNot" 30 "WhyNot" "kinds" "LWhyNot$Kinds;" ∈ q_gt := (q_m3 72 rfl rfl)
theorem fX10_36 : Cond.fieldLink "WhyNot" 36 "WhyNot$Draft" "tree" "LWhyNot$Tree;" ∈ q_gt := (q_m1 133 rfl rfl)
theorem fX10_40 : Cond.fieldLink "WhyNot" 40 "WhyNot" "reader" "LWhyNot$Reader;" ∈ q_gt := (q_m3 73 rfl rfl)
theorem fX10_49 : Cond.fieldLink "WhyNot" 49 "WhyNot" "askings" "LWhyNot$Askings;" ∈ q_gt := (q_m3 74 rfl rfl)
theorem fX10_53 : Cond.fieldLink "WhyNot" 53 "WhyNot" "draftAskings" "LWhyNot$Askings;" ∈ q_gt := (q_m3 75 rfl rfl)
theorem fX10_61 : Cond.fieldLink "WhyNot" 61 "WhyNot" "leastSets" "LWhyNot$LeastSets;" ∈ q_gt := (q_m3 76 rfl rfl)
theorem fX10_70 : Cond.fieldLink "WhyNot" 70 "WhyNot" "cheapestMend" "LWhyNot$CheapestMend;" ∈ q_gt := (q_m3 77 rfl rfl)
theorem fX10_79 : Cond.fieldLink "WhyNot" 79 "WhyNot" "hintList" "LWhyNot$HintList;" ∈ q_gt := (q_m3 78 rfl rfl)
theorem fX10_88 : Cond.fieldLink "WhyNot" 88 "WhyNot" "machine" "LWhyNot$Machine;" ∈ q_gt := (q_m3 79 rfl rfl)
theorem fX10_95 : Cond.fieldLink "WhyNot" 95 "WhyNot" "told" "LWhyNot$Told;" ∈ q_gt := (q_m3 80 rfl rfl)
theorem fX10_99 : Cond.fieldLink "WhyNot" 99 "WhyNot" "boxes" "[LWhyNot$Tree;" ∈ q_gt := (q_m3 81 rfl rfl)
theorem fX10_103 : Cond.fieldLink "WhyNot" 103 "WhyNot" "boxFilled" "[Z" ∈ q_gt := (q_m3 82 rfl rfl)
theorem fX10_107 : Cond.fieldLink "WhyNot" 107 "WhyNot" "taped" "I" ∈ q_gt := (q_m3 68 rfl rfl)
theorem fX10_122 : Cond.fieldLink "WhyNot" 122 "WhyNot$Askings" "tooMany" "Z" ∈ q_gt := (q_m2 72 rfl rfl)
theorem fX10_133 : Cond.fieldLink "WhyNot" 133 "WhyNot$Reader" "fault" "I" ∈ q_gt := (q_m2 15 rfl rfl)
theorem fX10_136 : Cond.fieldLink "WhyNot" 136 "WhyNot$Reader" "faultAt" "I" ∈ q_gt := (q_m2 17 rfl rfl)
theorem fX10_142 : Cond.fieldLink "WhyNot" 142 "WhyNot$Tree" "sort" "[I" ∈ q_gt := (q_m1 53 rfl rfl)
theorem fX10_146 : Cond.fieldLink "WhyNot" 146 "WhyNot$Tree" "start" "[I" ∈ q_gt := (q_m1 57 rfl rfl)
theorem fX10_149 : Cond.fieldLink "WhyNot" 149 "WhyNot$Tree" "def" "[I" ∈ q_gt := (q_m1 61 rfl rfl)
theorem fX10_152 : Cond.fieldLink "WhyNot" 152 "WhyNot$Tree" "value" "[I" ∈ q_gt := (q_m1 63 rfl rfl)
theorem fX10_185 : Cond.fieldLink "WhyNot" 185 "WhyNot$Tree" "places" "I" ∈ q_gt := (q_m1 43 rfl rfl)
theorem fX10_191 : Cond.fieldLink "WhyNot" 191 "WhyNot$LeastSets" "clashCount" "I" ∈ q_gt := (q_m2 129 rfl rfl)
theorem fX10_200 : Cond.fieldLink "WhyNot" 200 "WhyNot$Tree" "trust" "[I" ∈ q_gt := (q_m1 69 rfl rfl)
theorem fX10_203 : Cond.fieldLink "WhyNot" 203 "WhyNot$CheapestMend" "found" "Z" ∈ q_gt := (q_m2 155 rfl rfl)
theorem fX10_206 : Cond.fieldLink "WhyNot" 206 "WhyNot$HintList" "found" "Z" ∈ q_gt := (q_m2 202 rfl rfl)
theorem fX10_211 : Cond.fieldLink "WhyNot" 211 "WhyNot$LeastSets" "mendCount" "I" ∈ q_gt := (q_m2 131 rfl rfl)
theorem fX10_220 : Cond.fieldLink "WhyNot" 220 "WhyNot$HintList" "count" "I" ∈ q_gt := (q_m2 204 rfl rfl)
theorem fX10_224 : Cond.fieldLink "WhyNot" 224 "WhyNot$HintList" "place" "[I" ∈ q_gt := (q_m2 206 rfl rfl)
theorem fX10_227 : Cond.fieldLink "WhyNot" 227 "WhyNot$HintList" "change" "[I" ∈ q_gt := (q_m2 208 rfl rfl)
theorem fX10_230 : Cond.fieldLink "WhyNot" 230 "WhyNot$HintList" "choice" "[I" ∈ q_gt := (q_m2 210 rfl rfl)
theorem fX10_237 : Cond.fieldLink "WhyNot" 237 "WhyNot$Tree" "defs" "I" ∈ q_gt := (q_m1 39 rfl rfl)
theorem fX10_243 : Cond.fieldLink "WhyNot" 243 "WhyNot$Machine" "resultHead" "I" ∈ q_gt := (q_m2 238 rfl rfl)
theorem fX10_246 : Cond.fieldLink "WhyNot" 246 "WhyNot$Machine" "resultNumber" "I" ∈ q_gt := (q_m3 0 rfl rfl)
theorem fX10_249 : Cond.fieldLink "WhyNot" 249 "WhyNot" "time" "I" ∈ q_gt := (q_m3 69 rfl rfl)
theorem fX10_273 : Cond.fieldLink "WhyNot" 273 "WhyNot$Askings" "count" "I" ∈ q_gt := (q_m2 69 rfl rfl)
theorem fX10_274 : Cond.fieldLink "WhyNot" 274 "WhyNot$Told" "count" "I" ∈ q_gt := (q_m3 53 rfl rfl)
theorem fX10_282 : Cond.fieldLink "WhyNot" 282 "WhyNot$LeastSets" "found" "Z" ∈ q_gt := (q_m2 127 rfl rfl)
theorem fX10_284 : Cond.fieldLink "WhyNot" 284 "WhyNot$Machine" "worked" "I" ∈ q_gt := (q_m3 2 rfl rfl)
theorem fX11_7 : Cond.fieldLink "WhyNotModel" 7 "WhyNotModel" "tape" "[B" ∈ q_gt := (q_m6 79 rfl rfl)
theorem fX11_13 : Cond.fieldLink "WhyNotModel" 13 "WhyNotModel" "text" "[B" ∈ q_gt := (q_m6 80 rfl rfl)
theorem fX11_16 : Cond.fieldLink "WhyNotModel" 16 "WhyNotModel" "faultPlace" "I" ∈ q_gt := (q_m6 84 rfl rfl)
theorem fX11_20 : Cond.fieldLink "WhyNotModel" 20 "WhyNotModel" "places" "[I" ∈ q_gt := (q_m6 90 rfl rfl)
theorem fX11_24 : Cond.fieldLink "WhyNotModel" 24 "WhyNotModel" "defs" "[I" ∈ q_gt := (q_m6 91 rfl rfl)
theorem fX11_27 : Cond.fieldLink "WhyNotModel" 27 "WhyNotModel" "kinds" "[I" ∈ q_gt := (q_m6 92 rfl rfl)
theorem fX11_30 : Cond.fieldLink "WhyNotModel" 30 "WhyNotModel" "defRoot" "[I" ∈ q_gt := (q_m6 93 rfl rfl)
theorem fX11_33 : Cond.fieldLink "WhyNotModel" 33 "WhyNotModel" "sort" "[I" ∈ q_gt := (q_m6 94 rfl rfl)
theorem fX11_36 : Cond.fieldLink "WhyNotModel" 36 "WhyNotModel" "value" "[I" ∈ q_gt := (q_m6 95 rfl rfl)
theorem fX11_39 : Cond.fieldLink "WhyNotModel" 39 "WhyNotModel" "beginAt" "[I" ∈ q_gt := (q_m6 96 rfl rfl)
theorem fX11_42 : Cond.fieldLink "WhyNotModel" 42 "WhyNotModel" "defOf" "[I" ∈ q_gt := (q_m6 97 rfl rfl)
theorem fX11_45 : Cond.fieldLink "WhyNotModel" 45 "WhyNotModel" "endOf" "[I" ∈ q_gt := (q_m6 98 rfl rfl)
theorem fX11_48 : Cond.fieldLink "WhyNotModel" 48 "WhyNotModel" "asks" "[I" ∈ q_gt := (q_m6 99 rfl rfl)
theorem fX11_51 : Cond.fieldLink "WhyNotModel" 51 "WhyNotModel" "kid" "[I" ∈ q_gt := (q_m6 100 rfl rfl)
theorem fX11_54 : Cond.fieldLink "WhyNotModel" 54 "WhyNotModel" "binder" "[I" ∈ q_gt := (q_m6 101 rfl rfl)
theorem fX11_57 : Cond.fieldLink "WhyNotModel" 57 "WhyNotModel" "kindAt" "[I" ∈ q_gt := (q_m6 102 rfl rfl)
theorem fX11_60 : Cond.fieldLink "WhyNotModel" 60 "WhyNotModel" "kindLong" "[I" ∈ q_gt := (q_m6 103 rfl rfl)
theorem fX11_63 : Cond.fieldLink "WhyNotModel" 63 "WhyNotModel" "kindCode" "[I" ∈ q_gt := (q_m6 104 rfl rfl)
theorem fX11_66 : Cond.fieldLink "WhyNotModel" 66 "WhyNotModel" "defName" "[J" ∈ q_gt := (q_m6 105 rfl rfl)
theorem fX11_70 : Cond.fieldLink "WhyNotModel" 70 "WhyNotModel" "word" "[J" ∈ q_gt := (q_m6 106 rfl rfl)
theorem fX11_73 : Cond.fieldLink "WhyNotModel" 73 "WhyNotModel" "openPlace" "[I" ∈ q_gt := (q_m6 109 rfl rfl)
theorem fX11_76 : Cond.fieldLink "WhyNotModel" 76 "WhyNotModel" "openDone" "[I" ∈ q_gt := (q_m6 110 rfl rfl)
theorem fX11_79 : Cond.fieldLink "WhyNotModel" 79 "WhyNotModel" "tag" "[I" ∈ q_gt := (q_m6 112 rfl rfl)
theorem fX11_82 : Cond.fieldLink "WhyNotModel" 82 "WhyNotModel" "leftTerm" "[I" ∈ q_gt := (q_m6 113 rfl rfl)
theorem fX11_85 : Cond.fieldLink "WhyNotModel" 85 "WhyNotModel" "rightTerm" "[I" ∈ q_gt := (q_m6 114 rfl rfl)
theorem fX11_88 : Cond.fieldLink "WhyNotModel" 88 "WhyNotModel" "link" "[I" ∈ q_gt := (q_m6 115 rfl rfl)
theorem fX11_91 : Cond.fieldLink "WhyNotModel" 91 "WhyNotModel" "inward" "[I" ∈ q_gt := (q_m6 116 rfl rfl)
theorem fX11_94 : Cond.fieldLink "WhyNotModel" 94 "WhyNotModel" "pile" "[I" ∈ q_gt := (q_m6 117 rfl rfl)
theorem fX11_97 : Cond.fieldLink "WhyNotModel" 97 "WhyNotModel" "askPlace" "[I" ∈ q_gt := (q_m6 118 rfl rfl)
theorem fX11_100 : Cond.fieldLink "WhyNotModel" 100 "WhyNotModel" "askA" "[I" ∈ q_gt := (q_m6 119 rfl rfl)
theorem fX11_103 : Cond.fieldLink "WhyNotModel" 103 "WhyNotModel" "askB" "[I" ∈ q_gt := (q_m6 120 rfl rfl)
theorem fX11_106 : Cond.fieldLink "WhyNotModel" 106 "WhyNotModel" "layRoot" "[I" ∈ q_gt := (q_m6 121 rfl rfl)
theorem fX11_109 : Cond.fieldLink "WhyNotModel" 109 "WhyNotModel" "layOuter" "[I" ∈ q_gt := (q_m6 122 rfl rfl)
theorem fX11_112 : Cond.fieldLink "WhyNotModel" 112 "WhyNotModel" "layKinds" "[I" ∈ q_gt := (q_m6 123 rfl rfl)
theorem fX11_115 : Cond.fieldLink "WhyNotModel" 115 "WhyNotModel" "layFuns" "[I" ∈ q_gt := (q_m6 124 rfl rfl)
theorem fX11_118 : Cond.fieldLink "WhyNotModel" 118 "WhyNotModel" "laidBank" "I" ∈ q_gt := (q_m6 128 rfl rfl)
theorem fX11_121 : Cond.fieldLink "WhyNotModel" 121 "WhyNotModel" "openMet" "[I" ∈ q_gt := (q_m6 131 rfl rfl)
theorem fX11_124 : Cond.fieldLink "WhyNotModel" 124 "WhyNotModel" "doClash" "[Z" ∈ q_gt := (q_m6 132 rfl rfl)
theorem fX11_128 : Cond.fieldLink "WhyNotModel" 128 "WhyNotModel" "trust" "[I" ∈ q_gt := (q_m6 133 rfl rfl)
theorem fX11_131 : Cond.fieldLink "WhyNotModel" 131 "WhyNotModel" "gone" "[J" ∈ q_gt := (q_m6 134 rfl rfl)
theorem fX11_134 : Cond.fieldLink "WhyNotModel" 134 "WhyNotModel" "stay" "[J" ∈ q_gt := (q_m6 135 rfl rfl)
theorem fX11_137 : Cond.fieldLink "WhyNotModel" 137 "WhyNotModel" "ofCore" "[J" ∈ q_gt := (q_m6 136 rfl rfl)
theorem fX11_140 : Cond.fieldLink "WhyNotModel" 140 "WhyNotModel" "cost" "[I" ∈ q_gt := (q_m6 137 rfl rfl)
theorem fX11_143 : Cond.fieldLink "WhyNotModel" 143 "WhyNotModel" "tried" "[I" ∈ q_gt := (q_m6 138 rfl rfl)
theorem fX11_146 : Cond.fieldLink "WhyNotModel" 146 "WhyNotModel" "newOf" "[I" ∈ q_gt := (q_m6 143 rfl rfl)
theorem fX11_149 : Cond.fieldLink "WhyNotModel" 149 "WhyNotModel" "waits" "[I" ∈ q_gt := (q_m6 144 rfl rfl)
theorem fX11_152 : Cond.fieldLink "WhyNotModel" 152 "WhyNotModel" "hPlace" "[I" ∈ q_gt := (q_m6 145 rfl rfl)
theorem fX11_155 : Cond.fieldLink "WhyNotModel" 155 "WhyNotModel" "hSort" "[I" ∈ q_gt := (q_m6 146 rfl rfl)
theorem fX11_158 : Cond.fieldLink "WhyNotModel" 158 "WhyNotModel" "hWhich" "[I" ∈ q_gt := (q_m6 147 rfl rfl)
theorem fX11_161 : Cond.fieldLink "WhyNotModel" 161 "WhyNotModel" "meantOf" "[I" ∈ q_gt := (q_m6 148 rfl rfl)
theorem fX11_164 : Cond.fieldLink "WhyNotModel" 164 "WhyNotModel" "fPlace" "[I" ∈ q_gt := (q_m6 151 rfl rfl)
theorem fX11_167 : Cond.fieldLink "WhyNotModel" 167 "WhyNotModel" "fState" "[I" ∈ q_gt := (q_m6 152 rfl rfl)
theorem fX11_170 : Cond.fieldLink "WhyNotModel" 170 "WhyNotModel" "fEnv" "[I" ∈ q_gt := (q_m6 153 rfl rfl)
theorem fX11_173 : Cond.fieldLink "WhyNotModel" 173 "WhyNotModel" "fOne" "[I" ∈ q_gt := (q_m6 154 rfl rfl)
theorem fX11_176 : Cond.fieldLink "WhyNotModel" 176 "WhyNotModel" "vHead" "[I" ∈ q_gt := (q_m6 155 rfl rfl)
theorem fX11_179 : Cond.fieldLink "WhyNotModel" 179 "WhyNotModel" "vNumber" "[I" ∈ q_gt := (q_m6 156 rfl rfl)
theorem fX11_182 : Cond.fieldLink "WhyNotModel" 182 "WhyNotModel" "vFirst" "[I" ∈ q_gt := (q_m6 157 rfl rfl)
theorem fX11_185 : Cond.fieldLink "WhyNotModel" 185 "WhyNotModel" "vSecond" "[I" ∈ q_gt := (q_m6 158 rfl rfl)
theorem fX11_188 : Cond.fieldLink "WhyNotModel" 188 "WhyNotModel" "eBinder" "[I" ∈ q_gt := (q_m6 159 rfl rfl)
theorem fX11_191 : Cond.fieldLink "WhyNotModel" 191 "WhyNotModel" "eValue" "[I" ∈ q_gt := (q_m6 160 rfl rfl)
theorem fX11_194 : Cond.fieldLink "WhyNotModel" 194 "WhyNotModel" "eNext" "[I" ∈ q_gt := (q_m6 161 rfl rfl)
theorem fX11_197 : Cond.fieldLink "WhyNotModel" 197 "WhyNotModel" "rPlace" "[I" ∈ q_gt := (q_m6 168 rfl rfl)
theorem fX11_200 : Cond.fieldLink "WhyNotModel" 200 "WhyNotModel" "rTold" "[I" ∈ q_gt := (q_m6 169 rfl rfl)
theorem fX11_203 : Cond.fieldLink "WhyNotModel" 203 "WhyNotModel" "rUntold" "[I" ∈ q_gt := (q_m6 170 rfl rfl)
theorem fX11_206 : Cond.fieldLink "WhyNotModel" 206 "WhyNotModel" "boxTrust" "[I" ∈ q_gt := (q_m6 175 rfl rfl)
theorem fX11_209 : Cond.fieldLink "WhyNotModel" 209 "WhyNotModel" "isBoxed" "[Z" ∈ q_gt := (q_m6 176 rfl rfl)
theorem fX11_219 : Cond.fieldLink "WhyNotModel" 219 "WhyNotModel" "size" "I" ∈ q_gt := (q_m6 82 rfl rfl)
theorem fX11_222 : Cond.fieldLink "WhyNotModel" 222 "WhyNotModel" "faultKind" "I" ∈ q_gt := (q_m6 83 rfl rfl)
theorem fX11_273 : Cond.fieldLink "WhyNotModel" 273 "WhyNotModel" "end" "I" ∈ q_gt := (q_m6 86 rfl rfl)
theorem fX11_276 : Cond.fieldLink "WhyNotModel" 276 "WhyNotModel" "at" "I" ∈ q_gt := (q_m6 85 rfl rfl)
theorem fX11_283 : Cond.fieldLink "WhyNotModel" 283 "WhyNotModel" "token" "I" ∈ q_gt := (q_m6 87 rfl rfl)
theorem fX11_290 : Cond.fieldLink "WhyNotModel" 290 "WhyNotModel" "name" "J" ∈ q_gt := (q_m6 89 rfl rfl)
theorem fX11_301 : Cond.fieldLink "WhyNotModel" 301 "WhyNotModel" "number" "I" ∈ q_gt := (q_m6 88 rfl rfl)
theorem fX11_318 : Cond.fieldLink "WhyNotModel" 318 "WhyNotModel" "taped" "I" ∈ q_gt := (q_m6 81 rfl rfl)
theorem fX11_321 : Cond.fieldLink "WhyNotModel" 321 "WhyNotModel" "bank" "I" ∈ q_gt := (q_m6 107 rfl rfl)
theorem fX11_324 : Cond.fieldLink "WhyNotModel" 324 "WhyNotModel" "rb" "I" ∈ q_gt := (q_m6 108 rfl rfl)
theorem fX11_343 : Cond.fieldLink "WhyNotModel" 343 "WhyNotModel" "opened" "I" ∈ q_gt := (q_m6 111 rfl rfl)
theorem fX11_386 : Cond.fieldLink "WhyNotModel" 386 "WhyNotModel" "terms" "I" ∈ q_gt := (q_m6 125 rfl rfl)
theorem fX11_393 : Cond.fieldLink "WhyNotModel" 393 "WhyNotModel" "askMany" "I" ∈ q_gt := (q_m6 126 rfl rfl)
theorem fX11_396 : Cond.fieldLink "WhyNotModel" 396 "WhyNotModel" "layMany" "I" ∈ q_gt := (q_m6 127 rfl rfl)
theorem fX11_402 : Cond.fieldLink "WhyNotModel" 402 "WhyNotModel" "numTerm" "I" ∈ q_gt := (q_m6 129 rfl rfl)
theorem fX11_405 : Cond.fieldLink "WhyNotModel" 405 "WhyNotModel" "truthTerm" "I" ∈ q_gt := (q_m6 130 rfl rfl)
theorem fX11_492 : Cond.fieldLink "WhyNotModel" 492 "WhyNotModel" "hasCheapest" "Z" ∈ q_gt := (q_m6 141 rfl rfl)
theorem fX11_496 : Cond.fieldLink "WhyNotModel" 496 "WhyNotModel" "hasHints" "Z" ∈ q_gt := (q_m6 142 rfl rfl)
theorem fX11_499 : Cond.fieldLink "WhyNotModel" 499 "WhyNotModel" "bestCost" "I" ∈ q_gt := (q_m6 140 rfl rfl)
theorem fX11_502 : Cond.fieldLink "WhyNotModel" 502 "WhyNotModel" "bestMend" "J" ∈ q_gt := (q_m6 139 rfl rfl)
theorem fX11_516 : Cond.fieldLink "WhyNotModel" 516 "WhyNotModel" "meantMany" "I" ∈ q_gt := (q_m6 150 rfl rfl)
theorem fX11_542 : Cond.fieldLink "WhyNotModel" 542 "WhyNotModel" "hintMany" "I" ∈ q_gt := (q_m6 149 rfl rfl)
theorem fX11_560 : Cond.fieldLink "WhyNotModel" 560 "WhyNotModel" "rights" "I" ∈ q_gt := (q_m6 171 rfl rfl)
theorem fX11_569 : Cond.fieldLink "WhyNotModel" 569 "WhyNotModel" "values" "I" ∈ q_gt := (q_m6 164 rfl rfl)
theorem fX11_572 : Cond.fieldLink "WhyNotModel" 572 "WhyNotModel" "worked" "I" ∈ q_gt := (q_m6 163 rfl rfl)
theorem fX11_575 : Cond.fieldLink "WhyNotModel" 575 "WhyNotModel" "frames" "I" ∈ q_gt := (q_m6 162 rfl rfl)
theorem fX11_578 : Cond.fieldLink "WhyNotModel" 578 "WhyNotModel" "wrong" "I" ∈ q_gt := (q_m6 167 rfl rfl)
theorem fX11_581 : Cond.fieldLink "WhyNotModel" 581 "WhyNotModel" "envs" "I" ∈ q_gt := (q_m6 165 rfl rfl)
theorem fX11_603 : Cond.fieldLink "WhyNotModel" 603 "WhyNotModel" "result" "I" ∈ q_gt := (q_m6 166 rfl rfl)
theorem fX11_618 : Cond.fieldLink "WhyNotModel" 618 "WhyNotModel" "time" "I" ∈ q_gt := (q_m6 172 rfl rfl)
theorem fX11_622 : Cond.fieldLink "WhyNotModel" 622 "WhyNotModel" "leftMany" "I" ∈ q_gt := (q_m6 173 rfl rfl)
theorem fX11_625 : Cond.fieldLink "WhyNotModel" 625 "WhyNotModel" "leftAll" "I" ∈ q_gt := (q_m6 174 rfl rfl)
theorem fX2_12 : Cond.fieldLink "WhyNot$Draft" 12 "WhyNot$Draft" "tree" "LWhyNot$Tree;" ∈ q_gt := (q_m1 132 rfl rfl)
theorem fX2_18 : Cond.fieldLink "WhyNot$Draft" 18 "WhyNot$Draft" "moved" "[I" ∈ q_gt := (q_m1 135 rfl rfl)
theorem fX2_22 : Cond.fieldLink "WhyNot$Draft" 22 "WhyNot$Draft" "choices" "[I" ∈ q_gt := (q_m1 136 rfl rfl)
theorem fX2_25 : Cond.fieldLink "WhyNot$Draft" 25 "WhyNot$Draft" "pilePlace" "[I" ∈ q_gt := (q_m1 137 rfl rfl)
theorem fX2_28 : Cond.fieldLink "WhyNot$Draft" 28 "WhyNot$Draft" "pileParent" "[I" ∈ q_gt := (q_m1 138 rfl rfl)
theorem fX2_31 : Cond.fieldLink "WhyNot$Draft" 31 "WhyNot$Draft" "pileSlot" "[I" ∈ q_gt := (q_m1 139 rfl rfl)
theorem fX2_53 : Cond.fieldLink "WhyNot$Draft" 53 "WhyNot$Draft" "piled" "I" ∈ q_gt := (q_m1 140 rfl rfl)
theorem fX2_57 : Cond.fieldLink "WhyNot$Draft" 57 "WhyNot$Tree" "defs" "I" ∈ q_gt := (q_m1 37 rfl rfl)
theorem fX2_60 : Cond.fieldLink "WhyNot$Draft" 60 "WhyNot$Tree" "defWord" "[J" ∈ q_gt := (q_m1 48 rfl rfl)
theorem fX2_92 : Cond.fieldLink "WhyNot$Draft" 92 "WhyNot$Tree" "target" "[I" ∈ q_gt := (q_m1 75 rfl rfl)
theorem fX2_98 : Cond.fieldLink "WhyNot$Draft" 98 "WhyNot$Tree" "sort" "[I" ∈ q_gt := (q_m1 54 rfl rfl)
theorem fX2_101 : Cond.fieldLink "WhyNot$Draft" 101 "WhyNot$Tree" "value" "[I" ∈ q_gt := (q_m1 64 rfl rfl)
theorem fX2_104 : Cond.fieldLink "WhyNot$Draft" 104 "WhyNot$Tree" "start" "[I" ∈ q_gt := (q_m1 58 rfl rfl)
theorem fX3_9 : Cond.fieldLink "WhyNot$HintList" 9 "WhyNot$HintList" "place" "[I" ∈ q_gt := (q_m2 205 rfl rfl)
theorem fX3_15 : Cond.fieldLink "WhyNot$HintList" 15 "WhyNot$HintList" "change" "[I" ∈ q_gt := (q_m2 207 rfl rfl)
theorem fX3_18 : Cond.fieldLink "WhyNot$HintList" 18 "WhyNot$HintList" "choice" "[I" ∈ q_gt := (q_m2 209 rfl rfl)
theorem fX3_21 : Cond.fieldLink "WhyNot$HintList" 21 "WhyNot$HintList" "tree" "LWhyNot$Tree;" ∈ q_gt := (q_m2 211 rfl rfl)
theorem fX3_25 : Cond.fieldLink "WhyNot$HintList" 25 "WhyNot$HintList" "draft" "LWhyNot$Draft;" ∈ q_gt := (q_m2 212 rfl rfl)
theorem fX3_29 : Cond.fieldLink "WhyNot$HintList" 29 "WhyNot$HintList" "askings" "LWhyNot$Askings;" ∈ q_gt := (q_m2 213 rfl rfl)
theorem fX3_33 : Cond.fieldLink "WhyNot$HintList" 33 "WhyNot$HintList" "count" "I" ∈ q_gt := (q_m2 203 rfl rfl)
theorem fX3_37 : Cond.fieldLink "WhyNot$HintList" 37 "WhyNot$HintList" "found" "Z" ∈ q_gt := (q_m2 201 rfl rfl)
theorem fX3_41 : Cond.fieldLink "WhyNot$HintList" 41 "WhyNot$Tree" "places" "I" ∈ q_gt := (q_m1 42 rfl rfl)
theorem fX3_61 : Cond.fieldLink "WhyNot$HintList" 61 "WhyNot$Askings" "tooMany" "Z" ∈ q_gt := (q_m2 71 rfl rfl)
theorem fX3_64 : Cond.fieldLink "WhyNot$HintList" 64 "WhyNot$Draft" "tree" "LWhyNot$Tree;" ∈ q_gt := (q_m1 134 rfl rfl)
theorem fX4_11 : Cond.fieldLink "WhyNot$Kinds" 11 "WhyNot$Kinds" "same" "[I" ∈ q_gt := (q_m1 167 rfl rfl)
theorem fX4_15 : Cond.fieldLink "WhyNot$Kinds" 15 "WhyNot$Kinds" "head" "[I" ∈ q_gt := (q_m1 168 rfl rfl)
theorem fX4_18 : Cond.fieldLink "WhyNot$Kinds" 18 "WhyNot$Kinds" "one" "[I" ∈ q_gt := (q_m1 169 rfl rfl)
theorem fX4_21 : Cond.fieldLink "WhyNot$Kinds" 21 "WhyNot$Kinds" "two" "[I" ∈ q_gt := (q_m1 170 rfl rfl)
theorem fX4_24 : Cond.fieldLink "WhyNot$Kinds" 24 "WhyNot$Kinds" "tally" "[I" ∈ q_gt := (q_m1 171 rfl rfl)
theorem fX4_27 : Cond.fieldLink "WhyNot$Kinds" 27 "WhyNot$Kinds" "pile" "[I" ∈ q_gt := (q_m1 172 rfl rfl)
theorem fX4_30 : Cond.fieldLink "WhyNot$Kinds" 30 "WhyNot$Kinds" "pileToo" "[I" ∈ q_gt := (q_m1 173 rfl rfl)
theorem fX4_33 : Cond.fieldLink "WhyNot$Kinds" 33 "WhyNot$Kinds" "count" "I" ∈ q_gt := (q_m1 166 rfl rfl)
theorem fX4_41 : Cond.fieldLink "WhyNot$Kinds" 41 "WhyNot$Kinds" "number" "I" ∈ q_gt := (q_m1 162 rfl rfl)
theorem fX4_44 : Cond.fieldLink "WhyNot$Kinds" 44 "WhyNot$Kinds" "truth" "I" ∈ q_gt := (q_m1 164 rfl rfl)
theorem fX4_75 : Cond.fieldLink "WhyNot$Kinds" 75 "WhyNot$Tree" "kindFrom" "[I" ∈ q_gt := (q_m1 78 rfl rfl)
theorem fX4_78 : Cond.fieldLink "WhyNot$Kinds" 78 "WhyNot$Tree" "kindLength" "[I" ∈ q_gt := (q_m1 81 rfl rfl)
theorem fX4_81 : Cond.fieldLink "WhyNot$Kinds" 81 "WhyNot$Tree" "kindHead" "[I" ∈ q_gt := (q_m1 84 rfl rfl)
theorem fX5_11 : Cond.fieldLink "WhyNot$LeastSets" 11 "WhyNot$LeastSets" "state" "[B" ∈ q_gt := (q_m2 134 rfl rfl)
theorem fX5_15 : Cond.fieldLink "WhyNot$LeastSets" 15 "WhyNot$LeastSets" "askings" "LWhyNot$Askings;" ∈ q_gt := (q_m2 133 rfl rfl)
theorem fX5_19 : Cond.fieldLink "WhyNot$LeastSets" 19 "WhyNot$LeastSets" "found" "Z" ∈ q_gt := (q_m2 126 rfl rfl)
theorem fX5_23 : Cond.fieldLink "WhyNot$LeastSets" 23 "WhyNot$LeastSets" "full" "I" ∈ q_gt := (q_m2 132 rfl rfl)
theorem fX5_27 : Cond.fieldLink "WhyNot$LeastSets" 27 "WhyNot$LeastSets" "clashCount" "I" ∈ q_gt := (q_m2 128 rfl rfl)
theorem fX5_30 : Cond.fieldLink "WhyNot$LeastSets" 30 "WhyNot$LeastSets" "mendCount" "I" ∈ q_gt := (q_m2 130 rfl rfl)
theorem fX6_9 : Cond.fieldLink "WhyNot$Machine" 9 "WhyNot$Machine" "worked" "I" ∈ q_gt := (q_m3 1 rfl rfl)
theorem fX6_15 : Cond.fieldLink "WhyNot$Machine" 15 "WhyNot$Machine" "head" "[I" ∈ q_gt := (q_m3 4 rfl rfl)
theorem fX6_19 : Cond.fieldLink "WhyNot$Machine" 19 "WhyNot$Machine" "one" "[I" ∈ q_gt := (q_m3 5 rfl rfl)
theorem fX6_22 : Cond.fieldLink "WhyNot$Machine" 22 "WhyNot$Machine" "two" "[I" ∈ q_gt := (q_m3 6 rfl rfl)
theorem fX6_25 : Cond.fieldLink "WhyNot$Machine" 25 "WhyNot$Machine" "framePlace" "[I" ∈ q_gt := (q_m3 8 rfl rfl)
theorem fX6_28 : Cond.fieldLink "WhyNot$Machine" 28 "WhyNot$Machine" "frameNames" "[I" ∈ q_gt := (q_m3 9 rfl rfl)
theorem fX6_31 : Cond.fieldLink "WhyNot$Machine" 31 "WhyNot$Machine" "frameStage" "[I" ∈ q_gt := (q_m3 10 rfl rfl)
theorem fX6_34 : Cond.fieldLink "WhyNot$Machine" 34 "WhyNot$Machine" "frameValue" "[I" ∈ q_gt := (q_m3 11 rfl rfl)
theorem fX6_37 : Cond.fieldLink "WhyNot$Machine" 37 "WhyNot$Machine" "tree" "LWhyNot$Tree;" ∈ q_gt := (q_m3 3 rfl rfl)
theorem fX6_41 : Cond.fieldLink "WhyNot$Machine" 41 "WhyNot$Machine" "cells" "I" ∈ q_gt := (q_m3 7 rfl rfl)
theorem fX6_44 : Cond.fieldLink "WhyNot$Machine" 44 "WhyNot$Machine" "frames" "I" ∈ q_gt := (q_m3 12 rfl rfl)
theorem fX6_47 : Cond.fieldLink "WhyNot$Machine" 47 "WhyNot$Machine" "failure" "I" ∈ q_gt := (q_m3 14 rfl rfl)
theorem fX6_50 : Cond.fieldLink "WhyNot$Machine" 50 "WhyNot$Machine" "value" "I" ∈ q_gt := (q_m3 13 rfl rfl)
theorem fX6_53 : Cond.fieldLink "WhyNot$Machine" 53 "WhyNot$Tree" "defs" "I" ∈ q_gt := (q_m1 35 rfl rfl)
theorem fX6_74 : Cond.fieldLink "WhyNot$Machine" 74 "WhyNot$Machine" "resultHead" "I" ∈ q_gt := (q_m2 237 rfl rfl)
theorem fX6_80 : Cond.fieldLink "WhyNot$Machine" 80 "WhyNot$Machine" "resultNumber" "I" ∈ q_gt := (q_m2 239 rfl rfl)
theorem fX6_142 : Cond.fieldLink "WhyNot$Machine" 142 "WhyNot$Tree" "value" "[I" ∈ q_gt := (q_m1 66 rfl rfl)
theorem fX7_9 : Cond.fieldLink "WhyNot$Reader" 9 "WhyNot$Reader" "faultAt" "I" ∈ q_gt := (q_m2 16 rfl rfl)
theorem fX7_15 : Cond.fieldLink "WhyNot$Reader" 15 "WhyNot$Reader" "ownWords" "[J" ∈ q_gt := (q_m2 27 rfl rfl)
theorem fX7_19 : Cond.fieldLink "WhyNot$Reader" 19 "WhyNot$Reader" "begun" "[I" ∈ q_gt := (q_m2 28 rfl rfl)
theorem fX7_23 : Cond.fieldLink "WhyNot$Reader" 23 "WhyNot$Reader" "within" "[I" ∈ q_gt := (q_m2 29 rfl rfl)
theorem fX7_26 : Cond.fieldLink "WhyNot$Reader" 26 "WhyNot$Reader" "choices" "[I" ∈ q_gt := (q_m2 30 rfl rfl)
theorem fX7_29 : Cond.fieldLink "WhyNot$Reader" 29 "WhyNot$Reader" "text" "[B" ∈ q_gt := (q_m2 18 rfl rfl)
theorem fX7_33 : Cond.fieldLink "WhyNot$Reader" 33 "WhyNot$Reader" "tree" "LWhyNot$Tree;" ∈ q_gt := (q_m2 26 rfl rfl)
theorem fX7_53 : Cond.fieldLink "WhyNot$Reader" 53 "WhyNot$Reader" "length" "I" ∈ q_gt := (q_m2 19 rfl rfl)
theorem fX7_60 : Cond.fieldLink "WhyNot$Reader" 60 "WhyNot$Reader" "fault" "I" ∈ q_gt := (q_m2 14 rfl rfl)
theorem fX7_63 : Cond.fieldLink "WhyNot$Reader" 63 "WhyNot$Reader" "next" "I" ∈ q_gt := (q_m2 20 rfl rfl)
theorem fX7_69 : Cond.fieldLink "WhyNot$Reader" 69 "WhyNot$Reader" "token" "I" ∈ q_gt := (q_m2 21 rfl rfl)
theorem fX7_81 : Cond.fieldLink "WhyNot$Reader" 81 "WhyNot$Reader" "tokenAt" "I" ∈ q_gt := (q_m2 22 rfl rfl)
theorem fX7_88 : Cond.fieldLink "WhyNot$Reader" 88 "WhyNot$Reader" "tokenOwn" "I" ∈ q_gt := (q_m2 25 rfl rfl)
theorem fX7_95 : Cond.fieldLink "WhyNot$Reader" 95 "WhyNot$Tree" "defs" "I" ∈ q_gt := (q_m1 38 rfl rfl)
theorem fX7_105 : Cond.fieldLink "WhyNot$Reader" 105 "WhyNot$Tree" "defWord" "[J" ∈ q_gt := (q_m1 49 rfl rfl)
theorem fX7_108 : Cond.fieldLink "WhyNot$Reader" 108 "WhyNot$Reader" "tokenWord" "J" ∈ q_gt := (q_m2 23 rfl rfl)
theorem fX7_128 : Cond.fieldLink "WhyNot$Reader" 128 "WhyNot$Tree" "sort" "[I" ∈ q_gt := (q_m1 55 rfl rfl)
theorem fX7_140 : Cond.fieldLink "WhyNot$Reader" 140 "WhyNot$Tree" "places" "I" ∈ q_gt := (q_m1 44 rfl rfl)
theorem fX7_147 : Cond.fieldLink "WhyNot$Reader" 147 "WhyNot$Tree" "start" "[I" ∈ q_gt := (q_m1 59 rfl rfl)
theorem fX7_150 : Cond.fieldLink "WhyNot$Reader" 150 "WhyNot$Tree" "value" "[I" ∈ q_gt := (q_m1 65 rfl rfl)
theorem fX7_165 : Cond.fieldLink "WhyNot$Reader" 165 "WhyNot$Reader" "tokenNumber" "I" ∈ q_gt := (q_m2 24 rfl rfl)
theorem fX7_176 : Cond.fieldLink "WhyNot$Reader" 176 "WhyNot$Tree" "target" "[I" ∈ q_gt := (q_m1 76 rfl rfl)
theorem fX7_179 : Cond.fieldLink "WhyNot$Reader" 179 "WhyNot$Tree" "word" "[J" ∈ q_gt := (q_m1 73 rfl rfl)
theorem fX7_182 : Cond.fieldLink "WhyNot$Reader" 182 "WhyNot$Tree" "kindFrom" "[I" ∈ q_gt := (q_m1 79 rfl rfl)
theorem fX7_185 : Cond.fieldLink "WhyNot$Reader" 185 "WhyNot$Tree" "kindWords" "I" ∈ q_gt := (q_m1 46 rfl rfl)
theorem fX7_188 : Cond.fieldLink "WhyNot$Reader" 188 "WhyNot$Tree" "kindHead" "[I" ∈ q_gt := (q_m1 85 rfl rfl)
theorem fX7_194 : Cond.fieldLink "WhyNot$Reader" 194 "WhyNot$Tree" "kindLength" "[I" ∈ q_gt := (q_m1 82 rfl rfl)
theorem fX8_9 : Cond.fieldLink "WhyNot$Told" 9 "WhyNot$Told" "place" "[I" ∈ q_gt := (q_m3 54 rfl rfl)
theorem fX8_15 : Cond.fieldLink "WhyNot$Told" 15 "WhyNot$Told" "from" "[I" ∈ q_gt := (q_m3 55 rfl rfl)
theorem fX8_18 : Cond.fieldLink "WhyNot$Told" 18 "WhyNot$Told" "until" "[I" ∈ q_gt := (q_m3 56 rfl rfl)
theorem fX8_21 : Cond.fieldLink "WhyNot$Told" 21 "WhyNot$Told" "count" "I" ∈ q_gt := (q_m3 52 rfl rfl)
theorem fX9_9 : Cond.fieldLink "WhyNot$Tree" 9 "WhyNot$Tree" "defWord" "[J" ∈ q_gt := (q_m1 47 rfl rfl)
theorem fX9_15 : Cond.fieldLink "WhyNot$Tree" 15 "WhyNot$Tree" "defRoot" "[I" ∈ q_gt := (q_m1 50 rfl rfl)
theorem fX9_19 : Cond.fieldLink "WhyNot$Tree" 19 "WhyNot$Tree" "sort" "[I" ∈ q_gt := (q_m1 51 rfl rfl)
theorem fX9_22 : Cond.fieldLink "WhyNot$Tree" 22 "WhyNot$Tree" "start" "[I" ∈ q_gt := (q_m1 56 rfl rfl)
theorem fX9_25 : Cond.fieldLink "WhyNot$Tree" 25 "WhyNot$Tree" "def" "[I" ∈ q_gt := (q_m1 60 rfl rfl)
theorem fX9_28 : Cond.fieldLink "WhyNot$Tree" 28 "WhyNot$Tree" "value" "[I" ∈ q_gt := (q_m1 62 rfl rfl)
theorem fX9_31 : Cond.fieldLink "WhyNot$Tree" 31 "WhyNot$Tree" "trust" "[I" ∈ q_gt := (q_m1 67 rfl rfl)
theorem fX9_34 : Cond.fieldLink "WhyNot$Tree" 34 "WhyNot$Tree" "parent" "[I" ∈ q_gt := (q_m1 70 rfl rfl)
theorem fX9_37 : Cond.fieldLink "WhyNot$Tree" 37 "WhyNot$Tree" "kids" "[I" ∈ q_gt := (q_m1 71 rfl rfl)
theorem fX9_40 : Cond.fieldLink "WhyNot$Tree" 40 "WhyNot$Tree" "word" "[J" ∈ q_gt := (q_m1 72 rfl rfl)
theorem fX9_43 : Cond.fieldLink "WhyNot$Tree" 43 "WhyNot$Tree" "target" "[I" ∈ q_gt := (q_m1 74 rfl rfl)
theorem fX9_46 : Cond.fieldLink "WhyNot$Tree" 46 "WhyNot$Tree" "kindFrom" "[I" ∈ q_gt := (q_m1 77 rfl rfl)
theorem fX9_49 : Cond.fieldLink "WhyNot$Tree" 49 "WhyNot$Tree" "kindLength" "[I" ∈ q_gt := (q_m1 80 rfl rfl)
theorem fX9_52 : Cond.fieldLink "WhyNot$Tree" 52 "WhyNot$Tree" "kindHead" "[I" ∈ q_gt := (q_m1 83 rfl rfl)
theorem fX9_55 : Cond.fieldLink "WhyNot$Tree" 55 "WhyNot$Tree" "defs" "I" ∈ q_gt := (q_m1 34 rfl rfl)
theorem fX9_59 : Cond.fieldLink "WhyNot$Tree" 59 "WhyNot$Tree" "places" "I" ∈ q_gt := (q_m1 40 rfl rfl)
theorem fX9_62 : Cond.fieldLink "WhyNot$Tree" 62 "WhyNot$Tree" "kindWords" "I" ∈ q_gt := (q_m1 45 rfl rfl)
theorem lX0_3 : Cond.methodLink "WhyNot$Askings" 3 ({ cls := "java/lang/Object", name := "<init>", desc := "()V" } : MethodName) ∈ q_gt := (q_m2 67 rfl rfl)
theorem lX0_63 : Cond.methodLink "WhyNot$Askings" 63 ({ cls := "WhyNot$Tree", name := "rootOf", desc := "(I)I" } : MethodName) ∈ q_gt := (q_m4 35 rfl rfl)
theorem lX0_67 : Cond.methodLink "WhyNot$Askings" 67 ({ cls := "WhyNot$Askings", name := "pileUp", desc := "(III)V" } : MethodName) ∈ q_gt := (q_m4 39 rfl rfl)
theorem lX0_71 : Cond.methodLink "WhyNot$Askings" 71 ({ cls := "WhyNot$Askings", name := "listOne", desc := "()V" } : MethodName) ∈ q_gt := (q_m4 43 rfl rfl)
theorem lX0_74 : Cond.methodLink "WhyNot$Askings" 74 ({ cls := "WhyNot$Tree", name := "has", desc := "(I)Z" } : MethodName) ∈ q_gt := (q_m4 47 rfl rfl)
theorem lX0_78 : Cond.methodLink "WhyNot$Askings" 78 ({ cls := "WhyNot$Askings", name := "kindNode", desc := "(I)I" } : MethodName) ∈ q_gt := (q_m4 48 rfl rfl)
theorem lX0_81 : Cond.methodLink "WhyNot$Askings" 81 ({ cls := "WhyNot$Askings", name := "setPart", desc := "(III)V" } : MethodName) ∈ q_gt := (q_m4 51 rfl rfl)
theorem lX0_84 : Cond.methodLink "WhyNot$Askings" 84 ({ cls := "WhyNot$Tree", name := "arityOf", desc := "(I)I" } : MethodName) ∈ q_gt := (q_m4 55 rfl rfl)
theorem lX0_87 : Cond.methodLink "WhyNot$Askings" 87 ({ cls := "WhyNot$Tree", name := "kidOf", desc := "(II)I" } : MethodName) ∈ q_gt := (q_m4 56 rfl rfl)
theorem lX0_94 : Cond.methodLink "WhyNot$Askings" 94 ({ cls := "WhyNot$Askings", name := "listMeant", desc := "(II)V" } : MethodName) ∈ q_gt := (q_m4 60 rfl rfl)
theorem lX0_98 : Cond.methodLink "WhyNot$Askings" 98 ({ cls := "WhyNot$Tree", name := "meantBy", desc := "(I)I" } : MethodName) ∈ q_gt := (q_m4 64 rfl rfl)
theorem lX0_101 : Cond.methodLink "WhyNot$Askings" 101 ({ cls := "WhyNot$Tree", name := "targetOf", desc := "(I)I" } : MethodName) ∈ q_gt := (q_m4 74 rfl rfl)
theorem lX0_104 : Cond.methodLink "WhyNot$Askings" 104 ({ cls := "WhyNot$Askings", name := "boundNode", desc := "(I)I" } : MethodName) ∈ q_gt := (q_m4 75 rfl rfl)
theorem lX0_107 : Cond.methodLink "WhyNot$Askings" 107 ({ cls := "WhyNot$Tree", name := "all", desc := "()J" } : MethodName) ∈ q_gt := (q_m4 122 rfl rfl)
theorem lX0_111 : Cond.methodLink "WhyNot$Askings" 111 ({ cls := "WhyNot$Askings", name := "clashOf", desc := "(J)Z" } : MethodName) ∈ q_gt := (q_m4 126 rfl rfl)
theorem lX0_118 : Cond.methodLink "WhyNot$Askings" 118 ({ cls := "WhyNot$Askings", name := "allFit", desc := "()Z" } : MethodName) ∈ q_gt := (q_m4 215 rfl rfl)
theorem lX0_122 : Cond.methodLink "WhyNot$Askings" 122 ({ cls := "WhyNot$Askings", name := "coreWithin", desc := "(J)J" } : MethodName) ∈ q_gt := (q_m4 216 rfl rfl)
theorem lX0_132 : Cond.methodLink "WhyNot$Askings" 132 ({ cls := "WhyNot$Askings", name := "nodeOf", desc := "(I)I" } : MethodName) ∈ q_gt := (q_m4 229 rfl rfl)
theorem lX0_135 : Cond.methodLink "WhyNot$Askings" 135 ({ cls := "WhyNot$Kinds", name := "join", desc := "(II)Z" } : MethodName) ∈ q_gt := (q_m4 143 rfl rfl)
theorem lX0_141 : Cond.methodLink "WhyNot$Askings" 141 ({ cls := "WhyNot$Kinds", name := "hasRing", desc := "()Z" } : MethodName) ∈ q_gt := (q_m4 167 rfl rfl)
theorem lX0_144 : Cond.methodLink "WhyNot$Askings" 144 ({ cls := "WhyNot$Kinds", name := "begin", desc := "(I)V" } : MethodName) ∈ q_gt := (q_m4 130 rfl rfl)
theorem lX0_148 : Cond.methodLink "WhyNot$Askings" 148 ({ cls := "WhyNot$Askings", name := "ask", desc := "(I)Z" } : MethodName) ∈ q_gt := (q_m4 138 rfl rfl)
theorem lX0_151 : Cond.methodLink "WhyNot$Askings" 151 ({ cls := "WhyNot$Tree", name := "sortOf", desc := "(I)I" } : MethodName) ∈ q_gt := (q_m4 142 rfl rfl)
theorem lX0_160 : Cond.methodLink "WhyNot$Askings" 160 ({ cls := "WhyNot$Kinds", name := "make", desc := "(III)I" } : MethodName) ∈ q_gt := (q_m4 157 rfl rfl)
theorem lX0_164 : Cond.methodLink "WhyNot$Askings" 164 ({ cls := "WhyNot$Kinds", name := "makeOpen", desc := "()I" } : MethodName) ∈ q_gt := (q_m4 158 rfl rfl)
theorem lX0_168 : Cond.methodLink "WhyNot$Askings" 168 ({ cls := "WhyNot$Kinds", name := "makeTold", desc := "(LWhyNot$Tree;I)I" } : MethodName) ∈ q_gt := (q_m4 162 rfl rfl)
theorem lX1_3 : Cond.methodLink "WhyNot$CheapestMend" 3 ({ cls := "java/lang/Object", name := "<init>", desc := "()V" } : MethodName) ∈ q_gt := (q_m2 153 rfl rfl)
theorem lX1_55 : Cond.methodLink "WhyNot$CheapestMend" 55 ({ cls := "WhyNot$CheapestMend", name := "begin", desc := "()V" } : MethodName) ∈ q_gt := (q_m5 38 rfl rfl)
theorem lX1_59 : Cond.methodLink "WhyNot$CheapestMend" 59 ({ cls := "WhyNot$CheapestMend", name := "branches", desc := "(I)J" } : MethodName) ∈ q_gt := (q_m5 44 rfl rfl)
theorem lX1_65 : Cond.methodLink "WhyNot$CheapestMend" 65 ({ cls := "WhyNot$Tree", name := "all", desc := "()J" } : MethodName) ∈ q_gt := (q_m5 42 rfl rfl)
theorem lX1_69 : Cond.methodLink "WhyNot$CheapestMend" 69 ({ cls := "WhyNot$Askings", name := "coreWithin", desc := "(J)J" } : MethodName) ∈ q_gt := (q_m5 60 rfl rfl)
theorem lX1_75 : Cond.methodLink "WhyNot$CheapestMend" 75 ({ cls := "WhyNot$CheapestMend", name := "learn", desc := "(IJ)J" } : MethodName) ∈ q_gt := (q_m5 61 rfl rfl)
theorem lX1_79 : Cond.methodLink "WhyNot$CheapestMend" 79 ({ cls := "WhyNot$CheapestMend", name := "descend", desc := "(I)I" } : MethodName) ∈ q_gt := (q_m5 65 rfl rfl)
theorem lX1_91 : Cond.methodLink "WhyNot$CheapestMend" 91 ({ cls := "WhyNot$CheapestMend", name := "leastWeight", desc := "(J)J" } : MethodName) ∈ q_gt := (q_m5 49 rfl rfl)
theorem lX1_94 : Cond.methodLink "WhyNot$CheapestMend" 94 ({ cls := "java/lang/Long", name := "bitCount", desc := "(J)I" } : MethodName) ∈ q_gt := (q_m5 54 rfl rfl)
theorem lX10_1 : Cond.methodLink "WhyNot" 1 ({ cls := "java/lang/Object", name := "<init>", desc := "()V" } : MethodName) ∈ q_gt := (q_m1 25 rfl rfl)
theorem lX10_37 : Cond.methodLink "WhyNot" 37 ({ cls := "WhyNot$Reader", name := "<init>", desc := "([BLWhyNot$Tree;)V" } : MethodName) ∈ q_gt := (q_m1 197 rfl rfl)
theorem lX10_46 : Cond.methodLink "WhyNot" 46 ({ cls := "WhyNot$Askings", name := "<init>", desc := "(LWhyNot$Tree;LWhyNot$Kinds;)V" } : MethodName) ∈ q_gt := (q_m2 64 rfl rfl)
theorem lX10_58 : Cond.methodLink "WhyNot" 58 ({ cls := "WhyNot$LeastSets", name := "<init>", desc := "(LWhyNot$Askings;)V" } : MethodName) ∈ q_gt := (q_m2 122 rfl rfl)
theorem lX10_67 : Cond.methodLink "WhyNot" 67 ({ cls := "WhyNot$CheapestMend", name := "<init>", desc := "(LWhyNot$Tree;LWhyNot$Askings;)V" } : MethodName) ∈ q_gt := (q_m2 150 rfl rfl)
theorem lX10_76 : Cond.methodLink "WhyNot" 76 ({ cls := "WhyNot$HintList", name := "<init>", desc := "(LWhyNot$Tree;LWhyNot$Draft;LWhyNot$Askings;)V" } : MethodName) ∈ q_gt := (q_m2 197 rfl rfl)
theorem lX10_85 : Cond.methodLink "WhyNot" 85 ({ cls := "WhyNot$Machine", name := "<init>", desc := "(LWhyNot$Tree;)V" } : MethodName) ∈ q_gt := (q_m2 233 rfl rfl)
theorem lX10_111 : Cond.methodLink "WhyNot" 111 ({ cls := "WhyNot", name := "tapeNumber", desc := "(I)V" } : MethodName) ∈ q_gt := (q_m3 121 rfl rfl)
theorem lX10_115 : Cond.methodLink "WhyNot" 115 ({ cls := "WhyNot$Reader", name := "readText", desc := "(I)Z" } : MethodName) ∈ q_gt := (q_m3 133 rfl rfl)
theorem lX10_119 : Cond.methodLink "WhyNot" 119 ({ cls := "WhyNot$Askings", name := "list", desc := "()V" } : MethodName) ∈ q_gt := (q_m4 31 rfl rfl)
theorem lX10_126 : Cond.methodLink "WhyNot" 126 ({ cls := "WhyNot$Reader", name := "refuseAskings", desc := "(I)V" } : MethodName) ∈ q_gt := (q_m4 78 rfl rfl)
theorem lX10_129 : Cond.methodLink "WhyNot" 129 ({ cls := "WhyNot", name := "goOnWith", desc := "(LWhyNot$Tree;)I" } : MethodName) ∈ q_gt := (q_m4 82 rfl rfl)
theorem lX10_139 : Cond.methodLink "WhyNot" 139 ({ cls := "WhyNot$Tree", name := "has", desc := "(I)Z" } : MethodName) ∈ q_gt := (q_m4 113 rfl rfl)
theorem lX10_155 : Cond.methodLink "WhyNot" 155 ({ cls := "WhyNot$Askings", name := "allFit", desc := "()Z" } : MethodName) ∈ q_gt := (q_m4 118 rfl rfl)
theorem lX10_159 : Cond.methodLink "WhyNot" 159 ({ cls := "WhyNot$Tree", name := "all", desc := "()J" } : MethodName) ∈ q_gt := (q_m4 183 rfl rfl)
theorem lX10_163 : Cond.methodLink "WhyNot" 163 ({ cls := "WhyNot$Askings", name := "clashOf", desc := "(J)Z" } : MethodName) ∈ q_gt := (q_m4 184 rfl rfl)
theorem lX10_167 : Cond.methodLink "WhyNot" 167 ({ cls := "WhyNot$Askings", name := "nodeOf", desc := "(I)I" } : MethodName) ∈ q_gt := (q_m4 185 rfl rfl)
theorem lX10_171 : Cond.methodLink "WhyNot" 171 ({ cls := "WhyNot$Kinds", name := "numberAt", desc := "(II)I" } : MethodName) ∈ q_gt := (q_m4 189 rfl rfl)
theorem lX10_175 : Cond.methodLink "WhyNot" 175 ({ cls := "WhyNot$Tree", name := "hasAll", desc := "(J)Z" } : MethodName) ∈ q_gt := (q_m4 201 rfl rfl)
theorem lX10_178 : Cond.methodLink "WhyNot" 178 ({ cls := "WhyNot$Askings", name := "coreOfAll", desc := "()J" } : MethodName) ∈ q_gt := (q_m4 211 rfl rfl)
theorem lX10_181 : Cond.methodLink "WhyNot" 181 ({ cls := "WhyNot$Askings", name := "meet", desc := "(II)Z" } : MethodName) ∈ q_gt := (q_m4 225 rfl rfl)
theorem lX10_188 : Cond.methodLink "WhyNot" 188 ({ cls := "WhyNot$LeastSets", name := "find", desc := "(I)V" } : MethodName) ∈ q_gt := (q_m4 234 rfl rfl)
theorem lX10_196 : Cond.methodLink "WhyNot" 196 ({ cls := "WhyNot$LeastSets", name := "clashAt", desc := "(I)J" } : MethodName) ∈ q_gt := (q_m5 20 rfl rfl)
theorem lX10_209 : Cond.methodLink "WhyNot" 209 ({ cls := "WhyNot$CheapestMend", name := "find", desc := "()J" } : MethodName) ∈ q_gt := (q_m5 34 rfl rfl)
theorem lX10_214 : Cond.methodLink "WhyNot" 214 ({ cls := "WhyNot$LeastSets", name := "mendNumbered", desc := "(I)J" } : MethodName) ∈ q_gt := (q_m5 77 rfl rfl)
theorem lX10_217 : Cond.methodLink "WhyNot" 217 ({ cls := "WhyNot$HintList", name := "list", desc := "(J)V" } : MethodName) ∈ q_gt := (q_m5 88 rfl rfl)
theorem lX10_223 : Cond.methodLink "WhyNot" 223 ({ cls := "WhyNot$HintList", name := "has", desc := "(I)Z" } : MethodName) ∈ q_gt := (q_m5 147 rfl rfl)
theorem lX10_233 : Cond.methodLink "WhyNot" 233 ({ cls := "WhyNot$Draft", name := "write", desc := "(LWhyNot$Tree;III)V" } : MethodName) ∈ q_gt := (q_m5 155 rfl rfl)
theorem lX10_240 : Cond.methodLink "WhyNot" 240 ({ cls := "WhyNot$Machine", name := "work", desc := "()V" } : MethodName) ∈ q_gt := (q_m5 160 rfl rfl)
theorem lX10_252 : Cond.methodLink "WhyNot" 252 ({ cls := "WhyNot$Told", name := "tell", desc := "(II)I" } : MethodName) ∈ q_gt := (q_m6 12 rfl rfl)
theorem lX10_255 : Cond.methodLink "WhyNot" 255 ({ cls := "WhyNot$Told", name := "takeBack", desc := "(II)Z" } : MethodName) ∈ q_gt := (q_m6 20 rfl rfl)
theorem lX10_259 : Cond.methodLink "WhyNot" 259 ({ cls := "WhyNot$Told", name := "countingAt", desc := "(I)J" } : MethodName) ∈ q_gt := (q_m6 33 rfl rfl)
theorem lX10_262 : Cond.methodLink "WhyNot" 262 ({ cls := "WhyNot$LeastSets", name := "countBeside", desc := "(J)I" } : MethodName) ∈ q_gt := (q_m6 37 rfl rfl)
theorem lX10_266 : Cond.methodLink "WhyNot" 266 ({ cls := "WhyNot$LeastSets", name := "commonBeside", desc := "(J)J" } : MethodName) ∈ q_gt := (q_m6 45 rfl rfl)
theorem lX10_270 : Cond.methodLink "WhyNot" 270 ({ cls := "WhyNot$Tree", name := "copyFrom", desc := "(LWhyNot$Tree;)V" } : MethodName) ∈ q_gt := (q_m4 86 rfl rfl)
theorem lX10_275 : Cond.methodLink "WhyNot" 275 ({ cls := "WhyNot$Tree", name := "trustOfAll", desc := "()I" } : MethodName) ∈ q_gt := (q_m6 61 rfl rfl)
theorem lX10_279 : Cond.methodLink "WhyNot" 279 ({ cls := "WhyNot$Told", name := "forget", desc := "()V" } : MethodName) ∈ q_gt := (q_m4 97 rfl rfl)
theorem lX10_283 : Cond.methodLink "WhyNot" 283 ({ cls := "WhyNot$CheapestMend", name := "forget", desc := "()V" } : MethodName) ∈ q_gt := (q_m4 101 rfl rfl)
theorem lX11_1 : Cond.methodLink "WhyNotModel" 1 ({ cls := "java/lang/Object", name := "<init>", desc := "()V" } : MethodName) ∈ q_gt := (q_m6 70 rfl rfl)
theorem lX11_212 : Cond.methodLink "WhyNotModel" 212 ({ cls := "WhyNotModel", name := "clearBank", desc := "(I)V" } : MethodName) ∈ q_gt := (q_m6 71 rfl rfl)
theorem lX11_216 : Cond.methodLink "WhyNotModel" 216 ({ cls := "WhyNotModel", name := "begin", desc := "()V" } : MethodName) ∈ q_gt := (q_m6 75 rfl rfl)
theorem lX11_279 : Cond.methodLink "WhyNotModel" 279 ({ cls := "WhyNotModel", name := "sign", desc := "(I)I" } : MethodName) ∈ q_gt := (q_m7 142 rfl rfl)
theorem lX11_286 : Cond.methodLink "WhyNotModel" 286 ({ cls := "WhyNotModel", name := "isLetter", desc := "(I)Z" } : MethodName) ∈ q_gt := (q_m7 146 rfl rfl)
theorem lX11_294 : Cond.methodLink "WhyNotModel" 294 ({ cls := "WhyNotModel", name := "isKept", desc := "(J)Z" } : MethodName) ∈ q_gt := (q_m7 149 rfl rfl)
theorem lX11_298 : Cond.methodLink "WhyNotModel" 298 ({ cls := "WhyNotModel", name := "isDigit", desc := "(I)Z" } : MethodName) ∈ q_gt := (q_m7 176 rfl rfl)
theorem lX11_304 : Cond.methodLink "WhyNotModel" 304 ({ cls := "WhyNotModel", name := "fails", desc := "(II)V" } : MethodName) ∈ q_gt := (q_m7 195 rfl rfl)
theorem lX11_308 : Cond.methodLink "WhyNotModel" 308 ({ cls := "WhyNotModel", name := "isGood", desc := "()Z" } : MethodName) ∈ q_gt := (q_m7 179 rfl rfl)
theorem lX11_312 : Cond.methodLink "WhyNotModel" 312 ({ cls := "WhyNotModel", name := "goOn", desc := "()V" } : MethodName) ∈ q_gt := (q_m7 138 rfl rfl)
theorem lX11_315 : Cond.methodLink "WhyNotModel" 315 ({ cls := "WhyNotModel", name := "misplaced", desc := "()V" } : MethodName) ∈ q_gt := (q_m7 191 rfl rfl)
theorem lX11_327 : Cond.methodLink "WhyNotModel" 327 ({ cls := "WhyNotModel", name := "readDef", desc := "()V" } : MethodName) ∈ q_gt := (q_m7 183 rfl rfl)
theorem lX11_330 : Cond.methodLink "WhyNotModel" 330 ({ cls := "WhyNotModel", name := "asksOf", desc := "(I)I" } : MethodName) ∈ q_gt := (q_m8 7 rfl rfl)
theorem lX11_333 : Cond.methodLink "WhyNotModel" 333 ({ cls := "WhyNotModel", name := "isWord", desc := "(J)Z" } : MethodName) ∈ q_gt := (q_m7 187 rfl rfl)
theorem lX11_336 : Cond.methodLink "WhyNotModel" 336 ({ cls := "WhyNotModel", name := "readE", desc := "()V" } : MethodName) ∈ q_gt := (q_m7 199 rfl rfl)
theorem lX11_339 : Cond.methodLink "WhyNotModel" 339 ({ cls := "WhyNotModel", name := "must", desc := "(Z)V" } : MethodName) ∈ q_gt := (q_m7 219 rfl rfl)
theorem lX11_346 : Cond.methodLink "WhyNotModel" 346 ({ cls := "WhyNotModel", name := "beginsPlace", desc := "()Z" } : MethodName) ∈ q_gt := (q_m7 203 rfl rfl)
theorem lX11_349 : Cond.methodLink "WhyNotModel" 349 ({ cls := "WhyNotModel", name := "endsPlace", desc := "()Z" } : MethodName) ∈ q_gt := (q_m7 234 rfl rfl)
theorem lX11_352 : Cond.methodLink "WhyNotModel" 352 ({ cls := "WhyNotModel", name := "sortHere", desc := "()I" } : MethodName) ∈ q_gt := (q_m7 207 rfl rfl)
theorem lX11_356 : Cond.methodLink "WhyNotModel" 356 ({ cls := "WhyNotModel", name := "meant", desc := "()I" } : MethodName) ∈ q_gt := (q_m7 211 rfl rfl)
theorem lX11_359 : Cond.methodLink "WhyNotModel" 359 ({ cls := "WhyNotModel", name := "readWord", desc := "(I)V" } : MethodName) ∈ q_gt := (q_m7 215 rfl rfl)
theorem lX11_362 : Cond.methodLink "WhyNotModel" 362 ({ cls := "WhyNotModel", name := "readKind", desc := "(I)V" } : MethodName) ∈ q_gt := (q_m7 223 rfl rfl)
theorem lX11_365 : Cond.methodLink "WhyNotModel" 365 ({ cls := "WhyNotModel", name := "kidsOf", desc := "(I)I" } : MethodName) ∈ q_gt := (q_m7 231 rfl rfl)
theorem lX11_368 : Cond.methodLink "WhyNotModel" 368 ({ cls := "WhyNotModel", name := "asksHere", desc := "(II)I" } : MethodName) ∈ q_gt := (q_m7 238 rfl rfl)
theorem lX11_372 : Cond.methodLink "WhyNotModel" 372 ({ cls := "WhyNotModel", name := "rootOf", desc := "(II)I" } : MethodName) ∈ q_gt := (q_m8 2 rfl rfl)
theorem lX11_376 : Cond.methodLink "WhyNotModel" 376 ({ cls := "WhyNotModel", name := "kindHere", desc := "()I" } : MethodName) ∈ q_gt := (q_m7 227 rfl rfl)
theorem lX11_379 : Cond.methodLink "WhyNotModel" 379 ({ cls := "WhyNotModel", name := "isIn", desc := "(III)Z" } : MethodName) ∈ q_gt := (q_m8 23 rfl rfl)
theorem lX11_383 : Cond.methodLink "WhyNotModel" 383 ({ cls := "WhyNotModel", name := "isPlace", desc := "(I)Z" } : MethodName) ∈ q_gt := (q_m8 19 rfl rfl)
theorem lX11_389 : Cond.methodLink "WhyNotModel" 389 ({ cls := "WhyNotModel", name := "term", desc := "(III)I" } : MethodName) ∈ q_gt := (q_m8 38 rfl rfl)
theorem lX11_399 : Cond.methodLink "WhyNotModel" 399 ({ cls := "WhyNotModel", name := "openTerm", desc := "()I" } : MethodName) ∈ q_gt := (q_m8 46 rfl rfl)
theorem lX11_408 : Cond.methodLink "WhyNotModel" 408 ({ cls := "WhyNotModel", name := "beginsLay", desc := "(III)I" } : MethodName) ∈ q_gt := (q_m8 42 rfl rfl)
theorem lX11_411 : Cond.methodLink "WhyNotModel" 411 ({ cls := "WhyNotModel", name := "layPlace", desc := "(III)V" } : MethodName) ∈ q_gt := (q_m8 50 rfl rfl)
theorem lX11_415 : Cond.methodLink "WhyNotModel" 415 ({ cls := "WhyNotModel", name := "kindOf", desc := "(II)I" } : MethodName) ∈ q_gt := (q_m8 54 rfl rfl)
theorem lX11_418 : Cond.methodLink "WhyNotModel" 418 ({ cls := "WhyNotModel", name := "kidKind", desc := "(IIII)I" } : MethodName) ∈ q_gt := (q_m8 58 rfl rfl)
theorem lX11_422 : Cond.methodLink "WhyNotModel" 422 ({ cls := "WhyNotModel", name := "ask", desc := "(III)V" } : MethodName) ∈ q_gt := (q_m8 62 rfl rfl)
theorem lX11_425 : Cond.methodLink "WhyNotModel" 425 ({ cls := "WhyNotModel", name := "layName", desc := "(III)V" } : MethodName) ∈ q_gt := (q_m8 66 rfl rfl)
theorem lX11_428 : Cond.methodLink "WhyNotModel" 428 ({ cls := "WhyNotModel", name := "layRowed", desc := "(IIIIII)V" } : MethodName) ∈ q_gt := (q_m8 74 rfl rfl)
theorem lX11_432 : Cond.methodLink "WhyNotModel" 432 ({ cls := "WhyNotModel", name := "toldKind", desc := "(II)I" } : MethodName) ∈ q_gt := (q_m8 78 rfl rfl)
theorem lX11_435 : Cond.methodLink "WhyNotModel" 435 ({ cls := "WhyNotModel", name := "layOf", desc := "(III)I" } : MethodName) ∈ q_gt := (q_m8 70 rfl rfl)
theorem lX11_438 : Cond.methodLink "WhyNotModel" 438 ({ cls := "WhyNotModel", name := "find", desc := "(I)I" } : MethodName) ∈ q_gt := (q_m8 98 rfl rfl)
theorem lX11_441 : Cond.methodLink "WhyNotModel" 441 ({ cls := "WhyNotModel", name := "isMade", desc := "(I)Z" } : MethodName) ∈ q_gt := (q_m8 102 rfl rfl)
theorem lX11_444 : Cond.methodLink "WhyNotModel" 444 ({ cls := "WhyNotModel", name := "takesOff", desc := "(II)I" } : MethodName) ∈ q_gt := (q_m8 109 rfl rfl)
theorem lX11_447 : Cond.methodLink "WhyNotModel" 447 ({ cls := "WhyNotModel", name := "unite", desc := "(II)Z" } : MethodName) ∈ q_gt := (q_m8 94 rfl rfl)
theorem lX11_451 : Cond.methodLink "WhyNotModel" 451 ({ cls := "WhyNotModel", name := "isSound", desc := "()Z" } : MethodName) ∈ q_gt := (q_m8 105 rfl rfl)
theorem lX11_454 : Cond.methodLink "WhyNotModel" 454 ({ cls := "WhyNotModel", name := "layOut", desc := "(I)V" } : MethodName) ∈ q_gt := (q_m8 34 rfl rfl)
theorem lX11_457 : Cond.methodLink "WhyNotModel" 457 ({ cls := "WhyNotModel", name := "makes", desc := "(J)Z" } : MethodName) ∈ q_gt := (q_m8 90 rfl rfl)
theorem lX11_460 : Cond.methodLink "WhyNotModel" 460 ({ cls := "WhyNotModel", name := "layNow", desc := "()V" } : MethodName) ∈ q_gt := (q_m8 30 rfl rfl)
theorem lX11_463 : Cond.methodLink "WhyNotModel" 463 ({ cls := "WhyNotModel", name := "allPlaces", desc := "()J" } : MethodName) ∈ q_gt := (q_m8 82 rfl rfl)
theorem lX11_467 : Cond.methodLink "WhyNotModel" 467 ({ cls := "WhyNotModel", name := "clash", desc := "(J)Z" } : MethodName) ∈ q_gt := (q_m8 86 rfl rfl)
theorem lX11_470 : Cond.methodLink "WhyNotModel" 470 ({ cls := "WhyNotModel", name := "standsAs", desc := "(I)I" } : MethodName) ∈ q_gt := (q_m8 121 rfl rfl)
theorem lX11_475 : Cond.methodLink "WhyNotModel" 475 ({ cls := "WhyNotModel", name := "coreOf", desc := "(J)J" } : MethodName) ∈ q_gt := (q_m8 133 rfl rfl)
theorem lX11_479 : Cond.methodLink "WhyNotModel" 479 ({ cls := "WhyNotModel", name := "isMend", desc := "(I)Z" } : MethodName) ∈ q_gt := (q_m8 150 rfl rfl)
theorem lX11_482 : Cond.methodLink "WhyNotModel" 482 ({ cls := "WhyNotModel", name := "isCore", desc := "(I)Z" } : MethodName) ∈ q_gt := (q_m8 154 rfl rfl)
theorem lX11_485 : Cond.methodLink "WhyNotModel" 485 ({ cls := "WhyNotModel", name := "layClashes", desc := "()Z" } : MethodName) ∈ q_gt := (q_m8 142 rfl rfl)
theorem lX11_488 : Cond.methodLink "WhyNotModel" 488 ({ cls := "WhyNotModel", name := "counted", desc := "(ZI)I" } : MethodName) ∈ q_gt := (q_m8 146 rfl rfl)
theorem lX11_505 : Cond.methodLink "WhyNotModel" 505 ({ cls := "WhyNotModel", name := "wholeTrust", desc := "()I" } : MethodName) ∈ q_gt := (q_m8 183 rfl rfl)
theorem lX11_508 : Cond.methodLink "WhyNotModel" 508 ({ cls := "WhyNotModel", name := "level", desc := "(I)V" } : MethodName) ∈ q_gt := (q_m8 187 rfl rfl)
theorem lX11_513 : Cond.methodLink "WhyNotModel" 513 ({ cls := "WhyNotModel", name := "findCheapest", desc := "()V" } : MethodName) ∈ q_gt := (q_m8 179 rfl rfl)
theorem lX11_519 : Cond.methodLink "WhyNotModel" 519 ({ cls := "WhyNotModel", name := "means", desc := "(IJ)V" } : MethodName) ∈ q_gt := (q_m8 238 rfl rfl)
theorem lX11_523 : Cond.methodLink "WhyNotModel" 523 ({ cls := "WhyNotModel", name := "wordOf", desc := "(I)J" } : MethodName) ∈ q_gt := (q_m8 222 rfl rfl)
theorem lX11_527 : Cond.methodLink "WhyNotModel" 527 ({ cls := "WhyNotModel", name := "takes", desc := "(I)V" } : MethodName) ∈ q_gt := (q_m8 214 rfl rfl)
theorem lX11_530 : Cond.methodLink "WhyNotModel" 530 ({ cls := "WhyNotModel", name := "changed", desc := "(II)V" } : MethodName) ∈ q_gt := (q_m8 218 rfl rfl)
theorem lX11_533 : Cond.methodLink "WhyNotModel" 533 ({ cls := "WhyNotModel", name := "kidBy", desc := "(IIII)I" } : MethodName) ∈ q_gt := (q_m8 226 rfl rfl)
theorem lX11_536 : Cond.methodLink "WhyNotModel" 536 ({ cls := "WhyNotModel", name := "layEnds", desc := "(I)V" } : MethodName) ∈ q_gt := (q_m8 230 rfl rfl)
theorem lX11_539 : Cond.methodLink "WhyNotModel" 539 ({ cls := "WhyNotModel", name := "change", desc := "(III)V" } : MethodName) ∈ q_gt := (q_m8 210 rfl rfl)
theorem lX11_545 : Cond.methodLink "WhyNotModel" 545 ({ cls := "WhyNotModel", name := "isHint", desc := "(III)Z" } : MethodName) ∈ q_gt := (q_m8 206 rfl rfl)
theorem lX11_548 : Cond.methodLink "WhyNotModel" 548 ({ cls := "WhyNotModel", name := "canTurn", desc := "(I)Z" } : MethodName) ∈ q_gt := (q_m8 199 rfl rfl)
theorem lX11_551 : Cond.methodLink "WhyNotModel" 551 ({ cls := "WhyNotModel", name := "adds", desc := "(III)V" } : MethodName) ∈ q_gt := (q_m8 202 rfl rfl)
theorem lX11_554 : Cond.methodLink "WhyNotModel" 554 ({ cls := "WhyNotModel", name := "layMeant", desc := "(I)V" } : MethodName) ∈ q_gt := (q_m8 234 rfl rfl)
theorem lX11_557 : Cond.methodLink "WhyNotModel" 557 ({ cls := "WhyNotModel", name := "findHints", desc := "()V" } : MethodName) ∈ q_gt := (q_m8 195 rfl rfl)
theorem lX11_563 : Cond.methodLink "WhyNotModel" 563 ({ cls := "WhyNotModel", name := "copyPlace", desc := "(II)V" } : MethodName) ∈ q_gt := (q_m9 14 rfl rfl)
theorem lX11_566 : Cond.methodLink "WhyNotModel" 566 ({ cls := "WhyNotModel", name := "copyBank", desc := "(II)V" } : MethodName) ∈ q_gt := (q_m9 10 rfl rfl)
theorem lX11_584 : Cond.methodLink "WhyNotModel" 584 ({ cls := "WhyNotModel", name := "works", desc := "(II)V" } : MethodName) ∈ q_gt := (q_m9 26 rfl rfl)
theorem lX11_587 : Cond.methodLink "WhyNotModel" 587 ({ cls := "WhyNotModel", name := "step", desc := "()V" } : MethodName) ∈ q_gt := (q_m9 30 rfl rfl)
theorem lX11_590 : Cond.methodLink "WhyNotModel" 590 ({ cls := "WhyNotModel", name := "stepLeaf", desc := "(IIII)V" } : MethodName) ∈ q_gt := (q_m9 34 rfl rfl)
theorem lX11_594 : Cond.methodLink "WhyNotModel" 594 ({ cls := "WhyNotModel", name := "valueOf", desc := "(IIII)I" } : MethodName) ∈ q_gt := (q_m9 38 rfl rfl)
theorem lX11_597 : Cond.methodLink "WhyNotModel" 597 ({ cls := "WhyNotModel", name := "gives", desc := "(I)V" } : MethodName) ∈ q_gt := (q_m9 42 rfl rfl)
theorem lX11_600 : Cond.methodLink "WhyNotModel" 600 ({ cls := "WhyNotModel", name := "stepIf", desc := "(III)V" } : MethodName) ∈ q_gt := (q_m9 46 rfl rfl)
theorem lX11_606 : Cond.methodLink "WhyNotModel" 606 ({ cls := "WhyNotModel", name := "call", desc := "(I)V" } : MethodName) ∈ q_gt := (q_m9 50 rfl rfl)
theorem lX11_609 : Cond.methodLink "WhyNotModel" 609 ({ cls := "WhyNotModel", name := "doOne", desc := "(I)V" } : MethodName) ∈ q_gt := (q_m9 54 rfl rfl)
theorem lX11_612 : Cond.methodLink "WhyNotModel" 612 ({ cls := "WhyNotModel", name := "doTwo", desc := "(III)V" } : MethodName) ∈ q_gt := (q_m9 58 rfl rfl)
theorem lX11_615 : Cond.methodLink "WhyNotModel" 615 ({ cls := "WhyNotModel", name := "runs", desc := "()V" } : MethodName) ∈ q_gt := (q_m9 22 rfl rfl)
theorem lX11_628 : Cond.methodLink "WhyNotModel" 628 ({ cls := "WhyNotModel", name := "layLeft", desc := "(I)Z" } : MethodName) ∈ q_gt := (q_m9 79 rfl rfl)
theorem lX2_3 : Cond.methodLink "WhyNot$Draft" 3 ({ cls := "java/lang/Object", name := "<init>", desc := "()V" } : MethodName) ∈ q_gt := (q_m1 129 rfl rfl)
theorem lX2_34 : Cond.methodLink "WhyNot$Draft" 34 ({ cls := "WhyNot$Tree", name := "sortOf", desc := "(I)I" } : MethodName) ∈ q_gt := (q_m5 96 rfl rfl)
theorem lX2_38 : Cond.methodLink "WhyNot$Draft" 38 ({ cls := "WhyNot$Draft", name := "swaps", desc := "(I)Z" } : MethodName) ∈ q_gt := (q_m5 97 rfl rfl)
theorem lX2_42 : Cond.methodLink "WhyNot$Draft" 42 ({ cls := "WhyNot$Tree", name := "choicesAt", desc := "(I[I)I" } : MethodName) ∈ q_gt := (q_m5 100 rfl rfl)
theorem lX2_46 : Cond.methodLink "WhyNot$Draft" 46 ({ cls := "WhyNot$Tree", name := "clear", desc := "()V" } : MethodName) ∈ q_gt := (q_m5 105 rfl rfl)
theorem lX2_49 : Cond.methodLink "WhyNot$Draft" 49 ({ cls := "WhyNot$Tree", name := "copyKindWords", desc := "(LWhyNot$Tree;)V" } : MethodName) ∈ q_gt := (q_m5 106 rfl rfl)
theorem lX2_64 : Cond.methodLink "WhyNot$Draft" 64 ({ cls := "WhyNot$Tree", name := "rootOf", desc := "(I)I" } : MethodName) ∈ q_gt := (q_m5 107 rfl rfl)
theorem lX2_67 : Cond.methodLink "WhyNot$Draft" 67 ({ cls := "WhyNot$Draft", name := "pileUp", desc := "(III)V" } : MethodName) ∈ q_gt := (q_m5 108 rfl rfl)
theorem lX2_71 : Cond.methodLink "WhyNot$Draft" 71 ({ cls := "WhyNot$Tree", name := "add", desc := "(III)I" } : MethodName) ∈ q_gt := (q_m5 112 rfl rfl)
theorem lX2_75 : Cond.methodLink "WhyNot$Draft" 75 ({ cls := "WhyNot$Draft", name := "writePlace", desc := "(LWhyNot$Tree;II)V" } : MethodName) ∈ q_gt := (q_m5 113 rfl rfl)
theorem lX2_79 : Cond.methodLink "WhyNot$Draft" 79 ({ cls := "WhyNot$Draft", name := "changePlace", desc := "(LWhyNot$Tree;III)V" } : MethodName) ∈ q_gt := (q_m5 126 rfl rfl)
theorem lX2_83 : Cond.methodLink "WhyNot$Draft" 83 ({ cls := "WhyNot$Draft", name := "pileKids", desc := "(LWhyNot$Tree;II)V" } : MethodName) ∈ q_gt := (q_m5 130 rfl rfl)
theorem lX2_86 : Cond.methodLink "WhyNot$Draft" 86 ({ cls := "WhyNot$Tree", name := "has", desc := "(I)Z" } : MethodName) ∈ q_gt := (q_m5 117 rfl rfl)
theorem lX2_89 : Cond.methodLink "WhyNot$Draft" 89 ({ cls := "WhyNot$Tree", name := "copyPlace", desc := "(LWhyNot$Tree;II)V" } : MethodName) ∈ q_gt := (q_m5 118 rfl rfl)
theorem lX2_95 : Cond.methodLink "WhyNot$Draft" 95 ({ cls := "WhyNot$Draft", name := "movedTo", desc := "(I)I" } : MethodName) ∈ q_gt := (q_m5 122 rfl rfl)
theorem lX2_107 : Cond.methodLink "WhyNot$Draft" 107 ({ cls := "WhyNot$Tree", name := "arityOf", desc := "(I)I" } : MethodName) ∈ q_gt := (q_m5 134 rfl rfl)
theorem lX2_110 : Cond.methodLink "WhyNot$Draft" 110 ({ cls := "WhyNot$Tree", name := "kidOf", desc := "(II)I" } : MethodName) ∈ q_gt := (q_m5 135 rfl rfl)
theorem lX3_3 : Cond.methodLink "WhyNot$HintList" 3 ({ cls := "java/lang/Object", name := "<init>", desc := "()V" } : MethodName) ∈ q_gt := (q_m2 200 rfl rfl)
theorem lX3_46 : Cond.methodLink "WhyNot$HintList" 46 ({ cls := "WhyNot$Draft", name := "ways", desc := "(LWhyNot$Tree;II)I" } : MethodName) ∈ q_gt := (q_m5 92 rfl rfl)
theorem lX3_52 : Cond.methodLink "WhyNot$HintList" 52 ({ cls := "WhyNot$Draft", name := "write", desc := "(LWhyNot$Tree;III)V" } : MethodName) ∈ q_gt := (q_m5 101 rfl rfl)
theorem lX3_56 : Cond.methodLink "WhyNot$HintList" 56 ({ cls := "WhyNot$Askings", name := "list", desc := "()V" } : MethodName) ∈ q_gt := (q_m5 136 rfl rfl)
theorem lX3_65 : Cond.methodLink "WhyNot$HintList" 65 ({ cls := "WhyNot$Tree", name := "all", desc := "()J" } : MethodName) ∈ q_gt := (q_m5 137 rfl rfl)
theorem lX3_69 : Cond.methodLink "WhyNot$HintList" 69 ({ cls := "WhyNot$Askings", name := "clashOf", desc := "(J)Z" } : MethodName) ∈ q_gt := (q_m5 138 rfl rfl)
theorem lX3_73 : Cond.methodLink "WhyNot$HintList" 73 ({ cls := "WhyNot$HintList", name := "keep", desc := "(III)V" } : MethodName) ∈ q_gt := (q_m5 139 rfl rfl)
theorem lX4_5 : Cond.methodLink "WhyNot$Kinds" 5 ({ cls := "java/lang/Object", name := "<init>", desc := "()V" } : MethodName) ∈ q_gt := (q_m1 161 rfl rfl)
theorem lX4_37 : Cond.methodLink "WhyNot$Kinds" 37 ({ cls := "WhyNot$Kinds", name := "make", desc := "(III)I" } : MethodName) ∈ q_gt := (q_m4 134 rfl rfl)
theorem lX4_48 : Cond.methodLink "WhyNot$Kinds" 48 ({ cls := "WhyNot$Kinds", name := "chief", desc := "(I)I" } : MethodName) ∈ q_gt := (q_m4 148 rfl rfl)
theorem lX4_52 : Cond.methodLink "WhyNot$Kinds" 52 ({ cls := "WhyNot$Kinds", name := "pileParts", desc := "(III)I" } : MethodName) ∈ q_gt := (q_m4 152 rfl rfl)
theorem lX4_58 : Cond.methodLink "WhyNot$Kinds" 58 ({ cls := "WhyNot$Kinds", name := "countPart", desc := "(I)V" } : MethodName) ∈ q_gt := (q_m4 171 rfl rfl)
theorem lX4_62 : Cond.methodLink "WhyNot$Kinds" 62 ({ cls := "WhyNot$Kinds", name := "takePart", desc := "(II)I" } : MethodName) ∈ q_gt := (q_m4 175 rfl rfl)
theorem lX4_66 : Cond.methodLink "WhyNot$Kinds" 66 ({ cls := "WhyNot$Kinds", name := "pileInOrder", desc := "(II)I" } : MethodName) ∈ q_gt := (q_m4 193 rfl rfl)
theorem lX4_69 : Cond.methodLink "WhyNot$Kinds" 69 ({ cls := "WhyNot$Tree", name := "has", desc := "(I)Z" } : MethodName) ∈ q_gt := (q_m4 166 rfl rfl)
theorem lX5_3 : Cond.methodLink "WhyNot$LeastSets" 3 ({ cls := "java/lang/Object", name := "<init>", desc := "()V" } : MethodName) ∈ q_gt := (q_m2 125 rfl rfl)
theorem lX5_33 : Cond.methodLink "WhyNot$LeastSets" 33 ({ cls := "WhyNot$Askings", name := "clashOf", desc := "(J)Z" } : MethodName) ∈ q_gt := (q_m4 238 rfl rfl)
theorem lX5_39 : Cond.methodLink "WhyNot$LeastSets" 39 ({ cls := "WhyNot$LeastSets", name := "markAbove", desc := "(I)V" } : MethodName) ∈ q_gt := (q_m4 239 rfl rfl)
theorem lX5_43 : Cond.methodLink "WhyNot$LeastSets" 43 ({ cls := "WhyNot$LeastSets", name := "grown", desc := "(I)I" } : MethodName) ∈ q_gt := (q_m5 7 rfl rfl)
theorem lX5_47 : Cond.methodLink "WhyNot$LeastSets" 47 ({ cls := "WhyNot$LeastSets", name := "markBelow", desc := "(I)V" } : MethodName) ∈ q_gt := (q_m5 11 rfl rfl)
theorem lX5_50 : Cond.methodLink "WhyNot$LeastSets" 50 ({ cls := "WhyNot$LeastSets", name := "mark", desc := "(II)V" } : MethodName) ∈ q_gt := (q_m5 3 rfl rfl)
theorem lX5_56 : Cond.methodLink "WhyNot$LeastSets" 56 ({ cls := "java/lang/Math", name := "min", desc := "(II)I" } : MethodName) ∈ q_gt := (q_m5 81 rfl rfl)
theorem lX6_3 : Cond.methodLink "WhyNot$Machine" 3 ({ cls := "java/lang/Object", name := "<init>", desc := "()V" } : MethodName) ∈ q_gt := (q_m2 236 rfl rfl)
theorem lX6_58 : Cond.methodLink "WhyNot$Machine" 58 ({ cls := "WhyNot$Tree", name := "rootOf", desc := "(I)I" } : MethodName) ∈ q_gt := (q_m5 164 rfl rfl)
theorem lX6_62 : Cond.methodLink "WhyNot$Machine" 62 ({ cls := "WhyNot$Machine", name := "enter", desc := "(II)V" } : MethodName) ∈ q_gt := (q_m5 165 rfl rfl)
theorem lX6_67 : Cond.methodLink "WhyNot$Machine" 67 ({ cls := "WhyNot$Machine", name := "step", desc := "(I)V" } : MethodName) ∈ q_gt := (q_m5 170 rfl rfl)
theorem lX6_71 : Cond.methodLink "WhyNot$Machine" 71 ({ cls := "WhyNot$Machine", name := "headOf", desc := "(I)I" } : MethodName) ∈ q_gt := (q_m5 207 rfl rfl)
theorem lX6_77 : Cond.methodLink "WhyNot$Machine" 77 ({ cls := "WhyNot$Machine", name := "numberOf", desc := "(I)I" } : MethodName) ∈ q_gt := (q_m6 4 rfl rfl)
theorem lX6_83 : Cond.methodLink "WhyNot$Machine" 83 ({ cls := "WhyNot$Machine", name := "isCell", desc := "(I)Z" } : MethodName) ∈ q_gt := (q_m5 185 rfl rfl)
theorem lX6_87 : Cond.methodLink "WhyNot$Machine" 87 ({ cls := "WhyNot$Tree", name := "sortOf", desc := "(I)I" } : MethodName) ∈ q_gt := (q_m5 174 rfl rfl)
theorem lX6_90 : Cond.methodLink "WhyNot$Machine" 90 ({ cls := "WhyNot$Machine", name := "stepName", desc := "(III)V" } : MethodName) ∈ q_gt := (q_m5 175 rfl rfl)
theorem lX6_94 : Cond.methodLink "WhyNot$Machine" 94 ({ cls := "WhyNot$Tree", name := "kidOf", desc := "(II)I" } : MethodName) ∈ q_gt := (q_m5 202 rfl rfl)
theorem lX6_98 : Cond.methodLink "WhyNot$Machine" 98 ({ cls := "WhyNot$Machine", name := "enterOrLeave", desc := "(III)V" } : MethodName) ∈ q_gt := (q_m5 198 rfl rfl)
theorem lX6_101 : Cond.methodLink "WhyNot$Machine" 101 ({ cls := "WhyNot$Machine", name := "stepIf", desc := "(III)V" } : MethodName) ∈ q_gt := (q_m5 203 rfl rfl)
theorem lX6_104 : Cond.methodLink "WhyNot$Machine" 104 ({ cls := "WhyNot$Machine", name := "stepCall", desc := "(IIII)V" } : MethodName) ∈ q_gt := (q_m5 211 rfl rfl)
theorem lX6_108 : Cond.methodLink "WhyNot$Machine" 108 ({ cls := "WhyNot$Machine", name := "cell", desc := "(III)I" } : MethodName) ∈ q_gt := (q_m5 219 rfl rfl)
theorem lX6_112 : Cond.methodLink "WhyNot$Machine" 112 ({ cls := "WhyNot$Machine", name := "leave", desc := "(I)V" } : MethodName) ∈ q_gt := (q_m5 194 rfl rfl)
theorem lX6_115 : Cond.methodLink "WhyNot$Machine" 115 ({ cls := "WhyNot$Machine", name := "stepParts", desc := "(IIII)V" } : MethodName) ∈ q_gt := (q_m5 223 rfl rfl)
theorem lX6_118 : Cond.methodLink "WhyNot$Machine" 118 ({ cls := "WhyNot$Tree", name := "targetOf", desc := "(I)I" } : MethodName) ∈ q_gt := (q_m5 179 rfl rfl)
theorem lX6_121 : Cond.methodLink "WhyNot$Machine" 121 ({ cls := "WhyNot$Tree", name := "parentOf", desc := "(I)I" } : MethodName) ∈ q_gt := (q_m5 180 rfl rfl)
theorem lX6_124 : Cond.methodLink "WhyNot$Machine" 124 ({ cls := "WhyNot$Machine", name := "twoOf", desc := "(I)I" } : MethodName) ∈ q_gt := (q_m5 181 rfl rfl)
theorem lX6_127 : Cond.methodLink "WhyNot$Machine" 127 ({ cls := "WhyNot$Tree", name := "meantBy", desc := "(I)I" } : MethodName) ∈ q_gt := (q_m5 189 rfl rfl)
theorem lX6_130 : Cond.methodLink "WhyNot$Machine" 130 ({ cls := "WhyNot$Machine", name := "oneOf", desc := "(I)I" } : MethodName) ∈ q_gt := (q_m5 190 rfl rfl)
theorem lX6_133 : Cond.methodLink "WhyNot$Machine" 133 ({ cls := "WhyNot$Machine", name := "enterPart", desc := "(IIII)V" } : MethodName) ∈ q_gt := (q_m5 215 rfl rfl)
theorem lX6_136 : Cond.methodLink "WhyNot$Machine" 136 ({ cls := "WhyNot$Tree", name := "arityOf", desc := "(I)I" } : MethodName) ∈ q_gt := (q_m5 227 rfl rfl)
theorem lX6_139 : Cond.methodLink "WhyNot$Machine" 139 ({ cls := "WhyNot$Machine", name := "finish", desc := "(III)V" } : MethodName) ∈ q_gt := (q_m5 228 rfl rfl)
theorem lX6_144 : Cond.methodLink "WhyNot$Machine" 144 ({ cls := "WhyNot$Machine", name := "leaveIf", desc := "(ZI)V" } : MethodName) ∈ q_gt := (q_m5 232 rfl rfl)
theorem lX6_148 : Cond.methodLink "WhyNot$Machine" 148 ({ cls := "WhyNot$Machine", name := "leaveRow", desc := "(II)V" } : MethodName) ∈ q_gt := (q_m5 236 rfl rfl)
theorem lX6_151 : Cond.methodLink "WhyNot$Machine" 151 ({ cls := "WhyNot$Machine", name := "areNumbers", desc := "(II)Z" } : MethodName) ∈ q_gt := (q_m6 0 rfl rfl)
theorem lX7_3 : Cond.methodLink "WhyNot$Reader" 3 ({ cls := "java/lang/Object", name := "<init>", desc := "()V" } : MethodName) ∈ q_gt := (q_m1 200 rfl rfl)
theorem lX7_39 : Cond.methodLink "WhyNot$Reader" 39 ({ cls := "java/lang/String", name := "length", desc := "()I" } : MethodName) ∈ q_gt := (q_m1 202 rfl rfl)
theorem lX7_45 : Cond.methodLink "WhyNot$Reader" 45 ({ cls := "java/lang/String", name := "charAt", desc := "(I)C" } : MethodName) ∈ q_gt := (q_m1 212 rfl rfl)
theorem lX7_49 : Cond.methodLink "WhyNot$Reader" 49 ({ cls := "WhyNot$Reader", name := "withLetter", desc := "(JI)J" } : MethodName) ∈ q_gt := (q_m2 10 rfl rfl)
theorem lX7_55 : Cond.methodLink "WhyNot$Reader" 55 ({ cls := "WhyNot$Tree", name := "clear", desc := "()V" } : MethodName) ∈ q_gt := (q_m3 137 rfl rfl)
theorem lX7_66 : Cond.methodLink "WhyNot$Reader" 66 ({ cls := "WhyNot$Reader", name := "readToken", desc := "()V" } : MethodName) ∈ q_gt := (q_m3 141 rfl rfl)
theorem lX7_72 : Cond.methodLink "WhyNot$Reader" 72 ({ cls := "WhyNot$Reader", name := "readDef", desc := "()V" } : MethodName) ∈ q_gt := (q_m3 166 rfl rfl)
theorem lX7_75 : Cond.methodLink "WhyNot$Reader" 75 ({ cls := "WhyNot$Reader", name := "readExpression", desc := "()V" } : MethodName) ∈ q_gt := (q_m3 186 rfl rfl)
theorem lX7_78 : Cond.methodLink "WhyNot$Reader" 78 ({ cls := "WhyNot$Reader", name := "readSign", desc := "()V" } : MethodName) ∈ q_gt := (q_m4 27 rfl rfl)
theorem lX7_84 : Cond.methodLink "WhyNot$Reader" 84 ({ cls := "WhyNot$Reader", name := "faultIs", desc := "(I)V" } : MethodName) ∈ q_gt := (q_m3 178 rfl rfl)
theorem lX7_91 : Cond.methodLink "WhyNot$Reader" 91 ({ cls := "WhyNot$Reader", name := "isOwn", desc := "(I)Z" } : MethodName) ∈ q_gt := (q_m3 170 rfl rfl)
theorem lX7_98 : Cond.methodLink "WhyNot$Reader" 98 ({ cls := "WhyNot$Reader", name := "refuseToken", desc := "()V" } : MethodName) ∈ q_gt := (q_m3 174 rfl rfl)
theorem lX7_101 : Cond.methodLink "WhyNot$Reader" 101 ({ cls := "WhyNot$Reader", name := "isName", desc := "()Z" } : MethodName) ∈ q_gt := (q_m3 182 rfl rfl)
theorem lX7_112 : Cond.methodLink "WhyNot$Reader" 112 ({ cls := "WhyNot$Reader", name := "beginPlace", desc := "(I)I" } : MethodName) ∈ q_gt := (q_m3 190 rfl rfl)
theorem lX7_116 : Cond.methodLink "WhyNot$Reader" 116 ({ cls := "WhyNot$Reader", name := "readRest", desc := "(I)V" } : MethodName) ∈ q_gt := (q_m3 211 rfl rfl)
theorem lX7_119 : Cond.methodLink "WhyNot$Reader" 119 ({ cls := "WhyNot$Reader", name := "nextWaiting", desc := "(I)I" } : MethodName) ∈ q_gt := (q_m4 5 rfl rfl)
theorem lX7_122 : Cond.methodLink "WhyNot$Reader" 122 ({ cls := "WhyNot$Tree", name := "has", desc := "(I)Z" } : MethodName) ∈ q_gt := (q_m3 198 rfl rfl)
theorem lX7_125 : Cond.methodLink "WhyNot$Reader" 125 ({ cls := "WhyNot$Tree", name := "arityOf", desc := "(I)I" } : MethodName) ∈ q_gt := (q_m4 9 rfl rfl)
theorem lX7_131 : Cond.methodLink "WhyNot$Reader" 131 ({ cls := "WhyNot$Reader", name := "readIn", desc := "()Z" } : MethodName) ∈ q_gt := (q_m4 19 rfl rfl)
theorem lX7_134 : Cond.methodLink "WhyNot$Reader" 134 ({ cls := "WhyNot$Tree", name := "parentOf", desc := "(I)I" } : MethodName) ∈ q_gt := (q_m4 23 rfl rfl)
theorem lX7_137 : Cond.methodLink "WhyNot$Reader" 137 ({ cls := "WhyNot$Reader", name := "sortHere", desc := "()I" } : MethodName) ∈ q_gt := (q_m3 194 rfl rfl)
theorem lX7_143 : Cond.methodLink "WhyNot$Reader" 143 ({ cls := "WhyNot$Tree", name := "add", desc := "(III)I" } : MethodName) ∈ q_gt := (q_m3 202 rfl rfl)
theorem lX7_153 : Cond.methodLink "WhyNot$Reader" 153 ({ cls := "WhyNot$Reader", name := "valueHere", desc := "(I)I" } : MethodName) ∈ q_gt := (q_m3 207 rfl rfl)
theorem lX7_156 : Cond.methodLink "WhyNot$Reader" 156 ({ cls := "WhyNot$Reader", name := "findTarget", desc := "(I)Z" } : MethodName) ∈ q_gt := (q_m3 215 rfl rfl)
theorem lX7_159 : Cond.methodLink "WhyNot$Reader" 159 ({ cls := "WhyNot$Reader", name := "readBound", desc := "(I)V" } : MethodName) ∈ q_gt := (q_m3 232 rfl rfl)
theorem lX7_162 : Cond.methodLink "WhyNot$Reader" 162 ({ cls := "WhyNot$Reader", name := "readKinds", desc := "(I)V" } : MethodName) ∈ q_gt := (q_m3 236 rfl rfl)
theorem lX7_168 : Cond.methodLink "WhyNot$Reader" 168 ({ cls := "WhyNot$Tree", name := "choicesAt", desc := "(I[I)I" } : MethodName) ∈ q_gt := (q_m3 219 rfl rfl)
theorem lX7_172 : Cond.methodLink "WhyNot$Reader" 172 ({ cls := "WhyNot$Tree", name := "wordOf", desc := "(I)J" } : MethodName) ∈ q_gt := (q_m3 231 rfl rfl)
theorem lX7_197 : Cond.methodLink "WhyNot$Reader" 197 ({ cls := "WhyNot$Reader", name := "signAt", desc := "(I)I" } : MethodName) ∈ q_gt := (q_m3 145 rfl rfl)
theorem lX7_200 : Cond.methodLink "WhyNot$Reader" 200 ({ cls := "WhyNot$Reader", name := "isBlank", desc := "(I)Z" } : MethodName) ∈ q_gt := (q_m3 149 rfl rfl)
theorem lX7_203 : Cond.methodLink "WhyNot$Reader" 203 ({ cls := "WhyNot$Reader", name := "isLetter", desc := "(I)Z" } : MethodName) ∈ q_gt := (q_m3 152 rfl rfl)
theorem lX7_206 : Cond.methodLink "WhyNot$Reader" 206 ({ cls := "WhyNot$Reader", name := "readWord", desc := "()V" } : MethodName) ∈ q_gt := (q_m3 155 rfl rfl)
theorem lX7_209 : Cond.methodLink "WhyNot$Reader" 209 ({ cls := "WhyNot$Reader", name := "isDigit", desc := "(I)Z" } : MethodName) ∈ q_gt := (q_m3 159 rfl rfl)
theorem lX7_212 : Cond.methodLink "WhyNot$Reader" 212 ({ cls := "WhyNot$Reader", name := "readNumber", desc := "()V" } : MethodName) ∈ q_gt := (q_m3 162 rfl rfl)
theorem lX8_3 : Cond.methodLink "WhyNot$Told" 3 ({ cls := "java/lang/Object", name := "<init>", desc := "()V" } : MethodName) ∈ q_gt := (q_m3 51 rfl rfl)
theorem lX9_3 : Cond.methodLink "WhyNot$Tree" 3 ({ cls := "java/lang/Object", name := "<init>", desc := "()V" } : MethodName) ∈ q_gt := (q_m1 33 rfl rfl)
theorem lX9_65 : Cond.methodLink "WhyNot$Tree" 65 ({ cls := "WhyNot$Tree", name := "all", desc := "()J" } : MethodName) ∈ q_gt := (q_m4 205 rfl rfl)
theorem lX9_71 : Cond.methodLink "WhyNot$Tree" 71 ({ cls := "WhyNot$Tree", name := "has", desc := "(I)Z" } : MethodName) ∈ q_gt := (q_m3 206 rfl rfl)
theorem lX9_75 : Cond.methodLink "WhyNot$Tree" 75 ({ cls := "WhyNot$Tree", name := "sortOf", desc := "(I)I" } : MethodName) ∈ q_gt := (q_m4 13 rfl rfl)
theorem lX9_82 : Cond.methodLink "WhyNot$Tree" 82 ({ cls := "WhyNot$Tree", name := "targetOf", desc := "(I)I" } : MethodName) ∈ q_gt := (q_m4 68 rfl rfl)
theorem lX9_85 : Cond.methodLink "WhyNot$Tree" 85 ({ cls := "WhyNot$Tree", name := "rootOf", desc := "(I)I" } : MethodName) ∈ q_gt := (q_m4 72 rfl rfl)
theorem lX9_88 : Cond.methodLink "WhyNot$Tree" 88 ({ cls := "WhyNot$Tree", name := "kidOf", desc := "(II)I" } : MethodName) ∈ q_gt := (q_m4 73 rfl rfl)
theorem lX9_92 : Cond.methodLink "WhyNot$Tree" 92 ({ cls := "WhyNot$Tree", name := "addChoice", desc := "([III)I" } : MethodName) ∈ q_gt := (q_m3 223 rfl rfl)
theorem lX9_96 : Cond.methodLink "WhyNot$Tree" 96 ({ cls := "WhyNot$Tree", name := "wordOf", desc := "(I)J" } : MethodName) ∈ q_gt := (q_m3 227 rfl rfl)
theorem lX9_100 : Cond.methodLink "WhyNot$Tree" 100 ({ cls := "java/lang/System", name := "arraycopy", desc := "(Ljava/lang/Object;ILjava/lang/Object;II)V" } : MethodName) ∈ q_gt := (q_m4 94 rfl rfl)
theorem lX9_106 : Cond.methodLink "WhyNot$Tree" 106 ({ cls := "WhyNot$Tree", name := "copyKindWords", desc := "(LWhyNot$Tree;)V" } : MethodName) ∈ q_gt := (q_m4 90 rfl rfl)
theorem kX10_13 : Cond.classLink "WhyNot" 13 "WhyNot$Tree" ∈ q_gt := (q_m1 28 rfl rfl)
theorem kX10_20 : Cond.classLink "WhyNot" 20 "WhyNot$Draft" ∈ q_gt := (q_m1 124 rfl rfl)
theorem kX10_27 : Cond.classLink "WhyNot" 27 "WhyNot$Kinds" ∈ q_gt := (q_m1 156 rfl rfl)
theorem kX10_34 : Cond.classLink "WhyNot" 34 "WhyNot$Reader" ∈ q_gt := (q_m1 195 rfl rfl)
theorem kX10_44 : Cond.classLink "WhyNot" 44 "WhyNot$Askings" ∈ q_gt := (q_m2 62 rfl rfl)
theorem kX10_56 : Cond.classLink "WhyNot" 56 "WhyNot$LeastSets" ∈ q_gt := (q_m2 120 rfl rfl)
theorem kX10_65 : Cond.classLink "WhyNot" 65 "WhyNot$CheapestMend" ∈ q_gt := (q_m2 148 rfl rfl)
theorem kX10_74 : Cond.classLink "WhyNot" 74 "WhyNot$HintList" ∈ q_gt := (q_m2 195 rfl rfl)
theorem kX10_83 : Cond.classLink "WhyNot" 83 "WhyNot$Machine" ∈ q_gt := (q_m2 231 rfl rfl)
theorem kX10_92 : Cond.classLink "WhyNot" 92 "WhyNot$Told" ∈ q_gt := (q_m3 46 rfl rfl)
theorem kX2_9 : Cond.classLink "WhyNot$Draft" 9 "WhyNot$Tree" ∈ q_gt := (q_m1 130 rfl rfl)
theorem nJ13_314 : Cond.constantLong "java/lang/Long" 314 (6148914691236517205 : Int64) ∈ q_gt := (q_m5 57 rfl rfl)
theorem nJ13_316 : Cond.constantLong "java/lang/Long" 316 (3689348814741910323 : Int64) ∈ q_gt := (q_m5 58 rfl rfl)
theorem nJ13_318 : Cond.constantLong "java/lang/Long" 318 (1085102592571150095 : Int64) ∈ q_gt := (q_m5 59 rfl rfl)
theorem nX0_130 : Cond.constantLong "WhyNot$Askings" 130 (-1 : Int64) ∈ q_gt := (q_m4 220 rfl rfl)
theorem nX1_58 : Cond.constant "WhyNot$CheapestMend" 58 (1000000 : Int32) ∈ q_gt := (q_m5 43 rfl rfl)
theorem nX1_63 : Cond.constantLong "WhyNot$CheapestMend" 63 (-1 : Int64) ∈ q_gt := (q_m5 48 rfl rfl)
theorem nX1_100 : Cond.constantLong "WhyNot$CheapestMend" 100 (9223372036854775807 : Int64) ∈ q_gt := (q_m5 53 rfl rfl)
theorem nX10_194 : Cond.constantLong "WhyNot" 194 (-1 : Int64) ∈ q_gt := (q_m5 19 rfl rfl)
theorem nX10_207 : Cond.constantLong "WhyNot" 207 (-2 : Int64) ∈ q_gt := (q_m5 33 rfl rfl)
theorem nX10_258 : Cond.constant "WhyNot" 258 (100000 : Int32) ∈ q_gt := (q_m6 28 rfl rfl)
theorem nX11_225 : Cond.constantLong "WhyNotModel" 225 (6579558 : Int64) ∈ q_gt := (q_m7 152 rfl rfl)
theorem nX11_227 : Cond.constantLong "WhyNotModel" 227 (7955827 : Int64) ∈ q_gt := (q_m7 153 rfl rfl)
theorem nX11_229 : Cond.constantLong "WhyNotModel" 229 (28271 : Int64) ∈ q_gt := (q_m7 154 rfl rfl)
theorem nX11_231 : Cond.constantLong "WhyNotModel" 231 (6714734 : Int64) ∈ q_gt := (q_m7 155 rfl rfl)
theorem nX11_233 : Cond.constantLong "WhyNotModel" 233 (7103860 : Int64) ∈ q_gt := (q_m7 156 rfl rfl)
theorem nX11_235 : Cond.constantLong "WhyNotModel" 235 (26990 : Int64) ∈ q_gt := (q_m7 157 rfl rfl)
theorem nX11_237 : Cond.constantLong "WhyNotModel" 237 (26982 : Int64) ∈ q_gt := (q_m7 158 rfl rfl)
theorem nX11_239 : Cond.constantLong "WhyNotModel" 239 (1667329132 : Int64) ∈ q_gt := (q_m7 159 rfl rfl)
theorem nX11_241 : Cond.constantLong "WhyNotModel" 241 (1885432178 : Int64) ∈ q_gt := (q_m7 160 rfl rfl)
theorem nX11_243 : Cond.constantLong "WhyNotModel" 243 (439855772532 : Int64) ∈ q_gt := (q_m7 161 rfl rfl)
theorem nX11_245 : Cond.constantLong "WhyNotModel" 245 (126879297138276 : Int64) ∈ q_gt := (q_m7 162 rfl rfl)
theorem nX11_247 : Cond.constantLong "WhyNotModel" 247 (7235948 : Int64) ∈ q_gt := (q_m7 163 rfl rfl)
theorem nX11_249 : Cond.constantLong "WhyNotModel" 249 (1668247155 : Int64) ∈ q_gt := (q_m7 164 rfl rfl)
theorem nX11_251 : Cond.constantLong "WhyNotModel" 251 (1751474532 : Int64) ∈ q_gt := (q_m7 165 rfl rfl)
theorem nX11_253 : Cond.constantLong "WhyNotModel" 253 (1952541036 : Int64) ∈ q_gt := (q_m7 166 rfl rfl)
theorem nX11_255 : Cond.constantLong "WhyNotModel" 255 (6382692 : Int64) ∈ q_gt := (q_m7 167 rfl rfl)
theorem nX11_257 : Cond.constantLong "WhyNotModel" 257 (1818588019 : Int64) ∈ q_gt := (q_m7 168 rfl rfl)
theorem nX11_259 : Cond.constantLong "WhyNotModel" 259 (24947 : Int64) ∈ q_gt := (q_m7 169 rfl rfl)
theorem nX11_261 : Cond.constantLong "WhyNotModel" 261 (7239021 : Int64) ∈ q_gt := (q_m7 170 rfl rfl)
theorem nX11_263 : Cond.constantLong "WhyNotModel" 263 (500136506472 : Int64) ∈ q_gt := (q_m7 171 rfl rfl)
theorem nX11_265 : Cond.constantLong "WhyNotModel" 265 (6385273 : Int64) ∈ q_gt := (q_m7 172 rfl rfl)
theorem nX11_267 : Cond.constantLong "WhyNotModel" 267 (7499639 : Int64) ∈ q_gt := (q_m7 173 rfl rfl)
theorem nX11_269 : Cond.constantLong "WhyNotModel" 269 (1651471464 : Int64) ∈ q_gt := (q_m7 174 rfl rfl)
theorem nX11_271 : Cond.constantLong "WhyNotModel" 271 (1718775661 : Int64) ∈ q_gt := (q_m7 175 rfl rfl)
theorem nX11_375 : Cond.constant "WhyNotModel" 375 (1000000 : Int32) ∈ q_gt := (q_m8 6 rfl rfl)
theorem nX11_473 : Cond.constantLong "WhyNotModel" 473 (-1 : Int64) ∈ q_gt := (q_m8 137 rfl rfl)
theorem nX11_511 : Cond.constantLong "WhyNotModel" 511 (-2 : Int64) ∈ q_gt := (q_m8 178 rfl rfl)
theorem nX11_621 : Cond.constant "WhyNotModel" 621 (100000 : Int32) ∈ q_gt := (q_m9 74 rfl rfl)
theorem nX4_47 : Cond.constant "WhyNot$Kinds" 47 (1000000 : Int32) ∈ q_gt := (q_m4 147 rfl rfl)
theorem nX5_54 : Cond.constantLong "WhyNot$LeastSets" 54 (-1 : Int64) ∈ q_gt := (q_m5 24 rfl rfl)
theorem nX6_66 : Cond.constant "WhyNot$Machine" 66 (1000000 : Int32) ∈ q_gt := (q_m5 169 rfl rfl)
theorem nX7_215 : Cond.constantLong "WhyNot$Reader" 215 (32 : Int64) ∈ q_gt := (q_m2 13 rfl rfl)
theorem nX9_69 : Cond.constantLong "WhyNot$Tree" 69 (-1 : Int64) ∈ q_gt := (q_m4 206 rfl rfl)
theorem iX10 : Cond.instantiable "WhyNot" 16 ∈ q_gt := (q_m1 21 rfl rfl)
theorem zX10 : Cond.initialized "WhyNot" ∈ q_gt := (q_m1 1 rfl rfl)
theorem iX9 : Cond.instantiable "WhyNot$Tree" 17 ∈ q_gt := (q_m1 29 rfl rfl)
theorem zX9 : Cond.initialized "WhyNot$Tree" ∈ q_gt := (q_m1 2 rfl rfl)
theorem iX2 : Cond.instantiable "WhyNot$Draft" 7 ∈ q_gt := (q_m1 125 rfl rfl)
theorem zX2 : Cond.initialized "WhyNot$Draft" ∈ q_gt := (q_m1 3 rfl rfl)
theorem iX4 : Cond.instantiable "WhyNot$Kinds" 10 ∈ q_gt := (q_m1 157 rfl rfl)
theorem zX4 : Cond.initialized "WhyNot$Kinds" ∈ q_gt := (q_m1 4 rfl rfl)
theorem iX7 : Cond.instantiable "WhyNot$Reader" 15 ∈ q_gt := (q_m1 196 rfl rfl)
theorem zX7 : Cond.initialized "WhyNot$Reader" ∈ q_gt := (q_m1 5 rfl rfl)
theorem iX0 : Cond.instantiable "WhyNot$Askings" 16 ∈ q_gt := (q_m2 63 rfl rfl)
theorem zX0 : Cond.initialized "WhyNot$Askings" ∈ q_gt := (q_m1 10 rfl rfl)
theorem iX5 : Cond.instantiable "WhyNot$LeastSets" 6 ∈ q_gt := (q_m2 121 rfl rfl)
theorem zX5 : Cond.initialized "WhyNot$LeastSets" ∈ q_gt := (q_m1 11 rfl rfl)
theorem iX1 : Cond.instantiable "WhyNot$CheapestMend" 13 ∈ q_gt := (q_m2 149 rfl rfl)
theorem zX1 : Cond.initialized "WhyNot$CheapestMend" ∈ q_gt := (q_m1 12 rfl rfl)
theorem iX3 : Cond.instantiable "WhyNot$HintList" 8 ∈ q_gt := (q_m2 196 rfl rfl)
theorem zX3 : Cond.initialized "WhyNot$HintList" ∈ q_gt := (q_m1 13 rfl rfl)
theorem iX6 : Cond.instantiable "WhyNot$Machine" 15 ∈ q_gt := (q_m2 232 rfl rfl)
theorem zX6 : Cond.initialized "WhyNot$Machine" ∈ q_gt := (q_m1 14 rfl rfl)
theorem iX8 : Cond.instantiable "WhyNot$Told" 4 ∈ q_gt := (q_m3 47 rfl rfl)
theorem zX8 : Cond.initialized "WhyNot$Told" ∈ q_gt := (q_m1 15 rfl rfl)
theorem iX11 : Cond.instantiable "WhyNotModel" 98 ∈ q_gt := (q_m6 66 rfl rfl)
theorem zX11 : Cond.initialized "WhyNotModel" ∈ q_gt := (q_m1 16 rfl rfl)
theorem q_oi1 : Cond.instanceMethod Lib.objectInit ∈ q_gt := (q_m1 26 rfl rfl)
theorem q_oi2 : Cond.code Lib.objectInit ⟨#[0xb1]⟩ 1 none ∈ q_gt := (q_m1 27 rfl rfl)
theorem q_ac1 : Cond.native arraycopyName ∈ q_gt := (q_m4 96 rfl rfl)
theorem q_ac2 : Cond.static arraycopyName ∈ q_gt := (q_m4 95 rfl rfl)
theorem q_ac3 : Cond.initialized "java/lang/System" ∈ q_gt := (q_m1 17 rfl rfl)
theorem q_mm1 : Cond.static Lib.Math.min.name ∈ q_gt := (q_m5 82 rfl rfl)
theorem q_mm2 : Cond.initialized "java/lang/Math" ∈ q_gt := (q_m1 19 rfl rfl)
theorem q_mm3 : Cond.code Lib.Math.min.name Lib.Math.min.code 2 (some .int) ∈ q_gt := (q_m5 83 rfl rfl)
theorem q_ar_int : Cond.arrayClass .int ∈ q_gt := (q_m1 123 rfl rfl)
theorem q_ar_long : Cond.arrayClass .long ∈ q_gt := (q_m1 122 rfl rfl)
theorem q_ar_byte : Cond.arrayClass .byte ∈ q_gt := (q_m1 121 rfl rfl)
theorem q_ar_boolean : Cond.arrayClass .boolean ∈ q_gt := (q_m3 116 rfl rfl)
