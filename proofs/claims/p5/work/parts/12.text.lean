/-! THE TEXT of the Reader: the String constant 1003, its bytes 1004. -/
section QT
variable {M M2 : q_M} {σ : q_S} {kc ks pc : Nat} {lv : List (Nat × Value)} {st rest : List Value} {Q : q_F} {Q0 Q2 : q_P}
theorem q_ldcS (hd : decode M.1.2.1 pc = .ok (.ldc 37, 2)) (hM : M.1.1.cls = "WhyNot$Reader") (k : q_K M σ kc ks (pc + 2) lv (.ref 1003 :: st) Q) : q_K M σ kc ks pc lv st Q := by
  intro p l ε e s m args below meth c H locs ls A C hA hW hS hl
  obtain ⟨hx, hb, hml, hr, hts, hown, hlk, hnm, hAm, hb0⟩ := id C
  exact va_ldcS (own := "WhyNot$Reader") hx hb (by rw [← hM]; exact hown) hAm.2.2.1.2.2 hd (k p l ε e s m args below meth c H locs ls A C hA hW hS hl)
theorem q_sval (hd : decode M.1.2.1 pc = .ok (.getfield 9, 3)) (hM : M.1.1.cls = "java/lang/String") (hl0 : Cond.fieldLink "java/lang/String" 9 "java/lang/String" "value" "[B" ∈ q_gt) (k : q_K M σ kc ks (pc + 3) lv (.ref 1004 :: st) Q) : q_K M σ kc ks pc lv (.ref 1003 :: st) Q := by
  intro p l ε e s m args below meth c H locs ls A C hA hW hS hl
  obtain ⟨hx, hb, hml, hr, hts, hown, hlk, hnm, hAm, hb0⟩ := id C
  exact vk_getf (own := M.1.1.cls) (ref := "java/lang/String") hx hb ((hAm.2.2.2.2.2.2.2.1.narrow hA.2.2).1 0 (by decide)).2.2.1 hS hown (by rw [hM]; exact hts _ (q_gt_in hl0)) (fun _ h => h) hd (k p l ε e s m args below meth c H locs ls A C hA hW hS hl)
theorem q_scod (hd : decode M.1.2.1 pc = .ok (.getfield 15, 3)) (hM : M.1.1.cls = "java/lang/String") (hl0 : Cond.fieldLink "java/lang/String" 15 "java/lang/String" "coder" "B" ∈ q_gt) (k : q_K M σ kc ks (pc + 3) lv (.int 0 :: st) Q) : q_K M σ kc ks pc lv (.ref 1003 :: st) Q := by
  intro p l ε e s m args below meth c H locs ls A C hA hW hS hl
  obtain ⟨hx, hb, hml, hr, hts, hown, hlk, hnm, hAm, hb0⟩ := id C
  exact vk_getf (own := M.1.1.cls) (ref := "java/lang/String") hx hb ((hAm.2.2.2.2.2.2.2.1.narrow hA.2.2).1 0 (by decide)).2.1 hS hown (by rw [hM]; exact hts _ (q_gt_in hl0)) (fun _ h => h) hd (k p l ε e s m args below meth c H locs ls A C hA hW hS hl)
theorem q_scs (hd : decode M.1.2.1 pc = .ok (.getstatic 38, 3)) (hM : M.1.1.cls = "java/lang/String") (hl0 : Cond.fieldLink "java/lang/String" 38 "java/lang/String" "COMPACT_STRINGS" "Z" ∈ q_gt) (k : q_K M σ kc ks (pc + 3) lv (.int 1 :: st) Q) : q_K M σ kc ks pc lv st Q := by
  intro p l ε e s m args below meth c H locs ls A C hA hW hS hl
  obtain ⟨hx, hb, hml, hr, hts, hown, hlk, hnm, hAm, hb0⟩ := id C
  exact va_gets (own := M.1.1.cls) (ref := "java/lang/String") hx hb (hAm.2.2.2.2.2.2.2.2.1.narrow hA.2.2) hS hown (by rw [hM]; exact hts _ (q_gt_in hl0)) (fun _ h => h) hd (k p l ε e s m args below meth c H locs ls A C hA hW hS hl)
theorem q_sfm (hd : decode M.1.2.1 pc = .ok (.getstatic 1053, 3)) (hM : M.1.1.cls = "java/lang/String") (hl0 : Cond.fieldLink "java/lang/String" 1053 "jdk/internal/util/Preconditions" "SIOOBE_FORMATTER" "Ljava/util/function/BiFunction;" ∈ q_gt) (k : ∀ v : Value, v.category = 1 → q_K M σ kc ks (pc + 3) lv (v :: st) Q) : q_K M σ kc ks pc lv st Q := by
  intro p l ε e s m args below meth c H locs ls A C hA hW hS hl
  obtain ⟨hx, hb, hml, hr, hts, hown, hlk, hnm, hAm, hb0⟩ := id C
  rcases hAm.2.2.2.2.2.2.2.2.2 with hz | hz
  · exact va_gets (own := M.1.1.cls) (ref := "jdk/internal/util/Preconditions") hx hb (hz.narrow hA.2.2) hS hown (by rw [hM]; exact hts _ (q_gt_in hl0)) (fun _ h => h) hd (k .null rfl p l ε e s m args below meth c H locs ls A C hA hW hS hl)
  · exact va_gets (own := M.1.1.cls) (ref := "jdk/internal/util/Preconditions") hx hb (hz.narrow hA.2.2) hS hown (by rw [hM]; exact hts _ (q_gt_in hl0)) (fun _ h => h) hd (k (.ref 1005) rfl p l ε e s m args below meth c H locs ls A C hA hW hS hl)
theorem q_tblen (hd : decode M.1.2.1 pc = .ok (.arraylength, 1)) (kk : q_K M σ kc ks (pc + 1) lv (.int 107 :: st) Q) : q_K M σ kc ks pc lv (.ref 1004 :: st) Q := by
  intro p l ε e s m args below meth c H locs ls A C hA hW hS hl
  obtain ⟨hx, hb, hml, hr, hts, hown, hlk, hnm, hAm, hb0⟩ := id C
  exact va_tlen hx hb ((hAm.2.2.2.2.2.2.2.1.narrow hA.2.2).1 0 (by decide)).2.2.2 hS rfl hd (kk p l ε e s m args below meth c H locs ls A C hA hW hS hl)
theorem q_tbald {x : Int32} {j : Nat} (hd : decode M.1.2.1 pc = .ok (.baload, 1)) (hx : x.toInt = (j : Int)) (hj : j < 107) (kk : q_K M σ kc ks (pc + 1) lv (.int (q_tbyt.getD j 0) :: st) Q) : q_K M σ kc ks pc lv (.int x :: .ref 1004 :: st) Q := by
  intro p l ε e s m args below meth c H locs ls A C hA hW hS hl
  obtain ⟨hx0, hb, hml, hr, hts, hown, hlk, hnm, hAm, hb0⟩ := id C
  exact va_tb hx0 hb ((hAm.2.2.2.2.2.2.2.1.narrow hA.2.2).1 0 (by decide)).2.2.2 hS (q_ix hx hj) (by rw [q_cl_of hx]; rfl) hd (kk p l ε e s m args below meth c H locs ls A C hA hW hS hl)
theorem q_i2c {x : Int32} (hd : decode M.1.2.1 pc = .ok (.i2c, 1)) (k : q_K M σ kc ks (pc + 1) lv (.int (x.toUInt32 % 65536).toInt32 :: st) Q) : q_K M σ kc ks pc lv (.int x :: st) Q := by
  intro p l ε e s m args below meth c H locs ls A C hA hW hS hl
  exact lv_i2c C.1 C.2.1 hd rfl (k p l ε e s m args below meth c H locs ls A C hA hW hS hl)
theorem q_nreturn {x : Int32} {ty : FieldType} (hd : decode M.1.2.1 pc = .ok (.ireturn, 1)) (hr : M.1.2.2.2 = some ty) (hn : narrow ty (.int x) = .int x) (hk : kc ≤ M.2.2.2.1 ∧ ks ≤ M.2.2.2.2) (hq : Q0 σ (some (.int x))) : q_K M σ kc ks pc lv [.int x] (q_fin M Q0) := by
  intro p l ε e s m args below meth c H locs ls A C hA hW hS hl
  exact W.widen hk.1 hk.2 (W.zret C.1 C.2.1 (C.2.2.2.1.trans hr) hn (q_end hA.1 hW hS hq) hS.2.2 hd C.2.2.2.2.2.2.1)
/-- a call of the text's own method -/
theorem q_callT {idx : Nat} {as : List Value} (hd : decode M.1.2.1 pc = .ok (.invokevirtual idx, 3)) (hM : q_D M2 as.length) (hin : Cond.instanceMethod M2.1.1 ∈ q_gt) (hsel : Cond.selects M2.1.1.cls M2.1.1 M2.1.1 ∈ q_gt) (hR : M2.1.1.cls = "java/lang/String") (hl : Cond.methodLink M.1.1.cls idx M2.1.1 ∈ q_gt)
    (hroom : q_fit M M2) (hrest : (rest.map fun v => v.category).sum ≤ 8) (hcells : kc + M2.2.2.2.1 ≤ M.2.2.2.1 ∧ ks + M2.2.2.2.2 ≤ M.2.2.2.2) (hm : q_met M2 σ (.ref 1003 :: as) Q2)
    (kk : ∀ s' r, Q2 s' r → q_K M s' (kc + M2.2.2.2.1) (ks + M2.2.2.2.2) (pc + 3) lv (r.toList ++ rest) Q) : q_K M σ kc ks pc lv (as.reverse ++ .ref 1003 :: rest) Q := by
  intro p l ε e s m args below meth c H locs ls A C hA hW hS hl2
  obtain ⟨hx, hb, hml, hr, hts, hown, hlk, hnm, hAm, hb0⟩ := id C
  obtain ⟨hini, hcode, hcls, hpar⟩ := hM
  have hrecv := vk_recv (i := 0) (hAm.2.2.2.2.2.2.2.1.narrow hA.2.2) (by decide) hS
  rw [← hR] at hrecv
  rw [q_stk]
  refine q_back (Q2 := Q2) (σ := σ) hA hW (mc := M2.2.2.2.1) (ms := M2.2.2.2.2) (va_runV (As := as.map (q_c ε)) ⟨hx, hb, hml, hown, hts⟩ (hm l ε)
    ⟨callB_of as.length hts (q_goods M M2 hcode) rfl rfl rfl (hts _ (q_gt_in hini)) (hts _ (q_gt_in hl)) ⟨hcls.1, hcls.2, hpar⟩ hroom, hts _ (q_gt_in hin), hts _ (q_gt_in hsel)⟩
    ⟨q_blind ε σ _, hrecv, fun U hU hW' => ⟨rfl, by rw [hU]; exact hW, hAm.to hW' hS hA.2.2 hU⟩⟩ rfl (by simp) hl2.1 rfl (q_rest8 ε hrest) hd hcells) hS
    (fun s' r hq H1 locs1 w0 w1 w2 => kk s' r hq p l ε e s m args below meth c H1 locs1 ls A C w0 w1 w2 hl2)
end QT
