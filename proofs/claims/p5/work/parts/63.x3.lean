/-! STEP ROWS of the class. By program (wip/wp/gen_parts.py). -/
theorem eX1_learn_0 : decode cX1_learn 0 = .ok (.iload_n 1, 1) := by decide +kernel
theorem eX1_learn_1 : decode cX1_learn 1 = .ok (.ifCond .lt 9, 3) := by decide +kernel
theorem eX1_learn_4 : decode cX1_learn 4 = .ok (.iload_n 1, 1) := by decide +kernel
theorem eX1_learn_5 : decode cX1_learn 5 = .ok (.bipush 26, 2) := by decide +kernel
theorem eX1_learn_7 : decode cX1_learn 7 = .ok (.if_icmp .lt 5, 3) := by decide +kernel
theorem eX1_learn_10 : decode cX1_learn 10 = .ok (.lconst 0, 1) := by decide +kernel
theorem eX1_learn_11 : decode cX1_learn 11 = .ok (.lreturn, 1) := by decide +kernel
theorem eX1_learn_12 : decode cX1_learn 12 = .ok (.lload_n 2, 1) := by decide +kernel
theorem eX1_learn_13 : decode cX1_learn 13 = .ok (.lconst 0, 1) := by decide +kernel
theorem eX1_learn_14 : decode cX1_learn 14 = .ok (.lcmp, 1) := by decide +kernel
theorem eX1_learn_15 : decode cX1_learn 15 = .ok (.ifCond .ne 25, 3) := by decide +kernel
theorem eX1_learn_18 : decode cX1_learn 18 = .ok (.aload_n 0, 1) := by decide +kernel
theorem eX1_learn_19 : decode cX1_learn 19 = .ok (.aload_n 0, 1) := by decide +kernel
theorem eX1_learn_20 : decode cX1_learn 20 = .ok (.getfield 18, 3) := by decide +kernel
theorem eX1_learn_23 : decode cX1_learn 23 = .ok (.iload_n 1, 1) := by decide +kernel
theorem eX1_learn_24 : decode cX1_learn 24 = .ok (.laload, 1) := by decide +kernel
theorem eX1_learn_25 : decode cX1_learn 25 = .ok (.putfield 51, 3) := by decide +kernel
theorem eX1_learn_28 : decode cX1_learn 28 = .ok (.aload_n 0, 1) := by decide +kernel
theorem eX1_learn_29 : decode cX1_learn 29 = .ok (.aload_n 0, 1) := by decide +kernel
theorem eX1_learn_30 : decode cX1_learn 30 = .ok (.getfield 24, 3) := by decide +kernel
theorem eX1_learn_33 : decode cX1_learn 33 = .ok (.iload_n 1, 1) := by decide +kernel
theorem eX1_learn_34 : decode cX1_learn 34 = .ok (.laload, 1) := by decide +kernel
theorem eX1_learn_35 : decode cX1_learn 35 = .ok (.putfield 84, 3) := by decide +kernel
theorem eX1_learn_38 : decode cX1_learn 38 = .ok (.lconst 0, 1) := by decide +kernel
theorem eX1_learn_39 : decode cX1_learn 39 = .ok (.lreturn, 1) := by decide +kernel
theorem eX1_learn_40 : decode cX1_learn 40 = .ok (.aload_n 0, 1) := by decide +kernel
theorem eX1_learn_41 : decode cX1_learn 41 = .ok (.getfield 42, 3) := by decide +kernel
theorem eX1_learn_44 : decode cX1_learn 44 = .ok (.ifCond .lt 33, 3) := by decide +kernel
theorem eX1_learn_47 : decode cX1_learn 47 = .ok (.aload_n 0, 1) := by decide +kernel
theorem eX1_learn_48 : decode cX1_learn 48 = .ok (.getfield 42, 3) := by decide +kernel
theorem eX1_learn_51 : decode cX1_learn 51 = .ok (.sipush 512, 3) := by decide +kernel
theorem eX1_learn_54 : decode cX1_learn 54 = .ok (.if_icmp .ge 23, 3) := by decide +kernel
theorem eX1_learn_57 : decode cX1_learn 57 = .ok (.aload_n 0, 1) := by decide +kernel
theorem eX1_learn_58 : decode cX1_learn 58 = .ok (.getfield 11, 3) := by decide +kernel
theorem eX1_learn_61 : decode cX1_learn 61 = .ok (.aload_n 0, 1) := by decide +kernel
theorem eX1_learn_62 : decode cX1_learn 62 = .ok (.getfield 42, 3) := by decide +kernel
theorem eX1_learn_65 : decode cX1_learn 65 = .ok (.lload_n 2, 1) := by decide +kernel
theorem eX1_learn_66 : decode cX1_learn 66 = .ok (.lastore, 1) := by decide +kernel
theorem eX1_learn_67 : decode cX1_learn 67 = .ok (.aload_n 0, 1) := by decide +kernel
theorem eX1_learn_68 : decode cX1_learn 68 = .ok (.dup, 1) := by decide +kernel
theorem eX1_learn_69 : decode cX1_learn 69 = .ok (.getfield 42, 3) := by decide +kernel
theorem eX1_learn_72 : decode cX1_learn 72 = .ok (.iconst 1, 1) := by decide +kernel
theorem eX1_learn_73 : decode cX1_learn 73 = .ok (.iadd, 1) := by decide +kernel
theorem eX1_learn_74 : decode cX1_learn 74 = .ok (.putfield 42, 3) := by decide +kernel
theorem eX1_learn_77 : decode cX1_learn 77 = .ok (.lload_n 2, 1) := by decide +kernel
theorem eX1_learn_78 : decode cX1_learn 78 = .ok (.aload_n 0, 1) := by decide +kernel
theorem eX1_learn_79 : decode cX1_learn 79 = .ok (.getfield 21, 3) := by decide +kernel
theorem eX1_learn_82 : decode cX1_learn 82 = .ok (.iload_n 1, 1) := by decide +kernel
theorem eX1_learn_83 : decode cX1_learn 83 = .ok (.laload, 1) := by decide +kernel
theorem eX1_learn_84 : decode cX1_learn 84 = .ok (.ldc2_w 63, 3) := by decide +kernel
theorem eX1_learn_87 : decode cX1_learn 87 = .ok (.lxor, 1) := by decide +kernel
theorem eX1_learn_88 : decode cX1_learn 88 = .ok (.land, 1) := by decide +kernel
theorem eX1_learn_89 : decode cX1_learn 89 = .ok (.lreturn, 1) := by decide +kernel
def C_X1_learn (s : ST) (p : Int) (q : Int64) (Q : ST → Int64 → Prop) : Prop := bx <| RA s → R32 p → q_met mX1_learn (qs layX s) [.ref 69, .int (Int32.ofInt p), .long q] (PL layX Q)
theorem C_X1_learn.mono {s : ST} {p : Int} {q : Int64} {Q Q' : ST → Int64 → Prop} (h : C_X1_learn s p q Q) (hq : ∀ s v, Q s v → Q' s v) : C_X1_learn s p q Q' := ⟨fun hA hrp => q_met.mono (h.1 hA hrp) (fun _ _ => PL.mono hq), trivial⟩
def K_X1_learn_77 (s : ST) (a1 : Int) (a2 : Int64) (Q : ST → Int64 → Prop) : Prop := bx <| RA s → R32 a1 → q_K mX1_learn (qs layX s) 0 0 77 [(0, .ref 69), (1, .int (Int32.ofInt a1)), (2, .long a2)] [] (q_fin mX1_learn (PL layX Q))
set_option maxRecDepth 20000 in
theorem s_X1_learn_77 {s : ST} {a1 : Int} {a2 : Int64} {Q : ST → Int64 → Prop} (h : RA s → R32 a1 → (((0 : Int) ≤ a1 ∧ a1 < 26) ∧ Q s (a2 &&& (s.2 73 a1 ^^^ (-1))))) : K_X1_learn_77 s a1 a2 Q := by
  refine ⟨?_, trivial⟩
  intro hA hra1
  have h := h hA hra1
  refine q_lload_n eX1_learn_77 rfl ?_
  refine q_aload_n eX1_learn_78 rfl ?_
  refine q_getR (c := 1) (n := 0) (k := 10) (a := 73) eX1_learn_79 rfl (by decide) (by decide) fX1_21 rfl rfl ?_
  refine q_iload_n eX1_learn_82 rfl ?_
  have f1 := h.1
  have h := h.2
  refine z_lald (n := 26) eX1_learn_83 rfl (ofz hra1) f1 ?_
  refine q_topL (v := s.2 73 a1) rfl ?_
  refine q_ldc2 (v := (-1)) eX1_learn_84 nX1_63 ?_
  refine q_lxor eX1_learn_87 ?_
  refine q_land eX1_learn_88 ?_
  exact q_lret eX1_learn_89 rfl ⟨_, _, rfl, hA, rfl, h⟩
set_option maxRecDepth 20000 in
theorem s_X1_learn {s : ST} {p : Int} {q : Int64} {Q : ST → Int64 → Prop} (h : RA s → R32 p → ((p < 0 → Q s 0) ∧ (¬ p < 0 → ((p < 26 → ((¬ q = 0 → ((s.1 69 4 < 0 → K_X1_learn_77 s p q Q) ∧ (¬ s.1 69 4 < 0 → ((512 ≤ s.1 69 4 → K_X1_learn_77 s p q Q) ∧ (¬ 512 ≤ s.1 69 4 → (((0 : Int) ≤ s.1 69 4 ∧ s.1 69 4 < 512) ∧ (R32 (s.1 69 4 + 1) ∧ K_X1_learn_77 (ui (uj s 70 (s.1 69 4) q) 69 4 (s.1 69 4 + 1)) p q Q))))))) ∧ (q = 0 → (((0 : Int) ≤ p ∧ p < 26) ∧ Q (uj (uj s 69 1 (s.2 72 p)) 69 2 (s.2 74 p)) 0)))) ∧ (¬ p < 26 → Q s 0))))) : C_X1_learn s p q Q := by
  refine ⟨?_, trivial⟩
  intro hA hrp
  have h := h hA hrp
  refine q_enter (by decide) (Nat.le_of_ble_eq_true rfl) ?_
  refine q_iload_n eX1_learn_0 rfl ?_
  refine q_iz_lt (tgt := 10) (a := p) eX1_learn_1 (by decide) (ofz hrp) (fun c1 => ?_) (fun c1 => ?_)
  · have h := h.1 c1
    refine q_lc (v := 0) eX1_learn_10 rfl ?_
    exact q_lret eX1_learn_11 rfl ⟨_, _, rfl, hA, rfl, h⟩
  · have h := h.2 c1
    refine q_iload_n eX1_learn_4 rfl ?_
    refine q_bi (v := Int32.ofInt 26) eX1_learn_5 rfl ?_
    refine q_cz_lt (tgt := 12) (a := p) (b := 26) eX1_learn_7 (by decide) (ofz hrp) (ofz (r32l rfl)) (fun c7 => ?_) (fun c7 => ?_)
    · have h := h.1 c7
      refine q_lload_n eX1_learn_12 rfl ?_
      refine q_lc (v := 0) eX1_learn_13 rfl ?_
      refine q_lcmp eX1_learn_14 ?_
      refine z_lc_ne (tgt := 40) eX1_learn_15 (by decide) (fun c15 => ?_) (fun c15 => ?_)
      · have h := h.1 c15
        refine q_aload_n eX1_learn_40 rfl ?_
        refine q_getf (c := 1) (n := 0) (k := 4) (v := .int (Int32.ofInt (s.1 69 4))) eX1_learn_41 rfl (by decide) (by decide) fX1_42 rfl ?_
        refine q_iz_lt (tgt := 77) (a := s.1 69 4) eX1_learn_44 (by decide) (ofz (hA _ _)) (fun c44 => ?_) (fun c44 => ?_)
        · have h := h.1 c44
          exact q_subL rfl (h.1 hA hrp)
        · have h := h.2 c44
          refine q_aload_n eX1_learn_47 rfl ?_
          refine q_getf (c := 1) (n := 0) (k := 4) (v := .int (Int32.ofInt (s.1 69 4))) eX1_learn_48 rfl (by decide) (by decide) fX1_42 rfl ?_
          refine q_si (v := Int32.ofInt 512) eX1_learn_51 rfl ?_
          refine q_cz_ge (tgt := 77) (a := s.1 69 4) (b := 512) eX1_learn_54 (by decide) (ofz (hA _ _)) (ofz (r32l rfl)) (fun c54 => ?_) (fun c54 => ?_)
          · have h := h.1 c54
            exact q_subL rfl (h.1 hA hrp)
          · have h := h.2 c54
            refine q_aload_n eX1_learn_57 rfl ?_
            refine q_getR (c := 1) (n := 0) (k := 7) (a := 70) eX1_learn_58 rfl (by decide) (by decide) fX1_11 rfl rfl ?_
            refine q_aload_n eX1_learn_61 rfl ?_
            refine q_getf (c := 1) (n := 0) (k := 4) (v := .int (Int32.ofInt (s.1 69 4))) eX1_learn_62 rfl (by decide) (by decide) fX1_42 rfl ?_
            refine q_lload_n eX1_learn_65 rfl ?_
            have f1 := h.1
            have h := h.2
            refine z_last (n := 512) eX1_learn_66 rfl (ofz (hA _ _)) f1  ?_
            refine q_aload_n eX1_learn_67 rfl ?_
            refine q_dup eX1_learn_68 rfl ?_
            refine q_getf (c := 1) (n := 0) (k := 4) (v := .int (Int32.ofInt (s.1 69 4))) eX1_learn_69 rfl (by decide) (by decide) fX1_42 rfl ?_
            refine q_ic (v := Int32.ofInt 1) eX1_learn_72 rfl ?_
            refine z_iadd eX1_learn_73 ?_
            have r2 := h.1
            have h := h.2
            refine z_putI (c := 1) (n := 0) (k := 4) (kz := 4) eX1_learn_74 rfl (by decide) (by decide) fX1_42 rfl rfl rfl ?_
            exact q_subL rfl (h.1 (ra_ui (ra_uj hA) r2) hrp)
      · have h := h.2 c15
        refine q_aload_n eX1_learn_18 rfl ?_
        refine q_aload_n eX1_learn_19 rfl ?_
        refine q_getR (c := 1) (n := 0) (k := 9) (a := 72) eX1_learn_20 rfl (by decide) (by decide) fX1_18 rfl rfl ?_
        refine q_iload_n eX1_learn_23 rfl ?_
        have f3 := h.1
        have h := h.2
        refine z_lald (n := 26) eX1_learn_24 rfl (ofz hrp) f3 ?_
        refine q_topL (v := s.2 72 p) rfl ?_
        refine z_putJ (c := 1) (n := 0) (k := 1) (kz := 1) eX1_learn_25 rfl (by decide) (by decide) fX1_51 rfl rfl rfl ?_
        refine q_aload_n eX1_learn_28 rfl ?_
        refine q_aload_n eX1_learn_29 rfl ?_
        refine q_getR (c := 1) (n := 0) (k := 11) (a := 74) eX1_learn_30 rfl (by decide) (by decide) fX1_24 rfl rfl ?_
        refine q_iload_n eX1_learn_33 rfl ?_
        refine z_lald (n := 26) eX1_learn_34 rfl (ofz hrp) f3 ?_
        refine q_topL (v := s.2 74 p) rfl ?_
        refine z_putJ (c := 1) (n := 0) (k := 2) (kz := 2) eX1_learn_35 rfl (by decide) (by decide) fX1_84 rfl rfl rfl ?_
        refine q_lc (v := 0) eX1_learn_38 rfl ?_
        exact q_lret eX1_learn_39 rfl ⟨_, _, rfl, (ra_uj (ra_uj hA)), rfl, h⟩
    · have h := h.2 c7
      refine q_lc (v := 0) eX1_learn_10 rfl ?_
      exact q_lret eX1_learn_11 rfl ⟨_, _, rfl, hA, rfl, h⟩
theorem eX1_descend_0 : decode cX1_descend 0 = .ok (.iload_n 1, 1) := by decide +kernel
theorem eX1_descend_1 : decode cX1_descend 1 = .ok (.ifCond .lt 11, 3) := by decide +kernel
theorem eX1_descend_4 : decode cX1_descend 4 = .ok (.iload_n 1, 1) := by decide +kernel
theorem eX1_descend_5 : decode cX1_descend 5 = .ok (.iconst 1, 1) := by decide +kernel
theorem eX1_descend_6 : decode cX1_descend 6 = .ok (.iadd, 1) := by decide +kernel
theorem eX1_descend_7 : decode cX1_descend 7 = .ok (.bipush 26, 2) := by decide +kernel
theorem eX1_descend_9 : decode cX1_descend 9 = .ok (.if_icmp .lt 5, 3) := by decide +kernel
theorem eX1_descend_12 : decode cX1_descend 12 = .ok (.iconst (-1), 1) := by decide +kernel
theorem eX1_descend_13 : decode cX1_descend 13 = .ok (.ireturn, 1) := by decide +kernel
theorem eX1_descend_14 : decode cX1_descend 14 = .ok (.aload_n 0, 1) := by decide +kernel
theorem eX1_descend_15 : decode cX1_descend 15 = .ok (.getfield 27, 3) := by decide +kernel
theorem eX1_descend_18 : decode cX1_descend 18 = .ok (.iload_n 1, 1) := by decide +kernel
theorem eX1_descend_19 : decode cX1_descend 19 = .ok (.laload, 1) := by decide +kernel
theorem eX1_descend_20 : decode cX1_descend 20 = .ok (.aload_n 0, 1) := by decide +kernel
theorem eX1_descend_21 : decode cX1_descend 21 = .ok (.getfield 27, 3) := by decide +kernel
theorem eX1_descend_24 : decode cX1_descend 24 = .ok (.iload_n 1, 1) := by decide +kernel
theorem eX1_descend_25 : decode cX1_descend 25 = .ok (.laload, 1) := by decide +kernel
theorem eX1_descend_26 : decode cX1_descend 26 = .ok (.lneg, 1) := by decide +kernel
theorem eX1_descend_27 : decode cX1_descend 27 = .ok (.land, 1) := by decide +kernel
theorem eX1_descend_28 : decode cX1_descend 28 = .ok (.lstore_n 2, 1) := by decide +kernel
theorem eX1_descend_29 : decode cX1_descend 29 = .ok (.aload_n 0, 1) := by decide +kernel
theorem eX1_descend_30 : decode cX1_descend 30 = .ok (.getfield 18, 3) := by decide +kernel
theorem eX1_descend_33 : decode cX1_descend 33 = .ok (.iload_n 1, 1) := by decide +kernel
theorem eX1_descend_34 : decode cX1_descend 34 = .ok (.iconst 1, 1) := by decide +kernel
theorem eX1_descend_35 : decode cX1_descend 35 = .ok (.iadd, 1) := by decide +kernel
theorem eX1_descend_36 : decode cX1_descend 36 = .ok (.aload_n 0, 1) := by decide +kernel
theorem eX1_descend_37 : decode cX1_descend 37 = .ok (.getfield 18, 3) := by decide +kernel
theorem eX1_descend_40 : decode cX1_descend 40 = .ok (.iload_n 1, 1) := by decide +kernel
theorem eX1_descend_41 : decode cX1_descend 41 = .ok (.laload, 1) := by decide +kernel
theorem eX1_descend_42 : decode cX1_descend 42 = .ok (.lload_n 2, 1) := by decide +kernel
theorem eX1_descend_43 : decode cX1_descend 43 = .ok (.lor, 1) := by decide +kernel
theorem eX1_descend_44 : decode cX1_descend 44 = .ok (.lastore, 1) := by decide +kernel
theorem eX1_descend_45 : decode cX1_descend 45 = .ok (.aload_n 0, 1) := by decide +kernel
theorem eX1_descend_46 : decode cX1_descend 46 = .ok (.getfield 21, 3) := by decide +kernel
theorem eX1_descend_49 : decode cX1_descend 49 = .ok (.iload_n 1, 1) := by decide +kernel
theorem eX1_descend_50 : decode cX1_descend 50 = .ok (.iconst 1, 1) := by decide +kernel
theorem eX1_descend_51 : decode cX1_descend 51 = .ok (.iadd, 1) := by decide +kernel
theorem eX1_descend_52 : decode cX1_descend 52 = .ok (.aload_n 0, 1) := by decide +kernel
theorem eX1_descend_53 : decode cX1_descend 53 = .ok (.getfield 21, 3) := by decide +kernel
theorem eX1_descend_56 : decode cX1_descend 56 = .ok (.iload_n 1, 1) := by decide +kernel
theorem eX1_descend_57 : decode cX1_descend 57 = .ok (.laload, 1) := by decide +kernel
theorem eX1_descend_58 : decode cX1_descend 58 = .ok (.lastore, 1) := by decide +kernel
theorem eX1_descend_59 : decode cX1_descend 59 = .ok (.aload_n 0, 1) := by decide +kernel
theorem eX1_descend_60 : decode cX1_descend 60 = .ok (.getfield 24, 3) := by decide +kernel
theorem eX1_descend_63 : decode cX1_descend 63 = .ok (.iload_n 1, 1) := by decide +kernel
theorem eX1_descend_64 : decode cX1_descend 64 = .ok (.iconst 1, 1) := by decide +kernel
theorem eX1_descend_65 : decode cX1_descend 65 = .ok (.iadd, 1) := by decide +kernel
theorem eX1_descend_66 : decode cX1_descend 66 = .ok (.aload_n 0, 1) := by decide +kernel
theorem eX1_descend_67 : decode cX1_descend 67 = .ok (.getfield 24, 3) := by decide +kernel
theorem eX1_descend_70 : decode cX1_descend 70 = .ok (.iload_n 1, 1) := by decide +kernel
theorem eX1_descend_71 : decode cX1_descend 71 = .ok (.laload, 1) := by decide +kernel
theorem eX1_descend_72 : decode cX1_descend 72 = .ok (.aload_n 0, 1) := by decide +kernel
theorem eX1_descend_73 : decode cX1_descend 73 = .ok (.lload_n 2, 1) := by decide +kernel
theorem eX1_descend_74 : decode cX1_descend 74 = .ok (.invokevirtual 91, 3) := by decide +kernel
theorem eX1_descend_77 : decode cX1_descend 77 = .ok (.ladd, 1) := by decide +kernel
theorem eX1_descend_78 : decode cX1_descend 78 = .ok (.lastore, 1) := by decide +kernel
theorem eX1_descend_79 : decode cX1_descend 79 = .ok (.aload_n 0, 1) := by decide +kernel
theorem eX1_descend_80 : decode cX1_descend 80 = .ok (.getfield 27, 3) := by decide +kernel
theorem eX1_descend_83 : decode cX1_descend 83 = .ok (.iload_n 1, 1) := by decide +kernel
theorem eX1_descend_84 : decode cX1_descend 84 = .ok (.dup2, 1) := by decide +kernel
theorem eX1_descend_85 : decode cX1_descend 85 = .ok (.laload, 1) := by decide +kernel
theorem eX1_descend_86 : decode cX1_descend 86 = .ok (.lload_n 2, 1) := by decide +kernel
theorem eX1_descend_87 : decode cX1_descend 87 = .ok (.ldc2_w 63, 3) := by decide +kernel
theorem eX1_descend_90 : decode cX1_descend 90 = .ok (.lxor, 1) := by decide +kernel
theorem eX1_descend_91 : decode cX1_descend 91 = .ok (.land, 1) := by decide +kernel
theorem eX1_descend_92 : decode cX1_descend 92 = .ok (.lastore, 1) := by decide +kernel
theorem eX1_descend_93 : decode cX1_descend 93 = .ok (.aload_n 0, 1) := by decide +kernel
theorem eX1_descend_94 : decode cX1_descend 94 = .ok (.getfield 21, 3) := by decide +kernel
theorem eX1_descend_97 : decode cX1_descend 97 = .ok (.iload_n 1, 1) := by decide +kernel
theorem eX1_descend_98 : decode cX1_descend 98 = .ok (.dup2, 1) := by decide +kernel
theorem eX1_descend_99 : decode cX1_descend 99 = .ok (.laload, 1) := by decide +kernel
theorem eX1_descend_100 : decode cX1_descend 100 = .ok (.lload_n 2, 1) := by decide +kernel
theorem eX1_descend_101 : decode cX1_descend 101 = .ok (.lor, 1) := by decide +kernel
theorem eX1_descend_102 : decode cX1_descend 102 = .ok (.lastore, 1) := by decide +kernel
theorem eX1_descend_103 : decode cX1_descend 103 = .ok (.iload_n 1, 1) := by decide +kernel
theorem eX1_descend_104 : decode cX1_descend 104 = .ok (.iconst 1, 1) := by decide +kernel
theorem eX1_descend_105 : decode cX1_descend 105 = .ok (.iadd, 1) := by decide +kernel
theorem eX1_descend_106 : decode cX1_descend 106 = .ok (.ireturn, 1) := by decide +kernel
def C_X1_descend (s : ST) (p : Int) (Q : ST → Int → Prop) : Prop := bx <| RA s → R32 p → q_met mX1_descend (qs layX s) [.ref 69, .int (Int32.ofInt p)] (PI layX Q)
theorem C_X1_descend.mono {s : ST} {p : Int} {Q Q' : ST → Int → Prop} (h : C_X1_descend s p Q) (hq : ∀ s v, Q s v → Q' s v) : C_X1_descend s p Q' := ⟨fun hA hrp => q_met.mono (h.1 hA hrp) (fun _ _ => PI.mono hq), trivial⟩
set_option maxRecDepth 20000 in
theorem s_X1_descend {s : ST} {p : Int} {Q : ST → Int → Prop} (h : RA s → R32 p → ((p < 0 → Q s (-1)) ∧ (¬ p < 0 → (R32 (p + 1) ∧ (((p + 1) < 26 → (((0 : Int) ≤ p ∧ p < 26) ∧ (((0 : Int) ≤ (p + 1) ∧ (p + 1) < 26) ∧ (C_X1_leastWeight (uj (uj s 72 (p + 1) (s.2 72 p ||| (s.2 75 p &&& (-s.2 75 p)))) 73 (p + 1) (s.2 73 p)) (s.2 75 p &&& (-s.2 75 p)) (fun s4 v4 => Q (uj (uj (uj s4 74 (p + 1) (s.2 74 p + v4)) 75 p (s4.2 75 p &&& ((s.2 75 p &&& (-s.2 75 p)) ^^^ (-1)))) 73 p (s4.2 73 p ||| (s.2 75 p &&& (-s.2 75 p)))) (p + 1)))))) ∧ (¬ (p + 1) < 26 → Q s (-1))))))) : C_X1_descend s p Q := by
  refine ⟨?_, trivial⟩
  intro hA hrp
  have h := h hA hrp
  refine q_enter (by decide) (Nat.le_of_ble_eq_true rfl) ?_
  refine q_iload_n eX1_descend_0 rfl ?_
  refine q_iz_lt (tgt := 12) (a := p) eX1_descend_1 (by decide) (ofz hrp) (fun c1 => ?_) (fun c1 => ?_)
  · have h := h.1 c1
    refine q_ic (v := Int32.ofInt (-1)) eX1_descend_12 rfl ?_
    exact q_iret eX1_descend_13 rfl ⟨_, _, rfl, hA, (r32l rfl), rfl, h⟩
  · have h := h.2 c1
    refine q_iload_n eX1_descend_4 rfl ?_
    refine q_ic (v := Int32.ofInt 1) eX1_descend_5 rfl ?_
    refine z_iadd eX1_descend_6 ?_
    have r1 := h.1
    have h := h.2
    refine q_bi (v := Int32.ofInt 26) eX1_descend_7 rfl ?_
    refine q_cz_lt (tgt := 14) (a := (p + 1)) (b := 26) eX1_descend_9 (by decide) (ofz r1) (ofz (r32l rfl)) (fun c9 => ?_) (fun c9 => ?_)
    · have h := h.1 c9
      refine q_aload_n eX1_descend_14 rfl ?_
      refine q_getR (c := 1) (n := 0) (k := 12) (a := 75) eX1_descend_15 rfl (by decide) (by decide) fX1_27 rfl rfl ?_
      refine q_iload_n eX1_descend_18 rfl ?_
      have f2 := h.1
      have h := h.2
      refine z_lald (n := 26) eX1_descend_19 rfl (ofz hrp) f2 ?_
      refine q_topL (v := s.2 75 p) rfl ?_
      refine q_aload_n eX1_descend_20 rfl ?_
      refine q_getR (c := 1) (n := 0) (k := 12) (a := 75) eX1_descend_21 rfl (by decide) (by decide) fX1_27 rfl rfl ?_
      refine q_iload_n eX1_descend_24 rfl ?_
      refine z_lald (n := 26) eX1_descend_25 rfl (ofz hrp) f2 ?_
      refine q_topL (v := s.2 75 p) rfl ?_
      refine q_lneg eX1_descend_26 ?_
      refine q_land eX1_descend_27 ?_
      refine q_lstore_n eX1_descend_28 (Nat.le_of_ble_eq_true rfl) ?_
      refine q_aload_n eX1_descend_29 rfl ?_
      refine q_getR (c := 1) (n := 0) (k := 9) (a := 72) eX1_descend_30 rfl (by decide) (by decide) fX1_18 rfl rfl ?_
      refine q_iload_n eX1_descend_33 rfl ?_
      refine q_ic (v := Int32.ofInt 1) eX1_descend_34 rfl ?_
      refine z_iadd eX1_descend_35 ?_
      refine q_aload_n eX1_descend_36 rfl ?_
      refine q_getR (c := 1) (n := 0) (k := 9) (a := 72) eX1_descend_37 rfl (by decide) (by decide) fX1_18 rfl rfl ?_
      refine q_iload_n eX1_descend_40 rfl ?_
      refine z_lald (n := 26) eX1_descend_41 rfl (ofz hrp) f2 ?_
      refine q_topL (v := s.2 72 p) rfl ?_
      refine q_lload_n eX1_descend_42 rfl ?_
      refine q_lor eX1_descend_43 ?_
      have f3 := h.1
      have h := h.2
      refine z_last (n := 26) eX1_descend_44 rfl (ofz r1) f3  ?_
      refine q_aload_n eX1_descend_45 rfl ?_
      refine q_getR (c := 1) (n := 0) (k := 10) (a := 73) eX1_descend_46 rfl (by decide) (by decide) fX1_21 rfl rfl ?_
      refine q_iload_n eX1_descend_49 rfl ?_
      refine q_ic (v := Int32.ofInt 1) eX1_descend_50 rfl ?_
      refine z_iadd eX1_descend_51 ?_
      refine q_aload_n eX1_descend_52 rfl ?_
      refine q_getR (c := 1) (n := 0) (k := 10) (a := 73) eX1_descend_53 rfl (by decide) (by decide) fX1_21 rfl rfl ?_
      refine q_iload_n eX1_descend_56 rfl ?_
      refine z_lald (n := 26) eX1_descend_57 rfl (ofz hrp) f2 ?_
      refine q_topL (v := s.2 73 p) rfl ?_
      refine z_last (n := 26) eX1_descend_58 rfl (ofz r1) f3  ?_
      refine q_aload_n eX1_descend_59 rfl ?_
      refine q_getR (c := 1) (n := 0) (k := 11) (a := 74) eX1_descend_60 rfl (by decide) (by decide) fX1_24 rfl rfl ?_
      refine q_iload_n eX1_descend_63 rfl ?_
      refine q_ic (v := Int32.ofInt 1) eX1_descend_64 rfl ?_
      refine z_iadd eX1_descend_65 ?_
      refine q_aload_n eX1_descend_66 rfl ?_
      refine q_getR (c := 1) (n := 0) (k := 11) (a := 74) eX1_descend_67 rfl (by decide) (by decide) fX1_24 rfl rfl ?_
      refine q_iload_n eX1_descend_70 rfl ?_
      refine z_lald (n := 26) eX1_descend_71 rfl (ofz hrp) f2 ?_
      refine q_topL (v := s.2 74 p) rfl ?_
      refine q_aload_n eX1_descend_72 rfl ?_
      refine q_lload_n eX1_descend_73 rfl ?_
      refine q_V1 (ci := 1) (n := 0) eX1_descend_74 DX1_leastWeight lX1_91 rfl (by decide) rfl rfl rfl rfl (h.1 (ra_uj (ra_uj hA))) ?_
      rintro _ _ ⟨s4, v4, rfl, hA4, rfl, h⟩
      refine q_ladd eX1_descend_77 ?_
      refine z_last (n := 26) eX1_descend_78 rfl (ofz r1) f3  ?_
      refine q_aload_n eX1_descend_79 rfl ?_
      refine q_getR (c := 1) (n := 0) (k := 12) (a := 75) eX1_descend_80 rfl (by decide) (by decide) fX1_27 rfl rfl ?_
      refine q_iload_n eX1_descend_83 rfl ?_
      refine q_dup2 eX1_descend_84 rfl rfl ?_
      refine z_lald (n := 26) eX1_descend_85 rfl (ofz hrp) f2 ?_
      refine q_topL (v := s4.2 75 p) rfl ?_
      refine q_lload_n eX1_descend_86 rfl ?_
      refine q_ldc2 (v := (-1)) eX1_descend_87 nX1_63 ?_
      refine q_lxor eX1_descend_90 ?_
      refine q_land eX1_descend_91 ?_
      refine z_last (n := 26) eX1_descend_92 rfl (ofz hrp) f2  ?_
      refine q_aload_n eX1_descend_93 rfl ?_
      refine q_getR (c := 1) (n := 0) (k := 10) (a := 73) eX1_descend_94 rfl (by decide) (by decide) fX1_21 rfl rfl ?_
      refine q_iload_n eX1_descend_97 rfl ?_
      refine q_dup2 eX1_descend_98 rfl rfl ?_
      refine z_lald (n := 26) eX1_descend_99 rfl (ofz hrp) f2 ?_
      refine q_topL (v := s4.2 73 p) rfl ?_
      refine q_lload_n eX1_descend_100 rfl ?_
      refine q_lor eX1_descend_101 ?_
      refine z_last (n := 26) eX1_descend_102 rfl (ofz hrp) f2  ?_
      refine q_iload_n eX1_descend_103 rfl ?_
      refine q_ic (v := Int32.ofInt 1) eX1_descend_104 rfl ?_
      refine z_iadd eX1_descend_105 ?_
      exact q_iret eX1_descend_106 rfl ⟨_, _, rfl, (ra_uj (ra_uj (ra_uj hA4))), r1, rfl, h⟩
    · have h := h.2 c9
      refine q_ic (v := Int32.ofInt (-1)) eX1_descend_12 rfl ?_
      exact q_iret eX1_descend_13 rfl ⟨_, _, rfl, hA, (r32l rfl), rfl, h⟩
theorem eX1_find_0 : decode cX1_find 0 = .ok (.aload_n 0, 1) := by decide +kernel
theorem eX1_find_1 : decode cX1_find 1 = .ok (.getfield 38, 3) := by decide +kernel
theorem eX1_find_4 : decode cX1_find 4 = .ok (.ifCond .ne 15, 3) := by decide +kernel
theorem eX1_find_7 : decode cX1_find 7 = .ok (.aload_n 0, 1) := by decide +kernel
theorem eX1_find_8 : decode cX1_find 8 = .ok (.getfield 30, 3) := by decide +kernel
theorem eX1_find_11 : decode cX1_find 11 = .ok (.getfield 46, 3) := by decide +kernel
theorem eX1_find_14 : decode cX1_find 14 = .ok (.bipush 24, 2) := by decide +kernel
theorem eX1_find_16 : decode cX1_find 16 = .ok (.if_icmp .le 8, 3) := by decide +kernel
theorem eX1_find_19 : decode cX1_find 19 = .ok (.aload_n 0, 1) := by decide +kernel
theorem eX1_find_20 : decode cX1_find 20 = .ok (.getfield 51, 3) := by decide +kernel
theorem eX1_find_23 : decode cX1_find 23 = .ok (.lreturn, 1) := by decide +kernel
theorem eX1_find_24 : decode cX1_find 24 = .ok (.aload_n 0, 1) := by decide +kernel
theorem eX1_find_25 : decode cX1_find 25 = .ok (.iconst 1, 1) := by decide +kernel
theorem eX1_find_26 : decode cX1_find 26 = .ok (.putfield 38, 3) := by decide +kernel
theorem eX1_find_29 : decode cX1_find 29 = .ok (.aload_n 0, 1) := by decide +kernel
theorem eX1_find_30 : decode cX1_find 30 = .ok (.invokevirtual 55, 3) := by decide +kernel
theorem eX1_find_33 : decode cX1_find 33 = .ok (.iconst 0, 1) := by decide +kernel
theorem eX1_find_34 : decode cX1_find 34 = .ok (.istore_n 1, 1) := by decide +kernel
theorem eX1_find_35 : decode cX1_find 35 = .ok (.iconst 1, 1) := by decide +kernel
theorem eX1_find_36 : decode cX1_find 36 = .ok (.istore_n 2, 1) := by decide +kernel
theorem eX1_find_37 : decode cX1_find 37 = .ok (.iconst 0, 1) := by decide +kernel
theorem eX1_find_38 : decode cX1_find 38 = .ok (.istore_n 3, 1) := by decide +kernel
theorem eX1_find_39 : decode cX1_find 39 = .ok (.iload_n 1, 1) := by decide +kernel
theorem eX1_find_40 : decode cX1_find 40 = .ok (.ifCond .lt 118, 3) := by decide +kernel
theorem eX1_find_43 : decode cX1_find 43 = .ok (.iload_n 1, 1) := by decide +kernel
theorem eX1_find_44 : decode cX1_find 44 = .ok (.bipush 26, 2) := by decide +kernel
theorem eX1_find_46 : decode cX1_find 46 = .ok (.if_icmp .ge 112, 3) := by decide +kernel
theorem eX1_find_49 : decode cX1_find 49 = .ok (.iload_n 3, 1) := by decide +kernel
theorem eX1_find_50 : decode cX1_find 50 = .ok (.ldc 58, 2) := by decide +kernel
theorem eX1_find_52 : decode cX1_find 52 = .ok (.if_icmp .ge 106, 3) := by decide +kernel
theorem eX1_find_55 : decode cX1_find 55 = .ok (.iload_n 2, 1) := by decide +kernel
theorem eX1_find_56 : decode cX1_find 56 = .ok (.ifCond .eq 14, 3) := by decide +kernel
theorem eX1_find_59 : decode cX1_find 59 = .ok (.aload_n 0, 1) := by decide +kernel
theorem eX1_find_60 : decode cX1_find 60 = .ok (.getfield 27, 3) := by decide +kernel
theorem eX1_find_63 : decode cX1_find 63 = .ok (.iload_n 1, 1) := by decide +kernel
theorem eX1_find_64 : decode cX1_find 64 = .ok (.aload_n 0, 1) := by decide +kernel
theorem eX1_find_65 : decode cX1_find 65 = .ok (.iload_n 1, 1) := by decide +kernel
theorem eX1_find_66 : decode cX1_find 66 = .ok (.invokevirtual 59, 3) := by decide +kernel
theorem eX1_find_69 : decode cX1_find 69 = .ok (.lastore, 1) := by decide +kernel
theorem eX1_find_70 : decode cX1_find 70 = .ok (.aload_n 0, 1) := by decide +kernel
theorem eX1_find_71 : decode cX1_find 71 = .ok (.getfield 27, 3) := by decide +kernel
theorem eX1_find_74 : decode cX1_find 74 = .ok (.iload_n 1, 1) := by decide +kernel
theorem eX1_find_75 : decode cX1_find 75 = .ok (.laload, 1) := by decide +kernel
theorem eX1_find_76 : decode cX1_find 76 = .ok (.ldc2_w 63, 3) := by decide +kernel
theorem eX1_find_79 : decode cX1_find 79 = .ok (.lcmp, 1) := by decide +kernel
theorem eX1_find_80 : decode cX1_find 80 = .ok (.ifCond .ne 39, 3) := by decide +kernel
theorem eX1_find_83 : decode cX1_find 83 = .ok (.aload_n 0, 1) := by decide +kernel
theorem eX1_find_84 : decode cX1_find 84 = .ok (.getfield 27, 3) := by decide +kernel
theorem eX1_find_87 : decode cX1_find 87 = .ok (.iload_n 1, 1) := by decide +kernel
theorem eX1_find_88 : decode cX1_find 88 = .ok (.aload_n 0, 1) := by decide +kernel
theorem eX1_find_89 : decode cX1_find 89 = .ok (.iload_n 1, 1) := by decide +kernel
theorem eX1_find_90 : decode cX1_find 90 = .ok (.aload_n 0, 1) := by decide +kernel
theorem eX1_find_91 : decode cX1_find 91 = .ok (.getfield 34, 3) := by decide +kernel
theorem eX1_find_94 : decode cX1_find 94 = .ok (.aload_n 0, 1) := by decide +kernel
theorem eX1_find_95 : decode cX1_find 95 = .ok (.getfield 30, 3) := by decide +kernel
theorem eX1_find_98 : decode cX1_find 98 = .ok (.invokevirtual 65, 3) := by decide +kernel
theorem eX1_find_101 : decode cX1_find 101 = .ok (.aload_n 0, 1) := by decide +kernel
theorem eX1_find_102 : decode cX1_find 102 = .ok (.getfield 18, 3) := by decide +kernel
theorem eX1_find_105 : decode cX1_find 105 = .ok (.iload_n 1, 1) := by decide +kernel
theorem eX1_find_106 : decode cX1_find 106 = .ok (.laload, 1) := by decide +kernel
theorem eX1_find_107 : decode cX1_find 107 = .ok (.ldc2_w 63, 3) := by decide +kernel
theorem eX1_find_110 : decode cX1_find 110 = .ok (.lxor, 1) := by decide +kernel
theorem eX1_find_111 : decode cX1_find 111 = .ok (.land, 1) := by decide +kernel
theorem eX1_find_112 : decode cX1_find 112 = .ok (.invokevirtual 69, 3) := by decide +kernel
theorem eX1_find_115 : decode cX1_find 115 = .ok (.invokevirtual 75, 3) := by decide +kernel
theorem eX1_find_118 : decode cX1_find 118 = .ok (.lastore, 1) := by decide +kernel
theorem eX1_find_119 : decode cX1_find 119 = .ok (.aload_n 0, 1) := by decide +kernel
theorem eX1_find_120 : decode cX1_find 120 = .ok (.getfield 27, 3) := by decide +kernel
theorem eX1_find_123 : decode cX1_find 123 = .ok (.iload_n 1, 1) := by decide +kernel
theorem eX1_find_124 : decode cX1_find 124 = .ok (.laload, 1) := by decide +kernel
theorem eX1_find_125 : decode cX1_find 125 = .ok (.lconst 0, 1) := by decide +kernel
theorem eX1_find_126 : decode cX1_find 126 = .ok (.lcmp, 1) := by decide +kernel
theorem eX1_find_127 : decode cX1_find 127 = .ok (.ifCond .eq 7, 3) := by decide +kernel
theorem eX1_find_130 : decode cX1_find 130 = .ok (.iconst 1, 1) := by decide +kernel
theorem eX1_find_131 : decode cX1_find 131 = .ok (.goto 4, 3) := by decide +kernel
theorem eX1_find_134 : decode cX1_find 134 = .ok (.iconst 0, 1) := by decide +kernel
theorem eX1_find_135 : decode cX1_find 135 = .ok (.istore_n 2, 1) := by decide +kernel
theorem eX1_find_136 : decode cX1_find 136 = .ok (.iload_n 2, 1) := by decide +kernel
theorem eX1_find_137 : decode cX1_find 137 = .ok (.ifCond .eq 11, 3) := by decide +kernel
theorem eX1_find_140 : decode cX1_find 140 = .ok (.aload_n 0, 1) := by decide +kernel
theorem eX1_find_141 : decode cX1_find 141 = .ok (.iload_n 1, 1) := by decide +kernel
theorem eX1_find_142 : decode cX1_find 142 = .ok (.invokevirtual 79, 3) := by decide +kernel
theorem eX1_find_145 : decode cX1_find 145 = .ok (.goto 6, 3) := by decide +kernel
theorem eX1_find_148 : decode cX1_find 148 = .ok (.iload_n 1, 1) := by decide +kernel
theorem eX1_find_149 : decode cX1_find 149 = .ok (.iconst 1, 1) := by decide +kernel
theorem eX1_find_150 : decode cX1_find 150 = .ok (.isub, 1) := by decide +kernel
theorem eX1_find_151 : decode cX1_find 151 = .ok (.istore_n 1, 1) := by decide +kernel
theorem eX1_find_152 : decode cX1_find 152 = .ok (.iinc 3 1, 3) := by decide +kernel
theorem eX1_find_155 : decode cX1_find 155 = .ok (.goto (-116), 3) := by decide +kernel
theorem eX1_find_158 : decode cX1_find 158 = .ok (.aload_n 0, 1) := by decide +kernel
theorem eX1_find_159 : decode cX1_find 159 = .ok (.getfield 51, 3) := by decide +kernel
theorem eX1_find_162 : decode cX1_find 162 = .ok (.lreturn, 1) := by decide +kernel
def C_X1_find (s : ST) (Q : ST → Int64 → Prop) : Prop := bx <| RA s → q_met mX1_find (qs layX s) [.ref 69] (PL layX Q)
theorem C_X1_find.mono {s : ST} {Q Q' : ST → Int64 → Prop} (h : C_X1_find s Q) (hq : ∀ s v, Q s v → Q' s v) : C_X1_find s Q' := ⟨fun hA => q_met.mono (h.1 hA) (fun _ _ => PL.mono hq), trivial⟩
def K_X1_find_135 (s : ST) (a1 : Int) (a3 : Int) (t0 : Int) (Q : ST → Int64 → Prop) : Prop := bx <| RA s → R32 a1 → R32 a3 → R32 t0 → q_K mX1_find (qs layX s) 0 0 135 [(0, .ref 69), (1, .int (Int32.ofInt a1)), (3, .int (Int32.ofInt a3))] [.int (Int32.ofInt t0)] (q_fin mX1_find (PL layX Q))
def K_X1_find_119 (s : ST) (a1 : Int) (a3 : Int) (Q : ST → Int64 → Prop) : Prop := bx <| RA s → R32 a1 → R32 a3 → q_K mX1_find (qs layX s) 0 0 119 [(0, .ref 69), (1, .int (Int32.ofInt a1)), (3, .int (Int32.ofInt a3))] [] (q_fin mX1_find (PL layX Q))
def K_X1_find_70 (s : ST) (a1 : Int) (a3 : Int) (Q : ST → Int64 → Prop) : Prop := bx <| RA s → R32 a1 → R32 a3 → q_K mX1_find (qs layX s) 0 0 70 [(0, .ref 69), (1, .int (Int32.ofInt a1)), (3, .int (Int32.ofInt a3))] [] (q_fin mX1_find (PL layX Q))
def K_X1_find_39 (s : ST) (a1 : Int) (a2 : Int) (a3 : Int) (Q : ST → Int64 → Prop) : Prop := bx <| RA s → R32 a1 → R32 a2 → R32 a3 → q_K mX1_find (qs layX s) 0 0 39 [(0, .ref 69), (1, .int (Int32.ofInt a1)), (2, .int (Int32.ofInt a2)), (3, .int (Int32.ofInt a3))] [] (q_fin mX1_find (PL layX Q))
set_option maxRecDepth 20000 in
theorem s_X1_find_135 {s : ST} {a1 : Int} {a3 : Int} {t0 : Int} {Q : ST → Int64 → Prop} (h : RA s → R32 a1 → R32 a3 → R32 t0 → ((t0 = 0 → (R32 (a1 - 1) ∧ (R32 (a3 + 1) ∧ K_X1_find_39 s (a1 - 1) t0 (a3 + 1) Q))) ∧ (¬ t0 = 0 → (C_X1_descend s a1 (fun s3 v3 => (R32 (a3 + 1) ∧ K_X1_find_39 s3 v3 t0 (a3 + 1) Q)))))) : K_X1_find_135 s a1 a3 t0 Q := by
  refine ⟨?_, trivial⟩
  intro hA hra1 hra3 hrt0
  have h := h hA hra1 hra3 hrt0
  refine q_istore_n eX1_find_135 (Nat.le_of_ble_eq_true rfl) ?_
  refine q_iload_n eX1_find_136 rfl ?_
  refine q_iz_eq (tgt := 148) (a := t0) eX1_find_137 (by decide) (ofz hrt0) (fun c137 => ?_) (fun c137 => ?_)
  · have h := h.1 c137
    refine q_iload_n eX1_find_148 rfl ?_
    refine q_ic (v := Int32.ofInt 1) eX1_find_149 rfl ?_
    refine z_isub eX1_find_150 ?_
    have r1 := h.1
    have h := h.2
    refine q_istore_n eX1_find_151 (Nat.le_of_ble_eq_true rfl) ?_
    have r2 := h.1
    have h := h.2
    refine z_inc (m := 1) eX1_find_152 rfl (Nat.le_of_ble_eq_true rfl) rfl ?_
    refine q_goto (tgt := 39) eX1_find_155 (by decide) ?_
    exact q_subL rfl (h.1 hA r1 hrt0 r2)
  · have h := h.2 c137
    refine q_aload_n eX1_find_140 rfl ?_
    refine q_iload_n eX1_find_141 rfl ?_
    refine q_V1 (ci := 1) (n := 0) eX1_find_142 DX1_descend lX1_79 rfl (by decide) rfl rfl rfl rfl (h.1 hA hra1) ?_
    rintro _ _ ⟨s3, v3, rfl, hA3, r3, rfl, h⟩
    refine q_goto (tgt := 151) eX1_find_145 (by decide) ?_
    refine q_istore_n eX1_find_151 (Nat.le_of_ble_eq_true rfl) ?_
    have r4 := h.1
    have h := h.2
    refine z_inc (m := 1) eX1_find_152 rfl (Nat.le_of_ble_eq_true rfl) rfl ?_
    refine q_goto (tgt := 39) eX1_find_155 (by decide) ?_
    exact q_subL rfl (h.1 hA3 r3 hrt0 r4)
set_option maxRecDepth 20000 in
theorem s_X1_find_119 {s : ST} {a1 : Int} {a3 : Int} {Q : ST → Int64 → Prop} (h : RA s → R32 a1 → R32 a3 → (((0 : Int) ≤ a1 ∧ a1 < 26) ∧ (((s.2 75 a1) = 0 → K_X1_find_135 s a1 a3 0 Q) ∧ (¬ (s.2 75 a1) = 0 → K_X1_find_135 s a1 a3 1 Q)))) : K_X1_find_119 s a1 a3 Q := by
  refine ⟨?_, trivial⟩
  intro hA hra1 hra3
  have h := h hA hra1 hra3
  refine q_aload_n eX1_find_119 rfl ?_
  refine q_getR (c := 1) (n := 0) (k := 12) (a := 75) eX1_find_120 rfl (by decide) (by decide) fX1_27 rfl rfl ?_
  refine q_iload_n eX1_find_123 rfl ?_
  have f1 := h.1
  have h := h.2
  refine z_lald (n := 26) eX1_find_124 rfl (ofz hra1) f1 ?_
  refine q_topL (v := s.2 75 a1) rfl ?_
  refine q_lc (v := 0) eX1_find_125 rfl ?_
  refine q_lcmp eX1_find_126 ?_
  refine z_lc_eq (tgt := 134) eX1_find_127 (by decide) (fun c127 => ?_) (fun c127 => ?_)
  · have h := h.1 c127
    refine q_ic (v := Int32.ofInt 0) eX1_find_134 rfl ?_
    exact q_subL rfl (h.1 hA hra1 hra3 (r32l rfl))
  · have h := h.2 c127
    refine q_ic (v := Int32.ofInt 1) eX1_find_130 rfl ?_
    refine q_goto (tgt := 135) eX1_find_131 (by decide) ?_
    exact q_subL rfl (h.1 hA hra1 hra3 (r32l rfl))
set_option maxRecDepth 20000 in
theorem s_X1_find_70 {s : ST} {a1 : Int} {a3 : Int} {Q : ST → Int64 → Prop} (h : RA s → R32 a1 → R32 a3 → (((0 : Int) ≤ a1 ∧ a1 < 26) ∧ ((¬ (s.2 75 a1) = (-1) → K_X1_find_119 s a1 a3 Q) ∧ ((s.2 75 a1) = (-1) → (C_X0_coreWithin 51 s (((lshl 1 (s.1 2 1)) - 1) &&& (s.2 72 a1 ^^^ (-1))) (fun s3 v3 => (C_X1_learn s3 a1 v3 (fun s4 v4 => K_X1_find_119 (uj s4 75 a1 v4) a1 a3 Q)))))))) : K_X1_find_70 s a1 a3 Q := by
  refine ⟨?_, trivial⟩
  intro hA hra1 hra3
  have h := h hA hra1 hra3
  refine q_aload_n eX1_find_70 rfl ?_
  refine q_getR (c := 1) (n := 0) (k := 12) (a := 75) eX1_find_71 rfl (by decide) (by decide) fX1_27 rfl rfl ?_
  refine q_iload_n eX1_find_74 rfl ?_
  have f1 := h.1
  have h := h.2
  refine z_lald (n := 26) eX1_find_75 rfl (ofz hra1) f1 ?_
  refine q_topL (v := s.2 75 a1) rfl ?_
  refine q_ldc2 (v := (-1)) eX1_find_76 nX1_63 ?_
  refine q_lcmp eX1_find_79 ?_
  refine z_lc_ne (tgt := 119) eX1_find_80 (by decide) (fun c80 => ?_) (fun c80 => ?_)
  · have h := h.1 c80
    exact q_subL rfl (h.1 hA hra1 hra3)
  · have h := h.2 c80
    refine q_aload_n eX1_find_83 rfl ?_
    refine q_getR (c := 1) (n := 0) (k := 12) (a := 75) eX1_find_84 rfl (by decide) (by decide) fX1_27 rfl rfl ?_
    refine q_iload_n eX1_find_87 rfl ?_
    refine q_aload_n eX1_find_88 rfl ?_
    refine q_iload_n eX1_find_89 rfl ?_
    refine q_aload_n eX1_find_90 rfl ?_
    refine q_getR (c := 1) (n := 0) (k := 6) (a := 51) eX1_find_91 rfl (by decide) (by decide) fX1_34 rfl rfl ?_
    refine q_aload_n eX1_find_94 rfl ?_
    refine q_getR (c := 1) (n := 0) (k := 5) (a := 2) eX1_find_95 rfl (by decide) (by decide) fX1_30 rfl rfl ?_
    refine q_V0 (ci := 9) (n := 0) eX1_find_98 DX9_all lX1_65 rfl (by decide) rfl rfl rfl rfl (p_X9_all (by decide) hA) ?_
    rintro _ _ ⟨rfl, rfl⟩
    refine q_aload_n eX1_find_101 rfl ?_
    refine q_getR (c := 1) (n := 0) (k := 9) (a := 72) eX1_find_102 rfl (by decide) (by decide) fX1_18 rfl rfl ?_
    refine q_iload_n eX1_find_105 rfl ?_
    refine z_lald (n := 26) eX1_find_106 rfl (ofz hra1) f1 ?_
    refine q_topL (v := s.2 72 a1) rfl ?_
    refine q_ldc2 (v := (-1)) eX1_find_107 nX1_63 ?_
    refine q_lxor eX1_find_110 ?_
    refine q_land eX1_find_111 ?_
    refine q_V1 (ci := 0) (n := 0) eX1_find_112 DX0_coreWithin lX1_69 rfl (by decide) rfl rfl rfl rfl (h.1 (by decide) hA) ?_
    rintro _ _ ⟨s3, v3, rfl, hA3, rfl, h⟩
    refine q_V2 (ci := 1) (n := 0) eX1_find_115 DX1_learn lX1_75 rfl (by decide) rfl rfl rfl rfl (h.1 hA3 hra1) ?_
    rintro _ _ ⟨s4, v4, rfl, hA4, rfl, h⟩
    refine z_last (n := 26) eX1_find_118 rfl (ofz hra1) f1  ?_
    exact q_subL rfl (h.1 (ra_uj hA4) hra1 hra3)
set_option maxRecDepth 20000 in
theorem s_X1_find_39 {s : ST} {a1 : Int} {a2 : Int} {a3 : Int} {Q : ST → Int64 → Prop} (h : RA s → R32 a1 → R32 a2 → R32 a3 → ((a1 < 0 → Q s (s.2 69 1)) ∧ (¬ a1 < 0 → ((26 ≤ a1 → Q s (s.2 69 1)) ∧ (¬ 26 ≤ a1 → ((1000000 ≤ a3 → Q s (s.2 69 1)) ∧ (¬ 1000000 ≤ a3 → ((a2 = 0 → K_X1_find_70 s a1 a3 Q) ∧ (¬ a2 = 0 → (C_X1_branches s a1 (fun s1 v1 => (((0 : Int) ≤ a1 ∧ a1 < 26) ∧ K_X1_find_70 (uj s1 75 a1 v1) a1 a3 Q)))))))))))) : K_X1_find_39 s a1 a2 a3 Q := by
  refine ⟨?_, trivial⟩
  intro hA hra1 hra2 hra3
  have h := h hA hra1 hra2 hra3
  refine q_iload_n eX1_find_39 rfl ?_
  refine q_iz_lt (tgt := 158) (a := a1) eX1_find_40 (by decide) (ofz hra1) (fun c40 => ?_) (fun c40 => ?_)
  · have h := h.1 c40
    refine q_aload_n eX1_find_158 rfl ?_
    refine q_getf (c := 1) (n := 0) (k := 1) (v := .long (s.2 69 1)) eX1_find_159 rfl (by decide) (by decide) fX1_51 rfl ?_
    exact q_lret eX1_find_162 rfl ⟨_, _, rfl, hA, rfl, h⟩
  · have h := h.2 c40
    refine q_iload_n eX1_find_43 rfl ?_
    refine q_bi (v := Int32.ofInt 26) eX1_find_44 rfl ?_
    refine q_cz_ge (tgt := 158) (a := a1) (b := 26) eX1_find_46 (by decide) (ofz hra1) (ofz (r32l rfl)) (fun c46 => ?_) (fun c46 => ?_)
    · have h := h.1 c46
      refine q_aload_n eX1_find_158 rfl ?_
      refine q_getf (c := 1) (n := 0) (k := 1) (v := .long (s.2 69 1)) eX1_find_159 rfl (by decide) (by decide) fX1_51 rfl ?_
      exact q_lret eX1_find_162 rfl ⟨_, _, rfl, hA, rfl, h⟩
    · have h := h.2 c46
      refine q_iload_n eX1_find_49 rfl ?_
      refine q_ldc (v := 1000000) eX1_find_50 nX1_58 ?_
      refine q_topI (v := Int32.ofInt 1000000) rfl ?_
      refine q_cz_ge (tgt := 158) (a := a3) (b := 1000000) eX1_find_52 (by decide) (ofz hra3) (ofz (r32l rfl)) (fun c52 => ?_) (fun c52 => ?_)
      · have h := h.1 c52
        refine q_aload_n eX1_find_158 rfl ?_
        refine q_getf (c := 1) (n := 0) (k := 1) (v := .long (s.2 69 1)) eX1_find_159 rfl (by decide) (by decide) fX1_51 rfl ?_
        exact q_lret eX1_find_162 rfl ⟨_, _, rfl, hA, rfl, h⟩
      · have h := h.2 c52
        refine q_iload_n eX1_find_55 rfl ?_
        refine q_iz_eq (tgt := 70) (a := a2) eX1_find_56 (by decide) (ofz hra2) (fun c56 => ?_) (fun c56 => ?_)
        · have h := h.1 c56
          exact q_subL rfl (h.1 hA hra1 hra3)
        · have h := h.2 c56
          refine q_aload_n eX1_find_59 rfl ?_
          refine q_getR (c := 1) (n := 0) (k := 12) (a := 75) eX1_find_60 rfl (by decide) (by decide) fX1_27 rfl rfl ?_
          refine q_iload_n eX1_find_63 rfl ?_
          refine q_aload_n eX1_find_64 rfl ?_
          refine q_iload_n eX1_find_65 rfl ?_
          refine q_V1 (ci := 1) (n := 0) eX1_find_66 DX1_branches lX1_59 rfl (by decide) rfl rfl rfl rfl (h.1 hA hra1) ?_
          rintro _ _ ⟨s1, v1, rfl, hA1, rfl, h⟩
          have f2 := h.1
          have h := h.2
          refine z_last (n := 26) eX1_find_69 rfl (ofz hra1) f2  ?_
          exact q_subL rfl (h.1 (ra_uj hA1) hra1 hra3)
set_option maxRecDepth 20000 in
theorem s_X1_find {s : ST} {Q : ST → Int64 → Prop} (h : RA s → ((¬ s.1 69 0 = 0 → Q s (s.2 69 1)) ∧ (s.1 69 0 = 0 → ((s.1 2 1 ≤ 24 → (C_X1_begin (ui s 69 0 1) (fun s1 => K_X1_find_39 s1 0 1 0 Q))) ∧ (¬ s.1 2 1 ≤ 24 → Q s (s.2 69 1)))))) : C_X1_find s Q := by
  refine ⟨?_, trivial⟩
  intro hA
  have h := h hA
  refine q_enter (by decide) (Nat.le_of_ble_eq_true rfl) ?_
  refine q_aload_n eX1_find_0 rfl ?_
  refine q_getf (c := 1) (n := 0) (k := 0) (v := .int (Int32.ofInt (s.1 69 0))) eX1_find_1 rfl (by decide) (by decide) fX1_38 rfl ?_
  refine q_iz_ne (tgt := 19) (a := s.1 69 0) eX1_find_4 (by decide) (ofz (hA _ _)) (fun c4 => ?_) (fun c4 => ?_)
  · have h := h.1 c4
    refine q_aload_n eX1_find_19 rfl ?_
    refine q_getf (c := 1) (n := 0) (k := 1) (v := .long (s.2 69 1)) eX1_find_20 rfl (by decide) (by decide) fX1_51 rfl ?_
    exact q_lret eX1_find_23 rfl ⟨_, _, rfl, hA, rfl, h⟩
  · have h := h.2 c4
    refine q_aload_n eX1_find_7 rfl ?_
    refine q_getR (c := 1) (n := 0) (k := 5) (a := 2) eX1_find_8 rfl (by decide) (by decide) fX1_30 rfl rfl ?_
    refine q_getf (c := 9) (n := 0) (k := 1) (v := .int (Int32.ofInt (s.1 2 1))) eX1_find_11 rfl (by decide) (by decide) fX1_46 rfl ?_
    refine q_bi (v := Int32.ofInt 24) eX1_find_14 rfl ?_
    refine q_cz_le (tgt := 24) (a := s.1 2 1) (b := 24) eX1_find_16 (by decide) (ofz (hA _ _)) (ofz (r32l rfl)) (fun c16 => ?_) (fun c16 => ?_)
    · have h := h.1 c16
      refine q_aload_n eX1_find_24 rfl ?_
      refine q_ic (v := Int32.ofInt 1) eX1_find_25 rfl ?_
      refine z_putZ (c := 1) (n := 0) (k := 0) (kz := 0) eX1_find_26 rfl (by decide) (by decide) fX1_38 rfl rfl rfl (z01 (Or.inr rfl)) ?_
      refine q_aload_n eX1_find_29 rfl ?_
      refine q_V0 (ci := 1) (n := 0) eX1_find_30 DX1_begin lX1_55 rfl (by decide) rfl rfl rfl rfl (h.1 (ra_ui hA (r32l rfl))) ?_
      rintro _ _ ⟨s1, rfl, hA1, rfl, h⟩
      refine q_ic (v := Int32.ofInt 0) eX1_find_33 rfl ?_
      refine q_istore_n eX1_find_34 (Nat.le_of_ble_eq_true rfl) ?_
      refine q_ic (v := Int32.ofInt 1) eX1_find_35 rfl ?_
      refine q_istore_n eX1_find_36 (Nat.le_of_ble_eq_true rfl) ?_
      refine q_ic (v := Int32.ofInt 0) eX1_find_37 rfl ?_
      refine q_istore_n eX1_find_38 (Nat.le_of_ble_eq_true rfl) ?_
      exact q_subL rfl (h.1 hA1 (r32l rfl) (r32l rfl) (r32l rfl))
    · have h := h.2 c16
      refine q_aload_n eX1_find_19 rfl ?_
      refine q_getf (c := 1) (n := 0) (k := 1) (v := .long (s.2 69 1)) eX1_find_20 rfl (by decide) (by decide) fX1_51 rfl ?_
      exact q_lret eX1_find_23 rfl ⟨_, _, rfl, hA, rfl, h⟩
theorem eX2_swaps_0 : decode cX2_swaps 0 = .ok (.iload_n 0, 1) := by decide +kernel
theorem eX2_swaps_1 : decode cX2_swaps 1 = .ok (.bipush 6, 2) := by decide +kernel
theorem eX2_swaps_3 : decode cX2_swaps 3 = .ok (.if_icmp .eq 32, 3) := by decide +kernel
theorem eX2_swaps_6 : decode cX2_swaps 6 = .ok (.iload_n 0, 1) := by decide +kernel
theorem eX2_swaps_7 : decode cX2_swaps 7 = .ok (.bipush 7, 2) := by decide +kernel
theorem eX2_swaps_9 : decode cX2_swaps 9 = .ok (.if_icmp .eq 26, 3) := by decide +kernel
theorem eX2_swaps_12 : decode cX2_swaps 12 = .ok (.iload_n 0, 1) := by decide +kernel
theorem eX2_swaps_13 : decode cX2_swaps 13 = .ok (.bipush 11, 2) := by decide +kernel
theorem eX2_swaps_15 : decode cX2_swaps 15 = .ok (.if_icmp .eq 20, 3) := by decide +kernel
theorem eX2_swaps_18 : decode cX2_swaps 18 = .ok (.iload_n 0, 1) := by decide +kernel
theorem eX2_swaps_19 : decode cX2_swaps 19 = .ok (.bipush 14, 2) := by decide +kernel
theorem eX2_swaps_21 : decode cX2_swaps 21 = .ok (.if_icmp .eq 14, 3) := by decide +kernel
theorem eX2_swaps_24 : decode cX2_swaps 24 = .ok (.iload_n 0, 1) := by decide +kernel
theorem eX2_swaps_25 : decode cX2_swaps 25 = .ok (.bipush 15, 2) := by decide +kernel
theorem eX2_swaps_27 : decode cX2_swaps 27 = .ok (.if_icmp .eq 8, 3) := by decide +kernel
theorem eX2_swaps_30 : decode cX2_swaps 30 = .ok (.iload_n 0, 1) := by decide +kernel
theorem eX2_swaps_31 : decode cX2_swaps 31 = .ok (.iconst 5, 1) := by decide +kernel
theorem eX2_swaps_32 : decode cX2_swaps 32 = .ok (.if_icmp .ne 7, 3) := by decide +kernel
theorem eX2_swaps_35 : decode cX2_swaps 35 = .ok (.iconst 1, 1) := by decide +kernel
theorem eX2_swaps_36 : decode cX2_swaps 36 = .ok (.goto 4, 3) := by decide +kernel
theorem eX2_swaps_39 : decode cX2_swaps 39 = .ok (.iconst 0, 1) := by decide +kernel
theorem eX2_swaps_40 : decode cX2_swaps 40 = .ok (.ireturn, 1) := by decide +kernel
def C_X2_swaps (s : ST) (p : Int) (Q : ST → Int → Prop) : Prop := bx <| RA s → R32 p → q_met mX2_swaps (qs layX s) [.int (Int32.ofInt p)] (PB layX Q)
theorem C_X2_swaps.mono {s : ST} {p : Int} {Q Q' : ST → Int → Prop} (h : C_X2_swaps s p Q) (hq : ∀ s v, Q s v → Q' s v) : C_X2_swaps s p Q' := ⟨fun hA hrp => q_met.mono (h.1 hA hrp) (fun _ _ => PB.mono hq), trivial⟩
set_option maxRecDepth 20000 in
theorem s_X2_swaps {s : ST} {p : Int} {Q : ST → Int → Prop} (h : RA s → R32 p → ((p = 6 → Q s 1) ∧ (¬ p = 6 → ((p = 7 → Q s 1) ∧ (¬ p = 7 → ((p = 11 → Q s 1) ∧ (¬ p = 11 → ((p = 14 → Q s 1) ∧ (¬ p = 14 → ((p = 15 → Q s 1) ∧ (¬ p = 15 → ((¬ p = 5 → Q s 0) ∧ (p = 5 → Q s 1))))))))))))) : C_X2_swaps s p Q := by
  refine ⟨?_, trivial⟩
  intro hA hrp
  have h := h hA hrp
  refine q_enter (by decide) (Nat.le_of_ble_eq_true rfl) ?_
  refine q_iload_n eX2_swaps_0 rfl ?_
  refine q_bi (v := Int32.ofInt 6) eX2_swaps_1 rfl ?_
  refine q_cz_eq (tgt := 35) (a := p) (b := 6) eX2_swaps_3 (by decide) (ofz hrp) (ofz (r32l rfl)) (fun c3 => ?_) (fun c3 => ?_)
  · have h := h.1 c3
    refine q_ic (v := Int32.ofInt 1) eX2_swaps_35 rfl ?_
    refine q_goto (tgt := 40) eX2_swaps_36 (by decide) ?_
    exact q_zret eX2_swaps_40 rfl (z01 (Or.inr rfl)) ⟨_, _, rfl, hA, (Or.inr rfl), rfl, h⟩
  · have h := h.2 c3
    refine q_iload_n eX2_swaps_6 rfl ?_
    refine q_bi (v := Int32.ofInt 7) eX2_swaps_7 rfl ?_
    refine q_cz_eq (tgt := 35) (a := p) (b := 7) eX2_swaps_9 (by decide) (ofz hrp) (ofz (r32l rfl)) (fun c9 => ?_) (fun c9 => ?_)
    · have h := h.1 c9
      refine q_ic (v := Int32.ofInt 1) eX2_swaps_35 rfl ?_
      refine q_goto (tgt := 40) eX2_swaps_36 (by decide) ?_
      exact q_zret eX2_swaps_40 rfl (z01 (Or.inr rfl)) ⟨_, _, rfl, hA, (Or.inr rfl), rfl, h⟩
    · have h := h.2 c9
      refine q_iload_n eX2_swaps_12 rfl ?_
      refine q_bi (v := Int32.ofInt 11) eX2_swaps_13 rfl ?_
      refine q_cz_eq (tgt := 35) (a := p) (b := 11) eX2_swaps_15 (by decide) (ofz hrp) (ofz (r32l rfl)) (fun c15 => ?_) (fun c15 => ?_)
      · have h := h.1 c15
        refine q_ic (v := Int32.ofInt 1) eX2_swaps_35 rfl ?_
        refine q_goto (tgt := 40) eX2_swaps_36 (by decide) ?_
        exact q_zret eX2_swaps_40 rfl (z01 (Or.inr rfl)) ⟨_, _, rfl, hA, (Or.inr rfl), rfl, h⟩
      · have h := h.2 c15
        refine q_iload_n eX2_swaps_18 rfl ?_
        refine q_bi (v := Int32.ofInt 14) eX2_swaps_19 rfl ?_
        refine q_cz_eq (tgt := 35) (a := p) (b := 14) eX2_swaps_21 (by decide) (ofz hrp) (ofz (r32l rfl)) (fun c21 => ?_) (fun c21 => ?_)
        · have h := h.1 c21
          refine q_ic (v := Int32.ofInt 1) eX2_swaps_35 rfl ?_
          refine q_goto (tgt := 40) eX2_swaps_36 (by decide) ?_
          exact q_zret eX2_swaps_40 rfl (z01 (Or.inr rfl)) ⟨_, _, rfl, hA, (Or.inr rfl), rfl, h⟩
        · have h := h.2 c21
          refine q_iload_n eX2_swaps_24 rfl ?_
          refine q_bi (v := Int32.ofInt 15) eX2_swaps_25 rfl ?_
          refine q_cz_eq (tgt := 35) (a := p) (b := 15) eX2_swaps_27 (by decide) (ofz hrp) (ofz (r32l rfl)) (fun c27 => ?_) (fun c27 => ?_)
          · have h := h.1 c27
            refine q_ic (v := Int32.ofInt 1) eX2_swaps_35 rfl ?_
            refine q_goto (tgt := 40) eX2_swaps_36 (by decide) ?_
            exact q_zret eX2_swaps_40 rfl (z01 (Or.inr rfl)) ⟨_, _, rfl, hA, (Or.inr rfl), rfl, h⟩
          · have h := h.2 c27
            refine q_iload_n eX2_swaps_30 rfl ?_
            refine q_ic (v := Int32.ofInt 5) eX2_swaps_31 rfl ?_
            refine q_cz_ne (tgt := 39) (a := p) (b := 5) eX2_swaps_32 (by decide) (ofz hrp) (ofz (r32l rfl)) (fun c32 => ?_) (fun c32 => ?_)
            · have h := h.1 c32
              refine q_ic (v := Int32.ofInt 0) eX2_swaps_39 rfl ?_
              exact q_zret eX2_swaps_40 rfl (z01 (Or.inl rfl)) ⟨_, _, rfl, hA, (Or.inl rfl), rfl, h⟩
            · have h := h.2 c32
              refine q_ic (v := Int32.ofInt 1) eX2_swaps_35 rfl ?_
              refine q_goto (tgt := 40) eX2_swaps_36 (by decide) ?_
              exact q_zret eX2_swaps_40 rfl (z01 (Or.inr rfl)) ⟨_, _, rfl, hA, (Or.inr rfl), rfl, h⟩
def F_X2_swaps (s : ST) (p : Int) : Int := (if p = 6 then 1 else (if p = 7 then 1 else (if p = 11 then 1 else (if p = 14 then 1 else (if p = 15 then 1 else (if p = 5 then 1 else 0))))))
theorem w_X2_swaps {s : ST} {p : Int} : C_X2_swaps s p (fun s' v => s' = s ∧ v = F_X2_swaps s p) := by
  refine s_X2_swaps (fun hA hrp => ?_)
  refine ⟨fun e0 => ?_, fun e0 => ?_⟩
  · exact ⟨rfl, by unfold F_X2_swaps; rw [if_pos e0]⟩
  · refine ⟨fun e1 => ?_, fun e1 => ?_⟩
    · exact ⟨rfl, by unfold F_X2_swaps; rw [if_neg e0, if_pos e1]⟩
    · refine ⟨fun e2 => ?_, fun e2 => ?_⟩
      · exact ⟨rfl, by unfold F_X2_swaps; rw [if_neg e0, if_neg e1, if_pos e2]⟩
      · refine ⟨fun e3 => ?_, fun e3 => ?_⟩
        · exact ⟨rfl, by unfold F_X2_swaps; rw [if_neg e0, if_neg e1, if_neg e2, if_pos e3]⟩
        · refine ⟨fun e4 => ?_, fun e4 => ?_⟩
          · exact ⟨rfl, by unfold F_X2_swaps; rw [if_neg e0, if_neg e1, if_neg e2, if_neg e3, if_pos e4]⟩
          · refine ⟨fun e5 => ?_, fun e5 => ?_⟩
            · exact ⟨rfl, by unfold F_X2_swaps; rw [if_neg e0, if_neg e1, if_neg e2, if_neg e3, if_neg e4, if_neg e5]⟩
            · exact ⟨rfl, by unfold F_X2_swaps; rw [if_neg e0, if_neg e1, if_neg e2, if_neg e3, if_neg e4, if_pos e5]⟩
theorem p_X2_swaps {s : ST} {p : Int} : RA s → R32 p → q_met mX2_swaps (qs layX s) [.int (Int32.ofInt p)] (fun σ r => (F_X2_swaps s p = 0 ∨ F_X2_swaps s p = 1) ∧ σ = qs layX s ∧ r = some (.int (Int32.ofInt (F_X2_swaps s p)))) := fun hA hrp => q_met.mono ((w_X2_swaps).1 hA hrp) (by
  rintro _ _ ⟨s1, v1, rfl, h1, h2, rfl, rfl, rfl⟩
  exact ⟨h2, rfl, rfl⟩)
theorem n_X2_swaps {s : ST} {p : Int} : ¬ F_X2_swaps s p = 0 ↔ (p = 6 ∨ (p = 7 ∨ (p = 11 ∨ (p = 14 ∨ (p = 15 ∨ p = 5))))) := by
  unfold F_X2_swaps
  first | omega | ((repeat' split) <;> simp_all) | ((repeat' split) <;> (simp_all <;> omega))
theorem eX9_wordOf_0 : decode cX9_wordOf 0 = .ok (.iload_n 1, 1) := by decide +kernel
theorem eX9_wordOf_1 : decode cX9_wordOf 1 = .ok (.bipush 40, 2) := by decide +kernel
theorem eX9_wordOf_3 : decode cX9_wordOf 3 = .ok (.isub, 1) := by decide +kernel
theorem eX9_wordOf_4 : decode cX9_wordOf 4 = .ok (.istore_n 2, 1) := by decide +kernel
theorem eX9_wordOf_5 : decode cX9_wordOf 5 = .ok (.iload_n 2, 1) := by decide +kernel
theorem eX9_wordOf_6 : decode cX9_wordOf 6 = .ok (.ifCond .lt 28, 3) := by decide +kernel
theorem eX9_wordOf_9 : decode cX9_wordOf 9 = .ok (.iload_n 2, 1) := by decide +kernel
theorem eX9_wordOf_10 : decode cX9_wordOf 10 = .ok (.aload_n 0, 1) := by decide +kernel
theorem eX9_wordOf_11 : decode cX9_wordOf 11 = .ok (.getfield 55, 3) := by decide +kernel
theorem eX9_wordOf_14 : decode cX9_wordOf 14 = .ok (.if_icmp .ge 18, 3) := by decide +kernel
theorem eX9_wordOf_17 : decode cX9_wordOf 17 = .ok (.iload_n 2, 1) := by decide +kernel
theorem eX9_wordOf_18 : decode cX9_wordOf 18 = .ok (.bipush 8, 2) := by decide +kernel
theorem eX9_wordOf_20 : decode cX9_wordOf 20 = .ok (.if_icmp .ge 12, 3) := by decide +kernel
theorem eX9_wordOf_23 : decode cX9_wordOf 23 = .ok (.aload_n 0, 1) := by decide +kernel
theorem eX9_wordOf_24 : decode cX9_wordOf 24 = .ok (.getfield 9, 3) := by decide +kernel
theorem eX9_wordOf_27 : decode cX9_wordOf 27 = .ok (.iload_n 2, 1) := by decide +kernel
theorem eX9_wordOf_28 : decode cX9_wordOf 28 = .ok (.laload, 1) := by decide +kernel
theorem eX9_wordOf_29 : decode cX9_wordOf 29 = .ok (.goto 4, 3) := by decide +kernel
theorem eX9_wordOf_32 : decode cX9_wordOf 32 = .ok (.lconst 0, 1) := by decide +kernel
theorem eX9_wordOf_33 : decode cX9_wordOf 33 = .ok (.lreturn, 1) := by decide +kernel
theorem eX9_wordOf_34 : decode cX9_wordOf 34 = .ok (.iload_n 1, 1) := by decide +kernel
theorem eX9_wordOf_35 : decode cX9_wordOf 35 = .ok (.ifCond .lt 26, 3) := by decide +kernel
theorem eX9_wordOf_38 : decode cX9_wordOf 38 = .ok (.iload_n 1, 1) := by decide +kernel
theorem eX9_wordOf_39 : decode cX9_wordOf 39 = .ok (.aload_n 0, 1) := by decide +kernel
theorem eX9_wordOf_40 : decode cX9_wordOf 40 = .ok (.getfield 59, 3) := by decide +kernel
theorem eX9_wordOf_43 : decode cX9_wordOf 43 = .ok (.if_icmp .ge 18, 3) := by decide +kernel
theorem eX9_wordOf_46 : decode cX9_wordOf 46 = .ok (.iload_n 1, 1) := by decide +kernel
theorem eX9_wordOf_47 : decode cX9_wordOf 47 = .ok (.bipush 40, 2) := by decide +kernel
theorem eX9_wordOf_49 : decode cX9_wordOf 49 = .ok (.if_icmp .ge 12, 3) := by decide +kernel
theorem eX9_wordOf_52 : decode cX9_wordOf 52 = .ok (.aload_n 0, 1) := by decide +kernel
theorem eX9_wordOf_53 : decode cX9_wordOf 53 = .ok (.getfield 40, 3) := by decide +kernel
theorem eX9_wordOf_56 : decode cX9_wordOf 56 = .ok (.iload_n 1, 1) := by decide +kernel
theorem eX9_wordOf_57 : decode cX9_wordOf 57 = .ok (.laload, 1) := by decide +kernel
theorem eX9_wordOf_58 : decode cX9_wordOf 58 = .ok (.goto 4, 3) := by decide +kernel
theorem eX9_wordOf_61 : decode cX9_wordOf 61 = .ok (.lconst 0, 1) := by decide +kernel
theorem eX9_wordOf_62 : decode cX9_wordOf 62 = .ok (.lreturn, 1) := by decide +kernel
def C_X9_wordOf (t : Nat) (s : ST) (p : Int) (Q : ST → Int64 → Prop) : Prop := bx <| isT t → RA s → R32 p → q_met mX9_wordOf (qs layX s) [.ref t, .int (Int32.ofInt p)] (PL layX Q)
theorem C_X9_wordOf.mono {t : Nat} {s : ST} {p : Int} {Q Q' : ST → Int64 → Prop} (h : C_X9_wordOf t s p Q) (hq : ∀ s v, Q s v → Q' s v) : C_X9_wordOf t s p Q' := ⟨fun ht hA hrp => q_met.mono (h.1 ht hA hrp) (fun _ _ => PL.mono hq), trivial⟩
set_option maxRecDepth 20000 in
theorem s_X9_wordOf {t : Nat} {s : ST} {p : Int} {Q : ST → Int64 → Prop} (h : isT t → RA s → R32 p → (((w32 (p - 40)) < 0 → ((p < 0 → Q s 0) ∧ (¬ p < 0 → ((s.1 t 1 ≤ p → Q s 0) ∧ (¬ s.1 t 1 ≤ p → ((40 ≤ p → Q s 0) ∧ (¬ 40 ≤ p → (((0 : Int) ≤ p ∧ p < 40) ∧ Q s (s.2 (t + 10) p))))))))) ∧ (¬ (w32 (p - 40)) < 0 → ((s.1 t 0 ≤ (w32 (p - 40)) → Q s 0) ∧ (¬ s.1 t 0 ≤ (w32 (p - 40)) → ((8 ≤ (w32 (p - 40)) → Q s 0) ∧ (¬ 8 ≤ (w32 (p - 40)) → (((0 : Int) ≤ (w32 (p - 40)) ∧ (w32 (p - 40)) < 8) ∧ Q s (s.2 (t + 1) (w32 (p - 40))))))))))) : C_X9_wordOf t s p Q := by
  refine ⟨?_, trivial⟩
  intro ht hA hrp
  have h := h ht hA hrp
  refine q_enter (by decide) (Nat.le_of_ble_eq_true rfl) ?_
  refine q_iload_n eX9_wordOf_0 rfl ?_
  refine q_bi (v := Int32.ofInt 40) eX9_wordOf_1 rfl ?_
  refine z_isub eX9_wordOf_3 ?_
  refine q_topI (v := Int32.ofInt (w32 (p - 40))) (w32_of _).symm ?_
  refine q_istore_n eX9_wordOf_4 (Nat.le_of_ble_eq_true rfl) ?_
  refine q_iload_n eX9_wordOf_5 rfl ?_
  refine q_iz_lt (tgt := 34) (a := (w32 (p - 40))) eX9_wordOf_6 (by decide) (ofz (w32_r _)) (fun c6 => ?_) (fun c6 => ?_)
  · have h := h.1 c6
    refine q_iload_n eX9_wordOf_34 rfl ?_
    refine q_iz_lt (tgt := 61) (a := p) eX9_wordOf_35 (by decide) (ofz hrp) (fun c35 => ?_) (fun c35 => ?_)
    · have h := h.1 c35
      refine q_lc (v := 0) eX9_wordOf_61 rfl ?_
      exact q_lret eX9_wordOf_62 rfl ⟨_, _, rfl, hA, rfl, h⟩
    · have h := h.2 c35
      refine q_iload_n eX9_wordOf_38 rfl ?_
      refine q_aload_n eX9_wordOf_39 rfl ?_
      refine q_getf (c := 9) (n := 0) (k := 1) (v := .int (Int32.ofInt (s.1 t 1))) eX9_wordOf_40 (tl_0 ht) (by decide) (by decide) fX9_59 rfl ?_
      refine q_cz_ge (tgt := 61) (a := p) (b := s.1 t 1) eX9_wordOf_43 (by decide) (ofz hrp) (ofz (hA _ _)) (fun c43 => ?_) (fun c43 => ?_)
      · have h := h.1 c43
        refine q_lc (v := 0) eX9_wordOf_61 rfl ?_
        exact q_lret eX9_wordOf_62 rfl ⟨_, _, rfl, hA, rfl, h⟩
      · have h := h.2 c43
        refine q_iload_n eX9_wordOf_46 rfl ?_
        refine q_bi (v := Int32.ofInt 40) eX9_wordOf_47 rfl ?_
        refine q_cz_ge (tgt := 61) (a := p) (b := 40) eX9_wordOf_49 (by decide) (ofz hrp) (ofz (r32l rfl)) (fun c49 => ?_) (fun c49 => ?_)
        · have h := h.1 c49
          refine q_lc (v := 0) eX9_wordOf_61 rfl ?_
          exact q_lret eX9_wordOf_62 rfl ⟨_, _, rfl, hA, rfl, h⟩
        · have h := h.2 c49
          refine q_aload_n eX9_wordOf_52 rfl ?_
          refine q_getR (c := 9) (n := 0) (k := 12) (a := (t + 10)) eX9_wordOf_53 (tl_0 ht) (by decide) (by decide) fX9_40 rfl (tr_12 ht) ?_
          refine q_iload_n eX9_wordOf_56 rfl ?_
          have f1 := h.1
          have h := h.2
          refine z_lald (n := 40) eX9_wordOf_57 (tl_10 ht) (ofz hrp) f1 ?_
          refine q_topL (v := s.2 (t + 10) p) rfl ?_
          refine q_goto (tgt := 62) eX9_wordOf_58 (by decide) ?_
          exact q_lret eX9_wordOf_62 rfl ⟨_, _, rfl, hA, rfl, h⟩
  · have h := h.2 c6
    refine q_iload_n eX9_wordOf_9 rfl ?_
    refine q_aload_n eX9_wordOf_10 rfl ?_
    refine q_getf (c := 9) (n := 0) (k := 0) (v := .int (Int32.ofInt (s.1 t 0))) eX9_wordOf_11 (tl_0 ht) (by decide) (by decide) fX9_55 rfl ?_
    refine q_cz_ge (tgt := 32) (a := (w32 (p - 40))) (b := s.1 t 0) eX9_wordOf_14 (by decide) (ofz (w32_r _)) (ofz (hA _ _)) (fun c14 => ?_) (fun c14 => ?_)
    · have h := h.1 c14
      refine q_lc (v := 0) eX9_wordOf_32 rfl ?_
      exact q_lret eX9_wordOf_33 rfl ⟨_, _, rfl, hA, rfl, h⟩
    · have h := h.2 c14
      refine q_iload_n eX9_wordOf_17 rfl ?_
      refine q_bi (v := Int32.ofInt 8) eX9_wordOf_18 rfl ?_
      refine q_cz_ge (tgt := 32) (a := (w32 (p - 40))) (b := 8) eX9_wordOf_20 (by decide) (ofz (w32_r _)) (ofz (r32l rfl)) (fun c20 => ?_) (fun c20 => ?_)
      · have h := h.1 c20
        refine q_lc (v := 0) eX9_wordOf_32 rfl ?_
        exact q_lret eX9_wordOf_33 rfl ⟨_, _, rfl, hA, rfl, h⟩
      · have h := h.2 c20
        refine q_aload_n eX9_wordOf_23 rfl ?_
        refine q_getR (c := 9) (n := 0) (k := 3) (a := (t + 1)) eX9_wordOf_24 (tl_0 ht) (by decide) (by decide) fX9_9 rfl (tr_3 ht) ?_
        refine q_iload_n eX9_wordOf_27 rfl ?_
        have f2 := h.1
        have h := h.2
        refine z_lald (n := 8) eX9_wordOf_28 (tl_1 ht) (ofz (w32_r _)) f2 ?_
        refine q_topL (v := s.2 (t + 1) (w32 (p - 40))) rfl ?_
        refine q_goto (tgt := 33) eX9_wordOf_29 (by decide) ?_
        exact q_lret eX9_wordOf_33 rfl ⟨_, _, rfl, hA, rfl, h⟩
def F_X9_wordOf (t : Nat) (s : ST) (p : Int) : Int64 := (if (w32 (p - 40)) < 0 then (if p < 0 then 0 else (if s.1 t 1 ≤ p then 0 else (if 40 ≤ p then 0 else s.2 (t + 10) p))) else (if s.1 t 0 ≤ (w32 (p - 40)) then 0 else (if 8 ≤ (w32 (p - 40)) then 0 else s.2 (t + 1) (w32 (p - 40)))))
abbrev P_X9_wordOf (t : Nat) (s : ST) (p : Int) : Prop := (((w32 (p - 40)) < 0 → (¬ p < 0 → (¬ s.1 t 1 ≤ p → (¬ 40 ≤ p → ((0 : Int) ≤ p ∧ p < 40))))) ∧ (¬ (w32 (p - 40)) < 0 → (¬ s.1 t 0 ≤ (w32 (p - 40)) → (¬ 8 ≤ (w32 (p - 40)) → ((0 : Int) ≤ (w32 (p - 40)) ∧ (w32 (p - 40)) < 8)))))
theorem w_X9_wordOf {t : Nat} {s : ST} {p : Int} (h : P_X9_wordOf t s p) : C_X9_wordOf t s p (fun s' v => s' = s ∧ v = F_X9_wordOf t s p) := by
  refine s_X9_wordOf (fun ht hA hrp => ?_)
  unfold P_X9_wordOf at h
  refine ⟨fun e0 => ?_, fun e0 => ?_⟩
  · have h := h.1 e0
    refine ⟨fun e1 => ?_, fun e1 => ?_⟩
    · exact ⟨rfl, by unfold F_X9_wordOf; rw [if_pos e0, if_pos e1]⟩
    · have h := h e1
      refine ⟨fun e2 => ?_, fun e2 => ?_⟩
      · exact ⟨rfl, by unfold F_X9_wordOf; rw [if_pos e0, if_neg e1, if_pos e2]⟩
      · have h := h e2
        refine ⟨fun e3 => ?_, fun e3 => ?_⟩
        · exact ⟨rfl, by unfold F_X9_wordOf; rw [if_pos e0, if_neg e1, if_neg e2, if_pos e3]⟩
        · have h := h e3
          refine ⟨h, ?_⟩
          exact ⟨rfl, by unfold F_X9_wordOf; rw [if_pos e0, if_neg e1, if_neg e2, if_neg e3]⟩
  · have h := h.2 e0
    refine ⟨fun e1 => ?_, fun e1 => ?_⟩
    · exact ⟨rfl, by unfold F_X9_wordOf; rw [if_neg e0, if_pos e1]⟩
    · have h := h e1
      refine ⟨fun e2 => ?_, fun e2 => ?_⟩
      · exact ⟨rfl, by unfold F_X9_wordOf; rw [if_neg e0, if_neg e1, if_pos e2]⟩
      · have h := h e2
        refine ⟨h, ?_⟩
        exact ⟨rfl, by unfold F_X9_wordOf; rw [if_neg e0, if_neg e1, if_neg e2]⟩
theorem p_X9_wordOf {t : Nat} {s : ST} {p : Int} (h : P_X9_wordOf t s p) : isT t → RA s → R32 p → q_met mX9_wordOf (qs layX s) [.ref t, .int (Int32.ofInt p)] (fun σ r => σ = qs layX s ∧ r = some (.long (F_X9_wordOf t s p))) := fun ht hA hrp => q_met.mono ((w_X9_wordOf h).1 ht hA hrp) (by
  rintro _ _ ⟨s1, v1, rfl, h1, rfl, rfl, rfl⟩
  exact ⟨rfl, rfl⟩)
theorem eX9_addChoice_0 : decode cX9_addChoice 0 = .ok (.aload_n 0, 1) := by decide +kernel
theorem eX9_addChoice_1 : decode cX9_addChoice 1 = .ok (.iload_n 3, 1) := by decide +kernel
theorem eX9_addChoice_2 : decode cX9_addChoice 2 = .ok (.invokevirtual 96, 3) := by decide +kernel
theorem eX9_addChoice_5 : decode cX9_addChoice 5 = .ok (.lstore 4, 2) := by decide +kernel
theorem eX9_addChoice_7 : decode cX9_addChoice 7 = .ok (.iconst 0, 1) := by decide +kernel
theorem eX9_addChoice_8 : decode cX9_addChoice 8 = .ok (.istore 6, 2) := by decide +kernel
theorem eX9_addChoice_10 : decode cX9_addChoice 10 = .ok (.iload 6, 2) := by decide +kernel
theorem eX9_addChoice_12 : decode cX9_addChoice 12 = .ok (.iload_n 2, 1) := by decide +kernel
theorem eX9_addChoice_13 : decode cX9_addChoice 13 = .ok (.if_icmp .ge 32, 3) := by decide +kernel
theorem eX9_addChoice_16 : decode cX9_addChoice 16 = .ok (.iload 6, 2) := by decide +kernel
theorem eX9_addChoice_18 : decode cX9_addChoice 18 = .ok (.aload_n 1, 1) := by decide +kernel
theorem eX9_addChoice_19 : decode cX9_addChoice 19 = .ok (.arraylength, 1) := by decide +kernel
theorem eX9_addChoice_20 : decode cX9_addChoice 20 = .ok (.if_icmp .ge 25, 3) := by decide +kernel
theorem eX9_addChoice_23 : decode cX9_addChoice 23 = .ok (.aload_n 0, 1) := by decide +kernel
theorem eX9_addChoice_24 : decode cX9_addChoice 24 = .ok (.aload_n 1, 1) := by decide +kernel
theorem eX9_addChoice_25 : decode cX9_addChoice 25 = .ok (.iload 6, 2) := by decide +kernel
theorem eX9_addChoice_27 : decode cX9_addChoice 27 = .ok (.iaload, 1) := by decide +kernel
theorem eX9_addChoice_28 : decode cX9_addChoice 28 = .ok (.invokevirtual 96, 3) := by decide +kernel
theorem eX9_addChoice_31 : decode cX9_addChoice 31 = .ok (.lload 4, 2) := by decide +kernel
theorem eX9_addChoice_33 : decode cX9_addChoice 33 = .ok (.lcmp, 1) := by decide +kernel
theorem eX9_addChoice_34 : decode cX9_addChoice 34 = .ok (.ifCond .ne 5, 3) := by decide +kernel
theorem eX9_addChoice_37 : decode cX9_addChoice 37 = .ok (.iload_n 2, 1) := by decide +kernel
theorem eX9_addChoice_38 : decode cX9_addChoice 38 = .ok (.ireturn, 1) := by decide +kernel
theorem eX9_addChoice_39 : decode cX9_addChoice 39 = .ok (.iinc 6 1, 3) := by decide +kernel
theorem eX9_addChoice_42 : decode cX9_addChoice 42 = .ok (.goto (-32), 3) := by decide +kernel
theorem eX9_addChoice_45 : decode cX9_addChoice 45 = .ok (.iload_n 2, 1) := by decide +kernel
theorem eX9_addChoice_46 : decode cX9_addChoice 46 = .ok (.ifCond .lt 9, 3) := by decide +kernel
theorem eX9_addChoice_49 : decode cX9_addChoice 49 = .ok (.iload_n 2, 1) := by decide +kernel
theorem eX9_addChoice_50 : decode cX9_addChoice 50 = .ok (.aload_n 1, 1) := by decide +kernel
theorem eX9_addChoice_51 : decode cX9_addChoice 51 = .ok (.arraylength, 1) := by decide +kernel
theorem eX9_addChoice_52 : decode cX9_addChoice 52 = .ok (.if_icmp .lt 5, 3) := by decide +kernel
theorem eX9_addChoice_55 : decode cX9_addChoice 55 = .ok (.iload_n 2, 1) := by decide +kernel
theorem eX9_addChoice_56 : decode cX9_addChoice 56 = .ok (.ireturn, 1) := by decide +kernel
theorem eX9_addChoice_57 : decode cX9_addChoice 57 = .ok (.aload_n 1, 1) := by decide +kernel
theorem eX9_addChoice_58 : decode cX9_addChoice 58 = .ok (.iload_n 2, 1) := by decide +kernel
theorem eX9_addChoice_59 : decode cX9_addChoice 59 = .ok (.iload_n 3, 1) := by decide +kernel
theorem eX9_addChoice_60 : decode cX9_addChoice 60 = .ok (.iastore, 1) := by decide +kernel
theorem eX9_addChoice_61 : decode cX9_addChoice 61 = .ok (.iload_n 2, 1) := by decide +kernel
theorem eX9_addChoice_62 : decode cX9_addChoice 62 = .ok (.iconst 1, 1) := by decide +kernel
theorem eX9_addChoice_63 : decode cX9_addChoice 63 = .ok (.iadd, 1) := by decide +kernel
theorem eX9_addChoice_64 : decode cX9_addChoice 64 = .ok (.ireturn, 1) := by decide +kernel
def C_X9_addChoice (t : Nat) (r : Nat) (s : ST) (p : Int) (q : Int) (Q : ST → Int → Prop) : Prop := bx <| isT t → isW r → RA s → R32 p → R32 q → q_met mX9_addChoice (qs layX s) [.ref t, .ref r, .int (Int32.ofInt p), .int (Int32.ofInt q)] (PI layX Q)
theorem C_X9_addChoice.mono {t : Nat} {r : Nat} {s : ST} {p : Int} {q : Int} {Q Q' : ST → Int → Prop} (h : C_X9_addChoice t r s p q Q) (hq : ∀ s v, Q s v → Q' s v) : C_X9_addChoice t r s p q Q' := ⟨fun ht hr hA hrp hrq => q_met.mono (h.1 ht hr hA hrp hrq) (fun _ _ => PI.mono hq), trivial⟩
def K_X9_addChoice_45 (t : Nat) (r : Nat) (s : ST) (a2 : Int) (a3 : Int) (Q : ST → Int → Prop) : Prop := bx <| isT t → isW r → RA s → R32 a2 → R32 a3 → q_K mX9_addChoice (qs layX s) 0 0 45 [(1, .ref r), (2, .int (Int32.ofInt a2)), (3, .int (Int32.ofInt a3))] [] (q_fin mX9_addChoice (PI layX Q))
def K_X9_addChoice_10 (t : Nat) (r : Nat) (s : ST) (a2 : Int) (a3 : Int) (a4 : Int64) (a6 : Int) (Q : ST → Int → Prop) : Prop := bx <| isT t → isW r → RA s → R32 a2 → R32 a3 → R32 a6 → q_K mX9_addChoice (qs layX s) 0 0 10 [(0, .ref t), (1, .ref r), (2, .int (Int32.ofInt a2)), (3, .int (Int32.ofInt a3)), (4, .long a4), (6, .int (Int32.ofInt a6))] [] (q_fin mX9_addChoice (PI layX Q))
set_option maxRecDepth 20000 in
theorem s_X9_addChoice_45 {t : Nat} {r : Nat} {s : ST} {a2 : Int} {a3 : Int} {Q : ST → Int → Prop} (h : isT t → isW r → RA s → R32 a2 → R32 a3 → ((a2 < 0 → Q s a2) ∧ (¬ a2 < 0 → ((a2 < 48 → (((0 : Int) ≤ a2 ∧ a2 < 48) ∧ (R32 (a2 + 1) ∧ Q (ui s r a2 a3) (a2 + 1)))) ∧ (¬ a2 < 48 → Q s a2))))) : K_X9_addChoice_45 t r s a2 a3 Q := by
  refine ⟨?_, trivial⟩
  intro ht hr hA hra2 hra3
  have h := h ht hr hA hra2 hra3
  refine q_iload_n eX9_addChoice_45 rfl ?_
  refine q_iz_lt (tgt := 55) (a := a2) eX9_addChoice_46 (by decide) (ofz hra2) (fun c46 => ?_) (fun c46 => ?_)
  · have h := h.1 c46
    refine q_iload_n eX9_addChoice_55 rfl ?_
    exact q_iret eX9_addChoice_56 rfl ⟨_, _, rfl, hA, hra2, rfl, h⟩
  · have h := h.2 c46
    refine q_iload_n eX9_addChoice_49 rfl ?_
    refine q_aload_n eX9_addChoice_50 rfl ?_
    refine q_alenz (v := Int32.ofInt 48) eX9_addChoice_51 (wl_0 hr) rfl rfl ?_
    refine q_cz_lt (tgt := 57) (a := a2) (b := 48) eX9_addChoice_52 (by decide) (ofz hra2) (ofz (r32l rfl)) (fun c52 => ?_) (fun c52 => ?_)
    · have h := h.1 c52
      refine q_aload_n eX9_addChoice_57 rfl ?_
      refine q_iload_n eX9_addChoice_58 rfl ?_
      refine q_iload_n eX9_addChoice_59 rfl ?_
      have f1 := h.1
      have h := h.2
      refine z_iast (n := 48) eX9_addChoice_60 (wl_0 hr) (ofz hra2) f1  ?_
      refine q_iload_n eX9_addChoice_61 rfl ?_
      refine q_ic (v := Int32.ofInt 1) eX9_addChoice_62 rfl ?_
      refine z_iadd eX9_addChoice_63 ?_
      have r2 := h.1
      have h := h.2
      exact q_iret eX9_addChoice_64 rfl ⟨_, _, rfl, (ra_ui hA hra3), r2, rfl, h⟩
    · have h := h.2 c52
      refine q_iload_n eX9_addChoice_55 rfl ?_
      exact q_iret eX9_addChoice_56 rfl ⟨_, _, rfl, hA, hra2, rfl, h⟩
set_option maxRecDepth 20000 in
theorem s_X9_addChoice_10 {t : Nat} {r : Nat} {s : ST} {a2 : Int} {a3 : Int} {a4 : Int64} {a6 : Int} {Q : ST → Int → Prop} (h : isT t → isW r → RA s → R32 a2 → R32 a3 → R32 a6 → ((a2 ≤ a6 → K_X9_addChoice_45 t r s a2 a3 Q) ∧ (¬ a2 ≤ a6 → ((48 ≤ a6 → K_X9_addChoice_45 t r s a2 a3 Q) ∧ (¬ 48 ≤ a6 → (((0 : Int) ≤ a6 ∧ a6 < 48) ∧ (P_X9_wordOf t s (s.1 r a6) ∧ ((¬ (F_X9_wordOf t s (s.1 r a6)) = a4 → (R32 (a6 + 1) ∧ K_X9_addChoice_10 t r s a2 a3 a4 (a6 + 1) Q)) ∧ ((F_X9_wordOf t s (s.1 r a6)) = a4 → Q s a2))))))))) : K_X9_addChoice_10 t r s a2 a3 a4 a6 Q := by
  refine ⟨?_, trivial⟩
  intro ht hr hA hra2 hra3 hra6
  have h := h ht hr hA hra2 hra3 hra6
  refine q_iload eX9_addChoice_10 rfl ?_
  refine q_iload_n eX9_addChoice_12 rfl ?_
  refine q_cz_ge (tgt := 45) (a := a6) (b := a2) eX9_addChoice_13 (by decide) (ofz hra6) (ofz hra2) (fun c13 => ?_) (fun c13 => ?_)
  · have h := h.1 c13
    exact q_subL rfl (h.1 ht hr hA hra2 hra3)
  · have h := h.2 c13
    refine q_iload eX9_addChoice_16 rfl ?_
    refine q_aload_n eX9_addChoice_18 rfl ?_
    refine q_alenz (v := Int32.ofInt 48) eX9_addChoice_19 (wl_0 hr) rfl rfl ?_
    refine q_cz_ge (tgt := 45) (a := a6) (b := 48) eX9_addChoice_20 (by decide) (ofz hra6) (ofz (r32l rfl)) (fun c20 => ?_) (fun c20 => ?_)
    · have h := h.1 c20
      exact q_subL rfl (h.1 ht hr hA hra2 hra3)
    · have h := h.2 c20
      refine q_aload_n eX9_addChoice_23 rfl ?_
      refine q_aload_n eX9_addChoice_24 rfl ?_
      refine q_iload eX9_addChoice_25 rfl ?_
      have f1 := h.1
      have h := h.2
      refine z_iald (n := 48) eX9_addChoice_27 (wl_0 hr) (ofz hra6) f1 ?_
      refine q_topI (v := Int32.ofInt (s.1 r a6)) rfl ?_
      have f3 := h.1
      have h := h.2
      refine q_V1 (ci := 9) (n := 0) eX9_addChoice_28 DX9_wordOf lX9_96 (tl_0 ht) (by decide) rfl rfl rfl rfl (p_X9_wordOf f3 ht hA (hA _ _)) ?_
      rintro _ _ ⟨rfl, rfl⟩
      refine q_lload eX9_addChoice_31 rfl ?_
      refine q_lcmp eX9_addChoice_33 ?_
      refine z_lc_ne (tgt := 39) eX9_addChoice_34 (by decide) (fun c34 => ?_) (fun c34 => ?_)
      · have h := h.1 c34
        have r4 := h.1
        have h := h.2
        refine z_inc (m := 1) eX9_addChoice_39 rfl (Nat.le_of_ble_eq_true rfl) rfl ?_
        refine q_goto (tgt := 10) eX9_addChoice_42 (by decide) ?_
        exact q_subL rfl (h.1 ht hr hA hra2 hra3 r4)
      · have h := h.2 c34
        refine q_iload_n eX9_addChoice_37 rfl ?_
        exact q_iret eX9_addChoice_38 rfl ⟨_, _, rfl, hA, hra2, rfl, h⟩
set_option maxRecDepth 20000 in
theorem s_X9_addChoice {t : Nat} {r : Nat} {s : ST} {p : Int} {q : Int} {Q : ST → Int → Prop} (h : isT t → isW r → RA s → R32 p → R32 q → (P_X9_wordOf t s q ∧ K_X9_addChoice_10 t r s p q (F_X9_wordOf t s q) 0 Q)) : C_X9_addChoice t r s p q Q := by
  refine ⟨?_, trivial⟩
  intro ht hr hA hrp hrq
  have h := h ht hr hA hrp hrq
  refine q_enter (by decide) (Nat.le_of_ble_eq_true rfl) ?_
  refine q_aload_n eX9_addChoice_0 rfl ?_
  refine q_iload_n eX9_addChoice_1 rfl ?_
  have f2 := h.1
  have h := h.2
  refine q_V1 (ci := 9) (n := 0) eX9_addChoice_2 DX9_wordOf lX9_96 (tl_0 ht) (by decide) rfl rfl rfl rfl (p_X9_wordOf f2 ht hA hrq) ?_
  rintro _ _ ⟨rfl, rfl⟩
  refine q_lstore eX9_addChoice_5 (Nat.le_of_ble_eq_true rfl) ?_
  refine q_ic (v := Int32.ofInt 0) eX9_addChoice_7 rfl ?_
  refine q_istore eX9_addChoice_8 (Nat.le_of_ble_eq_true rfl) ?_
  exact q_subL rfl (h.1 ht hr hA hrp hrq (r32l rfl))
theorem eX9_choicesAt_0 : decode cX9_choicesAt 0 = .ok (.aload_n 0, 1) := by decide +kernel
theorem eX9_choicesAt_1 : decode cX9_choicesAt 1 = .ok (.iload_n 1, 1) := by decide +kernel
theorem eX9_choicesAt_2 : decode cX9_choicesAt 2 = .ok (.invokevirtual 71, 3) := by decide +kernel
theorem eX9_choicesAt_5 : decode cX9_choicesAt 5 = .ok (.ifCond .ne 5, 3) := by decide +kernel
theorem eX9_choicesAt_8 : decode cX9_choicesAt 8 = .ok (.iconst 0, 1) := by decide +kernel
theorem eX9_choicesAt_9 : decode cX9_choicesAt 9 = .ok (.ireturn, 1) := by decide +kernel
theorem eX9_choicesAt_10 : decode cX9_choicesAt 10 = .ok (.iconst 0, 1) := by decide +kernel
theorem eX9_choicesAt_11 : decode cX9_choicesAt 11 = .ok (.istore_n 3, 1) := by decide +kernel
theorem eX9_choicesAt_12 : decode cX9_choicesAt 12 = .ok (.iload_n 1, 1) := by decide +kernel
theorem eX9_choicesAt_13 : decode cX9_choicesAt 13 = .ok (.istore 4, 2) := by decide +kernel
theorem eX9_choicesAt_15 : decode cX9_choicesAt 15 = .ok (.aload_n 0, 1) := by decide +kernel
theorem eX9_choicesAt_16 : decode cX9_choicesAt 16 = .ok (.getfield 34, 3) := by decide +kernel
theorem eX9_choicesAt_19 : decode cX9_choicesAt 19 = .ok (.iload_n 1, 1) := by decide +kernel
theorem eX9_choicesAt_20 : decode cX9_choicesAt 20 = .ok (.iaload, 1) := by decide +kernel
theorem eX9_choicesAt_21 : decode cX9_choicesAt 21 = .ok (.istore 5, 2) := by decide +kernel
theorem eX9_choicesAt_23 : decode cX9_choicesAt 23 = .ok (.iconst 0, 1) := by decide +kernel
theorem eX9_choicesAt_24 : decode cX9_choicesAt 24 = .ok (.istore 6, 2) := by decide +kernel
theorem eX9_choicesAt_26 : decode cX9_choicesAt 26 = .ok (.iload 6, 2) := by decide +kernel
theorem eX9_choicesAt_28 : decode cX9_choicesAt 28 = .ok (.bipush 40, 2) := by decide +kernel
theorem eX9_choicesAt_30 : decode cX9_choicesAt 30 = .ok (.if_icmp .ge 78, 3) := by decide +kernel
theorem eX9_choicesAt_33 : decode cX9_choicesAt 33 = .ok (.aload_n 0, 1) := by decide +kernel
theorem eX9_choicesAt_34 : decode cX9_choicesAt 34 = .ok (.iload 5, 2) := by decide +kernel
theorem eX9_choicesAt_36 : decode cX9_choicesAt 36 = .ok (.invokevirtual 71, 3) := by decide +kernel
theorem eX9_choicesAt_39 : decode cX9_choicesAt 39 = .ok (.ifCond .eq 69, 3) := by decide +kernel
theorem eX9_choicesAt_42 : decode cX9_choicesAt 42 = .ok (.aload_n 0, 1) := by decide +kernel
theorem eX9_choicesAt_43 : decode cX9_choicesAt 43 = .ok (.getfield 19, 3) := by decide +kernel
theorem eX9_choicesAt_46 : decode cX9_choicesAt 46 = .ok (.iload 5, 2) := by decide +kernel
theorem eX9_choicesAt_48 : decode cX9_choicesAt 48 = .ok (.iaload, 1) := by decide +kernel
theorem eX9_choicesAt_49 : decode cX9_choicesAt 49 = .ok (.iconst 3, 1) := by decide +kernel
theorem eX9_choicesAt_50 : decode cX9_choicesAt 50 = .ok (.if_icmp .eq 30, 3) := by decide +kernel
theorem eX9_choicesAt_53 : decode cX9_choicesAt 53 = .ok (.aload_n 0, 1) := by decide +kernel
theorem eX9_choicesAt_54 : decode cX9_choicesAt 54 = .ok (.getfield 19, 3) := by decide +kernel
theorem eX9_choicesAt_57 : decode cX9_choicesAt 57 = .ok (.iload 5, 2) := by decide +kernel
theorem eX9_choicesAt_59 : decode cX9_choicesAt 59 = .ok (.iaload, 1) := by decide +kernel
theorem eX9_choicesAt_60 : decode cX9_choicesAt 60 = .ok (.iconst 4, 1) := by decide +kernel
theorem eX9_choicesAt_61 : decode cX9_choicesAt 61 = .ok (.if_icmp .ne 28, 3) := by decide +kernel
theorem eX9_choicesAt_64 : decode cX9_choicesAt 64 = .ok (.aload_n 0, 1) := by decide +kernel
theorem eX9_choicesAt_65 : decode cX9_choicesAt 65 = .ok (.getfield 37, 3) := by decide +kernel
theorem eX9_choicesAt_68 : decode cX9_choicesAt 68 = .ok (.iconst 3, 1) := by decide +kernel
theorem eX9_choicesAt_69 : decode cX9_choicesAt 69 = .ok (.iload 5, 2) := by decide +kernel
theorem eX9_choicesAt_71 : decode cX9_choicesAt 71 = .ok (.imul, 1) := by decide +kernel
theorem eX9_choicesAt_72 : decode cX9_choicesAt 72 = .ok (.iconst 1, 1) := by decide +kernel
theorem eX9_choicesAt_73 : decode cX9_choicesAt 73 = .ok (.iadd, 1) := by decide +kernel
theorem eX9_choicesAt_74 : decode cX9_choicesAt 74 = .ok (.iaload, 1) := by decide +kernel
theorem eX9_choicesAt_75 : decode cX9_choicesAt 75 = .ok (.iload 4, 2) := by decide +kernel
theorem eX9_choicesAt_77 : decode cX9_choicesAt 77 = .ok (.if_icmp .ne 12, 3) := by decide +kernel
theorem eX9_choicesAt_80 : decode cX9_choicesAt 80 = .ok (.aload_n 0, 1) := by decide +kernel
theorem eX9_choicesAt_81 : decode cX9_choicesAt 81 = .ok (.aload_n 2, 1) := by decide +kernel
theorem eX9_choicesAt_82 : decode cX9_choicesAt 82 = .ok (.iload_n 3, 1) := by decide +kernel
theorem eX9_choicesAt_83 : decode cX9_choicesAt 83 = .ok (.iload 5, 2) := by decide +kernel
theorem eX9_choicesAt_85 : decode cX9_choicesAt 85 = .ok (.invokevirtual 92, 3) := by decide +kernel
theorem eX9_choicesAt_88 : decode cX9_choicesAt 88 = .ok (.istore_n 3, 1) := by decide +kernel
theorem eX9_choicesAt_89 : decode cX9_choicesAt 89 = .ok (.iload 5, 2) := by decide +kernel
theorem eX9_choicesAt_91 : decode cX9_choicesAt 91 = .ok (.istore 4, 2) := by decide +kernel
theorem eX9_choicesAt_93 : decode cX9_choicesAt 93 = .ok (.aload_n 0, 1) := by decide +kernel
theorem eX9_choicesAt_94 : decode cX9_choicesAt 94 = .ok (.getfield 34, 3) := by decide +kernel
theorem eX9_choicesAt_97 : decode cX9_choicesAt 97 = .ok (.iload 5, 2) := by decide +kernel
theorem eX9_choicesAt_99 : decode cX9_choicesAt 99 = .ok (.iaload, 1) := by decide +kernel
theorem eX9_choicesAt_100 : decode cX9_choicesAt 100 = .ok (.istore 5, 2) := by decide +kernel
theorem eX9_choicesAt_102 : decode cX9_choicesAt 102 = .ok (.iinc 6 1, 3) := by decide +kernel
theorem eX9_choicesAt_105 : decode cX9_choicesAt 105 = .ok (.goto (-79), 3) := by decide +kernel
theorem eX9_choicesAt_108 : decode cX9_choicesAt 108 = .ok (.aload_n 0, 1) := by decide +kernel
theorem eX9_choicesAt_109 : decode cX9_choicesAt 109 = .ok (.getfield 25, 3) := by decide +kernel
theorem eX9_choicesAt_112 : decode cX9_choicesAt 112 = .ok (.iload_n 1, 1) := by decide +kernel
theorem eX9_choicesAt_113 : decode cX9_choicesAt 113 = .ok (.iaload, 1) := by decide +kernel
theorem eX9_choicesAt_114 : decode cX9_choicesAt 114 = .ok (.iconst 1, 1) := by decide +kernel
theorem eX9_choicesAt_115 : decode cX9_choicesAt 115 = .ok (.isub, 1) := by decide +kernel
theorem eX9_choicesAt_116 : decode cX9_choicesAt 116 = .ok (.istore 6, 2) := by decide +kernel
theorem eX9_choicesAt_118 : decode cX9_choicesAt 118 = .ok (.iload 6, 2) := by decide +kernel
theorem eX9_choicesAt_120 : decode cX9_choicesAt 120 = .ok (.ifCond .lt 21, 3) := by decide +kernel
theorem eX9_choicesAt_123 : decode cX9_choicesAt 123 = .ok (.aload_n 0, 1) := by decide +kernel
theorem eX9_choicesAt_124 : decode cX9_choicesAt 124 = .ok (.aload_n 2, 1) := by decide +kernel
theorem eX9_choicesAt_125 : decode cX9_choicesAt 125 = .ok (.iload_n 3, 1) := by decide +kernel
theorem eX9_choicesAt_126 : decode cX9_choicesAt 126 = .ok (.bipush 40, 2) := by decide +kernel
theorem eX9_choicesAt_128 : decode cX9_choicesAt 128 = .ok (.iload 6, 2) := by decide +kernel
theorem eX9_choicesAt_130 : decode cX9_choicesAt 130 = .ok (.iadd, 1) := by decide +kernel
theorem eX9_choicesAt_131 : decode cX9_choicesAt 131 = .ok (.invokevirtual 92, 3) := by decide +kernel
theorem eX9_choicesAt_134 : decode cX9_choicesAt 134 = .ok (.istore_n 3, 1) := by decide +kernel
theorem eX9_choicesAt_135 : decode cX9_choicesAt 135 = .ok (.iinc 6 (-1), 3) := by decide +kernel
theorem eX9_choicesAt_138 : decode cX9_choicesAt 138 = .ok (.goto (-20), 3) := by decide +kernel
theorem eX9_choicesAt_141 : decode cX9_choicesAt 141 = .ok (.iload_n 3, 1) := by decide +kernel
theorem eX9_choicesAt_142 : decode cX9_choicesAt 142 = .ok (.ireturn, 1) := by decide +kernel
def C_X9_choicesAt (t : Nat) (r : Nat) (s : ST) (p : Int) (Q : ST → Int → Prop) : Prop := bx <| isT t → isW r → RA s → R32 p → q_met mX9_choicesAt (qs layX s) [.ref t, .int (Int32.ofInt p), .ref r] (PI layX Q)
theorem C_X9_choicesAt.mono {t : Nat} {r : Nat} {s : ST} {p : Int} {Q Q' : ST → Int → Prop} (h : C_X9_choicesAt t r s p Q) (hq : ∀ s v, Q s v → Q' s v) : C_X9_choicesAt t r s p Q' := ⟨fun ht hr hA hrp => q_met.mono (h.1 ht hr hA hrp) (fun _ _ => PI.mono hq), trivial⟩
def K_X9_choicesAt_118 (t : Nat) (r : Nat) (s : ST) (a3 : Int) (a6 : Int) (Q : ST → Int → Prop) : Prop := bx <| isT t → isW r → RA s → R32 a3 → R32 a6 → q_K mX9_choicesAt (qs layX s) 0 0 118 [(0, .ref t), (2, .ref r), (3, .int (Int32.ofInt a3)), (6, .int (Int32.ofInt a6))] [] (q_fin mX9_choicesAt (PI layX Q))
def K_X9_choicesAt_108 (t : Nat) (r : Nat) (s : ST) (a1 : Int) (a3 : Int) (Q : ST → Int → Prop) : Prop := bx <| isT t → isW r → RA s → R32 a1 → R32 a3 → q_K mX9_choicesAt (qs layX s) 0 0 108 [(0, .ref t), (1, .int (Int32.ofInt a1)), (2, .ref r), (3, .int (Int32.ofInt a3))] [] (q_fin mX9_choicesAt (PI layX Q))
def K_X9_choicesAt_89 (t : Nat) (r : Nat) (s : ST) (a1 : Int) (a3 : Int) (a5 : Int) (a6 : Int) (Q : ST → Int → Prop) : Prop := bx <| isT t → isW r → RA s → R32 a1 → R32 a3 → R32 a5 → R32 a6 → q_K mX9_choicesAt (qs layX s) 0 0 89 [(0, .ref t), (1, .int (Int32.ofInt a1)), (2, .ref r), (3, .int (Int32.ofInt a3)), (5, .int (Int32.ofInt a5)), (6, .int (Int32.ofInt a6))] [] (q_fin mX9_choicesAt (PI layX Q))
def K_X9_choicesAt_80 (t : Nat) (r : Nat) (s : ST) (a1 : Int) (a3 : Int) (a5 : Int) (a6 : Int) (Q : ST → Int → Prop) : Prop := bx <| isT t → isW r → RA s → R32 a1 → R32 a3 → R32 a5 → R32 a6 → q_K mX9_choicesAt (qs layX s) 0 0 80 [(0, .ref t), (1, .int (Int32.ofInt a1)), (2, .ref r), (3, .int (Int32.ofInt a3)), (5, .int (Int32.ofInt a5)), (6, .int (Int32.ofInt a6))] [] (q_fin mX9_choicesAt (PI layX Q))
def K_X9_choicesAt_26 (t : Nat) (r : Nat) (s : ST) (a1 : Int) (a3 : Int) (a4 : Int) (a5 : Int) (a6 : Int) (Q : ST → Int → Prop) : Prop := bx <| isT t → isW r → RA s → R32 a1 → R32 a3 → R32 a4 → R32 a5 → R32 a6 → q_K mX9_choicesAt (qs layX s) 0 0 26 [(0, .ref t), (1, .int (Int32.ofInt a1)), (2, .ref r), (3, .int (Int32.ofInt a3)), (4, .int (Int32.ofInt a4)), (5, .int (Int32.ofInt a5)), (6, .int (Int32.ofInt a6))] [] (q_fin mX9_choicesAt (PI layX Q))
set_option maxRecDepth 20000 in
theorem s_X9_choicesAt_118 {t : Nat} {r : Nat} {s : ST} {a3 : Int} {a6 : Int} {Q : ST → Int → Prop} (h : isT t → isW r → RA s → R32 a3 → R32 a6 → ((a6 < 0 → Q s a3) ∧ (¬ a6 < 0 → (C_X9_addChoice t r s a3 (w32 (40 + a6)) (fun s1 v1 => (R32 (a6 - 1) ∧ K_X9_choicesAt_118 t r s1 v1 (a6 - 1) Q)))))) : K_X9_choicesAt_118 t r s a3 a6 Q := by
  refine ⟨?_, trivial⟩
  intro ht hr hA hra3 hra6
  have h := h ht hr hA hra3 hra6
  refine q_iload eX9_choicesAt_118 rfl ?_
  refine q_iz_lt (tgt := 141) (a := a6) eX9_choicesAt_120 (by decide) (ofz hra6) (fun c120 => ?_) (fun c120 => ?_)
  · have h := h.1 c120
    refine q_iload_n eX9_choicesAt_141 rfl ?_
    exact q_iret eX9_choicesAt_142 rfl ⟨_, _, rfl, hA, hra3, rfl, h⟩
  · have h := h.2 c120
    refine q_aload_n eX9_choicesAt_123 rfl ?_
    refine q_aload_n eX9_choicesAt_124 rfl ?_
    refine q_iload_n eX9_choicesAt_125 rfl ?_
    refine q_bi (v := Int32.ofInt 40) eX9_choicesAt_126 rfl ?_
    refine q_iload eX9_choicesAt_128 rfl ?_
    refine z_iadd eX9_choicesAt_130 ?_
    refine q_topI (v := Int32.ofInt (w32 (40 + a6))) (w32_of _).symm ?_
    refine q_V3 (ci := 9) (n := 0) eX9_choicesAt_131 DX9_addChoice lX9_92 (tl_0 ht) (by decide) rfl rfl rfl rfl (h.1 ht hr hA hra3 (w32_r _)) ?_
    rintro _ _ ⟨s1, v1, rfl, hA1, r1, rfl, h⟩
    refine q_istore_n eX9_choicesAt_134 (Nat.le_of_ble_eq_true rfl) ?_
    have r2 := h.1
    have h := h.2
    refine z_incN (m := 1) eX9_choicesAt_135 rfl (Nat.le_of_ble_eq_true rfl) rfl ?_
    refine q_goto (tgt := 118) eX9_choicesAt_138 (by decide) ?_
    exact q_subL rfl (h.1 ht hr hA1 r1 r2)
set_option maxRecDepth 20000 in
theorem s_X9_choicesAt_108 {t : Nat} {r : Nat} {s : ST} {a1 : Int} {a3 : Int} {Q : ST → Int → Prop} (h : isT t → isW r → RA s → R32 a1 → R32 a3 → (((0 : Int) ≤ a1 ∧ a1 < 40) ∧ K_X9_choicesAt_118 t r s a3 (w32 (s.1 (t + 5) a1 - 1)) Q)) : K_X9_choicesAt_108 t r s a1 a3 Q := by
  refine ⟨?_, trivial⟩
  intro ht hr hA hra1 hra3
  have h := h ht hr hA hra1 hra3
  refine q_aload_n eX9_choicesAt_108 rfl ?_
  refine q_getR (c := 9) (n := 0) (k := 7) (a := (t + 5)) eX9_choicesAt_109 (tl_0 ht) (by decide) (by decide) fX9_25 rfl (tr_7 ht) ?_
  refine q_iload_n eX9_choicesAt_112 rfl ?_
  have f1 := h.1
  have h := h.2
  refine z_iald (n := 40) eX9_choicesAt_113 (tl_5 ht) (ofz hra1) f1 ?_
  refine q_topI (v := Int32.ofInt (s.1 (t + 5) a1)) rfl ?_
  refine q_ic (v := Int32.ofInt 1) eX9_choicesAt_114 rfl ?_
  refine z_isub eX9_choicesAt_115 ?_
  refine q_topI (v := Int32.ofInt (w32 (s.1 (t + 5) a1 - 1))) (w32_of _).symm ?_
  refine q_istore eX9_choicesAt_116 (Nat.le_of_ble_eq_true rfl) ?_
  exact q_subL rfl (h.1 ht hr hA hra3 (w32_r _))
set_option maxRecDepth 20000 in
theorem s_X9_choicesAt_89 {t : Nat} {r : Nat} {s : ST} {a1 : Int} {a3 : Int} {a5 : Int} {a6 : Int} {Q : ST → Int → Prop} (h : isT t → isW r → RA s → R32 a1 → R32 a3 → R32 a5 → R32 a6 → (((0 : Int) ≤ a5 ∧ a5 < 40) ∧ (R32 (a6 + 1) ∧ K_X9_choicesAt_26 t r s a1 a3 a5 (s.1 (t + 8) a5) (a6 + 1) Q))) : K_X9_choicesAt_89 t r s a1 a3 a5 a6 Q := by
  refine ⟨?_, trivial⟩
  intro ht hr hA hra1 hra3 hra5 hra6
  have h := h ht hr hA hra1 hra3 hra5 hra6
  refine q_iload eX9_choicesAt_89 rfl ?_
  refine q_istore eX9_choicesAt_91 (Nat.le_of_ble_eq_true rfl) ?_
  refine q_aload_n eX9_choicesAt_93 rfl ?_
  refine q_getR (c := 9) (n := 0) (k := 10) (a := (t + 8)) eX9_choicesAt_94 (tl_0 ht) (by decide) (by decide) fX9_34 rfl (tr_10 ht) ?_
  refine q_iload eX9_choicesAt_97 rfl ?_
  have f1 := h.1
  have h := h.2
  refine z_iald (n := 40) eX9_choicesAt_99 (tl_8 ht) (ofz hra5) f1 ?_
  refine q_topI (v := Int32.ofInt (s.1 (t + 8) a5)) rfl ?_
  refine q_istore eX9_choicesAt_100 (Nat.le_of_ble_eq_true rfl) ?_
  have r2 := h.1
  have h := h.2
  refine z_inc (m := 1) eX9_choicesAt_102 rfl (Nat.le_of_ble_eq_true rfl) rfl ?_
  refine q_goto (tgt := 26) eX9_choicesAt_105 (by decide) ?_
  exact q_subL rfl (h.1 ht hr hA hra1 hra3 hra5 (hA _ _) r2)
set_option maxRecDepth 20000 in
theorem s_X9_choicesAt_80 {t : Nat} {r : Nat} {s : ST} {a1 : Int} {a3 : Int} {a5 : Int} {a6 : Int} {Q : ST → Int → Prop} (h : isT t → isW r → RA s → R32 a1 → R32 a3 → R32 a5 → R32 a6 → (C_X9_addChoice t r s a3 a5 (fun s1 v1 => K_X9_choicesAt_89 t r s1 a1 v1 a5 a6 Q))) : K_X9_choicesAt_80 t r s a1 a3 a5 a6 Q := by
  refine ⟨?_, trivial⟩
  intro ht hr hA hra1 hra3 hra5 hra6
  have h := h ht hr hA hra1 hra3 hra5 hra6
  refine q_aload_n eX9_choicesAt_80 rfl ?_
  refine q_aload_n eX9_choicesAt_81 rfl ?_
  refine q_iload_n eX9_choicesAt_82 rfl ?_
  refine q_iload eX9_choicesAt_83 rfl ?_
  refine q_V3 (ci := 9) (n := 0) eX9_choicesAt_85 DX9_addChoice lX9_92 (tl_0 ht) (by decide) rfl rfl rfl rfl (h.1 ht hr hA hra3 hra5) ?_
  rintro _ _ ⟨s1, v1, rfl, hA1, r1, rfl, h⟩
  refine q_istore_n eX9_choicesAt_88 (Nat.le_of_ble_eq_true rfl) ?_
  exact q_subL rfl (h.1 ht hr hA1 hra1 r1 hra5 hra6)
set_option maxRecDepth 20000 in
theorem s_X9_choicesAt_26 {t : Nat} {r : Nat} {s : ST} {a1 : Int} {a3 : Int} {a4 : Int} {a5 : Int} {a6 : Int} {Q : ST → Int → Prop} (h : isT t → isW r → RA s → R32 a1 → R32 a3 → R32 a4 → R32 a5 → R32 a6 → ((40 ≤ a6 → K_X9_choicesAt_108 t r s a1 a3 Q) ∧ (¬ 40 ≤ a6 → ((¬ (¬ a5 < 0 ∧ (¬ s.1 t 1 ≤ a5 ∧ ¬ 40 ≤ a5)) → K_X9_choicesAt_108 t r s a1 a3 Q) ∧ ((¬ a5 < 0 ∧ (¬ s.1 t 1 ≤ a5 ∧ ¬ 40 ≤ a5)) → (((0 : Int) ≤ a5 ∧ a5 < 40) ∧ ((s.1 (t + 3) a5 = 3 → K_X9_choicesAt_80 t r s a1 a3 a5 a6 Q) ∧ (¬ s.1 (t + 3) a5 = 3 → ((¬ s.1 (t + 3) a5 = 4 → K_X9_choicesAt_89 t r s a1 a3 a5 a6 Q) ∧ (s.1 (t + 3) a5 = 4 → (R32 (3 * a5) ∧ (R32 ((3 * a5) + 1) ∧ (((0 : Int) ≤ ((3 * a5) + 1) ∧ ((3 * a5) + 1) < 120) ∧ ((¬ s.1 (t + 9) ((3 * a5) + 1) = a4 → K_X9_choicesAt_89 t r s a1 a3 a5 a6 Q) ∧ (s.1 (t + 9) ((3 * a5) + 1) = a4 → K_X9_choicesAt_80 t r s a1 a3 a5 a6 Q))))))))))))))) : K_X9_choicesAt_26 t r s a1 a3 a4 a5 a6 Q := by
  refine ⟨?_, trivial⟩
  intro ht hr hA hra1 hra3 hra4 hra5 hra6
  have h := h ht hr hA hra1 hra3 hra4 hra5 hra6
  refine q_iload eX9_choicesAt_26 rfl ?_
  refine q_bi (v := Int32.ofInt 40) eX9_choicesAt_28 rfl ?_
  refine q_cz_ge (tgt := 108) (a := a6) (b := 40) eX9_choicesAt_30 (by decide) (ofz hra6) (ofz (r32l rfl)) (fun c30 => ?_) (fun c30 => ?_)
  · have h := h.1 c30
    exact q_subL rfl (h.1 ht hr hA hra1 hra3)
  · have h := h.2 c30
    refine q_aload_n eX9_choicesAt_33 rfl ?_
    refine q_iload eX9_choicesAt_34 rfl ?_
    refine q_V1 (ci := 9) (n := 0) eX9_choicesAt_36 DX9_has lX9_71 (tl_0 ht) (by decide) rfl rfl rfl rfl (p_X9_has ht hA hra5) ?_
    rintro _ _ ⟨b1, rfl, rfl⟩
    refine q_iz_eq (tgt := 108) (a := (F_X9_has t s a5)) eX9_choicesAt_39 (by decide) (ofz (r01 b1)) (fun c39 => ?_) (fun c39 => ?_)
    · have h := h.1 (fun q => n_X9_has.mpr q c39)
      exact q_subL rfl (h.1 ht hr hA hra1 hra3)
    · have h := h.2 (n_X9_has.mp c39)
      refine q_aload_n eX9_choicesAt_42 rfl ?_
      refine q_getR (c := 9) (n := 0) (k := 5) (a := (t + 3)) eX9_choicesAt_43 (tl_0 ht) (by decide) (by decide) fX9_19 rfl (tr_5 ht) ?_
      refine q_iload eX9_choicesAt_46 rfl ?_
      have f2 := h.1
      have h := h.2
      refine z_iald (n := 40) eX9_choicesAt_48 (tl_3 ht) (ofz hra5) f2 ?_
      refine q_topI (v := Int32.ofInt (s.1 (t + 3) a5)) rfl ?_
      refine q_ic (v := Int32.ofInt 3) eX9_choicesAt_49 rfl ?_
      refine q_cz_eq (tgt := 80) (a := s.1 (t + 3) a5) (b := 3) eX9_choicesAt_50 (by decide) (ofz (hA _ _)) (ofz (r32l rfl)) (fun c50 => ?_) (fun c50 => ?_)
      · have h := h.1 c50
        exact q_subL rfl (h.1 ht hr hA hra1 hra3 hra5 hra6)
      · have h := h.2 c50
        refine q_aload_n eX9_choicesAt_53 rfl ?_
        refine q_getR (c := 9) (n := 0) (k := 5) (a := (t + 3)) eX9_choicesAt_54 (tl_0 ht) (by decide) (by decide) fX9_19 rfl (tr_5 ht) ?_
        refine q_iload eX9_choicesAt_57 rfl ?_
        refine z_iald (n := 40) eX9_choicesAt_59 (tl_3 ht) (ofz hra5) f2 ?_
        refine q_topI (v := Int32.ofInt (s.1 (t + 3) a5)) rfl ?_
        refine q_ic (v := Int32.ofInt 4) eX9_choicesAt_60 rfl ?_
        refine q_cz_ne (tgt := 89) (a := s.1 (t + 3) a5) (b := 4) eX9_choicesAt_61 (by decide) (ofz (hA _ _)) (ofz (r32l rfl)) (fun c61 => ?_) (fun c61 => ?_)
        · have h := h.1 c61
          exact q_subL rfl (h.1 ht hr hA hra1 hra3 hra5 hra6)
        · have h := h.2 c61
          refine q_aload_n eX9_choicesAt_64 rfl ?_
          refine q_getR (c := 9) (n := 0) (k := 11) (a := (t + 9)) eX9_choicesAt_65 (tl_0 ht) (by decide) (by decide) fX9_37 rfl (tr_11 ht) ?_
          refine q_ic (v := Int32.ofInt 3) eX9_choicesAt_68 rfl ?_
          refine q_iload eX9_choicesAt_69 rfl ?_
          refine z_imul eX9_choicesAt_71 ?_
          have r3 := h.1
          have h := h.2
          refine q_ic (v := Int32.ofInt 1) eX9_choicesAt_72 rfl ?_
          refine z_iadd eX9_choicesAt_73 ?_
          have r4 := h.1
          have h := h.2
          have f5 := h.1
          have h := h.2
          refine z_iald (n := 120) eX9_choicesAt_74 (tl_9 ht) (ofz r4) f5 ?_
          refine q_topI (v := Int32.ofInt (s.1 (t + 9) ((3 * a5) + 1))) rfl ?_
          refine q_iload eX9_choicesAt_75 rfl ?_
          refine q_cz_ne (tgt := 89) (a := s.1 (t + 9) ((3 * a5) + 1)) (b := a4) eX9_choicesAt_77 (by decide) (ofz (hA _ _)) (ofz hra4) (fun c77 => ?_) (fun c77 => ?_)
          · have h := h.1 c77
            exact q_subL rfl (h.1 ht hr hA hra1 hra3 hra5 hra6)
          · have h := h.2 c77
            exact q_subL rfl (h.1 ht hr hA hra1 hra3 hra5 hra6)
set_option maxRecDepth 20000 in
theorem s_X9_choicesAt {t : Nat} {r : Nat} {s : ST} {p : Int} {Q : ST → Int → Prop} (h : isT t → isW r → RA s → R32 p → (((¬ p < 0 ∧ (¬ s.1 t 1 ≤ p ∧ ¬ 40 ≤ p)) → (((0 : Int) ≤ p ∧ p < 40) ∧ K_X9_choicesAt_26 t r s p 0 p (s.1 (t + 8) p) 0 Q)) ∧ (¬ (¬ p < 0 ∧ (¬ s.1 t 1 ≤ p ∧ ¬ 40 ≤ p)) → Q s 0))) : C_X9_choicesAt t r s p Q := by
  refine ⟨?_, trivial⟩
  intro ht hr hA hrp
  have h := h ht hr hA hrp
  refine q_enter (by decide) (Nat.le_of_ble_eq_true rfl) ?_
  refine q_aload_n eX9_choicesAt_0 rfl ?_
  refine q_iload_n eX9_choicesAt_1 rfl ?_
  refine q_V1 (ci := 9) (n := 0) eX9_choicesAt_2 DX9_has lX9_71 (tl_0 ht) (by decide) rfl rfl rfl rfl (p_X9_has ht hA hrp) ?_
  rintro _ _ ⟨b1, rfl, rfl⟩
  refine q_iz_ne (tgt := 10) (a := (F_X9_has t s p)) eX9_choicesAt_5 (by decide) (ofz (r01 b1)) (fun c5 => ?_) (fun c5 => ?_)
  · have h := h.1 (n_X9_has.mp c5)
    refine q_ic (v := Int32.ofInt 0) eX9_choicesAt_10 rfl ?_
    refine q_istore_n eX9_choicesAt_11 (Nat.le_of_ble_eq_true rfl) ?_
    refine q_iload_n eX9_choicesAt_12 rfl ?_
    refine q_istore eX9_choicesAt_13 (Nat.le_of_ble_eq_true rfl) ?_
    refine q_aload_n eX9_choicesAt_15 rfl ?_
    refine q_getR (c := 9) (n := 0) (k := 10) (a := (t + 8)) eX9_choicesAt_16 (tl_0 ht) (by decide) (by decide) fX9_34 rfl (tr_10 ht) ?_
    refine q_iload_n eX9_choicesAt_19 rfl ?_
    have f2 := h.1
    have h := h.2
    refine z_iald (n := 40) eX9_choicesAt_20 (tl_8 ht) (ofz hrp) f2 ?_
    refine q_topI (v := Int32.ofInt (s.1 (t + 8) p)) rfl ?_
    refine q_istore eX9_choicesAt_21 (Nat.le_of_ble_eq_true rfl) ?_
    refine q_ic (v := Int32.ofInt 0) eX9_choicesAt_23 rfl ?_
    refine q_istore eX9_choicesAt_24 (Nat.le_of_ble_eq_true rfl) ?_
    exact q_subL rfl (h.1 ht hr hA hrp (r32l rfl) hrp (hA _ _) (r32l rfl))
  · have h := h.2 (fun q => n_X9_has.mpr q c5)
    refine q_ic (v := Int32.ofInt 0) eX9_choicesAt_8 rfl ?_
    exact q_iret eX9_choicesAt_9 rfl ⟨_, _, rfl, hA, (r32l rfl), rfl, h⟩
theorem eX2_ways_0 : decode cX2_ways 0 = .ok (.aload_n 1, 1) := by decide +kernel
theorem eX2_ways_1 : decode cX2_ways 1 = .ok (.iload_n 2, 1) := by decide +kernel
theorem eX2_ways_2 : decode cX2_ways 2 = .ok (.invokevirtual 34, 3) := by decide +kernel
theorem eX2_ways_5 : decode cX2_ways 5 = .ok (.istore 4, 2) := by decide +kernel
theorem eX2_ways_7 : decode cX2_ways 7 = .ok (.iload_n 3, 1) := by decide +kernel
theorem eX2_ways_8 : decode cX2_ways 8 = .ok (.tableswitch 89 0 3 #[32, 46, 66, 77], 32) := by decide +kernel
theorem eX2_ways_40 : decode cX2_ways 40 = .ok (.iload 4, 2) := by decide +kernel
theorem eX2_ways_42 : decode cX2_ways 42 = .ok (.invokestatic 38, 3) := by decide +kernel
theorem eX2_ways_45 : decode cX2_ways 45 = .ok (.ifCond .eq 7, 3) := by decide +kernel
theorem eX2_ways_48 : decode cX2_ways 48 = .ok (.iconst 1, 1) := by decide +kernel
theorem eX2_ways_49 : decode cX2_ways 49 = .ok (.goto 4, 3) := by decide +kernel
theorem eX2_ways_52 : decode cX2_ways 52 = .ok (.iconst 0, 1) := by decide +kernel
theorem eX2_ways_53 : decode cX2_ways 53 = .ok (.ireturn, 1) := by decide +kernel
theorem eX2_ways_54 : decode cX2_ways 54 = .ok (.iload 4, 2) := by decide +kernel
theorem eX2_ways_56 : decode cX2_ways 56 = .ok (.iconst 2, 1) := by decide +kernel
theorem eX2_ways_57 : decode cX2_ways 57 = .ok (.if_icmp .ne 15, 3) := by decide +kernel
theorem eX2_ways_60 : decode cX2_ways 60 = .ok (.aload_n 1, 1) := by decide +kernel
theorem eX2_ways_61 : decode cX2_ways 61 = .ok (.iload_n 2, 1) := by decide +kernel
theorem eX2_ways_62 : decode cX2_ways 62 = .ok (.aload_n 0, 1) := by decide +kernel
theorem eX2_ways_63 : decode cX2_ways 63 = .ok (.getfield 22, 3) := by decide +kernel
theorem eX2_ways_66 : decode cX2_ways 66 = .ok (.invokevirtual 42, 3) := by decide +kernel
theorem eX2_ways_69 : decode cX2_ways 69 = .ok (.goto 4, 3) := by decide +kernel
theorem eX2_ways_72 : decode cX2_ways 72 = .ok (.iconst 0, 1) := by decide +kernel
theorem eX2_ways_73 : decode cX2_ways 73 = .ok (.ireturn, 1) := by decide +kernel
theorem eX2_ways_74 : decode cX2_ways 74 = .ok (.iload 4, 2) := by decide +kernel
theorem eX2_ways_76 : decode cX2_ways 76 = .ok (.ifCond .ne 7, 3) := by decide +kernel
theorem eX2_ways_79 : decode cX2_ways 79 = .ok (.iconst 1, 1) := by decide +kernel
theorem eX2_ways_80 : decode cX2_ways 80 = .ok (.goto 4, 3) := by decide +kernel
theorem eX2_ways_83 : decode cX2_ways 83 = .ok (.iconst 0, 1) := by decide +kernel
theorem eX2_ways_84 : decode cX2_ways 84 = .ok (.ireturn, 1) := by decide +kernel
theorem eX2_ways_85 : decode cX2_ways 85 = .ok (.iload 4, 2) := by decide +kernel
theorem eX2_ways_87 : decode cX2_ways 87 = .ok (.iconst 1, 1) := by decide +kernel
theorem eX2_ways_88 : decode cX2_ways 88 = .ok (.if_icmp .ne 7, 3) := by decide +kernel
theorem eX2_ways_91 : decode cX2_ways 91 = .ok (.iconst 1, 1) := by decide +kernel
theorem eX2_ways_92 : decode cX2_ways 92 = .ok (.goto 4, 3) := by decide +kernel
theorem eX2_ways_95 : decode cX2_ways 95 = .ok (.iconst 0, 1) := by decide +kernel
theorem eX2_ways_96 : decode cX2_ways 96 = .ok (.ireturn, 1) := by decide +kernel
theorem eX2_ways_97 : decode cX2_ways 97 = .ok (.iconst 1, 1) := by decide +kernel
theorem eX2_ways_98 : decode cX2_ways 98 = .ok (.ireturn, 1) := by decide +kernel
def C_X2_ways (o : Nat) (s : ST) (p : Int) (q : Int) (Q : ST → Int → Prop) : Prop := bx <| isT o → RA s → R32 p → R32 q → q_met mX2_ways (qs layX s) [.ref 17, .ref o, .int (Int32.ofInt p), .int (Int32.ofInt q)] (PI layX Q)
theorem C_X2_ways.mono {o : Nat} {s : ST} {p : Int} {q : Int} {Q Q' : ST → Int → Prop} (h : C_X2_ways o s p q Q) (hq : ∀ s v, Q s v → Q' s v) : C_X2_ways o s p q Q' := ⟨fun ho hA hrp hrq => q_met.mono (h.1 ho hA hrp hrq) (fun _ _ => PI.mono hq), trivial⟩
set_option maxRecDepth 20000 in
theorem s_X2_ways {o : Nat} {s : ST} {p : Int} {q : Int} {Q : ST → Int → Prop} (h : isT o → RA s → R32 p → R32 q → (P_X9_sortOf o s p ∧ ((q = 0 → ((¬ ((F_X9_sortOf o s p) = 6 ∨ ((F_X9_sortOf o s p) = 7 ∨ ((F_X9_sortOf o s p) = 11 ∨ ((F_X9_sortOf o s p) = 14 ∨ ((F_X9_sortOf o s p) = 15 ∨ (F_X9_sortOf o s p) = 5))))) → Q s 0) ∧ (((F_X9_sortOf o s p) = 6 ∨ ((F_X9_sortOf o s p) = 7 ∨ ((F_X9_sortOf o s p) = 11 ∨ ((F_X9_sortOf o s p) = 14 ∨ ((F_X9_sortOf o s p) = 15 ∨ (F_X9_sortOf o s p) = 5))))) → Q s 1))) ∧ (q = 1 → ((¬ (F_X9_sortOf o s p) = 2 → Q s 0) ∧ ((F_X9_sortOf o s p) = 2 → (C_X9_choicesAt o 34 s p (fun s4 v4 => Q s4 v4))))) ∧ (q = 2 → ((¬ (F_X9_sortOf o s p) = 0 → Q s 0) ∧ ((F_X9_sortOf o s p) = 0 → Q s 1))) ∧ (q = 3 → ((¬ (F_X9_sortOf o s p) = 1 → Q s 0) ∧ ((F_X9_sortOf o s p) = 1 → Q s 1))) ∧ ((q < 0 ∨ 3 < q) → Q s 1)))) : C_X2_ways o s p q Q := by
  refine ⟨?_, trivial⟩
  intro ho hA hrp hrq
  have h := h ho hA hrp hrq
  refine q_enter (by decide) (Nat.le_of_ble_eq_true rfl) ?_
  refine q_aload_n eX2_ways_0 rfl ?_
  refine q_iload_n eX2_ways_1 rfl ?_
  have f2 := h.1
  have h := h.2
  refine q_V1 (ci := 9) (n := 0) eX2_ways_2 DX9_sortOf lX2_34 (tl_0 ho) (by decide) rfl rfl rfl rfl (p_X9_sortOf f2 ho hA hrp) ?_
  rintro _ _ ⟨r1, rfl, rfl⟩
  refine q_istore eX2_ways_5 (Nat.le_of_ble_eq_true rfl) ?_
  refine q_iload_n eX2_ways_7 rfl ?_
  refine q_tab4 40 54 74 85 97 eX2_ways_8 rfl rfl (by decide) (z := q) (ofz hrq) (fun c8 => ?_) (fun c8 => ?_) (fun c8 => ?_) (fun c8 => ?_) (fun c8 => ?_)
  · have h := h.1 c8
    refine q_iload eX2_ways_40 rfl ?_
    refine q_S1 eX2_ways_42 DX2_swaps lX2_38 rfl rfl rfl (p_X2_swaps hA r1) ?_
    rintro _ _ ⟨b3, rfl, rfl⟩
    refine q_iz_eq (tgt := 52) (a := (F_X2_swaps s (F_X9_sortOf o s p))) eX2_ways_45 (by decide) (ofz (r01 b3)) (fun c45 => ?_) (fun c45 => ?_)
    · have h := h.1 (fun q => n_X2_swaps.mpr q c45)
      refine q_ic (v := Int32.ofInt 0) eX2_ways_52 rfl ?_
      exact q_iret eX2_ways_53 rfl ⟨_, _, rfl, hA, (r32l rfl), rfl, h⟩
    · have h := h.2 (n_X2_swaps.mp c45)
      refine q_ic (v := Int32.ofInt 1) eX2_ways_48 rfl ?_
      refine q_goto (tgt := 53) eX2_ways_49 (by decide) ?_
      exact q_iret eX2_ways_53 rfl ⟨_, _, rfl, hA, (r32l rfl), rfl, h⟩
  · have h := h.2.1 c8
    refine q_iload eX2_ways_54 rfl ?_
    refine q_ic (v := Int32.ofInt 2) eX2_ways_56 rfl ?_
    refine q_cz_ne (tgt := 72) (a := (F_X9_sortOf o s p)) (b := 2) eX2_ways_57 (by decide) (ofz r1) (ofz (r32l rfl)) (fun c57 => ?_) (fun c57 => ?_)
    · have h := h.1 c57
      refine q_ic (v := Int32.ofInt 0) eX2_ways_72 rfl ?_
      exact q_iret eX2_ways_73 rfl ⟨_, _, rfl, hA, (r32l rfl), rfl, h⟩
    · have h := h.2 c57
      refine q_aload_n eX2_ways_60 rfl ?_
      refine q_iload_n eX2_ways_61 rfl ?_
      refine q_aload_n eX2_ways_62 rfl ?_
      refine q_getR (c := 2) (n := 0) (k := 2) (a := 34) eX2_ways_63 rfl (by decide) (by decide) fX2_22 rfl rfl ?_
      refine q_V2 (ci := 9) (n := 0) eX2_ways_66 DX9_choicesAt lX2_42 (tl_0 ho) (by decide) rfl rfl rfl rfl (h.1 ho (by decide) hA hrp) ?_
      rintro _ _ ⟨s4, v4, rfl, hA4, r4, rfl, h⟩
      refine q_goto (tgt := 73) eX2_ways_69 (by decide) ?_
      exact q_iret eX2_ways_73 rfl ⟨_, _, rfl, hA4, r4, rfl, h⟩
  · have h := h.2.2.1 c8
    refine q_iload eX2_ways_74 rfl ?_
    refine q_iz_ne (tgt := 83) (a := (F_X9_sortOf o s p)) eX2_ways_76 (by decide) (ofz r1) (fun c76 => ?_) (fun c76 => ?_)
    · have h := h.1 c76
      refine q_ic (v := Int32.ofInt 0) eX2_ways_83 rfl ?_
      exact q_iret eX2_ways_84 rfl ⟨_, _, rfl, hA, (r32l rfl), rfl, h⟩
    · have h := h.2 c76
      refine q_ic (v := Int32.ofInt 1) eX2_ways_79 rfl ?_
      refine q_goto (tgt := 84) eX2_ways_80 (by decide) ?_
      exact q_iret eX2_ways_84 rfl ⟨_, _, rfl, hA, (r32l rfl), rfl, h⟩
  · have h := h.2.2.2.1 c8
    refine q_iload eX2_ways_85 rfl ?_
    refine q_ic (v := Int32.ofInt 1) eX2_ways_87 rfl ?_
    refine q_cz_ne (tgt := 95) (a := (F_X9_sortOf o s p)) (b := 1) eX2_ways_88 (by decide) (ofz r1) (ofz (r32l rfl)) (fun c88 => ?_) (fun c88 => ?_)
    · have h := h.1 c88
      refine q_ic (v := Int32.ofInt 0) eX2_ways_95 rfl ?_
      exact q_iret eX2_ways_96 rfl ⟨_, _, rfl, hA, (r32l rfl), rfl, h⟩
    · have h := h.2 c88
      refine q_ic (v := Int32.ofInt 1) eX2_ways_91 rfl ?_
      refine q_goto (tgt := 96) eX2_ways_92 (by decide) ?_
      exact q_iret eX2_ways_96 rfl ⟨_, _, rfl, hA, (r32l rfl), rfl, h⟩
  · have h := h.2.2.2.2 c8
    refine q_ic (v := Int32.ofInt 1) eX2_ways_97 rfl ?_
    exact q_iret eX2_ways_98 rfl ⟨_, _, rfl, hA, (r32l rfl), rfl, h⟩
theorem eX9_clear_0 : decode cX9_clear 0 = .ok (.aload_n 0, 1) := by decide +kernel
theorem eX9_clear_1 : decode cX9_clear 1 = .ok (.iconst 0, 1) := by decide +kernel
theorem eX9_clear_2 : decode cX9_clear 2 = .ok (.putfield 55, 3) := by decide +kernel
theorem eX9_clear_5 : decode cX9_clear 5 = .ok (.aload_n 0, 1) := by decide +kernel
theorem eX9_clear_6 : decode cX9_clear 6 = .ok (.iconst 0, 1) := by decide +kernel
theorem eX9_clear_7 : decode cX9_clear 7 = .ok (.putfield 59, 3) := by decide +kernel
theorem eX9_clear_10 : decode cX9_clear 10 = .ok (.aload_n 0, 1) := by decide +kernel
theorem eX9_clear_11 : decode cX9_clear 11 = .ok (.iconst 0, 1) := by decide +kernel
theorem eX9_clear_12 : decode cX9_clear 12 = .ok (.putfield 62, 3) := by decide +kernel
theorem eX9_clear_15 : decode cX9_clear 15 = .ok (.return_, 1) := by decide +kernel
def C_X9_clear (t : Nat) (s : ST) (Q : ST → Prop) : Prop := bx <| isT t → RA s → q_met mX9_clear (qs layX s) [.ref t] (PV layX Q)
theorem C_X9_clear.mono {t : Nat} {s : ST} {Q Q' : ST → Prop} (h : C_X9_clear t s Q) (hq : ∀ s, Q s → Q' s) : C_X9_clear t s Q' := ⟨fun ht hA => q_met.mono (h.1 ht hA) (fun _ _ => PV.mono hq), trivial⟩
set_option maxRecDepth 20000 in
theorem s_X9_clear {t : Nat} {s : ST} {Q : ST → Prop} (h : isT t → RA s → Q (ui (ui (ui s t 0 0) t 1 0) t 2 0)) : C_X9_clear t s Q := by
  refine ⟨?_, trivial⟩
  intro ht hA
  have h := h ht hA
  refine q_enter (by decide) (Nat.le_of_ble_eq_true rfl) ?_
  refine q_aload_n eX9_clear_0 rfl ?_
  refine q_ic (v := Int32.ofInt 0) eX9_clear_1 rfl ?_
  refine z_putI (c := 9) (n := 0) (k := 0) (kz := 0) eX9_clear_2 (tl_0 ht) (by decide) (by decide) fX9_55 rfl rfl rfl ?_
  refine q_aload_n eX9_clear_5 rfl ?_
  refine q_ic (v := Int32.ofInt 0) eX9_clear_6 rfl ?_
  refine z_putI (c := 9) (n := 0) (k := 1) (kz := 1) eX9_clear_7 (tl_0 ht) (by decide) (by decide) fX9_59 rfl rfl rfl ?_
  refine q_aload_n eX9_clear_10 rfl ?_
  refine q_ic (v := Int32.ofInt 0) eX9_clear_11 rfl ?_
  refine z_putI (c := 9) (n := 0) (k := 2) (kz := 2) eX9_clear_12 (tl_0 ht) (by decide) (by decide) fX9_62 rfl rfl rfl ?_
  exact q_ret eX9_clear_15 rfl ⟨_, rfl, (ra_ui (ra_ui (ra_ui hA (r32l rfl)) (r32l rfl)) (r32l rfl)), rfl, h⟩
theorem eX9_copyKindWords_0 : decode cX9_copyKindWords 0 = .ok (.aload_n 0, 1) := by decide +kernel
theorem eX9_copyKindWords_1 : decode cX9_copyKindWords 1 = .ok (.aload_n 1, 1) := by decide +kernel
theorem eX9_copyKindWords_2 : decode cX9_copyKindWords 2 = .ok (.getfield 62, 3) := by decide +kernel
theorem eX9_copyKindWords_5 : decode cX9_copyKindWords 5 = .ok (.putfield 62, 3) := by decide +kernel
theorem eX9_copyKindWords_8 : decode cX9_copyKindWords 8 = .ok (.aload_n 1, 1) := by decide +kernel
theorem eX9_copyKindWords_9 : decode cX9_copyKindWords 9 = .ok (.getfield 52, 3) := by decide +kernel
theorem eX9_copyKindWords_12 : decode cX9_copyKindWords 12 = .ok (.iconst 0, 1) := by decide +kernel
theorem eX9_copyKindWords_13 : decode cX9_copyKindWords 13 = .ok (.aload_n 0, 1) := by decide +kernel
theorem eX9_copyKindWords_14 : decode cX9_copyKindWords 14 = .ok (.getfield 52, 3) := by decide +kernel
theorem eX9_copyKindWords_17 : decode cX9_copyKindWords 17 = .ok (.iconst 0, 1) := by decide +kernel
theorem eX9_copyKindWords_18 : decode cX9_copyKindWords 18 = .ok (.bipush 20, 2) := by decide +kernel
theorem eX9_copyKindWords_20 : decode cX9_copyKindWords 20 = .ok (.invokestatic 100, 3) := by decide +kernel
theorem eX9_copyKindWords_23 : decode cX9_copyKindWords 23 = .ok (.return_, 1) := by decide +kernel
def C_X9_copyKindWords (t : Nat) (o : Nat) (s : ST) (Q : ST → Prop) : Prop := bx <| isT t → isT o → RA s → q_met mX9_copyKindWords (qs layX s) [.ref t, .ref o] (PV layX Q)
theorem C_X9_copyKindWords.mono {t : Nat} {o : Nat} {s : ST} {Q Q' : ST → Prop} (h : C_X9_copyKindWords t o s Q) (hq : ∀ s, Q s → Q' s) : C_X9_copyKindWords t o s Q' := ⟨fun ht ho hA => q_met.mono (h.1 ht ho hA) (fun _ _ => PV.mono hq), trivial⟩
set_option maxRecDepth 20000 in
theorem s_X9_copyKindWords {t : Nat} {o : Nat} {s : ST} {Q : ST → Prop} (h : isT t → isT o → RA s → Q (cpI (ui s t 2 (s.1 o 2)) (o + 14) (t + 14) 20)) : C_X9_copyKindWords t o s Q := by
  refine ⟨?_, trivial⟩
  intro ht ho hA
  have h := h ht ho hA
  refine q_enter (by decide) (Nat.le_of_ble_eq_true rfl) ?_
  refine q_aload_n eX9_copyKindWords_0 rfl ?_
  refine q_aload_n eX9_copyKindWords_1 rfl ?_
  refine q_getf (c := 9) (n := 0) (k := 2) (v := .int (Int32.ofInt (s.1 o 2))) eX9_copyKindWords_2 (tl_0 ho) (by decide) (by decide) fX9_62 rfl ?_
  refine z_putI (c := 9) (n := 0) (k := 2) (kz := 2) eX9_copyKindWords_5 (tl_0 ht) (by decide) (by decide) fX9_62 rfl rfl rfl ?_
  refine q_aload_n eX9_copyKindWords_8 rfl ?_
  refine q_getR (c := 9) (n := 0) (k := 16) (a := (o + 14)) eX9_copyKindWords_9 (tl_0 ho) (by decide) (by decide) fX9_52 rfl (tr_16 ho) ?_
  refine q_ic (v := Int32.ofInt 0) eX9_copyKindWords_12 rfl ?_
  refine q_aload_n eX9_copyKindWords_13 rfl ?_
  refine q_getR (c := 9) (n := 0) (k := 16) (a := (t + 14)) eX9_copyKindWords_14 (tl_0 ht) (by decide) (by decide) fX9_52 rfl (tr_16 ht) ?_
  refine q_ic (v := Int32.ofInt 0) eX9_copyKindWords_17 rfl ?_
  refine q_bi (v := Int32.ofInt 20) eX9_copyKindWords_18 rfl ?_
  refine z_copyI (k := 20) eX9_copyKindWords_20 lX9_100 q_ac1 q_ac2 q_ac3 (tl_14 ho) (tl_14 ht) rfl (by decide) (by decide) ⟨Nat.le_of_ble_eq_true rfl, Nat.le_of_ble_eq_true rfl⟩ (q_r8 rfl) ?_
  exact q_ret eX9_copyKindWords_23 rfl ⟨_, rfl, (ra_cpI (ra_ui hA (hA _ _))), rfl, h⟩
theorem eX2_pileUp_0 : decode cX2_pileUp 0 = .ok (.aload_n 0, 1) := by decide +kernel
theorem eX2_pileUp_1 : decode cX2_pileUp 1 = .ok (.getfield 53, 3) := by decide +kernel
theorem eX2_pileUp_4 : decode cX2_pileUp 4 = .ok (.ifCond .lt 55, 3) := by decide +kernel
theorem eX2_pileUp_7 : decode cX2_pileUp 7 = .ok (.aload_n 0, 1) := by decide +kernel
theorem eX2_pileUp_8 : decode cX2_pileUp 8 = .ok (.getfield 53, 3) := by decide +kernel
theorem eX2_pileUp_11 : decode cX2_pileUp 11 = .ok (.aload_n 0, 1) := by decide +kernel
theorem eX2_pileUp_12 : decode cX2_pileUp 12 = .ok (.getfield 25, 3) := by decide +kernel
theorem eX2_pileUp_15 : decode cX2_pileUp 15 = .ok (.arraylength, 1) := by decide +kernel
theorem eX2_pileUp_16 : decode cX2_pileUp 16 = .ok (.if_icmp .ge 43, 3) := by decide +kernel
theorem eX2_pileUp_19 : decode cX2_pileUp 19 = .ok (.aload_n 0, 1) := by decide +kernel
theorem eX2_pileUp_20 : decode cX2_pileUp 20 = .ok (.getfield 25, 3) := by decide +kernel
theorem eX2_pileUp_23 : decode cX2_pileUp 23 = .ok (.aload_n 0, 1) := by decide +kernel
theorem eX2_pileUp_24 : decode cX2_pileUp 24 = .ok (.getfield 53, 3) := by decide +kernel
theorem eX2_pileUp_27 : decode cX2_pileUp 27 = .ok (.iload_n 1, 1) := by decide +kernel
theorem eX2_pileUp_28 : decode cX2_pileUp 28 = .ok (.iastore, 1) := by decide +kernel
theorem eX2_pileUp_29 : decode cX2_pileUp 29 = .ok (.aload_n 0, 1) := by decide +kernel
theorem eX2_pileUp_30 : decode cX2_pileUp 30 = .ok (.getfield 28, 3) := by decide +kernel
theorem eX2_pileUp_33 : decode cX2_pileUp 33 = .ok (.aload_n 0, 1) := by decide +kernel
theorem eX2_pileUp_34 : decode cX2_pileUp 34 = .ok (.getfield 53, 3) := by decide +kernel
theorem eX2_pileUp_37 : decode cX2_pileUp 37 = .ok (.iload_n 2, 1) := by decide +kernel
theorem eX2_pileUp_38 : decode cX2_pileUp 38 = .ok (.iastore, 1) := by decide +kernel
theorem eX2_pileUp_39 : decode cX2_pileUp 39 = .ok (.aload_n 0, 1) := by decide +kernel
theorem eX2_pileUp_40 : decode cX2_pileUp 40 = .ok (.getfield 31, 3) := by decide +kernel
theorem eX2_pileUp_43 : decode cX2_pileUp 43 = .ok (.aload_n 0, 1) := by decide +kernel
theorem eX2_pileUp_44 : decode cX2_pileUp 44 = .ok (.getfield 53, 3) := by decide +kernel
theorem eX2_pileUp_47 : decode cX2_pileUp 47 = .ok (.iload_n 3, 1) := by decide +kernel
theorem eX2_pileUp_48 : decode cX2_pileUp 48 = .ok (.iastore, 1) := by decide +kernel
theorem eX2_pileUp_49 : decode cX2_pileUp 49 = .ok (.aload_n 0, 1) := by decide +kernel
theorem eX2_pileUp_50 : decode cX2_pileUp 50 = .ok (.dup, 1) := by decide +kernel
theorem eX2_pileUp_51 : decode cX2_pileUp 51 = .ok (.getfield 53, 3) := by decide +kernel
theorem eX2_pileUp_54 : decode cX2_pileUp 54 = .ok (.iconst 1, 1) := by decide +kernel
theorem eX2_pileUp_55 : decode cX2_pileUp 55 = .ok (.iadd, 1) := by decide +kernel
theorem eX2_pileUp_56 : decode cX2_pileUp 56 = .ok (.putfield 53, 3) := by decide +kernel
theorem eX2_pileUp_59 : decode cX2_pileUp 59 = .ok (.return_, 1) := by decide +kernel
def C_X2_pileUp (s : ST) (p : Int) (q : Int) (u : Int) (Q : ST → Prop) : Prop := bx <| RA s → R32 p → R32 q → R32 u → q_met mX2_pileUp (qs layX s) [.ref 17, .int (Int32.ofInt p), .int (Int32.ofInt q), .int (Int32.ofInt u)] (PV layX Q)
theorem C_X2_pileUp.mono {s : ST} {p : Int} {q : Int} {u : Int} {Q Q' : ST → Prop} (h : C_X2_pileUp s p q u Q) (hq : ∀ s, Q s → Q' s) : C_X2_pileUp s p q u Q' := ⟨fun hA hrp hrq hru => q_met.mono (h.1 hA hrp hrq hru) (fun _ _ => PV.mono hq), trivial⟩
set_option maxRecDepth 20000 in
theorem s_X2_pileUp {s : ST} {p : Int} {q : Int} {u : Int} {Q : ST → Prop} (h : RA s → R32 p → R32 q → R32 u → ((s.1 17 6 < 0 → Q s) ∧ (¬ s.1 17 6 < 0 → ((43 ≤ s.1 17 6 → Q s) ∧ (¬ 43 ≤ s.1 17 6 → (((0 : Int) ≤ s.1 17 6 ∧ s.1 17 6 < 43) ∧ (R32 (s.1 17 6 + 1) ∧ Q (ui (ui (ui (ui s 35 (s.1 17 6) p) 36 (s.1 17 6) q) 37 (s.1 17 6) u) 17 6 (s.1 17 6 + 1))))))))) : C_X2_pileUp s p q u Q := by
  refine ⟨?_, trivial⟩
  intro hA hrp hrq hru
  have h := h hA hrp hrq hru
  refine q_enter (by decide) (Nat.le_of_ble_eq_true rfl) ?_
  refine q_aload_n eX2_pileUp_0 rfl ?_
  refine q_getf (c := 2) (n := 0) (k := 6) (v := .int (Int32.ofInt (s.1 17 6))) eX2_pileUp_1 rfl (by decide) (by decide) fX2_53 rfl ?_
  refine q_iz_lt (tgt := 59) (a := s.1 17 6) eX2_pileUp_4 (by decide) (ofz (hA _ _)) (fun c4 => ?_) (fun c4 => ?_)
  · have h := h.1 c4
    exact q_ret eX2_pileUp_59 rfl ⟨_, rfl, hA, rfl, h⟩
  · have h := h.2 c4
    refine q_aload_n eX2_pileUp_7 rfl ?_
    refine q_getf (c := 2) (n := 0) (k := 6) (v := .int (Int32.ofInt (s.1 17 6))) eX2_pileUp_8 rfl (by decide) (by decide) fX2_53 rfl ?_
    refine q_aload_n eX2_pileUp_11 rfl ?_
    refine q_getR (c := 2) (n := 0) (k := 3) (a := 35) eX2_pileUp_12 rfl (by decide) (by decide) fX2_25 rfl rfl ?_
    refine q_alenz (v := Int32.ofInt 43) eX2_pileUp_15 rfl rfl rfl ?_
    refine q_cz_ge (tgt := 59) (a := s.1 17 6) (b := 43) eX2_pileUp_16 (by decide) (ofz (hA _ _)) (ofz (r32l rfl)) (fun c16 => ?_) (fun c16 => ?_)
    · have h := h.1 c16
      exact q_ret eX2_pileUp_59 rfl ⟨_, rfl, hA, rfl, h⟩
    · have h := h.2 c16
      refine q_aload_n eX2_pileUp_19 rfl ?_
      refine q_getR (c := 2) (n := 0) (k := 3) (a := 35) eX2_pileUp_20 rfl (by decide) (by decide) fX2_25 rfl rfl ?_
      refine q_aload_n eX2_pileUp_23 rfl ?_
      refine q_getf (c := 2) (n := 0) (k := 6) (v := .int (Int32.ofInt (s.1 17 6))) eX2_pileUp_24 rfl (by decide) (by decide) fX2_53 rfl ?_
      refine q_iload_n eX2_pileUp_27 rfl ?_
      have f1 := h.1
      have h := h.2
      refine z_iast (n := 43) eX2_pileUp_28 rfl (ofz (hA _ _)) f1  ?_
      refine q_aload_n eX2_pileUp_29 rfl ?_
      refine q_getR (c := 2) (n := 0) (k := 4) (a := 36) eX2_pileUp_30 rfl (by decide) (by decide) fX2_28 rfl rfl ?_
      refine q_aload_n eX2_pileUp_33 rfl ?_
      refine q_getf (c := 2) (n := 0) (k := 6) (v := .int (Int32.ofInt (s.1 17 6))) eX2_pileUp_34 rfl (by decide) (by decide) fX2_53 rfl ?_
      refine q_iload_n eX2_pileUp_37 rfl ?_
      refine z_iast (n := 43) eX2_pileUp_38 rfl (ofz (hA _ _)) f1  ?_
      refine q_aload_n eX2_pileUp_39 rfl ?_
      refine q_getR (c := 2) (n := 0) (k := 5) (a := 37) eX2_pileUp_40 rfl (by decide) (by decide) fX2_31 rfl rfl ?_
      refine q_aload_n eX2_pileUp_43 rfl ?_
      refine q_getf (c := 2) (n := 0) (k := 6) (v := .int (Int32.ofInt (s.1 17 6))) eX2_pileUp_44 rfl (by decide) (by decide) fX2_53 rfl ?_
      refine q_iload_n eX2_pileUp_47 rfl ?_
      refine z_iast (n := 43) eX2_pileUp_48 rfl (ofz (hA _ _)) f1  ?_
      refine q_aload_n eX2_pileUp_49 rfl ?_
      refine q_dup eX2_pileUp_50 rfl ?_
      refine q_getf (c := 2) (n := 0) (k := 6) (v := .int (Int32.ofInt (s.1 17 6))) eX2_pileUp_51 rfl (by decide) (by decide) fX2_53 rfl ?_
      refine q_ic (v := Int32.ofInt 1) eX2_pileUp_54 rfl ?_
      refine z_iadd eX2_pileUp_55 ?_
      have r2 := h.1
      have h := h.2
      refine z_putI (c := 2) (n := 0) (k := 6) (kz := 6) eX2_pileUp_56 rfl (by decide) (by decide) fX2_53 rfl rfl rfl ?_
      exact q_ret eX2_pileUp_59 rfl ⟨_, rfl, (ra_ui (ra_ui (ra_ui (ra_ui hA hrp) hrq) hru) r2), rfl, h⟩
theorem eX9_add_0 : decode cX9_add 0 = .ok (.aload_n 0, 1) := by decide +kernel
theorem eX9_add_1 : decode cX9_add 1 = .ok (.getfield 59, 3) := by decide +kernel
theorem eX9_add_4 : decode cX9_add 4 = .ok (.ifCond .lt 22, 3) := by decide +kernel
theorem eX9_add_7 : decode cX9_add 7 = .ok (.aload_n 0, 1) := by decide +kernel
theorem eX9_add_8 : decode cX9_add 8 = .ok (.getfield 59, 3) := by decide +kernel
theorem eX9_add_11 : decode cX9_add 11 = .ok (.bipush 40, 2) := by decide +kernel
theorem eX9_add_13 : decode cX9_add 13 = .ok (.if_icmp .ge 13, 3) := by decide +kernel
theorem eX9_add_16 : decode cX9_add 16 = .ok (.iload_n 3, 1) := by decide +kernel
theorem eX9_add_17 : decode cX9_add 17 = .ok (.ifCond .lt 9, 3) := by decide +kernel
theorem eX9_add_20 : decode cX9_add 20 = .ok (.iload_n 3, 1) := by decide +kernel
theorem eX9_add_21 : decode cX9_add 21 = .ok (.bipush 8, 2) := by decide +kernel
theorem eX9_add_23 : decode cX9_add 23 = .ok (.if_icmp .lt 5, 3) := by decide +kernel
theorem eX9_add_26 : decode cX9_add 26 = .ok (.iconst (-1), 1) := by decide +kernel
theorem eX9_add_27 : decode cX9_add 27 = .ok (.ireturn, 1) := by decide +kernel
theorem eX9_add_28 : decode cX9_add 28 = .ok (.aload_n 0, 1) := by decide +kernel
theorem eX9_add_29 : decode cX9_add 29 = .ok (.getfield 59, 3) := by decide +kernel
theorem eX9_add_32 : decode cX9_add 32 = .ok (.istore 4, 2) := by decide +kernel
theorem eX9_add_34 : decode cX9_add 34 = .ok (.aload_n 0, 1) := by decide +kernel
theorem eX9_add_35 : decode cX9_add 35 = .ok (.dup, 1) := by decide +kernel
theorem eX9_add_36 : decode cX9_add 36 = .ok (.getfield 59, 3) := by decide +kernel
theorem eX9_add_39 : decode cX9_add 39 = .ok (.iconst 1, 1) := by decide +kernel
theorem eX9_add_40 : decode cX9_add 40 = .ok (.iadd, 1) := by decide +kernel
theorem eX9_add_41 : decode cX9_add 41 = .ok (.putfield 59, 3) := by decide +kernel
theorem eX9_add_44 : decode cX9_add 44 = .ok (.aload_n 0, 1) := by decide +kernel
theorem eX9_add_45 : decode cX9_add 45 = .ok (.getfield 19, 3) := by decide +kernel
theorem eX9_add_48 : decode cX9_add 48 = .ok (.iload 4, 2) := by decide +kernel
theorem eX9_add_50 : decode cX9_add 50 = .ok (.bipush 10, 2) := by decide +kernel
theorem eX9_add_52 : decode cX9_add 52 = .ok (.iastore, 1) := by decide +kernel
theorem eX9_add_53 : decode cX9_add 53 = .ok (.aload_n 0, 1) := by decide +kernel
theorem eX9_add_54 : decode cX9_add 54 = .ok (.getfield 22, 3) := by decide +kernel
theorem eX9_add_57 : decode cX9_add 57 = .ok (.iload 4, 2) := by decide +kernel
theorem eX9_add_59 : decode cX9_add 59 = .ok (.iconst 0, 1) := by decide +kernel
theorem eX9_add_60 : decode cX9_add 60 = .ok (.iastore, 1) := by decide +kernel
theorem eX9_add_61 : decode cX9_add 61 = .ok (.aload_n 0, 1) := by decide +kernel
theorem eX9_add_62 : decode cX9_add 62 = .ok (.getfield 25, 3) := by decide +kernel
theorem eX9_add_65 : decode cX9_add 65 = .ok (.iload 4, 2) := by decide +kernel
theorem eX9_add_67 : decode cX9_add 67 = .ok (.iload_n 3, 1) := by decide +kernel
theorem eX9_add_68 : decode cX9_add 68 = .ok (.iastore, 1) := by decide +kernel
theorem eX9_add_69 : decode cX9_add 69 = .ok (.aload_n 0, 1) := by decide +kernel
theorem eX9_add_70 : decode cX9_add 70 = .ok (.getfield 28, 3) := by decide +kernel
theorem eX9_add_73 : decode cX9_add 73 = .ok (.iload 4, 2) := by decide +kernel
theorem eX9_add_75 : decode cX9_add 75 = .ok (.iconst 0, 1) := by decide +kernel
theorem eX9_add_76 : decode cX9_add 76 = .ok (.iastore, 1) := by decide +kernel
theorem eX9_add_77 : decode cX9_add 77 = .ok (.aload_n 0, 1) := by decide +kernel
theorem eX9_add_78 : decode cX9_add 78 = .ok (.getfield 31, 3) := by decide +kernel
theorem eX9_add_81 : decode cX9_add 81 = .ok (.iload 4, 2) := by decide +kernel
theorem eX9_add_83 : decode cX9_add 83 = .ok (.iconst 1, 1) := by decide +kernel
theorem eX9_add_84 : decode cX9_add 84 = .ok (.iastore, 1) := by decide +kernel
theorem eX9_add_85 : decode cX9_add 85 = .ok (.aload_n 0, 1) := by decide +kernel
theorem eX9_add_86 : decode cX9_add 86 = .ok (.getfield 34, 3) := by decide +kernel
theorem eX9_add_89 : decode cX9_add 89 = .ok (.iload 4, 2) := by decide +kernel
theorem eX9_add_91 : decode cX9_add 91 = .ok (.iload_n 1, 1) := by decide +kernel
theorem eX9_add_92 : decode cX9_add 92 = .ok (.iastore, 1) := by decide +kernel
theorem eX9_add_93 : decode cX9_add 93 = .ok (.aload_n 0, 1) := by decide +kernel
theorem eX9_add_94 : decode cX9_add 94 = .ok (.getfield 40, 3) := by decide +kernel
theorem eX9_add_97 : decode cX9_add 97 = .ok (.iload 4, 2) := by decide +kernel
theorem eX9_add_99 : decode cX9_add 99 = .ok (.lconst 0, 1) := by decide +kernel
theorem eX9_add_100 : decode cX9_add 100 = .ok (.lastore, 1) := by decide +kernel
theorem eX9_add_101 : decode cX9_add 101 = .ok (.aload_n 0, 1) := by decide +kernel
theorem eX9_add_102 : decode cX9_add 102 = .ok (.getfield 43, 3) := by decide +kernel
theorem eX9_add_105 : decode cX9_add 105 = .ok (.iload 4, 2) := by decide +kernel
theorem eX9_add_107 : decode cX9_add 107 = .ok (.iconst (-1), 1) := by decide +kernel
theorem eX9_add_108 : decode cX9_add 108 = .ok (.iastore, 1) := by decide +kernel
theorem eX9_add_109 : decode cX9_add 109 = .ok (.aload_n 0, 1) := by decide +kernel
theorem eX9_add_110 : decode cX9_add 110 = .ok (.getfield 46, 3) := by decide +kernel
theorem eX9_add_113 : decode cX9_add 113 = .ok (.iload 4, 2) := by decide +kernel
theorem eX9_add_115 : decode cX9_add 115 = .ok (.iconst 0, 1) := by decide +kernel
theorem eX9_add_116 : decode cX9_add 116 = .ok (.iastore, 1) := by decide +kernel
theorem eX9_add_117 : decode cX9_add 117 = .ok (.aload_n 0, 1) := by decide +kernel
theorem eX9_add_118 : decode cX9_add 118 = .ok (.getfield 49, 3) := by decide +kernel
theorem eX9_add_121 : decode cX9_add 121 = .ok (.iload 4, 2) := by decide +kernel
theorem eX9_add_123 : decode cX9_add 123 = .ok (.iconst 0, 1) := by decide +kernel
theorem eX9_add_124 : decode cX9_add 124 = .ok (.iastore, 1) := by decide +kernel
theorem eX9_add_125 : decode cX9_add 125 = .ok (.iconst 0, 1) := by decide +kernel
theorem eX9_add_126 : decode cX9_add 126 = .ok (.istore 5, 2) := by decide +kernel
theorem eX9_add_128 : decode cX9_add 128 = .ok (.iload 5, 2) := by decide +kernel
theorem eX9_add_130 : decode cX9_add 130 = .ok (.iconst 3, 1) := by decide +kernel
theorem eX9_add_131 : decode cX9_add 131 = .ok (.if_icmp .ge 22, 3) := by decide +kernel
theorem eX9_add_134 : decode cX9_add 134 = .ok (.aload_n 0, 1) := by decide +kernel
theorem eX9_add_135 : decode cX9_add 135 = .ok (.getfield 37, 3) := by decide +kernel
theorem eX9_add_138 : decode cX9_add 138 = .ok (.iconst 3, 1) := by decide +kernel
theorem eX9_add_139 : decode cX9_add 139 = .ok (.iload 4, 2) := by decide +kernel
theorem eX9_add_141 : decode cX9_add 141 = .ok (.imul, 1) := by decide +kernel
theorem eX9_add_142 : decode cX9_add 142 = .ok (.iload 5, 2) := by decide +kernel
theorem eX9_add_144 : decode cX9_add 144 = .ok (.iadd, 1) := by decide +kernel
theorem eX9_add_145 : decode cX9_add 145 = .ok (.iconst (-1), 1) := by decide +kernel
theorem eX9_add_146 : decode cX9_add 146 = .ok (.iastore, 1) := by decide +kernel
theorem eX9_add_147 : decode cX9_add 147 = .ok (.iinc 5 1, 3) := by decide +kernel
theorem eX9_add_150 : decode cX9_add 150 = .ok (.goto (-22), 3) := by decide +kernel
theorem eX9_add_153 : decode cX9_add 153 = .ok (.aload_n 0, 1) := by decide +kernel
theorem eX9_add_154 : decode cX9_add 154 = .ok (.iload_n 1, 1) := by decide +kernel
theorem eX9_add_155 : decode cX9_add 155 = .ok (.invokevirtual 71, 3) := by decide +kernel
theorem eX9_add_158 : decode cX9_add 158 = .ok (.ifCond .ne 14, 3) := by decide +kernel
theorem eX9_add_161 : decode cX9_add 161 = .ok (.aload_n 0, 1) := by decide +kernel
theorem eX9_add_162 : decode cX9_add 162 = .ok (.getfield 15, 3) := by decide +kernel
theorem eX9_add_165 : decode cX9_add 165 = .ok (.iload_n 3, 1) := by decide +kernel
theorem eX9_add_166 : decode cX9_add 166 = .ok (.iload 4, 2) := by decide +kernel
theorem eX9_add_168 : decode cX9_add 168 = .ok (.iastore, 1) := by decide +kernel
theorem eX9_add_169 : decode cX9_add 169 = .ok (.goto 24, 3) := by decide +kernel
theorem eX9_add_172 : decode cX9_add 172 = .ok (.iload_n 2, 1) := by decide +kernel
theorem eX9_add_173 : decode cX9_add 173 = .ok (.ifCond .lt 20, 3) := by decide +kernel
theorem eX9_add_176 : decode cX9_add 176 = .ok (.iload_n 2, 1) := by decide +kernel
theorem eX9_add_177 : decode cX9_add 177 = .ok (.iconst 3, 1) := by decide +kernel
theorem eX9_add_178 : decode cX9_add 178 = .ok (.if_icmp .ge 15, 3) := by decide +kernel
theorem eX9_add_181 : decode cX9_add 181 = .ok (.aload_n 0, 1) := by decide +kernel
theorem eX9_add_182 : decode cX9_add 182 = .ok (.getfield 37, 3) := by decide +kernel
theorem eX9_add_185 : decode cX9_add 185 = .ok (.iconst 3, 1) := by decide +kernel
theorem eX9_add_186 : decode cX9_add 186 = .ok (.iload_n 1, 1) := by decide +kernel
theorem eX9_add_187 : decode cX9_add 187 = .ok (.imul, 1) := by decide +kernel
theorem eX9_add_188 : decode cX9_add 188 = .ok (.iload_n 2, 1) := by decide +kernel
theorem eX9_add_189 : decode cX9_add 189 = .ok (.iadd, 1) := by decide +kernel
theorem eX9_add_190 : decode cX9_add 190 = .ok (.iload 4, 2) := by decide +kernel
theorem eX9_add_192 : decode cX9_add 192 = .ok (.iastore, 1) := by decide +kernel
theorem eX9_add_193 : decode cX9_add 193 = .ok (.iload 4, 2) := by decide +kernel
theorem eX9_add_195 : decode cX9_add 195 = .ok (.ireturn, 1) := by decide +kernel
def C_X9_add (t : Nat) (s : ST) (p : Int) (q : Int) (u : Int) (Q : ST → Int → Prop) : Prop := bx <| isT t → RA s → R32 p → R32 q → R32 u → q_met mX9_add (qs layX s) [.ref t, .int (Int32.ofInt p), .int (Int32.ofInt q), .int (Int32.ofInt u)] (PI layX Q)
theorem C_X9_add.mono {t : Nat} {s : ST} {p : Int} {q : Int} {u : Int} {Q Q' : ST → Int → Prop} (h : C_X9_add t s p q u Q) (hq : ∀ s v, Q s v → Q' s v) : C_X9_add t s p q u Q' := ⟨fun ht hA hrp hrq hru => q_met.mono (h.1 ht hA hrp hrq hru) (fun _ _ => PI.mono hq), trivial⟩
def K_X9_add_128 (t : Nat) (s : ST) (a1 : Int) (a2 : Int) (a3 : Int) (a4 : Int) (a5 : Int) (Q : ST → Int → Prop) : Prop := bx <| isT t → RA s → R32 a1 → R32 a2 → R32 a3 → R32 a4 → R32 a5 → q_K mX9_add (qs layX s) 0 0 128 [(0, .ref t), (1, .int (Int32.ofInt a1)), (2, .int (Int32.ofInt a2)), (3, .int (Int32.ofInt a3)), (4, .int (Int32.ofInt a4)), (5, .int (Int32.ofInt a5))] [] (q_fin mX9_add (PI layX Q))
set_option maxRecDepth 20000 in
theorem s_X9_add_128 {t : Nat} {s : ST} {a1 : Int} {a2 : Int} {a3 : Int} {a4 : Int} {a5 : Int} {Q : ST → Int → Prop} (h : isT t → RA s → R32 a1 → R32 a2 → R32 a3 → R32 a4 → R32 a5 → ((3 ≤ a5 → (((¬ a1 < 0 ∧ (¬ s.1 t 1 ≤ a1 ∧ ¬ 40 ≤ a1)) → ((a2 < 0 → Q s a4) ∧ (¬ a2 < 0 → ((3 ≤ a2 → Q s a4) ∧ (¬ 3 ≤ a2 → (R32 (3 * a1) ∧ (R32 ((3 * a1) + a2) ∧ (((0 : Int) ≤ ((3 * a1) + a2) ∧ ((3 * a1) + a2) < 120) ∧ Q (ui s (t + 9) ((3 * a1) + a2) a4) a4)))))))) ∧ (¬ (¬ a1 < 0 ∧ (¬ s.1 t 1 ≤ a1 ∧ ¬ 40 ≤ a1)) → (((0 : Int) ≤ a3 ∧ a3 < 8) ∧ Q (ui s (t + 2) a3 a4) a4)))) ∧ (¬ 3 ≤ a5 → (R32 (3 * a4) ∧ (R32 ((3 * a4) + a5) ∧ (((0 : Int) ≤ ((3 * a4) + a5) ∧ ((3 * a4) + a5) < 120) ∧ (R32 (a5 + 1) ∧ K_X9_add_128 t (ui s (t + 9) ((3 * a4) + a5) (-1)) a1 a2 a3 a4 (a5 + 1) Q))))))) : K_X9_add_128 t s a1 a2 a3 a4 a5 Q := by
  refine ⟨?_, trivial⟩
  intro ht hA hra1 hra2 hra3 hra4 hra5
  have h := h ht hA hra1 hra2 hra3 hra4 hra5
  refine q_iload eX9_add_128 rfl ?_
  refine q_ic (v := Int32.ofInt 3) eX9_add_130 rfl ?_
  refine q_cz_ge (tgt := 153) (a := a5) (b := 3) eX9_add_131 (by decide) (ofz hra5) (ofz (r32l rfl)) (fun c131 => ?_) (fun c131 => ?_)
  · have h := h.1 c131
    refine q_aload_n eX9_add_153 rfl ?_
    refine q_iload_n eX9_add_154 rfl ?_
    refine q_V1 (ci := 9) (n := 0) eX9_add_155 DX9_has lX9_71 (tl_0 ht) (by decide) rfl rfl rfl rfl (p_X9_has ht hA hra1) ?_
    rintro _ _ ⟨b1, rfl, rfl⟩
    refine q_iz_ne (tgt := 172) (a := (F_X9_has t s a1)) eX9_add_158 (by decide) (ofz (r01 b1)) (fun c158 => ?_) (fun c158 => ?_)
    · have h := h.1 (n_X9_has.mp c158)
      refine q_iload_n eX9_add_172 rfl ?_
      refine q_iz_lt (tgt := 193) (a := a2) eX9_add_173 (by decide) (ofz hra2) (fun c173 => ?_) (fun c173 => ?_)
      · have h := h.1 c173
        refine q_iload eX9_add_193 rfl ?_
        exact q_iret eX9_add_195 rfl ⟨_, _, rfl, hA, hra4, rfl, h⟩
      · have h := h.2 c173
        refine q_iload_n eX9_add_176 rfl ?_
        refine q_ic (v := Int32.ofInt 3) eX9_add_177 rfl ?_
        refine q_cz_ge (tgt := 193) (a := a2) (b := 3) eX9_add_178 (by decide) (ofz hra2) (ofz (r32l rfl)) (fun c178 => ?_) (fun c178 => ?_)
        · have h := h.1 c178
          refine q_iload eX9_add_193 rfl ?_
          exact q_iret eX9_add_195 rfl ⟨_, _, rfl, hA, hra4, rfl, h⟩
        · have h := h.2 c178
          refine q_aload_n eX9_add_181 rfl ?_
          refine q_getR (c := 9) (n := 0) (k := 11) (a := (t + 9)) eX9_add_182 (tl_0 ht) (by decide) (by decide) fX9_37 rfl (tr_11 ht) ?_
          refine q_ic (v := Int32.ofInt 3) eX9_add_185 rfl ?_
          refine q_iload_n eX9_add_186 rfl ?_
          refine z_imul eX9_add_187 ?_
          have r2 := h.1
          have h := h.2
          refine q_iload_n eX9_add_188 rfl ?_
          refine z_iadd eX9_add_189 ?_
          have r3 := h.1
          have h := h.2
          refine q_iload eX9_add_190 rfl ?_
          have f4 := h.1
          have h := h.2
          refine z_iast (n := 120) eX9_add_192 (tl_9 ht) (ofz r3) f4  ?_
          refine q_iload eX9_add_193 rfl ?_
          exact q_iret eX9_add_195 rfl ⟨_, _, rfl, (ra_ui hA hra4), hra4, rfl, h⟩
    · have h := h.2 (fun q => n_X9_has.mpr q c158)
      refine q_aload_n eX9_add_161 rfl ?_
      refine q_getR (c := 9) (n := 0) (k := 4) (a := (t + 2)) eX9_add_162 (tl_0 ht) (by decide) (by decide) fX9_15 rfl (tr_4 ht) ?_
      refine q_iload_n eX9_add_165 rfl ?_
      refine q_iload eX9_add_166 rfl ?_
      have f5 := h.1
      have h := h.2
      refine z_iast (n := 8) eX9_add_168 (tl_2 ht) (ofz hra3) f5  ?_
      refine q_goto (tgt := 193) eX9_add_169 (by decide) ?_
      refine q_iload eX9_add_193 rfl ?_
      exact q_iret eX9_add_195 rfl ⟨_, _, rfl, (ra_ui hA hra4), hra4, rfl, h⟩
  · have h := h.2 c131
    refine q_aload_n eX9_add_134 rfl ?_
    refine q_getR (c := 9) (n := 0) (k := 11) (a := (t + 9)) eX9_add_135 (tl_0 ht) (by decide) (by decide) fX9_37 rfl (tr_11 ht) ?_
    refine q_ic (v := Int32.ofInt 3) eX9_add_138 rfl ?_
    refine q_iload eX9_add_139 rfl ?_
    refine z_imul eX9_add_141 ?_
    have r6 := h.1
    have h := h.2
    refine q_iload eX9_add_142 rfl ?_
    refine z_iadd eX9_add_144 ?_
    have r7 := h.1
    have h := h.2
    refine q_ic (v := Int32.ofInt (-1)) eX9_add_145 rfl ?_
    have f8 := h.1
    have h := h.2
    refine z_iast (n := 120) eX9_add_146 (tl_9 ht) (ofz r7) f8  ?_
    have r9 := h.1
    have h := h.2
    refine z_inc (m := 1) eX9_add_147 rfl (Nat.le_of_ble_eq_true rfl) rfl ?_
    refine q_goto (tgt := 128) eX9_add_150 (by decide) ?_
    exact q_subL rfl (h.1 ht (ra_ui hA (r32l rfl)) hra1 hra2 hra3 hra4 r9)
set_option maxRecDepth 20000 in
theorem s_X9_add {t : Nat} {s : ST} {p : Int} {q : Int} {u : Int} {Q : ST → Int → Prop} (h : isT t → RA s → R32 p → R32 q → R32 u → ((s.1 t 1 < 0 → Q s (-1)) ∧ (¬ s.1 t 1 < 0 → ((40 ≤ s.1 t 1 → Q s (-1)) ∧ (¬ 40 ≤ s.1 t 1 → ((u < 0 → Q s (-1)) ∧ (¬ u < 0 → ((u < 8 → (R32 (s.1 t 1 + 1) ∧ (((0 : Int) ≤ s.1 t 1 ∧ s.1 t 1 < 40) ∧ K_X9_add_128 t (ui (ui (ui (uj (ui (ui (ui (ui (ui (ui (ui s t 1 (s.1 t 1 + 1)) (t + 3) (s.1 t 1) 10) (t + 4) (s.1 t 1) 0) (t + 5) (s.1 t 1) u) (t + 6) (s.1 t 1) 0) (t + 7) (s.1 t 1) 1) (t + 8) (s.1 t 1) p) (t + 10) (s.1 t 1) 0) (t + 11) (s.1 t 1) (-1)) (t + 12) (s.1 t 1) 0) (t + 13) (s.1 t 1) 0) p q u (s.1 t 1) 0 Q))) ∧ (¬ u < 8 → Q s (-1)))))))))) : C_X9_add t s p q u Q := by
  refine ⟨?_, trivial⟩
  intro ht hA hrp hrq hru
  have h := h ht hA hrp hrq hru
  refine q_enter (by decide) (Nat.le_of_ble_eq_true rfl) ?_
  refine q_aload_n eX9_add_0 rfl ?_
  refine q_getf (c := 9) (n := 0) (k := 1) (v := .int (Int32.ofInt (s.1 t 1))) eX9_add_1 (tl_0 ht) (by decide) (by decide) fX9_59 rfl ?_
  refine q_iz_lt (tgt := 26) (a := s.1 t 1) eX9_add_4 (by decide) (ofz (hA _ _)) (fun c4 => ?_) (fun c4 => ?_)
  · have h := h.1 c4
    refine q_ic (v := Int32.ofInt (-1)) eX9_add_26 rfl ?_
    exact q_iret eX9_add_27 rfl ⟨_, _, rfl, hA, (r32l rfl), rfl, h⟩
  · have h := h.2 c4
    refine q_aload_n eX9_add_7 rfl ?_
    refine q_getf (c := 9) (n := 0) (k := 1) (v := .int (Int32.ofInt (s.1 t 1))) eX9_add_8 (tl_0 ht) (by decide) (by decide) fX9_59 rfl ?_
    refine q_bi (v := Int32.ofInt 40) eX9_add_11 rfl ?_
    refine q_cz_ge (tgt := 26) (a := s.1 t 1) (b := 40) eX9_add_13 (by decide) (ofz (hA _ _)) (ofz (r32l rfl)) (fun c13 => ?_) (fun c13 => ?_)
    · have h := h.1 c13
      refine q_ic (v := Int32.ofInt (-1)) eX9_add_26 rfl ?_
      exact q_iret eX9_add_27 rfl ⟨_, _, rfl, hA, (r32l rfl), rfl, h⟩
    · have h := h.2 c13
      refine q_iload_n eX9_add_16 rfl ?_
      refine q_iz_lt (tgt := 26) (a := u) eX9_add_17 (by decide) (ofz hru) (fun c17 => ?_) (fun c17 => ?_)
      · have h := h.1 c17
        refine q_ic (v := Int32.ofInt (-1)) eX9_add_26 rfl ?_
        exact q_iret eX9_add_27 rfl ⟨_, _, rfl, hA, (r32l rfl), rfl, h⟩
      · have h := h.2 c17
        refine q_iload_n eX9_add_20 rfl ?_
        refine q_bi (v := Int32.ofInt 8) eX9_add_21 rfl ?_
        refine q_cz_lt (tgt := 28) (a := u) (b := 8) eX9_add_23 (by decide) (ofz hru) (ofz (r32l rfl)) (fun c23 => ?_) (fun c23 => ?_)
        · have h := h.1 c23
          refine q_aload_n eX9_add_28 rfl ?_
          refine q_getf (c := 9) (n := 0) (k := 1) (v := .int (Int32.ofInt (s.1 t 1))) eX9_add_29 (tl_0 ht) (by decide) (by decide) fX9_59 rfl ?_
          refine q_istore eX9_add_32 (Nat.le_of_ble_eq_true rfl) ?_
          refine q_aload_n eX9_add_34 rfl ?_
          refine q_dup eX9_add_35 rfl ?_
          refine q_getf (c := 9) (n := 0) (k := 1) (v := .int (Int32.ofInt (s.1 t 1))) eX9_add_36 (tl_0 ht) (by decide) (by decide) fX9_59 rfl ?_
          refine q_ic (v := Int32.ofInt 1) eX9_add_39 rfl ?_
          refine z_iadd eX9_add_40 ?_
          have r1 := h.1
          have h := h.2
          refine z_putI (c := 9) (n := 0) (k := 1) (kz := 1) eX9_add_41 (tl_0 ht) (by decide) (by decide) fX9_59 rfl rfl rfl ?_
          refine q_aload_n eX9_add_44 rfl ?_
          refine q_getR (c := 9) (n := 0) (k := 5) (a := (t + 3)) eX9_add_45 (tl_0 ht) (by decide) (by decide) fX9_19 rfl (tr_5 ht) ?_
          refine q_iload eX9_add_48 rfl ?_
          refine q_bi (v := Int32.ofInt 10) eX9_add_50 rfl ?_
          have f2 := h.1
          have h := h.2
          refine z_iast (n := 40) eX9_add_52 (tl_3 ht) (ofz (hA _ _)) f2  ?_
          refine q_aload_n eX9_add_53 rfl ?_
          refine q_getR (c := 9) (n := 0) (k := 6) (a := (t + 4)) eX9_add_54 (tl_0 ht) (by decide) (by decide) fX9_22 rfl (tr_6 ht) ?_
          refine q_iload eX9_add_57 rfl ?_
          refine q_ic (v := Int32.ofInt 0) eX9_add_59 rfl ?_
          refine z_iast (n := 40) eX9_add_60 (tl_4 ht) (ofz (hA _ _)) f2  ?_
          refine q_aload_n eX9_add_61 rfl ?_
          refine q_getR (c := 9) (n := 0) (k := 7) (a := (t + 5)) eX9_add_62 (tl_0 ht) (by decide) (by decide) fX9_25 rfl (tr_7 ht) ?_
          refine q_iload eX9_add_65 rfl ?_
          refine q_iload_n eX9_add_67 rfl ?_
          refine z_iast (n := 40) eX9_add_68 (tl_5 ht) (ofz (hA _ _)) f2  ?_
          refine q_aload_n eX9_add_69 rfl ?_
          refine q_getR (c := 9) (n := 0) (k := 8) (a := (t + 6)) eX9_add_70 (tl_0 ht) (by decide) (by decide) fX9_28 rfl (tr_8 ht) ?_
          refine q_iload eX9_add_73 rfl ?_
          refine q_ic (v := Int32.ofInt 0) eX9_add_75 rfl ?_
          refine z_iast (n := 40) eX9_add_76 (tl_6 ht) (ofz (hA _ _)) f2  ?_
          refine q_aload_n eX9_add_77 rfl ?_
          refine q_getR (c := 9) (n := 0) (k := 9) (a := (t + 7)) eX9_add_78 (tl_0 ht) (by decide) (by decide) fX9_31 rfl (tr_9 ht) ?_
          refine q_iload eX9_add_81 rfl ?_
          refine q_ic (v := Int32.ofInt 1) eX9_add_83 rfl ?_
          refine z_iast (n := 40) eX9_add_84 (tl_7 ht) (ofz (hA _ _)) f2  ?_
          refine q_aload_n eX9_add_85 rfl ?_
          refine q_getR (c := 9) (n := 0) (k := 10) (a := (t + 8)) eX9_add_86 (tl_0 ht) (by decide) (by decide) fX9_34 rfl (tr_10 ht) ?_
          refine q_iload eX9_add_89 rfl ?_
          refine q_iload_n eX9_add_91 rfl ?_
          refine z_iast (n := 40) eX9_add_92 (tl_8 ht) (ofz (hA _ _)) f2  ?_
          refine q_aload_n eX9_add_93 rfl ?_
          refine q_getR (c := 9) (n := 0) (k := 12) (a := (t + 10)) eX9_add_94 (tl_0 ht) (by decide) (by decide) fX9_40 rfl (tr_12 ht) ?_
          refine q_iload eX9_add_97 rfl ?_
          refine q_lc (v := 0) eX9_add_99 rfl ?_
          refine z_last (n := 40) eX9_add_100 (tl_10 ht) (ofz (hA _ _)) f2  ?_
          refine q_aload_n eX9_add_101 rfl ?_
          refine q_getR (c := 9) (n := 0) (k := 13) (a := (t + 11)) eX9_add_102 (tl_0 ht) (by decide) (by decide) fX9_43 rfl (tr_13 ht) ?_
          refine q_iload eX9_add_105 rfl ?_
          refine q_ic (v := Int32.ofInt (-1)) eX9_add_107 rfl ?_
          refine z_iast (n := 40) eX9_add_108 (tl_11 ht) (ofz (hA _ _)) f2  ?_
          refine q_aload_n eX9_add_109 rfl ?_
          refine q_getR (c := 9) (n := 0) (k := 14) (a := (t + 12)) eX9_add_110 (tl_0 ht) (by decide) (by decide) fX9_46 rfl (tr_14 ht) ?_
          refine q_iload eX9_add_113 rfl ?_
          refine q_ic (v := Int32.ofInt 0) eX9_add_115 rfl ?_
          refine z_iast (n := 40) eX9_add_116 (tl_12 ht) (ofz (hA _ _)) f2  ?_
          refine q_aload_n eX9_add_117 rfl ?_
          refine q_getR (c := 9) (n := 0) (k := 15) (a := (t + 13)) eX9_add_118 (tl_0 ht) (by decide) (by decide) fX9_49 rfl (tr_15 ht) ?_
          refine q_iload eX9_add_121 rfl ?_
          refine q_ic (v := Int32.ofInt 0) eX9_add_123 rfl ?_
          refine z_iast (n := 40) eX9_add_124 (tl_13 ht) (ofz (hA _ _)) f2  ?_
          refine q_ic (v := Int32.ofInt 0) eX9_add_125 rfl ?_
          refine q_istore eX9_add_126 (Nat.le_of_ble_eq_true rfl) ?_
          exact q_subL rfl (h.1 ht (ra_ui (ra_ui (ra_ui (ra_uj (ra_ui (ra_ui (ra_ui (ra_ui (ra_ui (ra_ui (ra_ui hA r1) (r32l rfl)) (r32l rfl)) hru) (r32l rfl)) (r32l rfl)) hrp)) (r32l rfl)) (r32l rfl)) (r32l rfl)) hrp hrq hru (hA _ _) (r32l rfl))
        · have h := h.2 c23
          refine q_ic (v := Int32.ofInt (-1)) eX9_add_26 rfl ?_
          exact q_iret eX9_add_27 rfl ⟨_, _, rfl, hA, (r32l rfl), rfl, h⟩
