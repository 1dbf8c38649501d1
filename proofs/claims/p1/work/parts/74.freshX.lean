/-! WHAT EACH CALL ANSWERS ON A NEW OBJECT. By program (wip/whole/gen_fresh.py). -/
def q_sX (I : Nat → Nat → Int32) (J : Nat → Nat → Int64) : q_S := (I, J, q_R0, layX)
theorem dX10_end_0 : decode cX10_end 0 = .ok (.iload_n 1, 1) := by decide +kernel
theorem dX10_end_1 : decode cX10_end 1 = .ok (.ifCond .lt 11, 3) := by decide +kernel
theorem dX10_end_4 : decode cX10_end 4 = .ok (.iload_n 1, 1) := by decide +kernel
theorem dX10_end_5 : decode cX10_end 5 = .ok (.aload_n 0, 1) := by decide +kernel
theorem dX10_end_6 : decode cX10_end 6 = .ok (.getfield 107, 3) := by decide +kernel
theorem dX10_end_9 : decode cX10_end 9 = .ok (.if_icmp .le 5, 3) := by decide +kernel
theorem dX10_end_12 : decode cX10_end 12 = .ok (.iconst (-1), 1) := by decide +kernel
theorem dX10_end_13 : decode cX10_end 13 = .ok (.ireturn, 1) := by decide +kernel
theorem dX10_end_14 : decode cX10_end 14 = .ok (.aload_n 0, 1) := by decide +kernel
theorem dX10_end_15 : decode cX10_end 15 = .ok (.iload_n 1, 1) := by decide +kernel
theorem dX10_end_16 : decode cX10_end 16 = .ok (.putfield 107, 3) := by decide +kernel
theorem dX10_end_19 : decode cX10_end 19 = .ok (.iload_n 1, 1) := by decide +kernel
theorem dX10_end_20 : decode cX10_end 20 = .ok (.ireturn, 1) := by decide +kernel
set_option maxRecDepth 20000 in
theorem frX_end (a : Int32) : q_met mX10_end (q_sX zI6 zJ1) [.ref 0, .int a] (fun s r => (∃ I J, s = q_sX I J) ∧ ∃ v, r = some (.int v) ∧ v.toInt = (if a.toInt = 0 then 0 else -1 : Int)) := by
  refine q_enter (by decide) (Nat.le_of_ble_eq_true rfl) ?_
  refine q_iload_n dX10_end_0 rfl ?_
  refine q_iz_lt (tgt := 12) (a := a.toInt) dX10_end_1 (by decide) rfl (fun h1_0 => ?_) (fun h1_0 => ?_)
  · refine q_ic (v := (-1)) dX10_end_12 rfl ?_
    refine q_iret dX10_end_13 rfl ?_
    exact ⟨⟨_, _, rfl⟩, _, rfl, (by show ((-1) : Int) = _; first | rfl | omega | (split <;> omega) | (split <;> split <;> omega))⟩
  · refine q_iload_n dX10_end_4 rfl ?_
    refine q_aload_n dX10_end_5 rfl ?_
    refine q_getf (c := 10) (n := 0) (k := 1) (v := .int 0) dX10_end_6 rfl (by decide) (by decide) fX10_107 rfl ?_
    refine q_cz_le (tgt := 14) (a := a.toInt) (b := 0) dX10_end_9 (by decide) rfl rfl (fun h9_1 => ?_) (fun h9_1 => ?_)
    · refine q_aload_n dX10_end_14 rfl ?_
      refine q_iload_n dX10_end_15 rfl ?_
      refine q_putI (c := 10) (n := 0) (k := 1) dX10_end_16 rfl (by decide) (by decide) fX10_107 rfl rfl ?_
      show q_K _ (q_sX (q_up zI6 0 1 a) zJ1) _ _ _ _ _ _
      refine q_iload_n dX10_end_19 rfl ?_
      refine q_iret dX10_end_20 rfl ?_
      exact ⟨⟨_, _, rfl⟩, _, rfl, (by first | rfl | omega | (split <;> omega) | (split <;> split <;> omega))⟩
    · refine q_ic (v := (-1)) dX10_end_12 rfl ?_
      refine q_iret dX10_end_13 rfl ?_
      exact ⟨⟨_, _, rfl⟩, _, rfl, (by show ((-1) : Int) = _; first | rfl | omega | (split <;> omega) | (split <;> split <;> omega))⟩
theorem dX10_program_0 : decode cX10_program 0 = .ok (.aload_n 0, 1) := by decide +kernel
theorem dX10_program_1 : decode cX10_program 1 = .ok (.getfield 107, 3) := by decide +kernel
theorem dX10_program_4 : decode cX10_program 4 = .ok (.istore_n 1, 1) := by decide +kernel
theorem dX10_program_5 : decode cX10_program 5 = .ok (.aload_n 0, 1) := by decide +kernel
theorem dX10_program_6 : decode cX10_program 6 = .ok (.iconst 0, 1) := by decide +kernel
theorem dX10_program_7 : decode cX10_program 7 = .ok (.putfield 107, 3) := by decide +kernel
theorem dX10_program_10 : decode cX10_program 10 = .ok (.aload_n 0, 1) := by decide +kernel
theorem dX10_program_11 : decode cX10_program 11 = .ok (.getfield 40, 3) := by decide +kernel
theorem dX10_program_14 : decode cX10_program 14 = .ok (.iload_n 1, 1) := by decide +kernel
theorem dX10_program_15 : decode cX10_program 15 = .ok (.invokevirtual 115, 3) := by decide +kernel
theorem dX10_program_18 : decode cX10_program 18 = .ok (.ifCond .ne 5, 3) := by decide +kernel
theorem dX10_program_21 : decode cX10_program 21 = .ok (.iconst (-1), 1) := by decide +kernel
theorem dX10_program_22 : decode cX10_program 22 = .ok (.ireturn, 1) := by decide +kernel
theorem dX10_program_23 : decode cX10_program 23 = .ok (.aload_n 0, 1) := by decide +kernel
theorem dX10_program_24 : decode cX10_program 24 = .ok (.getfield 53, 3) := by decide +kernel
theorem dX10_program_27 : decode cX10_program 27 = .ok (.invokevirtual 119, 3) := by decide +kernel
theorem dX10_program_30 : decode cX10_program 30 = .ok (.aload_n 0, 1) := by decide +kernel
theorem dX10_program_31 : decode cX10_program 31 = .ok (.getfield 53, 3) := by decide +kernel
theorem dX10_program_34 : decode cX10_program 34 = .ok (.getfield 122, 3) := by decide +kernel
theorem dX10_program_37 : decode cX10_program 37 = .ok (.ifCond .eq 13, 3) := by decide +kernel
theorem dX10_program_40 : decode cX10_program 40 = .ok (.aload_n 0, 1) := by decide +kernel
theorem dX10_program_41 : decode cX10_program 41 = .ok (.getfield 40, 3) := by decide +kernel
theorem dX10_program_44 : decode cX10_program 44 = .ok (.iload_n 1, 1) := by decide +kernel
theorem dX10_program_45 : decode cX10_program 45 = .ok (.invokevirtual 126, 3) := by decide +kernel
theorem dX10_program_48 : decode cX10_program 48 = .ok (.iconst (-1), 1) := by decide +kernel
theorem dX10_program_49 : decode cX10_program 49 = .ok (.ireturn, 1) := by decide +kernel
theorem dX10_program_50 : decode cX10_program 50 = .ok (.iconst 0, 1) := by decide +kernel
theorem dX10_program_51 : decode cX10_program 51 = .ok (.istore_n 2, 1) := by decide +kernel
theorem dX10_program_52 : decode cX10_program 52 = .ok (.iload_n 2, 1) := by decide +kernel
theorem dX10_program_53 : decode cX10_program 53 = .ok (.iconst 3, 1) := by decide +kernel
theorem dX10_program_54 : decode cX10_program 54 = .ok (.if_icmp .ge 16, 3) := by decide +kernel
theorem dX10_program_57 : decode cX10_program 57 = .ok (.aload_n 0, 1) := by decide +kernel
theorem dX10_program_58 : decode cX10_program 58 = .ok (.getfield 103, 3) := by decide +kernel
theorem dX10_program_61 : decode cX10_program 61 = .ok (.iload_n 2, 1) := by decide +kernel
theorem dX10_program_62 : decode cX10_program 62 = .ok (.iconst 0, 1) := by decide +kernel
theorem dX10_program_63 : decode cX10_program 63 = .ok (.bastore, 1) := by decide +kernel
theorem dX10_program_64 : decode cX10_program 64 = .ok (.iinc 2 1, 3) := by decide +kernel
theorem dX10_program_67 : decode cX10_program 67 = .ok (.goto (-15), 3) := by decide +kernel
theorem dX10_program_70 : decode cX10_program 70 = .ok (.aload_n 0, 1) := by decide +kernel
theorem dX10_program_71 : decode cX10_program 71 = .ok (.aload_n 0, 1) := by decide +kernel
theorem dX10_program_72 : decode cX10_program 72 = .ok (.getfield 23, 3) := by decide +kernel
theorem dX10_program_75 : decode cX10_program 75 = .ok (.getfield 36, 3) := by decide +kernel
theorem dX10_program_78 : decode cX10_program 78 = .ok (.invokevirtual 129, 3) := by decide +kernel
theorem dX10_program_81 : decode cX10_program 81 = .ok (.ireturn, 1) := by decide +kernel
def uXI1 : Nat → Nat → Int32 := q_up zI6 0 1 0
theorem dX7_readText_0 : decode cX7_readText 0 = .ok (.aload_n 0, 1) := by decide +kernel
theorem dX7_readText_1 : decode cX7_readText 1 = .ok (.iload_n 1, 1) := by decide +kernel
theorem dX7_readText_2 : decode cX7_readText 2 = .ok (.putfield 53, 3) := by decide +kernel
theorem dX7_readText_5 : decode cX7_readText 5 = .ok (.aload_n 0, 1) := by decide +kernel
theorem dX7_readText_6 : decode cX7_readText 6 = .ok (.getfield 33, 3) := by decide +kernel
theorem dX7_readText_9 : decode cX7_readText 9 = .ok (.invokevirtual 55, 3) := by decide +kernel
theorem dX7_readText_12 : decode cX7_readText 12 = .ok (.aload_n 0, 1) := by decide +kernel
theorem dX7_readText_13 : decode cX7_readText 13 = .ok (.iconst 0, 1) := by decide +kernel
theorem dX7_readText_14 : decode cX7_readText 14 = .ok (.putfield 60, 3) := by decide +kernel
theorem dX7_readText_17 : decode cX7_readText 17 = .ok (.aload_n 0, 1) := by decide +kernel
theorem dX7_readText_18 : decode cX7_readText 18 = .ok (.iconst (-1), 1) := by decide +kernel
theorem dX7_readText_19 : decode cX7_readText 19 = .ok (.putfield 9, 3) := by decide +kernel
theorem dX7_readText_22 : decode cX7_readText 22 = .ok (.aload_n 0, 1) := by decide +kernel
theorem dX7_readText_23 : decode cX7_readText 23 = .ok (.iconst 0, 1) := by decide +kernel
theorem dX7_readText_24 : decode cX7_readText 24 = .ok (.putfield 63, 3) := by decide +kernel
theorem dX7_readText_27 : decode cX7_readText 27 = .ok (.aload_n 0, 1) := by decide +kernel
theorem dX7_readText_28 : decode cX7_readText 28 = .ok (.invokevirtual 66, 3) := by decide +kernel
theorem dX7_readText_31 : decode cX7_readText 31 = .ok (.iconst 0, 1) := by decide +kernel
theorem dX7_readText_32 : decode cX7_readText 32 = .ok (.istore_n 2, 1) := by decide +kernel
theorem dX7_readText_33 : decode cX7_readText 33 = .ok (.iload_n 2, 1) := by decide +kernel
theorem dX7_readText_34 : decode cX7_readText 34 = .ok (.bipush 8, 2) := by decide +kernel
theorem dX7_readText_36 : decode cX7_readText 36 = .ok (.if_icmp .gt 35, 3) := by decide +kernel
theorem dX7_readText_39 : decode cX7_readText 39 = .ok (.aload_n 0, 1) := by decide +kernel
theorem dX7_readText_40 : decode cX7_readText 40 = .ok (.getfield 60, 3) := by decide +kernel
theorem dX7_readText_43 : decode cX7_readText 43 = .ok (.ifCond .ne 28, 3) := by decide +kernel
theorem dX7_readText_46 : decode cX7_readText 46 = .ok (.aload_n 0, 1) := by decide +kernel
theorem dX7_readText_47 : decode cX7_readText 47 = .ok (.getfield 69, 3) := by decide +kernel
theorem dX7_readText_50 : decode cX7_readText 50 = .ok (.ifCond .eq 21, 3) := by decide +kernel
theorem dX7_readText_53 : decode cX7_readText 53 = .ok (.aload_n 0, 1) := by decide +kernel
theorem dX7_readText_54 : decode cX7_readText 54 = .ok (.invokevirtual 72, 3) := by decide +kernel
theorem dX7_readText_57 : decode cX7_readText 57 = .ok (.aload_n 0, 1) := by decide +kernel
theorem dX7_readText_58 : decode cX7_readText 58 = .ok (.invokevirtual 75, 3) := by decide +kernel
theorem dX7_readText_61 : decode cX7_readText 61 = .ok (.aload_n 0, 1) := by decide +kernel
theorem dX7_readText_62 : decode cX7_readText 62 = .ok (.invokevirtual 78, 3) := by decide +kernel
theorem dX7_readText_65 : decode cX7_readText 65 = .ok (.iinc 2 1, 3) := by decide +kernel
theorem dX7_readText_68 : decode cX7_readText 68 = .ok (.goto (-35), 3) := by decide +kernel
theorem dX7_readText_71 : decode cX7_readText 71 = .ok (.aload_n 0, 1) := by decide +kernel
theorem dX7_readText_72 : decode cX7_readText 72 = .ok (.getfield 60, 3) := by decide +kernel
theorem dX7_readText_75 : decode cX7_readText 75 = .ok (.ifCond .ne 7, 3) := by decide +kernel
theorem dX7_readText_78 : decode cX7_readText 78 = .ok (.iconst 1, 1) := by decide +kernel
theorem dX7_readText_79 : decode cX7_readText 79 = .ok (.goto 4, 3) := by decide +kernel
theorem dX7_readText_82 : decode cX7_readText 82 = .ok (.iconst 0, 1) := by decide +kernel
theorem dX7_readText_83 : decode cX7_readText 83 = .ok (.ireturn, 1) := by decide +kernel
def uXI2 : Nat → Nat → Int32 := q_up uXI1 46 3 0
theorem dX9_clear_0 : decode cX9_clear 0 = .ok (.aload_n 0, 1) := by decide +kernel
theorem dX9_clear_1 : decode cX9_clear 1 = .ok (.iconst 0, 1) := by decide +kernel
theorem dX9_clear_2 : decode cX9_clear 2 = .ok (.putfield 55, 3) := by decide +kernel
theorem dX9_clear_5 : decode cX9_clear 5 = .ok (.aload_n 0, 1) := by decide +kernel
theorem dX9_clear_6 : decode cX9_clear 6 = .ok (.iconst 0, 1) := by decide +kernel
theorem dX9_clear_7 : decode cX9_clear 7 = .ok (.putfield 59, 3) := by decide +kernel
theorem dX9_clear_10 : decode cX9_clear 10 = .ok (.aload_n 0, 1) := by decide +kernel
theorem dX9_clear_11 : decode cX9_clear 11 = .ok (.iconst 0, 1) := by decide +kernel
theorem dX9_clear_12 : decode cX9_clear 12 = .ok (.putfield 62, 3) := by decide +kernel
theorem dX9_clear_15 : decode cX9_clear 15 = .ok (.return_, 1) := by decide +kernel
def uXI3 : Nat → Nat → Int32 := q_up (q_up (q_up uXI2 18 0 0) 18 1 0) 18 2 0
set_option maxRecDepth 20000 in
theorem uX_X9_clear_2 : q_met mX9_clear (q_sX uXI2 zJ1) [.ref 18] (fun s r => s = q_sX uXI3 zJ1 ∧ r = none) := by
  refine q_enter (by decide) (Nat.le_of_ble_eq_true rfl) ?_
  refine q_aload_n dX9_clear_0 rfl ?_
  refine q_ic (v := 0) dX9_clear_1 rfl ?_
  refine q_putI (c := 9) (n := 0) (k := 0) dX9_clear_2 rfl (by decide) (by decide) fX9_55 rfl rfl ?_
  show q_K _ (q_sX (q_up uXI2 18 0 0) zJ1) _ _ _ _ _ _
  refine q_aload_n dX9_clear_5 rfl ?_
  refine q_ic (v := 0) dX9_clear_6 rfl ?_
  refine q_putI (c := 9) (n := 0) (k := 1) dX9_clear_7 rfl (by decide) (by decide) fX9_59 rfl rfl ?_
  show q_K _ (q_sX (q_up (q_up uXI2 18 0 0) 18 1 0) zJ1) _ _ _ _ _ _
  refine q_aload_n dX9_clear_10 rfl ?_
  refine q_ic (v := 0) dX9_clear_11 rfl ?_
  refine q_putI (c := 9) (n := 0) (k := 2) dX9_clear_12 rfl (by decide) (by decide) fX9_62 rfl rfl ?_
  show q_K _ (q_sX (q_up (q_up (q_up uXI2 18 0 0) 18 1 0) 18 2 0) zJ1) _ _ _ _ _ _
  show q_K _ (q_sX uXI3 zJ1) _ _ _ _ _ _
  refine q_ret dX9_clear_15 rfl ?_
  exact ⟨rfl, rfl⟩
def uXI4 : Nat → Nat → Int32 := q_up (q_up (q_up uXI3 46 0 0) 46 1 (-1)) 46 4 0
theorem dX7_readToken_0 : decode cX7_readToken 0 = .ok (.iconst 0, 1) := by decide +kernel
theorem dX7_readToken_1 : decode cX7_readToken 1 = .ok (.istore_n 1, 1) := by decide +kernel
theorem dX7_readToken_2 : decode cX7_readToken 2 = .ok (.iload_n 1, 1) := by decide +kernel
theorem dX7_readToken_3 : decode cX7_readToken 3 = .ok (.sipush 1600, 3) := by decide +kernel
theorem dX7_readToken_6 : decode cX7_readToken 6 = .ok (.if_icmp .gt 33, 3) := by decide +kernel
theorem dX7_readToken_9 : decode cX7_readToken 9 = .ok (.aload_n 0, 1) := by decide +kernel
theorem dX7_readToken_10 : decode cX7_readToken 10 = .ok (.aload_n 0, 1) := by decide +kernel
theorem dX7_readToken_11 : decode cX7_readToken 11 = .ok (.getfield 63, 3) := by decide +kernel
theorem dX7_readToken_14 : decode cX7_readToken 14 = .ok (.invokevirtual 197, 3) := by decide +kernel
theorem dX7_readToken_17 : decode cX7_readToken 17 = .ok (.invokestatic 200, 3) := by decide +kernel
theorem dX7_readToken_20 : decode cX7_readToken 20 = .ok (.ifCond .eq 19, 3) := by decide +kernel
theorem dX7_readToken_23 : decode cX7_readToken 23 = .ok (.aload_n 0, 1) := by decide +kernel
theorem dX7_readToken_24 : decode cX7_readToken 24 = .ok (.dup, 1) := by decide +kernel
theorem dX7_readToken_25 : decode cX7_readToken 25 = .ok (.getfield 63, 3) := by decide +kernel
theorem dX7_readToken_28 : decode cX7_readToken 28 = .ok (.iconst 1, 1) := by decide +kernel
theorem dX7_readToken_29 : decode cX7_readToken 29 = .ok (.iadd, 1) := by decide +kernel
theorem dX7_readToken_30 : decode cX7_readToken 30 = .ok (.putfield 63, 3) := by decide +kernel
theorem dX7_readToken_33 : decode cX7_readToken 33 = .ok (.iinc 1 1, 3) := by decide +kernel
theorem dX7_readToken_36 : decode cX7_readToken 36 = .ok (.goto (-34), 3) := by decide +kernel
theorem dX7_readToken_39 : decode cX7_readToken 39 = .ok (.aload_n 0, 1) := by decide +kernel
theorem dX7_readToken_40 : decode cX7_readToken 40 = .ok (.aload_n 0, 1) := by decide +kernel
theorem dX7_readToken_41 : decode cX7_readToken 41 = .ok (.getfield 63, 3) := by decide +kernel
theorem dX7_readToken_44 : decode cX7_readToken 44 = .ok (.putfield 81, 3) := by decide +kernel
theorem dX7_readToken_47 : decode cX7_readToken 47 = .ok (.aload_n 0, 1) := by decide +kernel
theorem dX7_readToken_48 : decode cX7_readToken 48 = .ok (.iconst (-1), 1) := by decide +kernel
theorem dX7_readToken_49 : decode cX7_readToken 49 = .ok (.putfield 88, 3) := by decide +kernel
theorem dX7_readToken_52 : decode cX7_readToken 52 = .ok (.aload_n 0, 1) := by decide +kernel
theorem dX7_readToken_53 : decode cX7_readToken 53 = .ok (.aload_n 0, 1) := by decide +kernel
theorem dX7_readToken_54 : decode cX7_readToken 54 = .ok (.getfield 63, 3) := by decide +kernel
theorem dX7_readToken_57 : decode cX7_readToken 57 = .ok (.invokevirtual 197, 3) := by decide +kernel
theorem dX7_readToken_60 : decode cX7_readToken 60 = .ok (.istore_n 1, 1) := by decide +kernel
theorem dX7_readToken_61 : decode cX7_readToken 61 = .ok (.iload_n 1, 1) := by decide +kernel
theorem dX7_readToken_62 : decode cX7_readToken 62 = .ok (.iconst (-1), 1) := by decide +kernel
theorem dX7_readToken_63 : decode cX7_readToken 63 = .ok (.if_icmp .ne 11, 3) := by decide +kernel
theorem dX7_readToken_66 : decode cX7_readToken 66 = .ok (.aload_n 0, 1) := by decide +kernel
theorem dX7_readToken_67 : decode cX7_readToken 67 = .ok (.iconst 0, 1) := by decide +kernel
theorem dX7_readToken_68 : decode cX7_readToken 68 = .ok (.putfield 69, 3) := by decide +kernel
theorem dX7_readToken_71 : decode cX7_readToken 71 = .ok (.goto 56, 3) := by decide +kernel
theorem dX7_readToken_74 : decode cX7_readToken 74 = .ok (.iload_n 1, 1) := by decide +kernel
theorem dX7_readToken_75 : decode cX7_readToken 75 = .ok (.invokestatic 203, 3) := by decide +kernel
theorem dX7_readToken_78 : decode cX7_readToken 78 = .ok (.ifCond .eq 10, 3) := by decide +kernel
theorem dX7_readToken_81 : decode cX7_readToken 81 = .ok (.aload_n 0, 1) := by decide +kernel
theorem dX7_readToken_82 : decode cX7_readToken 82 = .ok (.invokevirtual 206, 3) := by decide +kernel
theorem dX7_readToken_85 : decode cX7_readToken 85 = .ok (.goto 42, 3) := by decide +kernel
theorem dX7_readToken_88 : decode cX7_readToken 88 = .ok (.iload_n 1, 1) := by decide +kernel
theorem dX7_readToken_89 : decode cX7_readToken 89 = .ok (.invokestatic 209, 3) := by decide +kernel
theorem dX7_readToken_92 : decode cX7_readToken 92 = .ok (.ifCond .eq 10, 3) := by decide +kernel
theorem dX7_readToken_95 : decode cX7_readToken 95 = .ok (.aload_n 0, 1) := by decide +kernel
theorem dX7_readToken_96 : decode cX7_readToken 96 = .ok (.invokevirtual 212, 3) := by decide +kernel
theorem dX7_readToken_99 : decode cX7_readToken 99 = .ok (.goto 28, 3) := by decide +kernel
theorem dX7_readToken_102 : decode cX7_readToken 102 = .ok (.aload_n 0, 1) := by decide +kernel
theorem dX7_readToken_103 : decode cX7_readToken 103 = .ok (.iload_n 1, 1) := by decide +kernel
theorem dX7_readToken_104 : decode cX7_readToken 104 = .ok (.bipush 59, 2) := by decide +kernel
theorem dX7_readToken_106 : decode cX7_readToken 106 = .ok (.if_icmp .ne 7, 3) := by decide +kernel
theorem dX7_readToken_109 : decode cX7_readToken 109 = .ok (.iconst 3, 1) := by decide +kernel
theorem dX7_readToken_110 : decode cX7_readToken 110 = .ok (.goto 4, 3) := by decide +kernel
theorem dX7_readToken_113 : decode cX7_readToken 113 = .ok (.iconst 4, 1) := by decide +kernel
theorem dX7_readToken_114 : decode cX7_readToken 114 = .ok (.putfield 69, 3) := by decide +kernel
theorem dX7_readToken_117 : decode cX7_readToken 117 = .ok (.aload_n 0, 1) := by decide +kernel
theorem dX7_readToken_118 : decode cX7_readToken 118 = .ok (.dup, 1) := by decide +kernel
theorem dX7_readToken_119 : decode cX7_readToken 119 = .ok (.getfield 63, 3) := by decide +kernel
theorem dX7_readToken_122 : decode cX7_readToken 122 = .ok (.iconst 1, 1) := by decide +kernel
theorem dX7_readToken_123 : decode cX7_readToken 123 = .ok (.iadd, 1) := by decide +kernel
theorem dX7_readToken_124 : decode cX7_readToken 124 = .ok (.putfield 63, 3) := by decide +kernel
theorem dX7_readToken_127 : decode cX7_readToken 127 = .ok (.return_, 1) := by decide +kernel
theorem dX7_signAt_0 : decode cX7_signAt 0 = .ok (.iload_n 1, 1) := by decide +kernel
theorem dX7_signAt_1 : decode cX7_signAt 1 = .ok (.ifCond .lt 33, 3) := by decide +kernel
theorem dX7_signAt_4 : decode cX7_signAt 4 = .ok (.iload_n 1, 1) := by decide +kernel
theorem dX7_signAt_5 : decode cX7_signAt 5 = .ok (.aload_n 0, 1) := by decide +kernel
theorem dX7_signAt_6 : decode cX7_signAt 6 = .ok (.getfield 53, 3) := by decide +kernel
theorem dX7_signAt_9 : decode cX7_signAt 9 = .ok (.if_icmp .ge 25, 3) := by decide +kernel
theorem dX7_signAt_12 : decode cX7_signAt 12 = .ok (.iload_n 1, 1) := by decide +kernel
theorem dX7_signAt_13 : decode cX7_signAt 13 = .ok (.aload_n 0, 1) := by decide +kernel
theorem dX7_signAt_14 : decode cX7_signAt 14 = .ok (.getfield 29, 3) := by decide +kernel
theorem dX7_signAt_17 : decode cX7_signAt 17 = .ok (.arraylength, 1) := by decide +kernel
theorem dX7_signAt_18 : decode cX7_signAt 18 = .ok (.if_icmp .ge 16, 3) := by decide +kernel
theorem dX7_signAt_21 : decode cX7_signAt 21 = .ok (.aload_n 0, 1) := by decide +kernel
theorem dX7_signAt_22 : decode cX7_signAt 22 = .ok (.getfield 29, 3) := by decide +kernel
theorem dX7_signAt_25 : decode cX7_signAt 25 = .ok (.iload_n 1, 1) := by decide +kernel
theorem dX7_signAt_26 : decode cX7_signAt 26 = .ok (.baload, 1) := by decide +kernel
theorem dX7_signAt_27 : decode cX7_signAt 27 = .ok (.sipush 255, 3) := by decide +kernel
theorem dX7_signAt_30 : decode cX7_signAt 30 = .ok (.iand, 1) := by decide +kernel
theorem dX7_signAt_31 : decode cX7_signAt 31 = .ok (.goto 4, 3) := by decide +kernel
theorem dX7_signAt_34 : decode cX7_signAt 34 = .ok (.iconst (-1), 1) := by decide +kernel
theorem dX7_signAt_35 : decode cX7_signAt 35 = .ok (.ireturn, 1) := by decide +kernel
set_option maxRecDepth 20000 in
theorem uX_X7_signAt_3 : q_met mX7_signAt (q_sX uXI4 zJ1) [.ref 46, .int 0] (fun s r => s = q_sX uXI4 zJ1 ∧ r = some (.int (-1))) := by
  refine q_enter (by decide) (Nat.le_of_ble_eq_true rfl) ?_
  refine q_iload_n dX7_signAt_0 rfl ?_
  refine q_iz_lt (tgt := 34) (a := 0) dX7_signAt_1 (by decide) rfl (fun h => absurd h (by decide)) (fun _ => ?_)
  refine q_iload_n dX7_signAt_4 rfl ?_
  refine q_aload_n dX7_signAt_5 rfl ?_
  refine q_getf (c := 7) (n := 0) (k := 3) (v := .int 0) dX7_signAt_6 rfl (by decide) (by decide) fX7_53 rfl ?_
  refine q_cz_ge (tgt := 34) (a := 0) (b := 0) dX7_signAt_9 (by decide) rfl rfl (fun _ => ?_) (fun h => absurd h (by decide))
  refine q_ic (v := (-1)) dX7_signAt_34 rfl ?_
  refine q_iret dX7_signAt_35 rfl ?_
  exact ⟨rfl, rfl⟩
theorem dX7_isBlank_0 : decode cX7_isBlank 0 = .ok (.iload_n 0, 1) := by decide +kernel
theorem dX7_isBlank_1 : decode cX7_isBlank 1 = .ok (.bipush 32, 2) := by decide +kernel
theorem dX7_isBlank_3 : decode cX7_isBlank 3 = .ok (.if_icmp .eq 9, 3) := by decide +kernel
theorem dX7_isBlank_6 : decode cX7_isBlank 6 = .ok (.iload_n 0, 1) := by decide +kernel
theorem dX7_isBlank_7 : decode cX7_isBlank 7 = .ok (.bipush 10, 2) := by decide +kernel
theorem dX7_isBlank_9 : decode cX7_isBlank 9 = .ok (.if_icmp .ne 7, 3) := by decide +kernel
theorem dX7_isBlank_12 : decode cX7_isBlank 12 = .ok (.iconst 1, 1) := by decide +kernel
theorem dX7_isBlank_13 : decode cX7_isBlank 13 = .ok (.goto 4, 3) := by decide +kernel
theorem dX7_isBlank_16 : decode cX7_isBlank 16 = .ok (.iconst 0, 1) := by decide +kernel
theorem dX7_isBlank_17 : decode cX7_isBlank 17 = .ok (.ireturn, 1) := by decide +kernel
set_option maxRecDepth 20000 in
theorem uX_X7_isBlank_4 : q_met mX7_isBlank (q_sX uXI4 zJ1) [.int (-1)] (fun s r => s = q_sX uXI4 zJ1 ∧ r = some (.int 0)) := by
  refine q_enter (by decide) (Nat.le_of_ble_eq_true rfl) ?_
  refine q_iload_n dX7_isBlank_0 rfl ?_
  refine q_bi (v := 32) dX7_isBlank_1 rfl ?_
  refine q_cz_eq (tgt := 12) (a := -1) (b := 32) dX7_isBlank_3 (by decide) rfl rfl (fun h => absurd h (by decide)) (fun _ => ?_)
  refine q_iload_n dX7_isBlank_6 rfl ?_
  refine q_bi (v := 10) dX7_isBlank_7 rfl ?_
  refine q_cz_ne (tgt := 16) (a := -1) (b := 10) dX7_isBlank_9 (by decide) rfl rfl (fun _ => ?_) (fun h => absurd h (by decide))
  refine q_ic (v := 0) dX7_isBlank_16 rfl ?_
  refine q_zret dX7_isBlank_17 rfl (Or.inl rfl) ?_
  exact ⟨rfl, rfl⟩
def uXI5 : Nat → Nat → Int32 := q_up (q_up uXI4 46 6 0) 46 9 (-1)
set_option maxRecDepth 20000 in
theorem uX_X7_signAt_5 : q_met mX7_signAt (q_sX uXI5 zJ1) [.ref 46, .int 0] (fun s r => s = q_sX uXI5 zJ1 ∧ r = some (.int (-1))) := by
  refine q_enter (by decide) (Nat.le_of_ble_eq_true rfl) ?_
  refine q_iload_n dX7_signAt_0 rfl ?_
  refine q_iz_lt (tgt := 34) (a := 0) dX7_signAt_1 (by decide) rfl (fun h => absurd h (by decide)) (fun _ => ?_)
  refine q_iload_n dX7_signAt_4 rfl ?_
  refine q_aload_n dX7_signAt_5 rfl ?_
  refine q_getf (c := 7) (n := 0) (k := 3) (v := .int 0) dX7_signAt_6 rfl (by decide) (by decide) fX7_53 rfl ?_
  refine q_cz_ge (tgt := 34) (a := 0) (b := 0) dX7_signAt_9 (by decide) rfl rfl (fun _ => ?_) (fun h => absurd h (by decide))
  refine q_ic (v := (-1)) dX7_signAt_34 rfl ?_
  refine q_iret dX7_signAt_35 rfl ?_
  exact ⟨rfl, rfl⟩
def uXI6 : Nat → Nat → Int32 := q_up uXI5 46 5 0
set_option maxRecDepth 20000 in
theorem uX_X7_readToken_6 : q_met mX7_readToken (q_sX uXI4 zJ1) [.ref 46] (fun s r => s = q_sX uXI6 zJ1 ∧ r = none) := by
  refine q_enter (by decide) (Nat.le_of_ble_eq_true rfl) ?_
  refine q_ic (v := 0) dX7_readToken_0 rfl ?_
  refine q_istore_n dX7_readToken_1 (Nat.le_of_ble_eq_true rfl) ?_
  refine q_iload_n dX7_readToken_2 rfl ?_
  refine q_si (v := 1600) dX7_readToken_3 rfl ?_
  refine q_cz_gt (tgt := 39) (a := 0) (b := 1600) dX7_readToken_6 (by decide) rfl rfl (fun h => absurd h (by decide)) (fun _ => ?_)
  refine q_aload_n dX7_readToken_9 rfl ?_
  refine q_aload_n dX7_readToken_10 rfl ?_
  refine q_getf (c := 7) (n := 0) (k := 4) (v := .int 0) dX7_readToken_11 rfl (by decide) (by decide) fX7_63 rfl ?_
  refine q_V1 (ci := 7) (n := 0) dX7_readToken_14 DX7_signAt lX7_197 rfl (by decide) rfl rfl rfl rfl uX_X7_signAt_3 ?_
  rintro _ _ ⟨rfl, rfl⟩
  refine q_S1 dX7_readToken_17 DX7_isBlank lX7_200 rfl rfl rfl uX_X7_isBlank_4 ?_
  rintro _ _ ⟨rfl, rfl⟩
  refine q_iz_eq (tgt := 39) (a := 0) dX7_readToken_20 (by decide) rfl (fun _ => ?_) (fun h => absurd h (by decide))
  refine q_aload_n dX7_readToken_39 rfl ?_
  refine q_aload_n dX7_readToken_40 rfl ?_
  refine q_getf (c := 7) (n := 0) (k := 4) (v := .int 0) dX7_readToken_41 rfl (by decide) (by decide) fX7_63 rfl ?_
  refine q_putI (c := 7) (n := 0) (k := 6) dX7_readToken_44 rfl (by decide) (by decide) fX7_81 rfl rfl ?_
  show q_K _ (q_sX (q_up uXI4 46 6 0) zJ1) _ _ _ _ _ _
  refine q_aload_n dX7_readToken_47 rfl ?_
  refine q_ic (v := (-1)) dX7_readToken_48 rfl ?_
  refine q_putI (c := 7) (n := 0) (k := 9) dX7_readToken_49 rfl (by decide) (by decide) fX7_88 rfl rfl ?_
  show q_K _ (q_sX (q_up (q_up uXI4 46 6 0) 46 9 (-1)) zJ1) _ _ _ _ _ _
  refine q_aload_n dX7_readToken_52 rfl ?_
  refine q_aload_n dX7_readToken_53 rfl ?_
  refine q_getf (c := 7) (n := 0) (k := 4) (v := .int 0) dX7_readToken_54 rfl (by decide) (by decide) fX7_63 rfl ?_
  show q_K _ (q_sX uXI5 zJ1) _ _ _ _ _ _
  refine q_V1 (ci := 7) (n := 0) dX7_readToken_57 DX7_signAt lX7_197 rfl (by decide) rfl rfl rfl rfl uX_X7_signAt_5 ?_
  rintro _ _ ⟨rfl, rfl⟩
  refine q_istore_n dX7_readToken_60 (Nat.le_of_ble_eq_true rfl) ?_
  refine q_iload_n dX7_readToken_61 rfl ?_
  refine q_ic (v := (-1)) dX7_readToken_62 rfl ?_
  refine q_cz_ne (tgt := 74) (a := -1) (b := -1) dX7_readToken_63 (by decide) rfl rfl (fun h => absurd h (by decide)) (fun _ => ?_)
  refine q_aload_n dX7_readToken_66 rfl ?_
  refine q_ic (v := 0) dX7_readToken_67 rfl ?_
  refine q_putI (c := 7) (n := 0) (k := 5) dX7_readToken_68 rfl (by decide) (by decide) fX7_69 rfl rfl ?_
  show q_K _ (q_sX (q_up uXI5 46 5 0) zJ1) _ _ _ _ _ _
  refine q_goto (tgt := 127) dX7_readToken_71 (by decide) ?_
  show q_K _ (q_sX uXI6 zJ1) _ _ _ _ _ _
  refine q_ret dX7_readToken_127 rfl ?_
  exact ⟨rfl, rfl⟩
set_option maxRecDepth 20000 in
theorem uX_X7_readText_7 : q_met mX7_readText (q_sX uXI1 zJ1) [.ref 46, .int 0] (fun s r => s = q_sX uXI6 zJ1 ∧ r = some (.int 1)) := by
  refine q_enter (by decide) (Nat.le_of_ble_eq_true rfl) ?_
  refine q_aload_n dX7_readText_0 rfl ?_
  refine q_iload_n dX7_readText_1 rfl ?_
  refine q_putI (c := 7) (n := 0) (k := 3) dX7_readText_2 rfl (by decide) (by decide) fX7_53 rfl rfl ?_
  show q_K _ (q_sX (q_up uXI1 46 3 0) zJ1) _ _ _ _ _ _
  refine q_aload_n dX7_readText_5 rfl ?_
  refine q_getR (c := 7) (n := 0) (k := 10) (a := 18) dX7_readText_6 rfl (by decide) (by decide) fX7_33 rfl rfl ?_
  show q_K _ (q_sX uXI2 zJ1) _ _ _ _ _ _
  refine q_V0 (ci := 9) (n := 0) dX7_readText_9 DX9_clear lX7_55 rfl (by decide) rfl rfl rfl rfl uX_X9_clear_2 ?_
  rintro _ _ ⟨rfl, rfl⟩
  refine q_aload_n dX7_readText_12 rfl ?_
  refine q_ic (v := 0) dX7_readText_13 rfl ?_
  refine q_putI (c := 7) (n := 0) (k := 0) dX7_readText_14 rfl (by decide) (by decide) fX7_60 rfl rfl ?_
  show q_K _ (q_sX (q_up uXI3 46 0 0) zJ1) _ _ _ _ _ _
  refine q_aload_n dX7_readText_17 rfl ?_
  refine q_ic (v := (-1)) dX7_readText_18 rfl ?_
  refine q_putI (c := 7) (n := 0) (k := 1) dX7_readText_19 rfl (by decide) (by decide) fX7_9 rfl rfl ?_
  show q_K _ (q_sX (q_up (q_up uXI3 46 0 0) 46 1 (-1)) zJ1) _ _ _ _ _ _
  refine q_aload_n dX7_readText_22 rfl ?_
  refine q_ic (v := 0) dX7_readText_23 rfl ?_
  refine q_putI (c := 7) (n := 0) (k := 4) dX7_readText_24 rfl (by decide) (by decide) fX7_63 rfl rfl ?_
  show q_K _ (q_sX (q_up (q_up (q_up uXI3 46 0 0) 46 1 (-1)) 46 4 0) zJ1) _ _ _ _ _ _
  refine q_aload_n dX7_readText_27 rfl ?_
  show q_K _ (q_sX uXI4 zJ1) _ _ _ _ _ _
  refine q_V0 (ci := 7) (n := 0) dX7_readText_28 DX7_readToken lX7_66 rfl (by decide) rfl rfl rfl rfl uX_X7_readToken_6 ?_
  rintro _ _ ⟨rfl, rfl⟩
  refine q_ic (v := 0) dX7_readText_31 rfl ?_
  refine q_istore_n dX7_readText_32 (Nat.le_of_ble_eq_true rfl) ?_
  refine q_iload_n dX7_readText_33 rfl ?_
  refine q_bi (v := 8) dX7_readText_34 rfl ?_
  refine q_cz_gt (tgt := 71) (a := 0) (b := 8) dX7_readText_36 (by decide) rfl rfl (fun h => absurd h (by decide)) (fun _ => ?_)
  refine q_aload_n dX7_readText_39 rfl ?_
  refine q_getf (c := 7) (n := 0) (k := 0) (v := .int 0) dX7_readText_40 rfl (by decide) (by decide) fX7_60 rfl ?_
  refine q_iz_ne (tgt := 71) (a := 0) dX7_readText_43 (by decide) rfl (fun h => absurd h (by decide)) (fun _ => ?_)
  refine q_aload_n dX7_readText_46 rfl ?_
  refine q_getf (c := 7) (n := 0) (k := 5) (v := .int 0) dX7_readText_47 rfl (by decide) (by decide) fX7_69 rfl ?_
  refine q_iz_eq (tgt := 71) (a := 0) dX7_readText_50 (by decide) rfl (fun _ => ?_) (fun h => absurd h (by decide))
  refine q_aload_n dX7_readText_71 rfl ?_
  refine q_getf (c := 7) (n := 0) (k := 0) (v := .int 0) dX7_readText_72 rfl (by decide) (by decide) fX7_60 rfl ?_
  refine q_iz_ne (tgt := 82) (a := 0) dX7_readText_75 (by decide) rfl (fun h => absurd h (by decide)) (fun _ => ?_)
  refine q_ic (v := 1) dX7_readText_78 rfl ?_
  refine q_goto (tgt := 83) dX7_readText_79 (by decide) ?_
  refine q_zret dX7_readText_83 rfl (Or.inr rfl) ?_
  exact ⟨rfl, rfl⟩
theorem dX0_list_0 : decode cX0_list 0 = .ok (.aload_n 0, 1) := by decide +kernel
theorem dX0_list_1 : decode cX0_list 1 = .ok (.iconst 0, 1) := by decide +kernel
theorem dX0_list_2 : decode cX0_list 2 = .ok (.putfield 41, 3) := by decide +kernel
theorem dX0_list_5 : decode cX0_list 5 = .ok (.aload_n 0, 1) := by decide +kernel
theorem dX0_list_6 : decode cX0_list 6 = .ok (.iconst 0, 1) := by decide +kernel
theorem dX0_list_7 : decode cX0_list 7 = .ok (.putfield 45, 3) := by decide +kernel
theorem dX0_list_10 : decode cX0_list 10 = .ok (.aload_n 0, 1) := by decide +kernel
theorem dX0_list_11 : decode cX0_list 11 = .ok (.iconst 0, 1) := by decide +kernel
theorem dX0_list_12 : decode cX0_list 12 = .ok (.putfield 49, 3) := by decide +kernel
theorem dX0_list_15 : decode cX0_list 15 = .ok (.aload_n 0, 1) := by decide +kernel
theorem dX0_list_16 : decode cX0_list 16 = .ok (.iconst 0, 1) := by decide +kernel
theorem dX0_list_17 : decode cX0_list 17 = .ok (.putfield 52, 3) := by decide +kernel
theorem dX0_list_20 : decode cX0_list 20 = .ok (.iconst 0, 1) := by decide +kernel
theorem dX0_list_21 : decode cX0_list 21 = .ok (.istore_n 1, 1) := by decide +kernel
theorem dX0_list_22 : decode cX0_list 22 = .ok (.iload_n 1, 1) := by decide +kernel
theorem dX0_list_23 : decode cX0_list 23 = .ok (.bipush 40, 2) := by decide +kernel
theorem dX0_list_25 : decode cX0_list 25 = .ok (.if_icmp .ge 23, 3) := by decide +kernel
theorem dX0_list_28 : decode cX0_list 28 = .ok (.aload_n 0, 1) := by decide +kernel
theorem dX0_list_29 : decode cX0_list 29 = .ok (.getfield 18, 3) := by decide +kernel
theorem dX0_list_32 : decode cX0_list 32 = .ok (.iload_n 1, 1) := by decide +kernel
theorem dX0_list_33 : decode cX0_list 33 = .ok (.iconst (-1), 1) := by decide +kernel
theorem dX0_list_34 : decode cX0_list 34 = .ok (.iastore, 1) := by decide +kernel
theorem dX0_list_35 : decode cX0_list 35 = .ok (.aload_n 0, 1) := by decide +kernel
theorem dX0_list_36 : decode cX0_list 36 = .ok (.getfield 21, 3) := by decide +kernel
theorem dX0_list_39 : decode cX0_list 39 = .ok (.iload_n 1, 1) := by decide +kernel
theorem dX0_list_40 : decode cX0_list 40 = .ok (.iconst (-1), 1) := by decide +kernel
theorem dX0_list_41 : decode cX0_list 41 = .ok (.iastore, 1) := by decide +kernel
theorem dX0_list_42 : decode cX0_list 42 = .ok (.iinc 1 1, 3) := by decide +kernel
theorem dX0_list_45 : decode cX0_list 45 = .ok (.goto (-23), 3) := by decide +kernel
theorem dX0_list_48 : decode cX0_list 48 = .ok (.iconst 0, 1) := by decide +kernel
theorem dX0_list_49 : decode cX0_list 49 = .ok (.istore_n 1, 1) := by decide +kernel
theorem dX0_list_50 : decode cX0_list 50 = .ok (.iload_n 1, 1) := by decide +kernel
theorem dX0_list_51 : decode cX0_list 51 = .ok (.aload_n 0, 1) := by decide +kernel
theorem dX0_list_52 : decode cX0_list 52 = .ok (.getfield 33, 3) := by decide +kernel
theorem dX0_list_55 : decode cX0_list 55 = .ok (.getfield 55, 3) := by decide +kernel
theorem dX0_list_58 : decode cX0_list 58 = .ok (.if_icmp .ge 74, 3) := by decide +kernel
theorem dX0_list_61 : decode cX0_list 61 = .ok (.iload_n 1, 1) := by decide +kernel
theorem dX0_list_62 : decode cX0_list 62 = .ok (.bipush 8, 2) := by decide +kernel
theorem dX0_list_64 : decode cX0_list 64 = .ok (.if_icmp .ge 68, 3) := by decide +kernel
theorem dX0_list_67 : decode cX0_list 67 = .ok (.aload_n 0, 1) := by decide +kernel
theorem dX0_list_68 : decode cX0_list 68 = .ok (.getfield 45, 3) := by decide +kernel
theorem dX0_list_71 : decode cX0_list 71 = .ok (.ifCond .ne 61, 3) := by decide +kernel
theorem dX0_list_74 : decode cX0_list 74 = .ok (.aload_n 0, 1) := by decide +kernel
theorem dX0_list_75 : decode cX0_list 75 = .ok (.iconst 0, 1) := by decide +kernel
theorem dX0_list_76 : decode cX0_list 76 = .ok (.putfield 60, 3) := by decide +kernel
theorem dX0_list_79 : decode cX0_list 79 = .ok (.aload_n 0, 1) := by decide +kernel
theorem dX0_list_80 : decode cX0_list 80 = .ok (.aload_n 0, 1) := by decide +kernel
theorem dX0_list_81 : decode cX0_list 81 = .ok (.getfield 33, 3) := by decide +kernel
theorem dX0_list_84 : decode cX0_list 84 = .ok (.iload_n 1, 1) := by decide +kernel
theorem dX0_list_85 : decode cX0_list 85 = .ok (.invokevirtual 63, 3) := by decide +kernel
theorem dX0_list_88 : decode cX0_list 88 = .ok (.iconst (-1), 1) := by decide +kernel
theorem dX0_list_89 : decode cX0_list 89 = .ok (.iconst 0, 1) := by decide +kernel
theorem dX0_list_90 : decode cX0_list 90 = .ok (.invokevirtual 67, 3) := by decide +kernel
theorem dX0_list_93 : decode cX0_list 93 = .ok (.iconst 0, 1) := by decide +kernel
theorem dX0_list_94 : decode cX0_list 94 = .ok (.istore_n 2, 1) := by decide +kernel
theorem dX0_list_95 : decode cX0_list 95 = .ok (.iload_n 2, 1) := by decide +kernel
theorem dX0_list_96 : decode cX0_list 96 = .ok (.sipush 400, 3) := by decide +kernel
theorem dX0_list_99 : decode cX0_list 99 = .ok (.if_icmp .gt 27, 3) := by decide +kernel
theorem dX0_list_102 : decode cX0_list 102 = .ok (.aload_n 0, 1) := by decide +kernel
theorem dX0_list_103 : decode cX0_list 103 = .ok (.getfield 60, 3) := by decide +kernel
theorem dX0_list_106 : decode cX0_list 106 = .ok (.ifCond .le 20, 3) := by decide +kernel
theorem dX0_list_109 : decode cX0_list 109 = .ok (.aload_n 0, 1) := by decide +kernel
theorem dX0_list_110 : decode cX0_list 110 = .ok (.getfield 45, 3) := by decide +kernel
theorem dX0_list_113 : decode cX0_list 113 = .ok (.ifCond .ne 13, 3) := by decide +kernel
theorem dX0_list_116 : decode cX0_list 116 = .ok (.aload_n 0, 1) := by decide +kernel
theorem dX0_list_117 : decode cX0_list 117 = .ok (.invokevirtual 71, 3) := by decide +kernel
theorem dX0_list_120 : decode cX0_list 120 = .ok (.iinc 2 1, 3) := by decide +kernel
theorem dX0_list_123 : decode cX0_list 123 = .ok (.goto (-28), 3) := by decide +kernel
theorem dX0_list_126 : decode cX0_list 126 = .ok (.iinc 1 1, 3) := by decide +kernel
theorem dX0_list_129 : decode cX0_list 129 = .ok (.goto (-79), 3) := by decide +kernel
theorem dX0_list_132 : decode cX0_list 132 = .ok (.return_, 1) := by decide +kernel
def uXI7 : Nat → Nat → Int32 := q_up (q_up (q_up (q_up (q_up (q_up (q_up (q_up (q_up (q_up (q_up (q_up (q_up uXI6 59 0 0) 59 1 0) 59 2 0) 59 4 0) 62 0 (-1)) 63 0 (-1)) 62 1 (-1)) 63 1 (-1)) 62 2 (-1)) 63 2 (-1)) 62 3 (-1)) 63 3 (-1)) 62 4 (-1)
def uXI8 : Nat → Nat → Int32 := q_up (q_up (q_up (q_up (q_up (q_up (q_up (q_up (q_up (q_up (q_up (q_up (q_up (q_up (q_up (q_up (q_up (q_up (q_up (q_up (q_up (q_up (q_up (q_up uXI7 63 4 (-1)) 62 5 (-1)) 63 5 (-1)) 62 6 (-1)) 63 6 (-1)) 62 7 (-1)) 63 7 (-1)) 62 8 (-1)) 63 8 (-1)) 62 9 (-1)) 63 9 (-1)) 62 10 (-1)) 63 10 (-1)) 62 11 (-1)) 63 11 (-1)) 62 12 (-1)) 63 12 (-1)) 62 13 (-1)) 63 13 (-1)) 62 14 (-1)) 63 14 (-1)) 62 15 (-1)) 63 15 (-1)) 62 16 (-1)
def uXI9 : Nat → Nat → Int32 := q_up (q_up (q_up (q_up (q_up (q_up (q_up (q_up (q_up (q_up (q_up (q_up (q_up (q_up (q_up (q_up (q_up (q_up (q_up (q_up (q_up (q_up (q_up (q_up uXI8 63 16 (-1)) 62 17 (-1)) 63 17 (-1)) 62 18 (-1)) 63 18 (-1)) 62 19 (-1)) 63 19 (-1)) 62 20 (-1)) 63 20 (-1)) 62 21 (-1)) 63 21 (-1)) 62 22 (-1)) 63 22 (-1)) 62 23 (-1)) 63 23 (-1)) 62 24 (-1)) 63 24 (-1)) 62 25 (-1)) 63 25 (-1)) 62 26 (-1)) 63 26 (-1)) 62 27 (-1)) 63 27 (-1)) 62 28 (-1)
def uXI10 : Nat → Nat → Int32 := q_up (q_up (q_up (q_up (q_up (q_up (q_up (q_up (q_up (q_up (q_up (q_up (q_up (q_up (q_up (q_up (q_up (q_up (q_up (q_up (q_up (q_up (q_up uXI9 63 28 (-1)) 62 29 (-1)) 63 29 (-1)) 62 30 (-1)) 63 30 (-1)) 62 31 (-1)) 63 31 (-1)) 62 32 (-1)) 63 32 (-1)) 62 33 (-1)) 63 33 (-1)) 62 34 (-1)) 63 34 (-1)) 62 35 (-1)) 63 35 (-1)) 62 36 (-1)) 63 36 (-1)) 62 37 (-1)) 63 37 (-1)) 62 38 (-1)) 63 38 (-1)) 62 39 (-1)) 63 39 (-1)
set_option maxRecDepth 20000 in
theorem uX_X0_list_8 : q_met mX0_list (q_sX uXI6 zJ1) [.ref 59] (fun s r => s = q_sX uXI10 zJ1 ∧ r = none) := by
  refine q_enter (by decide) (Nat.le_of_ble_eq_true rfl) ?_
  refine q_aload_n dX0_list_0 rfl ?_
  refine q_ic (v := 0) dX0_list_1 rfl ?_
  refine q_putI (c := 0) (n := 0) (k := 0) dX0_list_2 rfl (by decide) (by decide) fX0_41 rfl rfl ?_
  show q_K _ (q_sX (q_up uXI6 59 0 0) zJ1) _ _ _ _ _ _
  refine q_aload_n dX0_list_5 rfl ?_
  refine q_ic (v := 0) dX0_list_6 rfl ?_
  refine q_putZ (c := 0) (n := 0) (k := 1) dX0_list_7 rfl (by decide) (by decide) fX0_45 rfl rfl (Or.inl rfl) ?_
  show q_K _ (q_sX (q_up (q_up uXI6 59 0 0) 59 1 0) zJ1) _ _ _ _ _ _
  refine q_aload_n dX0_list_10 rfl ?_
  refine q_ic (v := 0) dX0_list_11 rfl ?_
  refine q_putZ (c := 0) (n := 0) (k := 2) dX0_list_12 rfl (by decide) (by decide) fX0_49 rfl rfl (Or.inl rfl) ?_
  show q_K _ (q_sX (q_up (q_up (q_up uXI6 59 0 0) 59 1 0) 59 2 0) zJ1) _ _ _ _ _ _
  refine q_aload_n dX0_list_15 rfl ?_
  refine q_ic (v := 0) dX0_list_16 rfl ?_
  refine q_putZ (c := 0) (n := 0) (k := 4) dX0_list_17 rfl (by decide) (by decide) fX0_52 rfl rfl (Or.inl rfl) ?_
  show q_K _ (q_sX (q_up (q_up (q_up (q_up uXI6 59 0 0) 59 1 0) 59 2 0) 59 4 0) zJ1) _ _ _ _ _ _
  refine q_ic (v := 0) dX0_list_20 rfl ?_
  refine q_istore_n dX0_list_21 (Nat.le_of_ble_eq_true rfl) ?_
  refine q_iload_n dX0_list_22 rfl ?_
  refine q_bi (v := 40) dX0_list_23 rfl ?_
  refine q_cz_ge (tgt := 48) (a := 0) (b := 40) dX0_list_25 (by decide) rfl rfl (fun h => absurd h (by decide)) (fun _ => ?_)
  refine q_aload_n dX0_list_28 rfl ?_
  refine q_getR (c := 0) (n := 0) (k := 10) (a := 62) dX0_list_29 rfl (by decide) (by decide) fX0_18 rfl rfl ?_
  refine q_iload_n dX0_list_32 rfl ?_
  refine q_ic (v := (-1)) dX0_list_33 rfl ?_
  refine q_iast (n := 40) (j := 0) dX0_list_34 rfl rfl (by decide) ?_
  show q_K _ (q_sX (q_up (q_up (q_up (q_up (q_up uXI6 59 0 0) 59 1 0) 59 2 0) 59 4 0) 62 0 (-1)) zJ1) _ _ _ _ _ _
  refine q_aload_n dX0_list_35 rfl ?_
  refine q_getR (c := 0) (n := 0) (k := 11) (a := 63) dX0_list_36 rfl (by decide) (by decide) fX0_21 rfl rfl ?_
  refine q_iload_n dX0_list_39 rfl ?_
  refine q_ic (v := (-1)) dX0_list_40 rfl ?_
  refine q_iast (n := 40) (j := 0) dX0_list_41 rfl rfl (by decide) ?_
  show q_K _ (q_sX (q_up (q_up (q_up (q_up (q_up (q_up uXI6 59 0 0) 59 1 0) 59 2 0) 59 4 0) 62 0 (-1)) 63 0 (-1)) zJ1) _ _ _ _ _ _
  refine q_inc (v := 1) dX0_list_42 rfl (Nat.le_of_ble_eq_true rfl) rfl ?_
  refine q_goto (tgt := 22) dX0_list_45 (by decide) ?_
  refine q_iload_n dX0_list_22 rfl ?_
  refine q_bi (v := 40) dX0_list_23 rfl ?_
  refine q_cz_ge (tgt := 48) (a := 1) (b := 40) dX0_list_25 (by decide) rfl rfl (fun h => absurd h (by decide)) (fun _ => ?_)
  refine q_aload_n dX0_list_28 rfl ?_
  refine q_getR (c := 0) (n := 0) (k := 10) (a := 62) dX0_list_29 rfl (by decide) (by decide) fX0_18 rfl rfl ?_
  refine q_iload_n dX0_list_32 rfl ?_
  refine q_ic (v := (-1)) dX0_list_33 rfl ?_
  refine q_iast (n := 40) (j := 1) dX0_list_34 rfl rfl (by decide) ?_
  show q_K _ (q_sX (q_up (q_up (q_up (q_up (q_up (q_up (q_up uXI6 59 0 0) 59 1 0) 59 2 0) 59 4 0) 62 0 (-1)) 63 0 (-1)) 62 1 (-1)) zJ1) _ _ _ _ _ _
  refine q_aload_n dX0_list_35 rfl ?_
  refine q_getR (c := 0) (n := 0) (k := 11) (a := 63) dX0_list_36 rfl (by decide) (by decide) fX0_21 rfl rfl ?_
  refine q_iload_n dX0_list_39 rfl ?_
  refine q_ic (v := (-1)) dX0_list_40 rfl ?_
  refine q_iast (n := 40) (j := 1) dX0_list_41 rfl rfl (by decide) ?_
  show q_K _ (q_sX (q_up (q_up (q_up (q_up (q_up (q_up (q_up (q_up uXI6 59 0 0) 59 1 0) 59 2 0) 59 4 0) 62 0 (-1)) 63 0 (-1)) 62 1 (-1)) 63 1 (-1)) zJ1) _ _ _ _ _ _
  refine q_inc (v := 1) dX0_list_42 rfl (Nat.le_of_ble_eq_true rfl) rfl ?_
  refine q_goto (tgt := 22) dX0_list_45 (by decide) ?_
  refine q_iload_n dX0_list_22 rfl ?_
  refine q_bi (v := 40) dX0_list_23 rfl ?_
  refine q_cz_ge (tgt := 48) (a := 2) (b := 40) dX0_list_25 (by decide) rfl rfl (fun h => absurd h (by decide)) (fun _ => ?_)
  refine q_aload_n dX0_list_28 rfl ?_
  refine q_getR (c := 0) (n := 0) (k := 10) (a := 62) dX0_list_29 rfl (by decide) (by decide) fX0_18 rfl rfl ?_
  refine q_iload_n dX0_list_32 rfl ?_
  refine q_ic (v := (-1)) dX0_list_33 rfl ?_
  refine q_iast (n := 40) (j := 2) dX0_list_34 rfl rfl (by decide) ?_
  show q_K _ (q_sX (q_up (q_up (q_up (q_up (q_up (q_up (q_up (q_up (q_up uXI6 59 0 0) 59 1 0) 59 2 0) 59 4 0) 62 0 (-1)) 63 0 (-1)) 62 1 (-1)) 63 1 (-1)) 62 2 (-1)) zJ1) _ _ _ _ _ _
  refine q_aload_n dX0_list_35 rfl ?_
  refine q_getR (c := 0) (n := 0) (k := 11) (a := 63) dX0_list_36 rfl (by decide) (by decide) fX0_21 rfl rfl ?_
  refine q_iload_n dX0_list_39 rfl ?_
  refine q_ic (v := (-1)) dX0_list_40 rfl ?_
  refine q_iast (n := 40) (j := 2) dX0_list_41 rfl rfl (by decide) ?_
  show q_K _ (q_sX (q_up (q_up (q_up (q_up (q_up (q_up (q_up (q_up (q_up (q_up uXI6 59 0 0) 59 1 0) 59 2 0) 59 4 0) 62 0 (-1)) 63 0 (-1)) 62 1 (-1)) 63 1 (-1)) 62 2 (-1)) 63 2 (-1)) zJ1) _ _ _ _ _ _
  refine q_inc (v := 1) dX0_list_42 rfl (Nat.le_of_ble_eq_true rfl) rfl ?_
  refine q_goto (tgt := 22) dX0_list_45 (by decide) ?_
  refine q_iload_n dX0_list_22 rfl ?_
  refine q_bi (v := 40) dX0_list_23 rfl ?_
  refine q_cz_ge (tgt := 48) (a := 3) (b := 40) dX0_list_25 (by decide) rfl rfl (fun h => absurd h (by decide)) (fun _ => ?_)
  refine q_aload_n dX0_list_28 rfl ?_
  refine q_getR (c := 0) (n := 0) (k := 10) (a := 62) dX0_list_29 rfl (by decide) (by decide) fX0_18 rfl rfl ?_
  refine q_iload_n dX0_list_32 rfl ?_
  refine q_ic (v := (-1)) dX0_list_33 rfl ?_
  refine q_iast (n := 40) (j := 3) dX0_list_34 rfl rfl (by decide) ?_
  show q_K _ (q_sX (q_up (q_up (q_up (q_up (q_up (q_up (q_up (q_up (q_up (q_up (q_up uXI6 59 0 0) 59 1 0) 59 2 0) 59 4 0) 62 0 (-1)) 63 0 (-1)) 62 1 (-1)) 63 1 (-1)) 62 2 (-1)) 63 2 (-1)) 62 3 (-1)) zJ1) _ _ _ _ _ _
  refine q_aload_n dX0_list_35 rfl ?_
  refine q_getR (c := 0) (n := 0) (k := 11) (a := 63) dX0_list_36 rfl (by decide) (by decide) fX0_21 rfl rfl ?_
  refine q_iload_n dX0_list_39 rfl ?_
  refine q_ic (v := (-1)) dX0_list_40 rfl ?_
  refine q_iast (n := 40) (j := 3) dX0_list_41 rfl rfl (by decide) ?_
  show q_K _ (q_sX (q_up (q_up (q_up (q_up (q_up (q_up (q_up (q_up (q_up (q_up (q_up (q_up uXI6 59 0 0) 59 1 0) 59 2 0) 59 4 0) 62 0 (-1)) 63 0 (-1)) 62 1 (-1)) 63 1 (-1)) 62 2 (-1)) 63 2 (-1)) 62 3 (-1)) 63 3 (-1)) zJ1) _ _ _ _ _ _
  refine q_inc (v := 1) dX0_list_42 rfl (Nat.le_of_ble_eq_true rfl) rfl ?_
  refine q_goto (tgt := 22) dX0_list_45 (by decide) ?_
  refine q_iload_n dX0_list_22 rfl ?_
  refine q_bi (v := 40) dX0_list_23 rfl ?_
  refine q_cz_ge (tgt := 48) (a := 4) (b := 40) dX0_list_25 (by decide) rfl rfl (fun h => absurd h (by decide)) (fun _ => ?_)
  refine q_aload_n dX0_list_28 rfl ?_
  refine q_getR (c := 0) (n := 0) (k := 10) (a := 62) dX0_list_29 rfl (by decide) (by decide) fX0_18 rfl rfl ?_
  refine q_iload_n dX0_list_32 rfl ?_
  refine q_ic (v := (-1)) dX0_list_33 rfl ?_
  refine q_iast (n := 40) (j := 4) dX0_list_34 rfl rfl (by decide) ?_
  show q_K _ (q_sX uXI7 zJ1) _ _ _ _ _ _
  refine q_aload_n dX0_list_35 rfl ?_
  refine q_getR (c := 0) (n := 0) (k := 11) (a := 63) dX0_list_36 rfl (by decide) (by decide) fX0_21 rfl rfl ?_
  refine q_iload_n dX0_list_39 rfl ?_
  refine q_ic (v := (-1)) dX0_list_40 rfl ?_
  refine q_iast (n := 40) (j := 4) dX0_list_41 rfl rfl (by decide) ?_
  show q_K _ (q_sX (q_up uXI7 63 4 (-1)) zJ1) _ _ _ _ _ _
  refine q_inc (v := 1) dX0_list_42 rfl (Nat.le_of_ble_eq_true rfl) rfl ?_
  refine q_goto (tgt := 22) dX0_list_45 (by decide) ?_
  refine q_iload_n dX0_list_22 rfl ?_
  refine q_bi (v := 40) dX0_list_23 rfl ?_
  refine q_cz_ge (tgt := 48) (a := 5) (b := 40) dX0_list_25 (by decide) rfl rfl (fun h => absurd h (by decide)) (fun _ => ?_)
  refine q_aload_n dX0_list_28 rfl ?_
  refine q_getR (c := 0) (n := 0) (k := 10) (a := 62) dX0_list_29 rfl (by decide) (by decide) fX0_18 rfl rfl ?_
  refine q_iload_n dX0_list_32 rfl ?_
  refine q_ic (v := (-1)) dX0_list_33 rfl ?_
  refine q_iast (n := 40) (j := 5) dX0_list_34 rfl rfl (by decide) ?_
  show q_K _ (q_sX (q_up (q_up uXI7 63 4 (-1)) 62 5 (-1)) zJ1) _ _ _ _ _ _
  refine q_aload_n dX0_list_35 rfl ?_
  refine q_getR (c := 0) (n := 0) (k := 11) (a := 63) dX0_list_36 rfl (by decide) (by decide) fX0_21 rfl rfl ?_
  refine q_iload_n dX0_list_39 rfl ?_
  refine q_ic (v := (-1)) dX0_list_40 rfl ?_
  refine q_iast (n := 40) (j := 5) dX0_list_41 rfl rfl (by decide) ?_
  show q_K _ (q_sX (q_up (q_up (q_up uXI7 63 4 (-1)) 62 5 (-1)) 63 5 (-1)) zJ1) _ _ _ _ _ _
  refine q_inc (v := 1) dX0_list_42 rfl (Nat.le_of_ble_eq_true rfl) rfl ?_
  refine q_goto (tgt := 22) dX0_list_45 (by decide) ?_
  refine q_iload_n dX0_list_22 rfl ?_
  refine q_bi (v := 40) dX0_list_23 rfl ?_
  refine q_cz_ge (tgt := 48) (a := 6) (b := 40) dX0_list_25 (by decide) rfl rfl (fun h => absurd h (by decide)) (fun _ => ?_)
  refine q_aload_n dX0_list_28 rfl ?_
  refine q_getR (c := 0) (n := 0) (k := 10) (a := 62) dX0_list_29 rfl (by decide) (by decide) fX0_18 rfl rfl ?_
  refine q_iload_n dX0_list_32 rfl ?_
  refine q_ic (v := (-1)) dX0_list_33 rfl ?_
  refine q_iast (n := 40) (j := 6) dX0_list_34 rfl rfl (by decide) ?_
  show q_K _ (q_sX (q_up (q_up (q_up (q_up uXI7 63 4 (-1)) 62 5 (-1)) 63 5 (-1)) 62 6 (-1)) zJ1) _ _ _ _ _ _
  refine q_aload_n dX0_list_35 rfl ?_
  refine q_getR (c := 0) (n := 0) (k := 11) (a := 63) dX0_list_36 rfl (by decide) (by decide) fX0_21 rfl rfl ?_
  refine q_iload_n dX0_list_39 rfl ?_
  refine q_ic (v := (-1)) dX0_list_40 rfl ?_
  refine q_iast (n := 40) (j := 6) dX0_list_41 rfl rfl (by decide) ?_
  show q_K _ (q_sX (q_up (q_up (q_up (q_up (q_up uXI7 63 4 (-1)) 62 5 (-1)) 63 5 (-1)) 62 6 (-1)) 63 6 (-1)) zJ1) _ _ _ _ _ _
  refine q_inc (v := 1) dX0_list_42 rfl (Nat.le_of_ble_eq_true rfl) rfl ?_
  refine q_goto (tgt := 22) dX0_list_45 (by decide) ?_
  refine q_iload_n dX0_list_22 rfl ?_
  refine q_bi (v := 40) dX0_list_23 rfl ?_
  refine q_cz_ge (tgt := 48) (a := 7) (b := 40) dX0_list_25 (by decide) rfl rfl (fun h => absurd h (by decide)) (fun _ => ?_)
  refine q_aload_n dX0_list_28 rfl ?_
  refine q_getR (c := 0) (n := 0) (k := 10) (a := 62) dX0_list_29 rfl (by decide) (by decide) fX0_18 rfl rfl ?_
  refine q_iload_n dX0_list_32 rfl ?_
  refine q_ic (v := (-1)) dX0_list_33 rfl ?_
  refine q_iast (n := 40) (j := 7) dX0_list_34 rfl rfl (by decide) ?_
  show q_K _ (q_sX (q_up (q_up (q_up (q_up (q_up (q_up uXI7 63 4 (-1)) 62 5 (-1)) 63 5 (-1)) 62 6 (-1)) 63 6 (-1)) 62 7 (-1)) zJ1) _ _ _ _ _ _
  refine q_aload_n dX0_list_35 rfl ?_
  refine q_getR (c := 0) (n := 0) (k := 11) (a := 63) dX0_list_36 rfl (by decide) (by decide) fX0_21 rfl rfl ?_
  refine q_iload_n dX0_list_39 rfl ?_
  refine q_ic (v := (-1)) dX0_list_40 rfl ?_
  refine q_iast (n := 40) (j := 7) dX0_list_41 rfl rfl (by decide) ?_
  show q_K _ (q_sX (q_up (q_up (q_up (q_up (q_up (q_up (q_up uXI7 63 4 (-1)) 62 5 (-1)) 63 5 (-1)) 62 6 (-1)) 63 6 (-1)) 62 7 (-1)) 63 7 (-1)) zJ1) _ _ _ _ _ _
  refine q_inc (v := 1) dX0_list_42 rfl (Nat.le_of_ble_eq_true rfl) rfl ?_
  refine q_goto (tgt := 22) dX0_list_45 (by decide) ?_
  refine q_iload_n dX0_list_22 rfl ?_
  refine q_bi (v := 40) dX0_list_23 rfl ?_
  refine q_cz_ge (tgt := 48) (a := 8) (b := 40) dX0_list_25 (by decide) rfl rfl (fun h => absurd h (by decide)) (fun _ => ?_)
  refine q_aload_n dX0_list_28 rfl ?_
  refine q_getR (c := 0) (n := 0) (k := 10) (a := 62) dX0_list_29 rfl (by decide) (by decide) fX0_18 rfl rfl ?_
  refine q_iload_n dX0_list_32 rfl ?_
  refine q_ic (v := (-1)) dX0_list_33 rfl ?_
  refine q_iast (n := 40) (j := 8) dX0_list_34 rfl rfl (by decide) ?_
  show q_K _ (q_sX (q_up (q_up (q_up (q_up (q_up (q_up (q_up (q_up uXI7 63 4 (-1)) 62 5 (-1)) 63 5 (-1)) 62 6 (-1)) 63 6 (-1)) 62 7 (-1)) 63 7 (-1)) 62 8 (-1)) zJ1) _ _ _ _ _ _
  refine q_aload_n dX0_list_35 rfl ?_
  refine q_getR (c := 0) (n := 0) (k := 11) (a := 63) dX0_list_36 rfl (by decide) (by decide) fX0_21 rfl rfl ?_
  refine q_iload_n dX0_list_39 rfl ?_
  refine q_ic (v := (-1)) dX0_list_40 rfl ?_
  refine q_iast (n := 40) (j := 8) dX0_list_41 rfl rfl (by decide) ?_
  show q_K _ (q_sX (q_up (q_up (q_up (q_up (q_up (q_up (q_up (q_up (q_up uXI7 63 4 (-1)) 62 5 (-1)) 63 5 (-1)) 62 6 (-1)) 63 6 (-1)) 62 7 (-1)) 63 7 (-1)) 62 8 (-1)) 63 8 (-1)) zJ1) _ _ _ _ _ _
  refine q_inc (v := 1) dX0_list_42 rfl (Nat.le_of_ble_eq_true rfl) rfl ?_
  refine q_goto (tgt := 22) dX0_list_45 (by decide) ?_
  refine q_iload_n dX0_list_22 rfl ?_
  refine q_bi (v := 40) dX0_list_23 rfl ?_
  refine q_cz_ge (tgt := 48) (a := 9) (b := 40) dX0_list_25 (by decide) rfl rfl (fun h => absurd h (by decide)) (fun _ => ?_)
  refine q_aload_n dX0_list_28 rfl ?_
  refine q_getR (c := 0) (n := 0) (k := 10) (a := 62) dX0_list_29 rfl (by decide) (by decide) fX0_18 rfl rfl ?_
  refine q_iload_n dX0_list_32 rfl ?_
  refine q_ic (v := (-1)) dX0_list_33 rfl ?_
  refine q_iast (n := 40) (j := 9) dX0_list_34 rfl rfl (by decide) ?_
  show q_K _ (q_sX (q_up (q_up (q_up (q_up (q_up (q_up (q_up (q_up (q_up (q_up uXI7 63 4 (-1)) 62 5 (-1)) 63 5 (-1)) 62 6 (-1)) 63 6 (-1)) 62 7 (-1)) 63 7 (-1)) 62 8 (-1)) 63 8 (-1)) 62 9 (-1)) zJ1) _ _ _ _ _ _
  refine q_aload_n dX0_list_35 rfl ?_
  refine q_getR (c := 0) (n := 0) (k := 11) (a := 63) dX0_list_36 rfl (by decide) (by decide) fX0_21 rfl rfl ?_
  refine q_iload_n dX0_list_39 rfl ?_
  refine q_ic (v := (-1)) dX0_list_40 rfl ?_
  refine q_iast (n := 40) (j := 9) dX0_list_41 rfl rfl (by decide) ?_
  show q_K _ (q_sX (q_up (q_up (q_up (q_up (q_up (q_up (q_up (q_up (q_up (q_up (q_up uXI7 63 4 (-1)) 62 5 (-1)) 63 5 (-1)) 62 6 (-1)) 63 6 (-1)) 62 7 (-1)) 63 7 (-1)) 62 8 (-1)) 63 8 (-1)) 62 9 (-1)) 63 9 (-1)) zJ1) _ _ _ _ _ _
  refine q_inc (v := 1) dX0_list_42 rfl (Nat.le_of_ble_eq_true rfl) rfl ?_
  refine q_goto (tgt := 22) dX0_list_45 (by decide) ?_
  refine q_iload_n dX0_list_22 rfl ?_
  refine q_bi (v := 40) dX0_list_23 rfl ?_
  refine q_cz_ge (tgt := 48) (a := 10) (b := 40) dX0_list_25 (by decide) rfl rfl (fun h => absurd h (by decide)) (fun _ => ?_)
  refine q_aload_n dX0_list_28 rfl ?_
  refine q_getR (c := 0) (n := 0) (k := 10) (a := 62) dX0_list_29 rfl (by decide) (by decide) fX0_18 rfl rfl ?_
  refine q_iload_n dX0_list_32 rfl ?_
  refine q_ic (v := (-1)) dX0_list_33 rfl ?_
  refine q_iast (n := 40) (j := 10) dX0_list_34 rfl rfl (by decide) ?_
  show q_K _ (q_sX (q_up (q_up (q_up (q_up (q_up (q_up (q_up (q_up (q_up (q_up (q_up (q_up uXI7 63 4 (-1)) 62 5 (-1)) 63 5 (-1)) 62 6 (-1)) 63 6 (-1)) 62 7 (-1)) 63 7 (-1)) 62 8 (-1)) 63 8 (-1)) 62 9 (-1)) 63 9 (-1)) 62 10 (-1)) zJ1) _ _ _ _ _ _
  refine q_aload_n dX0_list_35 rfl ?_
  refine q_getR (c := 0) (n := 0) (k := 11) (a := 63) dX0_list_36 rfl (by decide) (by decide) fX0_21 rfl rfl ?_
  refine q_iload_n dX0_list_39 rfl ?_
  refine q_ic (v := (-1)) dX0_list_40 rfl ?_
  refine q_iast (n := 40) (j := 10) dX0_list_41 rfl rfl (by decide) ?_
  show q_K _ (q_sX (q_up (q_up (q_up (q_up (q_up (q_up (q_up (q_up (q_up (q_up (q_up (q_up (q_up uXI7 63 4 (-1)) 62 5 (-1)) 63 5 (-1)) 62 6 (-1)) 63 6 (-1)) 62 7 (-1)) 63 7 (-1)) 62 8 (-1)) 63 8 (-1)) 62 9 (-1)) 63 9 (-1)) 62 10 (-1)) 63 10 (-1)) zJ1) _ _ _ _ _ _
  refine q_inc (v := 1) dX0_list_42 rfl (Nat.le_of_ble_eq_true rfl) rfl ?_
  refine q_goto (tgt := 22) dX0_list_45 (by decide) ?_
  refine q_iload_n dX0_list_22 rfl ?_
  refine q_bi (v := 40) dX0_list_23 rfl ?_
  refine q_cz_ge (tgt := 48) (a := 11) (b := 40) dX0_list_25 (by decide) rfl rfl (fun h => absurd h (by decide)) (fun _ => ?_)
  refine q_aload_n dX0_list_28 rfl ?_
  refine q_getR (c := 0) (n := 0) (k := 10) (a := 62) dX0_list_29 rfl (by decide) (by decide) fX0_18 rfl rfl ?_
  refine q_iload_n dX0_list_32 rfl ?_
  refine q_ic (v := (-1)) dX0_list_33 rfl ?_
  refine q_iast (n := 40) (j := 11) dX0_list_34 rfl rfl (by decide) ?_
  show q_K _ (q_sX (q_up (q_up (q_up (q_up (q_up (q_up (q_up (q_up (q_up (q_up (q_up (q_up (q_up (q_up uXI7 63 4 (-1)) 62 5 (-1)) 63 5 (-1)) 62 6 (-1)) 63 6 (-1)) 62 7 (-1)) 63 7 (-1)) 62 8 (-1)) 63 8 (-1)) 62 9 (-1)) 63 9 (-1)) 62 10 (-1)) 63 10 (-1)) 62 11 (-1)) zJ1) _ _ _ _ _ _
  refine q_aload_n dX0_list_35 rfl ?_
  refine q_getR (c := 0) (n := 0) (k := 11) (a := 63) dX0_list_36 rfl (by decide) (by decide) fX0_21 rfl rfl ?_
  refine q_iload_n dX0_list_39 rfl ?_
  refine q_ic (v := (-1)) dX0_list_40 rfl ?_
  refine q_iast (n := 40) (j := 11) dX0_list_41 rfl rfl (by decide) ?_
  show q_K _ (q_sX (q_up (q_up (q_up (q_up (q_up (q_up (q_up (q_up (q_up (q_up (q_up (q_up (q_up (q_up (q_up uXI7 63 4 (-1)) 62 5 (-1)) 63 5 (-1)) 62 6 (-1)) 63 6 (-1)) 62 7 (-1)) 63 7 (-1)) 62 8 (-1)) 63 8 (-1)) 62 9 (-1)) 63 9 (-1)) 62 10 (-1)) 63 10 (-1)) 62 11 (-1)) 63 11 (-1)) zJ1) _ _ _ _ _ _
  refine q_inc (v := 1) dX0_list_42 rfl (Nat.le_of_ble_eq_true rfl) rfl ?_
  refine q_goto (tgt := 22) dX0_list_45 (by decide) ?_
  refine q_iload_n dX0_list_22 rfl ?_
  refine q_bi (v := 40) dX0_list_23 rfl ?_
  refine q_cz_ge (tgt := 48) (a := 12) (b := 40) dX0_list_25 (by decide) rfl rfl (fun h => absurd h (by decide)) (fun _ => ?_)
  refine q_aload_n dX0_list_28 rfl ?_
  refine q_getR (c := 0) (n := 0) (k := 10) (a := 62) dX0_list_29 rfl (by decide) (by decide) fX0_18 rfl rfl ?_
  refine q_iload_n dX0_list_32 rfl ?_
  refine q_ic (v := (-1)) dX0_list_33 rfl ?_
  refine q_iast (n := 40) (j := 12) dX0_list_34 rfl rfl (by decide) ?_
  show q_K _ (q_sX (q_up (q_up (q_up (q_up (q_up (q_up (q_up (q_up (q_up (q_up (q_up (q_up (q_up (q_up (q_up (q_up uXI7 63 4 (-1)) 62 5 (-1)) 63 5 (-1)) 62 6 (-1)) 63 6 (-1)) 62 7 (-1)) 63 7 (-1)) 62 8 (-1)) 63 8 (-1)) 62 9 (-1)) 63 9 (-1)) 62 10 (-1)) 63 10 (-1)) 62 11 (-1)) 63 11 (-1)) 62 12 (-1)) zJ1) _ _ _ _ _ _
  refine q_aload_n dX0_list_35 rfl ?_
  refine q_getR (c := 0) (n := 0) (k := 11) (a := 63) dX0_list_36 rfl (by decide) (by decide) fX0_21 rfl rfl ?_
  refine q_iload_n dX0_list_39 rfl ?_
  refine q_ic (v := (-1)) dX0_list_40 rfl ?_
  refine q_iast (n := 40) (j := 12) dX0_list_41 rfl rfl (by decide) ?_
  show q_K _ (q_sX (q_up (q_up (q_up (q_up (q_up (q_up (q_up (q_up (q_up (q_up (q_up (q_up (q_up (q_up (q_up (q_up (q_up uXI7 63 4 (-1)) 62 5 (-1)) 63 5 (-1)) 62 6 (-1)) 63 6 (-1)) 62 7 (-1)) 63 7 (-1)) 62 8 (-1)) 63 8 (-1)) 62 9 (-1)) 63 9 (-1)) 62 10 (-1)) 63 10 (-1)) 62 11 (-1)) 63 11 (-1)) 62 12 (-1)) 63 12 (-1)) zJ1) _ _ _ _ _ _
  refine q_inc (v := 1) dX0_list_42 rfl (Nat.le_of_ble_eq_true rfl) rfl ?_
  refine q_goto (tgt := 22) dX0_list_45 (by decide) ?_
  refine q_iload_n dX0_list_22 rfl ?_
  refine q_bi (v := 40) dX0_list_23 rfl ?_
  refine q_cz_ge (tgt := 48) (a := 13) (b := 40) dX0_list_25 (by decide) rfl rfl (fun h => absurd h (by decide)) (fun _ => ?_)
  refine q_aload_n dX0_list_28 rfl ?_
  refine q_getR (c := 0) (n := 0) (k := 10) (a := 62) dX0_list_29 rfl (by decide) (by decide) fX0_18 rfl rfl ?_
  refine q_iload_n dX0_list_32 rfl ?_
  refine q_ic (v := (-1)) dX0_list_33 rfl ?_
  refine q_iast (n := 40) (j := 13) dX0_list_34 rfl rfl (by decide) ?_
  show q_K _ (q_sX (q_up (q_up (q_up (q_up (q_up (q_up (q_up (q_up (q_up (q_up (q_up (q_up (q_up (q_up (q_up (q_up (q_up (q_up uXI7 63 4 (-1)) 62 5 (-1)) 63 5 (-1)) 62 6 (-1)) 63 6 (-1)) 62 7 (-1)) 63 7 (-1)) 62 8 (-1)) 63 8 (-1)) 62 9 (-1)) 63 9 (-1)) 62 10 (-1)) 63 10 (-1)) 62 11 (-1)) 63 11 (-1)) 62 12 (-1)) 63 12 (-1)) 62 13 (-1)) zJ1) _ _ _ _ _ _
  refine q_aload_n dX0_list_35 rfl ?_
  refine q_getR (c := 0) (n := 0) (k := 11) (a := 63) dX0_list_36 rfl (by decide) (by decide) fX0_21 rfl rfl ?_
  refine q_iload_n dX0_list_39 rfl ?_
  refine q_ic (v := (-1)) dX0_list_40 rfl ?_
  refine q_iast (n := 40) (j := 13) dX0_list_41 rfl rfl (by decide) ?_
  show q_K _ (q_sX (q_up (q_up (q_up (q_up (q_up (q_up (q_up (q_up (q_up (q_up (q_up (q_up (q_up (q_up (q_up (q_up (q_up (q_up (q_up uXI7 63 4 (-1)) 62 5 (-1)) 63 5 (-1)) 62 6 (-1)) 63 6 (-1)) 62 7 (-1)) 63 7 (-1)) 62 8 (-1)) 63 8 (-1)) 62 9 (-1)) 63 9 (-1)) 62 10 (-1)) 63 10 (-1)) 62 11 (-1)) 63 11 (-1)) 62 12 (-1)) 63 12 (-1)) 62 13 (-1)) 63 13 (-1)) zJ1) _ _ _ _ _ _
  refine q_inc (v := 1) dX0_list_42 rfl (Nat.le_of_ble_eq_true rfl) rfl ?_
  refine q_goto (tgt := 22) dX0_list_45 (by decide) ?_
  refine q_iload_n dX0_list_22 rfl ?_
  refine q_bi (v := 40) dX0_list_23 rfl ?_
  refine q_cz_ge (tgt := 48) (a := 14) (b := 40) dX0_list_25 (by decide) rfl rfl (fun h => absurd h (by decide)) (fun _ => ?_)
  refine q_aload_n dX0_list_28 rfl ?_
  refine q_getR (c := 0) (n := 0) (k := 10) (a := 62) dX0_list_29 rfl (by decide) (by decide) fX0_18 rfl rfl ?_
  refine q_iload_n dX0_list_32 rfl ?_
  refine q_ic (v := (-1)) dX0_list_33 rfl ?_
  refine q_iast (n := 40) (j := 14) dX0_list_34 rfl rfl (by decide) ?_
  show q_K _ (q_sX (q_up (q_up (q_up (q_up (q_up (q_up (q_up (q_up (q_up (q_up (q_up (q_up (q_up (q_up (q_up (q_up (q_up (q_up (q_up (q_up uXI7 63 4 (-1)) 62 5 (-1)) 63 5 (-1)) 62 6 (-1)) 63 6 (-1)) 62 7 (-1)) 63 7 (-1)) 62 8 (-1)) 63 8 (-1)) 62 9 (-1)) 63 9 (-1)) 62 10 (-1)) 63 10 (-1)) 62 11 (-1)) 63 11 (-1)) 62 12 (-1)) 63 12 (-1)) 62 13 (-1)) 63 13 (-1)) 62 14 (-1)) zJ1) _ _ _ _ _ _
  refine q_aload_n dX0_list_35 rfl ?_
  refine q_getR (c := 0) (n := 0) (k := 11) (a := 63) dX0_list_36 rfl (by decide) (by decide) fX0_21 rfl rfl ?_
  refine q_iload_n dX0_list_39 rfl ?_
  refine q_ic (v := (-1)) dX0_list_40 rfl ?_
  refine q_iast (n := 40) (j := 14) dX0_list_41 rfl rfl (by decide) ?_
  show q_K _ (q_sX (q_up (q_up (q_up (q_up (q_up (q_up (q_up (q_up (q_up (q_up (q_up (q_up (q_up (q_up (q_up (q_up (q_up (q_up (q_up (q_up (q_up uXI7 63 4 (-1)) 62 5 (-1)) 63 5 (-1)) 62 6 (-1)) 63 6 (-1)) 62 7 (-1)) 63 7 (-1)) 62 8 (-1)) 63 8 (-1)) 62 9 (-1)) 63 9 (-1)) 62 10 (-1)) 63 10 (-1)) 62 11 (-1)) 63 11 (-1)) 62 12 (-1)) 63 12 (-1)) 62 13 (-1)) 63 13 (-1)) 62 14 (-1)) 63 14 (-1)) zJ1) _ _ _ _ _ _
  refine q_inc (v := 1) dX0_list_42 rfl (Nat.le_of_ble_eq_true rfl) rfl ?_
  refine q_goto (tgt := 22) dX0_list_45 (by decide) ?_
  refine q_iload_n dX0_list_22 rfl ?_
  refine q_bi (v := 40) dX0_list_23 rfl ?_
  refine q_cz_ge (tgt := 48) (a := 15) (b := 40) dX0_list_25 (by decide) rfl rfl (fun h => absurd h (by decide)) (fun _ => ?_)
  refine q_aload_n dX0_list_28 rfl ?_
  refine q_getR (c := 0) (n := 0) (k := 10) (a := 62) dX0_list_29 rfl (by decide) (by decide) fX0_18 rfl rfl ?_
  refine q_iload_n dX0_list_32 rfl ?_
  refine q_ic (v := (-1)) dX0_list_33 rfl ?_
  refine q_iast (n := 40) (j := 15) dX0_list_34 rfl rfl (by decide) ?_
  show q_K _ (q_sX (q_up (q_up (q_up (q_up (q_up (q_up (q_up (q_up (q_up (q_up (q_up (q_up (q_up (q_up (q_up (q_up (q_up (q_up (q_up (q_up (q_up (q_up uXI7 63 4 (-1)) 62 5 (-1)) 63 5 (-1)) 62 6 (-1)) 63 6 (-1)) 62 7 (-1)) 63 7 (-1)) 62 8 (-1)) 63 8 (-1)) 62 9 (-1)) 63 9 (-1)) 62 10 (-1)) 63 10 (-1)) 62 11 (-1)) 63 11 (-1)) 62 12 (-1)) 63 12 (-1)) 62 13 (-1)) 63 13 (-1)) 62 14 (-1)) 63 14 (-1)) 62 15 (-1)) zJ1) _ _ _ _ _ _
  refine q_aload_n dX0_list_35 rfl ?_
  refine q_getR (c := 0) (n := 0) (k := 11) (a := 63) dX0_list_36 rfl (by decide) (by decide) fX0_21 rfl rfl ?_
  refine q_iload_n dX0_list_39 rfl ?_
  refine q_ic (v := (-1)) dX0_list_40 rfl ?_
  refine q_iast (n := 40) (j := 15) dX0_list_41 rfl rfl (by decide) ?_
  show q_K _ (q_sX (q_up (q_up (q_up (q_up (q_up (q_up (q_up (q_up (q_up (q_up (q_up (q_up (q_up (q_up (q_up (q_up (q_up (q_up (q_up (q_up (q_up (q_up (q_up uXI7 63 4 (-1)) 62 5 (-1)) 63 5 (-1)) 62 6 (-1)) 63 6 (-1)) 62 7 (-1)) 63 7 (-1)) 62 8 (-1)) 63 8 (-1)) 62 9 (-1)) 63 9 (-1)) 62 10 (-1)) 63 10 (-1)) 62 11 (-1)) 63 11 (-1)) 62 12 (-1)) 63 12 (-1)) 62 13 (-1)) 63 13 (-1)) 62 14 (-1)) 63 14 (-1)) 62 15 (-1)) 63 15 (-1)) zJ1) _ _ _ _ _ _
  refine q_inc (v := 1) dX0_list_42 rfl (Nat.le_of_ble_eq_true rfl) rfl ?_
  refine q_goto (tgt := 22) dX0_list_45 (by decide) ?_
  refine q_iload_n dX0_list_22 rfl ?_
  refine q_bi (v := 40) dX0_list_23 rfl ?_
  refine q_cz_ge (tgt := 48) (a := 16) (b := 40) dX0_list_25 (by decide) rfl rfl (fun h => absurd h (by decide)) (fun _ => ?_)
  refine q_aload_n dX0_list_28 rfl ?_
  refine q_getR (c := 0) (n := 0) (k := 10) (a := 62) dX0_list_29 rfl (by decide) (by decide) fX0_18 rfl rfl ?_
  refine q_iload_n dX0_list_32 rfl ?_
  refine q_ic (v := (-1)) dX0_list_33 rfl ?_
  refine q_iast (n := 40) (j := 16) dX0_list_34 rfl rfl (by decide) ?_
  show q_K _ (q_sX uXI8 zJ1) _ _ _ _ _ _
  refine q_aload_n dX0_list_35 rfl ?_
  refine q_getR (c := 0) (n := 0) (k := 11) (a := 63) dX0_list_36 rfl (by decide) (by decide) fX0_21 rfl rfl ?_
  refine q_iload_n dX0_list_39 rfl ?_
  refine q_ic (v := (-1)) dX0_list_40 rfl ?_
  refine q_iast (n := 40) (j := 16) dX0_list_41 rfl rfl (by decide) ?_
  show q_K _ (q_sX (q_up uXI8 63 16 (-1)) zJ1) _ _ _ _ _ _
  refine q_inc (v := 1) dX0_list_42 rfl (Nat.le_of_ble_eq_true rfl) rfl ?_
  refine q_goto (tgt := 22) dX0_list_45 (by decide) ?_
  refine q_iload_n dX0_list_22 rfl ?_
  refine q_bi (v := 40) dX0_list_23 rfl ?_
  refine q_cz_ge (tgt := 48) (a := 17) (b := 40) dX0_list_25 (by decide) rfl rfl (fun h => absurd h (by decide)) (fun _ => ?_)
  refine q_aload_n dX0_list_28 rfl ?_
  refine q_getR (c := 0) (n := 0) (k := 10) (a := 62) dX0_list_29 rfl (by decide) (by decide) fX0_18 rfl rfl ?_
  refine q_iload_n dX0_list_32 rfl ?_
  refine q_ic (v := (-1)) dX0_list_33 rfl ?_
  refine q_iast (n := 40) (j := 17) dX0_list_34 rfl rfl (by decide) ?_
  show q_K _ (q_sX (q_up (q_up uXI8 63 16 (-1)) 62 17 (-1)) zJ1) _ _ _ _ _ _
  refine q_aload_n dX0_list_35 rfl ?_
  refine q_getR (c := 0) (n := 0) (k := 11) (a := 63) dX0_list_36 rfl (by decide) (by decide) fX0_21 rfl rfl ?_
  refine q_iload_n dX0_list_39 rfl ?_
  refine q_ic (v := (-1)) dX0_list_40 rfl ?_
  refine q_iast (n := 40) (j := 17) dX0_list_41 rfl rfl (by decide) ?_
  show q_K _ (q_sX (q_up (q_up (q_up uXI8 63 16 (-1)) 62 17 (-1)) 63 17 (-1)) zJ1) _ _ _ _ _ _
  refine q_inc (v := 1) dX0_list_42 rfl (Nat.le_of_ble_eq_true rfl) rfl ?_
  refine q_goto (tgt := 22) dX0_list_45 (by decide) ?_
  refine q_iload_n dX0_list_22 rfl ?_
  refine q_bi (v := 40) dX0_list_23 rfl ?_
  refine q_cz_ge (tgt := 48) (a := 18) (b := 40) dX0_list_25 (by decide) rfl rfl (fun h => absurd h (by decide)) (fun _ => ?_)
  refine q_aload_n dX0_list_28 rfl ?_
  refine q_getR (c := 0) (n := 0) (k := 10) (a := 62) dX0_list_29 rfl (by decide) (by decide) fX0_18 rfl rfl ?_
  refine q_iload_n dX0_list_32 rfl ?_
  refine q_ic (v := (-1)) dX0_list_33 rfl ?_
  refine q_iast (n := 40) (j := 18) dX0_list_34 rfl rfl (by decide) ?_
  show q_K _ (q_sX (q_up (q_up (q_up (q_up uXI8 63 16 (-1)) 62 17 (-1)) 63 17 (-1)) 62 18 (-1)) zJ1) _ _ _ _ _ _
  refine q_aload_n dX0_list_35 rfl ?_
  refine q_getR (c := 0) (n := 0) (k := 11) (a := 63) dX0_list_36 rfl (by decide) (by decide) fX0_21 rfl rfl ?_
  refine q_iload_n dX0_list_39 rfl ?_
  refine q_ic (v := (-1)) dX0_list_40 rfl ?_
  refine q_iast (n := 40) (j := 18) dX0_list_41 rfl rfl (by decide) ?_
  show q_K _ (q_sX (q_up (q_up (q_up (q_up (q_up uXI8 63 16 (-1)) 62 17 (-1)) 63 17 (-1)) 62 18 (-1)) 63 18 (-1)) zJ1) _ _ _ _ _ _
  refine q_inc (v := 1) dX0_list_42 rfl (Nat.le_of_ble_eq_true rfl) rfl ?_
  refine q_goto (tgt := 22) dX0_list_45 (by decide) ?_
  refine q_iload_n dX0_list_22 rfl ?_
  refine q_bi (v := 40) dX0_list_23 rfl ?_
  refine q_cz_ge (tgt := 48) (a := 19) (b := 40) dX0_list_25 (by decide) rfl rfl (fun h => absurd h (by decide)) (fun _ => ?_)
  refine q_aload_n dX0_list_28 rfl ?_
  refine q_getR (c := 0) (n := 0) (k := 10) (a := 62) dX0_list_29 rfl (by decide) (by decide) fX0_18 rfl rfl ?_
  refine q_iload_n dX0_list_32 rfl ?_
  refine q_ic (v := (-1)) dX0_list_33 rfl ?_
  refine q_iast (n := 40) (j := 19) dX0_list_34 rfl rfl (by decide) ?_
  show q_K _ (q_sX (q_up (q_up (q_up (q_up (q_up (q_up uXI8 63 16 (-1)) 62 17 (-1)) 63 17 (-1)) 62 18 (-1)) 63 18 (-1)) 62 19 (-1)) zJ1) _ _ _ _ _ _
  refine q_aload_n dX0_list_35 rfl ?_
  refine q_getR (c := 0) (n := 0) (k := 11) (a := 63) dX0_list_36 rfl (by decide) (by decide) fX0_21 rfl rfl ?_
  refine q_iload_n dX0_list_39 rfl ?_
  refine q_ic (v := (-1)) dX0_list_40 rfl ?_
  refine q_iast (n := 40) (j := 19) dX0_list_41 rfl rfl (by decide) ?_
  show q_K _ (q_sX (q_up (q_up (q_up (q_up (q_up (q_up (q_up uXI8 63 16 (-1)) 62 17 (-1)) 63 17 (-1)) 62 18 (-1)) 63 18 (-1)) 62 19 (-1)) 63 19 (-1)) zJ1) _ _ _ _ _ _
  refine q_inc (v := 1) dX0_list_42 rfl (Nat.le_of_ble_eq_true rfl) rfl ?_
  refine q_goto (tgt := 22) dX0_list_45 (by decide) ?_
  refine q_iload_n dX0_list_22 rfl ?_
  refine q_bi (v := 40) dX0_list_23 rfl ?_
  refine q_cz_ge (tgt := 48) (a := 20) (b := 40) dX0_list_25 (by decide) rfl rfl (fun h => absurd h (by decide)) (fun _ => ?_)
  refine q_aload_n dX0_list_28 rfl ?_
  refine q_getR (c := 0) (n := 0) (k := 10) (a := 62) dX0_list_29 rfl (by decide) (by decide) fX0_18 rfl rfl ?_
  refine q_iload_n dX0_list_32 rfl ?_
  refine q_ic (v := (-1)) dX0_list_33 rfl ?_
  refine q_iast (n := 40) (j := 20) dX0_list_34 rfl rfl (by decide) ?_
  show q_K _ (q_sX (q_up (q_up (q_up (q_up (q_up (q_up (q_up (q_up uXI8 63 16 (-1)) 62 17 (-1)) 63 17 (-1)) 62 18 (-1)) 63 18 (-1)) 62 19 (-1)) 63 19 (-1)) 62 20 (-1)) zJ1) _ _ _ _ _ _
  refine q_aload_n dX0_list_35 rfl ?_
  refine q_getR (c := 0) (n := 0) (k := 11) (a := 63) dX0_list_36 rfl (by decide) (by decide) fX0_21 rfl rfl ?_
  refine q_iload_n dX0_list_39 rfl ?_
  refine q_ic (v := (-1)) dX0_list_40 rfl ?_
  refine q_iast (n := 40) (j := 20) dX0_list_41 rfl rfl (by decide) ?_
  show q_K _ (q_sX (q_up (q_up (q_up (q_up (q_up (q_up (q_up (q_up (q_up uXI8 63 16 (-1)) 62 17 (-1)) 63 17 (-1)) 62 18 (-1)) 63 18 (-1)) 62 19 (-1)) 63 19 (-1)) 62 20 (-1)) 63 20 (-1)) zJ1) _ _ _ _ _ _
  refine q_inc (v := 1) dX0_list_42 rfl (Nat.le_of_ble_eq_true rfl) rfl ?_
  refine q_goto (tgt := 22) dX0_list_45 (by decide) ?_
  refine q_iload_n dX0_list_22 rfl ?_
  refine q_bi (v := 40) dX0_list_23 rfl ?_
  refine q_cz_ge (tgt := 48) (a := 21) (b := 40) dX0_list_25 (by decide) rfl rfl (fun h => absurd h (by decide)) (fun _ => ?_)
  refine q_aload_n dX0_list_28 rfl ?_
  refine q_getR (c := 0) (n := 0) (k := 10) (a := 62) dX0_list_29 rfl (by decide) (by decide) fX0_18 rfl rfl ?_
  refine q_iload_n dX0_list_32 rfl ?_
  refine q_ic (v := (-1)) dX0_list_33 rfl ?_
  refine q_iast (n := 40) (j := 21) dX0_list_34 rfl rfl (by decide) ?_
  show q_K _ (q_sX (q_up (q_up (q_up (q_up (q_up (q_up (q_up (q_up (q_up (q_up uXI8 63 16 (-1)) 62 17 (-1)) 63 17 (-1)) 62 18 (-1)) 63 18 (-1)) 62 19 (-1)) 63 19 (-1)) 62 20 (-1)) 63 20 (-1)) 62 21 (-1)) zJ1) _ _ _ _ _ _
  refine q_aload_n dX0_list_35 rfl ?_
  refine q_getR (c := 0) (n := 0) (k := 11) (a := 63) dX0_list_36 rfl (by decide) (by decide) fX0_21 rfl rfl ?_
  refine q_iload_n dX0_list_39 rfl ?_
  refine q_ic (v := (-1)) dX0_list_40 rfl ?_
  refine q_iast (n := 40) (j := 21) dX0_list_41 rfl rfl (by decide) ?_
  show q_K _ (q_sX (q_up (q_up (q_up (q_up (q_up (q_up (q_up (q_up (q_up (q_up (q_up uXI8 63 16 (-1)) 62 17 (-1)) 63 17 (-1)) 62 18 (-1)) 63 18 (-1)) 62 19 (-1)) 63 19 (-1)) 62 20 (-1)) 63 20 (-1)) 62 21 (-1)) 63 21 (-1)) zJ1) _ _ _ _ _ _
  refine q_inc (v := 1) dX0_list_42 rfl (Nat.le_of_ble_eq_true rfl) rfl ?_
  refine q_goto (tgt := 22) dX0_list_45 (by decide) ?_
  refine q_iload_n dX0_list_22 rfl ?_
  refine q_bi (v := 40) dX0_list_23 rfl ?_
  refine q_cz_ge (tgt := 48) (a := 22) (b := 40) dX0_list_25 (by decide) rfl rfl (fun h => absurd h (by decide)) (fun _ => ?_)
  refine q_aload_n dX0_list_28 rfl ?_
  refine q_getR (c := 0) (n := 0) (k := 10) (a := 62) dX0_list_29 rfl (by decide) (by decide) fX0_18 rfl rfl ?_
  refine q_iload_n dX0_list_32 rfl ?_
  refine q_ic (v := (-1)) dX0_list_33 rfl ?_
  refine q_iast (n := 40) (j := 22) dX0_list_34 rfl rfl (by decide) ?_
  show q_K _ (q_sX (q_up (q_up (q_up (q_up (q_up (q_up (q_up (q_up (q_up (q_up (q_up (q_up uXI8 63 16 (-1)) 62 17 (-1)) 63 17 (-1)) 62 18 (-1)) 63 18 (-1)) 62 19 (-1)) 63 19 (-1)) 62 20 (-1)) 63 20 (-1)) 62 21 (-1)) 63 21 (-1)) 62 22 (-1)) zJ1) _ _ _ _ _ _
  refine q_aload_n dX0_list_35 rfl ?_
  refine q_getR (c := 0) (n := 0) (k := 11) (a := 63) dX0_list_36 rfl (by decide) (by decide) fX0_21 rfl rfl ?_
  refine q_iload_n dX0_list_39 rfl ?_
  refine q_ic (v := (-1)) dX0_list_40 rfl ?_
  refine q_iast (n := 40) (j := 22) dX0_list_41 rfl rfl (by decide) ?_
  show q_K _ (q_sX (q_up (q_up (q_up (q_up (q_up (q_up (q_up (q_up (q_up (q_up (q_up (q_up (q_up uXI8 63 16 (-1)) 62 17 (-1)) 63 17 (-1)) 62 18 (-1)) 63 18 (-1)) 62 19 (-1)) 63 19 (-1)) 62 20 (-1)) 63 20 (-1)) 62 21 (-1)) 63 21 (-1)) 62 22 (-1)) 63 22 (-1)) zJ1) _ _ _ _ _ _
  refine q_inc (v := 1) dX0_list_42 rfl (Nat.le_of_ble_eq_true rfl) rfl ?_
  refine q_goto (tgt := 22) dX0_list_45 (by decide) ?_
  refine q_iload_n dX0_list_22 rfl ?_
  refine q_bi (v := 40) dX0_list_23 rfl ?_
  refine q_cz_ge (tgt := 48) (a := 23) (b := 40) dX0_list_25 (by decide) rfl rfl (fun h => absurd h (by decide)) (fun _ => ?_)
  refine q_aload_n dX0_list_28 rfl ?_
  refine q_getR (c := 0) (n := 0) (k := 10) (a := 62) dX0_list_29 rfl (by decide) (by decide) fX0_18 rfl rfl ?_
  refine q_iload_n dX0_list_32 rfl ?_
  refine q_ic (v := (-1)) dX0_list_33 rfl ?_
  refine q_iast (n := 40) (j := 23) dX0_list_34 rfl rfl (by decide) ?_
  show q_K _ (q_sX (q_up (q_up (q_up (q_up (q_up (q_up (q_up (q_up (q_up (q_up (q_up (q_up (q_up (q_up uXI8 63 16 (-1)) 62 17 (-1)) 63 17 (-1)) 62 18 (-1)) 63 18 (-1)) 62 19 (-1)) 63 19 (-1)) 62 20 (-1)) 63 20 (-1)) 62 21 (-1)) 63 21 (-1)) 62 22 (-1)) 63 22 (-1)) 62 23 (-1)) zJ1) _ _ _ _ _ _
  refine q_aload_n dX0_list_35 rfl ?_
  refine q_getR (c := 0) (n := 0) (k := 11) (a := 63) dX0_list_36 rfl (by decide) (by decide) fX0_21 rfl rfl ?_
  refine q_iload_n dX0_list_39 rfl ?_
  refine q_ic (v := (-1)) dX0_list_40 rfl ?_
  refine q_iast (n := 40) (j := 23) dX0_list_41 rfl rfl (by decide) ?_
  show q_K _ (q_sX (q_up (q_up (q_up (q_up (q_up (q_up (q_up (q_up (q_up (q_up (q_up (q_up (q_up (q_up (q_up uXI8 63 16 (-1)) 62 17 (-1)) 63 17 (-1)) 62 18 (-1)) 63 18 (-1)) 62 19 (-1)) 63 19 (-1)) 62 20 (-1)) 63 20 (-1)) 62 21 (-1)) 63 21 (-1)) 62 22 (-1)) 63 22 (-1)) 62 23 (-1)) 63 23 (-1)) zJ1) _ _ _ _ _ _
  refine q_inc (v := 1) dX0_list_42 rfl (Nat.le_of_ble_eq_true rfl) rfl ?_
  refine q_goto (tgt := 22) dX0_list_45 (by decide) ?_
  refine q_iload_n dX0_list_22 rfl ?_
  refine q_bi (v := 40) dX0_list_23 rfl ?_
  refine q_cz_ge (tgt := 48) (a := 24) (b := 40) dX0_list_25 (by decide) rfl rfl (fun h => absurd h (by decide)) (fun _ => ?_)
  refine q_aload_n dX0_list_28 rfl ?_
  refine q_getR (c := 0) (n := 0) (k := 10) (a := 62) dX0_list_29 rfl (by decide) (by decide) fX0_18 rfl rfl ?_
  refine q_iload_n dX0_list_32 rfl ?_
  refine q_ic (v := (-1)) dX0_list_33 rfl ?_
  refine q_iast (n := 40) (j := 24) dX0_list_34 rfl rfl (by decide) ?_
  show q_K _ (q_sX (q_up (q_up (q_up (q_up (q_up (q_up (q_up (q_up (q_up (q_up (q_up (q_up (q_up (q_up (q_up (q_up uXI8 63 16 (-1)) 62 17 (-1)) 63 17 (-1)) 62 18 (-1)) 63 18 (-1)) 62 19 (-1)) 63 19 (-1)) 62 20 (-1)) 63 20 (-1)) 62 21 (-1)) 63 21 (-1)) 62 22 (-1)) 63 22 (-1)) 62 23 (-1)) 63 23 (-1)) 62 24 (-1)) zJ1) _ _ _ _ _ _
  refine q_aload_n dX0_list_35 rfl ?_
  refine q_getR (c := 0) (n := 0) (k := 11) (a := 63) dX0_list_36 rfl (by decide) (by decide) fX0_21 rfl rfl ?_
  refine q_iload_n dX0_list_39 rfl ?_
  refine q_ic (v := (-1)) dX0_list_40 rfl ?_
  refine q_iast (n := 40) (j := 24) dX0_list_41 rfl rfl (by decide) ?_
  show q_K _ (q_sX (q_up (q_up (q_up (q_up (q_up (q_up (q_up (q_up (q_up (q_up (q_up (q_up (q_up (q_up (q_up (q_up (q_up uXI8 63 16 (-1)) 62 17 (-1)) 63 17 (-1)) 62 18 (-1)) 63 18 (-1)) 62 19 (-1)) 63 19 (-1)) 62 20 (-1)) 63 20 (-1)) 62 21 (-1)) 63 21 (-1)) 62 22 (-1)) 63 22 (-1)) 62 23 (-1)) 63 23 (-1)) 62 24 (-1)) 63 24 (-1)) zJ1) _ _ _ _ _ _
  refine q_inc (v := 1) dX0_list_42 rfl (Nat.le_of_ble_eq_true rfl) rfl ?_
  refine q_goto (tgt := 22) dX0_list_45 (by decide) ?_
  refine q_iload_n dX0_list_22 rfl ?_
  refine q_bi (v := 40) dX0_list_23 rfl ?_
  refine q_cz_ge (tgt := 48) (a := 25) (b := 40) dX0_list_25 (by decide) rfl rfl (fun h => absurd h (by decide)) (fun _ => ?_)
  refine q_aload_n dX0_list_28 rfl ?_
  refine q_getR (c := 0) (n := 0) (k := 10) (a := 62) dX0_list_29 rfl (by decide) (by decide) fX0_18 rfl rfl ?_
  refine q_iload_n dX0_list_32 rfl ?_
  refine q_ic (v := (-1)) dX0_list_33 rfl ?_
  refine q_iast (n := 40) (j := 25) dX0_list_34 rfl rfl (by decide) ?_
  show q_K _ (q_sX (q_up (q_up (q_up (q_up (q_up (q_up (q_up (q_up (q_up (q_up (q_up (q_up (q_up (q_up (q_up (q_up (q_up (q_up uXI8 63 16 (-1)) 62 17 (-1)) 63 17 (-1)) 62 18 (-1)) 63 18 (-1)) 62 19 (-1)) 63 19 (-1)) 62 20 (-1)) 63 20 (-1)) 62 21 (-1)) 63 21 (-1)) 62 22 (-1)) 63 22 (-1)) 62 23 (-1)) 63 23 (-1)) 62 24 (-1)) 63 24 (-1)) 62 25 (-1)) zJ1) _ _ _ _ _ _
  refine q_aload_n dX0_list_35 rfl ?_
  refine q_getR (c := 0) (n := 0) (k := 11) (a := 63) dX0_list_36 rfl (by decide) (by decide) fX0_21 rfl rfl ?_
  refine q_iload_n dX0_list_39 rfl ?_
  refine q_ic (v := (-1)) dX0_list_40 rfl ?_
  refine q_iast (n := 40) (j := 25) dX0_list_41 rfl rfl (by decide) ?_
  show q_K _ (q_sX (q_up (q_up (q_up (q_up (q_up (q_up (q_up (q_up (q_up (q_up (q_up (q_up (q_up (q_up (q_up (q_up (q_up (q_up (q_up uXI8 63 16 (-1)) 62 17 (-1)) 63 17 (-1)) 62 18 (-1)) 63 18 (-1)) 62 19 (-1)) 63 19 (-1)) 62 20 (-1)) 63 20 (-1)) 62 21 (-1)) 63 21 (-1)) 62 22 (-1)) 63 22 (-1)) 62 23 (-1)) 63 23 (-1)) 62 24 (-1)) 63 24 (-1)) 62 25 (-1)) 63 25 (-1)) zJ1) _ _ _ _ _ _
  refine q_inc (v := 1) dX0_list_42 rfl (Nat.le_of_ble_eq_true rfl) rfl ?_
  refine q_goto (tgt := 22) dX0_list_45 (by decide) ?_
  refine q_iload_n dX0_list_22 rfl ?_
  refine q_bi (v := 40) dX0_list_23 rfl ?_
  refine q_cz_ge (tgt := 48) (a := 26) (b := 40) dX0_list_25 (by decide) rfl rfl (fun h => absurd h (by decide)) (fun _ => ?_)
  refine q_aload_n dX0_list_28 rfl ?_
  refine q_getR (c := 0) (n := 0) (k := 10) (a := 62) dX0_list_29 rfl (by decide) (by decide) fX0_18 rfl rfl ?_
  refine q_iload_n dX0_list_32 rfl ?_
  refine q_ic (v := (-1)) dX0_list_33 rfl ?_
  refine q_iast (n := 40) (j := 26) dX0_list_34 rfl rfl (by decide) ?_
  show q_K _ (q_sX (q_up (q_up (q_up (q_up (q_up (q_up (q_up (q_up (q_up (q_up (q_up (q_up (q_up (q_up (q_up (q_up (q_up (q_up (q_up (q_up uXI8 63 16 (-1)) 62 17 (-1)) 63 17 (-1)) 62 18 (-1)) 63 18 (-1)) 62 19 (-1)) 63 19 (-1)) 62 20 (-1)) 63 20 (-1)) 62 21 (-1)) 63 21 (-1)) 62 22 (-1)) 63 22 (-1)) 62 23 (-1)) 63 23 (-1)) 62 24 (-1)) 63 24 (-1)) 62 25 (-1)) 63 25 (-1)) 62 26 (-1)) zJ1) _ _ _ _ _ _
  refine q_aload_n dX0_list_35 rfl ?_
  refine q_getR (c := 0) (n := 0) (k := 11) (a := 63) dX0_list_36 rfl (by decide) (by decide) fX0_21 rfl rfl ?_
  refine q_iload_n dX0_list_39 rfl ?_
  refine q_ic (v := (-1)) dX0_list_40 rfl ?_
  refine q_iast (n := 40) (j := 26) dX0_list_41 rfl rfl (by decide) ?_
  show q_K _ (q_sX (q_up (q_up (q_up (q_up (q_up (q_up (q_up (q_up (q_up (q_up (q_up (q_up (q_up (q_up (q_up (q_up (q_up (q_up (q_up (q_up (q_up uXI8 63 16 (-1)) 62 17 (-1)) 63 17 (-1)) 62 18 (-1)) 63 18 (-1)) 62 19 (-1)) 63 19 (-1)) 62 20 (-1)) 63 20 (-1)) 62 21 (-1)) 63 21 (-1)) 62 22 (-1)) 63 22 (-1)) 62 23 (-1)) 63 23 (-1)) 62 24 (-1)) 63 24 (-1)) 62 25 (-1)) 63 25 (-1)) 62 26 (-1)) 63 26 (-1)) zJ1) _ _ _ _ _ _
  refine q_inc (v := 1) dX0_list_42 rfl (Nat.le_of_ble_eq_true rfl) rfl ?_
  refine q_goto (tgt := 22) dX0_list_45 (by decide) ?_
  refine q_iload_n dX0_list_22 rfl ?_
  refine q_bi (v := 40) dX0_list_23 rfl ?_
  refine q_cz_ge (tgt := 48) (a := 27) (b := 40) dX0_list_25 (by decide) rfl rfl (fun h => absurd h (by decide)) (fun _ => ?_)
  refine q_aload_n dX0_list_28 rfl ?_
  refine q_getR (c := 0) (n := 0) (k := 10) (a := 62) dX0_list_29 rfl (by decide) (by decide) fX0_18 rfl rfl ?_
  refine q_iload_n dX0_list_32 rfl ?_
  refine q_ic (v := (-1)) dX0_list_33 rfl ?_
  refine q_iast (n := 40) (j := 27) dX0_list_34 rfl rfl (by decide) ?_
  show q_K _ (q_sX (q_up (q_up (q_up (q_up (q_up (q_up (q_up (q_up (q_up (q_up (q_up (q_up (q_up (q_up (q_up (q_up (q_up (q_up (q_up (q_up (q_up (q_up uXI8 63 16 (-1)) 62 17 (-1)) 63 17 (-1)) 62 18 (-1)) 63 18 (-1)) 62 19 (-1)) 63 19 (-1)) 62 20 (-1)) 63 20 (-1)) 62 21 (-1)) 63 21 (-1)) 62 22 (-1)) 63 22 (-1)) 62 23 (-1)) 63 23 (-1)) 62 24 (-1)) 63 24 (-1)) 62 25 (-1)) 63 25 (-1)) 62 26 (-1)) 63 26 (-1)) 62 27 (-1)) zJ1) _ _ _ _ _ _
  refine q_aload_n dX0_list_35 rfl ?_
  refine q_getR (c := 0) (n := 0) (k := 11) (a := 63) dX0_list_36 rfl (by decide) (by decide) fX0_21 rfl rfl ?_
  refine q_iload_n dX0_list_39 rfl ?_
  refine q_ic (v := (-1)) dX0_list_40 rfl ?_
  refine q_iast (n := 40) (j := 27) dX0_list_41 rfl rfl (by decide) ?_
  show q_K _ (q_sX (q_up (q_up (q_up (q_up (q_up (q_up (q_up (q_up (q_up (q_up (q_up (q_up (q_up (q_up (q_up (q_up (q_up (q_up (q_up (q_up (q_up (q_up (q_up uXI8 63 16 (-1)) 62 17 (-1)) 63 17 (-1)) 62 18 (-1)) 63 18 (-1)) 62 19 (-1)) 63 19 (-1)) 62 20 (-1)) 63 20 (-1)) 62 21 (-1)) 63 21 (-1)) 62 22 (-1)) 63 22 (-1)) 62 23 (-1)) 63 23 (-1)) 62 24 (-1)) 63 24 (-1)) 62 25 (-1)) 63 25 (-1)) 62 26 (-1)) 63 26 (-1)) 62 27 (-1)) 63 27 (-1)) zJ1) _ _ _ _ _ _
  refine q_inc (v := 1) dX0_list_42 rfl (Nat.le_of_ble_eq_true rfl) rfl ?_
  refine q_goto (tgt := 22) dX0_list_45 (by decide) ?_
  refine q_iload_n dX0_list_22 rfl ?_
  refine q_bi (v := 40) dX0_list_23 rfl ?_
  refine q_cz_ge (tgt := 48) (a := 28) (b := 40) dX0_list_25 (by decide) rfl rfl (fun h => absurd h (by decide)) (fun _ => ?_)
  refine q_aload_n dX0_list_28 rfl ?_
  refine q_getR (c := 0) (n := 0) (k := 10) (a := 62) dX0_list_29 rfl (by decide) (by decide) fX0_18 rfl rfl ?_
  refine q_iload_n dX0_list_32 rfl ?_
  refine q_ic (v := (-1)) dX0_list_33 rfl ?_
  refine q_iast (n := 40) (j := 28) dX0_list_34 rfl rfl (by decide) ?_
  show q_K _ (q_sX uXI9 zJ1) _ _ _ _ _ _
  refine q_aload_n dX0_list_35 rfl ?_
  refine q_getR (c := 0) (n := 0) (k := 11) (a := 63) dX0_list_36 rfl (by decide) (by decide) fX0_21 rfl rfl ?_
  refine q_iload_n dX0_list_39 rfl ?_
  refine q_ic (v := (-1)) dX0_list_40 rfl ?_
  refine q_iast (n := 40) (j := 28) dX0_list_41 rfl rfl (by decide) ?_
  show q_K _ (q_sX (q_up uXI9 63 28 (-1)) zJ1) _ _ _ _ _ _
  refine q_inc (v := 1) dX0_list_42 rfl (Nat.le_of_ble_eq_true rfl) rfl ?_
  refine q_goto (tgt := 22) dX0_list_45 (by decide) ?_
  refine q_iload_n dX0_list_22 rfl ?_
  refine q_bi (v := 40) dX0_list_23 rfl ?_
  refine q_cz_ge (tgt := 48) (a := 29) (b := 40) dX0_list_25 (by decide) rfl rfl (fun h => absurd h (by decide)) (fun _ => ?_)
  refine q_aload_n dX0_list_28 rfl ?_
  refine q_getR (c := 0) (n := 0) (k := 10) (a := 62) dX0_list_29 rfl (by decide) (by decide) fX0_18 rfl rfl ?_
  refine q_iload_n dX0_list_32 rfl ?_
  refine q_ic (v := (-1)) dX0_list_33 rfl ?_
  refine q_iast (n := 40) (j := 29) dX0_list_34 rfl rfl (by decide) ?_
  show q_K _ (q_sX (q_up (q_up uXI9 63 28 (-1)) 62 29 (-1)) zJ1) _ _ _ _ _ _
  refine q_aload_n dX0_list_35 rfl ?_
  refine q_getR (c := 0) (n := 0) (k := 11) (a := 63) dX0_list_36 rfl (by decide) (by decide) fX0_21 rfl rfl ?_
  refine q_iload_n dX0_list_39 rfl ?_
  refine q_ic (v := (-1)) dX0_list_40 rfl ?_
  refine q_iast (n := 40) (j := 29) dX0_list_41 rfl rfl (by decide) ?_
  show q_K _ (q_sX (q_up (q_up (q_up uXI9 63 28 (-1)) 62 29 (-1)) 63 29 (-1)) zJ1) _ _ _ _ _ _
  refine q_inc (v := 1) dX0_list_42 rfl (Nat.le_of_ble_eq_true rfl) rfl ?_
  refine q_goto (tgt := 22) dX0_list_45 (by decide) ?_
  refine q_iload_n dX0_list_22 rfl ?_
  refine q_bi (v := 40) dX0_list_23 rfl ?_
  refine q_cz_ge (tgt := 48) (a := 30) (b := 40) dX0_list_25 (by decide) rfl rfl (fun h => absurd h (by decide)) (fun _ => ?_)
  refine q_aload_n dX0_list_28 rfl ?_
  refine q_getR (c := 0) (n := 0) (k := 10) (a := 62) dX0_list_29 rfl (by decide) (by decide) fX0_18 rfl rfl ?_
  refine q_iload_n dX0_list_32 rfl ?_
  refine q_ic (v := (-1)) dX0_list_33 rfl ?_
  refine q_iast (n := 40) (j := 30) dX0_list_34 rfl rfl (by decide) ?_
  show q_K _ (q_sX (q_up (q_up (q_up (q_up uXI9 63 28 (-1)) 62 29 (-1)) 63 29 (-1)) 62 30 (-1)) zJ1) _ _ _ _ _ _
  refine q_aload_n dX0_list_35 rfl ?_
  refine q_getR (c := 0) (n := 0) (k := 11) (a := 63) dX0_list_36 rfl (by decide) (by decide) fX0_21 rfl rfl ?_
  refine q_iload_n dX0_list_39 rfl ?_
  refine q_ic (v := (-1)) dX0_list_40 rfl ?_
  refine q_iast (n := 40) (j := 30) dX0_list_41 rfl rfl (by decide) ?_
  show q_K _ (q_sX (q_up (q_up (q_up (q_up (q_up uXI9 63 28 (-1)) 62 29 (-1)) 63 29 (-1)) 62 30 (-1)) 63 30 (-1)) zJ1) _ _ _ _ _ _
  refine q_inc (v := 1) dX0_list_42 rfl (Nat.le_of_ble_eq_true rfl) rfl ?_
  refine q_goto (tgt := 22) dX0_list_45 (by decide) ?_
  refine q_iload_n dX0_list_22 rfl ?_
  refine q_bi (v := 40) dX0_list_23 rfl ?_
  refine q_cz_ge (tgt := 48) (a := 31) (b := 40) dX0_list_25 (by decide) rfl rfl (fun h => absurd h (by decide)) (fun _ => ?_)
  refine q_aload_n dX0_list_28 rfl ?_
  refine q_getR (c := 0) (n := 0) (k := 10) (a := 62) dX0_list_29 rfl (by decide) (by decide) fX0_18 rfl rfl ?_
  refine q_iload_n dX0_list_32 rfl ?_
  refine q_ic (v := (-1)) dX0_list_33 rfl ?_
  refine q_iast (n := 40) (j := 31) dX0_list_34 rfl rfl (by decide) ?_
  show q_K _ (q_sX (q_up (q_up (q_up (q_up (q_up (q_up uXI9 63 28 (-1)) 62 29 (-1)) 63 29 (-1)) 62 30 (-1)) 63 30 (-1)) 62 31 (-1)) zJ1) _ _ _ _ _ _
  refine q_aload_n dX0_list_35 rfl ?_
  refine q_getR (c := 0) (n := 0) (k := 11) (a := 63) dX0_list_36 rfl (by decide) (by decide) fX0_21 rfl rfl ?_
  refine q_iload_n dX0_list_39 rfl ?_
  refine q_ic (v := (-1)) dX0_list_40 rfl ?_
  refine q_iast (n := 40) (j := 31) dX0_list_41 rfl rfl (by decide) ?_
  show q_K _ (q_sX (q_up (q_up (q_up (q_up (q_up (q_up (q_up uXI9 63 28 (-1)) 62 29 (-1)) 63 29 (-1)) 62 30 (-1)) 63 30 (-1)) 62 31 (-1)) 63 31 (-1)) zJ1) _ _ _ _ _ _
  refine q_inc (v := 1) dX0_list_42 rfl (Nat.le_of_ble_eq_true rfl) rfl ?_
  refine q_goto (tgt := 22) dX0_list_45 (by decide) ?_
  refine q_iload_n dX0_list_22 rfl ?_
  refine q_bi (v := 40) dX0_list_23 rfl ?_
  refine q_cz_ge (tgt := 48) (a := 32) (b := 40) dX0_list_25 (by decide) rfl rfl (fun h => absurd h (by decide)) (fun _ => ?_)
  refine q_aload_n dX0_list_28 rfl ?_
  refine q_getR (c := 0) (n := 0) (k := 10) (a := 62) dX0_list_29 rfl (by decide) (by decide) fX0_18 rfl rfl ?_
  refine q_iload_n dX0_list_32 rfl ?_
  refine q_ic (v := (-1)) dX0_list_33 rfl ?_
  refine q_iast (n := 40) (j := 32) dX0_list_34 rfl rfl (by decide) ?_
  show q_K _ (q_sX (q_up (q_up (q_up (q_up (q_up (q_up (q_up (q_up uXI9 63 28 (-1)) 62 29 (-1)) 63 29 (-1)) 62 30 (-1)) 63 30 (-1)) 62 31 (-1)) 63 31 (-1)) 62 32 (-1)) zJ1) _ _ _ _ _ _
  refine q_aload_n dX0_list_35 rfl ?_
  refine q_getR (c := 0) (n := 0) (k := 11) (a := 63) dX0_list_36 rfl (by decide) (by decide) fX0_21 rfl rfl ?_
  refine q_iload_n dX0_list_39 rfl ?_
  refine q_ic (v := (-1)) dX0_list_40 rfl ?_
  refine q_iast (n := 40) (j := 32) dX0_list_41 rfl rfl (by decide) ?_
  show q_K _ (q_sX (q_up (q_up (q_up (q_up (q_up (q_up (q_up (q_up (q_up uXI9 63 28 (-1)) 62 29 (-1)) 63 29 (-1)) 62 30 (-1)) 63 30 (-1)) 62 31 (-1)) 63 31 (-1)) 62 32 (-1)) 63 32 (-1)) zJ1) _ _ _ _ _ _
  refine q_inc (v := 1) dX0_list_42 rfl (Nat.le_of_ble_eq_true rfl) rfl ?_
  refine q_goto (tgt := 22) dX0_list_45 (by decide) ?_
  refine q_iload_n dX0_list_22 rfl ?_
  refine q_bi (v := 40) dX0_list_23 rfl ?_
  refine q_cz_ge (tgt := 48) (a := 33) (b := 40) dX0_list_25 (by decide) rfl rfl (fun h => absurd h (by decide)) (fun _ => ?_)
  refine q_aload_n dX0_list_28 rfl ?_
  refine q_getR (c := 0) (n := 0) (k := 10) (a := 62) dX0_list_29 rfl (by decide) (by decide) fX0_18 rfl rfl ?_
  refine q_iload_n dX0_list_32 rfl ?_
  refine q_ic (v := (-1)) dX0_list_33 rfl ?_
  refine q_iast (n := 40) (j := 33) dX0_list_34 rfl rfl (by decide) ?_
  show q_K _ (q_sX (q_up (q_up (q_up (q_up (q_up (q_up (q_up (q_up (q_up (q_up uXI9 63 28 (-1)) 62 29 (-1)) 63 29 (-1)) 62 30 (-1)) 63 30 (-1)) 62 31 (-1)) 63 31 (-1)) 62 32 (-1)) 63 32 (-1)) 62 33 (-1)) zJ1) _ _ _ _ _ _
  refine q_aload_n dX0_list_35 rfl ?_
  refine q_getR (c := 0) (n := 0) (k := 11) (a := 63) dX0_list_36 rfl (by decide) (by decide) fX0_21 rfl rfl ?_
  refine q_iload_n dX0_list_39 rfl ?_
  refine q_ic (v := (-1)) dX0_list_40 rfl ?_
  refine q_iast (n := 40) (j := 33) dX0_list_41 rfl rfl (by decide) ?_
  show q_K _ (q_sX (q_up (q_up (q_up (q_up (q_up (q_up (q_up (q_up (q_up (q_up (q_up uXI9 63 28 (-1)) 62 29 (-1)) 63 29 (-1)) 62 30 (-1)) 63 30 (-1)) 62 31 (-1)) 63 31 (-1)) 62 32 (-1)) 63 32 (-1)) 62 33 (-1)) 63 33 (-1)) zJ1) _ _ _ _ _ _
  refine q_inc (v := 1) dX0_list_42 rfl (Nat.le_of_ble_eq_true rfl) rfl ?_
  refine q_goto (tgt := 22) dX0_list_45 (by decide) ?_
  refine q_iload_n dX0_list_22 rfl ?_
  refine q_bi (v := 40) dX0_list_23 rfl ?_
  refine q_cz_ge (tgt := 48) (a := 34) (b := 40) dX0_list_25 (by decide) rfl rfl (fun h => absurd h (by decide)) (fun _ => ?_)
  refine q_aload_n dX0_list_28 rfl ?_
  refine q_getR (c := 0) (n := 0) (k := 10) (a := 62) dX0_list_29 rfl (by decide) (by decide) fX0_18 rfl rfl ?_
  refine q_iload_n dX0_list_32 rfl ?_
  refine q_ic (v := (-1)) dX0_list_33 rfl ?_
  refine q_iast (n := 40) (j := 34) dX0_list_34 rfl rfl (by decide) ?_
  show q_K _ (q_sX (q_up (q_up (q_up (q_up (q_up (q_up (q_up (q_up (q_up (q_up (q_up (q_up uXI9 63 28 (-1)) 62 29 (-1)) 63 29 (-1)) 62 30 (-1)) 63 30 (-1)) 62 31 (-1)) 63 31 (-1)) 62 32 (-1)) 63 32 (-1)) 62 33 (-1)) 63 33 (-1)) 62 34 (-1)) zJ1) _ _ _ _ _ _
  refine q_aload_n dX0_list_35 rfl ?_
  refine q_getR (c := 0) (n := 0) (k := 11) (a := 63) dX0_list_36 rfl (by decide) (by decide) fX0_21 rfl rfl ?_
  refine q_iload_n dX0_list_39 rfl ?_
  refine q_ic (v := (-1)) dX0_list_40 rfl ?_
  refine q_iast (n := 40) (j := 34) dX0_list_41 rfl rfl (by decide) ?_
  show q_K _ (q_sX (q_up (q_up (q_up (q_up (q_up (q_up (q_up (q_up (q_up (q_up (q_up (q_up (q_up uXI9 63 28 (-1)) 62 29 (-1)) 63 29 (-1)) 62 30 (-1)) 63 30 (-1)) 62 31 (-1)) 63 31 (-1)) 62 32 (-1)) 63 32 (-1)) 62 33 (-1)) 63 33 (-1)) 62 34 (-1)) 63 34 (-1)) zJ1) _ _ _ _ _ _
  refine q_inc (v := 1) dX0_list_42 rfl (Nat.le_of_ble_eq_true rfl) rfl ?_
  refine q_goto (tgt := 22) dX0_list_45 (by decide) ?_
  refine q_iload_n dX0_list_22 rfl ?_
  refine q_bi (v := 40) dX0_list_23 rfl ?_
  refine q_cz_ge (tgt := 48) (a := 35) (b := 40) dX0_list_25 (by decide) rfl rfl (fun h => absurd h (by decide)) (fun _ => ?_)
  refine q_aload_n dX0_list_28 rfl ?_
  refine q_getR (c := 0) (n := 0) (k := 10) (a := 62) dX0_list_29 rfl (by decide) (by decide) fX0_18 rfl rfl ?_
  refine q_iload_n dX0_list_32 rfl ?_
  refine q_ic (v := (-1)) dX0_list_33 rfl ?_
  refine q_iast (n := 40) (j := 35) dX0_list_34 rfl rfl (by decide) ?_
  show q_K _ (q_sX (q_up (q_up (q_up (q_up (q_up (q_up (q_up (q_up (q_up (q_up (q_up (q_up (q_up (q_up uXI9 63 28 (-1)) 62 29 (-1)) 63 29 (-1)) 62 30 (-1)) 63 30 (-1)) 62 31 (-1)) 63 31 (-1)) 62 32 (-1)) 63 32 (-1)) 62 33 (-1)) 63 33 (-1)) 62 34 (-1)) 63 34 (-1)) 62 35 (-1)) zJ1) _ _ _ _ _ _
  refine q_aload_n dX0_list_35 rfl ?_
  refine q_getR (c := 0) (n := 0) (k := 11) (a := 63) dX0_list_36 rfl (by decide) (by decide) fX0_21 rfl rfl ?_
  refine q_iload_n dX0_list_39 rfl ?_
  refine q_ic (v := (-1)) dX0_list_40 rfl ?_
  refine q_iast (n := 40) (j := 35) dX0_list_41 rfl rfl (by decide) ?_
  show q_K _ (q_sX (q_up (q_up (q_up (q_up (q_up (q_up (q_up (q_up (q_up (q_up (q_up (q_up (q_up (q_up (q_up uXI9 63 28 (-1)) 62 29 (-1)) 63 29 (-1)) 62 30 (-1)) 63 30 (-1)) 62 31 (-1)) 63 31 (-1)) 62 32 (-1)) 63 32 (-1)) 62 33 (-1)) 63 33 (-1)) 62 34 (-1)) 63 34 (-1)) 62 35 (-1)) 63 35 (-1)) zJ1) _ _ _ _ _ _
  refine q_inc (v := 1) dX0_list_42 rfl (Nat.le_of_ble_eq_true rfl) rfl ?_
  refine q_goto (tgt := 22) dX0_list_45 (by decide) ?_
  refine q_iload_n dX0_list_22 rfl ?_
  refine q_bi (v := 40) dX0_list_23 rfl ?_
  refine q_cz_ge (tgt := 48) (a := 36) (b := 40) dX0_list_25 (by decide) rfl rfl (fun h => absurd h (by decide)) (fun _ => ?_)
  refine q_aload_n dX0_list_28 rfl ?_
  refine q_getR (c := 0) (n := 0) (k := 10) (a := 62) dX0_list_29 rfl (by decide) (by decide) fX0_18 rfl rfl ?_
  refine q_iload_n dX0_list_32 rfl ?_
  refine q_ic (v := (-1)) dX0_list_33 rfl ?_
  refine q_iast (n := 40) (j := 36) dX0_list_34 rfl rfl (by decide) ?_
  show q_K _ (q_sX (q_up (q_up (q_up (q_up (q_up (q_up (q_up (q_up (q_up (q_up (q_up (q_up (q_up (q_up (q_up (q_up uXI9 63 28 (-1)) 62 29 (-1)) 63 29 (-1)) 62 30 (-1)) 63 30 (-1)) 62 31 (-1)) 63 31 (-1)) 62 32 (-1)) 63 32 (-1)) 62 33 (-1)) 63 33 (-1)) 62 34 (-1)) 63 34 (-1)) 62 35 (-1)) 63 35 (-1)) 62 36 (-1)) zJ1) _ _ _ _ _ _
  refine q_aload_n dX0_list_35 rfl ?_
  refine q_getR (c := 0) (n := 0) (k := 11) (a := 63) dX0_list_36 rfl (by decide) (by decide) fX0_21 rfl rfl ?_
  refine q_iload_n dX0_list_39 rfl ?_
  refine q_ic (v := (-1)) dX0_list_40 rfl ?_
  refine q_iast (n := 40) (j := 36) dX0_list_41 rfl rfl (by decide) ?_
  show q_K _ (q_sX (q_up (q_up (q_up (q_up (q_up (q_up (q_up (q_up (q_up (q_up (q_up (q_up (q_up (q_up (q_up (q_up (q_up uXI9 63 28 (-1)) 62 29 (-1)) 63 29 (-1)) 62 30 (-1)) 63 30 (-1)) 62 31 (-1)) 63 31 (-1)) 62 32 (-1)) 63 32 (-1)) 62 33 (-1)) 63 33 (-1)) 62 34 (-1)) 63 34 (-1)) 62 35 (-1)) 63 35 (-1)) 62 36 (-1)) 63 36 (-1)) zJ1) _ _ _ _ _ _
  refine q_inc (v := 1) dX0_list_42 rfl (Nat.le_of_ble_eq_true rfl) rfl ?_
  refine q_goto (tgt := 22) dX0_list_45 (by decide) ?_
  refine q_iload_n dX0_list_22 rfl ?_
  refine q_bi (v := 40) dX0_list_23 rfl ?_
  refine q_cz_ge (tgt := 48) (a := 37) (b := 40) dX0_list_25 (by decide) rfl rfl (fun h => absurd h (by decide)) (fun _ => ?_)
  refine q_aload_n dX0_list_28 rfl ?_
  refine q_getR (c := 0) (n := 0) (k := 10) (a := 62) dX0_list_29 rfl (by decide) (by decide) fX0_18 rfl rfl ?_
  refine q_iload_n dX0_list_32 rfl ?_
  refine q_ic (v := (-1)) dX0_list_33 rfl ?_
  refine q_iast (n := 40) (j := 37) dX0_list_34 rfl rfl (by decide) ?_
  show q_K _ (q_sX (q_up (q_up (q_up (q_up (q_up (q_up (q_up (q_up (q_up (q_up (q_up (q_up (q_up (q_up (q_up (q_up (q_up (q_up uXI9 63 28 (-1)) 62 29 (-1)) 63 29 (-1)) 62 30 (-1)) 63 30 (-1)) 62 31 (-1)) 63 31 (-1)) 62 32 (-1)) 63 32 (-1)) 62 33 (-1)) 63 33 (-1)) 62 34 (-1)) 63 34 (-1)) 62 35 (-1)) 63 35 (-1)) 62 36 (-1)) 63 36 (-1)) 62 37 (-1)) zJ1) _ _ _ _ _ _
  refine q_aload_n dX0_list_35 rfl ?_
  refine q_getR (c := 0) (n := 0) (k := 11) (a := 63) dX0_list_36 rfl (by decide) (by decide) fX0_21 rfl rfl ?_
  refine q_iload_n dX0_list_39 rfl ?_
  refine q_ic (v := (-1)) dX0_list_40 rfl ?_
  refine q_iast (n := 40) (j := 37) dX0_list_41 rfl rfl (by decide) ?_
  show q_K _ (q_sX (q_up (q_up (q_up (q_up (q_up (q_up (q_up (q_up (q_up (q_up (q_up (q_up (q_up (q_up (q_up (q_up (q_up (q_up (q_up uXI9 63 28 (-1)) 62 29 (-1)) 63 29 (-1)) 62 30 (-1)) 63 30 (-1)) 62 31 (-1)) 63 31 (-1)) 62 32 (-1)) 63 32 (-1)) 62 33 (-1)) 63 33 (-1)) 62 34 (-1)) 63 34 (-1)) 62 35 (-1)) 63 35 (-1)) 62 36 (-1)) 63 36 (-1)) 62 37 (-1)) 63 37 (-1)) zJ1) _ _ _ _ _ _
  refine q_inc (v := 1) dX0_list_42 rfl (Nat.le_of_ble_eq_true rfl) rfl ?_
  refine q_goto (tgt := 22) dX0_list_45 (by decide) ?_
  refine q_iload_n dX0_list_22 rfl ?_
  refine q_bi (v := 40) dX0_list_23 rfl ?_
  refine q_cz_ge (tgt := 48) (a := 38) (b := 40) dX0_list_25 (by decide) rfl rfl (fun h => absurd h (by decide)) (fun _ => ?_)
  refine q_aload_n dX0_list_28 rfl ?_
  refine q_getR (c := 0) (n := 0) (k := 10) (a := 62) dX0_list_29 rfl (by decide) (by decide) fX0_18 rfl rfl ?_
  refine q_iload_n dX0_list_32 rfl ?_
  refine q_ic (v := (-1)) dX0_list_33 rfl ?_
  refine q_iast (n := 40) (j := 38) dX0_list_34 rfl rfl (by decide) ?_
  show q_K _ (q_sX (q_up (q_up (q_up (q_up (q_up (q_up (q_up (q_up (q_up (q_up (q_up (q_up (q_up (q_up (q_up (q_up (q_up (q_up (q_up (q_up uXI9 63 28 (-1)) 62 29 (-1)) 63 29 (-1)) 62 30 (-1)) 63 30 (-1)) 62 31 (-1)) 63 31 (-1)) 62 32 (-1)) 63 32 (-1)) 62 33 (-1)) 63 33 (-1)) 62 34 (-1)) 63 34 (-1)) 62 35 (-1)) 63 35 (-1)) 62 36 (-1)) 63 36 (-1)) 62 37 (-1)) 63 37 (-1)) 62 38 (-1)) zJ1) _ _ _ _ _ _
  refine q_aload_n dX0_list_35 rfl ?_
  refine q_getR (c := 0) (n := 0) (k := 11) (a := 63) dX0_list_36 rfl (by decide) (by decide) fX0_21 rfl rfl ?_
  refine q_iload_n dX0_list_39 rfl ?_
  refine q_ic (v := (-1)) dX0_list_40 rfl ?_
  refine q_iast (n := 40) (j := 38) dX0_list_41 rfl rfl (by decide) ?_
  show q_K _ (q_sX (q_up (q_up (q_up (q_up (q_up (q_up (q_up (q_up (q_up (q_up (q_up (q_up (q_up (q_up (q_up (q_up (q_up (q_up (q_up (q_up (q_up uXI9 63 28 (-1)) 62 29 (-1)) 63 29 (-1)) 62 30 (-1)) 63 30 (-1)) 62 31 (-1)) 63 31 (-1)) 62 32 (-1)) 63 32 (-1)) 62 33 (-1)) 63 33 (-1)) 62 34 (-1)) 63 34 (-1)) 62 35 (-1)) 63 35 (-1)) 62 36 (-1)) 63 36 (-1)) 62 37 (-1)) 63 37 (-1)) 62 38 (-1)) 63 38 (-1)) zJ1) _ _ _ _ _ _
  refine q_inc (v := 1) dX0_list_42 rfl (Nat.le_of_ble_eq_true rfl) rfl ?_
  refine q_goto (tgt := 22) dX0_list_45 (by decide) ?_
  refine q_iload_n dX0_list_22 rfl ?_
  refine q_bi (v := 40) dX0_list_23 rfl ?_
  refine q_cz_ge (tgt := 48) (a := 39) (b := 40) dX0_list_25 (by decide) rfl rfl (fun h => absurd h (by decide)) (fun _ => ?_)
  refine q_aload_n dX0_list_28 rfl ?_
  refine q_getR (c := 0) (n := 0) (k := 10) (a := 62) dX0_list_29 rfl (by decide) (by decide) fX0_18 rfl rfl ?_
  refine q_iload_n dX0_list_32 rfl ?_
  refine q_ic (v := (-1)) dX0_list_33 rfl ?_
  refine q_iast (n := 40) (j := 39) dX0_list_34 rfl rfl (by decide) ?_
  show q_K _ (q_sX (q_up (q_up (q_up (q_up (q_up (q_up (q_up (q_up (q_up (q_up (q_up (q_up (q_up (q_up (q_up (q_up (q_up (q_up (q_up (q_up (q_up (q_up uXI9 63 28 (-1)) 62 29 (-1)) 63 29 (-1)) 62 30 (-1)) 63 30 (-1)) 62 31 (-1)) 63 31 (-1)) 62 32 (-1)) 63 32 (-1)) 62 33 (-1)) 63 33 (-1)) 62 34 (-1)) 63 34 (-1)) 62 35 (-1)) 63 35 (-1)) 62 36 (-1)) 63 36 (-1)) 62 37 (-1)) 63 37 (-1)) 62 38 (-1)) 63 38 (-1)) 62 39 (-1)) zJ1) _ _ _ _ _ _
  refine q_aload_n dX0_list_35 rfl ?_
  refine q_getR (c := 0) (n := 0) (k := 11) (a := 63) dX0_list_36 rfl (by decide) (by decide) fX0_21 rfl rfl ?_
  refine q_iload_n dX0_list_39 rfl ?_
  refine q_ic (v := (-1)) dX0_list_40 rfl ?_
  refine q_iast (n := 40) (j := 39) dX0_list_41 rfl rfl (by decide) ?_
  show q_K _ (q_sX (q_up (q_up (q_up (q_up (q_up (q_up (q_up (q_up (q_up (q_up (q_up (q_up (q_up (q_up (q_up (q_up (q_up (q_up (q_up (q_up (q_up (q_up (q_up uXI9 63 28 (-1)) 62 29 (-1)) 63 29 (-1)) 62 30 (-1)) 63 30 (-1)) 62 31 (-1)) 63 31 (-1)) 62 32 (-1)) 63 32 (-1)) 62 33 (-1)) 63 33 (-1)) 62 34 (-1)) 63 34 (-1)) 62 35 (-1)) 63 35 (-1)) 62 36 (-1)) 63 36 (-1)) 62 37 (-1)) 63 37 (-1)) 62 38 (-1)) 63 38 (-1)) 62 39 (-1)) 63 39 (-1)) zJ1) _ _ _ _ _ _
  refine q_inc (v := 1) dX0_list_42 rfl (Nat.le_of_ble_eq_true rfl) rfl ?_
  refine q_goto (tgt := 22) dX0_list_45 (by decide) ?_
  refine q_iload_n dX0_list_22 rfl ?_
  refine q_bi (v := 40) dX0_list_23 rfl ?_
  refine q_cz_ge (tgt := 48) (a := 40) (b := 40) dX0_list_25 (by decide) rfl rfl (fun _ => ?_) (fun h => absurd h (by decide))
  refine q_ic (v := 0) dX0_list_48 rfl ?_
  refine q_istore_n dX0_list_49 (Nat.le_of_ble_eq_true rfl) ?_
  refine q_iload_n dX0_list_50 rfl ?_
  refine q_aload_n dX0_list_51 rfl ?_
  refine q_getR (c := 0) (n := 0) (k := 6) (a := 18) dX0_list_52 rfl (by decide) (by decide) fX0_33 rfl rfl ?_
  refine q_getf (c := 9) (n := 0) (k := 0) (v := .int 0) dX0_list_55 rfl (by decide) (by decide) fX0_55 rfl ?_
  refine q_cz_ge (tgt := 132) (a := 0) (b := 0) dX0_list_58 (by decide) rfl rfl (fun _ => ?_) (fun h => absurd h (by decide))
  show q_K _ (q_sX uXI10 zJ1) _ _ _ _ _ _
  refine q_ret dX0_list_132 rfl ?_
  exact ⟨rfl, rfl⟩
def uXI11 : Nat → Nat → Int32 := q_up uXI10 93 0 0
def uXI12 : Nat → Nat → Int32 := q_up (q_up uXI11 93 1 0) 93 2 0
theorem dX10_goOnWith_0 : decode cX10_goOnWith 0 = .ok (.aload_n 0, 1) := by decide +kernel
theorem dX10_goOnWith_1 : decode cX10_goOnWith 1 = .ok (.getfield 16, 3) := by decide +kernel
theorem dX10_goOnWith_4 : decode cX10_goOnWith 4 = .ok (.aload_n 1, 1) := by decide +kernel
theorem dX10_goOnWith_5 : decode cX10_goOnWith 5 = .ok (.invokevirtual 270, 3) := by decide +kernel
theorem dX10_goOnWith_8 : decode cX10_goOnWith 8 = .ok (.aload_n 0, 1) := by decide +kernel
theorem dX10_goOnWith_9 : decode cX10_goOnWith 9 = .ok (.getfield 95, 3) := by decide +kernel
theorem dX10_goOnWith_12 : decode cX10_goOnWith 12 = .ok (.invokevirtual 279, 3) := by decide +kernel
theorem dX10_goOnWith_15 : decode cX10_goOnWith 15 = .ok (.aload_n 0, 1) := by decide +kernel
theorem dX10_goOnWith_16 : decode cX10_goOnWith 16 = .ok (.getfield 49, 3) := by decide +kernel
theorem dX10_goOnWith_19 : decode cX10_goOnWith 19 = .ok (.invokevirtual 119, 3) := by decide +kernel
theorem dX10_goOnWith_22 : decode cX10_goOnWith 22 = .ok (.aload_n 0, 1) := by decide +kernel
theorem dX10_goOnWith_23 : decode cX10_goOnWith 23 = .ok (.getfield 61, 3) := by decide +kernel
theorem dX10_goOnWith_26 : decode cX10_goOnWith 26 = .ok (.iconst 0, 1) := by decide +kernel
theorem dX10_goOnWith_27 : decode cX10_goOnWith 27 = .ok (.putfield 282, 3) := by decide +kernel
theorem dX10_goOnWith_30 : decode cX10_goOnWith 30 = .ok (.aload_n 0, 1) := by decide +kernel
theorem dX10_goOnWith_31 : decode cX10_goOnWith 31 = .ok (.getfield 70, 3) := by decide +kernel
theorem dX10_goOnWith_34 : decode cX10_goOnWith 34 = .ok (.invokevirtual 283, 3) := by decide +kernel
theorem dX10_goOnWith_37 : decode cX10_goOnWith 37 = .ok (.aload_n 0, 1) := by decide +kernel
theorem dX10_goOnWith_38 : decode cX10_goOnWith 38 = .ok (.getfield 79, 3) := by decide +kernel
theorem dX10_goOnWith_41 : decode cX10_goOnWith 41 = .ok (.iconst 0, 1) := by decide +kernel
theorem dX10_goOnWith_42 : decode cX10_goOnWith 42 = .ok (.putfield 206, 3) := by decide +kernel
theorem dX10_goOnWith_45 : decode cX10_goOnWith 45 = .ok (.aload_n 0, 1) := by decide +kernel
theorem dX10_goOnWith_46 : decode cX10_goOnWith 46 = .ok (.getfield 88, 3) := by decide +kernel
theorem dX10_goOnWith_49 : decode cX10_goOnWith 49 = .ok (.iconst (-1), 1) := by decide +kernel
theorem dX10_goOnWith_50 : decode cX10_goOnWith 50 = .ok (.putfield 284, 3) := by decide +kernel
theorem dX10_goOnWith_53 : decode cX10_goOnWith 53 = .ok (.aload_n 0, 1) := by decide +kernel
theorem dX10_goOnWith_54 : decode cX10_goOnWith 54 = .ok (.getfield 16, 3) := by decide +kernel
theorem dX10_goOnWith_57 : decode cX10_goOnWith 57 = .ok (.getfield 185, 3) := by decide +kernel
theorem dX10_goOnWith_60 : decode cX10_goOnWith 60 = .ok (.ireturn, 1) := by decide +kernel
theorem dX9_copyFrom_0 : decode cX9_copyFrom 0 = .ok (.aload_n 0, 1) := by decide +kernel
theorem dX9_copyFrom_1 : decode cX9_copyFrom 1 = .ok (.aload_n 1, 1) := by decide +kernel
theorem dX9_copyFrom_2 : decode cX9_copyFrom 2 = .ok (.getfield 55, 3) := by decide +kernel
theorem dX9_copyFrom_5 : decode cX9_copyFrom 5 = .ok (.putfield 55, 3) := by decide +kernel
theorem dX9_copyFrom_8 : decode cX9_copyFrom 8 = .ok (.aload_n 0, 1) := by decide +kernel
theorem dX9_copyFrom_9 : decode cX9_copyFrom 9 = .ok (.aload_n 1, 1) := by decide +kernel
theorem dX9_copyFrom_10 : decode cX9_copyFrom 10 = .ok (.getfield 59, 3) := by decide +kernel
theorem dX9_copyFrom_13 : decode cX9_copyFrom 13 = .ok (.putfield 59, 3) := by decide +kernel
theorem dX9_copyFrom_16 : decode cX9_copyFrom 16 = .ok (.aload_n 0, 1) := by decide +kernel
theorem dX9_copyFrom_17 : decode cX9_copyFrom 17 = .ok (.aload_n 1, 1) := by decide +kernel
theorem dX9_copyFrom_18 : decode cX9_copyFrom 18 = .ok (.invokevirtual 106, 3) := by decide +kernel
theorem dX9_copyFrom_21 : decode cX9_copyFrom 21 = .ok (.aload_n 1, 1) := by decide +kernel
theorem dX9_copyFrom_22 : decode cX9_copyFrom 22 = .ok (.getfield 9, 3) := by decide +kernel
theorem dX9_copyFrom_25 : decode cX9_copyFrom 25 = .ok (.iconst 0, 1) := by decide +kernel
theorem dX9_copyFrom_26 : decode cX9_copyFrom 26 = .ok (.aload_n 0, 1) := by decide +kernel
theorem dX9_copyFrom_27 : decode cX9_copyFrom 27 = .ok (.getfield 9, 3) := by decide +kernel
theorem dX9_copyFrom_30 : decode cX9_copyFrom 30 = .ok (.iconst 0, 1) := by decide +kernel
theorem dX9_copyFrom_31 : decode cX9_copyFrom 31 = .ok (.bipush 8, 2) := by decide +kernel
theorem dX9_copyFrom_33 : decode cX9_copyFrom 33 = .ok (.invokestatic 100, 3) := by decide +kernel
theorem dX9_copyFrom_36 : decode cX9_copyFrom 36 = .ok (.aload_n 1, 1) := by decide +kernel
theorem dX9_copyFrom_37 : decode cX9_copyFrom 37 = .ok (.getfield 15, 3) := by decide +kernel
theorem dX9_copyFrom_40 : decode cX9_copyFrom 40 = .ok (.iconst 0, 1) := by decide +kernel
theorem dX9_copyFrom_41 : decode cX9_copyFrom 41 = .ok (.aload_n 0, 1) := by decide +kernel
theorem dX9_copyFrom_42 : decode cX9_copyFrom 42 = .ok (.getfield 15, 3) := by decide +kernel
theorem dX9_copyFrom_45 : decode cX9_copyFrom 45 = .ok (.iconst 0, 1) := by decide +kernel
theorem dX9_copyFrom_46 : decode cX9_copyFrom 46 = .ok (.bipush 8, 2) := by decide +kernel
theorem dX9_copyFrom_48 : decode cX9_copyFrom 48 = .ok (.invokestatic 100, 3) := by decide +kernel
theorem dX9_copyFrom_51 : decode cX9_copyFrom 51 = .ok (.aload_n 1, 1) := by decide +kernel
theorem dX9_copyFrom_52 : decode cX9_copyFrom 52 = .ok (.getfield 19, 3) := by decide +kernel
theorem dX9_copyFrom_55 : decode cX9_copyFrom 55 = .ok (.iconst 0, 1) := by decide +kernel
theorem dX9_copyFrom_56 : decode cX9_copyFrom 56 = .ok (.aload_n 0, 1) := by decide +kernel
theorem dX9_copyFrom_57 : decode cX9_copyFrom 57 = .ok (.getfield 19, 3) := by decide +kernel
theorem dX9_copyFrom_60 : decode cX9_copyFrom 60 = .ok (.iconst 0, 1) := by decide +kernel
theorem dX9_copyFrom_61 : decode cX9_copyFrom 61 = .ok (.bipush 40, 2) := by decide +kernel
theorem dX9_copyFrom_63 : decode cX9_copyFrom 63 = .ok (.invokestatic 100, 3) := by decide +kernel
theorem dX9_copyFrom_66 : decode cX9_copyFrom 66 = .ok (.aload_n 1, 1) := by decide +kernel
theorem dX9_copyFrom_67 : decode cX9_copyFrom 67 = .ok (.getfield 22, 3) := by decide +kernel
theorem dX9_copyFrom_70 : decode cX9_copyFrom 70 = .ok (.iconst 0, 1) := by decide +kernel
theorem dX9_copyFrom_71 : decode cX9_copyFrom 71 = .ok (.aload_n 0, 1) := by decide +kernel
theorem dX9_copyFrom_72 : decode cX9_copyFrom 72 = .ok (.getfield 22, 3) := by decide +kernel
theorem dX9_copyFrom_75 : decode cX9_copyFrom 75 = .ok (.iconst 0, 1) := by decide +kernel
theorem dX9_copyFrom_76 : decode cX9_copyFrom 76 = .ok (.bipush 40, 2) := by decide +kernel
theorem dX9_copyFrom_78 : decode cX9_copyFrom 78 = .ok (.invokestatic 100, 3) := by decide +kernel
theorem dX9_copyFrom_81 : decode cX9_copyFrom 81 = .ok (.aload_n 1, 1) := by decide +kernel
theorem dX9_copyFrom_82 : decode cX9_copyFrom 82 = .ok (.getfield 25, 3) := by decide +kernel
theorem dX9_copyFrom_85 : decode cX9_copyFrom 85 = .ok (.iconst 0, 1) := by decide +kernel
theorem dX9_copyFrom_86 : decode cX9_copyFrom 86 = .ok (.aload_n 0, 1) := by decide +kernel
theorem dX9_copyFrom_87 : decode cX9_copyFrom 87 = .ok (.getfield 25, 3) := by decide +kernel
theorem dX9_copyFrom_90 : decode cX9_copyFrom 90 = .ok (.iconst 0, 1) := by decide +kernel
theorem dX9_copyFrom_91 : decode cX9_copyFrom 91 = .ok (.bipush 40, 2) := by decide +kernel
theorem dX9_copyFrom_93 : decode cX9_copyFrom 93 = .ok (.invokestatic 100, 3) := by decide +kernel
theorem dX9_copyFrom_96 : decode cX9_copyFrom 96 = .ok (.aload_n 1, 1) := by decide +kernel
theorem dX9_copyFrom_97 : decode cX9_copyFrom 97 = .ok (.getfield 28, 3) := by decide +kernel
theorem dX9_copyFrom_100 : decode cX9_copyFrom 100 = .ok (.iconst 0, 1) := by decide +kernel
theorem dX9_copyFrom_101 : decode cX9_copyFrom 101 = .ok (.aload_n 0, 1) := by decide +kernel
theorem dX9_copyFrom_102 : decode cX9_copyFrom 102 = .ok (.getfield 28, 3) := by decide +kernel
theorem dX9_copyFrom_105 : decode cX9_copyFrom 105 = .ok (.iconst 0, 1) := by decide +kernel
theorem dX9_copyFrom_106 : decode cX9_copyFrom 106 = .ok (.bipush 40, 2) := by decide +kernel
theorem dX9_copyFrom_108 : decode cX9_copyFrom 108 = .ok (.invokestatic 100, 3) := by decide +kernel
theorem dX9_copyFrom_111 : decode cX9_copyFrom 111 = .ok (.aload_n 1, 1) := by decide +kernel
theorem dX9_copyFrom_112 : decode cX9_copyFrom 112 = .ok (.getfield 31, 3) := by decide +kernel
theorem dX9_copyFrom_115 : decode cX9_copyFrom 115 = .ok (.iconst 0, 1) := by decide +kernel
theorem dX9_copyFrom_116 : decode cX9_copyFrom 116 = .ok (.aload_n 0, 1) := by decide +kernel
theorem dX9_copyFrom_117 : decode cX9_copyFrom 117 = .ok (.getfield 31, 3) := by decide +kernel
theorem dX9_copyFrom_120 : decode cX9_copyFrom 120 = .ok (.iconst 0, 1) := by decide +kernel
theorem dX9_copyFrom_121 : decode cX9_copyFrom 121 = .ok (.bipush 40, 2) := by decide +kernel
theorem dX9_copyFrom_123 : decode cX9_copyFrom 123 = .ok (.invokestatic 100, 3) := by decide +kernel
theorem dX9_copyFrom_126 : decode cX9_copyFrom 126 = .ok (.aload_n 1, 1) := by decide +kernel
theorem dX9_copyFrom_127 : decode cX9_copyFrom 127 = .ok (.getfield 34, 3) := by decide +kernel
theorem dX9_copyFrom_130 : decode cX9_copyFrom 130 = .ok (.iconst 0, 1) := by decide +kernel
theorem dX9_copyFrom_131 : decode cX9_copyFrom 131 = .ok (.aload_n 0, 1) := by decide +kernel
theorem dX9_copyFrom_132 : decode cX9_copyFrom 132 = .ok (.getfield 34, 3) := by decide +kernel
theorem dX9_copyFrom_135 : decode cX9_copyFrom 135 = .ok (.iconst 0, 1) := by decide +kernel
theorem dX9_copyFrom_136 : decode cX9_copyFrom 136 = .ok (.bipush 40, 2) := by decide +kernel
theorem dX9_copyFrom_138 : decode cX9_copyFrom 138 = .ok (.invokestatic 100, 3) := by decide +kernel
theorem dX9_copyFrom_141 : decode cX9_copyFrom 141 = .ok (.aload_n 1, 1) := by decide +kernel
theorem dX9_copyFrom_142 : decode cX9_copyFrom 142 = .ok (.getfield 37, 3) := by decide +kernel
theorem dX9_copyFrom_145 : decode cX9_copyFrom 145 = .ok (.iconst 0, 1) := by decide +kernel
theorem dX9_copyFrom_146 : decode cX9_copyFrom 146 = .ok (.aload_n 0, 1) := by decide +kernel
theorem dX9_copyFrom_147 : decode cX9_copyFrom 147 = .ok (.getfield 37, 3) := by decide +kernel
theorem dX9_copyFrom_150 : decode cX9_copyFrom 150 = .ok (.iconst 0, 1) := by decide +kernel
theorem dX9_copyFrom_151 : decode cX9_copyFrom 151 = .ok (.bipush 120, 2) := by decide +kernel
theorem dX9_copyFrom_153 : decode cX9_copyFrom 153 = .ok (.invokestatic 100, 3) := by decide +kernel
theorem dX9_copyFrom_156 : decode cX9_copyFrom 156 = .ok (.aload_n 1, 1) := by decide +kernel
theorem dX9_copyFrom_157 : decode cX9_copyFrom 157 = .ok (.getfield 40, 3) := by decide +kernel
theorem dX9_copyFrom_160 : decode cX9_copyFrom 160 = .ok (.iconst 0, 1) := by decide +kernel
theorem dX9_copyFrom_161 : decode cX9_copyFrom 161 = .ok (.aload_n 0, 1) := by decide +kernel
theorem dX9_copyFrom_162 : decode cX9_copyFrom 162 = .ok (.getfield 40, 3) := by decide +kernel
theorem dX9_copyFrom_165 : decode cX9_copyFrom 165 = .ok (.iconst 0, 1) := by decide +kernel
theorem dX9_copyFrom_166 : decode cX9_copyFrom 166 = .ok (.bipush 40, 2) := by decide +kernel
theorem dX9_copyFrom_168 : decode cX9_copyFrom 168 = .ok (.invokestatic 100, 3) := by decide +kernel
theorem dX9_copyFrom_171 : decode cX9_copyFrom 171 = .ok (.aload_n 1, 1) := by decide +kernel
theorem dX9_copyFrom_172 : decode cX9_copyFrom 172 = .ok (.getfield 43, 3) := by decide +kernel
theorem dX9_copyFrom_175 : decode cX9_copyFrom 175 = .ok (.iconst 0, 1) := by decide +kernel
theorem dX9_copyFrom_176 : decode cX9_copyFrom 176 = .ok (.aload_n 0, 1) := by decide +kernel
theorem dX9_copyFrom_177 : decode cX9_copyFrom 177 = .ok (.getfield 43, 3) := by decide +kernel
theorem dX9_copyFrom_180 : decode cX9_copyFrom 180 = .ok (.iconst 0, 1) := by decide +kernel
theorem dX9_copyFrom_181 : decode cX9_copyFrom 181 = .ok (.bipush 40, 2) := by decide +kernel
theorem dX9_copyFrom_183 : decode cX9_copyFrom 183 = .ok (.invokestatic 100, 3) := by decide +kernel
theorem dX9_copyFrom_186 : decode cX9_copyFrom 186 = .ok (.aload_n 1, 1) := by decide +kernel
theorem dX9_copyFrom_187 : decode cX9_copyFrom 187 = .ok (.getfield 46, 3) := by decide +kernel
theorem dX9_copyFrom_190 : decode cX9_copyFrom 190 = .ok (.iconst 0, 1) := by decide +kernel
theorem dX9_copyFrom_191 : decode cX9_copyFrom 191 = .ok (.aload_n 0, 1) := by decide +kernel
theorem dX9_copyFrom_192 : decode cX9_copyFrom 192 = .ok (.getfield 46, 3) := by decide +kernel
theorem dX9_copyFrom_195 : decode cX9_copyFrom 195 = .ok (.iconst 0, 1) := by decide +kernel
theorem dX9_copyFrom_196 : decode cX9_copyFrom 196 = .ok (.bipush 40, 2) := by decide +kernel
theorem dX9_copyFrom_198 : decode cX9_copyFrom 198 = .ok (.invokestatic 100, 3) := by decide +kernel
theorem dX9_copyFrom_201 : decode cX9_copyFrom 201 = .ok (.aload_n 1, 1) := by decide +kernel
theorem dX9_copyFrom_202 : decode cX9_copyFrom 202 = .ok (.getfield 49, 3) := by decide +kernel
theorem dX9_copyFrom_205 : decode cX9_copyFrom 205 = .ok (.iconst 0, 1) := by decide +kernel
theorem dX9_copyFrom_206 : decode cX9_copyFrom 206 = .ok (.aload_n 0, 1) := by decide +kernel
theorem dX9_copyFrom_207 : decode cX9_copyFrom 207 = .ok (.getfield 49, 3) := by decide +kernel
theorem dX9_copyFrom_210 : decode cX9_copyFrom 210 = .ok (.iconst 0, 1) := by decide +kernel
theorem dX9_copyFrom_211 : decode cX9_copyFrom 211 = .ok (.bipush 40, 2) := by decide +kernel
theorem dX9_copyFrom_213 : decode cX9_copyFrom 213 = .ok (.invokestatic 100, 3) := by decide +kernel
theorem dX9_copyFrom_216 : decode cX9_copyFrom 216 = .ok (.return_, 1) := by decide +kernel
def uXI13 : Nat → Nat → Int32 := q_up (q_up uXI12 2 0 0) 2 1 0
theorem dX9_copyKindWords_0 : decode cX9_copyKindWords 0 = .ok (.aload_n 0, 1) := by decide +kernel
theorem dX9_copyKindWords_1 : decode cX9_copyKindWords 1 = .ok (.aload_n 1, 1) := by decide +kernel
theorem dX9_copyKindWords_2 : decode cX9_copyKindWords 2 = .ok (.getfield 62, 3) := by decide +kernel
theorem dX9_copyKindWords_5 : decode cX9_copyKindWords 5 = .ok (.putfield 62, 3) := by decide +kernel
theorem dX9_copyKindWords_8 : decode cX9_copyKindWords 8 = .ok (.aload_n 1, 1) := by decide +kernel
theorem dX9_copyKindWords_9 : decode cX9_copyKindWords 9 = .ok (.getfield 52, 3) := by decide +kernel
theorem dX9_copyKindWords_12 : decode cX9_copyKindWords 12 = .ok (.iconst 0, 1) := by decide +kernel
theorem dX9_copyKindWords_13 : decode cX9_copyKindWords 13 = .ok (.aload_n 0, 1) := by decide +kernel
theorem dX9_copyKindWords_14 : decode cX9_copyKindWords 14 = .ok (.getfield 52, 3) := by decide +kernel
theorem dX9_copyKindWords_17 : decode cX9_copyKindWords 17 = .ok (.iconst 0, 1) := by decide +kernel
theorem dX9_copyKindWords_18 : decode cX9_copyKindWords 18 = .ok (.bipush 20, 2) := by decide +kernel
theorem dX9_copyKindWords_20 : decode cX9_copyKindWords 20 = .ok (.invokestatic 100, 3) := by decide +kernel
theorem dX9_copyKindWords_23 : decode cX9_copyKindWords 23 = .ok (.return_, 1) := by decide +kernel
def uXI14 : Nat → Nat → Int32 := (q_cpI (q_sX (q_up uXI13 2 2 0) zJ1) 32 16 0 0 20).1
set_option maxRecDepth 20000 in
theorem uX_X9_copyKindWords_9 : q_met mX9_copyKindWords (q_sX uXI13 zJ1) [.ref 2, .ref 18] (fun s r => s = q_sX uXI14 zJ1 ∧ r = none) := by
  refine q_enter (by decide) (Nat.le_of_ble_eq_true rfl) ?_
  refine q_aload_n dX9_copyKindWords_0 rfl ?_
  refine q_aload_n dX9_copyKindWords_1 rfl ?_
  refine q_getf (c := 9) (n := 0) (k := 2) (v := .int 0) dX9_copyKindWords_2 rfl (by decide) (by decide) fX9_62 rfl ?_
  refine q_putI (c := 9) (n := 0) (k := 2) dX9_copyKindWords_5 rfl (by decide) (by decide) fX9_62 rfl rfl ?_
  show q_K _ (q_sX (q_up uXI13 2 2 0) zJ1) _ _ _ _ _ _
  refine q_aload_n dX9_copyKindWords_8 rfl ?_
  refine q_getR (c := 9) (n := 0) (k := 16) (a := 32) dX9_copyKindWords_9 rfl (by decide) (by decide) fX9_52 rfl rfl ?_
  refine q_ic (v := 0) dX9_copyKindWords_12 rfl ?_
  refine q_aload_n dX9_copyKindWords_13 rfl ?_
  refine q_getR (c := 9) (n := 0) (k := 16) (a := 16) dX9_copyKindWords_14 rfl (by decide) (by decide) fX9_52 rfl rfl ?_
  refine q_ic (v := 0) dX9_copyKindWords_17 rfl ?_
  refine q_bi (v := 20) dX9_copyKindWords_18 rfl ?_
  refine q_copyI (a := 0) (b := 0) (k := 20) dX9_copyKindWords_20 lX9_100 q_ac1 q_ac2 q_ac3 rfl rfl rfl rfl rfl (by decide) (by decide) ⟨Nat.le_of_ble_eq_true rfl, Nat.le_of_ble_eq_true rfl⟩ (q_r8 rfl) ?_
  show q_K _ (q_sX uXI14 zJ1) _ _ _ _ _ _
  refine q_ret dX9_copyKindWords_23 rfl ?_
  exact ⟨rfl, rfl⟩
def uXJ1 : Nat → Nat → Int64 := (q_cpJ (q_sX uXI14 zJ1) 19 3 0 0 8).2.1
def uXI15 : Nat → Nat → Int32 := (q_cpI (q_sX uXI14 uXJ1) 20 4 0 0 8).1
def uXI16 : Nat → Nat → Int32 := (q_cpI (q_sX uXI15 uXJ1) 21 5 0 0 40).1
def uXI17 : Nat → Nat → Int32 := (q_cpI (q_sX uXI16 uXJ1) 22 6 0 0 40).1
def uXI18 : Nat → Nat → Int32 := (q_cpI (q_sX uXI17 uXJ1) 23 7 0 0 40).1
def uXI19 : Nat → Nat → Int32 := (q_cpI (q_sX uXI18 uXJ1) 24 8 0 0 40).1
def uXI20 : Nat → Nat → Int32 := (q_cpI (q_sX uXI19 uXJ1) 25 9 0 0 40).1
def uXI21 : Nat → Nat → Int32 := (q_cpI (q_sX uXI20 uXJ1) 26 10 0 0 40).1
def uXI22 : Nat → Nat → Int32 := (q_cpI (q_sX uXI21 uXJ1) 27 11 0 0 120).1
def uXJ2 : Nat → Nat → Int64 := (q_cpJ (q_sX uXI22 uXJ1) 28 12 0 0 40).2.1
def uXI23 : Nat → Nat → Int32 := (q_cpI (q_sX uXI22 uXJ2) 29 13 0 0 40).1
def uXI24 : Nat → Nat → Int32 := (q_cpI (q_sX uXI23 uXJ2) 30 14 0 0 40).1
def uXI25 : Nat → Nat → Int32 := (q_cpI (q_sX uXI24 uXJ2) 31 15 0 0 40).1
set_option maxRecDepth 20000 in
theorem uX_X9_copyFrom_10 : q_met mX9_copyFrom (q_sX uXI12 zJ1) [.ref 2, .ref 18] (fun s r => s = q_sX uXI25 uXJ2 ∧ r = none) := by
  refine q_enter (by decide) (Nat.le_of_ble_eq_true rfl) ?_
  refine q_aload_n dX9_copyFrom_0 rfl ?_
  refine q_aload_n dX9_copyFrom_1 rfl ?_
  refine q_getf (c := 9) (n := 0) (k := 0) (v := .int 0) dX9_copyFrom_2 rfl (by decide) (by decide) fX9_55 rfl ?_
  refine q_putI (c := 9) (n := 0) (k := 0) dX9_copyFrom_5 rfl (by decide) (by decide) fX9_55 rfl rfl ?_
  show q_K _ (q_sX (q_up uXI12 2 0 0) zJ1) _ _ _ _ _ _
  refine q_aload_n dX9_copyFrom_8 rfl ?_
  refine q_aload_n dX9_copyFrom_9 rfl ?_
  refine q_getf (c := 9) (n := 0) (k := 1) (v := .int 0) dX9_copyFrom_10 rfl (by decide) (by decide) fX9_59 rfl ?_
  refine q_putI (c := 9) (n := 0) (k := 1) dX9_copyFrom_13 rfl (by decide) (by decide) fX9_59 rfl rfl ?_
  show q_K _ (q_sX (q_up (q_up uXI12 2 0 0) 2 1 0) zJ1) _ _ _ _ _ _
  refine q_aload_n dX9_copyFrom_16 rfl ?_
  refine q_aload_n dX9_copyFrom_17 rfl ?_
  show q_K _ (q_sX uXI13 zJ1) _ _ _ _ _ _
  refine q_V1 (ci := 9) (n := 0) dX9_copyFrom_18 DX9_copyKindWords lX9_106 rfl (by decide) rfl rfl rfl rfl uX_X9_copyKindWords_9 ?_
  rintro _ _ ⟨rfl, rfl⟩
  refine q_aload_n dX9_copyFrom_21 rfl ?_
  refine q_getR (c := 9) (n := 0) (k := 3) (a := 19) dX9_copyFrom_22 rfl (by decide) (by decide) fX9_9 rfl rfl ?_
  refine q_ic (v := 0) dX9_copyFrom_25 rfl ?_
  refine q_aload_n dX9_copyFrom_26 rfl ?_
  refine q_getR (c := 9) (n := 0) (k := 3) (a := 3) dX9_copyFrom_27 rfl (by decide) (by decide) fX9_9 rfl rfl ?_
  refine q_ic (v := 0) dX9_copyFrom_30 rfl ?_
  refine q_bi (v := 8) dX9_copyFrom_31 rfl ?_
  refine q_copyJ (a := 0) (b := 0) (k := 8) dX9_copyFrom_33 lX9_100 q_ac1 q_ac2 q_ac3 rfl rfl rfl rfl rfl (by decide) (by decide) ⟨Nat.le_of_ble_eq_true rfl, Nat.le_of_ble_eq_true rfl⟩ (q_r8 rfl) ?_
  show q_K _ (q_sX uXI14 uXJ1) _ _ _ _ _ _
  refine q_aload_n dX9_copyFrom_36 rfl ?_
  refine q_getR (c := 9) (n := 0) (k := 4) (a := 20) dX9_copyFrom_37 rfl (by decide) (by decide) fX9_15 rfl rfl ?_
  refine q_ic (v := 0) dX9_copyFrom_40 rfl ?_
  refine q_aload_n dX9_copyFrom_41 rfl ?_
  refine q_getR (c := 9) (n := 0) (k := 4) (a := 4) dX9_copyFrom_42 rfl (by decide) (by decide) fX9_15 rfl rfl ?_
  refine q_ic (v := 0) dX9_copyFrom_45 rfl ?_
  refine q_bi (v := 8) dX9_copyFrom_46 rfl ?_
  refine q_copyI (a := 0) (b := 0) (k := 8) dX9_copyFrom_48 lX9_100 q_ac1 q_ac2 q_ac3 rfl rfl rfl rfl rfl (by decide) (by decide) ⟨Nat.le_of_ble_eq_true rfl, Nat.le_of_ble_eq_true rfl⟩ (q_r8 rfl) ?_
  show q_K _ (q_sX uXI15 uXJ1) _ _ _ _ _ _
  refine q_aload_n dX9_copyFrom_51 rfl ?_
  refine q_getR (c := 9) (n := 0) (k := 5) (a := 21) dX9_copyFrom_52 rfl (by decide) (by decide) fX9_19 rfl rfl ?_
  refine q_ic (v := 0) dX9_copyFrom_55 rfl ?_
  refine q_aload_n dX9_copyFrom_56 rfl ?_
  refine q_getR (c := 9) (n := 0) (k := 5) (a := 5) dX9_copyFrom_57 rfl (by decide) (by decide) fX9_19 rfl rfl ?_
  refine q_ic (v := 0) dX9_copyFrom_60 rfl ?_
  refine q_bi (v := 40) dX9_copyFrom_61 rfl ?_
  refine q_copyI (a := 0) (b := 0) (k := 40) dX9_copyFrom_63 lX9_100 q_ac1 q_ac2 q_ac3 rfl rfl rfl rfl rfl (by decide) (by decide) ⟨Nat.le_of_ble_eq_true rfl, Nat.le_of_ble_eq_true rfl⟩ (q_r8 rfl) ?_
  show q_K _ (q_sX uXI16 uXJ1) _ _ _ _ _ _
  refine q_aload_n dX9_copyFrom_66 rfl ?_
  refine q_getR (c := 9) (n := 0) (k := 6) (a := 22) dX9_copyFrom_67 rfl (by decide) (by decide) fX9_22 rfl rfl ?_
  refine q_ic (v := 0) dX9_copyFrom_70 rfl ?_
  refine q_aload_n dX9_copyFrom_71 rfl ?_
  refine q_getR (c := 9) (n := 0) (k := 6) (a := 6) dX9_copyFrom_72 rfl (by decide) (by decide) fX9_22 rfl rfl ?_
  refine q_ic (v := 0) dX9_copyFrom_75 rfl ?_
  refine q_bi (v := 40) dX9_copyFrom_76 rfl ?_
  refine q_copyI (a := 0) (b := 0) (k := 40) dX9_copyFrom_78 lX9_100 q_ac1 q_ac2 q_ac3 rfl rfl rfl rfl rfl (by decide) (by decide) ⟨Nat.le_of_ble_eq_true rfl, Nat.le_of_ble_eq_true rfl⟩ (q_r8 rfl) ?_
  show q_K _ (q_sX uXI17 uXJ1) _ _ _ _ _ _
  refine q_aload_n dX9_copyFrom_81 rfl ?_
  refine q_getR (c := 9) (n := 0) (k := 7) (a := 23) dX9_copyFrom_82 rfl (by decide) (by decide) fX9_25 rfl rfl ?_
  refine q_ic (v := 0) dX9_copyFrom_85 rfl ?_
  refine q_aload_n dX9_copyFrom_86 rfl ?_
  refine q_getR (c := 9) (n := 0) (k := 7) (a := 7) dX9_copyFrom_87 rfl (by decide) (by decide) fX9_25 rfl rfl ?_
  refine q_ic (v := 0) dX9_copyFrom_90 rfl ?_
  refine q_bi (v := 40) dX9_copyFrom_91 rfl ?_
  refine q_copyI (a := 0) (b := 0) (k := 40) dX9_copyFrom_93 lX9_100 q_ac1 q_ac2 q_ac3 rfl rfl rfl rfl rfl (by decide) (by decide) ⟨Nat.le_of_ble_eq_true rfl, Nat.le_of_ble_eq_true rfl⟩ (q_r8 rfl) ?_
  show q_K _ (q_sX uXI18 uXJ1) _ _ _ _ _ _
  refine q_aload_n dX9_copyFrom_96 rfl ?_
  refine q_getR (c := 9) (n := 0) (k := 8) (a := 24) dX9_copyFrom_97 rfl (by decide) (by decide) fX9_28 rfl rfl ?_
  refine q_ic (v := 0) dX9_copyFrom_100 rfl ?_
  refine q_aload_n dX9_copyFrom_101 rfl ?_
  refine q_getR (c := 9) (n := 0) (k := 8) (a := 8) dX9_copyFrom_102 rfl (by decide) (by decide) fX9_28 rfl rfl ?_
  refine q_ic (v := 0) dX9_copyFrom_105 rfl ?_
  refine q_bi (v := 40) dX9_copyFrom_106 rfl ?_
  refine q_copyI (a := 0) (b := 0) (k := 40) dX9_copyFrom_108 lX9_100 q_ac1 q_ac2 q_ac3 rfl rfl rfl rfl rfl (by decide) (by decide) ⟨Nat.le_of_ble_eq_true rfl, Nat.le_of_ble_eq_true rfl⟩ (q_r8 rfl) ?_
  show q_K _ (q_sX uXI19 uXJ1) _ _ _ _ _ _
  refine q_aload_n dX9_copyFrom_111 rfl ?_
  refine q_getR (c := 9) (n := 0) (k := 9) (a := 25) dX9_copyFrom_112 rfl (by decide) (by decide) fX9_31 rfl rfl ?_
  refine q_ic (v := 0) dX9_copyFrom_115 rfl ?_
  refine q_aload_n dX9_copyFrom_116 rfl ?_
  refine q_getR (c := 9) (n := 0) (k := 9) (a := 9) dX9_copyFrom_117 rfl (by decide) (by decide) fX9_31 rfl rfl ?_
  refine q_ic (v := 0) dX9_copyFrom_120 rfl ?_
  refine q_bi (v := 40) dX9_copyFrom_121 rfl ?_
  refine q_copyI (a := 0) (b := 0) (k := 40) dX9_copyFrom_123 lX9_100 q_ac1 q_ac2 q_ac3 rfl rfl rfl rfl rfl (by decide) (by decide) ⟨Nat.le_of_ble_eq_true rfl, Nat.le_of_ble_eq_true rfl⟩ (q_r8 rfl) ?_
  show q_K _ (q_sX uXI20 uXJ1) _ _ _ _ _ _
  refine q_aload_n dX9_copyFrom_126 rfl ?_
  refine q_getR (c := 9) (n := 0) (k := 10) (a := 26) dX9_copyFrom_127 rfl (by decide) (by decide) fX9_34 rfl rfl ?_
  refine q_ic (v := 0) dX9_copyFrom_130 rfl ?_
  refine q_aload_n dX9_copyFrom_131 rfl ?_
  refine q_getR (c := 9) (n := 0) (k := 10) (a := 10) dX9_copyFrom_132 rfl (by decide) (by decide) fX9_34 rfl rfl ?_
  refine q_ic (v := 0) dX9_copyFrom_135 rfl ?_
  refine q_bi (v := 40) dX9_copyFrom_136 rfl ?_
  refine q_copyI (a := 0) (b := 0) (k := 40) dX9_copyFrom_138 lX9_100 q_ac1 q_ac2 q_ac3 rfl rfl rfl rfl rfl (by decide) (by decide) ⟨Nat.le_of_ble_eq_true rfl, Nat.le_of_ble_eq_true rfl⟩ (q_r8 rfl) ?_
  show q_K _ (q_sX uXI21 uXJ1) _ _ _ _ _ _
  refine q_aload_n dX9_copyFrom_141 rfl ?_
  refine q_getR (c := 9) (n := 0) (k := 11) (a := 27) dX9_copyFrom_142 rfl (by decide) (by decide) fX9_37 rfl rfl ?_
  refine q_ic (v := 0) dX9_copyFrom_145 rfl ?_
  refine q_aload_n dX9_copyFrom_146 rfl ?_
  refine q_getR (c := 9) (n := 0) (k := 11) (a := 11) dX9_copyFrom_147 rfl (by decide) (by decide) fX9_37 rfl rfl ?_
  refine q_ic (v := 0) dX9_copyFrom_150 rfl ?_
  refine q_bi (v := 120) dX9_copyFrom_151 rfl ?_
  refine q_copyI (a := 0) (b := 0) (k := 120) dX9_copyFrom_153 lX9_100 q_ac1 q_ac2 q_ac3 rfl rfl rfl rfl rfl (by decide) (by decide) ⟨Nat.le_of_ble_eq_true rfl, Nat.le_of_ble_eq_true rfl⟩ (q_r8 rfl) ?_
  show q_K _ (q_sX uXI22 uXJ1) _ _ _ _ _ _
  refine q_aload_n dX9_copyFrom_156 rfl ?_
  refine q_getR (c := 9) (n := 0) (k := 12) (a := 28) dX9_copyFrom_157 rfl (by decide) (by decide) fX9_40 rfl rfl ?_
  refine q_ic (v := 0) dX9_copyFrom_160 rfl ?_
  refine q_aload_n dX9_copyFrom_161 rfl ?_
  refine q_getR (c := 9) (n := 0) (k := 12) (a := 12) dX9_copyFrom_162 rfl (by decide) (by decide) fX9_40 rfl rfl ?_
  refine q_ic (v := 0) dX9_copyFrom_165 rfl ?_
  refine q_bi (v := 40) dX9_copyFrom_166 rfl ?_
  refine q_copyJ (a := 0) (b := 0) (k := 40) dX9_copyFrom_168 lX9_100 q_ac1 q_ac2 q_ac3 rfl rfl rfl rfl rfl (by decide) (by decide) ⟨Nat.le_of_ble_eq_true rfl, Nat.le_of_ble_eq_true rfl⟩ (q_r8 rfl) ?_
  show q_K _ (q_sX uXI22 uXJ2) _ _ _ _ _ _
  refine q_aload_n dX9_copyFrom_171 rfl ?_
  refine q_getR (c := 9) (n := 0) (k := 13) (a := 29) dX9_copyFrom_172 rfl (by decide) (by decide) fX9_43 rfl rfl ?_
  refine q_ic (v := 0) dX9_copyFrom_175 rfl ?_
  refine q_aload_n dX9_copyFrom_176 rfl ?_
  refine q_getR (c := 9) (n := 0) (k := 13) (a := 13) dX9_copyFrom_177 rfl (by decide) (by decide) fX9_43 rfl rfl ?_
  refine q_ic (v := 0) dX9_copyFrom_180 rfl ?_
  refine q_bi (v := 40) dX9_copyFrom_181 rfl ?_
  refine q_copyI (a := 0) (b := 0) (k := 40) dX9_copyFrom_183 lX9_100 q_ac1 q_ac2 q_ac3 rfl rfl rfl rfl rfl (by decide) (by decide) ⟨Nat.le_of_ble_eq_true rfl, Nat.le_of_ble_eq_true rfl⟩ (q_r8 rfl) ?_
  show q_K _ (q_sX uXI23 uXJ2) _ _ _ _ _ _
  refine q_aload_n dX9_copyFrom_186 rfl ?_
  refine q_getR (c := 9) (n := 0) (k := 14) (a := 30) dX9_copyFrom_187 rfl (by decide) (by decide) fX9_46 rfl rfl ?_
  refine q_ic (v := 0) dX9_copyFrom_190 rfl ?_
  refine q_aload_n dX9_copyFrom_191 rfl ?_
  refine q_getR (c := 9) (n := 0) (k := 14) (a := 14) dX9_copyFrom_192 rfl (by decide) (by decide) fX9_46 rfl rfl ?_
  refine q_ic (v := 0) dX9_copyFrom_195 rfl ?_
  refine q_bi (v := 40) dX9_copyFrom_196 rfl ?_
  refine q_copyI (a := 0) (b := 0) (k := 40) dX9_copyFrom_198 lX9_100 q_ac1 q_ac2 q_ac3 rfl rfl rfl rfl rfl (by decide) (by decide) ⟨Nat.le_of_ble_eq_true rfl, Nat.le_of_ble_eq_true rfl⟩ (q_r8 rfl) ?_
  show q_K _ (q_sX uXI24 uXJ2) _ _ _ _ _ _
  refine q_aload_n dX9_copyFrom_201 rfl ?_
  refine q_getR (c := 9) (n := 0) (k := 15) (a := 31) dX9_copyFrom_202 rfl (by decide) (by decide) fX9_49 rfl rfl ?_
  refine q_ic (v := 0) dX9_copyFrom_205 rfl ?_
  refine q_aload_n dX9_copyFrom_206 rfl ?_
  refine q_getR (c := 9) (n := 0) (k := 15) (a := 15) dX9_copyFrom_207 rfl (by decide) (by decide) fX9_49 rfl rfl ?_
  refine q_ic (v := 0) dX9_copyFrom_210 rfl ?_
  refine q_bi (v := 40) dX9_copyFrom_211 rfl ?_
  refine q_copyI (a := 0) (b := 0) (k := 40) dX9_copyFrom_213 lX9_100 q_ac1 q_ac2 q_ac3 rfl rfl rfl rfl rfl (by decide) (by decide) ⟨Nat.le_of_ble_eq_true rfl, Nat.le_of_ble_eq_true rfl⟩ (q_r8 rfl) ?_
  show q_K _ (q_sX uXI25 uXJ2) _ _ _ _ _ _
  refine q_ret dX9_copyFrom_216 rfl ?_
  exact ⟨rfl, rfl⟩
theorem dX8_forget_0 : decode cX8_forget 0 = .ok (.aload_n 0, 1) := by decide +kernel
theorem dX8_forget_1 : decode cX8_forget 1 = .ok (.iconst 0, 1) := by decide +kernel
theorem dX8_forget_2 : decode cX8_forget 2 = .ok (.putfield 21, 3) := by decide +kernel
theorem dX8_forget_5 : decode cX8_forget 5 = .ok (.return_, 1) := by decide +kernel
def uXI26 : Nat → Nat → Int32 := q_up uXI25 88 0 0
set_option maxRecDepth 20000 in
theorem uX_X8_forget_11 : q_met mX8_forget (q_sX uXI25 uXJ2) [.ref 88] (fun s r => s = q_sX uXI26 uXJ2 ∧ r = none) := by
  refine q_enter (by decide) (Nat.le_of_ble_eq_true rfl) ?_
  refine q_aload_n dX8_forget_0 rfl ?_
  refine q_ic (v := 0) dX8_forget_1 rfl ?_
  refine q_putI (c := 8) (n := 0) (k := 0) dX8_forget_2 rfl (by decide) (by decide) fX8_21 rfl rfl ?_
  show q_K _ (q_sX (q_up uXI25 88 0 0) uXJ2) _ _ _ _ _ _
  show q_K _ (q_sX uXI26 uXJ2) _ _ _ _ _ _
  refine q_ret dX8_forget_5 rfl ?_
  exact ⟨rfl, rfl⟩
def uXI27 : Nat → Nat → Int32 := q_up (q_up (q_up (q_up (q_up (q_up (q_up (q_up (q_up (q_up (q_up (q_up (q_up (q_up (q_up (q_up (q_up (q_up uXI26 51 0 0) 51 1 0) 51 2 0) 51 4 0) 54 0 (-1)) 55 0 (-1)) 54 1 (-1)) 55 1 (-1)) 54 2 (-1)) 55 2 (-1)) 54 3 (-1)) 55 3 (-1)) 54 4 (-1)) 55 4 (-1)) 54 5 (-1)) 55 5 (-1)) 54 6 (-1)) 55 6 (-1)
def uXI28 : Nat → Nat → Int32 := q_up (q_up (q_up (q_up (q_up (q_up (q_up (q_up (q_up (q_up (q_up (q_up (q_up (q_up (q_up (q_up (q_up (q_up (q_up (q_up (q_up (q_up (q_up (q_up uXI27 54 7 (-1)) 55 7 (-1)) 54 8 (-1)) 55 8 (-1)) 54 9 (-1)) 55 9 (-1)) 54 10 (-1)) 55 10 (-1)) 54 11 (-1)) 55 11 (-1)) 54 12 (-1)) 55 12 (-1)) 54 13 (-1)) 55 13 (-1)) 54 14 (-1)) 55 14 (-1)) 54 15 (-1)) 55 15 (-1)) 54 16 (-1)) 55 16 (-1)) 54 17 (-1)) 55 17 (-1)) 54 18 (-1)) 55 18 (-1)
def uXI29 : Nat → Nat → Int32 := q_up (q_up (q_up (q_up (q_up (q_up (q_up (q_up (q_up (q_up (q_up (q_up (q_up (q_up (q_up (q_up (q_up (q_up (q_up (q_up (q_up (q_up (q_up (q_up uXI28 54 19 (-1)) 55 19 (-1)) 54 20 (-1)) 55 20 (-1)) 54 21 (-1)) 55 21 (-1)) 54 22 (-1)) 55 22 (-1)) 54 23 (-1)) 55 23 (-1)) 54 24 (-1)) 55 24 (-1)) 54 25 (-1)) 55 25 (-1)) 54 26 (-1)) 55 26 (-1)) 54 27 (-1)) 55 27 (-1)) 54 28 (-1)) 55 28 (-1)) 54 29 (-1)) 55 29 (-1)) 54 30 (-1)) 55 30 (-1)
def uXI30 : Nat → Nat → Int32 := q_up (q_up (q_up (q_up (q_up (q_up (q_up (q_up (q_up (q_up (q_up (q_up (q_up (q_up (q_up (q_up (q_up (q_up uXI29 54 31 (-1)) 55 31 (-1)) 54 32 (-1)) 55 32 (-1)) 54 33 (-1)) 55 33 (-1)) 54 34 (-1)) 55 34 (-1)) 54 35 (-1)) 55 35 (-1)) 54 36 (-1)) 55 36 (-1)) 54 37 (-1)) 55 37 (-1)) 54 38 (-1)) 55 38 (-1)) 54 39 (-1)) 55 39 (-1)
set_option maxRecDepth 20000 in
theorem uX_X0_list_12 : q_met mX0_list (q_sX uXI26 uXJ2) [.ref 51] (fun s r => s = q_sX uXI30 uXJ2 ∧ r = none) := by
  refine q_enter (by decide) (Nat.le_of_ble_eq_true rfl) ?_
  refine q_aload_n dX0_list_0 rfl ?_
  refine q_ic (v := 0) dX0_list_1 rfl ?_
  refine q_putI (c := 0) (n := 0) (k := 0) dX0_list_2 rfl (by decide) (by decide) fX0_41 rfl rfl ?_
  show q_K _ (q_sX (q_up uXI26 51 0 0) uXJ2) _ _ _ _ _ _
  refine q_aload_n dX0_list_5 rfl ?_
  refine q_ic (v := 0) dX0_list_6 rfl ?_
  refine q_putZ (c := 0) (n := 0) (k := 1) dX0_list_7 rfl (by decide) (by decide) fX0_45 rfl rfl (Or.inl rfl) ?_
  show q_K _ (q_sX (q_up (q_up uXI26 51 0 0) 51 1 0) uXJ2) _ _ _ _ _ _
  refine q_aload_n dX0_list_10 rfl ?_
  refine q_ic (v := 0) dX0_list_11 rfl ?_
  refine q_putZ (c := 0) (n := 0) (k := 2) dX0_list_12 rfl (by decide) (by decide) fX0_49 rfl rfl (Or.inl rfl) ?_
  show q_K _ (q_sX (q_up (q_up (q_up uXI26 51 0 0) 51 1 0) 51 2 0) uXJ2) _ _ _ _ _ _
  refine q_aload_n dX0_list_15 rfl ?_
  refine q_ic (v := 0) dX0_list_16 rfl ?_
  refine q_putZ (c := 0) (n := 0) (k := 4) dX0_list_17 rfl (by decide) (by decide) fX0_52 rfl rfl (Or.inl rfl) ?_
  show q_K _ (q_sX (q_up (q_up (q_up (q_up uXI26 51 0 0) 51 1 0) 51 2 0) 51 4 0) uXJ2) _ _ _ _ _ _
  refine q_ic (v := 0) dX0_list_20 rfl ?_
  refine q_istore_n dX0_list_21 (Nat.le_of_ble_eq_true rfl) ?_
  refine q_iload_n dX0_list_22 rfl ?_
  refine q_bi (v := 40) dX0_list_23 rfl ?_
  refine q_cz_ge (tgt := 48) (a := 0) (b := 40) dX0_list_25 (by decide) rfl rfl (fun h => absurd h (by decide)) (fun _ => ?_)
  refine q_aload_n dX0_list_28 rfl ?_
  refine q_getR (c := 0) (n := 0) (k := 10) (a := 54) dX0_list_29 rfl (by decide) (by decide) fX0_18 rfl rfl ?_
  refine q_iload_n dX0_list_32 rfl ?_
  refine q_ic (v := (-1)) dX0_list_33 rfl ?_
  refine q_iast (n := 40) (j := 0) dX0_list_34 rfl rfl (by decide) ?_
  show q_K _ (q_sX (q_up (q_up (q_up (q_up (q_up uXI26 51 0 0) 51 1 0) 51 2 0) 51 4 0) 54 0 (-1)) uXJ2) _ _ _ _ _ _
  refine q_aload_n dX0_list_35 rfl ?_
  refine q_getR (c := 0) (n := 0) (k := 11) (a := 55) dX0_list_36 rfl (by decide) (by decide) fX0_21 rfl rfl ?_
  refine q_iload_n dX0_list_39 rfl ?_
  refine q_ic (v := (-1)) dX0_list_40 rfl ?_
  refine q_iast (n := 40) (j := 0) dX0_list_41 rfl rfl (by decide) ?_
  show q_K _ (q_sX (q_up (q_up (q_up (q_up (q_up (q_up uXI26 51 0 0) 51 1 0) 51 2 0) 51 4 0) 54 0 (-1)) 55 0 (-1)) uXJ2) _ _ _ _ _ _
  refine q_inc (v := 1) dX0_list_42 rfl (Nat.le_of_ble_eq_true rfl) rfl ?_
  refine q_goto (tgt := 22) dX0_list_45 (by decide) ?_
  refine q_iload_n dX0_list_22 rfl ?_
  refine q_bi (v := 40) dX0_list_23 rfl ?_
  refine q_cz_ge (tgt := 48) (a := 1) (b := 40) dX0_list_25 (by decide) rfl rfl (fun h => absurd h (by decide)) (fun _ => ?_)
  refine q_aload_n dX0_list_28 rfl ?_
  refine q_getR (c := 0) (n := 0) (k := 10) (a := 54) dX0_list_29 rfl (by decide) (by decide) fX0_18 rfl rfl ?_
  refine q_iload_n dX0_list_32 rfl ?_
  refine q_ic (v := (-1)) dX0_list_33 rfl ?_
  refine q_iast (n := 40) (j := 1) dX0_list_34 rfl rfl (by decide) ?_
  show q_K _ (q_sX (q_up (q_up (q_up (q_up (q_up (q_up (q_up uXI26 51 0 0) 51 1 0) 51 2 0) 51 4 0) 54 0 (-1)) 55 0 (-1)) 54 1 (-1)) uXJ2) _ _ _ _ _ _
  refine q_aload_n dX0_list_35 rfl ?_
  refine q_getR (c := 0) (n := 0) (k := 11) (a := 55) dX0_list_36 rfl (by decide) (by decide) fX0_21 rfl rfl ?_
  refine q_iload_n dX0_list_39 rfl ?_
  refine q_ic (v := (-1)) dX0_list_40 rfl ?_
  refine q_iast (n := 40) (j := 1) dX0_list_41 rfl rfl (by decide) ?_
  show q_K _ (q_sX (q_up (q_up (q_up (q_up (q_up (q_up (q_up (q_up uXI26 51 0 0) 51 1 0) 51 2 0) 51 4 0) 54 0 (-1)) 55 0 (-1)) 54 1 (-1)) 55 1 (-1)) uXJ2) _ _ _ _ _ _
  refine q_inc (v := 1) dX0_list_42 rfl (Nat.le_of_ble_eq_true rfl) rfl ?_
  refine q_goto (tgt := 22) dX0_list_45 (by decide) ?_
  refine q_iload_n dX0_list_22 rfl ?_
  refine q_bi (v := 40) dX0_list_23 rfl ?_
  refine q_cz_ge (tgt := 48) (a := 2) (b := 40) dX0_list_25 (by decide) rfl rfl (fun h => absurd h (by decide)) (fun _ => ?_)
  refine q_aload_n dX0_list_28 rfl ?_
  refine q_getR (c := 0) (n := 0) (k := 10) (a := 54) dX0_list_29 rfl (by decide) (by decide) fX0_18 rfl rfl ?_
  refine q_iload_n dX0_list_32 rfl ?_
  refine q_ic (v := (-1)) dX0_list_33 rfl ?_
  refine q_iast (n := 40) (j := 2) dX0_list_34 rfl rfl (by decide) ?_
  show q_K _ (q_sX (q_up (q_up (q_up (q_up (q_up (q_up (q_up (q_up (q_up uXI26 51 0 0) 51 1 0) 51 2 0) 51 4 0) 54 0 (-1)) 55 0 (-1)) 54 1 (-1)) 55 1 (-1)) 54 2 (-1)) uXJ2) _ _ _ _ _ _
  refine q_aload_n dX0_list_35 rfl ?_
  refine q_getR (c := 0) (n := 0) (k := 11) (a := 55) dX0_list_36 rfl (by decide) (by decide) fX0_21 rfl rfl ?_
  refine q_iload_n dX0_list_39 rfl ?_
  refine q_ic (v := (-1)) dX0_list_40 rfl ?_
  refine q_iast (n := 40) (j := 2) dX0_list_41 rfl rfl (by decide) ?_
  show q_K _ (q_sX (q_up (q_up (q_up (q_up (q_up (q_up (q_up (q_up (q_up (q_up uXI26 51 0 0) 51 1 0) 51 2 0) 51 4 0) 54 0 (-1)) 55 0 (-1)) 54 1 (-1)) 55 1 (-1)) 54 2 (-1)) 55 2 (-1)) uXJ2) _ _ _ _ _ _
  refine q_inc (v := 1) dX0_list_42 rfl (Nat.le_of_ble_eq_true rfl) rfl ?_
  refine q_goto (tgt := 22) dX0_list_45 (by decide) ?_
  refine q_iload_n dX0_list_22 rfl ?_
  refine q_bi (v := 40) dX0_list_23 rfl ?_
  refine q_cz_ge (tgt := 48) (a := 3) (b := 40) dX0_list_25 (by decide) rfl rfl (fun h => absurd h (by decide)) (fun _ => ?_)
  refine q_aload_n dX0_list_28 rfl ?_
  refine q_getR (c := 0) (n := 0) (k := 10) (a := 54) dX0_list_29 rfl (by decide) (by decide) fX0_18 rfl rfl ?_
  refine q_iload_n dX0_list_32 rfl ?_
  refine q_ic (v := (-1)) dX0_list_33 rfl ?_
  refine q_iast (n := 40) (j := 3) dX0_list_34 rfl rfl (by decide) ?_
  show q_K _ (q_sX (q_up (q_up (q_up (q_up (q_up (q_up (q_up (q_up (q_up (q_up (q_up uXI26 51 0 0) 51 1 0) 51 2 0) 51 4 0) 54 0 (-1)) 55 0 (-1)) 54 1 (-1)) 55 1 (-1)) 54 2 (-1)) 55 2 (-1)) 54 3 (-1)) uXJ2) _ _ _ _ _ _
  refine q_aload_n dX0_list_35 rfl ?_
  refine q_getR (c := 0) (n := 0) (k := 11) (a := 55) dX0_list_36 rfl (by decide) (by decide) fX0_21 rfl rfl ?_
  refine q_iload_n dX0_list_39 rfl ?_
  refine q_ic (v := (-1)) dX0_list_40 rfl ?_
  refine q_iast (n := 40) (j := 3) dX0_list_41 rfl rfl (by decide) ?_
  show q_K _ (q_sX (q_up (q_up (q_up (q_up (q_up (q_up (q_up (q_up (q_up (q_up (q_up (q_up uXI26 51 0 0) 51 1 0) 51 2 0) 51 4 0) 54 0 (-1)) 55 0 (-1)) 54 1 (-1)) 55 1 (-1)) 54 2 (-1)) 55 2 (-1)) 54 3 (-1)) 55 3 (-1)) uXJ2) _ _ _ _ _ _
  refine q_inc (v := 1) dX0_list_42 rfl (Nat.le_of_ble_eq_true rfl) rfl ?_
  refine q_goto (tgt := 22) dX0_list_45 (by decide) ?_
  refine q_iload_n dX0_list_22 rfl ?_
  refine q_bi (v := 40) dX0_list_23 rfl ?_
  refine q_cz_ge (tgt := 48) (a := 4) (b := 40) dX0_list_25 (by decide) rfl rfl (fun h => absurd h (by decide)) (fun _ => ?_)
  refine q_aload_n dX0_list_28 rfl ?_
  refine q_getR (c := 0) (n := 0) (k := 10) (a := 54) dX0_list_29 rfl (by decide) (by decide) fX0_18 rfl rfl ?_
  refine q_iload_n dX0_list_32 rfl ?_
  refine q_ic (v := (-1)) dX0_list_33 rfl ?_
  refine q_iast (n := 40) (j := 4) dX0_list_34 rfl rfl (by decide) ?_
  show q_K _ (q_sX (q_up (q_up (q_up (q_up (q_up (q_up (q_up (q_up (q_up (q_up (q_up (q_up (q_up uXI26 51 0 0) 51 1 0) 51 2 0) 51 4 0) 54 0 (-1)) 55 0 (-1)) 54 1 (-1)) 55 1 (-1)) 54 2 (-1)) 55 2 (-1)) 54 3 (-1)) 55 3 (-1)) 54 4 (-1)) uXJ2) _ _ _ _ _ _
  refine q_aload_n dX0_list_35 rfl ?_
  refine q_getR (c := 0) (n := 0) (k := 11) (a := 55) dX0_list_36 rfl (by decide) (by decide) fX0_21 rfl rfl ?_
  refine q_iload_n dX0_list_39 rfl ?_
  refine q_ic (v := (-1)) dX0_list_40 rfl ?_
  refine q_iast (n := 40) (j := 4) dX0_list_41 rfl rfl (by decide) ?_
  show q_K _ (q_sX (q_up (q_up (q_up (q_up (q_up (q_up (q_up (q_up (q_up (q_up (q_up (q_up (q_up (q_up uXI26 51 0 0) 51 1 0) 51 2 0) 51 4 0) 54 0 (-1)) 55 0 (-1)) 54 1 (-1)) 55 1 (-1)) 54 2 (-1)) 55 2 (-1)) 54 3 (-1)) 55 3 (-1)) 54 4 (-1)) 55 4 (-1)) uXJ2) _ _ _ _ _ _
  refine q_inc (v := 1) dX0_list_42 rfl (Nat.le_of_ble_eq_true rfl) rfl ?_
  refine q_goto (tgt := 22) dX0_list_45 (by decide) ?_
  refine q_iload_n dX0_list_22 rfl ?_
  refine q_bi (v := 40) dX0_list_23 rfl ?_
  refine q_cz_ge (tgt := 48) (a := 5) (b := 40) dX0_list_25 (by decide) rfl rfl (fun h => absurd h (by decide)) (fun _ => ?_)
  refine q_aload_n dX0_list_28 rfl ?_
  refine q_getR (c := 0) (n := 0) (k := 10) (a := 54) dX0_list_29 rfl (by decide) (by decide) fX0_18 rfl rfl ?_
  refine q_iload_n dX0_list_32 rfl ?_
  refine q_ic (v := (-1)) dX0_list_33 rfl ?_
  refine q_iast (n := 40) (j := 5) dX0_list_34 rfl rfl (by decide) ?_
  show q_K _ (q_sX (q_up (q_up (q_up (q_up (q_up (q_up (q_up (q_up (q_up (q_up (q_up (q_up (q_up (q_up (q_up uXI26 51 0 0) 51 1 0) 51 2 0) 51 4 0) 54 0 (-1)) 55 0 (-1)) 54 1 (-1)) 55 1 (-1)) 54 2 (-1)) 55 2 (-1)) 54 3 (-1)) 55 3 (-1)) 54 4 (-1)) 55 4 (-1)) 54 5 (-1)) uXJ2) _ _ _ _ _ _
  refine q_aload_n dX0_list_35 rfl ?_
  refine q_getR (c := 0) (n := 0) (k := 11) (a := 55) dX0_list_36 rfl (by decide) (by decide) fX0_21 rfl rfl ?_
  refine q_iload_n dX0_list_39 rfl ?_
  refine q_ic (v := (-1)) dX0_list_40 rfl ?_
  refine q_iast (n := 40) (j := 5) dX0_list_41 rfl rfl (by decide) ?_
  show q_K _ (q_sX (q_up (q_up (q_up (q_up (q_up (q_up (q_up (q_up (q_up (q_up (q_up (q_up (q_up (q_up (q_up (q_up uXI26 51 0 0) 51 1 0) 51 2 0) 51 4 0) 54 0 (-1)) 55 0 (-1)) 54 1 (-1)) 55 1 (-1)) 54 2 (-1)) 55 2 (-1)) 54 3 (-1)) 55 3 (-1)) 54 4 (-1)) 55 4 (-1)) 54 5 (-1)) 55 5 (-1)) uXJ2) _ _ _ _ _ _
  refine q_inc (v := 1) dX0_list_42 rfl (Nat.le_of_ble_eq_true rfl) rfl ?_
  refine q_goto (tgt := 22) dX0_list_45 (by decide) ?_
  refine q_iload_n dX0_list_22 rfl ?_
  refine q_bi (v := 40) dX0_list_23 rfl ?_
  refine q_cz_ge (tgt := 48) (a := 6) (b := 40) dX0_list_25 (by decide) rfl rfl (fun h => absurd h (by decide)) (fun _ => ?_)
  refine q_aload_n dX0_list_28 rfl ?_
  refine q_getR (c := 0) (n := 0) (k := 10) (a := 54) dX0_list_29 rfl (by decide) (by decide) fX0_18 rfl rfl ?_
  refine q_iload_n dX0_list_32 rfl ?_
  refine q_ic (v := (-1)) dX0_list_33 rfl ?_
  refine q_iast (n := 40) (j := 6) dX0_list_34 rfl rfl (by decide) ?_
  show q_K _ (q_sX (q_up (q_up (q_up (q_up (q_up (q_up (q_up (q_up (q_up (q_up (q_up (q_up (q_up (q_up (q_up (q_up (q_up uXI26 51 0 0) 51 1 0) 51 2 0) 51 4 0) 54 0 (-1)) 55 0 (-1)) 54 1 (-1)) 55 1 (-1)) 54 2 (-1)) 55 2 (-1)) 54 3 (-1)) 55 3 (-1)) 54 4 (-1)) 55 4 (-1)) 54 5 (-1)) 55 5 (-1)) 54 6 (-1)) uXJ2) _ _ _ _ _ _
  refine q_aload_n dX0_list_35 rfl ?_
  refine q_getR (c := 0) (n := 0) (k := 11) (a := 55) dX0_list_36 rfl (by decide) (by decide) fX0_21 rfl rfl ?_
  refine q_iload_n dX0_list_39 rfl ?_
  refine q_ic (v := (-1)) dX0_list_40 rfl ?_
  refine q_iast (n := 40) (j := 6) dX0_list_41 rfl rfl (by decide) ?_
  show q_K _ (q_sX uXI27 uXJ2) _ _ _ _ _ _
  refine q_inc (v := 1) dX0_list_42 rfl (Nat.le_of_ble_eq_true rfl) rfl ?_
  refine q_goto (tgt := 22) dX0_list_45 (by decide) ?_
  refine q_iload_n dX0_list_22 rfl ?_
  refine q_bi (v := 40) dX0_list_23 rfl ?_
  refine q_cz_ge (tgt := 48) (a := 7) (b := 40) dX0_list_25 (by decide) rfl rfl (fun h => absurd h (by decide)) (fun _ => ?_)
  refine q_aload_n dX0_list_28 rfl ?_
  refine q_getR (c := 0) (n := 0) (k := 10) (a := 54) dX0_list_29 rfl (by decide) (by decide) fX0_18 rfl rfl ?_
  refine q_iload_n dX0_list_32 rfl ?_
  refine q_ic (v := (-1)) dX0_list_33 rfl ?_
  refine q_iast (n := 40) (j := 7) dX0_list_34 rfl rfl (by decide) ?_
  show q_K _ (q_sX (q_up uXI27 54 7 (-1)) uXJ2) _ _ _ _ _ _
  refine q_aload_n dX0_list_35 rfl ?_
  refine q_getR (c := 0) (n := 0) (k := 11) (a := 55) dX0_list_36 rfl (by decide) (by decide) fX0_21 rfl rfl ?_
  refine q_iload_n dX0_list_39 rfl ?_
  refine q_ic (v := (-1)) dX0_list_40 rfl ?_
  refine q_iast (n := 40) (j := 7) dX0_list_41 rfl rfl (by decide) ?_
  show q_K _ (q_sX (q_up (q_up uXI27 54 7 (-1)) 55 7 (-1)) uXJ2) _ _ _ _ _ _
  refine q_inc (v := 1) dX0_list_42 rfl (Nat.le_of_ble_eq_true rfl) rfl ?_
  refine q_goto (tgt := 22) dX0_list_45 (by decide) ?_
  refine q_iload_n dX0_list_22 rfl ?_
  refine q_bi (v := 40) dX0_list_23 rfl ?_
  refine q_cz_ge (tgt := 48) (a := 8) (b := 40) dX0_list_25 (by decide) rfl rfl (fun h => absurd h (by decide)) (fun _ => ?_)
  refine q_aload_n dX0_list_28 rfl ?_
  refine q_getR (c := 0) (n := 0) (k := 10) (a := 54) dX0_list_29 rfl (by decide) (by decide) fX0_18 rfl rfl ?_
  refine q_iload_n dX0_list_32 rfl ?_
  refine q_ic (v := (-1)) dX0_list_33 rfl ?_
  refine q_iast (n := 40) (j := 8) dX0_list_34 rfl rfl (by decide) ?_
  show q_K _ (q_sX (q_up (q_up (q_up uXI27 54 7 (-1)) 55 7 (-1)) 54 8 (-1)) uXJ2) _ _ _ _ _ _
  refine q_aload_n dX0_list_35 rfl ?_
  refine q_getR (c := 0) (n := 0) (k := 11) (a := 55) dX0_list_36 rfl (by decide) (by decide) fX0_21 rfl rfl ?_
  refine q_iload_n dX0_list_39 rfl ?_
  refine q_ic (v := (-1)) dX0_list_40 rfl ?_
  refine q_iast (n := 40) (j := 8) dX0_list_41 rfl rfl (by decide) ?_
  show q_K _ (q_sX (q_up (q_up (q_up (q_up uXI27 54 7 (-1)) 55 7 (-1)) 54 8 (-1)) 55 8 (-1)) uXJ2) _ _ _ _ _ _
  refine q_inc (v := 1) dX0_list_42 rfl (Nat.le_of_ble_eq_true rfl) rfl ?_
  refine q_goto (tgt := 22) dX0_list_45 (by decide) ?_
  refine q_iload_n dX0_list_22 rfl ?_
  refine q_bi (v := 40) dX0_list_23 rfl ?_
  refine q_cz_ge (tgt := 48) (a := 9) (b := 40) dX0_list_25 (by decide) rfl rfl (fun h => absurd h (by decide)) (fun _ => ?_)
  refine q_aload_n dX0_list_28 rfl ?_
  refine q_getR (c := 0) (n := 0) (k := 10) (a := 54) dX0_list_29 rfl (by decide) (by decide) fX0_18 rfl rfl ?_
  refine q_iload_n dX0_list_32 rfl ?_
  refine q_ic (v := (-1)) dX0_list_33 rfl ?_
  refine q_iast (n := 40) (j := 9) dX0_list_34 rfl rfl (by decide) ?_
  show q_K _ (q_sX (q_up (q_up (q_up (q_up (q_up uXI27 54 7 (-1)) 55 7 (-1)) 54 8 (-1)) 55 8 (-1)) 54 9 (-1)) uXJ2) _ _ _ _ _ _
  refine q_aload_n dX0_list_35 rfl ?_
  refine q_getR (c := 0) (n := 0) (k := 11) (a := 55) dX0_list_36 rfl (by decide) (by decide) fX0_21 rfl rfl ?_
  refine q_iload_n dX0_list_39 rfl ?_
  refine q_ic (v := (-1)) dX0_list_40 rfl ?_
  refine q_iast (n := 40) (j := 9) dX0_list_41 rfl rfl (by decide) ?_
  show q_K _ (q_sX (q_up (q_up (q_up (q_up (q_up (q_up uXI27 54 7 (-1)) 55 7 (-1)) 54 8 (-1)) 55 8 (-1)) 54 9 (-1)) 55 9 (-1)) uXJ2) _ _ _ _ _ _
  refine q_inc (v := 1) dX0_list_42 rfl (Nat.le_of_ble_eq_true rfl) rfl ?_
  refine q_goto (tgt := 22) dX0_list_45 (by decide) ?_
  refine q_iload_n dX0_list_22 rfl ?_
  refine q_bi (v := 40) dX0_list_23 rfl ?_
  refine q_cz_ge (tgt := 48) (a := 10) (b := 40) dX0_list_25 (by decide) rfl rfl (fun h => absurd h (by decide)) (fun _ => ?_)
  refine q_aload_n dX0_list_28 rfl ?_
  refine q_getR (c := 0) (n := 0) (k := 10) (a := 54) dX0_list_29 rfl (by decide) (by decide) fX0_18 rfl rfl ?_
  refine q_iload_n dX0_list_32 rfl ?_
  refine q_ic (v := (-1)) dX0_list_33 rfl ?_
  refine q_iast (n := 40) (j := 10) dX0_list_34 rfl rfl (by decide) ?_
  show q_K _ (q_sX (q_up (q_up (q_up (q_up (q_up (q_up (q_up uXI27 54 7 (-1)) 55 7 (-1)) 54 8 (-1)) 55 8 (-1)) 54 9 (-1)) 55 9 (-1)) 54 10 (-1)) uXJ2) _ _ _ _ _ _
  refine q_aload_n dX0_list_35 rfl ?_
  refine q_getR (c := 0) (n := 0) (k := 11) (a := 55) dX0_list_36 rfl (by decide) (by decide) fX0_21 rfl rfl ?_
  refine q_iload_n dX0_list_39 rfl ?_
  refine q_ic (v := (-1)) dX0_list_40 rfl ?_
  refine q_iast (n := 40) (j := 10) dX0_list_41 rfl rfl (by decide) ?_
  show q_K _ (q_sX (q_up (q_up (q_up (q_up (q_up (q_up (q_up (q_up uXI27 54 7 (-1)) 55 7 (-1)) 54 8 (-1)) 55 8 (-1)) 54 9 (-1)) 55 9 (-1)) 54 10 (-1)) 55 10 (-1)) uXJ2) _ _ _ _ _ _
  refine q_inc (v := 1) dX0_list_42 rfl (Nat.le_of_ble_eq_true rfl) rfl ?_
  refine q_goto (tgt := 22) dX0_list_45 (by decide) ?_
  refine q_iload_n dX0_list_22 rfl ?_
  refine q_bi (v := 40) dX0_list_23 rfl ?_
  refine q_cz_ge (tgt := 48) (a := 11) (b := 40) dX0_list_25 (by decide) rfl rfl (fun h => absurd h (by decide)) (fun _ => ?_)
  refine q_aload_n dX0_list_28 rfl ?_
  refine q_getR (c := 0) (n := 0) (k := 10) (a := 54) dX0_list_29 rfl (by decide) (by decide) fX0_18 rfl rfl ?_
  refine q_iload_n dX0_list_32 rfl ?_
  refine q_ic (v := (-1)) dX0_list_33 rfl ?_
  refine q_iast (n := 40) (j := 11) dX0_list_34 rfl rfl (by decide) ?_
  show q_K _ (q_sX (q_up (q_up (q_up (q_up (q_up (q_up (q_up (q_up (q_up uXI27 54 7 (-1)) 55 7 (-1)) 54 8 (-1)) 55 8 (-1)) 54 9 (-1)) 55 9 (-1)) 54 10 (-1)) 55 10 (-1)) 54 11 (-1)) uXJ2) _ _ _ _ _ _
  refine q_aload_n dX0_list_35 rfl ?_
  refine q_getR (c := 0) (n := 0) (k := 11) (a := 55) dX0_list_36 rfl (by decide) (by decide) fX0_21 rfl rfl ?_
  refine q_iload_n dX0_list_39 rfl ?_
  refine q_ic (v := (-1)) dX0_list_40 rfl ?_
  refine q_iast (n := 40) (j := 11) dX0_list_41 rfl rfl (by decide) ?_
  show q_K _ (q_sX (q_up (q_up (q_up (q_up (q_up (q_up (q_up (q_up (q_up (q_up uXI27 54 7 (-1)) 55 7 (-1)) 54 8 (-1)) 55 8 (-1)) 54 9 (-1)) 55 9 (-1)) 54 10 (-1)) 55 10 (-1)) 54 11 (-1)) 55 11 (-1)) uXJ2) _ _ _ _ _ _
  refine q_inc (v := 1) dX0_list_42 rfl (Nat.le_of_ble_eq_true rfl) rfl ?_
  refine q_goto (tgt := 22) dX0_list_45 (by decide) ?_
  refine q_iload_n dX0_list_22 rfl ?_
  refine q_bi (v := 40) dX0_list_23 rfl ?_
  refine q_cz_ge (tgt := 48) (a := 12) (b := 40) dX0_list_25 (by decide) rfl rfl (fun h => absurd h (by decide)) (fun _ => ?_)
  refine q_aload_n dX0_list_28 rfl ?_
  refine q_getR (c := 0) (n := 0) (k := 10) (a := 54) dX0_list_29 rfl (by decide) (by decide) fX0_18 rfl rfl ?_
  refine q_iload_n dX0_list_32 rfl ?_
  refine q_ic (v := (-1)) dX0_list_33 rfl ?_
  refine q_iast (n := 40) (j := 12) dX0_list_34 rfl rfl (by decide) ?_
  show q_K _ (q_sX (q_up (q_up (q_up (q_up (q_up (q_up (q_up (q_up (q_up (q_up (q_up uXI27 54 7 (-1)) 55 7 (-1)) 54 8 (-1)) 55 8 (-1)) 54 9 (-1)) 55 9 (-1)) 54 10 (-1)) 55 10 (-1)) 54 11 (-1)) 55 11 (-1)) 54 12 (-1)) uXJ2) _ _ _ _ _ _
  refine q_aload_n dX0_list_35 rfl ?_
  refine q_getR (c := 0) (n := 0) (k := 11) (a := 55) dX0_list_36 rfl (by decide) (by decide) fX0_21 rfl rfl ?_
  refine q_iload_n dX0_list_39 rfl ?_
  refine q_ic (v := (-1)) dX0_list_40 rfl ?_
  refine q_iast (n := 40) (j := 12) dX0_list_41 rfl rfl (by decide) ?_
  show q_K _ (q_sX (q_up (q_up (q_up (q_up (q_up (q_up (q_up (q_up (q_up (q_up (q_up (q_up uXI27 54 7 (-1)) 55 7 (-1)) 54 8 (-1)) 55 8 (-1)) 54 9 (-1)) 55 9 (-1)) 54 10 (-1)) 55 10 (-1)) 54 11 (-1)) 55 11 (-1)) 54 12 (-1)) 55 12 (-1)) uXJ2) _ _ _ _ _ _
  refine q_inc (v := 1) dX0_list_42 rfl (Nat.le_of_ble_eq_true rfl) rfl ?_
  refine q_goto (tgt := 22) dX0_list_45 (by decide) ?_
  refine q_iload_n dX0_list_22 rfl ?_
  refine q_bi (v := 40) dX0_list_23 rfl ?_
  refine q_cz_ge (tgt := 48) (a := 13) (b := 40) dX0_list_25 (by decide) rfl rfl (fun h => absurd h (by decide)) (fun _ => ?_)
  refine q_aload_n dX0_list_28 rfl ?_
  refine q_getR (c := 0) (n := 0) (k := 10) (a := 54) dX0_list_29 rfl (by decide) (by decide) fX0_18 rfl rfl ?_
  refine q_iload_n dX0_list_32 rfl ?_
  refine q_ic (v := (-1)) dX0_list_33 rfl ?_
  refine q_iast (n := 40) (j := 13) dX0_list_34 rfl rfl (by decide) ?_
  show q_K _ (q_sX (q_up (q_up (q_up (q_up (q_up (q_up (q_up (q_up (q_up (q_up (q_up (q_up (q_up uXI27 54 7 (-1)) 55 7 (-1)) 54 8 (-1)) 55 8 (-1)) 54 9 (-1)) 55 9 (-1)) 54 10 (-1)) 55 10 (-1)) 54 11 (-1)) 55 11 (-1)) 54 12 (-1)) 55 12 (-1)) 54 13 (-1)) uXJ2) _ _ _ _ _ _
  refine q_aload_n dX0_list_35 rfl ?_
  refine q_getR (c := 0) (n := 0) (k := 11) (a := 55) dX0_list_36 rfl (by decide) (by decide) fX0_21 rfl rfl ?_
  refine q_iload_n dX0_list_39 rfl ?_
  refine q_ic (v := (-1)) dX0_list_40 rfl ?_
  refine q_iast (n := 40) (j := 13) dX0_list_41 rfl rfl (by decide) ?_
  show q_K _ (q_sX (q_up (q_up (q_up (q_up (q_up (q_up (q_up (q_up (q_up (q_up (q_up (q_up (q_up (q_up uXI27 54 7 (-1)) 55 7 (-1)) 54 8 (-1)) 55 8 (-1)) 54 9 (-1)) 55 9 (-1)) 54 10 (-1)) 55 10 (-1)) 54 11 (-1)) 55 11 (-1)) 54 12 (-1)) 55 12 (-1)) 54 13 (-1)) 55 13 (-1)) uXJ2) _ _ _ _ _ _
  refine q_inc (v := 1) dX0_list_42 rfl (Nat.le_of_ble_eq_true rfl) rfl ?_
  refine q_goto (tgt := 22) dX0_list_45 (by decide) ?_
  refine q_iload_n dX0_list_22 rfl ?_
  refine q_bi (v := 40) dX0_list_23 rfl ?_
  refine q_cz_ge (tgt := 48) (a := 14) (b := 40) dX0_list_25 (by decide) rfl rfl (fun h => absurd h (by decide)) (fun _ => ?_)
  refine q_aload_n dX0_list_28 rfl ?_
  refine q_getR (c := 0) (n := 0) (k := 10) (a := 54) dX0_list_29 rfl (by decide) (by decide) fX0_18 rfl rfl ?_
  refine q_iload_n dX0_list_32 rfl ?_
  refine q_ic (v := (-1)) dX0_list_33 rfl ?_
  refine q_iast (n := 40) (j := 14) dX0_list_34 rfl rfl (by decide) ?_
  show q_K _ (q_sX (q_up (q_up (q_up (q_up (q_up (q_up (q_up (q_up (q_up (q_up (q_up (q_up (q_up (q_up (q_up uXI27 54 7 (-1)) 55 7 (-1)) 54 8 (-1)) 55 8 (-1)) 54 9 (-1)) 55 9 (-1)) 54 10 (-1)) 55 10 (-1)) 54 11 (-1)) 55 11 (-1)) 54 12 (-1)) 55 12 (-1)) 54 13 (-1)) 55 13 (-1)) 54 14 (-1)) uXJ2) _ _ _ _ _ _
  refine q_aload_n dX0_list_35 rfl ?_
  refine q_getR (c := 0) (n := 0) (k := 11) (a := 55) dX0_list_36 rfl (by decide) (by decide) fX0_21 rfl rfl ?_
  refine q_iload_n dX0_list_39 rfl ?_
  refine q_ic (v := (-1)) dX0_list_40 rfl ?_
  refine q_iast (n := 40) (j := 14) dX0_list_41 rfl rfl (by decide) ?_
  show q_K _ (q_sX (q_up (q_up (q_up (q_up (q_up (q_up (q_up (q_up (q_up (q_up (q_up (q_up (q_up (q_up (q_up (q_up uXI27 54 7 (-1)) 55 7 (-1)) 54 8 (-1)) 55 8 (-1)) 54 9 (-1)) 55 9 (-1)) 54 10 (-1)) 55 10 (-1)) 54 11 (-1)) 55 11 (-1)) 54 12 (-1)) 55 12 (-1)) 54 13 (-1)) 55 13 (-1)) 54 14 (-1)) 55 14 (-1)) uXJ2) _ _ _ _ _ _
  refine q_inc (v := 1) dX0_list_42 rfl (Nat.le_of_ble_eq_true rfl) rfl ?_
  refine q_goto (tgt := 22) dX0_list_45 (by decide) ?_
  refine q_iload_n dX0_list_22 rfl ?_
  refine q_bi (v := 40) dX0_list_23 rfl ?_
  refine q_cz_ge (tgt := 48) (a := 15) (b := 40) dX0_list_25 (by decide) rfl rfl (fun h => absurd h (by decide)) (fun _ => ?_)
  refine q_aload_n dX0_list_28 rfl ?_
  refine q_getR (c := 0) (n := 0) (k := 10) (a := 54) dX0_list_29 rfl (by decide) (by decide) fX0_18 rfl rfl ?_
  refine q_iload_n dX0_list_32 rfl ?_
  refine q_ic (v := (-1)) dX0_list_33 rfl ?_
  refine q_iast (n := 40) (j := 15) dX0_list_34 rfl rfl (by decide) ?_
  show q_K _ (q_sX (q_up (q_up (q_up (q_up (q_up (q_up (q_up (q_up (q_up (q_up (q_up (q_up (q_up (q_up (q_up (q_up (q_up uXI27 54 7 (-1)) 55 7 (-1)) 54 8 (-1)) 55 8 (-1)) 54 9 (-1)) 55 9 (-1)) 54 10 (-1)) 55 10 (-1)) 54 11 (-1)) 55 11 (-1)) 54 12 (-1)) 55 12 (-1)) 54 13 (-1)) 55 13 (-1)) 54 14 (-1)) 55 14 (-1)) 54 15 (-1)) uXJ2) _ _ _ _ _ _
  refine q_aload_n dX0_list_35 rfl ?_
  refine q_getR (c := 0) (n := 0) (k := 11) (a := 55) dX0_list_36 rfl (by decide) (by decide) fX0_21 rfl rfl ?_
  refine q_iload_n dX0_list_39 rfl ?_
  refine q_ic (v := (-1)) dX0_list_40 rfl ?_
  refine q_iast (n := 40) (j := 15) dX0_list_41 rfl rfl (by decide) ?_
  show q_K _ (q_sX (q_up (q_up (q_up (q_up (q_up (q_up (q_up (q_up (q_up (q_up (q_up (q_up (q_up (q_up (q_up (q_up (q_up (q_up uXI27 54 7 (-1)) 55 7 (-1)) 54 8 (-1)) 55 8 (-1)) 54 9 (-1)) 55 9 (-1)) 54 10 (-1)) 55 10 (-1)) 54 11 (-1)) 55 11 (-1)) 54 12 (-1)) 55 12 (-1)) 54 13 (-1)) 55 13 (-1)) 54 14 (-1)) 55 14 (-1)) 54 15 (-1)) 55 15 (-1)) uXJ2) _ _ _ _ _ _
  refine q_inc (v := 1) dX0_list_42 rfl (Nat.le_of_ble_eq_true rfl) rfl ?_
  refine q_goto (tgt := 22) dX0_list_45 (by decide) ?_
  refine q_iload_n dX0_list_22 rfl ?_
  refine q_bi (v := 40) dX0_list_23 rfl ?_
  refine q_cz_ge (tgt := 48) (a := 16) (b := 40) dX0_list_25 (by decide) rfl rfl (fun h => absurd h (by decide)) (fun _ => ?_)
  refine q_aload_n dX0_list_28 rfl ?_
  refine q_getR (c := 0) (n := 0) (k := 10) (a := 54) dX0_list_29 rfl (by decide) (by decide) fX0_18 rfl rfl ?_
  refine q_iload_n dX0_list_32 rfl ?_
  refine q_ic (v := (-1)) dX0_list_33 rfl ?_
  refine q_iast (n := 40) (j := 16) dX0_list_34 rfl rfl (by decide) ?_
  show q_K _ (q_sX (q_up (q_up (q_up (q_up (q_up (q_up (q_up (q_up (q_up (q_up (q_up (q_up (q_up (q_up (q_up (q_up (q_up (q_up (q_up uXI27 54 7 (-1)) 55 7 (-1)) 54 8 (-1)) 55 8 (-1)) 54 9 (-1)) 55 9 (-1)) 54 10 (-1)) 55 10 (-1)) 54 11 (-1)) 55 11 (-1)) 54 12 (-1)) 55 12 (-1)) 54 13 (-1)) 55 13 (-1)) 54 14 (-1)) 55 14 (-1)) 54 15 (-1)) 55 15 (-1)) 54 16 (-1)) uXJ2) _ _ _ _ _ _
  refine q_aload_n dX0_list_35 rfl ?_
  refine q_getR (c := 0) (n := 0) (k := 11) (a := 55) dX0_list_36 rfl (by decide) (by decide) fX0_21 rfl rfl ?_
  refine q_iload_n dX0_list_39 rfl ?_
  refine q_ic (v := (-1)) dX0_list_40 rfl ?_
  refine q_iast (n := 40) (j := 16) dX0_list_41 rfl rfl (by decide) ?_
  show q_K _ (q_sX (q_up (q_up (q_up (q_up (q_up (q_up (q_up (q_up (q_up (q_up (q_up (q_up (q_up (q_up (q_up (q_up (q_up (q_up (q_up (q_up uXI27 54 7 (-1)) 55 7 (-1)) 54 8 (-1)) 55 8 (-1)) 54 9 (-1)) 55 9 (-1)) 54 10 (-1)) 55 10 (-1)) 54 11 (-1)) 55 11 (-1)) 54 12 (-1)) 55 12 (-1)) 54 13 (-1)) 55 13 (-1)) 54 14 (-1)) 55 14 (-1)) 54 15 (-1)) 55 15 (-1)) 54 16 (-1)) 55 16 (-1)) uXJ2) _ _ _ _ _ _
  refine q_inc (v := 1) dX0_list_42 rfl (Nat.le_of_ble_eq_true rfl) rfl ?_
  refine q_goto (tgt := 22) dX0_list_45 (by decide) ?_
  refine q_iload_n dX0_list_22 rfl ?_
  refine q_bi (v := 40) dX0_list_23 rfl ?_
  refine q_cz_ge (tgt := 48) (a := 17) (b := 40) dX0_list_25 (by decide) rfl rfl (fun h => absurd h (by decide)) (fun _ => ?_)
  refine q_aload_n dX0_list_28 rfl ?_
  refine q_getR (c := 0) (n := 0) (k := 10) (a := 54) dX0_list_29 rfl (by decide) (by decide) fX0_18 rfl rfl ?_
  refine q_iload_n dX0_list_32 rfl ?_
  refine q_ic (v := (-1)) dX0_list_33 rfl ?_
  refine q_iast (n := 40) (j := 17) dX0_list_34 rfl rfl (by decide) ?_
  show q_K _ (q_sX (q_up (q_up (q_up (q_up (q_up (q_up (q_up (q_up (q_up (q_up (q_up (q_up (q_up (q_up (q_up (q_up (q_up (q_up (q_up (q_up (q_up uXI27 54 7 (-1)) 55 7 (-1)) 54 8 (-1)) 55 8 (-1)) 54 9 (-1)) 55 9 (-1)) 54 10 (-1)) 55 10 (-1)) 54 11 (-1)) 55 11 (-1)) 54 12 (-1)) 55 12 (-1)) 54 13 (-1)) 55 13 (-1)) 54 14 (-1)) 55 14 (-1)) 54 15 (-1)) 55 15 (-1)) 54 16 (-1)) 55 16 (-1)) 54 17 (-1)) uXJ2) _ _ _ _ _ _
  refine q_aload_n dX0_list_35 rfl ?_
  refine q_getR (c := 0) (n := 0) (k := 11) (a := 55) dX0_list_36 rfl (by decide) (by decide) fX0_21 rfl rfl ?_
  refine q_iload_n dX0_list_39 rfl ?_
  refine q_ic (v := (-1)) dX0_list_40 rfl ?_
  refine q_iast (n := 40) (j := 17) dX0_list_41 rfl rfl (by decide) ?_
  show q_K _ (q_sX (q_up (q_up (q_up (q_up (q_up (q_up (q_up (q_up (q_up (q_up (q_up (q_up (q_up (q_up (q_up (q_up (q_up (q_up (q_up (q_up (q_up (q_up uXI27 54 7 (-1)) 55 7 (-1)) 54 8 (-1)) 55 8 (-1)) 54 9 (-1)) 55 9 (-1)) 54 10 (-1)) 55 10 (-1)) 54 11 (-1)) 55 11 (-1)) 54 12 (-1)) 55 12 (-1)) 54 13 (-1)) 55 13 (-1)) 54 14 (-1)) 55 14 (-1)) 54 15 (-1)) 55 15 (-1)) 54 16 (-1)) 55 16 (-1)) 54 17 (-1)) 55 17 (-1)) uXJ2) _ _ _ _ _ _
  refine q_inc (v := 1) dX0_list_42 rfl (Nat.le_of_ble_eq_true rfl) rfl ?_
  refine q_goto (tgt := 22) dX0_list_45 (by decide) ?_
  refine q_iload_n dX0_list_22 rfl ?_
  refine q_bi (v := 40) dX0_list_23 rfl ?_
  refine q_cz_ge (tgt := 48) (a := 18) (b := 40) dX0_list_25 (by decide) rfl rfl (fun h => absurd h (by decide)) (fun _ => ?_)
  refine q_aload_n dX0_list_28 rfl ?_
  refine q_getR (c := 0) (n := 0) (k := 10) (a := 54) dX0_list_29 rfl (by decide) (by decide) fX0_18 rfl rfl ?_
  refine q_iload_n dX0_list_32 rfl ?_
  refine q_ic (v := (-1)) dX0_list_33 rfl ?_
  refine q_iast (n := 40) (j := 18) dX0_list_34 rfl rfl (by decide) ?_
  show q_K _ (q_sX (q_up (q_up (q_up (q_up (q_up (q_up (q_up (q_up (q_up (q_up (q_up (q_up (q_up (q_up (q_up (q_up (q_up (q_up (q_up (q_up (q_up (q_up (q_up uXI27 54 7 (-1)) 55 7 (-1)) 54 8 (-1)) 55 8 (-1)) 54 9 (-1)) 55 9 (-1)) 54 10 (-1)) 55 10 (-1)) 54 11 (-1)) 55 11 (-1)) 54 12 (-1)) 55 12 (-1)) 54 13 (-1)) 55 13 (-1)) 54 14 (-1)) 55 14 (-1)) 54 15 (-1)) 55 15 (-1)) 54 16 (-1)) 55 16 (-1)) 54 17 (-1)) 55 17 (-1)) 54 18 (-1)) uXJ2) _ _ _ _ _ _
  refine q_aload_n dX0_list_35 rfl ?_
  refine q_getR (c := 0) (n := 0) (k := 11) (a := 55) dX0_list_36 rfl (by decide) (by decide) fX0_21 rfl rfl ?_
  refine q_iload_n dX0_list_39 rfl ?_
  refine q_ic (v := (-1)) dX0_list_40 rfl ?_
  refine q_iast (n := 40) (j := 18) dX0_list_41 rfl rfl (by decide) ?_
  show q_K _ (q_sX uXI28 uXJ2) _ _ _ _ _ _
  refine q_inc (v := 1) dX0_list_42 rfl (Nat.le_of_ble_eq_true rfl) rfl ?_
  refine q_goto (tgt := 22) dX0_list_45 (by decide) ?_
  refine q_iload_n dX0_list_22 rfl ?_
  refine q_bi (v := 40) dX0_list_23 rfl ?_
  refine q_cz_ge (tgt := 48) (a := 19) (b := 40) dX0_list_25 (by decide) rfl rfl (fun h => absurd h (by decide)) (fun _ => ?_)
  refine q_aload_n dX0_list_28 rfl ?_
  refine q_getR (c := 0) (n := 0) (k := 10) (a := 54) dX0_list_29 rfl (by decide) (by decide) fX0_18 rfl rfl ?_
  refine q_iload_n dX0_list_32 rfl ?_
  refine q_ic (v := (-1)) dX0_list_33 rfl ?_
  refine q_iast (n := 40) (j := 19) dX0_list_34 rfl rfl (by decide) ?_
  show q_K _ (q_sX (q_up uXI28 54 19 (-1)) uXJ2) _ _ _ _ _ _
  refine q_aload_n dX0_list_35 rfl ?_
  refine q_getR (c := 0) (n := 0) (k := 11) (a := 55) dX0_list_36 rfl (by decide) (by decide) fX0_21 rfl rfl ?_
  refine q_iload_n dX0_list_39 rfl ?_
  refine q_ic (v := (-1)) dX0_list_40 rfl ?_
  refine q_iast (n := 40) (j := 19) dX0_list_41 rfl rfl (by decide) ?_
  show q_K _ (q_sX (q_up (q_up uXI28 54 19 (-1)) 55 19 (-1)) uXJ2) _ _ _ _ _ _
  refine q_inc (v := 1) dX0_list_42 rfl (Nat.le_of_ble_eq_true rfl) rfl ?_
  refine q_goto (tgt := 22) dX0_list_45 (by decide) ?_
  refine q_iload_n dX0_list_22 rfl ?_
  refine q_bi (v := 40) dX0_list_23 rfl ?_
  refine q_cz_ge (tgt := 48) (a := 20) (b := 40) dX0_list_25 (by decide) rfl rfl (fun h => absurd h (by decide)) (fun _ => ?_)
  refine q_aload_n dX0_list_28 rfl ?_
  refine q_getR (c := 0) (n := 0) (k := 10) (a := 54) dX0_list_29 rfl (by decide) (by decide) fX0_18 rfl rfl ?_
  refine q_iload_n dX0_list_32 rfl ?_
  refine q_ic (v := (-1)) dX0_list_33 rfl ?_
  refine q_iast (n := 40) (j := 20) dX0_list_34 rfl rfl (by decide) ?_
  show q_K _ (q_sX (q_up (q_up (q_up uXI28 54 19 (-1)) 55 19 (-1)) 54 20 (-1)) uXJ2) _ _ _ _ _ _
  refine q_aload_n dX0_list_35 rfl ?_
  refine q_getR (c := 0) (n := 0) (k := 11) (a := 55) dX0_list_36 rfl (by decide) (by decide) fX0_21 rfl rfl ?_
  refine q_iload_n dX0_list_39 rfl ?_
  refine q_ic (v := (-1)) dX0_list_40 rfl ?_
  refine q_iast (n := 40) (j := 20) dX0_list_41 rfl rfl (by decide) ?_
  show q_K _ (q_sX (q_up (q_up (q_up (q_up uXI28 54 19 (-1)) 55 19 (-1)) 54 20 (-1)) 55 20 (-1)) uXJ2) _ _ _ _ _ _
  refine q_inc (v := 1) dX0_list_42 rfl (Nat.le_of_ble_eq_true rfl) rfl ?_
  refine q_goto (tgt := 22) dX0_list_45 (by decide) ?_
  refine q_iload_n dX0_list_22 rfl ?_
  refine q_bi (v := 40) dX0_list_23 rfl ?_
  refine q_cz_ge (tgt := 48) (a := 21) (b := 40) dX0_list_25 (by decide) rfl rfl (fun h => absurd h (by decide)) (fun _ => ?_)
  refine q_aload_n dX0_list_28 rfl ?_
  refine q_getR (c := 0) (n := 0) (k := 10) (a := 54) dX0_list_29 rfl (by decide) (by decide) fX0_18 rfl rfl ?_
  refine q_iload_n dX0_list_32 rfl ?_
  refine q_ic (v := (-1)) dX0_list_33 rfl ?_
  refine q_iast (n := 40) (j := 21) dX0_list_34 rfl rfl (by decide) ?_
  show q_K _ (q_sX (q_up (q_up (q_up (q_up (q_up uXI28 54 19 (-1)) 55 19 (-1)) 54 20 (-1)) 55 20 (-1)) 54 21 (-1)) uXJ2) _ _ _ _ _ _
  refine q_aload_n dX0_list_35 rfl ?_
  refine q_getR (c := 0) (n := 0) (k := 11) (a := 55) dX0_list_36 rfl (by decide) (by decide) fX0_21 rfl rfl ?_
  refine q_iload_n dX0_list_39 rfl ?_
  refine q_ic (v := (-1)) dX0_list_40 rfl ?_
  refine q_iast (n := 40) (j := 21) dX0_list_41 rfl rfl (by decide) ?_
  show q_K _ (q_sX (q_up (q_up (q_up (q_up (q_up (q_up uXI28 54 19 (-1)) 55 19 (-1)) 54 20 (-1)) 55 20 (-1)) 54 21 (-1)) 55 21 (-1)) uXJ2) _ _ _ _ _ _
  refine q_inc (v := 1) dX0_list_42 rfl (Nat.le_of_ble_eq_true rfl) rfl ?_
  refine q_goto (tgt := 22) dX0_list_45 (by decide) ?_
  refine q_iload_n dX0_list_22 rfl ?_
  refine q_bi (v := 40) dX0_list_23 rfl ?_
  refine q_cz_ge (tgt := 48) (a := 22) (b := 40) dX0_list_25 (by decide) rfl rfl (fun h => absurd h (by decide)) (fun _ => ?_)
  refine q_aload_n dX0_list_28 rfl ?_
  refine q_getR (c := 0) (n := 0) (k := 10) (a := 54) dX0_list_29 rfl (by decide) (by decide) fX0_18 rfl rfl ?_
  refine q_iload_n dX0_list_32 rfl ?_
  refine q_ic (v := (-1)) dX0_list_33 rfl ?_
  refine q_iast (n := 40) (j := 22) dX0_list_34 rfl rfl (by decide) ?_
  show q_K _ (q_sX (q_up (q_up (q_up (q_up (q_up (q_up (q_up uXI28 54 19 (-1)) 55 19 (-1)) 54 20 (-1)) 55 20 (-1)) 54 21 (-1)) 55 21 (-1)) 54 22 (-1)) uXJ2) _ _ _ _ _ _
  refine q_aload_n dX0_list_35 rfl ?_
  refine q_getR (c := 0) (n := 0) (k := 11) (a := 55) dX0_list_36 rfl (by decide) (by decide) fX0_21 rfl rfl ?_
  refine q_iload_n dX0_list_39 rfl ?_
  refine q_ic (v := (-1)) dX0_list_40 rfl ?_
  refine q_iast (n := 40) (j := 22) dX0_list_41 rfl rfl (by decide) ?_
  show q_K _ (q_sX (q_up (q_up (q_up (q_up (q_up (q_up (q_up (q_up uXI28 54 19 (-1)) 55 19 (-1)) 54 20 (-1)) 55 20 (-1)) 54 21 (-1)) 55 21 (-1)) 54 22 (-1)) 55 22 (-1)) uXJ2) _ _ _ _ _ _
  refine q_inc (v := 1) dX0_list_42 rfl (Nat.le_of_ble_eq_true rfl) rfl ?_
  refine q_goto (tgt := 22) dX0_list_45 (by decide) ?_
  refine q_iload_n dX0_list_22 rfl ?_
  refine q_bi (v := 40) dX0_list_23 rfl ?_
  refine q_cz_ge (tgt := 48) (a := 23) (b := 40) dX0_list_25 (by decide) rfl rfl (fun h => absurd h (by decide)) (fun _ => ?_)
  refine q_aload_n dX0_list_28 rfl ?_
  refine q_getR (c := 0) (n := 0) (k := 10) (a := 54) dX0_list_29 rfl (by decide) (by decide) fX0_18 rfl rfl ?_
  refine q_iload_n dX0_list_32 rfl ?_
  refine q_ic (v := (-1)) dX0_list_33 rfl ?_
  refine q_iast (n := 40) (j := 23) dX0_list_34 rfl rfl (by decide) ?_
  show q_K _ (q_sX (q_up (q_up (q_up (q_up (q_up (q_up (q_up (q_up (q_up uXI28 54 19 (-1)) 55 19 (-1)) 54 20 (-1)) 55 20 (-1)) 54 21 (-1)) 55 21 (-1)) 54 22 (-1)) 55 22 (-1)) 54 23 (-1)) uXJ2) _ _ _ _ _ _
  refine q_aload_n dX0_list_35 rfl ?_
  refine q_getR (c := 0) (n := 0) (k := 11) (a := 55) dX0_list_36 rfl (by decide) (by decide) fX0_21 rfl rfl ?_
  refine q_iload_n dX0_list_39 rfl ?_
  refine q_ic (v := (-1)) dX0_list_40 rfl ?_
  refine q_iast (n := 40) (j := 23) dX0_list_41 rfl rfl (by decide) ?_
  show q_K _ (q_sX (q_up (q_up (q_up (q_up (q_up (q_up (q_up (q_up (q_up (q_up uXI28 54 19 (-1)) 55 19 (-1)) 54 20 (-1)) 55 20 (-1)) 54 21 (-1)) 55 21 (-1)) 54 22 (-1)) 55 22 (-1)) 54 23 (-1)) 55 23 (-1)) uXJ2) _ _ _ _ _ _
  refine q_inc (v := 1) dX0_list_42 rfl (Nat.le_of_ble_eq_true rfl) rfl ?_
  refine q_goto (tgt := 22) dX0_list_45 (by decide) ?_
  refine q_iload_n dX0_list_22 rfl ?_
  refine q_bi (v := 40) dX0_list_23 rfl ?_
  refine q_cz_ge (tgt := 48) (a := 24) (b := 40) dX0_list_25 (by decide) rfl rfl (fun h => absurd h (by decide)) (fun _ => ?_)
  refine q_aload_n dX0_list_28 rfl ?_
  refine q_getR (c := 0) (n := 0) (k := 10) (a := 54) dX0_list_29 rfl (by decide) (by decide) fX0_18 rfl rfl ?_
  refine q_iload_n dX0_list_32 rfl ?_
  refine q_ic (v := (-1)) dX0_list_33 rfl ?_
  refine q_iast (n := 40) (j := 24) dX0_list_34 rfl rfl (by decide) ?_
  show q_K _ (q_sX (q_up (q_up (q_up (q_up (q_up (q_up (q_up (q_up (q_up (q_up (q_up uXI28 54 19 (-1)) 55 19 (-1)) 54 20 (-1)) 55 20 (-1)) 54 21 (-1)) 55 21 (-1)) 54 22 (-1)) 55 22 (-1)) 54 23 (-1)) 55 23 (-1)) 54 24 (-1)) uXJ2) _ _ _ _ _ _
  refine q_aload_n dX0_list_35 rfl ?_
  refine q_getR (c := 0) (n := 0) (k := 11) (a := 55) dX0_list_36 rfl (by decide) (by decide) fX0_21 rfl rfl ?_
  refine q_iload_n dX0_list_39 rfl ?_
  refine q_ic (v := (-1)) dX0_list_40 rfl ?_
  refine q_iast (n := 40) (j := 24) dX0_list_41 rfl rfl (by decide) ?_
  show q_K _ (q_sX (q_up (q_up (q_up (q_up (q_up (q_up (q_up (q_up (q_up (q_up (q_up (q_up uXI28 54 19 (-1)) 55 19 (-1)) 54 20 (-1)) 55 20 (-1)) 54 21 (-1)) 55 21 (-1)) 54 22 (-1)) 55 22 (-1)) 54 23 (-1)) 55 23 (-1)) 54 24 (-1)) 55 24 (-1)) uXJ2) _ _ _ _ _ _
  refine q_inc (v := 1) dX0_list_42 rfl (Nat.le_of_ble_eq_true rfl) rfl ?_
  refine q_goto (tgt := 22) dX0_list_45 (by decide) ?_
  refine q_iload_n dX0_list_22 rfl ?_
  refine q_bi (v := 40) dX0_list_23 rfl ?_
  refine q_cz_ge (tgt := 48) (a := 25) (b := 40) dX0_list_25 (by decide) rfl rfl (fun h => absurd h (by decide)) (fun _ => ?_)
  refine q_aload_n dX0_list_28 rfl ?_
  refine q_getR (c := 0) (n := 0) (k := 10) (a := 54) dX0_list_29 rfl (by decide) (by decide) fX0_18 rfl rfl ?_
  refine q_iload_n dX0_list_32 rfl ?_
  refine q_ic (v := (-1)) dX0_list_33 rfl ?_
  refine q_iast (n := 40) (j := 25) dX0_list_34 rfl rfl (by decide) ?_
  show q_K _ (q_sX (q_up (q_up (q_up (q_up (q_up (q_up (q_up (q_up (q_up (q_up (q_up (q_up (q_up uXI28 54 19 (-1)) 55 19 (-1)) 54 20 (-1)) 55 20 (-1)) 54 21 (-1)) 55 21 (-1)) 54 22 (-1)) 55 22 (-1)) 54 23 (-1)) 55 23 (-1)) 54 24 (-1)) 55 24 (-1)) 54 25 (-1)) uXJ2) _ _ _ _ _ _
  refine q_aload_n dX0_list_35 rfl ?_
  refine q_getR (c := 0) (n := 0) (k := 11) (a := 55) dX0_list_36 rfl (by decide) (by decide) fX0_21 rfl rfl ?_
  refine q_iload_n dX0_list_39 rfl ?_
  refine q_ic (v := (-1)) dX0_list_40 rfl ?_
  refine q_iast (n := 40) (j := 25) dX0_list_41 rfl rfl (by decide) ?_
  show q_K _ (q_sX (q_up (q_up (q_up (q_up (q_up (q_up (q_up (q_up (q_up (q_up (q_up (q_up (q_up (q_up uXI28 54 19 (-1)) 55 19 (-1)) 54 20 (-1)) 55 20 (-1)) 54 21 (-1)) 55 21 (-1)) 54 22 (-1)) 55 22 (-1)) 54 23 (-1)) 55 23 (-1)) 54 24 (-1)) 55 24 (-1)) 54 25 (-1)) 55 25 (-1)) uXJ2) _ _ _ _ _ _
  refine q_inc (v := 1) dX0_list_42 rfl (Nat.le_of_ble_eq_true rfl) rfl ?_
  refine q_goto (tgt := 22) dX0_list_45 (by decide) ?_
  refine q_iload_n dX0_list_22 rfl ?_
  refine q_bi (v := 40) dX0_list_23 rfl ?_
  refine q_cz_ge (tgt := 48) (a := 26) (b := 40) dX0_list_25 (by decide) rfl rfl (fun h => absurd h (by decide)) (fun _ => ?_)
  refine q_aload_n dX0_list_28 rfl ?_
  refine q_getR (c := 0) (n := 0) (k := 10) (a := 54) dX0_list_29 rfl (by decide) (by decide) fX0_18 rfl rfl ?_
  refine q_iload_n dX0_list_32 rfl ?_
  refine q_ic (v := (-1)) dX0_list_33 rfl ?_
  refine q_iast (n := 40) (j := 26) dX0_list_34 rfl rfl (by decide) ?_
  show q_K _ (q_sX (q_up (q_up (q_up (q_up (q_up (q_up (q_up (q_up (q_up (q_up (q_up (q_up (q_up (q_up (q_up uXI28 54 19 (-1)) 55 19 (-1)) 54 20 (-1)) 55 20 (-1)) 54 21 (-1)) 55 21 (-1)) 54 22 (-1)) 55 22 (-1)) 54 23 (-1)) 55 23 (-1)) 54 24 (-1)) 55 24 (-1)) 54 25 (-1)) 55 25 (-1)) 54 26 (-1)) uXJ2) _ _ _ _ _ _
  refine q_aload_n dX0_list_35 rfl ?_
  refine q_getR (c := 0) (n := 0) (k := 11) (a := 55) dX0_list_36 rfl (by decide) (by decide) fX0_21 rfl rfl ?_
  refine q_iload_n dX0_list_39 rfl ?_
  refine q_ic (v := (-1)) dX0_list_40 rfl ?_
  refine q_iast (n := 40) (j := 26) dX0_list_41 rfl rfl (by decide) ?_
  show q_K _ (q_sX (q_up (q_up (q_up (q_up (q_up (q_up (q_up (q_up (q_up (q_up (q_up (q_up (q_up (q_up (q_up (q_up uXI28 54 19 (-1)) 55 19 (-1)) 54 20 (-1)) 55 20 (-1)) 54 21 (-1)) 55 21 (-1)) 54 22 (-1)) 55 22 (-1)) 54 23 (-1)) 55 23 (-1)) 54 24 (-1)) 55 24 (-1)) 54 25 (-1)) 55 25 (-1)) 54 26 (-1)) 55 26 (-1)) uXJ2) _ _ _ _ _ _
  refine q_inc (v := 1) dX0_list_42 rfl (Nat.le_of_ble_eq_true rfl) rfl ?_
  refine q_goto (tgt := 22) dX0_list_45 (by decide) ?_
  refine q_iload_n dX0_list_22 rfl ?_
  refine q_bi (v := 40) dX0_list_23 rfl ?_
  refine q_cz_ge (tgt := 48) (a := 27) (b := 40) dX0_list_25 (by decide) rfl rfl (fun h => absurd h (by decide)) (fun _ => ?_)
  refine q_aload_n dX0_list_28 rfl ?_
  refine q_getR (c := 0) (n := 0) (k := 10) (a := 54) dX0_list_29 rfl (by decide) (by decide) fX0_18 rfl rfl ?_
  refine q_iload_n dX0_list_32 rfl ?_
  refine q_ic (v := (-1)) dX0_list_33 rfl ?_
  refine q_iast (n := 40) (j := 27) dX0_list_34 rfl rfl (by decide) ?_
  show q_K _ (q_sX (q_up (q_up (q_up (q_up (q_up (q_up (q_up (q_up (q_up (q_up (q_up (q_up (q_up (q_up (q_up (q_up (q_up uXI28 54 19 (-1)) 55 19 (-1)) 54 20 (-1)) 55 20 (-1)) 54 21 (-1)) 55 21 (-1)) 54 22 (-1)) 55 22 (-1)) 54 23 (-1)) 55 23 (-1)) 54 24 (-1)) 55 24 (-1)) 54 25 (-1)) 55 25 (-1)) 54 26 (-1)) 55 26 (-1)) 54 27 (-1)) uXJ2) _ _ _ _ _ _
  refine q_aload_n dX0_list_35 rfl ?_
  refine q_getR (c := 0) (n := 0) (k := 11) (a := 55) dX0_list_36 rfl (by decide) (by decide) fX0_21 rfl rfl ?_
  refine q_iload_n dX0_list_39 rfl ?_
  refine q_ic (v := (-1)) dX0_list_40 rfl ?_
  refine q_iast (n := 40) (j := 27) dX0_list_41 rfl rfl (by decide) ?_
  show q_K _ (q_sX (q_up (q_up (q_up (q_up (q_up (q_up (q_up (q_up (q_up (q_up (q_up (q_up (q_up (q_up (q_up (q_up (q_up (q_up uXI28 54 19 (-1)) 55 19 (-1)) 54 20 (-1)) 55 20 (-1)) 54 21 (-1)) 55 21 (-1)) 54 22 (-1)) 55 22 (-1)) 54 23 (-1)) 55 23 (-1)) 54 24 (-1)) 55 24 (-1)) 54 25 (-1)) 55 25 (-1)) 54 26 (-1)) 55 26 (-1)) 54 27 (-1)) 55 27 (-1)) uXJ2) _ _ _ _ _ _
  refine q_inc (v := 1) dX0_list_42 rfl (Nat.le_of_ble_eq_true rfl) rfl ?_
  refine q_goto (tgt := 22) dX0_list_45 (by decide) ?_
  refine q_iload_n dX0_list_22 rfl ?_
  refine q_bi (v := 40) dX0_list_23 rfl ?_
  refine q_cz_ge (tgt := 48) (a := 28) (b := 40) dX0_list_25 (by decide) rfl rfl (fun h => absurd h (by decide)) (fun _ => ?_)
  refine q_aload_n dX0_list_28 rfl ?_
  refine q_getR (c := 0) (n := 0) (k := 10) (a := 54) dX0_list_29 rfl (by decide) (by decide) fX0_18 rfl rfl ?_
  refine q_iload_n dX0_list_32 rfl ?_
  refine q_ic (v := (-1)) dX0_list_33 rfl ?_
  refine q_iast (n := 40) (j := 28) dX0_list_34 rfl rfl (by decide) ?_
  show q_K _ (q_sX (q_up (q_up (q_up (q_up (q_up (q_up (q_up (q_up (q_up (q_up (q_up (q_up (q_up (q_up (q_up (q_up (q_up (q_up (q_up uXI28 54 19 (-1)) 55 19 (-1)) 54 20 (-1)) 55 20 (-1)) 54 21 (-1)) 55 21 (-1)) 54 22 (-1)) 55 22 (-1)) 54 23 (-1)) 55 23 (-1)) 54 24 (-1)) 55 24 (-1)) 54 25 (-1)) 55 25 (-1)) 54 26 (-1)) 55 26 (-1)) 54 27 (-1)) 55 27 (-1)) 54 28 (-1)) uXJ2) _ _ _ _ _ _
  refine q_aload_n dX0_list_35 rfl ?_
  refine q_getR (c := 0) (n := 0) (k := 11) (a := 55) dX0_list_36 rfl (by decide) (by decide) fX0_21 rfl rfl ?_
  refine q_iload_n dX0_list_39 rfl ?_
  refine q_ic (v := (-1)) dX0_list_40 rfl ?_
  refine q_iast (n := 40) (j := 28) dX0_list_41 rfl rfl (by decide) ?_
  show q_K _ (q_sX (q_up (q_up (q_up (q_up (q_up (q_up (q_up (q_up (q_up (q_up (q_up (q_up (q_up (q_up (q_up (q_up (q_up (q_up (q_up (q_up uXI28 54 19 (-1)) 55 19 (-1)) 54 20 (-1)) 55 20 (-1)) 54 21 (-1)) 55 21 (-1)) 54 22 (-1)) 55 22 (-1)) 54 23 (-1)) 55 23 (-1)) 54 24 (-1)) 55 24 (-1)) 54 25 (-1)) 55 25 (-1)) 54 26 (-1)) 55 26 (-1)) 54 27 (-1)) 55 27 (-1)) 54 28 (-1)) 55 28 (-1)) uXJ2) _ _ _ _ _ _
  refine q_inc (v := 1) dX0_list_42 rfl (Nat.le_of_ble_eq_true rfl) rfl ?_
  refine q_goto (tgt := 22) dX0_list_45 (by decide) ?_
  refine q_iload_n dX0_list_22 rfl ?_
  refine q_bi (v := 40) dX0_list_23 rfl ?_
  refine q_cz_ge (tgt := 48) (a := 29) (b := 40) dX0_list_25 (by decide) rfl rfl (fun h => absurd h (by decide)) (fun _ => ?_)
  refine q_aload_n dX0_list_28 rfl ?_
  refine q_getR (c := 0) (n := 0) (k := 10) (a := 54) dX0_list_29 rfl (by decide) (by decide) fX0_18 rfl rfl ?_
  refine q_iload_n dX0_list_32 rfl ?_
  refine q_ic (v := (-1)) dX0_list_33 rfl ?_
  refine q_iast (n := 40) (j := 29) dX0_list_34 rfl rfl (by decide) ?_
  show q_K _ (q_sX (q_up (q_up (q_up (q_up (q_up (q_up (q_up (q_up (q_up (q_up (q_up (q_up (q_up (q_up (q_up (q_up (q_up (q_up (q_up (q_up (q_up uXI28 54 19 (-1)) 55 19 (-1)) 54 20 (-1)) 55 20 (-1)) 54 21 (-1)) 55 21 (-1)) 54 22 (-1)) 55 22 (-1)) 54 23 (-1)) 55 23 (-1)) 54 24 (-1)) 55 24 (-1)) 54 25 (-1)) 55 25 (-1)) 54 26 (-1)) 55 26 (-1)) 54 27 (-1)) 55 27 (-1)) 54 28 (-1)) 55 28 (-1)) 54 29 (-1)) uXJ2) _ _ _ _ _ _
  refine q_aload_n dX0_list_35 rfl ?_
  refine q_getR (c := 0) (n := 0) (k := 11) (a := 55) dX0_list_36 rfl (by decide) (by decide) fX0_21 rfl rfl ?_
  refine q_iload_n dX0_list_39 rfl ?_
  refine q_ic (v := (-1)) dX0_list_40 rfl ?_
  refine q_iast (n := 40) (j := 29) dX0_list_41 rfl rfl (by decide) ?_
  show q_K _ (q_sX (q_up (q_up (q_up (q_up (q_up (q_up (q_up (q_up (q_up (q_up (q_up (q_up (q_up (q_up (q_up (q_up (q_up (q_up (q_up (q_up (q_up (q_up uXI28 54 19 (-1)) 55 19 (-1)) 54 20 (-1)) 55 20 (-1)) 54 21 (-1)) 55 21 (-1)) 54 22 (-1)) 55 22 (-1)) 54 23 (-1)) 55 23 (-1)) 54 24 (-1)) 55 24 (-1)) 54 25 (-1)) 55 25 (-1)) 54 26 (-1)) 55 26 (-1)) 54 27 (-1)) 55 27 (-1)) 54 28 (-1)) 55 28 (-1)) 54 29 (-1)) 55 29 (-1)) uXJ2) _ _ _ _ _ _
  refine q_inc (v := 1) dX0_list_42 rfl (Nat.le_of_ble_eq_true rfl) rfl ?_
  refine q_goto (tgt := 22) dX0_list_45 (by decide) ?_
  refine q_iload_n dX0_list_22 rfl ?_
  refine q_bi (v := 40) dX0_list_23 rfl ?_
  refine q_cz_ge (tgt := 48) (a := 30) (b := 40) dX0_list_25 (by decide) rfl rfl (fun h => absurd h (by decide)) (fun _ => ?_)
  refine q_aload_n dX0_list_28 rfl ?_
  refine q_getR (c := 0) (n := 0) (k := 10) (a := 54) dX0_list_29 rfl (by decide) (by decide) fX0_18 rfl rfl ?_
  refine q_iload_n dX0_list_32 rfl ?_
  refine q_ic (v := (-1)) dX0_list_33 rfl ?_
  refine q_iast (n := 40) (j := 30) dX0_list_34 rfl rfl (by decide) ?_
  show q_K _ (q_sX (q_up (q_up (q_up (q_up (q_up (q_up (q_up (q_up (q_up (q_up (q_up (q_up (q_up (q_up (q_up (q_up (q_up (q_up (q_up (q_up (q_up (q_up (q_up uXI28 54 19 (-1)) 55 19 (-1)) 54 20 (-1)) 55 20 (-1)) 54 21 (-1)) 55 21 (-1)) 54 22 (-1)) 55 22 (-1)) 54 23 (-1)) 55 23 (-1)) 54 24 (-1)) 55 24 (-1)) 54 25 (-1)) 55 25 (-1)) 54 26 (-1)) 55 26 (-1)) 54 27 (-1)) 55 27 (-1)) 54 28 (-1)) 55 28 (-1)) 54 29 (-1)) 55 29 (-1)) 54 30 (-1)) uXJ2) _ _ _ _ _ _
  refine q_aload_n dX0_list_35 rfl ?_
  refine q_getR (c := 0) (n := 0) (k := 11) (a := 55) dX0_list_36 rfl (by decide) (by decide) fX0_21 rfl rfl ?_
  refine q_iload_n dX0_list_39 rfl ?_
  refine q_ic (v := (-1)) dX0_list_40 rfl ?_
  refine q_iast (n := 40) (j := 30) dX0_list_41 rfl rfl (by decide) ?_
  show q_K _ (q_sX uXI29 uXJ2) _ _ _ _ _ _
  refine q_inc (v := 1) dX0_list_42 rfl (Nat.le_of_ble_eq_true rfl) rfl ?_
  refine q_goto (tgt := 22) dX0_list_45 (by decide) ?_
  refine q_iload_n dX0_list_22 rfl ?_
  refine q_bi (v := 40) dX0_list_23 rfl ?_
  refine q_cz_ge (tgt := 48) (a := 31) (b := 40) dX0_list_25 (by decide) rfl rfl (fun h => absurd h (by decide)) (fun _ => ?_)
  refine q_aload_n dX0_list_28 rfl ?_
  refine q_getR (c := 0) (n := 0) (k := 10) (a := 54) dX0_list_29 rfl (by decide) (by decide) fX0_18 rfl rfl ?_
  refine q_iload_n dX0_list_32 rfl ?_
  refine q_ic (v := (-1)) dX0_list_33 rfl ?_
  refine q_iast (n := 40) (j := 31) dX0_list_34 rfl rfl (by decide) ?_
  show q_K _ (q_sX (q_up uXI29 54 31 (-1)) uXJ2) _ _ _ _ _ _
  refine q_aload_n dX0_list_35 rfl ?_
  refine q_getR (c := 0) (n := 0) (k := 11) (a := 55) dX0_list_36 rfl (by decide) (by decide) fX0_21 rfl rfl ?_
  refine q_iload_n dX0_list_39 rfl ?_
  refine q_ic (v := (-1)) dX0_list_40 rfl ?_
  refine q_iast (n := 40) (j := 31) dX0_list_41 rfl rfl (by decide) ?_
  show q_K _ (q_sX (q_up (q_up uXI29 54 31 (-1)) 55 31 (-1)) uXJ2) _ _ _ _ _ _
  refine q_inc (v := 1) dX0_list_42 rfl (Nat.le_of_ble_eq_true rfl) rfl ?_
  refine q_goto (tgt := 22) dX0_list_45 (by decide) ?_
  refine q_iload_n dX0_list_22 rfl ?_
  refine q_bi (v := 40) dX0_list_23 rfl ?_
  refine q_cz_ge (tgt := 48) (a := 32) (b := 40) dX0_list_25 (by decide) rfl rfl (fun h => absurd h (by decide)) (fun _ => ?_)
  refine q_aload_n dX0_list_28 rfl ?_
  refine q_getR (c := 0) (n := 0) (k := 10) (a := 54) dX0_list_29 rfl (by decide) (by decide) fX0_18 rfl rfl ?_
  refine q_iload_n dX0_list_32 rfl ?_
  refine q_ic (v := (-1)) dX0_list_33 rfl ?_
  refine q_iast (n := 40) (j := 32) dX0_list_34 rfl rfl (by decide) ?_
  show q_K _ (q_sX (q_up (q_up (q_up uXI29 54 31 (-1)) 55 31 (-1)) 54 32 (-1)) uXJ2) _ _ _ _ _ _
  refine q_aload_n dX0_list_35 rfl ?_
  refine q_getR (c := 0) (n := 0) (k := 11) (a := 55) dX0_list_36 rfl (by decide) (by decide) fX0_21 rfl rfl ?_
  refine q_iload_n dX0_list_39 rfl ?_
  refine q_ic (v := (-1)) dX0_list_40 rfl ?_
  refine q_iast (n := 40) (j := 32) dX0_list_41 rfl rfl (by decide) ?_
  show q_K _ (q_sX (q_up (q_up (q_up (q_up uXI29 54 31 (-1)) 55 31 (-1)) 54 32 (-1)) 55 32 (-1)) uXJ2) _ _ _ _ _ _
  refine q_inc (v := 1) dX0_list_42 rfl (Nat.le_of_ble_eq_true rfl) rfl ?_
  refine q_goto (tgt := 22) dX0_list_45 (by decide) ?_
  refine q_iload_n dX0_list_22 rfl ?_
  refine q_bi (v := 40) dX0_list_23 rfl ?_
  refine q_cz_ge (tgt := 48) (a := 33) (b := 40) dX0_list_25 (by decide) rfl rfl (fun h => absurd h (by decide)) (fun _ => ?_)
  refine q_aload_n dX0_list_28 rfl ?_
  refine q_getR (c := 0) (n := 0) (k := 10) (a := 54) dX0_list_29 rfl (by decide) (by decide) fX0_18 rfl rfl ?_
  refine q_iload_n dX0_list_32 rfl ?_
  refine q_ic (v := (-1)) dX0_list_33 rfl ?_
  refine q_iast (n := 40) (j := 33) dX0_list_34 rfl rfl (by decide) ?_
  show q_K _ (q_sX (q_up (q_up (q_up (q_up (q_up uXI29 54 31 (-1)) 55 31 (-1)) 54 32 (-1)) 55 32 (-1)) 54 33 (-1)) uXJ2) _ _ _ _ _ _
  refine q_aload_n dX0_list_35 rfl ?_
  refine q_getR (c := 0) (n := 0) (k := 11) (a := 55) dX0_list_36 rfl (by decide) (by decide) fX0_21 rfl rfl ?_
  refine q_iload_n dX0_list_39 rfl ?_
  refine q_ic (v := (-1)) dX0_list_40 rfl ?_
  refine q_iast (n := 40) (j := 33) dX0_list_41 rfl rfl (by decide) ?_
  show q_K _ (q_sX (q_up (q_up (q_up (q_up (q_up (q_up uXI29 54 31 (-1)) 55 31 (-1)) 54 32 (-1)) 55 32 (-1)) 54 33 (-1)) 55 33 (-1)) uXJ2) _ _ _ _ _ _
  refine q_inc (v := 1) dX0_list_42 rfl (Nat.le_of_ble_eq_true rfl) rfl ?_
  refine q_goto (tgt := 22) dX0_list_45 (by decide) ?_
  refine q_iload_n dX0_list_22 rfl ?_
  refine q_bi (v := 40) dX0_list_23 rfl ?_
  refine q_cz_ge (tgt := 48) (a := 34) (b := 40) dX0_list_25 (by decide) rfl rfl (fun h => absurd h (by decide)) (fun _ => ?_)
  refine q_aload_n dX0_list_28 rfl ?_
  refine q_getR (c := 0) (n := 0) (k := 10) (a := 54) dX0_list_29 rfl (by decide) (by decide) fX0_18 rfl rfl ?_
  refine q_iload_n dX0_list_32 rfl ?_
  refine q_ic (v := (-1)) dX0_list_33 rfl ?_
  refine q_iast (n := 40) (j := 34) dX0_list_34 rfl rfl (by decide) ?_
  show q_K _ (q_sX (q_up (q_up (q_up (q_up (q_up (q_up (q_up uXI29 54 31 (-1)) 55 31 (-1)) 54 32 (-1)) 55 32 (-1)) 54 33 (-1)) 55 33 (-1)) 54 34 (-1)) uXJ2) _ _ _ _ _ _
  refine q_aload_n dX0_list_35 rfl ?_
  refine q_getR (c := 0) (n := 0) (k := 11) (a := 55) dX0_list_36 rfl (by decide) (by decide) fX0_21 rfl rfl ?_
  refine q_iload_n dX0_list_39 rfl ?_
  refine q_ic (v := (-1)) dX0_list_40 rfl ?_
  refine q_iast (n := 40) (j := 34) dX0_list_41 rfl rfl (by decide) ?_
  show q_K _ (q_sX (q_up (q_up (q_up (q_up (q_up (q_up (q_up (q_up uXI29 54 31 (-1)) 55 31 (-1)) 54 32 (-1)) 55 32 (-1)) 54 33 (-1)) 55 33 (-1)) 54 34 (-1)) 55 34 (-1)) uXJ2) _ _ _ _ _ _
  refine q_inc (v := 1) dX0_list_42 rfl (Nat.le_of_ble_eq_true rfl) rfl ?_
  refine q_goto (tgt := 22) dX0_list_45 (by decide) ?_
  refine q_iload_n dX0_list_22 rfl ?_
  refine q_bi (v := 40) dX0_list_23 rfl ?_
  refine q_cz_ge (tgt := 48) (a := 35) (b := 40) dX0_list_25 (by decide) rfl rfl (fun h => absurd h (by decide)) (fun _ => ?_)
  refine q_aload_n dX0_list_28 rfl ?_
  refine q_getR (c := 0) (n := 0) (k := 10) (a := 54) dX0_list_29 rfl (by decide) (by decide) fX0_18 rfl rfl ?_
  refine q_iload_n dX0_list_32 rfl ?_
  refine q_ic (v := (-1)) dX0_list_33 rfl ?_
  refine q_iast (n := 40) (j := 35) dX0_list_34 rfl rfl (by decide) ?_
  show q_K _ (q_sX (q_up (q_up (q_up (q_up (q_up (q_up (q_up (q_up (q_up uXI29 54 31 (-1)) 55 31 (-1)) 54 32 (-1)) 55 32 (-1)) 54 33 (-1)) 55 33 (-1)) 54 34 (-1)) 55 34 (-1)) 54 35 (-1)) uXJ2) _ _ _ _ _ _
  refine q_aload_n dX0_list_35 rfl ?_
  refine q_getR (c := 0) (n := 0) (k := 11) (a := 55) dX0_list_36 rfl (by decide) (by decide) fX0_21 rfl rfl ?_
  refine q_iload_n dX0_list_39 rfl ?_
  refine q_ic (v := (-1)) dX0_list_40 rfl ?_
  refine q_iast (n := 40) (j := 35) dX0_list_41 rfl rfl (by decide) ?_
  show q_K _ (q_sX (q_up (q_up (q_up (q_up (q_up (q_up (q_up (q_up (q_up (q_up uXI29 54 31 (-1)) 55 31 (-1)) 54 32 (-1)) 55 32 (-1)) 54 33 (-1)) 55 33 (-1)) 54 34 (-1)) 55 34 (-1)) 54 35 (-1)) 55 35 (-1)) uXJ2) _ _ _ _ _ _
  refine q_inc (v := 1) dX0_list_42 rfl (Nat.le_of_ble_eq_true rfl) rfl ?_
  refine q_goto (tgt := 22) dX0_list_45 (by decide) ?_
  refine q_iload_n dX0_list_22 rfl ?_
  refine q_bi (v := 40) dX0_list_23 rfl ?_
  refine q_cz_ge (tgt := 48) (a := 36) (b := 40) dX0_list_25 (by decide) rfl rfl (fun h => absurd h (by decide)) (fun _ => ?_)
  refine q_aload_n dX0_list_28 rfl ?_
  refine q_getR (c := 0) (n := 0) (k := 10) (a := 54) dX0_list_29 rfl (by decide) (by decide) fX0_18 rfl rfl ?_
  refine q_iload_n dX0_list_32 rfl ?_
  refine q_ic (v := (-1)) dX0_list_33 rfl ?_
  refine q_iast (n := 40) (j := 36) dX0_list_34 rfl rfl (by decide) ?_
  show q_K _ (q_sX (q_up (q_up (q_up (q_up (q_up (q_up (q_up (q_up (q_up (q_up (q_up uXI29 54 31 (-1)) 55 31 (-1)) 54 32 (-1)) 55 32 (-1)) 54 33 (-1)) 55 33 (-1)) 54 34 (-1)) 55 34 (-1)) 54 35 (-1)) 55 35 (-1)) 54 36 (-1)) uXJ2) _ _ _ _ _ _
  refine q_aload_n dX0_list_35 rfl ?_
  refine q_getR (c := 0) (n := 0) (k := 11) (a := 55) dX0_list_36 rfl (by decide) (by decide) fX0_21 rfl rfl ?_
  refine q_iload_n dX0_list_39 rfl ?_
  refine q_ic (v := (-1)) dX0_list_40 rfl ?_
  refine q_iast (n := 40) (j := 36) dX0_list_41 rfl rfl (by decide) ?_
  show q_K _ (q_sX (q_up (q_up (q_up (q_up (q_up (q_up (q_up (q_up (q_up (q_up (q_up (q_up uXI29 54 31 (-1)) 55 31 (-1)) 54 32 (-1)) 55 32 (-1)) 54 33 (-1)) 55 33 (-1)) 54 34 (-1)) 55 34 (-1)) 54 35 (-1)) 55 35 (-1)) 54 36 (-1)) 55 36 (-1)) uXJ2) _ _ _ _ _ _
  refine q_inc (v := 1) dX0_list_42 rfl (Nat.le_of_ble_eq_true rfl) rfl ?_
  refine q_goto (tgt := 22) dX0_list_45 (by decide) ?_
  refine q_iload_n dX0_list_22 rfl ?_
  refine q_bi (v := 40) dX0_list_23 rfl ?_
  refine q_cz_ge (tgt := 48) (a := 37) (b := 40) dX0_list_25 (by decide) rfl rfl (fun h => absurd h (by decide)) (fun _ => ?_)
  refine q_aload_n dX0_list_28 rfl ?_
  refine q_getR (c := 0) (n := 0) (k := 10) (a := 54) dX0_list_29 rfl (by decide) (by decide) fX0_18 rfl rfl ?_
  refine q_iload_n dX0_list_32 rfl ?_
  refine q_ic (v := (-1)) dX0_list_33 rfl ?_
  refine q_iast (n := 40) (j := 37) dX0_list_34 rfl rfl (by decide) ?_
  show q_K _ (q_sX (q_up (q_up (q_up (q_up (q_up (q_up (q_up (q_up (q_up (q_up (q_up (q_up (q_up uXI29 54 31 (-1)) 55 31 (-1)) 54 32 (-1)) 55 32 (-1)) 54 33 (-1)) 55 33 (-1)) 54 34 (-1)) 55 34 (-1)) 54 35 (-1)) 55 35 (-1)) 54 36 (-1)) 55 36 (-1)) 54 37 (-1)) uXJ2) _ _ _ _ _ _
  refine q_aload_n dX0_list_35 rfl ?_
  refine q_getR (c := 0) (n := 0) (k := 11) (a := 55) dX0_list_36 rfl (by decide) (by decide) fX0_21 rfl rfl ?_
  refine q_iload_n dX0_list_39 rfl ?_
  refine q_ic (v := (-1)) dX0_list_40 rfl ?_
  refine q_iast (n := 40) (j := 37) dX0_list_41 rfl rfl (by decide) ?_
  show q_K _ (q_sX (q_up (q_up (q_up (q_up (q_up (q_up (q_up (q_up (q_up (q_up (q_up (q_up (q_up (q_up uXI29 54 31 (-1)) 55 31 (-1)) 54 32 (-1)) 55 32 (-1)) 54 33 (-1)) 55 33 (-1)) 54 34 (-1)) 55 34 (-1)) 54 35 (-1)) 55 35 (-1)) 54 36 (-1)) 55 36 (-1)) 54 37 (-1)) 55 37 (-1)) uXJ2) _ _ _ _ _ _
  refine q_inc (v := 1) dX0_list_42 rfl (Nat.le_of_ble_eq_true rfl) rfl ?_
  refine q_goto (tgt := 22) dX0_list_45 (by decide) ?_
  refine q_iload_n dX0_list_22 rfl ?_
  refine q_bi (v := 40) dX0_list_23 rfl ?_
  refine q_cz_ge (tgt := 48) (a := 38) (b := 40) dX0_list_25 (by decide) rfl rfl (fun h => absurd h (by decide)) (fun _ => ?_)
  refine q_aload_n dX0_list_28 rfl ?_
  refine q_getR (c := 0) (n := 0) (k := 10) (a := 54) dX0_list_29 rfl (by decide) (by decide) fX0_18 rfl rfl ?_
  refine q_iload_n dX0_list_32 rfl ?_
  refine q_ic (v := (-1)) dX0_list_33 rfl ?_
  refine q_iast (n := 40) (j := 38) dX0_list_34 rfl rfl (by decide) ?_
  show q_K _ (q_sX (q_up (q_up (q_up (q_up (q_up (q_up (q_up (q_up (q_up (q_up (q_up (q_up (q_up (q_up (q_up uXI29 54 31 (-1)) 55 31 (-1)) 54 32 (-1)) 55 32 (-1)) 54 33 (-1)) 55 33 (-1)) 54 34 (-1)) 55 34 (-1)) 54 35 (-1)) 55 35 (-1)) 54 36 (-1)) 55 36 (-1)) 54 37 (-1)) 55 37 (-1)) 54 38 (-1)) uXJ2) _ _ _ _ _ _
  refine q_aload_n dX0_list_35 rfl ?_
  refine q_getR (c := 0) (n := 0) (k := 11) (a := 55) dX0_list_36 rfl (by decide) (by decide) fX0_21 rfl rfl ?_
  refine q_iload_n dX0_list_39 rfl ?_
  refine q_ic (v := (-1)) dX0_list_40 rfl ?_
  refine q_iast (n := 40) (j := 38) dX0_list_41 rfl rfl (by decide) ?_
  show q_K _ (q_sX (q_up (q_up (q_up (q_up (q_up (q_up (q_up (q_up (q_up (q_up (q_up (q_up (q_up (q_up (q_up (q_up uXI29 54 31 (-1)) 55 31 (-1)) 54 32 (-1)) 55 32 (-1)) 54 33 (-1)) 55 33 (-1)) 54 34 (-1)) 55 34 (-1)) 54 35 (-1)) 55 35 (-1)) 54 36 (-1)) 55 36 (-1)) 54 37 (-1)) 55 37 (-1)) 54 38 (-1)) 55 38 (-1)) uXJ2) _ _ _ _ _ _
  refine q_inc (v := 1) dX0_list_42 rfl (Nat.le_of_ble_eq_true rfl) rfl ?_
  refine q_goto (tgt := 22) dX0_list_45 (by decide) ?_
  refine q_iload_n dX0_list_22 rfl ?_
  refine q_bi (v := 40) dX0_list_23 rfl ?_
  refine q_cz_ge (tgt := 48) (a := 39) (b := 40) dX0_list_25 (by decide) rfl rfl (fun h => absurd h (by decide)) (fun _ => ?_)
  refine q_aload_n dX0_list_28 rfl ?_
  refine q_getR (c := 0) (n := 0) (k := 10) (a := 54) dX0_list_29 rfl (by decide) (by decide) fX0_18 rfl rfl ?_
  refine q_iload_n dX0_list_32 rfl ?_
  refine q_ic (v := (-1)) dX0_list_33 rfl ?_
  refine q_iast (n := 40) (j := 39) dX0_list_34 rfl rfl (by decide) ?_
  show q_K _ (q_sX (q_up (q_up (q_up (q_up (q_up (q_up (q_up (q_up (q_up (q_up (q_up (q_up (q_up (q_up (q_up (q_up (q_up uXI29 54 31 (-1)) 55 31 (-1)) 54 32 (-1)) 55 32 (-1)) 54 33 (-1)) 55 33 (-1)) 54 34 (-1)) 55 34 (-1)) 54 35 (-1)) 55 35 (-1)) 54 36 (-1)) 55 36 (-1)) 54 37 (-1)) 55 37 (-1)) 54 38 (-1)) 55 38 (-1)) 54 39 (-1)) uXJ2) _ _ _ _ _ _
  refine q_aload_n dX0_list_35 rfl ?_
  refine q_getR (c := 0) (n := 0) (k := 11) (a := 55) dX0_list_36 rfl (by decide) (by decide) fX0_21 rfl rfl ?_
  refine q_iload_n dX0_list_39 rfl ?_
  refine q_ic (v := (-1)) dX0_list_40 rfl ?_
  refine q_iast (n := 40) (j := 39) dX0_list_41 rfl rfl (by decide) ?_
  show q_K _ (q_sX (q_up (q_up (q_up (q_up (q_up (q_up (q_up (q_up (q_up (q_up (q_up (q_up (q_up (q_up (q_up (q_up (q_up (q_up uXI29 54 31 (-1)) 55 31 (-1)) 54 32 (-1)) 55 32 (-1)) 54 33 (-1)) 55 33 (-1)) 54 34 (-1)) 55 34 (-1)) 54 35 (-1)) 55 35 (-1)) 54 36 (-1)) 55 36 (-1)) 54 37 (-1)) 55 37 (-1)) 54 38 (-1)) 55 38 (-1)) 54 39 (-1)) 55 39 (-1)) uXJ2) _ _ _ _ _ _
  refine q_inc (v := 1) dX0_list_42 rfl (Nat.le_of_ble_eq_true rfl) rfl ?_
  refine q_goto (tgt := 22) dX0_list_45 (by decide) ?_
  refine q_iload_n dX0_list_22 rfl ?_
  refine q_bi (v := 40) dX0_list_23 rfl ?_
  refine q_cz_ge (tgt := 48) (a := 40) (b := 40) dX0_list_25 (by decide) rfl rfl (fun _ => ?_) (fun h => absurd h (by decide))
  refine q_ic (v := 0) dX0_list_48 rfl ?_
  refine q_istore_n dX0_list_49 (Nat.le_of_ble_eq_true rfl) ?_
  refine q_iload_n dX0_list_50 rfl ?_
  refine q_aload_n dX0_list_51 rfl ?_
  refine q_getR (c := 0) (n := 0) (k := 6) (a := 2) dX0_list_52 rfl (by decide) (by decide) fX0_33 rfl rfl ?_
  refine q_getf (c := 9) (n := 0) (k := 0) (v := .int 0) dX0_list_55 rfl (by decide) (by decide) fX0_55 rfl ?_
  refine q_cz_ge (tgt := 132) (a := 0) (b := 0) dX0_list_58 (by decide) rfl rfl (fun _ => ?_) (fun h => absurd h (by decide))
  show q_K _ (q_sX uXI30 uXJ2) _ _ _ _ _ _
  refine q_ret dX0_list_132 rfl ?_
  exact ⟨rfl, rfl⟩
def uXI31 : Nat → Nat → Int32 := q_up uXI30 67 0 0
theorem dX1_forget_0 : decode cX1_forget 0 = .ok (.aload_n 0, 1) := by decide +kernel
theorem dX1_forget_1 : decode cX1_forget 1 = .ok (.iconst 0, 1) := by decide +kernel
theorem dX1_forget_2 : decode cX1_forget 2 = .ok (.putfield 38, 3) := by decide +kernel
theorem dX1_forget_5 : decode cX1_forget 5 = .ok (.aload_n 0, 1) := by decide +kernel
theorem dX1_forget_6 : decode cX1_forget 6 = .ok (.iconst 0, 1) := by decide +kernel
theorem dX1_forget_7 : decode cX1_forget 7 = .ok (.putfield 42, 3) := by decide +kernel
theorem dX1_forget_10 : decode cX1_forget 10 = .ok (.return_, 1) := by decide +kernel
def uXI32 : Nat → Nat → Int32 := q_up (q_up uXI31 69 0 0) 69 4 0
set_option maxRecDepth 20000 in
theorem uX_X1_forget_13 : q_met mX1_forget (q_sX uXI31 uXJ2) [.ref 69] (fun s r => s = q_sX uXI32 uXJ2 ∧ r = none) := by
  refine q_enter (by decide) (Nat.le_of_ble_eq_true rfl) ?_
  refine q_aload_n dX1_forget_0 rfl ?_
  refine q_ic (v := 0) dX1_forget_1 rfl ?_
  refine q_putZ (c := 1) (n := 0) (k := 0) dX1_forget_2 rfl (by decide) (by decide) fX1_38 rfl rfl (Or.inl rfl) ?_
  show q_K _ (q_sX (q_up uXI31 69 0 0) uXJ2) _ _ _ _ _ _
  refine q_aload_n dX1_forget_5 rfl ?_
  refine q_ic (v := 0) dX1_forget_6 rfl ?_
  refine q_putI (c := 1) (n := 0) (k := 4) dX1_forget_7 rfl (by decide) (by decide) fX1_42 rfl rfl ?_
  show q_K _ (q_sX (q_up (q_up uXI31 69 0 0) 69 4 0) uXJ2) _ _ _ _ _ _
  show q_K _ (q_sX uXI32 uXJ2) _ _ _ _ _ _
  refine q_ret dX1_forget_10 rfl ?_
  exact ⟨rfl, rfl⟩
def uXI33 : Nat → Nat → Int32 := q_up (q_up uXI32 76 0 0) 80 2 (-1)
set_option maxRecDepth 20000 in
theorem uX_X10_goOnWith_14 : q_met mX10_goOnWith (q_sX uXI12 zJ1) [.ref 0, .ref 18] (fun s r => s = q_sX uXI33 uXJ2 ∧ r = some (.int 0)) := by
  refine q_enter (by decide) (Nat.le_of_ble_eq_true rfl) ?_
  refine q_aload_n dX10_goOnWith_0 rfl ?_
  refine q_getR (c := 10) (n := 0) (k := 3) (a := 2) dX10_goOnWith_1 rfl (by decide) (by decide) fX10_16 rfl rfl ?_
  refine q_aload_n dX10_goOnWith_4 rfl ?_
  refine q_V1 (ci := 9) (n := 0) dX10_goOnWith_5 DX9_copyFrom lX10_270 rfl (by decide) rfl rfl rfl rfl uX_X9_copyFrom_10 ?_
  rintro _ _ ⟨rfl, rfl⟩
  refine q_aload_n dX10_goOnWith_8 rfl ?_
  refine q_getR (c := 10) (n := 0) (k := 13) (a := 88) dX10_goOnWith_9 rfl (by decide) (by decide) fX10_95 rfl rfl ?_
  refine q_V0 (ci := 8) (n := 0) dX10_goOnWith_12 DX8_forget lX10_279 rfl (by decide) rfl rfl rfl rfl uX_X8_forget_11 ?_
  rintro _ _ ⟨rfl, rfl⟩
  refine q_aload_n dX10_goOnWith_15 rfl ?_
  refine q_getR (c := 10) (n := 0) (k := 7) (a := 51) dX10_goOnWith_16 rfl (by decide) (by decide) fX10_49 rfl rfl ?_
  refine q_V0 (ci := 0) (n := 0) dX10_goOnWith_19 DX0_list lX10_119 rfl (by decide) rfl rfl rfl rfl uX_X0_list_12 ?_
  rintro _ _ ⟨rfl, rfl⟩
  refine q_aload_n dX10_goOnWith_22 rfl ?_
  refine q_getR (c := 10) (n := 0) (k := 9) (a := 67) dX10_goOnWith_23 rfl (by decide) (by decide) fX10_61 rfl rfl ?_
  refine q_ic (v := 0) dX10_goOnWith_26 rfl ?_
  refine q_putZ (c := 5) (n := 0) (k := 0) dX10_goOnWith_27 rfl (by decide) (by decide) fX10_282 rfl rfl (Or.inl rfl) ?_
  show q_K _ (q_sX (q_up uXI30 67 0 0) uXJ2) _ _ _ _ _ _
  refine q_aload_n dX10_goOnWith_30 rfl ?_
  refine q_getR (c := 10) (n := 0) (k := 10) (a := 69) dX10_goOnWith_31 rfl (by decide) (by decide) fX10_70 rfl rfl ?_
  show q_K _ (q_sX uXI31 uXJ2) _ _ _ _ _ _
  refine q_V0 (ci := 1) (n := 0) dX10_goOnWith_34 DX1_forget lX10_283 rfl (by decide) rfl rfl rfl rfl uX_X1_forget_13 ?_
  rintro _ _ ⟨rfl, rfl⟩
  refine q_aload_n dX10_goOnWith_37 rfl ?_
  refine q_getR (c := 10) (n := 0) (k := 11) (a := 76) dX10_goOnWith_38 rfl (by decide) (by decide) fX10_79 rfl rfl ?_
  refine q_ic (v := 0) dX10_goOnWith_41 rfl ?_
  refine q_putZ (c := 3) (n := 0) (k := 0) dX10_goOnWith_42 rfl (by decide) (by decide) fX10_206 rfl rfl (Or.inl rfl) ?_
  show q_K _ (q_sX (q_up uXI32 76 0 0) uXJ2) _ _ _ _ _ _
  refine q_aload_n dX10_goOnWith_45 rfl ?_
  refine q_getR (c := 10) (n := 0) (k := 12) (a := 80) dX10_goOnWith_46 rfl (by decide) (by decide) fX10_88 rfl rfl ?_
  refine q_ic (v := (-1)) dX10_goOnWith_49 rfl ?_
  refine q_putI (c := 6) (n := 0) (k := 2) dX10_goOnWith_50 rfl (by decide) (by decide) fX10_284 rfl rfl ?_
  show q_K _ (q_sX (q_up (q_up uXI32 76 0 0) 80 2 (-1)) uXJ2) _ _ _ _ _ _
  refine q_aload_n dX10_goOnWith_53 rfl ?_
  refine q_getR (c := 10) (n := 0) (k := 3) (a := 2) dX10_goOnWith_54 rfl (by decide) (by decide) fX10_16 rfl rfl ?_
  refine q_getf (c := 9) (n := 0) (k := 1) (v := .int 0) dX10_goOnWith_57 rfl (by decide) (by decide) fX10_185 rfl ?_
  show q_K _ (q_sX uXI33 uXJ2) _ _ _ _ _ _
  refine q_iret dX10_goOnWith_60 rfl ?_
  exact ⟨rfl, rfl⟩
set_option maxRecDepth 20000 in
theorem frX_program : q_met mX10_program (q_sX zI6 zJ1) [.ref 0] (fun s r => (∃ I J, s = q_sX I J) ∧ ∃ v, r = some (.int v) ∧ v.toInt = (0 : Int)) := by
  refine q_enter (by decide) (Nat.le_of_ble_eq_true rfl) ?_
  refine q_aload_n dX10_program_0 rfl ?_
  refine q_getf (c := 10) (n := 0) (k := 1) (v := .int 0) dX10_program_1 rfl (by decide) (by decide) fX10_107 rfl ?_
  refine q_istore_n dX10_program_4 (Nat.le_of_ble_eq_true rfl) ?_
  refine q_aload_n dX10_program_5 rfl ?_
  refine q_ic (v := 0) dX10_program_6 rfl ?_
  refine q_putI (c := 10) (n := 0) (k := 1) dX10_program_7 rfl (by decide) (by decide) fX10_107 rfl rfl ?_
  show q_K _ (q_sX (q_up zI6 0 1 0) zJ1) _ _ _ _ _ _
  refine q_aload_n dX10_program_10 rfl ?_
  refine q_getR (c := 10) (n := 0) (k := 6) (a := 46) dX10_program_11 rfl (by decide) (by decide) fX10_40 rfl rfl ?_
  refine q_iload_n dX10_program_14 rfl ?_
  show q_K _ (q_sX uXI1 zJ1) _ _ _ _ _ _
  refine q_V1 (ci := 7) (n := 0) dX10_program_15 DX7_readText lX10_115 rfl (by decide) rfl rfl rfl rfl uX_X7_readText_7 ?_
  rintro _ _ ⟨rfl, rfl⟩
  refine q_iz_ne (tgt := 23) (a := 1) dX10_program_18 (by decide) rfl (fun _ => ?_) (fun h => absurd h (by decide))
  refine q_aload_n dX10_program_23 rfl ?_
  refine q_getR (c := 10) (n := 0) (k := 8) (a := 59) dX10_program_24 rfl (by decide) (by decide) fX10_53 rfl rfl ?_
  refine q_V0 (ci := 0) (n := 0) dX10_program_27 DX0_list lX10_119 rfl (by decide) rfl rfl rfl rfl uX_X0_list_8 ?_
  rintro _ _ ⟨rfl, rfl⟩
  refine q_aload_n dX10_program_30 rfl ?_
  refine q_getR (c := 10) (n := 0) (k := 8) (a := 59) dX10_program_31 rfl (by decide) (by decide) fX10_53 rfl rfl ?_
  refine q_getf (c := 0) (n := 0) (k := 1) (v := .int 0) dX10_program_34 rfl (by decide) (by decide) fX10_122 rfl ?_
  refine q_iz_eq (tgt := 50) (a := 0) dX10_program_37 (by decide) rfl (fun _ => ?_) (fun h => absurd h (by decide))
  refine q_ic (v := 0) dX10_program_50 rfl ?_
  refine q_istore_n dX10_program_51 (Nat.le_of_ble_eq_true rfl) ?_
  refine q_iload_n dX10_program_52 rfl ?_
  refine q_ic (v := 3) dX10_program_53 rfl ?_
  refine q_cz_ge (tgt := 70) (a := 0) (b := 3) dX10_program_54 (by decide) rfl rfl (fun h => absurd h (by decide)) (fun _ => ?_)
  refine q_aload_n dX10_program_57 rfl ?_
  refine q_getR (c := 10) (n := 0) (k := 15) (a := 93) dX10_program_58 rfl (by decide) (by decide) fX10_103 rfl rfl ?_
  refine q_iload_n dX10_program_61 rfl ?_
  refine q_ic (v := 0) dX10_program_62 rfl ?_
  refine q_zast (n := 3) (j := 0) dX10_program_63 rfl rfl (by decide) (Or.inl rfl) ?_
  show q_K _ (q_sX uXI11 zJ1) _ _ _ _ _ _
  refine q_inc (v := 1) dX10_program_64 rfl (Nat.le_of_ble_eq_true rfl) rfl ?_
  refine q_goto (tgt := 52) dX10_program_67 (by decide) ?_
  refine q_iload_n dX10_program_52 rfl ?_
  refine q_ic (v := 3) dX10_program_53 rfl ?_
  refine q_cz_ge (tgt := 70) (a := 1) (b := 3) dX10_program_54 (by decide) rfl rfl (fun h => absurd h (by decide)) (fun _ => ?_)
  refine q_aload_n dX10_program_57 rfl ?_
  refine q_getR (c := 10) (n := 0) (k := 15) (a := 93) dX10_program_58 rfl (by decide) (by decide) fX10_103 rfl rfl ?_
  refine q_iload_n dX10_program_61 rfl ?_
  refine q_ic (v := 0) dX10_program_62 rfl ?_
  refine q_zast (n := 3) (j := 1) dX10_program_63 rfl rfl (by decide) (Or.inl rfl) ?_
  show q_K _ (q_sX (q_up uXI11 93 1 0) zJ1) _ _ _ _ _ _
  refine q_inc (v := 1) dX10_program_64 rfl (Nat.le_of_ble_eq_true rfl) rfl ?_
  refine q_goto (tgt := 52) dX10_program_67 (by decide) ?_
  refine q_iload_n dX10_program_52 rfl ?_
  refine q_ic (v := 3) dX10_program_53 rfl ?_
  refine q_cz_ge (tgt := 70) (a := 2) (b := 3) dX10_program_54 (by decide) rfl rfl (fun h => absurd h (by decide)) (fun _ => ?_)
  refine q_aload_n dX10_program_57 rfl ?_
  refine q_getR (c := 10) (n := 0) (k := 15) (a := 93) dX10_program_58 rfl (by decide) (by decide) fX10_103 rfl rfl ?_
  refine q_iload_n dX10_program_61 rfl ?_
  refine q_ic (v := 0) dX10_program_62 rfl ?_
  refine q_zast (n := 3) (j := 2) dX10_program_63 rfl rfl (by decide) (Or.inl rfl) ?_
  show q_K _ (q_sX (q_up (q_up uXI11 93 1 0) 93 2 0) zJ1) _ _ _ _ _ _
  refine q_inc (v := 1) dX10_program_64 rfl (Nat.le_of_ble_eq_true rfl) rfl ?_
  refine q_goto (tgt := 52) dX10_program_67 (by decide) ?_
  refine q_iload_n dX10_program_52 rfl ?_
  refine q_ic (v := 3) dX10_program_53 rfl ?_
  refine q_cz_ge (tgt := 70) (a := 3) (b := 3) dX10_program_54 (by decide) rfl rfl (fun _ => ?_) (fun h => absurd h (by decide))
  refine q_aload_n dX10_program_70 rfl ?_
  refine q_aload_n dX10_program_71 rfl ?_
  refine q_getR (c := 10) (n := 0) (k := 4) (a := 17) dX10_program_72 rfl (by decide) (by decide) fX10_23 rfl rfl ?_
  refine q_getR (c := 2) (n := 0) (k := 0) (a := 18) dX10_program_75 rfl (by decide) (by decide) fX10_36 rfl rfl ?_
  show q_K _ (q_sX uXI12 zJ1) _ _ _ _ _ _
  refine q_V1 (ci := 10) (n := 0) dX10_program_78 DX10_goOnWith lX10_129 rfl (by decide) rfl rfl rfl rfl uX_X10_goOnWith_14 ?_
  rintro _ _ ⟨rfl, rfl⟩
  refine q_iret dX10_program_81 rfl ?_
  exact ⟨⟨_, _, rfl⟩, _, rfl, (by show (0 : Int) = _; first | rfl | omega | (split <;> omega) | (split <;> split <;> omega))⟩
theorem dX10_fault_0 : decode cX10_fault 0 = .ok (.iload_n 1, 1) := by decide +kernel
theorem dX10_fault_1 : decode cX10_fault 1 = .ok (.ifCond .ne 11, 3) := by decide +kernel
theorem dX10_fault_4 : decode cX10_fault 4 = .ok (.aload_n 0, 1) := by decide +kernel
theorem dX10_fault_5 : decode cX10_fault 5 = .ok (.getfield 40, 3) := by decide +kernel
theorem dX10_fault_8 : decode cX10_fault 8 = .ok (.getfield 133, 3) := by decide +kernel
theorem dX10_fault_11 : decode cX10_fault 11 = .ok (.ireturn, 1) := by decide +kernel
theorem dX10_fault_12 : decode cX10_fault 12 = .ok (.iload_n 1, 1) := by decide +kernel
theorem dX10_fault_13 : decode cX10_fault 13 = .ok (.iconst 1, 1) := by decide +kernel
theorem dX10_fault_14 : decode cX10_fault 14 = .ok (.if_icmp .ne 13, 3) := by decide +kernel
theorem dX10_fault_17 : decode cX10_fault 17 = .ok (.aload_n 0, 1) := by decide +kernel
theorem dX10_fault_18 : decode cX10_fault 18 = .ok (.getfield 40, 3) := by decide +kernel
theorem dX10_fault_21 : decode cX10_fault 21 = .ok (.getfield 136, 3) := by decide +kernel
theorem dX10_fault_24 : decode cX10_fault 24 = .ok (.goto 4, 3) := by decide +kernel
theorem dX10_fault_27 : decode cX10_fault 27 = .ok (.iconst (-1), 1) := by decide +kernel
theorem dX10_fault_28 : decode cX10_fault 28 = .ok (.ireturn, 1) := by decide +kernel
set_option maxRecDepth 20000 in
theorem frX_fault (a : Int32) : q_met mX10_fault (q_sX zI6 zJ1) [.ref 0, .int a] (fun s r => (∃ I J, s = q_sX I J) ∧ ∃ v, r = some (.int v) ∧ v.toInt = (if a.toInt = 0 then 0 else -1 : Int)) := by
  refine q_enter (by decide) (Nat.le_of_ble_eq_true rfl) ?_
  refine q_iload_n dX10_fault_0 rfl ?_
  refine q_iz_ne (tgt := 12) (a := a.toInt) dX10_fault_1 (by decide) rfl (fun h1_0 => ?_) (fun h1_0 => ?_)
  · refine q_iload_n dX10_fault_12 rfl ?_
    refine q_ic (v := 1) dX10_fault_13 rfl ?_
    refine q_cz_ne (tgt := 27) (a := a.toInt) (b := 1) dX10_fault_14 (by decide) rfl rfl (fun h14_1 => ?_) (fun h14_1 => ?_)
    · refine q_ic (v := (-1)) dX10_fault_27 rfl ?_
      refine q_iret dX10_fault_28 rfl ?_
      exact ⟨⟨_, _, rfl⟩, _, rfl, (by show ((-1) : Int) = _; first | rfl | omega | (split <;> omega) | (split <;> split <;> omega))⟩
    · refine q_aload_n dX10_fault_17 rfl ?_
      refine q_getR (c := 10) (n := 0) (k := 6) (a := 46) dX10_fault_18 rfl (by decide) (by decide) fX10_40 rfl rfl ?_
      refine q_getf (c := 7) (n := 0) (k := 1) (v := .int (-1)) dX10_fault_21 rfl (by decide) (by decide) fX10_136 rfl ?_
      refine q_goto (tgt := 28) dX10_fault_24 (by decide) ?_
      refine q_iret dX10_fault_28 rfl ?_
      exact ⟨⟨_, _, rfl⟩, _, rfl, (by show ((-1) : Int) = _; first | rfl | omega | (split <;> omega) | (split <;> split <;> omega))⟩
  · refine q_aload_n dX10_fault_4 rfl ?_
    refine q_getR (c := 10) (n := 0) (k := 6) (a := 46) dX10_fault_5 rfl (by decide) (by decide) fX10_40 rfl rfl ?_
    refine q_getf (c := 7) (n := 0) (k := 0) (v := .int 0) dX10_fault_8 rfl (by decide) (by decide) fX10_133 rfl ?_
    refine q_iret dX10_fault_11 rfl ?_
    exact ⟨⟨_, _, rfl⟩, _, rfl, (by show (0 : Int) = _; first | rfl | omega | (split <;> omega) | (split <;> split <;> omega))⟩
theorem dX10_place_0 : decode cX10_place 0 = .ok (.aload_n 0, 1) := by decide +kernel
theorem dX10_place_1 : decode cX10_place 1 = .ok (.getfield 16, 3) := by decide +kernel
theorem dX10_place_4 : decode cX10_place 4 = .ok (.iload_n 1, 1) := by decide +kernel
theorem dX10_place_5 : decode cX10_place 5 = .ok (.invokevirtual 139, 3) := by decide +kernel
theorem dX10_place_8 : decode cX10_place 8 = .ok (.ifCond .ne 5, 3) := by decide +kernel
theorem dX10_place_11 : decode cX10_place 11 = .ok (.iconst (-1), 1) := by decide +kernel
theorem dX10_place_12 : decode cX10_place 12 = .ok (.ireturn, 1) := by decide +kernel
theorem dX10_place_13 : decode cX10_place 13 = .ok (.iload_n 2, 1) := by decide +kernel
theorem dX10_place_14 : decode cX10_place 14 = .ok (.tableswitch 70 0 3 #[30, 40, 50, 60], 30) := by decide +kernel
theorem dX10_place_44 : decode cX10_place 44 = .ok (.aload_n 0, 1) := by decide +kernel
theorem dX10_place_45 : decode cX10_place 45 = .ok (.getfield 16, 3) := by decide +kernel
theorem dX10_place_48 : decode cX10_place 48 = .ok (.getfield 142, 3) := by decide +kernel
theorem dX10_place_51 : decode cX10_place 51 = .ok (.iload_n 1, 1) := by decide +kernel
theorem dX10_place_52 : decode cX10_place 52 = .ok (.iaload, 1) := by decide +kernel
theorem dX10_place_53 : decode cX10_place 53 = .ok (.ireturn, 1) := by decide +kernel
theorem dX10_place_54 : decode cX10_place 54 = .ok (.aload_n 0, 1) := by decide +kernel
theorem dX10_place_55 : decode cX10_place 55 = .ok (.getfield 16, 3) := by decide +kernel
theorem dX10_place_58 : decode cX10_place 58 = .ok (.getfield 146, 3) := by decide +kernel
theorem dX10_place_61 : decode cX10_place 61 = .ok (.iload_n 1, 1) := by decide +kernel
theorem dX10_place_62 : decode cX10_place 62 = .ok (.iaload, 1) := by decide +kernel
theorem dX10_place_63 : decode cX10_place 63 = .ok (.ireturn, 1) := by decide +kernel
theorem dX10_place_64 : decode cX10_place 64 = .ok (.aload_n 0, 1) := by decide +kernel
theorem dX10_place_65 : decode cX10_place 65 = .ok (.getfield 16, 3) := by decide +kernel
theorem dX10_place_68 : decode cX10_place 68 = .ok (.getfield 149, 3) := by decide +kernel
theorem dX10_place_71 : decode cX10_place 71 = .ok (.iload_n 1, 1) := by decide +kernel
theorem dX10_place_72 : decode cX10_place 72 = .ok (.iaload, 1) := by decide +kernel
theorem dX10_place_73 : decode cX10_place 73 = .ok (.ireturn, 1) := by decide +kernel
theorem dX10_place_74 : decode cX10_place 74 = .ok (.aload_n 0, 1) := by decide +kernel
theorem dX10_place_75 : decode cX10_place 75 = .ok (.getfield 16, 3) := by decide +kernel
theorem dX10_place_78 : decode cX10_place 78 = .ok (.getfield 152, 3) := by decide +kernel
theorem dX10_place_81 : decode cX10_place 81 = .ok (.iload_n 1, 1) := by decide +kernel
theorem dX10_place_82 : decode cX10_place 82 = .ok (.iaload, 1) := by decide +kernel
theorem dX10_place_83 : decode cX10_place 83 = .ok (.ireturn, 1) := by decide +kernel
theorem dX10_place_84 : decode cX10_place 84 = .ok (.iconst (-1), 1) := by decide +kernel
theorem dX10_place_85 : decode cX10_place 85 = .ok (.ireturn, 1) := by decide +kernel
theorem dX9_has_0 : decode cX9_has 0 = .ok (.iload_n 1, 1) := by decide +kernel
theorem dX9_has_1 : decode cX9_has 1 = .ok (.ifCond .lt 21, 3) := by decide +kernel
theorem dX9_has_4 : decode cX9_has 4 = .ok (.iload_n 1, 1) := by decide +kernel
theorem dX9_has_5 : decode cX9_has 5 = .ok (.aload_n 0, 1) := by decide +kernel
theorem dX9_has_6 : decode cX9_has 6 = .ok (.getfield 59, 3) := by decide +kernel
theorem dX9_has_9 : decode cX9_has 9 = .ok (.if_icmp .ge 13, 3) := by decide +kernel
theorem dX9_has_12 : decode cX9_has 12 = .ok (.iload_n 1, 1) := by decide +kernel
theorem dX9_has_13 : decode cX9_has 13 = .ok (.bipush 40, 2) := by decide +kernel
theorem dX9_has_15 : decode cX9_has 15 = .ok (.if_icmp .ge 7, 3) := by decide +kernel
theorem dX9_has_18 : decode cX9_has 18 = .ok (.iconst 1, 1) := by decide +kernel
theorem dX9_has_19 : decode cX9_has 19 = .ok (.goto 4, 3) := by decide +kernel
theorem dX9_has_22 : decode cX9_has 22 = .ok (.iconst 0, 1) := by decide +kernel
theorem dX9_has_23 : decode cX9_has 23 = .ok (.ireturn, 1) := by decide +kernel
set_option maxRecDepth 20000 in
theorem uX_X9_has_17 (a : Int32) : q_met mX9_has (q_sX zI6 zJ1) [.ref 2, .int a] (fun s r => s = q_sX zI6 zJ1 ∧ r = some (.int 0)) := by
  refine q_enter (by decide) (Nat.le_of_ble_eq_true rfl) ?_
  refine q_iload_n dX9_has_0 rfl ?_
  refine q_iz_lt (tgt := 22) (a := a.toInt) dX9_has_1 (by decide) rfl (fun h1_0 => ?_) (fun h1_0 => ?_)
  · refine q_ic (v := 0) dX9_has_22 rfl ?_
    refine q_zret dX9_has_23 rfl (Or.inl rfl) ?_
    exact ⟨rfl, rfl⟩
  · refine q_iload_n dX9_has_4 rfl ?_
    refine q_aload_n dX9_has_5 rfl ?_
    refine q_getf (c := 9) (n := 0) (k := 1) (v := .int 0) dX9_has_6 rfl (by decide) (by decide) fX9_59 rfl ?_
    refine q_cz_ge (tgt := 22) (a := a.toInt) (b := 0) dX9_has_9 (by decide) rfl rfl (fun h9_1 => ?_) (fun h9_1 => ?_)
    · refine q_ic (v := 0) dX9_has_22 rfl ?_
      refine q_zret dX9_has_23 rfl (Or.inl rfl) ?_
      exact ⟨rfl, rfl⟩
    · exfalso; omega
set_option maxRecDepth 20000 in
theorem frX_place (a : Int32) (b : Int32) : q_met mX10_place (q_sX zI6 zJ1) [.ref 0, .int a, .int b] (fun s r => (∃ I J, s = q_sX I J) ∧ ∃ v, r = some (.int v) ∧ v.toInt = (-1 : Int)) := by
  refine q_enter (by decide) (Nat.le_of_ble_eq_true rfl) ?_
  refine q_aload_n dX10_place_0 rfl ?_
  refine q_getR (c := 10) (n := 0) (k := 3) (a := 2) dX10_place_1 rfl (by decide) (by decide) fX10_16 rfl rfl ?_
  refine q_iload_n dX10_place_4 rfl ?_
  refine q_V1 (ci := 9) (n := 0) dX10_place_5 DX9_has lX10_139 rfl (by decide) rfl rfl rfl rfl (uX_X9_has_17 a) ?_
  rintro _ _ ⟨rfl, rfl⟩
  refine q_iz_ne (tgt := 13) (a := 0) dX10_place_8 (by decide) rfl (fun h => absurd h (by decide)) (fun _ => ?_)
  refine q_ic (v := (-1)) dX10_place_11 rfl ?_
  refine q_iret dX10_place_12 rfl ?_
  exact ⟨⟨_, _, rfl⟩, _, rfl, (by show ((-1) : Int) = _; first | rfl | omega | (split <;> omega) | (split <;> split <;> omega))⟩
theorem dX10_fits_0 : decode cX10_fits 0 = .ok (.aload_n 0, 1) := by decide +kernel
theorem dX10_fits_1 : decode cX10_fits 1 = .ok (.getfield 49, 3) := by decide +kernel
theorem dX10_fits_4 : decode cX10_fits 4 = .ok (.invokevirtual 155, 3) := by decide +kernel
theorem dX10_fits_7 : decode cX10_fits 7 = .ok (.ifCond .eq 7, 3) := by decide +kernel
theorem dX10_fits_10 : decode cX10_fits 10 = .ok (.iconst 1, 1) := by decide +kernel
theorem dX10_fits_11 : decode cX10_fits 11 = .ok (.goto 4, 3) := by decide +kernel
theorem dX10_fits_14 : decode cX10_fits 14 = .ok (.iconst 0, 1) := by decide +kernel
theorem dX10_fits_15 : decode cX10_fits 15 = .ok (.ireturn, 1) := by decide +kernel
theorem dX0_allFit_0 : decode cX0_allFit 0 = .ok (.aload_n 0, 1) := by decide +kernel
theorem dX0_allFit_1 : decode cX0_allFit 1 = .ok (.getfield 49, 3) := by decide +kernel
theorem dX0_allFit_4 : decode cX0_allFit 4 = .ok (.ifCond .ne 31, 3) := by decide +kernel
theorem dX0_allFit_7 : decode cX0_allFit 7 = .ok (.aload_n 0, 1) := by decide +kernel
theorem dX0_allFit_8 : decode cX0_allFit 8 = .ok (.aload_n 0, 1) := by decide +kernel
theorem dX0_allFit_9 : decode cX0_allFit 9 = .ok (.aload_n 0, 1) := by decide +kernel
theorem dX0_allFit_10 : decode cX0_allFit 10 = .ok (.getfield 33, 3) := by decide +kernel
theorem dX0_allFit_13 : decode cX0_allFit 13 = .ok (.invokevirtual 107, 3) := by decide +kernel
theorem dX0_allFit_16 : decode cX0_allFit 16 = .ok (.invokevirtual 111, 3) := by decide +kernel
theorem dX0_allFit_19 : decode cX0_allFit 19 = .ok (.ifCond .ne 7, 3) := by decide +kernel
theorem dX0_allFit_22 : decode cX0_allFit 22 = .ok (.iconst 1, 1) := by decide +kernel
theorem dX0_allFit_23 : decode cX0_allFit 23 = .ok (.goto 4, 3) := by decide +kernel
theorem dX0_allFit_26 : decode cX0_allFit 26 = .ok (.iconst 0, 1) := by decide +kernel
theorem dX0_allFit_27 : decode cX0_allFit 27 = .ok (.putfield 115, 3) := by decide +kernel
theorem dX0_allFit_30 : decode cX0_allFit 30 = .ok (.aload_n 0, 1) := by decide +kernel
theorem dX0_allFit_31 : decode cX0_allFit 31 = .ok (.iconst 1, 1) := by decide +kernel
theorem dX0_allFit_32 : decode cX0_allFit 32 = .ok (.putfield 49, 3) := by decide +kernel
theorem dX0_allFit_35 : decode cX0_allFit 35 = .ok (.aload_n 0, 1) := by decide +kernel
theorem dX0_allFit_36 : decode cX0_allFit 36 = .ok (.getfield 115, 3) := by decide +kernel
theorem dX0_allFit_39 : decode cX0_allFit 39 = .ok (.ireturn, 1) := by decide +kernel
theorem dX9_all_0 : decode cX9_all 0 = .ok (.lconst 1, 1) := by decide +kernel
theorem dX9_all_1 : decode cX9_all 1 = .ok (.aload_n 0, 1) := by decide +kernel
theorem dX9_all_2 : decode cX9_all 2 = .ok (.getfield 59, 3) := by decide +kernel
theorem dX9_all_5 : decode cX9_all 5 = .ok (.lshl, 1) := by decide +kernel
theorem dX9_all_6 : decode cX9_all 6 = .ok (.lconst 1, 1) := by decide +kernel
theorem dX9_all_7 : decode cX9_all 7 = .ok (.lsub, 1) := by decide +kernel
theorem dX9_all_8 : decode cX9_all 8 = .ok (.lreturn, 1) := by decide +kernel
set_option maxRecDepth 20000 in
theorem uX_X9_all_19 : q_met mX9_all (q_sX zI6 zJ1) [.ref 2] (fun s r => s = q_sX zI6 zJ1 ∧ r = some (.long 0)) := by
  refine q_enter (by decide) (Nat.le_of_ble_eq_true rfl) ?_
  refine q_lc (v := 1) dX9_all_0 rfl ?_
  refine q_aload_n dX9_all_1 rfl ?_
  refine q_getf (c := 9) (n := 0) (k := 1) (v := .int 0) dX9_all_2 rfl (by decide) (by decide) fX9_59 rfl ?_
  refine q_lshl dX9_all_5 ?_
  refine q_topL (v := 1) rfl ?_
  refine q_lc (v := 1) dX9_all_6 rfl ?_
  refine q_lsub dX9_all_7 ?_
  refine q_topL (v := 0) rfl ?_
  refine q_lret dX9_all_8 rfl ?_
  exact ⟨rfl, rfl⟩
theorem dX0_clashOf_0 : decode cX0_clashOf 0 = .ok (.aload_n 0, 1) := by decide +kernel
theorem dX0_clashOf_1 : decode cX0_clashOf 1 = .ok (.getfield 37, 3) := by decide +kernel
theorem dX0_clashOf_4 : decode cX0_clashOf 4 = .ok (.iconst 2, 1) := by decide +kernel
theorem dX0_clashOf_5 : decode cX0_clashOf 5 = .ok (.aload_n 0, 1) := by decide +kernel
theorem dX0_clashOf_6 : decode cX0_clashOf 6 = .ok (.getfield 41, 3) := by decide +kernel
theorem dX0_clashOf_9 : decode cX0_clashOf 9 = .ok (.imul, 1) := by decide +kernel
theorem dX0_clashOf_10 : decode cX0_clashOf 10 = .ok (.invokevirtual 144, 3) := by decide +kernel
theorem dX0_clashOf_13 : decode cX0_clashOf 13 = .ok (.iconst 0, 1) := by decide +kernel
theorem dX0_clashOf_14 : decode cX0_clashOf 14 = .ok (.istore_n 3, 1) := by decide +kernel
theorem dX0_clashOf_15 : decode cX0_clashOf 15 = .ok (.iload_n 3, 1) := by decide +kernel
theorem dX0_clashOf_16 : decode cX0_clashOf 16 = .ok (.aload_n 0, 1) := by decide +kernel
theorem dX0_clashOf_17 : decode cX0_clashOf 17 = .ok (.getfield 41, 3) := by decide +kernel
theorem dX0_clashOf_20 : decode cX0_clashOf 20 = .ok (.if_icmp .ge 41, 3) := by decide +kernel
theorem dX0_clashOf_23 : decode cX0_clashOf 23 = .ok (.iload_n 3, 1) := by decide +kernel
theorem dX0_clashOf_24 : decode cX0_clashOf 24 = .ok (.sipush 400, 3) := by decide +kernel
theorem dX0_clashOf_27 : decode cX0_clashOf 27 = .ok (.if_icmp .ge 34, 3) := by decide +kernel
theorem dX0_clashOf_30 : decode cX0_clashOf 30 = .ok (.lload_n 1, 1) := by decide +kernel
theorem dX0_clashOf_31 : decode cX0_clashOf 31 = .ok (.aload_n 0, 1) := by decide +kernel
theorem dX0_clashOf_32 : decode cX0_clashOf 32 = .ok (.getfield 9, 3) := by decide +kernel
theorem dX0_clashOf_35 : decode cX0_clashOf 35 = .ok (.iload_n 3, 1) := by decide +kernel
theorem dX0_clashOf_36 : decode cX0_clashOf 36 = .ok (.iaload, 1) := by decide +kernel
theorem dX0_clashOf_37 : decode cX0_clashOf 37 = .ok (.lushr, 1) := by decide +kernel
theorem dX0_clashOf_38 : decode cX0_clashOf 38 = .ok (.lconst 1, 1) := by decide +kernel
theorem dX0_clashOf_39 : decode cX0_clashOf 39 = .ok (.land, 1) := by decide +kernel
theorem dX0_clashOf_40 : decode cX0_clashOf 40 = .ok (.lconst 0, 1) := by decide +kernel
theorem dX0_clashOf_41 : decode cX0_clashOf 41 = .ok (.lcmp, 1) := by decide +kernel
theorem dX0_clashOf_42 : decode cX0_clashOf 42 = .ok (.ifCond .eq 13, 3) := by decide +kernel
theorem dX0_clashOf_45 : decode cX0_clashOf 45 = .ok (.aload_n 0, 1) := by decide +kernel
theorem dX0_clashOf_46 : decode cX0_clashOf 46 = .ok (.iload_n 3, 1) := by decide +kernel
theorem dX0_clashOf_47 : decode cX0_clashOf 47 = .ok (.invokevirtual 148, 3) := by decide +kernel
theorem dX0_clashOf_50 : decode cX0_clashOf 50 = .ok (.ifCond .ne 5, 3) := by decide +kernel
theorem dX0_clashOf_53 : decode cX0_clashOf 53 = .ok (.iconst 1, 1) := by decide +kernel
theorem dX0_clashOf_54 : decode cX0_clashOf 54 = .ok (.ireturn, 1) := by decide +kernel
theorem dX0_clashOf_55 : decode cX0_clashOf 55 = .ok (.iinc 3 1, 3) := by decide +kernel
theorem dX0_clashOf_58 : decode cX0_clashOf 58 = .ok (.goto (-43), 3) := by decide +kernel
theorem dX0_clashOf_61 : decode cX0_clashOf 61 = .ok (.aload_n 0, 1) := by decide +kernel
theorem dX0_clashOf_62 : decode cX0_clashOf 62 = .ok (.getfield 37, 3) := by decide +kernel
theorem dX0_clashOf_65 : decode cX0_clashOf 65 = .ok (.invokevirtual 141, 3) := by decide +kernel
theorem dX0_clashOf_68 : decode cX0_clashOf 68 = .ok (.ireturn, 1) := by decide +kernel
theorem dX4_begin_0 : decode cX4_begin 0 = .ok (.aload_n 0, 1) := by decide +kernel
theorem dX4_begin_1 : decode cX4_begin 1 = .ok (.iconst 0, 1) := by decide +kernel
theorem dX4_begin_2 : decode cX4_begin 2 = .ok (.putfield 33, 3) := by decide +kernel
theorem dX4_begin_5 : decode cX4_begin 5 = .ok (.iconst 0, 1) := by decide +kernel
theorem dX4_begin_6 : decode cX4_begin 6 = .ok (.istore_n 2, 1) := by decide +kernel
theorem dX4_begin_7 : decode cX4_begin 7 = .ok (.iload_n 2, 1) := by decide +kernel
theorem dX4_begin_8 : decode cX4_begin 8 = .ok (.iload_n 1, 1) := by decide +kernel
theorem dX4_begin_9 : decode cX4_begin 9 = .ok (.if_icmp .ge 24, 3) := by decide +kernel
theorem dX4_begin_12 : decode cX4_begin 12 = .ok (.iload_n 2, 1) := by decide +kernel
theorem dX4_begin_13 : decode cX4_begin 13 = .ok (.sipush 5602, 3) := by decide +kernel
theorem dX4_begin_16 : decode cX4_begin 16 = .ok (.if_icmp .ge 17, 3) := by decide +kernel
theorem dX4_begin_19 : decode cX4_begin 19 = .ok (.aload_n 0, 1) := by decide +kernel
theorem dX4_begin_20 : decode cX4_begin 20 = .ok (.iconst 5, 1) := by decide +kernel
theorem dX4_begin_21 : decode cX4_begin 21 = .ok (.iconst (-1), 1) := by decide +kernel
theorem dX4_begin_22 : decode cX4_begin 22 = .ok (.iconst (-1), 1) := by decide +kernel
theorem dX4_begin_23 : decode cX4_begin 23 = .ok (.invokevirtual 37, 3) := by decide +kernel
theorem dX4_begin_26 : decode cX4_begin 26 = .ok (.pop, 1) := by decide +kernel
theorem dX4_begin_27 : decode cX4_begin 27 = .ok (.iinc 2 1, 3) := by decide +kernel
theorem dX4_begin_30 : decode cX4_begin 30 = .ok (.goto (-23), 3) := by decide +kernel
theorem dX4_begin_33 : decode cX4_begin 33 = .ok (.aload_n 0, 1) := by decide +kernel
theorem dX4_begin_34 : decode cX4_begin 34 = .ok (.aload_n 0, 1) := by decide +kernel
theorem dX4_begin_35 : decode cX4_begin 35 = .ok (.iconst 0, 1) := by decide +kernel
theorem dX4_begin_36 : decode cX4_begin 36 = .ok (.iconst (-1), 1) := by decide +kernel
theorem dX4_begin_37 : decode cX4_begin 37 = .ok (.iconst (-1), 1) := by decide +kernel
theorem dX4_begin_38 : decode cX4_begin 38 = .ok (.invokevirtual 37, 3) := by decide +kernel
theorem dX4_begin_41 : decode cX4_begin 41 = .ok (.putfield 41, 3) := by decide +kernel
theorem dX4_begin_44 : decode cX4_begin 44 = .ok (.aload_n 0, 1) := by decide +kernel
theorem dX4_begin_45 : decode cX4_begin 45 = .ok (.aload_n 0, 1) := by decide +kernel
theorem dX4_begin_46 : decode cX4_begin 46 = .ok (.iconst 1, 1) := by decide +kernel
theorem dX4_begin_47 : decode cX4_begin 47 = .ok (.iconst (-1), 1) := by decide +kernel
theorem dX4_begin_48 : decode cX4_begin 48 = .ok (.iconst (-1), 1) := by decide +kernel
theorem dX4_begin_49 : decode cX4_begin 49 = .ok (.invokevirtual 37, 3) := by decide +kernel
theorem dX4_begin_52 : decode cX4_begin 52 = .ok (.putfield 44, 3) := by decide +kernel
theorem dX4_begin_55 : decode cX4_begin 55 = .ok (.return_, 1) := by decide +kernel
def uXI34 : Nat → Nat → Int32 := q_up zI6 38 2 0
theorem dX4_make_0 : decode cX4_make 0 = .ok (.aload_n 0, 1) := by decide +kernel
theorem dX4_make_1 : decode cX4_make 1 = .ok (.getfield 33, 3) := by decide +kernel
theorem dX4_make_4 : decode cX4_make 4 = .ok (.ifCond .lt 13, 3) := by decide +kernel
theorem dX4_make_7 : decode cX4_make 7 = .ok (.aload_n 0, 1) := by decide +kernel
theorem dX4_make_8 : decode cX4_make 8 = .ok (.getfield 33, 3) := by decide +kernel
theorem dX4_make_11 : decode cX4_make 11 = .ok (.sipush 5602, 3) := by decide +kernel
theorem dX4_make_14 : decode cX4_make 14 = .ok (.if_icmp .lt 5, 3) := by decide +kernel
theorem dX4_make_17 : decode cX4_make 17 = .ok (.iconst (-1), 1) := by decide +kernel
theorem dX4_make_18 : decode cX4_make 18 = .ok (.ireturn, 1) := by decide +kernel
theorem dX4_make_19 : decode cX4_make 19 = .ok (.aload_n 0, 1) := by decide +kernel
theorem dX4_make_20 : decode cX4_make 20 = .ok (.getfield 33, 3) := by decide +kernel
theorem dX4_make_23 : decode cX4_make 23 = .ok (.istore 4, 2) := by decide +kernel
theorem dX4_make_25 : decode cX4_make 25 = .ok (.aload_n 0, 1) := by decide +kernel
theorem dX4_make_26 : decode cX4_make 26 = .ok (.dup, 1) := by decide +kernel
theorem dX4_make_27 : decode cX4_make 27 = .ok (.getfield 33, 3) := by decide +kernel
theorem dX4_make_30 : decode cX4_make 30 = .ok (.iconst 1, 1) := by decide +kernel
theorem dX4_make_31 : decode cX4_make 31 = .ok (.iadd, 1) := by decide +kernel
theorem dX4_make_32 : decode cX4_make 32 = .ok (.putfield 33, 3) := by decide +kernel
theorem dX4_make_35 : decode cX4_make 35 = .ok (.aload_n 0, 1) := by decide +kernel
theorem dX4_make_36 : decode cX4_make 36 = .ok (.getfield 11, 3) := by decide +kernel
theorem dX4_make_39 : decode cX4_make 39 = .ok (.iload 4, 2) := by decide +kernel
theorem dX4_make_41 : decode cX4_make 41 = .ok (.iload 4, 2) := by decide +kernel
theorem dX4_make_43 : decode cX4_make 43 = .ok (.iastore, 1) := by decide +kernel
theorem dX4_make_44 : decode cX4_make 44 = .ok (.aload_n 0, 1) := by decide +kernel
theorem dX4_make_45 : decode cX4_make 45 = .ok (.getfield 15, 3) := by decide +kernel
theorem dX4_make_48 : decode cX4_make 48 = .ok (.iload 4, 2) := by decide +kernel
theorem dX4_make_50 : decode cX4_make 50 = .ok (.iload_n 1, 1) := by decide +kernel
theorem dX4_make_51 : decode cX4_make 51 = .ok (.iastore, 1) := by decide +kernel
theorem dX4_make_52 : decode cX4_make 52 = .ok (.aload_n 0, 1) := by decide +kernel
theorem dX4_make_53 : decode cX4_make 53 = .ok (.getfield 18, 3) := by decide +kernel
theorem dX4_make_56 : decode cX4_make 56 = .ok (.iload 4, 2) := by decide +kernel
theorem dX4_make_58 : decode cX4_make 58 = .ok (.iload_n 2, 1) := by decide +kernel
theorem dX4_make_59 : decode cX4_make 59 = .ok (.iastore, 1) := by decide +kernel
theorem dX4_make_60 : decode cX4_make 60 = .ok (.aload_n 0, 1) := by decide +kernel
theorem dX4_make_61 : decode cX4_make 61 = .ok (.getfield 21, 3) := by decide +kernel
theorem dX4_make_64 : decode cX4_make 64 = .ok (.iload 4, 2) := by decide +kernel
theorem dX4_make_66 : decode cX4_make 66 = .ok (.iload_n 3, 1) := by decide +kernel
theorem dX4_make_67 : decode cX4_make 67 = .ok (.iastore, 1) := by decide +kernel
theorem dX4_make_68 : decode cX4_make 68 = .ok (.iload 4, 2) := by decide +kernel
theorem dX4_make_70 : decode cX4_make 70 = .ok (.ireturn, 1) := by decide +kernel
def uXI35 : Nat → Nat → Int32 := q_up (q_up (q_up (q_up (q_up uXI34 38 2 1) 39 0 0) 40 0 0) 41 0 (-1)) 42 0 (-1)
set_option maxRecDepth 20000 in
theorem uX_X4_make_20 : q_met mX4_make (q_sX uXI34 zJ1) [.ref 38, .int 0, .int (-1), .int (-1)] (fun s r => s = q_sX uXI35 zJ1 ∧ r = some (.int 0)) := by
  refine q_enter (by decide) (Nat.le_of_ble_eq_true rfl) ?_
  refine q_aload_n dX4_make_0 rfl ?_
  refine q_getf (c := 4) (n := 0) (k := 2) (v := .int 0) dX4_make_1 rfl (by decide) (by decide) fX4_33 rfl ?_
  refine q_iz_lt (tgt := 17) (a := 0) dX4_make_4 (by decide) rfl (fun h => absurd h (by decide)) (fun _ => ?_)
  refine q_aload_n dX4_make_7 rfl ?_
  refine q_getf (c := 4) (n := 0) (k := 2) (v := .int 0) dX4_make_8 rfl (by decide) (by decide) fX4_33 rfl ?_
  refine q_si (v := 5602) dX4_make_11 rfl ?_
  refine q_cz_lt (tgt := 19) (a := 0) (b := 5602) dX4_make_14 (by decide) rfl rfl (fun _ => ?_) (fun h => absurd h (by decide))
  refine q_aload_n dX4_make_19 rfl ?_
  refine q_getf (c := 4) (n := 0) (k := 2) (v := .int 0) dX4_make_20 rfl (by decide) (by decide) fX4_33 rfl ?_
  refine q_istore dX4_make_23 (Nat.le_of_ble_eq_true rfl) ?_
  refine q_aload_n dX4_make_25 rfl ?_
  refine q_dup dX4_make_26 rfl ?_
  refine q_getf (c := 4) (n := 0) (k := 2) (v := .int 0) dX4_make_27 rfl (by decide) (by decide) fX4_33 rfl ?_
  refine q_ic (v := 1) dX4_make_30 rfl ?_
  refine q_iadd dX4_make_31 ?_
  refine q_topI (v := 1) rfl ?_
  refine q_putI (c := 4) (n := 0) (k := 2) dX4_make_32 rfl (by decide) (by decide) fX4_33 rfl rfl ?_
  show q_K _ (q_sX (q_up uXI34 38 2 1) zJ1) _ _ _ _ _ _
  refine q_aload_n dX4_make_35 rfl ?_
  refine q_getR (c := 4) (n := 0) (k := 3) (a := 39) dX4_make_36 rfl (by decide) (by decide) fX4_11 rfl rfl ?_
  refine q_iload dX4_make_39 rfl ?_
  refine q_iload dX4_make_41 rfl ?_
  refine q_iast (n := 5602) (j := 0) dX4_make_43 rfl rfl (by decide) ?_
  show q_K _ (q_sX (q_up (q_up uXI34 38 2 1) 39 0 0) zJ1) _ _ _ _ _ _
  refine q_aload_n dX4_make_44 rfl ?_
  refine q_getR (c := 4) (n := 0) (k := 4) (a := 40) dX4_make_45 rfl (by decide) (by decide) fX4_15 rfl rfl ?_
  refine q_iload dX4_make_48 rfl ?_
  refine q_iload_n dX4_make_50 rfl ?_
  refine q_iast (n := 5602) (j := 0) dX4_make_51 rfl rfl (by decide) ?_
  show q_K _ (q_sX (q_up (q_up (q_up uXI34 38 2 1) 39 0 0) 40 0 0) zJ1) _ _ _ _ _ _
  refine q_aload_n dX4_make_52 rfl ?_
  refine q_getR (c := 4) (n := 0) (k := 5) (a := 41) dX4_make_53 rfl (by decide) (by decide) fX4_18 rfl rfl ?_
  refine q_iload dX4_make_56 rfl ?_
  refine q_iload_n dX4_make_58 rfl ?_
  refine q_iast (n := 5602) (j := 0) dX4_make_59 rfl rfl (by decide) ?_
  show q_K _ (q_sX (q_up (q_up (q_up (q_up uXI34 38 2 1) 39 0 0) 40 0 0) 41 0 (-1)) zJ1) _ _ _ _ _ _
  refine q_aload_n dX4_make_60 rfl ?_
  refine q_getR (c := 4) (n := 0) (k := 6) (a := 42) dX4_make_61 rfl (by decide) (by decide) fX4_21 rfl rfl ?_
  refine q_iload dX4_make_64 rfl ?_
  refine q_iload_n dX4_make_66 rfl ?_
  refine q_iast (n := 5602) (j := 0) dX4_make_67 rfl rfl (by decide) ?_
  show q_K _ (q_sX (q_up (q_up (q_up (q_up (q_up uXI34 38 2 1) 39 0 0) 40 0 0) 41 0 (-1)) 42 0 (-1)) zJ1) _ _ _ _ _ _
  refine q_iload dX4_make_68 rfl ?_
  show q_K _ (q_sX uXI35 zJ1) _ _ _ _ _ _
  refine q_iret dX4_make_70 rfl ?_
  exact ⟨rfl, rfl⟩
def uXI36 : Nat → Nat → Int32 := q_up uXI35 38 0 0
def uXI37 : Nat → Nat → Int32 := q_up (q_up (q_up (q_up (q_up uXI36 38 2 2) 39 1 1) 40 1 1) 41 1 (-1)) 42 1 (-1)
set_option maxRecDepth 20000 in
theorem uX_X4_make_21 : q_met mX4_make (q_sX uXI36 zJ1) [.ref 38, .int 1, .int (-1), .int (-1)] (fun s r => s = q_sX uXI37 zJ1 ∧ r = some (.int 1)) := by
  refine q_enter (by decide) (Nat.le_of_ble_eq_true rfl) ?_
  refine q_aload_n dX4_make_0 rfl ?_
  refine q_getf (c := 4) (n := 0) (k := 2) (v := .int 1) dX4_make_1 rfl (by decide) (by decide) fX4_33 rfl ?_
  refine q_iz_lt (tgt := 17) (a := 1) dX4_make_4 (by decide) rfl (fun h => absurd h (by decide)) (fun _ => ?_)
  refine q_aload_n dX4_make_7 rfl ?_
  refine q_getf (c := 4) (n := 0) (k := 2) (v := .int 1) dX4_make_8 rfl (by decide) (by decide) fX4_33 rfl ?_
  refine q_si (v := 5602) dX4_make_11 rfl ?_
  refine q_cz_lt (tgt := 19) (a := 1) (b := 5602) dX4_make_14 (by decide) rfl rfl (fun _ => ?_) (fun h => absurd h (by decide))
  refine q_aload_n dX4_make_19 rfl ?_
  refine q_getf (c := 4) (n := 0) (k := 2) (v := .int 1) dX4_make_20 rfl (by decide) (by decide) fX4_33 rfl ?_
  refine q_istore dX4_make_23 (Nat.le_of_ble_eq_true rfl) ?_
  refine q_aload_n dX4_make_25 rfl ?_
  refine q_dup dX4_make_26 rfl ?_
  refine q_getf (c := 4) (n := 0) (k := 2) (v := .int 1) dX4_make_27 rfl (by decide) (by decide) fX4_33 rfl ?_
  refine q_ic (v := 1) dX4_make_30 rfl ?_
  refine q_iadd dX4_make_31 ?_
  refine q_topI (v := 2) rfl ?_
  refine q_putI (c := 4) (n := 0) (k := 2) dX4_make_32 rfl (by decide) (by decide) fX4_33 rfl rfl ?_
  show q_K _ (q_sX (q_up uXI36 38 2 2) zJ1) _ _ _ _ _ _
  refine q_aload_n dX4_make_35 rfl ?_
  refine q_getR (c := 4) (n := 0) (k := 3) (a := 39) dX4_make_36 rfl (by decide) (by decide) fX4_11 rfl rfl ?_
  refine q_iload dX4_make_39 rfl ?_
  refine q_iload dX4_make_41 rfl ?_
  refine q_iast (n := 5602) (j := 1) dX4_make_43 rfl rfl (by decide) ?_
  show q_K _ (q_sX (q_up (q_up uXI36 38 2 2) 39 1 1) zJ1) _ _ _ _ _ _
  refine q_aload_n dX4_make_44 rfl ?_
  refine q_getR (c := 4) (n := 0) (k := 4) (a := 40) dX4_make_45 rfl (by decide) (by decide) fX4_15 rfl rfl ?_
  refine q_iload dX4_make_48 rfl ?_
  refine q_iload_n dX4_make_50 rfl ?_
  refine q_iast (n := 5602) (j := 1) dX4_make_51 rfl rfl (by decide) ?_
  show q_K _ (q_sX (q_up (q_up (q_up uXI36 38 2 2) 39 1 1) 40 1 1) zJ1) _ _ _ _ _ _
  refine q_aload_n dX4_make_52 rfl ?_
  refine q_getR (c := 4) (n := 0) (k := 5) (a := 41) dX4_make_53 rfl (by decide) (by decide) fX4_18 rfl rfl ?_
  refine q_iload dX4_make_56 rfl ?_
  refine q_iload_n dX4_make_58 rfl ?_
  refine q_iast (n := 5602) (j := 1) dX4_make_59 rfl rfl (by decide) ?_
  show q_K _ (q_sX (q_up (q_up (q_up (q_up uXI36 38 2 2) 39 1 1) 40 1 1) 41 1 (-1)) zJ1) _ _ _ _ _ _
  refine q_aload_n dX4_make_60 rfl ?_
  refine q_getR (c := 4) (n := 0) (k := 6) (a := 42) dX4_make_61 rfl (by decide) (by decide) fX4_21 rfl rfl ?_
  refine q_iload dX4_make_64 rfl ?_
  refine q_iload_n dX4_make_66 rfl ?_
  refine q_iast (n := 5602) (j := 1) dX4_make_67 rfl rfl (by decide) ?_
  show q_K _ (q_sX (q_up (q_up (q_up (q_up (q_up uXI36 38 2 2) 39 1 1) 40 1 1) 41 1 (-1)) 42 1 (-1)) zJ1) _ _ _ _ _ _
  refine q_iload dX4_make_68 rfl ?_
  show q_K _ (q_sX uXI37 zJ1) _ _ _ _ _ _
  refine q_iret dX4_make_70 rfl ?_
  exact ⟨rfl, rfl⟩
def uXI38 : Nat → Nat → Int32 := q_up uXI37 38 1 1
set_option maxRecDepth 20000 in
theorem uX_X4_begin_22 : q_met mX4_begin (q_sX zI6 zJ1) [.ref 38, .int 0] (fun s r => s = q_sX uXI38 zJ1 ∧ r = none) := by
  refine q_enter (by decide) (Nat.le_of_ble_eq_true rfl) ?_
  refine q_aload_n dX4_begin_0 rfl ?_
  refine q_ic (v := 0) dX4_begin_1 rfl ?_
  refine q_putI (c := 4) (n := 0) (k := 2) dX4_begin_2 rfl (by decide) (by decide) fX4_33 rfl rfl ?_
  show q_K _ (q_sX (q_up zI6 38 2 0) zJ1) _ _ _ _ _ _
  refine q_ic (v := 0) dX4_begin_5 rfl ?_
  refine q_istore_n dX4_begin_6 (Nat.le_of_ble_eq_true rfl) ?_
  refine q_iload_n dX4_begin_7 rfl ?_
  refine q_iload_n dX4_begin_8 rfl ?_
  refine q_cz_ge (tgt := 33) (a := 0) (b := 0) dX4_begin_9 (by decide) rfl rfl (fun _ => ?_) (fun h => absurd h (by decide))
  refine q_aload_n dX4_begin_33 rfl ?_
  refine q_aload_n dX4_begin_34 rfl ?_
  refine q_ic (v := 0) dX4_begin_35 rfl ?_
  refine q_ic (v := (-1)) dX4_begin_36 rfl ?_
  refine q_ic (v := (-1)) dX4_begin_37 rfl ?_
  show q_K _ (q_sX uXI34 zJ1) _ _ _ _ _ _
  refine q_V3 (ci := 4) (n := 0) dX4_begin_38 DX4_make lX4_37 rfl (by decide) rfl rfl rfl rfl uX_X4_make_20 ?_
  rintro _ _ ⟨rfl, rfl⟩
  refine q_putI (c := 4) (n := 0) (k := 0) dX4_begin_41 rfl (by decide) (by decide) fX4_41 rfl rfl ?_
  show q_K _ (q_sX (q_up uXI35 38 0 0) zJ1) _ _ _ _ _ _
  refine q_aload_n dX4_begin_44 rfl ?_
  refine q_aload_n dX4_begin_45 rfl ?_
  refine q_ic (v := 1) dX4_begin_46 rfl ?_
  refine q_ic (v := (-1)) dX4_begin_47 rfl ?_
  refine q_ic (v := (-1)) dX4_begin_48 rfl ?_
  show q_K _ (q_sX uXI36 zJ1) _ _ _ _ _ _
  refine q_V3 (ci := 4) (n := 0) dX4_begin_49 DX4_make lX4_37 rfl (by decide) rfl rfl rfl rfl uX_X4_make_21 ?_
  rintro _ _ ⟨rfl, rfl⟩
  refine q_putI (c := 4) (n := 0) (k := 1) dX4_begin_52 rfl (by decide) (by decide) fX4_44 rfl rfl ?_
  show q_K _ (q_sX (q_up uXI37 38 1 1) zJ1) _ _ _ _ _ _
  show q_K _ (q_sX uXI38 zJ1) _ _ _ _ _ _
  refine q_ret dX4_begin_55 rfl ?_
  exact ⟨rfl, rfl⟩
theorem dX4_hasRing_0 : decode cX4_hasRing 0 = .ok (.iconst 0, 1) := by decide +kernel
theorem dX4_hasRing_1 : decode cX4_hasRing 1 = .ok (.istore_n 1, 1) := by decide +kernel
theorem dX4_hasRing_2 : decode cX4_hasRing 2 = .ok (.iconst 0, 1) := by decide +kernel
theorem dX4_hasRing_3 : decode cX4_hasRing 3 = .ok (.istore_n 2, 1) := by decide +kernel
theorem dX4_hasRing_4 : decode cX4_hasRing 4 = .ok (.iload_n 2, 1) := by decide +kernel
theorem dX4_hasRing_5 : decode cX4_hasRing 5 = .ok (.aload_n 0, 1) := by decide +kernel
theorem dX4_hasRing_6 : decode cX4_hasRing 6 = .ok (.getfield 33, 3) := by decide +kernel
theorem dX4_hasRing_9 : decode cX4_hasRing 9 = .ok (.if_icmp .ge 23, 3) := by decide +kernel
theorem dX4_hasRing_12 : decode cX4_hasRing 12 = .ok (.iload_n 2, 1) := by decide +kernel
theorem dX4_hasRing_13 : decode cX4_hasRing 13 = .ok (.sipush 5602, 3) := by decide +kernel
theorem dX4_hasRing_16 : decode cX4_hasRing 16 = .ok (.if_icmp .ge 16, 3) := by decide +kernel
theorem dX4_hasRing_19 : decode cX4_hasRing 19 = .ok (.aload_n 0, 1) := by decide +kernel
theorem dX4_hasRing_20 : decode cX4_hasRing 20 = .ok (.getfield 24, 3) := by decide +kernel
theorem dX4_hasRing_23 : decode cX4_hasRing 23 = .ok (.iload_n 2, 1) := by decide +kernel
theorem dX4_hasRing_24 : decode cX4_hasRing 24 = .ok (.iconst 0, 1) := by decide +kernel
theorem dX4_hasRing_25 : decode cX4_hasRing 25 = .ok (.iastore, 1) := by decide +kernel
theorem dX4_hasRing_26 : decode cX4_hasRing 26 = .ok (.iinc 2 1, 3) := by decide +kernel
theorem dX4_hasRing_29 : decode cX4_hasRing 29 = .ok (.goto (-25), 3) := by decide +kernel
theorem dX4_hasRing_32 : decode cX4_hasRing 32 = .ok (.iconst 0, 1) := by decide +kernel
theorem dX4_hasRing_33 : decode cX4_hasRing 33 = .ok (.istore_n 2, 1) := by decide +kernel
theorem dX4_hasRing_34 : decode cX4_hasRing 34 = .ok (.iload_n 2, 1) := by decide +kernel
theorem dX4_hasRing_35 : decode cX4_hasRing 35 = .ok (.aload_n 0, 1) := by decide +kernel
theorem dX4_hasRing_36 : decode cX4_hasRing 36 = .ok (.getfield 33, 3) := by decide +kernel
theorem dX4_hasRing_39 : decode cX4_hasRing 39 = .ok (.if_icmp .ge 49, 3) := by decide +kernel
theorem dX4_hasRing_42 : decode cX4_hasRing 42 = .ok (.iload_n 2, 1) := by decide +kernel
theorem dX4_hasRing_43 : decode cX4_hasRing 43 = .ok (.sipush 5602, 3) := by decide +kernel
theorem dX4_hasRing_46 : decode cX4_hasRing 46 = .ok (.if_icmp .ge 42, 3) := by decide +kernel
theorem dX4_hasRing_49 : decode cX4_hasRing 49 = .ok (.aload_n 0, 1) := by decide +kernel
theorem dX4_hasRing_50 : decode cX4_hasRing 50 = .ok (.getfield 11, 3) := by decide +kernel
theorem dX4_hasRing_53 : decode cX4_hasRing 53 = .ok (.iload_n 2, 1) := by decide +kernel
theorem dX4_hasRing_54 : decode cX4_hasRing 54 = .ok (.iaload, 1) := by decide +kernel
theorem dX4_hasRing_55 : decode cX4_hasRing 55 = .ok (.iload_n 2, 1) := by decide +kernel
theorem dX4_hasRing_56 : decode cX4_hasRing 56 = .ok (.if_icmp .ne 26, 3) := by decide +kernel
theorem dX4_hasRing_59 : decode cX4_hasRing 59 = .ok (.iinc 1 1, 3) := by decide +kernel
theorem dX4_hasRing_62 : decode cX4_hasRing 62 = .ok (.aload_n 0, 1) := by decide +kernel
theorem dX4_hasRing_63 : decode cX4_hasRing 63 = .ok (.aload_n 0, 1) := by decide +kernel
theorem dX4_hasRing_64 : decode cX4_hasRing 64 = .ok (.getfield 18, 3) := by decide +kernel
theorem dX4_hasRing_67 : decode cX4_hasRing 67 = .ok (.iload_n 2, 1) := by decide +kernel
theorem dX4_hasRing_68 : decode cX4_hasRing 68 = .ok (.iaload, 1) := by decide +kernel
theorem dX4_hasRing_69 : decode cX4_hasRing 69 = .ok (.invokevirtual 58, 3) := by decide +kernel
theorem dX4_hasRing_72 : decode cX4_hasRing 72 = .ok (.aload_n 0, 1) := by decide +kernel
theorem dX4_hasRing_73 : decode cX4_hasRing 73 = .ok (.aload_n 0, 1) := by decide +kernel
theorem dX4_hasRing_74 : decode cX4_hasRing 74 = .ok (.getfield 21, 3) := by decide +kernel
theorem dX4_hasRing_77 : decode cX4_hasRing 77 = .ok (.iload_n 2, 1) := by decide +kernel
theorem dX4_hasRing_78 : decode cX4_hasRing 78 = .ok (.iaload, 1) := by decide +kernel
theorem dX4_hasRing_79 : decode cX4_hasRing 79 = .ok (.invokevirtual 58, 3) := by decide +kernel
theorem dX4_hasRing_82 : decode cX4_hasRing 82 = .ok (.iinc 2 1, 3) := by decide +kernel
theorem dX4_hasRing_85 : decode cX4_hasRing 85 = .ok (.goto (-51), 3) := by decide +kernel
theorem dX4_hasRing_88 : decode cX4_hasRing 88 = .ok (.iconst 0, 1) := by decide +kernel
theorem dX4_hasRing_89 : decode cX4_hasRing 89 = .ok (.istore_n 2, 1) := by decide +kernel
theorem dX4_hasRing_90 : decode cX4_hasRing 90 = .ok (.iconst 0, 1) := by decide +kernel
theorem dX4_hasRing_91 : decode cX4_hasRing 91 = .ok (.istore_n 3, 1) := by decide +kernel
theorem dX4_hasRing_92 : decode cX4_hasRing 92 = .ok (.iload_n 3, 1) := by decide +kernel
theorem dX4_hasRing_93 : decode cX4_hasRing 93 = .ok (.aload_n 0, 1) := by decide +kernel
theorem dX4_hasRing_94 : decode cX4_hasRing 94 = .ok (.getfield 33, 3) := by decide +kernel
theorem dX4_hasRing_97 : decode cX4_hasRing 97 = .ok (.if_icmp .ge 45, 3) := by decide +kernel
theorem dX4_hasRing_100 : decode cX4_hasRing 100 = .ok (.iload_n 3, 1) := by decide +kernel
theorem dX4_hasRing_101 : decode cX4_hasRing 101 = .ok (.sipush 5602, 3) := by decide +kernel
theorem dX4_hasRing_104 : decode cX4_hasRing 104 = .ok (.if_icmp .ge 38, 3) := by decide +kernel
theorem dX4_hasRing_107 : decode cX4_hasRing 107 = .ok (.aload_n 0, 1) := by decide +kernel
theorem dX4_hasRing_108 : decode cX4_hasRing 108 = .ok (.getfield 11, 3) := by decide +kernel
theorem dX4_hasRing_111 : decode cX4_hasRing 111 = .ok (.iload_n 3, 1) := by decide +kernel
theorem dX4_hasRing_112 : decode cX4_hasRing 112 = .ok (.iaload, 1) := by decide +kernel
theorem dX4_hasRing_113 : decode cX4_hasRing 113 = .ok (.iload_n 3, 1) := by decide +kernel
theorem dX4_hasRing_114 : decode cX4_hasRing 114 = .ok (.if_icmp .ne 22, 3) := by decide +kernel
theorem dX4_hasRing_117 : decode cX4_hasRing 117 = .ok (.aload_n 0, 1) := by decide +kernel
theorem dX4_hasRing_118 : decode cX4_hasRing 118 = .ok (.getfield 24, 3) := by decide +kernel
theorem dX4_hasRing_121 : decode cX4_hasRing 121 = .ok (.iload_n 3, 1) := by decide +kernel
theorem dX4_hasRing_122 : decode cX4_hasRing 122 = .ok (.iaload, 1) := by decide +kernel
theorem dX4_hasRing_123 : decode cX4_hasRing 123 = .ok (.ifCond .ne 13, 3) := by decide +kernel
theorem dX4_hasRing_126 : decode cX4_hasRing 126 = .ok (.aload_n 0, 1) := by decide +kernel
theorem dX4_hasRing_127 : decode cX4_hasRing 127 = .ok (.getfield 27, 3) := by decide +kernel
theorem dX4_hasRing_130 : decode cX4_hasRing 130 = .ok (.iload_n 2, 1) := by decide +kernel
theorem dX4_hasRing_131 : decode cX4_hasRing 131 = .ok (.iload_n 3, 1) := by decide +kernel
theorem dX4_hasRing_132 : decode cX4_hasRing 132 = .ok (.iastore, 1) := by decide +kernel
theorem dX4_hasRing_133 : decode cX4_hasRing 133 = .ok (.iinc 2 1, 3) := by decide +kernel
theorem dX4_hasRing_136 : decode cX4_hasRing 136 = .ok (.iinc 3 1, 3) := by decide +kernel
theorem dX4_hasRing_139 : decode cX4_hasRing 139 = .ok (.goto (-47), 3) := by decide +kernel
theorem dX4_hasRing_142 : decode cX4_hasRing 142 = .ok (.iconst 0, 1) := by decide +kernel
theorem dX4_hasRing_143 : decode cX4_hasRing 143 = .ok (.istore_n 3, 1) := by decide +kernel
theorem dX4_hasRing_144 : decode cX4_hasRing 144 = .ok (.iload_n 3, 1) := by decide +kernel
theorem dX4_hasRing_145 : decode cX4_hasRing 145 = .ok (.iload_n 2, 1) := by decide +kernel
theorem dX4_hasRing_146 : decode cX4_hasRing 146 = .ok (.if_icmp .ge 50, 3) := by decide +kernel
theorem dX4_hasRing_149 : decode cX4_hasRing 149 = .ok (.iload_n 3, 1) := by decide +kernel
theorem dX4_hasRing_150 : decode cX4_hasRing 150 = .ok (.sipush 5602, 3) := by decide +kernel
theorem dX4_hasRing_153 : decode cX4_hasRing 153 = .ok (.if_icmp .ge 43, 3) := by decide +kernel
theorem dX4_hasRing_156 : decode cX4_hasRing 156 = .ok (.aload_n 0, 1) := by decide +kernel
theorem dX4_hasRing_157 : decode cX4_hasRing 157 = .ok (.aload_n 0, 1) := by decide +kernel
theorem dX4_hasRing_158 : decode cX4_hasRing 158 = .ok (.getfield 18, 3) := by decide +kernel
theorem dX4_hasRing_161 : decode cX4_hasRing 161 = .ok (.aload_n 0, 1) := by decide +kernel
theorem dX4_hasRing_162 : decode cX4_hasRing 162 = .ok (.getfield 27, 3) := by decide +kernel
theorem dX4_hasRing_165 : decode cX4_hasRing 165 = .ok (.iload_n 3, 1) := by decide +kernel
theorem dX4_hasRing_166 : decode cX4_hasRing 166 = .ok (.iaload, 1) := by decide +kernel
theorem dX4_hasRing_167 : decode cX4_hasRing 167 = .ok (.iaload, 1) := by decide +kernel
theorem dX4_hasRing_168 : decode cX4_hasRing 168 = .ok (.iload_n 2, 1) := by decide +kernel
theorem dX4_hasRing_169 : decode cX4_hasRing 169 = .ok (.invokevirtual 62, 3) := by decide +kernel
theorem dX4_hasRing_172 : decode cX4_hasRing 172 = .ok (.istore_n 2, 1) := by decide +kernel
theorem dX4_hasRing_173 : decode cX4_hasRing 173 = .ok (.aload_n 0, 1) := by decide +kernel
theorem dX4_hasRing_174 : decode cX4_hasRing 174 = .ok (.aload_n 0, 1) := by decide +kernel
theorem dX4_hasRing_175 : decode cX4_hasRing 175 = .ok (.getfield 21, 3) := by decide +kernel
theorem dX4_hasRing_178 : decode cX4_hasRing 178 = .ok (.aload_n 0, 1) := by decide +kernel
theorem dX4_hasRing_179 : decode cX4_hasRing 179 = .ok (.getfield 27, 3) := by decide +kernel
theorem dX4_hasRing_182 : decode cX4_hasRing 182 = .ok (.iload_n 3, 1) := by decide +kernel
theorem dX4_hasRing_183 : decode cX4_hasRing 183 = .ok (.iaload, 1) := by decide +kernel
theorem dX4_hasRing_184 : decode cX4_hasRing 184 = .ok (.iaload, 1) := by decide +kernel
theorem dX4_hasRing_185 : decode cX4_hasRing 185 = .ok (.iload_n 2, 1) := by decide +kernel
theorem dX4_hasRing_186 : decode cX4_hasRing 186 = .ok (.invokevirtual 62, 3) := by decide +kernel
theorem dX4_hasRing_189 : decode cX4_hasRing 189 = .ok (.istore_n 2, 1) := by decide +kernel
theorem dX4_hasRing_190 : decode cX4_hasRing 190 = .ok (.iinc 3 1, 3) := by decide +kernel
theorem dX4_hasRing_193 : decode cX4_hasRing 193 = .ok (.goto (-49), 3) := by decide +kernel
theorem dX4_hasRing_196 : decode cX4_hasRing 196 = .ok (.iload_n 2, 1) := by decide +kernel
theorem dX4_hasRing_197 : decode cX4_hasRing 197 = .ok (.iload_n 1, 1) := by decide +kernel
theorem dX4_hasRing_198 : decode cX4_hasRing 198 = .ok (.if_icmp .ge 7, 3) := by decide +kernel
theorem dX4_hasRing_201 : decode cX4_hasRing 201 = .ok (.iconst 1, 1) := by decide +kernel
theorem dX4_hasRing_202 : decode cX4_hasRing 202 = .ok (.goto 4, 3) := by decide +kernel
theorem dX4_hasRing_205 : decode cX4_hasRing 205 = .ok (.iconst 0, 1) := by decide +kernel
theorem dX4_hasRing_206 : decode cX4_hasRing 206 = .ok (.ireturn, 1) := by decide +kernel
def uXI39 : Nat → Nat → Int32 := q_up (q_up uXI38 43 0 0) 43 1 0
theorem dX4_countPart_0 : decode cX4_countPart 0 = .ok (.aload_n 0, 1) := by decide +kernel
theorem dX4_countPart_1 : decode cX4_countPart 1 = .ok (.iload_n 1, 1) := by decide +kernel
theorem dX4_countPart_2 : decode cX4_countPart 2 = .ok (.invokevirtual 48, 3) := by decide +kernel
theorem dX4_countPart_5 : decode cX4_countPart 5 = .ok (.istore_n 2, 1) := by decide +kernel
theorem dX4_countPart_6 : decode cX4_countPart 6 = .ok (.iload_n 2, 1) := by decide +kernel
theorem dX4_countPart_7 : decode cX4_countPart 7 = .ok (.iconst (-1), 1) := by decide +kernel
theorem dX4_countPart_8 : decode cX4_countPart 8 = .ok (.if_icmp .eq 13, 3) := by decide +kernel
theorem dX4_countPart_11 : decode cX4_countPart 11 = .ok (.aload_n 0, 1) := by decide +kernel
theorem dX4_countPart_12 : decode cX4_countPart 12 = .ok (.getfield 24, 3) := by decide +kernel
theorem dX4_countPart_15 : decode cX4_countPart 15 = .ok (.iload_n 2, 1) := by decide +kernel
theorem dX4_countPart_16 : decode cX4_countPart 16 = .ok (.dup2, 1) := by decide +kernel
theorem dX4_countPart_17 : decode cX4_countPart 17 = .ok (.iaload, 1) := by decide +kernel
theorem dX4_countPart_18 : decode cX4_countPart 18 = .ok (.iconst 1, 1) := by decide +kernel
theorem dX4_countPart_19 : decode cX4_countPart 19 = .ok (.iadd, 1) := by decide +kernel
theorem dX4_countPart_20 : decode cX4_countPart 20 = .ok (.iastore, 1) := by decide +kernel
theorem dX4_countPart_21 : decode cX4_countPart 21 = .ok (.return_, 1) := by decide +kernel
theorem dX4_chief_0 : decode cX4_chief 0 = .ok (.iload_n 1, 1) := by decide +kernel
theorem dX4_chief_1 : decode cX4_chief 1 = .ok (.ifCond .lt 18, 3) := by decide +kernel
theorem dX4_chief_4 : decode cX4_chief 4 = .ok (.iload_n 1, 1) := by decide +kernel
theorem dX4_chief_5 : decode cX4_chief 5 = .ok (.aload_n 0, 1) := by decide +kernel
theorem dX4_chief_6 : decode cX4_chief 6 = .ok (.getfield 33, 3) := by decide +kernel
theorem dX4_chief_9 : decode cX4_chief 9 = .ok (.if_icmp .ge 10, 3) := by decide +kernel
theorem dX4_chief_12 : decode cX4_chief 12 = .ok (.iload_n 1, 1) := by decide +kernel
theorem dX4_chief_13 : decode cX4_chief 13 = .ok (.sipush 5602, 3) := by decide +kernel
theorem dX4_chief_16 : decode cX4_chief 16 = .ok (.if_icmp .lt 5, 3) := by decide +kernel
theorem dX4_chief_19 : decode cX4_chief 19 = .ok (.iconst (-1), 1) := by decide +kernel
theorem dX4_chief_20 : decode cX4_chief 20 = .ok (.ireturn, 1) := by decide +kernel
theorem dX4_chief_21 : decode cX4_chief 21 = .ok (.iload_n 1, 1) := by decide +kernel
theorem dX4_chief_22 : decode cX4_chief 22 = .ok (.istore_n 2, 1) := by decide +kernel
theorem dX4_chief_23 : decode cX4_chief 23 = .ok (.iconst 0, 1) := by decide +kernel
theorem dX4_chief_24 : decode cX4_chief 24 = .ok (.istore_n 3, 1) := by decide +kernel
theorem dX4_chief_25 : decode cX4_chief 25 = .ok (.iload_n 3, 1) := by decide +kernel
theorem dX4_chief_26 : decode cX4_chief 26 = .ok (.sipush 5602, 3) := by decide +kernel
theorem dX4_chief_29 : decode cX4_chief 29 = .ok (.if_icmp .ge 43, 3) := by decide +kernel
theorem dX4_chief_32 : decode cX4_chief 32 = .ok (.aload_n 0, 1) := by decide +kernel
theorem dX4_chief_33 : decode cX4_chief 33 = .ok (.getfield 11, 3) := by decide +kernel
theorem dX4_chief_36 : decode cX4_chief 36 = .ok (.iload_n 2, 1) := by decide +kernel
theorem dX4_chief_37 : decode cX4_chief 37 = .ok (.iaload, 1) := by decide +kernel
theorem dX4_chief_38 : decode cX4_chief 38 = .ok (.iload_n 2, 1) := by decide +kernel
theorem dX4_chief_39 : decode cX4_chief 39 = .ok (.if_icmp .eq 33, 3) := by decide +kernel
theorem dX4_chief_42 : decode cX4_chief 42 = .ok (.aload_n 0, 1) := by decide +kernel
theorem dX4_chief_43 : decode cX4_chief 43 = .ok (.getfield 11, 3) := by decide +kernel
theorem dX4_chief_46 : decode cX4_chief 46 = .ok (.iload_n 2, 1) := by decide +kernel
theorem dX4_chief_47 : decode cX4_chief 47 = .ok (.aload_n 0, 1) := by decide +kernel
theorem dX4_chief_48 : decode cX4_chief 48 = .ok (.getfield 11, 3) := by decide +kernel
theorem dX4_chief_51 : decode cX4_chief 51 = .ok (.aload_n 0, 1) := by decide +kernel
theorem dX4_chief_52 : decode cX4_chief 52 = .ok (.getfield 11, 3) := by decide +kernel
theorem dX4_chief_55 : decode cX4_chief 55 = .ok (.iload_n 2, 1) := by decide +kernel
theorem dX4_chief_56 : decode cX4_chief 56 = .ok (.iaload, 1) := by decide +kernel
theorem dX4_chief_57 : decode cX4_chief 57 = .ok (.iaload, 1) := by decide +kernel
theorem dX4_chief_58 : decode cX4_chief 58 = .ok (.iastore, 1) := by decide +kernel
theorem dX4_chief_59 : decode cX4_chief 59 = .ok (.aload_n 0, 1) := by decide +kernel
theorem dX4_chief_60 : decode cX4_chief 60 = .ok (.getfield 11, 3) := by decide +kernel
theorem dX4_chief_63 : decode cX4_chief 63 = .ok (.iload_n 2, 1) := by decide +kernel
theorem dX4_chief_64 : decode cX4_chief 64 = .ok (.iaload, 1) := by decide +kernel
theorem dX4_chief_65 : decode cX4_chief 65 = .ok (.istore_n 2, 1) := by decide +kernel
theorem dX4_chief_66 : decode cX4_chief 66 = .ok (.iinc 3 1, 3) := by decide +kernel
theorem dX4_chief_69 : decode cX4_chief 69 = .ok (.goto (-44), 3) := by decide +kernel
theorem dX4_chief_72 : decode cX4_chief 72 = .ok (.iload_n 2, 1) := by decide +kernel
theorem dX4_chief_73 : decode cX4_chief 73 = .ok (.ireturn, 1) := by decide +kernel
set_option maxRecDepth 20000 in
theorem uX_X4_chief_23 : q_met mX4_chief (q_sX uXI39 zJ1) [.ref 38, .int (-1)] (fun s r => s = q_sX uXI39 zJ1 ∧ r = some (.int (-1))) := by
  refine q_enter (by decide) (Nat.le_of_ble_eq_true rfl) ?_
  refine q_iload_n dX4_chief_0 rfl ?_
  refine q_iz_lt (tgt := 19) (a := -1) dX4_chief_1 (by decide) rfl (fun _ => ?_) (fun h => absurd h (by decide))
  refine q_ic (v := (-1)) dX4_chief_19 rfl ?_
  refine q_iret dX4_chief_20 rfl ?_
  exact ⟨rfl, rfl⟩
set_option maxRecDepth 20000 in
theorem uX_X4_countPart_24 : q_met mX4_countPart (q_sX uXI39 zJ1) [.ref 38, .int (-1)] (fun s r => s = q_sX uXI39 zJ1 ∧ r = none) := by
  refine q_enter (by decide) (Nat.le_of_ble_eq_true rfl) ?_
  refine q_aload_n dX4_countPart_0 rfl ?_
  refine q_iload_n dX4_countPart_1 rfl ?_
  refine q_V1 (ci := 4) (n := 0) dX4_countPart_2 DX4_chief lX4_48 rfl (by decide) rfl rfl rfl rfl uX_X4_chief_23 ?_
  rintro _ _ ⟨rfl, rfl⟩
  refine q_istore_n dX4_countPart_5 (Nat.le_of_ble_eq_true rfl) ?_
  refine q_iload_n dX4_countPart_6 rfl ?_
  refine q_ic (v := (-1)) dX4_countPart_7 rfl ?_
  refine q_cz_eq (tgt := 21) (a := -1) (b := -1) dX4_countPart_8 (by decide) rfl rfl (fun _ => ?_) (fun h => absurd h (by decide))
  refine q_ret dX4_countPart_21 rfl ?_
  exact ⟨rfl, rfl⟩
def uXI40 : Nat → Nat → Int32 := q_up (q_up uXI39 44 0 0) 44 1 (0 + 1)
theorem dX4_takePart_0 : decode cX4_takePart 0 = .ok (.aload_n 0, 1) := by decide +kernel
theorem dX4_takePart_1 : decode cX4_takePart 1 = .ok (.iload_n 1, 1) := by decide +kernel
theorem dX4_takePart_2 : decode cX4_takePart 2 = .ok (.invokevirtual 48, 3) := by decide +kernel
theorem dX4_takePart_5 : decode cX4_takePart 5 = .ok (.istore_n 3, 1) := by decide +kernel
theorem dX4_takePart_6 : decode cX4_takePart 6 = .ok (.iload_n 3, 1) := by decide +kernel
theorem dX4_takePart_7 : decode cX4_takePart 7 = .ok (.iconst (-1), 1) := by decide +kernel
theorem dX4_takePart_8 : decode cX4_takePart 8 = .ok (.if_icmp .ne 5, 3) := by decide +kernel
theorem dX4_takePart_11 : decode cX4_takePart 11 = .ok (.iload_n 2, 1) := by decide +kernel
theorem dX4_takePart_12 : decode cX4_takePart 12 = .ok (.ireturn, 1) := by decide +kernel
theorem dX4_takePart_13 : decode cX4_takePart 13 = .ok (.aload_n 0, 1) := by decide +kernel
theorem dX4_takePart_14 : decode cX4_takePart 14 = .ok (.getfield 24, 3) := by decide +kernel
theorem dX4_takePart_17 : decode cX4_takePart 17 = .ok (.iload_n 3, 1) := by decide +kernel
theorem dX4_takePart_18 : decode cX4_takePart 18 = .ok (.dup2, 1) := by decide +kernel
theorem dX4_takePart_19 : decode cX4_takePart 19 = .ok (.iaload, 1) := by decide +kernel
theorem dX4_takePart_20 : decode cX4_takePart 20 = .ok (.iconst 1, 1) := by decide +kernel
theorem dX4_takePart_21 : decode cX4_takePart 21 = .ok (.isub, 1) := by decide +kernel
theorem dX4_takePart_22 : decode cX4_takePart 22 = .ok (.iastore, 1) := by decide +kernel
theorem dX4_takePart_23 : decode cX4_takePart 23 = .ok (.aload_n 0, 1) := by decide +kernel
theorem dX4_takePart_24 : decode cX4_takePart 24 = .ok (.getfield 24, 3) := by decide +kernel
theorem dX4_takePart_27 : decode cX4_takePart 27 = .ok (.iload_n 3, 1) := by decide +kernel
theorem dX4_takePart_28 : decode cX4_takePart 28 = .ok (.iaload, 1) := by decide +kernel
theorem dX4_takePart_29 : decode cX4_takePart 29 = .ok (.ifCond .ne 16, 3) := by decide +kernel
theorem dX4_takePart_32 : decode cX4_takePart 32 = .ok (.iload_n 2, 1) := by decide +kernel
theorem dX4_takePart_33 : decode cX4_takePart 33 = .ok (.ifCond .lt 12, 3) := by decide +kernel
theorem dX4_takePart_36 : decode cX4_takePart 36 = .ok (.iload_n 2, 1) := by decide +kernel
theorem dX4_takePart_37 : decode cX4_takePart 37 = .ok (.aload_n 0, 1) := by decide +kernel
theorem dX4_takePart_38 : decode cX4_takePart 38 = .ok (.getfield 27, 3) := by decide +kernel
theorem dX4_takePart_41 : decode cX4_takePart 41 = .ok (.arraylength, 1) := by decide +kernel
theorem dX4_takePart_42 : decode cX4_takePart 42 = .ok (.if_icmp .lt 5, 3) := by decide +kernel
theorem dX4_takePart_45 : decode cX4_takePart 45 = .ok (.iload_n 2, 1) := by decide +kernel
theorem dX4_takePart_46 : decode cX4_takePart 46 = .ok (.ireturn, 1) := by decide +kernel
theorem dX4_takePart_47 : decode cX4_takePart 47 = .ok (.aload_n 0, 1) := by decide +kernel
theorem dX4_takePart_48 : decode cX4_takePart 48 = .ok (.getfield 27, 3) := by decide +kernel
theorem dX4_takePart_51 : decode cX4_takePart 51 = .ok (.iload_n 2, 1) := by decide +kernel
theorem dX4_takePart_52 : decode cX4_takePart 52 = .ok (.iload_n 3, 1) := by decide +kernel
theorem dX4_takePart_53 : decode cX4_takePart 53 = .ok (.iastore, 1) := by decide +kernel
theorem dX4_takePart_54 : decode cX4_takePart 54 = .ok (.iload_n 2, 1) := by decide +kernel
theorem dX4_takePart_55 : decode cX4_takePart 55 = .ok (.iconst 1, 1) := by decide +kernel
theorem dX4_takePart_56 : decode cX4_takePart 56 = .ok (.iadd, 1) := by decide +kernel
theorem dX4_takePart_57 : decode cX4_takePart 57 = .ok (.ireturn, 1) := by decide +kernel
set_option maxRecDepth 20000 in
theorem uX_X4_chief_25 : q_met mX4_chief (q_sX uXI40 zJ1) [.ref 38, .int (-1)] (fun s r => s = q_sX uXI40 zJ1 ∧ r = some (.int (-1))) := by
  refine q_enter (by decide) (Nat.le_of_ble_eq_true rfl) ?_
  refine q_iload_n dX4_chief_0 rfl ?_
  refine q_iz_lt (tgt := 19) (a := -1) dX4_chief_1 (by decide) rfl (fun _ => ?_) (fun h => absurd h (by decide))
  refine q_ic (v := (-1)) dX4_chief_19 rfl ?_
  refine q_iret dX4_chief_20 rfl ?_
  exact ⟨rfl, rfl⟩
set_option maxRecDepth 20000 in
theorem uX_X4_takePart_26 : q_met mX4_takePart (q_sX uXI40 zJ1) [.ref 38, .int (-1), .int ((0 + 1) + 1)] (fun s r => s = q_sX uXI40 zJ1 ∧ r = some (.int ((0 + 1) + 1))) := by
  refine q_enter (by decide) (Nat.le_of_ble_eq_true rfl) ?_
  refine q_aload_n dX4_takePart_0 rfl ?_
  refine q_iload_n dX4_takePart_1 rfl ?_
  refine q_V1 (ci := 4) (n := 0) dX4_takePart_2 DX4_chief lX4_48 rfl (by decide) rfl rfl rfl rfl uX_X4_chief_25 ?_
  rintro _ _ ⟨rfl, rfl⟩
  refine q_istore_n dX4_takePart_5 (Nat.le_of_ble_eq_true rfl) ?_
  refine q_iload_n dX4_takePart_6 rfl ?_
  refine q_ic (v := (-1)) dX4_takePart_7 rfl ?_
  refine q_cz_ne (tgt := 13) (a := -1) (b := -1) dX4_takePart_8 (by decide) rfl rfl (fun h => absurd h (by decide)) (fun _ => ?_)
  refine q_iload_n dX4_takePart_11 rfl ?_
  refine q_iret dX4_takePart_12 rfl ?_
  exact ⟨rfl, rfl⟩
set_option maxRecDepth 20000 in
theorem uX_X4_hasRing_27 : q_met mX4_hasRing (q_sX uXI38 zJ1) [.ref 38] (fun s r => s = q_sX uXI40 zJ1 ∧ r = some (.int 0)) := by
  refine q_enter (by decide) (Nat.le_of_ble_eq_true rfl) ?_
  refine q_ic (v := 0) dX4_hasRing_0 rfl ?_
  refine q_istore_n dX4_hasRing_1 (Nat.le_of_ble_eq_true rfl) ?_
  refine q_ic (v := 0) dX4_hasRing_2 rfl ?_
  refine q_istore_n dX4_hasRing_3 (Nat.le_of_ble_eq_true rfl) ?_
  refine q_iload_n dX4_hasRing_4 rfl ?_
  refine q_aload_n dX4_hasRing_5 rfl ?_
  refine q_getf (c := 4) (n := 0) (k := 2) (v := .int 2) dX4_hasRing_6 rfl (by decide) (by decide) fX4_33 rfl ?_
  refine q_cz_ge (tgt := 32) (a := 0) (b := 2) dX4_hasRing_9 (by decide) rfl rfl (fun h => absurd h (by decide)) (fun _ => ?_)
  refine q_iload_n dX4_hasRing_12 rfl ?_
  refine q_si (v := 5602) dX4_hasRing_13 rfl ?_
  refine q_cz_ge (tgt := 32) (a := 0) (b := 5602) dX4_hasRing_16 (by decide) rfl rfl (fun h => absurd h (by decide)) (fun _ => ?_)
  refine q_aload_n dX4_hasRing_19 rfl ?_
  refine q_getR (c := 4) (n := 0) (k := 7) (a := 43) dX4_hasRing_20 rfl (by decide) (by decide) fX4_24 rfl rfl ?_
  refine q_iload_n dX4_hasRing_23 rfl ?_
  refine q_ic (v := 0) dX4_hasRing_24 rfl ?_
  refine q_iast (n := 5602) (j := 0) dX4_hasRing_25 rfl rfl (by decide) ?_
  show q_K _ (q_sX (q_up uXI38 43 0 0) zJ1) _ _ _ _ _ _
  refine q_inc (v := 1) dX4_hasRing_26 rfl (Nat.le_of_ble_eq_true rfl) rfl ?_
  refine q_goto (tgt := 4) dX4_hasRing_29 (by decide) ?_
  refine q_iload_n dX4_hasRing_4 rfl ?_
  refine q_aload_n dX4_hasRing_5 rfl ?_
  refine q_getf (c := 4) (n := 0) (k := 2) (v := .int 2) dX4_hasRing_6 rfl (by decide) (by decide) fX4_33 rfl ?_
  refine q_cz_ge (tgt := 32) (a := 1) (b := 2) dX4_hasRing_9 (by decide) rfl rfl (fun h => absurd h (by decide)) (fun _ => ?_)
  refine q_iload_n dX4_hasRing_12 rfl ?_
  refine q_si (v := 5602) dX4_hasRing_13 rfl ?_
  refine q_cz_ge (tgt := 32) (a := 1) (b := 5602) dX4_hasRing_16 (by decide) rfl rfl (fun h => absurd h (by decide)) (fun _ => ?_)
  refine q_aload_n dX4_hasRing_19 rfl ?_
  refine q_getR (c := 4) (n := 0) (k := 7) (a := 43) dX4_hasRing_20 rfl (by decide) (by decide) fX4_24 rfl rfl ?_
  refine q_iload_n dX4_hasRing_23 rfl ?_
  refine q_ic (v := 0) dX4_hasRing_24 rfl ?_
  refine q_iast (n := 5602) (j := 1) dX4_hasRing_25 rfl rfl (by decide) ?_
  show q_K _ (q_sX (q_up (q_up uXI38 43 0 0) 43 1 0) zJ1) _ _ _ _ _ _
  refine q_inc (v := 1) dX4_hasRing_26 rfl (Nat.le_of_ble_eq_true rfl) rfl ?_
  refine q_goto (tgt := 4) dX4_hasRing_29 (by decide) ?_
  refine q_iload_n dX4_hasRing_4 rfl ?_
  refine q_aload_n dX4_hasRing_5 rfl ?_
  refine q_getf (c := 4) (n := 0) (k := 2) (v := .int 2) dX4_hasRing_6 rfl (by decide) (by decide) fX4_33 rfl ?_
  refine q_cz_ge (tgt := 32) (a := 2) (b := 2) dX4_hasRing_9 (by decide) rfl rfl (fun _ => ?_) (fun h => absurd h (by decide))
  refine q_ic (v := 0) dX4_hasRing_32 rfl ?_
  refine q_istore_n dX4_hasRing_33 (Nat.le_of_ble_eq_true rfl) ?_
  refine q_iload_n dX4_hasRing_34 rfl ?_
  refine q_aload_n dX4_hasRing_35 rfl ?_
  refine q_getf (c := 4) (n := 0) (k := 2) (v := .int 2) dX4_hasRing_36 rfl (by decide) (by decide) fX4_33 rfl ?_
  refine q_cz_ge (tgt := 88) (a := 0) (b := 2) dX4_hasRing_39 (by decide) rfl rfl (fun h => absurd h (by decide)) (fun _ => ?_)
  refine q_iload_n dX4_hasRing_42 rfl ?_
  refine q_si (v := 5602) dX4_hasRing_43 rfl ?_
  refine q_cz_ge (tgt := 88) (a := 0) (b := 5602) dX4_hasRing_46 (by decide) rfl rfl (fun h => absurd h (by decide)) (fun _ => ?_)
  refine q_aload_n dX4_hasRing_49 rfl ?_
  refine q_getR (c := 4) (n := 0) (k := 3) (a := 39) dX4_hasRing_50 rfl (by decide) (by decide) fX4_11 rfl rfl ?_
  refine q_iload_n dX4_hasRing_53 rfl ?_
  refine q_iald (n := 5602) (j := 0) dX4_hasRing_54 rfl rfl (by decide) ?_
  refine q_topI (v := 0) rfl ?_
  refine q_iload_n dX4_hasRing_55 rfl ?_
  refine q_cz_ne (tgt := 82) (a := 0) (b := 0) dX4_hasRing_56 (by decide) rfl rfl (fun h => absurd h (by decide)) (fun _ => ?_)
  refine q_inc (v := 1) dX4_hasRing_59 rfl (Nat.le_of_ble_eq_true rfl) rfl ?_
  refine q_aload_n dX4_hasRing_62 rfl ?_
  refine q_aload_n dX4_hasRing_63 rfl ?_
  refine q_getR (c := 4) (n := 0) (k := 5) (a := 41) dX4_hasRing_64 rfl (by decide) (by decide) fX4_18 rfl rfl ?_
  refine q_iload_n dX4_hasRing_67 rfl ?_
  refine q_iald (n := 5602) (j := 0) dX4_hasRing_68 rfl rfl (by decide) ?_
  refine q_topI (v := (-1)) rfl ?_
  show q_K _ (q_sX uXI39 zJ1) _ _ _ _ _ _
  refine q_V1 (ci := 4) (n := 0) dX4_hasRing_69 DX4_countPart lX4_58 rfl (by decide) rfl rfl rfl rfl uX_X4_countPart_24 ?_
  rintro _ _ ⟨rfl, rfl⟩
  refine q_aload_n dX4_hasRing_72 rfl ?_
  refine q_aload_n dX4_hasRing_73 rfl ?_
  refine q_getR (c := 4) (n := 0) (k := 6) (a := 42) dX4_hasRing_74 rfl (by decide) (by decide) fX4_21 rfl rfl ?_
  refine q_iload_n dX4_hasRing_77 rfl ?_
  refine q_iald (n := 5602) (j := 0) dX4_hasRing_78 rfl rfl (by decide) ?_
  refine q_topI (v := (-1)) rfl ?_
  refine q_V1 (ci := 4) (n := 0) dX4_hasRing_79 DX4_countPart lX4_58 rfl (by decide) rfl rfl rfl rfl uX_X4_countPart_24 ?_
  rintro _ _ ⟨rfl, rfl⟩
  refine q_inc (v := 1) dX4_hasRing_82 rfl (Nat.le_of_ble_eq_true rfl) rfl ?_
  refine q_goto (tgt := 34) dX4_hasRing_85 (by decide) ?_
  refine q_iload_n dX4_hasRing_34 rfl ?_
  refine q_aload_n dX4_hasRing_35 rfl ?_
  refine q_getf (c := 4) (n := 0) (k := 2) (v := .int 2) dX4_hasRing_36 rfl (by decide) (by decide) fX4_33 rfl ?_
  refine q_cz_ge (tgt := 88) (a := 1) (b := 2) dX4_hasRing_39 (by decide) rfl rfl (fun h => absurd h (by decide)) (fun _ => ?_)
  refine q_iload_n dX4_hasRing_42 rfl ?_
  refine q_si (v := 5602) dX4_hasRing_43 rfl ?_
  refine q_cz_ge (tgt := 88) (a := 1) (b := 5602) dX4_hasRing_46 (by decide) rfl rfl (fun h => absurd h (by decide)) (fun _ => ?_)
  refine q_aload_n dX4_hasRing_49 rfl ?_
  refine q_getR (c := 4) (n := 0) (k := 3) (a := 39) dX4_hasRing_50 rfl (by decide) (by decide) fX4_11 rfl rfl ?_
  refine q_iload_n dX4_hasRing_53 rfl ?_
  refine q_iald (n := 5602) (j := 1) dX4_hasRing_54 rfl rfl (by decide) ?_
  refine q_topI (v := 1) rfl ?_
  refine q_iload_n dX4_hasRing_55 rfl ?_
  refine q_cz_ne (tgt := 82) (a := 1) (b := 1) dX4_hasRing_56 (by decide) rfl rfl (fun h => absurd h (by decide)) (fun _ => ?_)
  refine q_inc (v := 1) dX4_hasRing_59 rfl (Nat.le_of_ble_eq_true rfl) rfl ?_
  refine q_aload_n dX4_hasRing_62 rfl ?_
  refine q_aload_n dX4_hasRing_63 rfl ?_
  refine q_getR (c := 4) (n := 0) (k := 5) (a := 41) dX4_hasRing_64 rfl (by decide) (by decide) fX4_18 rfl rfl ?_
  refine q_iload_n dX4_hasRing_67 rfl ?_
  refine q_iald (n := 5602) (j := 1) dX4_hasRing_68 rfl rfl (by decide) ?_
  refine q_topI (v := (-1)) rfl ?_
  refine q_V1 (ci := 4) (n := 0) dX4_hasRing_69 DX4_countPart lX4_58 rfl (by decide) rfl rfl rfl rfl uX_X4_countPart_24 ?_
  rintro _ _ ⟨rfl, rfl⟩
  refine q_aload_n dX4_hasRing_72 rfl ?_
  refine q_aload_n dX4_hasRing_73 rfl ?_
  refine q_getR (c := 4) (n := 0) (k := 6) (a := 42) dX4_hasRing_74 rfl (by decide) (by decide) fX4_21 rfl rfl ?_
  refine q_iload_n dX4_hasRing_77 rfl ?_
  refine q_iald (n := 5602) (j := 1) dX4_hasRing_78 rfl rfl (by decide) ?_
  refine q_topI (v := (-1)) rfl ?_
  refine q_V1 (ci := 4) (n := 0) dX4_hasRing_79 DX4_countPart lX4_58 rfl (by decide) rfl rfl rfl rfl uX_X4_countPart_24 ?_
  rintro _ _ ⟨rfl, rfl⟩
  refine q_inc (v := 1) dX4_hasRing_82 rfl (Nat.le_of_ble_eq_true rfl) rfl ?_
  refine q_goto (tgt := 34) dX4_hasRing_85 (by decide) ?_
  refine q_iload_n dX4_hasRing_34 rfl ?_
  refine q_aload_n dX4_hasRing_35 rfl ?_
  refine q_getf (c := 4) (n := 0) (k := 2) (v := .int 2) dX4_hasRing_36 rfl (by decide) (by decide) fX4_33 rfl ?_
  refine q_cz_ge (tgt := 88) (a := 2) (b := 2) dX4_hasRing_39 (by decide) rfl rfl (fun _ => ?_) (fun h => absurd h (by decide))
  refine q_ic (v := 0) dX4_hasRing_88 rfl ?_
  refine q_istore_n dX4_hasRing_89 (Nat.le_of_ble_eq_true rfl) ?_
  refine q_ic (v := 0) dX4_hasRing_90 rfl ?_
  refine q_istore_n dX4_hasRing_91 (Nat.le_of_ble_eq_true rfl) ?_
  refine q_iload_n dX4_hasRing_92 rfl ?_
  refine q_aload_n dX4_hasRing_93 rfl ?_
  refine q_getf (c := 4) (n := 0) (k := 2) (v := .int 2) dX4_hasRing_94 rfl (by decide) (by decide) fX4_33 rfl ?_
  refine q_cz_ge (tgt := 142) (a := 0) (b := 2) dX4_hasRing_97 (by decide) rfl rfl (fun h => absurd h (by decide)) (fun _ => ?_)
  refine q_iload_n dX4_hasRing_100 rfl ?_
  refine q_si (v := 5602) dX4_hasRing_101 rfl ?_
  refine q_cz_ge (tgt := 142) (a := 0) (b := 5602) dX4_hasRing_104 (by decide) rfl rfl (fun h => absurd h (by decide)) (fun _ => ?_)
  refine q_aload_n dX4_hasRing_107 rfl ?_
  refine q_getR (c := 4) (n := 0) (k := 3) (a := 39) dX4_hasRing_108 rfl (by decide) (by decide) fX4_11 rfl rfl ?_
  refine q_iload_n dX4_hasRing_111 rfl ?_
  refine q_iald (n := 5602) (j := 0) dX4_hasRing_112 rfl rfl (by decide) ?_
  refine q_topI (v := 0) rfl ?_
  refine q_iload_n dX4_hasRing_113 rfl ?_
  refine q_cz_ne (tgt := 136) (a := 0) (b := 0) dX4_hasRing_114 (by decide) rfl rfl (fun h => absurd h (by decide)) (fun _ => ?_)
  refine q_aload_n dX4_hasRing_117 rfl ?_
  refine q_getR (c := 4) (n := 0) (k := 7) (a := 43) dX4_hasRing_118 rfl (by decide) (by decide) fX4_24 rfl rfl ?_
  refine q_iload_n dX4_hasRing_121 rfl ?_
  refine q_iald (n := 5602) (j := 0) dX4_hasRing_122 rfl rfl (by decide) ?_
  refine q_topI (v := 0) rfl ?_
  refine q_iz_ne (tgt := 136) (a := 0) dX4_hasRing_123 (by decide) rfl (fun h => absurd h (by decide)) (fun _ => ?_)
  refine q_aload_n dX4_hasRing_126 rfl ?_
  refine q_getR (c := 4) (n := 0) (k := 8) (a := 44) dX4_hasRing_127 rfl (by decide) (by decide) fX4_27 rfl rfl ?_
  refine q_iload_n dX4_hasRing_130 rfl ?_
  refine q_iload_n dX4_hasRing_131 rfl ?_
  refine q_iast (n := 5604) (j := 0) dX4_hasRing_132 rfl rfl (by decide) ?_
  show q_K _ (q_sX (q_up uXI39 44 0 0) zJ1) _ _ _ _ _ _
  refine q_inc (v := 1) dX4_hasRing_133 rfl (Nat.le_of_ble_eq_true rfl) rfl ?_
  refine q_inc (v := 1) dX4_hasRing_136 rfl (Nat.le_of_ble_eq_true rfl) rfl ?_
  refine q_goto (tgt := 92) dX4_hasRing_139 (by decide) ?_
  refine q_iload_n dX4_hasRing_92 rfl ?_
  refine q_aload_n dX4_hasRing_93 rfl ?_
  refine q_getf (c := 4) (n := 0) (k := 2) (v := .int 2) dX4_hasRing_94 rfl (by decide) (by decide) fX4_33 rfl ?_
  refine q_cz_ge (tgt := 142) (a := 1) (b := 2) dX4_hasRing_97 (by decide) rfl rfl (fun h => absurd h (by decide)) (fun _ => ?_)
  refine q_iload_n dX4_hasRing_100 rfl ?_
  refine q_si (v := 5602) dX4_hasRing_101 rfl ?_
  refine q_cz_ge (tgt := 142) (a := 1) (b := 5602) dX4_hasRing_104 (by decide) rfl rfl (fun h => absurd h (by decide)) (fun _ => ?_)
  refine q_aload_n dX4_hasRing_107 rfl ?_
  refine q_getR (c := 4) (n := 0) (k := 3) (a := 39) dX4_hasRing_108 rfl (by decide) (by decide) fX4_11 rfl rfl ?_
  refine q_iload_n dX4_hasRing_111 rfl ?_
  refine q_iald (n := 5602) (j := 1) dX4_hasRing_112 rfl rfl (by decide) ?_
  refine q_topI (v := 1) rfl ?_
  refine q_iload_n dX4_hasRing_113 rfl ?_
  refine q_cz_ne (tgt := 136) (a := 1) (b := 1) dX4_hasRing_114 (by decide) rfl rfl (fun h => absurd h (by decide)) (fun _ => ?_)
  refine q_aload_n dX4_hasRing_117 rfl ?_
  refine q_getR (c := 4) (n := 0) (k := 7) (a := 43) dX4_hasRing_118 rfl (by decide) (by decide) fX4_24 rfl rfl ?_
  refine q_iload_n dX4_hasRing_121 rfl ?_
  refine q_iald (n := 5602) (j := 1) dX4_hasRing_122 rfl rfl (by decide) ?_
  refine q_topI (v := 0) rfl ?_
  refine q_iz_ne (tgt := 136) (a := 0) dX4_hasRing_123 (by decide) rfl (fun h => absurd h (by decide)) (fun _ => ?_)
  refine q_aload_n dX4_hasRing_126 rfl ?_
  refine q_getR (c := 4) (n := 0) (k := 8) (a := 44) dX4_hasRing_127 rfl (by decide) (by decide) fX4_27 rfl rfl ?_
  refine q_iload_n dX4_hasRing_130 rfl ?_
  refine q_iload_n dX4_hasRing_131 rfl ?_
  refine q_iast (n := 5604) (j := 1) dX4_hasRing_132 rfl rfl (by decide) ?_
  show q_K _ (q_sX (q_up (q_up uXI39 44 0 0) 44 1 (0 + 1)) zJ1) _ _ _ _ _ _
  refine q_inc (v := 1) dX4_hasRing_133 rfl (Nat.le_of_ble_eq_true rfl) rfl ?_
  refine q_inc (v := 1) dX4_hasRing_136 rfl (Nat.le_of_ble_eq_true rfl) rfl ?_
  refine q_goto (tgt := 92) dX4_hasRing_139 (by decide) ?_
  refine q_iload_n dX4_hasRing_92 rfl ?_
  refine q_aload_n dX4_hasRing_93 rfl ?_
  refine q_getf (c := 4) (n := 0) (k := 2) (v := .int 2) dX4_hasRing_94 rfl (by decide) (by decide) fX4_33 rfl ?_
  refine q_cz_ge (tgt := 142) (a := 2) (b := 2) dX4_hasRing_97 (by decide) rfl rfl (fun _ => ?_) (fun h => absurd h (by decide))
  refine q_ic (v := 0) dX4_hasRing_142 rfl ?_
  refine q_istore_n dX4_hasRing_143 (Nat.le_of_ble_eq_true rfl) ?_
  refine q_iload_n dX4_hasRing_144 rfl ?_
  refine q_iload_n dX4_hasRing_145 rfl ?_
  refine q_cz_ge (tgt := 196) (a := 0) (b := 2) dX4_hasRing_146 (by decide) rfl rfl (fun h => absurd h (by decide)) (fun _ => ?_)
  refine q_iload_n dX4_hasRing_149 rfl ?_
  refine q_si (v := 5602) dX4_hasRing_150 rfl ?_
  refine q_cz_ge (tgt := 196) (a := 0) (b := 5602) dX4_hasRing_153 (by decide) rfl rfl (fun h => absurd h (by decide)) (fun _ => ?_)
  refine q_aload_n dX4_hasRing_156 rfl ?_
  refine q_aload_n dX4_hasRing_157 rfl ?_
  refine q_getR (c := 4) (n := 0) (k := 5) (a := 41) dX4_hasRing_158 rfl (by decide) (by decide) fX4_18 rfl rfl ?_
  refine q_aload_n dX4_hasRing_161 rfl ?_
  refine q_getR (c := 4) (n := 0) (k := 8) (a := 44) dX4_hasRing_162 rfl (by decide) (by decide) fX4_27 rfl rfl ?_
  refine q_iload_n dX4_hasRing_165 rfl ?_
  refine q_iald (n := 5604) (j := 0) dX4_hasRing_166 rfl rfl (by decide) ?_
  refine q_topI (v := 0) rfl ?_
  refine q_iald (n := 5602) (j := 0) dX4_hasRing_167 rfl rfl (by decide) ?_
  refine q_topI (v := (-1)) rfl ?_
  refine q_iload_n dX4_hasRing_168 rfl ?_
  show q_K _ (q_sX uXI40 zJ1) _ _ _ _ _ _
  refine q_V2 (ci := 4) (n := 0) dX4_hasRing_169 DX4_takePart lX4_62 rfl (by decide) rfl rfl rfl rfl uX_X4_takePart_26 ?_
  rintro _ _ ⟨rfl, rfl⟩
  refine q_istore_n dX4_hasRing_172 (Nat.le_of_ble_eq_true rfl) ?_
  refine q_aload_n dX4_hasRing_173 rfl ?_
  refine q_aload_n dX4_hasRing_174 rfl ?_
  refine q_getR (c := 4) (n := 0) (k := 6) (a := 42) dX4_hasRing_175 rfl (by decide) (by decide) fX4_21 rfl rfl ?_
  refine q_aload_n dX4_hasRing_178 rfl ?_
  refine q_getR (c := 4) (n := 0) (k := 8) (a := 44) dX4_hasRing_179 rfl (by decide) (by decide) fX4_27 rfl rfl ?_
  refine q_iload_n dX4_hasRing_182 rfl ?_
  refine q_iald (n := 5604) (j := 0) dX4_hasRing_183 rfl rfl (by decide) ?_
  refine q_topI (v := 0) rfl ?_
  refine q_iald (n := 5602) (j := 0) dX4_hasRing_184 rfl rfl (by decide) ?_
  refine q_topI (v := (-1)) rfl ?_
  refine q_iload_n dX4_hasRing_185 rfl ?_
  refine q_V2 (ci := 4) (n := 0) dX4_hasRing_186 DX4_takePart lX4_62 rfl (by decide) rfl rfl rfl rfl uX_X4_takePart_26 ?_
  rintro _ _ ⟨rfl, rfl⟩
  refine q_istore_n dX4_hasRing_189 (Nat.le_of_ble_eq_true rfl) ?_
  refine q_inc (v := 1) dX4_hasRing_190 rfl (Nat.le_of_ble_eq_true rfl) rfl ?_
  refine q_goto (tgt := 144) dX4_hasRing_193 (by decide) ?_
  refine q_iload_n dX4_hasRing_144 rfl ?_
  refine q_iload_n dX4_hasRing_145 rfl ?_
  refine q_cz_ge (tgt := 196) (a := 1) (b := 2) dX4_hasRing_146 (by decide) rfl rfl (fun h => absurd h (by decide)) (fun _ => ?_)
  refine q_iload_n dX4_hasRing_149 rfl ?_
  refine q_si (v := 5602) dX4_hasRing_150 rfl ?_
  refine q_cz_ge (tgt := 196) (a := 1) (b := 5602) dX4_hasRing_153 (by decide) rfl rfl (fun h => absurd h (by decide)) (fun _ => ?_)
  refine q_aload_n dX4_hasRing_156 rfl ?_
  refine q_aload_n dX4_hasRing_157 rfl ?_
  refine q_getR (c := 4) (n := 0) (k := 5) (a := 41) dX4_hasRing_158 rfl (by decide) (by decide) fX4_18 rfl rfl ?_
  refine q_aload_n dX4_hasRing_161 rfl ?_
  refine q_getR (c := 4) (n := 0) (k := 8) (a := 44) dX4_hasRing_162 rfl (by decide) (by decide) fX4_27 rfl rfl ?_
  refine q_iload_n dX4_hasRing_165 rfl ?_
  refine q_iald (n := 5604) (j := 1) dX4_hasRing_166 rfl rfl (by decide) ?_
  refine q_topI (v := 1) rfl ?_
  refine q_iald (n := 5602) (j := 1) dX4_hasRing_167 rfl rfl (by decide) ?_
  refine q_topI (v := (-1)) rfl ?_
  refine q_iload_n dX4_hasRing_168 rfl ?_
  refine q_V2 (ci := 4) (n := 0) dX4_hasRing_169 DX4_takePart lX4_62 rfl (by decide) rfl rfl rfl rfl uX_X4_takePart_26 ?_
  rintro _ _ ⟨rfl, rfl⟩
  refine q_istore_n dX4_hasRing_172 (Nat.le_of_ble_eq_true rfl) ?_
  refine q_aload_n dX4_hasRing_173 rfl ?_
  refine q_aload_n dX4_hasRing_174 rfl ?_
  refine q_getR (c := 4) (n := 0) (k := 6) (a := 42) dX4_hasRing_175 rfl (by decide) (by decide) fX4_21 rfl rfl ?_
  refine q_aload_n dX4_hasRing_178 rfl ?_
  refine q_getR (c := 4) (n := 0) (k := 8) (a := 44) dX4_hasRing_179 rfl (by decide) (by decide) fX4_27 rfl rfl ?_
  refine q_iload_n dX4_hasRing_182 rfl ?_
  refine q_iald (n := 5604) (j := 1) dX4_hasRing_183 rfl rfl (by decide) ?_
  refine q_topI (v := 1) rfl ?_
  refine q_iald (n := 5602) (j := 1) dX4_hasRing_184 rfl rfl (by decide) ?_
  refine q_topI (v := (-1)) rfl ?_
  refine q_iload_n dX4_hasRing_185 rfl ?_
  refine q_V2 (ci := 4) (n := 0) dX4_hasRing_186 DX4_takePart lX4_62 rfl (by decide) rfl rfl rfl rfl uX_X4_takePart_26 ?_
  rintro _ _ ⟨rfl, rfl⟩
  refine q_istore_n dX4_hasRing_189 (Nat.le_of_ble_eq_true rfl) ?_
  refine q_inc (v := 1) dX4_hasRing_190 rfl (Nat.le_of_ble_eq_true rfl) rfl ?_
  refine q_goto (tgt := 144) dX4_hasRing_193 (by decide) ?_
  refine q_iload_n dX4_hasRing_144 rfl ?_
  refine q_iload_n dX4_hasRing_145 rfl ?_
  refine q_cz_ge (tgt := 196) (a := 2) (b := 2) dX4_hasRing_146 (by decide) rfl rfl (fun _ => ?_) (fun h => absurd h (by decide))
  refine q_iload_n dX4_hasRing_196 rfl ?_
  refine q_iload_n dX4_hasRing_197 rfl ?_
  refine q_cz_ge (tgt := 205) (a := 2) (b := 2) dX4_hasRing_198 (by decide) rfl rfl (fun _ => ?_) (fun h => absurd h (by decide))
  refine q_ic (v := 0) dX4_hasRing_205 rfl ?_
  refine q_zret dX4_hasRing_206 rfl (Or.inl rfl) ?_
  exact ⟨rfl, rfl⟩
set_option maxRecDepth 20000 in
theorem uX_X0_clashOf_28 : q_met mX0_clashOf (q_sX zI6 zJ1) [.ref 51, .long 0] (fun s r => s = q_sX uXI40 zJ1 ∧ r = some (.int 0)) := by
  refine q_enter (by decide) (Nat.le_of_ble_eq_true rfl) ?_
  refine q_aload_n dX0_clashOf_0 rfl ?_
  refine q_getR (c := 0) (n := 0) (k := 7) (a := 38) dX0_clashOf_1 rfl (by decide) (by decide) fX0_37 rfl rfl ?_
  refine q_ic (v := 2) dX0_clashOf_4 rfl ?_
  refine q_aload_n dX0_clashOf_5 rfl ?_
  refine q_getf (c := 0) (n := 0) (k := 0) (v := .int 0) dX0_clashOf_6 rfl (by decide) (by decide) fX0_41 rfl ?_
  refine q_imul dX0_clashOf_9 ?_
  refine q_topI (v := 0) rfl ?_
  refine q_V1 (ci := 4) (n := 0) dX0_clashOf_10 DX4_begin lX0_144 rfl (by decide) rfl rfl rfl rfl uX_X4_begin_22 ?_
  rintro _ _ ⟨rfl, rfl⟩
  refine q_ic (v := 0) dX0_clashOf_13 rfl ?_
  refine q_istore_n dX0_clashOf_14 (Nat.le_of_ble_eq_true rfl) ?_
  refine q_iload_n dX0_clashOf_15 rfl ?_
  refine q_aload_n dX0_clashOf_16 rfl ?_
  refine q_getf (c := 0) (n := 0) (k := 0) (v := .int 0) dX0_clashOf_17 rfl (by decide) (by decide) fX0_41 rfl ?_
  refine q_cz_ge (tgt := 61) (a := 0) (b := 0) dX0_clashOf_20 (by decide) rfl rfl (fun _ => ?_) (fun h => absurd h (by decide))
  refine q_aload_n dX0_clashOf_61 rfl ?_
  refine q_getR (c := 0) (n := 0) (k := 7) (a := 38) dX0_clashOf_62 rfl (by decide) (by decide) fX0_37 rfl rfl ?_
  refine q_V0 (ci := 4) (n := 0) dX0_clashOf_65 DX4_hasRing lX0_141 rfl (by decide) rfl rfl rfl rfl uX_X4_hasRing_27 ?_
  rintro _ _ ⟨rfl, rfl⟩
  refine q_zret dX0_clashOf_68 rfl (Or.inl rfl) ?_
  exact ⟨rfl, rfl⟩
def uXI41 : Nat → Nat → Int32 := q_up (q_up uXI40 51 3 1) 51 2 1
set_option maxRecDepth 20000 in
theorem uX_X0_allFit_29 : q_met mX0_allFit (q_sX zI6 zJ1) [.ref 51] (fun s r => s = q_sX uXI41 zJ1 ∧ r = some (.int 1)) := by
  refine q_enter (by decide) (Nat.le_of_ble_eq_true rfl) ?_
  refine q_aload_n dX0_allFit_0 rfl ?_
  refine q_getf (c := 0) (n := 0) (k := 2) (v := .int 0) dX0_allFit_1 rfl (by decide) (by decide) fX0_49 rfl ?_
  refine q_iz_ne (tgt := 35) (a := 0) dX0_allFit_4 (by decide) rfl (fun h => absurd h (by decide)) (fun _ => ?_)
  refine q_aload_n dX0_allFit_7 rfl ?_
  refine q_aload_n dX0_allFit_8 rfl ?_
  refine q_aload_n dX0_allFit_9 rfl ?_
  refine q_getR (c := 0) (n := 0) (k := 6) (a := 2) dX0_allFit_10 rfl (by decide) (by decide) fX0_33 rfl rfl ?_
  refine q_V0 (ci := 9) (n := 0) dX0_allFit_13 DX9_all lX0_107 rfl (by decide) rfl rfl rfl rfl uX_X9_all_19 ?_
  rintro _ _ ⟨rfl, rfl⟩
  refine q_V1 (ci := 0) (n := 0) dX0_allFit_16 DX0_clashOf lX0_111 rfl (by decide) rfl rfl rfl rfl uX_X0_clashOf_28 ?_
  rintro _ _ ⟨rfl, rfl⟩
  refine q_iz_ne (tgt := 26) (a := 0) dX0_allFit_19 (by decide) rfl (fun h => absurd h (by decide)) (fun _ => ?_)
  refine q_ic (v := 1) dX0_allFit_22 rfl ?_
  refine q_goto (tgt := 27) dX0_allFit_23 (by decide) ?_
  refine q_putZ (c := 0) (n := 0) (k := 3) dX0_allFit_27 rfl (by decide) (by decide) fX0_115 rfl rfl (Or.inr rfl) ?_
  show q_K _ (q_sX (q_up uXI40 51 3 1) zJ1) _ _ _ _ _ _
  refine q_aload_n dX0_allFit_30 rfl ?_
  refine q_ic (v := 1) dX0_allFit_31 rfl ?_
  refine q_putZ (c := 0) (n := 0) (k := 2) dX0_allFit_32 rfl (by decide) (by decide) fX0_49 rfl rfl (Or.inr rfl) ?_
  show q_K _ (q_sX (q_up (q_up uXI40 51 3 1) 51 2 1) zJ1) _ _ _ _ _ _
  refine q_aload_n dX0_allFit_35 rfl ?_
  refine q_getf (c := 0) (n := 0) (k := 3) (v := .int 1) dX0_allFit_36 rfl (by decide) (by decide) fX0_115 rfl ?_
  show q_K _ (q_sX uXI41 zJ1) _ _ _ _ _ _
  refine q_zret dX0_allFit_39 rfl (Or.inr rfl) ?_
  exact ⟨rfl, rfl⟩
set_option maxRecDepth 20000 in
theorem frX_fits : q_met mX10_fits (q_sX zI6 zJ1) [.ref 0] (fun s r => (∃ I J, s = q_sX I J) ∧ ∃ v, r = some (.int v) ∧ v.toInt = (1 : Int)) := by
  refine q_enter (by decide) (Nat.le_of_ble_eq_true rfl) ?_
  refine q_aload_n dX10_fits_0 rfl ?_
  refine q_getR (c := 10) (n := 0) (k := 7) (a := 51) dX10_fits_1 rfl (by decide) (by decide) fX10_49 rfl rfl ?_
  refine q_V0 (ci := 0) (n := 0) dX10_fits_4 DX0_allFit lX10_155 rfl (by decide) rfl rfl rfl rfl uX_X0_allFit_29 ?_
  rintro _ _ ⟨rfl, rfl⟩
  refine q_iz_eq (tgt := 14) (a := 1) dX10_fits_7 (by decide) rfl (fun h => absurd h (by decide)) (fun _ => ?_)
  refine q_ic (v := 1) dX10_fits_10 rfl ?_
  refine q_goto (tgt := 15) dX10_fits_11 (by decide) ?_
  refine q_iret dX10_fits_15 rfl ?_
  exact ⟨⟨_, _, rfl⟩, _, rfl, (by show (1 : Int) = _; first | rfl | omega | (split <;> omega) | (split <;> split <;> omega))⟩
theorem dX10_kind_0 : decode cX10_kind 0 = .ok (.aload_n 0, 1) := by decide +kernel
theorem dX10_kind_1 : decode cX10_kind 1 = .ok (.getfield 16, 3) := by decide +kernel
theorem dX10_kind_4 : decode cX10_kind 4 = .ok (.iload_n 1, 1) := by decide +kernel
theorem dX10_kind_5 : decode cX10_kind 5 = .ok (.invokevirtual 139, 3) := by decide +kernel
theorem dX10_kind_8 : decode cX10_kind 8 = .ok (.ifCond .eq 20, 3) := by decide +kernel
theorem dX10_kind_11 : decode cX10_kind 11 = .ok (.aload_n 0, 1) := by decide +kernel
theorem dX10_kind_12 : decode cX10_kind 12 = .ok (.getfield 49, 3) := by decide +kernel
theorem dX10_kind_15 : decode cX10_kind 15 = .ok (.aload_n 0, 1) := by decide +kernel
theorem dX10_kind_16 : decode cX10_kind 16 = .ok (.getfield 16, 3) := by decide +kernel
theorem dX10_kind_19 : decode cX10_kind 19 = .ok (.invokevirtual 159, 3) := by decide +kernel
theorem dX10_kind_22 : decode cX10_kind 22 = .ok (.invokevirtual 163, 3) := by decide +kernel
theorem dX10_kind_25 : decode cX10_kind 25 = .ok (.ifCond .eq 5, 3) := by decide +kernel
theorem dX10_kind_28 : decode cX10_kind 28 = .ok (.iconst (-1), 1) := by decide +kernel
theorem dX10_kind_29 : decode cX10_kind 29 = .ok (.ireturn, 1) := by decide +kernel
theorem dX10_kind_30 : decode cX10_kind 30 = .ok (.aload_n 0, 1) := by decide +kernel
theorem dX10_kind_31 : decode cX10_kind 31 = .ok (.getfield 30, 3) := by decide +kernel
theorem dX10_kind_34 : decode cX10_kind 34 = .ok (.aload_n 0, 1) := by decide +kernel
theorem dX10_kind_35 : decode cX10_kind 35 = .ok (.getfield 49, 3) := by decide +kernel
theorem dX10_kind_38 : decode cX10_kind 38 = .ok (.iload_n 1, 1) := by decide +kernel
theorem dX10_kind_39 : decode cX10_kind 39 = .ok (.invokevirtual 167, 3) := by decide +kernel
theorem dX10_kind_42 : decode cX10_kind 42 = .ok (.iload_n 2, 1) := by decide +kernel
theorem dX10_kind_43 : decode cX10_kind 43 = .ok (.invokevirtual 171, 3) := by decide +kernel
theorem dX10_kind_46 : decode cX10_kind 46 = .ok (.ireturn, 1) := by decide +kernel
set_option maxRecDepth 20000 in
theorem frX_kind (a : Int32) (b : Int32) : q_met mX10_kind (q_sX zI6 zJ1) [.ref 0, .int a, .int b] (fun s r => (∃ I J, s = q_sX I J) ∧ ∃ v, r = some (.int v) ∧ v.toInt = (-1 : Int)) := by
  refine q_enter (by decide) (Nat.le_of_ble_eq_true rfl) ?_
  refine q_aload_n dX10_kind_0 rfl ?_
  refine q_getR (c := 10) (n := 0) (k := 3) (a := 2) dX10_kind_1 rfl (by decide) (by decide) fX10_16 rfl rfl ?_
  refine q_iload_n dX10_kind_4 rfl ?_
  refine q_V1 (ci := 9) (n := 0) dX10_kind_5 DX9_has lX10_139 rfl (by decide) rfl rfl rfl rfl (uX_X9_has_17 a) ?_
  rintro _ _ ⟨rfl, rfl⟩
  refine q_iz_eq (tgt := 28) (a := 0) dX10_kind_8 (by decide) rfl (fun _ => ?_) (fun h => absurd h (by decide))
  refine q_ic (v := (-1)) dX10_kind_28 rfl ?_
  refine q_iret dX10_kind_29 rfl ?_
  exact ⟨⟨_, _, rfl⟩, _, rfl, (by show ((-1) : Int) = _; first | rfl | omega | (split <;> omega) | (split <;> split <;> omega))⟩
theorem dX10_core_0 : decode cX10_core 0 = .ok (.aload_n 0, 1) := by decide +kernel
theorem dX10_core_1 : decode cX10_core 1 = .ok (.getfield 49, 3) := by decide +kernel
theorem dX10_core_4 : decode cX10_core 4 = .ok (.invokevirtual 178, 3) := by decide +kernel
theorem dX10_core_7 : decode cX10_core 7 = .ok (.lreturn, 1) := by decide +kernel
theorem dX0_coreOfAll_0 : decode cX0_coreOfAll 0 = .ok (.aload_n 0, 1) := by decide +kernel
theorem dX0_coreOfAll_1 : decode cX0_coreOfAll 1 = .ok (.getfield 52, 3) := by decide +kernel
theorem dX0_coreOfAll_4 : decode cX0_coreOfAll 4 = .ok (.ifCond .ne 34, 3) := by decide +kernel
theorem dX0_coreOfAll_7 : decode cX0_coreOfAll 7 = .ok (.aload_n 0, 1) := by decide +kernel
theorem dX0_coreOfAll_8 : decode cX0_coreOfAll 8 = .ok (.aload_n 0, 1) := by decide +kernel
theorem dX0_coreOfAll_9 : decode cX0_coreOfAll 9 = .ok (.invokevirtual 118, 3) := by decide +kernel
theorem dX0_coreOfAll_12 : decode cX0_coreOfAll 12 = .ok (.ifCond .eq 7, 3) := by decide +kernel
theorem dX0_coreOfAll_15 : decode cX0_coreOfAll 15 = .ok (.lconst 0, 1) := by decide +kernel
theorem dX0_coreOfAll_16 : decode cX0_coreOfAll 16 = .ok (.goto 14, 3) := by decide +kernel
theorem dX0_coreOfAll_19 : decode cX0_coreOfAll 19 = .ok (.aload_n 0, 1) := by decide +kernel
theorem dX0_coreOfAll_20 : decode cX0_coreOfAll 20 = .ok (.aload_n 0, 1) := by decide +kernel
theorem dX0_coreOfAll_21 : decode cX0_coreOfAll 21 = .ok (.getfield 33, 3) := by decide +kernel
theorem dX0_coreOfAll_24 : decode cX0_coreOfAll 24 = .ok (.invokevirtual 107, 3) := by decide +kernel
theorem dX0_coreOfAll_27 : decode cX0_coreOfAll 27 = .ok (.invokevirtual 122, 3) := by decide +kernel
theorem dX0_coreOfAll_30 : decode cX0_coreOfAll 30 = .ok (.putfield 126, 3) := by decide +kernel
theorem dX0_coreOfAll_33 : decode cX0_coreOfAll 33 = .ok (.aload_n 0, 1) := by decide +kernel
theorem dX0_coreOfAll_34 : decode cX0_coreOfAll 34 = .ok (.iconst 1, 1) := by decide +kernel
theorem dX0_coreOfAll_35 : decode cX0_coreOfAll 35 = .ok (.putfield 52, 3) := by decide +kernel
theorem dX0_coreOfAll_38 : decode cX0_coreOfAll 38 = .ok (.aload_n 0, 1) := by decide +kernel
theorem dX0_coreOfAll_39 : decode cX0_coreOfAll 39 = .ok (.getfield 126, 3) := by decide +kernel
theorem dX0_coreOfAll_42 : decode cX0_coreOfAll 42 = .ok (.lreturn, 1) := by decide +kernel
def uXI42 : Nat → Nat → Int32 := q_up uXI41 51 4 1
def uXJ3 : Nat → Nat → Int64 := q_up zJ1 51 5 0
set_option maxRecDepth 20000 in
theorem uX_X0_coreOfAll_32 : q_met mX0_coreOfAll (q_sX zI6 zJ1) [.ref 51] (fun s r => s = q_sX uXI42 uXJ3 ∧ r = some (.long 0)) := by
  refine q_enter (by decide) (Nat.le_of_ble_eq_true rfl) ?_
  refine q_aload_n dX0_coreOfAll_0 rfl ?_
  refine q_getf (c := 0) (n := 0) (k := 4) (v := .int 0) dX0_coreOfAll_1 rfl (by decide) (by decide) fX0_52 rfl ?_
  refine q_iz_ne (tgt := 38) (a := 0) dX0_coreOfAll_4 (by decide) rfl (fun h => absurd h (by decide)) (fun _ => ?_)
  refine q_aload_n dX0_coreOfAll_7 rfl ?_
  refine q_aload_n dX0_coreOfAll_8 rfl ?_
  refine q_V0 (ci := 0) (n := 0) dX0_coreOfAll_9 DX0_allFit lX0_118 rfl (by decide) rfl rfl rfl rfl uX_X0_allFit_29 ?_
  rintro _ _ ⟨rfl, rfl⟩
  refine q_iz_eq (tgt := 19) (a := 1) dX0_coreOfAll_12 (by decide) rfl (fun h => absurd h (by decide)) (fun _ => ?_)
  refine q_lc (v := 0) dX0_coreOfAll_15 rfl ?_
  refine q_goto (tgt := 30) dX0_coreOfAll_16 (by decide) ?_
  refine q_putJ (c := 0) (n := 0) (k := 5) dX0_coreOfAll_30 rfl (by decide) (by decide) fX0_126 rfl rfl ?_
  show q_K _ (q_sX uXI41 (q_up zJ1 51 5 0)) _ _ _ _ _ _
  refine q_aload_n dX0_coreOfAll_33 rfl ?_
  refine q_ic (v := 1) dX0_coreOfAll_34 rfl ?_
  refine q_putZ (c := 0) (n := 0) (k := 4) dX0_coreOfAll_35 rfl (by decide) (by decide) fX0_52 rfl rfl (Or.inr rfl) ?_
  show q_K _ (q_sX (q_up uXI41 51 4 1) (q_up zJ1 51 5 0)) _ _ _ _ _ _
  refine q_aload_n dX0_coreOfAll_38 rfl ?_
  refine q_getf (c := 0) (n := 0) (k := 5) (v := .long 0) dX0_coreOfAll_39 rfl (by decide) (by decide) fX0_126 rfl ?_
  show q_K _ (q_sX uXI42 uXJ3) _ _ _ _ _ _
  refine q_lret dX0_coreOfAll_42 rfl ?_
  exact ⟨rfl, rfl⟩
set_option maxRecDepth 20000 in
theorem frX_core : q_met mX10_core (q_sX zI6 zJ1) [.ref 0] (fun s r => (∃ I J, s = q_sX I J) ∧ ∃ v, r = some (.long v) ∧ v.toInt = (0 : Int)) := by
  refine q_enter (by decide) (Nat.le_of_ble_eq_true rfl) ?_
  refine q_aload_n dX10_core_0 rfl ?_
  refine q_getR (c := 10) (n := 0) (k := 7) (a := 51) dX10_core_1 rfl (by decide) (by decide) fX10_49 rfl rfl ?_
  refine q_V0 (ci := 0) (n := 0) dX10_core_4 DX0_coreOfAll lX10_178 rfl (by decide) rfl rfl rfl rfl uX_X0_coreOfAll_32 ?_
  rintro _ _ ⟨rfl, rfl⟩
  refine q_lret dX10_core_7 rfl ?_
  exact ⟨⟨_, _, rfl⟩, _, rfl, (by show (0 : Int) = _; first | rfl | omega | (split <;> omega) | (split <;> split <;> omega))⟩
theorem dX10_meets_0 : decode cX10_meets 0 = .ok (.aload_n 0, 1) := by decide +kernel
theorem dX10_meets_1 : decode cX10_meets 1 = .ok (.getfield 16, 3) := by decide +kernel
theorem dX10_meets_4 : decode cX10_meets 4 = .ok (.iload_n 1, 1) := by decide +kernel
theorem dX10_meets_5 : decode cX10_meets 5 = .ok (.invokevirtual 139, 3) := by decide +kernel
theorem dX10_meets_8 : decode cX10_meets 8 = .ok (.ifCond .eq 24, 3) := by decide +kernel
theorem dX10_meets_11 : decode cX10_meets 11 = .ok (.aload_n 0, 1) := by decide +kernel
theorem dX10_meets_12 : decode cX10_meets 12 = .ok (.getfield 16, 3) := by decide +kernel
theorem dX10_meets_15 : decode cX10_meets 15 = .ok (.iload_n 2, 1) := by decide +kernel
theorem dX10_meets_16 : decode cX10_meets 16 = .ok (.invokevirtual 139, 3) := by decide +kernel
theorem dX10_meets_19 : decode cX10_meets 19 = .ok (.ifCond .eq 13, 3) := by decide +kernel
theorem dX10_meets_22 : decode cX10_meets 22 = .ok (.aload_n 0, 1) := by decide +kernel
theorem dX10_meets_23 : decode cX10_meets 23 = .ok (.getfield 49, 3) := by decide +kernel
theorem dX10_meets_26 : decode cX10_meets 26 = .ok (.invokevirtual 155, 3) := by decide +kernel
theorem dX10_meets_29 : decode cX10_meets 29 = .ok (.ifCond .ne 5, 3) := by decide +kernel
theorem dX10_meets_32 : decode cX10_meets 32 = .ok (.iconst (-1), 1) := by decide +kernel
theorem dX10_meets_33 : decode cX10_meets 33 = .ok (.ireturn, 1) := by decide +kernel
theorem dX10_meets_34 : decode cX10_meets 34 = .ok (.aload_n 0, 1) := by decide +kernel
theorem dX10_meets_35 : decode cX10_meets 35 = .ok (.getfield 49, 3) := by decide +kernel
theorem dX10_meets_38 : decode cX10_meets 38 = .ok (.iload_n 1, 1) := by decide +kernel
theorem dX10_meets_39 : decode cX10_meets 39 = .ok (.iload_n 2, 1) := by decide +kernel
theorem dX10_meets_40 : decode cX10_meets 40 = .ok (.invokevirtual 181, 3) := by decide +kernel
theorem dX10_meets_43 : decode cX10_meets 43 = .ok (.ifCond .eq 7, 3) := by decide +kernel
theorem dX10_meets_46 : decode cX10_meets 46 = .ok (.iconst 1, 1) := by decide +kernel
theorem dX10_meets_47 : decode cX10_meets 47 = .ok (.goto 4, 3) := by decide +kernel
theorem dX10_meets_50 : decode cX10_meets 50 = .ok (.iconst 0, 1) := by decide +kernel
theorem dX10_meets_51 : decode cX10_meets 51 = .ok (.ireturn, 1) := by decide +kernel
set_option maxRecDepth 20000 in
theorem frX_meets (a : Int32) (b : Int32) : q_met mX10_meets (q_sX zI6 zJ1) [.ref 0, .int a, .int b] (fun s r => (∃ I J, s = q_sX I J) ∧ ∃ v, r = some (.int v) ∧ v.toInt = (-1 : Int)) := by
  refine q_enter (by decide) (Nat.le_of_ble_eq_true rfl) ?_
  refine q_aload_n dX10_meets_0 rfl ?_
  refine q_getR (c := 10) (n := 0) (k := 3) (a := 2) dX10_meets_1 rfl (by decide) (by decide) fX10_16 rfl rfl ?_
  refine q_iload_n dX10_meets_4 rfl ?_
  refine q_V1 (ci := 9) (n := 0) dX10_meets_5 DX9_has lX10_139 rfl (by decide) rfl rfl rfl rfl (uX_X9_has_17 a) ?_
  rintro _ _ ⟨rfl, rfl⟩
  refine q_iz_eq (tgt := 32) (a := 0) dX10_meets_8 (by decide) rfl (fun _ => ?_) (fun h => absurd h (by decide))
  refine q_ic (v := (-1)) dX10_meets_32 rfl ?_
  refine q_iret dX10_meets_33 rfl ?_
  exact ⟨⟨_, _, rfl⟩, _, rfl, (by show ((-1) : Int) = _; first | rfl | omega | (split <;> omega) | (split <;> split <;> omega))⟩
theorem dX10_cores_0 : decode cX10_cores 0 = .ok (.aload_n 0, 1) := by decide +kernel
theorem dX10_cores_1 : decode cX10_cores 1 = .ok (.getfield 16, 3) := by decide +kernel
theorem dX10_cores_4 : decode cX10_cores 4 = .ok (.getfield 185, 3) := by decide +kernel
theorem dX10_cores_7 : decode cX10_cores 7 = .ok (.bipush 12, 2) := by decide +kernel
theorem dX10_cores_9 : decode cX10_cores 9 = .ok (.if_icmp .le 6, 3) := by decide +kernel
theorem dX10_cores_12 : decode cX10_cores 12 = .ok (.bipush (-2), 2) := by decide +kernel
theorem dX10_cores_14 : decode cX10_cores 14 = .ok (.ireturn, 1) := by decide +kernel
theorem dX10_cores_15 : decode cX10_cores 15 = .ok (.aload_n 0, 1) := by decide +kernel
theorem dX10_cores_16 : decode cX10_cores 16 = .ok (.getfield 61, 3) := by decide +kernel
theorem dX10_cores_19 : decode cX10_cores 19 = .ok (.aload_n 0, 1) := by decide +kernel
theorem dX10_cores_20 : decode cX10_cores 20 = .ok (.getfield 16, 3) := by decide +kernel
theorem dX10_cores_23 : decode cX10_cores 23 = .ok (.getfield 185, 3) := by decide +kernel
theorem dX10_cores_26 : decode cX10_cores 26 = .ok (.invokevirtual 188, 3) := by decide +kernel
theorem dX10_cores_29 : decode cX10_cores 29 = .ok (.aload_n 0, 1) := by decide +kernel
theorem dX10_cores_30 : decode cX10_cores 30 = .ok (.getfield 61, 3) := by decide +kernel
theorem dX10_cores_33 : decode cX10_cores 33 = .ok (.getfield 191, 3) := by decide +kernel
theorem dX10_cores_36 : decode cX10_cores 36 = .ok (.ireturn, 1) := by decide +kernel
theorem dX5_find_0 : decode cX5_find 0 = .ok (.aload_n 0, 1) := by decide +kernel
theorem dX5_find_1 : decode cX5_find 1 = .ok (.getfield 19, 3) := by decide +kernel
theorem dX5_find_4 : decode cX5_find 4 = .ok (.ifCond .ne 13, 3) := by decide +kernel
theorem dX5_find_7 : decode cX5_find 7 = .ok (.iload_n 1, 1) := by decide +kernel
theorem dX5_find_8 : decode cX5_find 8 = .ok (.ifCond .lt 9, 3) := by decide +kernel
theorem dX5_find_11 : decode cX5_find 11 = .ok (.iload_n 1, 1) := by decide +kernel
theorem dX5_find_12 : decode cX5_find 12 = .ok (.bipush 12, 2) := by decide +kernel
theorem dX5_find_14 : decode cX5_find 14 = .ok (.if_icmp .le 4, 3) := by decide +kernel
theorem dX5_find_17 : decode cX5_find 17 = .ok (.return_, 1) := by decide +kernel
theorem dX5_find_18 : decode cX5_find 18 = .ok (.aload_n 0, 1) := by decide +kernel
theorem dX5_find_19 : decode cX5_find 19 = .ok (.iconst 1, 1) := by decide +kernel
theorem dX5_find_20 : decode cX5_find 20 = .ok (.putfield 19, 3) := by decide +kernel
theorem dX5_find_23 : decode cX5_find 23 = .ok (.aload_n 0, 1) := by decide +kernel
theorem dX5_find_24 : decode cX5_find 24 = .ok (.iconst 1, 1) := by decide +kernel
theorem dX5_find_25 : decode cX5_find 25 = .ok (.iload_n 1, 1) := by decide +kernel
theorem dX5_find_26 : decode cX5_find 26 = .ok (.ishl, 1) := by decide +kernel
theorem dX5_find_27 : decode cX5_find 27 = .ok (.iconst 1, 1) := by decide +kernel
theorem dX5_find_28 : decode cX5_find 28 = .ok (.isub, 1) := by decide +kernel
theorem dX5_find_29 : decode cX5_find 29 = .ok (.putfield 23, 3) := by decide +kernel
theorem dX5_find_32 : decode cX5_find 32 = .ok (.aload_n 0, 1) := by decide +kernel
theorem dX5_find_33 : decode cX5_find 33 = .ok (.iconst 0, 1) := by decide +kernel
theorem dX5_find_34 : decode cX5_find 34 = .ok (.putfield 27, 3) := by decide +kernel
theorem dX5_find_37 : decode cX5_find 37 = .ok (.aload_n 0, 1) := by decide +kernel
theorem dX5_find_38 : decode cX5_find 38 = .ok (.iconst 0, 1) := by decide +kernel
theorem dX5_find_39 : decode cX5_find 39 = .ok (.putfield 30, 3) := by decide +kernel
theorem dX5_find_42 : decode cX5_find 42 = .ok (.iconst 0, 1) := by decide +kernel
theorem dX5_find_43 : decode cX5_find 43 = .ok (.istore_n 2, 1) := by decide +kernel
theorem dX5_find_44 : decode cX5_find 44 = .ok (.iload_n 2, 1) := by decide +kernel
theorem dX5_find_45 : decode cX5_find 45 = .ok (.aload_n 0, 1) := by decide +kernel
theorem dX5_find_46 : decode cX5_find 46 = .ok (.getfield 23, 3) := by decide +kernel
theorem dX5_find_49 : decode cX5_find 49 = .ok (.if_icmp .gt 23, 3) := by decide +kernel
theorem dX5_find_52 : decode cX5_find 52 = .ok (.iload_n 2, 1) := by decide +kernel
theorem dX5_find_53 : decode cX5_find 53 = .ok (.sipush 4096, 3) := by decide +kernel
theorem dX5_find_56 : decode cX5_find 56 = .ok (.if_icmp .ge 16, 3) := by decide +kernel
theorem dX5_find_59 : decode cX5_find 59 = .ok (.aload_n 0, 1) := by decide +kernel
theorem dX5_find_60 : decode cX5_find 60 = .ok (.getfield 11, 3) := by decide +kernel
theorem dX5_find_63 : decode cX5_find 63 = .ok (.iload_n 2, 1) := by decide +kernel
theorem dX5_find_64 : decode cX5_find 64 = .ok (.iconst 0, 1) := by decide +kernel
theorem dX5_find_65 : decode cX5_find 65 = .ok (.bastore, 1) := by decide +kernel
theorem dX5_find_66 : decode cX5_find 66 = .ok (.iinc 2 1, 3) := by decide +kernel
theorem dX5_find_69 : decode cX5_find 69 = .ok (.goto (-25), 3) := by decide +kernel
theorem dX5_find_72 : decode cX5_find 72 = .ok (.iconst 0, 1) := by decide +kernel
theorem dX5_find_73 : decode cX5_find 73 = .ok (.istore_n 2, 1) := by decide +kernel
theorem dX5_find_74 : decode cX5_find 74 = .ok (.iload_n 2, 1) := by decide +kernel
theorem dX5_find_75 : decode cX5_find 75 = .ok (.aload_n 0, 1) := by decide +kernel
theorem dX5_find_76 : decode cX5_find 76 = .ok (.getfield 23, 3) := by decide +kernel
theorem dX5_find_79 : decode cX5_find 79 = .ok (.if_icmp .gt 57, 3) := by decide +kernel
theorem dX5_find_82 : decode cX5_find 82 = .ok (.iload_n 2, 1) := by decide +kernel
theorem dX5_find_83 : decode cX5_find 83 = .ok (.sipush 4096, 3) := by decide +kernel
theorem dX5_find_86 : decode cX5_find 86 = .ok (.if_icmp .ge 50, 3) := by decide +kernel
theorem dX5_find_89 : decode cX5_find 89 = .ok (.aload_n 0, 1) := by decide +kernel
theorem dX5_find_90 : decode cX5_find 90 = .ok (.getfield 11, 3) := by decide +kernel
theorem dX5_find_93 : decode cX5_find 93 = .ok (.iload_n 2, 1) := by decide +kernel
theorem dX5_find_94 : decode cX5_find 94 = .ok (.baload, 1) := by decide +kernel
theorem dX5_find_95 : decode cX5_find 95 = .ok (.ifCond .eq 6, 3) := by decide +kernel
theorem dX5_find_98 : decode cX5_find 98 = .ok (.goto 32, 3) := by decide +kernel
theorem dX5_find_101 : decode cX5_find 101 = .ok (.aload_n 0, 1) := by decide +kernel
theorem dX5_find_102 : decode cX5_find 102 = .ok (.getfield 15, 3) := by decide +kernel
theorem dX5_find_105 : decode cX5_find 105 = .ok (.iload_n 2, 1) := by decide +kernel
theorem dX5_find_106 : decode cX5_find 106 = .ok (.i2l, 1) := by decide +kernel
theorem dX5_find_107 : decode cX5_find 107 = .ok (.invokevirtual 33, 3) := by decide +kernel
theorem dX5_find_110 : decode cX5_find 110 = .ok (.ifCond .eq 11, 3) := by decide +kernel
theorem dX5_find_113 : decode cX5_find 113 = .ok (.aload_n 0, 1) := by decide +kernel
theorem dX5_find_114 : decode cX5_find 114 = .ok (.iload_n 2, 1) := by decide +kernel
theorem dX5_find_115 : decode cX5_find 115 = .ok (.invokevirtual 39, 3) := by decide +kernel
theorem dX5_find_118 : decode cX5_find 118 = .ok (.goto 12, 3) := by decide +kernel
theorem dX5_find_121 : decode cX5_find 121 = .ok (.aload_n 0, 1) := by decide +kernel
theorem dX5_find_122 : decode cX5_find 122 = .ok (.aload_n 0, 1) := by decide +kernel
theorem dX5_find_123 : decode cX5_find 123 = .ok (.iload_n 2, 1) := by decide +kernel
theorem dX5_find_124 : decode cX5_find 124 = .ok (.invokevirtual 43, 3) := by decide +kernel
theorem dX5_find_127 : decode cX5_find 127 = .ok (.invokevirtual 47, 3) := by decide +kernel
theorem dX5_find_130 : decode cX5_find 130 = .ok (.iinc 2 1, 3) := by decide +kernel
theorem dX5_find_133 : decode cX5_find 133 = .ok (.goto (-59), 3) := by decide +kernel
theorem dX5_find_136 : decode cX5_find 136 = .ok (.return_, 1) := by decide +kernel
def uXI43 : Nat → Nat → Int32 := q_up (q_up (q_up (q_up (q_up zI6 67 0 1) 67 3 0) 67 1 0) 67 2 0) 68 0 0
def uXI44 : Nat → Nat → Int32 := q_up uXI43 38 2 0
def uXI45 : Nat → Nat → Int32 := q_up (q_up (q_up (q_up (q_up uXI44 38 2 1) 39 0 0) 40 0 0) 41 0 (-1)) 42 0 (-1)
set_option maxRecDepth 20000 in
theorem uX_X4_make_35 : q_met mX4_make (q_sX uXI44 zJ1) [.ref 38, .int 0, .int (-1), .int (-1)] (fun s r => s = q_sX uXI45 zJ1 ∧ r = some (.int 0)) := by
  refine q_enter (by decide) (Nat.le_of_ble_eq_true rfl) ?_
  refine q_aload_n dX4_make_0 rfl ?_
  refine q_getf (c := 4) (n := 0) (k := 2) (v := .int 0) dX4_make_1 rfl (by decide) (by decide) fX4_33 rfl ?_
  refine q_iz_lt (tgt := 17) (a := 0) dX4_make_4 (by decide) rfl (fun h => absurd h (by decide)) (fun _ => ?_)
  refine q_aload_n dX4_make_7 rfl ?_
  refine q_getf (c := 4) (n := 0) (k := 2) (v := .int 0) dX4_make_8 rfl (by decide) (by decide) fX4_33 rfl ?_
  refine q_si (v := 5602) dX4_make_11 rfl ?_
  refine q_cz_lt (tgt := 19) (a := 0) (b := 5602) dX4_make_14 (by decide) rfl rfl (fun _ => ?_) (fun h => absurd h (by decide))
  refine q_aload_n dX4_make_19 rfl ?_
  refine q_getf (c := 4) (n := 0) (k := 2) (v := .int 0) dX4_make_20 rfl (by decide) (by decide) fX4_33 rfl ?_
  refine q_istore dX4_make_23 (Nat.le_of_ble_eq_true rfl) ?_
  refine q_aload_n dX4_make_25 rfl ?_
  refine q_dup dX4_make_26 rfl ?_
  refine q_getf (c := 4) (n := 0) (k := 2) (v := .int 0) dX4_make_27 rfl (by decide) (by decide) fX4_33 rfl ?_
  refine q_ic (v := 1) dX4_make_30 rfl ?_
  refine q_iadd dX4_make_31 ?_
  refine q_topI (v := 1) rfl ?_
  refine q_putI (c := 4) (n := 0) (k := 2) dX4_make_32 rfl (by decide) (by decide) fX4_33 rfl rfl ?_
  show q_K _ (q_sX (q_up uXI44 38 2 1) zJ1) _ _ _ _ _ _
  refine q_aload_n dX4_make_35 rfl ?_
  refine q_getR (c := 4) (n := 0) (k := 3) (a := 39) dX4_make_36 rfl (by decide) (by decide) fX4_11 rfl rfl ?_
  refine q_iload dX4_make_39 rfl ?_
  refine q_iload dX4_make_41 rfl ?_
  refine q_iast (n := 5602) (j := 0) dX4_make_43 rfl rfl (by decide) ?_
  show q_K _ (q_sX (q_up (q_up uXI44 38 2 1) 39 0 0) zJ1) _ _ _ _ _ _
  refine q_aload_n dX4_make_44 rfl ?_
  refine q_getR (c := 4) (n := 0) (k := 4) (a := 40) dX4_make_45 rfl (by decide) (by decide) fX4_15 rfl rfl ?_
  refine q_iload dX4_make_48 rfl ?_
  refine q_iload_n dX4_make_50 rfl ?_
  refine q_iast (n := 5602) (j := 0) dX4_make_51 rfl rfl (by decide) ?_
  show q_K _ (q_sX (q_up (q_up (q_up uXI44 38 2 1) 39 0 0) 40 0 0) zJ1) _ _ _ _ _ _
  refine q_aload_n dX4_make_52 rfl ?_
  refine q_getR (c := 4) (n := 0) (k := 5) (a := 41) dX4_make_53 rfl (by decide) (by decide) fX4_18 rfl rfl ?_
  refine q_iload dX4_make_56 rfl ?_
  refine q_iload_n dX4_make_58 rfl ?_
  refine q_iast (n := 5602) (j := 0) dX4_make_59 rfl rfl (by decide) ?_
  show q_K _ (q_sX (q_up (q_up (q_up (q_up uXI44 38 2 1) 39 0 0) 40 0 0) 41 0 (-1)) zJ1) _ _ _ _ _ _
  refine q_aload_n dX4_make_60 rfl ?_
  refine q_getR (c := 4) (n := 0) (k := 6) (a := 42) dX4_make_61 rfl (by decide) (by decide) fX4_21 rfl rfl ?_
  refine q_iload dX4_make_64 rfl ?_
  refine q_iload_n dX4_make_66 rfl ?_
  refine q_iast (n := 5602) (j := 0) dX4_make_67 rfl rfl (by decide) ?_
  show q_K _ (q_sX (q_up (q_up (q_up (q_up (q_up uXI44 38 2 1) 39 0 0) 40 0 0) 41 0 (-1)) 42 0 (-1)) zJ1) _ _ _ _ _ _
  refine q_iload dX4_make_68 rfl ?_
  show q_K _ (q_sX uXI45 zJ1) _ _ _ _ _ _
  refine q_iret dX4_make_70 rfl ?_
  exact ⟨rfl, rfl⟩
def uXI46 : Nat → Nat → Int32 := q_up uXI45 38 0 0
def uXI47 : Nat → Nat → Int32 := q_up (q_up (q_up (q_up (q_up uXI46 38 2 2) 39 1 1) 40 1 1) 41 1 (-1)) 42 1 (-1)
set_option maxRecDepth 20000 in
theorem uX_X4_make_36 : q_met mX4_make (q_sX uXI46 zJ1) [.ref 38, .int 1, .int (-1), .int (-1)] (fun s r => s = q_sX uXI47 zJ1 ∧ r = some (.int 1)) := by
  refine q_enter (by decide) (Nat.le_of_ble_eq_true rfl) ?_
  refine q_aload_n dX4_make_0 rfl ?_
  refine q_getf (c := 4) (n := 0) (k := 2) (v := .int 1) dX4_make_1 rfl (by decide) (by decide) fX4_33 rfl ?_
  refine q_iz_lt (tgt := 17) (a := 1) dX4_make_4 (by decide) rfl (fun h => absurd h (by decide)) (fun _ => ?_)
  refine q_aload_n dX4_make_7 rfl ?_
  refine q_getf (c := 4) (n := 0) (k := 2) (v := .int 1) dX4_make_8 rfl (by decide) (by decide) fX4_33 rfl ?_
  refine q_si (v := 5602) dX4_make_11 rfl ?_
  refine q_cz_lt (tgt := 19) (a := 1) (b := 5602) dX4_make_14 (by decide) rfl rfl (fun _ => ?_) (fun h => absurd h (by decide))
  refine q_aload_n dX4_make_19 rfl ?_
  refine q_getf (c := 4) (n := 0) (k := 2) (v := .int 1) dX4_make_20 rfl (by decide) (by decide) fX4_33 rfl ?_
  refine q_istore dX4_make_23 (Nat.le_of_ble_eq_true rfl) ?_
  refine q_aload_n dX4_make_25 rfl ?_
  refine q_dup dX4_make_26 rfl ?_
  refine q_getf (c := 4) (n := 0) (k := 2) (v := .int 1) dX4_make_27 rfl (by decide) (by decide) fX4_33 rfl ?_
  refine q_ic (v := 1) dX4_make_30 rfl ?_
  refine q_iadd dX4_make_31 ?_
  refine q_topI (v := 2) rfl ?_
  refine q_putI (c := 4) (n := 0) (k := 2) dX4_make_32 rfl (by decide) (by decide) fX4_33 rfl rfl ?_
  show q_K _ (q_sX (q_up uXI46 38 2 2) zJ1) _ _ _ _ _ _
  refine q_aload_n dX4_make_35 rfl ?_
  refine q_getR (c := 4) (n := 0) (k := 3) (a := 39) dX4_make_36 rfl (by decide) (by decide) fX4_11 rfl rfl ?_
  refine q_iload dX4_make_39 rfl ?_
  refine q_iload dX4_make_41 rfl ?_
  refine q_iast (n := 5602) (j := 1) dX4_make_43 rfl rfl (by decide) ?_
  show q_K _ (q_sX (q_up (q_up uXI46 38 2 2) 39 1 1) zJ1) _ _ _ _ _ _
  refine q_aload_n dX4_make_44 rfl ?_
  refine q_getR (c := 4) (n := 0) (k := 4) (a := 40) dX4_make_45 rfl (by decide) (by decide) fX4_15 rfl rfl ?_
  refine q_iload dX4_make_48 rfl ?_
  refine q_iload_n dX4_make_50 rfl ?_
  refine q_iast (n := 5602) (j := 1) dX4_make_51 rfl rfl (by decide) ?_
  show q_K _ (q_sX (q_up (q_up (q_up uXI46 38 2 2) 39 1 1) 40 1 1) zJ1) _ _ _ _ _ _
  refine q_aload_n dX4_make_52 rfl ?_
  refine q_getR (c := 4) (n := 0) (k := 5) (a := 41) dX4_make_53 rfl (by decide) (by decide) fX4_18 rfl rfl ?_
  refine q_iload dX4_make_56 rfl ?_
  refine q_iload_n dX4_make_58 rfl ?_
  refine q_iast (n := 5602) (j := 1) dX4_make_59 rfl rfl (by decide) ?_
  show q_K _ (q_sX (q_up (q_up (q_up (q_up uXI46 38 2 2) 39 1 1) 40 1 1) 41 1 (-1)) zJ1) _ _ _ _ _ _
  refine q_aload_n dX4_make_60 rfl ?_
  refine q_getR (c := 4) (n := 0) (k := 6) (a := 42) dX4_make_61 rfl (by decide) (by decide) fX4_21 rfl rfl ?_
  refine q_iload dX4_make_64 rfl ?_
  refine q_iload_n dX4_make_66 rfl ?_
  refine q_iast (n := 5602) (j := 1) dX4_make_67 rfl rfl (by decide) ?_
  show q_K _ (q_sX (q_up (q_up (q_up (q_up (q_up uXI46 38 2 2) 39 1 1) 40 1 1) 41 1 (-1)) 42 1 (-1)) zJ1) _ _ _ _ _ _
  refine q_iload dX4_make_68 rfl ?_
  show q_K _ (q_sX uXI47 zJ1) _ _ _ _ _ _
  refine q_iret dX4_make_70 rfl ?_
  exact ⟨rfl, rfl⟩
def uXI48 : Nat → Nat → Int32 := q_up uXI47 38 1 1
set_option maxRecDepth 20000 in
theorem uX_X4_begin_37 : q_met mX4_begin (q_sX uXI43 zJ1) [.ref 38, .int 0] (fun s r => s = q_sX uXI48 zJ1 ∧ r = none) := by
  refine q_enter (by decide) (Nat.le_of_ble_eq_true rfl) ?_
  refine q_aload_n dX4_begin_0 rfl ?_
  refine q_ic (v := 0) dX4_begin_1 rfl ?_
  refine q_putI (c := 4) (n := 0) (k := 2) dX4_begin_2 rfl (by decide) (by decide) fX4_33 rfl rfl ?_
  show q_K _ (q_sX (q_up uXI43 38 2 0) zJ1) _ _ _ _ _ _
  refine q_ic (v := 0) dX4_begin_5 rfl ?_
  refine q_istore_n dX4_begin_6 (Nat.le_of_ble_eq_true rfl) ?_
  refine q_iload_n dX4_begin_7 rfl ?_
  refine q_iload_n dX4_begin_8 rfl ?_
  refine q_cz_ge (tgt := 33) (a := 0) (b := 0) dX4_begin_9 (by decide) rfl rfl (fun _ => ?_) (fun h => absurd h (by decide))
  refine q_aload_n dX4_begin_33 rfl ?_
  refine q_aload_n dX4_begin_34 rfl ?_
  refine q_ic (v := 0) dX4_begin_35 rfl ?_
  refine q_ic (v := (-1)) dX4_begin_36 rfl ?_
  refine q_ic (v := (-1)) dX4_begin_37 rfl ?_
  show q_K _ (q_sX uXI44 zJ1) _ _ _ _ _ _
  refine q_V3 (ci := 4) (n := 0) dX4_begin_38 DX4_make lX4_37 rfl (by decide) rfl rfl rfl rfl uX_X4_make_35 ?_
  rintro _ _ ⟨rfl, rfl⟩
  refine q_putI (c := 4) (n := 0) (k := 0) dX4_begin_41 rfl (by decide) (by decide) fX4_41 rfl rfl ?_
  show q_K _ (q_sX (q_up uXI45 38 0 0) zJ1) _ _ _ _ _ _
  refine q_aload_n dX4_begin_44 rfl ?_
  refine q_aload_n dX4_begin_45 rfl ?_
  refine q_ic (v := 1) dX4_begin_46 rfl ?_
  refine q_ic (v := (-1)) dX4_begin_47 rfl ?_
  refine q_ic (v := (-1)) dX4_begin_48 rfl ?_
  show q_K _ (q_sX uXI46 zJ1) _ _ _ _ _ _
  refine q_V3 (ci := 4) (n := 0) dX4_begin_49 DX4_make lX4_37 rfl (by decide) rfl rfl rfl rfl uX_X4_make_36 ?_
  rintro _ _ ⟨rfl, rfl⟩
  refine q_putI (c := 4) (n := 0) (k := 1) dX4_begin_52 rfl (by decide) (by decide) fX4_44 rfl rfl ?_
  show q_K _ (q_sX (q_up uXI47 38 1 1) zJ1) _ _ _ _ _ _
  show q_K _ (q_sX uXI48 zJ1) _ _ _ _ _ _
  refine q_ret dX4_begin_55 rfl ?_
  exact ⟨rfl, rfl⟩
def uXI49 : Nat → Nat → Int32 := q_up (q_up uXI48 43 0 0) 43 1 0
set_option maxRecDepth 20000 in
theorem uX_X4_chief_38 : q_met mX4_chief (q_sX uXI49 zJ1) [.ref 38, .int (-1)] (fun s r => s = q_sX uXI49 zJ1 ∧ r = some (.int (-1))) := by
  refine q_enter (by decide) (Nat.le_of_ble_eq_true rfl) ?_
  refine q_iload_n dX4_chief_0 rfl ?_
  refine q_iz_lt (tgt := 19) (a := -1) dX4_chief_1 (by decide) rfl (fun _ => ?_) (fun h => absurd h (by decide))
  refine q_ic (v := (-1)) dX4_chief_19 rfl ?_
  refine q_iret dX4_chief_20 rfl ?_
  exact ⟨rfl, rfl⟩
set_option maxRecDepth 20000 in
theorem uX_X4_countPart_39 : q_met mX4_countPart (q_sX uXI49 zJ1) [.ref 38, .int (-1)] (fun s r => s = q_sX uXI49 zJ1 ∧ r = none) := by
  refine q_enter (by decide) (Nat.le_of_ble_eq_true rfl) ?_
  refine q_aload_n dX4_countPart_0 rfl ?_
  refine q_iload_n dX4_countPart_1 rfl ?_
  refine q_V1 (ci := 4) (n := 0) dX4_countPart_2 DX4_chief lX4_48 rfl (by decide) rfl rfl rfl rfl uX_X4_chief_38 ?_
  rintro _ _ ⟨rfl, rfl⟩
  refine q_istore_n dX4_countPart_5 (Nat.le_of_ble_eq_true rfl) ?_
  refine q_iload_n dX4_countPart_6 rfl ?_
  refine q_ic (v := (-1)) dX4_countPart_7 rfl ?_
  refine q_cz_eq (tgt := 21) (a := -1) (b := -1) dX4_countPart_8 (by decide) rfl rfl (fun _ => ?_) (fun h => absurd h (by decide))
  refine q_ret dX4_countPart_21 rfl ?_
  exact ⟨rfl, rfl⟩
def uXI50 : Nat → Nat → Int32 := q_up (q_up uXI49 44 0 0) 44 1 (0 + 1)
set_option maxRecDepth 20000 in
theorem uX_X4_chief_40 : q_met mX4_chief (q_sX uXI50 zJ1) [.ref 38, .int (-1)] (fun s r => s = q_sX uXI50 zJ1 ∧ r = some (.int (-1))) := by
  refine q_enter (by decide) (Nat.le_of_ble_eq_true rfl) ?_
  refine q_iload_n dX4_chief_0 rfl ?_
  refine q_iz_lt (tgt := 19) (a := -1) dX4_chief_1 (by decide) rfl (fun _ => ?_) (fun h => absurd h (by decide))
  refine q_ic (v := (-1)) dX4_chief_19 rfl ?_
  refine q_iret dX4_chief_20 rfl ?_
  exact ⟨rfl, rfl⟩
set_option maxRecDepth 20000 in
theorem uX_X4_takePart_41 : q_met mX4_takePart (q_sX uXI50 zJ1) [.ref 38, .int (-1), .int ((0 + 1) + 1)] (fun s r => s = q_sX uXI50 zJ1 ∧ r = some (.int ((0 + 1) + 1))) := by
  refine q_enter (by decide) (Nat.le_of_ble_eq_true rfl) ?_
  refine q_aload_n dX4_takePart_0 rfl ?_
  refine q_iload_n dX4_takePart_1 rfl ?_
  refine q_V1 (ci := 4) (n := 0) dX4_takePart_2 DX4_chief lX4_48 rfl (by decide) rfl rfl rfl rfl uX_X4_chief_40 ?_
  rintro _ _ ⟨rfl, rfl⟩
  refine q_istore_n dX4_takePart_5 (Nat.le_of_ble_eq_true rfl) ?_
  refine q_iload_n dX4_takePart_6 rfl ?_
  refine q_ic (v := (-1)) dX4_takePart_7 rfl ?_
  refine q_cz_ne (tgt := 13) (a := -1) (b := -1) dX4_takePart_8 (by decide) rfl rfl (fun h => absurd h (by decide)) (fun _ => ?_)
  refine q_iload_n dX4_takePart_11 rfl ?_
  refine q_iret dX4_takePart_12 rfl ?_
  exact ⟨rfl, rfl⟩
set_option maxRecDepth 20000 in
theorem uX_X4_hasRing_42 : q_met mX4_hasRing (q_sX uXI48 zJ1) [.ref 38] (fun s r => s = q_sX uXI50 zJ1 ∧ r = some (.int 0)) := by
  refine q_enter (by decide) (Nat.le_of_ble_eq_true rfl) ?_
  refine q_ic (v := 0) dX4_hasRing_0 rfl ?_
  refine q_istore_n dX4_hasRing_1 (Nat.le_of_ble_eq_true rfl) ?_
  refine q_ic (v := 0) dX4_hasRing_2 rfl ?_
  refine q_istore_n dX4_hasRing_3 (Nat.le_of_ble_eq_true rfl) ?_
  refine q_iload_n dX4_hasRing_4 rfl ?_
  refine q_aload_n dX4_hasRing_5 rfl ?_
  refine q_getf (c := 4) (n := 0) (k := 2) (v := .int 2) dX4_hasRing_6 rfl (by decide) (by decide) fX4_33 rfl ?_
  refine q_cz_ge (tgt := 32) (a := 0) (b := 2) dX4_hasRing_9 (by decide) rfl rfl (fun h => absurd h (by decide)) (fun _ => ?_)
  refine q_iload_n dX4_hasRing_12 rfl ?_
  refine q_si (v := 5602) dX4_hasRing_13 rfl ?_
  refine q_cz_ge (tgt := 32) (a := 0) (b := 5602) dX4_hasRing_16 (by decide) rfl rfl (fun h => absurd h (by decide)) (fun _ => ?_)
  refine q_aload_n dX4_hasRing_19 rfl ?_
  refine q_getR (c := 4) (n := 0) (k := 7) (a := 43) dX4_hasRing_20 rfl (by decide) (by decide) fX4_24 rfl rfl ?_
  refine q_iload_n dX4_hasRing_23 rfl ?_
  refine q_ic (v := 0) dX4_hasRing_24 rfl ?_
  refine q_iast (n := 5602) (j := 0) dX4_hasRing_25 rfl rfl (by decide) ?_
  show q_K _ (q_sX (q_up uXI48 43 0 0) zJ1) _ _ _ _ _ _
  refine q_inc (v := 1) dX4_hasRing_26 rfl (Nat.le_of_ble_eq_true rfl) rfl ?_
  refine q_goto (tgt := 4) dX4_hasRing_29 (by decide) ?_
  refine q_iload_n dX4_hasRing_4 rfl ?_
  refine q_aload_n dX4_hasRing_5 rfl ?_
  refine q_getf (c := 4) (n := 0) (k := 2) (v := .int 2) dX4_hasRing_6 rfl (by decide) (by decide) fX4_33 rfl ?_
  refine q_cz_ge (tgt := 32) (a := 1) (b := 2) dX4_hasRing_9 (by decide) rfl rfl (fun h => absurd h (by decide)) (fun _ => ?_)
  refine q_iload_n dX4_hasRing_12 rfl ?_
  refine q_si (v := 5602) dX4_hasRing_13 rfl ?_
  refine q_cz_ge (tgt := 32) (a := 1) (b := 5602) dX4_hasRing_16 (by decide) rfl rfl (fun h => absurd h (by decide)) (fun _ => ?_)
  refine q_aload_n dX4_hasRing_19 rfl ?_
  refine q_getR (c := 4) (n := 0) (k := 7) (a := 43) dX4_hasRing_20 rfl (by decide) (by decide) fX4_24 rfl rfl ?_
  refine q_iload_n dX4_hasRing_23 rfl ?_
  refine q_ic (v := 0) dX4_hasRing_24 rfl ?_
  refine q_iast (n := 5602) (j := 1) dX4_hasRing_25 rfl rfl (by decide) ?_
  show q_K _ (q_sX (q_up (q_up uXI48 43 0 0) 43 1 0) zJ1) _ _ _ _ _ _
  refine q_inc (v := 1) dX4_hasRing_26 rfl (Nat.le_of_ble_eq_true rfl) rfl ?_
  refine q_goto (tgt := 4) dX4_hasRing_29 (by decide) ?_
  refine q_iload_n dX4_hasRing_4 rfl ?_
  refine q_aload_n dX4_hasRing_5 rfl ?_
  refine q_getf (c := 4) (n := 0) (k := 2) (v := .int 2) dX4_hasRing_6 rfl (by decide) (by decide) fX4_33 rfl ?_
  refine q_cz_ge (tgt := 32) (a := 2) (b := 2) dX4_hasRing_9 (by decide) rfl rfl (fun _ => ?_) (fun h => absurd h (by decide))
  refine q_ic (v := 0) dX4_hasRing_32 rfl ?_
  refine q_istore_n dX4_hasRing_33 (Nat.le_of_ble_eq_true rfl) ?_
  refine q_iload_n dX4_hasRing_34 rfl ?_
  refine q_aload_n dX4_hasRing_35 rfl ?_
  refine q_getf (c := 4) (n := 0) (k := 2) (v := .int 2) dX4_hasRing_36 rfl (by decide) (by decide) fX4_33 rfl ?_
  refine q_cz_ge (tgt := 88) (a := 0) (b := 2) dX4_hasRing_39 (by decide) rfl rfl (fun h => absurd h (by decide)) (fun _ => ?_)
  refine q_iload_n dX4_hasRing_42 rfl ?_
  refine q_si (v := 5602) dX4_hasRing_43 rfl ?_
  refine q_cz_ge (tgt := 88) (a := 0) (b := 5602) dX4_hasRing_46 (by decide) rfl rfl (fun h => absurd h (by decide)) (fun _ => ?_)
  refine q_aload_n dX4_hasRing_49 rfl ?_
  refine q_getR (c := 4) (n := 0) (k := 3) (a := 39) dX4_hasRing_50 rfl (by decide) (by decide) fX4_11 rfl rfl ?_
  refine q_iload_n dX4_hasRing_53 rfl ?_
  refine q_iald (n := 5602) (j := 0) dX4_hasRing_54 rfl rfl (by decide) ?_
  refine q_topI (v := 0) rfl ?_
  refine q_iload_n dX4_hasRing_55 rfl ?_
  refine q_cz_ne (tgt := 82) (a := 0) (b := 0) dX4_hasRing_56 (by decide) rfl rfl (fun h => absurd h (by decide)) (fun _ => ?_)
  refine q_inc (v := 1) dX4_hasRing_59 rfl (Nat.le_of_ble_eq_true rfl) rfl ?_
  refine q_aload_n dX4_hasRing_62 rfl ?_
  refine q_aload_n dX4_hasRing_63 rfl ?_
  refine q_getR (c := 4) (n := 0) (k := 5) (a := 41) dX4_hasRing_64 rfl (by decide) (by decide) fX4_18 rfl rfl ?_
  refine q_iload_n dX4_hasRing_67 rfl ?_
  refine q_iald (n := 5602) (j := 0) dX4_hasRing_68 rfl rfl (by decide) ?_
  refine q_topI (v := (-1)) rfl ?_
  show q_K _ (q_sX uXI49 zJ1) _ _ _ _ _ _
  refine q_V1 (ci := 4) (n := 0) dX4_hasRing_69 DX4_countPart lX4_58 rfl (by decide) rfl rfl rfl rfl uX_X4_countPart_39 ?_
  rintro _ _ ⟨rfl, rfl⟩
  refine q_aload_n dX4_hasRing_72 rfl ?_
  refine q_aload_n dX4_hasRing_73 rfl ?_
  refine q_getR (c := 4) (n := 0) (k := 6) (a := 42) dX4_hasRing_74 rfl (by decide) (by decide) fX4_21 rfl rfl ?_
  refine q_iload_n dX4_hasRing_77 rfl ?_
  refine q_iald (n := 5602) (j := 0) dX4_hasRing_78 rfl rfl (by decide) ?_
  refine q_topI (v := (-1)) rfl ?_
  refine q_V1 (ci := 4) (n := 0) dX4_hasRing_79 DX4_countPart lX4_58 rfl (by decide) rfl rfl rfl rfl uX_X4_countPart_39 ?_
  rintro _ _ ⟨rfl, rfl⟩
  refine q_inc (v := 1) dX4_hasRing_82 rfl (Nat.le_of_ble_eq_true rfl) rfl ?_
  refine q_goto (tgt := 34) dX4_hasRing_85 (by decide) ?_
  refine q_iload_n dX4_hasRing_34 rfl ?_
  refine q_aload_n dX4_hasRing_35 rfl ?_
  refine q_getf (c := 4) (n := 0) (k := 2) (v := .int 2) dX4_hasRing_36 rfl (by decide) (by decide) fX4_33 rfl ?_
  refine q_cz_ge (tgt := 88) (a := 1) (b := 2) dX4_hasRing_39 (by decide) rfl rfl (fun h => absurd h (by decide)) (fun _ => ?_)
  refine q_iload_n dX4_hasRing_42 rfl ?_
  refine q_si (v := 5602) dX4_hasRing_43 rfl ?_
  refine q_cz_ge (tgt := 88) (a := 1) (b := 5602) dX4_hasRing_46 (by decide) rfl rfl (fun h => absurd h (by decide)) (fun _ => ?_)
  refine q_aload_n dX4_hasRing_49 rfl ?_
  refine q_getR (c := 4) (n := 0) (k := 3) (a := 39) dX4_hasRing_50 rfl (by decide) (by decide) fX4_11 rfl rfl ?_
  refine q_iload_n dX4_hasRing_53 rfl ?_
  refine q_iald (n := 5602) (j := 1) dX4_hasRing_54 rfl rfl (by decide) ?_
  refine q_topI (v := 1) rfl ?_
  refine q_iload_n dX4_hasRing_55 rfl ?_
  refine q_cz_ne (tgt := 82) (a := 1) (b := 1) dX4_hasRing_56 (by decide) rfl rfl (fun h => absurd h (by decide)) (fun _ => ?_)
  refine q_inc (v := 1) dX4_hasRing_59 rfl (Nat.le_of_ble_eq_true rfl) rfl ?_
  refine q_aload_n dX4_hasRing_62 rfl ?_
  refine q_aload_n dX4_hasRing_63 rfl ?_
  refine q_getR (c := 4) (n := 0) (k := 5) (a := 41) dX4_hasRing_64 rfl (by decide) (by decide) fX4_18 rfl rfl ?_
  refine q_iload_n dX4_hasRing_67 rfl ?_
  refine q_iald (n := 5602) (j := 1) dX4_hasRing_68 rfl rfl (by decide) ?_
  refine q_topI (v := (-1)) rfl ?_
  refine q_V1 (ci := 4) (n := 0) dX4_hasRing_69 DX4_countPart lX4_58 rfl (by decide) rfl rfl rfl rfl uX_X4_countPart_39 ?_
  rintro _ _ ⟨rfl, rfl⟩
  refine q_aload_n dX4_hasRing_72 rfl ?_
  refine q_aload_n dX4_hasRing_73 rfl ?_
  refine q_getR (c := 4) (n := 0) (k := 6) (a := 42) dX4_hasRing_74 rfl (by decide) (by decide) fX4_21 rfl rfl ?_
  refine q_iload_n dX4_hasRing_77 rfl ?_
  refine q_iald (n := 5602) (j := 1) dX4_hasRing_78 rfl rfl (by decide) ?_
  refine q_topI (v := (-1)) rfl ?_
  refine q_V1 (ci := 4) (n := 0) dX4_hasRing_79 DX4_countPart lX4_58 rfl (by decide) rfl rfl rfl rfl uX_X4_countPart_39 ?_
  rintro _ _ ⟨rfl, rfl⟩
  refine q_inc (v := 1) dX4_hasRing_82 rfl (Nat.le_of_ble_eq_true rfl) rfl ?_
  refine q_goto (tgt := 34) dX4_hasRing_85 (by decide) ?_
  refine q_iload_n dX4_hasRing_34 rfl ?_
  refine q_aload_n dX4_hasRing_35 rfl ?_
  refine q_getf (c := 4) (n := 0) (k := 2) (v := .int 2) dX4_hasRing_36 rfl (by decide) (by decide) fX4_33 rfl ?_
  refine q_cz_ge (tgt := 88) (a := 2) (b := 2) dX4_hasRing_39 (by decide) rfl rfl (fun _ => ?_) (fun h => absurd h (by decide))
  refine q_ic (v := 0) dX4_hasRing_88 rfl ?_
  refine q_istore_n dX4_hasRing_89 (Nat.le_of_ble_eq_true rfl) ?_
  refine q_ic (v := 0) dX4_hasRing_90 rfl ?_
  refine q_istore_n dX4_hasRing_91 (Nat.le_of_ble_eq_true rfl) ?_
  refine q_iload_n dX4_hasRing_92 rfl ?_
  refine q_aload_n dX4_hasRing_93 rfl ?_
  refine q_getf (c := 4) (n := 0) (k := 2) (v := .int 2) dX4_hasRing_94 rfl (by decide) (by decide) fX4_33 rfl ?_
  refine q_cz_ge (tgt := 142) (a := 0) (b := 2) dX4_hasRing_97 (by decide) rfl rfl (fun h => absurd h (by decide)) (fun _ => ?_)
  refine q_iload_n dX4_hasRing_100 rfl ?_
  refine q_si (v := 5602) dX4_hasRing_101 rfl ?_
  refine q_cz_ge (tgt := 142) (a := 0) (b := 5602) dX4_hasRing_104 (by decide) rfl rfl (fun h => absurd h (by decide)) (fun _ => ?_)
  refine q_aload_n dX4_hasRing_107 rfl ?_
  refine q_getR (c := 4) (n := 0) (k := 3) (a := 39) dX4_hasRing_108 rfl (by decide) (by decide) fX4_11 rfl rfl ?_
  refine q_iload_n dX4_hasRing_111 rfl ?_
  refine q_iald (n := 5602) (j := 0) dX4_hasRing_112 rfl rfl (by decide) ?_
  refine q_topI (v := 0) rfl ?_
  refine q_iload_n dX4_hasRing_113 rfl ?_
  refine q_cz_ne (tgt := 136) (a := 0) (b := 0) dX4_hasRing_114 (by decide) rfl rfl (fun h => absurd h (by decide)) (fun _ => ?_)
  refine q_aload_n dX4_hasRing_117 rfl ?_
  refine q_getR (c := 4) (n := 0) (k := 7) (a := 43) dX4_hasRing_118 rfl (by decide) (by decide) fX4_24 rfl rfl ?_
  refine q_iload_n dX4_hasRing_121 rfl ?_
  refine q_iald (n := 5602) (j := 0) dX4_hasRing_122 rfl rfl (by decide) ?_
  refine q_topI (v := 0) rfl ?_
  refine q_iz_ne (tgt := 136) (a := 0) dX4_hasRing_123 (by decide) rfl (fun h => absurd h (by decide)) (fun _ => ?_)
  refine q_aload_n dX4_hasRing_126 rfl ?_
  refine q_getR (c := 4) (n := 0) (k := 8) (a := 44) dX4_hasRing_127 rfl (by decide) (by decide) fX4_27 rfl rfl ?_
  refine q_iload_n dX4_hasRing_130 rfl ?_
  refine q_iload_n dX4_hasRing_131 rfl ?_
  refine q_iast (n := 5604) (j := 0) dX4_hasRing_132 rfl rfl (by decide) ?_
  show q_K _ (q_sX (q_up uXI49 44 0 0) zJ1) _ _ _ _ _ _
  refine q_inc (v := 1) dX4_hasRing_133 rfl (Nat.le_of_ble_eq_true rfl) rfl ?_
  refine q_inc (v := 1) dX4_hasRing_136 rfl (Nat.le_of_ble_eq_true rfl) rfl ?_
  refine q_goto (tgt := 92) dX4_hasRing_139 (by decide) ?_
  refine q_iload_n dX4_hasRing_92 rfl ?_
  refine q_aload_n dX4_hasRing_93 rfl ?_
  refine q_getf (c := 4) (n := 0) (k := 2) (v := .int 2) dX4_hasRing_94 rfl (by decide) (by decide) fX4_33 rfl ?_
  refine q_cz_ge (tgt := 142) (a := 1) (b := 2) dX4_hasRing_97 (by decide) rfl rfl (fun h => absurd h (by decide)) (fun _ => ?_)
  refine q_iload_n dX4_hasRing_100 rfl ?_
  refine q_si (v := 5602) dX4_hasRing_101 rfl ?_
  refine q_cz_ge (tgt := 142) (a := 1) (b := 5602) dX4_hasRing_104 (by decide) rfl rfl (fun h => absurd h (by decide)) (fun _ => ?_)
  refine q_aload_n dX4_hasRing_107 rfl ?_
  refine q_getR (c := 4) (n := 0) (k := 3) (a := 39) dX4_hasRing_108 rfl (by decide) (by decide) fX4_11 rfl rfl ?_
  refine q_iload_n dX4_hasRing_111 rfl ?_
  refine q_iald (n := 5602) (j := 1) dX4_hasRing_112 rfl rfl (by decide) ?_
  refine q_topI (v := 1) rfl ?_
  refine q_iload_n dX4_hasRing_113 rfl ?_
  refine q_cz_ne (tgt := 136) (a := 1) (b := 1) dX4_hasRing_114 (by decide) rfl rfl (fun h => absurd h (by decide)) (fun _ => ?_)
  refine q_aload_n dX4_hasRing_117 rfl ?_
  refine q_getR (c := 4) (n := 0) (k := 7) (a := 43) dX4_hasRing_118 rfl (by decide) (by decide) fX4_24 rfl rfl ?_
  refine q_iload_n dX4_hasRing_121 rfl ?_
  refine q_iald (n := 5602) (j := 1) dX4_hasRing_122 rfl rfl (by decide) ?_
  refine q_topI (v := 0) rfl ?_
  refine q_iz_ne (tgt := 136) (a := 0) dX4_hasRing_123 (by decide) rfl (fun h => absurd h (by decide)) (fun _ => ?_)
  refine q_aload_n dX4_hasRing_126 rfl ?_
  refine q_getR (c := 4) (n := 0) (k := 8) (a := 44) dX4_hasRing_127 rfl (by decide) (by decide) fX4_27 rfl rfl ?_
  refine q_iload_n dX4_hasRing_130 rfl ?_
  refine q_iload_n dX4_hasRing_131 rfl ?_
  refine q_iast (n := 5604) (j := 1) dX4_hasRing_132 rfl rfl (by decide) ?_
  show q_K _ (q_sX (q_up (q_up uXI49 44 0 0) 44 1 (0 + 1)) zJ1) _ _ _ _ _ _
  refine q_inc (v := 1) dX4_hasRing_133 rfl (Nat.le_of_ble_eq_true rfl) rfl ?_
  refine q_inc (v := 1) dX4_hasRing_136 rfl (Nat.le_of_ble_eq_true rfl) rfl ?_
  refine q_goto (tgt := 92) dX4_hasRing_139 (by decide) ?_
  refine q_iload_n dX4_hasRing_92 rfl ?_
  refine q_aload_n dX4_hasRing_93 rfl ?_
  refine q_getf (c := 4) (n := 0) (k := 2) (v := .int 2) dX4_hasRing_94 rfl (by decide) (by decide) fX4_33 rfl ?_
  refine q_cz_ge (tgt := 142) (a := 2) (b := 2) dX4_hasRing_97 (by decide) rfl rfl (fun _ => ?_) (fun h => absurd h (by decide))
  refine q_ic (v := 0) dX4_hasRing_142 rfl ?_
  refine q_istore_n dX4_hasRing_143 (Nat.le_of_ble_eq_true rfl) ?_
  refine q_iload_n dX4_hasRing_144 rfl ?_
  refine q_iload_n dX4_hasRing_145 rfl ?_
  refine q_cz_ge (tgt := 196) (a := 0) (b := 2) dX4_hasRing_146 (by decide) rfl rfl (fun h => absurd h (by decide)) (fun _ => ?_)
  refine q_iload_n dX4_hasRing_149 rfl ?_
  refine q_si (v := 5602) dX4_hasRing_150 rfl ?_
  refine q_cz_ge (tgt := 196) (a := 0) (b := 5602) dX4_hasRing_153 (by decide) rfl rfl (fun h => absurd h (by decide)) (fun _ => ?_)
  refine q_aload_n dX4_hasRing_156 rfl ?_
  refine q_aload_n dX4_hasRing_157 rfl ?_
  refine q_getR (c := 4) (n := 0) (k := 5) (a := 41) dX4_hasRing_158 rfl (by decide) (by decide) fX4_18 rfl rfl ?_
  refine q_aload_n dX4_hasRing_161 rfl ?_
  refine q_getR (c := 4) (n := 0) (k := 8) (a := 44) dX4_hasRing_162 rfl (by decide) (by decide) fX4_27 rfl rfl ?_
  refine q_iload_n dX4_hasRing_165 rfl ?_
  refine q_iald (n := 5604) (j := 0) dX4_hasRing_166 rfl rfl (by decide) ?_
  refine q_topI (v := 0) rfl ?_
  refine q_iald (n := 5602) (j := 0) dX4_hasRing_167 rfl rfl (by decide) ?_
  refine q_topI (v := (-1)) rfl ?_
  refine q_iload_n dX4_hasRing_168 rfl ?_
  show q_K _ (q_sX uXI50 zJ1) _ _ _ _ _ _
  refine q_V2 (ci := 4) (n := 0) dX4_hasRing_169 DX4_takePart lX4_62 rfl (by decide) rfl rfl rfl rfl uX_X4_takePart_41 ?_
  rintro _ _ ⟨rfl, rfl⟩
  refine q_istore_n dX4_hasRing_172 (Nat.le_of_ble_eq_true rfl) ?_
  refine q_aload_n dX4_hasRing_173 rfl ?_
  refine q_aload_n dX4_hasRing_174 rfl ?_
  refine q_getR (c := 4) (n := 0) (k := 6) (a := 42) dX4_hasRing_175 rfl (by decide) (by decide) fX4_21 rfl rfl ?_
  refine q_aload_n dX4_hasRing_178 rfl ?_
  refine q_getR (c := 4) (n := 0) (k := 8) (a := 44) dX4_hasRing_179 rfl (by decide) (by decide) fX4_27 rfl rfl ?_
  refine q_iload_n dX4_hasRing_182 rfl ?_
  refine q_iald (n := 5604) (j := 0) dX4_hasRing_183 rfl rfl (by decide) ?_
  refine q_topI (v := 0) rfl ?_
  refine q_iald (n := 5602) (j := 0) dX4_hasRing_184 rfl rfl (by decide) ?_
  refine q_topI (v := (-1)) rfl ?_
  refine q_iload_n dX4_hasRing_185 rfl ?_
  refine q_V2 (ci := 4) (n := 0) dX4_hasRing_186 DX4_takePart lX4_62 rfl (by decide) rfl rfl rfl rfl uX_X4_takePart_41 ?_
  rintro _ _ ⟨rfl, rfl⟩
  refine q_istore_n dX4_hasRing_189 (Nat.le_of_ble_eq_true rfl) ?_
  refine q_inc (v := 1) dX4_hasRing_190 rfl (Nat.le_of_ble_eq_true rfl) rfl ?_
  refine q_goto (tgt := 144) dX4_hasRing_193 (by decide) ?_
  refine q_iload_n dX4_hasRing_144 rfl ?_
  refine q_iload_n dX4_hasRing_145 rfl ?_
  refine q_cz_ge (tgt := 196) (a := 1) (b := 2) dX4_hasRing_146 (by decide) rfl rfl (fun h => absurd h (by decide)) (fun _ => ?_)
  refine q_iload_n dX4_hasRing_149 rfl ?_
  refine q_si (v := 5602) dX4_hasRing_150 rfl ?_
  refine q_cz_ge (tgt := 196) (a := 1) (b := 5602) dX4_hasRing_153 (by decide) rfl rfl (fun h => absurd h (by decide)) (fun _ => ?_)
  refine q_aload_n dX4_hasRing_156 rfl ?_
  refine q_aload_n dX4_hasRing_157 rfl ?_
  refine q_getR (c := 4) (n := 0) (k := 5) (a := 41) dX4_hasRing_158 rfl (by decide) (by decide) fX4_18 rfl rfl ?_
  refine q_aload_n dX4_hasRing_161 rfl ?_
  refine q_getR (c := 4) (n := 0) (k := 8) (a := 44) dX4_hasRing_162 rfl (by decide) (by decide) fX4_27 rfl rfl ?_
  refine q_iload_n dX4_hasRing_165 rfl ?_
  refine q_iald (n := 5604) (j := 1) dX4_hasRing_166 rfl rfl (by decide) ?_
  refine q_topI (v := 1) rfl ?_
  refine q_iald (n := 5602) (j := 1) dX4_hasRing_167 rfl rfl (by decide) ?_
  refine q_topI (v := (-1)) rfl ?_
  refine q_iload_n dX4_hasRing_168 rfl ?_
  refine q_V2 (ci := 4) (n := 0) dX4_hasRing_169 DX4_takePart lX4_62 rfl (by decide) rfl rfl rfl rfl uX_X4_takePart_41 ?_
  rintro _ _ ⟨rfl, rfl⟩
  refine q_istore_n dX4_hasRing_172 (Nat.le_of_ble_eq_true rfl) ?_
  refine q_aload_n dX4_hasRing_173 rfl ?_
  refine q_aload_n dX4_hasRing_174 rfl ?_
  refine q_getR (c := 4) (n := 0) (k := 6) (a := 42) dX4_hasRing_175 rfl (by decide) (by decide) fX4_21 rfl rfl ?_
  refine q_aload_n dX4_hasRing_178 rfl ?_
  refine q_getR (c := 4) (n := 0) (k := 8) (a := 44) dX4_hasRing_179 rfl (by decide) (by decide) fX4_27 rfl rfl ?_
  refine q_iload_n dX4_hasRing_182 rfl ?_
  refine q_iald (n := 5604) (j := 1) dX4_hasRing_183 rfl rfl (by decide) ?_
  refine q_topI (v := 1) rfl ?_
  refine q_iald (n := 5602) (j := 1) dX4_hasRing_184 rfl rfl (by decide) ?_
  refine q_topI (v := (-1)) rfl ?_
  refine q_iload_n dX4_hasRing_185 rfl ?_
  refine q_V2 (ci := 4) (n := 0) dX4_hasRing_186 DX4_takePart lX4_62 rfl (by decide) rfl rfl rfl rfl uX_X4_takePart_41 ?_
  rintro _ _ ⟨rfl, rfl⟩
  refine q_istore_n dX4_hasRing_189 (Nat.le_of_ble_eq_true rfl) ?_
  refine q_inc (v := 1) dX4_hasRing_190 rfl (Nat.le_of_ble_eq_true rfl) rfl ?_
  refine q_goto (tgt := 144) dX4_hasRing_193 (by decide) ?_
  refine q_iload_n dX4_hasRing_144 rfl ?_
  refine q_iload_n dX4_hasRing_145 rfl ?_
  refine q_cz_ge (tgt := 196) (a := 2) (b := 2) dX4_hasRing_146 (by decide) rfl rfl (fun _ => ?_) (fun h => absurd h (by decide))
  refine q_iload_n dX4_hasRing_196 rfl ?_
  refine q_iload_n dX4_hasRing_197 rfl ?_
  refine q_cz_ge (tgt := 205) (a := 2) (b := 2) dX4_hasRing_198 (by decide) rfl rfl (fun _ => ?_) (fun h => absurd h (by decide))
  refine q_ic (v := 0) dX4_hasRing_205 rfl ?_
  refine q_zret dX4_hasRing_206 rfl (Or.inl rfl) ?_
  exact ⟨rfl, rfl⟩
set_option maxRecDepth 20000 in
theorem uX_X0_clashOf_43 : q_met mX0_clashOf (q_sX uXI43 zJ1) [.ref 51, .long 0] (fun s r => s = q_sX uXI50 zJ1 ∧ r = some (.int 0)) := by
  refine q_enter (by decide) (Nat.le_of_ble_eq_true rfl) ?_
  refine q_aload_n dX0_clashOf_0 rfl ?_
  refine q_getR (c := 0) (n := 0) (k := 7) (a := 38) dX0_clashOf_1 rfl (by decide) (by decide) fX0_37 rfl rfl ?_
  refine q_ic (v := 2) dX0_clashOf_4 rfl ?_
  refine q_aload_n dX0_clashOf_5 rfl ?_
  refine q_getf (c := 0) (n := 0) (k := 0) (v := .int 0) dX0_clashOf_6 rfl (by decide) (by decide) fX0_41 rfl ?_
  refine q_imul dX0_clashOf_9 ?_
  refine q_topI (v := 0) rfl ?_
  refine q_V1 (ci := 4) (n := 0) dX0_clashOf_10 DX4_begin lX0_144 rfl (by decide) rfl rfl rfl rfl uX_X4_begin_37 ?_
  rintro _ _ ⟨rfl, rfl⟩
  refine q_ic (v := 0) dX0_clashOf_13 rfl ?_
  refine q_istore_n dX0_clashOf_14 (Nat.le_of_ble_eq_true rfl) ?_
  refine q_iload_n dX0_clashOf_15 rfl ?_
  refine q_aload_n dX0_clashOf_16 rfl ?_
  refine q_getf (c := 0) (n := 0) (k := 0) (v := .int 0) dX0_clashOf_17 rfl (by decide) (by decide) fX0_41 rfl ?_
  refine q_cz_ge (tgt := 61) (a := 0) (b := 0) dX0_clashOf_20 (by decide) rfl rfl (fun _ => ?_) (fun h => absurd h (by decide))
  refine q_aload_n dX0_clashOf_61 rfl ?_
  refine q_getR (c := 0) (n := 0) (k := 7) (a := 38) dX0_clashOf_62 rfl (by decide) (by decide) fX0_37 rfl rfl ?_
  refine q_V0 (ci := 4) (n := 0) dX0_clashOf_65 DX4_hasRing lX0_141 rfl (by decide) rfl rfl rfl rfl uX_X4_hasRing_42 ?_
  rintro _ _ ⟨rfl, rfl⟩
  refine q_zret dX0_clashOf_68 rfl (Or.inl rfl) ?_
  exact ⟨rfl, rfl⟩
theorem dX5_grown_0 : decode cX5_grown 0 = .ok (.iload_n 1, 1) := by decide +kernel
theorem dX5_grown_1 : decode cX5_grown 1 = .ok (.istore_n 2, 1) := by decide +kernel
theorem dX5_grown_2 : decode cX5_grown 2 = .ok (.iconst 0, 1) := by decide +kernel
theorem dX5_grown_3 : decode cX5_grown 3 = .ok (.istore_n 3, 1) := by decide +kernel
theorem dX5_grown_4 : decode cX5_grown 4 = .ok (.iload_n 3, 1) := by decide +kernel
theorem dX5_grown_5 : decode cX5_grown 5 = .ok (.bipush 12, 2) := by decide +kernel
theorem dX5_grown_7 : decode cX5_grown 7 = .ok (.if_icmp .ge 117, 3) := by decide +kernel
theorem dX5_grown_10 : decode cX5_grown 10 = .ok (.iload_n 2, 1) := by decide +kernel
theorem dX5_grown_11 : decode cX5_grown 11 = .ok (.iconst 1, 1) := by decide +kernel
theorem dX5_grown_12 : decode cX5_grown 12 = .ok (.iload_n 3, 1) := by decide +kernel
theorem dX5_grown_13 : decode cX5_grown 13 = .ok (.ishl, 1) := by decide +kernel
theorem dX5_grown_14 : decode cX5_grown 14 = .ok (.ior, 1) := by decide +kernel
theorem dX5_grown_15 : decode cX5_grown 15 = .ok (.istore 4, 2) := by decide +kernel
theorem dX5_grown_17 : decode cX5_grown 17 = .ok (.iload 4, 2) := by decide +kernel
theorem dX5_grown_19 : decode cX5_grown 19 = .ok (.iload_n 2, 1) := by decide +kernel
theorem dX5_grown_20 : decode cX5_grown 20 = .ok (.if_icmp .eq 98, 3) := by decide +kernel
theorem dX5_grown_23 : decode cX5_grown 23 = .ok (.iload 4, 2) := by decide +kernel
theorem dX5_grown_25 : decode cX5_grown 25 = .ok (.aload_n 0, 1) := by decide +kernel
theorem dX5_grown_26 : decode cX5_grown 26 = .ok (.getfield 23, 3) := by decide +kernel
theorem dX5_grown_29 : decode cX5_grown 29 = .ok (.if_icmp .gt 89, 3) := by decide +kernel
theorem dX5_grown_32 : decode cX5_grown 32 = .ok (.iload 4, 2) := by decide +kernel
theorem dX5_grown_34 : decode cX5_grown 34 = .ok (.sipush 4096, 3) := by decide +kernel
theorem dX5_grown_37 : decode cX5_grown 37 = .ok (.if_icmp .lt 6, 3) := by decide +kernel
theorem dX5_grown_40 : decode cX5_grown 40 = .ok (.goto 78, 3) := by decide +kernel
theorem dX5_grown_43 : decode cX5_grown 43 = .ok (.aload_n 0, 1) := by decide +kernel
theorem dX5_grown_44 : decode cX5_grown 44 = .ok (.getfield 11, 3) := by decide +kernel
theorem dX5_grown_47 : decode cX5_grown 47 = .ok (.iload 4, 2) := by decide +kernel
theorem dX5_grown_49 : decode cX5_grown 49 = .ok (.baload, 1) := by decide +kernel
theorem dX5_grown_50 : decode cX5_grown 50 = .ok (.ifCond .eq 7, 3) := by decide +kernel
theorem dX5_grown_53 : decode cX5_grown 53 = .ok (.iconst 1, 1) := by decide +kernel
theorem dX5_grown_54 : decode cX5_grown 54 = .ok (.goto 4, 3) := by decide +kernel
theorem dX5_grown_57 : decode cX5_grown 57 = .ok (.iconst 0, 1) := by decide +kernel
theorem dX5_grown_58 : decode cX5_grown 58 = .ok (.istore 5, 2) := by decide +kernel
theorem dX5_grown_60 : decode cX5_grown 60 = .ok (.aload_n 0, 1) := by decide +kernel
theorem dX5_grown_61 : decode cX5_grown 61 = .ok (.getfield 11, 3) := by decide +kernel
theorem dX5_grown_64 : decode cX5_grown 64 = .ok (.iload 4, 2) := by decide +kernel
theorem dX5_grown_66 : decode cX5_grown 66 = .ok (.baload, 1) := by decide +kernel
theorem dX5_grown_67 : decode cX5_grown 67 = .ok (.iconst 1, 1) := by decide +kernel
theorem dX5_grown_68 : decode cX5_grown 68 = .ok (.if_icmp .eq 14, 3) := by decide +kernel
theorem dX5_grown_71 : decode cX5_grown 71 = .ok (.aload_n 0, 1) := by decide +kernel
theorem dX5_grown_72 : decode cX5_grown 72 = .ok (.getfield 11, 3) := by decide +kernel
theorem dX5_grown_75 : decode cX5_grown 75 = .ok (.iload 4, 2) := by decide +kernel
theorem dX5_grown_77 : decode cX5_grown 77 = .ok (.baload, 1) := by decide +kernel
theorem dX5_grown_78 : decode cX5_grown 78 = .ok (.iconst 4, 1) := by decide +kernel
theorem dX5_grown_79 : decode cX5_grown 79 = .ok (.if_icmp .ne 7, 3) := by decide +kernel
theorem dX5_grown_82 : decode cX5_grown 82 = .ok (.iconst 1, 1) := by decide +kernel
theorem dX5_grown_83 : decode cX5_grown 83 = .ok (.goto 4, 3) := by decide +kernel
theorem dX5_grown_86 : decode cX5_grown 86 = .ok (.iconst 0, 1) := by decide +kernel
theorem dX5_grown_87 : decode cX5_grown 87 = .ok (.istore 6, 2) := by decide +kernel
theorem dX5_grown_89 : decode cX5_grown 89 = .ok (.iload 5, 2) := by decide +kernel
theorem dX5_grown_91 : decode cX5_grown 91 = .ok (.ifCond .eq 11, 3) := by decide +kernel
theorem dX5_grown_94 : decode cX5_grown 94 = .ok (.iload 6, 2) := by decide +kernel
theorem dX5_grown_96 : decode cX5_grown 96 = .ok (.ifCond .eq 22, 3) := by decide +kernel
theorem dX5_grown_99 : decode cX5_grown 99 = .ok (.goto 16, 3) := by decide +kernel
theorem dX5_grown_102 : decode cX5_grown 102 = .ok (.aload_n 0, 1) := by decide +kernel
theorem dX5_grown_103 : decode cX5_grown 103 = .ok (.getfield 15, 3) := by decide +kernel
theorem dX5_grown_106 : decode cX5_grown 106 = .ok (.iload 4, 2) := by decide +kernel
theorem dX5_grown_108 : decode cX5_grown 108 = .ok (.i2l, 1) := by decide +kernel
theorem dX5_grown_109 : decode cX5_grown 109 = .ok (.invokevirtual 33, 3) := by decide +kernel
theorem dX5_grown_112 : decode cX5_grown 112 = .ok (.ifCond .ne 6, 3) := by decide +kernel
theorem dX5_grown_115 : decode cX5_grown 115 = .ok (.iload 4, 2) := by decide +kernel
theorem dX5_grown_117 : decode cX5_grown 117 = .ok (.istore_n 2, 1) := by decide +kernel
theorem dX5_grown_118 : decode cX5_grown 118 = .ok (.iinc 3 1, 3) := by decide +kernel
theorem dX5_grown_121 : decode cX5_grown 121 = .ok (.goto (-117), 3) := by decide +kernel
theorem dX5_grown_124 : decode cX5_grown 124 = .ok (.iload_n 2, 1) := by decide +kernel
theorem dX5_grown_125 : decode cX5_grown 125 = .ok (.ireturn, 1) := by decide +kernel
set_option maxRecDepth 20000 in
theorem uX_X5_grown_44 : q_met mX5_grown (q_sX uXI50 zJ1) [.ref 67, .int 0] (fun s r => s = q_sX uXI50 zJ1 ∧ r = some (.int 0)) := by
  refine q_enter (by decide) (Nat.le_of_ble_eq_true rfl) ?_
  refine q_iload_n dX5_grown_0 rfl ?_
  refine q_istore_n dX5_grown_1 (Nat.le_of_ble_eq_true rfl) ?_
  refine q_ic (v := 0) dX5_grown_2 rfl ?_
  refine q_istore_n dX5_grown_3 (Nat.le_of_ble_eq_true rfl) ?_
  refine q_iload_n dX5_grown_4 rfl ?_
  refine q_bi (v := 12) dX5_grown_5 rfl ?_
  refine q_cz_ge (tgt := 124) (a := 0) (b := 12) dX5_grown_7 (by decide) rfl rfl (fun h => absurd h (by decide)) (fun _ => ?_)
  refine q_iload_n dX5_grown_10 rfl ?_
  refine q_ic (v := 1) dX5_grown_11 rfl ?_
  refine q_iload_n dX5_grown_12 rfl ?_
  refine q_ishl dX5_grown_13 ?_
  refine q_topI (v := 1) rfl ?_
  refine q_ior dX5_grown_14 ?_
  refine q_topI (v := 1) rfl ?_
  refine q_istore dX5_grown_15 (Nat.le_of_ble_eq_true rfl) ?_
  refine q_iload dX5_grown_17 rfl ?_
  refine q_iload_n dX5_grown_19 rfl ?_
  refine q_cz_eq (tgt := 118) (a := 1) (b := 0) dX5_grown_20 (by decide) rfl rfl (fun h => absurd h (by decide)) (fun _ => ?_)
  refine q_iload dX5_grown_23 rfl ?_
  refine q_aload_n dX5_grown_25 rfl ?_
  refine q_getf (c := 5) (n := 0) (k := 3) (v := .int 0) dX5_grown_26 rfl (by decide) (by decide) fX5_23 rfl ?_
  refine q_cz_gt (tgt := 118) (a := 1) (b := 0) dX5_grown_29 (by decide) rfl rfl (fun _ => ?_) (fun h => absurd h (by decide))
  refine q_inc (v := 1) dX5_grown_118 rfl (Nat.le_of_ble_eq_true rfl) rfl ?_
  refine q_goto (tgt := 4) dX5_grown_121 (by decide) ?_
  refine q_iload_n dX5_grown_4 rfl ?_
  refine q_bi (v := 12) dX5_grown_5 rfl ?_
  refine q_cz_ge (tgt := 124) (a := 1) (b := 12) dX5_grown_7 (by decide) rfl rfl (fun h => absurd h (by decide)) (fun _ => ?_)
  refine q_iload_n dX5_grown_10 rfl ?_
  refine q_ic (v := 1) dX5_grown_11 rfl ?_
  refine q_iload_n dX5_grown_12 rfl ?_
  refine q_ishl dX5_grown_13 ?_
  refine q_topI (v := 2) rfl ?_
  refine q_ior dX5_grown_14 ?_
  refine q_topI (v := 2) rfl ?_
  refine q_istore dX5_grown_15 (Nat.le_of_ble_eq_true rfl) ?_
  refine q_iload dX5_grown_17 rfl ?_
  refine q_iload_n dX5_grown_19 rfl ?_
  refine q_cz_eq (tgt := 118) (a := 2) (b := 0) dX5_grown_20 (by decide) rfl rfl (fun h => absurd h (by decide)) (fun _ => ?_)
  refine q_iload dX5_grown_23 rfl ?_
  refine q_aload_n dX5_grown_25 rfl ?_
  refine q_getf (c := 5) (n := 0) (k := 3) (v := .int 0) dX5_grown_26 rfl (by decide) (by decide) fX5_23 rfl ?_
  refine q_cz_gt (tgt := 118) (a := 2) (b := 0) dX5_grown_29 (by decide) rfl rfl (fun _ => ?_) (fun h => absurd h (by decide))
  refine q_inc (v := 1) dX5_grown_118 rfl (Nat.le_of_ble_eq_true rfl) rfl ?_
  refine q_goto (tgt := 4) dX5_grown_121 (by decide) ?_
  refine q_iload_n dX5_grown_4 rfl ?_
  refine q_bi (v := 12) dX5_grown_5 rfl ?_
  refine q_cz_ge (tgt := 124) (a := 2) (b := 12) dX5_grown_7 (by decide) rfl rfl (fun h => absurd h (by decide)) (fun _ => ?_)
  refine q_iload_n dX5_grown_10 rfl ?_
  refine q_ic (v := 1) dX5_grown_11 rfl ?_
  refine q_iload_n dX5_grown_12 rfl ?_
  refine q_ishl dX5_grown_13 ?_
  refine q_topI (v := 4) rfl ?_
  refine q_ior dX5_grown_14 ?_
  refine q_topI (v := 4) rfl ?_
  refine q_istore dX5_grown_15 (Nat.le_of_ble_eq_true rfl) ?_
  refine q_iload dX5_grown_17 rfl ?_
  refine q_iload_n dX5_grown_19 rfl ?_
  refine q_cz_eq (tgt := 118) (a := 4) (b := 0) dX5_grown_20 (by decide) rfl rfl (fun h => absurd h (by decide)) (fun _ => ?_)
  refine q_iload dX5_grown_23 rfl ?_
  refine q_aload_n dX5_grown_25 rfl ?_
  refine q_getf (c := 5) (n := 0) (k := 3) (v := .int 0) dX5_grown_26 rfl (by decide) (by decide) fX5_23 rfl ?_
  refine q_cz_gt (tgt := 118) (a := 4) (b := 0) dX5_grown_29 (by decide) rfl rfl (fun _ => ?_) (fun h => absurd h (by decide))
  refine q_inc (v := 1) dX5_grown_118 rfl (Nat.le_of_ble_eq_true rfl) rfl ?_
  refine q_goto (tgt := 4) dX5_grown_121 (by decide) ?_
  refine q_iload_n dX5_grown_4 rfl ?_
  refine q_bi (v := 12) dX5_grown_5 rfl ?_
  refine q_cz_ge (tgt := 124) (a := 3) (b := 12) dX5_grown_7 (by decide) rfl rfl (fun h => absurd h (by decide)) (fun _ => ?_)
  refine q_iload_n dX5_grown_10 rfl ?_
  refine q_ic (v := 1) dX5_grown_11 rfl ?_
  refine q_iload_n dX5_grown_12 rfl ?_
  refine q_ishl dX5_grown_13 ?_
  refine q_topI (v := 8) rfl ?_
  refine q_ior dX5_grown_14 ?_
  refine q_topI (v := 8) rfl ?_
  refine q_istore dX5_grown_15 (Nat.le_of_ble_eq_true rfl) ?_
  refine q_iload dX5_grown_17 rfl ?_
  refine q_iload_n dX5_grown_19 rfl ?_
  refine q_cz_eq (tgt := 118) (a := 8) (b := 0) dX5_grown_20 (by decide) rfl rfl (fun h => absurd h (by decide)) (fun _ => ?_)
  refine q_iload dX5_grown_23 rfl ?_
  refine q_aload_n dX5_grown_25 rfl ?_
  refine q_getf (c := 5) (n := 0) (k := 3) (v := .int 0) dX5_grown_26 rfl (by decide) (by decide) fX5_23 rfl ?_
  refine q_cz_gt (tgt := 118) (a := 8) (b := 0) dX5_grown_29 (by decide) rfl rfl (fun _ => ?_) (fun h => absurd h (by decide))
  refine q_inc (v := 1) dX5_grown_118 rfl (Nat.le_of_ble_eq_true rfl) rfl ?_
  refine q_goto (tgt := 4) dX5_grown_121 (by decide) ?_
  refine q_iload_n dX5_grown_4 rfl ?_
  refine q_bi (v := 12) dX5_grown_5 rfl ?_
  refine q_cz_ge (tgt := 124) (a := 4) (b := 12) dX5_grown_7 (by decide) rfl rfl (fun h => absurd h (by decide)) (fun _ => ?_)
  refine q_iload_n dX5_grown_10 rfl ?_
  refine q_ic (v := 1) dX5_grown_11 rfl ?_
  refine q_iload_n dX5_grown_12 rfl ?_
  refine q_ishl dX5_grown_13 ?_
  refine q_topI (v := 16) rfl ?_
  refine q_ior dX5_grown_14 ?_
  refine q_topI (v := 16) rfl ?_
  refine q_istore dX5_grown_15 (Nat.le_of_ble_eq_true rfl) ?_
  refine q_iload dX5_grown_17 rfl ?_
  refine q_iload_n dX5_grown_19 rfl ?_
  refine q_cz_eq (tgt := 118) (a := 16) (b := 0) dX5_grown_20 (by decide) rfl rfl (fun h => absurd h (by decide)) (fun _ => ?_)
  refine q_iload dX5_grown_23 rfl ?_
  refine q_aload_n dX5_grown_25 rfl ?_
  refine q_getf (c := 5) (n := 0) (k := 3) (v := .int 0) dX5_grown_26 rfl (by decide) (by decide) fX5_23 rfl ?_
  refine q_cz_gt (tgt := 118) (a := 16) (b := 0) dX5_grown_29 (by decide) rfl rfl (fun _ => ?_) (fun h => absurd h (by decide))
  refine q_inc (v := 1) dX5_grown_118 rfl (Nat.le_of_ble_eq_true rfl) rfl ?_
  refine q_goto (tgt := 4) dX5_grown_121 (by decide) ?_
  refine q_iload_n dX5_grown_4 rfl ?_
  refine q_bi (v := 12) dX5_grown_5 rfl ?_
  refine q_cz_ge (tgt := 124) (a := 5) (b := 12) dX5_grown_7 (by decide) rfl rfl (fun h => absurd h (by decide)) (fun _ => ?_)
  refine q_iload_n dX5_grown_10 rfl ?_
  refine q_ic (v := 1) dX5_grown_11 rfl ?_
  refine q_iload_n dX5_grown_12 rfl ?_
  refine q_ishl dX5_grown_13 ?_
  refine q_topI (v := 32) rfl ?_
  refine q_ior dX5_grown_14 ?_
  refine q_topI (v := 32) rfl ?_
  refine q_istore dX5_grown_15 (Nat.le_of_ble_eq_true rfl) ?_
  refine q_iload dX5_grown_17 rfl ?_
  refine q_iload_n dX5_grown_19 rfl ?_
  refine q_cz_eq (tgt := 118) (a := 32) (b := 0) dX5_grown_20 (by decide) rfl rfl (fun h => absurd h (by decide)) (fun _ => ?_)
  refine q_iload dX5_grown_23 rfl ?_
  refine q_aload_n dX5_grown_25 rfl ?_
  refine q_getf (c := 5) (n := 0) (k := 3) (v := .int 0) dX5_grown_26 rfl (by decide) (by decide) fX5_23 rfl ?_
  refine q_cz_gt (tgt := 118) (a := 32) (b := 0) dX5_grown_29 (by decide) rfl rfl (fun _ => ?_) (fun h => absurd h (by decide))
  refine q_inc (v := 1) dX5_grown_118 rfl (Nat.le_of_ble_eq_true rfl) rfl ?_
  refine q_goto (tgt := 4) dX5_grown_121 (by decide) ?_
  refine q_iload_n dX5_grown_4 rfl ?_
  refine q_bi (v := 12) dX5_grown_5 rfl ?_
  refine q_cz_ge (tgt := 124) (a := 6) (b := 12) dX5_grown_7 (by decide) rfl rfl (fun h => absurd h (by decide)) (fun _ => ?_)
  refine q_iload_n dX5_grown_10 rfl ?_
  refine q_ic (v := 1) dX5_grown_11 rfl ?_
  refine q_iload_n dX5_grown_12 rfl ?_
  refine q_ishl dX5_grown_13 ?_
  refine q_topI (v := 64) rfl ?_
  refine q_ior dX5_grown_14 ?_
  refine q_topI (v := 64) rfl ?_
  refine q_istore dX5_grown_15 (Nat.le_of_ble_eq_true rfl) ?_
  refine q_iload dX5_grown_17 rfl ?_
  refine q_iload_n dX5_grown_19 rfl ?_
  refine q_cz_eq (tgt := 118) (a := 64) (b := 0) dX5_grown_20 (by decide) rfl rfl (fun h => absurd h (by decide)) (fun _ => ?_)
  refine q_iload dX5_grown_23 rfl ?_
  refine q_aload_n dX5_grown_25 rfl ?_
  refine q_getf (c := 5) (n := 0) (k := 3) (v := .int 0) dX5_grown_26 rfl (by decide) (by decide) fX5_23 rfl ?_
  refine q_cz_gt (tgt := 118) (a := 64) (b := 0) dX5_grown_29 (by decide) rfl rfl (fun _ => ?_) (fun h => absurd h (by decide))
  refine q_inc (v := 1) dX5_grown_118 rfl (Nat.le_of_ble_eq_true rfl) rfl ?_
  refine q_goto (tgt := 4) dX5_grown_121 (by decide) ?_
  refine q_iload_n dX5_grown_4 rfl ?_
  refine q_bi (v := 12) dX5_grown_5 rfl ?_
  refine q_cz_ge (tgt := 124) (a := 7) (b := 12) dX5_grown_7 (by decide) rfl rfl (fun h => absurd h (by decide)) (fun _ => ?_)
  refine q_iload_n dX5_grown_10 rfl ?_
  refine q_ic (v := 1) dX5_grown_11 rfl ?_
  refine q_iload_n dX5_grown_12 rfl ?_
  refine q_ishl dX5_grown_13 ?_
  refine q_topI (v := 128) rfl ?_
  refine q_ior dX5_grown_14 ?_
  refine q_topI (v := 128) rfl ?_
  refine q_istore dX5_grown_15 (Nat.le_of_ble_eq_true rfl) ?_
  refine q_iload dX5_grown_17 rfl ?_
  refine q_iload_n dX5_grown_19 rfl ?_
  refine q_cz_eq (tgt := 118) (a := 128) (b := 0) dX5_grown_20 (by decide) rfl rfl (fun h => absurd h (by decide)) (fun _ => ?_)
  refine q_iload dX5_grown_23 rfl ?_
  refine q_aload_n dX5_grown_25 rfl ?_
  refine q_getf (c := 5) (n := 0) (k := 3) (v := .int 0) dX5_grown_26 rfl (by decide) (by decide) fX5_23 rfl ?_
  refine q_cz_gt (tgt := 118) (a := 128) (b := 0) dX5_grown_29 (by decide) rfl rfl (fun _ => ?_) (fun h => absurd h (by decide))
  refine q_inc (v := 1) dX5_grown_118 rfl (Nat.le_of_ble_eq_true rfl) rfl ?_
  refine q_goto (tgt := 4) dX5_grown_121 (by decide) ?_
  refine q_iload_n dX5_grown_4 rfl ?_
  refine q_bi (v := 12) dX5_grown_5 rfl ?_
  refine q_cz_ge (tgt := 124) (a := 8) (b := 12) dX5_grown_7 (by decide) rfl rfl (fun h => absurd h (by decide)) (fun _ => ?_)
  refine q_iload_n dX5_grown_10 rfl ?_
  refine q_ic (v := 1) dX5_grown_11 rfl ?_
  refine q_iload_n dX5_grown_12 rfl ?_
  refine q_ishl dX5_grown_13 ?_
  refine q_topI (v := 256) rfl ?_
  refine q_ior dX5_grown_14 ?_
  refine q_topI (v := 256) rfl ?_
  refine q_istore dX5_grown_15 (Nat.le_of_ble_eq_true rfl) ?_
  refine q_iload dX5_grown_17 rfl ?_
  refine q_iload_n dX5_grown_19 rfl ?_
  refine q_cz_eq (tgt := 118) (a := 256) (b := 0) dX5_grown_20 (by decide) rfl rfl (fun h => absurd h (by decide)) (fun _ => ?_)
  refine q_iload dX5_grown_23 rfl ?_
  refine q_aload_n dX5_grown_25 rfl ?_
  refine q_getf (c := 5) (n := 0) (k := 3) (v := .int 0) dX5_grown_26 rfl (by decide) (by decide) fX5_23 rfl ?_
  refine q_cz_gt (tgt := 118) (a := 256) (b := 0) dX5_grown_29 (by decide) rfl rfl (fun _ => ?_) (fun h => absurd h (by decide))
  refine q_inc (v := 1) dX5_grown_118 rfl (Nat.le_of_ble_eq_true rfl) rfl ?_
  refine q_goto (tgt := 4) dX5_grown_121 (by decide) ?_
  refine q_iload_n dX5_grown_4 rfl ?_
  refine q_bi (v := 12) dX5_grown_5 rfl ?_
  refine q_cz_ge (tgt := 124) (a := 9) (b := 12) dX5_grown_7 (by decide) rfl rfl (fun h => absurd h (by decide)) (fun _ => ?_)
  refine q_iload_n dX5_grown_10 rfl ?_
  refine q_ic (v := 1) dX5_grown_11 rfl ?_
  refine q_iload_n dX5_grown_12 rfl ?_
  refine q_ishl dX5_grown_13 ?_
  refine q_topI (v := 512) rfl ?_
  refine q_ior dX5_grown_14 ?_
  refine q_topI (v := 512) rfl ?_
  refine q_istore dX5_grown_15 (Nat.le_of_ble_eq_true rfl) ?_
  refine q_iload dX5_grown_17 rfl ?_
  refine q_iload_n dX5_grown_19 rfl ?_
  refine q_cz_eq (tgt := 118) (a := 512) (b := 0) dX5_grown_20 (by decide) rfl rfl (fun h => absurd h (by decide)) (fun _ => ?_)
  refine q_iload dX5_grown_23 rfl ?_
  refine q_aload_n dX5_grown_25 rfl ?_
  refine q_getf (c := 5) (n := 0) (k := 3) (v := .int 0) dX5_grown_26 rfl (by decide) (by decide) fX5_23 rfl ?_
  refine q_cz_gt (tgt := 118) (a := 512) (b := 0) dX5_grown_29 (by decide) rfl rfl (fun _ => ?_) (fun h => absurd h (by decide))
  refine q_inc (v := 1) dX5_grown_118 rfl (Nat.le_of_ble_eq_true rfl) rfl ?_
  refine q_goto (tgt := 4) dX5_grown_121 (by decide) ?_
  refine q_iload_n dX5_grown_4 rfl ?_
  refine q_bi (v := 12) dX5_grown_5 rfl ?_
  refine q_cz_ge (tgt := 124) (a := 10) (b := 12) dX5_grown_7 (by decide) rfl rfl (fun h => absurd h (by decide)) (fun _ => ?_)
  refine q_iload_n dX5_grown_10 rfl ?_
  refine q_ic (v := 1) dX5_grown_11 rfl ?_
  refine q_iload_n dX5_grown_12 rfl ?_
  refine q_ishl dX5_grown_13 ?_
  refine q_topI (v := 1024) rfl ?_
  refine q_ior dX5_grown_14 ?_
  refine q_topI (v := 1024) rfl ?_
  refine q_istore dX5_grown_15 (Nat.le_of_ble_eq_true rfl) ?_
  refine q_iload dX5_grown_17 rfl ?_
  refine q_iload_n dX5_grown_19 rfl ?_
  refine q_cz_eq (tgt := 118) (a := 1024) (b := 0) dX5_grown_20 (by decide) rfl rfl (fun h => absurd h (by decide)) (fun _ => ?_)
  refine q_iload dX5_grown_23 rfl ?_
  refine q_aload_n dX5_grown_25 rfl ?_
  refine q_getf (c := 5) (n := 0) (k := 3) (v := .int 0) dX5_grown_26 rfl (by decide) (by decide) fX5_23 rfl ?_
  refine q_cz_gt (tgt := 118) (a := 1024) (b := 0) dX5_grown_29 (by decide) rfl rfl (fun _ => ?_) (fun h => absurd h (by decide))
  refine q_inc (v := 1) dX5_grown_118 rfl (Nat.le_of_ble_eq_true rfl) rfl ?_
  refine q_goto (tgt := 4) dX5_grown_121 (by decide) ?_
  refine q_iload_n dX5_grown_4 rfl ?_
  refine q_bi (v := 12) dX5_grown_5 rfl ?_
  refine q_cz_ge (tgt := 124) (a := 11) (b := 12) dX5_grown_7 (by decide) rfl rfl (fun h => absurd h (by decide)) (fun _ => ?_)
  refine q_iload_n dX5_grown_10 rfl ?_
  refine q_ic (v := 1) dX5_grown_11 rfl ?_
  refine q_iload_n dX5_grown_12 rfl ?_
  refine q_ishl dX5_grown_13 ?_
  refine q_topI (v := 2048) rfl ?_
  refine q_ior dX5_grown_14 ?_
  refine q_topI (v := 2048) rfl ?_
  refine q_istore dX5_grown_15 (Nat.le_of_ble_eq_true rfl) ?_
  refine q_iload dX5_grown_17 rfl ?_
  refine q_iload_n dX5_grown_19 rfl ?_
  refine q_cz_eq (tgt := 118) (a := 2048) (b := 0) dX5_grown_20 (by decide) rfl rfl (fun h => absurd h (by decide)) (fun _ => ?_)
  refine q_iload dX5_grown_23 rfl ?_
  refine q_aload_n dX5_grown_25 rfl ?_
  refine q_getf (c := 5) (n := 0) (k := 3) (v := .int 0) dX5_grown_26 rfl (by decide) (by decide) fX5_23 rfl ?_
  refine q_cz_gt (tgt := 118) (a := 2048) (b := 0) dX5_grown_29 (by decide) rfl rfl (fun _ => ?_) (fun h => absurd h (by decide))
  refine q_inc (v := 1) dX5_grown_118 rfl (Nat.le_of_ble_eq_true rfl) rfl ?_
  refine q_goto (tgt := 4) dX5_grown_121 (by decide) ?_
  refine q_iload_n dX5_grown_4 rfl ?_
  refine q_bi (v := 12) dX5_grown_5 rfl ?_
  refine q_cz_ge (tgt := 124) (a := 12) (b := 12) dX5_grown_7 (by decide) rfl rfl (fun _ => ?_) (fun h => absurd h (by decide))
  refine q_iload_n dX5_grown_124 rfl ?_
  refine q_iret dX5_grown_125 rfl ?_
  exact ⟨rfl, rfl⟩
theorem dX5_markBelow_0 : decode cX5_markBelow 0 = .ok (.aload_n 0, 1) := by decide +kernel
theorem dX5_markBelow_1 : decode cX5_markBelow 1 = .ok (.dup, 1) := by decide +kernel
theorem dX5_markBelow_2 : decode cX5_markBelow 2 = .ok (.getfield 30, 3) := by decide +kernel
theorem dX5_markBelow_5 : decode cX5_markBelow 5 = .ok (.iconst 1, 1) := by decide +kernel
theorem dX5_markBelow_6 : decode cX5_markBelow 6 = .ok (.iadd, 1) := by decide +kernel
theorem dX5_markBelow_7 : decode cX5_markBelow 7 = .ok (.putfield 30, 3) := by decide +kernel
theorem dX5_markBelow_10 : decode cX5_markBelow 10 = .ok (.iload_n 1, 1) := by decide +kernel
theorem dX5_markBelow_11 : decode cX5_markBelow 11 = .ok (.istore_n 2, 1) := by decide +kernel
theorem dX5_markBelow_12 : decode cX5_markBelow 12 = .ok (.iconst 0, 1) := by decide +kernel
theorem dX5_markBelow_13 : decode cX5_markBelow 13 = .ok (.istore_n 3, 1) := by decide +kernel
theorem dX5_markBelow_14 : decode cX5_markBelow 14 = .ok (.iload_n 3, 1) := by decide +kernel
theorem dX5_markBelow_15 : decode cX5_markBelow 15 = .ok (.sipush 4096, 3) := by decide +kernel
theorem dX5_markBelow_18 : decode cX5_markBelow 18 = .ok (.if_icmp .ge 25, 3) := by decide +kernel
theorem dX5_markBelow_21 : decode cX5_markBelow 21 = .ok (.iload_n 2, 1) := by decide +kernel
theorem dX5_markBelow_22 : decode cX5_markBelow 22 = .ok (.ifCond .le 21, 3) := by decide +kernel
theorem dX5_markBelow_25 : decode cX5_markBelow 25 = .ok (.aload_n 0, 1) := by decide +kernel
theorem dX5_markBelow_26 : decode cX5_markBelow 26 = .ok (.iload_n 2, 1) := by decide +kernel
theorem dX5_markBelow_27 : decode cX5_markBelow 27 = .ok (.iconst 1, 1) := by decide +kernel
theorem dX5_markBelow_28 : decode cX5_markBelow 28 = .ok (.invokevirtual 50, 3) := by decide +kernel
theorem dX5_markBelow_31 : decode cX5_markBelow 31 = .ok (.iload_n 2, 1) := by decide +kernel
theorem dX5_markBelow_32 : decode cX5_markBelow 32 = .ok (.iconst 1, 1) := by decide +kernel
theorem dX5_markBelow_33 : decode cX5_markBelow 33 = .ok (.isub, 1) := by decide +kernel
theorem dX5_markBelow_34 : decode cX5_markBelow 34 = .ok (.iload_n 1, 1) := by decide +kernel
theorem dX5_markBelow_35 : decode cX5_markBelow 35 = .ok (.iand, 1) := by decide +kernel
theorem dX5_markBelow_36 : decode cX5_markBelow 36 = .ok (.istore_n 2, 1) := by decide +kernel
theorem dX5_markBelow_37 : decode cX5_markBelow 37 = .ok (.iinc 3 1, 3) := by decide +kernel
theorem dX5_markBelow_40 : decode cX5_markBelow 40 = .ok (.goto (-26), 3) := by decide +kernel
theorem dX5_markBelow_43 : decode cX5_markBelow 43 = .ok (.aload_n 0, 1) := by decide +kernel
theorem dX5_markBelow_44 : decode cX5_markBelow 44 = .ok (.iconst 0, 1) := by decide +kernel
theorem dX5_markBelow_45 : decode cX5_markBelow 45 = .ok (.iconst 1, 1) := by decide +kernel
theorem dX5_markBelow_46 : decode cX5_markBelow 46 = .ok (.invokevirtual 50, 3) := by decide +kernel
theorem dX5_markBelow_49 : decode cX5_markBelow 49 = .ok (.aload_n 0, 1) := by decide +kernel
theorem dX5_markBelow_50 : decode cX5_markBelow 50 = .ok (.iload_n 1, 1) := by decide +kernel
theorem dX5_markBelow_51 : decode cX5_markBelow 51 = .ok (.iconst 4, 1) := by decide +kernel
theorem dX5_markBelow_52 : decode cX5_markBelow 52 = .ok (.invokevirtual 50, 3) := by decide +kernel
theorem dX5_markBelow_55 : decode cX5_markBelow 55 = .ok (.return_, 1) := by decide +kernel
def uXI51 : Nat → Nat → Int32 := q_up uXI50 67 2 1
theorem dX5_mark_0 : decode cX5_mark 0 = .ok (.iload_n 1, 1) := by decide +kernel
theorem dX5_mark_1 : decode cX5_mark 1 = .ok (.ifCond .lt 18, 3) := by decide +kernel
theorem dX5_mark_4 : decode cX5_mark 4 = .ok (.iload_n 1, 1) := by decide +kernel
theorem dX5_mark_5 : decode cX5_mark 5 = .ok (.sipush 4096, 3) := by decide +kernel
theorem dX5_mark_8 : decode cX5_mark 8 = .ok (.if_icmp .ge 11, 3) := by decide +kernel
theorem dX5_mark_11 : decode cX5_mark 11 = .ok (.aload_n 0, 1) := by decide +kernel
theorem dX5_mark_12 : decode cX5_mark 12 = .ok (.getfield 11, 3) := by decide +kernel
theorem dX5_mark_15 : decode cX5_mark 15 = .ok (.iload_n 1, 1) := by decide +kernel
theorem dX5_mark_16 : decode cX5_mark 16 = .ok (.iload_n 2, 1) := by decide +kernel
theorem dX5_mark_17 : decode cX5_mark 17 = .ok (.i2b, 1) := by decide +kernel
theorem dX5_mark_18 : decode cX5_mark 18 = .ok (.bastore, 1) := by decide +kernel
theorem dX5_mark_19 : decode cX5_mark 19 = .ok (.return_, 1) := by decide +kernel
def uXI52 : Nat → Nat → Int32 := q_up uXI51 68 0 1
set_option maxRecDepth 20000 in
theorem uX_X5_mark_45 : q_met mX5_mark (q_sX uXI51 zJ1) [.ref 67, .int 0, .int 1] (fun s r => s = q_sX uXI52 zJ1 ∧ r = none) := by
  refine q_enter (by decide) (Nat.le_of_ble_eq_true rfl) ?_
  refine q_iload_n dX5_mark_0 rfl ?_
  refine q_iz_lt (tgt := 19) (a := 0) dX5_mark_1 (by decide) rfl (fun h => absurd h (by decide)) (fun _ => ?_)
  refine q_iload_n dX5_mark_4 rfl ?_
  refine q_si (v := 4096) dX5_mark_5 rfl ?_
  refine q_cz_ge (tgt := 19) (a := 0) (b := 4096) dX5_mark_8 (by decide) rfl rfl (fun h => absurd h (by decide)) (fun _ => ?_)
  refine q_aload_n dX5_mark_11 rfl ?_
  refine q_getR (c := 5) (n := 0) (k := 5) (a := 68) dX5_mark_12 rfl (by decide) (by decide) fX5_11 rfl rfl ?_
  refine q_iload_n dX5_mark_15 rfl ?_
  refine q_iload_n dX5_mark_16 rfl ?_
  refine q_i2b dX5_mark_17 ?_
  refine q_topI (v := 1) rfl ?_
  refine q_bast (n := 4096) (j := 0) dX5_mark_18 rfl rfl (by decide) ?_
  show q_K _ (q_sX uXI52 zJ1) _ _ _ _ _ _
  refine q_ret dX5_mark_19 rfl ?_
  exact ⟨rfl, rfl⟩
def uXI53 : Nat → Nat → Int32 := q_up uXI52 68 0 4
set_option maxRecDepth 20000 in
theorem uX_X5_mark_46 : q_met mX5_mark (q_sX uXI52 zJ1) [.ref 67, .int 0, .int 4] (fun s r => s = q_sX uXI53 zJ1 ∧ r = none) := by
  refine q_enter (by decide) (Nat.le_of_ble_eq_true rfl) ?_
  refine q_iload_n dX5_mark_0 rfl ?_
  refine q_iz_lt (tgt := 19) (a := 0) dX5_mark_1 (by decide) rfl (fun h => absurd h (by decide)) (fun _ => ?_)
  refine q_iload_n dX5_mark_4 rfl ?_
  refine q_si (v := 4096) dX5_mark_5 rfl ?_
  refine q_cz_ge (tgt := 19) (a := 0) (b := 4096) dX5_mark_8 (by decide) rfl rfl (fun h => absurd h (by decide)) (fun _ => ?_)
  refine q_aload_n dX5_mark_11 rfl ?_
  refine q_getR (c := 5) (n := 0) (k := 5) (a := 68) dX5_mark_12 rfl (by decide) (by decide) fX5_11 rfl rfl ?_
  refine q_iload_n dX5_mark_15 rfl ?_
  refine q_iload_n dX5_mark_16 rfl ?_
  refine q_i2b dX5_mark_17 ?_
  refine q_topI (v := 4) rfl ?_
  refine q_bast (n := 4096) (j := 0) dX5_mark_18 rfl rfl (by decide) ?_
  show q_K _ (q_sX (q_up uXI52 68 0 4) zJ1) _ _ _ _ _ _
  show q_K _ (q_sX uXI53 zJ1) _ _ _ _ _ _
  refine q_ret dX5_mark_19 rfl ?_
  exact ⟨rfl, rfl⟩
set_option maxRecDepth 20000 in
theorem uX_X5_markBelow_47 : q_met mX5_markBelow (q_sX uXI50 zJ1) [.ref 67, .int 0] (fun s r => s = q_sX uXI53 zJ1 ∧ r = none) := by
  refine q_enter (by decide) (Nat.le_of_ble_eq_true rfl) ?_
  refine q_aload_n dX5_markBelow_0 rfl ?_
  refine q_dup dX5_markBelow_1 rfl ?_
  refine q_getf (c := 5) (n := 0) (k := 2) (v := .int 0) dX5_markBelow_2 rfl (by decide) (by decide) fX5_30 rfl ?_
  refine q_ic (v := 1) dX5_markBelow_5 rfl ?_
  refine q_iadd dX5_markBelow_6 ?_
  refine q_topI (v := 1) rfl ?_
  refine q_putI (c := 5) (n := 0) (k := 2) dX5_markBelow_7 rfl (by decide) (by decide) fX5_30 rfl rfl ?_
  show q_K _ (q_sX (q_up uXI50 67 2 1) zJ1) _ _ _ _ _ _
  refine q_iload_n dX5_markBelow_10 rfl ?_
  refine q_istore_n dX5_markBelow_11 (Nat.le_of_ble_eq_true rfl) ?_
  refine q_ic (v := 0) dX5_markBelow_12 rfl ?_
  refine q_istore_n dX5_markBelow_13 (Nat.le_of_ble_eq_true rfl) ?_
  refine q_iload_n dX5_markBelow_14 rfl ?_
  refine q_si (v := 4096) dX5_markBelow_15 rfl ?_
  refine q_cz_ge (tgt := 43) (a := 0) (b := 4096) dX5_markBelow_18 (by decide) rfl rfl (fun h => absurd h (by decide)) (fun _ => ?_)
  refine q_iload_n dX5_markBelow_21 rfl ?_
  refine q_iz_le (tgt := 43) (a := 0) dX5_markBelow_22 (by decide) rfl (fun _ => ?_) (fun h => absurd h (by decide))
  refine q_aload_n dX5_markBelow_43 rfl ?_
  refine q_ic (v := 0) dX5_markBelow_44 rfl ?_
  refine q_ic (v := 1) dX5_markBelow_45 rfl ?_
  show q_K _ (q_sX uXI51 zJ1) _ _ _ _ _ _
  refine q_V2 (ci := 5) (n := 0) dX5_markBelow_46 DX5_mark lX5_50 rfl (by decide) rfl rfl rfl rfl uX_X5_mark_45 ?_
  rintro _ _ ⟨rfl, rfl⟩
  refine q_aload_n dX5_markBelow_49 rfl ?_
  refine q_iload_n dX5_markBelow_50 rfl ?_
  refine q_ic (v := 4) dX5_markBelow_51 rfl ?_
  refine q_V2 (ci := 5) (n := 0) dX5_markBelow_52 DX5_mark lX5_50 rfl (by decide) rfl rfl rfl rfl uX_X5_mark_46 ?_
  rintro _ _ ⟨rfl, rfl⟩
  refine q_ret dX5_markBelow_55 rfl ?_
  exact ⟨rfl, rfl⟩
set_option maxRecDepth 20000 in
theorem uX_X5_find_48 : q_met mX5_find (q_sX zI6 zJ1) [.ref 67, .int 0] (fun s r => s = q_sX uXI53 zJ1 ∧ r = none) := by
  refine q_enter (by decide) (Nat.le_of_ble_eq_true rfl) ?_
  refine q_aload_n dX5_find_0 rfl ?_
  refine q_getf (c := 5) (n := 0) (k := 0) (v := .int 0) dX5_find_1 rfl (by decide) (by decide) fX5_19 rfl ?_
  refine q_iz_ne (tgt := 17) (a := 0) dX5_find_4 (by decide) rfl (fun h => absurd h (by decide)) (fun _ => ?_)
  refine q_iload_n dX5_find_7 rfl ?_
  refine q_iz_lt (tgt := 17) (a := 0) dX5_find_8 (by decide) rfl (fun h => absurd h (by decide)) (fun _ => ?_)
  refine q_iload_n dX5_find_11 rfl ?_
  refine q_bi (v := 12) dX5_find_12 rfl ?_
  refine q_cz_le (tgt := 18) (a := 0) (b := 12) dX5_find_14 (by decide) rfl rfl (fun _ => ?_) (fun h => absurd h (by decide))
  refine q_aload_n dX5_find_18 rfl ?_
  refine q_ic (v := 1) dX5_find_19 rfl ?_
  refine q_putZ (c := 5) (n := 0) (k := 0) dX5_find_20 rfl (by decide) (by decide) fX5_19 rfl rfl (Or.inr rfl) ?_
  show q_K _ (q_sX (q_up zI6 67 0 1) zJ1) _ _ _ _ _ _
  refine q_aload_n dX5_find_23 rfl ?_
  refine q_ic (v := 1) dX5_find_24 rfl ?_
  refine q_iload_n dX5_find_25 rfl ?_
  refine q_ishl dX5_find_26 ?_
  refine q_topI (v := 1) rfl ?_
  refine q_ic (v := 1) dX5_find_27 rfl ?_
  refine q_isub dX5_find_28 ?_
  refine q_topI (v := 0) rfl ?_
  refine q_putI (c := 5) (n := 0) (k := 3) dX5_find_29 rfl (by decide) (by decide) fX5_23 rfl rfl ?_
  show q_K _ (q_sX (q_up (q_up zI6 67 0 1) 67 3 0) zJ1) _ _ _ _ _ _
  refine q_aload_n dX5_find_32 rfl ?_
  refine q_ic (v := 0) dX5_find_33 rfl ?_
  refine q_putI (c := 5) (n := 0) (k := 1) dX5_find_34 rfl (by decide) (by decide) fX5_27 rfl rfl ?_
  show q_K _ (q_sX (q_up (q_up (q_up zI6 67 0 1) 67 3 0) 67 1 0) zJ1) _ _ _ _ _ _
  refine q_aload_n dX5_find_37 rfl ?_
  refine q_ic (v := 0) dX5_find_38 rfl ?_
  refine q_putI (c := 5) (n := 0) (k := 2) dX5_find_39 rfl (by decide) (by decide) fX5_30 rfl rfl ?_
  show q_K _ (q_sX (q_up (q_up (q_up (q_up zI6 67 0 1) 67 3 0) 67 1 0) 67 2 0) zJ1) _ _ _ _ _ _
  refine q_ic (v := 0) dX5_find_42 rfl ?_
  refine q_istore_n dX5_find_43 (Nat.le_of_ble_eq_true rfl) ?_
  refine q_iload_n dX5_find_44 rfl ?_
  refine q_aload_n dX5_find_45 rfl ?_
  refine q_getf (c := 5) (n := 0) (k := 3) (v := .int 0) dX5_find_46 rfl (by decide) (by decide) fX5_23 rfl ?_
  refine q_cz_gt (tgt := 72) (a := 0) (b := 0) dX5_find_49 (by decide) rfl rfl (fun h => absurd h (by decide)) (fun _ => ?_)
  refine q_iload_n dX5_find_52 rfl ?_
  refine q_si (v := 4096) dX5_find_53 rfl ?_
  refine q_cz_ge (tgt := 72) (a := 0) (b := 4096) dX5_find_56 (by decide) rfl rfl (fun h => absurd h (by decide)) (fun _ => ?_)
  refine q_aload_n dX5_find_59 rfl ?_
  refine q_getR (c := 5) (n := 0) (k := 5) (a := 68) dX5_find_60 rfl (by decide) (by decide) fX5_11 rfl rfl ?_
  refine q_iload_n dX5_find_63 rfl ?_
  refine q_ic (v := 0) dX5_find_64 rfl ?_
  refine q_bast (n := 4096) (j := 0) dX5_find_65 rfl rfl (by decide) ?_
  show q_K _ (q_sX (q_up (q_up (q_up (q_up (q_up zI6 67 0 1) 67 3 0) 67 1 0) 67 2 0) 68 0 0) zJ1) _ _ _ _ _ _
  refine q_inc (v := 1) dX5_find_66 rfl (Nat.le_of_ble_eq_true rfl) rfl ?_
  refine q_goto (tgt := 44) dX5_find_69 (by decide) ?_
  refine q_iload_n dX5_find_44 rfl ?_
  refine q_aload_n dX5_find_45 rfl ?_
  refine q_getf (c := 5) (n := 0) (k := 3) (v := .int 0) dX5_find_46 rfl (by decide) (by decide) fX5_23 rfl ?_
  refine q_cz_gt (tgt := 72) (a := 1) (b := 0) dX5_find_49 (by decide) rfl rfl (fun _ => ?_) (fun h => absurd h (by decide))
  refine q_ic (v := 0) dX5_find_72 rfl ?_
  refine q_istore_n dX5_find_73 (Nat.le_of_ble_eq_true rfl) ?_
  refine q_iload_n dX5_find_74 rfl ?_
  refine q_aload_n dX5_find_75 rfl ?_
  refine q_getf (c := 5) (n := 0) (k := 3) (v := .int 0) dX5_find_76 rfl (by decide) (by decide) fX5_23 rfl ?_
  refine q_cz_gt (tgt := 136) (a := 0) (b := 0) dX5_find_79 (by decide) rfl rfl (fun h => absurd h (by decide)) (fun _ => ?_)
  refine q_iload_n dX5_find_82 rfl ?_
  refine q_si (v := 4096) dX5_find_83 rfl ?_
  refine q_cz_ge (tgt := 136) (a := 0) (b := 4096) dX5_find_86 (by decide) rfl rfl (fun h => absurd h (by decide)) (fun _ => ?_)
  refine q_aload_n dX5_find_89 rfl ?_
  refine q_getR (c := 5) (n := 0) (k := 5) (a := 68) dX5_find_90 rfl (by decide) (by decide) fX5_11 rfl rfl ?_
  refine q_iload_n dX5_find_93 rfl ?_
  refine q_bald (n := 4096) (j := 0) dX5_find_94 rfl rfl (by decide) ?_
  refine q_topI (v := 0) rfl ?_
  refine q_iz_eq (tgt := 101) (a := 0) dX5_find_95 (by decide) rfl (fun _ => ?_) (fun h => absurd h (by decide))
  refine q_aload_n dX5_find_101 rfl ?_
  refine q_getR (c := 5) (n := 0) (k := 4) (a := 51) dX5_find_102 rfl (by decide) (by decide) fX5_15 rfl rfl ?_
  refine q_iload_n dX5_find_105 rfl ?_
  refine q_i2l dX5_find_106 ?_
  refine q_topL (v := 0) rfl ?_
  show q_K _ (q_sX uXI43 zJ1) _ _ _ _ _ _
  refine q_V1 (ci := 0) (n := 0) dX5_find_107 DX0_clashOf lX5_33 rfl (by decide) rfl rfl rfl rfl uX_X0_clashOf_43 ?_
  rintro _ _ ⟨rfl, rfl⟩
  refine q_iz_eq (tgt := 121) (a := 0) dX5_find_110 (by decide) rfl (fun _ => ?_) (fun h => absurd h (by decide))
  refine q_aload_n dX5_find_121 rfl ?_
  refine q_aload_n dX5_find_122 rfl ?_
  refine q_iload_n dX5_find_123 rfl ?_
  refine q_V1 (ci := 5) (n := 0) dX5_find_124 DX5_grown lX5_43 rfl (by decide) rfl rfl rfl rfl uX_X5_grown_44 ?_
  rintro _ _ ⟨rfl, rfl⟩
  refine q_V1 (ci := 5) (n := 0) dX5_find_127 DX5_markBelow lX5_47 rfl (by decide) rfl rfl rfl rfl uX_X5_markBelow_47 ?_
  rintro _ _ ⟨rfl, rfl⟩
  refine q_inc (v := 1) dX5_find_130 rfl (Nat.le_of_ble_eq_true rfl) rfl ?_
  refine q_goto (tgt := 74) dX5_find_133 (by decide) ?_
  refine q_iload_n dX5_find_74 rfl ?_
  refine q_aload_n dX5_find_75 rfl ?_
  refine q_getf (c := 5) (n := 0) (k := 3) (v := .int 0) dX5_find_76 rfl (by decide) (by decide) fX5_23 rfl ?_
  refine q_cz_gt (tgt := 136) (a := 1) (b := 0) dX5_find_79 (by decide) rfl rfl (fun _ => ?_) (fun h => absurd h (by decide))
  refine q_ret dX5_find_136 rfl ?_
  exact ⟨rfl, rfl⟩
set_option maxRecDepth 20000 in
theorem frX_cores : q_met mX10_cores (q_sX zI6 zJ1) [.ref 0] (fun s r => (∃ I J, s = q_sX I J) ∧ ∃ v, r = some (.int v) ∧ v.toInt = (0 : Int)) := by
  refine q_enter (by decide) (Nat.le_of_ble_eq_true rfl) ?_
  refine q_aload_n dX10_cores_0 rfl ?_
  refine q_getR (c := 10) (n := 0) (k := 3) (a := 2) dX10_cores_1 rfl (by decide) (by decide) fX10_16 rfl rfl ?_
  refine q_getf (c := 9) (n := 0) (k := 1) (v := .int 0) dX10_cores_4 rfl (by decide) (by decide) fX10_185 rfl ?_
  refine q_bi (v := 12) dX10_cores_7 rfl ?_
  refine q_cz_le (tgt := 15) (a := 0) (b := 12) dX10_cores_9 (by decide) rfl rfl (fun _ => ?_) (fun h => absurd h (by decide))
  refine q_aload_n dX10_cores_15 rfl ?_
  refine q_getR (c := 10) (n := 0) (k := 9) (a := 67) dX10_cores_16 rfl (by decide) (by decide) fX10_61 rfl rfl ?_
  refine q_aload_n dX10_cores_19 rfl ?_
  refine q_getR (c := 10) (n := 0) (k := 3) (a := 2) dX10_cores_20 rfl (by decide) (by decide) fX10_16 rfl rfl ?_
  refine q_getf (c := 9) (n := 0) (k := 1) (v := .int 0) dX10_cores_23 rfl (by decide) (by decide) fX10_185 rfl ?_
  refine q_V1 (ci := 5) (n := 0) dX10_cores_26 DX5_find lX10_188 rfl (by decide) rfl rfl rfl rfl uX_X5_find_48 ?_
  rintro _ _ ⟨rfl, rfl⟩
  refine q_aload_n dX10_cores_29 rfl ?_
  refine q_getR (c := 10) (n := 0) (k := 9) (a := 67) dX10_cores_30 rfl (by decide) (by decide) fX10_61 rfl rfl ?_
  refine q_getf (c := 5) (n := 0) (k := 1) (v := .int 0) dX10_cores_33 rfl (by decide) (by decide) fX10_191 rfl ?_
  refine q_iret dX10_cores_36 rfl ?_
  exact ⟨⟨_, _, rfl⟩, _, rfl, (by show (0 : Int) = _; first | rfl | omega | (split <;> omega) | (split <;> split <;> omega))⟩
theorem dX10_coreAt_0 : decode cX10_coreAt 0 = .ok (.aload_n 0, 1) := by decide +kernel
theorem dX10_coreAt_1 : decode cX10_coreAt 1 = .ok (.getfield 16, 3) := by decide +kernel
theorem dX10_coreAt_4 : decode cX10_coreAt 4 = .ok (.getfield 185, 3) := by decide +kernel
theorem dX10_coreAt_7 : decode cX10_coreAt 7 = .ok (.bipush 12, 2) := by decide +kernel
theorem dX10_coreAt_9 : decode cX10_coreAt 9 = .ok (.if_icmp .le 7, 3) := by decide +kernel
theorem dX10_coreAt_12 : decode cX10_coreAt 12 = .ok (.ldc2_w 194, 3) := by decide +kernel
theorem dX10_coreAt_15 : decode cX10_coreAt 15 = .ok (.lreturn, 1) := by decide +kernel
theorem dX10_coreAt_16 : decode cX10_coreAt 16 = .ok (.aload_n 0, 1) := by decide +kernel
theorem dX10_coreAt_17 : decode cX10_coreAt 17 = .ok (.getfield 61, 3) := by decide +kernel
theorem dX10_coreAt_20 : decode cX10_coreAt 20 = .ok (.aload_n 0, 1) := by decide +kernel
theorem dX10_coreAt_21 : decode cX10_coreAt 21 = .ok (.getfield 16, 3) := by decide +kernel
theorem dX10_coreAt_24 : decode cX10_coreAt 24 = .ok (.getfield 185, 3) := by decide +kernel
theorem dX10_coreAt_27 : decode cX10_coreAt 27 = .ok (.invokevirtual 188, 3) := by decide +kernel
theorem dX10_coreAt_30 : decode cX10_coreAt 30 = .ok (.aload_n 0, 1) := by decide +kernel
theorem dX10_coreAt_31 : decode cX10_coreAt 31 = .ok (.getfield 61, 3) := by decide +kernel
theorem dX10_coreAt_34 : decode cX10_coreAt 34 = .ok (.iload_n 1, 1) := by decide +kernel
theorem dX10_coreAt_35 : decode cX10_coreAt 35 = .ok (.invokevirtual 196, 3) := by decide +kernel
theorem dX10_coreAt_38 : decode cX10_coreAt 38 = .ok (.lreturn, 1) := by decide +kernel
theorem dX5_clashAt_0 : decode cX5_clashAt 0 = .ok (.iconst 0, 1) := by decide +kernel
theorem dX5_clashAt_1 : decode cX5_clashAt 1 = .ok (.istore_n 2, 1) := by decide +kernel
theorem dX5_clashAt_2 : decode cX5_clashAt 2 = .ok (.iconst 0, 1) := by decide +kernel
theorem dX5_clashAt_3 : decode cX5_clashAt 3 = .ok (.istore_n 3, 1) := by decide +kernel
theorem dX5_clashAt_4 : decode cX5_clashAt 4 = .ok (.iload_n 3, 1) := by decide +kernel
theorem dX5_clashAt_5 : decode cX5_clashAt 5 = .ok (.aload_n 0, 1) := by decide +kernel
theorem dX5_clashAt_6 : decode cX5_clashAt 6 = .ok (.getfield 23, 3) := by decide +kernel
theorem dX5_clashAt_9 : decode cX5_clashAt 9 = .ok (.if_icmp .gt 37, 3) := by decide +kernel
theorem dX5_clashAt_12 : decode cX5_clashAt 12 = .ok (.iload_n 3, 1) := by decide +kernel
theorem dX5_clashAt_13 : decode cX5_clashAt 13 = .ok (.sipush 4096, 3) := by decide +kernel
theorem dX5_clashAt_16 : decode cX5_clashAt 16 = .ok (.if_icmp .ge 30, 3) := by decide +kernel
theorem dX5_clashAt_19 : decode cX5_clashAt 19 = .ok (.aload_n 0, 1) := by decide +kernel
theorem dX5_clashAt_20 : decode cX5_clashAt 20 = .ok (.getfield 11, 3) := by decide +kernel
theorem dX5_clashAt_23 : decode cX5_clashAt 23 = .ok (.iload_n 3, 1) := by decide +kernel
theorem dX5_clashAt_24 : decode cX5_clashAt 24 = .ok (.baload, 1) := by decide +kernel
theorem dX5_clashAt_25 : decode cX5_clashAt 25 = .ok (.iconst 3, 1) := by decide +kernel
theorem dX5_clashAt_26 : decode cX5_clashAt 26 = .ok (.if_icmp .ne 14, 3) := by decide +kernel
theorem dX5_clashAt_29 : decode cX5_clashAt 29 = .ok (.iload_n 2, 1) := by decide +kernel
theorem dX5_clashAt_30 : decode cX5_clashAt 30 = .ok (.iload_n 1, 1) := by decide +kernel
theorem dX5_clashAt_31 : decode cX5_clashAt 31 = .ok (.if_icmp .ne 6, 3) := by decide +kernel
theorem dX5_clashAt_34 : decode cX5_clashAt 34 = .ok (.iload_n 3, 1) := by decide +kernel
theorem dX5_clashAt_35 : decode cX5_clashAt 35 = .ok (.i2l, 1) := by decide +kernel
theorem dX5_clashAt_36 : decode cX5_clashAt 36 = .ok (.lreturn, 1) := by decide +kernel
theorem dX5_clashAt_37 : decode cX5_clashAt 37 = .ok (.iinc 2 1, 3) := by decide +kernel
theorem dX5_clashAt_40 : decode cX5_clashAt 40 = .ok (.iinc 3 1, 3) := by decide +kernel
theorem dX5_clashAt_43 : decode cX5_clashAt 43 = .ok (.goto (-39), 3) := by decide +kernel
theorem dX5_clashAt_46 : decode cX5_clashAt 46 = .ok (.ldc2_w 54, 3) := by decide +kernel
theorem dX5_clashAt_49 : decode cX5_clashAt 49 = .ok (.lreturn, 1) := by decide +kernel
set_option maxRecDepth 20000 in
theorem uX_X5_clashAt_50 (a : Int32) : q_met mX5_clashAt (q_sX uXI53 zJ1) [.ref 67, .int a] (fun s r => s = q_sX uXI53 zJ1 ∧ r = some (.long (-1))) := by
  refine q_enter (by decide) (Nat.le_of_ble_eq_true rfl) ?_
  refine q_ic (v := 0) dX5_clashAt_0 rfl ?_
  refine q_istore_n dX5_clashAt_1 (Nat.le_of_ble_eq_true rfl) ?_
  refine q_ic (v := 0) dX5_clashAt_2 rfl ?_
  refine q_istore_n dX5_clashAt_3 (Nat.le_of_ble_eq_true rfl) ?_
  refine q_iload_n dX5_clashAt_4 rfl ?_
  refine q_aload_n dX5_clashAt_5 rfl ?_
  refine q_getf (c := 5) (n := 0) (k := 3) (v := .int 0) dX5_clashAt_6 rfl (by decide) (by decide) fX5_23 rfl ?_
  refine q_cz_gt (tgt := 46) (a := 0) (b := 0) dX5_clashAt_9 (by decide) rfl rfl (fun h => absurd h (by decide)) (fun _ => ?_)
  refine q_iload_n dX5_clashAt_12 rfl ?_
  refine q_si (v := 4096) dX5_clashAt_13 rfl ?_
  refine q_cz_ge (tgt := 46) (a := 0) (b := 4096) dX5_clashAt_16 (by decide) rfl rfl (fun h => absurd h (by decide)) (fun _ => ?_)
  refine q_aload_n dX5_clashAt_19 rfl ?_
  refine q_getR (c := 5) (n := 0) (k := 5) (a := 68) dX5_clashAt_20 rfl (by decide) (by decide) fX5_11 rfl rfl ?_
  refine q_iload_n dX5_clashAt_23 rfl ?_
  refine q_bald (n := 4096) (j := 0) dX5_clashAt_24 rfl rfl (by decide) ?_
  refine q_topI (v := 4) rfl ?_
  refine q_ic (v := 3) dX5_clashAt_25 rfl ?_
  refine q_cz_ne (tgt := 40) (a := 4) (b := 3) dX5_clashAt_26 (by decide) rfl rfl (fun _ => ?_) (fun h => absurd h (by decide))
  refine q_inc (v := 1) dX5_clashAt_40 rfl (Nat.le_of_ble_eq_true rfl) rfl ?_
  refine q_goto (tgt := 4) dX5_clashAt_43 (by decide) ?_
  refine q_iload_n dX5_clashAt_4 rfl ?_
  refine q_aload_n dX5_clashAt_5 rfl ?_
  refine q_getf (c := 5) (n := 0) (k := 3) (v := .int 0) dX5_clashAt_6 rfl (by decide) (by decide) fX5_23 rfl ?_
  refine q_cz_gt (tgt := 46) (a := 1) (b := 0) dX5_clashAt_9 (by decide) rfl rfl (fun _ => ?_) (fun h => absurd h (by decide))
  refine q_ldc2 (v := (-1)) dX5_clashAt_46 nX5_54 ?_
  refine q_lret dX5_clashAt_49 rfl ?_
  exact ⟨rfl, rfl⟩
set_option maxRecDepth 20000 in
theorem frX_coreAt (a : Int32) : q_met mX10_coreAt (q_sX zI6 zJ1) [.ref 0, .int a] (fun s r => (∃ I J, s = q_sX I J) ∧ ∃ v, r = some (.long v) ∧ v.toInt = (-1 : Int)) := by
  refine q_enter (by decide) (Nat.le_of_ble_eq_true rfl) ?_
  refine q_aload_n dX10_coreAt_0 rfl ?_
  refine q_getR (c := 10) (n := 0) (k := 3) (a := 2) dX10_coreAt_1 rfl (by decide) (by decide) fX10_16 rfl rfl ?_
  refine q_getf (c := 9) (n := 0) (k := 1) (v := .int 0) dX10_coreAt_4 rfl (by decide) (by decide) fX10_185 rfl ?_
  refine q_bi (v := 12) dX10_coreAt_7 rfl ?_
  refine q_cz_le (tgt := 16) (a := 0) (b := 12) dX10_coreAt_9 (by decide) rfl rfl (fun _ => ?_) (fun h => absurd h (by decide))
  refine q_aload_n dX10_coreAt_16 rfl ?_
  refine q_getR (c := 10) (n := 0) (k := 9) (a := 67) dX10_coreAt_17 rfl (by decide) (by decide) fX10_61 rfl rfl ?_
  refine q_aload_n dX10_coreAt_20 rfl ?_
  refine q_getR (c := 10) (n := 0) (k := 3) (a := 2) dX10_coreAt_21 rfl (by decide) (by decide) fX10_16 rfl rfl ?_
  refine q_getf (c := 9) (n := 0) (k := 1) (v := .int 0) dX10_coreAt_24 rfl (by decide) (by decide) fX10_185 rfl ?_
  refine q_V1 (ci := 5) (n := 0) dX10_coreAt_27 DX5_find lX10_188 rfl (by decide) rfl rfl rfl rfl uX_X5_find_48 ?_
  rintro _ _ ⟨rfl, rfl⟩
  refine q_aload_n dX10_coreAt_30 rfl ?_
  refine q_getR (c := 10) (n := 0) (k := 9) (a := 67) dX10_coreAt_31 rfl (by decide) (by decide) fX10_61 rfl rfl ?_
  refine q_iload_n dX10_coreAt_34 rfl ?_
  refine q_V1 (ci := 5) (n := 0) dX10_coreAt_35 DX5_clashAt lX10_196 rfl (by decide) rfl rfl rfl rfl (uX_X5_clashAt_50 a) ?_
  rintro _ _ ⟨rfl, rfl⟩
  refine q_lret dX10_coreAt_38 rfl ?_
  exact ⟨⟨_, _, rfl⟩, _, rfl, (by show ((-1) : Int) = _; first | rfl | omega | (split <;> omega) | (split <;> split <;> omega))⟩
theorem dX10_trust_0 : decode cX10_trust 0 = .ok (.aload_n 0, 1) := by decide +kernel
theorem dX10_trust_1 : decode cX10_trust 1 = .ok (.getfield 16, 3) := by decide +kernel
theorem dX10_trust_4 : decode cX10_trust 4 = .ok (.iload_n 1, 1) := by decide +kernel
theorem dX10_trust_5 : decode cX10_trust 5 = .ok (.invokevirtual 139, 3) := by decide +kernel
theorem dX10_trust_8 : decode cX10_trust 8 = .ok (.ifCond .eq 14, 3) := by decide +kernel
theorem dX10_trust_11 : decode cX10_trust 11 = .ok (.iload_n 2, 1) := by decide +kernel
theorem dX10_trust_12 : decode cX10_trust 12 = .ok (.iconst 1, 1) := by decide +kernel
theorem dX10_trust_13 : decode cX10_trust 13 = .ok (.if_icmp .lt 9, 3) := by decide +kernel
theorem dX10_trust_16 : decode cX10_trust 16 = .ok (.iload_n 2, 1) := by decide +kernel
theorem dX10_trust_17 : decode cX10_trust 17 = .ok (.bipush 100, 2) := by decide +kernel
theorem dX10_trust_19 : decode cX10_trust 19 = .ok (.if_icmp .le 5, 3) := by decide +kernel
theorem dX10_trust_22 : decode cX10_trust 22 = .ok (.iconst (-1), 1) := by decide +kernel
theorem dX10_trust_23 : decode cX10_trust 23 = .ok (.ireturn, 1) := by decide +kernel
theorem dX10_trust_24 : decode cX10_trust 24 = .ok (.aload_n 0, 1) := by decide +kernel
theorem dX10_trust_25 : decode cX10_trust 25 = .ok (.getfield 16, 3) := by decide +kernel
theorem dX10_trust_28 : decode cX10_trust 28 = .ok (.getfield 200, 3) := by decide +kernel
theorem dX10_trust_31 : decode cX10_trust 31 = .ok (.iload_n 1, 1) := by decide +kernel
theorem dX10_trust_32 : decode cX10_trust 32 = .ok (.iaload, 1) := by decide +kernel
theorem dX10_trust_33 : decode cX10_trust 33 = .ok (.istore_n 3, 1) := by decide +kernel
theorem dX10_trust_34 : decode cX10_trust 34 = .ok (.aload_n 0, 1) := by decide +kernel
theorem dX10_trust_35 : decode cX10_trust 35 = .ok (.getfield 16, 3) := by decide +kernel
theorem dX10_trust_38 : decode cX10_trust 38 = .ok (.getfield 200, 3) := by decide +kernel
theorem dX10_trust_41 : decode cX10_trust 41 = .ok (.iload_n 1, 1) := by decide +kernel
theorem dX10_trust_42 : decode cX10_trust 42 = .ok (.iload_n 2, 1) := by decide +kernel
theorem dX10_trust_43 : decode cX10_trust 43 = .ok (.iastore, 1) := by decide +kernel
theorem dX10_trust_44 : decode cX10_trust 44 = .ok (.aload_n 0, 1) := by decide +kernel
theorem dX10_trust_45 : decode cX10_trust 45 = .ok (.getfield 70, 3) := by decide +kernel
theorem dX10_trust_48 : decode cX10_trust 48 = .ok (.iconst 0, 1) := by decide +kernel
theorem dX10_trust_49 : decode cX10_trust 49 = .ok (.putfield 203, 3) := by decide +kernel
theorem dX10_trust_52 : decode cX10_trust 52 = .ok (.aload_n 0, 1) := by decide +kernel
theorem dX10_trust_53 : decode cX10_trust 53 = .ok (.getfield 79, 3) := by decide +kernel
theorem dX10_trust_56 : decode cX10_trust 56 = .ok (.iconst 0, 1) := by decide +kernel
theorem dX10_trust_57 : decode cX10_trust 57 = .ok (.putfield 206, 3) := by decide +kernel
theorem dX10_trust_60 : decode cX10_trust 60 = .ok (.iload_n 3, 1) := by decide +kernel
theorem dX10_trust_61 : decode cX10_trust 61 = .ok (.ireturn, 1) := by decide +kernel
set_option maxRecDepth 20000 in
theorem frX_trust (a : Int32) (b : Int32) : q_met mX10_trust (q_sX zI6 zJ1) [.ref 0, .int a, .int b] (fun s r => (∃ I J, s = q_sX I J) ∧ ∃ v, r = some (.int v) ∧ v.toInt = (-1 : Int)) := by
  refine q_enter (by decide) (Nat.le_of_ble_eq_true rfl) ?_
  refine q_aload_n dX10_trust_0 rfl ?_
  refine q_getR (c := 10) (n := 0) (k := 3) (a := 2) dX10_trust_1 rfl (by decide) (by decide) fX10_16 rfl rfl ?_
  refine q_iload_n dX10_trust_4 rfl ?_
  refine q_V1 (ci := 9) (n := 0) dX10_trust_5 DX9_has lX10_139 rfl (by decide) rfl rfl rfl rfl (uX_X9_has_17 a) ?_
  rintro _ _ ⟨rfl, rfl⟩
  refine q_iz_eq (tgt := 22) (a := 0) dX10_trust_8 (by decide) rfl (fun _ => ?_) (fun h => absurd h (by decide))
  refine q_ic (v := (-1)) dX10_trust_22 rfl ?_
  refine q_iret dX10_trust_23 rfl ?_
  exact ⟨⟨_, _, rfl⟩, _, rfl, (by show ((-1) : Int) = _; first | rfl | omega | (split <;> omega) | (split <;> split <;> omega))⟩
theorem dX10_cheapest_0 : decode cX10_cheapest 0 = .ok (.aload_n 0, 1) := by decide +kernel
theorem dX10_cheapest_1 : decode cX10_cheapest 1 = .ok (.getfield 16, 3) := by decide +kernel
theorem dX10_cheapest_4 : decode cX10_cheapest 4 = .ok (.getfield 185, 3) := by decide +kernel
theorem dX10_cheapest_7 : decode cX10_cheapest 7 = .ok (.bipush 24, 2) := by decide +kernel
theorem dX10_cheapest_9 : decode cX10_cheapest 9 = .ok (.if_icmp .le 7, 3) := by decide +kernel
theorem dX10_cheapest_12 : decode cX10_cheapest 12 = .ok (.ldc2_w 207, 3) := by decide +kernel
theorem dX10_cheapest_15 : decode cX10_cheapest 15 = .ok (.lreturn, 1) := by decide +kernel
theorem dX10_cheapest_16 : decode cX10_cheapest 16 = .ok (.aload_n 0, 1) := by decide +kernel
theorem dX10_cheapest_17 : decode cX10_cheapest 17 = .ok (.getfield 70, 3) := by decide +kernel
theorem dX10_cheapest_20 : decode cX10_cheapest 20 = .ok (.invokevirtual 209, 3) := by decide +kernel
theorem dX10_cheapest_23 : decode cX10_cheapest 23 = .ok (.lreturn, 1) := by decide +kernel
theorem dX1_find_0 : decode cX1_find 0 = .ok (.aload_n 0, 1) := by decide +kernel
theorem dX1_find_1 : decode cX1_find 1 = .ok (.getfield 38, 3) := by decide +kernel
theorem dX1_find_4 : decode cX1_find 4 = .ok (.ifCond .ne 15, 3) := by decide +kernel
theorem dX1_find_7 : decode cX1_find 7 = .ok (.aload_n 0, 1) := by decide +kernel
theorem dX1_find_8 : decode cX1_find 8 = .ok (.getfield 30, 3) := by decide +kernel
theorem dX1_find_11 : decode cX1_find 11 = .ok (.getfield 46, 3) := by decide +kernel
theorem dX1_find_14 : decode cX1_find 14 = .ok (.bipush 24, 2) := by decide +kernel
theorem dX1_find_16 : decode cX1_find 16 = .ok (.if_icmp .le 8, 3) := by decide +kernel
theorem dX1_find_19 : decode cX1_find 19 = .ok (.aload_n 0, 1) := by decide +kernel
theorem dX1_find_20 : decode cX1_find 20 = .ok (.getfield 51, 3) := by decide +kernel
theorem dX1_find_23 : decode cX1_find 23 = .ok (.lreturn, 1) := by decide +kernel
theorem dX1_find_24 : decode cX1_find 24 = .ok (.aload_n 0, 1) := by decide +kernel
theorem dX1_find_25 : decode cX1_find 25 = .ok (.iconst 1, 1) := by decide +kernel
theorem dX1_find_26 : decode cX1_find 26 = .ok (.putfield 38, 3) := by decide +kernel
theorem dX1_find_29 : decode cX1_find 29 = .ok (.aload_n 0, 1) := by decide +kernel
theorem dX1_find_30 : decode cX1_find 30 = .ok (.invokevirtual 55, 3) := by decide +kernel
theorem dX1_find_33 : decode cX1_find 33 = .ok (.iconst 0, 1) := by decide +kernel
theorem dX1_find_34 : decode cX1_find 34 = .ok (.istore_n 1, 1) := by decide +kernel
theorem dX1_find_35 : decode cX1_find 35 = .ok (.iconst 1, 1) := by decide +kernel
theorem dX1_find_36 : decode cX1_find 36 = .ok (.istore_n 2, 1) := by decide +kernel
theorem dX1_find_37 : decode cX1_find 37 = .ok (.iconst 0, 1) := by decide +kernel
theorem dX1_find_38 : decode cX1_find 38 = .ok (.istore_n 3, 1) := by decide +kernel
theorem dX1_find_39 : decode cX1_find 39 = .ok (.iload_n 1, 1) := by decide +kernel
theorem dX1_find_40 : decode cX1_find 40 = .ok (.ifCond .lt 118, 3) := by decide +kernel
theorem dX1_find_43 : decode cX1_find 43 = .ok (.iload_n 1, 1) := by decide +kernel
theorem dX1_find_44 : decode cX1_find 44 = .ok (.bipush 26, 2) := by decide +kernel
theorem dX1_find_46 : decode cX1_find 46 = .ok (.if_icmp .ge 112, 3) := by decide +kernel
theorem dX1_find_49 : decode cX1_find 49 = .ok (.iload_n 3, 1) := by decide +kernel
theorem dX1_find_50 : decode cX1_find 50 = .ok (.ldc 58, 2) := by decide +kernel
theorem dX1_find_52 : decode cX1_find 52 = .ok (.if_icmp .ge 106, 3) := by decide +kernel
theorem dX1_find_55 : decode cX1_find 55 = .ok (.iload_n 2, 1) := by decide +kernel
theorem dX1_find_56 : decode cX1_find 56 = .ok (.ifCond .eq 14, 3) := by decide +kernel
theorem dX1_find_59 : decode cX1_find 59 = .ok (.aload_n 0, 1) := by decide +kernel
theorem dX1_find_60 : decode cX1_find 60 = .ok (.getfield 27, 3) := by decide +kernel
theorem dX1_find_63 : decode cX1_find 63 = .ok (.iload_n 1, 1) := by decide +kernel
theorem dX1_find_64 : decode cX1_find 64 = .ok (.aload_n 0, 1) := by decide +kernel
theorem dX1_find_65 : decode cX1_find 65 = .ok (.iload_n 1, 1) := by decide +kernel
theorem dX1_find_66 : decode cX1_find 66 = .ok (.invokevirtual 59, 3) := by decide +kernel
theorem dX1_find_69 : decode cX1_find 69 = .ok (.lastore, 1) := by decide +kernel
theorem dX1_find_70 : decode cX1_find 70 = .ok (.aload_n 0, 1) := by decide +kernel
theorem dX1_find_71 : decode cX1_find 71 = .ok (.getfield 27, 3) := by decide +kernel
theorem dX1_find_74 : decode cX1_find 74 = .ok (.iload_n 1, 1) := by decide +kernel
theorem dX1_find_75 : decode cX1_find 75 = .ok (.laload, 1) := by decide +kernel
theorem dX1_find_76 : decode cX1_find 76 = .ok (.ldc2_w 63, 3) := by decide +kernel
theorem dX1_find_79 : decode cX1_find 79 = .ok (.lcmp, 1) := by decide +kernel
theorem dX1_find_80 : decode cX1_find 80 = .ok (.ifCond .ne 39, 3) := by decide +kernel
theorem dX1_find_83 : decode cX1_find 83 = .ok (.aload_n 0, 1) := by decide +kernel
theorem dX1_find_84 : decode cX1_find 84 = .ok (.getfield 27, 3) := by decide +kernel
theorem dX1_find_87 : decode cX1_find 87 = .ok (.iload_n 1, 1) := by decide +kernel
theorem dX1_find_88 : decode cX1_find 88 = .ok (.aload_n 0, 1) := by decide +kernel
theorem dX1_find_89 : decode cX1_find 89 = .ok (.iload_n 1, 1) := by decide +kernel
theorem dX1_find_90 : decode cX1_find 90 = .ok (.aload_n 0, 1) := by decide +kernel
theorem dX1_find_91 : decode cX1_find 91 = .ok (.getfield 34, 3) := by decide +kernel
theorem dX1_find_94 : decode cX1_find 94 = .ok (.aload_n 0, 1) := by decide +kernel
theorem dX1_find_95 : decode cX1_find 95 = .ok (.getfield 30, 3) := by decide +kernel
theorem dX1_find_98 : decode cX1_find 98 = .ok (.invokevirtual 65, 3) := by decide +kernel
theorem dX1_find_101 : decode cX1_find 101 = .ok (.aload_n 0, 1) := by decide +kernel
theorem dX1_find_102 : decode cX1_find 102 = .ok (.getfield 18, 3) := by decide +kernel
theorem dX1_find_105 : decode cX1_find 105 = .ok (.iload_n 1, 1) := by decide +kernel
theorem dX1_find_106 : decode cX1_find 106 = .ok (.laload, 1) := by decide +kernel
theorem dX1_find_107 : decode cX1_find 107 = .ok (.ldc2_w 63, 3) := by decide +kernel
theorem dX1_find_110 : decode cX1_find 110 = .ok (.lxor, 1) := by decide +kernel
theorem dX1_find_111 : decode cX1_find 111 = .ok (.land, 1) := by decide +kernel
theorem dX1_find_112 : decode cX1_find 112 = .ok (.invokevirtual 69, 3) := by decide +kernel
theorem dX1_find_115 : decode cX1_find 115 = .ok (.invokevirtual 75, 3) := by decide +kernel
theorem dX1_find_118 : decode cX1_find 118 = .ok (.lastore, 1) := by decide +kernel
theorem dX1_find_119 : decode cX1_find 119 = .ok (.aload_n 0, 1) := by decide +kernel
theorem dX1_find_120 : decode cX1_find 120 = .ok (.getfield 27, 3) := by decide +kernel
theorem dX1_find_123 : decode cX1_find 123 = .ok (.iload_n 1, 1) := by decide +kernel
theorem dX1_find_124 : decode cX1_find 124 = .ok (.laload, 1) := by decide +kernel
theorem dX1_find_125 : decode cX1_find 125 = .ok (.lconst 0, 1) := by decide +kernel
theorem dX1_find_126 : decode cX1_find 126 = .ok (.lcmp, 1) := by decide +kernel
theorem dX1_find_127 : decode cX1_find 127 = .ok (.ifCond .eq 7, 3) := by decide +kernel
theorem dX1_find_130 : decode cX1_find 130 = .ok (.iconst 1, 1) := by decide +kernel
theorem dX1_find_131 : decode cX1_find 131 = .ok (.goto 4, 3) := by decide +kernel
theorem dX1_find_134 : decode cX1_find 134 = .ok (.iconst 0, 1) := by decide +kernel
theorem dX1_find_135 : decode cX1_find 135 = .ok (.istore_n 2, 1) := by decide +kernel
theorem dX1_find_136 : decode cX1_find 136 = .ok (.iload_n 2, 1) := by decide +kernel
theorem dX1_find_137 : decode cX1_find 137 = .ok (.ifCond .eq 11, 3) := by decide +kernel
theorem dX1_find_140 : decode cX1_find 140 = .ok (.aload_n 0, 1) := by decide +kernel
theorem dX1_find_141 : decode cX1_find 141 = .ok (.iload_n 1, 1) := by decide +kernel
theorem dX1_find_142 : decode cX1_find 142 = .ok (.invokevirtual 79, 3) := by decide +kernel
theorem dX1_find_145 : decode cX1_find 145 = .ok (.goto 6, 3) := by decide +kernel
theorem dX1_find_148 : decode cX1_find 148 = .ok (.iload_n 1, 1) := by decide +kernel
theorem dX1_find_149 : decode cX1_find 149 = .ok (.iconst 1, 1) := by decide +kernel
theorem dX1_find_150 : decode cX1_find 150 = .ok (.isub, 1) := by decide +kernel
theorem dX1_find_151 : decode cX1_find 151 = .ok (.istore_n 1, 1) := by decide +kernel
theorem dX1_find_152 : decode cX1_find 152 = .ok (.iinc 3 1, 3) := by decide +kernel
theorem dX1_find_155 : decode cX1_find 155 = .ok (.goto (-116), 3) := by decide +kernel
theorem dX1_find_158 : decode cX1_find 158 = .ok (.aload_n 0, 1) := by decide +kernel
theorem dX1_find_159 : decode cX1_find 159 = .ok (.getfield 51, 3) := by decide +kernel
theorem dX1_find_162 : decode cX1_find 162 = .ok (.lreturn, 1) := by decide +kernel
def uXI54 : Nat → Nat → Int32 := q_up zI6 69 0 1
theorem dX1_begin_0 : decode cX1_begin 0 = .ok (.aload_n 0, 1) := by decide +kernel
theorem dX1_begin_1 : decode cX1_begin 1 = .ok (.aload_n 0, 1) := by decide +kernel
theorem dX1_begin_2 : decode cX1_begin 2 = .ok (.getfield 30, 3) := by decide +kernel
theorem dX1_begin_5 : decode cX1_begin 5 = .ok (.getfield 46, 3) := by decide +kernel
theorem dX1_begin_8 : decode cX1_begin 8 = .ok (.putfield 83, 3) := by decide +kernel
theorem dX1_begin_11 : decode cX1_begin 11 = .ok (.aload_n 0, 1) := by decide +kernel
theorem dX1_begin_12 : decode cX1_begin 12 = .ok (.aload_n 0, 1) := by decide +kernel
theorem dX1_begin_13 : decode cX1_begin 13 = .ok (.getfield 30, 3) := by decide +kernel
theorem dX1_begin_16 : decode cX1_begin 16 = .ok (.invokevirtual 65, 3) := by decide +kernel
theorem dX1_begin_19 : decode cX1_begin 19 = .ok (.putfield 51, 3) := by decide +kernel
theorem dX1_begin_22 : decode cX1_begin 22 = .ok (.aload_n 0, 1) := by decide +kernel
theorem dX1_begin_23 : decode cX1_begin 23 = .ok (.aload_n 0, 1) := by decide +kernel
theorem dX1_begin_24 : decode cX1_begin 24 = .ok (.getfield 51, 3) := by decide +kernel
theorem dX1_begin_27 : decode cX1_begin 27 = .ok (.lconst 1, 1) := by decide +kernel
theorem dX1_begin_28 : decode cX1_begin 28 = .ok (.ladd, 1) := by decide +kernel
theorem dX1_begin_29 : decode cX1_begin 29 = .ok (.putfield 84, 3) := by decide +kernel
theorem dX1_begin_32 : decode cX1_begin 32 = .ok (.iconst 0, 1) := by decide +kernel
theorem dX1_begin_33 : decode cX1_begin 33 = .ok (.istore_n 1, 1) := by decide +kernel
theorem dX1_begin_34 : decode cX1_begin 34 = .ok (.iload_n 1, 1) := by decide +kernel
theorem dX1_begin_35 : decode cX1_begin 35 = .ok (.aload_n 0, 1) := by decide +kernel
theorem dX1_begin_36 : decode cX1_begin 36 = .ok (.getfield 83, 3) := by decide +kernel
theorem dX1_begin_39 : decode cX1_begin 39 = .ok (.if_icmp .ge 50, 3) := by decide +kernel
theorem dX1_begin_42 : decode cX1_begin 42 = .ok (.iload_n 1, 1) := by decide +kernel
theorem dX1_begin_43 : decode cX1_begin 43 = .ok (.bipush 24, 2) := by decide +kernel
theorem dX1_begin_45 : decode cX1_begin 45 = .ok (.if_icmp .ge 44, 3) := by decide +kernel
theorem dX1_begin_48 : decode cX1_begin 48 = .ok (.aload_n 0, 1) := by decide +kernel
theorem dX1_begin_49 : decode cX1_begin 49 = .ok (.getfield 30, 3) := by decide +kernel
theorem dX1_begin_52 : decode cX1_begin 52 = .ok (.getfield 87, 3) := by decide +kernel
theorem dX1_begin_55 : decode cX1_begin 55 = .ok (.iload_n 1, 1) := by decide +kernel
theorem dX1_begin_56 : decode cX1_begin 56 = .ok (.iaload, 1) := by decide +kernel
theorem dX1_begin_57 : decode cX1_begin 57 = .ok (.i2l, 1) := by decide +kernel
theorem dX1_begin_58 : decode cX1_begin 58 = .ok (.bipush 24, 2) := by decide +kernel
theorem dX1_begin_60 : decode cX1_begin 60 = .ok (.lshl, 1) := by decide +kernel
theorem dX1_begin_61 : decode cX1_begin 61 = .ok (.lstore_n 2, 1) := by decide +kernel
theorem dX1_begin_62 : decode cX1_begin 62 = .ok (.aload_n 0, 1) := by decide +kernel
theorem dX1_begin_63 : decode cX1_begin 63 = .ok (.getfield 15, 3) := by decide +kernel
theorem dX1_begin_66 : decode cX1_begin 66 = .ok (.iload_n 1, 1) := by decide +kernel
theorem dX1_begin_67 : decode cX1_begin 67 = .ok (.lload_n 2, 1) := by decide +kernel
theorem dX1_begin_68 : decode cX1_begin 68 = .ok (.lconst 1, 1) := by decide +kernel
theorem dX1_begin_69 : decode cX1_begin 69 = .ok (.iload_n 1, 1) := by decide +kernel
theorem dX1_begin_70 : decode cX1_begin 70 = .ok (.lshl, 1) := by decide +kernel
theorem dX1_begin_71 : decode cX1_begin 71 = .ok (.ladd, 1) := by decide +kernel
theorem dX1_begin_72 : decode cX1_begin 72 = .ok (.lastore, 1) := by decide +kernel
theorem dX1_begin_73 : decode cX1_begin 73 = .ok (.aload_n 0, 1) := by decide +kernel
theorem dX1_begin_74 : decode cX1_begin 74 = .ok (.dup, 1) := by decide +kernel
theorem dX1_begin_75 : decode cX1_begin 75 = .ok (.getfield 84, 3) := by decide +kernel
theorem dX1_begin_78 : decode cX1_begin 78 = .ok (.lload_n 2, 1) := by decide +kernel
theorem dX1_begin_79 : decode cX1_begin 79 = .ok (.ladd, 1) := by decide +kernel
theorem dX1_begin_80 : decode cX1_begin 80 = .ok (.putfield 84, 3) := by decide +kernel
theorem dX1_begin_83 : decode cX1_begin 83 = .ok (.iinc 1 1, 3) := by decide +kernel
theorem dX1_begin_86 : decode cX1_begin 86 = .ok (.goto (-52), 3) := by decide +kernel
theorem dX1_begin_89 : decode cX1_begin 89 = .ok (.aload_n 0, 1) := by decide +kernel
theorem dX1_begin_90 : decode cX1_begin 90 = .ok (.getfield 18, 3) := by decide +kernel
theorem dX1_begin_93 : decode cX1_begin 93 = .ok (.iconst 0, 1) := by decide +kernel
theorem dX1_begin_94 : decode cX1_begin 94 = .ok (.lconst 0, 1) := by decide +kernel
theorem dX1_begin_95 : decode cX1_begin 95 = .ok (.lastore, 1) := by decide +kernel
theorem dX1_begin_96 : decode cX1_begin 96 = .ok (.aload_n 0, 1) := by decide +kernel
theorem dX1_begin_97 : decode cX1_begin 97 = .ok (.getfield 21, 3) := by decide +kernel
theorem dX1_begin_100 : decode cX1_begin 100 = .ok (.iconst 0, 1) := by decide +kernel
theorem dX1_begin_101 : decode cX1_begin 101 = .ok (.lconst 0, 1) := by decide +kernel
theorem dX1_begin_102 : decode cX1_begin 102 = .ok (.lastore, 1) := by decide +kernel
theorem dX1_begin_103 : decode cX1_begin 103 = .ok (.aload_n 0, 1) := by decide +kernel
theorem dX1_begin_104 : decode cX1_begin 104 = .ok (.getfield 24, 3) := by decide +kernel
theorem dX1_begin_107 : decode cX1_begin 107 = .ok (.iconst 0, 1) := by decide +kernel
theorem dX1_begin_108 : decode cX1_begin 108 = .ok (.lconst 0, 1) := by decide +kernel
theorem dX1_begin_109 : decode cX1_begin 109 = .ok (.lastore, 1) := by decide +kernel
theorem dX1_begin_110 : decode cX1_begin 110 = .ok (.return_, 1) := by decide +kernel
def uXI55 : Nat → Nat → Int32 := q_up uXI54 69 3 0
set_option maxRecDepth 20000 in
theorem uX_X9_all_53 : q_met mX9_all (q_sX uXI55 zJ1) [.ref 2] (fun s r => s = q_sX uXI55 zJ1 ∧ r = some (.long 0)) := by
  refine q_enter (by decide) (Nat.le_of_ble_eq_true rfl) ?_
  refine q_lc (v := 1) dX9_all_0 rfl ?_
  refine q_aload_n dX9_all_1 rfl ?_
  refine q_getf (c := 9) (n := 0) (k := 1) (v := .int 0) dX9_all_2 rfl (by decide) (by decide) fX9_59 rfl ?_
  refine q_lshl dX9_all_5 ?_
  refine q_topL (v := 1) rfl ?_
  refine q_lc (v := 1) dX9_all_6 rfl ?_
  refine q_lsub dX9_all_7 ?_
  refine q_topL (v := 0) rfl ?_
  refine q_lret dX9_all_8 rfl ?_
  exact ⟨rfl, rfl⟩
def uXJ4 : Nat → Nat → Int64 := q_up (q_up (q_up (q_up (q_up zJ1 69 1 0) 69 2 1) 72 0 0) 73 0 0) 74 0 0
set_option maxRecDepth 20000 in
theorem uX_X1_begin_54 : q_met mX1_begin (q_sX uXI54 zJ1) [.ref 69] (fun s r => s = q_sX uXI55 uXJ4 ∧ r = none) := by
  refine q_enter (by decide) (Nat.le_of_ble_eq_true rfl) ?_
  refine q_aload_n dX1_begin_0 rfl ?_
  refine q_aload_n dX1_begin_1 rfl ?_
  refine q_getR (c := 1) (n := 0) (k := 5) (a := 2) dX1_begin_2 rfl (by decide) (by decide) fX1_30 rfl rfl ?_
  refine q_getf (c := 9) (n := 0) (k := 1) (v := .int 0) dX1_begin_5 rfl (by decide) (by decide) fX1_46 rfl ?_
  refine q_putI (c := 1) (n := 0) (k := 3) dX1_begin_8 rfl (by decide) (by decide) fX1_83 rfl rfl ?_
  show q_K _ (q_sX (q_up uXI54 69 3 0) zJ1) _ _ _ _ _ _
  refine q_aload_n dX1_begin_11 rfl ?_
  refine q_aload_n dX1_begin_12 rfl ?_
  refine q_getR (c := 1) (n := 0) (k := 5) (a := 2) dX1_begin_13 rfl (by decide) (by decide) fX1_30 rfl rfl ?_
  show q_K _ (q_sX uXI55 zJ1) _ _ _ _ _ _
  refine q_V0 (ci := 9) (n := 0) dX1_begin_16 DX9_all lX1_65 rfl (by decide) rfl rfl rfl rfl uX_X9_all_53 ?_
  rintro _ _ ⟨rfl, rfl⟩
  refine q_putJ (c := 1) (n := 0) (k := 1) dX1_begin_19 rfl (by decide) (by decide) fX1_51 rfl rfl ?_
  show q_K _ (q_sX uXI55 (q_up zJ1 69 1 0)) _ _ _ _ _ _
  refine q_aload_n dX1_begin_22 rfl ?_
  refine q_aload_n dX1_begin_23 rfl ?_
  refine q_getf (c := 1) (n := 0) (k := 1) (v := .long 0) dX1_begin_24 rfl (by decide) (by decide) fX1_51 rfl ?_
  refine q_lc (v := 1) dX1_begin_27 rfl ?_
  refine q_ladd dX1_begin_28 ?_
  refine q_topL (v := 1) rfl ?_
  refine q_putJ (c := 1) (n := 0) (k := 2) dX1_begin_29 rfl (by decide) (by decide) fX1_84 rfl rfl ?_
  show q_K _ (q_sX uXI55 (q_up (q_up zJ1 69 1 0) 69 2 1)) _ _ _ _ _ _
  refine q_ic (v := 0) dX1_begin_32 rfl ?_
  refine q_istore_n dX1_begin_33 (Nat.le_of_ble_eq_true rfl) ?_
  refine q_iload_n dX1_begin_34 rfl ?_
  refine q_aload_n dX1_begin_35 rfl ?_
  refine q_getf (c := 1) (n := 0) (k := 3) (v := .int 0) dX1_begin_36 rfl (by decide) (by decide) fX1_83 rfl ?_
  refine q_cz_ge (tgt := 89) (a := 0) (b := 0) dX1_begin_39 (by decide) rfl rfl (fun _ => ?_) (fun h => absurd h (by decide))
  refine q_aload_n dX1_begin_89 rfl ?_
  refine q_getR (c := 1) (n := 0) (k := 9) (a := 72) dX1_begin_90 rfl (by decide) (by decide) fX1_18 rfl rfl ?_
  refine q_ic (v := 0) dX1_begin_93 rfl ?_
  refine q_lc (v := 0) dX1_begin_94 rfl ?_
  refine q_last (n := 26) (j := 0) dX1_begin_95 rfl rfl (by decide) ?_
  show q_K _ (q_sX uXI55 (q_up (q_up (q_up zJ1 69 1 0) 69 2 1) 72 0 0)) _ _ _ _ _ _
  refine q_aload_n dX1_begin_96 rfl ?_
  refine q_getR (c := 1) (n := 0) (k := 10) (a := 73) dX1_begin_97 rfl (by decide) (by decide) fX1_21 rfl rfl ?_
  refine q_ic (v := 0) dX1_begin_100 rfl ?_
  refine q_lc (v := 0) dX1_begin_101 rfl ?_
  refine q_last (n := 26) (j := 0) dX1_begin_102 rfl rfl (by decide) ?_
  show q_K _ (q_sX uXI55 (q_up (q_up (q_up (q_up zJ1 69 1 0) 69 2 1) 72 0 0) 73 0 0)) _ _ _ _ _ _
  refine q_aload_n dX1_begin_103 rfl ?_
  refine q_getR (c := 1) (n := 0) (k := 11) (a := 74) dX1_begin_104 rfl (by decide) (by decide) fX1_24 rfl rfl ?_
  refine q_ic (v := 0) dX1_begin_107 rfl ?_
  refine q_lc (v := 0) dX1_begin_108 rfl ?_
  refine q_last (n := 26) (j := 0) dX1_begin_109 rfl rfl (by decide) ?_
  show q_K _ (q_sX uXI55 (q_up (q_up (q_up (q_up (q_up zJ1 69 1 0) 69 2 1) 72 0 0) 73 0 0) 74 0 0)) _ _ _ _ _ _
  show q_K _ (q_sX uXI55 uXJ4) _ _ _ _ _ _
  refine q_ret dX1_begin_110 rfl ?_
  exact ⟨rfl, rfl⟩
theorem dX1_branches_0 : decode cX1_branches 0 = .ok (.iload_n 1, 1) := by decide +kernel
theorem dX1_branches_1 : decode cX1_branches 1 = .ok (.ifCond .lt 9, 3) := by decide +kernel
theorem dX1_branches_4 : decode cX1_branches 4 = .ok (.iload_n 1, 1) := by decide +kernel
theorem dX1_branches_5 : decode cX1_branches 5 = .ok (.bipush 26, 2) := by decide +kernel
theorem dX1_branches_7 : decode cX1_branches 7 = .ok (.if_icmp .lt 5, 3) := by decide +kernel
theorem dX1_branches_10 : decode cX1_branches 10 = .ok (.lconst 0, 1) := by decide +kernel
theorem dX1_branches_11 : decode cX1_branches 11 = .ok (.lreturn, 1) := by decide +kernel
theorem dX1_branches_12 : decode cX1_branches 12 = .ok (.ldc2_w 63, 3) := by decide +kernel
theorem dX1_branches_15 : decode cX1_branches 15 = .ok (.lstore_n 2, 1) := by decide +kernel
theorem dX1_branches_16 : decode cX1_branches 16 = .ok (.lconst 0, 1) := by decide +kernel
theorem dX1_branches_17 : decode cX1_branches 17 = .ok (.lstore 4, 2) := by decide +kernel
theorem dX1_branches_19 : decode cX1_branches 19 = .ok (.aload_n 0, 1) := by decide +kernel
theorem dX1_branches_20 : decode cX1_branches 20 = .ok (.getfield 24, 3) := by decide +kernel
theorem dX1_branches_23 : decode cX1_branches 23 = .ok (.iload_n 1, 1) := by decide +kernel
theorem dX1_branches_24 : decode cX1_branches 24 = .ok (.laload, 1) := by decide +kernel
theorem dX1_branches_25 : decode cX1_branches 25 = .ok (.lstore 6, 2) := by decide +kernel
theorem dX1_branches_27 : decode cX1_branches 27 = .ok (.iconst 0, 1) := by decide +kernel
theorem dX1_branches_28 : decode cX1_branches 28 = .ok (.istore 8, 2) := by decide +kernel
theorem dX1_branches_30 : decode cX1_branches 30 = .ok (.iload 8, 2) := by decide +kernel
theorem dX1_branches_32 : decode cX1_branches 32 = .ok (.aload_n 0, 1) := by decide +kernel
theorem dX1_branches_33 : decode cX1_branches 33 = .ok (.getfield 42, 3) := by decide +kernel
theorem dX1_branches_36 : decode cX1_branches 36 = .ok (.if_icmp .ge 119, 3) := by decide +kernel
theorem dX1_branches_39 : decode cX1_branches 39 = .ok (.iload 8, 2) := by decide +kernel
theorem dX1_branches_41 : decode cX1_branches 41 = .ok (.sipush 512, 3) := by decide +kernel
theorem dX1_branches_44 : decode cX1_branches 44 = .ok (.if_icmp .ge 111, 3) := by decide +kernel
theorem dX1_branches_47 : decode cX1_branches 47 = .ok (.aload_n 0, 1) := by decide +kernel
theorem dX1_branches_48 : decode cX1_branches 48 = .ok (.getfield 11, 3) := by decide +kernel
theorem dX1_branches_51 : decode cX1_branches 51 = .ok (.iload 8, 2) := by decide +kernel
theorem dX1_branches_53 : decode cX1_branches 53 = .ok (.laload, 1) := by decide +kernel
theorem dX1_branches_54 : decode cX1_branches 54 = .ok (.aload_n 0, 1) := by decide +kernel
theorem dX1_branches_55 : decode cX1_branches 55 = .ok (.getfield 18, 3) := by decide +kernel
theorem dX1_branches_58 : decode cX1_branches 58 = .ok (.iload_n 1, 1) := by decide +kernel
theorem dX1_branches_59 : decode cX1_branches 59 = .ok (.laload, 1) := by decide +kernel
theorem dX1_branches_60 : decode cX1_branches 60 = .ok (.land, 1) := by decide +kernel
theorem dX1_branches_61 : decode cX1_branches 61 = .ok (.lconst 0, 1) := by decide +kernel
theorem dX1_branches_62 : decode cX1_branches 62 = .ok (.lcmp, 1) := by decide +kernel
theorem dX1_branches_63 : decode cX1_branches 63 = .ok (.ifCond .eq 6, 3) := by decide +kernel
theorem dX1_branches_66 : decode cX1_branches 66 = .ok (.goto 83, 3) := by decide +kernel
theorem dX1_branches_69 : decode cX1_branches 69 = .ok (.aload_n 0, 1) := by decide +kernel
theorem dX1_branches_70 : decode cX1_branches 70 = .ok (.getfield 11, 3) := by decide +kernel
theorem dX1_branches_73 : decode cX1_branches 73 = .ok (.iload 8, 2) := by decide +kernel
theorem dX1_branches_75 : decode cX1_branches 75 = .ok (.laload, 1) := by decide +kernel
theorem dX1_branches_76 : decode cX1_branches 76 = .ok (.aload_n 0, 1) := by decide +kernel
theorem dX1_branches_77 : decode cX1_branches 77 = .ok (.getfield 21, 3) := by decide +kernel
theorem dX1_branches_80 : decode cX1_branches 80 = .ok (.iload_n 1, 1) := by decide +kernel
theorem dX1_branches_81 : decode cX1_branches 81 = .ok (.laload, 1) := by decide +kernel
theorem dX1_branches_82 : decode cX1_branches 82 = .ok (.ldc2_w 63, 3) := by decide +kernel
theorem dX1_branches_85 : decode cX1_branches 85 = .ok (.lxor, 1) := by decide +kernel
theorem dX1_branches_86 : decode cX1_branches 86 = .ok (.land, 1) := by decide +kernel
theorem dX1_branches_87 : decode cX1_branches 87 = .ok (.lstore 9, 2) := by decide +kernel
theorem dX1_branches_89 : decode cX1_branches 89 = .ok (.lload 9, 2) := by decide +kernel
theorem dX1_branches_91 : decode cX1_branches 91 = .ok (.lconst 0, 1) := by decide +kernel
theorem dX1_branches_92 : decode cX1_branches 92 = .ok (.lcmp, 1) := by decide +kernel
theorem dX1_branches_93 : decode cX1_branches 93 = .ok (.ifCond .ne 5, 3) := by decide +kernel
theorem dX1_branches_96 : decode cX1_branches 96 = .ok (.lconst 0, 1) := by decide +kernel
theorem dX1_branches_97 : decode cX1_branches 97 = .ok (.lreturn, 1) := by decide +kernel
theorem dX1_branches_98 : decode cX1_branches 98 = .ok (.lload 9, 2) := by decide +kernel
theorem dX1_branches_100 : decode cX1_branches 100 = .ok (.lload 4, 2) := by decide +kernel
theorem dX1_branches_102 : decode cX1_branches 102 = .ok (.land, 1) := by decide +kernel
theorem dX1_branches_103 : decode cX1_branches 103 = .ok (.lconst 0, 1) := by decide +kernel
theorem dX1_branches_104 : decode cX1_branches 104 = .ok (.lcmp, 1) := by decide +kernel
theorem dX1_branches_105 : decode cX1_branches 105 = .ok (.ifCond .ne 21, 3) := by decide +kernel
theorem dX1_branches_108 : decode cX1_branches 108 = .ok (.lload 4, 2) := by decide +kernel
theorem dX1_branches_110 : decode cX1_branches 110 = .ok (.lload 9, 2) := by decide +kernel
theorem dX1_branches_112 : decode cX1_branches 112 = .ok (.lor, 1) := by decide +kernel
theorem dX1_branches_113 : decode cX1_branches 113 = .ok (.lstore 4, 2) := by decide +kernel
theorem dX1_branches_115 : decode cX1_branches 115 = .ok (.lload 6, 2) := by decide +kernel
theorem dX1_branches_117 : decode cX1_branches 117 = .ok (.aload_n 0, 1) := by decide +kernel
theorem dX1_branches_118 : decode cX1_branches 118 = .ok (.lload 9, 2) := by decide +kernel
theorem dX1_branches_120 : decode cX1_branches 120 = .ok (.invokevirtual 91, 3) := by decide +kernel
theorem dX1_branches_123 : decode cX1_branches 123 = .ok (.ladd, 1) := by decide +kernel
theorem dX1_branches_124 : decode cX1_branches 124 = .ok (.lstore 6, 2) := by decide +kernel
theorem dX1_branches_126 : decode cX1_branches 126 = .ok (.lload_n 2, 1) := by decide +kernel
theorem dX1_branches_127 : decode cX1_branches 127 = .ok (.ldc2_w 63, 3) := by decide +kernel
theorem dX1_branches_130 : decode cX1_branches 130 = .ok (.lcmp, 1) := by decide +kernel
theorem dX1_branches_131 : decode cX1_branches 131 = .ok (.ifCond .eq 15, 3) := by decide +kernel
theorem dX1_branches_134 : decode cX1_branches 134 = .ok (.lload 9, 2) := by decide +kernel
theorem dX1_branches_136 : decode cX1_branches 136 = .ok (.invokestatic 94, 3) := by decide +kernel
theorem dX1_branches_139 : decode cX1_branches 139 = .ok (.lload_n 2, 1) := by decide +kernel
theorem dX1_branches_140 : decode cX1_branches 140 = .ok (.invokestatic 94, 3) := by decide +kernel
theorem dX1_branches_143 : decode cX1_branches 143 = .ok (.if_icmp .ge 6, 3) := by decide +kernel
theorem dX1_branches_146 : decode cX1_branches 146 = .ok (.lload 9, 2) := by decide +kernel
theorem dX1_branches_148 : decode cX1_branches 148 = .ok (.lstore_n 2, 1) := by decide +kernel
theorem dX1_branches_149 : decode cX1_branches 149 = .ok (.iinc 8 1, 3) := by decide +kernel
theorem dX1_branches_152 : decode cX1_branches 152 = .ok (.goto (-122), 3) := by decide +kernel
theorem dX1_branches_155 : decode cX1_branches 155 = .ok (.lload 6, 2) := by decide +kernel
theorem dX1_branches_157 : decode cX1_branches 157 = .ok (.aload_n 0, 1) := by decide +kernel
theorem dX1_branches_158 : decode cX1_branches 158 = .ok (.getfield 84, 3) := by decide +kernel
theorem dX1_branches_161 : decode cX1_branches 161 = .ok (.lcmp, 1) := by decide +kernel
theorem dX1_branches_162 : decode cX1_branches 162 = .ok (.ifCond .lt 7, 3) := by decide +kernel
theorem dX1_branches_165 : decode cX1_branches 165 = .ok (.lconst 0, 1) := by decide +kernel
theorem dX1_branches_166 : decode cX1_branches 166 = .ok (.goto 4, 3) := by decide +kernel
theorem dX1_branches_169 : decode cX1_branches 169 = .ok (.lload_n 2, 1) := by decide +kernel
theorem dX1_branches_170 : decode cX1_branches 170 = .ok (.lreturn, 1) := by decide +kernel
set_option maxRecDepth 20000 in
theorem uX_X1_branches_55 : q_met mX1_branches (q_sX uXI55 uXJ4) [.ref 69, .int 0] (fun s r => s = q_sX uXI55 uXJ4 ∧ r = some (.long (-1))) := by
  refine q_enter (by decide) (Nat.le_of_ble_eq_true rfl) ?_
  refine q_iload_n dX1_branches_0 rfl ?_
  refine q_iz_lt (tgt := 10) (a := 0) dX1_branches_1 (by decide) rfl (fun h => absurd h (by decide)) (fun _ => ?_)
  refine q_iload_n dX1_branches_4 rfl ?_
  refine q_bi (v := 26) dX1_branches_5 rfl ?_
  refine q_cz_lt (tgt := 12) (a := 0) (b := 26) dX1_branches_7 (by decide) rfl rfl (fun _ => ?_) (fun h => absurd h (by decide))
  refine q_ldc2 (v := (-1)) dX1_branches_12 nX1_63 ?_
  refine q_lstore_n dX1_branches_15 (Nat.le_of_ble_eq_true rfl) ?_
  refine q_lc (v := 0) dX1_branches_16 rfl ?_
  refine q_lstore dX1_branches_17 (Nat.le_of_ble_eq_true rfl) ?_
  refine q_aload_n dX1_branches_19 rfl ?_
  refine q_getR (c := 1) (n := 0) (k := 11) (a := 74) dX1_branches_20 rfl (by decide) (by decide) fX1_24 rfl rfl ?_
  refine q_iload_n dX1_branches_23 rfl ?_
  refine q_lald (n := 26) (j := 0) dX1_branches_24 rfl rfl (by decide) ?_
  refine q_topL (v := 0) rfl ?_
  refine q_lstore dX1_branches_25 (Nat.le_of_ble_eq_true rfl) ?_
  refine q_ic (v := 0) dX1_branches_27 rfl ?_
  refine q_istore dX1_branches_28 (Nat.le_of_ble_eq_true rfl) ?_
  refine q_iload dX1_branches_30 rfl ?_
  refine q_aload_n dX1_branches_32 rfl ?_
  refine q_getf (c := 1) (n := 0) (k := 4) (v := .int 0) dX1_branches_33 rfl (by decide) (by decide) fX1_42 rfl ?_
  refine q_cz_ge (tgt := 155) (a := 0) (b := 0) dX1_branches_36 (by decide) rfl rfl (fun _ => ?_) (fun h => absurd h (by decide))
  refine q_lload dX1_branches_155 rfl ?_
  refine q_aload_n dX1_branches_157 rfl ?_
  refine q_getf (c := 1) (n := 0) (k := 2) (v := .long 1) dX1_branches_158 rfl (by decide) (by decide) fX1_84 rfl ?_
  refine q_lcmp dX1_branches_161 ?_
  refine q_topI (v := (-1)) rfl ?_
  refine q_iz_lt (tgt := 169) (a := -1) dX1_branches_162 (by decide) rfl (fun _ => ?_) (fun h => absurd h (by decide))
  refine q_lload_n dX1_branches_169 rfl ?_
  refine q_lret dX1_branches_170 rfl ?_
  exact ⟨rfl, rfl⟩
def uXJ5 : Nat → Nat → Int64 := q_up uXJ4 75 0 (-1)
set_option maxRecDepth 20000 in
theorem uX_X9_all_56 : q_met mX9_all (q_sX uXI55 uXJ5) [.ref 2] (fun s r => s = q_sX uXI55 uXJ5 ∧ r = some (.long 0)) := by
  refine q_enter (by decide) (Nat.le_of_ble_eq_true rfl) ?_
  refine q_lc (v := 1) dX9_all_0 rfl ?_
  refine q_aload_n dX9_all_1 rfl ?_
  refine q_getf (c := 9) (n := 0) (k := 1) (v := .int 0) dX9_all_2 rfl (by decide) (by decide) fX9_59 rfl ?_
  refine q_lshl dX9_all_5 ?_
  refine q_topL (v := 1) rfl ?_
  refine q_lc (v := 1) dX9_all_6 rfl ?_
  refine q_lsub dX9_all_7 ?_
  refine q_topL (v := 0) rfl ?_
  refine q_lret dX9_all_8 rfl ?_
  exact ⟨rfl, rfl⟩
theorem dX0_coreWithin_0 : decode cX0_coreWithin 0 = .ok (.aload_n 0, 1) := by decide +kernel
theorem dX0_coreWithin_1 : decode cX0_coreWithin 1 = .ok (.lload_n 1, 1) := by decide +kernel
theorem dX0_coreWithin_2 : decode cX0_coreWithin 2 = .ok (.invokevirtual 111, 3) := by decide +kernel
theorem dX0_coreWithin_5 : decode cX0_coreWithin 5 = .ok (.ifCond .ne 5, 3) := by decide +kernel
theorem dX0_coreWithin_8 : decode cX0_coreWithin 8 = .ok (.lconst 0, 1) := by decide +kernel
theorem dX0_coreWithin_9 : decode cX0_coreWithin 9 = .ok (.lreturn, 1) := by decide +kernel
theorem dX0_coreWithin_10 : decode cX0_coreWithin 10 = .ok (.lload_n 1, 1) := by decide +kernel
theorem dX0_coreWithin_11 : decode cX0_coreWithin 11 = .ok (.lstore_n 3, 1) := by decide +kernel
theorem dX0_coreWithin_12 : decode cX0_coreWithin 12 = .ok (.iconst 0, 1) := by decide +kernel
theorem dX0_coreWithin_13 : decode cX0_coreWithin 13 = .ok (.istore 5, 2) := by decide +kernel
theorem dX0_coreWithin_15 : decode cX0_coreWithin 15 = .ok (.iload 5, 2) := by decide +kernel
theorem dX0_coreWithin_17 : decode cX0_coreWithin 17 = .ok (.bipush 40, 2) := by decide +kernel
theorem dX0_coreWithin_19 : decode cX0_coreWithin 19 = .ok (.if_icmp .ge 40, 3) := by decide +kernel
theorem dX0_coreWithin_22 : decode cX0_coreWithin 22 = .ok (.lload_n 3, 1) := by decide +kernel
theorem dX0_coreWithin_23 : decode cX0_coreWithin 23 = .ok (.lconst 1, 1) := by decide +kernel
theorem dX0_coreWithin_24 : decode cX0_coreWithin 24 = .ok (.iload 5, 2) := by decide +kernel
theorem dX0_coreWithin_26 : decode cX0_coreWithin 26 = .ok (.lshl, 1) := by decide +kernel
theorem dX0_coreWithin_27 : decode cX0_coreWithin 27 = .ok (.ldc2_w 130, 3) := by decide +kernel
theorem dX0_coreWithin_30 : decode cX0_coreWithin 30 = .ok (.lxor, 1) := by decide +kernel
theorem dX0_coreWithin_31 : decode cX0_coreWithin 31 = .ok (.land, 1) := by decide +kernel
theorem dX0_coreWithin_32 : decode cX0_coreWithin 32 = .ok (.lstore 6, 2) := by decide +kernel
theorem dX0_coreWithin_34 : decode cX0_coreWithin 34 = .ok (.lload 6, 2) := by decide +kernel
theorem dX0_coreWithin_36 : decode cX0_coreWithin 36 = .ok (.lload_n 3, 1) := by decide +kernel
theorem dX0_coreWithin_37 : decode cX0_coreWithin 37 = .ok (.lcmp, 1) := by decide +kernel
theorem dX0_coreWithin_38 : decode cX0_coreWithin 38 = .ok (.ifCond .eq 15, 3) := by decide +kernel
theorem dX0_coreWithin_41 : decode cX0_coreWithin 41 = .ok (.aload_n 0, 1) := by decide +kernel
theorem dX0_coreWithin_42 : decode cX0_coreWithin 42 = .ok (.lload 6, 2) := by decide +kernel
theorem dX0_coreWithin_44 : decode cX0_coreWithin 44 = .ok (.invokevirtual 111, 3) := by decide +kernel
theorem dX0_coreWithin_47 : decode cX0_coreWithin 47 = .ok (.ifCond .eq 6, 3) := by decide +kernel
theorem dX0_coreWithin_50 : decode cX0_coreWithin 50 = .ok (.lload 6, 2) := by decide +kernel
theorem dX0_coreWithin_52 : decode cX0_coreWithin 52 = .ok (.lstore_n 3, 1) := by decide +kernel
theorem dX0_coreWithin_53 : decode cX0_coreWithin 53 = .ok (.iinc 5 1, 3) := by decide +kernel
theorem dX0_coreWithin_56 : decode cX0_coreWithin 56 = .ok (.goto (-41), 3) := by decide +kernel
theorem dX0_coreWithin_59 : decode cX0_coreWithin 59 = .ok (.lload_n 3, 1) := by decide +kernel
theorem dX0_coreWithin_60 : decode cX0_coreWithin 60 = .ok (.lreturn, 1) := by decide +kernel
def uXI56 : Nat → Nat → Int32 := q_up uXI55 38 2 0
def uXI57 : Nat → Nat → Int32 := q_up (q_up (q_up (q_up (q_up uXI56 38 2 1) 39 0 0) 40 0 0) 41 0 (-1)) 42 0 (-1)
set_option maxRecDepth 20000 in
theorem uX_X4_make_57 : q_met mX4_make (q_sX uXI56 uXJ5) [.ref 38, .int 0, .int (-1), .int (-1)] (fun s r => s = q_sX uXI57 uXJ5 ∧ r = some (.int 0)) := by
  refine q_enter (by decide) (Nat.le_of_ble_eq_true rfl) ?_
  refine q_aload_n dX4_make_0 rfl ?_
  refine q_getf (c := 4) (n := 0) (k := 2) (v := .int 0) dX4_make_1 rfl (by decide) (by decide) fX4_33 rfl ?_
  refine q_iz_lt (tgt := 17) (a := 0) dX4_make_4 (by decide) rfl (fun h => absurd h (by decide)) (fun _ => ?_)
  refine q_aload_n dX4_make_7 rfl ?_
  refine q_getf (c := 4) (n := 0) (k := 2) (v := .int 0) dX4_make_8 rfl (by decide) (by decide) fX4_33 rfl ?_
  refine q_si (v := 5602) dX4_make_11 rfl ?_
  refine q_cz_lt (tgt := 19) (a := 0) (b := 5602) dX4_make_14 (by decide) rfl rfl (fun _ => ?_) (fun h => absurd h (by decide))
  refine q_aload_n dX4_make_19 rfl ?_
  refine q_getf (c := 4) (n := 0) (k := 2) (v := .int 0) dX4_make_20 rfl (by decide) (by decide) fX4_33 rfl ?_
  refine q_istore dX4_make_23 (Nat.le_of_ble_eq_true rfl) ?_
  refine q_aload_n dX4_make_25 rfl ?_
  refine q_dup dX4_make_26 rfl ?_
  refine q_getf (c := 4) (n := 0) (k := 2) (v := .int 0) dX4_make_27 rfl (by decide) (by decide) fX4_33 rfl ?_
  refine q_ic (v := 1) dX4_make_30 rfl ?_
  refine q_iadd dX4_make_31 ?_
  refine q_topI (v := 1) rfl ?_
  refine q_putI (c := 4) (n := 0) (k := 2) dX4_make_32 rfl (by decide) (by decide) fX4_33 rfl rfl ?_
  show q_K _ (q_sX (q_up uXI56 38 2 1) uXJ5) _ _ _ _ _ _
  refine q_aload_n dX4_make_35 rfl ?_
  refine q_getR (c := 4) (n := 0) (k := 3) (a := 39) dX4_make_36 rfl (by decide) (by decide) fX4_11 rfl rfl ?_
  refine q_iload dX4_make_39 rfl ?_
  refine q_iload dX4_make_41 rfl ?_
  refine q_iast (n := 5602) (j := 0) dX4_make_43 rfl rfl (by decide) ?_
  show q_K _ (q_sX (q_up (q_up uXI56 38 2 1) 39 0 0) uXJ5) _ _ _ _ _ _
  refine q_aload_n dX4_make_44 rfl ?_
  refine q_getR (c := 4) (n := 0) (k := 4) (a := 40) dX4_make_45 rfl (by decide) (by decide) fX4_15 rfl rfl ?_
  refine q_iload dX4_make_48 rfl ?_
  refine q_iload_n dX4_make_50 rfl ?_
  refine q_iast (n := 5602) (j := 0) dX4_make_51 rfl rfl (by decide) ?_
  show q_K _ (q_sX (q_up (q_up (q_up uXI56 38 2 1) 39 0 0) 40 0 0) uXJ5) _ _ _ _ _ _
  refine q_aload_n dX4_make_52 rfl ?_
  refine q_getR (c := 4) (n := 0) (k := 5) (a := 41) dX4_make_53 rfl (by decide) (by decide) fX4_18 rfl rfl ?_
  refine q_iload dX4_make_56 rfl ?_
  refine q_iload_n dX4_make_58 rfl ?_
  refine q_iast (n := 5602) (j := 0) dX4_make_59 rfl rfl (by decide) ?_
  show q_K _ (q_sX (q_up (q_up (q_up (q_up uXI56 38 2 1) 39 0 0) 40 0 0) 41 0 (-1)) uXJ5) _ _ _ _ _ _
  refine q_aload_n dX4_make_60 rfl ?_
  refine q_getR (c := 4) (n := 0) (k := 6) (a := 42) dX4_make_61 rfl (by decide) (by decide) fX4_21 rfl rfl ?_
  refine q_iload dX4_make_64 rfl ?_
  refine q_iload_n dX4_make_66 rfl ?_
  refine q_iast (n := 5602) (j := 0) dX4_make_67 rfl rfl (by decide) ?_
  show q_K _ (q_sX (q_up (q_up (q_up (q_up (q_up uXI56 38 2 1) 39 0 0) 40 0 0) 41 0 (-1)) 42 0 (-1)) uXJ5) _ _ _ _ _ _
  refine q_iload dX4_make_68 rfl ?_
  show q_K _ (q_sX uXI57 uXJ5) _ _ _ _ _ _
  refine q_iret dX4_make_70 rfl ?_
  exact ⟨rfl, rfl⟩
def uXI58 : Nat → Nat → Int32 := q_up uXI57 38 0 0
def uXI59 : Nat → Nat → Int32 := q_up (q_up (q_up (q_up (q_up uXI58 38 2 2) 39 1 1) 40 1 1) 41 1 (-1)) 42 1 (-1)
set_option maxRecDepth 20000 in
theorem uX_X4_make_58 : q_met mX4_make (q_sX uXI58 uXJ5) [.ref 38, .int 1, .int (-1), .int (-1)] (fun s r => s = q_sX uXI59 uXJ5 ∧ r = some (.int 1)) := by
  refine q_enter (by decide) (Nat.le_of_ble_eq_true rfl) ?_
  refine q_aload_n dX4_make_0 rfl ?_
  refine q_getf (c := 4) (n := 0) (k := 2) (v := .int 1) dX4_make_1 rfl (by decide) (by decide) fX4_33 rfl ?_
  refine q_iz_lt (tgt := 17) (a := 1) dX4_make_4 (by decide) rfl (fun h => absurd h (by decide)) (fun _ => ?_)
  refine q_aload_n dX4_make_7 rfl ?_
  refine q_getf (c := 4) (n := 0) (k := 2) (v := .int 1) dX4_make_8 rfl (by decide) (by decide) fX4_33 rfl ?_
  refine q_si (v := 5602) dX4_make_11 rfl ?_
  refine q_cz_lt (tgt := 19) (a := 1) (b := 5602) dX4_make_14 (by decide) rfl rfl (fun _ => ?_) (fun h => absurd h (by decide))
  refine q_aload_n dX4_make_19 rfl ?_
  refine q_getf (c := 4) (n := 0) (k := 2) (v := .int 1) dX4_make_20 rfl (by decide) (by decide) fX4_33 rfl ?_
  refine q_istore dX4_make_23 (Nat.le_of_ble_eq_true rfl) ?_
  refine q_aload_n dX4_make_25 rfl ?_
  refine q_dup dX4_make_26 rfl ?_
  refine q_getf (c := 4) (n := 0) (k := 2) (v := .int 1) dX4_make_27 rfl (by decide) (by decide) fX4_33 rfl ?_
  refine q_ic (v := 1) dX4_make_30 rfl ?_
  refine q_iadd dX4_make_31 ?_
  refine q_topI (v := 2) rfl ?_
  refine q_putI (c := 4) (n := 0) (k := 2) dX4_make_32 rfl (by decide) (by decide) fX4_33 rfl rfl ?_
  show q_K _ (q_sX (q_up uXI58 38 2 2) uXJ5) _ _ _ _ _ _
  refine q_aload_n dX4_make_35 rfl ?_
  refine q_getR (c := 4) (n := 0) (k := 3) (a := 39) dX4_make_36 rfl (by decide) (by decide) fX4_11 rfl rfl ?_
  refine q_iload dX4_make_39 rfl ?_
  refine q_iload dX4_make_41 rfl ?_
  refine q_iast (n := 5602) (j := 1) dX4_make_43 rfl rfl (by decide) ?_
  show q_K _ (q_sX (q_up (q_up uXI58 38 2 2) 39 1 1) uXJ5) _ _ _ _ _ _
  refine q_aload_n dX4_make_44 rfl ?_
  refine q_getR (c := 4) (n := 0) (k := 4) (a := 40) dX4_make_45 rfl (by decide) (by decide) fX4_15 rfl rfl ?_
  refine q_iload dX4_make_48 rfl ?_
  refine q_iload_n dX4_make_50 rfl ?_
  refine q_iast (n := 5602) (j := 1) dX4_make_51 rfl rfl (by decide) ?_
  show q_K _ (q_sX (q_up (q_up (q_up uXI58 38 2 2) 39 1 1) 40 1 1) uXJ5) _ _ _ _ _ _
  refine q_aload_n dX4_make_52 rfl ?_
  refine q_getR (c := 4) (n := 0) (k := 5) (a := 41) dX4_make_53 rfl (by decide) (by decide) fX4_18 rfl rfl ?_
  refine q_iload dX4_make_56 rfl ?_
  refine q_iload_n dX4_make_58 rfl ?_
  refine q_iast (n := 5602) (j := 1) dX4_make_59 rfl rfl (by decide) ?_
  show q_K _ (q_sX (q_up (q_up (q_up (q_up uXI58 38 2 2) 39 1 1) 40 1 1) 41 1 (-1)) uXJ5) _ _ _ _ _ _
  refine q_aload_n dX4_make_60 rfl ?_
  refine q_getR (c := 4) (n := 0) (k := 6) (a := 42) dX4_make_61 rfl (by decide) (by decide) fX4_21 rfl rfl ?_
  refine q_iload dX4_make_64 rfl ?_
  refine q_iload_n dX4_make_66 rfl ?_
  refine q_iast (n := 5602) (j := 1) dX4_make_67 rfl rfl (by decide) ?_
  show q_K _ (q_sX (q_up (q_up (q_up (q_up (q_up uXI58 38 2 2) 39 1 1) 40 1 1) 41 1 (-1)) 42 1 (-1)) uXJ5) _ _ _ _ _ _
  refine q_iload dX4_make_68 rfl ?_
  show q_K _ (q_sX uXI59 uXJ5) _ _ _ _ _ _
  refine q_iret dX4_make_70 rfl ?_
  exact ⟨rfl, rfl⟩
def uXI60 : Nat → Nat → Int32 := q_up uXI59 38 1 1
set_option maxRecDepth 20000 in
theorem uX_X4_begin_59 : q_met mX4_begin (q_sX uXI55 uXJ5) [.ref 38, .int 0] (fun s r => s = q_sX uXI60 uXJ5 ∧ r = none) := by
  refine q_enter (by decide) (Nat.le_of_ble_eq_true rfl) ?_
  refine q_aload_n dX4_begin_0 rfl ?_
  refine q_ic (v := 0) dX4_begin_1 rfl ?_
  refine q_putI (c := 4) (n := 0) (k := 2) dX4_begin_2 rfl (by decide) (by decide) fX4_33 rfl rfl ?_
  show q_K _ (q_sX (q_up uXI55 38 2 0) uXJ5) _ _ _ _ _ _
  refine q_ic (v := 0) dX4_begin_5 rfl ?_
  refine q_istore_n dX4_begin_6 (Nat.le_of_ble_eq_true rfl) ?_
  refine q_iload_n dX4_begin_7 rfl ?_
  refine q_iload_n dX4_begin_8 rfl ?_
  refine q_cz_ge (tgt := 33) (a := 0) (b := 0) dX4_begin_9 (by decide) rfl rfl (fun _ => ?_) (fun h => absurd h (by decide))
  refine q_aload_n dX4_begin_33 rfl ?_
  refine q_aload_n dX4_begin_34 rfl ?_
  refine q_ic (v := 0) dX4_begin_35 rfl ?_
  refine q_ic (v := (-1)) dX4_begin_36 rfl ?_
  refine q_ic (v := (-1)) dX4_begin_37 rfl ?_
  show q_K _ (q_sX uXI56 uXJ5) _ _ _ _ _ _
  refine q_V3 (ci := 4) (n := 0) dX4_begin_38 DX4_make lX4_37 rfl (by decide) rfl rfl rfl rfl uX_X4_make_57 ?_
  rintro _ _ ⟨rfl, rfl⟩
  refine q_putI (c := 4) (n := 0) (k := 0) dX4_begin_41 rfl (by decide) (by decide) fX4_41 rfl rfl ?_
  show q_K _ (q_sX (q_up uXI57 38 0 0) uXJ5) _ _ _ _ _ _
  refine q_aload_n dX4_begin_44 rfl ?_
  refine q_aload_n dX4_begin_45 rfl ?_
  refine q_ic (v := 1) dX4_begin_46 rfl ?_
  refine q_ic (v := (-1)) dX4_begin_47 rfl ?_
  refine q_ic (v := (-1)) dX4_begin_48 rfl ?_
  show q_K _ (q_sX uXI58 uXJ5) _ _ _ _ _ _
  refine q_V3 (ci := 4) (n := 0) dX4_begin_49 DX4_make lX4_37 rfl (by decide) rfl rfl rfl rfl uX_X4_make_58 ?_
  rintro _ _ ⟨rfl, rfl⟩
  refine q_putI (c := 4) (n := 0) (k := 1) dX4_begin_52 rfl (by decide) (by decide) fX4_44 rfl rfl ?_
  show q_K _ (q_sX (q_up uXI59 38 1 1) uXJ5) _ _ _ _ _ _
  show q_K _ (q_sX uXI60 uXJ5) _ _ _ _ _ _
  refine q_ret dX4_begin_55 rfl ?_
  exact ⟨rfl, rfl⟩
def uXI61 : Nat → Nat → Int32 := q_up (q_up uXI60 43 0 0) 43 1 0
set_option maxRecDepth 20000 in
theorem uX_X4_chief_60 : q_met mX4_chief (q_sX uXI61 uXJ5) [.ref 38, .int (-1)] (fun s r => s = q_sX uXI61 uXJ5 ∧ r = some (.int (-1))) := by
  refine q_enter (by decide) (Nat.le_of_ble_eq_true rfl) ?_
  refine q_iload_n dX4_chief_0 rfl ?_
  refine q_iz_lt (tgt := 19) (a := -1) dX4_chief_1 (by decide) rfl (fun _ => ?_) (fun h => absurd h (by decide))
  refine q_ic (v := (-1)) dX4_chief_19 rfl ?_
  refine q_iret dX4_chief_20 rfl ?_
  exact ⟨rfl, rfl⟩
set_option maxRecDepth 20000 in
theorem uX_X4_countPart_61 : q_met mX4_countPart (q_sX uXI61 uXJ5) [.ref 38, .int (-1)] (fun s r => s = q_sX uXI61 uXJ5 ∧ r = none) := by
  refine q_enter (by decide) (Nat.le_of_ble_eq_true rfl) ?_
  refine q_aload_n dX4_countPart_0 rfl ?_
  refine q_iload_n dX4_countPart_1 rfl ?_
  refine q_V1 (ci := 4) (n := 0) dX4_countPart_2 DX4_chief lX4_48 rfl (by decide) rfl rfl rfl rfl uX_X4_chief_60 ?_
  rintro _ _ ⟨rfl, rfl⟩
  refine q_istore_n dX4_countPart_5 (Nat.le_of_ble_eq_true rfl) ?_
  refine q_iload_n dX4_countPart_6 rfl ?_
  refine q_ic (v := (-1)) dX4_countPart_7 rfl ?_
  refine q_cz_eq (tgt := 21) (a := -1) (b := -1) dX4_countPart_8 (by decide) rfl rfl (fun _ => ?_) (fun h => absurd h (by decide))
  refine q_ret dX4_countPart_21 rfl ?_
  exact ⟨rfl, rfl⟩
def uXI62 : Nat → Nat → Int32 := q_up uXI61 44 0 0
def uXI63 : Nat → Nat → Int32 := q_up uXI62 44 1 (0 + 1)
set_option maxRecDepth 20000 in
theorem uX_X4_chief_62 : q_met mX4_chief (q_sX uXI63 uXJ5) [.ref 38, .int (-1)] (fun s r => s = q_sX uXI63 uXJ5 ∧ r = some (.int (-1))) := by
  refine q_enter (by decide) (Nat.le_of_ble_eq_true rfl) ?_
  refine q_iload_n dX4_chief_0 rfl ?_
  refine q_iz_lt (tgt := 19) (a := -1) dX4_chief_1 (by decide) rfl (fun _ => ?_) (fun h => absurd h (by decide))
  refine q_ic (v := (-1)) dX4_chief_19 rfl ?_
  refine q_iret dX4_chief_20 rfl ?_
  exact ⟨rfl, rfl⟩
set_option maxRecDepth 20000 in
theorem uX_X4_takePart_63 : q_met mX4_takePart (q_sX uXI63 uXJ5) [.ref 38, .int (-1), .int ((0 + 1) + 1)] (fun s r => s = q_sX uXI63 uXJ5 ∧ r = some (.int ((0 + 1) + 1))) := by
  refine q_enter (by decide) (Nat.le_of_ble_eq_true rfl) ?_
  refine q_aload_n dX4_takePart_0 rfl ?_
  refine q_iload_n dX4_takePart_1 rfl ?_
  refine q_V1 (ci := 4) (n := 0) dX4_takePart_2 DX4_chief lX4_48 rfl (by decide) rfl rfl rfl rfl uX_X4_chief_62 ?_
  rintro _ _ ⟨rfl, rfl⟩
  refine q_istore_n dX4_takePart_5 (Nat.le_of_ble_eq_true rfl) ?_
  refine q_iload_n dX4_takePart_6 rfl ?_
  refine q_ic (v := (-1)) dX4_takePart_7 rfl ?_
  refine q_cz_ne (tgt := 13) (a := -1) (b := -1) dX4_takePart_8 (by decide) rfl rfl (fun h => absurd h (by decide)) (fun _ => ?_)
  refine q_iload_n dX4_takePart_11 rfl ?_
  refine q_iret dX4_takePart_12 rfl ?_
  exact ⟨rfl, rfl⟩
set_option maxRecDepth 20000 in
theorem uX_X4_hasRing_64 : q_met mX4_hasRing (q_sX uXI60 uXJ5) [.ref 38] (fun s r => s = q_sX uXI63 uXJ5 ∧ r = some (.int 0)) := by
  refine q_enter (by decide) (Nat.le_of_ble_eq_true rfl) ?_
  refine q_ic (v := 0) dX4_hasRing_0 rfl ?_
  refine q_istore_n dX4_hasRing_1 (Nat.le_of_ble_eq_true rfl) ?_
  refine q_ic (v := 0) dX4_hasRing_2 rfl ?_
  refine q_istore_n dX4_hasRing_3 (Nat.le_of_ble_eq_true rfl) ?_
  refine q_iload_n dX4_hasRing_4 rfl ?_
  refine q_aload_n dX4_hasRing_5 rfl ?_
  refine q_getf (c := 4) (n := 0) (k := 2) (v := .int 2) dX4_hasRing_6 rfl (by decide) (by decide) fX4_33 rfl ?_
  refine q_cz_ge (tgt := 32) (a := 0) (b := 2) dX4_hasRing_9 (by decide) rfl rfl (fun h => absurd h (by decide)) (fun _ => ?_)
  refine q_iload_n dX4_hasRing_12 rfl ?_
  refine q_si (v := 5602) dX4_hasRing_13 rfl ?_
  refine q_cz_ge (tgt := 32) (a := 0) (b := 5602) dX4_hasRing_16 (by decide) rfl rfl (fun h => absurd h (by decide)) (fun _ => ?_)
  refine q_aload_n dX4_hasRing_19 rfl ?_
  refine q_getR (c := 4) (n := 0) (k := 7) (a := 43) dX4_hasRing_20 rfl (by decide) (by decide) fX4_24 rfl rfl ?_
  refine q_iload_n dX4_hasRing_23 rfl ?_
  refine q_ic (v := 0) dX4_hasRing_24 rfl ?_
  refine q_iast (n := 5602) (j := 0) dX4_hasRing_25 rfl rfl (by decide) ?_
  show q_K _ (q_sX (q_up uXI60 43 0 0) uXJ5) _ _ _ _ _ _
  refine q_inc (v := 1) dX4_hasRing_26 rfl (Nat.le_of_ble_eq_true rfl) rfl ?_
  refine q_goto (tgt := 4) dX4_hasRing_29 (by decide) ?_
  refine q_iload_n dX4_hasRing_4 rfl ?_
  refine q_aload_n dX4_hasRing_5 rfl ?_
  refine q_getf (c := 4) (n := 0) (k := 2) (v := .int 2) dX4_hasRing_6 rfl (by decide) (by decide) fX4_33 rfl ?_
  refine q_cz_ge (tgt := 32) (a := 1) (b := 2) dX4_hasRing_9 (by decide) rfl rfl (fun h => absurd h (by decide)) (fun _ => ?_)
  refine q_iload_n dX4_hasRing_12 rfl ?_
  refine q_si (v := 5602) dX4_hasRing_13 rfl ?_
  refine q_cz_ge (tgt := 32) (a := 1) (b := 5602) dX4_hasRing_16 (by decide) rfl rfl (fun h => absurd h (by decide)) (fun _ => ?_)
  refine q_aload_n dX4_hasRing_19 rfl ?_
  refine q_getR (c := 4) (n := 0) (k := 7) (a := 43) dX4_hasRing_20 rfl (by decide) (by decide) fX4_24 rfl rfl ?_
  refine q_iload_n dX4_hasRing_23 rfl ?_
  refine q_ic (v := 0) dX4_hasRing_24 rfl ?_
  refine q_iast (n := 5602) (j := 1) dX4_hasRing_25 rfl rfl (by decide) ?_
  show q_K _ (q_sX (q_up (q_up uXI60 43 0 0) 43 1 0) uXJ5) _ _ _ _ _ _
  refine q_inc (v := 1) dX4_hasRing_26 rfl (Nat.le_of_ble_eq_true rfl) rfl ?_
  refine q_goto (tgt := 4) dX4_hasRing_29 (by decide) ?_
  refine q_iload_n dX4_hasRing_4 rfl ?_
  refine q_aload_n dX4_hasRing_5 rfl ?_
  refine q_getf (c := 4) (n := 0) (k := 2) (v := .int 2) dX4_hasRing_6 rfl (by decide) (by decide) fX4_33 rfl ?_
  refine q_cz_ge (tgt := 32) (a := 2) (b := 2) dX4_hasRing_9 (by decide) rfl rfl (fun _ => ?_) (fun h => absurd h (by decide))
  refine q_ic (v := 0) dX4_hasRing_32 rfl ?_
  refine q_istore_n dX4_hasRing_33 (Nat.le_of_ble_eq_true rfl) ?_
  refine q_iload_n dX4_hasRing_34 rfl ?_
  refine q_aload_n dX4_hasRing_35 rfl ?_
  refine q_getf (c := 4) (n := 0) (k := 2) (v := .int 2) dX4_hasRing_36 rfl (by decide) (by decide) fX4_33 rfl ?_
  refine q_cz_ge (tgt := 88) (a := 0) (b := 2) dX4_hasRing_39 (by decide) rfl rfl (fun h => absurd h (by decide)) (fun _ => ?_)
  refine q_iload_n dX4_hasRing_42 rfl ?_
  refine q_si (v := 5602) dX4_hasRing_43 rfl ?_
  refine q_cz_ge (tgt := 88) (a := 0) (b := 5602) dX4_hasRing_46 (by decide) rfl rfl (fun h => absurd h (by decide)) (fun _ => ?_)
  refine q_aload_n dX4_hasRing_49 rfl ?_
  refine q_getR (c := 4) (n := 0) (k := 3) (a := 39) dX4_hasRing_50 rfl (by decide) (by decide) fX4_11 rfl rfl ?_
  refine q_iload_n dX4_hasRing_53 rfl ?_
  refine q_iald (n := 5602) (j := 0) dX4_hasRing_54 rfl rfl (by decide) ?_
  refine q_topI (v := 0) rfl ?_
  refine q_iload_n dX4_hasRing_55 rfl ?_
  refine q_cz_ne (tgt := 82) (a := 0) (b := 0) dX4_hasRing_56 (by decide) rfl rfl (fun h => absurd h (by decide)) (fun _ => ?_)
  refine q_inc (v := 1) dX4_hasRing_59 rfl (Nat.le_of_ble_eq_true rfl) rfl ?_
  refine q_aload_n dX4_hasRing_62 rfl ?_
  refine q_aload_n dX4_hasRing_63 rfl ?_
  refine q_getR (c := 4) (n := 0) (k := 5) (a := 41) dX4_hasRing_64 rfl (by decide) (by decide) fX4_18 rfl rfl ?_
  refine q_iload_n dX4_hasRing_67 rfl ?_
  refine q_iald (n := 5602) (j := 0) dX4_hasRing_68 rfl rfl (by decide) ?_
  refine q_topI (v := (-1)) rfl ?_
  show q_K _ (q_sX uXI61 uXJ5) _ _ _ _ _ _
  refine q_V1 (ci := 4) (n := 0) dX4_hasRing_69 DX4_countPart lX4_58 rfl (by decide) rfl rfl rfl rfl uX_X4_countPart_61 ?_
  rintro _ _ ⟨rfl, rfl⟩
  refine q_aload_n dX4_hasRing_72 rfl ?_
  refine q_aload_n dX4_hasRing_73 rfl ?_
  refine q_getR (c := 4) (n := 0) (k := 6) (a := 42) dX4_hasRing_74 rfl (by decide) (by decide) fX4_21 rfl rfl ?_
  refine q_iload_n dX4_hasRing_77 rfl ?_
  refine q_iald (n := 5602) (j := 0) dX4_hasRing_78 rfl rfl (by decide) ?_
  refine q_topI (v := (-1)) rfl ?_
  refine q_V1 (ci := 4) (n := 0) dX4_hasRing_79 DX4_countPart lX4_58 rfl (by decide) rfl rfl rfl rfl uX_X4_countPart_61 ?_
  rintro _ _ ⟨rfl, rfl⟩
  refine q_inc (v := 1) dX4_hasRing_82 rfl (Nat.le_of_ble_eq_true rfl) rfl ?_
  refine q_goto (tgt := 34) dX4_hasRing_85 (by decide) ?_
  refine q_iload_n dX4_hasRing_34 rfl ?_
  refine q_aload_n dX4_hasRing_35 rfl ?_
  refine q_getf (c := 4) (n := 0) (k := 2) (v := .int 2) dX4_hasRing_36 rfl (by decide) (by decide) fX4_33 rfl ?_
  refine q_cz_ge (tgt := 88) (a := 1) (b := 2) dX4_hasRing_39 (by decide) rfl rfl (fun h => absurd h (by decide)) (fun _ => ?_)
  refine q_iload_n dX4_hasRing_42 rfl ?_
  refine q_si (v := 5602) dX4_hasRing_43 rfl ?_
  refine q_cz_ge (tgt := 88) (a := 1) (b := 5602) dX4_hasRing_46 (by decide) rfl rfl (fun h => absurd h (by decide)) (fun _ => ?_)
  refine q_aload_n dX4_hasRing_49 rfl ?_
  refine q_getR (c := 4) (n := 0) (k := 3) (a := 39) dX4_hasRing_50 rfl (by decide) (by decide) fX4_11 rfl rfl ?_
  refine q_iload_n dX4_hasRing_53 rfl ?_
  refine q_iald (n := 5602) (j := 1) dX4_hasRing_54 rfl rfl (by decide) ?_
  refine q_topI (v := 1) rfl ?_
  refine q_iload_n dX4_hasRing_55 rfl ?_
  refine q_cz_ne (tgt := 82) (a := 1) (b := 1) dX4_hasRing_56 (by decide) rfl rfl (fun h => absurd h (by decide)) (fun _ => ?_)
  refine q_inc (v := 1) dX4_hasRing_59 rfl (Nat.le_of_ble_eq_true rfl) rfl ?_
  refine q_aload_n dX4_hasRing_62 rfl ?_
  refine q_aload_n dX4_hasRing_63 rfl ?_
  refine q_getR (c := 4) (n := 0) (k := 5) (a := 41) dX4_hasRing_64 rfl (by decide) (by decide) fX4_18 rfl rfl ?_
  refine q_iload_n dX4_hasRing_67 rfl ?_
  refine q_iald (n := 5602) (j := 1) dX4_hasRing_68 rfl rfl (by decide) ?_
  refine q_topI (v := (-1)) rfl ?_
  refine q_V1 (ci := 4) (n := 0) dX4_hasRing_69 DX4_countPart lX4_58 rfl (by decide) rfl rfl rfl rfl uX_X4_countPart_61 ?_
  rintro _ _ ⟨rfl, rfl⟩
  refine q_aload_n dX4_hasRing_72 rfl ?_
  refine q_aload_n dX4_hasRing_73 rfl ?_
  refine q_getR (c := 4) (n := 0) (k := 6) (a := 42) dX4_hasRing_74 rfl (by decide) (by decide) fX4_21 rfl rfl ?_
  refine q_iload_n dX4_hasRing_77 rfl ?_
  refine q_iald (n := 5602) (j := 1) dX4_hasRing_78 rfl rfl (by decide) ?_
  refine q_topI (v := (-1)) rfl ?_
  refine q_V1 (ci := 4) (n := 0) dX4_hasRing_79 DX4_countPart lX4_58 rfl (by decide) rfl rfl rfl rfl uX_X4_countPart_61 ?_
  rintro _ _ ⟨rfl, rfl⟩
  refine q_inc (v := 1) dX4_hasRing_82 rfl (Nat.le_of_ble_eq_true rfl) rfl ?_
  refine q_goto (tgt := 34) dX4_hasRing_85 (by decide) ?_
  refine q_iload_n dX4_hasRing_34 rfl ?_
  refine q_aload_n dX4_hasRing_35 rfl ?_
  refine q_getf (c := 4) (n := 0) (k := 2) (v := .int 2) dX4_hasRing_36 rfl (by decide) (by decide) fX4_33 rfl ?_
  refine q_cz_ge (tgt := 88) (a := 2) (b := 2) dX4_hasRing_39 (by decide) rfl rfl (fun _ => ?_) (fun h => absurd h (by decide))
  refine q_ic (v := 0) dX4_hasRing_88 rfl ?_
  refine q_istore_n dX4_hasRing_89 (Nat.le_of_ble_eq_true rfl) ?_
  refine q_ic (v := 0) dX4_hasRing_90 rfl ?_
  refine q_istore_n dX4_hasRing_91 (Nat.le_of_ble_eq_true rfl) ?_
  refine q_iload_n dX4_hasRing_92 rfl ?_
  refine q_aload_n dX4_hasRing_93 rfl ?_
  refine q_getf (c := 4) (n := 0) (k := 2) (v := .int 2) dX4_hasRing_94 rfl (by decide) (by decide) fX4_33 rfl ?_
  refine q_cz_ge (tgt := 142) (a := 0) (b := 2) dX4_hasRing_97 (by decide) rfl rfl (fun h => absurd h (by decide)) (fun _ => ?_)
  refine q_iload_n dX4_hasRing_100 rfl ?_
  refine q_si (v := 5602) dX4_hasRing_101 rfl ?_
  refine q_cz_ge (tgt := 142) (a := 0) (b := 5602) dX4_hasRing_104 (by decide) rfl rfl (fun h => absurd h (by decide)) (fun _ => ?_)
  refine q_aload_n dX4_hasRing_107 rfl ?_
  refine q_getR (c := 4) (n := 0) (k := 3) (a := 39) dX4_hasRing_108 rfl (by decide) (by decide) fX4_11 rfl rfl ?_
  refine q_iload_n dX4_hasRing_111 rfl ?_
  refine q_iald (n := 5602) (j := 0) dX4_hasRing_112 rfl rfl (by decide) ?_
  refine q_topI (v := 0) rfl ?_
  refine q_iload_n dX4_hasRing_113 rfl ?_
  refine q_cz_ne (tgt := 136) (a := 0) (b := 0) dX4_hasRing_114 (by decide) rfl rfl (fun h => absurd h (by decide)) (fun _ => ?_)
  refine q_aload_n dX4_hasRing_117 rfl ?_
  refine q_getR (c := 4) (n := 0) (k := 7) (a := 43) dX4_hasRing_118 rfl (by decide) (by decide) fX4_24 rfl rfl ?_
  refine q_iload_n dX4_hasRing_121 rfl ?_
  refine q_iald (n := 5602) (j := 0) dX4_hasRing_122 rfl rfl (by decide) ?_
  refine q_topI (v := 0) rfl ?_
  refine q_iz_ne (tgt := 136) (a := 0) dX4_hasRing_123 (by decide) rfl (fun h => absurd h (by decide)) (fun _ => ?_)
  refine q_aload_n dX4_hasRing_126 rfl ?_
  refine q_getR (c := 4) (n := 0) (k := 8) (a := 44) dX4_hasRing_127 rfl (by decide) (by decide) fX4_27 rfl rfl ?_
  refine q_iload_n dX4_hasRing_130 rfl ?_
  refine q_iload_n dX4_hasRing_131 rfl ?_
  refine q_iast (n := 5604) (j := 0) dX4_hasRing_132 rfl rfl (by decide) ?_
  show q_K _ (q_sX uXI62 uXJ5) _ _ _ _ _ _
  refine q_inc (v := 1) dX4_hasRing_133 rfl (Nat.le_of_ble_eq_true rfl) rfl ?_
  refine q_inc (v := 1) dX4_hasRing_136 rfl (Nat.le_of_ble_eq_true rfl) rfl ?_
  refine q_goto (tgt := 92) dX4_hasRing_139 (by decide) ?_
  refine q_iload_n dX4_hasRing_92 rfl ?_
  refine q_aload_n dX4_hasRing_93 rfl ?_
  refine q_getf (c := 4) (n := 0) (k := 2) (v := .int 2) dX4_hasRing_94 rfl (by decide) (by decide) fX4_33 rfl ?_
  refine q_cz_ge (tgt := 142) (a := 1) (b := 2) dX4_hasRing_97 (by decide) rfl rfl (fun h => absurd h (by decide)) (fun _ => ?_)
  refine q_iload_n dX4_hasRing_100 rfl ?_
  refine q_si (v := 5602) dX4_hasRing_101 rfl ?_
  refine q_cz_ge (tgt := 142) (a := 1) (b := 5602) dX4_hasRing_104 (by decide) rfl rfl (fun h => absurd h (by decide)) (fun _ => ?_)
  refine q_aload_n dX4_hasRing_107 rfl ?_
  refine q_getR (c := 4) (n := 0) (k := 3) (a := 39) dX4_hasRing_108 rfl (by decide) (by decide) fX4_11 rfl rfl ?_
  refine q_iload_n dX4_hasRing_111 rfl ?_
  refine q_iald (n := 5602) (j := 1) dX4_hasRing_112 rfl rfl (by decide) ?_
  refine q_topI (v := 1) rfl ?_
  refine q_iload_n dX4_hasRing_113 rfl ?_
  refine q_cz_ne (tgt := 136) (a := 1) (b := 1) dX4_hasRing_114 (by decide) rfl rfl (fun h => absurd h (by decide)) (fun _ => ?_)
  refine q_aload_n dX4_hasRing_117 rfl ?_
  refine q_getR (c := 4) (n := 0) (k := 7) (a := 43) dX4_hasRing_118 rfl (by decide) (by decide) fX4_24 rfl rfl ?_
  refine q_iload_n dX4_hasRing_121 rfl ?_
  refine q_iald (n := 5602) (j := 1) dX4_hasRing_122 rfl rfl (by decide) ?_
  refine q_topI (v := 0) rfl ?_
  refine q_iz_ne (tgt := 136) (a := 0) dX4_hasRing_123 (by decide) rfl (fun h => absurd h (by decide)) (fun _ => ?_)
  refine q_aload_n dX4_hasRing_126 rfl ?_
  refine q_getR (c := 4) (n := 0) (k := 8) (a := 44) dX4_hasRing_127 rfl (by decide) (by decide) fX4_27 rfl rfl ?_
  refine q_iload_n dX4_hasRing_130 rfl ?_
  refine q_iload_n dX4_hasRing_131 rfl ?_
  refine q_iast (n := 5604) (j := 1) dX4_hasRing_132 rfl rfl (by decide) ?_
  show q_K _ (q_sX (q_up uXI62 44 1 (0 + 1)) uXJ5) _ _ _ _ _ _
  refine q_inc (v := 1) dX4_hasRing_133 rfl (Nat.le_of_ble_eq_true rfl) rfl ?_
  refine q_inc (v := 1) dX4_hasRing_136 rfl (Nat.le_of_ble_eq_true rfl) rfl ?_
  refine q_goto (tgt := 92) dX4_hasRing_139 (by decide) ?_
  refine q_iload_n dX4_hasRing_92 rfl ?_
  refine q_aload_n dX4_hasRing_93 rfl ?_
  refine q_getf (c := 4) (n := 0) (k := 2) (v := .int 2) dX4_hasRing_94 rfl (by decide) (by decide) fX4_33 rfl ?_
  refine q_cz_ge (tgt := 142) (a := 2) (b := 2) dX4_hasRing_97 (by decide) rfl rfl (fun _ => ?_) (fun h => absurd h (by decide))
  refine q_ic (v := 0) dX4_hasRing_142 rfl ?_
  refine q_istore_n dX4_hasRing_143 (Nat.le_of_ble_eq_true rfl) ?_
  refine q_iload_n dX4_hasRing_144 rfl ?_
  refine q_iload_n dX4_hasRing_145 rfl ?_
  refine q_cz_ge (tgt := 196) (a := 0) (b := 2) dX4_hasRing_146 (by decide) rfl rfl (fun h => absurd h (by decide)) (fun _ => ?_)
  refine q_iload_n dX4_hasRing_149 rfl ?_
  refine q_si (v := 5602) dX4_hasRing_150 rfl ?_
  refine q_cz_ge (tgt := 196) (a := 0) (b := 5602) dX4_hasRing_153 (by decide) rfl rfl (fun h => absurd h (by decide)) (fun _ => ?_)
  refine q_aload_n dX4_hasRing_156 rfl ?_
  refine q_aload_n dX4_hasRing_157 rfl ?_
  refine q_getR (c := 4) (n := 0) (k := 5) (a := 41) dX4_hasRing_158 rfl (by decide) (by decide) fX4_18 rfl rfl ?_
  refine q_aload_n dX4_hasRing_161 rfl ?_
  refine q_getR (c := 4) (n := 0) (k := 8) (a := 44) dX4_hasRing_162 rfl (by decide) (by decide) fX4_27 rfl rfl ?_
  refine q_iload_n dX4_hasRing_165 rfl ?_
  refine q_iald (n := 5604) (j := 0) dX4_hasRing_166 rfl rfl (by decide) ?_
  refine q_topI (v := 0) rfl ?_
  refine q_iald (n := 5602) (j := 0) dX4_hasRing_167 rfl rfl (by decide) ?_
  refine q_topI (v := (-1)) rfl ?_
  refine q_iload_n dX4_hasRing_168 rfl ?_
  show q_K _ (q_sX uXI63 uXJ5) _ _ _ _ _ _
  refine q_V2 (ci := 4) (n := 0) dX4_hasRing_169 DX4_takePart lX4_62 rfl (by decide) rfl rfl rfl rfl uX_X4_takePart_63 ?_
  rintro _ _ ⟨rfl, rfl⟩
  refine q_istore_n dX4_hasRing_172 (Nat.le_of_ble_eq_true rfl) ?_
  refine q_aload_n dX4_hasRing_173 rfl ?_
  refine q_aload_n dX4_hasRing_174 rfl ?_
  refine q_getR (c := 4) (n := 0) (k := 6) (a := 42) dX4_hasRing_175 rfl (by decide) (by decide) fX4_21 rfl rfl ?_
  refine q_aload_n dX4_hasRing_178 rfl ?_
  refine q_getR (c := 4) (n := 0) (k := 8) (a := 44) dX4_hasRing_179 rfl (by decide) (by decide) fX4_27 rfl rfl ?_
  refine q_iload_n dX4_hasRing_182 rfl ?_
  refine q_iald (n := 5604) (j := 0) dX4_hasRing_183 rfl rfl (by decide) ?_
  refine q_topI (v := 0) rfl ?_
  refine q_iald (n := 5602) (j := 0) dX4_hasRing_184 rfl rfl (by decide) ?_
  refine q_topI (v := (-1)) rfl ?_
  refine q_iload_n dX4_hasRing_185 rfl ?_
  refine q_V2 (ci := 4) (n := 0) dX4_hasRing_186 DX4_takePart lX4_62 rfl (by decide) rfl rfl rfl rfl uX_X4_takePart_63 ?_
  rintro _ _ ⟨rfl, rfl⟩
  refine q_istore_n dX4_hasRing_189 (Nat.le_of_ble_eq_true rfl) ?_
  refine q_inc (v := 1) dX4_hasRing_190 rfl (Nat.le_of_ble_eq_true rfl) rfl ?_
  refine q_goto (tgt := 144) dX4_hasRing_193 (by decide) ?_
  refine q_iload_n dX4_hasRing_144 rfl ?_
  refine q_iload_n dX4_hasRing_145 rfl ?_
  refine q_cz_ge (tgt := 196) (a := 1) (b := 2) dX4_hasRing_146 (by decide) rfl rfl (fun h => absurd h (by decide)) (fun _ => ?_)
  refine q_iload_n dX4_hasRing_149 rfl ?_
  refine q_si (v := 5602) dX4_hasRing_150 rfl ?_
  refine q_cz_ge (tgt := 196) (a := 1) (b := 5602) dX4_hasRing_153 (by decide) rfl rfl (fun h => absurd h (by decide)) (fun _ => ?_)
  refine q_aload_n dX4_hasRing_156 rfl ?_
  refine q_aload_n dX4_hasRing_157 rfl ?_
  refine q_getR (c := 4) (n := 0) (k := 5) (a := 41) dX4_hasRing_158 rfl (by decide) (by decide) fX4_18 rfl rfl ?_
  refine q_aload_n dX4_hasRing_161 rfl ?_
  refine q_getR (c := 4) (n := 0) (k := 8) (a := 44) dX4_hasRing_162 rfl (by decide) (by decide) fX4_27 rfl rfl ?_
  refine q_iload_n dX4_hasRing_165 rfl ?_
  refine q_iald (n := 5604) (j := 1) dX4_hasRing_166 rfl rfl (by decide) ?_
  refine q_topI (v := 1) rfl ?_
  refine q_iald (n := 5602) (j := 1) dX4_hasRing_167 rfl rfl (by decide) ?_
  refine q_topI (v := (-1)) rfl ?_
  refine q_iload_n dX4_hasRing_168 rfl ?_
  refine q_V2 (ci := 4) (n := 0) dX4_hasRing_169 DX4_takePart lX4_62 rfl (by decide) rfl rfl rfl rfl uX_X4_takePart_63 ?_
  rintro _ _ ⟨rfl, rfl⟩
  refine q_istore_n dX4_hasRing_172 (Nat.le_of_ble_eq_true rfl) ?_
  refine q_aload_n dX4_hasRing_173 rfl ?_
  refine q_aload_n dX4_hasRing_174 rfl ?_
  refine q_getR (c := 4) (n := 0) (k := 6) (a := 42) dX4_hasRing_175 rfl (by decide) (by decide) fX4_21 rfl rfl ?_
  refine q_aload_n dX4_hasRing_178 rfl ?_
  refine q_getR (c := 4) (n := 0) (k := 8) (a := 44) dX4_hasRing_179 rfl (by decide) (by decide) fX4_27 rfl rfl ?_
  refine q_iload_n dX4_hasRing_182 rfl ?_
  refine q_iald (n := 5604) (j := 1) dX4_hasRing_183 rfl rfl (by decide) ?_
  refine q_topI (v := 1) rfl ?_
  refine q_iald (n := 5602) (j := 1) dX4_hasRing_184 rfl rfl (by decide) ?_
  refine q_topI (v := (-1)) rfl ?_
  refine q_iload_n dX4_hasRing_185 rfl ?_
  refine q_V2 (ci := 4) (n := 0) dX4_hasRing_186 DX4_takePart lX4_62 rfl (by decide) rfl rfl rfl rfl uX_X4_takePart_63 ?_
  rintro _ _ ⟨rfl, rfl⟩
  refine q_istore_n dX4_hasRing_189 (Nat.le_of_ble_eq_true rfl) ?_
  refine q_inc (v := 1) dX4_hasRing_190 rfl (Nat.le_of_ble_eq_true rfl) rfl ?_
  refine q_goto (tgt := 144) dX4_hasRing_193 (by decide) ?_
  refine q_iload_n dX4_hasRing_144 rfl ?_
  refine q_iload_n dX4_hasRing_145 rfl ?_
  refine q_cz_ge (tgt := 196) (a := 2) (b := 2) dX4_hasRing_146 (by decide) rfl rfl (fun _ => ?_) (fun h => absurd h (by decide))
  refine q_iload_n dX4_hasRing_196 rfl ?_
  refine q_iload_n dX4_hasRing_197 rfl ?_
  refine q_cz_ge (tgt := 205) (a := 2) (b := 2) dX4_hasRing_198 (by decide) rfl rfl (fun _ => ?_) (fun h => absurd h (by decide))
  refine q_ic (v := 0) dX4_hasRing_205 rfl ?_
  refine q_zret dX4_hasRing_206 rfl (Or.inl rfl) ?_
  exact ⟨rfl, rfl⟩
set_option maxRecDepth 20000 in
theorem uX_X0_clashOf_65 : q_met mX0_clashOf (q_sX uXI55 uXJ5) [.ref 51, .long 0] (fun s r => s = q_sX uXI63 uXJ5 ∧ r = some (.int 0)) := by
  refine q_enter (by decide) (Nat.le_of_ble_eq_true rfl) ?_
  refine q_aload_n dX0_clashOf_0 rfl ?_
  refine q_getR (c := 0) (n := 0) (k := 7) (a := 38) dX0_clashOf_1 rfl (by decide) (by decide) fX0_37 rfl rfl ?_
  refine q_ic (v := 2) dX0_clashOf_4 rfl ?_
  refine q_aload_n dX0_clashOf_5 rfl ?_
  refine q_getf (c := 0) (n := 0) (k := 0) (v := .int 0) dX0_clashOf_6 rfl (by decide) (by decide) fX0_41 rfl ?_
  refine q_imul dX0_clashOf_9 ?_
  refine q_topI (v := 0) rfl ?_
  refine q_V1 (ci := 4) (n := 0) dX0_clashOf_10 DX4_begin lX0_144 rfl (by decide) rfl rfl rfl rfl uX_X4_begin_59 ?_
  rintro _ _ ⟨rfl, rfl⟩
  refine q_ic (v := 0) dX0_clashOf_13 rfl ?_
  refine q_istore_n dX0_clashOf_14 (Nat.le_of_ble_eq_true rfl) ?_
  refine q_iload_n dX0_clashOf_15 rfl ?_
  refine q_aload_n dX0_clashOf_16 rfl ?_
  refine q_getf (c := 0) (n := 0) (k := 0) (v := .int 0) dX0_clashOf_17 rfl (by decide) (by decide) fX0_41 rfl ?_
  refine q_cz_ge (tgt := 61) (a := 0) (b := 0) dX0_clashOf_20 (by decide) rfl rfl (fun _ => ?_) (fun h => absurd h (by decide))
  refine q_aload_n dX0_clashOf_61 rfl ?_
  refine q_getR (c := 0) (n := 0) (k := 7) (a := 38) dX0_clashOf_62 rfl (by decide) (by decide) fX0_37 rfl rfl ?_
  refine q_V0 (ci := 4) (n := 0) dX0_clashOf_65 DX4_hasRing lX0_141 rfl (by decide) rfl rfl rfl rfl uX_X4_hasRing_64 ?_
  rintro _ _ ⟨rfl, rfl⟩
  refine q_zret dX0_clashOf_68 rfl (Or.inl rfl) ?_
  exact ⟨rfl, rfl⟩
set_option maxRecDepth 20000 in
theorem uX_X0_coreWithin_66 : q_met mX0_coreWithin (q_sX uXI55 uXJ5) [.ref 51, .long 0] (fun s r => s = q_sX uXI63 uXJ5 ∧ r = some (.long 0)) := by
  refine q_enter (by decide) (Nat.le_of_ble_eq_true rfl) ?_
  refine q_aload_n dX0_coreWithin_0 rfl ?_
  refine q_lload_n dX0_coreWithin_1 rfl ?_
  refine q_V1 (ci := 0) (n := 0) dX0_coreWithin_2 DX0_clashOf lX0_111 rfl (by decide) rfl rfl rfl rfl uX_X0_clashOf_65 ?_
  rintro _ _ ⟨rfl, rfl⟩
  refine q_iz_ne (tgt := 10) (a := 0) dX0_coreWithin_5 (by decide) rfl (fun h => absurd h (by decide)) (fun _ => ?_)
  refine q_lc (v := 0) dX0_coreWithin_8 rfl ?_
  refine q_lret dX0_coreWithin_9 rfl ?_
  exact ⟨rfl, rfl⟩
theorem dX1_learn_0 : decode cX1_learn 0 = .ok (.iload_n 1, 1) := by decide +kernel
theorem dX1_learn_1 : decode cX1_learn 1 = .ok (.ifCond .lt 9, 3) := by decide +kernel
theorem dX1_learn_4 : decode cX1_learn 4 = .ok (.iload_n 1, 1) := by decide +kernel
theorem dX1_learn_5 : decode cX1_learn 5 = .ok (.bipush 26, 2) := by decide +kernel
theorem dX1_learn_7 : decode cX1_learn 7 = .ok (.if_icmp .lt 5, 3) := by decide +kernel
theorem dX1_learn_10 : decode cX1_learn 10 = .ok (.lconst 0, 1) := by decide +kernel
theorem dX1_learn_11 : decode cX1_learn 11 = .ok (.lreturn, 1) := by decide +kernel
theorem dX1_learn_12 : decode cX1_learn 12 = .ok (.lload_n 2, 1) := by decide +kernel
theorem dX1_learn_13 : decode cX1_learn 13 = .ok (.lconst 0, 1) := by decide +kernel
theorem dX1_learn_14 : decode cX1_learn 14 = .ok (.lcmp, 1) := by decide +kernel
theorem dX1_learn_15 : decode cX1_learn 15 = .ok (.ifCond .ne 25, 3) := by decide +kernel
theorem dX1_learn_18 : decode cX1_learn 18 = .ok (.aload_n 0, 1) := by decide +kernel
theorem dX1_learn_19 : decode cX1_learn 19 = .ok (.aload_n 0, 1) := by decide +kernel
theorem dX1_learn_20 : decode cX1_learn 20 = .ok (.getfield 18, 3) := by decide +kernel
theorem dX1_learn_23 : decode cX1_learn 23 = .ok (.iload_n 1, 1) := by decide +kernel
theorem dX1_learn_24 : decode cX1_learn 24 = .ok (.laload, 1) := by decide +kernel
theorem dX1_learn_25 : decode cX1_learn 25 = .ok (.putfield 51, 3) := by decide +kernel
theorem dX1_learn_28 : decode cX1_learn 28 = .ok (.aload_n 0, 1) := by decide +kernel
theorem dX1_learn_29 : decode cX1_learn 29 = .ok (.aload_n 0, 1) := by decide +kernel
theorem dX1_learn_30 : decode cX1_learn 30 = .ok (.getfield 24, 3) := by decide +kernel
theorem dX1_learn_33 : decode cX1_learn 33 = .ok (.iload_n 1, 1) := by decide +kernel
theorem dX1_learn_34 : decode cX1_learn 34 = .ok (.laload, 1) := by decide +kernel
theorem dX1_learn_35 : decode cX1_learn 35 = .ok (.putfield 84, 3) := by decide +kernel
theorem dX1_learn_38 : decode cX1_learn 38 = .ok (.lconst 0, 1) := by decide +kernel
theorem dX1_learn_39 : decode cX1_learn 39 = .ok (.lreturn, 1) := by decide +kernel
theorem dX1_learn_40 : decode cX1_learn 40 = .ok (.aload_n 0, 1) := by decide +kernel
theorem dX1_learn_41 : decode cX1_learn 41 = .ok (.getfield 42, 3) := by decide +kernel
theorem dX1_learn_44 : decode cX1_learn 44 = .ok (.ifCond .lt 33, 3) := by decide +kernel
theorem dX1_learn_47 : decode cX1_learn 47 = .ok (.aload_n 0, 1) := by decide +kernel
theorem dX1_learn_48 : decode cX1_learn 48 = .ok (.getfield 42, 3) := by decide +kernel
theorem dX1_learn_51 : decode cX1_learn 51 = .ok (.sipush 512, 3) := by decide +kernel
theorem dX1_learn_54 : decode cX1_learn 54 = .ok (.if_icmp .ge 23, 3) := by decide +kernel
theorem dX1_learn_57 : decode cX1_learn 57 = .ok (.aload_n 0, 1) := by decide +kernel
theorem dX1_learn_58 : decode cX1_learn 58 = .ok (.getfield 11, 3) := by decide +kernel
theorem dX1_learn_61 : decode cX1_learn 61 = .ok (.aload_n 0, 1) := by decide +kernel
theorem dX1_learn_62 : decode cX1_learn 62 = .ok (.getfield 42, 3) := by decide +kernel
theorem dX1_learn_65 : decode cX1_learn 65 = .ok (.lload_n 2, 1) := by decide +kernel
theorem dX1_learn_66 : decode cX1_learn 66 = .ok (.lastore, 1) := by decide +kernel
theorem dX1_learn_67 : decode cX1_learn 67 = .ok (.aload_n 0, 1) := by decide +kernel
theorem dX1_learn_68 : decode cX1_learn 68 = .ok (.dup, 1) := by decide +kernel
theorem dX1_learn_69 : decode cX1_learn 69 = .ok (.getfield 42, 3) := by decide +kernel
theorem dX1_learn_72 : decode cX1_learn 72 = .ok (.iconst 1, 1) := by decide +kernel
theorem dX1_learn_73 : decode cX1_learn 73 = .ok (.iadd, 1) := by decide +kernel
theorem dX1_learn_74 : decode cX1_learn 74 = .ok (.putfield 42, 3) := by decide +kernel
theorem dX1_learn_77 : decode cX1_learn 77 = .ok (.lload_n 2, 1) := by decide +kernel
theorem dX1_learn_78 : decode cX1_learn 78 = .ok (.aload_n 0, 1) := by decide +kernel
theorem dX1_learn_79 : decode cX1_learn 79 = .ok (.getfield 21, 3) := by decide +kernel
theorem dX1_learn_82 : decode cX1_learn 82 = .ok (.iload_n 1, 1) := by decide +kernel
theorem dX1_learn_83 : decode cX1_learn 83 = .ok (.laload, 1) := by decide +kernel
theorem dX1_learn_84 : decode cX1_learn 84 = .ok (.ldc2_w 63, 3) := by decide +kernel
theorem dX1_learn_87 : decode cX1_learn 87 = .ok (.lxor, 1) := by decide +kernel
theorem dX1_learn_88 : decode cX1_learn 88 = .ok (.land, 1) := by decide +kernel
theorem dX1_learn_89 : decode cX1_learn 89 = .ok (.lreturn, 1) := by decide +kernel
def uXJ6 : Nat → Nat → Int64 := q_up (q_up uXJ5 69 1 0) 69 2 0
set_option maxRecDepth 20000 in
theorem uX_X1_learn_67 : q_met mX1_learn (q_sX uXI63 uXJ5) [.ref 69, .int 0, .long 0] (fun s r => s = q_sX uXI63 uXJ6 ∧ r = some (.long 0)) := by
  refine q_enter (by decide) (Nat.le_of_ble_eq_true rfl) ?_
  refine q_iload_n dX1_learn_0 rfl ?_
  refine q_iz_lt (tgt := 10) (a := 0) dX1_learn_1 (by decide) rfl (fun h => absurd h (by decide)) (fun _ => ?_)
  refine q_iload_n dX1_learn_4 rfl ?_
  refine q_bi (v := 26) dX1_learn_5 rfl ?_
  refine q_cz_lt (tgt := 12) (a := 0) (b := 26) dX1_learn_7 (by decide) rfl rfl (fun _ => ?_) (fun h => absurd h (by decide))
  refine q_lload_n dX1_learn_12 rfl ?_
  refine q_lc (v := 0) dX1_learn_13 rfl ?_
  refine q_lcmp dX1_learn_14 ?_
  refine q_topI (v := 0) rfl ?_
  refine q_iz_ne (tgt := 40) (a := 0) dX1_learn_15 (by decide) rfl (fun h => absurd h (by decide)) (fun _ => ?_)
  refine q_aload_n dX1_learn_18 rfl ?_
  refine q_aload_n dX1_learn_19 rfl ?_
  refine q_getR (c := 1) (n := 0) (k := 9) (a := 72) dX1_learn_20 rfl (by decide) (by decide) fX1_18 rfl rfl ?_
  refine q_iload_n dX1_learn_23 rfl ?_
  refine q_lald (n := 26) (j := 0) dX1_learn_24 rfl rfl (by decide) ?_
  refine q_topL (v := 0) rfl ?_
  refine q_putJ (c := 1) (n := 0) (k := 1) dX1_learn_25 rfl (by decide) (by decide) fX1_51 rfl rfl ?_
  show q_K _ (q_sX uXI63 (q_up uXJ5 69 1 0)) _ _ _ _ _ _
  refine q_aload_n dX1_learn_28 rfl ?_
  refine q_aload_n dX1_learn_29 rfl ?_
  refine q_getR (c := 1) (n := 0) (k := 11) (a := 74) dX1_learn_30 rfl (by decide) (by decide) fX1_24 rfl rfl ?_
  refine q_iload_n dX1_learn_33 rfl ?_
  refine q_lald (n := 26) (j := 0) dX1_learn_34 rfl rfl (by decide) ?_
  refine q_topL (v := 0) rfl ?_
  refine q_putJ (c := 1) (n := 0) (k := 2) dX1_learn_35 rfl (by decide) (by decide) fX1_84 rfl rfl ?_
  show q_K _ (q_sX uXI63 (q_up (q_up uXJ5 69 1 0) 69 2 0)) _ _ _ _ _ _
  refine q_lc (v := 0) dX1_learn_38 rfl ?_
  show q_K _ (q_sX uXI63 uXJ6) _ _ _ _ _ _
  refine q_lret dX1_learn_39 rfl ?_
  exact ⟨rfl, rfl⟩
def uXJ7 : Nat → Nat → Int64 := q_up uXJ6 75 0 0
set_option maxRecDepth 20000 in
theorem uX_X1_find_68 : q_met mX1_find (q_sX zI6 zJ1) [.ref 69] (fun s r => s = q_sX uXI63 uXJ7 ∧ r = some (.long 0)) := by
  refine q_enter (by decide) (Nat.le_of_ble_eq_true rfl) ?_
  refine q_aload_n dX1_find_0 rfl ?_
  refine q_getf (c := 1) (n := 0) (k := 0) (v := .int 0) dX1_find_1 rfl (by decide) (by decide) fX1_38 rfl ?_
  refine q_iz_ne (tgt := 19) (a := 0) dX1_find_4 (by decide) rfl (fun h => absurd h (by decide)) (fun _ => ?_)
  refine q_aload_n dX1_find_7 rfl ?_
  refine q_getR (c := 1) (n := 0) (k := 5) (a := 2) dX1_find_8 rfl (by decide) (by decide) fX1_30 rfl rfl ?_
  refine q_getf (c := 9) (n := 0) (k := 1) (v := .int 0) dX1_find_11 rfl (by decide) (by decide) fX1_46 rfl ?_
  refine q_bi (v := 24) dX1_find_14 rfl ?_
  refine q_cz_le (tgt := 24) (a := 0) (b := 24) dX1_find_16 (by decide) rfl rfl (fun _ => ?_) (fun h => absurd h (by decide))
  refine q_aload_n dX1_find_24 rfl ?_
  refine q_ic (v := 1) dX1_find_25 rfl ?_
  refine q_putZ (c := 1) (n := 0) (k := 0) dX1_find_26 rfl (by decide) (by decide) fX1_38 rfl rfl (Or.inr rfl) ?_
  show q_K _ (q_sX (q_up zI6 69 0 1) zJ1) _ _ _ _ _ _
  refine q_aload_n dX1_find_29 rfl ?_
  show q_K _ (q_sX uXI54 zJ1) _ _ _ _ _ _
  refine q_V0 (ci := 1) (n := 0) dX1_find_30 DX1_begin lX1_55 rfl (by decide) rfl rfl rfl rfl uX_X1_begin_54 ?_
  rintro _ _ ⟨rfl, rfl⟩
  refine q_ic (v := 0) dX1_find_33 rfl ?_
  refine q_istore_n dX1_find_34 (Nat.le_of_ble_eq_true rfl) ?_
  refine q_ic (v := 1) dX1_find_35 rfl ?_
  refine q_istore_n dX1_find_36 (Nat.le_of_ble_eq_true rfl) ?_
  refine q_ic (v := 0) dX1_find_37 rfl ?_
  refine q_istore_n dX1_find_38 (Nat.le_of_ble_eq_true rfl) ?_
  refine q_iload_n dX1_find_39 rfl ?_
  refine q_iz_lt (tgt := 158) (a := 0) dX1_find_40 (by decide) rfl (fun h => absurd h (by decide)) (fun _ => ?_)
  refine q_iload_n dX1_find_43 rfl ?_
  refine q_bi (v := 26) dX1_find_44 rfl ?_
  refine q_cz_ge (tgt := 158) (a := 0) (b := 26) dX1_find_46 (by decide) rfl rfl (fun h => absurd h (by decide)) (fun _ => ?_)
  refine q_iload_n dX1_find_49 rfl ?_
  refine q_ldc (v := 1000000) dX1_find_50 nX1_58 ?_
  refine q_cz_ge (tgt := 158) (a := 0) (b := 1000000) dX1_find_52 (by decide) rfl rfl (fun h => absurd h (by decide)) (fun _ => ?_)
  refine q_iload_n dX1_find_55 rfl ?_
  refine q_iz_eq (tgt := 70) (a := 1) dX1_find_56 (by decide) rfl (fun h => absurd h (by decide)) (fun _ => ?_)
  refine q_aload_n dX1_find_59 rfl ?_
  refine q_getR (c := 1) (n := 0) (k := 12) (a := 75) dX1_find_60 rfl (by decide) (by decide) fX1_27 rfl rfl ?_
  refine q_iload_n dX1_find_63 rfl ?_
  refine q_aload_n dX1_find_64 rfl ?_
  refine q_iload_n dX1_find_65 rfl ?_
  refine q_V1 (ci := 1) (n := 0) dX1_find_66 DX1_branches lX1_59 rfl (by decide) rfl rfl rfl rfl uX_X1_branches_55 ?_
  rintro _ _ ⟨rfl, rfl⟩
  refine q_last (n := 26) (j := 0) dX1_find_69 rfl rfl (by decide) ?_
  show q_K _ (q_sX uXI55 (q_up uXJ4 75 0 (-1))) _ _ _ _ _ _
  refine q_aload_n dX1_find_70 rfl ?_
  refine q_getR (c := 1) (n := 0) (k := 12) (a := 75) dX1_find_71 rfl (by decide) (by decide) fX1_27 rfl rfl ?_
  refine q_iload_n dX1_find_74 rfl ?_
  refine q_lald (n := 26) (j := 0) dX1_find_75 rfl rfl (by decide) ?_
  refine q_topL (v := (-1)) rfl ?_
  refine q_ldc2 (v := (-1)) dX1_find_76 nX1_63 ?_
  refine q_lcmp dX1_find_79 ?_
  refine q_topI (v := 0) rfl ?_
  refine q_iz_ne (tgt := 119) (a := 0) dX1_find_80 (by decide) rfl (fun h => absurd h (by decide)) (fun _ => ?_)
  refine q_aload_n dX1_find_83 rfl ?_
  refine q_getR (c := 1) (n := 0) (k := 12) (a := 75) dX1_find_84 rfl (by decide) (by decide) fX1_27 rfl rfl ?_
  refine q_iload_n dX1_find_87 rfl ?_
  refine q_aload_n dX1_find_88 rfl ?_
  refine q_iload_n dX1_find_89 rfl ?_
  refine q_aload_n dX1_find_90 rfl ?_
  refine q_getR (c := 1) (n := 0) (k := 6) (a := 51) dX1_find_91 rfl (by decide) (by decide) fX1_34 rfl rfl ?_
  refine q_aload_n dX1_find_94 rfl ?_
  refine q_getR (c := 1) (n := 0) (k := 5) (a := 2) dX1_find_95 rfl (by decide) (by decide) fX1_30 rfl rfl ?_
  show q_K _ (q_sX uXI55 uXJ5) _ _ _ _ _ _
  refine q_V0 (ci := 9) (n := 0) dX1_find_98 DX9_all lX1_65 rfl (by decide) rfl rfl rfl rfl uX_X9_all_56 ?_
  rintro _ _ ⟨rfl, rfl⟩
  refine q_aload_n dX1_find_101 rfl ?_
  refine q_getR (c := 1) (n := 0) (k := 9) (a := 72) dX1_find_102 rfl (by decide) (by decide) fX1_18 rfl rfl ?_
  refine q_iload_n dX1_find_105 rfl ?_
  refine q_lald (n := 26) (j := 0) dX1_find_106 rfl rfl (by decide) ?_
  refine q_topL (v := 0) rfl ?_
  refine q_ldc2 (v := (-1)) dX1_find_107 nX1_63 ?_
  refine q_lxor dX1_find_110 ?_
  refine q_topL (v := (-1)) rfl ?_
  refine q_land dX1_find_111 ?_
  refine q_topL (v := 0) rfl ?_
  refine q_V1 (ci := 0) (n := 0) dX1_find_112 DX0_coreWithin lX1_69 rfl (by decide) rfl rfl rfl rfl uX_X0_coreWithin_66 ?_
  rintro _ _ ⟨rfl, rfl⟩
  refine q_V2 (ci := 1) (n := 0) dX1_find_115 DX1_learn lX1_75 rfl (by decide) rfl rfl rfl rfl uX_X1_learn_67 ?_
  rintro _ _ ⟨rfl, rfl⟩
  refine q_last (n := 26) (j := 0) dX1_find_118 rfl rfl (by decide) ?_
  show q_K _ (q_sX uXI63 (q_up uXJ6 75 0 0)) _ _ _ _ _ _
  refine q_aload_n dX1_find_119 rfl ?_
  refine q_getR (c := 1) (n := 0) (k := 12) (a := 75) dX1_find_120 rfl (by decide) (by decide) fX1_27 rfl rfl ?_
  refine q_iload_n dX1_find_123 rfl ?_
  refine q_lald (n := 26) (j := 0) dX1_find_124 rfl rfl (by decide) ?_
  refine q_topL (v := 0) rfl ?_
  refine q_lc (v := 0) dX1_find_125 rfl ?_
  refine q_lcmp dX1_find_126 ?_
  refine q_topI (v := 0) rfl ?_
  refine q_iz_eq (tgt := 134) (a := 0) dX1_find_127 (by decide) rfl (fun _ => ?_) (fun h => absurd h (by decide))
  refine q_ic (v := 0) dX1_find_134 rfl ?_
  refine q_istore_n dX1_find_135 (Nat.le_of_ble_eq_true rfl) ?_
  refine q_iload_n dX1_find_136 rfl ?_
  refine q_iz_eq (tgt := 148) (a := 0) dX1_find_137 (by decide) rfl (fun _ => ?_) (fun h => absurd h (by decide))
  refine q_iload_n dX1_find_148 rfl ?_
  refine q_ic (v := 1) dX1_find_149 rfl ?_
  refine q_isub dX1_find_150 ?_
  refine q_topI (v := (-1)) rfl ?_
  refine q_istore_n dX1_find_151 (Nat.le_of_ble_eq_true rfl) ?_
  refine q_inc (v := 1) dX1_find_152 rfl (Nat.le_of_ble_eq_true rfl) rfl ?_
  refine q_goto (tgt := 39) dX1_find_155 (by decide) ?_
  refine q_iload_n dX1_find_39 rfl ?_
  refine q_iz_lt (tgt := 158) (a := -1) dX1_find_40 (by decide) rfl (fun _ => ?_) (fun h => absurd h (by decide))
  refine q_aload_n dX1_find_158 rfl ?_
  refine q_getf (c := 1) (n := 0) (k := 1) (v := .long 0) dX1_find_159 rfl (by decide) (by decide) fX1_51 rfl ?_
  show q_K _ (q_sX uXI63 uXJ7) _ _ _ _ _ _
  refine q_lret dX1_find_162 rfl ?_
  exact ⟨rfl, rfl⟩
set_option maxRecDepth 20000 in
theorem frX_cheapest : q_met mX10_cheapest (q_sX zI6 zJ1) [.ref 0] (fun s r => (∃ I J, s = q_sX I J) ∧ ∃ v, r = some (.long v) ∧ v.toInt = (0 : Int)) := by
  refine q_enter (by decide) (Nat.le_of_ble_eq_true rfl) ?_
  refine q_aload_n dX10_cheapest_0 rfl ?_
  refine q_getR (c := 10) (n := 0) (k := 3) (a := 2) dX10_cheapest_1 rfl (by decide) (by decide) fX10_16 rfl rfl ?_
  refine q_getf (c := 9) (n := 0) (k := 1) (v := .int 0) dX10_cheapest_4 rfl (by decide) (by decide) fX10_185 rfl ?_
  refine q_bi (v := 24) dX10_cheapest_7 rfl ?_
  refine q_cz_le (tgt := 16) (a := 0) (b := 24) dX10_cheapest_9 (by decide) rfl rfl (fun _ => ?_) (fun h => absurd h (by decide))
  refine q_aload_n dX10_cheapest_16 rfl ?_
  refine q_getR (c := 10) (n := 0) (k := 10) (a := 69) dX10_cheapest_17 rfl (by decide) (by decide) fX10_70 rfl rfl ?_
  refine q_V0 (ci := 1) (n := 0) dX10_cheapest_20 DX1_find lX10_209 rfl (by decide) rfl rfl rfl rfl uX_X1_find_68 ?_
  rintro _ _ ⟨rfl, rfl⟩
  refine q_lret dX10_cheapest_23 rfl ?_
  exact ⟨⟨_, _, rfl⟩, _, rfl, (by show (0 : Int) = _; first | rfl | omega | (split <;> omega) | (split <;> split <;> omega))⟩
theorem dX10_mends_0 : decode cX10_mends 0 = .ok (.aload_n 0, 1) := by decide +kernel
theorem dX10_mends_1 : decode cX10_mends 1 = .ok (.getfield 16, 3) := by decide +kernel
theorem dX10_mends_4 : decode cX10_mends 4 = .ok (.getfield 185, 3) := by decide +kernel
theorem dX10_mends_7 : decode cX10_mends 7 = .ok (.bipush 12, 2) := by decide +kernel
theorem dX10_mends_9 : decode cX10_mends 9 = .ok (.if_icmp .le 6, 3) := by decide +kernel
theorem dX10_mends_12 : decode cX10_mends 12 = .ok (.bipush (-2), 2) := by decide +kernel
theorem dX10_mends_14 : decode cX10_mends 14 = .ok (.ireturn, 1) := by decide +kernel
theorem dX10_mends_15 : decode cX10_mends 15 = .ok (.aload_n 0, 1) := by decide +kernel
theorem dX10_mends_16 : decode cX10_mends 16 = .ok (.getfield 61, 3) := by decide +kernel
theorem dX10_mends_19 : decode cX10_mends 19 = .ok (.aload_n 0, 1) := by decide +kernel
theorem dX10_mends_20 : decode cX10_mends 20 = .ok (.getfield 16, 3) := by decide +kernel
theorem dX10_mends_23 : decode cX10_mends 23 = .ok (.getfield 185, 3) := by decide +kernel
theorem dX10_mends_26 : decode cX10_mends 26 = .ok (.invokevirtual 188, 3) := by decide +kernel
theorem dX10_mends_29 : decode cX10_mends 29 = .ok (.aload_n 0, 1) := by decide +kernel
theorem dX10_mends_30 : decode cX10_mends 30 = .ok (.getfield 61, 3) := by decide +kernel
theorem dX10_mends_33 : decode cX10_mends 33 = .ok (.getfield 211, 3) := by decide +kernel
theorem dX10_mends_36 : decode cX10_mends 36 = .ok (.ireturn, 1) := by decide +kernel
set_option maxRecDepth 20000 in
theorem frX_mends : q_met mX10_mends (q_sX zI6 zJ1) [.ref 0] (fun s r => (∃ I J, s = q_sX I J) ∧ ∃ v, r = some (.int v) ∧ v.toInt = (1 : Int)) := by
  refine q_enter (by decide) (Nat.le_of_ble_eq_true rfl) ?_
  refine q_aload_n dX10_mends_0 rfl ?_
  refine q_getR (c := 10) (n := 0) (k := 3) (a := 2) dX10_mends_1 rfl (by decide) (by decide) fX10_16 rfl rfl ?_
  refine q_getf (c := 9) (n := 0) (k := 1) (v := .int 0) dX10_mends_4 rfl (by decide) (by decide) fX10_185 rfl ?_
  refine q_bi (v := 12) dX10_mends_7 rfl ?_
  refine q_cz_le (tgt := 15) (a := 0) (b := 12) dX10_mends_9 (by decide) rfl rfl (fun _ => ?_) (fun h => absurd h (by decide))
  refine q_aload_n dX10_mends_15 rfl ?_
  refine q_getR (c := 10) (n := 0) (k := 9) (a := 67) dX10_mends_16 rfl (by decide) (by decide) fX10_61 rfl rfl ?_
  refine q_aload_n dX10_mends_19 rfl ?_
  refine q_getR (c := 10) (n := 0) (k := 3) (a := 2) dX10_mends_20 rfl (by decide) (by decide) fX10_16 rfl rfl ?_
  refine q_getf (c := 9) (n := 0) (k := 1) (v := .int 0) dX10_mends_23 rfl (by decide) (by decide) fX10_185 rfl ?_
  refine q_V1 (ci := 5) (n := 0) dX10_mends_26 DX5_find lX10_188 rfl (by decide) rfl rfl rfl rfl uX_X5_find_48 ?_
  rintro _ _ ⟨rfl, rfl⟩
  refine q_aload_n dX10_mends_29 rfl ?_
  refine q_getR (c := 10) (n := 0) (k := 9) (a := 67) dX10_mends_30 rfl (by decide) (by decide) fX10_61 rfl rfl ?_
  refine q_getf (c := 5) (n := 0) (k := 2) (v := .int 1) dX10_mends_33 rfl (by decide) (by decide) fX10_211 rfl ?_
  refine q_iret dX10_mends_36 rfl ?_
  exact ⟨⟨_, _, rfl⟩, _, rfl, (by show (1 : Int) = _; first | rfl | omega | (split <;> omega) | (split <;> split <;> omega))⟩
theorem dX10_mendAt_0 : decode cX10_mendAt 0 = .ok (.aload_n 0, 1) := by decide +kernel
theorem dX10_mendAt_1 : decode cX10_mendAt 1 = .ok (.getfield 16, 3) := by decide +kernel
theorem dX10_mendAt_4 : decode cX10_mendAt 4 = .ok (.getfield 185, 3) := by decide +kernel
theorem dX10_mendAt_7 : decode cX10_mendAt 7 = .ok (.bipush 12, 2) := by decide +kernel
theorem dX10_mendAt_9 : decode cX10_mendAt 9 = .ok (.if_icmp .le 7, 3) := by decide +kernel
theorem dX10_mendAt_12 : decode cX10_mendAt 12 = .ok (.ldc2_w 194, 3) := by decide +kernel
theorem dX10_mendAt_15 : decode cX10_mendAt 15 = .ok (.lreturn, 1) := by decide +kernel
theorem dX10_mendAt_16 : decode cX10_mendAt 16 = .ok (.aload_n 0, 1) := by decide +kernel
theorem dX10_mendAt_17 : decode cX10_mendAt 17 = .ok (.getfield 61, 3) := by decide +kernel
theorem dX10_mendAt_20 : decode cX10_mendAt 20 = .ok (.aload_n 0, 1) := by decide +kernel
theorem dX10_mendAt_21 : decode cX10_mendAt 21 = .ok (.getfield 16, 3) := by decide +kernel
theorem dX10_mendAt_24 : decode cX10_mendAt 24 = .ok (.getfield 185, 3) := by decide +kernel
theorem dX10_mendAt_27 : decode cX10_mendAt 27 = .ok (.invokevirtual 188, 3) := by decide +kernel
theorem dX10_mendAt_30 : decode cX10_mendAt 30 = .ok (.aload_n 0, 1) := by decide +kernel
theorem dX10_mendAt_31 : decode cX10_mendAt 31 = .ok (.getfield 61, 3) := by decide +kernel
theorem dX10_mendAt_34 : decode cX10_mendAt 34 = .ok (.iload_n 1, 1) := by decide +kernel
theorem dX10_mendAt_35 : decode cX10_mendAt 35 = .ok (.invokevirtual 214, 3) := by decide +kernel
theorem dX10_mendAt_38 : decode cX10_mendAt 38 = .ok (.lreturn, 1) := by decide +kernel
theorem dX5_mendNumbered_0 : decode cX5_mendNumbered 0 = .ok (.iconst 0, 1) := by decide +kernel
theorem dX5_mendNumbered_1 : decode cX5_mendNumbered 1 = .ok (.istore_n 2, 1) := by decide +kernel
theorem dX5_mendNumbered_2 : decode cX5_mendNumbered 2 = .ok (.aload_n 0, 1) := by decide +kernel
theorem dX5_mendNumbered_3 : decode cX5_mendNumbered 3 = .ok (.getfield 23, 3) := by decide +kernel
theorem dX5_mendNumbered_6 : decode cX5_mendNumbered 6 = .ok (.sipush 4095, 3) := by decide +kernel
theorem dX5_mendNumbered_9 : decode cX5_mendNumbered 9 = .ok (.invokestatic 56, 3) := by decide +kernel
theorem dX5_mendNumbered_12 : decode cX5_mendNumbered 12 = .ok (.istore_n 3, 1) := by decide +kernel
theorem dX5_mendNumbered_13 : decode cX5_mendNumbered 13 = .ok (.iload_n 3, 1) := by decide +kernel
theorem dX5_mendNumbered_14 : decode cX5_mendNumbered 14 = .ok (.ifCond .lt 37, 3) := by decide +kernel
theorem dX5_mendNumbered_17 : decode cX5_mendNumbered 17 = .ok (.aload_n 0, 1) := by decide +kernel
theorem dX5_mendNumbered_18 : decode cX5_mendNumbered 18 = .ok (.getfield 11, 3) := by decide +kernel
theorem dX5_mendNumbered_21 : decode cX5_mendNumbered 21 = .ok (.iload_n 3, 1) := by decide +kernel
theorem dX5_mendNumbered_22 : decode cX5_mendNumbered 22 = .ok (.baload, 1) := by decide +kernel
theorem dX5_mendNumbered_23 : decode cX5_mendNumbered 23 = .ok (.iconst 4, 1) := by decide +kernel
theorem dX5_mendNumbered_24 : decode cX5_mendNumbered 24 = .ok (.if_icmp .ne 21, 3) := by decide +kernel
theorem dX5_mendNumbered_27 : decode cX5_mendNumbered 27 = .ok (.iload_n 2, 1) := by decide +kernel
theorem dX5_mendNumbered_28 : decode cX5_mendNumbered 28 = .ok (.iload_n 1, 1) := by decide +kernel
theorem dX5_mendNumbered_29 : decode cX5_mendNumbered 29 = .ok (.if_icmp .ne 13, 3) := by decide +kernel
theorem dX5_mendNumbered_32 : decode cX5_mendNumbered 32 = .ok (.aload_n 0, 1) := by decide +kernel
theorem dX5_mendNumbered_33 : decode cX5_mendNumbered 33 = .ok (.getfield 23, 3) := by decide +kernel
theorem dX5_mendNumbered_36 : decode cX5_mendNumbered 36 = .ok (.iload_n 3, 1) := by decide +kernel
theorem dX5_mendNumbered_37 : decode cX5_mendNumbered 37 = .ok (.iconst (-1), 1) := by decide +kernel
theorem dX5_mendNumbered_38 : decode cX5_mendNumbered 38 = .ok (.ixor, 1) := by decide +kernel
theorem dX5_mendNumbered_39 : decode cX5_mendNumbered 39 = .ok (.iand, 1) := by decide +kernel
theorem dX5_mendNumbered_40 : decode cX5_mendNumbered 40 = .ok (.i2l, 1) := by decide +kernel
theorem dX5_mendNumbered_41 : decode cX5_mendNumbered 41 = .ok (.lreturn, 1) := by decide +kernel
theorem dX5_mendNumbered_42 : decode cX5_mendNumbered 42 = .ok (.iinc 2 1, 3) := by decide +kernel
theorem dX5_mendNumbered_45 : decode cX5_mendNumbered 45 = .ok (.iinc 3 (-1), 3) := by decide +kernel
theorem dX5_mendNumbered_48 : decode cX5_mendNumbered 48 = .ok (.goto (-35), 3) := by decide +kernel
theorem dX5_mendNumbered_51 : decode cX5_mendNumbered 51 = .ok (.ldc2_w 54, 3) := by decide +kernel
theorem dX5_mendNumbered_54 : decode cX5_mendNumbered 54 = .ok (.lreturn, 1) := by decide +kernel
set_option maxRecDepth 20000 in
theorem uX_X5_mendNumbered_71 (a : Int32) : q_met mX5_mendNumbered (q_sX uXI53 zJ1) [.ref 67, .int a] (fun s r => s = q_sX uXI53 zJ1 ∧ ∃ v, r = some (.long v) ∧ v.toInt = (if a.toInt = 0 then 0 else -1 : Int)) := by
  refine q_enter (by decide) (Nat.le_of_ble_eq_true rfl) ?_
  refine q_ic (v := 0) dX5_mendNumbered_0 rfl ?_
  refine q_istore_n dX5_mendNumbered_1 (Nat.le_of_ble_eq_true rfl) ?_
  refine q_aload_n dX5_mendNumbered_2 rfl ?_
  refine q_getf (c := 5) (n := 0) (k := 3) (v := .int 0) dX5_mendNumbered_3 rfl (by decide) (by decide) fX5_23 rfl ?_
  refine q_si (v := 4095) dX5_mendNumbered_6 rfl ?_
  refine q_mmin dX5_mendNumbered_9 lX5_56 q_mm1 q_mm2 q_mm3 ⟨Nat.le_of_ble_eq_true rfl, Nat.le_of_ble_eq_true rfl⟩ (q_r8 rfl) ⟨Nat.zero_le _, Nat.zero_le _⟩ ?_
  refine q_topI (v := 0) rfl ?_
  refine q_istore_n dX5_mendNumbered_12 (Nat.le_of_ble_eq_true rfl) ?_
  refine q_iload_n dX5_mendNumbered_13 rfl ?_
  refine q_iz_lt (tgt := 51) (a := 0) dX5_mendNumbered_14 (by decide) rfl (fun h => absurd h (by decide)) (fun _ => ?_)
  refine q_aload_n dX5_mendNumbered_17 rfl ?_
  refine q_getR (c := 5) (n := 0) (k := 5) (a := 68) dX5_mendNumbered_18 rfl (by decide) (by decide) fX5_11 rfl rfl ?_
  refine q_iload_n dX5_mendNumbered_21 rfl ?_
  refine q_bald (n := 4096) (j := 0) dX5_mendNumbered_22 rfl rfl (by decide) ?_
  refine q_topI (v := 4) rfl ?_
  refine q_ic (v := 4) dX5_mendNumbered_23 rfl ?_
  refine q_cz_ne (tgt := 45) (a := 4) (b := 4) dX5_mendNumbered_24 (by decide) rfl rfl (fun h => absurd h (by decide)) (fun _ => ?_)
  refine q_iload_n dX5_mendNumbered_27 rfl ?_
  refine q_iload_n dX5_mendNumbered_28 rfl ?_
  refine q_cz_ne (tgt := 42) (a := 0) (b := a.toInt) dX5_mendNumbered_29 (by decide) rfl rfl (fun h29_0 => ?_) (fun h29_0 => ?_)
  · refine q_inc (v := 1) dX5_mendNumbered_42 rfl (Nat.le_of_ble_eq_true rfl) rfl ?_
    refine q_inc (v := (-1)) dX5_mendNumbered_45 rfl (Nat.le_of_ble_eq_true rfl) rfl ?_
    refine q_goto (tgt := 13) dX5_mendNumbered_48 (by decide) ?_
    refine q_iload_n dX5_mendNumbered_13 rfl ?_
    refine q_iz_lt (tgt := 51) (a := -1) dX5_mendNumbered_14 (by decide) rfl (fun _ => ?_) (fun h => absurd h (by decide))
    refine q_ldc2 (v := (-1)) dX5_mendNumbered_51 nX5_54 ?_
    refine q_lret dX5_mendNumbered_54 rfl ?_
    exact ⟨rfl, _, rfl, (by show ((-1) : Int) = _; first | rfl | omega | (split <;> omega) | (split <;> split <;> omega))⟩
  · refine q_aload_n dX5_mendNumbered_32 rfl ?_
    refine q_getf (c := 5) (n := 0) (k := 3) (v := .int 0) dX5_mendNumbered_33 rfl (by decide) (by decide) fX5_23 rfl ?_
    refine q_iload_n dX5_mendNumbered_36 rfl ?_
    refine q_ic (v := (-1)) dX5_mendNumbered_37 rfl ?_
    refine q_ixor dX5_mendNumbered_38 ?_
    refine q_topI (v := (-1)) rfl ?_
    refine q_iand dX5_mendNumbered_39 ?_
    refine q_topI (v := 0) rfl ?_
    refine q_i2l dX5_mendNumbered_40 ?_
    refine q_topL (v := 0) rfl ?_
    refine q_lret dX5_mendNumbered_41 rfl ?_
    exact ⟨rfl, _, rfl, (by show (0 : Int) = _; first | rfl | omega | (split <;> omega) | (split <;> split <;> omega))⟩
set_option maxRecDepth 20000 in
theorem frX_mendAt (a : Int32) : q_met mX10_mendAt (q_sX zI6 zJ1) [.ref 0, .int a] (fun s r => (∃ I J, s = q_sX I J) ∧ ∃ v, r = some (.long v) ∧ v.toInt = (if a.toInt = 0 then 0 else -1 : Int)) := by
  refine q_enter (by decide) (Nat.le_of_ble_eq_true rfl) ?_
  refine q_aload_n dX10_mendAt_0 rfl ?_
  refine q_getR (c := 10) (n := 0) (k := 3) (a := 2) dX10_mendAt_1 rfl (by decide) (by decide) fX10_16 rfl rfl ?_
  refine q_getf (c := 9) (n := 0) (k := 1) (v := .int 0) dX10_mendAt_4 rfl (by decide) (by decide) fX10_185 rfl ?_
  refine q_bi (v := 12) dX10_mendAt_7 rfl ?_
  refine q_cz_le (tgt := 16) (a := 0) (b := 12) dX10_mendAt_9 (by decide) rfl rfl (fun _ => ?_) (fun h => absurd h (by decide))
  refine q_aload_n dX10_mendAt_16 rfl ?_
  refine q_getR (c := 10) (n := 0) (k := 9) (a := 67) dX10_mendAt_17 rfl (by decide) (by decide) fX10_61 rfl rfl ?_
  refine q_aload_n dX10_mendAt_20 rfl ?_
  refine q_getR (c := 10) (n := 0) (k := 3) (a := 2) dX10_mendAt_21 rfl (by decide) (by decide) fX10_16 rfl rfl ?_
  refine q_getf (c := 9) (n := 0) (k := 1) (v := .int 0) dX10_mendAt_24 rfl (by decide) (by decide) fX10_185 rfl ?_
  refine q_V1 (ci := 5) (n := 0) dX10_mendAt_27 DX5_find lX10_188 rfl (by decide) rfl rfl rfl rfl uX_X5_find_48 ?_
  rintro _ _ ⟨rfl, rfl⟩
  refine q_aload_n dX10_mendAt_30 rfl ?_
  refine q_getR (c := 10) (n := 0) (k := 9) (a := 67) dX10_mendAt_31 rfl (by decide) (by decide) fX10_61 rfl rfl ?_
  refine q_iload_n dX10_mendAt_34 rfl ?_
  refine q_V1 (ci := 5) (n := 0) dX10_mendAt_35 DX5_mendNumbered lX10_214 rfl (by decide) rfl rfl rfl rfl (uX_X5_mendNumbered_71 a) ?_
  rintro _ _ ⟨rfl, v1, rfl, gv1⟩
  refine q_lret dX10_mendAt_38 rfl ?_
  exact ⟨⟨_, _, rfl⟩, _, rfl, ((gv1).trans (by first | rfl | omega | (split <;> omega) | (split <;> split <;> omega)))⟩
theorem dX10_hints_0 : decode cX10_hints 0 = .ok (.aload_n 0, 1) := by decide +kernel
theorem dX10_hints_1 : decode cX10_hints 1 = .ok (.getfield 16, 3) := by decide +kernel
theorem dX10_hints_4 : decode cX10_hints 4 = .ok (.getfield 185, 3) := by decide +kernel
theorem dX10_hints_7 : decode cX10_hints 7 = .ok (.bipush 24, 2) := by decide +kernel
theorem dX10_hints_9 : decode cX10_hints 9 = .ok (.if_icmp .le 6, 3) := by decide +kernel
theorem dX10_hints_12 : decode cX10_hints 12 = .ok (.bipush (-2), 2) := by decide +kernel
theorem dX10_hints_14 : decode cX10_hints 14 = .ok (.ireturn, 1) := by decide +kernel
theorem dX10_hints_15 : decode cX10_hints 15 = .ok (.aload_n 0, 1) := by decide +kernel
theorem dX10_hints_16 : decode cX10_hints 16 = .ok (.getfield 79, 3) := by decide +kernel
theorem dX10_hints_19 : decode cX10_hints 19 = .ok (.aload_n 0, 1) := by decide +kernel
theorem dX10_hints_20 : decode cX10_hints 20 = .ok (.getfield 70, 3) := by decide +kernel
theorem dX10_hints_23 : decode cX10_hints 23 = .ok (.invokevirtual 209, 3) := by decide +kernel
theorem dX10_hints_26 : decode cX10_hints 26 = .ok (.invokevirtual 217, 3) := by decide +kernel
theorem dX10_hints_29 : decode cX10_hints 29 = .ok (.aload_n 0, 1) := by decide +kernel
theorem dX10_hints_30 : decode cX10_hints 30 = .ok (.getfield 79, 3) := by decide +kernel
theorem dX10_hints_33 : decode cX10_hints 33 = .ok (.getfield 220, 3) := by decide +kernel
theorem dX10_hints_36 : decode cX10_hints 36 = .ok (.ireturn, 1) := by decide +kernel
theorem dX3_list_0 : decode cX3_list 0 = .ok (.aload_n 0, 1) := by decide +kernel
theorem dX3_list_1 : decode cX3_list 1 = .ok (.getfield 37, 3) := by decide +kernel
theorem dX3_list_4 : decode cX3_list 4 = .ok (.ifCond .eq 4, 3) := by decide +kernel
theorem dX3_list_7 : decode cX3_list 7 = .ok (.return_, 1) := by decide +kernel
theorem dX3_list_8 : decode cX3_list 8 = .ok (.aload_n 0, 1) := by decide +kernel
theorem dX3_list_9 : decode cX3_list 9 = .ok (.iconst 1, 1) := by decide +kernel
theorem dX3_list_10 : decode cX3_list 10 = .ok (.putfield 37, 3) := by decide +kernel
theorem dX3_list_13 : decode cX3_list 13 = .ok (.aload_n 0, 1) := by decide +kernel
theorem dX3_list_14 : decode cX3_list 14 = .ok (.iconst 0, 1) := by decide +kernel
theorem dX3_list_15 : decode cX3_list 15 = .ok (.putfield 33, 3) := by decide +kernel
theorem dX3_list_18 : decode cX3_list 18 = .ok (.iconst 0, 1) := by decide +kernel
theorem dX3_list_19 : decode cX3_list 19 = .ok (.istore_n 3, 1) := by decide +kernel
theorem dX3_list_20 : decode cX3_list 20 = .ok (.iload_n 3, 1) := by decide +kernel
theorem dX3_list_21 : decode cX3_list 21 = .ok (.bipush 24, 2) := by decide +kernel
theorem dX3_list_23 : decode cX3_list 23 = .ok (.if_icmp .ge 148, 3) := by decide +kernel
theorem dX3_list_26 : decode cX3_list 26 = .ok (.iload_n 3, 1) := by decide +kernel
theorem dX3_list_27 : decode cX3_list 27 = .ok (.aload_n 0, 1) := by decide +kernel
theorem dX3_list_28 : decode cX3_list 28 = .ok (.getfield 21, 3) := by decide +kernel
theorem dX3_list_31 : decode cX3_list 31 = .ok (.getfield 41, 3) := by decide +kernel
theorem dX3_list_34 : decode cX3_list 34 = .ok (.if_icmp .ge 137, 3) := by decide +kernel
theorem dX3_list_37 : decode cX3_list 37 = .ok (.iconst 0, 1) := by decide +kernel
theorem dX3_list_38 : decode cX3_list 38 = .ok (.istore 4, 2) := by decide +kernel
theorem dX3_list_40 : decode cX3_list 40 = .ok (.iload 4, 2) := by decide +kernel
theorem dX3_list_42 : decode cX3_list 42 = .ok (.iconst 5, 1) := by decide +kernel
theorem dX3_list_43 : decode cX3_list 43 = .ok (.if_icmp .ge 122, 3) := by decide +kernel
theorem dX3_list_46 : decode cX3_list 46 = .ok (.lload_n 1, 1) := by decide +kernel
theorem dX3_list_47 : decode cX3_list 47 = .ok (.iload_n 3, 1) := by decide +kernel
theorem dX3_list_48 : decode cX3_list 48 = .ok (.lushr, 1) := by decide +kernel
theorem dX3_list_49 : decode cX3_list 49 = .ok (.lconst 1, 1) := by decide +kernel
theorem dX3_list_50 : decode cX3_list 50 = .ok (.land, 1) := by decide +kernel
theorem dX3_list_51 : decode cX3_list 51 = .ok (.lconst 0, 1) := by decide +kernel
theorem dX3_list_52 : decode cX3_list 52 = .ok (.lcmp, 1) := by decide +kernel
theorem dX3_list_53 : decode cX3_list 53 = .ok (.ifCond .eq 112, 3) := by decide +kernel
theorem dX3_list_56 : decode cX3_list 56 = .ok (.aload_n 0, 1) := by decide +kernel
theorem dX3_list_57 : decode cX3_list 57 = .ok (.getfield 25, 3) := by decide +kernel
theorem dX3_list_60 : decode cX3_list 60 = .ok (.aload_n 0, 1) := by decide +kernel
theorem dX3_list_61 : decode cX3_list 61 = .ok (.getfield 21, 3) := by decide +kernel
theorem dX3_list_64 : decode cX3_list 64 = .ok (.iload_n 3, 1) := by decide +kernel
theorem dX3_list_65 : decode cX3_list 65 = .ok (.iload 4, 2) := by decide +kernel
theorem dX3_list_67 : decode cX3_list 67 = .ok (.invokevirtual 46, 3) := by decide +kernel
theorem dX3_list_70 : decode cX3_list 70 = .ok (.istore 5, 2) := by decide +kernel
theorem dX3_list_72 : decode cX3_list 72 = .ok (.iconst 0, 1) := by decide +kernel
theorem dX3_list_73 : decode cX3_list 73 = .ok (.istore 6, 2) := by decide +kernel
theorem dX3_list_75 : decode cX3_list 75 = .ok (.iload 6, 2) := by decide +kernel
theorem dX3_list_77 : decode cX3_list 77 = .ok (.iload 5, 2) := by decide +kernel
theorem dX3_list_79 : decode cX3_list 79 = .ok (.if_icmp .ge 80, 3) := by decide +kernel
theorem dX3_list_82 : decode cX3_list 82 = .ok (.aload_n 0, 1) := by decide +kernel
theorem dX3_list_83 : decode cX3_list 83 = .ok (.getfield 33, 3) := by decide +kernel
theorem dX3_list_86 : decode cX3_list 86 = .ok (.bipush 40, 2) := by decide +kernel
theorem dX3_list_88 : decode cX3_list 88 = .ok (.if_icmp .ge 71, 3) := by decide +kernel
theorem dX3_list_91 : decode cX3_list 91 = .ok (.aload_n 0, 1) := by decide +kernel
theorem dX3_list_92 : decode cX3_list 92 = .ok (.getfield 25, 3) := by decide +kernel
theorem dX3_list_95 : decode cX3_list 95 = .ok (.aload_n 0, 1) := by decide +kernel
theorem dX3_list_96 : decode cX3_list 96 = .ok (.getfield 21, 3) := by decide +kernel
theorem dX3_list_99 : decode cX3_list 99 = .ok (.iload_n 3, 1) := by decide +kernel
theorem dX3_list_100 : decode cX3_list 100 = .ok (.iload 4, 2) := by decide +kernel
theorem dX3_list_102 : decode cX3_list 102 = .ok (.iload 6, 2) := by decide +kernel
theorem dX3_list_104 : decode cX3_list 104 = .ok (.invokevirtual 52, 3) := by decide +kernel
theorem dX3_list_107 : decode cX3_list 107 = .ok (.aload_n 0, 1) := by decide +kernel
theorem dX3_list_108 : decode cX3_list 108 = .ok (.getfield 29, 3) := by decide +kernel
theorem dX3_list_111 : decode cX3_list 111 = .ok (.invokevirtual 56, 3) := by decide +kernel
theorem dX3_list_114 : decode cX3_list 114 = .ok (.aload_n 0, 1) := by decide +kernel
theorem dX3_list_115 : decode cX3_list 115 = .ok (.getfield 29, 3) := by decide +kernel
theorem dX3_list_118 : decode cX3_list 118 = .ok (.getfield 61, 3) := by decide +kernel
theorem dX3_list_121 : decode cX3_list 121 = .ok (.ifCond .ne 32, 3) := by decide +kernel
theorem dX3_list_124 : decode cX3_list 124 = .ok (.aload_n 0, 1) := by decide +kernel
theorem dX3_list_125 : decode cX3_list 125 = .ok (.getfield 29, 3) := by decide +kernel
theorem dX3_list_128 : decode cX3_list 128 = .ok (.aload_n 0, 1) := by decide +kernel
theorem dX3_list_129 : decode cX3_list 129 = .ok (.getfield 25, 3) := by decide +kernel
theorem dX3_list_132 : decode cX3_list 132 = .ok (.getfield 64, 3) := by decide +kernel
theorem dX3_list_135 : decode cX3_list 135 = .ok (.invokevirtual 65, 3) := by decide +kernel
theorem dX3_list_138 : decode cX3_list 138 = .ok (.invokevirtual 69, 3) := by decide +kernel
theorem dX3_list_141 : decode cX3_list 141 = .ok (.ifCond .ne 12, 3) := by decide +kernel
theorem dX3_list_144 : decode cX3_list 144 = .ok (.aload_n 0, 1) := by decide +kernel
theorem dX3_list_145 : decode cX3_list 145 = .ok (.iload_n 3, 1) := by decide +kernel
theorem dX3_list_146 : decode cX3_list 146 = .ok (.iload 4, 2) := by decide +kernel
theorem dX3_list_148 : decode cX3_list 148 = .ok (.iload 6, 2) := by decide +kernel
theorem dX3_list_150 : decode cX3_list 150 = .ok (.invokevirtual 73, 3) := by decide +kernel
theorem dX3_list_153 : decode cX3_list 153 = .ok (.iinc 6 1, 3) := by decide +kernel
theorem dX3_list_156 : decode cX3_list 156 = .ok (.goto (-81), 3) := by decide +kernel
theorem dX3_list_159 : decode cX3_list 159 = .ok (.iinc 4 1, 3) := by decide +kernel
theorem dX3_list_162 : decode cX3_list 162 = .ok (.goto (-122), 3) := by decide +kernel
theorem dX3_list_165 : decode cX3_list 165 = .ok (.iinc 3 1, 3) := by decide +kernel
theorem dX3_list_168 : decode cX3_list 168 = .ok (.goto (-148), 3) := by decide +kernel
theorem dX3_list_171 : decode cX3_list 171 = .ok (.return_, 1) := by decide +kernel
def uXI64 : Nat → Nat → Int32 := q_up (q_up uXI63 76 0 1) 76 1 0
set_option maxRecDepth 20000 in
theorem uX_X3_list_73 : q_met mX3_list (q_sX uXI63 uXJ7) [.ref 76, .long 0] (fun s r => s = q_sX uXI64 uXJ7 ∧ r = none) := by
  refine q_enter (by decide) (Nat.le_of_ble_eq_true rfl) ?_
  refine q_aload_n dX3_list_0 rfl ?_
  refine q_getf (c := 3) (n := 0) (k := 0) (v := .int 0) dX3_list_1 rfl (by decide) (by decide) fX3_37 rfl ?_
  refine q_iz_eq (tgt := 8) (a := 0) dX3_list_4 (by decide) rfl (fun _ => ?_) (fun h => absurd h (by decide))
  refine q_aload_n dX3_list_8 rfl ?_
  refine q_ic (v := 1) dX3_list_9 rfl ?_
  refine q_putZ (c := 3) (n := 0) (k := 0) dX3_list_10 rfl (by decide) (by decide) fX3_37 rfl rfl (Or.inr rfl) ?_
  show q_K _ (q_sX (q_up uXI63 76 0 1) uXJ7) _ _ _ _ _ _
  refine q_aload_n dX3_list_13 rfl ?_
  refine q_ic (v := 0) dX3_list_14 rfl ?_
  refine q_putI (c := 3) (n := 0) (k := 1) dX3_list_15 rfl (by decide) (by decide) fX3_33 rfl rfl ?_
  show q_K _ (q_sX (q_up (q_up uXI63 76 0 1) 76 1 0) uXJ7) _ _ _ _ _ _
  refine q_ic (v := 0) dX3_list_18 rfl ?_
  refine q_istore_n dX3_list_19 (Nat.le_of_ble_eq_true rfl) ?_
  refine q_iload_n dX3_list_20 rfl ?_
  refine q_bi (v := 24) dX3_list_21 rfl ?_
  refine q_cz_ge (tgt := 171) (a := 0) (b := 24) dX3_list_23 (by decide) rfl rfl (fun h => absurd h (by decide)) (fun _ => ?_)
  refine q_iload_n dX3_list_26 rfl ?_
  refine q_aload_n dX3_list_27 rfl ?_
  refine q_getR (c := 3) (n := 0) (k := 5) (a := 2) dX3_list_28 rfl (by decide) (by decide) fX3_21 rfl rfl ?_
  refine q_getf (c := 9) (n := 0) (k := 1) (v := .int 0) dX3_list_31 rfl (by decide) (by decide) fX3_41 rfl ?_
  refine q_cz_ge (tgt := 171) (a := 0) (b := 0) dX3_list_34 (by decide) rfl rfl (fun _ => ?_) (fun h => absurd h (by decide))
  show q_K _ (q_sX uXI64 uXJ7) _ _ _ _ _ _
  refine q_ret dX3_list_171 rfl ?_
  exact ⟨rfl, rfl⟩
set_option maxRecDepth 20000 in
theorem frX_hints : q_met mX10_hints (q_sX zI6 zJ1) [.ref 0] (fun s r => (∃ I J, s = q_sX I J) ∧ ∃ v, r = some (.int v) ∧ v.toInt = (0 : Int)) := by
  refine q_enter (by decide) (Nat.le_of_ble_eq_true rfl) ?_
  refine q_aload_n dX10_hints_0 rfl ?_
  refine q_getR (c := 10) (n := 0) (k := 3) (a := 2) dX10_hints_1 rfl (by decide) (by decide) fX10_16 rfl rfl ?_
  refine q_getf (c := 9) (n := 0) (k := 1) (v := .int 0) dX10_hints_4 rfl (by decide) (by decide) fX10_185 rfl ?_
  refine q_bi (v := 24) dX10_hints_7 rfl ?_
  refine q_cz_le (tgt := 15) (a := 0) (b := 24) dX10_hints_9 (by decide) rfl rfl (fun _ => ?_) (fun h => absurd h (by decide))
  refine q_aload_n dX10_hints_15 rfl ?_
  refine q_getR (c := 10) (n := 0) (k := 11) (a := 76) dX10_hints_16 rfl (by decide) (by decide) fX10_79 rfl rfl ?_
  refine q_aload_n dX10_hints_19 rfl ?_
  refine q_getR (c := 10) (n := 0) (k := 10) (a := 69) dX10_hints_20 rfl (by decide) (by decide) fX10_70 rfl rfl ?_
  refine q_V0 (ci := 1) (n := 0) dX10_hints_23 DX1_find lX10_209 rfl (by decide) rfl rfl rfl rfl uX_X1_find_68 ?_
  rintro _ _ ⟨rfl, rfl⟩
  refine q_V1 (ci := 3) (n := 0) dX10_hints_26 DX3_list lX10_217 rfl (by decide) rfl rfl rfl rfl uX_X3_list_73 ?_
  rintro _ _ ⟨rfl, rfl⟩
  refine q_aload_n dX10_hints_29 rfl ?_
  refine q_getR (c := 10) (n := 0) (k := 11) (a := 76) dX10_hints_30 rfl (by decide) (by decide) fX10_79 rfl rfl ?_
  refine q_getf (c := 3) (n := 0) (k := 1) (v := .int 0) dX10_hints_33 rfl (by decide) (by decide) fX10_220 rfl ?_
  refine q_iret dX10_hints_36 rfl ?_
  exact ⟨⟨_, _, rfl⟩, _, rfl, (by show (0 : Int) = _; first | rfl | omega | (split <;> omega) | (split <;> split <;> omega))⟩
theorem dX10_hint_0 : decode cX10_hint 0 = .ok (.aload_n 0, 1) := by decide +kernel
theorem dX10_hint_1 : decode cX10_hint 1 = .ok (.getfield 16, 3) := by decide +kernel
theorem dX10_hint_4 : decode cX10_hint 4 = .ok (.getfield 185, 3) := by decide +kernel
theorem dX10_hint_7 : decode cX10_hint 7 = .ok (.bipush 24, 2) := by decide +kernel
theorem dX10_hint_9 : decode cX10_hint 9 = .ok (.if_icmp .le 5, 3) := by decide +kernel
theorem dX10_hint_12 : decode cX10_hint 12 = .ok (.iconst (-1), 1) := by decide +kernel
theorem dX10_hint_13 : decode cX10_hint 13 = .ok (.ireturn, 1) := by decide +kernel
theorem dX10_hint_14 : decode cX10_hint 14 = .ok (.aload_n 0, 1) := by decide +kernel
theorem dX10_hint_15 : decode cX10_hint 15 = .ok (.getfield 79, 3) := by decide +kernel
theorem dX10_hint_18 : decode cX10_hint 18 = .ok (.aload_n 0, 1) := by decide +kernel
theorem dX10_hint_19 : decode cX10_hint 19 = .ok (.getfield 70, 3) := by decide +kernel
theorem dX10_hint_22 : decode cX10_hint 22 = .ok (.invokevirtual 209, 3) := by decide +kernel
theorem dX10_hint_25 : decode cX10_hint 25 = .ok (.invokevirtual 217, 3) := by decide +kernel
theorem dX10_hint_28 : decode cX10_hint 28 = .ok (.aload_n 0, 1) := by decide +kernel
theorem dX10_hint_29 : decode cX10_hint 29 = .ok (.getfield 79, 3) := by decide +kernel
theorem dX10_hint_32 : decode cX10_hint 32 = .ok (.iload_n 1, 1) := by decide +kernel
theorem dX10_hint_33 : decode cX10_hint 33 = .ok (.invokevirtual 223, 3) := by decide +kernel
theorem dX10_hint_36 : decode cX10_hint 36 = .ok (.ifCond .ne 5, 3) := by decide +kernel
theorem dX10_hint_39 : decode cX10_hint 39 = .ok (.iconst (-1), 1) := by decide +kernel
theorem dX10_hint_40 : decode cX10_hint 40 = .ok (.ireturn, 1) := by decide +kernel
theorem dX10_hint_41 : decode cX10_hint 41 = .ok (.iload_n 2, 1) := by decide +kernel
theorem dX10_hint_42 : decode cX10_hint 42 = .ok (.tableswitch 56 0 2 #[26, 36, 46], 26) := by decide +kernel
theorem dX10_hint_68 : decode cX10_hint 68 = .ok (.aload_n 0, 1) := by decide +kernel
theorem dX10_hint_69 : decode cX10_hint 69 = .ok (.getfield 79, 3) := by decide +kernel
theorem dX10_hint_72 : decode cX10_hint 72 = .ok (.getfield 224, 3) := by decide +kernel
theorem dX10_hint_75 : decode cX10_hint 75 = .ok (.iload_n 1, 1) := by decide +kernel
theorem dX10_hint_76 : decode cX10_hint 76 = .ok (.iaload, 1) := by decide +kernel
theorem dX10_hint_77 : decode cX10_hint 77 = .ok (.ireturn, 1) := by decide +kernel
theorem dX10_hint_78 : decode cX10_hint 78 = .ok (.aload_n 0, 1) := by decide +kernel
theorem dX10_hint_79 : decode cX10_hint 79 = .ok (.getfield 79, 3) := by decide +kernel
theorem dX10_hint_82 : decode cX10_hint 82 = .ok (.getfield 227, 3) := by decide +kernel
theorem dX10_hint_85 : decode cX10_hint 85 = .ok (.iload_n 1, 1) := by decide +kernel
theorem dX10_hint_86 : decode cX10_hint 86 = .ok (.iaload, 1) := by decide +kernel
theorem dX10_hint_87 : decode cX10_hint 87 = .ok (.ireturn, 1) := by decide +kernel
theorem dX10_hint_88 : decode cX10_hint 88 = .ok (.aload_n 0, 1) := by decide +kernel
theorem dX10_hint_89 : decode cX10_hint 89 = .ok (.getfield 79, 3) := by decide +kernel
theorem dX10_hint_92 : decode cX10_hint 92 = .ok (.getfield 230, 3) := by decide +kernel
theorem dX10_hint_95 : decode cX10_hint 95 = .ok (.iload_n 1, 1) := by decide +kernel
theorem dX10_hint_96 : decode cX10_hint 96 = .ok (.iaload, 1) := by decide +kernel
theorem dX10_hint_97 : decode cX10_hint 97 = .ok (.ireturn, 1) := by decide +kernel
theorem dX10_hint_98 : decode cX10_hint 98 = .ok (.iconst (-1), 1) := by decide +kernel
theorem dX10_hint_99 : decode cX10_hint 99 = .ok (.ireturn, 1) := by decide +kernel
theorem dX3_has_0 : decode cX3_has 0 = .ok (.iload_n 1, 1) := by decide +kernel
theorem dX3_has_1 : decode cX3_has 1 = .ok (.ifCond .lt 21, 3) := by decide +kernel
theorem dX3_has_4 : decode cX3_has 4 = .ok (.iload_n 1, 1) := by decide +kernel
theorem dX3_has_5 : decode cX3_has 5 = .ok (.aload_n 0, 1) := by decide +kernel
theorem dX3_has_6 : decode cX3_has 6 = .ok (.getfield 33, 3) := by decide +kernel
theorem dX3_has_9 : decode cX3_has 9 = .ok (.if_icmp .ge 13, 3) := by decide +kernel
theorem dX3_has_12 : decode cX3_has 12 = .ok (.iload_n 1, 1) := by decide +kernel
theorem dX3_has_13 : decode cX3_has 13 = .ok (.bipush 40, 2) := by decide +kernel
theorem dX3_has_15 : decode cX3_has 15 = .ok (.if_icmp .ge 7, 3) := by decide +kernel
theorem dX3_has_18 : decode cX3_has 18 = .ok (.iconst 1, 1) := by decide +kernel
theorem dX3_has_19 : decode cX3_has 19 = .ok (.goto 4, 3) := by decide +kernel
theorem dX3_has_22 : decode cX3_has 22 = .ok (.iconst 0, 1) := by decide +kernel
theorem dX3_has_23 : decode cX3_has 23 = .ok (.ireturn, 1) := by decide +kernel
set_option maxRecDepth 20000 in
theorem uX_X3_has_75 (a : Int32) : q_met mX3_has (q_sX uXI64 uXJ7) [.ref 76, .int a] (fun s r => s = q_sX uXI64 uXJ7 ∧ r = some (.int 0)) := by
  refine q_enter (by decide) (Nat.le_of_ble_eq_true rfl) ?_
  refine q_iload_n dX3_has_0 rfl ?_
  refine q_iz_lt (tgt := 22) (a := a.toInt) dX3_has_1 (by decide) rfl (fun h1_0 => ?_) (fun h1_0 => ?_)
  · refine q_ic (v := 0) dX3_has_22 rfl ?_
    refine q_zret dX3_has_23 rfl (Or.inl rfl) ?_
    exact ⟨rfl, rfl⟩
  · refine q_iload_n dX3_has_4 rfl ?_
    refine q_aload_n dX3_has_5 rfl ?_
    refine q_getf (c := 3) (n := 0) (k := 1) (v := .int 0) dX3_has_6 rfl (by decide) (by decide) fX3_33 rfl ?_
    refine q_cz_ge (tgt := 22) (a := a.toInt) (b := 0) dX3_has_9 (by decide) rfl rfl (fun h9_1 => ?_) (fun h9_1 => ?_)
    · refine q_ic (v := 0) dX3_has_22 rfl ?_
      refine q_zret dX3_has_23 rfl (Or.inl rfl) ?_
      exact ⟨rfl, rfl⟩
    · exfalso; omega
set_option maxRecDepth 20000 in
theorem frX_hint (a : Int32) (b : Int32) : q_met mX10_hint (q_sX zI6 zJ1) [.ref 0, .int a, .int b] (fun s r => (∃ I J, s = q_sX I J) ∧ ∃ v, r = some (.int v) ∧ v.toInt = (-1 : Int)) := by
  refine q_enter (by decide) (Nat.le_of_ble_eq_true rfl) ?_
  refine q_aload_n dX10_hint_0 rfl ?_
  refine q_getR (c := 10) (n := 0) (k := 3) (a := 2) dX10_hint_1 rfl (by decide) (by decide) fX10_16 rfl rfl ?_
  refine q_getf (c := 9) (n := 0) (k := 1) (v := .int 0) dX10_hint_4 rfl (by decide) (by decide) fX10_185 rfl ?_
  refine q_bi (v := 24) dX10_hint_7 rfl ?_
  refine q_cz_le (tgt := 14) (a := 0) (b := 24) dX10_hint_9 (by decide) rfl rfl (fun _ => ?_) (fun h => absurd h (by decide))
  refine q_aload_n dX10_hint_14 rfl ?_
  refine q_getR (c := 10) (n := 0) (k := 11) (a := 76) dX10_hint_15 rfl (by decide) (by decide) fX10_79 rfl rfl ?_
  refine q_aload_n dX10_hint_18 rfl ?_
  refine q_getR (c := 10) (n := 0) (k := 10) (a := 69) dX10_hint_19 rfl (by decide) (by decide) fX10_70 rfl rfl ?_
  refine q_V0 (ci := 1) (n := 0) dX10_hint_22 DX1_find lX10_209 rfl (by decide) rfl rfl rfl rfl uX_X1_find_68 ?_
  rintro _ _ ⟨rfl, rfl⟩
  refine q_V1 (ci := 3) (n := 0) dX10_hint_25 DX3_list lX10_217 rfl (by decide) rfl rfl rfl rfl uX_X3_list_73 ?_
  rintro _ _ ⟨rfl, rfl⟩
  refine q_aload_n dX10_hint_28 rfl ?_
  refine q_getR (c := 10) (n := 0) (k := 11) (a := 76) dX10_hint_29 rfl (by decide) (by decide) fX10_79 rfl rfl ?_
  refine q_iload_n dX10_hint_32 rfl ?_
  refine q_V1 (ci := 3) (n := 0) dX10_hint_33 DX3_has lX10_223 rfl (by decide) rfl rfl rfl rfl (uX_X3_has_75 a) ?_
  rintro _ _ ⟨rfl, rfl⟩
  refine q_iz_ne (tgt := 41) (a := 0) dX10_hint_36 (by decide) rfl (fun h => absurd h (by decide)) (fun _ => ?_)
  refine q_ic (v := (-1)) dX10_hint_39 rfl ?_
  refine q_iret dX10_hint_40 rfl ?_
  exact ⟨⟨_, _, rfl⟩, _, rfl, (by show ((-1) : Int) = _; first | rfl | omega | (split <;> omega) | (split <;> split <;> omega))⟩
theorem dX10_apply_0 : decode cX10_apply 0 = .ok (.aload_n 0, 1) := by decide +kernel
theorem dX10_apply_1 : decode cX10_apply 1 = .ok (.getfield 16, 3) := by decide +kernel
theorem dX10_apply_4 : decode cX10_apply 4 = .ok (.getfield 185, 3) := by decide +kernel
theorem dX10_apply_7 : decode cX10_apply 7 = .ok (.bipush 24, 2) := by decide +kernel
theorem dX10_apply_9 : decode cX10_apply 9 = .ok (.if_icmp .le 5, 3) := by decide +kernel
theorem dX10_apply_12 : decode cX10_apply 12 = .ok (.iconst (-1), 1) := by decide +kernel
theorem dX10_apply_13 : decode cX10_apply 13 = .ok (.ireturn, 1) := by decide +kernel
theorem dX10_apply_14 : decode cX10_apply 14 = .ok (.aload_n 0, 1) := by decide +kernel
theorem dX10_apply_15 : decode cX10_apply 15 = .ok (.getfield 79, 3) := by decide +kernel
theorem dX10_apply_18 : decode cX10_apply 18 = .ok (.aload_n 0, 1) := by decide +kernel
theorem dX10_apply_19 : decode cX10_apply 19 = .ok (.getfield 70, 3) := by decide +kernel
theorem dX10_apply_22 : decode cX10_apply 22 = .ok (.invokevirtual 209, 3) := by decide +kernel
theorem dX10_apply_25 : decode cX10_apply 25 = .ok (.invokevirtual 217, 3) := by decide +kernel
theorem dX10_apply_28 : decode cX10_apply 28 = .ok (.aload_n 0, 1) := by decide +kernel
theorem dX10_apply_29 : decode cX10_apply 29 = .ok (.getfield 79, 3) := by decide +kernel
theorem dX10_apply_32 : decode cX10_apply 32 = .ok (.iload_n 1, 1) := by decide +kernel
theorem dX10_apply_33 : decode cX10_apply 33 = .ok (.invokevirtual 223, 3) := by decide +kernel
theorem dX10_apply_36 : decode cX10_apply 36 = .ok (.ifCond .ne 5, 3) := by decide +kernel
theorem dX10_apply_39 : decode cX10_apply 39 = .ok (.iconst (-1), 1) := by decide +kernel
theorem dX10_apply_40 : decode cX10_apply 40 = .ok (.ireturn, 1) := by decide +kernel
theorem dX10_apply_41 : decode cX10_apply 41 = .ok (.aload_n 0, 1) := by decide +kernel
theorem dX10_apply_42 : decode cX10_apply 42 = .ok (.getfield 23, 3) := by decide +kernel
theorem dX10_apply_45 : decode cX10_apply 45 = .ok (.aload_n 0, 1) := by decide +kernel
theorem dX10_apply_46 : decode cX10_apply 46 = .ok (.getfield 16, 3) := by decide +kernel
theorem dX10_apply_49 : decode cX10_apply 49 = .ok (.aload_n 0, 1) := by decide +kernel
theorem dX10_apply_50 : decode cX10_apply 50 = .ok (.getfield 79, 3) := by decide +kernel
theorem dX10_apply_53 : decode cX10_apply 53 = .ok (.getfield 224, 3) := by decide +kernel
theorem dX10_apply_56 : decode cX10_apply 56 = .ok (.iload_n 1, 1) := by decide +kernel
theorem dX10_apply_57 : decode cX10_apply 57 = .ok (.iaload, 1) := by decide +kernel
theorem dX10_apply_58 : decode cX10_apply 58 = .ok (.aload_n 0, 1) := by decide +kernel
theorem dX10_apply_59 : decode cX10_apply 59 = .ok (.getfield 79, 3) := by decide +kernel
theorem dX10_apply_62 : decode cX10_apply 62 = .ok (.getfield 227, 3) := by decide +kernel
theorem dX10_apply_65 : decode cX10_apply 65 = .ok (.iload_n 1, 1) := by decide +kernel
theorem dX10_apply_66 : decode cX10_apply 66 = .ok (.iaload, 1) := by decide +kernel
theorem dX10_apply_67 : decode cX10_apply 67 = .ok (.aload_n 0, 1) := by decide +kernel
theorem dX10_apply_68 : decode cX10_apply 68 = .ok (.getfield 79, 3) := by decide +kernel
theorem dX10_apply_71 : decode cX10_apply 71 = .ok (.getfield 230, 3) := by decide +kernel
theorem dX10_apply_74 : decode cX10_apply 74 = .ok (.iload_n 1, 1) := by decide +kernel
theorem dX10_apply_75 : decode cX10_apply 75 = .ok (.iaload, 1) := by decide +kernel
theorem dX10_apply_76 : decode cX10_apply 76 = .ok (.invokevirtual 233, 3) := by decide +kernel
theorem dX10_apply_79 : decode cX10_apply 79 = .ok (.aload_n 0, 1) := by decide +kernel
theorem dX10_apply_80 : decode cX10_apply 80 = .ok (.aload_n 0, 1) := by decide +kernel
theorem dX10_apply_81 : decode cX10_apply 81 = .ok (.getfield 23, 3) := by decide +kernel
theorem dX10_apply_84 : decode cX10_apply 84 = .ok (.getfield 36, 3) := by decide +kernel
theorem dX10_apply_87 : decode cX10_apply 87 = .ok (.invokevirtual 129, 3) := by decide +kernel
theorem dX10_apply_90 : decode cX10_apply 90 = .ok (.ireturn, 1) := by decide +kernel
set_option maxRecDepth 20000 in
theorem frX_apply (a : Int32) : q_met mX10_apply (q_sX zI6 zJ1) [.ref 0, .int a] (fun s r => (∃ I J, s = q_sX I J) ∧ ∃ v, r = some (.int v) ∧ v.toInt = (-1 : Int)) := by
  refine q_enter (by decide) (Nat.le_of_ble_eq_true rfl) ?_
  refine q_aload_n dX10_apply_0 rfl ?_
  refine q_getR (c := 10) (n := 0) (k := 3) (a := 2) dX10_apply_1 rfl (by decide) (by decide) fX10_16 rfl rfl ?_
  refine q_getf (c := 9) (n := 0) (k := 1) (v := .int 0) dX10_apply_4 rfl (by decide) (by decide) fX10_185 rfl ?_
  refine q_bi (v := 24) dX10_apply_7 rfl ?_
  refine q_cz_le (tgt := 14) (a := 0) (b := 24) dX10_apply_9 (by decide) rfl rfl (fun _ => ?_) (fun h => absurd h (by decide))
  refine q_aload_n dX10_apply_14 rfl ?_
  refine q_getR (c := 10) (n := 0) (k := 11) (a := 76) dX10_apply_15 rfl (by decide) (by decide) fX10_79 rfl rfl ?_
  refine q_aload_n dX10_apply_18 rfl ?_
  refine q_getR (c := 10) (n := 0) (k := 10) (a := 69) dX10_apply_19 rfl (by decide) (by decide) fX10_70 rfl rfl ?_
  refine q_V0 (ci := 1) (n := 0) dX10_apply_22 DX1_find lX10_209 rfl (by decide) rfl rfl rfl rfl uX_X1_find_68 ?_
  rintro _ _ ⟨rfl, rfl⟩
  refine q_V1 (ci := 3) (n := 0) dX10_apply_25 DX3_list lX10_217 rfl (by decide) rfl rfl rfl rfl uX_X3_list_73 ?_
  rintro _ _ ⟨rfl, rfl⟩
  refine q_aload_n dX10_apply_28 rfl ?_
  refine q_getR (c := 10) (n := 0) (k := 11) (a := 76) dX10_apply_29 rfl (by decide) (by decide) fX10_79 rfl rfl ?_
  refine q_iload_n dX10_apply_32 rfl ?_
  refine q_V1 (ci := 3) (n := 0) dX10_apply_33 DX3_has lX10_223 rfl (by decide) rfl rfl rfl rfl (uX_X3_has_75 a) ?_
  rintro _ _ ⟨rfl, rfl⟩
  refine q_iz_ne (tgt := 41) (a := 0) dX10_apply_36 (by decide) rfl (fun h => absurd h (by decide)) (fun _ => ?_)
  refine q_ic (v := (-1)) dX10_apply_39 rfl ?_
  refine q_iret dX10_apply_40 rfl ?_
  exact ⟨⟨_, _, rfl⟩, _, rfl, (by show ((-1) : Int) = _; first | rfl | omega | (split <;> omega) | (split <;> split <;> omega))⟩
theorem dX10_run_0 : decode cX10_run 0 = .ok (.aload_n 0, 1) := by decide +kernel
theorem dX10_run_1 : decode cX10_run 1 = .ok (.getfield 16, 3) := by decide +kernel
theorem dX10_run_4 : decode cX10_run 4 = .ok (.getfield 237, 3) := by decide +kernel
theorem dX10_run_7 : decode cX10_run 7 = .ok (.ifCond .eq 12, 3) := by decide +kernel
theorem dX10_run_10 : decode cX10_run 10 = .ok (.iload_n 1, 1) := by decide +kernel
theorem dX10_run_11 : decode cX10_run 11 = .ok (.ifCond .lt 8, 3) := by decide +kernel
theorem dX10_run_14 : decode cX10_run 14 = .ok (.iload_n 1, 1) := by decide +kernel
theorem dX10_run_15 : decode cX10_run 15 = .ok (.iconst 1, 1) := by decide +kernel
theorem dX10_run_16 : decode cX10_run 16 = .ok (.if_icmp .le 5, 3) := by decide +kernel
theorem dX10_run_19 : decode cX10_run 19 = .ok (.iconst (-1), 1) := by decide +kernel
theorem dX10_run_20 : decode cX10_run 20 = .ok (.ireturn, 1) := by decide +kernel
theorem dX10_run_21 : decode cX10_run 21 = .ok (.aload_n 0, 1) := by decide +kernel
theorem dX10_run_22 : decode cX10_run 22 = .ok (.getfield 88, 3) := by decide +kernel
theorem dX10_run_25 : decode cX10_run 25 = .ok (.invokevirtual 240, 3) := by decide +kernel
theorem dX10_run_28 : decode cX10_run 28 = .ok (.iload_n 1, 1) := by decide +kernel
theorem dX10_run_29 : decode cX10_run 29 = .ok (.ifCond .ne 13, 3) := by decide +kernel
theorem dX10_run_32 : decode cX10_run 32 = .ok (.aload_n 0, 1) := by decide +kernel
theorem dX10_run_33 : decode cX10_run 33 = .ok (.getfield 88, 3) := by decide +kernel
theorem dX10_run_36 : decode cX10_run 36 = .ok (.getfield 243, 3) := by decide +kernel
theorem dX10_run_39 : decode cX10_run 39 = .ok (.goto 10, 3) := by decide +kernel
theorem dX10_run_42 : decode cX10_run 42 = .ok (.aload_n 0, 1) := by decide +kernel
theorem dX10_run_43 : decode cX10_run 43 = .ok (.getfield 88, 3) := by decide +kernel
theorem dX10_run_46 : decode cX10_run 46 = .ok (.getfield 246, 3) := by decide +kernel
theorem dX10_run_49 : decode cX10_run 49 = .ok (.ireturn, 1) := by decide +kernel
set_option maxRecDepth 20000 in
theorem frX_run (a : Int32) : q_met mX10_run (q_sX zI6 zJ1) [.ref 0, .int a] (fun s r => (∃ I J, s = q_sX I J) ∧ ∃ v, r = some (.int v) ∧ v.toInt = (-1 : Int)) := by
  refine q_enter (by decide) (Nat.le_of_ble_eq_true rfl) ?_
  refine q_aload_n dX10_run_0 rfl ?_
  refine q_getR (c := 10) (n := 0) (k := 3) (a := 2) dX10_run_1 rfl (by decide) (by decide) fX10_16 rfl rfl ?_
  refine q_getf (c := 9) (n := 0) (k := 0) (v := .int 0) dX10_run_4 rfl (by decide) (by decide) fX10_237 rfl ?_
  refine q_iz_eq (tgt := 19) (a := 0) dX10_run_7 (by decide) rfl (fun _ => ?_) (fun h => absurd h (by decide))
  refine q_ic (v := (-1)) dX10_run_19 rfl ?_
  refine q_iret dX10_run_20 rfl ?_
  exact ⟨⟨_, _, rfl⟩, _, rfl, (by show ((-1) : Int) = _; first | rfl | omega | (split <;> omega) | (split <;> split <;> omega))⟩
theorem dX10_right_0 : decode cX10_right 0 = .ok (.aload_n 0, 1) := by decide +kernel
theorem dX10_right_1 : decode cX10_right 1 = .ok (.getfield 16, 3) := by decide +kernel
theorem dX10_right_4 : decode cX10_right 4 = .ok (.iload_n 1, 1) := by decide +kernel
theorem dX10_right_5 : decode cX10_right 5 = .ok (.invokevirtual 139, 3) := by decide +kernel
theorem dX10_right_8 : decode cX10_right 8 = .ok (.ifCond .ne 5, 3) := by decide +kernel
theorem dX10_right_11 : decode cX10_right 11 = .ok (.iconst (-1), 1) := by decide +kernel
theorem dX10_right_12 : decode cX10_right 12 = .ok (.ireturn, 1) := by decide +kernel
theorem dX10_right_13 : decode cX10_right 13 = .ok (.aload_n 0, 1) := by decide +kernel
theorem dX10_right_14 : decode cX10_right 14 = .ok (.getfield 95, 3) := by decide +kernel
theorem dX10_right_17 : decode cX10_right 17 = .ok (.iload_n 1, 1) := by decide +kernel
theorem dX10_right_18 : decode cX10_right 18 = .ok (.aload_n 0, 1) := by decide +kernel
theorem dX10_right_19 : decode cX10_right 19 = .ok (.getfield 249, 3) := by decide +kernel
theorem dX10_right_22 : decode cX10_right 22 = .ok (.invokevirtual 252, 3) := by decide +kernel
theorem dX10_right_25 : decode cX10_right 25 = .ok (.ireturn, 1) := by decide +kernel
set_option maxRecDepth 20000 in
theorem frX_right (a : Int32) : q_met mX10_right (q_sX zI6 zJ1) [.ref 0, .int a] (fun s r => (∃ I J, s = q_sX I J) ∧ ∃ v, r = some (.int v) ∧ v.toInt = (-1 : Int)) := by
  refine q_enter (by decide) (Nat.le_of_ble_eq_true rfl) ?_
  refine q_aload_n dX10_right_0 rfl ?_
  refine q_getR (c := 10) (n := 0) (k := 3) (a := 2) dX10_right_1 rfl (by decide) (by decide) fX10_16 rfl rfl ?_
  refine q_iload_n dX10_right_4 rfl ?_
  refine q_V1 (ci := 9) (n := 0) dX10_right_5 DX9_has lX10_139 rfl (by decide) rfl rfl rfl rfl (uX_X9_has_17 a) ?_
  rintro _ _ ⟨rfl, rfl⟩
  refine q_iz_ne (tgt := 13) (a := 0) dX10_right_8 (by decide) rfl (fun h => absurd h (by decide)) (fun _ => ?_)
  refine q_ic (v := (-1)) dX10_right_11 rfl ?_
  refine q_iret dX10_right_12 rfl ?_
  exact ⟨⟨_, _, rfl⟩, _, rfl, (by show ((-1) : Int) = _; first | rfl | omega | (split <;> omega) | (split <;> split <;> omega))⟩
theorem dX10_untell_0 : decode cX10_untell 0 = .ok (.aload_n 0, 1) := by decide +kernel
theorem dX10_untell_1 : decode cX10_untell 1 = .ok (.getfield 95, 3) := by decide +kernel
theorem dX10_untell_4 : decode cX10_untell 4 = .ok (.iload_n 1, 1) := by decide +kernel
theorem dX10_untell_5 : decode cX10_untell 5 = .ok (.aload_n 0, 1) := by decide +kernel
theorem dX10_untell_6 : decode cX10_untell 6 = .ok (.getfield 249, 3) := by decide +kernel
theorem dX10_untell_9 : decode cX10_untell 9 = .ok (.invokevirtual 255, 3) := by decide +kernel
theorem dX10_untell_12 : decode cX10_untell 12 = .ok (.ireturn, 1) := by decide +kernel
theorem dX8_takeBack_0 : decode cX8_takeBack 0 = .ok (.iload_n 1, 1) := by decide +kernel
theorem dX8_takeBack_1 : decode cX8_takeBack 1 = .ok (.ifCond .lt 27, 3) := by decide +kernel
theorem dX8_takeBack_4 : decode cX8_takeBack 4 = .ok (.iload_n 1, 1) := by decide +kernel
theorem dX8_takeBack_5 : decode cX8_takeBack 5 = .ok (.aload_n 0, 1) := by decide +kernel
theorem dX8_takeBack_6 : decode cX8_takeBack 6 = .ok (.getfield 21, 3) := by decide +kernel
theorem dX8_takeBack_9 : decode cX8_takeBack 9 = .ok (.if_icmp .ge 19, 3) := by decide +kernel
theorem dX8_takeBack_12 : decode cX8_takeBack 12 = .ok (.iload_n 1, 1) := by decide +kernel
theorem dX8_takeBack_13 : decode cX8_takeBack 13 = .ok (.bipush 30, 2) := by decide +kernel
theorem dX8_takeBack_15 : decode cX8_takeBack 15 = .ok (.if_icmp .ge 13, 3) := by decide +kernel
theorem dX8_takeBack_18 : decode cX8_takeBack 18 = .ok (.aload_n 0, 1) := by decide +kernel
theorem dX8_takeBack_19 : decode cX8_takeBack 19 = .ok (.getfield 18, 3) := by decide +kernel
theorem dX8_takeBack_22 : decode cX8_takeBack 22 = .ok (.iload_n 1, 1) := by decide +kernel
theorem dX8_takeBack_23 : decode cX8_takeBack 23 = .ok (.iaload, 1) := by decide +kernel
theorem dX8_takeBack_24 : decode cX8_takeBack 24 = .ok (.iconst (-1), 1) := by decide +kernel
theorem dX8_takeBack_25 : decode cX8_takeBack 25 = .ok (.if_icmp .eq 5, 3) := by decide +kernel
theorem dX8_takeBack_28 : decode cX8_takeBack 28 = .ok (.iconst 0, 1) := by decide +kernel
theorem dX8_takeBack_29 : decode cX8_takeBack 29 = .ok (.ireturn, 1) := by decide +kernel
theorem dX8_takeBack_30 : decode cX8_takeBack 30 = .ok (.aload_n 0, 1) := by decide +kernel
theorem dX8_takeBack_31 : decode cX8_takeBack 31 = .ok (.getfield 18, 3) := by decide +kernel
theorem dX8_takeBack_34 : decode cX8_takeBack 34 = .ok (.iload_n 1, 1) := by decide +kernel
theorem dX8_takeBack_35 : decode cX8_takeBack 35 = .ok (.iload_n 2, 1) := by decide +kernel
theorem dX8_takeBack_36 : decode cX8_takeBack 36 = .ok (.iastore, 1) := by decide +kernel
theorem dX8_takeBack_37 : decode cX8_takeBack 37 = .ok (.iconst 1, 1) := by decide +kernel
theorem dX8_takeBack_38 : decode cX8_takeBack 38 = .ok (.ireturn, 1) := by decide +kernel
set_option maxRecDepth 20000 in
theorem uX_X8_takeBack_80 (a : Int32) : q_met mX8_takeBack (q_sX zI6 zJ1) [.ref 88, .int a, .int 0] (fun s r => s = q_sX zI6 zJ1 ∧ r = some (.int 0)) := by
  refine q_enter (by decide) (Nat.le_of_ble_eq_true rfl) ?_
  refine q_iload_n dX8_takeBack_0 rfl ?_
  refine q_iz_lt (tgt := 28) (a := a.toInt) dX8_takeBack_1 (by decide) rfl (fun h1_0 => ?_) (fun h1_0 => ?_)
  · refine q_ic (v := 0) dX8_takeBack_28 rfl ?_
    refine q_zret dX8_takeBack_29 rfl (Or.inl rfl) ?_
    exact ⟨rfl, rfl⟩
  · refine q_iload_n dX8_takeBack_4 rfl ?_
    refine q_aload_n dX8_takeBack_5 rfl ?_
    refine q_getf (c := 8) (n := 0) (k := 0) (v := .int 0) dX8_takeBack_6 rfl (by decide) (by decide) fX8_21 rfl ?_
    refine q_cz_ge (tgt := 28) (a := a.toInt) (b := 0) dX8_takeBack_9 (by decide) rfl rfl (fun h9_1 => ?_) (fun h9_1 => ?_)
    · refine q_ic (v := 0) dX8_takeBack_28 rfl ?_
      refine q_zret dX8_takeBack_29 rfl (Or.inl rfl) ?_
      exact ⟨rfl, rfl⟩
    · exfalso; omega
set_option maxRecDepth 20000 in
theorem frX_untell (a : Int32) : q_met mX10_untell (q_sX zI6 zJ1) [.ref 0, .int a] (fun s r => (∃ I J, s = q_sX I J) ∧ ∃ v, r = some (.int v) ∧ v.toInt = (0 : Int)) := by
  refine q_enter (by decide) (Nat.le_of_ble_eq_true rfl) ?_
  refine q_aload_n dX10_untell_0 rfl ?_
  refine q_getR (c := 10) (n := 0) (k := 13) (a := 88) dX10_untell_1 rfl (by decide) (by decide) fX10_95 rfl rfl ?_
  refine q_iload_n dX10_untell_4 rfl ?_
  refine q_aload_n dX10_untell_5 rfl ?_
  refine q_getf (c := 10) (n := 0) (k := 2) (v := .int 0) dX10_untell_6 rfl (by decide) (by decide) fX10_249 rfl ?_
  refine q_V2 (ci := 8) (n := 0) dX10_untell_9 DX8_takeBack lX10_255 rfl (by decide) rfl rfl rfl rfl (uX_X8_takeBack_80 a) ?_
  rintro _ _ ⟨rfl, rfl⟩
  refine q_zret dX10_untell_12 rfl (Or.inl rfl) ?_
  exact ⟨⟨_, _, rfl⟩, _, rfl, (by show (0 : Int) = _; first | rfl | omega | (split <;> omega) | (split <;> split <;> omega))⟩
theorem dX10_later_0 : decode cX10_later 0 = .ok (.iload_n 1, 1) := by decide +kernel
theorem dX10_later_1 : decode cX10_later 1 = .ok (.ifCond .lt 22, 3) := by decide +kernel
theorem dX10_later_4 : decode cX10_later 4 = .ok (.iload_n 1, 1) := by decide +kernel
theorem dX10_later_5 : decode cX10_later 5 = .ok (.sipush 1000, 3) := by decide +kernel
theorem dX10_later_8 : decode cX10_later 8 = .ok (.if_icmp .gt 15, 3) := by decide +kernel
theorem dX10_later_11 : decode cX10_later 11 = .ok (.aload_n 0, 1) := by decide +kernel
theorem dX10_later_12 : decode cX10_later 12 = .ok (.getfield 249, 3) := by decide +kernel
theorem dX10_later_15 : decode cX10_later 15 = .ok (.iload_n 1, 1) := by decide +kernel
theorem dX10_later_16 : decode cX10_later 16 = .ok (.iadd, 1) := by decide +kernel
theorem dX10_later_17 : decode cX10_later 17 = .ok (.ldc_w 258, 3) := by decide +kernel
theorem dX10_later_20 : decode cX10_later 20 = .ok (.if_icmp .le 5, 3) := by decide +kernel
theorem dX10_later_23 : decode cX10_later 23 = .ok (.iconst (-1), 1) := by decide +kernel
theorem dX10_later_24 : decode cX10_later 24 = .ok (.ireturn, 1) := by decide +kernel
theorem dX10_later_25 : decode cX10_later 25 = .ok (.aload_n 0, 1) := by decide +kernel
theorem dX10_later_26 : decode cX10_later 26 = .ok (.dup, 1) := by decide +kernel
theorem dX10_later_27 : decode cX10_later 27 = .ok (.getfield 249, 3) := by decide +kernel
theorem dX10_later_30 : decode cX10_later 30 = .ok (.iload_n 1, 1) := by decide +kernel
theorem dX10_later_31 : decode cX10_later 31 = .ok (.iadd, 1) := by decide +kernel
theorem dX10_later_32 : decode cX10_later 32 = .ok (.putfield 249, 3) := by decide +kernel
theorem dX10_later_35 : decode cX10_later 35 = .ok (.aload_n 0, 1) := by decide +kernel
theorem dX10_later_36 : decode cX10_later 36 = .ok (.getfield 249, 3) := by decide +kernel
theorem dX10_later_39 : decode cX10_later 39 = .ok (.ireturn, 1) := by decide +kernel
set_option maxRecDepth 20000 in
theorem frX_later (a : Int32) : q_met mX10_later (q_sX zI6 zJ1) [.ref 0, .int a] (fun s r => (∃ I J, s = q_sX I J) ∧ ∃ v, r = some (.int v) ∧ v.toInt = (if 0 ≤ a.toInt ∧ a.toInt ≤ 1000 then a.toInt else -1 : Int)) := by
  refine q_enter (by decide) (Nat.le_of_ble_eq_true rfl) ?_
  refine q_iload_n dX10_later_0 rfl ?_
  refine q_iz_lt (tgt := 23) (a := a.toInt) dX10_later_1 (by decide) rfl (fun h1_0 => ?_) (fun h1_0 => ?_)
  · refine q_ic (v := (-1)) dX10_later_23 rfl ?_
    refine q_iret dX10_later_24 rfl ?_
    exact ⟨⟨_, _, rfl⟩, _, rfl, (by show ((-1) : Int) = _; first | rfl | omega | (split <;> omega) | (split <;> split <;> omega))⟩
  · refine q_iload_n dX10_later_4 rfl ?_
    refine q_si (v := 1000) dX10_later_5 rfl ?_
    refine q_cz_gt (tgt := 23) (a := a.toInt) (b := 1000) dX10_later_8 (by decide) rfl rfl (fun h8_1 => ?_) (fun h8_1 => ?_)
    · refine q_ic (v := (-1)) dX10_later_23 rfl ?_
      refine q_iret dX10_later_24 rfl ?_
      exact ⟨⟨_, _, rfl⟩, _, rfl, (by show ((-1) : Int) = _; first | rfl | omega | (split <;> omega) | (split <;> split <;> omega))⟩
    · refine q_aload_n dX10_later_11 rfl ?_
      refine q_getf (c := 10) (n := 0) (k := 2) (v := .int 0) dX10_later_12 rfl (by decide) (by decide) fX10_249 rfl ?_
      refine q_iload_n dX10_later_15 rfl ?_
      refine q_iadd dX10_later_16 ?_
      refine q_ldcw (v := 100000) dX10_later_17 nX10_258 ?_
      refine q_cz_le (tgt := 25) (a := (0 + a.toInt)) (b := 100000) dX10_later_20 (by decide) (q_addz (a := 0) (b := a.toInt) rfl rfl (by omega)) rfl (fun h20_2 => ?_) (fun h20_2 => ?_)
      · refine q_aload_n dX10_later_25 rfl ?_
        refine q_dup dX10_later_26 rfl ?_
        refine q_getf (c := 10) (n := 0) (k := 2) (v := .int 0) dX10_later_27 rfl (by decide) (by decide) fX10_249 rfl ?_
        refine q_iload_n dX10_later_30 rfl ?_
        refine q_iadd dX10_later_31 ?_
        refine q_putI (c := 10) (n := 0) (k := 2) dX10_later_32 rfl (by decide) (by decide) fX10_249 rfl rfl ?_
        show q_K _ (q_sX (q_up zI6 0 2 (0 + a)) zJ1) _ _ _ _ _ _
        refine q_aload_n dX10_later_35 rfl ?_
        refine q_getf (c := 10) (n := 0) (k := 2) (v := .int (0 + a)) dX10_later_36 rfl (by decide) (by decide) fX10_249 rfl ?_
        refine q_iret dX10_later_39 rfl ?_
        exact ⟨⟨_, _, rfl⟩, _, rfl, (((q_addz (a := 0) (b := a.toInt) rfl rfl (by omega))).trans (by first | rfl | omega | (split <;> omega) | (split <;> split <;> omega)))⟩
      · refine q_ic (v := (-1)) dX10_later_23 rfl ?_
        refine q_iret dX10_later_24 rfl ?_
        exact ⟨⟨_, _, rfl⟩, _, rfl, (by show ((-1) : Int) = _; first | rfl | omega | (split <;> omega) | (split <;> split <;> omega))⟩
theorem dX10_left_0 : decode cX10_left 0 = .ok (.aload_n 0, 1) := by decide +kernel
theorem dX10_left_1 : decode cX10_left 1 = .ok (.getfield 16, 3) := by decide +kernel
theorem dX10_left_4 : decode cX10_left 4 = .ok (.getfield 185, 3) := by decide +kernel
theorem dX10_left_7 : decode cX10_left 7 = .ok (.bipush 12, 2) := by decide +kernel
theorem dX10_left_9 : decode cX10_left 9 = .ok (.if_icmp .le 6, 3) := by decide +kernel
theorem dX10_left_12 : decode cX10_left 12 = .ok (.bipush (-2), 2) := by decide +kernel
theorem dX10_left_14 : decode cX10_left 14 = .ok (.ireturn, 1) := by decide +kernel
theorem dX10_left_15 : decode cX10_left 15 = .ok (.aload_n 0, 1) := by decide +kernel
theorem dX10_left_16 : decode cX10_left 16 = .ok (.getfield 61, 3) := by decide +kernel
theorem dX10_left_19 : decode cX10_left 19 = .ok (.aload_n 0, 1) := by decide +kernel
theorem dX10_left_20 : decode cX10_left 20 = .ok (.getfield 16, 3) := by decide +kernel
theorem dX10_left_23 : decode cX10_left 23 = .ok (.getfield 185, 3) := by decide +kernel
theorem dX10_left_26 : decode cX10_left 26 = .ok (.invokevirtual 188, 3) := by decide +kernel
theorem dX10_left_29 : decode cX10_left 29 = .ok (.aload_n 0, 1) := by decide +kernel
theorem dX10_left_30 : decode cX10_left 30 = .ok (.getfield 61, 3) := by decide +kernel
theorem dX10_left_33 : decode cX10_left 33 = .ok (.aload_n 0, 1) := by decide +kernel
theorem dX10_left_34 : decode cX10_left 34 = .ok (.getfield 95, 3) := by decide +kernel
theorem dX10_left_37 : decode cX10_left 37 = .ok (.iload_n 1, 1) := by decide +kernel
theorem dX10_left_38 : decode cX10_left 38 = .ok (.invokevirtual 259, 3) := by decide +kernel
theorem dX10_left_41 : decode cX10_left 41 = .ok (.invokevirtual 262, 3) := by decide +kernel
theorem dX10_left_44 : decode cX10_left 44 = .ok (.ireturn, 1) := by decide +kernel
theorem dX8_countingAt_0 : decode cX8_countingAt 0 = .ok (.lconst 0, 1) := by decide +kernel
theorem dX8_countingAt_1 : decode cX8_countingAt 1 = .ok (.lstore_n 2, 1) := by decide +kernel
theorem dX8_countingAt_2 : decode cX8_countingAt 2 = .ok (.iconst 0, 1) := by decide +kernel
theorem dX8_countingAt_3 : decode cX8_countingAt 3 = .ok (.istore 4, 2) := by decide +kernel
theorem dX8_countingAt_5 : decode cX8_countingAt 5 = .ok (.iload 4, 2) := by decide +kernel
theorem dX8_countingAt_7 : decode cX8_countingAt 7 = .ok (.aload_n 0, 1) := by decide +kernel
theorem dX8_countingAt_8 : decode cX8_countingAt 8 = .ok (.getfield 21, 3) := by decide +kernel
theorem dX8_countingAt_11 : decode cX8_countingAt 11 = .ok (.if_icmp .ge 73, 3) := by decide +kernel
theorem dX8_countingAt_14 : decode cX8_countingAt 14 = .ok (.iload 4, 2) := by decide +kernel
theorem dX8_countingAt_16 : decode cX8_countingAt 16 = .ok (.bipush 30, 2) := by decide +kernel
theorem dX8_countingAt_18 : decode cX8_countingAt 18 = .ok (.if_icmp .ge 66, 3) := by decide +kernel
theorem dX8_countingAt_21 : decode cX8_countingAt 21 = .ok (.aload_n 0, 1) := by decide +kernel
theorem dX8_countingAt_22 : decode cX8_countingAt 22 = .ok (.getfield 18, 3) := by decide +kernel
theorem dX8_countingAt_25 : decode cX8_countingAt 25 = .ok (.iload 4, 2) := by decide +kernel
theorem dX8_countingAt_27 : decode cX8_countingAt 27 = .ok (.iaload, 1) := by decide +kernel
theorem dX8_countingAt_28 : decode cX8_countingAt 28 = .ok (.iconst (-1), 1) := by decide +kernel
theorem dX8_countingAt_29 : decode cX8_countingAt 29 = .ok (.if_icmp .eq 18, 3) := by decide +kernel
theorem dX8_countingAt_32 : decode cX8_countingAt 32 = .ok (.aload_n 0, 1) := by decide +kernel
theorem dX8_countingAt_33 : decode cX8_countingAt 33 = .ok (.getfield 18, 3) := by decide +kernel
theorem dX8_countingAt_36 : decode cX8_countingAt 36 = .ok (.iload 4, 2) := by decide +kernel
theorem dX8_countingAt_38 : decode cX8_countingAt 38 = .ok (.iaload, 1) := by decide +kernel
theorem dX8_countingAt_39 : decode cX8_countingAt 39 = .ok (.iload_n 1, 1) := by decide +kernel
theorem dX8_countingAt_40 : decode cX8_countingAt 40 = .ok (.if_icmp .gt 7, 3) := by decide +kernel
theorem dX8_countingAt_43 : decode cX8_countingAt 43 = .ok (.iconst 1, 1) := by decide +kernel
theorem dX8_countingAt_44 : decode cX8_countingAt 44 = .ok (.goto 4, 3) := by decide +kernel
theorem dX8_countingAt_47 : decode cX8_countingAt 47 = .ok (.iconst 0, 1) := by decide +kernel
theorem dX8_countingAt_48 : decode cX8_countingAt 48 = .ok (.istore 5, 2) := by decide +kernel
theorem dX8_countingAt_50 : decode cX8_countingAt 50 = .ok (.aload_n 0, 1) := by decide +kernel
theorem dX8_countingAt_51 : decode cX8_countingAt 51 = .ok (.getfield 15, 3) := by decide +kernel
theorem dX8_countingAt_54 : decode cX8_countingAt 54 = .ok (.iload 4, 2) := by decide +kernel
theorem dX8_countingAt_56 : decode cX8_countingAt 56 = .ok (.iaload, 1) := by decide +kernel
theorem dX8_countingAt_57 : decode cX8_countingAt 57 = .ok (.iload_n 1, 1) := by decide +kernel
theorem dX8_countingAt_58 : decode cX8_countingAt 58 = .ok (.if_icmp .gt 20, 3) := by decide +kernel
theorem dX8_countingAt_61 : decode cX8_countingAt 61 = .ok (.iload 5, 2) := by decide +kernel
theorem dX8_countingAt_63 : decode cX8_countingAt 63 = .ok (.ifCond .ne 15, 3) := by decide +kernel
theorem dX8_countingAt_66 : decode cX8_countingAt 66 = .ok (.lload_n 2, 1) := by decide +kernel
theorem dX8_countingAt_67 : decode cX8_countingAt 67 = .ok (.lconst 1, 1) := by decide +kernel
theorem dX8_countingAt_68 : decode cX8_countingAt 68 = .ok (.aload_n 0, 1) := by decide +kernel
theorem dX8_countingAt_69 : decode cX8_countingAt 69 = .ok (.getfield 9, 3) := by decide +kernel
theorem dX8_countingAt_72 : decode cX8_countingAt 72 = .ok (.iload 4, 2) := by decide +kernel
theorem dX8_countingAt_74 : decode cX8_countingAt 74 = .ok (.iaload, 1) := by decide +kernel
theorem dX8_countingAt_75 : decode cX8_countingAt 75 = .ok (.lshl, 1) := by decide +kernel
theorem dX8_countingAt_76 : decode cX8_countingAt 76 = .ok (.lor, 1) := by decide +kernel
theorem dX8_countingAt_77 : decode cX8_countingAt 77 = .ok (.lstore_n 2, 1) := by decide +kernel
theorem dX8_countingAt_78 : decode cX8_countingAt 78 = .ok (.iinc 4 1, 3) := by decide +kernel
theorem dX8_countingAt_81 : decode cX8_countingAt 81 = .ok (.goto (-76), 3) := by decide +kernel
theorem dX8_countingAt_84 : decode cX8_countingAt 84 = .ok (.lload_n 2, 1) := by decide +kernel
theorem dX8_countingAt_85 : decode cX8_countingAt 85 = .ok (.lreturn, 1) := by decide +kernel
set_option maxRecDepth 20000 in
theorem uX_X8_countingAt_83 (a : Int32) : q_met mX8_countingAt (q_sX uXI53 zJ1) [.ref 88, .int a] (fun s r => s = q_sX uXI53 zJ1 ∧ r = some (.long 0)) := by
  refine q_enter (by decide) (Nat.le_of_ble_eq_true rfl) ?_
  refine q_lc (v := 0) dX8_countingAt_0 rfl ?_
  refine q_lstore_n dX8_countingAt_1 (Nat.le_of_ble_eq_true rfl) ?_
  refine q_ic (v := 0) dX8_countingAt_2 rfl ?_
  refine q_istore dX8_countingAt_3 (Nat.le_of_ble_eq_true rfl) ?_
  refine q_iload dX8_countingAt_5 rfl ?_
  refine q_aload_n dX8_countingAt_7 rfl ?_
  refine q_getf (c := 8) (n := 0) (k := 0) (v := .int 0) dX8_countingAt_8 rfl (by decide) (by decide) fX8_21 rfl ?_
  refine q_cz_ge (tgt := 84) (a := 0) (b := 0) dX8_countingAt_11 (by decide) rfl rfl (fun _ => ?_) (fun h => absurd h (by decide))
  refine q_lload_n dX8_countingAt_84 rfl ?_
  refine q_lret dX8_countingAt_85 rfl ?_
  exact ⟨rfl, rfl⟩
theorem dX5_countBeside_0 : decode cX5_countBeside 0 = .ok (.iconst 0, 1) := by decide +kernel
theorem dX5_countBeside_1 : decode cX5_countBeside 1 = .ok (.istore_n 3, 1) := by decide +kernel
theorem dX5_countBeside_2 : decode cX5_countBeside 2 = .ok (.iconst 0, 1) := by decide +kernel
theorem dX5_countBeside_3 : decode cX5_countBeside 3 = .ok (.istore 4, 2) := by decide +kernel
theorem dX5_countBeside_5 : decode cX5_countBeside 5 = .ok (.iload 4, 2) := by decide +kernel
theorem dX5_countBeside_7 : decode cX5_countBeside 7 = .ok (.aload_n 0, 1) := by decide +kernel
theorem dX5_countBeside_8 : decode cX5_countBeside 8 = .ok (.getfield 23, 3) := by decide +kernel
theorem dX5_countBeside_11 : decode cX5_countBeside 11 = .ok (.if_icmp .gt 43, 3) := by decide +kernel
theorem dX5_countBeside_14 : decode cX5_countBeside 14 = .ok (.iload 4, 2) := by decide +kernel
theorem dX5_countBeside_16 : decode cX5_countBeside 16 = .ok (.sipush 4096, 3) := by decide +kernel
theorem dX5_countBeside_19 : decode cX5_countBeside 19 = .ok (.if_icmp .ge 35, 3) := by decide +kernel
theorem dX5_countBeside_22 : decode cX5_countBeside 22 = .ok (.aload_n 0, 1) := by decide +kernel
theorem dX5_countBeside_23 : decode cX5_countBeside 23 = .ok (.getfield 11, 3) := by decide +kernel
theorem dX5_countBeside_26 : decode cX5_countBeside 26 = .ok (.iload 4, 2) := by decide +kernel
theorem dX5_countBeside_28 : decode cX5_countBeside 28 = .ok (.baload, 1) := by decide +kernel
theorem dX5_countBeside_29 : decode cX5_countBeside 29 = .ok (.iconst 4, 1) := by decide +kernel
theorem dX5_countBeside_30 : decode cX5_countBeside 30 = .ok (.if_icmp .ne 18, 3) := by decide +kernel
theorem dX5_countBeside_33 : decode cX5_countBeside 33 = .ok (.lload_n 1, 1) := by decide +kernel
theorem dX5_countBeside_34 : decode cX5_countBeside 34 = .ok (.iload 4, 2) := by decide +kernel
theorem dX5_countBeside_36 : decode cX5_countBeside 36 = .ok (.iconst (-1), 1) := by decide +kernel
theorem dX5_countBeside_37 : decode cX5_countBeside 37 = .ok (.ixor, 1) := by decide +kernel
theorem dX5_countBeside_38 : decode cX5_countBeside 38 = .ok (.i2l, 1) := by decide +kernel
theorem dX5_countBeside_39 : decode cX5_countBeside 39 = .ok (.land, 1) := by decide +kernel
theorem dX5_countBeside_40 : decode cX5_countBeside 40 = .ok (.lconst 0, 1) := by decide +kernel
theorem dX5_countBeside_41 : decode cX5_countBeside 41 = .ok (.lcmp, 1) := by decide +kernel
theorem dX5_countBeside_42 : decode cX5_countBeside 42 = .ok (.ifCond .ne 6, 3) := by decide +kernel
theorem dX5_countBeside_45 : decode cX5_countBeside 45 = .ok (.iinc 3 1, 3) := by decide +kernel
theorem dX5_countBeside_48 : decode cX5_countBeside 48 = .ok (.iinc 4 1, 3) := by decide +kernel
theorem dX5_countBeside_51 : decode cX5_countBeside 51 = .ok (.goto (-46), 3) := by decide +kernel
theorem dX5_countBeside_54 : decode cX5_countBeside 54 = .ok (.iload_n 3, 1) := by decide +kernel
theorem dX5_countBeside_55 : decode cX5_countBeside 55 = .ok (.ireturn, 1) := by decide +kernel
set_option maxRecDepth 20000 in
theorem uX_X5_countBeside_84 : q_met mX5_countBeside (q_sX uXI53 zJ1) [.ref 67, .long 0] (fun s r => s = q_sX uXI53 zJ1 ∧ r = some (.int (0 + 1))) := by
  refine q_enter (by decide) (Nat.le_of_ble_eq_true rfl) ?_
  refine q_ic (v := 0) dX5_countBeside_0 rfl ?_
  refine q_istore_n dX5_countBeside_1 (Nat.le_of_ble_eq_true rfl) ?_
  refine q_ic (v := 0) dX5_countBeside_2 rfl ?_
  refine q_istore dX5_countBeside_3 (Nat.le_of_ble_eq_true rfl) ?_
  refine q_iload dX5_countBeside_5 rfl ?_
  refine q_aload_n dX5_countBeside_7 rfl ?_
  refine q_getf (c := 5) (n := 0) (k := 3) (v := .int 0) dX5_countBeside_8 rfl (by decide) (by decide) fX5_23 rfl ?_
  refine q_cz_gt (tgt := 54) (a := 0) (b := 0) dX5_countBeside_11 (by decide) rfl rfl (fun h => absurd h (by decide)) (fun _ => ?_)
  refine q_iload dX5_countBeside_14 rfl ?_
  refine q_si (v := 4096) dX5_countBeside_16 rfl ?_
  refine q_cz_ge (tgt := 54) (a := 0) (b := 4096) dX5_countBeside_19 (by decide) rfl rfl (fun h => absurd h (by decide)) (fun _ => ?_)
  refine q_aload_n dX5_countBeside_22 rfl ?_
  refine q_getR (c := 5) (n := 0) (k := 5) (a := 68) dX5_countBeside_23 rfl (by decide) (by decide) fX5_11 rfl rfl ?_
  refine q_iload dX5_countBeside_26 rfl ?_
  refine q_bald (n := 4096) (j := 0) dX5_countBeside_28 rfl rfl (by decide) ?_
  refine q_topI (v := 4) rfl ?_
  refine q_ic (v := 4) dX5_countBeside_29 rfl ?_
  refine q_cz_ne (tgt := 48) (a := 4) (b := 4) dX5_countBeside_30 (by decide) rfl rfl (fun h => absurd h (by decide)) (fun _ => ?_)
  refine q_lload_n dX5_countBeside_33 rfl ?_
  refine q_iload dX5_countBeside_34 rfl ?_
  refine q_ic (v := (-1)) dX5_countBeside_36 rfl ?_
  refine q_ixor dX5_countBeside_37 ?_
  refine q_topI (v := (-1)) rfl ?_
  refine q_i2l dX5_countBeside_38 ?_
  refine q_topL (v := (-1)) rfl ?_
  refine q_land dX5_countBeside_39 ?_
  refine q_topL (v := 0) rfl ?_
  refine q_lc (v := 0) dX5_countBeside_40 rfl ?_
  refine q_lcmp dX5_countBeside_41 ?_
  refine q_topI (v := 0) rfl ?_
  refine q_iz_ne (tgt := 48) (a := 0) dX5_countBeside_42 (by decide) rfl (fun h => absurd h (by decide)) (fun _ => ?_)
  refine q_inc (v := 1) dX5_countBeside_45 rfl (Nat.le_of_ble_eq_true rfl) rfl ?_
  refine q_inc (v := 1) dX5_countBeside_48 rfl (Nat.le_of_ble_eq_true rfl) rfl ?_
  refine q_goto (tgt := 5) dX5_countBeside_51 (by decide) ?_
  refine q_iload dX5_countBeside_5 rfl ?_
  refine q_aload_n dX5_countBeside_7 rfl ?_
  refine q_getf (c := 5) (n := 0) (k := 3) (v := .int 0) dX5_countBeside_8 rfl (by decide) (by decide) fX5_23 rfl ?_
  refine q_cz_gt (tgt := 54) (a := 1) (b := 0) dX5_countBeside_11 (by decide) rfl rfl (fun _ => ?_) (fun h => absurd h (by decide))
  refine q_iload_n dX5_countBeside_54 rfl ?_
  refine q_iret dX5_countBeside_55 rfl ?_
  exact ⟨rfl, rfl⟩
set_option maxRecDepth 20000 in
theorem frX_left (a : Int32) : q_met mX10_left (q_sX zI6 zJ1) [.ref 0, .int a] (fun s r => (∃ I J, s = q_sX I J) ∧ ∃ v, r = some (.int v) ∧ v.toInt = (1 : Int)) := by
  refine q_enter (by decide) (Nat.le_of_ble_eq_true rfl) ?_
  refine q_aload_n dX10_left_0 rfl ?_
  refine q_getR (c := 10) (n := 0) (k := 3) (a := 2) dX10_left_1 rfl (by decide) (by decide) fX10_16 rfl rfl ?_
  refine q_getf (c := 9) (n := 0) (k := 1) (v := .int 0) dX10_left_4 rfl (by decide) (by decide) fX10_185 rfl ?_
  refine q_bi (v := 12) dX10_left_7 rfl ?_
  refine q_cz_le (tgt := 15) (a := 0) (b := 12) dX10_left_9 (by decide) rfl rfl (fun _ => ?_) (fun h => absurd h (by decide))
  refine q_aload_n dX10_left_15 rfl ?_
  refine q_getR (c := 10) (n := 0) (k := 9) (a := 67) dX10_left_16 rfl (by decide) (by decide) fX10_61 rfl rfl ?_
  refine q_aload_n dX10_left_19 rfl ?_
  refine q_getR (c := 10) (n := 0) (k := 3) (a := 2) dX10_left_20 rfl (by decide) (by decide) fX10_16 rfl rfl ?_
  refine q_getf (c := 9) (n := 0) (k := 1) (v := .int 0) dX10_left_23 rfl (by decide) (by decide) fX10_185 rfl ?_
  refine q_V1 (ci := 5) (n := 0) dX10_left_26 DX5_find lX10_188 rfl (by decide) rfl rfl rfl rfl uX_X5_find_48 ?_
  rintro _ _ ⟨rfl, rfl⟩
  refine q_aload_n dX10_left_29 rfl ?_
  refine q_getR (c := 10) (n := 0) (k := 9) (a := 67) dX10_left_30 rfl (by decide) (by decide) fX10_61 rfl rfl ?_
  refine q_aload_n dX10_left_33 rfl ?_
  refine q_getR (c := 10) (n := 0) (k := 13) (a := 88) dX10_left_34 rfl (by decide) (by decide) fX10_95 rfl rfl ?_
  refine q_iload_n dX10_left_37 rfl ?_
  refine q_V1 (ci := 8) (n := 0) dX10_left_38 DX8_countingAt lX10_259 rfl (by decide) rfl rfl rfl rfl (uX_X8_countingAt_83 a) ?_
  rintro _ _ ⟨rfl, rfl⟩
  refine q_V1 (ci := 5) (n := 0) dX10_left_41 DX5_countBeside lX10_262 rfl (by decide) rfl rfl rfl rfl uX_X5_countBeside_84 ?_
  rintro _ _ ⟨rfl, rfl⟩
  refine q_iret dX10_left_44 rfl ?_
  exact ⟨⟨_, _, rfl⟩, _, rfl, (by show (1 : Int) = _; first | rfl | omega | (split <;> omega) | (split <;> split <;> omega))⟩
theorem dX10_sure_0 : decode cX10_sure 0 = .ok (.aload_n 0, 1) := by decide +kernel
theorem dX10_sure_1 : decode cX10_sure 1 = .ok (.getfield 16, 3) := by decide +kernel
theorem dX10_sure_4 : decode cX10_sure 4 = .ok (.getfield 185, 3) := by decide +kernel
theorem dX10_sure_7 : decode cX10_sure 7 = .ok (.bipush 12, 2) := by decide +kernel
theorem dX10_sure_9 : decode cX10_sure 9 = .ok (.if_icmp .le 7, 3) := by decide +kernel
theorem dX10_sure_12 : decode cX10_sure 12 = .ok (.ldc2_w 207, 3) := by decide +kernel
theorem dX10_sure_15 : decode cX10_sure 15 = .ok (.lreturn, 1) := by decide +kernel
theorem dX10_sure_16 : decode cX10_sure 16 = .ok (.aload_n 0, 1) := by decide +kernel
theorem dX10_sure_17 : decode cX10_sure 17 = .ok (.getfield 61, 3) := by decide +kernel
theorem dX10_sure_20 : decode cX10_sure 20 = .ok (.aload_n 0, 1) := by decide +kernel
theorem dX10_sure_21 : decode cX10_sure 21 = .ok (.getfield 16, 3) := by decide +kernel
theorem dX10_sure_24 : decode cX10_sure 24 = .ok (.getfield 185, 3) := by decide +kernel
theorem dX10_sure_27 : decode cX10_sure 27 = .ok (.invokevirtual 188, 3) := by decide +kernel
theorem dX10_sure_30 : decode cX10_sure 30 = .ok (.aload_n 0, 1) := by decide +kernel
theorem dX10_sure_31 : decode cX10_sure 31 = .ok (.getfield 61, 3) := by decide +kernel
theorem dX10_sure_34 : decode cX10_sure 34 = .ok (.aload_n 0, 1) := by decide +kernel
theorem dX10_sure_35 : decode cX10_sure 35 = .ok (.getfield 95, 3) := by decide +kernel
theorem dX10_sure_38 : decode cX10_sure 38 = .ok (.iload_n 1, 1) := by decide +kernel
theorem dX10_sure_39 : decode cX10_sure 39 = .ok (.invokevirtual 259, 3) := by decide +kernel
theorem dX10_sure_42 : decode cX10_sure 42 = .ok (.invokevirtual 266, 3) := by decide +kernel
theorem dX10_sure_45 : decode cX10_sure 45 = .ok (.lreturn, 1) := by decide +kernel
theorem dX5_commonBeside_0 : decode cX5_commonBeside 0 = .ok (.aload_n 0, 1) := by decide +kernel
theorem dX5_commonBeside_1 : decode cX5_commonBeside 1 = .ok (.getfield 23, 3) := by decide +kernel
theorem dX5_commonBeside_4 : decode cX5_commonBeside 4 = .ok (.i2l, 1) := by decide +kernel
theorem dX5_commonBeside_5 : decode cX5_commonBeside 5 = .ok (.lstore_n 3, 1) := by decide +kernel
theorem dX5_commonBeside_6 : decode cX5_commonBeside 6 = .ok (.iconst 0, 1) := by decide +kernel
theorem dX5_commonBeside_7 : decode cX5_commonBeside 7 = .ok (.istore 5, 2) := by decide +kernel
theorem dX5_commonBeside_9 : decode cX5_commonBeside 9 = .ok (.iconst 0, 1) := by decide +kernel
theorem dX5_commonBeside_10 : decode cX5_commonBeside 10 = .ok (.istore 6, 2) := by decide +kernel
theorem dX5_commonBeside_12 : decode cX5_commonBeside 12 = .ok (.iload 6, 2) := by decide +kernel
theorem dX5_commonBeside_14 : decode cX5_commonBeside 14 = .ok (.aload_n 0, 1) := by decide +kernel
theorem dX5_commonBeside_15 : decode cX5_commonBeside 15 = .ok (.getfield 23, 3) := by decide +kernel
theorem dX5_commonBeside_18 : decode cX5_commonBeside 18 = .ok (.if_icmp .gt 51, 3) := by decide +kernel
theorem dX5_commonBeside_21 : decode cX5_commonBeside 21 = .ok (.iload 6, 2) := by decide +kernel
theorem dX5_commonBeside_23 : decode cX5_commonBeside 23 = .ok (.sipush 4096, 3) := by decide +kernel
theorem dX5_commonBeside_26 : decode cX5_commonBeside 26 = .ok (.if_icmp .ge 43, 3) := by decide +kernel
theorem dX5_commonBeside_29 : decode cX5_commonBeside 29 = .ok (.aload_n 0, 1) := by decide +kernel
theorem dX5_commonBeside_30 : decode cX5_commonBeside 30 = .ok (.getfield 11, 3) := by decide +kernel
theorem dX5_commonBeside_33 : decode cX5_commonBeside 33 = .ok (.iload 6, 2) := by decide +kernel
theorem dX5_commonBeside_35 : decode cX5_commonBeside 35 = .ok (.baload, 1) := by decide +kernel
theorem dX5_commonBeside_36 : decode cX5_commonBeside 36 = .ok (.iconst 4, 1) := by decide +kernel
theorem dX5_commonBeside_37 : decode cX5_commonBeside 37 = .ok (.if_icmp .ne 26, 3) := by decide +kernel
theorem dX5_commonBeside_40 : decode cX5_commonBeside 40 = .ok (.lload_n 1, 1) := by decide +kernel
theorem dX5_commonBeside_41 : decode cX5_commonBeside 41 = .ok (.iload 6, 2) := by decide +kernel
theorem dX5_commonBeside_43 : decode cX5_commonBeside 43 = .ok (.iconst (-1), 1) := by decide +kernel
theorem dX5_commonBeside_44 : decode cX5_commonBeside 44 = .ok (.ixor, 1) := by decide +kernel
theorem dX5_commonBeside_45 : decode cX5_commonBeside 45 = .ok (.i2l, 1) := by decide +kernel
theorem dX5_commonBeside_46 : decode cX5_commonBeside 46 = .ok (.land, 1) := by decide +kernel
theorem dX5_commonBeside_47 : decode cX5_commonBeside 47 = .ok (.lconst 0, 1) := by decide +kernel
theorem dX5_commonBeside_48 : decode cX5_commonBeside 48 = .ok (.lcmp, 1) := by decide +kernel
theorem dX5_commonBeside_49 : decode cX5_commonBeside 49 = .ok (.ifCond .ne 14, 3) := by decide +kernel
theorem dX5_commonBeside_52 : decode cX5_commonBeside 52 = .ok (.lload_n 3, 1) := by decide +kernel
theorem dX5_commonBeside_53 : decode cX5_commonBeside 53 = .ok (.iload 6, 2) := by decide +kernel
theorem dX5_commonBeside_55 : decode cX5_commonBeside 55 = .ok (.iconst (-1), 1) := by decide +kernel
theorem dX5_commonBeside_56 : decode cX5_commonBeside 56 = .ok (.ixor, 1) := by decide +kernel
theorem dX5_commonBeside_57 : decode cX5_commonBeside 57 = .ok (.i2l, 1) := by decide +kernel
theorem dX5_commonBeside_58 : decode cX5_commonBeside 58 = .ok (.land, 1) := by decide +kernel
theorem dX5_commonBeside_59 : decode cX5_commonBeside 59 = .ok (.lstore_n 3, 1) := by decide +kernel
theorem dX5_commonBeside_60 : decode cX5_commonBeside 60 = .ok (.iconst 1, 1) := by decide +kernel
theorem dX5_commonBeside_61 : decode cX5_commonBeside 61 = .ok (.istore 5, 2) := by decide +kernel
theorem dX5_commonBeside_63 : decode cX5_commonBeside 63 = .ok (.iinc 6 1, 3) := by decide +kernel
theorem dX5_commonBeside_66 : decode cX5_commonBeside 66 = .ok (.goto (-54), 3) := by decide +kernel
theorem dX5_commonBeside_69 : decode cX5_commonBeside 69 = .ok (.iload 5, 2) := by decide +kernel
theorem dX5_commonBeside_71 : decode cX5_commonBeside 71 = .ok (.ifCond .eq 7, 3) := by decide +kernel
theorem dX5_commonBeside_74 : decode cX5_commonBeside 74 = .ok (.lload_n 3, 1) := by decide +kernel
theorem dX5_commonBeside_75 : decode cX5_commonBeside 75 = .ok (.goto 4, 3) := by decide +kernel
theorem dX5_commonBeside_78 : decode cX5_commonBeside 78 = .ok (.lconst 0, 1) := by decide +kernel
theorem dX5_commonBeside_79 : decode cX5_commonBeside 79 = .ok (.lreturn, 1) := by decide +kernel
set_option maxRecDepth 20000 in
theorem uX_X5_commonBeside_86 : q_met mX5_commonBeside (q_sX uXI53 zJ1) [.ref 67, .long 0] (fun s r => s = q_sX uXI53 zJ1 ∧ r = some (.long 0)) := by
  refine q_enter (by decide) (Nat.le_of_ble_eq_true rfl) ?_
  refine q_aload_n dX5_commonBeside_0 rfl ?_
  refine q_getf (c := 5) (n := 0) (k := 3) (v := .int 0) dX5_commonBeside_1 rfl (by decide) (by decide) fX5_23 rfl ?_
  refine q_i2l dX5_commonBeside_4 ?_
  refine q_topL (v := 0) rfl ?_
  refine q_lstore_n dX5_commonBeside_5 (Nat.le_of_ble_eq_true rfl) ?_
  refine q_ic (v := 0) dX5_commonBeside_6 rfl ?_
  refine q_istore dX5_commonBeside_7 (Nat.le_of_ble_eq_true rfl) ?_
  refine q_ic (v := 0) dX5_commonBeside_9 rfl ?_
  refine q_istore dX5_commonBeside_10 (Nat.le_of_ble_eq_true rfl) ?_
  refine q_iload dX5_commonBeside_12 rfl ?_
  refine q_aload_n dX5_commonBeside_14 rfl ?_
  refine q_getf (c := 5) (n := 0) (k := 3) (v := .int 0) dX5_commonBeside_15 rfl (by decide) (by decide) fX5_23 rfl ?_
  refine q_cz_gt (tgt := 69) (a := 0) (b := 0) dX5_commonBeside_18 (by decide) rfl rfl (fun h => absurd h (by decide)) (fun _ => ?_)
  refine q_iload dX5_commonBeside_21 rfl ?_
  refine q_si (v := 4096) dX5_commonBeside_23 rfl ?_
  refine q_cz_ge (tgt := 69) (a := 0) (b := 4096) dX5_commonBeside_26 (by decide) rfl rfl (fun h => absurd h (by decide)) (fun _ => ?_)
  refine q_aload_n dX5_commonBeside_29 rfl ?_
  refine q_getR (c := 5) (n := 0) (k := 5) (a := 68) dX5_commonBeside_30 rfl (by decide) (by decide) fX5_11 rfl rfl ?_
  refine q_iload dX5_commonBeside_33 rfl ?_
  refine q_bald (n := 4096) (j := 0) dX5_commonBeside_35 rfl rfl (by decide) ?_
  refine q_topI (v := 4) rfl ?_
  refine q_ic (v := 4) dX5_commonBeside_36 rfl ?_
  refine q_cz_ne (tgt := 63) (a := 4) (b := 4) dX5_commonBeside_37 (by decide) rfl rfl (fun h => absurd h (by decide)) (fun _ => ?_)
  refine q_lload_n dX5_commonBeside_40 rfl ?_
  refine q_iload dX5_commonBeside_41 rfl ?_
  refine q_ic (v := (-1)) dX5_commonBeside_43 rfl ?_
  refine q_ixor dX5_commonBeside_44 ?_
  refine q_topI (v := (-1)) rfl ?_
  refine q_i2l dX5_commonBeside_45 ?_
  refine q_topL (v := (-1)) rfl ?_
  refine q_land dX5_commonBeside_46 ?_
  refine q_topL (v := 0) rfl ?_
  refine q_lc (v := 0) dX5_commonBeside_47 rfl ?_
  refine q_lcmp dX5_commonBeside_48 ?_
  refine q_topI (v := 0) rfl ?_
  refine q_iz_ne (tgt := 63) (a := 0) dX5_commonBeside_49 (by decide) rfl (fun h => absurd h (by decide)) (fun _ => ?_)
  refine q_lload_n dX5_commonBeside_52 rfl ?_
  refine q_iload dX5_commonBeside_53 rfl ?_
  refine q_ic (v := (-1)) dX5_commonBeside_55 rfl ?_
  refine q_ixor dX5_commonBeside_56 ?_
  refine q_topI (v := (-1)) rfl ?_
  refine q_i2l dX5_commonBeside_57 ?_
  refine q_topL (v := (-1)) rfl ?_
  refine q_land dX5_commonBeside_58 ?_
  refine q_topL (v := 0) rfl ?_
  refine q_lstore_n dX5_commonBeside_59 (Nat.le_of_ble_eq_true rfl) ?_
  refine q_ic (v := 1) dX5_commonBeside_60 rfl ?_
  refine q_istore dX5_commonBeside_61 (Nat.le_of_ble_eq_true rfl) ?_
  refine q_inc (v := 1) dX5_commonBeside_63 rfl (Nat.le_of_ble_eq_true rfl) rfl ?_
  refine q_goto (tgt := 12) dX5_commonBeside_66 (by decide) ?_
  refine q_iload dX5_commonBeside_12 rfl ?_
  refine q_aload_n dX5_commonBeside_14 rfl ?_
  refine q_getf (c := 5) (n := 0) (k := 3) (v := .int 0) dX5_commonBeside_15 rfl (by decide) (by decide) fX5_23 rfl ?_
  refine q_cz_gt (tgt := 69) (a := 1) (b := 0) dX5_commonBeside_18 (by decide) rfl rfl (fun _ => ?_) (fun h => absurd h (by decide))
  refine q_iload dX5_commonBeside_69 rfl ?_
  refine q_iz_eq (tgt := 78) (a := 1) dX5_commonBeside_71 (by decide) rfl (fun h => absurd h (by decide)) (fun _ => ?_)
  refine q_lload_n dX5_commonBeside_74 rfl ?_
  refine q_goto (tgt := 79) dX5_commonBeside_75 (by decide) ?_
  refine q_lret dX5_commonBeside_79 rfl ?_
  exact ⟨rfl, rfl⟩
set_option maxRecDepth 20000 in
theorem frX_sure (a : Int32) : q_met mX10_sure (q_sX zI6 zJ1) [.ref 0, .int a] (fun s r => (∃ I J, s = q_sX I J) ∧ ∃ v, r = some (.long v) ∧ v.toInt = (0 : Int)) := by
  refine q_enter (by decide) (Nat.le_of_ble_eq_true rfl) ?_
  refine q_aload_n dX10_sure_0 rfl ?_
  refine q_getR (c := 10) (n := 0) (k := 3) (a := 2) dX10_sure_1 rfl (by decide) (by decide) fX10_16 rfl rfl ?_
  refine q_getf (c := 9) (n := 0) (k := 1) (v := .int 0) dX10_sure_4 rfl (by decide) (by decide) fX10_185 rfl ?_
  refine q_bi (v := 12) dX10_sure_7 rfl ?_
  refine q_cz_le (tgt := 16) (a := 0) (b := 12) dX10_sure_9 (by decide) rfl rfl (fun _ => ?_) (fun h => absurd h (by decide))
  refine q_aload_n dX10_sure_16 rfl ?_
  refine q_getR (c := 10) (n := 0) (k := 9) (a := 67) dX10_sure_17 rfl (by decide) (by decide) fX10_61 rfl rfl ?_
  refine q_aload_n dX10_sure_20 rfl ?_
  refine q_getR (c := 10) (n := 0) (k := 3) (a := 2) dX10_sure_21 rfl (by decide) (by decide) fX10_16 rfl rfl ?_
  refine q_getf (c := 9) (n := 0) (k := 1) (v := .int 0) dX10_sure_24 rfl (by decide) (by decide) fX10_185 rfl ?_
  refine q_V1 (ci := 5) (n := 0) dX10_sure_27 DX5_find lX10_188 rfl (by decide) rfl rfl rfl rfl uX_X5_find_48 ?_
  rintro _ _ ⟨rfl, rfl⟩
  refine q_aload_n dX10_sure_30 rfl ?_
  refine q_getR (c := 10) (n := 0) (k := 9) (a := 67) dX10_sure_31 rfl (by decide) (by decide) fX10_61 rfl rfl ?_
  refine q_aload_n dX10_sure_34 rfl ?_
  refine q_getR (c := 10) (n := 0) (k := 13) (a := 88) dX10_sure_35 rfl (by decide) (by decide) fX10_95 rfl rfl ?_
  refine q_iload_n dX10_sure_38 rfl ?_
  refine q_V1 (ci := 8) (n := 0) dX10_sure_39 DX8_countingAt lX10_259 rfl (by decide) rfl rfl rfl rfl (uX_X8_countingAt_83 a) ?_
  rintro _ _ ⟨rfl, rfl⟩
  refine q_V1 (ci := 5) (n := 0) dX10_sure_42 DX5_commonBeside lX10_266 rfl (by decide) rfl rfl rfl rfl uX_X5_commonBeside_86 ?_
  rintro _ _ ⟨rfl, rfl⟩
  refine q_lret dX10_sure_45 rfl ?_
  exact ⟨⟨_, _, rfl⟩, _, rfl, (by show (0 : Int) = _; first | rfl | omega | (split <;> omega) | (split <;> split <;> omega))⟩
theorem dX10_back_0 : decode cX10_back 0 = .ok (.iload_n 1, 1) := by decide +kernel
theorem dX10_back_1 : decode cX10_back 1 = .ok (.ifCond .lt 17, 3) := by decide +kernel
theorem dX10_back_4 : decode cX10_back 4 = .ok (.iload_n 1, 1) := by decide +kernel
theorem dX10_back_5 : decode cX10_back 5 = .ok (.iconst 3, 1) := by decide +kernel
theorem dX10_back_6 : decode cX10_back 6 = .ok (.if_icmp .ge 12, 3) := by decide +kernel
theorem dX10_back_9 : decode cX10_back 9 = .ok (.aload_n 0, 1) := by decide +kernel
theorem dX10_back_10 : decode cX10_back 10 = .ok (.getfield 103, 3) := by decide +kernel
theorem dX10_back_13 : decode cX10_back 13 = .ok (.iload_n 1, 1) := by decide +kernel
theorem dX10_back_14 : decode cX10_back 14 = .ok (.baload, 1) := by decide +kernel
theorem dX10_back_15 : decode cX10_back 15 = .ok (.ifCond .ne 5, 3) := by decide +kernel
theorem dX10_back_18 : decode cX10_back 18 = .ok (.iconst (-1), 1) := by decide +kernel
theorem dX10_back_19 : decode cX10_back 19 = .ok (.ireturn, 1) := by decide +kernel
theorem dX10_back_20 : decode cX10_back 20 = .ok (.aload_n 0, 1) := by decide +kernel
theorem dX10_back_21 : decode cX10_back 21 = .ok (.aload_n 0, 1) := by decide +kernel
theorem dX10_back_22 : decode cX10_back 22 = .ok (.getfield 99, 3) := by decide +kernel
theorem dX10_back_25 : decode cX10_back 25 = .ok (.iload_n 1, 1) := by decide +kernel
theorem dX10_back_26 : decode cX10_back 26 = .ok (.aaload, 1) := by decide +kernel
theorem dX10_back_27 : decode cX10_back 27 = .ok (.invokevirtual 129, 3) := by decide +kernel
theorem dX10_back_30 : decode cX10_back 30 = .ok (.ireturn, 1) := by decide +kernel
theorem zzuX_93 (j : Nat) : zI6 93 j = 0 := by simp [zI0, zI1, zI2, zI3, zI4, zI5, zI6, q_up]
set_option maxRecDepth 20000 in
theorem frX_back (a : Int32) : q_met mX10_back (q_sX zI6 zJ1) [.ref 0, .int a] (fun s r => (∃ I J, s = q_sX I J) ∧ ∃ v, r = some (.int v) ∧ v.toInt = (-1 : Int)) := by
  refine q_enter (by decide) (Nat.le_of_ble_eq_true rfl) ?_
  refine q_iload_n dX10_back_0 rfl ?_
  refine q_iz_lt (tgt := 18) (a := a.toInt) dX10_back_1 (by decide) rfl (fun h1_0 => ?_) (fun h1_0 => ?_)
  · refine q_ic (v := (-1)) dX10_back_18 rfl ?_
    refine q_iret dX10_back_19 rfl ?_
    exact ⟨⟨_, _, rfl⟩, _, rfl, (by show ((-1) : Int) = _; first | rfl | omega | (split <;> omega) | (split <;> split <;> omega))⟩
  · refine q_iload_n dX10_back_4 rfl ?_
    refine q_ic (v := 3) dX10_back_5 rfl ?_
    refine q_cz_ge (tgt := 18) (a := a.toInt) (b := 3) dX10_back_6 (by decide) rfl rfl (fun h6_1 => ?_) (fun h6_1 => ?_)
    · refine q_ic (v := (-1)) dX10_back_18 rfl ?_
      refine q_iret dX10_back_19 rfl ?_
      exact ⟨⟨_, _, rfl⟩, _, rfl, (by show ((-1) : Int) = _; first | rfl | omega | (split <;> omega) | (split <;> split <;> omega))⟩
    · refine q_aload_n dX10_back_9 rfl ?_
      refine q_getR (c := 10) (n := 0) (k := 15) (a := 93) dX10_back_10 rfl (by decide) (by decide) fX10_103 rfl rfl ?_
      refine q_iload_n dX10_back_13 rfl ?_
      refine q_zaldz (n := 3) (z := a.toInt) dX10_back_14 rfl rfl (by omega) (by omega) ?_
      refine q_topI (v := 0) (zzuX_93 (a.toInt).toNat) ?_
      refine q_iz_ne (tgt := 20) (a := 0) dX10_back_15 (by decide) rfl (fun h => absurd h (by decide)) (fun _ => ?_)
      refine q_ic (v := (-1)) dX10_back_18 rfl ?_
      refine q_iret dX10_back_19 rfl ?_
      exact ⟨⟨_, _, rfl⟩, _, rfl, (by show ((-1) : Int) = _; first | rfl | omega | (split <;> omega) | (split <;> split <;> omega))⟩
theorem dX10_about_0 : decode cX10_about 0 = .ok (.iload_n 1, 1) := by decide +kernel
theorem dX10_about_1 : decode cX10_about 1 = .ok (.tableswitch 93 0 6 #[43, 51, 59, 67, 75, 80, 85], 43) := by decide +kernel
theorem dX10_about_44 : decode cX10_about 44 = .ok (.aload_n 0, 1) := by decide +kernel
theorem dX10_about_45 : decode cX10_about 45 = .ok (.getfield 16, 3) := by decide +kernel
theorem dX10_about_48 : decode cX10_about 48 = .ok (.getfield 237, 3) := by decide +kernel
theorem dX10_about_51 : decode cX10_about 51 = .ok (.ireturn, 1) := by decide +kernel
theorem dX10_about_52 : decode cX10_about 52 = .ok (.aload_n 0, 1) := by decide +kernel
theorem dX10_about_53 : decode cX10_about 53 = .ok (.getfield 16, 3) := by decide +kernel
theorem dX10_about_56 : decode cX10_about 56 = .ok (.getfield 185, 3) := by decide +kernel
theorem dX10_about_59 : decode cX10_about 59 = .ok (.ireturn, 1) := by decide +kernel
theorem dX10_about_60 : decode cX10_about 60 = .ok (.aload_n 0, 1) := by decide +kernel
theorem dX10_about_61 : decode cX10_about 61 = .ok (.getfield 49, 3) := by decide +kernel
theorem dX10_about_64 : decode cX10_about 64 = .ok (.getfield 273, 3) := by decide +kernel
theorem dX10_about_67 : decode cX10_about 67 = .ok (.ireturn, 1) := by decide +kernel
theorem dX10_about_68 : decode cX10_about 68 = .ok (.aload_n 0, 1) := by decide +kernel
theorem dX10_about_69 : decode cX10_about 69 = .ok (.getfield 95, 3) := by decide +kernel
theorem dX10_about_72 : decode cX10_about 72 = .ok (.getfield 274, 3) := by decide +kernel
theorem dX10_about_75 : decode cX10_about 75 = .ok (.ireturn, 1) := by decide +kernel
theorem dX10_about_76 : decode cX10_about 76 = .ok (.aload_n 0, 1) := by decide +kernel
theorem dX10_about_77 : decode cX10_about 77 = .ok (.getfield 249, 3) := by decide +kernel
theorem dX10_about_80 : decode cX10_about 80 = .ok (.ireturn, 1) := by decide +kernel
theorem dX10_about_81 : decode cX10_about 81 = .ok (.aload_n 0, 1) := by decide +kernel
theorem dX10_about_82 : decode cX10_about 82 = .ok (.getfield 107, 3) := by decide +kernel
theorem dX10_about_85 : decode cX10_about 85 = .ok (.ireturn, 1) := by decide +kernel
theorem dX10_about_86 : decode cX10_about 86 = .ok (.aload_n 0, 1) := by decide +kernel
theorem dX10_about_87 : decode cX10_about 87 = .ok (.getfield 16, 3) := by decide +kernel
theorem dX10_about_90 : decode cX10_about 90 = .ok (.invokevirtual 275, 3) := by decide +kernel
theorem dX10_about_93 : decode cX10_about 93 = .ok (.ireturn, 1) := by decide +kernel
theorem dX10_about_94 : decode cX10_about 94 = .ok (.iconst (-1), 1) := by decide +kernel
theorem dX10_about_95 : decode cX10_about 95 = .ok (.ireturn, 1) := by decide +kernel
theorem dX9_trustOfAll_0 : decode cX9_trustOfAll 0 = .ok (.iconst 0, 1) := by decide +kernel
theorem dX9_trustOfAll_1 : decode cX9_trustOfAll 1 = .ok (.istore_n 1, 1) := by decide +kernel
theorem dX9_trustOfAll_2 : decode cX9_trustOfAll 2 = .ok (.iconst 0, 1) := by decide +kernel
theorem dX9_trustOfAll_3 : decode cX9_trustOfAll 3 = .ok (.istore_n 2, 1) := by decide +kernel
theorem dX9_trustOfAll_4 : decode cX9_trustOfAll 4 = .ok (.iload_n 2, 1) := by decide +kernel
theorem dX9_trustOfAll_5 : decode cX9_trustOfAll 5 = .ok (.aload_n 0, 1) := by decide +kernel
theorem dX9_trustOfAll_6 : decode cX9_trustOfAll 6 = .ok (.getfield 59, 3) := by decide +kernel
theorem dX9_trustOfAll_9 : decode cX9_trustOfAll 9 = .ok (.if_icmp .ge 24, 3) := by decide +kernel
theorem dX9_trustOfAll_12 : decode cX9_trustOfAll 12 = .ok (.iload_n 2, 1) := by decide +kernel
theorem dX9_trustOfAll_13 : decode cX9_trustOfAll 13 = .ok (.bipush 40, 2) := by decide +kernel
theorem dX9_trustOfAll_15 : decode cX9_trustOfAll 15 = .ok (.if_icmp .ge 18, 3) := by decide +kernel
theorem dX9_trustOfAll_18 : decode cX9_trustOfAll 18 = .ok (.iload_n 1, 1) := by decide +kernel
theorem dX9_trustOfAll_19 : decode cX9_trustOfAll 19 = .ok (.aload_n 0, 1) := by decide +kernel
theorem dX9_trustOfAll_20 : decode cX9_trustOfAll 20 = .ok (.getfield 31, 3) := by decide +kernel
theorem dX9_trustOfAll_23 : decode cX9_trustOfAll 23 = .ok (.iload_n 2, 1) := by decide +kernel
theorem dX9_trustOfAll_24 : decode cX9_trustOfAll 24 = .ok (.iaload, 1) := by decide +kernel
theorem dX9_trustOfAll_25 : decode cX9_trustOfAll 25 = .ok (.iadd, 1) := by decide +kernel
theorem dX9_trustOfAll_26 : decode cX9_trustOfAll 26 = .ok (.istore_n 1, 1) := by decide +kernel
theorem dX9_trustOfAll_27 : decode cX9_trustOfAll 27 = .ok (.iinc 2 1, 3) := by decide +kernel
theorem dX9_trustOfAll_30 : decode cX9_trustOfAll 30 = .ok (.goto (-26), 3) := by decide +kernel
theorem dX9_trustOfAll_33 : decode cX9_trustOfAll 33 = .ok (.iload_n 1, 1) := by decide +kernel
theorem dX9_trustOfAll_34 : decode cX9_trustOfAll 34 = .ok (.ireturn, 1) := by decide +kernel
set_option maxRecDepth 20000 in
theorem uX_X9_trustOfAll_89 : q_met mX9_trustOfAll (q_sX zI6 zJ1) [.ref 2] (fun s r => s = q_sX zI6 zJ1 ∧ r = some (.int 0)) := by
  refine q_enter (by decide) (Nat.le_of_ble_eq_true rfl) ?_
  refine q_ic (v := 0) dX9_trustOfAll_0 rfl ?_
  refine q_istore_n dX9_trustOfAll_1 (Nat.le_of_ble_eq_true rfl) ?_
  refine q_ic (v := 0) dX9_trustOfAll_2 rfl ?_
  refine q_istore_n dX9_trustOfAll_3 (Nat.le_of_ble_eq_true rfl) ?_
  refine q_iload_n dX9_trustOfAll_4 rfl ?_
  refine q_aload_n dX9_trustOfAll_5 rfl ?_
  refine q_getf (c := 9) (n := 0) (k := 1) (v := .int 0) dX9_trustOfAll_6 rfl (by decide) (by decide) fX9_59 rfl ?_
  refine q_cz_ge (tgt := 33) (a := 0) (b := 0) dX9_trustOfAll_9 (by decide) rfl rfl (fun _ => ?_) (fun h => absurd h (by decide))
  refine q_iload_n dX9_trustOfAll_33 rfl ?_
  refine q_iret dX9_trustOfAll_34 rfl ?_
  exact ⟨rfl, rfl⟩
set_option maxRecDepth 20000 in
theorem frX_about (a : Int32) : q_met mX10_about (q_sX zI6 zJ1) [.ref 0, .int a] (fun s r => (∃ I J, s = q_sX I J) ∧ ∃ v, r = some (.int v) ∧ v.toInt = (if 0 ≤ a.toInt ∧ a.toInt ≤ 6 then 0 else -1 : Int)) := by
  refine q_enter (by decide) (Nat.le_of_ble_eq_true rfl) ?_
  refine q_iload_n dX10_about_0 rfl ?_
  refine q_tab7 44 52 60 68 76 81 86 94 dX10_about_1 rfl rfl (by decide) (z := a.toInt) rfl (fun h1_0 => ?_) (fun h1_0 => ?_) (fun h1_0 => ?_) (fun h1_0 => ?_) (fun h1_0 => ?_) (fun h1_0 => ?_) (fun h1_0 => ?_) (fun h1_0 => ?_)
  · refine q_aload_n dX10_about_44 rfl ?_
    refine q_getR (c := 10) (n := 0) (k := 3) (a := 2) dX10_about_45 rfl (by decide) (by decide) fX10_16 rfl rfl ?_
    refine q_getf (c := 9) (n := 0) (k := 0) (v := .int 0) dX10_about_48 rfl (by decide) (by decide) fX10_237 rfl ?_
    refine q_iret dX10_about_51 rfl ?_
    exact ⟨⟨_, _, rfl⟩, _, rfl, (by show (0 : Int) = _; first | rfl | omega | (split <;> omega) | (split <;> split <;> omega))⟩
  · refine q_aload_n dX10_about_52 rfl ?_
    refine q_getR (c := 10) (n := 0) (k := 3) (a := 2) dX10_about_53 rfl (by decide) (by decide) fX10_16 rfl rfl ?_
    refine q_getf (c := 9) (n := 0) (k := 1) (v := .int 0) dX10_about_56 rfl (by decide) (by decide) fX10_185 rfl ?_
    refine q_iret dX10_about_59 rfl ?_
    exact ⟨⟨_, _, rfl⟩, _, rfl, (by show (0 : Int) = _; first | rfl | omega | (split <;> omega) | (split <;> split <;> omega))⟩
  · refine q_aload_n dX10_about_60 rfl ?_
    refine q_getR (c := 10) (n := 0) (k := 7) (a := 51) dX10_about_61 rfl (by decide) (by decide) fX10_49 rfl rfl ?_
    refine q_getf (c := 0) (n := 0) (k := 0) (v := .int 0) dX10_about_64 rfl (by decide) (by decide) fX10_273 rfl ?_
    refine q_iret dX10_about_67 rfl ?_
    exact ⟨⟨_, _, rfl⟩, _, rfl, (by show (0 : Int) = _; first | rfl | omega | (split <;> omega) | (split <;> split <;> omega))⟩
  · refine q_aload_n dX10_about_68 rfl ?_
    refine q_getR (c := 10) (n := 0) (k := 13) (a := 88) dX10_about_69 rfl (by decide) (by decide) fX10_95 rfl rfl ?_
    refine q_getf (c := 8) (n := 0) (k := 0) (v := .int 0) dX10_about_72 rfl (by decide) (by decide) fX10_274 rfl ?_
    refine q_iret dX10_about_75 rfl ?_
    exact ⟨⟨_, _, rfl⟩, _, rfl, (by show (0 : Int) = _; first | rfl | omega | (split <;> omega) | (split <;> split <;> omega))⟩
  · refine q_aload_n dX10_about_76 rfl ?_
    refine q_getf (c := 10) (n := 0) (k := 2) (v := .int 0) dX10_about_77 rfl (by decide) (by decide) fX10_249 rfl ?_
    refine q_iret dX10_about_80 rfl ?_
    exact ⟨⟨_, _, rfl⟩, _, rfl, (by show (0 : Int) = _; first | rfl | omega | (split <;> omega) | (split <;> split <;> omega))⟩
  · refine q_aload_n dX10_about_81 rfl ?_
    refine q_getf (c := 10) (n := 0) (k := 1) (v := .int 0) dX10_about_82 rfl (by decide) (by decide) fX10_107 rfl ?_
    refine q_iret dX10_about_85 rfl ?_
    exact ⟨⟨_, _, rfl⟩, _, rfl, (by show (0 : Int) = _; first | rfl | omega | (split <;> omega) | (split <;> split <;> omega))⟩
  · refine q_aload_n dX10_about_86 rfl ?_
    refine q_getR (c := 10) (n := 0) (k := 3) (a := 2) dX10_about_87 rfl (by decide) (by decide) fX10_16 rfl rfl ?_
    refine q_V0 (ci := 9) (n := 0) dX10_about_90 DX9_trustOfAll lX10_275 rfl (by decide) rfl rfl rfl rfl uX_X9_trustOfAll_89 ?_
    rintro _ _ ⟨rfl, rfl⟩
    refine q_iret dX10_about_93 rfl ?_
    exact ⟨⟨_, _, rfl⟩, _, rfl, (by show (0 : Int) = _; first | rfl | omega | (split <;> omega) | (split <;> split <;> omega))⟩
  · refine q_ic (v := (-1)) dX10_about_94 rfl ?_
    refine q_iret dX10_about_95 rfl ?_
    exact ⟨⟨_, _, rfl⟩, _, rfl, (by show ((-1) : Int) = _; first | rfl | omega | (split <;> omega) | (split <;> split <;> omega))⟩
theorem dX10_clashes_0 : decode cX10_clashes 0 = .ok (.aload_n 0, 1) := by decide +kernel
theorem dX10_clashes_1 : decode cX10_clashes 1 = .ok (.getfield 16, 3) := by decide +kernel
theorem dX10_clashes_4 : decode cX10_clashes 4 = .ok (.lload_n 1, 1) := by decide +kernel
theorem dX10_clashes_5 : decode cX10_clashes 5 = .ok (.invokevirtual 175, 3) := by decide +kernel
theorem dX10_clashes_8 : decode cX10_clashes 8 = .ok (.ifCond .ne 5, 3) := by decide +kernel
theorem dX10_clashes_11 : decode cX10_clashes 11 = .ok (.iconst (-1), 1) := by decide +kernel
theorem dX10_clashes_12 : decode cX10_clashes 12 = .ok (.ireturn, 1) := by decide +kernel
theorem dX10_clashes_13 : decode cX10_clashes 13 = .ok (.aload_n 0, 1) := by decide +kernel
theorem dX10_clashes_14 : decode cX10_clashes 14 = .ok (.getfield 49, 3) := by decide +kernel
theorem dX10_clashes_17 : decode cX10_clashes 17 = .ok (.lload_n 1, 1) := by decide +kernel
theorem dX10_clashes_18 : decode cX10_clashes 18 = .ok (.invokevirtual 163, 3) := by decide +kernel
theorem dX10_clashes_21 : decode cX10_clashes 21 = .ok (.ifCond .eq 7, 3) := by decide +kernel
theorem dX10_clashes_24 : decode cX10_clashes 24 = .ok (.iconst 1, 1) := by decide +kernel
theorem dX10_clashes_25 : decode cX10_clashes 25 = .ok (.goto 4, 3) := by decide +kernel
theorem dX10_clashes_28 : decode cX10_clashes 28 = .ok (.iconst 0, 1) := by decide +kernel
theorem dX10_clashes_29 : decode cX10_clashes 29 = .ok (.ireturn, 1) := by decide +kernel
theorem dX9_hasAll_0 : decode cX9_hasAll 0 = .ok (.lload_n 1, 1) := by decide +kernel
theorem dX9_hasAll_1 : decode cX9_hasAll 1 = .ok (.aload_n 0, 1) := by decide +kernel
theorem dX9_hasAll_2 : decode cX9_hasAll 2 = .ok (.invokevirtual 65, 3) := by decide +kernel
theorem dX9_hasAll_5 : decode cX9_hasAll 5 = .ok (.ldc2_w 69, 3) := by decide +kernel
theorem dX9_hasAll_8 : decode cX9_hasAll 8 = .ok (.lxor, 1) := by decide +kernel
theorem dX9_hasAll_9 : decode cX9_hasAll 9 = .ok (.land, 1) := by decide +kernel
theorem dX9_hasAll_10 : decode cX9_hasAll 10 = .ok (.lconst 0, 1) := by decide +kernel
theorem dX9_hasAll_11 : decode cX9_hasAll 11 = .ok (.lcmp, 1) := by decide +kernel
theorem dX9_hasAll_12 : decode cX9_hasAll 12 = .ok (.ifCond .ne 7, 3) := by decide +kernel
theorem dX9_hasAll_15 : decode cX9_hasAll 15 = .ok (.iconst 1, 1) := by decide +kernel
theorem dX9_hasAll_16 : decode cX9_hasAll 16 = .ok (.goto 4, 3) := by decide +kernel
theorem dX9_hasAll_19 : decode cX9_hasAll 19 = .ok (.iconst 0, 1) := by decide +kernel
theorem dX9_hasAll_20 : decode cX9_hasAll 20 = .ok (.ireturn, 1) := by decide +kernel
set_option maxRecDepth 20000 in
theorem uX_X9_hasAll_91 : q_met mX9_hasAll (q_sX zI6 zJ1) [.ref 2, .long 0] (fun s r => s = q_sX zI6 zJ1 ∧ r = some (.int 1)) := by
  refine q_enter (by decide) (Nat.le_of_ble_eq_true rfl) ?_
  refine q_lload_n dX9_hasAll_0 rfl ?_
  refine q_aload_n dX9_hasAll_1 rfl ?_
  refine q_V0 (ci := 9) (n := 0) dX9_hasAll_2 DX9_all lX9_65 rfl (by decide) rfl rfl rfl rfl uX_X9_all_19 ?_
  rintro _ _ ⟨rfl, rfl⟩
  refine q_ldc2 (v := (-1)) dX9_hasAll_5 nX9_69 ?_
  refine q_lxor dX9_hasAll_8 ?_
  refine q_topL (v := (-1)) rfl ?_
  refine q_land dX9_hasAll_9 ?_
  refine q_topL (v := 0) rfl ?_
  refine q_lc (v := 0) dX9_hasAll_10 rfl ?_
  refine q_lcmp dX9_hasAll_11 ?_
  refine q_topI (v := 0) rfl ?_
  refine q_iz_ne (tgt := 19) (a := 0) dX9_hasAll_12 (by decide) rfl (fun h => absurd h (by decide)) (fun _ => ?_)
  refine q_ic (v := 1) dX9_hasAll_15 rfl ?_
  refine q_goto (tgt := 20) dX9_hasAll_16 (by decide) ?_
  refine q_zret dX9_hasAll_20 rfl (Or.inr rfl) ?_
  exact ⟨rfl, rfl⟩
set_option maxRecDepth 20000 in
theorem frX_clashes0 : q_met mX10_clashes (q_sX zI6 zJ1) [.ref 0, .long 0] (fun s r => (∃ I J, s = q_sX I J) ∧ ∃ v, r = some (.int v) ∧ v.toInt = (0 : Int)) := by
  refine q_enter (by decide) (Nat.le_of_ble_eq_true rfl) ?_
  refine q_aload_n dX10_clashes_0 rfl ?_
  refine q_getR (c := 10) (n := 0) (k := 3) (a := 2) dX10_clashes_1 rfl (by decide) (by decide) fX10_16 rfl rfl ?_
  refine q_lload_n dX10_clashes_4 rfl ?_
  refine q_V1 (ci := 9) (n := 0) dX10_clashes_5 DX9_hasAll lX10_175 rfl (by decide) rfl rfl rfl rfl uX_X9_hasAll_91 ?_
  rintro _ _ ⟨rfl, rfl⟩
  refine q_iz_ne (tgt := 13) (a := 1) dX10_clashes_8 (by decide) rfl (fun _ => ?_) (fun h => absurd h (by decide))
  refine q_aload_n dX10_clashes_13 rfl ?_
  refine q_getR (c := 10) (n := 0) (k := 7) (a := 51) dX10_clashes_14 rfl (by decide) (by decide) fX10_49 rfl rfl ?_
  refine q_lload_n dX10_clashes_17 rfl ?_
  refine q_V1 (ci := 0) (n := 0) dX10_clashes_18 DX0_clashOf lX10_163 rfl (by decide) rfl rfl rfl rfl uX_X0_clashOf_28 ?_
  rintro _ _ ⟨rfl, rfl⟩
  refine q_iz_eq (tgt := 28) (a := 0) dX10_clashes_21 (by decide) rfl (fun _ => ?_) (fun h => absurd h (by decide))
  refine q_ic (v := 0) dX10_clashes_28 rfl ?_
  refine q_iret dX10_clashes_29 rfl ?_
  exact ⟨⟨_, _, rfl⟩, _, rfl, (by show (0 : Int) = _; first | rfl | omega | (split <;> omega) | (split <;> split <;> omega))⟩
