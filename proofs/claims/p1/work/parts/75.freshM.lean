/-! WHAT EACH CALL ANSWERS ON A NEW OBJECT. By program (wip/whole/gen_fresh.py). -/
def q_sM (I : Nat → Nat → Int32) (J : Nat → Nat → Int64) : q_S := (I, J, q_R0, layM)
theorem dX11_end_0 : decode cX11_end 0 = .ok (.iload_n 1, 1) := by decide +kernel
theorem dX11_end_1 : decode cX11_end 1 = .ok (.ifCond .lt 11, 3) := by decide +kernel
theorem dX11_end_4 : decode cX11_end 4 = .ok (.iload_n 1, 1) := by decide +kernel
theorem dX11_end_5 : decode cX11_end 5 = .ok (.aload_n 0, 1) := by decide +kernel
theorem dX11_end_6 : decode cX11_end 6 = .ok (.getfield 318, 3) := by decide +kernel
theorem dX11_end_9 : decode cX11_end 9 = .ok (.if_icmp .le 5, 3) := by decide +kernel
theorem dX11_end_12 : decode cX11_end 12 = .ok (.iconst (-1), 1) := by decide +kernel
theorem dX11_end_13 : decode cX11_end 13 = .ok (.ireturn, 1) := by decide +kernel
theorem dX11_end_14 : decode cX11_end 14 = .ok (.aload_n 0, 1) := by decide +kernel
theorem dX11_end_15 : decode cX11_end 15 = .ok (.iload_n 1, 1) := by decide +kernel
theorem dX11_end_16 : decode cX11_end 16 = .ok (.putfield 318, 3) := by decide +kernel
theorem dX11_end_19 : decode cX11_end 19 = .ok (.iload_n 1, 1) := by decide +kernel
theorem dX11_end_20 : decode cX11_end 20 = .ok (.ireturn, 1) := by decide +kernel
set_option maxRecDepth 20000 in
theorem frM_end (a : Int32) : q_met mX11_end (q_sM zI6 zJ1) [.ref 139, .int a] (fun s r => (∃ I J, s = q_sM I J) ∧ ∃ v, r = some (.int v) ∧ v.toInt = (if a.toInt = 0 then 0 else -1 : Int)) := by
  refine q_enter (by decide) (Nat.le_of_ble_eq_true rfl) ?_
  refine q_iload_n dX11_end_0 rfl ?_
  refine q_iz_lt (tgt := 12) (a := a.toInt) dX11_end_1 (by decide) rfl (fun h1_0 => ?_) (fun h1_0 => ?_)
  · refine q_ic (v := (-1)) dX11_end_12 rfl ?_
    refine q_iret dX11_end_13 rfl ?_
    exact ⟨⟨_, _, rfl⟩, _, rfl, (by show ((-1) : Int) = _; first | rfl | omega | (split <;> omega) | (split <;> split <;> omega))⟩
  · refine q_iload_n dX11_end_4 rfl ?_
    refine q_aload_n dX11_end_5 rfl ?_
    refine q_getf (c := 11) (n := 0) (k := 2) (v := .int 0) dX11_end_6 rfl (by decide) (by decide) fX11_318 rfl ?_
    refine q_cz_le (tgt := 14) (a := a.toInt) (b := 0) dX11_end_9 (by decide) rfl rfl (fun h9_1 => ?_) (fun h9_1 => ?_)
    · refine q_aload_n dX11_end_14 rfl ?_
      refine q_iload_n dX11_end_15 rfl ?_
      refine q_putI (c := 11) (n := 0) (k := 2) dX11_end_16 rfl (by decide) (by decide) fX11_318 rfl rfl ?_
      show q_K _ (q_sM (q_up zI6 139 2 a) zJ1) _ _ _ _ _ _
      refine q_iload_n dX11_end_19 rfl ?_
      refine q_iret dX11_end_20 rfl ?_
      exact ⟨⟨_, _, rfl⟩, _, rfl, (by first | rfl | omega | (split <;> omega) | (split <;> split <;> omega))⟩
    · refine q_ic (v := (-1)) dX11_end_12 rfl ?_
      refine q_iret dX11_end_13 rfl ?_
      exact ⟨⟨_, _, rfl⟩, _, rfl, (by show ((-1) : Int) = _; first | rfl | omega | (split <;> omega) | (split <;> split <;> omega))⟩
theorem dX11_program_0 : decode cX11_program 0 = .ok (.aload_n 0, 1) := by decide +kernel
theorem dX11_program_1 : decode cX11_program 1 = .ok (.iconst 0, 1) := by decide +kernel
theorem dX11_program_2 : decode cX11_program 2 = .ok (.putfield 222, 3) := by decide +kernel
theorem dX11_program_5 : decode cX11_program 5 = .ok (.aload_n 0, 1) := by decide +kernel
theorem dX11_program_6 : decode cX11_program 6 = .ok (.iconst (-1), 1) := by decide +kernel
theorem dX11_program_7 : decode cX11_program 7 = .ok (.putfield 16, 3) := by decide +kernel
theorem dX11_program_10 : decode cX11_program 10 = .ok (.aload_n 0, 1) := by decide +kernel
theorem dX11_program_11 : decode cX11_program 11 = .ok (.aload_n 0, 1) := by decide +kernel
theorem dX11_program_12 : decode cX11_program 12 = .ok (.getfield 318, 3) := by decide +kernel
theorem dX11_program_15 : decode cX11_program 15 = .ok (.putfield 219, 3) := by decide +kernel
theorem dX11_program_18 : decode cX11_program 18 = .ok (.iconst 0, 1) := by decide +kernel
theorem dX11_program_19 : decode cX11_program 19 = .ok (.istore_n 1, 1) := by decide +kernel
theorem dX11_program_20 : decode cX11_program 20 = .ok (.iload_n 1, 1) := by decide +kernel
theorem dX11_program_21 : decode cX11_program 21 = .ok (.aload_n 0, 1) := by decide +kernel
theorem dX11_program_22 : decode cX11_program 22 = .ok (.getfield 219, 3) := by decide +kernel
theorem dX11_program_25 : decode cX11_program 25 = .ok (.if_icmp .ge 21, 3) := by decide +kernel
theorem dX11_program_28 : decode cX11_program 28 = .ok (.aload_n 0, 1) := by decide +kernel
theorem dX11_program_29 : decode cX11_program 29 = .ok (.getfield 13, 3) := by decide +kernel
theorem dX11_program_32 : decode cX11_program 32 = .ok (.iload_n 1, 1) := by decide +kernel
theorem dX11_program_33 : decode cX11_program 33 = .ok (.aload_n 0, 1) := by decide +kernel
theorem dX11_program_34 : decode cX11_program 34 = .ok (.getfield 7, 3) := by decide +kernel
theorem dX11_program_37 : decode cX11_program 37 = .ok (.iload_n 1, 1) := by decide +kernel
theorem dX11_program_38 : decode cX11_program 38 = .ok (.baload, 1) := by decide +kernel
theorem dX11_program_39 : decode cX11_program 39 = .ok (.bastore, 1) := by decide +kernel
theorem dX11_program_40 : decode cX11_program 40 = .ok (.iinc 1 1, 3) := by decide +kernel
theorem dX11_program_43 : decode cX11_program 43 = .ok (.goto (-23), 3) := by decide +kernel
theorem dX11_program_46 : decode cX11_program 46 = .ok (.aload_n 0, 1) := by decide +kernel
theorem dX11_program_47 : decode cX11_program 47 = .ok (.iconst 0, 1) := by decide +kernel
theorem dX11_program_48 : decode cX11_program 48 = .ok (.putfield 318, 3) := by decide +kernel
theorem dX11_program_51 : decode cX11_program 51 = .ok (.aload_n 0, 1) := by decide +kernel
theorem dX11_program_52 : decode cX11_program 52 = .ok (.iconst 0, 1) := by decide +kernel
theorem dX11_program_53 : decode cX11_program 53 = .ok (.putfield 273, 3) := by decide +kernel
theorem dX11_program_56 : decode cX11_program 56 = .ok (.aload_n 0, 1) := by decide +kernel
theorem dX11_program_57 : decode cX11_program 57 = .ok (.iconst 1, 1) := by decide +kernel
theorem dX11_program_58 : decode cX11_program 58 = .ok (.aload_n 0, 1) := by decide +kernel
theorem dX11_program_59 : decode cX11_program 59 = .ok (.getfield 321, 3) := by decide +kernel
theorem dX11_program_62 : decode cX11_program 62 = .ok (.isub, 1) := by decide +kernel
theorem dX11_program_63 : decode cX11_program 63 = .ok (.putfield 324, 3) := by decide +kernel
theorem dX11_program_66 : decode cX11_program 66 = .ok (.aload_n 0, 1) := by decide +kernel
theorem dX11_program_67 : decode cX11_program 67 = .ok (.aload_n 0, 1) := by decide +kernel
theorem dX11_program_68 : decode cX11_program 68 = .ok (.getfield 324, 3) := by decide +kernel
theorem dX11_program_71 : decode cX11_program 71 = .ok (.invokevirtual 212, 3) := by decide +kernel
theorem dX11_program_74 : decode cX11_program 74 = .ok (.aload_n 0, 1) := by decide +kernel
theorem dX11_program_75 : decode cX11_program 75 = .ok (.invokevirtual 312, 3) := by decide +kernel
theorem dX11_program_78 : decode cX11_program 78 = .ok (.aload_n 0, 1) := by decide +kernel
theorem dX11_program_79 : decode cX11_program 79 = .ok (.invokevirtual 308, 3) := by decide +kernel
theorem dX11_program_82 : decode cX11_program 82 = .ok (.ifCond .eq 17, 3) := by decide +kernel
theorem dX11_program_85 : decode cX11_program 85 = .ok (.aload_n 0, 1) := by decide +kernel
theorem dX11_program_86 : decode cX11_program 86 = .ok (.getfield 283, 3) := by decide +kernel
theorem dX11_program_89 : decode cX11_program 89 = .ok (.ifCond .eq 10, 3) := by decide +kernel
theorem dX11_program_92 : decode cX11_program 92 = .ok (.aload_n 0, 1) := by decide +kernel
theorem dX11_program_93 : decode cX11_program 93 = .ok (.invokevirtual 327, 3) := by decide +kernel
theorem dX11_program_96 : decode cX11_program 96 = .ok (.goto (-18), 3) := by decide +kernel
theorem dX11_program_99 : decode cX11_program 99 = .ok (.aload_n 0, 1) := by decide +kernel
theorem dX11_program_100 : decode cX11_program 100 = .ok (.invokevirtual 308, 3) := by decide +kernel
theorem dX11_program_103 : decode cX11_program 103 = .ok (.ifCond .eq 26, 3) := by decide +kernel
theorem dX11_program_106 : decode cX11_program 106 = .ok (.aload_n 0, 1) := by decide +kernel
theorem dX11_program_107 : decode cX11_program 107 = .ok (.aload_n 0, 1) := by decide +kernel
theorem dX11_program_108 : decode cX11_program 108 = .ok (.getfield 324, 3) := by decide +kernel
theorem dX11_program_111 : decode cX11_program 111 = .ok (.invokevirtual 330, 3) := by decide +kernel
theorem dX11_program_114 : decode cX11_program 114 = .ok (.sipush 400, 3) := by decide +kernel
theorem dX11_program_117 : decode cX11_program 117 = .ok (.if_icmp .le 12, 3) := by decide +kernel
theorem dX11_program_120 : decode cX11_program 120 = .ok (.aload_n 0, 1) := by decide +kernel
theorem dX11_program_121 : decode cX11_program 121 = .ok (.iconst 5, 1) := by decide +kernel
theorem dX11_program_122 : decode cX11_program 122 = .ok (.aload_n 0, 1) := by decide +kernel
theorem dX11_program_123 : decode cX11_program 123 = .ok (.getfield 219, 3) := by decide +kernel
theorem dX11_program_126 : decode cX11_program 126 = .ok (.invokevirtual 304, 3) := by decide +kernel
theorem dX11_program_129 : decode cX11_program 129 = .ok (.aload_n 0, 1) := by decide +kernel
theorem dX11_program_130 : decode cX11_program 130 = .ok (.invokevirtual 308, 3) := by decide +kernel
theorem dX11_program_133 : decode cX11_program 133 = .ok (.ifCond .ne 5, 3) := by decide +kernel
theorem dX11_program_136 : decode cX11_program 136 = .ok (.iconst (-1), 1) := by decide +kernel
theorem dX11_program_137 : decode cX11_program 137 = .ok (.ireturn, 1) := by decide +kernel
theorem dX11_program_138 : decode cX11_program 138 = .ok (.aload_n 0, 1) := by decide +kernel
theorem dX11_program_139 : decode cX11_program 139 = .ok (.aload_n 0, 1) := by decide +kernel
theorem dX11_program_140 : decode cX11_program 140 = .ok (.getfield 324, 3) := by decide +kernel
theorem dX11_program_143 : decode cX11_program 143 = .ok (.putfield 321, 3) := by decide +kernel
theorem dX11_program_146 : decode cX11_program 146 = .ok (.iconst 0, 1) := by decide +kernel
theorem dX11_program_147 : decode cX11_program 147 = .ok (.istore_n 1, 1) := by decide +kernel
theorem dX11_program_148 : decode cX11_program 148 = .ok (.iload_n 1, 1) := by decide +kernel
theorem dX11_program_149 : decode cX11_program 149 = .ok (.iconst 3, 1) := by decide +kernel
theorem dX11_program_150 : decode cX11_program 150 = .ok (.if_icmp .ge 16, 3) := by decide +kernel
theorem dX11_program_153 : decode cX11_program 153 = .ok (.aload_n 0, 1) := by decide +kernel
theorem dX11_program_154 : decode cX11_program 154 = .ok (.getfield 209, 3) := by decide +kernel
theorem dX11_program_157 : decode cX11_program 157 = .ok (.iload_n 1, 1) := by decide +kernel
theorem dX11_program_158 : decode cX11_program 158 = .ok (.iconst 0, 1) := by decide +kernel
theorem dX11_program_159 : decode cX11_program 159 = .ok (.bastore, 1) := by decide +kernel
theorem dX11_program_160 : decode cX11_program 160 = .ok (.iinc 1 1, 3) := by decide +kernel
theorem dX11_program_163 : decode cX11_program 163 = .ok (.goto (-15), 3) := by decide +kernel
theorem dX11_program_166 : decode cX11_program 166 = .ok (.aload_n 0, 1) := by decide +kernel
theorem dX11_program_167 : decode cX11_program 167 = .ok (.invokevirtual 216, 3) := by decide +kernel
theorem dX11_program_170 : decode cX11_program 170 = .ok (.aload_n 0, 1) := by decide +kernel
theorem dX11_program_171 : decode cX11_program 171 = .ok (.getfield 20, 3) := by decide +kernel
theorem dX11_program_174 : decode cX11_program 174 = .ok (.aload_n 0, 1) := by decide +kernel
theorem dX11_program_175 : decode cX11_program 175 = .ok (.getfield 321, 3) := by decide +kernel
theorem dX11_program_178 : decode cX11_program 178 = .ok (.iaload, 1) := by decide +kernel
theorem dX11_program_179 : decode cX11_program 179 = .ok (.ireturn, 1) := by decide +kernel
def uMI1 : Nat → Nat → Int32 := q_up (q_up (q_up (q_up (q_up (q_up zI6 139 4 0) 139 5 (-1)) 139 3 0) 139 2 0) 139 7 0) 139 29 1
def uMI2 : Nat → Nat → Int32 := q_up (q_up (q_up uMI1 142 1 0) 143 1 0) 144 1 0
set_option maxRecDepth 20000 in
theorem uM_X11_clearBank_2 : q_met mX11_clearBank (q_sM uMI1 zJ1) [.ref 139, .int 1] (fun s r => s = q_sM uMI2 zJ1 ∧ r = none) := by
  refine q_enter (by decide) (Nat.le_of_ble_eq_true rfl) ?_
  refine q_aload_n dX11_clearBank_0 rfl ?_
  refine q_getR (c := 11) (n := 0) (k := 11) (a := 142) dX11_clearBank_1 rfl (by decide) (by decide) fX11_20 rfl rfl ?_
  refine q_iload_n dX11_clearBank_4 rfl ?_
  refine q_ic (v := 0) dX11_clearBank_5 rfl ?_
  refine q_iast (n := 6) (j := 1) dX11_clearBank_6 rfl rfl (by decide) ?_
  show q_K _ (q_sM (q_up uMI1 142 1 0) zJ1) _ _ _ _ _ _
  refine q_aload_n dX11_clearBank_7 rfl ?_
  refine q_getR (c := 11) (n := 0) (k := 12) (a := 143) dX11_clearBank_8 rfl (by decide) (by decide) fX11_24 rfl rfl ?_
  refine q_iload_n dX11_clearBank_11 rfl ?_
  refine q_ic (v := 0) dX11_clearBank_12 rfl ?_
  refine q_iast (n := 6) (j := 1) dX11_clearBank_13 rfl rfl (by decide) ?_
  show q_K _ (q_sM (q_up (q_up uMI1 142 1 0) 143 1 0) zJ1) _ _ _ _ _ _
  refine q_aload_n dX11_clearBank_14 rfl ?_
  refine q_getR (c := 11) (n := 0) (k := 13) (a := 144) dX11_clearBank_15 rfl (by decide) (by decide) fX11_27 rfl rfl ?_
  refine q_iload_n dX11_clearBank_18 rfl ?_
  refine q_ic (v := 0) dX11_clearBank_19 rfl ?_
  refine q_iast (n := 6) (j := 1) dX11_clearBank_20 rfl rfl (by decide) ?_
  show q_K _ (q_sM (q_up (q_up (q_up uMI1 142 1 0) 143 1 0) 144 1 0) zJ1) _ _ _ _ _ _
  show q_K _ (q_sM uMI2 zJ1) _ _ _ _ _ _
  refine q_ret dX11_clearBank_21 rfl ?_
  exact ⟨rfl, rfl⟩
theorem dX11_goOn_0 : decode cX11_goOn 0 = .ok (.aload_n 0, 1) := by decide +kernel
theorem dX11_goOn_1 : decode cX11_goOn 1 = .ok (.aload_n 0, 1) := by decide +kernel
theorem dX11_goOn_2 : decode cX11_goOn 2 = .ok (.getfield 273, 3) := by decide +kernel
theorem dX11_goOn_5 : decode cX11_goOn 5 = .ok (.putfield 276, 3) := by decide +kernel
theorem dX11_goOn_8 : decode cX11_goOn 8 = .ok (.aload_n 0, 1) := by decide +kernel
theorem dX11_goOn_9 : decode cX11_goOn 9 = .ok (.getfield 276, 3) := by decide +kernel
theorem dX11_goOn_12 : decode cX11_goOn 12 = .ok (.aload_n 0, 1) := by decide +kernel
theorem dX11_goOn_13 : decode cX11_goOn 13 = .ok (.getfield 219, 3) := by decide +kernel
theorem dX11_goOn_16 : decode cX11_goOn 16 = .ok (.if_icmp .ge 42, 3) := by decide +kernel
theorem dX11_goOn_19 : decode cX11_goOn 19 = .ok (.aload_n 0, 1) := by decide +kernel
theorem dX11_goOn_20 : decode cX11_goOn 20 = .ok (.aload_n 0, 1) := by decide +kernel
theorem dX11_goOn_21 : decode cX11_goOn 21 = .ok (.getfield 276, 3) := by decide +kernel
theorem dX11_goOn_24 : decode cX11_goOn 24 = .ok (.invokevirtual 279, 3) := by decide +kernel
theorem dX11_goOn_27 : decode cX11_goOn 27 = .ok (.bipush 32, 2) := by decide +kernel
theorem dX11_goOn_29 : decode cX11_goOn 29 = .ok (.if_icmp .eq 16, 3) := by decide +kernel
theorem dX11_goOn_32 : decode cX11_goOn 32 = .ok (.aload_n 0, 1) := by decide +kernel
theorem dX11_goOn_33 : decode cX11_goOn 33 = .ok (.aload_n 0, 1) := by decide +kernel
theorem dX11_goOn_34 : decode cX11_goOn 34 = .ok (.getfield 276, 3) := by decide +kernel
theorem dX11_goOn_37 : decode cX11_goOn 37 = .ok (.invokevirtual 279, 3) := by decide +kernel
theorem dX11_goOn_40 : decode cX11_goOn 40 = .ok (.bipush 10, 2) := by decide +kernel
theorem dX11_goOn_42 : decode cX11_goOn 42 = .ok (.if_icmp .ne 16, 3) := by decide +kernel
theorem dX11_goOn_45 : decode cX11_goOn 45 = .ok (.aload_n 0, 1) := by decide +kernel
theorem dX11_goOn_46 : decode cX11_goOn 46 = .ok (.dup, 1) := by decide +kernel
theorem dX11_goOn_47 : decode cX11_goOn 47 = .ok (.getfield 276, 3) := by decide +kernel
theorem dX11_goOn_50 : decode cX11_goOn 50 = .ok (.iconst 1, 1) := by decide +kernel
theorem dX11_goOn_51 : decode cX11_goOn 51 = .ok (.iadd, 1) := by decide +kernel
theorem dX11_goOn_52 : decode cX11_goOn 52 = .ok (.putfield 276, 3) := by decide +kernel
theorem dX11_goOn_55 : decode cX11_goOn 55 = .ok (.goto (-47), 3) := by decide +kernel
theorem dX11_goOn_58 : decode cX11_goOn 58 = .ok (.aload_n 0, 1) := by decide +kernel
theorem dX11_goOn_59 : decode cX11_goOn 59 = .ok (.aload_n 0, 1) := by decide +kernel
theorem dX11_goOn_60 : decode cX11_goOn 60 = .ok (.getfield 276, 3) := by decide +kernel
theorem dX11_goOn_63 : decode cX11_goOn 63 = .ok (.invokevirtual 279, 3) := by decide +kernel
theorem dX11_goOn_66 : decode cX11_goOn 66 = .ok (.istore_n 1, 1) := by decide +kernel
theorem dX11_goOn_67 : decode cX11_goOn 67 = .ok (.aload_n 0, 1) := by decide +kernel
theorem dX11_goOn_68 : decode cX11_goOn 68 = .ok (.aload_n 0, 1) := by decide +kernel
theorem dX11_goOn_69 : decode cX11_goOn 69 = .ok (.getfield 276, 3) := by decide +kernel
theorem dX11_goOn_72 : decode cX11_goOn 72 = .ok (.iconst 1, 1) := by decide +kernel
theorem dX11_goOn_73 : decode cX11_goOn 73 = .ok (.iadd, 1) := by decide +kernel
theorem dX11_goOn_74 : decode cX11_goOn 74 = .ok (.putfield 273, 3) := by decide +kernel
theorem dX11_goOn_77 : decode cX11_goOn 77 = .ok (.aload_n 0, 1) := by decide +kernel
theorem dX11_goOn_78 : decode cX11_goOn 78 = .ok (.getfield 276, 3) := by decide +kernel
theorem dX11_goOn_81 : decode cX11_goOn 81 = .ok (.aload_n 0, 1) := by decide +kernel
theorem dX11_goOn_82 : decode cX11_goOn 82 = .ok (.getfield 219, 3) := by decide +kernel
theorem dX11_goOn_85 : decode cX11_goOn 85 = .ok (.if_icmp .lt 27, 3) := by decide +kernel
theorem dX11_goOn_88 : decode cX11_goOn 88 = .ok (.aload_n 0, 1) := by decide +kernel
theorem dX11_goOn_89 : decode cX11_goOn 89 = .ok (.iconst 0, 1) := by decide +kernel
theorem dX11_goOn_90 : decode cX11_goOn 90 = .ok (.putfield 283, 3) := by decide +kernel
theorem dX11_goOn_93 : decode cX11_goOn 93 = .ok (.aload_n 0, 1) := by decide +kernel
theorem dX11_goOn_94 : decode cX11_goOn 94 = .ok (.aload_n 0, 1) := by decide +kernel
theorem dX11_goOn_95 : decode cX11_goOn 95 = .ok (.getfield 219, 3) := by decide +kernel
theorem dX11_goOn_98 : decode cX11_goOn 98 = .ok (.putfield 276, 3) := by decide +kernel
theorem dX11_goOn_101 : decode cX11_goOn 101 = .ok (.aload_n 0, 1) := by decide +kernel
theorem dX11_goOn_102 : decode cX11_goOn 102 = .ok (.aload_n 0, 1) := by decide +kernel
theorem dX11_goOn_103 : decode cX11_goOn 103 = .ok (.getfield 219, 3) := by decide +kernel
theorem dX11_goOn_106 : decode cX11_goOn 106 = .ok (.putfield 273, 3) := by decide +kernel
theorem dX11_goOn_109 : decode cX11_goOn 109 = .ok (.goto 267, 3) := by decide +kernel
theorem dX11_goOn_112 : decode cX11_goOn 112 = .ok (.iload_n 1, 1) := by decide +kernel
theorem dX11_goOn_113 : decode cX11_goOn 113 = .ok (.invokestatic 286, 3) := by decide +kernel
theorem dX11_goOn_116 : decode cX11_goOn 116 = .ok (.ifCond .eq 123, 3) := by decide +kernel
theorem dX11_goOn_119 : decode cX11_goOn 119 = .ok (.aload_n 0, 1) := by decide +kernel
theorem dX11_goOn_120 : decode cX11_goOn 120 = .ok (.aload_n 0, 1) := by decide +kernel
theorem dX11_goOn_121 : decode cX11_goOn 121 = .ok (.getfield 273, 3) := by decide +kernel
theorem dX11_goOn_124 : decode cX11_goOn 124 = .ok (.invokevirtual 279, 3) := by decide +kernel
theorem dX11_goOn_127 : decode cX11_goOn 127 = .ok (.invokestatic 286, 3) := by decide +kernel
theorem dX11_goOn_130 : decode cX11_goOn 130 = .ok (.ifCond .eq 16, 3) := by decide +kernel
theorem dX11_goOn_133 : decode cX11_goOn 133 = .ok (.aload_n 0, 1) := by decide +kernel
theorem dX11_goOn_134 : decode cX11_goOn 134 = .ok (.dup, 1) := by decide +kernel
theorem dX11_goOn_135 : decode cX11_goOn 135 = .ok (.getfield 273, 3) := by decide +kernel
theorem dX11_goOn_138 : decode cX11_goOn 138 = .ok (.iconst 1, 1) := by decide +kernel
theorem dX11_goOn_139 : decode cX11_goOn 139 = .ok (.iadd, 1) := by decide +kernel
theorem dX11_goOn_140 : decode cX11_goOn 140 = .ok (.putfield 273, 3) := by decide +kernel
theorem dX11_goOn_143 : decode cX11_goOn 143 = .ok (.goto (-24), 3) := by decide +kernel
theorem dX11_goOn_146 : decode cX11_goOn 146 = .ok (.aload_n 0, 1) := by decide +kernel
theorem dX11_goOn_147 : decode cX11_goOn 147 = .ok (.lconst 0, 1) := by decide +kernel
theorem dX11_goOn_148 : decode cX11_goOn 148 = .ok (.putfield 290, 3) := by decide +kernel
theorem dX11_goOn_151 : decode cX11_goOn 151 = .ok (.aload_n 0, 1) := by decide +kernel
theorem dX11_goOn_152 : decode cX11_goOn 152 = .ok (.getfield 276, 3) := by decide +kernel
theorem dX11_goOn_155 : decode cX11_goOn 155 = .ok (.istore_n 2, 1) := by decide +kernel
theorem dX11_goOn_156 : decode cX11_goOn 156 = .ok (.iload_n 2, 1) := by decide +kernel
theorem dX11_goOn_157 : decode cX11_goOn 157 = .ok (.aload_n 0, 1) := by decide +kernel
theorem dX11_goOn_158 : decode cX11_goOn 158 = .ok (.getfield 273, 3) := by decide +kernel
theorem dX11_goOn_161 : decode cX11_goOn 161 = .ok (.if_icmp .ge 38, 3) := by decide +kernel
theorem dX11_goOn_164 : decode cX11_goOn 164 = .ok (.iload_n 2, 1) := by decide +kernel
theorem dX11_goOn_165 : decode cX11_goOn 165 = .ok (.aload_n 0, 1) := by decide +kernel
theorem dX11_goOn_166 : decode cX11_goOn 166 = .ok (.getfield 276, 3) := by decide +kernel
theorem dX11_goOn_169 : decode cX11_goOn 169 = .ok (.bipush 8, 2) := by decide +kernel
theorem dX11_goOn_171 : decode cX11_goOn 171 = .ok (.iadd, 1) := by decide +kernel
theorem dX11_goOn_172 : decode cX11_goOn 172 = .ok (.if_icmp .ge 27, 3) := by decide +kernel
theorem dX11_goOn_175 : decode cX11_goOn 175 = .ok (.aload_n 0, 1) := by decide +kernel
theorem dX11_goOn_176 : decode cX11_goOn 176 = .ok (.aload_n 0, 1) := by decide +kernel
theorem dX11_goOn_177 : decode cX11_goOn 177 = .ok (.getfield 290, 3) := by decide +kernel
theorem dX11_goOn_180 : decode cX11_goOn 180 = .ok (.bipush 8, 2) := by decide +kernel
theorem dX11_goOn_182 : decode cX11_goOn 182 = .ok (.lshl, 1) := by decide +kernel
theorem dX11_goOn_183 : decode cX11_goOn 183 = .ok (.aload_n 0, 1) := by decide +kernel
theorem dX11_goOn_184 : decode cX11_goOn 184 = .ok (.iload_n 2, 1) := by decide +kernel
theorem dX11_goOn_185 : decode cX11_goOn 185 = .ok (.invokevirtual 279, 3) := by decide +kernel
theorem dX11_goOn_188 : decode cX11_goOn 188 = .ok (.i2l, 1) := by decide +kernel
theorem dX11_goOn_189 : decode cX11_goOn 189 = .ok (.lor, 1) := by decide +kernel
theorem dX11_goOn_190 : decode cX11_goOn 190 = .ok (.putfield 290, 3) := by decide +kernel
theorem dX11_goOn_193 : decode cX11_goOn 193 = .ok (.iinc 2 1, 3) := by decide +kernel
theorem dX11_goOn_196 : decode cX11_goOn 196 = .ok (.goto (-40), 3) := by decide +kernel
theorem dX11_goOn_199 : decode cX11_goOn 199 = .ok (.aload_n 0, 1) := by decide +kernel
theorem dX11_goOn_200 : decode cX11_goOn 200 = .ok (.aload_n 0, 1) := by decide +kernel
theorem dX11_goOn_201 : decode cX11_goOn 201 = .ok (.getfield 273, 3) := by decide +kernel
theorem dX11_goOn_204 : decode cX11_goOn 204 = .ok (.aload_n 0, 1) := by decide +kernel
theorem dX11_goOn_205 : decode cX11_goOn 205 = .ok (.getfield 276, 3) := by decide +kernel
theorem dX11_goOn_208 : decode cX11_goOn 208 = .ok (.isub, 1) := by decide +kernel
theorem dX11_goOn_209 : decode cX11_goOn 209 = .ok (.bipush 8, 2) := by decide +kernel
theorem dX11_goOn_211 : decode cX11_goOn 211 = .ok (.if_icmp .le 7, 3) := by decide +kernel
theorem dX11_goOn_214 : decode cX11_goOn 214 = .ok (.iconst 1, 1) := by decide +kernel
theorem dX11_goOn_215 : decode cX11_goOn 215 = .ok (.goto 18, 3) := by decide +kernel
theorem dX11_goOn_218 : decode cX11_goOn 218 = .ok (.aload_n 0, 1) := by decide +kernel
theorem dX11_goOn_219 : decode cX11_goOn 219 = .ok (.getfield 290, 3) := by decide +kernel
theorem dX11_goOn_222 : decode cX11_goOn 222 = .ok (.invokestatic 294, 3) := by decide +kernel
theorem dX11_goOn_225 : decode cX11_goOn 225 = .ok (.ifCond .eq 7, 3) := by decide +kernel
theorem dX11_goOn_228 : decode cX11_goOn 228 = .ok (.iconst 3, 1) := by decide +kernel
theorem dX11_goOn_229 : decode cX11_goOn 229 = .ok (.goto 4, 3) := by decide +kernel
theorem dX11_goOn_232 : decode cX11_goOn 232 = .ok (.iconst 2, 1) := by decide +kernel
theorem dX11_goOn_233 : decode cX11_goOn 233 = .ok (.putfield 283, 3) := by decide +kernel
theorem dX11_goOn_236 : decode cX11_goOn 236 = .ok (.goto 140, 3) := by decide +kernel
theorem dX11_goOn_239 : decode cX11_goOn 239 = .ok (.iload_n 1, 1) := by decide +kernel
theorem dX11_goOn_240 : decode cX11_goOn 240 = .ok (.invokestatic 298, 3) := by decide +kernel
theorem dX11_goOn_243 : decode cX11_goOn 243 = .ok (.ifCond .eq 118, 3) := by decide +kernel
theorem dX11_goOn_246 : decode cX11_goOn 246 = .ok (.aload_n 0, 1) := by decide +kernel
theorem dX11_goOn_247 : decode cX11_goOn 247 = .ok (.iconst 0, 1) := by decide +kernel
theorem dX11_goOn_248 : decode cX11_goOn 248 = .ok (.putfield 301, 3) := by decide +kernel
theorem dX11_goOn_251 : decode cX11_goOn 251 = .ok (.aload_n 0, 1) := by decide +kernel
theorem dX11_goOn_252 : decode cX11_goOn 252 = .ok (.aload_n 0, 1) := by decide +kernel
theorem dX11_goOn_253 : decode cX11_goOn 253 = .ok (.getfield 276, 3) := by decide +kernel
theorem dX11_goOn_256 : decode cX11_goOn 256 = .ok (.putfield 273, 3) := by decide +kernel
theorem dX11_goOn_259 : decode cX11_goOn 259 = .ok (.aload_n 0, 1) := by decide +kernel
theorem dX11_goOn_260 : decode cX11_goOn 260 = .ok (.aload_n 0, 1) := by decide +kernel
theorem dX11_goOn_261 : decode cX11_goOn 261 = .ok (.getfield 273, 3) := by decide +kernel
theorem dX11_goOn_264 : decode cX11_goOn 264 = .ok (.invokevirtual 279, 3) := by decide +kernel
theorem dX11_goOn_267 : decode cX11_goOn 267 = .ok (.invokestatic 298, 3) := by decide +kernel
theorem dX11_goOn_270 : decode cX11_goOn 270 = .ok (.ifCond .eq 52, 3) := by decide +kernel
theorem dX11_goOn_273 : decode cX11_goOn 273 = .ok (.aload_n 0, 1) := by decide +kernel
theorem dX11_goOn_274 : decode cX11_goOn 274 = .ok (.getfield 273, 3) := by decide +kernel
theorem dX11_goOn_277 : decode cX11_goOn 277 = .ok (.aload_n 0, 1) := by decide +kernel
theorem dX11_goOn_278 : decode cX11_goOn 278 = .ok (.getfield 276, 3) := by decide +kernel
theorem dX11_goOn_281 : decode cX11_goOn 281 = .ok (.isub, 1) := by decide +kernel
theorem dX11_goOn_282 : decode cX11_goOn 282 = .ok (.iconst 4, 1) := by decide +kernel
theorem dX11_goOn_283 : decode cX11_goOn 283 = .ok (.if_icmp .ge 26, 3) := by decide +kernel
theorem dX11_goOn_286 : decode cX11_goOn 286 = .ok (.aload_n 0, 1) := by decide +kernel
theorem dX11_goOn_287 : decode cX11_goOn 287 = .ok (.bipush 10, 2) := by decide +kernel
theorem dX11_goOn_289 : decode cX11_goOn 289 = .ok (.aload_n 0, 1) := by decide +kernel
theorem dX11_goOn_290 : decode cX11_goOn 290 = .ok (.getfield 301, 3) := by decide +kernel
theorem dX11_goOn_293 : decode cX11_goOn 293 = .ok (.imul, 1) := by decide +kernel
theorem dX11_goOn_294 : decode cX11_goOn 294 = .ok (.aload_n 0, 1) := by decide +kernel
theorem dX11_goOn_295 : decode cX11_goOn 295 = .ok (.aload_n 0, 1) := by decide +kernel
theorem dX11_goOn_296 : decode cX11_goOn 296 = .ok (.getfield 273, 3) := by decide +kernel
theorem dX11_goOn_299 : decode cX11_goOn 299 = .ok (.invokevirtual 279, 3) := by decide +kernel
theorem dX11_goOn_302 : decode cX11_goOn 302 = .ok (.iadd, 1) := by decide +kernel
theorem dX11_goOn_303 : decode cX11_goOn 303 = .ok (.bipush 48, 2) := by decide +kernel
theorem dX11_goOn_305 : decode cX11_goOn 305 = .ok (.isub, 1) := by decide +kernel
theorem dX11_goOn_306 : decode cX11_goOn 306 = .ok (.putfield 301, 3) := by decide +kernel
theorem dX11_goOn_309 : decode cX11_goOn 309 = .ok (.aload_n 0, 1) := by decide +kernel
theorem dX11_goOn_310 : decode cX11_goOn 310 = .ok (.dup, 1) := by decide +kernel
theorem dX11_goOn_311 : decode cX11_goOn 311 = .ok (.getfield 273, 3) := by decide +kernel
theorem dX11_goOn_314 : decode cX11_goOn 314 = .ok (.iconst 1, 1) := by decide +kernel
theorem dX11_goOn_315 : decode cX11_goOn 315 = .ok (.iadd, 1) := by decide +kernel
theorem dX11_goOn_316 : decode cX11_goOn 316 = .ok (.putfield 273, 3) := by decide +kernel
theorem dX11_goOn_319 : decode cX11_goOn 319 = .ok (.goto (-60), 3) := by decide +kernel
theorem dX11_goOn_322 : decode cX11_goOn 322 = .ok (.aload_n 0, 1) := by decide +kernel
theorem dX11_goOn_323 : decode cX11_goOn 323 = .ok (.aload_n 0, 1) := by decide +kernel
theorem dX11_goOn_324 : decode cX11_goOn 324 = .ok (.getfield 273, 3) := by decide +kernel
theorem dX11_goOn_327 : decode cX11_goOn 327 = .ok (.aload_n 0, 1) := by decide +kernel
theorem dX11_goOn_328 : decode cX11_goOn 328 = .ok (.getfield 276, 3) := by decide +kernel
theorem dX11_goOn_331 : decode cX11_goOn 331 = .ok (.isub, 1) := by decide +kernel
theorem dX11_goOn_332 : decode cX11_goOn 332 = .ok (.iconst 4, 1) := by decide +kernel
theorem dX11_goOn_333 : decode cX11_goOn 333 = .ok (.if_icmp .gt 17, 3) := by decide +kernel
theorem dX11_goOn_336 : decode cX11_goOn 336 = .ok (.aload_n 0, 1) := by decide +kernel
theorem dX11_goOn_337 : decode cX11_goOn 337 = .ok (.aload_n 0, 1) := by decide +kernel
theorem dX11_goOn_338 : decode cX11_goOn 338 = .ok (.getfield 273, 3) := by decide +kernel
theorem dX11_goOn_341 : decode cX11_goOn 341 = .ok (.invokevirtual 279, 3) := by decide +kernel
theorem dX11_goOn_344 : decode cX11_goOn 344 = .ok (.invokestatic 286, 3) := by decide +kernel
theorem dX11_goOn_347 : decode cX11_goOn 347 = .ok (.ifCond .eq 7, 3) := by decide +kernel
theorem dX11_goOn_350 : decode cX11_goOn 350 = .ok (.iconst 1, 1) := by decide +kernel
theorem dX11_goOn_351 : decode cX11_goOn 351 = .ok (.goto 4, 3) := by decide +kernel
theorem dX11_goOn_354 : decode cX11_goOn 354 = .ok (.iconst 4, 1) := by decide +kernel
theorem dX11_goOn_355 : decode cX11_goOn 355 = .ok (.putfield 283, 3) := by decide +kernel
theorem dX11_goOn_358 : decode cX11_goOn 358 = .ok (.goto 18, 3) := by decide +kernel
theorem dX11_goOn_361 : decode cX11_goOn 361 = .ok (.aload_n 0, 1) := by decide +kernel
theorem dX11_goOn_362 : decode cX11_goOn 362 = .ok (.iload_n 1, 1) := by decide +kernel
theorem dX11_goOn_363 : decode cX11_goOn 363 = .ok (.bipush 59, 2) := by decide +kernel
theorem dX11_goOn_365 : decode cX11_goOn 365 = .ok (.if_icmp .ne 7, 3) := by decide +kernel
theorem dX11_goOn_368 : decode cX11_goOn 368 = .ok (.iconst 5, 1) := by decide +kernel
theorem dX11_goOn_369 : decode cX11_goOn 369 = .ok (.goto 4, 3) := by decide +kernel
theorem dX11_goOn_372 : decode cX11_goOn 372 = .ok (.iconst 1, 1) := by decide +kernel
theorem dX11_goOn_373 : decode cX11_goOn 373 = .ok (.putfield 283, 3) := by decide +kernel
theorem dX11_goOn_376 : decode cX11_goOn 376 = .ok (.return_, 1) := by decide +kernel
def uMI3 : Nat → Nat → Int32 := q_up uMI2 139 6 0
theorem dX11_sign_0 : decode cX11_sign 0 = .ok (.iload_n 1, 1) := by decide +kernel
theorem dX11_sign_1 : decode cX11_sign 1 = .ok (.aload_n 0, 1) := by decide +kernel
theorem dX11_sign_2 : decode cX11_sign 2 = .ok (.getfield 219, 3) := by decide +kernel
theorem dX11_sign_5 : decode cX11_sign 5 = .ok (.if_icmp .ge 16, 3) := by decide +kernel
theorem dX11_sign_8 : decode cX11_sign 8 = .ok (.aload_n 0, 1) := by decide +kernel
theorem dX11_sign_9 : decode cX11_sign 9 = .ok (.getfield 13, 3) := by decide +kernel
theorem dX11_sign_12 : decode cX11_sign 12 = .ok (.iload_n 1, 1) := by decide +kernel
theorem dX11_sign_13 : decode cX11_sign 13 = .ok (.baload, 1) := by decide +kernel
theorem dX11_sign_14 : decode cX11_sign 14 = .ok (.sipush 255, 3) := by decide +kernel
theorem dX11_sign_17 : decode cX11_sign 17 = .ok (.iand, 1) := by decide +kernel
theorem dX11_sign_18 : decode cX11_sign 18 = .ok (.goto 4, 3) := by decide +kernel
theorem dX11_sign_21 : decode cX11_sign 21 = .ok (.iconst 0, 1) := by decide +kernel
theorem dX11_sign_22 : decode cX11_sign 22 = .ok (.ireturn, 1) := by decide +kernel
set_option maxRecDepth 20000 in
theorem uM_X11_sign_3 : q_met mX11_sign (q_sM uMI3 zJ1) [.ref 139, .int 0] (fun s r => s = q_sM uMI3 zJ1 ∧ r = some (.int 0)) := by
  refine q_enter (by decide) (Nat.le_of_ble_eq_true rfl) ?_
  refine q_iload_n dX11_sign_0 rfl ?_
  refine q_aload_n dX11_sign_1 rfl ?_
  refine q_getf (c := 11) (n := 0) (k := 3) (v := .int 0) dX11_sign_2 rfl (by decide) (by decide) fX11_219 rfl ?_
  refine q_cz_ge (tgt := 21) (a := 0) (b := 0) dX11_sign_5 (by decide) rfl rfl (fun _ => ?_) (fun h => absurd h (by decide))
  refine q_ic (v := 0) dX11_sign_21 rfl ?_
  refine q_iret dX11_sign_22 rfl ?_
  exact ⟨rfl, rfl⟩
def uMI4 : Nat → Nat → Int32 := q_up (q_up (q_up (q_up uMI3 139 7 1) 139 8 0) 139 6 0) 139 7 0
set_option maxRecDepth 20000 in
theorem uM_X11_goOn_4 : q_met mX11_goOn (q_sM uMI2 zJ1) [.ref 139] (fun s r => s = q_sM uMI4 zJ1 ∧ r = none) := by
  refine q_enter (by decide) (Nat.le_of_ble_eq_true rfl) ?_
  refine q_aload_n dX11_goOn_0 rfl ?_
  refine q_aload_n dX11_goOn_1 rfl ?_
  refine q_getf (c := 11) (n := 0) (k := 7) (v := .int 0) dX11_goOn_2 rfl (by decide) (by decide) fX11_273 rfl ?_
  refine q_putI (c := 11) (n := 0) (k := 6) dX11_goOn_5 rfl (by decide) (by decide) fX11_276 rfl rfl ?_
  show q_K _ (q_sM (q_up uMI2 139 6 0) zJ1) _ _ _ _ _ _
  refine q_aload_n dX11_goOn_8 rfl ?_
  refine q_getf (c := 11) (n := 0) (k := 6) (v := .int 0) dX11_goOn_9 rfl (by decide) (by decide) fX11_276 rfl ?_
  refine q_aload_n dX11_goOn_12 rfl ?_
  refine q_getf (c := 11) (n := 0) (k := 3) (v := .int 0) dX11_goOn_13 rfl (by decide) (by decide) fX11_219 rfl ?_
  refine q_cz_ge (tgt := 58) (a := 0) (b := 0) dX11_goOn_16 (by decide) rfl rfl (fun _ => ?_) (fun h => absurd h (by decide))
  refine q_aload_n dX11_goOn_58 rfl ?_
  refine q_aload_n dX11_goOn_59 rfl ?_
  refine q_getf (c := 11) (n := 0) (k := 6) (v := .int 0) dX11_goOn_60 rfl (by decide) (by decide) fX11_276 rfl ?_
  show q_K _ (q_sM uMI3 zJ1) _ _ _ _ _ _
  refine q_V1 (ci := 11) (n := 0) dX11_goOn_63 DX11_sign lX11_279 rfl (by decide) rfl rfl rfl rfl uM_X11_sign_3 ?_
  rintro _ _ ⟨rfl, rfl⟩
  refine q_istore_n dX11_goOn_66 (Nat.le_of_ble_eq_true rfl) ?_
  refine q_aload_n dX11_goOn_67 rfl ?_
  refine q_aload_n dX11_goOn_68 rfl ?_
  refine q_getf (c := 11) (n := 0) (k := 6) (v := .int 0) dX11_goOn_69 rfl (by decide) (by decide) fX11_276 rfl ?_
  refine q_ic (v := 1) dX11_goOn_72 rfl ?_
  refine q_iadd dX11_goOn_73 ?_
  refine q_topI (v := 1) rfl ?_
  refine q_putI (c := 11) (n := 0) (k := 7) dX11_goOn_74 rfl (by decide) (by decide) fX11_273 rfl rfl ?_
  show q_K _ (q_sM (q_up uMI3 139 7 1) zJ1) _ _ _ _ _ _
  refine q_aload_n dX11_goOn_77 rfl ?_
  refine q_getf (c := 11) (n := 0) (k := 6) (v := .int 0) dX11_goOn_78 rfl (by decide) (by decide) fX11_276 rfl ?_
  refine q_aload_n dX11_goOn_81 rfl ?_
  refine q_getf (c := 11) (n := 0) (k := 3) (v := .int 0) dX11_goOn_82 rfl (by decide) (by decide) fX11_219 rfl ?_
  refine q_cz_lt (tgt := 112) (a := 0) (b := 0) dX11_goOn_85 (by decide) rfl rfl (fun h => absurd h (by decide)) (fun _ => ?_)
  refine q_aload_n dX11_goOn_88 rfl ?_
  refine q_ic (v := 0) dX11_goOn_89 rfl ?_
  refine q_putI (c := 11) (n := 0) (k := 8) dX11_goOn_90 rfl (by decide) (by decide) fX11_283 rfl rfl ?_
  show q_K _ (q_sM (q_up (q_up uMI3 139 7 1) 139 8 0) zJ1) _ _ _ _ _ _
  refine q_aload_n dX11_goOn_93 rfl ?_
  refine q_aload_n dX11_goOn_94 rfl ?_
  refine q_getf (c := 11) (n := 0) (k := 3) (v := .int 0) dX11_goOn_95 rfl (by decide) (by decide) fX11_219 rfl ?_
  refine q_putI (c := 11) (n := 0) (k := 6) dX11_goOn_98 rfl (by decide) (by decide) fX11_276 rfl rfl ?_
  show q_K _ (q_sM (q_up (q_up (q_up uMI3 139 7 1) 139 8 0) 139 6 0) zJ1) _ _ _ _ _ _
  refine q_aload_n dX11_goOn_101 rfl ?_
  refine q_aload_n dX11_goOn_102 rfl ?_
  refine q_getf (c := 11) (n := 0) (k := 3) (v := .int 0) dX11_goOn_103 rfl (by decide) (by decide) fX11_219 rfl ?_
  refine q_putI (c := 11) (n := 0) (k := 7) dX11_goOn_106 rfl (by decide) (by decide) fX11_273 rfl rfl ?_
  show q_K _ (q_sM (q_up (q_up (q_up (q_up uMI3 139 7 1) 139 8 0) 139 6 0) 139 7 0) zJ1) _ _ _ _ _ _
  refine q_goto (tgt := 376) dX11_goOn_109 (by decide) ?_
  show q_K _ (q_sM uMI4 zJ1) _ _ _ _ _ _
  refine q_ret dX11_goOn_376 rfl ?_
  exact ⟨rfl, rfl⟩
theorem dX11_isGood_0 : decode cX11_isGood 0 = .ok (.aload_n 0, 1) := by decide +kernel
theorem dX11_isGood_1 : decode cX11_isGood 1 = .ok (.getfield 222, 3) := by decide +kernel
theorem dX11_isGood_4 : decode cX11_isGood 4 = .ok (.ifCond .ne 7, 3) := by decide +kernel
theorem dX11_isGood_7 : decode cX11_isGood 7 = .ok (.iconst 1, 1) := by decide +kernel
theorem dX11_isGood_8 : decode cX11_isGood 8 = .ok (.goto 4, 3) := by decide +kernel
theorem dX11_isGood_11 : decode cX11_isGood 11 = .ok (.iconst 0, 1) := by decide +kernel
theorem dX11_isGood_12 : decode cX11_isGood 12 = .ok (.ireturn, 1) := by decide +kernel
set_option maxRecDepth 20000 in
theorem uM_X11_isGood_5 : q_met mX11_isGood (q_sM uMI4 zJ1) [.ref 139] (fun s r => s = q_sM uMI4 zJ1 ∧ r = some (.int 1)) := by
  refine q_enter (by decide) (Nat.le_of_ble_eq_true rfl) ?_
  refine q_aload_n dX11_isGood_0 rfl ?_
  refine q_getf (c := 11) (n := 0) (k := 4) (v := .int 0) dX11_isGood_1 rfl (by decide) (by decide) fX11_222 rfl ?_
  refine q_iz_ne (tgt := 11) (a := 0) dX11_isGood_4 (by decide) rfl (fun h => absurd h (by decide)) (fun _ => ?_)
  refine q_ic (v := 1) dX11_isGood_7 rfl ?_
  refine q_goto (tgt := 12) dX11_isGood_8 (by decide) ?_
  refine q_zret dX11_isGood_12 rfl (Or.inr rfl) ?_
  exact ⟨rfl, rfl⟩
theorem dX11_asksOf_0 : decode cX11_asksOf 0 = .ok (.iconst 0, 1) := by decide +kernel
theorem dX11_asksOf_1 : decode cX11_asksOf 1 = .ok (.istore_n 2, 1) := by decide +kernel
theorem dX11_asksOf_2 : decode cX11_asksOf 2 = .ok (.iconst 0, 1) := by decide +kernel
theorem dX11_asksOf_3 : decode cX11_asksOf 3 = .ok (.istore_n 3, 1) := by decide +kernel
theorem dX11_asksOf_4 : decode cX11_asksOf 4 = .ok (.iload_n 3, 1) := by decide +kernel
theorem dX11_asksOf_5 : decode cX11_asksOf 5 = .ok (.aload_n 0, 1) := by decide +kernel
theorem dX11_asksOf_6 : decode cX11_asksOf 6 = .ok (.getfield 24, 3) := by decide +kernel
theorem dX11_asksOf_9 : decode cX11_asksOf 9 = .ok (.iload_n 1, 1) := by decide +kernel
theorem dX11_asksOf_10 : decode cX11_asksOf 10 = .ok (.iaload, 1) := by decide +kernel
theorem dX11_asksOf_11 : decode cX11_asksOf 11 = .ok (.if_icmp .ge 33, 3) := by decide +kernel
theorem dX11_asksOf_14 : decode cX11_asksOf 14 = .ok (.iload_n 2, 1) := by decide +kernel
theorem dX11_asksOf_15 : decode cX11_asksOf 15 = .ok (.aload_n 0, 1) := by decide +kernel
theorem dX11_asksOf_16 : decode cX11_asksOf 16 = .ok (.getfield 48, 3) := by decide +kernel
theorem dX11_asksOf_19 : decode cX11_asksOf 19 = .ok (.bipush 40, 2) := by decide +kernel
theorem dX11_asksOf_21 : decode cX11_asksOf 21 = .ok (.iload_n 1, 1) := by decide +kernel
theorem dX11_asksOf_22 : decode cX11_asksOf 22 = .ok (.imul, 1) := by decide +kernel
theorem dX11_asksOf_23 : decode cX11_asksOf 23 = .ok (.aload_n 0, 1) := by decide +kernel
theorem dX11_asksOf_24 : decode cX11_asksOf 24 = .ok (.getfield 30, 3) := by decide +kernel
theorem dX11_asksOf_27 : decode cX11_asksOf 27 = .ok (.bipush 8, 2) := by decide +kernel
theorem dX11_asksOf_29 : decode cX11_asksOf 29 = .ok (.iload_n 1, 1) := by decide +kernel
theorem dX11_asksOf_30 : decode cX11_asksOf 30 = .ok (.imul, 1) := by decide +kernel
theorem dX11_asksOf_31 : decode cX11_asksOf 31 = .ok (.iload_n 3, 1) := by decide +kernel
theorem dX11_asksOf_32 : decode cX11_asksOf 32 = .ok (.iadd, 1) := by decide +kernel
theorem dX11_asksOf_33 : decode cX11_asksOf 33 = .ok (.iaload, 1) := by decide +kernel
theorem dX11_asksOf_34 : decode cX11_asksOf 34 = .ok (.iadd, 1) := by decide +kernel
theorem dX11_asksOf_35 : decode cX11_asksOf 35 = .ok (.iaload, 1) := by decide +kernel
theorem dX11_asksOf_36 : decode cX11_asksOf 36 = .ok (.iadd, 1) := by decide +kernel
theorem dX11_asksOf_37 : decode cX11_asksOf 37 = .ok (.istore_n 2, 1) := by decide +kernel
theorem dX11_asksOf_38 : decode cX11_asksOf 38 = .ok (.iinc 3 1, 3) := by decide +kernel
theorem dX11_asksOf_41 : decode cX11_asksOf 41 = .ok (.goto (-37), 3) := by decide +kernel
theorem dX11_asksOf_44 : decode cX11_asksOf 44 = .ok (.iload_n 2, 1) := by decide +kernel
theorem dX11_asksOf_45 : decode cX11_asksOf 45 = .ok (.ireturn, 1) := by decide +kernel
set_option maxRecDepth 20000 in
theorem uM_X11_asksOf_6 : q_met mX11_asksOf (q_sM uMI4 zJ1) [.ref 139, .int 1] (fun s r => s = q_sM uMI4 zJ1 ∧ r = some (.int 0)) := by
  refine q_enter (by decide) (Nat.le_of_ble_eq_true rfl) ?_
  refine q_ic (v := 0) dX11_asksOf_0 rfl ?_
  refine q_istore_n dX11_asksOf_1 (Nat.le_of_ble_eq_true rfl) ?_
  refine q_ic (v := 0) dX11_asksOf_2 rfl ?_
  refine q_istore_n dX11_asksOf_3 (Nat.le_of_ble_eq_true rfl) ?_
  refine q_iload_n dX11_asksOf_4 rfl ?_
  refine q_aload_n dX11_asksOf_5 rfl ?_
  refine q_getR (c := 11) (n := 0) (k := 12) (a := 143) dX11_asksOf_6 rfl (by decide) (by decide) fX11_24 rfl rfl ?_
  refine q_iload_n dX11_asksOf_9 rfl ?_
  refine q_iald (n := 6) (j := 1) dX11_asksOf_10 rfl rfl (by decide) ?_
  refine q_topI (v := 0) rfl ?_
  refine q_cz_ge (tgt := 44) (a := 0) (b := 0) dX11_asksOf_11 (by decide) rfl rfl (fun _ => ?_) (fun h => absurd h (by decide))
  refine q_iload_n dX11_asksOf_44 rfl ?_
  refine q_iret dX11_asksOf_45 rfl ?_
  exact ⟨rfl, rfl⟩
def uMI5 : Nat → Nat → Int32 := q_up (q_up (q_up (q_up uMI4 139 28 1) 203 0 0) 203 1 0) 203 2 0
def uMI6 : Nat → Nat → Int32 := q_up (q_up (q_up (q_up (q_up (q_up uMI5 176 0 1) 176 1 1) 176 2 1) 176 3 1) 176 4 1) 176 5 1
def uMI7 : Nat → Nat → Int32 := q_up (q_up (q_up (q_up (q_up (q_up (q_up (q_up (q_up (q_up (q_up (q_up (q_up (q_up (q_up (q_up (q_up (q_up (q_up (q_up (q_up (q_up (q_up (q_up uMI6 176 6 1) 176 7 1) 176 8 1) 176 9 1) 176 10 1) 176 11 1) 176 12 1) 176 13 1) 176 14 1) 176 15 1) 176 16 1) 176 17 1) 176 18 1) 176 19 1) 176 20 1) 176 21 1) 176 22 1) 176 23 1) 176 24 1) 176 25 1) 176 26 1) 176 27 1) 176 28 1) 176 29 1
def uMI8 : Nat → Nat → Int32 := q_up (q_up (q_up (q_up (q_up (q_up (q_up (q_up (q_up (q_up (q_up (q_up (q_up (q_up uMI7 176 30 1) 176 31 1) 176 32 1) 176 33 1) 176 34 1) 176 35 1) 176 36 1) 176 37 1) 176 38 1) 176 39 1) 139 92 0) 139 49 (-1)) 139 62 0) 139 63 0
set_option maxRecDepth 20000 in
theorem uM_X11_begin_7 : q_met mX11_begin (q_sM uMI5 zJ1) [.ref 139] (fun s r => s = q_sM uMI8 zJ1 ∧ r = none) := by
  refine q_enter (by decide) (Nat.le_of_ble_eq_true rfl) ?_
  refine q_ic (v := 0) dX11_begin_0 rfl ?_
  refine q_istore_n dX11_begin_1 (Nat.le_of_ble_eq_true rfl) ?_
  refine q_iload_n dX11_begin_2 rfl ?_
  refine q_bi (v := 40) dX11_begin_3 rfl ?_
  refine q_cz_ge (tgt := 21) (a := 0) (b := 40) dX11_begin_5 (by decide) rfl rfl (fun h => absurd h (by decide)) (fun _ => ?_)
  refine q_aload_n dX11_begin_8 rfl ?_
  refine q_getR (c := 11) (n := 0) (k := 54) (a := 176) dX11_begin_9 rfl (by decide) (by decide) fX11_128 rfl rfl ?_
  refine q_iload_n dX11_begin_12 rfl ?_
  refine q_ic (v := 1) dX11_begin_13 rfl ?_
  refine q_iast (n := 40) (j := 0) dX11_begin_14 rfl rfl (by decide) ?_
  show q_K _ (q_sM (q_up uMI5 176 0 1) zJ1) _ _ _ _ _ _
  refine q_inc (v := 1) dX11_begin_15 rfl (Nat.le_of_ble_eq_true rfl) rfl ?_
  refine q_goto (tgt := 2) dX11_begin_18 (by decide) ?_
  refine q_iload_n dX11_begin_2 rfl ?_
  refine q_bi (v := 40) dX11_begin_3 rfl ?_
  refine q_cz_ge (tgt := 21) (a := 1) (b := 40) dX11_begin_5 (by decide) rfl rfl (fun h => absurd h (by decide)) (fun _ => ?_)
  refine q_aload_n dX11_begin_8 rfl ?_
  refine q_getR (c := 11) (n := 0) (k := 54) (a := 176) dX11_begin_9 rfl (by decide) (by decide) fX11_128 rfl rfl ?_
  refine q_iload_n dX11_begin_12 rfl ?_
  refine q_ic (v := 1) dX11_begin_13 rfl ?_
  refine q_iast (n := 40) (j := 1) dX11_begin_14 rfl rfl (by decide) ?_
  show q_K _ (q_sM (q_up (q_up uMI5 176 0 1) 176 1 1) zJ1) _ _ _ _ _ _
  refine q_inc (v := 1) dX11_begin_15 rfl (Nat.le_of_ble_eq_true rfl) rfl ?_
  refine q_goto (tgt := 2) dX11_begin_18 (by decide) ?_
  refine q_iload_n dX11_begin_2 rfl ?_
  refine q_bi (v := 40) dX11_begin_3 rfl ?_
  refine q_cz_ge (tgt := 21) (a := 2) (b := 40) dX11_begin_5 (by decide) rfl rfl (fun h => absurd h (by decide)) (fun _ => ?_)
  refine q_aload_n dX11_begin_8 rfl ?_
  refine q_getR (c := 11) (n := 0) (k := 54) (a := 176) dX11_begin_9 rfl (by decide) (by decide) fX11_128 rfl rfl ?_
  refine q_iload_n dX11_begin_12 rfl ?_
  refine q_ic (v := 1) dX11_begin_13 rfl ?_
  refine q_iast (n := 40) (j := 2) dX11_begin_14 rfl rfl (by decide) ?_
  show q_K _ (q_sM (q_up (q_up (q_up uMI5 176 0 1) 176 1 1) 176 2 1) zJ1) _ _ _ _ _ _
  refine q_inc (v := 1) dX11_begin_15 rfl (Nat.le_of_ble_eq_true rfl) rfl ?_
  refine q_goto (tgt := 2) dX11_begin_18 (by decide) ?_
  refine q_iload_n dX11_begin_2 rfl ?_
  refine q_bi (v := 40) dX11_begin_3 rfl ?_
  refine q_cz_ge (tgt := 21) (a := 3) (b := 40) dX11_begin_5 (by decide) rfl rfl (fun h => absurd h (by decide)) (fun _ => ?_)
  refine q_aload_n dX11_begin_8 rfl ?_
  refine q_getR (c := 11) (n := 0) (k := 54) (a := 176) dX11_begin_9 rfl (by decide) (by decide) fX11_128 rfl rfl ?_
  refine q_iload_n dX11_begin_12 rfl ?_
  refine q_ic (v := 1) dX11_begin_13 rfl ?_
  refine q_iast (n := 40) (j := 3) dX11_begin_14 rfl rfl (by decide) ?_
  show q_K _ (q_sM (q_up (q_up (q_up (q_up uMI5 176 0 1) 176 1 1) 176 2 1) 176 3 1) zJ1) _ _ _ _ _ _
  refine q_inc (v := 1) dX11_begin_15 rfl (Nat.le_of_ble_eq_true rfl) rfl ?_
  refine q_goto (tgt := 2) dX11_begin_18 (by decide) ?_
  refine q_iload_n dX11_begin_2 rfl ?_
  refine q_bi (v := 40) dX11_begin_3 rfl ?_
  refine q_cz_ge (tgt := 21) (a := 4) (b := 40) dX11_begin_5 (by decide) rfl rfl (fun h => absurd h (by decide)) (fun _ => ?_)
  refine q_aload_n dX11_begin_8 rfl ?_
  refine q_getR (c := 11) (n := 0) (k := 54) (a := 176) dX11_begin_9 rfl (by decide) (by decide) fX11_128 rfl rfl ?_
  refine q_iload_n dX11_begin_12 rfl ?_
  refine q_ic (v := 1) dX11_begin_13 rfl ?_
  refine q_iast (n := 40) (j := 4) dX11_begin_14 rfl rfl (by decide) ?_
  show q_K _ (q_sM (q_up (q_up (q_up (q_up (q_up uMI5 176 0 1) 176 1 1) 176 2 1) 176 3 1) 176 4 1) zJ1) _ _ _ _ _ _
  refine q_inc (v := 1) dX11_begin_15 rfl (Nat.le_of_ble_eq_true rfl) rfl ?_
  refine q_goto (tgt := 2) dX11_begin_18 (by decide) ?_
  refine q_iload_n dX11_begin_2 rfl ?_
  refine q_bi (v := 40) dX11_begin_3 rfl ?_
  refine q_cz_ge (tgt := 21) (a := 5) (b := 40) dX11_begin_5 (by decide) rfl rfl (fun h => absurd h (by decide)) (fun _ => ?_)
  refine q_aload_n dX11_begin_8 rfl ?_
  refine q_getR (c := 11) (n := 0) (k := 54) (a := 176) dX11_begin_9 rfl (by decide) (by decide) fX11_128 rfl rfl ?_
  refine q_iload_n dX11_begin_12 rfl ?_
  refine q_ic (v := 1) dX11_begin_13 rfl ?_
  refine q_iast (n := 40) (j := 5) dX11_begin_14 rfl rfl (by decide) ?_
  show q_K _ (q_sM uMI6 zJ1) _ _ _ _ _ _
  refine q_inc (v := 1) dX11_begin_15 rfl (Nat.le_of_ble_eq_true rfl) rfl ?_
  refine q_goto (tgt := 2) dX11_begin_18 (by decide) ?_
  refine q_iload_n dX11_begin_2 rfl ?_
  refine q_bi (v := 40) dX11_begin_3 rfl ?_
  refine q_cz_ge (tgt := 21) (a := 6) (b := 40) dX11_begin_5 (by decide) rfl rfl (fun h => absurd h (by decide)) (fun _ => ?_)
  refine q_aload_n dX11_begin_8 rfl ?_
  refine q_getR (c := 11) (n := 0) (k := 54) (a := 176) dX11_begin_9 rfl (by decide) (by decide) fX11_128 rfl rfl ?_
  refine q_iload_n dX11_begin_12 rfl ?_
  refine q_ic (v := 1) dX11_begin_13 rfl ?_
  refine q_iast (n := 40) (j := 6) dX11_begin_14 rfl rfl (by decide) ?_
  show q_K _ (q_sM (q_up uMI6 176 6 1) zJ1) _ _ _ _ _ _
  refine q_inc (v := 1) dX11_begin_15 rfl (Nat.le_of_ble_eq_true rfl) rfl ?_
  refine q_goto (tgt := 2) dX11_begin_18 (by decide) ?_
  refine q_iload_n dX11_begin_2 rfl ?_
  refine q_bi (v := 40) dX11_begin_3 rfl ?_
  refine q_cz_ge (tgt := 21) (a := 7) (b := 40) dX11_begin_5 (by decide) rfl rfl (fun h => absurd h (by decide)) (fun _ => ?_)
  refine q_aload_n dX11_begin_8 rfl ?_
  refine q_getR (c := 11) (n := 0) (k := 54) (a := 176) dX11_begin_9 rfl (by decide) (by decide) fX11_128 rfl rfl ?_
  refine q_iload_n dX11_begin_12 rfl ?_
  refine q_ic (v := 1) dX11_begin_13 rfl ?_
  refine q_iast (n := 40) (j := 7) dX11_begin_14 rfl rfl (by decide) ?_
  show q_K _ (q_sM (q_up (q_up uMI6 176 6 1) 176 7 1) zJ1) _ _ _ _ _ _
  refine q_inc (v := 1) dX11_begin_15 rfl (Nat.le_of_ble_eq_true rfl) rfl ?_
  refine q_goto (tgt := 2) dX11_begin_18 (by decide) ?_
  refine q_iload_n dX11_begin_2 rfl ?_
  refine q_bi (v := 40) dX11_begin_3 rfl ?_
  refine q_cz_ge (tgt := 21) (a := 8) (b := 40) dX11_begin_5 (by decide) rfl rfl (fun h => absurd h (by decide)) (fun _ => ?_)
  refine q_aload_n dX11_begin_8 rfl ?_
  refine q_getR (c := 11) (n := 0) (k := 54) (a := 176) dX11_begin_9 rfl (by decide) (by decide) fX11_128 rfl rfl ?_
  refine q_iload_n dX11_begin_12 rfl ?_
  refine q_ic (v := 1) dX11_begin_13 rfl ?_
  refine q_iast (n := 40) (j := 8) dX11_begin_14 rfl rfl (by decide) ?_
  show q_K _ (q_sM (q_up (q_up (q_up uMI6 176 6 1) 176 7 1) 176 8 1) zJ1) _ _ _ _ _ _
  refine q_inc (v := 1) dX11_begin_15 rfl (Nat.le_of_ble_eq_true rfl) rfl ?_
  refine q_goto (tgt := 2) dX11_begin_18 (by decide) ?_
  refine q_iload_n dX11_begin_2 rfl ?_
  refine q_bi (v := 40) dX11_begin_3 rfl ?_
  refine q_cz_ge (tgt := 21) (a := 9) (b := 40) dX11_begin_5 (by decide) rfl rfl (fun h => absurd h (by decide)) (fun _ => ?_)
  refine q_aload_n dX11_begin_8 rfl ?_
  refine q_getR (c := 11) (n := 0) (k := 54) (a := 176) dX11_begin_9 rfl (by decide) (by decide) fX11_128 rfl rfl ?_
  refine q_iload_n dX11_begin_12 rfl ?_
  refine q_ic (v := 1) dX11_begin_13 rfl ?_
  refine q_iast (n := 40) (j := 9) dX11_begin_14 rfl rfl (by decide) ?_
  show q_K _ (q_sM (q_up (q_up (q_up (q_up uMI6 176 6 1) 176 7 1) 176 8 1) 176 9 1) zJ1) _ _ _ _ _ _
  refine q_inc (v := 1) dX11_begin_15 rfl (Nat.le_of_ble_eq_true rfl) rfl ?_
  refine q_goto (tgt := 2) dX11_begin_18 (by decide) ?_
  refine q_iload_n dX11_begin_2 rfl ?_
  refine q_bi (v := 40) dX11_begin_3 rfl ?_
  refine q_cz_ge (tgt := 21) (a := 10) (b := 40) dX11_begin_5 (by decide) rfl rfl (fun h => absurd h (by decide)) (fun _ => ?_)
  refine q_aload_n dX11_begin_8 rfl ?_
  refine q_getR (c := 11) (n := 0) (k := 54) (a := 176) dX11_begin_9 rfl (by decide) (by decide) fX11_128 rfl rfl ?_
  refine q_iload_n dX11_begin_12 rfl ?_
  refine q_ic (v := 1) dX11_begin_13 rfl ?_
  refine q_iast (n := 40) (j := 10) dX11_begin_14 rfl rfl (by decide) ?_
  show q_K _ (q_sM (q_up (q_up (q_up (q_up (q_up uMI6 176 6 1) 176 7 1) 176 8 1) 176 9 1) 176 10 1) zJ1) _ _ _ _ _ _
  refine q_inc (v := 1) dX11_begin_15 rfl (Nat.le_of_ble_eq_true rfl) rfl ?_
  refine q_goto (tgt := 2) dX11_begin_18 (by decide) ?_
  refine q_iload_n dX11_begin_2 rfl ?_
  refine q_bi (v := 40) dX11_begin_3 rfl ?_
  refine q_cz_ge (tgt := 21) (a := 11) (b := 40) dX11_begin_5 (by decide) rfl rfl (fun h => absurd h (by decide)) (fun _ => ?_)
  refine q_aload_n dX11_begin_8 rfl ?_
  refine q_getR (c := 11) (n := 0) (k := 54) (a := 176) dX11_begin_9 rfl (by decide) (by decide) fX11_128 rfl rfl ?_
  refine q_iload_n dX11_begin_12 rfl ?_
  refine q_ic (v := 1) dX11_begin_13 rfl ?_
  refine q_iast (n := 40) (j := 11) dX11_begin_14 rfl rfl (by decide) ?_
  show q_K _ (q_sM (q_up (q_up (q_up (q_up (q_up (q_up uMI6 176 6 1) 176 7 1) 176 8 1) 176 9 1) 176 10 1) 176 11 1) zJ1) _ _ _ _ _ _
  refine q_inc (v := 1) dX11_begin_15 rfl (Nat.le_of_ble_eq_true rfl) rfl ?_
  refine q_goto (tgt := 2) dX11_begin_18 (by decide) ?_
  refine q_iload_n dX11_begin_2 rfl ?_
  refine q_bi (v := 40) dX11_begin_3 rfl ?_
  refine q_cz_ge (tgt := 21) (a := 12) (b := 40) dX11_begin_5 (by decide) rfl rfl (fun h => absurd h (by decide)) (fun _ => ?_)
  refine q_aload_n dX11_begin_8 rfl ?_
  refine q_getR (c := 11) (n := 0) (k := 54) (a := 176) dX11_begin_9 rfl (by decide) (by decide) fX11_128 rfl rfl ?_
  refine q_iload_n dX11_begin_12 rfl ?_
  refine q_ic (v := 1) dX11_begin_13 rfl ?_
  refine q_iast (n := 40) (j := 12) dX11_begin_14 rfl rfl (by decide) ?_
  show q_K _ (q_sM (q_up (q_up (q_up (q_up (q_up (q_up (q_up uMI6 176 6 1) 176 7 1) 176 8 1) 176 9 1) 176 10 1) 176 11 1) 176 12 1) zJ1) _ _ _ _ _ _
  refine q_inc (v := 1) dX11_begin_15 rfl (Nat.le_of_ble_eq_true rfl) rfl ?_
  refine q_goto (tgt := 2) dX11_begin_18 (by decide) ?_
  refine q_iload_n dX11_begin_2 rfl ?_
  refine q_bi (v := 40) dX11_begin_3 rfl ?_
  refine q_cz_ge (tgt := 21) (a := 13) (b := 40) dX11_begin_5 (by decide) rfl rfl (fun h => absurd h (by decide)) (fun _ => ?_)
  refine q_aload_n dX11_begin_8 rfl ?_
  refine q_getR (c := 11) (n := 0) (k := 54) (a := 176) dX11_begin_9 rfl (by decide) (by decide) fX11_128 rfl rfl ?_
  refine q_iload_n dX11_begin_12 rfl ?_
  refine q_ic (v := 1) dX11_begin_13 rfl ?_
  refine q_iast (n := 40) (j := 13) dX11_begin_14 rfl rfl (by decide) ?_
  show q_K _ (q_sM (q_up (q_up (q_up (q_up (q_up (q_up (q_up (q_up uMI6 176 6 1) 176 7 1) 176 8 1) 176 9 1) 176 10 1) 176 11 1) 176 12 1) 176 13 1) zJ1) _ _ _ _ _ _
  refine q_inc (v := 1) dX11_begin_15 rfl (Nat.le_of_ble_eq_true rfl) rfl ?_
  refine q_goto (tgt := 2) dX11_begin_18 (by decide) ?_
  refine q_iload_n dX11_begin_2 rfl ?_
  refine q_bi (v := 40) dX11_begin_3 rfl ?_
  refine q_cz_ge (tgt := 21) (a := 14) (b := 40) dX11_begin_5 (by decide) rfl rfl (fun h => absurd h (by decide)) (fun _ => ?_)
  refine q_aload_n dX11_begin_8 rfl ?_
  refine q_getR (c := 11) (n := 0) (k := 54) (a := 176) dX11_begin_9 rfl (by decide) (by decide) fX11_128 rfl rfl ?_
  refine q_iload_n dX11_begin_12 rfl ?_
  refine q_ic (v := 1) dX11_begin_13 rfl ?_
  refine q_iast (n := 40) (j := 14) dX11_begin_14 rfl rfl (by decide) ?_
  show q_K _ (q_sM (q_up (q_up (q_up (q_up (q_up (q_up (q_up (q_up (q_up uMI6 176 6 1) 176 7 1) 176 8 1) 176 9 1) 176 10 1) 176 11 1) 176 12 1) 176 13 1) 176 14 1) zJ1) _ _ _ _ _ _
  refine q_inc (v := 1) dX11_begin_15 rfl (Nat.le_of_ble_eq_true rfl) rfl ?_
  refine q_goto (tgt := 2) dX11_begin_18 (by decide) ?_
  refine q_iload_n dX11_begin_2 rfl ?_
  refine q_bi (v := 40) dX11_begin_3 rfl ?_
  refine q_cz_ge (tgt := 21) (a := 15) (b := 40) dX11_begin_5 (by decide) rfl rfl (fun h => absurd h (by decide)) (fun _ => ?_)
  refine q_aload_n dX11_begin_8 rfl ?_
  refine q_getR (c := 11) (n := 0) (k := 54) (a := 176) dX11_begin_9 rfl (by decide) (by decide) fX11_128 rfl rfl ?_
  refine q_iload_n dX11_begin_12 rfl ?_
  refine q_ic (v := 1) dX11_begin_13 rfl ?_
  refine q_iast (n := 40) (j := 15) dX11_begin_14 rfl rfl (by decide) ?_
  show q_K _ (q_sM (q_up (q_up (q_up (q_up (q_up (q_up (q_up (q_up (q_up (q_up uMI6 176 6 1) 176 7 1) 176 8 1) 176 9 1) 176 10 1) 176 11 1) 176 12 1) 176 13 1) 176 14 1) 176 15 1) zJ1) _ _ _ _ _ _
  refine q_inc (v := 1) dX11_begin_15 rfl (Nat.le_of_ble_eq_true rfl) rfl ?_
  refine q_goto (tgt := 2) dX11_begin_18 (by decide) ?_
  refine q_iload_n dX11_begin_2 rfl ?_
  refine q_bi (v := 40) dX11_begin_3 rfl ?_
  refine q_cz_ge (tgt := 21) (a := 16) (b := 40) dX11_begin_5 (by decide) rfl rfl (fun h => absurd h (by decide)) (fun _ => ?_)
  refine q_aload_n dX11_begin_8 rfl ?_
  refine q_getR (c := 11) (n := 0) (k := 54) (a := 176) dX11_begin_9 rfl (by decide) (by decide) fX11_128 rfl rfl ?_
  refine q_iload_n dX11_begin_12 rfl ?_
  refine q_ic (v := 1) dX11_begin_13 rfl ?_
  refine q_iast (n := 40) (j := 16) dX11_begin_14 rfl rfl (by decide) ?_
  show q_K _ (q_sM (q_up (q_up (q_up (q_up (q_up (q_up (q_up (q_up (q_up (q_up (q_up uMI6 176 6 1) 176 7 1) 176 8 1) 176 9 1) 176 10 1) 176 11 1) 176 12 1) 176 13 1) 176 14 1) 176 15 1) 176 16 1) zJ1) _ _ _ _ _ _
  refine q_inc (v := 1) dX11_begin_15 rfl (Nat.le_of_ble_eq_true rfl) rfl ?_
  refine q_goto (tgt := 2) dX11_begin_18 (by decide) ?_
  refine q_iload_n dX11_begin_2 rfl ?_
  refine q_bi (v := 40) dX11_begin_3 rfl ?_
  refine q_cz_ge (tgt := 21) (a := 17) (b := 40) dX11_begin_5 (by decide) rfl rfl (fun h => absurd h (by decide)) (fun _ => ?_)
  refine q_aload_n dX11_begin_8 rfl ?_
  refine q_getR (c := 11) (n := 0) (k := 54) (a := 176) dX11_begin_9 rfl (by decide) (by decide) fX11_128 rfl rfl ?_
  refine q_iload_n dX11_begin_12 rfl ?_
  refine q_ic (v := 1) dX11_begin_13 rfl ?_
  refine q_iast (n := 40) (j := 17) dX11_begin_14 rfl rfl (by decide) ?_
  show q_K _ (q_sM (q_up (q_up (q_up (q_up (q_up (q_up (q_up (q_up (q_up (q_up (q_up (q_up uMI6 176 6 1) 176 7 1) 176 8 1) 176 9 1) 176 10 1) 176 11 1) 176 12 1) 176 13 1) 176 14 1) 176 15 1) 176 16 1) 176 17 1) zJ1) _ _ _ _ _ _
  refine q_inc (v := 1) dX11_begin_15 rfl (Nat.le_of_ble_eq_true rfl) rfl ?_
  refine q_goto (tgt := 2) dX11_begin_18 (by decide) ?_
  refine q_iload_n dX11_begin_2 rfl ?_
  refine q_bi (v := 40) dX11_begin_3 rfl ?_
  refine q_cz_ge (tgt := 21) (a := 18) (b := 40) dX11_begin_5 (by decide) rfl rfl (fun h => absurd h (by decide)) (fun _ => ?_)
  refine q_aload_n dX11_begin_8 rfl ?_
  refine q_getR (c := 11) (n := 0) (k := 54) (a := 176) dX11_begin_9 rfl (by decide) (by decide) fX11_128 rfl rfl ?_
  refine q_iload_n dX11_begin_12 rfl ?_
  refine q_ic (v := 1) dX11_begin_13 rfl ?_
  refine q_iast (n := 40) (j := 18) dX11_begin_14 rfl rfl (by decide) ?_
  show q_K _ (q_sM (q_up (q_up (q_up (q_up (q_up (q_up (q_up (q_up (q_up (q_up (q_up (q_up (q_up uMI6 176 6 1) 176 7 1) 176 8 1) 176 9 1) 176 10 1) 176 11 1) 176 12 1) 176 13 1) 176 14 1) 176 15 1) 176 16 1) 176 17 1) 176 18 1) zJ1) _ _ _ _ _ _
  refine q_inc (v := 1) dX11_begin_15 rfl (Nat.le_of_ble_eq_true rfl) rfl ?_
  refine q_goto (tgt := 2) dX11_begin_18 (by decide) ?_
  refine q_iload_n dX11_begin_2 rfl ?_
  refine q_bi (v := 40) dX11_begin_3 rfl ?_
  refine q_cz_ge (tgt := 21) (a := 19) (b := 40) dX11_begin_5 (by decide) rfl rfl (fun h => absurd h (by decide)) (fun _ => ?_)
  refine q_aload_n dX11_begin_8 rfl ?_
  refine q_getR (c := 11) (n := 0) (k := 54) (a := 176) dX11_begin_9 rfl (by decide) (by decide) fX11_128 rfl rfl ?_
  refine q_iload_n dX11_begin_12 rfl ?_
  refine q_ic (v := 1) dX11_begin_13 rfl ?_
  refine q_iast (n := 40) (j := 19) dX11_begin_14 rfl rfl (by decide) ?_
  show q_K _ (q_sM (q_up (q_up (q_up (q_up (q_up (q_up (q_up (q_up (q_up (q_up (q_up (q_up (q_up (q_up uMI6 176 6 1) 176 7 1) 176 8 1) 176 9 1) 176 10 1) 176 11 1) 176 12 1) 176 13 1) 176 14 1) 176 15 1) 176 16 1) 176 17 1) 176 18 1) 176 19 1) zJ1) _ _ _ _ _ _
  refine q_inc (v := 1) dX11_begin_15 rfl (Nat.le_of_ble_eq_true rfl) rfl ?_
  refine q_goto (tgt := 2) dX11_begin_18 (by decide) ?_
  refine q_iload_n dX11_begin_2 rfl ?_
  refine q_bi (v := 40) dX11_begin_3 rfl ?_
  refine q_cz_ge (tgt := 21) (a := 20) (b := 40) dX11_begin_5 (by decide) rfl rfl (fun h => absurd h (by decide)) (fun _ => ?_)
  refine q_aload_n dX11_begin_8 rfl ?_
  refine q_getR (c := 11) (n := 0) (k := 54) (a := 176) dX11_begin_9 rfl (by decide) (by decide) fX11_128 rfl rfl ?_
  refine q_iload_n dX11_begin_12 rfl ?_
  refine q_ic (v := 1) dX11_begin_13 rfl ?_
  refine q_iast (n := 40) (j := 20) dX11_begin_14 rfl rfl (by decide) ?_
  show q_K _ (q_sM (q_up (q_up (q_up (q_up (q_up (q_up (q_up (q_up (q_up (q_up (q_up (q_up (q_up (q_up (q_up uMI6 176 6 1) 176 7 1) 176 8 1) 176 9 1) 176 10 1) 176 11 1) 176 12 1) 176 13 1) 176 14 1) 176 15 1) 176 16 1) 176 17 1) 176 18 1) 176 19 1) 176 20 1) zJ1) _ _ _ _ _ _
  refine q_inc (v := 1) dX11_begin_15 rfl (Nat.le_of_ble_eq_true rfl) rfl ?_
  refine q_goto (tgt := 2) dX11_begin_18 (by decide) ?_
  refine q_iload_n dX11_begin_2 rfl ?_
  refine q_bi (v := 40) dX11_begin_3 rfl ?_
  refine q_cz_ge (tgt := 21) (a := 21) (b := 40) dX11_begin_5 (by decide) rfl rfl (fun h => absurd h (by decide)) (fun _ => ?_)
  refine q_aload_n dX11_begin_8 rfl ?_
  refine q_getR (c := 11) (n := 0) (k := 54) (a := 176) dX11_begin_9 rfl (by decide) (by decide) fX11_128 rfl rfl ?_
  refine q_iload_n dX11_begin_12 rfl ?_
  refine q_ic (v := 1) dX11_begin_13 rfl ?_
  refine q_iast (n := 40) (j := 21) dX11_begin_14 rfl rfl (by decide) ?_
  show q_K _ (q_sM (q_up (q_up (q_up (q_up (q_up (q_up (q_up (q_up (q_up (q_up (q_up (q_up (q_up (q_up (q_up (q_up uMI6 176 6 1) 176 7 1) 176 8 1) 176 9 1) 176 10 1) 176 11 1) 176 12 1) 176 13 1) 176 14 1) 176 15 1) 176 16 1) 176 17 1) 176 18 1) 176 19 1) 176 20 1) 176 21 1) zJ1) _ _ _ _ _ _
  refine q_inc (v := 1) dX11_begin_15 rfl (Nat.le_of_ble_eq_true rfl) rfl ?_
  refine q_goto (tgt := 2) dX11_begin_18 (by decide) ?_
  refine q_iload_n dX11_begin_2 rfl ?_
  refine q_bi (v := 40) dX11_begin_3 rfl ?_
  refine q_cz_ge (tgt := 21) (a := 22) (b := 40) dX11_begin_5 (by decide) rfl rfl (fun h => absurd h (by decide)) (fun _ => ?_)
  refine q_aload_n dX11_begin_8 rfl ?_
  refine q_getR (c := 11) (n := 0) (k := 54) (a := 176) dX11_begin_9 rfl (by decide) (by decide) fX11_128 rfl rfl ?_
  refine q_iload_n dX11_begin_12 rfl ?_
  refine q_ic (v := 1) dX11_begin_13 rfl ?_
  refine q_iast (n := 40) (j := 22) dX11_begin_14 rfl rfl (by decide) ?_
  show q_K _ (q_sM (q_up (q_up (q_up (q_up (q_up (q_up (q_up (q_up (q_up (q_up (q_up (q_up (q_up (q_up (q_up (q_up (q_up uMI6 176 6 1) 176 7 1) 176 8 1) 176 9 1) 176 10 1) 176 11 1) 176 12 1) 176 13 1) 176 14 1) 176 15 1) 176 16 1) 176 17 1) 176 18 1) 176 19 1) 176 20 1) 176 21 1) 176 22 1) zJ1) _ _ _ _ _ _
  refine q_inc (v := 1) dX11_begin_15 rfl (Nat.le_of_ble_eq_true rfl) rfl ?_
  refine q_goto (tgt := 2) dX11_begin_18 (by decide) ?_
  refine q_iload_n dX11_begin_2 rfl ?_
  refine q_bi (v := 40) dX11_begin_3 rfl ?_
  refine q_cz_ge (tgt := 21) (a := 23) (b := 40) dX11_begin_5 (by decide) rfl rfl (fun h => absurd h (by decide)) (fun _ => ?_)
  refine q_aload_n dX11_begin_8 rfl ?_
  refine q_getR (c := 11) (n := 0) (k := 54) (a := 176) dX11_begin_9 rfl (by decide) (by decide) fX11_128 rfl rfl ?_
  refine q_iload_n dX11_begin_12 rfl ?_
  refine q_ic (v := 1) dX11_begin_13 rfl ?_
  refine q_iast (n := 40) (j := 23) dX11_begin_14 rfl rfl (by decide) ?_
  show q_K _ (q_sM (q_up (q_up (q_up (q_up (q_up (q_up (q_up (q_up (q_up (q_up (q_up (q_up (q_up (q_up (q_up (q_up (q_up (q_up uMI6 176 6 1) 176 7 1) 176 8 1) 176 9 1) 176 10 1) 176 11 1) 176 12 1) 176 13 1) 176 14 1) 176 15 1) 176 16 1) 176 17 1) 176 18 1) 176 19 1) 176 20 1) 176 21 1) 176 22 1) 176 23 1) zJ1) _ _ _ _ _ _
  refine q_inc (v := 1) dX11_begin_15 rfl (Nat.le_of_ble_eq_true rfl) rfl ?_
  refine q_goto (tgt := 2) dX11_begin_18 (by decide) ?_
  refine q_iload_n dX11_begin_2 rfl ?_
  refine q_bi (v := 40) dX11_begin_3 rfl ?_
  refine q_cz_ge (tgt := 21) (a := 24) (b := 40) dX11_begin_5 (by decide) rfl rfl (fun h => absurd h (by decide)) (fun _ => ?_)
  refine q_aload_n dX11_begin_8 rfl ?_
  refine q_getR (c := 11) (n := 0) (k := 54) (a := 176) dX11_begin_9 rfl (by decide) (by decide) fX11_128 rfl rfl ?_
  refine q_iload_n dX11_begin_12 rfl ?_
  refine q_ic (v := 1) dX11_begin_13 rfl ?_
  refine q_iast (n := 40) (j := 24) dX11_begin_14 rfl rfl (by decide) ?_
  show q_K _ (q_sM (q_up (q_up (q_up (q_up (q_up (q_up (q_up (q_up (q_up (q_up (q_up (q_up (q_up (q_up (q_up (q_up (q_up (q_up (q_up uMI6 176 6 1) 176 7 1) 176 8 1) 176 9 1) 176 10 1) 176 11 1) 176 12 1) 176 13 1) 176 14 1) 176 15 1) 176 16 1) 176 17 1) 176 18 1) 176 19 1) 176 20 1) 176 21 1) 176 22 1) 176 23 1) 176 24 1) zJ1) _ _ _ _ _ _
  refine q_inc (v := 1) dX11_begin_15 rfl (Nat.le_of_ble_eq_true rfl) rfl ?_
  refine q_goto (tgt := 2) dX11_begin_18 (by decide) ?_
  refine q_iload_n dX11_begin_2 rfl ?_
  refine q_bi (v := 40) dX11_begin_3 rfl ?_
  refine q_cz_ge (tgt := 21) (a := 25) (b := 40) dX11_begin_5 (by decide) rfl rfl (fun h => absurd h (by decide)) (fun _ => ?_)
  refine q_aload_n dX11_begin_8 rfl ?_
  refine q_getR (c := 11) (n := 0) (k := 54) (a := 176) dX11_begin_9 rfl (by decide) (by decide) fX11_128 rfl rfl ?_
  refine q_iload_n dX11_begin_12 rfl ?_
  refine q_ic (v := 1) dX11_begin_13 rfl ?_
  refine q_iast (n := 40) (j := 25) dX11_begin_14 rfl rfl (by decide) ?_
  show q_K _ (q_sM (q_up (q_up (q_up (q_up (q_up (q_up (q_up (q_up (q_up (q_up (q_up (q_up (q_up (q_up (q_up (q_up (q_up (q_up (q_up (q_up uMI6 176 6 1) 176 7 1) 176 8 1) 176 9 1) 176 10 1) 176 11 1) 176 12 1) 176 13 1) 176 14 1) 176 15 1) 176 16 1) 176 17 1) 176 18 1) 176 19 1) 176 20 1) 176 21 1) 176 22 1) 176 23 1) 176 24 1) 176 25 1) zJ1) _ _ _ _ _ _
  refine q_inc (v := 1) dX11_begin_15 rfl (Nat.le_of_ble_eq_true rfl) rfl ?_
  refine q_goto (tgt := 2) dX11_begin_18 (by decide) ?_
  refine q_iload_n dX11_begin_2 rfl ?_
  refine q_bi (v := 40) dX11_begin_3 rfl ?_
  refine q_cz_ge (tgt := 21) (a := 26) (b := 40) dX11_begin_5 (by decide) rfl rfl (fun h => absurd h (by decide)) (fun _ => ?_)
  refine q_aload_n dX11_begin_8 rfl ?_
  refine q_getR (c := 11) (n := 0) (k := 54) (a := 176) dX11_begin_9 rfl (by decide) (by decide) fX11_128 rfl rfl ?_
  refine q_iload_n dX11_begin_12 rfl ?_
  refine q_ic (v := 1) dX11_begin_13 rfl ?_
  refine q_iast (n := 40) (j := 26) dX11_begin_14 rfl rfl (by decide) ?_
  show q_K _ (q_sM (q_up (q_up (q_up (q_up (q_up (q_up (q_up (q_up (q_up (q_up (q_up (q_up (q_up (q_up (q_up (q_up (q_up (q_up (q_up (q_up (q_up uMI6 176 6 1) 176 7 1) 176 8 1) 176 9 1) 176 10 1) 176 11 1) 176 12 1) 176 13 1) 176 14 1) 176 15 1) 176 16 1) 176 17 1) 176 18 1) 176 19 1) 176 20 1) 176 21 1) 176 22 1) 176 23 1) 176 24 1) 176 25 1) 176 26 1) zJ1) _ _ _ _ _ _
  refine q_inc (v := 1) dX11_begin_15 rfl (Nat.le_of_ble_eq_true rfl) rfl ?_
  refine q_goto (tgt := 2) dX11_begin_18 (by decide) ?_
  refine q_iload_n dX11_begin_2 rfl ?_
  refine q_bi (v := 40) dX11_begin_3 rfl ?_
  refine q_cz_ge (tgt := 21) (a := 27) (b := 40) dX11_begin_5 (by decide) rfl rfl (fun h => absurd h (by decide)) (fun _ => ?_)
  refine q_aload_n dX11_begin_8 rfl ?_
  refine q_getR (c := 11) (n := 0) (k := 54) (a := 176) dX11_begin_9 rfl (by decide) (by decide) fX11_128 rfl rfl ?_
  refine q_iload_n dX11_begin_12 rfl ?_
  refine q_ic (v := 1) dX11_begin_13 rfl ?_
  refine q_iast (n := 40) (j := 27) dX11_begin_14 rfl rfl (by decide) ?_
  show q_K _ (q_sM (q_up (q_up (q_up (q_up (q_up (q_up (q_up (q_up (q_up (q_up (q_up (q_up (q_up (q_up (q_up (q_up (q_up (q_up (q_up (q_up (q_up (q_up uMI6 176 6 1) 176 7 1) 176 8 1) 176 9 1) 176 10 1) 176 11 1) 176 12 1) 176 13 1) 176 14 1) 176 15 1) 176 16 1) 176 17 1) 176 18 1) 176 19 1) 176 20 1) 176 21 1) 176 22 1) 176 23 1) 176 24 1) 176 25 1) 176 26 1) 176 27 1) zJ1) _ _ _ _ _ _
  refine q_inc (v := 1) dX11_begin_15 rfl (Nat.le_of_ble_eq_true rfl) rfl ?_
  refine q_goto (tgt := 2) dX11_begin_18 (by decide) ?_
  refine q_iload_n dX11_begin_2 rfl ?_
  refine q_bi (v := 40) dX11_begin_3 rfl ?_
  refine q_cz_ge (tgt := 21) (a := 28) (b := 40) dX11_begin_5 (by decide) rfl rfl (fun h => absurd h (by decide)) (fun _ => ?_)
  refine q_aload_n dX11_begin_8 rfl ?_
  refine q_getR (c := 11) (n := 0) (k := 54) (a := 176) dX11_begin_9 rfl (by decide) (by decide) fX11_128 rfl rfl ?_
  refine q_iload_n dX11_begin_12 rfl ?_
  refine q_ic (v := 1) dX11_begin_13 rfl ?_
  refine q_iast (n := 40) (j := 28) dX11_begin_14 rfl rfl (by decide) ?_
  show q_K _ (q_sM (q_up (q_up (q_up (q_up (q_up (q_up (q_up (q_up (q_up (q_up (q_up (q_up (q_up (q_up (q_up (q_up (q_up (q_up (q_up (q_up (q_up (q_up (q_up uMI6 176 6 1) 176 7 1) 176 8 1) 176 9 1) 176 10 1) 176 11 1) 176 12 1) 176 13 1) 176 14 1) 176 15 1) 176 16 1) 176 17 1) 176 18 1) 176 19 1) 176 20 1) 176 21 1) 176 22 1) 176 23 1) 176 24 1) 176 25 1) 176 26 1) 176 27 1) 176 28 1) zJ1) _ _ _ _ _ _
  refine q_inc (v := 1) dX11_begin_15 rfl (Nat.le_of_ble_eq_true rfl) rfl ?_
  refine q_goto (tgt := 2) dX11_begin_18 (by decide) ?_
  refine q_iload_n dX11_begin_2 rfl ?_
  refine q_bi (v := 40) dX11_begin_3 rfl ?_
  refine q_cz_ge (tgt := 21) (a := 29) (b := 40) dX11_begin_5 (by decide) rfl rfl (fun h => absurd h (by decide)) (fun _ => ?_)
  refine q_aload_n dX11_begin_8 rfl ?_
  refine q_getR (c := 11) (n := 0) (k := 54) (a := 176) dX11_begin_9 rfl (by decide) (by decide) fX11_128 rfl rfl ?_
  refine q_iload_n dX11_begin_12 rfl ?_
  refine q_ic (v := 1) dX11_begin_13 rfl ?_
  refine q_iast (n := 40) (j := 29) dX11_begin_14 rfl rfl (by decide) ?_
  show q_K _ (q_sM uMI7 zJ1) _ _ _ _ _ _
  refine q_inc (v := 1) dX11_begin_15 rfl (Nat.le_of_ble_eq_true rfl) rfl ?_
  refine q_goto (tgt := 2) dX11_begin_18 (by decide) ?_
  refine q_iload_n dX11_begin_2 rfl ?_
  refine q_bi (v := 40) dX11_begin_3 rfl ?_
  refine q_cz_ge (tgt := 21) (a := 30) (b := 40) dX11_begin_5 (by decide) rfl rfl (fun h => absurd h (by decide)) (fun _ => ?_)
  refine q_aload_n dX11_begin_8 rfl ?_
  refine q_getR (c := 11) (n := 0) (k := 54) (a := 176) dX11_begin_9 rfl (by decide) (by decide) fX11_128 rfl rfl ?_
  refine q_iload_n dX11_begin_12 rfl ?_
  refine q_ic (v := 1) dX11_begin_13 rfl ?_
  refine q_iast (n := 40) (j := 30) dX11_begin_14 rfl rfl (by decide) ?_
  show q_K _ (q_sM (q_up uMI7 176 30 1) zJ1) _ _ _ _ _ _
  refine q_inc (v := 1) dX11_begin_15 rfl (Nat.le_of_ble_eq_true rfl) rfl ?_
  refine q_goto (tgt := 2) dX11_begin_18 (by decide) ?_
  refine q_iload_n dX11_begin_2 rfl ?_
  refine q_bi (v := 40) dX11_begin_3 rfl ?_
  refine q_cz_ge (tgt := 21) (a := 31) (b := 40) dX11_begin_5 (by decide) rfl rfl (fun h => absurd h (by decide)) (fun _ => ?_)
  refine q_aload_n dX11_begin_8 rfl ?_
  refine q_getR (c := 11) (n := 0) (k := 54) (a := 176) dX11_begin_9 rfl (by decide) (by decide) fX11_128 rfl rfl ?_
  refine q_iload_n dX11_begin_12 rfl ?_
  refine q_ic (v := 1) dX11_begin_13 rfl ?_
  refine q_iast (n := 40) (j := 31) dX11_begin_14 rfl rfl (by decide) ?_
  show q_K _ (q_sM (q_up (q_up uMI7 176 30 1) 176 31 1) zJ1) _ _ _ _ _ _
  refine q_inc (v := 1) dX11_begin_15 rfl (Nat.le_of_ble_eq_true rfl) rfl ?_
  refine q_goto (tgt := 2) dX11_begin_18 (by decide) ?_
  refine q_iload_n dX11_begin_2 rfl ?_
  refine q_bi (v := 40) dX11_begin_3 rfl ?_
  refine q_cz_ge (tgt := 21) (a := 32) (b := 40) dX11_begin_5 (by decide) rfl rfl (fun h => absurd h (by decide)) (fun _ => ?_)
  refine q_aload_n dX11_begin_8 rfl ?_
  refine q_getR (c := 11) (n := 0) (k := 54) (a := 176) dX11_begin_9 rfl (by decide) (by decide) fX11_128 rfl rfl ?_
  refine q_iload_n dX11_begin_12 rfl ?_
  refine q_ic (v := 1) dX11_begin_13 rfl ?_
  refine q_iast (n := 40) (j := 32) dX11_begin_14 rfl rfl (by decide) ?_
  show q_K _ (q_sM (q_up (q_up (q_up uMI7 176 30 1) 176 31 1) 176 32 1) zJ1) _ _ _ _ _ _
  refine q_inc (v := 1) dX11_begin_15 rfl (Nat.le_of_ble_eq_true rfl) rfl ?_
  refine q_goto (tgt := 2) dX11_begin_18 (by decide) ?_
  refine q_iload_n dX11_begin_2 rfl ?_
  refine q_bi (v := 40) dX11_begin_3 rfl ?_
  refine q_cz_ge (tgt := 21) (a := 33) (b := 40) dX11_begin_5 (by decide) rfl rfl (fun h => absurd h (by decide)) (fun _ => ?_)
  refine q_aload_n dX11_begin_8 rfl ?_
  refine q_getR (c := 11) (n := 0) (k := 54) (a := 176) dX11_begin_9 rfl (by decide) (by decide) fX11_128 rfl rfl ?_
  refine q_iload_n dX11_begin_12 rfl ?_
  refine q_ic (v := 1) dX11_begin_13 rfl ?_
  refine q_iast (n := 40) (j := 33) dX11_begin_14 rfl rfl (by decide) ?_
  show q_K _ (q_sM (q_up (q_up (q_up (q_up uMI7 176 30 1) 176 31 1) 176 32 1) 176 33 1) zJ1) _ _ _ _ _ _
  refine q_inc (v := 1) dX11_begin_15 rfl (Nat.le_of_ble_eq_true rfl) rfl ?_
  refine q_goto (tgt := 2) dX11_begin_18 (by decide) ?_
  refine q_iload_n dX11_begin_2 rfl ?_
  refine q_bi (v := 40) dX11_begin_3 rfl ?_
  refine q_cz_ge (tgt := 21) (a := 34) (b := 40) dX11_begin_5 (by decide) rfl rfl (fun h => absurd h (by decide)) (fun _ => ?_)
  refine q_aload_n dX11_begin_8 rfl ?_
  refine q_getR (c := 11) (n := 0) (k := 54) (a := 176) dX11_begin_9 rfl (by decide) (by decide) fX11_128 rfl rfl ?_
  refine q_iload_n dX11_begin_12 rfl ?_
  refine q_ic (v := 1) dX11_begin_13 rfl ?_
  refine q_iast (n := 40) (j := 34) dX11_begin_14 rfl rfl (by decide) ?_
  show q_K _ (q_sM (q_up (q_up (q_up (q_up (q_up uMI7 176 30 1) 176 31 1) 176 32 1) 176 33 1) 176 34 1) zJ1) _ _ _ _ _ _
  refine q_inc (v := 1) dX11_begin_15 rfl (Nat.le_of_ble_eq_true rfl) rfl ?_
  refine q_goto (tgt := 2) dX11_begin_18 (by decide) ?_
  refine q_iload_n dX11_begin_2 rfl ?_
  refine q_bi (v := 40) dX11_begin_3 rfl ?_
  refine q_cz_ge (tgt := 21) (a := 35) (b := 40) dX11_begin_5 (by decide) rfl rfl (fun h => absurd h (by decide)) (fun _ => ?_)
  refine q_aload_n dX11_begin_8 rfl ?_
  refine q_getR (c := 11) (n := 0) (k := 54) (a := 176) dX11_begin_9 rfl (by decide) (by decide) fX11_128 rfl rfl ?_
  refine q_iload_n dX11_begin_12 rfl ?_
  refine q_ic (v := 1) dX11_begin_13 rfl ?_
  refine q_iast (n := 40) (j := 35) dX11_begin_14 rfl rfl (by decide) ?_
  show q_K _ (q_sM (q_up (q_up (q_up (q_up (q_up (q_up uMI7 176 30 1) 176 31 1) 176 32 1) 176 33 1) 176 34 1) 176 35 1) zJ1) _ _ _ _ _ _
  refine q_inc (v := 1) dX11_begin_15 rfl (Nat.le_of_ble_eq_true rfl) rfl ?_
  refine q_goto (tgt := 2) dX11_begin_18 (by decide) ?_
  refine q_iload_n dX11_begin_2 rfl ?_
  refine q_bi (v := 40) dX11_begin_3 rfl ?_
  refine q_cz_ge (tgt := 21) (a := 36) (b := 40) dX11_begin_5 (by decide) rfl rfl (fun h => absurd h (by decide)) (fun _ => ?_)
  refine q_aload_n dX11_begin_8 rfl ?_
  refine q_getR (c := 11) (n := 0) (k := 54) (a := 176) dX11_begin_9 rfl (by decide) (by decide) fX11_128 rfl rfl ?_
  refine q_iload_n dX11_begin_12 rfl ?_
  refine q_ic (v := 1) dX11_begin_13 rfl ?_
  refine q_iast (n := 40) (j := 36) dX11_begin_14 rfl rfl (by decide) ?_
  show q_K _ (q_sM (q_up (q_up (q_up (q_up (q_up (q_up (q_up uMI7 176 30 1) 176 31 1) 176 32 1) 176 33 1) 176 34 1) 176 35 1) 176 36 1) zJ1) _ _ _ _ _ _
  refine q_inc (v := 1) dX11_begin_15 rfl (Nat.le_of_ble_eq_true rfl) rfl ?_
  refine q_goto (tgt := 2) dX11_begin_18 (by decide) ?_
  refine q_iload_n dX11_begin_2 rfl ?_
  refine q_bi (v := 40) dX11_begin_3 rfl ?_
  refine q_cz_ge (tgt := 21) (a := 37) (b := 40) dX11_begin_5 (by decide) rfl rfl (fun h => absurd h (by decide)) (fun _ => ?_)
  refine q_aload_n dX11_begin_8 rfl ?_
  refine q_getR (c := 11) (n := 0) (k := 54) (a := 176) dX11_begin_9 rfl (by decide) (by decide) fX11_128 rfl rfl ?_
  refine q_iload_n dX11_begin_12 rfl ?_
  refine q_ic (v := 1) dX11_begin_13 rfl ?_
  refine q_iast (n := 40) (j := 37) dX11_begin_14 rfl rfl (by decide) ?_
  show q_K _ (q_sM (q_up (q_up (q_up (q_up (q_up (q_up (q_up (q_up uMI7 176 30 1) 176 31 1) 176 32 1) 176 33 1) 176 34 1) 176 35 1) 176 36 1) 176 37 1) zJ1) _ _ _ _ _ _
  refine q_inc (v := 1) dX11_begin_15 rfl (Nat.le_of_ble_eq_true rfl) rfl ?_
  refine q_goto (tgt := 2) dX11_begin_18 (by decide) ?_
  refine q_iload_n dX11_begin_2 rfl ?_
  refine q_bi (v := 40) dX11_begin_3 rfl ?_
  refine q_cz_ge (tgt := 21) (a := 38) (b := 40) dX11_begin_5 (by decide) rfl rfl (fun h => absurd h (by decide)) (fun _ => ?_)
  refine q_aload_n dX11_begin_8 rfl ?_
  refine q_getR (c := 11) (n := 0) (k := 54) (a := 176) dX11_begin_9 rfl (by decide) (by decide) fX11_128 rfl rfl ?_
  refine q_iload_n dX11_begin_12 rfl ?_
  refine q_ic (v := 1) dX11_begin_13 rfl ?_
  refine q_iast (n := 40) (j := 38) dX11_begin_14 rfl rfl (by decide) ?_
  show q_K _ (q_sM (q_up (q_up (q_up (q_up (q_up (q_up (q_up (q_up (q_up uMI7 176 30 1) 176 31 1) 176 32 1) 176 33 1) 176 34 1) 176 35 1) 176 36 1) 176 37 1) 176 38 1) zJ1) _ _ _ _ _ _
  refine q_inc (v := 1) dX11_begin_15 rfl (Nat.le_of_ble_eq_true rfl) rfl ?_
  refine q_goto (tgt := 2) dX11_begin_18 (by decide) ?_
  refine q_iload_n dX11_begin_2 rfl ?_
  refine q_bi (v := 40) dX11_begin_3 rfl ?_
  refine q_cz_ge (tgt := 21) (a := 39) (b := 40) dX11_begin_5 (by decide) rfl rfl (fun h => absurd h (by decide)) (fun _ => ?_)
  refine q_aload_n dX11_begin_8 rfl ?_
  refine q_getR (c := 11) (n := 0) (k := 54) (a := 176) dX11_begin_9 rfl (by decide) (by decide) fX11_128 rfl rfl ?_
  refine q_iload_n dX11_begin_12 rfl ?_
  refine q_ic (v := 1) dX11_begin_13 rfl ?_
  refine q_iast (n := 40) (j := 39) dX11_begin_14 rfl rfl (by decide) ?_
  show q_K _ (q_sM (q_up (q_up (q_up (q_up (q_up (q_up (q_up (q_up (q_up (q_up uMI7 176 30 1) 176 31 1) 176 32 1) 176 33 1) 176 34 1) 176 35 1) 176 36 1) 176 37 1) 176 38 1) 176 39 1) zJ1) _ _ _ _ _ _
  refine q_inc (v := 1) dX11_begin_15 rfl (Nat.le_of_ble_eq_true rfl) rfl ?_
  refine q_goto (tgt := 2) dX11_begin_18 (by decide) ?_
  refine q_iload_n dX11_begin_2 rfl ?_
  refine q_bi (v := 40) dX11_begin_3 rfl ?_
  refine q_cz_ge (tgt := 21) (a := 40) (b := 40) dX11_begin_5 (by decide) rfl rfl (fun _ => ?_) (fun h => absurd h (by decide))
  refine q_aload_n dX11_begin_21 rfl ?_
  refine q_ic (v := 0) dX11_begin_22 rfl ?_
  refine q_putI (c := 11) (n := 0) (k := 92) dX11_begin_23 rfl (by decide) (by decide) fX11_560 rfl rfl ?_
  show q_K _ (q_sM (q_up (q_up (q_up (q_up (q_up (q_up (q_up (q_up (q_up (q_up (q_up uMI7 176 30 1) 176 31 1) 176 32 1) 176 33 1) 176 34 1) 176 35 1) 176 36 1) 176 37 1) 176 38 1) 176 39 1) 139 92 0) zJ1) _ _ _ _ _ _
  refine q_aload_n dX11_begin_26 rfl ?_
  refine q_ic (v := (-1)) dX11_begin_27 rfl ?_
  refine q_putI (c := 11) (n := 0) (k := 49) dX11_begin_28 rfl (by decide) (by decide) fX11_118 rfl rfl ?_
  show q_K _ (q_sM (q_up (q_up (q_up (q_up (q_up (q_up (q_up (q_up (q_up (q_up (q_up (q_up uMI7 176 30 1) 176 31 1) 176 32 1) 176 33 1) 176 34 1) 176 35 1) 176 36 1) 176 37 1) 176 38 1) 176 39 1) 139 92 0) 139 49 (-1)) zJ1) _ _ _ _ _ _
  refine q_aload_n dX11_begin_31 rfl ?_
  refine q_ic (v := 0) dX11_begin_32 rfl ?_
  refine q_putZ (c := 11) (n := 0) (k := 62) dX11_begin_33 rfl (by decide) (by decide) fX11_492 rfl rfl (Or.inl rfl) ?_
  show q_K _ (q_sM (q_up (q_up (q_up (q_up (q_up (q_up (q_up (q_up (q_up (q_up (q_up (q_up (q_up uMI7 176 30 1) 176 31 1) 176 32 1) 176 33 1) 176 34 1) 176 35 1) 176 36 1) 176 37 1) 176 38 1) 176 39 1) 139 92 0) 139 49 (-1)) 139 62 0) zJ1) _ _ _ _ _ _
  refine q_aload_n dX11_begin_36 rfl ?_
  refine q_ic (v := 0) dX11_begin_37 rfl ?_
  refine q_putZ (c := 11) (n := 0) (k := 63) dX11_begin_38 rfl (by decide) (by decide) fX11_496 rfl rfl (Or.inl rfl) ?_
  show q_K _ (q_sM (q_up (q_up (q_up (q_up (q_up (q_up (q_up (q_up (q_up (q_up (q_up (q_up (q_up (q_up uMI7 176 30 1) 176 31 1) 176 32 1) 176 33 1) 176 34 1) 176 35 1) 176 36 1) 176 37 1) 176 38 1) 176 39 1) 139 92 0) 139 49 (-1)) 139 62 0) 139 63 0) zJ1) _ _ _ _ _ _
  show q_K _ (q_sM uMI8 zJ1) _ _ _ _ _ _
  refine q_ret dX11_begin_41 rfl ?_
  exact ⟨rfl, rfl⟩
set_option maxRecDepth 20000 in
theorem frM_program : q_met mX11_program (q_sM zI6 zJ1) [.ref 139] (fun s r => (∃ I J, s = q_sM I J) ∧ ∃ v, r = some (.int v) ∧ v.toInt = (0 : Int)) := by
  refine q_enter (by decide) (Nat.le_of_ble_eq_true rfl) ?_
  refine q_aload_n dX11_program_0 rfl ?_
  refine q_ic (v := 0) dX11_program_1 rfl ?_
  refine q_putI (c := 11) (n := 0) (k := 4) dX11_program_2 rfl (by decide) (by decide) fX11_222 rfl rfl ?_
  show q_K _ (q_sM (q_up zI6 139 4 0) zJ1) _ _ _ _ _ _
  refine q_aload_n dX11_program_5 rfl ?_
  refine q_ic (v := (-1)) dX11_program_6 rfl ?_
  refine q_putI (c := 11) (n := 0) (k := 5) dX11_program_7 rfl (by decide) (by decide) fX11_16 rfl rfl ?_
  show q_K _ (q_sM (q_up (q_up zI6 139 4 0) 139 5 (-1)) zJ1) _ _ _ _ _ _
  refine q_aload_n dX11_program_10 rfl ?_
  refine q_aload_n dX11_program_11 rfl ?_
  refine q_getf (c := 11) (n := 0) (k := 2) (v := .int 0) dX11_program_12 rfl (by decide) (by decide) fX11_318 rfl ?_
  refine q_putI (c := 11) (n := 0) (k := 3) dX11_program_15 rfl (by decide) (by decide) fX11_219 rfl rfl ?_
  show q_K _ (q_sM (q_up (q_up (q_up zI6 139 4 0) 139 5 (-1)) 139 3 0) zJ1) _ _ _ _ _ _
  refine q_ic (v := 0) dX11_program_18 rfl ?_
  refine q_istore_n dX11_program_19 (Nat.le_of_ble_eq_true rfl) ?_
  refine q_iload_n dX11_program_20 rfl ?_
  refine q_aload_n dX11_program_21 rfl ?_
  refine q_getf (c := 11) (n := 0) (k := 3) (v := .int 0) dX11_program_22 rfl (by decide) (by decide) fX11_219 rfl ?_
  refine q_cz_ge (tgt := 46) (a := 0) (b := 0) dX11_program_25 (by decide) rfl rfl (fun _ => ?_) (fun h => absurd h (by decide))
  refine q_aload_n dX11_program_46 rfl ?_
  refine q_ic (v := 0) dX11_program_47 rfl ?_
  refine q_putI (c := 11) (n := 0) (k := 2) dX11_program_48 rfl (by decide) (by decide) fX11_318 rfl rfl ?_
  show q_K _ (q_sM (q_up (q_up (q_up (q_up zI6 139 4 0) 139 5 (-1)) 139 3 0) 139 2 0) zJ1) _ _ _ _ _ _
  refine q_aload_n dX11_program_51 rfl ?_
  refine q_ic (v := 0) dX11_program_52 rfl ?_
  refine q_putI (c := 11) (n := 0) (k := 7) dX11_program_53 rfl (by decide) (by decide) fX11_273 rfl rfl ?_
  show q_K _ (q_sM (q_up (q_up (q_up (q_up (q_up zI6 139 4 0) 139 5 (-1)) 139 3 0) 139 2 0) 139 7 0) zJ1) _ _ _ _ _ _
  refine q_aload_n dX11_program_56 rfl ?_
  refine q_ic (v := 1) dX11_program_57 rfl ?_
  refine q_aload_n dX11_program_58 rfl ?_
  refine q_getf (c := 11) (n := 0) (k := 28) (v := .int 0) dX11_program_59 rfl (by decide) (by decide) fX11_321 rfl ?_
  refine q_isub dX11_program_62 ?_
  refine q_topI (v := 1) rfl ?_
  refine q_putI (c := 11) (n := 0) (k := 29) dX11_program_63 rfl (by decide) (by decide) fX11_324 rfl rfl ?_
  show q_K _ (q_sM (q_up (q_up (q_up (q_up (q_up (q_up zI6 139 4 0) 139 5 (-1)) 139 3 0) 139 2 0) 139 7 0) 139 29 1) zJ1) _ _ _ _ _ _
  refine q_aload_n dX11_program_66 rfl ?_
  refine q_aload_n dX11_program_67 rfl ?_
  refine q_getf (c := 11) (n := 0) (k := 29) (v := .int 1) dX11_program_68 rfl (by decide) (by decide) fX11_324 rfl ?_
  show q_K _ (q_sM uMI1 zJ1) _ _ _ _ _ _
  refine q_V1 (ci := 11) (n := 0) dX11_program_71 DX11_clearBank lX11_212 rfl (by decide) rfl rfl rfl rfl uM_X11_clearBank_2 ?_
  rintro _ _ ⟨rfl, rfl⟩
  refine q_aload_n dX11_program_74 rfl ?_
  refine q_V0 (ci := 11) (n := 0) dX11_program_75 DX11_goOn lX11_312 rfl (by decide) rfl rfl rfl rfl uM_X11_goOn_4 ?_
  rintro _ _ ⟨rfl, rfl⟩
  refine q_aload_n dX11_program_78 rfl ?_
  refine q_V0 (ci := 11) (n := 0) dX11_program_79 DX11_isGood lX11_308 rfl (by decide) rfl rfl rfl rfl uM_X11_isGood_5 ?_
  rintro _ _ ⟨rfl, rfl⟩
  refine q_iz_eq (tgt := 99) (a := 1) dX11_program_82 (by decide) rfl (fun h => absurd h (by decide)) (fun _ => ?_)
  refine q_aload_n dX11_program_85 rfl ?_
  refine q_getf (c := 11) (n := 0) (k := 8) (v := .int 0) dX11_program_86 rfl (by decide) (by decide) fX11_283 rfl ?_
  refine q_iz_eq (tgt := 99) (a := 0) dX11_program_89 (by decide) rfl (fun _ => ?_) (fun h => absurd h (by decide))
  refine q_aload_n dX11_program_99 rfl ?_
  refine q_V0 (ci := 11) (n := 0) dX11_program_100 DX11_isGood lX11_308 rfl (by decide) rfl rfl rfl rfl uM_X11_isGood_5 ?_
  rintro _ _ ⟨rfl, rfl⟩
  refine q_iz_eq (tgt := 129) (a := 1) dX11_program_103 (by decide) rfl (fun h => absurd h (by decide)) (fun _ => ?_)
  refine q_aload_n dX11_program_106 rfl ?_
  refine q_aload_n dX11_program_107 rfl ?_
  refine q_getf (c := 11) (n := 0) (k := 29) (v := .int 1) dX11_program_108 rfl (by decide) (by decide) fX11_324 rfl ?_
  refine q_V1 (ci := 11) (n := 0) dX11_program_111 DX11_asksOf lX11_330 rfl (by decide) rfl rfl rfl rfl uM_X11_asksOf_6 ?_
  rintro _ _ ⟨rfl, rfl⟩
  refine q_si (v := 400) dX11_program_114 rfl ?_
  refine q_cz_le (tgt := 129) (a := 0) (b := 400) dX11_program_117 (by decide) rfl rfl (fun _ => ?_) (fun h => absurd h (by decide))
  refine q_aload_n dX11_program_129 rfl ?_
  refine q_V0 (ci := 11) (n := 0) dX11_program_130 DX11_isGood lX11_308 rfl (by decide) rfl rfl rfl rfl uM_X11_isGood_5 ?_
  rintro _ _ ⟨rfl, rfl⟩
  refine q_iz_ne (tgt := 138) (a := 1) dX11_program_133 (by decide) rfl (fun _ => ?_) (fun h => absurd h (by decide))
  refine q_aload_n dX11_program_138 rfl ?_
  refine q_aload_n dX11_program_139 rfl ?_
  refine q_getf (c := 11) (n := 0) (k := 29) (v := .int 1) dX11_program_140 rfl (by decide) (by decide) fX11_324 rfl ?_
  refine q_putI (c := 11) (n := 0) (k := 28) dX11_program_143 rfl (by decide) (by decide) fX11_321 rfl rfl ?_
  show q_K _ (q_sM (q_up uMI4 139 28 1) zJ1) _ _ _ _ _ _
  refine q_ic (v := 0) dX11_program_146 rfl ?_
  refine q_istore_n dX11_program_147 (Nat.le_of_ble_eq_true rfl) ?_
  refine q_iload_n dX11_program_148 rfl ?_
  refine q_ic (v := 3) dX11_program_149 rfl ?_
  refine q_cz_ge (tgt := 166) (a := 0) (b := 3) dX11_program_150 (by decide) rfl rfl (fun h => absurd h (by decide)) (fun _ => ?_)
  refine q_aload_n dX11_program_153 rfl ?_
  refine q_getR (c := 11) (n := 0) (k := 97) (a := 203) dX11_program_154 rfl (by decide) (by decide) fX11_209 rfl rfl ?_
  refine q_iload_n dX11_program_157 rfl ?_
  refine q_ic (v := 0) dX11_program_158 rfl ?_
  refine q_zast (n := 3) (j := 0) dX11_program_159 rfl rfl (by decide) (Or.inl rfl) ?_
  show q_K _ (q_sM (q_up (q_up uMI4 139 28 1) 203 0 0) zJ1) _ _ _ _ _ _
  refine q_inc (v := 1) dX11_program_160 rfl (Nat.le_of_ble_eq_true rfl) rfl ?_
  refine q_goto (tgt := 148) dX11_program_163 (by decide) ?_
  refine q_iload_n dX11_program_148 rfl ?_
  refine q_ic (v := 3) dX11_program_149 rfl ?_
  refine q_cz_ge (tgt := 166) (a := 1) (b := 3) dX11_program_150 (by decide) rfl rfl (fun h => absurd h (by decide)) (fun _ => ?_)
  refine q_aload_n dX11_program_153 rfl ?_
  refine q_getR (c := 11) (n := 0) (k := 97) (a := 203) dX11_program_154 rfl (by decide) (by decide) fX11_209 rfl rfl ?_
  refine q_iload_n dX11_program_157 rfl ?_
  refine q_ic (v := 0) dX11_program_158 rfl ?_
  refine q_zast (n := 3) (j := 1) dX11_program_159 rfl rfl (by decide) (Or.inl rfl) ?_
  show q_K _ (q_sM (q_up (q_up (q_up uMI4 139 28 1) 203 0 0) 203 1 0) zJ1) _ _ _ _ _ _
  refine q_inc (v := 1) dX11_program_160 rfl (Nat.le_of_ble_eq_true rfl) rfl ?_
  refine q_goto (tgt := 148) dX11_program_163 (by decide) ?_
  refine q_iload_n dX11_program_148 rfl ?_
  refine q_ic (v := 3) dX11_program_149 rfl ?_
  refine q_cz_ge (tgt := 166) (a := 2) (b := 3) dX11_program_150 (by decide) rfl rfl (fun h => absurd h (by decide)) (fun _ => ?_)
  refine q_aload_n dX11_program_153 rfl ?_
  refine q_getR (c := 11) (n := 0) (k := 97) (a := 203) dX11_program_154 rfl (by decide) (by decide) fX11_209 rfl rfl ?_
  refine q_iload_n dX11_program_157 rfl ?_
  refine q_ic (v := 0) dX11_program_158 rfl ?_
  refine q_zast (n := 3) (j := 2) dX11_program_159 rfl rfl (by decide) (Or.inl rfl) ?_
  show q_K _ (q_sM (q_up (q_up (q_up (q_up uMI4 139 28 1) 203 0 0) 203 1 0) 203 2 0) zJ1) _ _ _ _ _ _
  refine q_inc (v := 1) dX11_program_160 rfl (Nat.le_of_ble_eq_true rfl) rfl ?_
  refine q_goto (tgt := 148) dX11_program_163 (by decide) ?_
  refine q_iload_n dX11_program_148 rfl ?_
  refine q_ic (v := 3) dX11_program_149 rfl ?_
  refine q_cz_ge (tgt := 166) (a := 3) (b := 3) dX11_program_150 (by decide) rfl rfl (fun _ => ?_) (fun h => absurd h (by decide))
  refine q_aload_n dX11_program_166 rfl ?_
  show q_K _ (q_sM uMI5 zJ1) _ _ _ _ _ _
  refine q_V0 (ci := 11) (n := 0) dX11_program_167 DX11_begin lX11_216 rfl (by decide) rfl rfl rfl rfl uM_X11_begin_7 ?_
  rintro _ _ ⟨rfl, rfl⟩
  refine q_aload_n dX11_program_170 rfl ?_
  refine q_getR (c := 11) (n := 0) (k := 11) (a := 142) dX11_program_171 rfl (by decide) (by decide) fX11_20 rfl rfl ?_
  refine q_aload_n dX11_program_174 rfl ?_
  refine q_getf (c := 11) (n := 0) (k := 28) (v := .int 1) dX11_program_175 rfl (by decide) (by decide) fX11_321 rfl ?_
  refine q_iald (n := 6) (j := 1) dX11_program_178 rfl rfl (by decide) ?_
  refine q_topI (v := 0) rfl ?_
  refine q_iret dX11_program_179 rfl ?_
  exact ⟨⟨_, _, rfl⟩, _, rfl, (by show (0 : Int) = _; first | rfl | omega | (split <;> omega) | (split <;> split <;> omega))⟩
theorem dX11_fault_0 : decode cX11_fault 0 = .ok (.iload_n 1, 1) := by decide +kernel
theorem dX11_fault_1 : decode cX11_fault 1 = .ok (.ifCond .ne 10, 3) := by decide +kernel
theorem dX11_fault_4 : decode cX11_fault 4 = .ok (.aload_n 0, 1) := by decide +kernel
theorem dX11_fault_5 : decode cX11_fault 5 = .ok (.getfield 222, 3) := by decide +kernel
theorem dX11_fault_8 : decode cX11_fault 8 = .ok (.goto 16, 3) := by decide +kernel
theorem dX11_fault_11 : decode cX11_fault 11 = .ok (.iload_n 1, 1) := by decide +kernel
theorem dX11_fault_12 : decode cX11_fault 12 = .ok (.iconst 1, 1) := by decide +kernel
theorem dX11_fault_13 : decode cX11_fault 13 = .ok (.if_icmp .ne 10, 3) := by decide +kernel
theorem dX11_fault_16 : decode cX11_fault 16 = .ok (.aload_n 0, 1) := by decide +kernel
theorem dX11_fault_17 : decode cX11_fault 17 = .ok (.getfield 16, 3) := by decide +kernel
theorem dX11_fault_20 : decode cX11_fault 20 = .ok (.goto 4, 3) := by decide +kernel
theorem dX11_fault_23 : decode cX11_fault 23 = .ok (.iconst (-1), 1) := by decide +kernel
theorem dX11_fault_24 : decode cX11_fault 24 = .ok (.ireturn, 1) := by decide +kernel
set_option maxRecDepth 20000 in
theorem frM_fault (a : Int32) : q_met mX11_fault (q_sM zI6 zJ1) [.ref 139, .int a] (fun s r => (∃ I J, s = q_sM I J) ∧ ∃ v, r = some (.int v) ∧ v.toInt = (if a.toInt = 0 then 0 else -1 : Int)) := by
  refine q_enter (by decide) (Nat.le_of_ble_eq_true rfl) ?_
  refine q_iload_n dX11_fault_0 rfl ?_
  refine q_iz_ne (tgt := 11) (a := a.toInt) dX11_fault_1 (by decide) rfl (fun h1_0 => ?_) (fun h1_0 => ?_)
  · refine q_iload_n dX11_fault_11 rfl ?_
    refine q_ic (v := 1) dX11_fault_12 rfl ?_
    refine q_cz_ne (tgt := 23) (a := a.toInt) (b := 1) dX11_fault_13 (by decide) rfl rfl (fun h13_1 => ?_) (fun h13_1 => ?_)
    · refine q_ic (v := (-1)) dX11_fault_23 rfl ?_
      refine q_iret dX11_fault_24 rfl ?_
      exact ⟨⟨_, _, rfl⟩, _, rfl, (by show ((-1) : Int) = _; first | rfl | omega | (split <;> omega) | (split <;> split <;> omega))⟩
    · refine q_aload_n dX11_fault_16 rfl ?_
      refine q_getf (c := 11) (n := 0) (k := 5) (v := .int (-1)) dX11_fault_17 rfl (by decide) (by decide) fX11_16 rfl ?_
      refine q_goto (tgt := 24) dX11_fault_20 (by decide) ?_
      refine q_iret dX11_fault_24 rfl ?_
      exact ⟨⟨_, _, rfl⟩, _, rfl, (by show ((-1) : Int) = _; first | rfl | omega | (split <;> omega) | (split <;> split <;> omega))⟩
  · refine q_aload_n dX11_fault_4 rfl ?_
    refine q_getf (c := 11) (n := 0) (k := 4) (v := .int 0) dX11_fault_5 rfl (by decide) (by decide) fX11_222 rfl ?_
    refine q_goto (tgt := 24) dX11_fault_8 (by decide) ?_
    refine q_iret dX11_fault_24 rfl ?_
    exact ⟨⟨_, _, rfl⟩, _, rfl, (by show (0 : Int) = _; first | rfl | omega | (split <;> omega) | (split <;> split <;> omega))⟩
theorem dX11_place_0 : decode cX11_place 0 = .ok (.aload_n 0, 1) := by decide +kernel
theorem dX11_place_1 : decode cX11_place 1 = .ok (.iload_n 1, 1) := by decide +kernel
theorem dX11_place_2 : decode cX11_place 2 = .ok (.invokevirtual 383, 3) := by decide +kernel
theorem dX11_place_5 : decode cX11_place 5 = .ok (.ifCond .ne 5, 3) := by decide +kernel
theorem dX11_place_8 : decode cX11_place 8 = .ok (.iconst (-1), 1) := by decide +kernel
theorem dX11_place_9 : decode cX11_place 9 = .ok (.ireturn, 1) := by decide +kernel
theorem dX11_place_10 : decode cX11_place 10 = .ok (.bipush 40, 2) := by decide +kernel
theorem dX11_place_12 : decode cX11_place 12 = .ok (.aload_n 0, 1) := by decide +kernel
theorem dX11_place_13 : decode cX11_place 13 = .ok (.getfield 321, 3) := by decide +kernel
theorem dX11_place_16 : decode cX11_place 16 = .ok (.imul, 1) := by decide +kernel
theorem dX11_place_17 : decode cX11_place 17 = .ok (.iload_n 1, 1) := by decide +kernel
theorem dX11_place_18 : decode cX11_place 18 = .ok (.iadd, 1) := by decide +kernel
theorem dX11_place_19 : decode cX11_place 19 = .ok (.istore_n 3, 1) := by decide +kernel
theorem dX11_place_20 : decode cX11_place 20 = .ok (.iload_n 2, 1) := by decide +kernel
theorem dX11_place_21 : decode cX11_place 21 = .ok (.tableswitch 59 0 3 #[31, 38, 45, 52], 31) := by decide +kernel
theorem dX11_place_52 : decode cX11_place 52 = .ok (.aload_n 0, 1) := by decide +kernel
theorem dX11_place_53 : decode cX11_place 53 = .ok (.getfield 33, 3) := by decide +kernel
theorem dX11_place_56 : decode cX11_place 56 = .ok (.iload_n 3, 1) := by decide +kernel
theorem dX11_place_57 : decode cX11_place 57 = .ok (.iaload, 1) := by decide +kernel
theorem dX11_place_58 : decode cX11_place 58 = .ok (.ireturn, 1) := by decide +kernel
theorem dX11_place_59 : decode cX11_place 59 = .ok (.aload_n 0, 1) := by decide +kernel
theorem dX11_place_60 : decode cX11_place 60 = .ok (.getfield 39, 3) := by decide +kernel
theorem dX11_place_63 : decode cX11_place 63 = .ok (.iload_n 3, 1) := by decide +kernel
theorem dX11_place_64 : decode cX11_place 64 = .ok (.iaload, 1) := by decide +kernel
theorem dX11_place_65 : decode cX11_place 65 = .ok (.ireturn, 1) := by decide +kernel
theorem dX11_place_66 : decode cX11_place 66 = .ok (.aload_n 0, 1) := by decide +kernel
theorem dX11_place_67 : decode cX11_place 67 = .ok (.getfield 42, 3) := by decide +kernel
theorem dX11_place_70 : decode cX11_place 70 = .ok (.iload_n 3, 1) := by decide +kernel
theorem dX11_place_71 : decode cX11_place 71 = .ok (.iaload, 1) := by decide +kernel
theorem dX11_place_72 : decode cX11_place 72 = .ok (.ireturn, 1) := by decide +kernel
theorem dX11_place_73 : decode cX11_place 73 = .ok (.aload_n 0, 1) := by decide +kernel
theorem dX11_place_74 : decode cX11_place 74 = .ok (.getfield 36, 3) := by decide +kernel
theorem dX11_place_77 : decode cX11_place 77 = .ok (.iload_n 3, 1) := by decide +kernel
theorem dX11_place_78 : decode cX11_place 78 = .ok (.iaload, 1) := by decide +kernel
theorem dX11_place_79 : decode cX11_place 79 = .ok (.ireturn, 1) := by decide +kernel
theorem dX11_place_80 : decode cX11_place 80 = .ok (.iconst (-1), 1) := by decide +kernel
theorem dX11_place_81 : decode cX11_place 81 = .ok (.ireturn, 1) := by decide +kernel
theorem dX11_isPlace_0 : decode cX11_isPlace 0 = .ok (.iload_n 1, 1) := by decide +kernel
theorem dX11_isPlace_1 : decode cX11_isPlace 1 = .ok (.iconst 0, 1) := by decide +kernel
theorem dX11_isPlace_2 : decode cX11_isPlace 2 = .ok (.aload_n 0, 1) := by decide +kernel
theorem dX11_isPlace_3 : decode cX11_isPlace 3 = .ok (.getfield 20, 3) := by decide +kernel
theorem dX11_isPlace_6 : decode cX11_isPlace 6 = .ok (.aload_n 0, 1) := by decide +kernel
theorem dX11_isPlace_7 : decode cX11_isPlace 7 = .ok (.getfield 321, 3) := by decide +kernel
theorem dX11_isPlace_10 : decode cX11_isPlace 10 = .ok (.iaload, 1) := by decide +kernel
theorem dX11_isPlace_11 : decode cX11_isPlace 11 = .ok (.iconst 1, 1) := by decide +kernel
theorem dX11_isPlace_12 : decode cX11_isPlace 12 = .ok (.isub, 1) := by decide +kernel
theorem dX11_isPlace_13 : decode cX11_isPlace 13 = .ok (.invokestatic 379, 3) := by decide +kernel
theorem dX11_isPlace_16 : decode cX11_isPlace 16 = .ok (.ireturn, 1) := by decide +kernel
theorem dX11_isIn_0 : decode cX11_isIn 0 = .ok (.iload_n 0, 1) := by decide +kernel
theorem dX11_isIn_1 : decode cX11_isIn 1 = .ok (.iload_n 1, 1) := by decide +kernel
theorem dX11_isIn_2 : decode cX11_isIn 2 = .ok (.if_icmp .lt 12, 3) := by decide +kernel
theorem dX11_isIn_5 : decode cX11_isIn 5 = .ok (.iload_n 0, 1) := by decide +kernel
theorem dX11_isIn_6 : decode cX11_isIn 6 = .ok (.iload_n 2, 1) := by decide +kernel
theorem dX11_isIn_7 : decode cX11_isIn 7 = .ok (.if_icmp .gt 7, 3) := by decide +kernel
theorem dX11_isIn_10 : decode cX11_isIn 10 = .ok (.iconst 1, 1) := by decide +kernel
theorem dX11_isIn_11 : decode cX11_isIn 11 = .ok (.goto 4, 3) := by decide +kernel
theorem dX11_isIn_14 : decode cX11_isIn 14 = .ok (.iconst 0, 1) := by decide +kernel
theorem dX11_isIn_15 : decode cX11_isIn 15 = .ok (.ireturn, 1) := by decide +kernel
set_option maxRecDepth 20000 in
theorem uM_X11_isIn_10 (a : Int32) : q_met mX11_isIn (q_sM zI6 zJ1) [.int a, .int 0, .int (-1)] (fun s r => s = q_sM zI6 zJ1 ∧ r = some (.int 0)) := by
  refine q_enter (by decide) (Nat.le_of_ble_eq_true rfl) ?_
  refine q_iload_n dX11_isIn_0 rfl ?_
  refine q_iload_n dX11_isIn_1 rfl ?_
  refine q_cz_lt (tgt := 14) (a := a.toInt) (b := 0) dX11_isIn_2 (by decide) rfl rfl (fun h2_0 => ?_) (fun h2_0 => ?_)
  · refine q_ic (v := 0) dX11_isIn_14 rfl ?_
    refine q_zret dX11_isIn_15 rfl (Or.inl rfl) ?_
    exact ⟨rfl, rfl⟩
  · refine q_iload_n dX11_isIn_5 rfl ?_
    refine q_iload_n dX11_isIn_6 rfl ?_
    refine q_cz_gt (tgt := 14) (a := a.toInt) (b := (-1)) dX11_isIn_7 (by decide) rfl rfl (fun h7_1 => ?_) (fun h7_1 => ?_)
    · refine q_ic (v := 0) dX11_isIn_14 rfl ?_
      refine q_zret dX11_isIn_15 rfl (Or.inl rfl) ?_
      exact ⟨rfl, rfl⟩
    · exfalso; omega
set_option maxRecDepth 20000 in
theorem uM_X11_isPlace_11 (a : Int32) : q_met mX11_isPlace (q_sM zI6 zJ1) [.ref 139, .int a] (fun s r => s = q_sM zI6 zJ1 ∧ r = some (.int 0)) := by
  refine q_enter (by decide) (Nat.le_of_ble_eq_true rfl) ?_
  refine q_iload_n dX11_isPlace_0 rfl ?_
  refine q_ic (v := 0) dX11_isPlace_1 rfl ?_
  refine q_aload_n dX11_isPlace_2 rfl ?_
  refine q_getR (c := 11) (n := 0) (k := 11) (a := 142) dX11_isPlace_3 rfl (by decide) (by decide) fX11_20 rfl rfl ?_
  refine q_aload_n dX11_isPlace_6 rfl ?_
  refine q_getf (c := 11) (n := 0) (k := 28) (v := .int 0) dX11_isPlace_7 rfl (by decide) (by decide) fX11_321 rfl ?_
  refine q_iald (n := 6) (j := 0) dX11_isPlace_10 rfl rfl (by decide) ?_
  refine q_topI (v := 0) rfl ?_
  refine q_ic (v := 1) dX11_isPlace_11 rfl ?_
  refine q_isub dX11_isPlace_12 ?_
  refine q_topI (v := (-1)) rfl ?_
  refine q_S3 dX11_isPlace_13 DX11_isIn lX11_379 rfl rfl rfl (uM_X11_isIn_10 a) ?_
  rintro _ _ ⟨rfl, rfl⟩
  refine q_zret dX11_isPlace_16 rfl (Or.inl rfl) ?_
  exact ⟨rfl, rfl⟩
set_option maxRecDepth 20000 in
theorem frM_place (a : Int32) (b : Int32) : q_met mX11_place (q_sM zI6 zJ1) [.ref 139, .int a, .int b] (fun s r => (∃ I J, s = q_sM I J) ∧ ∃ v, r = some (.int v) ∧ v.toInt = (-1 : Int)) := by
  refine q_enter (by decide) (Nat.le_of_ble_eq_true rfl) ?_
  refine q_aload_n dX11_place_0 rfl ?_
  refine q_iload_n dX11_place_1 rfl ?_
  refine q_V1 (ci := 11) (n := 0) dX11_place_2 DX11_isPlace lX11_383 rfl (by decide) rfl rfl rfl rfl (uM_X11_isPlace_11 a) ?_
  rintro _ _ ⟨rfl, rfl⟩
  refine q_iz_ne (tgt := 10) (a := 0) dX11_place_5 (by decide) rfl (fun h => absurd h (by decide)) (fun _ => ?_)
  refine q_ic (v := (-1)) dX11_place_8 rfl ?_
  refine q_iret dX11_place_9 rfl ?_
  exact ⟨⟨_, _, rfl⟩, _, rfl, (by show ((-1) : Int) = _; first | rfl | omega | (split <;> omega) | (split <;> split <;> omega))⟩
theorem dX11_fits_0 : decode cX11_fits 0 = .ok (.aload_n 0, 1) := by decide +kernel
theorem dX11_fits_1 : decode cX11_fits 1 = .ok (.invokevirtual 460, 3) := by decide +kernel
theorem dX11_fits_4 : decode cX11_fits 4 = .ok (.aload_n 0, 1) := by decide +kernel
theorem dX11_fits_5 : decode cX11_fits 5 = .ok (.aload_n 0, 1) := by decide +kernel
theorem dX11_fits_6 : decode cX11_fits 6 = .ok (.invokevirtual 463, 3) := by decide +kernel
theorem dX11_fits_9 : decode cX11_fits 9 = .ok (.invokevirtual 467, 3) := by decide +kernel
theorem dX11_fits_12 : decode cX11_fits 12 = .ok (.ifCond .eq 7, 3) := by decide +kernel
theorem dX11_fits_15 : decode cX11_fits 15 = .ok (.iconst 0, 1) := by decide +kernel
theorem dX11_fits_16 : decode cX11_fits 16 = .ok (.goto 4, 3) := by decide +kernel
theorem dX11_fits_19 : decode cX11_fits 19 = .ok (.iconst 1, 1) := by decide +kernel
theorem dX11_fits_20 : decode cX11_fits 20 = .ok (.ireturn, 1) := by decide +kernel
theorem dX11_layNow_0 : decode cX11_layNow 0 = .ok (.aload_n 0, 1) := by decide +kernel
theorem dX11_layNow_1 : decode cX11_layNow 1 = .ok (.getfield 118, 3) := by decide +kernel
theorem dX11_layNow_4 : decode cX11_layNow 4 = .ok (.aload_n 0, 1) := by decide +kernel
theorem dX11_layNow_5 : decode cX11_layNow 5 = .ok (.getfield 321, 3) := by decide +kernel
theorem dX11_layNow_8 : decode cX11_layNow 8 = .ok (.if_icmp .eq 11, 3) := by decide +kernel
theorem dX11_layNow_11 : decode cX11_layNow 11 = .ok (.aload_n 0, 1) := by decide +kernel
theorem dX11_layNow_12 : decode cX11_layNow 12 = .ok (.aload_n 0, 1) := by decide +kernel
theorem dX11_layNow_13 : decode cX11_layNow 13 = .ok (.getfield 321, 3) := by decide +kernel
theorem dX11_layNow_16 : decode cX11_layNow 16 = .ok (.invokevirtual 454, 3) := by decide +kernel
theorem dX11_layNow_19 : decode cX11_layNow 19 = .ok (.return_, 1) := by decide +kernel
theorem dX11_layOut_0 : decode cX11_layOut 0 = .ok (.aload_n 0, 1) := by decide +kernel
theorem dX11_layOut_1 : decode cX11_layOut 1 = .ok (.iload_n 1, 1) := by decide +kernel
theorem dX11_layOut_2 : decode cX11_layOut 2 = .ok (.putfield 118, 3) := by decide +kernel
theorem dX11_layOut_5 : decode cX11_layOut 5 = .ok (.aload_n 0, 1) := by decide +kernel
theorem dX11_layOut_6 : decode cX11_layOut 6 = .ok (.iconst 0, 1) := by decide +kernel
theorem dX11_layOut_7 : decode cX11_layOut 7 = .ok (.putfield 386, 3) := by decide +kernel
theorem dX11_layOut_10 : decode cX11_layOut 10 = .ok (.aload_n 0, 1) := by decide +kernel
theorem dX11_layOut_11 : decode cX11_layOut 11 = .ok (.iconst 0, 1) := by decide +kernel
theorem dX11_layOut_12 : decode cX11_layOut 12 = .ok (.putfield 393, 3) := by decide +kernel
theorem dX11_layOut_15 : decode cX11_layOut 15 = .ok (.aload_n 0, 1) := by decide +kernel
theorem dX11_layOut_16 : decode cX11_layOut 16 = .ok (.iconst 0, 1) := by decide +kernel
theorem dX11_layOut_17 : decode cX11_layOut 17 = .ok (.putfield 396, 3) := by decide +kernel
theorem dX11_layOut_20 : decode cX11_layOut 20 = .ok (.aload_n 0, 1) := by decide +kernel
theorem dX11_layOut_21 : decode cX11_layOut 21 = .ok (.aload_n 0, 1) := by decide +kernel
theorem dX11_layOut_22 : decode cX11_layOut 22 = .ok (.iconst 0, 1) := by decide +kernel
theorem dX11_layOut_23 : decode cX11_layOut 23 = .ok (.iconst 0, 1) := by decide +kernel
theorem dX11_layOut_24 : decode cX11_layOut 24 = .ok (.iconst 0, 1) := by decide +kernel
theorem dX11_layOut_25 : decode cX11_layOut 25 = .ok (.invokevirtual 389, 3) := by decide +kernel
theorem dX11_layOut_28 : decode cX11_layOut 28 = .ok (.putfield 402, 3) := by decide +kernel
theorem dX11_layOut_31 : decode cX11_layOut 31 = .ok (.aload_n 0, 1) := by decide +kernel
theorem dX11_layOut_32 : decode cX11_layOut 32 = .ok (.aload_n 0, 1) := by decide +kernel
theorem dX11_layOut_33 : decode cX11_layOut 33 = .ok (.iconst 1, 1) := by decide +kernel
theorem dX11_layOut_34 : decode cX11_layOut 34 = .ok (.iconst 0, 1) := by decide +kernel
theorem dX11_layOut_35 : decode cX11_layOut 35 = .ok (.iconst 0, 1) := by decide +kernel
theorem dX11_layOut_36 : decode cX11_layOut 36 = .ok (.invokevirtual 389, 3) := by decide +kernel
theorem dX11_layOut_39 : decode cX11_layOut 39 = .ok (.putfield 405, 3) := by decide +kernel
theorem dX11_layOut_42 : decode cX11_layOut 42 = .ok (.iconst 0, 1) := by decide +kernel
theorem dX11_layOut_43 : decode cX11_layOut 43 = .ok (.istore_n 2, 1) := by decide +kernel
theorem dX11_layOut_44 : decode cX11_layOut 44 = .ok (.iload_n 2, 1) := by decide +kernel
theorem dX11_layOut_45 : decode cX11_layOut 45 = .ok (.aload_n 0, 1) := by decide +kernel
theorem dX11_layOut_46 : decode cX11_layOut 46 = .ok (.getfield 24, 3) := by decide +kernel
theorem dX11_layOut_49 : decode cX11_layOut 49 = .ok (.iload_n 1, 1) := by decide +kernel
theorem dX11_layOut_50 : decode cX11_layOut 50 = .ok (.iaload, 1) := by decide +kernel
theorem dX11_layOut_51 : decode cX11_layOut 51 = .ok (.if_icmp .ge 27, 3) := by decide +kernel
theorem dX11_layOut_54 : decode cX11_layOut 54 = .ok (.aload_n 0, 1) := by decide +kernel
theorem dX11_layOut_55 : decode cX11_layOut 55 = .ok (.iload_n 1, 1) := by decide +kernel
theorem dX11_layOut_56 : decode cX11_layOut 56 = .ok (.aload_n 0, 1) := by decide +kernel
theorem dX11_layOut_57 : decode cX11_layOut 57 = .ok (.getfield 30, 3) := by decide +kernel
theorem dX11_layOut_60 : decode cX11_layOut 60 = .ok (.bipush 8, 2) := by decide +kernel
theorem dX11_layOut_62 : decode cX11_layOut 62 = .ok (.iload_n 1, 1) := by decide +kernel
theorem dX11_layOut_63 : decode cX11_layOut 63 = .ok (.imul, 1) := by decide +kernel
theorem dX11_layOut_64 : decode cX11_layOut 64 = .ok (.iload_n 2, 1) := by decide +kernel
theorem dX11_layOut_65 : decode cX11_layOut 65 = .ok (.iadd, 1) := by decide +kernel
theorem dX11_layOut_66 : decode cX11_layOut 66 = .ok (.iaload, 1) := by decide +kernel
theorem dX11_layOut_67 : decode cX11_layOut 67 = .ok (.iconst (-1), 1) := by decide +kernel
theorem dX11_layOut_68 : decode cX11_layOut 68 = .ok (.invokevirtual 408, 3) := by decide +kernel
theorem dX11_layOut_71 : decode cX11_layOut 71 = .ok (.pop, 1) := by decide +kernel
theorem dX11_layOut_72 : decode cX11_layOut 72 = .ok (.iinc 2 1, 3) := by decide +kernel
theorem dX11_layOut_75 : decode cX11_layOut 75 = .ok (.goto (-31), 3) := by decide +kernel
theorem dX11_layOut_78 : decode cX11_layOut 78 = .ok (.iconst 0, 1) := by decide +kernel
theorem dX11_layOut_79 : decode cX11_layOut 79 = .ok (.istore_n 2, 1) := by decide +kernel
theorem dX11_layOut_80 : decode cX11_layOut 80 = .ok (.iload_n 2, 1) := by decide +kernel
theorem dX11_layOut_81 : decode cX11_layOut 81 = .ok (.aload_n 0, 1) := by decide +kernel
theorem dX11_layOut_82 : decode cX11_layOut 82 = .ok (.getfield 396, 3) := by decide +kernel
theorem dX11_layOut_85 : decode cX11_layOut 85 = .ok (.if_icmp .ge 49, 3) := by decide +kernel
theorem dX11_layOut_88 : decode cX11_layOut 88 = .ok (.aload_n 0, 1) := by decide +kernel
theorem dX11_layOut_89 : decode cX11_layOut 89 = .ok (.getfield 106, 3) := by decide +kernel
theorem dX11_layOut_92 : decode cX11_layOut 92 = .ok (.iload_n 2, 1) := by decide +kernel
theorem dX11_layOut_93 : decode cX11_layOut 93 = .ok (.iaload, 1) := by decide +kernel
theorem dX11_layOut_94 : decode cX11_layOut 94 = .ok (.istore_n 3, 1) := by decide +kernel
theorem dX11_layOut_95 : decode cX11_layOut 95 = .ok (.iload_n 3, 1) := by decide +kernel
theorem dX11_layOut_96 : decode cX11_layOut 96 = .ok (.aload_n 0, 1) := by decide +kernel
theorem dX11_layOut_97 : decode cX11_layOut 97 = .ok (.getfield 45, 3) := by decide +kernel
theorem dX11_layOut_100 : decode cX11_layOut 100 = .ok (.bipush 40, 2) := by decide +kernel
theorem dX11_layOut_102 : decode cX11_layOut 102 = .ok (.iload_n 1, 1) := by decide +kernel
theorem dX11_layOut_103 : decode cX11_layOut 103 = .ok (.imul, 1) := by decide +kernel
theorem dX11_layOut_104 : decode cX11_layOut 104 = .ok (.aload_n 0, 1) := by decide +kernel
theorem dX11_layOut_105 : decode cX11_layOut 105 = .ok (.getfield 106, 3) := by decide +kernel
theorem dX11_layOut_108 : decode cX11_layOut 108 = .ok (.iload_n 2, 1) := by decide +kernel
theorem dX11_layOut_109 : decode cX11_layOut 109 = .ok (.iaload, 1) := by decide +kernel
theorem dX11_layOut_110 : decode cX11_layOut 110 = .ok (.iadd, 1) := by decide +kernel
theorem dX11_layOut_111 : decode cX11_layOut 111 = .ok (.iaload, 1) := by decide +kernel
theorem dX11_layOut_112 : decode cX11_layOut 112 = .ok (.if_icmp .gt 16, 3) := by decide +kernel
theorem dX11_layOut_115 : decode cX11_layOut 115 = .ok (.aload_n 0, 1) := by decide +kernel
theorem dX11_layOut_116 : decode cX11_layOut 116 = .ok (.iload_n 1, 1) := by decide +kernel
theorem dX11_layOut_117 : decode cX11_layOut 117 = .ok (.iload_n 2, 1) := by decide +kernel
theorem dX11_layOut_118 : decode cX11_layOut 118 = .ok (.iload_n 3, 1) := by decide +kernel
theorem dX11_layOut_119 : decode cX11_layOut 119 = .ok (.invokevirtual 411, 3) := by decide +kernel
theorem dX11_layOut_122 : decode cX11_layOut 122 = .ok (.iinc 3 1, 3) := by decide +kernel
theorem dX11_layOut_125 : decode cX11_layOut 125 = .ok (.goto (-30), 3) := by decide +kernel
theorem dX11_layOut_128 : decode cX11_layOut 128 = .ok (.iinc 2 1, 3) := by decide +kernel
theorem dX11_layOut_131 : decode cX11_layOut 131 = .ok (.goto (-51), 3) := by decide +kernel
theorem dX11_layOut_134 : decode cX11_layOut 134 = .ok (.return_, 1) := by decide +kernel
def uMI9 : Nat → Nat → Int32 := q_up (q_up (q_up (q_up zI6 139 49 0) 139 46 0) 139 47 0) 139 48 0
theorem dX11_term_0 : decode cX11_term 0 = .ok (.aload_n 0, 1) := by decide +kernel
theorem dX11_term_1 : decode cX11_term 1 = .ok (.getfield 79, 3) := by decide +kernel
theorem dX11_term_4 : decode cX11_term 4 = .ok (.aload_n 0, 1) := by decide +kernel
theorem dX11_term_5 : decode cX11_term 5 = .ok (.getfield 386, 3) := by decide +kernel
theorem dX11_term_8 : decode cX11_term 8 = .ok (.iload_n 1, 1) := by decide +kernel
theorem dX11_term_9 : decode cX11_term 9 = .ok (.iastore, 1) := by decide +kernel
theorem dX11_term_10 : decode cX11_term 10 = .ok (.aload_n 0, 1) := by decide +kernel
theorem dX11_term_11 : decode cX11_term 11 = .ok (.getfield 82, 3) := by decide +kernel
theorem dX11_term_14 : decode cX11_term 14 = .ok (.aload_n 0, 1) := by decide +kernel
theorem dX11_term_15 : decode cX11_term 15 = .ok (.getfield 386, 3) := by decide +kernel
theorem dX11_term_18 : decode cX11_term 18 = .ok (.iload_n 2, 1) := by decide +kernel
theorem dX11_term_19 : decode cX11_term 19 = .ok (.iastore, 1) := by decide +kernel
theorem dX11_term_20 : decode cX11_term 20 = .ok (.aload_n 0, 1) := by decide +kernel
theorem dX11_term_21 : decode cX11_term 21 = .ok (.getfield 85, 3) := by decide +kernel
theorem dX11_term_24 : decode cX11_term 24 = .ok (.aload_n 0, 1) := by decide +kernel
theorem dX11_term_25 : decode cX11_term 25 = .ok (.getfield 386, 3) := by decide +kernel
theorem dX11_term_28 : decode cX11_term 28 = .ok (.iload_n 3, 1) := by decide +kernel
theorem dX11_term_29 : decode cX11_term 29 = .ok (.iastore, 1) := by decide +kernel
theorem dX11_term_30 : decode cX11_term 30 = .ok (.aload_n 0, 1) := by decide +kernel
theorem dX11_term_31 : decode cX11_term 31 = .ok (.dup, 1) := by decide +kernel
theorem dX11_term_32 : decode cX11_term 32 = .ok (.getfield 386, 3) := by decide +kernel
theorem dX11_term_35 : decode cX11_term 35 = .ok (.iconst 1, 1) := by decide +kernel
theorem dX11_term_36 : decode cX11_term 36 = .ok (.iadd, 1) := by decide +kernel
theorem dX11_term_37 : decode cX11_term 37 = .ok (.putfield 386, 3) := by decide +kernel
theorem dX11_term_40 : decode cX11_term 40 = .ok (.aload_n 0, 1) := by decide +kernel
theorem dX11_term_41 : decode cX11_term 41 = .ok (.getfield 386, 3) := by decide +kernel
theorem dX11_term_44 : decode cX11_term 44 = .ok (.iconst 1, 1) := by decide +kernel
theorem dX11_term_45 : decode cX11_term 45 = .ok (.isub, 1) := by decide +kernel
theorem dX11_term_46 : decode cX11_term 46 = .ok (.ireturn, 1) := by decide +kernel
def uMI10 : Nat → Nat → Int32 := q_up (q_up (q_up (q_up uMI9 161 0 0) 162 0 0) 163 0 0) 139 46 1
set_option maxRecDepth 20000 in
theorem uM_X11_term_13 : q_met mX11_term (q_sM uMI9 zJ1) [.ref 139, .int 0, .int 0, .int 0] (fun s r => s = q_sM uMI10 zJ1 ∧ r = some (.int 0)) := by
  refine q_enter (by decide) (Nat.le_of_ble_eq_true rfl) ?_
  refine q_aload_n dX11_term_0 rfl ?_
  refine q_getR (c := 11) (n := 0) (k := 33) (a := 161) dX11_term_1 rfl (by decide) (by decide) fX11_79 rfl rfl ?_
  refine q_aload_n dX11_term_4 rfl ?_
  refine q_getf (c := 11) (n := 0) (k := 46) (v := .int 0) dX11_term_5 rfl (by decide) (by decide) fX11_386 rfl ?_
  refine q_iload_n dX11_term_8 rfl ?_
  refine q_iast (n := 12000) (j := 0) dX11_term_9 rfl rfl (by decide) ?_
  show q_K _ (q_sM (q_up uMI9 161 0 0) zJ1) _ _ _ _ _ _
  refine q_aload_n dX11_term_10 rfl ?_
  refine q_getR (c := 11) (n := 0) (k := 34) (a := 162) dX11_term_11 rfl (by decide) (by decide) fX11_82 rfl rfl ?_
  refine q_aload_n dX11_term_14 rfl ?_
  refine q_getf (c := 11) (n := 0) (k := 46) (v := .int 0) dX11_term_15 rfl (by decide) (by decide) fX11_386 rfl ?_
  refine q_iload_n dX11_term_18 rfl ?_
  refine q_iast (n := 12000) (j := 0) dX11_term_19 rfl rfl (by decide) ?_
  show q_K _ (q_sM (q_up (q_up uMI9 161 0 0) 162 0 0) zJ1) _ _ _ _ _ _
  refine q_aload_n dX11_term_20 rfl ?_
  refine q_getR (c := 11) (n := 0) (k := 35) (a := 163) dX11_term_21 rfl (by decide) (by decide) fX11_85 rfl rfl ?_
  refine q_aload_n dX11_term_24 rfl ?_
  refine q_getf (c := 11) (n := 0) (k := 46) (v := .int 0) dX11_term_25 rfl (by decide) (by decide) fX11_386 rfl ?_
  refine q_iload_n dX11_term_28 rfl ?_
  refine q_iast (n := 12000) (j := 0) dX11_term_29 rfl rfl (by decide) ?_
  show q_K _ (q_sM (q_up (q_up (q_up uMI9 161 0 0) 162 0 0) 163 0 0) zJ1) _ _ _ _ _ _
  refine q_aload_n dX11_term_30 rfl ?_
  refine q_dup dX11_term_31 rfl ?_
  refine q_getf (c := 11) (n := 0) (k := 46) (v := .int 0) dX11_term_32 rfl (by decide) (by decide) fX11_386 rfl ?_
  refine q_ic (v := 1) dX11_term_35 rfl ?_
  refine q_iadd dX11_term_36 ?_
  refine q_topI (v := 1) rfl ?_
  refine q_putI (c := 11) (n := 0) (k := 46) dX11_term_37 rfl (by decide) (by decide) fX11_386 rfl rfl ?_
  show q_K _ (q_sM (q_up (q_up (q_up (q_up uMI9 161 0 0) 162 0 0) 163 0 0) 139 46 1) zJ1) _ _ _ _ _ _
  refine q_aload_n dX11_term_40 rfl ?_
  refine q_getf (c := 11) (n := 0) (k := 46) (v := .int 1) dX11_term_41 rfl (by decide) (by decide) fX11_386 rfl ?_
  refine q_ic (v := 1) dX11_term_44 rfl ?_
  refine q_isub dX11_term_45 ?_
  refine q_topI (v := 0) rfl ?_
  show q_K _ (q_sM uMI10 zJ1) _ _ _ _ _ _
  refine q_iret dX11_term_46 rfl ?_
  exact ⟨rfl, rfl⟩
def uMI11 : Nat → Nat → Int32 := q_up uMI10 139 50 0
def uMI12 : Nat → Nat → Int32 := q_up (q_up (q_up (q_up uMI11 161 1 1) 162 1 0) 163 1 0) 139 46 2
set_option maxRecDepth 20000 in
theorem uM_X11_term_14 : q_met mX11_term (q_sM uMI11 zJ1) [.ref 139, .int 1, .int 0, .int 0] (fun s r => s = q_sM uMI12 zJ1 ∧ r = some (.int 1)) := by
  refine q_enter (by decide) (Nat.le_of_ble_eq_true rfl) ?_
  refine q_aload_n dX11_term_0 rfl ?_
  refine q_getR (c := 11) (n := 0) (k := 33) (a := 161) dX11_term_1 rfl (by decide) (by decide) fX11_79 rfl rfl ?_
  refine q_aload_n dX11_term_4 rfl ?_
  refine q_getf (c := 11) (n := 0) (k := 46) (v := .int 1) dX11_term_5 rfl (by decide) (by decide) fX11_386 rfl ?_
  refine q_iload_n dX11_term_8 rfl ?_
  refine q_iast (n := 12000) (j := 1) dX11_term_9 rfl rfl (by decide) ?_
  show q_K _ (q_sM (q_up uMI11 161 1 1) zJ1) _ _ _ _ _ _
  refine q_aload_n dX11_term_10 rfl ?_
  refine q_getR (c := 11) (n := 0) (k := 34) (a := 162) dX11_term_11 rfl (by decide) (by decide) fX11_82 rfl rfl ?_
  refine q_aload_n dX11_term_14 rfl ?_
  refine q_getf (c := 11) (n := 0) (k := 46) (v := .int 1) dX11_term_15 rfl (by decide) (by decide) fX11_386 rfl ?_
  refine q_iload_n dX11_term_18 rfl ?_
  refine q_iast (n := 12000) (j := 1) dX11_term_19 rfl rfl (by decide) ?_
  show q_K _ (q_sM (q_up (q_up uMI11 161 1 1) 162 1 0) zJ1) _ _ _ _ _ _
  refine q_aload_n dX11_term_20 rfl ?_
  refine q_getR (c := 11) (n := 0) (k := 35) (a := 163) dX11_term_21 rfl (by decide) (by decide) fX11_85 rfl rfl ?_
  refine q_aload_n dX11_term_24 rfl ?_
  refine q_getf (c := 11) (n := 0) (k := 46) (v := .int 1) dX11_term_25 rfl (by decide) (by decide) fX11_386 rfl ?_
  refine q_iload_n dX11_term_28 rfl ?_
  refine q_iast (n := 12000) (j := 1) dX11_term_29 rfl rfl (by decide) ?_
  show q_K _ (q_sM (q_up (q_up (q_up uMI11 161 1 1) 162 1 0) 163 1 0) zJ1) _ _ _ _ _ _
  refine q_aload_n dX11_term_30 rfl ?_
  refine q_dup dX11_term_31 rfl ?_
  refine q_getf (c := 11) (n := 0) (k := 46) (v := .int 1) dX11_term_32 rfl (by decide) (by decide) fX11_386 rfl ?_
  refine q_ic (v := 1) dX11_term_35 rfl ?_
  refine q_iadd dX11_term_36 ?_
  refine q_topI (v := 2) rfl ?_
  refine q_putI (c := 11) (n := 0) (k := 46) dX11_term_37 rfl (by decide) (by decide) fX11_386 rfl rfl ?_
  show q_K _ (q_sM (q_up (q_up (q_up (q_up uMI11 161 1 1) 162 1 0) 163 1 0) 139 46 2) zJ1) _ _ _ _ _ _
  refine q_aload_n dX11_term_40 rfl ?_
  refine q_getf (c := 11) (n := 0) (k := 46) (v := .int 2) dX11_term_41 rfl (by decide) (by decide) fX11_386 rfl ?_
  refine q_ic (v := 1) dX11_term_44 rfl ?_
  refine q_isub dX11_term_45 ?_
  refine q_topI (v := 1) rfl ?_
  show q_K _ (q_sM uMI12 zJ1) _ _ _ _ _ _
  refine q_iret dX11_term_46 rfl ?_
  exact ⟨rfl, rfl⟩
def uMI13 : Nat → Nat → Int32 := q_up uMI12 139 51 1
set_option maxRecDepth 20000 in
theorem uM_X11_layOut_15 : q_met mX11_layOut (q_sM zI6 zJ1) [.ref 139, .int 0] (fun s r => s = q_sM uMI13 zJ1 ∧ r = none) := by
  refine q_enter (by decide) (Nat.le_of_ble_eq_true rfl) ?_
  refine q_aload_n dX11_layOut_0 rfl ?_
  refine q_iload_n dX11_layOut_1 rfl ?_
  refine q_putI (c := 11) (n := 0) (k := 49) dX11_layOut_2 rfl (by decide) (by decide) fX11_118 rfl rfl ?_
  show q_K _ (q_sM (q_up zI6 139 49 0) zJ1) _ _ _ _ _ _
  refine q_aload_n dX11_layOut_5 rfl ?_
  refine q_ic (v := 0) dX11_layOut_6 rfl ?_
  refine q_putI (c := 11) (n := 0) (k := 46) dX11_layOut_7 rfl (by decide) (by decide) fX11_386 rfl rfl ?_
  show q_K _ (q_sM (q_up (q_up zI6 139 49 0) 139 46 0) zJ1) _ _ _ _ _ _
  refine q_aload_n dX11_layOut_10 rfl ?_
  refine q_ic (v := 0) dX11_layOut_11 rfl ?_
  refine q_putI (c := 11) (n := 0) (k := 47) dX11_layOut_12 rfl (by decide) (by decide) fX11_393 rfl rfl ?_
  show q_K _ (q_sM (q_up (q_up (q_up zI6 139 49 0) 139 46 0) 139 47 0) zJ1) _ _ _ _ _ _
  refine q_aload_n dX11_layOut_15 rfl ?_
  refine q_ic (v := 0) dX11_layOut_16 rfl ?_
  refine q_putI (c := 11) (n := 0) (k := 48) dX11_layOut_17 rfl (by decide) (by decide) fX11_396 rfl rfl ?_
  show q_K _ (q_sM (q_up (q_up (q_up (q_up zI6 139 49 0) 139 46 0) 139 47 0) 139 48 0) zJ1) _ _ _ _ _ _
  refine q_aload_n dX11_layOut_20 rfl ?_
  refine q_aload_n dX11_layOut_21 rfl ?_
  refine q_ic (v := 0) dX11_layOut_22 rfl ?_
  refine q_ic (v := 0) dX11_layOut_23 rfl ?_
  refine q_ic (v := 0) dX11_layOut_24 rfl ?_
  show q_K _ (q_sM uMI9 zJ1) _ _ _ _ _ _
  refine q_V3 (ci := 11) (n := 0) dX11_layOut_25 DX11_term lX11_389 rfl (by decide) rfl rfl rfl rfl uM_X11_term_13 ?_
  rintro _ _ ⟨rfl, rfl⟩
  refine q_putI (c := 11) (n := 0) (k := 50) dX11_layOut_28 rfl (by decide) (by decide) fX11_402 rfl rfl ?_
  show q_K _ (q_sM (q_up uMI10 139 50 0) zJ1) _ _ _ _ _ _
  refine q_aload_n dX11_layOut_31 rfl ?_
  refine q_aload_n dX11_layOut_32 rfl ?_
  refine q_ic (v := 1) dX11_layOut_33 rfl ?_
  refine q_ic (v := 0) dX11_layOut_34 rfl ?_
  refine q_ic (v := 0) dX11_layOut_35 rfl ?_
  show q_K _ (q_sM uMI11 zJ1) _ _ _ _ _ _
  refine q_V3 (ci := 11) (n := 0) dX11_layOut_36 DX11_term lX11_389 rfl (by decide) rfl rfl rfl rfl uM_X11_term_14 ?_
  rintro _ _ ⟨rfl, rfl⟩
  refine q_putI (c := 11) (n := 0) (k := 51) dX11_layOut_39 rfl (by decide) (by decide) fX11_405 rfl rfl ?_
  show q_K _ (q_sM (q_up uMI12 139 51 1) zJ1) _ _ _ _ _ _
  refine q_ic (v := 0) dX11_layOut_42 rfl ?_
  refine q_istore_n dX11_layOut_43 (Nat.le_of_ble_eq_true rfl) ?_
  refine q_iload_n dX11_layOut_44 rfl ?_
  refine q_aload_n dX11_layOut_45 rfl ?_
  refine q_getR (c := 11) (n := 0) (k := 12) (a := 143) dX11_layOut_46 rfl (by decide) (by decide) fX11_24 rfl rfl ?_
  refine q_iload_n dX11_layOut_49 rfl ?_
  refine q_iald (n := 6) (j := 0) dX11_layOut_50 rfl rfl (by decide) ?_
  refine q_topI (v := 0) rfl ?_
  refine q_cz_ge (tgt := 78) (a := 0) (b := 0) dX11_layOut_51 (by decide) rfl rfl (fun _ => ?_) (fun h => absurd h (by decide))
  refine q_ic (v := 0) dX11_layOut_78 rfl ?_
  refine q_istore_n dX11_layOut_79 (Nat.le_of_ble_eq_true rfl) ?_
  refine q_iload_n dX11_layOut_80 rfl ?_
  refine q_aload_n dX11_layOut_81 rfl ?_
  refine q_getf (c := 11) (n := 0) (k := 48) (v := .int 0) dX11_layOut_82 rfl (by decide) (by decide) fX11_396 rfl ?_
  refine q_cz_ge (tgt := 134) (a := 0) (b := 0) dX11_layOut_85 (by decide) rfl rfl (fun _ => ?_) (fun h => absurd h (by decide))
  show q_K _ (q_sM uMI13 zJ1) _ _ _ _ _ _
  refine q_ret dX11_layOut_134 rfl ?_
  exact ⟨rfl, rfl⟩
set_option maxRecDepth 20000 in
theorem uM_X11_layNow_16 : q_met mX11_layNow (q_sM zI6 zJ1) [.ref 139] (fun s r => s = q_sM uMI13 zJ1 ∧ r = none) := by
  refine q_enter (by decide) (Nat.le_of_ble_eq_true rfl) ?_
  refine q_aload_n dX11_layNow_0 rfl ?_
  refine q_getf (c := 11) (n := 0) (k := 49) (v := .int (-1)) dX11_layNow_1 rfl (by decide) (by decide) fX11_118 rfl ?_
  refine q_aload_n dX11_layNow_4 rfl ?_
  refine q_getf (c := 11) (n := 0) (k := 28) (v := .int 0) dX11_layNow_5 rfl (by decide) (by decide) fX11_321 rfl ?_
  refine q_cz_eq (tgt := 19) (a := -1) (b := 0) dX11_layNow_8 (by decide) rfl rfl (fun h => absurd h (by decide)) (fun _ => ?_)
  refine q_aload_n dX11_layNow_11 rfl ?_
  refine q_aload_n dX11_layNow_12 rfl ?_
  refine q_getf (c := 11) (n := 0) (k := 28) (v := .int 0) dX11_layNow_13 rfl (by decide) (by decide) fX11_321 rfl ?_
  refine q_V1 (ci := 11) (n := 0) dX11_layNow_16 DX11_layOut lX11_454 rfl (by decide) rfl rfl rfl rfl uM_X11_layOut_15 ?_
  rintro _ _ ⟨rfl, rfl⟩
  refine q_ret dX11_layNow_19 rfl ?_
  exact ⟨rfl, rfl⟩
theorem dX11_allPlaces_0 : decode cX11_allPlaces 0 = .ok (.lconst 1, 1) := by decide +kernel
theorem dX11_allPlaces_1 : decode cX11_allPlaces 1 = .ok (.aload_n 0, 1) := by decide +kernel
theorem dX11_allPlaces_2 : decode cX11_allPlaces 2 = .ok (.getfield 20, 3) := by decide +kernel
theorem dX11_allPlaces_5 : decode cX11_allPlaces 5 = .ok (.aload_n 0, 1) := by decide +kernel
theorem dX11_allPlaces_6 : decode cX11_allPlaces 6 = .ok (.getfield 321, 3) := by decide +kernel
theorem dX11_allPlaces_9 : decode cX11_allPlaces 9 = .ok (.iaload, 1) := by decide +kernel
theorem dX11_allPlaces_10 : decode cX11_allPlaces 10 = .ok (.lshl, 1) := by decide +kernel
theorem dX11_allPlaces_11 : decode cX11_allPlaces 11 = .ok (.lconst 1, 1) := by decide +kernel
theorem dX11_allPlaces_12 : decode cX11_allPlaces 12 = .ok (.lsub, 1) := by decide +kernel
theorem dX11_allPlaces_13 : decode cX11_allPlaces 13 = .ok (.lreturn, 1) := by decide +kernel
set_option maxRecDepth 20000 in
theorem uM_X11_allPlaces_17 : q_met mX11_allPlaces (q_sM uMI13 zJ1) [.ref 139] (fun s r => s = q_sM uMI13 zJ1 ∧ r = some (.long 0)) := by
  refine q_enter (by decide) (Nat.le_of_ble_eq_true rfl) ?_
  refine q_lc (v := 1) dX11_allPlaces_0 rfl ?_
  refine q_aload_n dX11_allPlaces_1 rfl ?_
  refine q_getR (c := 11) (n := 0) (k := 11) (a := 142) dX11_allPlaces_2 rfl (by decide) (by decide) fX11_20 rfl rfl ?_
  refine q_aload_n dX11_allPlaces_5 rfl ?_
  refine q_getf (c := 11) (n := 0) (k := 28) (v := .int 0) dX11_allPlaces_6 rfl (by decide) (by decide) fX11_321 rfl ?_
  refine q_iald (n := 6) (j := 0) dX11_allPlaces_9 rfl rfl (by decide) ?_
  refine q_topI (v := 0) rfl ?_
  refine q_lshl dX11_allPlaces_10 ?_
  refine q_topL (v := 1) rfl ?_
  refine q_lc (v := 1) dX11_allPlaces_11 rfl ?_
  refine q_lsub dX11_allPlaces_12 ?_
  refine q_topL (v := 0) rfl ?_
  refine q_lret dX11_allPlaces_13 rfl ?_
  exact ⟨rfl, rfl⟩
theorem dX11_clash_0 : decode cX11_clash 0 = .ok (.aload_n 0, 1) := by decide +kernel
theorem dX11_clash_1 : decode cX11_clash 1 = .ok (.lload_n 1, 1) := by decide +kernel
theorem dX11_clash_2 : decode cX11_clash 2 = .ok (.invokevirtual 457, 3) := by decide +kernel
theorem dX11_clash_5 : decode cX11_clash 5 = .ok (.ifCond .ne 7, 3) := by decide +kernel
theorem dX11_clash_8 : decode cX11_clash 8 = .ok (.iconst 1, 1) := by decide +kernel
theorem dX11_clash_9 : decode cX11_clash 9 = .ok (.goto 4, 3) := by decide +kernel
theorem dX11_clash_12 : decode cX11_clash 12 = .ok (.iconst 0, 1) := by decide +kernel
theorem dX11_clash_13 : decode cX11_clash 13 = .ok (.ireturn, 1) := by decide +kernel
theorem dX11_makes_0 : decode cX11_makes 0 = .ok (.iconst 0, 1) := by decide +kernel
theorem dX11_makes_1 : decode cX11_makes 1 = .ok (.istore_n 3, 1) := by decide +kernel
theorem dX11_makes_2 : decode cX11_makes 2 = .ok (.iload_n 3, 1) := by decide +kernel
theorem dX11_makes_3 : decode cX11_makes 3 = .ok (.aload_n 0, 1) := by decide +kernel
theorem dX11_makes_4 : decode cX11_makes 4 = .ok (.getfield 386, 3) := by decide +kernel
theorem dX11_makes_7 : decode cX11_makes 7 = .ok (.if_icmp .ge 16, 3) := by decide +kernel
theorem dX11_makes_10 : decode cX11_makes 10 = .ok (.aload_n 0, 1) := by decide +kernel
theorem dX11_makes_11 : decode cX11_makes 11 = .ok (.getfield 88, 3) := by decide +kernel
theorem dX11_makes_14 : decode cX11_makes 14 = .ok (.iload_n 3, 1) := by decide +kernel
theorem dX11_makes_15 : decode cX11_makes 15 = .ok (.iload_n 3, 1) := by decide +kernel
theorem dX11_makes_16 : decode cX11_makes 16 = .ok (.iastore, 1) := by decide +kernel
theorem dX11_makes_17 : decode cX11_makes 17 = .ok (.iinc 3 1, 3) := by decide +kernel
theorem dX11_makes_20 : decode cX11_makes 20 = .ok (.goto (-18), 3) := by decide +kernel
theorem dX11_makes_23 : decode cX11_makes 23 = .ok (.iconst 0, 1) := by decide +kernel
theorem dX11_makes_24 : decode cX11_makes 24 = .ok (.istore_n 3, 1) := by decide +kernel
theorem dX11_makes_25 : decode cX11_makes 25 = .ok (.iload_n 3, 1) := by decide +kernel
theorem dX11_makes_26 : decode cX11_makes 26 = .ok (.aload_n 0, 1) := by decide +kernel
theorem dX11_makes_27 : decode cX11_makes 27 = .ok (.getfield 393, 3) := by decide +kernel
theorem dX11_makes_30 : decode cX11_makes 30 = .ok (.if_icmp .ge 45, 3) := by decide +kernel
theorem dX11_makes_33 : decode cX11_makes 33 = .ok (.lload_n 1, 1) := by decide +kernel
theorem dX11_makes_34 : decode cX11_makes 34 = .ok (.aload_n 0, 1) := by decide +kernel
theorem dX11_makes_35 : decode cX11_makes 35 = .ok (.getfield 97, 3) := by decide +kernel
theorem dX11_makes_38 : decode cX11_makes 38 = .ok (.iload_n 3, 1) := by decide +kernel
theorem dX11_makes_39 : decode cX11_makes 39 = .ok (.iaload, 1) := by decide +kernel
theorem dX11_makes_40 : decode cX11_makes 40 = .ok (.lshr, 1) := by decide +kernel
theorem dX11_makes_41 : decode cX11_makes 41 = .ok (.lconst 1, 1) := by decide +kernel
theorem dX11_makes_42 : decode cX11_makes 42 = .ok (.land, 1) := by decide +kernel
theorem dX11_makes_43 : decode cX11_makes 43 = .ok (.lconst 1, 1) := by decide +kernel
theorem dX11_makes_44 : decode cX11_makes 44 = .ok (.lcmp, 1) := by decide +kernel
theorem dX11_makes_45 : decode cX11_makes 45 = .ok (.ifCond .ne 24, 3) := by decide +kernel
theorem dX11_makes_48 : decode cX11_makes 48 = .ok (.aload_n 0, 1) := by decide +kernel
theorem dX11_makes_49 : decode cX11_makes 49 = .ok (.aload_n 0, 1) := by decide +kernel
theorem dX11_makes_50 : decode cX11_makes 50 = .ok (.getfield 100, 3) := by decide +kernel
theorem dX11_makes_53 : decode cX11_makes 53 = .ok (.iload_n 3, 1) := by decide +kernel
theorem dX11_makes_54 : decode cX11_makes 54 = .ok (.iaload, 1) := by decide +kernel
theorem dX11_makes_55 : decode cX11_makes 55 = .ok (.aload_n 0, 1) := by decide +kernel
theorem dX11_makes_56 : decode cX11_makes 56 = .ok (.getfield 103, 3) := by decide +kernel
theorem dX11_makes_59 : decode cX11_makes 59 = .ok (.iload_n 3, 1) := by decide +kernel
theorem dX11_makes_60 : decode cX11_makes 60 = .ok (.iaload, 1) := by decide +kernel
theorem dX11_makes_61 : decode cX11_makes 61 = .ok (.invokevirtual 447, 3) := by decide +kernel
theorem dX11_makes_64 : decode cX11_makes 64 = .ok (.ifCond .ne 5, 3) := by decide +kernel
theorem dX11_makes_67 : decode cX11_makes 67 = .ok (.iconst 0, 1) := by decide +kernel
theorem dX11_makes_68 : decode cX11_makes 68 = .ok (.ireturn, 1) := by decide +kernel
theorem dX11_makes_69 : decode cX11_makes 69 = .ok (.iinc 3 1, 3) := by decide +kernel
theorem dX11_makes_72 : decode cX11_makes 72 = .ok (.goto (-47), 3) := by decide +kernel
theorem dX11_makes_75 : decode cX11_makes 75 = .ok (.aload_n 0, 1) := by decide +kernel
theorem dX11_makes_76 : decode cX11_makes 76 = .ok (.invokevirtual 451, 3) := by decide +kernel
theorem dX11_makes_79 : decode cX11_makes 79 = .ok (.ireturn, 1) := by decide +kernel
def uMI14 : Nat → Nat → Int32 := q_up (q_up uMI13 164 0 0) 164 1 (0 + 1)
theorem dX11_isSound_0 : decode cX11_isSound 0 = .ok (.iconst 0, 1) := by decide +kernel
theorem dX11_isSound_1 : decode cX11_isSound 1 = .ok (.istore_n 1, 1) := by decide +kernel
theorem dX11_isSound_2 : decode cX11_isSound 2 = .ok (.iconst 0, 1) := by decide +kernel
theorem dX11_isSound_3 : decode cX11_isSound 3 = .ok (.istore_n 2, 1) := by decide +kernel
theorem dX11_isSound_4 : decode cX11_isSound 4 = .ok (.iload_n 2, 1) := by decide +kernel
theorem dX11_isSound_5 : decode cX11_isSound 5 = .ok (.aload_n 0, 1) := by decide +kernel
theorem dX11_isSound_6 : decode cX11_isSound 6 = .ok (.getfield 386, 3) := by decide +kernel
theorem dX11_isSound_9 : decode cX11_isSound 9 = .ok (.if_icmp .ge 16, 3) := by decide +kernel
theorem dX11_isSound_12 : decode cX11_isSound 12 = .ok (.aload_n 0, 1) := by decide +kernel
theorem dX11_isSound_13 : decode cX11_isSound 13 = .ok (.getfield 91, 3) := by decide +kernel
theorem dX11_isSound_16 : decode cX11_isSound 16 = .ok (.iload_n 2, 1) := by decide +kernel
theorem dX11_isSound_17 : decode cX11_isSound 17 = .ok (.iconst 0, 1) := by decide +kernel
theorem dX11_isSound_18 : decode cX11_isSound 18 = .ok (.iastore, 1) := by decide +kernel
theorem dX11_isSound_19 : decode cX11_isSound 19 = .ok (.iinc 2 1, 3) := by decide +kernel
theorem dX11_isSound_22 : decode cX11_isSound 22 = .ok (.goto (-18), 3) := by decide +kernel
theorem dX11_isSound_25 : decode cX11_isSound 25 = .ok (.iconst 0, 1) := by decide +kernel
theorem dX11_isSound_26 : decode cX11_isSound 26 = .ok (.istore_n 2, 1) := by decide +kernel
theorem dX11_isSound_27 : decode cX11_isSound 27 = .ok (.iload_n 2, 1) := by decide +kernel
theorem dX11_isSound_28 : decode cX11_isSound 28 = .ok (.aload_n 0, 1) := by decide +kernel
theorem dX11_isSound_29 : decode cX11_isSound 29 = .ok (.getfield 386, 3) := by decide +kernel
theorem dX11_isSound_32 : decode cX11_isSound 32 = .ok (.if_icmp .ge 85, 3) := by decide +kernel
theorem dX11_isSound_35 : decode cX11_isSound 35 = .ok (.aload_n 0, 1) := by decide +kernel
theorem dX11_isSound_36 : decode cX11_isSound 36 = .ok (.getfield 88, 3) := by decide +kernel
theorem dX11_isSound_39 : decode cX11_isSound 39 = .ok (.iload_n 2, 1) := by decide +kernel
theorem dX11_isSound_40 : decode cX11_isSound 40 = .ok (.iaload, 1) := by decide +kernel
theorem dX11_isSound_41 : decode cX11_isSound 41 = .ok (.iload_n 2, 1) := by decide +kernel
theorem dX11_isSound_42 : decode cX11_isSound 42 = .ok (.if_icmp .ne 69, 3) := by decide +kernel
theorem dX11_isSound_45 : decode cX11_isSound 45 = .ok (.aload_n 0, 1) := by decide +kernel
theorem dX11_isSound_46 : decode cX11_isSound 46 = .ok (.getfield 79, 3) := by decide +kernel
theorem dX11_isSound_49 : decode cX11_isSound 49 = .ok (.iload_n 2, 1) := by decide +kernel
theorem dX11_isSound_50 : decode cX11_isSound 50 = .ok (.iaload, 1) := by decide +kernel
theorem dX11_isSound_51 : decode cX11_isSound 51 = .ok (.invokestatic 441, 3) := by decide +kernel
theorem dX11_isSound_54 : decode cX11_isSound 54 = .ok (.ifCond .ne 6, 3) := by decide +kernel
theorem dX11_isSound_57 : decode cX11_isSound 57 = .ok (.goto 54, 3) := by decide +kernel
theorem dX11_isSound_60 : decode cX11_isSound 60 = .ok (.iinc 1 1, 3) := by decide +kernel
theorem dX11_isSound_63 : decode cX11_isSound 63 = .ok (.aload_n 0, 1) := by decide +kernel
theorem dX11_isSound_64 : decode cX11_isSound 64 = .ok (.getfield 91, 3) := by decide +kernel
theorem dX11_isSound_67 : decode cX11_isSound 67 = .ok (.aload_n 0, 1) := by decide +kernel
theorem dX11_isSound_68 : decode cX11_isSound 68 = .ok (.aload_n 0, 1) := by decide +kernel
theorem dX11_isSound_69 : decode cX11_isSound 69 = .ok (.getfield 82, 3) := by decide +kernel
theorem dX11_isSound_72 : decode cX11_isSound 72 = .ok (.iload_n 2, 1) := by decide +kernel
theorem dX11_isSound_73 : decode cX11_isSound 73 = .ok (.iaload, 1) := by decide +kernel
theorem dX11_isSound_74 : decode cX11_isSound 74 = .ok (.invokevirtual 438, 3) := by decide +kernel
theorem dX11_isSound_77 : decode cX11_isSound 77 = .ok (.dup2, 1) := by decide +kernel
theorem dX11_isSound_78 : decode cX11_isSound 78 = .ok (.iaload, 1) := by decide +kernel
theorem dX11_isSound_79 : decode cX11_isSound 79 = .ok (.iconst 1, 1) := by decide +kernel
theorem dX11_isSound_80 : decode cX11_isSound 80 = .ok (.iadd, 1) := by decide +kernel
theorem dX11_isSound_81 : decode cX11_isSound 81 = .ok (.iastore, 1) := by decide +kernel
theorem dX11_isSound_82 : decode cX11_isSound 82 = .ok (.aload_n 0, 1) := by decide +kernel
theorem dX11_isSound_83 : decode cX11_isSound 83 = .ok (.getfield 79, 3) := by decide +kernel
theorem dX11_isSound_86 : decode cX11_isSound 86 = .ok (.iload_n 2, 1) := by decide +kernel
theorem dX11_isSound_87 : decode cX11_isSound 87 = .ok (.iaload, 1) := by decide +kernel
theorem dX11_isSound_88 : decode cX11_isSound 88 = .ok (.iconst 3, 1) := by decide +kernel
theorem dX11_isSound_89 : decode cX11_isSound 89 = .ok (.if_icmp .eq 22, 3) := by decide +kernel
theorem dX11_isSound_92 : decode cX11_isSound 92 = .ok (.aload_n 0, 1) := by decide +kernel
theorem dX11_isSound_93 : decode cX11_isSound 93 = .ok (.getfield 91, 3) := by decide +kernel
theorem dX11_isSound_96 : decode cX11_isSound 96 = .ok (.aload_n 0, 1) := by decide +kernel
theorem dX11_isSound_97 : decode cX11_isSound 97 = .ok (.aload_n 0, 1) := by decide +kernel
theorem dX11_isSound_98 : decode cX11_isSound 98 = .ok (.getfield 85, 3) := by decide +kernel
theorem dX11_isSound_101 : decode cX11_isSound 101 = .ok (.iload_n 2, 1) := by decide +kernel
theorem dX11_isSound_102 : decode cX11_isSound 102 = .ok (.iaload, 1) := by decide +kernel
theorem dX11_isSound_103 : decode cX11_isSound 103 = .ok (.invokevirtual 438, 3) := by decide +kernel
theorem dX11_isSound_106 : decode cX11_isSound 106 = .ok (.dup2, 1) := by decide +kernel
theorem dX11_isSound_107 : decode cX11_isSound 107 = .ok (.iaload, 1) := by decide +kernel
theorem dX11_isSound_108 : decode cX11_isSound 108 = .ok (.iconst 1, 1) := by decide +kernel
theorem dX11_isSound_109 : decode cX11_isSound 109 = .ok (.iadd, 1) := by decide +kernel
theorem dX11_isSound_110 : decode cX11_isSound 110 = .ok (.iastore, 1) := by decide +kernel
theorem dX11_isSound_111 : decode cX11_isSound 111 = .ok (.iinc 2 1, 3) := by decide +kernel
theorem dX11_isSound_114 : decode cX11_isSound 114 = .ok (.goto (-87), 3) := by decide +kernel
theorem dX11_isSound_117 : decode cX11_isSound 117 = .ok (.iconst 0, 1) := by decide +kernel
theorem dX11_isSound_118 : decode cX11_isSound 118 = .ok (.istore_n 2, 1) := by decide +kernel
theorem dX11_isSound_119 : decode cX11_isSound 119 = .ok (.iconst 0, 1) := by decide +kernel
theorem dX11_isSound_120 : decode cX11_isSound 120 = .ok (.istore_n 3, 1) := by decide +kernel
theorem dX11_isSound_121 : decode cX11_isSound 121 = .ok (.iload_n 3, 1) := by decide +kernel
theorem dX11_isSound_122 : decode cX11_isSound 122 = .ok (.aload_n 0, 1) := by decide +kernel
theorem dX11_isSound_123 : decode cX11_isSound 123 = .ok (.getfield 386, 3) := by decide +kernel
theorem dX11_isSound_126 : decode cX11_isSound 126 = .ok (.if_icmp .ge 53, 3) := by decide +kernel
theorem dX11_isSound_129 : decode cX11_isSound 129 = .ok (.aload_n 0, 1) := by decide +kernel
theorem dX11_isSound_130 : decode cX11_isSound 130 = .ok (.getfield 88, 3) := by decide +kernel
theorem dX11_isSound_133 : decode cX11_isSound 133 = .ok (.iload_n 3, 1) := by decide +kernel
theorem dX11_isSound_134 : decode cX11_isSound 134 = .ok (.iaload, 1) := by decide +kernel
theorem dX11_isSound_135 : decode cX11_isSound 135 = .ok (.iload_n 3, 1) := by decide +kernel
theorem dX11_isSound_136 : decode cX11_isSound 136 = .ok (.if_icmp .ne 37, 3) := by decide +kernel
theorem dX11_isSound_139 : decode cX11_isSound 139 = .ok (.aload_n 0, 1) := by decide +kernel
theorem dX11_isSound_140 : decode cX11_isSound 140 = .ok (.getfield 79, 3) := by decide +kernel
theorem dX11_isSound_143 : decode cX11_isSound 143 = .ok (.iload_n 3, 1) := by decide +kernel
theorem dX11_isSound_144 : decode cX11_isSound 144 = .ok (.iaload, 1) := by decide +kernel
theorem dX11_isSound_145 : decode cX11_isSound 145 = .ok (.invokestatic 441, 3) := by decide +kernel
theorem dX11_isSound_148 : decode cX11_isSound 148 = .ok (.ifCond .eq 25, 3) := by decide +kernel
theorem dX11_isSound_151 : decode cX11_isSound 151 = .ok (.aload_n 0, 1) := by decide +kernel
theorem dX11_isSound_152 : decode cX11_isSound 152 = .ok (.getfield 91, 3) := by decide +kernel
theorem dX11_isSound_155 : decode cX11_isSound 155 = .ok (.iload_n 3, 1) := by decide +kernel
theorem dX11_isSound_156 : decode cX11_isSound 156 = .ok (.iaload, 1) := by decide +kernel
theorem dX11_isSound_157 : decode cX11_isSound 157 = .ok (.ifCond .le 6, 3) := by decide +kernel
theorem dX11_isSound_160 : decode cX11_isSound 160 = .ok (.goto 13, 3) := by decide +kernel
theorem dX11_isSound_163 : decode cX11_isSound 163 = .ok (.aload_n 0, 1) := by decide +kernel
theorem dX11_isSound_164 : decode cX11_isSound 164 = .ok (.getfield 94, 3) := by decide +kernel
theorem dX11_isSound_167 : decode cX11_isSound 167 = .ok (.iload_n 2, 1) := by decide +kernel
theorem dX11_isSound_168 : decode cX11_isSound 168 = .ok (.iload_n 3, 1) := by decide +kernel
theorem dX11_isSound_169 : decode cX11_isSound 169 = .ok (.iastore, 1) := by decide +kernel
theorem dX11_isSound_170 : decode cX11_isSound 170 = .ok (.iinc 2 1, 3) := by decide +kernel
theorem dX11_isSound_173 : decode cX11_isSound 173 = .ok (.iinc 3 1, 3) := by decide +kernel
theorem dX11_isSound_176 : decode cX11_isSound 176 = .ok (.goto (-55), 3) := by decide +kernel
theorem dX11_isSound_179 : decode cX11_isSound 179 = .ok (.iload_n 2, 1) := by decide +kernel
theorem dX11_isSound_180 : decode cX11_isSound 180 = .ok (.ifCond .le 61, 3) := by decide +kernel
theorem dX11_isSound_183 : decode cX11_isSound 183 = .ok (.iinc 2 (-1), 3) := by decide +kernel
theorem dX11_isSound_186 : decode cX11_isSound 186 = .ok (.aload_n 0, 1) := by decide +kernel
theorem dX11_isSound_187 : decode cX11_isSound 187 = .ok (.getfield 94, 3) := by decide +kernel
theorem dX11_isSound_190 : decode cX11_isSound 190 = .ok (.iload_n 2, 1) := by decide +kernel
theorem dX11_isSound_191 : decode cX11_isSound 191 = .ok (.iaload, 1) := by decide +kernel
theorem dX11_isSound_192 : decode cX11_isSound 192 = .ok (.istore_n 3, 1) := by decide +kernel
theorem dX11_isSound_193 : decode cX11_isSound 193 = .ok (.iinc 1 (-1), 3) := by decide +kernel
theorem dX11_isSound_196 : decode cX11_isSound 196 = .ok (.aload_n 0, 1) := by decide +kernel
theorem dX11_isSound_197 : decode cX11_isSound 197 = .ok (.aload_n 0, 1) := by decide +kernel
theorem dX11_isSound_198 : decode cX11_isSound 198 = .ok (.aload_n 0, 1) := by decide +kernel
theorem dX11_isSound_199 : decode cX11_isSound 199 = .ok (.getfield 82, 3) := by decide +kernel
theorem dX11_isSound_202 : decode cX11_isSound 202 = .ok (.iload_n 3, 1) := by decide +kernel
theorem dX11_isSound_203 : decode cX11_isSound 203 = .ok (.iaload, 1) := by decide +kernel
theorem dX11_isSound_204 : decode cX11_isSound 204 = .ok (.invokevirtual 438, 3) := by decide +kernel
theorem dX11_isSound_207 : decode cX11_isSound 207 = .ok (.iload_n 2, 1) := by decide +kernel
theorem dX11_isSound_208 : decode cX11_isSound 208 = .ok (.invokevirtual 444, 3) := by decide +kernel
theorem dX11_isSound_211 : decode cX11_isSound 211 = .ok (.istore_n 2, 1) := by decide +kernel
theorem dX11_isSound_212 : decode cX11_isSound 212 = .ok (.aload_n 0, 1) := by decide +kernel
theorem dX11_isSound_213 : decode cX11_isSound 213 = .ok (.getfield 79, 3) := by decide +kernel
theorem dX11_isSound_216 : decode cX11_isSound 216 = .ok (.iload_n 3, 1) := by decide +kernel
theorem dX11_isSound_217 : decode cX11_isSound 217 = .ok (.iaload, 1) := by decide +kernel
theorem dX11_isSound_218 : decode cX11_isSound 218 = .ok (.iconst 3, 1) := by decide +kernel
theorem dX11_isSound_219 : decode cX11_isSound 219 = .ok (.if_icmp .eq 19, 3) := by decide +kernel
theorem dX11_isSound_222 : decode cX11_isSound 222 = .ok (.aload_n 0, 1) := by decide +kernel
theorem dX11_isSound_223 : decode cX11_isSound 223 = .ok (.aload_n 0, 1) := by decide +kernel
theorem dX11_isSound_224 : decode cX11_isSound 224 = .ok (.aload_n 0, 1) := by decide +kernel
theorem dX11_isSound_225 : decode cX11_isSound 225 = .ok (.getfield 85, 3) := by decide +kernel
theorem dX11_isSound_228 : decode cX11_isSound 228 = .ok (.iload_n 3, 1) := by decide +kernel
theorem dX11_isSound_229 : decode cX11_isSound 229 = .ok (.iaload, 1) := by decide +kernel
theorem dX11_isSound_230 : decode cX11_isSound 230 = .ok (.invokevirtual 438, 3) := by decide +kernel
theorem dX11_isSound_233 : decode cX11_isSound 233 = .ok (.iload_n 2, 1) := by decide +kernel
theorem dX11_isSound_234 : decode cX11_isSound 234 = .ok (.invokevirtual 444, 3) := by decide +kernel
theorem dX11_isSound_237 : decode cX11_isSound 237 = .ok (.istore_n 2, 1) := by decide +kernel
theorem dX11_isSound_238 : decode cX11_isSound 238 = .ok (.goto (-59), 3) := by decide +kernel
theorem dX11_isSound_241 : decode cX11_isSound 241 = .ok (.iload_n 1, 1) := by decide +kernel
theorem dX11_isSound_242 : decode cX11_isSound 242 = .ok (.ifCond .ne 7, 3) := by decide +kernel
theorem dX11_isSound_245 : decode cX11_isSound 245 = .ok (.iconst 1, 1) := by decide +kernel
theorem dX11_isSound_246 : decode cX11_isSound 246 = .ok (.goto 4, 3) := by decide +kernel
theorem dX11_isSound_249 : decode cX11_isSound 249 = .ok (.iconst 0, 1) := by decide +kernel
theorem dX11_isSound_250 : decode cX11_isSound 250 = .ok (.ireturn, 1) := by decide +kernel
def uMI15 : Nat → Nat → Int32 := q_up (q_up uMI14 165 0 0) 165 1 0
theorem dX11_isMade_0 : decode cX11_isMade 0 = .ok (.iload_n 0, 1) := by decide +kernel
theorem dX11_isMade_1 : decode cX11_isMade 1 = .ok (.iconst 2, 1) := by decide +kernel
theorem dX11_isMade_2 : decode cX11_isMade 2 = .ok (.if_icmp .le 7, 3) := by decide +kernel
theorem dX11_isMade_5 : decode cX11_isMade 5 = .ok (.iconst 1, 1) := by decide +kernel
theorem dX11_isMade_6 : decode cX11_isMade 6 = .ok (.goto 4, 3) := by decide +kernel
theorem dX11_isMade_9 : decode cX11_isMade 9 = .ok (.iconst 0, 1) := by decide +kernel
theorem dX11_isMade_10 : decode cX11_isMade 10 = .ok (.ireturn, 1) := by decide +kernel
set_option maxRecDepth 20000 in
theorem uM_X11_isMade_18 : q_met mX11_isMade (q_sM uMI15 zJ1) [.int 0] (fun s r => s = q_sM uMI15 zJ1 ∧ r = some (.int 0)) := by
  refine q_enter (by decide) (Nat.le_of_ble_eq_true rfl) ?_
  refine q_iload_n dX11_isMade_0 rfl ?_
  refine q_ic (v := 2) dX11_isMade_1 rfl ?_
  refine q_cz_le (tgt := 9) (a := 0) (b := 2) dX11_isMade_2 (by decide) rfl rfl (fun _ => ?_) (fun h => absurd h (by decide))
  refine q_ic (v := 0) dX11_isMade_9 rfl ?_
  refine q_zret dX11_isMade_10 rfl (Or.inl rfl) ?_
  exact ⟨rfl, rfl⟩
set_option maxRecDepth 20000 in
theorem uM_X11_isMade_19 : q_met mX11_isMade (q_sM uMI15 zJ1) [.int 1] (fun s r => s = q_sM uMI15 zJ1 ∧ r = some (.int 0)) := by
  refine q_enter (by decide) (Nat.le_of_ble_eq_true rfl) ?_
  refine q_iload_n dX11_isMade_0 rfl ?_
  refine q_ic (v := 2) dX11_isMade_1 rfl ?_
  refine q_cz_le (tgt := 9) (a := 1) (b := 2) dX11_isMade_2 (by decide) rfl rfl (fun _ => ?_) (fun h => absurd h (by decide))
  refine q_ic (v := 0) dX11_isMade_9 rfl ?_
  refine q_zret dX11_isMade_10 rfl (Or.inl rfl) ?_
  exact ⟨rfl, rfl⟩
set_option maxRecDepth 20000 in
theorem uM_X11_isSound_20 : q_met mX11_isSound (q_sM uMI14 zJ1) [.ref 139] (fun s r => s = q_sM uMI15 zJ1 ∧ r = some (.int 1)) := by
  refine q_enter (by decide) (Nat.le_of_ble_eq_true rfl) ?_
  refine q_ic (v := 0) dX11_isSound_0 rfl ?_
  refine q_istore_n dX11_isSound_1 (Nat.le_of_ble_eq_true rfl) ?_
  refine q_ic (v := 0) dX11_isSound_2 rfl ?_
  refine q_istore_n dX11_isSound_3 (Nat.le_of_ble_eq_true rfl) ?_
  refine q_iload_n dX11_isSound_4 rfl ?_
  refine q_aload_n dX11_isSound_5 rfl ?_
  refine q_getf (c := 11) (n := 0) (k := 46) (v := .int 2) dX11_isSound_6 rfl (by decide) (by decide) fX11_386 rfl ?_
  refine q_cz_ge (tgt := 25) (a := 0) (b := 2) dX11_isSound_9 (by decide) rfl rfl (fun h => absurd h (by decide)) (fun _ => ?_)
  refine q_aload_n dX11_isSound_12 rfl ?_
  refine q_getR (c := 11) (n := 0) (k := 37) (a := 165) dX11_isSound_13 rfl (by decide) (by decide) fX11_91 rfl rfl ?_
  refine q_iload_n dX11_isSound_16 rfl ?_
  refine q_ic (v := 0) dX11_isSound_17 rfl ?_
  refine q_iast (n := 12000) (j := 0) dX11_isSound_18 rfl rfl (by decide) ?_
  show q_K _ (q_sM (q_up uMI14 165 0 0) zJ1) _ _ _ _ _ _
  refine q_inc (v := 1) dX11_isSound_19 rfl (Nat.le_of_ble_eq_true rfl) rfl ?_
  refine q_goto (tgt := 4) dX11_isSound_22 (by decide) ?_
  refine q_iload_n dX11_isSound_4 rfl ?_
  refine q_aload_n dX11_isSound_5 rfl ?_
  refine q_getf (c := 11) (n := 0) (k := 46) (v := .int 2) dX11_isSound_6 rfl (by decide) (by decide) fX11_386 rfl ?_
  refine q_cz_ge (tgt := 25) (a := 1) (b := 2) dX11_isSound_9 (by decide) rfl rfl (fun h => absurd h (by decide)) (fun _ => ?_)
  refine q_aload_n dX11_isSound_12 rfl ?_
  refine q_getR (c := 11) (n := 0) (k := 37) (a := 165) dX11_isSound_13 rfl (by decide) (by decide) fX11_91 rfl rfl ?_
  refine q_iload_n dX11_isSound_16 rfl ?_
  refine q_ic (v := 0) dX11_isSound_17 rfl ?_
  refine q_iast (n := 12000) (j := 1) dX11_isSound_18 rfl rfl (by decide) ?_
  show q_K _ (q_sM (q_up (q_up uMI14 165 0 0) 165 1 0) zJ1) _ _ _ _ _ _
  refine q_inc (v := 1) dX11_isSound_19 rfl (Nat.le_of_ble_eq_true rfl) rfl ?_
  refine q_goto (tgt := 4) dX11_isSound_22 (by decide) ?_
  refine q_iload_n dX11_isSound_4 rfl ?_
  refine q_aload_n dX11_isSound_5 rfl ?_
  refine q_getf (c := 11) (n := 0) (k := 46) (v := .int 2) dX11_isSound_6 rfl (by decide) (by decide) fX11_386 rfl ?_
  refine q_cz_ge (tgt := 25) (a := 2) (b := 2) dX11_isSound_9 (by decide) rfl rfl (fun _ => ?_) (fun h => absurd h (by decide))
  refine q_ic (v := 0) dX11_isSound_25 rfl ?_
  refine q_istore_n dX11_isSound_26 (Nat.le_of_ble_eq_true rfl) ?_
  refine q_iload_n dX11_isSound_27 rfl ?_
  refine q_aload_n dX11_isSound_28 rfl ?_
  refine q_getf (c := 11) (n := 0) (k := 46) (v := .int 2) dX11_isSound_29 rfl (by decide) (by decide) fX11_386 rfl ?_
  refine q_cz_ge (tgt := 117) (a := 0) (b := 2) dX11_isSound_32 (by decide) rfl rfl (fun h => absurd h (by decide)) (fun _ => ?_)
  refine q_aload_n dX11_isSound_35 rfl ?_
  refine q_getR (c := 11) (n := 0) (k := 36) (a := 164) dX11_isSound_36 rfl (by decide) (by decide) fX11_88 rfl rfl ?_
  refine q_iload_n dX11_isSound_39 rfl ?_
  refine q_iald (n := 12000) (j := 0) dX11_isSound_40 rfl rfl (by decide) ?_
  refine q_topI (v := 0) rfl ?_
  refine q_iload_n dX11_isSound_41 rfl ?_
  refine q_cz_ne (tgt := 111) (a := 0) (b := 0) dX11_isSound_42 (by decide) rfl rfl (fun h => absurd h (by decide)) (fun _ => ?_)
  refine q_aload_n dX11_isSound_45 rfl ?_
  refine q_getR (c := 11) (n := 0) (k := 33) (a := 161) dX11_isSound_46 rfl (by decide) (by decide) fX11_79 rfl rfl ?_
  refine q_iload_n dX11_isSound_49 rfl ?_
  refine q_iald (n := 12000) (j := 0) dX11_isSound_50 rfl rfl (by decide) ?_
  refine q_topI (v := 0) rfl ?_
  show q_K _ (q_sM uMI15 zJ1) _ _ _ _ _ _
  refine q_S1 dX11_isSound_51 DX11_isMade lX11_441 rfl rfl rfl uM_X11_isMade_18 ?_
  rintro _ _ ⟨rfl, rfl⟩
  refine q_iz_ne (tgt := 60) (a := 0) dX11_isSound_54 (by decide) rfl (fun h => absurd h (by decide)) (fun _ => ?_)
  refine q_goto (tgt := 111) dX11_isSound_57 (by decide) ?_
  refine q_inc (v := 1) dX11_isSound_111 rfl (Nat.le_of_ble_eq_true rfl) rfl ?_
  refine q_goto (tgt := 27) dX11_isSound_114 (by decide) ?_
  refine q_iload_n dX11_isSound_27 rfl ?_
  refine q_aload_n dX11_isSound_28 rfl ?_
  refine q_getf (c := 11) (n := 0) (k := 46) (v := .int 2) dX11_isSound_29 rfl (by decide) (by decide) fX11_386 rfl ?_
  refine q_cz_ge (tgt := 117) (a := 1) (b := 2) dX11_isSound_32 (by decide) rfl rfl (fun h => absurd h (by decide)) (fun _ => ?_)
  refine q_aload_n dX11_isSound_35 rfl ?_
  refine q_getR (c := 11) (n := 0) (k := 36) (a := 164) dX11_isSound_36 rfl (by decide) (by decide) fX11_88 rfl rfl ?_
  refine q_iload_n dX11_isSound_39 rfl ?_
  refine q_iald (n := 12000) (j := 1) dX11_isSound_40 rfl rfl (by decide) ?_
  refine q_topI (v := 1) rfl ?_
  refine q_iload_n dX11_isSound_41 rfl ?_
  refine q_cz_ne (tgt := 111) (a := 1) (b := 1) dX11_isSound_42 (by decide) rfl rfl (fun h => absurd h (by decide)) (fun _ => ?_)
  refine q_aload_n dX11_isSound_45 rfl ?_
  refine q_getR (c := 11) (n := 0) (k := 33) (a := 161) dX11_isSound_46 rfl (by decide) (by decide) fX11_79 rfl rfl ?_
  refine q_iload_n dX11_isSound_49 rfl ?_
  refine q_iald (n := 12000) (j := 1) dX11_isSound_50 rfl rfl (by decide) ?_
  refine q_topI (v := 1) rfl ?_
  refine q_S1 dX11_isSound_51 DX11_isMade lX11_441 rfl rfl rfl uM_X11_isMade_19 ?_
  rintro _ _ ⟨rfl, rfl⟩
  refine q_iz_ne (tgt := 60) (a := 0) dX11_isSound_54 (by decide) rfl (fun h => absurd h (by decide)) (fun _ => ?_)
  refine q_goto (tgt := 111) dX11_isSound_57 (by decide) ?_
  refine q_inc (v := 1) dX11_isSound_111 rfl (Nat.le_of_ble_eq_true rfl) rfl ?_
  refine q_goto (tgt := 27) dX11_isSound_114 (by decide) ?_
  refine q_iload_n dX11_isSound_27 rfl ?_
  refine q_aload_n dX11_isSound_28 rfl ?_
  refine q_getf (c := 11) (n := 0) (k := 46) (v := .int 2) dX11_isSound_29 rfl (by decide) (by decide) fX11_386 rfl ?_
  refine q_cz_ge (tgt := 117) (a := 2) (b := 2) dX11_isSound_32 (by decide) rfl rfl (fun _ => ?_) (fun h => absurd h (by decide))
  refine q_ic (v := 0) dX11_isSound_117 rfl ?_
  refine q_istore_n dX11_isSound_118 (Nat.le_of_ble_eq_true rfl) ?_
  refine q_ic (v := 0) dX11_isSound_119 rfl ?_
  refine q_istore_n dX11_isSound_120 (Nat.le_of_ble_eq_true rfl) ?_
  refine q_iload_n dX11_isSound_121 rfl ?_
  refine q_aload_n dX11_isSound_122 rfl ?_
  refine q_getf (c := 11) (n := 0) (k := 46) (v := .int 2) dX11_isSound_123 rfl (by decide) (by decide) fX11_386 rfl ?_
  refine q_cz_ge (tgt := 179) (a := 0) (b := 2) dX11_isSound_126 (by decide) rfl rfl (fun h => absurd h (by decide)) (fun _ => ?_)
  refine q_aload_n dX11_isSound_129 rfl ?_
  refine q_getR (c := 11) (n := 0) (k := 36) (a := 164) dX11_isSound_130 rfl (by decide) (by decide) fX11_88 rfl rfl ?_
  refine q_iload_n dX11_isSound_133 rfl ?_
  refine q_iald (n := 12000) (j := 0) dX11_isSound_134 rfl rfl (by decide) ?_
  refine q_topI (v := 0) rfl ?_
  refine q_iload_n dX11_isSound_135 rfl ?_
  refine q_cz_ne (tgt := 173) (a := 0) (b := 0) dX11_isSound_136 (by decide) rfl rfl (fun h => absurd h (by decide)) (fun _ => ?_)
  refine q_aload_n dX11_isSound_139 rfl ?_
  refine q_getR (c := 11) (n := 0) (k := 33) (a := 161) dX11_isSound_140 rfl (by decide) (by decide) fX11_79 rfl rfl ?_
  refine q_iload_n dX11_isSound_143 rfl ?_
  refine q_iald (n := 12000) (j := 0) dX11_isSound_144 rfl rfl (by decide) ?_
  refine q_topI (v := 0) rfl ?_
  refine q_S1 dX11_isSound_145 DX11_isMade lX11_441 rfl rfl rfl uM_X11_isMade_18 ?_
  rintro _ _ ⟨rfl, rfl⟩
  refine q_iz_eq (tgt := 173) (a := 0) dX11_isSound_148 (by decide) rfl (fun _ => ?_) (fun h => absurd h (by decide))
  refine q_inc (v := 1) dX11_isSound_173 rfl (Nat.le_of_ble_eq_true rfl) rfl ?_
  refine q_goto (tgt := 121) dX11_isSound_176 (by decide) ?_
  refine q_iload_n dX11_isSound_121 rfl ?_
  refine q_aload_n dX11_isSound_122 rfl ?_
  refine q_getf (c := 11) (n := 0) (k := 46) (v := .int 2) dX11_isSound_123 rfl (by decide) (by decide) fX11_386 rfl ?_
  refine q_cz_ge (tgt := 179) (a := 1) (b := 2) dX11_isSound_126 (by decide) rfl rfl (fun h => absurd h (by decide)) (fun _ => ?_)
  refine q_aload_n dX11_isSound_129 rfl ?_
  refine q_getR (c := 11) (n := 0) (k := 36) (a := 164) dX11_isSound_130 rfl (by decide) (by decide) fX11_88 rfl rfl ?_
  refine q_iload_n dX11_isSound_133 rfl ?_
  refine q_iald (n := 12000) (j := 1) dX11_isSound_134 rfl rfl (by decide) ?_
  refine q_topI (v := 1) rfl ?_
  refine q_iload_n dX11_isSound_135 rfl ?_
  refine q_cz_ne (tgt := 173) (a := 1) (b := 1) dX11_isSound_136 (by decide) rfl rfl (fun h => absurd h (by decide)) (fun _ => ?_)
  refine q_aload_n dX11_isSound_139 rfl ?_
  refine q_getR (c := 11) (n := 0) (k := 33) (a := 161) dX11_isSound_140 rfl (by decide) (by decide) fX11_79 rfl rfl ?_
  refine q_iload_n dX11_isSound_143 rfl ?_
  refine q_iald (n := 12000) (j := 1) dX11_isSound_144 rfl rfl (by decide) ?_
  refine q_topI (v := 1) rfl ?_
  refine q_S1 dX11_isSound_145 DX11_isMade lX11_441 rfl rfl rfl uM_X11_isMade_19 ?_
  rintro _ _ ⟨rfl, rfl⟩
  refine q_iz_eq (tgt := 173) (a := 0) dX11_isSound_148 (by decide) rfl (fun _ => ?_) (fun h => absurd h (by decide))
  refine q_inc (v := 1) dX11_isSound_173 rfl (Nat.le_of_ble_eq_true rfl) rfl ?_
  refine q_goto (tgt := 121) dX11_isSound_176 (by decide) ?_
  refine q_iload_n dX11_isSound_121 rfl ?_
  refine q_aload_n dX11_isSound_122 rfl ?_
  refine q_getf (c := 11) (n := 0) (k := 46) (v := .int 2) dX11_isSound_123 rfl (by decide) (by decide) fX11_386 rfl ?_
  refine q_cz_ge (tgt := 179) (a := 2) (b := 2) dX11_isSound_126 (by decide) rfl rfl (fun _ => ?_) (fun h => absurd h (by decide))
  refine q_iload_n dX11_isSound_179 rfl ?_
  refine q_iz_le (tgt := 241) (a := 0) dX11_isSound_180 (by decide) rfl (fun _ => ?_) (fun h => absurd h (by decide))
  refine q_iload_n dX11_isSound_241 rfl ?_
  refine q_iz_ne (tgt := 249) (a := 0) dX11_isSound_242 (by decide) rfl (fun h => absurd h (by decide)) (fun _ => ?_)
  refine q_ic (v := 1) dX11_isSound_245 rfl ?_
  refine q_goto (tgt := 250) dX11_isSound_246 (by decide) ?_
  refine q_zret dX11_isSound_250 rfl (Or.inr rfl) ?_
  exact ⟨rfl, rfl⟩
set_option maxRecDepth 20000 in
theorem uM_X11_makes_21 : q_met mX11_makes (q_sM uMI13 zJ1) [.ref 139, .long 0] (fun s r => s = q_sM uMI15 zJ1 ∧ r = some (.int 1)) := by
  refine q_enter (by decide) (Nat.le_of_ble_eq_true rfl) ?_
  refine q_ic (v := 0) dX11_makes_0 rfl ?_
  refine q_istore_n dX11_makes_1 (Nat.le_of_ble_eq_true rfl) ?_
  refine q_iload_n dX11_makes_2 rfl ?_
  refine q_aload_n dX11_makes_3 rfl ?_
  refine q_getf (c := 11) (n := 0) (k := 46) (v := .int 2) dX11_makes_4 rfl (by decide) (by decide) fX11_386 rfl ?_
  refine q_cz_ge (tgt := 23) (a := 0) (b := 2) dX11_makes_7 (by decide) rfl rfl (fun h => absurd h (by decide)) (fun _ => ?_)
  refine q_aload_n dX11_makes_10 rfl ?_
  refine q_getR (c := 11) (n := 0) (k := 36) (a := 164) dX11_makes_11 rfl (by decide) (by decide) fX11_88 rfl rfl ?_
  refine q_iload_n dX11_makes_14 rfl ?_
  refine q_iload_n dX11_makes_15 rfl ?_
  refine q_iast (n := 12000) (j := 0) dX11_makes_16 rfl rfl (by decide) ?_
  show q_K _ (q_sM (q_up uMI13 164 0 0) zJ1) _ _ _ _ _ _
  refine q_inc (v := 1) dX11_makes_17 rfl (Nat.le_of_ble_eq_true rfl) rfl ?_
  refine q_goto (tgt := 2) dX11_makes_20 (by decide) ?_
  refine q_iload_n dX11_makes_2 rfl ?_
  refine q_aload_n dX11_makes_3 rfl ?_
  refine q_getf (c := 11) (n := 0) (k := 46) (v := .int 2) dX11_makes_4 rfl (by decide) (by decide) fX11_386 rfl ?_
  refine q_cz_ge (tgt := 23) (a := 1) (b := 2) dX11_makes_7 (by decide) rfl rfl (fun h => absurd h (by decide)) (fun _ => ?_)
  refine q_aload_n dX11_makes_10 rfl ?_
  refine q_getR (c := 11) (n := 0) (k := 36) (a := 164) dX11_makes_11 rfl (by decide) (by decide) fX11_88 rfl rfl ?_
  refine q_iload_n dX11_makes_14 rfl ?_
  refine q_iload_n dX11_makes_15 rfl ?_
  refine q_iast (n := 12000) (j := 1) dX11_makes_16 rfl rfl (by decide) ?_
  show q_K _ (q_sM (q_up (q_up uMI13 164 0 0) 164 1 (0 + 1)) zJ1) _ _ _ _ _ _
  refine q_inc (v := 1) dX11_makes_17 rfl (Nat.le_of_ble_eq_true rfl) rfl ?_
  refine q_goto (tgt := 2) dX11_makes_20 (by decide) ?_
  refine q_iload_n dX11_makes_2 rfl ?_
  refine q_aload_n dX11_makes_3 rfl ?_
  refine q_getf (c := 11) (n := 0) (k := 46) (v := .int 2) dX11_makes_4 rfl (by decide) (by decide) fX11_386 rfl ?_
  refine q_cz_ge (tgt := 23) (a := 2) (b := 2) dX11_makes_7 (by decide) rfl rfl (fun _ => ?_) (fun h => absurd h (by decide))
  refine q_ic (v := 0) dX11_makes_23 rfl ?_
  refine q_istore_n dX11_makes_24 (Nat.le_of_ble_eq_true rfl) ?_
  refine q_iload_n dX11_makes_25 rfl ?_
  refine q_aload_n dX11_makes_26 rfl ?_
  refine q_getf (c := 11) (n := 0) (k := 47) (v := .int 0) dX11_makes_27 rfl (by decide) (by decide) fX11_393 rfl ?_
  refine q_cz_ge (tgt := 75) (a := 0) (b := 0) dX11_makes_30 (by decide) rfl rfl (fun _ => ?_) (fun h => absurd h (by decide))
  refine q_aload_n dX11_makes_75 rfl ?_
  show q_K _ (q_sM uMI14 zJ1) _ _ _ _ _ _
  refine q_V0 (ci := 11) (n := 0) dX11_makes_76 DX11_isSound lX11_451 rfl (by decide) rfl rfl rfl rfl uM_X11_isSound_20 ?_
  rintro _ _ ⟨rfl, rfl⟩
  refine q_zret dX11_makes_79 rfl (Or.inr rfl) ?_
  exact ⟨rfl, rfl⟩
set_option maxRecDepth 20000 in
theorem uM_X11_clash_22 : q_met mX11_clash (q_sM uMI13 zJ1) [.ref 139, .long 0] (fun s r => s = q_sM uMI15 zJ1 ∧ r = some (.int 0)) := by
  refine q_enter (by decide) (Nat.le_of_ble_eq_true rfl) ?_
  refine q_aload_n dX11_clash_0 rfl ?_
  refine q_lload_n dX11_clash_1 rfl ?_
  refine q_V1 (ci := 11) (n := 0) dX11_clash_2 DX11_makes lX11_457 rfl (by decide) rfl rfl rfl rfl uM_X11_makes_21 ?_
  rintro _ _ ⟨rfl, rfl⟩
  refine q_iz_ne (tgt := 12) (a := 1) dX11_clash_5 (by decide) rfl (fun _ => ?_) (fun h => absurd h (by decide))
  refine q_ic (v := 0) dX11_clash_12 rfl ?_
  refine q_zret dX11_clash_13 rfl (Or.inl rfl) ?_
  exact ⟨rfl, rfl⟩
set_option maxRecDepth 20000 in
theorem frM_fits : q_met mX11_fits (q_sM zI6 zJ1) [.ref 139] (fun s r => (∃ I J, s = q_sM I J) ∧ ∃ v, r = some (.int v) ∧ v.toInt = (1 : Int)) := by
  refine q_enter (by decide) (Nat.le_of_ble_eq_true rfl) ?_
  refine q_aload_n dX11_fits_0 rfl ?_
  refine q_V0 (ci := 11) (n := 0) dX11_fits_1 DX11_layNow lX11_460 rfl (by decide) rfl rfl rfl rfl uM_X11_layNow_16 ?_
  rintro _ _ ⟨rfl, rfl⟩
  refine q_aload_n dX11_fits_4 rfl ?_
  refine q_aload_n dX11_fits_5 rfl ?_
  refine q_V0 (ci := 11) (n := 0) dX11_fits_6 DX11_allPlaces lX11_463 rfl (by decide) rfl rfl rfl rfl uM_X11_allPlaces_17 ?_
  rintro _ _ ⟨rfl, rfl⟩
  refine q_V1 (ci := 11) (n := 0) dX11_fits_9 DX11_clash lX11_467 rfl (by decide) rfl rfl rfl rfl uM_X11_clash_22 ?_
  rintro _ _ ⟨rfl, rfl⟩
  refine q_iz_eq (tgt := 19) (a := 0) dX11_fits_12 (by decide) rfl (fun _ => ?_) (fun h => absurd h (by decide))
  refine q_ic (v := 1) dX11_fits_19 rfl ?_
  refine q_iret dX11_fits_20 rfl ?_
  exact ⟨⟨_, _, rfl⟩, _, rfl, (by show (1 : Int) = _; first | rfl | omega | (split <;> omega) | (split <;> split <;> omega))⟩
theorem dX11_kind_0 : decode cX11_kind 0 = .ok (.aload_n 0, 1) := by decide +kernel
theorem dX11_kind_1 : decode cX11_kind 1 = .ok (.invokevirtual 460, 3) := by decide +kernel
theorem dX11_kind_4 : decode cX11_kind 4 = .ok (.aload_n 0, 1) := by decide +kernel
theorem dX11_kind_5 : decode cX11_kind 5 = .ok (.iload_n 1, 1) := by decide +kernel
theorem dX11_kind_6 : decode cX11_kind 6 = .ok (.invokevirtual 383, 3) := by decide +kernel
theorem dX11_kind_9 : decode cX11_kind 9 = .ok (.ifCond .eq 25, 3) := by decide +kernel
theorem dX11_kind_12 : decode cX11_kind 12 = .ok (.iload_n 2, 1) := by decide +kernel
theorem dX11_kind_13 : decode cX11_kind 13 = .ok (.iconst 0, 1) := by decide +kernel
theorem dX11_kind_14 : decode cX11_kind 14 = .ok (.sipush 499, 3) := by decide +kernel
theorem dX11_kind_17 : decode cX11_kind 17 = .ok (.invokestatic 379, 3) := by decide +kernel
theorem dX11_kind_20 : decode cX11_kind 20 = .ok (.ifCond .eq 14, 3) := by decide +kernel
theorem dX11_kind_23 : decode cX11_kind 23 = .ok (.aload_n 0, 1) := by decide +kernel
theorem dX11_kind_24 : decode cX11_kind 24 = .ok (.aload_n 0, 1) := by decide +kernel
theorem dX11_kind_25 : decode cX11_kind 25 = .ok (.invokevirtual 463, 3) := by decide +kernel
theorem dX11_kind_28 : decode cX11_kind 28 = .ok (.invokevirtual 467, 3) := by decide +kernel
theorem dX11_kind_31 : decode cX11_kind 31 = .ok (.ifCond .eq 5, 3) := by decide +kernel
theorem dX11_kind_34 : decode cX11_kind 34 = .ok (.iconst (-1), 1) := by decide +kernel
theorem dX11_kind_35 : decode cX11_kind 35 = .ok (.ireturn, 1) := by decide +kernel
theorem dX11_kind_36 : decode cX11_kind 36 = .ok (.iconst 1, 1) := by decide +kernel
theorem dX11_kind_37 : decode cX11_kind 37 = .ok (.istore_n 3, 1) := by decide +kernel
theorem dX11_kind_38 : decode cX11_kind 38 = .ok (.iconst 0, 1) := by decide +kernel
theorem dX11_kind_39 : decode cX11_kind 39 = .ok (.istore 4, 2) := by decide +kernel
theorem dX11_kind_41 : decode cX11_kind 41 = .ok (.aload_n 0, 1) := by decide +kernel
theorem dX11_kind_42 : decode cX11_kind 42 = .ok (.getfield 94, 3) := by decide +kernel
theorem dX11_kind_45 : decode cX11_kind 45 = .ok (.iconst 0, 1) := by decide +kernel
theorem dX11_kind_46 : decode cX11_kind 46 = .ok (.aload_n 0, 1) := by decide +kernel
theorem dX11_kind_47 : decode cX11_kind 47 = .ok (.iload_n 1, 1) := by decide +kernel
theorem dX11_kind_48 : decode cX11_kind 48 = .ok (.invokevirtual 470, 3) := by decide +kernel
theorem dX11_kind_51 : decode cX11_kind 51 = .ok (.iastore, 1) := by decide +kernel
theorem dX11_kind_52 : decode cX11_kind 52 = .ok (.iconst 0, 1) := by decide +kernel
theorem dX11_kind_53 : decode cX11_kind 53 = .ok (.istore 5, 2) := by decide +kernel
theorem dX11_kind_55 : decode cX11_kind 55 = .ok (.iload_n 3, 1) := by decide +kernel
theorem dX11_kind_56 : decode cX11_kind 56 = .ok (.ifCond .le 192, 3) := by decide +kernel
theorem dX11_kind_59 : decode cX11_kind 59 = .ok (.iinc 3 (-1), 3) := by decide +kernel
theorem dX11_kind_62 : decode cX11_kind 62 = .ok (.aload_n 0, 1) := by decide +kernel
theorem dX11_kind_63 : decode cX11_kind 63 = .ok (.aload_n 0, 1) := by decide +kernel
theorem dX11_kind_64 : decode cX11_kind 64 = .ok (.getfield 94, 3) := by decide +kernel
theorem dX11_kind_67 : decode cX11_kind 67 = .ok (.iload_n 3, 1) := by decide +kernel
theorem dX11_kind_68 : decode cX11_kind 68 = .ok (.iaload, 1) := by decide +kernel
theorem dX11_kind_69 : decode cX11_kind 69 = .ok (.invokevirtual 438, 3) := by decide +kernel
theorem dX11_kind_72 : decode cX11_kind 72 = .ok (.istore 6, 2) := by decide +kernel
theorem dX11_kind_74 : decode cX11_kind 74 = .ok (.aload_n 0, 1) := by decide +kernel
theorem dX11_kind_75 : decode cX11_kind 75 = .ok (.getfield 79, 3) := by decide +kernel
theorem dX11_kind_78 : decode cX11_kind 78 = .ok (.iload 6, 2) := by decide +kernel
theorem dX11_kind_80 : decode cX11_kind 80 = .ok (.iaload, 1) := by decide +kernel
theorem dX11_kind_81 : decode cX11_kind 81 = .ok (.iconst 2, 1) := by decide +kernel
theorem dX11_kind_82 : decode cX11_kind 82 = .ok (.if_icmp .ge 13, 3) := by decide +kernel
theorem dX11_kind_85 : decode cX11_kind 85 = .ok (.aload_n 0, 1) := by decide +kernel
theorem dX11_kind_86 : decode cX11_kind 86 = .ok (.getfield 79, 3) := by decide +kernel
theorem dX11_kind_89 : decode cX11_kind 89 = .ok (.iload 6, 2) := by decide +kernel
theorem dX11_kind_91 : decode cX11_kind 91 = .ok (.iaload, 1) := by decide +kernel
theorem dX11_kind_92 : decode cX11_kind 92 = .ok (.goto 12, 3) := by decide +kernel
theorem dX11_kind_95 : decode cX11_kind 95 = .ok (.aload_n 0, 1) := by decide +kernel
theorem dX11_kind_96 : decode cX11_kind 96 = .ok (.getfield 79, 3) := by decide +kernel
theorem dX11_kind_99 : decode cX11_kind 99 = .ok (.iload 6, 2) := by decide +kernel
theorem dX11_kind_101 : decode cX11_kind 101 = .ok (.iaload, 1) := by decide +kernel
theorem dX11_kind_102 : decode cX11_kind 102 = .ok (.iconst 1, 1) := by decide +kernel
theorem dX11_kind_103 : decode cX11_kind 103 = .ok (.isub, 1) := by decide +kernel
theorem dX11_kind_104 : decode cX11_kind 104 = .ok (.istore 7, 2) := by decide +kernel
theorem dX11_kind_106 : decode cX11_kind 106 = .ok (.aload_n 0, 1) := by decide +kernel
theorem dX11_kind_107 : decode cX11_kind 107 = .ok (.getfield 79, 3) := by decide +kernel
theorem dX11_kind_110 : decode cX11_kind 110 = .ok (.iload 6, 2) := by decide +kernel
theorem dX11_kind_112 : decode cX11_kind 112 = .ok (.iaload, 1) := by decide +kernel
theorem dX11_kind_113 : decode cX11_kind 113 = .ok (.iconst 2, 1) := by decide +kernel
theorem dX11_kind_114 : decode cX11_kind 114 = .ok (.if_icmp .ne 65, 3) := by decide +kernel
theorem dX11_kind_117 : decode cX11_kind 117 = .ok (.iconst 0, 1) := by decide +kernel
theorem dX11_kind_118 : decode cX11_kind 118 = .ok (.istore 8, 2) := by decide +kernel
theorem dX11_kind_120 : decode cX11_kind 120 = .ok (.iload 8, 2) := by decide +kernel
theorem dX11_kind_122 : decode cX11_kind 122 = .ok (.iload 4, 2) := by decide +kernel
theorem dX11_kind_124 : decode cX11_kind 124 = .ok (.if_icmp .ge 21, 3) := by decide +kernel
theorem dX11_kind_127 : decode cX11_kind 127 = .ok (.aload_n 0, 1) := by decide +kernel
theorem dX11_kind_128 : decode cX11_kind 128 = .ok (.getfield 121, 3) := by decide +kernel
theorem dX11_kind_131 : decode cX11_kind 131 = .ok (.iload 8, 2) := by decide +kernel
theorem dX11_kind_133 : decode cX11_kind 133 = .ok (.iaload, 1) := by decide +kernel
theorem dX11_kind_134 : decode cX11_kind 134 = .ok (.iload 6, 2) := by decide +kernel
theorem dX11_kind_136 : decode cX11_kind 136 = .ok (.if_icmp .eq 9, 3) := by decide +kernel
theorem dX11_kind_139 : decode cX11_kind 139 = .ok (.iinc 8 1, 3) := by decide +kernel
theorem dX11_kind_142 : decode cX11_kind 142 = .ok (.goto (-22), 3) := by decide +kernel
theorem dX11_kind_145 : decode cX11_kind 145 = .ok (.aload_n 0, 1) := by decide +kernel
theorem dX11_kind_146 : decode cX11_kind 146 = .ok (.getfield 121, 3) := by decide +kernel
theorem dX11_kind_149 : decode cX11_kind 149 = .ok (.iload 8, 2) := by decide +kernel
theorem dX11_kind_151 : decode cX11_kind 151 = .ok (.iload 6, 2) := by decide +kernel
theorem dX11_kind_153 : decode cX11_kind 153 = .ok (.iastore, 1) := by decide +kernel
theorem dX11_kind_154 : decode cX11_kind 154 = .ok (.iload 8, 2) := by decide +kernel
theorem dX11_kind_156 : decode cX11_kind 156 = .ok (.iload 4, 2) := by decide +kernel
theorem dX11_kind_158 : decode cX11_kind 158 = .ok (.if_icmp .ne 10, 3) := by decide +kernel
theorem dX11_kind_161 : decode cX11_kind 161 = .ok (.iload 4, 2) := by decide +kernel
theorem dX11_kind_163 : decode cX11_kind 163 = .ok (.iconst 1, 1) := by decide +kernel
theorem dX11_kind_164 : decode cX11_kind 164 = .ok (.iadd, 1) := by decide +kernel
theorem dX11_kind_165 : decode cX11_kind 165 = .ok (.goto 5, 3) := by decide +kernel
theorem dX11_kind_168 : decode cX11_kind 168 = .ok (.iload 4, 2) := by decide +kernel
theorem dX11_kind_170 : decode cX11_kind 170 = .ok (.istore 4, 2) := by decide +kernel
theorem dX11_kind_172 : decode cX11_kind 172 = .ok (.bipush 10, 2) := by decide +kernel
theorem dX11_kind_174 : decode cX11_kind 174 = .ok (.iload 8, 2) := by decide +kernel
theorem dX11_kind_176 : decode cX11_kind 176 = .ok (.iadd, 1) := by decide +kernel
theorem dX11_kind_177 : decode cX11_kind 177 = .ok (.istore 7, 2) := by decide +kernel
theorem dX11_kind_179 : decode cX11_kind 179 = .ok (.iload 5, 2) := by decide +kernel
theorem dX11_kind_181 : decode cX11_kind 181 = .ok (.iload_n 2, 1) := by decide +kernel
theorem dX11_kind_182 : decode cX11_kind 182 = .ok (.if_icmp .ne 6, 3) := by decide +kernel
theorem dX11_kind_185 : decode cX11_kind 185 = .ok (.iload 7, 2) := by decide +kernel
theorem dX11_kind_187 : decode cX11_kind 187 = .ok (.ireturn, 1) := by decide +kernel
theorem dX11_kind_188 : decode cX11_kind 188 = .ok (.aload_n 0, 1) := by decide +kernel
theorem dX11_kind_189 : decode cX11_kind 189 = .ok (.getfield 79, 3) := by decide +kernel
theorem dX11_kind_192 : decode cX11_kind 192 = .ok (.iload 6, 2) := by decide +kernel
theorem dX11_kind_194 : decode cX11_kind 194 = .ok (.iaload, 1) := by decide +kernel
theorem dX11_kind_195 : decode cX11_kind 195 = .ok (.iconst 3, 1) := by decide +kernel
theorem dX11_kind_196 : decode cX11_kind 196 = .ok (.if_icmp .le 19, 3) := by decide +kernel
theorem dX11_kind_199 : decode cX11_kind 199 = .ok (.aload_n 0, 1) := by decide +kernel
theorem dX11_kind_200 : decode cX11_kind 200 = .ok (.getfield 94, 3) := by decide +kernel
theorem dX11_kind_203 : decode cX11_kind 203 = .ok (.iload_n 3, 1) := by decide +kernel
theorem dX11_kind_204 : decode cX11_kind 204 = .ok (.aload_n 0, 1) := by decide +kernel
theorem dX11_kind_205 : decode cX11_kind 205 = .ok (.getfield 85, 3) := by decide +kernel
theorem dX11_kind_208 : decode cX11_kind 208 = .ok (.iload 6, 2) := by decide +kernel
theorem dX11_kind_210 : decode cX11_kind 210 = .ok (.iaload, 1) := by decide +kernel
theorem dX11_kind_211 : decode cX11_kind 211 = .ok (.iastore, 1) := by decide +kernel
theorem dX11_kind_212 : decode cX11_kind 212 = .ok (.iinc 3 1, 3) := by decide +kernel
theorem dX11_kind_215 : decode cX11_kind 215 = .ok (.aload_n 0, 1) := by decide +kernel
theorem dX11_kind_216 : decode cX11_kind 216 = .ok (.getfield 79, 3) := by decide +kernel
theorem dX11_kind_219 : decode cX11_kind 219 = .ok (.iload 6, 2) := by decide +kernel
theorem dX11_kind_221 : decode cX11_kind 221 = .ok (.iaload, 1) := by decide +kernel
theorem dX11_kind_222 : decode cX11_kind 222 = .ok (.iconst 2, 1) := by decide +kernel
theorem dX11_kind_223 : decode cX11_kind 223 = .ok (.if_icmp .le 19, 3) := by decide +kernel
theorem dX11_kind_226 : decode cX11_kind 226 = .ok (.aload_n 0, 1) := by decide +kernel
theorem dX11_kind_227 : decode cX11_kind 227 = .ok (.getfield 94, 3) := by decide +kernel
theorem dX11_kind_230 : decode cX11_kind 230 = .ok (.iload_n 3, 1) := by decide +kernel
theorem dX11_kind_231 : decode cX11_kind 231 = .ok (.aload_n 0, 1) := by decide +kernel
theorem dX11_kind_232 : decode cX11_kind 232 = .ok (.getfield 82, 3) := by decide +kernel
theorem dX11_kind_235 : decode cX11_kind 235 = .ok (.iload 6, 2) := by decide +kernel
theorem dX11_kind_237 : decode cX11_kind 237 = .ok (.iaload, 1) := by decide +kernel
theorem dX11_kind_238 : decode cX11_kind 238 = .ok (.iastore, 1) := by decide +kernel
theorem dX11_kind_239 : decode cX11_kind 239 = .ok (.iinc 3 1, 3) := by decide +kernel
theorem dX11_kind_242 : decode cX11_kind 242 = .ok (.iinc 5 1, 3) := by decide +kernel
theorem dX11_kind_245 : decode cX11_kind 245 = .ok (.goto (-190), 3) := by decide +kernel
theorem dX11_kind_248 : decode cX11_kind 248 = .ok (.iconst (-1), 1) := by decide +kernel
theorem dX11_kind_249 : decode cX11_kind 249 = .ok (.ireturn, 1) := by decide +kernel
set_option maxRecDepth 20000 in
theorem uM_X11_isIn_24 (a : Int32) : q_met mX11_isIn (q_sM uMI13 zJ1) [.int a, .int 0, .int (-1)] (fun s r => s = q_sM uMI13 zJ1 ∧ r = some (.int 0)) := by
  refine q_enter (by decide) (Nat.le_of_ble_eq_true rfl) ?_
  refine q_iload_n dX11_isIn_0 rfl ?_
  refine q_iload_n dX11_isIn_1 rfl ?_
  refine q_cz_lt (tgt := 14) (a := a.toInt) (b := 0) dX11_isIn_2 (by decide) rfl rfl (fun h2_0 => ?_) (fun h2_0 => ?_)
  · refine q_ic (v := 0) dX11_isIn_14 rfl ?_
    refine q_zret dX11_isIn_15 rfl (Or.inl rfl) ?_
    exact ⟨rfl, rfl⟩
  · refine q_iload_n dX11_isIn_5 rfl ?_
    refine q_iload_n dX11_isIn_6 rfl ?_
    refine q_cz_gt (tgt := 14) (a := a.toInt) (b := (-1)) dX11_isIn_7 (by decide) rfl rfl (fun h7_1 => ?_) (fun h7_1 => ?_)
    · refine q_ic (v := 0) dX11_isIn_14 rfl ?_
      refine q_zret dX11_isIn_15 rfl (Or.inl rfl) ?_
      exact ⟨rfl, rfl⟩
    · exfalso; omega
set_option maxRecDepth 20000 in
theorem uM_X11_isPlace_25 (a : Int32) : q_met mX11_isPlace (q_sM uMI13 zJ1) [.ref 139, .int a] (fun s r => s = q_sM uMI13 zJ1 ∧ r = some (.int 0)) := by
  refine q_enter (by decide) (Nat.le_of_ble_eq_true rfl) ?_
  refine q_iload_n dX11_isPlace_0 rfl ?_
  refine q_ic (v := 0) dX11_isPlace_1 rfl ?_
  refine q_aload_n dX11_isPlace_2 rfl ?_
  refine q_getR (c := 11) (n := 0) (k := 11) (a := 142) dX11_isPlace_3 rfl (by decide) (by decide) fX11_20 rfl rfl ?_
  refine q_aload_n dX11_isPlace_6 rfl ?_
  refine q_getf (c := 11) (n := 0) (k := 28) (v := .int 0) dX11_isPlace_7 rfl (by decide) (by decide) fX11_321 rfl ?_
  refine q_iald (n := 6) (j := 0) dX11_isPlace_10 rfl rfl (by decide) ?_
  refine q_topI (v := 0) rfl ?_
  refine q_ic (v := 1) dX11_isPlace_11 rfl ?_
  refine q_isub dX11_isPlace_12 ?_
  refine q_topI (v := (-1)) rfl ?_
  refine q_S3 dX11_isPlace_13 DX11_isIn lX11_379 rfl rfl rfl (uM_X11_isIn_24 a) ?_
  rintro _ _ ⟨rfl, rfl⟩
  refine q_zret dX11_isPlace_16 rfl (Or.inl rfl) ?_
  exact ⟨rfl, rfl⟩
set_option maxRecDepth 20000 in
theorem frM_kind (a : Int32) (b : Int32) : q_met mX11_kind (q_sM zI6 zJ1) [.ref 139, .int a, .int b] (fun s r => (∃ I J, s = q_sM I J) ∧ ∃ v, r = some (.int v) ∧ v.toInt = (-1 : Int)) := by
  refine q_enter (by decide) (Nat.le_of_ble_eq_true rfl) ?_
  refine q_aload_n dX11_kind_0 rfl ?_
  refine q_V0 (ci := 11) (n := 0) dX11_kind_1 DX11_layNow lX11_460 rfl (by decide) rfl rfl rfl rfl uM_X11_layNow_16 ?_
  rintro _ _ ⟨rfl, rfl⟩
  refine q_aload_n dX11_kind_4 rfl ?_
  refine q_iload_n dX11_kind_5 rfl ?_
  refine q_V1 (ci := 11) (n := 0) dX11_kind_6 DX11_isPlace lX11_383 rfl (by decide) rfl rfl rfl rfl (uM_X11_isPlace_25 a) ?_
  rintro _ _ ⟨rfl, rfl⟩
  refine q_iz_eq (tgt := 34) (a := 0) dX11_kind_9 (by decide) rfl (fun _ => ?_) (fun h => absurd h (by decide))
  refine q_ic (v := (-1)) dX11_kind_34 rfl ?_
  refine q_iret dX11_kind_35 rfl ?_
  exact ⟨⟨_, _, rfl⟩, _, rfl, (by show ((-1) : Int) = _; first | rfl | omega | (split <;> omega) | (split <;> split <;> omega))⟩
theorem dX11_core_0 : decode cX11_core 0 = .ok (.aload_n 0, 1) := by decide +kernel
theorem dX11_core_1 : decode cX11_core 1 = .ok (.invokevirtual 460, 3) := by decide +kernel
theorem dX11_core_4 : decode cX11_core 4 = .ok (.aload_n 0, 1) := by decide +kernel
theorem dX11_core_5 : decode cX11_core 5 = .ok (.aload_n 0, 1) := by decide +kernel
theorem dX11_core_6 : decode cX11_core 6 = .ok (.invokevirtual 463, 3) := by decide +kernel
theorem dX11_core_9 : decode cX11_core 9 = .ok (.invokevirtual 467, 3) := by decide +kernel
theorem dX11_core_12 : decode cX11_core 12 = .ok (.ifCond .eq 14, 3) := by decide +kernel
theorem dX11_core_15 : decode cX11_core 15 = .ok (.aload_n 0, 1) := by decide +kernel
theorem dX11_core_16 : decode cX11_core 16 = .ok (.aload_n 0, 1) := by decide +kernel
theorem dX11_core_17 : decode cX11_core 17 = .ok (.invokevirtual 463, 3) := by decide +kernel
theorem dX11_core_20 : decode cX11_core 20 = .ok (.invokevirtual 475, 3) := by decide +kernel
theorem dX11_core_23 : decode cX11_core 23 = .ok (.goto 4, 3) := by decide +kernel
theorem dX11_core_26 : decode cX11_core 26 = .ok (.lconst 0, 1) := by decide +kernel
theorem dX11_core_27 : decode cX11_core 27 = .ok (.lreturn, 1) := by decide +kernel
set_option maxRecDepth 20000 in
theorem frM_core : q_met mX11_core (q_sM zI6 zJ1) [.ref 139] (fun s r => (∃ I J, s = q_sM I J) ∧ ∃ v, r = some (.long v) ∧ v.toInt = (0 : Int)) := by
  refine q_enter (by decide) (Nat.le_of_ble_eq_true rfl) ?_
  refine q_aload_n dX11_core_0 rfl ?_
  refine q_V0 (ci := 11) (n := 0) dX11_core_1 DX11_layNow lX11_460 rfl (by decide) rfl rfl rfl rfl uM_X11_layNow_16 ?_
  rintro _ _ ⟨rfl, rfl⟩
  refine q_aload_n dX11_core_4 rfl ?_
  refine q_aload_n dX11_core_5 rfl ?_
  refine q_V0 (ci := 11) (n := 0) dX11_core_6 DX11_allPlaces lX11_463 rfl (by decide) rfl rfl rfl rfl uM_X11_allPlaces_17 ?_
  rintro _ _ ⟨rfl, rfl⟩
  refine q_V1 (ci := 11) (n := 0) dX11_core_9 DX11_clash lX11_467 rfl (by decide) rfl rfl rfl rfl uM_X11_clash_22 ?_
  rintro _ _ ⟨rfl, rfl⟩
  refine q_iz_eq (tgt := 26) (a := 0) dX11_core_12 (by decide) rfl (fun _ => ?_) (fun h => absurd h (by decide))
  refine q_lc (v := 0) dX11_core_26 rfl ?_
  refine q_lret dX11_core_27 rfl ?_
  exact ⟨⟨_, _, rfl⟩, _, rfl, (by show (0 : Int) = _; first | rfl | omega | (split <;> omega) | (split <;> split <;> omega))⟩
theorem dX11_meets_0 : decode cX11_meets 0 = .ok (.aload_n 0, 1) := by decide +kernel
theorem dX11_meets_1 : decode cX11_meets 1 = .ok (.invokevirtual 460, 3) := by decide +kernel
theorem dX11_meets_4 : decode cX11_meets 4 = .ok (.aload_n 0, 1) := by decide +kernel
theorem dX11_meets_5 : decode cX11_meets 5 = .ok (.iload_n 1, 1) := by decide +kernel
theorem dX11_meets_6 : decode cX11_meets 6 = .ok (.invokevirtual 383, 3) := by decide +kernel
theorem dX11_meets_9 : decode cX11_meets 9 = .ok (.ifCond .eq 22, 3) := by decide +kernel
theorem dX11_meets_12 : decode cX11_meets 12 = .ok (.aload_n 0, 1) := by decide +kernel
theorem dX11_meets_13 : decode cX11_meets 13 = .ok (.iload_n 2, 1) := by decide +kernel
theorem dX11_meets_14 : decode cX11_meets 14 = .ok (.invokevirtual 383, 3) := by decide +kernel
theorem dX11_meets_17 : decode cX11_meets 17 = .ok (.ifCond .eq 14, 3) := by decide +kernel
theorem dX11_meets_20 : decode cX11_meets 20 = .ok (.aload_n 0, 1) := by decide +kernel
theorem dX11_meets_21 : decode cX11_meets 21 = .ok (.aload_n 0, 1) := by decide +kernel
theorem dX11_meets_22 : decode cX11_meets 22 = .ok (.invokevirtual 463, 3) := by decide +kernel
theorem dX11_meets_25 : decode cX11_meets 25 = .ok (.invokevirtual 467, 3) := by decide +kernel
theorem dX11_meets_28 : decode cX11_meets 28 = .ok (.ifCond .eq 5, 3) := by decide +kernel
theorem dX11_meets_31 : decode cX11_meets 31 = .ok (.iconst (-1), 1) := by decide +kernel
theorem dX11_meets_32 : decode cX11_meets 32 = .ok (.ireturn, 1) := by decide +kernel
theorem dX11_meets_33 : decode cX11_meets 33 = .ok (.aload_n 0, 1) := by decide +kernel
theorem dX11_meets_34 : decode cX11_meets 34 = .ok (.aload_n 0, 1) := by decide +kernel
theorem dX11_meets_35 : decode cX11_meets 35 = .ok (.iload_n 1, 1) := by decide +kernel
theorem dX11_meets_36 : decode cX11_meets 36 = .ok (.invokevirtual 470, 3) := by decide +kernel
theorem dX11_meets_39 : decode cX11_meets 39 = .ok (.aload_n 0, 1) := by decide +kernel
theorem dX11_meets_40 : decode cX11_meets 40 = .ok (.iload_n 2, 1) := by decide +kernel
theorem dX11_meets_41 : decode cX11_meets 41 = .ok (.invokevirtual 470, 3) := by decide +kernel
theorem dX11_meets_44 : decode cX11_meets 44 = .ok (.invokevirtual 447, 3) := by decide +kernel
theorem dX11_meets_47 : decode cX11_meets 47 = .ok (.ifCond .eq 14, 3) := by decide +kernel
theorem dX11_meets_50 : decode cX11_meets 50 = .ok (.aload_n 0, 1) := by decide +kernel
theorem dX11_meets_51 : decode cX11_meets 51 = .ok (.invokevirtual 451, 3) := by decide +kernel
theorem dX11_meets_54 : decode cX11_meets 54 = .ok (.ifCond .eq 7, 3) := by decide +kernel
theorem dX11_meets_57 : decode cX11_meets 57 = .ok (.iconst 1, 1) := by decide +kernel
theorem dX11_meets_58 : decode cX11_meets 58 = .ok (.goto 4, 3) := by decide +kernel
theorem dX11_meets_61 : decode cX11_meets 61 = .ok (.iconst 0, 1) := by decide +kernel
theorem dX11_meets_62 : decode cX11_meets 62 = .ok (.ireturn, 1) := by decide +kernel
set_option maxRecDepth 20000 in
theorem frM_meets (a : Int32) (b : Int32) : q_met mX11_meets (q_sM zI6 zJ1) [.ref 139, .int a, .int b] (fun s r => (∃ I J, s = q_sM I J) ∧ ∃ v, r = some (.int v) ∧ v.toInt = (-1 : Int)) := by
  refine q_enter (by decide) (Nat.le_of_ble_eq_true rfl) ?_
  refine q_aload_n dX11_meets_0 rfl ?_
  refine q_V0 (ci := 11) (n := 0) dX11_meets_1 DX11_layNow lX11_460 rfl (by decide) rfl rfl rfl rfl uM_X11_layNow_16 ?_
  rintro _ _ ⟨rfl, rfl⟩
  refine q_aload_n dX11_meets_4 rfl ?_
  refine q_iload_n dX11_meets_5 rfl ?_
  refine q_V1 (ci := 11) (n := 0) dX11_meets_6 DX11_isPlace lX11_383 rfl (by decide) rfl rfl rfl rfl (uM_X11_isPlace_25 a) ?_
  rintro _ _ ⟨rfl, rfl⟩
  refine q_iz_eq (tgt := 31) (a := 0) dX11_meets_9 (by decide) rfl (fun _ => ?_) (fun h => absurd h (by decide))
  refine q_ic (v := (-1)) dX11_meets_31 rfl ?_
  refine q_iret dX11_meets_32 rfl ?_
  exact ⟨⟨_, _, rfl⟩, _, rfl, (by show ((-1) : Int) = _; first | rfl | omega | (split <;> omega) | (split <;> split <;> omega))⟩
theorem dX11_cores_0 : decode cX11_cores 0 = .ok (.aload_n 0, 1) := by decide +kernel
theorem dX11_cores_1 : decode cX11_cores 1 = .ok (.invokevirtual 485, 3) := by decide +kernel
theorem dX11_cores_4 : decode cX11_cores 4 = .ok (.ifCond .eq 12, 3) := by decide +kernel
theorem dX11_cores_7 : decode cX11_cores 7 = .ok (.aload_n 0, 1) := by decide +kernel
theorem dX11_cores_8 : decode cX11_cores 8 = .ok (.iconst 0, 1) := by decide +kernel
theorem dX11_cores_9 : decode cX11_cores 9 = .ok (.iconst (-1), 1) := by decide +kernel
theorem dX11_cores_10 : decode cX11_cores 10 = .ok (.invokevirtual 488, 3) := by decide +kernel
theorem dX11_cores_13 : decode cX11_cores 13 = .ok (.goto 5, 3) := by decide +kernel
theorem dX11_cores_16 : decode cX11_cores 16 = .ok (.bipush (-2), 2) := by decide +kernel
theorem dX11_cores_18 : decode cX11_cores 18 = .ok (.ireturn, 1) := by decide +kernel
theorem dX11_layClashes_0 : decode cX11_layClashes 0 = .ok (.aload_n 0, 1) := by decide +kernel
theorem dX11_layClashes_1 : decode cX11_layClashes 1 = .ok (.getfield 20, 3) := by decide +kernel
theorem dX11_layClashes_4 : decode cX11_layClashes 4 = .ok (.aload_n 0, 1) := by decide +kernel
theorem dX11_layClashes_5 : decode cX11_layClashes 5 = .ok (.getfield 321, 3) := by decide +kernel
theorem dX11_layClashes_8 : decode cX11_layClashes 8 = .ok (.iaload, 1) := by decide +kernel
theorem dX11_layClashes_9 : decode cX11_layClashes 9 = .ok (.bipush 12, 2) := by decide +kernel
theorem dX11_layClashes_11 : decode cX11_layClashes 11 = .ok (.if_icmp .le 5, 3) := by decide +kernel
theorem dX11_layClashes_14 : decode cX11_layClashes 14 = .ok (.iconst 0, 1) := by decide +kernel
theorem dX11_layClashes_15 : decode cX11_layClashes 15 = .ok (.ireturn, 1) := by decide +kernel
theorem dX11_layClashes_16 : decode cX11_layClashes 16 = .ok (.aload_n 0, 1) := by decide +kernel
theorem dX11_layClashes_17 : decode cX11_layClashes 17 = .ok (.invokevirtual 460, 3) := by decide +kernel
theorem dX11_layClashes_20 : decode cX11_layClashes 20 = .ok (.iconst 0, 1) := by decide +kernel
theorem dX11_layClashes_21 : decode cX11_layClashes 21 = .ok (.istore_n 1, 1) := by decide +kernel
theorem dX11_layClashes_22 : decode cX11_layClashes 22 = .ok (.iload_n 1, 1) := by decide +kernel
theorem dX11_layClashes_23 : decode cX11_layClashes 23 = .ok (.iconst 1, 1) := by decide +kernel
theorem dX11_layClashes_24 : decode cX11_layClashes 24 = .ok (.aload_n 0, 1) := by decide +kernel
theorem dX11_layClashes_25 : decode cX11_layClashes 25 = .ok (.getfield 20, 3) := by decide +kernel
theorem dX11_layClashes_28 : decode cX11_layClashes 28 = .ok (.aload_n 0, 1) := by decide +kernel
theorem dX11_layClashes_29 : decode cX11_layClashes 29 = .ok (.getfield 321, 3) := by decide +kernel
theorem dX11_layClashes_32 : decode cX11_layClashes 32 = .ok (.iaload, 1) := by decide +kernel
theorem dX11_layClashes_33 : decode cX11_layClashes 33 = .ok (.ishl, 1) := by decide +kernel
theorem dX11_layClashes_34 : decode cX11_layClashes 34 = .ok (.if_icmp .ge 21, 3) := by decide +kernel
theorem dX11_layClashes_37 : decode cX11_layClashes 37 = .ok (.aload_n 0, 1) := by decide +kernel
theorem dX11_layClashes_38 : decode cX11_layClashes 38 = .ok (.getfield 124, 3) := by decide +kernel
theorem dX11_layClashes_41 : decode cX11_layClashes 41 = .ok (.iload_n 1, 1) := by decide +kernel
theorem dX11_layClashes_42 : decode cX11_layClashes 42 = .ok (.aload_n 0, 1) := by decide +kernel
theorem dX11_layClashes_43 : decode cX11_layClashes 43 = .ok (.iload_n 1, 1) := by decide +kernel
theorem dX11_layClashes_44 : decode cX11_layClashes 44 = .ok (.i2l, 1) := by decide +kernel
theorem dX11_layClashes_45 : decode cX11_layClashes 45 = .ok (.invokevirtual 467, 3) := by decide +kernel
theorem dX11_layClashes_48 : decode cX11_layClashes 48 = .ok (.bastore, 1) := by decide +kernel
theorem dX11_layClashes_49 : decode cX11_layClashes 49 = .ok (.iinc 1 1, 3) := by decide +kernel
theorem dX11_layClashes_52 : decode cX11_layClashes 52 = .ok (.goto (-30), 3) := by decide +kernel
theorem dX11_layClashes_55 : decode cX11_layClashes 55 = .ok (.iconst 1, 1) := by decide +kernel
theorem dX11_layClashes_56 : decode cX11_layClashes 56 = .ok (.ireturn, 1) := by decide +kernel
def uMI16 : Nat → Nat → Int32 := q_up uMI15 175 0 0
set_option maxRecDepth 20000 in
theorem uM_X11_layClashes_29 : q_met mX11_layClashes (q_sM zI6 zJ1) [.ref 139] (fun s r => s = q_sM uMI16 zJ1 ∧ r = some (.int 1)) := by
  refine q_enter (by decide) (Nat.le_of_ble_eq_true rfl) ?_
  refine q_aload_n dX11_layClashes_0 rfl ?_
  refine q_getR (c := 11) (n := 0) (k := 11) (a := 142) dX11_layClashes_1 rfl (by decide) (by decide) fX11_20 rfl rfl ?_
  refine q_aload_n dX11_layClashes_4 rfl ?_
  refine q_getf (c := 11) (n := 0) (k := 28) (v := .int 0) dX11_layClashes_5 rfl (by decide) (by decide) fX11_321 rfl ?_
  refine q_iald (n := 6) (j := 0) dX11_layClashes_8 rfl rfl (by decide) ?_
  refine q_topI (v := 0) rfl ?_
  refine q_bi (v := 12) dX11_layClashes_9 rfl ?_
  refine q_cz_le (tgt := 16) (a := 0) (b := 12) dX11_layClashes_11 (by decide) rfl rfl (fun _ => ?_) (fun h => absurd h (by decide))
  refine q_aload_n dX11_layClashes_16 rfl ?_
  refine q_V0 (ci := 11) (n := 0) dX11_layClashes_17 DX11_layNow lX11_460 rfl (by decide) rfl rfl rfl rfl uM_X11_layNow_16 ?_
  rintro _ _ ⟨rfl, rfl⟩
  refine q_ic (v := 0) dX11_layClashes_20 rfl ?_
  refine q_istore_n dX11_layClashes_21 (Nat.le_of_ble_eq_true rfl) ?_
  refine q_iload_n dX11_layClashes_22 rfl ?_
  refine q_ic (v := 1) dX11_layClashes_23 rfl ?_
  refine q_aload_n dX11_layClashes_24 rfl ?_
  refine q_getR (c := 11) (n := 0) (k := 11) (a := 142) dX11_layClashes_25 rfl (by decide) (by decide) fX11_20 rfl rfl ?_
  refine q_aload_n dX11_layClashes_28 rfl ?_
  refine q_getf (c := 11) (n := 0) (k := 28) (v := .int 0) dX11_layClashes_29 rfl (by decide) (by decide) fX11_321 rfl ?_
  refine q_iald (n := 6) (j := 0) dX11_layClashes_32 rfl rfl (by decide) ?_
  refine q_topI (v := 0) rfl ?_
  refine q_ishl dX11_layClashes_33 ?_
  refine q_topI (v := 1) rfl ?_
  refine q_cz_ge (tgt := 55) (a := 0) (b := 1) dX11_layClashes_34 (by decide) rfl rfl (fun h => absurd h (by decide)) (fun _ => ?_)
  refine q_aload_n dX11_layClashes_37 rfl ?_
  refine q_getR (c := 11) (n := 0) (k := 53) (a := 175) dX11_layClashes_38 rfl (by decide) (by decide) fX11_124 rfl rfl ?_
  refine q_iload_n dX11_layClashes_41 rfl ?_
  refine q_aload_n dX11_layClashes_42 rfl ?_
  refine q_iload_n dX11_layClashes_43 rfl ?_
  refine q_i2l dX11_layClashes_44 ?_
  refine q_topL (v := 0) rfl ?_
  refine q_V1 (ci := 11) (n := 0) dX11_layClashes_45 DX11_clash lX11_467 rfl (by decide) rfl rfl rfl rfl uM_X11_clash_22 ?_
  rintro _ _ ⟨rfl, rfl⟩
  refine q_zast (n := 4096) (j := 0) dX11_layClashes_48 rfl rfl (by decide) (Or.inl rfl) ?_
  show q_K _ (q_sM (q_up uMI15 175 0 0) zJ1) _ _ _ _ _ _
  refine q_inc (v := 1) dX11_layClashes_49 rfl (Nat.le_of_ble_eq_true rfl) rfl ?_
  refine q_goto (tgt := 22) dX11_layClashes_52 (by decide) ?_
  refine q_iload_n dX11_layClashes_22 rfl ?_
  refine q_ic (v := 1) dX11_layClashes_23 rfl ?_
  refine q_aload_n dX11_layClashes_24 rfl ?_
  refine q_getR (c := 11) (n := 0) (k := 11) (a := 142) dX11_layClashes_25 rfl (by decide) (by decide) fX11_20 rfl rfl ?_
  refine q_aload_n dX11_layClashes_28 rfl ?_
  refine q_getf (c := 11) (n := 0) (k := 28) (v := .int 0) dX11_layClashes_29 rfl (by decide) (by decide) fX11_321 rfl ?_
  refine q_iald (n := 6) (j := 0) dX11_layClashes_32 rfl rfl (by decide) ?_
  refine q_topI (v := 0) rfl ?_
  refine q_ishl dX11_layClashes_33 ?_
  refine q_topI (v := 1) rfl ?_
  refine q_cz_ge (tgt := 55) (a := 1) (b := 1) dX11_layClashes_34 (by decide) rfl rfl (fun _ => ?_) (fun h => absurd h (by decide))
  refine q_ic (v := 1) dX11_layClashes_55 rfl ?_
  show q_K _ (q_sM uMI16 zJ1) _ _ _ _ _ _
  refine q_zret dX11_layClashes_56 rfl (Or.inr rfl) ?_
  exact ⟨rfl, rfl⟩
theorem dX11_counted_0 : decode cX11_counted 0 = .ok (.iconst 0, 1) := by decide +kernel
theorem dX11_counted_1 : decode cX11_counted 1 = .ok (.istore_n 3, 1) := by decide +kernel
theorem dX11_counted_2 : decode cX11_counted 2 = .ok (.iconst 0, 1) := by decide +kernel
theorem dX11_counted_3 : decode cX11_counted 3 = .ok (.istore 4, 2) := by decide +kernel
theorem dX11_counted_5 : decode cX11_counted 5 = .ok (.iload 4, 2) := by decide +kernel
theorem dX11_counted_7 : decode cX11_counted 7 = .ok (.iconst 1, 1) := by decide +kernel
theorem dX11_counted_8 : decode cX11_counted 8 = .ok (.aload_n 0, 1) := by decide +kernel
theorem dX11_counted_9 : decode cX11_counted 9 = .ok (.getfield 20, 3) := by decide +kernel
theorem dX11_counted_12 : decode cX11_counted 12 = .ok (.aload_n 0, 1) := by decide +kernel
theorem dX11_counted_13 : decode cX11_counted 13 = .ok (.getfield 321, 3) := by decide +kernel
theorem dX11_counted_16 : decode cX11_counted 16 = .ok (.iaload, 1) := by decide +kernel
theorem dX11_counted_17 : decode cX11_counted 17 = .ok (.ishl, 1) := by decide +kernel
theorem dX11_counted_18 : decode cX11_counted 18 = .ok (.if_icmp .ge 48, 3) := by decide +kernel
theorem dX11_counted_21 : decode cX11_counted 21 = .ok (.iload_n 1, 1) := by decide +kernel
theorem dX11_counted_22 : decode cX11_counted 22 = .ok (.ifCond .eq 15, 3) := by decide +kernel
theorem dX11_counted_25 : decode cX11_counted 25 = .ok (.aload_n 0, 1) := by decide +kernel
theorem dX11_counted_26 : decode cX11_counted 26 = .ok (.iload 4, 2) := by decide +kernel
theorem dX11_counted_28 : decode cX11_counted 28 = .ok (.invokevirtual 479, 3) := by decide +kernel
theorem dX11_counted_31 : decode cX11_counted 31 = .ok (.ifCond .eq 29, 3) := by decide +kernel
theorem dX11_counted_34 : decode cX11_counted 34 = .ok (.goto 15, 3) := by decide +kernel
theorem dX11_counted_37 : decode cX11_counted 37 = .ok (.aload_n 0, 1) := by decide +kernel
theorem dX11_counted_38 : decode cX11_counted 38 = .ok (.iload 4, 2) := by decide +kernel
theorem dX11_counted_40 : decode cX11_counted 40 = .ok (.invokevirtual 482, 3) := by decide +kernel
theorem dX11_counted_43 : decode cX11_counted 43 = .ok (.ifCond .ne 6, 3) := by decide +kernel
theorem dX11_counted_46 : decode cX11_counted 46 = .ok (.goto 14, 3) := by decide +kernel
theorem dX11_counted_49 : decode cX11_counted 49 = .ok (.iload_n 3, 1) := by decide +kernel
theorem dX11_counted_50 : decode cX11_counted 50 = .ok (.iload_n 2, 1) := by decide +kernel
theorem dX11_counted_51 : decode cX11_counted 51 = .ok (.if_icmp .ne 6, 3) := by decide +kernel
theorem dX11_counted_54 : decode cX11_counted 54 = .ok (.iload 4, 2) := by decide +kernel
theorem dX11_counted_56 : decode cX11_counted 56 = .ok (.ireturn, 1) := by decide +kernel
theorem dX11_counted_57 : decode cX11_counted 57 = .ok (.iinc 3 1, 3) := by decide +kernel
theorem dX11_counted_60 : decode cX11_counted 60 = .ok (.iinc 4 1, 3) := by decide +kernel
theorem dX11_counted_63 : decode cX11_counted 63 = .ok (.goto (-58), 3) := by decide +kernel
theorem dX11_counted_66 : decode cX11_counted 66 = .ok (.iload_n 2, 1) := by decide +kernel
theorem dX11_counted_67 : decode cX11_counted 67 = .ok (.ifCond .ge 7, 3) := by decide +kernel
theorem dX11_counted_70 : decode cX11_counted 70 = .ok (.iload_n 3, 1) := by decide +kernel
theorem dX11_counted_71 : decode cX11_counted 71 = .ok (.goto 4, 3) := by decide +kernel
theorem dX11_counted_74 : decode cX11_counted 74 = .ok (.iconst (-1), 1) := by decide +kernel
theorem dX11_counted_75 : decode cX11_counted 75 = .ok (.ireturn, 1) := by decide +kernel
theorem dX11_isCore_0 : decode cX11_isCore 0 = .ok (.aload_n 0, 1) := by decide +kernel
theorem dX11_isCore_1 : decode cX11_isCore 1 = .ok (.getfield 124, 3) := by decide +kernel
theorem dX11_isCore_4 : decode cX11_isCore 4 = .ok (.iload_n 1, 1) := by decide +kernel
theorem dX11_isCore_5 : decode cX11_isCore 5 = .ok (.baload, 1) := by decide +kernel
theorem dX11_isCore_6 : decode cX11_isCore 6 = .ok (.ifCond .ne 5, 3) := by decide +kernel
theorem dX11_isCore_9 : decode cX11_isCore 9 = .ok (.iconst 0, 1) := by decide +kernel
theorem dX11_isCore_10 : decode cX11_isCore 10 = .ok (.ireturn, 1) := by decide +kernel
theorem dX11_isCore_11 : decode cX11_isCore 11 = .ok (.iconst 0, 1) := by decide +kernel
theorem dX11_isCore_12 : decode cX11_isCore 12 = .ok (.istore_n 2, 1) := by decide +kernel
theorem dX11_isCore_13 : decode cX11_isCore 13 = .ok (.iload_n 2, 1) := by decide +kernel
theorem dX11_isCore_14 : decode cX11_isCore 14 = .ok (.aload_n 0, 1) := by decide +kernel
theorem dX11_isCore_15 : decode cX11_isCore 15 = .ok (.getfield 20, 3) := by decide +kernel
theorem dX11_isCore_18 : decode cX11_isCore 18 = .ok (.aload_n 0, 1) := by decide +kernel
theorem dX11_isCore_19 : decode cX11_isCore 19 = .ok (.getfield 321, 3) := by decide +kernel
theorem dX11_isCore_22 : decode cX11_isCore 22 = .ok (.iaload, 1) := by decide +kernel
theorem dX11_isCore_23 : decode cX11_isCore 23 = .ok (.if_icmp .ge 35, 3) := by decide +kernel
theorem dX11_isCore_26 : decode cX11_isCore 26 = .ok (.iload_n 1, 1) := by decide +kernel
theorem dX11_isCore_27 : decode cX11_isCore 27 = .ok (.iload_n 2, 1) := by decide +kernel
theorem dX11_isCore_28 : decode cX11_isCore 28 = .ok (.ishr, 1) := by decide +kernel
theorem dX11_isCore_29 : decode cX11_isCore 29 = .ok (.iconst 1, 1) := by decide +kernel
theorem dX11_isCore_30 : decode cX11_isCore 30 = .ok (.iand, 1) := by decide +kernel
theorem dX11_isCore_31 : decode cX11_isCore 31 = .ok (.iconst 1, 1) := by decide +kernel
theorem dX11_isCore_32 : decode cX11_isCore 32 = .ok (.if_icmp .ne 20, 3) := by decide +kernel
theorem dX11_isCore_35 : decode cX11_isCore 35 = .ok (.aload_n 0, 1) := by decide +kernel
theorem dX11_isCore_36 : decode cX11_isCore 36 = .ok (.getfield 124, 3) := by decide +kernel
theorem dX11_isCore_39 : decode cX11_isCore 39 = .ok (.iload_n 1, 1) := by decide +kernel
theorem dX11_isCore_40 : decode cX11_isCore 40 = .ok (.iconst 1, 1) := by decide +kernel
theorem dX11_isCore_41 : decode cX11_isCore 41 = .ok (.iload_n 2, 1) := by decide +kernel
theorem dX11_isCore_42 : decode cX11_isCore 42 = .ok (.ishl, 1) := by decide +kernel
theorem dX11_isCore_43 : decode cX11_isCore 43 = .ok (.iconst (-1), 1) := by decide +kernel
theorem dX11_isCore_44 : decode cX11_isCore 44 = .ok (.ixor, 1) := by decide +kernel
theorem dX11_isCore_45 : decode cX11_isCore 45 = .ok (.iand, 1) := by decide +kernel
theorem dX11_isCore_46 : decode cX11_isCore 46 = .ok (.baload, 1) := by decide +kernel
theorem dX11_isCore_47 : decode cX11_isCore 47 = .ok (.ifCond .eq 5, 3) := by decide +kernel
theorem dX11_isCore_50 : decode cX11_isCore 50 = .ok (.iconst 0, 1) := by decide +kernel
theorem dX11_isCore_51 : decode cX11_isCore 51 = .ok (.ireturn, 1) := by decide +kernel
theorem dX11_isCore_52 : decode cX11_isCore 52 = .ok (.iinc 2 1, 3) := by decide +kernel
theorem dX11_isCore_55 : decode cX11_isCore 55 = .ok (.goto (-42), 3) := by decide +kernel
theorem dX11_isCore_58 : decode cX11_isCore 58 = .ok (.iconst 1, 1) := by decide +kernel
theorem dX11_isCore_59 : decode cX11_isCore 59 = .ok (.ireturn, 1) := by decide +kernel
set_option maxRecDepth 20000 in
theorem uM_X11_isCore_30 : q_met mX11_isCore (q_sM uMI16 zJ1) [.ref 139, .int 0] (fun s r => s = q_sM uMI16 zJ1 ∧ r = some (.int 0)) := by
  refine q_enter (by decide) (Nat.le_of_ble_eq_true rfl) ?_
  refine q_aload_n dX11_isCore_0 rfl ?_
  refine q_getR (c := 11) (n := 0) (k := 53) (a := 175) dX11_isCore_1 rfl (by decide) (by decide) fX11_124 rfl rfl ?_
  refine q_iload_n dX11_isCore_4 rfl ?_
  refine q_zald (n := 4096) (j := 0) dX11_isCore_5 rfl rfl (by decide) ?_
  refine q_topI (v := 0) rfl ?_
  refine q_iz_ne (tgt := 11) (a := 0) dX11_isCore_6 (by decide) rfl (fun h => absurd h (by decide)) (fun _ => ?_)
  refine q_ic (v := 0) dX11_isCore_9 rfl ?_
  refine q_zret dX11_isCore_10 rfl (Or.inl rfl) ?_
  exact ⟨rfl, rfl⟩
set_option maxRecDepth 20000 in
theorem uM_X11_counted_31 : q_met mX11_counted (q_sM uMI16 zJ1) [.ref 139, .int 0, .int (-1)] (fun s r => s = q_sM uMI16 zJ1 ∧ ∃ v, r = some (.int v) ∧ v.toInt = (if (-1) < 0 then 0 else -1 : Int)) := by
  refine q_enter (by decide) (Nat.le_of_ble_eq_true rfl) ?_
  refine q_ic (v := 0) dX11_counted_0 rfl ?_
  refine q_istore_n dX11_counted_1 (Nat.le_of_ble_eq_true rfl) ?_
  refine q_ic (v := 0) dX11_counted_2 rfl ?_
  refine q_istore dX11_counted_3 (Nat.le_of_ble_eq_true rfl) ?_
  refine q_iload dX11_counted_5 rfl ?_
  refine q_ic (v := 1) dX11_counted_7 rfl ?_
  refine q_aload_n dX11_counted_8 rfl ?_
  refine q_getR (c := 11) (n := 0) (k := 11) (a := 142) dX11_counted_9 rfl (by decide) (by decide) fX11_20 rfl rfl ?_
  refine q_aload_n dX11_counted_12 rfl ?_
  refine q_getf (c := 11) (n := 0) (k := 28) (v := .int 0) dX11_counted_13 rfl (by decide) (by decide) fX11_321 rfl ?_
  refine q_iald (n := 6) (j := 0) dX11_counted_16 rfl rfl (by decide) ?_
  refine q_topI (v := 0) rfl ?_
  refine q_ishl dX11_counted_17 ?_
  refine q_topI (v := 1) rfl ?_
  refine q_cz_ge (tgt := 66) (a := 0) (b := 1) dX11_counted_18 (by decide) rfl rfl (fun h => absurd h (by decide)) (fun _ => ?_)
  refine q_iload_n dX11_counted_21 rfl ?_
  refine q_iz_eq (tgt := 37) (a := 0) dX11_counted_22 (by decide) rfl (fun _ => ?_) (fun h => absurd h (by decide))
  refine q_aload_n dX11_counted_37 rfl ?_
  refine q_iload dX11_counted_38 rfl ?_
  refine q_V1 (ci := 11) (n := 0) dX11_counted_40 DX11_isCore lX11_482 rfl (by decide) rfl rfl rfl rfl uM_X11_isCore_30 ?_
  rintro _ _ ⟨rfl, rfl⟩
  refine q_iz_ne (tgt := 49) (a := 0) dX11_counted_43 (by decide) rfl (fun h => absurd h (by decide)) (fun _ => ?_)
  refine q_goto (tgt := 60) dX11_counted_46 (by decide) ?_
  refine q_inc (v := 1) dX11_counted_60 rfl (Nat.le_of_ble_eq_true rfl) rfl ?_
  refine q_goto (tgt := 5) dX11_counted_63 (by decide) ?_
  refine q_iload dX11_counted_5 rfl ?_
  refine q_ic (v := 1) dX11_counted_7 rfl ?_
  refine q_aload_n dX11_counted_8 rfl ?_
  refine q_getR (c := 11) (n := 0) (k := 11) (a := 142) dX11_counted_9 rfl (by decide) (by decide) fX11_20 rfl rfl ?_
  refine q_aload_n dX11_counted_12 rfl ?_
  refine q_getf (c := 11) (n := 0) (k := 28) (v := .int 0) dX11_counted_13 rfl (by decide) (by decide) fX11_321 rfl ?_
  refine q_iald (n := 6) (j := 0) dX11_counted_16 rfl rfl (by decide) ?_
  refine q_topI (v := 0) rfl ?_
  refine q_ishl dX11_counted_17 ?_
  refine q_topI (v := 1) rfl ?_
  refine q_cz_ge (tgt := 66) (a := 1) (b := 1) dX11_counted_18 (by decide) rfl rfl (fun _ => ?_) (fun h => absurd h (by decide))
  refine q_iload_n dX11_counted_66 rfl ?_
  refine q_iz_ge (tgt := 74) (a := -1) dX11_counted_67 (by decide) rfl (fun h => absurd h (by decide)) (fun _ => ?_)
  refine q_iload_n dX11_counted_70 rfl ?_
  refine q_goto (tgt := 75) dX11_counted_71 (by decide) ?_
  refine q_iret dX11_counted_75 rfl ?_
  exact ⟨rfl, _, rfl, (by show (0 : Int) = _; first | rfl | omega | (split <;> omega) | (split <;> split <;> omega))⟩
set_option maxRecDepth 20000 in
theorem frM_cores : q_met mX11_cores (q_sM zI6 zJ1) [.ref 139] (fun s r => (∃ I J, s = q_sM I J) ∧ ∃ v, r = some (.int v) ∧ v.toInt = (0 : Int)) := by
  refine q_enter (by decide) (Nat.le_of_ble_eq_true rfl) ?_
  refine q_aload_n dX11_cores_0 rfl ?_
  refine q_V0 (ci := 11) (n := 0) dX11_cores_1 DX11_layClashes lX11_485 rfl (by decide) rfl rfl rfl rfl uM_X11_layClashes_29 ?_
  rintro _ _ ⟨rfl, rfl⟩
  refine q_iz_eq (tgt := 16) (a := 1) dX11_cores_4 (by decide) rfl (fun h => absurd h (by decide)) (fun _ => ?_)
  refine q_aload_n dX11_cores_7 rfl ?_
  refine q_ic (v := 0) dX11_cores_8 rfl ?_
  refine q_ic (v := (-1)) dX11_cores_9 rfl ?_
  refine q_V2 (ci := 11) (n := 0) dX11_cores_10 DX11_counted lX11_488 rfl (by decide) rfl rfl rfl rfl uM_X11_counted_31 ?_
  rintro _ _ ⟨rfl, v1, rfl, gv1⟩
  refine q_goto (tgt := 18) dX11_cores_13 (by decide) ?_
  refine q_iret dX11_cores_18 rfl ?_
  exact ⟨⟨_, _, rfl⟩, _, rfl, ((gv1).trans (by first | rfl | omega | (split <;> omega) | (split <;> split <;> omega)))⟩
theorem dX11_coreAt_0 : decode cX11_coreAt 0 = .ok (.iload_n 1, 1) := by decide +kernel
theorem dX11_coreAt_1 : decode cX11_coreAt 1 = .ok (.ifCond .lt 10, 3) := by decide +kernel
theorem dX11_coreAt_4 : decode cX11_coreAt 4 = .ok (.aload_n 0, 1) := by decide +kernel
theorem dX11_coreAt_5 : decode cX11_coreAt 5 = .ok (.invokevirtual 485, 3) := by decide +kernel
theorem dX11_coreAt_8 : decode cX11_coreAt 8 = .ok (.ifCond .ne 9, 3) := by decide +kernel
theorem dX11_coreAt_11 : decode cX11_coreAt 11 = .ok (.ldc2_w 473, 3) := by decide +kernel
theorem dX11_coreAt_14 : decode cX11_coreAt 14 = .ok (.goto 10, 3) := by decide +kernel
theorem dX11_coreAt_17 : decode cX11_coreAt 17 = .ok (.aload_n 0, 1) := by decide +kernel
theorem dX11_coreAt_18 : decode cX11_coreAt 18 = .ok (.iconst 0, 1) := by decide +kernel
theorem dX11_coreAt_19 : decode cX11_coreAt 19 = .ok (.iload_n 1, 1) := by decide +kernel
theorem dX11_coreAt_20 : decode cX11_coreAt 20 = .ok (.invokevirtual 488, 3) := by decide +kernel
theorem dX11_coreAt_23 : decode cX11_coreAt 23 = .ok (.i2l, 1) := by decide +kernel
theorem dX11_coreAt_24 : decode cX11_coreAt 24 = .ok (.lreturn, 1) := by decide +kernel
set_option maxRecDepth 20000 in
theorem uM_X11_counted_33 (b : Int32) : q_met mX11_counted (q_sM uMI16 zJ1) [.ref 139, .int 0, .int b] (fun s r => s = q_sM uMI16 zJ1 ∧ ∃ v, r = some (.int v) ∧ v.toInt = (if b.toInt < 0 then 0 else -1 : Int)) := by
  refine q_enter (by decide) (Nat.le_of_ble_eq_true rfl) ?_
  refine q_ic (v := 0) dX11_counted_0 rfl ?_
  refine q_istore_n dX11_counted_1 (Nat.le_of_ble_eq_true rfl) ?_
  refine q_ic (v := 0) dX11_counted_2 rfl ?_
  refine q_istore dX11_counted_3 (Nat.le_of_ble_eq_true rfl) ?_
  refine q_iload dX11_counted_5 rfl ?_
  refine q_ic (v := 1) dX11_counted_7 rfl ?_
  refine q_aload_n dX11_counted_8 rfl ?_
  refine q_getR (c := 11) (n := 0) (k := 11) (a := 142) dX11_counted_9 rfl (by decide) (by decide) fX11_20 rfl rfl ?_
  refine q_aload_n dX11_counted_12 rfl ?_
  refine q_getf (c := 11) (n := 0) (k := 28) (v := .int 0) dX11_counted_13 rfl (by decide) (by decide) fX11_321 rfl ?_
  refine q_iald (n := 6) (j := 0) dX11_counted_16 rfl rfl (by decide) ?_
  refine q_topI (v := 0) rfl ?_
  refine q_ishl dX11_counted_17 ?_
  refine q_topI (v := 1) rfl ?_
  refine q_cz_ge (tgt := 66) (a := 0) (b := 1) dX11_counted_18 (by decide) rfl rfl (fun h => absurd h (by decide)) (fun _ => ?_)
  refine q_iload_n dX11_counted_21 rfl ?_
  refine q_iz_eq (tgt := 37) (a := 0) dX11_counted_22 (by decide) rfl (fun _ => ?_) (fun h => absurd h (by decide))
  refine q_aload_n dX11_counted_37 rfl ?_
  refine q_iload dX11_counted_38 rfl ?_
  refine q_V1 (ci := 11) (n := 0) dX11_counted_40 DX11_isCore lX11_482 rfl (by decide) rfl rfl rfl rfl uM_X11_isCore_30 ?_
  rintro _ _ ⟨rfl, rfl⟩
  refine q_iz_ne (tgt := 49) (a := 0) dX11_counted_43 (by decide) rfl (fun h => absurd h (by decide)) (fun _ => ?_)
  refine q_goto (tgt := 60) dX11_counted_46 (by decide) ?_
  refine q_inc (v := 1) dX11_counted_60 rfl (Nat.le_of_ble_eq_true rfl) rfl ?_
  refine q_goto (tgt := 5) dX11_counted_63 (by decide) ?_
  refine q_iload dX11_counted_5 rfl ?_
  refine q_ic (v := 1) dX11_counted_7 rfl ?_
  refine q_aload_n dX11_counted_8 rfl ?_
  refine q_getR (c := 11) (n := 0) (k := 11) (a := 142) dX11_counted_9 rfl (by decide) (by decide) fX11_20 rfl rfl ?_
  refine q_aload_n dX11_counted_12 rfl ?_
  refine q_getf (c := 11) (n := 0) (k := 28) (v := .int 0) dX11_counted_13 rfl (by decide) (by decide) fX11_321 rfl ?_
  refine q_iald (n := 6) (j := 0) dX11_counted_16 rfl rfl (by decide) ?_
  refine q_topI (v := 0) rfl ?_
  refine q_ishl dX11_counted_17 ?_
  refine q_topI (v := 1) rfl ?_
  refine q_cz_ge (tgt := 66) (a := 1) (b := 1) dX11_counted_18 (by decide) rfl rfl (fun _ => ?_) (fun h => absurd h (by decide))
  refine q_iload_n dX11_counted_66 rfl ?_
  refine q_iz_ge (tgt := 74) (a := b.toInt) dX11_counted_67 (by decide) rfl (fun h67_0 => ?_) (fun h67_0 => ?_)
  · refine q_ic (v := (-1)) dX11_counted_74 rfl ?_
    refine q_iret dX11_counted_75 rfl ?_
    exact ⟨rfl, _, rfl, (by show ((-1) : Int) = _; first | rfl | omega | (split <;> omega) | (split <;> split <;> omega))⟩
  · refine q_iload_n dX11_counted_70 rfl ?_
    refine q_goto (tgt := 75) dX11_counted_71 (by decide) ?_
    refine q_iret dX11_counted_75 rfl ?_
    exact ⟨rfl, _, rfl, (by show (0 : Int) = _; first | rfl | omega | (split <;> omega) | (split <;> split <;> omega))⟩
set_option maxRecDepth 20000 in
theorem frM_coreAt (a : Int32) : q_met mX11_coreAt (q_sM zI6 zJ1) [.ref 139, .int a] (fun s r => (∃ I J, s = q_sM I J) ∧ ∃ v, r = some (.long v) ∧ v.toInt = (-1 : Int)) := by
  refine q_enter (by decide) (Nat.le_of_ble_eq_true rfl) ?_
  refine q_iload_n dX11_coreAt_0 rfl ?_
  refine q_iz_lt (tgt := 11) (a := a.toInt) dX11_coreAt_1 (by decide) rfl (fun h1_0 => ?_) (fun h1_0 => ?_)
  · refine q_ldc2 (v := (-1)) dX11_coreAt_11 nX11_473 ?_
    refine q_goto (tgt := 24) dX11_coreAt_14 (by decide) ?_
    refine q_lret dX11_coreAt_24 rfl ?_
    exact ⟨⟨_, _, rfl⟩, _, rfl, (by show ((-1) : Int) = _; first | rfl | omega | (split <;> omega) | (split <;> split <;> omega))⟩
  · refine q_aload_n dX11_coreAt_4 rfl ?_
    refine q_V0 (ci := 11) (n := 0) dX11_coreAt_5 DX11_layClashes lX11_485 rfl (by decide) rfl rfl rfl rfl uM_X11_layClashes_29 ?_
    rintro _ _ ⟨rfl, rfl⟩
    refine q_iz_ne (tgt := 17) (a := 1) dX11_coreAt_8 (by decide) rfl (fun _ => ?_) (fun h => absurd h (by decide))
    refine q_aload_n dX11_coreAt_17 rfl ?_
    refine q_ic (v := 0) dX11_coreAt_18 rfl ?_
    refine q_iload_n dX11_coreAt_19 rfl ?_
    refine q_V2 (ci := 11) (n := 0) dX11_coreAt_20 DX11_counted lX11_488 rfl (by decide) rfl rfl rfl rfl (uM_X11_counted_33 a) ?_
    rintro _ _ ⟨rfl, v2, rfl, gv2⟩
    refine q_i2l dX11_coreAt_23 ?_
    refine q_lret dX11_coreAt_24 rfl ?_
    exact ⟨⟨_, _, rfl⟩, _, rfl, (((q_i2lz.trans gv2)).trans (by first | rfl | omega | (split <;> omega) | (split <;> split <;> omega)))⟩
theorem dX11_trust_0 : decode cX11_trust 0 = .ok (.aload_n 0, 1) := by decide +kernel
theorem dX11_trust_1 : decode cX11_trust 1 = .ok (.iload_n 1, 1) := by decide +kernel
theorem dX11_trust_2 : decode cX11_trust 2 = .ok (.invokevirtual 383, 3) := by decide +kernel
theorem dX11_trust_5 : decode cX11_trust 5 = .ok (.ifCond .eq 13, 3) := by decide +kernel
theorem dX11_trust_8 : decode cX11_trust 8 = .ok (.iload_n 2, 1) := by decide +kernel
theorem dX11_trust_9 : decode cX11_trust 9 = .ok (.iconst 1, 1) := by decide +kernel
theorem dX11_trust_10 : decode cX11_trust 10 = .ok (.bipush 100, 2) := by decide +kernel
theorem dX11_trust_12 : decode cX11_trust 12 = .ok (.invokestatic 379, 3) := by decide +kernel
theorem dX11_trust_15 : decode cX11_trust 15 = .ok (.ifCond .ne 5, 3) := by decide +kernel
theorem dX11_trust_18 : decode cX11_trust 18 = .ok (.iconst (-1), 1) := by decide +kernel
theorem dX11_trust_19 : decode cX11_trust 19 = .ok (.ireturn, 1) := by decide +kernel
theorem dX11_trust_20 : decode cX11_trust 20 = .ok (.aload_n 0, 1) := by decide +kernel
theorem dX11_trust_21 : decode cX11_trust 21 = .ok (.getfield 128, 3) := by decide +kernel
theorem dX11_trust_24 : decode cX11_trust 24 = .ok (.iload_n 1, 1) := by decide +kernel
theorem dX11_trust_25 : decode cX11_trust 25 = .ok (.iaload, 1) := by decide +kernel
theorem dX11_trust_26 : decode cX11_trust 26 = .ok (.istore_n 3, 1) := by decide +kernel
theorem dX11_trust_27 : decode cX11_trust 27 = .ok (.aload_n 0, 1) := by decide +kernel
theorem dX11_trust_28 : decode cX11_trust 28 = .ok (.getfield 128, 3) := by decide +kernel
theorem dX11_trust_31 : decode cX11_trust 31 = .ok (.iload_n 1, 1) := by decide +kernel
theorem dX11_trust_32 : decode cX11_trust 32 = .ok (.iload_n 2, 1) := by decide +kernel
theorem dX11_trust_33 : decode cX11_trust 33 = .ok (.iastore, 1) := by decide +kernel
theorem dX11_trust_34 : decode cX11_trust 34 = .ok (.aload_n 0, 1) := by decide +kernel
theorem dX11_trust_35 : decode cX11_trust 35 = .ok (.iconst 0, 1) := by decide +kernel
theorem dX11_trust_36 : decode cX11_trust 36 = .ok (.putfield 492, 3) := by decide +kernel
theorem dX11_trust_39 : decode cX11_trust 39 = .ok (.aload_n 0, 1) := by decide +kernel
theorem dX11_trust_40 : decode cX11_trust 40 = .ok (.iconst 0, 1) := by decide +kernel
theorem dX11_trust_41 : decode cX11_trust 41 = .ok (.putfield 496, 3) := by decide +kernel
theorem dX11_trust_44 : decode cX11_trust 44 = .ok (.iload_n 3, 1) := by decide +kernel
theorem dX11_trust_45 : decode cX11_trust 45 = .ok (.ireturn, 1) := by decide +kernel
set_option maxRecDepth 20000 in
theorem frM_trust (a : Int32) (b : Int32) : q_met mX11_trust (q_sM zI6 zJ1) [.ref 139, .int a, .int b] (fun s r => (∃ I J, s = q_sM I J) ∧ ∃ v, r = some (.int v) ∧ v.toInt = (-1 : Int)) := by
  refine q_enter (by decide) (Nat.le_of_ble_eq_true rfl) ?_
  refine q_aload_n dX11_trust_0 rfl ?_
  refine q_iload_n dX11_trust_1 rfl ?_
  refine q_V1 (ci := 11) (n := 0) dX11_trust_2 DX11_isPlace lX11_383 rfl (by decide) rfl rfl rfl rfl (uM_X11_isPlace_11 a) ?_
  rintro _ _ ⟨rfl, rfl⟩
  refine q_iz_eq (tgt := 18) (a := 0) dX11_trust_5 (by decide) rfl (fun _ => ?_) (fun h => absurd h (by decide))
  refine q_ic (v := (-1)) dX11_trust_18 rfl ?_
  refine q_iret dX11_trust_19 rfl ?_
  exact ⟨⟨_, _, rfl⟩, _, rfl, (by show ((-1) : Int) = _; first | rfl | omega | (split <;> omega) | (split <;> split <;> omega))⟩
theorem dX11_cheapest_0 : decode cX11_cheapest 0 = .ok (.aload_n 0, 1) := by decide +kernel
theorem dX11_cheapest_1 : decode cX11_cheapest 1 = .ok (.getfield 20, 3) := by decide +kernel
theorem dX11_cheapest_4 : decode cX11_cheapest 4 = .ok (.aload_n 0, 1) := by decide +kernel
theorem dX11_cheapest_5 : decode cX11_cheapest 5 = .ok (.getfield 321, 3) := by decide +kernel
theorem dX11_cheapest_8 : decode cX11_cheapest 8 = .ok (.iaload, 1) := by decide +kernel
theorem dX11_cheapest_9 : decode cX11_cheapest 9 = .ok (.bipush 24, 2) := by decide +kernel
theorem dX11_cheapest_11 : decode cX11_cheapest 11 = .ok (.if_icmp .le 7, 3) := by decide +kernel
theorem dX11_cheapest_14 : decode cX11_cheapest 14 = .ok (.ldc2_w 511, 3) := by decide +kernel
theorem dX11_cheapest_17 : decode cX11_cheapest 17 = .ok (.lreturn, 1) := by decide +kernel
theorem dX11_cheapest_18 : decode cX11_cheapest 18 = .ok (.aload_n 0, 1) := by decide +kernel
theorem dX11_cheapest_19 : decode cX11_cheapest 19 = .ok (.invokevirtual 513, 3) := by decide +kernel
theorem dX11_cheapest_22 : decode cX11_cheapest 22 = .ok (.aload_n 0, 1) := by decide +kernel
theorem dX11_cheapest_23 : decode cX11_cheapest 23 = .ok (.getfield 502, 3) := by decide +kernel
theorem dX11_cheapest_26 : decode cX11_cheapest 26 = .ok (.lreturn, 1) := by decide +kernel
theorem dX11_findCheapest_0 : decode cX11_findCheapest 0 = .ok (.aload_n 0, 1) := by decide +kernel
theorem dX11_findCheapest_1 : decode cX11_findCheapest 1 = .ok (.getfield 492, 3) := by decide +kernel
theorem dX11_findCheapest_4 : decode cX11_findCheapest 4 = .ok (.ifCond .eq 4, 3) := by decide +kernel
theorem dX11_findCheapest_7 : decode cX11_findCheapest 7 = .ok (.return_, 1) := by decide +kernel
theorem dX11_findCheapest_8 : decode cX11_findCheapest 8 = .ok (.aload_n 0, 1) := by decide +kernel
theorem dX11_findCheapest_9 : decode cX11_findCheapest 9 = .ok (.iconst 1, 1) := by decide +kernel
theorem dX11_findCheapest_10 : decode cX11_findCheapest 10 = .ok (.putfield 492, 3) := by decide +kernel
theorem dX11_findCheapest_13 : decode cX11_findCheapest 13 = .ok (.aload_n 0, 1) := by decide +kernel
theorem dX11_findCheapest_14 : decode cX11_findCheapest 14 = .ok (.invokevirtual 460, 3) := by decide +kernel
theorem dX11_findCheapest_17 : decode cX11_findCheapest 17 = .ok (.aload_n 0, 1) := by decide +kernel
theorem dX11_findCheapest_18 : decode cX11_findCheapest 18 = .ok (.aload_n 0, 1) := by decide +kernel
theorem dX11_findCheapest_19 : decode cX11_findCheapest 19 = .ok (.invokevirtual 505, 3) := by decide +kernel
theorem dX11_findCheapest_22 : decode cX11_findCheapest 22 = .ok (.iconst 1, 1) := by decide +kernel
theorem dX11_findCheapest_23 : decode cX11_findCheapest 23 = .ok (.iadd, 1) := by decide +kernel
theorem dX11_findCheapest_24 : decode cX11_findCheapest 24 = .ok (.putfield 499, 3) := by decide +kernel
theorem dX11_findCheapest_27 : decode cX11_findCheapest 27 = .ok (.aload_n 0, 1) := by decide +kernel
theorem dX11_findCheapest_28 : decode cX11_findCheapest 28 = .ok (.lconst 0, 1) := by decide +kernel
theorem dX11_findCheapest_29 : decode cX11_findCheapest 29 = .ok (.putfield 502, 3) := by decide +kernel
theorem dX11_findCheapest_32 : decode cX11_findCheapest 32 = .ok (.aload_n 0, 1) := by decide +kernel
theorem dX11_findCheapest_33 : decode cX11_findCheapest 33 = .ok (.getfield 131, 3) := by decide +kernel
theorem dX11_findCheapest_36 : decode cX11_findCheapest 36 = .ok (.iconst 0, 1) := by decide +kernel
theorem dX11_findCheapest_37 : decode cX11_findCheapest 37 = .ok (.lconst 0, 1) := by decide +kernel
theorem dX11_findCheapest_38 : decode cX11_findCheapest 38 = .ok (.lastore, 1) := by decide +kernel
theorem dX11_findCheapest_39 : decode cX11_findCheapest 39 = .ok (.aload_n 0, 1) := by decide +kernel
theorem dX11_findCheapest_40 : decode cX11_findCheapest 40 = .ok (.getfield 134, 3) := by decide +kernel
theorem dX11_findCheapest_43 : decode cX11_findCheapest 43 = .ok (.iconst 0, 1) := by decide +kernel
theorem dX11_findCheapest_44 : decode cX11_findCheapest 44 = .ok (.lconst 0, 1) := by decide +kernel
theorem dX11_findCheapest_45 : decode cX11_findCheapest 45 = .ok (.lastore, 1) := by decide +kernel
theorem dX11_findCheapest_46 : decode cX11_findCheapest 46 = .ok (.aload_n 0, 1) := by decide +kernel
theorem dX11_findCheapest_47 : decode cX11_findCheapest 47 = .ok (.getfield 140, 3) := by decide +kernel
theorem dX11_findCheapest_50 : decode cX11_findCheapest 50 = .ok (.iconst 0, 1) := by decide +kernel
theorem dX11_findCheapest_51 : decode cX11_findCheapest 51 = .ok (.iconst 0, 1) := by decide +kernel
theorem dX11_findCheapest_52 : decode cX11_findCheapest 52 = .ok (.iastore, 1) := by decide +kernel
theorem dX11_findCheapest_53 : decode cX11_findCheapest 53 = .ok (.aload_n 0, 1) := by decide +kernel
theorem dX11_findCheapest_54 : decode cX11_findCheapest 54 = .ok (.iconst 0, 1) := by decide +kernel
theorem dX11_findCheapest_55 : decode cX11_findCheapest 55 = .ok (.invokevirtual 508, 3) := by decide +kernel
theorem dX11_findCheapest_58 : decode cX11_findCheapest 58 = .ok (.iconst 0, 1) := by decide +kernel
theorem dX11_findCheapest_59 : decode cX11_findCheapest 59 = .ok (.istore_n 1, 1) := by decide +kernel
theorem dX11_findCheapest_60 : decode cX11_findCheapest 60 = .ok (.iload_n 1, 1) := by decide +kernel
theorem dX11_findCheapest_61 : decode cX11_findCheapest 61 = .ok (.ifCond .lt 184, 3) := by decide +kernel
theorem dX11_findCheapest_64 : decode cX11_findCheapest 64 = .ok (.aload_n 0, 1) := by decide +kernel
theorem dX11_findCheapest_65 : decode cX11_findCheapest 65 = .ok (.getfield 143, 3) := by decide +kernel
theorem dX11_findCheapest_68 : decode cX11_findCheapest 68 = .ok (.iload_n 1, 1) := by decide +kernel
theorem dX11_findCheapest_69 : decode cX11_findCheapest 69 = .ok (.iaload, 1) := by decide +kernel
theorem dX11_findCheapest_70 : decode cX11_findCheapest 70 = .ok (.iconst 1, 1) := by decide +kernel
theorem dX11_findCheapest_71 : decode cX11_findCheapest 71 = .ok (.iadd, 1) := by decide +kernel
theorem dX11_findCheapest_72 : decode cX11_findCheapest 72 = .ok (.istore_n 2, 1) := by decide +kernel
theorem dX11_findCheapest_73 : decode cX11_findCheapest 73 = .ok (.iload_n 2, 1) := by decide +kernel
theorem dX11_findCheapest_74 : decode cX11_findCheapest 74 = .ok (.aload_n 0, 1) := by decide +kernel
theorem dX11_findCheapest_75 : decode cX11_findCheapest 75 = .ok (.getfield 20, 3) := by decide +kernel
theorem dX11_findCheapest_78 : decode cX11_findCheapest 78 = .ok (.aload_n 0, 1) := by decide +kernel
theorem dX11_findCheapest_79 : decode cX11_findCheapest 79 = .ok (.getfield 321, 3) := by decide +kernel
theorem dX11_findCheapest_82 : decode cX11_findCheapest 82 = .ok (.iaload, 1) := by decide +kernel
theorem dX11_findCheapest_83 : decode cX11_findCheapest 83 = .ok (.if_icmp .ge 59, 3) := by decide +kernel
theorem dX11_findCheapest_86 : decode cX11_findCheapest 86 = .ok (.aload_n 0, 1) := by decide +kernel
theorem dX11_findCheapest_87 : decode cX11_findCheapest 87 = .ok (.getfield 137, 3) := by decide +kernel
theorem dX11_findCheapest_90 : decode cX11_findCheapest 90 = .ok (.iload_n 1, 1) := by decide +kernel
theorem dX11_findCheapest_91 : decode cX11_findCheapest 91 = .ok (.laload, 1) := by decide +kernel
theorem dX11_findCheapest_92 : decode cX11_findCheapest 92 = .ok (.iload_n 2, 1) := by decide +kernel
theorem dX11_findCheapest_93 : decode cX11_findCheapest 93 = .ok (.lshr, 1) := by decide +kernel
theorem dX11_findCheapest_94 : decode cX11_findCheapest 94 = .ok (.lconst 1, 1) := by decide +kernel
theorem dX11_findCheapest_95 : decode cX11_findCheapest 95 = .ok (.land, 1) := by decide +kernel
theorem dX11_findCheapest_96 : decode cX11_findCheapest 96 = .ok (.lconst 0, 1) := by decide +kernel
theorem dX11_findCheapest_97 : decode cX11_findCheapest 97 = .ok (.lcmp, 1) := by decide +kernel
theorem dX11_findCheapest_98 : decode cX11_findCheapest 98 = .ok (.ifCond .eq 38, 3) := by decide +kernel
theorem dX11_findCheapest_101 : decode cX11_findCheapest 101 = .ok (.aload_n 0, 1) := by decide +kernel
theorem dX11_findCheapest_102 : decode cX11_findCheapest 102 = .ok (.getfield 134, 3) := by decide +kernel
theorem dX11_findCheapest_105 : decode cX11_findCheapest 105 = .ok (.iload_n 1, 1) := by decide +kernel
theorem dX11_findCheapest_106 : decode cX11_findCheapest 106 = .ok (.laload, 1) := by decide +kernel
theorem dX11_findCheapest_107 : decode cX11_findCheapest 107 = .ok (.iload_n 2, 1) := by decide +kernel
theorem dX11_findCheapest_108 : decode cX11_findCheapest 108 = .ok (.lshr, 1) := by decide +kernel
theorem dX11_findCheapest_109 : decode cX11_findCheapest 109 = .ok (.lconst 1, 1) := by decide +kernel
theorem dX11_findCheapest_110 : decode cX11_findCheapest 110 = .ok (.land, 1) := by decide +kernel
theorem dX11_findCheapest_111 : decode cX11_findCheapest 111 = .ok (.lconst 1, 1) := by decide +kernel
theorem dX11_findCheapest_112 : decode cX11_findCheapest 112 = .ok (.lcmp, 1) := by decide +kernel
theorem dX11_findCheapest_113 : decode cX11_findCheapest 113 = .ok (.ifCond .eq 23, 3) := by decide +kernel
theorem dX11_findCheapest_116 : decode cX11_findCheapest 116 = .ok (.aload_n 0, 1) := by decide +kernel
theorem dX11_findCheapest_117 : decode cX11_findCheapest 117 = .ok (.getfield 140, 3) := by decide +kernel
theorem dX11_findCheapest_120 : decode cX11_findCheapest 120 = .ok (.iload_n 1, 1) := by decide +kernel
theorem dX11_findCheapest_121 : decode cX11_findCheapest 121 = .ok (.iaload, 1) := by decide +kernel
theorem dX11_findCheapest_122 : decode cX11_findCheapest 122 = .ok (.aload_n 0, 1) := by decide +kernel
theorem dX11_findCheapest_123 : decode cX11_findCheapest 123 = .ok (.getfield 128, 3) := by decide +kernel
theorem dX11_findCheapest_126 : decode cX11_findCheapest 126 = .ok (.iload_n 2, 1) := by decide +kernel
theorem dX11_findCheapest_127 : decode cX11_findCheapest 127 = .ok (.iaload, 1) := by decide +kernel
theorem dX11_findCheapest_128 : decode cX11_findCheapest 128 = .ok (.iadd, 1) := by decide +kernel
theorem dX11_findCheapest_129 : decode cX11_findCheapest 129 = .ok (.aload_n 0, 1) := by decide +kernel
theorem dX11_findCheapest_130 : decode cX11_findCheapest 130 = .ok (.getfield 499, 3) := by decide +kernel
theorem dX11_findCheapest_133 : decode cX11_findCheapest 133 = .ok (.if_icmp .le 9, 3) := by decide +kernel
theorem dX11_findCheapest_136 : decode cX11_findCheapest 136 = .ok (.iinc 2 1, 3) := by decide +kernel
theorem dX11_findCheapest_139 : decode cX11_findCheapest 139 = .ok (.goto (-66), 3) := by decide +kernel
theorem dX11_findCheapest_142 : decode cX11_findCheapest 142 = .ok (.aload_n 0, 1) := by decide +kernel
theorem dX11_findCheapest_143 : decode cX11_findCheapest 143 = .ok (.getfield 143, 3) := by decide +kernel
theorem dX11_findCheapest_146 : decode cX11_findCheapest 146 = .ok (.iload_n 1, 1) := by decide +kernel
theorem dX11_findCheapest_147 : decode cX11_findCheapest 147 = .ok (.iload_n 2, 1) := by decide +kernel
theorem dX11_findCheapest_148 : decode cX11_findCheapest 148 = .ok (.iastore, 1) := by decide +kernel
theorem dX11_findCheapest_149 : decode cX11_findCheapest 149 = .ok (.iload_n 2, 1) := by decide +kernel
theorem dX11_findCheapest_150 : decode cX11_findCheapest 150 = .ok (.aload_n 0, 1) := by decide +kernel
theorem dX11_findCheapest_151 : decode cX11_findCheapest 151 = .ok (.getfield 20, 3) := by decide +kernel
theorem dX11_findCheapest_154 : decode cX11_findCheapest 154 = .ok (.aload_n 0, 1) := by decide +kernel
theorem dX11_findCheapest_155 : decode cX11_findCheapest 155 = .ok (.getfield 321, 3) := by decide +kernel
theorem dX11_findCheapest_158 : decode cX11_findCheapest 158 = .ok (.iaload, 1) := by decide +kernel
theorem dX11_findCheapest_159 : decode cX11_findCheapest 159 = .ok (.if_icmp .lt 9, 3) := by decide +kernel
theorem dX11_findCheapest_162 : decode cX11_findCheapest 162 = .ok (.iinc 1 (-1), 3) := by decide +kernel
theorem dX11_findCheapest_165 : decode cX11_findCheapest 165 = .ok (.goto (-105), 3) := by decide +kernel
theorem dX11_findCheapest_168 : decode cX11_findCheapest 168 = .ok (.aload_n 0, 1) := by decide +kernel
theorem dX11_findCheapest_169 : decode cX11_findCheapest 169 = .ok (.getfield 131, 3) := by decide +kernel
theorem dX11_findCheapest_172 : decode cX11_findCheapest 172 = .ok (.iload_n 1, 1) := by decide +kernel
theorem dX11_findCheapest_173 : decode cX11_findCheapest 173 = .ok (.iconst 1, 1) := by decide +kernel
theorem dX11_findCheapest_174 : decode cX11_findCheapest 174 = .ok (.iadd, 1) := by decide +kernel
theorem dX11_findCheapest_175 : decode cX11_findCheapest 175 = .ok (.aload_n 0, 1) := by decide +kernel
theorem dX11_findCheapest_176 : decode cX11_findCheapest 176 = .ok (.getfield 131, 3) := by decide +kernel
theorem dX11_findCheapest_179 : decode cX11_findCheapest 179 = .ok (.iload_n 1, 1) := by decide +kernel
theorem dX11_findCheapest_180 : decode cX11_findCheapest 180 = .ok (.laload, 1) := by decide +kernel
theorem dX11_findCheapest_181 : decode cX11_findCheapest 181 = .ok (.lconst 1, 1) := by decide +kernel
theorem dX11_findCheapest_182 : decode cX11_findCheapest 182 = .ok (.iload_n 2, 1) := by decide +kernel
theorem dX11_findCheapest_183 : decode cX11_findCheapest 183 = .ok (.lshl, 1) := by decide +kernel
theorem dX11_findCheapest_184 : decode cX11_findCheapest 184 = .ok (.lor, 1) := by decide +kernel
theorem dX11_findCheapest_185 : decode cX11_findCheapest 185 = .ok (.lastore, 1) := by decide +kernel
theorem dX11_findCheapest_186 : decode cX11_findCheapest 186 = .ok (.aload_n 0, 1) := by decide +kernel
theorem dX11_findCheapest_187 : decode cX11_findCheapest 187 = .ok (.getfield 134, 3) := by decide +kernel
theorem dX11_findCheapest_190 : decode cX11_findCheapest 190 = .ok (.iload_n 1, 1) := by decide +kernel
theorem dX11_findCheapest_191 : decode cX11_findCheapest 191 = .ok (.iconst 1, 1) := by decide +kernel
theorem dX11_findCheapest_192 : decode cX11_findCheapest 192 = .ok (.iadd, 1) := by decide +kernel
theorem dX11_findCheapest_193 : decode cX11_findCheapest 193 = .ok (.aload_n 0, 1) := by decide +kernel
theorem dX11_findCheapest_194 : decode cX11_findCheapest 194 = .ok (.getfield 134, 3) := by decide +kernel
theorem dX11_findCheapest_197 : decode cX11_findCheapest 197 = .ok (.iload_n 1, 1) := by decide +kernel
theorem dX11_findCheapest_198 : decode cX11_findCheapest 198 = .ok (.laload, 1) := by decide +kernel
theorem dX11_findCheapest_199 : decode cX11_findCheapest 199 = .ok (.aload_n 0, 1) := by decide +kernel
theorem dX11_findCheapest_200 : decode cX11_findCheapest 200 = .ok (.getfield 137, 3) := by decide +kernel
theorem dX11_findCheapest_203 : decode cX11_findCheapest 203 = .ok (.iload_n 1, 1) := by decide +kernel
theorem dX11_findCheapest_204 : decode cX11_findCheapest 204 = .ok (.laload, 1) := by decide +kernel
theorem dX11_findCheapest_205 : decode cX11_findCheapest 205 = .ok (.lconst 1, 1) := by decide +kernel
theorem dX11_findCheapest_206 : decode cX11_findCheapest 206 = .ok (.iload_n 2, 1) := by decide +kernel
theorem dX11_findCheapest_207 : decode cX11_findCheapest 207 = .ok (.lshl, 1) := by decide +kernel
theorem dX11_findCheapest_208 : decode cX11_findCheapest 208 = .ok (.lconst 1, 1) := by decide +kernel
theorem dX11_findCheapest_209 : decode cX11_findCheapest 209 = .ok (.lsub, 1) := by decide +kernel
theorem dX11_findCheapest_210 : decode cX11_findCheapest 210 = .ok (.land, 1) := by decide +kernel
theorem dX11_findCheapest_211 : decode cX11_findCheapest 211 = .ok (.lor, 1) := by decide +kernel
theorem dX11_findCheapest_212 : decode cX11_findCheapest 212 = .ok (.lastore, 1) := by decide +kernel
theorem dX11_findCheapest_213 : decode cX11_findCheapest 213 = .ok (.aload_n 0, 1) := by decide +kernel
theorem dX11_findCheapest_214 : decode cX11_findCheapest 214 = .ok (.getfield 140, 3) := by decide +kernel
theorem dX11_findCheapest_217 : decode cX11_findCheapest 217 = .ok (.iload_n 1, 1) := by decide +kernel
theorem dX11_findCheapest_218 : decode cX11_findCheapest 218 = .ok (.iconst 1, 1) := by decide +kernel
theorem dX11_findCheapest_219 : decode cX11_findCheapest 219 = .ok (.iadd, 1) := by decide +kernel
theorem dX11_findCheapest_220 : decode cX11_findCheapest 220 = .ok (.aload_n 0, 1) := by decide +kernel
theorem dX11_findCheapest_221 : decode cX11_findCheapest 221 = .ok (.getfield 140, 3) := by decide +kernel
theorem dX11_findCheapest_224 : decode cX11_findCheapest 224 = .ok (.iload_n 1, 1) := by decide +kernel
theorem dX11_findCheapest_225 : decode cX11_findCheapest 225 = .ok (.iaload, 1) := by decide +kernel
theorem dX11_findCheapest_226 : decode cX11_findCheapest 226 = .ok (.aload_n 0, 1) := by decide +kernel
theorem dX11_findCheapest_227 : decode cX11_findCheapest 227 = .ok (.getfield 128, 3) := by decide +kernel
theorem dX11_findCheapest_230 : decode cX11_findCheapest 230 = .ok (.iload_n 2, 1) := by decide +kernel
theorem dX11_findCheapest_231 : decode cX11_findCheapest 231 = .ok (.iaload, 1) := by decide +kernel
theorem dX11_findCheapest_232 : decode cX11_findCheapest 232 = .ok (.iadd, 1) := by decide +kernel
theorem dX11_findCheapest_233 : decode cX11_findCheapest 233 = .ok (.iastore, 1) := by decide +kernel
theorem dX11_findCheapest_234 : decode cX11_findCheapest 234 = .ok (.iinc 1 1, 3) := by decide +kernel
theorem dX11_findCheapest_237 : decode cX11_findCheapest 237 = .ok (.aload_n 0, 1) := by decide +kernel
theorem dX11_findCheapest_238 : decode cX11_findCheapest 238 = .ok (.iload_n 1, 1) := by decide +kernel
theorem dX11_findCheapest_239 : decode cX11_findCheapest 239 = .ok (.invokevirtual 508, 3) := by decide +kernel
theorem dX11_findCheapest_242 : decode cX11_findCheapest 242 = .ok (.goto (-182), 3) := by decide +kernel
theorem dX11_findCheapest_245 : decode cX11_findCheapest 245 = .ok (.return_, 1) := by decide +kernel
def uMI17 : Nat → Nat → Int32 := q_up zI6 139 62 1
def uMI18 : Nat → Nat → Int32 := q_up (q_up (q_up (q_up uMI17 139 49 0) 139 46 0) 139 47 0) 139 48 0
def uMI19 : Nat → Nat → Int32 := q_up (q_up (q_up (q_up uMI18 161 0 0) 162 0 0) 163 0 0) 139 46 1
set_option maxRecDepth 20000 in
theorem uM_X11_term_36 : q_met mX11_term (q_sM uMI18 zJ1) [.ref 139, .int 0, .int 0, .int 0] (fun s r => s = q_sM uMI19 zJ1 ∧ r = some (.int 0)) := by
  refine q_enter (by decide) (Nat.le_of_ble_eq_true rfl) ?_
  refine q_aload_n dX11_term_0 rfl ?_
  refine q_getR (c := 11) (n := 0) (k := 33) (a := 161) dX11_term_1 rfl (by decide) (by decide) fX11_79 rfl rfl ?_
  refine q_aload_n dX11_term_4 rfl ?_
  refine q_getf (c := 11) (n := 0) (k := 46) (v := .int 0) dX11_term_5 rfl (by decide) (by decide) fX11_386 rfl ?_
  refine q_iload_n dX11_term_8 rfl ?_
  refine q_iast (n := 12000) (j := 0) dX11_term_9 rfl rfl (by decide) ?_
  show q_K _ (q_sM (q_up uMI18 161 0 0) zJ1) _ _ _ _ _ _
  refine q_aload_n dX11_term_10 rfl ?_
  refine q_getR (c := 11) (n := 0) (k := 34) (a := 162) dX11_term_11 rfl (by decide) (by decide) fX11_82 rfl rfl ?_
  refine q_aload_n dX11_term_14 rfl ?_
  refine q_getf (c := 11) (n := 0) (k := 46) (v := .int 0) dX11_term_15 rfl (by decide) (by decide) fX11_386 rfl ?_
  refine q_iload_n dX11_term_18 rfl ?_
  refine q_iast (n := 12000) (j := 0) dX11_term_19 rfl rfl (by decide) ?_
  show q_K _ (q_sM (q_up (q_up uMI18 161 0 0) 162 0 0) zJ1) _ _ _ _ _ _
  refine q_aload_n dX11_term_20 rfl ?_
  refine q_getR (c := 11) (n := 0) (k := 35) (a := 163) dX11_term_21 rfl (by decide) (by decide) fX11_85 rfl rfl ?_
  refine q_aload_n dX11_term_24 rfl ?_
  refine q_getf (c := 11) (n := 0) (k := 46) (v := .int 0) dX11_term_25 rfl (by decide) (by decide) fX11_386 rfl ?_
  refine q_iload_n dX11_term_28 rfl ?_
  refine q_iast (n := 12000) (j := 0) dX11_term_29 rfl rfl (by decide) ?_
  show q_K _ (q_sM (q_up (q_up (q_up uMI18 161 0 0) 162 0 0) 163 0 0) zJ1) _ _ _ _ _ _
  refine q_aload_n dX11_term_30 rfl ?_
  refine q_dup dX11_term_31 rfl ?_
  refine q_getf (c := 11) (n := 0) (k := 46) (v := .int 0) dX11_term_32 rfl (by decide) (by decide) fX11_386 rfl ?_
  refine q_ic (v := 1) dX11_term_35 rfl ?_
  refine q_iadd dX11_term_36 ?_
  refine q_topI (v := 1) rfl ?_
  refine q_putI (c := 11) (n := 0) (k := 46) dX11_term_37 rfl (by decide) (by decide) fX11_386 rfl rfl ?_
  show q_K _ (q_sM (q_up (q_up (q_up (q_up uMI18 161 0 0) 162 0 0) 163 0 0) 139 46 1) zJ1) _ _ _ _ _ _
  refine q_aload_n dX11_term_40 rfl ?_
  refine q_getf (c := 11) (n := 0) (k := 46) (v := .int 1) dX11_term_41 rfl (by decide) (by decide) fX11_386 rfl ?_
  refine q_ic (v := 1) dX11_term_44 rfl ?_
  refine q_isub dX11_term_45 ?_
  refine q_topI (v := 0) rfl ?_
  show q_K _ (q_sM uMI19 zJ1) _ _ _ _ _ _
  refine q_iret dX11_term_46 rfl ?_
  exact ⟨rfl, rfl⟩
def uMI20 : Nat → Nat → Int32 := q_up uMI19 139 50 0
def uMI21 : Nat → Nat → Int32 := q_up (q_up (q_up (q_up uMI20 161 1 1) 162 1 0) 163 1 0) 139 46 2
set_option maxRecDepth 20000 in
theorem uM_X11_term_37 : q_met mX11_term (q_sM uMI20 zJ1) [.ref 139, .int 1, .int 0, .int 0] (fun s r => s = q_sM uMI21 zJ1 ∧ r = some (.int 1)) := by
  refine q_enter (by decide) (Nat.le_of_ble_eq_true rfl) ?_
  refine q_aload_n dX11_term_0 rfl ?_
  refine q_getR (c := 11) (n := 0) (k := 33) (a := 161) dX11_term_1 rfl (by decide) (by decide) fX11_79 rfl rfl ?_
  refine q_aload_n dX11_term_4 rfl ?_
  refine q_getf (c := 11) (n := 0) (k := 46) (v := .int 1) dX11_term_5 rfl (by decide) (by decide) fX11_386 rfl ?_
  refine q_iload_n dX11_term_8 rfl ?_
  refine q_iast (n := 12000) (j := 1) dX11_term_9 rfl rfl (by decide) ?_
  show q_K _ (q_sM (q_up uMI20 161 1 1) zJ1) _ _ _ _ _ _
  refine q_aload_n dX11_term_10 rfl ?_
  refine q_getR (c := 11) (n := 0) (k := 34) (a := 162) dX11_term_11 rfl (by decide) (by decide) fX11_82 rfl rfl ?_
  refine q_aload_n dX11_term_14 rfl ?_
  refine q_getf (c := 11) (n := 0) (k := 46) (v := .int 1) dX11_term_15 rfl (by decide) (by decide) fX11_386 rfl ?_
  refine q_iload_n dX11_term_18 rfl ?_
  refine q_iast (n := 12000) (j := 1) dX11_term_19 rfl rfl (by decide) ?_
  show q_K _ (q_sM (q_up (q_up uMI20 161 1 1) 162 1 0) zJ1) _ _ _ _ _ _
  refine q_aload_n dX11_term_20 rfl ?_
  refine q_getR (c := 11) (n := 0) (k := 35) (a := 163) dX11_term_21 rfl (by decide) (by decide) fX11_85 rfl rfl ?_
  refine q_aload_n dX11_term_24 rfl ?_
  refine q_getf (c := 11) (n := 0) (k := 46) (v := .int 1) dX11_term_25 rfl (by decide) (by decide) fX11_386 rfl ?_
  refine q_iload_n dX11_term_28 rfl ?_
  refine q_iast (n := 12000) (j := 1) dX11_term_29 rfl rfl (by decide) ?_
  show q_K _ (q_sM (q_up (q_up (q_up uMI20 161 1 1) 162 1 0) 163 1 0) zJ1) _ _ _ _ _ _
  refine q_aload_n dX11_term_30 rfl ?_
  refine q_dup dX11_term_31 rfl ?_
  refine q_getf (c := 11) (n := 0) (k := 46) (v := .int 1) dX11_term_32 rfl (by decide) (by decide) fX11_386 rfl ?_
  refine q_ic (v := 1) dX11_term_35 rfl ?_
  refine q_iadd dX11_term_36 ?_
  refine q_topI (v := 2) rfl ?_
  refine q_putI (c := 11) (n := 0) (k := 46) dX11_term_37 rfl (by decide) (by decide) fX11_386 rfl rfl ?_
  show q_K _ (q_sM (q_up (q_up (q_up (q_up uMI20 161 1 1) 162 1 0) 163 1 0) 139 46 2) zJ1) _ _ _ _ _ _
  refine q_aload_n dX11_term_40 rfl ?_
  refine q_getf (c := 11) (n := 0) (k := 46) (v := .int 2) dX11_term_41 rfl (by decide) (by decide) fX11_386 rfl ?_
  refine q_ic (v := 1) dX11_term_44 rfl ?_
  refine q_isub dX11_term_45 ?_
  refine q_topI (v := 1) rfl ?_
  show q_K _ (q_sM uMI21 zJ1) _ _ _ _ _ _
  refine q_iret dX11_term_46 rfl ?_
  exact ⟨rfl, rfl⟩
def uMI22 : Nat → Nat → Int32 := q_up uMI21 139 51 1
set_option maxRecDepth 20000 in
theorem uM_X11_layOut_38 : q_met mX11_layOut (q_sM uMI17 zJ1) [.ref 139, .int 0] (fun s r => s = q_sM uMI22 zJ1 ∧ r = none) := by
  refine q_enter (by decide) (Nat.le_of_ble_eq_true rfl) ?_
  refine q_aload_n dX11_layOut_0 rfl ?_
  refine q_iload_n dX11_layOut_1 rfl ?_
  refine q_putI (c := 11) (n := 0) (k := 49) dX11_layOut_2 rfl (by decide) (by decide) fX11_118 rfl rfl ?_
  show q_K _ (q_sM (q_up uMI17 139 49 0) zJ1) _ _ _ _ _ _
  refine q_aload_n dX11_layOut_5 rfl ?_
  refine q_ic (v := 0) dX11_layOut_6 rfl ?_
  refine q_putI (c := 11) (n := 0) (k := 46) dX11_layOut_7 rfl (by decide) (by decide) fX11_386 rfl rfl ?_
  show q_K _ (q_sM (q_up (q_up uMI17 139 49 0) 139 46 0) zJ1) _ _ _ _ _ _
  refine q_aload_n dX11_layOut_10 rfl ?_
  refine q_ic (v := 0) dX11_layOut_11 rfl ?_
  refine q_putI (c := 11) (n := 0) (k := 47) dX11_layOut_12 rfl (by decide) (by decide) fX11_393 rfl rfl ?_
  show q_K _ (q_sM (q_up (q_up (q_up uMI17 139 49 0) 139 46 0) 139 47 0) zJ1) _ _ _ _ _ _
  refine q_aload_n dX11_layOut_15 rfl ?_
  refine q_ic (v := 0) dX11_layOut_16 rfl ?_
  refine q_putI (c := 11) (n := 0) (k := 48) dX11_layOut_17 rfl (by decide) (by decide) fX11_396 rfl rfl ?_
  show q_K _ (q_sM (q_up (q_up (q_up (q_up uMI17 139 49 0) 139 46 0) 139 47 0) 139 48 0) zJ1) _ _ _ _ _ _
  refine q_aload_n dX11_layOut_20 rfl ?_
  refine q_aload_n dX11_layOut_21 rfl ?_
  refine q_ic (v := 0) dX11_layOut_22 rfl ?_
  refine q_ic (v := 0) dX11_layOut_23 rfl ?_
  refine q_ic (v := 0) dX11_layOut_24 rfl ?_
  show q_K _ (q_sM uMI18 zJ1) _ _ _ _ _ _
  refine q_V3 (ci := 11) (n := 0) dX11_layOut_25 DX11_term lX11_389 rfl (by decide) rfl rfl rfl rfl uM_X11_term_36 ?_
  rintro _ _ ⟨rfl, rfl⟩
  refine q_putI (c := 11) (n := 0) (k := 50) dX11_layOut_28 rfl (by decide) (by decide) fX11_402 rfl rfl ?_
  show q_K _ (q_sM (q_up uMI19 139 50 0) zJ1) _ _ _ _ _ _
  refine q_aload_n dX11_layOut_31 rfl ?_
  refine q_aload_n dX11_layOut_32 rfl ?_
  refine q_ic (v := 1) dX11_layOut_33 rfl ?_
  refine q_ic (v := 0) dX11_layOut_34 rfl ?_
  refine q_ic (v := 0) dX11_layOut_35 rfl ?_
  show q_K _ (q_sM uMI20 zJ1) _ _ _ _ _ _
  refine q_V3 (ci := 11) (n := 0) dX11_layOut_36 DX11_term lX11_389 rfl (by decide) rfl rfl rfl rfl uM_X11_term_37 ?_
  rintro _ _ ⟨rfl, rfl⟩
  refine q_putI (c := 11) (n := 0) (k := 51) dX11_layOut_39 rfl (by decide) (by decide) fX11_405 rfl rfl ?_
  show q_K _ (q_sM (q_up uMI21 139 51 1) zJ1) _ _ _ _ _ _
  refine q_ic (v := 0) dX11_layOut_42 rfl ?_
  refine q_istore_n dX11_layOut_43 (Nat.le_of_ble_eq_true rfl) ?_
  refine q_iload_n dX11_layOut_44 rfl ?_
  refine q_aload_n dX11_layOut_45 rfl ?_
  refine q_getR (c := 11) (n := 0) (k := 12) (a := 143) dX11_layOut_46 rfl (by decide) (by decide) fX11_24 rfl rfl ?_
  refine q_iload_n dX11_layOut_49 rfl ?_
  refine q_iald (n := 6) (j := 0) dX11_layOut_50 rfl rfl (by decide) ?_
  refine q_topI (v := 0) rfl ?_
  refine q_cz_ge (tgt := 78) (a := 0) (b := 0) dX11_layOut_51 (by decide) rfl rfl (fun _ => ?_) (fun h => absurd h (by decide))
  refine q_ic (v := 0) dX11_layOut_78 rfl ?_
  refine q_istore_n dX11_layOut_79 (Nat.le_of_ble_eq_true rfl) ?_
  refine q_iload_n dX11_layOut_80 rfl ?_
  refine q_aload_n dX11_layOut_81 rfl ?_
  refine q_getf (c := 11) (n := 0) (k := 48) (v := .int 0) dX11_layOut_82 rfl (by decide) (by decide) fX11_396 rfl ?_
  refine q_cz_ge (tgt := 134) (a := 0) (b := 0) dX11_layOut_85 (by decide) rfl rfl (fun _ => ?_) (fun h => absurd h (by decide))
  show q_K _ (q_sM uMI22 zJ1) _ _ _ _ _ _
  refine q_ret dX11_layOut_134 rfl ?_
  exact ⟨rfl, rfl⟩
set_option maxRecDepth 20000 in
theorem uM_X11_layNow_39 : q_met mX11_layNow (q_sM uMI17 zJ1) [.ref 139] (fun s r => s = q_sM uMI22 zJ1 ∧ r = none) := by
  refine q_enter (by decide) (Nat.le_of_ble_eq_true rfl) ?_
  refine q_aload_n dX11_layNow_0 rfl ?_
  refine q_getf (c := 11) (n := 0) (k := 49) (v := .int (-1)) dX11_layNow_1 rfl (by decide) (by decide) fX11_118 rfl ?_
  refine q_aload_n dX11_layNow_4 rfl ?_
  refine q_getf (c := 11) (n := 0) (k := 28) (v := .int 0) dX11_layNow_5 rfl (by decide) (by decide) fX11_321 rfl ?_
  refine q_cz_eq (tgt := 19) (a := -1) (b := 0) dX11_layNow_8 (by decide) rfl rfl (fun h => absurd h (by decide)) (fun _ => ?_)
  refine q_aload_n dX11_layNow_11 rfl ?_
  refine q_aload_n dX11_layNow_12 rfl ?_
  refine q_getf (c := 11) (n := 0) (k := 28) (v := .int 0) dX11_layNow_13 rfl (by decide) (by decide) fX11_321 rfl ?_
  refine q_V1 (ci := 11) (n := 0) dX11_layNow_16 DX11_layOut lX11_454 rfl (by decide) rfl rfl rfl rfl uM_X11_layOut_38 ?_
  rintro _ _ ⟨rfl, rfl⟩
  refine q_ret dX11_layNow_19 rfl ?_
  exact ⟨rfl, rfl⟩
theorem dX11_wholeTrust_0 : decode cX11_wholeTrust 0 = .ok (.iconst 0, 1) := by decide +kernel
theorem dX11_wholeTrust_1 : decode cX11_wholeTrust 1 = .ok (.istore_n 1, 1) := by decide +kernel
theorem dX11_wholeTrust_2 : decode cX11_wholeTrust 2 = .ok (.iconst 0, 1) := by decide +kernel
theorem dX11_wholeTrust_3 : decode cX11_wholeTrust 3 = .ok (.istore_n 2, 1) := by decide +kernel
theorem dX11_wholeTrust_4 : decode cX11_wholeTrust 4 = .ok (.iload_n 2, 1) := by decide +kernel
theorem dX11_wholeTrust_5 : decode cX11_wholeTrust 5 = .ok (.aload_n 0, 1) := by decide +kernel
theorem dX11_wholeTrust_6 : decode cX11_wholeTrust 6 = .ok (.getfield 20, 3) := by decide +kernel
theorem dX11_wholeTrust_9 : decode cX11_wholeTrust 9 = .ok (.aload_n 0, 1) := by decide +kernel
theorem dX11_wholeTrust_10 : decode cX11_wholeTrust 10 = .ok (.getfield 321, 3) := by decide +kernel
theorem dX11_wholeTrust_13 : decode cX11_wholeTrust 13 = .ok (.iaload, 1) := by decide +kernel
theorem dX11_wholeTrust_14 : decode cX11_wholeTrust 14 = .ok (.if_icmp .ge 18, 3) := by decide +kernel
theorem dX11_wholeTrust_17 : decode cX11_wholeTrust 17 = .ok (.iload_n 1, 1) := by decide +kernel
theorem dX11_wholeTrust_18 : decode cX11_wholeTrust 18 = .ok (.aload_n 0, 1) := by decide +kernel
theorem dX11_wholeTrust_19 : decode cX11_wholeTrust 19 = .ok (.getfield 128, 3) := by decide +kernel
theorem dX11_wholeTrust_22 : decode cX11_wholeTrust 22 = .ok (.iload_n 2, 1) := by decide +kernel
theorem dX11_wholeTrust_23 : decode cX11_wholeTrust 23 = .ok (.iaload, 1) := by decide +kernel
theorem dX11_wholeTrust_24 : decode cX11_wholeTrust 24 = .ok (.iadd, 1) := by decide +kernel
theorem dX11_wholeTrust_25 : decode cX11_wholeTrust 25 = .ok (.istore_n 1, 1) := by decide +kernel
theorem dX11_wholeTrust_26 : decode cX11_wholeTrust 26 = .ok (.iinc 2 1, 3) := by decide +kernel
theorem dX11_wholeTrust_29 : decode cX11_wholeTrust 29 = .ok (.goto (-25), 3) := by decide +kernel
theorem dX11_wholeTrust_32 : decode cX11_wholeTrust 32 = .ok (.iload_n 1, 1) := by decide +kernel
theorem dX11_wholeTrust_33 : decode cX11_wholeTrust 33 = .ok (.ireturn, 1) := by decide +kernel
set_option maxRecDepth 20000 in
theorem uM_X11_wholeTrust_40 : q_met mX11_wholeTrust (q_sM uMI22 zJ1) [.ref 139] (fun s r => s = q_sM uMI22 zJ1 ∧ r = some (.int 0)) := by
  refine q_enter (by decide) (Nat.le_of_ble_eq_true rfl) ?_
  refine q_ic (v := 0) dX11_wholeTrust_0 rfl ?_
  refine q_istore_n dX11_wholeTrust_1 (Nat.le_of_ble_eq_true rfl) ?_
  refine q_ic (v := 0) dX11_wholeTrust_2 rfl ?_
  refine q_istore_n dX11_wholeTrust_3 (Nat.le_of_ble_eq_true rfl) ?_
  refine q_iload_n dX11_wholeTrust_4 rfl ?_
  refine q_aload_n dX11_wholeTrust_5 rfl ?_
  refine q_getR (c := 11) (n := 0) (k := 11) (a := 142) dX11_wholeTrust_6 rfl (by decide) (by decide) fX11_20 rfl rfl ?_
  refine q_aload_n dX11_wholeTrust_9 rfl ?_
  refine q_getf (c := 11) (n := 0) (k := 28) (v := .int 0) dX11_wholeTrust_10 rfl (by decide) (by decide) fX11_321 rfl ?_
  refine q_iald (n := 6) (j := 0) dX11_wholeTrust_13 rfl rfl (by decide) ?_
  refine q_topI (v := 0) rfl ?_
  refine q_cz_ge (tgt := 32) (a := 0) (b := 0) dX11_wholeTrust_14 (by decide) rfl rfl (fun _ => ?_) (fun h => absurd h (by decide))
  refine q_iload_n dX11_wholeTrust_32 rfl ?_
  refine q_iret dX11_wholeTrust_33 rfl ?_
  exact ⟨rfl, rfl⟩
def uMI23 : Nat → Nat → Int32 := q_up (q_up uMI22 139 61 1) 180 0 0
def uMJ1 : Nat → Nat → Int64 := q_up (q_up (q_up zJ1 139 60 0) 177 0 0) 178 0 0
theorem dX11_level_0 : decode cX11_level 0 = .ok (.aload_n 0, 1) := by decide +kernel
theorem dX11_level_1 : decode cX11_level 1 = .ok (.invokevirtual 463, 3) := by decide +kernel
theorem dX11_level_4 : decode cX11_level 4 = .ok (.aload_n 0, 1) := by decide +kernel
theorem dX11_level_5 : decode cX11_level 5 = .ok (.getfield 131, 3) := by decide +kernel
theorem dX11_level_8 : decode cX11_level 8 = .ok (.iload_n 1, 1) := by decide +kernel
theorem dX11_level_9 : decode cX11_level 9 = .ok (.laload, 1) := by decide +kernel
theorem dX11_level_10 : decode cX11_level 10 = .ok (.ldc2_w 473, 3) := by decide +kernel
theorem dX11_level_13 : decode cX11_level 13 = .ok (.lxor, 1) := by decide +kernel
theorem dX11_level_14 : decode cX11_level 14 = .ok (.land, 1) := by decide +kernel
theorem dX11_level_15 : decode cX11_level 15 = .ok (.lstore_n 2, 1) := by decide +kernel
theorem dX11_level_16 : decode cX11_level 16 = .ok (.aload_n 0, 1) := by decide +kernel
theorem dX11_level_17 : decode cX11_level 17 = .ok (.getfield 137, 3) := by decide +kernel
theorem dX11_level_20 : decode cX11_level 20 = .ok (.iload_n 1, 1) := by decide +kernel
theorem dX11_level_21 : decode cX11_level 21 = .ok (.lconst 0, 1) := by decide +kernel
theorem dX11_level_22 : decode cX11_level 22 = .ok (.lastore, 1) := by decide +kernel
theorem dX11_level_23 : decode cX11_level 23 = .ok (.aload_n 0, 1) := by decide +kernel
theorem dX11_level_24 : decode cX11_level 24 = .ok (.getfield 143, 3) := by decide +kernel
theorem dX11_level_27 : decode cX11_level 27 = .ok (.iload_n 1, 1) := by decide +kernel
theorem dX11_level_28 : decode cX11_level 28 = .ok (.iconst (-1), 1) := by decide +kernel
theorem dX11_level_29 : decode cX11_level 29 = .ok (.iastore, 1) := by decide +kernel
theorem dX11_level_30 : decode cX11_level 30 = .ok (.aload_n 0, 1) := by decide +kernel
theorem dX11_level_31 : decode cX11_level 31 = .ok (.lload_n 2, 1) := by decide +kernel
theorem dX11_level_32 : decode cX11_level 32 = .ok (.invokevirtual 467, 3) := by decide +kernel
theorem dX11_level_35 : decode cX11_level 35 = .ok (.ifCond .eq 17, 3) := by decide +kernel
theorem dX11_level_38 : decode cX11_level 38 = .ok (.aload_n 0, 1) := by decide +kernel
theorem dX11_level_39 : decode cX11_level 39 = .ok (.getfield 137, 3) := by decide +kernel
theorem dX11_level_42 : decode cX11_level 42 = .ok (.iload_n 1, 1) := by decide +kernel
theorem dX11_level_43 : decode cX11_level 43 = .ok (.aload_n 0, 1) := by decide +kernel
theorem dX11_level_44 : decode cX11_level 44 = .ok (.lload_n 2, 1) := by decide +kernel
theorem dX11_level_45 : decode cX11_level 45 = .ok (.invokevirtual 475, 3) := by decide +kernel
theorem dX11_level_48 : decode cX11_level 48 = .ok (.lastore, 1) := by decide +kernel
theorem dX11_level_49 : decode cX11_level 49 = .ok (.goto 63, 3) := by decide +kernel
theorem dX11_level_52 : decode cX11_level 52 = .ok (.aload_n 0, 1) := by decide +kernel
theorem dX11_level_53 : decode cX11_level 53 = .ok (.getfield 140, 3) := by decide +kernel
theorem dX11_level_56 : decode cX11_level 56 = .ok (.iload_n 1, 1) := by decide +kernel
theorem dX11_level_57 : decode cX11_level 57 = .ok (.iaload, 1) := by decide +kernel
theorem dX11_level_58 : decode cX11_level 58 = .ok (.aload_n 0, 1) := by decide +kernel
theorem dX11_level_59 : decode cX11_level 59 = .ok (.getfield 499, 3) := by decide +kernel
theorem dX11_level_62 : decode cX11_level 62 = .ok (.if_icmp .lt 30, 3) := by decide +kernel
theorem dX11_level_65 : decode cX11_level 65 = .ok (.aload_n 0, 1) := by decide +kernel
theorem dX11_level_66 : decode cX11_level 66 = .ok (.getfield 140, 3) := by decide +kernel
theorem dX11_level_69 : decode cX11_level 69 = .ok (.iload_n 1, 1) := by decide +kernel
theorem dX11_level_70 : decode cX11_level 70 = .ok (.iaload, 1) := by decide +kernel
theorem dX11_level_71 : decode cX11_level 71 = .ok (.aload_n 0, 1) := by decide +kernel
theorem dX11_level_72 : decode cX11_level 72 = .ok (.getfield 499, 3) := by decide +kernel
theorem dX11_level_75 : decode cX11_level 75 = .ok (.if_icmp .ne 37, 3) := by decide +kernel
theorem dX11_level_78 : decode cX11_level 78 = .ok (.aload_n 0, 1) := by decide +kernel
theorem dX11_level_79 : decode cX11_level 79 = .ok (.getfield 131, 3) := by decide +kernel
theorem dX11_level_82 : decode cX11_level 82 = .ok (.iload_n 1, 1) := by decide +kernel
theorem dX11_level_83 : decode cX11_level 83 = .ok (.laload, 1) := by decide +kernel
theorem dX11_level_84 : decode cX11_level 84 = .ok (.aload_n 0, 1) := by decide +kernel
theorem dX11_level_85 : decode cX11_level 85 = .ok (.getfield 502, 3) := by decide +kernel
theorem dX11_level_88 : decode cX11_level 88 = .ok (.lcmp, 1) := by decide +kernel
theorem dX11_level_89 : decode cX11_level 89 = .ok (.ifCond .ge 23, 3) := by decide +kernel
theorem dX11_level_92 : decode cX11_level 92 = .ok (.aload_n 0, 1) := by decide +kernel
theorem dX11_level_93 : decode cX11_level 93 = .ok (.aload_n 0, 1) := by decide +kernel
theorem dX11_level_94 : decode cX11_level 94 = .ok (.getfield 140, 3) := by decide +kernel
theorem dX11_level_97 : decode cX11_level 97 = .ok (.iload_n 1, 1) := by decide +kernel
theorem dX11_level_98 : decode cX11_level 98 = .ok (.iaload, 1) := by decide +kernel
theorem dX11_level_99 : decode cX11_level 99 = .ok (.putfield 499, 3) := by decide +kernel
theorem dX11_level_102 : decode cX11_level 102 = .ok (.aload_n 0, 1) := by decide +kernel
theorem dX11_level_103 : decode cX11_level 103 = .ok (.aload_n 0, 1) := by decide +kernel
theorem dX11_level_104 : decode cX11_level 104 = .ok (.getfield 131, 3) := by decide +kernel
theorem dX11_level_107 : decode cX11_level 107 = .ok (.iload_n 1, 1) := by decide +kernel
theorem dX11_level_108 : decode cX11_level 108 = .ok (.laload, 1) := by decide +kernel
theorem dX11_level_109 : decode cX11_level 109 = .ok (.putfield 502, 3) := by decide +kernel
theorem dX11_level_112 : decode cX11_level 112 = .ok (.return_, 1) := by decide +kernel
set_option maxRecDepth 20000 in
theorem uM_X11_allPlaces_41 : q_met mX11_allPlaces (q_sM uMI23 uMJ1) [.ref 139] (fun s r => s = q_sM uMI23 uMJ1 ∧ r = some (.long 0)) := by
  refine q_enter (by decide) (Nat.le_of_ble_eq_true rfl) ?_
  refine q_lc (v := 1) dX11_allPlaces_0 rfl ?_
  refine q_aload_n dX11_allPlaces_1 rfl ?_
  refine q_getR (c := 11) (n := 0) (k := 11) (a := 142) dX11_allPlaces_2 rfl (by decide) (by decide) fX11_20 rfl rfl ?_
  refine q_aload_n dX11_allPlaces_5 rfl ?_
  refine q_getf (c := 11) (n := 0) (k := 28) (v := .int 0) dX11_allPlaces_6 rfl (by decide) (by decide) fX11_321 rfl ?_
  refine q_iald (n := 6) (j := 0) dX11_allPlaces_9 rfl rfl (by decide) ?_
  refine q_topI (v := 0) rfl ?_
  refine q_lshl dX11_allPlaces_10 ?_
  refine q_topL (v := 1) rfl ?_
  refine q_lc (v := 1) dX11_allPlaces_11 rfl ?_
  refine q_lsub dX11_allPlaces_12 ?_
  refine q_topL (v := 0) rfl ?_
  refine q_lret dX11_allPlaces_13 rfl ?_
  exact ⟨rfl, rfl⟩
def uMI24 : Nat → Nat → Int32 := q_up uMI23 181 0 (-1)
def uMJ2 : Nat → Nat → Int64 := q_up uMJ1 179 0 0
def uMI25 : Nat → Nat → Int32 := q_up (q_up uMI24 164 0 0) 164 1 (0 + 1)
def uMI26 : Nat → Nat → Int32 := q_up (q_up uMI25 165 0 0) 165 1 0
set_option maxRecDepth 20000 in
theorem uM_X11_isMade_42 : q_met mX11_isMade (q_sM uMI26 uMJ2) [.int 0] (fun s r => s = q_sM uMI26 uMJ2 ∧ r = some (.int 0)) := by
  refine q_enter (by decide) (Nat.le_of_ble_eq_true rfl) ?_
  refine q_iload_n dX11_isMade_0 rfl ?_
  refine q_ic (v := 2) dX11_isMade_1 rfl ?_
  refine q_cz_le (tgt := 9) (a := 0) (b := 2) dX11_isMade_2 (by decide) rfl rfl (fun _ => ?_) (fun h => absurd h (by decide))
  refine q_ic (v := 0) dX11_isMade_9 rfl ?_
  refine q_zret dX11_isMade_10 rfl (Or.inl rfl) ?_
  exact ⟨rfl, rfl⟩
set_option maxRecDepth 20000 in
theorem uM_X11_isMade_43 : q_met mX11_isMade (q_sM uMI26 uMJ2) [.int 1] (fun s r => s = q_sM uMI26 uMJ2 ∧ r = some (.int 0)) := by
  refine q_enter (by decide) (Nat.le_of_ble_eq_true rfl) ?_
  refine q_iload_n dX11_isMade_0 rfl ?_
  refine q_ic (v := 2) dX11_isMade_1 rfl ?_
  refine q_cz_le (tgt := 9) (a := 1) (b := 2) dX11_isMade_2 (by decide) rfl rfl (fun _ => ?_) (fun h => absurd h (by decide))
  refine q_ic (v := 0) dX11_isMade_9 rfl ?_
  refine q_zret dX11_isMade_10 rfl (Or.inl rfl) ?_
  exact ⟨rfl, rfl⟩
set_option maxRecDepth 20000 in
theorem uM_X11_isSound_44 : q_met mX11_isSound (q_sM uMI25 uMJ2) [.ref 139] (fun s r => s = q_sM uMI26 uMJ2 ∧ r = some (.int 1)) := by
  refine q_enter (by decide) (Nat.le_of_ble_eq_true rfl) ?_
  refine q_ic (v := 0) dX11_isSound_0 rfl ?_
  refine q_istore_n dX11_isSound_1 (Nat.le_of_ble_eq_true rfl) ?_
  refine q_ic (v := 0) dX11_isSound_2 rfl ?_
  refine q_istore_n dX11_isSound_3 (Nat.le_of_ble_eq_true rfl) ?_
  refine q_iload_n dX11_isSound_4 rfl ?_
  refine q_aload_n dX11_isSound_5 rfl ?_
  refine q_getf (c := 11) (n := 0) (k := 46) (v := .int 2) dX11_isSound_6 rfl (by decide) (by decide) fX11_386 rfl ?_
  refine q_cz_ge (tgt := 25) (a := 0) (b := 2) dX11_isSound_9 (by decide) rfl rfl (fun h => absurd h (by decide)) (fun _ => ?_)
  refine q_aload_n dX11_isSound_12 rfl ?_
  refine q_getR (c := 11) (n := 0) (k := 37) (a := 165) dX11_isSound_13 rfl (by decide) (by decide) fX11_91 rfl rfl ?_
  refine q_iload_n dX11_isSound_16 rfl ?_
  refine q_ic (v := 0) dX11_isSound_17 rfl ?_
  refine q_iast (n := 12000) (j := 0) dX11_isSound_18 rfl rfl (by decide) ?_
  show q_K _ (q_sM (q_up uMI25 165 0 0) uMJ2) _ _ _ _ _ _
  refine q_inc (v := 1) dX11_isSound_19 rfl (Nat.le_of_ble_eq_true rfl) rfl ?_
  refine q_goto (tgt := 4) dX11_isSound_22 (by decide) ?_
  refine q_iload_n dX11_isSound_4 rfl ?_
  refine q_aload_n dX11_isSound_5 rfl ?_
  refine q_getf (c := 11) (n := 0) (k := 46) (v := .int 2) dX11_isSound_6 rfl (by decide) (by decide) fX11_386 rfl ?_
  refine q_cz_ge (tgt := 25) (a := 1) (b := 2) dX11_isSound_9 (by decide) rfl rfl (fun h => absurd h (by decide)) (fun _ => ?_)
  refine q_aload_n dX11_isSound_12 rfl ?_
  refine q_getR (c := 11) (n := 0) (k := 37) (a := 165) dX11_isSound_13 rfl (by decide) (by decide) fX11_91 rfl rfl ?_
  refine q_iload_n dX11_isSound_16 rfl ?_
  refine q_ic (v := 0) dX11_isSound_17 rfl ?_
  refine q_iast (n := 12000) (j := 1) dX11_isSound_18 rfl rfl (by decide) ?_
  show q_K _ (q_sM (q_up (q_up uMI25 165 0 0) 165 1 0) uMJ2) _ _ _ _ _ _
  refine q_inc (v := 1) dX11_isSound_19 rfl (Nat.le_of_ble_eq_true rfl) rfl ?_
  refine q_goto (tgt := 4) dX11_isSound_22 (by decide) ?_
  refine q_iload_n dX11_isSound_4 rfl ?_
  refine q_aload_n dX11_isSound_5 rfl ?_
  refine q_getf (c := 11) (n := 0) (k := 46) (v := .int 2) dX11_isSound_6 rfl (by decide) (by decide) fX11_386 rfl ?_
  refine q_cz_ge (tgt := 25) (a := 2) (b := 2) dX11_isSound_9 (by decide) rfl rfl (fun _ => ?_) (fun h => absurd h (by decide))
  refine q_ic (v := 0) dX11_isSound_25 rfl ?_
  refine q_istore_n dX11_isSound_26 (Nat.le_of_ble_eq_true rfl) ?_
  refine q_iload_n dX11_isSound_27 rfl ?_
  refine q_aload_n dX11_isSound_28 rfl ?_
  refine q_getf (c := 11) (n := 0) (k := 46) (v := .int 2) dX11_isSound_29 rfl (by decide) (by decide) fX11_386 rfl ?_
  refine q_cz_ge (tgt := 117) (a := 0) (b := 2) dX11_isSound_32 (by decide) rfl rfl (fun h => absurd h (by decide)) (fun _ => ?_)
  refine q_aload_n dX11_isSound_35 rfl ?_
  refine q_getR (c := 11) (n := 0) (k := 36) (a := 164) dX11_isSound_36 rfl (by decide) (by decide) fX11_88 rfl rfl ?_
  refine q_iload_n dX11_isSound_39 rfl ?_
  refine q_iald (n := 12000) (j := 0) dX11_isSound_40 rfl rfl (by decide) ?_
  refine q_topI (v := 0) rfl ?_
  refine q_iload_n dX11_isSound_41 rfl ?_
  refine q_cz_ne (tgt := 111) (a := 0) (b := 0) dX11_isSound_42 (by decide) rfl rfl (fun h => absurd h (by decide)) (fun _ => ?_)
  refine q_aload_n dX11_isSound_45 rfl ?_
  refine q_getR (c := 11) (n := 0) (k := 33) (a := 161) dX11_isSound_46 rfl (by decide) (by decide) fX11_79 rfl rfl ?_
  refine q_iload_n dX11_isSound_49 rfl ?_
  refine q_iald (n := 12000) (j := 0) dX11_isSound_50 rfl rfl (by decide) ?_
  refine q_topI (v := 0) rfl ?_
  show q_K _ (q_sM uMI26 uMJ2) _ _ _ _ _ _
  refine q_S1 dX11_isSound_51 DX11_isMade lX11_441 rfl rfl rfl uM_X11_isMade_42 ?_
  rintro _ _ ⟨rfl, rfl⟩
  refine q_iz_ne (tgt := 60) (a := 0) dX11_isSound_54 (by decide) rfl (fun h => absurd h (by decide)) (fun _ => ?_)
  refine q_goto (tgt := 111) dX11_isSound_57 (by decide) ?_
  refine q_inc (v := 1) dX11_isSound_111 rfl (Nat.le_of_ble_eq_true rfl) rfl ?_
  refine q_goto (tgt := 27) dX11_isSound_114 (by decide) ?_
  refine q_iload_n dX11_isSound_27 rfl ?_
  refine q_aload_n dX11_isSound_28 rfl ?_
  refine q_getf (c := 11) (n := 0) (k := 46) (v := .int 2) dX11_isSound_29 rfl (by decide) (by decide) fX11_386 rfl ?_
  refine q_cz_ge (tgt := 117) (a := 1) (b := 2) dX11_isSound_32 (by decide) rfl rfl (fun h => absurd h (by decide)) (fun _ => ?_)
  refine q_aload_n dX11_isSound_35 rfl ?_
  refine q_getR (c := 11) (n := 0) (k := 36) (a := 164) dX11_isSound_36 rfl (by decide) (by decide) fX11_88 rfl rfl ?_
  refine q_iload_n dX11_isSound_39 rfl ?_
  refine q_iald (n := 12000) (j := 1) dX11_isSound_40 rfl rfl (by decide) ?_
  refine q_topI (v := 1) rfl ?_
  refine q_iload_n dX11_isSound_41 rfl ?_
  refine q_cz_ne (tgt := 111) (a := 1) (b := 1) dX11_isSound_42 (by decide) rfl rfl (fun h => absurd h (by decide)) (fun _ => ?_)
  refine q_aload_n dX11_isSound_45 rfl ?_
  refine q_getR (c := 11) (n := 0) (k := 33) (a := 161) dX11_isSound_46 rfl (by decide) (by decide) fX11_79 rfl rfl ?_
  refine q_iload_n dX11_isSound_49 rfl ?_
  refine q_iald (n := 12000) (j := 1) dX11_isSound_50 rfl rfl (by decide) ?_
  refine q_topI (v := 1) rfl ?_
  refine q_S1 dX11_isSound_51 DX11_isMade lX11_441 rfl rfl rfl uM_X11_isMade_43 ?_
  rintro _ _ ⟨rfl, rfl⟩
  refine q_iz_ne (tgt := 60) (a := 0) dX11_isSound_54 (by decide) rfl (fun h => absurd h (by decide)) (fun _ => ?_)
  refine q_goto (tgt := 111) dX11_isSound_57 (by decide) ?_
  refine q_inc (v := 1) dX11_isSound_111 rfl (Nat.le_of_ble_eq_true rfl) rfl ?_
  refine q_goto (tgt := 27) dX11_isSound_114 (by decide) ?_
  refine q_iload_n dX11_isSound_27 rfl ?_
  refine q_aload_n dX11_isSound_28 rfl ?_
  refine q_getf (c := 11) (n := 0) (k := 46) (v := .int 2) dX11_isSound_29 rfl (by decide) (by decide) fX11_386 rfl ?_
  refine q_cz_ge (tgt := 117) (a := 2) (b := 2) dX11_isSound_32 (by decide) rfl rfl (fun _ => ?_) (fun h => absurd h (by decide))
  refine q_ic (v := 0) dX11_isSound_117 rfl ?_
  refine q_istore_n dX11_isSound_118 (Nat.le_of_ble_eq_true rfl) ?_
  refine q_ic (v := 0) dX11_isSound_119 rfl ?_
  refine q_istore_n dX11_isSound_120 (Nat.le_of_ble_eq_true rfl) ?_
  refine q_iload_n dX11_isSound_121 rfl ?_
  refine q_aload_n dX11_isSound_122 rfl ?_
  refine q_getf (c := 11) (n := 0) (k := 46) (v := .int 2) dX11_isSound_123 rfl (by decide) (by decide) fX11_386 rfl ?_
  refine q_cz_ge (tgt := 179) (a := 0) (b := 2) dX11_isSound_126 (by decide) rfl rfl (fun h => absurd h (by decide)) (fun _ => ?_)
  refine q_aload_n dX11_isSound_129 rfl ?_
  refine q_getR (c := 11) (n := 0) (k := 36) (a := 164) dX11_isSound_130 rfl (by decide) (by decide) fX11_88 rfl rfl ?_
  refine q_iload_n dX11_isSound_133 rfl ?_
  refine q_iald (n := 12000) (j := 0) dX11_isSound_134 rfl rfl (by decide) ?_
  refine q_topI (v := 0) rfl ?_
  refine q_iload_n dX11_isSound_135 rfl ?_
  refine q_cz_ne (tgt := 173) (a := 0) (b := 0) dX11_isSound_136 (by decide) rfl rfl (fun h => absurd h (by decide)) (fun _ => ?_)
  refine q_aload_n dX11_isSound_139 rfl ?_
  refine q_getR (c := 11) (n := 0) (k := 33) (a := 161) dX11_isSound_140 rfl (by decide) (by decide) fX11_79 rfl rfl ?_
  refine q_iload_n dX11_isSound_143 rfl ?_
  refine q_iald (n := 12000) (j := 0) dX11_isSound_144 rfl rfl (by decide) ?_
  refine q_topI (v := 0) rfl ?_
  refine q_S1 dX11_isSound_145 DX11_isMade lX11_441 rfl rfl rfl uM_X11_isMade_42 ?_
  rintro _ _ ⟨rfl, rfl⟩
  refine q_iz_eq (tgt := 173) (a := 0) dX11_isSound_148 (by decide) rfl (fun _ => ?_) (fun h => absurd h (by decide))
  refine q_inc (v := 1) dX11_isSound_173 rfl (Nat.le_of_ble_eq_true rfl) rfl ?_
  refine q_goto (tgt := 121) dX11_isSound_176 (by decide) ?_
  refine q_iload_n dX11_isSound_121 rfl ?_
  refine q_aload_n dX11_isSound_122 rfl ?_
  refine q_getf (c := 11) (n := 0) (k := 46) (v := .int 2) dX11_isSound_123 rfl (by decide) (by decide) fX11_386 rfl ?_
  refine q_cz_ge (tgt := 179) (a := 1) (b := 2) dX11_isSound_126 (by decide) rfl rfl (fun h => absurd h (by decide)) (fun _ => ?_)
  refine q_aload_n dX11_isSound_129 rfl ?_
  refine q_getR (c := 11) (n := 0) (k := 36) (a := 164) dX11_isSound_130 rfl (by decide) (by decide) fX11_88 rfl rfl ?_
  refine q_iload_n dX11_isSound_133 rfl ?_
  refine q_iald (n := 12000) (j := 1) dX11_isSound_134 rfl rfl (by decide) ?_
  refine q_topI (v := 1) rfl ?_
  refine q_iload_n dX11_isSound_135 rfl ?_
  refine q_cz_ne (tgt := 173) (a := 1) (b := 1) dX11_isSound_136 (by decide) rfl rfl (fun h => absurd h (by decide)) (fun _ => ?_)
  refine q_aload_n dX11_isSound_139 rfl ?_
  refine q_getR (c := 11) (n := 0) (k := 33) (a := 161) dX11_isSound_140 rfl (by decide) (by decide) fX11_79 rfl rfl ?_
  refine q_iload_n dX11_isSound_143 rfl ?_
  refine q_iald (n := 12000) (j := 1) dX11_isSound_144 rfl rfl (by decide) ?_
  refine q_topI (v := 1) rfl ?_
  refine q_S1 dX11_isSound_145 DX11_isMade lX11_441 rfl rfl rfl uM_X11_isMade_43 ?_
  rintro _ _ ⟨rfl, rfl⟩
  refine q_iz_eq (tgt := 173) (a := 0) dX11_isSound_148 (by decide) rfl (fun _ => ?_) (fun h => absurd h (by decide))
  refine q_inc (v := 1) dX11_isSound_173 rfl (Nat.le_of_ble_eq_true rfl) rfl ?_
  refine q_goto (tgt := 121) dX11_isSound_176 (by decide) ?_
  refine q_iload_n dX11_isSound_121 rfl ?_
  refine q_aload_n dX11_isSound_122 rfl ?_
  refine q_getf (c := 11) (n := 0) (k := 46) (v := .int 2) dX11_isSound_123 rfl (by decide) (by decide) fX11_386 rfl ?_
  refine q_cz_ge (tgt := 179) (a := 2) (b := 2) dX11_isSound_126 (by decide) rfl rfl (fun _ => ?_) (fun h => absurd h (by decide))
  refine q_iload_n dX11_isSound_179 rfl ?_
  refine q_iz_le (tgt := 241) (a := 0) dX11_isSound_180 (by decide) rfl (fun _ => ?_) (fun h => absurd h (by decide))
  refine q_iload_n dX11_isSound_241 rfl ?_
  refine q_iz_ne (tgt := 249) (a := 0) dX11_isSound_242 (by decide) rfl (fun h => absurd h (by decide)) (fun _ => ?_)
  refine q_ic (v := 1) dX11_isSound_245 rfl ?_
  refine q_goto (tgt := 250) dX11_isSound_246 (by decide) ?_
  refine q_zret dX11_isSound_250 rfl (Or.inr rfl) ?_
  exact ⟨rfl, rfl⟩
set_option maxRecDepth 20000 in
theorem uM_X11_makes_45 : q_met mX11_makes (q_sM uMI24 uMJ2) [.ref 139, .long 0] (fun s r => s = q_sM uMI26 uMJ2 ∧ r = some (.int 1)) := by
  refine q_enter (by decide) (Nat.le_of_ble_eq_true rfl) ?_
  refine q_ic (v := 0) dX11_makes_0 rfl ?_
  refine q_istore_n dX11_makes_1 (Nat.le_of_ble_eq_true rfl) ?_
  refine q_iload_n dX11_makes_2 rfl ?_
  refine q_aload_n dX11_makes_3 rfl ?_
  refine q_getf (c := 11) (n := 0) (k := 46) (v := .int 2) dX11_makes_4 rfl (by decide) (by decide) fX11_386 rfl ?_
  refine q_cz_ge (tgt := 23) (a := 0) (b := 2) dX11_makes_7 (by decide) rfl rfl (fun h => absurd h (by decide)) (fun _ => ?_)
  refine q_aload_n dX11_makes_10 rfl ?_
  refine q_getR (c := 11) (n := 0) (k := 36) (a := 164) dX11_makes_11 rfl (by decide) (by decide) fX11_88 rfl rfl ?_
  refine q_iload_n dX11_makes_14 rfl ?_
  refine q_iload_n dX11_makes_15 rfl ?_
  refine q_iast (n := 12000) (j := 0) dX11_makes_16 rfl rfl (by decide) ?_
  show q_K _ (q_sM (q_up uMI24 164 0 0) uMJ2) _ _ _ _ _ _
  refine q_inc (v := 1) dX11_makes_17 rfl (Nat.le_of_ble_eq_true rfl) rfl ?_
  refine q_goto (tgt := 2) dX11_makes_20 (by decide) ?_
  refine q_iload_n dX11_makes_2 rfl ?_
  refine q_aload_n dX11_makes_3 rfl ?_
  refine q_getf (c := 11) (n := 0) (k := 46) (v := .int 2) dX11_makes_4 rfl (by decide) (by decide) fX11_386 rfl ?_
  refine q_cz_ge (tgt := 23) (a := 1) (b := 2) dX11_makes_7 (by decide) rfl rfl (fun h => absurd h (by decide)) (fun _ => ?_)
  refine q_aload_n dX11_makes_10 rfl ?_
  refine q_getR (c := 11) (n := 0) (k := 36) (a := 164) dX11_makes_11 rfl (by decide) (by decide) fX11_88 rfl rfl ?_
  refine q_iload_n dX11_makes_14 rfl ?_
  refine q_iload_n dX11_makes_15 rfl ?_
  refine q_iast (n := 12000) (j := 1) dX11_makes_16 rfl rfl (by decide) ?_
  show q_K _ (q_sM uMI25 uMJ2) _ _ _ _ _ _
  refine q_inc (v := 1) dX11_makes_17 rfl (Nat.le_of_ble_eq_true rfl) rfl ?_
  refine q_goto (tgt := 2) dX11_makes_20 (by decide) ?_
  refine q_iload_n dX11_makes_2 rfl ?_
  refine q_aload_n dX11_makes_3 rfl ?_
  refine q_getf (c := 11) (n := 0) (k := 46) (v := .int 2) dX11_makes_4 rfl (by decide) (by decide) fX11_386 rfl ?_
  refine q_cz_ge (tgt := 23) (a := 2) (b := 2) dX11_makes_7 (by decide) rfl rfl (fun _ => ?_) (fun h => absurd h (by decide))
  refine q_ic (v := 0) dX11_makes_23 rfl ?_
  refine q_istore_n dX11_makes_24 (Nat.le_of_ble_eq_true rfl) ?_
  refine q_iload_n dX11_makes_25 rfl ?_
  refine q_aload_n dX11_makes_26 rfl ?_
  refine q_getf (c := 11) (n := 0) (k := 47) (v := .int 0) dX11_makes_27 rfl (by decide) (by decide) fX11_393 rfl ?_
  refine q_cz_ge (tgt := 75) (a := 0) (b := 0) dX11_makes_30 (by decide) rfl rfl (fun _ => ?_) (fun h => absurd h (by decide))
  refine q_aload_n dX11_makes_75 rfl ?_
  refine q_V0 (ci := 11) (n := 0) dX11_makes_76 DX11_isSound lX11_451 rfl (by decide) rfl rfl rfl rfl uM_X11_isSound_44 ?_
  rintro _ _ ⟨rfl, rfl⟩
  refine q_zret dX11_makes_79 rfl (Or.inr rfl) ?_
  exact ⟨rfl, rfl⟩
set_option maxRecDepth 20000 in
theorem uM_X11_clash_46 : q_met mX11_clash (q_sM uMI24 uMJ2) [.ref 139, .long 0] (fun s r => s = q_sM uMI26 uMJ2 ∧ r = some (.int 0)) := by
  refine q_enter (by decide) (Nat.le_of_ble_eq_true rfl) ?_
  refine q_aload_n dX11_clash_0 rfl ?_
  refine q_lload_n dX11_clash_1 rfl ?_
  refine q_V1 (ci := 11) (n := 0) dX11_clash_2 DX11_makes lX11_457 rfl (by decide) rfl rfl rfl rfl uM_X11_makes_45 ?_
  rintro _ _ ⟨rfl, rfl⟩
  refine q_iz_ne (tgt := 12) (a := 1) dX11_clash_5 (by decide) rfl (fun _ => ?_) (fun h => absurd h (by decide))
  refine q_ic (v := 0) dX11_clash_12 rfl ?_
  refine q_zret dX11_clash_13 rfl (Or.inl rfl) ?_
  exact ⟨rfl, rfl⟩
def uMI27 : Nat → Nat → Int32 := q_up uMI26 139 61 0
def uMJ3 : Nat → Nat → Int64 := q_up uMJ2 139 60 0
set_option maxRecDepth 20000 in
theorem uM_X11_level_47 : q_met mX11_level (q_sM uMI23 uMJ1) [.ref 139, .int 0] (fun s r => s = q_sM uMI27 uMJ3 ∧ r = none) := by
  refine q_enter (by decide) (Nat.le_of_ble_eq_true rfl) ?_
  refine q_aload_n dX11_level_0 rfl ?_
  refine q_V0 (ci := 11) (n := 0) dX11_level_1 DX11_allPlaces lX11_463 rfl (by decide) rfl rfl rfl rfl uM_X11_allPlaces_41 ?_
  rintro _ _ ⟨rfl, rfl⟩
  refine q_aload_n dX11_level_4 rfl ?_
  refine q_getR (c := 11) (n := 0) (k := 55) (a := 177) dX11_level_5 rfl (by decide) (by decide) fX11_131 rfl rfl ?_
  refine q_iload_n dX11_level_8 rfl ?_
  refine q_lald (n := 42) (j := 0) dX11_level_9 rfl rfl (by decide) ?_
  refine q_topL (v := 0) rfl ?_
  refine q_ldc2 (v := (-1)) dX11_level_10 nX11_473 ?_
  refine q_lxor dX11_level_13 ?_
  refine q_topL (v := (-1)) rfl ?_
  refine q_land dX11_level_14 ?_
  refine q_topL (v := 0) rfl ?_
  refine q_lstore_n dX11_level_15 (Nat.le_of_ble_eq_true rfl) ?_
  refine q_aload_n dX11_level_16 rfl ?_
  refine q_getR (c := 11) (n := 0) (k := 57) (a := 179) dX11_level_17 rfl (by decide) (by decide) fX11_137 rfl rfl ?_
  refine q_iload_n dX11_level_20 rfl ?_
  refine q_lc (v := 0) dX11_level_21 rfl ?_
  refine q_last (n := 42) (j := 0) dX11_level_22 rfl rfl (by decide) ?_
  show q_K _ (q_sM uMI23 (q_up uMJ1 179 0 0)) _ _ _ _ _ _
  refine q_aload_n dX11_level_23 rfl ?_
  refine q_getR (c := 11) (n := 0) (k := 59) (a := 181) dX11_level_24 rfl (by decide) (by decide) fX11_143 rfl rfl ?_
  refine q_iload_n dX11_level_27 rfl ?_
  refine q_ic (v := (-1)) dX11_level_28 rfl ?_
  refine q_iast (n := 42) (j := 0) dX11_level_29 rfl rfl (by decide) ?_
  show q_K _ (q_sM (q_up uMI23 181 0 (-1)) (q_up uMJ1 179 0 0)) _ _ _ _ _ _
  refine q_aload_n dX11_level_30 rfl ?_
  refine q_lload_n dX11_level_31 rfl ?_
  show q_K _ (q_sM uMI24 uMJ2) _ _ _ _ _ _
  refine q_V1 (ci := 11) (n := 0) dX11_level_32 DX11_clash lX11_467 rfl (by decide) rfl rfl rfl rfl uM_X11_clash_46 ?_
  rintro _ _ ⟨rfl, rfl⟩
  refine q_iz_eq (tgt := 52) (a := 0) dX11_level_35 (by decide) rfl (fun _ => ?_) (fun h => absurd h (by decide))
  refine q_aload_n dX11_level_52 rfl ?_
  refine q_getR (c := 11) (n := 0) (k := 58) (a := 180) dX11_level_53 rfl (by decide) (by decide) fX11_140 rfl rfl ?_
  refine q_iload_n dX11_level_56 rfl ?_
  refine q_iald (n := 42) (j := 0) dX11_level_57 rfl rfl (by decide) ?_
  refine q_topI (v := 0) rfl ?_
  refine q_aload_n dX11_level_58 rfl ?_
  refine q_getf (c := 11) (n := 0) (k := 61) (v := .int 1) dX11_level_59 rfl (by decide) (by decide) fX11_499 rfl ?_
  refine q_cz_lt (tgt := 92) (a := 0) (b := 1) dX11_level_62 (by decide) rfl rfl (fun _ => ?_) (fun h => absurd h (by decide))
  refine q_aload_n dX11_level_92 rfl ?_
  refine q_aload_n dX11_level_93 rfl ?_
  refine q_getR (c := 11) (n := 0) (k := 58) (a := 180) dX11_level_94 rfl (by decide) (by decide) fX11_140 rfl rfl ?_
  refine q_iload_n dX11_level_97 rfl ?_
  refine q_iald (n := 42) (j := 0) dX11_level_98 rfl rfl (by decide) ?_
  refine q_topI (v := 0) rfl ?_
  refine q_putI (c := 11) (n := 0) (k := 61) dX11_level_99 rfl (by decide) (by decide) fX11_499 rfl rfl ?_
  show q_K _ (q_sM (q_up uMI26 139 61 0) uMJ2) _ _ _ _ _ _
  refine q_aload_n dX11_level_102 rfl ?_
  refine q_aload_n dX11_level_103 rfl ?_
  refine q_getR (c := 11) (n := 0) (k := 55) (a := 177) dX11_level_104 rfl (by decide) (by decide) fX11_131 rfl rfl ?_
  refine q_iload_n dX11_level_107 rfl ?_
  refine q_lald (n := 42) (j := 0) dX11_level_108 rfl rfl (by decide) ?_
  refine q_topL (v := 0) rfl ?_
  refine q_putJ (c := 11) (n := 0) (k := 60) dX11_level_109 rfl (by decide) (by decide) fX11_502 rfl rfl ?_
  show q_K _ (q_sM (q_up uMI26 139 61 0) (q_up uMJ2 139 60 0)) _ _ _ _ _ _
  show q_K _ (q_sM uMI27 uMJ3) _ _ _ _ _ _
  refine q_ret dX11_level_112 rfl ?_
  exact ⟨rfl, rfl⟩
def uMI28 : Nat → Nat → Int32 := q_up uMI27 181 0 0
set_option maxRecDepth 20000 in
theorem uM_X11_findCheapest_48 : q_met mX11_findCheapest (q_sM zI6 zJ1) [.ref 139] (fun s r => s = q_sM uMI28 uMJ3 ∧ r = none) := by
  refine q_enter (by decide) (Nat.le_of_ble_eq_true rfl) ?_
  refine q_aload_n dX11_findCheapest_0 rfl ?_
  refine q_getf (c := 11) (n := 0) (k := 62) (v := .int 0) dX11_findCheapest_1 rfl (by decide) (by decide) fX11_492 rfl ?_
  refine q_iz_eq (tgt := 8) (a := 0) dX11_findCheapest_4 (by decide) rfl (fun _ => ?_) (fun h => absurd h (by decide))
  refine q_aload_n dX11_findCheapest_8 rfl ?_
  refine q_ic (v := 1) dX11_findCheapest_9 rfl ?_
  refine q_putZ (c := 11) (n := 0) (k := 62) dX11_findCheapest_10 rfl (by decide) (by decide) fX11_492 rfl rfl (Or.inr rfl) ?_
  show q_K _ (q_sM (q_up zI6 139 62 1) zJ1) _ _ _ _ _ _
  refine q_aload_n dX11_findCheapest_13 rfl ?_
  show q_K _ (q_sM uMI17 zJ1) _ _ _ _ _ _
  refine q_V0 (ci := 11) (n := 0) dX11_findCheapest_14 DX11_layNow lX11_460 rfl (by decide) rfl rfl rfl rfl uM_X11_layNow_39 ?_
  rintro _ _ ⟨rfl, rfl⟩
  refine q_aload_n dX11_findCheapest_17 rfl ?_
  refine q_aload_n dX11_findCheapest_18 rfl ?_
  refine q_V0 (ci := 11) (n := 0) dX11_findCheapest_19 DX11_wholeTrust lX11_505 rfl (by decide) rfl rfl rfl rfl uM_X11_wholeTrust_40 ?_
  rintro _ _ ⟨rfl, rfl⟩
  refine q_ic (v := 1) dX11_findCheapest_22 rfl ?_
  refine q_iadd dX11_findCheapest_23 ?_
  refine q_topI (v := 1) rfl ?_
  refine q_putI (c := 11) (n := 0) (k := 61) dX11_findCheapest_24 rfl (by decide) (by decide) fX11_499 rfl rfl ?_
  show q_K _ (q_sM (q_up uMI22 139 61 1) zJ1) _ _ _ _ _ _
  refine q_aload_n dX11_findCheapest_27 rfl ?_
  refine q_lc (v := 0) dX11_findCheapest_28 rfl ?_
  refine q_putJ (c := 11) (n := 0) (k := 60) dX11_findCheapest_29 rfl (by decide) (by decide) fX11_502 rfl rfl ?_
  show q_K _ (q_sM (q_up uMI22 139 61 1) (q_up zJ1 139 60 0)) _ _ _ _ _ _
  refine q_aload_n dX11_findCheapest_32 rfl ?_
  refine q_getR (c := 11) (n := 0) (k := 55) (a := 177) dX11_findCheapest_33 rfl (by decide) (by decide) fX11_131 rfl rfl ?_
  refine q_ic (v := 0) dX11_findCheapest_36 rfl ?_
  refine q_lc (v := 0) dX11_findCheapest_37 rfl ?_
  refine q_last (n := 42) (j := 0) dX11_findCheapest_38 rfl rfl (by decide) ?_
  show q_K _ (q_sM (q_up uMI22 139 61 1) (q_up (q_up zJ1 139 60 0) 177 0 0)) _ _ _ _ _ _
  refine q_aload_n dX11_findCheapest_39 rfl ?_
  refine q_getR (c := 11) (n := 0) (k := 56) (a := 178) dX11_findCheapest_40 rfl (by decide) (by decide) fX11_134 rfl rfl ?_
  refine q_ic (v := 0) dX11_findCheapest_43 rfl ?_
  refine q_lc (v := 0) dX11_findCheapest_44 rfl ?_
  refine q_last (n := 42) (j := 0) dX11_findCheapest_45 rfl rfl (by decide) ?_
  show q_K _ (q_sM (q_up uMI22 139 61 1) (q_up (q_up (q_up zJ1 139 60 0) 177 0 0) 178 0 0)) _ _ _ _ _ _
  refine q_aload_n dX11_findCheapest_46 rfl ?_
  refine q_getR (c := 11) (n := 0) (k := 58) (a := 180) dX11_findCheapest_47 rfl (by decide) (by decide) fX11_140 rfl rfl ?_
  refine q_ic (v := 0) dX11_findCheapest_50 rfl ?_
  refine q_ic (v := 0) dX11_findCheapest_51 rfl ?_
  refine q_iast (n := 42) (j := 0) dX11_findCheapest_52 rfl rfl (by decide) ?_
  show q_K _ (q_sM (q_up (q_up uMI22 139 61 1) 180 0 0) (q_up (q_up (q_up zJ1 139 60 0) 177 0 0) 178 0 0)) _ _ _ _ _ _
  refine q_aload_n dX11_findCheapest_53 rfl ?_
  refine q_ic (v := 0) dX11_findCheapest_54 rfl ?_
  show q_K _ (q_sM uMI23 uMJ1) _ _ _ _ _ _
  refine q_V1 (ci := 11) (n := 0) dX11_findCheapest_55 DX11_level lX11_508 rfl (by decide) rfl rfl rfl rfl uM_X11_level_47 ?_
  rintro _ _ ⟨rfl, rfl⟩
  refine q_ic (v := 0) dX11_findCheapest_58 rfl ?_
  refine q_istore_n dX11_findCheapest_59 (Nat.le_of_ble_eq_true rfl) ?_
  refine q_iload_n dX11_findCheapest_60 rfl ?_
  refine q_iz_lt (tgt := 245) (a := 0) dX11_findCheapest_61 (by decide) rfl (fun h => absurd h (by decide)) (fun _ => ?_)
  refine q_aload_n dX11_findCheapest_64 rfl ?_
  refine q_getR (c := 11) (n := 0) (k := 59) (a := 181) dX11_findCheapest_65 rfl (by decide) (by decide) fX11_143 rfl rfl ?_
  refine q_iload_n dX11_findCheapest_68 rfl ?_
  refine q_iald (n := 42) (j := 0) dX11_findCheapest_69 rfl rfl (by decide) ?_
  refine q_topI (v := (-1)) rfl ?_
  refine q_ic (v := 1) dX11_findCheapest_70 rfl ?_
  refine q_iadd dX11_findCheapest_71 ?_
  refine q_topI (v := 0) rfl ?_
  refine q_istore_n dX11_findCheapest_72 (Nat.le_of_ble_eq_true rfl) ?_
  refine q_iload_n dX11_findCheapest_73 rfl ?_
  refine q_aload_n dX11_findCheapest_74 rfl ?_
  refine q_getR (c := 11) (n := 0) (k := 11) (a := 142) dX11_findCheapest_75 rfl (by decide) (by decide) fX11_20 rfl rfl ?_
  refine q_aload_n dX11_findCheapest_78 rfl ?_
  refine q_getf (c := 11) (n := 0) (k := 28) (v := .int 0) dX11_findCheapest_79 rfl (by decide) (by decide) fX11_321 rfl ?_
  refine q_iald (n := 6) (j := 0) dX11_findCheapest_82 rfl rfl (by decide) ?_
  refine q_topI (v := 0) rfl ?_
  refine q_cz_ge (tgt := 142) (a := 0) (b := 0) dX11_findCheapest_83 (by decide) rfl rfl (fun _ => ?_) (fun h => absurd h (by decide))
  refine q_aload_n dX11_findCheapest_142 rfl ?_
  refine q_getR (c := 11) (n := 0) (k := 59) (a := 181) dX11_findCheapest_143 rfl (by decide) (by decide) fX11_143 rfl rfl ?_
  refine q_iload_n dX11_findCheapest_146 rfl ?_
  refine q_iload_n dX11_findCheapest_147 rfl ?_
  refine q_iast (n := 42) (j := 0) dX11_findCheapest_148 rfl rfl (by decide) ?_
  show q_K _ (q_sM (q_up uMI27 181 0 0) uMJ3) _ _ _ _ _ _
  refine q_iload_n dX11_findCheapest_149 rfl ?_
  refine q_aload_n dX11_findCheapest_150 rfl ?_
  refine q_getR (c := 11) (n := 0) (k := 11) (a := 142) dX11_findCheapest_151 rfl (by decide) (by decide) fX11_20 rfl rfl ?_
  refine q_aload_n dX11_findCheapest_154 rfl ?_
  refine q_getf (c := 11) (n := 0) (k := 28) (v := .int 0) dX11_findCheapest_155 rfl (by decide) (by decide) fX11_321 rfl ?_
  refine q_iald (n := 6) (j := 0) dX11_findCheapest_158 rfl rfl (by decide) ?_
  refine q_topI (v := 0) rfl ?_
  refine q_cz_lt (tgt := 168) (a := 0) (b := 0) dX11_findCheapest_159 (by decide) rfl rfl (fun h => absurd h (by decide)) (fun _ => ?_)
  refine q_inc (v := (-1)) dX11_findCheapest_162 rfl (Nat.le_of_ble_eq_true rfl) rfl ?_
  refine q_goto (tgt := 60) dX11_findCheapest_165 (by decide) ?_
  refine q_iload_n dX11_findCheapest_60 rfl ?_
  refine q_iz_lt (tgt := 245) (a := -1) dX11_findCheapest_61 (by decide) rfl (fun _ => ?_) (fun h => absurd h (by decide))
  show q_K _ (q_sM uMI28 uMJ3) _ _ _ _ _ _
  refine q_ret dX11_findCheapest_245 rfl ?_
  exact ⟨rfl, rfl⟩
set_option maxRecDepth 20000 in
theorem frM_cheapest : q_met mX11_cheapest (q_sM zI6 zJ1) [.ref 139] (fun s r => (∃ I J, s = q_sM I J) ∧ ∃ v, r = some (.long v) ∧ v.toInt = (0 : Int)) := by
  refine q_enter (by decide) (Nat.le_of_ble_eq_true rfl) ?_
  refine q_aload_n dX11_cheapest_0 rfl ?_
  refine q_getR (c := 11) (n := 0) (k := 11) (a := 142) dX11_cheapest_1 rfl (by decide) (by decide) fX11_20 rfl rfl ?_
  refine q_aload_n dX11_cheapest_4 rfl ?_
  refine q_getf (c := 11) (n := 0) (k := 28) (v := .int 0) dX11_cheapest_5 rfl (by decide) (by decide) fX11_321 rfl ?_
  refine q_iald (n := 6) (j := 0) dX11_cheapest_8 rfl rfl (by decide) ?_
  refine q_topI (v := 0) rfl ?_
  refine q_bi (v := 24) dX11_cheapest_9 rfl ?_
  refine q_cz_le (tgt := 18) (a := 0) (b := 24) dX11_cheapest_11 (by decide) rfl rfl (fun _ => ?_) (fun h => absurd h (by decide))
  refine q_aload_n dX11_cheapest_18 rfl ?_
  refine q_V0 (ci := 11) (n := 0) dX11_cheapest_19 DX11_findCheapest lX11_513 rfl (by decide) rfl rfl rfl rfl uM_X11_findCheapest_48 ?_
  rintro _ _ ⟨rfl, rfl⟩
  refine q_aload_n dX11_cheapest_22 rfl ?_
  refine q_getf (c := 11) (n := 0) (k := 60) (v := .long 0) dX11_cheapest_23 rfl (by decide) (by decide) fX11_502 rfl ?_
  refine q_lret dX11_cheapest_26 rfl ?_
  exact ⟨⟨_, _, rfl⟩, _, rfl, (by show (0 : Int) = _; first | rfl | omega | (split <;> omega) | (split <;> split <;> omega))⟩
theorem dX11_mends_0 : decode cX11_mends 0 = .ok (.aload_n 0, 1) := by decide +kernel
theorem dX11_mends_1 : decode cX11_mends 1 = .ok (.invokevirtual 485, 3) := by decide +kernel
theorem dX11_mends_4 : decode cX11_mends 4 = .ok (.ifCond .eq 12, 3) := by decide +kernel
theorem dX11_mends_7 : decode cX11_mends 7 = .ok (.aload_n 0, 1) := by decide +kernel
theorem dX11_mends_8 : decode cX11_mends 8 = .ok (.iconst 1, 1) := by decide +kernel
theorem dX11_mends_9 : decode cX11_mends 9 = .ok (.iconst (-1), 1) := by decide +kernel
theorem dX11_mends_10 : decode cX11_mends 10 = .ok (.invokevirtual 488, 3) := by decide +kernel
theorem dX11_mends_13 : decode cX11_mends 13 = .ok (.goto 5, 3) := by decide +kernel
theorem dX11_mends_16 : decode cX11_mends 16 = .ok (.bipush (-2), 2) := by decide +kernel
theorem dX11_mends_18 : decode cX11_mends 18 = .ok (.ireturn, 1) := by decide +kernel
theorem dX11_isMend_0 : decode cX11_isMend 0 = .ok (.iconst 1, 1) := by decide +kernel
theorem dX11_isMend_1 : decode cX11_isMend 1 = .ok (.aload_n 0, 1) := by decide +kernel
theorem dX11_isMend_2 : decode cX11_isMend 2 = .ok (.getfield 20, 3) := by decide +kernel
theorem dX11_isMend_5 : decode cX11_isMend 5 = .ok (.aload_n 0, 1) := by decide +kernel
theorem dX11_isMend_6 : decode cX11_isMend 6 = .ok (.getfield 321, 3) := by decide +kernel
theorem dX11_isMend_9 : decode cX11_isMend 9 = .ok (.iaload, 1) := by decide +kernel
theorem dX11_isMend_10 : decode cX11_isMend 10 = .ok (.ishl, 1) := by decide +kernel
theorem dX11_isMend_11 : decode cX11_isMend 11 = .ok (.iconst 1, 1) := by decide +kernel
theorem dX11_isMend_12 : decode cX11_isMend 12 = .ok (.isub, 1) := by decide +kernel
theorem dX11_isMend_13 : decode cX11_isMend 13 = .ok (.iload_n 1, 1) := by decide +kernel
theorem dX11_isMend_14 : decode cX11_isMend 14 = .ok (.iconst (-1), 1) := by decide +kernel
theorem dX11_isMend_15 : decode cX11_isMend 15 = .ok (.ixor, 1) := by decide +kernel
theorem dX11_isMend_16 : decode cX11_isMend 16 = .ok (.iand, 1) := by decide +kernel
theorem dX11_isMend_17 : decode cX11_isMend 17 = .ok (.istore_n 2, 1) := by decide +kernel
theorem dX11_isMend_18 : decode cX11_isMend 18 = .ok (.aload_n 0, 1) := by decide +kernel
theorem dX11_isMend_19 : decode cX11_isMend 19 = .ok (.getfield 124, 3) := by decide +kernel
theorem dX11_isMend_22 : decode cX11_isMend 22 = .ok (.iload_n 2, 1) := by decide +kernel
theorem dX11_isMend_23 : decode cX11_isMend 23 = .ok (.baload, 1) := by decide +kernel
theorem dX11_isMend_24 : decode cX11_isMend 24 = .ok (.ifCond .eq 5, 3) := by decide +kernel
theorem dX11_isMend_27 : decode cX11_isMend 27 = .ok (.iconst 0, 1) := by decide +kernel
theorem dX11_isMend_28 : decode cX11_isMend 28 = .ok (.ireturn, 1) := by decide +kernel
theorem dX11_isMend_29 : decode cX11_isMend 29 = .ok (.iconst 0, 1) := by decide +kernel
theorem dX11_isMend_30 : decode cX11_isMend 30 = .ok (.istore_n 3, 1) := by decide +kernel
theorem dX11_isMend_31 : decode cX11_isMend 31 = .ok (.iload_n 3, 1) := by decide +kernel
theorem dX11_isMend_32 : decode cX11_isMend 32 = .ok (.aload_n 0, 1) := by decide +kernel
theorem dX11_isMend_33 : decode cX11_isMend 33 = .ok (.getfield 20, 3) := by decide +kernel
theorem dX11_isMend_36 : decode cX11_isMend 36 = .ok (.aload_n 0, 1) := by decide +kernel
theorem dX11_isMend_37 : decode cX11_isMend 37 = .ok (.getfield 321, 3) := by decide +kernel
theorem dX11_isMend_40 : decode cX11_isMend 40 = .ok (.iaload, 1) := by decide +kernel
theorem dX11_isMend_41 : decode cX11_isMend 41 = .ok (.if_icmp .ge 33, 3) := by decide +kernel
theorem dX11_isMend_44 : decode cX11_isMend 44 = .ok (.iload_n 1, 1) := by decide +kernel
theorem dX11_isMend_45 : decode cX11_isMend 45 = .ok (.iload_n 3, 1) := by decide +kernel
theorem dX11_isMend_46 : decode cX11_isMend 46 = .ok (.ishr, 1) := by decide +kernel
theorem dX11_isMend_47 : decode cX11_isMend 47 = .ok (.iconst 1, 1) := by decide +kernel
theorem dX11_isMend_48 : decode cX11_isMend 48 = .ok (.iand, 1) := by decide +kernel
theorem dX11_isMend_49 : decode cX11_isMend 49 = .ok (.iconst 1, 1) := by decide +kernel
theorem dX11_isMend_50 : decode cX11_isMend 50 = .ok (.if_icmp .ne 18, 3) := by decide +kernel
theorem dX11_isMend_53 : decode cX11_isMend 53 = .ok (.aload_n 0, 1) := by decide +kernel
theorem dX11_isMend_54 : decode cX11_isMend 54 = .ok (.getfield 124, 3) := by decide +kernel
theorem dX11_isMend_57 : decode cX11_isMend 57 = .ok (.iload_n 2, 1) := by decide +kernel
theorem dX11_isMend_58 : decode cX11_isMend 58 = .ok (.iconst 1, 1) := by decide +kernel
theorem dX11_isMend_59 : decode cX11_isMend 59 = .ok (.iload_n 3, 1) := by decide +kernel
theorem dX11_isMend_60 : decode cX11_isMend 60 = .ok (.ishl, 1) := by decide +kernel
theorem dX11_isMend_61 : decode cX11_isMend 61 = .ok (.ior, 1) := by decide +kernel
theorem dX11_isMend_62 : decode cX11_isMend 62 = .ok (.baload, 1) := by decide +kernel
theorem dX11_isMend_63 : decode cX11_isMend 63 = .ok (.ifCond .ne 5, 3) := by decide +kernel
theorem dX11_isMend_66 : decode cX11_isMend 66 = .ok (.iconst 0, 1) := by decide +kernel
theorem dX11_isMend_67 : decode cX11_isMend 67 = .ok (.ireturn, 1) := by decide +kernel
theorem dX11_isMend_68 : decode cX11_isMend 68 = .ok (.iinc 3 1, 3) := by decide +kernel
theorem dX11_isMend_71 : decode cX11_isMend 71 = .ok (.goto (-40), 3) := by decide +kernel
theorem dX11_isMend_74 : decode cX11_isMend 74 = .ok (.iconst 1, 1) := by decide +kernel
theorem dX11_isMend_75 : decode cX11_isMend 75 = .ok (.ireturn, 1) := by decide +kernel
set_option maxRecDepth 20000 in
theorem uM_X11_isMend_50 : q_met mX11_isMend (q_sM uMI16 zJ1) [.ref 139, .int 0] (fun s r => s = q_sM uMI16 zJ1 ∧ r = some (.int 1)) := by
  refine q_enter (by decide) (Nat.le_of_ble_eq_true rfl) ?_
  refine q_ic (v := 1) dX11_isMend_0 rfl ?_
  refine q_aload_n dX11_isMend_1 rfl ?_
  refine q_getR (c := 11) (n := 0) (k := 11) (a := 142) dX11_isMend_2 rfl (by decide) (by decide) fX11_20 rfl rfl ?_
  refine q_aload_n dX11_isMend_5 rfl ?_
  refine q_getf (c := 11) (n := 0) (k := 28) (v := .int 0) dX11_isMend_6 rfl (by decide) (by decide) fX11_321 rfl ?_
  refine q_iald (n := 6) (j := 0) dX11_isMend_9 rfl rfl (by decide) ?_
  refine q_topI (v := 0) rfl ?_
  refine q_ishl dX11_isMend_10 ?_
  refine q_topI (v := 1) rfl ?_
  refine q_ic (v := 1) dX11_isMend_11 rfl ?_
  refine q_isub dX11_isMend_12 ?_
  refine q_topI (v := 0) rfl ?_
  refine q_iload_n dX11_isMend_13 rfl ?_
  refine q_ic (v := (-1)) dX11_isMend_14 rfl ?_
  refine q_ixor dX11_isMend_15 ?_
  refine q_topI (v := (-1)) rfl ?_
  refine q_iand dX11_isMend_16 ?_
  refine q_topI (v := 0) rfl ?_
  refine q_istore_n dX11_isMend_17 (Nat.le_of_ble_eq_true rfl) ?_
  refine q_aload_n dX11_isMend_18 rfl ?_
  refine q_getR (c := 11) (n := 0) (k := 53) (a := 175) dX11_isMend_19 rfl (by decide) (by decide) fX11_124 rfl rfl ?_
  refine q_iload_n dX11_isMend_22 rfl ?_
  refine q_zald (n := 4096) (j := 0) dX11_isMend_23 rfl rfl (by decide) ?_
  refine q_topI (v := 0) rfl ?_
  refine q_iz_eq (tgt := 29) (a := 0) dX11_isMend_24 (by decide) rfl (fun _ => ?_) (fun h => absurd h (by decide))
  refine q_ic (v := 0) dX11_isMend_29 rfl ?_
  refine q_istore_n dX11_isMend_30 (Nat.le_of_ble_eq_true rfl) ?_
  refine q_iload_n dX11_isMend_31 rfl ?_
  refine q_aload_n dX11_isMend_32 rfl ?_
  refine q_getR (c := 11) (n := 0) (k := 11) (a := 142) dX11_isMend_33 rfl (by decide) (by decide) fX11_20 rfl rfl ?_
  refine q_aload_n dX11_isMend_36 rfl ?_
  refine q_getf (c := 11) (n := 0) (k := 28) (v := .int 0) dX11_isMend_37 rfl (by decide) (by decide) fX11_321 rfl ?_
  refine q_iald (n := 6) (j := 0) dX11_isMend_40 rfl rfl (by decide) ?_
  refine q_topI (v := 0) rfl ?_
  refine q_cz_ge (tgt := 74) (a := 0) (b := 0) dX11_isMend_41 (by decide) rfl rfl (fun _ => ?_) (fun h => absurd h (by decide))
  refine q_ic (v := 1) dX11_isMend_74 rfl ?_
  refine q_zret dX11_isMend_75 rfl (Or.inr rfl) ?_
  exact ⟨rfl, rfl⟩
set_option maxRecDepth 20000 in
theorem uM_X11_counted_51 : q_met mX11_counted (q_sM uMI16 zJ1) [.ref 139, .int 1, .int (-1)] (fun s r => s = q_sM uMI16 zJ1 ∧ ∃ v, r = some (.int v) ∧ v.toInt = (if (-1) = 0 then 0 else if (-1) < 0 then 1 else -1 : Int)) := by
  refine q_enter (by decide) (Nat.le_of_ble_eq_true rfl) ?_
  refine q_ic (v := 0) dX11_counted_0 rfl ?_
  refine q_istore_n dX11_counted_1 (Nat.le_of_ble_eq_true rfl) ?_
  refine q_ic (v := 0) dX11_counted_2 rfl ?_
  refine q_istore dX11_counted_3 (Nat.le_of_ble_eq_true rfl) ?_
  refine q_iload dX11_counted_5 rfl ?_
  refine q_ic (v := 1) dX11_counted_7 rfl ?_
  refine q_aload_n dX11_counted_8 rfl ?_
  refine q_getR (c := 11) (n := 0) (k := 11) (a := 142) dX11_counted_9 rfl (by decide) (by decide) fX11_20 rfl rfl ?_
  refine q_aload_n dX11_counted_12 rfl ?_
  refine q_getf (c := 11) (n := 0) (k := 28) (v := .int 0) dX11_counted_13 rfl (by decide) (by decide) fX11_321 rfl ?_
  refine q_iald (n := 6) (j := 0) dX11_counted_16 rfl rfl (by decide) ?_
  refine q_topI (v := 0) rfl ?_
  refine q_ishl dX11_counted_17 ?_
  refine q_topI (v := 1) rfl ?_
  refine q_cz_ge (tgt := 66) (a := 0) (b := 1) dX11_counted_18 (by decide) rfl rfl (fun h => absurd h (by decide)) (fun _ => ?_)
  refine q_iload_n dX11_counted_21 rfl ?_
  refine q_iz_eq (tgt := 37) (a := 1) dX11_counted_22 (by decide) rfl (fun h => absurd h (by decide)) (fun _ => ?_)
  refine q_aload_n dX11_counted_25 rfl ?_
  refine q_iload dX11_counted_26 rfl ?_
  refine q_V1 (ci := 11) (n := 0) dX11_counted_28 DX11_isMend lX11_479 rfl (by decide) rfl rfl rfl rfl uM_X11_isMend_50 ?_
  rintro _ _ ⟨rfl, rfl⟩
  refine q_iz_eq (tgt := 60) (a := 1) dX11_counted_31 (by decide) rfl (fun h => absurd h (by decide)) (fun _ => ?_)
  refine q_goto (tgt := 49) dX11_counted_34 (by decide) ?_
  refine q_iload_n dX11_counted_49 rfl ?_
  refine q_iload_n dX11_counted_50 rfl ?_
  refine q_cz_ne (tgt := 57) (a := 0) (b := -1) dX11_counted_51 (by decide) rfl rfl (fun _ => ?_) (fun h => absurd h (by decide))
  refine q_inc (v := 1) dX11_counted_57 rfl (Nat.le_of_ble_eq_true rfl) rfl ?_
  refine q_inc (v := 1) dX11_counted_60 rfl (Nat.le_of_ble_eq_true rfl) rfl ?_
  refine q_goto (tgt := 5) dX11_counted_63 (by decide) ?_
  refine q_iload dX11_counted_5 rfl ?_
  refine q_ic (v := 1) dX11_counted_7 rfl ?_
  refine q_aload_n dX11_counted_8 rfl ?_
  refine q_getR (c := 11) (n := 0) (k := 11) (a := 142) dX11_counted_9 rfl (by decide) (by decide) fX11_20 rfl rfl ?_
  refine q_aload_n dX11_counted_12 rfl ?_
  refine q_getf (c := 11) (n := 0) (k := 28) (v := .int 0) dX11_counted_13 rfl (by decide) (by decide) fX11_321 rfl ?_
  refine q_iald (n := 6) (j := 0) dX11_counted_16 rfl rfl (by decide) ?_
  refine q_topI (v := 0) rfl ?_
  refine q_ishl dX11_counted_17 ?_
  refine q_topI (v := 1) rfl ?_
  refine q_cz_ge (tgt := 66) (a := 1) (b := 1) dX11_counted_18 (by decide) rfl rfl (fun _ => ?_) (fun h => absurd h (by decide))
  refine q_iload_n dX11_counted_66 rfl ?_
  refine q_iz_ge (tgt := 74) (a := -1) dX11_counted_67 (by decide) rfl (fun h => absurd h (by decide)) (fun _ => ?_)
  refine q_iload_n dX11_counted_70 rfl ?_
  refine q_goto (tgt := 75) dX11_counted_71 (by decide) ?_
  refine q_iret dX11_counted_75 rfl ?_
  exact ⟨rfl, _, rfl, (by show (1 : Int) = _; first | rfl | omega | (split <;> omega) | (split <;> split <;> omega))⟩
set_option maxRecDepth 20000 in
theorem frM_mends : q_met mX11_mends (q_sM zI6 zJ1) [.ref 139] (fun s r => (∃ I J, s = q_sM I J) ∧ ∃ v, r = some (.int v) ∧ v.toInt = (1 : Int)) := by
  refine q_enter (by decide) (Nat.le_of_ble_eq_true rfl) ?_
  refine q_aload_n dX11_mends_0 rfl ?_
  refine q_V0 (ci := 11) (n := 0) dX11_mends_1 DX11_layClashes lX11_485 rfl (by decide) rfl rfl rfl rfl uM_X11_layClashes_29 ?_
  rintro _ _ ⟨rfl, rfl⟩
  refine q_iz_eq (tgt := 16) (a := 1) dX11_mends_4 (by decide) rfl (fun h => absurd h (by decide)) (fun _ => ?_)
  refine q_aload_n dX11_mends_7 rfl ?_
  refine q_ic (v := 1) dX11_mends_8 rfl ?_
  refine q_ic (v := (-1)) dX11_mends_9 rfl ?_
  refine q_V2 (ci := 11) (n := 0) dX11_mends_10 DX11_counted lX11_488 rfl (by decide) rfl rfl rfl rfl uM_X11_counted_51 ?_
  rintro _ _ ⟨rfl, v1, rfl, gv1⟩
  refine q_goto (tgt := 18) dX11_mends_13 (by decide) ?_
  refine q_iret dX11_mends_18 rfl ?_
  exact ⟨⟨_, _, rfl⟩, _, rfl, ((gv1).trans (by first | rfl | omega | (split <;> omega) | (split <;> split <;> omega)))⟩
theorem dX11_mendAt_0 : decode cX11_mendAt 0 = .ok (.iload_n 1, 1) := by decide +kernel
theorem dX11_mendAt_1 : decode cX11_mendAt 1 = .ok (.ifCond .lt 10, 3) := by decide +kernel
theorem dX11_mendAt_4 : decode cX11_mendAt 4 = .ok (.aload_n 0, 1) := by decide +kernel
theorem dX11_mendAt_5 : decode cX11_mendAt 5 = .ok (.invokevirtual 485, 3) := by decide +kernel
theorem dX11_mendAt_8 : decode cX11_mendAt 8 = .ok (.ifCond .ne 9, 3) := by decide +kernel
theorem dX11_mendAt_11 : decode cX11_mendAt 11 = .ok (.ldc2_w 473, 3) := by decide +kernel
theorem dX11_mendAt_14 : decode cX11_mendAt 14 = .ok (.goto 10, 3) := by decide +kernel
theorem dX11_mendAt_17 : decode cX11_mendAt 17 = .ok (.aload_n 0, 1) := by decide +kernel
theorem dX11_mendAt_18 : decode cX11_mendAt 18 = .ok (.iconst 1, 1) := by decide +kernel
theorem dX11_mendAt_19 : decode cX11_mendAt 19 = .ok (.iload_n 1, 1) := by decide +kernel
theorem dX11_mendAt_20 : decode cX11_mendAt 20 = .ok (.invokevirtual 488, 3) := by decide +kernel
theorem dX11_mendAt_23 : decode cX11_mendAt 23 = .ok (.i2l, 1) := by decide +kernel
theorem dX11_mendAt_24 : decode cX11_mendAt 24 = .ok (.lreturn, 1) := by decide +kernel
set_option maxRecDepth 20000 in
theorem uM_X11_counted_53 (b : Int32) : q_met mX11_counted (q_sM uMI16 zJ1) [.ref 139, .int 1, .int b] (fun s r => s = q_sM uMI16 zJ1 ∧ ∃ v, r = some (.int v) ∧ v.toInt = (if b.toInt = 0 then 0 else if b.toInt < 0 then 1 else -1 : Int)) := by
  refine q_enter (by decide) (Nat.le_of_ble_eq_true rfl) ?_
  refine q_ic (v := 0) dX11_counted_0 rfl ?_
  refine q_istore_n dX11_counted_1 (Nat.le_of_ble_eq_true rfl) ?_
  refine q_ic (v := 0) dX11_counted_2 rfl ?_
  refine q_istore dX11_counted_3 (Nat.le_of_ble_eq_true rfl) ?_
  refine q_iload dX11_counted_5 rfl ?_
  refine q_ic (v := 1) dX11_counted_7 rfl ?_
  refine q_aload_n dX11_counted_8 rfl ?_
  refine q_getR (c := 11) (n := 0) (k := 11) (a := 142) dX11_counted_9 rfl (by decide) (by decide) fX11_20 rfl rfl ?_
  refine q_aload_n dX11_counted_12 rfl ?_
  refine q_getf (c := 11) (n := 0) (k := 28) (v := .int 0) dX11_counted_13 rfl (by decide) (by decide) fX11_321 rfl ?_
  refine q_iald (n := 6) (j := 0) dX11_counted_16 rfl rfl (by decide) ?_
  refine q_topI (v := 0) rfl ?_
  refine q_ishl dX11_counted_17 ?_
  refine q_topI (v := 1) rfl ?_
  refine q_cz_ge (tgt := 66) (a := 0) (b := 1) dX11_counted_18 (by decide) rfl rfl (fun h => absurd h (by decide)) (fun _ => ?_)
  refine q_iload_n dX11_counted_21 rfl ?_
  refine q_iz_eq (tgt := 37) (a := 1) dX11_counted_22 (by decide) rfl (fun h => absurd h (by decide)) (fun _ => ?_)
  refine q_aload_n dX11_counted_25 rfl ?_
  refine q_iload dX11_counted_26 rfl ?_
  refine q_V1 (ci := 11) (n := 0) dX11_counted_28 DX11_isMend lX11_479 rfl (by decide) rfl rfl rfl rfl uM_X11_isMend_50 ?_
  rintro _ _ ⟨rfl, rfl⟩
  refine q_iz_eq (tgt := 60) (a := 1) dX11_counted_31 (by decide) rfl (fun h => absurd h (by decide)) (fun _ => ?_)
  refine q_goto (tgt := 49) dX11_counted_34 (by decide) ?_
  refine q_iload_n dX11_counted_49 rfl ?_
  refine q_iload_n dX11_counted_50 rfl ?_
  refine q_cz_ne (tgt := 57) (a := 0) (b := b.toInt) dX11_counted_51 (by decide) rfl rfl (fun h51_0 => ?_) (fun h51_0 => ?_)
  · refine q_inc (v := 1) dX11_counted_57 rfl (Nat.le_of_ble_eq_true rfl) rfl ?_
    refine q_inc (v := 1) dX11_counted_60 rfl (Nat.le_of_ble_eq_true rfl) rfl ?_
    refine q_goto (tgt := 5) dX11_counted_63 (by decide) ?_
    refine q_iload dX11_counted_5 rfl ?_
    refine q_ic (v := 1) dX11_counted_7 rfl ?_
    refine q_aload_n dX11_counted_8 rfl ?_
    refine q_getR (c := 11) (n := 0) (k := 11) (a := 142) dX11_counted_9 rfl (by decide) (by decide) fX11_20 rfl rfl ?_
    refine q_aload_n dX11_counted_12 rfl ?_
    refine q_getf (c := 11) (n := 0) (k := 28) (v := .int 0) dX11_counted_13 rfl (by decide) (by decide) fX11_321 rfl ?_
    refine q_iald (n := 6) (j := 0) dX11_counted_16 rfl rfl (by decide) ?_
    refine q_topI (v := 0) rfl ?_
    refine q_ishl dX11_counted_17 ?_
    refine q_topI (v := 1) rfl ?_
    refine q_cz_ge (tgt := 66) (a := 1) (b := 1) dX11_counted_18 (by decide) rfl rfl (fun _ => ?_) (fun h => absurd h (by decide))
    refine q_iload_n dX11_counted_66 rfl ?_
    refine q_iz_ge (tgt := 74) (a := b.toInt) dX11_counted_67 (by decide) rfl (fun h67_1 => ?_) (fun h67_1 => ?_)
    · refine q_ic (v := (-1)) dX11_counted_74 rfl ?_
      refine q_iret dX11_counted_75 rfl ?_
      exact ⟨rfl, _, rfl, (by show ((-1) : Int) = _; first | rfl | omega | (split <;> omega) | (split <;> split <;> omega))⟩
    · refine q_iload_n dX11_counted_70 rfl ?_
      refine q_goto (tgt := 75) dX11_counted_71 (by decide) ?_
      refine q_iret dX11_counted_75 rfl ?_
      exact ⟨rfl, _, rfl, (by show (1 : Int) = _; first | rfl | omega | (split <;> omega) | (split <;> split <;> omega))⟩
  · refine q_iload dX11_counted_54 rfl ?_
    refine q_iret dX11_counted_56 rfl ?_
    exact ⟨rfl, _, rfl, (by show (0 : Int) = _; first | rfl | omega | (split <;> omega) | (split <;> split <;> omega))⟩
set_option maxRecDepth 20000 in
theorem frM_mendAt (a : Int32) : q_met mX11_mendAt (q_sM zI6 zJ1) [.ref 139, .int a] (fun s r => (∃ I J, s = q_sM I J) ∧ ∃ v, r = some (.long v) ∧ v.toInt = (if a.toInt = 0 then 0 else -1 : Int)) := by
  refine q_enter (by decide) (Nat.le_of_ble_eq_true rfl) ?_
  refine q_iload_n dX11_mendAt_0 rfl ?_
  refine q_iz_lt (tgt := 11) (a := a.toInt) dX11_mendAt_1 (by decide) rfl (fun h1_0 => ?_) (fun h1_0 => ?_)
  · refine q_ldc2 (v := (-1)) dX11_mendAt_11 nX11_473 ?_
    refine q_goto (tgt := 24) dX11_mendAt_14 (by decide) ?_
    refine q_lret dX11_mendAt_24 rfl ?_
    exact ⟨⟨_, _, rfl⟩, _, rfl, (by show ((-1) : Int) = _; first | rfl | omega | (split <;> omega) | (split <;> split <;> omega))⟩
  · refine q_aload_n dX11_mendAt_4 rfl ?_
    refine q_V0 (ci := 11) (n := 0) dX11_mendAt_5 DX11_layClashes lX11_485 rfl (by decide) rfl rfl rfl rfl uM_X11_layClashes_29 ?_
    rintro _ _ ⟨rfl, rfl⟩
    refine q_iz_ne (tgt := 17) (a := 1) dX11_mendAt_8 (by decide) rfl (fun _ => ?_) (fun h => absurd h (by decide))
    refine q_aload_n dX11_mendAt_17 rfl ?_
    refine q_ic (v := 1) dX11_mendAt_18 rfl ?_
    refine q_iload_n dX11_mendAt_19 rfl ?_
    refine q_V2 (ci := 11) (n := 0) dX11_mendAt_20 DX11_counted lX11_488 rfl (by decide) rfl rfl rfl rfl (uM_X11_counted_53 a) ?_
    rintro _ _ ⟨rfl, v2, rfl, gv2⟩
    refine q_i2l dX11_mendAt_23 ?_
    refine q_lret dX11_mendAt_24 rfl ?_
    exact ⟨⟨_, _, rfl⟩, _, rfl, (((q_i2lz.trans gv2)).trans (by first | rfl | omega | (split <;> omega) | (split <;> split <;> omega)))⟩
theorem dX11_hints_0 : decode cX11_hints 0 = .ok (.aload_n 0, 1) := by decide +kernel
theorem dX11_hints_1 : decode cX11_hints 1 = .ok (.getfield 20, 3) := by decide +kernel
theorem dX11_hints_4 : decode cX11_hints 4 = .ok (.aload_n 0, 1) := by decide +kernel
theorem dX11_hints_5 : decode cX11_hints 5 = .ok (.getfield 321, 3) := by decide +kernel
theorem dX11_hints_8 : decode cX11_hints 8 = .ok (.iaload, 1) := by decide +kernel
theorem dX11_hints_9 : decode cX11_hints 9 = .ok (.bipush 24, 2) := by decide +kernel
theorem dX11_hints_11 : decode cX11_hints 11 = .ok (.if_icmp .le 6, 3) := by decide +kernel
theorem dX11_hints_14 : decode cX11_hints 14 = .ok (.bipush (-2), 2) := by decide +kernel
theorem dX11_hints_16 : decode cX11_hints 16 = .ok (.ireturn, 1) := by decide +kernel
theorem dX11_hints_17 : decode cX11_hints 17 = .ok (.aload_n 0, 1) := by decide +kernel
theorem dX11_hints_18 : decode cX11_hints 18 = .ok (.invokevirtual 557, 3) := by decide +kernel
theorem dX11_hints_21 : decode cX11_hints 21 = .ok (.aload_n 0, 1) := by decide +kernel
theorem dX11_hints_22 : decode cX11_hints 22 = .ok (.getfield 542, 3) := by decide +kernel
theorem dX11_hints_25 : decode cX11_hints 25 = .ok (.ireturn, 1) := by decide +kernel
theorem dX11_findHints_0 : decode cX11_findHints 0 = .ok (.aload_n 0, 1) := by decide +kernel
theorem dX11_findHints_1 : decode cX11_findHints 1 = .ok (.getfield 496, 3) := by decide +kernel
theorem dX11_findHints_4 : decode cX11_findHints 4 = .ok (.ifCond .eq 4, 3) := by decide +kernel
theorem dX11_findHints_7 : decode cX11_findHints 7 = .ok (.return_, 1) := by decide +kernel
theorem dX11_findHints_8 : decode cX11_findHints 8 = .ok (.aload_n 0, 1) := by decide +kernel
theorem dX11_findHints_9 : decode cX11_findHints 9 = .ok (.iconst 1, 1) := by decide +kernel
theorem dX11_findHints_10 : decode cX11_findHints 10 = .ok (.putfield 496, 3) := by decide +kernel
theorem dX11_findHints_13 : decode cX11_findHints 13 = .ok (.aload_n 0, 1) := by decide +kernel
theorem dX11_findHints_14 : decode cX11_findHints 14 = .ok (.iconst 0, 1) := by decide +kernel
theorem dX11_findHints_15 : decode cX11_findHints 15 = .ok (.putfield 542, 3) := by decide +kernel
theorem dX11_findHints_18 : decode cX11_findHints 18 = .ok (.aload_n 0, 1) := by decide +kernel
theorem dX11_findHints_19 : decode cX11_findHints 19 = .ok (.invokevirtual 513, 3) := by decide +kernel
theorem dX11_findHints_22 : decode cX11_findHints 22 = .ok (.aload_n 0, 1) := by decide +kernel
theorem dX11_findHints_23 : decode cX11_findHints 23 = .ok (.getfield 502, 3) := by decide +kernel
theorem dX11_findHints_26 : decode cX11_findHints 26 = .ok (.lstore_n 1, 1) := by decide +kernel
theorem dX11_findHints_27 : decode cX11_findHints 27 = .ok (.iconst 0, 1) := by decide +kernel
theorem dX11_findHints_28 : decode cX11_findHints 28 = .ok (.istore_n 3, 1) := by decide +kernel
theorem dX11_findHints_29 : decode cX11_findHints 29 = .ok (.iload_n 3, 1) := by decide +kernel
theorem dX11_findHints_30 : decode cX11_findHints 30 = .ok (.aload_n 0, 1) := by decide +kernel
theorem dX11_findHints_31 : decode cX11_findHints 31 = .ok (.getfield 20, 3) := by decide +kernel
theorem dX11_findHints_34 : decode cX11_findHints 34 = .ok (.aload_n 0, 1) := by decide +kernel
theorem dX11_findHints_35 : decode cX11_findHints 35 = .ok (.getfield 321, 3) := by decide +kernel
theorem dX11_findHints_38 : decode cX11_findHints 38 = .ok (.iaload, 1) := by decide +kernel
theorem dX11_findHints_39 : decode cX11_findHints 39 = .ok (.if_icmp .ge 122, 3) := by decide +kernel
theorem dX11_findHints_42 : decode cX11_findHints 42 = .ok (.lload_n 1, 1) := by decide +kernel
theorem dX11_findHints_43 : decode cX11_findHints 43 = .ok (.iload_n 3, 1) := by decide +kernel
theorem dX11_findHints_44 : decode cX11_findHints 44 = .ok (.lshr, 1) := by decide +kernel
theorem dX11_findHints_45 : decode cX11_findHints 45 = .ok (.lconst 1, 1) := by decide +kernel
theorem dX11_findHints_46 : decode cX11_findHints 46 = .ok (.land, 1) := by decide +kernel
theorem dX11_findHints_47 : decode cX11_findHints 47 = .ok (.lconst 0, 1) := by decide +kernel
theorem dX11_findHints_48 : decode cX11_findHints 48 = .ok (.lcmp, 1) := by decide +kernel
theorem dX11_findHints_49 : decode cX11_findHints 49 = .ok (.ifCond .ne 6, 3) := by decide +kernel
theorem dX11_findHints_52 : decode cX11_findHints 52 = .ok (.goto 103, 3) := by decide +kernel
theorem dX11_findHints_55 : decode cX11_findHints 55 = .ok (.aload_n 0, 1) := by decide +kernel
theorem dX11_findHints_56 : decode cX11_findHints 56 = .ok (.getfield 33, 3) := by decide +kernel
theorem dX11_findHints_59 : decode cX11_findHints 59 = .ok (.bipush 40, 2) := by decide +kernel
theorem dX11_findHints_61 : decode cX11_findHints 61 = .ok (.aload_n 0, 1) := by decide +kernel
theorem dX11_findHints_62 : decode cX11_findHints 62 = .ok (.getfield 321, 3) := by decide +kernel
theorem dX11_findHints_65 : decode cX11_findHints 65 = .ok (.imul, 1) := by decide +kernel
theorem dX11_findHints_66 : decode cX11_findHints 66 = .ok (.iload_n 3, 1) := by decide +kernel
theorem dX11_findHints_67 : decode cX11_findHints 67 = .ok (.iadd, 1) := by decide +kernel
theorem dX11_findHints_68 : decode cX11_findHints 68 = .ok (.iaload, 1) := by decide +kernel
theorem dX11_findHints_69 : decode cX11_findHints 69 = .ok (.istore 4, 2) := by decide +kernel
theorem dX11_findHints_71 : decode cX11_findHints 71 = .ok (.iload 4, 2) := by decide +kernel
theorem dX11_findHints_73 : decode cX11_findHints 73 = .ok (.invokestatic 548, 3) := by decide +kernel
theorem dX11_findHints_76 : decode cX11_findHints 76 = .ok (.ifCond .eq 10, 3) := by decide +kernel
theorem dX11_findHints_79 : decode cX11_findHints 79 = .ok (.aload_n 0, 1) := by decide +kernel
theorem dX11_findHints_80 : decode cX11_findHints 80 = .ok (.iload_n 3, 1) := by decide +kernel
theorem dX11_findHints_81 : decode cX11_findHints 81 = .ok (.iconst 0, 1) := by decide +kernel
theorem dX11_findHints_82 : decode cX11_findHints 82 = .ok (.iconst 0, 1) := by decide +kernel
theorem dX11_findHints_83 : decode cX11_findHints 83 = .ok (.invokevirtual 551, 3) := by decide +kernel
theorem dX11_findHints_86 : decode cX11_findHints 86 = .ok (.iload 4, 2) := by decide +kernel
theorem dX11_findHints_88 : decode cX11_findHints 88 = .ok (.iconst 2, 1) := by decide +kernel
theorem dX11_findHints_89 : decode cX11_findHints 89 = .ok (.if_icmp .ne 34, 3) := by decide +kernel
theorem dX11_findHints_92 : decode cX11_findHints 92 = .ok (.aload_n 0, 1) := by decide +kernel
theorem dX11_findHints_93 : decode cX11_findHints 93 = .ok (.iload_n 3, 1) := by decide +kernel
theorem dX11_findHints_94 : decode cX11_findHints 94 = .ok (.invokevirtual 554, 3) := by decide +kernel
theorem dX11_findHints_97 : decode cX11_findHints 97 = .ok (.iconst 0, 1) := by decide +kernel
theorem dX11_findHints_98 : decode cX11_findHints 98 = .ok (.istore 5, 2) := by decide +kernel
theorem dX11_findHints_100 : decode cX11_findHints 100 = .ok (.iload 5, 2) := by decide +kernel
theorem dX11_findHints_102 : decode cX11_findHints 102 = .ok (.aload_n 0, 1) := by decide +kernel
theorem dX11_findHints_103 : decode cX11_findHints 103 = .ok (.getfield 516, 3) := by decide +kernel
theorem dX11_findHints_106 : decode cX11_findHints 106 = .ok (.if_icmp .ge 17, 3) := by decide +kernel
theorem dX11_findHints_109 : decode cX11_findHints 109 = .ok (.aload_n 0, 1) := by decide +kernel
theorem dX11_findHints_110 : decode cX11_findHints 110 = .ok (.iload_n 3, 1) := by decide +kernel
theorem dX11_findHints_111 : decode cX11_findHints 111 = .ok (.iconst 1, 1) := by decide +kernel
theorem dX11_findHints_112 : decode cX11_findHints 112 = .ok (.iload 5, 2) := by decide +kernel
theorem dX11_findHints_114 : decode cX11_findHints 114 = .ok (.invokevirtual 551, 3) := by decide +kernel
theorem dX11_findHints_117 : decode cX11_findHints 117 = .ok (.iinc 5 1, 3) := by decide +kernel
theorem dX11_findHints_120 : decode cX11_findHints 120 = .ok (.goto (-20), 3) := by decide +kernel
theorem dX11_findHints_123 : decode cX11_findHints 123 = .ok (.iload 4, 2) := by decide +kernel
theorem dX11_findHints_125 : decode cX11_findHints 125 = .ok (.ifCond .ne 10, 3) := by decide +kernel
theorem dX11_findHints_128 : decode cX11_findHints 128 = .ok (.aload_n 0, 1) := by decide +kernel
theorem dX11_findHints_129 : decode cX11_findHints 129 = .ok (.iload_n 3, 1) := by decide +kernel
theorem dX11_findHints_130 : decode cX11_findHints 130 = .ok (.iconst 2, 1) := by decide +kernel
theorem dX11_findHints_131 : decode cX11_findHints 131 = .ok (.iconst 0, 1) := by decide +kernel
theorem dX11_findHints_132 : decode cX11_findHints 132 = .ok (.invokevirtual 551, 3) := by decide +kernel
theorem dX11_findHints_135 : decode cX11_findHints 135 = .ok (.iload 4, 2) := by decide +kernel
theorem dX11_findHints_137 : decode cX11_findHints 137 = .ok (.iconst 1, 1) := by decide +kernel
theorem dX11_findHints_138 : decode cX11_findHints 138 = .ok (.if_icmp .ne 10, 3) := by decide +kernel
theorem dX11_findHints_141 : decode cX11_findHints 141 = .ok (.aload_n 0, 1) := by decide +kernel
theorem dX11_findHints_142 : decode cX11_findHints 142 = .ok (.iload_n 3, 1) := by decide +kernel
theorem dX11_findHints_143 : decode cX11_findHints 143 = .ok (.iconst 3, 1) := by decide +kernel
theorem dX11_findHints_144 : decode cX11_findHints 144 = .ok (.iconst 0, 1) := by decide +kernel
theorem dX11_findHints_145 : decode cX11_findHints 145 = .ok (.invokevirtual 551, 3) := by decide +kernel
theorem dX11_findHints_148 : decode cX11_findHints 148 = .ok (.aload_n 0, 1) := by decide +kernel
theorem dX11_findHints_149 : decode cX11_findHints 149 = .ok (.iload_n 3, 1) := by decide +kernel
theorem dX11_findHints_150 : decode cX11_findHints 150 = .ok (.iconst 4, 1) := by decide +kernel
theorem dX11_findHints_151 : decode cX11_findHints 151 = .ok (.iconst 0, 1) := by decide +kernel
theorem dX11_findHints_152 : decode cX11_findHints 152 = .ok (.invokevirtual 551, 3) := by decide +kernel
theorem dX11_findHints_155 : decode cX11_findHints 155 = .ok (.iinc 3 1, 3) := by decide +kernel
theorem dX11_findHints_158 : decode cX11_findHints 158 = .ok (.goto (-129), 3) := by decide +kernel
theorem dX11_findHints_161 : decode cX11_findHints 161 = .ok (.return_, 1) := by decide +kernel
def uMI29 : Nat → Nat → Int32 := q_up (q_up zI6 139 63 1) 139 70 0
def uMI30 : Nat → Nat → Int32 := q_up uMI29 139 62 1
def uMI31 : Nat → Nat → Int32 := q_up (q_up (q_up (q_up uMI30 139 49 0) 139 46 0) 139 47 0) 139 48 0
def uMI32 : Nat → Nat → Int32 := q_up (q_up (q_up (q_up uMI31 161 0 0) 162 0 0) 163 0 0) 139 46 1
set_option maxRecDepth 20000 in
theorem uM_X11_term_55 : q_met mX11_term (q_sM uMI31 zJ1) [.ref 139, .int 0, .int 0, .int 0] (fun s r => s = q_sM uMI32 zJ1 ∧ r = some (.int 0)) := by
  refine q_enter (by decide) (Nat.le_of_ble_eq_true rfl) ?_
  refine q_aload_n dX11_term_0 rfl ?_
  refine q_getR (c := 11) (n := 0) (k := 33) (a := 161) dX11_term_1 rfl (by decide) (by decide) fX11_79 rfl rfl ?_
  refine q_aload_n dX11_term_4 rfl ?_
  refine q_getf (c := 11) (n := 0) (k := 46) (v := .int 0) dX11_term_5 rfl (by decide) (by decide) fX11_386 rfl ?_
  refine q_iload_n dX11_term_8 rfl ?_
  refine q_iast (n := 12000) (j := 0) dX11_term_9 rfl rfl (by decide) ?_
  show q_K _ (q_sM (q_up uMI31 161 0 0) zJ1) _ _ _ _ _ _
  refine q_aload_n dX11_term_10 rfl ?_
  refine q_getR (c := 11) (n := 0) (k := 34) (a := 162) dX11_term_11 rfl (by decide) (by decide) fX11_82 rfl rfl ?_
  refine q_aload_n dX11_term_14 rfl ?_
  refine q_getf (c := 11) (n := 0) (k := 46) (v := .int 0) dX11_term_15 rfl (by decide) (by decide) fX11_386 rfl ?_
  refine q_iload_n dX11_term_18 rfl ?_
  refine q_iast (n := 12000) (j := 0) dX11_term_19 rfl rfl (by decide) ?_
  show q_K _ (q_sM (q_up (q_up uMI31 161 0 0) 162 0 0) zJ1) _ _ _ _ _ _
  refine q_aload_n dX11_term_20 rfl ?_
  refine q_getR (c := 11) (n := 0) (k := 35) (a := 163) dX11_term_21 rfl (by decide) (by decide) fX11_85 rfl rfl ?_
  refine q_aload_n dX11_term_24 rfl ?_
  refine q_getf (c := 11) (n := 0) (k := 46) (v := .int 0) dX11_term_25 rfl (by decide) (by decide) fX11_386 rfl ?_
  refine q_iload_n dX11_term_28 rfl ?_
  refine q_iast (n := 12000) (j := 0) dX11_term_29 rfl rfl (by decide) ?_
  show q_K _ (q_sM (q_up (q_up (q_up uMI31 161 0 0) 162 0 0) 163 0 0) zJ1) _ _ _ _ _ _
  refine q_aload_n dX11_term_30 rfl ?_
  refine q_dup dX11_term_31 rfl ?_
  refine q_getf (c := 11) (n := 0) (k := 46) (v := .int 0) dX11_term_32 rfl (by decide) (by decide) fX11_386 rfl ?_
  refine q_ic (v := 1) dX11_term_35 rfl ?_
  refine q_iadd dX11_term_36 ?_
  refine q_topI (v := 1) rfl ?_
  refine q_putI (c := 11) (n := 0) (k := 46) dX11_term_37 rfl (by decide) (by decide) fX11_386 rfl rfl ?_
  show q_K _ (q_sM (q_up (q_up (q_up (q_up uMI31 161 0 0) 162 0 0) 163 0 0) 139 46 1) zJ1) _ _ _ _ _ _
  refine q_aload_n dX11_term_40 rfl ?_
  refine q_getf (c := 11) (n := 0) (k := 46) (v := .int 1) dX11_term_41 rfl (by decide) (by decide) fX11_386 rfl ?_
  refine q_ic (v := 1) dX11_term_44 rfl ?_
  refine q_isub dX11_term_45 ?_
  refine q_topI (v := 0) rfl ?_
  show q_K _ (q_sM uMI32 zJ1) _ _ _ _ _ _
  refine q_iret dX11_term_46 rfl ?_
  exact ⟨rfl, rfl⟩
def uMI33 : Nat → Nat → Int32 := q_up uMI32 139 50 0
def uMI34 : Nat → Nat → Int32 := q_up (q_up (q_up (q_up uMI33 161 1 1) 162 1 0) 163 1 0) 139 46 2
set_option maxRecDepth 20000 in
theorem uM_X11_term_56 : q_met mX11_term (q_sM uMI33 zJ1) [.ref 139, .int 1, .int 0, .int 0] (fun s r => s = q_sM uMI34 zJ1 ∧ r = some (.int 1)) := by
  refine q_enter (by decide) (Nat.le_of_ble_eq_true rfl) ?_
  refine q_aload_n dX11_term_0 rfl ?_
  refine q_getR (c := 11) (n := 0) (k := 33) (a := 161) dX11_term_1 rfl (by decide) (by decide) fX11_79 rfl rfl ?_
  refine q_aload_n dX11_term_4 rfl ?_
  refine q_getf (c := 11) (n := 0) (k := 46) (v := .int 1) dX11_term_5 rfl (by decide) (by decide) fX11_386 rfl ?_
  refine q_iload_n dX11_term_8 rfl ?_
  refine q_iast (n := 12000) (j := 1) dX11_term_9 rfl rfl (by decide) ?_
  show q_K _ (q_sM (q_up uMI33 161 1 1) zJ1) _ _ _ _ _ _
  refine q_aload_n dX11_term_10 rfl ?_
  refine q_getR (c := 11) (n := 0) (k := 34) (a := 162) dX11_term_11 rfl (by decide) (by decide) fX11_82 rfl rfl ?_
  refine q_aload_n dX11_term_14 rfl ?_
  refine q_getf (c := 11) (n := 0) (k := 46) (v := .int 1) dX11_term_15 rfl (by decide) (by decide) fX11_386 rfl ?_
  refine q_iload_n dX11_term_18 rfl ?_
  refine q_iast (n := 12000) (j := 1) dX11_term_19 rfl rfl (by decide) ?_
  show q_K _ (q_sM (q_up (q_up uMI33 161 1 1) 162 1 0) zJ1) _ _ _ _ _ _
  refine q_aload_n dX11_term_20 rfl ?_
  refine q_getR (c := 11) (n := 0) (k := 35) (a := 163) dX11_term_21 rfl (by decide) (by decide) fX11_85 rfl rfl ?_
  refine q_aload_n dX11_term_24 rfl ?_
  refine q_getf (c := 11) (n := 0) (k := 46) (v := .int 1) dX11_term_25 rfl (by decide) (by decide) fX11_386 rfl ?_
  refine q_iload_n dX11_term_28 rfl ?_
  refine q_iast (n := 12000) (j := 1) dX11_term_29 rfl rfl (by decide) ?_
  show q_K _ (q_sM (q_up (q_up (q_up uMI33 161 1 1) 162 1 0) 163 1 0) zJ1) _ _ _ _ _ _
  refine q_aload_n dX11_term_30 rfl ?_
  refine q_dup dX11_term_31 rfl ?_
  refine q_getf (c := 11) (n := 0) (k := 46) (v := .int 1) dX11_term_32 rfl (by decide) (by decide) fX11_386 rfl ?_
  refine q_ic (v := 1) dX11_term_35 rfl ?_
  refine q_iadd dX11_term_36 ?_
  refine q_topI (v := 2) rfl ?_
  refine q_putI (c := 11) (n := 0) (k := 46) dX11_term_37 rfl (by decide) (by decide) fX11_386 rfl rfl ?_
  show q_K _ (q_sM (q_up (q_up (q_up (q_up uMI33 161 1 1) 162 1 0) 163 1 0) 139 46 2) zJ1) _ _ _ _ _ _
  refine q_aload_n dX11_term_40 rfl ?_
  refine q_getf (c := 11) (n := 0) (k := 46) (v := .int 2) dX11_term_41 rfl (by decide) (by decide) fX11_386 rfl ?_
  refine q_ic (v := 1) dX11_term_44 rfl ?_
  refine q_isub dX11_term_45 ?_
  refine q_topI (v := 1) rfl ?_
  show q_K _ (q_sM uMI34 zJ1) _ _ _ _ _ _
  refine q_iret dX11_term_46 rfl ?_
  exact ⟨rfl, rfl⟩
def uMI35 : Nat → Nat → Int32 := q_up uMI34 139 51 1
set_option maxRecDepth 20000 in
theorem uM_X11_layOut_57 : q_met mX11_layOut (q_sM uMI30 zJ1) [.ref 139, .int 0] (fun s r => s = q_sM uMI35 zJ1 ∧ r = none) := by
  refine q_enter (by decide) (Nat.le_of_ble_eq_true rfl) ?_
  refine q_aload_n dX11_layOut_0 rfl ?_
  refine q_iload_n dX11_layOut_1 rfl ?_
  refine q_putI (c := 11) (n := 0) (k := 49) dX11_layOut_2 rfl (by decide) (by decide) fX11_118 rfl rfl ?_
  show q_K _ (q_sM (q_up uMI30 139 49 0) zJ1) _ _ _ _ _ _
  refine q_aload_n dX11_layOut_5 rfl ?_
  refine q_ic (v := 0) dX11_layOut_6 rfl ?_
  refine q_putI (c := 11) (n := 0) (k := 46) dX11_layOut_7 rfl (by decide) (by decide) fX11_386 rfl rfl ?_
  show q_K _ (q_sM (q_up (q_up uMI30 139 49 0) 139 46 0) zJ1) _ _ _ _ _ _
  refine q_aload_n dX11_layOut_10 rfl ?_
  refine q_ic (v := 0) dX11_layOut_11 rfl ?_
  refine q_putI (c := 11) (n := 0) (k := 47) dX11_layOut_12 rfl (by decide) (by decide) fX11_393 rfl rfl ?_
  show q_K _ (q_sM (q_up (q_up (q_up uMI30 139 49 0) 139 46 0) 139 47 0) zJ1) _ _ _ _ _ _
  refine q_aload_n dX11_layOut_15 rfl ?_
  refine q_ic (v := 0) dX11_layOut_16 rfl ?_
  refine q_putI (c := 11) (n := 0) (k := 48) dX11_layOut_17 rfl (by decide) (by decide) fX11_396 rfl rfl ?_
  show q_K _ (q_sM (q_up (q_up (q_up (q_up uMI30 139 49 0) 139 46 0) 139 47 0) 139 48 0) zJ1) _ _ _ _ _ _
  refine q_aload_n dX11_layOut_20 rfl ?_
  refine q_aload_n dX11_layOut_21 rfl ?_
  refine q_ic (v := 0) dX11_layOut_22 rfl ?_
  refine q_ic (v := 0) dX11_layOut_23 rfl ?_
  refine q_ic (v := 0) dX11_layOut_24 rfl ?_
  show q_K _ (q_sM uMI31 zJ1) _ _ _ _ _ _
  refine q_V3 (ci := 11) (n := 0) dX11_layOut_25 DX11_term lX11_389 rfl (by decide) rfl rfl rfl rfl uM_X11_term_55 ?_
  rintro _ _ ⟨rfl, rfl⟩
  refine q_putI (c := 11) (n := 0) (k := 50) dX11_layOut_28 rfl (by decide) (by decide) fX11_402 rfl rfl ?_
  show q_K _ (q_sM (q_up uMI32 139 50 0) zJ1) _ _ _ _ _ _
  refine q_aload_n dX11_layOut_31 rfl ?_
  refine q_aload_n dX11_layOut_32 rfl ?_
  refine q_ic (v := 1) dX11_layOut_33 rfl ?_
  refine q_ic (v := 0) dX11_layOut_34 rfl ?_
  refine q_ic (v := 0) dX11_layOut_35 rfl ?_
  show q_K _ (q_sM uMI33 zJ1) _ _ _ _ _ _
  refine q_V3 (ci := 11) (n := 0) dX11_layOut_36 DX11_term lX11_389 rfl (by decide) rfl rfl rfl rfl uM_X11_term_56 ?_
  rintro _ _ ⟨rfl, rfl⟩
  refine q_putI (c := 11) (n := 0) (k := 51) dX11_layOut_39 rfl (by decide) (by decide) fX11_405 rfl rfl ?_
  show q_K _ (q_sM (q_up uMI34 139 51 1) zJ1) _ _ _ _ _ _
  refine q_ic (v := 0) dX11_layOut_42 rfl ?_
  refine q_istore_n dX11_layOut_43 (Nat.le_of_ble_eq_true rfl) ?_
  refine q_iload_n dX11_layOut_44 rfl ?_
  refine q_aload_n dX11_layOut_45 rfl ?_
  refine q_getR (c := 11) (n := 0) (k := 12) (a := 143) dX11_layOut_46 rfl (by decide) (by decide) fX11_24 rfl rfl ?_
  refine q_iload_n dX11_layOut_49 rfl ?_
  refine q_iald (n := 6) (j := 0) dX11_layOut_50 rfl rfl (by decide) ?_
  refine q_topI (v := 0) rfl ?_
  refine q_cz_ge (tgt := 78) (a := 0) (b := 0) dX11_layOut_51 (by decide) rfl rfl (fun _ => ?_) (fun h => absurd h (by decide))
  refine q_ic (v := 0) dX11_layOut_78 rfl ?_
  refine q_istore_n dX11_layOut_79 (Nat.le_of_ble_eq_true rfl) ?_
  refine q_iload_n dX11_layOut_80 rfl ?_
  refine q_aload_n dX11_layOut_81 rfl ?_
  refine q_getf (c := 11) (n := 0) (k := 48) (v := .int 0) dX11_layOut_82 rfl (by decide) (by decide) fX11_396 rfl ?_
  refine q_cz_ge (tgt := 134) (a := 0) (b := 0) dX11_layOut_85 (by decide) rfl rfl (fun _ => ?_) (fun h => absurd h (by decide))
  show q_K _ (q_sM uMI35 zJ1) _ _ _ _ _ _
  refine q_ret dX11_layOut_134 rfl ?_
  exact ⟨rfl, rfl⟩
set_option maxRecDepth 20000 in
theorem uM_X11_layNow_58 : q_met mX11_layNow (q_sM uMI30 zJ1) [.ref 139] (fun s r => s = q_sM uMI35 zJ1 ∧ r = none) := by
  refine q_enter (by decide) (Nat.le_of_ble_eq_true rfl) ?_
  refine q_aload_n dX11_layNow_0 rfl ?_
  refine q_getf (c := 11) (n := 0) (k := 49) (v := .int (-1)) dX11_layNow_1 rfl (by decide) (by decide) fX11_118 rfl ?_
  refine q_aload_n dX11_layNow_4 rfl ?_
  refine q_getf (c := 11) (n := 0) (k := 28) (v := .int 0) dX11_layNow_5 rfl (by decide) (by decide) fX11_321 rfl ?_
  refine q_cz_eq (tgt := 19) (a := -1) (b := 0) dX11_layNow_8 (by decide) rfl rfl (fun h => absurd h (by decide)) (fun _ => ?_)
  refine q_aload_n dX11_layNow_11 rfl ?_
  refine q_aload_n dX11_layNow_12 rfl ?_
  refine q_getf (c := 11) (n := 0) (k := 28) (v := .int 0) dX11_layNow_13 rfl (by decide) (by decide) fX11_321 rfl ?_
  refine q_V1 (ci := 11) (n := 0) dX11_layNow_16 DX11_layOut lX11_454 rfl (by decide) rfl rfl rfl rfl uM_X11_layOut_57 ?_
  rintro _ _ ⟨rfl, rfl⟩
  refine q_ret dX11_layNow_19 rfl ?_
  exact ⟨rfl, rfl⟩
set_option maxRecDepth 20000 in
theorem uM_X11_wholeTrust_59 : q_met mX11_wholeTrust (q_sM uMI35 zJ1) [.ref 139] (fun s r => s = q_sM uMI35 zJ1 ∧ r = some (.int 0)) := by
  refine q_enter (by decide) (Nat.le_of_ble_eq_true rfl) ?_
  refine q_ic (v := 0) dX11_wholeTrust_0 rfl ?_
  refine q_istore_n dX11_wholeTrust_1 (Nat.le_of_ble_eq_true rfl) ?_
  refine q_ic (v := 0) dX11_wholeTrust_2 rfl ?_
  refine q_istore_n dX11_wholeTrust_3 (Nat.le_of_ble_eq_true rfl) ?_
  refine q_iload_n dX11_wholeTrust_4 rfl ?_
  refine q_aload_n dX11_wholeTrust_5 rfl ?_
  refine q_getR (c := 11) (n := 0) (k := 11) (a := 142) dX11_wholeTrust_6 rfl (by decide) (by decide) fX11_20 rfl rfl ?_
  refine q_aload_n dX11_wholeTrust_9 rfl ?_
  refine q_getf (c := 11) (n := 0) (k := 28) (v := .int 0) dX11_wholeTrust_10 rfl (by decide) (by decide) fX11_321 rfl ?_
  refine q_iald (n := 6) (j := 0) dX11_wholeTrust_13 rfl rfl (by decide) ?_
  refine q_topI (v := 0) rfl ?_
  refine q_cz_ge (tgt := 32) (a := 0) (b := 0) dX11_wholeTrust_14 (by decide) rfl rfl (fun _ => ?_) (fun h => absurd h (by decide))
  refine q_iload_n dX11_wholeTrust_32 rfl ?_
  refine q_iret dX11_wholeTrust_33 rfl ?_
  exact ⟨rfl, rfl⟩
def uMI36 : Nat → Nat → Int32 := q_up (q_up uMI35 139 61 1) 180 0 0
def uMJ4 : Nat → Nat → Int64 := q_up (q_up (q_up zJ1 139 60 0) 177 0 0) 178 0 0
set_option maxRecDepth 20000 in
theorem uM_X11_allPlaces_60 : q_met mX11_allPlaces (q_sM uMI36 uMJ4) [.ref 139] (fun s r => s = q_sM uMI36 uMJ4 ∧ r = some (.long 0)) := by
  refine q_enter (by decide) (Nat.le_of_ble_eq_true rfl) ?_
  refine q_lc (v := 1) dX11_allPlaces_0 rfl ?_
  refine q_aload_n dX11_allPlaces_1 rfl ?_
  refine q_getR (c := 11) (n := 0) (k := 11) (a := 142) dX11_allPlaces_2 rfl (by decide) (by decide) fX11_20 rfl rfl ?_
  refine q_aload_n dX11_allPlaces_5 rfl ?_
  refine q_getf (c := 11) (n := 0) (k := 28) (v := .int 0) dX11_allPlaces_6 rfl (by decide) (by decide) fX11_321 rfl ?_
  refine q_iald (n := 6) (j := 0) dX11_allPlaces_9 rfl rfl (by decide) ?_
  refine q_topI (v := 0) rfl ?_
  refine q_lshl dX11_allPlaces_10 ?_
  refine q_topL (v := 1) rfl ?_
  refine q_lc (v := 1) dX11_allPlaces_11 rfl ?_
  refine q_lsub dX11_allPlaces_12 ?_
  refine q_topL (v := 0) rfl ?_
  refine q_lret dX11_allPlaces_13 rfl ?_
  exact ⟨rfl, rfl⟩
def uMI37 : Nat → Nat → Int32 := q_up uMI36 181 0 (-1)
def uMJ5 : Nat → Nat → Int64 := q_up uMJ4 179 0 0
def uMI38 : Nat → Nat → Int32 := q_up (q_up uMI37 164 0 0) 164 1 (0 + 1)
def uMI39 : Nat → Nat → Int32 := q_up (q_up uMI38 165 0 0) 165 1 0
set_option maxRecDepth 20000 in
theorem uM_X11_isMade_61 : q_met mX11_isMade (q_sM uMI39 uMJ5) [.int 0] (fun s r => s = q_sM uMI39 uMJ5 ∧ r = some (.int 0)) := by
  refine q_enter (by decide) (Nat.le_of_ble_eq_true rfl) ?_
  refine q_iload_n dX11_isMade_0 rfl ?_
  refine q_ic (v := 2) dX11_isMade_1 rfl ?_
  refine q_cz_le (tgt := 9) (a := 0) (b := 2) dX11_isMade_2 (by decide) rfl rfl (fun _ => ?_) (fun h => absurd h (by decide))
  refine q_ic (v := 0) dX11_isMade_9 rfl ?_
  refine q_zret dX11_isMade_10 rfl (Or.inl rfl) ?_
  exact ⟨rfl, rfl⟩
set_option maxRecDepth 20000 in
theorem uM_X11_isMade_62 : q_met mX11_isMade (q_sM uMI39 uMJ5) [.int 1] (fun s r => s = q_sM uMI39 uMJ5 ∧ r = some (.int 0)) := by
  refine q_enter (by decide) (Nat.le_of_ble_eq_true rfl) ?_
  refine q_iload_n dX11_isMade_0 rfl ?_
  refine q_ic (v := 2) dX11_isMade_1 rfl ?_
  refine q_cz_le (tgt := 9) (a := 1) (b := 2) dX11_isMade_2 (by decide) rfl rfl (fun _ => ?_) (fun h => absurd h (by decide))
  refine q_ic (v := 0) dX11_isMade_9 rfl ?_
  refine q_zret dX11_isMade_10 rfl (Or.inl rfl) ?_
  exact ⟨rfl, rfl⟩
set_option maxRecDepth 20000 in
theorem uM_X11_isSound_63 : q_met mX11_isSound (q_sM uMI38 uMJ5) [.ref 139] (fun s r => s = q_sM uMI39 uMJ5 ∧ r = some (.int 1)) := by
  refine q_enter (by decide) (Nat.le_of_ble_eq_true rfl) ?_
  refine q_ic (v := 0) dX11_isSound_0 rfl ?_
  refine q_istore_n dX11_isSound_1 (Nat.le_of_ble_eq_true rfl) ?_
  refine q_ic (v := 0) dX11_isSound_2 rfl ?_
  refine q_istore_n dX11_isSound_3 (Nat.le_of_ble_eq_true rfl) ?_
  refine q_iload_n dX11_isSound_4 rfl ?_
  refine q_aload_n dX11_isSound_5 rfl ?_
  refine q_getf (c := 11) (n := 0) (k := 46) (v := .int 2) dX11_isSound_6 rfl (by decide) (by decide) fX11_386 rfl ?_
  refine q_cz_ge (tgt := 25) (a := 0) (b := 2) dX11_isSound_9 (by decide) rfl rfl (fun h => absurd h (by decide)) (fun _ => ?_)
  refine q_aload_n dX11_isSound_12 rfl ?_
  refine q_getR (c := 11) (n := 0) (k := 37) (a := 165) dX11_isSound_13 rfl (by decide) (by decide) fX11_91 rfl rfl ?_
  refine q_iload_n dX11_isSound_16 rfl ?_
  refine q_ic (v := 0) dX11_isSound_17 rfl ?_
  refine q_iast (n := 12000) (j := 0) dX11_isSound_18 rfl rfl (by decide) ?_
  show q_K _ (q_sM (q_up uMI38 165 0 0) uMJ5) _ _ _ _ _ _
  refine q_inc (v := 1) dX11_isSound_19 rfl (Nat.le_of_ble_eq_true rfl) rfl ?_
  refine q_goto (tgt := 4) dX11_isSound_22 (by decide) ?_
  refine q_iload_n dX11_isSound_4 rfl ?_
  refine q_aload_n dX11_isSound_5 rfl ?_
  refine q_getf (c := 11) (n := 0) (k := 46) (v := .int 2) dX11_isSound_6 rfl (by decide) (by decide) fX11_386 rfl ?_
  refine q_cz_ge (tgt := 25) (a := 1) (b := 2) dX11_isSound_9 (by decide) rfl rfl (fun h => absurd h (by decide)) (fun _ => ?_)
  refine q_aload_n dX11_isSound_12 rfl ?_
  refine q_getR (c := 11) (n := 0) (k := 37) (a := 165) dX11_isSound_13 rfl (by decide) (by decide) fX11_91 rfl rfl ?_
  refine q_iload_n dX11_isSound_16 rfl ?_
  refine q_ic (v := 0) dX11_isSound_17 rfl ?_
  refine q_iast (n := 12000) (j := 1) dX11_isSound_18 rfl rfl (by decide) ?_
  show q_K _ (q_sM (q_up (q_up uMI38 165 0 0) 165 1 0) uMJ5) _ _ _ _ _ _
  refine q_inc (v := 1) dX11_isSound_19 rfl (Nat.le_of_ble_eq_true rfl) rfl ?_
  refine q_goto (tgt := 4) dX11_isSound_22 (by decide) ?_
  refine q_iload_n dX11_isSound_4 rfl ?_
  refine q_aload_n dX11_isSound_5 rfl ?_
  refine q_getf (c := 11) (n := 0) (k := 46) (v := .int 2) dX11_isSound_6 rfl (by decide) (by decide) fX11_386 rfl ?_
  refine q_cz_ge (tgt := 25) (a := 2) (b := 2) dX11_isSound_9 (by decide) rfl rfl (fun _ => ?_) (fun h => absurd h (by decide))
  refine q_ic (v := 0) dX11_isSound_25 rfl ?_
  refine q_istore_n dX11_isSound_26 (Nat.le_of_ble_eq_true rfl) ?_
  refine q_iload_n dX11_isSound_27 rfl ?_
  refine q_aload_n dX11_isSound_28 rfl ?_
  refine q_getf (c := 11) (n := 0) (k := 46) (v := .int 2) dX11_isSound_29 rfl (by decide) (by decide) fX11_386 rfl ?_
  refine q_cz_ge (tgt := 117) (a := 0) (b := 2) dX11_isSound_32 (by decide) rfl rfl (fun h => absurd h (by decide)) (fun _ => ?_)
  refine q_aload_n dX11_isSound_35 rfl ?_
  refine q_getR (c := 11) (n := 0) (k := 36) (a := 164) dX11_isSound_36 rfl (by decide) (by decide) fX11_88 rfl rfl ?_
  refine q_iload_n dX11_isSound_39 rfl ?_
  refine q_iald (n := 12000) (j := 0) dX11_isSound_40 rfl rfl (by decide) ?_
  refine q_topI (v := 0) rfl ?_
  refine q_iload_n dX11_isSound_41 rfl ?_
  refine q_cz_ne (tgt := 111) (a := 0) (b := 0) dX11_isSound_42 (by decide) rfl rfl (fun h => absurd h (by decide)) (fun _ => ?_)
  refine q_aload_n dX11_isSound_45 rfl ?_
  refine q_getR (c := 11) (n := 0) (k := 33) (a := 161) dX11_isSound_46 rfl (by decide) (by decide) fX11_79 rfl rfl ?_
  refine q_iload_n dX11_isSound_49 rfl ?_
  refine q_iald (n := 12000) (j := 0) dX11_isSound_50 rfl rfl (by decide) ?_
  refine q_topI (v := 0) rfl ?_
  show q_K _ (q_sM uMI39 uMJ5) _ _ _ _ _ _
  refine q_S1 dX11_isSound_51 DX11_isMade lX11_441 rfl rfl rfl uM_X11_isMade_61 ?_
  rintro _ _ ⟨rfl, rfl⟩
  refine q_iz_ne (tgt := 60) (a := 0) dX11_isSound_54 (by decide) rfl (fun h => absurd h (by decide)) (fun _ => ?_)
  refine q_goto (tgt := 111) dX11_isSound_57 (by decide) ?_
  refine q_inc (v := 1) dX11_isSound_111 rfl (Nat.le_of_ble_eq_true rfl) rfl ?_
  refine q_goto (tgt := 27) dX11_isSound_114 (by decide) ?_
  refine q_iload_n dX11_isSound_27 rfl ?_
  refine q_aload_n dX11_isSound_28 rfl ?_
  refine q_getf (c := 11) (n := 0) (k := 46) (v := .int 2) dX11_isSound_29 rfl (by decide) (by decide) fX11_386 rfl ?_
  refine q_cz_ge (tgt := 117) (a := 1) (b := 2) dX11_isSound_32 (by decide) rfl rfl (fun h => absurd h (by decide)) (fun _ => ?_)
  refine q_aload_n dX11_isSound_35 rfl ?_
  refine q_getR (c := 11) (n := 0) (k := 36) (a := 164) dX11_isSound_36 rfl (by decide) (by decide) fX11_88 rfl rfl ?_
  refine q_iload_n dX11_isSound_39 rfl ?_
  refine q_iald (n := 12000) (j := 1) dX11_isSound_40 rfl rfl (by decide) ?_
  refine q_topI (v := 1) rfl ?_
  refine q_iload_n dX11_isSound_41 rfl ?_
  refine q_cz_ne (tgt := 111) (a := 1) (b := 1) dX11_isSound_42 (by decide) rfl rfl (fun h => absurd h (by decide)) (fun _ => ?_)
  refine q_aload_n dX11_isSound_45 rfl ?_
  refine q_getR (c := 11) (n := 0) (k := 33) (a := 161) dX11_isSound_46 rfl (by decide) (by decide) fX11_79 rfl rfl ?_
  refine q_iload_n dX11_isSound_49 rfl ?_
  refine q_iald (n := 12000) (j := 1) dX11_isSound_50 rfl rfl (by decide) ?_
  refine q_topI (v := 1) rfl ?_
  refine q_S1 dX11_isSound_51 DX11_isMade lX11_441 rfl rfl rfl uM_X11_isMade_62 ?_
  rintro _ _ ⟨rfl, rfl⟩
  refine q_iz_ne (tgt := 60) (a := 0) dX11_isSound_54 (by decide) rfl (fun h => absurd h (by decide)) (fun _ => ?_)
  refine q_goto (tgt := 111) dX11_isSound_57 (by decide) ?_
  refine q_inc (v := 1) dX11_isSound_111 rfl (Nat.le_of_ble_eq_true rfl) rfl ?_
  refine q_goto (tgt := 27) dX11_isSound_114 (by decide) ?_
  refine q_iload_n dX11_isSound_27 rfl ?_
  refine q_aload_n dX11_isSound_28 rfl ?_
  refine q_getf (c := 11) (n := 0) (k := 46) (v := .int 2) dX11_isSound_29 rfl (by decide) (by decide) fX11_386 rfl ?_
  refine q_cz_ge (tgt := 117) (a := 2) (b := 2) dX11_isSound_32 (by decide) rfl rfl (fun _ => ?_) (fun h => absurd h (by decide))
  refine q_ic (v := 0) dX11_isSound_117 rfl ?_
  refine q_istore_n dX11_isSound_118 (Nat.le_of_ble_eq_true rfl) ?_
  refine q_ic (v := 0) dX11_isSound_119 rfl ?_
  refine q_istore_n dX11_isSound_120 (Nat.le_of_ble_eq_true rfl) ?_
  refine q_iload_n dX11_isSound_121 rfl ?_
  refine q_aload_n dX11_isSound_122 rfl ?_
  refine q_getf (c := 11) (n := 0) (k := 46) (v := .int 2) dX11_isSound_123 rfl (by decide) (by decide) fX11_386 rfl ?_
  refine q_cz_ge (tgt := 179) (a := 0) (b := 2) dX11_isSound_126 (by decide) rfl rfl (fun h => absurd h (by decide)) (fun _ => ?_)
  refine q_aload_n dX11_isSound_129 rfl ?_
  refine q_getR (c := 11) (n := 0) (k := 36) (a := 164) dX11_isSound_130 rfl (by decide) (by decide) fX11_88 rfl rfl ?_
  refine q_iload_n dX11_isSound_133 rfl ?_
  refine q_iald (n := 12000) (j := 0) dX11_isSound_134 rfl rfl (by decide) ?_
  refine q_topI (v := 0) rfl ?_
  refine q_iload_n dX11_isSound_135 rfl ?_
  refine q_cz_ne (tgt := 173) (a := 0) (b := 0) dX11_isSound_136 (by decide) rfl rfl (fun h => absurd h (by decide)) (fun _ => ?_)
  refine q_aload_n dX11_isSound_139 rfl ?_
  refine q_getR (c := 11) (n := 0) (k := 33) (a := 161) dX11_isSound_140 rfl (by decide) (by decide) fX11_79 rfl rfl ?_
  refine q_iload_n dX11_isSound_143 rfl ?_
  refine q_iald (n := 12000) (j := 0) dX11_isSound_144 rfl rfl (by decide) ?_
  refine q_topI (v := 0) rfl ?_
  refine q_S1 dX11_isSound_145 DX11_isMade lX11_441 rfl rfl rfl uM_X11_isMade_61 ?_
  rintro _ _ ⟨rfl, rfl⟩
  refine q_iz_eq (tgt := 173) (a := 0) dX11_isSound_148 (by decide) rfl (fun _ => ?_) (fun h => absurd h (by decide))
  refine q_inc (v := 1) dX11_isSound_173 rfl (Nat.le_of_ble_eq_true rfl) rfl ?_
  refine q_goto (tgt := 121) dX11_isSound_176 (by decide) ?_
  refine q_iload_n dX11_isSound_121 rfl ?_
  refine q_aload_n dX11_isSound_122 rfl ?_
  refine q_getf (c := 11) (n := 0) (k := 46) (v := .int 2) dX11_isSound_123 rfl (by decide) (by decide) fX11_386 rfl ?_
  refine q_cz_ge (tgt := 179) (a := 1) (b := 2) dX11_isSound_126 (by decide) rfl rfl (fun h => absurd h (by decide)) (fun _ => ?_)
  refine q_aload_n dX11_isSound_129 rfl ?_
  refine q_getR (c := 11) (n := 0) (k := 36) (a := 164) dX11_isSound_130 rfl (by decide) (by decide) fX11_88 rfl rfl ?_
  refine q_iload_n dX11_isSound_133 rfl ?_
  refine q_iald (n := 12000) (j := 1) dX11_isSound_134 rfl rfl (by decide) ?_
  refine q_topI (v := 1) rfl ?_
  refine q_iload_n dX11_isSound_135 rfl ?_
  refine q_cz_ne (tgt := 173) (a := 1) (b := 1) dX11_isSound_136 (by decide) rfl rfl (fun h => absurd h (by decide)) (fun _ => ?_)
  refine q_aload_n dX11_isSound_139 rfl ?_
  refine q_getR (c := 11) (n := 0) (k := 33) (a := 161) dX11_isSound_140 rfl (by decide) (by decide) fX11_79 rfl rfl ?_
  refine q_iload_n dX11_isSound_143 rfl ?_
  refine q_iald (n := 12000) (j := 1) dX11_isSound_144 rfl rfl (by decide) ?_
  refine q_topI (v := 1) rfl ?_
  refine q_S1 dX11_isSound_145 DX11_isMade lX11_441 rfl rfl rfl uM_X11_isMade_62 ?_
  rintro _ _ ⟨rfl, rfl⟩
  refine q_iz_eq (tgt := 173) (a := 0) dX11_isSound_148 (by decide) rfl (fun _ => ?_) (fun h => absurd h (by decide))
  refine q_inc (v := 1) dX11_isSound_173 rfl (Nat.le_of_ble_eq_true rfl) rfl ?_
  refine q_goto (tgt := 121) dX11_isSound_176 (by decide) ?_
  refine q_iload_n dX11_isSound_121 rfl ?_
  refine q_aload_n dX11_isSound_122 rfl ?_
  refine q_getf (c := 11) (n := 0) (k := 46) (v := .int 2) dX11_isSound_123 rfl (by decide) (by decide) fX11_386 rfl ?_
  refine q_cz_ge (tgt := 179) (a := 2) (b := 2) dX11_isSound_126 (by decide) rfl rfl (fun _ => ?_) (fun h => absurd h (by decide))
  refine q_iload_n dX11_isSound_179 rfl ?_
  refine q_iz_le (tgt := 241) (a := 0) dX11_isSound_180 (by decide) rfl (fun _ => ?_) (fun h => absurd h (by decide))
  refine q_iload_n dX11_isSound_241 rfl ?_
  refine q_iz_ne (tgt := 249) (a := 0) dX11_isSound_242 (by decide) rfl (fun h => absurd h (by decide)) (fun _ => ?_)
  refine q_ic (v := 1) dX11_isSound_245 rfl ?_
  refine q_goto (tgt := 250) dX11_isSound_246 (by decide) ?_
  refine q_zret dX11_isSound_250 rfl (Or.inr rfl) ?_
  exact ⟨rfl, rfl⟩
set_option maxRecDepth 20000 in
theorem uM_X11_makes_64 : q_met mX11_makes (q_sM uMI37 uMJ5) [.ref 139, .long 0] (fun s r => s = q_sM uMI39 uMJ5 ∧ r = some (.int 1)) := by
  refine q_enter (by decide) (Nat.le_of_ble_eq_true rfl) ?_
  refine q_ic (v := 0) dX11_makes_0 rfl ?_
  refine q_istore_n dX11_makes_1 (Nat.le_of_ble_eq_true rfl) ?_
  refine q_iload_n dX11_makes_2 rfl ?_
  refine q_aload_n dX11_makes_3 rfl ?_
  refine q_getf (c := 11) (n := 0) (k := 46) (v := .int 2) dX11_makes_4 rfl (by decide) (by decide) fX11_386 rfl ?_
  refine q_cz_ge (tgt := 23) (a := 0) (b := 2) dX11_makes_7 (by decide) rfl rfl (fun h => absurd h (by decide)) (fun _ => ?_)
  refine q_aload_n dX11_makes_10 rfl ?_
  refine q_getR (c := 11) (n := 0) (k := 36) (a := 164) dX11_makes_11 rfl (by decide) (by decide) fX11_88 rfl rfl ?_
  refine q_iload_n dX11_makes_14 rfl ?_
  refine q_iload_n dX11_makes_15 rfl ?_
  refine q_iast (n := 12000) (j := 0) dX11_makes_16 rfl rfl (by decide) ?_
  show q_K _ (q_sM (q_up uMI37 164 0 0) uMJ5) _ _ _ _ _ _
  refine q_inc (v := 1) dX11_makes_17 rfl (Nat.le_of_ble_eq_true rfl) rfl ?_
  refine q_goto (tgt := 2) dX11_makes_20 (by decide) ?_
  refine q_iload_n dX11_makes_2 rfl ?_
  refine q_aload_n dX11_makes_3 rfl ?_
  refine q_getf (c := 11) (n := 0) (k := 46) (v := .int 2) dX11_makes_4 rfl (by decide) (by decide) fX11_386 rfl ?_
  refine q_cz_ge (tgt := 23) (a := 1) (b := 2) dX11_makes_7 (by decide) rfl rfl (fun h => absurd h (by decide)) (fun _ => ?_)
  refine q_aload_n dX11_makes_10 rfl ?_
  refine q_getR (c := 11) (n := 0) (k := 36) (a := 164) dX11_makes_11 rfl (by decide) (by decide) fX11_88 rfl rfl ?_
  refine q_iload_n dX11_makes_14 rfl ?_
  refine q_iload_n dX11_makes_15 rfl ?_
  refine q_iast (n := 12000) (j := 1) dX11_makes_16 rfl rfl (by decide) ?_
  show q_K _ (q_sM (q_up (q_up uMI37 164 0 0) 164 1 (0 + 1)) uMJ5) _ _ _ _ _ _
  refine q_inc (v := 1) dX11_makes_17 rfl (Nat.le_of_ble_eq_true rfl) rfl ?_
  refine q_goto (tgt := 2) dX11_makes_20 (by decide) ?_
  refine q_iload_n dX11_makes_2 rfl ?_
  refine q_aload_n dX11_makes_3 rfl ?_
  refine q_getf (c := 11) (n := 0) (k := 46) (v := .int 2) dX11_makes_4 rfl (by decide) (by decide) fX11_386 rfl ?_
  refine q_cz_ge (tgt := 23) (a := 2) (b := 2) dX11_makes_7 (by decide) rfl rfl (fun _ => ?_) (fun h => absurd h (by decide))
  refine q_ic (v := 0) dX11_makes_23 rfl ?_
  refine q_istore_n dX11_makes_24 (Nat.le_of_ble_eq_true rfl) ?_
  refine q_iload_n dX11_makes_25 rfl ?_
  refine q_aload_n dX11_makes_26 rfl ?_
  refine q_getf (c := 11) (n := 0) (k := 47) (v := .int 0) dX11_makes_27 rfl (by decide) (by decide) fX11_393 rfl ?_
  refine q_cz_ge (tgt := 75) (a := 0) (b := 0) dX11_makes_30 (by decide) rfl rfl (fun _ => ?_) (fun h => absurd h (by decide))
  refine q_aload_n dX11_makes_75 rfl ?_
  show q_K _ (q_sM uMI38 uMJ5) _ _ _ _ _ _
  refine q_V0 (ci := 11) (n := 0) dX11_makes_76 DX11_isSound lX11_451 rfl (by decide) rfl rfl rfl rfl uM_X11_isSound_63 ?_
  rintro _ _ ⟨rfl, rfl⟩
  refine q_zret dX11_makes_79 rfl (Or.inr rfl) ?_
  exact ⟨rfl, rfl⟩
set_option maxRecDepth 20000 in
theorem uM_X11_clash_65 : q_met mX11_clash (q_sM uMI37 uMJ5) [.ref 139, .long 0] (fun s r => s = q_sM uMI39 uMJ5 ∧ r = some (.int 0)) := by
  refine q_enter (by decide) (Nat.le_of_ble_eq_true rfl) ?_
  refine q_aload_n dX11_clash_0 rfl ?_
  refine q_lload_n dX11_clash_1 rfl ?_
  refine q_V1 (ci := 11) (n := 0) dX11_clash_2 DX11_makes lX11_457 rfl (by decide) rfl rfl rfl rfl uM_X11_makes_64 ?_
  rintro _ _ ⟨rfl, rfl⟩
  refine q_iz_ne (tgt := 12) (a := 1) dX11_clash_5 (by decide) rfl (fun _ => ?_) (fun h => absurd h (by decide))
  refine q_ic (v := 0) dX11_clash_12 rfl ?_
  refine q_zret dX11_clash_13 rfl (Or.inl rfl) ?_
  exact ⟨rfl, rfl⟩
def uMI40 : Nat → Nat → Int32 := q_up uMI39 139 61 0
def uMJ6 : Nat → Nat → Int64 := q_up uMJ5 139 60 0
set_option maxRecDepth 20000 in
theorem uM_X11_level_66 : q_met mX11_level (q_sM uMI36 uMJ4) [.ref 139, .int 0] (fun s r => s = q_sM uMI40 uMJ6 ∧ r = none) := by
  refine q_enter (by decide) (Nat.le_of_ble_eq_true rfl) ?_
  refine q_aload_n dX11_level_0 rfl ?_
  refine q_V0 (ci := 11) (n := 0) dX11_level_1 DX11_allPlaces lX11_463 rfl (by decide) rfl rfl rfl rfl uM_X11_allPlaces_60 ?_
  rintro _ _ ⟨rfl, rfl⟩
  refine q_aload_n dX11_level_4 rfl ?_
  refine q_getR (c := 11) (n := 0) (k := 55) (a := 177) dX11_level_5 rfl (by decide) (by decide) fX11_131 rfl rfl ?_
  refine q_iload_n dX11_level_8 rfl ?_
  refine q_lald (n := 42) (j := 0) dX11_level_9 rfl rfl (by decide) ?_
  refine q_topL (v := 0) rfl ?_
  refine q_ldc2 (v := (-1)) dX11_level_10 nX11_473 ?_
  refine q_lxor dX11_level_13 ?_
  refine q_topL (v := (-1)) rfl ?_
  refine q_land dX11_level_14 ?_
  refine q_topL (v := 0) rfl ?_
  refine q_lstore_n dX11_level_15 (Nat.le_of_ble_eq_true rfl) ?_
  refine q_aload_n dX11_level_16 rfl ?_
  refine q_getR (c := 11) (n := 0) (k := 57) (a := 179) dX11_level_17 rfl (by decide) (by decide) fX11_137 rfl rfl ?_
  refine q_iload_n dX11_level_20 rfl ?_
  refine q_lc (v := 0) dX11_level_21 rfl ?_
  refine q_last (n := 42) (j := 0) dX11_level_22 rfl rfl (by decide) ?_
  show q_K _ (q_sM uMI36 (q_up uMJ4 179 0 0)) _ _ _ _ _ _
  refine q_aload_n dX11_level_23 rfl ?_
  refine q_getR (c := 11) (n := 0) (k := 59) (a := 181) dX11_level_24 rfl (by decide) (by decide) fX11_143 rfl rfl ?_
  refine q_iload_n dX11_level_27 rfl ?_
  refine q_ic (v := (-1)) dX11_level_28 rfl ?_
  refine q_iast (n := 42) (j := 0) dX11_level_29 rfl rfl (by decide) ?_
  show q_K _ (q_sM uMI37 uMJ5) _ _ _ _ _ _
  refine q_aload_n dX11_level_30 rfl ?_
  refine q_lload_n dX11_level_31 rfl ?_
  refine q_V1 (ci := 11) (n := 0) dX11_level_32 DX11_clash lX11_467 rfl (by decide) rfl rfl rfl rfl uM_X11_clash_65 ?_
  rintro _ _ ⟨rfl, rfl⟩
  refine q_iz_eq (tgt := 52) (a := 0) dX11_level_35 (by decide) rfl (fun _ => ?_) (fun h => absurd h (by decide))
  refine q_aload_n dX11_level_52 rfl ?_
  refine q_getR (c := 11) (n := 0) (k := 58) (a := 180) dX11_level_53 rfl (by decide) (by decide) fX11_140 rfl rfl ?_
  refine q_iload_n dX11_level_56 rfl ?_
  refine q_iald (n := 42) (j := 0) dX11_level_57 rfl rfl (by decide) ?_
  refine q_topI (v := 0) rfl ?_
  refine q_aload_n dX11_level_58 rfl ?_
  refine q_getf (c := 11) (n := 0) (k := 61) (v := .int 1) dX11_level_59 rfl (by decide) (by decide) fX11_499 rfl ?_
  refine q_cz_lt (tgt := 92) (a := 0) (b := 1) dX11_level_62 (by decide) rfl rfl (fun _ => ?_) (fun h => absurd h (by decide))
  refine q_aload_n dX11_level_92 rfl ?_
  refine q_aload_n dX11_level_93 rfl ?_
  refine q_getR (c := 11) (n := 0) (k := 58) (a := 180) dX11_level_94 rfl (by decide) (by decide) fX11_140 rfl rfl ?_
  refine q_iload_n dX11_level_97 rfl ?_
  refine q_iald (n := 42) (j := 0) dX11_level_98 rfl rfl (by decide) ?_
  refine q_topI (v := 0) rfl ?_
  refine q_putI (c := 11) (n := 0) (k := 61) dX11_level_99 rfl (by decide) (by decide) fX11_499 rfl rfl ?_
  show q_K _ (q_sM (q_up uMI39 139 61 0) uMJ5) _ _ _ _ _ _
  refine q_aload_n dX11_level_102 rfl ?_
  refine q_aload_n dX11_level_103 rfl ?_
  refine q_getR (c := 11) (n := 0) (k := 55) (a := 177) dX11_level_104 rfl (by decide) (by decide) fX11_131 rfl rfl ?_
  refine q_iload_n dX11_level_107 rfl ?_
  refine q_lald (n := 42) (j := 0) dX11_level_108 rfl rfl (by decide) ?_
  refine q_topL (v := 0) rfl ?_
  refine q_putJ (c := 11) (n := 0) (k := 60) dX11_level_109 rfl (by decide) (by decide) fX11_502 rfl rfl ?_
  show q_K _ (q_sM (q_up uMI39 139 61 0) (q_up uMJ5 139 60 0)) _ _ _ _ _ _
  show q_K _ (q_sM uMI40 uMJ6) _ _ _ _ _ _
  refine q_ret dX11_level_112 rfl ?_
  exact ⟨rfl, rfl⟩
def uMI41 : Nat → Nat → Int32 := q_up uMI40 181 0 0
set_option maxRecDepth 20000 in
theorem uM_X11_findCheapest_67 : q_met mX11_findCheapest (q_sM uMI29 zJ1) [.ref 139] (fun s r => s = q_sM uMI41 uMJ6 ∧ r = none) := by
  refine q_enter (by decide) (Nat.le_of_ble_eq_true rfl) ?_
  refine q_aload_n dX11_findCheapest_0 rfl ?_
  refine q_getf (c := 11) (n := 0) (k := 62) (v := .int 0) dX11_findCheapest_1 rfl (by decide) (by decide) fX11_492 rfl ?_
  refine q_iz_eq (tgt := 8) (a := 0) dX11_findCheapest_4 (by decide) rfl (fun _ => ?_) (fun h => absurd h (by decide))
  refine q_aload_n dX11_findCheapest_8 rfl ?_
  refine q_ic (v := 1) dX11_findCheapest_9 rfl ?_
  refine q_putZ (c := 11) (n := 0) (k := 62) dX11_findCheapest_10 rfl (by decide) (by decide) fX11_492 rfl rfl (Or.inr rfl) ?_
  show q_K _ (q_sM (q_up uMI29 139 62 1) zJ1) _ _ _ _ _ _
  refine q_aload_n dX11_findCheapest_13 rfl ?_
  show q_K _ (q_sM uMI30 zJ1) _ _ _ _ _ _
  refine q_V0 (ci := 11) (n := 0) dX11_findCheapest_14 DX11_layNow lX11_460 rfl (by decide) rfl rfl rfl rfl uM_X11_layNow_58 ?_
  rintro _ _ ⟨rfl, rfl⟩
  refine q_aload_n dX11_findCheapest_17 rfl ?_
  refine q_aload_n dX11_findCheapest_18 rfl ?_
  refine q_V0 (ci := 11) (n := 0) dX11_findCheapest_19 DX11_wholeTrust lX11_505 rfl (by decide) rfl rfl rfl rfl uM_X11_wholeTrust_59 ?_
  rintro _ _ ⟨rfl, rfl⟩
  refine q_ic (v := 1) dX11_findCheapest_22 rfl ?_
  refine q_iadd dX11_findCheapest_23 ?_
  refine q_topI (v := 1) rfl ?_
  refine q_putI (c := 11) (n := 0) (k := 61) dX11_findCheapest_24 rfl (by decide) (by decide) fX11_499 rfl rfl ?_
  show q_K _ (q_sM (q_up uMI35 139 61 1) zJ1) _ _ _ _ _ _
  refine q_aload_n dX11_findCheapest_27 rfl ?_
  refine q_lc (v := 0) dX11_findCheapest_28 rfl ?_
  refine q_putJ (c := 11) (n := 0) (k := 60) dX11_findCheapest_29 rfl (by decide) (by decide) fX11_502 rfl rfl ?_
  show q_K _ (q_sM (q_up uMI35 139 61 1) (q_up zJ1 139 60 0)) _ _ _ _ _ _
  refine q_aload_n dX11_findCheapest_32 rfl ?_
  refine q_getR (c := 11) (n := 0) (k := 55) (a := 177) dX11_findCheapest_33 rfl (by decide) (by decide) fX11_131 rfl rfl ?_
  refine q_ic (v := 0) dX11_findCheapest_36 rfl ?_
  refine q_lc (v := 0) dX11_findCheapest_37 rfl ?_
  refine q_last (n := 42) (j := 0) dX11_findCheapest_38 rfl rfl (by decide) ?_
  show q_K _ (q_sM (q_up uMI35 139 61 1) (q_up (q_up zJ1 139 60 0) 177 0 0)) _ _ _ _ _ _
  refine q_aload_n dX11_findCheapest_39 rfl ?_
  refine q_getR (c := 11) (n := 0) (k := 56) (a := 178) dX11_findCheapest_40 rfl (by decide) (by decide) fX11_134 rfl rfl ?_
  refine q_ic (v := 0) dX11_findCheapest_43 rfl ?_
  refine q_lc (v := 0) dX11_findCheapest_44 rfl ?_
  refine q_last (n := 42) (j := 0) dX11_findCheapest_45 rfl rfl (by decide) ?_
  show q_K _ (q_sM (q_up uMI35 139 61 1) (q_up (q_up (q_up zJ1 139 60 0) 177 0 0) 178 0 0)) _ _ _ _ _ _
  refine q_aload_n dX11_findCheapest_46 rfl ?_
  refine q_getR (c := 11) (n := 0) (k := 58) (a := 180) dX11_findCheapest_47 rfl (by decide) (by decide) fX11_140 rfl rfl ?_
  refine q_ic (v := 0) dX11_findCheapest_50 rfl ?_
  refine q_ic (v := 0) dX11_findCheapest_51 rfl ?_
  refine q_iast (n := 42) (j := 0) dX11_findCheapest_52 rfl rfl (by decide) ?_
  show q_K _ (q_sM (q_up (q_up uMI35 139 61 1) 180 0 0) (q_up (q_up (q_up zJ1 139 60 0) 177 0 0) 178 0 0)) _ _ _ _ _ _
  refine q_aload_n dX11_findCheapest_53 rfl ?_
  refine q_ic (v := 0) dX11_findCheapest_54 rfl ?_
  show q_K _ (q_sM uMI36 uMJ4) _ _ _ _ _ _
  refine q_V1 (ci := 11) (n := 0) dX11_findCheapest_55 DX11_level lX11_508 rfl (by decide) rfl rfl rfl rfl uM_X11_level_66 ?_
  rintro _ _ ⟨rfl, rfl⟩
  refine q_ic (v := 0) dX11_findCheapest_58 rfl ?_
  refine q_istore_n dX11_findCheapest_59 (Nat.le_of_ble_eq_true rfl) ?_
  refine q_iload_n dX11_findCheapest_60 rfl ?_
  refine q_iz_lt (tgt := 245) (a := 0) dX11_findCheapest_61 (by decide) rfl (fun h => absurd h (by decide)) (fun _ => ?_)
  refine q_aload_n dX11_findCheapest_64 rfl ?_
  refine q_getR (c := 11) (n := 0) (k := 59) (a := 181) dX11_findCheapest_65 rfl (by decide) (by decide) fX11_143 rfl rfl ?_
  refine q_iload_n dX11_findCheapest_68 rfl ?_
  refine q_iald (n := 42) (j := 0) dX11_findCheapest_69 rfl rfl (by decide) ?_
  refine q_topI (v := (-1)) rfl ?_
  refine q_ic (v := 1) dX11_findCheapest_70 rfl ?_
  refine q_iadd dX11_findCheapest_71 ?_
  refine q_topI (v := 0) rfl ?_
  refine q_istore_n dX11_findCheapest_72 (Nat.le_of_ble_eq_true rfl) ?_
  refine q_iload_n dX11_findCheapest_73 rfl ?_
  refine q_aload_n dX11_findCheapest_74 rfl ?_
  refine q_getR (c := 11) (n := 0) (k := 11) (a := 142) dX11_findCheapest_75 rfl (by decide) (by decide) fX11_20 rfl rfl ?_
  refine q_aload_n dX11_findCheapest_78 rfl ?_
  refine q_getf (c := 11) (n := 0) (k := 28) (v := .int 0) dX11_findCheapest_79 rfl (by decide) (by decide) fX11_321 rfl ?_
  refine q_iald (n := 6) (j := 0) dX11_findCheapest_82 rfl rfl (by decide) ?_
  refine q_topI (v := 0) rfl ?_
  refine q_cz_ge (tgt := 142) (a := 0) (b := 0) dX11_findCheapest_83 (by decide) rfl rfl (fun _ => ?_) (fun h => absurd h (by decide))
  refine q_aload_n dX11_findCheapest_142 rfl ?_
  refine q_getR (c := 11) (n := 0) (k := 59) (a := 181) dX11_findCheapest_143 rfl (by decide) (by decide) fX11_143 rfl rfl ?_
  refine q_iload_n dX11_findCheapest_146 rfl ?_
  refine q_iload_n dX11_findCheapest_147 rfl ?_
  refine q_iast (n := 42) (j := 0) dX11_findCheapest_148 rfl rfl (by decide) ?_
  show q_K _ (q_sM (q_up uMI40 181 0 0) uMJ6) _ _ _ _ _ _
  refine q_iload_n dX11_findCheapest_149 rfl ?_
  refine q_aload_n dX11_findCheapest_150 rfl ?_
  refine q_getR (c := 11) (n := 0) (k := 11) (a := 142) dX11_findCheapest_151 rfl (by decide) (by decide) fX11_20 rfl rfl ?_
  refine q_aload_n dX11_findCheapest_154 rfl ?_
  refine q_getf (c := 11) (n := 0) (k := 28) (v := .int 0) dX11_findCheapest_155 rfl (by decide) (by decide) fX11_321 rfl ?_
  refine q_iald (n := 6) (j := 0) dX11_findCheapest_158 rfl rfl (by decide) ?_
  refine q_topI (v := 0) rfl ?_
  refine q_cz_lt (tgt := 168) (a := 0) (b := 0) dX11_findCheapest_159 (by decide) rfl rfl (fun h => absurd h (by decide)) (fun _ => ?_)
  refine q_inc (v := (-1)) dX11_findCheapest_162 rfl (Nat.le_of_ble_eq_true rfl) rfl ?_
  refine q_goto (tgt := 60) dX11_findCheapest_165 (by decide) ?_
  refine q_iload_n dX11_findCheapest_60 rfl ?_
  refine q_iz_lt (tgt := 245) (a := -1) dX11_findCheapest_61 (by decide) rfl (fun _ => ?_) (fun h => absurd h (by decide))
  show q_K _ (q_sM uMI41 uMJ6) _ _ _ _ _ _
  refine q_ret dX11_findCheapest_245 rfl ?_
  exact ⟨rfl, rfl⟩
set_option maxRecDepth 20000 in
theorem uM_X11_findHints_68 : q_met mX11_findHints (q_sM zI6 zJ1) [.ref 139] (fun s r => s = q_sM uMI41 uMJ6 ∧ r = none) := by
  refine q_enter (by decide) (Nat.le_of_ble_eq_true rfl) ?_
  refine q_aload_n dX11_findHints_0 rfl ?_
  refine q_getf (c := 11) (n := 0) (k := 63) (v := .int 0) dX11_findHints_1 rfl (by decide) (by decide) fX11_496 rfl ?_
  refine q_iz_eq (tgt := 8) (a := 0) dX11_findHints_4 (by decide) rfl (fun _ => ?_) (fun h => absurd h (by decide))
  refine q_aload_n dX11_findHints_8 rfl ?_
  refine q_ic (v := 1) dX11_findHints_9 rfl ?_
  refine q_putZ (c := 11) (n := 0) (k := 63) dX11_findHints_10 rfl (by decide) (by decide) fX11_496 rfl rfl (Or.inr rfl) ?_
  show q_K _ (q_sM (q_up zI6 139 63 1) zJ1) _ _ _ _ _ _
  refine q_aload_n dX11_findHints_13 rfl ?_
  refine q_ic (v := 0) dX11_findHints_14 rfl ?_
  refine q_putI (c := 11) (n := 0) (k := 70) dX11_findHints_15 rfl (by decide) (by decide) fX11_542 rfl rfl ?_
  show q_K _ (q_sM (q_up (q_up zI6 139 63 1) 139 70 0) zJ1) _ _ _ _ _ _
  refine q_aload_n dX11_findHints_18 rfl ?_
  show q_K _ (q_sM uMI29 zJ1) _ _ _ _ _ _
  refine q_V0 (ci := 11) (n := 0) dX11_findHints_19 DX11_findCheapest lX11_513 rfl (by decide) rfl rfl rfl rfl uM_X11_findCheapest_67 ?_
  rintro _ _ ⟨rfl, rfl⟩
  refine q_aload_n dX11_findHints_22 rfl ?_
  refine q_getf (c := 11) (n := 0) (k := 60) (v := .long 0) dX11_findHints_23 rfl (by decide) (by decide) fX11_502 rfl ?_
  refine q_lstore_n dX11_findHints_26 (Nat.le_of_ble_eq_true rfl) ?_
  refine q_ic (v := 0) dX11_findHints_27 rfl ?_
  refine q_istore_n dX11_findHints_28 (Nat.le_of_ble_eq_true rfl) ?_
  refine q_iload_n dX11_findHints_29 rfl ?_
  refine q_aload_n dX11_findHints_30 rfl ?_
  refine q_getR (c := 11) (n := 0) (k := 11) (a := 142) dX11_findHints_31 rfl (by decide) (by decide) fX11_20 rfl rfl ?_
  refine q_aload_n dX11_findHints_34 rfl ?_
  refine q_getf (c := 11) (n := 0) (k := 28) (v := .int 0) dX11_findHints_35 rfl (by decide) (by decide) fX11_321 rfl ?_
  refine q_iald (n := 6) (j := 0) dX11_findHints_38 rfl rfl (by decide) ?_
  refine q_topI (v := 0) rfl ?_
  refine q_cz_ge (tgt := 161) (a := 0) (b := 0) dX11_findHints_39 (by decide) rfl rfl (fun _ => ?_) (fun h => absurd h (by decide))
  refine q_ret dX11_findHints_161 rfl ?_
  exact ⟨rfl, rfl⟩
set_option maxRecDepth 20000 in
theorem frM_hints : q_met mX11_hints (q_sM zI6 zJ1) [.ref 139] (fun s r => (∃ I J, s = q_sM I J) ∧ ∃ v, r = some (.int v) ∧ v.toInt = (0 : Int)) := by
  refine q_enter (by decide) (Nat.le_of_ble_eq_true rfl) ?_
  refine q_aload_n dX11_hints_0 rfl ?_
  refine q_getR (c := 11) (n := 0) (k := 11) (a := 142) dX11_hints_1 rfl (by decide) (by decide) fX11_20 rfl rfl ?_
  refine q_aload_n dX11_hints_4 rfl ?_
  refine q_getf (c := 11) (n := 0) (k := 28) (v := .int 0) dX11_hints_5 rfl (by decide) (by decide) fX11_321 rfl ?_
  refine q_iald (n := 6) (j := 0) dX11_hints_8 rfl rfl (by decide) ?_
  refine q_topI (v := 0) rfl ?_
  refine q_bi (v := 24) dX11_hints_9 rfl ?_
  refine q_cz_le (tgt := 17) (a := 0) (b := 24) dX11_hints_11 (by decide) rfl rfl (fun _ => ?_) (fun h => absurd h (by decide))
  refine q_aload_n dX11_hints_17 rfl ?_
  refine q_V0 (ci := 11) (n := 0) dX11_hints_18 DX11_findHints lX11_557 rfl (by decide) rfl rfl rfl rfl uM_X11_findHints_68 ?_
  rintro _ _ ⟨rfl, rfl⟩
  refine q_aload_n dX11_hints_21 rfl ?_
  refine q_getf (c := 11) (n := 0) (k := 70) (v := .int 0) dX11_hints_22 rfl (by decide) (by decide) fX11_542 rfl ?_
  refine q_iret dX11_hints_25 rfl ?_
  exact ⟨⟨_, _, rfl⟩, _, rfl, (by show (0 : Int) = _; first | rfl | omega | (split <;> omega) | (split <;> split <;> omega))⟩
theorem dX11_hint_0 : decode cX11_hint 0 = .ok (.aload_n 0, 1) := by decide +kernel
theorem dX11_hint_1 : decode cX11_hint 1 = .ok (.getfield 20, 3) := by decide +kernel
theorem dX11_hint_4 : decode cX11_hint 4 = .ok (.aload_n 0, 1) := by decide +kernel
theorem dX11_hint_5 : decode cX11_hint 5 = .ok (.getfield 321, 3) := by decide +kernel
theorem dX11_hint_8 : decode cX11_hint 8 = .ok (.iaload, 1) := by decide +kernel
theorem dX11_hint_9 : decode cX11_hint 9 = .ok (.bipush 24, 2) := by decide +kernel
theorem dX11_hint_11 : decode cX11_hint 11 = .ok (.if_icmp .gt 7, 3) := by decide +kernel
theorem dX11_hint_14 : decode cX11_hint 14 = .ok (.iload_n 1, 1) := by decide +kernel
theorem dX11_hint_15 : decode cX11_hint 15 = .ok (.ifCond .ge 5, 3) := by decide +kernel
theorem dX11_hint_18 : decode cX11_hint 18 = .ok (.iconst (-1), 1) := by decide +kernel
theorem dX11_hint_19 : decode cX11_hint 19 = .ok (.ireturn, 1) := by decide +kernel
theorem dX11_hint_20 : decode cX11_hint 20 = .ok (.aload_n 0, 1) := by decide +kernel
theorem dX11_hint_21 : decode cX11_hint 21 = .ok (.invokevirtual 557, 3) := by decide +kernel
theorem dX11_hint_24 : decode cX11_hint 24 = .ok (.iload_n 1, 1) := by decide +kernel
theorem dX11_hint_25 : decode cX11_hint 25 = .ok (.aload_n 0, 1) := by decide +kernel
theorem dX11_hint_26 : decode cX11_hint 26 = .ok (.getfield 542, 3) := by decide +kernel
theorem dX11_hint_29 : decode cX11_hint 29 = .ok (.if_icmp .lt 5, 3) := by decide +kernel
theorem dX11_hint_32 : decode cX11_hint 32 = .ok (.iconst (-1), 1) := by decide +kernel
theorem dX11_hint_33 : decode cX11_hint 33 = .ok (.ireturn, 1) := by decide +kernel
theorem dX11_hint_34 : decode cX11_hint 34 = .ok (.iload_n 2, 1) := by decide +kernel
theorem dX11_hint_35 : decode cX11_hint 35 = .ok (.ifCond .ne 12, 3) := by decide +kernel
theorem dX11_hint_38 : decode cX11_hint 38 = .ok (.aload_n 0, 1) := by decide +kernel
theorem dX11_hint_39 : decode cX11_hint 39 = .ok (.getfield 152, 3) := by decide +kernel
theorem dX11_hint_42 : decode cX11_hint 42 = .ok (.iload_n 1, 1) := by decide +kernel
theorem dX11_hint_43 : decode cX11_hint 43 = .ok (.iaload, 1) := by decide +kernel
theorem dX11_hint_44 : decode cX11_hint 44 = .ok (.goto 32, 3) := by decide +kernel
theorem dX11_hint_47 : decode cX11_hint 47 = .ok (.iload_n 2, 1) := by decide +kernel
theorem dX11_hint_48 : decode cX11_hint 48 = .ok (.iconst 1, 1) := by decide +kernel
theorem dX11_hint_49 : decode cX11_hint 49 = .ok (.if_icmp .ne 12, 3) := by decide +kernel
theorem dX11_hint_52 : decode cX11_hint 52 = .ok (.aload_n 0, 1) := by decide +kernel
theorem dX11_hint_53 : decode cX11_hint 53 = .ok (.getfield 155, 3) := by decide +kernel
theorem dX11_hint_56 : decode cX11_hint 56 = .ok (.iload_n 1, 1) := by decide +kernel
theorem dX11_hint_57 : decode cX11_hint 57 = .ok (.iaload, 1) := by decide +kernel
theorem dX11_hint_58 : decode cX11_hint 58 = .ok (.goto 18, 3) := by decide +kernel
theorem dX11_hint_61 : decode cX11_hint 61 = .ok (.iload_n 2, 1) := by decide +kernel
theorem dX11_hint_62 : decode cX11_hint 62 = .ok (.iconst 2, 1) := by decide +kernel
theorem dX11_hint_63 : decode cX11_hint 63 = .ok (.if_icmp .ne 12, 3) := by decide +kernel
theorem dX11_hint_66 : decode cX11_hint 66 = .ok (.aload_n 0, 1) := by decide +kernel
theorem dX11_hint_67 : decode cX11_hint 67 = .ok (.getfield 158, 3) := by decide +kernel
theorem dX11_hint_70 : decode cX11_hint 70 = .ok (.iload_n 1, 1) := by decide +kernel
theorem dX11_hint_71 : decode cX11_hint 71 = .ok (.iaload, 1) := by decide +kernel
theorem dX11_hint_72 : decode cX11_hint 72 = .ok (.goto 4, 3) := by decide +kernel
theorem dX11_hint_75 : decode cX11_hint 75 = .ok (.iconst (-1), 1) := by decide +kernel
theorem dX11_hint_76 : decode cX11_hint 76 = .ok (.ireturn, 1) := by decide +kernel
set_option maxRecDepth 20000 in
theorem frM_hint (a : Int32) (b : Int32) : q_met mX11_hint (q_sM zI6 zJ1) [.ref 139, .int a, .int b] (fun s r => (∃ I J, s = q_sM I J) ∧ ∃ v, r = some (.int v) ∧ v.toInt = (-1 : Int)) := by
  refine q_enter (by decide) (Nat.le_of_ble_eq_true rfl) ?_
  refine q_aload_n dX11_hint_0 rfl ?_
  refine q_getR (c := 11) (n := 0) (k := 11) (a := 142) dX11_hint_1 rfl (by decide) (by decide) fX11_20 rfl rfl ?_
  refine q_aload_n dX11_hint_4 rfl ?_
  refine q_getf (c := 11) (n := 0) (k := 28) (v := .int 0) dX11_hint_5 rfl (by decide) (by decide) fX11_321 rfl ?_
  refine q_iald (n := 6) (j := 0) dX11_hint_8 rfl rfl (by decide) ?_
  refine q_topI (v := 0) rfl ?_
  refine q_bi (v := 24) dX11_hint_9 rfl ?_
  refine q_cz_gt (tgt := 18) (a := 0) (b := 24) dX11_hint_11 (by decide) rfl rfl (fun h => absurd h (by decide)) (fun _ => ?_)
  refine q_iload_n dX11_hint_14 rfl ?_
  refine q_iz_ge (tgt := 20) (a := a.toInt) dX11_hint_15 (by decide) rfl (fun h15_0 => ?_) (fun h15_0 => ?_)
  · refine q_aload_n dX11_hint_20 rfl ?_
    refine q_V0 (ci := 11) (n := 0) dX11_hint_21 DX11_findHints lX11_557 rfl (by decide) rfl rfl rfl rfl uM_X11_findHints_68 ?_
    rintro _ _ ⟨rfl, rfl⟩
    refine q_iload_n dX11_hint_24 rfl ?_
    refine q_aload_n dX11_hint_25 rfl ?_
    refine q_getf (c := 11) (n := 0) (k := 70) (v := .int 0) dX11_hint_26 rfl (by decide) (by decide) fX11_542 rfl ?_
    refine q_cz_lt (tgt := 34) (a := a.toInt) (b := 0) dX11_hint_29 (by decide) rfl rfl (fun h29_1 => ?_) (fun h29_1 => ?_)
    · exfalso; omega
    · refine q_ic (v := (-1)) dX11_hint_32 rfl ?_
      refine q_iret dX11_hint_33 rfl ?_
      exact ⟨⟨_, _, rfl⟩, _, rfl, (by show ((-1) : Int) = _; first | rfl | omega | (split <;> omega) | (split <;> split <;> omega))⟩
  · refine q_ic (v := (-1)) dX11_hint_18 rfl ?_
    refine q_iret dX11_hint_19 rfl ?_
    exact ⟨⟨_, _, rfl⟩, _, rfl, (by show ((-1) : Int) = _; first | rfl | omega | (split <;> omega) | (split <;> split <;> omega))⟩
theorem dX11_apply_0 : decode cX11_apply 0 = .ok (.aload_n 0, 1) := by decide +kernel
theorem dX11_apply_1 : decode cX11_apply 1 = .ok (.getfield 20, 3) := by decide +kernel
theorem dX11_apply_4 : decode cX11_apply 4 = .ok (.aload_n 0, 1) := by decide +kernel
theorem dX11_apply_5 : decode cX11_apply 5 = .ok (.getfield 321, 3) := by decide +kernel
theorem dX11_apply_8 : decode cX11_apply 8 = .ok (.iaload, 1) := by decide +kernel
theorem dX11_apply_9 : decode cX11_apply 9 = .ok (.bipush 24, 2) := by decide +kernel
theorem dX11_apply_11 : decode cX11_apply 11 = .ok (.if_icmp .gt 7, 3) := by decide +kernel
theorem dX11_apply_14 : decode cX11_apply 14 = .ok (.iload_n 1, 1) := by decide +kernel
theorem dX11_apply_15 : decode cX11_apply 15 = .ok (.ifCond .ge 5, 3) := by decide +kernel
theorem dX11_apply_18 : decode cX11_apply 18 = .ok (.iconst (-1), 1) := by decide +kernel
theorem dX11_apply_19 : decode cX11_apply 19 = .ok (.ireturn, 1) := by decide +kernel
theorem dX11_apply_20 : decode cX11_apply 20 = .ok (.aload_n 0, 1) := by decide +kernel
theorem dX11_apply_21 : decode cX11_apply 21 = .ok (.invokevirtual 557, 3) := by decide +kernel
theorem dX11_apply_24 : decode cX11_apply 24 = .ok (.iload_n 1, 1) := by decide +kernel
theorem dX11_apply_25 : decode cX11_apply 25 = .ok (.aload_n 0, 1) := by decide +kernel
theorem dX11_apply_26 : decode cX11_apply 26 = .ok (.getfield 542, 3) := by decide +kernel
theorem dX11_apply_29 : decode cX11_apply 29 = .ok (.if_icmp .lt 5, 3) := by decide +kernel
theorem dX11_apply_32 : decode cX11_apply 32 = .ok (.iconst (-1), 1) := by decide +kernel
theorem dX11_apply_33 : decode cX11_apply 33 = .ok (.ireturn, 1) := by decide +kernel
theorem dX11_apply_34 : decode cX11_apply 34 = .ok (.aload_n 0, 1) := by decide +kernel
theorem dX11_apply_35 : decode cX11_apply 35 = .ok (.getfield 155, 3) := by decide +kernel
theorem dX11_apply_38 : decode cX11_apply 38 = .ok (.iload_n 1, 1) := by decide +kernel
theorem dX11_apply_39 : decode cX11_apply 39 = .ok (.iaload, 1) := by decide +kernel
theorem dX11_apply_40 : decode cX11_apply 40 = .ok (.iconst 1, 1) := by decide +kernel
theorem dX11_apply_41 : decode cX11_apply 41 = .ok (.if_icmp .ne 13, 3) := by decide +kernel
theorem dX11_apply_44 : decode cX11_apply 44 = .ok (.aload_n 0, 1) := by decide +kernel
theorem dX11_apply_45 : decode cX11_apply 45 = .ok (.aload_n 0, 1) := by decide +kernel
theorem dX11_apply_46 : decode cX11_apply 46 = .ok (.getfield 152, 3) := by decide +kernel
theorem dX11_apply_49 : decode cX11_apply 49 = .ok (.iload_n 1, 1) := by decide +kernel
theorem dX11_apply_50 : decode cX11_apply 50 = .ok (.iaload, 1) := by decide +kernel
theorem dX11_apply_51 : decode cX11_apply 51 = .ok (.invokevirtual 554, 3) := by decide +kernel
theorem dX11_apply_54 : decode cX11_apply 54 = .ok (.aload_n 0, 1) := by decide +kernel
theorem dX11_apply_55 : decode cX11_apply 55 = .ok (.aload_n 0, 1) := by decide +kernel
theorem dX11_apply_56 : decode cX11_apply 56 = .ok (.getfield 152, 3) := by decide +kernel
theorem dX11_apply_59 : decode cX11_apply 59 = .ok (.iload_n 1, 1) := by decide +kernel
theorem dX11_apply_60 : decode cX11_apply 60 = .ok (.iaload, 1) := by decide +kernel
theorem dX11_apply_61 : decode cX11_apply 61 = .ok (.aload_n 0, 1) := by decide +kernel
theorem dX11_apply_62 : decode cX11_apply 62 = .ok (.getfield 155, 3) := by decide +kernel
theorem dX11_apply_65 : decode cX11_apply 65 = .ok (.iload_n 1, 1) := by decide +kernel
theorem dX11_apply_66 : decode cX11_apply 66 = .ok (.iaload, 1) := by decide +kernel
theorem dX11_apply_67 : decode cX11_apply 67 = .ok (.aload_n 0, 1) := by decide +kernel
theorem dX11_apply_68 : decode cX11_apply 68 = .ok (.getfield 158, 3) := by decide +kernel
theorem dX11_apply_71 : decode cX11_apply 71 = .ok (.iload_n 1, 1) := by decide +kernel
theorem dX11_apply_72 : decode cX11_apply 72 = .ok (.iaload, 1) := by decide +kernel
theorem dX11_apply_73 : decode cX11_apply 73 = .ok (.invokevirtual 545, 3) := by decide +kernel
theorem dX11_apply_76 : decode cX11_apply 76 = .ok (.pop, 1) := by decide +kernel
theorem dX11_apply_77 : decode cX11_apply 77 = .ok (.aload_n 0, 1) := by decide +kernel
theorem dX11_apply_78 : decode cX11_apply 78 = .ok (.iconst 1, 1) := by decide +kernel
theorem dX11_apply_79 : decode cX11_apply 79 = .ok (.aload_n 0, 1) := by decide +kernel
theorem dX11_apply_80 : decode cX11_apply 80 = .ok (.getfield 321, 3) := by decide +kernel
theorem dX11_apply_83 : decode cX11_apply 83 = .ok (.isub, 1) := by decide +kernel
theorem dX11_apply_84 : decode cX11_apply 84 = .ok (.putfield 321, 3) := by decide +kernel
theorem dX11_apply_87 : decode cX11_apply 87 = .ok (.aload_n 0, 1) := by decide +kernel
theorem dX11_apply_88 : decode cX11_apply 88 = .ok (.iconst 2, 1) := by decide +kernel
theorem dX11_apply_89 : decode cX11_apply 89 = .ok (.aload_n 0, 1) := by decide +kernel
theorem dX11_apply_90 : decode cX11_apply 90 = .ok (.getfield 321, 3) := by decide +kernel
theorem dX11_apply_93 : decode cX11_apply 93 = .ok (.invokevirtual 566, 3) := by decide +kernel
theorem dX11_apply_96 : decode cX11_apply 96 = .ok (.aload_n 0, 1) := by decide +kernel
theorem dX11_apply_97 : decode cX11_apply 97 = .ok (.invokevirtual 216, 3) := by decide +kernel
theorem dX11_apply_100 : decode cX11_apply 100 = .ok (.aload_n 0, 1) := by decide +kernel
theorem dX11_apply_101 : decode cX11_apply 101 = .ok (.getfield 20, 3) := by decide +kernel
theorem dX11_apply_104 : decode cX11_apply 104 = .ok (.aload_n 0, 1) := by decide +kernel
theorem dX11_apply_105 : decode cX11_apply 105 = .ok (.getfield 321, 3) := by decide +kernel
theorem dX11_apply_108 : decode cX11_apply 108 = .ok (.iaload, 1) := by decide +kernel
theorem dX11_apply_109 : decode cX11_apply 109 = .ok (.ireturn, 1) := by decide +kernel
set_option maxRecDepth 20000 in
theorem frM_apply (a : Int32) : q_met mX11_apply (q_sM zI6 zJ1) [.ref 139, .int a] (fun s r => (∃ I J, s = q_sM I J) ∧ ∃ v, r = some (.int v) ∧ v.toInt = (-1 : Int)) := by
  refine q_enter (by decide) (Nat.le_of_ble_eq_true rfl) ?_
  refine q_aload_n dX11_apply_0 rfl ?_
  refine q_getR (c := 11) (n := 0) (k := 11) (a := 142) dX11_apply_1 rfl (by decide) (by decide) fX11_20 rfl rfl ?_
  refine q_aload_n dX11_apply_4 rfl ?_
  refine q_getf (c := 11) (n := 0) (k := 28) (v := .int 0) dX11_apply_5 rfl (by decide) (by decide) fX11_321 rfl ?_
  refine q_iald (n := 6) (j := 0) dX11_apply_8 rfl rfl (by decide) ?_
  refine q_topI (v := 0) rfl ?_
  refine q_bi (v := 24) dX11_apply_9 rfl ?_
  refine q_cz_gt (tgt := 18) (a := 0) (b := 24) dX11_apply_11 (by decide) rfl rfl (fun h => absurd h (by decide)) (fun _ => ?_)
  refine q_iload_n dX11_apply_14 rfl ?_
  refine q_iz_ge (tgt := 20) (a := a.toInt) dX11_apply_15 (by decide) rfl (fun h15_0 => ?_) (fun h15_0 => ?_)
  · refine q_aload_n dX11_apply_20 rfl ?_
    refine q_V0 (ci := 11) (n := 0) dX11_apply_21 DX11_findHints lX11_557 rfl (by decide) rfl rfl rfl rfl uM_X11_findHints_68 ?_
    rintro _ _ ⟨rfl, rfl⟩
    refine q_iload_n dX11_apply_24 rfl ?_
    refine q_aload_n dX11_apply_25 rfl ?_
    refine q_getf (c := 11) (n := 0) (k := 70) (v := .int 0) dX11_apply_26 rfl (by decide) (by decide) fX11_542 rfl ?_
    refine q_cz_lt (tgt := 34) (a := a.toInt) (b := 0) dX11_apply_29 (by decide) rfl rfl (fun h29_1 => ?_) (fun h29_1 => ?_)
    · exfalso; omega
    · refine q_ic (v := (-1)) dX11_apply_32 rfl ?_
      refine q_iret dX11_apply_33 rfl ?_
      exact ⟨⟨_, _, rfl⟩, _, rfl, (by show ((-1) : Int) = _; first | rfl | omega | (split <;> omega) | (split <;> split <;> omega))⟩
  · refine q_ic (v := (-1)) dX11_apply_18 rfl ?_
    refine q_iret dX11_apply_19 rfl ?_
    exact ⟨⟨_, _, rfl⟩, _, rfl, (by show ((-1) : Int) = _; first | rfl | omega | (split <;> omega) | (split <;> split <;> omega))⟩
theorem dX11_run_0 : decode cX11_run 0 = .ok (.aload_n 0, 1) := by decide +kernel
theorem dX11_run_1 : decode cX11_run 1 = .ok (.getfield 24, 3) := by decide +kernel
theorem dX11_run_4 : decode cX11_run 4 = .ok (.aload_n 0, 1) := by decide +kernel
theorem dX11_run_5 : decode cX11_run 5 = .ok (.getfield 321, 3) := by decide +kernel
theorem dX11_run_8 : decode cX11_run 8 = .ok (.iaload, 1) := by decide +kernel
theorem dX11_run_9 : decode cX11_run 9 = .ok (.ifCond .eq 12, 3) := by decide +kernel
theorem dX11_run_12 : decode cX11_run 12 = .ok (.iload_n 1, 1) := by decide +kernel
theorem dX11_run_13 : decode cX11_run 13 = .ok (.iconst 0, 1) := by decide +kernel
theorem dX11_run_14 : decode cX11_run 14 = .ok (.iconst 1, 1) := by decide +kernel
theorem dX11_run_15 : decode cX11_run 15 = .ok (.invokestatic 379, 3) := by decide +kernel
theorem dX11_run_18 : decode cX11_run 18 = .ok (.ifCond .ne 5, 3) := by decide +kernel
theorem dX11_run_21 : decode cX11_run 21 = .ok (.iconst (-1), 1) := by decide +kernel
theorem dX11_run_22 : decode cX11_run 22 = .ok (.ireturn, 1) := by decide +kernel
theorem dX11_run_23 : decode cX11_run 23 = .ok (.aload_n 0, 1) := by decide +kernel
theorem dX11_run_24 : decode cX11_run 24 = .ok (.invokevirtual 615, 3) := by decide +kernel
theorem dX11_run_27 : decode cX11_run 27 = .ok (.aload_n 0, 1) := by decide +kernel
theorem dX11_run_28 : decode cX11_run 28 = .ok (.getfield 578, 3) := by decide +kernel
theorem dX11_run_31 : decode cX11_run 31 = .ok (.ifCond .eq 16, 3) := by decide +kernel
theorem dX11_run_34 : decode cX11_run 34 = .ok (.iload_n 1, 1) := by decide +kernel
theorem dX11_run_35 : decode cX11_run 35 = .ok (.ifCond .ne 10, 3) := by decide +kernel
theorem dX11_run_38 : decode cX11_run 38 = .ok (.aload_n 0, 1) := by decide +kernel
theorem dX11_run_39 : decode cX11_run 39 = .ok (.getfield 578, 3) := by decide +kernel
theorem dX11_run_42 : decode cX11_run 42 = .ok (.goto 4, 3) := by decide +kernel
theorem dX11_run_45 : decode cX11_run 45 = .ok (.iconst 0, 1) := by decide +kernel
theorem dX11_run_46 : decode cX11_run 46 = .ok (.ireturn, 1) := by decide +kernel
theorem dX11_run_47 : decode cX11_run 47 = .ok (.iload_n 1, 1) := by decide +kernel
theorem dX11_run_48 : decode cX11_run 48 = .ok (.ifCond .ne 15, 3) := by decide +kernel
theorem dX11_run_51 : decode cX11_run 51 = .ok (.aload_n 0, 1) := by decide +kernel
theorem dX11_run_52 : decode cX11_run 52 = .ok (.getfield 176, 3) := by decide +kernel
theorem dX11_run_55 : decode cX11_run 55 = .ok (.aload_n 0, 1) := by decide +kernel
theorem dX11_run_56 : decode cX11_run 56 = .ok (.getfield 603, 3) := by decide +kernel
theorem dX11_run_59 : decode cX11_run 59 = .ok (.iaload, 1) := by decide +kernel
theorem dX11_run_60 : decode cX11_run 60 = .ok (.goto 29, 3) := by decide +kernel
theorem dX11_run_63 : decode cX11_run 63 = .ok (.aload_n 0, 1) := by decide +kernel
theorem dX11_run_64 : decode cX11_run 64 = .ok (.getfield 176, 3) := by decide +kernel
theorem dX11_run_67 : decode cX11_run 67 = .ok (.aload_n 0, 1) := by decide +kernel
theorem dX11_run_68 : decode cX11_run 68 = .ok (.getfield 603, 3) := by decide +kernel
theorem dX11_run_71 : decode cX11_run 71 = .ok (.iaload, 1) := by decide +kernel
theorem dX11_run_72 : decode cX11_run 72 = .ok (.iconst 3, 1) := by decide +kernel
theorem dX11_run_73 : decode cX11_run 73 = .ok (.if_icmp .ge 15, 3) := by decide +kernel
theorem dX11_run_76 : decode cX11_run 76 = .ok (.aload_n 0, 1) := by decide +kernel
theorem dX11_run_77 : decode cX11_run 77 = .ok (.getfield 179, 3) := by decide +kernel
theorem dX11_run_80 : decode cX11_run 80 = .ok (.aload_n 0, 1) := by decide +kernel
theorem dX11_run_81 : decode cX11_run 81 = .ok (.getfield 603, 3) := by decide +kernel
theorem dX11_run_84 : decode cX11_run 84 = .ok (.iaload, 1) := by decide +kernel
theorem dX11_run_85 : decode cX11_run 85 = .ok (.goto 4, 3) := by decide +kernel
theorem dX11_run_88 : decode cX11_run 88 = .ok (.iconst 0, 1) := by decide +kernel
theorem dX11_run_89 : decode cX11_run 89 = .ok (.ireturn, 1) := by decide +kernel
set_option maxRecDepth 20000 in
theorem frM_run (a : Int32) : q_met mX11_run (q_sM zI6 zJ1) [.ref 139, .int a] (fun s r => (∃ I J, s = q_sM I J) ∧ ∃ v, r = some (.int v) ∧ v.toInt = (-1 : Int)) := by
  refine q_enter (by decide) (Nat.le_of_ble_eq_true rfl) ?_
  refine q_aload_n dX11_run_0 rfl ?_
  refine q_getR (c := 11) (n := 0) (k := 12) (a := 143) dX11_run_1 rfl (by decide) (by decide) fX11_24 rfl rfl ?_
  refine q_aload_n dX11_run_4 rfl ?_
  refine q_getf (c := 11) (n := 0) (k := 28) (v := .int 0) dX11_run_5 rfl (by decide) (by decide) fX11_321 rfl ?_
  refine q_iald (n := 6) (j := 0) dX11_run_8 rfl rfl (by decide) ?_
  refine q_topI (v := 0) rfl ?_
  refine q_iz_eq (tgt := 21) (a := 0) dX11_run_9 (by decide) rfl (fun _ => ?_) (fun h => absurd h (by decide))
  refine q_ic (v := (-1)) dX11_run_21 rfl ?_
  refine q_iret dX11_run_22 rfl ?_
  exact ⟨⟨_, _, rfl⟩, _, rfl, (by show ((-1) : Int) = _; first | rfl | omega | (split <;> omega) | (split <;> split <;> omega))⟩
theorem dX11_right_0 : decode cX11_right 0 = .ok (.aload_n 0, 1) := by decide +kernel
theorem dX11_right_1 : decode cX11_right 1 = .ok (.iload_n 1, 1) := by decide +kernel
theorem dX11_right_2 : decode cX11_right 2 = .ok (.invokevirtual 383, 3) := by decide +kernel
theorem dX11_right_5 : decode cX11_right 5 = .ok (.ifCond .eq 12, 3) := by decide +kernel
theorem dX11_right_8 : decode cX11_right 8 = .ok (.aload_n 0, 1) := by decide +kernel
theorem dX11_right_9 : decode cX11_right 9 = .ok (.getfield 560, 3) := by decide +kernel
theorem dX11_right_12 : decode cX11_right 12 = .ok (.bipush 30, 2) := by decide +kernel
theorem dX11_right_14 : decode cX11_right 14 = .ok (.if_icmp .ne 5, 3) := by decide +kernel
theorem dX11_right_17 : decode cX11_right 17 = .ok (.iconst (-1), 1) := by decide +kernel
theorem dX11_right_18 : decode cX11_right 18 = .ok (.ireturn, 1) := by decide +kernel
theorem dX11_right_19 : decode cX11_right 19 = .ok (.aload_n 0, 1) := by decide +kernel
theorem dX11_right_20 : decode cX11_right 20 = .ok (.getfield 197, 3) := by decide +kernel
theorem dX11_right_23 : decode cX11_right 23 = .ok (.aload_n 0, 1) := by decide +kernel
theorem dX11_right_24 : decode cX11_right 24 = .ok (.getfield 560, 3) := by decide +kernel
theorem dX11_right_27 : decode cX11_right 27 = .ok (.iload_n 1, 1) := by decide +kernel
theorem dX11_right_28 : decode cX11_right 28 = .ok (.iastore, 1) := by decide +kernel
theorem dX11_right_29 : decode cX11_right 29 = .ok (.aload_n 0, 1) := by decide +kernel
theorem dX11_right_30 : decode cX11_right 30 = .ok (.getfield 200, 3) := by decide +kernel
theorem dX11_right_33 : decode cX11_right 33 = .ok (.aload_n 0, 1) := by decide +kernel
theorem dX11_right_34 : decode cX11_right 34 = .ok (.getfield 560, 3) := by decide +kernel
theorem dX11_right_37 : decode cX11_right 37 = .ok (.aload_n 0, 1) := by decide +kernel
theorem dX11_right_38 : decode cX11_right 38 = .ok (.getfield 618, 3) := by decide +kernel
theorem dX11_right_41 : decode cX11_right 41 = .ok (.iastore, 1) := by decide +kernel
theorem dX11_right_42 : decode cX11_right 42 = .ok (.aload_n 0, 1) := by decide +kernel
theorem dX11_right_43 : decode cX11_right 43 = .ok (.getfield 203, 3) := by decide +kernel
theorem dX11_right_46 : decode cX11_right 46 = .ok (.aload_n 0, 1) := by decide +kernel
theorem dX11_right_47 : decode cX11_right 47 = .ok (.getfield 560, 3) := by decide +kernel
theorem dX11_right_50 : decode cX11_right 50 = .ok (.iconst (-1), 1) := by decide +kernel
theorem dX11_right_51 : decode cX11_right 51 = .ok (.iastore, 1) := by decide +kernel
theorem dX11_right_52 : decode cX11_right 52 = .ok (.aload_n 0, 1) := by decide +kernel
theorem dX11_right_53 : decode cX11_right 53 = .ok (.dup, 1) := by decide +kernel
theorem dX11_right_54 : decode cX11_right 54 = .ok (.getfield 560, 3) := by decide +kernel
theorem dX11_right_57 : decode cX11_right 57 = .ok (.iconst 1, 1) := by decide +kernel
theorem dX11_right_58 : decode cX11_right 58 = .ok (.iadd, 1) := by decide +kernel
theorem dX11_right_59 : decode cX11_right 59 = .ok (.putfield 560, 3) := by decide +kernel
theorem dX11_right_62 : decode cX11_right 62 = .ok (.aload_n 0, 1) := by decide +kernel
theorem dX11_right_63 : decode cX11_right 63 = .ok (.getfield 560, 3) := by decide +kernel
theorem dX11_right_66 : decode cX11_right 66 = .ok (.iconst 1, 1) := by decide +kernel
theorem dX11_right_67 : decode cX11_right 67 = .ok (.isub, 1) := by decide +kernel
theorem dX11_right_68 : decode cX11_right 68 = .ok (.ireturn, 1) := by decide +kernel
set_option maxRecDepth 20000 in
theorem frM_right (a : Int32) : q_met mX11_right (q_sM zI6 zJ1) [.ref 139, .int a] (fun s r => (∃ I J, s = q_sM I J) ∧ ∃ v, r = some (.int v) ∧ v.toInt = (-1 : Int)) := by
  refine q_enter (by decide) (Nat.le_of_ble_eq_true rfl) ?_
  refine q_aload_n dX11_right_0 rfl ?_
  refine q_iload_n dX11_right_1 rfl ?_
  refine q_V1 (ci := 11) (n := 0) dX11_right_2 DX11_isPlace lX11_383 rfl (by decide) rfl rfl rfl rfl (uM_X11_isPlace_11 a) ?_
  rintro _ _ ⟨rfl, rfl⟩
  refine q_iz_eq (tgt := 17) (a := 0) dX11_right_5 (by decide) rfl (fun _ => ?_) (fun h => absurd h (by decide))
  refine q_ic (v := (-1)) dX11_right_17 rfl ?_
  refine q_iret dX11_right_18 rfl ?_
  exact ⟨⟨_, _, rfl⟩, _, rfl, (by show ((-1) : Int) = _; first | rfl | omega | (split <;> omega) | (split <;> split <;> omega))⟩
theorem dX11_untell_0 : decode cX11_untell 0 = .ok (.iload_n 1, 1) := by decide +kernel
theorem dX11_untell_1 : decode cX11_untell 1 = .ok (.iconst 0, 1) := by decide +kernel
theorem dX11_untell_2 : decode cX11_untell 2 = .ok (.aload_n 0, 1) := by decide +kernel
theorem dX11_untell_3 : decode cX11_untell 3 = .ok (.getfield 560, 3) := by decide +kernel
theorem dX11_untell_6 : decode cX11_untell 6 = .ok (.iconst 1, 1) := by decide +kernel
theorem dX11_untell_7 : decode cX11_untell 7 = .ok (.isub, 1) := by decide +kernel
theorem dX11_untell_8 : decode cX11_untell 8 = .ok (.invokestatic 379, 3) := by decide +kernel
theorem dX11_untell_11 : decode cX11_untell 11 = .ok (.ifCond .eq 12, 3) := by decide +kernel
theorem dX11_untell_14 : decode cX11_untell 14 = .ok (.aload_n 0, 1) := by decide +kernel
theorem dX11_untell_15 : decode cX11_untell 15 = .ok (.getfield 203, 3) := by decide +kernel
theorem dX11_untell_18 : decode cX11_untell 18 = .ok (.iload_n 1, 1) := by decide +kernel
theorem dX11_untell_19 : decode cX11_untell 19 = .ok (.iaload, 1) := by decide +kernel
theorem dX11_untell_20 : decode cX11_untell 20 = .ok (.ifCond .lt 5, 3) := by decide +kernel
theorem dX11_untell_23 : decode cX11_untell 23 = .ok (.iconst 0, 1) := by decide +kernel
theorem dX11_untell_24 : decode cX11_untell 24 = .ok (.ireturn, 1) := by decide +kernel
theorem dX11_untell_25 : decode cX11_untell 25 = .ok (.aload_n 0, 1) := by decide +kernel
theorem dX11_untell_26 : decode cX11_untell 26 = .ok (.getfield 203, 3) := by decide +kernel
theorem dX11_untell_29 : decode cX11_untell 29 = .ok (.iload_n 1, 1) := by decide +kernel
theorem dX11_untell_30 : decode cX11_untell 30 = .ok (.aload_n 0, 1) := by decide +kernel
theorem dX11_untell_31 : decode cX11_untell 31 = .ok (.getfield 618, 3) := by decide +kernel
theorem dX11_untell_34 : decode cX11_untell 34 = .ok (.iastore, 1) := by decide +kernel
theorem dX11_untell_35 : decode cX11_untell 35 = .ok (.iconst 1, 1) := by decide +kernel
theorem dX11_untell_36 : decode cX11_untell 36 = .ok (.ireturn, 1) := by decide +kernel
set_option maxRecDepth 20000 in
theorem frM_untell (a : Int32) : q_met mX11_untell (q_sM zI6 zJ1) [.ref 139, .int a] (fun s r => (∃ I J, s = q_sM I J) ∧ ∃ v, r = some (.int v) ∧ v.toInt = (0 : Int)) := by
  refine q_enter (by decide) (Nat.le_of_ble_eq_true rfl) ?_
  refine q_iload_n dX11_untell_0 rfl ?_
  refine q_ic (v := 0) dX11_untell_1 rfl ?_
  refine q_aload_n dX11_untell_2 rfl ?_
  refine q_getf (c := 11) (n := 0) (k := 92) (v := .int 0) dX11_untell_3 rfl (by decide) (by decide) fX11_560 rfl ?_
  refine q_ic (v := 1) dX11_untell_6 rfl ?_
  refine q_isub dX11_untell_7 ?_
  refine q_topI (v := (-1)) rfl ?_
  refine q_S3 dX11_untell_8 DX11_isIn lX11_379 rfl rfl rfl (uM_X11_isIn_10 a) ?_
  rintro _ _ ⟨rfl, rfl⟩
  refine q_iz_eq (tgt := 23) (a := 0) dX11_untell_11 (by decide) rfl (fun _ => ?_) (fun h => absurd h (by decide))
  refine q_ic (v := 0) dX11_untell_23 rfl ?_
  refine q_zret dX11_untell_24 rfl (Or.inl rfl) ?_
  exact ⟨⟨_, _, rfl⟩, _, rfl, (by show (0 : Int) = _; first | rfl | omega | (split <;> omega) | (split <;> split <;> omega))⟩
theorem dX11_later_0 : decode cX11_later 0 = .ok (.iload_n 1, 1) := by decide +kernel
theorem dX11_later_1 : decode cX11_later 1 = .ok (.iconst 0, 1) := by decide +kernel
theorem dX11_later_2 : decode cX11_later 2 = .ok (.sipush 1000, 3) := by decide +kernel
theorem dX11_later_5 : decode cX11_later 5 = .ok (.invokestatic 379, 3) := by decide +kernel
theorem dX11_later_8 : decode cX11_later 8 = .ok (.ifCond .eq 15, 3) := by decide +kernel
theorem dX11_later_11 : decode cX11_later 11 = .ok (.aload_n 0, 1) := by decide +kernel
theorem dX11_later_12 : decode cX11_later 12 = .ok (.getfield 618, 3) := by decide +kernel
theorem dX11_later_15 : decode cX11_later 15 = .ok (.iload_n 1, 1) := by decide +kernel
theorem dX11_later_16 : decode cX11_later 16 = .ok (.iadd, 1) := by decide +kernel
theorem dX11_later_17 : decode cX11_later 17 = .ok (.ldc_w 621, 3) := by decide +kernel
theorem dX11_later_20 : decode cX11_later 20 = .ok (.if_icmp .le 5, 3) := by decide +kernel
theorem dX11_later_23 : decode cX11_later 23 = .ok (.iconst (-1), 1) := by decide +kernel
theorem dX11_later_24 : decode cX11_later 24 = .ok (.ireturn, 1) := by decide +kernel
theorem dX11_later_25 : decode cX11_later 25 = .ok (.aload_n 0, 1) := by decide +kernel
theorem dX11_later_26 : decode cX11_later 26 = .ok (.dup, 1) := by decide +kernel
theorem dX11_later_27 : decode cX11_later 27 = .ok (.getfield 618, 3) := by decide +kernel
theorem dX11_later_30 : decode cX11_later 30 = .ok (.iload_n 1, 1) := by decide +kernel
theorem dX11_later_31 : decode cX11_later 31 = .ok (.iadd, 1) := by decide +kernel
theorem dX11_later_32 : decode cX11_later 32 = .ok (.putfield 618, 3) := by decide +kernel
theorem dX11_later_35 : decode cX11_later 35 = .ok (.aload_n 0, 1) := by decide +kernel
theorem dX11_later_36 : decode cX11_later 36 = .ok (.getfield 618, 3) := by decide +kernel
theorem dX11_later_39 : decode cX11_later 39 = .ok (.ireturn, 1) := by decide +kernel
set_option maxRecDepth 20000 in
theorem uM_X11_isIn_75 (a : Int32) : q_met mX11_isIn (q_sM zI6 zJ1) [.int a, .int 0, .int 1000] (fun s r => s = q_sM zI6 zJ1 ∧ ∃ v, r = some (.int v) ∧ v.toInt = (if 0 ≤ a.toInt ∧ a.toInt ≤ 1000 then 1 else 0 : Int)) := by
  refine q_enter (by decide) (Nat.le_of_ble_eq_true rfl) ?_
  refine q_iload_n dX11_isIn_0 rfl ?_
  refine q_iload_n dX11_isIn_1 rfl ?_
  refine q_cz_lt (tgt := 14) (a := a.toInt) (b := 0) dX11_isIn_2 (by decide) rfl rfl (fun h2_0 => ?_) (fun h2_0 => ?_)
  · refine q_ic (v := 0) dX11_isIn_14 rfl ?_
    refine q_zret dX11_isIn_15 rfl (Or.inl rfl) ?_
    exact ⟨rfl, _, rfl, (by show (0 : Int) = _; first | rfl | omega | (split <;> omega) | (split <;> split <;> omega))⟩
  · refine q_iload_n dX11_isIn_5 rfl ?_
    refine q_iload_n dX11_isIn_6 rfl ?_
    refine q_cz_gt (tgt := 14) (a := a.toInt) (b := 1000) dX11_isIn_7 (by decide) rfl rfl (fun h7_1 => ?_) (fun h7_1 => ?_)
    · refine q_ic (v := 0) dX11_isIn_14 rfl ?_
      refine q_zret dX11_isIn_15 rfl (Or.inl rfl) ?_
      exact ⟨rfl, _, rfl, (by show (0 : Int) = _; first | rfl | omega | (split <;> omega) | (split <;> split <;> omega))⟩
    · refine q_ic (v := 1) dX11_isIn_10 rfl ?_
      refine q_goto (tgt := 15) dX11_isIn_11 (by decide) ?_
      refine q_zret dX11_isIn_15 rfl (Or.inr rfl) ?_
      exact ⟨rfl, _, rfl, (by show (1 : Int) = _; first | rfl | omega | (split <;> omega) | (split <;> split <;> omega))⟩
set_option maxRecDepth 20000 in
theorem frM_later (a : Int32) : q_met mX11_later (q_sM zI6 zJ1) [.ref 139, .int a] (fun s r => (∃ I J, s = q_sM I J) ∧ ∃ v, r = some (.int v) ∧ v.toInt = (if 0 ≤ a.toInt ∧ a.toInt ≤ 1000 then a.toInt else -1 : Int)) := by
  refine q_enter (by decide) (Nat.le_of_ble_eq_true rfl) ?_
  refine q_iload_n dX11_later_0 rfl ?_
  refine q_ic (v := 0) dX11_later_1 rfl ?_
  refine q_si (v := 1000) dX11_later_2 rfl ?_
  refine q_S3 dX11_later_5 DX11_isIn lX11_379 rfl rfl rfl (uM_X11_isIn_75 a) ?_
  rintro _ _ ⟨rfl, v1, rfl, gv1⟩
  refine q_iz_eq (tgt := 23) (a := (if 0 ≤ a.toInt ∧ a.toInt ≤ 1000 then 1 else 0 : Int)) dX11_later_8 (by decide) gv1 (fun h8_1 => ?_) (fun h8_1 => ?_)
  · refine q_ic (v := (-1)) dX11_later_23 rfl ?_
    refine q_iret dX11_later_24 rfl ?_
    exact ⟨⟨_, _, rfl⟩, _, rfl, (by show ((-1) : Int) = _; first | rfl | omega | (split <;> omega) | (split <;> split <;> omega))⟩
  · refine q_aload_n dX11_later_11 rfl ?_
    refine q_getf (c := 11) (n := 0) (k := 93) (v := .int 0) dX11_later_12 rfl (by decide) (by decide) fX11_618 rfl ?_
    refine q_iload_n dX11_later_15 rfl ?_
    refine q_iadd dX11_later_16 ?_
    refine q_ldcw (v := 100000) dX11_later_17 nX11_621 ?_
    refine q_cz_le (tgt := 25) (a := (0 + a.toInt)) (b := 100000) dX11_later_20 (by decide) (q_addz (a := 0) (b := a.toInt) rfl rfl (by omega)) rfl (fun h20_2 => ?_) (fun h20_2 => ?_)
    · refine q_aload_n dX11_later_25 rfl ?_
      refine q_dup dX11_later_26 rfl ?_
      refine q_getf (c := 11) (n := 0) (k := 93) (v := .int 0) dX11_later_27 rfl (by decide) (by decide) fX11_618 rfl ?_
      refine q_iload_n dX11_later_30 rfl ?_
      refine q_iadd dX11_later_31 ?_
      refine q_putI (c := 11) (n := 0) (k := 93) dX11_later_32 rfl (by decide) (by decide) fX11_618 rfl rfl ?_
      show q_K _ (q_sM (q_up zI6 139 93 (0 + a)) zJ1) _ _ _ _ _ _
      refine q_aload_n dX11_later_35 rfl ?_
      refine q_getf (c := 11) (n := 0) (k := 93) (v := .int (0 + a)) dX11_later_36 rfl (by decide) (by decide) fX11_618 rfl ?_
      refine q_iret dX11_later_39 rfl ?_
      exact ⟨⟨_, _, rfl⟩, _, rfl, (((q_addz (a := 0) (b := a.toInt) rfl rfl (by omega))).trans (by first | rfl | omega | (split <;> omega) | (split <;> split <;> omega)))⟩
    · refine q_ic (v := (-1)) dX11_later_23 rfl ?_
      refine q_iret dX11_later_24 rfl ?_
      exact ⟨⟨_, _, rfl⟩, _, rfl, (by show ((-1) : Int) = _; first | rfl | omega | (split <;> omega) | (split <;> split <;> omega))⟩
theorem dX11_left_0 : decode cX11_left 0 = .ok (.aload_n 0, 1) := by decide +kernel
theorem dX11_left_1 : decode cX11_left 1 = .ok (.iload_n 1, 1) := by decide +kernel
theorem dX11_left_2 : decode cX11_left 2 = .ok (.invokevirtual 628, 3) := by decide +kernel
theorem dX11_left_5 : decode cX11_left 5 = .ok (.ifCond .eq 10, 3) := by decide +kernel
theorem dX11_left_8 : decode cX11_left 8 = .ok (.aload_n 0, 1) := by decide +kernel
theorem dX11_left_9 : decode cX11_left 9 = .ok (.getfield 622, 3) := by decide +kernel
theorem dX11_left_12 : decode cX11_left 12 = .ok (.goto 5, 3) := by decide +kernel
theorem dX11_left_15 : decode cX11_left 15 = .ok (.bipush (-2), 2) := by decide +kernel
theorem dX11_left_17 : decode cX11_left 17 = .ok (.ireturn, 1) := by decide +kernel
theorem dX11_layLeft_0 : decode cX11_layLeft 0 = .ok (.aload_n 0, 1) := by decide +kernel
theorem dX11_layLeft_1 : decode cX11_layLeft 1 = .ok (.invokevirtual 485, 3) := by decide +kernel
theorem dX11_layLeft_4 : decode cX11_layLeft 4 = .ok (.ifCond .ne 5, 3) := by decide +kernel
theorem dX11_layLeft_7 : decode cX11_layLeft 7 = .ok (.iconst 0, 1) := by decide +kernel
theorem dX11_layLeft_8 : decode cX11_layLeft 8 = .ok (.ireturn, 1) := by decide +kernel
theorem dX11_layLeft_9 : decode cX11_layLeft 9 = .ok (.iconst 0, 1) := by decide +kernel
theorem dX11_layLeft_10 : decode cX11_layLeft 10 = .ok (.istore_n 2, 1) := by decide +kernel
theorem dX11_layLeft_11 : decode cX11_layLeft 11 = .ok (.iconst 0, 1) := by decide +kernel
theorem dX11_layLeft_12 : decode cX11_layLeft 12 = .ok (.istore_n 3, 1) := by decide +kernel
theorem dX11_layLeft_13 : decode cX11_layLeft 13 = .ok (.iload_n 3, 1) := by decide +kernel
theorem dX11_layLeft_14 : decode cX11_layLeft 14 = .ok (.aload_n 0, 1) := by decide +kernel
theorem dX11_layLeft_15 : decode cX11_layLeft 15 = .ok (.getfield 560, 3) := by decide +kernel
theorem dX11_layLeft_18 : decode cX11_layLeft 18 = .ok (.if_icmp .ge 49, 3) := by decide +kernel
theorem dX11_layLeft_21 : decode cX11_layLeft 21 = .ok (.aload_n 0, 1) := by decide +kernel
theorem dX11_layLeft_22 : decode cX11_layLeft 22 = .ok (.getfield 200, 3) := by decide +kernel
theorem dX11_layLeft_25 : decode cX11_layLeft 25 = .ok (.iload_n 3, 1) := by decide +kernel
theorem dX11_layLeft_26 : decode cX11_layLeft 26 = .ok (.iaload, 1) := by decide +kernel
theorem dX11_layLeft_27 : decode cX11_layLeft 27 = .ok (.iload_n 1, 1) := by decide +kernel
theorem dX11_layLeft_28 : decode cX11_layLeft 28 = .ok (.if_icmp .gt 33, 3) := by decide +kernel
theorem dX11_layLeft_31 : decode cX11_layLeft 31 = .ok (.aload_n 0, 1) := by decide +kernel
theorem dX11_layLeft_32 : decode cX11_layLeft 32 = .ok (.getfield 203, 3) := by decide +kernel
theorem dX11_layLeft_35 : decode cX11_layLeft 35 = .ok (.iload_n 3, 1) := by decide +kernel
theorem dX11_layLeft_36 : decode cX11_layLeft 36 = .ok (.iaload, 1) := by decide +kernel
theorem dX11_layLeft_37 : decode cX11_layLeft 37 = .ok (.ifCond .lt 13, 3) := by decide +kernel
theorem dX11_layLeft_40 : decode cX11_layLeft 40 = .ok (.aload_n 0, 1) := by decide +kernel
theorem dX11_layLeft_41 : decode cX11_layLeft 41 = .ok (.getfield 203, 3) := by decide +kernel
theorem dX11_layLeft_44 : decode cX11_layLeft 44 = .ok (.iload_n 3, 1) := by decide +kernel
theorem dX11_layLeft_45 : decode cX11_layLeft 45 = .ok (.iaload, 1) := by decide +kernel
theorem dX11_layLeft_46 : decode cX11_layLeft 46 = .ok (.iload_n 1, 1) := by decide +kernel
theorem dX11_layLeft_47 : decode cX11_layLeft 47 = .ok (.if_icmp .le 14, 3) := by decide +kernel
theorem dX11_layLeft_50 : decode cX11_layLeft 50 = .ok (.iload_n 2, 1) := by decide +kernel
theorem dX11_layLeft_51 : decode cX11_layLeft 51 = .ok (.iconst 1, 1) := by decide +kernel
theorem dX11_layLeft_52 : decode cX11_layLeft 52 = .ok (.aload_n 0, 1) := by decide +kernel
theorem dX11_layLeft_53 : decode cX11_layLeft 53 = .ok (.getfield 197, 3) := by decide +kernel
theorem dX11_layLeft_56 : decode cX11_layLeft 56 = .ok (.iload_n 3, 1) := by decide +kernel
theorem dX11_layLeft_57 : decode cX11_layLeft 57 = .ok (.iaload, 1) := by decide +kernel
theorem dX11_layLeft_58 : decode cX11_layLeft 58 = .ok (.ishl, 1) := by decide +kernel
theorem dX11_layLeft_59 : decode cX11_layLeft 59 = .ok (.ior, 1) := by decide +kernel
theorem dX11_layLeft_60 : decode cX11_layLeft 60 = .ok (.istore_n 2, 1) := by decide +kernel
theorem dX11_layLeft_61 : decode cX11_layLeft 61 = .ok (.iinc 3 1, 3) := by decide +kernel
theorem dX11_layLeft_64 : decode cX11_layLeft 64 = .ok (.goto (-51), 3) := by decide +kernel
theorem dX11_layLeft_67 : decode cX11_layLeft 67 = .ok (.aload_n 0, 1) := by decide +kernel
theorem dX11_layLeft_68 : decode cX11_layLeft 68 = .ok (.iconst 0, 1) := by decide +kernel
theorem dX11_layLeft_69 : decode cX11_layLeft 69 = .ok (.putfield 622, 3) := by decide +kernel
theorem dX11_layLeft_72 : decode cX11_layLeft 72 = .ok (.aload_n 0, 1) := by decide +kernel
theorem dX11_layLeft_73 : decode cX11_layLeft 73 = .ok (.iconst 1, 1) := by decide +kernel
theorem dX11_layLeft_74 : decode cX11_layLeft 74 = .ok (.aload_n 0, 1) := by decide +kernel
theorem dX11_layLeft_75 : decode cX11_layLeft 75 = .ok (.getfield 20, 3) := by decide +kernel
theorem dX11_layLeft_78 : decode cX11_layLeft 78 = .ok (.aload_n 0, 1) := by decide +kernel
theorem dX11_layLeft_79 : decode cX11_layLeft 79 = .ok (.getfield 321, 3) := by decide +kernel
theorem dX11_layLeft_82 : decode cX11_layLeft 82 = .ok (.iaload, 1) := by decide +kernel
theorem dX11_layLeft_83 : decode cX11_layLeft 83 = .ok (.ishl, 1) := by decide +kernel
theorem dX11_layLeft_84 : decode cX11_layLeft 84 = .ok (.iconst 1, 1) := by decide +kernel
theorem dX11_layLeft_85 : decode cX11_layLeft 85 = .ok (.isub, 1) := by decide +kernel
theorem dX11_layLeft_86 : decode cX11_layLeft 86 = .ok (.putfield 625, 3) := by decide +kernel
theorem dX11_layLeft_89 : decode cX11_layLeft 89 = .ok (.iconst 0, 1) := by decide +kernel
theorem dX11_layLeft_90 : decode cX11_layLeft 90 = .ok (.istore_n 3, 1) := by decide +kernel
theorem dX11_layLeft_91 : decode cX11_layLeft 91 = .ok (.iload_n 3, 1) := by decide +kernel
theorem dX11_layLeft_92 : decode cX11_layLeft 92 = .ok (.iconst 1, 1) := by decide +kernel
theorem dX11_layLeft_93 : decode cX11_layLeft 93 = .ok (.aload_n 0, 1) := by decide +kernel
theorem dX11_layLeft_94 : decode cX11_layLeft 94 = .ok (.getfield 20, 3) := by decide +kernel
theorem dX11_layLeft_97 : decode cX11_layLeft 97 = .ok (.aload_n 0, 1) := by decide +kernel
theorem dX11_layLeft_98 : decode cX11_layLeft 98 = .ok (.getfield 321, 3) := by decide +kernel
theorem dX11_layLeft_101 : decode cX11_layLeft 101 = .ok (.iaload, 1) := by decide +kernel
theorem dX11_layLeft_102 : decode cX11_layLeft 102 = .ok (.ishl, 1) := by decide +kernel
theorem dX11_layLeft_103 : decode cX11_layLeft 103 = .ok (.if_icmp .ge 46, 3) := by decide +kernel
theorem dX11_layLeft_106 : decode cX11_layLeft 106 = .ok (.iload_n 3, 1) := by decide +kernel
theorem dX11_layLeft_107 : decode cX11_layLeft 107 = .ok (.iload_n 2, 1) := by decide +kernel
theorem dX11_layLeft_108 : decode cX11_layLeft 108 = .ok (.iand, 1) := by decide +kernel
theorem dX11_layLeft_109 : decode cX11_layLeft 109 = .ok (.ifCond .ne 34, 3) := by decide +kernel
theorem dX11_layLeft_112 : decode cX11_layLeft 112 = .ok (.aload_n 0, 1) := by decide +kernel
theorem dX11_layLeft_113 : decode cX11_layLeft 113 = .ok (.iload_n 3, 1) := by decide +kernel
theorem dX11_layLeft_114 : decode cX11_layLeft 114 = .ok (.invokevirtual 479, 3) := by decide +kernel
theorem dX11_layLeft_117 : decode cX11_layLeft 117 = .ok (.ifCond .ne 6, 3) := by decide +kernel
theorem dX11_layLeft_120 : decode cX11_layLeft 120 = .ok (.goto 23, 3) := by decide +kernel
theorem dX11_layLeft_123 : decode cX11_layLeft 123 = .ok (.aload_n 0, 1) := by decide +kernel
theorem dX11_layLeft_124 : decode cX11_layLeft 124 = .ok (.dup, 1) := by decide +kernel
theorem dX11_layLeft_125 : decode cX11_layLeft 125 = .ok (.getfield 622, 3) := by decide +kernel
theorem dX11_layLeft_128 : decode cX11_layLeft 128 = .ok (.iconst 1, 1) := by decide +kernel
theorem dX11_layLeft_129 : decode cX11_layLeft 129 = .ok (.iadd, 1) := by decide +kernel
theorem dX11_layLeft_130 : decode cX11_layLeft 130 = .ok (.putfield 622, 3) := by decide +kernel
theorem dX11_layLeft_133 : decode cX11_layLeft 133 = .ok (.aload_n 0, 1) := by decide +kernel
theorem dX11_layLeft_134 : decode cX11_layLeft 134 = .ok (.dup, 1) := by decide +kernel
theorem dX11_layLeft_135 : decode cX11_layLeft 135 = .ok (.getfield 625, 3) := by decide +kernel
theorem dX11_layLeft_138 : decode cX11_layLeft 138 = .ok (.iload_n 3, 1) := by decide +kernel
theorem dX11_layLeft_139 : decode cX11_layLeft 139 = .ok (.iand, 1) := by decide +kernel
theorem dX11_layLeft_140 : decode cX11_layLeft 140 = .ok (.putfield 625, 3) := by decide +kernel
theorem dX11_layLeft_143 : decode cX11_layLeft 143 = .ok (.iinc 3 1, 3) := by decide +kernel
theorem dX11_layLeft_146 : decode cX11_layLeft 146 = .ok (.goto (-55), 3) := by decide +kernel
theorem dX11_layLeft_149 : decode cX11_layLeft 149 = .ok (.iconst 1, 1) := by decide +kernel
theorem dX11_layLeft_150 : decode cX11_layLeft 150 = .ok (.ireturn, 1) := by decide +kernel
def uMI42 : Nat → Nat → Int32 := q_up (q_up uMI16 139 94 0) 139 95 0
set_option maxRecDepth 20000 in
theorem uM_X11_isMend_77 : q_met mX11_isMend (q_sM uMI42 zJ1) [.ref 139, .int 0] (fun s r => s = q_sM uMI42 zJ1 ∧ r = some (.int 1)) := by
  refine q_enter (by decide) (Nat.le_of_ble_eq_true rfl) ?_
  refine q_ic (v := 1) dX11_isMend_0 rfl ?_
  refine q_aload_n dX11_isMend_1 rfl ?_
  refine q_getR (c := 11) (n := 0) (k := 11) (a := 142) dX11_isMend_2 rfl (by decide) (by decide) fX11_20 rfl rfl ?_
  refine q_aload_n dX11_isMend_5 rfl ?_
  refine q_getf (c := 11) (n := 0) (k := 28) (v := .int 0) dX11_isMend_6 rfl (by decide) (by decide) fX11_321 rfl ?_
  refine q_iald (n := 6) (j := 0) dX11_isMend_9 rfl rfl (by decide) ?_
  refine q_topI (v := 0) rfl ?_
  refine q_ishl dX11_isMend_10 ?_
  refine q_topI (v := 1) rfl ?_
  refine q_ic (v := 1) dX11_isMend_11 rfl ?_
  refine q_isub dX11_isMend_12 ?_
  refine q_topI (v := 0) rfl ?_
  refine q_iload_n dX11_isMend_13 rfl ?_
  refine q_ic (v := (-1)) dX11_isMend_14 rfl ?_
  refine q_ixor dX11_isMend_15 ?_
  refine q_topI (v := (-1)) rfl ?_
  refine q_iand dX11_isMend_16 ?_
  refine q_topI (v := 0) rfl ?_
  refine q_istore_n dX11_isMend_17 (Nat.le_of_ble_eq_true rfl) ?_
  refine q_aload_n dX11_isMend_18 rfl ?_
  refine q_getR (c := 11) (n := 0) (k := 53) (a := 175) dX11_isMend_19 rfl (by decide) (by decide) fX11_124 rfl rfl ?_
  refine q_iload_n dX11_isMend_22 rfl ?_
  refine q_zald (n := 4096) (j := 0) dX11_isMend_23 rfl rfl (by decide) ?_
  refine q_topI (v := 0) rfl ?_
  refine q_iz_eq (tgt := 29) (a := 0) dX11_isMend_24 (by decide) rfl (fun _ => ?_) (fun h => absurd h (by decide))
  refine q_ic (v := 0) dX11_isMend_29 rfl ?_
  refine q_istore_n dX11_isMend_30 (Nat.le_of_ble_eq_true rfl) ?_
  refine q_iload_n dX11_isMend_31 rfl ?_
  refine q_aload_n dX11_isMend_32 rfl ?_
  refine q_getR (c := 11) (n := 0) (k := 11) (a := 142) dX11_isMend_33 rfl (by decide) (by decide) fX11_20 rfl rfl ?_
  refine q_aload_n dX11_isMend_36 rfl ?_
  refine q_getf (c := 11) (n := 0) (k := 28) (v := .int 0) dX11_isMend_37 rfl (by decide) (by decide) fX11_321 rfl ?_
  refine q_iald (n := 6) (j := 0) dX11_isMend_40 rfl rfl (by decide) ?_
  refine q_topI (v := 0) rfl ?_
  refine q_cz_ge (tgt := 74) (a := 0) (b := 0) dX11_isMend_41 (by decide) rfl rfl (fun _ => ?_) (fun h => absurd h (by decide))
  refine q_ic (v := 1) dX11_isMend_74 rfl ?_
  refine q_zret dX11_isMend_75 rfl (Or.inr rfl) ?_
  exact ⟨rfl, rfl⟩
def uMI43 : Nat → Nat → Int32 := q_up (q_up uMI42 139 94 1) 139 95 0
set_option maxRecDepth 20000 in
theorem uM_X11_layLeft_78 (a : Int32) : q_met mX11_layLeft (q_sM zI6 zJ1) [.ref 139, .int a] (fun s r => s = q_sM uMI43 zJ1 ∧ r = some (.int 1)) := by
  refine q_enter (by decide) (Nat.le_of_ble_eq_true rfl) ?_
  refine q_aload_n dX11_layLeft_0 rfl ?_
  refine q_V0 (ci := 11) (n := 0) dX11_layLeft_1 DX11_layClashes lX11_485 rfl (by decide) rfl rfl rfl rfl uM_X11_layClashes_29 ?_
  rintro _ _ ⟨rfl, rfl⟩
  refine q_iz_ne (tgt := 9) (a := 1) dX11_layLeft_4 (by decide) rfl (fun _ => ?_) (fun h => absurd h (by decide))
  refine q_ic (v := 0) dX11_layLeft_9 rfl ?_
  refine q_istore_n dX11_layLeft_10 (Nat.le_of_ble_eq_true rfl) ?_
  refine q_ic (v := 0) dX11_layLeft_11 rfl ?_
  refine q_istore_n dX11_layLeft_12 (Nat.le_of_ble_eq_true rfl) ?_
  refine q_iload_n dX11_layLeft_13 rfl ?_
  refine q_aload_n dX11_layLeft_14 rfl ?_
  refine q_getf (c := 11) (n := 0) (k := 92) (v := .int 0) dX11_layLeft_15 rfl (by decide) (by decide) fX11_560 rfl ?_
  refine q_cz_ge (tgt := 67) (a := 0) (b := 0) dX11_layLeft_18 (by decide) rfl rfl (fun _ => ?_) (fun h => absurd h (by decide))
  refine q_aload_n dX11_layLeft_67 rfl ?_
  refine q_ic (v := 0) dX11_layLeft_68 rfl ?_
  refine q_putI (c := 11) (n := 0) (k := 94) dX11_layLeft_69 rfl (by decide) (by decide) fX11_622 rfl rfl ?_
  show q_K _ (q_sM (q_up uMI16 139 94 0) zJ1) _ _ _ _ _ _
  refine q_aload_n dX11_layLeft_72 rfl ?_
  refine q_ic (v := 1) dX11_layLeft_73 rfl ?_
  refine q_aload_n dX11_layLeft_74 rfl ?_
  refine q_getR (c := 11) (n := 0) (k := 11) (a := 142) dX11_layLeft_75 rfl (by decide) (by decide) fX11_20 rfl rfl ?_
  refine q_aload_n dX11_layLeft_78 rfl ?_
  refine q_getf (c := 11) (n := 0) (k := 28) (v := .int 0) dX11_layLeft_79 rfl (by decide) (by decide) fX11_321 rfl ?_
  refine q_iald (n := 6) (j := 0) dX11_layLeft_82 rfl rfl (by decide) ?_
  refine q_topI (v := 0) rfl ?_
  refine q_ishl dX11_layLeft_83 ?_
  refine q_topI (v := 1) rfl ?_
  refine q_ic (v := 1) dX11_layLeft_84 rfl ?_
  refine q_isub dX11_layLeft_85 ?_
  refine q_topI (v := 0) rfl ?_
  refine q_putI (c := 11) (n := 0) (k := 95) dX11_layLeft_86 rfl (by decide) (by decide) fX11_625 rfl rfl ?_
  show q_K _ (q_sM (q_up (q_up uMI16 139 94 0) 139 95 0) zJ1) _ _ _ _ _ _
  refine q_ic (v := 0) dX11_layLeft_89 rfl ?_
  refine q_istore_n dX11_layLeft_90 (Nat.le_of_ble_eq_true rfl) ?_
  refine q_iload_n dX11_layLeft_91 rfl ?_
  refine q_ic (v := 1) dX11_layLeft_92 rfl ?_
  refine q_aload_n dX11_layLeft_93 rfl ?_
  refine q_getR (c := 11) (n := 0) (k := 11) (a := 142) dX11_layLeft_94 rfl (by decide) (by decide) fX11_20 rfl rfl ?_
  refine q_aload_n dX11_layLeft_97 rfl ?_
  refine q_getf (c := 11) (n := 0) (k := 28) (v := .int 0) dX11_layLeft_98 rfl (by decide) (by decide) fX11_321 rfl ?_
  refine q_iald (n := 6) (j := 0) dX11_layLeft_101 rfl rfl (by decide) ?_
  refine q_topI (v := 0) rfl ?_
  refine q_ishl dX11_layLeft_102 ?_
  refine q_topI (v := 1) rfl ?_
  refine q_cz_ge (tgt := 149) (a := 0) (b := 1) dX11_layLeft_103 (by decide) rfl rfl (fun h => absurd h (by decide)) (fun _ => ?_)
  refine q_iload_n dX11_layLeft_106 rfl ?_
  refine q_iload_n dX11_layLeft_107 rfl ?_
  refine q_iand dX11_layLeft_108 ?_
  refine q_topI (v := 0) rfl ?_
  refine q_iz_ne (tgt := 143) (a := 0) dX11_layLeft_109 (by decide) rfl (fun h => absurd h (by decide)) (fun _ => ?_)
  refine q_aload_n dX11_layLeft_112 rfl ?_
  refine q_iload_n dX11_layLeft_113 rfl ?_
  show q_K _ (q_sM uMI42 zJ1) _ _ _ _ _ _
  refine q_V1 (ci := 11) (n := 0) dX11_layLeft_114 DX11_isMend lX11_479 rfl (by decide) rfl rfl rfl rfl uM_X11_isMend_77 ?_
  rintro _ _ ⟨rfl, rfl⟩
  refine q_iz_ne (tgt := 123) (a := 1) dX11_layLeft_117 (by decide) rfl (fun _ => ?_) (fun h => absurd h (by decide))
  refine q_aload_n dX11_layLeft_123 rfl ?_
  refine q_dup dX11_layLeft_124 rfl ?_
  refine q_getf (c := 11) (n := 0) (k := 94) (v := .int 0) dX11_layLeft_125 rfl (by decide) (by decide) fX11_622 rfl ?_
  refine q_ic (v := 1) dX11_layLeft_128 rfl ?_
  refine q_iadd dX11_layLeft_129 ?_
  refine q_topI (v := 1) rfl ?_
  refine q_putI (c := 11) (n := 0) (k := 94) dX11_layLeft_130 rfl (by decide) (by decide) fX11_622 rfl rfl ?_
  show q_K _ (q_sM (q_up uMI42 139 94 1) zJ1) _ _ _ _ _ _
  refine q_aload_n dX11_layLeft_133 rfl ?_
  refine q_dup dX11_layLeft_134 rfl ?_
  refine q_getf (c := 11) (n := 0) (k := 95) (v := .int 0) dX11_layLeft_135 rfl (by decide) (by decide) fX11_625 rfl ?_
  refine q_iload_n dX11_layLeft_138 rfl ?_
  refine q_iand dX11_layLeft_139 ?_
  refine q_topI (v := 0) rfl ?_
  refine q_putI (c := 11) (n := 0) (k := 95) dX11_layLeft_140 rfl (by decide) (by decide) fX11_625 rfl rfl ?_
  show q_K _ (q_sM (q_up (q_up uMI42 139 94 1) 139 95 0) zJ1) _ _ _ _ _ _
  refine q_inc (v := 1) dX11_layLeft_143 rfl (Nat.le_of_ble_eq_true rfl) rfl ?_
  refine q_goto (tgt := 91) dX11_layLeft_146 (by decide) ?_
  refine q_iload_n dX11_layLeft_91 rfl ?_
  refine q_ic (v := 1) dX11_layLeft_92 rfl ?_
  refine q_aload_n dX11_layLeft_93 rfl ?_
  refine q_getR (c := 11) (n := 0) (k := 11) (a := 142) dX11_layLeft_94 rfl (by decide) (by decide) fX11_20 rfl rfl ?_
  refine q_aload_n dX11_layLeft_97 rfl ?_
  refine q_getf (c := 11) (n := 0) (k := 28) (v := .int 0) dX11_layLeft_98 rfl (by decide) (by decide) fX11_321 rfl ?_
  refine q_iald (n := 6) (j := 0) dX11_layLeft_101 rfl rfl (by decide) ?_
  refine q_topI (v := 0) rfl ?_
  refine q_ishl dX11_layLeft_102 ?_
  refine q_topI (v := 1) rfl ?_
  refine q_cz_ge (tgt := 149) (a := 1) (b := 1) dX11_layLeft_103 (by decide) rfl rfl (fun _ => ?_) (fun h => absurd h (by decide))
  refine q_ic (v := 1) dX11_layLeft_149 rfl ?_
  show q_K _ (q_sM uMI43 zJ1) _ _ _ _ _ _
  refine q_zret dX11_layLeft_150 rfl (Or.inr rfl) ?_
  exact ⟨rfl, rfl⟩
set_option maxRecDepth 20000 in
theorem frM_left (a : Int32) : q_met mX11_left (q_sM zI6 zJ1) [.ref 139, .int a] (fun s r => (∃ I J, s = q_sM I J) ∧ ∃ v, r = some (.int v) ∧ v.toInt = (1 : Int)) := by
  refine q_enter (by decide) (Nat.le_of_ble_eq_true rfl) ?_
  refine q_aload_n dX11_left_0 rfl ?_
  refine q_iload_n dX11_left_1 rfl ?_
  refine q_V1 (ci := 11) (n := 0) dX11_left_2 DX11_layLeft lX11_628 rfl (by decide) rfl rfl rfl rfl (uM_X11_layLeft_78 a) ?_
  rintro _ _ ⟨rfl, rfl⟩
  refine q_iz_eq (tgt := 15) (a := 1) dX11_left_5 (by decide) rfl (fun h => absurd h (by decide)) (fun _ => ?_)
  refine q_aload_n dX11_left_8 rfl ?_
  refine q_getf (c := 11) (n := 0) (k := 94) (v := .int 1) dX11_left_9 rfl (by decide) (by decide) fX11_622 rfl ?_
  refine q_goto (tgt := 17) dX11_left_12 (by decide) ?_
  refine q_iret dX11_left_17 rfl ?_
  exact ⟨⟨_, _, rfl⟩, _, rfl, (by show (1 : Int) = _; first | rfl | omega | (split <;> omega) | (split <;> split <;> omega))⟩
theorem dX11_sure_0 : decode cX11_sure 0 = .ok (.aload_n 0, 1) := by decide +kernel
theorem dX11_sure_1 : decode cX11_sure 1 = .ok (.iload_n 1, 1) := by decide +kernel
theorem dX11_sure_2 : decode cX11_sure 2 = .ok (.invokevirtual 628, 3) := by decide +kernel
theorem dX11_sure_5 : decode cX11_sure 5 = .ok (.ifCond .ne 9, 3) := by decide +kernel
theorem dX11_sure_8 : decode cX11_sure 8 = .ok (.ldc2_w 511, 3) := by decide +kernel
theorem dX11_sure_11 : decode cX11_sure 11 = .ok (.goto 19, 3) := by decide +kernel
theorem dX11_sure_14 : decode cX11_sure 14 = .ok (.aload_n 0, 1) := by decide +kernel
theorem dX11_sure_15 : decode cX11_sure 15 = .ok (.getfield 622, 3) := by decide +kernel
theorem dX11_sure_18 : decode cX11_sure 18 = .ok (.ifCond .ne 7, 3) := by decide +kernel
theorem dX11_sure_21 : decode cX11_sure 21 = .ok (.lconst 0, 1) := by decide +kernel
theorem dX11_sure_22 : decode cX11_sure 22 = .ok (.goto 8, 3) := by decide +kernel
theorem dX11_sure_25 : decode cX11_sure 25 = .ok (.aload_n 0, 1) := by decide +kernel
theorem dX11_sure_26 : decode cX11_sure 26 = .ok (.getfield 625, 3) := by decide +kernel
theorem dX11_sure_29 : decode cX11_sure 29 = .ok (.i2l, 1) := by decide +kernel
theorem dX11_sure_30 : decode cX11_sure 30 = .ok (.lreturn, 1) := by decide +kernel
set_option maxRecDepth 20000 in
theorem frM_sure (a : Int32) : q_met mX11_sure (q_sM zI6 zJ1) [.ref 139, .int a] (fun s r => (∃ I J, s = q_sM I J) ∧ ∃ v, r = some (.long v) ∧ v.toInt = (0 : Int)) := by
  refine q_enter (by decide) (Nat.le_of_ble_eq_true rfl) ?_
  refine q_aload_n dX11_sure_0 rfl ?_
  refine q_iload_n dX11_sure_1 rfl ?_
  refine q_V1 (ci := 11) (n := 0) dX11_sure_2 DX11_layLeft lX11_628 rfl (by decide) rfl rfl rfl rfl (uM_X11_layLeft_78 a) ?_
  rintro _ _ ⟨rfl, rfl⟩
  refine q_iz_ne (tgt := 14) (a := 1) dX11_sure_5 (by decide) rfl (fun _ => ?_) (fun h => absurd h (by decide))
  refine q_aload_n dX11_sure_14 rfl ?_
  refine q_getf (c := 11) (n := 0) (k := 94) (v := .int 1) dX11_sure_15 rfl (by decide) (by decide) fX11_622 rfl ?_
  refine q_iz_ne (tgt := 25) (a := 1) dX11_sure_18 (by decide) rfl (fun _ => ?_) (fun h => absurd h (by decide))
  refine q_aload_n dX11_sure_25 rfl ?_
  refine q_getf (c := 11) (n := 0) (k := 95) (v := .int 0) dX11_sure_26 rfl (by decide) (by decide) fX11_625 rfl ?_
  refine q_i2l dX11_sure_29 ?_
  refine q_topL (v := 0) rfl ?_
  refine q_lret dX11_sure_30 rfl ?_
  exact ⟨⟨_, _, rfl⟩, _, rfl, (by show (0 : Int) = _; first | rfl | omega | (split <;> omega) | (split <;> split <;> omega))⟩
theorem dX11_back_0 : decode cX11_back 0 = .ok (.iload_n 1, 1) := by decide +kernel
theorem dX11_back_1 : decode cX11_back 1 = .ok (.iconst 0, 1) := by decide +kernel
theorem dX11_back_2 : decode cX11_back 2 = .ok (.iconst 2, 1) := by decide +kernel
theorem dX11_back_3 : decode cX11_back 3 = .ok (.invokestatic 379, 3) := by decide +kernel
theorem dX11_back_6 : decode cX11_back 6 = .ok (.ifCond .eq 12, 3) := by decide +kernel
theorem dX11_back_9 : decode cX11_back 9 = .ok (.aload_n 0, 1) := by decide +kernel
theorem dX11_back_10 : decode cX11_back 10 = .ok (.getfield 209, 3) := by decide +kernel
theorem dX11_back_13 : decode cX11_back 13 = .ok (.iload_n 1, 1) := by decide +kernel
theorem dX11_back_14 : decode cX11_back 14 = .ok (.baload, 1) := by decide +kernel
theorem dX11_back_15 : decode cX11_back 15 = .ok (.ifCond .ne 5, 3) := by decide +kernel
theorem dX11_back_18 : decode cX11_back 18 = .ok (.iconst (-1), 1) := by decide +kernel
theorem dX11_back_19 : decode cX11_back 19 = .ok (.ireturn, 1) := by decide +kernel
theorem dX11_back_20 : decode cX11_back 20 = .ok (.aload_n 0, 1) := by decide +kernel
theorem dX11_back_21 : decode cX11_back 21 = .ok (.iconst 3, 1) := by decide +kernel
theorem dX11_back_22 : decode cX11_back 22 = .ok (.iload_n 1, 1) := by decide +kernel
theorem dX11_back_23 : decode cX11_back 23 = .ok (.iadd, 1) := by decide +kernel
theorem dX11_back_24 : decode cX11_back 24 = .ok (.aload_n 0, 1) := by decide +kernel
theorem dX11_back_25 : decode cX11_back 25 = .ok (.getfield 321, 3) := by decide +kernel
theorem dX11_back_28 : decode cX11_back 28 = .ok (.invokevirtual 566, 3) := by decide +kernel
theorem dX11_back_31 : decode cX11_back 31 = .ok (.aload_n 0, 1) := by decide +kernel
theorem dX11_back_32 : decode cX11_back 32 = .ok (.invokevirtual 216, 3) := by decide +kernel
theorem dX11_back_35 : decode cX11_back 35 = .ok (.iconst 0, 1) := by decide +kernel
theorem dX11_back_36 : decode cX11_back 36 = .ok (.istore_n 2, 1) := by decide +kernel
theorem dX11_back_37 : decode cX11_back 37 = .ok (.iload_n 2, 1) := by decide +kernel
theorem dX11_back_38 : decode cX11_back 38 = .ok (.bipush 40, 2) := by decide +kernel
theorem dX11_back_40 : decode cX11_back 40 = .ok (.if_icmp .ge 26, 3) := by decide +kernel
theorem dX11_back_43 : decode cX11_back 43 = .ok (.aload_n 0, 1) := by decide +kernel
theorem dX11_back_44 : decode cX11_back 44 = .ok (.getfield 128, 3) := by decide +kernel
theorem dX11_back_47 : decode cX11_back 47 = .ok (.iload_n 2, 1) := by decide +kernel
theorem dX11_back_48 : decode cX11_back 48 = .ok (.aload_n 0, 1) := by decide +kernel
theorem dX11_back_49 : decode cX11_back 49 = .ok (.getfield 206, 3) := by decide +kernel
theorem dX11_back_52 : decode cX11_back 52 = .ok (.bipush 40, 2) := by decide +kernel
theorem dX11_back_54 : decode cX11_back 54 = .ok (.iload_n 1, 1) := by decide +kernel
theorem dX11_back_55 : decode cX11_back 55 = .ok (.imul, 1) := by decide +kernel
theorem dX11_back_56 : decode cX11_back 56 = .ok (.iload_n 2, 1) := by decide +kernel
theorem dX11_back_57 : decode cX11_back 57 = .ok (.iadd, 1) := by decide +kernel
theorem dX11_back_58 : decode cX11_back 58 = .ok (.iaload, 1) := by decide +kernel
theorem dX11_back_59 : decode cX11_back 59 = .ok (.iastore, 1) := by decide +kernel
theorem dX11_back_60 : decode cX11_back 60 = .ok (.iinc 2 1, 3) := by decide +kernel
theorem dX11_back_63 : decode cX11_back 63 = .ok (.goto (-26), 3) := by decide +kernel
theorem dX11_back_66 : decode cX11_back 66 = .ok (.aload_n 0, 1) := by decide +kernel
theorem dX11_back_67 : decode cX11_back 67 = .ok (.getfield 20, 3) := by decide +kernel
theorem dX11_back_70 : decode cX11_back 70 = .ok (.aload_n 0, 1) := by decide +kernel
theorem dX11_back_71 : decode cX11_back 71 = .ok (.getfield 321, 3) := by decide +kernel
theorem dX11_back_74 : decode cX11_back 74 = .ok (.iaload, 1) := by decide +kernel
theorem dX11_back_75 : decode cX11_back 75 = .ok (.ireturn, 1) := by decide +kernel
set_option maxRecDepth 20000 in
theorem uM_X11_isIn_81 (a : Int32) : q_met mX11_isIn (q_sM zI6 zJ1) [.int a, .int 0, .int 2] (fun s r => s = q_sM zI6 zJ1 ∧ ∃ v, r = some (.int v) ∧ v.toInt = (if 0 ≤ a.toInt ∧ a.toInt ≤ 2 then 1 else 0 : Int)) := by
  refine q_enter (by decide) (Nat.le_of_ble_eq_true rfl) ?_
  refine q_iload_n dX11_isIn_0 rfl ?_
  refine q_iload_n dX11_isIn_1 rfl ?_
  refine q_cz_lt (tgt := 14) (a := a.toInt) (b := 0) dX11_isIn_2 (by decide) rfl rfl (fun h2_0 => ?_) (fun h2_0 => ?_)
  · refine q_ic (v := 0) dX11_isIn_14 rfl ?_
    refine q_zret dX11_isIn_15 rfl (Or.inl rfl) ?_
    exact ⟨rfl, _, rfl, (by show (0 : Int) = _; first | rfl | omega | (split <;> omega) | (split <;> split <;> omega))⟩
  · refine q_iload_n dX11_isIn_5 rfl ?_
    refine q_iload_n dX11_isIn_6 rfl ?_
    refine q_cz_gt (tgt := 14) (a := a.toInt) (b := 2) dX11_isIn_7 (by decide) rfl rfl (fun h7_1 => ?_) (fun h7_1 => ?_)
    · refine q_ic (v := 0) dX11_isIn_14 rfl ?_
      refine q_zret dX11_isIn_15 rfl (Or.inl rfl) ?_
      exact ⟨rfl, _, rfl, (by show (0 : Int) = _; first | rfl | omega | (split <;> omega) | (split <;> split <;> omega))⟩
    · refine q_ic (v := 1) dX11_isIn_10 rfl ?_
      refine q_goto (tgt := 15) dX11_isIn_11 (by decide) ?_
      refine q_zret dX11_isIn_15 rfl (Or.inr rfl) ?_
      exact ⟨rfl, _, rfl, (by show (1 : Int) = _; first | rfl | omega | (split <;> omega) | (split <;> split <;> omega))⟩
theorem zzuM_203 (j : Nat) : zI6 203 j = 0 := by simp [zI0, zI1, zI2, zI3, zI4, zI5, zI6, q_up]
set_option maxRecDepth 20000 in
theorem frM_back (a : Int32) : q_met mX11_back (q_sM zI6 zJ1) [.ref 139, .int a] (fun s r => (∃ I J, s = q_sM I J) ∧ ∃ v, r = some (.int v) ∧ v.toInt = (-1 : Int)) := by
  refine q_enter (by decide) (Nat.le_of_ble_eq_true rfl) ?_
  refine q_iload_n dX11_back_0 rfl ?_
  refine q_ic (v := 0) dX11_back_1 rfl ?_
  refine q_ic (v := 2) dX11_back_2 rfl ?_
  refine q_S3 dX11_back_3 DX11_isIn lX11_379 rfl rfl rfl (uM_X11_isIn_81 a) ?_
  rintro _ _ ⟨rfl, v1, rfl, gv1⟩
  refine q_iz_eq (tgt := 18) (a := (if 0 ≤ a.toInt ∧ a.toInt ≤ 2 then 1 else 0 : Int)) dX11_back_6 (by decide) gv1 (fun h6_1 => ?_) (fun h6_1 => ?_)
  · refine q_ic (v := (-1)) dX11_back_18 rfl ?_
    refine q_iret dX11_back_19 rfl ?_
    exact ⟨⟨_, _, rfl⟩, _, rfl, (by show ((-1) : Int) = _; first | rfl | omega | (split <;> omega) | (split <;> split <;> omega))⟩
  · refine q_aload_n dX11_back_9 rfl ?_
    refine q_getR (c := 11) (n := 0) (k := 97) (a := 203) dX11_back_10 rfl (by decide) (by decide) fX11_209 rfl rfl ?_
    refine q_iload_n dX11_back_13 rfl ?_
    refine q_zaldz (n := 3) (z := a.toInt) dX11_back_14 rfl rfl (by omega) (by omega) ?_
    refine q_topI (v := 0) (zzuM_203 (a.toInt).toNat) ?_
    refine q_iz_ne (tgt := 20) (a := 0) dX11_back_15 (by decide) rfl (fun h => absurd h (by decide)) (fun _ => ?_)
    refine q_ic (v := (-1)) dX11_back_18 rfl ?_
    refine q_iret dX11_back_19 rfl ?_
    exact ⟨⟨_, _, rfl⟩, _, rfl, (by show ((-1) : Int) = _; first | rfl | omega | (split <;> omega) | (split <;> split <;> omega))⟩
theorem dX11_about_0 : decode cX11_about 0 = .ok (.iload_n 1, 1) := by decide +kernel
theorem dX11_about_1 : decode cX11_about 1 = .ok (.tableswitch 92 0 6 #[43, 53, 63, 72, 77, 82, 87], 43) := by decide +kernel
theorem dX11_about_44 : decode cX11_about 44 = .ok (.aload_n 0, 1) := by decide +kernel
theorem dX11_about_45 : decode cX11_about 45 = .ok (.getfield 24, 3) := by decide +kernel
theorem dX11_about_48 : decode cX11_about 48 = .ok (.aload_n 0, 1) := by decide +kernel
theorem dX11_about_49 : decode cX11_about 49 = .ok (.getfield 321, 3) := by decide +kernel
theorem dX11_about_52 : decode cX11_about 52 = .ok (.iaload, 1) := by decide +kernel
theorem dX11_about_53 : decode cX11_about 53 = .ok (.ireturn, 1) := by decide +kernel
theorem dX11_about_54 : decode cX11_about 54 = .ok (.aload_n 0, 1) := by decide +kernel
theorem dX11_about_55 : decode cX11_about 55 = .ok (.getfield 20, 3) := by decide +kernel
theorem dX11_about_58 : decode cX11_about 58 = .ok (.aload_n 0, 1) := by decide +kernel
theorem dX11_about_59 : decode cX11_about 59 = .ok (.getfield 321, 3) := by decide +kernel
theorem dX11_about_62 : decode cX11_about 62 = .ok (.iaload, 1) := by decide +kernel
theorem dX11_about_63 : decode cX11_about 63 = .ok (.ireturn, 1) := by decide +kernel
theorem dX11_about_64 : decode cX11_about 64 = .ok (.aload_n 0, 1) := by decide +kernel
theorem dX11_about_65 : decode cX11_about 65 = .ok (.aload_n 0, 1) := by decide +kernel
theorem dX11_about_66 : decode cX11_about 66 = .ok (.getfield 321, 3) := by decide +kernel
theorem dX11_about_69 : decode cX11_about 69 = .ok (.invokevirtual 330, 3) := by decide +kernel
theorem dX11_about_72 : decode cX11_about 72 = .ok (.ireturn, 1) := by decide +kernel
theorem dX11_about_73 : decode cX11_about 73 = .ok (.aload_n 0, 1) := by decide +kernel
theorem dX11_about_74 : decode cX11_about 74 = .ok (.getfield 560, 3) := by decide +kernel
theorem dX11_about_77 : decode cX11_about 77 = .ok (.ireturn, 1) := by decide +kernel
theorem dX11_about_78 : decode cX11_about 78 = .ok (.aload_n 0, 1) := by decide +kernel
theorem dX11_about_79 : decode cX11_about 79 = .ok (.getfield 618, 3) := by decide +kernel
theorem dX11_about_82 : decode cX11_about 82 = .ok (.ireturn, 1) := by decide +kernel
theorem dX11_about_83 : decode cX11_about 83 = .ok (.aload_n 0, 1) := by decide +kernel
theorem dX11_about_84 : decode cX11_about 84 = .ok (.getfield 318, 3) := by decide +kernel
theorem dX11_about_87 : decode cX11_about 87 = .ok (.ireturn, 1) := by decide +kernel
theorem dX11_about_88 : decode cX11_about 88 = .ok (.aload_n 0, 1) := by decide +kernel
theorem dX11_about_89 : decode cX11_about 89 = .ok (.invokevirtual 505, 3) := by decide +kernel
theorem dX11_about_92 : decode cX11_about 92 = .ok (.ireturn, 1) := by decide +kernel
theorem dX11_about_93 : decode cX11_about 93 = .ok (.iconst (-1), 1) := by decide +kernel
theorem dX11_about_94 : decode cX11_about 94 = .ok (.ireturn, 1) := by decide +kernel
set_option maxRecDepth 20000 in
theorem uM_X11_asksOf_83 : q_met mX11_asksOf (q_sM zI6 zJ1) [.ref 139, .int 0] (fun s r => s = q_sM zI6 zJ1 ∧ r = some (.int 0)) := by
  refine q_enter (by decide) (Nat.le_of_ble_eq_true rfl) ?_
  refine q_ic (v := 0) dX11_asksOf_0 rfl ?_
  refine q_istore_n dX11_asksOf_1 (Nat.le_of_ble_eq_true rfl) ?_
  refine q_ic (v := 0) dX11_asksOf_2 rfl ?_
  refine q_istore_n dX11_asksOf_3 (Nat.le_of_ble_eq_true rfl) ?_
  refine q_iload_n dX11_asksOf_4 rfl ?_
  refine q_aload_n dX11_asksOf_5 rfl ?_
  refine q_getR (c := 11) (n := 0) (k := 12) (a := 143) dX11_asksOf_6 rfl (by decide) (by decide) fX11_24 rfl rfl ?_
  refine q_iload_n dX11_asksOf_9 rfl ?_
  refine q_iald (n := 6) (j := 0) dX11_asksOf_10 rfl rfl (by decide) ?_
  refine q_topI (v := 0) rfl ?_
  refine q_cz_ge (tgt := 44) (a := 0) (b := 0) dX11_asksOf_11 (by decide) rfl rfl (fun _ => ?_) (fun h => absurd h (by decide))
  refine q_iload_n dX11_asksOf_44 rfl ?_
  refine q_iret dX11_asksOf_45 rfl ?_
  exact ⟨rfl, rfl⟩
set_option maxRecDepth 20000 in
theorem uM_X11_wholeTrust_84 : q_met mX11_wholeTrust (q_sM zI6 zJ1) [.ref 139] (fun s r => s = q_sM zI6 zJ1 ∧ r = some (.int 0)) := by
  refine q_enter (by decide) (Nat.le_of_ble_eq_true rfl) ?_
  refine q_ic (v := 0) dX11_wholeTrust_0 rfl ?_
  refine q_istore_n dX11_wholeTrust_1 (Nat.le_of_ble_eq_true rfl) ?_
  refine q_ic (v := 0) dX11_wholeTrust_2 rfl ?_
  refine q_istore_n dX11_wholeTrust_3 (Nat.le_of_ble_eq_true rfl) ?_
  refine q_iload_n dX11_wholeTrust_4 rfl ?_
  refine q_aload_n dX11_wholeTrust_5 rfl ?_
  refine q_getR (c := 11) (n := 0) (k := 11) (a := 142) dX11_wholeTrust_6 rfl (by decide) (by decide) fX11_20 rfl rfl ?_
  refine q_aload_n dX11_wholeTrust_9 rfl ?_
  refine q_getf (c := 11) (n := 0) (k := 28) (v := .int 0) dX11_wholeTrust_10 rfl (by decide) (by decide) fX11_321 rfl ?_
  refine q_iald (n := 6) (j := 0) dX11_wholeTrust_13 rfl rfl (by decide) ?_
  refine q_topI (v := 0) rfl ?_
  refine q_cz_ge (tgt := 32) (a := 0) (b := 0) dX11_wholeTrust_14 (by decide) rfl rfl (fun _ => ?_) (fun h => absurd h (by decide))
  refine q_iload_n dX11_wholeTrust_32 rfl ?_
  refine q_iret dX11_wholeTrust_33 rfl ?_
  exact ⟨rfl, rfl⟩
set_option maxRecDepth 20000 in
theorem frM_about (a : Int32) : q_met mX11_about (q_sM zI6 zJ1) [.ref 139, .int a] (fun s r => (∃ I J, s = q_sM I J) ∧ ∃ v, r = some (.int v) ∧ v.toInt = (if 0 ≤ a.toInt ∧ a.toInt ≤ 6 then 0 else -1 : Int)) := by
  refine q_enter (by decide) (Nat.le_of_ble_eq_true rfl) ?_
  refine q_iload_n dX11_about_0 rfl ?_
  refine q_tab7 44 54 64 73 78 83 88 93 dX11_about_1 rfl rfl (by decide) (z := a.toInt) rfl (fun h1_0 => ?_) (fun h1_0 => ?_) (fun h1_0 => ?_) (fun h1_0 => ?_) (fun h1_0 => ?_) (fun h1_0 => ?_) (fun h1_0 => ?_) (fun h1_0 => ?_)
  · refine q_aload_n dX11_about_44 rfl ?_
    refine q_getR (c := 11) (n := 0) (k := 12) (a := 143) dX11_about_45 rfl (by decide) (by decide) fX11_24 rfl rfl ?_
    refine q_aload_n dX11_about_48 rfl ?_
    refine q_getf (c := 11) (n := 0) (k := 28) (v := .int 0) dX11_about_49 rfl (by decide) (by decide) fX11_321 rfl ?_
    refine q_iald (n := 6) (j := 0) dX11_about_52 rfl rfl (by decide) ?_
    refine q_topI (v := 0) rfl ?_
    refine q_iret dX11_about_53 rfl ?_
    exact ⟨⟨_, _, rfl⟩, _, rfl, (by show (0 : Int) = _; first | rfl | omega | (split <;> omega) | (split <;> split <;> omega))⟩
  · refine q_aload_n dX11_about_54 rfl ?_
    refine q_getR (c := 11) (n := 0) (k := 11) (a := 142) dX11_about_55 rfl (by decide) (by decide) fX11_20 rfl rfl ?_
    refine q_aload_n dX11_about_58 rfl ?_
    refine q_getf (c := 11) (n := 0) (k := 28) (v := .int 0) dX11_about_59 rfl (by decide) (by decide) fX11_321 rfl ?_
    refine q_iald (n := 6) (j := 0) dX11_about_62 rfl rfl (by decide) ?_
    refine q_topI (v := 0) rfl ?_
    refine q_iret dX11_about_63 rfl ?_
    exact ⟨⟨_, _, rfl⟩, _, rfl, (by show (0 : Int) = _; first | rfl | omega | (split <;> omega) | (split <;> split <;> omega))⟩
  · refine q_aload_n dX11_about_64 rfl ?_
    refine q_aload_n dX11_about_65 rfl ?_
    refine q_getf (c := 11) (n := 0) (k := 28) (v := .int 0) dX11_about_66 rfl (by decide) (by decide) fX11_321 rfl ?_
    refine q_V1 (ci := 11) (n := 0) dX11_about_69 DX11_asksOf lX11_330 rfl (by decide) rfl rfl rfl rfl uM_X11_asksOf_83 ?_
    rintro _ _ ⟨rfl, rfl⟩
    refine q_iret dX11_about_72 rfl ?_
    exact ⟨⟨_, _, rfl⟩, _, rfl, (by show (0 : Int) = _; first | rfl | omega | (split <;> omega) | (split <;> split <;> omega))⟩
  · refine q_aload_n dX11_about_73 rfl ?_
    refine q_getf (c := 11) (n := 0) (k := 92) (v := .int 0) dX11_about_74 rfl (by decide) (by decide) fX11_560 rfl ?_
    refine q_iret dX11_about_77 rfl ?_
    exact ⟨⟨_, _, rfl⟩, _, rfl, (by show (0 : Int) = _; first | rfl | omega | (split <;> omega) | (split <;> split <;> omega))⟩
  · refine q_aload_n dX11_about_78 rfl ?_
    refine q_getf (c := 11) (n := 0) (k := 93) (v := .int 0) dX11_about_79 rfl (by decide) (by decide) fX11_618 rfl ?_
    refine q_iret dX11_about_82 rfl ?_
    exact ⟨⟨_, _, rfl⟩, _, rfl, (by show (0 : Int) = _; first | rfl | omega | (split <;> omega) | (split <;> split <;> omega))⟩
  · refine q_aload_n dX11_about_83 rfl ?_
    refine q_getf (c := 11) (n := 0) (k := 2) (v := .int 0) dX11_about_84 rfl (by decide) (by decide) fX11_318 rfl ?_
    refine q_iret dX11_about_87 rfl ?_
    exact ⟨⟨_, _, rfl⟩, _, rfl, (by show (0 : Int) = _; first | rfl | omega | (split <;> omega) | (split <;> split <;> omega))⟩
  · refine q_aload_n dX11_about_88 rfl ?_
    refine q_V0 (ci := 11) (n := 0) dX11_about_89 DX11_wholeTrust lX11_505 rfl (by decide) rfl rfl rfl rfl uM_X11_wholeTrust_84 ?_
    rintro _ _ ⟨rfl, rfl⟩
    refine q_iret dX11_about_92 rfl ?_
    exact ⟨⟨_, _, rfl⟩, _, rfl, (by show (0 : Int) = _; first | rfl | omega | (split <;> omega) | (split <;> split <;> omega))⟩
  · refine q_ic (v := (-1)) dX11_about_93 rfl ?_
    refine q_iret dX11_about_94 rfl ?_
    exact ⟨⟨_, _, rfl⟩, _, rfl, (by show ((-1) : Int) = _; first | rfl | omega | (split <;> omega) | (split <;> split <;> omega))⟩
theorem dX11_clashes_0 : decode cX11_clashes 0 = .ok (.lload_n 1, 1) := by decide +kernel
theorem dX11_clashes_1 : decode cX11_clashes 1 = .ok (.lconst 0, 1) := by decide +kernel
theorem dX11_clashes_2 : decode cX11_clashes 2 = .ok (.lcmp, 1) := by decide +kernel
theorem dX11_clashes_3 : decode cX11_clashes 3 = .ok (.ifCond .lt 12, 3) := by decide +kernel
theorem dX11_clashes_6 : decode cX11_clashes 6 = .ok (.lload_n 1, 1) := by decide +kernel
theorem dX11_clashes_7 : decode cX11_clashes 7 = .ok (.aload_n 0, 1) := by decide +kernel
theorem dX11_clashes_8 : decode cX11_clashes 8 = .ok (.invokevirtual 463, 3) := by decide +kernel
theorem dX11_clashes_11 : decode cX11_clashes 11 = .ok (.lcmp, 1) := by decide +kernel
theorem dX11_clashes_12 : decode cX11_clashes 12 = .ok (.ifCond .le 5, 3) := by decide +kernel
theorem dX11_clashes_15 : decode cX11_clashes 15 = .ok (.iconst (-1), 1) := by decide +kernel
theorem dX11_clashes_16 : decode cX11_clashes 16 = .ok (.ireturn, 1) := by decide +kernel
theorem dX11_clashes_17 : decode cX11_clashes 17 = .ok (.aload_n 0, 1) := by decide +kernel
theorem dX11_clashes_18 : decode cX11_clashes 18 = .ok (.invokevirtual 460, 3) := by decide +kernel
theorem dX11_clashes_21 : decode cX11_clashes 21 = .ok (.aload_n 0, 1) := by decide +kernel
theorem dX11_clashes_22 : decode cX11_clashes 22 = .ok (.lload_n 1, 1) := by decide +kernel
theorem dX11_clashes_23 : decode cX11_clashes 23 = .ok (.invokevirtual 467, 3) := by decide +kernel
theorem dX11_clashes_26 : decode cX11_clashes 26 = .ok (.ifCond .eq 7, 3) := by decide +kernel
theorem dX11_clashes_29 : decode cX11_clashes 29 = .ok (.iconst 1, 1) := by decide +kernel
theorem dX11_clashes_30 : decode cX11_clashes 30 = .ok (.goto 4, 3) := by decide +kernel
theorem dX11_clashes_33 : decode cX11_clashes 33 = .ok (.iconst 0, 1) := by decide +kernel
theorem dX11_clashes_34 : decode cX11_clashes 34 = .ok (.ireturn, 1) := by decide +kernel
set_option maxRecDepth 20000 in
theorem uM_X11_allPlaces_86 : q_met mX11_allPlaces (q_sM zI6 zJ1) [.ref 139] (fun s r => s = q_sM zI6 zJ1 ∧ r = some (.long 0)) := by
  refine q_enter (by decide) (Nat.le_of_ble_eq_true rfl) ?_
  refine q_lc (v := 1) dX11_allPlaces_0 rfl ?_
  refine q_aload_n dX11_allPlaces_1 rfl ?_
  refine q_getR (c := 11) (n := 0) (k := 11) (a := 142) dX11_allPlaces_2 rfl (by decide) (by decide) fX11_20 rfl rfl ?_
  refine q_aload_n dX11_allPlaces_5 rfl ?_
  refine q_getf (c := 11) (n := 0) (k := 28) (v := .int 0) dX11_allPlaces_6 rfl (by decide) (by decide) fX11_321 rfl ?_
  refine q_iald (n := 6) (j := 0) dX11_allPlaces_9 rfl rfl (by decide) ?_
  refine q_topI (v := 0) rfl ?_
  refine q_lshl dX11_allPlaces_10 ?_
  refine q_topL (v := 1) rfl ?_
  refine q_lc (v := 1) dX11_allPlaces_11 rfl ?_
  refine q_lsub dX11_allPlaces_12 ?_
  refine q_topL (v := 0) rfl ?_
  refine q_lret dX11_allPlaces_13 rfl ?_
  exact ⟨rfl, rfl⟩
set_option maxRecDepth 20000 in
theorem frM_clashes0 : q_met mX11_clashes (q_sM zI6 zJ1) [.ref 139, .long 0] (fun s r => (∃ I J, s = q_sM I J) ∧ ∃ v, r = some (.int v) ∧ v.toInt = (0 : Int)) := by
  refine q_enter (by decide) (Nat.le_of_ble_eq_true rfl) ?_
  refine q_lload_n dX11_clashes_0 rfl ?_
  refine q_lc (v := 0) dX11_clashes_1 rfl ?_
  refine q_lcmp dX11_clashes_2 ?_
  refine q_topI (v := 0) rfl ?_
  refine q_iz_lt (tgt := 15) (a := 0) dX11_clashes_3 (by decide) rfl (fun h => absurd h (by decide)) (fun _ => ?_)
  refine q_lload_n dX11_clashes_6 rfl ?_
  refine q_aload_n dX11_clashes_7 rfl ?_
  refine q_V0 (ci := 11) (n := 0) dX11_clashes_8 DX11_allPlaces lX11_463 rfl (by decide) rfl rfl rfl rfl uM_X11_allPlaces_86 ?_
  rintro _ _ ⟨rfl, rfl⟩
  refine q_lcmp dX11_clashes_11 ?_
  refine q_topI (v := 0) rfl ?_
  refine q_iz_le (tgt := 17) (a := 0) dX11_clashes_12 (by decide) rfl (fun _ => ?_) (fun h => absurd h (by decide))
  refine q_aload_n dX11_clashes_17 rfl ?_
  refine q_V0 (ci := 11) (n := 0) dX11_clashes_18 DX11_layNow lX11_460 rfl (by decide) rfl rfl rfl rfl uM_X11_layNow_16 ?_
  rintro _ _ ⟨rfl, rfl⟩
  refine q_aload_n dX11_clashes_21 rfl ?_
  refine q_lload_n dX11_clashes_22 rfl ?_
  refine q_V1 (ci := 11) (n := 0) dX11_clashes_23 DX11_clash lX11_467 rfl (by decide) rfl rfl rfl rfl uM_X11_clash_22 ?_
  rintro _ _ ⟨rfl, rfl⟩
  refine q_iz_eq (tgt := 33) (a := 0) dX11_clashes_26 (by decide) rfl (fun _ => ?_) (fun h => absurd h (by decide))
  refine q_ic (v := 0) dX11_clashes_33 rfl ?_
  refine q_iret dX11_clashes_34 rfl ?_
  exact ⟨⟨_, _, rfl⟩, _, rfl, (by show (0 : Int) = _; first | rfl | omega | (split <;> omega) | (split <;> split <;> omega))⟩
