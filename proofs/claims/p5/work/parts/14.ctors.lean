/-! THE CONSTRUCTORS, run with the cells that they really make (wip/whole/gen_ctor.py). -/
theorem q_kc {M : q_M} {σ : q_S} {kc ks kc' ks' pc : Nat} {lv : List (Nat × Value)} {st : List Value} {Q : q_F} (h1 : kc = kc') (h2 : ks = ks') (k : q_K M σ kc' ks' pc lv st Q) : q_K M σ kc ks pc lv st Q := h1 ▸ h2 ▸ k
def zI0 : Nat → Nat → Int32 := fun _ _ => 0
def zJ0 : Nat → Nat → Int64 := fun _ _ => 0
def zR0 : Nat → Nat → Option Nat := fun _ _ => none
theorem q_ialdv {M : q_M} {σ : q_S} {kc ks pc : Nat} {lv : List (Nat × Value)} {st : List Value} {Q : q_F} {i n : Nat} {x v : Int32} {j : Nat} (hd : decode M.1.2.1 pc = .ok (.iaload, 1)) (hi : σ.2.2.2[i]? = some (20, n)) (hx : x.toInt = (j : Int)) (hj : j < n) (hv : σ.1 i j = v) (kk : q_K M σ kc ks (pc + 1) lv (.int v :: st) Q) : q_K M σ kc ks pc lv (.int x :: .ref i :: st) Q := q_iald hd hi hx hj (hv ▸ kk)
theorem dX10_init_0 : decode cX10_init 0 = .ok (.aload_n 0, 1) := by decide +kernel
theorem dX10_init_1 : decode cX10_init 1 = .ok (.invokespecial 1, 3) := by decide +kernel
theorem dX10_init_4 : decode cX10_init 4 = .ok (.aload_n 0, 1) := by decide +kernel
theorem dX10_init_5 : decode cX10_init 5 = .ok (.sipush 1600, 3) := by decide +kernel
theorem dX10_init_8 : decode cX10_init 8 = .ok (.newarray .byte, 2) := by decide +kernel
theorem dX10_init_10 : decode cX10_init 10 = .ok (.putfield 9, 3) := by decide +kernel
theorem dX10_init_13 : decode cX10_init 13 = .ok (.aload_n 0, 1) := by decide +kernel
theorem dX10_init_14 : decode cX10_init 14 = .ok (.new 13, 3) := by decide +kernel
theorem dX10_init_17 : decode cX10_init 17 = .ok (.dup, 1) := by decide +kernel
theorem dX10_init_18 : decode cX10_init 18 = .ok (.invokespecial 15, 3) := by decide +kernel
theorem dX10_init_21 : decode cX10_init 21 = .ok (.putfield 16, 3) := by decide +kernel
theorem dX10_init_24 : decode cX10_init 24 = .ok (.aload_n 0, 1) := by decide +kernel
theorem dX10_init_25 : decode cX10_init 25 = .ok (.new 20, 3) := by decide +kernel
theorem dX10_init_28 : decode cX10_init 28 = .ok (.dup, 1) := by decide +kernel
theorem dX10_init_29 : decode cX10_init 29 = .ok (.invokespecial 22, 3) := by decide +kernel
theorem dX10_init_32 : decode cX10_init 32 = .ok (.putfield 23, 3) := by decide +kernel
theorem dX10_init_35 : decode cX10_init 35 = .ok (.aload_n 0, 1) := by decide +kernel
theorem dX10_init_36 : decode cX10_init 36 = .ok (.new 27, 3) := by decide +kernel
theorem dX10_init_39 : decode cX10_init 39 = .ok (.dup, 1) := by decide +kernel
theorem dX10_init_40 : decode cX10_init 40 = .ok (.invokespecial 29, 3) := by decide +kernel
theorem dX10_init_43 : decode cX10_init 43 = .ok (.putfield 30, 3) := by decide +kernel
theorem dX10_init_46 : decode cX10_init 46 = .ok (.aload_n 0, 1) := by decide +kernel
theorem dX10_init_47 : decode cX10_init 47 = .ok (.new 34, 3) := by decide +kernel
theorem dX10_init_50 : decode cX10_init 50 = .ok (.dup, 1) := by decide +kernel
theorem dX10_init_51 : decode cX10_init 51 = .ok (.aload_n 0, 1) := by decide +kernel
theorem dX10_init_52 : decode cX10_init 52 = .ok (.getfield 9, 3) := by decide +kernel
theorem dX10_init_55 : decode cX10_init 55 = .ok (.aload_n 0, 1) := by decide +kernel
theorem dX10_init_56 : decode cX10_init 56 = .ok (.getfield 23, 3) := by decide +kernel
theorem dX10_init_59 : decode cX10_init 59 = .ok (.getfield 36, 3) := by decide +kernel
theorem dX10_init_62 : decode cX10_init 62 = .ok (.invokespecial 37, 3) := by decide +kernel
theorem dX10_init_65 : decode cX10_init 65 = .ok (.putfield 40, 3) := by decide +kernel
theorem dX10_init_68 : decode cX10_init 68 = .ok (.aload_n 0, 1) := by decide +kernel
theorem dX10_init_69 : decode cX10_init 69 = .ok (.new 44, 3) := by decide +kernel
theorem dX10_init_72 : decode cX10_init 72 = .ok (.dup, 1) := by decide +kernel
theorem dX10_init_73 : decode cX10_init 73 = .ok (.aload_n 0, 1) := by decide +kernel
theorem dX10_init_74 : decode cX10_init 74 = .ok (.getfield 16, 3) := by decide +kernel
theorem dX10_init_77 : decode cX10_init 77 = .ok (.aload_n 0, 1) := by decide +kernel
theorem dX10_init_78 : decode cX10_init 78 = .ok (.getfield 30, 3) := by decide +kernel
theorem dX10_init_81 : decode cX10_init 81 = .ok (.invokespecial 46, 3) := by decide +kernel
theorem dX10_init_84 : decode cX10_init 84 = .ok (.putfield 49, 3) := by decide +kernel
theorem dX10_init_87 : decode cX10_init 87 = .ok (.aload_n 0, 1) := by decide +kernel
theorem dX10_init_88 : decode cX10_init 88 = .ok (.new 44, 3) := by decide +kernel
theorem dX10_init_91 : decode cX10_init 91 = .ok (.dup, 1) := by decide +kernel
theorem dX10_init_92 : decode cX10_init 92 = .ok (.aload_n 0, 1) := by decide +kernel
theorem dX10_init_93 : decode cX10_init 93 = .ok (.getfield 23, 3) := by decide +kernel
theorem dX10_init_96 : decode cX10_init 96 = .ok (.getfield 36, 3) := by decide +kernel
theorem dX10_init_99 : decode cX10_init 99 = .ok (.aload_n 0, 1) := by decide +kernel
theorem dX10_init_100 : decode cX10_init 100 = .ok (.getfield 30, 3) := by decide +kernel
theorem dX10_init_103 : decode cX10_init 103 = .ok (.invokespecial 46, 3) := by decide +kernel
theorem dX10_init_106 : decode cX10_init 106 = .ok (.putfield 53, 3) := by decide +kernel
theorem dX10_init_109 : decode cX10_init 109 = .ok (.aload_n 0, 1) := by decide +kernel
theorem dX10_init_110 : decode cX10_init 110 = .ok (.new 56, 3) := by decide +kernel
theorem dX10_init_113 : decode cX10_init 113 = .ok (.dup, 1) := by decide +kernel
theorem dX10_init_114 : decode cX10_init 114 = .ok (.aload_n 0, 1) := by decide +kernel
theorem dX10_init_115 : decode cX10_init 115 = .ok (.getfield 49, 3) := by decide +kernel
theorem dX10_init_118 : decode cX10_init 118 = .ok (.invokespecial 58, 3) := by decide +kernel
theorem dX10_init_121 : decode cX10_init 121 = .ok (.putfield 61, 3) := by decide +kernel
theorem dX10_init_124 : decode cX10_init 124 = .ok (.aload_n 0, 1) := by decide +kernel
theorem dX10_init_125 : decode cX10_init 125 = .ok (.new 65, 3) := by decide +kernel
theorem dX10_init_128 : decode cX10_init 128 = .ok (.dup, 1) := by decide +kernel
theorem dX10_init_129 : decode cX10_init 129 = .ok (.aload_n 0, 1) := by decide +kernel
theorem dX10_init_130 : decode cX10_init 130 = .ok (.getfield 16, 3) := by decide +kernel
theorem dX10_init_133 : decode cX10_init 133 = .ok (.aload_n 0, 1) := by decide +kernel
theorem dX10_init_134 : decode cX10_init 134 = .ok (.getfield 49, 3) := by decide +kernel
theorem dX10_init_137 : decode cX10_init 137 = .ok (.invokespecial 67, 3) := by decide +kernel
theorem dX10_init_140 : decode cX10_init 140 = .ok (.putfield 70, 3) := by decide +kernel
theorem dX10_init_143 : decode cX10_init 143 = .ok (.aload_n 0, 1) := by decide +kernel
theorem dX10_init_144 : decode cX10_init 144 = .ok (.new 74, 3) := by decide +kernel
theorem dX10_init_147 : decode cX10_init 147 = .ok (.dup, 1) := by decide +kernel
theorem dX10_init_148 : decode cX10_init 148 = .ok (.aload_n 0, 1) := by decide +kernel
theorem dX10_init_149 : decode cX10_init 149 = .ok (.getfield 16, 3) := by decide +kernel
theorem dX10_init_152 : decode cX10_init 152 = .ok (.aload_n 0, 1) := by decide +kernel
theorem dX10_init_153 : decode cX10_init 153 = .ok (.getfield 23, 3) := by decide +kernel
theorem dX10_init_156 : decode cX10_init 156 = .ok (.aload_n 0, 1) := by decide +kernel
theorem dX10_init_157 : decode cX10_init 157 = .ok (.getfield 53, 3) := by decide +kernel
theorem dX10_init_160 : decode cX10_init 160 = .ok (.invokespecial 76, 3) := by decide +kernel
theorem dX10_init_163 : decode cX10_init 163 = .ok (.putfield 79, 3) := by decide +kernel
theorem dX10_init_166 : decode cX10_init 166 = .ok (.aload_n 0, 1) := by decide +kernel
theorem dX10_init_167 : decode cX10_init 167 = .ok (.new 83, 3) := by decide +kernel
theorem dX10_init_170 : decode cX10_init 170 = .ok (.dup, 1) := by decide +kernel
theorem dX10_init_171 : decode cX10_init 171 = .ok (.aload_n 0, 1) := by decide +kernel
theorem dX10_init_172 : decode cX10_init 172 = .ok (.getfield 16, 3) := by decide +kernel
theorem dX10_init_175 : decode cX10_init 175 = .ok (.invokespecial 85, 3) := by decide +kernel
theorem dX10_init_178 : decode cX10_init 178 = .ok (.putfield 88, 3) := by decide +kernel
theorem dX10_init_181 : decode cX10_init 181 = .ok (.aload_n 0, 1) := by decide +kernel
theorem dX10_init_182 : decode cX10_init 182 = .ok (.new 92, 3) := by decide +kernel
theorem dX10_init_185 : decode cX10_init 185 = .ok (.dup, 1) := by decide +kernel
theorem dX10_init_186 : decode cX10_init 186 = .ok (.invokespecial 94, 3) := by decide +kernel
theorem dX10_init_189 : decode cX10_init 189 = .ok (.putfield 95, 3) := by decide +kernel
theorem dX10_init_192 : decode cX10_init 192 = .ok (.aload_n 0, 1) := by decide +kernel
theorem dX10_init_193 : decode cX10_init 193 = .ok (.iconst 3, 1) := by decide +kernel
theorem dX10_init_194 : decode cX10_init 194 = .ok (.anewarray 13, 3) := by decide +kernel
theorem dX10_init_197 : decode cX10_init 197 = .ok (.putfield 99, 3) := by decide +kernel
theorem dX10_init_200 : decode cX10_init 200 = .ok (.aload_n 0, 1) := by decide +kernel
theorem dX10_init_201 : decode cX10_init 201 = .ok (.iconst 3, 1) := by decide +kernel
theorem dX10_init_202 : decode cX10_init 202 = .ok (.newarray .boolean, 2) := by decide +kernel
theorem dX10_init_204 : decode cX10_init 204 = .ok (.putfield 103, 3) := by decide +kernel
theorem dX10_init_207 : decode cX10_init 207 = .ok (.iconst 0, 1) := by decide +kernel
theorem dX10_init_208 : decode cX10_init 208 = .ok (.istore_n 1, 1) := by decide +kernel
theorem dX10_init_209 : decode cX10_init 209 = .ok (.iload_n 1, 1) := by decide +kernel
theorem dX10_init_210 : decode cX10_init 210 = .ok (.iconst 3, 1) := by decide +kernel
theorem dX10_init_211 : decode cX10_init 211 = .ok (.if_icmp .ge 22, 3) := by decide +kernel
theorem dX10_init_214 : decode cX10_init 214 = .ok (.aload_n 0, 1) := by decide +kernel
theorem dX10_init_215 : decode cX10_init 215 = .ok (.getfield 99, 3) := by decide +kernel
theorem dX10_init_218 : decode cX10_init 218 = .ok (.iload_n 1, 1) := by decide +kernel
theorem dX10_init_219 : decode cX10_init 219 = .ok (.new 13, 3) := by decide +kernel
theorem dX10_init_222 : decode cX10_init 222 = .ok (.dup, 1) := by decide +kernel
theorem dX10_init_223 : decode cX10_init 223 = .ok (.invokespecial 15, 3) := by decide +kernel
theorem dX10_init_226 : decode cX10_init 226 = .ok (.aastore, 1) := by decide +kernel
theorem dX10_init_227 : decode cX10_init 227 = .ok (.iinc 1 1, 3) := by decide +kernel
theorem dX10_init_230 : decode cX10_init 230 = .ok (.goto (-21), 3) := by decide +kernel
theorem dX10_init_233 : decode cX10_init 233 = .ok (.return_, 1) := by decide +kernel
def zR1 : Nat → Nat → Option Nat := q_up zR0 0 0 (some 1)
theorem dX9_init_0 : decode cX9_init 0 = .ok (.aload_n 0, 1) := by decide +kernel
theorem dX9_init_1 : decode cX9_init 1 = .ok (.invokespecial 3, 3) := by decide +kernel
theorem dX9_init_4 : decode cX9_init 4 = .ok (.aload_n 0, 1) := by decide +kernel
theorem dX9_init_5 : decode cX9_init 5 = .ok (.bipush 8, 2) := by decide +kernel
theorem dX9_init_7 : decode cX9_init 7 = .ok (.newarray .long, 2) := by decide +kernel
theorem dX9_init_9 : decode cX9_init 9 = .ok (.putfield 9, 3) := by decide +kernel
theorem dX9_init_12 : decode cX9_init 12 = .ok (.aload_n 0, 1) := by decide +kernel
theorem dX9_init_13 : decode cX9_init 13 = .ok (.bipush 8, 2) := by decide +kernel
theorem dX9_init_15 : decode cX9_init 15 = .ok (.newarray .int, 2) := by decide +kernel
theorem dX9_init_17 : decode cX9_init 17 = .ok (.putfield 15, 3) := by decide +kernel
theorem dX9_init_20 : decode cX9_init 20 = .ok (.aload_n 0, 1) := by decide +kernel
theorem dX9_init_21 : decode cX9_init 21 = .ok (.bipush 40, 2) := by decide +kernel
theorem dX9_init_23 : decode cX9_init 23 = .ok (.newarray .int, 2) := by decide +kernel
theorem dX9_init_25 : decode cX9_init 25 = .ok (.putfield 19, 3) := by decide +kernel
theorem dX9_init_28 : decode cX9_init 28 = .ok (.aload_n 0, 1) := by decide +kernel
theorem dX9_init_29 : decode cX9_init 29 = .ok (.bipush 40, 2) := by decide +kernel
theorem dX9_init_31 : decode cX9_init 31 = .ok (.newarray .int, 2) := by decide +kernel
theorem dX9_init_33 : decode cX9_init 33 = .ok (.putfield 22, 3) := by decide +kernel
theorem dX9_init_36 : decode cX9_init 36 = .ok (.aload_n 0, 1) := by decide +kernel
theorem dX9_init_37 : decode cX9_init 37 = .ok (.bipush 40, 2) := by decide +kernel
theorem dX9_init_39 : decode cX9_init 39 = .ok (.newarray .int, 2) := by decide +kernel
theorem dX9_init_41 : decode cX9_init 41 = .ok (.putfield 25, 3) := by decide +kernel
theorem dX9_init_44 : decode cX9_init 44 = .ok (.aload_n 0, 1) := by decide +kernel
theorem dX9_init_45 : decode cX9_init 45 = .ok (.bipush 40, 2) := by decide +kernel
theorem dX9_init_47 : decode cX9_init 47 = .ok (.newarray .int, 2) := by decide +kernel
theorem dX9_init_49 : decode cX9_init 49 = .ok (.putfield 28, 3) := by decide +kernel
theorem dX9_init_52 : decode cX9_init 52 = .ok (.aload_n 0, 1) := by decide +kernel
theorem dX9_init_53 : decode cX9_init 53 = .ok (.bipush 40, 2) := by decide +kernel
theorem dX9_init_55 : decode cX9_init 55 = .ok (.newarray .int, 2) := by decide +kernel
theorem dX9_init_57 : decode cX9_init 57 = .ok (.putfield 31, 3) := by decide +kernel
theorem dX9_init_60 : decode cX9_init 60 = .ok (.aload_n 0, 1) := by decide +kernel
theorem dX9_init_61 : decode cX9_init 61 = .ok (.bipush 40, 2) := by decide +kernel
theorem dX9_init_63 : decode cX9_init 63 = .ok (.newarray .int, 2) := by decide +kernel
theorem dX9_init_65 : decode cX9_init 65 = .ok (.putfield 34, 3) := by decide +kernel
theorem dX9_init_68 : decode cX9_init 68 = .ok (.aload_n 0, 1) := by decide +kernel
theorem dX9_init_69 : decode cX9_init 69 = .ok (.bipush 120, 2) := by decide +kernel
theorem dX9_init_71 : decode cX9_init 71 = .ok (.newarray .int, 2) := by decide +kernel
theorem dX9_init_73 : decode cX9_init 73 = .ok (.putfield 37, 3) := by decide +kernel
theorem dX9_init_76 : decode cX9_init 76 = .ok (.aload_n 0, 1) := by decide +kernel
theorem dX9_init_77 : decode cX9_init 77 = .ok (.bipush 40, 2) := by decide +kernel
theorem dX9_init_79 : decode cX9_init 79 = .ok (.newarray .long, 2) := by decide +kernel
theorem dX9_init_81 : decode cX9_init 81 = .ok (.putfield 40, 3) := by decide +kernel
theorem dX9_init_84 : decode cX9_init 84 = .ok (.aload_n 0, 1) := by decide +kernel
theorem dX9_init_85 : decode cX9_init 85 = .ok (.bipush 40, 2) := by decide +kernel
theorem dX9_init_87 : decode cX9_init 87 = .ok (.newarray .int, 2) := by decide +kernel
theorem dX9_init_89 : decode cX9_init 89 = .ok (.putfield 43, 3) := by decide +kernel
theorem dX9_init_92 : decode cX9_init 92 = .ok (.aload_n 0, 1) := by decide +kernel
theorem dX9_init_93 : decode cX9_init 93 = .ok (.bipush 40, 2) := by decide +kernel
theorem dX9_init_95 : decode cX9_init 95 = .ok (.newarray .int, 2) := by decide +kernel
theorem dX9_init_97 : decode cX9_init 97 = .ok (.putfield 46, 3) := by decide +kernel
theorem dX9_init_100 : decode cX9_init 100 = .ok (.aload_n 0, 1) := by decide +kernel
theorem dX9_init_101 : decode cX9_init 101 = .ok (.bipush 40, 2) := by decide +kernel
theorem dX9_init_103 : decode cX9_init 103 = .ok (.newarray .int, 2) := by decide +kernel
theorem dX9_init_105 : decode cX9_init 105 = .ok (.putfield 49, 3) := by decide +kernel
theorem dX9_init_108 : decode cX9_init 108 = .ok (.aload_n 0, 1) := by decide +kernel
theorem dX9_init_109 : decode cX9_init 109 = .ok (.bipush 20, 2) := by decide +kernel
theorem dX9_init_111 : decode cX9_init 111 = .ok (.newarray .int, 2) := by decide +kernel
theorem dX9_init_113 : decode cX9_init 113 = .ok (.putfield 52, 3) := by decide +kernel
theorem dX9_init_116 : decode cX9_init 116 = .ok (.return_, 1) := by decide +kernel
def zR2 : Nat → Nat → Option Nat := q_up (q_up (q_up (q_up (q_up (q_up (q_up (q_up (q_up (q_up (q_up (q_up (q_up (q_up zR1 2 3 (some 3)) 2 4 (some 4)) 2 5 (some 5)) 2 6 (some 6)) 2 7 (some 7)) 2 8 (some 8)) 2 9 (some 9)) 2 10 (some 10)) 2 11 (some 11)) 2 12 (some 12)) 2 13 (some 13)) 2 14 (some 14)) 2 15 (some 15)) 2 16 (some 16)
set_option maxRecDepth 20000 in
theorem yX9_init_2 : q_met mX9_init (q_z zI0 zJ0 zR1 3) [.ref 2] (fun s r => s = q_z zI0 zJ0 zR2 17 ∧ r = none) := by
  refine q_enter (by decide) (Nat.le_of_ble_eq_true rfl) ?_
  refine q_aload_n dX9_init_0 rfl ?_
  refine q_obj dX9_init_1 lX9_3 ⟨rfl, rfl⟩ rfl ?_
  refine q_aload_n dX9_init_4 rfl ?_
  refine q_bi (v := 8) dX9_init_5 rfl ?_
  refine q_mka (t := 21) (N := 8) dX9_init_7 (Nat.le_of_ble_eq_true rfl) rfl (Or.inr (Or.inl ⟨rfl, rfl⟩)) q_ar_long rfl rfl (fun _ => rfl) (fun _ => rfl) (fun _ => rfl) (kc' := 1) (ks' := 8) rfl rfl ⟨rfl, rfl⟩ ?_
  refine q_putR (c := 9) (n := 0) (k := 3) dX9_init_9 rfl (by decide) (by decide) fX9_9 rfl rfl rfl (Or.inr ⟨_, rfl⟩) ?_
  show q_K _ (q_z zI0 zJ0 (q_up zR1 2 3 (some 3)) 4) _ _ _ _ _ _
  refine q_aload_n dX9_init_12 rfl ?_
  refine q_bi (v := 8) dX9_init_13 rfl ?_
  refine q_mka (t := 20) (N := 8) dX9_init_15 (Nat.le_of_ble_eq_true rfl) rfl (Or.inl ⟨rfl, rfl⟩) q_ar_int rfl rfl (fun _ => rfl) (fun _ => rfl) (fun _ => rfl) (kc' := 2) (ks' := 16) rfl rfl ⟨rfl, rfl⟩ ?_
  refine q_putR (c := 9) (n := 0) (k := 4) dX9_init_17 rfl (by decide) (by decide) fX9_15 rfl rfl rfl (Or.inr ⟨_, rfl⟩) ?_
  show q_K _ (q_z zI0 zJ0 (q_up (q_up zR1 2 3 (some 3)) 2 4 (some 4)) 5) _ _ _ _ _ _
  refine q_aload_n dX9_init_20 rfl ?_
  refine q_bi (v := 40) dX9_init_21 rfl ?_
  refine q_mka (t := 20) (N := 40) dX9_init_23 (Nat.le_of_ble_eq_true rfl) rfl (Or.inl ⟨rfl, rfl⟩) q_ar_int rfl rfl (fun _ => rfl) (fun _ => rfl) (fun _ => rfl) (kc' := 3) (ks' := 56) rfl rfl ⟨rfl, rfl⟩ ?_
  refine q_putR (c := 9) (n := 0) (k := 5) dX9_init_25 rfl (by decide) (by decide) fX9_19 rfl rfl rfl (Or.inr ⟨_, rfl⟩) ?_
  show q_K _ (q_z zI0 zJ0 (q_up (q_up (q_up zR1 2 3 (some 3)) 2 4 (some 4)) 2 5 (some 5)) 6) _ _ _ _ _ _
  refine q_aload_n dX9_init_28 rfl ?_
  refine q_bi (v := 40) dX9_init_29 rfl ?_
  refine q_mka (t := 20) (N := 40) dX9_init_31 (Nat.le_of_ble_eq_true rfl) rfl (Or.inl ⟨rfl, rfl⟩) q_ar_int rfl rfl (fun _ => rfl) (fun _ => rfl) (fun _ => rfl) (kc' := 4) (ks' := 96) rfl rfl ⟨rfl, rfl⟩ ?_
  refine q_putR (c := 9) (n := 0) (k := 6) dX9_init_33 rfl (by decide) (by decide) fX9_22 rfl rfl rfl (Or.inr ⟨_, rfl⟩) ?_
  show q_K _ (q_z zI0 zJ0 (q_up (q_up (q_up (q_up zR1 2 3 (some 3)) 2 4 (some 4)) 2 5 (some 5)) 2 6 (some 6)) 7) _ _ _ _ _ _
  refine q_aload_n dX9_init_36 rfl ?_
  refine q_bi (v := 40) dX9_init_37 rfl ?_
  refine q_mka (t := 20) (N := 40) dX9_init_39 (Nat.le_of_ble_eq_true rfl) rfl (Or.inl ⟨rfl, rfl⟩) q_ar_int rfl rfl (fun _ => rfl) (fun _ => rfl) (fun _ => rfl) (kc' := 5) (ks' := 136) rfl rfl ⟨rfl, rfl⟩ ?_
  refine q_putR (c := 9) (n := 0) (k := 7) dX9_init_41 rfl (by decide) (by decide) fX9_25 rfl rfl rfl (Or.inr ⟨_, rfl⟩) ?_
  show q_K _ (q_z zI0 zJ0 (q_up (q_up (q_up (q_up (q_up zR1 2 3 (some 3)) 2 4 (some 4)) 2 5 (some 5)) 2 6 (some 6)) 2 7 (some 7)) 8) _ _ _ _ _ _
  refine q_aload_n dX9_init_44 rfl ?_
  refine q_bi (v := 40) dX9_init_45 rfl ?_
  refine q_mka (t := 20) (N := 40) dX9_init_47 (Nat.le_of_ble_eq_true rfl) rfl (Or.inl ⟨rfl, rfl⟩) q_ar_int rfl rfl (fun _ => rfl) (fun _ => rfl) (fun _ => rfl) (kc' := 6) (ks' := 176) rfl rfl ⟨rfl, rfl⟩ ?_
  refine q_putR (c := 9) (n := 0) (k := 8) dX9_init_49 rfl (by decide) (by decide) fX9_28 rfl rfl rfl (Or.inr ⟨_, rfl⟩) ?_
  show q_K _ (q_z zI0 zJ0 (q_up (q_up (q_up (q_up (q_up (q_up zR1 2 3 (some 3)) 2 4 (some 4)) 2 5 (some 5)) 2 6 (some 6)) 2 7 (some 7)) 2 8 (some 8)) 9) _ _ _ _ _ _
  refine q_aload_n dX9_init_52 rfl ?_
  refine q_bi (v := 40) dX9_init_53 rfl ?_
  refine q_mka (t := 20) (N := 40) dX9_init_55 (Nat.le_of_ble_eq_true rfl) rfl (Or.inl ⟨rfl, rfl⟩) q_ar_int rfl rfl (fun _ => rfl) (fun _ => rfl) (fun _ => rfl) (kc' := 7) (ks' := 216) rfl rfl ⟨rfl, rfl⟩ ?_
  refine q_putR (c := 9) (n := 0) (k := 9) dX9_init_57 rfl (by decide) (by decide) fX9_31 rfl rfl rfl (Or.inr ⟨_, rfl⟩) ?_
  show q_K _ (q_z zI0 zJ0 (q_up (q_up (q_up (q_up (q_up (q_up (q_up zR1 2 3 (some 3)) 2 4 (some 4)) 2 5 (some 5)) 2 6 (some 6)) 2 7 (some 7)) 2 8 (some 8)) 2 9 (some 9)) 10) _ _ _ _ _ _
  refine q_aload_n dX9_init_60 rfl ?_
  refine q_bi (v := 40) dX9_init_61 rfl ?_
  refine q_mka (t := 20) (N := 40) dX9_init_63 (Nat.le_of_ble_eq_true rfl) rfl (Or.inl ⟨rfl, rfl⟩) q_ar_int rfl rfl (fun _ => rfl) (fun _ => rfl) (fun _ => rfl) (kc' := 8) (ks' := 256) rfl rfl ⟨rfl, rfl⟩ ?_
  refine q_putR (c := 9) (n := 0) (k := 10) dX9_init_65 rfl (by decide) (by decide) fX9_34 rfl rfl rfl (Or.inr ⟨_, rfl⟩) ?_
  show q_K _ (q_z zI0 zJ0 (q_up (q_up (q_up (q_up (q_up (q_up (q_up (q_up zR1 2 3 (some 3)) 2 4 (some 4)) 2 5 (some 5)) 2 6 (some 6)) 2 7 (some 7)) 2 8 (some 8)) 2 9 (some 9)) 2 10 (some 10)) 11) _ _ _ _ _ _
  refine q_aload_n dX9_init_68 rfl ?_
  refine q_bi (v := 120) dX9_init_69 rfl ?_
  refine q_mka (t := 20) (N := 120) dX9_init_71 (Nat.le_of_ble_eq_true rfl) rfl (Or.inl ⟨rfl, rfl⟩) q_ar_int rfl rfl (fun _ => rfl) (fun _ => rfl) (fun _ => rfl) (kc' := 9) (ks' := 376) rfl rfl ⟨rfl, rfl⟩ ?_
  refine q_putR (c := 9) (n := 0) (k := 11) dX9_init_73 rfl (by decide) (by decide) fX9_37 rfl rfl rfl (Or.inr ⟨_, rfl⟩) ?_
  show q_K _ (q_z zI0 zJ0 (q_up (q_up (q_up (q_up (q_up (q_up (q_up (q_up (q_up zR1 2 3 (some 3)) 2 4 (some 4)) 2 5 (some 5)) 2 6 (some 6)) 2 7 (some 7)) 2 8 (some 8)) 2 9 (some 9)) 2 10 (some 10)) 2 11 (some 11)) 12) _ _ _ _ _ _
  refine q_aload_n dX9_init_76 rfl ?_
  refine q_bi (v := 40) dX9_init_77 rfl ?_
  refine q_mka (t := 21) (N := 40) dX9_init_79 (Nat.le_of_ble_eq_true rfl) rfl (Or.inr (Or.inl ⟨rfl, rfl⟩)) q_ar_long rfl rfl (fun _ => rfl) (fun _ => rfl) (fun _ => rfl) (kc' := 10) (ks' := 416) rfl rfl ⟨rfl, rfl⟩ ?_
  refine q_putR (c := 9) (n := 0) (k := 12) dX9_init_81 rfl (by decide) (by decide) fX9_40 rfl rfl rfl (Or.inr ⟨_, rfl⟩) ?_
  show q_K _ (q_z zI0 zJ0 (q_up (q_up (q_up (q_up (q_up (q_up (q_up (q_up (q_up (q_up zR1 2 3 (some 3)) 2 4 (some 4)) 2 5 (some 5)) 2 6 (some 6)) 2 7 (some 7)) 2 8 (some 8)) 2 9 (some 9)) 2 10 (some 10)) 2 11 (some 11)) 2 12 (some 12)) 13) _ _ _ _ _ _
  refine q_aload_n dX9_init_84 rfl ?_
  refine q_bi (v := 40) dX9_init_85 rfl ?_
  refine q_mka (t := 20) (N := 40) dX9_init_87 (Nat.le_of_ble_eq_true rfl) rfl (Or.inl ⟨rfl, rfl⟩) q_ar_int rfl rfl (fun _ => rfl) (fun _ => rfl) (fun _ => rfl) (kc' := 11) (ks' := 456) rfl rfl ⟨rfl, rfl⟩ ?_
  refine q_putR (c := 9) (n := 0) (k := 13) dX9_init_89 rfl (by decide) (by decide) fX9_43 rfl rfl rfl (Or.inr ⟨_, rfl⟩) ?_
  show q_K _ (q_z zI0 zJ0 (q_up (q_up (q_up (q_up (q_up (q_up (q_up (q_up (q_up (q_up (q_up zR1 2 3 (some 3)) 2 4 (some 4)) 2 5 (some 5)) 2 6 (some 6)) 2 7 (some 7)) 2 8 (some 8)) 2 9 (some 9)) 2 10 (some 10)) 2 11 (some 11)) 2 12 (some 12)) 2 13 (some 13)) 14) _ _ _ _ _ _
  refine q_aload_n dX9_init_92 rfl ?_
  refine q_bi (v := 40) dX9_init_93 rfl ?_
  refine q_mka (t := 20) (N := 40) dX9_init_95 (Nat.le_of_ble_eq_true rfl) rfl (Or.inl ⟨rfl, rfl⟩) q_ar_int rfl rfl (fun _ => rfl) (fun _ => rfl) (fun _ => rfl) (kc' := 12) (ks' := 496) rfl rfl ⟨rfl, rfl⟩ ?_
  refine q_putR (c := 9) (n := 0) (k := 14) dX9_init_97 rfl (by decide) (by decide) fX9_46 rfl rfl rfl (Or.inr ⟨_, rfl⟩) ?_
  show q_K _ (q_z zI0 zJ0 (q_up (q_up (q_up (q_up (q_up (q_up (q_up (q_up (q_up (q_up (q_up (q_up zR1 2 3 (some 3)) 2 4 (some 4)) 2 5 (some 5)) 2 6 (some 6)) 2 7 (some 7)) 2 8 (some 8)) 2 9 (some 9)) 2 10 (some 10)) 2 11 (some 11)) 2 12 (some 12)) 2 13 (some 13)) 2 14 (some 14)) 15) _ _ _ _ _ _
  refine q_aload_n dX9_init_100 rfl ?_
  refine q_bi (v := 40) dX9_init_101 rfl ?_
  refine q_mka (t := 20) (N := 40) dX9_init_103 (Nat.le_of_ble_eq_true rfl) rfl (Or.inl ⟨rfl, rfl⟩) q_ar_int rfl rfl (fun _ => rfl) (fun _ => rfl) (fun _ => rfl) (kc' := 13) (ks' := 536) rfl rfl ⟨rfl, rfl⟩ ?_
  refine q_putR (c := 9) (n := 0) (k := 15) dX9_init_105 rfl (by decide) (by decide) fX9_49 rfl rfl rfl (Or.inr ⟨_, rfl⟩) ?_
  show q_K _ (q_z zI0 zJ0 (q_up (q_up (q_up (q_up (q_up (q_up (q_up (q_up (q_up (q_up (q_up (q_up (q_up zR1 2 3 (some 3)) 2 4 (some 4)) 2 5 (some 5)) 2 6 (some 6)) 2 7 (some 7)) 2 8 (some 8)) 2 9 (some 9)) 2 10 (some 10)) 2 11 (some 11)) 2 12 (some 12)) 2 13 (some 13)) 2 14 (some 14)) 2 15 (some 15)) 16) _ _ _ _ _ _
  refine q_aload_n dX9_init_108 rfl ?_
  refine q_bi (v := 20) dX9_init_109 rfl ?_
  refine q_mka (t := 20) (N := 20) dX9_init_111 (Nat.le_of_ble_eq_true rfl) rfl (Or.inl ⟨rfl, rfl⟩) q_ar_int rfl rfl (fun _ => rfl) (fun _ => rfl) (fun _ => rfl) (kc' := 14) (ks' := 556) rfl rfl ⟨rfl, rfl⟩ ?_
  refine q_putR (c := 9) (n := 0) (k := 16) dX9_init_113 rfl (by decide) (by decide) fX9_52 rfl rfl rfl (Or.inr ⟨_, rfl⟩) ?_
  show q_K _ (q_z zI0 zJ0 (q_up (q_up (q_up (q_up (q_up (q_up (q_up (q_up (q_up (q_up (q_up (q_up (q_up (q_up zR1 2 3 (some 3)) 2 4 (some 4)) 2 5 (some 5)) 2 6 (some 6)) 2 7 (some 7)) 2 8 (some 8)) 2 9 (some 9)) 2 10 (some 10)) 2 11 (some 11)) 2 12 (some 12)) 2 13 (some 13)) 2 14 (some 14)) 2 15 (some 15)) 2 16 (some 16)) 17) _ _ _ _ _ _
  exact q_endv dX9_init_116 rfl ⟨rfl, rfl⟩ ⟨rfl, rfl⟩
def zR3 : Nat → Nat → Option Nat := q_up zR2 0 3 (some 2)
theorem dX2_init_0 : decode cX2_init 0 = .ok (.aload_n 0, 1) := by decide +kernel
theorem dX2_init_1 : decode cX2_init 1 = .ok (.invokespecial 3, 3) := by decide +kernel
theorem dX2_init_4 : decode cX2_init 4 = .ok (.aload_n 0, 1) := by decide +kernel
theorem dX2_init_5 : decode cX2_init 5 = .ok (.new 9, 3) := by decide +kernel
theorem dX2_init_8 : decode cX2_init 8 = .ok (.dup, 1) := by decide +kernel
theorem dX2_init_9 : decode cX2_init 9 = .ok (.invokespecial 11, 3) := by decide +kernel
theorem dX2_init_12 : decode cX2_init 12 = .ok (.putfield 12, 3) := by decide +kernel
theorem dX2_init_15 : decode cX2_init 15 = .ok (.aload_n 0, 1) := by decide +kernel
theorem dX2_init_16 : decode cX2_init 16 = .ok (.bipush 40, 2) := by decide +kernel
theorem dX2_init_18 : decode cX2_init 18 = .ok (.newarray .int, 2) := by decide +kernel
theorem dX2_init_20 : decode cX2_init 20 = .ok (.putfield 18, 3) := by decide +kernel
theorem dX2_init_23 : decode cX2_init 23 = .ok (.aload_n 0, 1) := by decide +kernel
theorem dX2_init_24 : decode cX2_init 24 = .ok (.bipush 48, 2) := by decide +kernel
theorem dX2_init_26 : decode cX2_init 26 = .ok (.newarray .int, 2) := by decide +kernel
theorem dX2_init_28 : decode cX2_init 28 = .ok (.putfield 22, 3) := by decide +kernel
theorem dX2_init_31 : decode cX2_init 31 = .ok (.aload_n 0, 1) := by decide +kernel
theorem dX2_init_32 : decode cX2_init 32 = .ok (.bipush 43, 2) := by decide +kernel
theorem dX2_init_34 : decode cX2_init 34 = .ok (.newarray .int, 2) := by decide +kernel
theorem dX2_init_36 : decode cX2_init 36 = .ok (.putfield 25, 3) := by decide +kernel
theorem dX2_init_39 : decode cX2_init 39 = .ok (.aload_n 0, 1) := by decide +kernel
theorem dX2_init_40 : decode cX2_init 40 = .ok (.bipush 43, 2) := by decide +kernel
theorem dX2_init_42 : decode cX2_init 42 = .ok (.newarray .int, 2) := by decide +kernel
theorem dX2_init_44 : decode cX2_init 44 = .ok (.putfield 28, 3) := by decide +kernel
theorem dX2_init_47 : decode cX2_init 47 = .ok (.aload_n 0, 1) := by decide +kernel
theorem dX2_init_48 : decode cX2_init 48 = .ok (.bipush 43, 2) := by decide +kernel
theorem dX2_init_50 : decode cX2_init 50 = .ok (.newarray .int, 2) := by decide +kernel
theorem dX2_init_52 : decode cX2_init 52 = .ok (.putfield 31, 3) := by decide +kernel
theorem dX2_init_55 : decode cX2_init 55 = .ok (.return_, 1) := by decide +kernel
def zR4 : Nat → Nat → Option Nat := q_up (q_up (q_up (q_up (q_up (q_up (q_up (q_up (q_up (q_up (q_up (q_up (q_up (q_up zR3 18 3 (some 19)) 18 4 (some 20)) 18 5 (some 21)) 18 6 (some 22)) 18 7 (some 23)) 18 8 (some 24)) 18 9 (some 25)) 18 10 (some 26)) 18 11 (some 27)) 18 12 (some 28)) 18 13 (some 29)) 18 14 (some 30)) 18 15 (some 31)) 18 16 (some 32)
set_option maxRecDepth 20000 in
theorem yX9_init_18 : q_met mX9_init (q_z zI0 zJ0 zR3 19) [.ref 18] (fun s r => s = q_z zI0 zJ0 zR4 33 ∧ r = none) := by
  refine q_enter (by decide) (Nat.le_of_ble_eq_true rfl) ?_
  refine q_aload_n dX9_init_0 rfl ?_
  refine q_obj dX9_init_1 lX9_3 ⟨rfl, rfl⟩ rfl ?_
  refine q_aload_n dX9_init_4 rfl ?_
  refine q_bi (v := 8) dX9_init_5 rfl ?_
  refine q_mka (t := 21) (N := 8) dX9_init_7 (Nat.le_of_ble_eq_true rfl) rfl (Or.inr (Or.inl ⟨rfl, rfl⟩)) q_ar_long rfl rfl (fun _ => rfl) (fun _ => rfl) (fun _ => rfl) (kc' := 1) (ks' := 8) rfl rfl ⟨rfl, rfl⟩ ?_
  refine q_putR (c := 9) (n := 0) (k := 3) dX9_init_9 rfl (by decide) (by decide) fX9_9 rfl rfl rfl (Or.inr ⟨_, rfl⟩) ?_
  show q_K _ (q_z zI0 zJ0 (q_up zR3 18 3 (some 19)) 20) _ _ _ _ _ _
  refine q_aload_n dX9_init_12 rfl ?_
  refine q_bi (v := 8) dX9_init_13 rfl ?_
  refine q_mka (t := 20) (N := 8) dX9_init_15 (Nat.le_of_ble_eq_true rfl) rfl (Or.inl ⟨rfl, rfl⟩) q_ar_int rfl rfl (fun _ => rfl) (fun _ => rfl) (fun _ => rfl) (kc' := 2) (ks' := 16) rfl rfl ⟨rfl, rfl⟩ ?_
  refine q_putR (c := 9) (n := 0) (k := 4) dX9_init_17 rfl (by decide) (by decide) fX9_15 rfl rfl rfl (Or.inr ⟨_, rfl⟩) ?_
  show q_K _ (q_z zI0 zJ0 (q_up (q_up zR3 18 3 (some 19)) 18 4 (some 20)) 21) _ _ _ _ _ _
  refine q_aload_n dX9_init_20 rfl ?_
  refine q_bi (v := 40) dX9_init_21 rfl ?_
  refine q_mka (t := 20) (N := 40) dX9_init_23 (Nat.le_of_ble_eq_true rfl) rfl (Or.inl ⟨rfl, rfl⟩) q_ar_int rfl rfl (fun _ => rfl) (fun _ => rfl) (fun _ => rfl) (kc' := 3) (ks' := 56) rfl rfl ⟨rfl, rfl⟩ ?_
  refine q_putR (c := 9) (n := 0) (k := 5) dX9_init_25 rfl (by decide) (by decide) fX9_19 rfl rfl rfl (Or.inr ⟨_, rfl⟩) ?_
  show q_K _ (q_z zI0 zJ0 (q_up (q_up (q_up zR3 18 3 (some 19)) 18 4 (some 20)) 18 5 (some 21)) 22) _ _ _ _ _ _
  refine q_aload_n dX9_init_28 rfl ?_
  refine q_bi (v := 40) dX9_init_29 rfl ?_
  refine q_mka (t := 20) (N := 40) dX9_init_31 (Nat.le_of_ble_eq_true rfl) rfl (Or.inl ⟨rfl, rfl⟩) q_ar_int rfl rfl (fun _ => rfl) (fun _ => rfl) (fun _ => rfl) (kc' := 4) (ks' := 96) rfl rfl ⟨rfl, rfl⟩ ?_
  refine q_putR (c := 9) (n := 0) (k := 6) dX9_init_33 rfl (by decide) (by decide) fX9_22 rfl rfl rfl (Or.inr ⟨_, rfl⟩) ?_
  show q_K _ (q_z zI0 zJ0 (q_up (q_up (q_up (q_up zR3 18 3 (some 19)) 18 4 (some 20)) 18 5 (some 21)) 18 6 (some 22)) 23) _ _ _ _ _ _
  refine q_aload_n dX9_init_36 rfl ?_
  refine q_bi (v := 40) dX9_init_37 rfl ?_
  refine q_mka (t := 20) (N := 40) dX9_init_39 (Nat.le_of_ble_eq_true rfl) rfl (Or.inl ⟨rfl, rfl⟩) q_ar_int rfl rfl (fun _ => rfl) (fun _ => rfl) (fun _ => rfl) (kc' := 5) (ks' := 136) rfl rfl ⟨rfl, rfl⟩ ?_
  refine q_putR (c := 9) (n := 0) (k := 7) dX9_init_41 rfl (by decide) (by decide) fX9_25 rfl rfl rfl (Or.inr ⟨_, rfl⟩) ?_
  show q_K _ (q_z zI0 zJ0 (q_up (q_up (q_up (q_up (q_up zR3 18 3 (some 19)) 18 4 (some 20)) 18 5 (some 21)) 18 6 (some 22)) 18 7 (some 23)) 24) _ _ _ _ _ _
  refine q_aload_n dX9_init_44 rfl ?_
  refine q_bi (v := 40) dX9_init_45 rfl ?_
  refine q_mka (t := 20) (N := 40) dX9_init_47 (Nat.le_of_ble_eq_true rfl) rfl (Or.inl ⟨rfl, rfl⟩) q_ar_int rfl rfl (fun _ => rfl) (fun _ => rfl) (fun _ => rfl) (kc' := 6) (ks' := 176) rfl rfl ⟨rfl, rfl⟩ ?_
  refine q_putR (c := 9) (n := 0) (k := 8) dX9_init_49 rfl (by decide) (by decide) fX9_28 rfl rfl rfl (Or.inr ⟨_, rfl⟩) ?_
  show q_K _ (q_z zI0 zJ0 (q_up (q_up (q_up (q_up (q_up (q_up zR3 18 3 (some 19)) 18 4 (some 20)) 18 5 (some 21)) 18 6 (some 22)) 18 7 (some 23)) 18 8 (some 24)) 25) _ _ _ _ _ _
  refine q_aload_n dX9_init_52 rfl ?_
  refine q_bi (v := 40) dX9_init_53 rfl ?_
  refine q_mka (t := 20) (N := 40) dX9_init_55 (Nat.le_of_ble_eq_true rfl) rfl (Or.inl ⟨rfl, rfl⟩) q_ar_int rfl rfl (fun _ => rfl) (fun _ => rfl) (fun _ => rfl) (kc' := 7) (ks' := 216) rfl rfl ⟨rfl, rfl⟩ ?_
  refine q_putR (c := 9) (n := 0) (k := 9) dX9_init_57 rfl (by decide) (by decide) fX9_31 rfl rfl rfl (Or.inr ⟨_, rfl⟩) ?_
  show q_K _ (q_z zI0 zJ0 (q_up (q_up (q_up (q_up (q_up (q_up (q_up zR3 18 3 (some 19)) 18 4 (some 20)) 18 5 (some 21)) 18 6 (some 22)) 18 7 (some 23)) 18 8 (some 24)) 18 9 (some 25)) 26) _ _ _ _ _ _
  refine q_aload_n dX9_init_60 rfl ?_
  refine q_bi (v := 40) dX9_init_61 rfl ?_
  refine q_mka (t := 20) (N := 40) dX9_init_63 (Nat.le_of_ble_eq_true rfl) rfl (Or.inl ⟨rfl, rfl⟩) q_ar_int rfl rfl (fun _ => rfl) (fun _ => rfl) (fun _ => rfl) (kc' := 8) (ks' := 256) rfl rfl ⟨rfl, rfl⟩ ?_
  refine q_putR (c := 9) (n := 0) (k := 10) dX9_init_65 rfl (by decide) (by decide) fX9_34 rfl rfl rfl (Or.inr ⟨_, rfl⟩) ?_
  show q_K _ (q_z zI0 zJ0 (q_up (q_up (q_up (q_up (q_up (q_up (q_up (q_up zR3 18 3 (some 19)) 18 4 (some 20)) 18 5 (some 21)) 18 6 (some 22)) 18 7 (some 23)) 18 8 (some 24)) 18 9 (some 25)) 18 10 (some 26)) 27) _ _ _ _ _ _
  refine q_aload_n dX9_init_68 rfl ?_
  refine q_bi (v := 120) dX9_init_69 rfl ?_
  refine q_mka (t := 20) (N := 120) dX9_init_71 (Nat.le_of_ble_eq_true rfl) rfl (Or.inl ⟨rfl, rfl⟩) q_ar_int rfl rfl (fun _ => rfl) (fun _ => rfl) (fun _ => rfl) (kc' := 9) (ks' := 376) rfl rfl ⟨rfl, rfl⟩ ?_
  refine q_putR (c := 9) (n := 0) (k := 11) dX9_init_73 rfl (by decide) (by decide) fX9_37 rfl rfl rfl (Or.inr ⟨_, rfl⟩) ?_
  show q_K _ (q_z zI0 zJ0 (q_up (q_up (q_up (q_up (q_up (q_up (q_up (q_up (q_up zR3 18 3 (some 19)) 18 4 (some 20)) 18 5 (some 21)) 18 6 (some 22)) 18 7 (some 23)) 18 8 (some 24)) 18 9 (some 25)) 18 10 (some 26)) 18 11 (some 27)) 28) _ _ _ _ _ _
  refine q_aload_n dX9_init_76 rfl ?_
  refine q_bi (v := 40) dX9_init_77 rfl ?_
  refine q_mka (t := 21) (N := 40) dX9_init_79 (Nat.le_of_ble_eq_true rfl) rfl (Or.inr (Or.inl ⟨rfl, rfl⟩)) q_ar_long rfl rfl (fun _ => rfl) (fun _ => rfl) (fun _ => rfl) (kc' := 10) (ks' := 416) rfl rfl ⟨rfl, rfl⟩ ?_
  refine q_putR (c := 9) (n := 0) (k := 12) dX9_init_81 rfl (by decide) (by decide) fX9_40 rfl rfl rfl (Or.inr ⟨_, rfl⟩) ?_
  show q_K _ (q_z zI0 zJ0 (q_up (q_up (q_up (q_up (q_up (q_up (q_up (q_up (q_up (q_up zR3 18 3 (some 19)) 18 4 (some 20)) 18 5 (some 21)) 18 6 (some 22)) 18 7 (some 23)) 18 8 (some 24)) 18 9 (some 25)) 18 10 (some 26)) 18 11 (some 27)) 18 12 (some 28)) 29) _ _ _ _ _ _
  refine q_aload_n dX9_init_84 rfl ?_
  refine q_bi (v := 40) dX9_init_85 rfl ?_
  refine q_mka (t := 20) (N := 40) dX9_init_87 (Nat.le_of_ble_eq_true rfl) rfl (Or.inl ⟨rfl, rfl⟩) q_ar_int rfl rfl (fun _ => rfl) (fun _ => rfl) (fun _ => rfl) (kc' := 11) (ks' := 456) rfl rfl ⟨rfl, rfl⟩ ?_
  refine q_putR (c := 9) (n := 0) (k := 13) dX9_init_89 rfl (by decide) (by decide) fX9_43 rfl rfl rfl (Or.inr ⟨_, rfl⟩) ?_
  show q_K _ (q_z zI0 zJ0 (q_up (q_up (q_up (q_up (q_up (q_up (q_up (q_up (q_up (q_up (q_up zR3 18 3 (some 19)) 18 4 (some 20)) 18 5 (some 21)) 18 6 (some 22)) 18 7 (some 23)) 18 8 (some 24)) 18 9 (some 25)) 18 10 (some 26)) 18 11 (some 27)) 18 12 (some 28)) 18 13 (some 29)) 30) _ _ _ _ _ _
  refine q_aload_n dX9_init_92 rfl ?_
  refine q_bi (v := 40) dX9_init_93 rfl ?_
  refine q_mka (t := 20) (N := 40) dX9_init_95 (Nat.le_of_ble_eq_true rfl) rfl (Or.inl ⟨rfl, rfl⟩) q_ar_int rfl rfl (fun _ => rfl) (fun _ => rfl) (fun _ => rfl) (kc' := 12) (ks' := 496) rfl rfl ⟨rfl, rfl⟩ ?_
  refine q_putR (c := 9) (n := 0) (k := 14) dX9_init_97 rfl (by decide) (by decide) fX9_46 rfl rfl rfl (Or.inr ⟨_, rfl⟩) ?_
  show q_K _ (q_z zI0 zJ0 (q_up (q_up (q_up (q_up (q_up (q_up (q_up (q_up (q_up (q_up (q_up (q_up zR3 18 3 (some 19)) 18 4 (some 20)) 18 5 (some 21)) 18 6 (some 22)) 18 7 (some 23)) 18 8 (some 24)) 18 9 (some 25)) 18 10 (some 26)) 18 11 (some 27)) 18 12 (some 28)) 18 13 (some 29)) 18 14 (some 30)) 31) _ _ _ _ _ _
  refine q_aload_n dX9_init_100 rfl ?_
  refine q_bi (v := 40) dX9_init_101 rfl ?_
  refine q_mka (t := 20) (N := 40) dX9_init_103 (Nat.le_of_ble_eq_true rfl) rfl (Or.inl ⟨rfl, rfl⟩) q_ar_int rfl rfl (fun _ => rfl) (fun _ => rfl) (fun _ => rfl) (kc' := 13) (ks' := 536) rfl rfl ⟨rfl, rfl⟩ ?_
  refine q_putR (c := 9) (n := 0) (k := 15) dX9_init_105 rfl (by decide) (by decide) fX9_49 rfl rfl rfl (Or.inr ⟨_, rfl⟩) ?_
  show q_K _ (q_z zI0 zJ0 (q_up (q_up (q_up (q_up (q_up (q_up (q_up (q_up (q_up (q_up (q_up (q_up (q_up zR3 18 3 (some 19)) 18 4 (some 20)) 18 5 (some 21)) 18 6 (some 22)) 18 7 (some 23)) 18 8 (some 24)) 18 9 (some 25)) 18 10 (some 26)) 18 11 (some 27)) 18 12 (some 28)) 18 13 (some 29)) 18 14 (some 30)) 18 15 (some 31)) 32) _ _ _ _ _ _
  refine q_aload_n dX9_init_108 rfl ?_
  refine q_bi (v := 20) dX9_init_109 rfl ?_
  refine q_mka (t := 20) (N := 20) dX9_init_111 (Nat.le_of_ble_eq_true rfl) rfl (Or.inl ⟨rfl, rfl⟩) q_ar_int rfl rfl (fun _ => rfl) (fun _ => rfl) (fun _ => rfl) (kc' := 14) (ks' := 556) rfl rfl ⟨rfl, rfl⟩ ?_
  refine q_putR (c := 9) (n := 0) (k := 16) dX9_init_113 rfl (by decide) (by decide) fX9_52 rfl rfl rfl (Or.inr ⟨_, rfl⟩) ?_
  show q_K _ (q_z zI0 zJ0 (q_up (q_up (q_up (q_up (q_up (q_up (q_up (q_up (q_up (q_up (q_up (q_up (q_up (q_up zR3 18 3 (some 19)) 18 4 (some 20)) 18 5 (some 21)) 18 6 (some 22)) 18 7 (some 23)) 18 8 (some 24)) 18 9 (some 25)) 18 10 (some 26)) 18 11 (some 27)) 18 12 (some 28)) 18 13 (some 29)) 18 14 (some 30)) 18 15 (some 31)) 18 16 (some 32)) 33) _ _ _ _ _ _
  exact q_endv dX9_init_116 rfl ⟨rfl, rfl⟩ ⟨rfl, rfl⟩
def zR5 : Nat → Nat → Option Nat := q_up (q_up (q_up (q_up (q_up (q_up zR4 17 0 (some 18)) 17 1 (some 33)) 17 2 (some 34)) 17 3 (some 35)) 17 4 (some 36)) 17 5 (some 37)
set_option maxRecDepth 20000 in
theorem yX2_init_17 : q_met mX2_init (q_z zI0 zJ0 zR3 18) [.ref 17] (fun s r => s = q_z zI0 zJ0 zR5 38 ∧ r = none) := by
  refine q_enter (by decide) (Nat.le_of_ble_eq_true rfl) ?_
  refine q_aload_n dX2_init_0 rfl ?_
  refine q_obj dX2_init_1 lX2_3 ⟨rfl, rfl⟩ rfl ?_
  refine q_aload_n dX2_init_4 rfl ?_
  refine q_mko (ci := 9) dX2_init_5 (by decide) (Nat.lt_of_lt_of_le (Nat.lt_of_le_of_lt (Nat.le_refl _) (Nat.le_of_ble_eq_true rfl)) (Nat.le_refl 1000)) rfl kX2_9 iX9 zX9 (fun _ => rfl) (fun _ => rfl) (fun _ => rfl) (kc' := 1) (ks' := 17) rfl rfl ⟨rfl, rfl⟩ ?_
  refine q_dup dX2_init_8 rfl ?_
  show q_K _ (q_z zI0 zJ0 zR3 19) _ _ _ _ _ _
  refine q_callIN0 (M2 := mX9_init) (host := "WhyNot") rfl dX2_init_9 DX9_init (by decide) (q_fitb rfl) (q_r8 rfl) ⟨Nat.le_of_ble_eq_true rfl, Nat.le_of_ble_eq_true rfl⟩ yX9_init_18 ?_
  rintro _ _ ⟨rfl, rfl⟩
  refine q_kc (kc' := 15) (ks' := 573) rfl rfl ?_
  refine q_putR (c := 2) (n := 0) (k := 0) dX2_init_12 rfl (by decide) (by decide) fX2_12 rfl rfl rfl (Or.inl ⟨_, rfl⟩) ?_
  show q_K _ (q_z zI0 zJ0 (q_up zR4 17 0 (some 18)) 33) _ _ _ _ _ _
  refine q_aload_n dX2_init_15 rfl ?_
  refine q_bi (v := 40) dX2_init_16 rfl ?_
  refine q_mka (t := 20) (N := 40) dX2_init_18 (Nat.le_of_ble_eq_true rfl) rfl (Or.inl ⟨rfl, rfl⟩) q_ar_int rfl rfl (fun _ => rfl) (fun _ => rfl) (fun _ => rfl) (kc' := 16) (ks' := 613) rfl rfl ⟨rfl, rfl⟩ ?_
  refine q_putR (c := 2) (n := 0) (k := 1) dX2_init_20 rfl (by decide) (by decide) fX2_18 rfl rfl rfl (Or.inr ⟨_, rfl⟩) ?_
  show q_K _ (q_z zI0 zJ0 (q_up (q_up zR4 17 0 (some 18)) 17 1 (some 33)) 34) _ _ _ _ _ _
  refine q_aload_n dX2_init_23 rfl ?_
  refine q_bi (v := 48) dX2_init_24 rfl ?_
  refine q_mka (t := 20) (N := 48) dX2_init_26 (Nat.le_of_ble_eq_true rfl) rfl (Or.inl ⟨rfl, rfl⟩) q_ar_int rfl rfl (fun _ => rfl) (fun _ => rfl) (fun _ => rfl) (kc' := 17) (ks' := 661) rfl rfl ⟨rfl, rfl⟩ ?_
  refine q_putR (c := 2) (n := 0) (k := 2) dX2_init_28 rfl (by decide) (by decide) fX2_22 rfl rfl rfl (Or.inr ⟨_, rfl⟩) ?_
  show q_K _ (q_z zI0 zJ0 (q_up (q_up (q_up zR4 17 0 (some 18)) 17 1 (some 33)) 17 2 (some 34)) 35) _ _ _ _ _ _
  refine q_aload_n dX2_init_31 rfl ?_
  refine q_bi (v := 43) dX2_init_32 rfl ?_
  refine q_mka (t := 20) (N := 43) dX2_init_34 (Nat.le_of_ble_eq_true rfl) rfl (Or.inl ⟨rfl, rfl⟩) q_ar_int rfl rfl (fun _ => rfl) (fun _ => rfl) (fun _ => rfl) (kc' := 18) (ks' := 704) rfl rfl ⟨rfl, rfl⟩ ?_
  refine q_putR (c := 2) (n := 0) (k := 3) dX2_init_36 rfl (by decide) (by decide) fX2_25 rfl rfl rfl (Or.inr ⟨_, rfl⟩) ?_
  show q_K _ (q_z zI0 zJ0 (q_up (q_up (q_up (q_up zR4 17 0 (some 18)) 17 1 (some 33)) 17 2 (some 34)) 17 3 (some 35)) 36) _ _ _ _ _ _
  refine q_aload_n dX2_init_39 rfl ?_
  refine q_bi (v := 43) dX2_init_40 rfl ?_
  refine q_mka (t := 20) (N := 43) dX2_init_42 (Nat.le_of_ble_eq_true rfl) rfl (Or.inl ⟨rfl, rfl⟩) q_ar_int rfl rfl (fun _ => rfl) (fun _ => rfl) (fun _ => rfl) (kc' := 19) (ks' := 747) rfl rfl ⟨rfl, rfl⟩ ?_
  refine q_putR (c := 2) (n := 0) (k := 4) dX2_init_44 rfl (by decide) (by decide) fX2_28 rfl rfl rfl (Or.inr ⟨_, rfl⟩) ?_
  show q_K _ (q_z zI0 zJ0 (q_up (q_up (q_up (q_up (q_up zR4 17 0 (some 18)) 17 1 (some 33)) 17 2 (some 34)) 17 3 (some 35)) 17 4 (some 36)) 37) _ _ _ _ _ _
  refine q_aload_n dX2_init_47 rfl ?_
  refine q_bi (v := 43) dX2_init_48 rfl ?_
  refine q_mka (t := 20) (N := 43) dX2_init_50 (Nat.le_of_ble_eq_true rfl) rfl (Or.inl ⟨rfl, rfl⟩) q_ar_int rfl rfl (fun _ => rfl) (fun _ => rfl) (fun _ => rfl) (kc' := 20) (ks' := 790) rfl rfl ⟨rfl, rfl⟩ ?_
  refine q_putR (c := 2) (n := 0) (k := 5) dX2_init_52 rfl (by decide) (by decide) fX2_31 rfl rfl rfl (Or.inr ⟨_, rfl⟩) ?_
  show q_K _ (q_z zI0 zJ0 (q_up (q_up (q_up (q_up (q_up (q_up zR4 17 0 (some 18)) 17 1 (some 33)) 17 2 (some 34)) 17 3 (some 35)) 17 4 (some 36)) 17 5 (some 37)) 38) _ _ _ _ _ _
  exact q_endv dX2_init_55 rfl ⟨rfl, rfl⟩ ⟨rfl, rfl⟩
def zR6 : Nat → Nat → Option Nat := q_up zR5 0 4 (some 17)
theorem dX4_init_0 : decode cX4_init 0 = .ok (.aload_n 0, 1) := by decide +kernel
theorem dX4_init_1 : decode cX4_init 1 = .ok (.invokespecial 5, 3) := by decide +kernel
theorem dX4_init_4 : decode cX4_init 4 = .ok (.aload_n 0, 1) := by decide +kernel
theorem dX4_init_5 : decode cX4_init 5 = .ok (.sipush 5602, 3) := by decide +kernel
theorem dX4_init_8 : decode cX4_init 8 = .ok (.newarray .int, 2) := by decide +kernel
theorem dX4_init_10 : decode cX4_init 10 = .ok (.putfield 11, 3) := by decide +kernel
theorem dX4_init_13 : decode cX4_init 13 = .ok (.aload_n 0, 1) := by decide +kernel
theorem dX4_init_14 : decode cX4_init 14 = .ok (.sipush 5602, 3) := by decide +kernel
theorem dX4_init_17 : decode cX4_init 17 = .ok (.newarray .int, 2) := by decide +kernel
theorem dX4_init_19 : decode cX4_init 19 = .ok (.putfield 15, 3) := by decide +kernel
theorem dX4_init_22 : decode cX4_init 22 = .ok (.aload_n 0, 1) := by decide +kernel
theorem dX4_init_23 : decode cX4_init 23 = .ok (.sipush 5602, 3) := by decide +kernel
theorem dX4_init_26 : decode cX4_init 26 = .ok (.newarray .int, 2) := by decide +kernel
theorem dX4_init_28 : decode cX4_init 28 = .ok (.putfield 18, 3) := by decide +kernel
theorem dX4_init_31 : decode cX4_init 31 = .ok (.aload_n 0, 1) := by decide +kernel
theorem dX4_init_32 : decode cX4_init 32 = .ok (.sipush 5602, 3) := by decide +kernel
theorem dX4_init_35 : decode cX4_init 35 = .ok (.newarray .int, 2) := by decide +kernel
theorem dX4_init_37 : decode cX4_init 37 = .ok (.putfield 21, 3) := by decide +kernel
theorem dX4_init_40 : decode cX4_init 40 = .ok (.aload_n 0, 1) := by decide +kernel
theorem dX4_init_41 : decode cX4_init 41 = .ok (.sipush 5602, 3) := by decide +kernel
theorem dX4_init_44 : decode cX4_init 44 = .ok (.newarray .int, 2) := by decide +kernel
theorem dX4_init_46 : decode cX4_init 46 = .ok (.putfield 24, 3) := by decide +kernel
theorem dX4_init_49 : decode cX4_init 49 = .ok (.aload_n 0, 1) := by decide +kernel
theorem dX4_init_50 : decode cX4_init 50 = .ok (.sipush 5604, 3) := by decide +kernel
theorem dX4_init_53 : decode cX4_init 53 = .ok (.newarray .int, 2) := by decide +kernel
theorem dX4_init_55 : decode cX4_init 55 = .ok (.putfield 27, 3) := by decide +kernel
theorem dX4_init_58 : decode cX4_init 58 = .ok (.aload_n 0, 1) := by decide +kernel
theorem dX4_init_59 : decode cX4_init 59 = .ok (.sipush 5604, 3) := by decide +kernel
theorem dX4_init_62 : decode cX4_init 62 = .ok (.newarray .int, 2) := by decide +kernel
theorem dX4_init_64 : decode cX4_init 64 = .ok (.putfield 30, 3) := by decide +kernel
theorem dX4_init_67 : decode cX4_init 67 = .ok (.return_, 1) := by decide +kernel
def zR7 : Nat → Nat → Option Nat := q_up (q_up (q_up (q_up (q_up (q_up (q_up zR6 38 3 (some 39)) 38 4 (some 40)) 38 5 (some 41)) 38 6 (some 42)) 38 7 (some 43)) 38 8 (some 44)) 38 9 (some 45)
set_option maxRecDepth 20000 in
theorem yX4_init_38 : q_met mX4_init (q_z zI0 zJ0 zR6 39) [.ref 38] (fun s r => s = q_z zI0 zJ0 zR7 46 ∧ r = none) := by
  refine q_enter (by decide) (Nat.le_of_ble_eq_true rfl) ?_
  refine q_aload_n dX4_init_0 rfl ?_
  refine q_obj dX4_init_1 lX4_5 ⟨rfl, rfl⟩ rfl ?_
  refine q_aload_n dX4_init_4 rfl ?_
  refine q_si (v := 5602) dX4_init_5 rfl ?_
  refine q_mka (t := 20) (N := 5602) dX4_init_8 (Nat.le_of_ble_eq_true rfl) rfl (Or.inl ⟨rfl, rfl⟩) q_ar_int rfl rfl (fun _ => rfl) (fun _ => rfl) (fun _ => rfl) (kc' := 1) (ks' := 5602) rfl rfl ⟨rfl, rfl⟩ ?_
  refine q_putR (c := 4) (n := 0) (k := 3) dX4_init_10 rfl (by decide) (by decide) fX4_11 rfl rfl rfl (Or.inr ⟨_, rfl⟩) ?_
  show q_K _ (q_z zI0 zJ0 (q_up zR6 38 3 (some 39)) 40) _ _ _ _ _ _
  refine q_aload_n dX4_init_13 rfl ?_
  refine q_si (v := 5602) dX4_init_14 rfl ?_
  refine q_mka (t := 20) (N := 5602) dX4_init_17 (Nat.le_of_ble_eq_true rfl) rfl (Or.inl ⟨rfl, rfl⟩) q_ar_int rfl rfl (fun _ => rfl) (fun _ => rfl) (fun _ => rfl) (kc' := 2) (ks' := 11204) rfl rfl ⟨rfl, rfl⟩ ?_
  refine q_putR (c := 4) (n := 0) (k := 4) dX4_init_19 rfl (by decide) (by decide) fX4_15 rfl rfl rfl (Or.inr ⟨_, rfl⟩) ?_
  show q_K _ (q_z zI0 zJ0 (q_up (q_up zR6 38 3 (some 39)) 38 4 (some 40)) 41) _ _ _ _ _ _
  refine q_aload_n dX4_init_22 rfl ?_
  refine q_si (v := 5602) dX4_init_23 rfl ?_
  refine q_mka (t := 20) (N := 5602) dX4_init_26 (Nat.le_of_ble_eq_true rfl) rfl (Or.inl ⟨rfl, rfl⟩) q_ar_int rfl rfl (fun _ => rfl) (fun _ => rfl) (fun _ => rfl) (kc' := 3) (ks' := 16806) rfl rfl ⟨rfl, rfl⟩ ?_
  refine q_putR (c := 4) (n := 0) (k := 5) dX4_init_28 rfl (by decide) (by decide) fX4_18 rfl rfl rfl (Or.inr ⟨_, rfl⟩) ?_
  show q_K _ (q_z zI0 zJ0 (q_up (q_up (q_up zR6 38 3 (some 39)) 38 4 (some 40)) 38 5 (some 41)) 42) _ _ _ _ _ _
  refine q_aload_n dX4_init_31 rfl ?_
  refine q_si (v := 5602) dX4_init_32 rfl ?_
  refine q_mka (t := 20) (N := 5602) dX4_init_35 (Nat.le_of_ble_eq_true rfl) rfl (Or.inl ⟨rfl, rfl⟩) q_ar_int rfl rfl (fun _ => rfl) (fun _ => rfl) (fun _ => rfl) (kc' := 4) (ks' := 22408) rfl rfl ⟨rfl, rfl⟩ ?_
  refine q_putR (c := 4) (n := 0) (k := 6) dX4_init_37 rfl (by decide) (by decide) fX4_21 rfl rfl rfl (Or.inr ⟨_, rfl⟩) ?_
  show q_K _ (q_z zI0 zJ0 (q_up (q_up (q_up (q_up zR6 38 3 (some 39)) 38 4 (some 40)) 38 5 (some 41)) 38 6 (some 42)) 43) _ _ _ _ _ _
  refine q_aload_n dX4_init_40 rfl ?_
  refine q_si (v := 5602) dX4_init_41 rfl ?_
  refine q_mka (t := 20) (N := 5602) dX4_init_44 (Nat.le_of_ble_eq_true rfl) rfl (Or.inl ⟨rfl, rfl⟩) q_ar_int rfl rfl (fun _ => rfl) (fun _ => rfl) (fun _ => rfl) (kc' := 5) (ks' := 28010) rfl rfl ⟨rfl, rfl⟩ ?_
  refine q_putR (c := 4) (n := 0) (k := 7) dX4_init_46 rfl (by decide) (by decide) fX4_24 rfl rfl rfl (Or.inr ⟨_, rfl⟩) ?_
  show q_K _ (q_z zI0 zJ0 (q_up (q_up (q_up (q_up (q_up zR6 38 3 (some 39)) 38 4 (some 40)) 38 5 (some 41)) 38 6 (some 42)) 38 7 (some 43)) 44) _ _ _ _ _ _
  refine q_aload_n dX4_init_49 rfl ?_
  refine q_si (v := 5604) dX4_init_50 rfl ?_
  refine q_mka (t := 20) (N := 5604) dX4_init_53 (Nat.le_of_ble_eq_true rfl) rfl (Or.inl ⟨rfl, rfl⟩) q_ar_int rfl rfl (fun _ => rfl) (fun _ => rfl) (fun _ => rfl) (kc' := 6) (ks' := 33614) rfl rfl ⟨rfl, rfl⟩ ?_
  refine q_putR (c := 4) (n := 0) (k := 8) dX4_init_55 rfl (by decide) (by decide) fX4_27 rfl rfl rfl (Or.inr ⟨_, rfl⟩) ?_
  show q_K _ (q_z zI0 zJ0 (q_up (q_up (q_up (q_up (q_up (q_up zR6 38 3 (some 39)) 38 4 (some 40)) 38 5 (some 41)) 38 6 (some 42)) 38 7 (some 43)) 38 8 (some 44)) 45) _ _ _ _ _ _
  refine q_aload_n dX4_init_58 rfl ?_
  refine q_si (v := 5604) dX4_init_59 rfl ?_
  refine q_mka (t := 20) (N := 5604) dX4_init_62 (Nat.le_of_ble_eq_true rfl) rfl (Or.inl ⟨rfl, rfl⟩) q_ar_int rfl rfl (fun _ => rfl) (fun _ => rfl) (fun _ => rfl) (kc' := 7) (ks' := 39218) rfl rfl ⟨rfl, rfl⟩ ?_
  refine q_putR (c := 4) (n := 0) (k := 9) dX4_init_64 rfl (by decide) (by decide) fX4_30 rfl rfl rfl (Or.inr ⟨_, rfl⟩) ?_
  show q_K _ (q_z zI0 zJ0 (q_up (q_up (q_up (q_up (q_up (q_up (q_up zR6 38 3 (some 39)) 38 4 (some 40)) 38 5 (some 41)) 38 6 (some 42)) 38 7 (some 43)) 38 8 (some 44)) 38 9 (some 45)) 46) _ _ _ _ _ _
  exact q_endv dX4_init_67 rfl ⟨rfl, rfl⟩ ⟨rfl, rfl⟩
def zR8 : Nat → Nat → Option Nat := q_up zR7 0 5 (some 38)
theorem dX7_init_0 : decode cX7_init 0 = .ok (.aload_n 0, 1) := by decide +kernel
theorem dX7_init_1 : decode cX7_init 1 = .ok (.invokespecial 3, 3) := by decide +kernel
theorem dX7_init_4 : decode cX7_init 4 = .ok (.aload_n 0, 1) := by decide +kernel
theorem dX7_init_5 : decode cX7_init 5 = .ok (.iconst (-1), 1) := by decide +kernel
theorem dX7_init_6 : decode cX7_init 6 = .ok (.putfield 9, 3) := by decide +kernel
theorem dX7_init_9 : decode cX7_init 9 = .ok (.aload_n 0, 1) := by decide +kernel
theorem dX7_init_10 : decode cX7_init 10 = .ok (.bipush 24, 2) := by decide +kernel
theorem dX7_init_12 : decode cX7_init 12 = .ok (.newarray .long, 2) := by decide +kernel
theorem dX7_init_14 : decode cX7_init 14 = .ok (.putfield 15, 3) := by decide +kernel
theorem dX7_init_17 : decode cX7_init 17 = .ok (.aload_n 0, 1) := by decide +kernel
theorem dX7_init_18 : decode cX7_init 18 = .ok (.bipush 40, 2) := by decide +kernel
theorem dX7_init_20 : decode cX7_init 20 = .ok (.newarray .int, 2) := by decide +kernel
theorem dX7_init_22 : decode cX7_init 22 = .ok (.putfield 19, 3) := by decide +kernel
theorem dX7_init_25 : decode cX7_init 25 = .ok (.aload_n 0, 1) := by decide +kernel
theorem dX7_init_26 : decode cX7_init 26 = .ok (.bipush 40, 2) := by decide +kernel
theorem dX7_init_28 : decode cX7_init 28 = .ok (.newarray .int, 2) := by decide +kernel
theorem dX7_init_30 : decode cX7_init 30 = .ok (.putfield 23, 3) := by decide +kernel
theorem dX7_init_33 : decode cX7_init 33 = .ok (.aload_n 0, 1) := by decide +kernel
theorem dX7_init_34 : decode cX7_init 34 = .ok (.bipush 48, 2) := by decide +kernel
theorem dX7_init_36 : decode cX7_init 36 = .ok (.newarray .int, 2) := by decide +kernel
theorem dX7_init_38 : decode cX7_init 38 = .ok (.putfield 26, 3) := by decide +kernel
theorem dX7_init_41 : decode cX7_init 41 = .ok (.aload_n 0, 1) := by decide +kernel
theorem dX7_init_42 : decode cX7_init 42 = .ok (.aload_n 1, 1) := by decide +kernel
theorem dX7_init_43 : decode cX7_init 43 = .ok (.putfield 29, 3) := by decide +kernel
theorem dX7_init_46 : decode cX7_init 46 = .ok (.aload_n 0, 1) := by decide +kernel
theorem dX7_init_47 : decode cX7_init 47 = .ok (.aload_n 2, 1) := by decide +kernel
theorem dX7_init_48 : decode cX7_init 48 = .ok (.putfield 33, 3) := by decide +kernel
theorem dX7_init_51 : decode cX7_init 51 = .ok (.iconst 0, 1) := by decide +kernel
theorem dX7_init_52 : decode cX7_init 52 = .ok (.istore_n 3, 1) := by decide +kernel
theorem dX7_init_53 : decode cX7_init 53 = .ok (.lconst 0, 1) := by decide +kernel
theorem dX7_init_54 : decode cX7_init 54 = .ok (.lstore 4, 2) := by decide +kernel
theorem dX7_init_56 : decode cX7_init 56 = .ok (.iconst 0, 1) := by decide +kernel
theorem dX7_init_57 : decode cX7_init 57 = .ok (.istore 6, 2) := by decide +kernel
theorem dX7_init_59 : decode cX7_init 59 = .ok (.iload 6, 2) := by decide +kernel
theorem dX7_init_61 : decode cX7_init 61 = .ok (.ldc 37, 2) := by decide +kernel
theorem dX7_init_63 : decode cX7_init 63 = .ok (.invokevirtual 39, 3) := by decide +kernel
theorem dX7_init_66 : decode cX7_init 66 = .ok (.if_icmp .ge 57, 3) := by decide +kernel
theorem dX7_init_69 : decode cX7_init 69 = .ok (.iload_n 3, 1) := by decide +kernel
theorem dX7_init_70 : decode cX7_init 70 = .ok (.bipush 24, 2) := by decide +kernel
theorem dX7_init_72 : decode cX7_init 72 = .ok (.if_icmp .ge 51, 3) := by decide +kernel
theorem dX7_init_75 : decode cX7_init 75 = .ok (.ldc 37, 2) := by decide +kernel
theorem dX7_init_77 : decode cX7_init 77 = .ok (.iload 6, 2) := by decide +kernel
theorem dX7_init_79 : decode cX7_init 79 = .ok (.invokevirtual 45, 3) := by decide +kernel
theorem dX7_init_82 : decode cX7_init 82 = .ok (.istore 7, 2) := by decide +kernel
theorem dX7_init_84 : decode cX7_init 84 = .ok (.iload 7, 2) := by decide +kernel
theorem dX7_init_86 : decode cX7_init 86 = .ok (.bipush 32, 2) := by decide +kernel
theorem dX7_init_88 : decode cX7_init 88 = .ok (.if_icmp .ne 20, 3) := by decide +kernel
theorem dX7_init_91 : decode cX7_init 91 = .ok (.aload_n 0, 1) := by decide +kernel
theorem dX7_init_92 : decode cX7_init 92 = .ok (.getfield 15, 3) := by decide +kernel
theorem dX7_init_95 : decode cX7_init 95 = .ok (.iload_n 3, 1) := by decide +kernel
theorem dX7_init_96 : decode cX7_init 96 = .ok (.lload 4, 2) := by decide +kernel
theorem dX7_init_98 : decode cX7_init 98 = .ok (.lastore, 1) := by decide +kernel
theorem dX7_init_99 : decode cX7_init 99 = .ok (.iinc 3 1, 3) := by decide +kernel
theorem dX7_init_102 : decode cX7_init 102 = .ok (.lconst 0, 1) := by decide +kernel
theorem dX7_init_103 : decode cX7_init 103 = .ok (.lstore 4, 2) := by decide +kernel
theorem dX7_init_105 : decode cX7_init 105 = .ok (.goto 12, 3) := by decide +kernel
theorem dX7_init_108 : decode cX7_init 108 = .ok (.lload 4, 2) := by decide +kernel
theorem dX7_init_110 : decode cX7_init 110 = .ok (.iload 7, 2) := by decide +kernel
theorem dX7_init_112 : decode cX7_init 112 = .ok (.invokestatic 49, 3) := by decide +kernel
theorem dX7_init_115 : decode cX7_init 115 = .ok (.lstore 4, 2) := by decide +kernel
theorem dX7_init_117 : decode cX7_init 117 = .ok (.iinc 6 1, 3) := by decide +kernel
theorem dX7_init_120 : decode cX7_init 120 = .ok (.goto (-61), 3) := by decide +kernel
theorem dX7_init_123 : decode cX7_init 123 = .ok (.return_, 1) := by decide +kernel
def zI1 : Nat → Nat → Int32 := q_up zI0 46 1 (-1)
def zR9 : Nat → Nat → Option Nat := q_up (q_up (q_up (q_up (q_up (q_up zR8 46 11 (some 47)) 46 12 (some 48)) 46 13 (some 49)) 46 14 (some 50)) 46 2 (some 1)) 46 10 (some 18)
theorem dX7_withLetter_0 : decode cX7_withLetter 0 = .ok (.ldc2_w 215, 3) := by decide +kernel
theorem dX7_withLetter_3 : decode cX7_withLetter 3 = .ok (.lload_n 0, 1) := by decide +kernel
theorem dX7_withLetter_4 : decode cX7_withLetter 4 = .ok (.lmul, 1) := by decide +kernel
theorem dX7_withLetter_5 : decode cX7_withLetter 5 = .ok (.iload_n 2, 1) := by decide +kernel
theorem dX7_withLetter_6 : decode cX7_withLetter 6 = .ok (.bipush 97, 2) := by decide +kernel
theorem dX7_withLetter_8 : decode cX7_withLetter 8 = .ok (.isub, 1) := by decide +kernel
theorem dX7_withLetter_9 : decode cX7_withLetter 9 = .ok (.iconst 1, 1) := by decide +kernel
theorem dX7_withLetter_10 : decode cX7_withLetter 10 = .ok (.iadd, 1) := by decide +kernel
theorem dX7_withLetter_11 : decode cX7_withLetter 11 = .ok (.i2l, 1) := by decide +kernel
theorem dX7_withLetter_12 : decode cX7_withLetter 12 = .ok (.ladd, 1) := by decide +kernel
theorem dX7_withLetter_13 : decode cX7_withLetter 13 = .ok (.lreturn, 1) := by decide +kernel
def q_cw : Nat → Int32 × Int64
  | 0 => (0, 0)
  | j + 1 => if q_ch j = 32 then ((q_cw j).1 + 1, 0) else ((q_cw j).1, 32 * (q_cw j).2 + (q_ch j - 97 + 1).toInt64)
def q_tJ (J : Nat → Nat → Int64) : Nat → Nat → Nat → Int64
  | 0 => J
  | j + 1 => if q_ch j = 32 then q_up (q_tJ J j) 47 (q_cw j).1.toInt.toNat (q_cw j).2 else q_tJ J j
theorem q_cwb : ∀ j, j < 107 → 0 ≤ (q_cw j).1.toInt ∧ (q_cw j).1.toInt < 24 := by decide +kernel
theorem c_withLetter (σ : q_S) (a : Int64) (x : Int32) : q_met mX7_withLetter σ [.long a, .int x] (fun s r => s = σ ∧ r = some (.long (32 * a + (x - 97 + 1).toInt64))) := by
  refine q_enter (by decide) (Nat.le_of_ble_eq_true rfl) ?_
  refine q_ldc2 (v := 32) dX7_withLetter_0 nX7_215 ?_
  refine q_lload_n dX7_withLetter_3 rfl ?_
  refine q_lmul dX7_withLetter_4 ?_
  refine q_iload_n dX7_withLetter_5 rfl ?_
  refine q_bi (v := 97) dX7_withLetter_6 rfl ?_
  refine q_isub dX7_withLetter_8 ?_
  refine q_ic (v := 1) dX7_withLetter_9 rfl ?_
  refine q_iadd dX7_withLetter_10 ?_
  refine q_i2l dX7_withLetter_11 ?_
  refine q_ladd dX7_withLetter_12 ?_
  exact q_lret dX7_withLetter_13 rfl ⟨rfl, rfl⟩
theorem q_tloop (I : Nat → Nat → Int32) (J : Nat → Nat → Int64) (R : Nat → Nat → Option Nat) (hR : R 46 11 = some 47) (kc ks : Nat) (hk : Nat.ble kc 4 = true ∧ Nat.ble ks 152 = true) : ∀ (d j : Nat) (lv : List (Nat × Value)), j + d = 107 → lv.map (fun q => q_lk lv q.1) = lv.map (fun q => some q.2) →
    q_lk lv 0 = some (.ref 46) → q_lk lv 3 = some (.int (q_cw j).1) → q_lk lv 4 = some (.long (q_cw j).2) → (∃ x : Int32, q_lk lv 6 = some (.int x) ∧ x.toInt = (j : Int)) →
    q_K mX7_init (q_z I (q_tJ J j) R 51) kc ks 59 lv [] (q_fin mX7_init fun s r => s = q_z I (q_tJ J 107) R 51 ∧ r = none) := by
  intro d
  induction d with
  | zero =>
    intro j lv hj hlv l0 l3 l4 l6
    obtain ⟨x, l6, hx⟩ := l6
    have hj : j = 107 := by omega
    subst hj
    refine q_iload dX7_init_59 l6 ?_
    refine q_ldcS dX7_init_61 rfl ?_
    refine q_callT (M2 := mJ0_length_8abf5) (as := []) dX7_init_63 DJ0_length_8abf5 EJ0_length_8abf5 SJ0_length_8abf5 rfl lX7_len (q_fitb rfl) (q_r8 rfl) ⟨Nat.le_of_ble_eq_true hk.1, Nat.le_of_ble_eq_true hk.2⟩ (c_length _) ?_
    rintro _ _ ⟨rfl, rfl⟩
    refine q_cz_ge (tgt := 123) (b := 107) dX7_init_66 (by decide) hx rfl (fun _ => ?_) (fun h => absurd (Int.le_refl _) h)
    exact q_endv dX7_init_123 rfl ⟨hk.1, hk.2⟩ ⟨rfl, rfl⟩
  | succ d ih =>
    intro j lv hj hlv l0 l3 l4 l6
    obtain ⟨x, l6, hx⟩ := l6
    have hj7 : j < 107 := by omega
    have hb := q_cwb j hj7
    have hle := And.intro (Nat.le_of_ble_eq_true hk.1) (Nat.le_of_ble_eq_true hk.2)
    refine q_iload dX7_init_59 l6 ?_
    refine q_ldcS dX7_init_61 rfl ?_
    refine q_callT (M2 := mJ0_length_8abf5) (as := []) dX7_init_63 DJ0_length_8abf5 EJ0_length_8abf5 SJ0_length_8abf5 rfl lX7_len (q_fitb rfl) (q_r8 rfl) hle (c_length _) ?_
    rintro _ _ ⟨rfl, rfl⟩
    refine q_cz_ge (tgt := 123) (b := 107) dX7_init_66 (by decide) hx rfl (fun h => absurd h (by omega)) (fun _ => ?_)
    refine q_iload_n dX7_init_69 l3 ?_
    refine q_bi (v := 24) dX7_init_70 rfl ?_
    refine q_cz_ge (tgt := 123) (b := 24) dX7_init_72 (by decide) rfl rfl (fun h => absurd h (by omega)) (fun _ => ?_)
    refine q_ldcS dX7_init_75 rfl ?_
    refine q_iload dX7_init_77 l6 ?_
    refine q_callT (M2 := mJ0_charAt_5068e) (as := [.int x]) dX7_init_79 DJ0_charAt_5068e EJ0_charAt_5068e SJ0_charAt_5068e rfl lX7_cha (q_fitb rfl) (q_r8 rfl) hle (c_charAt _ x j hx hj7) ?_
    rintro _ _ ⟨rfl, rfl⟩
    refine q_istore dX7_init_82 (Nat.le_of_ble_eq_true rfl) ?_
    refine q_sub (lv' := [(7, .int (q_ch j)), (0, .ref 46), (3, .int (q_cw j).1), (4, .long (q_cw j).2), (6, .int x)]) (by
      have f : ∀ (i : Nat) (v : Value), q_lk lv i = some v → ¬ i = 7 → ¬ i + 1 = 7 → q_lk (q_st1 lv 7 (.int (q_ch j))) i = some v := by
        intro i v hv h1 h2
        have h3 : ¬ 7 = i := fun h => h1 h.symm
        unfold q_lk q_st1 at *
        rw [List.find?_cons_of_neg (by simpa using h3)]
        cases hf : lv.find? (fun q => q.1 == i) with
        | none => rw [hf] at hv; cases hv
        | some q =>
          have hq := List.find?_some hf
          simp only [beq_iff_eq] at hq
          rw [List.find?_filter]
          have : lv.find? (fun a => decide ((!(a.1 == 7) && !(a.1 + 1 == 7 && a.2.category == 2)) = true ∧ (a.1 == i) = true)) = lv.find? (fun q => q.1 == i) := by
            congr 1
            funext a
            by_cases ha : a.1 = i
            · simp [ha, h1, show ¬ i = 6 by omega]
            · simp [ha]
          rw [this, hf]
          rw [hf] at hv
          exact hv
      have hcat : True := trivial
      have g6 : q_lk (q_st1 lv 7 (.int (q_ch j))) 6 = some (.int x) := by
        unfold q_lk q_st1 at *
        rw [List.find?_cons_of_neg (by simp)]
        cases hf : lv.find? (fun q => q.1 == 6) with
        | none => rw [hf] at l6; cases l6
        | some q =>
          rw [hf] at l6
          have hqv : q.2 = .int x := Option.some.inj l6
          obtain ⟨as, bs, h1, h2⟩ := List.find?_eq_some_iff_append.mp hf |>.2
          rw [h1, List.filter_append, List.find?_append]
          have e1 : (as.filter fun q => !(q.1 == 7) && !(q.1 + 1 == 7 && q.2.category == 2)).find? (fun q => q.1 == 6) = none := by
            rw [List.find?_eq_none]
            intro y hy
            exact (by have := h2 y (List.mem_filter.mp hy).1; simpa using this)
          have hq6 : q.1 = 6 := by simpa using (List.find?_some hf)
          rw [e1]
          simp [hq6, hqv, Value.category]
      intro q hq
      simp only [List.mem_cons, List.not_mem_nil, or_false] at hq
      rcases hq with rfl | rfl | rfl | rfl | rfl
      · rfl
      · exact f 0 _ l0 (by decide) (by decide)
      · exact f 3 _ l3 (by decide) (by decide)
      · exact f 4 _ l4 (by decide) (by decide)
      · exact g6) ?_
    refine q_iload dX7_init_84 rfl ?_
    refine q_bi (v := 32) dX7_init_86 rfl ?_
    refine q_cz_ne (tgt := 108) (b := 32) dX7_init_88 (by decide) rfl rfl (fun h => ?_) (fun h => ?_)
    · have hne : ¬ q_ch j = 32 := fun e => h (by rw [e]; rfl)
      refine q_lload dX7_init_108 rfl ?_
      refine q_iload dX7_init_110 rfl ?_
      refine q_callS2 (M2 := mX7_withLetter) dX7_init_112 DX7_withLetter lX7_49 (q_fitb rfl) (q_r8 rfl) hle (c_withLetter _ _ _) ?_
      rintro _ _ ⟨rfl, rfl⟩
      refine q_lstore dX7_init_115 (Nat.le_of_ble_eq_true rfl) ?_
      refine q_inc (v := 1) dX7_init_117 rfl (Nat.le_of_ble_eq_true rfl) rfl ?_
      refine q_goto (tgt := 59) dX7_init_120 (by decide) ?_
      have e1 : q_tJ J j = q_tJ J (j + 1) := by simp [q_tJ, hne]
      have e2 : (q_cw (j + 1)).1 = (q_cw j).1 := by simp [q_cw, hne]
      have e3 : (q_cw (j + 1)).2 = 32 * (q_cw j).2 + (q_ch j - 97 + 1).toInt64 := by simp [q_cw, hne]
      rw [e1]
      exact ih (j + 1) _ (by omega) rfl rfl (by rw [e2]; rfl) (by rw [e3]; rfl) ⟨_, rfl, by rw [q_addz hx (show (1 : Int32).toInt = 1 from rfl) (by omega)]; omega⟩
    · have heq : q_ch j = 32 := q_of_toInt h
      refine q_aload_n dX7_init_91 rfl ?_
      refine q_getR (c := 7) (n := 0) (k := 11) (a := 47) dX7_init_92 rfl (by decide) (by decide) fX7_15 rfl hR ?_
      refine q_iload_n dX7_init_95 rfl ?_
      refine q_lload dX7_init_96 rfl ?_
      refine q_lastz (n := 24) dX7_init_98 rfl rfl hb.1 hb.2 ?_
      refine q_inc (v := 1) dX7_init_99 rfl (Nat.le_of_ble_eq_true rfl) rfl ?_
      refine q_lc (v := 0) dX7_init_102 rfl ?_
      refine q_lstore dX7_init_103 (Nat.le_of_ble_eq_true rfl) ?_
      refine q_goto (tgt := 117) dX7_init_105 (by decide) ?_
      refine q_inc (v := 1) dX7_init_117 rfl (Nat.le_of_ble_eq_true rfl) rfl ?_
      refine q_goto (tgt := 59) dX7_init_120 (by decide) ?_
      have e1 : q_up (q_tJ J j) 47 (q_cw j).1.toInt.toNat (q_cw j).2 = q_tJ J (j + 1) := by simp [q_tJ, heq]
      have e2 : (q_cw (j + 1)).1 = (q_cw j).1 + 1 := by simp [q_cw, heq]
      have e3 : (q_cw (j + 1)).2 = 0 := by simp [q_cw, heq]
      show q_K _ (q_z I (q_up (q_tJ J j) 47 (q_cw j).1.toInt.toNat (q_cw j).2) R 51) _ _ _ _ _ _
      rw [e1]
      exact ih (j + 1) _ (by omega) rfl rfl (by rw [e2]; rfl) (by rw [e3]; rfl) ⟨_, rfl, by rw [q_addz hx (show (1 : Int32).toInt = 1 from rfl) (by omega)]; omega⟩
def zJ1 : Nat → Nat → Int64 := q_tJ zJ0 107
set_option maxRecDepth 20000 in
theorem yX7_init_46 : q_met mX7_init (q_z zI0 zJ0 zR8 47) [.ref 46, .ref 1, .ref 18] (fun s r => s = q_z zI1 zJ1 zR9 51 ∧ r = none) := by
  refine q_enter (by decide) (Nat.le_of_ble_eq_true rfl) ?_
  refine q_aload_n dX7_init_0 rfl ?_
  refine q_obj dX7_init_1 lX7_3 ⟨rfl, rfl⟩ rfl ?_
  refine q_aload_n dX7_init_4 rfl ?_
  refine q_ic (v := (-1)) dX7_init_5 rfl ?_
  refine q_putI (c := 7) (n := 0) (k := 1) dX7_init_6 rfl (by decide) (by decide) fX7_9 rfl rfl ?_
  show q_K _ (q_z (q_up zI0 46 1 (-1)) zJ0 zR8 47) _ _ _ _ _ _
  refine q_aload_n dX7_init_9 rfl ?_
  refine q_bi (v := 24) dX7_init_10 rfl ?_
  refine q_mka (t := 21) (N := 24) dX7_init_12 (Nat.le_of_ble_eq_true rfl) rfl (Or.inr (Or.inl ⟨rfl, rfl⟩)) q_ar_long rfl rfl (fun _ => rfl) (fun _ => rfl) (fun _ => rfl) (kc' := 1) (ks' := 24) rfl rfl ⟨rfl, rfl⟩ ?_
  refine q_putR (c := 7) (n := 0) (k := 11) dX7_init_14 rfl (by decide) (by decide) fX7_15 rfl rfl rfl (Or.inr ⟨_, rfl⟩) ?_
  show q_K _ (q_z (q_up zI0 46 1 (-1)) zJ0 (q_up zR8 46 11 (some 47)) 48) _ _ _ _ _ _
  refine q_aload_n dX7_init_17 rfl ?_
  refine q_bi (v := 40) dX7_init_18 rfl ?_
  refine q_mka (t := 20) (N := 40) dX7_init_20 (Nat.le_of_ble_eq_true rfl) rfl (Or.inl ⟨rfl, rfl⟩) q_ar_int rfl rfl (fun _ => rfl) (fun _ => rfl) (fun _ => rfl) (kc' := 2) (ks' := 64) rfl rfl ⟨rfl, rfl⟩ ?_
  refine q_putR (c := 7) (n := 0) (k := 12) dX7_init_22 rfl (by decide) (by decide) fX7_19 rfl rfl rfl (Or.inr ⟨_, rfl⟩) ?_
  show q_K _ (q_z (q_up zI0 46 1 (-1)) zJ0 (q_up (q_up zR8 46 11 (some 47)) 46 12 (some 48)) 49) _ _ _ _ _ _
  refine q_aload_n dX7_init_25 rfl ?_
  refine q_bi (v := 40) dX7_init_26 rfl ?_
  refine q_mka (t := 20) (N := 40) dX7_init_28 (Nat.le_of_ble_eq_true rfl) rfl (Or.inl ⟨rfl, rfl⟩) q_ar_int rfl rfl (fun _ => rfl) (fun _ => rfl) (fun _ => rfl) (kc' := 3) (ks' := 104) rfl rfl ⟨rfl, rfl⟩ ?_
  refine q_putR (c := 7) (n := 0) (k := 13) dX7_init_30 rfl (by decide) (by decide) fX7_23 rfl rfl rfl (Or.inr ⟨_, rfl⟩) ?_
  show q_K _ (q_z (q_up zI0 46 1 (-1)) zJ0 (q_up (q_up (q_up zR8 46 11 (some 47)) 46 12 (some 48)) 46 13 (some 49)) 50) _ _ _ _ _ _
  refine q_aload_n dX7_init_33 rfl ?_
  refine q_bi (v := 48) dX7_init_34 rfl ?_
  refine q_mka (t := 20) (N := 48) dX7_init_36 (Nat.le_of_ble_eq_true rfl) rfl (Or.inl ⟨rfl, rfl⟩) q_ar_int rfl rfl (fun _ => rfl) (fun _ => rfl) (fun _ => rfl) (kc' := 4) (ks' := 152) rfl rfl ⟨rfl, rfl⟩ ?_
  refine q_putR (c := 7) (n := 0) (k := 14) dX7_init_38 rfl (by decide) (by decide) fX7_26 rfl rfl rfl (Or.inr ⟨_, rfl⟩) ?_
  show q_K _ (q_z (q_up zI0 46 1 (-1)) zJ0 (q_up (q_up (q_up (q_up zR8 46 11 (some 47)) 46 12 (some 48)) 46 13 (some 49)) 46 14 (some 50)) 51) _ _ _ _ _ _
  refine q_aload_n dX7_init_41 rfl ?_
  refine q_aload_n dX7_init_42 rfl ?_
  refine q_putR (c := 7) (n := 0) (k := 2) dX7_init_43 rfl (by decide) (by decide) fX7_29 rfl rfl rfl (Or.inr ⟨_, rfl⟩) ?_
  show q_K _ (q_z (q_up zI0 46 1 (-1)) zJ0 (q_up (q_up (q_up (q_up (q_up zR8 46 11 (some 47)) 46 12 (some 48)) 46 13 (some 49)) 46 14 (some 50)) 46 2 (some 1)) 51) _ _ _ _ _ _
  refine q_aload_n dX7_init_46 rfl ?_
  refine q_aload_n dX7_init_47 rfl ?_
  refine q_putR (c := 7) (n := 0) (k := 10) dX7_init_48 rfl (by decide) (by decide) fX7_33 rfl rfl rfl (Or.inl ⟨_, rfl⟩) ?_
  show q_K _ (q_z (q_up zI0 46 1 (-1)) zJ0 (q_up (q_up (q_up (q_up (q_up (q_up zR8 46 11 (some 47)) 46 12 (some 48)) 46 13 (some 49)) 46 14 (some 50)) 46 2 (some 1)) 46 10 (some 18)) 51) _ _ _ _ _ _
  refine q_ic (v := 0) dX7_init_51 rfl ?_
  refine q_istore_n dX7_init_52 (Nat.le_of_ble_eq_true rfl) ?_
  refine q_lc (v := 0) dX7_init_53 rfl ?_
  refine q_lstore dX7_init_54 (Nat.le_of_ble_eq_true rfl) ?_
  refine q_ic (v := 0) dX7_init_56 rfl ?_
  refine q_istore dX7_init_57 (Nat.le_of_ble_eq_true rfl) ?_
  show q_K _ (q_z zI1 zJ0 zR9 51) _ _ _ _ _ _
  exact q_tloop zI1 zJ0 zR9 rfl 4 152 ⟨rfl, rfl⟩ 107 0 _ rfl rfl rfl rfl rfl ⟨0, rfl, rfl⟩
def zR10 : Nat → Nat → Option Nat := q_up zR9 0 6 (some 46)
theorem dX0_init_0 : decode cX0_init 0 = .ok (.aload_n 0, 1) := by decide +kernel
theorem dX0_init_1 : decode cX0_init 1 = .ok (.invokespecial 3, 3) := by decide +kernel
theorem dX0_init_4 : decode cX0_init 4 = .ok (.aload_n 0, 1) := by decide +kernel
theorem dX0_init_5 : decode cX0_init 5 = .ok (.sipush 400, 3) := by decide +kernel
theorem dX0_init_8 : decode cX0_init 8 = .ok (.newarray .int, 2) := by decide +kernel
theorem dX0_init_10 : decode cX0_init 10 = .ok (.putfield 9, 3) := by decide +kernel
theorem dX0_init_13 : decode cX0_init 13 = .ok (.aload_n 0, 1) := by decide +kernel
theorem dX0_init_14 : decode cX0_init 14 = .ok (.sipush 1200, 3) := by decide +kernel
theorem dX0_init_17 : decode cX0_init 17 = .ok (.newarray .int, 2) := by decide +kernel
theorem dX0_init_19 : decode cX0_init 19 = .ok (.putfield 15, 3) := by decide +kernel
theorem dX0_init_22 : decode cX0_init 22 = .ok (.aload_n 0, 1) := by decide +kernel
theorem dX0_init_23 : decode cX0_init 23 = .ok (.bipush 40, 2) := by decide +kernel
theorem dX0_init_25 : decode cX0_init 25 = .ok (.newarray .int, 2) := by decide +kernel
theorem dX0_init_27 : decode cX0_init 27 = .ok (.putfield 18, 3) := by decide +kernel
theorem dX0_init_30 : decode cX0_init 30 = .ok (.aload_n 0, 1) := by decide +kernel
theorem dX0_init_31 : decode cX0_init 31 = .ok (.bipush 40, 2) := by decide +kernel
theorem dX0_init_33 : decode cX0_init 33 = .ok (.newarray .int, 2) := by decide +kernel
theorem dX0_init_35 : decode cX0_init 35 = .ok (.putfield 21, 3) := by decide +kernel
theorem dX0_init_38 : decode cX0_init 38 = .ok (.aload_n 0, 1) := by decide +kernel
theorem dX0_init_39 : decode cX0_init 39 = .ok (.sipush 403, 3) := by decide +kernel
theorem dX0_init_42 : decode cX0_init 42 = .ok (.newarray .int, 2) := by decide +kernel
theorem dX0_init_44 : decode cX0_init 44 = .ok (.putfield 24, 3) := by decide +kernel
theorem dX0_init_47 : decode cX0_init 47 = .ok (.aload_n 0, 1) := by decide +kernel
theorem dX0_init_48 : decode cX0_init 48 = .ok (.sipush 403, 3) := by decide +kernel
theorem dX0_init_51 : decode cX0_init 51 = .ok (.newarray .int, 2) := by decide +kernel
theorem dX0_init_53 : decode cX0_init 53 = .ok (.putfield 27, 3) := by decide +kernel
theorem dX0_init_56 : decode cX0_init 56 = .ok (.aload_n 0, 1) := by decide +kernel
theorem dX0_init_57 : decode cX0_init 57 = .ok (.sipush 403, 3) := by decide +kernel
theorem dX0_init_60 : decode cX0_init 60 = .ok (.newarray .int, 2) := by decide +kernel
theorem dX0_init_62 : decode cX0_init 62 = .ok (.putfield 30, 3) := by decide +kernel
theorem dX0_init_65 : decode cX0_init 65 = .ok (.aload_n 0, 1) := by decide +kernel
theorem dX0_init_66 : decode cX0_init 66 = .ok (.aload_n 1, 1) := by decide +kernel
theorem dX0_init_67 : decode cX0_init 67 = .ok (.putfield 33, 3) := by decide +kernel
theorem dX0_init_70 : decode cX0_init 70 = .ok (.aload_n 0, 1) := by decide +kernel
theorem dX0_init_71 : decode cX0_init 71 = .ok (.aload_n 2, 1) := by decide +kernel
theorem dX0_init_72 : decode cX0_init 72 = .ok (.putfield 37, 3) := by decide +kernel
theorem dX0_init_75 : decode cX0_init 75 = .ok (.return_, 1) := by decide +kernel
def zR11 : Nat → Nat → Option Nat := q_up (q_up (q_up (q_up (q_up (q_up (q_up (q_up (q_up zR10 51 8 (some 52)) 51 9 (some 53)) 51 10 (some 54)) 51 11 (some 55)) 51 12 (some 56)) 51 13 (some 57)) 51 14 (some 58)) 51 6 (some 2)) 51 7 (some 38)
set_option maxRecDepth 20000 in
theorem yX0_init_51 : q_met mX0_init (q_z zI1 zJ1 zR10 52) [.ref 51, .ref 2, .ref 38] (fun s r => s = q_z zI1 zJ1 zR11 59 ∧ r = none) := by
  refine q_enter (by decide) (Nat.le_of_ble_eq_true rfl) ?_
  refine q_aload_n dX0_init_0 rfl ?_
  refine q_obj dX0_init_1 lX0_3 ⟨rfl, rfl⟩ rfl ?_
  refine q_aload_n dX0_init_4 rfl ?_
  refine q_si (v := 400) dX0_init_5 rfl ?_
  refine q_mka (t := 20) (N := 400) dX0_init_8 (Nat.le_of_ble_eq_true rfl) rfl (Or.inl ⟨rfl, rfl⟩) q_ar_int rfl rfl (fun _ => rfl) (fun _ => rfl) (fun _ => rfl) (kc' := 1) (ks' := 400) rfl rfl ⟨rfl, rfl⟩ ?_
  refine q_putR (c := 0) (n := 0) (k := 8) dX0_init_10 rfl (by decide) (by decide) fX0_9 rfl rfl rfl (Or.inr ⟨_, rfl⟩) ?_
  show q_K _ (q_z zI1 zJ1 (q_up zR10 51 8 (some 52)) 53) _ _ _ _ _ _
  refine q_aload_n dX0_init_13 rfl ?_
  refine q_si (v := 1200) dX0_init_14 rfl ?_
  refine q_mka (t := 20) (N := 1200) dX0_init_17 (Nat.le_of_ble_eq_true rfl) rfl (Or.inl ⟨rfl, rfl⟩) q_ar_int rfl rfl (fun _ => rfl) (fun _ => rfl) (fun _ => rfl) (kc' := 2) (ks' := 1600) rfl rfl ⟨rfl, rfl⟩ ?_
  refine q_putR (c := 0) (n := 0) (k := 9) dX0_init_19 rfl (by decide) (by decide) fX0_15 rfl rfl rfl (Or.inr ⟨_, rfl⟩) ?_
  show q_K _ (q_z zI1 zJ1 (q_up (q_up zR10 51 8 (some 52)) 51 9 (some 53)) 54) _ _ _ _ _ _
  refine q_aload_n dX0_init_22 rfl ?_
  refine q_bi (v := 40) dX0_init_23 rfl ?_
  refine q_mka (t := 20) (N := 40) dX0_init_25 (Nat.le_of_ble_eq_true rfl) rfl (Or.inl ⟨rfl, rfl⟩) q_ar_int rfl rfl (fun _ => rfl) (fun _ => rfl) (fun _ => rfl) (kc' := 3) (ks' := 1640) rfl rfl ⟨rfl, rfl⟩ ?_
  refine q_putR (c := 0) (n := 0) (k := 10) dX0_init_27 rfl (by decide) (by decide) fX0_18 rfl rfl rfl (Or.inr ⟨_, rfl⟩) ?_
  show q_K _ (q_z zI1 zJ1 (q_up (q_up (q_up zR10 51 8 (some 52)) 51 9 (some 53)) 51 10 (some 54)) 55) _ _ _ _ _ _
  refine q_aload_n dX0_init_30 rfl ?_
  refine q_bi (v := 40) dX0_init_31 rfl ?_
  refine q_mka (t := 20) (N := 40) dX0_init_33 (Nat.le_of_ble_eq_true rfl) rfl (Or.inl ⟨rfl, rfl⟩) q_ar_int rfl rfl (fun _ => rfl) (fun _ => rfl) (fun _ => rfl) (kc' := 4) (ks' := 1680) rfl rfl ⟨rfl, rfl⟩ ?_
  refine q_putR (c := 0) (n := 0) (k := 11) dX0_init_35 rfl (by decide) (by decide) fX0_21 rfl rfl rfl (Or.inr ⟨_, rfl⟩) ?_
  show q_K _ (q_z zI1 zJ1 (q_up (q_up (q_up (q_up zR10 51 8 (some 52)) 51 9 (some 53)) 51 10 (some 54)) 51 11 (some 55)) 56) _ _ _ _ _ _
  refine q_aload_n dX0_init_38 rfl ?_
  refine q_si (v := 403) dX0_init_39 rfl ?_
  refine q_mka (t := 20) (N := 403) dX0_init_42 (Nat.le_of_ble_eq_true rfl) rfl (Or.inl ⟨rfl, rfl⟩) q_ar_int rfl rfl (fun _ => rfl) (fun _ => rfl) (fun _ => rfl) (kc' := 5) (ks' := 2083) rfl rfl ⟨rfl, rfl⟩ ?_
  refine q_putR (c := 0) (n := 0) (k := 12) dX0_init_44 rfl (by decide) (by decide) fX0_24 rfl rfl rfl (Or.inr ⟨_, rfl⟩) ?_
  show q_K _ (q_z zI1 zJ1 (q_up (q_up (q_up (q_up (q_up zR10 51 8 (some 52)) 51 9 (some 53)) 51 10 (some 54)) 51 11 (some 55)) 51 12 (some 56)) 57) _ _ _ _ _ _
  refine q_aload_n dX0_init_47 rfl ?_
  refine q_si (v := 403) dX0_init_48 rfl ?_
  refine q_mka (t := 20) (N := 403) dX0_init_51 (Nat.le_of_ble_eq_true rfl) rfl (Or.inl ⟨rfl, rfl⟩) q_ar_int rfl rfl (fun _ => rfl) (fun _ => rfl) (fun _ => rfl) (kc' := 6) (ks' := 2486) rfl rfl ⟨rfl, rfl⟩ ?_
  refine q_putR (c := 0) (n := 0) (k := 13) dX0_init_53 rfl (by decide) (by decide) fX0_27 rfl rfl rfl (Or.inr ⟨_, rfl⟩) ?_
  show q_K _ (q_z zI1 zJ1 (q_up (q_up (q_up (q_up (q_up (q_up zR10 51 8 (some 52)) 51 9 (some 53)) 51 10 (some 54)) 51 11 (some 55)) 51 12 (some 56)) 51 13 (some 57)) 58) _ _ _ _ _ _
  refine q_aload_n dX0_init_56 rfl ?_
  refine q_si (v := 403) dX0_init_57 rfl ?_
  refine q_mka (t := 20) (N := 403) dX0_init_60 (Nat.le_of_ble_eq_true rfl) rfl (Or.inl ⟨rfl, rfl⟩) q_ar_int rfl rfl (fun _ => rfl) (fun _ => rfl) (fun _ => rfl) (kc' := 7) (ks' := 2889) rfl rfl ⟨rfl, rfl⟩ ?_
  refine q_putR (c := 0) (n := 0) (k := 14) dX0_init_62 rfl (by decide) (by decide) fX0_30 rfl rfl rfl (Or.inr ⟨_, rfl⟩) ?_
  show q_K _ (q_z zI1 zJ1 (q_up (q_up (q_up (q_up (q_up (q_up (q_up zR10 51 8 (some 52)) 51 9 (some 53)) 51 10 (some 54)) 51 11 (some 55)) 51 12 (some 56)) 51 13 (some 57)) 51 14 (some 58)) 59) _ _ _ _ _ _
  refine q_aload_n dX0_init_65 rfl ?_
  refine q_aload_n dX0_init_66 rfl ?_
  refine q_putR (c := 0) (n := 0) (k := 6) dX0_init_67 rfl (by decide) (by decide) fX0_33 rfl rfl rfl (Or.inl ⟨_, rfl⟩) ?_
  show q_K _ (q_z zI1 zJ1 (q_up (q_up (q_up (q_up (q_up (q_up (q_up (q_up zR10 51 8 (some 52)) 51 9 (some 53)) 51 10 (some 54)) 51 11 (some 55)) 51 12 (some 56)) 51 13 (some 57)) 51 14 (some 58)) 51 6 (some 2)) 59) _ _ _ _ _ _
  refine q_aload_n dX0_init_70 rfl ?_
  refine q_aload_n dX0_init_71 rfl ?_
  refine q_putR (c := 0) (n := 0) (k := 7) dX0_init_72 rfl (by decide) (by decide) fX0_37 rfl rfl rfl (Or.inl ⟨_, rfl⟩) ?_
  show q_K _ (q_z zI1 zJ1 (q_up (q_up (q_up (q_up (q_up (q_up (q_up (q_up (q_up zR10 51 8 (some 52)) 51 9 (some 53)) 51 10 (some 54)) 51 11 (some 55)) 51 12 (some 56)) 51 13 (some 57)) 51 14 (some 58)) 51 6 (some 2)) 51 7 (some 38)) 59) _ _ _ _ _ _
  exact q_endv dX0_init_75 rfl ⟨rfl, rfl⟩ ⟨rfl, rfl⟩
def zR12 : Nat → Nat → Option Nat := q_up zR11 0 7 (some 51)
def zR13 : Nat → Nat → Option Nat := q_up (q_up (q_up (q_up (q_up (q_up (q_up (q_up (q_up zR12 59 8 (some 60)) 59 9 (some 61)) 59 10 (some 62)) 59 11 (some 63)) 59 12 (some 64)) 59 13 (some 65)) 59 14 (some 66)) 59 6 (some 18)) 59 7 (some 38)
set_option maxRecDepth 20000 in
theorem yX0_init_59 : q_met mX0_init (q_z zI1 zJ1 zR12 60) [.ref 59, .ref 18, .ref 38] (fun s r => s = q_z zI1 zJ1 zR13 67 ∧ r = none) := by
  refine q_enter (by decide) (Nat.le_of_ble_eq_true rfl) ?_
  refine q_aload_n dX0_init_0 rfl ?_
  refine q_obj dX0_init_1 lX0_3 ⟨rfl, rfl⟩ rfl ?_
  refine q_aload_n dX0_init_4 rfl ?_
  refine q_si (v := 400) dX0_init_5 rfl ?_
  refine q_mka (t := 20) (N := 400) dX0_init_8 (Nat.le_of_ble_eq_true rfl) rfl (Or.inl ⟨rfl, rfl⟩) q_ar_int rfl rfl (fun _ => rfl) (fun _ => rfl) (fun _ => rfl) (kc' := 1) (ks' := 400) rfl rfl ⟨rfl, rfl⟩ ?_
  refine q_putR (c := 0) (n := 0) (k := 8) dX0_init_10 rfl (by decide) (by decide) fX0_9 rfl rfl rfl (Or.inr ⟨_, rfl⟩) ?_
  show q_K _ (q_z zI1 zJ1 (q_up zR12 59 8 (some 60)) 61) _ _ _ _ _ _
  refine q_aload_n dX0_init_13 rfl ?_
  refine q_si (v := 1200) dX0_init_14 rfl ?_
  refine q_mka (t := 20) (N := 1200) dX0_init_17 (Nat.le_of_ble_eq_true rfl) rfl (Or.inl ⟨rfl, rfl⟩) q_ar_int rfl rfl (fun _ => rfl) (fun _ => rfl) (fun _ => rfl) (kc' := 2) (ks' := 1600) rfl rfl ⟨rfl, rfl⟩ ?_
  refine q_putR (c := 0) (n := 0) (k := 9) dX0_init_19 rfl (by decide) (by decide) fX0_15 rfl rfl rfl (Or.inr ⟨_, rfl⟩) ?_
  show q_K _ (q_z zI1 zJ1 (q_up (q_up zR12 59 8 (some 60)) 59 9 (some 61)) 62) _ _ _ _ _ _
  refine q_aload_n dX0_init_22 rfl ?_
  refine q_bi (v := 40) dX0_init_23 rfl ?_
  refine q_mka (t := 20) (N := 40) dX0_init_25 (Nat.le_of_ble_eq_true rfl) rfl (Or.inl ⟨rfl, rfl⟩) q_ar_int rfl rfl (fun _ => rfl) (fun _ => rfl) (fun _ => rfl) (kc' := 3) (ks' := 1640) rfl rfl ⟨rfl, rfl⟩ ?_
  refine q_putR (c := 0) (n := 0) (k := 10) dX0_init_27 rfl (by decide) (by decide) fX0_18 rfl rfl rfl (Or.inr ⟨_, rfl⟩) ?_
  show q_K _ (q_z zI1 zJ1 (q_up (q_up (q_up zR12 59 8 (some 60)) 59 9 (some 61)) 59 10 (some 62)) 63) _ _ _ _ _ _
  refine q_aload_n dX0_init_30 rfl ?_
  refine q_bi (v := 40) dX0_init_31 rfl ?_
  refine q_mka (t := 20) (N := 40) dX0_init_33 (Nat.le_of_ble_eq_true rfl) rfl (Or.inl ⟨rfl, rfl⟩) q_ar_int rfl rfl (fun _ => rfl) (fun _ => rfl) (fun _ => rfl) (kc' := 4) (ks' := 1680) rfl rfl ⟨rfl, rfl⟩ ?_
  refine q_putR (c := 0) (n := 0) (k := 11) dX0_init_35 rfl (by decide) (by decide) fX0_21 rfl rfl rfl (Or.inr ⟨_, rfl⟩) ?_
  show q_K _ (q_z zI1 zJ1 (q_up (q_up (q_up (q_up zR12 59 8 (some 60)) 59 9 (some 61)) 59 10 (some 62)) 59 11 (some 63)) 64) _ _ _ _ _ _
  refine q_aload_n dX0_init_38 rfl ?_
  refine q_si (v := 403) dX0_init_39 rfl ?_
  refine q_mka (t := 20) (N := 403) dX0_init_42 (Nat.le_of_ble_eq_true rfl) rfl (Or.inl ⟨rfl, rfl⟩) q_ar_int rfl rfl (fun _ => rfl) (fun _ => rfl) (fun _ => rfl) (kc' := 5) (ks' := 2083) rfl rfl ⟨rfl, rfl⟩ ?_
  refine q_putR (c := 0) (n := 0) (k := 12) dX0_init_44 rfl (by decide) (by decide) fX0_24 rfl rfl rfl (Or.inr ⟨_, rfl⟩) ?_
  show q_K _ (q_z zI1 zJ1 (q_up (q_up (q_up (q_up (q_up zR12 59 8 (some 60)) 59 9 (some 61)) 59 10 (some 62)) 59 11 (some 63)) 59 12 (some 64)) 65) _ _ _ _ _ _
  refine q_aload_n dX0_init_47 rfl ?_
  refine q_si (v := 403) dX0_init_48 rfl ?_
  refine q_mka (t := 20) (N := 403) dX0_init_51 (Nat.le_of_ble_eq_true rfl) rfl (Or.inl ⟨rfl, rfl⟩) q_ar_int rfl rfl (fun _ => rfl) (fun _ => rfl) (fun _ => rfl) (kc' := 6) (ks' := 2486) rfl rfl ⟨rfl, rfl⟩ ?_
  refine q_putR (c := 0) (n := 0) (k := 13) dX0_init_53 rfl (by decide) (by decide) fX0_27 rfl rfl rfl (Or.inr ⟨_, rfl⟩) ?_
  show q_K _ (q_z zI1 zJ1 (q_up (q_up (q_up (q_up (q_up (q_up zR12 59 8 (some 60)) 59 9 (some 61)) 59 10 (some 62)) 59 11 (some 63)) 59 12 (some 64)) 59 13 (some 65)) 66) _ _ _ _ _ _
  refine q_aload_n dX0_init_56 rfl ?_
  refine q_si (v := 403) dX0_init_57 rfl ?_
  refine q_mka (t := 20) (N := 403) dX0_init_60 (Nat.le_of_ble_eq_true rfl) rfl (Or.inl ⟨rfl, rfl⟩) q_ar_int rfl rfl (fun _ => rfl) (fun _ => rfl) (fun _ => rfl) (kc' := 7) (ks' := 2889) rfl rfl ⟨rfl, rfl⟩ ?_
  refine q_putR (c := 0) (n := 0) (k := 14) dX0_init_62 rfl (by decide) (by decide) fX0_30 rfl rfl rfl (Or.inr ⟨_, rfl⟩) ?_
  show q_K _ (q_z zI1 zJ1 (q_up (q_up (q_up (q_up (q_up (q_up (q_up zR12 59 8 (some 60)) 59 9 (some 61)) 59 10 (some 62)) 59 11 (some 63)) 59 12 (some 64)) 59 13 (some 65)) 59 14 (some 66)) 67) _ _ _ _ _ _
  refine q_aload_n dX0_init_65 rfl ?_
  refine q_aload_n dX0_init_66 rfl ?_
  refine q_putR (c := 0) (n := 0) (k := 6) dX0_init_67 rfl (by decide) (by decide) fX0_33 rfl rfl rfl (Or.inl ⟨_, rfl⟩) ?_
  show q_K _ (q_z zI1 zJ1 (q_up (q_up (q_up (q_up (q_up (q_up (q_up (q_up zR12 59 8 (some 60)) 59 9 (some 61)) 59 10 (some 62)) 59 11 (some 63)) 59 12 (some 64)) 59 13 (some 65)) 59 14 (some 66)) 59 6 (some 18)) 67) _ _ _ _ _ _
  refine q_aload_n dX0_init_70 rfl ?_
  refine q_aload_n dX0_init_71 rfl ?_
  refine q_putR (c := 0) (n := 0) (k := 7) dX0_init_72 rfl (by decide) (by decide) fX0_37 rfl rfl rfl (Or.inl ⟨_, rfl⟩) ?_
  show q_K _ (q_z zI1 zJ1 (q_up (q_up (q_up (q_up (q_up (q_up (q_up (q_up (q_up zR12 59 8 (some 60)) 59 9 (some 61)) 59 10 (some 62)) 59 11 (some 63)) 59 12 (some 64)) 59 13 (some 65)) 59 14 (some 66)) 59 6 (some 18)) 59 7 (some 38)) 67) _ _ _ _ _ _
  exact q_endv dX0_init_75 rfl ⟨rfl, rfl⟩ ⟨rfl, rfl⟩
def zR14 : Nat → Nat → Option Nat := q_up zR13 0 8 (some 59)
theorem dX5_init_0 : decode cX5_init 0 = .ok (.aload_n 0, 1) := by decide +kernel
theorem dX5_init_1 : decode cX5_init 1 = .ok (.invokespecial 3, 3) := by decide +kernel
theorem dX5_init_4 : decode cX5_init 4 = .ok (.aload_n 0, 1) := by decide +kernel
theorem dX5_init_5 : decode cX5_init 5 = .ok (.sipush 4096, 3) := by decide +kernel
theorem dX5_init_8 : decode cX5_init 8 = .ok (.newarray .byte, 2) := by decide +kernel
theorem dX5_init_10 : decode cX5_init 10 = .ok (.putfield 11, 3) := by decide +kernel
theorem dX5_init_13 : decode cX5_init 13 = .ok (.aload_n 0, 1) := by decide +kernel
theorem dX5_init_14 : decode cX5_init 14 = .ok (.aload_n 1, 1) := by decide +kernel
theorem dX5_init_15 : decode cX5_init 15 = .ok (.putfield 15, 3) := by decide +kernel
theorem dX5_init_18 : decode cX5_init 18 = .ok (.return_, 1) := by decide +kernel
def zR15 : Nat → Nat → Option Nat := q_up (q_up zR14 67 5 (some 68)) 67 4 (some 51)
set_option maxRecDepth 20000 in
theorem yX5_init_67 : q_met mX5_init (q_z zI1 zJ1 zR14 68) [.ref 67, .ref 51] (fun s r => s = q_z zI1 zJ1 zR15 69 ∧ r = none) := by
  refine q_enter (by decide) (Nat.le_of_ble_eq_true rfl) ?_
  refine q_aload_n dX5_init_0 rfl ?_
  refine q_obj dX5_init_1 lX5_3 ⟨rfl, rfl⟩ rfl ?_
  refine q_aload_n dX5_init_4 rfl ?_
  refine q_si (v := 4096) dX5_init_5 rfl ?_
  refine q_mka (t := 22) (N := 4096) dX5_init_8 (Nat.le_of_ble_eq_true rfl) rfl (Or.inr (Or.inr (Or.inl ⟨rfl, rfl⟩))) q_ar_byte rfl rfl (fun _ => rfl) (fun _ => rfl) (fun _ => rfl) (kc' := 1) (ks' := 4096) rfl rfl ⟨rfl, rfl⟩ ?_
  refine q_putR (c := 5) (n := 0) (k := 5) dX5_init_10 rfl (by decide) (by decide) fX5_11 rfl rfl rfl (Or.inr ⟨_, rfl⟩) ?_
  show q_K _ (q_z zI1 zJ1 (q_up zR14 67 5 (some 68)) 69) _ _ _ _ _ _
  refine q_aload_n dX5_init_13 rfl ?_
  refine q_aload_n dX5_init_14 rfl ?_
  refine q_putR (c := 5) (n := 0) (k := 4) dX5_init_15 rfl (by decide) (by decide) fX5_15 rfl rfl rfl (Or.inl ⟨_, rfl⟩) ?_
  show q_K _ (q_z zI1 zJ1 (q_up (q_up zR14 67 5 (some 68)) 67 4 (some 51)) 69) _ _ _ _ _ _
  exact q_endv dX5_init_18 rfl ⟨rfl, rfl⟩ ⟨rfl, rfl⟩
def zR16 : Nat → Nat → Option Nat := q_up zR15 0 9 (some 67)
theorem dX1_init_0 : decode cX1_init 0 = .ok (.aload_n 0, 1) := by decide +kernel
theorem dX1_init_1 : decode cX1_init 1 = .ok (.invokespecial 3, 3) := by decide +kernel
theorem dX1_init_4 : decode cX1_init 4 = .ok (.aload_n 0, 1) := by decide +kernel
theorem dX1_init_5 : decode cX1_init 5 = .ok (.sipush 512, 3) := by decide +kernel
theorem dX1_init_8 : decode cX1_init 8 = .ok (.newarray .long, 2) := by decide +kernel
theorem dX1_init_10 : decode cX1_init 10 = .ok (.putfield 11, 3) := by decide +kernel
theorem dX1_init_13 : decode cX1_init 13 = .ok (.aload_n 0, 1) := by decide +kernel
theorem dX1_init_14 : decode cX1_init 14 = .ok (.bipush 24, 2) := by decide +kernel
theorem dX1_init_16 : decode cX1_init 16 = .ok (.newarray .long, 2) := by decide +kernel
theorem dX1_init_18 : decode cX1_init 18 = .ok (.putfield 15, 3) := by decide +kernel
theorem dX1_init_21 : decode cX1_init 21 = .ok (.aload_n 0, 1) := by decide +kernel
theorem dX1_init_22 : decode cX1_init 22 = .ok (.bipush 26, 2) := by decide +kernel
theorem dX1_init_24 : decode cX1_init 24 = .ok (.newarray .long, 2) := by decide +kernel
theorem dX1_init_26 : decode cX1_init 26 = .ok (.putfield 18, 3) := by decide +kernel
theorem dX1_init_29 : decode cX1_init 29 = .ok (.aload_n 0, 1) := by decide +kernel
theorem dX1_init_30 : decode cX1_init 30 = .ok (.bipush 26, 2) := by decide +kernel
theorem dX1_init_32 : decode cX1_init 32 = .ok (.newarray .long, 2) := by decide +kernel
theorem dX1_init_34 : decode cX1_init 34 = .ok (.putfield 21, 3) := by decide +kernel
theorem dX1_init_37 : decode cX1_init 37 = .ok (.aload_n 0, 1) := by decide +kernel
theorem dX1_init_38 : decode cX1_init 38 = .ok (.bipush 26, 2) := by decide +kernel
theorem dX1_init_40 : decode cX1_init 40 = .ok (.newarray .long, 2) := by decide +kernel
theorem dX1_init_42 : decode cX1_init 42 = .ok (.putfield 24, 3) := by decide +kernel
theorem dX1_init_45 : decode cX1_init 45 = .ok (.aload_n 0, 1) := by decide +kernel
theorem dX1_init_46 : decode cX1_init 46 = .ok (.bipush 26, 2) := by decide +kernel
theorem dX1_init_48 : decode cX1_init 48 = .ok (.newarray .long, 2) := by decide +kernel
theorem dX1_init_50 : decode cX1_init 50 = .ok (.putfield 27, 3) := by decide +kernel
theorem dX1_init_53 : decode cX1_init 53 = .ok (.aload_n 0, 1) := by decide +kernel
theorem dX1_init_54 : decode cX1_init 54 = .ok (.aload_n 1, 1) := by decide +kernel
theorem dX1_init_55 : decode cX1_init 55 = .ok (.putfield 30, 3) := by decide +kernel
theorem dX1_init_58 : decode cX1_init 58 = .ok (.aload_n 0, 1) := by decide +kernel
theorem dX1_init_59 : decode cX1_init 59 = .ok (.aload_n 2, 1) := by decide +kernel
theorem dX1_init_60 : decode cX1_init 60 = .ok (.putfield 34, 3) := by decide +kernel
theorem dX1_init_63 : decode cX1_init 63 = .ok (.return_, 1) := by decide +kernel
def zR17 : Nat → Nat → Option Nat := q_up (q_up (q_up (q_up (q_up (q_up (q_up (q_up zR16 69 7 (some 70)) 69 8 (some 71)) 69 9 (some 72)) 69 10 (some 73)) 69 11 (some 74)) 69 12 (some 75)) 69 5 (some 2)) 69 6 (some 51)
set_option maxRecDepth 20000 in
theorem yX1_init_69 : q_met mX1_init (q_z zI1 zJ1 zR16 70) [.ref 69, .ref 2, .ref 51] (fun s r => s = q_z zI1 zJ1 zR17 76 ∧ r = none) := by
  refine q_enter (by decide) (Nat.le_of_ble_eq_true rfl) ?_
  refine q_aload_n dX1_init_0 rfl ?_
  refine q_obj dX1_init_1 lX1_3 ⟨rfl, rfl⟩ rfl ?_
  refine q_aload_n dX1_init_4 rfl ?_
  refine q_si (v := 512) dX1_init_5 rfl ?_
  refine q_mka (t := 21) (N := 512) dX1_init_8 (Nat.le_of_ble_eq_true rfl) rfl (Or.inr (Or.inl ⟨rfl, rfl⟩)) q_ar_long rfl rfl (fun _ => rfl) (fun _ => rfl) (fun _ => rfl) (kc' := 1) (ks' := 512) rfl rfl ⟨rfl, rfl⟩ ?_
  refine q_putR (c := 1) (n := 0) (k := 7) dX1_init_10 rfl (by decide) (by decide) fX1_11 rfl rfl rfl (Or.inr ⟨_, rfl⟩) ?_
  show q_K _ (q_z zI1 zJ1 (q_up zR16 69 7 (some 70)) 71) _ _ _ _ _ _
  refine q_aload_n dX1_init_13 rfl ?_
  refine q_bi (v := 24) dX1_init_14 rfl ?_
  refine q_mka (t := 21) (N := 24) dX1_init_16 (Nat.le_of_ble_eq_true rfl) rfl (Or.inr (Or.inl ⟨rfl, rfl⟩)) q_ar_long rfl rfl (fun _ => rfl) (fun _ => rfl) (fun _ => rfl) (kc' := 2) (ks' := 536) rfl rfl ⟨rfl, rfl⟩ ?_
  refine q_putR (c := 1) (n := 0) (k := 8) dX1_init_18 rfl (by decide) (by decide) fX1_15 rfl rfl rfl (Or.inr ⟨_, rfl⟩) ?_
  show q_K _ (q_z zI1 zJ1 (q_up (q_up zR16 69 7 (some 70)) 69 8 (some 71)) 72) _ _ _ _ _ _
  refine q_aload_n dX1_init_21 rfl ?_
  refine q_bi (v := 26) dX1_init_22 rfl ?_
  refine q_mka (t := 21) (N := 26) dX1_init_24 (Nat.le_of_ble_eq_true rfl) rfl (Or.inr (Or.inl ⟨rfl, rfl⟩)) q_ar_long rfl rfl (fun _ => rfl) (fun _ => rfl) (fun _ => rfl) (kc' := 3) (ks' := 562) rfl rfl ⟨rfl, rfl⟩ ?_
  refine q_putR (c := 1) (n := 0) (k := 9) dX1_init_26 rfl (by decide) (by decide) fX1_18 rfl rfl rfl (Or.inr ⟨_, rfl⟩) ?_
  show q_K _ (q_z zI1 zJ1 (q_up (q_up (q_up zR16 69 7 (some 70)) 69 8 (some 71)) 69 9 (some 72)) 73) _ _ _ _ _ _
  refine q_aload_n dX1_init_29 rfl ?_
  refine q_bi (v := 26) dX1_init_30 rfl ?_
  refine q_mka (t := 21) (N := 26) dX1_init_32 (Nat.le_of_ble_eq_true rfl) rfl (Or.inr (Or.inl ⟨rfl, rfl⟩)) q_ar_long rfl rfl (fun _ => rfl) (fun _ => rfl) (fun _ => rfl) (kc' := 4) (ks' := 588) rfl rfl ⟨rfl, rfl⟩ ?_
  refine q_putR (c := 1) (n := 0) (k := 10) dX1_init_34 rfl (by decide) (by decide) fX1_21 rfl rfl rfl (Or.inr ⟨_, rfl⟩) ?_
  show q_K _ (q_z zI1 zJ1 (q_up (q_up (q_up (q_up zR16 69 7 (some 70)) 69 8 (some 71)) 69 9 (some 72)) 69 10 (some 73)) 74) _ _ _ _ _ _
  refine q_aload_n dX1_init_37 rfl ?_
  refine q_bi (v := 26) dX1_init_38 rfl ?_
  refine q_mka (t := 21) (N := 26) dX1_init_40 (Nat.le_of_ble_eq_true rfl) rfl (Or.inr (Or.inl ⟨rfl, rfl⟩)) q_ar_long rfl rfl (fun _ => rfl) (fun _ => rfl) (fun _ => rfl) (kc' := 5) (ks' := 614) rfl rfl ⟨rfl, rfl⟩ ?_
  refine q_putR (c := 1) (n := 0) (k := 11) dX1_init_42 rfl (by decide) (by decide) fX1_24 rfl rfl rfl (Or.inr ⟨_, rfl⟩) ?_
  show q_K _ (q_z zI1 zJ1 (q_up (q_up (q_up (q_up (q_up zR16 69 7 (some 70)) 69 8 (some 71)) 69 9 (some 72)) 69 10 (some 73)) 69 11 (some 74)) 75) _ _ _ _ _ _
  refine q_aload_n dX1_init_45 rfl ?_
  refine q_bi (v := 26) dX1_init_46 rfl ?_
  refine q_mka (t := 21) (N := 26) dX1_init_48 (Nat.le_of_ble_eq_true rfl) rfl (Or.inr (Or.inl ⟨rfl, rfl⟩)) q_ar_long rfl rfl (fun _ => rfl) (fun _ => rfl) (fun _ => rfl) (kc' := 6) (ks' := 640) rfl rfl ⟨rfl, rfl⟩ ?_
  refine q_putR (c := 1) (n := 0) (k := 12) dX1_init_50 rfl (by decide) (by decide) fX1_27 rfl rfl rfl (Or.inr ⟨_, rfl⟩) ?_
  show q_K _ (q_z zI1 zJ1 (q_up (q_up (q_up (q_up (q_up (q_up zR16 69 7 (some 70)) 69 8 (some 71)) 69 9 (some 72)) 69 10 (some 73)) 69 11 (some 74)) 69 12 (some 75)) 76) _ _ _ _ _ _
  refine q_aload_n dX1_init_53 rfl ?_
  refine q_aload_n dX1_init_54 rfl ?_
  refine q_putR (c := 1) (n := 0) (k := 5) dX1_init_55 rfl (by decide) (by decide) fX1_30 rfl rfl rfl (Or.inl ⟨_, rfl⟩) ?_
  show q_K _ (q_z zI1 zJ1 (q_up (q_up (q_up (q_up (q_up (q_up (q_up zR16 69 7 (some 70)) 69 8 (some 71)) 69 9 (some 72)) 69 10 (some 73)) 69 11 (some 74)) 69 12 (some 75)) 69 5 (some 2)) 76) _ _ _ _ _ _
  refine q_aload_n dX1_init_58 rfl ?_
  refine q_aload_n dX1_init_59 rfl ?_
  refine q_putR (c := 1) (n := 0) (k := 6) dX1_init_60 rfl (by decide) (by decide) fX1_34 rfl rfl rfl (Or.inl ⟨_, rfl⟩) ?_
  show q_K _ (q_z zI1 zJ1 (q_up (q_up (q_up (q_up (q_up (q_up (q_up (q_up zR16 69 7 (some 70)) 69 8 (some 71)) 69 9 (some 72)) 69 10 (some 73)) 69 11 (some 74)) 69 12 (some 75)) 69 5 (some 2)) 69 6 (some 51)) 76) _ _ _ _ _ _
  exact q_endv dX1_init_63 rfl ⟨rfl, rfl⟩ ⟨rfl, rfl⟩
def zR18 : Nat → Nat → Option Nat := q_up zR17 0 10 (some 69)
theorem dX3_init_0 : decode cX3_init 0 = .ok (.aload_n 0, 1) := by decide +kernel
theorem dX3_init_1 : decode cX3_init 1 = .ok (.invokespecial 3, 3) := by decide +kernel
theorem dX3_init_4 : decode cX3_init 4 = .ok (.aload_n 0, 1) := by decide +kernel
theorem dX3_init_5 : decode cX3_init 5 = .ok (.bipush 40, 2) := by decide +kernel
theorem dX3_init_7 : decode cX3_init 7 = .ok (.newarray .int, 2) := by decide +kernel
theorem dX3_init_9 : decode cX3_init 9 = .ok (.putfield 9, 3) := by decide +kernel
theorem dX3_init_12 : decode cX3_init 12 = .ok (.aload_n 0, 1) := by decide +kernel
theorem dX3_init_13 : decode cX3_init 13 = .ok (.bipush 40, 2) := by decide +kernel
theorem dX3_init_15 : decode cX3_init 15 = .ok (.newarray .int, 2) := by decide +kernel
theorem dX3_init_17 : decode cX3_init 17 = .ok (.putfield 15, 3) := by decide +kernel
theorem dX3_init_20 : decode cX3_init 20 = .ok (.aload_n 0, 1) := by decide +kernel
theorem dX3_init_21 : decode cX3_init 21 = .ok (.bipush 40, 2) := by decide +kernel
theorem dX3_init_23 : decode cX3_init 23 = .ok (.newarray .int, 2) := by decide +kernel
theorem dX3_init_25 : decode cX3_init 25 = .ok (.putfield 18, 3) := by decide +kernel
theorem dX3_init_28 : decode cX3_init 28 = .ok (.aload_n 0, 1) := by decide +kernel
theorem dX3_init_29 : decode cX3_init 29 = .ok (.aload_n 1, 1) := by decide +kernel
theorem dX3_init_30 : decode cX3_init 30 = .ok (.putfield 21, 3) := by decide +kernel
theorem dX3_init_33 : decode cX3_init 33 = .ok (.aload_n 0, 1) := by decide +kernel
theorem dX3_init_34 : decode cX3_init 34 = .ok (.aload_n 2, 1) := by decide +kernel
theorem dX3_init_35 : decode cX3_init 35 = .ok (.putfield 25, 3) := by decide +kernel
theorem dX3_init_38 : decode cX3_init 38 = .ok (.aload_n 0, 1) := by decide +kernel
theorem dX3_init_39 : decode cX3_init 39 = .ok (.aload_n 3, 1) := by decide +kernel
theorem dX3_init_40 : decode cX3_init 40 = .ok (.putfield 29, 3) := by decide +kernel
theorem dX3_init_43 : decode cX3_init 43 = .ok (.return_, 1) := by decide +kernel
def zR19 : Nat → Nat → Option Nat := q_up (q_up (q_up (q_up (q_up (q_up zR18 76 2 (some 77)) 76 3 (some 78)) 76 4 (some 79)) 76 5 (some 2)) 76 6 (some 17)) 76 7 (some 59)
set_option maxRecDepth 20000 in
theorem yX3_init_76 : q_met mX3_init (q_z zI1 zJ1 zR18 77) [.ref 76, .ref 2, .ref 17, .ref 59] (fun s r => s = q_z zI1 zJ1 zR19 80 ∧ r = none) := by
  refine q_enter (by decide) (Nat.le_of_ble_eq_true rfl) ?_
  refine q_aload_n dX3_init_0 rfl ?_
  refine q_obj dX3_init_1 lX3_3 ⟨rfl, rfl⟩ rfl ?_
  refine q_aload_n dX3_init_4 rfl ?_
  refine q_bi (v := 40) dX3_init_5 rfl ?_
  refine q_mka (t := 20) (N := 40) dX3_init_7 (Nat.le_of_ble_eq_true rfl) rfl (Or.inl ⟨rfl, rfl⟩) q_ar_int rfl rfl (fun _ => rfl) (fun _ => rfl) (fun _ => rfl) (kc' := 1) (ks' := 40) rfl rfl ⟨rfl, rfl⟩ ?_
  refine q_putR (c := 3) (n := 0) (k := 2) dX3_init_9 rfl (by decide) (by decide) fX3_9 rfl rfl rfl (Or.inr ⟨_, rfl⟩) ?_
  show q_K _ (q_z zI1 zJ1 (q_up zR18 76 2 (some 77)) 78) _ _ _ _ _ _
  refine q_aload_n dX3_init_12 rfl ?_
  refine q_bi (v := 40) dX3_init_13 rfl ?_
  refine q_mka (t := 20) (N := 40) dX3_init_15 (Nat.le_of_ble_eq_true rfl) rfl (Or.inl ⟨rfl, rfl⟩) q_ar_int rfl rfl (fun _ => rfl) (fun _ => rfl) (fun _ => rfl) (kc' := 2) (ks' := 80) rfl rfl ⟨rfl, rfl⟩ ?_
  refine q_putR (c := 3) (n := 0) (k := 3) dX3_init_17 rfl (by decide) (by decide) fX3_15 rfl rfl rfl (Or.inr ⟨_, rfl⟩) ?_
  show q_K _ (q_z zI1 zJ1 (q_up (q_up zR18 76 2 (some 77)) 76 3 (some 78)) 79) _ _ _ _ _ _
  refine q_aload_n dX3_init_20 rfl ?_
  refine q_bi (v := 40) dX3_init_21 rfl ?_
  refine q_mka (t := 20) (N := 40) dX3_init_23 (Nat.le_of_ble_eq_true rfl) rfl (Or.inl ⟨rfl, rfl⟩) q_ar_int rfl rfl (fun _ => rfl) (fun _ => rfl) (fun _ => rfl) (kc' := 3) (ks' := 120) rfl rfl ⟨rfl, rfl⟩ ?_
  refine q_putR (c := 3) (n := 0) (k := 4) dX3_init_25 rfl (by decide) (by decide) fX3_18 rfl rfl rfl (Or.inr ⟨_, rfl⟩) ?_
  show q_K _ (q_z zI1 zJ1 (q_up (q_up (q_up zR18 76 2 (some 77)) 76 3 (some 78)) 76 4 (some 79)) 80) _ _ _ _ _ _
  refine q_aload_n dX3_init_28 rfl ?_
  refine q_aload_n dX3_init_29 rfl ?_
  refine q_putR (c := 3) (n := 0) (k := 5) dX3_init_30 rfl (by decide) (by decide) fX3_21 rfl rfl rfl (Or.inl ⟨_, rfl⟩) ?_
  show q_K _ (q_z zI1 zJ1 (q_up (q_up (q_up (q_up zR18 76 2 (some 77)) 76 3 (some 78)) 76 4 (some 79)) 76 5 (some 2)) 80) _ _ _ _ _ _
  refine q_aload_n dX3_init_33 rfl ?_
  refine q_aload_n dX3_init_34 rfl ?_
  refine q_putR (c := 3) (n := 0) (k := 6) dX3_init_35 rfl (by decide) (by decide) fX3_25 rfl rfl rfl (Or.inl ⟨_, rfl⟩) ?_
  show q_K _ (q_z zI1 zJ1 (q_up (q_up (q_up (q_up (q_up zR18 76 2 (some 77)) 76 3 (some 78)) 76 4 (some 79)) 76 5 (some 2)) 76 6 (some 17)) 80) _ _ _ _ _ _
  refine q_aload_n dX3_init_38 rfl ?_
  refine q_aload_n dX3_init_39 rfl ?_
  refine q_putR (c := 3) (n := 0) (k := 7) dX3_init_40 rfl (by decide) (by decide) fX3_29 rfl rfl rfl (Or.inl ⟨_, rfl⟩) ?_
  show q_K _ (q_z zI1 zJ1 (q_up (q_up (q_up (q_up (q_up (q_up zR18 76 2 (some 77)) 76 3 (some 78)) 76 4 (some 79)) 76 5 (some 2)) 76 6 (some 17)) 76 7 (some 59)) 80) _ _ _ _ _ _
  exact q_endv dX3_init_43 rfl ⟨rfl, rfl⟩ ⟨rfl, rfl⟩
def zR20 : Nat → Nat → Option Nat := q_up zR19 0 11 (some 76)
theorem dX6_init_0 : decode cX6_init 0 = .ok (.aload_n 0, 1) := by decide +kernel
theorem dX6_init_1 : decode cX6_init 1 = .ok (.invokespecial 3, 3) := by decide +kernel
theorem dX6_init_4 : decode cX6_init 4 = .ok (.aload_n 0, 1) := by decide +kernel
theorem dX6_init_5 : decode cX6_init 5 = .ok (.iconst (-1), 1) := by decide +kernel
theorem dX6_init_6 : decode cX6_init 6 = .ok (.putfield 9, 3) := by decide +kernel
theorem dX6_init_9 : decode cX6_init 9 = .ok (.aload_n 0, 1) := by decide +kernel
theorem dX6_init_10 : decode cX6_init 10 = .ok (.sipush 4000, 3) := by decide +kernel
theorem dX6_init_13 : decode cX6_init 13 = .ok (.newarray .int, 2) := by decide +kernel
theorem dX6_init_15 : decode cX6_init 15 = .ok (.putfield 15, 3) := by decide +kernel
theorem dX6_init_18 : decode cX6_init 18 = .ok (.aload_n 0, 1) := by decide +kernel
theorem dX6_init_19 : decode cX6_init 19 = .ok (.sipush 4000, 3) := by decide +kernel
theorem dX6_init_22 : decode cX6_init 22 = .ok (.newarray .int, 2) := by decide +kernel
theorem dX6_init_24 : decode cX6_init 24 = .ok (.putfield 19, 3) := by decide +kernel
theorem dX6_init_27 : decode cX6_init 27 = .ok (.aload_n 0, 1) := by decide +kernel
theorem dX6_init_28 : decode cX6_init 28 = .ok (.sipush 4000, 3) := by decide +kernel
theorem dX6_init_31 : decode cX6_init 31 = .ok (.newarray .int, 2) := by decide +kernel
theorem dX6_init_33 : decode cX6_init 33 = .ok (.putfield 22, 3) := by decide +kernel
theorem dX6_init_36 : decode cX6_init 36 = .ok (.aload_n 0, 1) := by decide +kernel
theorem dX6_init_37 : decode cX6_init 37 = .ok (.sipush 151, 3) := by decide +kernel
theorem dX6_init_40 : decode cX6_init 40 = .ok (.newarray .int, 2) := by decide +kernel
theorem dX6_init_42 : decode cX6_init 42 = .ok (.putfield 25, 3) := by decide +kernel
theorem dX6_init_45 : decode cX6_init 45 = .ok (.aload_n 0, 1) := by decide +kernel
theorem dX6_init_46 : decode cX6_init 46 = .ok (.sipush 151, 3) := by decide +kernel
theorem dX6_init_49 : decode cX6_init 49 = .ok (.newarray .int, 2) := by decide +kernel
theorem dX6_init_51 : decode cX6_init 51 = .ok (.putfield 28, 3) := by decide +kernel
theorem dX6_init_54 : decode cX6_init 54 = .ok (.aload_n 0, 1) := by decide +kernel
theorem dX6_init_55 : decode cX6_init 55 = .ok (.sipush 151, 3) := by decide +kernel
theorem dX6_init_58 : decode cX6_init 58 = .ok (.newarray .int, 2) := by decide +kernel
theorem dX6_init_60 : decode cX6_init 60 = .ok (.putfield 31, 3) := by decide +kernel
theorem dX6_init_63 : decode cX6_init 63 = .ok (.aload_n 0, 1) := by decide +kernel
theorem dX6_init_64 : decode cX6_init 64 = .ok (.sipush 151, 3) := by decide +kernel
theorem dX6_init_67 : decode cX6_init 67 = .ok (.newarray .int, 2) := by decide +kernel
theorem dX6_init_69 : decode cX6_init 69 = .ok (.putfield 34, 3) := by decide +kernel
theorem dX6_init_72 : decode cX6_init 72 = .ok (.aload_n 0, 1) := by decide +kernel
theorem dX6_init_73 : decode cX6_init 73 = .ok (.aload_n 1, 1) := by decide +kernel
theorem dX6_init_74 : decode cX6_init 74 = .ok (.putfield 37, 3) := by decide +kernel
theorem dX6_init_77 : decode cX6_init 77 = .ok (.return_, 1) := by decide +kernel
def zI2 : Nat → Nat → Int32 := q_up zI1 80 2 (-1)
def zR21 : Nat → Nat → Option Nat := q_up (q_up (q_up (q_up (q_up (q_up (q_up (q_up zR20 80 4 (some 81)) 80 5 (some 82)) 80 6 (some 83)) 80 8 (some 84)) 80 9 (some 85)) 80 10 (some 86)) 80 11 (some 87)) 80 3 (some 2)
set_option maxRecDepth 20000 in
theorem yX6_init_80 : q_met mX6_init (q_z zI1 zJ1 zR20 81) [.ref 80, .ref 2] (fun s r => s = q_z zI2 zJ1 zR21 88 ∧ r = none) := by
  refine q_enter (by decide) (Nat.le_of_ble_eq_true rfl) ?_
  refine q_aload_n dX6_init_0 rfl ?_
  refine q_obj dX6_init_1 lX6_3 ⟨rfl, rfl⟩ rfl ?_
  refine q_aload_n dX6_init_4 rfl ?_
  refine q_ic (v := (-1)) dX6_init_5 rfl ?_
  refine q_putI (c := 6) (n := 0) (k := 2) dX6_init_6 rfl (by decide) (by decide) fX6_9 rfl rfl ?_
  show q_K _ (q_z (q_up zI1 80 2 (-1)) zJ1 zR20 81) _ _ _ _ _ _
  refine q_aload_n dX6_init_9 rfl ?_
  refine q_si (v := 4000) dX6_init_10 rfl ?_
  refine q_mka (t := 20) (N := 4000) dX6_init_13 (Nat.le_of_ble_eq_true rfl) rfl (Or.inl ⟨rfl, rfl⟩) q_ar_int rfl rfl (fun _ => rfl) (fun _ => rfl) (fun _ => rfl) (kc' := 1) (ks' := 4000) rfl rfl ⟨rfl, rfl⟩ ?_
  refine q_putR (c := 6) (n := 0) (k := 4) dX6_init_15 rfl (by decide) (by decide) fX6_15 rfl rfl rfl (Or.inr ⟨_, rfl⟩) ?_
  show q_K _ (q_z (q_up zI1 80 2 (-1)) zJ1 (q_up zR20 80 4 (some 81)) 82) _ _ _ _ _ _
  refine q_aload_n dX6_init_18 rfl ?_
  refine q_si (v := 4000) dX6_init_19 rfl ?_
  refine q_mka (t := 20) (N := 4000) dX6_init_22 (Nat.le_of_ble_eq_true rfl) rfl (Or.inl ⟨rfl, rfl⟩) q_ar_int rfl rfl (fun _ => rfl) (fun _ => rfl) (fun _ => rfl) (kc' := 2) (ks' := 8000) rfl rfl ⟨rfl, rfl⟩ ?_
  refine q_putR (c := 6) (n := 0) (k := 5) dX6_init_24 rfl (by decide) (by decide) fX6_19 rfl rfl rfl (Or.inr ⟨_, rfl⟩) ?_
  show q_K _ (q_z (q_up zI1 80 2 (-1)) zJ1 (q_up (q_up zR20 80 4 (some 81)) 80 5 (some 82)) 83) _ _ _ _ _ _
  refine q_aload_n dX6_init_27 rfl ?_
  refine q_si (v := 4000) dX6_init_28 rfl ?_
  refine q_mka (t := 20) (N := 4000) dX6_init_31 (Nat.le_of_ble_eq_true rfl) rfl (Or.inl ⟨rfl, rfl⟩) q_ar_int rfl rfl (fun _ => rfl) (fun _ => rfl) (fun _ => rfl) (kc' := 3) (ks' := 12000) rfl rfl ⟨rfl, rfl⟩ ?_
  refine q_putR (c := 6) (n := 0) (k := 6) dX6_init_33 rfl (by decide) (by decide) fX6_22 rfl rfl rfl (Or.inr ⟨_, rfl⟩) ?_
  show q_K _ (q_z (q_up zI1 80 2 (-1)) zJ1 (q_up (q_up (q_up zR20 80 4 (some 81)) 80 5 (some 82)) 80 6 (some 83)) 84) _ _ _ _ _ _
  refine q_aload_n dX6_init_36 rfl ?_
  refine q_si (v := 151) dX6_init_37 rfl ?_
  refine q_mka (t := 20) (N := 151) dX6_init_40 (Nat.le_of_ble_eq_true rfl) rfl (Or.inl ⟨rfl, rfl⟩) q_ar_int rfl rfl (fun _ => rfl) (fun _ => rfl) (fun _ => rfl) (kc' := 4) (ks' := 12151) rfl rfl ⟨rfl, rfl⟩ ?_
  refine q_putR (c := 6) (n := 0) (k := 8) dX6_init_42 rfl (by decide) (by decide) fX6_25 rfl rfl rfl (Or.inr ⟨_, rfl⟩) ?_
  show q_K _ (q_z (q_up zI1 80 2 (-1)) zJ1 (q_up (q_up (q_up (q_up zR20 80 4 (some 81)) 80 5 (some 82)) 80 6 (some 83)) 80 8 (some 84)) 85) _ _ _ _ _ _
  refine q_aload_n dX6_init_45 rfl ?_
  refine q_si (v := 151) dX6_init_46 rfl ?_
  refine q_mka (t := 20) (N := 151) dX6_init_49 (Nat.le_of_ble_eq_true rfl) rfl (Or.inl ⟨rfl, rfl⟩) q_ar_int rfl rfl (fun _ => rfl) (fun _ => rfl) (fun _ => rfl) (kc' := 5) (ks' := 12302) rfl rfl ⟨rfl, rfl⟩ ?_
  refine q_putR (c := 6) (n := 0) (k := 9) dX6_init_51 rfl (by decide) (by decide) fX6_28 rfl rfl rfl (Or.inr ⟨_, rfl⟩) ?_
  show q_K _ (q_z (q_up zI1 80 2 (-1)) zJ1 (q_up (q_up (q_up (q_up (q_up zR20 80 4 (some 81)) 80 5 (some 82)) 80 6 (some 83)) 80 8 (some 84)) 80 9 (some 85)) 86) _ _ _ _ _ _
  refine q_aload_n dX6_init_54 rfl ?_
  refine q_si (v := 151) dX6_init_55 rfl ?_
  refine q_mka (t := 20) (N := 151) dX6_init_58 (Nat.le_of_ble_eq_true rfl) rfl (Or.inl ⟨rfl, rfl⟩) q_ar_int rfl rfl (fun _ => rfl) (fun _ => rfl) (fun _ => rfl) (kc' := 6) (ks' := 12453) rfl rfl ⟨rfl, rfl⟩ ?_
  refine q_putR (c := 6) (n := 0) (k := 10) dX6_init_60 rfl (by decide) (by decide) fX6_31 rfl rfl rfl (Or.inr ⟨_, rfl⟩) ?_
  show q_K _ (q_z (q_up zI1 80 2 (-1)) zJ1 (q_up (q_up (q_up (q_up (q_up (q_up zR20 80 4 (some 81)) 80 5 (some 82)) 80 6 (some 83)) 80 8 (some 84)) 80 9 (some 85)) 80 10 (some 86)) 87) _ _ _ _ _ _
  refine q_aload_n dX6_init_63 rfl ?_
  refine q_si (v := 151) dX6_init_64 rfl ?_
  refine q_mka (t := 20) (N := 151) dX6_init_67 (Nat.le_of_ble_eq_true rfl) rfl (Or.inl ⟨rfl, rfl⟩) q_ar_int rfl rfl (fun _ => rfl) (fun _ => rfl) (fun _ => rfl) (kc' := 7) (ks' := 12604) rfl rfl ⟨rfl, rfl⟩ ?_
  refine q_putR (c := 6) (n := 0) (k := 11) dX6_init_69 rfl (by decide) (by decide) fX6_34 rfl rfl rfl (Or.inr ⟨_, rfl⟩) ?_
  show q_K _ (q_z (q_up zI1 80 2 (-1)) zJ1 (q_up (q_up (q_up (q_up (q_up (q_up (q_up zR20 80 4 (some 81)) 80 5 (some 82)) 80 6 (some 83)) 80 8 (some 84)) 80 9 (some 85)) 80 10 (some 86)) 80 11 (some 87)) 88) _ _ _ _ _ _
  refine q_aload_n dX6_init_72 rfl ?_
  refine q_aload_n dX6_init_73 rfl ?_
  refine q_putR (c := 6) (n := 0) (k := 3) dX6_init_74 rfl (by decide) (by decide) fX6_37 rfl rfl rfl (Or.inl ⟨_, rfl⟩) ?_
  show q_K _ (q_z (q_up zI1 80 2 (-1)) zJ1 (q_up (q_up (q_up (q_up (q_up (q_up (q_up (q_up zR20 80 4 (some 81)) 80 5 (some 82)) 80 6 (some 83)) 80 8 (some 84)) 80 9 (some 85)) 80 10 (some 86)) 80 11 (some 87)) 80 3 (some 2)) 88) _ _ _ _ _ _
  exact q_endv dX6_init_77 rfl ⟨rfl, rfl⟩ ⟨rfl, rfl⟩
def zR22 : Nat → Nat → Option Nat := q_up zR21 0 12 (some 80)
theorem dX8_init_0 : decode cX8_init 0 = .ok (.aload_n 0, 1) := by decide +kernel
theorem dX8_init_1 : decode cX8_init 1 = .ok (.invokespecial 3, 3) := by decide +kernel
theorem dX8_init_4 : decode cX8_init 4 = .ok (.aload_n 0, 1) := by decide +kernel
theorem dX8_init_5 : decode cX8_init 5 = .ok (.bipush 30, 2) := by decide +kernel
theorem dX8_init_7 : decode cX8_init 7 = .ok (.newarray .int, 2) := by decide +kernel
theorem dX8_init_9 : decode cX8_init 9 = .ok (.putfield 9, 3) := by decide +kernel
theorem dX8_init_12 : decode cX8_init 12 = .ok (.aload_n 0, 1) := by decide +kernel
theorem dX8_init_13 : decode cX8_init 13 = .ok (.bipush 30, 2) := by decide +kernel
theorem dX8_init_15 : decode cX8_init 15 = .ok (.newarray .int, 2) := by decide +kernel
theorem dX8_init_17 : decode cX8_init 17 = .ok (.putfield 15, 3) := by decide +kernel
theorem dX8_init_20 : decode cX8_init 20 = .ok (.aload_n 0, 1) := by decide +kernel
theorem dX8_init_21 : decode cX8_init 21 = .ok (.bipush 30, 2) := by decide +kernel
theorem dX8_init_23 : decode cX8_init 23 = .ok (.newarray .int, 2) := by decide +kernel
theorem dX8_init_25 : decode cX8_init 25 = .ok (.putfield 18, 3) := by decide +kernel
theorem dX8_init_28 : decode cX8_init 28 = .ok (.return_, 1) := by decide +kernel
def zR23 : Nat → Nat → Option Nat := q_up (q_up (q_up zR22 88 1 (some 89)) 88 2 (some 90)) 88 3 (some 91)
set_option maxRecDepth 20000 in
theorem yX8_init_88 : q_met mX8_init (q_z zI2 zJ1 zR22 89) [.ref 88] (fun s r => s = q_z zI2 zJ1 zR23 92 ∧ r = none) := by
  refine q_enter (by decide) (Nat.le_of_ble_eq_true rfl) ?_
  refine q_aload_n dX8_init_0 rfl ?_
  refine q_obj dX8_init_1 lX8_3 ⟨rfl, rfl⟩ rfl ?_
  refine q_aload_n dX8_init_4 rfl ?_
  refine q_bi (v := 30) dX8_init_5 rfl ?_
  refine q_mka (t := 20) (N := 30) dX8_init_7 (Nat.le_of_ble_eq_true rfl) rfl (Or.inl ⟨rfl, rfl⟩) q_ar_int rfl rfl (fun _ => rfl) (fun _ => rfl) (fun _ => rfl) (kc' := 1) (ks' := 30) rfl rfl ⟨rfl, rfl⟩ ?_
  refine q_putR (c := 8) (n := 0) (k := 1) dX8_init_9 rfl (by decide) (by decide) fX8_9 rfl rfl rfl (Or.inr ⟨_, rfl⟩) ?_
  show q_K _ (q_z zI2 zJ1 (q_up zR22 88 1 (some 89)) 90) _ _ _ _ _ _
  refine q_aload_n dX8_init_12 rfl ?_
  refine q_bi (v := 30) dX8_init_13 rfl ?_
  refine q_mka (t := 20) (N := 30) dX8_init_15 (Nat.le_of_ble_eq_true rfl) rfl (Or.inl ⟨rfl, rfl⟩) q_ar_int rfl rfl (fun _ => rfl) (fun _ => rfl) (fun _ => rfl) (kc' := 2) (ks' := 60) rfl rfl ⟨rfl, rfl⟩ ?_
  refine q_putR (c := 8) (n := 0) (k := 2) dX8_init_17 rfl (by decide) (by decide) fX8_15 rfl rfl rfl (Or.inr ⟨_, rfl⟩) ?_
  show q_K _ (q_z zI2 zJ1 (q_up (q_up zR22 88 1 (some 89)) 88 2 (some 90)) 91) _ _ _ _ _ _
  refine q_aload_n dX8_init_20 rfl ?_
  refine q_bi (v := 30) dX8_init_21 rfl ?_
  refine q_mka (t := 20) (N := 30) dX8_init_23 (Nat.le_of_ble_eq_true rfl) rfl (Or.inl ⟨rfl, rfl⟩) q_ar_int rfl rfl (fun _ => rfl) (fun _ => rfl) (fun _ => rfl) (kc' := 3) (ks' := 90) rfl rfl ⟨rfl, rfl⟩ ?_
  refine q_putR (c := 8) (n := 0) (k := 3) dX8_init_25 rfl (by decide) (by decide) fX8_18 rfl rfl rfl (Or.inr ⟨_, rfl⟩) ?_
  show q_K _ (q_z zI2 zJ1 (q_up (q_up (q_up zR22 88 1 (some 89)) 88 2 (some 90)) 88 3 (some 91)) 92) _ _ _ _ _ _
  exact q_endv dX8_init_28 rfl ⟨rfl, rfl⟩ ⟨rfl, rfl⟩
def zR24 : Nat → Nat → Option Nat := q_up (q_up (q_up zR23 0 13 (some 88)) 0 14 (some 92)) 0 15 (some 93)
def zR25 : Nat → Nat → Option Nat := q_up (q_up (q_up (q_up (q_up (q_up (q_up (q_up (q_up (q_up (q_up (q_up (q_up (q_up zR24 94 3 (some 95)) 94 4 (some 96)) 94 5 (some 97)) 94 6 (some 98)) 94 7 (some 99)) 94 8 (some 100)) 94 9 (some 101)) 94 10 (some 102)) 94 11 (some 103)) 94 12 (some 104)) 94 13 (some 105)) 94 14 (some 106)) 94 15 (some 107)) 94 16 (some 108)
set_option maxRecDepth 20000 in
theorem yX9_init_94 : q_met mX9_init (q_z zI2 zJ1 zR24 95) [.ref 94] (fun s r => s = q_z zI2 zJ1 zR25 109 ∧ r = none) := by
  refine q_enter (by decide) (Nat.le_of_ble_eq_true rfl) ?_
  refine q_aload_n dX9_init_0 rfl ?_
  refine q_obj dX9_init_1 lX9_3 ⟨rfl, rfl⟩ rfl ?_
  refine q_aload_n dX9_init_4 rfl ?_
  refine q_bi (v := 8) dX9_init_5 rfl ?_
  refine q_mka (t := 21) (N := 8) dX9_init_7 (Nat.le_of_ble_eq_true rfl) rfl (Or.inr (Or.inl ⟨rfl, rfl⟩)) q_ar_long rfl rfl (fun _ => rfl) (fun _ => rfl) (fun _ => rfl) (kc' := 1) (ks' := 8) rfl rfl ⟨rfl, rfl⟩ ?_
  refine q_putR (c := 9) (n := 0) (k := 3) dX9_init_9 rfl (by decide) (by decide) fX9_9 rfl rfl rfl (Or.inr ⟨_, rfl⟩) ?_
  show q_K _ (q_z zI2 zJ1 (q_up zR24 94 3 (some 95)) 96) _ _ _ _ _ _
  refine q_aload_n dX9_init_12 rfl ?_
  refine q_bi (v := 8) dX9_init_13 rfl ?_
  refine q_mka (t := 20) (N := 8) dX9_init_15 (Nat.le_of_ble_eq_true rfl) rfl (Or.inl ⟨rfl, rfl⟩) q_ar_int rfl rfl (fun _ => rfl) (fun _ => rfl) (fun _ => rfl) (kc' := 2) (ks' := 16) rfl rfl ⟨rfl, rfl⟩ ?_
  refine q_putR (c := 9) (n := 0) (k := 4) dX9_init_17 rfl (by decide) (by decide) fX9_15 rfl rfl rfl (Or.inr ⟨_, rfl⟩) ?_
  show q_K _ (q_z zI2 zJ1 (q_up (q_up zR24 94 3 (some 95)) 94 4 (some 96)) 97) _ _ _ _ _ _
  refine q_aload_n dX9_init_20 rfl ?_
  refine q_bi (v := 40) dX9_init_21 rfl ?_
  refine q_mka (t := 20) (N := 40) dX9_init_23 (Nat.le_of_ble_eq_true rfl) rfl (Or.inl ⟨rfl, rfl⟩) q_ar_int rfl rfl (fun _ => rfl) (fun _ => rfl) (fun _ => rfl) (kc' := 3) (ks' := 56) rfl rfl ⟨rfl, rfl⟩ ?_
  refine q_putR (c := 9) (n := 0) (k := 5) dX9_init_25 rfl (by decide) (by decide) fX9_19 rfl rfl rfl (Or.inr ⟨_, rfl⟩) ?_
  show q_K _ (q_z zI2 zJ1 (q_up (q_up (q_up zR24 94 3 (some 95)) 94 4 (some 96)) 94 5 (some 97)) 98) _ _ _ _ _ _
  refine q_aload_n dX9_init_28 rfl ?_
  refine q_bi (v := 40) dX9_init_29 rfl ?_
  refine q_mka (t := 20) (N := 40) dX9_init_31 (Nat.le_of_ble_eq_true rfl) rfl (Or.inl ⟨rfl, rfl⟩) q_ar_int rfl rfl (fun _ => rfl) (fun _ => rfl) (fun _ => rfl) (kc' := 4) (ks' := 96) rfl rfl ⟨rfl, rfl⟩ ?_
  refine q_putR (c := 9) (n := 0) (k := 6) dX9_init_33 rfl (by decide) (by decide) fX9_22 rfl rfl rfl (Or.inr ⟨_, rfl⟩) ?_
  show q_K _ (q_z zI2 zJ1 (q_up (q_up (q_up (q_up zR24 94 3 (some 95)) 94 4 (some 96)) 94 5 (some 97)) 94 6 (some 98)) 99) _ _ _ _ _ _
  refine q_aload_n dX9_init_36 rfl ?_
  refine q_bi (v := 40) dX9_init_37 rfl ?_
  refine q_mka (t := 20) (N := 40) dX9_init_39 (Nat.le_of_ble_eq_true rfl) rfl (Or.inl ⟨rfl, rfl⟩) q_ar_int rfl rfl (fun _ => rfl) (fun _ => rfl) (fun _ => rfl) (kc' := 5) (ks' := 136) rfl rfl ⟨rfl, rfl⟩ ?_
  refine q_putR (c := 9) (n := 0) (k := 7) dX9_init_41 rfl (by decide) (by decide) fX9_25 rfl rfl rfl (Or.inr ⟨_, rfl⟩) ?_
  show q_K _ (q_z zI2 zJ1 (q_up (q_up (q_up (q_up (q_up zR24 94 3 (some 95)) 94 4 (some 96)) 94 5 (some 97)) 94 6 (some 98)) 94 7 (some 99)) 100) _ _ _ _ _ _
  refine q_aload_n dX9_init_44 rfl ?_
  refine q_bi (v := 40) dX9_init_45 rfl ?_
  refine q_mka (t := 20) (N := 40) dX9_init_47 (Nat.le_of_ble_eq_true rfl) rfl (Or.inl ⟨rfl, rfl⟩) q_ar_int rfl rfl (fun _ => rfl) (fun _ => rfl) (fun _ => rfl) (kc' := 6) (ks' := 176) rfl rfl ⟨rfl, rfl⟩ ?_
  refine q_putR (c := 9) (n := 0) (k := 8) dX9_init_49 rfl (by decide) (by decide) fX9_28 rfl rfl rfl (Or.inr ⟨_, rfl⟩) ?_
  show q_K _ (q_z zI2 zJ1 (q_up (q_up (q_up (q_up (q_up (q_up zR24 94 3 (some 95)) 94 4 (some 96)) 94 5 (some 97)) 94 6 (some 98)) 94 7 (some 99)) 94 8 (some 100)) 101) _ _ _ _ _ _
  refine q_aload_n dX9_init_52 rfl ?_
  refine q_bi (v := 40) dX9_init_53 rfl ?_
  refine q_mka (t := 20) (N := 40) dX9_init_55 (Nat.le_of_ble_eq_true rfl) rfl (Or.inl ⟨rfl, rfl⟩) q_ar_int rfl rfl (fun _ => rfl) (fun _ => rfl) (fun _ => rfl) (kc' := 7) (ks' := 216) rfl rfl ⟨rfl, rfl⟩ ?_
  refine q_putR (c := 9) (n := 0) (k := 9) dX9_init_57 rfl (by decide) (by decide) fX9_31 rfl rfl rfl (Or.inr ⟨_, rfl⟩) ?_
  show q_K _ (q_z zI2 zJ1 (q_up (q_up (q_up (q_up (q_up (q_up (q_up zR24 94 3 (some 95)) 94 4 (some 96)) 94 5 (some 97)) 94 6 (some 98)) 94 7 (some 99)) 94 8 (some 100)) 94 9 (some 101)) 102) _ _ _ _ _ _
  refine q_aload_n dX9_init_60 rfl ?_
  refine q_bi (v := 40) dX9_init_61 rfl ?_
  refine q_mka (t := 20) (N := 40) dX9_init_63 (Nat.le_of_ble_eq_true rfl) rfl (Or.inl ⟨rfl, rfl⟩) q_ar_int rfl rfl (fun _ => rfl) (fun _ => rfl) (fun _ => rfl) (kc' := 8) (ks' := 256) rfl rfl ⟨rfl, rfl⟩ ?_
  refine q_putR (c := 9) (n := 0) (k := 10) dX9_init_65 rfl (by decide) (by decide) fX9_34 rfl rfl rfl (Or.inr ⟨_, rfl⟩) ?_
  show q_K _ (q_z zI2 zJ1 (q_up (q_up (q_up (q_up (q_up (q_up (q_up (q_up zR24 94 3 (some 95)) 94 4 (some 96)) 94 5 (some 97)) 94 6 (some 98)) 94 7 (some 99)) 94 8 (some 100)) 94 9 (some 101)) 94 10 (some 102)) 103) _ _ _ _ _ _
  refine q_aload_n dX9_init_68 rfl ?_
  refine q_bi (v := 120) dX9_init_69 rfl ?_
  refine q_mka (t := 20) (N := 120) dX9_init_71 (Nat.le_of_ble_eq_true rfl) rfl (Or.inl ⟨rfl, rfl⟩) q_ar_int rfl rfl (fun _ => rfl) (fun _ => rfl) (fun _ => rfl) (kc' := 9) (ks' := 376) rfl rfl ⟨rfl, rfl⟩ ?_
  refine q_putR (c := 9) (n := 0) (k := 11) dX9_init_73 rfl (by decide) (by decide) fX9_37 rfl rfl rfl (Or.inr ⟨_, rfl⟩) ?_
  show q_K _ (q_z zI2 zJ1 (q_up (q_up (q_up (q_up (q_up (q_up (q_up (q_up (q_up zR24 94 3 (some 95)) 94 4 (some 96)) 94 5 (some 97)) 94 6 (some 98)) 94 7 (some 99)) 94 8 (some 100)) 94 9 (some 101)) 94 10 (some 102)) 94 11 (some 103)) 104) _ _ _ _ _ _
  refine q_aload_n dX9_init_76 rfl ?_
  refine q_bi (v := 40) dX9_init_77 rfl ?_
  refine q_mka (t := 21) (N := 40) dX9_init_79 (Nat.le_of_ble_eq_true rfl) rfl (Or.inr (Or.inl ⟨rfl, rfl⟩)) q_ar_long rfl rfl (fun _ => rfl) (fun _ => rfl) (fun _ => rfl) (kc' := 10) (ks' := 416) rfl rfl ⟨rfl, rfl⟩ ?_
  refine q_putR (c := 9) (n := 0) (k := 12) dX9_init_81 rfl (by decide) (by decide) fX9_40 rfl rfl rfl (Or.inr ⟨_, rfl⟩) ?_
  show q_K _ (q_z zI2 zJ1 (q_up (q_up (q_up (q_up (q_up (q_up (q_up (q_up (q_up (q_up zR24 94 3 (some 95)) 94 4 (some 96)) 94 5 (some 97)) 94 6 (some 98)) 94 7 (some 99)) 94 8 (some 100)) 94 9 (some 101)) 94 10 (some 102)) 94 11 (some 103)) 94 12 (some 104)) 105) _ _ _ _ _ _
  refine q_aload_n dX9_init_84 rfl ?_
  refine q_bi (v := 40) dX9_init_85 rfl ?_
  refine q_mka (t := 20) (N := 40) dX9_init_87 (Nat.le_of_ble_eq_true rfl) rfl (Or.inl ⟨rfl, rfl⟩) q_ar_int rfl rfl (fun _ => rfl) (fun _ => rfl) (fun _ => rfl) (kc' := 11) (ks' := 456) rfl rfl ⟨rfl, rfl⟩ ?_
  refine q_putR (c := 9) (n := 0) (k := 13) dX9_init_89 rfl (by decide) (by decide) fX9_43 rfl rfl rfl (Or.inr ⟨_, rfl⟩) ?_
  show q_K _ (q_z zI2 zJ1 (q_up (q_up (q_up (q_up (q_up (q_up (q_up (q_up (q_up (q_up (q_up zR24 94 3 (some 95)) 94 4 (some 96)) 94 5 (some 97)) 94 6 (some 98)) 94 7 (some 99)) 94 8 (some 100)) 94 9 (some 101)) 94 10 (some 102)) 94 11 (some 103)) 94 12 (some 104)) 94 13 (some 105)) 106) _ _ _ _ _ _
  refine q_aload_n dX9_init_92 rfl ?_
  refine q_bi (v := 40) dX9_init_93 rfl ?_
  refine q_mka (t := 20) (N := 40) dX9_init_95 (Nat.le_of_ble_eq_true rfl) rfl (Or.inl ⟨rfl, rfl⟩) q_ar_int rfl rfl (fun _ => rfl) (fun _ => rfl) (fun _ => rfl) (kc' := 12) (ks' := 496) rfl rfl ⟨rfl, rfl⟩ ?_
  refine q_putR (c := 9) (n := 0) (k := 14) dX9_init_97 rfl (by decide) (by decide) fX9_46 rfl rfl rfl (Or.inr ⟨_, rfl⟩) ?_
  show q_K _ (q_z zI2 zJ1 (q_up (q_up (q_up (q_up (q_up (q_up (q_up (q_up (q_up (q_up (q_up (q_up zR24 94 3 (some 95)) 94 4 (some 96)) 94 5 (some 97)) 94 6 (some 98)) 94 7 (some 99)) 94 8 (some 100)) 94 9 (some 101)) 94 10 (some 102)) 94 11 (some 103)) 94 12 (some 104)) 94 13 (some 105)) 94 14 (some 106)) 107) _ _ _ _ _ _
  refine q_aload_n dX9_init_100 rfl ?_
  refine q_bi (v := 40) dX9_init_101 rfl ?_
  refine q_mka (t := 20) (N := 40) dX9_init_103 (Nat.le_of_ble_eq_true rfl) rfl (Or.inl ⟨rfl, rfl⟩) q_ar_int rfl rfl (fun _ => rfl) (fun _ => rfl) (fun _ => rfl) (kc' := 13) (ks' := 536) rfl rfl ⟨rfl, rfl⟩ ?_
  refine q_putR (c := 9) (n := 0) (k := 15) dX9_init_105 rfl (by decide) (by decide) fX9_49 rfl rfl rfl (Or.inr ⟨_, rfl⟩) ?_
  show q_K _ (q_z zI2 zJ1 (q_up (q_up (q_up (q_up (q_up (q_up (q_up (q_up (q_up (q_up (q_up (q_up (q_up zR24 94 3 (some 95)) 94 4 (some 96)) 94 5 (some 97)) 94 6 (some 98)) 94 7 (some 99)) 94 8 (some 100)) 94 9 (some 101)) 94 10 (some 102)) 94 11 (some 103)) 94 12 (some 104)) 94 13 (some 105)) 94 14 (some 106)) 94 15 (some 107)) 108) _ _ _ _ _ _
  refine q_aload_n dX9_init_108 rfl ?_
  refine q_bi (v := 20) dX9_init_109 rfl ?_
  refine q_mka (t := 20) (N := 20) dX9_init_111 (Nat.le_of_ble_eq_true rfl) rfl (Or.inl ⟨rfl, rfl⟩) q_ar_int rfl rfl (fun _ => rfl) (fun _ => rfl) (fun _ => rfl) (kc' := 14) (ks' := 556) rfl rfl ⟨rfl, rfl⟩ ?_
  refine q_putR (c := 9) (n := 0) (k := 16) dX9_init_113 rfl (by decide) (by decide) fX9_52 rfl rfl rfl (Or.inr ⟨_, rfl⟩) ?_
  show q_K _ (q_z zI2 zJ1 (q_up (q_up (q_up (q_up (q_up (q_up (q_up (q_up (q_up (q_up (q_up (q_up (q_up (q_up zR24 94 3 (some 95)) 94 4 (some 96)) 94 5 (some 97)) 94 6 (some 98)) 94 7 (some 99)) 94 8 (some 100)) 94 9 (some 101)) 94 10 (some 102)) 94 11 (some 103)) 94 12 (some 104)) 94 13 (some 105)) 94 14 (some 106)) 94 15 (some 107)) 94 16 (some 108)) 109) _ _ _ _ _ _
  exact q_endv dX9_init_116 rfl ⟨rfl, rfl⟩ ⟨rfl, rfl⟩
def zR26 : Nat → Nat → Option Nat := q_up zR25 92 0 (some 94)
def zR27 : Nat → Nat → Option Nat := q_up (q_up (q_up (q_up (q_up (q_up (q_up (q_up (q_up (q_up (q_up (q_up (q_up (q_up zR26 109 3 (some 110)) 109 4 (some 111)) 109 5 (some 112)) 109 6 (some 113)) 109 7 (some 114)) 109 8 (some 115)) 109 9 (some 116)) 109 10 (some 117)) 109 11 (some 118)) 109 12 (some 119)) 109 13 (some 120)) 109 14 (some 121)) 109 15 (some 122)) 109 16 (some 123)
set_option maxRecDepth 20000 in
theorem yX9_init_109 : q_met mX9_init (q_z zI2 zJ1 zR26 110) [.ref 109] (fun s r => s = q_z zI2 zJ1 zR27 124 ∧ r = none) := by
  refine q_enter (by decide) (Nat.le_of_ble_eq_true rfl) ?_
  refine q_aload_n dX9_init_0 rfl ?_
  refine q_obj dX9_init_1 lX9_3 ⟨rfl, rfl⟩ rfl ?_
  refine q_aload_n dX9_init_4 rfl ?_
  refine q_bi (v := 8) dX9_init_5 rfl ?_
  refine q_mka (t := 21) (N := 8) dX9_init_7 (Nat.le_of_ble_eq_true rfl) rfl (Or.inr (Or.inl ⟨rfl, rfl⟩)) q_ar_long rfl rfl (fun _ => rfl) (fun _ => rfl) (fun _ => rfl) (kc' := 1) (ks' := 8) rfl rfl ⟨rfl, rfl⟩ ?_
  refine q_putR (c := 9) (n := 0) (k := 3) dX9_init_9 rfl (by decide) (by decide) fX9_9 rfl rfl rfl (Or.inr ⟨_, rfl⟩) ?_
  show q_K _ (q_z zI2 zJ1 (q_up zR26 109 3 (some 110)) 111) _ _ _ _ _ _
  refine q_aload_n dX9_init_12 rfl ?_
  refine q_bi (v := 8) dX9_init_13 rfl ?_
  refine q_mka (t := 20) (N := 8) dX9_init_15 (Nat.le_of_ble_eq_true rfl) rfl (Or.inl ⟨rfl, rfl⟩) q_ar_int rfl rfl (fun _ => rfl) (fun _ => rfl) (fun _ => rfl) (kc' := 2) (ks' := 16) rfl rfl ⟨rfl, rfl⟩ ?_
  refine q_putR (c := 9) (n := 0) (k := 4) dX9_init_17 rfl (by decide) (by decide) fX9_15 rfl rfl rfl (Or.inr ⟨_, rfl⟩) ?_
  show q_K _ (q_z zI2 zJ1 (q_up (q_up zR26 109 3 (some 110)) 109 4 (some 111)) 112) _ _ _ _ _ _
  refine q_aload_n dX9_init_20 rfl ?_
  refine q_bi (v := 40) dX9_init_21 rfl ?_
  refine q_mka (t := 20) (N := 40) dX9_init_23 (Nat.le_of_ble_eq_true rfl) rfl (Or.inl ⟨rfl, rfl⟩) q_ar_int rfl rfl (fun _ => rfl) (fun _ => rfl) (fun _ => rfl) (kc' := 3) (ks' := 56) rfl rfl ⟨rfl, rfl⟩ ?_
  refine q_putR (c := 9) (n := 0) (k := 5) dX9_init_25 rfl (by decide) (by decide) fX9_19 rfl rfl rfl (Or.inr ⟨_, rfl⟩) ?_
  show q_K _ (q_z zI2 zJ1 (q_up (q_up (q_up zR26 109 3 (some 110)) 109 4 (some 111)) 109 5 (some 112)) 113) _ _ _ _ _ _
  refine q_aload_n dX9_init_28 rfl ?_
  refine q_bi (v := 40) dX9_init_29 rfl ?_
  refine q_mka (t := 20) (N := 40) dX9_init_31 (Nat.le_of_ble_eq_true rfl) rfl (Or.inl ⟨rfl, rfl⟩) q_ar_int rfl rfl (fun _ => rfl) (fun _ => rfl) (fun _ => rfl) (kc' := 4) (ks' := 96) rfl rfl ⟨rfl, rfl⟩ ?_
  refine q_putR (c := 9) (n := 0) (k := 6) dX9_init_33 rfl (by decide) (by decide) fX9_22 rfl rfl rfl (Or.inr ⟨_, rfl⟩) ?_
  show q_K _ (q_z zI2 zJ1 (q_up (q_up (q_up (q_up zR26 109 3 (some 110)) 109 4 (some 111)) 109 5 (some 112)) 109 6 (some 113)) 114) _ _ _ _ _ _
  refine q_aload_n dX9_init_36 rfl ?_
  refine q_bi (v := 40) dX9_init_37 rfl ?_
  refine q_mka (t := 20) (N := 40) dX9_init_39 (Nat.le_of_ble_eq_true rfl) rfl (Or.inl ⟨rfl, rfl⟩) q_ar_int rfl rfl (fun _ => rfl) (fun _ => rfl) (fun _ => rfl) (kc' := 5) (ks' := 136) rfl rfl ⟨rfl, rfl⟩ ?_
  refine q_putR (c := 9) (n := 0) (k := 7) dX9_init_41 rfl (by decide) (by decide) fX9_25 rfl rfl rfl (Or.inr ⟨_, rfl⟩) ?_
  show q_K _ (q_z zI2 zJ1 (q_up (q_up (q_up (q_up (q_up zR26 109 3 (some 110)) 109 4 (some 111)) 109 5 (some 112)) 109 6 (some 113)) 109 7 (some 114)) 115) _ _ _ _ _ _
  refine q_aload_n dX9_init_44 rfl ?_
  refine q_bi (v := 40) dX9_init_45 rfl ?_
  refine q_mka (t := 20) (N := 40) dX9_init_47 (Nat.le_of_ble_eq_true rfl) rfl (Or.inl ⟨rfl, rfl⟩) q_ar_int rfl rfl (fun _ => rfl) (fun _ => rfl) (fun _ => rfl) (kc' := 6) (ks' := 176) rfl rfl ⟨rfl, rfl⟩ ?_
  refine q_putR (c := 9) (n := 0) (k := 8) dX9_init_49 rfl (by decide) (by decide) fX9_28 rfl rfl rfl (Or.inr ⟨_, rfl⟩) ?_
  show q_K _ (q_z zI2 zJ1 (q_up (q_up (q_up (q_up (q_up (q_up zR26 109 3 (some 110)) 109 4 (some 111)) 109 5 (some 112)) 109 6 (some 113)) 109 7 (some 114)) 109 8 (some 115)) 116) _ _ _ _ _ _
  refine q_aload_n dX9_init_52 rfl ?_
  refine q_bi (v := 40) dX9_init_53 rfl ?_
  refine q_mka (t := 20) (N := 40) dX9_init_55 (Nat.le_of_ble_eq_true rfl) rfl (Or.inl ⟨rfl, rfl⟩) q_ar_int rfl rfl (fun _ => rfl) (fun _ => rfl) (fun _ => rfl) (kc' := 7) (ks' := 216) rfl rfl ⟨rfl, rfl⟩ ?_
  refine q_putR (c := 9) (n := 0) (k := 9) dX9_init_57 rfl (by decide) (by decide) fX9_31 rfl rfl rfl (Or.inr ⟨_, rfl⟩) ?_
  show q_K _ (q_z zI2 zJ1 (q_up (q_up (q_up (q_up (q_up (q_up (q_up zR26 109 3 (some 110)) 109 4 (some 111)) 109 5 (some 112)) 109 6 (some 113)) 109 7 (some 114)) 109 8 (some 115)) 109 9 (some 116)) 117) _ _ _ _ _ _
  refine q_aload_n dX9_init_60 rfl ?_
  refine q_bi (v := 40) dX9_init_61 rfl ?_
  refine q_mka (t := 20) (N := 40) dX9_init_63 (Nat.le_of_ble_eq_true rfl) rfl (Or.inl ⟨rfl, rfl⟩) q_ar_int rfl rfl (fun _ => rfl) (fun _ => rfl) (fun _ => rfl) (kc' := 8) (ks' := 256) rfl rfl ⟨rfl, rfl⟩ ?_
  refine q_putR (c := 9) (n := 0) (k := 10) dX9_init_65 rfl (by decide) (by decide) fX9_34 rfl rfl rfl (Or.inr ⟨_, rfl⟩) ?_
  show q_K _ (q_z zI2 zJ1 (q_up (q_up (q_up (q_up (q_up (q_up (q_up (q_up zR26 109 3 (some 110)) 109 4 (some 111)) 109 5 (some 112)) 109 6 (some 113)) 109 7 (some 114)) 109 8 (some 115)) 109 9 (some 116)) 109 10 (some 117)) 118) _ _ _ _ _ _
  refine q_aload_n dX9_init_68 rfl ?_
  refine q_bi (v := 120) dX9_init_69 rfl ?_
  refine q_mka (t := 20) (N := 120) dX9_init_71 (Nat.le_of_ble_eq_true rfl) rfl (Or.inl ⟨rfl, rfl⟩) q_ar_int rfl rfl (fun _ => rfl) (fun _ => rfl) (fun _ => rfl) (kc' := 9) (ks' := 376) rfl rfl ⟨rfl, rfl⟩ ?_
  refine q_putR (c := 9) (n := 0) (k := 11) dX9_init_73 rfl (by decide) (by decide) fX9_37 rfl rfl rfl (Or.inr ⟨_, rfl⟩) ?_
  show q_K _ (q_z zI2 zJ1 (q_up (q_up (q_up (q_up (q_up (q_up (q_up (q_up (q_up zR26 109 3 (some 110)) 109 4 (some 111)) 109 5 (some 112)) 109 6 (some 113)) 109 7 (some 114)) 109 8 (some 115)) 109 9 (some 116)) 109 10 (some 117)) 109 11 (some 118)) 119) _ _ _ _ _ _
  refine q_aload_n dX9_init_76 rfl ?_
  refine q_bi (v := 40) dX9_init_77 rfl ?_
  refine q_mka (t := 21) (N := 40) dX9_init_79 (Nat.le_of_ble_eq_true rfl) rfl (Or.inr (Or.inl ⟨rfl, rfl⟩)) q_ar_long rfl rfl (fun _ => rfl) (fun _ => rfl) (fun _ => rfl) (kc' := 10) (ks' := 416) rfl rfl ⟨rfl, rfl⟩ ?_
  refine q_putR (c := 9) (n := 0) (k := 12) dX9_init_81 rfl (by decide) (by decide) fX9_40 rfl rfl rfl (Or.inr ⟨_, rfl⟩) ?_
  show q_K _ (q_z zI2 zJ1 (q_up (q_up (q_up (q_up (q_up (q_up (q_up (q_up (q_up (q_up zR26 109 3 (some 110)) 109 4 (some 111)) 109 5 (some 112)) 109 6 (some 113)) 109 7 (some 114)) 109 8 (some 115)) 109 9 (some 116)) 109 10 (some 117)) 109 11 (some 118)) 109 12 (some 119)) 120) _ _ _ _ _ _
  refine q_aload_n dX9_init_84 rfl ?_
  refine q_bi (v := 40) dX9_init_85 rfl ?_
  refine q_mka (t := 20) (N := 40) dX9_init_87 (Nat.le_of_ble_eq_true rfl) rfl (Or.inl ⟨rfl, rfl⟩) q_ar_int rfl rfl (fun _ => rfl) (fun _ => rfl) (fun _ => rfl) (kc' := 11) (ks' := 456) rfl rfl ⟨rfl, rfl⟩ ?_
  refine q_putR (c := 9) (n := 0) (k := 13) dX9_init_89 rfl (by decide) (by decide) fX9_43 rfl rfl rfl (Or.inr ⟨_, rfl⟩) ?_
  show q_K _ (q_z zI2 zJ1 (q_up (q_up (q_up (q_up (q_up (q_up (q_up (q_up (q_up (q_up (q_up zR26 109 3 (some 110)) 109 4 (some 111)) 109 5 (some 112)) 109 6 (some 113)) 109 7 (some 114)) 109 8 (some 115)) 109 9 (some 116)) 109 10 (some 117)) 109 11 (some 118)) 109 12 (some 119)) 109 13 (some 120)) 121) _ _ _ _ _ _
  refine q_aload_n dX9_init_92 rfl ?_
  refine q_bi (v := 40) dX9_init_93 rfl ?_
  refine q_mka (t := 20) (N := 40) dX9_init_95 (Nat.le_of_ble_eq_true rfl) rfl (Or.inl ⟨rfl, rfl⟩) q_ar_int rfl rfl (fun _ => rfl) (fun _ => rfl) (fun _ => rfl) (kc' := 12) (ks' := 496) rfl rfl ⟨rfl, rfl⟩ ?_
  refine q_putR (c := 9) (n := 0) (k := 14) dX9_init_97 rfl (by decide) (by decide) fX9_46 rfl rfl rfl (Or.inr ⟨_, rfl⟩) ?_
  show q_K _ (q_z zI2 zJ1 (q_up (q_up (q_up (q_up (q_up (q_up (q_up (q_up (q_up (q_up (q_up (q_up zR26 109 3 (some 110)) 109 4 (some 111)) 109 5 (some 112)) 109 6 (some 113)) 109 7 (some 114)) 109 8 (some 115)) 109 9 (some 116)) 109 10 (some 117)) 109 11 (some 118)) 109 12 (some 119)) 109 13 (some 120)) 109 14 (some 121)) 122) _ _ _ _ _ _
  refine q_aload_n dX9_init_100 rfl ?_
  refine q_bi (v := 40) dX9_init_101 rfl ?_
  refine q_mka (t := 20) (N := 40) dX9_init_103 (Nat.le_of_ble_eq_true rfl) rfl (Or.inl ⟨rfl, rfl⟩) q_ar_int rfl rfl (fun _ => rfl) (fun _ => rfl) (fun _ => rfl) (kc' := 13) (ks' := 536) rfl rfl ⟨rfl, rfl⟩ ?_
  refine q_putR (c := 9) (n := 0) (k := 15) dX9_init_105 rfl (by decide) (by decide) fX9_49 rfl rfl rfl (Or.inr ⟨_, rfl⟩) ?_
  show q_K _ (q_z zI2 zJ1 (q_up (q_up (q_up (q_up (q_up (q_up (q_up (q_up (q_up (q_up (q_up (q_up (q_up zR26 109 3 (some 110)) 109 4 (some 111)) 109 5 (some 112)) 109 6 (some 113)) 109 7 (some 114)) 109 8 (some 115)) 109 9 (some 116)) 109 10 (some 117)) 109 11 (some 118)) 109 12 (some 119)) 109 13 (some 120)) 109 14 (some 121)) 109 15 (some 122)) 123) _ _ _ _ _ _
  refine q_aload_n dX9_init_108 rfl ?_
  refine q_bi (v := 20) dX9_init_109 rfl ?_
  refine q_mka (t := 20) (N := 20) dX9_init_111 (Nat.le_of_ble_eq_true rfl) rfl (Or.inl ⟨rfl, rfl⟩) q_ar_int rfl rfl (fun _ => rfl) (fun _ => rfl) (fun _ => rfl) (kc' := 14) (ks' := 556) rfl rfl ⟨rfl, rfl⟩ ?_
  refine q_putR (c := 9) (n := 0) (k := 16) dX9_init_113 rfl (by decide) (by decide) fX9_52 rfl rfl rfl (Or.inr ⟨_, rfl⟩) ?_
  show q_K _ (q_z zI2 zJ1 (q_up (q_up (q_up (q_up (q_up (q_up (q_up (q_up (q_up (q_up (q_up (q_up (q_up (q_up zR26 109 3 (some 110)) 109 4 (some 111)) 109 5 (some 112)) 109 6 (some 113)) 109 7 (some 114)) 109 8 (some 115)) 109 9 (some 116)) 109 10 (some 117)) 109 11 (some 118)) 109 12 (some 119)) 109 13 (some 120)) 109 14 (some 121)) 109 15 (some 122)) 109 16 (some 123)) 124) _ _ _ _ _ _
  exact q_endv dX9_init_116 rfl ⟨rfl, rfl⟩ ⟨rfl, rfl⟩
def zR28 : Nat → Nat → Option Nat := q_up zR27 92 1 (some 109)
def zR29 : Nat → Nat → Option Nat := q_up (q_up (q_up (q_up (q_up (q_up (q_up (q_up (q_up (q_up (q_up (q_up (q_up (q_up zR28 124 3 (some 125)) 124 4 (some 126)) 124 5 (some 127)) 124 6 (some 128)) 124 7 (some 129)) 124 8 (some 130)) 124 9 (some 131)) 124 10 (some 132)) 124 11 (some 133)) 124 12 (some 134)) 124 13 (some 135)) 124 14 (some 136)) 124 15 (some 137)) 124 16 (some 138)
set_option maxRecDepth 20000 in
theorem yX9_init_124 : q_met mX9_init (q_z zI2 zJ1 zR28 125) [.ref 124] (fun s r => s = q_z zI2 zJ1 zR29 139 ∧ r = none) := by
  refine q_enter (by decide) (Nat.le_of_ble_eq_true rfl) ?_
  refine q_aload_n dX9_init_0 rfl ?_
  refine q_obj dX9_init_1 lX9_3 ⟨rfl, rfl⟩ rfl ?_
  refine q_aload_n dX9_init_4 rfl ?_
  refine q_bi (v := 8) dX9_init_5 rfl ?_
  refine q_mka (t := 21) (N := 8) dX9_init_7 (Nat.le_of_ble_eq_true rfl) rfl (Or.inr (Or.inl ⟨rfl, rfl⟩)) q_ar_long rfl rfl (fun _ => rfl) (fun _ => rfl) (fun _ => rfl) (kc' := 1) (ks' := 8) rfl rfl ⟨rfl, rfl⟩ ?_
  refine q_putR (c := 9) (n := 0) (k := 3) dX9_init_9 rfl (by decide) (by decide) fX9_9 rfl rfl rfl (Or.inr ⟨_, rfl⟩) ?_
  show q_K _ (q_z zI2 zJ1 (q_up zR28 124 3 (some 125)) 126) _ _ _ _ _ _
  refine q_aload_n dX9_init_12 rfl ?_
  refine q_bi (v := 8) dX9_init_13 rfl ?_
  refine q_mka (t := 20) (N := 8) dX9_init_15 (Nat.le_of_ble_eq_true rfl) rfl (Or.inl ⟨rfl, rfl⟩) q_ar_int rfl rfl (fun _ => rfl) (fun _ => rfl) (fun _ => rfl) (kc' := 2) (ks' := 16) rfl rfl ⟨rfl, rfl⟩ ?_
  refine q_putR (c := 9) (n := 0) (k := 4) dX9_init_17 rfl (by decide) (by decide) fX9_15 rfl rfl rfl (Or.inr ⟨_, rfl⟩) ?_
  show q_K _ (q_z zI2 zJ1 (q_up (q_up zR28 124 3 (some 125)) 124 4 (some 126)) 127) _ _ _ _ _ _
  refine q_aload_n dX9_init_20 rfl ?_
  refine q_bi (v := 40) dX9_init_21 rfl ?_
  refine q_mka (t := 20) (N := 40) dX9_init_23 (Nat.le_of_ble_eq_true rfl) rfl (Or.inl ⟨rfl, rfl⟩) q_ar_int rfl rfl (fun _ => rfl) (fun _ => rfl) (fun _ => rfl) (kc' := 3) (ks' := 56) rfl rfl ⟨rfl, rfl⟩ ?_
  refine q_putR (c := 9) (n := 0) (k := 5) dX9_init_25 rfl (by decide) (by decide) fX9_19 rfl rfl rfl (Or.inr ⟨_, rfl⟩) ?_
  show q_K _ (q_z zI2 zJ1 (q_up (q_up (q_up zR28 124 3 (some 125)) 124 4 (some 126)) 124 5 (some 127)) 128) _ _ _ _ _ _
  refine q_aload_n dX9_init_28 rfl ?_
  refine q_bi (v := 40) dX9_init_29 rfl ?_
  refine q_mka (t := 20) (N := 40) dX9_init_31 (Nat.le_of_ble_eq_true rfl) rfl (Or.inl ⟨rfl, rfl⟩) q_ar_int rfl rfl (fun _ => rfl) (fun _ => rfl) (fun _ => rfl) (kc' := 4) (ks' := 96) rfl rfl ⟨rfl, rfl⟩ ?_
  refine q_putR (c := 9) (n := 0) (k := 6) dX9_init_33 rfl (by decide) (by decide) fX9_22 rfl rfl rfl (Or.inr ⟨_, rfl⟩) ?_
  show q_K _ (q_z zI2 zJ1 (q_up (q_up (q_up (q_up zR28 124 3 (some 125)) 124 4 (some 126)) 124 5 (some 127)) 124 6 (some 128)) 129) _ _ _ _ _ _
  refine q_aload_n dX9_init_36 rfl ?_
  refine q_bi (v := 40) dX9_init_37 rfl ?_
  refine q_mka (t := 20) (N := 40) dX9_init_39 (Nat.le_of_ble_eq_true rfl) rfl (Or.inl ⟨rfl, rfl⟩) q_ar_int rfl rfl (fun _ => rfl) (fun _ => rfl) (fun _ => rfl) (kc' := 5) (ks' := 136) rfl rfl ⟨rfl, rfl⟩ ?_
  refine q_putR (c := 9) (n := 0) (k := 7) dX9_init_41 rfl (by decide) (by decide) fX9_25 rfl rfl rfl (Or.inr ⟨_, rfl⟩) ?_
  show q_K _ (q_z zI2 zJ1 (q_up (q_up (q_up (q_up (q_up zR28 124 3 (some 125)) 124 4 (some 126)) 124 5 (some 127)) 124 6 (some 128)) 124 7 (some 129)) 130) _ _ _ _ _ _
  refine q_aload_n dX9_init_44 rfl ?_
  refine q_bi (v := 40) dX9_init_45 rfl ?_
  refine q_mka (t := 20) (N := 40) dX9_init_47 (Nat.le_of_ble_eq_true rfl) rfl (Or.inl ⟨rfl, rfl⟩) q_ar_int rfl rfl (fun _ => rfl) (fun _ => rfl) (fun _ => rfl) (kc' := 6) (ks' := 176) rfl rfl ⟨rfl, rfl⟩ ?_
  refine q_putR (c := 9) (n := 0) (k := 8) dX9_init_49 rfl (by decide) (by decide) fX9_28 rfl rfl rfl (Or.inr ⟨_, rfl⟩) ?_
  show q_K _ (q_z zI2 zJ1 (q_up (q_up (q_up (q_up (q_up (q_up zR28 124 3 (some 125)) 124 4 (some 126)) 124 5 (some 127)) 124 6 (some 128)) 124 7 (some 129)) 124 8 (some 130)) 131) _ _ _ _ _ _
  refine q_aload_n dX9_init_52 rfl ?_
  refine q_bi (v := 40) dX9_init_53 rfl ?_
  refine q_mka (t := 20) (N := 40) dX9_init_55 (Nat.le_of_ble_eq_true rfl) rfl (Or.inl ⟨rfl, rfl⟩) q_ar_int rfl rfl (fun _ => rfl) (fun _ => rfl) (fun _ => rfl) (kc' := 7) (ks' := 216) rfl rfl ⟨rfl, rfl⟩ ?_
  refine q_putR (c := 9) (n := 0) (k := 9) dX9_init_57 rfl (by decide) (by decide) fX9_31 rfl rfl rfl (Or.inr ⟨_, rfl⟩) ?_
  show q_K _ (q_z zI2 zJ1 (q_up (q_up (q_up (q_up (q_up (q_up (q_up zR28 124 3 (some 125)) 124 4 (some 126)) 124 5 (some 127)) 124 6 (some 128)) 124 7 (some 129)) 124 8 (some 130)) 124 9 (some 131)) 132) _ _ _ _ _ _
  refine q_aload_n dX9_init_60 rfl ?_
  refine q_bi (v := 40) dX9_init_61 rfl ?_
  refine q_mka (t := 20) (N := 40) dX9_init_63 (Nat.le_of_ble_eq_true rfl) rfl (Or.inl ⟨rfl, rfl⟩) q_ar_int rfl rfl (fun _ => rfl) (fun _ => rfl) (fun _ => rfl) (kc' := 8) (ks' := 256) rfl rfl ⟨rfl, rfl⟩ ?_
  refine q_putR (c := 9) (n := 0) (k := 10) dX9_init_65 rfl (by decide) (by decide) fX9_34 rfl rfl rfl (Or.inr ⟨_, rfl⟩) ?_
  show q_K _ (q_z zI2 zJ1 (q_up (q_up (q_up (q_up (q_up (q_up (q_up (q_up zR28 124 3 (some 125)) 124 4 (some 126)) 124 5 (some 127)) 124 6 (some 128)) 124 7 (some 129)) 124 8 (some 130)) 124 9 (some 131)) 124 10 (some 132)) 133) _ _ _ _ _ _
  refine q_aload_n dX9_init_68 rfl ?_
  refine q_bi (v := 120) dX9_init_69 rfl ?_
  refine q_mka (t := 20) (N := 120) dX9_init_71 (Nat.le_of_ble_eq_true rfl) rfl (Or.inl ⟨rfl, rfl⟩) q_ar_int rfl rfl (fun _ => rfl) (fun _ => rfl) (fun _ => rfl) (kc' := 9) (ks' := 376) rfl rfl ⟨rfl, rfl⟩ ?_
  refine q_putR (c := 9) (n := 0) (k := 11) dX9_init_73 rfl (by decide) (by decide) fX9_37 rfl rfl rfl (Or.inr ⟨_, rfl⟩) ?_
  show q_K _ (q_z zI2 zJ1 (q_up (q_up (q_up (q_up (q_up (q_up (q_up (q_up (q_up zR28 124 3 (some 125)) 124 4 (some 126)) 124 5 (some 127)) 124 6 (some 128)) 124 7 (some 129)) 124 8 (some 130)) 124 9 (some 131)) 124 10 (some 132)) 124 11 (some 133)) 134) _ _ _ _ _ _
  refine q_aload_n dX9_init_76 rfl ?_
  refine q_bi (v := 40) dX9_init_77 rfl ?_
  refine q_mka (t := 21) (N := 40) dX9_init_79 (Nat.le_of_ble_eq_true rfl) rfl (Or.inr (Or.inl ⟨rfl, rfl⟩)) q_ar_long rfl rfl (fun _ => rfl) (fun _ => rfl) (fun _ => rfl) (kc' := 10) (ks' := 416) rfl rfl ⟨rfl, rfl⟩ ?_
  refine q_putR (c := 9) (n := 0) (k := 12) dX9_init_81 rfl (by decide) (by decide) fX9_40 rfl rfl rfl (Or.inr ⟨_, rfl⟩) ?_
  show q_K _ (q_z zI2 zJ1 (q_up (q_up (q_up (q_up (q_up (q_up (q_up (q_up (q_up (q_up zR28 124 3 (some 125)) 124 4 (some 126)) 124 5 (some 127)) 124 6 (some 128)) 124 7 (some 129)) 124 8 (some 130)) 124 9 (some 131)) 124 10 (some 132)) 124 11 (some 133)) 124 12 (some 134)) 135) _ _ _ _ _ _
  refine q_aload_n dX9_init_84 rfl ?_
  refine q_bi (v := 40) dX9_init_85 rfl ?_
  refine q_mka (t := 20) (N := 40) dX9_init_87 (Nat.le_of_ble_eq_true rfl) rfl (Or.inl ⟨rfl, rfl⟩) q_ar_int rfl rfl (fun _ => rfl) (fun _ => rfl) (fun _ => rfl) (kc' := 11) (ks' := 456) rfl rfl ⟨rfl, rfl⟩ ?_
  refine q_putR (c := 9) (n := 0) (k := 13) dX9_init_89 rfl (by decide) (by decide) fX9_43 rfl rfl rfl (Or.inr ⟨_, rfl⟩) ?_
  show q_K _ (q_z zI2 zJ1 (q_up (q_up (q_up (q_up (q_up (q_up (q_up (q_up (q_up (q_up (q_up zR28 124 3 (some 125)) 124 4 (some 126)) 124 5 (some 127)) 124 6 (some 128)) 124 7 (some 129)) 124 8 (some 130)) 124 9 (some 131)) 124 10 (some 132)) 124 11 (some 133)) 124 12 (some 134)) 124 13 (some 135)) 136) _ _ _ _ _ _
  refine q_aload_n dX9_init_92 rfl ?_
  refine q_bi (v := 40) dX9_init_93 rfl ?_
  refine q_mka (t := 20) (N := 40) dX9_init_95 (Nat.le_of_ble_eq_true rfl) rfl (Or.inl ⟨rfl, rfl⟩) q_ar_int rfl rfl (fun _ => rfl) (fun _ => rfl) (fun _ => rfl) (kc' := 12) (ks' := 496) rfl rfl ⟨rfl, rfl⟩ ?_
  refine q_putR (c := 9) (n := 0) (k := 14) dX9_init_97 rfl (by decide) (by decide) fX9_46 rfl rfl rfl (Or.inr ⟨_, rfl⟩) ?_
  show q_K _ (q_z zI2 zJ1 (q_up (q_up (q_up (q_up (q_up (q_up (q_up (q_up (q_up (q_up (q_up (q_up zR28 124 3 (some 125)) 124 4 (some 126)) 124 5 (some 127)) 124 6 (some 128)) 124 7 (some 129)) 124 8 (some 130)) 124 9 (some 131)) 124 10 (some 132)) 124 11 (some 133)) 124 12 (some 134)) 124 13 (some 135)) 124 14 (some 136)) 137) _ _ _ _ _ _
  refine q_aload_n dX9_init_100 rfl ?_
  refine q_bi (v := 40) dX9_init_101 rfl ?_
  refine q_mka (t := 20) (N := 40) dX9_init_103 (Nat.le_of_ble_eq_true rfl) rfl (Or.inl ⟨rfl, rfl⟩) q_ar_int rfl rfl (fun _ => rfl) (fun _ => rfl) (fun _ => rfl) (kc' := 13) (ks' := 536) rfl rfl ⟨rfl, rfl⟩ ?_
  refine q_putR (c := 9) (n := 0) (k := 15) dX9_init_105 rfl (by decide) (by decide) fX9_49 rfl rfl rfl (Or.inr ⟨_, rfl⟩) ?_
  show q_K _ (q_z zI2 zJ1 (q_up (q_up (q_up (q_up (q_up (q_up (q_up (q_up (q_up (q_up (q_up (q_up (q_up zR28 124 3 (some 125)) 124 4 (some 126)) 124 5 (some 127)) 124 6 (some 128)) 124 7 (some 129)) 124 8 (some 130)) 124 9 (some 131)) 124 10 (some 132)) 124 11 (some 133)) 124 12 (some 134)) 124 13 (some 135)) 124 14 (some 136)) 124 15 (some 137)) 138) _ _ _ _ _ _
  refine q_aload_n dX9_init_108 rfl ?_
  refine q_bi (v := 20) dX9_init_109 rfl ?_
  refine q_mka (t := 20) (N := 20) dX9_init_111 (Nat.le_of_ble_eq_true rfl) rfl (Or.inl ⟨rfl, rfl⟩) q_ar_int rfl rfl (fun _ => rfl) (fun _ => rfl) (fun _ => rfl) (kc' := 14) (ks' := 556) rfl rfl ⟨rfl, rfl⟩ ?_
  refine q_putR (c := 9) (n := 0) (k := 16) dX9_init_113 rfl (by decide) (by decide) fX9_52 rfl rfl rfl (Or.inr ⟨_, rfl⟩) ?_
  show q_K _ (q_z zI2 zJ1 (q_up (q_up (q_up (q_up (q_up (q_up (q_up (q_up (q_up (q_up (q_up (q_up (q_up (q_up zR28 124 3 (some 125)) 124 4 (some 126)) 124 5 (some 127)) 124 6 (some 128)) 124 7 (some 129)) 124 8 (some 130)) 124 9 (some 131)) 124 10 (some 132)) 124 11 (some 133)) 124 12 (some 134)) 124 13 (some 135)) 124 14 (some 136)) 124 15 (some 137)) 124 16 (some 138)) 139) _ _ _ _ _ _
  exact q_endv dX9_init_116 rfl ⟨rfl, rfl⟩ ⟨rfl, rfl⟩
def zR30 : Nat → Nat → Option Nat := q_up zR29 92 2 (some 124)
set_option maxRecDepth 20000 in
theorem y_WhyNot : q_met mX10_init (q_z zI0 zJ0 zR0 1) [.ref 0] (fun s r => s = q_z zI2 zJ1 zR30 139 ∧ r = none) := by
  refine q_enter (by decide) (Nat.le_of_ble_eq_true rfl) ?_
  refine q_aload_n dX10_init_0 rfl ?_
  refine q_obj dX10_init_1 lX10_1 ⟨rfl, rfl⟩ rfl ?_
  refine q_aload_n dX10_init_4 rfl ?_
  refine q_si (v := 1600) dX10_init_5 rfl ?_
  refine q_mka (t := 22) (N := 1600) dX10_init_8 (Nat.le_of_ble_eq_true rfl) rfl (Or.inr (Or.inr (Or.inl ⟨rfl, rfl⟩))) q_ar_byte rfl rfl (fun _ => rfl) (fun _ => rfl) (fun _ => rfl) (kc' := 1) (ks' := 1600) rfl rfl ⟨rfl, rfl⟩ ?_
  refine q_putR (c := 10) (n := 0) (k := 0) dX10_init_10 rfl (by decide) (by decide) fX10_9 rfl rfl rfl (Or.inr ⟨_, rfl⟩) ?_
  show q_K _ (q_z zI0 zJ0 (q_up zR0 0 0 (some 1)) 2) _ _ _ _ _ _
  refine q_aload_n dX10_init_13 rfl ?_
  refine q_mko (ci := 9) dX10_init_14 (by decide) (Nat.lt_of_lt_of_le (Nat.lt_of_le_of_lt (Nat.le_refl _) (Nat.le_of_ble_eq_true rfl)) (Nat.le_refl 1000)) rfl kX10_13 iX9 zX9 (fun _ => rfl) (fun _ => rfl) (fun _ => rfl) (kc' := 2) (ks' := 1617) rfl rfl ⟨rfl, rfl⟩ ?_
  refine q_dup dX10_init_17 rfl ?_
  show q_K _ (q_z zI0 zJ0 zR1 3) _ _ _ _ _ _
  refine q_callIN0 (M2 := mX9_init) (host := "WhyNot") rfl dX10_init_18 DX9_init (by decide) (q_fitb rfl) (q_r8 rfl) ⟨Nat.le_of_ble_eq_true rfl, Nat.le_of_ble_eq_true rfl⟩ yX9_init_2 ?_
  rintro _ _ ⟨rfl, rfl⟩
  refine q_kc (kc' := 16) (ks' := 2173) rfl rfl ?_
  refine q_putR (c := 10) (n := 0) (k := 3) dX10_init_21 rfl (by decide) (by decide) fX10_16 rfl rfl rfl (Or.inl ⟨_, rfl⟩) ?_
  show q_K _ (q_z zI0 zJ0 (q_up zR2 0 3 (some 2)) 17) _ _ _ _ _ _
  refine q_aload_n dX10_init_24 rfl ?_
  refine q_mko (ci := 2) dX10_init_25 (by decide) (Nat.lt_of_lt_of_le (Nat.lt_of_le_of_lt (Nat.le_refl _) (Nat.le_of_ble_eq_true rfl)) (Nat.le_refl 1000)) rfl kX10_20 iX2 zX2 (fun _ => rfl) (fun _ => rfl) (fun _ => rfl) (kc' := 17) (ks' := 2180) rfl rfl ⟨rfl, rfl⟩ ?_
  refine q_dup dX10_init_28 rfl ?_
  show q_K _ (q_z zI0 zJ0 zR3 18) _ _ _ _ _ _
  refine q_callIN0 (M2 := mX2_init) (host := "WhyNot") rfl dX10_init_29 DX2_init (by decide) (q_fitb rfl) (q_r8 rfl) ⟨Nat.le_of_ble_eq_true rfl, Nat.le_of_ble_eq_true rfl⟩ yX2_init_17 ?_
  rintro _ _ ⟨rfl, rfl⟩
  refine q_kc (kc' := 37) (ks' := 2970) rfl rfl ?_
  refine q_putR (c := 10) (n := 0) (k := 4) dX10_init_32 rfl (by decide) (by decide) fX10_23 rfl rfl rfl (Or.inl ⟨_, rfl⟩) ?_
  show q_K _ (q_z zI0 zJ0 (q_up zR5 0 4 (some 17)) 38) _ _ _ _ _ _
  refine q_aload_n dX10_init_35 rfl ?_
  refine q_mko (ci := 4) dX10_init_36 (by decide) (Nat.lt_of_lt_of_le (Nat.lt_of_le_of_lt (Nat.le_refl _) (Nat.le_of_ble_eq_true rfl)) (Nat.le_refl 1000)) rfl kX10_27 iX4 zX4 (fun _ => rfl) (fun _ => rfl) (fun _ => rfl) (kc' := 38) (ks' := 2980) rfl rfl ⟨rfl, rfl⟩ ?_
  refine q_dup dX10_init_39 rfl ?_
  show q_K _ (q_z zI0 zJ0 zR6 39) _ _ _ _ _ _
  refine q_callIN0 (M2 := mX4_init) (host := "WhyNot") rfl dX10_init_40 DX4_init (by decide) (q_fitb rfl) (q_r8 rfl) ⟨Nat.le_of_ble_eq_true rfl, Nat.le_of_ble_eq_true rfl⟩ yX4_init_38 ?_
  rintro _ _ ⟨rfl, rfl⟩
  refine q_kc (kc' := 45) (ks' := 42198) rfl rfl ?_
  refine q_putR (c := 10) (n := 0) (k := 5) dX10_init_43 rfl (by decide) (by decide) fX10_30 rfl rfl rfl (Or.inl ⟨_, rfl⟩) ?_
  show q_K _ (q_z zI0 zJ0 (q_up zR7 0 5 (some 38)) 46) _ _ _ _ _ _
  refine q_aload_n dX10_init_46 rfl ?_
  refine q_mko (ci := 7) dX10_init_47 (by decide) (Nat.lt_of_lt_of_le (Nat.lt_of_le_of_lt (Nat.le_refl _) (Nat.le_of_ble_eq_true rfl)) (Nat.le_refl 1000)) rfl kX10_34 iX7 zX7 (fun _ => rfl) (fun _ => rfl) (fun _ => rfl) (kc' := 46) (ks' := 42213) rfl rfl ⟨rfl, rfl⟩ ?_
  refine q_dup dX10_init_50 rfl ?_
  refine q_aload_n dX10_init_51 rfl ?_
  refine q_getR (c := 10) (n := 0) (k := 0) (a := 1) dX10_init_52 rfl (by decide) (by decide) fX10_9 rfl rfl ?_
  refine q_aload_n dX10_init_55 rfl ?_
  refine q_getR (c := 10) (n := 0) (k := 4) (a := 17) dX10_init_56 rfl (by decide) (by decide) fX10_23 rfl rfl ?_
  refine q_getR (c := 2) (n := 0) (k := 0) (a := 18) dX10_init_59 rfl (by decide) (by decide) fX10_36 rfl rfl ?_
  show q_K _ (q_z zI0 zJ0 zR8 47) _ _ _ _ _ _
  refine q_callI2 (M2 := mX7_init) rfl dX10_init_62 DX7_init lX10_37 (q_fitb rfl) (q_r8 rfl) ⟨Nat.le_of_ble_eq_true rfl, Nat.le_of_ble_eq_true rfl⟩ yX7_init_46 ?_
  rintro _ _ ⟨rfl, rfl⟩
  refine q_kc (kc' := 50) (ks' := 42365) rfl rfl ?_
  refine q_putR (c := 10) (n := 0) (k := 6) dX10_init_65 rfl (by decide) (by decide) fX10_40 rfl rfl rfl (Or.inl ⟨_, rfl⟩) ?_
  show q_K _ (q_z zI1 zJ1 (q_up zR9 0 6 (some 46)) 51) _ _ _ _ _ _
  refine q_aload_n dX10_init_68 rfl ?_
  refine q_mko (ci := 0) dX10_init_69 (by decide) (Nat.lt_of_lt_of_le (Nat.lt_of_le_of_lt (Nat.le_refl _) (Nat.le_of_ble_eq_true rfl)) (Nat.le_refl 1000)) rfl kX10_44 iX0 zX0 (fun _ => rfl) (fun _ => rfl) (fun _ => rfl) (kc' := 51) (ks' := 42381) rfl rfl ⟨rfl, rfl⟩ ?_
  refine q_dup dX10_init_72 rfl ?_
  refine q_aload_n dX10_init_73 rfl ?_
  refine q_getR (c := 10) (n := 0) (k := 3) (a := 2) dX10_init_74 rfl (by decide) (by decide) fX10_16 rfl rfl ?_
  refine q_aload_n dX10_init_77 rfl ?_
  refine q_getR (c := 10) (n := 0) (k := 5) (a := 38) dX10_init_78 rfl (by decide) (by decide) fX10_30 rfl rfl ?_
  show q_K _ (q_z zI1 zJ1 zR10 52) _ _ _ _ _ _
  refine q_callI2 (M2 := mX0_init) rfl dX10_init_81 DX0_init lX10_46 (q_fitb rfl) (q_r8 rfl) ⟨Nat.le_of_ble_eq_true rfl, Nat.le_of_ble_eq_true rfl⟩ yX0_init_51 ?_
  rintro _ _ ⟨rfl, rfl⟩
  refine q_kc (kc' := 58) (ks' := 45270) rfl rfl ?_
  refine q_putR (c := 10) (n := 0) (k := 7) dX10_init_84 rfl (by decide) (by decide) fX10_49 rfl rfl rfl (Or.inl ⟨_, rfl⟩) ?_
  show q_K _ (q_z zI1 zJ1 (q_up zR11 0 7 (some 51)) 59) _ _ _ _ _ _
  refine q_aload_n dX10_init_87 rfl ?_
  refine q_mko (ci := 0) dX10_init_88 (by decide) (Nat.lt_of_lt_of_le (Nat.lt_of_le_of_lt (Nat.le_refl _) (Nat.le_of_ble_eq_true rfl)) (Nat.le_refl 1000)) rfl kX10_44 iX0 zX0 (fun _ => rfl) (fun _ => rfl) (fun _ => rfl) (kc' := 59) (ks' := 45286) rfl rfl ⟨rfl, rfl⟩ ?_
  refine q_dup dX10_init_91 rfl ?_
  refine q_aload_n dX10_init_92 rfl ?_
  refine q_getR (c := 10) (n := 0) (k := 4) (a := 17) dX10_init_93 rfl (by decide) (by decide) fX10_23 rfl rfl ?_
  refine q_getR (c := 2) (n := 0) (k := 0) (a := 18) dX10_init_96 rfl (by decide) (by decide) fX10_36 rfl rfl ?_
  refine q_aload_n dX10_init_99 rfl ?_
  refine q_getR (c := 10) (n := 0) (k := 5) (a := 38) dX10_init_100 rfl (by decide) (by decide) fX10_30 rfl rfl ?_
  show q_K _ (q_z zI1 zJ1 zR12 60) _ _ _ _ _ _
  refine q_callI2 (M2 := mX0_init) rfl dX10_init_103 DX0_init lX10_46 (q_fitb rfl) (q_r8 rfl) ⟨Nat.le_of_ble_eq_true rfl, Nat.le_of_ble_eq_true rfl⟩ yX0_init_59 ?_
  rintro _ _ ⟨rfl, rfl⟩
  refine q_kc (kc' := 66) (ks' := 48175) rfl rfl ?_
  refine q_putR (c := 10) (n := 0) (k := 8) dX10_init_106 rfl (by decide) (by decide) fX10_53 rfl rfl rfl (Or.inl ⟨_, rfl⟩) ?_
  show q_K _ (q_z zI1 zJ1 (q_up zR13 0 8 (some 59)) 67) _ _ _ _ _ _
  refine q_aload_n dX10_init_109 rfl ?_
  refine q_mko (ci := 5) dX10_init_110 (by decide) (Nat.lt_of_lt_of_le (Nat.lt_of_le_of_lt (Nat.le_refl _) (Nat.le_of_ble_eq_true rfl)) (Nat.le_refl 1000)) rfl kX10_56 iX5 zX5 (fun _ => rfl) (fun _ => rfl) (fun _ => rfl) (kc' := 67) (ks' := 48181) rfl rfl ⟨rfl, rfl⟩ ?_
  refine q_dup dX10_init_113 rfl ?_
  refine q_aload_n dX10_init_114 rfl ?_
  refine q_getR (c := 10) (n := 0) (k := 7) (a := 51) dX10_init_115 rfl (by decide) (by decide) fX10_49 rfl rfl ?_
  show q_K _ (q_z zI1 zJ1 zR14 68) _ _ _ _ _ _
  refine q_callI1 (M2 := mX5_init) rfl dX10_init_118 DX5_init lX10_58 (q_fitb rfl) (q_r8 rfl) ⟨Nat.le_of_ble_eq_true rfl, Nat.le_of_ble_eq_true rfl⟩ yX5_init_67 ?_
  rintro _ _ ⟨rfl, rfl⟩
  refine q_kc (kc' := 68) (ks' := 52277) rfl rfl ?_
  refine q_putR (c := 10) (n := 0) (k := 9) dX10_init_121 rfl (by decide) (by decide) fX10_61 rfl rfl rfl (Or.inl ⟨_, rfl⟩) ?_
  show q_K _ (q_z zI1 zJ1 (q_up zR15 0 9 (some 67)) 69) _ _ _ _ _ _
  refine q_aload_n dX10_init_124 rfl ?_
  refine q_mko (ci := 1) dX10_init_125 (by decide) (Nat.lt_of_lt_of_le (Nat.lt_of_le_of_lt (Nat.le_refl _) (Nat.le_of_ble_eq_true rfl)) (Nat.le_refl 1000)) rfl kX10_65 iX1 zX1 (fun _ => rfl) (fun _ => rfl) (fun _ => rfl) (kc' := 69) (ks' := 52290) rfl rfl ⟨rfl, rfl⟩ ?_
  refine q_dup dX10_init_128 rfl ?_
  refine q_aload_n dX10_init_129 rfl ?_
  refine q_getR (c := 10) (n := 0) (k := 3) (a := 2) dX10_init_130 rfl (by decide) (by decide) fX10_16 rfl rfl ?_
  refine q_aload_n dX10_init_133 rfl ?_
  refine q_getR (c := 10) (n := 0) (k := 7) (a := 51) dX10_init_134 rfl (by decide) (by decide) fX10_49 rfl rfl ?_
  show q_K _ (q_z zI1 zJ1 zR16 70) _ _ _ _ _ _
  refine q_callI2 (M2 := mX1_init) rfl dX10_init_137 DX1_init lX10_67 (q_fitb rfl) (q_r8 rfl) ⟨Nat.le_of_ble_eq_true rfl, Nat.le_of_ble_eq_true rfl⟩ yX1_init_69 ?_
  rintro _ _ ⟨rfl, rfl⟩
  refine q_kc (kc' := 75) (ks' := 52930) rfl rfl ?_
  refine q_putR (c := 10) (n := 0) (k := 10) dX10_init_140 rfl (by decide) (by decide) fX10_70 rfl rfl rfl (Or.inl ⟨_, rfl⟩) ?_
  show q_K _ (q_z zI1 zJ1 (q_up zR17 0 10 (some 69)) 76) _ _ _ _ _ _
  refine q_aload_n dX10_init_143 rfl ?_
  refine q_mko (ci := 3) dX10_init_144 (by decide) (Nat.lt_of_lt_of_le (Nat.lt_of_le_of_lt (Nat.le_refl _) (Nat.le_of_ble_eq_true rfl)) (Nat.le_refl 1000)) rfl kX10_74 iX3 zX3 (fun _ => rfl) (fun _ => rfl) (fun _ => rfl) (kc' := 76) (ks' := 52938) rfl rfl ⟨rfl, rfl⟩ ?_
  refine q_dup dX10_init_147 rfl ?_
  refine q_aload_n dX10_init_148 rfl ?_
  refine q_getR (c := 10) (n := 0) (k := 3) (a := 2) dX10_init_149 rfl (by decide) (by decide) fX10_16 rfl rfl ?_
  refine q_aload_n dX10_init_152 rfl ?_
  refine q_getR (c := 10) (n := 0) (k := 4) (a := 17) dX10_init_153 rfl (by decide) (by decide) fX10_23 rfl rfl ?_
  refine q_aload_n dX10_init_156 rfl ?_
  refine q_getR (c := 10) (n := 0) (k := 8) (a := 59) dX10_init_157 rfl (by decide) (by decide) fX10_53 rfl rfl ?_
  show q_K _ (q_z zI1 zJ1 zR18 77) _ _ _ _ _ _
  refine q_callI3 (M2 := mX3_init) rfl dX10_init_160 DX3_init lX10_76 (q_fitb rfl) (q_r8 rfl) ⟨Nat.le_of_ble_eq_true rfl, Nat.le_of_ble_eq_true rfl⟩ yX3_init_76 ?_
  rintro _ _ ⟨rfl, rfl⟩
  refine q_kc (kc' := 79) (ks' := 53058) rfl rfl ?_
  refine q_putR (c := 10) (n := 0) (k := 11) dX10_init_163 rfl (by decide) (by decide) fX10_79 rfl rfl rfl (Or.inl ⟨_, rfl⟩) ?_
  show q_K _ (q_z zI1 zJ1 (q_up zR19 0 11 (some 76)) 80) _ _ _ _ _ _
  refine q_aload_n dX10_init_166 rfl ?_
  refine q_mko (ci := 6) dX10_init_167 (by decide) (Nat.lt_of_lt_of_le (Nat.lt_of_le_of_lt (Nat.le_refl _) (Nat.le_of_ble_eq_true rfl)) (Nat.le_refl 1000)) rfl kX10_83 iX6 zX6 (fun _ => rfl) (fun _ => rfl) (fun _ => rfl) (kc' := 80) (ks' := 53073) rfl rfl ⟨rfl, rfl⟩ ?_
  refine q_dup dX10_init_170 rfl ?_
  refine q_aload_n dX10_init_171 rfl ?_
  refine q_getR (c := 10) (n := 0) (k := 3) (a := 2) dX10_init_172 rfl (by decide) (by decide) fX10_16 rfl rfl ?_
  show q_K _ (q_z zI1 zJ1 zR20 81) _ _ _ _ _ _
  refine q_callI1 (M2 := mX6_init) rfl dX10_init_175 DX6_init lX10_85 (q_fitb rfl) (q_r8 rfl) ⟨Nat.le_of_ble_eq_true rfl, Nat.le_of_ble_eq_true rfl⟩ yX6_init_80 ?_
  rintro _ _ ⟨rfl, rfl⟩
  refine q_kc (kc' := 87) (ks' := 65677) rfl rfl ?_
  refine q_putR (c := 10) (n := 0) (k := 12) dX10_init_178 rfl (by decide) (by decide) fX10_88 rfl rfl rfl (Or.inl ⟨_, rfl⟩) ?_
  show q_K _ (q_z zI2 zJ1 (q_up zR21 0 12 (some 80)) 88) _ _ _ _ _ _
  refine q_aload_n dX10_init_181 rfl ?_
  refine q_mko (ci := 8) dX10_init_182 (by decide) (Nat.lt_of_lt_of_le (Nat.lt_of_le_of_lt (Nat.le_refl _) (Nat.le_of_ble_eq_true rfl)) (Nat.le_refl 1000)) rfl kX10_92 iX8 zX8 (fun _ => rfl) (fun _ => rfl) (fun _ => rfl) (kc' := 88) (ks' := 65681) rfl rfl ⟨rfl, rfl⟩ ?_
  refine q_dup dX10_init_185 rfl ?_
  show q_K _ (q_z zI2 zJ1 zR22 89) _ _ _ _ _ _
  refine q_callIN0 (M2 := mX8_init) (host := "WhyNot") rfl dX10_init_186 DX8_init (by decide) (q_fitb rfl) (q_r8 rfl) ⟨Nat.le_of_ble_eq_true rfl, Nat.le_of_ble_eq_true rfl⟩ yX8_init_88 ?_
  rintro _ _ ⟨rfl, rfl⟩
  refine q_kc (kc' := 91) (ks' := 65771) rfl rfl ?_
  refine q_putR (c := 10) (n := 0) (k := 13) dX10_init_189 rfl (by decide) (by decide) fX10_95 rfl rfl rfl (Or.inl ⟨_, rfl⟩) ?_
  show q_K _ (q_z zI2 zJ1 (q_up zR23 0 13 (some 88)) 92) _ _ _ _ _ _
  refine q_aload_n dX10_init_192 rfl ?_
  refine q_ic (v := 3) dX10_init_193 rfl ?_
  refine q_mkA (N := 3) dX10_init_194 (Nat.le_of_ble_eq_true rfl) rfl kX10_13 rfl rfl (fun _ => rfl) (fun _ => rfl) (fun _ => rfl) (kc' := 92) (ks' := 65774) rfl rfl ⟨rfl, rfl⟩ ?_
  refine q_putR (c := 10) (n := 0) (k := 14) dX10_init_197 rfl (by decide) (by decide) fX10_99 rfl rfl rfl (Or.inr ⟨_, rfl⟩) ?_
  show q_K _ (q_z zI2 zJ1 (q_up (q_up zR23 0 13 (some 88)) 0 14 (some 92)) 93) _ _ _ _ _ _
  refine q_aload_n dX10_init_200 rfl ?_
  refine q_ic (v := 3) dX10_init_201 rfl ?_
  refine q_mka (t := 23) (N := 3) dX10_init_202 (Nat.le_of_ble_eq_true rfl) rfl (Or.inr (Or.inr (Or.inr ⟨rfl, rfl⟩))) q_ar_boolean rfl rfl (fun _ => rfl) (fun _ => rfl) (fun _ => rfl) (kc' := 93) (ks' := 65777) rfl rfl ⟨rfl, rfl⟩ ?_
  refine q_putR (c := 10) (n := 0) (k := 15) dX10_init_204 rfl (by decide) (by decide) fX10_103 rfl rfl rfl (Or.inr ⟨_, rfl⟩) ?_
  show q_K _ (q_z zI2 zJ1 (q_up (q_up (q_up zR23 0 13 (some 88)) 0 14 (some 92)) 0 15 (some 93)) 94) _ _ _ _ _ _
  refine q_ic (v := 0) dX10_init_207 rfl ?_
  refine q_istore_n dX10_init_208 (Nat.le_of_ble_eq_true rfl) ?_
  refine q_iload_n dX10_init_209 rfl ?_
  refine q_ic (v := 3) dX10_init_210 rfl ?_
  refine q_cz_ge (tgt := 233) (a := 0) (b := 3) dX10_init_211 (by decide) rfl rfl (fun h => absurd h (by decide)) (fun _ => ?_)
  refine q_aload_n dX10_init_214 rfl ?_
  refine q_getR (c := 10) (n := 0) (k := 14) (a := 92) dX10_init_215 rfl (by decide) (by decide) fX10_99 rfl rfl ?_
  refine q_iload_n dX10_init_218 rfl ?_
  refine q_mko (ci := 9) dX10_init_219 (by decide) (Nat.lt_of_lt_of_le (Nat.lt_of_le_of_lt (Nat.le_refl _) (Nat.le_of_ble_eq_true rfl)) (Nat.le_refl 1000)) rfl kX10_13 iX9 zX9 (fun _ => rfl) (fun _ => rfl) (fun _ => rfl) (kc' := 94) (ks' := 65794) rfl rfl ⟨rfl, rfl⟩ ?_
  refine q_dup dX10_init_222 rfl ?_
  show q_K _ (q_z zI2 zJ1 zR24 95) _ _ _ _ _ _
  refine q_callIN0 (M2 := mX9_init) (host := "WhyNot") rfl dX10_init_223 DX9_init (by decide) (q_fitb rfl) (q_r8 rfl) ⟨Nat.le_of_ble_eq_true rfl, Nat.le_of_ble_eq_true rfl⟩ yX9_init_94 ?_
  rintro _ _ ⟨rfl, rfl⟩
  refine q_kc (kc' := 108) (ks' := 66350) rfl rfl ?_
  refine q_aast (n := 3) (n2 := 0) (j := 0) dX10_init_226 rfl rfl rfl (by decide) ?_
  show q_K _ (q_z zI2 zJ1 (q_up zR25 92 0 (some 94)) 109) _ _ _ _ _ _
  refine q_inc (v := 1) dX10_init_227 rfl (Nat.le_of_ble_eq_true rfl) rfl ?_
  refine q_goto (tgt := 209) dX10_init_230 (by decide) ?_
  refine q_iload_n dX10_init_209 rfl ?_
  refine q_ic (v := 3) dX10_init_210 rfl ?_
  refine q_cz_ge (tgt := 233) (a := 1) (b := 3) dX10_init_211 (by decide) rfl rfl (fun h => absurd h (by decide)) (fun _ => ?_)
  refine q_aload_n dX10_init_214 rfl ?_
  refine q_getR (c := 10) (n := 0) (k := 14) (a := 92) dX10_init_215 rfl (by decide) (by decide) fX10_99 rfl rfl ?_
  refine q_iload_n dX10_init_218 rfl ?_
  refine q_mko (ci := 9) dX10_init_219 (by decide) (Nat.lt_of_lt_of_le (Nat.lt_of_le_of_lt (Nat.le_refl _) (Nat.le_of_ble_eq_true rfl)) (Nat.le_refl 1000)) rfl kX10_13 iX9 zX9 (fun _ => rfl) (fun _ => rfl) (fun _ => rfl) (kc' := 109) (ks' := 66367) rfl rfl ⟨rfl, rfl⟩ ?_
  refine q_dup dX10_init_222 rfl ?_
  show q_K _ (q_z zI2 zJ1 zR26 110) _ _ _ _ _ _
  refine q_callIN0 (M2 := mX9_init) (host := "WhyNot") rfl dX10_init_223 DX9_init (by decide) (q_fitb rfl) (q_r8 rfl) ⟨Nat.le_of_ble_eq_true rfl, Nat.le_of_ble_eq_true rfl⟩ yX9_init_109 ?_
  rintro _ _ ⟨rfl, rfl⟩
  refine q_kc (kc' := 123) (ks' := 66923) rfl rfl ?_
  refine q_aast (n := 3) (n2 := 0) (j := 1) dX10_init_226 rfl rfl rfl (by decide) ?_
  show q_K _ (q_z zI2 zJ1 (q_up zR27 92 1 (some 109)) 124) _ _ _ _ _ _
  refine q_inc (v := 1) dX10_init_227 rfl (Nat.le_of_ble_eq_true rfl) rfl ?_
  refine q_goto (tgt := 209) dX10_init_230 (by decide) ?_
  refine q_iload_n dX10_init_209 rfl ?_
  refine q_ic (v := 3) dX10_init_210 rfl ?_
  refine q_cz_ge (tgt := 233) (a := 2) (b := 3) dX10_init_211 (by decide) rfl rfl (fun h => absurd h (by decide)) (fun _ => ?_)
  refine q_aload_n dX10_init_214 rfl ?_
  refine q_getR (c := 10) (n := 0) (k := 14) (a := 92) dX10_init_215 rfl (by decide) (by decide) fX10_99 rfl rfl ?_
  refine q_iload_n dX10_init_218 rfl ?_
  refine q_mko (ci := 9) dX10_init_219 (by decide) (Nat.lt_of_lt_of_le (Nat.lt_of_le_of_lt (Nat.le_refl _) (Nat.le_of_ble_eq_true rfl)) (Nat.le_refl 1000)) rfl kX10_13 iX9 zX9 (fun _ => rfl) (fun _ => rfl) (fun _ => rfl) (kc' := 124) (ks' := 66940) rfl rfl ⟨rfl, rfl⟩ ?_
  refine q_dup dX10_init_222 rfl ?_
  show q_K _ (q_z zI2 zJ1 zR28 125) _ _ _ _ _ _
  refine q_callIN0 (M2 := mX9_init) (host := "WhyNot") rfl dX10_init_223 DX9_init (by decide) (q_fitb rfl) (q_r8 rfl) ⟨Nat.le_of_ble_eq_true rfl, Nat.le_of_ble_eq_true rfl⟩ yX9_init_124 ?_
  rintro _ _ ⟨rfl, rfl⟩
  refine q_kc (kc' := 138) (ks' := 67496) rfl rfl ?_
  refine q_aast (n := 3) (n2 := 0) (j := 2) dX10_init_226 rfl rfl rfl (by decide) ?_
  show q_K _ (q_z zI2 zJ1 (q_up zR29 92 2 (some 124)) 139) _ _ _ _ _ _
  refine q_inc (v := 1) dX10_init_227 rfl (Nat.le_of_ble_eq_true rfl) rfl ?_
  refine q_goto (tgt := 209) dX10_init_230 (by decide) ?_
  refine q_iload_n dX10_init_209 rfl ?_
  refine q_ic (v := 3) dX10_init_210 rfl ?_
  refine q_cz_ge (tgt := 233) (a := 3) (b := 3) dX10_init_211 (by decide) rfl rfl (fun _ => ?_) (fun h => absurd h (by decide))
  exact q_endv dX10_init_233 rfl ⟨rfl, rfl⟩ ⟨rfl, rfl⟩
-- the law makes the model: cell 139
theorem dX11_init_0 : decode cX11_init 0 = .ok (.aload_n 0, 1) := by decide +kernel
theorem dX11_init_1 : decode cX11_init 1 = .ok (.invokespecial 1, 3) := by decide +kernel
theorem dX11_init_4 : decode cX11_init 4 = .ok (.aload_n 0, 1) := by decide +kernel
theorem dX11_init_5 : decode cX11_init 5 = .ok (.sipush 1620, 3) := by decide +kernel
theorem dX11_init_8 : decode cX11_init 8 = .ok (.newarray .byte, 2) := by decide +kernel
theorem dX11_init_10 : decode cX11_init 10 = .ok (.putfield 7, 3) := by decide +kernel
theorem dX11_init_13 : decode cX11_init 13 = .ok (.aload_n 0, 1) := by decide +kernel
theorem dX11_init_14 : decode cX11_init 14 = .ok (.sipush 1600, 3) := by decide +kernel
theorem dX11_init_17 : decode cX11_init 17 = .ok (.newarray .byte, 2) := by decide +kernel
theorem dX11_init_19 : decode cX11_init 19 = .ok (.putfield 13, 3) := by decide +kernel
theorem dX11_init_22 : decode cX11_init 22 = .ok (.aload_n 0, 1) := by decide +kernel
theorem dX11_init_23 : decode cX11_init 23 = .ok (.iconst (-1), 1) := by decide +kernel
theorem dX11_init_24 : decode cX11_init 24 = .ok (.putfield 16, 3) := by decide +kernel
theorem dX11_init_27 : decode cX11_init 27 = .ok (.aload_n 0, 1) := by decide +kernel
theorem dX11_init_28 : decode cX11_init 28 = .ok (.bipush 6, 2) := by decide +kernel
theorem dX11_init_30 : decode cX11_init 30 = .ok (.newarray .int, 2) := by decide +kernel
theorem dX11_init_32 : decode cX11_init 32 = .ok (.putfield 20, 3) := by decide +kernel
theorem dX11_init_35 : decode cX11_init 35 = .ok (.aload_n 0, 1) := by decide +kernel
theorem dX11_init_36 : decode cX11_init 36 = .ok (.bipush 6, 2) := by decide +kernel
theorem dX11_init_38 : decode cX11_init 38 = .ok (.newarray .int, 2) := by decide +kernel
theorem dX11_init_40 : decode cX11_init 40 = .ok (.putfield 24, 3) := by decide +kernel
theorem dX11_init_43 : decode cX11_init 43 = .ok (.aload_n 0, 1) := by decide +kernel
theorem dX11_init_44 : decode cX11_init 44 = .ok (.bipush 6, 2) := by decide +kernel
theorem dX11_init_46 : decode cX11_init 46 = .ok (.newarray .int, 2) := by decide +kernel
theorem dX11_init_48 : decode cX11_init 48 = .ok (.putfield 27, 3) := by decide +kernel
theorem dX11_init_51 : decode cX11_init 51 = .ok (.aload_n 0, 1) := by decide +kernel
theorem dX11_init_52 : decode cX11_init 52 = .ok (.bipush 48, 2) := by decide +kernel
theorem dX11_init_54 : decode cX11_init 54 = .ok (.newarray .int, 2) := by decide +kernel
theorem dX11_init_56 : decode cX11_init 56 = .ok (.putfield 30, 3) := by decide +kernel
theorem dX11_init_59 : decode cX11_init 59 = .ok (.aload_n 0, 1) := by decide +kernel
theorem dX11_init_60 : decode cX11_init 60 = .ok (.sipush 240, 3) := by decide +kernel
theorem dX11_init_63 : decode cX11_init 63 = .ok (.newarray .int, 2) := by decide +kernel
theorem dX11_init_65 : decode cX11_init 65 = .ok (.putfield 33, 3) := by decide +kernel
theorem dX11_init_68 : decode cX11_init 68 = .ok (.aload_n 0, 1) := by decide +kernel
theorem dX11_init_69 : decode cX11_init 69 = .ok (.sipush 240, 3) := by decide +kernel
theorem dX11_init_72 : decode cX11_init 72 = .ok (.newarray .int, 2) := by decide +kernel
theorem dX11_init_74 : decode cX11_init 74 = .ok (.putfield 36, 3) := by decide +kernel
theorem dX11_init_77 : decode cX11_init 77 = .ok (.aload_n 0, 1) := by decide +kernel
theorem dX11_init_78 : decode cX11_init 78 = .ok (.sipush 240, 3) := by decide +kernel
theorem dX11_init_81 : decode cX11_init 81 = .ok (.newarray .int, 2) := by decide +kernel
theorem dX11_init_83 : decode cX11_init 83 = .ok (.putfield 39, 3) := by decide +kernel
theorem dX11_init_86 : decode cX11_init 86 = .ok (.aload_n 0, 1) := by decide +kernel
theorem dX11_init_87 : decode cX11_init 87 = .ok (.sipush 240, 3) := by decide +kernel
theorem dX11_init_90 : decode cX11_init 90 = .ok (.newarray .int, 2) := by decide +kernel
theorem dX11_init_92 : decode cX11_init 92 = .ok (.putfield 42, 3) := by decide +kernel
theorem dX11_init_95 : decode cX11_init 95 = .ok (.aload_n 0, 1) := by decide +kernel
theorem dX11_init_96 : decode cX11_init 96 = .ok (.sipush 240, 3) := by decide +kernel
theorem dX11_init_99 : decode cX11_init 99 = .ok (.newarray .int, 2) := by decide +kernel
theorem dX11_init_101 : decode cX11_init 101 = .ok (.putfield 45, 3) := by decide +kernel
theorem dX11_init_104 : decode cX11_init 104 = .ok (.aload_n 0, 1) := by decide +kernel
theorem dX11_init_105 : decode cX11_init 105 = .ok (.sipush 240, 3) := by decide +kernel
theorem dX11_init_108 : decode cX11_init 108 = .ok (.newarray .int, 2) := by decide +kernel
theorem dX11_init_110 : decode cX11_init 110 = .ok (.putfield 48, 3) := by decide +kernel
theorem dX11_init_113 : decode cX11_init 113 = .ok (.aload_n 0, 1) := by decide +kernel
theorem dX11_init_114 : decode cX11_init 114 = .ok (.sipush 720, 3) := by decide +kernel
theorem dX11_init_117 : decode cX11_init 117 = .ok (.newarray .int, 2) := by decide +kernel
theorem dX11_init_119 : decode cX11_init 119 = .ok (.putfield 51, 3) := by decide +kernel
theorem dX11_init_122 : decode cX11_init 122 = .ok (.aload_n 0, 1) := by decide +kernel
theorem dX11_init_123 : decode cX11_init 123 = .ok (.sipush 240, 3) := by decide +kernel
theorem dX11_init_126 : decode cX11_init 126 = .ok (.newarray .int, 2) := by decide +kernel
theorem dX11_init_128 : decode cX11_init 128 = .ok (.putfield 54, 3) := by decide +kernel
theorem dX11_init_131 : decode cX11_init 131 = .ok (.aload_n 0, 1) := by decide +kernel
theorem dX11_init_132 : decode cX11_init 132 = .ok (.sipush 240, 3) := by decide +kernel
theorem dX11_init_135 : decode cX11_init 135 = .ok (.newarray .int, 2) := by decide +kernel
theorem dX11_init_137 : decode cX11_init 137 = .ok (.putfield 57, 3) := by decide +kernel
theorem dX11_init_140 : decode cX11_init 140 = .ok (.aload_n 0, 1) := by decide +kernel
theorem dX11_init_141 : decode cX11_init 141 = .ok (.sipush 240, 3) := by decide +kernel
theorem dX11_init_144 : decode cX11_init 144 = .ok (.newarray .int, 2) := by decide +kernel
theorem dX11_init_146 : decode cX11_init 146 = .ok (.putfield 60, 3) := by decide +kernel
theorem dX11_init_149 : decode cX11_init 149 = .ok (.aload_n 0, 1) := by decide +kernel
theorem dX11_init_150 : decode cX11_init 150 = .ok (.bipush 120, 2) := by decide +kernel
theorem dX11_init_152 : decode cX11_init 152 = .ok (.newarray .int, 2) := by decide +kernel
theorem dX11_init_154 : decode cX11_init 154 = .ok (.putfield 63, 3) := by decide +kernel
theorem dX11_init_157 : decode cX11_init 157 = .ok (.aload_n 0, 1) := by decide +kernel
theorem dX11_init_158 : decode cX11_init 158 = .ok (.bipush 48, 2) := by decide +kernel
theorem dX11_init_160 : decode cX11_init 160 = .ok (.newarray .long, 2) := by decide +kernel
theorem dX11_init_162 : decode cX11_init 162 = .ok (.putfield 66, 3) := by decide +kernel
theorem dX11_init_165 : decode cX11_init 165 = .ok (.aload_n 0, 1) := by decide +kernel
theorem dX11_init_166 : decode cX11_init 166 = .ok (.sipush 240, 3) := by decide +kernel
theorem dX11_init_169 : decode cX11_init 169 = .ok (.newarray .long, 2) := by decide +kernel
theorem dX11_init_171 : decode cX11_init 171 = .ok (.putfield 70, 3) := by decide +kernel
theorem dX11_init_174 : decode cX11_init 174 = .ok (.aload_n 0, 1) := by decide +kernel
theorem dX11_init_175 : decode cX11_init 175 = .ok (.bipush 22, 2) := by decide +kernel
theorem dX11_init_177 : decode cX11_init 177 = .ok (.newarray .int, 2) := by decide +kernel
theorem dX11_init_179 : decode cX11_init 179 = .ok (.putfield 73, 3) := by decide +kernel
theorem dX11_init_182 : decode cX11_init 182 = .ok (.aload_n 0, 1) := by decide +kernel
theorem dX11_init_183 : decode cX11_init 183 = .ok (.bipush 22, 2) := by decide +kernel
theorem dX11_init_185 : decode cX11_init 185 = .ok (.newarray .int, 2) := by decide +kernel
theorem dX11_init_187 : decode cX11_init 187 = .ok (.putfield 76, 3) := by decide +kernel
theorem dX11_init_190 : decode cX11_init 190 = .ok (.aload_n 0, 1) := by decide +kernel
theorem dX11_init_191 : decode cX11_init 191 = .ok (.sipush 12000, 3) := by decide +kernel
theorem dX11_init_194 : decode cX11_init 194 = .ok (.newarray .int, 2) := by decide +kernel
theorem dX11_init_196 : decode cX11_init 196 = .ok (.putfield 79, 3) := by decide +kernel
theorem dX11_init_199 : decode cX11_init 199 = .ok (.aload_n 0, 1) := by decide +kernel
theorem dX11_init_200 : decode cX11_init 200 = .ok (.sipush 12000, 3) := by decide +kernel
theorem dX11_init_203 : decode cX11_init 203 = .ok (.newarray .int, 2) := by decide +kernel
theorem dX11_init_205 : decode cX11_init 205 = .ok (.putfield 82, 3) := by decide +kernel
theorem dX11_init_208 : decode cX11_init 208 = .ok (.aload_n 0, 1) := by decide +kernel
theorem dX11_init_209 : decode cX11_init 209 = .ok (.sipush 12000, 3) := by decide +kernel
theorem dX11_init_212 : decode cX11_init 212 = .ok (.newarray .int, 2) := by decide +kernel
theorem dX11_init_214 : decode cX11_init 214 = .ok (.putfield 85, 3) := by decide +kernel
theorem dX11_init_217 : decode cX11_init 217 = .ok (.aload_n 0, 1) := by decide +kernel
theorem dX11_init_218 : decode cX11_init 218 = .ok (.sipush 12000, 3) := by decide +kernel
theorem dX11_init_221 : decode cX11_init 221 = .ok (.newarray .int, 2) := by decide +kernel
theorem dX11_init_223 : decode cX11_init 223 = .ok (.putfield 88, 3) := by decide +kernel
theorem dX11_init_226 : decode cX11_init 226 = .ok (.aload_n 0, 1) := by decide +kernel
theorem dX11_init_227 : decode cX11_init 227 = .ok (.sipush 12000, 3) := by decide +kernel
theorem dX11_init_230 : decode cX11_init 230 = .ok (.newarray .int, 2) := by decide +kernel
theorem dX11_init_232 : decode cX11_init 232 = .ok (.putfield 91, 3) := by decide +kernel
theorem dX11_init_235 : decode cX11_init 235 = .ok (.aload_n 0, 1) := by decide +kernel
theorem dX11_init_236 : decode cX11_init 236 = .ok (.sipush 12000, 3) := by decide +kernel
theorem dX11_init_239 : decode cX11_init 239 = .ok (.newarray .int, 2) := by decide +kernel
theorem dX11_init_241 : decode cX11_init 241 = .ok (.putfield 94, 3) := by decide +kernel
theorem dX11_init_244 : decode cX11_init 244 = .ok (.aload_n 0, 1) := by decide +kernel
theorem dX11_init_245 : decode cX11_init 245 = .ok (.sipush 1300, 3) := by decide +kernel
theorem dX11_init_248 : decode cX11_init 248 = .ok (.newarray .int, 2) := by decide +kernel
theorem dX11_init_250 : decode cX11_init 250 = .ok (.putfield 97, 3) := by decide +kernel
theorem dX11_init_253 : decode cX11_init 253 = .ok (.aload_n 0, 1) := by decide +kernel
theorem dX11_init_254 : decode cX11_init 254 = .ok (.sipush 1300, 3) := by decide +kernel
theorem dX11_init_257 : decode cX11_init 257 = .ok (.newarray .int, 2) := by decide +kernel
theorem dX11_init_259 : decode cX11_init 259 = .ok (.putfield 100, 3) := by decide +kernel
theorem dX11_init_262 : decode cX11_init 262 = .ok (.aload_n 0, 1) := by decide +kernel
theorem dX11_init_263 : decode cX11_init 263 = .ok (.sipush 1300, 3) := by decide +kernel
theorem dX11_init_266 : decode cX11_init 266 = .ok (.newarray .int, 2) := by decide +kernel
theorem dX11_init_268 : decode cX11_init 268 = .ok (.putfield 103, 3) := by decide +kernel
theorem dX11_init_271 : decode cX11_init 271 = .ok (.aload_n 0, 1) := by decide +kernel
theorem dX11_init_272 : decode cX11_init 272 = .ok (.sipush 420, 3) := by decide +kernel
theorem dX11_init_275 : decode cX11_init 275 = .ok (.newarray .int, 2) := by decide +kernel
theorem dX11_init_277 : decode cX11_init 277 = .ok (.putfield 106, 3) := by decide +kernel
theorem dX11_init_280 : decode cX11_init 280 = .ok (.aload_n 0, 1) := by decide +kernel
theorem dX11_init_281 : decode cX11_init 281 = .ok (.sipush 420, 3) := by decide +kernel
theorem dX11_init_284 : decode cX11_init 284 = .ok (.newarray .int, 2) := by decide +kernel
theorem dX11_init_286 : decode cX11_init 286 = .ok (.putfield 109, 3) := by decide +kernel
theorem dX11_init_289 : decode cX11_init 289 = .ok (.aload_n 0, 1) := by decide +kernel
theorem dX11_init_290 : decode cX11_init 290 = .ok (.sipush 420, 3) := by decide +kernel
theorem dX11_init_293 : decode cX11_init 293 = .ok (.newarray .int, 2) := by decide +kernel
theorem dX11_init_295 : decode cX11_init 295 = .ok (.putfield 112, 3) := by decide +kernel
theorem dX11_init_298 : decode cX11_init 298 = .ok (.aload_n 0, 1) := by decide +kernel
theorem dX11_init_299 : decode cX11_init 299 = .ok (.sipush 420, 3) := by decide +kernel
theorem dX11_init_302 : decode cX11_init 302 = .ok (.newarray .int, 2) := by decide +kernel
theorem dX11_init_304 : decode cX11_init 304 = .ok (.putfield 115, 3) := by decide +kernel
theorem dX11_init_307 : decode cX11_init 307 = .ok (.aload_n 0, 1) := by decide +kernel
theorem dX11_init_308 : decode cX11_init 308 = .ok (.iconst (-1), 1) := by decide +kernel
theorem dX11_init_309 : decode cX11_init 309 = .ok (.putfield 118, 3) := by decide +kernel
theorem dX11_init_312 : decode cX11_init 312 = .ok (.aload_n 0, 1) := by decide +kernel
theorem dX11_init_313 : decode cX11_init 313 = .ok (.sipush 500, 3) := by decide +kernel
theorem dX11_init_316 : decode cX11_init 316 = .ok (.newarray .int, 2) := by decide +kernel
theorem dX11_init_318 : decode cX11_init 318 = .ok (.putfield 121, 3) := by decide +kernel
theorem dX11_init_321 : decode cX11_init 321 = .ok (.aload_n 0, 1) := by decide +kernel
theorem dX11_init_322 : decode cX11_init 322 = .ok (.sipush 4096, 3) := by decide +kernel
theorem dX11_init_325 : decode cX11_init 325 = .ok (.newarray .boolean, 2) := by decide +kernel
theorem dX11_init_327 : decode cX11_init 327 = .ok (.putfield 124, 3) := by decide +kernel
theorem dX11_init_330 : decode cX11_init 330 = .ok (.aload_n 0, 1) := by decide +kernel
theorem dX11_init_331 : decode cX11_init 331 = .ok (.bipush 40, 2) := by decide +kernel
theorem dX11_init_333 : decode cX11_init 333 = .ok (.newarray .int, 2) := by decide +kernel
theorem dX11_init_335 : decode cX11_init 335 = .ok (.putfield 128, 3) := by decide +kernel
theorem dX11_init_338 : decode cX11_init 338 = .ok (.aload_n 0, 1) := by decide +kernel
theorem dX11_init_339 : decode cX11_init 339 = .ok (.bipush 42, 2) := by decide +kernel
theorem dX11_init_341 : decode cX11_init 341 = .ok (.newarray .long, 2) := by decide +kernel
theorem dX11_init_343 : decode cX11_init 343 = .ok (.putfield 131, 3) := by decide +kernel
theorem dX11_init_346 : decode cX11_init 346 = .ok (.aload_n 0, 1) := by decide +kernel
theorem dX11_init_347 : decode cX11_init 347 = .ok (.bipush 42, 2) := by decide +kernel
theorem dX11_init_349 : decode cX11_init 349 = .ok (.newarray .long, 2) := by decide +kernel
theorem dX11_init_351 : decode cX11_init 351 = .ok (.putfield 134, 3) := by decide +kernel
theorem dX11_init_354 : decode cX11_init 354 = .ok (.aload_n 0, 1) := by decide +kernel
theorem dX11_init_355 : decode cX11_init 355 = .ok (.bipush 42, 2) := by decide +kernel
theorem dX11_init_357 : decode cX11_init 357 = .ok (.newarray .long, 2) := by decide +kernel
theorem dX11_init_359 : decode cX11_init 359 = .ok (.putfield 137, 3) := by decide +kernel
theorem dX11_init_362 : decode cX11_init 362 = .ok (.aload_n 0, 1) := by decide +kernel
theorem dX11_init_363 : decode cX11_init 363 = .ok (.bipush 42, 2) := by decide +kernel
theorem dX11_init_365 : decode cX11_init 365 = .ok (.newarray .int, 2) := by decide +kernel
theorem dX11_init_367 : decode cX11_init 367 = .ok (.putfield 140, 3) := by decide +kernel
theorem dX11_init_370 : decode cX11_init 370 = .ok (.aload_n 0, 1) := by decide +kernel
theorem dX11_init_371 : decode cX11_init 371 = .ok (.bipush 42, 2) := by decide +kernel
theorem dX11_init_373 : decode cX11_init 373 = .ok (.newarray .int, 2) := by decide +kernel
theorem dX11_init_375 : decode cX11_init 375 = .ok (.putfield 143, 3) := by decide +kernel
theorem dX11_init_378 : decode cX11_init 378 = .ok (.aload_n 0, 1) := by decide +kernel
theorem dX11_init_379 : decode cX11_init 379 = .ok (.bipush 40, 2) := by decide +kernel
theorem dX11_init_381 : decode cX11_init 381 = .ok (.newarray .int, 2) := by decide +kernel
theorem dX11_init_383 : decode cX11_init 383 = .ok (.putfield 146, 3) := by decide +kernel
theorem dX11_init_386 : decode cX11_init 386 = .ok (.aload_n 0, 1) := by decide +kernel
theorem dX11_init_387 : decode cX11_init 387 = .ok (.bipush 42, 2) := by decide +kernel
theorem dX11_init_389 : decode cX11_init 389 = .ok (.newarray .int, 2) := by decide +kernel
theorem dX11_init_391 : decode cX11_init 391 = .ok (.putfield 149, 3) := by decide +kernel
theorem dX11_init_394 : decode cX11_init 394 = .ok (.aload_n 0, 1) := by decide +kernel
theorem dX11_init_395 : decode cX11_init 395 = .ok (.bipush 40, 2) := by decide +kernel
theorem dX11_init_397 : decode cX11_init 397 = .ok (.newarray .int, 2) := by decide +kernel
theorem dX11_init_399 : decode cX11_init 399 = .ok (.putfield 152, 3) := by decide +kernel
theorem dX11_init_402 : decode cX11_init 402 = .ok (.aload_n 0, 1) := by decide +kernel
theorem dX11_init_403 : decode cX11_init 403 = .ok (.bipush 40, 2) := by decide +kernel
theorem dX11_init_405 : decode cX11_init 405 = .ok (.newarray .int, 2) := by decide +kernel
theorem dX11_init_407 : decode cX11_init 407 = .ok (.putfield 155, 3) := by decide +kernel
theorem dX11_init_410 : decode cX11_init 410 = .ok (.aload_n 0, 1) := by decide +kernel
theorem dX11_init_411 : decode cX11_init 411 = .ok (.bipush 40, 2) := by decide +kernel
theorem dX11_init_413 : decode cX11_init 413 = .ok (.newarray .int, 2) := by decide +kernel
theorem dX11_init_415 : decode cX11_init 415 = .ok (.putfield 158, 3) := by decide +kernel
theorem dX11_init_418 : decode cX11_init 418 = .ok (.aload_n 0, 1) := by decide +kernel
theorem dX11_init_419 : decode cX11_init 419 = .ok (.bipush 40, 2) := by decide +kernel
theorem dX11_init_421 : decode cX11_init 421 = .ok (.newarray .int, 2) := by decide +kernel
theorem dX11_init_423 : decode cX11_init 423 = .ok (.putfield 161, 3) := by decide +kernel
theorem dX11_init_426 : decode cX11_init 426 = .ok (.aload_n 0, 1) := by decide +kernel
theorem dX11_init_427 : decode cX11_init 427 = .ok (.sipush 152, 3) := by decide +kernel
theorem dX11_init_430 : decode cX11_init 430 = .ok (.newarray .int, 2) := by decide +kernel
theorem dX11_init_432 : decode cX11_init 432 = .ok (.putfield 164, 3) := by decide +kernel
theorem dX11_init_435 : decode cX11_init 435 = .ok (.aload_n 0, 1) := by decide +kernel
theorem dX11_init_436 : decode cX11_init 436 = .ok (.sipush 152, 3) := by decide +kernel
theorem dX11_init_439 : decode cX11_init 439 = .ok (.newarray .int, 2) := by decide +kernel
theorem dX11_init_441 : decode cX11_init 441 = .ok (.putfield 167, 3) := by decide +kernel
theorem dX11_init_444 : decode cX11_init 444 = .ok (.aload_n 0, 1) := by decide +kernel
theorem dX11_init_445 : decode cX11_init 445 = .ok (.sipush 152, 3) := by decide +kernel
theorem dX11_init_448 : decode cX11_init 448 = .ok (.newarray .int, 2) := by decide +kernel
theorem dX11_init_450 : decode cX11_init 450 = .ok (.putfield 170, 3) := by decide +kernel
theorem dX11_init_453 : decode cX11_init 453 = .ok (.aload_n 0, 1) := by decide +kernel
theorem dX11_init_454 : decode cX11_init 454 = .ok (.sipush 152, 3) := by decide +kernel
theorem dX11_init_457 : decode cX11_init 457 = .ok (.newarray .int, 2) := by decide +kernel
theorem dX11_init_459 : decode cX11_init 459 = .ok (.putfield 173, 3) := by decide +kernel
theorem dX11_init_462 : decode cX11_init 462 = .ok (.aload_n 0, 1) := by decide +kernel
theorem dX11_init_463 : decode cX11_init 463 = .ok (.sipush 4100, 3) := by decide +kernel
theorem dX11_init_466 : decode cX11_init 466 = .ok (.newarray .int, 2) := by decide +kernel
theorem dX11_init_468 : decode cX11_init 468 = .ok (.putfield 176, 3) := by decide +kernel
theorem dX11_init_471 : decode cX11_init 471 = .ok (.aload_n 0, 1) := by decide +kernel
theorem dX11_init_472 : decode cX11_init 472 = .ok (.sipush 4100, 3) := by decide +kernel
theorem dX11_init_475 : decode cX11_init 475 = .ok (.newarray .int, 2) := by decide +kernel
theorem dX11_init_477 : decode cX11_init 477 = .ok (.putfield 179, 3) := by decide +kernel
theorem dX11_init_480 : decode cX11_init 480 = .ok (.aload_n 0, 1) := by decide +kernel
theorem dX11_init_481 : decode cX11_init 481 = .ok (.sipush 4100, 3) := by decide +kernel
theorem dX11_init_484 : decode cX11_init 484 = .ok (.newarray .int, 2) := by decide +kernel
theorem dX11_init_486 : decode cX11_init 486 = .ok (.putfield 182, 3) := by decide +kernel
theorem dX11_init_489 : decode cX11_init 489 = .ok (.aload_n 0, 1) := by decide +kernel
theorem dX11_init_490 : decode cX11_init 490 = .ok (.sipush 4100, 3) := by decide +kernel
theorem dX11_init_493 : decode cX11_init 493 = .ok (.newarray .int, 2) := by decide +kernel
theorem dX11_init_495 : decode cX11_init 495 = .ok (.putfield 185, 3) := by decide +kernel
theorem dX11_init_498 : decode cX11_init 498 = .ok (.aload_n 0, 1) := by decide +kernel
theorem dX11_init_499 : decode cX11_init 499 = .ok (.sipush 4100, 3) := by decide +kernel
theorem dX11_init_502 : decode cX11_init 502 = .ok (.newarray .int, 2) := by decide +kernel
theorem dX11_init_504 : decode cX11_init 504 = .ok (.putfield 188, 3) := by decide +kernel
theorem dX11_init_507 : decode cX11_init 507 = .ok (.aload_n 0, 1) := by decide +kernel
theorem dX11_init_508 : decode cX11_init 508 = .ok (.sipush 4100, 3) := by decide +kernel
theorem dX11_init_511 : decode cX11_init 511 = .ok (.newarray .int, 2) := by decide +kernel
theorem dX11_init_513 : decode cX11_init 513 = .ok (.putfield 191, 3) := by decide +kernel
theorem dX11_init_516 : decode cX11_init 516 = .ok (.aload_n 0, 1) := by decide +kernel
theorem dX11_init_517 : decode cX11_init 517 = .ok (.sipush 4100, 3) := by decide +kernel
theorem dX11_init_520 : decode cX11_init 520 = .ok (.newarray .int, 2) := by decide +kernel
theorem dX11_init_522 : decode cX11_init 522 = .ok (.putfield 194, 3) := by decide +kernel
theorem dX11_init_525 : decode cX11_init 525 = .ok (.aload_n 0, 1) := by decide +kernel
theorem dX11_init_526 : decode cX11_init 526 = .ok (.bipush 30, 2) := by decide +kernel
theorem dX11_init_528 : decode cX11_init 528 = .ok (.newarray .int, 2) := by decide +kernel
theorem dX11_init_530 : decode cX11_init 530 = .ok (.putfield 197, 3) := by decide +kernel
theorem dX11_init_533 : decode cX11_init 533 = .ok (.aload_n 0, 1) := by decide +kernel
theorem dX11_init_534 : decode cX11_init 534 = .ok (.bipush 30, 2) := by decide +kernel
theorem dX11_init_536 : decode cX11_init 536 = .ok (.newarray .int, 2) := by decide +kernel
theorem dX11_init_538 : decode cX11_init 538 = .ok (.putfield 200, 3) := by decide +kernel
theorem dX11_init_541 : decode cX11_init 541 = .ok (.aload_n 0, 1) := by decide +kernel
theorem dX11_init_542 : decode cX11_init 542 = .ok (.bipush 30, 2) := by decide +kernel
theorem dX11_init_544 : decode cX11_init 544 = .ok (.newarray .int, 2) := by decide +kernel
theorem dX11_init_546 : decode cX11_init 546 = .ok (.putfield 203, 3) := by decide +kernel
theorem dX11_init_549 : decode cX11_init 549 = .ok (.aload_n 0, 1) := by decide +kernel
theorem dX11_init_550 : decode cX11_init 550 = .ok (.bipush 120, 2) := by decide +kernel
theorem dX11_init_552 : decode cX11_init 552 = .ok (.newarray .int, 2) := by decide +kernel
theorem dX11_init_554 : decode cX11_init 554 = .ok (.putfield 206, 3) := by decide +kernel
theorem dX11_init_557 : decode cX11_init 557 = .ok (.aload_n 0, 1) := by decide +kernel
theorem dX11_init_558 : decode cX11_init 558 = .ok (.iconst 3, 1) := by decide +kernel
theorem dX11_init_559 : decode cX11_init 559 = .ok (.newarray .boolean, 2) := by decide +kernel
theorem dX11_init_561 : decode cX11_init 561 = .ok (.putfield 209, 3) := by decide +kernel
theorem dX11_init_564 : decode cX11_init 564 = .ok (.aload_n 0, 1) := by decide +kernel
theorem dX11_init_565 : decode cX11_init 565 = .ok (.iconst 0, 1) := by decide +kernel
theorem dX11_init_566 : decode cX11_init 566 = .ok (.invokevirtual 212, 3) := by decide +kernel
theorem dX11_init_569 : decode cX11_init 569 = .ok (.aload_n 0, 1) := by decide +kernel
theorem dX11_init_570 : decode cX11_init 570 = .ok (.invokevirtual 216, 3) := by decide +kernel
theorem dX11_init_573 : decode cX11_init 573 = .ok (.iconst 0, 1) := by decide +kernel
theorem dX11_init_574 : decode cX11_init 574 = .ok (.istore_n 1, 1) := by decide +kernel
theorem dX11_init_575 : decode cX11_init 575 = .ok (.iload_n 1, 1) := by decide +kernel
theorem dX11_init_576 : decode cX11_init 576 = .ok (.iconst 3, 1) := by decide +kernel
theorem dX11_init_577 : decode cX11_init 577 = .ok (.if_icmp .ge 16, 3) := by decide +kernel
theorem dX11_init_580 : decode cX11_init 580 = .ok (.aload_n 0, 1) := by decide +kernel
theorem dX11_init_581 : decode cX11_init 581 = .ok (.getfield 209, 3) := by decide +kernel
theorem dX11_init_584 : decode cX11_init 584 = .ok (.iload_n 1, 1) := by decide +kernel
theorem dX11_init_585 : decode cX11_init 585 = .ok (.iconst 0, 1) := by decide +kernel
theorem dX11_init_586 : decode cX11_init 586 = .ok (.bastore, 1) := by decide +kernel
theorem dX11_init_587 : decode cX11_init 587 = .ok (.iinc 1 1, 3) := by decide +kernel
theorem dX11_init_590 : decode cX11_init 590 = .ok (.goto (-15), 3) := by decide +kernel
theorem dX11_init_593 : decode cX11_init 593 = .ok (.return_, 1) := by decide +kernel
def zI3 : Nat → Nat → Int32 := q_up (q_up zI2 139 5 (-1)) 139 49 (-1)
def zR31 : Nat → Nat → Option Nat := q_up (q_up (q_up (q_up (q_up (q_up (q_up (q_up (q_up (q_up (q_up (q_up (q_up (q_up (q_up (q_up (q_up (q_up (q_up (q_up (q_up (q_up (q_up (q_up (q_up (q_up (q_up (q_up (q_up (q_up (q_up (q_up (q_up (q_up (q_up (q_up (q_up (q_up (q_up (q_up (q_up (q_up (q_up (q_up (q_up (q_up (q_up (q_up (q_up (q_up (q_up (q_up (q_up (q_up (q_up (q_up (q_up (q_up (q_up (q_up (q_up (q_up (q_up (q_up zR30 139 0 (some 140)) 139 1 (some 141)) 139 11 (some 142)) 139 12 (some 143)) 139 13 (some 144)) 139 14 (some 145)) 139 15 (some 146)) 139 16 (some 147)) 139 17 (some 148)) 139 18 (some 149)) 139 19 (some 150)) 139 20 (some 151)) 139 21 (some 152)) 139 22 (some 153)) 139 23 (some 154)) 139 24 (some 155)) 139 25 (some 156)) 139 26 (some 157)) 139 27 (some 158)) 139 30 (some 159)) 139 31 (some 160)) 139 33 (some 161)) 139 34 (some 162)) 139 35 (some 163)) 139 36 (some 164)) 139 37 (some 165)) 139 38 (some 166)) 139 39 (some 167)) 139 40 (some 168)) 139 41 (some 169)) 139 42 (some 170)) 139 43 (some 171)) 139 44 (some 172)) 139 45 (some 173)) 139 52 (some 174)) 139 53 (some 175)) 139 54 (some 176)) 139 55 (some 177)) 139 56 (some 178)) 139 57 (some 179)) 139 58 (some 180)) 139 59 (some 181)) 139 64 (some 182)) 139 65 (some 183)) 139 66 (some 184)) 139 67 (some 185)) 139 68 (some 186)) 139 69 (some 187)) 139 72 (some 188)) 139 73 (some 189)) 139 74 (some 190)) 139 75 (some 191)) 139 76 (some 192)) 139 77 (some 193)) 139 78 (some 194)) 139 79 (some 195)) 139 80 (some 196)) 139 81 (some 197)) 139 82 (some 198)) 139 89 (some 199)) 139 90 (some 200)) 139 91 (some 201)) 139 96 (some 202)) 139 97 (some 203)
theorem dX11_clearBank_0 : decode cX11_clearBank 0 = .ok (.aload_n 0, 1) := by decide +kernel
theorem dX11_clearBank_1 : decode cX11_clearBank 1 = .ok (.getfield 20, 3) := by decide +kernel
theorem dX11_clearBank_4 : decode cX11_clearBank 4 = .ok (.iload_n 1, 1) := by decide +kernel
theorem dX11_clearBank_5 : decode cX11_clearBank 5 = .ok (.iconst 0, 1) := by decide +kernel
theorem dX11_clearBank_6 : decode cX11_clearBank 6 = .ok (.iastore, 1) := by decide +kernel
theorem dX11_clearBank_7 : decode cX11_clearBank 7 = .ok (.aload_n 0, 1) := by decide +kernel
theorem dX11_clearBank_8 : decode cX11_clearBank 8 = .ok (.getfield 24, 3) := by decide +kernel
theorem dX11_clearBank_11 : decode cX11_clearBank 11 = .ok (.iload_n 1, 1) := by decide +kernel
theorem dX11_clearBank_12 : decode cX11_clearBank 12 = .ok (.iconst 0, 1) := by decide +kernel
theorem dX11_clearBank_13 : decode cX11_clearBank 13 = .ok (.iastore, 1) := by decide +kernel
theorem dX11_clearBank_14 : decode cX11_clearBank 14 = .ok (.aload_n 0, 1) := by decide +kernel
theorem dX11_clearBank_15 : decode cX11_clearBank 15 = .ok (.getfield 27, 3) := by decide +kernel
theorem dX11_clearBank_18 : decode cX11_clearBank 18 = .ok (.iload_n 1, 1) := by decide +kernel
theorem dX11_clearBank_19 : decode cX11_clearBank 19 = .ok (.iconst 0, 1) := by decide +kernel
theorem dX11_clearBank_20 : decode cX11_clearBank 20 = .ok (.iastore, 1) := by decide +kernel
theorem dX11_clearBank_21 : decode cX11_clearBank 21 = .ok (.return_, 1) := by decide +kernel
def zI4 : Nat → Nat → Int32 := q_up (q_up (q_up zI3 142 0 0) 143 0 0) 144 0 0
set_option maxRecDepth 20000 in
theorem yX11_clearBank_139c : q_met mX11_clearBank (q_z zI3 zJ1 zR31 204) [.ref 139, .int 0] (fun s r => s = q_z zI4 zJ1 zR31 204 ∧ r = none) := by
  refine q_enter (by decide) (Nat.le_of_ble_eq_true rfl) ?_
  refine q_aload_n dX11_clearBank_0 rfl ?_
  refine q_getR (c := 11) (n := 0) (k := 11) (a := 142) dX11_clearBank_1 rfl (by decide) (by decide) fX11_20 rfl rfl ?_
  refine q_iload_n dX11_clearBank_4 rfl ?_
  refine q_ic (v := 0) dX11_clearBank_5 rfl ?_
  refine q_iast (n := 6) (j := 0) dX11_clearBank_6 rfl rfl (by decide) ?_
  show q_K _ (q_z (q_up zI3 142 0 0) zJ1 zR31 204) _ _ _ _ _ _
  refine q_aload_n dX11_clearBank_7 rfl ?_
  refine q_getR (c := 11) (n := 0) (k := 12) (a := 143) dX11_clearBank_8 rfl (by decide) (by decide) fX11_24 rfl rfl ?_
  refine q_iload_n dX11_clearBank_11 rfl ?_
  refine q_ic (v := 0) dX11_clearBank_12 rfl ?_
  refine q_iast (n := 6) (j := 0) dX11_clearBank_13 rfl rfl (by decide) ?_
  show q_K _ (q_z (q_up (q_up zI3 142 0 0) 143 0 0) zJ1 zR31 204) _ _ _ _ _ _
  refine q_aload_n dX11_clearBank_14 rfl ?_
  refine q_getR (c := 11) (n := 0) (k := 13) (a := 144) dX11_clearBank_15 rfl (by decide) (by decide) fX11_27 rfl rfl ?_
  refine q_iload_n dX11_clearBank_18 rfl ?_
  refine q_ic (v := 0) dX11_clearBank_19 rfl ?_
  refine q_iast (n := 6) (j := 0) dX11_clearBank_20 rfl rfl (by decide) ?_
  show q_K _ (q_z (q_up (q_up (q_up zI3 142 0 0) 143 0 0) 144 0 0) zJ1 zR31 204) _ _ _ _ _ _
  exact q_endv dX11_clearBank_21 rfl ⟨rfl, rfl⟩ ⟨rfl, rfl⟩
theorem dX11_begin_0 : decode cX11_begin 0 = .ok (.iconst 0, 1) := by decide +kernel
theorem dX11_begin_1 : decode cX11_begin 1 = .ok (.istore_n 1, 1) := by decide +kernel
theorem dX11_begin_2 : decode cX11_begin 2 = .ok (.iload_n 1, 1) := by decide +kernel
theorem dX11_begin_3 : decode cX11_begin 3 = .ok (.bipush 40, 2) := by decide +kernel
theorem dX11_begin_5 : decode cX11_begin 5 = .ok (.if_icmp .ge 16, 3) := by decide +kernel
theorem dX11_begin_8 : decode cX11_begin 8 = .ok (.aload_n 0, 1) := by decide +kernel
theorem dX11_begin_9 : decode cX11_begin 9 = .ok (.getfield 128, 3) := by decide +kernel
theorem dX11_begin_12 : decode cX11_begin 12 = .ok (.iload_n 1, 1) := by decide +kernel
theorem dX11_begin_13 : decode cX11_begin 13 = .ok (.iconst 1, 1) := by decide +kernel
theorem dX11_begin_14 : decode cX11_begin 14 = .ok (.iastore, 1) := by decide +kernel
theorem dX11_begin_15 : decode cX11_begin 15 = .ok (.iinc 1 1, 3) := by decide +kernel
theorem dX11_begin_18 : decode cX11_begin 18 = .ok (.goto (-16), 3) := by decide +kernel
theorem dX11_begin_21 : decode cX11_begin 21 = .ok (.aload_n 0, 1) := by decide +kernel
theorem dX11_begin_22 : decode cX11_begin 22 = .ok (.iconst 0, 1) := by decide +kernel
theorem dX11_begin_23 : decode cX11_begin 23 = .ok (.putfield 560, 3) := by decide +kernel
theorem dX11_begin_26 : decode cX11_begin 26 = .ok (.aload_n 0, 1) := by decide +kernel
theorem dX11_begin_27 : decode cX11_begin 27 = .ok (.iconst (-1), 1) := by decide +kernel
theorem dX11_begin_28 : decode cX11_begin 28 = .ok (.putfield 118, 3) := by decide +kernel
theorem dX11_begin_31 : decode cX11_begin 31 = .ok (.aload_n 0, 1) := by decide +kernel
theorem dX11_begin_32 : decode cX11_begin 32 = .ok (.iconst 0, 1) := by decide +kernel
theorem dX11_begin_33 : decode cX11_begin 33 = .ok (.putfield 492, 3) := by decide +kernel
theorem dX11_begin_36 : decode cX11_begin 36 = .ok (.aload_n 0, 1) := by decide +kernel
theorem dX11_begin_37 : decode cX11_begin 37 = .ok (.iconst 0, 1) := by decide +kernel
theorem dX11_begin_38 : decode cX11_begin 38 = .ok (.putfield 496, 3) := by decide +kernel
theorem dX11_begin_41 : decode cX11_begin 41 = .ok (.return_, 1) := by decide +kernel
def zI5 : Nat → Nat → Int32 := q_up (q_up (q_up (q_up (q_up (q_up (q_up (q_up (q_up (q_up (q_up (q_up (q_up (q_up (q_up (q_up (q_up (q_up (q_up (q_up (q_up (q_up (q_up (q_up (q_up (q_up (q_up (q_up (q_up (q_up (q_up (q_up (q_up (q_up (q_up (q_up (q_up (q_up (q_up (q_up (q_up (q_up (q_up (q_up zI4 176 0 1) 176 1 1) 176 2 1) 176 3 1) 176 4 1) 176 5 1) 176 6 1) 176 7 1) 176 8 1) 176 9 1) 176 10 1) 176 11 1) 176 12 1) 176 13 1) 176 14 1) 176 15 1) 176 16 1) 176 17 1) 176 18 1) 176 19 1) 176 20 1) 176 21 1) 176 22 1) 176 23 1) 176 24 1) 176 25 1) 176 26 1) 176 27 1) 176 28 1) 176 29 1) 176 30 1) 176 31 1) 176 32 1) 176 33 1) 176 34 1) 176 35 1) 176 36 1) 176 37 1) 176 38 1) 176 39 1) 139 92 0) 139 49 (-1)) 139 62 0) 139 63 0
set_option maxRecDepth 20000 in
theorem yX11_begin_139c : q_met mX11_begin (q_z zI4 zJ1 zR31 204) [.ref 139] (fun s r => s = q_z zI5 zJ1 zR31 204 ∧ r = none) := by
  refine q_enter (by decide) (Nat.le_of_ble_eq_true rfl) ?_
  refine q_ic (v := 0) dX11_begin_0 rfl ?_
  refine q_istore_n dX11_begin_1 (Nat.le_of_ble_eq_true rfl) ?_
  refine q_iload_n dX11_begin_2 rfl ?_
  refine q_bi (v := 40) dX11_begin_3 rfl ?_
  refine q_cz_ge (tgt := 21) (a := 0) (b := 40) dX11_begin_5 (by decide) rfl rfl (fun h => absurd h (by decide)) (fun _ => ?_)
  refine q_aload_n dX11_begin_8 rfl ?_
  refine q_getR (c := 11) (n := 0) (k := 54) (a := 176) dX11_begin_9 rfl (by decide) (by decide) fX11_128 rfl rfl ?_
  refine q_iload_n dX11_begin_12 rfl ?_
  refine q_ic (v := 1) dX11_begin_13 rfl ?_
  refine q_iast (n := 40) (j := 0) dX11_begin_14 rfl rfl (by decide) ?_
  show q_K _ (q_z (q_up zI4 176 0 1) zJ1 zR31 204) _ _ _ _ _ _
  refine q_inc (v := 1) dX11_begin_15 rfl (Nat.le_of_ble_eq_true rfl) rfl ?_
  refine q_goto (tgt := 2) dX11_begin_18 (by decide) ?_
  refine q_iload_n dX11_begin_2 rfl ?_
  refine q_bi (v := 40) dX11_begin_3 rfl ?_
  refine q_cz_ge (tgt := 21) (a := 1) (b := 40) dX11_begin_5 (by decide) rfl rfl (fun h => absurd h (by decide)) (fun _ => ?_)
  refine q_aload_n dX11_begin_8 rfl ?_
  refine q_getR (c := 11) (n := 0) (k := 54) (a := 176) dX11_begin_9 rfl (by decide) (by decide) fX11_128 rfl rfl ?_
  refine q_iload_n dX11_begin_12 rfl ?_
  refine q_ic (v := 1) dX11_begin_13 rfl ?_
  refine q_iast (n := 40) (j := 1) dX11_begin_14 rfl rfl (by decide) ?_
  show q_K _ (q_z (q_up (q_up zI4 176 0 1) 176 1 1) zJ1 zR31 204) _ _ _ _ _ _
  refine q_inc (v := 1) dX11_begin_15 rfl (Nat.le_of_ble_eq_true rfl) rfl ?_
  refine q_goto (tgt := 2) dX11_begin_18 (by decide) ?_
  refine q_iload_n dX11_begin_2 rfl ?_
  refine q_bi (v := 40) dX11_begin_3 rfl ?_
  refine q_cz_ge (tgt := 21) (a := 2) (b := 40) dX11_begin_5 (by decide) rfl rfl (fun h => absurd h (by decide)) (fun _ => ?_)
  refine q_aload_n dX11_begin_8 rfl ?_
  refine q_getR (c := 11) (n := 0) (k := 54) (a := 176) dX11_begin_9 rfl (by decide) (by decide) fX11_128 rfl rfl ?_
  refine q_iload_n dX11_begin_12 rfl ?_
  refine q_ic (v := 1) dX11_begin_13 rfl ?_
  refine q_iast (n := 40) (j := 2) dX11_begin_14 rfl rfl (by decide) ?_
  show q_K _ (q_z (q_up (q_up (q_up zI4 176 0 1) 176 1 1) 176 2 1) zJ1 zR31 204) _ _ _ _ _ _
  refine q_inc (v := 1) dX11_begin_15 rfl (Nat.le_of_ble_eq_true rfl) rfl ?_
  refine q_goto (tgt := 2) dX11_begin_18 (by decide) ?_
  refine q_iload_n dX11_begin_2 rfl ?_
  refine q_bi (v := 40) dX11_begin_3 rfl ?_
  refine q_cz_ge (tgt := 21) (a := 3) (b := 40) dX11_begin_5 (by decide) rfl rfl (fun h => absurd h (by decide)) (fun _ => ?_)
  refine q_aload_n dX11_begin_8 rfl ?_
  refine q_getR (c := 11) (n := 0) (k := 54) (a := 176) dX11_begin_9 rfl (by decide) (by decide) fX11_128 rfl rfl ?_
  refine q_iload_n dX11_begin_12 rfl ?_
  refine q_ic (v := 1) dX11_begin_13 rfl ?_
  refine q_iast (n := 40) (j := 3) dX11_begin_14 rfl rfl (by decide) ?_
  show q_K _ (q_z (q_up (q_up (q_up (q_up zI4 176 0 1) 176 1 1) 176 2 1) 176 3 1) zJ1 zR31 204) _ _ _ _ _ _
  refine q_inc (v := 1) dX11_begin_15 rfl (Nat.le_of_ble_eq_true rfl) rfl ?_
  refine q_goto (tgt := 2) dX11_begin_18 (by decide) ?_
  refine q_iload_n dX11_begin_2 rfl ?_
  refine q_bi (v := 40) dX11_begin_3 rfl ?_
  refine q_cz_ge (tgt := 21) (a := 4) (b := 40) dX11_begin_5 (by decide) rfl rfl (fun h => absurd h (by decide)) (fun _ => ?_)
  refine q_aload_n dX11_begin_8 rfl ?_
  refine q_getR (c := 11) (n := 0) (k := 54) (a := 176) dX11_begin_9 rfl (by decide) (by decide) fX11_128 rfl rfl ?_
  refine q_iload_n dX11_begin_12 rfl ?_
  refine q_ic (v := 1) dX11_begin_13 rfl ?_
  refine q_iast (n := 40) (j := 4) dX11_begin_14 rfl rfl (by decide) ?_
  show q_K _ (q_z (q_up (q_up (q_up (q_up (q_up zI4 176 0 1) 176 1 1) 176 2 1) 176 3 1) 176 4 1) zJ1 zR31 204) _ _ _ _ _ _
  refine q_inc (v := 1) dX11_begin_15 rfl (Nat.le_of_ble_eq_true rfl) rfl ?_
  refine q_goto (tgt := 2) dX11_begin_18 (by decide) ?_
  refine q_iload_n dX11_begin_2 rfl ?_
  refine q_bi (v := 40) dX11_begin_3 rfl ?_
  refine q_cz_ge (tgt := 21) (a := 5) (b := 40) dX11_begin_5 (by decide) rfl rfl (fun h => absurd h (by decide)) (fun _ => ?_)
  refine q_aload_n dX11_begin_8 rfl ?_
  refine q_getR (c := 11) (n := 0) (k := 54) (a := 176) dX11_begin_9 rfl (by decide) (by decide) fX11_128 rfl rfl ?_
  refine q_iload_n dX11_begin_12 rfl ?_
  refine q_ic (v := 1) dX11_begin_13 rfl ?_
  refine q_iast (n := 40) (j := 5) dX11_begin_14 rfl rfl (by decide) ?_
  show q_K _ (q_z (q_up (q_up (q_up (q_up (q_up (q_up zI4 176 0 1) 176 1 1) 176 2 1) 176 3 1) 176 4 1) 176 5 1) zJ1 zR31 204) _ _ _ _ _ _
  refine q_inc (v := 1) dX11_begin_15 rfl (Nat.le_of_ble_eq_true rfl) rfl ?_
  refine q_goto (tgt := 2) dX11_begin_18 (by decide) ?_
  refine q_iload_n dX11_begin_2 rfl ?_
  refine q_bi (v := 40) dX11_begin_3 rfl ?_
  refine q_cz_ge (tgt := 21) (a := 6) (b := 40) dX11_begin_5 (by decide) rfl rfl (fun h => absurd h (by decide)) (fun _ => ?_)
  refine q_aload_n dX11_begin_8 rfl ?_
  refine q_getR (c := 11) (n := 0) (k := 54) (a := 176) dX11_begin_9 rfl (by decide) (by decide) fX11_128 rfl rfl ?_
  refine q_iload_n dX11_begin_12 rfl ?_
  refine q_ic (v := 1) dX11_begin_13 rfl ?_
  refine q_iast (n := 40) (j := 6) dX11_begin_14 rfl rfl (by decide) ?_
  show q_K _ (q_z (q_up (q_up (q_up (q_up (q_up (q_up (q_up zI4 176 0 1) 176 1 1) 176 2 1) 176 3 1) 176 4 1) 176 5 1) 176 6 1) zJ1 zR31 204) _ _ _ _ _ _
  refine q_inc (v := 1) dX11_begin_15 rfl (Nat.le_of_ble_eq_true rfl) rfl ?_
  refine q_goto (tgt := 2) dX11_begin_18 (by decide) ?_
  refine q_iload_n dX11_begin_2 rfl ?_
  refine q_bi (v := 40) dX11_begin_3 rfl ?_
  refine q_cz_ge (tgt := 21) (a := 7) (b := 40) dX11_begin_5 (by decide) rfl rfl (fun h => absurd h (by decide)) (fun _ => ?_)
  refine q_aload_n dX11_begin_8 rfl ?_
  refine q_getR (c := 11) (n := 0) (k := 54) (a := 176) dX11_begin_9 rfl (by decide) (by decide) fX11_128 rfl rfl ?_
  refine q_iload_n dX11_begin_12 rfl ?_
  refine q_ic (v := 1) dX11_begin_13 rfl ?_
  refine q_iast (n := 40) (j := 7) dX11_begin_14 rfl rfl (by decide) ?_
  show q_K _ (q_z (q_up (q_up (q_up (q_up (q_up (q_up (q_up (q_up zI4 176 0 1) 176 1 1) 176 2 1) 176 3 1) 176 4 1) 176 5 1) 176 6 1) 176 7 1) zJ1 zR31 204) _ _ _ _ _ _
  refine q_inc (v := 1) dX11_begin_15 rfl (Nat.le_of_ble_eq_true rfl) rfl ?_
  refine q_goto (tgt := 2) dX11_begin_18 (by decide) ?_
  refine q_iload_n dX11_begin_2 rfl ?_
  refine q_bi (v := 40) dX11_begin_3 rfl ?_
  refine q_cz_ge (tgt := 21) (a := 8) (b := 40) dX11_begin_5 (by decide) rfl rfl (fun h => absurd h (by decide)) (fun _ => ?_)
  refine q_aload_n dX11_begin_8 rfl ?_
  refine q_getR (c := 11) (n := 0) (k := 54) (a := 176) dX11_begin_9 rfl (by decide) (by decide) fX11_128 rfl rfl ?_
  refine q_iload_n dX11_begin_12 rfl ?_
  refine q_ic (v := 1) dX11_begin_13 rfl ?_
  refine q_iast (n := 40) (j := 8) dX11_begin_14 rfl rfl (by decide) ?_
  show q_K _ (q_z (q_up (q_up (q_up (q_up (q_up (q_up (q_up (q_up (q_up zI4 176 0 1) 176 1 1) 176 2 1) 176 3 1) 176 4 1) 176 5 1) 176 6 1) 176 7 1) 176 8 1) zJ1 zR31 204) _ _ _ _ _ _
  refine q_inc (v := 1) dX11_begin_15 rfl (Nat.le_of_ble_eq_true rfl) rfl ?_
  refine q_goto (tgt := 2) dX11_begin_18 (by decide) ?_
  refine q_iload_n dX11_begin_2 rfl ?_
  refine q_bi (v := 40) dX11_begin_3 rfl ?_
  refine q_cz_ge (tgt := 21) (a := 9) (b := 40) dX11_begin_5 (by decide) rfl rfl (fun h => absurd h (by decide)) (fun _ => ?_)
  refine q_aload_n dX11_begin_8 rfl ?_
  refine q_getR (c := 11) (n := 0) (k := 54) (a := 176) dX11_begin_9 rfl (by decide) (by decide) fX11_128 rfl rfl ?_
  refine q_iload_n dX11_begin_12 rfl ?_
  refine q_ic (v := 1) dX11_begin_13 rfl ?_
  refine q_iast (n := 40) (j := 9) dX11_begin_14 rfl rfl (by decide) ?_
  show q_K _ (q_z (q_up (q_up (q_up (q_up (q_up (q_up (q_up (q_up (q_up (q_up zI4 176 0 1) 176 1 1) 176 2 1) 176 3 1) 176 4 1) 176 5 1) 176 6 1) 176 7 1) 176 8 1) 176 9 1) zJ1 zR31 204) _ _ _ _ _ _
  refine q_inc (v := 1) dX11_begin_15 rfl (Nat.le_of_ble_eq_true rfl) rfl ?_
  refine q_goto (tgt := 2) dX11_begin_18 (by decide) ?_
  refine q_iload_n dX11_begin_2 rfl ?_
  refine q_bi (v := 40) dX11_begin_3 rfl ?_
  refine q_cz_ge (tgt := 21) (a := 10) (b := 40) dX11_begin_5 (by decide) rfl rfl (fun h => absurd h (by decide)) (fun _ => ?_)
  refine q_aload_n dX11_begin_8 rfl ?_
  refine q_getR (c := 11) (n := 0) (k := 54) (a := 176) dX11_begin_9 rfl (by decide) (by decide) fX11_128 rfl rfl ?_
  refine q_iload_n dX11_begin_12 rfl ?_
  refine q_ic (v := 1) dX11_begin_13 rfl ?_
  refine q_iast (n := 40) (j := 10) dX11_begin_14 rfl rfl (by decide) ?_
  show q_K _ (q_z (q_up (q_up (q_up (q_up (q_up (q_up (q_up (q_up (q_up (q_up (q_up zI4 176 0 1) 176 1 1) 176 2 1) 176 3 1) 176 4 1) 176 5 1) 176 6 1) 176 7 1) 176 8 1) 176 9 1) 176 10 1) zJ1 zR31 204) _ _ _ _ _ _
  refine q_inc (v := 1) dX11_begin_15 rfl (Nat.le_of_ble_eq_true rfl) rfl ?_
  refine q_goto (tgt := 2) dX11_begin_18 (by decide) ?_
  refine q_iload_n dX11_begin_2 rfl ?_
  refine q_bi (v := 40) dX11_begin_3 rfl ?_
  refine q_cz_ge (tgt := 21) (a := 11) (b := 40) dX11_begin_5 (by decide) rfl rfl (fun h => absurd h (by decide)) (fun _ => ?_)
  refine q_aload_n dX11_begin_8 rfl ?_
  refine q_getR (c := 11) (n := 0) (k := 54) (a := 176) dX11_begin_9 rfl (by decide) (by decide) fX11_128 rfl rfl ?_
  refine q_iload_n dX11_begin_12 rfl ?_
  refine q_ic (v := 1) dX11_begin_13 rfl ?_
  refine q_iast (n := 40) (j := 11) dX11_begin_14 rfl rfl (by decide) ?_
  show q_K _ (q_z (q_up (q_up (q_up (q_up (q_up (q_up (q_up (q_up (q_up (q_up (q_up (q_up zI4 176 0 1) 176 1 1) 176 2 1) 176 3 1) 176 4 1) 176 5 1) 176 6 1) 176 7 1) 176 8 1) 176 9 1) 176 10 1) 176 11 1) zJ1 zR31 204) _ _ _ _ _ _
  refine q_inc (v := 1) dX11_begin_15 rfl (Nat.le_of_ble_eq_true rfl) rfl ?_
  refine q_goto (tgt := 2) dX11_begin_18 (by decide) ?_
  refine q_iload_n dX11_begin_2 rfl ?_
  refine q_bi (v := 40) dX11_begin_3 rfl ?_
  refine q_cz_ge (tgt := 21) (a := 12) (b := 40) dX11_begin_5 (by decide) rfl rfl (fun h => absurd h (by decide)) (fun _ => ?_)
  refine q_aload_n dX11_begin_8 rfl ?_
  refine q_getR (c := 11) (n := 0) (k := 54) (a := 176) dX11_begin_9 rfl (by decide) (by decide) fX11_128 rfl rfl ?_
  refine q_iload_n dX11_begin_12 rfl ?_
  refine q_ic (v := 1) dX11_begin_13 rfl ?_
  refine q_iast (n := 40) (j := 12) dX11_begin_14 rfl rfl (by decide) ?_
  show q_K _ (q_z (q_up (q_up (q_up (q_up (q_up (q_up (q_up (q_up (q_up (q_up (q_up (q_up (q_up zI4 176 0 1) 176 1 1) 176 2 1) 176 3 1) 176 4 1) 176 5 1) 176 6 1) 176 7 1) 176 8 1) 176 9 1) 176 10 1) 176 11 1) 176 12 1) zJ1 zR31 204) _ _ _ _ _ _
  refine q_inc (v := 1) dX11_begin_15 rfl (Nat.le_of_ble_eq_true rfl) rfl ?_
  refine q_goto (tgt := 2) dX11_begin_18 (by decide) ?_
  refine q_iload_n dX11_begin_2 rfl ?_
  refine q_bi (v := 40) dX11_begin_3 rfl ?_
  refine q_cz_ge (tgt := 21) (a := 13) (b := 40) dX11_begin_5 (by decide) rfl rfl (fun h => absurd h (by decide)) (fun _ => ?_)
  refine q_aload_n dX11_begin_8 rfl ?_
  refine q_getR (c := 11) (n := 0) (k := 54) (a := 176) dX11_begin_9 rfl (by decide) (by decide) fX11_128 rfl rfl ?_
  refine q_iload_n dX11_begin_12 rfl ?_
  refine q_ic (v := 1) dX11_begin_13 rfl ?_
  refine q_iast (n := 40) (j := 13) dX11_begin_14 rfl rfl (by decide) ?_
  show q_K _ (q_z (q_up (q_up (q_up (q_up (q_up (q_up (q_up (q_up (q_up (q_up (q_up (q_up (q_up (q_up zI4 176 0 1) 176 1 1) 176 2 1) 176 3 1) 176 4 1) 176 5 1) 176 6 1) 176 7 1) 176 8 1) 176 9 1) 176 10 1) 176 11 1) 176 12 1) 176 13 1) zJ1 zR31 204) _ _ _ _ _ _
  refine q_inc (v := 1) dX11_begin_15 rfl (Nat.le_of_ble_eq_true rfl) rfl ?_
  refine q_goto (tgt := 2) dX11_begin_18 (by decide) ?_
  refine q_iload_n dX11_begin_2 rfl ?_
  refine q_bi (v := 40) dX11_begin_3 rfl ?_
  refine q_cz_ge (tgt := 21) (a := 14) (b := 40) dX11_begin_5 (by decide) rfl rfl (fun h => absurd h (by decide)) (fun _ => ?_)
  refine q_aload_n dX11_begin_8 rfl ?_
  refine q_getR (c := 11) (n := 0) (k := 54) (a := 176) dX11_begin_9 rfl (by decide) (by decide) fX11_128 rfl rfl ?_
  refine q_iload_n dX11_begin_12 rfl ?_
  refine q_ic (v := 1) dX11_begin_13 rfl ?_
  refine q_iast (n := 40) (j := 14) dX11_begin_14 rfl rfl (by decide) ?_
  show q_K _ (q_z (q_up (q_up (q_up (q_up (q_up (q_up (q_up (q_up (q_up (q_up (q_up (q_up (q_up (q_up (q_up zI4 176 0 1) 176 1 1) 176 2 1) 176 3 1) 176 4 1) 176 5 1) 176 6 1) 176 7 1) 176 8 1) 176 9 1) 176 10 1) 176 11 1) 176 12 1) 176 13 1) 176 14 1) zJ1 zR31 204) _ _ _ _ _ _
  refine q_inc (v := 1) dX11_begin_15 rfl (Nat.le_of_ble_eq_true rfl) rfl ?_
  refine q_goto (tgt := 2) dX11_begin_18 (by decide) ?_
  refine q_iload_n dX11_begin_2 rfl ?_
  refine q_bi (v := 40) dX11_begin_3 rfl ?_
  refine q_cz_ge (tgt := 21) (a := 15) (b := 40) dX11_begin_5 (by decide) rfl rfl (fun h => absurd h (by decide)) (fun _ => ?_)
  refine q_aload_n dX11_begin_8 rfl ?_
  refine q_getR (c := 11) (n := 0) (k := 54) (a := 176) dX11_begin_9 rfl (by decide) (by decide) fX11_128 rfl rfl ?_
  refine q_iload_n dX11_begin_12 rfl ?_
  refine q_ic (v := 1) dX11_begin_13 rfl ?_
  refine q_iast (n := 40) (j := 15) dX11_begin_14 rfl rfl (by decide) ?_
  show q_K _ (q_z (q_up (q_up (q_up (q_up (q_up (q_up (q_up (q_up (q_up (q_up (q_up (q_up (q_up (q_up (q_up (q_up zI4 176 0 1) 176 1 1) 176 2 1) 176 3 1) 176 4 1) 176 5 1) 176 6 1) 176 7 1) 176 8 1) 176 9 1) 176 10 1) 176 11 1) 176 12 1) 176 13 1) 176 14 1) 176 15 1) zJ1 zR31 204) _ _ _ _ _ _
  refine q_inc (v := 1) dX11_begin_15 rfl (Nat.le_of_ble_eq_true rfl) rfl ?_
  refine q_goto (tgt := 2) dX11_begin_18 (by decide) ?_
  refine q_iload_n dX11_begin_2 rfl ?_
  refine q_bi (v := 40) dX11_begin_3 rfl ?_
  refine q_cz_ge (tgt := 21) (a := 16) (b := 40) dX11_begin_5 (by decide) rfl rfl (fun h => absurd h (by decide)) (fun _ => ?_)
  refine q_aload_n dX11_begin_8 rfl ?_
  refine q_getR (c := 11) (n := 0) (k := 54) (a := 176) dX11_begin_9 rfl (by decide) (by decide) fX11_128 rfl rfl ?_
  refine q_iload_n dX11_begin_12 rfl ?_
  refine q_ic (v := 1) dX11_begin_13 rfl ?_
  refine q_iast (n := 40) (j := 16) dX11_begin_14 rfl rfl (by decide) ?_
  show q_K _ (q_z (q_up (q_up (q_up (q_up (q_up (q_up (q_up (q_up (q_up (q_up (q_up (q_up (q_up (q_up (q_up (q_up (q_up zI4 176 0 1) 176 1 1) 176 2 1) 176 3 1) 176 4 1) 176 5 1) 176 6 1) 176 7 1) 176 8 1) 176 9 1) 176 10 1) 176 11 1) 176 12 1) 176 13 1) 176 14 1) 176 15 1) 176 16 1) zJ1 zR31 204) _ _ _ _ _ _
  refine q_inc (v := 1) dX11_begin_15 rfl (Nat.le_of_ble_eq_true rfl) rfl ?_
  refine q_goto (tgt := 2) dX11_begin_18 (by decide) ?_
  refine q_iload_n dX11_begin_2 rfl ?_
  refine q_bi (v := 40) dX11_begin_3 rfl ?_
  refine q_cz_ge (tgt := 21) (a := 17) (b := 40) dX11_begin_5 (by decide) rfl rfl (fun h => absurd h (by decide)) (fun _ => ?_)
  refine q_aload_n dX11_begin_8 rfl ?_
  refine q_getR (c := 11) (n := 0) (k := 54) (a := 176) dX11_begin_9 rfl (by decide) (by decide) fX11_128 rfl rfl ?_
  refine q_iload_n dX11_begin_12 rfl ?_
  refine q_ic (v := 1) dX11_begin_13 rfl ?_
  refine q_iast (n := 40) (j := 17) dX11_begin_14 rfl rfl (by decide) ?_
  show q_K _ (q_z (q_up (q_up (q_up (q_up (q_up (q_up (q_up (q_up (q_up (q_up (q_up (q_up (q_up (q_up (q_up (q_up (q_up (q_up zI4 176 0 1) 176 1 1) 176 2 1) 176 3 1) 176 4 1) 176 5 1) 176 6 1) 176 7 1) 176 8 1) 176 9 1) 176 10 1) 176 11 1) 176 12 1) 176 13 1) 176 14 1) 176 15 1) 176 16 1) 176 17 1) zJ1 zR31 204) _ _ _ _ _ _
  refine q_inc (v := 1) dX11_begin_15 rfl (Nat.le_of_ble_eq_true rfl) rfl ?_
  refine q_goto (tgt := 2) dX11_begin_18 (by decide) ?_
  refine q_iload_n dX11_begin_2 rfl ?_
  refine q_bi (v := 40) dX11_begin_3 rfl ?_
  refine q_cz_ge (tgt := 21) (a := 18) (b := 40) dX11_begin_5 (by decide) rfl rfl (fun h => absurd h (by decide)) (fun _ => ?_)
  refine q_aload_n dX11_begin_8 rfl ?_
  refine q_getR (c := 11) (n := 0) (k := 54) (a := 176) dX11_begin_9 rfl (by decide) (by decide) fX11_128 rfl rfl ?_
  refine q_iload_n dX11_begin_12 rfl ?_
  refine q_ic (v := 1) dX11_begin_13 rfl ?_
  refine q_iast (n := 40) (j := 18) dX11_begin_14 rfl rfl (by decide) ?_
  show q_K _ (q_z (q_up (q_up (q_up (q_up (q_up (q_up (q_up (q_up (q_up (q_up (q_up (q_up (q_up (q_up (q_up (q_up (q_up (q_up (q_up zI4 176 0 1) 176 1 1) 176 2 1) 176 3 1) 176 4 1) 176 5 1) 176 6 1) 176 7 1) 176 8 1) 176 9 1) 176 10 1) 176 11 1) 176 12 1) 176 13 1) 176 14 1) 176 15 1) 176 16 1) 176 17 1) 176 18 1) zJ1 zR31 204) _ _ _ _ _ _
  refine q_inc (v := 1) dX11_begin_15 rfl (Nat.le_of_ble_eq_true rfl) rfl ?_
  refine q_goto (tgt := 2) dX11_begin_18 (by decide) ?_
  refine q_iload_n dX11_begin_2 rfl ?_
  refine q_bi (v := 40) dX11_begin_3 rfl ?_
  refine q_cz_ge (tgt := 21) (a := 19) (b := 40) dX11_begin_5 (by decide) rfl rfl (fun h => absurd h (by decide)) (fun _ => ?_)
  refine q_aload_n dX11_begin_8 rfl ?_
  refine q_getR (c := 11) (n := 0) (k := 54) (a := 176) dX11_begin_9 rfl (by decide) (by decide) fX11_128 rfl rfl ?_
  refine q_iload_n dX11_begin_12 rfl ?_
  refine q_ic (v := 1) dX11_begin_13 rfl ?_
  refine q_iast (n := 40) (j := 19) dX11_begin_14 rfl rfl (by decide) ?_
  show q_K _ (q_z (q_up (q_up (q_up (q_up (q_up (q_up (q_up (q_up (q_up (q_up (q_up (q_up (q_up (q_up (q_up (q_up (q_up (q_up (q_up (q_up zI4 176 0 1) 176 1 1) 176 2 1) 176 3 1) 176 4 1) 176 5 1) 176 6 1) 176 7 1) 176 8 1) 176 9 1) 176 10 1) 176 11 1) 176 12 1) 176 13 1) 176 14 1) 176 15 1) 176 16 1) 176 17 1) 176 18 1) 176 19 1) zJ1 zR31 204) _ _ _ _ _ _
  refine q_inc (v := 1) dX11_begin_15 rfl (Nat.le_of_ble_eq_true rfl) rfl ?_
  refine q_goto (tgt := 2) dX11_begin_18 (by decide) ?_
  refine q_iload_n dX11_begin_2 rfl ?_
  refine q_bi (v := 40) dX11_begin_3 rfl ?_
  refine q_cz_ge (tgt := 21) (a := 20) (b := 40) dX11_begin_5 (by decide) rfl rfl (fun h => absurd h (by decide)) (fun _ => ?_)
  refine q_aload_n dX11_begin_8 rfl ?_
  refine q_getR (c := 11) (n := 0) (k := 54) (a := 176) dX11_begin_9 rfl (by decide) (by decide) fX11_128 rfl rfl ?_
  refine q_iload_n dX11_begin_12 rfl ?_
  refine q_ic (v := 1) dX11_begin_13 rfl ?_
  refine q_iast (n := 40) (j := 20) dX11_begin_14 rfl rfl (by decide) ?_
  show q_K _ (q_z (q_up (q_up (q_up (q_up (q_up (q_up (q_up (q_up (q_up (q_up (q_up (q_up (q_up (q_up (q_up (q_up (q_up (q_up (q_up (q_up (q_up zI4 176 0 1) 176 1 1) 176 2 1) 176 3 1) 176 4 1) 176 5 1) 176 6 1) 176 7 1) 176 8 1) 176 9 1) 176 10 1) 176 11 1) 176 12 1) 176 13 1) 176 14 1) 176 15 1) 176 16 1) 176 17 1) 176 18 1) 176 19 1) 176 20 1) zJ1 zR31 204) _ _ _ _ _ _
  refine q_inc (v := 1) dX11_begin_15 rfl (Nat.le_of_ble_eq_true rfl) rfl ?_
  refine q_goto (tgt := 2) dX11_begin_18 (by decide) ?_
  refine q_iload_n dX11_begin_2 rfl ?_
  refine q_bi (v := 40) dX11_begin_3 rfl ?_
  refine q_cz_ge (tgt := 21) (a := 21) (b := 40) dX11_begin_5 (by decide) rfl rfl (fun h => absurd h (by decide)) (fun _ => ?_)
  refine q_aload_n dX11_begin_8 rfl ?_
  refine q_getR (c := 11) (n := 0) (k := 54) (a := 176) dX11_begin_9 rfl (by decide) (by decide) fX11_128 rfl rfl ?_
  refine q_iload_n dX11_begin_12 rfl ?_
  refine q_ic (v := 1) dX11_begin_13 rfl ?_
  refine q_iast (n := 40) (j := 21) dX11_begin_14 rfl rfl (by decide) ?_
  show q_K _ (q_z (q_up (q_up (q_up (q_up (q_up (q_up (q_up (q_up (q_up (q_up (q_up (q_up (q_up (q_up (q_up (q_up (q_up (q_up (q_up (q_up (q_up (q_up zI4 176 0 1) 176 1 1) 176 2 1) 176 3 1) 176 4 1) 176 5 1) 176 6 1) 176 7 1) 176 8 1) 176 9 1) 176 10 1) 176 11 1) 176 12 1) 176 13 1) 176 14 1) 176 15 1) 176 16 1) 176 17 1) 176 18 1) 176 19 1) 176 20 1) 176 21 1) zJ1 zR31 204) _ _ _ _ _ _
  refine q_inc (v := 1) dX11_begin_15 rfl (Nat.le_of_ble_eq_true rfl) rfl ?_
  refine q_goto (tgt := 2) dX11_begin_18 (by decide) ?_
  refine q_iload_n dX11_begin_2 rfl ?_
  refine q_bi (v := 40) dX11_begin_3 rfl ?_
  refine q_cz_ge (tgt := 21) (a := 22) (b := 40) dX11_begin_5 (by decide) rfl rfl (fun h => absurd h (by decide)) (fun _ => ?_)
  refine q_aload_n dX11_begin_8 rfl ?_
  refine q_getR (c := 11) (n := 0) (k := 54) (a := 176) dX11_begin_9 rfl (by decide) (by decide) fX11_128 rfl rfl ?_
  refine q_iload_n dX11_begin_12 rfl ?_
  refine q_ic (v := 1) dX11_begin_13 rfl ?_
  refine q_iast (n := 40) (j := 22) dX11_begin_14 rfl rfl (by decide) ?_
  show q_K _ (q_z (q_up (q_up (q_up (q_up (q_up (q_up (q_up (q_up (q_up (q_up (q_up (q_up (q_up (q_up (q_up (q_up (q_up (q_up (q_up (q_up (q_up (q_up (q_up zI4 176 0 1) 176 1 1) 176 2 1) 176 3 1) 176 4 1) 176 5 1) 176 6 1) 176 7 1) 176 8 1) 176 9 1) 176 10 1) 176 11 1) 176 12 1) 176 13 1) 176 14 1) 176 15 1) 176 16 1) 176 17 1) 176 18 1) 176 19 1) 176 20 1) 176 21 1) 176 22 1) zJ1 zR31 204) _ _ _ _ _ _
  refine q_inc (v := 1) dX11_begin_15 rfl (Nat.le_of_ble_eq_true rfl) rfl ?_
  refine q_goto (tgt := 2) dX11_begin_18 (by decide) ?_
  refine q_iload_n dX11_begin_2 rfl ?_
  refine q_bi (v := 40) dX11_begin_3 rfl ?_
  refine q_cz_ge (tgt := 21) (a := 23) (b := 40) dX11_begin_5 (by decide) rfl rfl (fun h => absurd h (by decide)) (fun _ => ?_)
  refine q_aload_n dX11_begin_8 rfl ?_
  refine q_getR (c := 11) (n := 0) (k := 54) (a := 176) dX11_begin_9 rfl (by decide) (by decide) fX11_128 rfl rfl ?_
  refine q_iload_n dX11_begin_12 rfl ?_
  refine q_ic (v := 1) dX11_begin_13 rfl ?_
  refine q_iast (n := 40) (j := 23) dX11_begin_14 rfl rfl (by decide) ?_
  show q_K _ (q_z (q_up (q_up (q_up (q_up (q_up (q_up (q_up (q_up (q_up (q_up (q_up (q_up (q_up (q_up (q_up (q_up (q_up (q_up (q_up (q_up (q_up (q_up (q_up (q_up zI4 176 0 1) 176 1 1) 176 2 1) 176 3 1) 176 4 1) 176 5 1) 176 6 1) 176 7 1) 176 8 1) 176 9 1) 176 10 1) 176 11 1) 176 12 1) 176 13 1) 176 14 1) 176 15 1) 176 16 1) 176 17 1) 176 18 1) 176 19 1) 176 20 1) 176 21 1) 176 22 1) 176 23 1) zJ1 zR31 204) _ _ _ _ _ _
  refine q_inc (v := 1) dX11_begin_15 rfl (Nat.le_of_ble_eq_true rfl) rfl ?_
  refine q_goto (tgt := 2) dX11_begin_18 (by decide) ?_
  refine q_iload_n dX11_begin_2 rfl ?_
  refine q_bi (v := 40) dX11_begin_3 rfl ?_
  refine q_cz_ge (tgt := 21) (a := 24) (b := 40) dX11_begin_5 (by decide) rfl rfl (fun h => absurd h (by decide)) (fun _ => ?_)
  refine q_aload_n dX11_begin_8 rfl ?_
  refine q_getR (c := 11) (n := 0) (k := 54) (a := 176) dX11_begin_9 rfl (by decide) (by decide) fX11_128 rfl rfl ?_
  refine q_iload_n dX11_begin_12 rfl ?_
  refine q_ic (v := 1) dX11_begin_13 rfl ?_
  refine q_iast (n := 40) (j := 24) dX11_begin_14 rfl rfl (by decide) ?_
  show q_K _ (q_z (q_up (q_up (q_up (q_up (q_up (q_up (q_up (q_up (q_up (q_up (q_up (q_up (q_up (q_up (q_up (q_up (q_up (q_up (q_up (q_up (q_up (q_up (q_up (q_up (q_up zI4 176 0 1) 176 1 1) 176 2 1) 176 3 1) 176 4 1) 176 5 1) 176 6 1) 176 7 1) 176 8 1) 176 9 1) 176 10 1) 176 11 1) 176 12 1) 176 13 1) 176 14 1) 176 15 1) 176 16 1) 176 17 1) 176 18 1) 176 19 1) 176 20 1) 176 21 1) 176 22 1) 176 23 1) 176 24 1) zJ1 zR31 204) _ _ _ _ _ _
  refine q_inc (v := 1) dX11_begin_15 rfl (Nat.le_of_ble_eq_true rfl) rfl ?_
  refine q_goto (tgt := 2) dX11_begin_18 (by decide) ?_
  refine q_iload_n dX11_begin_2 rfl ?_
  refine q_bi (v := 40) dX11_begin_3 rfl ?_
  refine q_cz_ge (tgt := 21) (a := 25) (b := 40) dX11_begin_5 (by decide) rfl rfl (fun h => absurd h (by decide)) (fun _ => ?_)
  refine q_aload_n dX11_begin_8 rfl ?_
  refine q_getR (c := 11) (n := 0) (k := 54) (a := 176) dX11_begin_9 rfl (by decide) (by decide) fX11_128 rfl rfl ?_
  refine q_iload_n dX11_begin_12 rfl ?_
  refine q_ic (v := 1) dX11_begin_13 rfl ?_
  refine q_iast (n := 40) (j := 25) dX11_begin_14 rfl rfl (by decide) ?_
  show q_K _ (q_z (q_up (q_up (q_up (q_up (q_up (q_up (q_up (q_up (q_up (q_up (q_up (q_up (q_up (q_up (q_up (q_up (q_up (q_up (q_up (q_up (q_up (q_up (q_up (q_up (q_up (q_up zI4 176 0 1) 176 1 1) 176 2 1) 176 3 1) 176 4 1) 176 5 1) 176 6 1) 176 7 1) 176 8 1) 176 9 1) 176 10 1) 176 11 1) 176 12 1) 176 13 1) 176 14 1) 176 15 1) 176 16 1) 176 17 1) 176 18 1) 176 19 1) 176 20 1) 176 21 1) 176 22 1) 176 23 1) 176 24 1) 176 25 1) zJ1 zR31 204) _ _ _ _ _ _
  refine q_inc (v := 1) dX11_begin_15 rfl (Nat.le_of_ble_eq_true rfl) rfl ?_
  refine q_goto (tgt := 2) dX11_begin_18 (by decide) ?_
  refine q_iload_n dX11_begin_2 rfl ?_
  refine q_bi (v := 40) dX11_begin_3 rfl ?_
  refine q_cz_ge (tgt := 21) (a := 26) (b := 40) dX11_begin_5 (by decide) rfl rfl (fun h => absurd h (by decide)) (fun _ => ?_)
  refine q_aload_n dX11_begin_8 rfl ?_
  refine q_getR (c := 11) (n := 0) (k := 54) (a := 176) dX11_begin_9 rfl (by decide) (by decide) fX11_128 rfl rfl ?_
  refine q_iload_n dX11_begin_12 rfl ?_
  refine q_ic (v := 1) dX11_begin_13 rfl ?_
  refine q_iast (n := 40) (j := 26) dX11_begin_14 rfl rfl (by decide) ?_
  show q_K _ (q_z (q_up (q_up (q_up (q_up (q_up (q_up (q_up (q_up (q_up (q_up (q_up (q_up (q_up (q_up (q_up (q_up (q_up (q_up (q_up (q_up (q_up (q_up (q_up (q_up (q_up (q_up (q_up zI4 176 0 1) 176 1 1) 176 2 1) 176 3 1) 176 4 1) 176 5 1) 176 6 1) 176 7 1) 176 8 1) 176 9 1) 176 10 1) 176 11 1) 176 12 1) 176 13 1) 176 14 1) 176 15 1) 176 16 1) 176 17 1) 176 18 1) 176 19 1) 176 20 1) 176 21 1) 176 22 1) 176 23 1) 176 24 1) 176 25 1) 176 26 1) zJ1 zR31 204) _ _ _ _ _ _
  refine q_inc (v := 1) dX11_begin_15 rfl (Nat.le_of_ble_eq_true rfl) rfl ?_
  refine q_goto (tgt := 2) dX11_begin_18 (by decide) ?_
  refine q_iload_n dX11_begin_2 rfl ?_
  refine q_bi (v := 40) dX11_begin_3 rfl ?_
  refine q_cz_ge (tgt := 21) (a := 27) (b := 40) dX11_begin_5 (by decide) rfl rfl (fun h => absurd h (by decide)) (fun _ => ?_)
  refine q_aload_n dX11_begin_8 rfl ?_
  refine q_getR (c := 11) (n := 0) (k := 54) (a := 176) dX11_begin_9 rfl (by decide) (by decide) fX11_128 rfl rfl ?_
  refine q_iload_n dX11_begin_12 rfl ?_
  refine q_ic (v := 1) dX11_begin_13 rfl ?_
  refine q_iast (n := 40) (j := 27) dX11_begin_14 rfl rfl (by decide) ?_
  show q_K _ (q_z (q_up (q_up (q_up (q_up (q_up (q_up (q_up (q_up (q_up (q_up (q_up (q_up (q_up (q_up (q_up (q_up (q_up (q_up (q_up (q_up (q_up (q_up (q_up (q_up (q_up (q_up (q_up (q_up zI4 176 0 1) 176 1 1) 176 2 1) 176 3 1) 176 4 1) 176 5 1) 176 6 1) 176 7 1) 176 8 1) 176 9 1) 176 10 1) 176 11 1) 176 12 1) 176 13 1) 176 14 1) 176 15 1) 176 16 1) 176 17 1) 176 18 1) 176 19 1) 176 20 1) 176 21 1) 176 22 1) 176 23 1) 176 24 1) 176 25 1) 176 26 1) 176 27 1) zJ1 zR31 204) _ _ _ _ _ _
  refine q_inc (v := 1) dX11_begin_15 rfl (Nat.le_of_ble_eq_true rfl) rfl ?_
  refine q_goto (tgt := 2) dX11_begin_18 (by decide) ?_
  refine q_iload_n dX11_begin_2 rfl ?_
  refine q_bi (v := 40) dX11_begin_3 rfl ?_
  refine q_cz_ge (tgt := 21) (a := 28) (b := 40) dX11_begin_5 (by decide) rfl rfl (fun h => absurd h (by decide)) (fun _ => ?_)
  refine q_aload_n dX11_begin_8 rfl ?_
  refine q_getR (c := 11) (n := 0) (k := 54) (a := 176) dX11_begin_9 rfl (by decide) (by decide) fX11_128 rfl rfl ?_
  refine q_iload_n dX11_begin_12 rfl ?_
  refine q_ic (v := 1) dX11_begin_13 rfl ?_
  refine q_iast (n := 40) (j := 28) dX11_begin_14 rfl rfl (by decide) ?_
  show q_K _ (q_z (q_up (q_up (q_up (q_up (q_up (q_up (q_up (q_up (q_up (q_up (q_up (q_up (q_up (q_up (q_up (q_up (q_up (q_up (q_up (q_up (q_up (q_up (q_up (q_up (q_up (q_up (q_up (q_up (q_up zI4 176 0 1) 176 1 1) 176 2 1) 176 3 1) 176 4 1) 176 5 1) 176 6 1) 176 7 1) 176 8 1) 176 9 1) 176 10 1) 176 11 1) 176 12 1) 176 13 1) 176 14 1) 176 15 1) 176 16 1) 176 17 1) 176 18 1) 176 19 1) 176 20 1) 176 21 1) 176 22 1) 176 23 1) 176 24 1) 176 25 1) 176 26 1) 176 27 1) 176 28 1) zJ1 zR31 204) _ _ _ _ _ _
  refine q_inc (v := 1) dX11_begin_15 rfl (Nat.le_of_ble_eq_true rfl) rfl ?_
  refine q_goto (tgt := 2) dX11_begin_18 (by decide) ?_
  refine q_iload_n dX11_begin_2 rfl ?_
  refine q_bi (v := 40) dX11_begin_3 rfl ?_
  refine q_cz_ge (tgt := 21) (a := 29) (b := 40) dX11_begin_5 (by decide) rfl rfl (fun h => absurd h (by decide)) (fun _ => ?_)
  refine q_aload_n dX11_begin_8 rfl ?_
  refine q_getR (c := 11) (n := 0) (k := 54) (a := 176) dX11_begin_9 rfl (by decide) (by decide) fX11_128 rfl rfl ?_
  refine q_iload_n dX11_begin_12 rfl ?_
  refine q_ic (v := 1) dX11_begin_13 rfl ?_
  refine q_iast (n := 40) (j := 29) dX11_begin_14 rfl rfl (by decide) ?_
  show q_K _ (q_z (q_up (q_up (q_up (q_up (q_up (q_up (q_up (q_up (q_up (q_up (q_up (q_up (q_up (q_up (q_up (q_up (q_up (q_up (q_up (q_up (q_up (q_up (q_up (q_up (q_up (q_up (q_up (q_up (q_up (q_up zI4 176 0 1) 176 1 1) 176 2 1) 176 3 1) 176 4 1) 176 5 1) 176 6 1) 176 7 1) 176 8 1) 176 9 1) 176 10 1) 176 11 1) 176 12 1) 176 13 1) 176 14 1) 176 15 1) 176 16 1) 176 17 1) 176 18 1) 176 19 1) 176 20 1) 176 21 1) 176 22 1) 176 23 1) 176 24 1) 176 25 1) 176 26 1) 176 27 1) 176 28 1) 176 29 1) zJ1 zR31 204) _ _ _ _ _ _
  refine q_inc (v := 1) dX11_begin_15 rfl (Nat.le_of_ble_eq_true rfl) rfl ?_
  refine q_goto (tgt := 2) dX11_begin_18 (by decide) ?_
  refine q_iload_n dX11_begin_2 rfl ?_
  refine q_bi (v := 40) dX11_begin_3 rfl ?_
  refine q_cz_ge (tgt := 21) (a := 30) (b := 40) dX11_begin_5 (by decide) rfl rfl (fun h => absurd h (by decide)) (fun _ => ?_)
  refine q_aload_n dX11_begin_8 rfl ?_
  refine q_getR (c := 11) (n := 0) (k := 54) (a := 176) dX11_begin_9 rfl (by decide) (by decide) fX11_128 rfl rfl ?_
  refine q_iload_n dX11_begin_12 rfl ?_
  refine q_ic (v := 1) dX11_begin_13 rfl ?_
  refine q_iast (n := 40) (j := 30) dX11_begin_14 rfl rfl (by decide) ?_
  show q_K _ (q_z (q_up (q_up (q_up (q_up (q_up (q_up (q_up (q_up (q_up (q_up (q_up (q_up (q_up (q_up (q_up (q_up (q_up (q_up (q_up (q_up (q_up (q_up (q_up (q_up (q_up (q_up (q_up (q_up (q_up (q_up (q_up zI4 176 0 1) 176 1 1) 176 2 1) 176 3 1) 176 4 1) 176 5 1) 176 6 1) 176 7 1) 176 8 1) 176 9 1) 176 10 1) 176 11 1) 176 12 1) 176 13 1) 176 14 1) 176 15 1) 176 16 1) 176 17 1) 176 18 1) 176 19 1) 176 20 1) 176 21 1) 176 22 1) 176 23 1) 176 24 1) 176 25 1) 176 26 1) 176 27 1) 176 28 1) 176 29 1) 176 30 1) zJ1 zR31 204) _ _ _ _ _ _
  refine q_inc (v := 1) dX11_begin_15 rfl (Nat.le_of_ble_eq_true rfl) rfl ?_
  refine q_goto (tgt := 2) dX11_begin_18 (by decide) ?_
  refine q_iload_n dX11_begin_2 rfl ?_
  refine q_bi (v := 40) dX11_begin_3 rfl ?_
  refine q_cz_ge (tgt := 21) (a := 31) (b := 40) dX11_begin_5 (by decide) rfl rfl (fun h => absurd h (by decide)) (fun _ => ?_)
  refine q_aload_n dX11_begin_8 rfl ?_
  refine q_getR (c := 11) (n := 0) (k := 54) (a := 176) dX11_begin_9 rfl (by decide) (by decide) fX11_128 rfl rfl ?_
  refine q_iload_n dX11_begin_12 rfl ?_
  refine q_ic (v := 1) dX11_begin_13 rfl ?_
  refine q_iast (n := 40) (j := 31) dX11_begin_14 rfl rfl (by decide) ?_
  show q_K _ (q_z (q_up (q_up (q_up (q_up (q_up (q_up (q_up (q_up (q_up (q_up (q_up (q_up (q_up (q_up (q_up (q_up (q_up (q_up (q_up (q_up (q_up (q_up (q_up (q_up (q_up (q_up (q_up (q_up (q_up (q_up (q_up (q_up zI4 176 0 1) 176 1 1) 176 2 1) 176 3 1) 176 4 1) 176 5 1) 176 6 1) 176 7 1) 176 8 1) 176 9 1) 176 10 1) 176 11 1) 176 12 1) 176 13 1) 176 14 1) 176 15 1) 176 16 1) 176 17 1) 176 18 1) 176 19 1) 176 20 1) 176 21 1) 176 22 1) 176 23 1) 176 24 1) 176 25 1) 176 26 1) 176 27 1) 176 28 1) 176 29 1) 176 30 1) 176 31 1) zJ1 zR31 204) _ _ _ _ _ _
  refine q_inc (v := 1) dX11_begin_15 rfl (Nat.le_of_ble_eq_true rfl) rfl ?_
  refine q_goto (tgt := 2) dX11_begin_18 (by decide) ?_
  refine q_iload_n dX11_begin_2 rfl ?_
  refine q_bi (v := 40) dX11_begin_3 rfl ?_
  refine q_cz_ge (tgt := 21) (a := 32) (b := 40) dX11_begin_5 (by decide) rfl rfl (fun h => absurd h (by decide)) (fun _ => ?_)
  refine q_aload_n dX11_begin_8 rfl ?_
  refine q_getR (c := 11) (n := 0) (k := 54) (a := 176) dX11_begin_9 rfl (by decide) (by decide) fX11_128 rfl rfl ?_
  refine q_iload_n dX11_begin_12 rfl ?_
  refine q_ic (v := 1) dX11_begin_13 rfl ?_
  refine q_iast (n := 40) (j := 32) dX11_begin_14 rfl rfl (by decide) ?_
  show q_K _ (q_z (q_up (q_up (q_up (q_up (q_up (q_up (q_up (q_up (q_up (q_up (q_up (q_up (q_up (q_up (q_up (q_up (q_up (q_up (q_up (q_up (q_up (q_up (q_up (q_up (q_up (q_up (q_up (q_up (q_up (q_up (q_up (q_up (q_up zI4 176 0 1) 176 1 1) 176 2 1) 176 3 1) 176 4 1) 176 5 1) 176 6 1) 176 7 1) 176 8 1) 176 9 1) 176 10 1) 176 11 1) 176 12 1) 176 13 1) 176 14 1) 176 15 1) 176 16 1) 176 17 1) 176 18 1) 176 19 1) 176 20 1) 176 21 1) 176 22 1) 176 23 1) 176 24 1) 176 25 1) 176 26 1) 176 27 1) 176 28 1) 176 29 1) 176 30 1) 176 31 1) 176 32 1) zJ1 zR31 204) _ _ _ _ _ _
  refine q_inc (v := 1) dX11_begin_15 rfl (Nat.le_of_ble_eq_true rfl) rfl ?_
  refine q_goto (tgt := 2) dX11_begin_18 (by decide) ?_
  refine q_iload_n dX11_begin_2 rfl ?_
  refine q_bi (v := 40) dX11_begin_3 rfl ?_
  refine q_cz_ge (tgt := 21) (a := 33) (b := 40) dX11_begin_5 (by decide) rfl rfl (fun h => absurd h (by decide)) (fun _ => ?_)
  refine q_aload_n dX11_begin_8 rfl ?_
  refine q_getR (c := 11) (n := 0) (k := 54) (a := 176) dX11_begin_9 rfl (by decide) (by decide) fX11_128 rfl rfl ?_
  refine q_iload_n dX11_begin_12 rfl ?_
  refine q_ic (v := 1) dX11_begin_13 rfl ?_
  refine q_iast (n := 40) (j := 33) dX11_begin_14 rfl rfl (by decide) ?_
  show q_K _ (q_z (q_up (q_up (q_up (q_up (q_up (q_up (q_up (q_up (q_up (q_up (q_up (q_up (q_up (q_up (q_up (q_up (q_up (q_up (q_up (q_up (q_up (q_up (q_up (q_up (q_up (q_up (q_up (q_up (q_up (q_up (q_up (q_up (q_up (q_up zI4 176 0 1) 176 1 1) 176 2 1) 176 3 1) 176 4 1) 176 5 1) 176 6 1) 176 7 1) 176 8 1) 176 9 1) 176 10 1) 176 11 1) 176 12 1) 176 13 1) 176 14 1) 176 15 1) 176 16 1) 176 17 1) 176 18 1) 176 19 1) 176 20 1) 176 21 1) 176 22 1) 176 23 1) 176 24 1) 176 25 1) 176 26 1) 176 27 1) 176 28 1) 176 29 1) 176 30 1) 176 31 1) 176 32 1) 176 33 1) zJ1 zR31 204) _ _ _ _ _ _
  refine q_inc (v := 1) dX11_begin_15 rfl (Nat.le_of_ble_eq_true rfl) rfl ?_
  refine q_goto (tgt := 2) dX11_begin_18 (by decide) ?_
  refine q_iload_n dX11_begin_2 rfl ?_
  refine q_bi (v := 40) dX11_begin_3 rfl ?_
  refine q_cz_ge (tgt := 21) (a := 34) (b := 40) dX11_begin_5 (by decide) rfl rfl (fun h => absurd h (by decide)) (fun _ => ?_)
  refine q_aload_n dX11_begin_8 rfl ?_
  refine q_getR (c := 11) (n := 0) (k := 54) (a := 176) dX11_begin_9 rfl (by decide) (by decide) fX11_128 rfl rfl ?_
  refine q_iload_n dX11_begin_12 rfl ?_
  refine q_ic (v := 1) dX11_begin_13 rfl ?_
  refine q_iast (n := 40) (j := 34) dX11_begin_14 rfl rfl (by decide) ?_
  show q_K _ (q_z (q_up (q_up (q_up (q_up (q_up (q_up (q_up (q_up (q_up (q_up (q_up (q_up (q_up (q_up (q_up (q_up (q_up (q_up (q_up (q_up (q_up (q_up (q_up (q_up (q_up (q_up (q_up (q_up (q_up (q_up (q_up (q_up (q_up (q_up (q_up zI4 176 0 1) 176 1 1) 176 2 1) 176 3 1) 176 4 1) 176 5 1) 176 6 1) 176 7 1) 176 8 1) 176 9 1) 176 10 1) 176 11 1) 176 12 1) 176 13 1) 176 14 1) 176 15 1) 176 16 1) 176 17 1) 176 18 1) 176 19 1) 176 20 1) 176 21 1) 176 22 1) 176 23 1) 176 24 1) 176 25 1) 176 26 1) 176 27 1) 176 28 1) 176 29 1) 176 30 1) 176 31 1) 176 32 1) 176 33 1) 176 34 1) zJ1 zR31 204) _ _ _ _ _ _
  refine q_inc (v := 1) dX11_begin_15 rfl (Nat.le_of_ble_eq_true rfl) rfl ?_
  refine q_goto (tgt := 2) dX11_begin_18 (by decide) ?_
  refine q_iload_n dX11_begin_2 rfl ?_
  refine q_bi (v := 40) dX11_begin_3 rfl ?_
  refine q_cz_ge (tgt := 21) (a := 35) (b := 40) dX11_begin_5 (by decide) rfl rfl (fun h => absurd h (by decide)) (fun _ => ?_)
  refine q_aload_n dX11_begin_8 rfl ?_
  refine q_getR (c := 11) (n := 0) (k := 54) (a := 176) dX11_begin_9 rfl (by decide) (by decide) fX11_128 rfl rfl ?_
  refine q_iload_n dX11_begin_12 rfl ?_
  refine q_ic (v := 1) dX11_begin_13 rfl ?_
  refine q_iast (n := 40) (j := 35) dX11_begin_14 rfl rfl (by decide) ?_
  show q_K _ (q_z (q_up (q_up (q_up (q_up (q_up (q_up (q_up (q_up (q_up (q_up (q_up (q_up (q_up (q_up (q_up (q_up (q_up (q_up (q_up (q_up (q_up (q_up (q_up (q_up (q_up (q_up (q_up (q_up (q_up (q_up (q_up (q_up (q_up (q_up (q_up (q_up zI4 176 0 1) 176 1 1) 176 2 1) 176 3 1) 176 4 1) 176 5 1) 176 6 1) 176 7 1) 176 8 1) 176 9 1) 176 10 1) 176 11 1) 176 12 1) 176 13 1) 176 14 1) 176 15 1) 176 16 1) 176 17 1) 176 18 1) 176 19 1) 176 20 1) 176 21 1) 176 22 1) 176 23 1) 176 24 1) 176 25 1) 176 26 1) 176 27 1) 176 28 1) 176 29 1) 176 30 1) 176 31 1) 176 32 1) 176 33 1) 176 34 1) 176 35 1) zJ1 zR31 204) _ _ _ _ _ _
  refine q_inc (v := 1) dX11_begin_15 rfl (Nat.le_of_ble_eq_true rfl) rfl ?_
  refine q_goto (tgt := 2) dX11_begin_18 (by decide) ?_
  refine q_iload_n dX11_begin_2 rfl ?_
  refine q_bi (v := 40) dX11_begin_3 rfl ?_
  refine q_cz_ge (tgt := 21) (a := 36) (b := 40) dX11_begin_5 (by decide) rfl rfl (fun h => absurd h (by decide)) (fun _ => ?_)
  refine q_aload_n dX11_begin_8 rfl ?_
  refine q_getR (c := 11) (n := 0) (k := 54) (a := 176) dX11_begin_9 rfl (by decide) (by decide) fX11_128 rfl rfl ?_
  refine q_iload_n dX11_begin_12 rfl ?_
  refine q_ic (v := 1) dX11_begin_13 rfl ?_
  refine q_iast (n := 40) (j := 36) dX11_begin_14 rfl rfl (by decide) ?_
  show q_K _ (q_z (q_up (q_up (q_up (q_up (q_up (q_up (q_up (q_up (q_up (q_up (q_up (q_up (q_up (q_up (q_up (q_up (q_up (q_up (q_up (q_up (q_up (q_up (q_up (q_up (q_up (q_up (q_up (q_up (q_up (q_up (q_up (q_up (q_up (q_up (q_up (q_up (q_up zI4 176 0 1) 176 1 1) 176 2 1) 176 3 1) 176 4 1) 176 5 1) 176 6 1) 176 7 1) 176 8 1) 176 9 1) 176 10 1) 176 11 1) 176 12 1) 176 13 1) 176 14 1) 176 15 1) 176 16 1) 176 17 1) 176 18 1) 176 19 1) 176 20 1) 176 21 1) 176 22 1) 176 23 1) 176 24 1) 176 25 1) 176 26 1) 176 27 1) 176 28 1) 176 29 1) 176 30 1) 176 31 1) 176 32 1) 176 33 1) 176 34 1) 176 35 1) 176 36 1) zJ1 zR31 204) _ _ _ _ _ _
  refine q_inc (v := 1) dX11_begin_15 rfl (Nat.le_of_ble_eq_true rfl) rfl ?_
  refine q_goto (tgt := 2) dX11_begin_18 (by decide) ?_
  refine q_iload_n dX11_begin_2 rfl ?_
  refine q_bi (v := 40) dX11_begin_3 rfl ?_
  refine q_cz_ge (tgt := 21) (a := 37) (b := 40) dX11_begin_5 (by decide) rfl rfl (fun h => absurd h (by decide)) (fun _ => ?_)
  refine q_aload_n dX11_begin_8 rfl ?_
  refine q_getR (c := 11) (n := 0) (k := 54) (a := 176) dX11_begin_9 rfl (by decide) (by decide) fX11_128 rfl rfl ?_
  refine q_iload_n dX11_begin_12 rfl ?_
  refine q_ic (v := 1) dX11_begin_13 rfl ?_
  refine q_iast (n := 40) (j := 37) dX11_begin_14 rfl rfl (by decide) ?_
  show q_K _ (q_z (q_up (q_up (q_up (q_up (q_up (q_up (q_up (q_up (q_up (q_up (q_up (q_up (q_up (q_up (q_up (q_up (q_up (q_up (q_up (q_up (q_up (q_up (q_up (q_up (q_up (q_up (q_up (q_up (q_up (q_up (q_up (q_up (q_up (q_up (q_up (q_up (q_up (q_up zI4 176 0 1) 176 1 1) 176 2 1) 176 3 1) 176 4 1) 176 5 1) 176 6 1) 176 7 1) 176 8 1) 176 9 1) 176 10 1) 176 11 1) 176 12 1) 176 13 1) 176 14 1) 176 15 1) 176 16 1) 176 17 1) 176 18 1) 176 19 1) 176 20 1) 176 21 1) 176 22 1) 176 23 1) 176 24 1) 176 25 1) 176 26 1) 176 27 1) 176 28 1) 176 29 1) 176 30 1) 176 31 1) 176 32 1) 176 33 1) 176 34 1) 176 35 1) 176 36 1) 176 37 1) zJ1 zR31 204) _ _ _ _ _ _
  refine q_inc (v := 1) dX11_begin_15 rfl (Nat.le_of_ble_eq_true rfl) rfl ?_
  refine q_goto (tgt := 2) dX11_begin_18 (by decide) ?_
  refine q_iload_n dX11_begin_2 rfl ?_
  refine q_bi (v := 40) dX11_begin_3 rfl ?_
  refine q_cz_ge (tgt := 21) (a := 38) (b := 40) dX11_begin_5 (by decide) rfl rfl (fun h => absurd h (by decide)) (fun _ => ?_)
  refine q_aload_n dX11_begin_8 rfl ?_
  refine q_getR (c := 11) (n := 0) (k := 54) (a := 176) dX11_begin_9 rfl (by decide) (by decide) fX11_128 rfl rfl ?_
  refine q_iload_n dX11_begin_12 rfl ?_
  refine q_ic (v := 1) dX11_begin_13 rfl ?_
  refine q_iast (n := 40) (j := 38) dX11_begin_14 rfl rfl (by decide) ?_
  show q_K _ (q_z (q_up (q_up (q_up (q_up (q_up (q_up (q_up (q_up (q_up (q_up (q_up (q_up (q_up (q_up (q_up (q_up (q_up (q_up (q_up (q_up (q_up (q_up (q_up (q_up (q_up (q_up (q_up (q_up (q_up (q_up (q_up (q_up (q_up (q_up (q_up (q_up (q_up (q_up (q_up zI4 176 0 1) 176 1 1) 176 2 1) 176 3 1) 176 4 1) 176 5 1) 176 6 1) 176 7 1) 176 8 1) 176 9 1) 176 10 1) 176 11 1) 176 12 1) 176 13 1) 176 14 1) 176 15 1) 176 16 1) 176 17 1) 176 18 1) 176 19 1) 176 20 1) 176 21 1) 176 22 1) 176 23 1) 176 24 1) 176 25 1) 176 26 1) 176 27 1) 176 28 1) 176 29 1) 176 30 1) 176 31 1) 176 32 1) 176 33 1) 176 34 1) 176 35 1) 176 36 1) 176 37 1) 176 38 1) zJ1 zR31 204) _ _ _ _ _ _
  refine q_inc (v := 1) dX11_begin_15 rfl (Nat.le_of_ble_eq_true rfl) rfl ?_
  refine q_goto (tgt := 2) dX11_begin_18 (by decide) ?_
  refine q_iload_n dX11_begin_2 rfl ?_
  refine q_bi (v := 40) dX11_begin_3 rfl ?_
  refine q_cz_ge (tgt := 21) (a := 39) (b := 40) dX11_begin_5 (by decide) rfl rfl (fun h => absurd h (by decide)) (fun _ => ?_)
  refine q_aload_n dX11_begin_8 rfl ?_
  refine q_getR (c := 11) (n := 0) (k := 54) (a := 176) dX11_begin_9 rfl (by decide) (by decide) fX11_128 rfl rfl ?_
  refine q_iload_n dX11_begin_12 rfl ?_
  refine q_ic (v := 1) dX11_begin_13 rfl ?_
  refine q_iast (n := 40) (j := 39) dX11_begin_14 rfl rfl (by decide) ?_
  show q_K _ (q_z (q_up (q_up (q_up (q_up (q_up (q_up (q_up (q_up (q_up (q_up (q_up (q_up (q_up (q_up (q_up (q_up (q_up (q_up (q_up (q_up (q_up (q_up (q_up (q_up (q_up (q_up (q_up (q_up (q_up (q_up (q_up (q_up (q_up (q_up (q_up (q_up (q_up (q_up (q_up (q_up zI4 176 0 1) 176 1 1) 176 2 1) 176 3 1) 176 4 1) 176 5 1) 176 6 1) 176 7 1) 176 8 1) 176 9 1) 176 10 1) 176 11 1) 176 12 1) 176 13 1) 176 14 1) 176 15 1) 176 16 1) 176 17 1) 176 18 1) 176 19 1) 176 20 1) 176 21 1) 176 22 1) 176 23 1) 176 24 1) 176 25 1) 176 26 1) 176 27 1) 176 28 1) 176 29 1) 176 30 1) 176 31 1) 176 32 1) 176 33 1) 176 34 1) 176 35 1) 176 36 1) 176 37 1) 176 38 1) 176 39 1) zJ1 zR31 204) _ _ _ _ _ _
  refine q_inc (v := 1) dX11_begin_15 rfl (Nat.le_of_ble_eq_true rfl) rfl ?_
  refine q_goto (tgt := 2) dX11_begin_18 (by decide) ?_
  refine q_iload_n dX11_begin_2 rfl ?_
  refine q_bi (v := 40) dX11_begin_3 rfl ?_
  refine q_cz_ge (tgt := 21) (a := 40) (b := 40) dX11_begin_5 (by decide) rfl rfl (fun _ => ?_) (fun h => absurd h (by decide))
  refine q_aload_n dX11_begin_21 rfl ?_
  refine q_ic (v := 0) dX11_begin_22 rfl ?_
  refine q_putI (c := 11) (n := 0) (k := 92) dX11_begin_23 rfl (by decide) (by decide) fX11_560 rfl rfl ?_
  show q_K _ (q_z (q_up (q_up (q_up (q_up (q_up (q_up (q_up (q_up (q_up (q_up (q_up (q_up (q_up (q_up (q_up (q_up (q_up (q_up (q_up (q_up (q_up (q_up (q_up (q_up (q_up (q_up (q_up (q_up (q_up (q_up (q_up (q_up (q_up (q_up (q_up (q_up (q_up (q_up (q_up (q_up (q_up zI4 176 0 1) 176 1 1) 176 2 1) 176 3 1) 176 4 1) 176 5 1) 176 6 1) 176 7 1) 176 8 1) 176 9 1) 176 10 1) 176 11 1) 176 12 1) 176 13 1) 176 14 1) 176 15 1) 176 16 1) 176 17 1) 176 18 1) 176 19 1) 176 20 1) 176 21 1) 176 22 1) 176 23 1) 176 24 1) 176 25 1) 176 26 1) 176 27 1) 176 28 1) 176 29 1) 176 30 1) 176 31 1) 176 32 1) 176 33 1) 176 34 1) 176 35 1) 176 36 1) 176 37 1) 176 38 1) 176 39 1) 139 92 0) zJ1 zR31 204) _ _ _ _ _ _
  refine q_aload_n dX11_begin_26 rfl ?_
  refine q_ic (v := (-1)) dX11_begin_27 rfl ?_
  refine q_putI (c := 11) (n := 0) (k := 49) dX11_begin_28 rfl (by decide) (by decide) fX11_118 rfl rfl ?_
  show q_K _ (q_z (q_up (q_up (q_up (q_up (q_up (q_up (q_up (q_up (q_up (q_up (q_up (q_up (q_up (q_up (q_up (q_up (q_up (q_up (q_up (q_up (q_up (q_up (q_up (q_up (q_up (q_up (q_up (q_up (q_up (q_up (q_up (q_up (q_up (q_up (q_up (q_up (q_up (q_up (q_up (q_up (q_up (q_up zI4 176 0 1) 176 1 1) 176 2 1) 176 3 1) 176 4 1) 176 5 1) 176 6 1) 176 7 1) 176 8 1) 176 9 1) 176 10 1) 176 11 1) 176 12 1) 176 13 1) 176 14 1) 176 15 1) 176 16 1) 176 17 1) 176 18 1) 176 19 1) 176 20 1) 176 21 1) 176 22 1) 176 23 1) 176 24 1) 176 25 1) 176 26 1) 176 27 1) 176 28 1) 176 29 1) 176 30 1) 176 31 1) 176 32 1) 176 33 1) 176 34 1) 176 35 1) 176 36 1) 176 37 1) 176 38 1) 176 39 1) 139 92 0) 139 49 (-1)) zJ1 zR31 204) _ _ _ _ _ _
  refine q_aload_n dX11_begin_31 rfl ?_
  refine q_ic (v := 0) dX11_begin_32 rfl ?_
  refine q_putZ (c := 11) (n := 0) (k := 62) dX11_begin_33 rfl (by decide) (by decide) fX11_492 rfl rfl (Or.inl rfl) ?_
  show q_K _ (q_z (q_up (q_up (q_up (q_up (q_up (q_up (q_up (q_up (q_up (q_up (q_up (q_up (q_up (q_up (q_up (q_up (q_up (q_up (q_up (q_up (q_up (q_up (q_up (q_up (q_up (q_up (q_up (q_up (q_up (q_up (q_up (q_up (q_up (q_up (q_up (q_up (q_up (q_up (q_up (q_up (q_up (q_up (q_up zI4 176 0 1) 176 1 1) 176 2 1) 176 3 1) 176 4 1) 176 5 1) 176 6 1) 176 7 1) 176 8 1) 176 9 1) 176 10 1) 176 11 1) 176 12 1) 176 13 1) 176 14 1) 176 15 1) 176 16 1) 176 17 1) 176 18 1) 176 19 1) 176 20 1) 176 21 1) 176 22 1) 176 23 1) 176 24 1) 176 25 1) 176 26 1) 176 27 1) 176 28 1) 176 29 1) 176 30 1) 176 31 1) 176 32 1) 176 33 1) 176 34 1) 176 35 1) 176 36 1) 176 37 1) 176 38 1) 176 39 1) 139 92 0) 139 49 (-1)) 139 62 0) zJ1 zR31 204) _ _ _ _ _ _
  refine q_aload_n dX11_begin_36 rfl ?_
  refine q_ic (v := 0) dX11_begin_37 rfl ?_
  refine q_putZ (c := 11) (n := 0) (k := 63) dX11_begin_38 rfl (by decide) (by decide) fX11_496 rfl rfl (Or.inl rfl) ?_
  show q_K _ (q_z (q_up (q_up (q_up (q_up (q_up (q_up (q_up (q_up (q_up (q_up (q_up (q_up (q_up (q_up (q_up (q_up (q_up (q_up (q_up (q_up (q_up (q_up (q_up (q_up (q_up (q_up (q_up (q_up (q_up (q_up (q_up (q_up (q_up (q_up (q_up (q_up (q_up (q_up (q_up (q_up (q_up (q_up (q_up (q_up zI4 176 0 1) 176 1 1) 176 2 1) 176 3 1) 176 4 1) 176 5 1) 176 6 1) 176 7 1) 176 8 1) 176 9 1) 176 10 1) 176 11 1) 176 12 1) 176 13 1) 176 14 1) 176 15 1) 176 16 1) 176 17 1) 176 18 1) 176 19 1) 176 20 1) 176 21 1) 176 22 1) 176 23 1) 176 24 1) 176 25 1) 176 26 1) 176 27 1) 176 28 1) 176 29 1) 176 30 1) 176 31 1) 176 32 1) 176 33 1) 176 34 1) 176 35 1) 176 36 1) 176 37 1) 176 38 1) 176 39 1) 139 92 0) 139 49 (-1)) 139 62 0) 139 63 0) zJ1 zR31 204) _ _ _ _ _ _
  exact q_endv dX11_begin_41 rfl ⟨rfl, rfl⟩ ⟨rfl, rfl⟩
def zI6 : Nat → Nat → Int32 := q_up (q_up (q_up zI5 203 0 0) 203 1 0) 203 2 0
set_option maxRecDepth 20000 in
theorem y_Model : q_met mX11_init (q_z zI2 zJ1 zR30 140) [.ref 139] (fun s r => s = q_z zI6 zJ1 zR31 204 ∧ r = none) := by
  refine q_enter (by decide) (Nat.le_of_ble_eq_true rfl) ?_
  refine q_aload_n dX11_init_0 rfl ?_
  refine q_obj dX11_init_1 lX11_1 ⟨rfl, rfl⟩ rfl ?_
  refine q_aload_n dX11_init_4 rfl ?_
  refine q_si (v := 1620) dX11_init_5 rfl ?_
  refine q_mka (t := 22) (N := 1620) dX11_init_8 (Nat.le_of_ble_eq_true rfl) rfl (Or.inr (Or.inr (Or.inl ⟨rfl, rfl⟩))) q_ar_byte rfl rfl (fun _ => rfl) (fun _ => rfl) (fun _ => rfl) (kc' := 1) (ks' := 1620) rfl rfl ⟨rfl, rfl⟩ ?_
  refine q_putR (c := 11) (n := 0) (k := 0) dX11_init_10 rfl (by decide) (by decide) fX11_7 rfl rfl rfl (Or.inr ⟨_, rfl⟩) ?_
  show q_K _ (q_z zI2 zJ1 (q_up zR30 139 0 (some 140)) 141) _ _ _ _ _ _
  refine q_aload_n dX11_init_13 rfl ?_
  refine q_si (v := 1600) dX11_init_14 rfl ?_
  refine q_mka (t := 22) (N := 1600) dX11_init_17 (Nat.le_of_ble_eq_true rfl) rfl (Or.inr (Or.inr (Or.inl ⟨rfl, rfl⟩))) q_ar_byte rfl rfl (fun _ => rfl) (fun _ => rfl) (fun _ => rfl) (kc' := 2) (ks' := 3220) rfl rfl ⟨rfl, rfl⟩ ?_
  refine q_putR (c := 11) (n := 0) (k := 1) dX11_init_19 rfl (by decide) (by decide) fX11_13 rfl rfl rfl (Or.inr ⟨_, rfl⟩) ?_
  show q_K _ (q_z zI2 zJ1 (q_up (q_up zR30 139 0 (some 140)) 139 1 (some 141)) 142) _ _ _ _ _ _
  refine q_aload_n dX11_init_22 rfl ?_
  refine q_ic (v := (-1)) dX11_init_23 rfl ?_
  refine q_putI (c := 11) (n := 0) (k := 5) dX11_init_24 rfl (by decide) (by decide) fX11_16 rfl rfl ?_
  show q_K _ (q_z (q_up zI2 139 5 (-1)) zJ1 (q_up (q_up zR30 139 0 (some 140)) 139 1 (some 141)) 142) _ _ _ _ _ _
  refine q_aload_n dX11_init_27 rfl ?_
  refine q_bi (v := 6) dX11_init_28 rfl ?_
  refine q_mka (t := 20) (N := 6) dX11_init_30 (Nat.le_of_ble_eq_true rfl) rfl (Or.inl ⟨rfl, rfl⟩) q_ar_int rfl rfl (fun _ => rfl) (fun _ => rfl) (fun _ => rfl) (kc' := 3) (ks' := 3226) rfl rfl ⟨rfl, rfl⟩ ?_
  refine q_putR (c := 11) (n := 0) (k := 11) dX11_init_32 rfl (by decide) (by decide) fX11_20 rfl rfl rfl (Or.inr ⟨_, rfl⟩) ?_
  show q_K _ (q_z (q_up zI2 139 5 (-1)) zJ1 (q_up (q_up (q_up zR30 139 0 (some 140)) 139 1 (some 141)) 139 11 (some 142)) 143) _ _ _ _ _ _
  refine q_aload_n dX11_init_35 rfl ?_
  refine q_bi (v := 6) dX11_init_36 rfl ?_
  refine q_mka (t := 20) (N := 6) dX11_init_38 (Nat.le_of_ble_eq_true rfl) rfl (Or.inl ⟨rfl, rfl⟩) q_ar_int rfl rfl (fun _ => rfl) (fun _ => rfl) (fun _ => rfl) (kc' := 4) (ks' := 3232) rfl rfl ⟨rfl, rfl⟩ ?_
  refine q_putR (c := 11) (n := 0) (k := 12) dX11_init_40 rfl (by decide) (by decide) fX11_24 rfl rfl rfl (Or.inr ⟨_, rfl⟩) ?_
  show q_K _ (q_z (q_up zI2 139 5 (-1)) zJ1 (q_up (q_up (q_up (q_up zR30 139 0 (some 140)) 139 1 (some 141)) 139 11 (some 142)) 139 12 (some 143)) 144) _ _ _ _ _ _
  refine q_aload_n dX11_init_43 rfl ?_
  refine q_bi (v := 6) dX11_init_44 rfl ?_
  refine q_mka (t := 20) (N := 6) dX11_init_46 (Nat.le_of_ble_eq_true rfl) rfl (Or.inl ⟨rfl, rfl⟩) q_ar_int rfl rfl (fun _ => rfl) (fun _ => rfl) (fun _ => rfl) (kc' := 5) (ks' := 3238) rfl rfl ⟨rfl, rfl⟩ ?_
  refine q_putR (c := 11) (n := 0) (k := 13) dX11_init_48 rfl (by decide) (by decide) fX11_27 rfl rfl rfl (Or.inr ⟨_, rfl⟩) ?_
  show q_K _ (q_z (q_up zI2 139 5 (-1)) zJ1 (q_up (q_up (q_up (q_up (q_up zR30 139 0 (some 140)) 139 1 (some 141)) 139 11 (some 142)) 139 12 (some 143)) 139 13 (some 144)) 145) _ _ _ _ _ _
  refine q_aload_n dX11_init_51 rfl ?_
  refine q_bi (v := 48) dX11_init_52 rfl ?_
  refine q_mka (t := 20) (N := 48) dX11_init_54 (Nat.le_of_ble_eq_true rfl) rfl (Or.inl ⟨rfl, rfl⟩) q_ar_int rfl rfl (fun _ => rfl) (fun _ => rfl) (fun _ => rfl) (kc' := 6) (ks' := 3286) rfl rfl ⟨rfl, rfl⟩ ?_
  refine q_putR (c := 11) (n := 0) (k := 14) dX11_init_56 rfl (by decide) (by decide) fX11_30 rfl rfl rfl (Or.inr ⟨_, rfl⟩) ?_
  show q_K _ (q_z (q_up zI2 139 5 (-1)) zJ1 (q_up (q_up (q_up (q_up (q_up (q_up zR30 139 0 (some 140)) 139 1 (some 141)) 139 11 (some 142)) 139 12 (some 143)) 139 13 (some 144)) 139 14 (some 145)) 146) _ _ _ _ _ _
  refine q_aload_n dX11_init_59 rfl ?_
  refine q_si (v := 240) dX11_init_60 rfl ?_
  refine q_mka (t := 20) (N := 240) dX11_init_63 (Nat.le_of_ble_eq_true rfl) rfl (Or.inl ⟨rfl, rfl⟩) q_ar_int rfl rfl (fun _ => rfl) (fun _ => rfl) (fun _ => rfl) (kc' := 7) (ks' := 3526) rfl rfl ⟨rfl, rfl⟩ ?_
  refine q_putR (c := 11) (n := 0) (k := 15) dX11_init_65 rfl (by decide) (by decide) fX11_33 rfl rfl rfl (Or.inr ⟨_, rfl⟩) ?_
  show q_K _ (q_z (q_up zI2 139 5 (-1)) zJ1 (q_up (q_up (q_up (q_up (q_up (q_up (q_up zR30 139 0 (some 140)) 139 1 (some 141)) 139 11 (some 142)) 139 12 (some 143)) 139 13 (some 144)) 139 14 (some 145)) 139 15 (some 146)) 147) _ _ _ _ _ _
  refine q_aload_n dX11_init_68 rfl ?_
  refine q_si (v := 240) dX11_init_69 rfl ?_
  refine q_mka (t := 20) (N := 240) dX11_init_72 (Nat.le_of_ble_eq_true rfl) rfl (Or.inl ⟨rfl, rfl⟩) q_ar_int rfl rfl (fun _ => rfl) (fun _ => rfl) (fun _ => rfl) (kc' := 8) (ks' := 3766) rfl rfl ⟨rfl, rfl⟩ ?_
  refine q_putR (c := 11) (n := 0) (k := 16) dX11_init_74 rfl (by decide) (by decide) fX11_36 rfl rfl rfl (Or.inr ⟨_, rfl⟩) ?_
  show q_K _ (q_z (q_up zI2 139 5 (-1)) zJ1 (q_up (q_up (q_up (q_up (q_up (q_up (q_up (q_up zR30 139 0 (some 140)) 139 1 (some 141)) 139 11 (some 142)) 139 12 (some 143)) 139 13 (some 144)) 139 14 (some 145)) 139 15 (some 146)) 139 16 (some 147)) 148) _ _ _ _ _ _
  refine q_aload_n dX11_init_77 rfl ?_
  refine q_si (v := 240) dX11_init_78 rfl ?_
  refine q_mka (t := 20) (N := 240) dX11_init_81 (Nat.le_of_ble_eq_true rfl) rfl (Or.inl ⟨rfl, rfl⟩) q_ar_int rfl rfl (fun _ => rfl) (fun _ => rfl) (fun _ => rfl) (kc' := 9) (ks' := 4006) rfl rfl ⟨rfl, rfl⟩ ?_
  refine q_putR (c := 11) (n := 0) (k := 17) dX11_init_83 rfl (by decide) (by decide) fX11_39 rfl rfl rfl (Or.inr ⟨_, rfl⟩) ?_
  show q_K _ (q_z (q_up zI2 139 5 (-1)) zJ1 (q_up (q_up (q_up (q_up (q_up (q_up (q_up (q_up (q_up zR30 139 0 (some 140)) 139 1 (some 141)) 139 11 (some 142)) 139 12 (some 143)) 139 13 (some 144)) 139 14 (some 145)) 139 15 (some 146)) 139 16 (some 147)) 139 17 (some 148)) 149) _ _ _ _ _ _
  refine q_aload_n dX11_init_86 rfl ?_
  refine q_si (v := 240) dX11_init_87 rfl ?_
  refine q_mka (t := 20) (N := 240) dX11_init_90 (Nat.le_of_ble_eq_true rfl) rfl (Or.inl ⟨rfl, rfl⟩) q_ar_int rfl rfl (fun _ => rfl) (fun _ => rfl) (fun _ => rfl) (kc' := 10) (ks' := 4246) rfl rfl ⟨rfl, rfl⟩ ?_
  refine q_putR (c := 11) (n := 0) (k := 18) dX11_init_92 rfl (by decide) (by decide) fX11_42 rfl rfl rfl (Or.inr ⟨_, rfl⟩) ?_
  show q_K _ (q_z (q_up zI2 139 5 (-1)) zJ1 (q_up (q_up (q_up (q_up (q_up (q_up (q_up (q_up (q_up (q_up zR30 139 0 (some 140)) 139 1 (some 141)) 139 11 (some 142)) 139 12 (some 143)) 139 13 (some 144)) 139 14 (some 145)) 139 15 (some 146)) 139 16 (some 147)) 139 17 (some 148)) 139 18 (some 149)) 150) _ _ _ _ _ _
  refine q_aload_n dX11_init_95 rfl ?_
  refine q_si (v := 240) dX11_init_96 rfl ?_
  refine q_mka (t := 20) (N := 240) dX11_init_99 (Nat.le_of_ble_eq_true rfl) rfl (Or.inl ⟨rfl, rfl⟩) q_ar_int rfl rfl (fun _ => rfl) (fun _ => rfl) (fun _ => rfl) (kc' := 11) (ks' := 4486) rfl rfl ⟨rfl, rfl⟩ ?_
  refine q_putR (c := 11) (n := 0) (k := 19) dX11_init_101 rfl (by decide) (by decide) fX11_45 rfl rfl rfl (Or.inr ⟨_, rfl⟩) ?_
  show q_K _ (q_z (q_up zI2 139 5 (-1)) zJ1 (q_up (q_up (q_up (q_up (q_up (q_up (q_up (q_up (q_up (q_up (q_up zR30 139 0 (some 140)) 139 1 (some 141)) 139 11 (some 142)) 139 12 (some 143)) 139 13 (some 144)) 139 14 (some 145)) 139 15 (some 146)) 139 16 (some 147)) 139 17 (some 148)) 139 18 (some 149)) 139 19 (some 150)) 151) _ _ _ _ _ _
  refine q_aload_n dX11_init_104 rfl ?_
  refine q_si (v := 240) dX11_init_105 rfl ?_
  refine q_mka (t := 20) (N := 240) dX11_init_108 (Nat.le_of_ble_eq_true rfl) rfl (Or.inl ⟨rfl, rfl⟩) q_ar_int rfl rfl (fun _ => rfl) (fun _ => rfl) (fun _ => rfl) (kc' := 12) (ks' := 4726) rfl rfl ⟨rfl, rfl⟩ ?_
  refine q_putR (c := 11) (n := 0) (k := 20) dX11_init_110 rfl (by decide) (by decide) fX11_48 rfl rfl rfl (Or.inr ⟨_, rfl⟩) ?_
  show q_K _ (q_z (q_up zI2 139 5 (-1)) zJ1 (q_up (q_up (q_up (q_up (q_up (q_up (q_up (q_up (q_up (q_up (q_up (q_up zR30 139 0 (some 140)) 139 1 (some 141)) 139 11 (some 142)) 139 12 (some 143)) 139 13 (some 144)) 139 14 (some 145)) 139 15 (some 146)) 139 16 (some 147)) 139 17 (some 148)) 139 18 (some 149)) 139 19 (some 150)) 139 20 (some 151)) 152) _ _ _ _ _ _
  refine q_aload_n dX11_init_113 rfl ?_
  refine q_si (v := 720) dX11_init_114 rfl ?_
  refine q_mka (t := 20) (N := 720) dX11_init_117 (Nat.le_of_ble_eq_true rfl) rfl (Or.inl ⟨rfl, rfl⟩) q_ar_int rfl rfl (fun _ => rfl) (fun _ => rfl) (fun _ => rfl) (kc' := 13) (ks' := 5446) rfl rfl ⟨rfl, rfl⟩ ?_
  refine q_putR (c := 11) (n := 0) (k := 21) dX11_init_119 rfl (by decide) (by decide) fX11_51 rfl rfl rfl (Or.inr ⟨_, rfl⟩) ?_
  show q_K _ (q_z (q_up zI2 139 5 (-1)) zJ1 (q_up (q_up (q_up (q_up (q_up (q_up (q_up (q_up (q_up (q_up (q_up (q_up (q_up zR30 139 0 (some 140)) 139 1 (some 141)) 139 11 (some 142)) 139 12 (some 143)) 139 13 (some 144)) 139 14 (some 145)) 139 15 (some 146)) 139 16 (some 147)) 139 17 (some 148)) 139 18 (some 149)) 139 19 (some 150)) 139 20 (some 151)) 139 21 (some 152)) 153) _ _ _ _ _ _
  refine q_aload_n dX11_init_122 rfl ?_
  refine q_si (v := 240) dX11_init_123 rfl ?_
  refine q_mka (t := 20) (N := 240) dX11_init_126 (Nat.le_of_ble_eq_true rfl) rfl (Or.inl ⟨rfl, rfl⟩) q_ar_int rfl rfl (fun _ => rfl) (fun _ => rfl) (fun _ => rfl) (kc' := 14) (ks' := 5686) rfl rfl ⟨rfl, rfl⟩ ?_
  refine q_putR (c := 11) (n := 0) (k := 22) dX11_init_128 rfl (by decide) (by decide) fX11_54 rfl rfl rfl (Or.inr ⟨_, rfl⟩) ?_
  show q_K _ (q_z (q_up zI2 139 5 (-1)) zJ1 (q_up (q_up (q_up (q_up (q_up (q_up (q_up (q_up (q_up (q_up (q_up (q_up (q_up (q_up zR30 139 0 (some 140)) 139 1 (some 141)) 139 11 (some 142)) 139 12 (some 143)) 139 13 (some 144)) 139 14 (some 145)) 139 15 (some 146)) 139 16 (some 147)) 139 17 (some 148)) 139 18 (some 149)) 139 19 (some 150)) 139 20 (some 151)) 139 21 (some 152)) 139 22 (some 153)) 154) _ _ _ _ _ _
  refine q_aload_n dX11_init_131 rfl ?_
  refine q_si (v := 240) dX11_init_132 rfl ?_
  refine q_mka (t := 20) (N := 240) dX11_init_135 (Nat.le_of_ble_eq_true rfl) rfl (Or.inl ⟨rfl, rfl⟩) q_ar_int rfl rfl (fun _ => rfl) (fun _ => rfl) (fun _ => rfl) (kc' := 15) (ks' := 5926) rfl rfl ⟨rfl, rfl⟩ ?_
  refine q_putR (c := 11) (n := 0) (k := 23) dX11_init_137 rfl (by decide) (by decide) fX11_57 rfl rfl rfl (Or.inr ⟨_, rfl⟩) ?_
  show q_K _ (q_z (q_up zI2 139 5 (-1)) zJ1 (q_up (q_up (q_up (q_up (q_up (q_up (q_up (q_up (q_up (q_up (q_up (q_up (q_up (q_up (q_up zR30 139 0 (some 140)) 139 1 (some 141)) 139 11 (some 142)) 139 12 (some 143)) 139 13 (some 144)) 139 14 (some 145)) 139 15 (some 146)) 139 16 (some 147)) 139 17 (some 148)) 139 18 (some 149)) 139 19 (some 150)) 139 20 (some 151)) 139 21 (some 152)) 139 22 (some 153)) 139 23 (some 154)) 155) _ _ _ _ _ _
  refine q_aload_n dX11_init_140 rfl ?_
  refine q_si (v := 240) dX11_init_141 rfl ?_
  refine q_mka (t := 20) (N := 240) dX11_init_144 (Nat.le_of_ble_eq_true rfl) rfl (Or.inl ⟨rfl, rfl⟩) q_ar_int rfl rfl (fun _ => rfl) (fun _ => rfl) (fun _ => rfl) (kc' := 16) (ks' := 6166) rfl rfl ⟨rfl, rfl⟩ ?_
  refine q_putR (c := 11) (n := 0) (k := 24) dX11_init_146 rfl (by decide) (by decide) fX11_60 rfl rfl rfl (Or.inr ⟨_, rfl⟩) ?_
  show q_K _ (q_z (q_up zI2 139 5 (-1)) zJ1 (q_up (q_up (q_up (q_up (q_up (q_up (q_up (q_up (q_up (q_up (q_up (q_up (q_up (q_up (q_up (q_up zR30 139 0 (some 140)) 139 1 (some 141)) 139 11 (some 142)) 139 12 (some 143)) 139 13 (some 144)) 139 14 (some 145)) 139 15 (some 146)) 139 16 (some 147)) 139 17 (some 148)) 139 18 (some 149)) 139 19 (some 150)) 139 20 (some 151)) 139 21 (some 152)) 139 22 (some 153)) 139 23 (some 154)) 139 24 (some 155)) 156) _ _ _ _ _ _
  refine q_aload_n dX11_init_149 rfl ?_
  refine q_bi (v := 120) dX11_init_150 rfl ?_
  refine q_mka (t := 20) (N := 120) dX11_init_152 (Nat.le_of_ble_eq_true rfl) rfl (Or.inl ⟨rfl, rfl⟩) q_ar_int rfl rfl (fun _ => rfl) (fun _ => rfl) (fun _ => rfl) (kc' := 17) (ks' := 6286) rfl rfl ⟨rfl, rfl⟩ ?_
  refine q_putR (c := 11) (n := 0) (k := 25) dX11_init_154 rfl (by decide) (by decide) fX11_63 rfl rfl rfl (Or.inr ⟨_, rfl⟩) ?_
  show q_K _ (q_z (q_up zI2 139 5 (-1)) zJ1 (q_up (q_up (q_up (q_up (q_up (q_up (q_up (q_up (q_up (q_up (q_up (q_up (q_up (q_up (q_up (q_up (q_up zR30 139 0 (some 140)) 139 1 (some 141)) 139 11 (some 142)) 139 12 (some 143)) 139 13 (some 144)) 139 14 (some 145)) 139 15 (some 146)) 139 16 (some 147)) 139 17 (some 148)) 139 18 (some 149)) 139 19 (some 150)) 139 20 (some 151)) 139 21 (some 152)) 139 22 (some 153)) 139 23 (some 154)) 139 24 (some 155)) 139 25 (some 156)) 157) _ _ _ _ _ _
  refine q_aload_n dX11_init_157 rfl ?_
  refine q_bi (v := 48) dX11_init_158 rfl ?_
  refine q_mka (t := 21) (N := 48) dX11_init_160 (Nat.le_of_ble_eq_true rfl) rfl (Or.inr (Or.inl ⟨rfl, rfl⟩)) q_ar_long rfl rfl (fun _ => rfl) (fun _ => rfl) (fun _ => rfl) (kc' := 18) (ks' := 6334) rfl rfl ⟨rfl, rfl⟩ ?_
  refine q_putR (c := 11) (n := 0) (k := 26) dX11_init_162 rfl (by decide) (by decide) fX11_66 rfl rfl rfl (Or.inr ⟨_, rfl⟩) ?_
  show q_K _ (q_z (q_up zI2 139 5 (-1)) zJ1 (q_up (q_up (q_up (q_up (q_up (q_up (q_up (q_up (q_up (q_up (q_up (q_up (q_up (q_up (q_up (q_up (q_up (q_up zR30 139 0 (some 140)) 139 1 (some 141)) 139 11 (some 142)) 139 12 (some 143)) 139 13 (some 144)) 139 14 (some 145)) 139 15 (some 146)) 139 16 (some 147)) 139 17 (some 148)) 139 18 (some 149)) 139 19 (some 150)) 139 20 (some 151)) 139 21 (some 152)) 139 22 (some 153)) 139 23 (some 154)) 139 24 (some 155)) 139 25 (some 156)) 139 26 (some 157)) 158) _ _ _ _ _ _
  refine q_aload_n dX11_init_165 rfl ?_
  refine q_si (v := 240) dX11_init_166 rfl ?_
  refine q_mka (t := 21) (N := 240) dX11_init_169 (Nat.le_of_ble_eq_true rfl) rfl (Or.inr (Or.inl ⟨rfl, rfl⟩)) q_ar_long rfl rfl (fun _ => rfl) (fun _ => rfl) (fun _ => rfl) (kc' := 19) (ks' := 6574) rfl rfl ⟨rfl, rfl⟩ ?_
  refine q_putR (c := 11) (n := 0) (k := 27) dX11_init_171 rfl (by decide) (by decide) fX11_70 rfl rfl rfl (Or.inr ⟨_, rfl⟩) ?_
  show q_K _ (q_z (q_up zI2 139 5 (-1)) zJ1 (q_up (q_up (q_up (q_up (q_up (q_up (q_up (q_up (q_up (q_up (q_up (q_up (q_up (q_up (q_up (q_up (q_up (q_up (q_up zR30 139 0 (some 140)) 139 1 (some 141)) 139 11 (some 142)) 139 12 (some 143)) 139 13 (some 144)) 139 14 (some 145)) 139 15 (some 146)) 139 16 (some 147)) 139 17 (some 148)) 139 18 (some 149)) 139 19 (some 150)) 139 20 (some 151)) 139 21 (some 152)) 139 22 (some 153)) 139 23 (some 154)) 139 24 (some 155)) 139 25 (some 156)) 139 26 (some 157)) 139 27 (some 158)) 159) _ _ _ _ _ _
  refine q_aload_n dX11_init_174 rfl ?_
  refine q_bi (v := 22) dX11_init_175 rfl ?_
  refine q_mka (t := 20) (N := 22) dX11_init_177 (Nat.le_of_ble_eq_true rfl) rfl (Or.inl ⟨rfl, rfl⟩) q_ar_int rfl rfl (fun _ => rfl) (fun _ => rfl) (fun _ => rfl) (kc' := 20) (ks' := 6596) rfl rfl ⟨rfl, rfl⟩ ?_
  refine q_putR (c := 11) (n := 0) (k := 30) dX11_init_179 rfl (by decide) (by decide) fX11_73 rfl rfl rfl (Or.inr ⟨_, rfl⟩) ?_
  show q_K _ (q_z (q_up zI2 139 5 (-1)) zJ1 (q_up (q_up (q_up (q_up (q_up (q_up (q_up (q_up (q_up (q_up (q_up (q_up (q_up (q_up (q_up (q_up (q_up (q_up (q_up (q_up zR30 139 0 (some 140)) 139 1 (some 141)) 139 11 (some 142)) 139 12 (some 143)) 139 13 (some 144)) 139 14 (some 145)) 139 15 (some 146)) 139 16 (some 147)) 139 17 (some 148)) 139 18 (some 149)) 139 19 (some 150)) 139 20 (some 151)) 139 21 (some 152)) 139 22 (some 153)) 139 23 (some 154)) 139 24 (some 155)) 139 25 (some 156)) 139 26 (some 157)) 139 27 (some 158)) 139 30 (some 159)) 160) _ _ _ _ _ _
  refine q_aload_n dX11_init_182 rfl ?_
  refine q_bi (v := 22) dX11_init_183 rfl ?_
  refine q_mka (t := 20) (N := 22) dX11_init_185 (Nat.le_of_ble_eq_true rfl) rfl (Or.inl ⟨rfl, rfl⟩) q_ar_int rfl rfl (fun _ => rfl) (fun _ => rfl) (fun _ => rfl) (kc' := 21) (ks' := 6618) rfl rfl ⟨rfl, rfl⟩ ?_
  refine q_putR (c := 11) (n := 0) (k := 31) dX11_init_187 rfl (by decide) (by decide) fX11_76 rfl rfl rfl (Or.inr ⟨_, rfl⟩) ?_
  show q_K _ (q_z (q_up zI2 139 5 (-1)) zJ1 (q_up (q_up (q_up (q_up (q_up (q_up (q_up (q_up (q_up (q_up (q_up (q_up (q_up (q_up (q_up (q_up (q_up (q_up (q_up (q_up (q_up zR30 139 0 (some 140)) 139 1 (some 141)) 139 11 (some 142)) 139 12 (some 143)) 139 13 (some 144)) 139 14 (some 145)) 139 15 (some 146)) 139 16 (some 147)) 139 17 (some 148)) 139 18 (some 149)) 139 19 (some 150)) 139 20 (some 151)) 139 21 (some 152)) 139 22 (some 153)) 139 23 (some 154)) 139 24 (some 155)) 139 25 (some 156)) 139 26 (some 157)) 139 27 (some 158)) 139 30 (some 159)) 139 31 (some 160)) 161) _ _ _ _ _ _
  refine q_aload_n dX11_init_190 rfl ?_
  refine q_si (v := 12000) dX11_init_191 rfl ?_
  refine q_mka (t := 20) (N := 12000) dX11_init_194 (Nat.le_of_ble_eq_true rfl) rfl (Or.inl ⟨rfl, rfl⟩) q_ar_int rfl rfl (fun _ => rfl) (fun _ => rfl) (fun _ => rfl) (kc' := 22) (ks' := 18618) rfl rfl ⟨rfl, rfl⟩ ?_
  refine q_putR (c := 11) (n := 0) (k := 33) dX11_init_196 rfl (by decide) (by decide) fX11_79 rfl rfl rfl (Or.inr ⟨_, rfl⟩) ?_
  show q_K _ (q_z (q_up zI2 139 5 (-1)) zJ1 (q_up (q_up (q_up (q_up (q_up (q_up (q_up (q_up (q_up (q_up (q_up (q_up (q_up (q_up (q_up (q_up (q_up (q_up (q_up (q_up (q_up (q_up zR30 139 0 (some 140)) 139 1 (some 141)) 139 11 (some 142)) 139 12 (some 143)) 139 13 (some 144)) 139 14 (some 145)) 139 15 (some 146)) 139 16 (some 147)) 139 17 (some 148)) 139 18 (some 149)) 139 19 (some 150)) 139 20 (some 151)) 139 21 (some 152)) 139 22 (some 153)) 139 23 (some 154)) 139 24 (some 155)) 139 25 (some 156)) 139 26 (some 157)) 139 27 (some 158)) 139 30 (some 159)) 139 31 (some 160)) 139 33 (some 161)) 162) _ _ _ _ _ _
  refine q_aload_n dX11_init_199 rfl ?_
  refine q_si (v := 12000) dX11_init_200 rfl ?_
  refine q_mka (t := 20) (N := 12000) dX11_init_203 (Nat.le_of_ble_eq_true rfl) rfl (Or.inl ⟨rfl, rfl⟩) q_ar_int rfl rfl (fun _ => rfl) (fun _ => rfl) (fun _ => rfl) (kc' := 23) (ks' := 30618) rfl rfl ⟨rfl, rfl⟩ ?_
  refine q_putR (c := 11) (n := 0) (k := 34) dX11_init_205 rfl (by decide) (by decide) fX11_82 rfl rfl rfl (Or.inr ⟨_, rfl⟩) ?_
  show q_K _ (q_z (q_up zI2 139 5 (-1)) zJ1 (q_up (q_up (q_up (q_up (q_up (q_up (q_up (q_up (q_up (q_up (q_up (q_up (q_up (q_up (q_up (q_up (q_up (q_up (q_up (q_up (q_up (q_up (q_up zR30 139 0 (some 140)) 139 1 (some 141)) 139 11 (some 142)) 139 12 (some 143)) 139 13 (some 144)) 139 14 (some 145)) 139 15 (some 146)) 139 16 (some 147)) 139 17 (some 148)) 139 18 (some 149)) 139 19 (some 150)) 139 20 (some 151)) 139 21 (some 152)) 139 22 (some 153)) 139 23 (some 154)) 139 24 (some 155)) 139 25 (some 156)) 139 26 (some 157)) 139 27 (some 158)) 139 30 (some 159)) 139 31 (some 160)) 139 33 (some 161)) 139 34 (some 162)) 163) _ _ _ _ _ _
  refine q_aload_n dX11_init_208 rfl ?_
  refine q_si (v := 12000) dX11_init_209 rfl ?_
  refine q_mka (t := 20) (N := 12000) dX11_init_212 (Nat.le_of_ble_eq_true rfl) rfl (Or.inl ⟨rfl, rfl⟩) q_ar_int rfl rfl (fun _ => rfl) (fun _ => rfl) (fun _ => rfl) (kc' := 24) (ks' := 42618) rfl rfl ⟨rfl, rfl⟩ ?_
  refine q_putR (c := 11) (n := 0) (k := 35) dX11_init_214 rfl (by decide) (by decide) fX11_85 rfl rfl rfl (Or.inr ⟨_, rfl⟩) ?_
  show q_K _ (q_z (q_up zI2 139 5 (-1)) zJ1 (q_up (q_up (q_up (q_up (q_up (q_up (q_up (q_up (q_up (q_up (q_up (q_up (q_up (q_up (q_up (q_up (q_up (q_up (q_up (q_up (q_up (q_up (q_up (q_up zR30 139 0 (some 140)) 139 1 (some 141)) 139 11 (some 142)) 139 12 (some 143)) 139 13 (some 144)) 139 14 (some 145)) 139 15 (some 146)) 139 16 (some 147)) 139 17 (some 148)) 139 18 (some 149)) 139 19 (some 150)) 139 20 (some 151)) 139 21 (some 152)) 139 22 (some 153)) 139 23 (some 154)) 139 24 (some 155)) 139 25 (some 156)) 139 26 (some 157)) 139 27 (some 158)) 139 30 (some 159)) 139 31 (some 160)) 139 33 (some 161)) 139 34 (some 162)) 139 35 (some 163)) 164) _ _ _ _ _ _
  refine q_aload_n dX11_init_217 rfl ?_
  refine q_si (v := 12000) dX11_init_218 rfl ?_
  refine q_mka (t := 20) (N := 12000) dX11_init_221 (Nat.le_of_ble_eq_true rfl) rfl (Or.inl ⟨rfl, rfl⟩) q_ar_int rfl rfl (fun _ => rfl) (fun _ => rfl) (fun _ => rfl) (kc' := 25) (ks' := 54618) rfl rfl ⟨rfl, rfl⟩ ?_
  refine q_putR (c := 11) (n := 0) (k := 36) dX11_init_223 rfl (by decide) (by decide) fX11_88 rfl rfl rfl (Or.inr ⟨_, rfl⟩) ?_
  show q_K _ (q_z (q_up zI2 139 5 (-1)) zJ1 (q_up (q_up (q_up (q_up (q_up (q_up (q_up (q_up (q_up (q_up (q_up (q_up (q_up (q_up (q_up (q_up (q_up (q_up (q_up (q_up (q_up (q_up (q_up (q_up (q_up zR30 139 0 (some 140)) 139 1 (some 141)) 139 11 (some 142)) 139 12 (some 143)) 139 13 (some 144)) 139 14 (some 145)) 139 15 (some 146)) 139 16 (some 147)) 139 17 (some 148)) 139 18 (some 149)) 139 19 (some 150)) 139 20 (some 151)) 139 21 (some 152)) 139 22 (some 153)) 139 23 (some 154)) 139 24 (some 155)) 139 25 (some 156)) 139 26 (some 157)) 139 27 (some 158)) 139 30 (some 159)) 139 31 (some 160)) 139 33 (some 161)) 139 34 (some 162)) 139 35 (some 163)) 139 36 (some 164)) 165) _ _ _ _ _ _
  refine q_aload_n dX11_init_226 rfl ?_
  refine q_si (v := 12000) dX11_init_227 rfl ?_
  refine q_mka (t := 20) (N := 12000) dX11_init_230 (Nat.le_of_ble_eq_true rfl) rfl (Or.inl ⟨rfl, rfl⟩) q_ar_int rfl rfl (fun _ => rfl) (fun _ => rfl) (fun _ => rfl) (kc' := 26) (ks' := 66618) rfl rfl ⟨rfl, rfl⟩ ?_
  refine q_putR (c := 11) (n := 0) (k := 37) dX11_init_232 rfl (by decide) (by decide) fX11_91 rfl rfl rfl (Or.inr ⟨_, rfl⟩) ?_
  show q_K _ (q_z (q_up zI2 139 5 (-1)) zJ1 (q_up (q_up (q_up (q_up (q_up (q_up (q_up (q_up (q_up (q_up (q_up (q_up (q_up (q_up (q_up (q_up (q_up (q_up (q_up (q_up (q_up (q_up (q_up (q_up (q_up (q_up zR30 139 0 (some 140)) 139 1 (some 141)) 139 11 (some 142)) 139 12 (some 143)) 139 13 (some 144)) 139 14 (some 145)) 139 15 (some 146)) 139 16 (some 147)) 139 17 (some 148)) 139 18 (some 149)) 139 19 (some 150)) 139 20 (some 151)) 139 21 (some 152)) 139 22 (some 153)) 139 23 (some 154)) 139 24 (some 155)) 139 25 (some 156)) 139 26 (some 157)) 139 27 (some 158)) 139 30 (some 159)) 139 31 (some 160)) 139 33 (some 161)) 139 34 (some 162)) 139 35 (some 163)) 139 36 (some 164)) 139 37 (some 165)) 166) _ _ _ _ _ _
  refine q_aload_n dX11_init_235 rfl ?_
  refine q_si (v := 12000) dX11_init_236 rfl ?_
  refine q_mka (t := 20) (N := 12000) dX11_init_239 (Nat.le_of_ble_eq_true rfl) rfl (Or.inl ⟨rfl, rfl⟩) q_ar_int rfl rfl (fun _ => rfl) (fun _ => rfl) (fun _ => rfl) (kc' := 27) (ks' := 78618) rfl rfl ⟨rfl, rfl⟩ ?_
  refine q_putR (c := 11) (n := 0) (k := 38) dX11_init_241 rfl (by decide) (by decide) fX11_94 rfl rfl rfl (Or.inr ⟨_, rfl⟩) ?_
  show q_K _ (q_z (q_up zI2 139 5 (-1)) zJ1 (q_up (q_up (q_up (q_up (q_up (q_up (q_up (q_up (q_up (q_up (q_up (q_up (q_up (q_up (q_up (q_up (q_up (q_up (q_up (q_up (q_up (q_up (q_up (q_up (q_up (q_up (q_up zR30 139 0 (some 140)) 139 1 (some 141)) 139 11 (some 142)) 139 12 (some 143)) 139 13 (some 144)) 139 14 (some 145)) 139 15 (some 146)) 139 16 (some 147)) 139 17 (some 148)) 139 18 (some 149)) 139 19 (some 150)) 139 20 (some 151)) 139 21 (some 152)) 139 22 (some 153)) 139 23 (some 154)) 139 24 (some 155)) 139 25 (some 156)) 139 26 (some 157)) 139 27 (some 158)) 139 30 (some 159)) 139 31 (some 160)) 139 33 (some 161)) 139 34 (some 162)) 139 35 (some 163)) 139 36 (some 164)) 139 37 (some 165)) 139 38 (some 166)) 167) _ _ _ _ _ _
  refine q_aload_n dX11_init_244 rfl ?_
  refine q_si (v := 1300) dX11_init_245 rfl ?_
  refine q_mka (t := 20) (N := 1300) dX11_init_248 (Nat.le_of_ble_eq_true rfl) rfl (Or.inl ⟨rfl, rfl⟩) q_ar_int rfl rfl (fun _ => rfl) (fun _ => rfl) (fun _ => rfl) (kc' := 28) (ks' := 79918) rfl rfl ⟨rfl, rfl⟩ ?_
  refine q_putR (c := 11) (n := 0) (k := 39) dX11_init_250 rfl (by decide) (by decide) fX11_97 rfl rfl rfl (Or.inr ⟨_, rfl⟩) ?_
  show q_K _ (q_z (q_up zI2 139 5 (-1)) zJ1 (q_up (q_up (q_up (q_up (q_up (q_up (q_up (q_up (q_up (q_up (q_up (q_up (q_up (q_up (q_up (q_up (q_up (q_up (q_up (q_up (q_up (q_up (q_up (q_up (q_up (q_up (q_up (q_up zR30 139 0 (some 140)) 139 1 (some 141)) 139 11 (some 142)) 139 12 (some 143)) 139 13 (some 144)) 139 14 (some 145)) 139 15 (some 146)) 139 16 (some 147)) 139 17 (some 148)) 139 18 (some 149)) 139 19 (some 150)) 139 20 (some 151)) 139 21 (some 152)) 139 22 (some 153)) 139 23 (some 154)) 139 24 (some 155)) 139 25 (some 156)) 139 26 (some 157)) 139 27 (some 158)) 139 30 (some 159)) 139 31 (some 160)) 139 33 (some 161)) 139 34 (some 162)) 139 35 (some 163)) 139 36 (some 164)) 139 37 (some 165)) 139 38 (some 166)) 139 39 (some 167)) 168) _ _ _ _ _ _
  refine q_aload_n dX11_init_253 rfl ?_
  refine q_si (v := 1300) dX11_init_254 rfl ?_
  refine q_mka (t := 20) (N := 1300) dX11_init_257 (Nat.le_of_ble_eq_true rfl) rfl (Or.inl ⟨rfl, rfl⟩) q_ar_int rfl rfl (fun _ => rfl) (fun _ => rfl) (fun _ => rfl) (kc' := 29) (ks' := 81218) rfl rfl ⟨rfl, rfl⟩ ?_
  refine q_putR (c := 11) (n := 0) (k := 40) dX11_init_259 rfl (by decide) (by decide) fX11_100 rfl rfl rfl (Or.inr ⟨_, rfl⟩) ?_
  show q_K _ (q_z (q_up zI2 139 5 (-1)) zJ1 (q_up (q_up (q_up (q_up (q_up (q_up (q_up (q_up (q_up (q_up (q_up (q_up (q_up (q_up (q_up (q_up (q_up (q_up (q_up (q_up (q_up (q_up (q_up (q_up (q_up (q_up (q_up (q_up (q_up zR30 139 0 (some 140)) 139 1 (some 141)) 139 11 (some 142)) 139 12 (some 143)) 139 13 (some 144)) 139 14 (some 145)) 139 15 (some 146)) 139 16 (some 147)) 139 17 (some 148)) 139 18 (some 149)) 139 19 (some 150)) 139 20 (some 151)) 139 21 (some 152)) 139 22 (some 153)) 139 23 (some 154)) 139 24 (some 155)) 139 25 (some 156)) 139 26 (some 157)) 139 27 (some 158)) 139 30 (some 159)) 139 31 (some 160)) 139 33 (some 161)) 139 34 (some 162)) 139 35 (some 163)) 139 36 (some 164)) 139 37 (some 165)) 139 38 (some 166)) 139 39 (some 167)) 139 40 (some 168)) 169) _ _ _ _ _ _
  refine q_aload_n dX11_init_262 rfl ?_
  refine q_si (v := 1300) dX11_init_263 rfl ?_
  refine q_mka (t := 20) (N := 1300) dX11_init_266 (Nat.le_of_ble_eq_true rfl) rfl (Or.inl ⟨rfl, rfl⟩) q_ar_int rfl rfl (fun _ => rfl) (fun _ => rfl) (fun _ => rfl) (kc' := 30) (ks' := 82518) rfl rfl ⟨rfl, rfl⟩ ?_
  refine q_putR (c := 11) (n := 0) (k := 41) dX11_init_268 rfl (by decide) (by decide) fX11_103 rfl rfl rfl (Or.inr ⟨_, rfl⟩) ?_
  show q_K _ (q_z (q_up zI2 139 5 (-1)) zJ1 (q_up (q_up (q_up (q_up (q_up (q_up (q_up (q_up (q_up (q_up (q_up (q_up (q_up (q_up (q_up (q_up (q_up (q_up (q_up (q_up (q_up (q_up (q_up (q_up (q_up (q_up (q_up (q_up (q_up (q_up zR30 139 0 (some 140)) 139 1 (some 141)) 139 11 (some 142)) 139 12 (some 143)) 139 13 (some 144)) 139 14 (some 145)) 139 15 (some 146)) 139 16 (some 147)) 139 17 (some 148)) 139 18 (some 149)) 139 19 (some 150)) 139 20 (some 151)) 139 21 (some 152)) 139 22 (some 153)) 139 23 (some 154)) 139 24 (some 155)) 139 25 (some 156)) 139 26 (some 157)) 139 27 (some 158)) 139 30 (some 159)) 139 31 (some 160)) 139 33 (some 161)) 139 34 (some 162)) 139 35 (some 163)) 139 36 (some 164)) 139 37 (some 165)) 139 38 (some 166)) 139 39 (some 167)) 139 40 (some 168)) 139 41 (some 169)) 170) _ _ _ _ _ _
  refine q_aload_n dX11_init_271 rfl ?_
  refine q_si (v := 420) dX11_init_272 rfl ?_
  refine q_mka (t := 20) (N := 420) dX11_init_275 (Nat.le_of_ble_eq_true rfl) rfl (Or.inl ⟨rfl, rfl⟩) q_ar_int rfl rfl (fun _ => rfl) (fun _ => rfl) (fun _ => rfl) (kc' := 31) (ks' := 82938) rfl rfl ⟨rfl, rfl⟩ ?_
  refine q_putR (c := 11) (n := 0) (k := 42) dX11_init_277 rfl (by decide) (by decide) fX11_106 rfl rfl rfl (Or.inr ⟨_, rfl⟩) ?_
  show q_K _ (q_z (q_up zI2 139 5 (-1)) zJ1 (q_up (q_up (q_up (q_up (q_up (q_up (q_up (q_up (q_up (q_up (q_up (q_up (q_up (q_up (q_up (q_up (q_up (q_up (q_up (q_up (q_up (q_up (q_up (q_up (q_up (q_up (q_up (q_up (q_up (q_up (q_up zR30 139 0 (some 140)) 139 1 (some 141)) 139 11 (some 142)) 139 12 (some 143)) 139 13 (some 144)) 139 14 (some 145)) 139 15 (some 146)) 139 16 (some 147)) 139 17 (some 148)) 139 18 (some 149)) 139 19 (some 150)) 139 20 (some 151)) 139 21 (some 152)) 139 22 (some 153)) 139 23 (some 154)) 139 24 (some 155)) 139 25 (some 156)) 139 26 (some 157)) 139 27 (some 158)) 139 30 (some 159)) 139 31 (some 160)) 139 33 (some 161)) 139 34 (some 162)) 139 35 (some 163)) 139 36 (some 164)) 139 37 (some 165)) 139 38 (some 166)) 139 39 (some 167)) 139 40 (some 168)) 139 41 (some 169)) 139 42 (some 170)) 171) _ _ _ _ _ _
  refine q_aload_n dX11_init_280 rfl ?_
  refine q_si (v := 420) dX11_init_281 rfl ?_
  refine q_mka (t := 20) (N := 420) dX11_init_284 (Nat.le_of_ble_eq_true rfl) rfl (Or.inl ⟨rfl, rfl⟩) q_ar_int rfl rfl (fun _ => rfl) (fun _ => rfl) (fun _ => rfl) (kc' := 32) (ks' := 83358) rfl rfl ⟨rfl, rfl⟩ ?_
  refine q_putR (c := 11) (n := 0) (k := 43) dX11_init_286 rfl (by decide) (by decide) fX11_109 rfl rfl rfl (Or.inr ⟨_, rfl⟩) ?_
  show q_K _ (q_z (q_up zI2 139 5 (-1)) zJ1 (q_up (q_up (q_up (q_up (q_up (q_up (q_up (q_up (q_up (q_up (q_up (q_up (q_up (q_up (q_up (q_up (q_up (q_up (q_up (q_up (q_up (q_up (q_up (q_up (q_up (q_up (q_up (q_up (q_up (q_up (q_up (q_up zR30 139 0 (some 140)) 139 1 (some 141)) 139 11 (some 142)) 139 12 (some 143)) 139 13 (some 144)) 139 14 (some 145)) 139 15 (some 146)) 139 16 (some 147)) 139 17 (some 148)) 139 18 (some 149)) 139 19 (some 150)) 139 20 (some 151)) 139 21 (some 152)) 139 22 (some 153)) 139 23 (some 154)) 139 24 (some 155)) 139 25 (some 156)) 139 26 (some 157)) 139 27 (some 158)) 139 30 (some 159)) 139 31 (some 160)) 139 33 (some 161)) 139 34 (some 162)) 139 35 (some 163)) 139 36 (some 164)) 139 37 (some 165)) 139 38 (some 166)) 139 39 (some 167)) 139 40 (some 168)) 139 41 (some 169)) 139 42 (some 170)) 139 43 (some 171)) 172) _ _ _ _ _ _
  refine q_aload_n dX11_init_289 rfl ?_
  refine q_si (v := 420) dX11_init_290 rfl ?_
  refine q_mka (t := 20) (N := 420) dX11_init_293 (Nat.le_of_ble_eq_true rfl) rfl (Or.inl ⟨rfl, rfl⟩) q_ar_int rfl rfl (fun _ => rfl) (fun _ => rfl) (fun _ => rfl) (kc' := 33) (ks' := 83778) rfl rfl ⟨rfl, rfl⟩ ?_
  refine q_putR (c := 11) (n := 0) (k := 44) dX11_init_295 rfl (by decide) (by decide) fX11_112 rfl rfl rfl (Or.inr ⟨_, rfl⟩) ?_
  show q_K _ (q_z (q_up zI2 139 5 (-1)) zJ1 (q_up (q_up (q_up (q_up (q_up (q_up (q_up (q_up (q_up (q_up (q_up (q_up (q_up (q_up (q_up (q_up (q_up (q_up (q_up (q_up (q_up (q_up (q_up (q_up (q_up (q_up (q_up (q_up (q_up (q_up (q_up (q_up (q_up zR30 139 0 (some 140)) 139 1 (some 141)) 139 11 (some 142)) 139 12 (some 143)) 139 13 (some 144)) 139 14 (some 145)) 139 15 (some 146)) 139 16 (some 147)) 139 17 (some 148)) 139 18 (some 149)) 139 19 (some 150)) 139 20 (some 151)) 139 21 (some 152)) 139 22 (some 153)) 139 23 (some 154)) 139 24 (some 155)) 139 25 (some 156)) 139 26 (some 157)) 139 27 (some 158)) 139 30 (some 159)) 139 31 (some 160)) 139 33 (some 161)) 139 34 (some 162)) 139 35 (some 163)) 139 36 (some 164)) 139 37 (some 165)) 139 38 (some 166)) 139 39 (some 167)) 139 40 (some 168)) 139 41 (some 169)) 139 42 (some 170)) 139 43 (some 171)) 139 44 (some 172)) 173) _ _ _ _ _ _
  refine q_aload_n dX11_init_298 rfl ?_
  refine q_si (v := 420) dX11_init_299 rfl ?_
  refine q_mka (t := 20) (N := 420) dX11_init_302 (Nat.le_of_ble_eq_true rfl) rfl (Or.inl ⟨rfl, rfl⟩) q_ar_int rfl rfl (fun _ => rfl) (fun _ => rfl) (fun _ => rfl) (kc' := 34) (ks' := 84198) rfl rfl ⟨rfl, rfl⟩ ?_
  refine q_putR (c := 11) (n := 0) (k := 45) dX11_init_304 rfl (by decide) (by decide) fX11_115 rfl rfl rfl (Or.inr ⟨_, rfl⟩) ?_
  show q_K _ (q_z (q_up zI2 139 5 (-1)) zJ1 (q_up (q_up (q_up (q_up (q_up (q_up (q_up (q_up (q_up (q_up (q_up (q_up (q_up (q_up (q_up (q_up (q_up (q_up (q_up (q_up (q_up (q_up (q_up (q_up (q_up (q_up (q_up (q_up (q_up (q_up (q_up (q_up (q_up (q_up zR30 139 0 (some 140)) 139 1 (some 141)) 139 11 (some 142)) 139 12 (some 143)) 139 13 (some 144)) 139 14 (some 145)) 139 15 (some 146)) 139 16 (some 147)) 139 17 (some 148)) 139 18 (some 149)) 139 19 (some 150)) 139 20 (some 151)) 139 21 (some 152)) 139 22 (some 153)) 139 23 (some 154)) 139 24 (some 155)) 139 25 (some 156)) 139 26 (some 157)) 139 27 (some 158)) 139 30 (some 159)) 139 31 (some 160)) 139 33 (some 161)) 139 34 (some 162)) 139 35 (some 163)) 139 36 (some 164)) 139 37 (some 165)) 139 38 (some 166)) 139 39 (some 167)) 139 40 (some 168)) 139 41 (some 169)) 139 42 (some 170)) 139 43 (some 171)) 139 44 (some 172)) 139 45 (some 173)) 174) _ _ _ _ _ _
  refine q_aload_n dX11_init_307 rfl ?_
  refine q_ic (v := (-1)) dX11_init_308 rfl ?_
  refine q_putI (c := 11) (n := 0) (k := 49) dX11_init_309 rfl (by decide) (by decide) fX11_118 rfl rfl ?_
  show q_K _ (q_z (q_up (q_up zI2 139 5 (-1)) 139 49 (-1)) zJ1 (q_up (q_up (q_up (q_up (q_up (q_up (q_up (q_up (q_up (q_up (q_up (q_up (q_up (q_up (q_up (q_up (q_up (q_up (q_up (q_up (q_up (q_up (q_up (q_up (q_up (q_up (q_up (q_up (q_up (q_up (q_up (q_up (q_up (q_up zR30 139 0 (some 140)) 139 1 (some 141)) 139 11 (some 142)) 139 12 (some 143)) 139 13 (some 144)) 139 14 (some 145)) 139 15 (some 146)) 139 16 (some 147)) 139 17 (some 148)) 139 18 (some 149)) 139 19 (some 150)) 139 20 (some 151)) 139 21 (some 152)) 139 22 (some 153)) 139 23 (some 154)) 139 24 (some 155)) 139 25 (some 156)) 139 26 (some 157)) 139 27 (some 158)) 139 30 (some 159)) 139 31 (some 160)) 139 33 (some 161)) 139 34 (some 162)) 139 35 (some 163)) 139 36 (some 164)) 139 37 (some 165)) 139 38 (some 166)) 139 39 (some 167)) 139 40 (some 168)) 139 41 (some 169)) 139 42 (some 170)) 139 43 (some 171)) 139 44 (some 172)) 139 45 (some 173)) 174) _ _ _ _ _ _
  refine q_aload_n dX11_init_312 rfl ?_
  refine q_si (v := 500) dX11_init_313 rfl ?_
  refine q_mka (t := 20) (N := 500) dX11_init_316 (Nat.le_of_ble_eq_true rfl) rfl (Or.inl ⟨rfl, rfl⟩) q_ar_int rfl rfl (fun _ => rfl) (fun _ => rfl) (fun _ => rfl) (kc' := 35) (ks' := 84698) rfl rfl ⟨rfl, rfl⟩ ?_
  refine q_putR (c := 11) (n := 0) (k := 52) dX11_init_318 rfl (by decide) (by decide) fX11_121 rfl rfl rfl (Or.inr ⟨_, rfl⟩) ?_
  show q_K _ (q_z (q_up (q_up zI2 139 5 (-1)) 139 49 (-1)) zJ1 (q_up (q_up (q_up (q_up (q_up (q_up (q_up (q_up (q_up (q_up (q_up (q_up (q_up (q_up (q_up (q_up (q_up (q_up (q_up (q_up (q_up (q_up (q_up (q_up (q_up (q_up (q_up (q_up (q_up (q_up (q_up (q_up (q_up (q_up (q_up zR30 139 0 (some 140)) 139 1 (some 141)) 139 11 (some 142)) 139 12 (some 143)) 139 13 (some 144)) 139 14 (some 145)) 139 15 (some 146)) 139 16 (some 147)) 139 17 (some 148)) 139 18 (some 149)) 139 19 (some 150)) 139 20 (some 151)) 139 21 (some 152)) 139 22 (some 153)) 139 23 (some 154)) 139 24 (some 155)) 139 25 (some 156)) 139 26 (some 157)) 139 27 (some 158)) 139 30 (some 159)) 139 31 (some 160)) 139 33 (some 161)) 139 34 (some 162)) 139 35 (some 163)) 139 36 (some 164)) 139 37 (some 165)) 139 38 (some 166)) 139 39 (some 167)) 139 40 (some 168)) 139 41 (some 169)) 139 42 (some 170)) 139 43 (some 171)) 139 44 (some 172)) 139 45 (some 173)) 139 52 (some 174)) 175) _ _ _ _ _ _
  refine q_aload_n dX11_init_321 rfl ?_
  refine q_si (v := 4096) dX11_init_322 rfl ?_
  refine q_mka (t := 23) (N := 4096) dX11_init_325 (Nat.le_of_ble_eq_true rfl) rfl (Or.inr (Or.inr (Or.inr ⟨rfl, rfl⟩))) q_ar_boolean rfl rfl (fun _ => rfl) (fun _ => rfl) (fun _ => rfl) (kc' := 36) (ks' := 88794) rfl rfl ⟨rfl, rfl⟩ ?_
  refine q_putR (c := 11) (n := 0) (k := 53) dX11_init_327 rfl (by decide) (by decide) fX11_124 rfl rfl rfl (Or.inr ⟨_, rfl⟩) ?_
  show q_K _ (q_z (q_up (q_up zI2 139 5 (-1)) 139 49 (-1)) zJ1 (q_up (q_up (q_up (q_up (q_up (q_up (q_up (q_up (q_up (q_up (q_up (q_up (q_up (q_up (q_up (q_up (q_up (q_up (q_up (q_up (q_up (q_up (q_up (q_up (q_up (q_up (q_up (q_up (q_up (q_up (q_up (q_up (q_up (q_up (q_up (q_up zR30 139 0 (some 140)) 139 1 (some 141)) 139 11 (some 142)) 139 12 (some 143)) 139 13 (some 144)) 139 14 (some 145)) 139 15 (some 146)) 139 16 (some 147)) 139 17 (some 148)) 139 18 (some 149)) 139 19 (some 150)) 139 20 (some 151)) 139 21 (some 152)) 139 22 (some 153)) 139 23 (some 154)) 139 24 (some 155)) 139 25 (some 156)) 139 26 (some 157)) 139 27 (some 158)) 139 30 (some 159)) 139 31 (some 160)) 139 33 (some 161)) 139 34 (some 162)) 139 35 (some 163)) 139 36 (some 164)) 139 37 (some 165)) 139 38 (some 166)) 139 39 (some 167)) 139 40 (some 168)) 139 41 (some 169)) 139 42 (some 170)) 139 43 (some 171)) 139 44 (some 172)) 139 45 (some 173)) 139 52 (some 174)) 139 53 (some 175)) 176) _ _ _ _ _ _
  refine q_aload_n dX11_init_330 rfl ?_
  refine q_bi (v := 40) dX11_init_331 rfl ?_
  refine q_mka (t := 20) (N := 40) dX11_init_333 (Nat.le_of_ble_eq_true rfl) rfl (Or.inl ⟨rfl, rfl⟩) q_ar_int rfl rfl (fun _ => rfl) (fun _ => rfl) (fun _ => rfl) (kc' := 37) (ks' := 88834) rfl rfl ⟨rfl, rfl⟩ ?_
  refine q_putR (c := 11) (n := 0) (k := 54) dX11_init_335 rfl (by decide) (by decide) fX11_128 rfl rfl rfl (Or.inr ⟨_, rfl⟩) ?_
  show q_K _ (q_z (q_up (q_up zI2 139 5 (-1)) 139 49 (-1)) zJ1 (q_up (q_up (q_up (q_up (q_up (q_up (q_up (q_up (q_up (q_up (q_up (q_up (q_up (q_up (q_up (q_up (q_up (q_up (q_up (q_up (q_up (q_up (q_up (q_up (q_up (q_up (q_up (q_up (q_up (q_up (q_up (q_up (q_up (q_up (q_up (q_up (q_up zR30 139 0 (some 140)) 139 1 (some 141)) 139 11 (some 142)) 139 12 (some 143)) 139 13 (some 144)) 139 14 (some 145)) 139 15 (some 146)) 139 16 (some 147)) 139 17 (some 148)) 139 18 (some 149)) 139 19 (some 150)) 139 20 (some 151)) 139 21 (some 152)) 139 22 (some 153)) 139 23 (some 154)) 139 24 (some 155)) 139 25 (some 156)) 139 26 (some 157)) 139 27 (some 158)) 139 30 (some 159)) 139 31 (some 160)) 139 33 (some 161)) 139 34 (some 162)) 139 35 (some 163)) 139 36 (some 164)) 139 37 (some 165)) 139 38 (some 166)) 139 39 (some 167)) 139 40 (some 168)) 139 41 (some 169)) 139 42 (some 170)) 139 43 (some 171)) 139 44 (some 172)) 139 45 (some 173)) 139 52 (some 174)) 139 53 (some 175)) 139 54 (some 176)) 177) _ _ _ _ _ _
  refine q_aload_n dX11_init_338 rfl ?_
  refine q_bi (v := 42) dX11_init_339 rfl ?_
  refine q_mka (t := 21) (N := 42) dX11_init_341 (Nat.le_of_ble_eq_true rfl) rfl (Or.inr (Or.inl ⟨rfl, rfl⟩)) q_ar_long rfl rfl (fun _ => rfl) (fun _ => rfl) (fun _ => rfl) (kc' := 38) (ks' := 88876) rfl rfl ⟨rfl, rfl⟩ ?_
  refine q_putR (c := 11) (n := 0) (k := 55) dX11_init_343 rfl (by decide) (by decide) fX11_131 rfl rfl rfl (Or.inr ⟨_, rfl⟩) ?_
  show q_K _ (q_z (q_up (q_up zI2 139 5 (-1)) 139 49 (-1)) zJ1 (q_up (q_up (q_up (q_up (q_up (q_up (q_up (q_up (q_up (q_up (q_up (q_up (q_up (q_up (q_up (q_up (q_up (q_up (q_up (q_up (q_up (q_up (q_up (q_up (q_up (q_up (q_up (q_up (q_up (q_up (q_up (q_up (q_up (q_up (q_up (q_up (q_up (q_up zR30 139 0 (some 140)) 139 1 (some 141)) 139 11 (some 142)) 139 12 (some 143)) 139 13 (some 144)) 139 14 (some 145)) 139 15 (some 146)) 139 16 (some 147)) 139 17 (some 148)) 139 18 (some 149)) 139 19 (some 150)) 139 20 (some 151)) 139 21 (some 152)) 139 22 (some 153)) 139 23 (some 154)) 139 24 (some 155)) 139 25 (some 156)) 139 26 (some 157)) 139 27 (some 158)) 139 30 (some 159)) 139 31 (some 160)) 139 33 (some 161)) 139 34 (some 162)) 139 35 (some 163)) 139 36 (some 164)) 139 37 (some 165)) 139 38 (some 166)) 139 39 (some 167)) 139 40 (some 168)) 139 41 (some 169)) 139 42 (some 170)) 139 43 (some 171)) 139 44 (some 172)) 139 45 (some 173)) 139 52 (some 174)) 139 53 (some 175)) 139 54 (some 176)) 139 55 (some 177)) 178) _ _ _ _ _ _
  refine q_aload_n dX11_init_346 rfl ?_
  refine q_bi (v := 42) dX11_init_347 rfl ?_
  refine q_mka (t := 21) (N := 42) dX11_init_349 (Nat.le_of_ble_eq_true rfl) rfl (Or.inr (Or.inl ⟨rfl, rfl⟩)) q_ar_long rfl rfl (fun _ => rfl) (fun _ => rfl) (fun _ => rfl) (kc' := 39) (ks' := 88918) rfl rfl ⟨rfl, rfl⟩ ?_
  refine q_putR (c := 11) (n := 0) (k := 56) dX11_init_351 rfl (by decide) (by decide) fX11_134 rfl rfl rfl (Or.inr ⟨_, rfl⟩) ?_
  show q_K _ (q_z (q_up (q_up zI2 139 5 (-1)) 139 49 (-1)) zJ1 (q_up (q_up (q_up (q_up (q_up (q_up (q_up (q_up (q_up (q_up (q_up (q_up (q_up (q_up (q_up (q_up (q_up (q_up (q_up (q_up (q_up (q_up (q_up (q_up (q_up (q_up (q_up (q_up (q_up (q_up (q_up (q_up (q_up (q_up (q_up (q_up (q_up (q_up (q_up zR30 139 0 (some 140)) 139 1 (some 141)) 139 11 (some 142)) 139 12 (some 143)) 139 13 (some 144)) 139 14 (some 145)) 139 15 (some 146)) 139 16 (some 147)) 139 17 (some 148)) 139 18 (some 149)) 139 19 (some 150)) 139 20 (some 151)) 139 21 (some 152)) 139 22 (some 153)) 139 23 (some 154)) 139 24 (some 155)) 139 25 (some 156)) 139 26 (some 157)) 139 27 (some 158)) 139 30 (some 159)) 139 31 (some 160)) 139 33 (some 161)) 139 34 (some 162)) 139 35 (some 163)) 139 36 (some 164)) 139 37 (some 165)) 139 38 (some 166)) 139 39 (some 167)) 139 40 (some 168)) 139 41 (some 169)) 139 42 (some 170)) 139 43 (some 171)) 139 44 (some 172)) 139 45 (some 173)) 139 52 (some 174)) 139 53 (some 175)) 139 54 (some 176)) 139 55 (some 177)) 139 56 (some 178)) 179) _ _ _ _ _ _
  refine q_aload_n dX11_init_354 rfl ?_
  refine q_bi (v := 42) dX11_init_355 rfl ?_
  refine q_mka (t := 21) (N := 42) dX11_init_357 (Nat.le_of_ble_eq_true rfl) rfl (Or.inr (Or.inl ⟨rfl, rfl⟩)) q_ar_long rfl rfl (fun _ => rfl) (fun _ => rfl) (fun _ => rfl) (kc' := 40) (ks' := 88960) rfl rfl ⟨rfl, rfl⟩ ?_
  refine q_putR (c := 11) (n := 0) (k := 57) dX11_init_359 rfl (by decide) (by decide) fX11_137 rfl rfl rfl (Or.inr ⟨_, rfl⟩) ?_
  show q_K _ (q_z (q_up (q_up zI2 139 5 (-1)) 139 49 (-1)) zJ1 (q_up (q_up (q_up (q_up (q_up (q_up (q_up (q_up (q_up (q_up (q_up (q_up (q_up (q_up (q_up (q_up (q_up (q_up (q_up (q_up (q_up (q_up (q_up (q_up (q_up (q_up (q_up (q_up (q_up (q_up (q_up (q_up (q_up (q_up (q_up (q_up (q_up (q_up (q_up (q_up zR30 139 0 (some 140)) 139 1 (some 141)) 139 11 (some 142)) 139 12 (some 143)) 139 13 (some 144)) 139 14 (some 145)) 139 15 (some 146)) 139 16 (some 147)) 139 17 (some 148)) 139 18 (some 149)) 139 19 (some 150)) 139 20 (some 151)) 139 21 (some 152)) 139 22 (some 153)) 139 23 (some 154)) 139 24 (some 155)) 139 25 (some 156)) 139 26 (some 157)) 139 27 (some 158)) 139 30 (some 159)) 139 31 (some 160)) 139 33 (some 161)) 139 34 (some 162)) 139 35 (some 163)) 139 36 (some 164)) 139 37 (some 165)) 139 38 (some 166)) 139 39 (some 167)) 139 40 (some 168)) 139 41 (some 169)) 139 42 (some 170)) 139 43 (some 171)) 139 44 (some 172)) 139 45 (some 173)) 139 52 (some 174)) 139 53 (some 175)) 139 54 (some 176)) 139 55 (some 177)) 139 56 (some 178)) 139 57 (some 179)) 180) _ _ _ _ _ _
  refine q_aload_n dX11_init_362 rfl ?_
  refine q_bi (v := 42) dX11_init_363 rfl ?_
  refine q_mka (t := 20) (N := 42) dX11_init_365 (Nat.le_of_ble_eq_true rfl) rfl (Or.inl ⟨rfl, rfl⟩) q_ar_int rfl rfl (fun _ => rfl) (fun _ => rfl) (fun _ => rfl) (kc' := 41) (ks' := 89002) rfl rfl ⟨rfl, rfl⟩ ?_
  refine q_putR (c := 11) (n := 0) (k := 58) dX11_init_367 rfl (by decide) (by decide) fX11_140 rfl rfl rfl (Or.inr ⟨_, rfl⟩) ?_
  show q_K _ (q_z (q_up (q_up zI2 139 5 (-1)) 139 49 (-1)) zJ1 (q_up (q_up (q_up (q_up (q_up (q_up (q_up (q_up (q_up (q_up (q_up (q_up (q_up (q_up (q_up (q_up (q_up (q_up (q_up (q_up (q_up (q_up (q_up (q_up (q_up (q_up (q_up (q_up (q_up (q_up (q_up (q_up (q_up (q_up (q_up (q_up (q_up (q_up (q_up (q_up (q_up zR30 139 0 (some 140)) 139 1 (some 141)) 139 11 (some 142)) 139 12 (some 143)) 139 13 (some 144)) 139 14 (some 145)) 139 15 (some 146)) 139 16 (some 147)) 139 17 (some 148)) 139 18 (some 149)) 139 19 (some 150)) 139 20 (some 151)) 139 21 (some 152)) 139 22 (some 153)) 139 23 (some 154)) 139 24 (some 155)) 139 25 (some 156)) 139 26 (some 157)) 139 27 (some 158)) 139 30 (some 159)) 139 31 (some 160)) 139 33 (some 161)) 139 34 (some 162)) 139 35 (some 163)) 139 36 (some 164)) 139 37 (some 165)) 139 38 (some 166)) 139 39 (some 167)) 139 40 (some 168)) 139 41 (some 169)) 139 42 (some 170)) 139 43 (some 171)) 139 44 (some 172)) 139 45 (some 173)) 139 52 (some 174)) 139 53 (some 175)) 139 54 (some 176)) 139 55 (some 177)) 139 56 (some 178)) 139 57 (some 179)) 139 58 (some 180)) 181) _ _ _ _ _ _
  refine q_aload_n dX11_init_370 rfl ?_
  refine q_bi (v := 42) dX11_init_371 rfl ?_
  refine q_mka (t := 20) (N := 42) dX11_init_373 (Nat.le_of_ble_eq_true rfl) rfl (Or.inl ⟨rfl, rfl⟩) q_ar_int rfl rfl (fun _ => rfl) (fun _ => rfl) (fun _ => rfl) (kc' := 42) (ks' := 89044) rfl rfl ⟨rfl, rfl⟩ ?_
  refine q_putR (c := 11) (n := 0) (k := 59) dX11_init_375 rfl (by decide) (by decide) fX11_143 rfl rfl rfl (Or.inr ⟨_, rfl⟩) ?_
  show q_K _ (q_z (q_up (q_up zI2 139 5 (-1)) 139 49 (-1)) zJ1 (q_up (q_up (q_up (q_up (q_up (q_up (q_up (q_up (q_up (q_up (q_up (q_up (q_up (q_up (q_up (q_up (q_up (q_up (q_up (q_up (q_up (q_up (q_up (q_up (q_up (q_up (q_up (q_up (q_up (q_up (q_up (q_up (q_up (q_up (q_up (q_up (q_up (q_up (q_up (q_up (q_up (q_up zR30 139 0 (some 140)) 139 1 (some 141)) 139 11 (some 142)) 139 12 (some 143)) 139 13 (some 144)) 139 14 (some 145)) 139 15 (some 146)) 139 16 (some 147)) 139 17 (some 148)) 139 18 (some 149)) 139 19 (some 150)) 139 20 (some 151)) 139 21 (some 152)) 139 22 (some 153)) 139 23 (some 154)) 139 24 (some 155)) 139 25 (some 156)) 139 26 (some 157)) 139 27 (some 158)) 139 30 (some 159)) 139 31 (some 160)) 139 33 (some 161)) 139 34 (some 162)) 139 35 (some 163)) 139 36 (some 164)) 139 37 (some 165)) 139 38 (some 166)) 139 39 (some 167)) 139 40 (some 168)) 139 41 (some 169)) 139 42 (some 170)) 139 43 (some 171)) 139 44 (some 172)) 139 45 (some 173)) 139 52 (some 174)) 139 53 (some 175)) 139 54 (some 176)) 139 55 (some 177)) 139 56 (some 178)) 139 57 (some 179)) 139 58 (some 180)) 139 59 (some 181)) 182) _ _ _ _ _ _
  refine q_aload_n dX11_init_378 rfl ?_
  refine q_bi (v := 40) dX11_init_379 rfl ?_
  refine q_mka (t := 20) (N := 40) dX11_init_381 (Nat.le_of_ble_eq_true rfl) rfl (Or.inl ⟨rfl, rfl⟩) q_ar_int rfl rfl (fun _ => rfl) (fun _ => rfl) (fun _ => rfl) (kc' := 43) (ks' := 89084) rfl rfl ⟨rfl, rfl⟩ ?_
  refine q_putR (c := 11) (n := 0) (k := 64) dX11_init_383 rfl (by decide) (by decide) fX11_146 rfl rfl rfl (Or.inr ⟨_, rfl⟩) ?_
  show q_K _ (q_z (q_up (q_up zI2 139 5 (-1)) 139 49 (-1)) zJ1 (q_up (q_up (q_up (q_up (q_up (q_up (q_up (q_up (q_up (q_up (q_up (q_up (q_up (q_up (q_up (q_up (q_up (q_up (q_up (q_up (q_up (q_up (q_up (q_up (q_up (q_up (q_up (q_up (q_up (q_up (q_up (q_up (q_up (q_up (q_up (q_up (q_up (q_up (q_up (q_up (q_up (q_up (q_up zR30 139 0 (some 140)) 139 1 (some 141)) 139 11 (some 142)) 139 12 (some 143)) 139 13 (some 144)) 139 14 (some 145)) 139 15 (some 146)) 139 16 (some 147)) 139 17 (some 148)) 139 18 (some 149)) 139 19 (some 150)) 139 20 (some 151)) 139 21 (some 152)) 139 22 (some 153)) 139 23 (some 154)) 139 24 (some 155)) 139 25 (some 156)) 139 26 (some 157)) 139 27 (some 158)) 139 30 (some 159)) 139 31 (some 160)) 139 33 (some 161)) 139 34 (some 162)) 139 35 (some 163)) 139 36 (some 164)) 139 37 (some 165)) 139 38 (some 166)) 139 39 (some 167)) 139 40 (some 168)) 139 41 (some 169)) 139 42 (some 170)) 139 43 (some 171)) 139 44 (some 172)) 139 45 (some 173)) 139 52 (some 174)) 139 53 (some 175)) 139 54 (some 176)) 139 55 (some 177)) 139 56 (some 178)) 139 57 (some 179)) 139 58 (some 180)) 139 59 (some 181)) 139 64 (some 182)) 183) _ _ _ _ _ _
  refine q_aload_n dX11_init_386 rfl ?_
  refine q_bi (v := 42) dX11_init_387 rfl ?_
  refine q_mka (t := 20) (N := 42) dX11_init_389 (Nat.le_of_ble_eq_true rfl) rfl (Or.inl ⟨rfl, rfl⟩) q_ar_int rfl rfl (fun _ => rfl) (fun _ => rfl) (fun _ => rfl) (kc' := 44) (ks' := 89126) rfl rfl ⟨rfl, rfl⟩ ?_
  refine q_putR (c := 11) (n := 0) (k := 65) dX11_init_391 rfl (by decide) (by decide) fX11_149 rfl rfl rfl (Or.inr ⟨_, rfl⟩) ?_
  show q_K _ (q_z (q_up (q_up zI2 139 5 (-1)) 139 49 (-1)) zJ1 (q_up (q_up (q_up (q_up (q_up (q_up (q_up (q_up (q_up (q_up (q_up (q_up (q_up (q_up (q_up (q_up (q_up (q_up (q_up (q_up (q_up (q_up (q_up (q_up (q_up (q_up (q_up (q_up (q_up (q_up (q_up (q_up (q_up (q_up (q_up (q_up (q_up (q_up (q_up (q_up (q_up (q_up (q_up (q_up zR30 139 0 (some 140)) 139 1 (some 141)) 139 11 (some 142)) 139 12 (some 143)) 139 13 (some 144)) 139 14 (some 145)) 139 15 (some 146)) 139 16 (some 147)) 139 17 (some 148)) 139 18 (some 149)) 139 19 (some 150)) 139 20 (some 151)) 139 21 (some 152)) 139 22 (some 153)) 139 23 (some 154)) 139 24 (some 155)) 139 25 (some 156)) 139 26 (some 157)) 139 27 (some 158)) 139 30 (some 159)) 139 31 (some 160)) 139 33 (some 161)) 139 34 (some 162)) 139 35 (some 163)) 139 36 (some 164)) 139 37 (some 165)) 139 38 (some 166)) 139 39 (some 167)) 139 40 (some 168)) 139 41 (some 169)) 139 42 (some 170)) 139 43 (some 171)) 139 44 (some 172)) 139 45 (some 173)) 139 52 (some 174)) 139 53 (some 175)) 139 54 (some 176)) 139 55 (some 177)) 139 56 (some 178)) 139 57 (some 179)) 139 58 (some 180)) 139 59 (some 181)) 139 64 (some 182)) 139 65 (some 183)) 184) _ _ _ _ _ _
  refine q_aload_n dX11_init_394 rfl ?_
  refine q_bi (v := 40) dX11_init_395 rfl ?_
  refine q_mka (t := 20) (N := 40) dX11_init_397 (Nat.le_of_ble_eq_true rfl) rfl (Or.inl ⟨rfl, rfl⟩) q_ar_int rfl rfl (fun _ => rfl) (fun _ => rfl) (fun _ => rfl) (kc' := 45) (ks' := 89166) rfl rfl ⟨rfl, rfl⟩ ?_
  refine q_putR (c := 11) (n := 0) (k := 66) dX11_init_399 rfl (by decide) (by decide) fX11_152 rfl rfl rfl (Or.inr ⟨_, rfl⟩) ?_
  show q_K _ (q_z (q_up (q_up zI2 139 5 (-1)) 139 49 (-1)) zJ1 (q_up (q_up (q_up (q_up (q_up (q_up (q_up (q_up (q_up (q_up (q_up (q_up (q_up (q_up (q_up (q_up (q_up (q_up (q_up (q_up (q_up (q_up (q_up (q_up (q_up (q_up (q_up (q_up (q_up (q_up (q_up (q_up (q_up (q_up (q_up (q_up (q_up (q_up (q_up (q_up (q_up (q_up (q_up (q_up (q_up zR30 139 0 (some 140)) 139 1 (some 141)) 139 11 (some 142)) 139 12 (some 143)) 139 13 (some 144)) 139 14 (some 145)) 139 15 (some 146)) 139 16 (some 147)) 139 17 (some 148)) 139 18 (some 149)) 139 19 (some 150)) 139 20 (some 151)) 139 21 (some 152)) 139 22 (some 153)) 139 23 (some 154)) 139 24 (some 155)) 139 25 (some 156)) 139 26 (some 157)) 139 27 (some 158)) 139 30 (some 159)) 139 31 (some 160)) 139 33 (some 161)) 139 34 (some 162)) 139 35 (some 163)) 139 36 (some 164)) 139 37 (some 165)) 139 38 (some 166)) 139 39 (some 167)) 139 40 (some 168)) 139 41 (some 169)) 139 42 (some 170)) 139 43 (some 171)) 139 44 (some 172)) 139 45 (some 173)) 139 52 (some 174)) 139 53 (some 175)) 139 54 (some 176)) 139 55 (some 177)) 139 56 (some 178)) 139 57 (some 179)) 139 58 (some 180)) 139 59 (some 181)) 139 64 (some 182)) 139 65 (some 183)) 139 66 (some 184)) 185) _ _ _ _ _ _
  refine q_aload_n dX11_init_402 rfl ?_
  refine q_bi (v := 40) dX11_init_403 rfl ?_
  refine q_mka (t := 20) (N := 40) dX11_init_405 (Nat.le_of_ble_eq_true rfl) rfl (Or.inl ⟨rfl, rfl⟩) q_ar_int rfl rfl (fun _ => rfl) (fun _ => rfl) (fun _ => rfl) (kc' := 46) (ks' := 89206) rfl rfl ⟨rfl, rfl⟩ ?_
  refine q_putR (c := 11) (n := 0) (k := 67) dX11_init_407 rfl (by decide) (by decide) fX11_155 rfl rfl rfl (Or.inr ⟨_, rfl⟩) ?_
  show q_K _ (q_z (q_up (q_up zI2 139 5 (-1)) 139 49 (-1)) zJ1 (q_up (q_up (q_up (q_up (q_up (q_up (q_up (q_up (q_up (q_up (q_up (q_up (q_up (q_up (q_up (q_up (q_up (q_up (q_up (q_up (q_up (q_up (q_up (q_up (q_up (q_up (q_up (q_up (q_up (q_up (q_up (q_up (q_up (q_up (q_up (q_up (q_up (q_up (q_up (q_up (q_up (q_up (q_up (q_up (q_up (q_up zR30 139 0 (some 140)) 139 1 (some 141)) 139 11 (some 142)) 139 12 (some 143)) 139 13 (some 144)) 139 14 (some 145)) 139 15 (some 146)) 139 16 (some 147)) 139 17 (some 148)) 139 18 (some 149)) 139 19 (some 150)) 139 20 (some 151)) 139 21 (some 152)) 139 22 (some 153)) 139 23 (some 154)) 139 24 (some 155)) 139 25 (some 156)) 139 26 (some 157)) 139 27 (some 158)) 139 30 (some 159)) 139 31 (some 160)) 139 33 (some 161)) 139 34 (some 162)) 139 35 (some 163)) 139 36 (some 164)) 139 37 (some 165)) 139 38 (some 166)) 139 39 (some 167)) 139 40 (some 168)) 139 41 (some 169)) 139 42 (some 170)) 139 43 (some 171)) 139 44 (some 172)) 139 45 (some 173)) 139 52 (some 174)) 139 53 (some 175)) 139 54 (some 176)) 139 55 (some 177)) 139 56 (some 178)) 139 57 (some 179)) 139 58 (some 180)) 139 59 (some 181)) 139 64 (some 182)) 139 65 (some 183)) 139 66 (some 184)) 139 67 (some 185)) 186) _ _ _ _ _ _
  refine q_aload_n dX11_init_410 rfl ?_
  refine q_bi (v := 40) dX11_init_411 rfl ?_
  refine q_mka (t := 20) (N := 40) dX11_init_413 (Nat.le_of_ble_eq_true rfl) rfl (Or.inl ⟨rfl, rfl⟩) q_ar_int rfl rfl (fun _ => rfl) (fun _ => rfl) (fun _ => rfl) (kc' := 47) (ks' := 89246) rfl rfl ⟨rfl, rfl⟩ ?_
  refine q_putR (c := 11) (n := 0) (k := 68) dX11_init_415 rfl (by decide) (by decide) fX11_158 rfl rfl rfl (Or.inr ⟨_, rfl⟩) ?_
  show q_K _ (q_z (q_up (q_up zI2 139 5 (-1)) 139 49 (-1)) zJ1 (q_up (q_up (q_up (q_up (q_up (q_up (q_up (q_up (q_up (q_up (q_up (q_up (q_up (q_up (q_up (q_up (q_up (q_up (q_up (q_up (q_up (q_up (q_up (q_up (q_up (q_up (q_up (q_up (q_up (q_up (q_up (q_up (q_up (q_up (q_up (q_up (q_up (q_up (q_up (q_up (q_up (q_up (q_up (q_up (q_up (q_up (q_up zR30 139 0 (some 140)) 139 1 (some 141)) 139 11 (some 142)) 139 12 (some 143)) 139 13 (some 144)) 139 14 (some 145)) 139 15 (some 146)) 139 16 (some 147)) 139 17 (some 148)) 139 18 (some 149)) 139 19 (some 150)) 139 20 (some 151)) 139 21 (some 152)) 139 22 (some 153)) 139 23 (some 154)) 139 24 (some 155)) 139 25 (some 156)) 139 26 (some 157)) 139 27 (some 158)) 139 30 (some 159)) 139 31 (some 160)) 139 33 (some 161)) 139 34 (some 162)) 139 35 (some 163)) 139 36 (some 164)) 139 37 (some 165)) 139 38 (some 166)) 139 39 (some 167)) 139 40 (some 168)) 139 41 (some 169)) 139 42 (some 170)) 139 43 (some 171)) 139 44 (some 172)) 139 45 (some 173)) 139 52 (some 174)) 139 53 (some 175)) 139 54 (some 176)) 139 55 (some 177)) 139 56 (some 178)) 139 57 (some 179)) 139 58 (some 180)) 139 59 (some 181)) 139 64 (some 182)) 139 65 (some 183)) 139 66 (some 184)) 139 67 (some 185)) 139 68 (some 186)) 187) _ _ _ _ _ _
  refine q_aload_n dX11_init_418 rfl ?_
  refine q_bi (v := 40) dX11_init_419 rfl ?_
  refine q_mka (t := 20) (N := 40) dX11_init_421 (Nat.le_of_ble_eq_true rfl) rfl (Or.inl ⟨rfl, rfl⟩) q_ar_int rfl rfl (fun _ => rfl) (fun _ => rfl) (fun _ => rfl) (kc' := 48) (ks' := 89286) rfl rfl ⟨rfl, rfl⟩ ?_
  refine q_putR (c := 11) (n := 0) (k := 69) dX11_init_423 rfl (by decide) (by decide) fX11_161 rfl rfl rfl (Or.inr ⟨_, rfl⟩) ?_
  show q_K _ (q_z (q_up (q_up zI2 139 5 (-1)) 139 49 (-1)) zJ1 (q_up (q_up (q_up (q_up (q_up (q_up (q_up (q_up (q_up (q_up (q_up (q_up (q_up (q_up (q_up (q_up (q_up (q_up (q_up (q_up (q_up (q_up (q_up (q_up (q_up (q_up (q_up (q_up (q_up (q_up (q_up (q_up (q_up (q_up (q_up (q_up (q_up (q_up (q_up (q_up (q_up (q_up (q_up (q_up (q_up (q_up (q_up (q_up zR30 139 0 (some 140)) 139 1 (some 141)) 139 11 (some 142)) 139 12 (some 143)) 139 13 (some 144)) 139 14 (some 145)) 139 15 (some 146)) 139 16 (some 147)) 139 17 (some 148)) 139 18 (some 149)) 139 19 (some 150)) 139 20 (some 151)) 139 21 (some 152)) 139 22 (some 153)) 139 23 (some 154)) 139 24 (some 155)) 139 25 (some 156)) 139 26 (some 157)) 139 27 (some 158)) 139 30 (some 159)) 139 31 (some 160)) 139 33 (some 161)) 139 34 (some 162)) 139 35 (some 163)) 139 36 (some 164)) 139 37 (some 165)) 139 38 (some 166)) 139 39 (some 167)) 139 40 (some 168)) 139 41 (some 169)) 139 42 (some 170)) 139 43 (some 171)) 139 44 (some 172)) 139 45 (some 173)) 139 52 (some 174)) 139 53 (some 175)) 139 54 (some 176)) 139 55 (some 177)) 139 56 (some 178)) 139 57 (some 179)) 139 58 (some 180)) 139 59 (some 181)) 139 64 (some 182)) 139 65 (some 183)) 139 66 (some 184)) 139 67 (some 185)) 139 68 (some 186)) 139 69 (some 187)) 188) _ _ _ _ _ _
  refine q_aload_n dX11_init_426 rfl ?_
  refine q_si (v := 152) dX11_init_427 rfl ?_
  refine q_mka (t := 20) (N := 152) dX11_init_430 (Nat.le_of_ble_eq_true rfl) rfl (Or.inl ⟨rfl, rfl⟩) q_ar_int rfl rfl (fun _ => rfl) (fun _ => rfl) (fun _ => rfl) (kc' := 49) (ks' := 89438) rfl rfl ⟨rfl, rfl⟩ ?_
  refine q_putR (c := 11) (n := 0) (k := 72) dX11_init_432 rfl (by decide) (by decide) fX11_164 rfl rfl rfl (Or.inr ⟨_, rfl⟩) ?_
  show q_K _ (q_z (q_up (q_up zI2 139 5 (-1)) 139 49 (-1)) zJ1 (q_up (q_up (q_up (q_up (q_up (q_up (q_up (q_up (q_up (q_up (q_up (q_up (q_up (q_up (q_up (q_up (q_up (q_up (q_up (q_up (q_up (q_up (q_up (q_up (q_up (q_up (q_up (q_up (q_up (q_up (q_up (q_up (q_up (q_up (q_up (q_up (q_up (q_up (q_up (q_up (q_up (q_up (q_up (q_up (q_up (q_up (q_up (q_up (q_up zR30 139 0 (some 140)) 139 1 (some 141)) 139 11 (some 142)) 139 12 (some 143)) 139 13 (some 144)) 139 14 (some 145)) 139 15 (some 146)) 139 16 (some 147)) 139 17 (some 148)) 139 18 (some 149)) 139 19 (some 150)) 139 20 (some 151)) 139 21 (some 152)) 139 22 (some 153)) 139 23 (some 154)) 139 24 (some 155)) 139 25 (some 156)) 139 26 (some 157)) 139 27 (some 158)) 139 30 (some 159)) 139 31 (some 160)) 139 33 (some 161)) 139 34 (some 162)) 139 35 (some 163)) 139 36 (some 164)) 139 37 (some 165)) 139 38 (some 166)) 139 39 (some 167)) 139 40 (some 168)) 139 41 (some 169)) 139 42 (some 170)) 139 43 (some 171)) 139 44 (some 172)) 139 45 (some 173)) 139 52 (some 174)) 139 53 (some 175)) 139 54 (some 176)) 139 55 (some 177)) 139 56 (some 178)) 139 57 (some 179)) 139 58 (some 180)) 139 59 (some 181)) 139 64 (some 182)) 139 65 (some 183)) 139 66 (some 184)) 139 67 (some 185)) 139 68 (some 186)) 139 69 (some 187)) 139 72 (some 188)) 189) _ _ _ _ _ _
  refine q_aload_n dX11_init_435 rfl ?_
  refine q_si (v := 152) dX11_init_436 rfl ?_
  refine q_mka (t := 20) (N := 152) dX11_init_439 (Nat.le_of_ble_eq_true rfl) rfl (Or.inl ⟨rfl, rfl⟩) q_ar_int rfl rfl (fun _ => rfl) (fun _ => rfl) (fun _ => rfl) (kc' := 50) (ks' := 89590) rfl rfl ⟨rfl, rfl⟩ ?_
  refine q_putR (c := 11) (n := 0) (k := 73) dX11_init_441 rfl (by decide) (by decide) fX11_167 rfl rfl rfl (Or.inr ⟨_, rfl⟩) ?_
  show q_K _ (q_z (q_up (q_up zI2 139 5 (-1)) 139 49 (-1)) zJ1 (q_up (q_up (q_up (q_up (q_up (q_up (q_up (q_up (q_up (q_up (q_up (q_up (q_up (q_up (q_up (q_up (q_up (q_up (q_up (q_up (q_up (q_up (q_up (q_up (q_up (q_up (q_up (q_up (q_up (q_up (q_up (q_up (q_up (q_up (q_up (q_up (q_up (q_up (q_up (q_up (q_up (q_up (q_up (q_up (q_up (q_up (q_up (q_up (q_up (q_up zR30 139 0 (some 140)) 139 1 (some 141)) 139 11 (some 142)) 139 12 (some 143)) 139 13 (some 144)) 139 14 (some 145)) 139 15 (some 146)) 139 16 (some 147)) 139 17 (some 148)) 139 18 (some 149)) 139 19 (some 150)) 139 20 (some 151)) 139 21 (some 152)) 139 22 (some 153)) 139 23 (some 154)) 139 24 (some 155)) 139 25 (some 156)) 139 26 (some 157)) 139 27 (some 158)) 139 30 (some 159)) 139 31 (some 160)) 139 33 (some 161)) 139 34 (some 162)) 139 35 (some 163)) 139 36 (some 164)) 139 37 (some 165)) 139 38 (some 166)) 139 39 (some 167)) 139 40 (some 168)) 139 41 (some 169)) 139 42 (some 170)) 139 43 (some 171)) 139 44 (some 172)) 139 45 (some 173)) 139 52 (some 174)) 139 53 (some 175)) 139 54 (some 176)) 139 55 (some 177)) 139 56 (some 178)) 139 57 (some 179)) 139 58 (some 180)) 139 59 (some 181)) 139 64 (some 182)) 139 65 (some 183)) 139 66 (some 184)) 139 67 (some 185)) 139 68 (some 186)) 139 69 (some 187)) 139 72 (some 188)) 139 73 (some 189)) 190) _ _ _ _ _ _
  refine q_aload_n dX11_init_444 rfl ?_
  refine q_si (v := 152) dX11_init_445 rfl ?_
  refine q_mka (t := 20) (N := 152) dX11_init_448 (Nat.le_of_ble_eq_true rfl) rfl (Or.inl ⟨rfl, rfl⟩) q_ar_int rfl rfl (fun _ => rfl) (fun _ => rfl) (fun _ => rfl) (kc' := 51) (ks' := 89742) rfl rfl ⟨rfl, rfl⟩ ?_
  refine q_putR (c := 11) (n := 0) (k := 74) dX11_init_450 rfl (by decide) (by decide) fX11_170 rfl rfl rfl (Or.inr ⟨_, rfl⟩) ?_
  show q_K _ (q_z (q_up (q_up zI2 139 5 (-1)) 139 49 (-1)) zJ1 (q_up (q_up (q_up (q_up (q_up (q_up (q_up (q_up (q_up (q_up (q_up (q_up (q_up (q_up (q_up (q_up (q_up (q_up (q_up (q_up (q_up (q_up (q_up (q_up (q_up (q_up (q_up (q_up (q_up (q_up (q_up (q_up (q_up (q_up (q_up (q_up (q_up (q_up (q_up (q_up (q_up (q_up (q_up (q_up (q_up (q_up (q_up (q_up (q_up (q_up (q_up zR30 139 0 (some 140)) 139 1 (some 141)) 139 11 (some 142)) 139 12 (some 143)) 139 13 (some 144)) 139 14 (some 145)) 139 15 (some 146)) 139 16 (some 147)) 139 17 (some 148)) 139 18 (some 149)) 139 19 (some 150)) 139 20 (some 151)) 139 21 (some 152)) 139 22 (some 153)) 139 23 (some 154)) 139 24 (some 155)) 139 25 (some 156)) 139 26 (some 157)) 139 27 (some 158)) 139 30 (some 159)) 139 31 (some 160)) 139 33 (some 161)) 139 34 (some 162)) 139 35 (some 163)) 139 36 (some 164)) 139 37 (some 165)) 139 38 (some 166)) 139 39 (some 167)) 139 40 (some 168)) 139 41 (some 169)) 139 42 (some 170)) 139 43 (some 171)) 139 44 (some 172)) 139 45 (some 173)) 139 52 (some 174)) 139 53 (some 175)) 139 54 (some 176)) 139 55 (some 177)) 139 56 (some 178)) 139 57 (some 179)) 139 58 (some 180)) 139 59 (some 181)) 139 64 (some 182)) 139 65 (some 183)) 139 66 (some 184)) 139 67 (some 185)) 139 68 (some 186)) 139 69 (some 187)) 139 72 (some 188)) 139 73 (some 189)) 139 74 (some 190)) 191) _ _ _ _ _ _
  refine q_aload_n dX11_init_453 rfl ?_
  refine q_si (v := 152) dX11_init_454 rfl ?_
  refine q_mka (t := 20) (N := 152) dX11_init_457 (Nat.le_of_ble_eq_true rfl) rfl (Or.inl ⟨rfl, rfl⟩) q_ar_int rfl rfl (fun _ => rfl) (fun _ => rfl) (fun _ => rfl) (kc' := 52) (ks' := 89894) rfl rfl ⟨rfl, rfl⟩ ?_
  refine q_putR (c := 11) (n := 0) (k := 75) dX11_init_459 rfl (by decide) (by decide) fX11_173 rfl rfl rfl (Or.inr ⟨_, rfl⟩) ?_
  show q_K _ (q_z (q_up (q_up zI2 139 5 (-1)) 139 49 (-1)) zJ1 (q_up (q_up (q_up (q_up (q_up (q_up (q_up (q_up (q_up (q_up (q_up (q_up (q_up (q_up (q_up (q_up (q_up (q_up (q_up (q_up (q_up (q_up (q_up (q_up (q_up (q_up (q_up (q_up (q_up (q_up (q_up (q_up (q_up (q_up (q_up (q_up (q_up (q_up (q_up (q_up (q_up (q_up (q_up (q_up (q_up (q_up (q_up (q_up (q_up (q_up (q_up (q_up zR30 139 0 (some 140)) 139 1 (some 141)) 139 11 (some 142)) 139 12 (some 143)) 139 13 (some 144)) 139 14 (some 145)) 139 15 (some 146)) 139 16 (some 147)) 139 17 (some 148)) 139 18 (some 149)) 139 19 (some 150)) 139 20 (some 151)) 139 21 (some 152)) 139 22 (some 153)) 139 23 (some 154)) 139 24 (some 155)) 139 25 (some 156)) 139 26 (some 157)) 139 27 (some 158)) 139 30 (some 159)) 139 31 (some 160)) 139 33 (some 161)) 139 34 (some 162)) 139 35 (some 163)) 139 36 (some 164)) 139 37 (some 165)) 139 38 (some 166)) 139 39 (some 167)) 139 40 (some 168)) 139 41 (some 169)) 139 42 (some 170)) 139 43 (some 171)) 139 44 (some 172)) 139 45 (some 173)) 139 52 (some 174)) 139 53 (some 175)) 139 54 (some 176)) 139 55 (some 177)) 139 56 (some 178)) 139 57 (some 179)) 139 58 (some 180)) 139 59 (some 181)) 139 64 (some 182)) 139 65 (some 183)) 139 66 (some 184)) 139 67 (some 185)) 139 68 (some 186)) 139 69 (some 187)) 139 72 (some 188)) 139 73 (some 189)) 139 74 (some 190)) 139 75 (some 191)) 192) _ _ _ _ _ _
  refine q_aload_n dX11_init_462 rfl ?_
  refine q_si (v := 4100) dX11_init_463 rfl ?_
  refine q_mka (t := 20) (N := 4100) dX11_init_466 (Nat.le_of_ble_eq_true rfl) rfl (Or.inl ⟨rfl, rfl⟩) q_ar_int rfl rfl (fun _ => rfl) (fun _ => rfl) (fun _ => rfl) (kc' := 53) (ks' := 93994) rfl rfl ⟨rfl, rfl⟩ ?_
  refine q_putR (c := 11) (n := 0) (k := 76) dX11_init_468 rfl (by decide) (by decide) fX11_176 rfl rfl rfl (Or.inr ⟨_, rfl⟩) ?_
  show q_K _ (q_z (q_up (q_up zI2 139 5 (-1)) 139 49 (-1)) zJ1 (q_up (q_up (q_up (q_up (q_up (q_up (q_up (q_up (q_up (q_up (q_up (q_up (q_up (q_up (q_up (q_up (q_up (q_up (q_up (q_up (q_up (q_up (q_up (q_up (q_up (q_up (q_up (q_up (q_up (q_up (q_up (q_up (q_up (q_up (q_up (q_up (q_up (q_up (q_up (q_up (q_up (q_up (q_up (q_up (q_up (q_up (q_up (q_up (q_up (q_up (q_up (q_up (q_up zR30 139 0 (some 140)) 139 1 (some 141)) 139 11 (some 142)) 139 12 (some 143)) 139 13 (some 144)) 139 14 (some 145)) 139 15 (some 146)) 139 16 (some 147)) 139 17 (some 148)) 139 18 (some 149)) 139 19 (some 150)) 139 20 (some 151)) 139 21 (some 152)) 139 22 (some 153)) 139 23 (some 154)) 139 24 (some 155)) 139 25 (some 156)) 139 26 (some 157)) 139 27 (some 158)) 139 30 (some 159)) 139 31 (some 160)) 139 33 (some 161)) 139 34 (some 162)) 139 35 (some 163)) 139 36 (some 164)) 139 37 (some 165)) 139 38 (some 166)) 139 39 (some 167)) 139 40 (some 168)) 139 41 (some 169)) 139 42 (some 170)) 139 43 (some 171)) 139 44 (some 172)) 139 45 (some 173)) 139 52 (some 174)) 139 53 (some 175)) 139 54 (some 176)) 139 55 (some 177)) 139 56 (some 178)) 139 57 (some 179)) 139 58 (some 180)) 139 59 (some 181)) 139 64 (some 182)) 139 65 (some 183)) 139 66 (some 184)) 139 67 (some 185)) 139 68 (some 186)) 139 69 (some 187)) 139 72 (some 188)) 139 73 (some 189)) 139 74 (some 190)) 139 75 (some 191)) 139 76 (some 192)) 193) _ _ _ _ _ _
  refine q_aload_n dX11_init_471 rfl ?_
  refine q_si (v := 4100) dX11_init_472 rfl ?_
  refine q_mka (t := 20) (N := 4100) dX11_init_475 (Nat.le_of_ble_eq_true rfl) rfl (Or.inl ⟨rfl, rfl⟩) q_ar_int rfl rfl (fun _ => rfl) (fun _ => rfl) (fun _ => rfl) (kc' := 54) (ks' := 98094) rfl rfl ⟨rfl, rfl⟩ ?_
  refine q_putR (c := 11) (n := 0) (k := 77) dX11_init_477 rfl (by decide) (by decide) fX11_179 rfl rfl rfl (Or.inr ⟨_, rfl⟩) ?_
  show q_K _ (q_z (q_up (q_up zI2 139 5 (-1)) 139 49 (-1)) zJ1 (q_up (q_up (q_up (q_up (q_up (q_up (q_up (q_up (q_up (q_up (q_up (q_up (q_up (q_up (q_up (q_up (q_up (q_up (q_up (q_up (q_up (q_up (q_up (q_up (q_up (q_up (q_up (q_up (q_up (q_up (q_up (q_up (q_up (q_up (q_up (q_up (q_up (q_up (q_up (q_up (q_up (q_up (q_up (q_up (q_up (q_up (q_up (q_up (q_up (q_up (q_up (q_up (q_up (q_up zR30 139 0 (some 140)) 139 1 (some 141)) 139 11 (some 142)) 139 12 (some 143)) 139 13 (some 144)) 139 14 (some 145)) 139 15 (some 146)) 139 16 (some 147)) 139 17 (some 148)) 139 18 (some 149)) 139 19 (some 150)) 139 20 (some 151)) 139 21 (some 152)) 139 22 (some 153)) 139 23 (some 154)) 139 24 (some 155)) 139 25 (some 156)) 139 26 (some 157)) 139 27 (some 158)) 139 30 (some 159)) 139 31 (some 160)) 139 33 (some 161)) 139 34 (some 162)) 139 35 (some 163)) 139 36 (some 164)) 139 37 (some 165)) 139 38 (some 166)) 139 39 (some 167)) 139 40 (some 168)) 139 41 (some 169)) 139 42 (some 170)) 139 43 (some 171)) 139 44 (some 172)) 139 45 (some 173)) 139 52 (some 174)) 139 53 (some 175)) 139 54 (some 176)) 139 55 (some 177)) 139 56 (some 178)) 139 57 (some 179)) 139 58 (some 180)) 139 59 (some 181)) 139 64 (some 182)) 139 65 (some 183)) 139 66 (some 184)) 139 67 (some 185)) 139 68 (some 186)) 139 69 (some 187)) 139 72 (some 188)) 139 73 (some 189)) 139 74 (some 190)) 139 75 (some 191)) 139 76 (some 192)) 139 77 (some 193)) 194) _ _ _ _ _ _
  refine q_aload_n dX11_init_480 rfl ?_
  refine q_si (v := 4100) dX11_init_481 rfl ?_
  refine q_mka (t := 20) (N := 4100) dX11_init_484 (Nat.le_of_ble_eq_true rfl) rfl (Or.inl ⟨rfl, rfl⟩) q_ar_int rfl rfl (fun _ => rfl) (fun _ => rfl) (fun _ => rfl) (kc' := 55) (ks' := 102194) rfl rfl ⟨rfl, rfl⟩ ?_
  refine q_putR (c := 11) (n := 0) (k := 78) dX11_init_486 rfl (by decide) (by decide) fX11_182 rfl rfl rfl (Or.inr ⟨_, rfl⟩) ?_
  show q_K _ (q_z (q_up (q_up zI2 139 5 (-1)) 139 49 (-1)) zJ1 (q_up (q_up (q_up (q_up (q_up (q_up (q_up (q_up (q_up (q_up (q_up (q_up (q_up (q_up (q_up (q_up (q_up (q_up (q_up (q_up (q_up (q_up (q_up (q_up (q_up (q_up (q_up (q_up (q_up (q_up (q_up (q_up (q_up (q_up (q_up (q_up (q_up (q_up (q_up (q_up (q_up (q_up (q_up (q_up (q_up (q_up (q_up (q_up (q_up (q_up (q_up (q_up (q_up (q_up (q_up zR30 139 0 (some 140)) 139 1 (some 141)) 139 11 (some 142)) 139 12 (some 143)) 139 13 (some 144)) 139 14 (some 145)) 139 15 (some 146)) 139 16 (some 147)) 139 17 (some 148)) 139 18 (some 149)) 139 19 (some 150)) 139 20 (some 151)) 139 21 (some 152)) 139 22 (some 153)) 139 23 (some 154)) 139 24 (some 155)) 139 25 (some 156)) 139 26 (some 157)) 139 27 (some 158)) 139 30 (some 159)) 139 31 (some 160)) 139 33 (some 161)) 139 34 (some 162)) 139 35 (some 163)) 139 36 (some 164)) 139 37 (some 165)) 139 38 (some 166)) 139 39 (some 167)) 139 40 (some 168)) 139 41 (some 169)) 139 42 (some 170)) 139 43 (some 171)) 139 44 (some 172)) 139 45 (some 173)) 139 52 (some 174)) 139 53 (some 175)) 139 54 (some 176)) 139 55 (some 177)) 139 56 (some 178)) 139 57 (some 179)) 139 58 (some 180)) 139 59 (some 181)) 139 64 (some 182)) 139 65 (some 183)) 139 66 (some 184)) 139 67 (some 185)) 139 68 (some 186)) 139 69 (some 187)) 139 72 (some 188)) 139 73 (some 189)) 139 74 (some 190)) 139 75 (some 191)) 139 76 (some 192)) 139 77 (some 193)) 139 78 (some 194)) 195) _ _ _ _ _ _
  refine q_aload_n dX11_init_489 rfl ?_
  refine q_si (v := 4100) dX11_init_490 rfl ?_
  refine q_mka (t := 20) (N := 4100) dX11_init_493 (Nat.le_of_ble_eq_true rfl) rfl (Or.inl ⟨rfl, rfl⟩) q_ar_int rfl rfl (fun _ => rfl) (fun _ => rfl) (fun _ => rfl) (kc' := 56) (ks' := 106294) rfl rfl ⟨rfl, rfl⟩ ?_
  refine q_putR (c := 11) (n := 0) (k := 79) dX11_init_495 rfl (by decide) (by decide) fX11_185 rfl rfl rfl (Or.inr ⟨_, rfl⟩) ?_
  show q_K _ (q_z (q_up (q_up zI2 139 5 (-1)) 139 49 (-1)) zJ1 (q_up (q_up (q_up (q_up (q_up (q_up (q_up (q_up (q_up (q_up (q_up (q_up (q_up (q_up (q_up (q_up (q_up (q_up (q_up (q_up (q_up (q_up (q_up (q_up (q_up (q_up (q_up (q_up (q_up (q_up (q_up (q_up (q_up (q_up (q_up (q_up (q_up (q_up (q_up (q_up (q_up (q_up (q_up (q_up (q_up (q_up (q_up (q_up (q_up (q_up (q_up (q_up (q_up (q_up (q_up (q_up zR30 139 0 (some 140)) 139 1 (some 141)) 139 11 (some 142)) 139 12 (some 143)) 139 13 (some 144)) 139 14 (some 145)) 139 15 (some 146)) 139 16 (some 147)) 139 17 (some 148)) 139 18 (some 149)) 139 19 (some 150)) 139 20 (some 151)) 139 21 (some 152)) 139 22 (some 153)) 139 23 (some 154)) 139 24 (some 155)) 139 25 (some 156)) 139 26 (some 157)) 139 27 (some 158)) 139 30 (some 159)) 139 31 (some 160)) 139 33 (some 161)) 139 34 (some 162)) 139 35 (some 163)) 139 36 (some 164)) 139 37 (some 165)) 139 38 (some 166)) 139 39 (some 167)) 139 40 (some 168)) 139 41 (some 169)) 139 42 (some 170)) 139 43 (some 171)) 139 44 (some 172)) 139 45 (some 173)) 139 52 (some 174)) 139 53 (some 175)) 139 54 (some 176)) 139 55 (some 177)) 139 56 (some 178)) 139 57 (some 179)) 139 58 (some 180)) 139 59 (some 181)) 139 64 (some 182)) 139 65 (some 183)) 139 66 (some 184)) 139 67 (some 185)) 139 68 (some 186)) 139 69 (some 187)) 139 72 (some 188)) 139 73 (some 189)) 139 74 (some 190)) 139 75 (some 191)) 139 76 (some 192)) 139 77 (some 193)) 139 78 (some 194)) 139 79 (some 195)) 196) _ _ _ _ _ _
  refine q_aload_n dX11_init_498 rfl ?_
  refine q_si (v := 4100) dX11_init_499 rfl ?_
  refine q_mka (t := 20) (N := 4100) dX11_init_502 (Nat.le_of_ble_eq_true rfl) rfl (Or.inl ⟨rfl, rfl⟩) q_ar_int rfl rfl (fun _ => rfl) (fun _ => rfl) (fun _ => rfl) (kc' := 57) (ks' := 110394) rfl rfl ⟨rfl, rfl⟩ ?_
  refine q_putR (c := 11) (n := 0) (k := 80) dX11_init_504 rfl (by decide) (by decide) fX11_188 rfl rfl rfl (Or.inr ⟨_, rfl⟩) ?_
  show q_K _ (q_z (q_up (q_up zI2 139 5 (-1)) 139 49 (-1)) zJ1 (q_up (q_up (q_up (q_up (q_up (q_up (q_up (q_up (q_up (q_up (q_up (q_up (q_up (q_up (q_up (q_up (q_up (q_up (q_up (q_up (q_up (q_up (q_up (q_up (q_up (q_up (q_up (q_up (q_up (q_up (q_up (q_up (q_up (q_up (q_up (q_up (q_up (q_up (q_up (q_up (q_up (q_up (q_up (q_up (q_up (q_up (q_up (q_up (q_up (q_up (q_up (q_up (q_up (q_up (q_up (q_up (q_up zR30 139 0 (some 140)) 139 1 (some 141)) 139 11 (some 142)) 139 12 (some 143)) 139 13 (some 144)) 139 14 (some 145)) 139 15 (some 146)) 139 16 (some 147)) 139 17 (some 148)) 139 18 (some 149)) 139 19 (some 150)) 139 20 (some 151)) 139 21 (some 152)) 139 22 (some 153)) 139 23 (some 154)) 139 24 (some 155)) 139 25 (some 156)) 139 26 (some 157)) 139 27 (some 158)) 139 30 (some 159)) 139 31 (some 160)) 139 33 (some 161)) 139 34 (some 162)) 139 35 (some 163)) 139 36 (some 164)) 139 37 (some 165)) 139 38 (some 166)) 139 39 (some 167)) 139 40 (some 168)) 139 41 (some 169)) 139 42 (some 170)) 139 43 (some 171)) 139 44 (some 172)) 139 45 (some 173)) 139 52 (some 174)) 139 53 (some 175)) 139 54 (some 176)) 139 55 (some 177)) 139 56 (some 178)) 139 57 (some 179)) 139 58 (some 180)) 139 59 (some 181)) 139 64 (some 182)) 139 65 (some 183)) 139 66 (some 184)) 139 67 (some 185)) 139 68 (some 186)) 139 69 (some 187)) 139 72 (some 188)) 139 73 (some 189)) 139 74 (some 190)) 139 75 (some 191)) 139 76 (some 192)) 139 77 (some 193)) 139 78 (some 194)) 139 79 (some 195)) 139 80 (some 196)) 197) _ _ _ _ _ _
  refine q_aload_n dX11_init_507 rfl ?_
  refine q_si (v := 4100) dX11_init_508 rfl ?_
  refine q_mka (t := 20) (N := 4100) dX11_init_511 (Nat.le_of_ble_eq_true rfl) rfl (Or.inl ⟨rfl, rfl⟩) q_ar_int rfl rfl (fun _ => rfl) (fun _ => rfl) (fun _ => rfl) (kc' := 58) (ks' := 114494) rfl rfl ⟨rfl, rfl⟩ ?_
  refine q_putR (c := 11) (n := 0) (k := 81) dX11_init_513 rfl (by decide) (by decide) fX11_191 rfl rfl rfl (Or.inr ⟨_, rfl⟩) ?_
  show q_K _ (q_z (q_up (q_up zI2 139 5 (-1)) 139 49 (-1)) zJ1 (q_up (q_up (q_up (q_up (q_up (q_up (q_up (q_up (q_up (q_up (q_up (q_up (q_up (q_up (q_up (q_up (q_up (q_up (q_up (q_up (q_up (q_up (q_up (q_up (q_up (q_up (q_up (q_up (q_up (q_up (q_up (q_up (q_up (q_up (q_up (q_up (q_up (q_up (q_up (q_up (q_up (q_up (q_up (q_up (q_up (q_up (q_up (q_up (q_up (q_up (q_up (q_up (q_up (q_up (q_up (q_up (q_up (q_up zR30 139 0 (some 140)) 139 1 (some 141)) 139 11 (some 142)) 139 12 (some 143)) 139 13 (some 144)) 139 14 (some 145)) 139 15 (some 146)) 139 16 (some 147)) 139 17 (some 148)) 139 18 (some 149)) 139 19 (some 150)) 139 20 (some 151)) 139 21 (some 152)) 139 22 (some 153)) 139 23 (some 154)) 139 24 (some 155)) 139 25 (some 156)) 139 26 (some 157)) 139 27 (some 158)) 139 30 (some 159)) 139 31 (some 160)) 139 33 (some 161)) 139 34 (some 162)) 139 35 (some 163)) 139 36 (some 164)) 139 37 (some 165)) 139 38 (some 166)) 139 39 (some 167)) 139 40 (some 168)) 139 41 (some 169)) 139 42 (some 170)) 139 43 (some 171)) 139 44 (some 172)) 139 45 (some 173)) 139 52 (some 174)) 139 53 (some 175)) 139 54 (some 176)) 139 55 (some 177)) 139 56 (some 178)) 139 57 (some 179)) 139 58 (some 180)) 139 59 (some 181)) 139 64 (some 182)) 139 65 (some 183)) 139 66 (some 184)) 139 67 (some 185)) 139 68 (some 186)) 139 69 (some 187)) 139 72 (some 188)) 139 73 (some 189)) 139 74 (some 190)) 139 75 (some 191)) 139 76 (some 192)) 139 77 (some 193)) 139 78 (some 194)) 139 79 (some 195)) 139 80 (some 196)) 139 81 (some 197)) 198) _ _ _ _ _ _
  refine q_aload_n dX11_init_516 rfl ?_
  refine q_si (v := 4100) dX11_init_517 rfl ?_
  refine q_mka (t := 20) (N := 4100) dX11_init_520 (Nat.le_of_ble_eq_true rfl) rfl (Or.inl ⟨rfl, rfl⟩) q_ar_int rfl rfl (fun _ => rfl) (fun _ => rfl) (fun _ => rfl) (kc' := 59) (ks' := 118594) rfl rfl ⟨rfl, rfl⟩ ?_
  refine q_putR (c := 11) (n := 0) (k := 82) dX11_init_522 rfl (by decide) (by decide) fX11_194 rfl rfl rfl (Or.inr ⟨_, rfl⟩) ?_
  show q_K _ (q_z (q_up (q_up zI2 139 5 (-1)) 139 49 (-1)) zJ1 (q_up (q_up (q_up (q_up (q_up (q_up (q_up (q_up (q_up (q_up (q_up (q_up (q_up (q_up (q_up (q_up (q_up (q_up (q_up (q_up (q_up (q_up (q_up (q_up (q_up (q_up (q_up (q_up (q_up (q_up (q_up (q_up (q_up (q_up (q_up (q_up (q_up (q_up (q_up (q_up (q_up (q_up (q_up (q_up (q_up (q_up (q_up (q_up (q_up (q_up (q_up (q_up (q_up (q_up (q_up (q_up (q_up (q_up (q_up zR30 139 0 (some 140)) 139 1 (some 141)) 139 11 (some 142)) 139 12 (some 143)) 139 13 (some 144)) 139 14 (some 145)) 139 15 (some 146)) 139 16 (some 147)) 139 17 (some 148)) 139 18 (some 149)) 139 19 (some 150)) 139 20 (some 151)) 139 21 (some 152)) 139 22 (some 153)) 139 23 (some 154)) 139 24 (some 155)) 139 25 (some 156)) 139 26 (some 157)) 139 27 (some 158)) 139 30 (some 159)) 139 31 (some 160)) 139 33 (some 161)) 139 34 (some 162)) 139 35 (some 163)) 139 36 (some 164)) 139 37 (some 165)) 139 38 (some 166)) 139 39 (some 167)) 139 40 (some 168)) 139 41 (some 169)) 139 42 (some 170)) 139 43 (some 171)) 139 44 (some 172)) 139 45 (some 173)) 139 52 (some 174)) 139 53 (some 175)) 139 54 (some 176)) 139 55 (some 177)) 139 56 (some 178)) 139 57 (some 179)) 139 58 (some 180)) 139 59 (some 181)) 139 64 (some 182)) 139 65 (some 183)) 139 66 (some 184)) 139 67 (some 185)) 139 68 (some 186)) 139 69 (some 187)) 139 72 (some 188)) 139 73 (some 189)) 139 74 (some 190)) 139 75 (some 191)) 139 76 (some 192)) 139 77 (some 193)) 139 78 (some 194)) 139 79 (some 195)) 139 80 (some 196)) 139 81 (some 197)) 139 82 (some 198)) 199) _ _ _ _ _ _
  refine q_aload_n dX11_init_525 rfl ?_
  refine q_bi (v := 30) dX11_init_526 rfl ?_
  refine q_mka (t := 20) (N := 30) dX11_init_528 (Nat.le_of_ble_eq_true rfl) rfl (Or.inl ⟨rfl, rfl⟩) q_ar_int rfl rfl (fun _ => rfl) (fun _ => rfl) (fun _ => rfl) (kc' := 60) (ks' := 118624) rfl rfl ⟨rfl, rfl⟩ ?_
  refine q_putR (c := 11) (n := 0) (k := 89) dX11_init_530 rfl (by decide) (by decide) fX11_197 rfl rfl rfl (Or.inr ⟨_, rfl⟩) ?_
  show q_K _ (q_z (q_up (q_up zI2 139 5 (-1)) 139 49 (-1)) zJ1 (q_up (q_up (q_up (q_up (q_up (q_up (q_up (q_up (q_up (q_up (q_up (q_up (q_up (q_up (q_up (q_up (q_up (q_up (q_up (q_up (q_up (q_up (q_up (q_up (q_up (q_up (q_up (q_up (q_up (q_up (q_up (q_up (q_up (q_up (q_up (q_up (q_up (q_up (q_up (q_up (q_up (q_up (q_up (q_up (q_up (q_up (q_up (q_up (q_up (q_up (q_up (q_up (q_up (q_up (q_up (q_up (q_up (q_up (q_up (q_up zR30 139 0 (some 140)) 139 1 (some 141)) 139 11 (some 142)) 139 12 (some 143)) 139 13 (some 144)) 139 14 (some 145)) 139 15 (some 146)) 139 16 (some 147)) 139 17 (some 148)) 139 18 (some 149)) 139 19 (some 150)) 139 20 (some 151)) 139 21 (some 152)) 139 22 (some 153)) 139 23 (some 154)) 139 24 (some 155)) 139 25 (some 156)) 139 26 (some 157)) 139 27 (some 158)) 139 30 (some 159)) 139 31 (some 160)) 139 33 (some 161)) 139 34 (some 162)) 139 35 (some 163)) 139 36 (some 164)) 139 37 (some 165)) 139 38 (some 166)) 139 39 (some 167)) 139 40 (some 168)) 139 41 (some 169)) 139 42 (some 170)) 139 43 (some 171)) 139 44 (some 172)) 139 45 (some 173)) 139 52 (some 174)) 139 53 (some 175)) 139 54 (some 176)) 139 55 (some 177)) 139 56 (some 178)) 139 57 (some 179)) 139 58 (some 180)) 139 59 (some 181)) 139 64 (some 182)) 139 65 (some 183)) 139 66 (some 184)) 139 67 (some 185)) 139 68 (some 186)) 139 69 (some 187)) 139 72 (some 188)) 139 73 (some 189)) 139 74 (some 190)) 139 75 (some 191)) 139 76 (some 192)) 139 77 (some 193)) 139 78 (some 194)) 139 79 (some 195)) 139 80 (some 196)) 139 81 (some 197)) 139 82 (some 198)) 139 89 (some 199)) 200) _ _ _ _ _ _
  refine q_aload_n dX11_init_533 rfl ?_
  refine q_bi (v := 30) dX11_init_534 rfl ?_
  refine q_mka (t := 20) (N := 30) dX11_init_536 (Nat.le_of_ble_eq_true rfl) rfl (Or.inl ⟨rfl, rfl⟩) q_ar_int rfl rfl (fun _ => rfl) (fun _ => rfl) (fun _ => rfl) (kc' := 61) (ks' := 118654) rfl rfl ⟨rfl, rfl⟩ ?_
  refine q_putR (c := 11) (n := 0) (k := 90) dX11_init_538 rfl (by decide) (by decide) fX11_200 rfl rfl rfl (Or.inr ⟨_, rfl⟩) ?_
  show q_K _ (q_z (q_up (q_up zI2 139 5 (-1)) 139 49 (-1)) zJ1 (q_up (q_up (q_up (q_up (q_up (q_up (q_up (q_up (q_up (q_up (q_up (q_up (q_up (q_up (q_up (q_up (q_up (q_up (q_up (q_up (q_up (q_up (q_up (q_up (q_up (q_up (q_up (q_up (q_up (q_up (q_up (q_up (q_up (q_up (q_up (q_up (q_up (q_up (q_up (q_up (q_up (q_up (q_up (q_up (q_up (q_up (q_up (q_up (q_up (q_up (q_up (q_up (q_up (q_up (q_up (q_up (q_up (q_up (q_up (q_up (q_up zR30 139 0 (some 140)) 139 1 (some 141)) 139 11 (some 142)) 139 12 (some 143)) 139 13 (some 144)) 139 14 (some 145)) 139 15 (some 146)) 139 16 (some 147)) 139 17 (some 148)) 139 18 (some 149)) 139 19 (some 150)) 139 20 (some 151)) 139 21 (some 152)) 139 22 (some 153)) 139 23 (some 154)) 139 24 (some 155)) 139 25 (some 156)) 139 26 (some 157)) 139 27 (some 158)) 139 30 (some 159)) 139 31 (some 160)) 139 33 (some 161)) 139 34 (some 162)) 139 35 (some 163)) 139 36 (some 164)) 139 37 (some 165)) 139 38 (some 166)) 139 39 (some 167)) 139 40 (some 168)) 139 41 (some 169)) 139 42 (some 170)) 139 43 (some 171)) 139 44 (some 172)) 139 45 (some 173)) 139 52 (some 174)) 139 53 (some 175)) 139 54 (some 176)) 139 55 (some 177)) 139 56 (some 178)) 139 57 (some 179)) 139 58 (some 180)) 139 59 (some 181)) 139 64 (some 182)) 139 65 (some 183)) 139 66 (some 184)) 139 67 (some 185)) 139 68 (some 186)) 139 69 (some 187)) 139 72 (some 188)) 139 73 (some 189)) 139 74 (some 190)) 139 75 (some 191)) 139 76 (some 192)) 139 77 (some 193)) 139 78 (some 194)) 139 79 (some 195)) 139 80 (some 196)) 139 81 (some 197)) 139 82 (some 198)) 139 89 (some 199)) 139 90 (some 200)) 201) _ _ _ _ _ _
  refine q_aload_n dX11_init_541 rfl ?_
  refine q_bi (v := 30) dX11_init_542 rfl ?_
  refine q_mka (t := 20) (N := 30) dX11_init_544 (Nat.le_of_ble_eq_true rfl) rfl (Or.inl ⟨rfl, rfl⟩) q_ar_int rfl rfl (fun _ => rfl) (fun _ => rfl) (fun _ => rfl) (kc' := 62) (ks' := 118684) rfl rfl ⟨rfl, rfl⟩ ?_
  refine q_putR (c := 11) (n := 0) (k := 91) dX11_init_546 rfl (by decide) (by decide) fX11_203 rfl rfl rfl (Or.inr ⟨_, rfl⟩) ?_
  show q_K _ (q_z (q_up (q_up zI2 139 5 (-1)) 139 49 (-1)) zJ1 (q_up (q_up (q_up (q_up (q_up (q_up (q_up (q_up (q_up (q_up (q_up (q_up (q_up (q_up (q_up (q_up (q_up (q_up (q_up (q_up (q_up (q_up (q_up (q_up (q_up (q_up (q_up (q_up (q_up (q_up (q_up (q_up (q_up (q_up (q_up (q_up (q_up (q_up (q_up (q_up (q_up (q_up (q_up (q_up (q_up (q_up (q_up (q_up (q_up (q_up (q_up (q_up (q_up (q_up (q_up (q_up (q_up (q_up (q_up (q_up (q_up (q_up zR30 139 0 (some 140)) 139 1 (some 141)) 139 11 (some 142)) 139 12 (some 143)) 139 13 (some 144)) 139 14 (some 145)) 139 15 (some 146)) 139 16 (some 147)) 139 17 (some 148)) 139 18 (some 149)) 139 19 (some 150)) 139 20 (some 151)) 139 21 (some 152)) 139 22 (some 153)) 139 23 (some 154)) 139 24 (some 155)) 139 25 (some 156)) 139 26 (some 157)) 139 27 (some 158)) 139 30 (some 159)) 139 31 (some 160)) 139 33 (some 161)) 139 34 (some 162)) 139 35 (some 163)) 139 36 (some 164)) 139 37 (some 165)) 139 38 (some 166)) 139 39 (some 167)) 139 40 (some 168)) 139 41 (some 169)) 139 42 (some 170)) 139 43 (some 171)) 139 44 (some 172)) 139 45 (some 173)) 139 52 (some 174)) 139 53 (some 175)) 139 54 (some 176)) 139 55 (some 177)) 139 56 (some 178)) 139 57 (some 179)) 139 58 (some 180)) 139 59 (some 181)) 139 64 (some 182)) 139 65 (some 183)) 139 66 (some 184)) 139 67 (some 185)) 139 68 (some 186)) 139 69 (some 187)) 139 72 (some 188)) 139 73 (some 189)) 139 74 (some 190)) 139 75 (some 191)) 139 76 (some 192)) 139 77 (some 193)) 139 78 (some 194)) 139 79 (some 195)) 139 80 (some 196)) 139 81 (some 197)) 139 82 (some 198)) 139 89 (some 199)) 139 90 (some 200)) 139 91 (some 201)) 202) _ _ _ _ _ _
  refine q_aload_n dX11_init_549 rfl ?_
  refine q_bi (v := 120) dX11_init_550 rfl ?_
  refine q_mka (t := 20) (N := 120) dX11_init_552 (Nat.le_of_ble_eq_true rfl) rfl (Or.inl ⟨rfl, rfl⟩) q_ar_int rfl rfl (fun _ => rfl) (fun _ => rfl) (fun _ => rfl) (kc' := 63) (ks' := 118804) rfl rfl ⟨rfl, rfl⟩ ?_
  refine q_putR (c := 11) (n := 0) (k := 96) dX11_init_554 rfl (by decide) (by decide) fX11_206 rfl rfl rfl (Or.inr ⟨_, rfl⟩) ?_
  show q_K _ (q_z (q_up (q_up zI2 139 5 (-1)) 139 49 (-1)) zJ1 (q_up (q_up (q_up (q_up (q_up (q_up (q_up (q_up (q_up (q_up (q_up (q_up (q_up (q_up (q_up (q_up (q_up (q_up (q_up (q_up (q_up (q_up (q_up (q_up (q_up (q_up (q_up (q_up (q_up (q_up (q_up (q_up (q_up (q_up (q_up (q_up (q_up (q_up (q_up (q_up (q_up (q_up (q_up (q_up (q_up (q_up (q_up (q_up (q_up (q_up (q_up (q_up (q_up (q_up (q_up (q_up (q_up (q_up (q_up (q_up (q_up (q_up (q_up zR30 139 0 (some 140)) 139 1 (some 141)) 139 11 (some 142)) 139 12 (some 143)) 139 13 (some 144)) 139 14 (some 145)) 139 15 (some 146)) 139 16 (some 147)) 139 17 (some 148)) 139 18 (some 149)) 139 19 (some 150)) 139 20 (some 151)) 139 21 (some 152)) 139 22 (some 153)) 139 23 (some 154)) 139 24 (some 155)) 139 25 (some 156)) 139 26 (some 157)) 139 27 (some 158)) 139 30 (some 159)) 139 31 (some 160)) 139 33 (some 161)) 139 34 (some 162)) 139 35 (some 163)) 139 36 (some 164)) 139 37 (some 165)) 139 38 (some 166)) 139 39 (some 167)) 139 40 (some 168)) 139 41 (some 169)) 139 42 (some 170)) 139 43 (some 171)) 139 44 (some 172)) 139 45 (some 173)) 139 52 (some 174)) 139 53 (some 175)) 139 54 (some 176)) 139 55 (some 177)) 139 56 (some 178)) 139 57 (some 179)) 139 58 (some 180)) 139 59 (some 181)) 139 64 (some 182)) 139 65 (some 183)) 139 66 (some 184)) 139 67 (some 185)) 139 68 (some 186)) 139 69 (some 187)) 139 72 (some 188)) 139 73 (some 189)) 139 74 (some 190)) 139 75 (some 191)) 139 76 (some 192)) 139 77 (some 193)) 139 78 (some 194)) 139 79 (some 195)) 139 80 (some 196)) 139 81 (some 197)) 139 82 (some 198)) 139 89 (some 199)) 139 90 (some 200)) 139 91 (some 201)) 139 96 (some 202)) 203) _ _ _ _ _ _
  refine q_aload_n dX11_init_557 rfl ?_
  refine q_ic (v := 3) dX11_init_558 rfl ?_
  refine q_mka (t := 23) (N := 3) dX11_init_559 (Nat.le_of_ble_eq_true rfl) rfl (Or.inr (Or.inr (Or.inr ⟨rfl, rfl⟩))) q_ar_boolean rfl rfl (fun _ => rfl) (fun _ => rfl) (fun _ => rfl) (kc' := 64) (ks' := 118807) rfl rfl ⟨rfl, rfl⟩ ?_
  refine q_putR (c := 11) (n := 0) (k := 97) dX11_init_561 rfl (by decide) (by decide) fX11_209 rfl rfl rfl (Or.inr ⟨_, rfl⟩) ?_
  show q_K _ (q_z (q_up (q_up zI2 139 5 (-1)) 139 49 (-1)) zJ1 (q_up (q_up (q_up (q_up (q_up (q_up (q_up (q_up (q_up (q_up (q_up (q_up (q_up (q_up (q_up (q_up (q_up (q_up (q_up (q_up (q_up (q_up (q_up (q_up (q_up (q_up (q_up (q_up (q_up (q_up (q_up (q_up (q_up (q_up (q_up (q_up (q_up (q_up (q_up (q_up (q_up (q_up (q_up (q_up (q_up (q_up (q_up (q_up (q_up (q_up (q_up (q_up (q_up (q_up (q_up (q_up (q_up (q_up (q_up (q_up (q_up (q_up (q_up (q_up zR30 139 0 (some 140)) 139 1 (some 141)) 139 11 (some 142)) 139 12 (some 143)) 139 13 (some 144)) 139 14 (some 145)) 139 15 (some 146)) 139 16 (some 147)) 139 17 (some 148)) 139 18 (some 149)) 139 19 (some 150)) 139 20 (some 151)) 139 21 (some 152)) 139 22 (some 153)) 139 23 (some 154)) 139 24 (some 155)) 139 25 (some 156)) 139 26 (some 157)) 139 27 (some 158)) 139 30 (some 159)) 139 31 (some 160)) 139 33 (some 161)) 139 34 (some 162)) 139 35 (some 163)) 139 36 (some 164)) 139 37 (some 165)) 139 38 (some 166)) 139 39 (some 167)) 139 40 (some 168)) 139 41 (some 169)) 139 42 (some 170)) 139 43 (some 171)) 139 44 (some 172)) 139 45 (some 173)) 139 52 (some 174)) 139 53 (some 175)) 139 54 (some 176)) 139 55 (some 177)) 139 56 (some 178)) 139 57 (some 179)) 139 58 (some 180)) 139 59 (some 181)) 139 64 (some 182)) 139 65 (some 183)) 139 66 (some 184)) 139 67 (some 185)) 139 68 (some 186)) 139 69 (some 187)) 139 72 (some 188)) 139 73 (some 189)) 139 74 (some 190)) 139 75 (some 191)) 139 76 (some 192)) 139 77 (some 193)) 139 78 (some 194)) 139 79 (some 195)) 139 80 (some 196)) 139 81 (some 197)) 139 82 (some 198)) 139 89 (some 199)) 139 90 (some 200)) 139 91 (some 201)) 139 96 (some 202)) 139 97 (some 203)) 204) _ _ _ _ _ _
  refine q_aload_n dX11_init_564 rfl ?_
  refine q_ic (v := 0) dX11_init_565 rfl ?_
  show q_K _ (q_z zI3 zJ1 zR31 204) _ _ _ _ _ _
  refine q_callV1 (ci := 11) (n := 0) (M2 := mX11_clearBank) dX11_init_566 DX11_clearBank lX11_212 rfl (by decide) rfl (q_fitb rfl) (q_r8 rfl) ⟨Nat.le_of_ble_eq_true rfl, Nat.le_of_ble_eq_true rfl⟩ yX11_clearBank_139c ?_
  rintro _ _ ⟨rfl, rfl⟩
  refine q_kc (kc' := 64) (ks' := 118807) rfl rfl ?_
  refine q_aload_n dX11_init_569 rfl ?_
  show q_K _ (q_z zI4 zJ1 zR31 204) _ _ _ _ _ _
  refine q_callV0 (ci := 11) (n := 0) (M2 := mX11_begin) dX11_init_570 DX11_begin lX11_216 rfl (by decide) rfl (q_fitb rfl) (q_r8 rfl) ⟨Nat.le_of_ble_eq_true rfl, Nat.le_of_ble_eq_true rfl⟩ yX11_begin_139c ?_
  rintro _ _ ⟨rfl, rfl⟩
  refine q_kc (kc' := 64) (ks' := 118807) rfl rfl ?_
  refine q_ic (v := 0) dX11_init_573 rfl ?_
  refine q_istore_n dX11_init_574 (Nat.le_of_ble_eq_true rfl) ?_
  refine q_iload_n dX11_init_575 rfl ?_
  refine q_ic (v := 3) dX11_init_576 rfl ?_
  refine q_cz_ge (tgt := 593) (a := 0) (b := 3) dX11_init_577 (by decide) rfl rfl (fun h => absurd h (by decide)) (fun _ => ?_)
  refine q_aload_n dX11_init_580 rfl ?_
  refine q_getR (c := 11) (n := 0) (k := 97) (a := 203) dX11_init_581 rfl (by decide) (by decide) fX11_209 rfl rfl ?_
  refine q_iload_n dX11_init_584 rfl ?_
  refine q_ic (v := 0) dX11_init_585 rfl ?_
  refine q_zast (n := 3) (j := 0) dX11_init_586 rfl rfl (by decide) (Or.inl rfl) ?_
  show q_K _ (q_z (q_up zI5 203 0 0) zJ1 zR31 204) _ _ _ _ _ _
  refine q_inc (v := 1) dX11_init_587 rfl (Nat.le_of_ble_eq_true rfl) rfl ?_
  refine q_goto (tgt := 575) dX11_init_590 (by decide) ?_
  refine q_iload_n dX11_init_575 rfl ?_
  refine q_ic (v := 3) dX11_init_576 rfl ?_
  refine q_cz_ge (tgt := 593) (a := 1) (b := 3) dX11_init_577 (by decide) rfl rfl (fun h => absurd h (by decide)) (fun _ => ?_)
  refine q_aload_n dX11_init_580 rfl ?_
  refine q_getR (c := 11) (n := 0) (k := 97) (a := 203) dX11_init_581 rfl (by decide) (by decide) fX11_209 rfl rfl ?_
  refine q_iload_n dX11_init_584 rfl ?_
  refine q_ic (v := 0) dX11_init_585 rfl ?_
  refine q_zast (n := 3) (j := 1) dX11_init_586 rfl rfl (by decide) (Or.inl rfl) ?_
  show q_K _ (q_z (q_up (q_up zI5 203 0 0) 203 1 0) zJ1 zR31 204) _ _ _ _ _ _
  refine q_inc (v := 1) dX11_init_587 rfl (Nat.le_of_ble_eq_true rfl) rfl ?_
  refine q_goto (tgt := 575) dX11_init_590 (by decide) ?_
  refine q_iload_n dX11_init_575 rfl ?_
  refine q_ic (v := 3) dX11_init_576 rfl ?_
  refine q_cz_ge (tgt := 593) (a := 2) (b := 3) dX11_init_577 (by decide) rfl rfl (fun h => absurd h (by decide)) (fun _ => ?_)
  refine q_aload_n dX11_init_580 rfl ?_
  refine q_getR (c := 11) (n := 0) (k := 97) (a := 203) dX11_init_581 rfl (by decide) (by decide) fX11_209 rfl rfl ?_
  refine q_iload_n dX11_init_584 rfl ?_
  refine q_ic (v := 0) dX11_init_585 rfl ?_
  refine q_zast (n := 3) (j := 2) dX11_init_586 rfl rfl (by decide) (Or.inl rfl) ?_
  show q_K _ (q_z (q_up (q_up (q_up zI5 203 0 0) 203 1 0) 203 2 0) zJ1 zR31 204) _ _ _ _ _ _
  refine q_inc (v := 1) dX11_init_587 rfl (Nat.le_of_ble_eq_true rfl) rfl ?_
  refine q_goto (tgt := 575) dX11_init_590 (by decide) ?_
  refine q_iload_n dX11_init_575 rfl ?_
  refine q_ic (v := 3) dX11_init_576 rfl ?_
  refine q_cz_ge (tgt := 593) (a := 3) (b := 3) dX11_init_577 (by decide) rfl rfl (fun _ => ?_) (fun h => absurd h (by decide))
  exact q_endv dX11_init_593 rfl ⟨rfl, rfl⟩ ⟨rfl, rfl⟩
-- the fresh state: q_z zI6 zJ1 zR31 204
