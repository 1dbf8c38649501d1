/-! THE JDK's OWN METHODS of the text (String.length, charAt ..): records, decode rows, contracts. By program (wip/whole/gen_jdk.py). -/
def mJ0_coder_7d493 : q_M := ((yJ0_coder_7d493, cJ0_coder_7d493, 1, some .byte), (0, 0, 0, 0))
theorem DJ0_coder_7d493 : q_D mJ0_coder_7d493 0 := ⟨(q_m1 6 rfl rfl), (q_m1 209 rfl rfl), ⟨by decide +kernel, by decide +kernel⟩, by decide +kernel⟩
theorem EJ0_coder_7d493 : Cond.instanceMethod mJ0_coder_7d493.1.1 ∈ q_gt := (q_m1 207 rfl rfl)
theorem SJ0_coder_7d493 : Cond.selects mJ0_coder_7d493.1.1.cls mJ0_coder_7d493.1.1 mJ0_coder_7d493.1.1 ∈ q_gt := (q_m1 208 rfl rfl)
theorem dJ0_coder_7d493_0 : decode cJ0_coder_7d493 0 = .ok (.getstatic 38, 3) := by decide +kernel
theorem dJ0_coder_7d493_3 : decode cJ0_coder_7d493 3 = .ok (.ifCond .eq 10, 3) := by decide +kernel
theorem dJ0_coder_7d493_6 : decode cJ0_coder_7d493 6 = .ok (.aload_n 0, 1) := by decide +kernel
theorem dJ0_coder_7d493_7 : decode cJ0_coder_7d493 7 = .ok (.getfield 15, 3) := by decide +kernel
theorem dJ0_coder_7d493_10 : decode cJ0_coder_7d493 10 = .ok (.goto 4, 3) := by decide +kernel
theorem dJ0_coder_7d493_13 : decode cJ0_coder_7d493 13 = .ok (.iconst 1, 1) := by decide +kernel
theorem dJ0_coder_7d493_14 : decode cJ0_coder_7d493 14 = .ok (.ireturn, 1) := by decide +kernel
def mJ0_isLatin1_aae02 : q_M := ((yJ0_isLatin1_aae02, cJ0_isLatin1_aae02, 1, some .boolean), (0, 0, 0, 0))
theorem DJ0_isLatin1_aae02 : q_D mJ0_isLatin1_aae02 0 := ⟨(q_m1 6 rfl rfl), (q_m1 219 rfl rfl), ⟨by decide +kernel, by decide +kernel⟩, by decide +kernel⟩
theorem EJ0_isLatin1_aae02 : Cond.instanceMethod mJ0_isLatin1_aae02.1.1 ∈ q_gt := (q_m1 217 rfl rfl)
theorem SJ0_isLatin1_aae02 : Cond.selects mJ0_isLatin1_aae02.1.1.cls mJ0_isLatin1_aae02.1.1 mJ0_isLatin1_aae02.1.1 ∈ q_gt := (q_m1 218 rfl rfl)
theorem dJ0_isLatin1_aae02_0 : decode cJ0_isLatin1_aae02 0 = .ok (.getstatic 38, 3) := by decide +kernel
theorem dJ0_isLatin1_aae02_3 : decode cJ0_isLatin1_aae02 3 = .ok (.ifCond .eq 14, 3) := by decide +kernel
theorem dJ0_isLatin1_aae02_6 : decode cJ0_isLatin1_aae02 6 = .ok (.aload_n 0, 1) := by decide +kernel
theorem dJ0_isLatin1_aae02_7 : decode cJ0_isLatin1_aae02 7 = .ok (.getfield 15, 3) := by decide +kernel
theorem dJ0_isLatin1_aae02_10 : decode cJ0_isLatin1_aae02 10 = .ok (.ifCond .ne 7, 3) := by decide +kernel
theorem dJ0_isLatin1_aae02_13 : decode cJ0_isLatin1_aae02 13 = .ok (.iconst 1, 1) := by decide +kernel
theorem dJ0_isLatin1_aae02_14 : decode cJ0_isLatin1_aae02 14 = .ok (.goto 4, 3) := by decide +kernel
theorem dJ0_isLatin1_aae02_17 : decode cJ0_isLatin1_aae02 17 = .ok (.iconst 0, 1) := by decide +kernel
theorem dJ0_isLatin1_aae02_18 : decode cJ0_isLatin1_aae02 18 = .ok (.ireturn, 1) := by decide +kernel
def mJ0_length_8abf5 : q_M := ((yJ0_length_8abf5, cJ0_length_8abf5, 1, some .int), (1, 20, 0, 0))
theorem DJ0_length_8abf5 : q_D mJ0_length_8abf5 0 := ⟨(q_m1 6 rfl rfl), (q_m1 205 rfl rfl), ⟨by decide +kernel, by decide +kernel⟩, by decide +kernel⟩
theorem EJ0_length_8abf5 : Cond.instanceMethod mJ0_length_8abf5.1.1 ∈ q_gt := (q_m1 203 rfl rfl)
theorem SJ0_length_8abf5 : Cond.selects mJ0_length_8abf5.1.1.cls mJ0_length_8abf5.1.1 mJ0_length_8abf5.1.1 ∈ q_gt := (q_m1 204 rfl rfl)
theorem dJ0_length_8abf5_0 : decode cJ0_length_8abf5 0 = .ok (.aload_n 0, 1) := by decide +kernel
theorem dJ0_length_8abf5_1 : decode cJ0_length_8abf5 1 = .ok (.getfield 9, 3) := by decide +kernel
theorem dJ0_length_8abf5_4 : decode cJ0_length_8abf5 4 = .ok (.arraylength, 1) := by decide +kernel
theorem dJ0_length_8abf5_5 : decode cJ0_length_8abf5 5 = .ok (.aload_n 0, 1) := by decide +kernel
theorem dJ0_length_8abf5_6 : decode cJ0_length_8abf5 6 = .ok (.invokevirtual 335, 3) := by decide +kernel
theorem dJ0_length_8abf5_9 : decode cJ0_length_8abf5 9 = .ok (.ishr, 1) := by decide +kernel
theorem dJ0_length_8abf5_10 : decode cJ0_length_8abf5 10 = .ok (.ireturn, 1) := by decide +kernel
def mJ3_checkIndex_8e157 : q_M := ((yJ3_checkIndex_8e157, cJ3_checkIndex_8e157, 3, some .int), (0, 0, 0, 0))
theorem DJ3_checkIndex_8e157 : q_DS mJ3_checkIndex_8e157 3 := ⟨⟨(q_m1 8 rfl rfl), (q_m1 230 rfl rfl), ⟨by decide +kernel, by decide +kernel⟩, by decide +kernel⟩, (q_m1 229 rfl rfl)⟩
theorem dJ3_checkIndex_8e157_0 : decode cJ3_checkIndex_8e157 0 = .ok (.iload_n 0, 1) := by decide +kernel
theorem dJ3_checkIndex_8e157_1 : decode cJ3_checkIndex_8e157 1 = .ok (.ifCond .lt 8, 3) := by decide +kernel
theorem dJ3_checkIndex_8e157_4 : decode cJ3_checkIndex_8e157 4 = .ok (.iload_n 0, 1) := by decide +kernel
theorem dJ3_checkIndex_8e157_5 : decode cJ3_checkIndex_8e157 5 = .ok (.iload_n 1, 1) := by decide +kernel
theorem dJ3_checkIndex_8e157_6 : decode cJ3_checkIndex_8e157 6 = .ok (.if_icmp .lt 10, 3) := by decide +kernel
theorem dJ3_checkIndex_8e157_9 : decode cJ3_checkIndex_8e157 9 = .ok (.aload_n 2, 1) := by decide +kernel
theorem dJ3_checkIndex_8e157_10 : decode cJ3_checkIndex_8e157 10 = .ok (.iload_n 0, 1) := by decide +kernel
theorem dJ3_checkIndex_8e157_11 : decode cJ3_checkIndex_8e157 11 = .ok (.iload_n 1, 1) := by decide +kernel
theorem dJ3_checkIndex_8e157_12 : decode cJ3_checkIndex_8e157 12 = .ok (.invokestatic 95, 3) := by decide +kernel
theorem dJ3_checkIndex_8e157_15 : decode cJ3_checkIndex_8e157 15 = .ok (.athrow, 1) := by decide +kernel
theorem dJ3_checkIndex_8e157_16 : decode cJ3_checkIndex_8e157 16 = .ok (.iload_n 0, 1) := by decide +kernel
theorem dJ3_checkIndex_8e157_17 : decode cJ3_checkIndex_8e157 17 = .ok (.ireturn, 1) := by decide +kernel
def mJ0_checkIndex_df160 : q_M := ((yJ0_checkIndex_df160, cJ0_checkIndex_df160, 2, none), (1, 22, 0, 0))
theorem DJ0_checkIndex_df160 : q_DS mJ0_checkIndex_df160 2 := ⟨⟨(q_m1 6 rfl rfl), (q_m1 225 rfl rfl), ⟨by decide +kernel, by decide +kernel⟩, by decide +kernel⟩, (q_m1 224 rfl rfl)⟩
theorem dJ0_checkIndex_df160_0 : decode cJ0_checkIndex_df160 0 = .ok (.iload_n 0, 1) := by decide +kernel
theorem dJ0_checkIndex_df160_1 : decode cJ0_checkIndex_df160 1 = .ok (.iload_n 1, 1) := by decide +kernel
theorem dJ0_checkIndex_df160_2 : decode cJ0_checkIndex_df160 2 = .ok (.getstatic 1053, 3) := by decide +kernel
theorem dJ0_checkIndex_df160_5 : decode cJ0_checkIndex_df160 5 = .ok (.invokestatic 1059, 3) := by decide +kernel
theorem dJ0_checkIndex_df160_8 : decode cJ0_checkIndex_df160 8 = .ok (.pop, 1) := by decide +kernel
theorem dJ0_checkIndex_df160_9 : decode cJ0_checkIndex_df160 9 = .ok (.return_, 1) := by decide +kernel
def mJ1_charAt_3b067 : q_M := ((yJ1_charAt_3b067, cJ1_charAt_3b067, 2, some .char), (2, 43, 0, 0))
theorem DJ1_charAt_3b067 : q_DS mJ1_charAt_3b067 2 := ⟨⟨(q_m1 7 rfl rfl), (q_m1 222 rfl rfl), ⟨by decide +kernel, by decide +kernel⟩, by decide +kernel⟩, (q_m1 221 rfl rfl)⟩
theorem dJ1_charAt_3b067_0 : decode cJ1_charAt_3b067 0 = .ok (.iload_n 1, 1) := by decide +kernel
theorem dJ1_charAt_3b067_1 : decode cJ1_charAt_3b067 1 = .ok (.aload_n 0, 1) := by decide +kernel
theorem dJ1_charAt_3b067_2 : decode cJ1_charAt_3b067 2 = .ok (.arraylength, 1) := by decide +kernel
theorem dJ1_charAt_3b067_3 : decode cJ1_charAt_3b067 3 = .ok (.invokestatic 9, 3) := by decide +kernel
theorem dJ1_charAt_3b067_6 : decode cJ1_charAt_3b067 6 = .ok (.aload_n 0, 1) := by decide +kernel
theorem dJ1_charAt_3b067_7 : decode cJ1_charAt_3b067 7 = .ok (.iload_n 1, 1) := by decide +kernel
theorem dJ1_charAt_3b067_8 : decode cJ1_charAt_3b067 8 = .ok (.baload, 1) := by decide +kernel
theorem dJ1_charAt_3b067_9 : decode cJ1_charAt_3b067 9 = .ok (.sipush 255, 3) := by decide +kernel
theorem dJ1_charAt_3b067_12 : decode cJ1_charAt_3b067 12 = .ok (.iand, 1) := by decide +kernel
theorem dJ1_charAt_3b067_13 : decode cJ1_charAt_3b067 13 = .ok (.i2c, 1) := by decide +kernel
theorem dJ1_charAt_3b067_14 : decode cJ1_charAt_3b067 14 = .ok (.ireturn, 1) := by decide +kernel
def mJ0_charAt_5068e : q_M := ((yJ0_charAt_5068e, cJ0_charAt_5068e, 2, some .char), (4, 85, 0, 0))
theorem DJ0_charAt_5068e : q_D mJ0_charAt_5068e 1 := ⟨(q_m1 6 rfl rfl), (q_m1 215 rfl rfl), ⟨by decide +kernel, by decide +kernel⟩, by decide +kernel⟩
theorem EJ0_charAt_5068e : Cond.instanceMethod mJ0_charAt_5068e.1.1 ∈ q_gt := (q_m1 213 rfl rfl)
theorem SJ0_charAt_5068e : Cond.selects mJ0_charAt_5068e.1.1.cls mJ0_charAt_5068e.1.1 mJ0_charAt_5068e.1.1 ∈ q_gt := (q_m1 214 rfl rfl)
theorem dJ0_charAt_5068e_0 : decode cJ0_charAt_5068e 0 = .ok (.aload_n 0, 1) := by decide +kernel
theorem dJ0_charAt_5068e_1 : decode cJ0_charAt_5068e 1 = .ok (.invokevirtual 492, 3) := by decide +kernel
theorem dJ0_charAt_5068e_4 : decode cJ0_charAt_5068e 4 = .ok (.ifCond .eq 12, 3) := by decide +kernel
theorem dJ0_charAt_5068e_7 : decode cJ0_charAt_5068e 7 = .ok (.aload_n 0, 1) := by decide +kernel
theorem dJ0_charAt_5068e_8 : decode cJ0_charAt_5068e 8 = .ok (.getfield 9, 3) := by decide +kernel
theorem dJ0_charAt_5068e_11 : decode cJ0_charAt_5068e 11 = .ok (.iload_n 1, 1) := by decide +kernel
theorem dJ0_charAt_5068e_12 : decode cJ0_charAt_5068e 12 = .ok (.invokestatic 495, 3) := by decide +kernel
theorem dJ0_charAt_5068e_15 : decode cJ0_charAt_5068e 15 = .ok (.ireturn, 1) := by decide +kernel
theorem dJ0_charAt_5068e_16 : decode cJ0_charAt_5068e 16 = .ok (.aload_n 0, 1) := by decide +kernel
theorem dJ0_charAt_5068e_17 : decode cJ0_charAt_5068e 17 = .ok (.getfield 9, 3) := by decide +kernel
theorem dJ0_charAt_5068e_20 : decode cJ0_charAt_5068e 20 = .ok (.iload_n 1, 1) := by decide +kernel
theorem dJ0_charAt_5068e_21 : decode cJ0_charAt_5068e 21 = .ok (.invokestatic 498, 3) := by decide +kernel
theorem dJ0_charAt_5068e_24 : decode cJ0_charAt_5068e 24 = .ok (.ireturn, 1) := by decide +kernel
theorem c_coder (σ : q_S) : q_met mJ0_coder_7d493 σ [.ref 1003] (fun s r => s = σ ∧ r = some (.int 0)) := by
  refine q_enter (by decide) (Nat.le_of_ble_eq_true rfl) ?_
  refine q_scs dJ0_coder_7d493_0 rfl (q_m1 210 rfl rfl) ?_
  refine q_iz_eq (tgt := 13) (a := 1) dJ0_coder_7d493_3 (by decide) rfl (fun h => absurd h (by decide)) (fun _ => ?_)
  refine q_aload_n dJ0_coder_7d493_6 rfl ?_
  refine q_scod dJ0_coder_7d493_7 rfl (q_m9 109 rfl rfl) ?_
  refine q_goto (tgt := 14) dJ0_coder_7d493_10 (by decide) ?_
  exact q_nreturn dJ0_coder_7d493_14 rfl rfl ⟨Nat.zero_le _, Nat.zero_le _⟩ ⟨rfl, rfl⟩
theorem c_isLatin1 (σ : q_S) : q_met mJ0_isLatin1_aae02 σ [.ref 1003] (fun s r => s = σ ∧ r = some (.int 1)) := by
  refine q_enter (by decide) (Nat.le_of_ble_eq_true rfl) ?_
  refine q_scs dJ0_isLatin1_aae02_0 rfl (q_m1 210 rfl rfl) ?_
  refine q_iz_eq (tgt := 17) (a := 1) dJ0_isLatin1_aae02_3 (by decide) rfl (fun h => absurd h (by decide)) (fun _ => ?_)
  refine q_aload_n dJ0_isLatin1_aae02_6 rfl ?_
  refine q_scod dJ0_isLatin1_aae02_7 rfl (q_m9 109 rfl rfl) ?_
  refine q_iz_ne (tgt := 17) (a := 0) dJ0_isLatin1_aae02_10 (by decide) rfl (fun h => absurd rfl h) (fun _ => ?_)
  refine q_ic (v := 1) dJ0_isLatin1_aae02_13 rfl ?_
  refine q_goto (tgt := 18) dJ0_isLatin1_aae02_14 (by decide) ?_
  exact q_nreturn dJ0_isLatin1_aae02_18 rfl rfl ⟨Nat.zero_le _, Nat.zero_le _⟩ ⟨rfl, rfl⟩
theorem c_length (σ : q_S) : q_met mJ0_length_8abf5 σ [.ref 1003] (fun s r => s = σ ∧ r = some (.int 107)) := by
  refine q_enter (by decide) (Nat.le_of_ble_eq_true rfl) ?_
  refine q_aload_n dJ0_length_8abf5_0 rfl ?_
  refine q_sval dJ0_length_8abf5_1 rfl (q_m9 108 rfl rfl) ?_
  refine q_tblen dJ0_length_8abf5_4 ?_
  refine q_aload_n dJ0_length_8abf5_5 rfl ?_
  refine q_callT (M2 := mJ0_coder_7d493) (as := []) dJ0_length_8abf5_6 DJ0_coder_7d493 EJ0_coder_7d493 SJ0_coder_7d493 rfl (q_m1 206 rfl rfl) (q_fitb rfl) (q_r8 rfl) ⟨Nat.zero_le _, Nat.zero_le _⟩ (c_coder σ) ?_
  rintro _ _ ⟨rfl, rfl⟩
  refine q_ishr (x := 107) (y := 0) dJ0_length_8abf5_9 ?_
  exact q_ireturn dJ0_length_8abf5_10 rfl ⟨Nat.zero_le _, Nat.zero_le _⟩ ⟨rfl, rfl⟩
theorem c_pCheck (σ : q_S) (x y : Int32) (v : Value) (hv : v.category = 1) (h0 : 0 ≤ x.toInt) (h1 : x.toInt < y.toInt) : q_met mJ3_checkIndex_8e157 σ [.int x, .int y, v] (fun s r => s = σ ∧ r = some (.int x)) := by
  refine q_enter (by decide) (by show ([1, 1, if v.category = 2 then 2 else 1] : List Nat).sum ≤ 3; rw [hv]; exact Nat.le_of_ble_eq_true rfl) ?_
  refine q_iload_n dJ3_checkIndex_8e157_0 rfl ?_
  refine q_iz_lt (tgt := 9) dJ3_checkIndex_8e157_1 (by decide) rfl (fun h => absurd h (by omega)) (fun _ => ?_)
  refine q_iload_n dJ3_checkIndex_8e157_4 rfl ?_
  refine q_iload_n dJ3_checkIndex_8e157_5 rfl ?_
  refine q_cz_lt (tgt := 16) dJ3_checkIndex_8e157_6 (by decide) rfl rfl (fun _ => ?_) (fun h => absurd h1 h)
  refine q_iload_n dJ3_checkIndex_8e157_16 rfl ?_
  exact q_ireturn dJ3_checkIndex_8e157_17 rfl ⟨Nat.zero_le _, Nat.zero_le _⟩ ⟨rfl, rfl⟩
theorem c_sCheck (σ : q_S) (x y : Int32) (h0 : 0 ≤ x.toInt) (h1 : x.toInt < y.toInt) : q_met mJ0_checkIndex_df160 σ [.int x, .int y] (fun s r => s = σ ∧ r = none) := by
  refine q_enter (by decide) (Nat.le_of_ble_eq_true rfl) ?_
  refine q_iload_n dJ0_checkIndex_df160_0 rfl ?_
  refine q_iload_n dJ0_checkIndex_df160_1 rfl ?_
  refine q_sfm dJ0_checkIndex_df160_2 rfl (q_m1 226 rfl rfl) (fun v hv => ?_)
  refine q_callS3 (M2 := mJ3_checkIndex_8e157) dJ0_checkIndex_df160_5 DJ3_checkIndex_8e157 (q_m1 228 rfl rfl) (q_fitb rfl) (q_r8 rfl) ⟨Nat.zero_le _, Nat.zero_le _⟩ (c_pCheck σ x y v hv h0 h1) ?_
  rintro _ _ ⟨rfl, rfl⟩
  refine q_pop dJ0_checkIndex_df160_8 rfl ?_
  exact q_return dJ0_checkIndex_df160_9 rfl ⟨Nat.zero_le _, Nat.zero_le _⟩ ⟨rfl, rfl⟩
def q_ch (j : Nat) : Int32 := ((q_tbyt.getD j 0 &&& 255).toUInt32 % 65536).toInt32
theorem q_chn : ∀ j, j < 107 → narrow .char (.int (q_ch j)) = .int (q_ch j) := by decide +kernel
theorem c_lCharAt (σ : q_S) (x : Int32) (j : Nat) (hx : x.toInt = (j : Int)) (hj : j < 107) : q_met mJ1_charAt_3b067 σ [.ref 1004, .int x] (fun s r => s = σ ∧ r = some (.int (q_ch j))) := by
  refine q_enter (by decide) (Nat.le_of_ble_eq_true rfl) ?_
  refine q_iload_n dJ1_charAt_3b067_0 rfl ?_
  refine q_aload_n dJ1_charAt_3b067_1 rfl ?_
  refine q_tblen dJ1_charAt_3b067_2 ?_
  have h107 : (107 : Int32).toInt = 107 := rfl
  refine q_callS2 (M2 := mJ0_checkIndex_df160) dJ1_charAt_3b067_3 DJ0_checkIndex_df160 (q_m1 223 rfl rfl) (q_fitb rfl) (q_r8 rfl) ⟨Nat.zero_le _, Nat.zero_le _⟩ (c_sCheck σ x 107 (by omega) (by omega)) ?_
  rintro _ _ ⟨rfl, rfl⟩
  refine q_aload_n dJ1_charAt_3b067_6 rfl ?_
  refine q_iload_n dJ1_charAt_3b067_7 rfl ?_
  refine q_tbald dJ1_charAt_3b067_8 hx hj ?_
  refine q_si (v := 255) dJ1_charAt_3b067_9 rfl ?_
  refine q_iand dJ1_charAt_3b067_12 ?_
  refine q_i2c dJ1_charAt_3b067_13 ?_
  exact q_nreturn dJ1_charAt_3b067_14 rfl (q_chn j hj) ⟨Nat.zero_le _, Nat.zero_le _⟩ ⟨rfl, rfl⟩
theorem c_charAt (σ : q_S) (x : Int32) (j : Nat) (hx : x.toInt = (j : Int)) (hj : j < 107) : q_met mJ0_charAt_5068e σ [.ref 1003, .int x] (fun s r => s = σ ∧ r = some (.int (q_ch j))) := by
  refine q_enter (by decide) (Nat.le_of_ble_eq_true rfl) ?_
  refine q_aload_n dJ0_charAt_5068e_0 rfl ?_
  refine q_callT (M2 := mJ0_isLatin1_aae02) (as := []) dJ0_charAt_5068e_1 DJ0_isLatin1_aae02 EJ0_isLatin1_aae02 SJ0_isLatin1_aae02 rfl (q_m1 216 rfl rfl) (q_fitb rfl) (q_r8 rfl) ⟨Nat.zero_le _, Nat.zero_le _⟩ (c_isLatin1 σ) ?_
  rintro _ _ ⟨rfl, rfl⟩
  refine q_iz_eq (tgt := 16) (a := 1) dJ0_charAt_5068e_4 (by decide) rfl (fun h => absurd h (by decide)) (fun _ => ?_)
  refine q_aload_n dJ0_charAt_5068e_7 rfl ?_
  refine q_sval dJ0_charAt_5068e_8 rfl (q_m9 108 rfl rfl) ?_
  refine q_iload_n dJ0_charAt_5068e_11 rfl ?_
  refine q_callS2 (M2 := mJ1_charAt_3b067) dJ0_charAt_5068e_12 DJ1_charAt_3b067 (q_m1 220 rfl rfl) (q_fitb rfl) (q_r8 rfl) ⟨Nat.zero_le _, Nat.zero_le _⟩ (c_lCharAt _ x j hx hj) ?_
  rintro _ _ ⟨rfl, rfl⟩
  exact q_nreturn dJ0_charAt_5068e_15 rfl (q_chn j hj) ⟨Nat.zero_le _, Nat.zero_le _⟩ ⟨rfl, rfl⟩
theorem lX7_len : Cond.methodLink "WhyNot$Reader" 39 mJ0_length_8abf5.1.1 ∈ q_gt := (q_m1 202 rfl rfl)
theorem lX7_cha : Cond.methodLink "WhyNot$Reader" 45 mJ0_charAt_5068e.1.1 ∈ q_gt := (q_m1 212 rfl rfl)
